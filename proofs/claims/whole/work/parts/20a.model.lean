-- OrbitBoxModel.thrown()I
theorem d_Model_thrown_4 : ob_dc k_Model_thrown 4 (.ireturn) 1 5 := ⟨by decide +kernel, rfl⟩
theorem d_Model_thrown_1 : ob_dc k_Model_thrown 1 (.getfield 468) 3 4 := ⟨by decide +kernel, rfl⟩
theorem d_Model_thrown_0 : ob_dv ob_ac k_Model_thrown 0 1 0 (.aload_n 0) 1 := ⟨by decide +kernel, rfl, rfl⟩
def f_Model_thrown (S : ob_S) (v0 : Nat) (D : ob_D) : Option (Int32 × ob_D) :=
  some (D.1 v0 5, D)
theorem c_Model_thrown {l : Launch} {E : ob_E} {S : ob_S} {D : ob_D} {v0 : Nat} {r : Int32} {D' : ob_D} (hp_v0 : S.1 v0 = 13) (h : f_Model_thrown S v0 D = some (r, D')) : ob_M l E k_Model_thrown [.ref v0] S D (some (.int r)) S D' := by
  refine ob_ofV (lo := [(0, .ref v0)]) (by decide) rfl (Nat.le_of_ble_eq_true rfl) rfl (Nat.le_refl _) (Nat.le_refl _) ?_
  rw [f_Model_thrown] at h
  refine ob_aload d_Model_thrown_0 rfl ?_
  refine ob_getI d_Model_thrown_1 F_12_5 l_Model_468 hp_v0 ?_
  exact ob_ie h (ob_iret d_Model_thrown_4 rfl rfl)
-- OrbitBoxModel.feed(IIIII)Z
theorem d_Model_feed_1 : ob_dk k_Model_feed 1 2 (0 : Int32) (.iconst 0) 1 := ⟨by decide +kernel, rfl, show Int32.ofInt 0 = (0 : Int32) by decide +kernel⟩
theorem d_Model_feed_9 : ob_dk k_Model_feed 9 11 (20 : Int32) (.bipush 20) 2 := ⟨by decide +kernel, rfl, show (Int8.ofInt 20).toInt32 = (20 : Int32) by decide +kernel⟩
theorem d_Model_feed_12 : ob_dk k_Model_feed 12 15 (4096 : Int32) (.sipush 4096) 3 := ⟨by decide +kernel, rfl, show (Int16.ofInt 4096).toInt32 = (4096 : Int32) by decide +kernel⟩
theorem d_Model_feed_20 : ob_dk k_Model_feed 20 21 (0 : Int32) (.iconst 0) 1 := ⟨by decide +kernel, rfl, show Int32.ofInt 0 = (0 : Int32) by decide +kernel⟩
theorem d_Model_feed_25 : ob_dk k_Model_feed 25 27 (20 : Int32) (.bipush 20) 2 := ⟨by decide +kernel, rfl, show (Int8.ofInt 20).toInt32 = (20 : Int32) by decide +kernel⟩
theorem d_Model_feed_114 : ob_dk k_Model_feed 114 115 (1 : Int32) (.iconst 1) 1 := ⟨by decide +kernel, rfl, show Int32.ofInt 1 = (1 : Int32) by decide +kernel⟩
theorem d_Model_feed_115 : ob_dc k_Model_feed 115 (.ireturn) 1 116 := ⟨by decide +kernel, rfl⟩
theorem d_Model_feed_32 : ob_dk k_Model_feed 32 33 (4 : Int32) (.iconst 4) 1 := ⟨by decide +kernel, rfl, show Int32.ofInt 4 = (4 : Int32) by decide +kernel⟩
theorem d_Model_feed_42 : ob_dk k_Model_feed 42 44 (8 : Int32) (.bipush 8) 2 := ⟨by decide +kernel, rfl, show (Int8.ofInt 8).toInt32 = (8 : Int32) by decide +kernel⟩
theorem d_Model_feed_53 : ob_dk k_Model_feed 53 55 (12 : Int32) (.bipush 12) 2 := ⟨by decide +kernel, rfl, show (Int8.ofInt 12).toInt32 = (12 : Int32) by decide +kernel⟩
theorem d_Model_feed_64 : ob_dk k_Model_feed 64 66 (16 : Int32) (.bipush 16) 2 := ⟨by decide +kernel, rfl, show (Int8.ofInt 16).toInt32 = (16 : Int32) by decide +kernel⟩
theorem d_Model_feed_88 : ob_dk k_Model_feed 88 89 (1 : Int32) (.iconst 1) 1 := ⟨by decide +kernel, rfl, show Int32.ofInt 1 = (1 : Int32) by decide +kernel⟩
theorem d_Model_feed_95 : ob_dk k_Model_feed 95 97 (24 : Int32) (.bipush 24) 2 := ⟨by decide +kernel, rfl, show (Int8.ofInt 24).toInt32 = (24 : Int32) by decide +kernel⟩
theorem d_Model_feed_97 : ob_dk k_Model_feed 97 99 (8 : Int32) (.bipush 8) 2 := ⟨by decide +kernel, rfl, show (Int8.ofInt 8).toInt32 = (8 : Int32) by decide +kernel⟩
theorem d_Model_feed_101 : ob_dk k_Model_feed 101 102 (4 : Int32) (.iconst 4) 1 := ⟨by decide +kernel, rfl, show Int32.ofInt 4 = (4 : Int32) by decide +kernel⟩
theorem d_Model_feed_108 : ob_di k_Model_feed 108 111 6 1 (1 : Int32) := ⟨by decide +kernel, rfl, by decide +kernel, by decide +kernel⟩
theorem d_Model_feed_111 : ob_db k_Model_feed 111 (.goto (-88)) (-88) 114 23 := ⟨by decide +kernel, rfl, by decide⟩
theorem d_Model_feed_107 : ob_dc k_Model_feed 107 (.bastore) 1 108 := ⟨by decide +kernel, rfl⟩
theorem d_Model_feed_106 : ob_dc k_Model_feed 106 (.i2b) 1 107 := ⟨by decide +kernel, rfl⟩
theorem d_Model_feed_105 : ob_dc k_Model_feed 105 (.ishr) 1 106 := ⟨by decide +kernel, rfl⟩
theorem d_Model_feed_104 : ob_dc k_Model_feed 104 (.isub) 1 105 := ⟨by decide +kernel, rfl⟩
theorem d_Model_feed_103 : ob_dc k_Model_feed 103 (.imul) 1 104 := ⟨by decide +kernel, rfl⟩
theorem d_Model_feed_102 : ob_dc k_Model_feed 102 (.irem) 1 103 := ⟨by decide +kernel, rfl⟩
theorem d_Model_feed_99 : ob_dv ob_lc k_Model_feed 99 101 6 (.iload 6) 2 := ⟨by decide +kernel, rfl, rfl⟩
theorem d_Model_feed_93 : ob_dv ob_lc k_Model_feed 93 95 7 (.iload 7) 2 := ⟨by decide +kernel, rfl, rfl⟩
theorem d_Model_feed_90 : ob_dc k_Model_feed 90 (.putfield 471) 3 93 := ⟨by decide +kernel, rfl⟩
theorem d_Model_feed_89 : ob_dc k_Model_feed 89 (.iadd) 1 90 := ⟨by decide +kernel, rfl⟩
theorem d_Model_feed_87 : ob_dc k_Model_feed 87 (.dup_x1) 1 88 := ⟨by decide +kernel, rfl⟩
theorem d_Model_feed_84 : ob_dc k_Model_feed 84 (.getfield 471) 3 87 := ⟨by decide +kernel, rfl⟩
theorem d_Model_feed_83 : ob_dc k_Model_feed 83 (.dup) 1 84 := ⟨by decide +kernel, rfl⟩
theorem d_Model_feed_82 : ob_dv ob_ac k_Model_feed 82 83 0 (.aload_n 0) 1 := ⟨by decide +kernel, rfl, rfl⟩
theorem d_Model_feed_79 : ob_dc k_Model_feed 79 (.getfield 7) 3 82 := ⟨by decide +kernel, rfl⟩
theorem d_Model_feed_78 : ob_dv ob_ac k_Model_feed 78 79 0 (.aload_n 0) 1 := ⟨by decide +kernel, rfl, rfl⟩
theorem d_Model_feed_76 : ob_dv (ob_sc k_Model_feed.2.2.2.1) k_Model_feed 76 78 7 (.istore 7) 2 := ⟨by decide +kernel, rfl, ⟨rfl, by decide +kernel⟩⟩
theorem d_Model_feed_74 : ob_dv ob_lc k_Model_feed 74 76 5 (.iload 5) 2 := ⟨by decide +kernel, rfl, rfl⟩
theorem d_Model_feed_71 : ob_db k_Model_feed 71 (.goto 5) 5 74 76 := ⟨by decide +kernel, rfl, by decide⟩
theorem d_Model_feed_69 : ob_dv ob_lc k_Model_feed 69 71 4 (.iload 4) 2 := ⟨by decide +kernel, rfl, rfl⟩
theorem d_Model_feed_66 : ob_db k_Model_feed 66 (.if_icmp .ge 8) 8 69 74 := ⟨by decide +kernel, rfl, by decide⟩
theorem d_Model_feed_62 : ob_dv ob_lc k_Model_feed 62 64 6 (.iload 6) 2 := ⟨by decide +kernel, rfl, rfl⟩
theorem d_Model_feed_59 : ob_db k_Model_feed 59 (.goto 17) 17 62 76 := ⟨by decide +kernel, rfl, by decide⟩
theorem d_Model_feed_58 : ob_dv ob_lc k_Model_feed 58 59 3 (.iload_n 3) 1 := ⟨by decide +kernel, rfl, rfl⟩
theorem d_Model_feed_55 : ob_db k_Model_feed 55 (.if_icmp .ge 7) 7 58 62 := ⟨by decide +kernel, rfl, by decide⟩
theorem d_Model_feed_51 : ob_dv ob_lc k_Model_feed 51 53 6 (.iload 6) 2 := ⟨by decide +kernel, rfl, rfl⟩
theorem d_Model_feed_48 : ob_db k_Model_feed 48 (.goto 28) 28 51 76 := ⟨by decide +kernel, rfl, by decide⟩
theorem d_Model_feed_47 : ob_dv ob_lc k_Model_feed 47 48 2 (.iload_n 2) 1 := ⟨by decide +kernel, rfl, rfl⟩
theorem d_Model_feed_44 : ob_db k_Model_feed 44 (.if_icmp .ge 7) 7 47 51 := ⟨by decide +kernel, rfl, by decide⟩
theorem d_Model_feed_40 : ob_dv ob_lc k_Model_feed 40 42 6 (.iload 6) 2 := ⟨by decide +kernel, rfl, rfl⟩
theorem d_Model_feed_37 : ob_db k_Model_feed 37 (.goto 39) 39 40 76 := ⟨by decide +kernel, rfl, by decide⟩
theorem d_Model_feed_36 : ob_dv ob_lc k_Model_feed 36 37 1 (.iload_n 1) 1 := ⟨by decide +kernel, rfl, rfl⟩
theorem d_Model_feed_33 : ob_db k_Model_feed 33 (.if_icmp .ge 7) 7 36 40 := ⟨by decide +kernel, rfl, by decide⟩
theorem d_Model_feed_30 : ob_dv ob_lc k_Model_feed 30 32 6 (.iload 6) 2 := ⟨by decide +kernel, rfl, rfl⟩
theorem d_Model_feed_27 : ob_db k_Model_feed 27 (.if_icmp .ge 87) 87 30 114 := ⟨by decide +kernel, rfl, by decide⟩
theorem d_Model_feed_23 : ob_dv ob_lc k_Model_feed 23 25 6 (.iload 6) 2 := ⟨by decide +kernel, rfl, rfl⟩
theorem d_Model_feed_21 : ob_dv (ob_sc k_Model_feed.2.2.2.1) k_Model_feed 21 23 6 (.istore 6) 2 := ⟨by decide +kernel, rfl, ⟨rfl, by decide +kernel⟩⟩
theorem d_Model_feed_18 : ob_dk k_Model_feed 18 19 (0 : Int32) (.iconst 0) 1 := ⟨by decide +kernel, rfl, show Int32.ofInt 0 = (0 : Int32) by decide +kernel⟩
theorem d_Model_feed_19 : ob_dc k_Model_feed 19 (.ireturn) 1 20 := ⟨by decide +kernel, rfl⟩
theorem d_Model_feed_15 : ob_db k_Model_feed 15 (.if_icmp .le 5) 5 18 20 := ⟨by decide +kernel, rfl, by decide⟩
theorem d_Model_feed_11 : ob_dc k_Model_feed 11 (.iadd) 1 12 := ⟨by decide +kernel, rfl⟩
theorem d_Model_feed_6 : ob_dc k_Model_feed 6 (.getfield 471) 3 9 := ⟨by decide +kernel, rfl⟩
theorem d_Model_feed_5 : ob_dv ob_ac k_Model_feed 5 6 0 (.aload_n 0) 1 := ⟨by decide +kernel, rfl, rfl⟩
theorem d_Model_feed_2 : ob_dc k_Model_feed 2 (.putfield 468) 3 5 := ⟨by decide +kernel, rfl⟩
theorem d_Model_feed_0 : ob_dv ob_ac k_Model_feed 0 1 0 (.aload_n 0) 1 := ⟨by decide +kernel, rfl, rfl⟩
def f_Model_feed_L76 (S : ob_S) (k23 : Nat → Int32 → Int32 → Int32 → Int32 → Int32 → Int32 → ob_D → Option (Int32 × ob_D)) (v0 : Nat) (v1 : Int32) (v2 : Int32) (v3 : Int32) (v4 : Int32) (v5 : Int32) (v6 : Int32) (s0 : Int32) (D : ob_D) : Option (Int32 × ob_D) :=
  if D.2.1 v0 6 ≠ 0 then ob_lt (ob_pI D v0 7 ((D.1 v0 7) + (1 : Int32))) fun D4 => if ob_in (D.1 v0 7) (S.2.1 (D.2.1 v0 6)) then ob_lt (ob_pI D4 (D.2.1 v0 6) (D.1 v0 7).toNatClampNeg (((s0 >>> (((24 : Int32) - ((8 : Int32) * (v6 - v6 / (4 : Int32) * (4 : Int32)))) &&& 31)).toInt8.toInt32).toInt8.toInt32)) fun D6 => k23 v0 v1 v2 v3 v4 v5 (v6 + (1 : Int32)) D6 else none else none
theorem v_Model_feed_L76 {l : Launch} {E : ob_E} {S : ob_S} {r : Int32} {D' : ob_D} {k23 : Nat → Int32 → Int32 → Int32 → Int32 → Int32 → Int32 → ob_D → Option (Int32 × ob_D)} (hk23 : ∀ (v0 : Nat) (v1 : Int32) (v2 : Int32) (v3 : Int32) (v4 : Int32) (v5 : Int32) (v6 : Int32) (D : ob_D), S.1 v0 = 13 → k23 v0 v1 v2 v3 v4 v5 v6 D = some (r, D') → ob_V l E k_Model_feed 23 [(0, .ref v0), (1, .int v1), (2, .int v2), (3, .int v3), (4, .int v4), (5, .int v5), (6, .int v6)] [] S D (some (.int r)) S D') : ∀ (v0 : Nat) (v1 : Int32) (v2 : Int32) (v3 : Int32) (v4 : Int32) (v5 : Int32) (v6 : Int32) (s0 : Int32) (D : ob_D), S.1 v0 = 13 → f_Model_feed_L76 S k23 v0 v1 v2 v3 v4 v5 v6 s0 D = some (r, D') → ob_V l E k_Model_feed 76 [(0, .ref v0), (1, .int v1), (2, .int v2), (3, .int v3), (4, .int v4), (5, .int v5), (6, .int v6)] [.int s0] S D (some (.int r)) S D' := by
  intro v0 v1 v2 v3 v4 v5 v6 s0 D hp_v0 h
  rw [f_Model_feed_L76] at h
  refine ob_istore (lo2 := [(0, .ref v0), (1, .int v1), (2, .int v2), (3, .int v3), (4, .int v4), (5, .int v5), (6, .int v6), (7, .int s0)]) d_Model_feed_76 rfl ?_
  refine ob_aload d_Model_feed_78 rfl ?_
  obtain ⟨hg3, h⟩ := ob_gd h
  refine ob_getR d_Model_feed_79 F_12_6 l_Model_7 hp_v0 hg3 (fun hk2 => ?_)
  refine ob_aload d_Model_feed_82 rfl ?_
  refine ob_dup d_Model_feed_83 rfl ?_
  refine ob_getI d_Model_feed_84 F_12_7 l_Model_471 hp_v0 ?_
  refine ob_dup_x1 d_Model_feed_87 rfl rfl ?_
  refine ob_push d_Model_feed_88 ?_
  refine ob_iadd d_Model_feed_89 ?_
  replace h := ob_lt_e h
  refine ob_putI d_Model_feed_90 F_12_7 l_Model_471 hp_v0 ?_
  refine ob_iload d_Model_feed_93 rfl ?_
  refine ob_push d_Model_feed_95 ?_
  refine ob_push d_Model_feed_97 ?_
  refine ob_iload d_Model_feed_99 rfl ?_
  refine ob_push d_Model_feed_101 ?_
  refine ob_irem d_Model_feed_102 (by decide) ?_
  refine ob_imul d_Model_feed_103 ?_
  refine ob_isub d_Model_feed_104 ?_
  refine ob_ishr d_Model_feed_105 ?_
  refine ob_i2b d_Model_feed_106 ?_
  obtain ⟨hg5, h⟩ := ob_gd h
  replace h := ob_lt_e h
  refine ob_bast d_Model_feed_107 hk2 hg5 ?_
  refine ob_iinc (lo2 := [(0, .ref v0), (1, .int v1), (2, .int v2), (3, .int v3), (4, .int v4), (5, .int v5), (6, .int (v6 + (1 : Int32))), (7, .int s0)]) d_Model_feed_108 rfl rfl ?_
  refine ob_goto d_Model_feed_111 ?_
  refine ob_sub (lo2 := [(0, .ref v0), (1, .int v1), (2, .int v2), (3, .int v3), (4, .int v4), (5, .int v5), (6, .int (v6 + (1 : Int32)))]) [0, 1, 2, 3, 4, 5, 6] rfl ?_
  exact hk23 v0 v1 v2 v3 v4 v5 (v6 + (1 : Int32)) (ob_pI (ob_pI D v0 7 ((D.1 v0 7) + (1 : Int32))) (D.2.1 v0 6) (D.1 v0 7).toNatClampNeg (((s0 >>> (((24 : Int32) - ((8 : Int32) * (v6 - v6 / (4 : Int32) * (4 : Int32)))) &&& 31)).toInt8.toInt32).toInt8.toInt32)) hp_v0 h
def f_Model_feed_L23 (S : ob_S) : Nat → Nat → Int32 → Int32 → Int32 → Int32 → Int32 → Int32 → ob_D → Option (Int32 × ob_D)
  | 0, _, _, _, _, _, _, _, _ => none
  | n + 1, v0, v1, v2, v3, v4, v5, v6, D => (if (20 : Int32) ≤ v6 then some ((1 : Int32), D) else (if (4 : Int32) ≤ v6 then (if (8 : Int32) ≤ v6 then (if (12 : Int32) ≤ v6 then (if (16 : Int32) ≤ v6 then f_Model_feed_L76 S (fun a0 a1 a2 a3 a4 a5 a6 d => f_Model_feed_L23 S n a0 a1 a2 a3 a4 a5 a6 d) v0 v1 v2 v3 v4 v5 v6 v5 D else f_Model_feed_L76 S (fun a0 a1 a2 a3 a4 a5 a6 d => f_Model_feed_L23 S n a0 a1 a2 a3 a4 a5 a6 d) v0 v1 v2 v3 v4 v5 v6 v4 D) else f_Model_feed_L76 S (fun a0 a1 a2 a3 a4 a5 a6 d => f_Model_feed_L23 S n a0 a1 a2 a3 a4 a5 a6 d) v0 v1 v2 v3 v4 v5 v6 v3 D) else f_Model_feed_L76 S (fun a0 a1 a2 a3 a4 a5 a6 d => f_Model_feed_L23 S n a0 a1 a2 a3 a4 a5 a6 d) v0 v1 v2 v3 v4 v5 v6 v2 D) else f_Model_feed_L76 S (fun a0 a1 a2 a3 a4 a5 a6 d => f_Model_feed_L23 S n a0 a1 a2 a3 a4 a5 a6 d) v0 v1 v2 v3 v4 v5 v6 v1 D))
theorem v_Model_feed_L23 {l : Launch} {E : ob_E} {S : ob_S} {r : Int32} {D' : ob_D} : ∀ (n : Nat), ∀ (v0 : Nat) (v1 : Int32) (v2 : Int32) (v3 : Int32) (v4 : Int32) (v5 : Int32) (v6 : Int32) (D : ob_D), S.1 v0 = 13 → f_Model_feed_L23 S n v0 v1 v2 v3 v4 v5 v6 D = some (r, D') → ob_V l E k_Model_feed 23 [(0, .ref v0), (1, .int v1), (2, .int v2), (3, .int v3), (4, .int v4), (5, .int v5), (6, .int v6)] [] S D (some (.int r)) S D' := by
  intro n
  induction n with
  | zero =>
    intro v0 v1 v2 v3 v4 v5 v6 D hp_v0 h
    have h : none = some (r, D') := h
    cases h
  | succ n ih =>
    intro v0 v1 v2 v3 v4 v5 v6 D hp_v0 h
    rw [f_Model_feed_L23] at h
    refine ob_iload d_Model_feed_23 rfl ?_
    refine ob_push d_Model_feed_25 ?_
    refine ob_icmp_ge d_Model_feed_27 (fun hc => ?_) (fun hc => ?_)
    · replace h := ob_ift hc h
      refine ob_push d_Model_feed_114 ?_
      exact ob_ie h (ob_iret d_Model_feed_115 rfl rfl)
    · replace h := ob_iff hc h
      refine ob_iload d_Model_feed_30 rfl ?_
      refine ob_push d_Model_feed_32 ?_
      refine ob_icmp_ge d_Model_feed_33 (fun hc => ?_) (fun hc => ?_)
      · replace h := ob_ift hc h
        refine ob_iload d_Model_feed_40 rfl ?_
        refine ob_push d_Model_feed_42 ?_
        refine ob_icmp_ge d_Model_feed_44 (fun hc => ?_) (fun hc => ?_)
        · replace h := ob_ift hc h
          refine ob_iload d_Model_feed_51 rfl ?_
          refine ob_push d_Model_feed_53 ?_
          refine ob_icmp_ge d_Model_feed_55 (fun hc => ?_) (fun hc => ?_)
          · replace h := ob_ift hc h
            refine ob_iload d_Model_feed_62 rfl ?_
            refine ob_push d_Model_feed_64 ?_
            refine ob_icmp_ge d_Model_feed_66 (fun hc => ?_) (fun hc => ?_)
            · replace h := ob_ift hc h
              refine ob_iload d_Model_feed_74 rfl ?_
              exact v_Model_feed_L76 ih v0 v1 v2 v3 v4 v5 v6 v5 D hp_v0 h
            · replace h := ob_iff hc h
              refine ob_iload d_Model_feed_69 rfl ?_
              refine ob_goto d_Model_feed_71 ?_
              exact v_Model_feed_L76 ih v0 v1 v2 v3 v4 v5 v6 v4 D hp_v0 h
          · replace h := ob_iff hc h
            refine ob_iload d_Model_feed_58 rfl ?_
            refine ob_goto d_Model_feed_59 ?_
            exact v_Model_feed_L76 ih v0 v1 v2 v3 v4 v5 v6 v3 D hp_v0 h
        · replace h := ob_iff hc h
          refine ob_iload d_Model_feed_47 rfl ?_
          refine ob_goto d_Model_feed_48 ?_
          exact v_Model_feed_L76 ih v0 v1 v2 v3 v4 v5 v6 v2 D hp_v0 h
      · replace h := ob_iff hc h
        refine ob_iload d_Model_feed_36 rfl ?_
        refine ob_goto d_Model_feed_37 ?_
        exact v_Model_feed_L76 ih v0 v1 v2 v3 v4 v5 v6 v1 D hp_v0 h
def f_Model_feed (S : ob_S) (v0 : Nat) (v1 : Int32) (v2 : Int32) (v3 : Int32) (v4 : Int32) (v5 : Int32) (D : ob_D) : Option (Int32 × ob_D) :=
  ob_lt (ob_pI D v0 5 (0 : Int32)) fun D1 => (if ((D1.1 v0 7) + (20 : Int32)) ≤ (4096 : Int32) then f_Model_feed_L23 S ob_FU v0 v1 v2 v3 v4 v5 (0 : Int32) D1 else some ((0 : Int32), D1))
theorem c_Model_feed {l : Launch} {E : ob_E} {S : ob_S} {D : ob_D} {v0 : Nat} {v1 : Int32} {v2 : Int32} {v3 : Int32} {v4 : Int32} {v5 : Int32} {r : Int32} {D' : ob_D} (hp_v0 : S.1 v0 = 13) (h : f_Model_feed S v0 v1 v2 v3 v4 v5 D = some (r, D')) : ob_M l E k_Model_feed [.ref v0, .int v1, .int v2, .int v3, .int v4, .int v5] S D (some (.int r)) S D' := by
  refine ob_ofV (lo := [(0, .ref v0), (1, .int v1), (2, .int v2), (3, .int v3), (4, .int v4), (5, .int v5)]) (by decide) rfl (Nat.le_of_ble_eq_true rfl) rfl (Nat.le_refl _) (Nat.le_refl _) ?_
  rw [f_Model_feed] at h
  refine ob_aload d_Model_feed_0 rfl ?_
  refine ob_push d_Model_feed_1 ?_
  replace h := ob_lt_e h
  refine ob_putI d_Model_feed_2 F_12_5 l_Model_468 hp_v0 ?_
  refine ob_aload d_Model_feed_5 rfl ?_
  refine ob_getI d_Model_feed_6 F_12_7 l_Model_471 hp_v0 ?_
  refine ob_push d_Model_feed_9 ?_
  refine ob_iadd d_Model_feed_11 ?_
  refine ob_push d_Model_feed_12 ?_
  refine ob_icmp_le d_Model_feed_15 (fun hc => ?_) (fun hc => ?_)
  · replace h := ob_ift hc h
    refine ob_push d_Model_feed_20 ?_
    refine ob_istore (lo2 := [(0, .ref v0), (1, .int v1), (2, .int v2), (3, .int v3), (4, .int v4), (5, .int v5), (6, .int (0 : Int32))]) d_Model_feed_21 rfl ?_
    exact v_Model_feed_L23 ob_FU v0 v1 v2 v3 v4 v5 (0 : Int32) (ob_pI D v0 5 (0 : Int32)) hp_v0 h
  · replace h := ob_iff hc h
    refine ob_push d_Model_feed_18 ?_
    exact ob_ie h (ob_iret d_Model_feed_19 rfl rfl)
-- OrbitBoxModel.end(I)Z
theorem d_Model_end_1 : ob_dk k_Model_end 1 2 (0 : Int32) (.iconst 0) 1 := ⟨by decide +kernel, rfl, show Int32.ofInt 0 = (0 : Int32) by decide +kernel⟩
theorem d_Model_end_17 : ob_dk k_Model_end 17 18 (0 : Int32) (.iconst 0) 1 := ⟨by decide +kernel, rfl, show Int32.ofInt 0 = (0 : Int32) by decide +kernel⟩
theorem d_Model_end_18 : ob_dc k_Model_end 18 (.ireturn) 1 19 := ⟨by decide +kernel, rfl⟩
theorem d_Model_end_24 : ob_dk k_Model_end 24 25 (1 : Int32) (.iconst 1) 1 := ⟨by decide +kernel, rfl, show Int32.ofInt 1 = (1 : Int32) by decide +kernel⟩
theorem d_Model_end_25 : ob_dc k_Model_end 25 (.ireturn) 1 26 := ⟨by decide +kernel, rfl⟩
theorem d_Model_end_21 : ob_dc k_Model_end 21 (.putfield 471) 3 24 := ⟨by decide +kernel, rfl⟩
theorem d_Model_end_20 : ob_dv ob_lc k_Model_end 20 21 1 (.iload_n 1) 1 := ⟨by decide +kernel, rfl, rfl⟩
theorem d_Model_end_19 : ob_dv ob_ac k_Model_end 19 20 0 (.aload_n 0) 1 := ⟨by decide +kernel, rfl, rfl⟩
theorem d_Model_end_14 : ob_db k_Model_end 14 (.if_icmp .le 5) 5 17 19 := ⟨by decide +kernel, rfl, by decide⟩
theorem d_Model_end_11 : ob_dc k_Model_end 11 (.getfield 471) 3 14 := ⟨by decide +kernel, rfl⟩
theorem d_Model_end_10 : ob_dv ob_ac k_Model_end 10 11 0 (.aload_n 0) 1 := ⟨by decide +kernel, rfl, rfl⟩
theorem d_Model_end_9 : ob_dv ob_lc k_Model_end 9 10 1 (.iload_n 1) 1 := ⟨by decide +kernel, rfl, rfl⟩
theorem d_Model_end_6 : ob_db k_Model_end 6 (.ifCond .lt 11) 11 9 17 := ⟨by decide +kernel, rfl, by decide⟩
theorem d_Model_end_5 : ob_dv ob_lc k_Model_end 5 6 1 (.iload_n 1) 1 := ⟨by decide +kernel, rfl, rfl⟩
theorem d_Model_end_2 : ob_dc k_Model_end 2 (.putfield 468) 3 5 := ⟨by decide +kernel, rfl⟩
theorem d_Model_end_0 : ob_dv ob_ac k_Model_end 0 1 0 (.aload_n 0) 1 := ⟨by decide +kernel, rfl, rfl⟩
def f_Model_end (S : ob_S) (v0 : Nat) (v1 : Int32) (D : ob_D) : Option (Int32 × ob_D) :=
  ob_lt (ob_pI D v0 5 (0 : Int32)) fun D1 => (if v1 < 0 then some ((0 : Int32), D1) else (if v1 ≤ (D1.1 v0 7) then ob_lt (ob_pI D1 v0 7 v1) fun D2 => some ((1 : Int32), D2) else some ((0 : Int32), D1)))
theorem c_Model_end {l : Launch} {E : ob_E} {S : ob_S} {D : ob_D} {v0 : Nat} {v1 : Int32} {r : Int32} {D' : ob_D} (hp_v0 : S.1 v0 = 13) (h : f_Model_end S v0 v1 D = some (r, D')) : ob_M l E k_Model_end [.ref v0, .int v1] S D (some (.int r)) S D' := by
  refine ob_ofV (lo := [(0, .ref v0), (1, .int v1)]) (by decide) rfl (Nat.le_of_ble_eq_true rfl) rfl (Nat.le_refl _) (Nat.le_refl _) ?_
  rw [f_Model_end] at h
  refine ob_aload d_Model_end_0 rfl ?_
  refine ob_push d_Model_end_1 ?_
  replace h := ob_lt_e h
  refine ob_putI d_Model_end_2 F_12_5 l_Model_468 hp_v0 ?_
  refine ob_iload d_Model_end_5 rfl ?_
  refine ob_if_lt d_Model_end_6 (fun hc => ?_) (fun hc => ?_)
  · replace h := ob_ift hc h
    refine ob_push d_Model_end_17 ?_
    exact ob_ie h (ob_iret d_Model_end_18 rfl rfl)
  · replace h := ob_iff hc h
    refine ob_iload d_Model_end_9 rfl ?_
    refine ob_aload d_Model_end_10 rfl ?_
    refine ob_getI d_Model_end_11 F_12_7 l_Model_471 hp_v0 ?_
    refine ob_icmp_le d_Model_end_14 (fun hc => ?_) (fun hc => ?_)
    · replace h := ob_ift hc h
      refine ob_aload d_Model_end_19 rfl ?_
      refine ob_iload d_Model_end_20 rfl ?_
      replace h := ob_lt_e h
      refine ob_putI d_Model_end_21 F_12_7 l_Model_471 hp_v0 ?_
      refine ob_push d_Model_end_24 ?_
      exact ob_ie h (ob_iret d_Model_end_25 rfl rfl)
    · replace h := ob_iff hc h
      refine ob_push d_Model_end_17 ?_
      exact ob_ie h (ob_iret d_Model_end_18 rfl rfl)
-- OrbitBoxModel.divides(I)Z
theorem d_Model_divides_0 : ob_dk k_Model_divides 0 1 (0 : Int32) (.iconst 0) 1 := ⟨by decide +kernel, rfl, show Int32.ofInt 0 = (0 : Int32) by decide +kernel⟩
theorem d_Model_divides_3 : ob_dk k_Model_divides 3 5 (63 : Int32) (.bipush 63) 2 := ⟨by decide +kernel, rfl, show (Int8.ofInt 63).toInt32 = (63 : Int32) by decide +kernel⟩
theorem d_Model_divides_44 : ob_dk k_Model_divides 44 45 (0 : Int32) (.iconst 0) 1 := ⟨by decide +kernel, rfl, show Int32.ofInt 0 = (0 : Int32) by decide +kernel⟩
theorem d_Model_divides_47 : ob_dk k_Model_divides 47 49 (7 : Int32) (.bipush 7) 2 := ⟨by decide +kernel, rfl, show (Int8.ofInt 7).toInt32 = (7 : Int32) by decide +kernel⟩
theorem d_Model_divides_50 : ob_dk k_Model_divides 50 52 (63 : Int32) (.bipush 63) 2 := ⟨by decide +kernel, rfl, show (Int8.ofInt 63).toInt32 = (63 : Int32) by decide +kernel⟩
theorem d_Model_divides_151 : ob_dk k_Model_divides 151 153 (56 : Int32) (.bipush 56) 2 := ⟨by decide +kernel, rfl, show (Int8.ofInt 56).toInt32 = (56 : Int32) by decide +kernel⟩
theorem d_Model_divides_155 : ob_dk k_Model_divides 155 157 (63 : Int32) (.bipush 63) 2 := ⟨by decide +kernel, rfl, show (Int8.ofInt 63).toInt32 = (63 : Int32) by decide +kernel⟩
theorem d_Model_divides_177 : ob_dk k_Model_divides 177 178 (1 : Int32) (.iconst 1) 1 := ⟨by decide +kernel, rfl, show Int32.ofInt 1 = (1 : Int32) by decide +kernel⟩
theorem d_Model_divides_178 : ob_dc k_Model_divides 178 (.ireturn) 1 179 := ⟨by decide +kernel, rfl⟩
theorem d_Model_divides_171 : ob_di k_Model_divides 171 174 2 1 (1 : Int32) := ⟨by decide +kernel, rfl, by decide +kernel, by decide +kernel⟩
theorem d_Model_divides_174 : ob_db k_Model_divides 174 (.goto (-20)) (-20) 177 154 := ⟨by decide +kernel, rfl, by decide⟩
theorem d_Model_divides_169 : ob_dk k_Model_divides 169 170 (0 : Int32) (.iconst 0) 1 := ⟨by decide +kernel, rfl, show Int32.ofInt 0 = (0 : Int32) by decide +kernel⟩
theorem d_Model_divides_170 : ob_dc k_Model_divides 170 (.ireturn) 1 171 := ⟨by decide +kernel, rfl⟩
theorem d_Model_divides_166 : ob_db k_Model_divides 166 (.ifCond .eq 5) 5 169 171 := ⟨by decide +kernel, rfl, by decide⟩
theorem d_Model_divides_165 : ob_dc k_Model_divides 165 (.baload) 1 166 := ⟨by decide +kernel, rfl⟩
theorem d_Model_divides_164 : ob_dv ob_lc k_Model_divides 164 165 2 (.iload_n 2) 1 := ⟨by decide +kernel, rfl, rfl⟩
theorem d_Model_divides_161 : ob_dc k_Model_divides 161 (.getfield 20) 3 164 := ⟨by decide +kernel, rfl⟩
theorem d_Model_divides_160 : ob_dv ob_ac k_Model_divides 160 161 0 (.aload_n 0) 1 := ⟨by decide +kernel, rfl, rfl⟩
theorem d_Model_divides_157 : ob_db k_Model_divides 157 (.if_icmp .ge 20) 20 160 177 := ⟨by decide +kernel, rfl, by decide⟩
theorem d_Model_divides_154 : ob_dv ob_lc k_Model_divides 154 155 2 (.iload_n 2) 1 := ⟨by decide +kernel, rfl, rfl⟩
theorem d_Model_divides_153 : ob_dv (ob_sc k_Model_divides.2.2.2.1) k_Model_divides 153 154 2 (.istore_n 2) 1 := ⟨by decide +kernel, rfl, ⟨rfl, by decide +kernel⟩⟩
theorem d_Model_divides_145 : ob_di k_Model_divides 145 148 2 1 (1 : Int32) := ⟨by decide +kernel, rfl, by decide +kernel, by decide +kernel⟩
theorem d_Model_divides_148 : ob_db k_Model_divides 148 (.goto (-102)) (-102) 151 46 := ⟨by decide +kernel, rfl, by decide⟩
theorem d_Model_divides_69 : ob_dk k_Model_divides 69 70 (0 : Int32) (.iconst 0) 1 := ⟨by decide +kernel, rfl, show Int32.ofInt 0 = (0 : Int32) by decide +kernel⟩
theorem d_Model_divides_76 : ob_dk k_Model_divides 76 77 (1 : Int32) (.iconst 1) 1 := ⟨by decide +kernel, rfl, show Int32.ofInt 1 = (1 : Int32) by decide +kernel⟩
theorem d_Model_divides_83 : ob_dk k_Model_divides 83 84 (1 : Int32) (.iconst 1) 1 := ⟨by decide +kernel, rfl, show Int32.ofInt 1 = (1 : Int32) by decide +kernel⟩
theorem d_Model_divides_93 : ob_dk k_Model_divides 93 94 (0 : Int32) (.iconst 0) 1 := ⟨by decide +kernel, rfl, show Int32.ofInt 0 = (0 : Int32) by decide +kernel⟩
theorem d_Model_divides_100 : ob_dk k_Model_divides 100 101 (5 : Int32) (.iconst 5) 1 := ⟨by decide +kernel, rfl, show Int32.ofInt 5 = (5 : Int32) by decide +kernel⟩
theorem d_Model_divides_107 : ob_dk k_Model_divides 107 108 (5 : Int32) (.iconst 5) 1 := ⟨by decide +kernel, rfl, show Int32.ofInt 5 = (5 : Int32) by decide +kernel⟩
theorem d_Model_divides_117 : ob_dk k_Model_divides 117 118 (0 : Int32) (.iconst 0) 1 := ⟨by decide +kernel, rfl, show Int32.ofInt 0 = (0 : Int32) by decide +kernel⟩
theorem d_Model_divides_124 : ob_dk k_Model_divides 124 126 (7 : Int32) (.bipush 7) 2 := ⟨by decide +kernel, rfl, show (Int8.ofInt 7).toInt32 = (7 : Int32) by decide +kernel⟩
theorem d_Model_divides_132 : ob_dk k_Model_divides 132 134 (7 : Int32) (.bipush 7) 2 := ⟨by decide +kernel, rfl, show (Int8.ofInt 7).toInt32 = (7 : Int32) by decide +kernel⟩
theorem d_Model_divides_143 : ob_dk k_Model_divides 143 144 (0 : Int32) (.iconst 0) 1 := ⟨by decide +kernel, rfl, show Int32.ofInt 0 = (0 : Int32) by decide +kernel⟩
theorem d_Model_divides_144 : ob_dc k_Model_divides 144 (.bastore) 1 145 := ⟨by decide +kernel, rfl⟩
theorem d_Model_divides_139 : ob_dk k_Model_divides 139 140 (1 : Int32) (.iconst 1) 1 := ⟨by decide +kernel, rfl, show Int32.ofInt 1 = (1 : Int32) by decide +kernel⟩
theorem d_Model_divides_140 : ob_db k_Model_divides 140 (.goto 4) 4 143 144 := ⟨by decide +kernel, rfl, by decide⟩
theorem d_Model_divides_136 : ob_db k_Model_divides 136 (.ifCond .ne 7) 7 139 143 := ⟨by decide +kernel, rfl, by decide⟩
theorem d_Model_divides_135 : ob_dc k_Model_divides 135 (.baload) 1 136 := ⟨by decide +kernel, rfl⟩
theorem d_Model_divides_134 : ob_dc k_Model_divides 134 (.iadd) 1 135 := ⟨by decide +kernel, rfl⟩
theorem d_Model_divides_131 : ob_dv ob_lc k_Model_divides 131 132 2 (.iload_n 2) 1 := ⟨by decide +kernel, rfl, rfl⟩
theorem d_Model_divides_128 : ob_dc k_Model_divides 128 (.getfield 20) 3 131 := ⟨by decide +kernel, rfl⟩
theorem d_Model_divides_127 : ob_dv ob_ac k_Model_divides 127 128 0 (.aload_n 0) 1 := ⟨by decide +kernel, rfl, rfl⟩
theorem d_Model_divides_126 : ob_dc k_Model_divides 126 (.iadd) 1 127 := ⟨by decide +kernel, rfl⟩
theorem d_Model_divides_123 : ob_dv ob_lc k_Model_divides 123 124 2 (.iload_n 2) 1 := ⟨by decide +kernel, rfl, rfl⟩
theorem d_Model_divides_120 : ob_dc k_Model_divides 120 (.getfield 20) 3 123 := ⟨by decide +kernel, rfl⟩
theorem d_Model_divides_119 : ob_dv ob_ac k_Model_divides 119 120 0 (.aload_n 0) 1 := ⟨by decide +kernel, rfl, rfl⟩
theorem d_Model_divides_118 : ob_dc k_Model_divides 118 (.bastore) 1 119 := ⟨by decide +kernel, rfl⟩
theorem d_Model_divides_113 : ob_dk k_Model_divides 113 114 (1 : Int32) (.iconst 1) 1 := ⟨by decide +kernel, rfl, show Int32.ofInt 1 = (1 : Int32) by decide +kernel⟩
theorem d_Model_divides_114 : ob_db k_Model_divides 114 (.goto 4) 4 117 118 := ⟨by decide +kernel, rfl, by decide⟩
theorem d_Model_divides_110 : ob_db k_Model_divides 110 (.ifCond .ne 7) 7 113 117 := ⟨by decide +kernel, rfl, by decide⟩
theorem d_Model_divides_109 : ob_dc k_Model_divides 109 (.baload) 1 110 := ⟨by decide +kernel, rfl⟩
theorem d_Model_divides_108 : ob_dc k_Model_divides 108 (.iadd) 1 109 := ⟨by decide +kernel, rfl⟩
theorem d_Model_divides_106 : ob_dv ob_lc k_Model_divides 106 107 2 (.iload_n 2) 1 := ⟨by decide +kernel, rfl, rfl⟩
theorem d_Model_divides_103 : ob_dc k_Model_divides 103 (.getfield 20) 3 106 := ⟨by decide +kernel, rfl⟩
theorem d_Model_divides_102 : ob_dv ob_ac k_Model_divides 102 103 0 (.aload_n 0) 1 := ⟨by decide +kernel, rfl, rfl⟩
theorem d_Model_divides_101 : ob_dc k_Model_divides 101 (.iadd) 1 102 := ⟨by decide +kernel, rfl⟩
theorem d_Model_divides_99 : ob_dv ob_lc k_Model_divides 99 100 2 (.iload_n 2) 1 := ⟨by decide +kernel, rfl, rfl⟩
theorem d_Model_divides_96 : ob_dc k_Model_divides 96 (.getfield 20) 3 99 := ⟨by decide +kernel, rfl⟩
theorem d_Model_divides_95 : ob_dv ob_ac k_Model_divides 95 96 0 (.aload_n 0) 1 := ⟨by decide +kernel, rfl, rfl⟩
theorem d_Model_divides_94 : ob_dc k_Model_divides 94 (.bastore) 1 95 := ⟨by decide +kernel, rfl⟩
theorem d_Model_divides_89 : ob_dk k_Model_divides 89 90 (1 : Int32) (.iconst 1) 1 := ⟨by decide +kernel, rfl, show Int32.ofInt 1 = (1 : Int32) by decide +kernel⟩
theorem d_Model_divides_90 : ob_db k_Model_divides 90 (.goto 4) 4 93 94 := ⟨by decide +kernel, rfl, by decide⟩
theorem d_Model_divides_86 : ob_db k_Model_divides 86 (.ifCond .ne 7) 7 89 93 := ⟨by decide +kernel, rfl, by decide⟩
theorem d_Model_divides_85 : ob_dc k_Model_divides 85 (.baload) 1 86 := ⟨by decide +kernel, rfl⟩
theorem d_Model_divides_84 : ob_dc k_Model_divides 84 (.iadd) 1 85 := ⟨by decide +kernel, rfl⟩
theorem d_Model_divides_82 : ob_dv ob_lc k_Model_divides 82 83 2 (.iload_n 2) 1 := ⟨by decide +kernel, rfl, rfl⟩
theorem d_Model_divides_79 : ob_dc k_Model_divides 79 (.getfield 20) 3 82 := ⟨by decide +kernel, rfl⟩
theorem d_Model_divides_78 : ob_dv ob_ac k_Model_divides 78 79 0 (.aload_n 0) 1 := ⟨by decide +kernel, rfl, rfl⟩
theorem d_Model_divides_77 : ob_dc k_Model_divides 77 (.iadd) 1 78 := ⟨by decide +kernel, rfl⟩
theorem d_Model_divides_75 : ob_dv ob_lc k_Model_divides 75 76 2 (.iload_n 2) 1 := ⟨by decide +kernel, rfl, rfl⟩
theorem d_Model_divides_72 : ob_dc k_Model_divides 72 (.getfield 20) 3 75 := ⟨by decide +kernel, rfl⟩
theorem d_Model_divides_71 : ob_dv ob_ac k_Model_divides 71 72 0 (.aload_n 0) 1 := ⟨by decide +kernel, rfl, rfl⟩
theorem d_Model_divides_70 : ob_dc k_Model_divides 70 (.bastore) 1 71 := ⟨by decide +kernel, rfl⟩
theorem d_Model_divides_68 : ob_dv ob_lc k_Model_divides 68 69 2 (.iload_n 2) 1 := ⟨by decide +kernel, rfl, rfl⟩
theorem d_Model_divides_65 : ob_dc k_Model_divides 65 (.getfield 20) 3 68 := ⟨by decide +kernel, rfl⟩
theorem d_Model_divides_64 : ob_dv ob_ac k_Model_divides 64 65 0 (.aload_n 0) 1 := ⟨by decide +kernel, rfl, rfl⟩
theorem d_Model_divides_61 : ob_db k_Model_divides 61 (.ifCond .eq 84) 84 64 145 := ⟨by decide +kernel, rfl, by decide⟩
theorem d_Model_divides_60 : ob_dc k_Model_divides 60 (.baload) 1 61 := ⟨by decide +kernel, rfl⟩
theorem d_Model_divides_59 : ob_dv ob_lc k_Model_divides 59 60 2 (.iload_n 2) 1 := ⟨by decide +kernel, rfl, rfl⟩
theorem d_Model_divides_56 : ob_dc k_Model_divides 56 (.getfield 20) 3 59 := ⟨by decide +kernel, rfl⟩
theorem d_Model_divides_55 : ob_dv ob_ac k_Model_divides 55 56 0 (.aload_n 0) 1 := ⟨by decide +kernel, rfl, rfl⟩
theorem d_Model_divides_52 : ob_db k_Model_divides 52 (.if_icmp .ge 99) 99 55 151 := ⟨by decide +kernel, rfl, by decide⟩
theorem d_Model_divides_49 : ob_dc k_Model_divides 49 (.iadd) 1 50 := ⟨by decide +kernel, rfl⟩
theorem d_Model_divides_46 : ob_dv ob_lc k_Model_divides 46 47 2 (.iload_n 2) 1 := ⟨by decide +kernel, rfl, rfl⟩
theorem d_Model_divides_45 : ob_dv (ob_sc k_Model_divides.2.2.2.1) k_Model_divides 45 46 2 (.istore_n 2) 1 := ⟨by decide +kernel, rfl, ⟨rfl, by decide +kernel⟩⟩
theorem d_Model_divides_28 : ob_dk k_Model_divides 28 29 (0 : Int32) (.iconst 0) 1 := ⟨by decide +kernel, rfl, show Int32.ofInt 0 = (0 : Int32) by decide +kernel⟩
theorem d_Model_divides_36 : ob_dk k_Model_divides 36 37 (0 : Int32) (.iconst 0) 1 := ⟨by decide +kernel, rfl, show Int32.ofInt 0 = (0 : Int32) by decide +kernel⟩
theorem d_Model_divides_38 : ob_di k_Model_divides 38 41 2 1 (1 : Int32) := ⟨by decide +kernel, rfl, by decide +kernel, by decide +kernel⟩
theorem d_Model_divides_41 : ob_db k_Model_divides 41 (.goto (-39)) (-39) 44 2 := ⟨by decide +kernel, rfl, by decide⟩
theorem d_Model_divides_37 : ob_dc k_Model_divides 37 (.bastore) 1 38 := ⟨by decide +kernel, rfl⟩
theorem d_Model_divides_32 : ob_dk k_Model_divides 32 33 (1 : Int32) (.iconst 1) 1 := ⟨by decide +kernel, rfl, show Int32.ofInt 1 = (1 : Int32) by decide +kernel⟩
theorem d_Model_divides_33 : ob_db k_Model_divides 33 (.goto 4) 4 36 37 := ⟨by decide +kernel, rfl, by decide⟩
theorem d_Model_divides_29 : ob_db k_Model_divides 29 (.if_icmp .eq 7) 7 32 36 := ⟨by decide +kernel, rfl, by decide⟩
theorem d_Model_divides_24 : ob_dk k_Model_divides 24 25 (1 : Int32) (.iconst 1) 1 := ⟨by decide +kernel, rfl, show Int32.ofInt 1 = (1 : Int32) by decide +kernel⟩
theorem d_Model_divides_25 : ob_db k_Model_divides 25 (.goto 4) 4 28 29 := ⟨by decide +kernel, rfl, by decide⟩
theorem d_Model_divides_21 : ob_db k_Model_divides 21 (.if_icmp .ne 7) 7 24 28 := ⟨by decide +kernel, rfl, by decide⟩
theorem d_Model_divides_20 : ob_dv ob_lc k_Model_divides 20 21 1 (.iload_n 1) 1 := ⟨by decide +kernel, rfl, rfl⟩
theorem d_Model_divides_19 : ob_dv ob_lc k_Model_divides 19 20 2 (.iload_n 2) 1 := ⟨by decide +kernel, rfl, rfl⟩
theorem d_Model_divides_18 : ob_dc k_Model_divides 18 (.baload) 1 19 := ⟨by decide +kernel, rfl⟩
theorem d_Model_divides_17 : ob_dv ob_lc k_Model_divides 17 18 2 (.iload_n 2) 1 := ⟨by decide +kernel, rfl, rfl⟩
theorem d_Model_divides_14 : ob_dc k_Model_divides 14 (.getfield 13) 3 17 := ⟨by decide +kernel, rfl⟩
theorem d_Model_divides_13 : ob_dv ob_ac k_Model_divides 13 14 0 (.aload_n 0) 1 := ⟨by decide +kernel, rfl, rfl⟩
theorem d_Model_divides_12 : ob_dv ob_lc k_Model_divides 12 13 2 (.iload_n 2) 1 := ⟨by decide +kernel, rfl, rfl⟩
theorem d_Model_divides_9 : ob_dc k_Model_divides 9 (.getfield 20) 3 12 := ⟨by decide +kernel, rfl⟩
theorem d_Model_divides_8 : ob_dv ob_ac k_Model_divides 8 9 0 (.aload_n 0) 1 := ⟨by decide +kernel, rfl, rfl⟩
theorem d_Model_divides_5 : ob_db k_Model_divides 5 (.if_icmp .ge 39) 39 8 44 := ⟨by decide +kernel, rfl, by decide⟩
theorem d_Model_divides_2 : ob_dv ob_lc k_Model_divides 2 3 2 (.iload_n 2) 1 := ⟨by decide +kernel, rfl, rfl⟩
theorem d_Model_divides_1 : ob_dv (ob_sc k_Model_divides.2.2.2.1) k_Model_divides 1 2 2 (.istore_n 2) 1 := ⟨by decide +kernel, rfl, ⟨rfl, by decide +kernel⟩⟩
def f_Model_divides_L154 (S : ob_S) : Nat → Nat → Int32 → ob_D → Option (Int32 × ob_D)
  | 0, _, _, _ => none
  | n + 1, v0, v2, D => (if (63 : Int32) ≤ v2 then some ((1 : Int32), D) else if D.2.1 v0 18 ≠ 0 then if ob_in v2 (S.2.1 (D.2.1 v0 18)) then (if (D.1 (D.2.1 v0 18) v2.toNatClampNeg) = 0 then f_Model_divides_L154 S n v0 (v2 + (1 : Int32)) D else some ((0 : Int32), D)) else none else none)
theorem v_Model_divides_L154 {l : Launch} {E : ob_E} {S : ob_S} {r : Int32} {D' : ob_D} : ∀ (n : Nat), ∀ (v0 : Nat) (v2 : Int32) (D : ob_D), S.1 v0 = 13 → f_Model_divides_L154 S n v0 v2 D = some (r, D') → ob_V l E k_Model_divides 154 [(0, .ref v0), (2, .int v2)] [] S D (some (.int r)) S D' := by
  intro n
  induction n with
  | zero =>
    intro v0 v2 D hp_v0 h
    have h : none = some (r, D') := h
    cases h
  | succ n ih =>
    intro v0 v2 D hp_v0 h
    rw [f_Model_divides_L154] at h
    refine ob_iload d_Model_divides_154 rfl ?_
    refine ob_push d_Model_divides_155 ?_
    refine ob_icmp_ge d_Model_divides_157 (fun hc => ?_) (fun hc => ?_)
    · replace h := ob_ift hc h
      refine ob_push d_Model_divides_177 ?_
      exact ob_ie h (ob_iret d_Model_divides_178 rfl rfl)
    · replace h := ob_iff hc h
      refine ob_aload d_Model_divides_160 rfl ?_
      obtain ⟨hg2, h⟩ := ob_gd h
      refine ob_getR d_Model_divides_161 F_12_18 l_Model_20 hp_v0 hg2 (fun hk1 => ?_)
      refine ob_iload d_Model_divides_164 rfl ?_
      obtain ⟨hg3, h⟩ := ob_gd h
      refine ob_zald d_Model_divides_165 hk1 hg3 ?_
      refine ob_if_eq d_Model_divides_166 (fun hc => ?_) (fun hc => ?_)
      · replace h := ob_ift hc h
        refine ob_iinc (lo2 := [(0, .ref v0), (2, .int (v2 + (1 : Int32)))]) d_Model_divides_171 rfl rfl ?_
        refine ob_goto d_Model_divides_174 ?_
        exact ih v0 (v2 + (1 : Int32)) D hp_v0 h
      · replace h := ob_iff hc h
        refine ob_push d_Model_divides_169 ?_
        exact ob_ie h (ob_iret d_Model_divides_170 rfl rfl)
def f_Model_divides_L118 (S : ob_S) (k46 : Nat → Int32 → ob_D → Option (Int32 × ob_D)) (v0 : Nat) (v2 : Int32) (s0 : Int32) (s1 : Int32) (s2 : Nat) (D : ob_D) : Option (Int32 × ob_D) :=
  if ob_in s1 (S.2.1 s2) then ob_lt (ob_pI D s2 s1.toNatClampNeg (s0 &&& 1)) fun D24 => if D24.2.1 v0 18 ≠ 0 then if D24.2.1 v0 18 ≠ 0 then if ob_in (v2 + (7 : Int32)) (S.2.1 (D24.2.1 v0 18)) then (if (D24.1 (D24.2.1 v0 18) (v2 + (7 : Int32)).toNatClampNeg) = 0 then if ob_in (v2 + (7 : Int32)) (S.2.1 (D24.2.1 v0 18)) then ob_lt (ob_pI D24 (D24.2.1 v0 18) (v2 + (7 : Int32)).toNatClampNeg ((1 : Int32) &&& 1)) fun D33 => k46 v0 (v2 + (1 : Int32)) D33 else none else if ob_in (v2 + (7 : Int32)) (S.2.1 (D24.2.1 v0 18)) then ob_lt (ob_pI D24 (D24.2.1 v0 18) (v2 + (7 : Int32)).toNatClampNeg ((0 : Int32) &&& 1)) fun D31 => k46 v0 (v2 + (1 : Int32)) D31 else none) else none else none else none else none
theorem v_Model_divides_L118 {l : Launch} {E : ob_E} {S : ob_S} {r : Int32} {D' : ob_D} {k46 : Nat → Int32 → ob_D → Option (Int32 × ob_D)} (hk46 : ∀ (v0 : Nat) (v2 : Int32) (D : ob_D), S.1 v0 = 13 → k46 v0 v2 D = some (r, D') → ob_V l E k_Model_divides 46 [(0, .ref v0), (2, .int v2)] [] S D (some (.int r)) S D') : ∀ (v0 : Nat) (v2 : Int32) (s0 : Int32) (s1 : Int32) (s2 : Nat) (D : ob_D), S.1 v0 = 13 → S.1 s2 = 22 → f_Model_divides_L118 S k46 v0 v2 s0 s1 s2 D = some (r, D') → ob_V l E k_Model_divides 118 [(0, .ref v0), (2, .int v2)] [.int s0, .int s1, .ref s2] S D (some (.int r)) S D' := by
  intro v0 v2 s0 s1 s2 D hp_v0 hp_s2 h
  rw [f_Model_divides_L118] at h
  obtain ⟨hg23, h⟩ := ob_gd h
  replace h := ob_lt_e h
  refine ob_zast d_Model_divides_118 hp_s2 hg23 ?_
  refine ob_aload d_Model_divides_119 rfl ?_
  obtain ⟨hg26, h⟩ := ob_gd h
  refine ob_getR d_Model_divides_120 F_12_18 l_Model_20 hp_v0 hg26 (fun hk25 => ?_)
  refine ob_iload d_Model_divides_123 rfl ?_
  refine ob_push d_Model_divides_124 ?_
  refine ob_iadd d_Model_divides_126 ?_
  refine ob_aload d_Model_divides_127 rfl ?_
  obtain ⟨hg28, h⟩ := ob_gd h
  refine ob_getR d_Model_divides_128 F_12_18 l_Model_20 hp_v0 hg28 (fun hk27 => ?_)
  refine ob_iload d_Model_divides_131 rfl ?_
  refine ob_push d_Model_divides_132 ?_
  refine ob_iadd d_Model_divides_134 ?_
  obtain ⟨hg29, h⟩ := ob_gd h
  refine ob_zald d_Model_divides_135 hk27 hg29 ?_
  refine ob_if_ne d_Model_divides_136 (fun hc => ?_) (fun hc => ?_)
  · replace h := ob_iff hc h
    refine ob_push d_Model_divides_143 ?_
    obtain ⟨hg30, h⟩ := ob_gd h
    replace h := ob_lt_e h
    refine ob_zast d_Model_divides_144 hk25 hg30 ?_
    refine ob_iinc (lo2 := [(0, .ref v0), (2, .int (v2 + (1 : Int32)))]) d_Model_divides_145 rfl rfl ?_
    refine ob_goto d_Model_divides_148 ?_
    exact hk46 v0 (v2 + (1 : Int32)) (ob_pI (ob_pI D s2 s1.toNatClampNeg (s0 &&& 1)) ((ob_pI D s2 s1.toNatClampNeg (s0 &&& 1)).2.1 v0 18) (v2 + (7 : Int32)).toNatClampNeg ((0 : Int32) &&& 1)) hp_v0 h
  · replace h := ob_ift hc h
    refine ob_push d_Model_divides_139 ?_
    refine ob_goto d_Model_divides_140 ?_
    obtain ⟨hg32, h⟩ := ob_gd h
    replace h := ob_lt_e h
    refine ob_zast d_Model_divides_144 hk25 hg32 ?_
    refine ob_iinc (lo2 := [(0, .ref v0), (2, .int (v2 + (1 : Int32)))]) d_Model_divides_145 rfl rfl ?_
    refine ob_goto d_Model_divides_148 ?_
    exact hk46 v0 (v2 + (1 : Int32)) (ob_pI (ob_pI D s2 s1.toNatClampNeg (s0 &&& 1)) ((ob_pI D s2 s1.toNatClampNeg (s0 &&& 1)).2.1 v0 18) (v2 + (7 : Int32)).toNatClampNeg ((1 : Int32) &&& 1)) hp_v0 h
def f_Model_divides_L94 (S : ob_S) (k46 : Nat → Int32 → ob_D → Option (Int32 × ob_D)) (v0 : Nat) (v2 : Int32) (s0 : Int32) (s1 : Int32) (s2 : Nat) (D : ob_D) : Option (Int32 × ob_D) :=
  if ob_in s1 (S.2.1 s2) then ob_lt (ob_pI D s2 s1.toNatClampNeg (s0 &&& 1)) fun D17 => if D17.2.1 v0 18 ≠ 0 then if D17.2.1 v0 18 ≠ 0 then if ob_in (v2 + (5 : Int32)) (S.2.1 (D17.2.1 v0 18)) then (if (D17.1 (D17.2.1 v0 18) (v2 + (5 : Int32)).toNatClampNeg) = 0 then f_Model_divides_L118 S k46 v0 v2 (1 : Int32) (v2 + (5 : Int32)) (D17.2.1 v0 18) D17 else f_Model_divides_L118 S k46 v0 v2 (0 : Int32) (v2 + (5 : Int32)) (D17.2.1 v0 18) D17) else none else none else none else none
theorem v_Model_divides_L94 {l : Launch} {E : ob_E} {S : ob_S} {r : Int32} {D' : ob_D} {k46 : Nat → Int32 → ob_D → Option (Int32 × ob_D)} (hk46 : ∀ (v0 : Nat) (v2 : Int32) (D : ob_D), S.1 v0 = 13 → k46 v0 v2 D = some (r, D') → ob_V l E k_Model_divides 46 [(0, .ref v0), (2, .int v2)] [] S D (some (.int r)) S D') : ∀ (v0 : Nat) (v2 : Int32) (s0 : Int32) (s1 : Int32) (s2 : Nat) (D : ob_D), S.1 v0 = 13 → S.1 s2 = 22 → f_Model_divides_L94 S k46 v0 v2 s0 s1 s2 D = some (r, D') → ob_V l E k_Model_divides 94 [(0, .ref v0), (2, .int v2)] [.int s0, .int s1, .ref s2] S D (some (.int r)) S D' := by
  intro v0 v2 s0 s1 s2 D hp_v0 hp_s2 h
  rw [f_Model_divides_L94] at h
  obtain ⟨hg16, h⟩ := ob_gd h
  replace h := ob_lt_e h
  refine ob_zast d_Model_divides_94 hp_s2 hg16 ?_
  refine ob_aload d_Model_divides_95 rfl ?_
  obtain ⟨hg19, h⟩ := ob_gd h
  refine ob_getR d_Model_divides_96 F_12_18 l_Model_20 hp_v0 hg19 (fun hk18 => ?_)
  refine ob_iload d_Model_divides_99 rfl ?_
  refine ob_push d_Model_divides_100 ?_
  refine ob_iadd d_Model_divides_101 ?_
  refine ob_aload d_Model_divides_102 rfl ?_
  obtain ⟨hg21, h⟩ := ob_gd h
  refine ob_getR d_Model_divides_103 F_12_18 l_Model_20 hp_v0 hg21 (fun hk20 => ?_)
  refine ob_iload d_Model_divides_106 rfl ?_
  refine ob_push d_Model_divides_107 ?_
  refine ob_iadd d_Model_divides_108 ?_
  obtain ⟨hg22, h⟩ := ob_gd h
  refine ob_zald d_Model_divides_109 hk20 hg22 ?_
  refine ob_if_ne d_Model_divides_110 (fun hc => ?_) (fun hc => ?_)
  · replace h := ob_iff hc h
    refine ob_push d_Model_divides_117 ?_
    exact v_Model_divides_L118 hk46 v0 v2 (0 : Int32) (v2 + (5 : Int32)) ((ob_pI D s2 s1.toNatClampNeg (s0 &&& 1)).2.1 v0 18) (ob_pI D s2 s1.toNatClampNeg (s0 &&& 1)) hp_v0 hk18 h
  · replace h := ob_ift hc h
    refine ob_push d_Model_divides_113 ?_
    refine ob_goto d_Model_divides_114 ?_
    exact v_Model_divides_L118 hk46 v0 v2 (1 : Int32) (v2 + (5 : Int32)) ((ob_pI D s2 s1.toNatClampNeg (s0 &&& 1)).2.1 v0 18) (ob_pI D s2 s1.toNatClampNeg (s0 &&& 1)) hp_v0 hk18 h
def f_Model_divides_L46 (S : ob_S) : Nat → Nat → Int32 → ob_D → Option (Int32 × ob_D)
  | 0, _, _, _ => none
  | n + 1, v0, v2, D => (if (63 : Int32) ≤ (v2 + (7 : Int32)) then f_Model_divides_L154 S ob_FU v0 (56 : Int32) D else if D.2.1 v0 18 ≠ 0 then if ob_in v2 (S.2.1 (D.2.1 v0 18)) then (if (D.1 (D.2.1 v0 18) v2.toNatClampNeg) = 0 then f_Model_divides_L46 S n v0 (v2 + (1 : Int32)) D else if D.2.1 v0 18 ≠ 0 then if ob_in v2 (S.2.1 (D.2.1 v0 18)) then ob_lt (ob_pI D (D.2.1 v0 18) v2.toNatClampNeg ((0 : Int32) &&& 1)) fun D10 => if D10.2.1 v0 18 ≠ 0 then if D10.2.1 v0 18 ≠ 0 then if ob_in (v2 + (1 : Int32)) (S.2.1 (D10.2.1 v0 18)) then (if (D10.1 (D10.2.1 v0 18) (v2 + (1 : Int32)).toNatClampNeg) = 0 then f_Model_divides_L94 S (fun a0 a1 d => f_Model_divides_L46 S n a0 a1 d) v0 v2 (1 : Int32) (v2 + (1 : Int32)) (D10.2.1 v0 18) D10 else f_Model_divides_L94 S (fun a0 a1 d => f_Model_divides_L46 S n a0 a1 d) v0 v2 (0 : Int32) (v2 + (1 : Int32)) (D10.2.1 v0 18) D10) else none else none else none else none else none) else none else none)
theorem v_Model_divides_L46 {l : Launch} {E : ob_E} {S : ob_S} {r : Int32} {D' : ob_D} : ∀ (n : Nat), ∀ (v0 : Nat) (v2 : Int32) (D : ob_D), S.1 v0 = 13 → f_Model_divides_L46 S n v0 v2 D = some (r, D') → ob_V l E k_Model_divides 46 [(0, .ref v0), (2, .int v2)] [] S D (some (.int r)) S D' := by
  intro n
  induction n with
  | zero =>
    intro v0 v2 D hp_v0 h
    have h : none = some (r, D') := h
    cases h
  | succ n ih =>
    intro v0 v2 D hp_v0 h
    rw [f_Model_divides_L46] at h
    refine ob_iload d_Model_divides_46 rfl ?_
    refine ob_push d_Model_divides_47 ?_
    refine ob_iadd d_Model_divides_49 ?_
    refine ob_push d_Model_divides_50 ?_
    refine ob_icmp_ge d_Model_divides_52 (fun hc => ?_) (fun hc => ?_)
    · replace h := ob_ift hc h
      refine ob_push d_Model_divides_151 ?_
      refine ob_istore (lo2 := [(0, .ref v0), (2, .int (56 : Int32))]) d_Model_divides_153 rfl ?_
      exact v_Model_divides_L154 ob_FU v0 (56 : Int32) D hp_v0 h
    · replace h := ob_iff hc h
      refine ob_aload d_Model_divides_55 rfl ?_
      obtain ⟨hg5, h⟩ := ob_gd h
      refine ob_getR d_Model_divides_56 F_12_18 l_Model_20 hp_v0 hg5 (fun hk4 => ?_)
      refine ob_iload d_Model_divides_59 rfl ?_
      obtain ⟨hg6, h⟩ := ob_gd h
      refine ob_zald d_Model_divides_60 hk4 hg6 ?_
      refine ob_if_eq d_Model_divides_61 (fun hc => ?_) (fun hc => ?_)
      · replace h := ob_ift hc h
        refine ob_iinc (lo2 := [(0, .ref v0), (2, .int (v2 + (1 : Int32)))]) d_Model_divides_145 rfl rfl ?_
        refine ob_goto d_Model_divides_148 ?_
        exact ih v0 (v2 + (1 : Int32)) D hp_v0 h
      · replace h := ob_iff hc h
        refine ob_aload d_Model_divides_64 rfl ?_
        obtain ⟨hg8, h⟩ := ob_gd h
        refine ob_getR d_Model_divides_65 F_12_18 l_Model_20 hp_v0 hg8 (fun hk7 => ?_)
        refine ob_iload d_Model_divides_68 rfl ?_
        refine ob_push d_Model_divides_69 ?_
        obtain ⟨hg9, h⟩ := ob_gd h
        replace h := ob_lt_e h
        refine ob_zast d_Model_divides_70 hk7 hg9 ?_
        refine ob_aload d_Model_divides_71 rfl ?_
        obtain ⟨hg12, h⟩ := ob_gd h
        refine ob_getR d_Model_divides_72 F_12_18 l_Model_20 hp_v0 hg12 (fun hk11 => ?_)
        refine ob_iload d_Model_divides_75 rfl ?_
        refine ob_push d_Model_divides_76 ?_
        refine ob_iadd d_Model_divides_77 ?_
        refine ob_aload d_Model_divides_78 rfl ?_
        obtain ⟨hg14, h⟩ := ob_gd h
        refine ob_getR d_Model_divides_79 F_12_18 l_Model_20 hp_v0 hg14 (fun hk13 => ?_)
        refine ob_iload d_Model_divides_82 rfl ?_
        refine ob_push d_Model_divides_83 ?_
        refine ob_iadd d_Model_divides_84 ?_
        obtain ⟨hg15, h⟩ := ob_gd h
        refine ob_zald d_Model_divides_85 hk13 hg15 ?_
        refine ob_if_ne d_Model_divides_86 (fun hc => ?_) (fun hc => ?_)
        · replace h := ob_iff hc h
          refine ob_push d_Model_divides_93 ?_
          exact v_Model_divides_L94 ih v0 v2 (0 : Int32) (v2 + (1 : Int32)) ((ob_pI D (D.2.1 v0 18) v2.toNatClampNeg ((0 : Int32) &&& 1)).2.1 v0 18) (ob_pI D (D.2.1 v0 18) v2.toNatClampNeg ((0 : Int32) &&& 1)) hp_v0 hk11 h
        · replace h := ob_ift hc h
          refine ob_push d_Model_divides_89 ?_
          refine ob_goto d_Model_divides_90 ?_
          exact v_Model_divides_L94 ih v0 v2 (1 : Int32) (v2 + (1 : Int32)) ((ob_pI D (D.2.1 v0 18) v2.toNatClampNeg ((0 : Int32) &&& 1)).2.1 v0 18) (ob_pI D (D.2.1 v0 18) v2.toNatClampNeg ((0 : Int32) &&& 1)) hp_v0 hk11 h
def f_Model_divides_L29 (S : ob_S) (k2 : Nat → Int32 → Int32 → ob_D → Option (Int32 × ob_D)) (v0 : Nat) (v1 : Int32) (v2 : Int32) (s0 : Int32) (s1 : Int32) (s2 : Int32) (s3 : Nat) (D : ob_D) : Option (Int32 × ob_D) :=
  (if s1 = s0 then if ob_in s2 (S.2.1 s3) then ob_lt (ob_pI D s3 s2.toNatClampNeg ((0 : Int32) &&& 1)) fun D40 => k2 v0 v1 (v2 + (1 : Int32)) D40 else none else if ob_in s2 (S.2.1 s3) then ob_lt (ob_pI D s3 s2.toNatClampNeg ((1 : Int32) &&& 1)) fun D42 => k2 v0 v1 (v2 + (1 : Int32)) D42 else none)
theorem v_Model_divides_L29 {l : Launch} {E : ob_E} {S : ob_S} {r : Int32} {D' : ob_D} {k2 : Nat → Int32 → Int32 → ob_D → Option (Int32 × ob_D)} (hk2 : ∀ (v0 : Nat) (v1 : Int32) (v2 : Int32) (D : ob_D), S.1 v0 = 13 → k2 v0 v1 v2 D = some (r, D') → ob_V l E k_Model_divides 2 [(0, .ref v0), (1, .int v1), (2, .int v2)] [] S D (some (.int r)) S D') : ∀ (v0 : Nat) (v1 : Int32) (v2 : Int32) (s0 : Int32) (s1 : Int32) (s2 : Int32) (s3 : Nat) (D : ob_D), S.1 v0 = 13 → S.1 s3 = 22 → f_Model_divides_L29 S k2 v0 v1 v2 s0 s1 s2 s3 D = some (r, D') → ob_V l E k_Model_divides 29 [(0, .ref v0), (1, .int v1), (2, .int v2)] [.int s0, .int s1, .int s2, .ref s3] S D (some (.int r)) S D' := by
  intro v0 v1 v2 s0 s1 s2 s3 D hp_v0 hp_s3 h
  rw [f_Model_divides_L29] at h
  refine ob_icmp_eq d_Model_divides_29 (fun hc => ?_) (fun hc => ?_)
  · replace h := ob_ift hc h
    refine ob_push d_Model_divides_36 ?_
    obtain ⟨hg39, h⟩ := ob_gd h
    replace h := ob_lt_e h
    refine ob_zast d_Model_divides_37 hp_s3 hg39 ?_
    refine ob_iinc (lo2 := [(0, .ref v0), (1, .int v1), (2, .int (v2 + (1 : Int32)))]) d_Model_divides_38 rfl rfl ?_
    refine ob_goto d_Model_divides_41 ?_
    exact hk2 v0 v1 (v2 + (1 : Int32)) (ob_pI D s3 s2.toNatClampNeg ((0 : Int32) &&& 1)) hp_v0 h
  · replace h := ob_iff hc h
    refine ob_push d_Model_divides_32 ?_
    refine ob_goto d_Model_divides_33 ?_
    obtain ⟨hg41, h⟩ := ob_gd h
    replace h := ob_lt_e h
    refine ob_zast d_Model_divides_37 hp_s3 hg41 ?_
    refine ob_iinc (lo2 := [(0, .ref v0), (1, .int v1), (2, .int (v2 + (1 : Int32)))]) d_Model_divides_38 rfl rfl ?_
    refine ob_goto d_Model_divides_41 ?_
    exact hk2 v0 v1 (v2 + (1 : Int32)) (ob_pI D s3 s2.toNatClampNeg ((1 : Int32) &&& 1)) hp_v0 h
def f_Model_divides_L2 (S : ob_S) : Nat → Nat → Int32 → Int32 → ob_D → Option (Int32 × ob_D)
  | 0, _, _, _, _ => none
  | n + 1, v0, v1, v2, D => (if (63 : Int32) ≤ v2 then f_Model_divides_L46 S ob_FU v0 (0 : Int32) D else if D.2.1 v0 18 ≠ 0 then if D.2.1 v0 11 ≠ 0 then if ob_in v2 (S.2.1 (D.2.1 v0 11)) then (if v2 = v1 then f_Model_divides_L29 S (fun a0 a1 a2 d => f_Model_divides_L2 S n a0 a1 a2 d) v0 v1 v2 (1 : Int32) (D.1 (D.2.1 v0 11) v2.toNatClampNeg) v2 (D.2.1 v0 18) D else f_Model_divides_L29 S (fun a0 a1 a2 d => f_Model_divides_L2 S n a0 a1 a2 d) v0 v1 v2 (0 : Int32) (D.1 (D.2.1 v0 11) v2.toNatClampNeg) v2 (D.2.1 v0 18) D) else none else none else none)
theorem v_Model_divides_L2 {l : Launch} {E : ob_E} {S : ob_S} {r : Int32} {D' : ob_D} : ∀ (n : Nat), ∀ (v0 : Nat) (v1 : Int32) (v2 : Int32) (D : ob_D), S.1 v0 = 13 → f_Model_divides_L2 S n v0 v1 v2 D = some (r, D') → ob_V l E k_Model_divides 2 [(0, .ref v0), (1, .int v1), (2, .int v2)] [] S D (some (.int r)) S D' := by
  intro n
  induction n with
  | zero =>
    intro v0 v1 v2 D hp_v0 h
    have h : none = some (r, D') := h
    cases h
  | succ n ih =>
    intro v0 v1 v2 D hp_v0 h
    rw [f_Model_divides_L2] at h
    refine ob_iload d_Model_divides_2 rfl ?_
    refine ob_push d_Model_divides_3 ?_
    refine ob_icmp_ge d_Model_divides_5 (fun hc => ?_) (fun hc => ?_)
    · replace h := ob_ift hc h
      refine ob_push d_Model_divides_44 ?_
      refine ob_istore (lo2 := [(0, .ref v0), (1, .int v1), (2, .int (0 : Int32))]) d_Model_divides_45 rfl ?_
      refine ob_sub (lo2 := [(0, .ref v0), (2, .int (0 : Int32))]) [0, 2] rfl ?_
      exact v_Model_divides_L46 ob_FU v0 (0 : Int32) D hp_v0 h
    · replace h := ob_iff hc h
      refine ob_aload d_Model_divides_8 rfl ?_
      obtain ⟨hg35, h⟩ := ob_gd h
      refine ob_getR d_Model_divides_9 F_12_18 l_Model_20 hp_v0 hg35 (fun hk34 => ?_)
      refine ob_iload d_Model_divides_12 rfl ?_
      refine ob_aload d_Model_divides_13 rfl ?_
      obtain ⟨hg37, h⟩ := ob_gd h
      refine ob_getR d_Model_divides_14 F_12_11 l_Model_13 hp_v0 hg37 (fun hk36 => ?_)
      refine ob_iload d_Model_divides_17 rfl ?_
      obtain ⟨hg38, h⟩ := ob_gd h
      refine ob_zald d_Model_divides_18 hk36 hg38 ?_
      refine ob_iload d_Model_divides_19 rfl ?_
      refine ob_iload d_Model_divides_20 rfl ?_
      refine ob_icmp_ne d_Model_divides_21 (fun hc => ?_) (fun hc => ?_)
      · replace h := ob_iff hc h
        refine ob_push d_Model_divides_28 ?_
        exact v_Model_divides_L29 ih v0 v1 v2 (0 : Int32) (D.1 (D.2.1 v0 11) v2.toNatClampNeg) v2 (D.2.1 v0 18) D hp_v0 hk34 h
      · replace h := ob_ift hc h
        refine ob_push d_Model_divides_24 ?_
        refine ob_goto d_Model_divides_25 ?_
        exact v_Model_divides_L29 ih v0 v1 v2 (1 : Int32) (D.1 (D.2.1 v0 11) v2.toNatClampNeg) v2 (D.2.1 v0 18) D hp_v0 hk34 h
def f_Model_divides (S : ob_S) (v0 : Nat) (v1 : Int32) (D : ob_D) : Option (Int32 × ob_D) :=
  f_Model_divides_L2 S ob_FU v0 v1 (0 : Int32) D
theorem c_Model_divides {l : Launch} {E : ob_E} {S : ob_S} {D : ob_D} {v0 : Nat} {v1 : Int32} {r : Int32} {D' : ob_D} (hp_v0 : S.1 v0 = 13) (h : f_Model_divides S v0 v1 D = some (r, D')) : ob_M l E k_Model_divides [.ref v0, .int v1] S D (some (.int r)) S D' := by
  refine ob_ofV (lo := [(0, .ref v0), (1, .int v1)]) (by decide) rfl (Nat.le_of_ble_eq_true rfl) rfl (Nat.le_refl _) (Nat.le_refl _) ?_
  rw [f_Model_divides] at h
  refine ob_push d_Model_divides_0 ?_
  refine ob_istore (lo2 := [(0, .ref v0), (1, .int v1), (2, .int (0 : Int32))]) d_Model_divides_1 rfl ?_
  exact v_Model_divides_L2 ob_FU v0 v1 (0 : Int32) D hp_v0 h
-- OrbitBoxModel.two([BI)I
theorem d_Model_two_3 : ob_dk k_Model_two 3 6 (255 : Int32) (.sipush 255) 3 := ⟨by decide +kernel, rfl, show (Int16.ofInt 255).toInt32 = (255 : Int32) by decide +kernel⟩
theorem d_Model_two_7 : ob_dk k_Model_two 7 10 (256 : Int32) (.sipush 256) 3 := ⟨by decide +kernel, rfl, show (Int16.ofInt 256).toInt32 = (256 : Int32) by decide +kernel⟩
theorem d_Model_two_13 : ob_dk k_Model_two 13 14 (1 : Int32) (.iconst 1) 1 := ⟨by decide +kernel, rfl, show Int32.ofInt 1 = (1 : Int32) by decide +kernel⟩
theorem d_Model_two_16 : ob_dk k_Model_two 16 19 (255 : Int32) (.sipush 255) 3 := ⟨by decide +kernel, rfl, show (Int16.ofInt 255).toInt32 = (255 : Int32) by decide +kernel⟩
theorem d_Model_two_21 : ob_dc k_Model_two 21 (.ireturn) 1 22 := ⟨by decide +kernel, rfl⟩
theorem d_Model_two_20 : ob_dc k_Model_two 20 (.iadd) 1 21 := ⟨by decide +kernel, rfl⟩
theorem d_Model_two_19 : ob_dc k_Model_two 19 (.iand) 1 20 := ⟨by decide +kernel, rfl⟩
theorem d_Model_two_15 : ob_dc k_Model_two 15 (.baload) 1 16 := ⟨by decide +kernel, rfl⟩
theorem d_Model_two_14 : ob_dc k_Model_two 14 (.iadd) 1 15 := ⟨by decide +kernel, rfl⟩
theorem d_Model_two_12 : ob_dv ob_lc k_Model_two 12 13 1 (.iload_n 1) 1 := ⟨by decide +kernel, rfl, rfl⟩
theorem d_Model_two_11 : ob_dv ob_ac k_Model_two 11 12 0 (.aload_n 0) 1 := ⟨by decide +kernel, rfl, rfl⟩
theorem d_Model_two_10 : ob_dc k_Model_two 10 (.imul) 1 11 := ⟨by decide +kernel, rfl⟩
theorem d_Model_two_6 : ob_dc k_Model_two 6 (.iand) 1 7 := ⟨by decide +kernel, rfl⟩
theorem d_Model_two_2 : ob_dc k_Model_two 2 (.baload) 1 3 := ⟨by decide +kernel, rfl⟩
theorem d_Model_two_1 : ob_dv ob_lc k_Model_two 1 2 1 (.iload_n 1) 1 := ⟨by decide +kernel, rfl, rfl⟩
theorem d_Model_two_0 : ob_dv ob_ac k_Model_two 0 1 0 (.aload_n 0) 1 := ⟨by decide +kernel, rfl, rfl⟩
def f_Model_two (S : ob_S) (v0 : Nat) (v1 : Int32) (D : ob_D) : Option (Int32 × ob_D) :=
  if ob_in v1 (S.2.1 v0) then if ob_in (v1 + (1 : Int32)) (S.2.1 v0) then some ((((D.1 v0 v1.toNatClampNeg) &&& (255 : Int32)) * (256 : Int32)) + ((D.1 v0 (v1 + (1 : Int32)).toNatClampNeg) &&& (255 : Int32)), D) else none else none
theorem c_Model_two {l : Launch} {E : ob_E} {S : ob_S} {D : ob_D} {v0 : Nat} {v1 : Int32} {r : Int32} {D' : ob_D} (hp_v0 : S.1 v0 = 21) (h : f_Model_two S v0 v1 D = some (r, D')) : ob_M l E k_Model_two [.ref v0, .int v1] S D (some (.int r)) S D' := by
  refine ob_ofV (lo := [(0, .ref v0), (1, .int v1)]) (by decide) rfl (Nat.le_of_ble_eq_true rfl) rfl (Nat.le_refl _) (Nat.le_refl _) ?_
  rw [f_Model_two] at h
  refine ob_aload d_Model_two_0 rfl ?_
  refine ob_iload d_Model_two_1 rfl ?_
  obtain ⟨hg1, h⟩ := ob_gd h
  refine ob_bald d_Model_two_2 hp_v0 hg1 ?_
  refine ob_push d_Model_two_3 ?_
  refine ob_iand d_Model_two_6 ?_
  refine ob_push d_Model_two_7 ?_
  refine ob_imul d_Model_two_10 ?_
  refine ob_aload d_Model_two_11 rfl ?_
  refine ob_iload d_Model_two_12 rfl ?_
  refine ob_push d_Model_two_13 ?_
  refine ob_iadd d_Model_two_14 ?_
  obtain ⟨hg2, h⟩ := ob_gd h
  refine ob_bald d_Model_two_15 hp_v0 hg2 ?_
  refine ob_push d_Model_two_16 ?_
  refine ob_iand d_Model_two_19 ?_
  refine ob_iadd d_Model_two_20 ?_
  exact ob_ie h (ob_iret d_Model_two_21 rfl rfl)
-- OrbitBoxModel.check([BII)I
theorem d_Model_check_3 : ob_dk k_Model_check 3 4 (0 : Int32) (.iconst 0) 1 := ⟨by decide +kernel, rfl, show Int32.ofInt 0 = (0 : Int32) by decide +kernel⟩
theorem d_Model_check_67 : ob_dc k_Model_check 67 (.ireturn) 1 68 := ⟨by decide +kernel, rfl⟩
theorem d_Model_check_66 : ob_dv ob_lc k_Model_check 66 67 3 (.iload_n 3) 1 := ⟨by decide +kernel, rfl, rfl⟩
theorem d_Model_check_19 : ob_dk k_Model_check 19 22 (255 : Int32) (.sipush 255) 3 := ⟨by decide +kernel, rfl, show (Int16.ofInt 255).toInt32 = (255 : Int32) by decide +kernel⟩
theorem d_Model_check_23 : ob_dk k_Model_check 23 26 (256 : Int32) (.sipush 256) 3 := ⟨by decide +kernel, rfl, show (Int16.ofInt 256).toInt32 = (256 : Int32) by decide +kernel⟩
theorem d_Model_check_29 : ob_dk k_Model_check 29 30 (0 : Int32) (.iconst 0) 1 := ⟨by decide +kernel, rfl, show Int32.ofInt 0 = (0 : Int32) by decide +kernel⟩
theorem d_Model_check_34 : ob_dk k_Model_check 34 36 (8 : Int32) (.bipush 8) 2 := ⟨by decide +kernel, rfl, show (Int8.ofInt 8).toInt32 = (8 : Int32) by decide +kernel⟩
theorem d_Model_check_60 : ob_di k_Model_check 60 63 4 1 (1 : Int32) := ⟨by decide +kernel, rfl, by decide +kernel, by decide +kernel⟩
theorem d_Model_check_63 : ob_db k_Model_check 63 (.goto (-57)) (-57) 66 6 := ⟨by decide +kernel, rfl, by decide⟩
theorem d_Model_check_40 : ob_dk k_Model_check 40 41 (2 : Int32) (.iconst 2) 1 := ⟨by decide +kernel, rfl, show Int32.ofInt 2 = (2 : Int32) by decide +kernel⟩
theorem d_Model_check_54 : ob_di k_Model_check 54 57 5 1 (1 : Int32) := ⟨by decide +kernel, rfl, by decide +kernel, by decide +kernel⟩
theorem d_Model_check_57 : ob_db k_Model_check 57 (.goto (-25)) (-25) 60 32 := ⟨by decide +kernel, rfl, by decide⟩
theorem d_Model_check_53 : ob_dv (ob_sc k_Model_check.2.2.2.1) k_Model_check 53 54 3 (.istore_n 3) 1 := ⟨by decide +kernel, rfl, ⟨rfl, by decide +kernel⟩⟩
theorem d_Model_check_52 : ob_dc k_Model_check 52 (.ixor) 1 53 := ⟨by decide +kernel, rfl⟩
theorem d_Model_check_50 : ob_dc k_Model_check 50 (.ldc 179) 2 52 := ⟨by decide +kernel, rfl⟩
theorem d_Model_check_49 : ob_dv ob_lc k_Model_check 49 50 3 (.iload_n 3) 1 := ⟨by decide +kernel, rfl, rfl⟩
theorem d_Model_check_46 : ob_db k_Model_check 46 (.if_icmp .lt 8) 8 49 54 := ⟨by decide +kernel, rfl, by decide⟩
theorem d_Model_check_44 : ob_dc k_Model_check 44 (.ldc 178) 2 46 := ⟨by decide +kernel, rfl⟩
theorem d_Model_check_43 : ob_dv ob_lc k_Model_check 43 44 3 (.iload_n 3) 1 := ⟨by decide +kernel, rfl, rfl⟩
theorem d_Model_check_42 : ob_dv (ob_sc k_Model_check.2.2.2.1) k_Model_check 42 43 3 (.istore_n 3) 1 := ⟨by decide +kernel, rfl, ⟨rfl, by decide +kernel⟩⟩
theorem d_Model_check_41 : ob_dc k_Model_check 41 (.imul) 1 42 := ⟨by decide +kernel, rfl⟩
theorem d_Model_check_39 : ob_dv ob_lc k_Model_check 39 40 3 (.iload_n 3) 1 := ⟨by decide +kernel, rfl, rfl⟩
theorem d_Model_check_36 : ob_db k_Model_check 36 (.if_icmp .ge 24) 24 39 60 := ⟨by decide +kernel, rfl, by decide⟩
theorem d_Model_check_32 : ob_dv ob_lc k_Model_check 32 34 5 (.iload 5) 2 := ⟨by decide +kernel, rfl, rfl⟩
theorem d_Model_check_30 : ob_dv (ob_sc k_Model_check.2.2.2.1) k_Model_check 30 32 5 (.istore 5) 2 := ⟨by decide +kernel, rfl, ⟨rfl, by decide +kernel⟩⟩
theorem d_Model_check_28 : ob_dv (ob_sc k_Model_check.2.2.2.1) k_Model_check 28 29 3 (.istore_n 3) 1 := ⟨by decide +kernel, rfl, ⟨rfl, by decide +kernel⟩⟩
theorem d_Model_check_27 : ob_dc k_Model_check 27 (.ixor) 1 28 := ⟨by decide +kernel, rfl⟩
theorem d_Model_check_26 : ob_dc k_Model_check 26 (.imul) 1 27 := ⟨by decide +kernel, rfl⟩
theorem d_Model_check_22 : ob_dc k_Model_check 22 (.iand) 1 23 := ⟨by decide +kernel, rfl⟩
theorem d_Model_check_18 : ob_dc k_Model_check 18 (.baload) 1 19 := ⟨by decide +kernel, rfl⟩
theorem d_Model_check_17 : ob_dc k_Model_check 17 (.iadd) 1 18 := ⟨by decide +kernel, rfl⟩
theorem d_Model_check_15 : ob_dv ob_lc k_Model_check 15 17 4 (.iload 4) 2 := ⟨by decide +kernel, rfl, rfl⟩
theorem d_Model_check_14 : ob_dv ob_lc k_Model_check 14 15 1 (.iload_n 1) 1 := ⟨by decide +kernel, rfl, rfl⟩
theorem d_Model_check_13 : ob_dv ob_ac k_Model_check 13 14 0 (.aload_n 0) 1 := ⟨by decide +kernel, rfl, rfl⟩
theorem d_Model_check_12 : ob_dv ob_lc k_Model_check 12 13 3 (.iload_n 3) 1 := ⟨by decide +kernel, rfl, rfl⟩
theorem d_Model_check_9 : ob_db k_Model_check 9 (.if_icmp .ge 57) 57 12 66 := ⟨by decide +kernel, rfl, by decide⟩
theorem d_Model_check_8 : ob_dv ob_lc k_Model_check 8 9 2 (.iload_n 2) 1 := ⟨by decide +kernel, rfl, rfl⟩
theorem d_Model_check_6 : ob_dv ob_lc k_Model_check 6 8 4 (.iload 4) 2 := ⟨by decide +kernel, rfl, rfl⟩
theorem d_Model_check_4 : ob_dv (ob_sc k_Model_check.2.2.2.1) k_Model_check 4 6 4 (.istore 4) 2 := ⟨by decide +kernel, rfl, ⟨rfl, by decide +kernel⟩⟩
theorem d_Model_check_2 : ob_dv (ob_sc k_Model_check.2.2.2.1) k_Model_check 2 3 3 (.istore_n 3) 1 := ⟨by decide +kernel, rfl, ⟨rfl, by decide +kernel⟩⟩
theorem d_Model_check_0 : ob_dc k_Model_check 0 (.ldc 177) 2 2 := ⟨by decide +kernel, rfl⟩
def f_Model_check_L32 (S : ob_S) (k6 : Nat → Int32 → Int32 → Int32 → Int32 → ob_D → Option (Int32 × ob_D)) : Nat → Nat → Int32 → Int32 → Int32 → Int32 → Int32 → ob_D → Option (Int32 × ob_D)
  | 0, _, _, _, _, _, _, _ => none
  | n + 1, v0, v1, v2, v3, v4, v5, D => (if (8 : Int32) ≤ v5 then k6 v0 v1 v2 v3 (v4 + (1 : Int32)) D else (if (v3 * (2 : Int32)) < (65536 : Int32) then f_Model_check_L32 S k6 n v0 v1 v2 (v3 * (2 : Int32)) v4 (v5 + (1 : Int32)) D else f_Model_check_L32 S k6 n v0 v1 v2 ((v3 * (2 : Int32)) ^^^ (69665 : Int32)) v4 (v5 + (1 : Int32)) D))
theorem v_Model_check_L32 {l : Launch} {E : ob_E} {S : ob_S} {r : Int32} {D' : ob_D} {k6 : Nat → Int32 → Int32 → Int32 → Int32 → ob_D → Option (Int32 × ob_D)} (hk6 : ∀ (v0 : Nat) (v1 : Int32) (v2 : Int32) (v3 : Int32) (v4 : Int32) (D : ob_D), S.1 v0 = 21 → k6 v0 v1 v2 v3 v4 D = some (r, D') → ob_V l E k_Model_check 6 [(0, .ref v0), (1, .int v1), (2, .int v2), (3, .int v3), (4, .int v4)] [] S D (some (.int r)) S D') : ∀ (n : Nat), ∀ (v0 : Nat) (v1 : Int32) (v2 : Int32) (v3 : Int32) (v4 : Int32) (v5 : Int32) (D : ob_D), S.1 v0 = 21 → f_Model_check_L32 S k6 n v0 v1 v2 v3 v4 v5 D = some (r, D') → ob_V l E k_Model_check 32 [(0, .ref v0), (1, .int v1), (2, .int v2), (3, .int v3), (4, .int v4), (5, .int v5)] [] S D (some (.int r)) S D' := by
  intro n
  induction n with
  | zero =>
    intro v0 v1 v2 v3 v4 v5 D hp_v0 h
    have h : none = some (r, D') := h
    cases h
  | succ n ih =>
    intro v0 v1 v2 v3 v4 v5 D hp_v0 h
    rw [f_Model_check_L32] at h
    refine ob_iload d_Model_check_32 rfl ?_
    refine ob_push d_Model_check_34 ?_
    refine ob_icmp_ge d_Model_check_36 (fun hc => ?_) (fun hc => ?_)
    · replace h := ob_ift hc h
      refine ob_iinc (lo2 := [(0, .ref v0), (1, .int v1), (2, .int v2), (3, .int v3), (4, .int (v4 + (1 : Int32))), (5, .int v5)]) d_Model_check_60 rfl rfl ?_
      refine ob_goto d_Model_check_63 ?_
      refine ob_sub (lo2 := [(0, .ref v0), (1, .int v1), (2, .int v2), (3, .int v3), (4, .int (v4 + (1 : Int32)))]) [0, 1, 2, 3, 4] rfl ?_
      exact hk6 v0 v1 v2 v3 (v4 + (1 : Int32)) D hp_v0 h
    · replace h := ob_iff hc h
      refine ob_iload d_Model_check_39 rfl ?_
      refine ob_push d_Model_check_40 ?_
      refine ob_imul d_Model_check_41 ?_
      refine ob_istore (lo2 := [(0, .ref v0), (1, .int v1), (2, .int v2), (3, .int (v3 * (2 : Int32))), (4, .int v4), (5, .int v5)]) d_Model_check_42 rfl ?_
      refine ob_iload d_Model_check_43 rfl ?_
      refine ob_ldc (idx := 178) d_Model_check_44 (Or.inl ⟨rfl, rfl⟩) w_1407 ?_
      refine ob_icmp_lt d_Model_check_46 (fun hc => ?_) (fun hc => ?_)
      · replace h := ob_ift hc h
        refine ob_iinc (lo2 := [(0, .ref v0), (1, .int v1), (2, .int v2), (3, .int (v3 * (2 : Int32))), (4, .int v4), (5, .int (v5 + (1 : Int32)))]) d_Model_check_54 rfl rfl ?_
        refine ob_goto d_Model_check_57 ?_
        exact ih v0 v1 v2 (v3 * (2 : Int32)) v4 (v5 + (1 : Int32)) D hp_v0 h
      · replace h := ob_iff hc h
        refine ob_iload d_Model_check_49 rfl ?_
        refine ob_ldc (idx := 179) d_Model_check_50 (Or.inl ⟨rfl, rfl⟩) w_1408 ?_
        refine ob_ixor d_Model_check_52 ?_
        refine ob_istore (lo2 := [(0, .ref v0), (1, .int v1), (2, .int v2), (3, .int ((v3 * (2 : Int32)) ^^^ (69665 : Int32))), (4, .int v4), (5, .int v5)]) d_Model_check_53 rfl ?_
        refine ob_iinc (lo2 := [(0, .ref v0), (1, .int v1), (2, .int v2), (3, .int ((v3 * (2 : Int32)) ^^^ (69665 : Int32))), (4, .int v4), (5, .int (v5 + (1 : Int32)))]) d_Model_check_54 rfl rfl ?_
        refine ob_goto d_Model_check_57 ?_
        exact ih v0 v1 v2 ((v3 * (2 : Int32)) ^^^ (69665 : Int32)) v4 (v5 + (1 : Int32)) D hp_v0 h
def f_Model_check_L6 (S : ob_S) : Nat → Nat → Int32 → Int32 → Int32 → Int32 → ob_D → Option (Int32 × ob_D)
  | 0, _, _, _, _, _, _ => none
  | n + 1, v0, v1, v2, v3, v4, D => (if v2 ≤ v4 then some (v3, D) else if ob_in (v1 + v4) (S.2.1 v0) then ob_lt (v3 ^^^ (((D.1 v0 (v1 + v4).toNatClampNeg) &&& (255 : Int32)) * (256 : Int32))) fun x2 => f_Model_check_L32 S (fun a0 a1 a2 a3 a4 d => f_Model_check_L6 S n a0 a1 a2 a3 a4 d) ob_FU v0 v1 v2 x2 v4 (0 : Int32) D else none)
theorem v_Model_check_L6 {l : Launch} {E : ob_E} {S : ob_S} {r : Int32} {D' : ob_D} : ∀ (n : Nat), ∀ (v0 : Nat) (v1 : Int32) (v2 : Int32) (v3 : Int32) (v4 : Int32) (D : ob_D), S.1 v0 = 21 → f_Model_check_L6 S n v0 v1 v2 v3 v4 D = some (r, D') → ob_V l E k_Model_check 6 [(0, .ref v0), (1, .int v1), (2, .int v2), (3, .int v3), (4, .int v4)] [] S D (some (.int r)) S D' := by
  intro n
  induction n with
  | zero =>
    intro v0 v1 v2 v3 v4 D hp_v0 h
    have h : none = some (r, D') := h
    cases h
  | succ n ih =>
    intro v0 v1 v2 v3 v4 D hp_v0 h
    rw [f_Model_check_L6] at h
    refine ob_iload d_Model_check_6 rfl ?_
    refine ob_iload d_Model_check_8 rfl ?_
    refine ob_icmp_ge d_Model_check_9 (fun hc => ?_) (fun hc => ?_)
    · replace h := ob_ift hc h
      refine ob_iload d_Model_check_66 rfl ?_
      exact ob_ie h (ob_iret d_Model_check_67 rfl rfl)
    · replace h := ob_iff hc h
      refine ob_iload d_Model_check_12 rfl ?_
      refine ob_aload d_Model_check_13 rfl ?_
      refine ob_iload d_Model_check_14 rfl ?_
      refine ob_iload d_Model_check_15 rfl ?_
      refine ob_iadd d_Model_check_17 ?_
      obtain ⟨hg1, h⟩ := ob_gd h
      refine ob_bald d_Model_check_18 hp_v0 hg1 ?_
      refine ob_push d_Model_check_19 ?_
      refine ob_iand d_Model_check_22 ?_
      refine ob_push d_Model_check_23 ?_
      refine ob_imul d_Model_check_26 ?_
      refine ob_ixor d_Model_check_27 ?_
      replace h := ob_lt_e h
      refine ob_istore (lo2 := [(0, .ref v0), (1, .int v1), (2, .int v2), (3, .int (v3 ^^^ (((D.1 v0 (v1 + v4).toNatClampNeg) &&& (255 : Int32)) * (256 : Int32)))), (4, .int v4)]) d_Model_check_28 rfl ?_
      refine ob_push d_Model_check_29 ?_
      refine ob_istore (lo2 := [(0, .ref v0), (1, .int v1), (2, .int v2), (3, .int (v3 ^^^ (((D.1 v0 (v1 + v4).toNatClampNeg) &&& (255 : Int32)) * (256 : Int32)))), (4, .int v4), (5, .int (0 : Int32))]) d_Model_check_30 rfl ?_
      exact v_Model_check_L32 ih ob_FU v0 v1 v2 (v3 ^^^ (((D.1 v0 (v1 + v4).toNatClampNeg) &&& (255 : Int32)) * (256 : Int32))) v4 (0 : Int32) D hp_v0 h
def f_Model_check (S : ob_S) (v0 : Nat) (v1 : Int32) (v2 : Int32) (D : ob_D) : Option (Int32 × ob_D) :=
  f_Model_check_L6 S ob_FU v0 v1 v2 (65535 : Int32) (0 : Int32) D
theorem c_Model_check {l : Launch} {E : ob_E} {S : ob_S} {D : ob_D} {v0 : Nat} {v1 : Int32} {v2 : Int32} {r : Int32} {D' : ob_D} (hp_v0 : S.1 v0 = 21) (h : f_Model_check S v0 v1 v2 D = some (r, D')) : ob_M l E k_Model_check [.ref v0, .int v1, .int v2] S D (some (.int r)) S D' := by
  refine ob_ofV (lo := [(0, .ref v0), (1, .int v1), (2, .int v2)]) (by decide) rfl (Nat.le_of_ble_eq_true rfl) rfl (Nat.le_refl _) (Nat.le_refl _) ?_
  rw [f_Model_check] at h
  refine ob_ldc (idx := 177) d_Model_check_0 (Or.inl ⟨rfl, rfl⟩) w_1406 ?_
  refine ob_istore (lo2 := [(0, .ref v0), (1, .int v1), (2, .int v2), (3, .int (65535 : Int32))]) d_Model_check_2 rfl ?_
  refine ob_push d_Model_check_3 ?_
  refine ob_istore (lo2 := [(0, .ref v0), (1, .int v1), (2, .int v2), (3, .int (65535 : Int32)), (4, .int (0 : Int32))]) d_Model_check_4 rfl ?_
  exact v_Model_check_L6 ob_FU v0 v1 v2 (65535 : Int32) (0 : Int32) D hp_v0 h
-- OrbitBoxModel.valid()Z
theorem d_Model_valid_4 : ob_dk k_Model_valid 4 5 (0 : Int32) (.iconst 0) 1 := ⟨by decide +kernel, rfl, show Int32.ofInt 0 = (0 : Int32) by decide +kernel⟩
theorem d_Model_valid_13 : ob_dk k_Model_valid 13 14 (2 : Int32) (.iconst 2) 1 := ⟨by decide +kernel, rfl, show Int32.ofInt 2 = (2 : Int32) by decide +kernel⟩
theorem d_Model_valid_19 : ob_dk k_Model_valid 19 22 (1023 : Int32) (.sipush 1023) 3 := ⟨by decide +kernel, rfl, show (Int16.ofInt 1023).toInt32 = (1023 : Int32) by decide +kernel⟩
theorem d_Model_valid_23 : ob_dk k_Model_valid 23 24 (1 : Int32) (.iconst 1) 1 := ⟨by decide +kernel, rfl, show Int32.ofInt 1 = (1 : Int32) by decide +kernel⟩
theorem d_Model_valid_27 : ob_dk k_Model_valid 27 29 (14 : Int32) (.bipush 14) 2 := ⟨by decide +kernel, rfl, show (Int8.ofInt 14).toInt32 = (14 : Int32) by decide +kernel⟩
theorem d_Model_valid_60 : ob_dk k_Model_valid 60 61 (0 : Int32) (.iconst 0) 1 := ⟨by decide +kernel, rfl, show Int32.ofInt 0 = (0 : Int32) by decide +kernel⟩
theorem d_Model_valid_61 : ob_dc k_Model_valid 61 (.ireturn) 1 62 := ⟨by decide +kernel, rfl⟩
theorem d_Model_valid_34 : ob_dk k_Model_valid 34 36 (10 : Int32) (.bipush 10) 2 := ⟨by decide +kernel, rfl, show (Int8.ofInt 10).toInt32 = (10 : Int32) by decide +kernel⟩
theorem d_Model_valid_37 : ob_dk k_Model_valid 37 38 (3 : Int32) (.iconst 3) 1 := ⟨by decide +kernel, rfl, show Int32.ofInt 3 = (3 : Int32) by decide +kernel⟩
theorem d_Model_valid_43 : ob_dk k_Model_valid 43 46 (1023 : Int32) (.sipush 1023) 3 := ⟨by decide +kernel, rfl, show (Int16.ofInt 1023).toInt32 = (1023 : Int32) by decide +kernel⟩
theorem d_Model_valid_47 : ob_dk k_Model_valid 47 50 (346 : Int32) (.sipush 346) 3 := ⟨by decide +kernel, rfl, show (Int16.ofInt 346).toInt32 = (346 : Int32) by decide +kernel⟩
theorem d_Model_valid_54 : ob_dk k_Model_valid 54 56 (10 : Int32) (.bipush 10) 2 := ⟨by decide +kernel, rfl, show (Int8.ofInt 10).toInt32 = (10 : Int32) by decide +kernel⟩
theorem d_Model_valid_63 : ob_dk k_Model_valid 63 65 (8 : Int32) (.bipush 8) 2 := ⟨by decide +kernel, rfl, show (Int8.ofInt 8).toInt32 = (8 : Int32) by decide +kernel⟩
theorem d_Model_valid_88 : ob_dk k_Model_valid 88 89 (0 : Int32) (.iconst 0) 1 := ⟨by decide +kernel, rfl, show Int32.ofInt 0 = (0 : Int32) by decide +kernel⟩
theorem d_Model_valid_89 : ob_dc k_Model_valid 89 (.ireturn) 1 90 := ⟨by decide +kernel, rfl⟩
theorem d_Model_valid_80 : ob_dk k_Model_valid 80 81 (0 : Int32) (.iconst 0) 1 := ⟨by decide +kernel, rfl, show Int32.ofInt 0 = (0 : Int32) by decide +kernel⟩
theorem d_Model_valid_91 : ob_dk k_Model_valid 91 94 (8192 : Int32) (.sipush 8192) 3 := ⟨by decide +kernel, rfl, show (Int16.ofInt 8192).toInt32 = (8192 : Int32) by decide +kernel⟩
theorem d_Model_valid_102 : ob_dk k_Model_valid 102 103 (0 : Int32) (.iconst 0) 1 := ⟨by decide +kernel, rfl, show Int32.ofInt 0 = (0 : Int32) by decide +kernel⟩
theorem d_Model_valid_106 : ob_dk k_Model_valid 106 109 (4096 : Int32) (.sipush 4096) 3 := ⟨by decide +kernel, rfl, show (Int16.ofInt 4096).toInt32 = (4096 : Int32) by decide +kernel⟩
theorem d_Model_valid_117 : ob_dk k_Model_valid 117 118 (0 : Int32) (.iconst 0) 1 := ⟨by decide +kernel, rfl, show Int32.ofInt 0 = (0 : Int32) by decide +kernel⟩
theorem d_Model_valid_135 : ob_dk k_Model_valid 135 137 (8 : Int32) (.bipush 8) 2 := ⟨by decide +kernel, rfl, show (Int8.ofInt 8).toInt32 = (8 : Int32) by decide +kernel⟩
theorem d_Model_valid_150 : ob_dk k_Model_valid 150 152 (10 : Int32) (.bipush 10) 2 := ⟨by decide +kernel, rfl, show (Int8.ofInt 10).toInt32 = (10 : Int32) by decide +kernel⟩
theorem d_Model_valid_180 : ob_dk k_Model_valid 180 181 (0 : Int32) (.iconst 0) 1 := ⟨by decide +kernel, rfl, show Int32.ofInt 0 = (0 : Int32) by decide +kernel⟩
theorem d_Model_valid_181 : ob_dc k_Model_valid 181 (.ireturn) 1 182 := ⟨by decide +kernel, rfl⟩
theorem d_Model_valid_159 : ob_dk k_Model_valid 159 160 (5 : Int32) (.iconst 5) 1 := ⟨by decide +kernel, rfl, show Int32.ofInt 5 = (5 : Int32) by decide +kernel⟩
theorem d_Model_valid_161 : ob_dk k_Model_valid 161 163 (-126 : Int32) (.bipush (-126)) 2 := ⟨by decide +kernel, rfl, show (Int8.ofInt (-126)).toInt32 = (-126 : Int32) by decide +kernel⟩
theorem d_Model_valid_170 : ob_dk k_Model_valid 170 172 (6 : Int32) (.bipush 6) 2 := ⟨by decide +kernel, rfl, show (Int8.ofInt 6).toInt32 = (6 : Int32) by decide +kernel⟩
theorem d_Model_valid_176 : ob_dk k_Model_valid 176 177 (1 : Int32) (.iconst 1) 1 := ⟨by decide +kernel, rfl, show Int32.ofInt 1 = (1 : Int32) by decide +kernel⟩
theorem d_Model_valid_177 : ob_db k_Model_valid 177 (.goto 4) 4 180 181 := ⟨by decide +kernel, rfl, by decide⟩
theorem d_Model_valid_173 : ob_db k_Model_valid 173 (.ifCond .ne 7) 7 176 180 := ⟨by decide +kernel, rfl, by decide⟩
theorem d_Model_valid_172 : ob_dc k_Model_valid 172 (.baload) 1 173 := ⟨by decide +kernel, rfl⟩
theorem d_Model_valid_167 : ob_dc k_Model_valid 167 (.getfield 17) 3 170 := ⟨by decide +kernel, rfl⟩
theorem d_Model_valid_166 : ob_dv ob_ac k_Model_valid 166 167 0 (.aload_n 0) 1 := ⟨by decide +kernel, rfl, rfl⟩
theorem d_Model_valid_163 : ob_db k_Model_valid 163 (.if_icmp .ne 17) 17 166 180 := ⟨by decide +kernel, rfl, by decide⟩
theorem d_Model_valid_160 : ob_dc k_Model_valid 160 (.baload) 1 161 := ⟨by decide +kernel, rfl⟩
theorem d_Model_valid_156 : ob_dc k_Model_valid 156 (.getfield 17) 3 159 := ⟨by decide +kernel, rfl⟩
theorem d_Model_valid_155 : ob_dv ob_ac k_Model_valid 155 156 0 (.aload_n 0) 1 := ⟨by decide +kernel, rfl, rfl⟩
theorem d_Model_valid_152 : ob_db k_Model_valid 152 (.if_icmp .ne 28) 28 155 180 := ⟨by decide +kernel, rfl, by decide⟩
theorem d_Model_valid_149 : ob_dv ob_lc k_Model_valid 149 150 3 (.iload_n 3) 1 := ⟨by decide +kernel, rfl, rfl⟩
theorem d_Model_valid_144 : ob_dk k_Model_valid 144 145 (5 : Int32) (.iconst 5) 1 := ⟨by decide +kernel, rfl, show Int32.ofInt 5 = (5 : Int32) by decide +kernel⟩
theorem d_Model_valid_146 : ob_db k_Model_valid 146 (.ifCond .eq 30) 30 149 176 := ⟨by decide +kernel, rfl, by decide⟩
theorem d_Model_valid_145 : ob_dc k_Model_valid 145 (.baload) 1 146 := ⟨by decide +kernel, rfl⟩
theorem d_Model_valid_141 : ob_dc k_Model_valid 141 (.getfield 17) 3 144 := ⟨by decide +kernel, rfl⟩
theorem d_Model_valid_140 : ob_dv ob_ac k_Model_valid 140 141 0 (.aload_n 0) 1 := ⟨by decide +kernel, rfl, rfl⟩
theorem d_Model_valid_137 : ob_db k_Model_valid 137 (.if_icmp .ne 12) 12 140 149 := ⟨by decide +kernel, rfl, by decide⟩
theorem d_Model_valid_134 : ob_dv ob_lc k_Model_valid 134 135 3 (.iload_n 3) 1 := ⟨by decide +kernel, rfl, rfl⟩
theorem d_Model_valid_132 : ob_dk k_Model_valid 132 133 (0 : Int32) (.iconst 0) 1 := ⟨by decide +kernel, rfl, show Int32.ofInt 0 = (0 : Int32) by decide +kernel⟩
theorem d_Model_valid_133 : ob_dc k_Model_valid 133 (.ireturn) 1 134 := ⟨by decide +kernel, rfl⟩
theorem d_Model_valid_129 : ob_db k_Model_valid 129 (.ifCond .ne 5) 5 132 134 := ⟨by decide +kernel, rfl, by decide⟩
theorem d_Model_valid_127 : ob_dv ob_lc k_Model_valid 127 129 4 (.iload 4) 2 := ⟨by decide +kernel, rfl, rfl⟩
theorem d_Model_valid_125 : ob_dk k_Model_valid 125 126 (1 : Int32) (.iconst 1) 1 := ⟨by decide +kernel, rfl, show Int32.ofInt 1 = (1 : Int32) by decide +kernel⟩
theorem d_Model_valid_126 : ob_dc k_Model_valid 126 (.ireturn) 1 127 := ⟨by decide +kernel, rfl⟩
theorem d_Model_valid_122 : ob_db k_Model_valid 122 (.ifCond .ne 5) 5 125 127 := ⟨by decide +kernel, rfl, by decide⟩
theorem d_Model_valid_120 : ob_dv ob_lc k_Model_valid 120 122 5 (.iload 5) 2 := ⟨by decide +kernel, rfl, rfl⟩
theorem d_Model_valid_118 : ob_dv (ob_sc k_Model_valid.2.2.2.1) k_Model_valid 118 120 5 (.istore 5) 2 := ⟨by decide +kernel, rfl, ⟨rfl, by decide +kernel⟩⟩
theorem d_Model_valid_113 : ob_dk k_Model_valid 113 114 (1 : Int32) (.iconst 1) 1 := ⟨by decide +kernel, rfl, show Int32.ofInt 1 = (1 : Int32) by decide +kernel⟩
theorem d_Model_valid_114 : ob_db k_Model_valid 114 (.goto 4) 4 117 118 := ⟨by decide +kernel, rfl, by decide⟩
theorem d_Model_valid_110 : ob_db k_Model_valid 110 (.ifCond .eq 7) 7 113 117 := ⟨by decide +kernel, rfl, by decide⟩
theorem d_Model_valid_109 : ob_dc k_Model_valid 109 (.iand) 1 110 := ⟨by decide +kernel, rfl⟩
theorem d_Model_valid_105 : ob_dv ob_lc k_Model_valid 105 106 1 (.iload_n 1) 1 := ⟨by decide +kernel, rfl, rfl⟩
theorem d_Model_valid_103 : ob_dv (ob_sc k_Model_valid.2.2.2.1) k_Model_valid 103 105 4 (.istore 4) 2 := ⟨by decide +kernel, rfl, ⟨rfl, by decide +kernel⟩⟩
theorem d_Model_valid_98 : ob_dk k_Model_valid 98 99 (1 : Int32) (.iconst 1) 1 := ⟨by decide +kernel, rfl, show Int32.ofInt 1 = (1 : Int32) by decide +kernel⟩
theorem d_Model_valid_99 : ob_db k_Model_valid 99 (.goto 4) 4 102 103 := ⟨by decide +kernel, rfl, by decide⟩
theorem d_Model_valid_95 : ob_db k_Model_valid 95 (.ifCond .eq 7) 7 98 102 := ⟨by decide +kernel, rfl, by decide⟩
theorem d_Model_valid_94 : ob_dc k_Model_valid 94 (.iand) 1 95 := ⟨by decide +kernel, rfl⟩
theorem d_Model_valid_90 : ob_dv ob_lc k_Model_valid 90 91 1 (.iload_n 1) 1 := ⟨by decide +kernel, rfl, rfl⟩
theorem d_Model_valid_85 : ob_db k_Model_valid 85 (.ifCond .eq 5) 5 88 90 := ⟨by decide +kernel, rfl, by decide⟩
theorem d_Model_valid_82 : ob_dc k_Model_valid 82 (.invokestatic 214) 3 85 := ⟨by decide +kernel, rfl⟩
theorem d_Model_valid_81 : ob_dv ob_lc k_Model_valid 81 82 3 (.iload_n 3) 1 := ⟨by decide +kernel, rfl, rfl⟩
theorem d_Model_valid_77 : ob_dc k_Model_valid 77 (.getfield 17) 3 80 := ⟨by decide +kernel, rfl⟩
theorem d_Model_valid_76 : ob_dv ob_ac k_Model_valid 76 77 0 (.aload_n 0) 1 := ⟨by decide +kernel, rfl, rfl⟩
theorem d_Model_valid_73 : ob_db k_Model_valid 73 (.if_icmp .gt 15) 15 76 88 := ⟨by decide +kernel, rfl, by decide⟩
theorem d_Model_valid_70 : ob_dc k_Model_valid 70 (.getfield 201) 3 73 := ⟨by decide +kernel, rfl⟩
theorem d_Model_valid_69 : ob_dv ob_ac k_Model_valid 69 70 0 (.aload_n 0) 1 := ⟨by decide +kernel, rfl, rfl⟩
theorem d_Model_valid_68 : ob_dv ob_lc k_Model_valid 68 69 3 (.iload_n 3) 1 := ⟨by decide +kernel, rfl, rfl⟩
theorem d_Model_valid_65 : ob_db k_Model_valid 65 (.if_icmp .lt 23) 23 68 88 := ⟨by decide +kernel, rfl, by decide⟩
theorem d_Model_valid_62 : ob_dv ob_lc k_Model_valid 62 63 3 (.iload_n 3) 1 := ⟨by decide +kernel, rfl, rfl⟩
theorem d_Model_valid_57 : ob_db k_Model_valid 57 (.ifCond .eq 5) 5 60 62 := ⟨by decide +kernel, rfl, by decide⟩
theorem d_Model_valid_56 : ob_dc k_Model_valid 56 (.ishr) 1 57 := ⟨by decide +kernel, rfl⟩
theorem d_Model_valid_53 : ob_dv ob_lc k_Model_valid 53 54 2 (.iload_n 2) 1 := ⟨by decide +kernel, rfl, rfl⟩
theorem d_Model_valid_50 : ob_db k_Model_valid 50 (.if_icmp .ne 10) 10 53 60 := ⟨by decide +kernel, rfl, by decide⟩
theorem d_Model_valid_46 : ob_dc k_Model_valid 46 (.iand) 1 47 := ⟨by decide +kernel, rfl⟩
theorem d_Model_valid_42 : ob_dv ob_lc k_Model_valid 42 43 1 (.iload_n 1) 1 := ⟨by decide +kernel, rfl, rfl⟩
theorem d_Model_valid_39 : ob_db k_Model_valid 39 (.ifCond .ne 21) 21 42 60 := ⟨by decide +kernel, rfl, by decide⟩
theorem d_Model_valid_38 : ob_dc k_Model_valid 38 (.iand) 1 39 := ⟨by decide +kernel, rfl⟩
theorem d_Model_valid_36 : ob_dc k_Model_valid 36 (.ishr) 1 37 := ⟨by decide +kernel, rfl⟩
theorem d_Model_valid_33 : ob_dv ob_lc k_Model_valid 33 34 1 (.iload_n 1) 1 := ⟨by decide +kernel, rfl, rfl⟩
theorem d_Model_valid_30 : ob_db k_Model_valid 30 (.ifCond .ne 30) 30 33 60 := ⟨by decide +kernel, rfl, by decide⟩
theorem d_Model_valid_29 : ob_dc k_Model_valid 29 (.ishr) 1 30 := ⟨by decide +kernel, rfl⟩
theorem d_Model_valid_26 : ob_dv ob_lc k_Model_valid 26 27 1 (.iload_n 1) 1 := ⟨by decide +kernel, rfl, rfl⟩
theorem d_Model_valid_25 : ob_dv (ob_sc k_Model_valid.2.2.2.1) k_Model_valid 25 26 3 (.istore_n 3) 1 := ⟨by decide +kernel, rfl, ⟨rfl, by decide +kernel⟩⟩
theorem d_Model_valid_24 : ob_dc k_Model_valid 24 (.iadd) 1 25 := ⟨by decide +kernel, rfl⟩
theorem d_Model_valid_22 : ob_dc k_Model_valid 22 (.iand) 1 23 := ⟨by decide +kernel, rfl⟩
theorem d_Model_valid_18 : ob_dv ob_lc k_Model_valid 18 19 2 (.iload_n 2) 1 := ⟨by decide +kernel, rfl, rfl⟩
theorem d_Model_valid_17 : ob_dv (ob_sc k_Model_valid.2.2.2.1) k_Model_valid 17 18 2 (.istore_n 2) 1 := ⟨by decide +kernel, rfl, ⟨rfl, by decide +kernel⟩⟩
theorem d_Model_valid_14 : ob_dc k_Model_valid 14 (.invokestatic 180) 3 17 := ⟨by decide +kernel, rfl⟩
theorem d_Model_valid_10 : ob_dc k_Model_valid 10 (.getfield 17) 3 13 := ⟨by decide +kernel, rfl⟩
theorem d_Model_valid_9 : ob_dv ob_ac k_Model_valid 9 10 0 (.aload_n 0) 1 := ⟨by decide +kernel, rfl, rfl⟩
theorem d_Model_valid_8 : ob_dv (ob_sc k_Model_valid.2.2.2.1) k_Model_valid 8 9 1 (.istore_n 1) 1 := ⟨by decide +kernel, rfl, ⟨rfl, by decide +kernel⟩⟩
theorem d_Model_valid_5 : ob_dc k_Model_valid 5 (.invokestatic 180) 3 8 := ⟨by decide +kernel, rfl⟩
theorem d_Model_valid_1 : ob_dc k_Model_valid 1 (.getfield 17) 3 4 := ⟨by decide +kernel, rfl⟩
theorem d_Model_valid_0 : ob_dv ob_ac k_Model_valid 0 1 0 (.aload_n 0) 1 := ⟨by decide +kernel, rfl, rfl⟩
theorem c_Model_valid_214 : ob_sd k_Model_valid k_Model_check 214 3 := ⟨cw_Model_check, yd_Model_check, w_1403, w_1404, w_14, by decide, by decide⟩
theorem c_Model_valid_180 : ob_sd k_Model_valid k_Model_two 180 2 := ⟨cw_Model_two, yd_Model_two, w_1400, w_1401, w_14, by decide, by decide⟩
def f_Model_valid_L149 (S : ob_S) (v0 : Nat) (v3 : Int32) (D : ob_D) : Option (Int32 × ob_D) :=
  (if v3 = (10 : Int32) then if D.2.1 v0 13 ≠ 0 then if ob_in (5 : Int32) (S.2.1 (D.2.1 v0 13)) then (if (D.1 (D.2.1 v0 13) (5 : Int32).toNatClampNeg) = (-126 : Int32) then if D.2.1 v0 13 ≠ 0 then if ob_in (6 : Int32) (S.2.1 (D.2.1 v0 13)) then (if (D.1 (D.2.1 v0 13) (6 : Int32).toNatClampNeg) = 0 then some ((1 : Int32), D) else some ((0 : Int32), D)) else none else none else some ((0 : Int32), D)) else none else none else some ((0 : Int32), D))
theorem v_Model_valid_L149 {l : Launch} {E : ob_E} {S : ob_S} {r : Int32} {D' : ob_D} : ∀ (v0 : Nat) (v3 : Int32) (D : ob_D), S.1 v0 = 13 → f_Model_valid_L149 S v0 v3 D = some (r, D') → ob_V l E k_Model_valid 149 [(0, .ref v0), (3, .int v3)] [] S D (some (.int r)) S D' := by
  intro v0 v3 D hp_v0 h
  rw [f_Model_valid_L149] at h
  refine ob_iload d_Model_valid_149 rfl ?_
  refine ob_push d_Model_valid_150 ?_
  refine ob_icmp_ne d_Model_valid_152 (fun hc => ?_) (fun hc => ?_)
  · replace h := ob_iff hc h
    refine ob_push d_Model_valid_180 ?_
    exact ob_ie h (ob_iret d_Model_valid_181 rfl rfl)
  · replace h := ob_ift hc h
    refine ob_aload d_Model_valid_155 rfl ?_
    obtain ⟨hg17, h⟩ := ob_gd h
    refine ob_getR d_Model_valid_156 F_12_13 l_Model_17 hp_v0 hg17 (fun hk16 => ?_)
    refine ob_push d_Model_valid_159 ?_
    obtain ⟨hg18, h⟩ := ob_gd h
    refine ob_bald d_Model_valid_160 hk16 hg18 ?_
    refine ob_push d_Model_valid_161 ?_
    refine ob_icmp_ne d_Model_valid_163 (fun hc => ?_) (fun hc => ?_)
    · replace h := ob_iff hc h
      refine ob_push d_Model_valid_180 ?_
      exact ob_ie h (ob_iret d_Model_valid_181 rfl rfl)
    · replace h := ob_ift hc h
      refine ob_aload d_Model_valid_166 rfl ?_
      obtain ⟨hg20, h⟩ := ob_gd h
      refine ob_getR d_Model_valid_167 F_12_13 l_Model_17 hp_v0 hg20 (fun hk19 => ?_)
      refine ob_push d_Model_valid_170 ?_
      obtain ⟨hg21, h⟩ := ob_gd h
      refine ob_bald d_Model_valid_172 hk19 hg21 ?_
      refine ob_if_ne d_Model_valid_173 (fun hc => ?_) (fun hc => ?_)
      · replace h := ob_iff hc h
        refine ob_push d_Model_valid_180 ?_
        exact ob_ie h (ob_iret d_Model_valid_181 rfl rfl)
      · replace h := ob_ift hc h
        refine ob_push d_Model_valid_176 ?_
        refine ob_goto d_Model_valid_177 ?_
        exact ob_ie h (ob_iret d_Model_valid_181 rfl rfl)
def f_Model_valid_L118 (S : ob_S) (v0 : Nat) (v3 : Int32) (v4 : Int32) (s0 : Int32) (D : ob_D) : Option (Int32 × ob_D) :=
  (if s0 = 0 then some ((1 : Int32), D) else (if v4 = 0 then some ((0 : Int32), D) else (if v3 = (8 : Int32) then if D.2.1 v0 13 ≠ 0 then if ob_in (5 : Int32) (S.2.1 (D.2.1 v0 13)) then (if (D.1 (D.2.1 v0 13) (5 : Int32).toNatClampNeg) = 0 then some ((1 : Int32), D) else f_Model_valid_L149 S v0 v3 D) else none else none else f_Model_valid_L149 S v0 v3 D)))
theorem v_Model_valid_L118 {l : Launch} {E : ob_E} {S : ob_S} {r : Int32} {D' : ob_D} : ∀ (v0 : Nat) (v3 : Int32) (v4 : Int32) (s0 : Int32) (D : ob_D), S.1 v0 = 13 → f_Model_valid_L118 S v0 v3 v4 s0 D = some (r, D') → ob_V l E k_Model_valid 118 [(0, .ref v0), (3, .int v3), (4, .int v4)] [.int s0] S D (some (.int r)) S D' := by
  intro v0 v3 v4 s0 D hp_v0 h
  rw [f_Model_valid_L118] at h
  refine ob_istore (lo2 := [(0, .ref v0), (3, .int v3), (4, .int v4), (5, .int s0)]) d_Model_valid_118 rfl ?_
  refine ob_iload d_Model_valid_120 rfl ?_
  refine ob_if_ne d_Model_valid_122 (fun hc => ?_) (fun hc => ?_)
  · replace h := ob_iff hc h
    refine ob_iload d_Model_valid_127 rfl ?_
    refine ob_if_ne d_Model_valid_129 (fun hc => ?_) (fun hc => ?_)
    · replace h := ob_iff hc h
      refine ob_iload d_Model_valid_134 rfl ?_
      refine ob_push d_Model_valid_135 ?_
      refine ob_icmp_ne d_Model_valid_137 (fun hc => ?_) (fun hc => ?_)
      · replace h := ob_iff hc h
        refine ob_sub (lo2 := [(0, .ref v0), (3, .int v3)]) [0, 1] rfl ?_
        exact v_Model_valid_L149 v0 v3 D hp_v0 h
      · replace h := ob_ift hc h
        refine ob_aload d_Model_valid_140 rfl ?_
        obtain ⟨hg23, h⟩ := ob_gd h
        refine ob_getR d_Model_valid_141 F_12_13 l_Model_17 hp_v0 hg23 (fun hk22 => ?_)
        refine ob_push d_Model_valid_144 ?_
        obtain ⟨hg24, h⟩ := ob_gd h
        refine ob_bald d_Model_valid_145 hk22 hg24 ?_
        refine ob_if_eq d_Model_valid_146 (fun hc => ?_) (fun hc => ?_)
        · replace h := ob_ift hc h
          refine ob_push d_Model_valid_176 ?_
          refine ob_goto d_Model_valid_177 ?_
          exact ob_ie h (ob_iret d_Model_valid_181 rfl rfl)
        · replace h := ob_iff hc h
          refine ob_sub (lo2 := [(0, .ref v0), (3, .int v3)]) [0, 1] rfl ?_
          exact v_Model_valid_L149 v0 v3 D hp_v0 h
    · replace h := ob_ift hc h
      refine ob_push d_Model_valid_132 ?_
      exact ob_ie h (ob_iret d_Model_valid_133 rfl rfl)
  · replace h := ob_ift hc h
    refine ob_push d_Model_valid_125 ?_
    exact ob_ie h (ob_iret d_Model_valid_126 rfl rfl)
def f_Model_valid_L103 (S : ob_S) (v0 : Nat) (v1 : Int32) (v3 : Int32) (s0 : Int32) (D : ob_D) : Option (Int32 × ob_D) :=
  (if (v1 &&& (4096 : Int32)) = 0 then f_Model_valid_L118 S v0 v3 s0 (0 : Int32) D else f_Model_valid_L118 S v0 v3 s0 (1 : Int32) D)
theorem v_Model_valid_L103 {l : Launch} {E : ob_E} {S : ob_S} {r : Int32} {D' : ob_D} : ∀ (v0 : Nat) (v1 : Int32) (v3 : Int32) (s0 : Int32) (D : ob_D), S.1 v0 = 13 → f_Model_valid_L103 S v0 v1 v3 s0 D = some (r, D') → ob_V l E k_Model_valid 103 [(0, .ref v0), (1, .int v1), (3, .int v3)] [.int s0] S D (some (.int r)) S D' := by
  intro v0 v1 v3 s0 D hp_v0 h
  rw [f_Model_valid_L103] at h
  refine ob_istore (lo2 := [(0, .ref v0), (1, .int v1), (3, .int v3), (4, .int s0)]) d_Model_valid_103 rfl ?_
  refine ob_iload d_Model_valid_105 rfl ?_
  refine ob_push d_Model_valid_106 ?_
  refine ob_iand d_Model_valid_109 ?_
  refine ob_if_eq d_Model_valid_110 (fun hc => ?_) (fun hc => ?_)
  · replace h := ob_ift hc h
    refine ob_push d_Model_valid_117 ?_
    refine ob_sub (lo2 := [(0, .ref v0), (3, .int v3), (4, .int s0)]) [0, 2, 3] rfl ?_
    exact v_Model_valid_L118 v0 v3 s0 (0 : Int32) D hp_v0 h
  · replace h := ob_iff hc h
    refine ob_push d_Model_valid_113 ?_
    refine ob_goto d_Model_valid_114 ?_
    refine ob_sub (lo2 := [(0, .ref v0), (3, .int v3), (4, .int s0)]) [0, 2, 3] rfl ?_
    exact v_Model_valid_L118 v0 v3 s0 (1 : Int32) D hp_v0 h
def f_Model_valid (S : ob_S) (v0 : Nat) (D : ob_D) : Option (Int32 × ob_D) :=
  if D.2.1 v0 13 ≠ 0 then ob_bd (f_Model_two S (D.2.1 v0 13) (0 : Int32) D) fun x5 D3 => if D3.2.1 v0 13 ≠ 0 then ob_bd (f_Model_two S (D3.2.1 v0 13) (2 : Int32) D3) fun x10 D8 => (if (x5 >>> ((14 : Int32) &&& 31)) = 0 then (if ((x5 >>> ((10 : Int32) &&& 31)) &&& (3 : Int32)) = 0 then (if (x5 &&& (1023 : Int32)) = (346 : Int32) then (if (x10 >>> ((10 : Int32) &&& 31)) = 0 then (if ((x10 &&& (1023 : Int32)) + (1 : Int32)) < (8 : Int32) then some ((0 : Int32), D8) else (if (D8.1 v0 14) < ((x10 &&& (1023 : Int32)) + (1 : Int32)) then some ((0 : Int32), D8) else if D8.2.1 v0 13 ≠ 0 then ob_bd (f_Model_check S (D8.2.1 v0 13) (0 : Int32) ((x10 &&& (1023 : Int32)) + (1 : Int32)) D8) fun x15 D13 => (if x15 = 0 then (if (x5 &&& (8192 : Int32)) = 0 then f_Model_valid_L103 S v0 x5 ((x10 &&& (1023 : Int32)) + (1 : Int32)) (0 : Int32) D13 else f_Model_valid_L103 S v0 x5 ((x10 &&& (1023 : Int32)) + (1 : Int32)) (1 : Int32) D13) else some ((0 : Int32), D13)) else none)) else some ((0 : Int32), D8)) else some ((0 : Int32), D8)) else some ((0 : Int32), D8)) else some ((0 : Int32), D8)) else none else none
theorem c_Model_valid {l : Launch} {E : ob_E} {S : ob_S} {D : ob_D} {v0 : Nat} {r : Int32} {D' : ob_D} (hp_v0 : S.1 v0 = 13) (h : f_Model_valid S v0 D = some (r, D')) : ob_M l E k_Model_valid [.ref v0] S D (some (.int r)) S D' := by
  refine ob_ofV (lo := [(0, .ref v0)]) (by decide) rfl (Nat.le_of_ble_eq_true rfl) rfl (Nat.le_refl _) (Nat.le_refl _) ?_
  rw [f_Model_valid] at h
  refine ob_aload d_Model_valid_0 rfl ?_
  obtain ⟨hg2, h⟩ := ob_gd h
  refine ob_getR d_Model_valid_1 F_12_13 l_Model_17 hp_v0 hg2 (fun hk1 => ?_)
  refine ob_push d_Model_valid_4 ?_
  obtain ⟨x5, D3, h4, h⟩ := ob_bd_e h
  refine ob_callSi (As := [.ref (D.2.1 v0 13), .int (0 : Int32)]) (rest := []) d_Model_valid_5 c_Model_valid_180 rfl rfl (Nat.le_of_ble_eq_true rfl) (c_Model_two hk1 h4) ⟨Nat.le_refl _, Nat.le_refl _⟩ ⟨Nat.le_refl _, Nat.le_refl _⟩ ?_
  refine ob_istore (lo2 := [(0, .ref v0), (1, .int x5)]) d_Model_valid_8 rfl ?_
  refine ob_aload d_Model_valid_9 rfl ?_
  obtain ⟨hg7, h⟩ := ob_gd h
  refine ob_getR d_Model_valid_10 F_12_13 l_Model_17 hp_v0 hg7 (fun hk6 => ?_)
  refine ob_push d_Model_valid_13 ?_
  obtain ⟨x10, D8, h9, h⟩ := ob_bd_e h
  refine ob_callSi (As := [.ref (D3.2.1 v0 13), .int (2 : Int32)]) (rest := []) d_Model_valid_14 c_Model_valid_180 rfl rfl (Nat.le_of_ble_eq_true rfl) (c_Model_two hk6 h9) ⟨Nat.le_refl _, Nat.le_refl _⟩ ⟨Nat.le_refl _, Nat.le_refl _⟩ ?_
  refine ob_istore (lo2 := [(0, .ref v0), (1, .int x5), (2, .int x10)]) d_Model_valid_17 rfl ?_
  refine ob_iload d_Model_valid_18 rfl ?_
  refine ob_push d_Model_valid_19 ?_
  refine ob_iand d_Model_valid_22 ?_
  refine ob_push d_Model_valid_23 ?_
  refine ob_iadd d_Model_valid_24 ?_
  refine ob_istore (lo2 := [(0, .ref v0), (1, .int x5), (2, .int x10), (3, .int ((x10 &&& (1023 : Int32)) + (1 : Int32)))]) d_Model_valid_25 rfl ?_
  refine ob_iload d_Model_valid_26 rfl ?_
  refine ob_push d_Model_valid_27 ?_
  refine ob_ishr d_Model_valid_29 ?_
  refine ob_if_ne d_Model_valid_30 (fun hc => ?_) (fun hc => ?_)
  · replace h := ob_iff hc h
    refine ob_push d_Model_valid_60 ?_
    exact ob_ie h (ob_iret d_Model_valid_61 rfl rfl)
  · replace h := ob_ift hc h
    refine ob_iload d_Model_valid_33 rfl ?_
    refine ob_push d_Model_valid_34 ?_
    refine ob_ishr d_Model_valid_36 ?_
    refine ob_push d_Model_valid_37 ?_
    refine ob_iand d_Model_valid_38 ?_
    refine ob_if_ne d_Model_valid_39 (fun hc => ?_) (fun hc => ?_)
    · replace h := ob_iff hc h
      refine ob_push d_Model_valid_60 ?_
      exact ob_ie h (ob_iret d_Model_valid_61 rfl rfl)
    · replace h := ob_ift hc h
      refine ob_iload d_Model_valid_42 rfl ?_
      refine ob_push d_Model_valid_43 ?_
      refine ob_iand d_Model_valid_46 ?_
      refine ob_push d_Model_valid_47 ?_
      refine ob_icmp_ne d_Model_valid_50 (fun hc => ?_) (fun hc => ?_)
      · replace h := ob_iff hc h
        refine ob_push d_Model_valid_60 ?_
        exact ob_ie h (ob_iret d_Model_valid_61 rfl rfl)
      · replace h := ob_ift hc h
        refine ob_iload d_Model_valid_53 rfl ?_
        refine ob_push d_Model_valid_54 ?_
        refine ob_ishr d_Model_valid_56 ?_
        refine ob_if_eq d_Model_valid_57 (fun hc => ?_) (fun hc => ?_)
        · replace h := ob_ift hc h
          refine ob_iload d_Model_valid_62 rfl ?_
          refine ob_push d_Model_valid_63 ?_
          refine ob_icmp_lt d_Model_valid_65 (fun hc => ?_) (fun hc => ?_)
          · replace h := ob_ift hc h
            refine ob_push d_Model_valid_88 ?_
            exact ob_ie h (ob_iret d_Model_valid_89 rfl rfl)
          · replace h := ob_iff hc h
            refine ob_iload d_Model_valid_68 rfl ?_
            refine ob_aload d_Model_valid_69 rfl ?_
            refine ob_getI d_Model_valid_70 F_12_14 l_Model_201 hp_v0 ?_
            refine ob_icmp_gt d_Model_valid_73 (fun hc => ?_) (fun hc => ?_)
            · replace h := ob_ift hc h
              refine ob_push d_Model_valid_88 ?_
              exact ob_ie h (ob_iret d_Model_valid_89 rfl rfl)
            · replace h := ob_iff hc h
              refine ob_aload d_Model_valid_76 rfl ?_
              obtain ⟨hg12, h⟩ := ob_gd h
              refine ob_getR d_Model_valid_77 F_12_13 l_Model_17 hp_v0 hg12 (fun hk11 => ?_)
              refine ob_push d_Model_valid_80 ?_
              refine ob_iload d_Model_valid_81 rfl ?_
              obtain ⟨x15, D13, h14, h⟩ := ob_bd_e h
              refine ob_callSi (As := [.ref (D8.2.1 v0 13), .int (0 : Int32), .int ((x10 &&& (1023 : Int32)) + (1 : Int32))]) (rest := []) d_Model_valid_82 c_Model_valid_214 rfl rfl (Nat.le_of_ble_eq_true rfl) (c_Model_check hk11 h14) ⟨Nat.le_refl _, Nat.le_refl _⟩ ⟨Nat.le_refl _, Nat.le_refl _⟩ ?_
              refine ob_if_eq d_Model_valid_85 (fun hc => ?_) (fun hc => ?_)
              · replace h := ob_ift hc h
                refine ob_iload d_Model_valid_90 rfl ?_
                refine ob_push d_Model_valid_91 ?_
                refine ob_iand d_Model_valid_94 ?_
                refine ob_if_eq d_Model_valid_95 (fun hc => ?_) (fun hc => ?_)
                · replace h := ob_ift hc h
                  refine ob_push d_Model_valid_102 ?_
                  refine ob_sub (lo2 := [(0, .ref v0), (1, .int x5), (3, .int ((x10 &&& (1023 : Int32)) + (1 : Int32)))]) [0, 1, 3] rfl ?_
                  exact v_Model_valid_L103 v0 x5 ((x10 &&& (1023 : Int32)) + (1 : Int32)) (0 : Int32) D13 hp_v0 h
                · replace h := ob_iff hc h
                  refine ob_push d_Model_valid_98 ?_
                  refine ob_goto d_Model_valid_99 ?_
                  refine ob_sub (lo2 := [(0, .ref v0), (1, .int x5), (3, .int ((x10 &&& (1023 : Int32)) + (1 : Int32)))]) [0, 1, 3] rfl ?_
                  exact v_Model_valid_L103 v0 x5 ((x10 &&& (1023 : Int32)) + (1 : Int32)) (1 : Int32) D13 hp_v0 h
              · replace h := ob_iff hc h
                refine ob_push d_Model_valid_88 ?_
                exact ob_ie h (ob_iret d_Model_valid_89 rfl rfl)
        · replace h := ob_iff hc h
          refine ob_push d_Model_valid_60 ?_
          exact ob_ie h (ob_iret d_Model_valid_61 rfl rfl)
-- OrbitBoxModel.controlCame(I)V
theorem d_Model_controlCame_5 : ob_dk k_Model_controlCame 5 6 (1 : Int32) (.iconst 1) 1 := ⟨by decide +kernel, rfl, show Int32.ofInt 1 = (1 : Int32) by decide +kernel⟩
theorem d_Model_controlCame_7 : ob_dk k_Model_controlCame 7 8 (4 : Int32) (.iconst 4) 1 := ⟨by decide +kernel, rfl, show Int32.ofInt 4 = (4 : Int32) by decide +kernel⟩
theorem d_Model_controlCame_13 : ob_dk k_Model_controlCame 13 14 (1 : Int32) (.iconst 1) 1 := ⟨by decide +kernel, rfl, show Int32.ofInt 1 = (1 : Int32) by decide +kernel⟩
theorem d_Model_controlCame_39 : ob_dk k_Model_controlCame 39 40 (3 : Int32) (.iconst 3) 1 := ⟨by decide +kernel, rfl, show Int32.ofInt 3 = (3 : Int32) by decide +kernel⟩
theorem d_Model_controlCame_73 : ob_dc k_Model_controlCame 73 (.return_) 1 74 := ⟨by decide +kernel, rfl⟩
theorem d_Model_controlCame_44 : ob_dk k_Model_controlCame 44 45 (0 : Int32) (.iconst 0) 1 := ⟨by decide +kernel, rfl, show Int32.ofInt 0 = (0 : Int32) by decide +kernel⟩
theorem d_Model_controlCame_49 : ob_dk k_Model_controlCame 49 50 (0 : Int32) (.iconst 0) 1 := ⟨by decide +kernel, rfl, show Int32.ofInt 0 = (0 : Int32) by decide +kernel⟩
theorem d_Model_controlCame_58 : ob_dk k_Model_controlCame 58 60 (7 : Int32) (.bipush 7) 2 := ⟨by decide +kernel, rfl, show (Int8.ofInt 7).toInt32 = (7 : Int32) by decide +kernel⟩
theorem d_Model_controlCame_61 : ob_dk k_Model_controlCame 61 64 (255 : Int32) (.sipush 255) 3 := ⟨by decide +kernel, rfl, show (Int16.ofInt 255).toInt32 = (255 : Int32) by decide +kernel⟩
theorem d_Model_controlCame_69 : ob_dk k_Model_controlCame 69 70 (1 : Int32) (.iconst 1) 1 := ⟨by decide +kernel, rfl, show Int32.ofInt 1 = (1 : Int32) by decide +kernel⟩
theorem d_Model_controlCame_70 : ob_dc k_Model_controlCame 70 (.putfield 23) 3 73 := ⟨by decide +kernel, rfl⟩
theorem d_Model_controlCame_68 : ob_dv ob_ac k_Model_controlCame 68 69 0 (.aload_n 0) 1 := ⟨by decide +kernel, rfl, rfl⟩
theorem d_Model_controlCame_65 : ob_dc k_Model_controlCame 65 (.putfield 238) 3 68 := ⟨by decide +kernel, rfl⟩
theorem d_Model_controlCame_64 : ob_dc k_Model_controlCame 64 (.iand) 1 65 := ⟨by decide +kernel, rfl⟩
theorem d_Model_controlCame_60 : ob_dc k_Model_controlCame 60 (.baload) 1 61 := ⟨by decide +kernel, rfl⟩
theorem d_Model_controlCame_55 : ob_dc k_Model_controlCame 55 (.getfield 17) 3 58 := ⟨by decide +kernel, rfl⟩
theorem d_Model_controlCame_54 : ob_dv ob_ac k_Model_controlCame 54 55 0 (.aload_n 0) 1 := ⟨by decide +kernel, rfl, rfl⟩
theorem d_Model_controlCame_53 : ob_dv ob_ac k_Model_controlCame 53 54 0 (.aload_n 0) 1 := ⟨by decide +kernel, rfl, rfl⟩
theorem d_Model_controlCame_50 : ob_dc k_Model_controlCame 50 (.putfield 248) 3 53 := ⟨by decide +kernel, rfl⟩
theorem d_Model_controlCame_48 : ob_dv ob_ac k_Model_controlCame 48 49 0 (.aload_n 0) 1 := ⟨by decide +kernel, rfl, rfl⟩
theorem d_Model_controlCame_45 : ob_dc k_Model_controlCame 45 (.putfield 245) 3 48 := ⟨by decide +kernel, rfl⟩
theorem d_Model_controlCame_43 : ob_dv ob_ac k_Model_controlCame 43 44 0 (.aload_n 0) 1 := ⟨by decide +kernel, rfl, rfl⟩
theorem d_Model_controlCame_40 : ob_db k_Model_controlCame 40 (.if_icmp .eq 33) 33 43 73 := ⟨by decide +kernel, rfl, by decide⟩
theorem d_Model_controlCame_36 : ob_dc k_Model_controlCame 36 (.getfield 23) 3 39 := ⟨by decide +kernel, rfl⟩
theorem d_Model_controlCame_35 : ob_dv ob_ac k_Model_controlCame 35 36 0 (.aload_n 0) 1 := ⟨by decide +kernel, rfl, rfl⟩
theorem d_Model_controlCame_18 : ob_dk k_Model_controlCame 18 19 (0 : Int32) (.iconst 0) 1 := ⟨by decide +kernel, rfl, show Int32.ofInt 0 = (0 : Int32) by decide +kernel⟩
theorem d_Model_controlCame_23 : ob_dk k_Model_controlCame 23 24 (0 : Int32) (.iconst 0) 1 := ⟨by decide +kernel, rfl, show Int32.ofInt 0 = (0 : Int32) by decide +kernel⟩
theorem d_Model_controlCame_28 : ob_dk k_Model_controlCame 28 29 (1 : Int32) (.iconst 1) 1 := ⟨by decide +kernel, rfl, show Int32.ofInt 1 = (1 : Int32) by decide +kernel⟩
theorem d_Model_controlCame_32 : ob_db k_Model_controlCame 32 (.goto 41) 41 35 73 := ⟨by decide +kernel, rfl, by decide⟩
theorem d_Model_controlCame_29 : ob_dc k_Model_controlCame 29 (.putfield 23) 3 32 := ⟨by decide +kernel, rfl⟩
theorem d_Model_controlCame_27 : ob_dv ob_ac k_Model_controlCame 27 28 0 (.aload_n 0) 1 := ⟨by decide +kernel, rfl, rfl⟩
theorem d_Model_controlCame_24 : ob_dc k_Model_controlCame 24 (.putfield 248) 3 27 := ⟨by decide +kernel, rfl⟩
theorem d_Model_controlCame_22 : ob_dv ob_ac k_Model_controlCame 22 23 0 (.aload_n 0) 1 := ⟨by decide +kernel, rfl, rfl⟩
theorem d_Model_controlCame_19 : ob_dc k_Model_controlCame 19 (.putfield 245) 3 22 := ⟨by decide +kernel, rfl⟩
theorem d_Model_controlCame_17 : ob_dv ob_ac k_Model_controlCame 17 18 0 (.aload_n 0) 1 := ⟨by decide +kernel, rfl, rfl⟩
theorem d_Model_controlCame_14 : ob_db k_Model_controlCame 14 (.if_icmp .ne 21) 21 17 35 := ⟨by decide +kernel, rfl, by decide⟩
theorem d_Model_controlCame_12 : ob_dv ob_lc k_Model_controlCame 12 13 1 (.iload_n 1) 1 := ⟨by decide +kernel, rfl, rfl⟩
theorem d_Model_controlCame_9 : ob_dc k_Model_controlCame 9 (.putfield 235) 3 12 := ⟨by decide +kernel, rfl⟩
theorem d_Model_controlCame_8 : ob_dc k_Model_controlCame 8 (.irem) 1 9 := ⟨by decide +kernel, rfl⟩
theorem d_Model_controlCame_6 : ob_dc k_Model_controlCame 6 (.iadd) 1 7 := ⟨by decide +kernel, rfl⟩
theorem d_Model_controlCame_2 : ob_dc k_Model_controlCame 2 (.getfield 235) 3 5 := ⟨by decide +kernel, rfl⟩
theorem d_Model_controlCame_1 : ob_dv ob_ac k_Model_controlCame 1 2 0 (.aload_n 0) 1 := ⟨by decide +kernel, rfl, rfl⟩
theorem d_Model_controlCame_0 : ob_dv ob_ac k_Model_controlCame 0 1 0 (.aload_n 0) 1 := ⟨by decide +kernel, rfl, rfl⟩
def f_Model_controlCame (S : ob_S) (v0 : Nat) (v1 : Int32) (D : ob_D) : Option (ob_D) :=
  ob_lt (ob_pI D v0 21 (((D.1 v0 21) + (1 : Int32)) - ((D.1 v0 21) + (1 : Int32)) / (4 : Int32) * (4 : Int32))) fun D1 => (if v1 = (1 : Int32) then ob_lt (ob_pI D1 v0 23 (0 : Int32)) fun D9 => ob_lt (ob_pI D9 v0 22 (0 : Int32)) fun D10 => ob_lt (ob_pI D10 v0 19 (1 : Int32)) fun D11 => some D11 else (if (D1.1 v0 19) = (3 : Int32) then some D1 else ob_lt (ob_pI D1 v0 23 (0 : Int32)) fun D2 => ob_lt (ob_pI D2 v0 22 (0 : Int32)) fun D3 => if D3.2.1 v0 13 ≠ 0 then if ob_in (7 : Int32) (S.2.1 (D3.2.1 v0 13)) then ob_lt (ob_pI D3 v0 20 ((D3.1 (D3.2.1 v0 13) (7 : Int32).toNatClampNeg) &&& (255 : Int32))) fun D7 => ob_lt (ob_pI D7 v0 19 (1 : Int32)) fun D8 => some D8 else none else none))
theorem c_Model_controlCame {l : Launch} {E : ob_E} {S : ob_S} {D : ob_D} {v0 : Nat} {v1 : Int32} {D' : ob_D} (hp_v0 : S.1 v0 = 13) (h : f_Model_controlCame S v0 v1 D = some D') : ob_M l E k_Model_controlCame [.ref v0, .int v1] S D none S D' := by
  refine ob_ofV (lo := [(0, .ref v0), (1, .int v1)]) (by decide) rfl (Nat.le_of_ble_eq_true rfl) rfl (Nat.le_refl _) (Nat.le_refl _) ?_
  rw [f_Model_controlCame] at h
  refine ob_aload d_Model_controlCame_0 rfl ?_
  refine ob_aload d_Model_controlCame_1 rfl ?_
  refine ob_getI d_Model_controlCame_2 F_12_21 l_Model_235 hp_v0 ?_
  refine ob_push d_Model_controlCame_5 ?_
  refine ob_iadd d_Model_controlCame_6 ?_
  refine ob_push d_Model_controlCame_7 ?_
  refine ob_irem d_Model_controlCame_8 (by decide) ?_
  replace h := ob_lt_e h
  refine ob_putI d_Model_controlCame_9 F_12_21 l_Model_235 hp_v0 ?_
  refine ob_iload d_Model_controlCame_12 rfl ?_
  refine ob_push d_Model_controlCame_13 ?_
  refine ob_icmp_ne d_Model_controlCame_14 (fun hc => ?_) (fun hc => ?_)
  · replace h := ob_iff hc h
    refine ob_aload d_Model_controlCame_35 rfl ?_
    refine ob_getI d_Model_controlCame_36 F_12_19 l_Model_23 hp_v0 ?_
    refine ob_push d_Model_controlCame_39 ?_
    refine ob_icmp_eq d_Model_controlCame_40 (fun hc => ?_) (fun hc => ?_)
    · replace h := ob_ift hc h
      exact ob_ve h (ob_vret d_Model_controlCame_73 rfl)
    · replace h := ob_iff hc h
      refine ob_aload d_Model_controlCame_43 rfl ?_
      refine ob_push d_Model_controlCame_44 ?_
      replace h := ob_lt_e h
      refine ob_putZ d_Model_controlCame_45 F_12_23 l_Model_245 hp_v0 (Or.inl rfl) ?_
      refine ob_aload d_Model_controlCame_48 rfl ?_
      refine ob_push d_Model_controlCame_49 ?_
      replace h := ob_lt_e h
      refine ob_putZ d_Model_controlCame_50 F_12_22 l_Model_248 hp_v0 (Or.inl rfl) ?_
      refine ob_aload d_Model_controlCame_53 rfl ?_
      refine ob_aload d_Model_controlCame_54 rfl ?_
      obtain ⟨hg5, h⟩ := ob_gd h
      refine ob_getR d_Model_controlCame_55 F_12_13 l_Model_17 hp_v0 hg5 (fun hk4 => ?_)
      refine ob_push d_Model_controlCame_58 ?_
      obtain ⟨hg6, h⟩ := ob_gd h
      refine ob_bald d_Model_controlCame_60 hk4 hg6 ?_
      refine ob_push d_Model_controlCame_61 ?_
      refine ob_iand d_Model_controlCame_64 ?_
      replace h := ob_lt_e h
      refine ob_putI d_Model_controlCame_65 F_12_20 l_Model_238 hp_v0 ?_
      refine ob_aload d_Model_controlCame_68 rfl ?_
      refine ob_push d_Model_controlCame_69 ?_
      replace h := ob_lt_e h
      refine ob_putI d_Model_controlCame_70 F_12_19 l_Model_23 hp_v0 ?_
      exact ob_ve h (ob_vret d_Model_controlCame_73 rfl)
  · replace h := ob_ift hc h
    refine ob_aload d_Model_controlCame_17 rfl ?_
    refine ob_push d_Model_controlCame_18 ?_
    replace h := ob_lt_e h
    refine ob_putZ d_Model_controlCame_19 F_12_23 l_Model_245 hp_v0 (Or.inl rfl) ?_
    refine ob_aload d_Model_controlCame_22 rfl ?_
    refine ob_push d_Model_controlCame_23 ?_
    replace h := ob_lt_e h
    refine ob_putZ d_Model_controlCame_24 F_12_22 l_Model_248 hp_v0 (Or.inl rfl) ?_
    refine ob_aload d_Model_controlCame_27 rfl ?_
    refine ob_push d_Model_controlCame_28 ?_
    replace h := ob_lt_e h
    refine ob_putI d_Model_controlCame_29 F_12_19 l_Model_23 hp_v0 ?_
    refine ob_goto d_Model_controlCame_32 ?_
    exact ob_ve h (ob_vret d_Model_controlCame_73 rfl)
-- OrbitBoxModel.queueBody(I)V
theorem d_Model_queueBody_0 : ob_dk k_Model_queueBody 0 1 (0 : Int32) (.iconst 0) 1 := ⟨by decide +kernel, rfl, show Int32.ofInt 0 = (0 : Int32) by decide +kernel⟩
theorem d_Model_queueBody_46 : ob_dk k_Model_queueBody 46 47 (1 : Int32) (.iconst 1) 1 := ⟨by decide +kernel, rfl, show Int32.ofInt 1 = (1 : Int32) by decide +kernel⟩
theorem d_Model_queueBody_58 : ob_dk k_Model_queueBody 58 59 (1 : Int32) (.iconst 1) 1 := ⟨by decide +kernel, rfl, show Int32.ofInt 1 = (1 : Int32) by decide +kernel⟩
theorem d_Model_queueBody_63 : ob_dc k_Model_queueBody 63 (.return_) 1 64 := ⟨by decide +kernel, rfl⟩
theorem d_Model_queueBody_60 : ob_dc k_Model_queueBody 60 (.putfield 251) 3 63 := ⟨by decide +kernel, rfl⟩
theorem d_Model_queueBody_59 : ob_dc k_Model_queueBody 59 (.iadd) 1 60 := ⟨by decide +kernel, rfl⟩
theorem d_Model_queueBody_55 : ob_dc k_Model_queueBody 55 (.getfield 251) 3 58 := ⟨by decide +kernel, rfl⟩
theorem d_Model_queueBody_54 : ob_dc k_Model_queueBody 54 (.dup) 1 55 := ⟨by decide +kernel, rfl⟩
theorem d_Model_queueBody_53 : ob_dv ob_ac k_Model_queueBody 53 54 0 (.aload_n 0) 1 := ⟨by decide +kernel, rfl, rfl⟩
theorem d_Model_queueBody_52 : ob_dc k_Model_queueBody 52 (.iastore) 1 53 := ⟨by decide +kernel, rfl⟩
theorem d_Model_queueBody_51 : ob_dv ob_lc k_Model_queueBody 51 52 1 (.iload_n 1) 1 := ⟨by decide +kernel, rfl, rfl⟩
theorem d_Model_queueBody_48 : ob_dc k_Model_queueBody 48 (.putfield 229) 3 51 := ⟨by decide +kernel, rfl⟩
theorem d_Model_queueBody_47 : ob_dc k_Model_queueBody 47 (.iadd) 1 48 := ⟨by decide +kernel, rfl⟩
theorem d_Model_queueBody_45 : ob_dc k_Model_queueBody 45 (.dup_x1) 1 46 := ⟨by decide +kernel, rfl⟩
theorem d_Model_queueBody_42 : ob_dc k_Model_queueBody 42 (.getfield 229) 3 45 := ⟨by decide +kernel, rfl⟩
theorem d_Model_queueBody_41 : ob_dc k_Model_queueBody 41 (.dup) 1 42 := ⟨by decide +kernel, rfl⟩
theorem d_Model_queueBody_40 : ob_dv ob_ac k_Model_queueBody 40 41 0 (.aload_n 0) 1 := ⟨by decide +kernel, rfl, rfl⟩
theorem d_Model_queueBody_37 : ob_dc k_Model_queueBody 37 (.getfield 30) 3 40 := ⟨by decide +kernel, rfl⟩
theorem d_Model_queueBody_36 : ob_dv ob_ac k_Model_queueBody 36 37 0 (.aload_n 0) 1 := ⟨by decide +kernel, rfl, rfl⟩
theorem d_Model_queueBody_15 : ob_dk k_Model_queueBody 15 18 (260 : Int32) (.sipush 260) 3 := ⟨by decide +kernel, rfl, show (Int16.ofInt 260).toInt32 = (260 : Int32) by decide +kernel⟩
theorem d_Model_queueBody_25 : ob_dk k_Model_queueBody 25 26 (5 : Int32) (.iconst 5) 1 := ⟨by decide +kernel, rfl, show Int32.ofInt 5 = (5 : Int32) by decide +kernel⟩
theorem d_Model_queueBody_30 : ob_di k_Model_queueBody 30 33 2 1 (1 : Int32) := ⟨by decide +kernel, rfl, by decide +kernel, by decide +kernel⟩
theorem d_Model_queueBody_33 : ob_db k_Model_queueBody 33 (.goto (-31)) (-31) 36 2 := ⟨by decide +kernel, rfl, by decide⟩
theorem d_Model_queueBody_29 : ob_dc k_Model_queueBody 29 (.bastore) 1 30 := ⟨by decide +kernel, rfl⟩
theorem d_Model_queueBody_28 : ob_dc k_Model_queueBody 28 (.baload) 1 29 := ⟨by decide +kernel, rfl⟩
theorem d_Model_queueBody_27 : ob_dc k_Model_queueBody 27 (.iadd) 1 28 := ⟨by decide +kernel, rfl⟩
theorem d_Model_queueBody_26 : ob_dv ob_lc k_Model_queueBody 26 27 2 (.iload_n 2) 1 := ⟨by decide +kernel, rfl, rfl⟩
theorem d_Model_queueBody_22 : ob_dc k_Model_queueBody 22 (.getfield 17) 3 25 := ⟨by decide +kernel, rfl⟩
theorem d_Model_queueBody_21 : ob_dv ob_ac k_Model_queueBody 21 22 0 (.aload_n 0) 1 := ⟨by decide +kernel, rfl, rfl⟩
theorem d_Model_queueBody_20 : ob_dc k_Model_queueBody 20 (.iadd) 1 21 := ⟨by decide +kernel, rfl⟩
theorem d_Model_queueBody_19 : ob_dv ob_lc k_Model_queueBody 19 20 2 (.iload_n 2) 1 := ⟨by decide +kernel, rfl, rfl⟩
theorem d_Model_queueBody_18 : ob_dc k_Model_queueBody 18 (.imul) 1 19 := ⟨by decide +kernel, rfl⟩
theorem d_Model_queueBody_12 : ob_dc k_Model_queueBody 12 (.getfield 229) 3 15 := ⟨by decide +kernel, rfl⟩
theorem d_Model_queueBody_11 : ob_dv ob_ac k_Model_queueBody 11 12 0 (.aload_n 0) 1 := ⟨by decide +kernel, rfl, rfl⟩
theorem d_Model_queueBody_8 : ob_dc k_Model_queueBody 8 (.getfield 27) 3 11 := ⟨by decide +kernel, rfl⟩
theorem d_Model_queueBody_7 : ob_dv ob_ac k_Model_queueBody 7 8 0 (.aload_n 0) 1 := ⟨by decide +kernel, rfl, rfl⟩
theorem d_Model_queueBody_4 : ob_db k_Model_queueBody 4 (.if_icmp .ge 32) 32 7 36 := ⟨by decide +kernel, rfl, by decide⟩
theorem d_Model_queueBody_3 : ob_dv ob_lc k_Model_queueBody 3 4 1 (.iload_n 1) 1 := ⟨by decide +kernel, rfl, rfl⟩
theorem d_Model_queueBody_2 : ob_dv ob_lc k_Model_queueBody 2 3 2 (.iload_n 2) 1 := ⟨by decide +kernel, rfl, rfl⟩
theorem d_Model_queueBody_1 : ob_dv (ob_sc k_Model_queueBody.2.2.2.1) k_Model_queueBody 1 2 2 (.istore_n 2) 1 := ⟨by decide +kernel, rfl, ⟨rfl, by decide +kernel⟩⟩
def f_Model_queueBody_L2 (S : ob_S) : Nat → Nat → Int32 → Int32 → ob_D → Option (ob_D)
  | 0, _, _, _, _ => none
  | n + 1, v0, v1, v2, D => (if v1 ≤ v2 then if D.2.1 v0 25 ≠ 0 then ob_lt (ob_pI D v0 26 ((D.1 v0 26) + (1 : Int32))) fun D3 => if ob_in (D.1 v0 26) (S.2.1 (D.2.1 v0 25)) then ob_lt (ob_pI D3 (D.2.1 v0 25) (D.1 v0 26).toNatClampNeg v1) fun D5 => ob_lt (ob_pI D5 v0 17 ((D5.1 v0 17) + (1 : Int32))) fun D6 => some D6 else none else none else if D.2.1 v0 24 ≠ 0 then if D.2.1 v0 13 ≠ 0 then if ob_in ((5 : Int32) + v2) (S.2.1 (D.2.1 v0 13)) then if ob_in (((D.1 v0 26) * (260 : Int32)) + v2) (S.2.1 (D.2.1 v0 24)) then ob_lt (ob_pI D (D.2.1 v0 24) (((D.1 v0 26) * (260 : Int32)) + v2).toNatClampNeg ((D.1 (D.2.1 v0 13) ((5 : Int32) + v2).toNatClampNeg).toInt8.toInt32)) fun D13 => f_Model_queueBody_L2 S n v0 v1 (v2 + (1 : Int32)) D13 else none else none else none else none)
theorem v_Model_queueBody_L2 {l : Launch} {E : ob_E} {S : ob_S} {D' : ob_D} : ∀ (n : Nat), ∀ (v0 : Nat) (v1 : Int32) (v2 : Int32) (D : ob_D), S.1 v0 = 13 → f_Model_queueBody_L2 S n v0 v1 v2 D = some D' → ob_V l E k_Model_queueBody 2 [(0, .ref v0), (1, .int v1), (2, .int v2)] [] S D none S D' := by
  intro n
  induction n with
  | zero =>
    intro v0 v1 v2 D hp_v0 h
    have h : none = some D' := h
    cases h
  | succ n ih =>
    intro v0 v1 v2 D hp_v0 h
    rw [f_Model_queueBody_L2] at h
    refine ob_iload d_Model_queueBody_2 rfl ?_
    refine ob_iload d_Model_queueBody_3 rfl ?_
    refine ob_icmp_ge d_Model_queueBody_4 (fun hc => ?_) (fun hc => ?_)
    · replace h := ob_ift hc h
      refine ob_aload d_Model_queueBody_36 rfl ?_
      obtain ⟨hg2, h⟩ := ob_gd h
      refine ob_getR d_Model_queueBody_37 F_12_25 l_Model_30 hp_v0 hg2 (fun hk1 => ?_)
      refine ob_aload d_Model_queueBody_40 rfl ?_
      refine ob_dup d_Model_queueBody_41 rfl ?_
      refine ob_getI d_Model_queueBody_42 F_12_26 l_Model_229 hp_v0 ?_
      refine ob_dup_x1 d_Model_queueBody_45 rfl rfl ?_
      refine ob_push d_Model_queueBody_46 ?_
      refine ob_iadd d_Model_queueBody_47 ?_
      replace h := ob_lt_e h
      refine ob_putI d_Model_queueBody_48 F_12_26 l_Model_229 hp_v0 ?_
      refine ob_iload d_Model_queueBody_51 rfl ?_
      obtain ⟨hg4, h⟩ := ob_gd h
      replace h := ob_lt_e h
      refine ob_iast d_Model_queueBody_52 hk1 hg4 ?_
      refine ob_aload d_Model_queueBody_53 rfl ?_
      refine ob_dup d_Model_queueBody_54 rfl ?_
      refine ob_getI d_Model_queueBody_55 F_12_17 l_Model_251 hp_v0 ?_
      refine ob_push d_Model_queueBody_58 ?_
      refine ob_iadd d_Model_queueBody_59 ?_
      replace h := ob_lt_e h
      refine ob_putI d_Model_queueBody_60 F_12_17 l_Model_251 hp_v0 ?_
      exact ob_ve h (ob_vret d_Model_queueBody_63 rfl)
    · replace h := ob_iff hc h
      refine ob_aload d_Model_queueBody_7 rfl ?_
      obtain ⟨hg8, h⟩ := ob_gd h
      refine ob_getR d_Model_queueBody_8 F_12_24 l_Model_27 hp_v0 hg8 (fun hk7 => ?_)
      refine ob_aload d_Model_queueBody_11 rfl ?_
      refine ob_getI d_Model_queueBody_12 F_12_26 l_Model_229 hp_v0 ?_
      refine ob_push d_Model_queueBody_15 ?_
      refine ob_imul d_Model_queueBody_18 ?_
      refine ob_iload d_Model_queueBody_19 rfl ?_
      refine ob_iadd d_Model_queueBody_20 ?_
      refine ob_aload d_Model_queueBody_21 rfl ?_
      obtain ⟨hg10, h⟩ := ob_gd h
      refine ob_getR d_Model_queueBody_22 F_12_13 l_Model_17 hp_v0 hg10 (fun hk9 => ?_)
      refine ob_push d_Model_queueBody_25 ?_
      refine ob_iload d_Model_queueBody_26 rfl ?_
      refine ob_iadd d_Model_queueBody_27 ?_
      obtain ⟨hg11, h⟩ := ob_gd h
      refine ob_bald d_Model_queueBody_28 hk9 hg11 ?_
      obtain ⟨hg12, h⟩ := ob_gd h
      replace h := ob_lt_e h
      refine ob_bast d_Model_queueBody_29 hk7 hg12 ?_
      refine ob_iinc (lo2 := [(0, .ref v0), (1, .int v1), (2, .int (v2 + (1 : Int32)))]) d_Model_queueBody_30 rfl rfl ?_
      refine ob_goto d_Model_queueBody_33 ?_
      exact ih v0 v1 (v2 + (1 : Int32)) (ob_pI D (D.2.1 v0 24) (((D.1 v0 26) * (260 : Int32)) + v2).toNatClampNeg ((D.1 (D.2.1 v0 13) ((5 : Int32) + v2).toNatClampNeg).toInt8.toInt32)) hp_v0 h
def f_Model_queueBody (S : ob_S) (v0 : Nat) (v1 : Int32) (D : ob_D) : Option (ob_D) :=
  f_Model_queueBody_L2 S ob_FU v0 v1 (0 : Int32) D
theorem c_Model_queueBody {l : Launch} {E : ob_E} {S : ob_S} {D : ob_D} {v0 : Nat} {v1 : Int32} {D' : ob_D} (hp_v0 : S.1 v0 = 13) (h : f_Model_queueBody S v0 v1 D = some D') : ob_M l E k_Model_queueBody [.ref v0, .int v1] S D none S D' := by
  refine ob_ofV (lo := [(0, .ref v0), (1, .int v1)]) (by decide) rfl (Nat.le_of_ble_eq_true rfl) rfl (Nat.le_refl _) (Nat.le_refl _) ?_
  rw [f_Model_queueBody] at h
  refine ob_push d_Model_queueBody_0 ?_
  refine ob_istore (lo2 := [(0, .ref v0), (1, .int v1), (2, .int (0 : Int32))]) d_Model_queueBody_1 rfl ?_
  exact v_Model_queueBody_L2 ob_FU v0 v1 (0 : Int32) D hp_v0 h
-- OrbitBoxModel.numberedCame(II)V
theorem d_Model_numberedCame_67 : ob_dk k_Model_numberedCame 67 68 (1 : Int32) (.iconst 1) 1 := ⟨by decide +kernel, rfl, show Int32.ofInt 1 = (1 : Int32) by decide +kernel⟩
theorem d_Model_numberedCame_94 : ob_dk k_Model_numberedCame 94 96 (10 : Int32) (.bipush 10) 2 := ⟨by decide +kernel, rfl, show (Int8.ofInt 10).toInt32 = (10 : Int32) by decide +kernel⟩
theorem d_Model_numberedCame_119 : ob_dc k_Model_numberedCame 119 (.return_) 1 120 := ⟨by decide +kernel, rfl⟩
theorem d_Model_numberedCame_100 : ob_dk k_Model_numberedCame 100 103 (245 : Int32) (.sipush 245) 3 := ⟨by decide +kernel, rfl, show (Int16.ofInt 245).toInt32 = (245 : Int32) by decide +kernel⟩
theorem d_Model_numberedCame_110 : ob_dk k_Model_numberedCame 110 111 (3 : Int32) (.iconst 3) 1 := ⟨by decide +kernel, rfl, show Int32.ofInt 3 = (3 : Int32) by decide +kernel⟩
theorem d_Model_numberedCame_115 : ob_dk k_Model_numberedCame 115 116 (3 : Int32) (.iconst 3) 1 := ⟨by decide +kernel, rfl, show Int32.ofInt 3 = (3 : Int32) by decide +kernel⟩
theorem d_Model_numberedCame_116 : ob_dc k_Model_numberedCame 116 (.putfield 23) 3 119 := ⟨by decide +kernel, rfl⟩
theorem d_Model_numberedCame_114 : ob_dv ob_ac k_Model_numberedCame 114 115 0 (.aload_n 0) 1 := ⟨by decide +kernel, rfl, rfl⟩
theorem d_Model_numberedCame_111 : ob_db k_Model_numberedCame 111 (.if_icmp .eq 8) 8 114 119 := ⟨by decide +kernel, rfl, by decide⟩
theorem d_Model_numberedCame_107 : ob_dc k_Model_numberedCame 107 (.getfield 23) 3 110 := ⟨by decide +kernel, rfl⟩
theorem d_Model_numberedCame_106 : ob_dv ob_ac k_Model_numberedCame 106 107 0 (.aload_n 0) 1 := ⟨by decide +kernel, rfl, rfl⟩
theorem d_Model_numberedCame_103 : ob_db k_Model_numberedCame 103 (.if_icmp .gt 16) 16 106 119 := ⟨by decide +kernel, rfl, by decide⟩
theorem d_Model_numberedCame_99 : ob_dv ob_lc k_Model_numberedCame 99 100 2 (.iload_n 2) 1 := ⟨by decide +kernel, rfl, rfl⟩
theorem d_Model_numberedCame_96 : ob_db k_Model_numberedCame 96 (.if_icmp .lt 23) 23 99 119 := ⟨by decide +kernel, rfl, by decide⟩
theorem d_Model_numberedCame_93 : ob_dv ob_lc k_Model_numberedCame 93 94 2 (.iload_n 2) 1 := ⟨by decide +kernel, rfl, rfl⟩
theorem d_Model_numberedCame_72 : ob_dk k_Model_numberedCame 72 74 (9 : Int32) (.bipush 9) 2 := ⟨by decide +kernel, rfl, show (Int8.ofInt 9).toInt32 = (9 : Int32) by decide +kernel⟩
theorem d_Model_numberedCame_81 : ob_dk k_Model_numberedCame 81 82 (1 : Int32) (.iconst 1) 1 := ⟨by decide +kernel, rfl, show Int32.ofInt 1 = (1 : Int32) by decide +kernel⟩
theorem d_Model_numberedCame_86 : ob_dk k_Model_numberedCame 86 87 (1 : Int32) (.iconst 1) 1 := ⟨by decide +kernel, rfl, show Int32.ofInt 1 = (1 : Int32) by decide +kernel⟩
theorem d_Model_numberedCame_90 : ob_db k_Model_numberedCame 90 (.goto 29) 29 93 119 := ⟨by decide +kernel, rfl, by decide⟩
theorem d_Model_numberedCame_87 : ob_dc k_Model_numberedCame 87 (.putfield 245) 3 90 := ⟨by decide +kernel, rfl⟩
theorem d_Model_numberedCame_85 : ob_dv ob_ac k_Model_numberedCame 85 86 0 (.aload_n 0) 1 := ⟨by decide +kernel, rfl, rfl⟩
theorem d_Model_numberedCame_82 : ob_db k_Model_numberedCame 82 (.if_icmp .ne 11) 11 85 93 := ⟨by decide +kernel, rfl, by decide⟩
theorem d_Model_numberedCame_78 : ob_dc k_Model_numberedCame 78 (.getfield 23) 3 81 := ⟨by decide +kernel, rfl⟩
theorem d_Model_numberedCame_77 : ob_dv ob_ac k_Model_numberedCame 77 78 0 (.aload_n 0) 1 := ⟨by decide +kernel, rfl, rfl⟩
theorem d_Model_numberedCame_74 : ob_db k_Model_numberedCame 74 (.if_icmp .gt 19) 19 77 93 := ⟨by decide +kernel, rfl, by decide⟩
theorem d_Model_numberedCame_71 : ob_dv ob_lc k_Model_numberedCame 71 72 2 (.iload_n 2) 1 := ⟨by decide +kernel, rfl, rfl⟩
theorem d_Model_numberedCame_68 : ob_db k_Model_numberedCame 68 (.if_icmp .lt 25) 25 71 93 := ⟨by decide +kernel, rfl, by decide⟩
theorem d_Model_numberedCame_66 : ob_dv ob_lc k_Model_numberedCame 66 67 2 (.iload_n 2) 1 := ⟨by decide +kernel, rfl, rfl⟩
theorem d_Model_numberedCame_8 : ob_dk k_Model_numberedCame 8 9 (1 : Int32) (.iconst 1) 1 := ⟨by decide +kernel, rfl, show Int32.ofInt 1 = (1 : Int32) by decide +kernel⟩
theorem d_Model_numberedCame_16 : ob_dk k_Model_numberedCame 16 18 (8 : Int32) (.bipush 8) 2 := ⟨by decide +kernel, rfl, show (Int8.ofInt 8).toInt32 = (8 : Int32) by decide +kernel⟩
theorem d_Model_numberedCame_49 : ob_dk k_Model_numberedCame 49 50 (1 : Int32) (.iconst 1) 1 := ⟨by decide +kernel, rfl, show Int32.ofInt 1 = (1 : Int32) by decide +kernel⟩
theorem d_Model_numberedCame_54 : ob_dk k_Model_numberedCame 54 55 (1 : Int32) (.iconst 1) 1 := ⟨by decide +kernel, rfl, show Int32.ofInt 1 = (1 : Int32) by decide +kernel⟩
theorem d_Model_numberedCame_59 : ob_dk k_Model_numberedCame 59 60 (2 : Int32) (.iconst 2) 1 := ⟨by decide +kernel, rfl, show Int32.ofInt 2 = (2 : Int32) by decide +kernel⟩
theorem d_Model_numberedCame_63 : ob_db k_Model_numberedCame 63 (.goto 56) 56 66 119 := ⟨by decide +kernel, rfl, by decide⟩
theorem d_Model_numberedCame_60 : ob_dc k_Model_numberedCame 60 (.putfield 23) 3 63 := ⟨by decide +kernel, rfl⟩
theorem d_Model_numberedCame_58 : ob_dv ob_ac k_Model_numberedCame 58 59 0 (.aload_n 0) 1 := ⟨by decide +kernel, rfl, rfl⟩
theorem d_Model_numberedCame_55 : ob_dc k_Model_numberedCame 55 (.putfield 248) 3 58 := ⟨by decide +kernel, rfl⟩
theorem d_Model_numberedCame_53 : ob_dv ob_ac k_Model_numberedCame 53 54 0 (.aload_n 0) 1 := ⟨by decide +kernel, rfl, rfl⟩
theorem d_Model_numberedCame_50 : ob_dc k_Model_numberedCame 50 (.putfield 245) 3 53 := ⟨by decide +kernel, rfl⟩
theorem d_Model_numberedCame_48 : ob_dv ob_ac k_Model_numberedCame 48 49 0 (.aload_n 0) 1 := ⟨by decide +kernel, rfl, rfl⟩
theorem d_Model_numberedCame_31 : ob_dk k_Model_numberedCame 31 32 (1 : Int32) (.iconst 1) 1 := ⟨by decide +kernel, rfl, show Int32.ofInt 1 = (1 : Int32) by decide +kernel⟩
theorem d_Model_numberedCame_33 : ob_dk k_Model_numberedCame 33 36 (256 : Int32) (.sipush 256) 3 := ⟨by decide +kernel, rfl, show (Int16.ofInt 256).toInt32 = (256 : Int32) by decide +kernel⟩
theorem d_Model_numberedCame_41 : ob_dk k_Model_numberedCame 41 42 (0 : Int32) (.iconst 0) 1 := ⟨by decide +kernel, rfl, show Int32.ofInt 0 = (0 : Int32) by decide +kernel⟩
theorem d_Model_numberedCame_45 : ob_db k_Model_numberedCame 45 (.goto 74) 74 48 119 := ⟨by decide +kernel, rfl, by decide⟩
theorem d_Model_numberedCame_42 : ob_dc k_Model_numberedCame 42 (.putfield 245) 3 45 := ⟨by decide +kernel, rfl⟩
theorem d_Model_numberedCame_40 : ob_dv ob_ac k_Model_numberedCame 40 41 0 (.aload_n 0) 1 := ⟨by decide +kernel, rfl, rfl⟩
theorem d_Model_numberedCame_37 : ob_dc k_Model_numberedCame 37 (.putfield 238) 3 40 := ⟨by decide +kernel, rfl⟩
theorem d_Model_numberedCame_36 : ob_dc k_Model_numberedCame 36 (.irem) 1 37 := ⟨by decide +kernel, rfl⟩
theorem d_Model_numberedCame_32 : ob_dc k_Model_numberedCame 32 (.iadd) 1 33 := ⟨by decide +kernel, rfl⟩
theorem d_Model_numberedCame_28 : ob_dc k_Model_numberedCame 28 (.getfield 238) 3 31 := ⟨by decide +kernel, rfl⟩
theorem d_Model_numberedCame_27 : ob_dv ob_ac k_Model_numberedCame 27 28 0 (.aload_n 0) 1 := ⟨by decide +kernel, rfl, rfl⟩
theorem d_Model_numberedCame_26 : ob_dv ob_ac k_Model_numberedCame 26 27 0 (.aload_n 0) 1 := ⟨by decide +kernel, rfl, rfl⟩
theorem d_Model_numberedCame_23 : ob_dc k_Model_numberedCame 23 (.invokevirtual 232) 3 26 := ⟨by decide +kernel, rfl⟩
theorem d_Model_numberedCame_22 : ob_dv ob_lc k_Model_numberedCame 22 23 1 (.iload_n 1) 1 := ⟨by decide +kernel, rfl, rfl⟩
theorem d_Model_numberedCame_21 : ob_dv ob_ac k_Model_numberedCame 21 22 0 (.aload_n 0) 1 := ⟨by decide +kernel, rfl, rfl⟩
theorem d_Model_numberedCame_18 : ob_db k_Model_numberedCame 18 (.if_icmp .ge 30) 30 21 48 := ⟨by decide +kernel, rfl, by decide⟩
theorem d_Model_numberedCame_13 : ob_dc k_Model_numberedCame 13 (.getfield 229) 3 16 := ⟨by decide +kernel, rfl⟩
theorem d_Model_numberedCame_12 : ob_dv ob_ac k_Model_numberedCame 12 13 0 (.aload_n 0) 1 := ⟨by decide +kernel, rfl, rfl⟩
theorem d_Model_numberedCame_9 : ob_db k_Model_numberedCame 9 (.if_icmp .ne 57) 57 12 66 := ⟨by decide +kernel, rfl, by decide⟩
theorem d_Model_numberedCame_5 : ob_dc k_Model_numberedCame 5 (.getfield 23) 3 8 := ⟨by decide +kernel, rfl⟩
theorem d_Model_numberedCame_4 : ob_dv ob_ac k_Model_numberedCame 4 5 0 (.aload_n 0) 1 := ⟨by decide +kernel, rfl, rfl⟩
theorem d_Model_numberedCame_1 : ob_db k_Model_numberedCame 1 (.ifCond .ne 65) 65 4 66 := ⟨by decide +kernel, rfl, by decide⟩
theorem d_Model_numberedCame_0 : ob_dv ob_lc k_Model_numberedCame 0 1 2 (.iload_n 2) 1 := ⟨by decide +kernel, rfl, rfl⟩
theorem c_Model_numberedCame_232 : ob_vd k_Model_numberedCame k_Model_queueBody 232 1 12 := ⟨cw_Model_queueBody, yd_Model_queueBody, w_1413, w_1415, wp_54, w_14, ⟨_, _, rfl⟩, by decide, by decide⟩
def f_Model_numberedCame_L93 (S : ob_S) (v0 : Nat) (v2 : Int32) (D : ob_D) : Option (ob_D) :=
  (if v2 < (10 : Int32) then some D else (if (245 : Int32) < v2 then some D else (if (D.1 v0 19) = (3 : Int32) then some D else ob_lt (ob_pI D v0 19 (3 : Int32)) fun D1 => some D1)))
theorem v_Model_numberedCame_L93 {l : Launch} {E : ob_E} {S : ob_S} {D' : ob_D} : ∀ (v0 : Nat) (v2 : Int32) (D : ob_D), S.1 v0 = 13 → f_Model_numberedCame_L93 S v0 v2 D = some D' → ob_V l E k_Model_numberedCame 93 [(0, .ref v0), (2, .int v2)] [] S D none S D' := by
  intro v0 v2 D hp_v0 h
  rw [f_Model_numberedCame_L93] at h
  refine ob_iload d_Model_numberedCame_93 rfl ?_
  refine ob_push d_Model_numberedCame_94 ?_
  refine ob_icmp_lt d_Model_numberedCame_96 (fun hc => ?_) (fun hc => ?_)
  · replace h := ob_ift hc h
    exact ob_ve h (ob_vret d_Model_numberedCame_119 rfl)
  · replace h := ob_iff hc h
    refine ob_iload d_Model_numberedCame_99 rfl ?_
    refine ob_push d_Model_numberedCame_100 ?_
    refine ob_icmp_gt d_Model_numberedCame_103 (fun hc => ?_) (fun hc => ?_)
    · replace h := ob_ift hc h
      exact ob_ve h (ob_vret d_Model_numberedCame_119 rfl)
    · replace h := ob_iff hc h
      refine ob_aload d_Model_numberedCame_106 rfl ?_
      refine ob_getI d_Model_numberedCame_107 F_12_19 l_Model_23 hp_v0 ?_
      refine ob_push d_Model_numberedCame_110 ?_
      refine ob_icmp_eq d_Model_numberedCame_111 (fun hc => ?_) (fun hc => ?_)
      · replace h := ob_ift hc h
        exact ob_ve h (ob_vret d_Model_numberedCame_119 rfl)
      · replace h := ob_iff hc h
        refine ob_aload d_Model_numberedCame_114 rfl ?_
        refine ob_push d_Model_numberedCame_115 ?_
        replace h := ob_lt_e h
        refine ob_putI d_Model_numberedCame_116 F_12_19 l_Model_23 hp_v0 ?_
        exact ob_ve h (ob_vret d_Model_numberedCame_119 rfl)
def f_Model_numberedCame_L66 (S : ob_S) (v0 : Nat) (v2 : Int32) (D : ob_D) : Option (ob_D) :=
  (if v2 < (1 : Int32) then f_Model_numberedCame_L93 S v0 v2 D else (if (9 : Int32) < v2 then f_Model_numberedCame_L93 S v0 v2 D else (if (D.1 v0 19) = (1 : Int32) then ob_lt (ob_pI D v0 23 (1 : Int32)) fun D2 => some D2 else f_Model_numberedCame_L93 S v0 v2 D)))
theorem v_Model_numberedCame_L66 {l : Launch} {E : ob_E} {S : ob_S} {D' : ob_D} : ∀ (v0 : Nat) (v2 : Int32) (D : ob_D), S.1 v0 = 13 → f_Model_numberedCame_L66 S v0 v2 D = some D' → ob_V l E k_Model_numberedCame 66 [(0, .ref v0), (2, .int v2)] [] S D none S D' := by
  intro v0 v2 D hp_v0 h
  rw [f_Model_numberedCame_L66] at h
  refine ob_iload d_Model_numberedCame_66 rfl ?_
  refine ob_push d_Model_numberedCame_67 ?_
  refine ob_icmp_lt d_Model_numberedCame_68 (fun hc => ?_) (fun hc => ?_)
  · replace h := ob_ift hc h
    exact v_Model_numberedCame_L93 v0 v2 D hp_v0 h
  · replace h := ob_iff hc h
    refine ob_iload d_Model_numberedCame_71 rfl ?_
    refine ob_push d_Model_numberedCame_72 ?_
    refine ob_icmp_gt d_Model_numberedCame_74 (fun hc => ?_) (fun hc => ?_)
    · replace h := ob_ift hc h
      exact v_Model_numberedCame_L93 v0 v2 D hp_v0 h
    · replace h := ob_iff hc h
      refine ob_aload d_Model_numberedCame_77 rfl ?_
      refine ob_getI d_Model_numberedCame_78 F_12_19 l_Model_23 hp_v0 ?_
      refine ob_push d_Model_numberedCame_81 ?_
      refine ob_icmp_ne d_Model_numberedCame_82 (fun hc => ?_) (fun hc => ?_)
      · replace h := ob_iff hc h
        exact v_Model_numberedCame_L93 v0 v2 D hp_v0 h
      · replace h := ob_ift hc h
        refine ob_aload d_Model_numberedCame_85 rfl ?_
        refine ob_push d_Model_numberedCame_86 ?_
        replace h := ob_lt_e h
        refine ob_putZ d_Model_numberedCame_87 F_12_23 l_Model_245 hp_v0 (Or.inr rfl) ?_
        refine ob_goto d_Model_numberedCame_90 ?_
        exact ob_ve h (ob_vret d_Model_numberedCame_119 rfl)
def f_Model_numberedCame (S : ob_S) (v0 : Nat) (v1 : Int32) (v2 : Int32) (D : ob_D) : Option (ob_D) :=
  (if v2 = 0 then (if (D.1 v0 19) = (1 : Int32) then (if (8 : Int32) ≤ (D.1 v0 26) then ob_lt (ob_pI D v0 23 (1 : Int32)) fun D3 => ob_lt (ob_pI D3 v0 22 (1 : Int32)) fun D4 => ob_lt (ob_pI D4 v0 19 (2 : Int32)) fun D5 => some D5 else ob_bv (f_Model_queueBody S v0 v1 D) fun D6 => ob_lt (ob_pI D6 v0 20 (((D6.1 v0 20) + (1 : Int32)) - ((D6.1 v0 20) + (1 : Int32)) / (256 : Int32) * (256 : Int32))) fun D8 => ob_lt (ob_pI D8 v0 23 (0 : Int32)) fun D9 => some D9) else f_Model_numberedCame_L66 S v0 v2 D) else f_Model_numberedCame_L66 S v0 v2 D)
theorem c_Model_numberedCame {l : Launch} {E : ob_E} {S : ob_S} {D : ob_D} {v0 : Nat} {v1 : Int32} {v2 : Int32} {D' : ob_D} (hp_v0 : S.1 v0 = 13) (h : f_Model_numberedCame S v0 v1 v2 D = some D') : ob_M l E k_Model_numberedCame [.ref v0, .int v1, .int v2] S D none S D' := by
  refine ob_ofV (lo := [(0, .ref v0), (1, .int v1), (2, .int v2)]) (by decide) rfl (Nat.le_of_ble_eq_true rfl) rfl (Nat.le_refl _) (Nat.le_refl _) ?_
  rw [f_Model_numberedCame] at h
  refine ob_iload d_Model_numberedCame_0 rfl ?_
  refine ob_if_ne d_Model_numberedCame_1 (fun hc => ?_) (fun hc => ?_)
  · replace h := ob_iff hc h
    refine ob_sub (lo2 := [(0, .ref v0), (2, .int v2)]) [0, 2] rfl ?_
    exact v_Model_numberedCame_L66 v0 v2 D hp_v0 h
  · replace h := ob_ift hc h
    refine ob_aload d_Model_numberedCame_4 rfl ?_
    refine ob_getI d_Model_numberedCame_5 F_12_19 l_Model_23 hp_v0 ?_
    refine ob_push d_Model_numberedCame_8 ?_
    refine ob_icmp_ne d_Model_numberedCame_9 (fun hc => ?_) (fun hc => ?_)
    · replace h := ob_iff hc h
      refine ob_sub (lo2 := [(0, .ref v0), (2, .int v2)]) [0, 2] rfl ?_
      exact v_Model_numberedCame_L66 v0 v2 D hp_v0 h
    · replace h := ob_ift hc h
      refine ob_aload d_Model_numberedCame_12 rfl ?_
      refine ob_getI d_Model_numberedCame_13 F_12_26 l_Model_229 hp_v0 ?_
      refine ob_push d_Model_numberedCame_16 ?_
      refine ob_icmp_ge d_Model_numberedCame_18 (fun hc => ?_) (fun hc => ?_)
      · replace h := ob_ift hc h
        refine ob_aload d_Model_numberedCame_48 rfl ?_
        refine ob_push d_Model_numberedCame_49 ?_
        replace h := ob_lt_e h
        refine ob_putZ d_Model_numberedCame_50 F_12_23 l_Model_245 hp_v0 (Or.inr rfl) ?_
        refine ob_aload d_Model_numberedCame_53 rfl ?_
        refine ob_push d_Model_numberedCame_54 ?_
        replace h := ob_lt_e h
        refine ob_putZ d_Model_numberedCame_55 F_12_22 l_Model_248 hp_v0 (Or.inr rfl) ?_
        refine ob_aload d_Model_numberedCame_58 rfl ?_
        refine ob_push d_Model_numberedCame_59 ?_
        replace h := ob_lt_e h
        refine ob_putI d_Model_numberedCame_60 F_12_19 l_Model_23 hp_v0 ?_
        refine ob_goto d_Model_numberedCame_63 ?_
        exact ob_ve h (ob_vret d_Model_numberedCame_119 rfl)
      · replace h := ob_iff hc h
        refine ob_aload d_Model_numberedCame_21 rfl ?_
        refine ob_iload d_Model_numberedCame_22 rfl ?_
        obtain ⟨D6, h7, h⟩ := ob_bv_e h
        refine ob_callVv (As := [.int v1]) (rest := []) d_Model_numberedCame_23 c_Model_numberedCame_232 hp_v0 rfl rfl (Nat.le_of_ble_eq_true rfl) (c_Model_queueBody hp_v0 h7) ⟨Nat.le_refl _, Nat.le_refl _⟩ ⟨Nat.le_refl _, Nat.le_refl _⟩ ?_
        refine ob_aload d_Model_numberedCame_26 rfl ?_
        refine ob_aload d_Model_numberedCame_27 rfl ?_
        refine ob_getI d_Model_numberedCame_28 F_12_20 l_Model_238 hp_v0 ?_
        refine ob_push d_Model_numberedCame_31 ?_
        refine ob_iadd d_Model_numberedCame_32 ?_
        refine ob_push d_Model_numberedCame_33 ?_
        refine ob_irem d_Model_numberedCame_36 (by decide) ?_
        replace h := ob_lt_e h
        refine ob_putI d_Model_numberedCame_37 F_12_20 l_Model_238 hp_v0 ?_
        refine ob_aload d_Model_numberedCame_40 rfl ?_
        refine ob_push d_Model_numberedCame_41 ?_
        replace h := ob_lt_e h
        refine ob_putZ d_Model_numberedCame_42 F_12_23 l_Model_245 hp_v0 (Or.inl rfl) ?_
        refine ob_goto d_Model_numberedCame_45 ?_
        exact ob_ve h (ob_vret d_Model_numberedCame_119 rfl)
-- OrbitBoxModel.frameCame()V
theorem d_Model_frameCame_22 : ob_dk k_Model_frameCame 22 23 (0 : Int32) (.iconst 0) 1 := ⟨by decide +kernel, rfl, show Int32.ofInt 0 = (0 : Int32) by decide +kernel⟩
theorem d_Model_frameCame_31 : ob_dk k_Model_frameCame 31 32 (2 : Int32) (.iconst 2) 1 := ⟨by decide +kernel, rfl, show Int32.ofInt 2 = (2 : Int32) by decide +kernel⟩
theorem d_Model_frameCame_35 : ob_dk k_Model_frameCame 35 38 (1023 : Int32) (.sipush 1023) 3 := ⟨by decide +kernel, rfl, show (Int16.ofInt 1023).toInt32 = (1023 : Int32) by decide +kernel⟩
theorem d_Model_frameCame_39 : ob_dk k_Model_frameCame 39 41 (6 : Int32) (.bipush 6) 2 := ⟨by decide +kernel, rfl, show (Int8.ofInt 6).toInt32 = (6 : Int32) by decide +kernel⟩
theorem d_Model_frameCame_44 : ob_dk k_Model_frameCame 44 47 (8192 : Int32) (.sipush 8192) 3 := ⟨by decide +kernel, rfl, show (Int16.ofInt 8192).toInt32 = (8192 : Int32) by decide +kernel⟩
theorem d_Model_frameCame_55 : ob_dk k_Model_frameCame 55 56 (0 : Int32) (.iconst 0) 1 := ⟨by decide +kernel, rfl, show Int32.ofInt 0 = (0 : Int32) by decide +kernel⟩
theorem d_Model_frameCame_58 : ob_dk k_Model_frameCame 58 61 (4096 : Int32) (.sipush 4096) 3 := ⟨by decide +kernel, rfl, show (Int16.ofInt 4096).toInt32 = (4096 : Int32) by decide +kernel⟩
theorem d_Model_frameCame_69 : ob_dk k_Model_frameCame 69 70 (0 : Int32) (.iconst 0) 1 := ⟨by decide +kernel, rfl, show Int32.ofInt 0 = (0 : Int32) by decide +kernel⟩
theorem d_Model_frameCame_137 : ob_dk k_Model_frameCame 137 138 (4 : Int32) (.iconst 4) 1 := ⟨by decide +kernel, rfl, show Int32.ofInt 4 = (4 : Int32) by decide +kernel⟩
theorem d_Model_frameCame_139 : ob_dk k_Model_frameCame 139 142 (255 : Int32) (.sipush 255) 3 := ⟨by decide +kernel, rfl, show (Int16.ofInt 255).toInt32 = (255 : Int32) by decide +kernel⟩
theorem d_Model_frameCame_148 : ob_dk k_Model_frameCame 148 151 (256 : Int32) (.sipush 256) 3 := ⟨by decide +kernel, rfl, show (Int16.ofInt 256).toInt32 = (256 : Int32) by decide +kernel⟩
theorem d_Model_frameCame_152 : ob_dk k_Model_frameCame 152 155 (256 : Int32) (.sipush 256) 3 := ⟨by decide +kernel, rfl, show (Int16.ofInt 256).toInt32 = (256 : Int32) by decide +kernel⟩
theorem d_Model_frameCame_159 : ob_dc k_Model_frameCame 159 (.return_) 1 160 := ⟨by decide +kernel, rfl⟩
theorem d_Model_frameCame_156 : ob_dc k_Model_frameCame 156 (.invokevirtual 241) 3 159 := ⟨by decide +kernel, rfl⟩
theorem d_Model_frameCame_155 : ob_dc k_Model_frameCame 155 (.irem) 1 156 := ⟨by decide +kernel, rfl⟩
theorem d_Model_frameCame_151 : ob_dc k_Model_frameCame 151 (.iadd) 1 152 := ⟨by decide +kernel, rfl⟩
theorem d_Model_frameCame_147 : ob_dc k_Model_frameCame 147 (.isub) 1 148 := ⟨by decide +kernel, rfl⟩
theorem d_Model_frameCame_144 : ob_dc k_Model_frameCame 144 (.getfield 238) 3 147 := ⟨by decide +kernel, rfl⟩
theorem d_Model_frameCame_143 : ob_dv ob_ac k_Model_frameCame 143 144 0 (.aload_n 0) 1 := ⟨by decide +kernel, rfl, rfl⟩
theorem d_Model_frameCame_142 : ob_dc k_Model_frameCame 142 (.iand) 1 143 := ⟨by decide +kernel, rfl⟩
theorem d_Model_frameCame_138 : ob_dc k_Model_frameCame 138 (.baload) 1 139 := ⟨by decide +kernel, rfl⟩
theorem d_Model_frameCame_134 : ob_dc k_Model_frameCame 134 (.getfield 17) 3 137 := ⟨by decide +kernel, rfl⟩
theorem d_Model_frameCame_133 : ob_dv ob_ac k_Model_frameCame 133 134 0 (.aload_n 0) 1 := ⟨by decide +kernel, rfl, rfl⟩
theorem d_Model_frameCame_132 : ob_dv ob_lc k_Model_frameCame 132 133 2 (.iload_n 2) 1 := ⟨by decide +kernel, rfl, rfl⟩
theorem d_Model_frameCame_131 : ob_dv ob_ac k_Model_frameCame 131 132 0 (.aload_n 0) 1 := ⟨by decide +kernel, rfl, rfl⟩
theorem d_Model_frameCame_93 : ob_dk k_Model_frameCame 93 95 (8 : Int32) (.bipush 8) 2 := ⟨by decide +kernel, rfl, show (Int8.ofInt 8).toInt32 = (8 : Int32) by decide +kernel⟩
theorem d_Model_frameCame_123 : ob_dk k_Model_frameCame 123 124 (1 : Int32) (.iconst 1) 1 := ⟨by decide +kernel, rfl, show Int32.ofInt 1 = (1 : Int32) by decide +kernel⟩
theorem d_Model_frameCame_128 : ob_db k_Model_frameCame 128 (.goto 31) 31 131 159 := ⟨by decide +kernel, rfl, by decide⟩
theorem d_Model_frameCame_125 : ob_dc k_Model_frameCame 125 (.putfield 222) 3 128 := ⟨by decide +kernel, rfl⟩
theorem d_Model_frameCame_124 : ob_dc k_Model_frameCame 124 (.iadd) 1 125 := ⟨by decide +kernel, rfl⟩
theorem d_Model_frameCame_120 : ob_dc k_Model_frameCame 120 (.getfield 222) 3 123 := ⟨by decide +kernel, rfl⟩
theorem d_Model_frameCame_119 : ob_dc k_Model_frameCame 119 (.dup) 1 120 := ⟨by decide +kernel, rfl⟩
theorem d_Model_frameCame_118 : ob_dv ob_ac k_Model_frameCame 118 119 0 (.aload_n 0) 1 := ⟨by decide +kernel, rfl, rfl⟩
theorem d_Model_frameCame_108 : ob_dk k_Model_frameCame 108 109 (1 : Int32) (.iconst 1) 1 := ⟨by decide +kernel, rfl, show Int32.ofInt 1 = (1 : Int32) by decide +kernel⟩
theorem d_Model_frameCame_110 : ob_dk k_Model_frameCame 110 111 (4 : Int32) (.iconst 4) 1 := ⟨by decide +kernel, rfl, show Int32.ofInt 4 = (4 : Int32) by decide +kernel⟩
theorem d_Model_frameCame_115 : ob_db k_Model_frameCame 115 (.goto 44) 44 118 159 := ⟨by decide +kernel, rfl, by decide⟩
theorem d_Model_frameCame_112 : ob_dc k_Model_frameCame 112 (.putfield 235) 3 115 := ⟨by decide +kernel, rfl⟩
theorem d_Model_frameCame_111 : ob_dc k_Model_frameCame 111 (.irem) 1 112 := ⟨by decide +kernel, rfl⟩
theorem d_Model_frameCame_109 : ob_dc k_Model_frameCame 109 (.iadd) 1 110 := ⟨by decide +kernel, rfl⟩
theorem d_Model_frameCame_105 : ob_dc k_Model_frameCame 105 (.getfield 235) 3 108 := ⟨by decide +kernel, rfl⟩
theorem d_Model_frameCame_104 : ob_dv ob_ac k_Model_frameCame 104 105 0 (.aload_n 0) 1 := ⟨by decide +kernel, rfl, rfl⟩
theorem d_Model_frameCame_103 : ob_dv ob_ac k_Model_frameCame 103 104 0 (.aload_n 0) 1 := ⟨by decide +kernel, rfl, rfl⟩
theorem d_Model_frameCame_100 : ob_dc k_Model_frameCame 100 (.invokevirtual 232) 3 103 := ⟨by decide +kernel, rfl⟩
theorem d_Model_frameCame_99 : ob_dv ob_lc k_Model_frameCame 99 100 2 (.iload_n 2) 1 := ⟨by decide +kernel, rfl, rfl⟩
theorem d_Model_frameCame_98 : ob_dv ob_ac k_Model_frameCame 98 99 0 (.aload_n 0) 1 := ⟨by decide +kernel, rfl, rfl⟩
theorem d_Model_frameCame_95 : ob_db k_Model_frameCame 95 (.if_icmp .ge 23) 23 98 118 := ⟨by decide +kernel, rfl, by decide⟩
theorem d_Model_frameCame_90 : ob_dc k_Model_frameCame 90 (.getfield 229) 3 93 := ⟨by decide +kernel, rfl⟩
theorem d_Model_frameCame_89 : ob_dv ob_ac k_Model_frameCame 89 90 0 (.aload_n 0) 1 := ⟨by decide +kernel, rfl, rfl⟩
theorem d_Model_frameCame_86 : ob_db k_Model_frameCame 86 (.ifCond .eq 45) 45 89 131 := ⟨by decide +kernel, rfl, by decide⟩
theorem d_Model_frameCame_85 : ob_dv ob_lc k_Model_frameCame 85 86 3 (.iload_n 3) 1 := ⟨by decide +kernel, rfl, rfl⟩
theorem d_Model_frameCame_82 : ob_db k_Model_frameCame 82 (.goto 77) 77 85 159 := ⟨by decide +kernel, rfl, by decide⟩
theorem d_Model_frameCame_79 : ob_dc k_Model_frameCame 79 (.invokevirtual 225) 3 82 := ⟨by decide +kernel, rfl⟩
theorem d_Model_frameCame_78 : ob_dv ob_lc k_Model_frameCame 78 79 2 (.iload_n 2) 1 := ⟨by decide +kernel, rfl, rfl⟩
theorem d_Model_frameCame_77 : ob_dv ob_ac k_Model_frameCame 77 78 0 (.aload_n 0) 1 := ⟨by decide +kernel, rfl, rfl⟩
theorem d_Model_frameCame_74 : ob_db k_Model_frameCame 74 (.ifCond .eq 11) 11 77 85 := ⟨by decide +kernel, rfl, by decide⟩
theorem d_Model_frameCame_72 : ob_dv ob_lc k_Model_frameCame 72 74 4 (.iload 4) 2 := ⟨by decide +kernel, rfl, rfl⟩
theorem d_Model_frameCame_70 : ob_dv (ob_sc k_Model_frameCame.2.2.2.1) k_Model_frameCame 70 72 4 (.istore 4) 2 := ⟨by decide +kernel, rfl, ⟨rfl, by decide +kernel⟩⟩
theorem d_Model_frameCame_65 : ob_dk k_Model_frameCame 65 66 (1 : Int32) (.iconst 1) 1 := ⟨by decide +kernel, rfl, show Int32.ofInt 1 = (1 : Int32) by decide +kernel⟩
theorem d_Model_frameCame_66 : ob_db k_Model_frameCame 66 (.goto 4) 4 69 70 := ⟨by decide +kernel, rfl, by decide⟩
theorem d_Model_frameCame_62 : ob_db k_Model_frameCame 62 (.ifCond .eq 7) 7 65 69 := ⟨by decide +kernel, rfl, by decide⟩
theorem d_Model_frameCame_61 : ob_dc k_Model_frameCame 61 (.iand) 1 62 := ⟨by decide +kernel, rfl⟩
theorem d_Model_frameCame_57 : ob_dv ob_lc k_Model_frameCame 57 58 1 (.iload_n 1) 1 := ⟨by decide +kernel, rfl, rfl⟩
theorem d_Model_frameCame_56 : ob_dv (ob_sc k_Model_frameCame.2.2.2.1) k_Model_frameCame 56 57 3 (.istore_n 3) 1 := ⟨by decide +kernel, rfl, ⟨rfl, by decide +kernel⟩⟩
theorem d_Model_frameCame_51 : ob_dk k_Model_frameCame 51 52 (1 : Int32) (.iconst 1) 1 := ⟨by decide +kernel, rfl, show Int32.ofInt 1 = (1 : Int32) by decide +kernel⟩
theorem d_Model_frameCame_52 : ob_db k_Model_frameCame 52 (.goto 4) 4 55 56 := ⟨by decide +kernel, rfl, by decide⟩
theorem d_Model_frameCame_48 : ob_db k_Model_frameCame 48 (.ifCond .eq 7) 7 51 55 := ⟨by decide +kernel, rfl, by decide⟩
theorem d_Model_frameCame_47 : ob_dc k_Model_frameCame 47 (.iand) 1 48 := ⟨by decide +kernel, rfl⟩
theorem d_Model_frameCame_43 : ob_dv ob_lc k_Model_frameCame 43 44 1 (.iload_n 1) 1 := ⟨by decide +kernel, rfl, rfl⟩
theorem d_Model_frameCame_42 : ob_dv (ob_sc k_Model_frameCame.2.2.2.1) k_Model_frameCame 42 43 2 (.istore_n 2) 1 := ⟨by decide +kernel, rfl, ⟨rfl, by decide +kernel⟩⟩
theorem d_Model_frameCame_41 : ob_dc k_Model_frameCame 41 (.isub) 1 42 := ⟨by decide +kernel, rfl⟩
theorem d_Model_frameCame_38 : ob_dc k_Model_frameCame 38 (.iand) 1 39 := ⟨by decide +kernel, rfl⟩
theorem d_Model_frameCame_32 : ob_dc k_Model_frameCame 32 (.invokestatic 180) 3 35 := ⟨by decide +kernel, rfl⟩
theorem d_Model_frameCame_28 : ob_dc k_Model_frameCame 28 (.getfield 17) 3 31 := ⟨by decide +kernel, rfl⟩
theorem d_Model_frameCame_27 : ob_dv ob_ac k_Model_frameCame 27 28 0 (.aload_n 0) 1 := ⟨by decide +kernel, rfl, rfl⟩
theorem d_Model_frameCame_26 : ob_dv (ob_sc k_Model_frameCame.2.2.2.1) k_Model_frameCame 26 27 1 (.istore_n 1) 1 := ⟨by decide +kernel, rfl, ⟨rfl, by decide +kernel⟩⟩
theorem d_Model_frameCame_23 : ob_dc k_Model_frameCame 23 (.invokestatic 180) 3 26 := ⟨by decide +kernel, rfl⟩
theorem d_Model_frameCame_19 : ob_dc k_Model_frameCame 19 (.getfield 17) 3 22 := ⟨by decide +kernel, rfl⟩
theorem d_Model_frameCame_18 : ob_dv ob_ac k_Model_frameCame 18 19 0 (.aload_n 0) 1 := ⟨by decide +kernel, rfl, rfl⟩
theorem d_Model_frameCame_12 : ob_dk k_Model_frameCame 12 13 (1 : Int32) (.iconst 1) 1 := ⟨by decide +kernel, rfl, show Int32.ofInt 1 = (1 : Int32) by decide +kernel⟩
theorem d_Model_frameCame_17 : ob_dc k_Model_frameCame 17 (.return_) 1 18 := ⟨by decide +kernel, rfl⟩
theorem d_Model_frameCame_14 : ob_dc k_Model_frameCame 14 (.putfield 222) 3 17 := ⟨by decide +kernel, rfl⟩
theorem d_Model_frameCame_13 : ob_dc k_Model_frameCame 13 (.iadd) 1 14 := ⟨by decide +kernel, rfl⟩
theorem d_Model_frameCame_9 : ob_dc k_Model_frameCame 9 (.getfield 222) 3 12 := ⟨by decide +kernel, rfl⟩
theorem d_Model_frameCame_8 : ob_dc k_Model_frameCame 8 (.dup) 1 9 := ⟨by decide +kernel, rfl⟩
theorem d_Model_frameCame_7 : ob_dv ob_ac k_Model_frameCame 7 8 0 (.aload_n 0) 1 := ⟨by decide +kernel, rfl, rfl⟩
theorem d_Model_frameCame_4 : ob_db k_Model_frameCame 4 (.ifCond .ne 14) 14 7 18 := ⟨by decide +kernel, rfl, by decide⟩
theorem d_Model_frameCame_1 : ob_dc k_Model_frameCame 1 (.invokevirtual 218) 3 4 := ⟨by decide +kernel, rfl⟩
theorem d_Model_frameCame_0 : ob_dv ob_ac k_Model_frameCame 0 1 0 (.aload_n 0) 1 := ⟨by decide +kernel, rfl, rfl⟩
theorem c_Model_frameCame_241 : ob_vd k_Model_frameCame k_Model_numberedCame 241 2 12 := ⟨cw_Model_numberedCame, yd_Model_numberedCame, w_1417, w_1419, wp_55, w_14, ⟨_, _, rfl⟩, by decide, by decide⟩
theorem c_Model_frameCame_232 : ob_vd k_Model_frameCame k_Model_queueBody 232 1 12 := ⟨cw_Model_queueBody, yd_Model_queueBody, w_1413, w_1415, wp_54, w_14, ⟨_, _, rfl⟩, by decide, by decide⟩
theorem c_Model_frameCame_225 : ob_vd k_Model_frameCame k_Model_controlCame 225 1 12 := ⟨cw_Model_controlCame, yd_Model_controlCame, w_1409, w_1411, wp_53, w_14, ⟨_, _, rfl⟩, by decide, by decide⟩
theorem c_Model_frameCame_180 : ob_sd k_Model_frameCame k_Model_two 180 2 := ⟨cw_Model_two, yd_Model_two, w_1400, w_1401, w_14, by decide, by decide⟩
theorem c_Model_frameCame_218 : ob_vd k_Model_frameCame k_Model_valid 218 0 12 := ⟨cw_Model_valid, yd_Model_valid, w_1396, w_1398, wp_52, w_14, ⟨_, _, rfl⟩, by decide, by decide⟩
def f_Model_frameCame_L70 (S : ob_S) (v0 : Nat) (v2 : Int32) (v3 : Int32) (s0 : Int32) (D : ob_D) : Option (ob_D) :=
  (if s0 = 0 then (if v3 = 0 then if D.2.1 v0 13 ≠ 0 then if ob_in (4 : Int32) (S.2.1 (D.2.1 v0 13)) then ob_bv (f_Model_numberedCame S v0 v2 (((((D.1 (D.2.1 v0 13) (4 : Int32).toNatClampNeg) &&& (255 : Int32)) - (D.1 v0 20)) + (256 : Int32)) - ((((D.1 (D.2.1 v0 13) (4 : Int32).toNatClampNeg) &&& (255 : Int32)) - (D.1 v0 20)) + (256 : Int32)) / (256 : Int32) * (256 : Int32)) D) fun D17 => some D17 else none else none else (if (8 : Int32) ≤ (D.1 v0 26) then ob_lt (ob_pI D v0 16 ((D.1 v0 16) + (1 : Int32))) fun D19 => some D19 else ob_bv (f_Model_queueBody S v0 v2 D) fun D20 => ob_lt (ob_pI D20 v0 21 (((D20.1 v0 21) + (1 : Int32)) - ((D20.1 v0 21) + (1 : Int32)) / (4 : Int32) * (4 : Int32))) fun D22 => some D22)) else ob_bv (f_Model_controlCame S v0 v2 D) fun D23 => some D23)
theorem v_Model_frameCame_L70 {l : Launch} {E : ob_E} {S : ob_S} {D' : ob_D} : ∀ (v0 : Nat) (v2 : Int32) (v3 : Int32) (s0 : Int32) (D : ob_D), S.1 v0 = 13 → f_Model_frameCame_L70 S v0 v2 v3 s0 D = some D' → ob_V l E k_Model_frameCame 70 [(0, .ref v0), (2, .int v2), (3, .int v3)] [.int s0] S D none S D' := by
  intro v0 v2 v3 s0 D hp_v0 h
  rw [f_Model_frameCame_L70] at h
  refine ob_istore (lo2 := [(0, .ref v0), (2, .int v2), (3, .int v3), (4, .int s0)]) d_Model_frameCame_70 rfl ?_
  refine ob_iload d_Model_frameCame_72 rfl ?_
  refine ob_if_eq d_Model_frameCame_74 (fun hc => ?_) (fun hc => ?_)
  · replace h := ob_ift hc h
    refine ob_iload d_Model_frameCame_85 rfl ?_
    refine ob_if_eq d_Model_frameCame_86 (fun hc => ?_) (fun hc => ?_)
    · replace h := ob_ift hc h
      refine ob_aload d_Model_frameCame_131 rfl ?_
      refine ob_iload d_Model_frameCame_132 rfl ?_
      refine ob_aload d_Model_frameCame_133 rfl ?_
      obtain ⟨hg15, h⟩ := ob_gd h
      refine ob_getR d_Model_frameCame_134 F_12_13 l_Model_17 hp_v0 hg15 (fun hk14 => ?_)
      refine ob_push d_Model_frameCame_137 ?_
      obtain ⟨hg16, h⟩ := ob_gd h
      refine ob_bald d_Model_frameCame_138 hk14 hg16 ?_
      refine ob_push d_Model_frameCame_139 ?_
      refine ob_iand d_Model_frameCame_142 ?_
      refine ob_aload d_Model_frameCame_143 rfl ?_
      refine ob_getI d_Model_frameCame_144 F_12_20 l_Model_238 hp_v0 ?_
      refine ob_isub d_Model_frameCame_147 ?_
      refine ob_push d_Model_frameCame_148 ?_
      refine ob_iadd d_Model_frameCame_151 ?_
      refine ob_push d_Model_frameCame_152 ?_
      refine ob_irem d_Model_frameCame_155 (by decide) ?_
      obtain ⟨D17, h18, h⟩ := ob_bv_e h
      refine ob_callVv (As := [.int v2, .int (((((D.1 (D.2.1 v0 13) (4 : Int32).toNatClampNeg) &&& (255 : Int32)) - (D.1 v0 20)) + (256 : Int32)) - ((((D.1 (D.2.1 v0 13) (4 : Int32).toNatClampNeg) &&& (255 : Int32)) - (D.1 v0 20)) + (256 : Int32)) / (256 : Int32) * (256 : Int32))]) (rest := []) d_Model_frameCame_156 c_Model_frameCame_241 hp_v0 rfl rfl (Nat.le_of_ble_eq_true rfl) (c_Model_numberedCame hp_v0 h18) ⟨Nat.le_refl _, Nat.le_refl _⟩ ⟨Nat.le_refl _, Nat.le_refl _⟩ ?_
      exact ob_ve h (ob_vret d_Model_frameCame_159 rfl)
    · replace h := ob_iff hc h
      refine ob_aload d_Model_frameCame_89 rfl ?_
      refine ob_getI d_Model_frameCame_90 F_12_26 l_Model_229 hp_v0 ?_
      refine ob_push d_Model_frameCame_93 ?_
      refine ob_icmp_ge d_Model_frameCame_95 (fun hc => ?_) (fun hc => ?_)
      · replace h := ob_ift hc h
        refine ob_aload d_Model_frameCame_118 rfl ?_
        refine ob_dup d_Model_frameCame_119 rfl ?_
        refine ob_getI d_Model_frameCame_120 F_12_16 l_Model_222 hp_v0 ?_
        refine ob_push d_Model_frameCame_123 ?_
        refine ob_iadd d_Model_frameCame_124 ?_
        replace h := ob_lt_e h
        refine ob_putI d_Model_frameCame_125 F_12_16 l_Model_222 hp_v0 ?_
        refine ob_goto d_Model_frameCame_128 ?_
        exact ob_ve h (ob_vret d_Model_frameCame_159 rfl)
      · replace h := ob_iff hc h
        refine ob_aload d_Model_frameCame_98 rfl ?_
        refine ob_iload d_Model_frameCame_99 rfl ?_
        obtain ⟨D20, h21, h⟩ := ob_bv_e h
        refine ob_callVv (As := [.int v2]) (rest := []) d_Model_frameCame_100 c_Model_frameCame_232 hp_v0 rfl rfl (Nat.le_of_ble_eq_true rfl) (c_Model_queueBody hp_v0 h21) ⟨Nat.le_refl _, Nat.le_refl _⟩ ⟨Nat.le_refl _, Nat.le_refl _⟩ ?_
        refine ob_aload d_Model_frameCame_103 rfl ?_
        refine ob_aload d_Model_frameCame_104 rfl ?_
        refine ob_getI d_Model_frameCame_105 F_12_21 l_Model_235 hp_v0 ?_
        refine ob_push d_Model_frameCame_108 ?_
        refine ob_iadd d_Model_frameCame_109 ?_
        refine ob_push d_Model_frameCame_110 ?_
        refine ob_irem d_Model_frameCame_111 (by decide) ?_
        replace h := ob_lt_e h
        refine ob_putI d_Model_frameCame_112 F_12_21 l_Model_235 hp_v0 ?_
        refine ob_goto d_Model_frameCame_115 ?_
        exact ob_ve h (ob_vret d_Model_frameCame_159 rfl)
  · replace h := ob_iff hc h
    refine ob_aload d_Model_frameCame_77 rfl ?_
    refine ob_iload d_Model_frameCame_78 rfl ?_
    obtain ⟨D23, h24, h⟩ := ob_bv_e h
    refine ob_callVv (As := [.int v2]) (rest := []) d_Model_frameCame_79 c_Model_frameCame_225 hp_v0 rfl rfl (Nat.le_of_ble_eq_true rfl) (c_Model_controlCame hp_v0 h24) ⟨Nat.le_refl _, Nat.le_refl _⟩ ⟨Nat.le_refl _, Nat.le_refl _⟩ ?_
    refine ob_goto d_Model_frameCame_82 ?_
    exact ob_ve h (ob_vret d_Model_frameCame_159 rfl)
def f_Model_frameCame_L56 (S : ob_S) (v0 : Nat) (v1 : Int32) (v2 : Int32) (s0 : Int32) (D : ob_D) : Option (ob_D) :=
  (if (v1 &&& (4096 : Int32)) = 0 then f_Model_frameCame_L70 S v0 v2 s0 (0 : Int32) D else f_Model_frameCame_L70 S v0 v2 s0 (1 : Int32) D)
theorem v_Model_frameCame_L56 {l : Launch} {E : ob_E} {S : ob_S} {D' : ob_D} : ∀ (v0 : Nat) (v1 : Int32) (v2 : Int32) (s0 : Int32) (D : ob_D), S.1 v0 = 13 → f_Model_frameCame_L56 S v0 v1 v2 s0 D = some D' → ob_V l E k_Model_frameCame 56 [(0, .ref v0), (1, .int v1), (2, .int v2)] [.int s0] S D none S D' := by
  intro v0 v1 v2 s0 D hp_v0 h
  rw [f_Model_frameCame_L56] at h
  refine ob_istore (lo2 := [(0, .ref v0), (1, .int v1), (2, .int v2), (3, .int s0)]) d_Model_frameCame_56 rfl ?_
  refine ob_iload d_Model_frameCame_57 rfl ?_
  refine ob_push d_Model_frameCame_58 ?_
  refine ob_iand d_Model_frameCame_61 ?_
  refine ob_if_eq d_Model_frameCame_62 (fun hc => ?_) (fun hc => ?_)
  · replace h := ob_ift hc h
    refine ob_push d_Model_frameCame_69 ?_
    refine ob_sub (lo2 := [(0, .ref v0), (2, .int v2), (3, .int s0)]) [0, 2, 3] rfl ?_
    exact v_Model_frameCame_L70 v0 v2 s0 (0 : Int32) D hp_v0 h
  · replace h := ob_iff hc h
    refine ob_push d_Model_frameCame_65 ?_
    refine ob_goto d_Model_frameCame_66 ?_
    refine ob_sub (lo2 := [(0, .ref v0), (2, .int v2), (3, .int s0)]) [0, 2, 3] rfl ?_
    exact v_Model_frameCame_L70 v0 v2 s0 (1 : Int32) D hp_v0 h
def f_Model_frameCame (S : ob_S) (v0 : Nat) (D : ob_D) : Option (ob_D) :=
  ob_bd (f_Model_valid S v0 D) fun x3 D1 => (if x3 = 0 then ob_lt (ob_pI D1 v0 16 ((D1.1 v0 16) + (1 : Int32))) fun D25 => some D25 else if D1.2.1 v0 13 ≠ 0 then ob_bd (f_Model_two S (D1.2.1 v0 13) (0 : Int32) D1) fun x8 D6 => if D6.2.1 v0 13 ≠ 0 then ob_bd (f_Model_two S (D6.2.1 v0 13) (2 : Int32) D6) fun x13 D11 => (if (x8 &&& (8192 : Int32)) = 0 then f_Model_frameCame_L56 S v0 x8 ((x13 &&& (1023 : Int32)) - (6 : Int32)) (0 : Int32) D11 else f_Model_frameCame_L56 S v0 x8 ((x13 &&& (1023 : Int32)) - (6 : Int32)) (1 : Int32) D11) else none else none)
theorem c_Model_frameCame {l : Launch} {E : ob_E} {S : ob_S} {D : ob_D} {v0 : Nat} {D' : ob_D} (hp_v0 : S.1 v0 = 13) (h : f_Model_frameCame S v0 D = some D') : ob_M l E k_Model_frameCame [.ref v0] S D none S D' := by
  refine ob_ofV (lo := [(0, .ref v0)]) (by decide) rfl (Nat.le_of_ble_eq_true rfl) rfl (Nat.le_refl _) (Nat.le_refl _) ?_
  rw [f_Model_frameCame] at h
  refine ob_aload d_Model_frameCame_0 rfl ?_
  obtain ⟨x3, D1, h2, h⟩ := ob_bd_e h
  refine ob_callVi (As := []) (rest := []) d_Model_frameCame_1 c_Model_frameCame_218 hp_v0 rfl rfl (Nat.le_of_ble_eq_true rfl) (c_Model_valid hp_v0 h2) ⟨Nat.le_refl _, Nat.le_refl _⟩ ⟨Nat.le_refl _, Nat.le_refl _⟩ ?_
  refine ob_if_ne d_Model_frameCame_4 (fun hc => ?_) (fun hc => ?_)
  · replace h := ob_iff hc h
    refine ob_aload d_Model_frameCame_18 rfl ?_
    obtain ⟨hg5, h⟩ := ob_gd h
    refine ob_getR d_Model_frameCame_19 F_12_13 l_Model_17 hp_v0 hg5 (fun hk4 => ?_)
    refine ob_push d_Model_frameCame_22 ?_
    obtain ⟨x8, D6, h7, h⟩ := ob_bd_e h
    refine ob_callSi (As := [.ref (D1.2.1 v0 13), .int (0 : Int32)]) (rest := []) d_Model_frameCame_23 c_Model_frameCame_180 rfl rfl (Nat.le_of_ble_eq_true rfl) (c_Model_two hk4 h7) ⟨Nat.le_refl _, Nat.le_refl _⟩ ⟨Nat.le_refl _, Nat.le_refl _⟩ ?_
    refine ob_istore (lo2 := [(0, .ref v0), (1, .int x8)]) d_Model_frameCame_26 rfl ?_
    refine ob_aload d_Model_frameCame_27 rfl ?_
    obtain ⟨hg10, h⟩ := ob_gd h
    refine ob_getR d_Model_frameCame_28 F_12_13 l_Model_17 hp_v0 hg10 (fun hk9 => ?_)
    refine ob_push d_Model_frameCame_31 ?_
    obtain ⟨x13, D11, h12, h⟩ := ob_bd_e h
    refine ob_callSi (As := [.ref (D6.2.1 v0 13), .int (2 : Int32)]) (rest := []) d_Model_frameCame_32 c_Model_frameCame_180 rfl rfl (Nat.le_of_ble_eq_true rfl) (c_Model_two hk9 h12) ⟨Nat.le_refl _, Nat.le_refl _⟩ ⟨Nat.le_refl _, Nat.le_refl _⟩ ?_
    refine ob_push d_Model_frameCame_35 ?_
    refine ob_iand d_Model_frameCame_38 ?_
    refine ob_push d_Model_frameCame_39 ?_
    refine ob_isub d_Model_frameCame_41 ?_
    refine ob_istore (lo2 := [(0, .ref v0), (1, .int x8), (2, .int ((x13 &&& (1023 : Int32)) - (6 : Int32)))]) d_Model_frameCame_42 rfl ?_
    refine ob_iload d_Model_frameCame_43 rfl ?_
    refine ob_push d_Model_frameCame_44 ?_
    refine ob_iand d_Model_frameCame_47 ?_
    refine ob_if_eq d_Model_frameCame_48 (fun hc => ?_) (fun hc => ?_)
    · replace h := ob_ift hc h
      refine ob_push d_Model_frameCame_55 ?_
      exact v_Model_frameCame_L56 v0 x8 ((x13 &&& (1023 : Int32)) - (6 : Int32)) (0 : Int32) D11 hp_v0 h
    · replace h := ob_iff hc h
      refine ob_push d_Model_frameCame_51 ?_
      refine ob_goto d_Model_frameCame_52 ?_
      exact v_Model_frameCame_L56 v0 x8 ((x13 &&& (1023 : Int32)) - (6 : Int32)) (1 : Int32) D11 hp_v0 h
  · replace h := ob_ift hc h
    refine ob_aload d_Model_frameCame_7 rfl ?_
    refine ob_dup d_Model_frameCame_8 rfl ?_
    refine ob_getI d_Model_frameCame_9 F_12_16 l_Model_222 hp_v0 ?_
    refine ob_push d_Model_frameCame_12 ?_
    refine ob_iadd d_Model_frameCame_13 ?_
    replace h := ob_lt_e h
    refine ob_putI d_Model_frameCame_14 F_12_16 l_Model_222 hp_v0 ?_
    exact ob_ve h (ob_vret d_Model_frameCame_17 rfl)
-- OrbitBoxModel.blockCame()V
theorem d_Model_blockCame_0 : ob_dk k_Model_blockCame 0 2 (56 : Int32) (.bipush 56) 2 := ⟨by decide +kernel, rfl, show (Int8.ofInt 56).toInt32 = (56 : Int32) by decide +kernel⟩
theorem d_Model_blockCame_4 : ob_dk k_Model_blockCame 4 6 (63 : Int32) (.bipush 63) 2 := ⟨by decide +kernel, rfl, show (Int8.ofInt 63).toInt32 = (63 : Int32) by decide +kernel⟩
theorem d_Model_blockCame_36 : ob_dk k_Model_blockCame 36 37 (-1 : Int32) (.iconst (-1)) 1 := ⟨by decide +kernel, rfl, show Int32.ofInt (-1) = (-1 : Int32) by decide +kernel⟩
theorem d_Model_blockCame_41 : ob_dk k_Model_blockCame 41 42 (0 : Int32) (.iconst 0) 1 := ⟨by decide +kernel, rfl, show Int32.ofInt 0 = (0 : Int32) by decide +kernel⟩
theorem d_Model_blockCame_44 : ob_dk k_Model_blockCame 44 46 (63 : Int32) (.bipush 63) 2 := ⟨by decide +kernel, rfl, show (Int8.ofInt 63).toInt32 = (63 : Int32) by decide +kernel⟩
theorem d_Model_blockCame_193 : ob_dk k_Model_blockCame 193 194 (0 : Int32) (.iconst 0) 1 := ⟨by decide +kernel, rfl, show Int32.ofInt 0 = (0 : Int32) by decide +kernel⟩
theorem d_Model_blockCame_198 : ob_dk k_Model_blockCame 198 199 (0 : Int32) (.iconst 0) 1 := ⟨by decide +kernel, rfl, show Int32.ofInt 0 = (0 : Int32) by decide +kernel⟩
theorem d_Model_blockCame_203 : ob_dk k_Model_blockCame 203 204 (0 : Int32) (.iconst 0) 1 := ⟨by decide +kernel, rfl, show Int32.ofInt 0 = (0 : Int32) by decide +kernel⟩
theorem d_Model_blockCame_218 : ob_dc k_Model_blockCame 218 (.return_) 1 219 := ⟨by decide +kernel, rfl⟩
theorem d_Model_blockCame_215 : ob_dc k_Model_blockCame 215 (.invokevirtual 211) 3 218 := ⟨by decide +kernel, rfl⟩
theorem d_Model_blockCame_214 : ob_dv ob_ac k_Model_blockCame 214 215 0 (.aload_n 0) 1 := ⟨by decide +kernel, rfl, rfl⟩
theorem d_Model_blockCame_211 : ob_db k_Model_blockCame 211 (.ifCond .le 7) 7 214 218 := ⟨by decide +kernel, rfl, by decide⟩
theorem d_Model_blockCame_208 : ob_dc k_Model_blockCame 208 (.getfield 201) 3 211 := ⟨by decide +kernel, rfl⟩
theorem d_Model_blockCame_207 : ob_dv ob_ac k_Model_blockCame 207 208 0 (.aload_n 0) 1 := ⟨by decide +kernel, rfl, rfl⟩
theorem d_Model_blockCame_204 : ob_dc k_Model_blockCame 204 (.putfield 194) 3 207 := ⟨by decide +kernel, rfl⟩
theorem d_Model_blockCame_202 : ob_dv ob_ac k_Model_blockCame 202 203 0 (.aload_n 0) 1 := ⟨by decide +kernel, rfl, rfl⟩
theorem d_Model_blockCame_199 : ob_dc k_Model_blockCame 199 (.putfield 197) 3 202 := ⟨by decide +kernel, rfl⟩
theorem d_Model_blockCame_197 : ob_dv ob_ac k_Model_blockCame 197 198 0 (.aload_n 0) 1 := ⟨by decide +kernel, rfl, rfl⟩
theorem d_Model_blockCame_194 : ob_dc k_Model_blockCame 194 (.putfield 184) 3 197 := ⟨by decide +kernel, rfl⟩
theorem d_Model_blockCame_192 : ob_dv ob_ac k_Model_blockCame 192 193 0 (.aload_n 0) 1 := ⟨by decide +kernel, rfl, rfl⟩
theorem d_Model_blockCame_186 : ob_dk k_Model_blockCame 186 189 (259 : Int32) (.sipush 259) 3 := ⟨by decide +kernel, rfl, show (Int16.ofInt 259).toInt32 = (259 : Int32) by decide +kernel⟩
theorem d_Model_blockCame_189 : ob_db k_Model_blockCame 189 (.if_icmp .ne 29) 29 192 218 := ⟨by decide +kernel, rfl, by decide⟩
theorem d_Model_blockCame_183 : ob_dc k_Model_blockCame 183 (.getfield 201) 3 186 := ⟨by decide +kernel, rfl⟩
theorem d_Model_blockCame_182 : ob_dv ob_ac k_Model_blockCame 182 183 0 (.aload_n 0) 1 := ⟨by decide +kernel, rfl, rfl⟩
theorem d_Model_blockCame_179 : ob_db k_Model_blockCame 179 (.ifCond .eq 13) 13 182 192 := ⟨by decide +kernel, rfl, by decide⟩
theorem d_Model_blockCame_178 : ob_dv ob_lc k_Model_blockCame 178 179 1 (.iload_n 1) 1 := ⟨by decide +kernel, rfl, rfl⟩
theorem d_Model_blockCame_103 : ob_dk k_Model_blockCame 103 104 (0 : Int32) (.iconst 0) 1 := ⟨by decide +kernel, rfl, show Int32.ofInt 0 = (0 : Int32) by decide +kernel⟩
theorem d_Model_blockCame_106 : ob_dk k_Model_blockCame 106 108 (7 : Int32) (.bipush 7) 2 := ⟨by decide +kernel, rfl, show (Int8.ofInt 7).toInt32 = (7 : Int32) by decide +kernel⟩
theorem d_Model_blockCame_111 : ob_dk k_Model_blockCame 111 112 (0 : Int32) (.iconst 0) 1 := ⟨by decide +kernel, rfl, show Int32.ofInt 0 = (0 : Int32) by decide +kernel⟩
theorem d_Model_blockCame_113 : ob_dk k_Model_blockCame 113 114 (0 : Int32) (.iconst 0) 1 := ⟨by decide +kernel, rfl, show Int32.ofInt 0 = (0 : Int32) by decide +kernel⟩
theorem d_Model_blockCame_118 : ob_dk k_Model_blockCame 118 120 (8 : Int32) (.bipush 8) 2 := ⟨by decide +kernel, rfl, show (Int8.ofInt 8).toInt32 = (8 : Int32) by decide +kernel⟩
theorem d_Model_blockCame_164 : ob_dk k_Model_blockCame 164 165 (1 : Int32) (.iconst 1) 1 := ⟨by decide +kernel, rfl, show Int32.ofInt 1 = (1 : Int32) by decide +kernel⟩
theorem d_Model_blockCame_172 : ob_di k_Model_blockCame 172 175 2 1 (1 : Int32) := ⟨by decide +kernel, rfl, by decide +kernel, by decide +kernel⟩
theorem d_Model_blockCame_175 : ob_db k_Model_blockCame 175 (.goto (-70)) (-70) 178 105 := ⟨by decide +kernel, rfl, by decide⟩
theorem d_Model_blockCame_171 : ob_dc k_Model_blockCame 171 (.bastore) 1 172 := ⟨by decide +kernel, rfl⟩
theorem d_Model_blockCame_170 : ob_dc k_Model_blockCame 170 (.i2b) 1 171 := ⟨by decide +kernel, rfl⟩
theorem d_Model_blockCame_169 : ob_dv ob_lc k_Model_blockCame 169 170 3 (.iload_n 3) 1 := ⟨by decide +kernel, rfl, rfl⟩
theorem d_Model_blockCame_166 : ob_dc k_Model_blockCame 166 (.putfield 201) 3 169 := ⟨by decide +kernel, rfl⟩
theorem d_Model_blockCame_165 : ob_dc k_Model_blockCame 165 (.iadd) 1 166 := ⟨by decide +kernel, rfl⟩
theorem d_Model_blockCame_163 : ob_dc k_Model_blockCame 163 (.dup_x1) 1 164 := ⟨by decide +kernel, rfl⟩
theorem d_Model_blockCame_160 : ob_dc k_Model_blockCame 160 (.getfield 201) 3 163 := ⟨by decide +kernel, rfl⟩
theorem d_Model_blockCame_159 : ob_dc k_Model_blockCame 159 (.dup) 1 160 := ⟨by decide +kernel, rfl⟩
theorem d_Model_blockCame_158 : ob_dv ob_ac k_Model_blockCame 158 159 0 (.aload_n 0) 1 := ⟨by decide +kernel, rfl, rfl⟩
theorem d_Model_blockCame_155 : ob_dc k_Model_blockCame 155 (.getfield 17) 3 158 := ⟨by decide +kernel, rfl⟩
theorem d_Model_blockCame_154 : ob_dv ob_ac k_Model_blockCame 154 155 0 (.aload_n 0) 1 := ⟨by decide +kernel, rfl, rfl⟩
theorem d_Model_blockCame_124 : ob_dk k_Model_blockCame 124 125 (2 : Int32) (.iconst 2) 1 := ⟨by decide +kernel, rfl, show Int32.ofInt 2 = (2 : Int32) by decide +kernel⟩
theorem d_Model_blockCame_130 : ob_dk k_Model_blockCame 130 132 (8 : Int32) (.bipush 8) 2 := ⟨by decide +kernel, rfl, show (Int8.ofInt 8).toInt32 = (8 : Int32) by decide +kernel⟩
theorem d_Model_blockCame_145 : ob_dk k_Model_blockCame 145 146 (0 : Int32) (.iconst 0) 1 := ⟨by decide +kernel, rfl, show Int32.ofInt 0 = (0 : Int32) by decide +kernel⟩
theorem d_Model_blockCame_148 : ob_di k_Model_blockCame 148 151 4 1 (1 : Int32) := ⟨by decide +kernel, rfl, by decide +kernel, by decide +kernel⟩
theorem d_Model_blockCame_151 : ob_db k_Model_blockCame 151 (.goto (-35)) (-35) 154 116 := ⟨by decide +kernel, rfl, by decide⟩
theorem d_Model_blockCame_147 : ob_dv (ob_sc k_Model_blockCame.2.2.2.1) k_Model_blockCame 147 148 3 (.istore_n 3) 1 := ⟨by decide +kernel, rfl, ⟨rfl, by decide +kernel⟩⟩
theorem d_Model_blockCame_146 : ob_dc k_Model_blockCame 146 (.iadd) 1 147 := ⟨by decide +kernel, rfl⟩
theorem d_Model_blockCame_141 : ob_dk k_Model_blockCame 141 142 (1 : Int32) (.iconst 1) 1 := ⟨by decide +kernel, rfl, show Int32.ofInt 1 = (1 : Int32) by decide +kernel⟩
theorem d_Model_blockCame_142 : ob_db k_Model_blockCame 142 (.goto 4) 4 145 146 := ⟨by decide +kernel, rfl, by decide⟩
theorem d_Model_blockCame_138 : ob_db k_Model_blockCame 138 (.ifCond .eq 7) 7 141 145 := ⟨by decide +kernel, rfl, by decide⟩
theorem d_Model_blockCame_137 : ob_dc k_Model_blockCame 137 (.baload) 1 138 := ⟨by decide +kernel, rfl⟩
theorem d_Model_blockCame_136 : ob_dc k_Model_blockCame 136 (.iadd) 1 137 := ⟨by decide +kernel, rfl⟩
theorem d_Model_blockCame_134 : ob_dv ob_lc k_Model_blockCame 134 136 4 (.iload 4) 2 := ⟨by decide +kernel, rfl, rfl⟩
theorem d_Model_blockCame_133 : ob_dc k_Model_blockCame 133 (.imul) 1 134 := ⟨by decide +kernel, rfl⟩
theorem d_Model_blockCame_132 : ob_dv ob_lc k_Model_blockCame 132 133 2 (.iload_n 2) 1 := ⟨by decide +kernel, rfl, rfl⟩
theorem d_Model_blockCame_127 : ob_dc k_Model_blockCame 127 (.getfield 13) 3 130 := ⟨by decide +kernel, rfl⟩
theorem d_Model_blockCame_126 : ob_dv ob_ac k_Model_blockCame 126 127 0 (.aload_n 0) 1 := ⟨by decide +kernel, rfl, rfl⟩
theorem d_Model_blockCame_125 : ob_dc k_Model_blockCame 125 (.imul) 1 126 := ⟨by decide +kernel, rfl⟩
theorem d_Model_blockCame_123 : ob_dv ob_lc k_Model_blockCame 123 124 3 (.iload_n 3) 1 := ⟨by decide +kernel, rfl, rfl⟩
theorem d_Model_blockCame_120 : ob_db k_Model_blockCame 120 (.if_icmp .ge 34) 34 123 154 := ⟨by decide +kernel, rfl, by decide⟩
theorem d_Model_blockCame_116 : ob_dv ob_lc k_Model_blockCame 116 118 4 (.iload 4) 2 := ⟨by decide +kernel, rfl, rfl⟩
theorem d_Model_blockCame_114 : ob_dv (ob_sc k_Model_blockCame.2.2.2.1) k_Model_blockCame 114 116 4 (.istore 4) 2 := ⟨by decide +kernel, rfl, ⟨rfl, by decide +kernel⟩⟩
theorem d_Model_blockCame_112 : ob_dv (ob_sc k_Model_blockCame.2.2.2.1) k_Model_blockCame 112 113 3 (.istore_n 3) 1 := ⟨by decide +kernel, rfl, ⟨rfl, by decide +kernel⟩⟩
theorem d_Model_blockCame_108 : ob_db k_Model_blockCame 108 (.if_icmp .ge 70) 70 111 178 := ⟨by decide +kernel, rfl, by decide⟩
theorem d_Model_blockCame_105 : ob_dv ob_lc k_Model_blockCame 105 106 2 (.iload_n 2) 1 := ⟨by decide +kernel, rfl, rfl⟩
theorem d_Model_blockCame_104 : ob_dv (ob_sc k_Model_blockCame.2.2.2.1) k_Model_blockCame 104 105 2 (.istore_n 2) 1 := ⟨by decide +kernel, rfl, ⟨rfl, by decide +kernel⟩⟩
theorem d_Model_blockCame_100 : ob_db k_Model_blockCame 100 (.ifCond .eq 78) 78 103 178 := ⟨by decide +kernel, rfl, by decide⟩
theorem d_Model_blockCame_99 : ob_dv ob_lc k_Model_blockCame 99 100 1 (.iload_n 1) 1 := ⟨by decide +kernel, rfl, rfl⟩
theorem d_Model_blockCame_93 : ob_di k_Model_blockCame 93 96 2 1 (1 : Int32) := ⟨by decide +kernel, rfl, by decide +kernel, by decide +kernel⟩
theorem d_Model_blockCame_96 : ob_db k_Model_blockCame 96 (.goto (-53)) (-53) 99 43 := ⟨by decide +kernel, rfl, by decide⟩
theorem d_Model_blockCame_61 : ob_dk k_Model_blockCame 61 62 (1 : Int32) (.iconst 1) 1 := ⟨by decide +kernel, rfl, show Int32.ofInt 1 = (1 : Int32) by decide +kernel⟩
theorem d_Model_blockCame_81 : ob_dk k_Model_blockCame 81 82 (0 : Int32) (.iconst 0) 1 := ⟨by decide +kernel, rfl, show Int32.ofInt 0 = (0 : Int32) by decide +kernel⟩
theorem d_Model_blockCame_88 : ob_dk k_Model_blockCame 88 89 (1 : Int32) (.iconst 1) 1 := ⟨by decide +kernel, rfl, show Int32.ofInt 1 = (1 : Int32) by decide +kernel⟩
theorem d_Model_blockCame_90 : ob_dc k_Model_blockCame 90 (.putfield 208) 3 93 := ⟨by decide +kernel, rfl⟩
theorem d_Model_blockCame_89 : ob_dc k_Model_blockCame 89 (.iadd) 1 90 := ⟨by decide +kernel, rfl⟩
theorem d_Model_blockCame_85 : ob_dc k_Model_blockCame 85 (.getfield 208) 3 88 := ⟨by decide +kernel, rfl⟩
theorem d_Model_blockCame_84 : ob_dc k_Model_blockCame 84 (.dup) 1 85 := ⟨by decide +kernel, rfl⟩
theorem d_Model_blockCame_83 : ob_dv ob_ac k_Model_blockCame 83 84 0 (.aload_n 0) 1 := ⟨by decide +kernel, rfl, rfl⟩
theorem d_Model_blockCame_82 : ob_dc k_Model_blockCame 82 (.bastore) 1 83 := ⟨by decide +kernel, rfl⟩
theorem d_Model_blockCame_77 : ob_dk k_Model_blockCame 77 78 (1 : Int32) (.iconst 1) 1 := ⟨by decide +kernel, rfl, show Int32.ofInt 1 = (1 : Int32) by decide +kernel⟩
theorem d_Model_blockCame_78 : ob_db k_Model_blockCame 78 (.goto 4) 4 81 82 := ⟨by decide +kernel, rfl, by decide⟩
theorem d_Model_blockCame_74 : ob_db k_Model_blockCame 74 (.ifCond .ne 7) 7 77 81 := ⟨by decide +kernel, rfl, by decide⟩
theorem d_Model_blockCame_73 : ob_dc k_Model_blockCame 73 (.baload) 1 74 := ⟨by decide +kernel, rfl⟩
theorem d_Model_blockCame_72 : ob_dv ob_lc k_Model_blockCame 72 73 2 (.iload_n 2) 1 := ⟨by decide +kernel, rfl, rfl⟩
theorem d_Model_blockCame_69 : ob_dc k_Model_blockCame 69 (.getfield 13) 3 72 := ⟨by decide +kernel, rfl⟩
theorem d_Model_blockCame_68 : ob_dv ob_ac k_Model_blockCame 68 69 0 (.aload_n 0) 1 := ⟨by decide +kernel, rfl, rfl⟩
theorem d_Model_blockCame_67 : ob_dv ob_lc k_Model_blockCame 67 68 2 (.iload_n 2) 1 := ⟨by decide +kernel, rfl, rfl⟩
theorem d_Model_blockCame_64 : ob_dc k_Model_blockCame 64 (.getfield 13) 3 67 := ⟨by decide +kernel, rfl⟩
theorem d_Model_blockCame_63 : ob_dv ob_ac k_Model_blockCame 63 64 0 (.aload_n 0) 1 := ⟨by decide +kernel, rfl, rfl⟩
theorem d_Model_blockCame_62 : ob_dv (ob_sc k_Model_blockCame.2.2.2.1) k_Model_blockCame 62 63 1 (.istore_n 1) 1 := ⟨by decide +kernel, rfl, ⟨rfl, by decide +kernel⟩⟩
theorem d_Model_blockCame_58 : ob_db k_Model_blockCame 58 (.ifCond .eq 35) 35 61 93 := ⟨by decide +kernel, rfl, by decide⟩
theorem d_Model_blockCame_55 : ob_dc k_Model_blockCame 55 (.invokevirtual 204) 3 58 := ⟨by decide +kernel, rfl⟩
theorem d_Model_blockCame_54 : ob_dv ob_lc k_Model_blockCame 54 55 2 (.iload_n 2) 1 := ⟨by decide +kernel, rfl, rfl⟩
theorem d_Model_blockCame_53 : ob_dv ob_ac k_Model_blockCame 53 54 0 (.aload_n 0) 1 := ⟨by decide +kernel, rfl, rfl⟩
theorem d_Model_blockCame_50 : ob_db k_Model_blockCame 50 (.ifCond .ne 49) 49 53 99 := ⟨by decide +kernel, rfl, by decide⟩
theorem d_Model_blockCame_49 : ob_dv ob_lc k_Model_blockCame 49 50 1 (.iload_n 1) 1 := ⟨by decide +kernel, rfl, rfl⟩
theorem d_Model_blockCame_46 : ob_db k_Model_blockCame 46 (.if_icmp .ge 53) 53 49 99 := ⟨by decide +kernel, rfl, by decide⟩
theorem d_Model_blockCame_43 : ob_dv ob_lc k_Model_blockCame 43 44 2 (.iload_n 2) 1 := ⟨by decide +kernel, rfl, rfl⟩
theorem d_Model_blockCame_42 : ob_dv (ob_sc k_Model_blockCame.2.2.2.1) k_Model_blockCame 42 43 2 (.istore_n 2) 1 := ⟨by decide +kernel, rfl, ⟨rfl, by decide +kernel⟩⟩
theorem d_Model_blockCame_40 : ob_dv (ob_sc k_Model_blockCame.2.2.2.1) k_Model_blockCame 40 41 1 (.istore_n 1) 1 := ⟨by decide +kernel, rfl, ⟨rfl, by decide +kernel⟩⟩
theorem d_Model_blockCame_37 : ob_dc k_Model_blockCame 37 (.invokevirtual 204) 3 40 := ⟨by decide +kernel, rfl⟩
theorem d_Model_blockCame_35 : ob_dv ob_ac k_Model_blockCame 35 36 0 (.aload_n 0) 1 := ⟨by decide +kernel, rfl, rfl⟩
theorem d_Model_blockCame_27 : ob_dk k_Model_blockCame 27 28 (0 : Int32) (.iconst 0) 1 := ⟨by decide +kernel, rfl, show Int32.ofInt 0 = (0 : Int32) by decide +kernel⟩
theorem d_Model_blockCame_29 : ob_di k_Model_blockCame 29 32 1 1 (1 : Int32) := ⟨by decide +kernel, rfl, by decide +kernel, by decide +kernel⟩
theorem d_Model_blockCame_32 : ob_db k_Model_blockCame 32 (.goto (-29)) (-29) 35 3 := ⟨by decide +kernel, rfl, by decide⟩
theorem d_Model_blockCame_28 : ob_dc k_Model_blockCame 28 (.bastore) 1 29 := ⟨by decide +kernel, rfl⟩
theorem d_Model_blockCame_23 : ob_dk k_Model_blockCame 23 24 (1 : Int32) (.iconst 1) 1 := ⟨by decide +kernel, rfl, show Int32.ofInt 1 = (1 : Int32) by decide +kernel⟩
theorem d_Model_blockCame_24 : ob_db k_Model_blockCame 24 (.goto 4) 4 27 28 := ⟨by decide +kernel, rfl, by decide⟩
theorem d_Model_blockCame_20 : ob_db k_Model_blockCame 20 (.ifCond .ne 7) 7 23 27 := ⟨by decide +kernel, rfl, by decide⟩
theorem d_Model_blockCame_19 : ob_dc k_Model_blockCame 19 (.baload) 1 20 := ⟨by decide +kernel, rfl⟩
theorem d_Model_blockCame_18 : ob_dv ob_lc k_Model_blockCame 18 19 1 (.iload_n 1) 1 := ⟨by decide +kernel, rfl, rfl⟩
theorem d_Model_blockCame_15 : ob_dc k_Model_blockCame 15 (.getfield 13) 3 18 := ⟨by decide +kernel, rfl⟩
theorem d_Model_blockCame_14 : ob_dv ob_ac k_Model_blockCame 14 15 0 (.aload_n 0) 1 := ⟨by decide +kernel, rfl, rfl⟩
theorem d_Model_blockCame_13 : ob_dv ob_lc k_Model_blockCame 13 14 1 (.iload_n 1) 1 := ⟨by decide +kernel, rfl, rfl⟩
theorem d_Model_blockCame_10 : ob_dc k_Model_blockCame 10 (.getfield 13) 3 13 := ⟨by decide +kernel, rfl⟩
theorem d_Model_blockCame_9 : ob_dv ob_ac k_Model_blockCame 9 10 0 (.aload_n 0) 1 := ⟨by decide +kernel, rfl, rfl⟩
theorem d_Model_blockCame_6 : ob_db k_Model_blockCame 6 (.if_icmp .ge 29) 29 9 35 := ⟨by decide +kernel, rfl, by decide⟩
theorem d_Model_blockCame_3 : ob_dv ob_lc k_Model_blockCame 3 4 1 (.iload_n 1) 1 := ⟨by decide +kernel, rfl, rfl⟩
theorem d_Model_blockCame_2 : ob_dv (ob_sc k_Model_blockCame.2.2.2.1) k_Model_blockCame 2 3 1 (.istore_n 1) 1 := ⟨by decide +kernel, rfl, ⟨rfl, by decide +kernel⟩⟩
theorem c_Model_blockCame_211 : ob_vd k_Model_blockCame k_Model_frameCame 211 0 12 := ⟨cw_Model_frameCame, yd_Model_frameCame, w_1392, w_1394, wp_51, w_14, ⟨_, _, rfl⟩, by decide, by decide⟩
theorem c_Model_blockCame_204 : ob_vd k_Model_blockCame k_Model_divides 204 1 12 := ⟨cw_Model_divides, yd_Model_divides, w_1388, w_1390, wp_50, w_14, ⟨_, _, rfl⟩, by decide, by decide⟩
def f_Model_blockCame_L192 (S : ob_S) (v0 : Nat) (D : ob_D) : Option (ob_D) :=
  ob_lt (ob_pI D v0 8 (0 : Int32)) fun D4 => ob_lt (ob_pI D4 v0 9 (0 : Int32)) fun D5 => ob_lt (ob_pI D5 v0 10 (0 : Int32)) fun D6 => (if (D6.1 v0 14) ≤ 0 then some D6 else ob_bv (f_Model_frameCame S v0 D6) fun D7 => some D7)
theorem v_Model_blockCame_L192 {l : Launch} {E : ob_E} {S : ob_S} {D' : ob_D} : ∀ (v0 : Nat) (D : ob_D), S.1 v0 = 13 → f_Model_blockCame_L192 S v0 D = some D' → ob_V l E k_Model_blockCame 192 [(0, .ref v0)] [] S D none S D' := by
  intro v0 D hp_v0 h
  rw [f_Model_blockCame_L192] at h
  refine ob_aload d_Model_blockCame_192 rfl ?_
  refine ob_push d_Model_blockCame_193 ?_
  replace h := ob_lt_e h
  refine ob_putZ d_Model_blockCame_194 F_12_8 l_Model_184 hp_v0 (Or.inl rfl) ?_
  refine ob_aload d_Model_blockCame_197 rfl ?_
  refine ob_push d_Model_blockCame_198 ?_
  replace h := ob_lt_e h
  refine ob_putI d_Model_blockCame_199 F_12_9 l_Model_197 hp_v0 ?_
  refine ob_aload d_Model_blockCame_202 rfl ?_
  refine ob_push d_Model_blockCame_203 ?_
  replace h := ob_lt_e h
  refine ob_putI d_Model_blockCame_204 F_12_10 l_Model_194 hp_v0 ?_
  refine ob_aload d_Model_blockCame_207 rfl ?_
  refine ob_getI d_Model_blockCame_208 F_12_14 l_Model_201 hp_v0 ?_
  refine ob_if_le d_Model_blockCame_211 (fun hc => ?_) (fun hc => ?_)
  · replace h := ob_ift hc h
    exact ob_ve h (ob_vret d_Model_blockCame_218 rfl)
  · replace h := ob_iff hc h
    refine ob_aload d_Model_blockCame_214 rfl ?_
    obtain ⟨D7, h8, h⟩ := ob_bv_e h
    refine ob_callVv (As := []) (rest := []) d_Model_blockCame_215 c_Model_blockCame_211 hp_v0 rfl rfl (Nat.le_of_ble_eq_true rfl) (c_Model_frameCame hp_v0 h8) ⟨Nat.le_refl _, Nat.le_refl _⟩ ⟨Nat.le_refl _, Nat.le_refl _⟩ ?_
    exact ob_ve h (ob_vret d_Model_blockCame_218 rfl)
def f_Model_blockCame_L116 (S : ob_S) (k105 : Nat → Int32 → Int32 → ob_D → Option (ob_D)) : Nat → Nat → Int32 → Int32 → Int32 → Int32 → ob_D → Option (ob_D)
  | 0, _, _, _, _, _, _ => none
  | n + 1, v0, v1, v2, v3, v4, D => (if (8 : Int32) ≤ v4 then if D.2.1 v0 13 ≠ 0 then ob_lt (ob_pI D v0 14 ((D.1 v0 14) + (1 : Int32))) fun D11 => if ob_in (D.1 v0 14) (S.2.1 (D.2.1 v0 13)) then ob_lt (ob_pI D11 (D.2.1 v0 13) (D.1 v0 14).toNatClampNeg ((v3.toInt8.toInt32).toInt8.toInt32)) fun D13 => k105 v0 v1 (v2 + (1 : Int32)) D13 else none else none else if D.2.1 v0 11 ≠ 0 then if ob_in (((8 : Int32) * v2) + v4) (S.2.1 (D.2.1 v0 11)) then (if (D.1 (D.2.1 v0 11) (((8 : Int32) * v2) + v4).toNatClampNeg) = 0 then f_Model_blockCame_L116 S k105 n v0 v1 v2 ((v3 * (2 : Int32)) + (0 : Int32)) (v4 + (1 : Int32)) D else f_Model_blockCame_L116 S k105 n v0 v1 v2 ((v3 * (2 : Int32)) + (1 : Int32)) (v4 + (1 : Int32)) D) else none else none)
theorem v_Model_blockCame_L116 {l : Launch} {E : ob_E} {S : ob_S} {D' : ob_D} {k105 : Nat → Int32 → Int32 → ob_D → Option (ob_D)} (hk105 : ∀ (v0 : Nat) (v1 : Int32) (v2 : Int32) (D : ob_D), S.1 v0 = 13 → k105 v0 v1 v2 D = some D' → ob_V l E k_Model_blockCame 105 [(0, .ref v0), (1, .int v1), (2, .int v2)] [] S D none S D') : ∀ (n : Nat), ∀ (v0 : Nat) (v1 : Int32) (v2 : Int32) (v3 : Int32) (v4 : Int32) (D : ob_D), S.1 v0 = 13 → f_Model_blockCame_L116 S k105 n v0 v1 v2 v3 v4 D = some D' → ob_V l E k_Model_blockCame 116 [(0, .ref v0), (1, .int v1), (2, .int v2), (3, .int v3), (4, .int v4)] [] S D none S D' := by
  intro n
  induction n with
  | zero =>
    intro v0 v1 v2 v3 v4 D hp_v0 h
    have h : none = some D' := h
    cases h
  | succ n ih =>
    intro v0 v1 v2 v3 v4 D hp_v0 h
    rw [f_Model_blockCame_L116] at h
    refine ob_iload d_Model_blockCame_116 rfl ?_
    refine ob_push d_Model_blockCame_118 ?_
    refine ob_icmp_ge d_Model_blockCame_120 (fun hc => ?_) (fun hc => ?_)
    · replace h := ob_ift hc h
      refine ob_aload d_Model_blockCame_154 rfl ?_
      obtain ⟨hg10, h⟩ := ob_gd h
      refine ob_getR d_Model_blockCame_155 F_12_13 l_Model_17 hp_v0 hg10 (fun hk9 => ?_)
      refine ob_aload d_Model_blockCame_158 rfl ?_
      refine ob_dup d_Model_blockCame_159 rfl ?_
      refine ob_getI d_Model_blockCame_160 F_12_14 l_Model_201 hp_v0 ?_
      refine ob_dup_x1 d_Model_blockCame_163 rfl rfl ?_
      refine ob_push d_Model_blockCame_164 ?_
      refine ob_iadd d_Model_blockCame_165 ?_
      replace h := ob_lt_e h
      refine ob_putI d_Model_blockCame_166 F_12_14 l_Model_201 hp_v0 ?_
      refine ob_iload d_Model_blockCame_169 rfl ?_
      refine ob_i2b d_Model_blockCame_170 ?_
      obtain ⟨hg12, h⟩ := ob_gd h
      replace h := ob_lt_e h
      refine ob_bast d_Model_blockCame_171 hk9 hg12 ?_
      refine ob_iinc (lo2 := [(0, .ref v0), (1, .int v1), (2, .int (v2 + (1 : Int32))), (3, .int v3), (4, .int v4)]) d_Model_blockCame_172 rfl rfl ?_
      refine ob_goto d_Model_blockCame_175 ?_
      refine ob_sub (lo2 := [(0, .ref v0), (1, .int v1), (2, .int (v2 + (1 : Int32)))]) [0, 1, 2] rfl ?_
      exact hk105 v0 v1 (v2 + (1 : Int32)) (ob_pI (ob_pI D v0 14 ((D.1 v0 14) + (1 : Int32))) (D.2.1 v0 13) (D.1 v0 14).toNatClampNeg ((v3.toInt8.toInt32).toInt8.toInt32)) hp_v0 h
    · replace h := ob_iff hc h
      refine ob_iload d_Model_blockCame_123 rfl ?_
      refine ob_push d_Model_blockCame_124 ?_
      refine ob_imul d_Model_blockCame_125 ?_
      refine ob_aload d_Model_blockCame_126 rfl ?_
      obtain ⟨hg15, h⟩ := ob_gd h
      refine ob_getR d_Model_blockCame_127 F_12_11 l_Model_13 hp_v0 hg15 (fun hk14 => ?_)
      refine ob_push d_Model_blockCame_130 ?_
      refine ob_iload d_Model_blockCame_132 rfl ?_
      refine ob_imul d_Model_blockCame_133 ?_
      refine ob_iload d_Model_blockCame_134 rfl ?_
      refine ob_iadd d_Model_blockCame_136 ?_
      obtain ⟨hg16, h⟩ := ob_gd h
      refine ob_zald d_Model_blockCame_137 hk14 hg16 ?_
      refine ob_if_eq d_Model_blockCame_138 (fun hc => ?_) (fun hc => ?_)
      · replace h := ob_ift hc h
        refine ob_push d_Model_blockCame_145 ?_
        refine ob_iadd d_Model_blockCame_146 ?_
        refine ob_istore (lo2 := [(0, .ref v0), (1, .int v1), (2, .int v2), (3, .int ((v3 * (2 : Int32)) + (0 : Int32))), (4, .int v4)]) d_Model_blockCame_147 rfl ?_
        refine ob_iinc (lo2 := [(0, .ref v0), (1, .int v1), (2, .int v2), (3, .int ((v3 * (2 : Int32)) + (0 : Int32))), (4, .int (v4 + (1 : Int32)))]) d_Model_blockCame_148 rfl rfl ?_
        refine ob_goto d_Model_blockCame_151 ?_
        exact ih v0 v1 v2 ((v3 * (2 : Int32)) + (0 : Int32)) (v4 + (1 : Int32)) D hp_v0 h
      · replace h := ob_iff hc h
        refine ob_push d_Model_blockCame_141 ?_
        refine ob_goto d_Model_blockCame_142 ?_
        refine ob_iadd d_Model_blockCame_146 ?_
        refine ob_istore (lo2 := [(0, .ref v0), (1, .int v1), (2, .int v2), (3, .int ((v3 * (2 : Int32)) + (1 : Int32))), (4, .int v4)]) d_Model_blockCame_147 rfl ?_
        refine ob_iinc (lo2 := [(0, .ref v0), (1, .int v1), (2, .int v2), (3, .int ((v3 * (2 : Int32)) + (1 : Int32))), (4, .int (v4 + (1 : Int32)))]) d_Model_blockCame_148 rfl rfl ?_
        refine ob_goto d_Model_blockCame_151 ?_
        exact ih v0 v1 v2 ((v3 * (2 : Int32)) + (1 : Int32)) (v4 + (1 : Int32)) D hp_v0 h
def f_Model_blockCame_L105 (S : ob_S) : Nat → Nat → Int32 → Int32 → ob_D → Option (ob_D)
  | 0, _, _, _, _ => none
  | n + 1, v0, v1, v2, D => (if (7 : Int32) ≤ v2 then (if v1 = 0 then f_Model_blockCame_L192 S v0 D else (if (D.1 v0 14) = (259 : Int32) then f_Model_blockCame_L192 S v0 D else some D)) else f_Model_blockCame_L116 S (fun a0 a1 a2 d => f_Model_blockCame_L105 S n a0 a1 a2 d) ob_FU v0 v1 v2 (0 : Int32) (0 : Int32) D)
theorem v_Model_blockCame_L105 {l : Launch} {E : ob_E} {S : ob_S} {D' : ob_D} : ∀ (n : Nat), ∀ (v0 : Nat) (v1 : Int32) (v2 : Int32) (D : ob_D), S.1 v0 = 13 → f_Model_blockCame_L105 S n v0 v1 v2 D = some D' → ob_V l E k_Model_blockCame 105 [(0, .ref v0), (1, .int v1), (2, .int v2)] [] S D none S D' := by
  intro n
  induction n with
  | zero =>
    intro v0 v1 v2 D hp_v0 h
    have h : none = some D' := h
    cases h
  | succ n ih =>
    intro v0 v1 v2 D hp_v0 h
    rw [f_Model_blockCame_L105] at h
    refine ob_iload d_Model_blockCame_105 rfl ?_
    refine ob_push d_Model_blockCame_106 ?_
    refine ob_icmp_ge d_Model_blockCame_108 (fun hc => ?_) (fun hc => ?_)
    · replace h := ob_ift hc h
      refine ob_iload d_Model_blockCame_178 rfl ?_
      refine ob_if_eq d_Model_blockCame_179 (fun hc => ?_) (fun hc => ?_)
      · replace h := ob_ift hc h
        refine ob_sub (lo2 := [(0, .ref v0)]) [0] rfl ?_
        exact v_Model_blockCame_L192 v0 D hp_v0 h
      · replace h := ob_iff hc h
        refine ob_aload d_Model_blockCame_182 rfl ?_
        refine ob_getI d_Model_blockCame_183 F_12_14 l_Model_201 hp_v0 ?_
        refine ob_push d_Model_blockCame_186 ?_
        refine ob_icmp_ne d_Model_blockCame_189 (fun hc => ?_) (fun hc => ?_)
        · replace h := ob_iff hc h
          exact ob_ve h (ob_vret d_Model_blockCame_218 rfl)
        · replace h := ob_ift hc h
          refine ob_sub (lo2 := [(0, .ref v0)]) [0] rfl ?_
          exact v_Model_blockCame_L192 v0 D hp_v0 h
    · replace h := ob_iff hc h
      refine ob_push d_Model_blockCame_111 ?_
      refine ob_istore (lo2 := [(0, .ref v0), (1, .int v1), (2, .int v2), (3, .int (0 : Int32))]) d_Model_blockCame_112 rfl ?_
      refine ob_push d_Model_blockCame_113 ?_
      refine ob_istore (lo2 := [(0, .ref v0), (1, .int v1), (2, .int v2), (3, .int (0 : Int32)), (4, .int (0 : Int32))]) d_Model_blockCame_114 rfl ?_
      exact v_Model_blockCame_L116 ih ob_FU v0 v1 v2 (0 : Int32) (0 : Int32) D hp_v0 h
def f_Model_blockCame_L99 (S : ob_S) (v0 : Nat) (v1 : Int32) (D : ob_D) : Option (ob_D) :=
  (if v1 = 0 then (if v1 = 0 then f_Model_blockCame_L192 S v0 D else (if (D.1 v0 14) = (259 : Int32) then f_Model_blockCame_L192 S v0 D else some D)) else f_Model_blockCame_L105 S ob_FU v0 v1 (0 : Int32) D)
theorem v_Model_blockCame_L99 {l : Launch} {E : ob_E} {S : ob_S} {D' : ob_D} : ∀ (v0 : Nat) (v1 : Int32) (D : ob_D), S.1 v0 = 13 → f_Model_blockCame_L99 S v0 v1 D = some D' → ob_V l E k_Model_blockCame 99 [(0, .ref v0), (1, .int v1)] [] S D none S D' := by
  intro v0 v1 D hp_v0 h
  rw [f_Model_blockCame_L99] at h
  refine ob_iload d_Model_blockCame_99 rfl ?_
  refine ob_if_eq d_Model_blockCame_100 (fun hc => ?_) (fun hc => ?_)
  · replace h := ob_ift hc h
    refine ob_iload d_Model_blockCame_178 rfl ?_
    refine ob_if_eq d_Model_blockCame_179 (fun hc => ?_) (fun hc => ?_)
    · replace h := ob_ift hc h
      refine ob_sub (lo2 := [(0, .ref v0)]) [0] rfl ?_
      exact v_Model_blockCame_L192 v0 D hp_v0 h
    · replace h := ob_iff hc h
      refine ob_aload d_Model_blockCame_182 rfl ?_
      refine ob_getI d_Model_blockCame_183 F_12_14 l_Model_201 hp_v0 ?_
      refine ob_push d_Model_blockCame_186 ?_
      refine ob_icmp_ne d_Model_blockCame_189 (fun hc => ?_) (fun hc => ?_)
      · replace h := ob_iff hc h
        exact ob_ve h (ob_vret d_Model_blockCame_218 rfl)
      · replace h := ob_ift hc h
        refine ob_sub (lo2 := [(0, .ref v0)]) [0] rfl ?_
        exact v_Model_blockCame_L192 v0 D hp_v0 h
  · replace h := ob_iff hc h
    refine ob_push d_Model_blockCame_103 ?_
    refine ob_istore (lo2 := [(0, .ref v0), (1, .int v1), (2, .int (0 : Int32))]) d_Model_blockCame_104 rfl ?_
    exact v_Model_blockCame_L105 ob_FU v0 v1 (0 : Int32) D hp_v0 h
def f_Model_blockCame_L82 (S : ob_S) (k43 : Nat → Int32 → Int32 → ob_D → Option (ob_D)) (v0 : Nat) (v1 : Int32) (v2 : Int32) (s0 : Int32) (s1 : Int32) (s2 : Nat) (D : ob_D) : Option (ob_D) :=
  if ob_in s1 (S.2.1 s2) then ob_lt (ob_pI D s2 s1.toNatClampNeg (s0 &&& 1)) fun D26 => ob_lt (ob_pI D26 v0 15 ((D26.1 v0 15) + (1 : Int32))) fun D27 => k43 v0 v1 (v2 + (1 : Int32)) D27 else none
theorem v_Model_blockCame_L82 {l : Launch} {E : ob_E} {S : ob_S} {D' : ob_D} {k43 : Nat → Int32 → Int32 → ob_D → Option (ob_D)} (hk43 : ∀ (v0 : Nat) (v1 : Int32) (v2 : Int32) (D : ob_D), S.1 v0 = 13 → k43 v0 v1 v2 D = some D' → ob_V l E k_Model_blockCame 43 [(0, .ref v0), (1, .int v1), (2, .int v2)] [] S D none S D') : ∀ (v0 : Nat) (v1 : Int32) (v2 : Int32) (s0 : Int32) (s1 : Int32) (s2 : Nat) (D : ob_D), S.1 v0 = 13 → S.1 s2 = 22 → f_Model_blockCame_L82 S k43 v0 v1 v2 s0 s1 s2 D = some D' → ob_V l E k_Model_blockCame 82 [(0, .ref v0), (1, .int v1), (2, .int v2)] [.int s0, .int s1, .ref s2] S D none S D' := by
  intro v0 v1 v2 s0 s1 s2 D hp_v0 hp_s2 h
  rw [f_Model_blockCame_L82] at h
  obtain ⟨hg25, h⟩ := ob_gd h
  replace h := ob_lt_e h
  refine ob_zast d_Model_blockCame_82 hp_s2 hg25 ?_
  refine ob_aload d_Model_blockCame_83 rfl ?_
  refine ob_dup d_Model_blockCame_84 rfl ?_
  refine ob_getI d_Model_blockCame_85 F_12_15 l_Model_208 hp_v0 ?_
  refine ob_push d_Model_blockCame_88 ?_
  refine ob_iadd d_Model_blockCame_89 ?_
  replace h := ob_lt_e h
  refine ob_putI d_Model_blockCame_90 F_12_15 l_Model_208 hp_v0 ?_
  refine ob_iinc (lo2 := [(0, .ref v0), (1, .int v1), (2, .int (v2 + (1 : Int32)))]) d_Model_blockCame_93 rfl rfl ?_
  refine ob_goto d_Model_blockCame_96 ?_
  exact hk43 v0 v1 (v2 + (1 : Int32)) (ob_pI (ob_pI D s2 s1.toNatClampNeg (s0 &&& 1)) v0 15 (((ob_pI D s2 s1.toNatClampNeg (s0 &&& 1)).1 v0 15) + (1 : Int32))) hp_v0 h
def f_Model_blockCame_L43 (S : ob_S) : Nat → Nat → Int32 → Int32 → ob_D → Option (ob_D)
  | 0, _, _, _, _ => none
  | n + 1, v0, v1, v2, D => (if (63 : Int32) ≤ v2 then f_Model_blockCame_L99 S v0 v1 D else (if v1 = 0 then ob_bd (f_Model_divides S v0 v2 D) fun x19 D17 => (if x19 = 0 then f_Model_blockCame_L43 S n v0 v1 (v2 + (1 : Int32)) D17 else if D17.2.1 v0 11 ≠ 0 then if D17.2.1 v0 11 ≠ 0 then if ob_in v2 (S.2.1 (D17.2.1 v0 11)) then (if (D17.1 (D17.2.1 v0 11) v2.toNatClampNeg) = 0 then f_Model_blockCame_L82 S (fun a0 a1 a2 d => f_Model_blockCame_L43 S n a0 a1 a2 d) v0 (1 : Int32) v2 (1 : Int32) v2 (D17.2.1 v0 11) D17 else f_Model_blockCame_L82 S (fun a0 a1 a2 d => f_Model_blockCame_L43 S n a0 a1 a2 d) v0 (1 : Int32) v2 (0 : Int32) v2 (D17.2.1 v0 11) D17) else none else none else none) else f_Model_blockCame_L99 S v0 v1 D))
theorem v_Model_blockCame_L43 {l : Launch} {E : ob_E} {S : ob_S} {D' : ob_D} : ∀ (n : Nat), ∀ (v0 : Nat) (v1 : Int32) (v2 : Int32) (D : ob_D), S.1 v0 = 13 → f_Model_blockCame_L43 S n v0 v1 v2 D = some D' → ob_V l E k_Model_blockCame 43 [(0, .ref v0), (1, .int v1), (2, .int v2)] [] S D none S D' := by
  intro n
  induction n with
  | zero =>
    intro v0 v1 v2 D hp_v0 h
    have h : none = some D' := h
    cases h
  | succ n ih =>
    intro v0 v1 v2 D hp_v0 h
    rw [f_Model_blockCame_L43] at h
    refine ob_iload d_Model_blockCame_43 rfl ?_
    refine ob_push d_Model_blockCame_44 ?_
    refine ob_icmp_ge d_Model_blockCame_46 (fun hc => ?_) (fun hc => ?_)
    · replace h := ob_ift hc h
      refine ob_sub (lo2 := [(0, .ref v0), (1, .int v1)]) [0, 1] rfl ?_
      exact v_Model_blockCame_L99 v0 v1 D hp_v0 h
    · replace h := ob_iff hc h
      refine ob_iload d_Model_blockCame_49 rfl ?_
      refine ob_if_ne d_Model_blockCame_50 (fun hc => ?_) (fun hc => ?_)
      · replace h := ob_iff hc h
        refine ob_sub (lo2 := [(0, .ref v0), (1, .int v1)]) [0, 1] rfl ?_
        exact v_Model_blockCame_L99 v0 v1 D hp_v0 h
      · replace h := ob_ift hc h
        refine ob_aload d_Model_blockCame_53 rfl ?_
        refine ob_iload d_Model_blockCame_54 rfl ?_
        obtain ⟨x19, D17, h18, h⟩ := ob_bd_e h
        refine ob_callVi (As := [.int v2]) (rest := []) d_Model_blockCame_55 c_Model_blockCame_204 hp_v0 rfl rfl (Nat.le_of_ble_eq_true rfl) (c_Model_divides hp_v0 h18) ⟨Nat.le_refl _, Nat.le_refl _⟩ ⟨Nat.le_refl _, Nat.le_refl _⟩ ?_
        refine ob_if_eq d_Model_blockCame_58 (fun hc => ?_) (fun hc => ?_)
        · replace h := ob_ift hc h
          refine ob_iinc (lo2 := [(0, .ref v0), (1, .int v1), (2, .int (v2 + (1 : Int32)))]) d_Model_blockCame_93 rfl rfl ?_
          refine ob_goto d_Model_blockCame_96 ?_
          exact ih v0 v1 (v2 + (1 : Int32)) D17 hp_v0 h
        · replace h := ob_iff hc h
          refine ob_push d_Model_blockCame_61 ?_
          refine ob_istore (lo2 := [(0, .ref v0), (1, .int (1 : Int32)), (2, .int v2)]) d_Model_blockCame_62 rfl ?_
          refine ob_aload d_Model_blockCame_63 rfl ?_
          obtain ⟨hg21, h⟩ := ob_gd h
          refine ob_getR d_Model_blockCame_64 F_12_11 l_Model_13 hp_v0 hg21 (fun hk20 => ?_)
          refine ob_iload d_Model_blockCame_67 rfl ?_
          refine ob_aload d_Model_blockCame_68 rfl ?_
          obtain ⟨hg23, h⟩ := ob_gd h
          refine ob_getR d_Model_blockCame_69 F_12_11 l_Model_13 hp_v0 hg23 (fun hk22 => ?_)
          refine ob_iload d_Model_blockCame_72 rfl ?_
          obtain ⟨hg24, h⟩ := ob_gd h
          refine ob_zald d_Model_blockCame_73 hk22 hg24 ?_
          refine ob_if_ne d_Model_blockCame_74 (fun hc => ?_) (fun hc => ?_)
          · replace h := ob_iff hc h
            refine ob_push d_Model_blockCame_81 ?_
            exact v_Model_blockCame_L82 ih v0 (1 : Int32) v2 (0 : Int32) v2 (D17.2.1 v0 11) D17 hp_v0 hk20 h
          · replace h := ob_ift hc h
            refine ob_push d_Model_blockCame_77 ?_
            refine ob_goto d_Model_blockCame_78 ?_
            exact v_Model_blockCame_L82 ih v0 (1 : Int32) v2 (1 : Int32) v2 (D17.2.1 v0 11) D17 hp_v0 hk20 h
def f_Model_blockCame_L3 (S : ob_S) : Nat → Nat → Int32 → ob_D → Option (ob_D)
  | 0, _, _, _ => none
  | n + 1, v0, v1, D => (if (63 : Int32) ≤ v1 then ob_bd (f_Model_divides S v0 (-1 : Int32) D) fun x3 D1 => f_Model_blockCame_L43 S ob_FU v0 x3 (0 : Int32) D1 else if D.2.1 v0 11 ≠ 0 then if D.2.1 v0 11 ≠ 0 then if ob_in v1 (S.2.1 (D.2.1 v0 11)) then (if (D.1 (D.2.1 v0 11) v1.toNatClampNeg) = 0 then if ob_in v1 (S.2.1 (D.2.1 v0 11)) then ob_lt (ob_pI D (D.2.1 v0 11) v1.toNatClampNeg ((1 : Int32) &&& 1)) fun D36 => f_Model_blockCame_L3 S n v0 (v1 + (1 : Int32)) D36 else none else if ob_in v1 (S.2.1 (D.2.1 v0 11)) then ob_lt (ob_pI D (D.2.1 v0 11) v1.toNatClampNeg ((0 : Int32) &&& 1)) fun D34 => f_Model_blockCame_L3 S n v0 (v1 + (1 : Int32)) D34 else none) else none else none else none)
theorem v_Model_blockCame_L3 {l : Launch} {E : ob_E} {S : ob_S} {D' : ob_D} : ∀ (n : Nat), ∀ (v0 : Nat) (v1 : Int32) (D : ob_D), S.1 v0 = 13 → f_Model_blockCame_L3 S n v0 v1 D = some D' → ob_V l E k_Model_blockCame 3 [(0, .ref v0), (1, .int v1)] [] S D none S D' := by
  intro n
  induction n with
  | zero =>
    intro v0 v1 D hp_v0 h
    have h : none = some D' := h
    cases h
  | succ n ih =>
    intro v0 v1 D hp_v0 h
    rw [f_Model_blockCame_L3] at h
    refine ob_iload d_Model_blockCame_3 rfl ?_
    refine ob_push d_Model_blockCame_4 ?_
    refine ob_icmp_ge d_Model_blockCame_6 (fun hc => ?_) (fun hc => ?_)
    · replace h := ob_ift hc h
      refine ob_aload d_Model_blockCame_35 rfl ?_
      refine ob_push d_Model_blockCame_36 ?_
      obtain ⟨x3, D1, h2, h⟩ := ob_bd_e h
      refine ob_callVi (As := [.int (-1 : Int32)]) (rest := []) d_Model_blockCame_37 c_Model_blockCame_204 hp_v0 rfl rfl (Nat.le_of_ble_eq_true rfl) (c_Model_divides hp_v0 h2) ⟨Nat.le_refl _, Nat.le_refl _⟩ ⟨Nat.le_refl _, Nat.le_refl _⟩ ?_
      refine ob_istore (lo2 := [(0, .ref v0), (1, .int x3)]) d_Model_blockCame_40 rfl ?_
      refine ob_push d_Model_blockCame_41 ?_
      refine ob_istore (lo2 := [(0, .ref v0), (1, .int x3), (2, .int (0 : Int32))]) d_Model_blockCame_42 rfl ?_
      exact v_Model_blockCame_L43 ob_FU v0 x3 (0 : Int32) D1 hp_v0 h
    · replace h := ob_iff hc h
      refine ob_aload d_Model_blockCame_9 rfl ?_
      obtain ⟨hg29, h⟩ := ob_gd h
      refine ob_getR d_Model_blockCame_10 F_12_11 l_Model_13 hp_v0 hg29 (fun hk28 => ?_)
      refine ob_iload d_Model_blockCame_13 rfl ?_
      refine ob_aload d_Model_blockCame_14 rfl ?_
      obtain ⟨hg31, h⟩ := ob_gd h
      refine ob_getR d_Model_blockCame_15 F_12_11 l_Model_13 hp_v0 hg31 (fun hk30 => ?_)
      refine ob_iload d_Model_blockCame_18 rfl ?_
      obtain ⟨hg32, h⟩ := ob_gd h
      refine ob_zald d_Model_blockCame_19 hk30 hg32 ?_
      refine ob_if_ne d_Model_blockCame_20 (fun hc => ?_) (fun hc => ?_)
      · replace h := ob_iff hc h
        refine ob_push d_Model_blockCame_27 ?_
        obtain ⟨hg33, h⟩ := ob_gd h
        replace h := ob_lt_e h
        refine ob_zast d_Model_blockCame_28 hk28 hg33 ?_
        refine ob_iinc (lo2 := [(0, .ref v0), (1, .int (v1 + (1 : Int32)))]) d_Model_blockCame_29 rfl rfl ?_
        refine ob_goto d_Model_blockCame_32 ?_
        exact ih v0 (v1 + (1 : Int32)) (ob_pI D (D.2.1 v0 11) v1.toNatClampNeg ((0 : Int32) &&& 1)) hp_v0 h
      · replace h := ob_ift hc h
        refine ob_push d_Model_blockCame_23 ?_
        refine ob_goto d_Model_blockCame_24 ?_
        obtain ⟨hg35, h⟩ := ob_gd h
        replace h := ob_lt_e h
        refine ob_zast d_Model_blockCame_28 hk28 hg35 ?_
        refine ob_iinc (lo2 := [(0, .ref v0), (1, .int (v1 + (1 : Int32)))]) d_Model_blockCame_29 rfl rfl ?_
        refine ob_goto d_Model_blockCame_32 ?_
        exact ih v0 (v1 + (1 : Int32)) (ob_pI D (D.2.1 v0 11) v1.toNatClampNeg ((1 : Int32) &&& 1)) hp_v0 h
def f_Model_blockCame (S : ob_S) (v0 : Nat) (D : ob_D) : Option (ob_D) :=
  f_Model_blockCame_L3 S ob_FU v0 (56 : Int32) D
theorem c_Model_blockCame {l : Launch} {E : ob_E} {S : ob_S} {D : ob_D} {v0 : Nat} {D' : ob_D} (hp_v0 : S.1 v0 = 13) (h : f_Model_blockCame S v0 D = some D') : ob_M l E k_Model_blockCame [.ref v0] S D none S D' := by
  refine ob_ofV (lo := [(0, .ref v0)]) (by decide) rfl (Nat.le_of_ble_eq_true rfl) rfl (Nat.le_refl _) (Nat.le_refl _) ?_
  rw [f_Model_blockCame] at h
  refine ob_push d_Model_blockCame_0 ?_
  refine ob_istore (lo2 := [(0, .ref v0), (1, .int (56 : Int32))]) d_Model_blockCame_2 rfl ?_
  exact v_Model_blockCame_L3 ob_FU v0 (56 : Int32) D hp_v0 h
-- OrbitBoxModel.bit(Z)V
theorem d_Model_bit_48 : ob_dk k_Model_bit 48 49 (2 : Int32) (.iconst 2) 1 := ⟨by decide +kernel, rfl, show Int32.ofInt 2 = (2 : Int32) by decide +kernel⟩
theorem d_Model_bit_58 : ob_dk k_Model_bit 58 59 (0 : Int32) (.iconst 0) 1 := ⟨by decide +kernel, rfl, show Int32.ofInt 0 = (0 : Int32) by decide +kernel⟩
theorem d_Model_bit_70 : ob_dk k_Model_bit 70 72 (16 : Int32) (.bipush 16) 2 := ⟨by decide +kernel, rfl, show (Int8.ofInt 16).toInt32 = (16 : Int32) by decide +kernel⟩
theorem d_Model_bit_85 : ob_dk k_Model_bit 85 86 (0 : Int32) (.iconst 0) 1 := ⟨by decide +kernel, rfl, show Int32.ofInt 0 = (0 : Int32) by decide +kernel⟩
theorem d_Model_bit_87 : ob_dk k_Model_bit 87 88 (0 : Int32) (.iconst 0) 1 := ⟨by decide +kernel, rfl, show Int32.ofInt 0 = (0 : Int32) by decide +kernel⟩
theorem d_Model_bit_90 : ob_dk k_Model_bit 90 92 (16 : Int32) (.bipush 16) 2 := ⟨by decide +kernel, rfl, show (Int8.ofInt 16).toInt32 = (16 : Int32) by decide +kernel⟩
theorem d_Model_bit_125 : ob_dk k_Model_bit 125 127 (16 : Int32) (.bipush 16) 2 := ⟨by decide +kernel, rfl, show (Int8.ofInt 16).toInt32 = (16 : Int32) by decide +kernel⟩
theorem d_Model_bit_150 : ob_dc k_Model_bit 150 (.return_) 1 151 := ⟨by decide +kernel, rfl⟩
theorem d_Model_bit_131 : ob_dk k_Model_bit 131 132 (1 : Int32) (.iconst 1) 1 := ⟨by decide +kernel, rfl, show Int32.ofInt 1 = (1 : Int32) by decide +kernel⟩
theorem d_Model_bit_136 : ob_dk k_Model_bit 136 137 (1 : Int32) (.iconst 1) 1 := ⟨by decide +kernel, rfl, show Int32.ofInt 1 = (1 : Int32) by decide +kernel⟩
theorem d_Model_bit_141 : ob_dk k_Model_bit 141 142 (0 : Int32) (.iconst 0) 1 := ⟨by decide +kernel, rfl, show Int32.ofInt 0 = (0 : Int32) by decide +kernel⟩
theorem d_Model_bit_146 : ob_dk k_Model_bit 146 147 (0 : Int32) (.iconst 0) 1 := ⟨by decide +kernel, rfl, show Int32.ofInt 0 = (0 : Int32) by decide +kernel⟩
theorem d_Model_bit_147 : ob_dc k_Model_bit 147 (.putfield 201) 3 150 := ⟨by decide +kernel, rfl⟩
theorem d_Model_bit_145 : ob_dv ob_ac k_Model_bit 145 146 0 (.aload_n 0) 1 := ⟨by decide +kernel, rfl, rfl⟩
theorem d_Model_bit_142 : ob_dc k_Model_bit 142 (.putfield 188) 3 145 := ⟨by decide +kernel, rfl⟩
theorem d_Model_bit_140 : ob_dv ob_ac k_Model_bit 140 141 0 (.aload_n 0) 1 := ⟨by decide +kernel, rfl, rfl⟩
theorem d_Model_bit_137 : ob_dc k_Model_bit 137 (.putfield 184) 3 140 := ⟨by decide +kernel, rfl⟩
theorem d_Model_bit_135 : ob_dv ob_ac k_Model_bit 135 136 0 (.aload_n 0) 1 := ⟨by decide +kernel, rfl, rfl⟩
theorem d_Model_bit_132 : ob_db k_Model_bit 132 (.if_icmp .gt 18) 18 135 150 := ⟨by decide +kernel, rfl, by decide⟩
theorem d_Model_bit_130 : ob_dv ob_lc k_Model_bit 130 131 2 (.iload_n 2) 1 := ⟨by decide +kernel, rfl, rfl⟩
theorem d_Model_bit_127 : ob_db k_Model_bit 127 (.if_icmp .ne 23) 23 130 150 := ⟨by decide +kernel, rfl, by decide⟩
theorem d_Model_bit_122 : ob_dc k_Model_bit 122 (.getfield 197) 3 125 := ⟨by decide +kernel, rfl⟩
theorem d_Model_bit_121 : ob_dv ob_ac k_Model_bit 121 122 0 (.aload_n 0) 1 := ⟨by decide +kernel, rfl, rfl⟩
theorem d_Model_bit_101 : ob_dk k_Model_bit 101 102 (1 : Int32) (.iconst 1) 1 := ⟨by decide +kernel, rfl, show Int32.ofInt 1 = (1 : Int32) by decide +kernel⟩
theorem d_Model_bit_107 : ob_dk k_Model_bit 107 108 (1 : Int32) (.iconst 1) 1 := ⟨by decide +kernel, rfl, show Int32.ofInt 1 = (1 : Int32) by decide +kernel⟩
theorem d_Model_bit_115 : ob_di k_Model_bit 115 118 3 1 (1 : Int32) := ⟨by decide +kernel, rfl, by decide +kernel, by decide +kernel⟩
theorem d_Model_bit_118 : ob_db k_Model_bit 118 (.goto (-29)) (-29) 121 89 := ⟨by decide +kernel, rfl, by decide⟩
theorem d_Model_bit_112 : ob_di k_Model_bit 112 115 2 1 (1 : Int32) := ⟨by decide +kernel, rfl, by decide +kernel, by decide +kernel⟩
theorem d_Model_bit_109 : ob_db k_Model_bit 109 (.if_icmp .eq 6) 6 112 115 := ⟨by decide +kernel, rfl, by decide⟩
theorem d_Model_bit_108 : ob_dc k_Model_bit 108 (.iand) 1 109 := ⟨by decide +kernel, rfl⟩
theorem d_Model_bit_106 : ob_dc k_Model_bit 106 (.ishr) 1 107 := ⟨by decide +kernel, rfl⟩
theorem d_Model_bit_105 : ob_dv ob_lc k_Model_bit 105 106 3 (.iload_n 3) 1 := ⟨by decide +kernel, rfl, rfl⟩
theorem d_Model_bit_103 : ob_dc k_Model_bit 103 (.ldc 200) 2 105 := ⟨by decide +kernel, rfl⟩
theorem d_Model_bit_102 : ob_dc k_Model_bit 102 (.iand) 1 103 := ⟨by decide +kernel, rfl⟩
theorem d_Model_bit_100 : ob_dc k_Model_bit 100 (.ishr) 1 101 := ⟨by decide +kernel, rfl⟩
theorem d_Model_bit_99 : ob_dv ob_lc k_Model_bit 99 100 3 (.iload_n 3) 1 := ⟨by decide +kernel, rfl, rfl⟩
theorem d_Model_bit_96 : ob_dc k_Model_bit 96 (.getfield 194) 3 99 := ⟨by decide +kernel, rfl⟩
theorem d_Model_bit_95 : ob_dv ob_ac k_Model_bit 95 96 0 (.aload_n 0) 1 := ⟨by decide +kernel, rfl, rfl⟩
theorem d_Model_bit_92 : ob_db k_Model_bit 92 (.if_icmp .ge 29) 29 95 121 := ⟨by decide +kernel, rfl, by decide⟩
theorem d_Model_bit_89 : ob_dv ob_lc k_Model_bit 89 90 3 (.iload_n 3) 1 := ⟨by decide +kernel, rfl, rfl⟩
theorem d_Model_bit_88 : ob_dv (ob_sc k_Model_bit.2.2.2.1) k_Model_bit 88 89 3 (.istore_n 3) 1 := ⟨by decide +kernel, rfl, ⟨rfl, by decide +kernel⟩⟩
theorem d_Model_bit_86 : ob_dv (ob_sc k_Model_bit.2.2.2.1) k_Model_bit 86 87 2 (.istore_n 2) 1 := ⟨by decide +kernel, rfl, ⟨rfl, by decide +kernel⟩⟩
theorem d_Model_bit_80 : ob_dk k_Model_bit 80 81 (1 : Int32) (.iconst 1) 1 := ⟨by decide +kernel, rfl, show Int32.ofInt 1 = (1 : Int32) by decide +kernel⟩
theorem d_Model_bit_82 : ob_dc k_Model_bit 82 (.putfield 197) 3 85 := ⟨by decide +kernel, rfl⟩
theorem d_Model_bit_81 : ob_dc k_Model_bit 81 (.iadd) 1 82 := ⟨by decide +kernel, rfl⟩
theorem d_Model_bit_77 : ob_dc k_Model_bit 77 (.getfield 197) 3 80 := ⟨by decide +kernel, rfl⟩
theorem d_Model_bit_76 : ob_dc k_Model_bit 76 (.dup) 1 77 := ⟨by decide +kernel, rfl⟩
theorem d_Model_bit_75 : ob_dv ob_ac k_Model_bit 75 76 0 (.aload_n 0) 1 := ⟨by decide +kernel, rfl, rfl⟩
theorem d_Model_bit_72 : ob_db k_Model_bit 72 (.if_icmp .ge 13) 13 75 85 := ⟨by decide +kernel, rfl, by decide⟩
theorem d_Model_bit_67 : ob_dc k_Model_bit 67 (.getfield 197) 3 70 := ⟨by decide +kernel, rfl⟩
theorem d_Model_bit_66 : ob_dv ob_ac k_Model_bit 66 67 0 (.aload_n 0) 1 := ⟨by decide +kernel, rfl, rfl⟩
theorem d_Model_bit_63 : ob_dc k_Model_bit 63 (.putfield 194) 3 66 := ⟨by decide +kernel, rfl⟩
theorem d_Model_bit_62 : ob_dc k_Model_bit 62 (.iand) 1 63 := ⟨by decide +kernel, rfl⟩
theorem d_Model_bit_60 : ob_dc k_Model_bit 60 (.ldc 177) 2 62 := ⟨by decide +kernel, rfl⟩
theorem d_Model_bit_59 : ob_dc k_Model_bit 59 (.iadd) 1 60 := ⟨by decide +kernel, rfl⟩
theorem d_Model_bit_54 : ob_dk k_Model_bit 54 55 (1 : Int32) (.iconst 1) 1 := ⟨by decide +kernel, rfl, show Int32.ofInt 1 = (1 : Int32) by decide +kernel⟩
theorem d_Model_bit_55 : ob_db k_Model_bit 55 (.goto 4) 4 58 59 := ⟨by decide +kernel, rfl, by decide⟩
theorem d_Model_bit_51 : ob_db k_Model_bit 51 (.ifCond .eq 7) 7 54 58 := ⟨by decide +kernel, rfl, by decide⟩
theorem d_Model_bit_50 : ob_dv ob_lc k_Model_bit 50 51 1 (.iload_n 1) 1 := ⟨by decide +kernel, rfl, rfl⟩
theorem d_Model_bit_49 : ob_dc k_Model_bit 49 (.imul) 1 50 := ⟨by decide +kernel, rfl⟩
theorem d_Model_bit_45 : ob_dc k_Model_bit 45 (.getfield 194) 3 48 := ⟨by decide +kernel, rfl⟩
theorem d_Model_bit_44 : ob_dv ob_ac k_Model_bit 44 45 0 (.aload_n 0) 1 := ⟨by decide +kernel, rfl, rfl⟩
theorem d_Model_bit_43 : ob_dv ob_ac k_Model_bit 43 44 0 (.aload_n 0) 1 := ⟨by decide +kernel, rfl, rfl⟩
theorem d_Model_bit_17 : ob_dk k_Model_bit 17 18 (1 : Int32) (.iconst 1) 1 := ⟨by decide +kernel, rfl, show Int32.ofInt 1 = (1 : Int32) by decide +kernel⟩
theorem d_Model_bit_28 : ob_dk k_Model_bit 28 30 (64 : Int32) (.bipush 64) 2 := ⟨by decide +kernel, rfl, show (Int8.ofInt 64).toInt32 = (64 : Int32) by decide +kernel⟩
theorem d_Model_bit_42 : ob_dc k_Model_bit 42 (.return_) 1 43 := ⟨by decide +kernel, rfl⟩
theorem d_Model_bit_34 : ob_dk k_Model_bit 34 35 (0 : Int32) (.iconst 0) 1 := ⟨by decide +kernel, rfl, show Int32.ofInt 0 = (0 : Int32) by decide +kernel⟩
theorem d_Model_bit_39 : ob_dc k_Model_bit 39 (.invokevirtual 191) 3 42 := ⟨by decide +kernel, rfl⟩
theorem d_Model_bit_38 : ob_dv ob_ac k_Model_bit 38 39 0 (.aload_n 0) 1 := ⟨by decide +kernel, rfl, rfl⟩
theorem d_Model_bit_35 : ob_dc k_Model_bit 35 (.putfield 188) 3 38 := ⟨by decide +kernel, rfl⟩
theorem d_Model_bit_33 : ob_dv ob_ac k_Model_bit 33 34 0 (.aload_n 0) 1 := ⟨by decide +kernel, rfl, rfl⟩
theorem d_Model_bit_30 : ob_db k_Model_bit 30 (.if_icmp .ne 12) 12 33 42 := ⟨by decide +kernel, rfl, by decide⟩
theorem d_Model_bit_25 : ob_dc k_Model_bit 25 (.getfield 188) 3 28 := ⟨by decide +kernel, rfl⟩
theorem d_Model_bit_24 : ob_dv ob_ac k_Model_bit 24 25 0 (.aload_n 0) 1 := ⟨by decide +kernel, rfl, rfl⟩
theorem d_Model_bit_23 : ob_dc k_Model_bit 23 (.bastore) 1 24 := ⟨by decide +kernel, rfl⟩
theorem d_Model_bit_22 : ob_dv ob_lc k_Model_bit 22 23 1 (.iload_n 1) 1 := ⟨by decide +kernel, rfl, rfl⟩
theorem d_Model_bit_19 : ob_dc k_Model_bit 19 (.putfield 188) 3 22 := ⟨by decide +kernel, rfl⟩
theorem d_Model_bit_18 : ob_dc k_Model_bit 18 (.iadd) 1 19 := ⟨by decide +kernel, rfl⟩
theorem d_Model_bit_16 : ob_dc k_Model_bit 16 (.dup_x1) 1 17 := ⟨by decide +kernel, rfl⟩
theorem d_Model_bit_13 : ob_dc k_Model_bit 13 (.getfield 188) 3 16 := ⟨by decide +kernel, rfl⟩
theorem d_Model_bit_12 : ob_dc k_Model_bit 12 (.dup) 1 13 := ⟨by decide +kernel, rfl⟩
theorem d_Model_bit_11 : ob_dv ob_ac k_Model_bit 11 12 0 (.aload_n 0) 1 := ⟨by decide +kernel, rfl, rfl⟩
theorem d_Model_bit_8 : ob_dc k_Model_bit 8 (.getfield 13) 3 11 := ⟨by decide +kernel, rfl⟩
theorem d_Model_bit_7 : ob_dv ob_ac k_Model_bit 7 8 0 (.aload_n 0) 1 := ⟨by decide +kernel, rfl, rfl⟩
theorem d_Model_bit_4 : ob_db k_Model_bit 4 (.ifCond .eq 39) 39 7 43 := ⟨by decide +kernel, rfl, by decide⟩
theorem d_Model_bit_1 : ob_dc k_Model_bit 1 (.getfield 184) 3 4 := ⟨by decide +kernel, rfl⟩
theorem d_Model_bit_0 : ob_dv ob_ac k_Model_bit 0 1 0 (.aload_n 0) 1 := ⟨by decide +kernel, rfl, rfl⟩
theorem c_Model_bit_191 : ob_vd k_Model_bit k_Model_blockCame 191 0 12 := ⟨cw_Model_blockCame, yd_Model_blockCame, w_1384, w_1386, wp_49, w_14, ⟨_, _, rfl⟩, by decide, by decide⟩
def f_Model_bit_L89 (S : ob_S) : Nat → Nat → Int32 → Int32 → ob_D → Option (ob_D)
  | 0, _, _, _, _ => none
  | n + 1, v0, v2, v3, D => (if (16 : Int32) ≤ v3 then (if (D.1 v0 9) = (16 : Int32) then (if (1 : Int32) < v2 then some D else ob_lt (ob_pI D v0 8 (1 : Int32)) fun D2 => ob_lt (ob_pI D2 v0 12 (0 : Int32)) fun D3 => ob_lt (ob_pI D3 v0 14 (0 : Int32)) fun D4 => some D4) else some D) else (if (((D.1 v0 10) >>> (v3 &&& 31)) &&& (1 : Int32)) = (((60304 : Int32) >>> (v3 &&& 31)) &&& (1 : Int32)) then f_Model_bit_L89 S n v0 v2 (v3 + (1 : Int32)) D else f_Model_bit_L89 S n v0 (v2 + (1 : Int32)) (v3 + (1 : Int32)) D))
theorem v_Model_bit_L89 {l : Launch} {E : ob_E} {S : ob_S} {D' : ob_D} : ∀ (n : Nat), ∀ (v0 : Nat) (v2 : Int32) (v3 : Int32) (D : ob_D), S.1 v0 = 13 → f_Model_bit_L89 S n v0 v2 v3 D = some D' → ob_V l E k_Model_bit 89 [(0, .ref v0), (2, .int v2), (3, .int v3)] [] S D none S D' := by
  intro n
  induction n with
  | zero =>
    intro v0 v2 v3 D hp_v0 h
    have h : none = some D' := h
    cases h
  | succ n ih =>
    intro v0 v2 v3 D hp_v0 h
    rw [f_Model_bit_L89] at h
    refine ob_iload d_Model_bit_89 rfl ?_
    refine ob_push d_Model_bit_90 ?_
    refine ob_icmp_ge d_Model_bit_92 (fun hc => ?_) (fun hc => ?_)
    · replace h := ob_ift hc h
      refine ob_aload d_Model_bit_121 rfl ?_
      refine ob_getI d_Model_bit_122 F_12_9 l_Model_197 hp_v0 ?_
      refine ob_push d_Model_bit_125 ?_
      refine ob_icmp_ne d_Model_bit_127 (fun hc => ?_) (fun hc => ?_)
      · replace h := ob_iff hc h
        exact ob_ve h (ob_vret d_Model_bit_150 rfl)
      · replace h := ob_ift hc h
        refine ob_iload d_Model_bit_130 rfl ?_
        refine ob_push d_Model_bit_131 ?_
        refine ob_icmp_gt d_Model_bit_132 (fun hc => ?_) (fun hc => ?_)
        · replace h := ob_ift hc h
          exact ob_ve h (ob_vret d_Model_bit_150 rfl)
        · replace h := ob_iff hc h
          refine ob_aload d_Model_bit_135 rfl ?_
          refine ob_push d_Model_bit_136 ?_
          replace h := ob_lt_e h
          refine ob_putZ d_Model_bit_137 F_12_8 l_Model_184 hp_v0 (Or.inr rfl) ?_
          refine ob_aload d_Model_bit_140 rfl ?_
          refine ob_push d_Model_bit_141 ?_
          replace h := ob_lt_e h
          refine ob_putI d_Model_bit_142 F_12_12 l_Model_188 hp_v0 ?_
          refine ob_aload d_Model_bit_145 rfl ?_
          refine ob_push d_Model_bit_146 ?_
          replace h := ob_lt_e h
          refine ob_putI d_Model_bit_147 F_12_14 l_Model_201 hp_v0 ?_
          exact ob_ve h (ob_vret d_Model_bit_150 rfl)
    · replace h := ob_iff hc h
      refine ob_aload d_Model_bit_95 rfl ?_
      refine ob_getI d_Model_bit_96 F_12_10 l_Model_194 hp_v0 ?_
      refine ob_iload d_Model_bit_99 rfl ?_
      refine ob_ishr d_Model_bit_100 ?_
      refine ob_push d_Model_bit_101 ?_
      refine ob_iand d_Model_bit_102 ?_
      refine ob_ldc (idx := 200) d_Model_bit_103 (Or.inl ⟨rfl, rfl⟩) w_1421 ?_
      refine ob_iload d_Model_bit_105 rfl ?_
      refine ob_ishr d_Model_bit_106 ?_
      refine ob_push d_Model_bit_107 ?_
      refine ob_iand d_Model_bit_108 ?_
      refine ob_icmp_eq d_Model_bit_109 (fun hc => ?_) (fun hc => ?_)
      · replace h := ob_ift hc h
        refine ob_iinc (lo2 := [(0, .ref v0), (2, .int v2), (3, .int (v3 + (1 : Int32)))]) d_Model_bit_115 rfl rfl ?_
        refine ob_goto d_Model_bit_118 ?_
        exact ih v0 v2 (v3 + (1 : Int32)) D hp_v0 h
      · replace h := ob_iff hc h
        refine ob_iinc (lo2 := [(0, .ref v0), (2, .int (v2 + (1 : Int32))), (3, .int v3)]) d_Model_bit_112 rfl rfl ?_
        refine ob_iinc (lo2 := [(0, .ref v0), (2, .int (v2 + (1 : Int32))), (3, .int (v3 + (1 : Int32)))]) d_Model_bit_115 rfl rfl ?_
        refine ob_goto d_Model_bit_118 ?_
        exact ih v0 (v2 + (1 : Int32)) (v3 + (1 : Int32)) D hp_v0 h
def f_Model_bit_L59 (S : ob_S) (v0 : Nat) (s0 : Int32) (s1 : Int32) (s2 : Nat) (D : ob_D) : Option (ob_D) :=
  ob_lt (ob_pI D s2 10 ((s1 + s0) &&& (65535 : Int32))) fun D1 => (if (16 : Int32) ≤ (D1.1 v0 9) then f_Model_bit_L89 S ob_FU v0 (0 : Int32) (0 : Int32) D1 else ob_lt (ob_pI D1 v0 9 ((D1.1 v0 9) + (1 : Int32))) fun D5 => f_Model_bit_L89 S ob_FU v0 (0 : Int32) (0 : Int32) D5)
theorem v_Model_bit_L59 {l : Launch} {E : ob_E} {S : ob_S} {D' : ob_D} : ∀ (v0 : Nat) (s0 : Int32) (s1 : Int32) (s2 : Nat) (D : ob_D), S.1 v0 = 13 → S.1 s2 = 13 → f_Model_bit_L59 S v0 s0 s1 s2 D = some D' → ob_V l E k_Model_bit 59 [(0, .ref v0)] [.int s0, .int s1, .ref s2] S D none S D' := by
  intro v0 s0 s1 s2 D hp_v0 hp_s2 h
  rw [f_Model_bit_L59] at h
  refine ob_iadd d_Model_bit_59 ?_
  refine ob_ldc (idx := 177) d_Model_bit_60 (Or.inl ⟨rfl, rfl⟩) w_1406 ?_
  refine ob_iand d_Model_bit_62 ?_
  replace h := ob_lt_e h
  refine ob_putI d_Model_bit_63 F_12_10 l_Model_194 hp_s2 ?_
  refine ob_aload d_Model_bit_66 rfl ?_
  refine ob_getI d_Model_bit_67 F_12_9 l_Model_197 hp_v0 ?_
  refine ob_push d_Model_bit_70 ?_
  refine ob_icmp_ge d_Model_bit_72 (fun hc => ?_) (fun hc => ?_)
  · replace h := ob_ift hc h
    refine ob_push d_Model_bit_85 ?_
    refine ob_istore (lo2 := [(0, .ref v0), (2, .int (0 : Int32))]) d_Model_bit_86 rfl ?_
    refine ob_push d_Model_bit_87 ?_
    refine ob_istore (lo2 := [(0, .ref v0), (2, .int (0 : Int32)), (3, .int (0 : Int32))]) d_Model_bit_88 rfl ?_
    exact v_Model_bit_L89 ob_FU v0 (0 : Int32) (0 : Int32) (ob_pI D s2 10 ((s1 + s0) &&& (65535 : Int32))) hp_v0 h
  · replace h := ob_iff hc h
    refine ob_aload d_Model_bit_75 rfl ?_
    refine ob_dup d_Model_bit_76 rfl ?_
    refine ob_getI d_Model_bit_77 F_12_9 l_Model_197 hp_v0 ?_
    refine ob_push d_Model_bit_80 ?_
    refine ob_iadd d_Model_bit_81 ?_
    replace h := ob_lt_e h
    refine ob_putI d_Model_bit_82 F_12_9 l_Model_197 hp_v0 ?_
    refine ob_push d_Model_bit_85 ?_
    refine ob_istore (lo2 := [(0, .ref v0), (2, .int (0 : Int32))]) d_Model_bit_86 rfl ?_
    refine ob_push d_Model_bit_87 ?_
    refine ob_istore (lo2 := [(0, .ref v0), (2, .int (0 : Int32)), (3, .int (0 : Int32))]) d_Model_bit_88 rfl ?_
    exact v_Model_bit_L89 ob_FU v0 (0 : Int32) (0 : Int32) (ob_pI (ob_pI D s2 10 ((s1 + s0) &&& (65535 : Int32))) v0 9 (((ob_pI D s2 10 ((s1 + s0) &&& (65535 : Int32))).1 v0 9) + (1 : Int32))) hp_v0 h
def f_Model_bit (S : ob_S) (v0 : Nat) (v1 : Int32) (D : ob_D) : Option (ob_D) :=
  (if (D.1 v0 8) = 0 then (if v1 = 0 then f_Model_bit_L59 S v0 (0 : Int32) ((D.1 v0 10) * (2 : Int32)) v0 D else f_Model_bit_L59 S v0 (1 : Int32) ((D.1 v0 10) * (2 : Int32)) v0 D) else if D.2.1 v0 11 ≠ 0 then ob_lt (ob_pI D v0 12 ((D.1 v0 12) + (1 : Int32))) fun D8 => if ob_in (D.1 v0 12) (S.2.1 (D.2.1 v0 11)) then ob_lt (ob_pI D8 (D.2.1 v0 11) (D.1 v0 12).toNatClampNeg (v1 &&& 1)) fun D10 => (if (D10.1 v0 12) = (64 : Int32) then ob_lt (ob_pI D10 v0 12 (0 : Int32)) fun D11 => ob_bv (f_Model_blockCame S v0 D11) fun D12 => some D12 else some D10) else none else none)
theorem c_Model_bit {l : Launch} {E : ob_E} {S : ob_S} {D : ob_D} {v0 : Nat} {v1 : Int32} {D' : ob_D} (hp_v0 : S.1 v0 = 13) (h : f_Model_bit S v0 v1 D = some D') : ob_M l E k_Model_bit [.ref v0, .int v1] S D none S D' := by
  refine ob_ofV (lo := [(0, .ref v0), (1, .int v1)]) (by decide) rfl (Nat.le_of_ble_eq_true rfl) rfl (Nat.le_refl _) (Nat.le_refl _) ?_
  rw [f_Model_bit] at h
  refine ob_aload d_Model_bit_0 rfl ?_
  refine ob_getI d_Model_bit_1 F_12_8 l_Model_184 hp_v0 ?_
  refine ob_if_eq d_Model_bit_4 (fun hc => ?_) (fun hc => ?_)
  · replace h := ob_ift hc h
    refine ob_aload d_Model_bit_43 rfl ?_
    refine ob_aload d_Model_bit_44 rfl ?_
    refine ob_getI d_Model_bit_45 F_12_10 l_Model_194 hp_v0 ?_
    refine ob_push d_Model_bit_48 ?_
    refine ob_imul d_Model_bit_49 ?_
    refine ob_iload d_Model_bit_50 rfl ?_
    refine ob_if_eq d_Model_bit_51 (fun hc => ?_) (fun hc => ?_)
    · replace h := ob_ift hc h
      refine ob_push d_Model_bit_58 ?_
      refine ob_sub (lo2 := [(0, .ref v0)]) [0] rfl ?_
      exact v_Model_bit_L59 v0 (0 : Int32) ((D.1 v0 10) * (2 : Int32)) v0 D hp_v0 hp_v0 h
    · replace h := ob_iff hc h
      refine ob_push d_Model_bit_54 ?_
      refine ob_goto d_Model_bit_55 ?_
      refine ob_sub (lo2 := [(0, .ref v0)]) [0] rfl ?_
      exact v_Model_bit_L59 v0 (1 : Int32) ((D.1 v0 10) * (2 : Int32)) v0 D hp_v0 hp_v0 h
  · replace h := ob_iff hc h
    refine ob_aload d_Model_bit_7 rfl ?_
    obtain ⟨hg7, h⟩ := ob_gd h
    refine ob_getR d_Model_bit_8 F_12_11 l_Model_13 hp_v0 hg7 (fun hk6 => ?_)
    refine ob_aload d_Model_bit_11 rfl ?_
    refine ob_dup d_Model_bit_12 rfl ?_
    refine ob_getI d_Model_bit_13 F_12_12 l_Model_188 hp_v0 ?_
    refine ob_dup_x1 d_Model_bit_16 rfl rfl ?_
    refine ob_push d_Model_bit_17 ?_
    refine ob_iadd d_Model_bit_18 ?_
    replace h := ob_lt_e h
    refine ob_putI d_Model_bit_19 F_12_12 l_Model_188 hp_v0 ?_
    refine ob_iload d_Model_bit_22 rfl ?_
    obtain ⟨hg9, h⟩ := ob_gd h
    replace h := ob_lt_e h
    refine ob_zast d_Model_bit_23 hk6 hg9 ?_
    refine ob_aload d_Model_bit_24 rfl ?_
    refine ob_getI d_Model_bit_25 F_12_12 l_Model_188 hp_v0 ?_
    refine ob_push d_Model_bit_28 ?_
    refine ob_icmp_ne d_Model_bit_30 (fun hc => ?_) (fun hc => ?_)
    · replace h := ob_iff hc h
      exact ob_ve h (ob_vret d_Model_bit_42 rfl)
    · replace h := ob_ift hc h
      refine ob_aload d_Model_bit_33 rfl ?_
      refine ob_push d_Model_bit_34 ?_
      replace h := ob_lt_e h
      refine ob_putI d_Model_bit_35 F_12_12 l_Model_188 hp_v0 ?_
      refine ob_aload d_Model_bit_38 rfl ?_
      obtain ⟨D12, h13, h⟩ := ob_bv_e h
      refine ob_callVv (As := []) (rest := []) d_Model_bit_39 c_Model_bit_191 hp_v0 rfl rfl (Nat.le_of_ble_eq_true rfl) (c_Model_blockCame hp_v0 h13) ⟨Nat.le_refl _, Nat.le_refl _⟩ ⟨Nat.le_refl _, Nat.le_refl _⟩ ?_
      exact ob_ve h (ob_vret d_Model_bit_42 rfl)
-- OrbitBoxModel.uplink()I
theorem d_Model_uplink_1 : ob_dk k_Model_uplink 1 2 (0 : Int32) (.iconst 0) 1 := ⟨by decide +kernel, rfl, show Int32.ofInt 0 = (0 : Int32) by decide +kernel⟩
theorem d_Model_uplink_10 : ob_dk k_Model_uplink 10 11 (0 : Int32) (.iconst 0) 1 := ⟨by decide +kernel, rfl, show Int32.ofInt 0 = (0 : Int32) by decide +kernel⟩
theorem d_Model_uplink_62 : ob_dk k_Model_uplink 62 63 (0 : Int32) (.iconst 0) 1 := ⟨by decide +kernel, rfl, show Int32.ofInt 0 = (0 : Int32) by decide +kernel⟩
theorem d_Model_uplink_72 : ob_dc k_Model_uplink 72 (.ireturn) 1 73 := ⟨by decide +kernel, rfl⟩
theorem d_Model_uplink_71 : ob_dc k_Model_uplink 71 (.isub) 1 72 := ⟨by decide +kernel, rfl⟩
theorem d_Model_uplink_70 : ob_dv ob_lc k_Model_uplink 70 71 1 (.iload_n 1) 1 := ⟨by decide +kernel, rfl, rfl⟩
theorem d_Model_uplink_67 : ob_dc k_Model_uplink 67 (.getfield 251) 3 70 := ⟨by decide +kernel, rfl⟩
theorem d_Model_uplink_66 : ob_dv ob_ac k_Model_uplink 66 67 0 (.aload_n 0) 1 := ⟨by decide +kernel, rfl, rfl⟩
theorem d_Model_uplink_63 : ob_dc k_Model_uplink 63 (.putfield 471) 3 66 := ⟨by decide +kernel, rfl⟩
theorem d_Model_uplink_61 : ob_dv ob_ac k_Model_uplink 61 62 0 (.aload_n 0) 1 := ⟨by decide +kernel, rfl, rfl⟩
theorem d_Model_uplink_20 : ob_dk k_Model_uplink 20 22 (7 : Int32) (.bipush 7) 2 := ⟨by decide +kernel, rfl, show (Int8.ofInt 7).toInt32 = (7 : Int32) by decide +kernel⟩
theorem d_Model_uplink_55 : ob_di k_Model_uplink 55 58 2 1 (1 : Int32) := ⟨by decide +kernel, rfl, by decide +kernel, by decide +kernel⟩
theorem d_Model_uplink_58 : ob_db k_Model_uplink 58 (.goto (-46)) (-46) 61 12 := ⟨by decide +kernel, rfl, by decide⟩
theorem d_Model_uplink_36 : ob_dk k_Model_uplink 36 37 (1 : Int32) (.iconst 1) 1 := ⟨by decide +kernel, rfl, show Int32.ofInt 1 = (1 : Int32) by decide +kernel⟩
theorem d_Model_uplink_45 : ob_dk k_Model_uplink 45 46 (0 : Int32) (.iconst 0) 1 := ⟨by decide +kernel, rfl, show Int32.ofInt 0 = (0 : Int32) by decide +kernel⟩
theorem d_Model_uplink_49 : ob_di k_Model_uplink 49 52 3 (-1) (-1 : Int32) := ⟨by decide +kernel, rfl, by decide +kernel, by decide +kernel⟩
theorem d_Model_uplink_52 : ob_db k_Model_uplink 52 (.goto (-29)) (-29) 55 23 := ⟨by decide +kernel, rfl, by decide⟩
theorem d_Model_uplink_46 : ob_dc k_Model_uplink 46 (.invokevirtual 474) 3 49 := ⟨by decide +kernel, rfl⟩
theorem d_Model_uplink_41 : ob_dk k_Model_uplink 41 42 (1 : Int32) (.iconst 1) 1 := ⟨by decide +kernel, rfl, show Int32.ofInt 1 = (1 : Int32) by decide +kernel⟩
theorem d_Model_uplink_42 : ob_db k_Model_uplink 42 (.goto 4) 4 45 46 := ⟨by decide +kernel, rfl, by decide⟩
theorem d_Model_uplink_38 : ob_db k_Model_uplink 38 (.ifCond .eq 7) 7 41 45 := ⟨by decide +kernel, rfl, by decide⟩
theorem d_Model_uplink_37 : ob_dc k_Model_uplink 37 (.iand) 1 38 := ⟨by decide +kernel, rfl⟩
theorem d_Model_uplink_35 : ob_dc k_Model_uplink 35 (.ishr) 1 36 := ⟨by decide +kernel, rfl⟩
theorem d_Model_uplink_34 : ob_dv ob_lc k_Model_uplink 34 35 3 (.iload_n 3) 1 := ⟨by decide +kernel, rfl, rfl⟩
theorem d_Model_uplink_33 : ob_dc k_Model_uplink 33 (.baload) 1 34 := ⟨by decide +kernel, rfl⟩
theorem d_Model_uplink_32 : ob_dv ob_lc k_Model_uplink 32 33 2 (.iload_n 2) 1 := ⟨by decide +kernel, rfl, rfl⟩
theorem d_Model_uplink_29 : ob_dc k_Model_uplink 29 (.getfield 7) 3 32 := ⟨by decide +kernel, rfl⟩
theorem d_Model_uplink_28 : ob_dv ob_ac k_Model_uplink 28 29 0 (.aload_n 0) 1 := ⟨by decide +kernel, rfl, rfl⟩
theorem d_Model_uplink_27 : ob_dv ob_ac k_Model_uplink 27 28 0 (.aload_n 0) 1 := ⟨by decide +kernel, rfl, rfl⟩
theorem d_Model_uplink_24 : ob_db k_Model_uplink 24 (.ifCond .lt 31) 31 27 55 := ⟨by decide +kernel, rfl, by decide⟩
theorem d_Model_uplink_23 : ob_dv ob_lc k_Model_uplink 23 24 3 (.iload_n 3) 1 := ⟨by decide +kernel, rfl, rfl⟩
theorem d_Model_uplink_22 : ob_dv (ob_sc k_Model_uplink.2.2.2.1) k_Model_uplink 22 23 3 (.istore_n 3) 1 := ⟨by decide +kernel, rfl, ⟨rfl, by decide +kernel⟩⟩
theorem d_Model_uplink_17 : ob_db k_Model_uplink 17 (.if_icmp .ge 44) 44 20 61 := ⟨by decide +kernel, rfl, by decide⟩
theorem d_Model_uplink_14 : ob_dc k_Model_uplink 14 (.getfield 471) 3 17 := ⟨by decide +kernel, rfl⟩
theorem d_Model_uplink_13 : ob_dv ob_ac k_Model_uplink 13 14 0 (.aload_n 0) 1 := ⟨by decide +kernel, rfl, rfl⟩
theorem d_Model_uplink_12 : ob_dv ob_lc k_Model_uplink 12 13 2 (.iload_n 2) 1 := ⟨by decide +kernel, rfl, rfl⟩
theorem d_Model_uplink_11 : ob_dv (ob_sc k_Model_uplink.2.2.2.1) k_Model_uplink 11 12 2 (.istore_n 2) 1 := ⟨by decide +kernel, rfl, ⟨rfl, by decide +kernel⟩⟩
theorem d_Model_uplink_9 : ob_dv (ob_sc k_Model_uplink.2.2.2.1) k_Model_uplink 9 10 1 (.istore_n 1) 1 := ⟨by decide +kernel, rfl, ⟨rfl, by decide +kernel⟩⟩
theorem d_Model_uplink_6 : ob_dc k_Model_uplink 6 (.getfield 251) 3 9 := ⟨by decide +kernel, rfl⟩
theorem d_Model_uplink_5 : ob_dv ob_ac k_Model_uplink 5 6 0 (.aload_n 0) 1 := ⟨by decide +kernel, rfl, rfl⟩
theorem d_Model_uplink_2 : ob_dc k_Model_uplink 2 (.putfield 468) 3 5 := ⟨by decide +kernel, rfl⟩
theorem d_Model_uplink_0 : ob_dv ob_ac k_Model_uplink 0 1 0 (.aload_n 0) 1 := ⟨by decide +kernel, rfl, rfl⟩
theorem c_Model_uplink_474 : ob_vd k_Model_uplink k_Model_bit 474 1 12 := ⟨cw_Model_bit, yd_Model_bit, w_1380, w_1382, wp_48, w_14, ⟨_, _, rfl⟩, by decide, by decide⟩
def f_Model_uplink_L23 (S : ob_S) (k12 : Nat → Int32 → Int32 → ob_D → Option (Int32 × ob_D)) : Nat → Nat → Int32 → Int32 → Int32 → ob_D → Option (Int32 × ob_D)
  | 0, _, _, _, _, _ => none
  | n + 1, v0, v1, v2, v3, D => (if v3 < 0 then k12 v0 v1 (v2 + (1 : Int32)) D else if D.2.1 v0 6 ≠ 0 then if ob_in v2 (S.2.1 (D.2.1 v0 6)) then (if (((D.1 (D.2.1 v0 6) v2.toNatClampNeg) >>> (v3 &&& 31)) &&& (1 : Int32)) = 0 then ob_bv (f_Model_bit S v0 (0 : Int32) D) fun D6 => f_Model_uplink_L23 S k12 n v0 v1 v2 (v3 + (-1 : Int32)) D6 else ob_bv (f_Model_bit S v0 (1 : Int32) D) fun D8 => f_Model_uplink_L23 S k12 n v0 v1 v2 (v3 + (-1 : Int32)) D8) else none else none)
theorem v_Model_uplink_L23 {l : Launch} {E : ob_E} {S : ob_S} {r : Int32} {D' : ob_D} {k12 : Nat → Int32 → Int32 → ob_D → Option (Int32 × ob_D)} (hk12 : ∀ (v0 : Nat) (v1 : Int32) (v2 : Int32) (D : ob_D), S.1 v0 = 13 → k12 v0 v1 v2 D = some (r, D') → ob_V l E k_Model_uplink 12 [(0, .ref v0), (1, .int v1), (2, .int v2)] [] S D (some (.int r)) S D') : ∀ (n : Nat), ∀ (v0 : Nat) (v1 : Int32) (v2 : Int32) (v3 : Int32) (D : ob_D), S.1 v0 = 13 → f_Model_uplink_L23 S k12 n v0 v1 v2 v3 D = some (r, D') → ob_V l E k_Model_uplink 23 [(0, .ref v0), (1, .int v1), (2, .int v2), (3, .int v3)] [] S D (some (.int r)) S D' := by
  intro n
  induction n with
  | zero =>
    intro v0 v1 v2 v3 D hp_v0 h
    have h : none = some (r, D') := h
    cases h
  | succ n ih =>
    intro v0 v1 v2 v3 D hp_v0 h
    rw [f_Model_uplink_L23] at h
    refine ob_iload d_Model_uplink_23 rfl ?_
    refine ob_if_lt d_Model_uplink_24 (fun hc => ?_) (fun hc => ?_)
    · replace h := ob_ift hc h
      refine ob_iinc (lo2 := [(0, .ref v0), (1, .int v1), (2, .int (v2 + (1 : Int32))), (3, .int v3)]) d_Model_uplink_55 rfl rfl ?_
      refine ob_goto d_Model_uplink_58 ?_
      refine ob_sub (lo2 := [(0, .ref v0), (1, .int v1), (2, .int (v2 + (1 : Int32)))]) [0, 1, 2] rfl ?_
      exact hk12 v0 v1 (v2 + (1 : Int32)) D hp_v0 h
    · replace h := ob_iff hc h
      refine ob_aload d_Model_uplink_27 rfl ?_
      refine ob_aload d_Model_uplink_28 rfl ?_
      obtain ⟨hg4, h⟩ := ob_gd h
      refine ob_getR d_Model_uplink_29 F_12_6 l_Model_7 hp_v0 hg4 (fun hk3 => ?_)
      refine ob_iload d_Model_uplink_32 rfl ?_
      obtain ⟨hg5, h⟩ := ob_gd h
      refine ob_bald d_Model_uplink_33 hk3 hg5 ?_
      refine ob_iload d_Model_uplink_34 rfl ?_
      refine ob_ishr d_Model_uplink_35 ?_
      refine ob_push d_Model_uplink_36 ?_
      refine ob_iand d_Model_uplink_37 ?_
      refine ob_if_eq d_Model_uplink_38 (fun hc => ?_) (fun hc => ?_)
      · replace h := ob_ift hc h
        refine ob_push d_Model_uplink_45 ?_
        obtain ⟨D6, h7, h⟩ := ob_bv_e h
        refine ob_callVv (As := [.int (0 : Int32)]) (rest := []) d_Model_uplink_46 c_Model_uplink_474 hp_v0 rfl rfl (Nat.le_of_ble_eq_true rfl) (c_Model_bit hp_v0 h7) ⟨Nat.le_refl _, Nat.le_refl _⟩ ⟨Nat.le_refl _, Nat.le_refl _⟩ ?_
        refine ob_iinc (lo2 := [(0, .ref v0), (1, .int v1), (2, .int v2), (3, .int (v3 + (-1 : Int32)))]) d_Model_uplink_49 rfl rfl ?_
        refine ob_goto d_Model_uplink_52 ?_
        exact ih v0 v1 v2 (v3 + (-1 : Int32)) D6 hp_v0 h
      · replace h := ob_iff hc h
        refine ob_push d_Model_uplink_41 ?_
        refine ob_goto d_Model_uplink_42 ?_
        obtain ⟨D8, h9, h⟩ := ob_bv_e h
        refine ob_callVv (As := [.int (1 : Int32)]) (rest := []) d_Model_uplink_46 c_Model_uplink_474 hp_v0 rfl rfl (Nat.le_of_ble_eq_true rfl) (c_Model_bit hp_v0 h9) ⟨Nat.le_refl _, Nat.le_refl _⟩ ⟨Nat.le_refl _, Nat.le_refl _⟩ ?_
        refine ob_iinc (lo2 := [(0, .ref v0), (1, .int v1), (2, .int v2), (3, .int (v3 + (-1 : Int32)))]) d_Model_uplink_49 rfl rfl ?_
        refine ob_goto d_Model_uplink_52 ?_
        exact ih v0 v1 v2 (v3 + (-1 : Int32)) D8 hp_v0 h
def f_Model_uplink_L12 (S : ob_S) : Nat → Nat → Int32 → Int32 → ob_D → Option (Int32 × ob_D)
  | 0, _, _, _, _ => none
  | n + 1, v0, v1, v2, D => (if (D.1 v0 7) ≤ v2 then ob_lt (ob_pI D v0 7 (0 : Int32)) fun D2 => some ((D2.1 v0 17) - v1, D2) else f_Model_uplink_L23 S (fun a0 a1 a2 d => f_Model_uplink_L12 S n a0 a1 a2 d) ob_FU v0 v1 v2 (7 : Int32) D)
theorem v_Model_uplink_L12 {l : Launch} {E : ob_E} {S : ob_S} {r : Int32} {D' : ob_D} : ∀ (n : Nat), ∀ (v0 : Nat) (v1 : Int32) (v2 : Int32) (D : ob_D), S.1 v0 = 13 → f_Model_uplink_L12 S n v0 v1 v2 D = some (r, D') → ob_V l E k_Model_uplink 12 [(0, .ref v0), (1, .int v1), (2, .int v2)] [] S D (some (.int r)) S D' := by
  intro n
  induction n with
  | zero =>
    intro v0 v1 v2 D hp_v0 h
    have h : none = some (r, D') := h
    cases h
  | succ n ih =>
    intro v0 v1 v2 D hp_v0 h
    rw [f_Model_uplink_L12] at h
    refine ob_iload d_Model_uplink_12 rfl ?_
    refine ob_aload d_Model_uplink_13 rfl ?_
    refine ob_getI d_Model_uplink_14 F_12_7 l_Model_471 hp_v0 ?_
    refine ob_icmp_ge d_Model_uplink_17 (fun hc => ?_) (fun hc => ?_)
    · replace h := ob_ift hc h
      refine ob_aload d_Model_uplink_61 rfl ?_
      refine ob_push d_Model_uplink_62 ?_
      replace h := ob_lt_e h
      refine ob_putI d_Model_uplink_63 F_12_7 l_Model_471 hp_v0 ?_
      refine ob_aload d_Model_uplink_66 rfl ?_
      refine ob_getI d_Model_uplink_67 F_12_17 l_Model_251 hp_v0 ?_
      refine ob_iload d_Model_uplink_70 rfl ?_
      refine ob_isub d_Model_uplink_71 ?_
      exact ob_ie h (ob_iret d_Model_uplink_72 rfl rfl)
    · replace h := ob_iff hc h
      refine ob_push d_Model_uplink_20 ?_
      refine ob_istore (lo2 := [(0, .ref v0), (1, .int v1), (2, .int v2), (3, .int (7 : Int32))]) d_Model_uplink_22 rfl ?_
      exact v_Model_uplink_L23 ih ob_FU v0 v1 v2 (7 : Int32) D hp_v0 h
def f_Model_uplink (S : ob_S) (v0 : Nat) (D : ob_D) : Option (Int32 × ob_D) :=
  ob_lt (ob_pI D v0 5 (0 : Int32)) fun D1 => f_Model_uplink_L12 S ob_FU v0 (D1.1 v0 17) (0 : Int32) D1
theorem c_Model_uplink {l : Launch} {E : ob_E} {S : ob_S} {D : ob_D} {v0 : Nat} {r : Int32} {D' : ob_D} (hp_v0 : S.1 v0 = 13) (h : f_Model_uplink S v0 D = some (r, D')) : ob_M l E k_Model_uplink [.ref v0] S D (some (.int r)) S D' := by
  refine ob_ofV (lo := [(0, .ref v0)]) (by decide) rfl (Nat.le_of_ble_eq_true rfl) rfl (Nat.le_refl _) (Nat.le_refl _) ?_
  rw [f_Model_uplink] at h
  refine ob_aload d_Model_uplink_0 rfl ?_
  refine ob_push d_Model_uplink_1 ?_
  replace h := ob_lt_e h
  refine ob_putI d_Model_uplink_2 F_12_5 l_Model_468 hp_v0 ?_
  refine ob_aload d_Model_uplink_5 rfl ?_
  refine ob_getI d_Model_uplink_6 F_12_17 l_Model_251 hp_v0 ?_
  refine ob_istore (lo2 := [(0, .ref v0), (1, .int ((ob_pI D v0 5 (0 : Int32)).1 v0 17))]) d_Model_uplink_9 rfl ?_
  refine ob_push d_Model_uplink_10 ?_
  refine ob_istore (lo2 := [(0, .ref v0), (1, .int ((ob_pI D v0 5 (0 : Int32)).1 v0 17)), (2, .int (0 : Int32))]) d_Model_uplink_11 rfl ?_
  exact v_Model_uplink_L12 ob_FU v0 ((ob_pI D v0 5 (0 : Int32)).1 v0 17) (0 : Int32) (ob_pI D v0 5 (0 : Int32)) hp_v0 h
-- OrbitBoxModel.sense(II)Z
theorem d_Model_sense_1 : ob_dk k_Model_sense 1 2 (0 : Int32) (.iconst 0) 1 := ⟨by decide +kernel, rfl, show Int32.ofInt 0 = (0 : Int32) by decide +kernel⟩
theorem d_Model_sense_15 : ob_dk k_Model_sense 15 16 (0 : Int32) (.iconst 0) 1 := ⟨by decide +kernel, rfl, show Int32.ofInt 0 = (0 : Int32) by decide +kernel⟩
theorem d_Model_sense_16 : ob_dc k_Model_sense 16 (.ireturn) 1 17 := ⟨by decide +kernel, rfl⟩
theorem d_Model_sense_10 : ob_dk k_Model_sense 10 12 (7 : Int32) (.bipush 7) 2 := ⟨by decide +kernel, rfl, show (Int8.ofInt 7).toInt32 = (7 : Int32) by decide +kernel⟩
theorem d_Model_sense_24 : ob_dk k_Model_sense 24 25 (1 : Int32) (.iconst 1) 1 := ⟨by decide +kernel, rfl, show Int32.ofInt 1 = (1 : Int32) by decide +kernel⟩
theorem d_Model_sense_25 : ob_dc k_Model_sense 25 (.ireturn) 1 26 := ⟨by decide +kernel, rfl⟩
theorem d_Model_sense_23 : ob_dc k_Model_sense 23 (.iastore) 1 24 := ⟨by decide +kernel, rfl⟩
theorem d_Model_sense_22 : ob_dv ob_lc k_Model_sense 22 23 2 (.iload_n 2) 1 := ⟨by decide +kernel, rfl, rfl⟩
theorem d_Model_sense_21 : ob_dv ob_lc k_Model_sense 21 22 1 (.iload_n 1) 1 := ⟨by decide +kernel, rfl, rfl⟩
theorem d_Model_sense_18 : ob_dc k_Model_sense 18 (.getfield 55) 3 21 := ⟨by decide +kernel, rfl⟩
theorem d_Model_sense_17 : ob_dv ob_ac k_Model_sense 17 18 0 (.aload_n 0) 1 := ⟨by decide +kernel, rfl, rfl⟩
theorem d_Model_sense_12 : ob_db k_Model_sense 12 (.if_icmp .le 5) 5 15 17 := ⟨by decide +kernel, rfl, by decide⟩
theorem d_Model_sense_9 : ob_dv ob_lc k_Model_sense 9 10 1 (.iload_n 1) 1 := ⟨by decide +kernel, rfl, rfl⟩
theorem d_Model_sense_6 : ob_db k_Model_sense 6 (.ifCond .lt 9) 9 9 15 := ⟨by decide +kernel, rfl, by decide⟩
theorem d_Model_sense_5 : ob_dv ob_lc k_Model_sense 5 6 1 (.iload_n 1) 1 := ⟨by decide +kernel, rfl, rfl⟩
theorem d_Model_sense_2 : ob_dc k_Model_sense 2 (.putfield 468) 3 5 := ⟨by decide +kernel, rfl⟩
theorem d_Model_sense_0 : ob_dv ob_ac k_Model_sense 0 1 0 (.aload_n 0) 1 := ⟨by decide +kernel, rfl, rfl⟩
def f_Model_sense (S : ob_S) (v0 : Nat) (v1 : Int32) (v2 : Int32) (D : ob_D) : Option (Int32 × ob_D) :=
  ob_lt (ob_pI D v0 5 (0 : Int32)) fun D1 => (if v1 < 0 then some ((0 : Int32), D1) else (if v1 ≤ (7 : Int32) then if D1.2.1 v0 38 ≠ 0 then if ob_in v1 (S.2.1 (D1.2.1 v0 38)) then ob_lt (ob_pI D1 (D1.2.1 v0 38) v1.toNatClampNeg v2) fun D5 => some ((1 : Int32), D5) else none else none else some ((0 : Int32), D1)))
theorem c_Model_sense {l : Launch} {E : ob_E} {S : ob_S} {D : ob_D} {v0 : Nat} {v1 : Int32} {v2 : Int32} {r : Int32} {D' : ob_D} (hp_v0 : S.1 v0 = 13) (h : f_Model_sense S v0 v1 v2 D = some (r, D')) : ob_M l E k_Model_sense [.ref v0, .int v1, .int v2] S D (some (.int r)) S D' := by
  refine ob_ofV (lo := [(0, .ref v0), (1, .int v1), (2, .int v2)]) (by decide) rfl (Nat.le_of_ble_eq_true rfl) rfl (Nat.le_refl _) (Nat.le_refl _) ?_
  rw [f_Model_sense] at h
  refine ob_aload d_Model_sense_0 rfl ?_
  refine ob_push d_Model_sense_1 ?_
  replace h := ob_lt_e h
  refine ob_putI d_Model_sense_2 F_12_5 l_Model_468 hp_v0 ?_
  refine ob_iload d_Model_sense_5 rfl ?_
  refine ob_if_lt d_Model_sense_6 (fun hc => ?_) (fun hc => ?_)
  · replace h := ob_ift hc h
    refine ob_push d_Model_sense_15 ?_
    exact ob_ie h (ob_iret d_Model_sense_16 rfl rfl)
  · replace h := ob_iff hc h
    refine ob_iload d_Model_sense_9 rfl ?_
    refine ob_push d_Model_sense_10 ?_
    refine ob_icmp_le d_Model_sense_12 (fun hc => ?_) (fun hc => ?_)
    · replace h := ob_ift hc h
      refine ob_aload d_Model_sense_17 rfl ?_
      obtain ⟨hg3, h⟩ := ob_gd h
      refine ob_getR d_Model_sense_18 F_12_38 l_Model_55 hp_v0 hg3 (fun hk2 => ?_)
      refine ob_iload d_Model_sense_21 rfl ?_
      refine ob_iload d_Model_sense_22 rfl ?_
      obtain ⟨hg4, h⟩ := ob_gd h
      replace h := ob_lt_e h
      refine ob_iast d_Model_sense_23 hk2 hg4 ?_
      refine ob_push d_Model_sense_24 ?_
      exact ob_ie h (ob_iret d_Model_sense_25 rfl rfl)
    · replace h := ob_iff hc h
      refine ob_push d_Model_sense_15 ?_
      exact ob_ie h (ob_iret d_Model_sense_16 rfl rfl)
-- OrbitBoxModel.due(I)I
theorem d_Model_due_0 : ob_dk k_Model_due 0 1 (0 : Int32) (.iconst 0) 1 := ⟨by decide +kernel, rfl, show Int32.ofInt 0 = (0 : Int32) by decide +kernel⟩
theorem d_Model_due_84 : ob_dk k_Model_due 84 85 (-1 : Int32) (.iconst (-1)) 1 := ⟨by decide +kernel, rfl, show Int32.ofInt (-1) = (-1 : Int32) by decide +kernel⟩
theorem d_Model_due_85 : ob_dc k_Model_due 85 (.ireturn) 1 86 := ⟨by decide +kernel, rfl⟩
theorem d_Model_due_10 : ob_dk k_Model_due 10 11 (0 : Int32) (.iconst 0) 1 := ⟨by decide +kernel, rfl, show Int32.ofInt 0 = (0 : Int32) by decide +kernel⟩
theorem d_Model_due_12 : ob_dk k_Model_due 12 13 (0 : Int32) (.iconst 0) 1 := ⟨by decide +kernel, rfl, show Int32.ofInt 0 = (0 : Int32) by decide +kernel⟩
theorem d_Model_due_78 : ob_di k_Model_due 78 81 2 1 (1 : Int32) := ⟨by decide +kernel, rfl, by decide +kernel, by decide +kernel⟩
theorem d_Model_due_81 : ob_db k_Model_due 81 (.goto (-79)) (-79) 84 2 := ⟨by decide +kernel, rfl, by decide⟩
theorem d_Model_due_77 : ob_dc k_Model_due 77 (.ireturn) 1 78 := ⟨by decide +kernel, rfl⟩
theorem d_Model_due_76 : ob_dv ob_lc k_Model_due 76 77 2 (.iload_n 2) 1 := ⟨by decide +kernel, rfl, rfl⟩
theorem d_Model_due_73 : ob_db k_Model_due 73 (.if_icmp .ne 5) 5 76 78 := ⟨by decide +kernel, rfl, by decide⟩
theorem d_Model_due_72 : ob_dv ob_lc k_Model_due 72 73 1 (.iload_n 1) 1 := ⟨by decide +kernel, rfl, rfl⟩
theorem d_Model_due_71 : ob_dv ob_lc k_Model_due 71 72 3 (.iload_n 3) 1 := ⟨by decide +kernel, rfl, rfl⟩
theorem d_Model_due_62 : ob_di k_Model_due 62 65 3 1 (1 : Int32) := ⟨by decide +kernel, rfl, by decide +kernel, by decide +kernel⟩
theorem d_Model_due_65 : ob_di k_Model_due 65 68 4 1 (1 : Int32) := ⟨by decide +kernel, rfl, by decide +kernel, by decide +kernel⟩
theorem d_Model_due_68 : ob_db k_Model_due 68 (.goto (-53)) (-53) 71 15 := ⟨by decide +kernel, rfl, by decide⟩
theorem d_Model_due_59 : ob_db k_Model_due 59 (.if_icmp .ge 6) 6 62 65 := ⟨by decide +kernel, rfl, by decide⟩
theorem d_Model_due_58 : ob_dv ob_lc k_Model_due 58 59 2 (.iload_n 2) 1 := ⟨by decide +kernel, rfl, rfl⟩
theorem d_Model_due_56 : ob_dv ob_lc k_Model_due 56 58 4 (.iload 4) 2 := ⟨by decide +kernel, rfl, rfl⟩
theorem d_Model_due_53 : ob_db k_Model_due 53 (.if_icmp .ne 12) 12 56 65 := ⟨by decide +kernel, rfl, by decide⟩
theorem d_Model_due_52 : ob_dc k_Model_due 52 (.iaload) 1 53 := ⟨by decide +kernel, rfl⟩
theorem d_Model_due_51 : ob_dv ob_lc k_Model_due 51 52 2 (.iload_n 2) 1 := ⟨by decide +kernel, rfl, rfl⟩
theorem d_Model_due_48 : ob_dc k_Model_due 48 (.getfield 64) 3 51 := ⟨by decide +kernel, rfl⟩
theorem d_Model_due_47 : ob_dv ob_ac k_Model_due 47 48 0 (.aload_n 0) 1 := ⟨by decide +kernel, rfl, rfl⟩
theorem d_Model_due_46 : ob_dc k_Model_due 46 (.iaload) 1 47 := ⟨by decide +kernel, rfl⟩
theorem d_Model_due_44 : ob_dv ob_lc k_Model_due 44 46 4 (.iload 4) 2 := ⟨by decide +kernel, rfl, rfl⟩
theorem d_Model_due_41 : ob_dc k_Model_due 41 (.getfield 64) 3 44 := ⟨by decide +kernel, rfl⟩
theorem d_Model_due_40 : ob_dv ob_ac k_Model_due 40 41 0 (.aload_n 0) 1 := ⟨by decide +kernel, rfl, rfl⟩
theorem d_Model_due_37 : ob_db k_Model_due 37 (.if_icmp .lt 25) 25 40 62 := ⟨by decide +kernel, rfl, by decide⟩
theorem d_Model_due_36 : ob_dc k_Model_due 36 (.iaload) 1 37 := ⟨by decide +kernel, rfl⟩
theorem d_Model_due_35 : ob_dv ob_lc k_Model_due 35 36 2 (.iload_n 2) 1 := ⟨by decide +kernel, rfl, rfl⟩
theorem d_Model_due_32 : ob_dc k_Model_due 32 (.getfield 64) 3 35 := ⟨by decide +kernel, rfl⟩
theorem d_Model_due_31 : ob_dv ob_ac k_Model_due 31 32 0 (.aload_n 0) 1 := ⟨by decide +kernel, rfl, rfl⟩
theorem d_Model_due_30 : ob_dc k_Model_due 30 (.iaload) 1 31 := ⟨by decide +kernel, rfl⟩
theorem d_Model_due_28 : ob_dv ob_lc k_Model_due 28 30 4 (.iload 4) 2 := ⟨by decide +kernel, rfl, rfl⟩
theorem d_Model_due_25 : ob_dc k_Model_due 25 (.getfield 64) 3 28 := ⟨by decide +kernel, rfl⟩
theorem d_Model_due_24 : ob_dv ob_ac k_Model_due 24 25 0 (.aload_n 0) 1 := ⟨by decide +kernel, rfl, rfl⟩
theorem d_Model_due_21 : ob_db k_Model_due 21 (.if_icmp .ge 50) 50 24 71 := ⟨by decide +kernel, rfl, by decide⟩
theorem d_Model_due_18 : ob_dc k_Model_due 18 (.getfield 369) 3 21 := ⟨by decide +kernel, rfl⟩
theorem d_Model_due_17 : ob_dv ob_ac k_Model_due 17 18 0 (.aload_n 0) 1 := ⟨by decide +kernel, rfl, rfl⟩
theorem d_Model_due_15 : ob_dv ob_lc k_Model_due 15 17 4 (.iload 4) 2 := ⟨by decide +kernel, rfl, rfl⟩
theorem d_Model_due_13 : ob_dv (ob_sc k_Model_due.2.2.2.1) k_Model_due 13 15 4 (.istore 4) 2 := ⟨by decide +kernel, rfl, ⟨rfl, by decide +kernel⟩⟩
theorem d_Model_due_11 : ob_dv (ob_sc k_Model_due.2.2.2.1) k_Model_due 11 12 3 (.istore_n 3) 1 := ⟨by decide +kernel, rfl, ⟨rfl, by decide +kernel⟩⟩
theorem d_Model_due_7 : ob_db k_Model_due 7 (.if_icmp .ge 77) 77 10 84 := ⟨by decide +kernel, rfl, by decide⟩
theorem d_Model_due_4 : ob_dc k_Model_due 4 (.getfield 369) 3 7 := ⟨by decide +kernel, rfl⟩
theorem d_Model_due_3 : ob_dv ob_ac k_Model_due 3 4 0 (.aload_n 0) 1 := ⟨by decide +kernel, rfl, rfl⟩
theorem d_Model_due_2 : ob_dv ob_lc k_Model_due 2 3 2 (.iload_n 2) 1 := ⟨by decide +kernel, rfl, rfl⟩
theorem d_Model_due_1 : ob_dv (ob_sc k_Model_due.2.2.2.1) k_Model_due 1 2 2 (.istore_n 2) 1 := ⟨by decide +kernel, rfl, ⟨rfl, by decide +kernel⟩⟩
def f_Model_due_L15 (S : ob_S) (k2 : Nat → Int32 → Int32 → ob_D → Option (Int32 × ob_D)) : Nat → Nat → Int32 → Int32 → Int32 → Int32 → ob_D → Option (Int32 × ob_D)
  | 0, _, _, _, _, _, _ => none
  | n + 1, v0, v1, v2, v3, v4, D => (if (D.1 v0 45) ≤ v4 then (if v3 = v1 then some (v2, D) else k2 v0 v1 (v2 + (1 : Int32)) D) else if D.2.1 v0 42 ≠ 0 then if ob_in v4 (S.2.1 (D.2.1 v0 42)) then if D.2.1 v0 42 ≠ 0 then if ob_in v2 (S.2.1 (D.2.1 v0 42)) then (if (D.1 (D.2.1 v0 42) v4.toNatClampNeg) < (D.1 (D.2.1 v0 42) v2.toNatClampNeg) then f_Model_due_L15 S k2 n v0 v1 v2 (v3 + (1 : Int32)) (v4 + (1 : Int32)) D else if D.2.1 v0 42 ≠ 0 then if ob_in v4 (S.2.1 (D.2.1 v0 42)) then if D.2.1 v0 42 ≠ 0 then if ob_in v2 (S.2.1 (D.2.1 v0 42)) then (if (D.1 (D.2.1 v0 42) v4.toNatClampNeg) = (D.1 (D.2.1 v0 42) v2.toNatClampNeg) then (if v2 ≤ v4 then f_Model_due_L15 S k2 n v0 v1 v2 v3 (v4 + (1 : Int32)) D else f_Model_due_L15 S k2 n v0 v1 v2 (v3 + (1 : Int32)) (v4 + (1 : Int32)) D) else f_Model_due_L15 S k2 n v0 v1 v2 v3 (v4 + (1 : Int32)) D) else none else none else none else none) else none else none else none else none)
theorem v_Model_due_L15 {l : Launch} {E : ob_E} {S : ob_S} {r : Int32} {D' : ob_D} {k2 : Nat → Int32 → Int32 → ob_D → Option (Int32 × ob_D)} (hk2 : ∀ (v0 : Nat) (v1 : Int32) (v2 : Int32) (D : ob_D), S.1 v0 = 13 → k2 v0 v1 v2 D = some (r, D') → ob_V l E k_Model_due 2 [(0, .ref v0), (1, .int v1), (2, .int v2)] [] S D (some (.int r)) S D') : ∀ (n : Nat), ∀ (v0 : Nat) (v1 : Int32) (v2 : Int32) (v3 : Int32) (v4 : Int32) (D : ob_D), S.1 v0 = 13 → f_Model_due_L15 S k2 n v0 v1 v2 v3 v4 D = some (r, D') → ob_V l E k_Model_due 15 [(0, .ref v0), (1, .int v1), (2, .int v2), (3, .int v3), (4, .int v4)] [] S D (some (.int r)) S D' := by
  intro n
  induction n with
  | zero =>
    intro v0 v1 v2 v3 v4 D hp_v0 h
    have h : none = some (r, D') := h
    cases h
  | succ n ih =>
    intro v0 v1 v2 v3 v4 D hp_v0 h
    rw [f_Model_due_L15] at h
    refine ob_iload d_Model_due_15 rfl ?_
    refine ob_aload d_Model_due_17 rfl ?_
    refine ob_getI d_Model_due_18 F_12_45 l_Model_369 hp_v0 ?_
    refine ob_icmp_ge d_Model_due_21 (fun hc => ?_) (fun hc => ?_)
    · replace h := ob_ift hc h
      refine ob_iload d_Model_due_71 rfl ?_
      refine ob_iload d_Model_due_72 rfl ?_
      refine ob_icmp_ne d_Model_due_73 (fun hc => ?_) (fun hc => ?_)
      · replace h := ob_iff hc h
        refine ob_iinc (lo2 := [(0, .ref v0), (1, .int v1), (2, .int (v2 + (1 : Int32))), (3, .int v3), (4, .int v4)]) d_Model_due_78 rfl rfl ?_
        refine ob_goto d_Model_due_81 ?_
        refine ob_sub (lo2 := [(0, .ref v0), (1, .int v1), (2, .int (v2 + (1 : Int32)))]) [0, 1, 2] rfl ?_
        exact hk2 v0 v1 (v2 + (1 : Int32)) D hp_v0 h
      · replace h := ob_ift hc h
        refine ob_iload d_Model_due_76 rfl ?_
        exact ob_ie h (ob_iret d_Model_due_77 rfl rfl)
    · replace h := ob_iff hc h
      refine ob_aload d_Model_due_24 rfl ?_
      obtain ⟨hg2, h⟩ := ob_gd h
      refine ob_getR d_Model_due_25 F_12_42 l_Model_64 hp_v0 hg2 (fun hk1 => ?_)
      refine ob_iload d_Model_due_28 rfl ?_
      obtain ⟨hg3, h⟩ := ob_gd h
      refine ob_iald d_Model_due_30 hk1 hg3 ?_
      refine ob_aload d_Model_due_31 rfl ?_
      obtain ⟨hg5, h⟩ := ob_gd h
      refine ob_getR d_Model_due_32 F_12_42 l_Model_64 hp_v0 hg5 (fun hk4 => ?_)
      refine ob_iload d_Model_due_35 rfl ?_
      obtain ⟨hg6, h⟩ := ob_gd h
      refine ob_iald d_Model_due_36 hk4 hg6 ?_
      refine ob_icmp_lt d_Model_due_37 (fun hc => ?_) (fun hc => ?_)
      · replace h := ob_ift hc h
        refine ob_iinc (lo2 := [(0, .ref v0), (1, .int v1), (2, .int v2), (3, .int (v3 + (1 : Int32))), (4, .int v4)]) d_Model_due_62 rfl rfl ?_
        refine ob_iinc (lo2 := [(0, .ref v0), (1, .int v1), (2, .int v2), (3, .int (v3 + (1 : Int32))), (4, .int (v4 + (1 : Int32)))]) d_Model_due_65 rfl rfl ?_
        refine ob_goto d_Model_due_68 ?_
        exact ih v0 v1 v2 (v3 + (1 : Int32)) (v4 + (1 : Int32)) D hp_v0 h
      · replace h := ob_iff hc h
        refine ob_aload d_Model_due_40 rfl ?_
        obtain ⟨hg8, h⟩ := ob_gd h
        refine ob_getR d_Model_due_41 F_12_42 l_Model_64 hp_v0 hg8 (fun hk7 => ?_)
        refine ob_iload d_Model_due_44 rfl ?_
        obtain ⟨hg9, h⟩ := ob_gd h
        refine ob_iald d_Model_due_46 hk7 hg9 ?_
        refine ob_aload d_Model_due_47 rfl ?_
        obtain ⟨hg11, h⟩ := ob_gd h
        refine ob_getR d_Model_due_48 F_12_42 l_Model_64 hp_v0 hg11 (fun hk10 => ?_)
        refine ob_iload d_Model_due_51 rfl ?_
        obtain ⟨hg12, h⟩ := ob_gd h
        refine ob_iald d_Model_due_52 hk10 hg12 ?_
        refine ob_icmp_ne d_Model_due_53 (fun hc => ?_) (fun hc => ?_)
        · replace h := ob_iff hc h
          refine ob_iinc (lo2 := [(0, .ref v0), (1, .int v1), (2, .int v2), (3, .int v3), (4, .int (v4 + (1 : Int32)))]) d_Model_due_65 rfl rfl ?_
          refine ob_goto d_Model_due_68 ?_
          exact ih v0 v1 v2 v3 (v4 + (1 : Int32)) D hp_v0 h
        · replace h := ob_ift hc h
          refine ob_iload d_Model_due_56 rfl ?_
          refine ob_iload d_Model_due_58 rfl ?_
          refine ob_icmp_ge d_Model_due_59 (fun hc => ?_) (fun hc => ?_)
          · replace h := ob_ift hc h
            refine ob_iinc (lo2 := [(0, .ref v0), (1, .int v1), (2, .int v2), (3, .int v3), (4, .int (v4 + (1 : Int32)))]) d_Model_due_65 rfl rfl ?_
            refine ob_goto d_Model_due_68 ?_
            exact ih v0 v1 v2 v3 (v4 + (1 : Int32)) D hp_v0 h
          · replace h := ob_iff hc h
            refine ob_iinc (lo2 := [(0, .ref v0), (1, .int v1), (2, .int v2), (3, .int (v3 + (1 : Int32))), (4, .int v4)]) d_Model_due_62 rfl rfl ?_
            refine ob_iinc (lo2 := [(0, .ref v0), (1, .int v1), (2, .int v2), (3, .int (v3 + (1 : Int32))), (4, .int (v4 + (1 : Int32)))]) d_Model_due_65 rfl rfl ?_
            refine ob_goto d_Model_due_68 ?_
            exact ih v0 v1 v2 (v3 + (1 : Int32)) (v4 + (1 : Int32)) D hp_v0 h
def f_Model_due_L2 (S : ob_S) : Nat → Nat → Int32 → Int32 → ob_D → Option (Int32 × ob_D)
  | 0, _, _, _, _ => none
  | n + 1, v0, v1, v2, D => (if (D.1 v0 45) ≤ v2 then some ((-1 : Int32), D) else f_Model_due_L15 S (fun a0 a1 a2 d => f_Model_due_L2 S n a0 a1 a2 d) ob_FU v0 v1 v2 (0 : Int32) (0 : Int32) D)
theorem v_Model_due_L2 {l : Launch} {E : ob_E} {S : ob_S} {r : Int32} {D' : ob_D} : ∀ (n : Nat), ∀ (v0 : Nat) (v1 : Int32) (v2 : Int32) (D : ob_D), S.1 v0 = 13 → f_Model_due_L2 S n v0 v1 v2 D = some (r, D') → ob_V l E k_Model_due 2 [(0, .ref v0), (1, .int v1), (2, .int v2)] [] S D (some (.int r)) S D' := by
  intro n
  induction n with
  | zero =>
    intro v0 v1 v2 D hp_v0 h
    have h : none = some (r, D') := h
    cases h
  | succ n ih =>
    intro v0 v1 v2 D hp_v0 h
    rw [f_Model_due_L2] at h
    refine ob_iload d_Model_due_2 rfl ?_
    refine ob_aload d_Model_due_3 rfl ?_
    refine ob_getI d_Model_due_4 F_12_45 l_Model_369 hp_v0 ?_
    refine ob_icmp_ge d_Model_due_7 (fun hc => ?_) (fun hc => ?_)
    · replace h := ob_ift hc h
      refine ob_push d_Model_due_84 ?_
      exact ob_ie h (ob_iret d_Model_due_85 rfl rfl)
    · replace h := ob_iff hc h
      refine ob_push d_Model_due_10 ?_
      refine ob_istore (lo2 := [(0, .ref v0), (1, .int v1), (2, .int v2), (3, .int (0 : Int32))]) d_Model_due_11 rfl ?_
      refine ob_push d_Model_due_12 ?_
      refine ob_istore (lo2 := [(0, .ref v0), (1, .int v1), (2, .int v2), (3, .int (0 : Int32)), (4, .int (0 : Int32))]) d_Model_due_13 rfl ?_
      exact v_Model_due_L15 ih ob_FU v0 v1 v2 (0 : Int32) (0 : Int32) D hp_v0 h
def f_Model_due (S : ob_S) (v0 : Nat) (v1 : Int32) (D : ob_D) : Option (Int32 × ob_D) :=
  f_Model_due_L2 S ob_FU v0 v1 (0 : Int32) D
theorem c_Model_due {l : Launch} {E : ob_E} {S : ob_S} {D : ob_D} {v0 : Nat} {v1 : Int32} {r : Int32} {D' : ob_D} (hp_v0 : S.1 v0 = 13) (h : f_Model_due S v0 v1 D = some (r, D')) : ob_M l E k_Model_due [.ref v0, .int v1] S D (some (.int r)) S D' := by
  refine ob_ofV (lo := [(0, .ref v0), (1, .int v1)]) (by decide) rfl (Nat.le_of_ble_eq_true rfl) rfl (Nat.le_refl _) (Nat.le_refl _) ?_
  rw [f_Model_due] at h
  refine ob_push d_Model_due_0 ?_
  refine ob_istore (lo2 := [(0, .ref v0), (1, .int v1), (2, .int (0 : Int32))]) d_Model_due_1 rfl ?_
  exact v_Model_due_L2 ob_FU v0 v1 (0 : Int32) D hp_v0 h
-- OrbitBoxModel.take([BII)V
theorem d_Model_take_0 : ob_dk k_Model_take 0 1 (0 : Int32) (.iconst 0) 1 := ⟨by decide +kernel, rfl, show Int32.ofInt 0 = (0 : Int32) by decide +kernel⟩
theorem d_Model_take_33 : ob_dc k_Model_take 33 (.return_) 1 34 := ⟨by decide +kernel, rfl⟩
theorem d_Model_take_30 : ob_dc k_Model_take 30 (.putfield 258) 3 33 := ⟨by decide +kernel, rfl⟩
theorem d_Model_take_29 : ob_dv ob_lc k_Model_take 29 30 3 (.iload_n 3) 1 := ⟨by decide +kernel, rfl, rfl⟩
theorem d_Model_take_28 : ob_dv ob_ac k_Model_take 28 29 0 (.aload_n 0) 1 := ⟨by decide +kernel, rfl, rfl⟩
theorem d_Model_take_22 : ob_di k_Model_take 22 25 4 1 (1 : Int32) := ⟨by decide +kernel, rfl, by decide +kernel, by decide +kernel⟩
theorem d_Model_take_25 : ob_db k_Model_take 25 (.goto (-22)) (-22) 28 3 := ⟨by decide +kernel, rfl, by decide⟩
theorem d_Model_take_21 : ob_dc k_Model_take 21 (.bastore) 1 22 := ⟨by decide +kernel, rfl⟩
theorem d_Model_take_20 : ob_dc k_Model_take 20 (.baload) 1 21 := ⟨by decide +kernel, rfl⟩
theorem d_Model_take_19 : ob_dc k_Model_take 19 (.iadd) 1 20 := ⟨by decide +kernel, rfl⟩
theorem d_Model_take_17 : ob_dv ob_lc k_Model_take 17 19 4 (.iload 4) 2 := ⟨by decide +kernel, rfl, rfl⟩
theorem d_Model_take_16 : ob_dv ob_lc k_Model_take 16 17 2 (.iload_n 2) 1 := ⟨by decide +kernel, rfl, rfl⟩
theorem d_Model_take_15 : ob_dv ob_ac k_Model_take 15 16 1 (.aload_n 1) 1 := ⟨by decide +kernel, rfl, rfl⟩
theorem d_Model_take_13 : ob_dv ob_lc k_Model_take 13 15 4 (.iload 4) 2 := ⟨by decide +kernel, rfl, rfl⟩
theorem d_Model_take_10 : ob_dc k_Model_take 10 (.getfield 34) 3 13 := ⟨by decide +kernel, rfl⟩
theorem d_Model_take_9 : ob_dv ob_ac k_Model_take 9 10 0 (.aload_n 0) 1 := ⟨by decide +kernel, rfl, rfl⟩
theorem d_Model_take_6 : ob_db k_Model_take 6 (.if_icmp .ge 22) 22 9 28 := ⟨by decide +kernel, rfl, by decide⟩
theorem d_Model_take_5 : ob_dv ob_lc k_Model_take 5 6 3 (.iload_n 3) 1 := ⟨by decide +kernel, rfl, rfl⟩
theorem d_Model_take_3 : ob_dv ob_lc k_Model_take 3 5 4 (.iload 4) 2 := ⟨by decide +kernel, rfl, rfl⟩
theorem d_Model_take_1 : ob_dv (ob_sc k_Model_take.2.2.2.1) k_Model_take 1 3 4 (.istore 4) 2 := ⟨by decide +kernel, rfl, ⟨rfl, by decide +kernel⟩⟩
def f_Model_take_L3 (S : ob_S) : Nat → Nat → Nat → Int32 → Int32 → Int32 → ob_D → Option (ob_D)
  | 0, _, _, _, _, _, _ => none
  | n + 1, v0, v1, v2, v3, v4, D => (if v3 ≤ v4 then ob_lt (ob_pI D v0 28 v3) fun D1 => some D1 else if D.2.1 v0 27 ≠ 0 then if ob_in (v2 + v4) (S.2.1 v1) then if ob_in v4 (S.2.1 (D.2.1 v0 27)) then ob_lt (ob_pI D (D.2.1 v0 27) v4.toNatClampNeg ((D.1 v1 (v2 + v4).toNatClampNeg).toInt8.toInt32)) fun D6 => f_Model_take_L3 S n v0 v1 v2 v3 (v4 + (1 : Int32)) D6 else none else none else none)
theorem v_Model_take_L3 {l : Launch} {E : ob_E} {S : ob_S} {D' : ob_D} : ∀ (n : Nat), ∀ (v0 : Nat) (v1 : Nat) (v2 : Int32) (v3 : Int32) (v4 : Int32) (D : ob_D), S.1 v0 = 13 → S.1 v1 = 21 → f_Model_take_L3 S n v0 v1 v2 v3 v4 D = some D' → ob_V l E k_Model_take 3 [(0, .ref v0), (1, .ref v1), (2, .int v2), (3, .int v3), (4, .int v4)] [] S D none S D' := by
  intro n
  induction n with
  | zero =>
    intro v0 v1 v2 v3 v4 D hp_v0 hp_v1 h
    have h : none = some D' := h
    cases h
  | succ n ih =>
    intro v0 v1 v2 v3 v4 D hp_v0 hp_v1 h
    rw [f_Model_take_L3] at h
    refine ob_iload d_Model_take_3 rfl ?_
    refine ob_iload d_Model_take_5 rfl ?_
    refine ob_icmp_ge d_Model_take_6 (fun hc => ?_) (fun hc => ?_)
    · replace h := ob_ift hc h
      refine ob_aload d_Model_take_28 rfl ?_
      refine ob_iload d_Model_take_29 rfl ?_
      replace h := ob_lt_e h
      refine ob_putI d_Model_take_30 F_12_28 l_Model_258 hp_v0 ?_
      exact ob_ve h (ob_vret d_Model_take_33 rfl)
    · replace h := ob_iff hc h
      refine ob_aload d_Model_take_9 rfl ?_
      obtain ⟨hg3, h⟩ := ob_gd h
      refine ob_getR d_Model_take_10 F_12_27 l_Model_34 hp_v0 hg3 (fun hk2 => ?_)
      refine ob_iload d_Model_take_13 rfl ?_
      refine ob_aload d_Model_take_15 rfl ?_
      refine ob_iload d_Model_take_16 rfl ?_
      refine ob_iload d_Model_take_17 rfl ?_
      refine ob_iadd d_Model_take_19 ?_
      obtain ⟨hg4, h⟩ := ob_gd h
      refine ob_bald d_Model_take_20 hp_v1 hg4 ?_
      obtain ⟨hg5, h⟩ := ob_gd h
      replace h := ob_lt_e h
      refine ob_bast d_Model_take_21 hk2 hg5 ?_
      refine ob_iinc (lo2 := [(0, .ref v0), (1, .ref v1), (2, .int v2), (3, .int v3), (4, .int (v4 + (1 : Int32)))]) d_Model_take_22 rfl rfl ?_
      refine ob_goto d_Model_take_25 ?_
      exact ih v0 v1 v2 v3 (v4 + (1 : Int32)) (ob_pI D (D.2.1 v0 27) v4.toNatClampNeg ((D.1 v1 (v2 + v4).toNatClampNeg).toInt8.toInt32)) hp_v0 hp_v1 h
def f_Model_take (S : ob_S) (v0 : Nat) (v1 : Nat) (v2 : Int32) (v3 : Int32) (D : ob_D) : Option (ob_D) :=
  f_Model_take_L3 S ob_FU v0 v1 v2 v3 (0 : Int32) D
theorem c_Model_take {l : Launch} {E : ob_E} {S : ob_S} {D : ob_D} {v0 : Nat} {v1 : Nat} {v2 : Int32} {v3 : Int32} {D' : ob_D} (hp_v0 : S.1 v0 = 13) (hp_v1 : S.1 v1 = 21) (h : f_Model_take S v0 v1 v2 v3 D = some D') : ob_M l E k_Model_take [.ref v0, .ref v1, .int v2, .int v3] S D none S D' := by
  refine ob_ofV (lo := [(0, .ref v0), (1, .ref v1), (2, .int v2), (3, .int v3)]) (by decide) rfl (Nat.le_of_ble_eq_true rfl) rfl (Nat.le_refl _) (Nat.le_refl _) ?_
  rw [f_Model_take] at h
  refine ob_push d_Model_take_0 ?_
  refine ob_istore (lo2 := [(0, .ref v0), (1, .ref v1), (2, .int v2), (3, .int v3), (4, .int (0 : Int32))]) d_Model_take_1 rfl ?_
  exact v_Model_take_L3 ob_FU v0 v1 v2 v3 (0 : Int32) D hp_v0 hp_v1 h
-- OrbitBoxModel.dropEntry(I)V
theorem d_Model_dropEntry_5 : ob_dk k_Model_dropEntry 5 6 (1 : Int32) (.iconst 1) 1 := ⟨by decide +kernel, rfl, show Int32.ofInt 1 = (1 : Int32) by decide +kernel⟩
theorem d_Model_dropEntry_98 : ob_dc k_Model_dropEntry 98 (.return_) 1 99 := ⟨by decide +kernel, rfl⟩
theorem d_Model_dropEntry_30 : ob_dk k_Model_dropEntry 30 31 (1 : Int32) (.iconst 1) 1 := ⟨by decide +kernel, rfl, show Int32.ofInt 1 = (1 : Int32) by decide +kernel⟩
theorem d_Model_dropEntry_44 : ob_dk k_Model_dropEntry 44 45 (1 : Int32) (.iconst 1) 1 := ⟨by decide +kernel, rfl, show Int32.ofInt 1 = (1 : Int32) by decide +kernel⟩
theorem d_Model_dropEntry_48 : ob_dk k_Model_dropEntry 48 49 (0 : Int32) (.iconst 0) 1 := ⟨by decide +kernel, rfl, show Int32.ofInt 0 = (0 : Int32) by decide +kernel⟩
theorem d_Model_dropEntry_92 : ob_di k_Model_dropEntry 92 95 2 1 (1 : Int32) := ⟨by decide +kernel, rfl, by decide +kernel, by decide +kernel⟩
theorem d_Model_dropEntry_95 : ob_db k_Model_dropEntry 95 (.goto (-83)) (-83) 98 12 := ⟨by decide +kernel, rfl, by decide⟩
theorem d_Model_dropEntry_64 : ob_dk k_Model_dropEntry 64 67 (260 : Int32) (.sipush 260) 3 := ⟨by decide +kernel, rfl, show (Int16.ofInt 260).toInt32 = (260 : Int32) by decide +kernel⟩
theorem d_Model_dropEntry_75 : ob_dk k_Model_dropEntry 75 78 (260 : Int32) (.sipush 260) 3 := ⟨by decide +kernel, rfl, show (Int16.ofInt 260).toInt32 = (260 : Int32) by decide +kernel⟩
theorem d_Model_dropEntry_79 : ob_dk k_Model_dropEntry 79 80 (1 : Int32) (.iconst 1) 1 := ⟨by decide +kernel, rfl, show Int32.ofInt 1 = (1 : Int32) by decide +kernel⟩
theorem d_Model_dropEntry_86 : ob_di k_Model_dropEntry 86 89 3 1 (1 : Int32) := ⟨by decide +kernel, rfl, by decide +kernel, by decide +kernel⟩
theorem d_Model_dropEntry_89 : ob_db k_Model_dropEntry 89 (.goto (-39)) (-39) 92 50 := ⟨by decide +kernel, rfl, by decide⟩
theorem d_Model_dropEntry_85 : ob_dc k_Model_dropEntry 85 (.bastore) 1 86 := ⟨by decide +kernel, rfl⟩
theorem d_Model_dropEntry_84 : ob_dc k_Model_dropEntry 84 (.baload) 1 85 := ⟨by decide +kernel, rfl⟩
theorem d_Model_dropEntry_83 : ob_dc k_Model_dropEntry 83 (.iadd) 1 84 := ⟨by decide +kernel, rfl⟩
theorem d_Model_dropEntry_82 : ob_dv ob_lc k_Model_dropEntry 82 83 3 (.iload_n 3) 1 := ⟨by decide +kernel, rfl, rfl⟩
theorem d_Model_dropEntry_81 : ob_dc k_Model_dropEntry 81 (.imul) 1 82 := ⟨by decide +kernel, rfl⟩
theorem d_Model_dropEntry_80 : ob_dc k_Model_dropEntry 80 (.iadd) 1 81 := ⟨by decide +kernel, rfl⟩
theorem d_Model_dropEntry_78 : ob_dv ob_lc k_Model_dropEntry 78 79 2 (.iload_n 2) 1 := ⟨by decide +kernel, rfl, rfl⟩
theorem d_Model_dropEntry_72 : ob_dc k_Model_dropEntry 72 (.getfield 70) 3 75 := ⟨by decide +kernel, rfl⟩
theorem d_Model_dropEntry_71 : ob_dv ob_ac k_Model_dropEntry 71 72 0 (.aload_n 0) 1 := ⟨by decide +kernel, rfl, rfl⟩
theorem d_Model_dropEntry_70 : ob_dc k_Model_dropEntry 70 (.iadd) 1 71 := ⟨by decide +kernel, rfl⟩
theorem d_Model_dropEntry_69 : ob_dv ob_lc k_Model_dropEntry 69 70 3 (.iload_n 3) 1 := ⟨by decide +kernel, rfl, rfl⟩
theorem d_Model_dropEntry_68 : ob_dc k_Model_dropEntry 68 (.imul) 1 69 := ⟨by decide +kernel, rfl⟩
theorem d_Model_dropEntry_67 : ob_dv ob_lc k_Model_dropEntry 67 68 2 (.iload_n 2) 1 := ⟨by decide +kernel, rfl, rfl⟩
theorem d_Model_dropEntry_61 : ob_dc k_Model_dropEntry 61 (.getfield 70) 3 64 := ⟨by decide +kernel, rfl⟩
theorem d_Model_dropEntry_60 : ob_dv ob_ac k_Model_dropEntry 60 61 0 (.aload_n 0) 1 := ⟨by decide +kernel, rfl, rfl⟩
theorem d_Model_dropEntry_57 : ob_db k_Model_dropEntry 57 (.if_icmp .ge 35) 35 60 92 := ⟨by decide +kernel, rfl, by decide⟩
theorem d_Model_dropEntry_56 : ob_dc k_Model_dropEntry 56 (.iaload) 1 57 := ⟨by decide +kernel, rfl⟩
theorem d_Model_dropEntry_55 : ob_dv ob_lc k_Model_dropEntry 55 56 2 (.iload_n 2) 1 := ⟨by decide +kernel, rfl, rfl⟩
theorem d_Model_dropEntry_52 : ob_dc k_Model_dropEntry 52 (.getfield 67) 3 55 := ⟨by decide +kernel, rfl⟩
theorem d_Model_dropEntry_51 : ob_dv ob_ac k_Model_dropEntry 51 52 0 (.aload_n 0) 1 := ⟨by decide +kernel, rfl, rfl⟩
theorem d_Model_dropEntry_50 : ob_dv ob_lc k_Model_dropEntry 50 51 3 (.iload_n 3) 1 := ⟨by decide +kernel, rfl, rfl⟩
theorem d_Model_dropEntry_49 : ob_dv (ob_sc k_Model_dropEntry.2.2.2.1) k_Model_dropEntry 49 50 3 (.istore_n 3) 1 := ⟨by decide +kernel, rfl, ⟨rfl, by decide +kernel⟩⟩
theorem d_Model_dropEntry_47 : ob_dc k_Model_dropEntry 47 (.iastore) 1 48 := ⟨by decide +kernel, rfl⟩
theorem d_Model_dropEntry_46 : ob_dc k_Model_dropEntry 46 (.iaload) 1 47 := ⟨by decide +kernel, rfl⟩
theorem d_Model_dropEntry_45 : ob_dc k_Model_dropEntry 45 (.iadd) 1 46 := ⟨by decide +kernel, rfl⟩
theorem d_Model_dropEntry_43 : ob_dv ob_lc k_Model_dropEntry 43 44 2 (.iload_n 2) 1 := ⟨by decide +kernel, rfl, rfl⟩
theorem d_Model_dropEntry_40 : ob_dc k_Model_dropEntry 40 (.getfield 67) 3 43 := ⟨by decide +kernel, rfl⟩
theorem d_Model_dropEntry_39 : ob_dv ob_ac k_Model_dropEntry 39 40 0 (.aload_n 0) 1 := ⟨by decide +kernel, rfl, rfl⟩
theorem d_Model_dropEntry_38 : ob_dv ob_lc k_Model_dropEntry 38 39 2 (.iload_n 2) 1 := ⟨by decide +kernel, rfl, rfl⟩
theorem d_Model_dropEntry_35 : ob_dc k_Model_dropEntry 35 (.getfield 67) 3 38 := ⟨by decide +kernel, rfl⟩
theorem d_Model_dropEntry_34 : ob_dv ob_ac k_Model_dropEntry 34 35 0 (.aload_n 0) 1 := ⟨by decide +kernel, rfl, rfl⟩
theorem d_Model_dropEntry_33 : ob_dc k_Model_dropEntry 33 (.iastore) 1 34 := ⟨by decide +kernel, rfl⟩
theorem d_Model_dropEntry_32 : ob_dc k_Model_dropEntry 32 (.iaload) 1 33 := ⟨by decide +kernel, rfl⟩
theorem d_Model_dropEntry_31 : ob_dc k_Model_dropEntry 31 (.iadd) 1 32 := ⟨by decide +kernel, rfl⟩
theorem d_Model_dropEntry_29 : ob_dv ob_lc k_Model_dropEntry 29 30 2 (.iload_n 2) 1 := ⟨by decide +kernel, rfl, rfl⟩
theorem d_Model_dropEntry_26 : ob_dc k_Model_dropEntry 26 (.getfield 64) 3 29 := ⟨by decide +kernel, rfl⟩
theorem d_Model_dropEntry_25 : ob_dv ob_ac k_Model_dropEntry 25 26 0 (.aload_n 0) 1 := ⟨by decide +kernel, rfl, rfl⟩
theorem d_Model_dropEntry_24 : ob_dv ob_lc k_Model_dropEntry 24 25 2 (.iload_n 2) 1 := ⟨by decide +kernel, rfl, rfl⟩
theorem d_Model_dropEntry_21 : ob_dc k_Model_dropEntry 21 (.getfield 64) 3 24 := ⟨by decide +kernel, rfl⟩
theorem d_Model_dropEntry_20 : ob_dv ob_ac k_Model_dropEntry 20 21 0 (.aload_n 0) 1 := ⟨by decide +kernel, rfl, rfl⟩
theorem d_Model_dropEntry_17 : ob_db k_Model_dropEntry 17 (.if_icmp .ge 81) 81 20 98 := ⟨by decide +kernel, rfl, by decide⟩
theorem d_Model_dropEntry_14 : ob_dc k_Model_dropEntry 14 (.getfield 369) 3 17 := ⟨by decide +kernel, rfl⟩
theorem d_Model_dropEntry_13 : ob_dv ob_ac k_Model_dropEntry 13 14 0 (.aload_n 0) 1 := ⟨by decide +kernel, rfl, rfl⟩
theorem d_Model_dropEntry_12 : ob_dv ob_lc k_Model_dropEntry 12 13 2 (.iload_n 2) 1 := ⟨by decide +kernel, rfl, rfl⟩
theorem d_Model_dropEntry_11 : ob_dv (ob_sc k_Model_dropEntry.2.2.2.1) k_Model_dropEntry 11 12 2 (.istore_n 2) 1 := ⟨by decide +kernel, rfl, ⟨rfl, by decide +kernel⟩⟩
theorem d_Model_dropEntry_10 : ob_dv ob_lc k_Model_dropEntry 10 11 1 (.iload_n 1) 1 := ⟨by decide +kernel, rfl, rfl⟩
theorem d_Model_dropEntry_7 : ob_dc k_Model_dropEntry 7 (.putfield 369) 3 10 := ⟨by decide +kernel, rfl⟩
theorem d_Model_dropEntry_6 : ob_dc k_Model_dropEntry 6 (.isub) 1 7 := ⟨by decide +kernel, rfl⟩
theorem d_Model_dropEntry_2 : ob_dc k_Model_dropEntry 2 (.getfield 369) 3 5 := ⟨by decide +kernel, rfl⟩
theorem d_Model_dropEntry_1 : ob_dc k_Model_dropEntry 1 (.dup) 1 2 := ⟨by decide +kernel, rfl⟩
theorem d_Model_dropEntry_0 : ob_dv ob_ac k_Model_dropEntry 0 1 0 (.aload_n 0) 1 := ⟨by decide +kernel, rfl, rfl⟩
def f_Model_dropEntry_L50 (S : ob_S) (k12 : Nat → Int32 → ob_D → Option (ob_D)) : Nat → Nat → Int32 → Int32 → ob_D → Option (ob_D)
  | 0, _, _, _, _ => none
  | n + 1, v0, v2, v3, D => if D.2.1 v0 43 ≠ 0 then if ob_in v2 (S.2.1 (D.2.1 v0 43)) then (if (D.1 (D.2.1 v0 43) v2.toNatClampNeg) ≤ v3 then k12 v0 (v2 + (1 : Int32)) D else if D.2.1 v0 44 ≠ 0 then if D.2.1 v0 44 ≠ 0 then if ob_in (((260 : Int32) * (v2 + (1 : Int32))) + v3) (S.2.1 (D.2.1 v0 44)) then if ob_in (((260 : Int32) * v2) + v3) (S.2.1 (D.2.1 v0 44)) then ob_lt (ob_pI D (D.2.1 v0 44) (((260 : Int32) * v2) + v3).toNatClampNeg ((D.1 (D.2.1 v0 44) (((260 : Int32) * (v2 + (1 : Int32))) + v3).toNatClampNeg).toInt8.toInt32)) fun D25 => f_Model_dropEntry_L50 S k12 n v0 v2 (v3 + (1 : Int32)) D25 else none else none else none else none) else none else none
theorem v_Model_dropEntry_L50 {l : Launch} {E : ob_E} {S : ob_S} {D' : ob_D} {k12 : Nat → Int32 → ob_D → Option (ob_D)} (hk12 : ∀ (v0 : Nat) (v2 : Int32) (D : ob_D), S.1 v0 = 13 → k12 v0 v2 D = some D' → ob_V l E k_Model_dropEntry 12 [(0, .ref v0), (2, .int v2)] [] S D none S D') : ∀ (n : Nat), ∀ (v0 : Nat) (v2 : Int32) (v3 : Int32) (D : ob_D), S.1 v0 = 13 → f_Model_dropEntry_L50 S k12 n v0 v2 v3 D = some D' → ob_V l E k_Model_dropEntry 50 [(0, .ref v0), (2, .int v2), (3, .int v3)] [] S D none S D' := by
  intro n
  induction n with
  | zero =>
    intro v0 v2 v3 D hp_v0 h
    have h : none = some D' := h
    cases h
  | succ n ih =>
    intro v0 v2 v3 D hp_v0 h
    rw [f_Model_dropEntry_L50] at h
    refine ob_iload d_Model_dropEntry_50 rfl ?_
    refine ob_aload d_Model_dropEntry_51 rfl ?_
    obtain ⟨hg17, h⟩ := ob_gd h
    refine ob_getR d_Model_dropEntry_52 F_12_43 l_Model_67 hp_v0 hg17 (fun hk16 => ?_)
    refine ob_iload d_Model_dropEntry_55 rfl ?_
    obtain ⟨hg18, h⟩ := ob_gd h
    refine ob_iald d_Model_dropEntry_56 hk16 hg18 ?_
    refine ob_icmp_ge d_Model_dropEntry_57 (fun hc => ?_) (fun hc => ?_)
    · replace h := ob_ift hc h
      refine ob_iinc (lo2 := [(0, .ref v0), (2, .int (v2 + (1 : Int32))), (3, .int v3)]) d_Model_dropEntry_92 rfl rfl ?_
      refine ob_goto d_Model_dropEntry_95 ?_
      refine ob_sub (lo2 := [(0, .ref v0), (2, .int (v2 + (1 : Int32)))]) [0, 1] rfl ?_
      exact hk12 v0 (v2 + (1 : Int32)) D hp_v0 h
    · replace h := ob_iff hc h
      refine ob_aload d_Model_dropEntry_60 rfl ?_
      obtain ⟨hg20, h⟩ := ob_gd h
      refine ob_getR d_Model_dropEntry_61 F_12_44 l_Model_70 hp_v0 hg20 (fun hk19 => ?_)
      refine ob_push d_Model_dropEntry_64 ?_
      refine ob_iload d_Model_dropEntry_67 rfl ?_
      refine ob_imul d_Model_dropEntry_68 ?_
      refine ob_iload d_Model_dropEntry_69 rfl ?_
      refine ob_iadd d_Model_dropEntry_70 ?_
      refine ob_aload d_Model_dropEntry_71 rfl ?_
      obtain ⟨hg22, h⟩ := ob_gd h
      refine ob_getR d_Model_dropEntry_72 F_12_44 l_Model_70 hp_v0 hg22 (fun hk21 => ?_)
      refine ob_push d_Model_dropEntry_75 ?_
      refine ob_iload d_Model_dropEntry_78 rfl ?_
      refine ob_push d_Model_dropEntry_79 ?_
      refine ob_iadd d_Model_dropEntry_80 ?_
      refine ob_imul d_Model_dropEntry_81 ?_
      refine ob_iload d_Model_dropEntry_82 rfl ?_
      refine ob_iadd d_Model_dropEntry_83 ?_
      obtain ⟨hg23, h⟩ := ob_gd h
      refine ob_bald d_Model_dropEntry_84 hk21 hg23 ?_
      obtain ⟨hg24, h⟩ := ob_gd h
      replace h := ob_lt_e h
      refine ob_bast d_Model_dropEntry_85 hk19 hg24 ?_
      refine ob_iinc (lo2 := [(0, .ref v0), (2, .int v2), (3, .int (v3 + (1 : Int32)))]) d_Model_dropEntry_86 rfl rfl ?_
      refine ob_goto d_Model_dropEntry_89 ?_
      exact ih v0 v2 (v3 + (1 : Int32)) (ob_pI D (D.2.1 v0 44) (((260 : Int32) * v2) + v3).toNatClampNeg ((D.1 (D.2.1 v0 44) (((260 : Int32) * (v2 + (1 : Int32))) + v3).toNatClampNeg).toInt8.toInt32)) hp_v0 h
def f_Model_dropEntry_L12 (S : ob_S) : Nat → Nat → Int32 → ob_D → Option (ob_D)
  | 0, _, _, _ => none
  | n + 1, v0, v2, D => (if (D.1 v0 45) ≤ v2 then some D else if D.2.1 v0 42 ≠ 0 then if D.2.1 v0 42 ≠ 0 then if ob_in (v2 + (1 : Int32)) (S.2.1 (D.2.1 v0 42)) then if ob_in v2 (S.2.1 (D.2.1 v0 42)) then ob_lt (ob_pI D (D.2.1 v0 42) v2.toNatClampNeg (D.1 (D.2.1 v0 42) (v2 + (1 : Int32)).toNatClampNeg)) fun D8 => if D8.2.1 v0 43 ≠ 0 then if D8.2.1 v0 43 ≠ 0 then if ob_in (v2 + (1 : Int32)) (S.2.1 (D8.2.1 v0 43)) then if ob_in v2 (S.2.1 (D8.2.1 v0 43)) then ob_lt (ob_pI D8 (D8.2.1 v0 43) v2.toNatClampNeg (D8.1 (D8.2.1 v0 43) (v2 + (1 : Int32)).toNatClampNeg)) fun D15 => f_Model_dropEntry_L50 S (fun a0 a1 d => f_Model_dropEntry_L12 S n a0 a1 d) ob_FU v0 v2 (0 : Int32) D15 else none else none else none else none else none else none else none else none)
theorem v_Model_dropEntry_L12 {l : Launch} {E : ob_E} {S : ob_S} {D' : ob_D} : ∀ (n : Nat), ∀ (v0 : Nat) (v2 : Int32) (D : ob_D), S.1 v0 = 13 → f_Model_dropEntry_L12 S n v0 v2 D = some D' → ob_V l E k_Model_dropEntry 12 [(0, .ref v0), (2, .int v2)] [] S D none S D' := by
  intro n
  induction n with
  | zero =>
    intro v0 v2 D hp_v0 h
    have h : none = some D' := h
    cases h
  | succ n ih =>
    intro v0 v2 D hp_v0 h
    rw [f_Model_dropEntry_L12] at h
    refine ob_iload d_Model_dropEntry_12 rfl ?_
    refine ob_aload d_Model_dropEntry_13 rfl ?_
    refine ob_getI d_Model_dropEntry_14 F_12_45 l_Model_369 hp_v0 ?_
    refine ob_icmp_ge d_Model_dropEntry_17 (fun hc => ?_) (fun hc => ?_)
    · replace h := ob_ift hc h
      exact ob_ve h (ob_vret d_Model_dropEntry_98 rfl)
    · replace h := ob_iff hc h
      refine ob_aload d_Model_dropEntry_20 rfl ?_
      obtain ⟨hg3, h⟩ := ob_gd h
      refine ob_getR d_Model_dropEntry_21 F_12_42 l_Model_64 hp_v0 hg3 (fun hk2 => ?_)
      refine ob_iload d_Model_dropEntry_24 rfl ?_
      refine ob_aload d_Model_dropEntry_25 rfl ?_
      obtain ⟨hg5, h⟩ := ob_gd h
      refine ob_getR d_Model_dropEntry_26 F_12_42 l_Model_64 hp_v0 hg5 (fun hk4 => ?_)
      refine ob_iload d_Model_dropEntry_29 rfl ?_
      refine ob_push d_Model_dropEntry_30 ?_
      refine ob_iadd d_Model_dropEntry_31 ?_
      obtain ⟨hg6, h⟩ := ob_gd h
      refine ob_iald d_Model_dropEntry_32 hk4 hg6 ?_
      obtain ⟨hg7, h⟩ := ob_gd h
      replace h := ob_lt_e h
      refine ob_iast d_Model_dropEntry_33 hk2 hg7 ?_
      refine ob_aload d_Model_dropEntry_34 rfl ?_
      obtain ⟨hg10, h⟩ := ob_gd h
      refine ob_getR d_Model_dropEntry_35 F_12_43 l_Model_67 hp_v0 hg10 (fun hk9 => ?_)
      refine ob_iload d_Model_dropEntry_38 rfl ?_
      refine ob_aload d_Model_dropEntry_39 rfl ?_
      obtain ⟨hg12, h⟩ := ob_gd h
      refine ob_getR d_Model_dropEntry_40 F_12_43 l_Model_67 hp_v0 hg12 (fun hk11 => ?_)
      refine ob_iload d_Model_dropEntry_43 rfl ?_
      refine ob_push d_Model_dropEntry_44 ?_
      refine ob_iadd d_Model_dropEntry_45 ?_
      obtain ⟨hg13, h⟩ := ob_gd h
      refine ob_iald d_Model_dropEntry_46 hk11 hg13 ?_
      obtain ⟨hg14, h⟩ := ob_gd h
      replace h := ob_lt_e h
      refine ob_iast d_Model_dropEntry_47 hk9 hg14 ?_
      refine ob_push d_Model_dropEntry_48 ?_
      refine ob_istore (lo2 := [(0, .ref v0), (2, .int v2), (3, .int (0 : Int32))]) d_Model_dropEntry_49 rfl ?_
      exact v_Model_dropEntry_L50 ih ob_FU v0 v2 (0 : Int32) (ob_pI (ob_pI D (D.2.1 v0 42) v2.toNatClampNeg (D.1 (D.2.1 v0 42) (v2 + (1 : Int32)).toNatClampNeg)) ((ob_pI D (D.2.1 v0 42) v2.toNatClampNeg (D.1 (D.2.1 v0 42) (v2 + (1 : Int32)).toNatClampNeg)).2.1 v0 43) v2.toNatClampNeg ((ob_pI D (D.2.1 v0 42) v2.toNatClampNeg (D.1 (D.2.1 v0 42) (v2 + (1 : Int32)).toNatClampNeg)).1 ((ob_pI D (D.2.1 v0 42) v2.toNatClampNeg (D.1 (D.2.1 v0 42) (v2 + (1 : Int32)).toNatClampNeg)).2.1 v0 43) (v2 + (1 : Int32)).toNatClampNeg)) hp_v0 h
def f_Model_dropEntry (S : ob_S) (v0 : Nat) (v1 : Int32) (D : ob_D) : Option (ob_D) :=
  ob_lt (ob_pI D v0 45 ((D.1 v0 45) - (1 : Int32))) fun D1 => f_Model_dropEntry_L12 S ob_FU v0 v1 D1
theorem c_Model_dropEntry {l : Launch} {E : ob_E} {S : ob_S} {D : ob_D} {v0 : Nat} {v1 : Int32} {D' : ob_D} (hp_v0 : S.1 v0 = 13) (h : f_Model_dropEntry S v0 v1 D = some D') : ob_M l E k_Model_dropEntry [.ref v0, .int v1] S D none S D' := by
  refine ob_ofV (lo := [(0, .ref v0), (1, .int v1)]) (by decide) rfl (Nat.le_of_ble_eq_true rfl) rfl (Nat.le_refl _) (Nat.le_refl _) ?_
  rw [f_Model_dropEntry] at h
  refine ob_aload d_Model_dropEntry_0 rfl ?_
  refine ob_dup d_Model_dropEntry_1 rfl ?_
  refine ob_getI d_Model_dropEntry_2 F_12_45 l_Model_369 hp_v0 ?_
  refine ob_push d_Model_dropEntry_5 ?_
  refine ob_isub d_Model_dropEntry_6 ?_
  replace h := ob_lt_e h
  refine ob_putI d_Model_dropEntry_7 F_12_45 l_Model_369 hp_v0 ?_
  refine ob_iload d_Model_dropEntry_10 rfl ?_
  refine ob_istore (lo2 := [(0, .ref v0), (1, .int v1), (2, .int v1)]) d_Model_dropEntry_11 rfl ?_
  refine ob_sub (lo2 := [(0, .ref v0), (2, .int v1)]) [0, 2] rfl ?_
  exact v_Model_dropEntry_L12 ob_FU v0 v1 (ob_pI D v0 45 ((D.1 v0 45) - (1 : Int32))) hp_v0 h
-- OrbitBoxModel.lengthFault(I[BII)I
theorem d_Model_lengthFault_1 : ob_dk k_Model_lengthFault 1 2 (2 : Int32) (.iconst 2) 1 := ⟨by decide +kernel, rfl, show Int32.ofInt 2 = (2 : Int32) by decide +kernel⟩
theorem d_Model_lengthFault_17 : ob_dk k_Model_lengthFault 17 18 (0 : Int32) (.iconst 0) 1 := ⟨by decide +kernel, rfl, show Int32.ofInt 0 = (0 : Int32) by decide +kernel⟩
theorem d_Model_lengthFault_21 : decode k_Model_lengthFault.2.2.1 21 = .ok (.lookupswitch 444 #[(769, 267), (771, 290), (773, 290), (774, 290), (795, 290), (1285, 290), (1286, 290), (1538, 267), (1541, 305), (1545, 320), (2049, 335), (2817, 351), (2818, 351), (2819, 351), (2820, 365), (2821, 381), (2831, 320), (2833, 351), (3073, 290), (3074, 290), (3077, 396), (3078, 290), (3841, 290), (3842, 290), (3849, 412), (3851, 320), (3852, 351), (4353, 351), (4865, 428), (4866, 290), (4868, 290), (4869, 290)], 267) := by decide +kernel
theorem d_Model_lengthFault_289 : ob_dk k_Model_lengthFault 289 290 (3 : Int32) (.iconst 3) 1 := ⟨by decide +kernel, rfl, show Int32.ofInt 3 = (3 : Int32) by decide +kernel⟩
theorem d_Model_lengthFault_305 : ob_dk k_Model_lengthFault 305 306 (0 : Int32) (.iconst 0) 1 := ⟨by decide +kernel, rfl, show Int32.ofInt 0 = (0 : Int32) by decide +kernel⟩
theorem d_Model_lengthFault_477 : ob_dk k_Model_lengthFault 477 479 (7 : Int32) (.bipush 7) 2 := ⟨by decide +kernel, rfl, show (Int8.ofInt 7).toInt32 = (7 : Int32) by decide +kernel⟩
theorem d_Model_lengthFault_479 : ob_dc k_Model_lengthFault 479 (.ireturn) 1 480 := ⟨by decide +kernel, rfl⟩
theorem d_Model_lengthFault_473 : ob_dk k_Model_lengthFault 473 474 (0 : Int32) (.iconst 0) 1 := ⟨by decide +kernel, rfl, show Int32.ofInt 0 = (0 : Int32) by decide +kernel⟩
theorem d_Model_lengthFault_474 : ob_db k_Model_lengthFault 474 (.goto 5) 5 477 479 := ⟨by decide +kernel, rfl, by decide⟩
theorem d_Model_lengthFault_470 : ob_db k_Model_lengthFault 470 (.ifCond .eq 7) 7 473 477 := ⟨by decide +kernel, rfl, by decide⟩
theorem d_Model_lengthFault_468 : ob_dv ob_lc k_Model_lengthFault 468 470 5 (.iload 5) 2 := ⟨by decide +kernel, rfl, rfl⟩
theorem d_Model_lengthFault_308 : ob_db k_Model_lengthFault 308 (.goto 160) 160 311 468 := ⟨by decide +kernel, rfl, by decide⟩
theorem d_Model_lengthFault_306 : ob_dv (ob_sc k_Model_lengthFault.2.2.2.1) k_Model_lengthFault 306 308 5 (.istore 5) 2 := ⟨by decide +kernel, rfl, ⟨rfl, by decide +kernel⟩⟩
theorem d_Model_lengthFault_294 : ob_dk k_Model_lengthFault 294 295 (3 : Int32) (.iconst 3) 1 := ⟨by decide +kernel, rfl, show Int32.ofInt 3 = (3 : Int32) by decide +kernel⟩
theorem d_Model_lengthFault_301 : ob_dk k_Model_lengthFault 301 302 (1 : Int32) (.iconst 1) 1 := ⟨by decide +kernel, rfl, show Int32.ofInt 1 = (1 : Int32) by decide +kernel⟩
theorem d_Model_lengthFault_302 : ob_db k_Model_lengthFault 302 (.goto 4) 4 305 306 := ⟨by decide +kernel, rfl, by decide⟩
theorem d_Model_lengthFault_298 : ob_db k_Model_lengthFault 298 (.if_icmp .ne 7) 7 301 305 := ⟨by decide +kernel, rfl, by decide⟩
theorem d_Model_lengthFault_297 : ob_dc k_Model_lengthFault 297 (.iadd) 1 298 := ⟨by decide +kernel, rfl⟩
theorem d_Model_lengthFault_295 : ob_dv ob_lc k_Model_lengthFault 295 297 4 (.iload 4) 2 := ⟨by decide +kernel, rfl, rfl⟩
theorem d_Model_lengthFault_293 : ob_dv ob_lc k_Model_lengthFault 293 294 3 (.iload_n 3) 1 := ⟨by decide +kernel, rfl, rfl⟩
theorem d_Model_lengthFault_290 : ob_db k_Model_lengthFault 290 (.if_icmp .lt 15) 15 293 305 := ⟨by decide +kernel, rfl, by decide⟩
theorem d_Model_lengthFault_288 : ob_dv ob_lc k_Model_lengthFault 288 289 3 (.iload_n 3) 1 := ⟨by decide +kernel, rfl, rfl⟩
theorem d_Model_lengthFault_312 : ob_dk k_Model_lengthFault 312 313 (1 : Int32) (.iconst 1) 1 := ⟨by decide +kernel, rfl, show Int32.ofInt 1 = (1 : Int32) by decide +kernel⟩
theorem d_Model_lengthFault_320 : ob_dk k_Model_lengthFault 320 321 (0 : Int32) (.iconst 0) 1 := ⟨by decide +kernel, rfl, show Int32.ofInt 0 = (0 : Int32) by decide +kernel⟩
theorem d_Model_lengthFault_323 : ob_db k_Model_lengthFault 323 (.goto 145) 145 326 468 := ⟨by decide +kernel, rfl, by decide⟩
theorem d_Model_lengthFault_321 : ob_dv (ob_sc k_Model_lengthFault.2.2.2.1) k_Model_lengthFault 321 323 5 (.istore 5) 2 := ⟨by decide +kernel, rfl, ⟨rfl, by decide +kernel⟩⟩
theorem d_Model_lengthFault_316 : ob_dk k_Model_lengthFault 316 317 (1 : Int32) (.iconst 1) 1 := ⟨by decide +kernel, rfl, show Int32.ofInt 1 = (1 : Int32) by decide +kernel⟩
theorem d_Model_lengthFault_317 : ob_db k_Model_lengthFault 317 (.goto 4) 4 320 321 := ⟨by decide +kernel, rfl, by decide⟩
theorem d_Model_lengthFault_313 : ob_db k_Model_lengthFault 313 (.if_icmp .ne 7) 7 316 320 := ⟨by decide +kernel, rfl, by decide⟩
theorem d_Model_lengthFault_311 : ob_dv ob_lc k_Model_lengthFault 311 312 3 (.iload_n 3) 1 := ⟨by decide +kernel, rfl, rfl⟩
theorem d_Model_lengthFault_327 : ob_dk k_Model_lengthFault 327 328 (3 : Int32) (.iconst 3) 1 := ⟨by decide +kernel, rfl, show Int32.ofInt 3 = (3 : Int32) by decide +kernel⟩
theorem d_Model_lengthFault_335 : ob_dk k_Model_lengthFault 335 336 (0 : Int32) (.iconst 0) 1 := ⟨by decide +kernel, rfl, show Int32.ofInt 0 = (0 : Int32) by decide +kernel⟩
theorem d_Model_lengthFault_338 : ob_db k_Model_lengthFault 338 (.goto 130) 130 341 468 := ⟨by decide +kernel, rfl, by decide⟩
theorem d_Model_lengthFault_336 : ob_dv (ob_sc k_Model_lengthFault.2.2.2.1) k_Model_lengthFault 336 338 5 (.istore 5) 2 := ⟨by decide +kernel, rfl, ⟨rfl, by decide +kernel⟩⟩
theorem d_Model_lengthFault_331 : ob_dk k_Model_lengthFault 331 332 (1 : Int32) (.iconst 1) 1 := ⟨by decide +kernel, rfl, show Int32.ofInt 1 = (1 : Int32) by decide +kernel⟩
theorem d_Model_lengthFault_332 : ob_db k_Model_lengthFault 332 (.goto 4) 4 335 336 := ⟨by decide +kernel, rfl, by decide⟩
theorem d_Model_lengthFault_328 : ob_db k_Model_lengthFault 328 (.if_icmp .ne 7) 7 331 335 := ⟨by decide +kernel, rfl, by decide⟩
theorem d_Model_lengthFault_326 : ob_dv ob_lc k_Model_lengthFault 326 327 3 (.iload_n 3) 1 := ⟨by decide +kernel, rfl, rfl⟩
theorem d_Model_lengthFault_342 : ob_dk k_Model_lengthFault 342 343 (4 : Int32) (.iconst 4) 1 := ⟨by decide +kernel, rfl, show Int32.ofInt 4 = (4 : Int32) by decide +kernel⟩
theorem d_Model_lengthFault_350 : ob_dk k_Model_lengthFault 350 351 (0 : Int32) (.iconst 0) 1 := ⟨by decide +kernel, rfl, show Int32.ofInt 0 = (0 : Int32) by decide +kernel⟩
theorem d_Model_lengthFault_353 : ob_db k_Model_lengthFault 353 (.goto 115) 115 356 468 := ⟨by decide +kernel, rfl, by decide⟩
theorem d_Model_lengthFault_351 : ob_dv (ob_sc k_Model_lengthFault.2.2.2.1) k_Model_lengthFault 351 353 5 (.istore 5) 2 := ⟨by decide +kernel, rfl, ⟨rfl, by decide +kernel⟩⟩
theorem d_Model_lengthFault_346 : ob_dk k_Model_lengthFault 346 347 (1 : Int32) (.iconst 1) 1 := ⟨by decide +kernel, rfl, show Int32.ofInt 1 = (1 : Int32) by decide +kernel⟩
theorem d_Model_lengthFault_347 : ob_db k_Model_lengthFault 347 (.goto 4) 4 350 351 := ⟨by decide +kernel, rfl, by decide⟩
theorem d_Model_lengthFault_343 : ob_db k_Model_lengthFault 343 (.if_icmp .ne 7) 7 346 350 := ⟨by decide +kernel, rfl, by decide⟩
theorem d_Model_lengthFault_341 : ob_dv ob_lc k_Model_lengthFault 341 342 3 (.iload_n 3) 1 := ⟨by decide +kernel, rfl, rfl⟩
theorem d_Model_lengthFault_357 : ob_dk k_Model_lengthFault 357 359 (6 : Int32) (.bipush 6) 2 := ⟨by decide +kernel, rfl, show (Int8.ofInt 6).toInt32 = (6 : Int32) by decide +kernel⟩
theorem d_Model_lengthFault_366 : ob_dk k_Model_lengthFault 366 367 (0 : Int32) (.iconst 0) 1 := ⟨by decide +kernel, rfl, show Int32.ofInt 0 = (0 : Int32) by decide +kernel⟩
theorem d_Model_lengthFault_369 : ob_db k_Model_lengthFault 369 (.goto 99) 99 372 468 := ⟨by decide +kernel, rfl, by decide⟩
theorem d_Model_lengthFault_367 : ob_dv (ob_sc k_Model_lengthFault.2.2.2.1) k_Model_lengthFault 367 369 5 (.istore 5) 2 := ⟨by decide +kernel, rfl, ⟨rfl, by decide +kernel⟩⟩
theorem d_Model_lengthFault_362 : ob_dk k_Model_lengthFault 362 363 (1 : Int32) (.iconst 1) 1 := ⟨by decide +kernel, rfl, show Int32.ofInt 1 = (1 : Int32) by decide +kernel⟩
theorem d_Model_lengthFault_363 : ob_db k_Model_lengthFault 363 (.goto 4) 4 366 367 := ⟨by decide +kernel, rfl, by decide⟩
theorem d_Model_lengthFault_359 : ob_db k_Model_lengthFault 359 (.if_icmp .ne 7) 7 362 366 := ⟨by decide +kernel, rfl, by decide⟩
theorem d_Model_lengthFault_356 : ob_dv ob_lc k_Model_lengthFault 356 357 3 (.iload_n 3) 1 := ⟨by decide +kernel, rfl, rfl⟩
theorem d_Model_lengthFault_380 : ob_dk k_Model_lengthFault 380 381 (0 : Int32) (.iconst 0) 1 := ⟨by decide +kernel, rfl, show Int32.ofInt 0 = (0 : Int32) by decide +kernel⟩
theorem d_Model_lengthFault_383 : ob_db k_Model_lengthFault 383 (.goto 85) 85 386 468 := ⟨by decide +kernel, rfl, by decide⟩
theorem d_Model_lengthFault_381 : ob_dv (ob_sc k_Model_lengthFault.2.2.2.1) k_Model_lengthFault 381 383 5 (.istore 5) 2 := ⟨by decide +kernel, rfl, ⟨rfl, by decide +kernel⟩⟩
theorem d_Model_lengthFault_376 : ob_dk k_Model_lengthFault 376 377 (1 : Int32) (.iconst 1) 1 := ⟨by decide +kernel, rfl, show Int32.ofInt 1 = (1 : Int32) by decide +kernel⟩
theorem d_Model_lengthFault_377 : ob_db k_Model_lengthFault 377 (.goto 4) 4 380 381 := ⟨by decide +kernel, rfl, by decide⟩
theorem d_Model_lengthFault_373 : ob_db k_Model_lengthFault 373 (.ifCond .ne 7) 7 376 380 := ⟨by decide +kernel, rfl, by decide⟩
theorem d_Model_lengthFault_372 : ob_dv ob_lc k_Model_lengthFault 372 373 3 (.iload_n 3) 1 := ⟨by decide +kernel, rfl, rfl⟩
theorem d_Model_lengthFault_387 : ob_dk k_Model_lengthFault 387 389 (17 : Int32) (.bipush 17) 2 := ⟨by decide +kernel, rfl, show (Int8.ofInt 17).toInt32 = (17 : Int32) by decide +kernel⟩
theorem d_Model_lengthFault_396 : ob_dk k_Model_lengthFault 396 397 (0 : Int32) (.iconst 0) 1 := ⟨by decide +kernel, rfl, show Int32.ofInt 0 = (0 : Int32) by decide +kernel⟩
theorem d_Model_lengthFault_399 : ob_db k_Model_lengthFault 399 (.goto 69) 69 402 468 := ⟨by decide +kernel, rfl, by decide⟩
theorem d_Model_lengthFault_397 : ob_dv (ob_sc k_Model_lengthFault.2.2.2.1) k_Model_lengthFault 397 399 5 (.istore 5) 2 := ⟨by decide +kernel, rfl, ⟨rfl, by decide +kernel⟩⟩
theorem d_Model_lengthFault_392 : ob_dk k_Model_lengthFault 392 393 (1 : Int32) (.iconst 1) 1 := ⟨by decide +kernel, rfl, show Int32.ofInt 1 = (1 : Int32) by decide +kernel⟩
theorem d_Model_lengthFault_393 : ob_db k_Model_lengthFault 393 (.goto 4) 4 396 397 := ⟨by decide +kernel, rfl, by decide⟩
theorem d_Model_lengthFault_389 : ob_db k_Model_lengthFault 389 (.if_icmp .lt 7) 7 392 396 := ⟨by decide +kernel, rfl, by decide⟩
theorem d_Model_lengthFault_386 : ob_dv ob_lc k_Model_lengthFault 386 387 3 (.iload_n 3) 1 := ⟨by decide +kernel, rfl, rfl⟩
theorem d_Model_lengthFault_403 : ob_dk k_Model_lengthFault 403 404 (2 : Int32) (.iconst 2) 1 := ⟨by decide +kernel, rfl, show Int32.ofInt 2 = (2 : Int32) by decide +kernel⟩
theorem d_Model_lengthFault_411 : ob_dk k_Model_lengthFault 411 412 (0 : Int32) (.iconst 0) 1 := ⟨by decide +kernel, rfl, show Int32.ofInt 0 = (0 : Int32) by decide +kernel⟩
theorem d_Model_lengthFault_414 : ob_db k_Model_lengthFault 414 (.goto 54) 54 417 468 := ⟨by decide +kernel, rfl, by decide⟩
theorem d_Model_lengthFault_412 : ob_dv (ob_sc k_Model_lengthFault.2.2.2.1) k_Model_lengthFault 412 414 5 (.istore 5) 2 := ⟨by decide +kernel, rfl, ⟨rfl, by decide +kernel⟩⟩
theorem d_Model_lengthFault_407 : ob_dk k_Model_lengthFault 407 408 (1 : Int32) (.iconst 1) 1 := ⟨by decide +kernel, rfl, show Int32.ofInt 1 = (1 : Int32) by decide +kernel⟩
theorem d_Model_lengthFault_408 : ob_db k_Model_lengthFault 408 (.goto 4) 4 411 412 := ⟨by decide +kernel, rfl, by decide⟩
theorem d_Model_lengthFault_404 : ob_db k_Model_lengthFault 404 (.if_icmp .ne 7) 7 407 411 := ⟨by decide +kernel, rfl, by decide⟩
theorem d_Model_lengthFault_402 : ob_dv ob_lc k_Model_lengthFault 402 403 3 (.iload_n 3) 1 := ⟨by decide +kernel, rfl, rfl⟩
theorem d_Model_lengthFault_418 : ob_dk k_Model_lengthFault 418 420 (13 : Int32) (.bipush 13) 2 := ⟨by decide +kernel, rfl, show (Int8.ofInt 13).toInt32 = (13 : Int32) by decide +kernel⟩
theorem d_Model_lengthFault_427 : ob_dk k_Model_lengthFault 427 428 (0 : Int32) (.iconst 0) 1 := ⟨by decide +kernel, rfl, show Int32.ofInt 0 = (0 : Int32) by decide +kernel⟩
theorem d_Model_lengthFault_430 : ob_db k_Model_lengthFault 430 (.goto 38) 38 433 468 := ⟨by decide +kernel, rfl, by decide⟩
theorem d_Model_lengthFault_428 : ob_dv (ob_sc k_Model_lengthFault.2.2.2.1) k_Model_lengthFault 428 430 5 (.istore 5) 2 := ⟨by decide +kernel, rfl, ⟨rfl, by decide +kernel⟩⟩
theorem d_Model_lengthFault_423 : ob_dk k_Model_lengthFault 423 424 (1 : Int32) (.iconst 1) 1 := ⟨by decide +kernel, rfl, show Int32.ofInt 1 = (1 : Int32) by decide +kernel⟩
theorem d_Model_lengthFault_424 : ob_db k_Model_lengthFault 424 (.goto 4) 4 427 428 := ⟨by decide +kernel, rfl, by decide⟩
theorem d_Model_lengthFault_420 : ob_db k_Model_lengthFault 420 (.if_icmp .ne 7) 7 423 427 := ⟨by decide +kernel, rfl, by decide⟩
theorem d_Model_lengthFault_417 : ob_dv ob_lc k_Model_lengthFault 417 418 3 (.iload_n 3) 1 := ⟨by decide +kernel, rfl, rfl⟩
theorem d_Model_lengthFault_434 : ob_dk k_Model_lengthFault 434 436 (8 : Int32) (.bipush 8) 2 := ⟨by decide +kernel, rfl, show (Int8.ofInt 8).toInt32 = (8 : Int32) by decide +kernel⟩
theorem d_Model_lengthFault_443 : ob_dk k_Model_lengthFault 443 444 (0 : Int32) (.iconst 0) 1 := ⟨by decide +kernel, rfl, show Int32.ofInt 0 = (0 : Int32) by decide +kernel⟩
theorem d_Model_lengthFault_446 : ob_db k_Model_lengthFault 446 (.goto 22) 22 449 468 := ⟨by decide +kernel, rfl, by decide⟩
theorem d_Model_lengthFault_444 : ob_dv (ob_sc k_Model_lengthFault.2.2.2.1) k_Model_lengthFault 444 446 5 (.istore 5) 2 := ⟨by decide +kernel, rfl, ⟨rfl, by decide +kernel⟩⟩
theorem d_Model_lengthFault_439 : ob_dk k_Model_lengthFault 439 440 (1 : Int32) (.iconst 1) 1 := ⟨by decide +kernel, rfl, show Int32.ofInt 1 = (1 : Int32) by decide +kernel⟩
theorem d_Model_lengthFault_440 : ob_db k_Model_lengthFault 440 (.goto 4) 4 443 444 := ⟨by decide +kernel, rfl, by decide⟩
theorem d_Model_lengthFault_436 : ob_db k_Model_lengthFault 436 (.if_icmp .ne 7) 7 439 443 := ⟨by decide +kernel, rfl, by decide⟩
theorem d_Model_lengthFault_433 : ob_dv ob_lc k_Model_lengthFault 433 434 3 (.iload_n 3) 1 := ⟨by decide +kernel, rfl, rfl⟩
theorem d_Model_lengthFault_450 : ob_dk k_Model_lengthFault 450 452 (14 : Int32) (.bipush 14) 2 := ⟨by decide +kernel, rfl, show (Int8.ofInt 14).toInt32 = (14 : Int32) by decide +kernel⟩
theorem d_Model_lengthFault_459 : ob_dk k_Model_lengthFault 459 460 (0 : Int32) (.iconst 0) 1 := ⟨by decide +kernel, rfl, show Int32.ofInt 0 = (0 : Int32) by decide +kernel⟩
theorem d_Model_lengthFault_462 : ob_db k_Model_lengthFault 462 (.goto 6) 6 465 468 := ⟨by decide +kernel, rfl, by decide⟩
theorem d_Model_lengthFault_460 : ob_dv (ob_sc k_Model_lengthFault.2.2.2.1) k_Model_lengthFault 460 462 5 (.istore 5) 2 := ⟨by decide +kernel, rfl, ⟨rfl, by decide +kernel⟩⟩
theorem d_Model_lengthFault_455 : ob_dk k_Model_lengthFault 455 456 (1 : Int32) (.iconst 1) 1 := ⟨by decide +kernel, rfl, show Int32.ofInt 1 = (1 : Int32) by decide +kernel⟩
theorem d_Model_lengthFault_456 : ob_db k_Model_lengthFault 456 (.goto 4) 4 459 460 := ⟨by decide +kernel, rfl, by decide⟩
theorem d_Model_lengthFault_452 : ob_db k_Model_lengthFault 452 (.if_icmp .lt 7) 7 455 459 := ⟨by decide +kernel, rfl, by decide⟩
theorem d_Model_lengthFault_449 : ob_dv ob_lc k_Model_lengthFault 449 450 3 (.iload_n 3) 1 := ⟨by decide +kernel, rfl, rfl⟩
theorem d_Model_lengthFault_465 : ob_dk k_Model_lengthFault 465 467 (6 : Int32) (.bipush 6) 2 := ⟨by decide +kernel, rfl, show (Int8.ofInt 6).toInt32 = (6 : Int32) by decide +kernel⟩
theorem d_Model_lengthFault_467 : ob_dc k_Model_lengthFault 467 (.ireturn) 1 468 := ⟨by decide +kernel, rfl⟩
theorem d_Model_lengthFault_20 : ob_dv ob_lc k_Model_lengthFault 20 21 0 (.iload_n 0) 1 := ⟨by decide +kernel, rfl, rfl⟩
theorem d_Model_lengthFault_18 : ob_dv (ob_sc k_Model_lengthFault.2.2.2.1) k_Model_lengthFault 18 20 4 (.istore 4) 2 := ⟨by decide +kernel, rfl, ⟨rfl, by decide +kernel⟩⟩
theorem d_Model_lengthFault_7 : ob_dk k_Model_lengthFault 7 8 (2 : Int32) (.iconst 2) 1 := ⟨by decide +kernel, rfl, show Int32.ofInt 2 = (2 : Int32) by decide +kernel⟩
theorem d_Model_lengthFault_10 : ob_dk k_Model_lengthFault 10 13 (255 : Int32) (.sipush 255) 3 := ⟨by decide +kernel, rfl, show (Int16.ofInt 255).toInt32 = (255 : Int32) by decide +kernel⟩
theorem d_Model_lengthFault_14 : ob_db k_Model_lengthFault 14 (.goto 4) 4 17 18 := ⟨by decide +kernel, rfl, by decide⟩
theorem d_Model_lengthFault_13 : ob_dc k_Model_lengthFault 13 (.iand) 1 14 := ⟨by decide +kernel, rfl⟩
theorem d_Model_lengthFault_9 : ob_dc k_Model_lengthFault 9 (.baload) 1 10 := ⟨by decide +kernel, rfl⟩
theorem d_Model_lengthFault_8 : ob_dc k_Model_lengthFault 8 (.iadd) 1 9 := ⟨by decide +kernel, rfl⟩
theorem d_Model_lengthFault_6 : ob_dv ob_lc k_Model_lengthFault 6 7 2 (.iload_n 2) 1 := ⟨by decide +kernel, rfl, rfl⟩
theorem d_Model_lengthFault_5 : ob_dv ob_ac k_Model_lengthFault 5 6 1 (.aload_n 1) 1 := ⟨by decide +kernel, rfl, rfl⟩
theorem d_Model_lengthFault_2 : ob_db k_Model_lengthFault 2 (.if_icmp .le 15) 15 5 17 := ⟨by decide +kernel, rfl, by decide⟩
theorem d_Model_lengthFault_0 : ob_dv ob_lc k_Model_lengthFault 0 1 3 (.iload_n 3) 1 := ⟨by decide +kernel, rfl, rfl⟩
def f_Model_lengthFault_L305 (S : ob_S)  (D : ob_D) : Option (Int32 × ob_D) :=
  (if (0 : Int32) = 0 then some ((7 : Int32), D) else some ((0 : Int32), D))
theorem v_Model_lengthFault_L305 {l : Launch} {E : ob_E} {S : ob_S} {r : Int32} {D' : ob_D} : ∀  (D : ob_D), f_Model_lengthFault_L305 S D = some (r, D') → ob_V l E k_Model_lengthFault 305 [] [] S D (some (.int r)) S D' := by
  intro D h
  rw [f_Model_lengthFault_L305] at h
  refine ob_push d_Model_lengthFault_305 ?_
  refine ob_istore (lo2 := [(5, .int (0 : Int32))]) d_Model_lengthFault_306 rfl ?_
  refine ob_goto d_Model_lengthFault_308 ?_
  refine ob_iload d_Model_lengthFault_468 rfl ?_
  refine ob_if_eq d_Model_lengthFault_470 (fun hc => ?_) (fun hc => ?_)
  · replace h := ob_ift hc h
    refine ob_push d_Model_lengthFault_477 ?_
    exact ob_ie h (ob_iret d_Model_lengthFault_479 rfl rfl)
  · replace h := ob_iff hc h
    refine ob_push d_Model_lengthFault_473 ?_
    refine ob_goto d_Model_lengthFault_474 ?_
    exact ob_ie h (ob_iret d_Model_lengthFault_479 rfl rfl)
def f_Model_lengthFault_L18 (S : ob_S) (v0 : Int32) (v3 : Int32) (s0 : Int32) (D : ob_D) : Option (Int32 × ob_D) :=
  (if v0 = (769 : Int32) then (if v3 < (3 : Int32) then f_Model_lengthFault_L305 S D else (if v3 = ((3 : Int32) + s0) then (if (1 : Int32) = 0 then some ((7 : Int32), D) else some ((0 : Int32), D)) else f_Model_lengthFault_L305 S D)) else if v0 = (771 : Int32) then (if v3 = (1 : Int32) then (if (1 : Int32) = 0 then some ((7 : Int32), D) else some ((0 : Int32), D)) else (if (0 : Int32) = 0 then some ((7 : Int32), D) else some ((0 : Int32), D))) else if v0 = (773 : Int32) then (if v3 = (1 : Int32) then (if (1 : Int32) = 0 then some ((7 : Int32), D) else some ((0 : Int32), D)) else (if (0 : Int32) = 0 then some ((7 : Int32), D) else some ((0 : Int32), D))) else if v0 = (774 : Int32) then (if v3 = (1 : Int32) then (if (1 : Int32) = 0 then some ((7 : Int32), D) else some ((0 : Int32), D)) else (if (0 : Int32) = 0 then some ((7 : Int32), D) else some ((0 : Int32), D))) else if v0 = (795 : Int32) then (if v3 = (1 : Int32) then (if (1 : Int32) = 0 then some ((7 : Int32), D) else some ((0 : Int32), D)) else (if (0 : Int32) = 0 then some ((7 : Int32), D) else some ((0 : Int32), D))) else if v0 = (1285 : Int32) then (if v3 = (1 : Int32) then (if (1 : Int32) = 0 then some ((7 : Int32), D) else some ((0 : Int32), D)) else (if (0 : Int32) = 0 then some ((7 : Int32), D) else some ((0 : Int32), D))) else if v0 = (1286 : Int32) then (if v3 = (1 : Int32) then (if (1 : Int32) = 0 then some ((7 : Int32), D) else some ((0 : Int32), D)) else (if (0 : Int32) = 0 then some ((7 : Int32), D) else some ((0 : Int32), D))) else if v0 = (1538 : Int32) then (if v3 < (3 : Int32) then f_Model_lengthFault_L305 S D else (if v3 = ((3 : Int32) + s0) then (if (1 : Int32) = 0 then some ((7 : Int32), D) else some ((0 : Int32), D)) else f_Model_lengthFault_L305 S D)) else if v0 = (1541 : Int32) then (if v3 = (3 : Int32) then (if (1 : Int32) = 0 then some ((7 : Int32), D) else some ((0 : Int32), D)) else (if (0 : Int32) = 0 then some ((7 : Int32), D) else some ((0 : Int32), D))) else if v0 = (1545 : Int32) then (if v3 = (4 : Int32) then (if (1 : Int32) = 0 then some ((7 : Int32), D) else some ((0 : Int32), D)) else (if (0 : Int32) = 0 then some ((7 : Int32), D) else some ((0 : Int32), D))) else if v0 = (2049 : Int32) then (if v3 = (6 : Int32) then (if (1 : Int32) = 0 then some ((7 : Int32), D) else some ((0 : Int32), D)) else (if (0 : Int32) = 0 then some ((7 : Int32), D) else some ((0 : Int32), D))) else if v0 = (2817 : Int32) then (if v3 = 0 then (if (1 : Int32) = 0 then some ((7 : Int32), D) else some ((0 : Int32), D)) else (if (0 : Int32) = 0 then some ((7 : Int32), D) else some ((0 : Int32), D))) else if v0 = (2818 : Int32) then (if v3 = 0 then (if (1 : Int32) = 0 then some ((7 : Int32), D) else some ((0 : Int32), D)) else (if (0 : Int32) = 0 then some ((7 : Int32), D) else some ((0 : Int32), D))) else if v0 = (2819 : Int32) then (if v3 = 0 then (if (1 : Int32) = 0 then some ((7 : Int32), D) else some ((0 : Int32), D)) else (if (0 : Int32) = 0 then some ((7 : Int32), D) else some ((0 : Int32), D))) else if v0 = (2820 : Int32) then (if v3 < (17 : Int32) then (if (0 : Int32) = 0 then some ((7 : Int32), D) else some ((0 : Int32), D)) else (if (1 : Int32) = 0 then some ((7 : Int32), D) else some ((0 : Int32), D))) else if v0 = (2821 : Int32) then (if v3 = (2 : Int32) then (if (1 : Int32) = 0 then some ((7 : Int32), D) else some ((0 : Int32), D)) else (if (0 : Int32) = 0 then some ((7 : Int32), D) else some ((0 : Int32), D))) else if v0 = (2831 : Int32) then (if v3 = (4 : Int32) then (if (1 : Int32) = 0 then some ((7 : Int32), D) else some ((0 : Int32), D)) else (if (0 : Int32) = 0 then some ((7 : Int32), D) else some ((0 : Int32), D))) else if v0 = (2833 : Int32) then (if v3 = 0 then (if (1 : Int32) = 0 then some ((7 : Int32), D) else some ((0 : Int32), D)) else (if (0 : Int32) = 0 then some ((7 : Int32), D) else some ((0 : Int32), D))) else if v0 = (3073 : Int32) then (if v3 = (1 : Int32) then (if (1 : Int32) = 0 then some ((7 : Int32), D) else some ((0 : Int32), D)) else (if (0 : Int32) = 0 then some ((7 : Int32), D) else some ((0 : Int32), D))) else if v0 = (3074 : Int32) then (if v3 = (1 : Int32) then (if (1 : Int32) = 0 then some ((7 : Int32), D) else some ((0 : Int32), D)) else (if (0 : Int32) = 0 then some ((7 : Int32), D) else some ((0 : Int32), D))) else if v0 = (3077 : Int32) then (if v3 = (13 : Int32) then (if (1 : Int32) = 0 then some ((7 : Int32), D) else some ((0 : Int32), D)) else (if (0 : Int32) = 0 then some ((7 : Int32), D) else some ((0 : Int32), D))) else if v0 = (3078 : Int32) then (if v3 = (1 : Int32) then (if (1 : Int32) = 0 then some ((7 : Int32), D) else some ((0 : Int32), D)) else (if (0 : Int32) = 0 then some ((7 : Int32), D) else some ((0 : Int32), D))) else if v0 = (3841 : Int32) then (if v3 = (1 : Int32) then (if (1 : Int32) = 0 then some ((7 : Int32), D) else some ((0 : Int32), D)) else (if (0 : Int32) = 0 then some ((7 : Int32), D) else some ((0 : Int32), D))) else if v0 = (3842 : Int32) then (if v3 = (1 : Int32) then (if (1 : Int32) = 0 then some ((7 : Int32), D) else some ((0 : Int32), D)) else (if (0 : Int32) = 0 then some ((7 : Int32), D) else some ((0 : Int32), D))) else if v0 = (3849 : Int32) then (if v3 = (8 : Int32) then (if (1 : Int32) = 0 then some ((7 : Int32), D) else some ((0 : Int32), D)) else (if (0 : Int32) = 0 then some ((7 : Int32), D) else some ((0 : Int32), D))) else if v0 = (3851 : Int32) then (if v3 = (4 : Int32) then (if (1 : Int32) = 0 then some ((7 : Int32), D) else some ((0 : Int32), D)) else (if (0 : Int32) = 0 then some ((7 : Int32), D) else some ((0 : Int32), D))) else if v0 = (3852 : Int32) then (if v3 = 0 then (if (1 : Int32) = 0 then some ((7 : Int32), D) else some ((0 : Int32), D)) else (if (0 : Int32) = 0 then some ((7 : Int32), D) else some ((0 : Int32), D))) else if v0 = (4353 : Int32) then (if v3 = 0 then (if (1 : Int32) = 0 then some ((7 : Int32), D) else some ((0 : Int32), D)) else (if (0 : Int32) = 0 then some ((7 : Int32), D) else some ((0 : Int32), D))) else if v0 = (4865 : Int32) then (if v3 < (14 : Int32) then (if (0 : Int32) = 0 then some ((7 : Int32), D) else some ((0 : Int32), D)) else (if (1 : Int32) = 0 then some ((7 : Int32), D) else some ((0 : Int32), D))) else if v0 = (4866 : Int32) then (if v3 = (1 : Int32) then (if (1 : Int32) = 0 then some ((7 : Int32), D) else some ((0 : Int32), D)) else (if (0 : Int32) = 0 then some ((7 : Int32), D) else some ((0 : Int32), D))) else if v0 = (4868 : Int32) then (if v3 = (1 : Int32) then (if (1 : Int32) = 0 then some ((7 : Int32), D) else some ((0 : Int32), D)) else (if (0 : Int32) = 0 then some ((7 : Int32), D) else some ((0 : Int32), D))) else if v0 = (4869 : Int32) then (if v3 = (1 : Int32) then (if (1 : Int32) = 0 then some ((7 : Int32), D) else some ((0 : Int32), D)) else (if (0 : Int32) = 0 then some ((7 : Int32), D) else some ((0 : Int32), D))) else some ((6 : Int32), D))
theorem v_Model_lengthFault_L18 {l : Launch} {E : ob_E} {S : ob_S} {r : Int32} {D' : ob_D} : ∀ (v0 : Int32) (v3 : Int32) (s0 : Int32) (D : ob_D), f_Model_lengthFault_L18 S v0 v3 s0 D = some (r, D') → ob_V l E k_Model_lengthFault 18 [(0, .int v0), (3, .int v3)] [.int s0] S D (some (.int r)) S D' := by
  intro v0 v3 s0 D h
  rw [f_Model_lengthFault_L18] at h
  refine ob_istore (lo2 := [(0, .int v0), (3, .int v3), (4, .int s0)]) d_Model_lengthFault_18 rfl ?_
  refine ob_iload d_Model_lengthFault_20 rfl ?_
  by_cases hs1 : v0 = (769 : Int32)
  · replace h := ob_ift hs1 h
    refine ob_lku (off := 267) (t := 288) d_Model_lengthFault_21 (by decide +kernel) (by rw [hs1]; decide +kernel) (by decide) ?_
    refine ob_iload d_Model_lengthFault_288 rfl ?_
    refine ob_push d_Model_lengthFault_289 ?_
    refine ob_icmp_lt d_Model_lengthFault_290 (fun hc => ?_) (fun hc => ?_)
    · replace h := ob_ift hc h
      refine ob_sub (lo2 := []) [] rfl ?_
      exact v_Model_lengthFault_L305 D  h
    · replace h := ob_iff hc h
      refine ob_iload d_Model_lengthFault_293 rfl ?_
      refine ob_push d_Model_lengthFault_294 ?_
      refine ob_iload d_Model_lengthFault_295 rfl ?_
      refine ob_iadd d_Model_lengthFault_297 ?_
      refine ob_icmp_ne d_Model_lengthFault_298 (fun hc => ?_) (fun hc => ?_)
      · replace h := ob_iff hc h
        refine ob_sub (lo2 := []) [] rfl ?_
        exact v_Model_lengthFault_L305 D  h
      · replace h := ob_ift hc h
        refine ob_push d_Model_lengthFault_301 ?_
        refine ob_goto d_Model_lengthFault_302 ?_
        refine ob_istore (lo2 := [(0, .int v0), (3, .int v3), (4, .int s0), (5, .int (1 : Int32))]) d_Model_lengthFault_306 rfl ?_
        refine ob_goto d_Model_lengthFault_308 ?_
        refine ob_iload d_Model_lengthFault_468 rfl ?_
        refine ob_if_eq d_Model_lengthFault_470 (fun hc => ?_) (fun hc => ?_)
        · replace h := ob_ift hc h
          refine ob_push d_Model_lengthFault_477 ?_
          exact ob_ie h (ob_iret d_Model_lengthFault_479 rfl rfl)
        · replace h := ob_iff hc h
          refine ob_push d_Model_lengthFault_473 ?_
          refine ob_goto d_Model_lengthFault_474 ?_
          exact ob_ie h (ob_iret d_Model_lengthFault_479 rfl rfl)
  replace h := ob_iff hs1 h
  by_cases hs2 : v0 = (771 : Int32)
  · replace h := ob_ift hs2 h
    refine ob_lku (off := 290) (t := 311) d_Model_lengthFault_21 (by decide +kernel) (by rw [hs2]; decide +kernel) (by decide) ?_
    refine ob_iload d_Model_lengthFault_311 rfl ?_
    refine ob_push d_Model_lengthFault_312 ?_
    refine ob_icmp_ne d_Model_lengthFault_313 (fun hc => ?_) (fun hc => ?_)
    · replace h := ob_iff hc h
      refine ob_push d_Model_lengthFault_320 ?_
      refine ob_istore (lo2 := [(0, .int v0), (3, .int v3), (4, .int s0), (5, .int (0 : Int32))]) d_Model_lengthFault_321 rfl ?_
      refine ob_goto d_Model_lengthFault_323 ?_
      refine ob_iload d_Model_lengthFault_468 rfl ?_
      refine ob_if_eq d_Model_lengthFault_470 (fun hc => ?_) (fun hc => ?_)
      · replace h := ob_ift hc h
        refine ob_push d_Model_lengthFault_477 ?_
        exact ob_ie h (ob_iret d_Model_lengthFault_479 rfl rfl)
      · replace h := ob_iff hc h
        refine ob_push d_Model_lengthFault_473 ?_
        refine ob_goto d_Model_lengthFault_474 ?_
        exact ob_ie h (ob_iret d_Model_lengthFault_479 rfl rfl)
    · replace h := ob_ift hc h
      refine ob_push d_Model_lengthFault_316 ?_
      refine ob_goto d_Model_lengthFault_317 ?_
      refine ob_istore (lo2 := [(0, .int v0), (3, .int v3), (4, .int s0), (5, .int (1 : Int32))]) d_Model_lengthFault_321 rfl ?_
      refine ob_goto d_Model_lengthFault_323 ?_
      refine ob_iload d_Model_lengthFault_468 rfl ?_
      refine ob_if_eq d_Model_lengthFault_470 (fun hc => ?_) (fun hc => ?_)
      · replace h := ob_ift hc h
        refine ob_push d_Model_lengthFault_477 ?_
        exact ob_ie h (ob_iret d_Model_lengthFault_479 rfl rfl)
      · replace h := ob_iff hc h
        refine ob_push d_Model_lengthFault_473 ?_
        refine ob_goto d_Model_lengthFault_474 ?_
        exact ob_ie h (ob_iret d_Model_lengthFault_479 rfl rfl)
  replace h := ob_iff hs2 h
  by_cases hs3 : v0 = (773 : Int32)
  · replace h := ob_ift hs3 h
    refine ob_lku (off := 290) (t := 311) d_Model_lengthFault_21 (by decide +kernel) (by rw [hs3]; decide +kernel) (by decide) ?_
    refine ob_iload d_Model_lengthFault_311 rfl ?_
    refine ob_push d_Model_lengthFault_312 ?_
    refine ob_icmp_ne d_Model_lengthFault_313 (fun hc => ?_) (fun hc => ?_)
    · replace h := ob_iff hc h
      refine ob_push d_Model_lengthFault_320 ?_
      refine ob_istore (lo2 := [(0, .int v0), (3, .int v3), (4, .int s0), (5, .int (0 : Int32))]) d_Model_lengthFault_321 rfl ?_
      refine ob_goto d_Model_lengthFault_323 ?_
      refine ob_iload d_Model_lengthFault_468 rfl ?_
      refine ob_if_eq d_Model_lengthFault_470 (fun hc => ?_) (fun hc => ?_)
      · replace h := ob_ift hc h
        refine ob_push d_Model_lengthFault_477 ?_
        exact ob_ie h (ob_iret d_Model_lengthFault_479 rfl rfl)
      · replace h := ob_iff hc h
        refine ob_push d_Model_lengthFault_473 ?_
        refine ob_goto d_Model_lengthFault_474 ?_
        exact ob_ie h (ob_iret d_Model_lengthFault_479 rfl rfl)
    · replace h := ob_ift hc h
      refine ob_push d_Model_lengthFault_316 ?_
      refine ob_goto d_Model_lengthFault_317 ?_
      refine ob_istore (lo2 := [(0, .int v0), (3, .int v3), (4, .int s0), (5, .int (1 : Int32))]) d_Model_lengthFault_321 rfl ?_
      refine ob_goto d_Model_lengthFault_323 ?_
      refine ob_iload d_Model_lengthFault_468 rfl ?_
      refine ob_if_eq d_Model_lengthFault_470 (fun hc => ?_) (fun hc => ?_)
      · replace h := ob_ift hc h
        refine ob_push d_Model_lengthFault_477 ?_
        exact ob_ie h (ob_iret d_Model_lengthFault_479 rfl rfl)
      · replace h := ob_iff hc h
        refine ob_push d_Model_lengthFault_473 ?_
        refine ob_goto d_Model_lengthFault_474 ?_
        exact ob_ie h (ob_iret d_Model_lengthFault_479 rfl rfl)
  replace h := ob_iff hs3 h
  by_cases hs4 : v0 = (774 : Int32)
  · replace h := ob_ift hs4 h
    refine ob_lku (off := 290) (t := 311) d_Model_lengthFault_21 (by decide +kernel) (by rw [hs4]; decide +kernel) (by decide) ?_
    refine ob_iload d_Model_lengthFault_311 rfl ?_
    refine ob_push d_Model_lengthFault_312 ?_
    refine ob_icmp_ne d_Model_lengthFault_313 (fun hc => ?_) (fun hc => ?_)
    · replace h := ob_iff hc h
      refine ob_push d_Model_lengthFault_320 ?_
      refine ob_istore (lo2 := [(0, .int v0), (3, .int v3), (4, .int s0), (5, .int (0 : Int32))]) d_Model_lengthFault_321 rfl ?_
      refine ob_goto d_Model_lengthFault_323 ?_
      refine ob_iload d_Model_lengthFault_468 rfl ?_
      refine ob_if_eq d_Model_lengthFault_470 (fun hc => ?_) (fun hc => ?_)
      · replace h := ob_ift hc h
        refine ob_push d_Model_lengthFault_477 ?_
        exact ob_ie h (ob_iret d_Model_lengthFault_479 rfl rfl)
      · replace h := ob_iff hc h
        refine ob_push d_Model_lengthFault_473 ?_
        refine ob_goto d_Model_lengthFault_474 ?_
        exact ob_ie h (ob_iret d_Model_lengthFault_479 rfl rfl)
    · replace h := ob_ift hc h
      refine ob_push d_Model_lengthFault_316 ?_
      refine ob_goto d_Model_lengthFault_317 ?_
      refine ob_istore (lo2 := [(0, .int v0), (3, .int v3), (4, .int s0), (5, .int (1 : Int32))]) d_Model_lengthFault_321 rfl ?_
      refine ob_goto d_Model_lengthFault_323 ?_
      refine ob_iload d_Model_lengthFault_468 rfl ?_
      refine ob_if_eq d_Model_lengthFault_470 (fun hc => ?_) (fun hc => ?_)
      · replace h := ob_ift hc h
        refine ob_push d_Model_lengthFault_477 ?_
        exact ob_ie h (ob_iret d_Model_lengthFault_479 rfl rfl)
      · replace h := ob_iff hc h
        refine ob_push d_Model_lengthFault_473 ?_
        refine ob_goto d_Model_lengthFault_474 ?_
        exact ob_ie h (ob_iret d_Model_lengthFault_479 rfl rfl)
  replace h := ob_iff hs4 h
  by_cases hs5 : v0 = (795 : Int32)
  · replace h := ob_ift hs5 h
    refine ob_lku (off := 290) (t := 311) d_Model_lengthFault_21 (by decide +kernel) (by rw [hs5]; decide +kernel) (by decide) ?_
    refine ob_iload d_Model_lengthFault_311 rfl ?_
    refine ob_push d_Model_lengthFault_312 ?_
    refine ob_icmp_ne d_Model_lengthFault_313 (fun hc => ?_) (fun hc => ?_)
    · replace h := ob_iff hc h
      refine ob_push d_Model_lengthFault_320 ?_
      refine ob_istore (lo2 := [(0, .int v0), (3, .int v3), (4, .int s0), (5, .int (0 : Int32))]) d_Model_lengthFault_321 rfl ?_
      refine ob_goto d_Model_lengthFault_323 ?_
      refine ob_iload d_Model_lengthFault_468 rfl ?_
      refine ob_if_eq d_Model_lengthFault_470 (fun hc => ?_) (fun hc => ?_)
      · replace h := ob_ift hc h
        refine ob_push d_Model_lengthFault_477 ?_
        exact ob_ie h (ob_iret d_Model_lengthFault_479 rfl rfl)
      · replace h := ob_iff hc h
        refine ob_push d_Model_lengthFault_473 ?_
        refine ob_goto d_Model_lengthFault_474 ?_
        exact ob_ie h (ob_iret d_Model_lengthFault_479 rfl rfl)
    · replace h := ob_ift hc h
      refine ob_push d_Model_lengthFault_316 ?_
      refine ob_goto d_Model_lengthFault_317 ?_
      refine ob_istore (lo2 := [(0, .int v0), (3, .int v3), (4, .int s0), (5, .int (1 : Int32))]) d_Model_lengthFault_321 rfl ?_
      refine ob_goto d_Model_lengthFault_323 ?_
      refine ob_iload d_Model_lengthFault_468 rfl ?_
      refine ob_if_eq d_Model_lengthFault_470 (fun hc => ?_) (fun hc => ?_)
      · replace h := ob_ift hc h
        refine ob_push d_Model_lengthFault_477 ?_
        exact ob_ie h (ob_iret d_Model_lengthFault_479 rfl rfl)
      · replace h := ob_iff hc h
        refine ob_push d_Model_lengthFault_473 ?_
        refine ob_goto d_Model_lengthFault_474 ?_
        exact ob_ie h (ob_iret d_Model_lengthFault_479 rfl rfl)
  replace h := ob_iff hs5 h
  by_cases hs6 : v0 = (1285 : Int32)
  · replace h := ob_ift hs6 h
    refine ob_lku (off := 290) (t := 311) d_Model_lengthFault_21 (by decide +kernel) (by rw [hs6]; decide +kernel) (by decide) ?_
    refine ob_iload d_Model_lengthFault_311 rfl ?_
    refine ob_push d_Model_lengthFault_312 ?_
    refine ob_icmp_ne d_Model_lengthFault_313 (fun hc => ?_) (fun hc => ?_)
    · replace h := ob_iff hc h
      refine ob_push d_Model_lengthFault_320 ?_
      refine ob_istore (lo2 := [(0, .int v0), (3, .int v3), (4, .int s0), (5, .int (0 : Int32))]) d_Model_lengthFault_321 rfl ?_
      refine ob_goto d_Model_lengthFault_323 ?_
      refine ob_iload d_Model_lengthFault_468 rfl ?_
      refine ob_if_eq d_Model_lengthFault_470 (fun hc => ?_) (fun hc => ?_)
      · replace h := ob_ift hc h
        refine ob_push d_Model_lengthFault_477 ?_
        exact ob_ie h (ob_iret d_Model_lengthFault_479 rfl rfl)
      · replace h := ob_iff hc h
        refine ob_push d_Model_lengthFault_473 ?_
        refine ob_goto d_Model_lengthFault_474 ?_
        exact ob_ie h (ob_iret d_Model_lengthFault_479 rfl rfl)
    · replace h := ob_ift hc h
      refine ob_push d_Model_lengthFault_316 ?_
      refine ob_goto d_Model_lengthFault_317 ?_
      refine ob_istore (lo2 := [(0, .int v0), (3, .int v3), (4, .int s0), (5, .int (1 : Int32))]) d_Model_lengthFault_321 rfl ?_
      refine ob_goto d_Model_lengthFault_323 ?_
      refine ob_iload d_Model_lengthFault_468 rfl ?_
      refine ob_if_eq d_Model_lengthFault_470 (fun hc => ?_) (fun hc => ?_)
      · replace h := ob_ift hc h
        refine ob_push d_Model_lengthFault_477 ?_
        exact ob_ie h (ob_iret d_Model_lengthFault_479 rfl rfl)
      · replace h := ob_iff hc h
        refine ob_push d_Model_lengthFault_473 ?_
        refine ob_goto d_Model_lengthFault_474 ?_
        exact ob_ie h (ob_iret d_Model_lengthFault_479 rfl rfl)
  replace h := ob_iff hs6 h
  by_cases hs7 : v0 = (1286 : Int32)
  · replace h := ob_ift hs7 h
    refine ob_lku (off := 290) (t := 311) d_Model_lengthFault_21 (by decide +kernel) (by rw [hs7]; decide +kernel) (by decide) ?_
    refine ob_iload d_Model_lengthFault_311 rfl ?_
    refine ob_push d_Model_lengthFault_312 ?_
    refine ob_icmp_ne d_Model_lengthFault_313 (fun hc => ?_) (fun hc => ?_)
    · replace h := ob_iff hc h
      refine ob_push d_Model_lengthFault_320 ?_
      refine ob_istore (lo2 := [(0, .int v0), (3, .int v3), (4, .int s0), (5, .int (0 : Int32))]) d_Model_lengthFault_321 rfl ?_
      refine ob_goto d_Model_lengthFault_323 ?_
      refine ob_iload d_Model_lengthFault_468 rfl ?_
      refine ob_if_eq d_Model_lengthFault_470 (fun hc => ?_) (fun hc => ?_)
      · replace h := ob_ift hc h
        refine ob_push d_Model_lengthFault_477 ?_
        exact ob_ie h (ob_iret d_Model_lengthFault_479 rfl rfl)
      · replace h := ob_iff hc h
        refine ob_push d_Model_lengthFault_473 ?_
        refine ob_goto d_Model_lengthFault_474 ?_
        exact ob_ie h (ob_iret d_Model_lengthFault_479 rfl rfl)
    · replace h := ob_ift hc h
      refine ob_push d_Model_lengthFault_316 ?_
      refine ob_goto d_Model_lengthFault_317 ?_
      refine ob_istore (lo2 := [(0, .int v0), (3, .int v3), (4, .int s0), (5, .int (1 : Int32))]) d_Model_lengthFault_321 rfl ?_
      refine ob_goto d_Model_lengthFault_323 ?_
      refine ob_iload d_Model_lengthFault_468 rfl ?_
      refine ob_if_eq d_Model_lengthFault_470 (fun hc => ?_) (fun hc => ?_)
      · replace h := ob_ift hc h
        refine ob_push d_Model_lengthFault_477 ?_
        exact ob_ie h (ob_iret d_Model_lengthFault_479 rfl rfl)
      · replace h := ob_iff hc h
        refine ob_push d_Model_lengthFault_473 ?_
        refine ob_goto d_Model_lengthFault_474 ?_
        exact ob_ie h (ob_iret d_Model_lengthFault_479 rfl rfl)
  replace h := ob_iff hs7 h
  by_cases hs8 : v0 = (1538 : Int32)
  · replace h := ob_ift hs8 h
    refine ob_lku (off := 267) (t := 288) d_Model_lengthFault_21 (by decide +kernel) (by rw [hs8]; decide +kernel) (by decide) ?_
    refine ob_iload d_Model_lengthFault_288 rfl ?_
    refine ob_push d_Model_lengthFault_289 ?_
    refine ob_icmp_lt d_Model_lengthFault_290 (fun hc => ?_) (fun hc => ?_)
    · replace h := ob_ift hc h
      refine ob_sub (lo2 := []) [] rfl ?_
      exact v_Model_lengthFault_L305 D  h
    · replace h := ob_iff hc h
      refine ob_iload d_Model_lengthFault_293 rfl ?_
      refine ob_push d_Model_lengthFault_294 ?_
      refine ob_iload d_Model_lengthFault_295 rfl ?_
      refine ob_iadd d_Model_lengthFault_297 ?_
      refine ob_icmp_ne d_Model_lengthFault_298 (fun hc => ?_) (fun hc => ?_)
      · replace h := ob_iff hc h
        refine ob_sub (lo2 := []) [] rfl ?_
        exact v_Model_lengthFault_L305 D  h
      · replace h := ob_ift hc h
        refine ob_push d_Model_lengthFault_301 ?_
        refine ob_goto d_Model_lengthFault_302 ?_
        refine ob_istore (lo2 := [(0, .int v0), (3, .int v3), (4, .int s0), (5, .int (1 : Int32))]) d_Model_lengthFault_306 rfl ?_
        refine ob_goto d_Model_lengthFault_308 ?_
        refine ob_iload d_Model_lengthFault_468 rfl ?_
        refine ob_if_eq d_Model_lengthFault_470 (fun hc => ?_) (fun hc => ?_)
        · replace h := ob_ift hc h
          refine ob_push d_Model_lengthFault_477 ?_
          exact ob_ie h (ob_iret d_Model_lengthFault_479 rfl rfl)
        · replace h := ob_iff hc h
          refine ob_push d_Model_lengthFault_473 ?_
          refine ob_goto d_Model_lengthFault_474 ?_
          exact ob_ie h (ob_iret d_Model_lengthFault_479 rfl rfl)
  replace h := ob_iff hs8 h
  by_cases hs9 : v0 = (1541 : Int32)
  · replace h := ob_ift hs9 h
    refine ob_lku (off := 305) (t := 326) d_Model_lengthFault_21 (by decide +kernel) (by rw [hs9]; decide +kernel) (by decide) ?_
    refine ob_iload d_Model_lengthFault_326 rfl ?_
    refine ob_push d_Model_lengthFault_327 ?_
    refine ob_icmp_ne d_Model_lengthFault_328 (fun hc => ?_) (fun hc => ?_)
    · replace h := ob_iff hc h
      refine ob_push d_Model_lengthFault_335 ?_
      refine ob_istore (lo2 := [(0, .int v0), (3, .int v3), (4, .int s0), (5, .int (0 : Int32))]) d_Model_lengthFault_336 rfl ?_
      refine ob_goto d_Model_lengthFault_338 ?_
      refine ob_iload d_Model_lengthFault_468 rfl ?_
      refine ob_if_eq d_Model_lengthFault_470 (fun hc => ?_) (fun hc => ?_)
      · replace h := ob_ift hc h
        refine ob_push d_Model_lengthFault_477 ?_
        exact ob_ie h (ob_iret d_Model_lengthFault_479 rfl rfl)
      · replace h := ob_iff hc h
        refine ob_push d_Model_lengthFault_473 ?_
        refine ob_goto d_Model_lengthFault_474 ?_
        exact ob_ie h (ob_iret d_Model_lengthFault_479 rfl rfl)
    · replace h := ob_ift hc h
      refine ob_push d_Model_lengthFault_331 ?_
      refine ob_goto d_Model_lengthFault_332 ?_
      refine ob_istore (lo2 := [(0, .int v0), (3, .int v3), (4, .int s0), (5, .int (1 : Int32))]) d_Model_lengthFault_336 rfl ?_
      refine ob_goto d_Model_lengthFault_338 ?_
      refine ob_iload d_Model_lengthFault_468 rfl ?_
      refine ob_if_eq d_Model_lengthFault_470 (fun hc => ?_) (fun hc => ?_)
      · replace h := ob_ift hc h
        refine ob_push d_Model_lengthFault_477 ?_
        exact ob_ie h (ob_iret d_Model_lengthFault_479 rfl rfl)
      · replace h := ob_iff hc h
        refine ob_push d_Model_lengthFault_473 ?_
        refine ob_goto d_Model_lengthFault_474 ?_
        exact ob_ie h (ob_iret d_Model_lengthFault_479 rfl rfl)
  replace h := ob_iff hs9 h
  by_cases hs10 : v0 = (1545 : Int32)
  · replace h := ob_ift hs10 h
    refine ob_lku (off := 320) (t := 341) d_Model_lengthFault_21 (by decide +kernel) (by rw [hs10]; decide +kernel) (by decide) ?_
    refine ob_iload d_Model_lengthFault_341 rfl ?_
    refine ob_push d_Model_lengthFault_342 ?_
    refine ob_icmp_ne d_Model_lengthFault_343 (fun hc => ?_) (fun hc => ?_)
    · replace h := ob_iff hc h
      refine ob_push d_Model_lengthFault_350 ?_
      refine ob_istore (lo2 := [(0, .int v0), (3, .int v3), (4, .int s0), (5, .int (0 : Int32))]) d_Model_lengthFault_351 rfl ?_
      refine ob_goto d_Model_lengthFault_353 ?_
      refine ob_iload d_Model_lengthFault_468 rfl ?_
      refine ob_if_eq d_Model_lengthFault_470 (fun hc => ?_) (fun hc => ?_)
      · replace h := ob_ift hc h
        refine ob_push d_Model_lengthFault_477 ?_
        exact ob_ie h (ob_iret d_Model_lengthFault_479 rfl rfl)
      · replace h := ob_iff hc h
        refine ob_push d_Model_lengthFault_473 ?_
        refine ob_goto d_Model_lengthFault_474 ?_
        exact ob_ie h (ob_iret d_Model_lengthFault_479 rfl rfl)
    · replace h := ob_ift hc h
      refine ob_push d_Model_lengthFault_346 ?_
      refine ob_goto d_Model_lengthFault_347 ?_
      refine ob_istore (lo2 := [(0, .int v0), (3, .int v3), (4, .int s0), (5, .int (1 : Int32))]) d_Model_lengthFault_351 rfl ?_
      refine ob_goto d_Model_lengthFault_353 ?_
      refine ob_iload d_Model_lengthFault_468 rfl ?_
      refine ob_if_eq d_Model_lengthFault_470 (fun hc => ?_) (fun hc => ?_)
      · replace h := ob_ift hc h
        refine ob_push d_Model_lengthFault_477 ?_
        exact ob_ie h (ob_iret d_Model_lengthFault_479 rfl rfl)
      · replace h := ob_iff hc h
        refine ob_push d_Model_lengthFault_473 ?_
        refine ob_goto d_Model_lengthFault_474 ?_
        exact ob_ie h (ob_iret d_Model_lengthFault_479 rfl rfl)
  replace h := ob_iff hs10 h
  by_cases hs11 : v0 = (2049 : Int32)
  · replace h := ob_ift hs11 h
    refine ob_lku (off := 335) (t := 356) d_Model_lengthFault_21 (by decide +kernel) (by rw [hs11]; decide +kernel) (by decide) ?_
    refine ob_iload d_Model_lengthFault_356 rfl ?_
    refine ob_push d_Model_lengthFault_357 ?_
    refine ob_icmp_ne d_Model_lengthFault_359 (fun hc => ?_) (fun hc => ?_)
    · replace h := ob_iff hc h
      refine ob_push d_Model_lengthFault_366 ?_
      refine ob_istore (lo2 := [(0, .int v0), (3, .int v3), (4, .int s0), (5, .int (0 : Int32))]) d_Model_lengthFault_367 rfl ?_
      refine ob_goto d_Model_lengthFault_369 ?_
      refine ob_iload d_Model_lengthFault_468 rfl ?_
      refine ob_if_eq d_Model_lengthFault_470 (fun hc => ?_) (fun hc => ?_)
      · replace h := ob_ift hc h
        refine ob_push d_Model_lengthFault_477 ?_
        exact ob_ie h (ob_iret d_Model_lengthFault_479 rfl rfl)
      · replace h := ob_iff hc h
        refine ob_push d_Model_lengthFault_473 ?_
        refine ob_goto d_Model_lengthFault_474 ?_
        exact ob_ie h (ob_iret d_Model_lengthFault_479 rfl rfl)
    · replace h := ob_ift hc h
      refine ob_push d_Model_lengthFault_362 ?_
      refine ob_goto d_Model_lengthFault_363 ?_
      refine ob_istore (lo2 := [(0, .int v0), (3, .int v3), (4, .int s0), (5, .int (1 : Int32))]) d_Model_lengthFault_367 rfl ?_
      refine ob_goto d_Model_lengthFault_369 ?_
      refine ob_iload d_Model_lengthFault_468 rfl ?_
      refine ob_if_eq d_Model_lengthFault_470 (fun hc => ?_) (fun hc => ?_)
      · replace h := ob_ift hc h
        refine ob_push d_Model_lengthFault_477 ?_
        exact ob_ie h (ob_iret d_Model_lengthFault_479 rfl rfl)
      · replace h := ob_iff hc h
        refine ob_push d_Model_lengthFault_473 ?_
        refine ob_goto d_Model_lengthFault_474 ?_
        exact ob_ie h (ob_iret d_Model_lengthFault_479 rfl rfl)
  replace h := ob_iff hs11 h
  by_cases hs12 : v0 = (2817 : Int32)
  · replace h := ob_ift hs12 h
    refine ob_lku (off := 351) (t := 372) d_Model_lengthFault_21 (by decide +kernel) (by rw [hs12]; decide +kernel) (by decide) ?_
    refine ob_iload d_Model_lengthFault_372 rfl ?_
    refine ob_if_ne d_Model_lengthFault_373 (fun hc => ?_) (fun hc => ?_)
    · replace h := ob_iff hc h
      refine ob_push d_Model_lengthFault_380 ?_
      refine ob_istore (lo2 := [(0, .int v0), (3, .int v3), (4, .int s0), (5, .int (0 : Int32))]) d_Model_lengthFault_381 rfl ?_
      refine ob_goto d_Model_lengthFault_383 ?_
      refine ob_iload d_Model_lengthFault_468 rfl ?_
      refine ob_if_eq d_Model_lengthFault_470 (fun hc => ?_) (fun hc => ?_)
      · replace h := ob_ift hc h
        refine ob_push d_Model_lengthFault_477 ?_
        exact ob_ie h (ob_iret d_Model_lengthFault_479 rfl rfl)
      · replace h := ob_iff hc h
        refine ob_push d_Model_lengthFault_473 ?_
        refine ob_goto d_Model_lengthFault_474 ?_
        exact ob_ie h (ob_iret d_Model_lengthFault_479 rfl rfl)
    · replace h := ob_ift hc h
      refine ob_push d_Model_lengthFault_376 ?_
      refine ob_goto d_Model_lengthFault_377 ?_
      refine ob_istore (lo2 := [(0, .int v0), (3, .int v3), (4, .int s0), (5, .int (1 : Int32))]) d_Model_lengthFault_381 rfl ?_
      refine ob_goto d_Model_lengthFault_383 ?_
      refine ob_iload d_Model_lengthFault_468 rfl ?_
      refine ob_if_eq d_Model_lengthFault_470 (fun hc => ?_) (fun hc => ?_)
      · replace h := ob_ift hc h
        refine ob_push d_Model_lengthFault_477 ?_
        exact ob_ie h (ob_iret d_Model_lengthFault_479 rfl rfl)
      · replace h := ob_iff hc h
        refine ob_push d_Model_lengthFault_473 ?_
        refine ob_goto d_Model_lengthFault_474 ?_
        exact ob_ie h (ob_iret d_Model_lengthFault_479 rfl rfl)
  replace h := ob_iff hs12 h
  by_cases hs13 : v0 = (2818 : Int32)
  · replace h := ob_ift hs13 h
    refine ob_lku (off := 351) (t := 372) d_Model_lengthFault_21 (by decide +kernel) (by rw [hs13]; decide +kernel) (by decide) ?_
    refine ob_iload d_Model_lengthFault_372 rfl ?_
    refine ob_if_ne d_Model_lengthFault_373 (fun hc => ?_) (fun hc => ?_)
    · replace h := ob_iff hc h
      refine ob_push d_Model_lengthFault_380 ?_
      refine ob_istore (lo2 := [(0, .int v0), (3, .int v3), (4, .int s0), (5, .int (0 : Int32))]) d_Model_lengthFault_381 rfl ?_
      refine ob_goto d_Model_lengthFault_383 ?_
      refine ob_iload d_Model_lengthFault_468 rfl ?_
      refine ob_if_eq d_Model_lengthFault_470 (fun hc => ?_) (fun hc => ?_)
      · replace h := ob_ift hc h
        refine ob_push d_Model_lengthFault_477 ?_
        exact ob_ie h (ob_iret d_Model_lengthFault_479 rfl rfl)
      · replace h := ob_iff hc h
        refine ob_push d_Model_lengthFault_473 ?_
        refine ob_goto d_Model_lengthFault_474 ?_
        exact ob_ie h (ob_iret d_Model_lengthFault_479 rfl rfl)
    · replace h := ob_ift hc h
      refine ob_push d_Model_lengthFault_376 ?_
      refine ob_goto d_Model_lengthFault_377 ?_
      refine ob_istore (lo2 := [(0, .int v0), (3, .int v3), (4, .int s0), (5, .int (1 : Int32))]) d_Model_lengthFault_381 rfl ?_
      refine ob_goto d_Model_lengthFault_383 ?_
      refine ob_iload d_Model_lengthFault_468 rfl ?_
      refine ob_if_eq d_Model_lengthFault_470 (fun hc => ?_) (fun hc => ?_)
      · replace h := ob_ift hc h
        refine ob_push d_Model_lengthFault_477 ?_
        exact ob_ie h (ob_iret d_Model_lengthFault_479 rfl rfl)
      · replace h := ob_iff hc h
        refine ob_push d_Model_lengthFault_473 ?_
        refine ob_goto d_Model_lengthFault_474 ?_
        exact ob_ie h (ob_iret d_Model_lengthFault_479 rfl rfl)
  replace h := ob_iff hs13 h
  by_cases hs14 : v0 = (2819 : Int32)
  · replace h := ob_ift hs14 h
    refine ob_lku (off := 351) (t := 372) d_Model_lengthFault_21 (by decide +kernel) (by rw [hs14]; decide +kernel) (by decide) ?_
    refine ob_iload d_Model_lengthFault_372 rfl ?_
    refine ob_if_ne d_Model_lengthFault_373 (fun hc => ?_) (fun hc => ?_)
    · replace h := ob_iff hc h
      refine ob_push d_Model_lengthFault_380 ?_
      refine ob_istore (lo2 := [(0, .int v0), (3, .int v3), (4, .int s0), (5, .int (0 : Int32))]) d_Model_lengthFault_381 rfl ?_
      refine ob_goto d_Model_lengthFault_383 ?_
      refine ob_iload d_Model_lengthFault_468 rfl ?_
      refine ob_if_eq d_Model_lengthFault_470 (fun hc => ?_) (fun hc => ?_)
      · replace h := ob_ift hc h
        refine ob_push d_Model_lengthFault_477 ?_
        exact ob_ie h (ob_iret d_Model_lengthFault_479 rfl rfl)
      · replace h := ob_iff hc h
        refine ob_push d_Model_lengthFault_473 ?_
        refine ob_goto d_Model_lengthFault_474 ?_
        exact ob_ie h (ob_iret d_Model_lengthFault_479 rfl rfl)
    · replace h := ob_ift hc h
      refine ob_push d_Model_lengthFault_376 ?_
      refine ob_goto d_Model_lengthFault_377 ?_
      refine ob_istore (lo2 := [(0, .int v0), (3, .int v3), (4, .int s0), (5, .int (1 : Int32))]) d_Model_lengthFault_381 rfl ?_
      refine ob_goto d_Model_lengthFault_383 ?_
      refine ob_iload d_Model_lengthFault_468 rfl ?_
      refine ob_if_eq d_Model_lengthFault_470 (fun hc => ?_) (fun hc => ?_)
      · replace h := ob_ift hc h
        refine ob_push d_Model_lengthFault_477 ?_
        exact ob_ie h (ob_iret d_Model_lengthFault_479 rfl rfl)
      · replace h := ob_iff hc h
        refine ob_push d_Model_lengthFault_473 ?_
        refine ob_goto d_Model_lengthFault_474 ?_
        exact ob_ie h (ob_iret d_Model_lengthFault_479 rfl rfl)
  replace h := ob_iff hs14 h
  by_cases hs15 : v0 = (2820 : Int32)
  · replace h := ob_ift hs15 h
    refine ob_lku (off := 365) (t := 386) d_Model_lengthFault_21 (by decide +kernel) (by rw [hs15]; decide +kernel) (by decide) ?_
    refine ob_iload d_Model_lengthFault_386 rfl ?_
    refine ob_push d_Model_lengthFault_387 ?_
    refine ob_icmp_lt d_Model_lengthFault_389 (fun hc => ?_) (fun hc => ?_)
    · replace h := ob_ift hc h
      refine ob_push d_Model_lengthFault_396 ?_
      refine ob_istore (lo2 := [(0, .int v0), (3, .int v3), (4, .int s0), (5, .int (0 : Int32))]) d_Model_lengthFault_397 rfl ?_
      refine ob_goto d_Model_lengthFault_399 ?_
      refine ob_iload d_Model_lengthFault_468 rfl ?_
      refine ob_if_eq d_Model_lengthFault_470 (fun hc => ?_) (fun hc => ?_)
      · replace h := ob_ift hc h
        refine ob_push d_Model_lengthFault_477 ?_
        exact ob_ie h (ob_iret d_Model_lengthFault_479 rfl rfl)
      · replace h := ob_iff hc h
        refine ob_push d_Model_lengthFault_473 ?_
        refine ob_goto d_Model_lengthFault_474 ?_
        exact ob_ie h (ob_iret d_Model_lengthFault_479 rfl rfl)
    · replace h := ob_iff hc h
      refine ob_push d_Model_lengthFault_392 ?_
      refine ob_goto d_Model_lengthFault_393 ?_
      refine ob_istore (lo2 := [(0, .int v0), (3, .int v3), (4, .int s0), (5, .int (1 : Int32))]) d_Model_lengthFault_397 rfl ?_
      refine ob_goto d_Model_lengthFault_399 ?_
      refine ob_iload d_Model_lengthFault_468 rfl ?_
      refine ob_if_eq d_Model_lengthFault_470 (fun hc => ?_) (fun hc => ?_)
      · replace h := ob_ift hc h
        refine ob_push d_Model_lengthFault_477 ?_
        exact ob_ie h (ob_iret d_Model_lengthFault_479 rfl rfl)
      · replace h := ob_iff hc h
        refine ob_push d_Model_lengthFault_473 ?_
        refine ob_goto d_Model_lengthFault_474 ?_
        exact ob_ie h (ob_iret d_Model_lengthFault_479 rfl rfl)
  replace h := ob_iff hs15 h
  by_cases hs16 : v0 = (2821 : Int32)
  · replace h := ob_ift hs16 h
    refine ob_lku (off := 381) (t := 402) d_Model_lengthFault_21 (by decide +kernel) (by rw [hs16]; decide +kernel) (by decide) ?_
    refine ob_iload d_Model_lengthFault_402 rfl ?_
    refine ob_push d_Model_lengthFault_403 ?_
    refine ob_icmp_ne d_Model_lengthFault_404 (fun hc => ?_) (fun hc => ?_)
    · replace h := ob_iff hc h
      refine ob_push d_Model_lengthFault_411 ?_
      refine ob_istore (lo2 := [(0, .int v0), (3, .int v3), (4, .int s0), (5, .int (0 : Int32))]) d_Model_lengthFault_412 rfl ?_
      refine ob_goto d_Model_lengthFault_414 ?_
      refine ob_iload d_Model_lengthFault_468 rfl ?_
      refine ob_if_eq d_Model_lengthFault_470 (fun hc => ?_) (fun hc => ?_)
      · replace h := ob_ift hc h
        refine ob_push d_Model_lengthFault_477 ?_
        exact ob_ie h (ob_iret d_Model_lengthFault_479 rfl rfl)
      · replace h := ob_iff hc h
        refine ob_push d_Model_lengthFault_473 ?_
        refine ob_goto d_Model_lengthFault_474 ?_
        exact ob_ie h (ob_iret d_Model_lengthFault_479 rfl rfl)
    · replace h := ob_ift hc h
      refine ob_push d_Model_lengthFault_407 ?_
      refine ob_goto d_Model_lengthFault_408 ?_
      refine ob_istore (lo2 := [(0, .int v0), (3, .int v3), (4, .int s0), (5, .int (1 : Int32))]) d_Model_lengthFault_412 rfl ?_
      refine ob_goto d_Model_lengthFault_414 ?_
      refine ob_iload d_Model_lengthFault_468 rfl ?_
      refine ob_if_eq d_Model_lengthFault_470 (fun hc => ?_) (fun hc => ?_)
      · replace h := ob_ift hc h
        refine ob_push d_Model_lengthFault_477 ?_
        exact ob_ie h (ob_iret d_Model_lengthFault_479 rfl rfl)
      · replace h := ob_iff hc h
        refine ob_push d_Model_lengthFault_473 ?_
        refine ob_goto d_Model_lengthFault_474 ?_
        exact ob_ie h (ob_iret d_Model_lengthFault_479 rfl rfl)
  replace h := ob_iff hs16 h
  by_cases hs17 : v0 = (2831 : Int32)
  · replace h := ob_ift hs17 h
    refine ob_lku (off := 320) (t := 341) d_Model_lengthFault_21 (by decide +kernel) (by rw [hs17]; decide +kernel) (by decide) ?_
    refine ob_iload d_Model_lengthFault_341 rfl ?_
    refine ob_push d_Model_lengthFault_342 ?_
    refine ob_icmp_ne d_Model_lengthFault_343 (fun hc => ?_) (fun hc => ?_)
    · replace h := ob_iff hc h
      refine ob_push d_Model_lengthFault_350 ?_
      refine ob_istore (lo2 := [(0, .int v0), (3, .int v3), (4, .int s0), (5, .int (0 : Int32))]) d_Model_lengthFault_351 rfl ?_
      refine ob_goto d_Model_lengthFault_353 ?_
      refine ob_iload d_Model_lengthFault_468 rfl ?_
      refine ob_if_eq d_Model_lengthFault_470 (fun hc => ?_) (fun hc => ?_)
      · replace h := ob_ift hc h
        refine ob_push d_Model_lengthFault_477 ?_
        exact ob_ie h (ob_iret d_Model_lengthFault_479 rfl rfl)
      · replace h := ob_iff hc h
        refine ob_push d_Model_lengthFault_473 ?_
        refine ob_goto d_Model_lengthFault_474 ?_
        exact ob_ie h (ob_iret d_Model_lengthFault_479 rfl rfl)
    · replace h := ob_ift hc h
      refine ob_push d_Model_lengthFault_346 ?_
      refine ob_goto d_Model_lengthFault_347 ?_
      refine ob_istore (lo2 := [(0, .int v0), (3, .int v3), (4, .int s0), (5, .int (1 : Int32))]) d_Model_lengthFault_351 rfl ?_
      refine ob_goto d_Model_lengthFault_353 ?_
      refine ob_iload d_Model_lengthFault_468 rfl ?_
      refine ob_if_eq d_Model_lengthFault_470 (fun hc => ?_) (fun hc => ?_)
      · replace h := ob_ift hc h
        refine ob_push d_Model_lengthFault_477 ?_
        exact ob_ie h (ob_iret d_Model_lengthFault_479 rfl rfl)
      · replace h := ob_iff hc h
        refine ob_push d_Model_lengthFault_473 ?_
        refine ob_goto d_Model_lengthFault_474 ?_
        exact ob_ie h (ob_iret d_Model_lengthFault_479 rfl rfl)
  replace h := ob_iff hs17 h
  by_cases hs18 : v0 = (2833 : Int32)
  · replace h := ob_ift hs18 h
    refine ob_lku (off := 351) (t := 372) d_Model_lengthFault_21 (by decide +kernel) (by rw [hs18]; decide +kernel) (by decide) ?_
    refine ob_iload d_Model_lengthFault_372 rfl ?_
    refine ob_if_ne d_Model_lengthFault_373 (fun hc => ?_) (fun hc => ?_)
    · replace h := ob_iff hc h
      refine ob_push d_Model_lengthFault_380 ?_
      refine ob_istore (lo2 := [(0, .int v0), (3, .int v3), (4, .int s0), (5, .int (0 : Int32))]) d_Model_lengthFault_381 rfl ?_
      refine ob_goto d_Model_lengthFault_383 ?_
      refine ob_iload d_Model_lengthFault_468 rfl ?_
      refine ob_if_eq d_Model_lengthFault_470 (fun hc => ?_) (fun hc => ?_)
      · replace h := ob_ift hc h
        refine ob_push d_Model_lengthFault_477 ?_
        exact ob_ie h (ob_iret d_Model_lengthFault_479 rfl rfl)
      · replace h := ob_iff hc h
        refine ob_push d_Model_lengthFault_473 ?_
        refine ob_goto d_Model_lengthFault_474 ?_
        exact ob_ie h (ob_iret d_Model_lengthFault_479 rfl rfl)
    · replace h := ob_ift hc h
      refine ob_push d_Model_lengthFault_376 ?_
      refine ob_goto d_Model_lengthFault_377 ?_
      refine ob_istore (lo2 := [(0, .int v0), (3, .int v3), (4, .int s0), (5, .int (1 : Int32))]) d_Model_lengthFault_381 rfl ?_
      refine ob_goto d_Model_lengthFault_383 ?_
      refine ob_iload d_Model_lengthFault_468 rfl ?_
      refine ob_if_eq d_Model_lengthFault_470 (fun hc => ?_) (fun hc => ?_)
      · replace h := ob_ift hc h
        refine ob_push d_Model_lengthFault_477 ?_
        exact ob_ie h (ob_iret d_Model_lengthFault_479 rfl rfl)
      · replace h := ob_iff hc h
        refine ob_push d_Model_lengthFault_473 ?_
        refine ob_goto d_Model_lengthFault_474 ?_
        exact ob_ie h (ob_iret d_Model_lengthFault_479 rfl rfl)
  replace h := ob_iff hs18 h
  by_cases hs19 : v0 = (3073 : Int32)
  · replace h := ob_ift hs19 h
    refine ob_lku (off := 290) (t := 311) d_Model_lengthFault_21 (by decide +kernel) (by rw [hs19]; decide +kernel) (by decide) ?_
    refine ob_iload d_Model_lengthFault_311 rfl ?_
    refine ob_push d_Model_lengthFault_312 ?_
    refine ob_icmp_ne d_Model_lengthFault_313 (fun hc => ?_) (fun hc => ?_)
    · replace h := ob_iff hc h
      refine ob_push d_Model_lengthFault_320 ?_
      refine ob_istore (lo2 := [(0, .int v0), (3, .int v3), (4, .int s0), (5, .int (0 : Int32))]) d_Model_lengthFault_321 rfl ?_
      refine ob_goto d_Model_lengthFault_323 ?_
      refine ob_iload d_Model_lengthFault_468 rfl ?_
      refine ob_if_eq d_Model_lengthFault_470 (fun hc => ?_) (fun hc => ?_)
      · replace h := ob_ift hc h
        refine ob_push d_Model_lengthFault_477 ?_
        exact ob_ie h (ob_iret d_Model_lengthFault_479 rfl rfl)
      · replace h := ob_iff hc h
        refine ob_push d_Model_lengthFault_473 ?_
        refine ob_goto d_Model_lengthFault_474 ?_
        exact ob_ie h (ob_iret d_Model_lengthFault_479 rfl rfl)
    · replace h := ob_ift hc h
      refine ob_push d_Model_lengthFault_316 ?_
      refine ob_goto d_Model_lengthFault_317 ?_
      refine ob_istore (lo2 := [(0, .int v0), (3, .int v3), (4, .int s0), (5, .int (1 : Int32))]) d_Model_lengthFault_321 rfl ?_
      refine ob_goto d_Model_lengthFault_323 ?_
      refine ob_iload d_Model_lengthFault_468 rfl ?_
      refine ob_if_eq d_Model_lengthFault_470 (fun hc => ?_) (fun hc => ?_)
      · replace h := ob_ift hc h
        refine ob_push d_Model_lengthFault_477 ?_
        exact ob_ie h (ob_iret d_Model_lengthFault_479 rfl rfl)
      · replace h := ob_iff hc h
        refine ob_push d_Model_lengthFault_473 ?_
        refine ob_goto d_Model_lengthFault_474 ?_
        exact ob_ie h (ob_iret d_Model_lengthFault_479 rfl rfl)
  replace h := ob_iff hs19 h
  by_cases hs20 : v0 = (3074 : Int32)
  · replace h := ob_ift hs20 h
    refine ob_lku (off := 290) (t := 311) d_Model_lengthFault_21 (by decide +kernel) (by rw [hs20]; decide +kernel) (by decide) ?_
    refine ob_iload d_Model_lengthFault_311 rfl ?_
    refine ob_push d_Model_lengthFault_312 ?_
    refine ob_icmp_ne d_Model_lengthFault_313 (fun hc => ?_) (fun hc => ?_)
    · replace h := ob_iff hc h
      refine ob_push d_Model_lengthFault_320 ?_
      refine ob_istore (lo2 := [(0, .int v0), (3, .int v3), (4, .int s0), (5, .int (0 : Int32))]) d_Model_lengthFault_321 rfl ?_
      refine ob_goto d_Model_lengthFault_323 ?_
      refine ob_iload d_Model_lengthFault_468 rfl ?_
      refine ob_if_eq d_Model_lengthFault_470 (fun hc => ?_) (fun hc => ?_)
      · replace h := ob_ift hc h
        refine ob_push d_Model_lengthFault_477 ?_
        exact ob_ie h (ob_iret d_Model_lengthFault_479 rfl rfl)
      · replace h := ob_iff hc h
        refine ob_push d_Model_lengthFault_473 ?_
        refine ob_goto d_Model_lengthFault_474 ?_
        exact ob_ie h (ob_iret d_Model_lengthFault_479 rfl rfl)
    · replace h := ob_ift hc h
      refine ob_push d_Model_lengthFault_316 ?_
      refine ob_goto d_Model_lengthFault_317 ?_
      refine ob_istore (lo2 := [(0, .int v0), (3, .int v3), (4, .int s0), (5, .int (1 : Int32))]) d_Model_lengthFault_321 rfl ?_
      refine ob_goto d_Model_lengthFault_323 ?_
      refine ob_iload d_Model_lengthFault_468 rfl ?_
      refine ob_if_eq d_Model_lengthFault_470 (fun hc => ?_) (fun hc => ?_)
      · replace h := ob_ift hc h
        refine ob_push d_Model_lengthFault_477 ?_
        exact ob_ie h (ob_iret d_Model_lengthFault_479 rfl rfl)
      · replace h := ob_iff hc h
        refine ob_push d_Model_lengthFault_473 ?_
        refine ob_goto d_Model_lengthFault_474 ?_
        exact ob_ie h (ob_iret d_Model_lengthFault_479 rfl rfl)
  replace h := ob_iff hs20 h
  by_cases hs21 : v0 = (3077 : Int32)
  · replace h := ob_ift hs21 h
    refine ob_lku (off := 396) (t := 417) d_Model_lengthFault_21 (by decide +kernel) (by rw [hs21]; decide +kernel) (by decide) ?_
    refine ob_iload d_Model_lengthFault_417 rfl ?_
    refine ob_push d_Model_lengthFault_418 ?_
    refine ob_icmp_ne d_Model_lengthFault_420 (fun hc => ?_) (fun hc => ?_)
    · replace h := ob_iff hc h
      refine ob_push d_Model_lengthFault_427 ?_
      refine ob_istore (lo2 := [(0, .int v0), (3, .int v3), (4, .int s0), (5, .int (0 : Int32))]) d_Model_lengthFault_428 rfl ?_
      refine ob_goto d_Model_lengthFault_430 ?_
      refine ob_iload d_Model_lengthFault_468 rfl ?_
      refine ob_if_eq d_Model_lengthFault_470 (fun hc => ?_) (fun hc => ?_)
      · replace h := ob_ift hc h
        refine ob_push d_Model_lengthFault_477 ?_
        exact ob_ie h (ob_iret d_Model_lengthFault_479 rfl rfl)
      · replace h := ob_iff hc h
        refine ob_push d_Model_lengthFault_473 ?_
        refine ob_goto d_Model_lengthFault_474 ?_
        exact ob_ie h (ob_iret d_Model_lengthFault_479 rfl rfl)
    · replace h := ob_ift hc h
      refine ob_push d_Model_lengthFault_423 ?_
      refine ob_goto d_Model_lengthFault_424 ?_
      refine ob_istore (lo2 := [(0, .int v0), (3, .int v3), (4, .int s0), (5, .int (1 : Int32))]) d_Model_lengthFault_428 rfl ?_
      refine ob_goto d_Model_lengthFault_430 ?_
      refine ob_iload d_Model_lengthFault_468 rfl ?_
      refine ob_if_eq d_Model_lengthFault_470 (fun hc => ?_) (fun hc => ?_)
      · replace h := ob_ift hc h
        refine ob_push d_Model_lengthFault_477 ?_
        exact ob_ie h (ob_iret d_Model_lengthFault_479 rfl rfl)
      · replace h := ob_iff hc h
        refine ob_push d_Model_lengthFault_473 ?_
        refine ob_goto d_Model_lengthFault_474 ?_
        exact ob_ie h (ob_iret d_Model_lengthFault_479 rfl rfl)
  replace h := ob_iff hs21 h
  by_cases hs22 : v0 = (3078 : Int32)
  · replace h := ob_ift hs22 h
    refine ob_lku (off := 290) (t := 311) d_Model_lengthFault_21 (by decide +kernel) (by rw [hs22]; decide +kernel) (by decide) ?_
    refine ob_iload d_Model_lengthFault_311 rfl ?_
    refine ob_push d_Model_lengthFault_312 ?_
    refine ob_icmp_ne d_Model_lengthFault_313 (fun hc => ?_) (fun hc => ?_)
    · replace h := ob_iff hc h
      refine ob_push d_Model_lengthFault_320 ?_
      refine ob_istore (lo2 := [(0, .int v0), (3, .int v3), (4, .int s0), (5, .int (0 : Int32))]) d_Model_lengthFault_321 rfl ?_
      refine ob_goto d_Model_lengthFault_323 ?_
      refine ob_iload d_Model_lengthFault_468 rfl ?_
      refine ob_if_eq d_Model_lengthFault_470 (fun hc => ?_) (fun hc => ?_)
      · replace h := ob_ift hc h
        refine ob_push d_Model_lengthFault_477 ?_
        exact ob_ie h (ob_iret d_Model_lengthFault_479 rfl rfl)
      · replace h := ob_iff hc h
        refine ob_push d_Model_lengthFault_473 ?_
        refine ob_goto d_Model_lengthFault_474 ?_
        exact ob_ie h (ob_iret d_Model_lengthFault_479 rfl rfl)
    · replace h := ob_ift hc h
      refine ob_push d_Model_lengthFault_316 ?_
      refine ob_goto d_Model_lengthFault_317 ?_
      refine ob_istore (lo2 := [(0, .int v0), (3, .int v3), (4, .int s0), (5, .int (1 : Int32))]) d_Model_lengthFault_321 rfl ?_
      refine ob_goto d_Model_lengthFault_323 ?_
      refine ob_iload d_Model_lengthFault_468 rfl ?_
      refine ob_if_eq d_Model_lengthFault_470 (fun hc => ?_) (fun hc => ?_)
      · replace h := ob_ift hc h
        refine ob_push d_Model_lengthFault_477 ?_
        exact ob_ie h (ob_iret d_Model_lengthFault_479 rfl rfl)
      · replace h := ob_iff hc h
        refine ob_push d_Model_lengthFault_473 ?_
        refine ob_goto d_Model_lengthFault_474 ?_
        exact ob_ie h (ob_iret d_Model_lengthFault_479 rfl rfl)
  replace h := ob_iff hs22 h
  by_cases hs23 : v0 = (3841 : Int32)
  · replace h := ob_ift hs23 h
    refine ob_lku (off := 290) (t := 311) d_Model_lengthFault_21 (by decide +kernel) (by rw [hs23]; decide +kernel) (by decide) ?_
    refine ob_iload d_Model_lengthFault_311 rfl ?_
    refine ob_push d_Model_lengthFault_312 ?_
    refine ob_icmp_ne d_Model_lengthFault_313 (fun hc => ?_) (fun hc => ?_)
    · replace h := ob_iff hc h
      refine ob_push d_Model_lengthFault_320 ?_
      refine ob_istore (lo2 := [(0, .int v0), (3, .int v3), (4, .int s0), (5, .int (0 : Int32))]) d_Model_lengthFault_321 rfl ?_
      refine ob_goto d_Model_lengthFault_323 ?_
      refine ob_iload d_Model_lengthFault_468 rfl ?_
      refine ob_if_eq d_Model_lengthFault_470 (fun hc => ?_) (fun hc => ?_)
      · replace h := ob_ift hc h
        refine ob_push d_Model_lengthFault_477 ?_
        exact ob_ie h (ob_iret d_Model_lengthFault_479 rfl rfl)
      · replace h := ob_iff hc h
        refine ob_push d_Model_lengthFault_473 ?_
        refine ob_goto d_Model_lengthFault_474 ?_
        exact ob_ie h (ob_iret d_Model_lengthFault_479 rfl rfl)
    · replace h := ob_ift hc h
      refine ob_push d_Model_lengthFault_316 ?_
      refine ob_goto d_Model_lengthFault_317 ?_
      refine ob_istore (lo2 := [(0, .int v0), (3, .int v3), (4, .int s0), (5, .int (1 : Int32))]) d_Model_lengthFault_321 rfl ?_
      refine ob_goto d_Model_lengthFault_323 ?_
      refine ob_iload d_Model_lengthFault_468 rfl ?_
      refine ob_if_eq d_Model_lengthFault_470 (fun hc => ?_) (fun hc => ?_)
      · replace h := ob_ift hc h
        refine ob_push d_Model_lengthFault_477 ?_
        exact ob_ie h (ob_iret d_Model_lengthFault_479 rfl rfl)
      · replace h := ob_iff hc h
        refine ob_push d_Model_lengthFault_473 ?_
        refine ob_goto d_Model_lengthFault_474 ?_
        exact ob_ie h (ob_iret d_Model_lengthFault_479 rfl rfl)
  replace h := ob_iff hs23 h
  by_cases hs24 : v0 = (3842 : Int32)
  · replace h := ob_ift hs24 h
    refine ob_lku (off := 290) (t := 311) d_Model_lengthFault_21 (by decide +kernel) (by rw [hs24]; decide +kernel) (by decide) ?_
    refine ob_iload d_Model_lengthFault_311 rfl ?_
    refine ob_push d_Model_lengthFault_312 ?_
    refine ob_icmp_ne d_Model_lengthFault_313 (fun hc => ?_) (fun hc => ?_)
    · replace h := ob_iff hc h
      refine ob_push d_Model_lengthFault_320 ?_
      refine ob_istore (lo2 := [(0, .int v0), (3, .int v3), (4, .int s0), (5, .int (0 : Int32))]) d_Model_lengthFault_321 rfl ?_
      refine ob_goto d_Model_lengthFault_323 ?_
      refine ob_iload d_Model_lengthFault_468 rfl ?_
      refine ob_if_eq d_Model_lengthFault_470 (fun hc => ?_) (fun hc => ?_)
      · replace h := ob_ift hc h
        refine ob_push d_Model_lengthFault_477 ?_
        exact ob_ie h (ob_iret d_Model_lengthFault_479 rfl rfl)
      · replace h := ob_iff hc h
        refine ob_push d_Model_lengthFault_473 ?_
        refine ob_goto d_Model_lengthFault_474 ?_
        exact ob_ie h (ob_iret d_Model_lengthFault_479 rfl rfl)
    · replace h := ob_ift hc h
      refine ob_push d_Model_lengthFault_316 ?_
      refine ob_goto d_Model_lengthFault_317 ?_
      refine ob_istore (lo2 := [(0, .int v0), (3, .int v3), (4, .int s0), (5, .int (1 : Int32))]) d_Model_lengthFault_321 rfl ?_
      refine ob_goto d_Model_lengthFault_323 ?_
      refine ob_iload d_Model_lengthFault_468 rfl ?_
      refine ob_if_eq d_Model_lengthFault_470 (fun hc => ?_) (fun hc => ?_)
      · replace h := ob_ift hc h
        refine ob_push d_Model_lengthFault_477 ?_
        exact ob_ie h (ob_iret d_Model_lengthFault_479 rfl rfl)
      · replace h := ob_iff hc h
        refine ob_push d_Model_lengthFault_473 ?_
        refine ob_goto d_Model_lengthFault_474 ?_
        exact ob_ie h (ob_iret d_Model_lengthFault_479 rfl rfl)
  replace h := ob_iff hs24 h
  by_cases hs25 : v0 = (3849 : Int32)
  · replace h := ob_ift hs25 h
    refine ob_lku (off := 412) (t := 433) d_Model_lengthFault_21 (by decide +kernel) (by rw [hs25]; decide +kernel) (by decide) ?_
    refine ob_iload d_Model_lengthFault_433 rfl ?_
    refine ob_push d_Model_lengthFault_434 ?_
    refine ob_icmp_ne d_Model_lengthFault_436 (fun hc => ?_) (fun hc => ?_)
    · replace h := ob_iff hc h
      refine ob_push d_Model_lengthFault_443 ?_
      refine ob_istore (lo2 := [(0, .int v0), (3, .int v3), (4, .int s0), (5, .int (0 : Int32))]) d_Model_lengthFault_444 rfl ?_
      refine ob_goto d_Model_lengthFault_446 ?_
      refine ob_iload d_Model_lengthFault_468 rfl ?_
      refine ob_if_eq d_Model_lengthFault_470 (fun hc => ?_) (fun hc => ?_)
      · replace h := ob_ift hc h
        refine ob_push d_Model_lengthFault_477 ?_
        exact ob_ie h (ob_iret d_Model_lengthFault_479 rfl rfl)
      · replace h := ob_iff hc h
        refine ob_push d_Model_lengthFault_473 ?_
        refine ob_goto d_Model_lengthFault_474 ?_
        exact ob_ie h (ob_iret d_Model_lengthFault_479 rfl rfl)
    · replace h := ob_ift hc h
      refine ob_push d_Model_lengthFault_439 ?_
      refine ob_goto d_Model_lengthFault_440 ?_
      refine ob_istore (lo2 := [(0, .int v0), (3, .int v3), (4, .int s0), (5, .int (1 : Int32))]) d_Model_lengthFault_444 rfl ?_
      refine ob_goto d_Model_lengthFault_446 ?_
      refine ob_iload d_Model_lengthFault_468 rfl ?_
      refine ob_if_eq d_Model_lengthFault_470 (fun hc => ?_) (fun hc => ?_)
      · replace h := ob_ift hc h
        refine ob_push d_Model_lengthFault_477 ?_
        exact ob_ie h (ob_iret d_Model_lengthFault_479 rfl rfl)
      · replace h := ob_iff hc h
        refine ob_push d_Model_lengthFault_473 ?_
        refine ob_goto d_Model_lengthFault_474 ?_
        exact ob_ie h (ob_iret d_Model_lengthFault_479 rfl rfl)
  replace h := ob_iff hs25 h
  by_cases hs26 : v0 = (3851 : Int32)
  · replace h := ob_ift hs26 h
    refine ob_lku (off := 320) (t := 341) d_Model_lengthFault_21 (by decide +kernel) (by rw [hs26]; decide +kernel) (by decide) ?_
    refine ob_iload d_Model_lengthFault_341 rfl ?_
    refine ob_push d_Model_lengthFault_342 ?_
    refine ob_icmp_ne d_Model_lengthFault_343 (fun hc => ?_) (fun hc => ?_)
    · replace h := ob_iff hc h
      refine ob_push d_Model_lengthFault_350 ?_
      refine ob_istore (lo2 := [(0, .int v0), (3, .int v3), (4, .int s0), (5, .int (0 : Int32))]) d_Model_lengthFault_351 rfl ?_
      refine ob_goto d_Model_lengthFault_353 ?_
      refine ob_iload d_Model_lengthFault_468 rfl ?_
      refine ob_if_eq d_Model_lengthFault_470 (fun hc => ?_) (fun hc => ?_)
      · replace h := ob_ift hc h
        refine ob_push d_Model_lengthFault_477 ?_
        exact ob_ie h (ob_iret d_Model_lengthFault_479 rfl rfl)
      · replace h := ob_iff hc h
        refine ob_push d_Model_lengthFault_473 ?_
        refine ob_goto d_Model_lengthFault_474 ?_
        exact ob_ie h (ob_iret d_Model_lengthFault_479 rfl rfl)
    · replace h := ob_ift hc h
      refine ob_push d_Model_lengthFault_346 ?_
      refine ob_goto d_Model_lengthFault_347 ?_
      refine ob_istore (lo2 := [(0, .int v0), (3, .int v3), (4, .int s0), (5, .int (1 : Int32))]) d_Model_lengthFault_351 rfl ?_
      refine ob_goto d_Model_lengthFault_353 ?_
      refine ob_iload d_Model_lengthFault_468 rfl ?_
      refine ob_if_eq d_Model_lengthFault_470 (fun hc => ?_) (fun hc => ?_)
      · replace h := ob_ift hc h
        refine ob_push d_Model_lengthFault_477 ?_
        exact ob_ie h (ob_iret d_Model_lengthFault_479 rfl rfl)
      · replace h := ob_iff hc h
        refine ob_push d_Model_lengthFault_473 ?_
        refine ob_goto d_Model_lengthFault_474 ?_
        exact ob_ie h (ob_iret d_Model_lengthFault_479 rfl rfl)
  replace h := ob_iff hs26 h
  by_cases hs27 : v0 = (3852 : Int32)
  · replace h := ob_ift hs27 h
    refine ob_lku (off := 351) (t := 372) d_Model_lengthFault_21 (by decide +kernel) (by rw [hs27]; decide +kernel) (by decide) ?_
    refine ob_iload d_Model_lengthFault_372 rfl ?_
    refine ob_if_ne d_Model_lengthFault_373 (fun hc => ?_) (fun hc => ?_)
    · replace h := ob_iff hc h
      refine ob_push d_Model_lengthFault_380 ?_
      refine ob_istore (lo2 := [(0, .int v0), (3, .int v3), (4, .int s0), (5, .int (0 : Int32))]) d_Model_lengthFault_381 rfl ?_
      refine ob_goto d_Model_lengthFault_383 ?_
      refine ob_iload d_Model_lengthFault_468 rfl ?_
      refine ob_if_eq d_Model_lengthFault_470 (fun hc => ?_) (fun hc => ?_)
      · replace h := ob_ift hc h
        refine ob_push d_Model_lengthFault_477 ?_
        exact ob_ie h (ob_iret d_Model_lengthFault_479 rfl rfl)
      · replace h := ob_iff hc h
        refine ob_push d_Model_lengthFault_473 ?_
        refine ob_goto d_Model_lengthFault_474 ?_
        exact ob_ie h (ob_iret d_Model_lengthFault_479 rfl rfl)
    · replace h := ob_ift hc h
      refine ob_push d_Model_lengthFault_376 ?_
      refine ob_goto d_Model_lengthFault_377 ?_
      refine ob_istore (lo2 := [(0, .int v0), (3, .int v3), (4, .int s0), (5, .int (1 : Int32))]) d_Model_lengthFault_381 rfl ?_
      refine ob_goto d_Model_lengthFault_383 ?_
      refine ob_iload d_Model_lengthFault_468 rfl ?_
      refine ob_if_eq d_Model_lengthFault_470 (fun hc => ?_) (fun hc => ?_)
      · replace h := ob_ift hc h
        refine ob_push d_Model_lengthFault_477 ?_
        exact ob_ie h (ob_iret d_Model_lengthFault_479 rfl rfl)
      · replace h := ob_iff hc h
        refine ob_push d_Model_lengthFault_473 ?_
        refine ob_goto d_Model_lengthFault_474 ?_
        exact ob_ie h (ob_iret d_Model_lengthFault_479 rfl rfl)
  replace h := ob_iff hs27 h
  by_cases hs28 : v0 = (4353 : Int32)
  · replace h := ob_ift hs28 h
    refine ob_lku (off := 351) (t := 372) d_Model_lengthFault_21 (by decide +kernel) (by rw [hs28]; decide +kernel) (by decide) ?_
    refine ob_iload d_Model_lengthFault_372 rfl ?_
    refine ob_if_ne d_Model_lengthFault_373 (fun hc => ?_) (fun hc => ?_)
    · replace h := ob_iff hc h
      refine ob_push d_Model_lengthFault_380 ?_
      refine ob_istore (lo2 := [(0, .int v0), (3, .int v3), (4, .int s0), (5, .int (0 : Int32))]) d_Model_lengthFault_381 rfl ?_
      refine ob_goto d_Model_lengthFault_383 ?_
      refine ob_iload d_Model_lengthFault_468 rfl ?_
      refine ob_if_eq d_Model_lengthFault_470 (fun hc => ?_) (fun hc => ?_)
      · replace h := ob_ift hc h
        refine ob_push d_Model_lengthFault_477 ?_
        exact ob_ie h (ob_iret d_Model_lengthFault_479 rfl rfl)
      · replace h := ob_iff hc h
        refine ob_push d_Model_lengthFault_473 ?_
        refine ob_goto d_Model_lengthFault_474 ?_
        exact ob_ie h (ob_iret d_Model_lengthFault_479 rfl rfl)
    · replace h := ob_ift hc h
      refine ob_push d_Model_lengthFault_376 ?_
      refine ob_goto d_Model_lengthFault_377 ?_
      refine ob_istore (lo2 := [(0, .int v0), (3, .int v3), (4, .int s0), (5, .int (1 : Int32))]) d_Model_lengthFault_381 rfl ?_
      refine ob_goto d_Model_lengthFault_383 ?_
      refine ob_iload d_Model_lengthFault_468 rfl ?_
      refine ob_if_eq d_Model_lengthFault_470 (fun hc => ?_) (fun hc => ?_)
      · replace h := ob_ift hc h
        refine ob_push d_Model_lengthFault_477 ?_
        exact ob_ie h (ob_iret d_Model_lengthFault_479 rfl rfl)
      · replace h := ob_iff hc h
        refine ob_push d_Model_lengthFault_473 ?_
        refine ob_goto d_Model_lengthFault_474 ?_
        exact ob_ie h (ob_iret d_Model_lengthFault_479 rfl rfl)
  replace h := ob_iff hs28 h
  by_cases hs29 : v0 = (4865 : Int32)
  · replace h := ob_ift hs29 h
    refine ob_lku (off := 428) (t := 449) d_Model_lengthFault_21 (by decide +kernel) (by rw [hs29]; decide +kernel) (by decide) ?_
    refine ob_iload d_Model_lengthFault_449 rfl ?_
    refine ob_push d_Model_lengthFault_450 ?_
    refine ob_icmp_lt d_Model_lengthFault_452 (fun hc => ?_) (fun hc => ?_)
    · replace h := ob_ift hc h
      refine ob_push d_Model_lengthFault_459 ?_
      refine ob_istore (lo2 := [(0, .int v0), (3, .int v3), (4, .int s0), (5, .int (0 : Int32))]) d_Model_lengthFault_460 rfl ?_
      refine ob_goto d_Model_lengthFault_462 ?_
      refine ob_iload d_Model_lengthFault_468 rfl ?_
      refine ob_if_eq d_Model_lengthFault_470 (fun hc => ?_) (fun hc => ?_)
      · replace h := ob_ift hc h
        refine ob_push d_Model_lengthFault_477 ?_
        exact ob_ie h (ob_iret d_Model_lengthFault_479 rfl rfl)
      · replace h := ob_iff hc h
        refine ob_push d_Model_lengthFault_473 ?_
        refine ob_goto d_Model_lengthFault_474 ?_
        exact ob_ie h (ob_iret d_Model_lengthFault_479 rfl rfl)
    · replace h := ob_iff hc h
      refine ob_push d_Model_lengthFault_455 ?_
      refine ob_goto d_Model_lengthFault_456 ?_
      refine ob_istore (lo2 := [(0, .int v0), (3, .int v3), (4, .int s0), (5, .int (1 : Int32))]) d_Model_lengthFault_460 rfl ?_
      refine ob_goto d_Model_lengthFault_462 ?_
      refine ob_iload d_Model_lengthFault_468 rfl ?_
      refine ob_if_eq d_Model_lengthFault_470 (fun hc => ?_) (fun hc => ?_)
      · replace h := ob_ift hc h
        refine ob_push d_Model_lengthFault_477 ?_
        exact ob_ie h (ob_iret d_Model_lengthFault_479 rfl rfl)
      · replace h := ob_iff hc h
        refine ob_push d_Model_lengthFault_473 ?_
        refine ob_goto d_Model_lengthFault_474 ?_
        exact ob_ie h (ob_iret d_Model_lengthFault_479 rfl rfl)
  replace h := ob_iff hs29 h
  by_cases hs30 : v0 = (4866 : Int32)
  · replace h := ob_ift hs30 h
    refine ob_lku (off := 290) (t := 311) d_Model_lengthFault_21 (by decide +kernel) (by rw [hs30]; decide +kernel) (by decide) ?_
    refine ob_iload d_Model_lengthFault_311 rfl ?_
    refine ob_push d_Model_lengthFault_312 ?_
    refine ob_icmp_ne d_Model_lengthFault_313 (fun hc => ?_) (fun hc => ?_)
    · replace h := ob_iff hc h
      refine ob_push d_Model_lengthFault_320 ?_
      refine ob_istore (lo2 := [(0, .int v0), (3, .int v3), (4, .int s0), (5, .int (0 : Int32))]) d_Model_lengthFault_321 rfl ?_
      refine ob_goto d_Model_lengthFault_323 ?_
      refine ob_iload d_Model_lengthFault_468 rfl ?_
      refine ob_if_eq d_Model_lengthFault_470 (fun hc => ?_) (fun hc => ?_)
      · replace h := ob_ift hc h
        refine ob_push d_Model_lengthFault_477 ?_
        exact ob_ie h (ob_iret d_Model_lengthFault_479 rfl rfl)
      · replace h := ob_iff hc h
        refine ob_push d_Model_lengthFault_473 ?_
        refine ob_goto d_Model_lengthFault_474 ?_
        exact ob_ie h (ob_iret d_Model_lengthFault_479 rfl rfl)
    · replace h := ob_ift hc h
      refine ob_push d_Model_lengthFault_316 ?_
      refine ob_goto d_Model_lengthFault_317 ?_
      refine ob_istore (lo2 := [(0, .int v0), (3, .int v3), (4, .int s0), (5, .int (1 : Int32))]) d_Model_lengthFault_321 rfl ?_
      refine ob_goto d_Model_lengthFault_323 ?_
      refine ob_iload d_Model_lengthFault_468 rfl ?_
      refine ob_if_eq d_Model_lengthFault_470 (fun hc => ?_) (fun hc => ?_)
      · replace h := ob_ift hc h
        refine ob_push d_Model_lengthFault_477 ?_
        exact ob_ie h (ob_iret d_Model_lengthFault_479 rfl rfl)
      · replace h := ob_iff hc h
        refine ob_push d_Model_lengthFault_473 ?_
        refine ob_goto d_Model_lengthFault_474 ?_
        exact ob_ie h (ob_iret d_Model_lengthFault_479 rfl rfl)
  replace h := ob_iff hs30 h
  by_cases hs31 : v0 = (4868 : Int32)
  · replace h := ob_ift hs31 h
    refine ob_lku (off := 290) (t := 311) d_Model_lengthFault_21 (by decide +kernel) (by rw [hs31]; decide +kernel) (by decide) ?_
    refine ob_iload d_Model_lengthFault_311 rfl ?_
    refine ob_push d_Model_lengthFault_312 ?_
    refine ob_icmp_ne d_Model_lengthFault_313 (fun hc => ?_) (fun hc => ?_)
    · replace h := ob_iff hc h
      refine ob_push d_Model_lengthFault_320 ?_
      refine ob_istore (lo2 := [(0, .int v0), (3, .int v3), (4, .int s0), (5, .int (0 : Int32))]) d_Model_lengthFault_321 rfl ?_
      refine ob_goto d_Model_lengthFault_323 ?_
      refine ob_iload d_Model_lengthFault_468 rfl ?_
      refine ob_if_eq d_Model_lengthFault_470 (fun hc => ?_) (fun hc => ?_)
      · replace h := ob_ift hc h
        refine ob_push d_Model_lengthFault_477 ?_
        exact ob_ie h (ob_iret d_Model_lengthFault_479 rfl rfl)
      · replace h := ob_iff hc h
        refine ob_push d_Model_lengthFault_473 ?_
        refine ob_goto d_Model_lengthFault_474 ?_
        exact ob_ie h (ob_iret d_Model_lengthFault_479 rfl rfl)
    · replace h := ob_ift hc h
      refine ob_push d_Model_lengthFault_316 ?_
      refine ob_goto d_Model_lengthFault_317 ?_
      refine ob_istore (lo2 := [(0, .int v0), (3, .int v3), (4, .int s0), (5, .int (1 : Int32))]) d_Model_lengthFault_321 rfl ?_
      refine ob_goto d_Model_lengthFault_323 ?_
      refine ob_iload d_Model_lengthFault_468 rfl ?_
      refine ob_if_eq d_Model_lengthFault_470 (fun hc => ?_) (fun hc => ?_)
      · replace h := ob_ift hc h
        refine ob_push d_Model_lengthFault_477 ?_
        exact ob_ie h (ob_iret d_Model_lengthFault_479 rfl rfl)
      · replace h := ob_iff hc h
        refine ob_push d_Model_lengthFault_473 ?_
        refine ob_goto d_Model_lengthFault_474 ?_
        exact ob_ie h (ob_iret d_Model_lengthFault_479 rfl rfl)
  replace h := ob_iff hs31 h
  by_cases hs32 : v0 = (4869 : Int32)
  · replace h := ob_ift hs32 h
    refine ob_lku (off := 290) (t := 311) d_Model_lengthFault_21 (by decide +kernel) (by rw [hs32]; decide +kernel) (by decide) ?_
    refine ob_iload d_Model_lengthFault_311 rfl ?_
    refine ob_push d_Model_lengthFault_312 ?_
    refine ob_icmp_ne d_Model_lengthFault_313 (fun hc => ?_) (fun hc => ?_)
    · replace h := ob_iff hc h
      refine ob_push d_Model_lengthFault_320 ?_
      refine ob_istore (lo2 := [(0, .int v0), (3, .int v3), (4, .int s0), (5, .int (0 : Int32))]) d_Model_lengthFault_321 rfl ?_
      refine ob_goto d_Model_lengthFault_323 ?_
      refine ob_iload d_Model_lengthFault_468 rfl ?_
      refine ob_if_eq d_Model_lengthFault_470 (fun hc => ?_) (fun hc => ?_)
      · replace h := ob_ift hc h
        refine ob_push d_Model_lengthFault_477 ?_
        exact ob_ie h (ob_iret d_Model_lengthFault_479 rfl rfl)
      · replace h := ob_iff hc h
        refine ob_push d_Model_lengthFault_473 ?_
        refine ob_goto d_Model_lengthFault_474 ?_
        exact ob_ie h (ob_iret d_Model_lengthFault_479 rfl rfl)
    · replace h := ob_ift hc h
      refine ob_push d_Model_lengthFault_316 ?_
      refine ob_goto d_Model_lengthFault_317 ?_
      refine ob_istore (lo2 := [(0, .int v0), (3, .int v3), (4, .int s0), (5, .int (1 : Int32))]) d_Model_lengthFault_321 rfl ?_
      refine ob_goto d_Model_lengthFault_323 ?_
      refine ob_iload d_Model_lengthFault_468 rfl ?_
      refine ob_if_eq d_Model_lengthFault_470 (fun hc => ?_) (fun hc => ?_)
      · replace h := ob_ift hc h
        refine ob_push d_Model_lengthFault_477 ?_
        exact ob_ie h (ob_iret d_Model_lengthFault_479 rfl rfl)
      · replace h := ob_iff hc h
        refine ob_push d_Model_lengthFault_473 ?_
        refine ob_goto d_Model_lengthFault_474 ?_
        exact ob_ie h (ob_iret d_Model_lengthFault_479 rfl rfl)
  replace h := ob_iff hs32 h
  refine ob_lku (off := 444) (t := 465) d_Model_lengthFault_21 (by decide +kernel) ((lv_osw hs1 (by decide)).trans ((lv_osw hs2 (by decide)).trans ((lv_osw hs3 (by decide)).trans ((lv_osw hs4 (by decide)).trans ((lv_osw hs5 (by decide)).trans ((lv_osw hs6 (by decide)).trans ((lv_osw hs7 (by decide)).trans ((lv_osw hs8 (by decide)).trans ((lv_osw hs9 (by decide)).trans ((lv_osw hs10 (by decide)).trans ((lv_osw hs11 (by decide)).trans ((lv_osw hs12 (by decide)).trans ((lv_osw hs13 (by decide)).trans ((lv_osw hs14 (by decide)).trans ((lv_osw hs15 (by decide)).trans ((lv_osw hs16 (by decide)).trans ((lv_osw hs17 (by decide)).trans ((lv_osw hs18 (by decide)).trans ((lv_osw hs19 (by decide)).trans ((lv_osw hs20 (by decide)).trans ((lv_osw hs21 (by decide)).trans ((lv_osw hs22 (by decide)).trans ((lv_osw hs23 (by decide)).trans ((lv_osw hs24 (by decide)).trans ((lv_osw hs25 (by decide)).trans ((lv_osw hs26 (by decide)).trans ((lv_osw hs27 (by decide)).trans ((lv_osw hs28 (by decide)).trans ((lv_osw hs29 (by decide)).trans ((lv_osw hs30 (by decide)).trans ((lv_osw hs31 (by decide)).trans ((lv_osw hs32 (by decide)).trans (rfl))))))))))))))))))))))))))))))))) (by decide) ?_
  refine ob_push d_Model_lengthFault_465 ?_
  exact ob_ie h (ob_iret d_Model_lengthFault_467 rfl rfl)
def f_Model_lengthFault (S : ob_S) (v0 : Int32) (v1 : Nat) (v2 : Int32) (v3 : Int32) (D : ob_D) : Option (Int32 × ob_D) :=
  (if v3 ≤ (2 : Int32) then f_Model_lengthFault_L18 S v0 v3 (0 : Int32) D else if ob_in (v2 + (2 : Int32)) (S.2.1 v1) then f_Model_lengthFault_L18 S v0 v3 ((D.1 v1 (v2 + (2 : Int32)).toNatClampNeg) &&& (255 : Int32)) D else none)
theorem c_Model_lengthFault {l : Launch} {E : ob_E} {S : ob_S} {D : ob_D} {v0 : Int32} {v1 : Nat} {v2 : Int32} {v3 : Int32} {r : Int32} {D' : ob_D} (hp_v1 : S.1 v1 = 21) (h : f_Model_lengthFault S v0 v1 v2 v3 D = some (r, D')) : ob_M l E k_Model_lengthFault [.int v0, .ref v1, .int v2, .int v3] S D (some (.int r)) S D' := by
  refine ob_ofV (lo := [(0, .int v0), (1, .ref v1), (2, .int v2), (3, .int v3)]) (by decide) rfl (Nat.le_of_ble_eq_true rfl) rfl (Nat.le_refl _) (Nat.le_refl _) ?_
  rw [f_Model_lengthFault] at h
  refine ob_iload d_Model_lengthFault_0 rfl ?_
  refine ob_push d_Model_lengthFault_1 ?_
  refine ob_icmp_le d_Model_lengthFault_2 (fun hc => ?_) (fun hc => ?_)
  · replace h := ob_ift hc h
    refine ob_push d_Model_lengthFault_17 ?_
    refine ob_sub (lo2 := [(0, .int v0), (3, .int v3)]) [0, 3] rfl ?_
    exact v_Model_lengthFault_L18 v0 v3 (0 : Int32) D  h
  · replace h := ob_iff hc h
    refine ob_aload d_Model_lengthFault_5 rfl ?_
    refine ob_iload d_Model_lengthFault_6 rfl ?_
    refine ob_push d_Model_lengthFault_7 ?_
    refine ob_iadd d_Model_lengthFault_8 ?_
    obtain ⟨hg33, h⟩ := ob_gd h
    refine ob_bald d_Model_lengthFault_9 hp_v1 hg33 ?_
    refine ob_push d_Model_lengthFault_10 ?_
    refine ob_iand d_Model_lengthFault_13 ?_
    refine ob_goto d_Model_lengthFault_14 ?_
    refine ob_sub (lo2 := [(0, .int v0), (3, .int v3)]) [0, 3] rfl ?_
    exact v_Model_lengthFault_L18 v0 v3 ((D.1 v1 (v2 + (2 : Int32)).toNatClampNeg) &&& (255 : Int32)) D  h
-- OrbitBoxModel.faultOf([BII)I
theorem d_Model_faultOf_1 : ob_dk k_Model_faultOf 1 3 (13 : Int32) (.bipush 13) 2 := ⟨by decide +kernel, rfl, show (Int8.ofInt 13).toInt32 = (13 : Int32) by decide +kernel⟩
theorem d_Model_faultOf_20 : ob_dk k_Model_faultOf 20 21 (1 : Int32) (.iconst 1) 1 := ⟨by decide +kernel, rfl, show Int32.ofInt 1 = (1 : Int32) by decide +kernel⟩
theorem d_Model_faultOf_21 : ob_dc k_Model_faultOf 21 (.ireturn) 1 22 := ⟨by decide +kernel, rfl⟩
theorem d_Model_faultOf_8 : ob_dk k_Model_faultOf 8 9 (4 : Int32) (.iconst 4) 1 := ⟨by decide +kernel, rfl, show Int32.ofInt 4 = (4 : Int32) by decide +kernel⟩
theorem d_Model_faultOf_13 : ob_dk k_Model_faultOf 13 15 (7 : Int32) (.bipush 7) 2 := ⟨by decide +kernel, rfl, show (Int8.ofInt 7).toInt32 = (7 : Int32) by decide +kernel⟩
theorem d_Model_faultOf_36 : ob_dk k_Model_faultOf 36 39 (255 : Int32) (.sipush 255) 3 := ⟨by decide +kernel, rfl, show (Int16.ofInt 255).toInt32 = (255 : Int32) by decide +kernel⟩
theorem d_Model_faultOf_40 : ob_dk k_Model_faultOf 40 41 (3 : Int32) (.iconst 3) 1 := ⟨by decide +kernel, rfl, show Int32.ofInt 3 = (3 : Int32) by decide +kernel⟩
theorem d_Model_faultOf_42 : ob_dk k_Model_faultOf 42 43 (3 : Int32) (.iconst 3) 1 := ⟨by decide +kernel, rfl, show Int32.ofInt 3 = (3 : Int32) by decide +kernel⟩
theorem d_Model_faultOf_62 : ob_dk k_Model_faultOf 62 63 (3 : Int32) (.iconst 3) 1 := ⟨by decide +kernel, rfl, show Int32.ofInt 3 = (3 : Int32) by decide +kernel⟩
theorem d_Model_faultOf_63 : ob_dc k_Model_faultOf 63 (.ireturn) 1 64 := ⟨by decide +kernel, rfl⟩
theorem d_Model_faultOf_48 : ob_dk k_Model_faultOf 48 49 (2 : Int32) (.iconst 2) 1 := ⟨by decide +kernel, rfl, show Int32.ofInt 2 = (2 : Int32) by decide +kernel⟩
theorem d_Model_faultOf_51 : ob_dk k_Model_faultOf 51 54 (255 : Int32) (.sipush 255) 3 := ⟨by decide +kernel, rfl, show (Int16.ofInt 255).toInt32 = (255 : Int32) by decide +kernel⟩
theorem d_Model_faultOf_55 : ob_dk k_Model_faultOf 55 57 (6 : Int32) (.bipush 6) 2 := ⟨by decide +kernel, rfl, show (Int8.ofInt 6).toInt32 = (6 : Int32) by decide +kernel⟩
theorem d_Model_faultOf_58 : ob_dk k_Model_faultOf 58 59 (3 : Int32) (.iconst 3) 1 := ⟨by decide +kernel, rfl, show Int32.ofInt 3 = (3 : Int32) by decide +kernel⟩
theorem d_Model_faultOf_69 : ob_dk k_Model_faultOf 69 72 (2047 : Int32) (.sipush 2047) 3 := ⟨by decide +kernel, rfl, show (Int16.ofInt 2047).toInt32 = (2047 : Int32) by decide +kernel⟩
theorem d_Model_faultOf_73 : ob_dk k_Model_faultOf 73 75 (42 : Int32) (.bipush 42) 2 := ⟨by decide +kernel, rfl, show (Int8.ofInt 42).toInt32 = (42 : Int32) by decide +kernel⟩
theorem d_Model_faultOf_82 : ob_dk k_Model_faultOf 82 84 (6 : Int32) (.bipush 6) 2 := ⟨by decide +kernel, rfl, show (Int8.ofInt 6).toInt32 = (6 : Int32) by decide +kernel⟩
theorem d_Model_faultOf_86 : ob_dk k_Model_faultOf 86 89 (255 : Int32) (.sipush 255) 3 := ⟨by decide +kernel, rfl, show (Int16.ofInt 255).toInt32 = (255 : Int32) by decide +kernel⟩
theorem d_Model_faultOf_90 : ob_dk k_Model_faultOf 90 91 (4 : Int32) (.iconst 4) 1 := ⟨by decide +kernel, rfl, show Int32.ofInt 4 = (4 : Int32) by decide +kernel⟩
theorem d_Model_faultOf_92 : ob_dk k_Model_faultOf 92 93 (2 : Int32) (.iconst 2) 1 := ⟨by decide +kernel, rfl, show Int32.ofInt 2 = (2 : Int32) by decide +kernel⟩
theorem d_Model_faultOf_100 : ob_dk k_Model_faultOf 100 102 (7 : Int32) (.bipush 7) 2 := ⟨by decide +kernel, rfl, show (Int8.ofInt 7).toInt32 = (7 : Int32) by decide +kernel⟩
theorem d_Model_faultOf_108 : ob_dk k_Model_faultOf 108 110 (11 : Int32) (.bipush 11) 2 := ⟨by decide +kernel, rfl, show (Int8.ofInt 11).toInt32 = (11 : Int32) by decide +kernel⟩
theorem d_Model_faultOf_112 : ob_dk k_Model_faultOf 112 114 (13 : Int32) (.bipush 13) 2 := ⟨by decide +kernel, rfl, show (Int8.ofInt 13).toInt32 = (13 : Int32) by decide +kernel⟩
theorem d_Model_faultOf_118 : ob_dc k_Model_faultOf 118 (.ireturn) 1 119 := ⟨by decide +kernel, rfl⟩
theorem d_Model_faultOf_115 : ob_dc k_Model_faultOf 115 (.invokestatic 254) 3 118 := ⟨by decide +kernel, rfl⟩
theorem d_Model_faultOf_114 : ob_dc k_Model_faultOf 114 (.isub) 1 115 := ⟨by decide +kernel, rfl⟩
theorem d_Model_faultOf_111 : ob_dv ob_lc k_Model_faultOf 111 112 2 (.iload_n 2) 1 := ⟨by decide +kernel, rfl, rfl⟩
theorem d_Model_faultOf_110 : ob_dc k_Model_faultOf 110 (.iadd) 1 111 := ⟨by decide +kernel, rfl⟩
theorem d_Model_faultOf_107 : ob_dv ob_lc k_Model_faultOf 107 108 1 (.iload_n 1) 1 := ⟨by decide +kernel, rfl, rfl⟩
theorem d_Model_faultOf_106 : ob_dv ob_ac k_Model_faultOf 106 107 0 (.aload_n 0) 1 := ⟨by decide +kernel, rfl, rfl⟩
theorem d_Model_faultOf_103 : ob_dc k_Model_faultOf 103 (.invokestatic 180) 3 106 := ⟨by decide +kernel, rfl⟩
theorem d_Model_faultOf_102 : ob_dc k_Model_faultOf 102 (.iadd) 1 103 := ⟨by decide +kernel, rfl⟩
theorem d_Model_faultOf_99 : ob_dv ob_lc k_Model_faultOf 99 100 1 (.iload_n 1) 1 := ⟨by decide +kernel, rfl, rfl⟩
theorem d_Model_faultOf_98 : ob_dv ob_ac k_Model_faultOf 98 99 0 (.aload_n 0) 1 := ⟨by decide +kernel, rfl, rfl⟩
theorem d_Model_faultOf_96 : ob_dk k_Model_faultOf 96 97 (5 : Int32) (.iconst 5) 1 := ⟨by decide +kernel, rfl, show Int32.ofInt 5 = (5 : Int32) by decide +kernel⟩
theorem d_Model_faultOf_97 : ob_dc k_Model_faultOf 97 (.ireturn) 1 98 := ⟨by decide +kernel, rfl⟩
theorem d_Model_faultOf_93 : ob_db k_Model_faultOf 93 (.if_icmp .eq 5) 5 96 98 := ⟨by decide +kernel, rfl, by decide⟩
theorem d_Model_faultOf_91 : ob_dc k_Model_faultOf 91 (.ishr) 1 92 := ⟨by decide +kernel, rfl⟩
theorem d_Model_faultOf_89 : ob_dc k_Model_faultOf 89 (.iand) 1 90 := ⟨by decide +kernel, rfl⟩
theorem d_Model_faultOf_85 : ob_dc k_Model_faultOf 85 (.baload) 1 86 := ⟨by decide +kernel, rfl⟩
theorem d_Model_faultOf_84 : ob_dc k_Model_faultOf 84 (.iadd) 1 85 := ⟨by decide +kernel, rfl⟩
theorem d_Model_faultOf_81 : ob_dv ob_lc k_Model_faultOf 81 82 1 (.iload_n 1) 1 := ⟨by decide +kernel, rfl, rfl⟩
theorem d_Model_faultOf_80 : ob_dv ob_ac k_Model_faultOf 80 81 0 (.aload_n 0) 1 := ⟨by decide +kernel, rfl, rfl⟩
theorem d_Model_faultOf_78 : ob_dk k_Model_faultOf 78 79 (4 : Int32) (.iconst 4) 1 := ⟨by decide +kernel, rfl, show Int32.ofInt 4 = (4 : Int32) by decide +kernel⟩
theorem d_Model_faultOf_79 : ob_dc k_Model_faultOf 79 (.ireturn) 1 80 := ⟨by decide +kernel, rfl⟩
theorem d_Model_faultOf_75 : ob_db k_Model_faultOf 75 (.if_icmp .eq 5) 5 78 80 := ⟨by decide +kernel, rfl, by decide⟩
theorem d_Model_faultOf_72 : ob_dc k_Model_faultOf 72 (.iand) 1 73 := ⟨by decide +kernel, rfl⟩
theorem d_Model_faultOf_66 : ob_dc k_Model_faultOf 66 (.invokestatic 180) 3 69 := ⟨by decide +kernel, rfl⟩
theorem d_Model_faultOf_65 : ob_dv ob_lc k_Model_faultOf 65 66 1 (.iload_n 1) 1 := ⟨by decide +kernel, rfl, rfl⟩
theorem d_Model_faultOf_64 : ob_dv ob_ac k_Model_faultOf 64 65 0 (.aload_n 0) 1 := ⟨by decide +kernel, rfl, rfl⟩
theorem d_Model_faultOf_59 : ob_db k_Model_faultOf 59 (.if_icmp .eq 5) 5 62 64 := ⟨by decide +kernel, rfl, by decide⟩
theorem d_Model_faultOf_57 : ob_dc k_Model_faultOf 57 (.ishr) 1 58 := ⟨by decide +kernel, rfl⟩
theorem d_Model_faultOf_54 : ob_dc k_Model_faultOf 54 (.iand) 1 55 := ⟨by decide +kernel, rfl⟩
theorem d_Model_faultOf_50 : ob_dc k_Model_faultOf 50 (.baload) 1 51 := ⟨by decide +kernel, rfl⟩
theorem d_Model_faultOf_49 : ob_dc k_Model_faultOf 49 (.iadd) 1 50 := ⟨by decide +kernel, rfl⟩
theorem d_Model_faultOf_47 : ob_dv ob_lc k_Model_faultOf 47 48 1 (.iload_n 1) 1 := ⟨by decide +kernel, rfl, rfl⟩
theorem d_Model_faultOf_46 : ob_dv ob_ac k_Model_faultOf 46 47 0 (.aload_n 0) 1 := ⟨by decide +kernel, rfl, rfl⟩
theorem d_Model_faultOf_43 : ob_db k_Model_faultOf 43 (.if_icmp .ne 19) 19 46 62 := ⟨by decide +kernel, rfl, by decide⟩
theorem d_Model_faultOf_41 : ob_dc k_Model_faultOf 41 (.ishr) 1 42 := ⟨by decide +kernel, rfl⟩
theorem d_Model_faultOf_39 : ob_dc k_Model_faultOf 39 (.iand) 1 40 := ⟨by decide +kernel, rfl⟩
theorem d_Model_faultOf_35 : ob_dc k_Model_faultOf 35 (.baload) 1 36 := ⟨by decide +kernel, rfl⟩
theorem d_Model_faultOf_34 : ob_dv ob_lc k_Model_faultOf 34 35 1 (.iload_n 1) 1 := ⟨by decide +kernel, rfl, rfl⟩
theorem d_Model_faultOf_33 : ob_dv ob_ac k_Model_faultOf 33 34 0 (.aload_n 0) 1 := ⟨by decide +kernel, rfl, rfl⟩
theorem d_Model_faultOf_31 : ob_dk k_Model_faultOf 31 32 (2 : Int32) (.iconst 2) 1 := ⟨by decide +kernel, rfl, show Int32.ofInt 2 = (2 : Int32) by decide +kernel⟩
theorem d_Model_faultOf_32 : ob_dc k_Model_faultOf 32 (.ireturn) 1 33 := ⟨by decide +kernel, rfl⟩
theorem d_Model_faultOf_28 : ob_db k_Model_faultOf 28 (.ifCond .eq 5) 5 31 33 := ⟨by decide +kernel, rfl, by decide⟩
theorem d_Model_faultOf_25 : ob_dc k_Model_faultOf 25 (.invokestatic 214) 3 28 := ⟨by decide +kernel, rfl⟩
theorem d_Model_faultOf_24 : ob_dv ob_lc k_Model_faultOf 24 25 2 (.iload_n 2) 1 := ⟨by decide +kernel, rfl, rfl⟩
theorem d_Model_faultOf_23 : ob_dv ob_lc k_Model_faultOf 23 24 1 (.iload_n 1) 1 := ⟨by decide +kernel, rfl, rfl⟩
theorem d_Model_faultOf_22 : ob_dv ob_ac k_Model_faultOf 22 23 0 (.aload_n 0) 1 := ⟨by decide +kernel, rfl, rfl⟩
theorem d_Model_faultOf_17 : ob_db k_Model_faultOf 17 (.if_icmp .eq 5) 5 20 22 := ⟨by decide +kernel, rfl, by decide⟩
theorem d_Model_faultOf_16 : ob_dv ob_lc k_Model_faultOf 16 17 2 (.iload_n 2) 1 := ⟨by decide +kernel, rfl, rfl⟩
theorem d_Model_faultOf_15 : ob_dc k_Model_faultOf 15 (.iadd) 1 16 := ⟨by decide +kernel, rfl⟩
theorem d_Model_faultOf_10 : ob_dc k_Model_faultOf 10 (.invokestatic 180) 3 13 := ⟨by decide +kernel, rfl⟩
theorem d_Model_faultOf_9 : ob_dc k_Model_faultOf 9 (.iadd) 1 10 := ⟨by decide +kernel, rfl⟩
theorem d_Model_faultOf_7 : ob_dv ob_lc k_Model_faultOf 7 8 1 (.iload_n 1) 1 := ⟨by decide +kernel, rfl, rfl⟩
theorem d_Model_faultOf_6 : ob_dv ob_ac k_Model_faultOf 6 7 0 (.aload_n 0) 1 := ⟨by decide +kernel, rfl, rfl⟩
theorem d_Model_faultOf_3 : ob_db k_Model_faultOf 3 (.if_icmp .lt 17) 17 6 20 := ⟨by decide +kernel, rfl, by decide⟩
theorem d_Model_faultOf_0 : ob_dv ob_lc k_Model_faultOf 0 1 2 (.iload_n 2) 1 := ⟨by decide +kernel, rfl, rfl⟩
theorem c_Model_faultOf_254 : ob_sd k_Model_faultOf k_Model_lengthFault 254 4 := ⟨cw_Model_lengthFault, yd_Model_lengthFault, w_1449, w_1450, w_14, by decide, by decide⟩
theorem c_Model_faultOf_180 : ob_sd k_Model_faultOf k_Model_two 180 2 := ⟨cw_Model_two, yd_Model_two, w_1400, w_1401, w_14, by decide, by decide⟩
theorem c_Model_faultOf_214 : ob_sd k_Model_faultOf k_Model_check 214 3 := ⟨cw_Model_check, yd_Model_check, w_1403, w_1404, w_14, by decide, by decide⟩
def f_Model_faultOf (S : ob_S) (v0 : Nat) (v1 : Int32) (v2 : Int32) (D : ob_D) : Option (Int32 × ob_D) :=
  (if v2 < (13 : Int32) then some ((1 : Int32), D) else ob_bd (f_Model_two S v0 (v1 + (4 : Int32)) D) fun x3 D1 => (if (x3 + (7 : Int32)) = v2 then ob_bd (f_Model_check S v0 v1 v2 D1) fun x6 D4 => (if x6 = 0 then if ob_in v1 (S.2.1 v0) then (if (((D4.1 v0 v1.toNatClampNeg) &&& (255 : Int32)) >>> ((3 : Int32) &&& 31)) = (3 : Int32) then if ob_in (v1 + (2 : Int32)) (S.2.1 v0) then (if (((D4.1 v0 (v1 + (2 : Int32)).toNatClampNeg) &&& (255 : Int32)) >>> ((6 : Int32) &&& 31)) = (3 : Int32) then ob_bd (f_Model_two S v0 v1 D4) fun x11 D9 => (if (x11 &&& (2047 : Int32)) = (42 : Int32) then if ob_in (v1 + (6 : Int32)) (S.2.1 v0) then (if (((D9.1 v0 (v1 + (6 : Int32)).toNatClampNeg) &&& (255 : Int32)) >>> ((4 : Int32) &&& 31)) = (2 : Int32) then ob_bd (f_Model_two S v0 (v1 + (7 : Int32)) D9) fun x15 D13 => ob_bd (f_Model_lengthFault S x15 v0 (v1 + (11 : Int32)) (v2 - (13 : Int32)) D13) fun x18 D16 => some (x18, D16) else some ((5 : Int32), D9)) else none else some ((4 : Int32), D9)) else some ((3 : Int32), D4)) else none else some ((3 : Int32), D4)) else none else some ((2 : Int32), D4)) else some ((1 : Int32), D1)))
theorem c_Model_faultOf {l : Launch} {E : ob_E} {S : ob_S} {D : ob_D} {v0 : Nat} {v1 : Int32} {v2 : Int32} {r : Int32} {D' : ob_D} (hp_v0 : S.1 v0 = 21) (h : f_Model_faultOf S v0 v1 v2 D = some (r, D')) : ob_M l E k_Model_faultOf [.ref v0, .int v1, .int v2] S D (some (.int r)) S D' := by
  refine ob_ofV (lo := [(0, .ref v0), (1, .int v1), (2, .int v2)]) (by decide) rfl (Nat.le_of_ble_eq_true rfl) rfl (Nat.le_refl _) (Nat.le_refl _) ?_
  rw [f_Model_faultOf] at h
  refine ob_iload d_Model_faultOf_0 rfl ?_
  refine ob_push d_Model_faultOf_1 ?_
  refine ob_icmp_lt d_Model_faultOf_3 (fun hc => ?_) (fun hc => ?_)
  · replace h := ob_ift hc h
    refine ob_push d_Model_faultOf_20 ?_
    exact ob_ie h (ob_iret d_Model_faultOf_21 rfl rfl)
  · replace h := ob_iff hc h
    refine ob_aload d_Model_faultOf_6 rfl ?_
    refine ob_iload d_Model_faultOf_7 rfl ?_
    refine ob_push d_Model_faultOf_8 ?_
    refine ob_iadd d_Model_faultOf_9 ?_
    obtain ⟨x3, D1, h2, h⟩ := ob_bd_e h
    refine ob_callSi (As := [.ref v0, .int (v1 + (4 : Int32))]) (rest := []) d_Model_faultOf_10 c_Model_faultOf_180 rfl rfl (Nat.le_of_ble_eq_true rfl) (c_Model_two hp_v0 h2) ⟨Nat.le_refl _, Nat.le_refl _⟩ ⟨Nat.le_refl _, Nat.le_refl _⟩ ?_
    refine ob_push d_Model_faultOf_13 ?_
    refine ob_iadd d_Model_faultOf_15 ?_
    refine ob_iload d_Model_faultOf_16 rfl ?_
    refine ob_icmp_eq d_Model_faultOf_17 (fun hc => ?_) (fun hc => ?_)
    · replace h := ob_ift hc h
      refine ob_aload d_Model_faultOf_22 rfl ?_
      refine ob_iload d_Model_faultOf_23 rfl ?_
      refine ob_iload d_Model_faultOf_24 rfl ?_
      obtain ⟨x6, D4, h5, h⟩ := ob_bd_e h
      refine ob_callSi (As := [.ref v0, .int v1, .int v2]) (rest := []) d_Model_faultOf_25 c_Model_faultOf_214 rfl rfl (Nat.le_of_ble_eq_true rfl) (c_Model_check hp_v0 h5) ⟨Nat.le_refl _, Nat.le_refl _⟩ ⟨Nat.le_refl _, Nat.le_refl _⟩ ?_
      refine ob_if_eq d_Model_faultOf_28 (fun hc => ?_) (fun hc => ?_)
      · replace h := ob_ift hc h
        refine ob_aload d_Model_faultOf_33 rfl ?_
        refine ob_iload d_Model_faultOf_34 rfl ?_
        obtain ⟨hg7, h⟩ := ob_gd h
        refine ob_bald d_Model_faultOf_35 hp_v0 hg7 ?_
        refine ob_push d_Model_faultOf_36 ?_
        refine ob_iand d_Model_faultOf_39 ?_
        refine ob_push d_Model_faultOf_40 ?_
        refine ob_ishr d_Model_faultOf_41 ?_
        refine ob_push d_Model_faultOf_42 ?_
        refine ob_icmp_ne d_Model_faultOf_43 (fun hc => ?_) (fun hc => ?_)
        · replace h := ob_iff hc h
          refine ob_push d_Model_faultOf_62 ?_
          exact ob_ie h (ob_iret d_Model_faultOf_63 rfl rfl)
        · replace h := ob_ift hc h
          refine ob_aload d_Model_faultOf_46 rfl ?_
          refine ob_iload d_Model_faultOf_47 rfl ?_
          refine ob_push d_Model_faultOf_48 ?_
          refine ob_iadd d_Model_faultOf_49 ?_
          obtain ⟨hg8, h⟩ := ob_gd h
          refine ob_bald d_Model_faultOf_50 hp_v0 hg8 ?_
          refine ob_push d_Model_faultOf_51 ?_
          refine ob_iand d_Model_faultOf_54 ?_
          refine ob_push d_Model_faultOf_55 ?_
          refine ob_ishr d_Model_faultOf_57 ?_
          refine ob_push d_Model_faultOf_58 ?_
          refine ob_icmp_eq d_Model_faultOf_59 (fun hc => ?_) (fun hc => ?_)
          · replace h := ob_ift hc h
            refine ob_aload d_Model_faultOf_64 rfl ?_
            refine ob_iload d_Model_faultOf_65 rfl ?_
            obtain ⟨x11, D9, h10, h⟩ := ob_bd_e h
            refine ob_callSi (As := [.ref v0, .int v1]) (rest := []) d_Model_faultOf_66 c_Model_faultOf_180 rfl rfl (Nat.le_of_ble_eq_true rfl) (c_Model_two hp_v0 h10) ⟨Nat.le_refl _, Nat.le_refl _⟩ ⟨Nat.le_refl _, Nat.le_refl _⟩ ?_
            refine ob_push d_Model_faultOf_69 ?_
            refine ob_iand d_Model_faultOf_72 ?_
            refine ob_push d_Model_faultOf_73 ?_
            refine ob_icmp_eq d_Model_faultOf_75 (fun hc => ?_) (fun hc => ?_)
            · replace h := ob_ift hc h
              refine ob_aload d_Model_faultOf_80 rfl ?_
              refine ob_iload d_Model_faultOf_81 rfl ?_
              refine ob_push d_Model_faultOf_82 ?_
              refine ob_iadd d_Model_faultOf_84 ?_
              obtain ⟨hg12, h⟩ := ob_gd h
              refine ob_bald d_Model_faultOf_85 hp_v0 hg12 ?_
              refine ob_push d_Model_faultOf_86 ?_
              refine ob_iand d_Model_faultOf_89 ?_
              refine ob_push d_Model_faultOf_90 ?_
              refine ob_ishr d_Model_faultOf_91 ?_
              refine ob_push d_Model_faultOf_92 ?_
              refine ob_icmp_eq d_Model_faultOf_93 (fun hc => ?_) (fun hc => ?_)
              · replace h := ob_ift hc h
                refine ob_aload d_Model_faultOf_98 rfl ?_
                refine ob_iload d_Model_faultOf_99 rfl ?_
                refine ob_push d_Model_faultOf_100 ?_
                refine ob_iadd d_Model_faultOf_102 ?_
                obtain ⟨x15, D13, h14, h⟩ := ob_bd_e h
                refine ob_callSi (As := [.ref v0, .int (v1 + (7 : Int32))]) (rest := []) d_Model_faultOf_103 c_Model_faultOf_180 rfl rfl (Nat.le_of_ble_eq_true rfl) (c_Model_two hp_v0 h14) ⟨Nat.le_refl _, Nat.le_refl _⟩ ⟨Nat.le_refl _, Nat.le_refl _⟩ ?_
                refine ob_aload d_Model_faultOf_106 rfl ?_
                refine ob_iload d_Model_faultOf_107 rfl ?_
                refine ob_push d_Model_faultOf_108 ?_
                refine ob_iadd d_Model_faultOf_110 ?_
                refine ob_iload d_Model_faultOf_111 rfl ?_
                refine ob_push d_Model_faultOf_112 ?_
                refine ob_isub d_Model_faultOf_114 ?_
                obtain ⟨x18, D16, h17, h⟩ := ob_bd_e h
                refine ob_callSi (As := [.int x15, .ref v0, .int (v1 + (11 : Int32)), .int (v2 - (13 : Int32))]) (rest := []) d_Model_faultOf_115 c_Model_faultOf_254 rfl rfl (Nat.le_of_ble_eq_true rfl) (c_Model_lengthFault hp_v0 h17) ⟨Nat.le_refl _, Nat.le_refl _⟩ ⟨Nat.le_refl _, Nat.le_refl _⟩ ?_
                exact ob_ie h (ob_iret d_Model_faultOf_118 rfl rfl)
              · replace h := ob_iff hc h
                refine ob_push d_Model_faultOf_96 ?_
                exact ob_ie h (ob_iret d_Model_faultOf_97 rfl rfl)
            · replace h := ob_iff hc h
              refine ob_push d_Model_faultOf_78 ?_
              exact ob_ie h (ob_iret d_Model_faultOf_79 rfl rfl)
          · replace h := ob_iff hc h
            refine ob_push d_Model_faultOf_62 ?_
            exact ob_ie h (ob_iret d_Model_faultOf_63 rfl rfl)
      · replace h := ob_iff hc h
        refine ob_push d_Model_faultOf_31 ?_
        exact ob_ie h (ob_iret d_Model_faultOf_32 rfl rfl)
    · replace h := ob_iff hc h
      refine ob_push d_Model_faultOf_20 ?_
      exact ob_ie h (ob_iret d_Model_faultOf_21 rfl rfl)
-- OrbitBoxModel.say(I)V
theorem d_Model_say_10 : ob_dk k_Model_say 10 11 (1 : Int32) (.iconst 1) 1 := ⟨by decide +kernel, rfl, show Int32.ofInt 1 = (1 : Int32) by decide +kernel⟩
theorem d_Model_say_18 : ob_dc k_Model_say 18 (.return_) 1 19 := ⟨by decide +kernel, rfl⟩
theorem d_Model_say_17 : ob_dc k_Model_say 17 (.bastore) 1 18 := ⟨by decide +kernel, rfl⟩
theorem d_Model_say_16 : ob_dc k_Model_say 16 (.i2b) 1 17 := ⟨by decide +kernel, rfl⟩
theorem d_Model_say_15 : ob_dv ob_lc k_Model_say 15 16 1 (.iload_n 1) 1 := ⟨by decide +kernel, rfl, rfl⟩
theorem d_Model_say_12 : ob_dc k_Model_say 12 (.putfield 414) 3 15 := ⟨by decide +kernel, rfl⟩
theorem d_Model_say_11 : ob_dc k_Model_say 11 (.iadd) 1 12 := ⟨by decide +kernel, rfl⟩
theorem d_Model_say_9 : ob_dc k_Model_say 9 (.dup_x1) 1 10 := ⟨by decide +kernel, rfl⟩
theorem d_Model_say_6 : ob_dc k_Model_say 6 (.getfield 414) 3 9 := ⟨by decide +kernel, rfl⟩
theorem d_Model_say_5 : ob_dc k_Model_say 5 (.dup) 1 6 := ⟨by decide +kernel, rfl⟩
theorem d_Model_say_4 : ob_dv ob_ac k_Model_say 4 5 0 (.aload_n 0) 1 := ⟨by decide +kernel, rfl, rfl⟩
theorem d_Model_say_1 : ob_dc k_Model_say 1 (.getfield 121) 3 4 := ⟨by decide +kernel, rfl⟩
theorem d_Model_say_0 : ob_dv ob_ac k_Model_say 0 1 0 (.aload_n 0) 1 := ⟨by decide +kernel, rfl, rfl⟩
def f_Model_say (S : ob_S) (v0 : Nat) (v1 : Int32) (D : ob_D) : Option (ob_D) :=
  if D.2.1 v0 69 ≠ 0 then ob_lt (ob_pI D v0 70 ((D.1 v0 70) + (1 : Int32))) fun D3 => if ob_in (D.1 v0 70) (S.2.1 (D.2.1 v0 69)) then ob_lt (ob_pI D3 (D.2.1 v0 69) (D.1 v0 70).toNatClampNeg ((v1.toInt8.toInt32).toInt8.toInt32)) fun D5 => some D5 else none else none
theorem c_Model_say {l : Launch} {E : ob_E} {S : ob_S} {D : ob_D} {v0 : Nat} {v1 : Int32} {D' : ob_D} (hp_v0 : S.1 v0 = 13) (h : f_Model_say S v0 v1 D = some D') : ob_M l E k_Model_say [.ref v0, .int v1] S D none S D' := by
  refine ob_ofV (lo := [(0, .ref v0), (1, .int v1)]) (by decide) rfl (Nat.le_of_ble_eq_true rfl) rfl (Nat.le_refl _) (Nat.le_refl _) ?_
  rw [f_Model_say] at h
  refine ob_aload d_Model_say_0 rfl ?_
  obtain ⟨hg2, h⟩ := ob_gd h
  refine ob_getR d_Model_say_1 F_12_69 l_Model_121 hp_v0 hg2 (fun hk1 => ?_)
  refine ob_aload d_Model_say_4 rfl ?_
  refine ob_dup d_Model_say_5 rfl ?_
  refine ob_getI d_Model_say_6 F_12_70 l_Model_414 hp_v0 ?_
  refine ob_dup_x1 d_Model_say_9 rfl rfl ?_
  refine ob_push d_Model_say_10 ?_
  refine ob_iadd d_Model_say_11 ?_
  replace h := ob_lt_e h
  refine ob_putI d_Model_say_12 F_12_70 l_Model_414 hp_v0 ?_
  refine ob_iload d_Model_say_15 rfl ?_
  refine ob_i2b d_Model_say_16 ?_
  obtain ⟨hg4, h⟩ := ob_gd h
  replace h := ob_lt_e h
  refine ob_bast d_Model_say_17 hk1 hg4 ?_
  exact ob_ve h (ob_vret d_Model_say_18 rfl)
-- OrbitBoxModel.sayTwo(I)V
theorem d_Model_sayTwo_2 : ob_dk k_Model_sayTwo 2 4 (8 : Int32) (.bipush 8) 2 := ⟨by decide +kernel, rfl, show (Int8.ofInt 8).toInt32 = (8 : Int32) by decide +kernel⟩
theorem d_Model_sayTwo_13 : ob_dc k_Model_sayTwo 13 (.return_) 1 14 := ⟨by decide +kernel, rfl⟩
theorem d_Model_sayTwo_10 : ob_dc k_Model_sayTwo 10 (.invokevirtual 264) 3 13 := ⟨by decide +kernel, rfl⟩
theorem d_Model_sayTwo_9 : ob_dv ob_lc k_Model_sayTwo 9 10 1 (.iload_n 1) 1 := ⟨by decide +kernel, rfl, rfl⟩
theorem d_Model_sayTwo_8 : ob_dv ob_ac k_Model_sayTwo 8 9 0 (.aload_n 0) 1 := ⟨by decide +kernel, rfl, rfl⟩
theorem d_Model_sayTwo_5 : ob_dc k_Model_sayTwo 5 (.invokevirtual 264) 3 8 := ⟨by decide +kernel, rfl⟩
theorem d_Model_sayTwo_4 : ob_dc k_Model_sayTwo 4 (.ishr) 1 5 := ⟨by decide +kernel, rfl⟩
theorem d_Model_sayTwo_1 : ob_dv ob_lc k_Model_sayTwo 1 2 1 (.iload_n 1) 1 := ⟨by decide +kernel, rfl, rfl⟩
theorem d_Model_sayTwo_0 : ob_dv ob_ac k_Model_sayTwo 0 1 0 (.aload_n 0) 1 := ⟨by decide +kernel, rfl, rfl⟩
theorem c_Model_sayTwo_264 : ob_vd k_Model_sayTwo k_Model_say 264 1 12 := ⟨cw_Model_say, yd_Model_say, w_1464, w_1466, wp_63, w_14, ⟨_, _, rfl⟩, by decide, by decide⟩
def f_Model_sayTwo (S : ob_S) (v0 : Nat) (v1 : Int32) (D : ob_D) : Option (ob_D) :=
  ob_bv (f_Model_say S v0 (v1 >>> ((8 : Int32) &&& 31)) D) fun D1 => ob_bv (f_Model_say S v0 v1 D1) fun D3 => some D3
theorem c_Model_sayTwo {l : Launch} {E : ob_E} {S : ob_S} {D : ob_D} {v0 : Nat} {v1 : Int32} {D' : ob_D} (hp_v0 : S.1 v0 = 13) (h : f_Model_sayTwo S v0 v1 D = some D') : ob_M l E k_Model_sayTwo [.ref v0, .int v1] S D none S D' := by
  refine ob_ofV (lo := [(0, .ref v0), (1, .int v1)]) (by decide) rfl (Nat.le_of_ble_eq_true rfl) rfl (Nat.le_refl _) (Nat.le_refl _) ?_
  rw [f_Model_sayTwo] at h
  refine ob_aload d_Model_sayTwo_0 rfl ?_
  refine ob_iload d_Model_sayTwo_1 rfl ?_
  refine ob_push d_Model_sayTwo_2 ?_
  refine ob_ishr d_Model_sayTwo_4 ?_
  obtain ⟨D1, h2, h⟩ := ob_bv_e h
  refine ob_callVv (As := [.int (v1 >>> ((8 : Int32) &&& 31))]) (rest := []) d_Model_sayTwo_5 c_Model_sayTwo_264 hp_v0 rfl rfl (Nat.le_of_ble_eq_true rfl) (c_Model_say hp_v0 h2) ⟨Nat.le_refl _, Nat.le_refl _⟩ ⟨Nat.le_refl _, Nat.le_refl _⟩ ?_
  refine ob_aload d_Model_sayTwo_8 rfl ?_
  refine ob_iload d_Model_sayTwo_9 rfl ?_
  obtain ⟨D3, h4, h⟩ := ob_bv_e h
  refine ob_callVv (As := [.int v1]) (rest := []) d_Model_sayTwo_10 c_Model_sayTwo_264 hp_v0 rfl rfl (Nat.le_of_ble_eq_true rfl) (c_Model_say hp_v0 h4) ⟨Nat.le_refl _, Nat.le_refl _⟩ ⟨Nat.le_refl _, Nat.le_refl _⟩ ?_
  exact ob_ve h (ob_vret d_Model_sayTwo_13 rfl)
-- OrbitBoxModel.sayFour(I)V
theorem d_Model_sayFour_2 : ob_dk k_Model_sayFour 2 4 (16 : Int32) (.bipush 16) 2 := ⟨by decide +kernel, rfl, show (Int8.ofInt 16).toInt32 = (16 : Int32) by decide +kernel⟩
theorem d_Model_sayFour_13 : ob_dc k_Model_sayFour 13 (.return_) 1 14 := ⟨by decide +kernel, rfl⟩
theorem d_Model_sayFour_10 : ob_dc k_Model_sayFour 10 (.invokevirtual 273) 3 13 := ⟨by decide +kernel, rfl⟩
theorem d_Model_sayFour_9 : ob_dv ob_lc k_Model_sayFour 9 10 1 (.iload_n 1) 1 := ⟨by decide +kernel, rfl, rfl⟩
theorem d_Model_sayFour_8 : ob_dv ob_ac k_Model_sayFour 8 9 0 (.aload_n 0) 1 := ⟨by decide +kernel, rfl, rfl⟩
theorem d_Model_sayFour_5 : ob_dc k_Model_sayFour 5 (.invokevirtual 273) 3 8 := ⟨by decide +kernel, rfl⟩
theorem d_Model_sayFour_4 : ob_dc k_Model_sayFour 4 (.ishr) 1 5 := ⟨by decide +kernel, rfl⟩
theorem d_Model_sayFour_1 : ob_dv ob_lc k_Model_sayFour 1 2 1 (.iload_n 1) 1 := ⟨by decide +kernel, rfl, rfl⟩
theorem d_Model_sayFour_0 : ob_dv ob_ac k_Model_sayFour 0 1 0 (.aload_n 0) 1 := ⟨by decide +kernel, rfl, rfl⟩
theorem c_Model_sayFour_273 : ob_vd k_Model_sayFour k_Model_sayTwo 273 1 12 := ⟨cw_Model_sayTwo, yd_Model_sayTwo, w_1460, w_1462, wp_62, w_14, ⟨_, _, rfl⟩, by decide, by decide⟩
def f_Model_sayFour (S : ob_S) (v0 : Nat) (v1 : Int32) (D : ob_D) : Option (ob_D) :=
  ob_bv (f_Model_sayTwo S v0 (v1 >>> ((16 : Int32) &&& 31)) D) fun D1 => ob_bv (f_Model_sayTwo S v0 v1 D1) fun D3 => some D3
theorem c_Model_sayFour {l : Launch} {E : ob_E} {S : ob_S} {D : ob_D} {v0 : Nat} {v1 : Int32} {D' : ob_D} (hp_v0 : S.1 v0 = 13) (h : f_Model_sayFour S v0 v1 D = some D') : ob_M l E k_Model_sayFour [.ref v0, .int v1] S D none S D' := by
  refine ob_ofV (lo := [(0, .ref v0), (1, .int v1)]) (by decide) rfl (Nat.le_of_ble_eq_true rfl) rfl (Nat.le_refl _) (Nat.le_refl _) ?_
  rw [f_Model_sayFour] at h
  refine ob_aload d_Model_sayFour_0 rfl ?_
  refine ob_iload d_Model_sayFour_1 rfl ?_
  refine ob_push d_Model_sayFour_2 ?_
  refine ob_ishr d_Model_sayFour_4 ?_
  obtain ⟨D1, h2, h⟩ := ob_bv_e h
  refine ob_callVv (As := [.int (v1 >>> ((16 : Int32) &&& 31))]) (rest := []) d_Model_sayFour_5 c_Model_sayFour_273 hp_v0 rfl rfl (Nat.le_of_ble_eq_true rfl) (c_Model_sayTwo hp_v0 h2) ⟨Nat.le_refl _, Nat.le_refl _⟩ ⟨Nat.le_refl _, Nat.le_refl _⟩ ?_
  refine ob_aload d_Model_sayFour_8 rfl ?_
  refine ob_iload d_Model_sayFour_9 rfl ?_
  obtain ⟨D3, h4, h⟩ := ob_bv_e h
  refine ob_callVv (As := [.int v1]) (rest := []) d_Model_sayFour_10 c_Model_sayFour_273 hp_v0 rfl rfl (Nat.le_of_ble_eq_true rfl) (c_Model_sayTwo hp_v0 h4) ⟨Nat.le_refl _, Nat.le_refl _⟩ ⟨Nat.le_refl _, Nat.le_refl _⟩ ?_
  exact ob_ve h (ob_vret d_Model_sayFour_13 rfl)
-- OrbitBoxModel.report(II)V
theorem d_Model_report_1 : ob_dk k_Model_report 1 2 (0 : Int32) (.iconst 0) 1 := ⟨by decide +kernel, rfl, show Int32.ofInt 0 = (0 : Int32) by decide +kernel⟩
theorem d_Model_report_6 : ob_dk k_Model_report 6 9 (2090 : Int32) (.sipush 2090) 3 := ⟨by decide +kernel, rfl, show (Int16.ofInt 2090).toInt32 = (2090 : Int32) by decide +kernel⟩
theorem d_Model_report_20 : ob_dk k_Model_report 20 23 (16384 : Int32) (.sipush 16384) 3 := ⟨by decide +kernel, rfl, show (Int16.ofInt 16384).toInt32 = (16384 : Int32) by decide +kernel⟩
theorem d_Model_report_29 : ob_dk k_Model_report 29 30 (0 : Int32) (.iconst 0) 1 := ⟨by decide +kernel, rfl, show Int32.ofInt 0 = (0 : Int32) by decide +kernel⟩
theorem d_Model_report_34 : ob_dk k_Model_report 34 36 (32 : Int32) (.bipush 32) 2 := ⟨by decide +kernel, rfl, show (Int8.ofInt 32).toInt32 = (32 : Int32) by decide +kernel⟩
theorem d_Model_report_55 : ob_dk k_Model_report 55 58 (256 : Int32) (.sipush 256) 3 := ⟨by decide +kernel, rfl, show (Int16.ofInt 256).toInt32 = (256 : Int32) by decide +kernel⟩
theorem d_Model_report_69 : ob_dk k_Model_report 69 70 (0 : Int32) (.iconst 0) 1 := ⟨by decide +kernel, rfl, show Int32.ofInt 0 = (0 : Int32) by decide +kernel⟩
theorem d_Model_report_86 : ob_dk k_Model_report 86 87 (1 : Int32) (.iconst 1) 1 := ⟨by decide +kernel, rfl, show Int32.ofInt 1 = (1 : Int32) by decide +kernel⟩
theorem d_Model_report_96 : ob_dk k_Model_report 96 99 (256 : Int32) (.sipush 256) 3 := ⟨by decide +kernel, rfl, show (Int16.ofInt 256).toInt32 = (256 : Int32) by decide +kernel⟩
theorem d_Model_report_104 : ob_dk k_Model_report 104 105 (1 : Int32) (.iconst 1) 1 := ⟨by decide +kernel, rfl, show Int32.ofInt 1 = (1 : Int32) by decide +kernel⟩
theorem d_Model_report_107 : ob_dc k_Model_report 107 (.return_) 1 108 := ⟨by decide +kernel, rfl⟩
theorem d_Model_report_106 : ob_dc k_Model_report 106 (.iastore) 1 107 := ⟨by decide +kernel, rfl⟩
theorem d_Model_report_105 : ob_dc k_Model_report 105 (.iadd) 1 106 := ⟨by decide +kernel, rfl⟩
theorem d_Model_report_103 : ob_dc k_Model_report 103 (.iaload) 1 104 := ⟨by decide +kernel, rfl⟩
theorem d_Model_report_102 : ob_dc k_Model_report 102 (.dup2) 1 103 := ⟨by decide +kernel, rfl⟩
theorem d_Model_report_101 : ob_dc k_Model_report 101 (.iadd) 1 102 := ⟨by decide +kernel, rfl⟩
theorem d_Model_report_100 : ob_dv ob_lc k_Model_report 100 101 2 (.iload_n 2) 1 := ⟨by decide +kernel, rfl, rfl⟩
theorem d_Model_report_99 : ob_dc k_Model_report 99 (.imul) 1 100 := ⟨by decide +kernel, rfl⟩
theorem d_Model_report_95 : ob_dv ob_lc k_Model_report 95 96 1 (.iload_n 1) 1 := ⟨by decide +kernel, rfl, rfl⟩
theorem d_Model_report_92 : ob_dc k_Model_report 92 (.getfield 124) 3 95 := ⟨by decide +kernel, rfl⟩
theorem d_Model_report_91 : ob_dv ob_ac k_Model_report 91 92 0 (.aload_n 0) 1 := ⟨by decide +kernel, rfl, rfl⟩
theorem d_Model_report_88 : ob_dc k_Model_report 88 (.putfield 418) 3 91 := ⟨by decide +kernel, rfl⟩
theorem d_Model_report_87 : ob_dc k_Model_report 87 (.iadd) 1 88 := ⟨by decide +kernel, rfl⟩
theorem d_Model_report_83 : ob_dc k_Model_report 83 (.getfield 418) 3 86 := ⟨by decide +kernel, rfl⟩
theorem d_Model_report_82 : ob_dc k_Model_report 82 (.dup) 1 83 := ⟨by decide +kernel, rfl⟩
theorem d_Model_report_81 : ob_dv ob_ac k_Model_report 81 82 0 (.aload_n 0) 1 := ⟨by decide +kernel, rfl, rfl⟩
theorem d_Model_report_78 : ob_dc k_Model_report 78 (.invokevirtual 354) 3 81 := ⟨by decide +kernel, rfl⟩
theorem d_Model_report_75 : ob_dc k_Model_report 75 (.getfield 372) 3 78 := ⟨by decide +kernel, rfl⟩
theorem d_Model_report_74 : ob_dv ob_ac k_Model_report 74 75 0 (.aload_n 0) 1 := ⟨by decide +kernel, rfl, rfl⟩
theorem d_Model_report_73 : ob_dv ob_ac k_Model_report 73 74 0 (.aload_n 0) 1 := ⟨by decide +kernel, rfl, rfl⟩
theorem d_Model_report_70 : ob_dc k_Model_report 70 (.invokevirtual 273) 3 73 := ⟨by decide +kernel, rfl⟩
theorem d_Model_report_68 : ob_dv ob_ac k_Model_report 68 69 0 (.aload_n 0) 1 := ⟨by decide +kernel, rfl, rfl⟩
theorem d_Model_report_65 : ob_dc k_Model_report 65 (.invokevirtual 273) 3 68 := ⟨by decide +kernel, rfl⟩
theorem d_Model_report_64 : ob_dc k_Model_report 64 (.irem) 1 65 := ⟨by decide +kernel, rfl⟩
theorem d_Model_report_62 : ob_dc k_Model_report 62 (.ldc 178) 2 64 := ⟨by decide +kernel, rfl⟩
theorem d_Model_report_61 : ob_dc k_Model_report 61 (.iaload) 1 62 := ⟨by decide +kernel, rfl⟩
theorem d_Model_report_60 : ob_dc k_Model_report 60 (.iadd) 1 61 := ⟨by decide +kernel, rfl⟩
theorem d_Model_report_59 : ob_dv ob_lc k_Model_report 59 60 2 (.iload_n 2) 1 := ⟨by decide +kernel, rfl, rfl⟩
theorem d_Model_report_58 : ob_dc k_Model_report 58 (.imul) 1 59 := ⟨by decide +kernel, rfl⟩
theorem d_Model_report_54 : ob_dv ob_lc k_Model_report 54 55 1 (.iload_n 1) 1 := ⟨by decide +kernel, rfl, rfl⟩
theorem d_Model_report_51 : ob_dc k_Model_report 51 (.getfield 124) 3 54 := ⟨by decide +kernel, rfl⟩
theorem d_Model_report_50 : ob_dv ob_ac k_Model_report 50 51 0 (.aload_n 0) 1 := ⟨by decide +kernel, rfl, rfl⟩
theorem d_Model_report_49 : ob_dv ob_ac k_Model_report 49 50 0 (.aload_n 0) 1 := ⟨by decide +kernel, rfl, rfl⟩
theorem d_Model_report_46 : ob_dc k_Model_report 46 (.invokevirtual 264) 3 49 := ⟨by decide +kernel, rfl⟩
theorem d_Model_report_45 : ob_dv ob_lc k_Model_report 45 46 2 (.iload_n 2) 1 := ⟨by decide +kernel, rfl, rfl⟩
theorem d_Model_report_44 : ob_dv ob_ac k_Model_report 44 45 0 (.aload_n 0) 1 := ⟨by decide +kernel, rfl, rfl⟩
theorem d_Model_report_41 : ob_dc k_Model_report 41 (.invokevirtual 264) 3 44 := ⟨by decide +kernel, rfl⟩
theorem d_Model_report_40 : ob_dv ob_lc k_Model_report 40 41 1 (.iload_n 1) 1 := ⟨by decide +kernel, rfl, rfl⟩
theorem d_Model_report_39 : ob_dv ob_ac k_Model_report 39 40 0 (.aload_n 0) 1 := ⟨by decide +kernel, rfl, rfl⟩
theorem d_Model_report_36 : ob_dc k_Model_report 36 (.invokevirtual 264) 3 39 := ⟨by decide +kernel, rfl⟩
theorem d_Model_report_33 : ob_dv ob_ac k_Model_report 33 34 0 (.aload_n 0) 1 := ⟨by decide +kernel, rfl, rfl⟩
theorem d_Model_report_30 : ob_dc k_Model_report 30 (.invokevirtual 273) 3 33 := ⟨by decide +kernel, rfl⟩
theorem d_Model_report_28 : ob_dv ob_ac k_Model_report 28 29 0 (.aload_n 0) 1 := ⟨by decide +kernel, rfl, rfl⟩
theorem d_Model_report_25 : ob_dc k_Model_report 25 (.invokevirtual 273) 3 28 := ⟨by decide +kernel, rfl⟩
theorem d_Model_report_24 : ob_dc k_Model_report 24 (.ior) 1 25 := ⟨by decide +kernel, rfl⟩
theorem d_Model_report_23 : ob_dc k_Model_report 23 (.irem) 1 24 := ⟨by decide +kernel, rfl⟩
theorem d_Model_report_17 : ob_dc k_Model_report 17 (.getfield 418) 3 20 := ⟨by decide +kernel, rfl⟩
theorem d_Model_report_16 : ob_dv ob_ac k_Model_report 16 17 0 (.aload_n 0) 1 := ⟨by decide +kernel, rfl, rfl⟩
theorem d_Model_report_13 : ob_dc k_Model_report 13 (.ldc_w 417) 3 16 := ⟨by decide +kernel, rfl⟩
theorem d_Model_report_12 : ob_dv ob_ac k_Model_report 12 13 0 (.aload_n 0) 1 := ⟨by decide +kernel, rfl, rfl⟩
theorem d_Model_report_9 : ob_dc k_Model_report 9 (.invokevirtual 273) 3 12 := ⟨by decide +kernel, rfl⟩
theorem d_Model_report_5 : ob_dv ob_ac k_Model_report 5 6 0 (.aload_n 0) 1 := ⟨by decide +kernel, rfl, rfl⟩
theorem d_Model_report_2 : ob_dc k_Model_report 2 (.putfield 414) 3 5 := ⟨by decide +kernel, rfl⟩
theorem d_Model_report_0 : ob_dv ob_ac k_Model_report 0 1 0 (.aload_n 0) 1 := ⟨by decide +kernel, rfl, rfl⟩
theorem c_Model_report_354 : ob_vd k_Model_report k_Model_sayFour 354 1 12 := ⟨cw_Model_sayFour, yd_Model_sayFour, w_1469, w_1471, wp_64, w_14, ⟨_, _, rfl⟩, by decide, by decide⟩
theorem c_Model_report_273 : ob_vd k_Model_report k_Model_sayTwo 273 1 12 := ⟨cw_Model_sayTwo, yd_Model_sayTwo, w_1460, w_1462, wp_62, w_14, ⟨_, _, rfl⟩, by decide, by decide⟩
theorem c_Model_report_264 : ob_vd k_Model_report k_Model_say 264 1 12 := ⟨cw_Model_say, yd_Model_say, w_1464, w_1466, wp_63, w_14, ⟨_, _, rfl⟩, by decide, by decide⟩
def f_Model_report (S : ob_S) (v0 : Nat) (v1 : Int32) (v2 : Int32) (D : ob_D) : Option (ob_D) :=
  ob_lt (ob_pI D v0 70 (0 : Int32)) fun D1 => ob_bv (f_Model_sayTwo S v0 (2090 : Int32) D1) fun D2 => ob_bv (f_Model_sayTwo S v0 ((49152 : Int32) ||| ((D2.1 v0 71) - (D2.1 v0 71) / (16384 : Int32) * (16384 : Int32))) D2) fun D4 => ob_bv (f_Model_sayTwo S v0 (0 : Int32) D4) fun D6 => ob_bv (f_Model_say S v0 (32 : Int32) D6) fun D8 => ob_bv (f_Model_say S v0 v1 D8) fun D10 => ob_bv (f_Model_say S v0 v2 D10) fun D12 => if D12.2.1 v0 73 ≠ 0 then if ob_in ((v1 * (256 : Int32)) + v2) (S.2.1 (D12.2.1 v0 73)) then ob_bv (f_Model_sayTwo S v0 ((D12.1 (D12.2.1 v0 73) ((v1 * (256 : Int32)) + v2).toNatClampNeg) - (D12.1 (D12.2.1 v0 73) ((v1 * (256 : Int32)) + v2).toNatClampNeg) / (65536 : Int32) * (65536 : Int32)) D12) fun D17 => ob_bv (f_Model_sayTwo S v0 (0 : Int32) D17) fun D19 => ob_bv (f_Model_sayFour S v0 (D19.1 v0 41) D19) fun D21 => ob_lt (ob_pI D21 v0 71 ((D21.1 v0 71) + (1 : Int32))) fun D23 => if D23.2.1 v0 73 ≠ 0 then if ob_in ((v1 * (256 : Int32)) + v2) (S.2.1 (D23.2.1 v0 73)) then if ob_in ((v1 * (256 : Int32)) + v2) (S.2.1 (D23.2.1 v0 73)) then ob_lt (ob_pI D23 (D23.2.1 v0 73) ((v1 * (256 : Int32)) + v2).toNatClampNeg ((D23.1 (D23.2.1 v0 73) ((v1 * (256 : Int32)) + v2).toNatClampNeg) + (1 : Int32))) fun D28 => some D28 else none else none else none else none else none
theorem c_Model_report {l : Launch} {E : ob_E} {S : ob_S} {D : ob_D} {v0 : Nat} {v1 : Int32} {v2 : Int32} {D' : ob_D} (hp_v0 : S.1 v0 = 13) (h : f_Model_report S v0 v1 v2 D = some D') : ob_M l E k_Model_report [.ref v0, .int v1, .int v2] S D none S D' := by
  refine ob_ofV (lo := [(0, .ref v0), (1, .int v1), (2, .int v2)]) (by decide) rfl (Nat.le_of_ble_eq_true rfl) rfl (Nat.le_refl _) (Nat.le_refl _) ?_
  rw [f_Model_report] at h
  refine ob_aload d_Model_report_0 rfl ?_
  refine ob_push d_Model_report_1 ?_
  replace h := ob_lt_e h
  refine ob_putI d_Model_report_2 F_12_70 l_Model_414 hp_v0 ?_
  refine ob_aload d_Model_report_5 rfl ?_
  refine ob_push d_Model_report_6 ?_
  obtain ⟨D2, h3, h⟩ := ob_bv_e h
  refine ob_callVv (As := [.int (2090 : Int32)]) (rest := []) d_Model_report_9 c_Model_report_273 hp_v0 rfl rfl (Nat.le_of_ble_eq_true rfl) (c_Model_sayTwo hp_v0 h3) ⟨Nat.le_refl _, Nat.le_refl _⟩ ⟨Nat.le_refl _, Nat.le_refl _⟩ ?_
  refine ob_aload d_Model_report_12 rfl ?_
  refine ob_ldc (idx := 417) d_Model_report_13 (Or.inr ⟨rfl, rfl⟩) w_1468 ?_
  refine ob_aload d_Model_report_16 rfl ?_
  refine ob_getI d_Model_report_17 F_12_71 l_Model_418 hp_v0 ?_
  refine ob_push d_Model_report_20 ?_
  refine ob_irem d_Model_report_23 (by decide) ?_
  refine ob_ior d_Model_report_24 ?_
  obtain ⟨D4, h5, h⟩ := ob_bv_e h
  refine ob_callVv (As := [.int ((49152 : Int32) ||| ((D2.1 v0 71) - (D2.1 v0 71) / (16384 : Int32) * (16384 : Int32)))]) (rest := []) d_Model_report_25 c_Model_report_273 hp_v0 rfl rfl (Nat.le_of_ble_eq_true rfl) (c_Model_sayTwo hp_v0 h5) ⟨Nat.le_refl _, Nat.le_refl _⟩ ⟨Nat.le_refl _, Nat.le_refl _⟩ ?_
  refine ob_aload d_Model_report_28 rfl ?_
  refine ob_push d_Model_report_29 ?_
  obtain ⟨D6, h7, h⟩ := ob_bv_e h
  refine ob_callVv (As := [.int (0 : Int32)]) (rest := []) d_Model_report_30 c_Model_report_273 hp_v0 rfl rfl (Nat.le_of_ble_eq_true rfl) (c_Model_sayTwo hp_v0 h7) ⟨Nat.le_refl _, Nat.le_refl _⟩ ⟨Nat.le_refl _, Nat.le_refl _⟩ ?_
  refine ob_aload d_Model_report_33 rfl ?_
  refine ob_push d_Model_report_34 ?_
  obtain ⟨D8, h9, h⟩ := ob_bv_e h
  refine ob_callVv (As := [.int (32 : Int32)]) (rest := []) d_Model_report_36 c_Model_report_264 hp_v0 rfl rfl (Nat.le_of_ble_eq_true rfl) (c_Model_say hp_v0 h9) ⟨Nat.le_refl _, Nat.le_refl _⟩ ⟨Nat.le_refl _, Nat.le_refl _⟩ ?_
  refine ob_aload d_Model_report_39 rfl ?_
  refine ob_iload d_Model_report_40 rfl ?_
  obtain ⟨D10, h11, h⟩ := ob_bv_e h
  refine ob_callVv (As := [.int v1]) (rest := []) d_Model_report_41 c_Model_report_264 hp_v0 rfl rfl (Nat.le_of_ble_eq_true rfl) (c_Model_say hp_v0 h11) ⟨Nat.le_refl _, Nat.le_refl _⟩ ⟨Nat.le_refl _, Nat.le_refl _⟩ ?_
  refine ob_aload d_Model_report_44 rfl ?_
  refine ob_iload d_Model_report_45 rfl ?_
  obtain ⟨D12, h13, h⟩ := ob_bv_e h
  refine ob_callVv (As := [.int v2]) (rest := []) d_Model_report_46 c_Model_report_264 hp_v0 rfl rfl (Nat.le_of_ble_eq_true rfl) (c_Model_say hp_v0 h13) ⟨Nat.le_refl _, Nat.le_refl _⟩ ⟨Nat.le_refl _, Nat.le_refl _⟩ ?_
  refine ob_aload d_Model_report_49 rfl ?_
  refine ob_aload d_Model_report_50 rfl ?_
  obtain ⟨hg15, h⟩ := ob_gd h
  refine ob_getR d_Model_report_51 F_12_73 l_Model_124 hp_v0 hg15 (fun hk14 => ?_)
  refine ob_iload d_Model_report_54 rfl ?_
  refine ob_push d_Model_report_55 ?_
  refine ob_imul d_Model_report_58 ?_
  refine ob_iload d_Model_report_59 rfl ?_
  refine ob_iadd d_Model_report_60 ?_
  obtain ⟨hg16, h⟩ := ob_gd h
  refine ob_iald d_Model_report_61 hk14 hg16 ?_
  refine ob_ldc (idx := 178) d_Model_report_62 (Or.inl ⟨rfl, rfl⟩) w_1407 ?_
  refine ob_irem d_Model_report_64 (by decide) ?_
  obtain ⟨D17, h18, h⟩ := ob_bv_e h
  refine ob_callVv (As := [.int ((D12.1 (D12.2.1 v0 73) ((v1 * (256 : Int32)) + v2).toNatClampNeg) - (D12.1 (D12.2.1 v0 73) ((v1 * (256 : Int32)) + v2).toNatClampNeg) / (65536 : Int32) * (65536 : Int32))]) (rest := []) d_Model_report_65 c_Model_report_273 hp_v0 rfl rfl (Nat.le_of_ble_eq_true rfl) (c_Model_sayTwo hp_v0 h18) ⟨Nat.le_refl _, Nat.le_refl _⟩ ⟨Nat.le_refl _, Nat.le_refl _⟩ ?_
  refine ob_aload d_Model_report_68 rfl ?_
  refine ob_push d_Model_report_69 ?_
  obtain ⟨D19, h20, h⟩ := ob_bv_e h
  refine ob_callVv (As := [.int (0 : Int32)]) (rest := []) d_Model_report_70 c_Model_report_273 hp_v0 rfl rfl (Nat.le_of_ble_eq_true rfl) (c_Model_sayTwo hp_v0 h20) ⟨Nat.le_refl _, Nat.le_refl _⟩ ⟨Nat.le_refl _, Nat.le_refl _⟩ ?_
  refine ob_aload d_Model_report_73 rfl ?_
  refine ob_aload d_Model_report_74 rfl ?_
  refine ob_getI d_Model_report_75 F_12_41 l_Model_372 hp_v0 ?_
  obtain ⟨D21, h22, h⟩ := ob_bv_e h
  refine ob_callVv (As := [.int (D19.1 v0 41)]) (rest := []) d_Model_report_78 c_Model_report_354 hp_v0 rfl rfl (Nat.le_of_ble_eq_true rfl) (c_Model_sayFour hp_v0 h22) ⟨Nat.le_refl _, Nat.le_refl _⟩ ⟨Nat.le_refl _, Nat.le_refl _⟩ ?_
  refine ob_aload d_Model_report_81 rfl ?_
  refine ob_dup d_Model_report_82 rfl ?_
  refine ob_getI d_Model_report_83 F_12_71 l_Model_418 hp_v0 ?_
  refine ob_push d_Model_report_86 ?_
  refine ob_iadd d_Model_report_87 ?_
  replace h := ob_lt_e h
  refine ob_putI d_Model_report_88 F_12_71 l_Model_418 hp_v0 ?_
  refine ob_aload d_Model_report_91 rfl ?_
  obtain ⟨hg25, h⟩ := ob_gd h
  refine ob_getR d_Model_report_92 F_12_73 l_Model_124 hp_v0 hg25 (fun hk24 => ?_)
  refine ob_iload d_Model_report_95 rfl ?_
  refine ob_push d_Model_report_96 ?_
  refine ob_imul d_Model_report_99 ?_
  refine ob_iload d_Model_report_100 rfl ?_
  refine ob_iadd d_Model_report_101 ?_
  refine ob_dup2 d_Model_report_102 rfl rfl ?_
  obtain ⟨hg26, h⟩ := ob_gd h
  refine ob_iald d_Model_report_103 hk24 hg26 ?_
  refine ob_push d_Model_report_104 ?_
  refine ob_iadd d_Model_report_105 ?_
  obtain ⟨hg27, h⟩ := ob_gd h
  replace h := ob_lt_e h
  refine ob_iast d_Model_report_106 hk24 hg27 ?_
  exact ob_ve h (ob_vret d_Model_report_107 rfl)
