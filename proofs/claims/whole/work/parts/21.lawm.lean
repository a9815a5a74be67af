-- OrbitBoxLaw.cell([II)I
theorem d_Law_cell_12 : ob_dk k_Law_cell 12 13 (0 : Int32) (.iconst 0) 1 := ⟨by decide +kernel, rfl, show Int32.ofInt 0 = (0 : Int32) by decide +kernel⟩
theorem d_Law_cell_13 : ob_dc k_Law_cell 13 (.ireturn) 1 14 := ⟨by decide +kernel, rfl⟩
theorem d_Law_cell_9 : ob_db k_Law_cell 9 (.goto 4) 4 12 13 := ⟨by decide +kernel, rfl, by decide⟩
theorem d_Law_cell_8 : ob_dc k_Law_cell 8 (.iaload) 1 9 := ⟨by decide +kernel, rfl⟩
theorem d_Law_cell_7 : ob_dv ob_lc k_Law_cell 7 8 1 (.iload_n 1) 1 := ⟨by decide +kernel, rfl, rfl⟩
theorem d_Law_cell_6 : ob_dv ob_ac k_Law_cell 6 7 0 (.aload_n 0) 1 := ⟨by decide +kernel, rfl, rfl⟩
theorem d_Law_cell_3 : ob_db k_Law_cell 3 (.if_icmp .ge 9) 9 6 12 := ⟨by decide +kernel, rfl, by decide⟩
theorem d_Law_cell_2 : ob_dc k_Law_cell 2 (.arraylength) 1 3 := ⟨by decide +kernel, rfl⟩
theorem d_Law_cell_1 : ob_dv ob_ac k_Law_cell 1 2 0 (.aload_n 0) 1 := ⟨by decide +kernel, rfl, rfl⟩
theorem d_Law_cell_0 : ob_dv ob_lc k_Law_cell 0 1 1 (.iload_n 1) 1 := ⟨by decide +kernel, rfl, rfl⟩
def f_Law_cell (S : ob_S) (E : ob_E) (v1 : Int32) (D : ob_D) : Option (Int32 × ob_D) :=
  (if (Int32.ofNat E.2.2.2.2.2.2.2.1) ≤ v1 then some ((0 : Int32), D) else if ob_in v1 E.2.2.2.2.2.2.2.1 then some (E.2.2.2.2.2.2.2.2 v1.toNatClampNeg, D) else none)
theorem c_Law_cell {l : Launch} {E : ob_E} {S : ob_S} {D : ob_D} {v1 : Int32} {r : Int32} {D' : ob_D}  (h : f_Law_cell S E v1 D = some (r, D')) : ob_M l E k_Law_cell [.ref E.2.2.2.2.2.2.1, .int v1] S D (some (.int r)) S D' := by
  refine ob_ofV (lo := [(0, .ref E.2.2.2.2.2.2.1), (1, .int v1)]) (by decide) rfl (Nat.le_of_ble_eq_true rfl) rfl (Nat.le_refl _) (Nat.le_refl _) ?_
  rw [f_Law_cell] at h
  refine ob_iload d_Law_cell_0 rfl ?_
  refine ob_aload d_Law_cell_1 rfl ?_
  refine ob_lenX d_Law_cell_2 ?_
  refine ob_icmp_ge d_Law_cell_3 (fun hc => ?_) (fun hc => ?_)
  · replace h := ob_ift hc h
    refine ob_push d_Law_cell_12 ?_
    exact ob_ie h (ob_iret d_Law_cell_13 rfl rfl)
  · replace h := ob_iff hc h
    refine ob_aload d_Law_cell_6 rfl ?_
    refine ob_iload d_Law_cell_7 rfl ?_
    obtain ⟨hg1, h⟩ := ob_gd h
    refine ob_ldX d_Law_cell_8 hg1 ?_
    refine ob_goto d_Law_cell_9 ?_
    exact ob_ie h (ob_iret d_Law_cell_13 rfl rfl)
-- OrbitBoxLaw.down(LOrbitBox;II[J)I
theorem d_Law_down_1 : ob_dk k_Law_down 1 2 (0 : Int32) (.iconst 0) 1 := ⟨by decide +kernel, rfl, show Int32.ofInt 0 = (0 : Int32) by decide +kernel⟩
theorem d_Law_down_17 : ob_dk k_Law_down 17 18 (0 : Int32) (.iconst 0) 1 := ⟨by decide +kernel, rfl, show Int32.ofInt 0 = (0 : Int32) by decide +kernel⟩
theorem d_Law_down_18 : ob_dc k_Law_down 18 (.ireturn) 1 19 := ⟨by decide +kernel, rfl⟩
theorem d_Law_down_10 : ob_db k_Law_down 10 (.goto 7) 7 13 17 := ⟨by decide +kernel, rfl, by decide⟩
theorem d_Law_down_9 : ob_dc k_Law_down 9 (.lastore) 1 10 := ⟨by decide +kernel, rfl⟩
theorem d_Law_down_8 : ob_dc k_Law_down 8 (.i2l) 1 9 := ⟨by decide +kernel, rfl⟩
theorem d_Law_down_5 : ob_dc k_Law_down 5 (.invokevirtual 7) 3 8 := ⟨by decide +kernel, rfl⟩
theorem d_Law_down_4 : ob_dv ob_lc k_Law_down 4 5 2 (.iload_n 2) 1 := ⟨by decide +kernel, rfl, rfl⟩
theorem d_Law_down_3 : ob_dv ob_lc k_Law_down 3 4 1 (.iload_n 1) 1 := ⟨by decide +kernel, rfl, rfl⟩
theorem d_Law_down_2 : ob_dv ob_ac k_Law_down 2 3 0 (.aload_n 0) 1 := ⟨by decide +kernel, rfl, rfl⟩
theorem d_Law_down_0 : ob_dv ob_ac k_Law_down 0 1 3 (.aload_n 3) 1 := ⟨by decide +kernel, rfl, rfl⟩
theorem d_Law_down_13 : ob_dv (ob_bc k_Law_down.2.2.2.1) k_Law_down 13 15 4 (.astore 4) 2 := ⟨by decide +kernel, rfl, ⟨rfl, by decide +kernel⟩⟩
theorem d_Law_down_15 : ob_dk k_Law_down 15 16 (1 : Int32) (.iconst 1) 1 := ⟨by decide +kernel, rfl, show Int32.ofInt 1 = (1 : Int32) by decide +kernel⟩
theorem d_Law_down_16 : ob_dc k_Law_down 16 (.ireturn) 1 17 := ⟨by decide +kernel, rfl⟩
theorem c_Law_down_7 : ob_vd k_Law_down k_Box_down 7 2 0 := ⟨cw_Box_down, yd_Box_down, w_995, w_996, w_997, w_1, ⟨_, _, rfl⟩, by decide, by decide⟩
def f_Law_down (S : ob_S) (v0 : Nat) (v1 : Int32) (v2 : Int32) (v3 : Nat) (D : ob_D) : Option (Int32 × ob_D) :=
  ob_bd (f_Box_down S v0 v1 v2 D) fun x3 D1 => if ob_in (0 : Int32) (S.2.1 v3) then ob_lt (ob_pL D1 v3 (0 : Int32).toNatClampNeg (x3.toInt64)) fun D5 => some ((0 : Int32), D5) else none
theorem c_Law_down {l : Launch} {E : ob_E} {S : ob_S} {D : ob_D} {v0 : Nat} {v1 : Int32} {v2 : Int32} {v3 : Nat} {r : Int32} {D' : ob_D} (hp_v0 : S.1 v0 = 1) (hp_v3 : S.1 v3 = 23) (h : f_Law_down S v0 v1 v2 v3 D = some (r, D')) : ob_MW l E k_Law_down (0, 10, 13, 13) [.ref v0, .int v1, .int v2, .ref v3] S D (some (.int r)) S D' := by
  refine ob_ofVW (lo := [(0, .ref v0), (1, .int v1), (2, .int v2), (3, .ref v3)]) (by decide) rfl (Nat.le_of_ble_eq_true rfl) rfl (Nat.le_refl _) (Nat.le_refl _) ?_
  rw [f_Law_down] at h
  refine ob_aload d_Law_down_0 rfl ?_
  refine ob_push d_Law_down_1 ?_
  refine ob_aload d_Law_down_2 rfl ?_
  refine ob_iload d_Law_down_3 rfl ?_
  refine ob_iload d_Law_down_4 rfl ?_
  obtain ⟨x3, D1, h2, h⟩ := ob_bd_e h
  refine ob_callVi (As := [.int v1, .int v2]) (rest := [.int (0 : Int32), .ref v3]) d_Law_down_5 c_Law_down_7 hp_v0 rfl rfl (Nat.le_of_ble_eq_true rfl) (c_Box_down hp_v0 h2) ⟨Nat.le_refl _, Nat.le_refl _⟩ ⟨Nat.le_refl _, Nat.le_refl _⟩ ?_
  refine ob_i2l d_Law_down_8 ?_
  obtain ⟨hg4, h⟩ := ob_gd h
  replace h := ob_lt_e h
  refine ob_last d_Law_down_9 hp_v3 hg4 ?_
  refine ob_goto d_Law_down_10 ?_
  refine ob_push d_Law_down_17 ?_
  exact ob_ie h (ob_iret d_Law_down_18 rfl rfl)
theorem ct_Law_down {l : Launch} {E : ob_E} {S : ob_S} {D : ob_D} {v0 : Nat} {v1 : Int32} {v2 : Int32} {v3 : Nat} (hl0 : ob_nt l) (hp_v0 : S.1 v0 = 1) (h : th_Box_down S v0 v1 v2 D = some ()) : ob_MW l E k_Law_down (0, 10, 13, 13) [.ref v0, .int v1, .int v2, .ref v3] S D (some (.int 1)) (ob_new S 0 0 6) D := by
  refine ob_ofVW (lo := [(0, .ref v0), (1, .int v1), (2, .int v2), (3, .ref v3)]) (by decide) rfl (Nat.le_of_ble_eq_true rfl) rfl (Nat.le_succ _) (Nat.le_add_right _ _) ?_
  refine ob_aload d_Law_down_0 rfl ?_
  refine ob_push d_Law_down_1 ?_
  refine ob_aload d_Law_down_2 rfl ?_
  refine ob_iload d_Law_down_3 rfl ?_
  refine ob_iload d_Law_down_4 rfl ?_
  refine ob_callT (As := [.int v1, .int v2]) (rest := [.int (0 : Int32), .ref v3]) d_Law_down_5 c_Law_down_7 hp_v0 rfl rfl (Nat.le_of_ble_eq_true rfl) (t_Box_down hl0 hp_v0 h) w_993 ⟨by decide, by decide⟩ (by decide) w_994 ⟨Nat.le_refl _, Nat.le_refl _⟩ (fun xx => ?_)
  refine ob_astore (lo2 := [(0, .ref v0), (1, .int v1), (2, .int v2), (3, .ref v3), (4, .ref xx)]) d_Law_down_13 rfl ?_
  refine ob_push d_Law_down_15 ?_
  exact ob_iret d_Law_down_16 rfl rfl
-- OrbitBoxLaw.value(LOrbitBox;I[J)I
theorem d_Law_value_1 : ob_dk k_Law_value 1 2 (0 : Int32) (.iconst 0) 1 := ⟨by decide +kernel, rfl, show Int32.ofInt 0 = (0 : Int32) by decide +kernel⟩
theorem d_Law_value_15 : ob_dk k_Law_value 15 16 (0 : Int32) (.iconst 0) 1 := ⟨by decide +kernel, rfl, show Int32.ofInt 0 = (0 : Int32) by decide +kernel⟩
theorem d_Law_value_16 : ob_dc k_Law_value 16 (.ireturn) 1 17 := ⟨by decide +kernel, rfl⟩
theorem d_Law_value_9 : ob_db k_Law_value 9 (.goto 6) 6 12 15 := ⟨by decide +kernel, rfl, by decide⟩
theorem d_Law_value_8 : ob_dc k_Law_value 8 (.lastore) 1 9 := ⟨by decide +kernel, rfl⟩
theorem d_Law_value_7 : ob_dc k_Law_value 7 (.i2l) 1 8 := ⟨by decide +kernel, rfl⟩
theorem d_Law_value_4 : ob_dc k_Law_value 4 (.invokevirtual 15) 3 7 := ⟨by decide +kernel, rfl⟩
theorem d_Law_value_3 : ob_dv ob_lc k_Law_value 3 4 1 (.iload_n 1) 1 := ⟨by decide +kernel, rfl, rfl⟩
theorem d_Law_value_2 : ob_dv ob_ac k_Law_value 2 3 0 (.aload_n 0) 1 := ⟨by decide +kernel, rfl, rfl⟩
theorem d_Law_value_0 : ob_dv ob_ac k_Law_value 0 1 2 (.aload_n 2) 1 := ⟨by decide +kernel, rfl, rfl⟩
theorem d_Law_value_12 : ob_dv (ob_bc k_Law_value.2.2.2.1) k_Law_value 12 13 3 (.astore_n 3) 1 := ⟨by decide +kernel, rfl, ⟨rfl, by decide +kernel⟩⟩
theorem d_Law_value_13 : ob_dk k_Law_value 13 14 (1 : Int32) (.iconst 1) 1 := ⟨by decide +kernel, rfl, show Int32.ofInt 1 = (1 : Int32) by decide +kernel⟩
theorem d_Law_value_14 : ob_dc k_Law_value 14 (.ireturn) 1 15 := ⟨by decide +kernel, rfl⟩
theorem c_Law_value_15 : ob_vd k_Law_value k_Box_value 15 1 0 := ⟨cw_Box_value, yd_Box_value, w_1063, w_1064, w_1065, w_1, ⟨_, _, rfl⟩, by decide, by decide⟩
def f_Law_value (S : ob_S) (v0 : Nat) (v1 : Int32) (v2 : Nat) (D : ob_D) : Option (Int32 × ob_D) :=
  ob_bd (f_Box_value S v0 v1 D) fun x3 D1 => if ob_in (0 : Int32) (S.2.1 v2) then ob_lt (ob_pL D1 v2 (0 : Int32).toNatClampNeg (x3.toInt64)) fun D5 => some ((0 : Int32), D5) else none
theorem c_Law_value {l : Launch} {E : ob_E} {S : ob_S} {D : ob_D} {v0 : Nat} {v1 : Int32} {v2 : Nat} {r : Int32} {D' : ob_D} (hp_v0 : S.1 v0 = 1) (hp_v2 : S.1 v2 = 23) (h : f_Law_value S v0 v1 v2 D = some (r, D')) : ob_MW l E k_Law_value (0, 9, 12, 13) [.ref v0, .int v1, .ref v2] S D (some (.int r)) S D' := by
  refine ob_ofVW (lo := [(0, .ref v0), (1, .int v1), (2, .ref v2)]) (by decide) rfl (Nat.le_of_ble_eq_true rfl) rfl (Nat.le_refl _) (Nat.le_refl _) ?_
  rw [f_Law_value] at h
  refine ob_aload d_Law_value_0 rfl ?_
  refine ob_push d_Law_value_1 ?_
  refine ob_aload d_Law_value_2 rfl ?_
  refine ob_iload d_Law_value_3 rfl ?_
  obtain ⟨x3, D1, h2, h⟩ := ob_bd_e h
  refine ob_callVi (As := [.int v1]) (rest := [.int (0 : Int32), .ref v2]) d_Law_value_4 c_Law_value_15 hp_v0 rfl rfl (Nat.le_of_ble_eq_true rfl) (c_Box_value hp_v0 h2) ⟨Nat.le_refl _, Nat.le_refl _⟩ ⟨Nat.le_refl _, Nat.le_refl _⟩ ?_
  refine ob_i2l d_Law_value_7 ?_
  obtain ⟨hg4, h⟩ := ob_gd h
  replace h := ob_lt_e h
  refine ob_last d_Law_value_8 hp_v2 hg4 ?_
  refine ob_goto d_Law_value_9 ?_
  refine ob_push d_Law_value_15 ?_
  exact ob_ie h (ob_iret d_Law_value_16 rfl rfl)
theorem ct_Law_value {l : Launch} {E : ob_E} {S : ob_S} {D : ob_D} {v0 : Nat} {v1 : Int32} {v2 : Nat} (hl0 : ob_nt l) (hp_v0 : S.1 v0 = 1) (h : th_Box_value S v0 v1 D = some ()) : ob_MW l E k_Law_value (0, 9, 12, 13) [.ref v0, .int v1, .ref v2] S D (some (.int 1)) (ob_new S 0 0 6) D := by
  refine ob_ofVW (lo := [(0, .ref v0), (1, .int v1), (2, .ref v2)]) (by decide) rfl (Nat.le_of_ble_eq_true rfl) rfl (Nat.le_succ _) (Nat.le_add_right _ _) ?_
  refine ob_aload d_Law_value_0 rfl ?_
  refine ob_push d_Law_value_1 ?_
  refine ob_aload d_Law_value_2 rfl ?_
  refine ob_iload d_Law_value_3 rfl ?_
  refine ob_callT (As := [.int v1]) (rest := [.int (0 : Int32), .ref v2]) d_Law_value_4 c_Law_value_15 hp_v0 rfl rfl (Nat.le_of_ble_eq_true rfl) (t_Box_value hl0 hp_v0 h) w_1062 ⟨by decide, by decide⟩ (by decide) w_994 ⟨Nat.le_refl _, Nat.le_refl _⟩ (fun xx => ?_)
  refine ob_astore (lo2 := [(0, .ref v0), (1, .int v1), (2, .ref v2), (3, .ref xx)]) d_Law_value_12 rfl ?_
  refine ob_push d_Law_value_13 ?_
  exact ob_iret d_Law_value_14 rfl rfl
-- OrbitBoxLaw.entry(LOrbitBox;II[J)I
theorem d_Law_entry_1 : ob_dk k_Law_entry 1 2 (0 : Int32) (.iconst 0) 1 := ⟨by decide +kernel, rfl, show Int32.ofInt 0 = (0 : Int32) by decide +kernel⟩
theorem d_Law_entry_17 : ob_dk k_Law_entry 17 18 (0 : Int32) (.iconst 0) 1 := ⟨by decide +kernel, rfl, show Int32.ofInt 0 = (0 : Int32) by decide +kernel⟩
theorem d_Law_entry_18 : ob_dc k_Law_entry 18 (.ireturn) 1 19 := ⟨by decide +kernel, rfl⟩
theorem d_Law_entry_10 : ob_db k_Law_entry 10 (.goto 7) 7 13 17 := ⟨by decide +kernel, rfl, by decide⟩
theorem d_Law_entry_9 : ob_dc k_Law_entry 9 (.lastore) 1 10 := ⟨by decide +kernel, rfl⟩
theorem d_Law_entry_8 : ob_dc k_Law_entry 8 (.i2l) 1 9 := ⟨by decide +kernel, rfl⟩
theorem d_Law_entry_5 : ob_dc k_Law_entry 5 (.invokevirtual 19) 3 8 := ⟨by decide +kernel, rfl⟩
theorem d_Law_entry_4 : ob_dv ob_lc k_Law_entry 4 5 2 (.iload_n 2) 1 := ⟨by decide +kernel, rfl, rfl⟩
theorem d_Law_entry_3 : ob_dv ob_lc k_Law_entry 3 4 1 (.iload_n 1) 1 := ⟨by decide +kernel, rfl, rfl⟩
theorem d_Law_entry_2 : ob_dv ob_ac k_Law_entry 2 3 0 (.aload_n 0) 1 := ⟨by decide +kernel, rfl, rfl⟩
theorem d_Law_entry_0 : ob_dv ob_ac k_Law_entry 0 1 3 (.aload_n 3) 1 := ⟨by decide +kernel, rfl, rfl⟩
theorem d_Law_entry_13 : ob_dv (ob_bc k_Law_entry.2.2.2.1) k_Law_entry 13 15 4 (.astore 4) 2 := ⟨by decide +kernel, rfl, ⟨rfl, by decide +kernel⟩⟩
theorem d_Law_entry_15 : ob_dk k_Law_entry 15 16 (1 : Int32) (.iconst 1) 1 := ⟨by decide +kernel, rfl, show Int32.ofInt 1 = (1 : Int32) by decide +kernel⟩
theorem d_Law_entry_16 : ob_dc k_Law_entry 16 (.ireturn) 1 17 := ⟨by decide +kernel, rfl⟩
theorem c_Law_entry_19 : ob_vd k_Law_entry k_Box_entry 19 2 0 := ⟨cw_Box_entry, yd_Box_entry, w_1071, w_1072, w_1073, w_1, ⟨_, _, rfl⟩, by decide, by decide⟩
def f_Law_entry (S : ob_S) (v0 : Nat) (v1 : Int32) (v2 : Int32) (v3 : Nat) (D : ob_D) : Option (Int32 × ob_D) :=
  ob_bd (f_Box_entry S v0 v1 v2 D) fun x3 D1 => if ob_in (0 : Int32) (S.2.1 v3) then ob_lt (ob_pL D1 v3 (0 : Int32).toNatClampNeg (x3.toInt64)) fun D5 => some ((0 : Int32), D5) else none
theorem c_Law_entry {l : Launch} {E : ob_E} {S : ob_S} {D : ob_D} {v0 : Nat} {v1 : Int32} {v2 : Int32} {v3 : Nat} {r : Int32} {D' : ob_D} (hp_v0 : S.1 v0 = 1) (hp_v3 : S.1 v3 = 23) (h : f_Law_entry S v0 v1 v2 v3 D = some (r, D')) : ob_MW l E k_Law_entry (0, 10, 13, 13) [.ref v0, .int v1, .int v2, .ref v3] S D (some (.int r)) S D' := by
  refine ob_ofVW (lo := [(0, .ref v0), (1, .int v1), (2, .int v2), (3, .ref v3)]) (by decide) rfl (Nat.le_of_ble_eq_true rfl) rfl (Nat.le_refl _) (Nat.le_refl _) ?_
  rw [f_Law_entry] at h
  refine ob_aload d_Law_entry_0 rfl ?_
  refine ob_push d_Law_entry_1 ?_
  refine ob_aload d_Law_entry_2 rfl ?_
  refine ob_iload d_Law_entry_3 rfl ?_
  refine ob_iload d_Law_entry_4 rfl ?_
  obtain ⟨x3, D1, h2, h⟩ := ob_bd_e h
  refine ob_callVi (As := [.int v1, .int v2]) (rest := [.int (0 : Int32), .ref v3]) d_Law_entry_5 c_Law_entry_19 hp_v0 rfl rfl (Nat.le_of_ble_eq_true rfl) (c_Box_entry hp_v0 h2) ⟨Nat.le_refl _, Nat.le_refl _⟩ ⟨Nat.le_refl _, Nat.le_refl _⟩ ?_
  refine ob_i2l d_Law_entry_8 ?_
  obtain ⟨hg4, h⟩ := ob_gd h
  replace h := ob_lt_e h
  refine ob_last d_Law_entry_9 hp_v3 hg4 ?_
  refine ob_goto d_Law_entry_10 ?_
  refine ob_push d_Law_entry_17 ?_
  exact ob_ie h (ob_iret d_Law_entry_18 rfl rfl)
theorem ct_Law_entry {l : Launch} {E : ob_E} {S : ob_S} {D : ob_D} {v0 : Nat} {v1 : Int32} {v2 : Int32} {v3 : Nat} (hl0 : ob_nt l) (hp_v0 : S.1 v0 = 1) (h : th_Box_entry S v0 v1 v2 D = some ()) : ob_MW l E k_Law_entry (0, 10, 13, 13) [.ref v0, .int v1, .int v2, .ref v3] S D (some (.int 1)) (ob_new S 0 0 6) D := by
  refine ob_ofVW (lo := [(0, .ref v0), (1, .int v1), (2, .int v2), (3, .ref v3)]) (by decide) rfl (Nat.le_of_ble_eq_true rfl) rfl (Nat.le_succ _) (Nat.le_add_right _ _) ?_
  refine ob_aload d_Law_entry_0 rfl ?_
  refine ob_push d_Law_entry_1 ?_
  refine ob_aload d_Law_entry_2 rfl ?_
  refine ob_iload d_Law_entry_3 rfl ?_
  refine ob_iload d_Law_entry_4 rfl ?_
  refine ob_callT (As := [.int v1, .int v2]) (rest := [.int (0 : Int32), .ref v3]) d_Law_entry_5 c_Law_entry_19 hp_v0 rfl rfl (Nat.le_of_ble_eq_true rfl) (t_Box_entry hl0 hp_v0 h) w_1070 ⟨by decide, by decide⟩ (by decide) w_994 ⟨Nat.le_refl _, Nat.le_refl _⟩ (fun xx => ?_)
  refine ob_astore (lo2 := [(0, .ref v0), (1, .int v1), (2, .int v2), (3, .ref v3), (4, .ref xx)]) d_Law_entry_13 rfl ?_
  refine ob_push d_Law_entry_15 ?_
  exact ob_iret d_Law_entry_16 rfl rfl
