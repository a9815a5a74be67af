-- OrbitBox.nearest(III)I
theorem d_Box_nearest_9 : ob_dc k_Box_nearest 9 (.ireturn) 1 10 := ⟨by decide +kernel, rfl⟩
theorem d_Box_nearest_6 : ob_dc k_Box_nearest 6 (.invokestatic 221) 3 9 := ⟨by decide +kernel, rfl⟩
theorem d_Box_nearest_3 : ob_dc k_Box_nearest 3 (.invokestatic 216) 3 6 := ⟨by decide +kernel, rfl⟩
theorem d_Box_nearest_2 : ob_dv ob_lc k_Box_nearest 2 3 0 (.iload_n 0) 1 := ⟨by decide +kernel, rfl, rfl⟩
theorem d_Box_nearest_1 : ob_dv ob_lc k_Box_nearest 1 2 2 (.iload_n 2) 1 := ⟨by decide +kernel, rfl, rfl⟩
theorem d_Box_nearest_0 : ob_dv ob_lc k_Box_nearest 0 1 1 (.iload_n 1) 1 := ⟨by decide +kernel, rfl, rfl⟩
def f_Box_nearest (S : ob_S) (v0 : Int32) (v1 : Int32) (v2 : Int32) (D : ob_D) : Option (Int32 × ob_D) :=
  some (ob_mx v1 (ob_mn v2 v0), D)
theorem c_Box_nearest {l : Launch} {E : ob_E} {S : ob_S} {D : ob_D} {v0 : Int32} {v1 : Int32} {v2 : Int32} {r : Int32} {D' : ob_D}  (h : f_Box_nearest S v0 v1 v2 D = some (r, D')) : ob_M l E k_Box_nearest [.int v0, .int v1, .int v2] S D (some (.int r)) S D' := by
  refine ob_ofV (lo := [(0, .int v0), (1, .int v1), (2, .int v2)]) (by decide) rfl (Nat.le_of_ble_eq_true rfl) rfl (Nat.le_refl _) (Nat.le_refl _) ?_
  rw [f_Box_nearest] at h
  refine ob_iload d_Box_nearest_0 rfl ?_
  refine ob_iload d_Box_nearest_1 rfl ?_
  refine ob_iload d_Box_nearest_2 rfl ?_
  refine ob_mmin d_Box_nearest_3 w_136 w_137 w_6 w_138 (by decide) (Nat.le_of_ble_eq_true rfl) ⟨Nat.le_refl _, Nat.le_refl _⟩ ?_
  refine ob_mmax d_Box_nearest_6 w_139 w_140 w_6 w_141 (by decide) (Nat.le_of_ble_eq_true rfl) ⟨Nat.le_refl _, Nat.le_refl _⟩ ?_
  exact ob_ie h (ob_iret d_Box_nearest_9 rfl rfl)
-- OrbitBox.<init>(IIIII)V
theorem d_Box_init_0 : ob_dv ob_ac k_Box_init 0 1 0 (.aload_n 0) 1 := ⟨by decide +kernel, rfl, rfl⟩
theorem d_Box_init_1 : ob_dc k_Box_init 1 (.invokespecial 1) 3 4 := ⟨by decide +kernel, rfl⟩
theorem d_Box_init_4 : ob_dv ob_ac k_Box_init 4 5 0 (.aload_n 0) 1 := ⟨by decide +kernel, rfl, rfl⟩
theorem d_Box_init_5 : ob_dc k_Box_init 5 (.new 7) 3 8 := ⟨by decide +kernel, rfl⟩
theorem d_Box_init_8 : ob_dc k_Box_init 8 (.dup) 1 9 := ⟨by decide +kernel, rfl⟩
theorem d_Box_init_9 : ob_dk k_Box_init 9 12 (4096 : Int32) (.sipush 4096) 3 := ⟨by decide +kernel, rfl, show (Int16.ofInt 4096).toInt32 = (4096 : Int32) by decide +kernel⟩
theorem d_Box_init_12 : ob_dc k_Box_init 12 (.invokespecial 11) 3 15 := ⟨by decide +kernel, rfl⟩
theorem d_Box_init_15 : ob_dc k_Box_init 15 (.putfield 14) 3 18 := ⟨by decide +kernel, rfl⟩
theorem d_Box_init_18 : ob_dv ob_ac k_Box_init 18 19 0 (.aload_n 0) 1 := ⟨by decide +kernel, rfl, rfl⟩
theorem d_Box_init_19 : ob_dc k_Box_init 19 (.new 7) 3 22 := ⟨by decide +kernel, rfl⟩
theorem d_Box_init_22 : ob_dc k_Box_init 22 (.dup) 1 23 := ⟨by decide +kernel, rfl⟩
theorem d_Box_init_23 : ob_dk k_Box_init 23 26 (4096 : Int32) (.sipush 4096) 3 := ⟨by decide +kernel, rfl, show (Int16.ofInt 4096).toInt32 = (4096 : Int32) by decide +kernel⟩
theorem d_Box_init_26 : ob_dc k_Box_init 26 (.invokespecial 11) 3 29 := ⟨by decide +kernel, rfl⟩
theorem d_Box_init_29 : ob_dc k_Box_init 29 (.putfield 18) 3 32 := ⟨by decide +kernel, rfl⟩
theorem d_Box_init_32 : ob_dv ob_ac k_Box_init 32 33 0 (.aload_n 0) 1 := ⟨by decide +kernel, rfl, rfl⟩
theorem d_Box_init_33 : ob_dc k_Box_init 33 (.getfield 18) 3 36 := ⟨by decide +kernel, rfl⟩
theorem d_Box_init_36 : ob_dk k_Box_init 36 39 (4096 : Int32) (.sipush 4096) 3 := ⟨by decide +kernel, rfl, show (Int16.ofInt 4096).toInt32 = (4096 : Int32) by decide +kernel⟩
theorem d_Box_init_39 : ob_dc k_Box_init 39 (.putfield 21) 3 42 := ⟨by decide +kernel, rfl⟩
theorem d_Box_init_42 : ob_dv ob_ac k_Box_init 42 43 0 (.aload_n 0) 1 := ⟨by decide +kernel, rfl, rfl⟩
theorem d_Box_init_43 : ob_dc k_Box_init 43 (.new 25) 3 46 := ⟨by decide +kernel, rfl⟩
theorem d_Box_init_46 : ob_dc k_Box_init 46 (.dup) 1 47 := ⟨by decide +kernel, rfl⟩
theorem d_Box_init_47 : ob_dc k_Box_init 47 (.invokespecial 27) 3 50 := ⟨by decide +kernel, rfl⟩
theorem d_Box_init_50 : ob_dc k_Box_init 50 (.putfield 28) 3 53 := ⟨by decide +kernel, rfl⟩
theorem d_Box_init_53 : ob_dv ob_ac k_Box_init 53 54 0 (.aload_n 0) 1 := ⟨by decide +kernel, rfl, rfl⟩
theorem d_Box_init_54 : ob_dc k_Box_init 54 (.new 32) 3 57 := ⟨by decide +kernel, rfl⟩
theorem d_Box_init_57 : ob_dc k_Box_init 57 (.dup) 1 58 := ⟨by decide +kernel, rfl⟩
theorem d_Box_init_58 : ob_dc k_Box_init 58 (.invokespecial 34) 3 61 := ⟨by decide +kernel, rfl⟩
theorem d_Box_init_61 : ob_dc k_Box_init 61 (.putfield 35) 3 64 := ⟨by decide +kernel, rfl⟩
theorem d_Box_init_64 : ob_dv ob_ac k_Box_init 64 65 0 (.aload_n 0) 1 := ⟨by decide +kernel, rfl, rfl⟩
theorem d_Box_init_65 : ob_dc k_Box_init 65 (.new 39) 3 68 := ⟨by decide +kernel, rfl⟩
theorem d_Box_init_68 : ob_dc k_Box_init 68 (.dup) 1 69 := ⟨by decide +kernel, rfl⟩
theorem d_Box_init_69 : ob_dv ob_lc k_Box_init 69 70 1 (.iload_n 1) 1 := ⟨by decide +kernel, rfl, rfl⟩
theorem d_Box_init_70 : ob_dk k_Box_init 70 71 (1 : Int32) (.iconst 1) 1 := ⟨by decide +kernel, rfl, show Int32.ofInt 1 = (1 : Int32) by decide +kernel⟩
theorem d_Box_init_71 : ob_dk k_Box_init 71 73 (64 : Int32) (.bipush 64) 2 := ⟨by decide +kernel, rfl, show (Int8.ofInt 64).toInt32 = (64 : Int32) by decide +kernel⟩
theorem d_Box_init_73 : ob_dc k_Box_init 73 (.invokestatic 41) 3 76 := ⟨by decide +kernel, rfl⟩
theorem d_Box_init_76 : ob_dc k_Box_init 76 (.invokespecial 45) 3 79 := ⟨by decide +kernel, rfl⟩
theorem d_Box_init_79 : ob_dc k_Box_init 79 (.putfield 46) 3 82 := ⟨by decide +kernel, rfl⟩
theorem d_Box_init_82 : ob_dv ob_ac k_Box_init 82 83 0 (.aload_n 0) 1 := ⟨by decide +kernel, rfl, rfl⟩
theorem d_Box_init_83 : ob_dc k_Box_init 83 (.new 50) 3 86 := ⟨by decide +kernel, rfl⟩
theorem d_Box_init_86 : ob_dc k_Box_init 86 (.dup) 1 87 := ⟨by decide +kernel, rfl⟩
theorem d_Box_init_87 : ob_dc k_Box_init 87 (.invokespecial 52) 3 90 := ⟨by decide +kernel, rfl⟩
theorem d_Box_init_90 : ob_dc k_Box_init 90 (.putfield 53) 3 93 := ⟨by decide +kernel, rfl⟩
theorem d_Box_init_93 : ob_dv ob_ac k_Box_init 93 94 0 (.aload_n 0) 1 := ⟨by decide +kernel, rfl, rfl⟩
theorem d_Box_init_94 : ob_dc k_Box_init 94 (.new 57) 3 97 := ⟨by decide +kernel, rfl⟩
theorem d_Box_init_97 : ob_dc k_Box_init 97 (.dup) 1 98 := ⟨by decide +kernel, rfl⟩
theorem d_Box_init_98 : ob_dk k_Box_init 98 100 (16 : Int32) (.bipush 16) 2 := ⟨by decide +kernel, rfl, show (Int8.ofInt 16).toInt32 = (16 : Int32) by decide +kernel⟩
theorem d_Box_init_100 : ob_dk k_Box_init 100 102 (9 : Int32) (.bipush 9) 2 := ⟨by decide +kernel, rfl, show (Int8.ofInt 9).toInt32 = (9 : Int32) by decide +kernel⟩
theorem d_Box_init_102 : ob_dc k_Box_init 102 (.invokespecial 59) 3 105 := ⟨by decide +kernel, rfl⟩
theorem d_Box_init_105 : ob_dc k_Box_init 105 (.putfield 62) 3 108 := ⟨by decide +kernel, rfl⟩
theorem d_Box_init_108 : ob_dv ob_ac k_Box_init 108 109 0 (.aload_n 0) 1 := ⟨by decide +kernel, rfl, rfl⟩
theorem d_Box_init_109 : ob_dc k_Box_init 109 (.new 66) 3 112 := ⟨by decide +kernel, rfl⟩
theorem d_Box_init_112 : ob_dc k_Box_init 112 (.dup) 1 113 := ⟨by decide +kernel, rfl⟩
theorem d_Box_init_113 : ob_dv ob_lc k_Box_init 113 114 2 (.iload_n 2) 1 := ⟨by decide +kernel, rfl, rfl⟩
theorem d_Box_init_114 : ob_dk k_Box_init 114 116 (64 : Int32) (.bipush 64) 2 := ⟨by decide +kernel, rfl, show (Int8.ofInt 64).toInt32 = (64 : Int32) by decide +kernel⟩
theorem d_Box_init_116 : ob_dk k_Box_init 116 119 (256 : Int32) (.sipush 256) 3 := ⟨by decide +kernel, rfl, show (Int16.ofInt 256).toInt32 = (256 : Int32) by decide +kernel⟩
theorem d_Box_init_119 : ob_dc k_Box_init 119 (.invokestatic 41) 3 122 := ⟨by decide +kernel, rfl⟩
theorem d_Box_init_122 : ob_dv ob_lc k_Box_init 122 123 3 (.iload_n 3) 1 := ⟨by decide +kernel, rfl, rfl⟩
theorem d_Box_init_123 : ob_dk k_Box_init 123 124 (1 : Int32) (.iconst 1) 1 := ⟨by decide +kernel, rfl, show Int32.ofInt 1 = (1 : Int32) by decide +kernel⟩
theorem d_Box_init_124 : ob_dk k_Box_init 124 125 (4 : Int32) (.iconst 4) 1 := ⟨by decide +kernel, rfl, show Int32.ofInt 4 = (4 : Int32) by decide +kernel⟩
theorem d_Box_init_125 : ob_dc k_Box_init 125 (.invokestatic 41) 3 128 := ⟨by decide +kernel, rfl⟩
theorem d_Box_init_128 : ob_dc k_Box_init 128 (.invokespecial 68) 3 131 := ⟨by decide +kernel, rfl⟩
theorem d_Box_init_131 : ob_dc k_Box_init 131 (.putfield 69) 3 134 := ⟨by decide +kernel, rfl⟩
theorem d_Box_init_134 : ob_dv ob_ac k_Box_init 134 135 0 (.aload_n 0) 1 := ⟨by decide +kernel, rfl, rfl⟩
theorem d_Box_init_135 : ob_dc k_Box_init 135 (.new 73) 3 138 := ⟨by decide +kernel, rfl⟩
theorem d_Box_init_138 : ob_dc k_Box_init 138 (.dup) 1 139 := ⟨by decide +kernel, rfl⟩
theorem d_Box_init_139 : ob_dv ob_ac k_Box_init 139 140 0 (.aload_n 0) 1 := ⟨by decide +kernel, rfl, rfl⟩
theorem d_Box_init_140 : ob_dc k_Box_init 140 (.getfield 69) 3 143 := ⟨by decide +kernel, rfl⟩
theorem d_Box_init_143 : ob_dc k_Box_init 143 (.getfield 75) 3 146 := ⟨by decide +kernel, rfl⟩
theorem d_Box_init_146 : ob_dv ob_lc k_Box_init 146 148 5 (.iload 5) 2 := ⟨by decide +kernel, rfl, rfl⟩
theorem d_Box_init_148 : ob_dk k_Box_init 148 150 (64 : Int32) (.bipush 64) 2 := ⟨by decide +kernel, rfl, show (Int8.ofInt 64).toInt32 = (64 : Int32) by decide +kernel⟩
theorem d_Box_init_150 : ob_dk k_Box_init 150 153 (16384 : Int32) (.sipush 16384) 3 := ⟨by decide +kernel, rfl, show (Int16.ofInt 16384).toInt32 = (16384 : Int32) by decide +kernel⟩
theorem d_Box_init_153 : ob_dc k_Box_init 153 (.invokestatic 41) 3 156 := ⟨by decide +kernel, rfl⟩
theorem d_Box_init_156 : ob_dc k_Box_init 156 (.invokespecial 79) 3 159 := ⟨by decide +kernel, rfl⟩
theorem d_Box_init_159 : ob_dc k_Box_init 159 (.putfield 82) 3 162 := ⟨by decide +kernel, rfl⟩
theorem d_Box_init_162 : ob_dv ob_ac k_Box_init 162 163 0 (.aload_n 0) 1 := ⟨by decide +kernel, rfl, rfl⟩
theorem d_Box_init_163 : ob_dc k_Box_init 163 (.new 86) 3 166 := ⟨by decide +kernel, rfl⟩
theorem d_Box_init_166 : ob_dc k_Box_init 166 (.dup) 1 167 := ⟨by decide +kernel, rfl⟩
theorem d_Box_init_167 : ob_dv ob_lc k_Box_init 167 169 4 (.iload 4) 2 := ⟨by decide +kernel, rfl, rfl⟩
theorem d_Box_init_169 : ob_dk k_Box_init 169 170 (1 : Int32) (.iconst 1) 1 := ⟨by decide +kernel, rfl, show Int32.ofInt 1 = (1 : Int32) by decide +kernel⟩
theorem d_Box_init_170 : ob_dk k_Box_init 170 172 (100 : Int32) (.bipush 100) 2 := ⟨by decide +kernel, rfl, show (Int8.ofInt 100).toInt32 = (100 : Int32) by decide +kernel⟩
theorem d_Box_init_172 : ob_dc k_Box_init 172 (.invokestatic 41) 3 175 := ⟨by decide +kernel, rfl⟩
theorem d_Box_init_175 : ob_dv ob_ac k_Box_init 175 176 0 (.aload_n 0) 1 := ⟨by decide +kernel, rfl, rfl⟩
theorem d_Box_init_176 : ob_dc k_Box_init 176 (.getfield 28) 3 179 := ⟨by decide +kernel, rfl⟩
theorem d_Box_init_179 : ob_dv ob_ac k_Box_init 179 180 0 (.aload_n 0) 1 := ⟨by decide +kernel, rfl, rfl⟩
theorem d_Box_init_180 : ob_dc k_Box_init 180 (.getfield 35) 3 183 := ⟨by decide +kernel, rfl⟩
theorem d_Box_init_183 : ob_dv ob_ac k_Box_init 183 184 0 (.aload_n 0) 1 := ⟨by decide +kernel, rfl, rfl⟩
theorem d_Box_init_184 : ob_dc k_Box_init 184 (.getfield 46) 3 187 := ⟨by decide +kernel, rfl⟩
theorem d_Box_init_187 : ob_dv ob_ac k_Box_init 187 188 0 (.aload_n 0) 1 := ⟨by decide +kernel, rfl, rfl⟩
theorem d_Box_init_188 : ob_dc k_Box_init 188 (.getfield 53) 3 191 := ⟨by decide +kernel, rfl⟩
theorem d_Box_init_191 : ob_dv ob_ac k_Box_init 191 192 0 (.aload_n 0) 1 := ⟨by decide +kernel, rfl, rfl⟩
theorem d_Box_init_192 : ob_dc k_Box_init 192 (.getfield 82) 3 195 := ⟨by decide +kernel, rfl⟩
theorem d_Box_init_195 : ob_dc k_Box_init 195 (.invokespecial 88) 3 198 := ⟨by decide +kernel, rfl⟩
theorem d_Box_init_198 : ob_dc k_Box_init 198 (.putfield 91) 3 201 := ⟨by decide +kernel, rfl⟩
theorem d_Box_init_201 : ob_dv ob_ac k_Box_init 201 202 0 (.aload_n 0) 1 := ⟨by decide +kernel, rfl, rfl⟩
theorem d_Box_init_202 : ob_dc k_Box_init 202 (.new 95) 3 205 := ⟨by decide +kernel, rfl⟩
theorem d_Box_init_205 : ob_dc k_Box_init 205 (.dup) 1 206 := ⟨by decide +kernel, rfl⟩
theorem d_Box_init_206 : ob_dv ob_ac k_Box_init 206 207 0 (.aload_n 0) 1 := ⟨by decide +kernel, rfl, rfl⟩
theorem d_Box_init_207 : ob_dc k_Box_init 207 (.getfield 91) 3 210 := ⟨by decide +kernel, rfl⟩
theorem d_Box_init_210 : ob_dc k_Box_init 210 (.new 57) 3 213 := ⟨by decide +kernel, rfl⟩
theorem d_Box_init_213 : ob_dc k_Box_init 213 (.dup) 1 214 := ⟨by decide +kernel, rfl⟩
theorem d_Box_init_214 : ob_dk k_Box_init 214 216 (8 : Int32) (.bipush 8) 2 := ⟨by decide +kernel, rfl, show (Int8.ofInt 8).toInt32 = (8 : Int32) by decide +kernel⟩
theorem d_Box_init_216 : ob_dk k_Box_init 216 218 (12 : Int32) (.bipush 12) 2 := ⟨by decide +kernel, rfl, show (Int8.ofInt 12).toInt32 = (12 : Int32) by decide +kernel⟩
theorem d_Box_init_218 : ob_dc k_Box_init 218 (.invokespecial 59) 3 221 := ⟨by decide +kernel, rfl⟩
theorem d_Box_init_221 : ob_dv ob_ac k_Box_init 221 222 0 (.aload_n 0) 1 := ⟨by decide +kernel, rfl, rfl⟩
theorem d_Box_init_222 : ob_dc k_Box_init 222 (.getfield 62) 3 225 := ⟨by decide +kernel, rfl⟩
theorem d_Box_init_225 : ob_dv ob_ac k_Box_init 225 226 0 (.aload_n 0) 1 := ⟨by decide +kernel, rfl, rfl⟩
theorem d_Box_init_226 : ob_dc k_Box_init 226 (.getfield 18) 3 229 := ⟨by decide +kernel, rfl⟩
theorem d_Box_init_229 : ob_dc k_Box_init 229 (.invokespecial 97) 3 232 := ⟨by decide +kernel, rfl⟩
theorem d_Box_init_232 : ob_dc k_Box_init 232 (.putfield 100) 3 235 := ⟨by decide +kernel, rfl⟩
theorem d_Box_init_235 : ob_dc k_Box_init 235 (.return_) 1 236 := ⟨by decide +kernel, rfl⟩
theorem c_Box_init_11 : ob_id k_Box_init k_Row_init 11 1 := ⟨cw_Row_init, yd_Row_init, w_31, w_32, w_2, ⟨by decide, by decide⟩, rfl, rfl⟩
theorem c_Box_init_27 : ob_id k_Box_init k_Receiver_init 27 0 := ⟨cw_Receiver_init, yd_Receiver_init, w_55, w_56, w_3, ⟨by decide, by decide⟩, rfl, rfl⟩
theorem c_Box_init_34 : ob_id k_Box_init k_Gate_init 34 0 := ⟨cw_Gate_init, yd_Gate_init, w_88, w_89, w_4, ⟨by decide, by decide⟩, rfl, rfl⟩
theorem c_Box_init_41 : ob_sd k_Box_init k_Box_nearest 41 3 := ⟨cw_Box_nearest, yd_Box_nearest, w_133, w_134, w_1, by decide, by decide⟩
theorem c_Box_init_45 : ob_id k_Box_init k_Timetable_init 45 1 := ⟨cw_Timetable_init, yd_Timetable_init, w_142, w_143, w_5, ⟨by decide, by decide⟩, rfl, rfl⟩
theorem c_Box_init_52 : ob_id k_Box_init k_Events_init 52 0 := ⟨cw_Events_init, yd_Events_init, w_168, w_169, w_7, ⟨by decide, by decide⟩, rfl, rfl⟩
theorem c_Box_init_59 : ob_id k_Box_init k_Table_init 59 2 := ⟨cw_Table_init, yd_Table_init, w_225, w_226, w_9, ⟨by decide, by decide⟩, rfl, rfl⟩
theorem c_Box_init_68 : ob_id k_Box_init k_Downlink_init 68 2 := ⟨cw_Downlink_init, yd_Downlink_init, w_246, w_247, w_10, ⟨by decide, by decide⟩, rfl, rfl⟩
theorem c_Box_init_79 : ob_id k_Box_init k_Reports_init 79 2 := ⟨cw_Reports_init, yd_Reports_init, w_283, w_284, w_11, ⟨by decide, by decide⟩, rfl, rfl⟩
theorem c_Box_init_88 : ob_id k_Box_init k_Craft_init 88 6 := ⟨cw_Craft_init, yd_Craft_init, w_337, w_338, w_12, ⟨by decide, by decide⟩, rfl, rfl⟩
theorem c_Box_init_97 : ob_id k_Box_init k_Handler_init 97 4 := ⟨cw_Handler_init, yd_Handler_init, w_394, w_395, w_13, ⟨by decide, by decide⟩, rfl, rfl⟩
def f_Box_init (v0 : Nat) (v1 : Int32) (v2 : Int32) (v3 : Int32) (v4 : Int32) (v5 : Int32) (S : ob_S) (D : ob_D) : Option (ob_S × ob_D) :=
  ob_lt (ob_new S 2 0 2) fun S1 => ob_lt (ob_z D S.2.2.1) fun D2 => ob_bd (f_Row_init (S.2.2.1) (4096 : Int32) S1 D2) fun S7 D8 => ob_lt (ob_pR D8 v0 0 (S.2.2.1)) fun D12 => ob_lt (ob_new S7 2 0 2) fun S14 => ob_lt (ob_z D12 S7.2.2.1) fun D15 => ob_bd (f_Row_init (S7.2.2.1) (4096 : Int32) S14 D15) fun S20 D21 => ob_lt (ob_pR D21 v0 1 (S7.2.2.1)) fun D25 => ob_gt (D25.2.1 v0 1 ≠ 0) <| ob_lt (ob_pI D25 (D25.2.1 v0 1) 1 (4096 : Int32)) fun D31 => ob_lt (ob_new S20 4 0 7) fun S33 => ob_lt (ob_z D31 S20.2.2.1) fun D34 => ob_bd (f_Receiver_init (S20.2.2.1) S33 D34) fun S39 D40 => ob_lt (ob_pR D40 v0 2 (S20.2.2.1)) fun D44 => ob_lt (ob_new S39 5 0 10) fun S46 => ob_lt (ob_z D44 S39.2.2.1) fun D47 => ob_bd (f_Gate_init (S39.2.2.1) S46 D47) fun S52 D53 => ob_lt (ob_pR D53 v0 3 (S39.2.2.1)) fun D57 => ob_lt (ob_new S52 6 0 4) fun S59 => ob_lt (ob_z D57 S52.2.2.1) fun D60 => ob_bd (f_Box_nearest S59 v1 (1 : Int32) (64 : Int32) D60) fun x67 D65 => ob_bd (f_Timetable_init (S52.2.2.1) x67 S59 D65) fun S68 D69 => ob_lt (ob_pR D69 v0 4 (S52.2.2.1)) fun D73 => ob_lt (ob_new S68 7 0 6) fun S75 => ob_lt (ob_z D73 S68.2.2.1) fun D76 => ob_bd (f_Events_init (S68.2.2.1) S75 D76) fun S81 D82 => ob_lt (ob_pR D82 v0 5 (S68.2.2.1)) fun D86 => ob_lt (ob_new S81 8 0 4) fun S88 => ob_lt (ob_z D86 S81.2.2.1) fun D89 => ob_bd (f_Table_init (S81.2.2.1) (16 : Int32) (9 : Int32) S88 D89) fun S94 D95 => ob_lt (ob_pR D95 v0 6 (S81.2.2.1)) fun D99 => ob_lt (ob_new S94 10 0 7) fun S101 => ob_lt (ob_z D99 S94.2.2.1) fun D102 => ob_bd (f_Box_nearest S101 v2 (64 : Int32) (256 : Int32) D102) fun x109 D107 => ob_bd (f_Box_nearest S101 v3 (1 : Int32) (4 : Int32) D107) fun x112 D110 => ob_bd (f_Downlink_init (S94.2.2.1) x109 x112 S101 D110) fun S113 D114 => ob_lt (ob_pR D114 v0 7 (S94.2.2.1)) fun D118 => ob_lt (ob_new S113 9 0 12) fun S120 => ob_lt (ob_z D118 S113.2.2.1) fun D121 => ob_gt (D121.2.1 v0 7 ≠ 0) <| ob_gt (D121.2.1 (D121.2.1 v0 7) 0 ≠ 0) <| ob_bd (f_Box_nearest S120 v5 (64 : Int32) (16384 : Int32) D121) fun x136 D134 => ob_bd (f_Reports_init (S113.2.2.1) (D121.2.1 (D121.2.1 v0 7) 0) x136 S120 D134) fun S137 D138 => ob_lt (ob_pR D138 v0 8 (S113.2.2.1)) fun D142 => ob_lt (ob_new S137 11 0 13) fun S144 => ob_lt (ob_z D142 S137.2.2.1) fun D145 => ob_bd (f_Box_nearest S144 v4 (1 : Int32) (100 : Int32) D145) fun x152 D150 => ob_gt (D150.2.1 v0 2 ≠ 0) <| ob_gt (D150.2.1 v0 3 ≠ 0) <| ob_gt (D150.2.1 v0 4 ≠ 0) <| ob_gt (D150.2.1 v0 5 ≠ 0) <| ob_gt (D150.2.1 v0 8 ≠ 0) <| ob_bd (f_Craft_init (S137.2.2.1) x152 (D150.2.1 v0 2) (D150.2.1 v0 3) (D150.2.1 v0 4) (D150.2.1 v0 5) (D150.2.1 v0 8) S144 D150) fun S173 D174 => ob_lt (ob_pR D174 v0 9 (S137.2.2.1)) fun D178 => ob_lt (ob_new S173 12 0 9) fun S180 => ob_lt (ob_z D178 S173.2.2.1) fun D181 => ob_gt (D181.2.1 v0 9 ≠ 0) <| ob_lt (ob_new S180 8 0 4) fun S190 => ob_lt (ob_z D181 S180.2.2.1) fun D191 => ob_bd (f_Table_init (S180.2.2.1) (8 : Int32) (12 : Int32) S190 D191) fun S198 D199 => ob_gt (D199.2.1 v0 6 ≠ 0) <| ob_gt (D199.2.1 v0 1 ≠ 0) <| ob_bd (f_Handler_init (S173.2.2.1) (D181.2.1 v0 9) (S180.2.2.1) (D199.2.1 v0 6) (D199.2.1 v0 1) S198 D199) fun S213 D214 => ob_lt (ob_pR D214 v0 10 (S173.2.2.1)) fun D218 => some (S213, D218)
theorem e_Box_init {v0 : Nat} {v1 : Int32} {v2 : Int32} {v3 : Int32} {v4 : Int32} {v5 : Int32} {S T : ob_S} {D D' : ob_D} (h : f_Box_init v0 v1 v2 v3 v4 v5 S D = some (T, D')) : ob_ext S T := by
  rw [f_Box_init] at h
  obtain ⟨S1, hS3, h⟩ := ob_lt_x h
  obtain ⟨D2, hD4, h⟩ := ob_lt_x h
  obtain ⟨S7, D8, h9, h⟩ := ob_bd_e h
  obtain ⟨D12, hD13, h⟩ := ob_lt_x h
  obtain ⟨S14, hS16, h⟩ := ob_lt_x h
  obtain ⟨D15, hD17, h⟩ := ob_lt_x h
  obtain ⟨S20, D21, h22, h⟩ := ob_bd_e h
  obtain ⟨D25, hD26, h⟩ := ob_lt_x h
  obtain ⟨hg27, h⟩ := ob_gt_e h
  obtain ⟨D31, hD32, h⟩ := ob_lt_x h
  obtain ⟨S33, hS35, h⟩ := ob_lt_x h
  obtain ⟨D34, hD36, h⟩ := ob_lt_x h
  obtain ⟨S39, D40, h41, h⟩ := ob_bd_e h
  obtain ⟨D44, hD45, h⟩ := ob_lt_x h
  obtain ⟨S46, hS48, h⟩ := ob_lt_x h
  obtain ⟨D47, hD49, h⟩ := ob_lt_x h
  obtain ⟨S52, D53, h54, h⟩ := ob_bd_e h
  obtain ⟨D57, hD58, h⟩ := ob_lt_x h
  obtain ⟨S59, hS61, h⟩ := ob_lt_x h
  obtain ⟨D60, hD62, h⟩ := ob_lt_x h
  obtain ⟨x67, D65, h66, h⟩ := ob_bd_e h
  obtain ⟨S68, D69, h70, h⟩ := ob_bd_e h
  obtain ⟨D73, hD74, h⟩ := ob_lt_x h
  obtain ⟨S75, hS77, h⟩ := ob_lt_x h
  obtain ⟨D76, hD78, h⟩ := ob_lt_x h
  obtain ⟨S81, D82, h83, h⟩ := ob_bd_e h
  obtain ⟨D86, hD87, h⟩ := ob_lt_x h
  obtain ⟨S88, hS90, h⟩ := ob_lt_x h
  obtain ⟨D89, hD91, h⟩ := ob_lt_x h
  obtain ⟨S94, D95, h96, h⟩ := ob_bd_e h
  obtain ⟨D99, hD100, h⟩ := ob_lt_x h
  obtain ⟨S101, hS103, h⟩ := ob_lt_x h
  obtain ⟨D102, hD104, h⟩ := ob_lt_x h
  obtain ⟨x109, D107, h108, h⟩ := ob_bd_e h
  obtain ⟨x112, D110, h111, h⟩ := ob_bd_e h
  obtain ⟨S113, D114, h115, h⟩ := ob_bd_e h
  obtain ⟨D118, hD119, h⟩ := ob_lt_x h
  obtain ⟨S120, hS122, h⟩ := ob_lt_x h
  obtain ⟨D121, hD123, h⟩ := ob_lt_x h
  obtain ⟨hg126, h⟩ := ob_gt_e h
  obtain ⟨hg130, h⟩ := ob_gt_e h
  obtain ⟨x136, D134, h135, h⟩ := ob_bd_e h
  obtain ⟨S137, D138, h139, h⟩ := ob_bd_e h
  obtain ⟨D142, hD143, h⟩ := ob_lt_x h
  obtain ⟨S144, hS146, h⟩ := ob_lt_x h
  obtain ⟨D145, hD147, h⟩ := ob_lt_x h
  obtain ⟨x152, D150, h151, h⟩ := ob_bd_e h
  obtain ⟨hg153, h⟩ := ob_gt_e h
  obtain ⟨hg157, h⟩ := ob_gt_e h
  obtain ⟨hg161, h⟩ := ob_gt_e h
  obtain ⟨hg165, h⟩ := ob_gt_e h
  obtain ⟨hg169, h⟩ := ob_gt_e h
  obtain ⟨S173, D174, h175, h⟩ := ob_bd_e h
  obtain ⟨D178, hD179, h⟩ := ob_lt_x h
  obtain ⟨S180, hS182, h⟩ := ob_lt_x h
  obtain ⟨D181, hD183, h⟩ := ob_lt_x h
  obtain ⟨hg186, h⟩ := ob_gt_e h
  obtain ⟨S190, hS192, h⟩ := ob_lt_x h
  obtain ⟨D191, hD193, h⟩ := ob_lt_x h
  obtain ⟨S198, D199, h200, h⟩ := ob_bd_e h
  obtain ⟨hg205, h⟩ := ob_gt_e h
  obtain ⟨hg209, h⟩ := ob_gt_e h
  obtain ⟨S213, D214, h215, h⟩ := ob_bd_e h
  obtain ⟨D218, hD219, h⟩ := ob_lt_x h
  obtain ⟨he1, he2⟩ := ob_pe h
  have x_S213 : ob_ext S213 T := ob_ext_eq he1
  have x_S198 : ob_ext S198 T := (e_Handler_init h215).tr x_S213
  have x_S190 : ob_ext S190 T := (e_Table_init h200).tr x_S198
  have x_S180 : ob_ext S180 T := (ob_ext_new hS192).tr x_S190
  have x_S173 : ob_ext S173 T := (ob_ext_new hS182).tr x_S180
  have x_S144 : ob_ext S144 T := (e_Craft_init h175).tr x_S173
  have x_S137 : ob_ext S137 T := (ob_ext_new hS146).tr x_S144
  have x_S120 : ob_ext S120 T := (e_Reports_init h139).tr x_S137
  have x_S113 : ob_ext S113 T := (ob_ext_new hS122).tr x_S120
  have x_S101 : ob_ext S101 T := (e_Downlink_init h115).tr x_S113
  have x_S94 : ob_ext S94 T := (ob_ext_new hS103).tr x_S101
  have x_S88 : ob_ext S88 T := (e_Table_init h96).tr x_S94
  have x_S81 : ob_ext S81 T := (ob_ext_new hS90).tr x_S88
  have x_S75 : ob_ext S75 T := (e_Events_init h83).tr x_S81
  have x_S68 : ob_ext S68 T := (ob_ext_new hS77).tr x_S75
  have x_S59 : ob_ext S59 T := (e_Timetable_init h70).tr x_S68
  have x_S52 : ob_ext S52 T := (ob_ext_new hS61).tr x_S59
  have x_S46 : ob_ext S46 T := (e_Gate_init h54).tr x_S52
  have x_S39 : ob_ext S39 T := (ob_ext_new hS48).tr x_S46
  have x_S33 : ob_ext S33 T := (e_Receiver_init h41).tr x_S39
  have x_S20 : ob_ext S20 T := (ob_ext_new hS35).tr x_S33
  have x_S14 : ob_ext S14 T := (e_Row_init h22).tr x_S20
  have x_S7 : ob_ext S7 T := (ob_ext_new hS16).tr x_S14
  have x_S1 : ob_ext S1 T := (e_Row_init h9).tr x_S7
  have x_S : ob_ext S T := (ob_ext_new hS3).tr x_S1
  exact x_S
theorem c_Box_init {l : Launch} {E : ob_E} {S T : ob_S} {D D' : ob_D} {v0 : Nat} {v1 : Int32} {v2 : Int32} {v3 : Int32} {v4 : Int32} {v5 : Int32} (hp_v0 : S.1 v0 = 1) (h : f_Box_init v0 v1 v2 v3 v4 v5 S D = some (T, D')) : ob_M l E k_Box_init [.ref v0, .int v1, .int v2, .int v3, .int v4, .int v5] S D none T D' := by
  have xx := e_Box_init h
  refine ob_ofV (lo := [(0, .ref v0), (1, .int v1), (2, .int v2), (3, .int v3), (4, .int v4), (5, .int v5)]) (by decide) rfl (Nat.le_of_ble_eq_true rfl) rfl xx.1 xx.2.1 ?_
  rw [f_Box_init] at h
  refine ob_withH fun H0 hH0 => ?_
  have kd_v0 := ob_kdH hH0 hp_v0
  obtain ⟨S1, hS3, h⟩ := ob_lt_x h
  obtain ⟨D2, hD4, h⟩ := ob_lt_x h
  obtain ⟨S7, D8, h9, h⟩ := ob_bd_e h
  obtain ⟨D12, hD13, h⟩ := ob_lt_x h
  obtain ⟨S14, hS16, h⟩ := ob_lt_x h
  obtain ⟨D15, hD17, h⟩ := ob_lt_x h
  obtain ⟨S20, D21, h22, h⟩ := ob_bd_e h
  obtain ⟨D25, hD26, h⟩ := ob_lt_x h
  obtain ⟨hg27, h⟩ := ob_gt_e h
  obtain ⟨D31, hD32, h⟩ := ob_lt_x h
  obtain ⟨S33, hS35, h⟩ := ob_lt_x h
  obtain ⟨D34, hD36, h⟩ := ob_lt_x h
  obtain ⟨S39, D40, h41, h⟩ := ob_bd_e h
  obtain ⟨D44, hD45, h⟩ := ob_lt_x h
  obtain ⟨S46, hS48, h⟩ := ob_lt_x h
  obtain ⟨D47, hD49, h⟩ := ob_lt_x h
  obtain ⟨S52, D53, h54, h⟩ := ob_bd_e h
  obtain ⟨D57, hD58, h⟩ := ob_lt_x h
  obtain ⟨S59, hS61, h⟩ := ob_lt_x h
  obtain ⟨D60, hD62, h⟩ := ob_lt_x h
  obtain ⟨x67, D65, h66, h⟩ := ob_bd_e h
  obtain ⟨S68, D69, h70, h⟩ := ob_bd_e h
  obtain ⟨D73, hD74, h⟩ := ob_lt_x h
  obtain ⟨S75, hS77, h⟩ := ob_lt_x h
  obtain ⟨D76, hD78, h⟩ := ob_lt_x h
  obtain ⟨S81, D82, h83, h⟩ := ob_bd_e h
  obtain ⟨D86, hD87, h⟩ := ob_lt_x h
  obtain ⟨S88, hS90, h⟩ := ob_lt_x h
  obtain ⟨D89, hD91, h⟩ := ob_lt_x h
  obtain ⟨S94, D95, h96, h⟩ := ob_bd_e h
  obtain ⟨D99, hD100, h⟩ := ob_lt_x h
  obtain ⟨S101, hS103, h⟩ := ob_lt_x h
  obtain ⟨D102, hD104, h⟩ := ob_lt_x h
  obtain ⟨x109, D107, h108, h⟩ := ob_bd_e h
  obtain ⟨x112, D110, h111, h⟩ := ob_bd_e h
  obtain ⟨S113, D114, h115, h⟩ := ob_bd_e h
  obtain ⟨D118, hD119, h⟩ := ob_lt_x h
  obtain ⟨S120, hS122, h⟩ := ob_lt_x h
  obtain ⟨D121, hD123, h⟩ := ob_lt_x h
  obtain ⟨hg126, h⟩ := ob_gt_e h
  obtain ⟨hg130, h⟩ := ob_gt_e h
  obtain ⟨x136, D134, h135, h⟩ := ob_bd_e h
  obtain ⟨S137, D138, h139, h⟩ := ob_bd_e h
  obtain ⟨D142, hD143, h⟩ := ob_lt_x h
  obtain ⟨S144, hS146, h⟩ := ob_lt_x h
  obtain ⟨D145, hD147, h⟩ := ob_lt_x h
  obtain ⟨x152, D150, h151, h⟩ := ob_bd_e h
  obtain ⟨hg153, h⟩ := ob_gt_e h
  obtain ⟨hg157, h⟩ := ob_gt_e h
  obtain ⟨hg161, h⟩ := ob_gt_e h
  obtain ⟨hg165, h⟩ := ob_gt_e h
  obtain ⟨hg169, h⟩ := ob_gt_e h
  obtain ⟨S173, D174, h175, h⟩ := ob_bd_e h
  obtain ⟨D178, hD179, h⟩ := ob_lt_x h
  obtain ⟨S180, hS182, h⟩ := ob_lt_x h
  obtain ⟨D181, hD183, h⟩ := ob_lt_x h
  obtain ⟨hg186, h⟩ := ob_gt_e h
  obtain ⟨S190, hS192, h⟩ := ob_lt_x h
  obtain ⟨D191, hD193, h⟩ := ob_lt_x h
  obtain ⟨S198, D199, h200, h⟩ := ob_bd_e h
  obtain ⟨hg205, h⟩ := ob_gt_e h
  obtain ⟨hg209, h⟩ := ob_gt_e h
  obtain ⟨S213, D214, h215, h⟩ := ob_bd_e h
  obtain ⟨D218, hD219, h⟩ := ob_lt_x h
  obtain ⟨he1, he2⟩ := ob_pe h
  have x_S213 : ob_ext S213 T := ob_ext_eq he1
  have x_S198 : ob_ext S198 T := (e_Handler_init h215).tr x_S213
  have x_S190 : ob_ext S190 T := (e_Table_init h200).tr x_S198
  have x_S180 : ob_ext S180 T := (ob_ext_new hS192).tr x_S190
  have x_S173 : ob_ext S173 T := (ob_ext_new hS182).tr x_S180
  have x_S144 : ob_ext S144 T := (e_Craft_init h175).tr x_S173
  have x_S137 : ob_ext S137 T := (ob_ext_new hS146).tr x_S144
  have x_S120 : ob_ext S120 T := (e_Reports_init h139).tr x_S137
  have x_S113 : ob_ext S113 T := (ob_ext_new hS122).tr x_S120
  have x_S101 : ob_ext S101 T := (e_Downlink_init h115).tr x_S113
  have x_S94 : ob_ext S94 T := (ob_ext_new hS103).tr x_S101
  have x_S88 : ob_ext S88 T := (e_Table_init h96).tr x_S94
  have x_S81 : ob_ext S81 T := (ob_ext_new hS90).tr x_S88
  have x_S75 : ob_ext S75 T := (e_Events_init h83).tr x_S81
  have x_S68 : ob_ext S68 T := (ob_ext_new hS77).tr x_S75
  have x_S59 : ob_ext S59 T := (e_Timetable_init h70).tr x_S68
  have x_S52 : ob_ext S52 T := (ob_ext_new hS61).tr x_S59
  have x_S46 : ob_ext S46 T := (e_Gate_init h54).tr x_S52
  have x_S39 : ob_ext S39 T := (ob_ext_new hS48).tr x_S46
  have x_S33 : ob_ext S33 T := (e_Receiver_init h41).tr x_S39
  have x_S20 : ob_ext S20 T := (ob_ext_new hS35).tr x_S33
  have x_S14 : ob_ext S14 T := (e_Row_init h22).tr x_S20
  have x_S7 : ob_ext S7 T := (ob_ext_new hS16).tr x_S14
  have x_S1 : ob_ext S1 T := (e_Row_init h9).tr x_S7
  have x_S : ob_ext S T := (ob_ext_new hS3).tr x_S1
  refine ob_aload d_Box_init_0 rfl ?_
  refine ob_objI d_Box_init_1 w_26 w_27 w_28 (by decide) (Nat.le_of_ble_eq_true rfl) ?_
  refine ob_aload d_Box_init_4 rfl ?_
  refine ob_newO d_Box_init_5 N_1 w_29 hS3 hD4 x_S1 ?_
  have hk5 := ob_kd_new hS3 kd_v0
  have hk6 : ob_kd S1 S.2.2.1 2 := ob_kd_this hS3 (by decide)
  refine ob_dup d_Box_init_8 rfl ?_
  refine ob_push d_Box_init_9 ?_
  refine ob_callI (As := [.int (4096 : Int32)]) (rest := [.ref (S.2.2.1), .ref v0]) d_Box_init_12 c_Box_init_11 rfl rfl (Nat.le_of_ble_eq_true rfl) (c_Row_init hk6.1 h9) (ob_ext_m (e_Row_init h9)) (ob_ext_m x_S7) ?_
  have hk10 := ob_kd_ext (e_Row_init h9) hk5
  have hk11 := ob_kd_ext (e_Row_init h9) hk6
  refine ob_xI hD13 (ob_putFR d_Box_init_15 F_0_0 w_428 ⟨rfl, rfl⟩ (fty := (.object "OrbitBox$Row")) (by decide) rfl rfl hk10.1 hk11.1) ?_
  refine ob_aload d_Box_init_18 rfl ?_
  refine ob_newO d_Box_init_19 N_1 w_29 hS16 hD17 x_S14 ?_
  have hk18 := ob_kd_new hS16 hk10
  have hk19 : ob_kd S14 S7.2.2.1 2 := ob_kd_this hS16 (by decide)
  refine ob_dup d_Box_init_22 rfl ?_
  refine ob_push d_Box_init_23 ?_
  refine ob_callI (As := [.int (4096 : Int32)]) (rest := [.ref (S7.2.2.1), .ref v0]) d_Box_init_26 c_Box_init_11 rfl rfl (Nat.le_of_ble_eq_true rfl) (c_Row_init hk19.1 h22) (ob_ext_m (e_Row_init h22)) (ob_ext_m x_S20) ?_
  have hk23 := ob_kd_ext (e_Row_init h22) hk18
  have hk24 := ob_kd_ext (e_Row_init h22) hk19
  refine ob_xI hD26 (ob_putFR d_Box_init_29 F_0_1 w_429 ⟨rfl, rfl⟩ (fty := (.object "OrbitBox$Row")) (by decide) rfl rfl hk23.1 hk24.1) ?_
  refine ob_aload d_Box_init_32 rfl ?_
  refine ob_getR d_Box_init_33 F_0_1 l_Box_18 hk23.1 hg27 (fun hk28 => ?_)
  refine ob_withH fun H29 hH29 => ?_
  have hk30 := ob_kdH hH29 hk28
  refine ob_push d_Box_init_36 ?_
  refine ob_xI hD32 (ob_putI d_Box_init_39 F_1_1 l_Box_21 hk30.1) ?_
  refine ob_aload d_Box_init_42 rfl ?_
  refine ob_newO d_Box_init_43 N_3 w_53 hS35 hD36 x_S33 ?_
  have hk37 := ob_kd_new hS35 hk23
  have hk38 : ob_kd S33 S20.2.2.1 4 := ob_kd_this hS35 (by decide)
  refine ob_dup d_Box_init_46 rfl ?_
  refine ob_callI (As := []) (rest := [.ref (S20.2.2.1), .ref v0]) d_Box_init_47 c_Box_init_27 rfl rfl (Nat.le_of_ble_eq_true rfl) (c_Receiver_init hk38.1 h41) (ob_ext_m (e_Receiver_init h41)) (ob_ext_m x_S39) ?_
  have hk42 := ob_kd_ext (e_Receiver_init h41) hk37
  have hk43 := ob_kd_ext (e_Receiver_init h41) hk38
  refine ob_xI hD45 (ob_putFR d_Box_init_50 F_0_2 w_430 ⟨rfl, rfl⟩ (fty := (.object "OrbitBox$Receiver")) (by decide) rfl rfl hk42.1 hk43.1) ?_
  refine ob_aload d_Box_init_53 rfl ?_
  refine ob_newO d_Box_init_54 N_4 w_86 hS48 hD49 x_S46 ?_
  have hk50 := ob_kd_new hS48 hk42
  have hk51 : ob_kd S46 S39.2.2.1 5 := ob_kd_this hS48 (by decide)
  refine ob_dup d_Box_init_57 rfl ?_
  refine ob_callI (As := []) (rest := [.ref (S39.2.2.1), .ref v0]) d_Box_init_58 c_Box_init_34 rfl rfl (Nat.le_of_ble_eq_true rfl) (c_Gate_init hk51.1 h54) (ob_ext_m (e_Gate_init h54)) (ob_ext_m x_S52) ?_
  have hk55 := ob_kd_ext (e_Gate_init h54) hk50
  have hk56 := ob_kd_ext (e_Gate_init h54) hk51
  refine ob_xI hD58 (ob_putFR d_Box_init_61 F_0_3 w_431 ⟨rfl, rfl⟩ (fty := (.object "OrbitBox$Gate")) (by decide) rfl rfl hk55.1 hk56.1) ?_
  refine ob_aload d_Box_init_64 rfl ?_
  refine ob_newO d_Box_init_65 N_5 w_131 hS61 hD62 x_S59 ?_
  have hk63 := ob_kd_new hS61 hk55
  have hk64 : ob_kd S59 S52.2.2.1 6 := ob_kd_this hS61 (by decide)
  refine ob_dup d_Box_init_68 rfl ?_
  refine ob_iload d_Box_init_69 rfl ?_
  refine ob_push d_Box_init_70 ?_
  refine ob_push d_Box_init_71 ?_
  refine ob_callSi (As := [.int v1, .int (1 : Int32), .int (64 : Int32)]) (rest := [.ref (S52.2.2.1), .ref (S52.2.2.1), .ref v0]) d_Box_init_73 c_Box_init_41 rfl rfl (Nat.le_of_ble_eq_true rfl) (c_Box_nearest h66) ⟨Nat.le_refl _, Nat.le_refl _⟩ (ob_ext_m x_S59) ?_
  refine ob_callI (As := [.int x67]) (rest := [.ref (S52.2.2.1), .ref v0]) d_Box_init_76 c_Box_init_45 rfl rfl (Nat.le_of_ble_eq_true rfl) (c_Timetable_init hk64.1 h70) (ob_ext_m (e_Timetable_init h70)) (ob_ext_m x_S68) ?_
  have hk71 := ob_kd_ext (e_Timetable_init h70) hk63
  have hk72 := ob_kd_ext (e_Timetable_init h70) hk64
  refine ob_xI hD74 (ob_putFR d_Box_init_79 F_0_4 w_432 ⟨rfl, rfl⟩ (fty := (.object "OrbitBox$Timetable")) (by decide) rfl rfl hk71.1 hk72.1) ?_
  refine ob_aload d_Box_init_82 rfl ?_
  refine ob_newO d_Box_init_83 N_6 w_166 hS77 hD78 x_S75 ?_
  have hk79 := ob_kd_new hS77 hk71
  have hk80 : ob_kd S75 S68.2.2.1 7 := ob_kd_this hS77 (by decide)
  refine ob_dup d_Box_init_86 rfl ?_
  refine ob_callI (As := []) (rest := [.ref (S68.2.2.1), .ref v0]) d_Box_init_87 c_Box_init_52 rfl rfl (Nat.le_of_ble_eq_true rfl) (c_Events_init hk80.1 h83) (ob_ext_m (e_Events_init h83)) (ob_ext_m x_S81) ?_
  have hk84 := ob_kd_ext (e_Events_init h83) hk79
  have hk85 := ob_kd_ext (e_Events_init h83) hk80
  refine ob_xI hD87 (ob_putFR d_Box_init_90 F_0_5 w_433 ⟨rfl, rfl⟩ (fty := (.object "OrbitBox$Events")) (by decide) rfl rfl hk84.1 hk85.1) ?_
  refine ob_aload d_Box_init_93 rfl ?_
  refine ob_newO d_Box_init_94 N_7 w_223 hS90 hD91 x_S88 ?_
  have hk92 := ob_kd_new hS90 hk84
  have hk93 : ob_kd S88 S81.2.2.1 8 := ob_kd_this hS90 (by decide)
  refine ob_dup d_Box_init_97 rfl ?_
  refine ob_push d_Box_init_98 ?_
  refine ob_push d_Box_init_100 ?_
  refine ob_callI (As := [.int (16 : Int32), .int (9 : Int32)]) (rest := [.ref (S81.2.2.1), .ref v0]) d_Box_init_102 c_Box_init_59 rfl rfl (Nat.le_of_ble_eq_true rfl) (c_Table_init hk93.1 h96) (ob_ext_m (e_Table_init h96)) (ob_ext_m x_S94) ?_
  have hk97 := ob_kd_ext (e_Table_init h96) hk92
  have hk98 := ob_kd_ext (e_Table_init h96) hk93
  refine ob_xI hD100 (ob_putFR d_Box_init_105 F_0_6 w_434 ⟨rfl, rfl⟩ (fty := (.object "OrbitBox$Table")) (by decide) rfl rfl hk97.1 hk98.1) ?_
  refine ob_aload d_Box_init_108 rfl ?_
  refine ob_newO d_Box_init_109 N_9 w_244 hS103 hD104 x_S101 ?_
  have hk105 := ob_kd_new hS103 hk97
  have hk106 : ob_kd S101 S94.2.2.1 10 := ob_kd_this hS103 (by decide)
  refine ob_dup d_Box_init_112 rfl ?_
  refine ob_iload d_Box_init_113 rfl ?_
  refine ob_push d_Box_init_114 ?_
  refine ob_push d_Box_init_116 ?_
  refine ob_callSi (As := [.int v2, .int (64 : Int32), .int (256 : Int32)]) (rest := [.ref (S94.2.2.1), .ref (S94.2.2.1), .ref v0]) d_Box_init_119 c_Box_init_41 rfl rfl (Nat.le_of_ble_eq_true rfl) (c_Box_nearest h108) ⟨Nat.le_refl _, Nat.le_refl _⟩ (ob_ext_m x_S101) ?_
  refine ob_iload d_Box_init_122 rfl ?_
  refine ob_push d_Box_init_123 ?_
  refine ob_push d_Box_init_124 ?_
  refine ob_callSi (As := [.int v3, .int (1 : Int32), .int (4 : Int32)]) (rest := [.int x109, .ref (S94.2.2.1), .ref (S94.2.2.1), .ref v0]) d_Box_init_125 c_Box_init_41 rfl rfl (Nat.le_of_ble_eq_true rfl) (c_Box_nearest h111) ⟨Nat.le_refl _, Nat.le_refl _⟩ (ob_ext_m x_S101) ?_
  refine ob_callI (As := [.int x109, .int x112]) (rest := [.ref (S94.2.2.1), .ref v0]) d_Box_init_128 c_Box_init_68 rfl rfl (Nat.le_of_ble_eq_true rfl) (c_Downlink_init hk106.1 h115) (ob_ext_m (e_Downlink_init h115)) (ob_ext_m x_S113) ?_
  have hk116 := ob_kd_ext (e_Downlink_init h115) hk105
  have hk117 := ob_kd_ext (e_Downlink_init h115) hk106
  refine ob_xI hD119 (ob_putFR d_Box_init_131 F_0_7 w_435 ⟨rfl, rfl⟩ (fty := (.object "OrbitBox$Downlink")) (by decide) rfl rfl hk116.1 hk117.1) ?_
  refine ob_aload d_Box_init_134 rfl ?_
  refine ob_newO d_Box_init_135 N_8 w_281 hS122 hD123 x_S120 ?_
  have hk124 := ob_kd_new hS122 hk116
  have hk125 : ob_kd S120 S113.2.2.1 9 := ob_kd_this hS122 (by decide)
  refine ob_dup d_Box_init_138 rfl ?_
  refine ob_aload d_Box_init_139 rfl ?_
  refine ob_getR d_Box_init_140 F_0_7 l_Box_69 hk124.1 hg126 (fun hk127 => ?_)
  refine ob_withH fun H128 hH128 => ?_
  have hk129 := ob_kdH hH128 hk127
  refine ob_getR d_Box_init_143 F_9_0 l_Box_75 hk129.1 hg130 (fun hk131 => ?_)
  refine ob_withH fun H132 hH132 => ?_
  have hk133 := ob_kdH hH132 hk131
  refine ob_iload d_Box_init_146 rfl ?_
  refine ob_push d_Box_init_148 ?_
  refine ob_push d_Box_init_150 ?_
  refine ob_callSi (As := [.int v5, .int (64 : Int32), .int (16384 : Int32)]) (rest := [.ref (D121.2.1 (D121.2.1 v0 7) 0), .ref (S113.2.2.1), .ref (S113.2.2.1), .ref v0]) d_Box_init_153 c_Box_init_41 rfl rfl (Nat.le_of_ble_eq_true rfl) (c_Box_nearest h135) ⟨Nat.le_refl _, Nat.le_refl _⟩ (ob_ext_m x_S120) ?_
  refine ob_callI (As := [.ref (D121.2.1 (D121.2.1 v0 7) 0), .int x136]) (rest := [.ref (S113.2.2.1), .ref v0]) d_Box_init_156 c_Box_init_79 rfl rfl (Nat.le_of_ble_eq_true rfl) (c_Reports_init hk125.1 hk133.1 h139) (ob_ext_m (e_Reports_init h139)) (ob_ext_m x_S137) ?_
  have hk140 := ob_kd_ext (e_Reports_init h139) hk124
  have hk141 := ob_kd_ext (e_Reports_init h139) hk125
  refine ob_xI hD143 (ob_putFR d_Box_init_159 F_0_8 w_436 ⟨rfl, rfl⟩ (fty := (.object "OrbitBox$Reports")) (by decide) rfl rfl hk140.1 hk141.1) ?_
  refine ob_aload d_Box_init_162 rfl ?_
  refine ob_newO d_Box_init_163 N_10 w_335 hS146 hD147 x_S144 ?_
  have hk148 := ob_kd_new hS146 hk140
  have hk149 : ob_kd S144 S137.2.2.1 11 := ob_kd_this hS146 (by decide)
  refine ob_dup d_Box_init_166 rfl ?_
  refine ob_iload d_Box_init_167 rfl ?_
  refine ob_push d_Box_init_169 ?_
  refine ob_push d_Box_init_170 ?_
  refine ob_callSi (As := [.int v4, .int (1 : Int32), .int (100 : Int32)]) (rest := [.ref (S137.2.2.1), .ref (S137.2.2.1), .ref v0]) d_Box_init_172 c_Box_init_41 rfl rfl (Nat.le_of_ble_eq_true rfl) (c_Box_nearest h151) ⟨Nat.le_refl _, Nat.le_refl _⟩ (ob_ext_m x_S144) ?_
  refine ob_aload d_Box_init_175 rfl ?_
  refine ob_getR d_Box_init_176 F_0_2 l_Box_28 hk148.1 hg153 (fun hk154 => ?_)
  refine ob_withH fun H155 hH155 => ?_
  have hk156 := ob_kdH hH155 hk154
  refine ob_aload d_Box_init_179 rfl ?_
  refine ob_getR d_Box_init_180 F_0_3 l_Box_35 hk148.1 hg157 (fun hk158 => ?_)
  refine ob_withH fun H159 hH159 => ?_
  have hk160 := ob_kdH hH159 hk158
  refine ob_aload d_Box_init_183 rfl ?_
  refine ob_getR d_Box_init_184 F_0_4 l_Box_46 hk148.1 hg161 (fun hk162 => ?_)
  refine ob_withH fun H163 hH163 => ?_
  have hk164 := ob_kdH hH163 hk162
  refine ob_aload d_Box_init_187 rfl ?_
  refine ob_getR d_Box_init_188 F_0_5 l_Box_53 hk148.1 hg165 (fun hk166 => ?_)
  refine ob_withH fun H167 hH167 => ?_
  have hk168 := ob_kdH hH167 hk166
  refine ob_aload d_Box_init_191 rfl ?_
  refine ob_getR d_Box_init_192 F_0_8 l_Box_82 hk148.1 hg169 (fun hk170 => ?_)
  refine ob_withH fun H171 hH171 => ?_
  have hk172 := ob_kdH hH171 hk170
  refine ob_callI (As := [.int x152, .ref (D150.2.1 v0 2), .ref (D150.2.1 v0 3), .ref (D150.2.1 v0 4), .ref (D150.2.1 v0 5), .ref (D150.2.1 v0 8)]) (rest := [.ref (S137.2.2.1), .ref v0]) d_Box_init_195 c_Box_init_88 rfl rfl (Nat.le_of_ble_eq_true rfl) (c_Craft_init hk149.1 hk156.1 hk160.1 hk164.1 hk168.1 hk172.1 h175) (ob_ext_m (e_Craft_init h175)) (ob_ext_m x_S173) ?_
  have hk176 := ob_kd_ext (e_Craft_init h175) hk148
  have hk177 := ob_kd_ext (e_Craft_init h175) hk149
  refine ob_xI hD179 (ob_putFR d_Box_init_198 F_0_9 w_437 ⟨rfl, rfl⟩ (fty := (.object "OrbitBox$Craft")) (by decide) rfl rfl hk176.1 hk177.1) ?_
  refine ob_aload d_Box_init_201 rfl ?_
  refine ob_newO d_Box_init_202 N_11 w_392 hS182 hD183 x_S180 ?_
  have hk184 := ob_kd_new hS182 hk176
  have hk185 : ob_kd S180 S173.2.2.1 12 := ob_kd_this hS182 (by decide)
  refine ob_dup d_Box_init_205 rfl ?_
  refine ob_aload d_Box_init_206 rfl ?_
  refine ob_getR d_Box_init_207 F_0_9 l_Box_91 hk184.1 hg186 (fun hk187 => ?_)
  refine ob_withH fun H188 hH188 => ?_
  have hk189 := ob_kdH hH188 hk187
  refine ob_newO d_Box_init_210 N_7 w_223 hS192 hD193 x_S190 ?_
  have hk194 := ob_kd_new hS192 hk184
  have hk195 := ob_kd_new hS192 hk189
  have hk196 := ob_kd_new hS192 hk185
  have hk197 : ob_kd S190 S180.2.2.1 8 := ob_kd_this hS192 (by decide)
  refine ob_dup d_Box_init_213 rfl ?_
  refine ob_push d_Box_init_214 ?_
  refine ob_push d_Box_init_216 ?_
  refine ob_callI (As := [.int (8 : Int32), .int (12 : Int32)]) (rest := [.ref (S180.2.2.1), .ref (D181.2.1 v0 9), .ref (S173.2.2.1), .ref (S173.2.2.1), .ref v0]) d_Box_init_218 c_Box_init_59 rfl rfl (Nat.le_of_ble_eq_true rfl) (c_Table_init hk197.1 h200) (ob_ext_m (e_Table_init h200)) (ob_ext_m x_S198) ?_
  have hk201 := ob_kd_ext (e_Table_init h200) hk194
  have hk202 := ob_kd_ext (e_Table_init h200) hk197
  have hk203 := ob_kd_ext (e_Table_init h200) hk195
  have hk204 := ob_kd_ext (e_Table_init h200) hk196
  refine ob_aload d_Box_init_221 rfl ?_
  refine ob_getR d_Box_init_222 F_0_6 l_Box_62 hk201.1 hg205 (fun hk206 => ?_)
  refine ob_withH fun H207 hH207 => ?_
  have hk208 := ob_kdH hH207 hk206
  refine ob_aload d_Box_init_225 rfl ?_
  refine ob_getR d_Box_init_226 F_0_1 l_Box_18 hk201.1 hg209 (fun hk210 => ?_)
  refine ob_withH fun H211 hH211 => ?_
  have hk212 := ob_kdH hH211 hk210
  refine ob_callI (As := [.ref (D181.2.1 v0 9), .ref (S180.2.2.1), .ref (D199.2.1 v0 6), .ref (D199.2.1 v0 1)]) (rest := [.ref (S173.2.2.1), .ref v0]) d_Box_init_229 c_Box_init_97 rfl rfl (Nat.le_of_ble_eq_true rfl) (c_Handler_init hk204.1 hk203.1 hk202.1 hk208.1 hk212.1 h215) (ob_ext_m (e_Handler_init h215)) (ob_ext_m x_S213) ?_
  have hk216 := ob_kd_ext (e_Handler_init h215) hk201
  have hk217 := ob_kd_ext (e_Handler_init h215) hk204
  refine ob_xI hD219 (ob_putFR d_Box_init_232 F_0_10 w_438 ⟨rfl, rfl⟩ (fty := (.object "OrbitBox$Handler")) (by decide) rfl rfl hk216.1 hk217.1) ?_
  exact ob_vee he1 he2 (ob_vret d_Box_init_235 rfl)
-- OrbitBox.feed(IIIII)Z
theorem d_Box_feed_7 : ob_dk k_Box_feed 7 9 (20 : Int32) (.bipush 20) 2 := ⟨by decide +kernel, rfl, show (Int8.ofInt 20).toInt32 = (20 : Int32) by decide +kernel⟩
theorem d_Box_feed_10 : ob_dk k_Box_feed 10 13 (4096 : Int32) (.sipush 4096) 3 := ⟨by decide +kernel, rfl, show (Int16.ofInt 4096).toInt32 = (4096 : Int32) by decide +kernel⟩
theorem d_Box_feed_23 : ob_dk k_Box_feed 23 24 (4 : Int32) (.iconst 4) 1 := ⟨by decide +kernel, rfl, show Int32.ofInt 4 = (4 : Int32) by decide +kernel⟩
theorem d_Box_feed_32 : ob_dk k_Box_feed 32 33 (4 : Int32) (.iconst 4) 1 := ⟨by decide +kernel, rfl, show Int32.ofInt 4 = (4 : Int32) by decide +kernel⟩
theorem d_Box_feed_41 : ob_dk k_Box_feed 41 42 (4 : Int32) (.iconst 4) 1 := ⟨by decide +kernel, rfl, show Int32.ofInt 4 = (4 : Int32) by decide +kernel⟩
theorem d_Box_feed_51 : ob_dk k_Box_feed 51 52 (4 : Int32) (.iconst 4) 1 := ⟨by decide +kernel, rfl, show Int32.ofInt 4 = (4 : Int32) by decide +kernel⟩
theorem d_Box_feed_61 : ob_dk k_Box_feed 61 62 (4 : Int32) (.iconst 4) 1 := ⟨by decide +kernel, rfl, show Int32.ofInt 4 = (4 : Int32) by decide +kernel⟩
theorem d_Box_feed_65 : ob_dk k_Box_feed 65 66 (1 : Int32) (.iconst 1) 1 := ⟨by decide +kernel, rfl, show Int32.ofInt 1 = (1 : Int32) by decide +kernel⟩
theorem d_Box_feed_66 : ob_dc k_Box_feed 66 (.ireturn) 1 67 := ⟨by decide +kernel, rfl⟩
theorem d_Box_feed_62 : ob_dc k_Box_feed 62 (.invokevirtual 104) 3 65 := ⟨by decide +kernel, rfl⟩
theorem d_Box_feed_59 : ob_dv ob_lc k_Box_feed 59 61 5 (.iload 5) 2 := ⟨by decide +kernel, rfl, rfl⟩
theorem d_Box_feed_56 : ob_dc k_Box_feed 56 (.getfield 14) 3 59 := ⟨by decide +kernel, rfl⟩
theorem d_Box_feed_55 : ob_dv ob_ac k_Box_feed 55 56 0 (.aload_n 0) 1 := ⟨by decide +kernel, rfl, rfl⟩
theorem d_Box_feed_52 : ob_dc k_Box_feed 52 (.invokevirtual 104) 3 55 := ⟨by decide +kernel, rfl⟩
theorem d_Box_feed_49 : ob_dv ob_lc k_Box_feed 49 51 4 (.iload 4) 2 := ⟨by decide +kernel, rfl, rfl⟩
theorem d_Box_feed_46 : ob_dc k_Box_feed 46 (.getfield 14) 3 49 := ⟨by decide +kernel, rfl⟩
theorem d_Box_feed_45 : ob_dv ob_ac k_Box_feed 45 46 0 (.aload_n 0) 1 := ⟨by decide +kernel, rfl, rfl⟩
theorem d_Box_feed_42 : ob_dc k_Box_feed 42 (.invokevirtual 104) 3 45 := ⟨by decide +kernel, rfl⟩
theorem d_Box_feed_40 : ob_dv ob_lc k_Box_feed 40 41 3 (.iload_n 3) 1 := ⟨by decide +kernel, rfl, rfl⟩
theorem d_Box_feed_37 : ob_dc k_Box_feed 37 (.getfield 14) 3 40 := ⟨by decide +kernel, rfl⟩
theorem d_Box_feed_36 : ob_dv ob_ac k_Box_feed 36 37 0 (.aload_n 0) 1 := ⟨by decide +kernel, rfl, rfl⟩
theorem d_Box_feed_33 : ob_dc k_Box_feed 33 (.invokevirtual 104) 3 36 := ⟨by decide +kernel, rfl⟩
theorem d_Box_feed_31 : ob_dv ob_lc k_Box_feed 31 32 2 (.iload_n 2) 1 := ⟨by decide +kernel, rfl, rfl⟩
theorem d_Box_feed_28 : ob_dc k_Box_feed 28 (.getfield 14) 3 31 := ⟨by decide +kernel, rfl⟩
theorem d_Box_feed_27 : ob_dv ob_ac k_Box_feed 27 28 0 (.aload_n 0) 1 := ⟨by decide +kernel, rfl, rfl⟩
theorem d_Box_feed_24 : ob_dc k_Box_feed 24 (.invokevirtual 104) 3 27 := ⟨by decide +kernel, rfl⟩
theorem d_Box_feed_22 : ob_dv ob_lc k_Box_feed 22 23 1 (.iload_n 1) 1 := ⟨by decide +kernel, rfl, rfl⟩
theorem d_Box_feed_19 : ob_dc k_Box_feed 19 (.getfield 14) 3 22 := ⟨by decide +kernel, rfl⟩
theorem d_Box_feed_18 : ob_dv ob_ac k_Box_feed 18 19 0 (.aload_n 0) 1 := ⟨by decide +kernel, rfl, rfl⟩
theorem d_Box_feed_16 : ob_dk k_Box_feed 16 17 (0 : Int32) (.iconst 0) 1 := ⟨by decide +kernel, rfl, show Int32.ofInt 0 = (0 : Int32) by decide +kernel⟩
theorem d_Box_feed_17 : ob_dc k_Box_feed 17 (.ireturn) 1 18 := ⟨by decide +kernel, rfl⟩
theorem d_Box_feed_13 : ob_db k_Box_feed 13 (.if_icmp .le 5) 5 16 18 := ⟨by decide +kernel, rfl, by decide⟩
theorem d_Box_feed_9 : ob_dc k_Box_feed 9 (.iadd) 1 10 := ⟨by decide +kernel, rfl⟩
theorem d_Box_feed_4 : ob_dc k_Box_feed 4 (.getfield 21) 3 7 := ⟨by decide +kernel, rfl⟩
theorem d_Box_feed_1 : ob_dc k_Box_feed 1 (.getfield 14) 3 4 := ⟨by decide +kernel, rfl⟩
theorem d_Box_feed_0 : ob_dv ob_ac k_Box_feed 0 1 0 (.aload_n 0) 1 := ⟨by decide +kernel, rfl, rfl⟩
theorem c_Box_feed_104 : ob_vd k_Box_feed k_Row_add 104 2 1 := ⟨cw_Row_add, yd_Row_add, w_466, w_467, w_468, w_2, ⟨_, _, rfl⟩, by decide, by decide⟩
def f_Box_feed (S : ob_S) (v0 : Nat) (v1 : Int32) (v2 : Int32) (v3 : Int32) (v4 : Int32) (v5 : Int32) (D : ob_D) : Option (Int32 × ob_D) :=
  if D.2.1 v0 0 ≠ 0 then (if ((D.1 (D.2.1 v0 0) 1) + (20 : Int32)) ≤ (4096 : Int32) then if D.2.1 v0 0 ≠ 0 then ob_bv (f_Row_add S (D.2.1 v0 0) v1 (4 : Int32) D) fun D5 => if D5.2.1 v0 0 ≠ 0 then ob_bv (f_Row_add S (D5.2.1 v0 0) v2 (4 : Int32) D5) fun D9 => if D9.2.1 v0 0 ≠ 0 then ob_bv (f_Row_add S (D9.2.1 v0 0) v3 (4 : Int32) D9) fun D13 => if D13.2.1 v0 0 ≠ 0 then ob_bv (f_Row_add S (D13.2.1 v0 0) v4 (4 : Int32) D13) fun D17 => if D17.2.1 v0 0 ≠ 0 then ob_bv (f_Row_add S (D17.2.1 v0 0) v5 (4 : Int32) D17) fun D21 => some ((1 : Int32), D21) else none else none else none else none else none else some ((0 : Int32), D)) else none
theorem c_Box_feed {l : Launch} {E : ob_E} {S : ob_S} {D : ob_D} {v0 : Nat} {v1 : Int32} {v2 : Int32} {v3 : Int32} {v4 : Int32} {v5 : Int32} {r : Int32} {D' : ob_D} (hp_v0 : S.1 v0 = 1) (h : f_Box_feed S v0 v1 v2 v3 v4 v5 D = some (r, D')) : ob_M l E k_Box_feed [.ref v0, .int v1, .int v2, .int v3, .int v4, .int v5] S D (some (.int r)) S D' := by
  refine ob_ofV (lo := [(0, .ref v0), (1, .int v1), (2, .int v2), (3, .int v3), (4, .int v4), (5, .int v5)]) (by decide) rfl (Nat.le_of_ble_eq_true rfl) rfl (Nat.le_refl _) (Nat.le_refl _) ?_
  rw [f_Box_feed] at h
  refine ob_aload d_Box_feed_0 rfl ?_
  obtain ⟨hg2, h⟩ := ob_gd h
  refine ob_getR d_Box_feed_1 F_0_0 l_Box_14 hp_v0 hg2 (fun hk1 => ?_)
  refine ob_getI d_Box_feed_4 F_1_1 l_Box_21 hk1 ?_
  refine ob_push d_Box_feed_7 ?_
  refine ob_iadd d_Box_feed_9 ?_
  refine ob_push d_Box_feed_10 ?_
  refine ob_icmp_le d_Box_feed_13 (fun hc => ?_) (fun hc => ?_)
  · replace h := ob_ift hc h
    refine ob_aload d_Box_feed_18 rfl ?_
    obtain ⟨hg4, h⟩ := ob_gd h
    refine ob_getR d_Box_feed_19 F_0_0 l_Box_14 hp_v0 hg4 (fun hk3 => ?_)
    refine ob_iload d_Box_feed_22 rfl ?_
    refine ob_push d_Box_feed_23 ?_
    obtain ⟨D5, h6, h⟩ := ob_bv_e h
    refine ob_callVv (As := [.int v1, .int (4 : Int32)]) (rest := []) d_Box_feed_24 c_Box_feed_104 hk3 rfl rfl (Nat.le_of_ble_eq_true rfl) (c_Row_add hk3 h6) ⟨Nat.le_refl _, Nat.le_refl _⟩ ⟨Nat.le_refl _, Nat.le_refl _⟩ ?_
    refine ob_aload d_Box_feed_27 rfl ?_
    obtain ⟨hg8, h⟩ := ob_gd h
    refine ob_getR d_Box_feed_28 F_0_0 l_Box_14 hp_v0 hg8 (fun hk7 => ?_)
    refine ob_iload d_Box_feed_31 rfl ?_
    refine ob_push d_Box_feed_32 ?_
    obtain ⟨D9, h10, h⟩ := ob_bv_e h
    refine ob_callVv (As := [.int v2, .int (4 : Int32)]) (rest := []) d_Box_feed_33 c_Box_feed_104 hk7 rfl rfl (Nat.le_of_ble_eq_true rfl) (c_Row_add hk7 h10) ⟨Nat.le_refl _, Nat.le_refl _⟩ ⟨Nat.le_refl _, Nat.le_refl _⟩ ?_
    refine ob_aload d_Box_feed_36 rfl ?_
    obtain ⟨hg12, h⟩ := ob_gd h
    refine ob_getR d_Box_feed_37 F_0_0 l_Box_14 hp_v0 hg12 (fun hk11 => ?_)
    refine ob_iload d_Box_feed_40 rfl ?_
    refine ob_push d_Box_feed_41 ?_
    obtain ⟨D13, h14, h⟩ := ob_bv_e h
    refine ob_callVv (As := [.int v3, .int (4 : Int32)]) (rest := []) d_Box_feed_42 c_Box_feed_104 hk11 rfl rfl (Nat.le_of_ble_eq_true rfl) (c_Row_add hk11 h14) ⟨Nat.le_refl _, Nat.le_refl _⟩ ⟨Nat.le_refl _, Nat.le_refl _⟩ ?_
    refine ob_aload d_Box_feed_45 rfl ?_
    obtain ⟨hg16, h⟩ := ob_gd h
    refine ob_getR d_Box_feed_46 F_0_0 l_Box_14 hp_v0 hg16 (fun hk15 => ?_)
    refine ob_iload d_Box_feed_49 rfl ?_
    refine ob_push d_Box_feed_51 ?_
    obtain ⟨D17, h18, h⟩ := ob_bv_e h
    refine ob_callVv (As := [.int v4, .int (4 : Int32)]) (rest := []) d_Box_feed_52 c_Box_feed_104 hk15 rfl rfl (Nat.le_of_ble_eq_true rfl) (c_Row_add hk15 h18) ⟨Nat.le_refl _, Nat.le_refl _⟩ ⟨Nat.le_refl _, Nat.le_refl _⟩ ?_
    refine ob_aload d_Box_feed_55 rfl ?_
    obtain ⟨hg20, h⟩ := ob_gd h
    refine ob_getR d_Box_feed_56 F_0_0 l_Box_14 hp_v0 hg20 (fun hk19 => ?_)
    refine ob_iload d_Box_feed_59 rfl ?_
    refine ob_push d_Box_feed_61 ?_
    obtain ⟨D21, h22, h⟩ := ob_bv_e h
    refine ob_callVv (As := [.int v5, .int (4 : Int32)]) (rest := []) d_Box_feed_62 c_Box_feed_104 hk19 rfl rfl (Nat.le_of_ble_eq_true rfl) (c_Row_add hk19 h22) ⟨Nat.le_refl _, Nat.le_refl _⟩ ⟨Nat.le_refl _, Nat.le_refl _⟩ ?_
    refine ob_push d_Box_feed_65 ?_
    exact ob_ie h (ob_iret d_Box_feed_66 rfl rfl)
  · replace h := ob_iff hc h
    refine ob_push d_Box_feed_16 ?_
    exact ob_ie h (ob_iret d_Box_feed_17 rfl rfl)
-- OrbitBox.end(I)Z
theorem d_Box_end_15 : ob_dk k_Box_end 15 16 (0 : Int32) (.iconst 0) 1 := ⟨by decide +kernel, rfl, show Int32.ofInt 0 = (0 : Int32) by decide +kernel⟩
theorem d_Box_end_16 : ob_dc k_Box_end 16 (.ireturn) 1 17 := ⟨by decide +kernel, rfl⟩
theorem d_Box_end_25 : ob_dk k_Box_end 25 26 (1 : Int32) (.iconst 1) 1 := ⟨by decide +kernel, rfl, show Int32.ofInt 1 = (1 : Int32) by decide +kernel⟩
theorem d_Box_end_26 : ob_dc k_Box_end 26 (.ireturn) 1 27 := ⟨by decide +kernel, rfl⟩
theorem d_Box_end_22 : ob_dc k_Box_end 22 (.putfield 21) 3 25 := ⟨by decide +kernel, rfl⟩
theorem d_Box_end_21 : ob_dv ob_lc k_Box_end 21 22 1 (.iload_n 1) 1 := ⟨by decide +kernel, rfl, rfl⟩
theorem d_Box_end_18 : ob_dc k_Box_end 18 (.getfield 14) 3 21 := ⟨by decide +kernel, rfl⟩
theorem d_Box_end_17 : ob_dv ob_ac k_Box_end 17 18 0 (.aload_n 0) 1 := ⟨by decide +kernel, rfl, rfl⟩
theorem d_Box_end_12 : ob_db k_Box_end 12 (.if_icmp .le 5) 5 15 17 := ⟨by decide +kernel, rfl, by decide⟩
theorem d_Box_end_9 : ob_dc k_Box_end 9 (.getfield 21) 3 12 := ⟨by decide +kernel, rfl⟩
theorem d_Box_end_6 : ob_dc k_Box_end 6 (.getfield 14) 3 9 := ⟨by decide +kernel, rfl⟩
theorem d_Box_end_5 : ob_dv ob_ac k_Box_end 5 6 0 (.aload_n 0) 1 := ⟨by decide +kernel, rfl, rfl⟩
theorem d_Box_end_4 : ob_dv ob_lc k_Box_end 4 5 1 (.iload_n 1) 1 := ⟨by decide +kernel, rfl, rfl⟩
theorem d_Box_end_1 : ob_db k_Box_end 1 (.ifCond .lt 14) 14 4 15 := ⟨by decide +kernel, rfl, by decide⟩
theorem d_Box_end_0 : ob_dv ob_lc k_Box_end 0 1 1 (.iload_n 1) 1 := ⟨by decide +kernel, rfl, rfl⟩
def f_Box_end (S : ob_S) (v0 : Nat) (v1 : Int32) (D : ob_D) : Option (Int32 × ob_D) :=
  (if v1 < 0 then some ((0 : Int32), D) else if D.2.1 v0 0 ≠ 0 then (if v1 ≤ (D.1 (D.2.1 v0 0) 1) then if D.2.1 v0 0 ≠ 0 then ob_lt (ob_pI D (D.2.1 v0 0) 1 v1) fun D5 => some ((1 : Int32), D5) else none else some ((0 : Int32), D)) else none)
theorem c_Box_end {l : Launch} {E : ob_E} {S : ob_S} {D : ob_D} {v0 : Nat} {v1 : Int32} {r : Int32} {D' : ob_D} (hp_v0 : S.1 v0 = 1) (h : f_Box_end S v0 v1 D = some (r, D')) : ob_M l E k_Box_end [.ref v0, .int v1] S D (some (.int r)) S D' := by
  refine ob_ofV (lo := [(0, .ref v0), (1, .int v1)]) (by decide) rfl (Nat.le_of_ble_eq_true rfl) rfl (Nat.le_refl _) (Nat.le_refl _) ?_
  rw [f_Box_end] at h
  refine ob_iload d_Box_end_0 rfl ?_
  refine ob_if_lt d_Box_end_1 (fun hc => ?_) (fun hc => ?_)
  · replace h := ob_ift hc h
    refine ob_push d_Box_end_15 ?_
    exact ob_ie h (ob_iret d_Box_end_16 rfl rfl)
  · replace h := ob_iff hc h
    refine ob_iload d_Box_end_4 rfl ?_
    refine ob_aload d_Box_end_5 rfl ?_
    obtain ⟨hg2, h⟩ := ob_gd h
    refine ob_getR d_Box_end_6 F_0_0 l_Box_14 hp_v0 hg2 (fun hk1 => ?_)
    refine ob_getI d_Box_end_9 F_1_1 l_Box_21 hk1 ?_
    refine ob_icmp_le d_Box_end_12 (fun hc => ?_) (fun hc => ?_)
    · replace h := ob_ift hc h
      refine ob_aload d_Box_end_17 rfl ?_
      obtain ⟨hg4, h⟩ := ob_gd h
      refine ob_getR d_Box_end_18 F_0_0 l_Box_14 hp_v0 hg4 (fun hk3 => ?_)
      refine ob_iload d_Box_end_21 rfl ?_
      replace h := ob_lt_e h
      refine ob_putI d_Box_end_22 F_1_1 l_Box_21 hk3 ?_
      refine ob_push d_Box_end_25 ?_
      exact ob_ie h (ob_iret d_Box_end_26 rfl rfl)
    · replace h := ob_iff hc h
      refine ob_push d_Box_end_15 ?_
      exact ob_ie h (ob_iret d_Box_end_16 rfl rfl)
-- OrbitBox.uplink()I
theorem d_Box_uplink_0 : ob_dk k_Box_uplink 0 1 (0 : Int32) (.iconst 0) 1 := ⟨by decide +kernel, rfl, show Int32.ofInt 0 = (0 : Int32) by decide +kernel⟩
theorem d_Box_uplink_2 : ob_dk k_Box_uplink 2 3 (0 : Int32) (.iconst 0) 1 := ⟨by decide +kernel, rfl, show Int32.ofInt 0 = (0 : Int32) by decide +kernel⟩
theorem d_Box_uplink_86 : ob_dk k_Box_uplink 86 87 (0 : Int32) (.iconst 0) 1 := ⟨by decide +kernel, rfl, show Int32.ofInt 0 = (0 : Int32) by decide +kernel⟩
theorem d_Box_uplink_91 : ob_dc k_Box_uplink 91 (.ireturn) 1 92 := ⟨by decide +kernel, rfl⟩
theorem d_Box_uplink_90 : ob_dv ob_lc k_Box_uplink 90 91 1 (.iload_n 1) 1 := ⟨by decide +kernel, rfl, rfl⟩
theorem d_Box_uplink_87 : ob_dc k_Box_uplink 87 (.putfield 21) 3 90 := ⟨by decide +kernel, rfl⟩
theorem d_Box_uplink_83 : ob_dc k_Box_uplink 83 (.getfield 14) 3 86 := ⟨by decide +kernel, rfl⟩
theorem d_Box_uplink_82 : ob_dv ob_ac k_Box_uplink 82 83 0 (.aload_n 0) 1 := ⟨by decide +kernel, rfl, rfl⟩
theorem d_Box_uplink_20 : ob_dk k_Box_uplink 20 21 (1 : Int32) (.iconst 1) 1 := ⟨by decide +kernel, rfl, show Int32.ofInt 1 = (1 : Int32) by decide +kernel⟩
theorem d_Box_uplink_25 : ob_dk k_Box_uplink 25 27 (7 : Int32) (.bipush 7) 2 := ⟨by decide +kernel, rfl, show (Int8.ofInt 7).toInt32 = (7 : Int32) by decide +kernel⟩
theorem d_Box_uplink_76 : ob_di k_Box_uplink 76 79 2 1 (1 : Int32) := ⟨by decide +kernel, rfl, by decide +kernel, by decide +kernel⟩
theorem d_Box_uplink_79 : ob_db k_Box_uplink 79 (.goto (-75)) (-75) 82 4 := ⟨by decide +kernel, rfl, by decide⟩
theorem d_Box_uplink_42 : ob_dk k_Box_uplink 42 43 (1 : Int32) (.iconst 1) 1 := ⟨by decide +kernel, rfl, show Int32.ofInt 1 = (1 : Int32) by decide +kernel⟩
theorem d_Box_uplink_70 : ob_di k_Box_uplink 70 73 4 (-1) (-1 : Int32) := ⟨by decide +kernel, rfl, by decide +kernel, by decide +kernel⟩
theorem d_Box_uplink_73 : ob_db k_Box_uplink 73 (.goto (-44)) (-44) 76 29 := ⟨by decide +kernel, rfl, by decide⟩
theorem d_Box_uplink_67 : ob_di k_Box_uplink 67 70 1 1 (1 : Int32) := ⟨by decide +kernel, rfl, by decide +kernel, by decide +kernel⟩
theorem d_Box_uplink_64 : ob_db k_Box_uplink 64 (.ifCond .eq 6) 6 67 70 := ⟨by decide +kernel, rfl, by decide⟩
theorem d_Box_uplink_61 : ob_dc k_Box_uplink 61 (.invokevirtual 118) 3 64 := ⟨by decide +kernel, rfl⟩
theorem d_Box_uplink_58 : ob_dc k_Box_uplink 58 (.getfield 115) 3 61 := ⟨by decide +kernel, rfl⟩
theorem d_Box_uplink_55 : ob_dc k_Box_uplink 55 (.getfield 28) 3 58 := ⟨by decide +kernel, rfl⟩
theorem d_Box_uplink_54 : ob_dv ob_ac k_Box_uplink 54 55 0 (.aload_n 0) 1 := ⟨by decide +kernel, rfl, rfl⟩
theorem d_Box_uplink_51 : ob_dc k_Box_uplink 51 (.getfield 35) 3 54 := ⟨by decide +kernel, rfl⟩
theorem d_Box_uplink_50 : ob_dv ob_ac k_Box_uplink 50 51 0 (.aload_n 0) 1 := ⟨by decide +kernel, rfl, rfl⟩
theorem d_Box_uplink_47 : ob_db k_Box_uplink 47 (.ifCond .eq 23) 23 50 70 := ⟨by decide +kernel, rfl, by decide⟩
theorem d_Box_uplink_44 : ob_dc k_Box_uplink 44 (.invokevirtual 111) 3 47 := ⟨by decide +kernel, rfl⟩
theorem d_Box_uplink_43 : ob_dc k_Box_uplink 43 (.iand) 1 44 := ⟨by decide +kernel, rfl⟩
theorem d_Box_uplink_41 : ob_dc k_Box_uplink 41 (.iushr) 1 42 := ⟨by decide +kernel, rfl⟩
theorem d_Box_uplink_39 : ob_dv ob_lc k_Box_uplink 39 41 4 (.iload 4) 2 := ⟨by decide +kernel, rfl, rfl⟩
theorem d_Box_uplink_38 : ob_dv ob_lc k_Box_uplink 38 39 3 (.iload_n 3) 1 := ⟨by decide +kernel, rfl, rfl⟩
theorem d_Box_uplink_35 : ob_dc k_Box_uplink 35 (.getfield 28) 3 38 := ⟨by decide +kernel, rfl⟩
theorem d_Box_uplink_34 : ob_dv ob_ac k_Box_uplink 34 35 0 (.aload_n 0) 1 := ⟨by decide +kernel, rfl, rfl⟩
theorem d_Box_uplink_31 : ob_db k_Box_uplink 31 (.ifCond .lt 45) 45 34 76 := ⟨by decide +kernel, rfl, by decide⟩
theorem d_Box_uplink_29 : ob_dv ob_lc k_Box_uplink 29 31 4 (.iload 4) 2 := ⟨by decide +kernel, rfl, rfl⟩
theorem d_Box_uplink_27 : ob_dv (ob_sc k_Box_uplink.2.2.2.1) k_Box_uplink 27 29 4 (.istore 4) 2 := ⟨by decide +kernel, rfl, ⟨rfl, by decide +kernel⟩⟩
theorem d_Box_uplink_24 : ob_dv (ob_sc k_Box_uplink.2.2.2.1) k_Box_uplink 24 25 3 (.istore_n 3) 1 := ⟨by decide +kernel, rfl, ⟨rfl, by decide +kernel⟩⟩
theorem d_Box_uplink_21 : ob_dc k_Box_uplink 21 (.invokevirtual 107) 3 24 := ⟨by decide +kernel, rfl⟩
theorem d_Box_uplink_19 : ob_dv ob_lc k_Box_uplink 19 20 2 (.iload_n 2) 1 := ⟨by decide +kernel, rfl, rfl⟩
theorem d_Box_uplink_16 : ob_dc k_Box_uplink 16 (.getfield 14) 3 19 := ⟨by decide +kernel, rfl⟩
theorem d_Box_uplink_15 : ob_dv ob_ac k_Box_uplink 15 16 0 (.aload_n 0) 1 := ⟨by decide +kernel, rfl, rfl⟩
theorem d_Box_uplink_12 : ob_db k_Box_uplink 12 (.if_icmp .ge 70) 70 15 82 := ⟨by decide +kernel, rfl, by decide⟩
theorem d_Box_uplink_9 : ob_dc k_Box_uplink 9 (.getfield 21) 3 12 := ⟨by decide +kernel, rfl⟩
theorem d_Box_uplink_6 : ob_dc k_Box_uplink 6 (.getfield 14) 3 9 := ⟨by decide +kernel, rfl⟩
theorem d_Box_uplink_5 : ob_dv ob_ac k_Box_uplink 5 6 0 (.aload_n 0) 1 := ⟨by decide +kernel, rfl, rfl⟩
theorem d_Box_uplink_4 : ob_dv ob_lc k_Box_uplink 4 5 2 (.iload_n 2) 1 := ⟨by decide +kernel, rfl, rfl⟩
theorem d_Box_uplink_3 : ob_dv (ob_sc k_Box_uplink.2.2.2.1) k_Box_uplink 3 4 2 (.istore_n 2) 1 := ⟨by decide +kernel, rfl, ⟨rfl, by decide +kernel⟩⟩
theorem d_Box_uplink_1 : ob_dv (ob_sc k_Box_uplink.2.2.2.1) k_Box_uplink 1 2 1 (.istore_n 1) 1 := ⟨by decide +kernel, rfl, ⟨rfl, by decide +kernel⟩⟩
theorem c_Box_uplink_118 : ob_vd k_Box_uplink k_Gate_receive 118 1 4 := ⟨cw_Gate_receive, yd_Gate_receive, w_516, w_517, w_518, w_4, ⟨_, _, rfl⟩, by decide, by decide⟩
theorem c_Box_uplink_111 : ob_vd k_Box_uplink k_Receiver_hear 111 1 3 := ⟨cw_Receiver_hear, yd_Receiver_hear, w_482, w_483, w_484, w_3, ⟨_, _, rfl⟩, by decide, by decide⟩
theorem c_Box_uplink_107 : ob_vd k_Box_uplink k_Row_number 107 2 1 := ⟨cw_Row_number, yd_Row_number, w_478, w_479, w_480, w_2, ⟨_, _, rfl⟩, by decide, by decide⟩
def f_Box_uplink_L29 (S : ob_S) (k4 : Nat → Int32 → Int32 → ob_D → Option (Int32 × ob_D)) : Nat → Nat → Int32 → Int32 → Int32 → Int32 → ob_D → Option (Int32 × ob_D)
  | 0, _, _, _, _, _, _ => none
  | n + 1, v0, v1, v2, v3, v4, D => (if v4 < 0 then k4 v0 v1 (v2 + (1 : Int32)) D else if D.2.1 v0 2 ≠ 0 then ob_bd (f_Receiver_hear S (D.2.1 v0 2) (((v3.toUInt32 >>> (v4.toUInt32 &&& Int32.toUInt32 31)).toInt32) &&& (1 : Int32)) D) fun x15 D13 => (if x15 = 0 then f_Box_uplink_L29 S k4 n v0 v1 v2 v3 (v4 + (-1 : Int32)) D13 else if D13.2.1 v0 3 ≠ 0 then if D13.2.1 v0 2 ≠ 0 then if D13.2.1 (D13.2.1 v0 2) 0 ≠ 0 then ob_bd (f_Gate_receive S (D13.2.1 v0 3) (D13.2.1 (D13.2.1 v0 2) 0) D13) fun x24 D22 => (if x24 = 0 then f_Box_uplink_L29 S k4 n v0 v1 v2 v3 (v4 + (-1 : Int32)) D22 else f_Box_uplink_L29 S k4 n v0 (v1 + (1 : Int32)) v2 v3 (v4 + (-1 : Int32)) D22) else none else none else none) else none)
theorem v_Box_uplink_L29 {l : Launch} {E : ob_E} {S : ob_S} {r : Int32} {D' : ob_D} {k4 : Nat → Int32 → Int32 → ob_D → Option (Int32 × ob_D)} (hk4 : ∀ (v0 : Nat) (v1 : Int32) (v2 : Int32) (D : ob_D), S.1 v0 = 1 → k4 v0 v1 v2 D = some (r, D') → ob_V l E k_Box_uplink 4 [(0, .ref v0), (1, .int v1), (2, .int v2)] [] S D (some (.int r)) S D') : ∀ (n : Nat), ∀ (v0 : Nat) (v1 : Int32) (v2 : Int32) (v3 : Int32) (v4 : Int32) (D : ob_D), S.1 v0 = 1 → f_Box_uplink_L29 S k4 n v0 v1 v2 v3 v4 D = some (r, D') → ob_V l E k_Box_uplink 29 [(0, .ref v0), (1, .int v1), (2, .int v2), (3, .int v3), (4, .int v4)] [] S D (some (.int r)) S D' := by
  intro n
  induction n with
  | zero =>
    intro v0 v1 v2 v3 v4 D hp_v0 h
    have h : none = some (r, D') := h
    cases h
  | succ n ih =>
    intro v0 v1 v2 v3 v4 D hp_v0 h
    rw [f_Box_uplink_L29] at h
    refine ob_iload d_Box_uplink_29 rfl ?_
    refine ob_if_lt d_Box_uplink_31 (fun hc => ?_) (fun hc => ?_)
    · replace h := ob_ift hc h
      refine ob_iinc (lo2 := [(0, .ref v0), (1, .int v1), (2, .int (v2 + (1 : Int32))), (3, .int v3), (4, .int v4)]) d_Box_uplink_76 rfl rfl ?_
      refine ob_goto d_Box_uplink_79 ?_
      refine ob_sub (lo2 := [(0, .ref v0), (1, .int v1), (2, .int (v2 + (1 : Int32)))]) [0, 1, 2] rfl ?_
      exact hk4 v0 v1 (v2 + (1 : Int32)) D hp_v0 h
    · replace h := ob_iff hc h
      refine ob_aload d_Box_uplink_34 rfl ?_
      obtain ⟨hg12, h⟩ := ob_gd h
      refine ob_getR d_Box_uplink_35 F_0_2 l_Box_28 hp_v0 hg12 (fun hk11 => ?_)
      refine ob_iload d_Box_uplink_38 rfl ?_
      refine ob_iload d_Box_uplink_39 rfl ?_
      refine ob_iushr d_Box_uplink_41 ?_
      refine ob_push d_Box_uplink_42 ?_
      refine ob_iand d_Box_uplink_43 ?_
      obtain ⟨x15, D13, h14, h⟩ := ob_bd_e h
      refine ob_callVi (As := [.int (((v3.toUInt32 >>> (v4.toUInt32 &&& Int32.toUInt32 31)).toInt32) &&& (1 : Int32))]) (rest := []) d_Box_uplink_44 c_Box_uplink_111 hk11 rfl rfl (Nat.le_of_ble_eq_true rfl) (c_Receiver_hear hk11 h14) ⟨Nat.le_refl _, Nat.le_refl _⟩ ⟨Nat.le_refl _, Nat.le_refl _⟩ ?_
      refine ob_if_eq d_Box_uplink_47 (fun hc => ?_) (fun hc => ?_)
      · replace h := ob_ift hc h
        refine ob_iinc (lo2 := [(0, .ref v0), (1, .int v1), (2, .int v2), (3, .int v3), (4, .int (v4 + (-1 : Int32)))]) d_Box_uplink_70 rfl rfl ?_
        refine ob_goto d_Box_uplink_73 ?_
        exact ih v0 v1 v2 v3 (v4 + (-1 : Int32)) D13 hp_v0 h
      · replace h := ob_iff hc h
        refine ob_aload d_Box_uplink_50 rfl ?_
        obtain ⟨hg17, h⟩ := ob_gd h
        refine ob_getR d_Box_uplink_51 F_0_3 l_Box_35 hp_v0 hg17 (fun hk16 => ?_)
        refine ob_aload d_Box_uplink_54 rfl ?_
        obtain ⟨hg19, h⟩ := ob_gd h
        refine ob_getR d_Box_uplink_55 F_0_2 l_Box_28 hp_v0 hg19 (fun hk18 => ?_)
        obtain ⟨hg21, h⟩ := ob_gd h
        refine ob_getR d_Box_uplink_58 F_3_0 l_Box_115 hk18 hg21 (fun hk20 => ?_)
        obtain ⟨x24, D22, h23, h⟩ := ob_bd_e h
        refine ob_callVi (As := [.ref (D13.2.1 (D13.2.1 v0 2) 0)]) (rest := []) d_Box_uplink_61 c_Box_uplink_118 hk16 rfl rfl (Nat.le_of_ble_eq_true rfl) (c_Gate_receive hk16 hk20 h23) ⟨Nat.le_refl _, Nat.le_refl _⟩ ⟨Nat.le_refl _, Nat.le_refl _⟩ ?_
        refine ob_if_eq d_Box_uplink_64 (fun hc => ?_) (fun hc => ?_)
        · replace h := ob_ift hc h
          refine ob_iinc (lo2 := [(0, .ref v0), (1, .int v1), (2, .int v2), (3, .int v3), (4, .int (v4 + (-1 : Int32)))]) d_Box_uplink_70 rfl rfl ?_
          refine ob_goto d_Box_uplink_73 ?_
          exact ih v0 v1 v2 v3 (v4 + (-1 : Int32)) D22 hp_v0 h
        · replace h := ob_iff hc h
          refine ob_iinc (lo2 := [(0, .ref v0), (1, .int (v1 + (1 : Int32))), (2, .int v2), (3, .int v3), (4, .int v4)]) d_Box_uplink_67 rfl rfl ?_
          refine ob_iinc (lo2 := [(0, .ref v0), (1, .int (v1 + (1 : Int32))), (2, .int v2), (3, .int v3), (4, .int (v4 + (-1 : Int32)))]) d_Box_uplink_70 rfl rfl ?_
          refine ob_goto d_Box_uplink_73 ?_
          exact ih v0 (v1 + (1 : Int32)) v2 v3 (v4 + (-1 : Int32)) D22 hp_v0 h
def f_Box_uplink_L4 (S : ob_S) : Nat → Nat → Int32 → Int32 → ob_D → Option (Int32 × ob_D)
  | 0, _, _, _, _ => none
  | n + 1, v0, v1, v2, D => if D.2.1 v0 0 ≠ 0 then (if (D.1 (D.2.1 v0 0) 1) ≤ v2 then if D.2.1 v0 0 ≠ 0 then ob_lt (ob_pI D (D.2.1 v0 0) 1 (0 : Int32)) fun D5 => some (v1, D5) else none else if D.2.1 v0 0 ≠ 0 then ob_bd (f_Row_number S (D.2.1 v0 0) v2 (1 : Int32) D) fun x10 D8 => f_Box_uplink_L29 S (fun a0 a1 a2 d => f_Box_uplink_L4 S n a0 a1 a2 d) ob_FU v0 v1 v2 x10 (7 : Int32) D8 else none) else none
theorem v_Box_uplink_L4 {l : Launch} {E : ob_E} {S : ob_S} {r : Int32} {D' : ob_D} : ∀ (n : Nat), ∀ (v0 : Nat) (v1 : Int32) (v2 : Int32) (D : ob_D), S.1 v0 = 1 → f_Box_uplink_L4 S n v0 v1 v2 D = some (r, D') → ob_V l E k_Box_uplink 4 [(0, .ref v0), (1, .int v1), (2, .int v2)] [] S D (some (.int r)) S D' := by
  intro n
  induction n with
  | zero =>
    intro v0 v1 v2 D hp_v0 h
    have h : none = some (r, D') := h
    cases h
  | succ n ih =>
    intro v0 v1 v2 D hp_v0 h
    rw [f_Box_uplink_L4] at h
    refine ob_iload d_Box_uplink_4 rfl ?_
    refine ob_aload d_Box_uplink_5 rfl ?_
    obtain ⟨hg2, h⟩ := ob_gd h
    refine ob_getR d_Box_uplink_6 F_0_0 l_Box_14 hp_v0 hg2 (fun hk1 => ?_)
    refine ob_getI d_Box_uplink_9 F_1_1 l_Box_21 hk1 ?_
    refine ob_icmp_ge d_Box_uplink_12 (fun hc => ?_) (fun hc => ?_)
    · replace h := ob_ift hc h
      refine ob_aload d_Box_uplink_82 rfl ?_
      obtain ⟨hg4, h⟩ := ob_gd h
      refine ob_getR d_Box_uplink_83 F_0_0 l_Box_14 hp_v0 hg4 (fun hk3 => ?_)
      refine ob_push d_Box_uplink_86 ?_
      replace h := ob_lt_e h
      refine ob_putI d_Box_uplink_87 F_1_1 l_Box_21 hk3 ?_
      refine ob_iload d_Box_uplink_90 rfl ?_
      exact ob_ie h (ob_iret d_Box_uplink_91 rfl rfl)
    · replace h := ob_iff hc h
      refine ob_aload d_Box_uplink_15 rfl ?_
      obtain ⟨hg7, h⟩ := ob_gd h
      refine ob_getR d_Box_uplink_16 F_0_0 l_Box_14 hp_v0 hg7 (fun hk6 => ?_)
      refine ob_iload d_Box_uplink_19 rfl ?_
      refine ob_push d_Box_uplink_20 ?_
      obtain ⟨x10, D8, h9, h⟩ := ob_bd_e h
      refine ob_callVi (As := [.int v2, .int (1 : Int32)]) (rest := []) d_Box_uplink_21 c_Box_uplink_107 hk6 rfl rfl (Nat.le_of_ble_eq_true rfl) (c_Row_number hk6 h9) ⟨Nat.le_refl _, Nat.le_refl _⟩ ⟨Nat.le_refl _, Nat.le_refl _⟩ ?_
      refine ob_istore (lo2 := [(0, .ref v0), (1, .int v1), (2, .int v2), (3, .int x10)]) d_Box_uplink_24 rfl ?_
      refine ob_push d_Box_uplink_25 ?_
      refine ob_istore (lo2 := [(0, .ref v0), (1, .int v1), (2, .int v2), (3, .int x10), (4, .int (7 : Int32))]) d_Box_uplink_27 rfl ?_
      exact v_Box_uplink_L29 ih ob_FU v0 v1 v2 x10 (7 : Int32) D8 hp_v0 h
def f_Box_uplink (S : ob_S) (v0 : Nat) (D : ob_D) : Option (Int32 × ob_D) :=
  f_Box_uplink_L4 S ob_FU v0 (0 : Int32) (0 : Int32) D
theorem c_Box_uplink {l : Launch} {E : ob_E} {S : ob_S} {D : ob_D} {v0 : Nat} {r : Int32} {D' : ob_D} (hp_v0 : S.1 v0 = 1) (h : f_Box_uplink S v0 D = some (r, D')) : ob_M l E k_Box_uplink [.ref v0] S D (some (.int r)) S D' := by
  refine ob_ofV (lo := [(0, .ref v0)]) (by decide) rfl (Nat.le_of_ble_eq_true rfl) rfl (Nat.le_refl _) (Nat.le_refl _) ?_
  rw [f_Box_uplink] at h
  refine ob_push d_Box_uplink_0 ?_
  refine ob_istore (lo2 := [(0, .ref v0), (1, .int (0 : Int32))]) d_Box_uplink_1 rfl ?_
  refine ob_push d_Box_uplink_2 ?_
  refine ob_istore (lo2 := [(0, .ref v0), (1, .int (0 : Int32)), (2, .int (0 : Int32))]) d_Box_uplink_3 rfl ?_
  exact v_Box_uplink_L4 ob_FU v0 (0 : Int32) (0 : Int32) D hp_v0 h
-- OrbitBox.sense(II)Z
theorem d_Box_sense_10 : ob_dk k_Box_sense 10 11 (0 : Int32) (.iconst 0) 1 := ⟨by decide +kernel, rfl, show Int32.ofInt 0 = (0 : Int32) by decide +kernel⟩
theorem d_Box_sense_11 : ob_dc k_Box_sense 11 (.ireturn) 1 12 := ⟨by decide +kernel, rfl⟩
theorem d_Box_sense_5 : ob_dk k_Box_sense 5 7 (8 : Int32) (.bipush 8) 2 := ⟨by decide +kernel, rfl, show (Int8.ofInt 8).toInt32 = (8 : Int32) by decide +kernel⟩
theorem d_Box_sense_22 : ob_dk k_Box_sense 22 23 (1 : Int32) (.iconst 1) 1 := ⟨by decide +kernel, rfl, show Int32.ofInt 1 = (1 : Int32) by decide +kernel⟩
theorem d_Box_sense_23 : ob_dc k_Box_sense 23 (.ireturn) 1 24 := ⟨by decide +kernel, rfl⟩
theorem d_Box_sense_21 : ob_dc k_Box_sense 21 (.iastore) 1 22 := ⟨by decide +kernel, rfl⟩
theorem d_Box_sense_20 : ob_dv ob_lc k_Box_sense 20 21 2 (.iload_n 2) 1 := ⟨by decide +kernel, rfl, rfl⟩
theorem d_Box_sense_19 : ob_dv ob_lc k_Box_sense 19 20 1 (.iload_n 1) 1 := ⟨by decide +kernel, rfl, rfl⟩
theorem d_Box_sense_16 : ob_dc k_Box_sense 16 (.getfield 122) 3 19 := ⟨by decide +kernel, rfl⟩
theorem d_Box_sense_13 : ob_dc k_Box_sense 13 (.getfield 91) 3 16 := ⟨by decide +kernel, rfl⟩
theorem d_Box_sense_12 : ob_dv ob_ac k_Box_sense 12 13 0 (.aload_n 0) 1 := ⟨by decide +kernel, rfl, rfl⟩
theorem d_Box_sense_7 : ob_db k_Box_sense 7 (.if_icmp .lt 5) 5 10 12 := ⟨by decide +kernel, rfl, by decide⟩
theorem d_Box_sense_4 : ob_dv ob_lc k_Box_sense 4 5 1 (.iload_n 1) 1 := ⟨by decide +kernel, rfl, rfl⟩
theorem d_Box_sense_1 : ob_db k_Box_sense 1 (.ifCond .lt 9) 9 4 10 := ⟨by decide +kernel, rfl, by decide⟩
theorem d_Box_sense_0 : ob_dv ob_lc k_Box_sense 0 1 1 (.iload_n 1) 1 := ⟨by decide +kernel, rfl, rfl⟩
def f_Box_sense (S : ob_S) (v0 : Nat) (v1 : Int32) (v2 : Int32) (D : ob_D) : Option (Int32 × ob_D) :=
  (if v1 < 0 then some ((0 : Int32), D) else (if v1 < (8 : Int32) then if D.2.1 v0 9 ≠ 0 then if D.2.1 (D.2.1 v0 9) 6 ≠ 0 then if ob_in v1 (S.2.1 (D.2.1 (D.2.1 v0 9) 6)) then ob_lt (ob_pI D (D.2.1 (D.2.1 v0 9) 6) v1.toNatClampNeg v2) fun D6 => some ((1 : Int32), D6) else none else none else none else some ((0 : Int32), D)))
theorem c_Box_sense {l : Launch} {E : ob_E} {S : ob_S} {D : ob_D} {v0 : Nat} {v1 : Int32} {v2 : Int32} {r : Int32} {D' : ob_D} (hp_v0 : S.1 v0 = 1) (h : f_Box_sense S v0 v1 v2 D = some (r, D')) : ob_M l E k_Box_sense [.ref v0, .int v1, .int v2] S D (some (.int r)) S D' := by
  refine ob_ofV (lo := [(0, .ref v0), (1, .int v1), (2, .int v2)]) (by decide) rfl (Nat.le_of_ble_eq_true rfl) rfl (Nat.le_refl _) (Nat.le_refl _) ?_
  rw [f_Box_sense] at h
  refine ob_iload d_Box_sense_0 rfl ?_
  refine ob_if_lt d_Box_sense_1 (fun hc => ?_) (fun hc => ?_)
  · replace h := ob_ift hc h
    refine ob_push d_Box_sense_10 ?_
    exact ob_ie h (ob_iret d_Box_sense_11 rfl rfl)
  · replace h := ob_iff hc h
    refine ob_iload d_Box_sense_4 rfl ?_
    refine ob_push d_Box_sense_5 ?_
    refine ob_icmp_lt d_Box_sense_7 (fun hc => ?_) (fun hc => ?_)
    · replace h := ob_ift hc h
      refine ob_aload d_Box_sense_12 rfl ?_
      obtain ⟨hg2, h⟩ := ob_gd h
      refine ob_getR d_Box_sense_13 F_0_9 l_Box_91 hp_v0 hg2 (fun hk1 => ?_)
      obtain ⟨hg4, h⟩ := ob_gd h
      refine ob_getR d_Box_sense_16 F_10_6 l_Box_122 hk1 hg4 (fun hk3 => ?_)
      refine ob_iload d_Box_sense_19 rfl ?_
      refine ob_iload d_Box_sense_20 rfl ?_
      obtain ⟨hg5, h⟩ := ob_gd h
      replace h := ob_lt_e h
      refine ob_iast d_Box_sense_21 hk3 hg5 ?_
      refine ob_push d_Box_sense_22 ?_
      exact ob_ie h (ob_iret d_Box_sense_23 rfl rfl)
    · replace h := ob_iff hc h
      refine ob_push d_Box_sense_10 ?_
      exact ob_ie h (ob_iret d_Box_sense_11 rfl rfl)
-- OrbitBox.tick()I
theorem d_Box_tick_8 : ob_dk k_Box_tick 8 9 (1 : Int32) (.iconst 1) 1 := ⟨by decide +kernel, rfl, show Int32.ofInt 1 = (1 : Int32) by decide +kernel⟩
theorem d_Box_tick_87 : ob_dc k_Box_tick 87 (.ireturn) 1 88 := ⟨by decide +kernel, rfl⟩
theorem d_Box_tick_84 : ob_dc k_Box_tick 84 (.invokevirtual 159) 3 87 := ⟨by decide +kernel, rfl⟩
theorem d_Box_tick_81 : ob_dc k_Box_tick 81 (.invokevirtual 155) 3 84 := ⟨by decide +kernel, rfl⟩
theorem d_Box_tick_78 : ob_dc k_Box_tick 78 (.getfield 35) 3 81 := ⟨by decide +kernel, rfl⟩
theorem d_Box_tick_77 : ob_dv ob_ac k_Box_tick 77 78 0 (.aload_n 0) 1 := ⟨by decide +kernel, rfl, rfl⟩
theorem d_Box_tick_74 : ob_dc k_Box_tick 74 (.getfield 69) 3 77 := ⟨by decide +kernel, rfl⟩
theorem d_Box_tick_73 : ob_dv ob_ac k_Box_tick 73 74 0 (.aload_n 0) 1 := ⟨by decide +kernel, rfl, rfl⟩
theorem d_Box_tick_70 : ob_dc k_Box_tick 70 (.invokevirtual 151) 3 73 := ⟨by decide +kernel, rfl⟩
theorem d_Box_tick_67 : ob_dc k_Box_tick 67 (.getfield 148) 3 70 := ⟨by decide +kernel, rfl⟩
theorem d_Box_tick_64 : ob_dc k_Box_tick 64 (.getfield 69) 3 67 := ⟨by decide +kernel, rfl⟩
theorem d_Box_tick_63 : ob_dv ob_ac k_Box_tick 63 64 0 (.aload_n 0) 1 := ⟨by decide +kernel, rfl, rfl⟩
theorem d_Box_tick_60 : ob_dc k_Box_tick 60 (.getfield 82) 3 63 := ⟨by decide +kernel, rfl⟩
theorem d_Box_tick_59 : ob_dv ob_ac k_Box_tick 59 60 0 (.aload_n 0) 1 := ⟨by decide +kernel, rfl, rfl⟩
theorem d_Box_tick_56 : ob_dc k_Box_tick 56 (.invokevirtual 145) 3 59 := ⟨by decide +kernel, rfl⟩
theorem d_Box_tick_53 : ob_dc k_Box_tick 53 (.getfield 100) 3 56 := ⟨by decide +kernel, rfl⟩
theorem d_Box_tick_52 : ob_dv ob_ac k_Box_tick 52 53 0 (.aload_n 0) 1 := ⟨by decide +kernel, rfl, rfl⟩
theorem d_Box_tick_49 : ob_dc k_Box_tick 49 (.invokevirtual 142) 3 52 := ⟨by decide +kernel, rfl⟩
theorem d_Box_tick_46 : ob_dc k_Box_tick 46 (.getfield 91) 3 49 := ⟨by decide +kernel, rfl⟩
theorem d_Box_tick_45 : ob_dv ob_ac k_Box_tick 45 46 0 (.aload_n 0) 1 := ⟨by decide +kernel, rfl, rfl⟩
theorem d_Box_tick_42 : ob_dc k_Box_tick 42 (.invokevirtual 139) 3 45 := ⟨by decide +kernel, rfl⟩
theorem d_Box_tick_39 : ob_dc k_Box_tick 39 (.getfield 100) 3 42 := ⟨by decide +kernel, rfl⟩
theorem d_Box_tick_38 : ob_dv ob_ac k_Box_tick 38 39 0 (.aload_n 0) 1 := ⟨by decide +kernel, rfl, rfl⟩
theorem d_Box_tick_35 : ob_dc k_Box_tick 35 (.invokevirtual 135) 3 38 := ⟨by decide +kernel, rfl⟩
theorem d_Box_tick_32 : ob_dc k_Box_tick 32 (.getfield 62) 3 35 := ⟨by decide +kernel, rfl⟩
theorem d_Box_tick_31 : ob_dv ob_ac k_Box_tick 31 32 0 (.aload_n 0) 1 := ⟨by decide +kernel, rfl, rfl⟩
theorem d_Box_tick_28 : ob_dc k_Box_tick 28 (.getfield 91) 3 31 := ⟨by decide +kernel, rfl⟩
theorem d_Box_tick_27 : ob_dv ob_ac k_Box_tick 27 28 0 (.aload_n 0) 1 := ⟨by decide +kernel, rfl, rfl⟩
theorem d_Box_tick_24 : ob_dc k_Box_tick 24 (.invokevirtual 132) 3 27 := ⟨by decide +kernel, rfl⟩
theorem d_Box_tick_21 : ob_dc k_Box_tick 21 (.getfield 100) 3 24 := ⟨by decide +kernel, rfl⟩
theorem d_Box_tick_20 : ob_dv ob_ac k_Box_tick 20 21 0 (.aload_n 0) 1 := ⟨by decide +kernel, rfl, rfl⟩
theorem d_Box_tick_17 : ob_dc k_Box_tick 17 (.invokevirtual 129) 3 20 := ⟨by decide +kernel, rfl⟩
theorem d_Box_tick_14 : ob_dc k_Box_tick 14 (.getfield 100) 3 17 := ⟨by decide +kernel, rfl⟩
theorem d_Box_tick_13 : ob_dv ob_ac k_Box_tick 13 14 0 (.aload_n 0) 1 := ⟨by decide +kernel, rfl, rfl⟩
theorem d_Box_tick_10 : ob_dc k_Box_tick 10 (.putfield 126) 3 13 := ⟨by decide +kernel, rfl⟩
theorem d_Box_tick_9 : ob_dc k_Box_tick 9 (.iadd) 1 10 := ⟨by decide +kernel, rfl⟩
theorem d_Box_tick_5 : ob_dc k_Box_tick 5 (.getfield 126) 3 8 := ⟨by decide +kernel, rfl⟩
theorem d_Box_tick_4 : ob_dc k_Box_tick 4 (.dup) 1 5 := ⟨by decide +kernel, rfl⟩
theorem d_Box_tick_1 : ob_dc k_Box_tick 1 (.getfield 91) 3 4 := ⟨by decide +kernel, rfl⟩
theorem d_Box_tick_0 : ob_dv ob_ac k_Box_tick 0 1 0 (.aload_n 0) 1 := ⟨by decide +kernel, rfl, rfl⟩
theorem c_Box_tick_159 : ob_vd k_Box_tick k_Downlink_sendFrames 159 1 9 := ⟨cw_Downlink_sendFrames, yd_Downlink_sendFrames, w_944, w_945, w_946, w_10, ⟨_, _, rfl⟩, by decide, by decide⟩
theorem c_Box_tick_155 : ob_vd k_Box_tick k_Gate_asWord 155 0 4 := ⟨cw_Gate_asWord, yd_Gate_asWord, w_939, w_940, w_941, w_4, ⟨_, _, rfl⟩, by decide, by decide⟩
theorem c_Box_tick_151 : ob_vd k_Box_tick k_Reports_retrieve 151 1 8 := ⟨cw_Reports_retrieve, yd_Reports_retrieve, w_929, w_930, w_931, w_11, ⟨_, _, rfl⟩, by decide, by decide⟩
theorem c_Box_tick_145 : ob_vd k_Box_tick k_Handler_sendDueForms 145 0 11 := ⟨cw_Handler_sendDueForms, yd_Handler_sendDueForms, w_925, w_926, w_927, w_13, ⟨_, _, rfl⟩, by decide, by decide⟩
theorem c_Box_tick_142 : ob_vd k_Box_tick k_Craft_heedAlarm 142 0 10 := ⟨cw_Craft_heedAlarm, yd_Craft_heedAlarm, w_920, w_921, w_922, w_12, ⟨_, _, rfl⟩, by decide, by decide⟩
theorem c_Box_tick_139 : ob_vd k_Box_tick k_Handler_workEvents 139 0 11 := ⟨cw_Handler_workEvents, yd_Handler_workEvents, w_884, w_885, w_886, w_13, ⟨_, _, rfl⟩, by decide, by decide⟩
theorem c_Box_tick_135 : ob_vd k_Box_tick k_Craft_watch 135 1 10 := ⟨cw_Craft_watch, yd_Craft_watch, w_873, w_874, w_875, w_12, ⟨_, _, rfl⟩, by decide, by decide⟩
theorem c_Box_tick_132 : ob_vd k_Box_tick k_Handler_handleQueue 132 0 11 := ⟨cw_Handler_handleQueue, yd_Handler_handleQueue, w_861, w_862, w_863, w_13, ⟨_, _, rfl⟩, by decide, by decide⟩
theorem c_Box_tick_129 : ob_vd k_Box_tick k_Handler_handleDueEntries 129 0 11 := ⟨cw_Handler_handleDueEntries, yd_Handler_handleDueEntries, w_568, w_569, w_570, w_13, ⟨_, _, rfl⟩, by decide, by decide⟩
def f_Box_tick (S : ob_S) (v0 : Nat) (D : ob_D) : Option (Int32 × ob_D) :=
  if D.2.1 v0 9 ≠ 0 then ob_lt (ob_pI D (D.2.1 v0 9) 8 ((D.1 (D.2.1 v0 9) 8) + (1 : Int32))) fun D3 => if D3.2.1 v0 10 ≠ 0 then ob_bv (f_Handler_handleDueEntries S (D3.2.1 v0 10) D3) fun D6 => if D6.2.1 v0 10 ≠ 0 then ob_bv (f_Handler_handleQueue S (D6.2.1 v0 10) D6) fun D10 => if D10.2.1 v0 9 ≠ 0 then if D10.2.1 v0 6 ≠ 0 then ob_bv (f_Craft_watch S (D10.2.1 v0 9) (D10.2.1 v0 6) D10) fun D16 => if D16.2.1 v0 10 ≠ 0 then ob_bv (f_Handler_workEvents S (D16.2.1 v0 10) D16) fun D20 => if D20.2.1 v0 9 ≠ 0 then ob_bv (f_Craft_heedAlarm S (D20.2.1 v0 9) D20) fun D24 => if D24.2.1 v0 10 ≠ 0 then ob_bv (f_Handler_sendDueForms S (D24.2.1 v0 10) D24) fun D28 => if D28.2.1 v0 8 ≠ 0 then if D28.2.1 v0 7 ≠ 0 then if D28.2.1 (D28.2.1 v0 7) 1 ≠ 0 then ob_bv (f_Reports_retrieve S (D28.2.1 v0 8) (D28.2.1 (D28.2.1 v0 7) 1) D28) fun D36 => if D36.2.1 v0 7 ≠ 0 then if D36.2.1 v0 3 ≠ 0 then ob_bd (f_Gate_asWord S (D36.2.1 v0 3) D36) fun x44 D42 => ob_bd (f_Downlink_sendFrames S (D36.2.1 v0 7) x44 D42) fun x47 D45 => some (x47, D45) else none else none else none else none else none else none else none else none else none else none else none else none else none
theorem c_Box_tick {l : Launch} {E : ob_E} {S : ob_S} {D : ob_D} {v0 : Nat} {r : Int32} {D' : ob_D} (hp_v0 : S.1 v0 = 1) (h : f_Box_tick S v0 D = some (r, D')) : ob_M l E k_Box_tick [.ref v0] S D (some (.int r)) S D' := by
  refine ob_ofV (lo := [(0, .ref v0)]) (by decide) rfl (Nat.le_of_ble_eq_true rfl) rfl (Nat.le_refl _) (Nat.le_refl _) ?_
  rw [f_Box_tick] at h
  refine ob_aload d_Box_tick_0 rfl ?_
  obtain ⟨hg2, h⟩ := ob_gd h
  refine ob_getR d_Box_tick_1 F_0_9 l_Box_91 hp_v0 hg2 (fun hk1 => ?_)
  refine ob_dup d_Box_tick_4 rfl ?_
  refine ob_getI d_Box_tick_5 F_10_8 l_Box_126 hk1 ?_
  refine ob_push d_Box_tick_8 ?_
  refine ob_iadd d_Box_tick_9 ?_
  replace h := ob_lt_e h
  refine ob_putI d_Box_tick_10 F_10_8 l_Box_126 hk1 ?_
  refine ob_aload d_Box_tick_13 rfl ?_
  obtain ⟨hg5, h⟩ := ob_gd h
  refine ob_getR d_Box_tick_14 F_0_10 l_Box_100 hp_v0 hg5 (fun hk4 => ?_)
  obtain ⟨D6, h7, h⟩ := ob_bv_e h
  refine ob_callVv (As := []) (rest := []) d_Box_tick_17 c_Box_tick_129 hk4 rfl rfl (Nat.le_of_ble_eq_true rfl) (c_Handler_handleDueEntries hk4 h7) ⟨Nat.le_refl _, Nat.le_refl _⟩ ⟨Nat.le_refl _, Nat.le_refl _⟩ ?_
  refine ob_aload d_Box_tick_20 rfl ?_
  obtain ⟨hg9, h⟩ := ob_gd h
  refine ob_getR d_Box_tick_21 F_0_10 l_Box_100 hp_v0 hg9 (fun hk8 => ?_)
  obtain ⟨D10, h11, h⟩ := ob_bv_e h
  refine ob_callVv (As := []) (rest := []) d_Box_tick_24 c_Box_tick_132 hk8 rfl rfl (Nat.le_of_ble_eq_true rfl) (c_Handler_handleQueue hk8 h11) ⟨Nat.le_refl _, Nat.le_refl _⟩ ⟨Nat.le_refl _, Nat.le_refl _⟩ ?_
  refine ob_aload d_Box_tick_27 rfl ?_
  obtain ⟨hg13, h⟩ := ob_gd h
  refine ob_getR d_Box_tick_28 F_0_9 l_Box_91 hp_v0 hg13 (fun hk12 => ?_)
  refine ob_aload d_Box_tick_31 rfl ?_
  obtain ⟨hg15, h⟩ := ob_gd h
  refine ob_getR d_Box_tick_32 F_0_6 l_Box_62 hp_v0 hg15 (fun hk14 => ?_)
  obtain ⟨D16, h17, h⟩ := ob_bv_e h
  refine ob_callVv (As := [.ref (D10.2.1 v0 6)]) (rest := []) d_Box_tick_35 c_Box_tick_135 hk12 rfl rfl (Nat.le_of_ble_eq_true rfl) (c_Craft_watch hk12 hk14 h17) ⟨Nat.le_refl _, Nat.le_refl _⟩ ⟨Nat.le_refl _, Nat.le_refl _⟩ ?_
  refine ob_aload d_Box_tick_38 rfl ?_
  obtain ⟨hg19, h⟩ := ob_gd h
  refine ob_getR d_Box_tick_39 F_0_10 l_Box_100 hp_v0 hg19 (fun hk18 => ?_)
  obtain ⟨D20, h21, h⟩ := ob_bv_e h
  refine ob_callVv (As := []) (rest := []) d_Box_tick_42 c_Box_tick_139 hk18 rfl rfl (Nat.le_of_ble_eq_true rfl) (c_Handler_workEvents hk18 h21) ⟨Nat.le_refl _, Nat.le_refl _⟩ ⟨Nat.le_refl _, Nat.le_refl _⟩ ?_
  refine ob_aload d_Box_tick_45 rfl ?_
  obtain ⟨hg23, h⟩ := ob_gd h
  refine ob_getR d_Box_tick_46 F_0_9 l_Box_91 hp_v0 hg23 (fun hk22 => ?_)
  obtain ⟨D24, h25, h⟩ := ob_bv_e h
  refine ob_callVv (As := []) (rest := []) d_Box_tick_49 c_Box_tick_142 hk22 rfl rfl (Nat.le_of_ble_eq_true rfl) (c_Craft_heedAlarm hk22 h25) ⟨Nat.le_refl _, Nat.le_refl _⟩ ⟨Nat.le_refl _, Nat.le_refl _⟩ ?_
  refine ob_aload d_Box_tick_52 rfl ?_
  obtain ⟨hg27, h⟩ := ob_gd h
  refine ob_getR d_Box_tick_53 F_0_10 l_Box_100 hp_v0 hg27 (fun hk26 => ?_)
  obtain ⟨D28, h29, h⟩ := ob_bv_e h
  refine ob_callVv (As := []) (rest := []) d_Box_tick_56 c_Box_tick_145 hk26 rfl rfl (Nat.le_of_ble_eq_true rfl) (c_Handler_sendDueForms hk26 h29) ⟨Nat.le_refl _, Nat.le_refl _⟩ ⟨Nat.le_refl _, Nat.le_refl _⟩ ?_
  refine ob_aload d_Box_tick_59 rfl ?_
  obtain ⟨hg31, h⟩ := ob_gd h
  refine ob_getR d_Box_tick_60 F_0_8 l_Box_82 hp_v0 hg31 (fun hk30 => ?_)
  refine ob_aload d_Box_tick_63 rfl ?_
  obtain ⟨hg33, h⟩ := ob_gd h
  refine ob_getR d_Box_tick_64 F_0_7 l_Box_69 hp_v0 hg33 (fun hk32 => ?_)
  obtain ⟨hg35, h⟩ := ob_gd h
  refine ob_getR d_Box_tick_67 F_9_1 l_Box_148 hk32 hg35 (fun hk34 => ?_)
  obtain ⟨D36, h37, h⟩ := ob_bv_e h
  refine ob_callVv (As := [.ref (D28.2.1 (D28.2.1 v0 7) 1)]) (rest := []) d_Box_tick_70 c_Box_tick_151 hk30 rfl rfl (Nat.le_of_ble_eq_true rfl) (c_Reports_retrieve hk30 hk34 h37) ⟨Nat.le_refl _, Nat.le_refl _⟩ ⟨Nat.le_refl _, Nat.le_refl _⟩ ?_
  refine ob_aload d_Box_tick_73 rfl ?_
  obtain ⟨hg39, h⟩ := ob_gd h
  refine ob_getR d_Box_tick_74 F_0_7 l_Box_69 hp_v0 hg39 (fun hk38 => ?_)
  refine ob_aload d_Box_tick_77 rfl ?_
  obtain ⟨hg41, h⟩ := ob_gd h
  refine ob_getR d_Box_tick_78 F_0_3 l_Box_35 hp_v0 hg41 (fun hk40 => ?_)
  obtain ⟨x44, D42, h43, h⟩ := ob_bd_e h
  refine ob_callVi (As := []) (rest := [.ref (D36.2.1 v0 7)]) d_Box_tick_81 c_Box_tick_155 hk40 rfl rfl (Nat.le_of_ble_eq_true rfl) (c_Gate_asWord hk40 h43) ⟨Nat.le_refl _, Nat.le_refl _⟩ ⟨Nat.le_refl _, Nat.le_refl _⟩ ?_
  obtain ⟨x47, D45, h46, h⟩ := ob_bd_e h
  refine ob_callVi (As := [.int x44]) (rest := []) d_Box_tick_84 c_Box_tick_159 hk38 rfl rfl (Nat.le_of_ble_eq_true rfl) (c_Downlink_sendFrames hk38 h46) ⟨Nat.le_refl _, Nat.le_refl _⟩ ⟨Nat.le_refl _, Nat.le_refl _⟩ ?_
  exact ob_ie h (ob_iret d_Box_tick_87 rfl rfl)
-- OrbitBox.word()I
theorem d_Box_word_7 : ob_dc k_Box_word 7 (.ireturn) 1 8 := ⟨by decide +kernel, rfl⟩
theorem d_Box_word_4 : ob_dc k_Box_word 4 (.invokevirtual 155) 3 7 := ⟨by decide +kernel, rfl⟩
theorem d_Box_word_1 : ob_dc k_Box_word 1 (.getfield 35) 3 4 := ⟨by decide +kernel, rfl⟩
theorem d_Box_word_0 : ob_dv ob_ac k_Box_word 0 1 0 (.aload_n 0) 1 := ⟨by decide +kernel, rfl, rfl⟩
theorem c_Box_word_155 : ob_vd k_Box_word k_Gate_asWord 155 0 4 := ⟨cw_Gate_asWord, yd_Gate_asWord, w_939, w_940, w_941, w_4, ⟨_, _, rfl⟩, by decide, by decide⟩
def f_Box_word (S : ob_S) (v0 : Nat) (D : ob_D) : Option (Int32 × ob_D) :=
  if D.2.1 v0 3 ≠ 0 then ob_bd (f_Gate_asWord S (D.2.1 v0 3) D) fun x5 D3 => some (x5, D3) else none
theorem c_Box_word {l : Launch} {E : ob_E} {S : ob_S} {D : ob_D} {v0 : Nat} {r : Int32} {D' : ob_D} (hp_v0 : S.1 v0 = 1) (h : f_Box_word S v0 D = some (r, D')) : ob_M l E k_Box_word [.ref v0] S D (some (.int r)) S D' := by
  refine ob_ofV (lo := [(0, .ref v0)]) (by decide) rfl (Nat.le_of_ble_eq_true rfl) rfl (Nat.le_refl _) (Nat.le_refl _) ?_
  rw [f_Box_word] at h
  refine ob_aload d_Box_word_0 rfl ?_
  obtain ⟨hg2, h⟩ := ob_gd h
  refine ob_getR d_Box_word_1 F_0_3 l_Box_35 hp_v0 hg2 (fun hk1 => ?_)
  obtain ⟨x5, D3, h4, h⟩ := ob_bd_e h
  refine ob_callVi (As := []) (rest := []) d_Box_word_4 c_Box_word_155 hk1 rfl rfl (Nat.le_of_ble_eq_true rfl) (c_Gate_asWord hk1 h4) ⟨Nat.le_refl _, Nat.le_refl _⟩ ⟨Nat.le_refl _, Nat.le_refl _⟩ ?_
  exact ob_ie h (ob_iret d_Box_word_7 rfl rfl)
-- OrbitBox.memory(I)I
theorem d_Box_memory_23 : ob_dk k_Box_memory 23 24 (-1 : Int32) (.iconst (-1)) 1 := ⟨by decide +kernel, rfl, show Int32.ofInt (-1) = (-1 : Int32) by decide +kernel⟩
theorem d_Box_memory_24 : ob_dc k_Box_memory 24 (.ireturn) 1 25 := ⟨by decide +kernel, rfl⟩
theorem d_Box_memory_5 : ob_dk k_Box_memory 5 8 (4096 : Int32) (.sipush 4096) 3 := ⟨by decide +kernel, rfl, show (Int16.ofInt 4096).toInt32 = (4096 : Int32) by decide +kernel⟩
theorem d_Box_memory_16 : ob_dk k_Box_memory 16 17 (1 : Int32) (.iconst 1) 1 := ⟨by decide +kernel, rfl, show Int32.ofInt 1 = (1 : Int32) by decide +kernel⟩
theorem d_Box_memory_20 : ob_db k_Box_memory 20 (.goto 4) 4 23 24 := ⟨by decide +kernel, rfl, by decide⟩
theorem d_Box_memory_17 : ob_dc k_Box_memory 17 (.invokevirtual 107) 3 20 := ⟨by decide +kernel, rfl⟩
theorem d_Box_memory_15 : ob_dv ob_lc k_Box_memory 15 16 1 (.iload_n 1) 1 := ⟨by decide +kernel, rfl, rfl⟩
theorem d_Box_memory_12 : ob_dc k_Box_memory 12 (.getfield 18) 3 15 := ⟨by decide +kernel, rfl⟩
theorem d_Box_memory_11 : ob_dv ob_ac k_Box_memory 11 12 0 (.aload_n 0) 1 := ⟨by decide +kernel, rfl, rfl⟩
theorem d_Box_memory_8 : ob_db k_Box_memory 8 (.if_icmp .ge 15) 15 11 23 := ⟨by decide +kernel, rfl, by decide⟩
theorem d_Box_memory_4 : ob_dv ob_lc k_Box_memory 4 5 1 (.iload_n 1) 1 := ⟨by decide +kernel, rfl, rfl⟩
theorem d_Box_memory_1 : ob_db k_Box_memory 1 (.ifCond .lt 22) 22 4 23 := ⟨by decide +kernel, rfl, by decide⟩
theorem d_Box_memory_0 : ob_dv ob_lc k_Box_memory 0 1 1 (.iload_n 1) 1 := ⟨by decide +kernel, rfl, rfl⟩
theorem c_Box_memory_107 : ob_vd k_Box_memory k_Row_number 107 2 1 := ⟨cw_Row_number, yd_Row_number, w_478, w_479, w_480, w_2, ⟨_, _, rfl⟩, by decide, by decide⟩
def f_Box_memory (S : ob_S) (v0 : Nat) (v1 : Int32) (D : ob_D) : Option (Int32 × ob_D) :=
  (if v1 < 0 then some ((-1 : Int32), D) else (if (4096 : Int32) ≤ v1 then some ((-1 : Int32), D) else if D.2.1 v0 1 ≠ 0 then ob_bd (f_Row_number S (D.2.1 v0 1) v1 (1 : Int32) D) fun x5 D3 => some (x5, D3) else none))
theorem c_Box_memory {l : Launch} {E : ob_E} {S : ob_S} {D : ob_D} {v0 : Nat} {v1 : Int32} {r : Int32} {D' : ob_D} (hp_v0 : S.1 v0 = 1) (h : f_Box_memory S v0 v1 D = some (r, D')) : ob_M l E k_Box_memory [.ref v0, .int v1] S D (some (.int r)) S D' := by
  refine ob_ofV (lo := [(0, .ref v0), (1, .int v1)]) (by decide) rfl (Nat.le_of_ble_eq_true rfl) rfl (Nat.le_refl _) (Nat.le_refl _) ?_
  rw [f_Box_memory] at h
  refine ob_iload d_Box_memory_0 rfl ?_
  refine ob_if_lt d_Box_memory_1 (fun hc => ?_) (fun hc => ?_)
  · replace h := ob_ift hc h
    refine ob_push d_Box_memory_23 ?_
    exact ob_ie h (ob_iret d_Box_memory_24 rfl rfl)
  · replace h := ob_iff hc h
    refine ob_iload d_Box_memory_4 rfl ?_
    refine ob_push d_Box_memory_5 ?_
    refine ob_icmp_ge d_Box_memory_8 (fun hc => ?_) (fun hc => ?_)
    · replace h := ob_ift hc h
      refine ob_push d_Box_memory_23 ?_
      exact ob_ie h (ob_iret d_Box_memory_24 rfl rfl)
    · replace h := ob_iff hc h
      refine ob_aload d_Box_memory_11 rfl ?_
      obtain ⟨hg2, h⟩ := ob_gd h
      refine ob_getR d_Box_memory_12 F_0_1 l_Box_18 hp_v0 hg2 (fun hk1 => ?_)
      refine ob_iload d_Box_memory_15 rfl ?_
      refine ob_push d_Box_memory_16 ?_
      obtain ⟨x5, D3, h4, h⟩ := ob_bd_e h
      refine ob_callVi (As := [.int v1, .int (1 : Int32)]) (rest := []) d_Box_memory_17 c_Box_memory_107 hk1 rfl rfl (Nat.le_of_ble_eq_true rfl) (c_Row_number hk1 h4) ⟨Nat.le_refl _, Nat.le_refl _⟩ ⟨Nat.le_refl _, Nat.le_refl _⟩ ?_
      refine ob_goto d_Box_memory_20 ?_
      exact ob_ie h (ob_iret d_Box_memory_24 rfl rfl)
-- OrbitBox.limit(II)I
theorem d_Box_limit_10 : ob_dk k_Box_limit 10 11 (-1 : Int32) (.iconst (-1)) 1 := ⟨by decide +kernel, rfl, show Int32.ofInt (-1) = (-1 : Int32) by decide +kernel⟩
theorem d_Box_limit_23 : ob_dk k_Box_limit 23 24 (-1 : Int32) (.iconst (-1)) 1 := ⟨by decide +kernel, rfl, show Int32.ofInt (-1) = (-1 : Int32) by decide +kernel⟩
theorem d_Box_limit_24 : ob_dc k_Box_limit 24 (.ireturn) 1 25 := ⟨by decide +kernel, rfl⟩
theorem d_Box_limit_19 : ob_dk k_Box_limit 19 20 (1 : Int32) (.iconst 1) 1 := ⟨by decide +kernel, rfl, show Int32.ofInt 1 = (1 : Int32) by decide +kernel⟩
theorem d_Box_limit_38 : ob_dk k_Box_limit 38 39 (2 : Int32) (.iconst 2) 1 := ⟨by decide +kernel, rfl, show Int32.ofInt 2 = (2 : Int32) by decide +kernel⟩
theorem d_Box_limit_42 : ob_dc k_Box_limit 42 (.ireturn) 1 43 := ⟨by decide +kernel, rfl⟩
theorem d_Box_limit_39 : ob_dc k_Box_limit 39 (.invokevirtual 194) 3 42 := ⟨by decide +kernel, rfl⟩
theorem d_Box_limit_34 : ob_dk k_Box_limit 34 35 (1 : Int32) (.iconst 1) 1 := ⟨by decide +kernel, rfl, show Int32.ofInt 1 = (1 : Int32) by decide +kernel⟩
theorem d_Box_limit_35 : ob_db k_Box_limit 35 (.goto 4) 4 38 39 := ⟨by decide +kernel, rfl, by decide⟩
theorem d_Box_limit_31 : ob_db k_Box_limit 31 (.ifCond .ne 7) 7 34 38 := ⟨by decide +kernel, rfl, by decide⟩
theorem d_Box_limit_30 : ob_dv ob_lc k_Box_limit 30 31 2 (.iload_n 2) 1 := ⟨by decide +kernel, rfl, rfl⟩
theorem d_Box_limit_29 : ob_dv ob_lc k_Box_limit 29 30 3 (.iload_n 3) 1 := ⟨by decide +kernel, rfl, rfl⟩
theorem d_Box_limit_26 : ob_dc k_Box_limit 26 (.getfield 62) 3 29 := ⟨by decide +kernel, rfl⟩
theorem d_Box_limit_25 : ob_dv ob_ac k_Box_limit 25 26 0 (.aload_n 0) 1 := ⟨by decide +kernel, rfl, rfl⟩
theorem d_Box_limit_20 : ob_db k_Box_limit 20 (.if_icmp .le 5) 5 23 25 := ⟨by decide +kernel, rfl, by decide⟩
theorem d_Box_limit_18 : ob_dv ob_lc k_Box_limit 18 19 2 (.iload_n 2) 1 := ⟨by decide +kernel, rfl, rfl⟩
theorem d_Box_limit_15 : ob_db k_Box_limit 15 (.ifCond .lt 8) 8 18 23 := ⟨by decide +kernel, rfl, by decide⟩
theorem d_Box_limit_14 : ob_dv ob_lc k_Box_limit 14 15 2 (.iload_n 2) 1 := ⟨by decide +kernel, rfl, rfl⟩
theorem d_Box_limit_11 : ob_db k_Box_limit 11 (.if_icmp .eq 12) 12 14 23 := ⟨by decide +kernel, rfl, by decide⟩
theorem d_Box_limit_9 : ob_dv ob_lc k_Box_limit 9 10 3 (.iload_n 3) 1 := ⟨by decide +kernel, rfl, rfl⟩
theorem d_Box_limit_8 : ob_dv (ob_sc k_Box_limit.2.2.2.1) k_Box_limit 8 9 3 (.istore_n 3) 1 := ⟨by decide +kernel, rfl, ⟨rfl, by decide +kernel⟩⟩
theorem d_Box_limit_5 : ob_dc k_Box_limit 5 (.invokevirtual 191) 3 8 := ⟨by decide +kernel, rfl⟩
theorem d_Box_limit_4 : ob_dv ob_lc k_Box_limit 4 5 1 (.iload_n 1) 1 := ⟨by decide +kernel, rfl, rfl⟩
theorem d_Box_limit_1 : ob_dc k_Box_limit 1 (.getfield 62) 3 4 := ⟨by decide +kernel, rfl⟩
theorem d_Box_limit_0 : ob_dv ob_ac k_Box_limit 0 1 0 (.aload_n 0) 1 := ⟨by decide +kernel, rfl, rfl⟩
theorem c_Box_limit_194 : ob_vd k_Box_limit k_Table_get 194 2 7 := ⟨cw_Table_get, yd_Table_get, w_982, w_684, w_685, w_9, ⟨_, _, rfl⟩, by decide, by decide⟩
theorem c_Box_limit_191 : ob_vd k_Box_limit k_Table_find 191 1 7 := ⟨cw_Table_find, yd_Table_find, w_981, w_672, w_673, w_9, ⟨_, _, rfl⟩, by decide, by decide⟩
def f_Box_limit (S : ob_S) (v0 : Nat) (v1 : Int32) (v2 : Int32) (D : ob_D) : Option (Int32 × ob_D) :=
  if D.2.1 v0 6 ≠ 0 then ob_bd (f_Table_find S (D.2.1 v0 6) v1 D) fun x5 D3 => (if x5 = (-1 : Int32) then some ((-1 : Int32), D3) else (if v2 < 0 then some ((-1 : Int32), D3) else (if v2 ≤ (1 : Int32) then if D3.2.1 v0 6 ≠ 0 then (if v2 = 0 then ob_bd (f_Table_get S (D3.2.1 v0 6) x5 (1 : Int32) D3) fun x13 D11 => some (x13, D11) else ob_bd (f_Table_get S (D3.2.1 v0 6) x5 (2 : Int32) D3) fun x10 D8 => some (x10, D8)) else none else some ((-1 : Int32), D3)))) else none
theorem c_Box_limit {l : Launch} {E : ob_E} {S : ob_S} {D : ob_D} {v0 : Nat} {v1 : Int32} {v2 : Int32} {r : Int32} {D' : ob_D} (hp_v0 : S.1 v0 = 1) (h : f_Box_limit S v0 v1 v2 D = some (r, D')) : ob_M l E k_Box_limit [.ref v0, .int v1, .int v2] S D (some (.int r)) S D' := by
  refine ob_ofV (lo := [(0, .ref v0), (1, .int v1), (2, .int v2)]) (by decide) rfl (Nat.le_of_ble_eq_true rfl) rfl (Nat.le_refl _) (Nat.le_refl _) ?_
  rw [f_Box_limit] at h
  refine ob_aload d_Box_limit_0 rfl ?_
  obtain ⟨hg2, h⟩ := ob_gd h
  refine ob_getR d_Box_limit_1 F_0_6 l_Box_62 hp_v0 hg2 (fun hk1 => ?_)
  refine ob_iload d_Box_limit_4 rfl ?_
  obtain ⟨x5, D3, h4, h⟩ := ob_bd_e h
  refine ob_callVi (As := [.int v1]) (rest := []) d_Box_limit_5 c_Box_limit_191 hk1 rfl rfl (Nat.le_of_ble_eq_true rfl) (c_Table_find hk1 h4) ⟨Nat.le_refl _, Nat.le_refl _⟩ ⟨Nat.le_refl _, Nat.le_refl _⟩ ?_
  refine ob_istore (lo2 := [(0, .ref v0), (1, .int v1), (2, .int v2), (3, .int x5)]) d_Box_limit_8 rfl ?_
  refine ob_iload d_Box_limit_9 rfl ?_
  refine ob_push d_Box_limit_10 ?_
  refine ob_icmp_eq d_Box_limit_11 (fun hc => ?_) (fun hc => ?_)
  · replace h := ob_ift hc h
    refine ob_push d_Box_limit_23 ?_
    exact ob_ie h (ob_iret d_Box_limit_24 rfl rfl)
  · replace h := ob_iff hc h
    refine ob_iload d_Box_limit_14 rfl ?_
    refine ob_if_lt d_Box_limit_15 (fun hc => ?_) (fun hc => ?_)
    · replace h := ob_ift hc h
      refine ob_push d_Box_limit_23 ?_
      exact ob_ie h (ob_iret d_Box_limit_24 rfl rfl)
    · replace h := ob_iff hc h
      refine ob_iload d_Box_limit_18 rfl ?_
      refine ob_push d_Box_limit_19 ?_
      refine ob_icmp_le d_Box_limit_20 (fun hc => ?_) (fun hc => ?_)
      · replace h := ob_ift hc h
        refine ob_aload d_Box_limit_25 rfl ?_
        obtain ⟨hg7, h⟩ := ob_gd h
        refine ob_getR d_Box_limit_26 F_0_6 l_Box_62 hp_v0 hg7 (fun hk6 => ?_)
        refine ob_iload d_Box_limit_29 rfl ?_
        refine ob_iload d_Box_limit_30 rfl ?_
        refine ob_if_ne d_Box_limit_31 (fun hc => ?_) (fun hc => ?_)
        · replace h := ob_iff hc h
          refine ob_push d_Box_limit_38 ?_
          obtain ⟨x10, D8, h9, h⟩ := ob_bd_e h
          refine ob_callVi (As := [.int x5, .int (2 : Int32)]) (rest := []) d_Box_limit_39 c_Box_limit_194 hk6 rfl rfl (Nat.le_of_ble_eq_true rfl) (c_Table_get hk6 h9) ⟨Nat.le_refl _, Nat.le_refl _⟩ ⟨Nat.le_refl _, Nat.le_refl _⟩ ?_
          exact ob_ie h (ob_iret d_Box_limit_42 rfl rfl)
        · replace h := ob_ift hc h
          refine ob_push d_Box_limit_34 ?_
          refine ob_goto d_Box_limit_35 ?_
          obtain ⟨x13, D11, h12, h⟩ := ob_bd_e h
          refine ob_callVi (As := [.int x5, .int (1 : Int32)]) (rest := []) d_Box_limit_39 c_Box_limit_194 hk6 rfl rfl (Nat.le_of_ble_eq_true rfl) (c_Table_get hk6 h12) ⟨Nat.le_refl _, Nat.le_refl _⟩ ⟨Nat.le_refl _, Nat.le_refl _⟩ ?_
          exact ob_ie h (ob_iret d_Box_limit_42 rfl rfl)
      · replace h := ob_iff hc h
        refine ob_push d_Box_limit_23 ?_
        exact ob_ie h (ob_iret d_Box_limit_24 rfl rfl)
-- OrbitBox.state(I)I
theorem d_Box_state_1 : decode k_Box_state.2.2.1 1 = .ok (.tableswitch 109 0 5 #[39, 50, 58, 74, 85, 93], 39) := by decide +kernel
theorem d_Box_state_50 : ob_dc k_Box_state 50 (.ireturn) 1 51 := ⟨by decide +kernel, rfl⟩
theorem d_Box_state_47 : ob_dc k_Box_state 47 (.getfield 197) 3 50 := ⟨by decide +kernel, rfl⟩
theorem d_Box_state_44 : ob_dc k_Box_state 44 (.getfield 148) 3 47 := ⟨by decide +kernel, rfl⟩
theorem d_Box_state_41 : ob_dc k_Box_state 41 (.getfield 69) 3 44 := ⟨by decide +kernel, rfl⟩
theorem d_Box_state_40 : ob_dv ob_ac k_Box_state 40 41 0 (.aload_n 0) 1 := ⟨by decide +kernel, rfl, rfl⟩
theorem d_Box_state_58 : ob_dc k_Box_state 58 (.ireturn) 1 59 := ⟨by decide +kernel, rfl⟩
theorem d_Box_state_55 : ob_dc k_Box_state 55 (.getfield 200) 3 58 := ⟨by decide +kernel, rfl⟩
theorem d_Box_state_52 : ob_dc k_Box_state 52 (.getfield 91) 3 55 := ⟨by decide +kernel, rfl⟩
theorem d_Box_state_51 : ob_dv ob_ac k_Box_state 51 52 0 (.aload_n 0) 1 := ⟨by decide +kernel, rfl, rfl⟩
theorem d_Box_state_73 : ob_dk k_Box_state 73 74 (0 : Int32) (.iconst 0) 1 := ⟨by decide +kernel, rfl, show Int32.ofInt 0 = (0 : Int32) by decide +kernel⟩
theorem d_Box_state_74 : ob_dc k_Box_state 74 (.ireturn) 1 75 := ⟨by decide +kernel, rfl⟩
theorem d_Box_state_69 : ob_dk k_Box_state 69 70 (1 : Int32) (.iconst 1) 1 := ⟨by decide +kernel, rfl, show Int32.ofInt 1 = (1 : Int32) by decide +kernel⟩
theorem d_Box_state_70 : ob_db k_Box_state 70 (.goto 4) 4 73 74 := ⟨by decide +kernel, rfl, by decide⟩
theorem d_Box_state_66 : ob_db k_Box_state 66 (.ifCond .eq 7) 7 69 73 := ⟨by decide +kernel, rfl, by decide⟩
theorem d_Box_state_63 : ob_dc k_Box_state 63 (.getfield 203) 3 66 := ⟨by decide +kernel, rfl⟩
theorem d_Box_state_60 : ob_dc k_Box_state 60 (.getfield 82) 3 63 := ⟨by decide +kernel, rfl⟩
theorem d_Box_state_59 : ob_dv ob_ac k_Box_state 59 60 0 (.aload_n 0) 1 := ⟨by decide +kernel, rfl, rfl⟩
theorem d_Box_state_85 : ob_dc k_Box_state 85 (.ireturn) 1 86 := ⟨by decide +kernel, rfl⟩
theorem d_Box_state_82 : ob_dc k_Box_state 82 (.getfield 197) 3 85 := ⟨by decide +kernel, rfl⟩
theorem d_Box_state_79 : ob_dc k_Box_state 79 (.getfield 207) 3 82 := ⟨by decide +kernel, rfl⟩
theorem d_Box_state_76 : ob_dc k_Box_state 76 (.getfield 82) 3 79 := ⟨by decide +kernel, rfl⟩
theorem d_Box_state_75 : ob_dv ob_ac k_Box_state 75 76 0 (.aload_n 0) 1 := ⟨by decide +kernel, rfl, rfl⟩
theorem d_Box_state_93 : ob_dc k_Box_state 93 (.ireturn) 1 94 := ⟨by decide +kernel, rfl⟩
theorem d_Box_state_90 : ob_dc k_Box_state 90 (.invokevirtual 210) 3 93 := ⟨by decide +kernel, rfl⟩
theorem d_Box_state_87 : ob_dc k_Box_state 87 (.getfield 53) 3 90 := ⟨by decide +kernel, rfl⟩
theorem d_Box_state_86 : ob_dv ob_ac k_Box_state 86 87 0 (.aload_n 0) 1 := ⟨by decide +kernel, rfl, rfl⟩
theorem d_Box_state_108 : ob_dk k_Box_state 108 109 (0 : Int32) (.iconst 0) 1 := ⟨by decide +kernel, rfl, show Int32.ofInt 0 = (0 : Int32) by decide +kernel⟩
theorem d_Box_state_109 : ob_dc k_Box_state 109 (.ireturn) 1 110 := ⟨by decide +kernel, rfl⟩
theorem d_Box_state_104 : ob_dk k_Box_state 104 105 (1 : Int32) (.iconst 1) 1 := ⟨by decide +kernel, rfl, show Int32.ofInt 1 = (1 : Int32) by decide +kernel⟩
theorem d_Box_state_105 : ob_db k_Box_state 105 (.goto 4) 4 108 109 := ⟨by decide +kernel, rfl, by decide⟩
theorem d_Box_state_101 : ob_db k_Box_state 101 (.ifCond .eq 7) 7 104 108 := ⟨by decide +kernel, rfl, by decide⟩
theorem d_Box_state_98 : ob_dc k_Box_state 98 (.getfield 213) 3 101 := ⟨by decide +kernel, rfl⟩
theorem d_Box_state_95 : ob_dc k_Box_state 95 (.getfield 28) 3 98 := ⟨by decide +kernel, rfl⟩
theorem d_Box_state_94 : ob_dv ob_ac k_Box_state 94 95 0 (.aload_n 0) 1 := ⟨by decide +kernel, rfl, rfl⟩
theorem d_Box_state_110 : ob_dk k_Box_state 110 111 (-1 : Int32) (.iconst (-1)) 1 := ⟨by decide +kernel, rfl, show Int32.ofInt (-1) = (-1 : Int32) by decide +kernel⟩
theorem d_Box_state_111 : ob_dc k_Box_state 111 (.ireturn) 1 112 := ⟨by decide +kernel, rfl⟩
theorem d_Box_state_0 : ob_dv ob_lc k_Box_state 0 1 1 (.iload_n 1) 1 := ⟨by decide +kernel, rfl, rfl⟩
theorem c_Box_state_210 : ob_vd k_Box_state k_Events_raisedCount 210 0 6 := ⟨cw_Events_raisedCount, yd_Events_raisedCount, w_987, w_916, w_917, w_7, ⟨_, _, rfl⟩, by decide, by decide⟩
def f_Box_state (S : ob_S) (v0 : Nat) (v1 : Int32) (D : ob_D) : Option (Int32 × ob_D) :=
  (if v1 = (0 : Int32) then if D.2.1 v0 7 ≠ 0 then if D.2.1 (D.2.1 v0 7) 1 ≠ 0 then some (D.1 (D.2.1 (D.2.1 v0 7) 1) 2, D) else none else none else if v1 = (1 : Int32) then if D.2.1 v0 9 ≠ 0 then some (D.1 (D.2.1 v0 9) 9, D) else none else if v1 = (2 : Int32) then if D.2.1 v0 8 ≠ 0 then (if (D.1 (D.2.1 v0 8) 8) = 0 then some ((0 : Int32), D) else some ((1 : Int32), D)) else none else if v1 = (3 : Int32) then if D.2.1 v0 8 ≠ 0 then if D.2.1 (D.2.1 v0 8) 1 ≠ 0 then some (D.1 (D.2.1 (D.2.1 v0 8) 1) 2, D) else none else none else if v1 = (4 : Int32) then if D.2.1 v0 5 ≠ 0 then ob_bd (f_Events_raisedCount S (D.2.1 v0 5) D) fun x21 D19 => some (x21, D19) else none else if v1 = (5 : Int32) then if D.2.1 v0 2 ≠ 0 then (if (D.1 (D.2.1 v0 2) 1) = 0 then some ((0 : Int32), D) else some ((1 : Int32), D)) else none else some ((-1 : Int32), D))
theorem c_Box_state {l : Launch} {E : ob_E} {S : ob_S} {D : ob_D} {v0 : Nat} {v1 : Int32} {r : Int32} {D' : ob_D} (hp_v0 : S.1 v0 = 1) (h : f_Box_state S v0 v1 D = some (r, D')) : ob_M l E k_Box_state [.ref v0, .int v1] S D (some (.int r)) S D' := by
  refine ob_ofV (lo := [(0, .ref v0), (1, .int v1)]) (by decide) rfl (Nat.le_of_ble_eq_true rfl) rfl (Nat.le_refl _) (Nat.le_refl _) ?_
  rw [f_Box_state] at h
  refine ob_iload d_Box_state_0 rfl ?_
  by_cases hs5 : v1 = (0 : Int32)
  · replace h := ob_ift hs5 h
    refine ob_tabI (off := 39) (t := 40) d_Box_state_1 hs5 (by decide +kernel) ?_
    refine ob_aload d_Box_state_40 rfl ?_
    obtain ⟨hg2, h⟩ := ob_gd h
    refine ob_getR d_Box_state_41 F_0_7 l_Box_69 hp_v0 hg2 (fun hk1 => ?_)
    obtain ⟨hg4, h⟩ := ob_gd h
    refine ob_getR d_Box_state_44 F_9_1 l_Box_148 hk1 hg4 (fun hk3 => ?_)
    refine ob_getI d_Box_state_47 F_2_2 l_Box_197 hk3 ?_
    exact ob_ie h (ob_iret d_Box_state_50 rfl rfl)
  replace h := ob_iff hs5 h
  by_cases hs8 : v1 = (1 : Int32)
  · replace h := ob_ift hs8 h
    refine ob_tabI (off := 50) (t := 51) d_Box_state_1 hs8 (by decide +kernel) ?_
    refine ob_aload d_Box_state_51 rfl ?_
    obtain ⟨hg7, h⟩ := ob_gd h
    refine ob_getR d_Box_state_52 F_0_9 l_Box_91 hp_v0 hg7 (fun hk6 => ?_)
    refine ob_getI d_Box_state_55 F_10_9 l_Box_200 hk6 ?_
    exact ob_ie h (ob_iret d_Box_state_58 rfl rfl)
  replace h := ob_iff hs8 h
  by_cases hs11 : v1 = (2 : Int32)
  · replace h := ob_ift hs11 h
    refine ob_tabI (off := 58) (t := 59) d_Box_state_1 hs11 (by decide +kernel) ?_
    refine ob_aload d_Box_state_59 rfl ?_
    obtain ⟨hg10, h⟩ := ob_gd h
    refine ob_getR d_Box_state_60 F_0_8 l_Box_82 hp_v0 hg10 (fun hk9 => ?_)
    refine ob_getI d_Box_state_63 F_8_8 l_Box_203 hk9 ?_
    refine ob_if_eq d_Box_state_66 (fun hc => ?_) (fun hc => ?_)
    · replace h := ob_ift hc h
      refine ob_push d_Box_state_73 ?_
      exact ob_ie h (ob_iret d_Box_state_74 rfl rfl)
    · replace h := ob_iff hc h
      refine ob_push d_Box_state_69 ?_
      refine ob_goto d_Box_state_70 ?_
      exact ob_ie h (ob_iret d_Box_state_74 rfl rfl)
  replace h := ob_iff hs11 h
  by_cases hs16 : v1 = (3 : Int32)
  · replace h := ob_ift hs16 h
    refine ob_tabI (off := 74) (t := 75) d_Box_state_1 hs16 (by decide +kernel) ?_
    refine ob_aload d_Box_state_75 rfl ?_
    obtain ⟨hg13, h⟩ := ob_gd h
    refine ob_getR d_Box_state_76 F_0_8 l_Box_82 hp_v0 hg13 (fun hk12 => ?_)
    obtain ⟨hg15, h⟩ := ob_gd h
    refine ob_getR d_Box_state_79 F_8_1 l_Box_207 hk12 hg15 (fun hk14 => ?_)
    refine ob_getI d_Box_state_82 F_2_2 l_Box_197 hk14 ?_
    exact ob_ie h (ob_iret d_Box_state_85 rfl rfl)
  replace h := ob_iff hs16 h
  by_cases hs22 : v1 = (4 : Int32)
  · replace h := ob_ift hs22 h
    refine ob_tabI (off := 85) (t := 86) d_Box_state_1 hs22 (by decide +kernel) ?_
    refine ob_aload d_Box_state_86 rfl ?_
    obtain ⟨hg18, h⟩ := ob_gd h
    refine ob_getR d_Box_state_87 F_0_5 l_Box_53 hp_v0 hg18 (fun hk17 => ?_)
    obtain ⟨x21, D19, h20, h⟩ := ob_bd_e h
    refine ob_callVi (As := []) (rest := []) d_Box_state_90 c_Box_state_210 hk17 rfl rfl (Nat.le_of_ble_eq_true rfl) (c_Events_raisedCount hk17 h20) ⟨Nat.le_refl _, Nat.le_refl _⟩ ⟨Nat.le_refl _, Nat.le_refl _⟩ ?_
    exact ob_ie h (ob_iret d_Box_state_93 rfl rfl)
  replace h := ob_iff hs22 h
  by_cases hs25 : v1 = (5 : Int32)
  · replace h := ob_ift hs25 h
    refine ob_tabI (off := 93) (t := 94) d_Box_state_1 hs25 (by decide +kernel) ?_
    refine ob_aload d_Box_state_94 rfl ?_
    obtain ⟨hg24, h⟩ := ob_gd h
    refine ob_getR d_Box_state_95 F_0_2 l_Box_28 hp_v0 hg24 (fun hk23 => ?_)
    refine ob_getI d_Box_state_98 F_3_1 l_Box_213 hk23 ?_
    refine ob_if_eq d_Box_state_101 (fun hc => ?_) (fun hc => ?_)
    · replace h := ob_ift hc h
      refine ob_push d_Box_state_108 ?_
      exact ob_ie h (ob_iret d_Box_state_109 rfl rfl)
    · replace h := ob_iff hc h
      refine ob_push d_Box_state_104 ?_
      refine ob_goto d_Box_state_105 ?_
      exact ob_ie h (ob_iret d_Box_state_109 rfl rfl)
  replace h := ob_iff hs25 h
  refine ob_tabO (t := 110) d_Box_state_1 (by decide) (ob_out _ _ _ (fun k h1 h2 hk => ?_)) ?_
  · have hh : k = 0 ∨ k = 1 ∨ k = 2 ∨ k = 3 ∨ k = 4 ∨ k = 5 := by omega
    rcases hh with rfl | rfl | rfl | rfl | rfl | rfl
    · exact hs5 (Int32.toInt_inj.mp hk)
    · exact hs8 (Int32.toInt_inj.mp hk)
    · exact hs11 (Int32.toInt_inj.mp hk)
    · exact hs16 (Int32.toInt_inj.mp hk)
    · exact hs22 (Int32.toInt_inj.mp hk)
    · exact hs25 (Int32.toInt_inj.mp hk)
  · skip
    refine ob_push d_Box_state_110 ?_
    exact ob_ie h (ob_iret d_Box_state_111 rfl rfl)
-- OrbitBox.down(II)I
theorem d_Box_down_48 : ob_dk k_Box_down 48 49 (1 : Int32) (.iconst 1) 1 := ⟨by decide +kernel, rfl, show Int32.ofInt 1 = (1 : Int32) by decide +kernel⟩
theorem d_Box_down_52 : ob_dc k_Box_down 52 (.ireturn) 1 53 := ⟨by decide +kernel, rfl⟩
theorem d_Box_down_49 : ob_dc k_Box_down 49 (.invokevirtual 107) 3 52 := ⟨by decide +kernel, rfl⟩
theorem d_Box_down_47 : ob_dv ob_lc k_Box_down 47 48 2 (.iload_n 2) 1 := ⟨by decide +kernel, rfl, rfl⟩
theorem d_Box_down_46 : ob_dc k_Box_down 46 (.aaload) 1 47 := ⟨by decide +kernel, rfl⟩
theorem d_Box_down_45 : ob_dv ob_lc k_Box_down 45 46 1 (.iload_n 1) 1 := ⟨by decide +kernel, rfl, rfl⟩
theorem d_Box_down_42 : ob_dc k_Box_down 42 (.getfield 172) 3 45 := ⟨by decide +kernel, rfl⟩
theorem d_Box_down_39 : ob_dc k_Box_down 39 (.getfield 69) 3 42 := ⟨by decide +kernel, rfl⟩
theorem d_Box_down_38 : ob_dv ob_ac k_Box_down 38 39 0 (.aload_n 0) 1 := ⟨by decide +kernel, rfl, rfl⟩
theorem d_Box_down_27 : ob_db k_Box_down 27 (.if_icmp .lt 11) 11 30 38 := ⟨by decide +kernel, rfl, by decide⟩
theorem d_Box_down_24 : ob_dc k_Box_down 24 (.getfield 166) 3 27 := ⟨by decide +kernel, rfl⟩
theorem d_Box_down_21 : ob_dc k_Box_down 21 (.getfield 69) 3 24 := ⟨by decide +kernel, rfl⟩
theorem d_Box_down_20 : ob_dv ob_ac k_Box_down 20 21 0 (.aload_n 0) 1 := ⟨by decide +kernel, rfl, rfl⟩
theorem d_Box_down_19 : ob_dv ob_lc k_Box_down 19 20 2 (.iload_n 2) 1 := ⟨by decide +kernel, rfl, rfl⟩
theorem d_Box_down_16 : ob_db k_Box_down 16 (.ifCond .lt 14) 14 19 30 := ⟨by decide +kernel, rfl, by decide⟩
theorem d_Box_down_15 : ob_dv ob_lc k_Box_down 15 16 2 (.iload_n 2) 1 := ⟨by decide +kernel, rfl, rfl⟩
theorem d_Box_down_12 : ob_db k_Box_down 12 (.if_icmp .ge 18) 18 15 30 := ⟨by decide +kernel, rfl, by decide⟩
theorem d_Box_down_9 : ob_dc k_Box_down 9 (.getfield 163) 3 12 := ⟨by decide +kernel, rfl⟩
theorem d_Box_down_6 : ob_dc k_Box_down 6 (.getfield 69) 3 9 := ⟨by decide +kernel, rfl⟩
theorem d_Box_down_5 : ob_dv ob_ac k_Box_down 5 6 0 (.aload_n 0) 1 := ⟨by decide +kernel, rfl, rfl⟩
theorem d_Box_down_4 : ob_dv ob_lc k_Box_down 4 5 1 (.iload_n 1) 1 := ⟨by decide +kernel, rfl, rfl⟩
theorem d_Box_down_1 : ob_db k_Box_down 1 (.ifCond .lt 29) 29 4 30 := ⟨by decide +kernel, rfl, by decide⟩
theorem d_Box_down_0 : ob_dv ob_lc k_Box_down 0 1 1 (.iload_n 1) 1 := ⟨by decide +kernel, rfl, rfl⟩
theorem d_Box_down_30 : ob_dc k_Box_down 30 (.new 169) 3 33 := ⟨by decide +kernel, rfl⟩
theorem d_Box_down_33 : ob_dc k_Box_down 33 (.dup) 1 34 := ⟨by decide +kernel, rfl⟩
theorem dx_Box_down_34 : decode k_Box_down.2.2.1 34 = .ok (.invokespecial 171, 3) := by decide +kernel
theorem dx_Box_down_37 : decode k_Box_down.2.2.1 37 = .ok (.athrow, 1) := by decide +kernel
theorem c_Box_down_107 : ob_vd k_Box_down k_Row_number 107 2 1 := ⟨cw_Row_number, yd_Row_number, w_478, w_479, w_480, w_2, ⟨_, _, rfl⟩, by decide, by decide⟩
def f_Box_down (S : ob_S) (v0 : Nat) (v1 : Int32) (v2 : Int32) (D : ob_D) : Option (Int32 × ob_D) :=
  (if v1 < 0 then none else if D.2.1 v0 7 ≠ 0 then (if (D.1 (D.2.1 v0 7) 6) ≤ v1 then none else (if v2 < 0 then none else if D.2.1 v0 7 ≠ 0 then (if v2 < (D.1 (D.2.1 v0 7) 3) then if D.2.1 v0 7 ≠ 0 then if D.2.1 (D.2.1 v0 7) 2 ≠ 0 then if ob_in v1 (S.2.1 (D.2.1 (D.2.1 v0 7) 2)) then if D.2.1 (D.2.1 (D.2.1 v0 7) 2) v1.toNatClampNeg ≠ 0 then ob_bd (f_Row_number S (D.2.1 (D.2.1 (D.2.1 v0 7) 2) v1.toNatClampNeg) v2 (1 : Int32) D) fun x14 D12 => some (x14, D12) else none else none else none else none else none) else none)) else none)
theorem c_Box_down {l : Launch} {E : ob_E} {S : ob_S} {D : ob_D} {v0 : Nat} {v1 : Int32} {v2 : Int32} {r : Int32} {D' : ob_D} (hp_v0 : S.1 v0 = 1) (h : f_Box_down S v0 v1 v2 D = some (r, D')) : ob_M l E k_Box_down [.ref v0, .int v1, .int v2] S D (some (.int r)) S D' := by
  refine ob_ofV (lo := [(0, .ref v0), (1, .int v1), (2, .int v2)]) (by decide) rfl (Nat.le_of_ble_eq_true rfl) rfl (Nat.le_refl _) (Nat.le_refl _) ?_
  rw [f_Box_down] at h
  refine ob_iload d_Box_down_0 rfl ?_
  refine ob_if_lt d_Box_down_1 (fun hc => ?_) (fun hc => ?_)
  · replace h := ob_ift hc h
    cases h
  · replace h := ob_iff hc h
    refine ob_iload d_Box_down_4 rfl ?_
    refine ob_aload d_Box_down_5 rfl ?_
    obtain ⟨hg2, h⟩ := ob_gd h
    refine ob_getR d_Box_down_6 F_0_7 l_Box_69 hp_v0 hg2 (fun hk1 => ?_)
    refine ob_getI d_Box_down_9 F_9_6 l_Box_163 hk1 ?_
    refine ob_icmp_ge d_Box_down_12 (fun hc => ?_) (fun hc => ?_)
    · replace h := ob_ift hc h
      cases h
    · replace h := ob_iff hc h
      refine ob_iload d_Box_down_15 rfl ?_
      refine ob_if_lt d_Box_down_16 (fun hc => ?_) (fun hc => ?_)
      · replace h := ob_ift hc h
        cases h
      · replace h := ob_iff hc h
        refine ob_iload d_Box_down_19 rfl ?_
        refine ob_aload d_Box_down_20 rfl ?_
        obtain ⟨hg4, h⟩ := ob_gd h
        refine ob_getR d_Box_down_21 F_0_7 l_Box_69 hp_v0 hg4 (fun hk3 => ?_)
        refine ob_getI d_Box_down_24 F_9_3 l_Box_166 hk3 ?_
        refine ob_icmp_lt d_Box_down_27 (fun hc => ?_) (fun hc => ?_)
        · replace h := ob_ift hc h
          refine ob_aload d_Box_down_38 rfl ?_
          obtain ⟨hg6, h⟩ := ob_gd h
          refine ob_getR d_Box_down_39 F_0_7 l_Box_69 hp_v0 hg6 (fun hk5 => ?_)
          obtain ⟨hg8, h⟩ := ob_gd h
          refine ob_getR d_Box_down_42 F_9_2 l_Box_172 hk5 hg8 (fun hk7 => ?_)
          refine ob_iload d_Box_down_45 rfl ?_
          obtain ⟨hg9, h⟩ := ob_gd h
          obtain ⟨hz10, h⟩ := ob_gd h
          refine ob_aald (j := 4) (t := 1) d_Box_down_46 hk7 (by decide) rfl rfl rfl hg9 hz10 rfl (fun hk11 => ?_)
          refine ob_iload d_Box_down_47 rfl ?_
          refine ob_push d_Box_down_48 ?_
          obtain ⟨x14, D12, h13, h⟩ := ob_bd_e h
          refine ob_callVi (As := [.int v2, .int (1 : Int32)]) (rest := []) d_Box_down_49 c_Box_down_107 hk11 rfl rfl (Nat.le_of_ble_eq_true rfl) (c_Row_number hk11 h13) ⟨Nat.le_refl _, Nat.le_refl _⟩ ⟨Nat.le_refl _, Nat.le_refl _⟩ ?_
          exact ob_ie h (ob_iret d_Box_down_52 rfl rfl)
        · replace h := ob_iff hc h
          cases h
def th_Box_down (S : ob_S) (v0 : Nat) (v1 : Int32) (v2 : Int32) (D : ob_D) : Option Unit :=
  (if v1 < 0 then some () else if D.2.1 v0 7 ≠ 0 then (if (D.1 (D.2.1 v0 7) 6) ≤ v1 then some () else (if v2 < 0 then some () else if D.2.1 v0 7 ≠ 0 then (if v2 < (D.1 (D.2.1 v0 7) 3) then if D.2.1 v0 7 ≠ 0 then if D.2.1 (D.2.1 v0 7) 2 ≠ 0 then none else none else none else some ()) else none)) else none)
theorem t_Box_down {l : Launch} {E : ob_E} {S : ob_S} {D : ob_D} {v0 : Nat} {v1 : Int32} {v2 : Int32} (hl0 : ob_nt l) (hp_v0 : S.1 v0 = 1) (h : th_Box_down S v0 v1 v2 D = some ()) : ob_MT l E k_Box_down [.ref v0, .int v1, .int v2] S D := by
  refine ob_ofG0 (lo := [(0, .ref v0), (1, .int v1), (2, .int v2)]) (by decide) rfl (Nat.le_of_ble_eq_true rfl) rfl ?_
  rw [th_Box_down] at h
  refine ob_iload0 d_Box_down_0 rfl ?_
  refine ob_if_lt0 d_Box_down_1 (fun hc => ?_) (fun hc => ?_)
  · replace h := ob_ift hc h
    exact ob_throw hl0 d_Box_down_30 d_Box_down_33 dx_Box_down_34 dx_Box_down_37 rfl w_999 ob_nseI w_20 cw_Box_down (by decide) (by decide)
  · replace h := ob_iff hc h
    refine ob_iload0 d_Box_down_4 rfl ?_
    refine ob_aload0 d_Box_down_5 rfl ?_
    obtain ⟨hg2, h⟩ := ob_gd h
    refine ob_getR0 d_Box_down_6 F_0_7 l_Box_69 hp_v0 hg2 (fun hk1 => ?_)
    refine ob_getI0 d_Box_down_9 F_9_6 l_Box_163 hk1 ?_
    refine ob_icmp_ge0 d_Box_down_12 (fun hc => ?_) (fun hc => ?_)
    · replace h := ob_ift hc h
      exact ob_throw hl0 d_Box_down_30 d_Box_down_33 dx_Box_down_34 dx_Box_down_37 rfl w_999 ob_nseI w_20 cw_Box_down (by decide) (by decide)
    · replace h := ob_iff hc h
      refine ob_iload0 d_Box_down_15 rfl ?_
      refine ob_if_lt0 d_Box_down_16 (fun hc => ?_) (fun hc => ?_)
      · replace h := ob_ift hc h
        exact ob_throw hl0 d_Box_down_30 d_Box_down_33 dx_Box_down_34 dx_Box_down_37 rfl w_999 ob_nseI w_20 cw_Box_down (by decide) (by decide)
      · replace h := ob_iff hc h
        refine ob_iload0 d_Box_down_19 rfl ?_
        refine ob_aload0 d_Box_down_20 rfl ?_
        obtain ⟨hg4, h⟩ := ob_gd h
        refine ob_getR0 d_Box_down_21 F_0_7 l_Box_69 hp_v0 hg4 (fun hk3 => ?_)
        refine ob_getI0 d_Box_down_24 F_9_3 l_Box_166 hk3 ?_
        refine ob_icmp_lt0 d_Box_down_27 (fun hc => ?_) (fun hc => ?_)
        · replace h := ob_ift hc h
          refine ob_aload0 d_Box_down_38 rfl ?_
          obtain ⟨hg6, h⟩ := ob_gd h
          refine ob_getR0 d_Box_down_39 F_0_7 l_Box_69 hp_v0 hg6 (fun hk5 => ?_)
          obtain ⟨hg8, h⟩ := ob_gd h
          refine ob_getR0 d_Box_down_42 F_9_2 l_Box_172 hk5 hg8 (fun hk7 => ?_)
          refine ob_iload0 d_Box_down_45 rfl ?_
          cases h
        · replace h := ob_iff hc h
          exact ob_throw hl0 d_Box_down_30 d_Box_down_33 dx_Box_down_34 dx_Box_down_37 rfl w_999 ob_nseI w_20 cw_Box_down (by decide) (by decide)
-- OrbitBox.value(I)I
theorem d_Box_value_5 : ob_dk k_Box_value 5 7 (32 : Int32) (.bipush 32) 2 := ⟨by decide +kernel, rfl, show (Int8.ofInt 32).toInt32 = (32 : Int32) by decide +kernel⟩
theorem d_Box_value_26 : ob_dc k_Box_value 26 (.ireturn) 1 27 := ⟨by decide +kernel, rfl⟩
theorem d_Box_value_23 : ob_dc k_Box_value 23 (.invokevirtual 176) 3 26 := ⟨by decide +kernel, rfl⟩
theorem d_Box_value_22 : ob_dv ob_lc k_Box_value 22 23 1 (.iload_n 1) 1 := ⟨by decide +kernel, rfl, rfl⟩
theorem d_Box_value_19 : ob_dc k_Box_value 19 (.getfield 91) 3 22 := ⟨by decide +kernel, rfl⟩
theorem d_Box_value_18 : ob_dv ob_ac k_Box_value 18 19 0 (.aload_n 0) 1 := ⟨by decide +kernel, rfl, rfl⟩
theorem d_Box_value_7 : ob_db k_Box_value 7 (.if_icmp .lt 11) 11 10 18 := ⟨by decide +kernel, rfl, by decide⟩
theorem d_Box_value_4 : ob_dv ob_lc k_Box_value 4 5 1 (.iload_n 1) 1 := ⟨by decide +kernel, rfl, rfl⟩
theorem d_Box_value_1 : ob_db k_Box_value 1 (.ifCond .lt 9) 9 4 10 := ⟨by decide +kernel, rfl, by decide⟩
theorem d_Box_value_0 : ob_dv ob_lc k_Box_value 0 1 1 (.iload_n 1) 1 := ⟨by decide +kernel, rfl, rfl⟩
theorem d_Box_value_10 : ob_dc k_Box_value 10 (.new 169) 3 13 := ⟨by decide +kernel, rfl⟩
theorem d_Box_value_13 : ob_dc k_Box_value 13 (.dup) 1 14 := ⟨by decide +kernel, rfl⟩
theorem dx_Box_value_14 : decode k_Box_value.2.2.1 14 = .ok (.invokespecial 171, 3) := by decide +kernel
theorem dx_Box_value_17 : decode k_Box_value.2.2.1 17 = .ok (.athrow, 1) := by decide +kernel
theorem c_Box_value_176 : ob_vd k_Box_value k_Craft_read 176 1 10 := ⟨cw_Craft_read, yd_Craft_read, w_1067, w_763, w_764, w_12, ⟨_, _, rfl⟩, by decide, by decide⟩
def f_Box_value (S : ob_S) (v0 : Nat) (v1 : Int32) (D : ob_D) : Option (Int32 × ob_D) :=
  (if v1 < 0 then none else (if v1 < (32 : Int32) then if D.2.1 v0 9 ≠ 0 then ob_bd (f_Craft_read S (D.2.1 v0 9) v1 D) fun x5 D3 => some (x5, D3) else none else none))
theorem c_Box_value {l : Launch} {E : ob_E} {S : ob_S} {D : ob_D} {v0 : Nat} {v1 : Int32} {r : Int32} {D' : ob_D} (hp_v0 : S.1 v0 = 1) (h : f_Box_value S v0 v1 D = some (r, D')) : ob_M l E k_Box_value [.ref v0, .int v1] S D (some (.int r)) S D' := by
  refine ob_ofV (lo := [(0, .ref v0), (1, .int v1)]) (by decide) rfl (Nat.le_of_ble_eq_true rfl) rfl (Nat.le_refl _) (Nat.le_refl _) ?_
  rw [f_Box_value] at h
  refine ob_iload d_Box_value_0 rfl ?_
  refine ob_if_lt d_Box_value_1 (fun hc => ?_) (fun hc => ?_)
  · replace h := ob_ift hc h
    cases h
  · replace h := ob_iff hc h
    refine ob_iload d_Box_value_4 rfl ?_
    refine ob_push d_Box_value_5 ?_
    refine ob_icmp_lt d_Box_value_7 (fun hc => ?_) (fun hc => ?_)
    · replace h := ob_ift hc h
      refine ob_aload d_Box_value_18 rfl ?_
      obtain ⟨hg2, h⟩ := ob_gd h
      refine ob_getR d_Box_value_19 F_0_9 l_Box_91 hp_v0 hg2 (fun hk1 => ?_)
      refine ob_iload d_Box_value_22 rfl ?_
      obtain ⟨x5, D3, h4, h⟩ := ob_bd_e h
      refine ob_callVi (As := [.int v1]) (rest := []) d_Box_value_23 c_Box_value_176 hk1 rfl rfl (Nat.le_of_ble_eq_true rfl) (c_Craft_read hk1 h4) ⟨Nat.le_refl _, Nat.le_refl _⟩ ⟨Nat.le_refl _, Nat.le_refl _⟩ ?_
      exact ob_ie h (ob_iret d_Box_value_26 rfl rfl)
    · replace h := ob_iff hc h
      cases h
def th_Box_value (S : ob_S) (v0 : Nat) (v1 : Int32) (D : ob_D) : Option Unit :=
  (if v1 < 0 then some () else (if v1 < (32 : Int32) then if D.2.1 v0 9 ≠ 0 then none else none else some ()))
theorem t_Box_value {l : Launch} {E : ob_E} {S : ob_S} {D : ob_D} {v0 : Nat} {v1 : Int32} (hl0 : ob_nt l) (hp_v0 : S.1 v0 = 1) (h : th_Box_value S v0 v1 D = some ()) : ob_MT l E k_Box_value [.ref v0, .int v1] S D := by
  refine ob_ofG0 (lo := [(0, .ref v0), (1, .int v1)]) (by decide) rfl (Nat.le_of_ble_eq_true rfl) rfl ?_
  rw [th_Box_value] at h
  refine ob_iload0 d_Box_value_0 rfl ?_
  refine ob_if_lt0 d_Box_value_1 (fun hc => ?_) (fun hc => ?_)
  · replace h := ob_ift hc h
    exact ob_throw hl0 d_Box_value_10 d_Box_value_13 dx_Box_value_14 dx_Box_value_17 rfl w_999 ob_nseI w_20 cw_Box_value (by decide) (by decide)
  · replace h := ob_iff hc h
    refine ob_iload0 d_Box_value_4 rfl ?_
    refine ob_push0 d_Box_value_5 ?_
    refine ob_icmp_lt0 d_Box_value_7 (fun hc => ?_) (fun hc => ?_)
    · replace h := ob_ift hc h
      refine ob_aload0 d_Box_value_18 rfl ?_
      obtain ⟨hg2, h⟩ := ob_gd h
      refine ob_getR0 d_Box_value_19 F_0_9 l_Box_91 hp_v0 hg2 (fun hk1 => ?_)
      refine ob_iload0 d_Box_value_22 rfl ?_
      cases h
    · replace h := ob_iff hc h
      exact ob_throw hl0 d_Box_value_10 d_Box_value_13 dx_Box_value_14 dx_Box_value_17 rfl w_999 ob_nseI w_20 cw_Box_value (by decide) (by decide)
-- OrbitBox.entry(II)I
theorem d_Box_entry_20 : ob_dk k_Box_entry 20 21 (2 : Int32) (.iconst 2) 1 := ⟨by decide +kernel, rfl, show Int32.ofInt 2 = (2 : Int32) by decide +kernel⟩
theorem d_Box_entry_47 : ob_dk k_Box_entry 47 48 (1 : Int32) (.iconst 1) 1 := ⟨by decide +kernel, rfl, show Int32.ofInt 1 = (1 : Int32) by decide +kernel⟩
theorem d_Box_entry_71 : ob_dk k_Box_entry 71 73 (7 : Int32) (.bipush 7) 2 := ⟨by decide +kernel, rfl, show (Int8.ofInt 7).toInt32 = (7 : Int32) by decide +kernel⟩
theorem d_Box_entry_73 : ob_dk k_Box_entry 73 74 (2 : Int32) (.iconst 2) 1 := ⟨by decide +kernel, rfl, show Int32.ofInt 2 = (2 : Int32) by decide +kernel⟩
theorem d_Box_entry_77 : ob_dc k_Box_entry 77 (.ireturn) 1 78 := ⟨by decide +kernel, rfl⟩
theorem d_Box_entry_74 : ob_dc k_Box_entry 74 (.invokevirtual 107) 3 77 := ⟨by decide +kernel, rfl⟩
theorem d_Box_entry_70 : ob_dc k_Box_entry 70 (.aaload) 1 71 := ⟨by decide +kernel, rfl⟩
theorem d_Box_entry_69 : ob_dv ob_lc k_Box_entry 69 70 1 (.iload_n 1) 1 := ⟨by decide +kernel, rfl, rfl⟩
theorem d_Box_entry_66 : ob_dc k_Box_entry 66 (.getfield 188) 3 69 := ⟨by decide +kernel, rfl⟩
theorem d_Box_entry_63 : ob_dc k_Box_entry 63 (.getfield 46) 3 66 := ⟨by decide +kernel, rfl⟩
theorem d_Box_entry_62 : ob_dv ob_ac k_Box_entry 62 63 0 (.aload_n 0) 1 := ⟨by decide +kernel, rfl, rfl⟩
theorem d_Box_entry_59 : ob_db k_Box_entry 59 (.goto 18) 18 62 77 := ⟨by decide +kernel, rfl, by decide⟩
theorem d_Box_entry_56 : ob_dc k_Box_entry 56 (.invokevirtual 185) 3 59 := ⟨by decide +kernel, rfl⟩
theorem d_Box_entry_55 : ob_dv ob_lc k_Box_entry 55 56 1 (.iload_n 1) 1 := ⟨by decide +kernel, rfl, rfl⟩
theorem d_Box_entry_52 : ob_dc k_Box_entry 52 (.getfield 46) 3 55 := ⟨by decide +kernel, rfl⟩
theorem d_Box_entry_51 : ob_dv ob_ac k_Box_entry 51 52 0 (.aload_n 0) 1 := ⟨by decide +kernel, rfl, rfl⟩
theorem d_Box_entry_48 : ob_db k_Box_entry 48 (.if_icmp .ne 14) 14 51 62 := ⟨by decide +kernel, rfl, by decide⟩
theorem d_Box_entry_46 : ob_dv ob_lc k_Box_entry 46 47 2 (.iload_n 2) 1 := ⟨by decide +kernel, rfl, rfl⟩
theorem d_Box_entry_45 : ob_dc k_Box_entry 45 (.ireturn) 1 46 := ⟨by decide +kernel, rfl⟩
theorem d_Box_entry_44 : ob_dc k_Box_entry 44 (.iaload) 1 45 := ⟨by decide +kernel, rfl⟩
theorem d_Box_entry_43 : ob_dv ob_lc k_Box_entry 43 44 1 (.iload_n 1) 1 := ⟨by decide +kernel, rfl, rfl⟩
theorem d_Box_entry_40 : ob_dc k_Box_entry 40 (.getfield 182) 3 43 := ⟨by decide +kernel, rfl⟩
theorem d_Box_entry_37 : ob_dc k_Box_entry 37 (.getfield 46) 3 40 := ⟨by decide +kernel, rfl⟩
theorem d_Box_entry_36 : ob_dv ob_ac k_Box_entry 36 37 0 (.aload_n 0) 1 := ⟨by decide +kernel, rfl, rfl⟩
theorem d_Box_entry_33 : ob_db k_Box_entry 33 (.ifCond .ne 13) 13 36 46 := ⟨by decide +kernel, rfl, by decide⟩
theorem d_Box_entry_32 : ob_dv ob_lc k_Box_entry 32 33 2 (.iload_n 2) 1 := ⟨by decide +kernel, rfl, rfl⟩
theorem d_Box_entry_21 : ob_db k_Box_entry 21 (.if_icmp .le 11) 11 24 32 := ⟨by decide +kernel, rfl, by decide⟩
theorem d_Box_entry_19 : ob_dv ob_lc k_Box_entry 19 20 2 (.iload_n 2) 1 := ⟨by decide +kernel, rfl, rfl⟩
theorem d_Box_entry_16 : ob_db k_Box_entry 16 (.ifCond .lt 8) 8 19 24 := ⟨by decide +kernel, rfl, by decide⟩
theorem d_Box_entry_15 : ob_dv ob_lc k_Box_entry 15 16 2 (.iload_n 2) 1 := ⟨by decide +kernel, rfl, rfl⟩
theorem d_Box_entry_12 : ob_db k_Box_entry 12 (.if_icmp .ge 12) 12 15 24 := ⟨by decide +kernel, rfl, by decide⟩
theorem d_Box_entry_9 : ob_dc k_Box_entry 9 (.getfield 179) 3 12 := ⟨by decide +kernel, rfl⟩
theorem d_Box_entry_6 : ob_dc k_Box_entry 6 (.getfield 46) 3 9 := ⟨by decide +kernel, rfl⟩
theorem d_Box_entry_5 : ob_dv ob_ac k_Box_entry 5 6 0 (.aload_n 0) 1 := ⟨by decide +kernel, rfl, rfl⟩
theorem d_Box_entry_4 : ob_dv ob_lc k_Box_entry 4 5 1 (.iload_n 1) 1 := ⟨by decide +kernel, rfl, rfl⟩
theorem d_Box_entry_1 : ob_db k_Box_entry 1 (.ifCond .lt 23) 23 4 24 := ⟨by decide +kernel, rfl, by decide⟩
theorem d_Box_entry_0 : ob_dv ob_lc k_Box_entry 0 1 1 (.iload_n 1) 1 := ⟨by decide +kernel, rfl, rfl⟩
theorem d_Box_entry_24 : ob_dc k_Box_entry 24 (.new 169) 3 27 := ⟨by decide +kernel, rfl⟩
theorem d_Box_entry_27 : ob_dc k_Box_entry 27 (.dup) 1 28 := ⟨by decide +kernel, rfl⟩
theorem dx_Box_entry_28 : decode k_Box_entry.2.2.1 28 = .ok (.invokespecial 171, 3) := by decide +kernel
theorem dx_Box_entry_31 : decode k_Box_entry.2.2.1 31 = .ok (.athrow, 1) := by decide +kernel
theorem c_Box_entry_107 : ob_vd k_Box_entry k_Row_number 107 2 1 := ⟨cw_Row_number, yd_Row_number, w_478, w_479, w_480, w_2, ⟨_, _, rfl⟩, by decide, by decide⟩
theorem c_Box_entry_185 : ob_vd k_Box_entry k_Timetable_numberOf 185 1 5 := ⟨cw_Timetable_numberOf, yd_Timetable_numberOf, w_1075, w_715, w_716, w_5, ⟨_, _, rfl⟩, by decide, by decide⟩
def f_Box_entry (S : ob_S) (v0 : Nat) (v1 : Int32) (v2 : Int32) (D : ob_D) : Option (Int32 × ob_D) :=
  (if v1 < 0 then none else if D.2.1 v0 4 ≠ 0 then (if (D.1 (D.2.1 v0 4) 2) ≤ v1 then none else (if v2 < 0 then none else (if v2 ≤ (2 : Int32) then (if v2 = 0 then if D.2.1 v0 4 ≠ 0 then if D.2.1 (D.2.1 v0 4) 0 ≠ 0 then if ob_in v1 (S.2.1 (D.2.1 (D.2.1 v0 4) 0)) then some (D.1 (D.2.1 (D.2.1 v0 4) 0) v1.toNatClampNeg, D) else none else none else none else (if v2 = (1 : Int32) then if D.2.1 v0 4 ≠ 0 then ob_bd (f_Timetable_numberOf S (D.2.1 v0 4) v1 D) fun x17 D15 => some (x17, D15) else none else if D.2.1 v0 4 ≠ 0 then if D.2.1 (D.2.1 v0 4) 1 ≠ 0 then if ob_in v1 (S.2.1 (D.2.1 (D.2.1 v0 4) 1)) then if D.2.1 (D.2.1 (D.2.1 v0 4) 1) v1.toNatClampNeg ≠ 0 then ob_bd (f_Row_number S (D.2.1 (D.2.1 (D.2.1 v0 4) 1) v1.toNatClampNeg) (7 : Int32) (2 : Int32) D) fun x12 D10 => some (x12, D10) else none else none else none else none)) else none))) else none)
theorem c_Box_entry {l : Launch} {E : ob_E} {S : ob_S} {D : ob_D} {v0 : Nat} {v1 : Int32} {v2 : Int32} {r : Int32} {D' : ob_D} (hp_v0 : S.1 v0 = 1) (h : f_Box_entry S v0 v1 v2 D = some (r, D')) : ob_M l E k_Box_entry [.ref v0, .int v1, .int v2] S D (some (.int r)) S D' := by
  refine ob_ofV (lo := [(0, .ref v0), (1, .int v1), (2, .int v2)]) (by decide) rfl (Nat.le_of_ble_eq_true rfl) rfl (Nat.le_refl _) (Nat.le_refl _) ?_
  rw [f_Box_entry] at h
  refine ob_iload d_Box_entry_0 rfl ?_
  refine ob_if_lt d_Box_entry_1 (fun hc => ?_) (fun hc => ?_)
  · replace h := ob_ift hc h
    cases h
  · replace h := ob_iff hc h
    refine ob_iload d_Box_entry_4 rfl ?_
    refine ob_aload d_Box_entry_5 rfl ?_
    obtain ⟨hg2, h⟩ := ob_gd h
    refine ob_getR d_Box_entry_6 F_0_4 l_Box_46 hp_v0 hg2 (fun hk1 => ?_)
    refine ob_getI d_Box_entry_9 F_5_2 l_Box_179 hk1 ?_
    refine ob_icmp_ge d_Box_entry_12 (fun hc => ?_) (fun hc => ?_)
    · replace h := ob_ift hc h
      cases h
    · replace h := ob_iff hc h
      refine ob_iload d_Box_entry_15 rfl ?_
      refine ob_if_lt d_Box_entry_16 (fun hc => ?_) (fun hc => ?_)
      · replace h := ob_ift hc h
        cases h
      · replace h := ob_iff hc h
        refine ob_iload d_Box_entry_19 rfl ?_
        refine ob_push d_Box_entry_20 ?_
        refine ob_icmp_le d_Box_entry_21 (fun hc => ?_) (fun hc => ?_)
        · replace h := ob_ift hc h
          refine ob_iload d_Box_entry_32 rfl ?_
          refine ob_if_ne d_Box_entry_33 (fun hc => ?_) (fun hc => ?_)
          · replace h := ob_iff hc h
            refine ob_iload d_Box_entry_46 rfl ?_
            refine ob_push d_Box_entry_47 ?_
            refine ob_icmp_ne d_Box_entry_48 (fun hc => ?_) (fun hc => ?_)
            · replace h := ob_iff hc h
              refine ob_aload d_Box_entry_62 rfl ?_
              obtain ⟨hg4, h⟩ := ob_gd h
              refine ob_getR d_Box_entry_63 F_0_4 l_Box_46 hp_v0 hg4 (fun hk3 => ?_)
              obtain ⟨hg6, h⟩ := ob_gd h
              refine ob_getR d_Box_entry_66 F_5_1 l_Box_188 hk3 hg6 (fun hk5 => ?_)
              refine ob_iload d_Box_entry_69 rfl ?_
              obtain ⟨hg7, h⟩ := ob_gd h
              obtain ⟨hz8, h⟩ := ob_gd h
              refine ob_aald (j := 4) (t := 1) d_Box_entry_70 hk5 (by decide) rfl rfl rfl hg7 hz8 rfl (fun hk9 => ?_)
              refine ob_push d_Box_entry_71 ?_
              refine ob_push d_Box_entry_73 ?_
              obtain ⟨x12, D10, h11, h⟩ := ob_bd_e h
              refine ob_callVi (As := [.int (7 : Int32), .int (2 : Int32)]) (rest := []) d_Box_entry_74 c_Box_entry_107 hk9 rfl rfl (Nat.le_of_ble_eq_true rfl) (c_Row_number hk9 h11) ⟨Nat.le_refl _, Nat.le_refl _⟩ ⟨Nat.le_refl _, Nat.le_refl _⟩ ?_
              exact ob_ie h (ob_iret d_Box_entry_77 rfl rfl)
            · replace h := ob_ift hc h
              refine ob_aload d_Box_entry_51 rfl ?_
              obtain ⟨hg14, h⟩ := ob_gd h
              refine ob_getR d_Box_entry_52 F_0_4 l_Box_46 hp_v0 hg14 (fun hk13 => ?_)
              refine ob_iload d_Box_entry_55 rfl ?_
              obtain ⟨x17, D15, h16, h⟩ := ob_bd_e h
              refine ob_callVi (As := [.int v1]) (rest := []) d_Box_entry_56 c_Box_entry_185 hk13 rfl rfl (Nat.le_of_ble_eq_true rfl) (c_Timetable_numberOf hk13 h16) ⟨Nat.le_refl _, Nat.le_refl _⟩ ⟨Nat.le_refl _, Nat.le_refl _⟩ ?_
              refine ob_goto d_Box_entry_59 ?_
              exact ob_ie h (ob_iret d_Box_entry_77 rfl rfl)
          · replace h := ob_ift hc h
            refine ob_aload d_Box_entry_36 rfl ?_
            obtain ⟨hg19, h⟩ := ob_gd h
            refine ob_getR d_Box_entry_37 F_0_4 l_Box_46 hp_v0 hg19 (fun hk18 => ?_)
            obtain ⟨hg21, h⟩ := ob_gd h
            refine ob_getR d_Box_entry_40 F_5_0 l_Box_182 hk18 hg21 (fun hk20 => ?_)
            refine ob_iload d_Box_entry_43 rfl ?_
            obtain ⟨hg22, h⟩ := ob_gd h
            refine ob_iald d_Box_entry_44 hk20 hg22 ?_
            exact ob_ie h (ob_iret d_Box_entry_45 rfl rfl)
        · replace h := ob_iff hc h
          cases h
def th_Box_entry (S : ob_S) (v0 : Nat) (v1 : Int32) (v2 : Int32) (D : ob_D) : Option Unit :=
  (if v1 < 0 then some () else if D.2.1 v0 4 ≠ 0 then (if (D.1 (D.2.1 v0 4) 2) ≤ v1 then some () else (if v2 < 0 then some () else (if v2 ≤ (2 : Int32) then none else some ()))) else none)
theorem t_Box_entry {l : Launch} {E : ob_E} {S : ob_S} {D : ob_D} {v0 : Nat} {v1 : Int32} {v2 : Int32} (hl0 : ob_nt l) (hp_v0 : S.1 v0 = 1) (h : th_Box_entry S v0 v1 v2 D = some ()) : ob_MT l E k_Box_entry [.ref v0, .int v1, .int v2] S D := by
  refine ob_ofG0 (lo := [(0, .ref v0), (1, .int v1), (2, .int v2)]) (by decide) rfl (Nat.le_of_ble_eq_true rfl) rfl ?_
  rw [th_Box_entry] at h
  refine ob_iload0 d_Box_entry_0 rfl ?_
  refine ob_if_lt0 d_Box_entry_1 (fun hc => ?_) (fun hc => ?_)
  · replace h := ob_ift hc h
    exact ob_throw hl0 d_Box_entry_24 d_Box_entry_27 dx_Box_entry_28 dx_Box_entry_31 rfl w_999 ob_nseI w_20 cw_Box_entry (by decide) (by decide)
  · replace h := ob_iff hc h
    refine ob_iload0 d_Box_entry_4 rfl ?_
    refine ob_aload0 d_Box_entry_5 rfl ?_
    obtain ⟨hg2, h⟩ := ob_gd h
    refine ob_getR0 d_Box_entry_6 F_0_4 l_Box_46 hp_v0 hg2 (fun hk1 => ?_)
    refine ob_getI0 d_Box_entry_9 F_5_2 l_Box_179 hk1 ?_
    refine ob_icmp_ge0 d_Box_entry_12 (fun hc => ?_) (fun hc => ?_)
    · replace h := ob_ift hc h
      exact ob_throw hl0 d_Box_entry_24 d_Box_entry_27 dx_Box_entry_28 dx_Box_entry_31 rfl w_999 ob_nseI w_20 cw_Box_entry (by decide) (by decide)
    · replace h := ob_iff hc h
      refine ob_iload0 d_Box_entry_15 rfl ?_
      refine ob_if_lt0 d_Box_entry_16 (fun hc => ?_) (fun hc => ?_)
      · replace h := ob_ift hc h
        exact ob_throw hl0 d_Box_entry_24 d_Box_entry_27 dx_Box_entry_28 dx_Box_entry_31 rfl w_999 ob_nseI w_20 cw_Box_entry (by decide) (by decide)
      · replace h := ob_iff hc h
        refine ob_iload0 d_Box_entry_19 rfl ?_
        refine ob_push0 d_Box_entry_20 ?_
        refine ob_icmp_le0 d_Box_entry_21 (fun hc => ?_) (fun hc => ?_)
        · replace h := ob_ift hc h
          refine ob_iload0 d_Box_entry_32 rfl ?_
          cases h
        · replace h := ob_iff hc h
          exact ob_throw hl0 d_Box_entry_24 d_Box_entry_27 dx_Box_entry_28 dx_Box_entry_31 rfl w_999 ob_nseI w_20 cw_Box_entry (by decide) (by decide)
