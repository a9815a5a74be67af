-- OrbitBox$Craft.<init>(ILOrbitBox$Receiver;LOrbitBox$Gate;LOrbitBox$Timetable;LOrbitBox$Events;LOrbitBox$Reports;)V
theorem d_Craft_init_0 : ob_dv ob_ac k_Craft_init 0 1 0 (.aload_n 0) 1 := ⟨by decide +kernel, rfl, rfl⟩
theorem d_Craft_init_1 : ob_dc k_Craft_init 1 (.invokespecial 3) 3 4 := ⟨by decide +kernel, rfl⟩
theorem d_Craft_init_4 : ob_dv ob_ac k_Craft_init 4 5 0 (.aload_n 0) 1 := ⟨by decide +kernel, rfl, rfl⟩
theorem d_Craft_init_5 : ob_dv ob_lc k_Craft_init 5 6 1 (.iload_n 1) 1 := ⟨by decide +kernel, rfl, rfl⟩
theorem d_Craft_init_6 : ob_dc k_Craft_init 6 (.putfield 9) 3 9 := ⟨by decide +kernel, rfl⟩
theorem d_Craft_init_9 : ob_dv ob_ac k_Craft_init 9 10 0 (.aload_n 0) 1 := ⟨by decide +kernel, rfl, rfl⟩
theorem d_Craft_init_10 : ob_dv ob_ac k_Craft_init 10 11 2 (.aload_n 2) 1 := ⟨by decide +kernel, rfl, rfl⟩
theorem d_Craft_init_11 : ob_dc k_Craft_init 11 (.putfield 15) 3 14 := ⟨by decide +kernel, rfl⟩
theorem d_Craft_init_14 : ob_dv ob_ac k_Craft_init 14 15 0 (.aload_n 0) 1 := ⟨by decide +kernel, rfl, rfl⟩
theorem d_Craft_init_15 : ob_dv ob_ac k_Craft_init 15 16 3 (.aload_n 3) 1 := ⟨by decide +kernel, rfl, rfl⟩
theorem d_Craft_init_16 : ob_dc k_Craft_init 16 (.putfield 19) 3 19 := ⟨by decide +kernel, rfl⟩
theorem d_Craft_init_19 : ob_dv ob_ac k_Craft_init 19 20 0 (.aload_n 0) 1 := ⟨by decide +kernel, rfl, rfl⟩
theorem d_Craft_init_20 : ob_dv ob_ac k_Craft_init 20 22 4 (.aload 4) 2 := ⟨by decide +kernel, rfl, rfl⟩
theorem d_Craft_init_22 : ob_dc k_Craft_init 22 (.putfield 23) 3 25 := ⟨by decide +kernel, rfl⟩
theorem d_Craft_init_25 : ob_dv ob_ac k_Craft_init 25 26 0 (.aload_n 0) 1 := ⟨by decide +kernel, rfl, rfl⟩
theorem d_Craft_init_26 : ob_dv ob_ac k_Craft_init 26 28 5 (.aload 5) 2 := ⟨by decide +kernel, rfl, rfl⟩
theorem d_Craft_init_28 : ob_dc k_Craft_init 28 (.putfield 27) 3 31 := ⟨by decide +kernel, rfl⟩
theorem d_Craft_init_31 : ob_dv ob_ac k_Craft_init 31 32 0 (.aload_n 0) 1 := ⟨by decide +kernel, rfl, rfl⟩
theorem d_Craft_init_32 : ob_dv ob_ac k_Craft_init 32 34 6 (.aload 6) 2 := ⟨by decide +kernel, rfl, rfl⟩
theorem d_Craft_init_34 : ob_dc k_Craft_init 34 (.putfield 31) 3 37 := ⟨by decide +kernel, rfl⟩
theorem d_Craft_init_37 : ob_dv ob_ac k_Craft_init 37 38 0 (.aload_n 0) 1 := ⟨by decide +kernel, rfl, rfl⟩
theorem d_Craft_init_38 : ob_dk k_Craft_init 38 40 (16 : Int32) (.bipush 16) 2 := ⟨by decide +kernel, rfl, show (Int8.ofInt 16).toInt32 = (16 : Int32) by decide +kernel⟩
theorem d_Craft_init_40 : ob_dc k_Craft_init 40 (.newarray .int) 2 42 := ⟨by decide +kernel, rfl⟩
theorem d_Craft_init_42 : ob_dc k_Craft_init 42 (.putfield 35) 3 45 := ⟨by decide +kernel, rfl⟩
theorem d_Craft_init_45 : ob_dv ob_ac k_Craft_init 45 46 0 (.aload_n 0) 1 := ⟨by decide +kernel, rfl, rfl⟩
theorem d_Craft_init_46 : ob_dk k_Craft_init 46 47 (1 : Int32) (.iconst 1) 1 := ⟨by decide +kernel, rfl, show Int32.ofInt 1 = (1 : Int32) by decide +kernel⟩
theorem d_Craft_init_47 : ob_dc k_Craft_init 47 (.putfield 39) 3 50 := ⟨by decide +kernel, rfl⟩
theorem d_Craft_init_50 : ob_dv ob_ac k_Craft_init 50 51 0 (.aload_n 0) 1 := ⟨by decide +kernel, rfl, rfl⟩
theorem d_Craft_init_51 : ob_dk k_Craft_init 51 52 (-1 : Int32) (.iconst (-1)) 1 := ⟨by decide +kernel, rfl, show Int32.ofInt (-1) = (-1 : Int32) by decide +kernel⟩
theorem d_Craft_init_52 : ob_dc k_Craft_init 52 (.putfield 42) 3 55 := ⟨by decide +kernel, rfl⟩
theorem d_Craft_init_55 : ob_dc k_Craft_init 55 (.return_) 1 56 := ⟨by decide +kernel, rfl⟩
def f_Craft_init (v0 : Nat) (v1 : Int32) (v2 : Nat) (v3 : Nat) (v4 : Nat) (v5 : Nat) (v6 : Nat) (S : ob_S) (D : ob_D) : Option (ob_S × ob_D) :=
  ob_lt (ob_pI D v0 0 v1) fun D1 => ob_lt (ob_pR D1 v0 1 v2) fun D3 => ob_lt (ob_pR D3 v0 2 v3) fun D5 => ob_lt (ob_pR D5 v0 3 v4) fun D7 => ob_lt (ob_pR D7 v0 4 v5) fun D9 => ob_lt (ob_pR D9 v0 5 v6) fun D11 => ob_gt (¬ (16 : Int32) < 0 ∧ (16 : Int32).toNatClampNeg ≤ 67108864) <| ob_lt (ob_new S 20 (16 : Int32).toNatClampNeg (16 : Int32).toNatClampNeg) fun S13 => ob_lt (ob_z D11 S.2.2.1) fun D14 => ob_lt (ob_pR D14 v0 6 (S.2.2.1)) fun D25 => ob_lt (ob_pI D25 v0 7 (1 : Int32)) fun D27 => ob_lt (ob_pI D27 v0 9 (-1 : Int32)) fun D29 => some (S13, D29)
theorem e_Craft_init {v0 : Nat} {v1 : Int32} {v2 : Nat} {v3 : Nat} {v4 : Nat} {v5 : Nat} {v6 : Nat} {S T : ob_S} {D D' : ob_D} (h : f_Craft_init v0 v1 v2 v3 v4 v5 v6 S D = some (T, D')) : ob_ext S T := by
  rw [f_Craft_init] at h
  obtain ⟨D1, hD2, h⟩ := ob_lt_x h
  obtain ⟨D3, hD4, h⟩ := ob_lt_x h
  obtain ⟨D5, hD6, h⟩ := ob_lt_x h
  obtain ⟨D7, hD8, h⟩ := ob_lt_x h
  obtain ⟨D9, hD10, h⟩ := ob_lt_x h
  obtain ⟨D11, hD12, h⟩ := ob_lt_x h
  obtain ⟨hg17, h⟩ := ob_gt_e h
  obtain ⟨S13, hS15, h⟩ := ob_lt_x h
  obtain ⟨D14, hD16, h⟩ := ob_lt_x h
  obtain ⟨D25, hD26, h⟩ := ob_lt_x h
  obtain ⟨D27, hD28, h⟩ := ob_lt_x h
  obtain ⟨D29, hD30, h⟩ := ob_lt_x h
  obtain ⟨he1, he2⟩ := ob_pe h
  have x_S13 : ob_ext S13 T := ob_ext_eq he1
  have x_S : ob_ext S T := (ob_ext_new hS15).tr x_S13
  exact x_S
theorem c_Craft_init {l : Launch} {E : ob_E} {S T : ob_S} {D D' : ob_D} {v0 : Nat} {v1 : Int32} {v2 : Nat} {v3 : Nat} {v4 : Nat} {v5 : Nat} {v6 : Nat} (hp_v0 : S.1 v0 = 11) (hp_v2 : S.1 v2 = 4) (hp_v3 : S.1 v3 = 5) (hp_v4 : S.1 v4 = 6) (hp_v5 : S.1 v5 = 7) (hp_v6 : S.1 v6 = 9) (h : f_Craft_init v0 v1 v2 v3 v4 v5 v6 S D = some (T, D')) : ob_M l E k_Craft_init [.ref v0, .int v1, .ref v2, .ref v3, .ref v4, .ref v5, .ref v6] S D none T D' := by
  have xx := e_Craft_init h
  refine ob_ofV (lo := [(0, .ref v0), (1, .int v1), (2, .ref v2), (3, .ref v3), (4, .ref v4), (5, .ref v5), (6, .ref v6)]) (by decide) rfl (Nat.le_of_ble_eq_true rfl) rfl xx.1 xx.2.1 ?_
  rw [f_Craft_init] at h
  refine ob_withH fun H0 hH0 => ?_
  have kd_v0 := ob_kdH hH0 hp_v0
  have kd_v2 := ob_kdH hH0 hp_v2
  have kd_v3 := ob_kdH hH0 hp_v3
  have kd_v4 := ob_kdH hH0 hp_v4
  have kd_v5 := ob_kdH hH0 hp_v5
  have kd_v6 := ob_kdH hH0 hp_v6
  obtain ⟨D1, hD2, h⟩ := ob_lt_x h
  obtain ⟨D3, hD4, h⟩ := ob_lt_x h
  obtain ⟨D5, hD6, h⟩ := ob_lt_x h
  obtain ⟨D7, hD8, h⟩ := ob_lt_x h
  obtain ⟨D9, hD10, h⟩ := ob_lt_x h
  obtain ⟨D11, hD12, h⟩ := ob_lt_x h
  obtain ⟨hg17, h⟩ := ob_gt_e h
  obtain ⟨S13, hS15, h⟩ := ob_lt_x h
  obtain ⟨D14, hD16, h⟩ := ob_lt_x h
  obtain ⟨D25, hD26, h⟩ := ob_lt_x h
  obtain ⟨D27, hD28, h⟩ := ob_lt_x h
  obtain ⟨D29, hD30, h⟩ := ob_lt_x h
  obtain ⟨he1, he2⟩ := ob_pe h
  have x_S13 : ob_ext S13 T := ob_ext_eq he1
  have x_S : ob_ext S T := (ob_ext_new hS15).tr x_S13
  refine ob_aload d_Craft_init_0 rfl ?_
  refine ob_objI d_Craft_init_1 w_340 w_27 w_28 (by decide) (Nat.le_of_ble_eq_true rfl) ?_
  refine ob_aload d_Craft_init_4 rfl ?_
  refine ob_iload d_Craft_init_5 rfl ?_
  refine ob_xI hD2 (ob_putFI d_Craft_init_6 F_10_0 w_341 ⟨rfl, rfl⟩ kd_v0.1) ?_
  refine ob_aload d_Craft_init_9 rfl ?_
  refine ob_aload d_Craft_init_10 rfl ?_
  refine ob_xI hD4 (ob_putFR d_Craft_init_11 F_10_1 w_342 ⟨rfl, rfl⟩ (fty := (.object "OrbitBox$Receiver")) (by decide) rfl rfl kd_v0.1 kd_v2.1) ?_
  refine ob_aload d_Craft_init_14 rfl ?_
  refine ob_aload d_Craft_init_15 rfl ?_
  refine ob_xI hD6 (ob_putFR d_Craft_init_16 F_10_2 w_344 ⟨rfl, rfl⟩ (fty := (.object "OrbitBox$Gate")) (by decide) rfl rfl kd_v0.1 kd_v3.1) ?_
  refine ob_aload d_Craft_init_19 rfl ?_
  refine ob_aload d_Craft_init_20 rfl ?_
  refine ob_xI hD8 (ob_putFR d_Craft_init_22 F_10_3 w_346 ⟨rfl, rfl⟩ (fty := (.object "OrbitBox$Timetable")) (by decide) rfl rfl kd_v0.1 kd_v4.1) ?_
  refine ob_aload d_Craft_init_25 rfl ?_
  refine ob_aload d_Craft_init_26 rfl ?_
  refine ob_xI hD10 (ob_putFR d_Craft_init_28 F_10_4 w_348 ⟨rfl, rfl⟩ (fty := (.object "OrbitBox$Events")) (by decide) rfl rfl kd_v0.1 kd_v5.1) ?_
  refine ob_aload d_Craft_init_31 rfl ?_
  refine ob_aload d_Craft_init_32 rfl ?_
  refine ob_xI hD12 (ob_putFR d_Craft_init_34 F_10_5 w_349 ⟨rfl, rfl⟩ (fty := (.object "OrbitBox$Reports")) (by decide) rfl rfl kd_v0.1 kd_v6.1) ?_
  refine ob_aload d_Craft_init_37 rfl ?_
  refine ob_push d_Craft_init_38 ?_
  refine ob_newIx d_Craft_init_40 w_52 hg17 hS15 hD16 x_S13 ?_
  have hk18 := ob_kd_new hS15 kd_v0
  have hk19 := ob_kd_new hS15 kd_v2
  have hk20 := ob_kd_new hS15 kd_v3
  have hk21 := ob_kd_new hS15 kd_v4
  have hk22 := ob_kd_new hS15 kd_v5
  have hk23 := ob_kd_new hS15 kd_v6
  have hk24 : ob_kd S13 S.2.2.1 20 := ob_kd_this hS15 (by decide)
  refine ob_xI hD26 (ob_putFR d_Craft_init_42 F_10_6 w_351 ⟨rfl, rfl⟩ (fty := (.array (.int))) (by decide) rfl rfl hk18.1 hk24.1) ?_
  refine ob_aload d_Craft_init_45 rfl ?_
  refine ob_push d_Craft_init_46 ?_
  refine ob_xI hD28 (ob_putI d_Craft_init_47 F_10_7 l_Craft_39 hk18.1) ?_
  refine ob_aload d_Craft_init_50 rfl ?_
  refine ob_push d_Craft_init_51 ?_
  refine ob_xI hD30 (ob_putI d_Craft_init_52 F_10_9 l_Craft_42 hk18.1) ?_
  exact ob_vee he1 he2 (ob_vret d_Craft_init_55 rfl)
-- OrbitBox$Craft.read(I)I
theorem d_Craft_read_21 : decode k_Craft_read.2.2.1 21 = .ok (.tableswitch 195 16 31 #[79, 84, 89, 97, 105, 113, 121, 129, 137, 145, 150, 155, 163, 171, 182, 190], 79) := by decide +kernel
theorem d_Craft_read_104 : ob_dc k_Craft_read 104 (.ireturn) 1 105 := ⟨by decide +kernel, rfl⟩
theorem d_Craft_read_101 : ob_dc k_Craft_read 101 (.getfield 39) 3 104 := ⟨by decide +kernel, rfl⟩
theorem d_Craft_read_100 : ob_dv ob_ac k_Craft_read 100 101 0 (.aload_n 0) 1 := ⟨by decide +kernel, rfl, rfl⟩
theorem d_Craft_read_109 : ob_dc k_Craft_read 109 (.ireturn) 1 110 := ⟨by decide +kernel, rfl⟩
theorem d_Craft_read_106 : ob_dc k_Craft_read 106 (.getfield 45) 3 109 := ⟨by decide +kernel, rfl⟩
theorem d_Craft_read_105 : ob_dv ob_ac k_Craft_read 105 106 0 (.aload_n 0) 1 := ⟨by decide +kernel, rfl, rfl⟩
theorem d_Craft_read_117 : ob_dc k_Craft_read 117 (.ireturn) 1 118 := ⟨by decide +kernel, rfl⟩
theorem d_Craft_read_114 : ob_dc k_Craft_read 114 (.getfield 48) 3 117 := ⟨by decide +kernel, rfl⟩
theorem d_Craft_read_111 : ob_dc k_Craft_read 111 (.getfield 19) 3 114 := ⟨by decide +kernel, rfl⟩
theorem d_Craft_read_110 : ob_dv ob_ac k_Craft_read 110 111 0 (.aload_n 0) 1 := ⟨by decide +kernel, rfl, rfl⟩
theorem d_Craft_read_125 : ob_dc k_Craft_read 125 (.ireturn) 1 126 := ⟨by decide +kernel, rfl⟩
theorem d_Craft_read_122 : ob_dc k_Craft_read 122 (.getfield 53) 3 125 := ⟨by decide +kernel, rfl⟩
theorem d_Craft_read_119 : ob_dc k_Craft_read 119 (.getfield 19) 3 122 := ⟨by decide +kernel, rfl⟩
theorem d_Craft_read_118 : ob_dv ob_ac k_Craft_read 118 119 0 (.aload_n 0) 1 := ⟨by decide +kernel, rfl, rfl⟩
theorem d_Craft_read_133 : ob_dc k_Craft_read 133 (.ireturn) 1 134 := ⟨by decide +kernel, rfl⟩
theorem d_Craft_read_130 : ob_dc k_Craft_read 130 (.getfield 56) 3 133 := ⟨by decide +kernel, rfl⟩
theorem d_Craft_read_127 : ob_dc k_Craft_read 127 (.getfield 23) 3 130 := ⟨by decide +kernel, rfl⟩
theorem d_Craft_read_126 : ob_dv ob_ac k_Craft_read 126 127 0 (.aload_n 0) 1 := ⟨by decide +kernel, rfl, rfl⟩
theorem d_Craft_read_141 : ob_dc k_Craft_read 141 (.ireturn) 1 142 := ⟨by decide +kernel, rfl⟩
theorem d_Craft_read_138 : ob_dc k_Craft_read 138 (.getfield 61) 3 141 := ⟨by decide +kernel, rfl⟩
theorem d_Craft_read_135 : ob_dc k_Craft_read 135 (.getfield 19) 3 138 := ⟨by decide +kernel, rfl⟩
theorem d_Craft_read_134 : ob_dv ob_ac k_Craft_read 134 135 0 (.aload_n 0) 1 := ⟨by decide +kernel, rfl, rfl⟩
theorem d_Craft_read_149 : ob_dc k_Craft_read 149 (.ireturn) 1 150 := ⟨by decide +kernel, rfl⟩
theorem d_Craft_read_146 : ob_dc k_Craft_read 146 (.getfield 64) 3 149 := ⟨by decide +kernel, rfl⟩
theorem d_Craft_read_143 : ob_dc k_Craft_read 143 (.getfield 15) 3 146 := ⟨by decide +kernel, rfl⟩
theorem d_Craft_read_142 : ob_dv ob_ac k_Craft_read 142 143 0 (.aload_n 0) 1 := ⟨by decide +kernel, rfl, rfl⟩
theorem d_Craft_read_157 : ob_dc k_Craft_read 157 (.ireturn) 1 158 := ⟨by decide +kernel, rfl⟩
theorem d_Craft_read_154 : ob_dc k_Craft_read 154 (.getfield 69) 3 157 := ⟨by decide +kernel, rfl⟩
theorem d_Craft_read_151 : ob_dc k_Craft_read 151 (.getfield 19) 3 154 := ⟨by decide +kernel, rfl⟩
theorem d_Craft_read_150 : ob_dv ob_ac k_Craft_read 150 151 0 (.aload_n 0) 1 := ⟨by decide +kernel, rfl, rfl⟩
theorem d_Craft_read_165 : ob_dc k_Craft_read 165 (.ireturn) 1 166 := ⟨by decide +kernel, rfl⟩
theorem d_Craft_read_162 : ob_dc k_Craft_read 162 (.getfield 72) 3 165 := ⟨by decide +kernel, rfl⟩
theorem d_Craft_read_159 : ob_dc k_Craft_read 159 (.getfield 19) 3 162 := ⟨by decide +kernel, rfl⟩
theorem d_Craft_read_158 : ob_dv ob_ac k_Craft_read 158 159 0 (.aload_n 0) 1 := ⟨by decide +kernel, rfl, rfl⟩
theorem d_Craft_read_170 : ob_dc k_Craft_read 170 (.ireturn) 1 171 := ⟨by decide +kernel, rfl⟩
theorem d_Craft_read_167 : ob_dc k_Craft_read 167 (.getfield 75) 3 170 := ⟨by decide +kernel, rfl⟩
theorem d_Craft_read_166 : ob_dv ob_ac k_Craft_read 166 167 0 (.aload_n 0) 1 := ⟨by decide +kernel, rfl, rfl⟩
theorem d_Craft_read_175 : ob_dc k_Craft_read 175 (.ireturn) 1 176 := ⟨by decide +kernel, rfl⟩
theorem d_Craft_read_172 : ob_dc k_Craft_read 172 (.getfield 78) 3 175 := ⟨by decide +kernel, rfl⟩
theorem d_Craft_read_171 : ob_dv ob_ac k_Craft_read 171 172 0 (.aload_n 0) 1 := ⟨by decide +kernel, rfl, rfl⟩
theorem d_Craft_read_183 : ob_dc k_Craft_read 183 (.ireturn) 1 184 := ⟨by decide +kernel, rfl⟩
theorem d_Craft_read_180 : ob_dc k_Craft_read 180 (.getfield 81) 3 183 := ⟨by decide +kernel, rfl⟩
theorem d_Craft_read_177 : ob_dc k_Craft_read 177 (.getfield 31) 3 180 := ⟨by decide +kernel, rfl⟩
theorem d_Craft_read_176 : ob_dv ob_ac k_Craft_read 176 177 0 (.aload_n 0) 1 := ⟨by decide +kernel, rfl, rfl⟩
theorem d_Craft_read_191 : ob_dc k_Craft_read 191 (.ireturn) 1 192 := ⟨by decide +kernel, rfl⟩
theorem d_Craft_read_188 : ob_dc k_Craft_read 188 (.getfield 86) 3 191 := ⟨by decide +kernel, rfl⟩
theorem d_Craft_read_185 : ob_dc k_Craft_read 185 (.getfield 31) 3 188 := ⟨by decide +kernel, rfl⟩
theorem d_Craft_read_184 : ob_dv ob_ac k_Craft_read 184 185 0 (.aload_n 0) 1 := ⟨by decide +kernel, rfl, rfl⟩
theorem d_Craft_read_202 : ob_dc k_Craft_read 202 (.ireturn) 1 203 := ⟨by decide +kernel, rfl⟩
theorem d_Craft_read_199 : ob_dc k_Craft_read 199 (.getfield 93) 3 202 := ⟨by decide +kernel, rfl⟩
theorem d_Craft_read_196 : ob_dc k_Craft_read 196 (.getfield 89) 3 199 := ⟨by decide +kernel, rfl⟩
theorem d_Craft_read_193 : ob_dc k_Craft_read 193 (.getfield 31) 3 196 := ⟨by decide +kernel, rfl⟩
theorem d_Craft_read_192 : ob_dv ob_ac k_Craft_read 192 193 0 (.aload_n 0) 1 := ⟨by decide +kernel, rfl, rfl⟩
theorem d_Craft_read_210 : ob_dc k_Craft_read 210 (.ireturn) 1 211 := ⟨by decide +kernel, rfl⟩
theorem d_Craft_read_207 : ob_dc k_Craft_read 207 (.getfield 96) 3 210 := ⟨by decide +kernel, rfl⟩
theorem d_Craft_read_204 : ob_dc k_Craft_read 204 (.getfield 27) 3 207 := ⟨by decide +kernel, rfl⟩
theorem d_Craft_read_203 : ob_dv ob_ac k_Craft_read 203 204 0 (.aload_n 0) 1 := ⟨by decide +kernel, rfl, rfl⟩
theorem d_Craft_read_215 : ob_dc k_Craft_read 215 (.ireturn) 1 216 := ⟨by decide +kernel, rfl⟩
theorem d_Craft_read_212 : ob_dc k_Craft_read 212 (.getfield 99) 3 215 := ⟨by decide +kernel, rfl⟩
theorem d_Craft_read_211 : ob_dv ob_ac k_Craft_read 211 212 0 (.aload_n 0) 1 := ⟨by decide +kernel, rfl, rfl⟩
theorem d_Craft_read_216 : ob_dk k_Craft_read 216 217 (0 : Int32) (.iconst 0) 1 := ⟨by decide +kernel, rfl, show Int32.ofInt 0 = (0 : Int32) by decide +kernel⟩
theorem d_Craft_read_217 : ob_dc k_Craft_read 217 (.ireturn) 1 218 := ⟨by decide +kernel, rfl⟩
theorem d_Craft_read_20 : ob_dv ob_lc k_Craft_read 20 21 1 (.iload_n 1) 1 := ⟨by decide +kernel, rfl, rfl⟩
theorem d_Craft_read_19 : ob_dc k_Craft_read 19 (.ireturn) 1 20 := ⟨by decide +kernel, rfl⟩
theorem d_Craft_read_18 : ob_dc k_Craft_read 18 (.iaload) 1 19 := ⟨by decide +kernel, rfl⟩
theorem d_Craft_read_17 : ob_dv ob_lc k_Craft_read 17 18 1 (.iload_n 1) 1 := ⟨by decide +kernel, rfl, rfl⟩
theorem d_Craft_read_14 : ob_dc k_Craft_read 14 (.getfield 35) 3 17 := ⟨by decide +kernel, rfl⟩
theorem d_Craft_read_13 : ob_dv ob_ac k_Craft_read 13 14 0 (.aload_n 0) 1 := ⟨by decide +kernel, rfl, rfl⟩
theorem d_Craft_read_10 : ob_db k_Craft_read 10 (.if_icmp .ge 10) 10 13 20 := ⟨by decide +kernel, rfl, by decide⟩
theorem d_Craft_read_9 : ob_dc k_Craft_read 9 (.arraylength) 1 10 := ⟨by decide +kernel, rfl⟩
theorem d_Craft_read_6 : ob_dc k_Craft_read 6 (.getfield 35) 3 9 := ⟨by decide +kernel, rfl⟩
theorem d_Craft_read_5 : ob_dv ob_ac k_Craft_read 5 6 0 (.aload_n 0) 1 := ⟨by decide +kernel, rfl, rfl⟩
theorem d_Craft_read_4 : ob_dv ob_lc k_Craft_read 4 5 1 (.iload_n 1) 1 := ⟨by decide +kernel, rfl, rfl⟩
theorem d_Craft_read_1 : ob_db k_Craft_read 1 (.ifCond .lt 19) 19 4 20 := ⟨by decide +kernel, rfl, by decide⟩
theorem d_Craft_read_0 : ob_dv ob_lc k_Craft_read 0 1 1 (.iload_n 1) 1 := ⟨by decide +kernel, rfl, rfl⟩
def f_Craft_read_L20 (S : ob_S) (v0 : Nat) (v1 : Int32) (D : ob_D) : Option (Int32 × ob_D) :=
  (if v1 = (16 : Int32) then some (D.1 v0 7, D) else if v1 = (17 : Int32) then some (D.1 v0 8, D) else if v1 = (18 : Int32) then if D.2.1 v0 2 ≠ 0 then some (D.1 (D.2.1 v0 2) 3, D) else none else if v1 = (19 : Int32) then if D.2.1 v0 2 ≠ 0 then some (D.1 (D.2.1 v0 2) 4, D) else none else if v1 = (20 : Int32) then if D.2.1 v0 3 ≠ 0 then some (D.1 (D.2.1 v0 3) 2, D) else none else if v1 = (21 : Int32) then if D.2.1 v0 2 ≠ 0 then some (D.1 (D.2.1 v0 2) 2, D) else none else if v1 = (22 : Int32) then if D.2.1 v0 1 ≠ 0 then some (D.1 (D.2.1 v0 1) 6, D) else none else if v1 = (23 : Int32) then if D.2.1 v0 2 ≠ 0 then some (D.1 (D.2.1 v0 2) 8, D) else none else if v1 = (24 : Int32) then if D.2.1 v0 2 ≠ 0 then some (D.1 (D.2.1 v0 2) 9, D) else none else if v1 = (25 : Int32) then some (D.1 v0 10, D) else if v1 = (26 : Int32) then some (D.1 v0 11, D) else if v1 = (27 : Int32) then if D.2.1 v0 5 ≠ 0 then some (D.1 (D.2.1 v0 5) 6, D) else none else if v1 = (28 : Int32) then if D.2.1 v0 5 ≠ 0 then some (D.1 (D.2.1 v0 5) 7, D) else none else if v1 = (29 : Int32) then if D.2.1 v0 5 ≠ 0 then if D.2.1 (D.2.1 v0 5) 0 ≠ 0 then some (D.1 (D.2.1 (D.2.1 v0 5) 0) 2, D) else none else none else if v1 = (30 : Int32) then if D.2.1 v0 4 ≠ 0 then some (D.1 (D.2.1 v0 4) 5, D) else none else if v1 = (31 : Int32) then some (D.1 v0 12, D) else some ((0 : Int32), D))
theorem v_Craft_read_L20 {l : Launch} {E : ob_E} {S : ob_S} {r : Int32} {D' : ob_D} : ∀ (v0 : Nat) (v1 : Int32) (D : ob_D), S.1 v0 = 11 → f_Craft_read_L20 S v0 v1 D = some (r, D') → ob_V l E k_Craft_read 20 [(0, .ref v0), (1, .int v1)] [] S D (some (.int r)) S D' := by
  intro v0 v1 D hp_v0 h
  rw [f_Craft_read_L20] at h
  refine ob_iload d_Craft_read_20 rfl ?_
  by_cases hs1 : v1 = (16 : Int32)
  · replace h := ob_ift hs1 h
    refine ob_tabI (off := 79) (t := 100) d_Craft_read_21 hs1 (by decide +kernel) ?_
    refine ob_aload d_Craft_read_100 rfl ?_
    refine ob_getI d_Craft_read_101 F_10_7 l_Craft_39 hp_v0 ?_
    exact ob_ie h (ob_iret d_Craft_read_104 rfl rfl)
  replace h := ob_iff hs1 h
  by_cases hs2 : v1 = (17 : Int32)
  · replace h := ob_ift hs2 h
    refine ob_tabI (off := 84) (t := 105) d_Craft_read_21 hs2 (by decide +kernel) ?_
    refine ob_aload d_Craft_read_105 rfl ?_
    refine ob_getI d_Craft_read_106 F_10_8 l_Craft_45 hp_v0 ?_
    exact ob_ie h (ob_iret d_Craft_read_109 rfl rfl)
  replace h := ob_iff hs2 h
  by_cases hs5 : v1 = (18 : Int32)
  · replace h := ob_ift hs5 h
    refine ob_tabI (off := 89) (t := 110) d_Craft_read_21 hs5 (by decide +kernel) ?_
    refine ob_aload d_Craft_read_110 rfl ?_
    obtain ⟨hg4, h⟩ := ob_gd h
    refine ob_getR d_Craft_read_111 F_10_2 l_Craft_19 hp_v0 hg4 (fun hk3 => ?_)
    refine ob_getI d_Craft_read_114 F_4_3 l_Craft_48 hk3 ?_
    exact ob_ie h (ob_iret d_Craft_read_117 rfl rfl)
  replace h := ob_iff hs5 h
  by_cases hs8 : v1 = (19 : Int32)
  · replace h := ob_ift hs8 h
    refine ob_tabI (off := 97) (t := 118) d_Craft_read_21 hs8 (by decide +kernel) ?_
    refine ob_aload d_Craft_read_118 rfl ?_
    obtain ⟨hg7, h⟩ := ob_gd h
    refine ob_getR d_Craft_read_119 F_10_2 l_Craft_19 hp_v0 hg7 (fun hk6 => ?_)
    refine ob_getI d_Craft_read_122 F_4_4 l_Craft_53 hk6 ?_
    exact ob_ie h (ob_iret d_Craft_read_125 rfl rfl)
  replace h := ob_iff hs8 h
  by_cases hs11 : v1 = (20 : Int32)
  · replace h := ob_ift hs11 h
    refine ob_tabI (off := 105) (t := 126) d_Craft_read_21 hs11 (by decide +kernel) ?_
    refine ob_aload d_Craft_read_126 rfl ?_
    obtain ⟨hg10, h⟩ := ob_gd h
    refine ob_getR d_Craft_read_127 F_10_3 l_Craft_23 hp_v0 hg10 (fun hk9 => ?_)
    refine ob_getI d_Craft_read_130 F_5_2 l_Craft_56 hk9 ?_
    exact ob_ie h (ob_iret d_Craft_read_133 rfl rfl)
  replace h := ob_iff hs11 h
  by_cases hs14 : v1 = (21 : Int32)
  · replace h := ob_ift hs14 h
    refine ob_tabI (off := 113) (t := 134) d_Craft_read_21 hs14 (by decide +kernel) ?_
    refine ob_aload d_Craft_read_134 rfl ?_
    obtain ⟨hg13, h⟩ := ob_gd h
    refine ob_getR d_Craft_read_135 F_10_2 l_Craft_19 hp_v0 hg13 (fun hk12 => ?_)
    refine ob_getI d_Craft_read_138 F_4_2 l_Craft_61 hk12 ?_
    exact ob_ie h (ob_iret d_Craft_read_141 rfl rfl)
  replace h := ob_iff hs14 h
  by_cases hs17 : v1 = (22 : Int32)
  · replace h := ob_ift hs17 h
    refine ob_tabI (off := 121) (t := 142) d_Craft_read_21 hs17 (by decide +kernel) ?_
    refine ob_aload d_Craft_read_142 rfl ?_
    obtain ⟨hg16, h⟩ := ob_gd h
    refine ob_getR d_Craft_read_143 F_10_1 l_Craft_15 hp_v0 hg16 (fun hk15 => ?_)
    refine ob_getI d_Craft_read_146 F_3_6 l_Craft_64 hk15 ?_
    exact ob_ie h (ob_iret d_Craft_read_149 rfl rfl)
  replace h := ob_iff hs17 h
  by_cases hs20 : v1 = (23 : Int32)
  · replace h := ob_ift hs20 h
    refine ob_tabI (off := 129) (t := 150) d_Craft_read_21 hs20 (by decide +kernel) ?_
    refine ob_aload d_Craft_read_150 rfl ?_
    obtain ⟨hg19, h⟩ := ob_gd h
    refine ob_getR d_Craft_read_151 F_10_2 l_Craft_19 hp_v0 hg19 (fun hk18 => ?_)
    refine ob_getI d_Craft_read_154 F_4_8 l_Craft_69 hk18 ?_
    exact ob_ie h (ob_iret d_Craft_read_157 rfl rfl)
  replace h := ob_iff hs20 h
  by_cases hs23 : v1 = (24 : Int32)
  · replace h := ob_ift hs23 h
    refine ob_tabI (off := 137) (t := 158) d_Craft_read_21 hs23 (by decide +kernel) ?_
    refine ob_aload d_Craft_read_158 rfl ?_
    obtain ⟨hg22, h⟩ := ob_gd h
    refine ob_getR d_Craft_read_159 F_10_2 l_Craft_19 hp_v0 hg22 (fun hk21 => ?_)
    refine ob_getI d_Craft_read_162 F_4_9 l_Craft_72 hk21 ?_
    exact ob_ie h (ob_iret d_Craft_read_165 rfl rfl)
  replace h := ob_iff hs23 h
  by_cases hs24 : v1 = (25 : Int32)
  · replace h := ob_ift hs24 h
    refine ob_tabI (off := 145) (t := 166) d_Craft_read_21 hs24 (by decide +kernel) ?_
    refine ob_aload d_Craft_read_166 rfl ?_
    refine ob_getI d_Craft_read_167 F_10_10 l_Craft_75 hp_v0 ?_
    exact ob_ie h (ob_iret d_Craft_read_170 rfl rfl)
  replace h := ob_iff hs24 h
  by_cases hs25 : v1 = (26 : Int32)
  · replace h := ob_ift hs25 h
    refine ob_tabI (off := 150) (t := 171) d_Craft_read_21 hs25 (by decide +kernel) ?_
    refine ob_aload d_Craft_read_171 rfl ?_
    refine ob_getI d_Craft_read_172 F_10_11 l_Craft_78 hp_v0 ?_
    exact ob_ie h (ob_iret d_Craft_read_175 rfl rfl)
  replace h := ob_iff hs25 h
  by_cases hs28 : v1 = (27 : Int32)
  · replace h := ob_ift hs28 h
    refine ob_tabI (off := 155) (t := 176) d_Craft_read_21 hs28 (by decide +kernel) ?_
    refine ob_aload d_Craft_read_176 rfl ?_
    obtain ⟨hg27, h⟩ := ob_gd h
    refine ob_getR d_Craft_read_177 F_10_5 l_Craft_31 hp_v0 hg27 (fun hk26 => ?_)
    refine ob_getI d_Craft_read_180 F_8_6 l_Craft_81 hk26 ?_
    exact ob_ie h (ob_iret d_Craft_read_183 rfl rfl)
  replace h := ob_iff hs28 h
  by_cases hs31 : v1 = (28 : Int32)
  · replace h := ob_ift hs31 h
    refine ob_tabI (off := 163) (t := 184) d_Craft_read_21 hs31 (by decide +kernel) ?_
    refine ob_aload d_Craft_read_184 rfl ?_
    obtain ⟨hg30, h⟩ := ob_gd h
    refine ob_getR d_Craft_read_185 F_10_5 l_Craft_31 hp_v0 hg30 (fun hk29 => ?_)
    refine ob_getI d_Craft_read_188 F_8_7 l_Craft_86 hk29 ?_
    exact ob_ie h (ob_iret d_Craft_read_191 rfl rfl)
  replace h := ob_iff hs31 h
  by_cases hs36 : v1 = (29 : Int32)
  · replace h := ob_ift hs36 h
    refine ob_tabI (off := 171) (t := 192) d_Craft_read_21 hs36 (by decide +kernel) ?_
    refine ob_aload d_Craft_read_192 rfl ?_
    obtain ⟨hg33, h⟩ := ob_gd h
    refine ob_getR d_Craft_read_193 F_10_5 l_Craft_31 hp_v0 hg33 (fun hk32 => ?_)
    obtain ⟨hg35, h⟩ := ob_gd h
    refine ob_getR d_Craft_read_196 F_8_0 l_Craft_89 hk32 hg35 (fun hk34 => ?_)
    refine ob_getI d_Craft_read_199 F_2_2 l_Craft_93 hk34 ?_
    exact ob_ie h (ob_iret d_Craft_read_202 rfl rfl)
  replace h := ob_iff hs36 h
  by_cases hs39 : v1 = (30 : Int32)
  · replace h := ob_ift hs39 h
    refine ob_tabI (off := 182) (t := 203) d_Craft_read_21 hs39 (by decide +kernel) ?_
    refine ob_aload d_Craft_read_203 rfl ?_
    obtain ⟨hg38, h⟩ := ob_gd h
    refine ob_getR d_Craft_read_204 F_10_4 l_Craft_27 hp_v0 hg38 (fun hk37 => ?_)
    refine ob_getI d_Craft_read_207 F_6_5 l_Craft_96 hk37 ?_
    exact ob_ie h (ob_iret d_Craft_read_210 rfl rfl)
  replace h := ob_iff hs39 h
  by_cases hs40 : v1 = (31 : Int32)
  · replace h := ob_ift hs40 h
    refine ob_tabI (off := 190) (t := 211) d_Craft_read_21 hs40 (by decide +kernel) ?_
    refine ob_aload d_Craft_read_211 rfl ?_
    refine ob_getI d_Craft_read_212 F_10_12 l_Craft_99 hp_v0 ?_
    exact ob_ie h (ob_iret d_Craft_read_215 rfl rfl)
  replace h := ob_iff hs40 h
  refine ob_tabO (t := 216) d_Craft_read_21 (by decide) (ob_out _ _ _ (fun k h1 h2 hk => ?_)) ?_
  · have hh : k = 16 ∨ k = 17 ∨ k = 18 ∨ k = 19 ∨ k = 20 ∨ k = 21 ∨ k = 22 ∨ k = 23 ∨ k = 24 ∨ k = 25 ∨ k = 26 ∨ k = 27 ∨ k = 28 ∨ k = 29 ∨ k = 30 ∨ k = 31 := by omega
    rcases hh with rfl | rfl | rfl | rfl | rfl | rfl | rfl | rfl | rfl | rfl | rfl | rfl | rfl | rfl | rfl | rfl
    · exact hs1 (Int32.toInt_inj.mp hk)
    · exact hs2 (Int32.toInt_inj.mp hk)
    · exact hs5 (Int32.toInt_inj.mp hk)
    · exact hs8 (Int32.toInt_inj.mp hk)
    · exact hs11 (Int32.toInt_inj.mp hk)
    · exact hs14 (Int32.toInt_inj.mp hk)
    · exact hs17 (Int32.toInt_inj.mp hk)
    · exact hs20 (Int32.toInt_inj.mp hk)
    · exact hs23 (Int32.toInt_inj.mp hk)
    · exact hs24 (Int32.toInt_inj.mp hk)
    · exact hs25 (Int32.toInt_inj.mp hk)
    · exact hs28 (Int32.toInt_inj.mp hk)
    · exact hs31 (Int32.toInt_inj.mp hk)
    · exact hs36 (Int32.toInt_inj.mp hk)
    · exact hs39 (Int32.toInt_inj.mp hk)
    · exact hs40 (Int32.toInt_inj.mp hk)
  · skip
    refine ob_push d_Craft_read_216 ?_
    exact ob_ie h (ob_iret d_Craft_read_217 rfl rfl)
def f_Craft_read (S : ob_S) (v0 : Nat) (v1 : Int32) (D : ob_D) : Option (Int32 × ob_D) :=
  (if v1 < 0 then f_Craft_read_L20 S v0 v1 D else if D.2.1 v0 6 ≠ 0 then (if (Int32.ofNat (S.2.1 (D.2.1 v0 6))) ≤ v1 then f_Craft_read_L20 S v0 v1 D else if D.2.1 v0 6 ≠ 0 then if ob_in v1 (S.2.1 (D.2.1 v0 6)) then some (D.1 (D.2.1 v0 6) v1.toNatClampNeg, D) else none else none) else none)
theorem c_Craft_read {l : Launch} {E : ob_E} {S : ob_S} {D : ob_D} {v0 : Nat} {v1 : Int32} {r : Int32} {D' : ob_D} (hp_v0 : S.1 v0 = 11) (h : f_Craft_read S v0 v1 D = some (r, D')) : ob_M l E k_Craft_read [.ref v0, .int v1] S D (some (.int r)) S D' := by
  refine ob_ofV (lo := [(0, .ref v0), (1, .int v1)]) (by decide) rfl (Nat.le_of_ble_eq_true rfl) rfl (Nat.le_refl _) (Nat.le_refl _) ?_
  rw [f_Craft_read] at h
  refine ob_iload d_Craft_read_0 rfl ?_
  refine ob_if_lt d_Craft_read_1 (fun hc => ?_) (fun hc => ?_)
  · replace h := ob_ift hc h
    exact v_Craft_read_L20 v0 v1 D hp_v0 h
  · replace h := ob_iff hc h
    refine ob_iload d_Craft_read_4 rfl ?_
    refine ob_aload d_Craft_read_5 rfl ?_
    obtain ⟨hg42, h⟩ := ob_gd h
    refine ob_getR d_Craft_read_6 F_10_6 l_Craft_35 hp_v0 hg42 (fun hk41 => ?_)
    refine ob_alen (i := 0) d_Craft_read_9 hk41 (by decide) ?_
    refine ob_icmp_ge d_Craft_read_10 (fun hc => ?_) (fun hc => ?_)
    · replace h := ob_ift hc h
      exact v_Craft_read_L20 v0 v1 D hp_v0 h
    · replace h := ob_iff hc h
      refine ob_aload d_Craft_read_13 rfl ?_
      obtain ⟨hg44, h⟩ := ob_gd h
      refine ob_getR d_Craft_read_14 F_10_6 l_Craft_35 hp_v0 hg44 (fun hk43 => ?_)
      refine ob_iload d_Craft_read_17 rfl ?_
      obtain ⟨hg45, h⟩ := ob_gd h
      refine ob_iald d_Craft_read_18 hk43 hg45 ?_
      exact ob_ie h (ob_iret d_Craft_read_19 rfl rfl)
-- OrbitBox$Craft.actuate(II)V
theorem d_Craft_actuate_20 : ob_dc k_Craft_actuate 20 (.return_) 1 21 := ⟨by decide +kernel, rfl⟩
theorem d_Craft_actuate_5 : ob_dk k_Craft_actuate 5 7 (8 : Int32) (.bipush 8) 2 := ⟨by decide +kernel, rfl, show (Int8.ofInt 8).toInt32 = (8 : Int32) by decide +kernel⟩
theorem d_Craft_actuate_14 : ob_dk k_Craft_actuate 14 16 (8 : Int32) (.bipush 8) 2 := ⟨by decide +kernel, rfl, show (Int8.ofInt 8).toInt32 = (8 : Int32) by decide +kernel⟩
theorem d_Craft_actuate_19 : ob_dc k_Craft_actuate 19 (.iastore) 1 20 := ⟨by decide +kernel, rfl⟩
theorem d_Craft_actuate_18 : ob_dv ob_lc k_Craft_actuate 18 19 2 (.iload_n 2) 1 := ⟨by decide +kernel, rfl, rfl⟩
theorem d_Craft_actuate_17 : ob_dc k_Craft_actuate 17 (.iadd) 1 18 := ⟨by decide +kernel, rfl⟩
theorem d_Craft_actuate_16 : ob_dv ob_lc k_Craft_actuate 16 17 1 (.iload_n 1) 1 := ⟨by decide +kernel, rfl, rfl⟩
theorem d_Craft_actuate_11 : ob_dc k_Craft_actuate 11 (.getfield 35) 3 14 := ⟨by decide +kernel, rfl⟩
theorem d_Craft_actuate_10 : ob_dv ob_ac k_Craft_actuate 10 11 0 (.aload_n 0) 1 := ⟨by decide +kernel, rfl, rfl⟩
theorem d_Craft_actuate_7 : ob_db k_Craft_actuate 7 (.if_icmp .ge 13) 13 10 20 := ⟨by decide +kernel, rfl, by decide⟩
theorem d_Craft_actuate_4 : ob_dv ob_lc k_Craft_actuate 4 5 1 (.iload_n 1) 1 := ⟨by decide +kernel, rfl, rfl⟩
theorem d_Craft_actuate_1 : ob_db k_Craft_actuate 1 (.ifCond .lt 19) 19 4 20 := ⟨by decide +kernel, rfl, by decide⟩
theorem d_Craft_actuate_0 : ob_dv ob_lc k_Craft_actuate 0 1 1 (.iload_n 1) 1 := ⟨by decide +kernel, rfl, rfl⟩
def f_Craft_actuate (S : ob_S) (v0 : Nat) (v1 : Int32) (v2 : Int32) (D : ob_D) : Option (ob_D) :=
  (if v1 < 0 then some D else (if (8 : Int32) ≤ v1 then some D else if D.2.1 v0 6 ≠ 0 then if ob_in ((8 : Int32) + v1) (S.2.1 (D.2.1 v0 6)) then ob_lt (ob_pI D (D.2.1 v0 6) ((8 : Int32) + v1).toNatClampNeg v2) fun D4 => some D4 else none else none))
theorem c_Craft_actuate {l : Launch} {E : ob_E} {S : ob_S} {D : ob_D} {v0 : Nat} {v1 : Int32} {v2 : Int32} {D' : ob_D} (hp_v0 : S.1 v0 = 11) (h : f_Craft_actuate S v0 v1 v2 D = some D') : ob_M l E k_Craft_actuate [.ref v0, .int v1, .int v2] S D none S D' := by
  refine ob_ofV (lo := [(0, .ref v0), (1, .int v1), (2, .int v2)]) (by decide) rfl (Nat.le_of_ble_eq_true rfl) rfl (Nat.le_refl _) (Nat.le_refl _) ?_
  rw [f_Craft_actuate] at h
  refine ob_iload d_Craft_actuate_0 rfl ?_
  refine ob_if_lt d_Craft_actuate_1 (fun hc => ?_) (fun hc => ?_)
  · replace h := ob_ift hc h
    exact ob_ve h (ob_vret d_Craft_actuate_20 rfl)
  · replace h := ob_iff hc h
    refine ob_iload d_Craft_actuate_4 rfl ?_
    refine ob_push d_Craft_actuate_5 ?_
    refine ob_icmp_ge d_Craft_actuate_7 (fun hc => ?_) (fun hc => ?_)
    · replace h := ob_ift hc h
      exact ob_ve h (ob_vret d_Craft_actuate_20 rfl)
    · replace h := ob_iff hc h
      refine ob_aload d_Craft_actuate_10 rfl ?_
      obtain ⟨hg2, h⟩ := ob_gd h
      refine ob_getR d_Craft_actuate_11 F_10_6 l_Craft_35 hp_v0 hg2 (fun hk1 => ?_)
      refine ob_push d_Craft_actuate_14 ?_
      refine ob_iload d_Craft_actuate_16 rfl ?_
      refine ob_iadd d_Craft_actuate_17 ?_
      refine ob_iload d_Craft_actuate_18 rfl ?_
      obtain ⟨hg3, h⟩ := ob_gd h
      replace h := ob_lt_e h
      refine ob_iast d_Craft_actuate_19 hk1 hg3 ?_
      exact ob_ve h (ob_vret d_Craft_actuate_20 rfl)
-- OrbitBox$Craft.changeMode(I)V
theorem d_Craft_changeMode_18 : ob_dk k_Craft_changeMode 18 19 (1 : Int32) (.iconst 1) 1 := ⟨by decide +kernel, rfl, show Int32.ofInt 1 = (1 : Int32) by decide +kernel⟩
theorem d_Craft_changeMode_26 : ob_dk k_Craft_changeMode 26 27 (0 : Int32) (.iconst 0) 1 := ⟨by decide +kernel, rfl, show Int32.ofInt 0 = (0 : Int32) by decide +kernel⟩
theorem d_Craft_changeMode_61 : ob_dc k_Craft_changeMode 61 (.return_) 1 62 := ⟨by decide +kernel, rfl⟩
theorem d_Craft_changeMode_36 : ob_dk k_Craft_changeMode 36 38 (8 : Int32) (.bipush 8) 2 := ⟨by decide +kernel, rfl, show (Int8.ofInt 8).toInt32 = (8 : Int32) by decide +kernel⟩
theorem d_Craft_changeMode_45 : ob_dk k_Craft_changeMode 45 47 (8 : Int32) (.bipush 8) 2 := ⟨by decide +kernel, rfl, show (Int8.ofInt 8).toInt32 = (8 : Int32) by decide +kernel⟩
theorem d_Craft_changeMode_55 : ob_di k_Craft_changeMode 55 58 2 1 (1 : Int32) := ⟨by decide +kernel, rfl, by decide +kernel, by decide +kernel⟩
theorem d_Craft_changeMode_58 : ob_db k_Craft_changeMode 58 (.goto (-30)) (-30) 61 28 := ⟨by decide +kernel, rfl, by decide⟩
theorem d_Craft_changeMode_54 : ob_dc k_Craft_changeMode 54 (.iastore) 1 55 := ⟨by decide +kernel, rfl⟩
theorem d_Craft_changeMode_53 : ob_dc k_Craft_changeMode 53 (.iaload) 1 54 := ⟨by decide +kernel, rfl⟩
theorem d_Craft_changeMode_52 : ob_dv ob_lc k_Craft_changeMode 52 53 2 (.iload_n 2) 1 := ⟨by decide +kernel, rfl, rfl⟩
theorem d_Craft_changeMode_49 : ob_dc k_Craft_changeMode 49 (.getstatic 106) 3 52 := ⟨by decide +kernel, rfl⟩
theorem d_Craft_changeMode_48 : ob_dc k_Craft_changeMode 48 (.iadd) 1 49 := ⟨by decide +kernel, rfl⟩
theorem d_Craft_changeMode_47 : ob_dv ob_lc k_Craft_changeMode 47 48 2 (.iload_n 2) 1 := ⟨by decide +kernel, rfl, rfl⟩
theorem d_Craft_changeMode_42 : ob_dc k_Craft_changeMode 42 (.getfield 35) 3 45 := ⟨by decide +kernel, rfl⟩
theorem d_Craft_changeMode_41 : ob_dv ob_ac k_Craft_changeMode 41 42 0 (.aload_n 0) 1 := ⟨by decide +kernel, rfl, rfl⟩
theorem d_Craft_changeMode_38 : ob_db k_Craft_changeMode 38 (.if_icmp .ge 23) 23 41 61 := ⟨by decide +kernel, rfl, by decide⟩
theorem d_Craft_changeMode_35 : ob_dv ob_lc k_Craft_changeMode 35 36 2 (.iload_n 2) 1 := ⟨by decide +kernel, rfl, rfl⟩
theorem d_Craft_changeMode_32 : ob_db k_Craft_changeMode 32 (.ifCond .ne 29) 29 35 61 := ⟨by decide +kernel, rfl, by decide⟩
theorem d_Craft_changeMode_29 : ob_dc k_Craft_changeMode 29 (.getfield 39) 3 32 := ⟨by decide +kernel, rfl⟩
theorem d_Craft_changeMode_28 : ob_dv ob_ac k_Craft_changeMode 28 29 0 (.aload_n 0) 1 := ⟨by decide +kernel, rfl, rfl⟩
theorem d_Craft_changeMode_27 : ob_dv (ob_sc k_Craft_changeMode.2.2.2.1) k_Craft_changeMode 27 28 2 (.istore_n 2) 1 := ⟨by decide +kernel, rfl, ⟨rfl, by decide +kernel⟩⟩
theorem d_Craft_changeMode_23 : ob_dc k_Craft_changeMode 23 (.invokevirtual 102) 3 26 := ⟨by decide +kernel, rfl⟩
theorem d_Craft_changeMode_20 : ob_dc k_Craft_changeMode 20 (.getfield 39) 3 23 := ⟨by decide +kernel, rfl⟩
theorem d_Craft_changeMode_19 : ob_dv ob_ac k_Craft_changeMode 19 20 0 (.aload_n 0) 1 := ⟨by decide +kernel, rfl, rfl⟩
theorem d_Craft_changeMode_15 : ob_dc k_Craft_changeMode 15 (.getfield 27) 3 18 := ⟨by decide +kernel, rfl⟩
theorem d_Craft_changeMode_14 : ob_dv ob_ac k_Craft_changeMode 14 15 0 (.aload_n 0) 1 := ⟨by decide +kernel, rfl, rfl⟩
theorem d_Craft_changeMode_11 : ob_dc k_Craft_changeMode 11 (.putfield 39) 3 14 := ⟨by decide +kernel, rfl⟩
theorem d_Craft_changeMode_10 : ob_dv ob_lc k_Craft_changeMode 10 11 1 (.iload_n 1) 1 := ⟨by decide +kernel, rfl, rfl⟩
theorem d_Craft_changeMode_9 : ob_dv ob_ac k_Craft_changeMode 9 10 0 (.aload_n 0) 1 := ⟨by decide +kernel, rfl, rfl⟩
theorem d_Craft_changeMode_8 : ob_dc k_Craft_changeMode 8 (.return_) 1 9 := ⟨by decide +kernel, rfl⟩
theorem d_Craft_changeMode_5 : ob_db k_Craft_changeMode 5 (.if_icmp .ne 4) 4 8 9 := ⟨by decide +kernel, rfl, by decide⟩
theorem d_Craft_changeMode_2 : ob_dc k_Craft_changeMode 2 (.getfield 39) 3 5 := ⟨by decide +kernel, rfl⟩
theorem d_Craft_changeMode_1 : ob_dv ob_ac k_Craft_changeMode 1 2 0 (.aload_n 0) 1 := ⟨by decide +kernel, rfl, rfl⟩
theorem d_Craft_changeMode_0 : ob_dv ob_lc k_Craft_changeMode 0 1 1 (.iload_n 1) 1 := ⟨by decide +kernel, rfl, rfl⟩
theorem c_Craft_changeMode_102 : ob_vd k_Craft_changeMode k_Events_raise 102 2 6 := ⟨cw_Events_raise, yd_Events_raise, w_796, w_797, w_798, w_7, ⟨_, _, rfl⟩, by decide, by decide⟩
def f_Craft_changeMode_L28 (S : ob_S) : Nat → Nat → Int32 → ob_D → Option (ob_D)
  | 0, _, _, _ => none
  | n + 1, v0, v2, D => (if (D.1 v0 7) = 0 then (if (8 : Int32) ≤ v2 then some D else if D.2.1 v0 6 ≠ 0 then if ob_in v2 8 then if ob_in ((8 : Int32) + v2) (S.2.1 (D.2.1 v0 6)) then ob_lt (ob_pI D (D.2.1 v0 6) ((8 : Int32) + v2).toNatClampNeg (ob_SAF v2.toNatClampNeg)) fun D10 => f_Craft_changeMode_L28 S n v0 (v2 + (1 : Int32)) D10 else none else none else none) else some D)
theorem v_Craft_changeMode_L28 {l : Launch} {E : ob_E} {S : ob_S} {D' : ob_D} : ∀ (n : Nat), ∀ (v0 : Nat) (v2 : Int32) (D : ob_D), S.1 v0 = 11 → f_Craft_changeMode_L28 S n v0 v2 D = some D' → ob_V l E k_Craft_changeMode 28 [(0, .ref v0), (2, .int v2)] [] S D none S D' := by
  intro n
  induction n with
  | zero =>
    intro v0 v2 D hp_v0 h
    have h : none = some D' := h
    cases h
  | succ n ih =>
    intro v0 v2 D hp_v0 h
    rw [f_Craft_changeMode_L28] at h
    refine ob_aload d_Craft_changeMode_28 rfl ?_
    refine ob_getI d_Craft_changeMode_29 F_10_7 l_Craft_39 hp_v0 ?_
    refine ob_if_ne d_Craft_changeMode_32 (fun hc => ?_) (fun hc => ?_)
    · replace h := ob_iff hc h
      exact ob_ve h (ob_vret d_Craft_changeMode_61 rfl)
    · replace h := ob_ift hc h
      refine ob_iload d_Craft_changeMode_35 rfl ?_
      refine ob_push d_Craft_changeMode_36 ?_
      refine ob_icmp_ge d_Craft_changeMode_38 (fun hc => ?_) (fun hc => ?_)
      · replace h := ob_ift hc h
        exact ob_ve h (ob_vret d_Craft_changeMode_61 rfl)
      · replace h := ob_iff hc h
        refine ob_aload d_Craft_changeMode_41 rfl ?_
        obtain ⟨hg7, h⟩ := ob_gd h
        refine ob_getR d_Craft_changeMode_42 F_10_6 l_Craft_35 hp_v0 hg7 (fun hk6 => ?_)
        refine ob_push d_Craft_changeMode_45 ?_
        refine ob_iload d_Craft_changeMode_47 rfl ?_
        refine ob_iadd d_Craft_changeMode_48 ?_
        refine ob_gsS d_Craft_changeMode_49 w_802 ?_
        refine ob_iload d_Craft_changeMode_52 rfl ?_
        obtain ⟨hg8, h⟩ := ob_gd h
        refine ob_ldS d_Craft_changeMode_53 hg8 ?_
        obtain ⟨hg9, h⟩ := ob_gd h
        replace h := ob_lt_e h
        refine ob_iast d_Craft_changeMode_54 hk6 hg9 ?_
        refine ob_iinc (lo2 := [(0, .ref v0), (2, .int (v2 + (1 : Int32)))]) d_Craft_changeMode_55 rfl rfl ?_
        refine ob_goto d_Craft_changeMode_58 ?_
        exact ih v0 (v2 + (1 : Int32)) (ob_pI D (D.2.1 v0 6) ((8 : Int32) + v2).toNatClampNeg (ob_SAF v2.toNatClampNeg)) hp_v0 h
def f_Craft_changeMode (S : ob_S) (v0 : Nat) (v1 : Int32) (D : ob_D) : Option (ob_D) :=
  (if v1 = (D.1 v0 7) then some D else ob_lt (ob_pI D v0 7 v1) fun D1 => if D1.2.1 v0 4 ≠ 0 then ob_bv (f_Events_raise S (D1.2.1 v0 4) (1 : Int32) (D1.1 v0 7) D1) fun D4 => f_Craft_changeMode_L28 S ob_FU v0 (0 : Int32) D4 else none)
theorem c_Craft_changeMode {l : Launch} {E : ob_E} {S : ob_S} {D : ob_D} {v0 : Nat} {v1 : Int32} {D' : ob_D} (hp_v0 : S.1 v0 = 11) (h : f_Craft_changeMode S v0 v1 D = some D') : ob_M l E k_Craft_changeMode [.ref v0, .int v1] S D none S D' := by
  refine ob_ofV (lo := [(0, .ref v0), (1, .int v1)]) (by decide) rfl (Nat.le_of_ble_eq_true rfl) rfl (Nat.le_refl _) (Nat.le_refl _) ?_
  rw [f_Craft_changeMode] at h
  refine ob_iload d_Craft_changeMode_0 rfl ?_
  refine ob_aload d_Craft_changeMode_1 rfl ?_
  refine ob_getI d_Craft_changeMode_2 F_10_7 l_Craft_39 hp_v0 ?_
  refine ob_icmp_ne d_Craft_changeMode_5 (fun hc => ?_) (fun hc => ?_)
  · replace h := ob_iff hc h
    refine ob_aload d_Craft_changeMode_9 rfl ?_
    refine ob_iload d_Craft_changeMode_10 rfl ?_
    replace h := ob_lt_e h
    refine ob_putI d_Craft_changeMode_11 F_10_7 l_Craft_39 hp_v0 ?_
    refine ob_aload d_Craft_changeMode_14 rfl ?_
    obtain ⟨hg3, h⟩ := ob_gd h
    refine ob_getR d_Craft_changeMode_15 F_10_4 l_Craft_27 hp_v0 hg3 (fun hk2 => ?_)
    refine ob_push d_Craft_changeMode_18 ?_
    refine ob_aload d_Craft_changeMode_19 rfl ?_
    refine ob_getI d_Craft_changeMode_20 F_10_7 l_Craft_39 hp_v0 ?_
    obtain ⟨D4, h5, h⟩ := ob_bv_e h
    refine ob_callVv (As := [.int (1 : Int32), .int ((ob_pI D v0 7 v1).1 v0 7)]) (rest := []) d_Craft_changeMode_23 c_Craft_changeMode_102 hk2 rfl rfl (Nat.le_of_ble_eq_true rfl) (c_Events_raise hk2 h5) ⟨Nat.le_refl _, Nat.le_refl _⟩ ⟨Nat.le_refl _, Nat.le_refl _⟩ ?_
    refine ob_push d_Craft_changeMode_26 ?_
    refine ob_istore (lo2 := [(0, .ref v0), (1, .int v1), (2, .int (0 : Int32))]) d_Craft_changeMode_27 rfl ?_
    refine ob_sub (lo2 := [(0, .ref v0), (2, .int (0 : Int32))]) [0, 2] rfl ?_
    exact v_Craft_changeMode_L28 ob_FU v0 (0 : Int32) D4 hp_v0 h
  · replace h := ob_ift hc h
    exact ob_ve h (ob_vret d_Craft_changeMode_8 rfl)
-- OrbitBox$Craft.watchOne(LOrbitBox$Table;I)V
theorem d_Craft_watchOne_3 : ob_dk k_Craft_watchOne 3 4 (3 : Int32) (.iconst 3) 1 := ⟨by decide +kernel, rfl, show Int32.ofInt 3 = (3 : Int32) by decide +kernel⟩
theorem d_Craft_watchOne_14 : ob_dk k_Craft_watchOne 14 15 (5 : Int32) (.iconst 5) 1 := ⟨by decide +kernel, rfl, show Int32.ofInt 5 = (5 : Int32) by decide +kernel⟩
theorem d_Craft_watchOne_42 : ob_dk k_Craft_watchOne 42 43 (2 : Int32) (.iconst 2) 1 := ⟨by decide +kernel, rfl, show Int32.ofInt 2 = (2 : Int32) by decide +kernel⟩
theorem d_Craft_watchOne_46 : ob_dk k_Craft_watchOne 46 47 (1 : Int32) (.iconst 1) 1 := ⟨by decide +kernel, rfl, show Int32.ofInt 1 = (1 : Int32) by decide +kernel⟩
theorem d_Craft_watchOne_52 : ob_dk k_Craft_watchOne 52 53 (2 : Int32) (.iconst 2) 1 := ⟨by decide +kernel, rfl, show Int32.ofInt 2 = (2 : Int32) by decide +kernel⟩
theorem d_Craft_watchOne_62 : ob_dk k_Craft_watchOne 62 63 (4 : Int32) (.iconst 4) 1 := ⟨by decide +kernel, rfl, show Int32.ofInt 4 = (4 : Int32) by decide +kernel⟩
theorem d_Craft_watchOne_75 : ob_dk k_Craft_watchOne 75 76 (1 : Int32) (.iconst 1) 1 := ⟨by decide +kernel, rfl, show Int32.ofInt 1 = (1 : Int32) by decide +kernel⟩
theorem d_Craft_watchOne_86 : ob_dk k_Craft_watchOne 86 88 (7 : Int32) (.bipush 7) 2 := ⟨by decide +kernel, rfl, show (Int8.ofInt 7).toInt32 = (7 : Int32) by decide +kernel⟩
theorem d_Craft_watchOne_97 : ob_dk k_Craft_watchOne 97 99 (8 : Int32) (.bipush 8) 2 := ⟨by decide +kernel, rfl, show (Int8.ofInt 8).toInt32 = (8 : Int32) by decide +kernel⟩
theorem d_Craft_watchOne_102 : ob_dk k_Craft_watchOne 102 103 (1 : Int32) (.iconst 1) 1 := ⟨by decide +kernel, rfl, show Int32.ofInt 1 = (1 : Int32) by decide +kernel⟩
theorem d_Craft_watchOne_129 : ob_dc k_Craft_watchOne 129 (.return_) 1 130 := ⟨by decide +kernel, rfl⟩
theorem d_Craft_watchOne_110 : ob_dk k_Craft_watchOne 110 111 (-1 : Int32) (.iconst (-1)) 1 := ⟨by decide +kernel, rfl, show Int32.ofInt (-1) = (-1 : Int32) by decide +kernel⟩
theorem d_Craft_watchOne_124 : ob_dk k_Craft_watchOne 124 125 (1 : Int32) (.iconst 1) 1 := ⟨by decide +kernel, rfl, show Int32.ofInt 1 = (1 : Int32) by decide +kernel⟩
theorem d_Craft_watchOne_126 : ob_dc k_Craft_watchOne 126 (.putfield 42) 3 129 := ⟨by decide +kernel, rfl⟩
theorem d_Craft_watchOne_125 : ob_dc k_Craft_watchOne 125 (.isub) 1 126 := ⟨by decide +kernel, rfl⟩
theorem d_Craft_watchOne_123 : ob_dc k_Craft_watchOne 123 (.iadd) 1 124 := ⟨by decide +kernel, rfl⟩
theorem d_Craft_watchOne_120 : ob_dc k_Craft_watchOne 120 (.getfield 9) 3 123 := ⟨by decide +kernel, rfl⟩
theorem d_Craft_watchOne_119 : ob_dv ob_ac k_Craft_watchOne 119 120 0 (.aload_n 0) 1 := ⟨by decide +kernel, rfl, rfl⟩
theorem d_Craft_watchOne_116 : ob_dc k_Craft_watchOne 116 (.getfield 45) 3 119 := ⟨by decide +kernel, rfl⟩
theorem d_Craft_watchOne_115 : ob_dv ob_ac k_Craft_watchOne 115 116 0 (.aload_n 0) 1 := ⟨by decide +kernel, rfl, rfl⟩
theorem d_Craft_watchOne_114 : ob_dv ob_ac k_Craft_watchOne 114 115 0 (.aload_n 0) 1 := ⟨by decide +kernel, rfl, rfl⟩
theorem d_Craft_watchOne_111 : ob_db k_Craft_watchOne 111 (.if_icmp .ne 18) 18 114 129 := ⟨by decide +kernel, rfl, by decide⟩
theorem d_Craft_watchOne_107 : ob_dc k_Craft_watchOne 107 (.getfield 42) 3 110 := ⟨by decide +kernel, rfl⟩
theorem d_Craft_watchOne_106 : ob_dv ob_ac k_Craft_watchOne 106 107 0 (.aload_n 0) 1 := ⟨by decide +kernel, rfl, rfl⟩
theorem d_Craft_watchOne_103 : ob_db k_Craft_watchOne 103 (.if_icmp .ne 26) 26 106 129 := ⟨by decide +kernel, rfl, by decide⟩
theorem d_Craft_watchOne_99 : ob_dc k_Craft_watchOne 99 (.invokevirtual 112) 3 102 := ⟨by decide +kernel, rfl⟩
theorem d_Craft_watchOne_96 : ob_dv ob_lc k_Craft_watchOne 96 97 2 (.iload_n 2) 1 := ⟨by decide +kernel, rfl, rfl⟩
theorem d_Craft_watchOne_95 : ob_dv ob_ac k_Craft_watchOne 95 96 1 (.aload_n 1) 1 := ⟨by decide +kernel, rfl, rfl⟩
theorem d_Craft_watchOne_92 : ob_dc k_Craft_watchOne 92 (.invokevirtual 102) 3 95 := ⟨by decide +kernel, rfl⟩
theorem d_Craft_watchOne_91 : ob_dv ob_lc k_Craft_watchOne 91 92 3 (.iload_n 3) 1 := ⟨by decide +kernel, rfl, rfl⟩
theorem d_Craft_watchOne_88 : ob_dc k_Craft_watchOne 88 (.invokevirtual 112) 3 91 := ⟨by decide +kernel, rfl⟩
theorem d_Craft_watchOne_85 : ob_dv ob_lc k_Craft_watchOne 85 86 2 (.iload_n 2) 1 := ⟨by decide +kernel, rfl, rfl⟩
theorem d_Craft_watchOne_84 : ob_dv ob_ac k_Craft_watchOne 84 85 1 (.aload_n 1) 1 := ⟨by decide +kernel, rfl, rfl⟩
theorem d_Craft_watchOne_81 : ob_dc k_Craft_watchOne 81 (.getfield 27) 3 84 := ⟨by decide +kernel, rfl⟩
theorem d_Craft_watchOne_80 : ob_dv ob_ac k_Craft_watchOne 80 81 0 (.aload_n 0) 1 := ⟨by decide +kernel, rfl, rfl⟩
theorem d_Craft_watchOne_77 : ob_dc k_Craft_watchOne 77 (.putfield 99) 3 80 := ⟨by decide +kernel, rfl⟩
theorem d_Craft_watchOne_76 : ob_dc k_Craft_watchOne 76 (.iadd) 1 77 := ⟨by decide +kernel, rfl⟩
theorem d_Craft_watchOne_72 : ob_dc k_Craft_watchOne 72 (.getfield 99) 3 75 := ⟨by decide +kernel, rfl⟩
theorem d_Craft_watchOne_71 : ob_dc k_Craft_watchOne 71 (.dup) 1 72 := ⟨by decide +kernel, rfl⟩
theorem d_Craft_watchOne_70 : ob_dv ob_ac k_Craft_watchOne 70 71 0 (.aload_n 0) 1 := ⟨by decide +kernel, rfl, rfl⟩
theorem d_Craft_watchOne_69 : ob_dc k_Craft_watchOne 69 (.return_) 1 70 := ⟨by decide +kernel, rfl⟩
theorem d_Craft_watchOne_66 : ob_db k_Craft_watchOne 66 (.if_icmp .eq 4) 4 69 70 := ⟨by decide +kernel, rfl, by decide⟩
theorem d_Craft_watchOne_63 : ob_dc k_Craft_watchOne 63 (.invokevirtual 112) 3 66 := ⟨by decide +kernel, rfl⟩
theorem d_Craft_watchOne_61 : ob_dv ob_lc k_Craft_watchOne 61 62 2 (.iload_n 2) 1 := ⟨by decide +kernel, rfl, rfl⟩
theorem d_Craft_watchOne_60 : ob_dv ob_ac k_Craft_watchOne 60 61 1 (.aload_n 1) 1 := ⟨by decide +kernel, rfl, rfl⟩
theorem d_Craft_watchOne_58 : ob_dv ob_lc k_Craft_watchOne 58 60 4 (.iload 4) 2 := ⟨by decide +kernel, rfl, rfl⟩
theorem d_Craft_watchOne_55 : ob_dc k_Craft_watchOne 55 (.invokevirtual 124) 3 58 := ⟨by decide +kernel, rfl⟩
theorem d_Craft_watchOne_53 : ob_dv ob_lc k_Craft_watchOne 53 55 4 (.iload 4) 2 := ⟨by decide +kernel, rfl, rfl⟩
theorem d_Craft_watchOne_51 : ob_dv ob_lc k_Craft_watchOne 51 52 2 (.iload_n 2) 1 := ⟨by decide +kernel, rfl, rfl⟩
theorem d_Craft_watchOne_50 : ob_dv ob_ac k_Craft_watchOne 50 51 1 (.aload_n 1) 1 := ⟨by decide +kernel, rfl, rfl⟩
theorem d_Craft_watchOne_48 : ob_dv (ob_sc k_Craft_watchOne.2.2.2.1) k_Craft_watchOne 48 50 4 (.istore 4) 2 := ⟨by decide +kernel, rfl, ⟨rfl, by decide +kernel⟩⟩
theorem d_Craft_watchOne_47 : ob_dc k_Craft_watchOne 47 (.iadd) 1 48 := ⟨by decide +kernel, rfl⟩
theorem d_Craft_watchOne_43 : ob_dc k_Craft_watchOne 43 (.invokevirtual 112) 3 46 := ⟨by decide +kernel, rfl⟩
theorem d_Craft_watchOne_41 : ob_dv ob_lc k_Craft_watchOne 41 42 2 (.iload_n 2) 1 := ⟨by decide +kernel, rfl, rfl⟩
theorem d_Craft_watchOne_40 : ob_dv ob_ac k_Craft_watchOne 40 41 1 (.aload_n 1) 1 := ⟨by decide +kernel, rfl, rfl⟩
theorem d_Craft_watchOne_24 : ob_dk k_Craft_watchOne 24 26 (6 : Int32) (.bipush 6) 2 := ⟨by decide +kernel, rfl, show (Int8.ofInt 6).toInt32 = (6 : Int32) by decide +kernel⟩
theorem d_Craft_watchOne_34 : ob_dk k_Craft_watchOne 34 35 (2 : Int32) (.iconst 2) 1 := ⟨by decide +kernel, rfl, show Int32.ofInt 2 = (2 : Int32) by decide +kernel⟩
theorem d_Craft_watchOne_35 : ob_dk k_Craft_watchOne 35 36 (0 : Int32) (.iconst 0) 1 := ⟨by decide +kernel, rfl, show Int32.ofInt 0 = (0 : Int32) by decide +kernel⟩
theorem d_Craft_watchOne_39 : ob_dc k_Craft_watchOne 39 (.return_) 1 40 := ⟨by decide +kernel, rfl⟩
theorem d_Craft_watchOne_36 : ob_dc k_Craft_watchOne 36 (.invokevirtual 124) 3 39 := ⟨by decide +kernel, rfl⟩
theorem d_Craft_watchOne_33 : ob_dv ob_lc k_Craft_watchOne 33 34 2 (.iload_n 2) 1 := ⟨by decide +kernel, rfl, rfl⟩
theorem d_Craft_watchOne_32 : ob_dv ob_ac k_Craft_watchOne 32 33 1 (.aload_n 1) 1 := ⟨by decide +kernel, rfl, rfl⟩
theorem d_Craft_watchOne_29 : ob_db k_Craft_watchOne 29 (.if_icmp .gt 11) 11 32 40 := ⟨by decide +kernel, rfl, by decide⟩
theorem d_Craft_watchOne_26 : ob_dc k_Craft_watchOne 26 (.invokevirtual 112) 3 29 := ⟨by decide +kernel, rfl⟩
theorem d_Craft_watchOne_23 : ob_dv ob_lc k_Craft_watchOne 23 24 2 (.iload_n 2) 1 := ⟨by decide +kernel, rfl, rfl⟩
theorem d_Craft_watchOne_22 : ob_dv ob_ac k_Craft_watchOne 22 23 1 (.aload_n 1) 1 := ⟨by decide +kernel, rfl, rfl⟩
theorem d_Craft_watchOne_21 : ob_dv ob_lc k_Craft_watchOne 21 22 3 (.iload_n 3) 1 := ⟨by decide +kernel, rfl, rfl⟩
theorem d_Craft_watchOne_18 : ob_db k_Craft_watchOne 18 (.if_icmp .lt 22) 22 21 40 := ⟨by decide +kernel, rfl, by decide⟩
theorem d_Craft_watchOne_15 : ob_dc k_Craft_watchOne 15 (.invokevirtual 112) 3 18 := ⟨by decide +kernel, rfl⟩
theorem d_Craft_watchOne_13 : ob_dv ob_lc k_Craft_watchOne 13 14 2 (.iload_n 2) 1 := ⟨by decide +kernel, rfl, rfl⟩
theorem d_Craft_watchOne_12 : ob_dv ob_ac k_Craft_watchOne 12 13 1 (.aload_n 1) 1 := ⟨by decide +kernel, rfl, rfl⟩
theorem d_Craft_watchOne_11 : ob_dv ob_lc k_Craft_watchOne 11 12 3 (.iload_n 3) 1 := ⟨by decide +kernel, rfl, rfl⟩
theorem d_Craft_watchOne_10 : ob_dv (ob_sc k_Craft_watchOne.2.2.2.1) k_Craft_watchOne 10 11 3 (.istore_n 3) 1 := ⟨by decide +kernel, rfl, ⟨rfl, by decide +kernel⟩⟩
theorem d_Craft_watchOne_7 : ob_dc k_Craft_watchOne 7 (.invokevirtual 120) 3 10 := ⟨by decide +kernel, rfl⟩
theorem d_Craft_watchOne_4 : ob_dc k_Craft_watchOne 4 (.invokevirtual 112) 3 7 := ⟨by decide +kernel, rfl⟩
theorem d_Craft_watchOne_2 : ob_dv ob_lc k_Craft_watchOne 2 3 2 (.iload_n 2) 1 := ⟨by decide +kernel, rfl, rfl⟩
theorem d_Craft_watchOne_1 : ob_dv ob_ac k_Craft_watchOne 1 2 1 (.aload_n 1) 1 := ⟨by decide +kernel, rfl, rfl⟩
theorem d_Craft_watchOne_0 : ob_dv ob_ac k_Craft_watchOne 0 1 0 (.aload_n 0) 1 := ⟨by decide +kernel, rfl, rfl⟩
theorem c_Craft_watchOne_112 : ob_vd k_Craft_watchOne k_Table_get 112 2 7 := ⟨cw_Table_get, yd_Table_get, w_877, w_684, w_685, w_9, ⟨_, _, rfl⟩, by decide, by decide⟩
theorem c_Craft_watchOne_102 : ob_vd k_Craft_watchOne k_Events_raise 102 2 6 := ⟨cw_Events_raise, yd_Events_raise, w_796, w_797, w_798, w_7, ⟨_, _, rfl⟩, by decide, by decide⟩
theorem c_Craft_watchOne_124 : ob_vd k_Craft_watchOne k_Table_set 124 3 7 := ⟨cw_Table_set, yd_Table_set, w_883, w_750, w_751, w_9, ⟨_, _, rfl⟩, by decide, by decide⟩
theorem c_Craft_watchOne_120 : ob_vd k_Craft_watchOne k_Craft_read 120 1 10 := ⟨cw_Craft_read, yd_Craft_read, w_882, w_763, w_764, w_12, ⟨_, _, rfl⟩, by decide, by decide⟩
def f_Craft_watchOne_L40 (S : ob_S) (v0 : Nat) (v1 : Nat) (v2 : Int32) (v3 : Int32) (D : ob_D) : Option (ob_D) :=
  ob_bd (f_Table_get S v1 v2 (2 : Int32) D) fun x12 D10 => ob_bv (f_Table_set S v1 v2 (2 : Int32) (x12 + (1 : Int32)) D10) fun D13 => ob_bd (f_Table_get S v1 v2 (4 : Int32) D13) fun x17 D15 => (if (x12 + (1 : Int32)) = x17 then ob_lt (ob_pI D15 v0 12 ((D15.1 v0 12) + (1 : Int32))) fun D18 => if D18.2.1 v0 4 ≠ 0 then ob_bd (f_Table_get S v1 v2 (7 : Int32) D18) fun x23 D21 => ob_bv (f_Events_raise S (D18.2.1 v0 4) x23 v3 D21) fun D24 => ob_bd (f_Table_get S v1 v2 (8 : Int32) D24) fun x28 D26 => (if x28 = (1 : Int32) then (if (D26.1 v0 9) = (-1 : Int32) then ob_lt (ob_pI D26 v0 9 (((D26.1 v0 8) + (D26.1 v0 0)) - (1 : Int32))) fun D29 => some D29 else some D26) else some D26) else none else some D15)
theorem v_Craft_watchOne_L40 {l : Launch} {E : ob_E} {S : ob_S} {D' : ob_D} : ∀ (v0 : Nat) (v1 : Nat) (v2 : Int32) (v3 : Int32) (D : ob_D), S.1 v0 = 11 → S.1 v1 = 8 → f_Craft_watchOne_L40 S v0 v1 v2 v3 D = some D' → ob_V l E k_Craft_watchOne 40 [(0, .ref v0), (1, .ref v1), (2, .int v2), (3, .int v3)] [] S D none S D' := by
  intro v0 v1 v2 v3 D hp_v0 hp_v1 h
  rw [f_Craft_watchOne_L40] at h
  refine ob_aload d_Craft_watchOne_40 rfl ?_
  refine ob_iload d_Craft_watchOne_41 rfl ?_
  refine ob_push d_Craft_watchOne_42 ?_
  obtain ⟨x12, D10, h11, h⟩ := ob_bd_e h
  refine ob_callVi (As := [.int v2, .int (2 : Int32)]) (rest := []) d_Craft_watchOne_43 c_Craft_watchOne_112 hp_v1 rfl rfl (Nat.le_of_ble_eq_true rfl) (c_Table_get hp_v1 h11) ⟨Nat.le_refl _, Nat.le_refl _⟩ ⟨Nat.le_refl _, Nat.le_refl _⟩ ?_
  refine ob_push d_Craft_watchOne_46 ?_
  refine ob_iadd d_Craft_watchOne_47 ?_
  refine ob_istore (lo2 := [(0, .ref v0), (1, .ref v1), (2, .int v2), (3, .int v3), (4, .int (x12 + (1 : Int32)))]) d_Craft_watchOne_48 rfl ?_
  refine ob_aload d_Craft_watchOne_50 rfl ?_
  refine ob_iload d_Craft_watchOne_51 rfl ?_
  refine ob_push d_Craft_watchOne_52 ?_
  refine ob_iload d_Craft_watchOne_53 rfl ?_
  obtain ⟨D13, h14, h⟩ := ob_bv_e h
  refine ob_callVv (As := [.int v2, .int (2 : Int32), .int (x12 + (1 : Int32))]) (rest := []) d_Craft_watchOne_55 c_Craft_watchOne_124 hp_v1 rfl rfl (Nat.le_of_ble_eq_true rfl) (c_Table_set hp_v1 h14) ⟨Nat.le_refl _, Nat.le_refl _⟩ ⟨Nat.le_refl _, Nat.le_refl _⟩ ?_
  refine ob_iload d_Craft_watchOne_58 rfl ?_
  refine ob_aload d_Craft_watchOne_60 rfl ?_
  refine ob_iload d_Craft_watchOne_61 rfl ?_
  refine ob_push d_Craft_watchOne_62 ?_
  obtain ⟨x17, D15, h16, h⟩ := ob_bd_e h
  refine ob_callVi (As := [.int v2, .int (4 : Int32)]) (rest := [.int (x12 + (1 : Int32))]) d_Craft_watchOne_63 c_Craft_watchOne_112 hp_v1 rfl rfl (Nat.le_of_ble_eq_true rfl) (c_Table_get hp_v1 h16) ⟨Nat.le_refl _, Nat.le_refl _⟩ ⟨Nat.le_refl _, Nat.le_refl _⟩ ?_
  refine ob_icmp_eq d_Craft_watchOne_66 (fun hc => ?_) (fun hc => ?_)
  · replace h := ob_ift hc h
    refine ob_aload d_Craft_watchOne_70 rfl ?_
    refine ob_dup d_Craft_watchOne_71 rfl ?_
    refine ob_getI d_Craft_watchOne_72 F_10_12 l_Craft_99 hp_v0 ?_
    refine ob_push d_Craft_watchOne_75 ?_
    refine ob_iadd d_Craft_watchOne_76 ?_
    replace h := ob_lt_e h
    refine ob_putI d_Craft_watchOne_77 F_10_12 l_Craft_99 hp_v0 ?_
    refine ob_aload d_Craft_watchOne_80 rfl ?_
    obtain ⟨hg20, h⟩ := ob_gd h
    refine ob_getR d_Craft_watchOne_81 F_10_4 l_Craft_27 hp_v0 hg20 (fun hk19 => ?_)
    refine ob_aload d_Craft_watchOne_84 rfl ?_
    refine ob_iload d_Craft_watchOne_85 rfl ?_
    refine ob_push d_Craft_watchOne_86 ?_
    obtain ⟨x23, D21, h22, h⟩ := ob_bd_e h
    refine ob_callVi (As := [.int v2, .int (7 : Int32)]) (rest := [.ref ((ob_pI D15 v0 12 ((D15.1 v0 12) + (1 : Int32))).2.1 v0 4)]) d_Craft_watchOne_88 c_Craft_watchOne_112 hp_v1 rfl rfl (Nat.le_of_ble_eq_true rfl) (c_Table_get hp_v1 h22) ⟨Nat.le_refl _, Nat.le_refl _⟩ ⟨Nat.le_refl _, Nat.le_refl _⟩ ?_
    refine ob_iload d_Craft_watchOne_91 rfl ?_
    obtain ⟨D24, h25, h⟩ := ob_bv_e h
    refine ob_callVv (As := [.int x23, .int v3]) (rest := []) d_Craft_watchOne_92 c_Craft_watchOne_102 hk19 rfl rfl (Nat.le_of_ble_eq_true rfl) (c_Events_raise hk19 h25) ⟨Nat.le_refl _, Nat.le_refl _⟩ ⟨Nat.le_refl _, Nat.le_refl _⟩ ?_
    refine ob_aload d_Craft_watchOne_95 rfl ?_
    refine ob_iload d_Craft_watchOne_96 rfl ?_
    refine ob_push d_Craft_watchOne_97 ?_
    obtain ⟨x28, D26, h27, h⟩ := ob_bd_e h
    refine ob_callVi (As := [.int v2, .int (8 : Int32)]) (rest := []) d_Craft_watchOne_99 c_Craft_watchOne_112 hp_v1 rfl rfl (Nat.le_of_ble_eq_true rfl) (c_Table_get hp_v1 h27) ⟨Nat.le_refl _, Nat.le_refl _⟩ ⟨Nat.le_refl _, Nat.le_refl _⟩ ?_
    refine ob_push d_Craft_watchOne_102 ?_
    refine ob_icmp_ne d_Craft_watchOne_103 (fun hc => ?_) (fun hc => ?_)
    · replace h := ob_iff hc h
      exact ob_ve h (ob_vret d_Craft_watchOne_129 rfl)
    · replace h := ob_ift hc h
      refine ob_aload d_Craft_watchOne_106 rfl ?_
      refine ob_getI d_Craft_watchOne_107 F_10_9 l_Craft_42 hp_v0 ?_
      refine ob_push d_Craft_watchOne_110 ?_
      refine ob_icmp_ne d_Craft_watchOne_111 (fun hc => ?_) (fun hc => ?_)
      · replace h := ob_iff hc h
        exact ob_ve h (ob_vret d_Craft_watchOne_129 rfl)
      · replace h := ob_ift hc h
        refine ob_aload d_Craft_watchOne_114 rfl ?_
        refine ob_aload d_Craft_watchOne_115 rfl ?_
        refine ob_getI d_Craft_watchOne_116 F_10_8 l_Craft_45 hp_v0 ?_
        refine ob_aload d_Craft_watchOne_119 rfl ?_
        refine ob_getI d_Craft_watchOne_120 F_10_0 l_Craft_9 hp_v0 ?_
        refine ob_iadd d_Craft_watchOne_123 ?_
        refine ob_push d_Craft_watchOne_124 ?_
        refine ob_isub d_Craft_watchOne_125 ?_
        replace h := ob_lt_e h
        refine ob_putI d_Craft_watchOne_126 F_10_9 l_Craft_42 hp_v0 ?_
        exact ob_ve h (ob_vret d_Craft_watchOne_129 rfl)
  · replace h := ob_iff hc h
    exact ob_ve h (ob_vret d_Craft_watchOne_69 rfl)
def f_Craft_watchOne (S : ob_S) (v0 : Nat) (v1 : Nat) (v2 : Int32) (D : ob_D) : Option (ob_D) :=
  ob_bd (f_Table_get S v1 v2 (3 : Int32) D) fun x3 D1 => ob_bd (f_Craft_read S v0 x3 D1) fun x6 D4 => ob_bd (f_Table_get S v1 v2 (5 : Int32) D4) fun x9 D7 => (if x6 < x9 then f_Craft_watchOne_L40 S v0 v1 v2 x6 D7 else ob_bd (f_Table_get S v1 v2 (6 : Int32) D7) fun x32 D30 => (if x32 < x6 then f_Craft_watchOne_L40 S v0 v1 v2 x6 D30 else ob_bv (f_Table_set S v1 v2 (2 : Int32) (0 : Int32) D30) fun D33 => some D33))
theorem c_Craft_watchOne {l : Launch} {E : ob_E} {S : ob_S} {D : ob_D} {v0 : Nat} {v1 : Nat} {v2 : Int32} {D' : ob_D} (hp_v0 : S.1 v0 = 11) (hp_v1 : S.1 v1 = 8) (h : f_Craft_watchOne S v0 v1 v2 D = some D') : ob_M l E k_Craft_watchOne [.ref v0, .ref v1, .int v2] S D none S D' := by
  refine ob_ofV (lo := [(0, .ref v0), (1, .ref v1), (2, .int v2)]) (by decide) rfl (Nat.le_of_ble_eq_true rfl) rfl (Nat.le_refl _) (Nat.le_refl _) ?_
  rw [f_Craft_watchOne] at h
  refine ob_aload d_Craft_watchOne_0 rfl ?_
  refine ob_aload d_Craft_watchOne_1 rfl ?_
  refine ob_iload d_Craft_watchOne_2 rfl ?_
  refine ob_push d_Craft_watchOne_3 ?_
  obtain ⟨x3, D1, h2, h⟩ := ob_bd_e h
  refine ob_callVi (As := [.int v2, .int (3 : Int32)]) (rest := [.ref v0]) d_Craft_watchOne_4 c_Craft_watchOne_112 hp_v1 rfl rfl (Nat.le_of_ble_eq_true rfl) (c_Table_get hp_v1 h2) ⟨Nat.le_refl _, Nat.le_refl _⟩ ⟨Nat.le_refl _, Nat.le_refl _⟩ ?_
  obtain ⟨x6, D4, h5, h⟩ := ob_bd_e h
  refine ob_callVi (As := [.int x3]) (rest := []) d_Craft_watchOne_7 c_Craft_watchOne_120 hp_v0 rfl rfl (Nat.le_of_ble_eq_true rfl) (c_Craft_read hp_v0 h5) ⟨Nat.le_refl _, Nat.le_refl _⟩ ⟨Nat.le_refl _, Nat.le_refl _⟩ ?_
  refine ob_istore (lo2 := [(0, .ref v0), (1, .ref v1), (2, .int v2), (3, .int x6)]) d_Craft_watchOne_10 rfl ?_
  refine ob_iload d_Craft_watchOne_11 rfl ?_
  refine ob_aload d_Craft_watchOne_12 rfl ?_
  refine ob_iload d_Craft_watchOne_13 rfl ?_
  refine ob_push d_Craft_watchOne_14 ?_
  obtain ⟨x9, D7, h8, h⟩ := ob_bd_e h
  refine ob_callVi (As := [.int v2, .int (5 : Int32)]) (rest := [.int x6]) d_Craft_watchOne_15 c_Craft_watchOne_112 hp_v1 rfl rfl (Nat.le_of_ble_eq_true rfl) (c_Table_get hp_v1 h8) ⟨Nat.le_refl _, Nat.le_refl _⟩ ⟨Nat.le_refl _, Nat.le_refl _⟩ ?_
  refine ob_icmp_lt d_Craft_watchOne_18 (fun hc => ?_) (fun hc => ?_)
  · replace h := ob_ift hc h
    exact v_Craft_watchOne_L40 v0 v1 v2 x6 D7 hp_v0 hp_v1 h
  · replace h := ob_iff hc h
    refine ob_iload d_Craft_watchOne_21 rfl ?_
    refine ob_aload d_Craft_watchOne_22 rfl ?_
    refine ob_iload d_Craft_watchOne_23 rfl ?_
    refine ob_push d_Craft_watchOne_24 ?_
    obtain ⟨x32, D30, h31, h⟩ := ob_bd_e h
    refine ob_callVi (As := [.int v2, .int (6 : Int32)]) (rest := [.int x6]) d_Craft_watchOne_26 c_Craft_watchOne_112 hp_v1 rfl rfl (Nat.le_of_ble_eq_true rfl) (c_Table_get hp_v1 h31) ⟨Nat.le_refl _, Nat.le_refl _⟩ ⟨Nat.le_refl _, Nat.le_refl _⟩ ?_
    refine ob_icmp_gt d_Craft_watchOne_29 (fun hc => ?_) (fun hc => ?_)
    · replace h := ob_ift hc h
      exact v_Craft_watchOne_L40 v0 v1 v2 x6 D30 hp_v0 hp_v1 h
    · replace h := ob_iff hc h
      refine ob_aload d_Craft_watchOne_32 rfl ?_
      refine ob_iload d_Craft_watchOne_33 rfl ?_
      refine ob_push d_Craft_watchOne_34 ?_
      refine ob_push d_Craft_watchOne_35 ?_
      obtain ⟨D33, h34, h⟩ := ob_bv_e h
      refine ob_callVv (As := [.int v2, .int (2 : Int32), .int (0 : Int32)]) (rest := []) d_Craft_watchOne_36 c_Craft_watchOne_124 hp_v1 rfl rfl (Nat.le_of_ble_eq_true rfl) (c_Table_set hp_v1 h34) ⟨Nat.le_refl _, Nat.le_refl _⟩ ⟨Nat.le_refl _, Nat.le_refl _⟩ ?_
      exact ob_ve h (ob_vret d_Craft_watchOne_39 rfl)
-- OrbitBox$Craft.watch(LOrbitBox$Table;)V
theorem d_Craft_watch_0 : ob_dk k_Craft_watch 0 1 (0 : Int32) (.iconst 0) 1 := ⟨by decide +kernel, rfl, show Int32.ofInt 0 = (0 : Int32) by decide +kernel⟩
theorem d_Craft_watch_32 : ob_dc k_Craft_watch 32 (.return_) 1 33 := ⟨by decide +kernel, rfl⟩
theorem d_Craft_watch_12 : ob_dk k_Craft_watch 12 13 (1 : Int32) (.iconst 1) 1 := ⟨by decide +kernel, rfl, show Int32.ofInt 1 = (1 : Int32) by decide +kernel⟩
theorem d_Craft_watch_16 : ob_dk k_Craft_watch 16 17 (1 : Int32) (.iconst 1) 1 := ⟨by decide +kernel, rfl, show Int32.ofInt 1 = (1 : Int32) by decide +kernel⟩
theorem d_Craft_watch_26 : ob_di k_Craft_watch 26 29 2 1 (1 : Int32) := ⟨by decide +kernel, rfl, by decide +kernel, by decide +kernel⟩
theorem d_Craft_watch_29 : ob_db k_Craft_watch 29 (.goto (-27)) (-27) 32 2 := ⟨by decide +kernel, rfl, by decide⟩
theorem d_Craft_watch_23 : ob_dc k_Craft_watch 23 (.invokevirtual 116) 3 26 := ⟨by decide +kernel, rfl⟩
theorem d_Craft_watch_22 : ob_dv ob_lc k_Craft_watch 22 23 2 (.iload_n 2) 1 := ⟨by decide +kernel, rfl, rfl⟩
theorem d_Craft_watch_21 : ob_dv ob_ac k_Craft_watch 21 22 1 (.aload_n 1) 1 := ⟨by decide +kernel, rfl, rfl⟩
theorem d_Craft_watch_20 : ob_dv ob_ac k_Craft_watch 20 21 0 (.aload_n 0) 1 := ⟨by decide +kernel, rfl, rfl⟩
theorem d_Craft_watch_17 : ob_db k_Craft_watch 17 (.if_icmp .ne 9) 9 20 26 := ⟨by decide +kernel, rfl, by decide⟩
theorem d_Craft_watch_13 : ob_dc k_Craft_watch 13 (.invokevirtual 112) 3 16 := ⟨by decide +kernel, rfl⟩
theorem d_Craft_watch_11 : ob_dv ob_lc k_Craft_watch 11 12 2 (.iload_n 2) 1 := ⟨by decide +kernel, rfl, rfl⟩
theorem d_Craft_watch_10 : ob_dv ob_ac k_Craft_watch 10 11 1 (.aload_n 1) 1 := ⟨by decide +kernel, rfl, rfl⟩
theorem d_Craft_watch_7 : ob_db k_Craft_watch 7 (.if_icmp .ge 25) 25 10 32 := ⟨by decide +kernel, rfl, by decide⟩
theorem d_Craft_watch_4 : ob_dc k_Craft_watch 4 (.getfield 109) 3 7 := ⟨by decide +kernel, rfl⟩
theorem d_Craft_watch_3 : ob_dv ob_ac k_Craft_watch 3 4 1 (.aload_n 1) 1 := ⟨by decide +kernel, rfl, rfl⟩
theorem d_Craft_watch_2 : ob_dv ob_lc k_Craft_watch 2 3 2 (.iload_n 2) 1 := ⟨by decide +kernel, rfl, rfl⟩
theorem d_Craft_watch_1 : ob_dv (ob_sc k_Craft_watch.2.2.2.1) k_Craft_watch 1 2 2 (.istore_n 2) 1 := ⟨by decide +kernel, rfl, ⟨rfl, by decide +kernel⟩⟩
theorem c_Craft_watch_116 : ob_vd k_Craft_watch k_Craft_watchOne 116 2 10 := ⟨cw_Craft_watchOne, yd_Craft_watchOne, w_878, w_880, wp_41, w_12, ⟨_, _, rfl⟩, by decide, by decide⟩
theorem c_Craft_watch_112 : ob_vd k_Craft_watch k_Table_get 112 2 7 := ⟨cw_Table_get, yd_Table_get, w_877, w_684, w_685, w_9, ⟨_, _, rfl⟩, by decide, by decide⟩
def f_Craft_watch_L2 (S : ob_S) : Nat → Nat → Nat → Int32 → ob_D → Option (ob_D)
  | 0, _, _, _, _ => none
  | n + 1, v0, v1, v2, D => (if (D.1 v1 3) ≤ v2 then some D else ob_bd (f_Table_get S v1 v2 (1 : Int32) D) fun x3 D1 => (if x3 = (1 : Int32) then ob_bv (f_Craft_watchOne S v0 v1 v2 D1) fun D4 => f_Craft_watch_L2 S n v0 v1 (v2 + (1 : Int32)) D4 else f_Craft_watch_L2 S n v0 v1 (v2 + (1 : Int32)) D1))
theorem v_Craft_watch_L2 {l : Launch} {E : ob_E} {S : ob_S} {D' : ob_D} : ∀ (n : Nat), ∀ (v0 : Nat) (v1 : Nat) (v2 : Int32) (D : ob_D), S.1 v0 = 11 → S.1 v1 = 8 → f_Craft_watch_L2 S n v0 v1 v2 D = some D' → ob_V l E k_Craft_watch 2 [(0, .ref v0), (1, .ref v1), (2, .int v2)] [] S D none S D' := by
  intro n
  induction n with
  | zero =>
    intro v0 v1 v2 D hp_v0 hp_v1 h
    have h : none = some D' := h
    cases h
  | succ n ih =>
    intro v0 v1 v2 D hp_v0 hp_v1 h
    rw [f_Craft_watch_L2] at h
    refine ob_iload d_Craft_watch_2 rfl ?_
    refine ob_aload d_Craft_watch_3 rfl ?_
    refine ob_getI d_Craft_watch_4 F_7_3 l_Craft_109 hp_v1 ?_
    refine ob_icmp_ge d_Craft_watch_7 (fun hc => ?_) (fun hc => ?_)
    · replace h := ob_ift hc h
      exact ob_ve h (ob_vret d_Craft_watch_32 rfl)
    · replace h := ob_iff hc h
      refine ob_aload d_Craft_watch_10 rfl ?_
      refine ob_iload d_Craft_watch_11 rfl ?_
      refine ob_push d_Craft_watch_12 ?_
      obtain ⟨x3, D1, h2, h⟩ := ob_bd_e h
      refine ob_callVi (As := [.int v2, .int (1 : Int32)]) (rest := []) d_Craft_watch_13 c_Craft_watch_112 hp_v1 rfl rfl (Nat.le_of_ble_eq_true rfl) (c_Table_get hp_v1 h2) ⟨Nat.le_refl _, Nat.le_refl _⟩ ⟨Nat.le_refl _, Nat.le_refl _⟩ ?_
      refine ob_push d_Craft_watch_16 ?_
      refine ob_icmp_ne d_Craft_watch_17 (fun hc => ?_) (fun hc => ?_)
      · replace h := ob_iff hc h
        refine ob_iinc (lo2 := [(0, .ref v0), (1, .ref v1), (2, .int (v2 + (1 : Int32)))]) d_Craft_watch_26 rfl rfl ?_
        refine ob_goto d_Craft_watch_29 ?_
        exact ih v0 v1 (v2 + (1 : Int32)) D1 hp_v0 hp_v1 h
      · replace h := ob_ift hc h
        refine ob_aload d_Craft_watch_20 rfl ?_
        refine ob_aload d_Craft_watch_21 rfl ?_
        refine ob_iload d_Craft_watch_22 rfl ?_
        obtain ⟨D4, h5, h⟩ := ob_bv_e h
        refine ob_callVv (As := [.ref v1, .int v2]) (rest := []) d_Craft_watch_23 c_Craft_watch_116 hp_v0 rfl rfl (Nat.le_of_ble_eq_true rfl) (c_Craft_watchOne hp_v0 hp_v1 h5) ⟨Nat.le_refl _, Nat.le_refl _⟩ ⟨Nat.le_refl _, Nat.le_refl _⟩ ?_
        refine ob_iinc (lo2 := [(0, .ref v0), (1, .ref v1), (2, .int (v2 + (1 : Int32)))]) d_Craft_watch_26 rfl rfl ?_
        refine ob_goto d_Craft_watch_29 ?_
        exact ih v0 v1 (v2 + (1 : Int32)) D4 hp_v0 hp_v1 h
def f_Craft_watch (S : ob_S) (v0 : Nat) (v1 : Nat) (D : ob_D) : Option (ob_D) :=
  f_Craft_watch_L2 S ob_FU v0 v1 (0 : Int32) D
theorem c_Craft_watch {l : Launch} {E : ob_E} {S : ob_S} {D : ob_D} {v0 : Nat} {v1 : Nat} {D' : ob_D} (hp_v0 : S.1 v0 = 11) (hp_v1 : S.1 v1 = 8) (h : f_Craft_watch S v0 v1 D = some D') : ob_M l E k_Craft_watch [.ref v0, .ref v1] S D none S D' := by
  refine ob_ofV (lo := [(0, .ref v0), (1, .ref v1)]) (by decide) rfl (Nat.le_of_ble_eq_true rfl) rfl (Nat.le_refl _) (Nat.le_refl _) ?_
  rw [f_Craft_watch] at h
  refine ob_push d_Craft_watch_0 ?_
  refine ob_istore (lo2 := [(0, .ref v0), (1, .ref v1), (2, .int (0 : Int32))]) d_Craft_watch_1 rfl ?_
  exact v_Craft_watch_L2 ob_FU v0 v1 (0 : Int32) D hp_v0 hp_v1 h
-- OrbitBox$Craft.heedAlarm()V
theorem d_Craft_heedAlarm_4 : ob_dk k_Craft_heedAlarm 4 5 (-1 : Int32) (.iconst (-1)) 1 := ⟨by decide +kernel, rfl, show Int32.ofInt (-1) = (-1 : Int32) by decide +kernel⟩
theorem d_Craft_heedAlarm_29 : ob_dc k_Craft_heedAlarm 29 (.return_) 1 30 := ⟨by decide +kernel, rfl⟩
theorem d_Craft_heedAlarm_20 : ob_dk k_Craft_heedAlarm 20 21 (-1 : Int32) (.iconst (-1)) 1 := ⟨by decide +kernel, rfl, show Int32.ofInt (-1) = (-1 : Int32) by decide +kernel⟩
theorem d_Craft_heedAlarm_25 : ob_dk k_Craft_heedAlarm 25 26 (0 : Int32) (.iconst 0) 1 := ⟨by decide +kernel, rfl, show Int32.ofInt 0 = (0 : Int32) by decide +kernel⟩
theorem d_Craft_heedAlarm_26 : ob_dc k_Craft_heedAlarm 26 (.invokevirtual 128) 3 29 := ⟨by decide +kernel, rfl⟩
theorem d_Craft_heedAlarm_24 : ob_dv ob_ac k_Craft_heedAlarm 24 25 0 (.aload_n 0) 1 := ⟨by decide +kernel, rfl, rfl⟩
theorem d_Craft_heedAlarm_21 : ob_dc k_Craft_heedAlarm 21 (.putfield 42) 3 24 := ⟨by decide +kernel, rfl⟩
theorem d_Craft_heedAlarm_19 : ob_dv ob_ac k_Craft_heedAlarm 19 20 0 (.aload_n 0) 1 := ⟨by decide +kernel, rfl, rfl⟩
theorem d_Craft_heedAlarm_16 : ob_db k_Craft_heedAlarm 16 (.if_icmp .gt 13) 13 19 29 := ⟨by decide +kernel, rfl, by decide⟩
theorem d_Craft_heedAlarm_13 : ob_dc k_Craft_heedAlarm 13 (.getfield 45) 3 16 := ⟨by decide +kernel, rfl⟩
theorem d_Craft_heedAlarm_12 : ob_dv ob_ac k_Craft_heedAlarm 12 13 0 (.aload_n 0) 1 := ⟨by decide +kernel, rfl, rfl⟩
theorem d_Craft_heedAlarm_9 : ob_dc k_Craft_heedAlarm 9 (.getfield 42) 3 12 := ⟨by decide +kernel, rfl⟩
theorem d_Craft_heedAlarm_8 : ob_dv ob_ac k_Craft_heedAlarm 8 9 0 (.aload_n 0) 1 := ⟨by decide +kernel, rfl, rfl⟩
theorem d_Craft_heedAlarm_5 : ob_db k_Craft_heedAlarm 5 (.if_icmp .eq 24) 24 8 29 := ⟨by decide +kernel, rfl, by decide⟩
theorem d_Craft_heedAlarm_1 : ob_dc k_Craft_heedAlarm 1 (.getfield 42) 3 4 := ⟨by decide +kernel, rfl⟩
theorem d_Craft_heedAlarm_0 : ob_dv ob_ac k_Craft_heedAlarm 0 1 0 (.aload_n 0) 1 := ⟨by decide +kernel, rfl, rfl⟩
theorem c_Craft_heedAlarm_128 : ob_vd k_Craft_heedAlarm k_Craft_changeMode 128 1 10 := ⟨cw_Craft_changeMode, yd_Craft_changeMode, w_924, w_793, w_794, w_12, ⟨_, _, rfl⟩, by decide, by decide⟩
def f_Craft_heedAlarm (S : ob_S) (v0 : Nat) (D : ob_D) : Option (ob_D) :=
  (if (D.1 v0 9) = (-1 : Int32) then some D else (if (D.1 v0 8) < (D.1 v0 9) then some D else ob_lt (ob_pI D v0 9 (-1 : Int32)) fun D1 => ob_bv (f_Craft_changeMode S v0 (0 : Int32) D1) fun D2 => some D2))
theorem c_Craft_heedAlarm {l : Launch} {E : ob_E} {S : ob_S} {D : ob_D} {v0 : Nat} {D' : ob_D} (hp_v0 : S.1 v0 = 11) (h : f_Craft_heedAlarm S v0 D = some D') : ob_M l E k_Craft_heedAlarm [.ref v0] S D none S D' := by
  refine ob_ofV (lo := [(0, .ref v0)]) (by decide) rfl (Nat.le_of_ble_eq_true rfl) rfl (Nat.le_refl _) (Nat.le_refl _) ?_
  rw [f_Craft_heedAlarm] at h
  refine ob_aload d_Craft_heedAlarm_0 rfl ?_
  refine ob_getI d_Craft_heedAlarm_1 F_10_9 l_Craft_42 hp_v0 ?_
  refine ob_push d_Craft_heedAlarm_4 ?_
  refine ob_icmp_eq d_Craft_heedAlarm_5 (fun hc => ?_) (fun hc => ?_)
  · replace h := ob_ift hc h
    exact ob_ve h (ob_vret d_Craft_heedAlarm_29 rfl)
  · replace h := ob_iff hc h
    refine ob_aload d_Craft_heedAlarm_8 rfl ?_
    refine ob_getI d_Craft_heedAlarm_9 F_10_9 l_Craft_42 hp_v0 ?_
    refine ob_aload d_Craft_heedAlarm_12 rfl ?_
    refine ob_getI d_Craft_heedAlarm_13 F_10_8 l_Craft_45 hp_v0 ?_
    refine ob_icmp_gt d_Craft_heedAlarm_16 (fun hc => ?_) (fun hc => ?_)
    · replace h := ob_ift hc h
      exact ob_ve h (ob_vret d_Craft_heedAlarm_29 rfl)
    · replace h := ob_iff hc h
      refine ob_aload d_Craft_heedAlarm_19 rfl ?_
      refine ob_push d_Craft_heedAlarm_20 ?_
      replace h := ob_lt_e h
      refine ob_putI d_Craft_heedAlarm_21 F_10_9 l_Craft_42 hp_v0 ?_
      refine ob_aload d_Craft_heedAlarm_24 rfl ?_
      refine ob_push d_Craft_heedAlarm_25 ?_
      obtain ⟨D2, h3, h⟩ := ob_bv_e h
      refine ob_callVv (As := [.int (0 : Int32)]) (rest := []) d_Craft_heedAlarm_26 c_Craft_heedAlarm_128 hp_v0 rfl rfl (Nat.le_of_ble_eq_true rfl) (c_Craft_changeMode hp_v0 h3) ⟨Nat.le_refl _, Nat.le_refl _⟩ ⟨Nat.le_refl _, Nat.le_refl _⟩ ?_
      exact ob_ve h (ob_vret d_Craft_heedAlarm_29 rfl)
