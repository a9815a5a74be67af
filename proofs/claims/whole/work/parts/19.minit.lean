-- OrbitBoxModel.within(III)I
theorem d_Model_within_19 : ob_dc k_Model_within 19 (.ireturn) 1 20 := ⟨by decide +kernel, rfl⟩
theorem d_Model_within_18 : ob_dv ob_lc k_Model_within 18 19 0 (.iload_n 0) 1 := ⟨by decide +kernel, rfl, rfl⟩
theorem d_Model_within_15 : ob_db k_Model_within 15 (.goto 4) 4 18 19 := ⟨by decide +kernel, rfl, by decide⟩
theorem d_Model_within_14 : ob_dv ob_lc k_Model_within 14 15 2 (.iload_n 2) 1 := ⟨by decide +kernel, rfl, rfl⟩
theorem d_Model_within_11 : ob_db k_Model_within 11 (.if_icmp .le 7) 7 14 18 := ⟨by decide +kernel, rfl, by decide⟩
theorem d_Model_within_10 : ob_dv ob_lc k_Model_within 10 11 2 (.iload_n 2) 1 := ⟨by decide +kernel, rfl, rfl⟩
theorem d_Model_within_9 : ob_dv ob_lc k_Model_within 9 10 0 (.iload_n 0) 1 := ⟨by decide +kernel, rfl, rfl⟩
theorem d_Model_within_6 : ob_db k_Model_within 6 (.goto 13) 13 9 19 := ⟨by decide +kernel, rfl, by decide⟩
theorem d_Model_within_5 : ob_dv ob_lc k_Model_within 5 6 1 (.iload_n 1) 1 := ⟨by decide +kernel, rfl, rfl⟩
theorem d_Model_within_2 : ob_db k_Model_within 2 (.if_icmp .ge 7) 7 5 9 := ⟨by decide +kernel, rfl, by decide⟩
theorem d_Model_within_1 : ob_dv ob_lc k_Model_within 1 2 1 (.iload_n 1) 1 := ⟨by decide +kernel, rfl, rfl⟩
theorem d_Model_within_0 : ob_dv ob_lc k_Model_within 0 1 0 (.iload_n 0) 1 := ⟨by decide +kernel, rfl, rfl⟩
def f_Model_within (S : ob_S) (v0 : Int32) (v1 : Int32) (v2 : Int32) (D : ob_D) : Option (Int32 × ob_D) :=
  (if v1 ≤ v0 then (if v0 ≤ v2 then some (v0, D) else some (v2, D)) else some (v1, D))
theorem c_Model_within {l : Launch} {E : ob_E} {S : ob_S} {D : ob_D} {v0 : Int32} {v1 : Int32} {v2 : Int32} {r : Int32} {D' : ob_D}  (h : f_Model_within S v0 v1 v2 D = some (r, D')) : ob_M l E k_Model_within [.int v0, .int v1, .int v2] S D (some (.int r)) S D' := by
  refine ob_ofV (lo := [(0, .int v0), (1, .int v1), (2, .int v2)]) (by decide) rfl (Nat.le_of_ble_eq_true rfl) rfl (Nat.le_refl _) (Nat.le_refl _) ?_
  rw [f_Model_within] at h
  refine ob_iload d_Model_within_0 rfl ?_
  refine ob_iload d_Model_within_1 rfl ?_
  refine ob_icmp_ge d_Model_within_2 (fun hc => ?_) (fun hc => ?_)
  · replace h := ob_ift hc h
    refine ob_iload d_Model_within_9 rfl ?_
    refine ob_iload d_Model_within_10 rfl ?_
    refine ob_icmp_le d_Model_within_11 (fun hc => ?_) (fun hc => ?_)
    · replace h := ob_ift hc h
      refine ob_iload d_Model_within_18 rfl ?_
      exact ob_ie h (ob_iret d_Model_within_19 rfl rfl)
    · replace h := ob_iff hc h
      refine ob_iload d_Model_within_14 rfl ?_
      refine ob_goto d_Model_within_15 ?_
      exact ob_ie h (ob_iret d_Model_within_19 rfl rfl)
  · replace h := ob_iff hc h
    refine ob_iload d_Model_within_5 rfl ?_
    refine ob_goto d_Model_within_6 ?_
    exact ob_ie h (ob_iret d_Model_within_19 rfl rfl)
-- OrbitBoxModel.<init>(IIIII)V
theorem d_Model_init_0 : ob_dv ob_ac k_Model_init 0 1 0 (.aload_n 0) 1 := ⟨by decide +kernel, rfl, rfl⟩
theorem d_Model_init_1 : ob_dc k_Model_init 1 (.invokespecial 1) 3 4 := ⟨by decide +kernel, rfl⟩
theorem d_Model_init_4 : ob_dv ob_ac k_Model_init 4 5 0 (.aload_n 0) 1 := ⟨by decide +kernel, rfl, rfl⟩
theorem d_Model_init_5 : ob_dk k_Model_init 5 8 (4096 : Int32) (.sipush 4096) 3 := ⟨by decide +kernel, rfl, show (Int16.ofInt 4096).toInt32 = (4096 : Int32) by decide +kernel⟩
theorem d_Model_init_8 : ob_dc k_Model_init 8 (.newarray .byte) 2 10 := ⟨by decide +kernel, rfl⟩
theorem d_Model_init_10 : ob_dc k_Model_init 10 (.putfield 7) 3 13 := ⟨by decide +kernel, rfl⟩
theorem d_Model_init_13 : ob_dv ob_ac k_Model_init 13 14 0 (.aload_n 0) 1 := ⟨by decide +kernel, rfl, rfl⟩
theorem d_Model_init_14 : ob_dk k_Model_init 14 16 (64 : Int32) (.bipush 64) 2 := ⟨by decide +kernel, rfl, show (Int8.ofInt 64).toInt32 = (64 : Int32) by decide +kernel⟩
theorem d_Model_init_16 : ob_dc k_Model_init 16 (.newarray .boolean) 2 18 := ⟨by decide +kernel, rfl⟩
theorem d_Model_init_18 : ob_dc k_Model_init 18 (.putfield 13) 3 21 := ⟨by decide +kernel, rfl⟩
theorem d_Model_init_21 : ob_dv ob_ac k_Model_init 21 22 0 (.aload_n 0) 1 := ⟨by decide +kernel, rfl, rfl⟩
theorem d_Model_init_22 : ob_dk k_Model_init 22 25 (280 : Int32) (.sipush 280) 3 := ⟨by decide +kernel, rfl, show (Int16.ofInt 280).toInt32 = (280 : Int32) by decide +kernel⟩
theorem d_Model_init_25 : ob_dc k_Model_init 25 (.newarray .byte) 2 27 := ⟨by decide +kernel, rfl⟩
theorem d_Model_init_27 : ob_dc k_Model_init 27 (.putfield 17) 3 30 := ⟨by decide +kernel, rfl⟩
theorem d_Model_init_30 : ob_dv ob_ac k_Model_init 30 31 0 (.aload_n 0) 1 := ⟨by decide +kernel, rfl, rfl⟩
theorem d_Model_init_31 : ob_dk k_Model_init 31 33 (63 : Int32) (.bipush 63) 2 := ⟨by decide +kernel, rfl, show (Int8.ofInt 63).toInt32 = (63 : Int32) by decide +kernel⟩
theorem d_Model_init_33 : ob_dc k_Model_init 33 (.newarray .boolean) 2 35 := ⟨by decide +kernel, rfl⟩
theorem d_Model_init_35 : ob_dc k_Model_init 35 (.putfield 20) 3 38 := ⟨by decide +kernel, rfl⟩
theorem d_Model_init_38 : ob_dv ob_ac k_Model_init 38 39 0 (.aload_n 0) 1 := ⟨by decide +kernel, rfl, rfl⟩
theorem d_Model_init_39 : ob_dk k_Model_init 39 40 (1 : Int32) (.iconst 1) 1 := ⟨by decide +kernel, rfl, show Int32.ofInt 1 = (1 : Int32) by decide +kernel⟩
theorem d_Model_init_40 : ob_dc k_Model_init 40 (.putfield 23) 3 43 := ⟨by decide +kernel, rfl⟩
theorem d_Model_init_43 : ob_dv ob_ac k_Model_init 43 44 0 (.aload_n 0) 1 := ⟨by decide +kernel, rfl, rfl⟩
theorem d_Model_init_44 : ob_dk k_Model_init 44 47 (2080 : Int32) (.sipush 2080) 3 := ⟨by decide +kernel, rfl, show (Int16.ofInt 2080).toInt32 = (2080 : Int32) by decide +kernel⟩
theorem d_Model_init_47 : ob_dc k_Model_init 47 (.newarray .byte) 2 49 := ⟨by decide +kernel, rfl⟩
theorem d_Model_init_49 : ob_dc k_Model_init 49 (.putfield 27) 3 52 := ⟨by decide +kernel, rfl⟩
theorem d_Model_init_52 : ob_dv ob_ac k_Model_init 52 53 0 (.aload_n 0) 1 := ⟨by decide +kernel, rfl, rfl⟩
theorem d_Model_init_53 : ob_dk k_Model_init 53 55 (8 : Int32) (.bipush 8) 2 := ⟨by decide +kernel, rfl, show (Int8.ofInt 8).toInt32 = (8 : Int32) by decide +kernel⟩
theorem d_Model_init_55 : ob_dc k_Model_init 55 (.newarray .int) 2 57 := ⟨by decide +kernel, rfl⟩
theorem d_Model_init_57 : ob_dc k_Model_init 57 (.putfield 30) 3 60 := ⟨by decide +kernel, rfl⟩
theorem d_Model_init_60 : ob_dv ob_ac k_Model_init 60 61 0 (.aload_n 0) 1 := ⟨by decide +kernel, rfl, rfl⟩
theorem d_Model_init_61 : ob_dk k_Model_init 61 64 (260 : Int32) (.sipush 260) 3 := ⟨by decide +kernel, rfl, show (Int16.ofInt 260).toInt32 = (260 : Int32) by decide +kernel⟩
theorem d_Model_init_64 : ob_dc k_Model_init 64 (.newarray .byte) 2 66 := ⟨by decide +kernel, rfl⟩
theorem d_Model_init_66 : ob_dc k_Model_init 66 (.putfield 34) 3 69 := ⟨by decide +kernel, rfl⟩
theorem d_Model_init_69 : ob_dv ob_ac k_Model_init 69 70 0 (.aload_n 0) 1 := ⟨by decide +kernel, rfl, rfl⟩
theorem d_Model_init_70 : ob_dk k_Model_init 70 73 (256 : Int32) (.sipush 256) 3 := ⟨by decide +kernel, rfl, show (Int16.ofInt 256).toInt32 = (256 : Int32) by decide +kernel⟩
theorem d_Model_init_73 : ob_dc k_Model_init 73 (.newarray .boolean) 2 75 := ⟨by decide +kernel, rfl⟩
theorem d_Model_init_75 : ob_dc k_Model_init 75 (.putfield 37) 3 78 := ⟨by decide +kernel, rfl⟩
theorem d_Model_init_78 : ob_dv ob_ac k_Model_init 78 79 0 (.aload_n 0) 1 := ⟨by decide +kernel, rfl, rfl⟩
theorem d_Model_init_79 : ob_dk k_Model_init 79 82 (256 : Int32) (.sipush 256) 3 := ⟨by decide +kernel, rfl, show (Int16.ofInt 256).toInt32 = (256 : Int32) by decide +kernel⟩
theorem d_Model_init_82 : ob_dc k_Model_init 82 (.newarray .boolean) 2 84 := ⟨by decide +kernel, rfl⟩
theorem d_Model_init_84 : ob_dc k_Model_init 84 (.putfield 40) 3 87 := ⟨by decide +kernel, rfl⟩
theorem d_Model_init_87 : ob_dv ob_ac k_Model_init 87 88 0 (.aload_n 0) 1 := ⟨by decide +kernel, rfl, rfl⟩
theorem d_Model_init_88 : ob_dk k_Model_init 88 91 (256 : Int32) (.sipush 256) 3 := ⟨by decide +kernel, rfl, show (Int16.ofInt 256).toInt32 = (256 : Int32) by decide +kernel⟩
theorem d_Model_init_91 : ob_dc k_Model_init 91 (.newarray .int) 2 93 := ⟨by decide +kernel, rfl⟩
theorem d_Model_init_93 : ob_dc k_Model_init 93 (.putfield 43) 3 96 := ⟨by decide +kernel, rfl⟩
theorem d_Model_init_96 : ob_dv ob_ac k_Model_init 96 97 0 (.aload_n 0) 1 := ⟨by decide +kernel, rfl, rfl⟩
theorem d_Model_init_97 : ob_dk k_Model_init 97 100 (256 : Int32) (.sipush 256) 3 := ⟨by decide +kernel, rfl, show (Int16.ofInt 256).toInt32 = (256 : Int32) by decide +kernel⟩
theorem d_Model_init_100 : ob_dc k_Model_init 100 (.newarray .int) 2 102 := ⟨by decide +kernel, rfl⟩
theorem d_Model_init_102 : ob_dc k_Model_init 102 (.putfield 46) 3 105 := ⟨by decide +kernel, rfl⟩
theorem d_Model_init_105 : ob_dv ob_ac k_Model_init 105 106 0 (.aload_n 0) 1 := ⟨by decide +kernel, rfl, rfl⟩
theorem d_Model_init_106 : ob_dk k_Model_init 106 109 (2048 : Int32) (.sipush 2048) 3 := ⟨by decide +kernel, rfl, show (Int16.ofInt 2048).toInt32 = (2048 : Int32) by decide +kernel⟩
theorem d_Model_init_109 : ob_dc k_Model_init 109 (.newarray .int) 2 111 := ⟨by decide +kernel, rfl⟩
theorem d_Model_init_111 : ob_dc k_Model_init 111 (.putfield 49) 3 114 := ⟨by decide +kernel, rfl⟩
theorem d_Model_init_114 : ob_dv ob_ac k_Model_init 114 115 0 (.aload_n 0) 1 := ⟨by decide +kernel, rfl, rfl⟩
theorem d_Model_init_115 : ob_dk k_Model_init 115 118 (4096 : Int32) (.sipush 4096) 3 := ⟨by decide +kernel, rfl, show (Int16.ofInt 4096).toInt32 = (4096 : Int32) by decide +kernel⟩
theorem d_Model_init_118 : ob_dc k_Model_init 118 (.newarray .byte) 2 120 := ⟨by decide +kernel, rfl⟩
theorem d_Model_init_120 : ob_dc k_Model_init 120 (.putfield 52) 3 123 := ⟨by decide +kernel, rfl⟩
theorem d_Model_init_123 : ob_dv ob_ac k_Model_init 123 124 0 (.aload_n 0) 1 := ⟨by decide +kernel, rfl, rfl⟩
theorem d_Model_init_124 : ob_dk k_Model_init 124 126 (8 : Int32) (.bipush 8) 2 := ⟨by decide +kernel, rfl, show (Int8.ofInt 8).toInt32 = (8 : Int32) by decide +kernel⟩
theorem d_Model_init_126 : ob_dc k_Model_init 126 (.newarray .int) 2 128 := ⟨by decide +kernel, rfl⟩
theorem d_Model_init_128 : ob_dc k_Model_init 128 (.putfield 55) 3 131 := ⟨by decide +kernel, rfl⟩
theorem d_Model_init_131 : ob_dv ob_ac k_Model_init 131 132 0 (.aload_n 0) 1 := ⟨by decide +kernel, rfl, rfl⟩
theorem d_Model_init_132 : ob_dk k_Model_init 132 134 (8 : Int32) (.bipush 8) 2 := ⟨by decide +kernel, rfl, show (Int8.ofInt 8).toInt32 = (8 : Int32) by decide +kernel⟩
theorem d_Model_init_134 : ob_dc k_Model_init 134 (.newarray .int) 2 136 := ⟨by decide +kernel, rfl⟩
theorem d_Model_init_136 : ob_dc k_Model_init 136 (.putfield 58) 3 139 := ⟨by decide +kernel, rfl⟩
theorem d_Model_init_139 : ob_dv ob_ac k_Model_init 139 140 0 (.aload_n 0) 1 := ⟨by decide +kernel, rfl, rfl⟩
theorem d_Model_init_140 : ob_dk k_Model_init 140 141 (1 : Int32) (.iconst 1) 1 := ⟨by decide +kernel, rfl, show Int32.ofInt 1 = (1 : Int32) by decide +kernel⟩
theorem d_Model_init_141 : ob_dc k_Model_init 141 (.putfield 61) 3 144 := ⟨by decide +kernel, rfl⟩
theorem d_Model_init_144 : ob_dv ob_ac k_Model_init 144 145 0 (.aload_n 0) 1 := ⟨by decide +kernel, rfl, rfl⟩
theorem d_Model_init_145 : ob_dk k_Model_init 145 147 (64 : Int32) (.bipush 64) 2 := ⟨by decide +kernel, rfl, show (Int8.ofInt 64).toInt32 = (64 : Int32) by decide +kernel⟩
theorem d_Model_init_147 : ob_dc k_Model_init 147 (.newarray .int) 2 149 := ⟨by decide +kernel, rfl⟩
theorem d_Model_init_149 : ob_dc k_Model_init 149 (.putfield 64) 3 152 := ⟨by decide +kernel, rfl⟩
theorem d_Model_init_152 : ob_dv ob_ac k_Model_init 152 153 0 (.aload_n 0) 1 := ⟨by decide +kernel, rfl, rfl⟩
theorem d_Model_init_153 : ob_dk k_Model_init 153 155 (64 : Int32) (.bipush 64) 2 := ⟨by decide +kernel, rfl, show (Int8.ofInt 64).toInt32 = (64 : Int32) by decide +kernel⟩
theorem d_Model_init_155 : ob_dc k_Model_init 155 (.newarray .int) 2 157 := ⟨by decide +kernel, rfl⟩
theorem d_Model_init_157 : ob_dc k_Model_init 157 (.putfield 67) 3 160 := ⟨by decide +kernel, rfl⟩
theorem d_Model_init_160 : ob_dv ob_ac k_Model_init 160 161 0 (.aload_n 0) 1 := ⟨by decide +kernel, rfl, rfl⟩
theorem d_Model_init_161 : ob_dk k_Model_init 161 164 (16640 : Int32) (.sipush 16640) 3 := ⟨by decide +kernel, rfl, show (Int16.ofInt 16640).toInt32 = (16640 : Int32) by decide +kernel⟩
theorem d_Model_init_164 : ob_dc k_Model_init 164 (.newarray .byte) 2 166 := ⟨by decide +kernel, rfl⟩
theorem d_Model_init_166 : ob_dc k_Model_init 166 (.putfield 70) 3 169 := ⟨by decide +kernel, rfl⟩
theorem d_Model_init_169 : ob_dv ob_ac k_Model_init 169 170 0 (.aload_n 0) 1 := ⟨by decide +kernel, rfl, rfl⟩
theorem d_Model_init_170 : ob_dk k_Model_init 170 173 (256 : Int32) (.sipush 256) 3 := ⟨by decide +kernel, rfl, show (Int16.ofInt 256).toInt32 = (256 : Int32) by decide +kernel⟩
theorem d_Model_init_173 : ob_dc k_Model_init 173 (.newarray .boolean) 2 175 := ⟨by decide +kernel, rfl⟩
theorem d_Model_init_175 : ob_dc k_Model_init 175 (.putfield 73) 3 178 := ⟨by decide +kernel, rfl⟩
theorem d_Model_init_178 : ob_dv ob_ac k_Model_init 178 179 0 (.aload_n 0) 1 := ⟨by decide +kernel, rfl, rfl⟩
theorem d_Model_init_179 : ob_dk k_Model_init 179 182 (256 : Int32) (.sipush 256) 3 := ⟨by decide +kernel, rfl, show (Int16.ofInt 256).toInt32 = (256 : Int32) by decide +kernel⟩
theorem d_Model_init_182 : ob_dc k_Model_init 182 (.newarray .boolean) 2 184 := ⟨by decide +kernel, rfl⟩
theorem d_Model_init_184 : ob_dc k_Model_init 184 (.putfield 76) 3 187 := ⟨by decide +kernel, rfl⟩
theorem d_Model_init_187 : ob_dv ob_ac k_Model_init 187 188 0 (.aload_n 0) 1 := ⟨by decide +kernel, rfl, rfl⟩
theorem d_Model_init_188 : ob_dk k_Model_init 188 191 (256 : Int32) (.sipush 256) 3 := ⟨by decide +kernel, rfl, show (Int16.ofInt 256).toInt32 = (256 : Int32) by decide +kernel⟩
theorem d_Model_init_191 : ob_dc k_Model_init 191 (.newarray .int) 2 193 := ⟨by decide +kernel, rfl⟩
theorem d_Model_init_193 : ob_dc k_Model_init 193 (.putfield 79) 3 196 := ⟨by decide +kernel, rfl⟩
theorem d_Model_init_196 : ob_dv ob_ac k_Model_init 196 197 0 (.aload_n 0) 1 := ⟨by decide +kernel, rfl, rfl⟩
theorem d_Model_init_197 : ob_dk k_Model_init 197 200 (256 : Int32) (.sipush 256) 3 := ⟨by decide +kernel, rfl, show (Int16.ofInt 256).toInt32 = (256 : Int32) by decide +kernel⟩
theorem d_Model_init_200 : ob_dc k_Model_init 200 (.newarray .int) 2 202 := ⟨by decide +kernel, rfl⟩
theorem d_Model_init_202 : ob_dc k_Model_init 202 (.putfield 82) 3 205 := ⟨by decide +kernel, rfl⟩
theorem d_Model_init_205 : ob_dv ob_ac k_Model_init 205 206 0 (.aload_n 0) 1 := ⟨by decide +kernel, rfl, rfl⟩
theorem d_Model_init_206 : ob_dk k_Model_init 206 209 (256 : Int32) (.sipush 256) 3 := ⟨by decide +kernel, rfl, show (Int16.ofInt 256).toInt32 = (256 : Int32) by decide +kernel⟩
theorem d_Model_init_209 : ob_dc k_Model_init 209 (.newarray .int) 2 211 := ⟨by decide +kernel, rfl⟩
theorem d_Model_init_211 : ob_dc k_Model_init 211 (.putfield 85) 3 214 := ⟨by decide +kernel, rfl⟩
theorem d_Model_init_214 : ob_dv ob_ac k_Model_init 214 215 0 (.aload_n 0) 1 := ⟨by decide +kernel, rfl, rfl⟩
theorem d_Model_init_215 : ob_dk k_Model_init 215 218 (256 : Int32) (.sipush 256) 3 := ⟨by decide +kernel, rfl, show (Int16.ofInt 256).toInt32 = (256 : Int32) by decide +kernel⟩
theorem d_Model_init_218 : ob_dc k_Model_init 218 (.newarray .int) 2 220 := ⟨by decide +kernel, rfl⟩
theorem d_Model_init_220 : ob_dc k_Model_init 220 (.putfield 88) 3 223 := ⟨by decide +kernel, rfl⟩
theorem d_Model_init_223 : ob_dv ob_ac k_Model_init 223 224 0 (.aload_n 0) 1 := ⟨by decide +kernel, rfl, rfl⟩
theorem d_Model_init_224 : ob_dk k_Model_init 224 227 (256 : Int32) (.sipush 256) 3 := ⟨by decide +kernel, rfl, show (Int16.ofInt 256).toInt32 = (256 : Int32) by decide +kernel⟩
theorem d_Model_init_227 : ob_dc k_Model_init 227 (.newarray .int) 2 229 := ⟨by decide +kernel, rfl⟩
theorem d_Model_init_229 : ob_dc k_Model_init 229 (.putfield 91) 3 232 := ⟨by decide +kernel, rfl⟩
theorem d_Model_init_232 : ob_dv ob_ac k_Model_init 232 233 0 (.aload_n 0) 1 := ⟨by decide +kernel, rfl, rfl⟩
theorem d_Model_init_233 : ob_dk k_Model_init 233 236 (256 : Int32) (.sipush 256) 3 := ⟨by decide +kernel, rfl, show (Int16.ofInt 256).toInt32 = (256 : Int32) by decide +kernel⟩
theorem d_Model_init_236 : ob_dc k_Model_init 236 (.newarray .int) 2 238 := ⟨by decide +kernel, rfl⟩
theorem d_Model_init_238 : ob_dc k_Model_init 238 (.putfield 94) 3 241 := ⟨by decide +kernel, rfl⟩
theorem d_Model_init_241 : ob_dv ob_ac k_Model_init 241 242 0 (.aload_n 0) 1 := ⟨by decide +kernel, rfl, rfl⟩
theorem d_Model_init_242 : ob_dk k_Model_init 242 245 (256 : Int32) (.sipush 256) 3 := ⟨by decide +kernel, rfl, show (Int16.ofInt 256).toInt32 = (256 : Int32) by decide +kernel⟩
theorem d_Model_init_245 : ob_dc k_Model_init 245 (.newarray .int) 2 247 := ⟨by decide +kernel, rfl⟩
theorem d_Model_init_247 : ob_dc k_Model_init 247 (.putfield 97) 3 250 := ⟨by decide +kernel, rfl⟩
theorem d_Model_init_250 : ob_dv ob_ac k_Model_init 250 251 0 (.aload_n 0) 1 := ⟨by decide +kernel, rfl, rfl⟩
theorem d_Model_init_251 : ob_dk k_Model_init 251 253 (32 : Int32) (.bipush 32) 2 := ⟨by decide +kernel, rfl, show (Int8.ofInt 32).toInt32 = (32 : Int32) by decide +kernel⟩
theorem d_Model_init_253 : ob_dc k_Model_init 253 (.newarray .boolean) 2 255 := ⟨by decide +kernel, rfl⟩
theorem d_Model_init_255 : ob_dc k_Model_init 255 (.putfield 100) 3 258 := ⟨by decide +kernel, rfl⟩
theorem d_Model_init_258 : ob_dv ob_ac k_Model_init 258 259 0 (.aload_n 0) 1 := ⟨by decide +kernel, rfl, rfl⟩
theorem d_Model_init_259 : ob_dk k_Model_init 259 261 (32 : Int32) (.bipush 32) 2 := ⟨by decide +kernel, rfl, show (Int8.ofInt 32).toInt32 = (32 : Int32) by decide +kernel⟩
theorem d_Model_init_261 : ob_dc k_Model_init 261 (.newarray .boolean) 2 263 := ⟨by decide +kernel, rfl⟩
theorem d_Model_init_263 : ob_dc k_Model_init 263 (.putfield 103) 3 266 := ⟨by decide +kernel, rfl⟩
theorem d_Model_init_266 : ob_dv ob_ac k_Model_init 266 267 0 (.aload_n 0) 1 := ⟨by decide +kernel, rfl, rfl⟩
theorem d_Model_init_267 : ob_dk k_Model_init 267 269 (32 : Int32) (.bipush 32) 2 := ⟨by decide +kernel, rfl, show (Int8.ofInt 32).toInt32 = (32 : Int32) by decide +kernel⟩
theorem d_Model_init_269 : ob_dc k_Model_init 269 (.newarray .boolean) 2 271 := ⟨by decide +kernel, rfl⟩
theorem d_Model_init_271 : ob_dc k_Model_init 271 (.putfield 106) 3 274 := ⟨by decide +kernel, rfl⟩
theorem d_Model_init_274 : ob_dv ob_ac k_Model_init 274 275 0 (.aload_n 0) 1 := ⟨by decide +kernel, rfl, rfl⟩
theorem d_Model_init_275 : ob_dk k_Model_init 275 278 (8320 : Int32) (.sipush 8320) 3 := ⟨by decide +kernel, rfl, show (Int16.ofInt 8320).toInt32 = (8320 : Int32) by decide +kernel⟩
theorem d_Model_init_278 : ob_dc k_Model_init 278 (.newarray .byte) 2 280 := ⟨by decide +kernel, rfl⟩
theorem d_Model_init_280 : ob_dc k_Model_init 280 (.putfield 109) 3 283 := ⟨by decide +kernel, rfl⟩
theorem d_Model_init_283 : ob_dv ob_ac k_Model_init 283 284 0 (.aload_n 0) 1 := ⟨by decide +kernel, rfl, rfl⟩
theorem d_Model_init_284 : ob_dk k_Model_init 284 286 (32 : Int32) (.bipush 32) 2 := ⟨by decide +kernel, rfl, show (Int8.ofInt 32).toInt32 = (32 : Int32) by decide +kernel⟩
theorem d_Model_init_286 : ob_dc k_Model_init 286 (.newarray .int) 2 288 := ⟨by decide +kernel, rfl⟩
theorem d_Model_init_288 : ob_dc k_Model_init 288 (.putfield 112) 3 291 := ⟨by decide +kernel, rfl⟩
theorem d_Model_init_291 : ob_dv ob_ac k_Model_init 291 292 0 (.aload_n 0) 1 := ⟨by decide +kernel, rfl, rfl⟩
theorem d_Model_init_292 : ob_dk k_Model_init 292 294 (64 : Int32) (.bipush 64) 2 := ⟨by decide +kernel, rfl, show (Int8.ofInt 64).toInt32 = (64 : Int32) by decide +kernel⟩
theorem d_Model_init_294 : ob_dc k_Model_init 294 (.newarray .int) 2 296 := ⟨by decide +kernel, rfl⟩
theorem d_Model_init_296 : ob_dc k_Model_init 296 (.putfield 115) 3 299 := ⟨by decide +kernel, rfl⟩
theorem d_Model_init_299 : ob_dv ob_ac k_Model_init 299 300 0 (.aload_n 0) 1 := ⟨by decide +kernel, rfl, rfl⟩
theorem d_Model_init_300 : ob_dk k_Model_init 300 302 (64 : Int32) (.bipush 64) 2 := ⟨by decide +kernel, rfl, show (Int8.ofInt 64).toInt32 = (64 : Int32) by decide +kernel⟩
theorem d_Model_init_302 : ob_dc k_Model_init 302 (.newarray .int) 2 304 := ⟨by decide +kernel, rfl⟩
theorem d_Model_init_304 : ob_dc k_Model_init 304 (.putfield 118) 3 307 := ⟨by decide +kernel, rfl⟩
theorem d_Model_init_307 : ob_dv ob_ac k_Model_init 307 308 0 (.aload_n 0) 1 := ⟨by decide +kernel, rfl, rfl⟩
theorem d_Model_init_308 : ob_dk k_Model_init 308 311 (512 : Int32) (.sipush 512) 3 := ⟨by decide +kernel, rfl, show (Int16.ofInt 512).toInt32 = (512 : Int32) by decide +kernel⟩
theorem d_Model_init_311 : ob_dc k_Model_init 311 (.newarray .byte) 2 313 := ⟨by decide +kernel, rfl⟩
theorem d_Model_init_313 : ob_dc k_Model_init 313 (.putfield 121) 3 316 := ⟨by decide +kernel, rfl⟩
theorem d_Model_init_316 : ob_dv ob_ac k_Model_init 316 317 0 (.aload_n 0) 1 := ⟨by decide +kernel, rfl, rfl⟩
theorem d_Model_init_317 : ob_dk k_Model_init 317 320 (8192 : Int32) (.sipush 8192) 3 := ⟨by decide +kernel, rfl, show (Int16.ofInt 8192).toInt32 = (8192 : Int32) by decide +kernel⟩
theorem d_Model_init_320 : ob_dc k_Model_init 320 (.newarray .int) 2 322 := ⟨by decide +kernel, rfl⟩
theorem d_Model_init_322 : ob_dc k_Model_init 322 (.putfield 124) 3 325 := ⟨by decide +kernel, rfl⟩
theorem d_Model_init_325 : ob_dv ob_ac k_Model_init 325 326 0 (.aload_n 0) 1 := ⟨by decide +kernel, rfl, rfl⟩
theorem d_Model_init_326 : ob_dk k_Model_init 326 328 (32 : Int32) (.bipush 32) 2 := ⟨by decide +kernel, rfl, show (Int8.ofInt 32).toInt32 = (32 : Int32) by decide +kernel⟩
theorem d_Model_init_328 : ob_dc k_Model_init 328 (.newarray .boolean) 2 330 := ⟨by decide +kernel, rfl⟩
theorem d_Model_init_330 : ob_dc k_Model_init 330 (.putfield 127) 3 333 := ⟨by decide +kernel, rfl⟩
theorem d_Model_init_333 : ob_dv ob_ac k_Model_init 333 334 0 (.aload_n 0) 1 := ⟨by decide +kernel, rfl, rfl⟩
theorem d_Model_init_334 : ob_dk k_Model_init 334 337 (16384 : Int32) (.sipush 16384) 3 := ⟨by decide +kernel, rfl, show (Int16.ofInt 16384).toInt32 = (16384 : Int32) by decide +kernel⟩
theorem d_Model_init_337 : ob_dc k_Model_init 337 (.newarray .byte) 2 339 := ⟨by decide +kernel, rfl⟩
theorem d_Model_init_339 : ob_dc k_Model_init 339 (.putfield 130) 3 342 := ⟨by decide +kernel, rfl⟩
theorem d_Model_init_342 : ob_dv ob_ac k_Model_init 342 343 0 (.aload_n 0) 1 := ⟨by decide +kernel, rfl, rfl⟩
theorem d_Model_init_343 : ob_dk k_Model_init 343 346 (900 : Int32) (.sipush 900) 3 := ⟨by decide +kernel, rfl, show (Int16.ofInt 900).toInt32 = (900 : Int32) by decide +kernel⟩
theorem d_Model_init_346 : ob_dc k_Model_init 346 (.newarray .int) 2 348 := ⟨by decide +kernel, rfl⟩
theorem d_Model_init_348 : ob_dc k_Model_init 348 (.putfield 133) 3 351 := ⟨by decide +kernel, rfl⟩
theorem d_Model_init_351 : ob_dv ob_ac k_Model_init 351 352 0 (.aload_n 0) 1 := ⟨by decide +kernel, rfl, rfl⟩
theorem d_Model_init_352 : ob_dk k_Model_init 352 355 (900 : Int32) (.sipush 900) 3 := ⟨by decide +kernel, rfl, show (Int16.ofInt 900).toInt32 = (900 : Int32) by decide +kernel⟩
theorem d_Model_init_355 : ob_dc k_Model_init 355 (.newarray .int) 2 357 := ⟨by decide +kernel, rfl⟩
theorem d_Model_init_357 : ob_dc k_Model_init 357 (.putfield 136) 3 360 := ⟨by decide +kernel, rfl⟩
theorem d_Model_init_360 : ob_dv ob_ac k_Model_init 360 361 0 (.aload_n 0) 1 := ⟨by decide +kernel, rfl, rfl⟩
theorem d_Model_init_361 : ob_dk k_Model_init 361 362 (2 : Int32) (.iconst 2) 1 := ⟨by decide +kernel, rfl, show Int32.ofInt 2 = (2 : Int32) by decide +kernel⟩
theorem d_Model_init_362 : ob_dk k_Model_init 362 365 (4400 : Int32) (.sipush 4400) 3 := ⟨by decide +kernel, rfl, show (Int16.ofInt 4400).toInt32 = (4400 : Int32) by decide +kernel⟩
theorem d_Model_init_365 : ob_dc k_Model_init 365 (.multianewarray 139 2) 4 369 := ⟨by decide +kernel, rfl⟩
theorem d_Model_init_369 : ob_dc k_Model_init 369 (.putfield 141) 3 372 := ⟨by decide +kernel, rfl⟩
theorem d_Model_init_372 : ob_dv ob_ac k_Model_init 372 373 0 (.aload_n 0) 1 := ⟨by decide +kernel, rfl, rfl⟩
theorem d_Model_init_373 : ob_dk k_Model_init 373 374 (2 : Int32) (.iconst 2) 1 := ⟨by decide +kernel, rfl, show Int32.ofInt 2 = (2 : Int32) by decide +kernel⟩
theorem d_Model_init_374 : ob_dk k_Model_init 374 377 (4400 : Int32) (.sipush 4400) 3 := ⟨by decide +kernel, rfl, show (Int16.ofInt 4400).toInt32 = (4400 : Int32) by decide +kernel⟩
theorem d_Model_init_377 : ob_dc k_Model_init 377 (.multianewarray 144 2) 4 381 := ⟨by decide +kernel, rfl⟩
theorem d_Model_init_381 : ob_dc k_Model_init 381 (.putfield 146) 3 384 := ⟨by decide +kernel, rfl⟩
theorem d_Model_init_384 : ob_dv ob_ac k_Model_init 384 385 0 (.aload_n 0) 1 := ⟨by decide +kernel, rfl, rfl⟩
theorem d_Model_init_385 : ob_dk k_Model_init 385 386 (2 : Int32) (.iconst 2) 1 := ⟨by decide +kernel, rfl, show Int32.ofInt 2 = (2 : Int32) by decide +kernel⟩
theorem d_Model_init_386 : ob_dc k_Model_init 386 (.newarray .int) 2 388 := ⟨by decide +kernel, rfl⟩
theorem d_Model_init_388 : ob_dc k_Model_init 388 (.putfield 149) 3 391 := ⟨by decide +kernel, rfl⟩
theorem d_Model_init_391 : ob_dv ob_ac k_Model_init 391 392 0 (.aload_n 0) 1 := ⟨by decide +kernel, rfl, rfl⟩
theorem d_Model_init_392 : ob_dk k_Model_init 392 395 (1024 : Int32) (.sipush 1024) 3 := ⟨by decide +kernel, rfl, show (Int16.ofInt 1024).toInt32 = (1024 : Int32) by decide +kernel⟩
theorem d_Model_init_395 : ob_dc k_Model_init 395 (.newarray .byte) 2 397 := ⟨by decide +kernel, rfl⟩
theorem d_Model_init_397 : ob_dc k_Model_init 397 (.putfield 152) 3 400 := ⟨by decide +kernel, rfl⟩
theorem d_Model_init_400 : ob_dv ob_ac k_Model_init 400 401 0 (.aload_n 0) 1 := ⟨by decide +kernel, rfl, rfl⟩
theorem d_Model_init_401 : ob_dk k_Model_init 401 403 (8 : Int32) (.bipush 8) 2 := ⟨by decide +kernel, rfl, show (Int8.ofInt 8).toInt32 = (8 : Int32) by decide +kernel⟩
theorem d_Model_init_403 : ob_dc k_Model_init 403 (.newarray .int) 2 405 := ⟨by decide +kernel, rfl⟩
theorem d_Model_init_405 : ob_dc k_Model_init 405 (.putfield 155) 3 408 := ⟨by decide +kernel, rfl⟩
theorem d_Model_init_408 : ob_dv ob_ac k_Model_init 408 409 0 (.aload_n 0) 1 := ⟨by decide +kernel, rfl, rfl⟩
theorem d_Model_init_409 : ob_dv ob_lc k_Model_init 409 410 1 (.iload_n 1) 1 := ⟨by decide +kernel, rfl, rfl⟩
theorem d_Model_init_410 : ob_dk k_Model_init 410 411 (1 : Int32) (.iconst 1) 1 := ⟨by decide +kernel, rfl, show Int32.ofInt 1 = (1 : Int32) by decide +kernel⟩
theorem d_Model_init_411 : ob_dk k_Model_init 411 413 (64 : Int32) (.bipush 64) 2 := ⟨by decide +kernel, rfl, show (Int8.ofInt 64).toInt32 = (64 : Int32) by decide +kernel⟩
theorem d_Model_init_413 : ob_dc k_Model_init 413 (.invokestatic 158) 3 416 := ⟨by decide +kernel, rfl⟩
theorem d_Model_init_416 : ob_dc k_Model_init 416 (.putfield 162) 3 419 := ⟨by decide +kernel, rfl⟩
theorem d_Model_init_419 : ob_dv ob_ac k_Model_init 419 420 0 (.aload_n 0) 1 := ⟨by decide +kernel, rfl, rfl⟩
theorem d_Model_init_420 : ob_dv ob_lc k_Model_init 420 421 2 (.iload_n 2) 1 := ⟨by decide +kernel, rfl, rfl⟩
theorem d_Model_init_421 : ob_dk k_Model_init 421 423 (64 : Int32) (.bipush 64) 2 := ⟨by decide +kernel, rfl, show (Int8.ofInt 64).toInt32 = (64 : Int32) by decide +kernel⟩
theorem d_Model_init_423 : ob_dk k_Model_init 423 426 (256 : Int32) (.sipush 256) 3 := ⟨by decide +kernel, rfl, show (Int16.ofInt 256).toInt32 = (256 : Int32) by decide +kernel⟩
theorem d_Model_init_426 : ob_dc k_Model_init 426 (.invokestatic 158) 3 429 := ⟨by decide +kernel, rfl⟩
theorem d_Model_init_429 : ob_dc k_Model_init 429 (.putfield 165) 3 432 := ⟨by decide +kernel, rfl⟩
theorem d_Model_init_432 : ob_dv ob_ac k_Model_init 432 433 0 (.aload_n 0) 1 := ⟨by decide +kernel, rfl, rfl⟩
theorem d_Model_init_433 : ob_dv ob_lc k_Model_init 433 434 3 (.iload_n 3) 1 := ⟨by decide +kernel, rfl, rfl⟩
theorem d_Model_init_434 : ob_dk k_Model_init 434 435 (1 : Int32) (.iconst 1) 1 := ⟨by decide +kernel, rfl, show Int32.ofInt 1 = (1 : Int32) by decide +kernel⟩
theorem d_Model_init_435 : ob_dk k_Model_init 435 436 (4 : Int32) (.iconst 4) 1 := ⟨by decide +kernel, rfl, show Int32.ofInt 4 = (4 : Int32) by decide +kernel⟩
theorem d_Model_init_436 : ob_dc k_Model_init 436 (.invokestatic 158) 3 439 := ⟨by decide +kernel, rfl⟩
theorem d_Model_init_439 : ob_dc k_Model_init 439 (.putfield 168) 3 442 := ⟨by decide +kernel, rfl⟩
theorem d_Model_init_442 : ob_dv ob_ac k_Model_init 442 443 0 (.aload_n 0) 1 := ⟨by decide +kernel, rfl, rfl⟩
theorem d_Model_init_443 : ob_dv ob_lc k_Model_init 443 445 4 (.iload 4) 2 := ⟨by decide +kernel, rfl, rfl⟩
theorem d_Model_init_445 : ob_dk k_Model_init 445 446 (1 : Int32) (.iconst 1) 1 := ⟨by decide +kernel, rfl, show Int32.ofInt 1 = (1 : Int32) by decide +kernel⟩
theorem d_Model_init_446 : ob_dk k_Model_init 446 448 (100 : Int32) (.bipush 100) 2 := ⟨by decide +kernel, rfl, show (Int8.ofInt 100).toInt32 = (100 : Int32) by decide +kernel⟩
theorem d_Model_init_448 : ob_dc k_Model_init 448 (.invokestatic 158) 3 451 := ⟨by decide +kernel, rfl⟩
theorem d_Model_init_451 : ob_dc k_Model_init 451 (.putfield 171) 3 454 := ⟨by decide +kernel, rfl⟩
theorem d_Model_init_454 : ob_dv ob_ac k_Model_init 454 455 0 (.aload_n 0) 1 := ⟨by decide +kernel, rfl, rfl⟩
theorem d_Model_init_455 : ob_dv ob_lc k_Model_init 455 457 5 (.iload 5) 2 := ⟨by decide +kernel, rfl, rfl⟩
theorem d_Model_init_457 : ob_dk k_Model_init 457 459 (64 : Int32) (.bipush 64) 2 := ⟨by decide +kernel, rfl, show (Int8.ofInt 64).toInt32 = (64 : Int32) by decide +kernel⟩
theorem d_Model_init_459 : ob_dk k_Model_init 459 462 (16384 : Int32) (.sipush 16384) 3 := ⟨by decide +kernel, rfl, show (Int16.ofInt 16384).toInt32 = (16384 : Int32) by decide +kernel⟩
theorem d_Model_init_462 : ob_dc k_Model_init 462 (.invokestatic 158) 3 465 := ⟨by decide +kernel, rfl⟩
theorem d_Model_init_465 : ob_dc k_Model_init 465 (.putfield 174) 3 468 := ⟨by decide +kernel, rfl⟩
theorem d_Model_init_468 : ob_dk k_Model_init 468 469 (0 : Int32) (.iconst 0) 1 := ⟨by decide +kernel, rfl, show Int32.ofInt 0 = (0 : Int32) by decide +kernel⟩
theorem d_Model_init_469 : ob_dv (ob_sc k_Model_init.2.2.2.1) k_Model_init 469 471 6 (.istore 6) 2 := ⟨by decide +kernel, rfl, ⟨rfl, by decide +kernel⟩⟩
theorem d_Model_init_471 : ob_dv ob_lc k_Model_init 471 473 6 (.iload 6) 2 := ⟨by decide +kernel, rfl, rfl⟩
theorem d_Model_init_473 : ob_dk k_Model_init 473 475 (32 : Int32) (.bipush 32) 2 := ⟨by decide +kernel, rfl, show (Int8.ofInt 32).toInt32 = (32 : Int32) by decide +kernel⟩
theorem d_Model_init_492 : ob_dc k_Model_init 492 (.return_) 1 493 := ⟨by decide +kernel, rfl⟩
theorem d_Model_init_478 : ob_dv ob_ac k_Model_init 478 479 0 (.aload_n 0) 1 := ⟨by decide +kernel, rfl, rfl⟩
theorem d_Model_init_479 : ob_dc k_Model_init 479 (.getfield 100) 3 482 := ⟨by decide +kernel, rfl⟩
theorem d_Model_init_482 : ob_dv ob_lc k_Model_init 482 484 6 (.iload 6) 2 := ⟨by decide +kernel, rfl, rfl⟩
theorem d_Model_init_484 : ob_dk k_Model_init 484 485 (1 : Int32) (.iconst 1) 1 := ⟨by decide +kernel, rfl, show Int32.ofInt 1 = (1 : Int32) by decide +kernel⟩
theorem d_Model_init_485 : ob_dc k_Model_init 485 (.bastore) 1 486 := ⟨by decide +kernel, rfl⟩
theorem d_Model_init_486 : ob_di k_Model_init 486 489 6 1 (1 : Int32) := ⟨by decide +kernel, rfl, by decide +kernel, by decide +kernel⟩
theorem d_Model_init_489 : ob_db k_Model_init 489 (.goto (-18)) (-18) 492 471 := ⟨by decide +kernel, rfl, by decide⟩
theorem d_Model_init_475 : ob_db k_Model_init 475 (.if_icmp .ge 17) 17 478 492 := ⟨by decide +kernel, rfl, by decide⟩
theorem c_Model_init_158 : ob_sd k_Model_init k_Model_within 158 3 := ⟨cw_Model_within, yd_Model_within, w_1086, w_1087, w_14, by decide, by decide⟩
def f_Model_init_L471 : Nat → Nat → Int32 → ob_S → ob_D → Option (ob_S × ob_D)
  | 0, _, _, _, _ => none
  | n + 1, v0, v6, S, D => (if (32 : Int32) ≤ v6 then some (S, D) else ob_gt (D.2.1 v0 60 ≠ 0) <| ob_gt (ob_in v6 (S.2.1 (D.2.1 v0 60))) <| ob_lt (ob_pI D (D.2.1 v0 60) v6.toNatClampNeg ((1 : Int32) &&& 1)) fun D472 => f_Model_init_L471 n v0 (v6 + (1 : Int32)) S D472)
theorem e_Model_init_L471 {T : ob_S} {D' : ob_D} : ∀ (n : Nat) (v0 : Nat) (v6 : Int32) (S : ob_S) (D : ob_D), f_Model_init_L471 n v0 v6 S D = some (T, D') → ob_ext S T := by
  intro n
  induction n with
  | zero =>
    intro v0 v6 S D h
    have h : none = some (T, D') := h
    cases h
  | succ n ih =>
    intro v0 v6 S D h
    rw [f_Model_init_L471] at h
    by_cases hc : (32 : Int32) ≤ v6
    · replace h := ob_ift hc h
      obtain ⟨he1, he2⟩ := ob_pe h
      have x_S : ob_ext S T := ob_ext_eq he1
      exact x_S
    · replace h := ob_iff hc h
      obtain ⟨hg467, h⟩ := ob_gt_e h
      obtain ⟨hg471, h⟩ := ob_gt_e h
      obtain ⟨D472, hD473, h⟩ := ob_lt_x h
      have x_S : ob_ext S T := ih v0 (v6 + (1 : Int32)) S D472 h
      exact x_S
theorem v_Model_init_L471 {l : Launch} {E : ob_E} {T : ob_S} {D' : ob_D} : ∀ (n : Nat) (v0 : Nat) (v6 : Int32) (S : ob_S) (D : ob_D), S.1 v0 = 13 → f_Model_init_L471 n v0 v6 S D = some (T, D') → ob_V l E k_Model_init 471 [(0, .ref v0), (6, .int v6)] [] S D none T D' := by
  intro n
  induction n with
  | zero =>
    intro v0 v6 S D hp_v0 h
    have h : none = some (T, D') := h
    cases h
  | succ n ih =>
    have ex := fun v0 v6 S D => @e_Model_init_L471 T D' n v0 v6 S D
    intro v0 v6 S D hp_v0 h
    rw [f_Model_init_L471] at h
    refine ob_withH fun H0 hH0 => ?_
    have kd_v0 := ob_kdH hH0 hp_v0
    refine ob_iload d_Model_init_471 rfl ?_
    refine ob_push d_Model_init_473 ?_
    refine ob_icmp_ge d_Model_init_475 (fun hc => ?_) (fun hc => ?_)
    · replace h := ob_ift hc h
      obtain ⟨he1, he2⟩ := ob_pe h
      have x_S : ob_ext S T := ob_ext_eq he1
      exact ob_vee he1 he2 (ob_vret d_Model_init_492 rfl)
    · replace h := ob_iff hc h
      obtain ⟨hg467, h⟩ := ob_gt_e h
      obtain ⟨hg471, h⟩ := ob_gt_e h
      obtain ⟨D472, hD473, h⟩ := ob_lt_x h
      have x_S : ob_ext S T := ex v0 (v6 + (1 : Int32)) S D472 h
      refine ob_aload d_Model_init_478 rfl ?_
      refine ob_getR d_Model_init_479 F_12_60 l_Model_100 kd_v0.1 hg467 (fun hk468 => ?_)
      refine ob_withH fun H469 hH469 => ?_
      have hk470 := ob_kdH hH469 hk468
      refine ob_iload d_Model_init_482 rfl ?_
      refine ob_push d_Model_init_484 ?_
      refine ob_xI hD473 (ob_zast d_Model_init_485 hk470.1 hg471) ?_
      refine ob_iinc (lo2 := [(0, .ref v0), (6, .int (v6 + (1 : Int32)))]) d_Model_init_486 rfl rfl ?_
      refine ob_goto d_Model_init_489 ?_
      exact ih v0 (v6 + (1 : Int32)) S D472 kd_v0.1 h
def f_Model_init (v0 : Nat) (v1 : Int32) (v2 : Int32) (v3 : Int32) (v4 : Int32) (v5 : Int32) (S : ob_S) (D : ob_D) : Option (ob_S × ob_D) :=
  ob_gt (¬ (4096 : Int32) < 0 ∧ (4096 : Int32).toNatClampNeg ≤ 67108864) <| ob_lt (ob_new S 21 (4096 : Int32).toNatClampNeg (4096 : Int32).toNatClampNeg) fun S1 => ob_lt (ob_z D S.2.2.1) fun D2 => ob_lt (ob_pR D2 v0 6 (S.2.2.1)) fun D8 => ob_gt (¬ (64 : Int32) < 0 ∧ (64 : Int32).toNatClampNeg ≤ 67108864) <| ob_lt (ob_new S1 22 (64 : Int32).toNatClampNeg (64 : Int32).toNatClampNeg) fun S10 => ob_lt (ob_z D8 S1.2.2.1) fun D11 => ob_lt (ob_pR D11 v0 11 (S1.2.2.1)) fun D17 => ob_gt (¬ (280 : Int32) < 0 ∧ (280 : Int32).toNatClampNeg ≤ 67108864) <| ob_lt (ob_new S10 21 (280 : Int32).toNatClampNeg (280 : Int32).toNatClampNeg) fun S19 => ob_lt (ob_z D17 S10.2.2.1) fun D20 => ob_lt (ob_pR D20 v0 13 (S10.2.2.1)) fun D26 => ob_gt (¬ (63 : Int32) < 0 ∧ (63 : Int32).toNatClampNeg ≤ 67108864) <| ob_lt (ob_new S19 22 (63 : Int32).toNatClampNeg (63 : Int32).toNatClampNeg) fun S28 => ob_lt (ob_z D26 S19.2.2.1) fun D29 => ob_lt (ob_pR D29 v0 18 (S19.2.2.1)) fun D35 => ob_lt (ob_pI D35 v0 19 (1 : Int32)) fun D37 => ob_gt (¬ (2080 : Int32) < 0 ∧ (2080 : Int32).toNatClampNeg ≤ 67108864) <| ob_lt (ob_new S28 21 (2080 : Int32).toNatClampNeg (2080 : Int32).toNatClampNeg) fun S39 => ob_lt (ob_z D37 S28.2.2.1) fun D40 => ob_lt (ob_pR D40 v0 24 (S28.2.2.1)) fun D46 => ob_gt (¬ (8 : Int32) < 0 ∧ (8 : Int32).toNatClampNeg ≤ 67108864) <| ob_lt (ob_new S39 20 (8 : Int32).toNatClampNeg (8 : Int32).toNatClampNeg) fun S48 => ob_lt (ob_z D46 S39.2.2.1) fun D49 => ob_lt (ob_pR D49 v0 25 (S39.2.2.1)) fun D55 => ob_gt (¬ (260 : Int32) < 0 ∧ (260 : Int32).toNatClampNeg ≤ 67108864) <| ob_lt (ob_new S48 21 (260 : Int32).toNatClampNeg (260 : Int32).toNatClampNeg) fun S57 => ob_lt (ob_z D55 S48.2.2.1) fun D58 => ob_lt (ob_pR D58 v0 27 (S48.2.2.1)) fun D64 => ob_gt (¬ (256 : Int32) < 0 ∧ (256 : Int32).toNatClampNeg ≤ 67108864) <| ob_lt (ob_new S57 22 (256 : Int32).toNatClampNeg (256 : Int32).toNatClampNeg) fun S66 => ob_lt (ob_z D64 S57.2.2.1) fun D67 => ob_lt (ob_pR D67 v0 31 (S57.2.2.1)) fun D73 => ob_gt (¬ (256 : Int32) < 0 ∧ (256 : Int32).toNatClampNeg ≤ 67108864) <| ob_lt (ob_new S66 22 (256 : Int32).toNatClampNeg (256 : Int32).toNatClampNeg) fun S75 => ob_lt (ob_z D73 S66.2.2.1) fun D76 => ob_lt (ob_pR D76 v0 32 (S66.2.2.1)) fun D82 => ob_gt (¬ (256 : Int32) < 0 ∧ (256 : Int32).toNatClampNeg ≤ 67108864) <| ob_lt (ob_new S75 20 (256 : Int32).toNatClampNeg (256 : Int32).toNatClampNeg) fun S84 => ob_lt (ob_z D82 S75.2.2.1) fun D85 => ob_lt (ob_pR D85 v0 33 (S75.2.2.1)) fun D91 => ob_gt (¬ (256 : Int32) < 0 ∧ (256 : Int32).toNatClampNeg ≤ 67108864) <| ob_lt (ob_new S84 20 (256 : Int32).toNatClampNeg (256 : Int32).toNatClampNeg) fun S93 => ob_lt (ob_z D91 S84.2.2.1) fun D94 => ob_lt (ob_pR D94 v0 34 (S84.2.2.1)) fun D100 => ob_gt (¬ (2048 : Int32) < 0 ∧ (2048 : Int32).toNatClampNeg ≤ 67108864) <| ob_lt (ob_new S93 20 (2048 : Int32).toNatClampNeg (2048 : Int32).toNatClampNeg) fun S102 => ob_lt (ob_z D100 S93.2.2.1) fun D103 => ob_lt (ob_pR D103 v0 35 (S93.2.2.1)) fun D109 => ob_gt (¬ (4096 : Int32) < 0 ∧ (4096 : Int32).toNatClampNeg ≤ 67108864) <| ob_lt (ob_new S102 21 (4096 : Int32).toNatClampNeg (4096 : Int32).toNatClampNeg) fun S111 => ob_lt (ob_z D109 S102.2.2.1) fun D112 => ob_lt (ob_pR D112 v0 37 (S102.2.2.1)) fun D118 => ob_gt (¬ (8 : Int32) < 0 ∧ (8 : Int32).toNatClampNeg ≤ 67108864) <| ob_lt (ob_new S111 20 (8 : Int32).toNatClampNeg (8 : Int32).toNatClampNeg) fun S120 => ob_lt (ob_z D118 S111.2.2.1) fun D121 => ob_lt (ob_pR D121 v0 38 (S111.2.2.1)) fun D127 => ob_gt (¬ (8 : Int32) < 0 ∧ (8 : Int32).toNatClampNeg ≤ 67108864) <| ob_lt (ob_new S120 20 (8 : Int32).toNatClampNeg (8 : Int32).toNatClampNeg) fun S129 => ob_lt (ob_z D127 S120.2.2.1) fun D130 => ob_lt (ob_pR D130 v0 39 (S120.2.2.1)) fun D136 => ob_lt (ob_pI D136 v0 40 (1 : Int32)) fun D138 => ob_gt (¬ (64 : Int32) < 0 ∧ (64 : Int32).toNatClampNeg ≤ 67108864) <| ob_lt (ob_new S129 20 (64 : Int32).toNatClampNeg (64 : Int32).toNatClampNeg) fun S140 => ob_lt (ob_z D138 S129.2.2.1) fun D141 => ob_lt (ob_pR D141 v0 42 (S129.2.2.1)) fun D147 => ob_gt (¬ (64 : Int32) < 0 ∧ (64 : Int32).toNatClampNeg ≤ 67108864) <| ob_lt (ob_new S140 20 (64 : Int32).toNatClampNeg (64 : Int32).toNatClampNeg) fun S149 => ob_lt (ob_z D147 S140.2.2.1) fun D150 => ob_lt (ob_pR D150 v0 43 (S140.2.2.1)) fun D156 => ob_gt (¬ (16640 : Int32) < 0 ∧ (16640 : Int32).toNatClampNeg ≤ 67108864) <| ob_lt (ob_new S149 21 (16640 : Int32).toNatClampNeg (16640 : Int32).toNatClampNeg) fun S158 => ob_lt (ob_z D156 S149.2.2.1) fun D159 => ob_lt (ob_pR D159 v0 44 (S149.2.2.1)) fun D165 => ob_gt (¬ (256 : Int32) < 0 ∧ (256 : Int32).toNatClampNeg ≤ 67108864) <| ob_lt (ob_new S158 22 (256 : Int32).toNatClampNeg (256 : Int32).toNatClampNeg) fun S167 => ob_lt (ob_z D165 S158.2.2.1) fun D168 => ob_lt (ob_pR D168 v0 47 (S158.2.2.1)) fun D174 => ob_gt (¬ (256 : Int32) < 0 ∧ (256 : Int32).toNatClampNeg ≤ 67108864) <| ob_lt (ob_new S167 22 (256 : Int32).toNatClampNeg (256 : Int32).toNatClampNeg) fun S176 => ob_lt (ob_z D174 S167.2.2.1) fun D177 => ob_lt (ob_pR D177 v0 48 (S167.2.2.1)) fun D183 => ob_gt (¬ (256 : Int32) < 0 ∧ (256 : Int32).toNatClampNeg ≤ 67108864) <| ob_lt (ob_new S176 20 (256 : Int32).toNatClampNeg (256 : Int32).toNatClampNeg) fun S185 => ob_lt (ob_z D183 S176.2.2.1) fun D186 => ob_lt (ob_pR D186 v0 49 (S176.2.2.1)) fun D192 => ob_gt (¬ (256 : Int32) < 0 ∧ (256 : Int32).toNatClampNeg ≤ 67108864) <| ob_lt (ob_new S185 20 (256 : Int32).toNatClampNeg (256 : Int32).toNatClampNeg) fun S194 => ob_lt (ob_z D192 S185.2.2.1) fun D195 => ob_lt (ob_pR D195 v0 50 (S185.2.2.1)) fun D201 => ob_gt (¬ (256 : Int32) < 0 ∧ (256 : Int32).toNatClampNeg ≤ 67108864) <| ob_lt (ob_new S194 20 (256 : Int32).toNatClampNeg (256 : Int32).toNatClampNeg) fun S203 => ob_lt (ob_z D201 S194.2.2.1) fun D204 => ob_lt (ob_pR D204 v0 51 (S194.2.2.1)) fun D210 => ob_gt (¬ (256 : Int32) < 0 ∧ (256 : Int32).toNatClampNeg ≤ 67108864) <| ob_lt (ob_new S203 20 (256 : Int32).toNatClampNeg (256 : Int32).toNatClampNeg) fun S212 => ob_lt (ob_z D210 S203.2.2.1) fun D213 => ob_lt (ob_pR D213 v0 52 (S203.2.2.1)) fun D219 => ob_gt (¬ (256 : Int32) < 0 ∧ (256 : Int32).toNatClampNeg ≤ 67108864) <| ob_lt (ob_new S212 20 (256 : Int32).toNatClampNeg (256 : Int32).toNatClampNeg) fun S221 => ob_lt (ob_z D219 S212.2.2.1) fun D222 => ob_lt (ob_pR D222 v0 53 (S212.2.2.1)) fun D228 => ob_gt (¬ (256 : Int32) < 0 ∧ (256 : Int32).toNatClampNeg ≤ 67108864) <| ob_lt (ob_new S221 20 (256 : Int32).toNatClampNeg (256 : Int32).toNatClampNeg) fun S230 => ob_lt (ob_z D228 S221.2.2.1) fun D231 => ob_lt (ob_pR D231 v0 54 (S221.2.2.1)) fun D237 => ob_gt (¬ (256 : Int32) < 0 ∧ (256 : Int32).toNatClampNeg ≤ 67108864) <| ob_lt (ob_new S230 20 (256 : Int32).toNatClampNeg (256 : Int32).toNatClampNeg) fun S239 => ob_lt (ob_z D237 S230.2.2.1) fun D240 => ob_lt (ob_pR D240 v0 55 (S230.2.2.1)) fun D246 => ob_gt (¬ (32 : Int32) < 0 ∧ (32 : Int32).toNatClampNeg ≤ 67108864) <| ob_lt (ob_new S239 22 (32 : Int32).toNatClampNeg (32 : Int32).toNatClampNeg) fun S248 => ob_lt (ob_z D246 S239.2.2.1) fun D249 => ob_lt (ob_pR D249 v0 60 (S239.2.2.1)) fun D255 => ob_gt (¬ (32 : Int32) < 0 ∧ (32 : Int32).toNatClampNeg ≤ 67108864) <| ob_lt (ob_new S248 22 (32 : Int32).toNatClampNeg (32 : Int32).toNatClampNeg) fun S257 => ob_lt (ob_z D255 S248.2.2.1) fun D258 => ob_lt (ob_pR D258 v0 61 (S248.2.2.1)) fun D264 => ob_gt (¬ (32 : Int32) < 0 ∧ (32 : Int32).toNatClampNeg ≤ 67108864) <| ob_lt (ob_new S257 22 (32 : Int32).toNatClampNeg (32 : Int32).toNatClampNeg) fun S266 => ob_lt (ob_z D264 S257.2.2.1) fun D267 => ob_lt (ob_pR D267 v0 62 (S257.2.2.1)) fun D273 => ob_gt (¬ (8320 : Int32) < 0 ∧ (8320 : Int32).toNatClampNeg ≤ 67108864) <| ob_lt (ob_new S266 21 (8320 : Int32).toNatClampNeg (8320 : Int32).toNatClampNeg) fun S275 => ob_lt (ob_z D273 S266.2.2.1) fun D276 => ob_lt (ob_pR D276 v0 63 (S266.2.2.1)) fun D282 => ob_gt (¬ (32 : Int32) < 0 ∧ (32 : Int32).toNatClampNeg ≤ 67108864) <| ob_lt (ob_new S275 20 (32 : Int32).toNatClampNeg (32 : Int32).toNatClampNeg) fun S284 => ob_lt (ob_z D282 S275.2.2.1) fun D285 => ob_lt (ob_pR D285 v0 64 (S275.2.2.1)) fun D291 => ob_gt (¬ (64 : Int32) < 0 ∧ (64 : Int32).toNatClampNeg ≤ 67108864) <| ob_lt (ob_new S284 20 (64 : Int32).toNatClampNeg (64 : Int32).toNatClampNeg) fun S293 => ob_lt (ob_z D291 S284.2.2.1) fun D294 => ob_lt (ob_pR D294 v0 65 (S284.2.2.1)) fun D300 => ob_gt (¬ (64 : Int32) < 0 ∧ (64 : Int32).toNatClampNeg ≤ 67108864) <| ob_lt (ob_new S293 20 (64 : Int32).toNatClampNeg (64 : Int32).toNatClampNeg) fun S302 => ob_lt (ob_z D300 S293.2.2.1) fun D303 => ob_lt (ob_pR D303 v0 66 (S293.2.2.1)) fun D309 => ob_gt (¬ (512 : Int32) < 0 ∧ (512 : Int32).toNatClampNeg ≤ 67108864) <| ob_lt (ob_new S302 21 (512 : Int32).toNatClampNeg (512 : Int32).toNatClampNeg) fun S311 => ob_lt (ob_z D309 S302.2.2.1) fun D312 => ob_lt (ob_pR D312 v0 69 (S302.2.2.1)) fun D318 => ob_gt (¬ (8192 : Int32) < 0 ∧ (8192 : Int32).toNatClampNeg ≤ 67108864) <| ob_lt (ob_new S311 20 (8192 : Int32).toNatClampNeg (8192 : Int32).toNatClampNeg) fun S320 => ob_lt (ob_z D318 S311.2.2.1) fun D321 => ob_lt (ob_pR D321 v0 73 (S311.2.2.1)) fun D327 => ob_gt (¬ (32 : Int32) < 0 ∧ (32 : Int32).toNatClampNeg ≤ 67108864) <| ob_lt (ob_new S320 22 (32 : Int32).toNatClampNeg (32 : Int32).toNatClampNeg) fun S329 => ob_lt (ob_z D327 S320.2.2.1) fun D330 => ob_lt (ob_pR D330 v0 74 (S320.2.2.1)) fun D336 => ob_gt (¬ (16384 : Int32) < 0 ∧ (16384 : Int32).toNatClampNeg ≤ 67108864) <| ob_lt (ob_new S329 21 (16384 : Int32).toNatClampNeg (16384 : Int32).toNatClampNeg) fun S338 => ob_lt (ob_z D336 S329.2.2.1) fun D339 => ob_lt (ob_pR D339 v0 75 (S329.2.2.1)) fun D345 => ob_gt (¬ (900 : Int32) < 0 ∧ (900 : Int32).toNatClampNeg ≤ 67108864) <| ob_lt (ob_new S338 20 (900 : Int32).toNatClampNeg (900 : Int32).toNatClampNeg) fun S347 => ob_lt (ob_z D345 S338.2.2.1) fun D348 => ob_lt (ob_pR D348 v0 76 (S338.2.2.1)) fun D354 => ob_gt (¬ (900 : Int32) < 0 ∧ (900 : Int32).toNatClampNeg ≤ 67108864) <| ob_lt (ob_new S347 20 (900 : Int32).toNatClampNeg (900 : Int32).toNatClampNeg) fun S356 => ob_lt (ob_z D354 S347.2.2.1) fun D357 => ob_lt (ob_pR D357 v0 77 (S347.2.2.1)) fun D363 => ob_gt (¬ (4400 : Int32) < 0 ∧ (4400 : Int32).toNatClampNeg ≤ 67108864) <| ob_lt (ob_new S356 25 2 2) fun S365 => ob_lt (ob_z D363 S356.2.2.1) fun D368 => ob_lt (ob_new S365 21 (4400 : Int32).toNatClampNeg (4400 : Int32).toNatClampNeg) fun S366 => ob_lt (ob_z D368 S365.2.2.1) fun D369 => ob_lt (ob_pR D369 S356.2.2.1 0 S365.2.2.1) fun D370 => ob_lt (ob_new S366 21 (4400 : Int32).toNatClampNeg (4400 : Int32).toNatClampNeg) fun S367 => ob_lt (ob_z D370 S366.2.2.1) fun D371 => ob_lt (ob_pR D371 S356.2.2.1 1 S366.2.2.1) fun D372 => ob_lt (ob_pR D372 v0 84 (S356.2.2.1)) fun D388 => ob_gt (¬ (4400 : Int32) < 0 ∧ (4400 : Int32).toNatClampNeg ≤ 67108864) <| ob_lt (ob_new S367 26 2 2) fun S390 => ob_lt (ob_z D388 S367.2.2.1) fun D393 => ob_lt (ob_new S390 22 (4400 : Int32).toNatClampNeg (4400 : Int32).toNatClampNeg) fun S391 => ob_lt (ob_z D393 S390.2.2.1) fun D394 => ob_lt (ob_pR D394 S367.2.2.1 0 S390.2.2.1) fun D395 => ob_lt (ob_new S391 22 (4400 : Int32).toNatClampNeg (4400 : Int32).toNatClampNeg) fun S392 => ob_lt (ob_z D395 S391.2.2.1) fun D396 => ob_lt (ob_pR D396 S367.2.2.1 1 S391.2.2.1) fun D397 => ob_lt (ob_pR D397 v0 85 (S367.2.2.1)) fun D413 => ob_gt (¬ (2 : Int32) < 0 ∧ (2 : Int32).toNatClampNeg ≤ 67108864) <| ob_lt (ob_new S392 20 (2 : Int32).toNatClampNeg (2 : Int32).toNatClampNeg) fun S415 => ob_lt (ob_z D413 S392.2.2.1) fun D416 => ob_lt (ob_pR D416 v0 86 (S392.2.2.1)) fun D422 => ob_gt (¬ (1024 : Int32) < 0 ∧ (1024 : Int32).toNatClampNeg ≤ 67108864) <| ob_lt (ob_new S415 21 (1024 : Int32).toNatClampNeg (1024 : Int32).toNatClampNeg) fun S424 => ob_lt (ob_z D422 S415.2.2.1) fun D425 => ob_lt (ob_pR D425 v0 87 (S415.2.2.1)) fun D431 => ob_gt (¬ (8 : Int32) < 0 ∧ (8 : Int32).toNatClampNeg ≤ 67108864) <| ob_lt (ob_new S424 20 (8 : Int32).toNatClampNeg (8 : Int32).toNatClampNeg) fun S433 => ob_lt (ob_z D431 S424.2.2.1) fun D434 => ob_lt (ob_pR D434 v0 90 (S424.2.2.1)) fun D440 => ob_bd (f_Model_within S433 v1 (1 : Int32) (64 : Int32) D440) fun x444 D442 => ob_lt (ob_pI D442 v0 0 x444) fun D445 => ob_bd (f_Model_within S433 v2 (64 : Int32) (256 : Int32) D445) fun x449 D447 => ob_lt (ob_pI D447 v0 1 x449) fun D450 => ob_bd (f_Model_within S433 v3 (1 : Int32) (4 : Int32) D450) fun x454 D452 => ob_lt (ob_pI D452 v0 2 x454) fun D455 => ob_bd (f_Model_within S433 v4 (1 : Int32) (100 : Int32) D455) fun x459 D457 => ob_lt (ob_pI D457 v0 3 x459) fun D460 => ob_bd (f_Model_within S433 v5 (64 : Int32) (16384 : Int32) D460) fun x464 D462 => ob_lt (ob_pI D462 v0 4 x464) fun D465 => f_Model_init_L471 ob_FU v0 (0 : Int32) S433 D465
theorem e_Model_init {v0 : Nat} {v1 : Int32} {v2 : Int32} {v3 : Int32} {v4 : Int32} {v5 : Int32} {S T : ob_S} {D D' : ob_D} (h : f_Model_init v0 v1 v2 v3 v4 v5 S D = some (T, D')) : ob_ext S T := by
  rw [f_Model_init] at h
  obtain ⟨hg5, h⟩ := ob_gt_e h
  obtain ⟨S1, hS3, h⟩ := ob_lt_x h
  obtain ⟨D2, hD4, h⟩ := ob_lt_x h
  obtain ⟨D8, hD9, h⟩ := ob_lt_x h
  obtain ⟨hg14, h⟩ := ob_gt_e h
  obtain ⟨S10, hS12, h⟩ := ob_lt_x h
  obtain ⟨D11, hD13, h⟩ := ob_lt_x h
  obtain ⟨D17, hD18, h⟩ := ob_lt_x h
  obtain ⟨hg23, h⟩ := ob_gt_e h
  obtain ⟨S19, hS21, h⟩ := ob_lt_x h
  obtain ⟨D20, hD22, h⟩ := ob_lt_x h
  obtain ⟨D26, hD27, h⟩ := ob_lt_x h
  obtain ⟨hg32, h⟩ := ob_gt_e h
  obtain ⟨S28, hS30, h⟩ := ob_lt_x h
  obtain ⟨D29, hD31, h⟩ := ob_lt_x h
  obtain ⟨D35, hD36, h⟩ := ob_lt_x h
  obtain ⟨D37, hD38, h⟩ := ob_lt_x h
  obtain ⟨hg43, h⟩ := ob_gt_e h
  obtain ⟨S39, hS41, h⟩ := ob_lt_x h
  obtain ⟨D40, hD42, h⟩ := ob_lt_x h
  obtain ⟨D46, hD47, h⟩ := ob_lt_x h
  obtain ⟨hg52, h⟩ := ob_gt_e h
  obtain ⟨S48, hS50, h⟩ := ob_lt_x h
  obtain ⟨D49, hD51, h⟩ := ob_lt_x h
  obtain ⟨D55, hD56, h⟩ := ob_lt_x h
  obtain ⟨hg61, h⟩ := ob_gt_e h
  obtain ⟨S57, hS59, h⟩ := ob_lt_x h
  obtain ⟨D58, hD60, h⟩ := ob_lt_x h
  obtain ⟨D64, hD65, h⟩ := ob_lt_x h
  obtain ⟨hg70, h⟩ := ob_gt_e h
  obtain ⟨S66, hS68, h⟩ := ob_lt_x h
  obtain ⟨D67, hD69, h⟩ := ob_lt_x h
  obtain ⟨D73, hD74, h⟩ := ob_lt_x h
  obtain ⟨hg79, h⟩ := ob_gt_e h
  obtain ⟨S75, hS77, h⟩ := ob_lt_x h
  obtain ⟨D76, hD78, h⟩ := ob_lt_x h
  obtain ⟨D82, hD83, h⟩ := ob_lt_x h
  obtain ⟨hg88, h⟩ := ob_gt_e h
  obtain ⟨S84, hS86, h⟩ := ob_lt_x h
  obtain ⟨D85, hD87, h⟩ := ob_lt_x h
  obtain ⟨D91, hD92, h⟩ := ob_lt_x h
  obtain ⟨hg97, h⟩ := ob_gt_e h
  obtain ⟨S93, hS95, h⟩ := ob_lt_x h
  obtain ⟨D94, hD96, h⟩ := ob_lt_x h
  obtain ⟨D100, hD101, h⟩ := ob_lt_x h
  obtain ⟨hg106, h⟩ := ob_gt_e h
  obtain ⟨S102, hS104, h⟩ := ob_lt_x h
  obtain ⟨D103, hD105, h⟩ := ob_lt_x h
  obtain ⟨D109, hD110, h⟩ := ob_lt_x h
  obtain ⟨hg115, h⟩ := ob_gt_e h
  obtain ⟨S111, hS113, h⟩ := ob_lt_x h
  obtain ⟨D112, hD114, h⟩ := ob_lt_x h
  obtain ⟨D118, hD119, h⟩ := ob_lt_x h
  obtain ⟨hg124, h⟩ := ob_gt_e h
  obtain ⟨S120, hS122, h⟩ := ob_lt_x h
  obtain ⟨D121, hD123, h⟩ := ob_lt_x h
  obtain ⟨D127, hD128, h⟩ := ob_lt_x h
  obtain ⟨hg133, h⟩ := ob_gt_e h
  obtain ⟨S129, hS131, h⟩ := ob_lt_x h
  obtain ⟨D130, hD132, h⟩ := ob_lt_x h
  obtain ⟨D136, hD137, h⟩ := ob_lt_x h
  obtain ⟨D138, hD139, h⟩ := ob_lt_x h
  obtain ⟨hg144, h⟩ := ob_gt_e h
  obtain ⟨S140, hS142, h⟩ := ob_lt_x h
  obtain ⟨D141, hD143, h⟩ := ob_lt_x h
  obtain ⟨D147, hD148, h⟩ := ob_lt_x h
  obtain ⟨hg153, h⟩ := ob_gt_e h
  obtain ⟨S149, hS151, h⟩ := ob_lt_x h
  obtain ⟨D150, hD152, h⟩ := ob_lt_x h
  obtain ⟨D156, hD157, h⟩ := ob_lt_x h
  obtain ⟨hg162, h⟩ := ob_gt_e h
  obtain ⟨S158, hS160, h⟩ := ob_lt_x h
  obtain ⟨D159, hD161, h⟩ := ob_lt_x h
  obtain ⟨D165, hD166, h⟩ := ob_lt_x h
  obtain ⟨hg171, h⟩ := ob_gt_e h
  obtain ⟨S167, hS169, h⟩ := ob_lt_x h
  obtain ⟨D168, hD170, h⟩ := ob_lt_x h
  obtain ⟨D174, hD175, h⟩ := ob_lt_x h
  obtain ⟨hg180, h⟩ := ob_gt_e h
  obtain ⟨S176, hS178, h⟩ := ob_lt_x h
  obtain ⟨D177, hD179, h⟩ := ob_lt_x h
  obtain ⟨D183, hD184, h⟩ := ob_lt_x h
  obtain ⟨hg189, h⟩ := ob_gt_e h
  obtain ⟨S185, hS187, h⟩ := ob_lt_x h
  obtain ⟨D186, hD188, h⟩ := ob_lt_x h
  obtain ⟨D192, hD193, h⟩ := ob_lt_x h
  obtain ⟨hg198, h⟩ := ob_gt_e h
  obtain ⟨S194, hS196, h⟩ := ob_lt_x h
  obtain ⟨D195, hD197, h⟩ := ob_lt_x h
  obtain ⟨D201, hD202, h⟩ := ob_lt_x h
  obtain ⟨hg207, h⟩ := ob_gt_e h
  obtain ⟨S203, hS205, h⟩ := ob_lt_x h
  obtain ⟨D204, hD206, h⟩ := ob_lt_x h
  obtain ⟨D210, hD211, h⟩ := ob_lt_x h
  obtain ⟨hg216, h⟩ := ob_gt_e h
  obtain ⟨S212, hS214, h⟩ := ob_lt_x h
  obtain ⟨D213, hD215, h⟩ := ob_lt_x h
  obtain ⟨D219, hD220, h⟩ := ob_lt_x h
  obtain ⟨hg225, h⟩ := ob_gt_e h
  obtain ⟨S221, hS223, h⟩ := ob_lt_x h
  obtain ⟨D222, hD224, h⟩ := ob_lt_x h
  obtain ⟨D228, hD229, h⟩ := ob_lt_x h
  obtain ⟨hg234, h⟩ := ob_gt_e h
  obtain ⟨S230, hS232, h⟩ := ob_lt_x h
  obtain ⟨D231, hD233, h⟩ := ob_lt_x h
  obtain ⟨D237, hD238, h⟩ := ob_lt_x h
  obtain ⟨hg243, h⟩ := ob_gt_e h
  obtain ⟨S239, hS241, h⟩ := ob_lt_x h
  obtain ⟨D240, hD242, h⟩ := ob_lt_x h
  obtain ⟨D246, hD247, h⟩ := ob_lt_x h
  obtain ⟨hg252, h⟩ := ob_gt_e h
  obtain ⟨S248, hS250, h⟩ := ob_lt_x h
  obtain ⟨D249, hD251, h⟩ := ob_lt_x h
  obtain ⟨D255, hD256, h⟩ := ob_lt_x h
  obtain ⟨hg261, h⟩ := ob_gt_e h
  obtain ⟨S257, hS259, h⟩ := ob_lt_x h
  obtain ⟨D258, hD260, h⟩ := ob_lt_x h
  obtain ⟨D264, hD265, h⟩ := ob_lt_x h
  obtain ⟨hg270, h⟩ := ob_gt_e h
  obtain ⟨S266, hS268, h⟩ := ob_lt_x h
  obtain ⟨D267, hD269, h⟩ := ob_lt_x h
  obtain ⟨D273, hD274, h⟩ := ob_lt_x h
  obtain ⟨hg279, h⟩ := ob_gt_e h
  obtain ⟨S275, hS277, h⟩ := ob_lt_x h
  obtain ⟨D276, hD278, h⟩ := ob_lt_x h
  obtain ⟨D282, hD283, h⟩ := ob_lt_x h
  obtain ⟨hg288, h⟩ := ob_gt_e h
  obtain ⟨S284, hS286, h⟩ := ob_lt_x h
  obtain ⟨D285, hD287, h⟩ := ob_lt_x h
  obtain ⟨D291, hD292, h⟩ := ob_lt_x h
  obtain ⟨hg297, h⟩ := ob_gt_e h
  obtain ⟨S293, hS295, h⟩ := ob_lt_x h
  obtain ⟨D294, hD296, h⟩ := ob_lt_x h
  obtain ⟨D300, hD301, h⟩ := ob_lt_x h
  obtain ⟨hg306, h⟩ := ob_gt_e h
  obtain ⟨S302, hS304, h⟩ := ob_lt_x h
  obtain ⟨D303, hD305, h⟩ := ob_lt_x h
  obtain ⟨D309, hD310, h⟩ := ob_lt_x h
  obtain ⟨hg315, h⟩ := ob_gt_e h
  obtain ⟨S311, hS313, h⟩ := ob_lt_x h
  obtain ⟨D312, hD314, h⟩ := ob_lt_x h
  obtain ⟨D318, hD319, h⟩ := ob_lt_x h
  obtain ⟨hg324, h⟩ := ob_gt_e h
  obtain ⟨S320, hS322, h⟩ := ob_lt_x h
  obtain ⟨D321, hD323, h⟩ := ob_lt_x h
  obtain ⟨D327, hD328, h⟩ := ob_lt_x h
  obtain ⟨hg333, h⟩ := ob_gt_e h
  obtain ⟨S329, hS331, h⟩ := ob_lt_x h
  obtain ⟨D330, hD332, h⟩ := ob_lt_x h
  obtain ⟨D336, hD337, h⟩ := ob_lt_x h
  obtain ⟨hg342, h⟩ := ob_gt_e h
  obtain ⟨S338, hS340, h⟩ := ob_lt_x h
  obtain ⟨D339, hD341, h⟩ := ob_lt_x h
  obtain ⟨D345, hD346, h⟩ := ob_lt_x h
  obtain ⟨hg351, h⟩ := ob_gt_e h
  obtain ⟨S347, hS349, h⟩ := ob_lt_x h
  obtain ⟨D348, hD350, h⟩ := ob_lt_x h
  obtain ⟨D354, hD355, h⟩ := ob_lt_x h
  obtain ⟨hg360, h⟩ := ob_gt_e h
  obtain ⟨S356, hS358, h⟩ := ob_lt_x h
  obtain ⟨D357, hD359, h⟩ := ob_lt_x h
  obtain ⟨D363, hD364, h⟩ := ob_lt_x h
  obtain ⟨hg373, h⟩ := ob_gt_e h
  obtain ⟨S365, hm374, h⟩ := ob_lt_x h
  obtain ⟨D368, hm375, h⟩ := ob_lt_x h
  obtain ⟨S366, hm376, h⟩ := ob_lt_x h
  obtain ⟨D369, hm377, h⟩ := ob_lt_x h
  obtain ⟨D370, hm378, h⟩ := ob_lt_x h
  obtain ⟨S367, hm379, h⟩ := ob_lt_x h
  obtain ⟨D371, hm380, h⟩ := ob_lt_x h
  obtain ⟨D372, hm381, h⟩ := ob_lt_x h
  obtain ⟨D388, hD389, h⟩ := ob_lt_x h
  obtain ⟨hg398, h⟩ := ob_gt_e h
  obtain ⟨S390, hm399, h⟩ := ob_lt_x h
  obtain ⟨D393, hm400, h⟩ := ob_lt_x h
  obtain ⟨S391, hm401, h⟩ := ob_lt_x h
  obtain ⟨D394, hm402, h⟩ := ob_lt_x h
  obtain ⟨D395, hm403, h⟩ := ob_lt_x h
  obtain ⟨S392, hm404, h⟩ := ob_lt_x h
  obtain ⟨D396, hm405, h⟩ := ob_lt_x h
  obtain ⟨D397, hm406, h⟩ := ob_lt_x h
  obtain ⟨D413, hD414, h⟩ := ob_lt_x h
  obtain ⟨hg419, h⟩ := ob_gt_e h
  obtain ⟨S415, hS417, h⟩ := ob_lt_x h
  obtain ⟨D416, hD418, h⟩ := ob_lt_x h
  obtain ⟨D422, hD423, h⟩ := ob_lt_x h
  obtain ⟨hg428, h⟩ := ob_gt_e h
  obtain ⟨S424, hS426, h⟩ := ob_lt_x h
  obtain ⟨D425, hD427, h⟩ := ob_lt_x h
  obtain ⟨D431, hD432, h⟩ := ob_lt_x h
  obtain ⟨hg437, h⟩ := ob_gt_e h
  obtain ⟨S433, hS435, h⟩ := ob_lt_x h
  obtain ⟨D434, hD436, h⟩ := ob_lt_x h
  obtain ⟨D440, hD441, h⟩ := ob_lt_x h
  obtain ⟨x444, D442, h443, h⟩ := ob_bd_e h
  obtain ⟨D445, hD446, h⟩ := ob_lt_x h
  obtain ⟨x449, D447, h448, h⟩ := ob_bd_e h
  obtain ⟨D450, hD451, h⟩ := ob_lt_x h
  obtain ⟨x454, D452, h453, h⟩ := ob_bd_e h
  obtain ⟨D455, hD456, h⟩ := ob_lt_x h
  obtain ⟨x459, D457, h458, h⟩ := ob_bd_e h
  obtain ⟨D460, hD461, h⟩ := ob_lt_x h
  obtain ⟨x464, D462, h463, h⟩ := ob_bd_e h
  obtain ⟨D465, hD466, h⟩ := ob_lt_x h
  have x_S433 : ob_ext S433 T := e_Model_init_L471 ob_FU v0 (0 : Int32) S433 D465 h
  have x_S424 : ob_ext S424 T := (ob_ext_new hS435).tr x_S433
  have x_S415 : ob_ext S415 T := (ob_ext_new hS426).tr x_S424
  have x_S392 : ob_ext S392 T := (ob_ext_new hS417).tr x_S415
  have x_S391 : ob_ext S391 T := (ob_ext_new hm404).tr x_S392
  have x_S390 : ob_ext S390 T := (ob_ext_new hm401).tr x_S391
  have x_S367 : ob_ext S367 T := (ob_ext_new hm399).tr x_S390
  have x_S366 : ob_ext S366 T := (ob_ext_new hm379).tr x_S367
  have x_S365 : ob_ext S365 T := (ob_ext_new hm376).tr x_S366
  have x_S356 : ob_ext S356 T := (ob_ext_new hm374).tr x_S365
  have x_S347 : ob_ext S347 T := (ob_ext_new hS358).tr x_S356
  have x_S338 : ob_ext S338 T := (ob_ext_new hS349).tr x_S347
  have x_S329 : ob_ext S329 T := (ob_ext_new hS340).tr x_S338
  have x_S320 : ob_ext S320 T := (ob_ext_new hS331).tr x_S329
  have x_S311 : ob_ext S311 T := (ob_ext_new hS322).tr x_S320
  have x_S302 : ob_ext S302 T := (ob_ext_new hS313).tr x_S311
  have x_S293 : ob_ext S293 T := (ob_ext_new hS304).tr x_S302
  have x_S284 : ob_ext S284 T := (ob_ext_new hS295).tr x_S293
  have x_S275 : ob_ext S275 T := (ob_ext_new hS286).tr x_S284
  have x_S266 : ob_ext S266 T := (ob_ext_new hS277).tr x_S275
  have x_S257 : ob_ext S257 T := (ob_ext_new hS268).tr x_S266
  have x_S248 : ob_ext S248 T := (ob_ext_new hS259).tr x_S257
  have x_S239 : ob_ext S239 T := (ob_ext_new hS250).tr x_S248
  have x_S230 : ob_ext S230 T := (ob_ext_new hS241).tr x_S239
  have x_S221 : ob_ext S221 T := (ob_ext_new hS232).tr x_S230
  have x_S212 : ob_ext S212 T := (ob_ext_new hS223).tr x_S221
  have x_S203 : ob_ext S203 T := (ob_ext_new hS214).tr x_S212
  have x_S194 : ob_ext S194 T := (ob_ext_new hS205).tr x_S203
  have x_S185 : ob_ext S185 T := (ob_ext_new hS196).tr x_S194
  have x_S176 : ob_ext S176 T := (ob_ext_new hS187).tr x_S185
  have x_S167 : ob_ext S167 T := (ob_ext_new hS178).tr x_S176
  have x_S158 : ob_ext S158 T := (ob_ext_new hS169).tr x_S167
  have x_S149 : ob_ext S149 T := (ob_ext_new hS160).tr x_S158
  have x_S140 : ob_ext S140 T := (ob_ext_new hS151).tr x_S149
  have x_S129 : ob_ext S129 T := (ob_ext_new hS142).tr x_S140
  have x_S120 : ob_ext S120 T := (ob_ext_new hS131).tr x_S129
  have x_S111 : ob_ext S111 T := (ob_ext_new hS122).tr x_S120
  have x_S102 : ob_ext S102 T := (ob_ext_new hS113).tr x_S111
  have x_S93 : ob_ext S93 T := (ob_ext_new hS104).tr x_S102
  have x_S84 : ob_ext S84 T := (ob_ext_new hS95).tr x_S93
  have x_S75 : ob_ext S75 T := (ob_ext_new hS86).tr x_S84
  have x_S66 : ob_ext S66 T := (ob_ext_new hS77).tr x_S75
  have x_S57 : ob_ext S57 T := (ob_ext_new hS68).tr x_S66
  have x_S48 : ob_ext S48 T := (ob_ext_new hS59).tr x_S57
  have x_S39 : ob_ext S39 T := (ob_ext_new hS50).tr x_S48
  have x_S28 : ob_ext S28 T := (ob_ext_new hS41).tr x_S39
  have x_S19 : ob_ext S19 T := (ob_ext_new hS30).tr x_S28
  have x_S10 : ob_ext S10 T := (ob_ext_new hS21).tr x_S19
  have x_S1 : ob_ext S1 T := (ob_ext_new hS12).tr x_S10
  have x_S : ob_ext S T := (ob_ext_new hS3).tr x_S1
  exact x_S
theorem c_Model_init {l : Launch} {E : ob_E} {S T : ob_S} {D D' : ob_D} {v0 : Nat} {v1 : Int32} {v2 : Int32} {v3 : Int32} {v4 : Int32} {v5 : Int32} (hp_v0 : S.1 v0 = 13) (h : f_Model_init v0 v1 v2 v3 v4 v5 S D = some (T, D')) : ob_M l E k_Model_init [.ref v0, .int v1, .int v2, .int v3, .int v4, .int v5] S D none T D' := by
  have xx := e_Model_init h
  refine ob_ofV (lo := [(0, .ref v0), (1, .int v1), (2, .int v2), (3, .int v3), (4, .int v4), (5, .int v5)]) (by decide) rfl (Nat.le_of_ble_eq_true rfl) rfl xx.1 xx.2.1 ?_
  rw [f_Model_init] at h
  refine ob_withH fun H0 hH0 => ?_
  have kd_v0 := ob_kdH hH0 hp_v0
  obtain ⟨hg5, h⟩ := ob_gt_e h
  obtain ⟨S1, hS3, h⟩ := ob_lt_x h
  obtain ⟨D2, hD4, h⟩ := ob_lt_x h
  obtain ⟨D8, hD9, h⟩ := ob_lt_x h
  obtain ⟨hg14, h⟩ := ob_gt_e h
  obtain ⟨S10, hS12, h⟩ := ob_lt_x h
  obtain ⟨D11, hD13, h⟩ := ob_lt_x h
  obtain ⟨D17, hD18, h⟩ := ob_lt_x h
  obtain ⟨hg23, h⟩ := ob_gt_e h
  obtain ⟨S19, hS21, h⟩ := ob_lt_x h
  obtain ⟨D20, hD22, h⟩ := ob_lt_x h
  obtain ⟨D26, hD27, h⟩ := ob_lt_x h
  obtain ⟨hg32, h⟩ := ob_gt_e h
  obtain ⟨S28, hS30, h⟩ := ob_lt_x h
  obtain ⟨D29, hD31, h⟩ := ob_lt_x h
  obtain ⟨D35, hD36, h⟩ := ob_lt_x h
  obtain ⟨D37, hD38, h⟩ := ob_lt_x h
  obtain ⟨hg43, h⟩ := ob_gt_e h
  obtain ⟨S39, hS41, h⟩ := ob_lt_x h
  obtain ⟨D40, hD42, h⟩ := ob_lt_x h
  obtain ⟨D46, hD47, h⟩ := ob_lt_x h
  obtain ⟨hg52, h⟩ := ob_gt_e h
  obtain ⟨S48, hS50, h⟩ := ob_lt_x h
  obtain ⟨D49, hD51, h⟩ := ob_lt_x h
  obtain ⟨D55, hD56, h⟩ := ob_lt_x h
  obtain ⟨hg61, h⟩ := ob_gt_e h
  obtain ⟨S57, hS59, h⟩ := ob_lt_x h
  obtain ⟨D58, hD60, h⟩ := ob_lt_x h
  obtain ⟨D64, hD65, h⟩ := ob_lt_x h
  obtain ⟨hg70, h⟩ := ob_gt_e h
  obtain ⟨S66, hS68, h⟩ := ob_lt_x h
  obtain ⟨D67, hD69, h⟩ := ob_lt_x h
  obtain ⟨D73, hD74, h⟩ := ob_lt_x h
  obtain ⟨hg79, h⟩ := ob_gt_e h
  obtain ⟨S75, hS77, h⟩ := ob_lt_x h
  obtain ⟨D76, hD78, h⟩ := ob_lt_x h
  obtain ⟨D82, hD83, h⟩ := ob_lt_x h
  obtain ⟨hg88, h⟩ := ob_gt_e h
  obtain ⟨S84, hS86, h⟩ := ob_lt_x h
  obtain ⟨D85, hD87, h⟩ := ob_lt_x h
  obtain ⟨D91, hD92, h⟩ := ob_lt_x h
  obtain ⟨hg97, h⟩ := ob_gt_e h
  obtain ⟨S93, hS95, h⟩ := ob_lt_x h
  obtain ⟨D94, hD96, h⟩ := ob_lt_x h
  obtain ⟨D100, hD101, h⟩ := ob_lt_x h
  obtain ⟨hg106, h⟩ := ob_gt_e h
  obtain ⟨S102, hS104, h⟩ := ob_lt_x h
  obtain ⟨D103, hD105, h⟩ := ob_lt_x h
  obtain ⟨D109, hD110, h⟩ := ob_lt_x h
  obtain ⟨hg115, h⟩ := ob_gt_e h
  obtain ⟨S111, hS113, h⟩ := ob_lt_x h
  obtain ⟨D112, hD114, h⟩ := ob_lt_x h
  obtain ⟨D118, hD119, h⟩ := ob_lt_x h
  obtain ⟨hg124, h⟩ := ob_gt_e h
  obtain ⟨S120, hS122, h⟩ := ob_lt_x h
  obtain ⟨D121, hD123, h⟩ := ob_lt_x h
  obtain ⟨D127, hD128, h⟩ := ob_lt_x h
  obtain ⟨hg133, h⟩ := ob_gt_e h
  obtain ⟨S129, hS131, h⟩ := ob_lt_x h
  obtain ⟨D130, hD132, h⟩ := ob_lt_x h
  obtain ⟨D136, hD137, h⟩ := ob_lt_x h
  obtain ⟨D138, hD139, h⟩ := ob_lt_x h
  obtain ⟨hg144, h⟩ := ob_gt_e h
  obtain ⟨S140, hS142, h⟩ := ob_lt_x h
  obtain ⟨D141, hD143, h⟩ := ob_lt_x h
  obtain ⟨D147, hD148, h⟩ := ob_lt_x h
  obtain ⟨hg153, h⟩ := ob_gt_e h
  obtain ⟨S149, hS151, h⟩ := ob_lt_x h
  obtain ⟨D150, hD152, h⟩ := ob_lt_x h
  obtain ⟨D156, hD157, h⟩ := ob_lt_x h
  obtain ⟨hg162, h⟩ := ob_gt_e h
  obtain ⟨S158, hS160, h⟩ := ob_lt_x h
  obtain ⟨D159, hD161, h⟩ := ob_lt_x h
  obtain ⟨D165, hD166, h⟩ := ob_lt_x h
  obtain ⟨hg171, h⟩ := ob_gt_e h
  obtain ⟨S167, hS169, h⟩ := ob_lt_x h
  obtain ⟨D168, hD170, h⟩ := ob_lt_x h
  obtain ⟨D174, hD175, h⟩ := ob_lt_x h
  obtain ⟨hg180, h⟩ := ob_gt_e h
  obtain ⟨S176, hS178, h⟩ := ob_lt_x h
  obtain ⟨D177, hD179, h⟩ := ob_lt_x h
  obtain ⟨D183, hD184, h⟩ := ob_lt_x h
  obtain ⟨hg189, h⟩ := ob_gt_e h
  obtain ⟨S185, hS187, h⟩ := ob_lt_x h
  obtain ⟨D186, hD188, h⟩ := ob_lt_x h
  obtain ⟨D192, hD193, h⟩ := ob_lt_x h
  obtain ⟨hg198, h⟩ := ob_gt_e h
  obtain ⟨S194, hS196, h⟩ := ob_lt_x h
  obtain ⟨D195, hD197, h⟩ := ob_lt_x h
  obtain ⟨D201, hD202, h⟩ := ob_lt_x h
  obtain ⟨hg207, h⟩ := ob_gt_e h
  obtain ⟨S203, hS205, h⟩ := ob_lt_x h
  obtain ⟨D204, hD206, h⟩ := ob_lt_x h
  obtain ⟨D210, hD211, h⟩ := ob_lt_x h
  obtain ⟨hg216, h⟩ := ob_gt_e h
  obtain ⟨S212, hS214, h⟩ := ob_lt_x h
  obtain ⟨D213, hD215, h⟩ := ob_lt_x h
  obtain ⟨D219, hD220, h⟩ := ob_lt_x h
  obtain ⟨hg225, h⟩ := ob_gt_e h
  obtain ⟨S221, hS223, h⟩ := ob_lt_x h
  obtain ⟨D222, hD224, h⟩ := ob_lt_x h
  obtain ⟨D228, hD229, h⟩ := ob_lt_x h
  obtain ⟨hg234, h⟩ := ob_gt_e h
  obtain ⟨S230, hS232, h⟩ := ob_lt_x h
  obtain ⟨D231, hD233, h⟩ := ob_lt_x h
  obtain ⟨D237, hD238, h⟩ := ob_lt_x h
  obtain ⟨hg243, h⟩ := ob_gt_e h
  obtain ⟨S239, hS241, h⟩ := ob_lt_x h
  obtain ⟨D240, hD242, h⟩ := ob_lt_x h
  obtain ⟨D246, hD247, h⟩ := ob_lt_x h
  obtain ⟨hg252, h⟩ := ob_gt_e h
  obtain ⟨S248, hS250, h⟩ := ob_lt_x h
  obtain ⟨D249, hD251, h⟩ := ob_lt_x h
  obtain ⟨D255, hD256, h⟩ := ob_lt_x h
  obtain ⟨hg261, h⟩ := ob_gt_e h
  obtain ⟨S257, hS259, h⟩ := ob_lt_x h
  obtain ⟨D258, hD260, h⟩ := ob_lt_x h
  obtain ⟨D264, hD265, h⟩ := ob_lt_x h
  obtain ⟨hg270, h⟩ := ob_gt_e h
  obtain ⟨S266, hS268, h⟩ := ob_lt_x h
  obtain ⟨D267, hD269, h⟩ := ob_lt_x h
  obtain ⟨D273, hD274, h⟩ := ob_lt_x h
  obtain ⟨hg279, h⟩ := ob_gt_e h
  obtain ⟨S275, hS277, h⟩ := ob_lt_x h
  obtain ⟨D276, hD278, h⟩ := ob_lt_x h
  obtain ⟨D282, hD283, h⟩ := ob_lt_x h
  obtain ⟨hg288, h⟩ := ob_gt_e h
  obtain ⟨S284, hS286, h⟩ := ob_lt_x h
  obtain ⟨D285, hD287, h⟩ := ob_lt_x h
  obtain ⟨D291, hD292, h⟩ := ob_lt_x h
  obtain ⟨hg297, h⟩ := ob_gt_e h
  obtain ⟨S293, hS295, h⟩ := ob_lt_x h
  obtain ⟨D294, hD296, h⟩ := ob_lt_x h
  obtain ⟨D300, hD301, h⟩ := ob_lt_x h
  obtain ⟨hg306, h⟩ := ob_gt_e h
  obtain ⟨S302, hS304, h⟩ := ob_lt_x h
  obtain ⟨D303, hD305, h⟩ := ob_lt_x h
  obtain ⟨D309, hD310, h⟩ := ob_lt_x h
  obtain ⟨hg315, h⟩ := ob_gt_e h
  obtain ⟨S311, hS313, h⟩ := ob_lt_x h
  obtain ⟨D312, hD314, h⟩ := ob_lt_x h
  obtain ⟨D318, hD319, h⟩ := ob_lt_x h
  obtain ⟨hg324, h⟩ := ob_gt_e h
  obtain ⟨S320, hS322, h⟩ := ob_lt_x h
  obtain ⟨D321, hD323, h⟩ := ob_lt_x h
  obtain ⟨D327, hD328, h⟩ := ob_lt_x h
  obtain ⟨hg333, h⟩ := ob_gt_e h
  obtain ⟨S329, hS331, h⟩ := ob_lt_x h
  obtain ⟨D330, hD332, h⟩ := ob_lt_x h
  obtain ⟨D336, hD337, h⟩ := ob_lt_x h
  obtain ⟨hg342, h⟩ := ob_gt_e h
  obtain ⟨S338, hS340, h⟩ := ob_lt_x h
  obtain ⟨D339, hD341, h⟩ := ob_lt_x h
  obtain ⟨D345, hD346, h⟩ := ob_lt_x h
  obtain ⟨hg351, h⟩ := ob_gt_e h
  obtain ⟨S347, hS349, h⟩ := ob_lt_x h
  obtain ⟨D348, hD350, h⟩ := ob_lt_x h
  obtain ⟨D354, hD355, h⟩ := ob_lt_x h
  obtain ⟨hg360, h⟩ := ob_gt_e h
  obtain ⟨S356, hS358, h⟩ := ob_lt_x h
  obtain ⟨D357, hD359, h⟩ := ob_lt_x h
  obtain ⟨D363, hD364, h⟩ := ob_lt_x h
  obtain ⟨hg373, h⟩ := ob_gt_e h
  obtain ⟨S365, hm374, h⟩ := ob_lt_x h
  obtain ⟨D368, hm375, h⟩ := ob_lt_x h
  obtain ⟨S366, hm376, h⟩ := ob_lt_x h
  obtain ⟨D369, hm377, h⟩ := ob_lt_x h
  obtain ⟨D370, hm378, h⟩ := ob_lt_x h
  obtain ⟨S367, hm379, h⟩ := ob_lt_x h
  obtain ⟨D371, hm380, h⟩ := ob_lt_x h
  obtain ⟨D372, hm381, h⟩ := ob_lt_x h
  obtain ⟨D388, hD389, h⟩ := ob_lt_x h
  obtain ⟨hg398, h⟩ := ob_gt_e h
  obtain ⟨S390, hm399, h⟩ := ob_lt_x h
  obtain ⟨D393, hm400, h⟩ := ob_lt_x h
  obtain ⟨S391, hm401, h⟩ := ob_lt_x h
  obtain ⟨D394, hm402, h⟩ := ob_lt_x h
  obtain ⟨D395, hm403, h⟩ := ob_lt_x h
  obtain ⟨S392, hm404, h⟩ := ob_lt_x h
  obtain ⟨D396, hm405, h⟩ := ob_lt_x h
  obtain ⟨D397, hm406, h⟩ := ob_lt_x h
  obtain ⟨D413, hD414, h⟩ := ob_lt_x h
  obtain ⟨hg419, h⟩ := ob_gt_e h
  obtain ⟨S415, hS417, h⟩ := ob_lt_x h
  obtain ⟨D416, hD418, h⟩ := ob_lt_x h
  obtain ⟨D422, hD423, h⟩ := ob_lt_x h
  obtain ⟨hg428, h⟩ := ob_gt_e h
  obtain ⟨S424, hS426, h⟩ := ob_lt_x h
  obtain ⟨D425, hD427, h⟩ := ob_lt_x h
  obtain ⟨D431, hD432, h⟩ := ob_lt_x h
  obtain ⟨hg437, h⟩ := ob_gt_e h
  obtain ⟨S433, hS435, h⟩ := ob_lt_x h
  obtain ⟨D434, hD436, h⟩ := ob_lt_x h
  obtain ⟨D440, hD441, h⟩ := ob_lt_x h
  obtain ⟨x444, D442, h443, h⟩ := ob_bd_e h
  obtain ⟨D445, hD446, h⟩ := ob_lt_x h
  obtain ⟨x449, D447, h448, h⟩ := ob_bd_e h
  obtain ⟨D450, hD451, h⟩ := ob_lt_x h
  obtain ⟨x454, D452, h453, h⟩ := ob_bd_e h
  obtain ⟨D455, hD456, h⟩ := ob_lt_x h
  obtain ⟨x459, D457, h458, h⟩ := ob_bd_e h
  obtain ⟨D460, hD461, h⟩ := ob_lt_x h
  obtain ⟨x464, D462, h463, h⟩ := ob_bd_e h
  obtain ⟨D465, hD466, h⟩ := ob_lt_x h
  have x_S433 : ob_ext S433 T := e_Model_init_L471 ob_FU v0 (0 : Int32) S433 D465 h
  have x_S424 : ob_ext S424 T := (ob_ext_new hS435).tr x_S433
  have x_S415 : ob_ext S415 T := (ob_ext_new hS426).tr x_S424
  have x_S392 : ob_ext S392 T := (ob_ext_new hS417).tr x_S415
  have x_S391 : ob_ext S391 T := (ob_ext_new hm404).tr x_S392
  have x_S390 : ob_ext S390 T := (ob_ext_new hm401).tr x_S391
  have x_S367 : ob_ext S367 T := (ob_ext_new hm399).tr x_S390
  have x_S366 : ob_ext S366 T := (ob_ext_new hm379).tr x_S367
  have x_S365 : ob_ext S365 T := (ob_ext_new hm376).tr x_S366
  have x_S356 : ob_ext S356 T := (ob_ext_new hm374).tr x_S365
  have x_S347 : ob_ext S347 T := (ob_ext_new hS358).tr x_S356
  have x_S338 : ob_ext S338 T := (ob_ext_new hS349).tr x_S347
  have x_S329 : ob_ext S329 T := (ob_ext_new hS340).tr x_S338
  have x_S320 : ob_ext S320 T := (ob_ext_new hS331).tr x_S329
  have x_S311 : ob_ext S311 T := (ob_ext_new hS322).tr x_S320
  have x_S302 : ob_ext S302 T := (ob_ext_new hS313).tr x_S311
  have x_S293 : ob_ext S293 T := (ob_ext_new hS304).tr x_S302
  have x_S284 : ob_ext S284 T := (ob_ext_new hS295).tr x_S293
  have x_S275 : ob_ext S275 T := (ob_ext_new hS286).tr x_S284
  have x_S266 : ob_ext S266 T := (ob_ext_new hS277).tr x_S275
  have x_S257 : ob_ext S257 T := (ob_ext_new hS268).tr x_S266
  have x_S248 : ob_ext S248 T := (ob_ext_new hS259).tr x_S257
  have x_S239 : ob_ext S239 T := (ob_ext_new hS250).tr x_S248
  have x_S230 : ob_ext S230 T := (ob_ext_new hS241).tr x_S239
  have x_S221 : ob_ext S221 T := (ob_ext_new hS232).tr x_S230
  have x_S212 : ob_ext S212 T := (ob_ext_new hS223).tr x_S221
  have x_S203 : ob_ext S203 T := (ob_ext_new hS214).tr x_S212
  have x_S194 : ob_ext S194 T := (ob_ext_new hS205).tr x_S203
  have x_S185 : ob_ext S185 T := (ob_ext_new hS196).tr x_S194
  have x_S176 : ob_ext S176 T := (ob_ext_new hS187).tr x_S185
  have x_S167 : ob_ext S167 T := (ob_ext_new hS178).tr x_S176
  have x_S158 : ob_ext S158 T := (ob_ext_new hS169).tr x_S167
  have x_S149 : ob_ext S149 T := (ob_ext_new hS160).tr x_S158
  have x_S140 : ob_ext S140 T := (ob_ext_new hS151).tr x_S149
  have x_S129 : ob_ext S129 T := (ob_ext_new hS142).tr x_S140
  have x_S120 : ob_ext S120 T := (ob_ext_new hS131).tr x_S129
  have x_S111 : ob_ext S111 T := (ob_ext_new hS122).tr x_S120
  have x_S102 : ob_ext S102 T := (ob_ext_new hS113).tr x_S111
  have x_S93 : ob_ext S93 T := (ob_ext_new hS104).tr x_S102
  have x_S84 : ob_ext S84 T := (ob_ext_new hS95).tr x_S93
  have x_S75 : ob_ext S75 T := (ob_ext_new hS86).tr x_S84
  have x_S66 : ob_ext S66 T := (ob_ext_new hS77).tr x_S75
  have x_S57 : ob_ext S57 T := (ob_ext_new hS68).tr x_S66
  have x_S48 : ob_ext S48 T := (ob_ext_new hS59).tr x_S57
  have x_S39 : ob_ext S39 T := (ob_ext_new hS50).tr x_S48
  have x_S28 : ob_ext S28 T := (ob_ext_new hS41).tr x_S39
  have x_S19 : ob_ext S19 T := (ob_ext_new hS30).tr x_S28
  have x_S10 : ob_ext S10 T := (ob_ext_new hS21).tr x_S19
  have x_S1 : ob_ext S1 T := (ob_ext_new hS12).tr x_S10
  have x_S : ob_ext S T := (ob_ext_new hS3).tr x_S1
  refine ob_aload d_Model_init_0 rfl ?_
  refine ob_objI d_Model_init_1 w_1081 w_27 w_28 (by decide) (Nat.le_of_ble_eq_true rfl) ?_
  refine ob_aload d_Model_init_4 rfl ?_
  refine ob_push d_Model_init_5 ?_
  refine ob_newBx d_Model_init_8 w_1363 hg5 hS3 hD4 x_S1 ?_
  have hk6 := ob_kd_new hS3 kd_v0
  have hk7 : ob_kd S1 S.2.2.1 21 := ob_kd_this hS3 (by decide)
  refine ob_xI hD9 (ob_putFR d_Model_init_10 F_12_6 w_1095 ⟨rfl, rfl⟩ (fty := (.array (.byte))) (by decide) rfl rfl hk6.1 hk7.1) ?_
  refine ob_aload d_Model_init_13 rfl ?_
  refine ob_push d_Model_init_14 ?_
  refine ob_newZx d_Model_init_16 w_222 hg14 hS12 hD13 x_S10 ?_
  have hk15 := ob_kd_new hS12 hk6
  have hk16 : ob_kd S10 S1.2.2.1 22 := ob_kd_this hS12 (by decide)
  refine ob_xI hD18 (ob_putFR d_Model_init_18 F_12_11 w_1100 ⟨rfl, rfl⟩ (fty := (.array (.boolean))) (by decide) rfl rfl hk15.1 hk16.1) ?_
  refine ob_aload d_Model_init_21 rfl ?_
  refine ob_push d_Model_init_22 ?_
  refine ob_newBx d_Model_init_25 w_1363 hg23 hS21 hD22 x_S19 ?_
  have hk24 := ob_kd_new hS21 hk15
  have hk25 : ob_kd S19 S10.2.2.1 21 := ob_kd_this hS21 (by decide)
  refine ob_xI hD27 (ob_putFR d_Model_init_27 F_12_13 w_1102 ⟨rfl, rfl⟩ (fty := (.array (.byte))) (by decide) rfl rfl hk24.1 hk25.1) ?_
  refine ob_aload d_Model_init_30 rfl ?_
  refine ob_push d_Model_init_31 ?_
  refine ob_newZx d_Model_init_33 w_222 hg32 hS30 hD31 x_S28 ?_
  have hk33 := ob_kd_new hS30 hk24
  have hk34 : ob_kd S28 S19.2.2.1 22 := ob_kd_this hS30 (by decide)
  refine ob_xI hD36 (ob_putFR d_Model_init_35 F_12_18 w_1107 ⟨rfl, rfl⟩ (fty := (.array (.boolean))) (by decide) rfl rfl hk33.1 hk34.1) ?_
  refine ob_aload d_Model_init_38 rfl ?_
  refine ob_push d_Model_init_39 ?_
  refine ob_xI hD38 (ob_putI d_Model_init_40 F_12_19 l_Model_23 hk33.1) ?_
  refine ob_aload d_Model_init_43 rfl ?_
  refine ob_push d_Model_init_44 ?_
  refine ob_newBx d_Model_init_47 w_1363 hg43 hS41 hD42 x_S39 ?_
  have hk44 := ob_kd_new hS41 hk33
  have hk45 : ob_kd S39 S28.2.2.1 21 := ob_kd_this hS41 (by decide)
  refine ob_xI hD47 (ob_putFR d_Model_init_49 F_12_24 w_1113 ⟨rfl, rfl⟩ (fty := (.array (.byte))) (by decide) rfl rfl hk44.1 hk45.1) ?_
  refine ob_aload d_Model_init_52 rfl ?_
  refine ob_push d_Model_init_53 ?_
  refine ob_newIx d_Model_init_55 w_52 hg52 hS50 hD51 x_S48 ?_
  have hk53 := ob_kd_new hS50 hk44
  have hk54 : ob_kd S48 S39.2.2.1 20 := ob_kd_this hS50 (by decide)
  refine ob_xI hD56 (ob_putFR d_Model_init_57 F_12_25 w_1114 ⟨rfl, rfl⟩ (fty := (.array (.int))) (by decide) rfl rfl hk53.1 hk54.1) ?_
  refine ob_aload d_Model_init_60 rfl ?_
  refine ob_push d_Model_init_61 ?_
  refine ob_newBx d_Model_init_64 w_1363 hg61 hS59 hD60 x_S57 ?_
  have hk62 := ob_kd_new hS59 hk53
  have hk63 : ob_kd S57 S48.2.2.1 21 := ob_kd_this hS59 (by decide)
  refine ob_xI hD65 (ob_putFR d_Model_init_66 F_12_27 w_1116 ⟨rfl, rfl⟩ (fty := (.array (.byte))) (by decide) rfl rfl hk62.1 hk63.1) ?_
  refine ob_aload d_Model_init_69 rfl ?_
  refine ob_push d_Model_init_70 ?_
  refine ob_newZx d_Model_init_73 w_222 hg70 hS68 hD69 x_S66 ?_
  have hk71 := ob_kd_new hS68 hk62
  have hk72 : ob_kd S66 S57.2.2.1 22 := ob_kd_this hS68 (by decide)
  refine ob_xI hD74 (ob_putFR d_Model_init_75 F_12_31 w_1120 ⟨rfl, rfl⟩ (fty := (.array (.boolean))) (by decide) rfl rfl hk71.1 hk72.1) ?_
  refine ob_aload d_Model_init_78 rfl ?_
  refine ob_push d_Model_init_79 ?_
  refine ob_newZx d_Model_init_82 w_222 hg79 hS77 hD78 x_S75 ?_
  have hk80 := ob_kd_new hS77 hk71
  have hk81 : ob_kd S75 S66.2.2.1 22 := ob_kd_this hS77 (by decide)
  refine ob_xI hD83 (ob_putFR d_Model_init_84 F_12_32 w_1121 ⟨rfl, rfl⟩ (fty := (.array (.boolean))) (by decide) rfl rfl hk80.1 hk81.1) ?_
  refine ob_aload d_Model_init_87 rfl ?_
  refine ob_push d_Model_init_88 ?_
  refine ob_newIx d_Model_init_91 w_52 hg88 hS86 hD87 x_S84 ?_
  have hk89 := ob_kd_new hS86 hk80
  have hk90 : ob_kd S84 S75.2.2.1 20 := ob_kd_this hS86 (by decide)
  refine ob_xI hD92 (ob_putFR d_Model_init_93 F_12_33 w_1122 ⟨rfl, rfl⟩ (fty := (.array (.int))) (by decide) rfl rfl hk89.1 hk90.1) ?_
  refine ob_aload d_Model_init_96 rfl ?_
  refine ob_push d_Model_init_97 ?_
  refine ob_newIx d_Model_init_100 w_52 hg97 hS95 hD96 x_S93 ?_
  have hk98 := ob_kd_new hS95 hk89
  have hk99 : ob_kd S93 S84.2.2.1 20 := ob_kd_this hS95 (by decide)
  refine ob_xI hD101 (ob_putFR d_Model_init_102 F_12_34 w_1123 ⟨rfl, rfl⟩ (fty := (.array (.int))) (by decide) rfl rfl hk98.1 hk99.1) ?_
  refine ob_aload d_Model_init_105 rfl ?_
  refine ob_push d_Model_init_106 ?_
  refine ob_newIx d_Model_init_109 w_52 hg106 hS104 hD105 x_S102 ?_
  have hk107 := ob_kd_new hS104 hk98
  have hk108 : ob_kd S102 S93.2.2.1 20 := ob_kd_this hS104 (by decide)
  refine ob_xI hD110 (ob_putFR d_Model_init_111 F_12_35 w_1124 ⟨rfl, rfl⟩ (fty := (.array (.int))) (by decide) rfl rfl hk107.1 hk108.1) ?_
  refine ob_aload d_Model_init_114 rfl ?_
  refine ob_push d_Model_init_115 ?_
  refine ob_newBx d_Model_init_118 w_1363 hg115 hS113 hD114 x_S111 ?_
  have hk116 := ob_kd_new hS113 hk107
  have hk117 : ob_kd S111 S102.2.2.1 21 := ob_kd_this hS113 (by decide)
  refine ob_xI hD119 (ob_putFR d_Model_init_120 F_12_37 w_1126 ⟨rfl, rfl⟩ (fty := (.array (.byte))) (by decide) rfl rfl hk116.1 hk117.1) ?_
  refine ob_aload d_Model_init_123 rfl ?_
  refine ob_push d_Model_init_124 ?_
  refine ob_newIx d_Model_init_126 w_52 hg124 hS122 hD123 x_S120 ?_
  have hk125 := ob_kd_new hS122 hk116
  have hk126 : ob_kd S120 S111.2.2.1 20 := ob_kd_this hS122 (by decide)
  refine ob_xI hD128 (ob_putFR d_Model_init_128 F_12_38 w_1127 ⟨rfl, rfl⟩ (fty := (.array (.int))) (by decide) rfl rfl hk125.1 hk126.1) ?_
  refine ob_aload d_Model_init_131 rfl ?_
  refine ob_push d_Model_init_132 ?_
  refine ob_newIx d_Model_init_134 w_52 hg133 hS131 hD132 x_S129 ?_
  have hk134 := ob_kd_new hS131 hk125
  have hk135 : ob_kd S129 S120.2.2.1 20 := ob_kd_this hS131 (by decide)
  refine ob_xI hD137 (ob_putFR d_Model_init_136 F_12_39 w_1128 ⟨rfl, rfl⟩ (fty := (.array (.int))) (by decide) rfl rfl hk134.1 hk135.1) ?_
  refine ob_aload d_Model_init_139 rfl ?_
  refine ob_push d_Model_init_140 ?_
  refine ob_xI hD139 (ob_putI d_Model_init_141 F_12_40 l_Model_61 hk134.1) ?_
  refine ob_aload d_Model_init_144 rfl ?_
  refine ob_push d_Model_init_145 ?_
  refine ob_newIx d_Model_init_147 w_52 hg144 hS142 hD143 x_S140 ?_
  have hk145 := ob_kd_new hS142 hk134
  have hk146 : ob_kd S140 S129.2.2.1 20 := ob_kd_this hS142 (by decide)
  refine ob_xI hD148 (ob_putFR d_Model_init_149 F_12_42 w_1131 ⟨rfl, rfl⟩ (fty := (.array (.int))) (by decide) rfl rfl hk145.1 hk146.1) ?_
  refine ob_aload d_Model_init_152 rfl ?_
  refine ob_push d_Model_init_153 ?_
  refine ob_newIx d_Model_init_155 w_52 hg153 hS151 hD152 x_S149 ?_
  have hk154 := ob_kd_new hS151 hk145
  have hk155 : ob_kd S149 S140.2.2.1 20 := ob_kd_this hS151 (by decide)
  refine ob_xI hD157 (ob_putFR d_Model_init_157 F_12_43 w_1132 ⟨rfl, rfl⟩ (fty := (.array (.int))) (by decide) rfl rfl hk154.1 hk155.1) ?_
  refine ob_aload d_Model_init_160 rfl ?_
  refine ob_push d_Model_init_161 ?_
  refine ob_newBx d_Model_init_164 w_1363 hg162 hS160 hD161 x_S158 ?_
  have hk163 := ob_kd_new hS160 hk154
  have hk164 : ob_kd S158 S149.2.2.1 21 := ob_kd_this hS160 (by decide)
  refine ob_xI hD166 (ob_putFR d_Model_init_166 F_12_44 w_1133 ⟨rfl, rfl⟩ (fty := (.array (.byte))) (by decide) rfl rfl hk163.1 hk164.1) ?_
  refine ob_aload d_Model_init_169 rfl ?_
  refine ob_push d_Model_init_170 ?_
  refine ob_newZx d_Model_init_173 w_222 hg171 hS169 hD170 x_S167 ?_
  have hk172 := ob_kd_new hS169 hk163
  have hk173 : ob_kd S167 S158.2.2.1 22 := ob_kd_this hS169 (by decide)
  refine ob_xI hD175 (ob_putFR d_Model_init_175 F_12_47 w_1136 ⟨rfl, rfl⟩ (fty := (.array (.boolean))) (by decide) rfl rfl hk172.1 hk173.1) ?_
  refine ob_aload d_Model_init_178 rfl ?_
  refine ob_push d_Model_init_179 ?_
  refine ob_newZx d_Model_init_182 w_222 hg180 hS178 hD179 x_S176 ?_
  have hk181 := ob_kd_new hS178 hk172
  have hk182 : ob_kd S176 S167.2.2.1 22 := ob_kd_this hS178 (by decide)
  refine ob_xI hD184 (ob_putFR d_Model_init_184 F_12_48 w_1137 ⟨rfl, rfl⟩ (fty := (.array (.boolean))) (by decide) rfl rfl hk181.1 hk182.1) ?_
  refine ob_aload d_Model_init_187 rfl ?_
  refine ob_push d_Model_init_188 ?_
  refine ob_newIx d_Model_init_191 w_52 hg189 hS187 hD188 x_S185 ?_
  have hk190 := ob_kd_new hS187 hk181
  have hk191 : ob_kd S185 S176.2.2.1 20 := ob_kd_this hS187 (by decide)
  refine ob_xI hD193 (ob_putFR d_Model_init_193 F_12_49 w_1138 ⟨rfl, rfl⟩ (fty := (.array (.int))) (by decide) rfl rfl hk190.1 hk191.1) ?_
  refine ob_aload d_Model_init_196 rfl ?_
  refine ob_push d_Model_init_197 ?_
  refine ob_newIx d_Model_init_200 w_52 hg198 hS196 hD197 x_S194 ?_
  have hk199 := ob_kd_new hS196 hk190
  have hk200 : ob_kd S194 S185.2.2.1 20 := ob_kd_this hS196 (by decide)
  refine ob_xI hD202 (ob_putFR d_Model_init_202 F_12_50 w_1139 ⟨rfl, rfl⟩ (fty := (.array (.int))) (by decide) rfl rfl hk199.1 hk200.1) ?_
  refine ob_aload d_Model_init_205 rfl ?_
  refine ob_push d_Model_init_206 ?_
  refine ob_newIx d_Model_init_209 w_52 hg207 hS205 hD206 x_S203 ?_
  have hk208 := ob_kd_new hS205 hk199
  have hk209 : ob_kd S203 S194.2.2.1 20 := ob_kd_this hS205 (by decide)
  refine ob_xI hD211 (ob_putFR d_Model_init_211 F_12_51 w_1140 ⟨rfl, rfl⟩ (fty := (.array (.int))) (by decide) rfl rfl hk208.1 hk209.1) ?_
  refine ob_aload d_Model_init_214 rfl ?_
  refine ob_push d_Model_init_215 ?_
  refine ob_newIx d_Model_init_218 w_52 hg216 hS214 hD215 x_S212 ?_
  have hk217 := ob_kd_new hS214 hk208
  have hk218 : ob_kd S212 S203.2.2.1 20 := ob_kd_this hS214 (by decide)
  refine ob_xI hD220 (ob_putFR d_Model_init_220 F_12_52 w_1141 ⟨rfl, rfl⟩ (fty := (.array (.int))) (by decide) rfl rfl hk217.1 hk218.1) ?_
  refine ob_aload d_Model_init_223 rfl ?_
  refine ob_push d_Model_init_224 ?_
  refine ob_newIx d_Model_init_227 w_52 hg225 hS223 hD224 x_S221 ?_
  have hk226 := ob_kd_new hS223 hk217
  have hk227 : ob_kd S221 S212.2.2.1 20 := ob_kd_this hS223 (by decide)
  refine ob_xI hD229 (ob_putFR d_Model_init_229 F_12_53 w_1142 ⟨rfl, rfl⟩ (fty := (.array (.int))) (by decide) rfl rfl hk226.1 hk227.1) ?_
  refine ob_aload d_Model_init_232 rfl ?_
  refine ob_push d_Model_init_233 ?_
  refine ob_newIx d_Model_init_236 w_52 hg234 hS232 hD233 x_S230 ?_
  have hk235 := ob_kd_new hS232 hk226
  have hk236 : ob_kd S230 S221.2.2.1 20 := ob_kd_this hS232 (by decide)
  refine ob_xI hD238 (ob_putFR d_Model_init_238 F_12_54 w_1143 ⟨rfl, rfl⟩ (fty := (.array (.int))) (by decide) rfl rfl hk235.1 hk236.1) ?_
  refine ob_aload d_Model_init_241 rfl ?_
  refine ob_push d_Model_init_242 ?_
  refine ob_newIx d_Model_init_245 w_52 hg243 hS241 hD242 x_S239 ?_
  have hk244 := ob_kd_new hS241 hk235
  have hk245 : ob_kd S239 S230.2.2.1 20 := ob_kd_this hS241 (by decide)
  refine ob_xI hD247 (ob_putFR d_Model_init_247 F_12_55 w_1144 ⟨rfl, rfl⟩ (fty := (.array (.int))) (by decide) rfl rfl hk244.1 hk245.1) ?_
  refine ob_aload d_Model_init_250 rfl ?_
  refine ob_push d_Model_init_251 ?_
  refine ob_newZx d_Model_init_253 w_222 hg252 hS250 hD251 x_S248 ?_
  have hk253 := ob_kd_new hS250 hk244
  have hk254 : ob_kd S248 S239.2.2.1 22 := ob_kd_this hS250 (by decide)
  refine ob_xI hD256 (ob_putFR d_Model_init_255 F_12_60 w_1149 ⟨rfl, rfl⟩ (fty := (.array (.boolean))) (by decide) rfl rfl hk253.1 hk254.1) ?_
  refine ob_aload d_Model_init_258 rfl ?_
  refine ob_push d_Model_init_259 ?_
  refine ob_newZx d_Model_init_261 w_222 hg261 hS259 hD260 x_S257 ?_
  have hk262 := ob_kd_new hS259 hk253
  have hk263 : ob_kd S257 S248.2.2.1 22 := ob_kd_this hS259 (by decide)
  refine ob_xI hD265 (ob_putFR d_Model_init_263 F_12_61 w_1150 ⟨rfl, rfl⟩ (fty := (.array (.boolean))) (by decide) rfl rfl hk262.1 hk263.1) ?_
  refine ob_aload d_Model_init_266 rfl ?_
  refine ob_push d_Model_init_267 ?_
  refine ob_newZx d_Model_init_269 w_222 hg270 hS268 hD269 x_S266 ?_
  have hk271 := ob_kd_new hS268 hk262
  have hk272 : ob_kd S266 S257.2.2.1 22 := ob_kd_this hS268 (by decide)
  refine ob_xI hD274 (ob_putFR d_Model_init_271 F_12_62 w_1151 ⟨rfl, rfl⟩ (fty := (.array (.boolean))) (by decide) rfl rfl hk271.1 hk272.1) ?_
  refine ob_aload d_Model_init_274 rfl ?_
  refine ob_push d_Model_init_275 ?_
  refine ob_newBx d_Model_init_278 w_1363 hg279 hS277 hD278 x_S275 ?_
  have hk280 := ob_kd_new hS277 hk271
  have hk281 : ob_kd S275 S266.2.2.1 21 := ob_kd_this hS277 (by decide)
  refine ob_xI hD283 (ob_putFR d_Model_init_280 F_12_63 w_1152 ⟨rfl, rfl⟩ (fty := (.array (.byte))) (by decide) rfl rfl hk280.1 hk281.1) ?_
  refine ob_aload d_Model_init_283 rfl ?_
  refine ob_push d_Model_init_284 ?_
  refine ob_newIx d_Model_init_286 w_52 hg288 hS286 hD287 x_S284 ?_
  have hk289 := ob_kd_new hS286 hk280
  have hk290 : ob_kd S284 S275.2.2.1 20 := ob_kd_this hS286 (by decide)
  refine ob_xI hD292 (ob_putFR d_Model_init_288 F_12_64 w_1153 ⟨rfl, rfl⟩ (fty := (.array (.int))) (by decide) rfl rfl hk289.1 hk290.1) ?_
  refine ob_aload d_Model_init_291 rfl ?_
  refine ob_push d_Model_init_292 ?_
  refine ob_newIx d_Model_init_294 w_52 hg297 hS295 hD296 x_S293 ?_
  have hk298 := ob_kd_new hS295 hk289
  have hk299 : ob_kd S293 S284.2.2.1 20 := ob_kd_this hS295 (by decide)
  refine ob_xI hD301 (ob_putFR d_Model_init_296 F_12_65 w_1154 ⟨rfl, rfl⟩ (fty := (.array (.int))) (by decide) rfl rfl hk298.1 hk299.1) ?_
  refine ob_aload d_Model_init_299 rfl ?_
  refine ob_push d_Model_init_300 ?_
  refine ob_newIx d_Model_init_302 w_52 hg306 hS304 hD305 x_S302 ?_
  have hk307 := ob_kd_new hS304 hk298
  have hk308 : ob_kd S302 S293.2.2.1 20 := ob_kd_this hS304 (by decide)
  refine ob_xI hD310 (ob_putFR d_Model_init_304 F_12_66 w_1155 ⟨rfl, rfl⟩ (fty := (.array (.int))) (by decide) rfl rfl hk307.1 hk308.1) ?_
  refine ob_aload d_Model_init_307 rfl ?_
  refine ob_push d_Model_init_308 ?_
  refine ob_newBx d_Model_init_311 w_1363 hg315 hS313 hD314 x_S311 ?_
  have hk316 := ob_kd_new hS313 hk307
  have hk317 : ob_kd S311 S302.2.2.1 21 := ob_kd_this hS313 (by decide)
  refine ob_xI hD319 (ob_putFR d_Model_init_313 F_12_69 w_1158 ⟨rfl, rfl⟩ (fty := (.array (.byte))) (by decide) rfl rfl hk316.1 hk317.1) ?_
  refine ob_aload d_Model_init_316 rfl ?_
  refine ob_push d_Model_init_317 ?_
  refine ob_newIx d_Model_init_320 w_52 hg324 hS322 hD323 x_S320 ?_
  have hk325 := ob_kd_new hS322 hk316
  have hk326 : ob_kd S320 S311.2.2.1 20 := ob_kd_this hS322 (by decide)
  refine ob_xI hD328 (ob_putFR d_Model_init_322 F_12_73 w_1162 ⟨rfl, rfl⟩ (fty := (.array (.int))) (by decide) rfl rfl hk325.1 hk326.1) ?_
  refine ob_aload d_Model_init_325 rfl ?_
  refine ob_push d_Model_init_326 ?_
  refine ob_newZx d_Model_init_328 w_222 hg333 hS331 hD332 x_S329 ?_
  have hk334 := ob_kd_new hS331 hk325
  have hk335 : ob_kd S329 S320.2.2.1 22 := ob_kd_this hS331 (by decide)
  refine ob_xI hD337 (ob_putFR d_Model_init_330 F_12_74 w_1163 ⟨rfl, rfl⟩ (fty := (.array (.boolean))) (by decide) rfl rfl hk334.1 hk335.1) ?_
  refine ob_aload d_Model_init_333 rfl ?_
  refine ob_push d_Model_init_334 ?_
  refine ob_newBx d_Model_init_337 w_1363 hg342 hS340 hD341 x_S338 ?_
  have hk343 := ob_kd_new hS340 hk334
  have hk344 : ob_kd S338 S329.2.2.1 21 := ob_kd_this hS340 (by decide)
  refine ob_xI hD346 (ob_putFR d_Model_init_339 F_12_75 w_1164 ⟨rfl, rfl⟩ (fty := (.array (.byte))) (by decide) rfl rfl hk343.1 hk344.1) ?_
  refine ob_aload d_Model_init_342 rfl ?_
  refine ob_push d_Model_init_343 ?_
  refine ob_newIx d_Model_init_346 w_52 hg351 hS349 hD350 x_S347 ?_
  have hk352 := ob_kd_new hS349 hk343
  have hk353 : ob_kd S347 S338.2.2.1 20 := ob_kd_this hS349 (by decide)
  refine ob_xI hD355 (ob_putFR d_Model_init_348 F_12_76 w_1165 ⟨rfl, rfl⟩ (fty := (.array (.int))) (by decide) rfl rfl hk352.1 hk353.1) ?_
  refine ob_aload d_Model_init_351 rfl ?_
  refine ob_push d_Model_init_352 ?_
  refine ob_newIx d_Model_init_355 w_52 hg360 hS358 hD359 x_S356 ?_
  have hk361 := ob_kd_new hS358 hk352
  have hk362 : ob_kd S356 S347.2.2.1 20 := ob_kd_this hS358 (by decide)
  refine ob_xI hD364 (ob_putFR d_Model_init_357 F_12_77 w_1166 ⟨rfl, rfl⟩ (fty := (.array (.int))) (by decide) rfl rfl hk361.1 hk362.1) ?_
  refine ob_aload d_Model_init_360 rfl ?_
  refine ob_push d_Model_init_361 ?_
  refine ob_push d_Model_init_362 ?_
  refine ob_multi (i := 1) (ty := .byte) d_Model_init_365 w_1082 (Or.inl ⟨rfl, rfl⟩) hg373 hm374 hm375 hm376 hm377 hm378 hm379 hm380 hm381 x_S367 ?_
  have hk382 := ob_kd_new hm374 hk361
  have hk383 : ob_kd S365 S356.2.2.1 25 := ob_kd_this hm374 (by decide)
  have hk384 := ob_kd_new hm376 hk382
  have hk385 := ob_kd_new hm376 hk383
  have hk386 := ob_kd_new hm379 hk384
  have hk387 := ob_kd_new hm379 hk385
  refine ob_xI hD389 (ob_putFR d_Model_init_369 F_12_84 w_1173 ⟨rfl, rfl⟩ (fty := (.array (.array (.byte)))) (by decide) rfl rfl hk386.1 hk387.1) ?_
  refine ob_aload d_Model_init_372 rfl ?_
  refine ob_push d_Model_init_373 ?_
  refine ob_push d_Model_init_374 ?_
  refine ob_multi (i := 2) (ty := .boolean) d_Model_init_377 w_1084 (Or.inr ⟨rfl, rfl⟩) hg398 hm399 hm400 hm401 hm402 hm403 hm404 hm405 hm406 x_S392 ?_
  have hk407 := ob_kd_new hm399 hk386
  have hk408 : ob_kd S390 S367.2.2.1 26 := ob_kd_this hm399 (by decide)
  have hk409 := ob_kd_new hm401 hk407
  have hk410 := ob_kd_new hm401 hk408
  have hk411 := ob_kd_new hm404 hk409
  have hk412 := ob_kd_new hm404 hk410
  refine ob_xI hD414 (ob_putFR d_Model_init_381 F_12_85 w_1174 ⟨rfl, rfl⟩ (fty := (.array (.array (.boolean)))) (by decide) rfl rfl hk411.1 hk412.1) ?_
  refine ob_aload d_Model_init_384 rfl ?_
  refine ob_push d_Model_init_385 ?_
  refine ob_newIx d_Model_init_386 w_52 hg419 hS417 hD418 x_S415 ?_
  have hk420 := ob_kd_new hS417 hk411
  have hk421 : ob_kd S415 S392.2.2.1 20 := ob_kd_this hS417 (by decide)
  refine ob_xI hD423 (ob_putFR d_Model_init_388 F_12_86 w_1175 ⟨rfl, rfl⟩ (fty := (.array (.int))) (by decide) rfl rfl hk420.1 hk421.1) ?_
  refine ob_aload d_Model_init_391 rfl ?_
  refine ob_push d_Model_init_392 ?_
  refine ob_newBx d_Model_init_395 w_1363 hg428 hS426 hD427 x_S424 ?_
  have hk429 := ob_kd_new hS426 hk420
  have hk430 : ob_kd S424 S415.2.2.1 21 := ob_kd_this hS426 (by decide)
  refine ob_xI hD432 (ob_putFR d_Model_init_397 F_12_87 w_1176 ⟨rfl, rfl⟩ (fty := (.array (.byte))) (by decide) rfl rfl hk429.1 hk430.1) ?_
  refine ob_aload d_Model_init_400 rfl ?_
  refine ob_push d_Model_init_401 ?_
  refine ob_newIx d_Model_init_403 w_52 hg437 hS435 hD436 x_S433 ?_
  have hk438 := ob_kd_new hS435 hk429
  have hk439 : ob_kd S433 S424.2.2.1 20 := ob_kd_this hS435 (by decide)
  refine ob_xI hD441 (ob_putFR d_Model_init_405 F_12_90 w_1179 ⟨rfl, rfl⟩ (fty := (.array (.int))) (by decide) rfl rfl hk438.1 hk439.1) ?_
  refine ob_aload d_Model_init_408 rfl ?_
  refine ob_iload d_Model_init_409 rfl ?_
  refine ob_push d_Model_init_410 ?_
  refine ob_push d_Model_init_411 ?_
  refine ob_callSi (As := [.int v1, .int (1 : Int32), .int (64 : Int32)]) (rest := [.ref v0]) d_Model_init_413 c_Model_init_158 rfl rfl (Nat.le_of_ble_eq_true rfl) (c_Model_within h443) ⟨Nat.le_refl _, Nat.le_refl _⟩ (ob_ext_m x_S433) ?_
  refine ob_xI hD446 (ob_putFI d_Model_init_416 F_12_0 w_1089 ⟨rfl, rfl⟩ hk438.1) ?_
  refine ob_aload d_Model_init_419 rfl ?_
  refine ob_iload d_Model_init_420 rfl ?_
  refine ob_push d_Model_init_421 ?_
  refine ob_push d_Model_init_423 ?_
  refine ob_callSi (As := [.int v2, .int (64 : Int32), .int (256 : Int32)]) (rest := [.ref v0]) d_Model_init_426 c_Model_init_158 rfl rfl (Nat.le_of_ble_eq_true rfl) (c_Model_within h448) ⟨Nat.le_refl _, Nat.le_refl _⟩ (ob_ext_m x_S433) ?_
  refine ob_xI hD451 (ob_putFI d_Model_init_429 F_12_1 w_1090 ⟨rfl, rfl⟩ hk438.1) ?_
  refine ob_aload d_Model_init_432 rfl ?_
  refine ob_iload d_Model_init_433 rfl ?_
  refine ob_push d_Model_init_434 ?_
  refine ob_push d_Model_init_435 ?_
  refine ob_callSi (As := [.int v3, .int (1 : Int32), .int (4 : Int32)]) (rest := [.ref v0]) d_Model_init_436 c_Model_init_158 rfl rfl (Nat.le_of_ble_eq_true rfl) (c_Model_within h453) ⟨Nat.le_refl _, Nat.le_refl _⟩ (ob_ext_m x_S433) ?_
  refine ob_xI hD456 (ob_putFI d_Model_init_439 F_12_2 w_1091 ⟨rfl, rfl⟩ hk438.1) ?_
  refine ob_aload d_Model_init_442 rfl ?_
  refine ob_iload d_Model_init_443 rfl ?_
  refine ob_push d_Model_init_445 ?_
  refine ob_push d_Model_init_446 ?_
  refine ob_callSi (As := [.int v4, .int (1 : Int32), .int (100 : Int32)]) (rest := [.ref v0]) d_Model_init_448 c_Model_init_158 rfl rfl (Nat.le_of_ble_eq_true rfl) (c_Model_within h458) ⟨Nat.le_refl _, Nat.le_refl _⟩ (ob_ext_m x_S433) ?_
  refine ob_xI hD461 (ob_putFI d_Model_init_451 F_12_3 w_1092 ⟨rfl, rfl⟩ hk438.1) ?_
  refine ob_aload d_Model_init_454 rfl ?_
  refine ob_iload d_Model_init_455 rfl ?_
  refine ob_push d_Model_init_457 ?_
  refine ob_push d_Model_init_459 ?_
  refine ob_callSi (As := [.int v5, .int (64 : Int32), .int (16384 : Int32)]) (rest := [.ref v0]) d_Model_init_462 c_Model_init_158 rfl rfl (Nat.le_of_ble_eq_true rfl) (c_Model_within h463) ⟨Nat.le_refl _, Nat.le_refl _⟩ (ob_ext_m x_S433) ?_
  refine ob_xI hD466 (ob_putFI d_Model_init_465 F_12_4 w_1093 ⟨rfl, rfl⟩ hk438.1) ?_
  refine ob_push d_Model_init_468 ?_
  refine ob_istore (lo2 := [(0, .ref v0), (1, .int v1), (2, .int v2), (3, .int v3), (4, .int v4), (5, .int v5), (6, .int (0 : Int32))]) d_Model_init_469 rfl ?_
  refine ob_sub (lo2 := [(0, .ref v0), (6, .int (0 : Int32))]) [0, 6] rfl ?_
  exact v_Model_init_L471 ob_FU v0 (0 : Int32) S433 D465 hk438.1 h
