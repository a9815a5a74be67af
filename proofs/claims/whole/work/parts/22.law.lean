def k_law : ob_K := ("OrbitBoxLaw", ⟨"OrbitBoxLaw", "law", "([I)Z"⟩, code, 7, ret, 12, 450)
def ob_b3 {β : Type} (o : Option (Int32 × ob_S × ob_D)) (f : Int32 → ob_S → ob_D → Option β) : Option β := match o with
  | none => none
  | some (a, s, d) => f a s d
theorem ob_b3_e {β : Type} {o : Option (Int32 × ob_S × ob_D)} {f : Int32 → ob_S → ob_D → Option β} {y : β} (h : ob_b3 o f = some y) : ∃ a s d, o = some (a, s, d) ∧ f a s d = some y := by
  match o, h with
  | some (a, s, d), h => exact ⟨a, s, d, rfl, h⟩
def fl_down (S : ob_S) (v0 : Nat) (v1 : Int32) (v2 : Int32) (v3 : Nat) (D : ob_D) : Option (Int32 × ob_S × ob_D) := match th_Box_down S v0 v1 v2 D with
  | some _ => some (1, ob_new S 0 0 6, D)
  | none => ob_bd (f_Law_down S v0 v1 v2 v3 D) fun r D1 => some (r, S, D1)
theorem el_down {S S2 : ob_S} {v0 : Nat} {v1 : Int32} {v2 : Int32} {v3 : Nat} {D D2 : ob_D} {k : Int32} (h : fl_down S v0 v1 v2 v3 D = some (k, S2, D2)) : ob_ext S S2 := by
  unfold fl_down at h
  split at h
  · cases h
    exact ob_ext_new rfl
  · obtain ⟨r, D1, h1, h⟩ := ob_bd_e h
    cases h
    exact ob_ext_eq rfl
theorem cl_down {l : Launch} {E : ob_E} {S S2 : ob_S} {v0 : Nat} {v1 : Int32} {v2 : Int32} {v3 : Nat} {D D2 : ob_D} {k : Int32} (hl0 : ob_nt l) (hp_v0 : S.1 v0 = 1) (hp_o : S.1 v3 = 23) (h : fl_down S v0 v1 v2 v3 D = some (k, S2, D2)) : ob_MW l E k_Law_down (0, 10, 13, 13) [.ref v0, .int v1, .int v2, .ref v3] S D (some (.int k)) S2 D2 := by
  unfold fl_down at h
  split at h
  · rename_i u hu
    cases h
    exact ct_Law_down hl0 hp_v0 hu
  · obtain ⟨r, D1, h1, h⟩ := ob_bd_e h
    cases h
    exact c_Law_down hp_v0 hp_o h1
def fl_value (S : ob_S) (v0 : Nat) (v1 : Int32) (v2 : Nat) (D : ob_D) : Option (Int32 × ob_S × ob_D) := match th_Box_value S v0 v1 D with
  | some _ => some (1, ob_new S 0 0 6, D)
  | none => ob_bd (f_Law_value S v0 v1 v2 D) fun r D1 => some (r, S, D1)
theorem el_value {S S2 : ob_S} {v0 : Nat} {v1 : Int32} {v2 : Nat} {D D2 : ob_D} {k : Int32} (h : fl_value S v0 v1 v2 D = some (k, S2, D2)) : ob_ext S S2 := by
  unfold fl_value at h
  split at h
  · cases h
    exact ob_ext_new rfl
  · obtain ⟨r, D1, h1, h⟩ := ob_bd_e h
    cases h
    exact ob_ext_eq rfl
theorem cl_value {l : Launch} {E : ob_E} {S S2 : ob_S} {v0 : Nat} {v1 : Int32} {v2 : Nat} {D D2 : ob_D} {k : Int32} (hl0 : ob_nt l) (hp_v0 : S.1 v0 = 1) (hp_o : S.1 v2 = 23) (h : fl_value S v0 v1 v2 D = some (k, S2, D2)) : ob_MW l E k_Law_value (0, 9, 12, 13) [.ref v0, .int v1, .ref v2] S D (some (.int k)) S2 D2 := by
  unfold fl_value at h
  split at h
  · rename_i u hu
    cases h
    exact ct_Law_value hl0 hp_v0 hu
  · obtain ⟨r, D1, h1, h⟩ := ob_bd_e h
    cases h
    exact c_Law_value hp_v0 hp_o h1
def fl_entry (S : ob_S) (v0 : Nat) (v1 : Int32) (v2 : Int32) (v3 : Nat) (D : ob_D) : Option (Int32 × ob_S × ob_D) := match th_Box_entry S v0 v1 v2 D with
  | some _ => some (1, ob_new S 0 0 6, D)
  | none => ob_bd (f_Law_entry S v0 v1 v2 v3 D) fun r D1 => some (r, S, D1)
theorem el_entry {S S2 : ob_S} {v0 : Nat} {v1 : Int32} {v2 : Int32} {v3 : Nat} {D D2 : ob_D} {k : Int32} (h : fl_entry S v0 v1 v2 v3 D = some (k, S2, D2)) : ob_ext S S2 := by
  unfold fl_entry at h
  split at h
  · cases h
    exact ob_ext_new rfl
  · obtain ⟨r, D1, h1, h⟩ := ob_bd_e h
    cases h
    exact ob_ext_eq rfl
theorem cl_entry {l : Launch} {E : ob_E} {S S2 : ob_S} {v0 : Nat} {v1 : Int32} {v2 : Int32} {v3 : Nat} {D D2 : ob_D} {k : Int32} (hl0 : ob_nt l) (hp_v0 : S.1 v0 = 1) (hp_o : S.1 v3 = 23) (h : fl_entry S v0 v1 v2 v3 D = some (k, S2, D2)) : ob_MW l E k_Law_entry (0, 10, 13, 13) [.ref v0, .int v1, .int v2, .ref v3] S D (some (.int k)) S2 D2 := by
  unfold fl_entry at h
  split at h
  · rename_i u hu
    cases h
    exact ct_Law_entry hl0 hp_v0 hu
  · obtain ⟨r, D1, h1, h⟩ := ob_bd_e h
    cases h
    exact c_Law_entry hp_v0 hp_o h1
theorem d_law_0 : ob_dc k_law 0 (.new 8) 3 3 := ⟨by decide +kernel, rfl⟩
theorem d_law_3 : ob_dc k_law 3 (.dup) 1 4 := ⟨by decide +kernel, rfl⟩
theorem d_law_4 : ob_dv ob_ac k_law 4 5 0 (.aload_n 0) 1 := ⟨by decide +kernel, rfl, rfl⟩
theorem d_law_5 : ob_dk k_law 5 6 (0 : Int32) (.iconst 0) 1 := ⟨by decide +kernel, rfl, show Int32.ofInt 0 = (0 : Int32) by decide +kernel⟩
theorem d_law_6 : ob_dc k_law 6 (.invokestatic 22) 3 9 := ⟨by decide +kernel, rfl⟩
theorem d_law_9 : ob_dv ob_ac k_law 9 10 0 (.aload_n 0) 1 := ⟨by decide +kernel, rfl, rfl⟩
theorem d_law_10 : ob_dk k_law 10 11 (1 : Int32) (.iconst 1) 1 := ⟨by decide +kernel, rfl, show Int32.ofInt 1 = (1 : Int32) by decide +kernel⟩
theorem d_law_11 : ob_dc k_law 11 (.invokestatic 22) 3 14 := ⟨by decide +kernel, rfl⟩
theorem d_law_14 : ob_dv ob_ac k_law 14 15 0 (.aload_n 0) 1 := ⟨by decide +kernel, rfl, rfl⟩
theorem d_law_15 : ob_dk k_law 15 16 (2 : Int32) (.iconst 2) 1 := ⟨by decide +kernel, rfl, show Int32.ofInt 2 = (2 : Int32) by decide +kernel⟩
theorem d_law_16 : ob_dc k_law 16 (.invokestatic 22) 3 19 := ⟨by decide +kernel, rfl⟩
theorem d_law_19 : ob_dv ob_ac k_law 19 20 0 (.aload_n 0) 1 := ⟨by decide +kernel, rfl, rfl⟩
theorem d_law_20 : ob_dk k_law 20 21 (3 : Int32) (.iconst 3) 1 := ⟨by decide +kernel, rfl, show Int32.ofInt 3 = (3 : Int32) by decide +kernel⟩
theorem d_law_21 : ob_dc k_law 21 (.invokestatic 22) 3 24 := ⟨by decide +kernel, rfl⟩
theorem d_law_24 : ob_dv ob_ac k_law 24 25 0 (.aload_n 0) 1 := ⟨by decide +kernel, rfl, rfl⟩
theorem d_law_25 : ob_dk k_law 25 26 (4 : Int32) (.iconst 4) 1 := ⟨by decide +kernel, rfl, show Int32.ofInt 4 = (4 : Int32) by decide +kernel⟩
theorem d_law_26 : ob_dc k_law 26 (.invokestatic 22) 3 29 := ⟨by decide +kernel, rfl⟩
theorem d_law_29 : ob_dc k_law 29 (.invokespecial 28) 3 32 := ⟨by decide +kernel, rfl⟩
theorem d_law_32 : ob_dv (ob_bc k_law.2.2.2.1) k_law 32 33 1 (.astore_n 1) 1 := ⟨by decide +kernel, rfl, ⟨rfl, by decide +kernel⟩⟩
theorem d_law_33 : ob_dc k_law 33 (.new 31) 3 36 := ⟨by decide +kernel, rfl⟩
theorem d_law_36 : ob_dc k_law 36 (.dup) 1 37 := ⟨by decide +kernel, rfl⟩
theorem d_law_37 : ob_dv ob_ac k_law 37 38 0 (.aload_n 0) 1 := ⟨by decide +kernel, rfl, rfl⟩
theorem d_law_38 : ob_dk k_law 38 39 (0 : Int32) (.iconst 0) 1 := ⟨by decide +kernel, rfl, show Int32.ofInt 0 = (0 : Int32) by decide +kernel⟩
theorem d_law_39 : ob_dc k_law 39 (.invokestatic 22) 3 42 := ⟨by decide +kernel, rfl⟩
theorem d_law_42 : ob_dv ob_ac k_law 42 43 0 (.aload_n 0) 1 := ⟨by decide +kernel, rfl, rfl⟩
theorem d_law_43 : ob_dk k_law 43 44 (1 : Int32) (.iconst 1) 1 := ⟨by decide +kernel, rfl, show Int32.ofInt 1 = (1 : Int32) by decide +kernel⟩
theorem d_law_44 : ob_dc k_law 44 (.invokestatic 22) 3 47 := ⟨by decide +kernel, rfl⟩
theorem d_law_47 : ob_dv ob_ac k_law 47 48 0 (.aload_n 0) 1 := ⟨by decide +kernel, rfl, rfl⟩
theorem d_law_48 : ob_dk k_law 48 49 (2 : Int32) (.iconst 2) 1 := ⟨by decide +kernel, rfl, show Int32.ofInt 2 = (2 : Int32) by decide +kernel⟩
theorem d_law_49 : ob_dc k_law 49 (.invokestatic 22) 3 52 := ⟨by decide +kernel, rfl⟩
theorem d_law_52 : ob_dv ob_ac k_law 52 53 0 (.aload_n 0) 1 := ⟨by decide +kernel, rfl, rfl⟩
theorem d_law_53 : ob_dk k_law 53 54 (3 : Int32) (.iconst 3) 1 := ⟨by decide +kernel, rfl, show Int32.ofInt 3 = (3 : Int32) by decide +kernel⟩
theorem d_law_54 : ob_dc k_law 54 (.invokestatic 22) 3 57 := ⟨by decide +kernel, rfl⟩
theorem d_law_57 : ob_dv ob_ac k_law 57 58 0 (.aload_n 0) 1 := ⟨by decide +kernel, rfl, rfl⟩
theorem d_law_58 : ob_dk k_law 58 59 (4 : Int32) (.iconst 4) 1 := ⟨by decide +kernel, rfl, show Int32.ofInt 4 = (4 : Int32) by decide +kernel⟩
theorem d_law_59 : ob_dc k_law 59 (.invokestatic 22) 3 62 := ⟨by decide +kernel, rfl⟩
theorem d_law_62 : ob_dc k_law 62 (.invokespecial 33) 3 65 := ⟨by decide +kernel, rfl⟩
theorem d_law_65 : ob_dv (ob_bc k_law.2.2.2.1) k_law 65 66 2 (.astore_n 2) 1 := ⟨by decide +kernel, rfl, ⟨rfl, by decide +kernel⟩⟩
theorem d_law_66 : ob_dk k_law 66 67 (1 : Int32) (.iconst 1) 1 := ⟨by decide +kernel, rfl, show Int32.ofInt 1 = (1 : Int32) by decide +kernel⟩
theorem d_law_67 : ob_dc k_law 67 (.newarray .long) 2 69 := ⟨by decide +kernel, rfl⟩
theorem d_law_69 : ob_dv (ob_bc k_law.2.2.2.1) k_law 69 70 3 (.astore_n 3) 1 := ⟨by decide +kernel, rfl, ⟨rfl, by decide +kernel⟩⟩
theorem d_law_70 : ob_dk k_law 70 71 (5 : Int32) (.iconst 5) 1 := ⟨by decide +kernel, rfl, show Int32.ofInt 5 = (5 : Int32) by decide +kernel⟩
theorem d_law_71 : ob_dv (ob_sc k_law.2.2.2.1) k_law 71 73 4 (.istore 4) 2 := ⟨by decide +kernel, rfl, ⟨rfl, by decide +kernel⟩⟩
theorem d_law_73 : ob_dv ob_lc k_law 73 75 4 (.iload 4) 2 := ⟨by decide +kernel, rfl, rfl⟩
theorem d_law_75 : ob_dv ob_ac k_law 75 76 0 (.aload_n 0) 1 := ⟨by decide +kernel, rfl, rfl⟩
theorem d_law_76 : ob_dc k_law 76 (.arraylength) 1 77 := ⟨by decide +kernel, rfl⟩
theorem d_law_77 : ob_dk k_law 77 79 (6 : Int32) (.bipush 6) 2 := ⟨by decide +kernel, rfl, show (Int8.ofInt 6).toInt32 = (6 : Int32) by decide +kernel⟩
theorem d_law_79 : ob_dc k_law 79 (.isub) 1 80 := ⟨by decide +kernel, rfl⟩
theorem d_law_611 : ob_dk k_law 611 612 (1 : Int32) (.iconst 1) 1 := ⟨by decide +kernel, rfl, show Int32.ofInt 1 = (1 : Int32) by decide +kernel⟩
theorem d_law_612 : ob_dc k_law 612 (.ireturn) 1 613 := ⟨by decide +kernel, rfl⟩
theorem d_law_83 : ob_dv ob_ac k_law 83 84 0 (.aload_n 0) 1 := ⟨by decide +kernel, rfl, rfl⟩
theorem d_law_84 : ob_dv ob_lc k_law 84 86 4 (.iload 4) 2 := ⟨by decide +kernel, rfl, rfl⟩
theorem d_law_87 : ob_dk k_law 87 89 (15 : Int32) (.bipush 15) 2 := ⟨by decide +kernel, rfl, show (Int8.ofInt 15).toInt32 = (15 : Int32) by decide +kernel⟩
theorem d_law_89 : ob_dc k_law 89 (.iand) 1 90 := ⟨by decide +kernel, rfl⟩
theorem d_law_90 : decode k_law.2.2.1 90 = .ok (.tableswitch 515 0 11 #[62, 135, 160, 173, 210, 223, 291, 347, 360, 385, 453, 490], 62) := by decide +kernel
theorem d_law_152 : ob_dv ob_ac k_law 152 153 1 (.aload_n 1) 1 := ⟨by decide +kernel, rfl, rfl⟩
theorem d_law_153 : ob_dv ob_ac k_law 153 154 0 (.aload_n 0) 1 := ⟨by decide +kernel, rfl, rfl⟩
theorem d_law_154 : ob_dv ob_lc k_law 154 156 4 (.iload 4) 2 := ⟨by decide +kernel, rfl, rfl⟩
theorem d_law_156 : ob_dk k_law 156 157 (1 : Int32) (.iconst 1) 1 := ⟨by decide +kernel, rfl, show Int32.ofInt 1 = (1 : Int32) by decide +kernel⟩
theorem d_law_157 : ob_dc k_law 157 (.iadd) 1 158 := ⟨by decide +kernel, rfl⟩
theorem d_law_159 : ob_dv ob_ac k_law 159 160 0 (.aload_n 0) 1 := ⟨by decide +kernel, rfl, rfl⟩
theorem d_law_160 : ob_dv ob_lc k_law 160 162 4 (.iload 4) 2 := ⟨by decide +kernel, rfl, rfl⟩
theorem d_law_162 : ob_dk k_law 162 163 (2 : Int32) (.iconst 2) 1 := ⟨by decide +kernel, rfl, show Int32.ofInt 2 = (2 : Int32) by decide +kernel⟩
theorem d_law_163 : ob_dc k_law 163 (.iadd) 1 164 := ⟨by decide +kernel, rfl⟩
theorem d_law_165 : ob_dv ob_ac k_law 165 166 0 (.aload_n 0) 1 := ⟨by decide +kernel, rfl, rfl⟩
theorem d_law_166 : ob_dv ob_lc k_law 166 168 4 (.iload 4) 2 := ⟨by decide +kernel, rfl, rfl⟩
theorem d_law_168 : ob_dk k_law 168 169 (3 : Int32) (.iconst 3) 1 := ⟨by decide +kernel, rfl, show Int32.ofInt 3 = (3 : Int32) by decide +kernel⟩
theorem d_law_169 : ob_dc k_law 169 (.iadd) 1 170 := ⟨by decide +kernel, rfl⟩
theorem d_law_171 : ob_dv ob_ac k_law 171 172 0 (.aload_n 0) 1 := ⟨by decide +kernel, rfl, rfl⟩
theorem d_law_172 : ob_dv ob_lc k_law 172 174 4 (.iload 4) 2 := ⟨by decide +kernel, rfl, rfl⟩
theorem d_law_174 : ob_dk k_law 174 175 (4 : Int32) (.iconst 4) 1 := ⟨by decide +kernel, rfl, show Int32.ofInt 4 = (4 : Int32) by decide +kernel⟩
theorem d_law_175 : ob_dc k_law 175 (.iadd) 1 176 := ⟨by decide +kernel, rfl⟩
theorem d_law_177 : ob_dv ob_ac k_law 177 178 0 (.aload_n 0) 1 := ⟨by decide +kernel, rfl, rfl⟩
theorem d_law_178 : ob_dv ob_lc k_law 178 180 4 (.iload 4) 2 := ⟨by decide +kernel, rfl, rfl⟩
theorem d_law_180 : ob_dk k_law 180 181 (5 : Int32) (.iconst 5) 1 := ⟨by decide +kernel, rfl, show Int32.ofInt 5 = (5 : Int32) by decide +kernel⟩
theorem d_law_181 : ob_dc k_law 181 (.iadd) 1 182 := ⟨by decide +kernel, rfl⟩
theorem d_law_186 : ob_dv ob_ac k_law 186 187 2 (.aload_n 2) 1 := ⟨by decide +kernel, rfl, rfl⟩
theorem d_law_187 : ob_dv ob_ac k_law 187 188 0 (.aload_n 0) 1 := ⟨by decide +kernel, rfl, rfl⟩
theorem d_law_188 : ob_dv ob_lc k_law 188 190 4 (.iload 4) 2 := ⟨by decide +kernel, rfl, rfl⟩
theorem d_law_190 : ob_dk k_law 190 191 (1 : Int32) (.iconst 1) 1 := ⟨by decide +kernel, rfl, show Int32.ofInt 1 = (1 : Int32) by decide +kernel⟩
theorem d_law_191 : ob_dc k_law 191 (.iadd) 1 192 := ⟨by decide +kernel, rfl⟩
theorem d_law_193 : ob_dv ob_ac k_law 193 194 0 (.aload_n 0) 1 := ⟨by decide +kernel, rfl, rfl⟩
theorem d_law_194 : ob_dv ob_lc k_law 194 196 4 (.iload 4) 2 := ⟨by decide +kernel, rfl, rfl⟩
theorem d_law_196 : ob_dk k_law 196 197 (2 : Int32) (.iconst 2) 1 := ⟨by decide +kernel, rfl, show Int32.ofInt 2 = (2 : Int32) by decide +kernel⟩
theorem d_law_197 : ob_dc k_law 197 (.iadd) 1 198 := ⟨by decide +kernel, rfl⟩
theorem d_law_199 : ob_dv ob_ac k_law 199 200 0 (.aload_n 0) 1 := ⟨by decide +kernel, rfl, rfl⟩
theorem d_law_200 : ob_dv ob_lc k_law 200 202 4 (.iload 4) 2 := ⟨by decide +kernel, rfl, rfl⟩
theorem d_law_202 : ob_dk k_law 202 203 (3 : Int32) (.iconst 3) 1 := ⟨by decide +kernel, rfl, show Int32.ofInt 3 = (3 : Int32) by decide +kernel⟩
theorem d_law_203 : ob_dc k_law 203 (.iadd) 1 204 := ⟨by decide +kernel, rfl⟩
theorem d_law_205 : ob_dv ob_ac k_law 205 206 0 (.aload_n 0) 1 := ⟨by decide +kernel, rfl, rfl⟩
theorem d_law_206 : ob_dv ob_lc k_law 206 208 4 (.iload 4) 2 := ⟨by decide +kernel, rfl, rfl⟩
theorem d_law_208 : ob_dk k_law 208 209 (4 : Int32) (.iconst 4) 1 := ⟨by decide +kernel, rfl, show Int32.ofInt 4 = (4 : Int32) by decide +kernel⟩
theorem d_law_209 : ob_dc k_law 209 (.iadd) 1 210 := ⟨by decide +kernel, rfl⟩
theorem d_law_211 : ob_dv ob_ac k_law 211 212 0 (.aload_n 0) 1 := ⟨by decide +kernel, rfl, rfl⟩
theorem d_law_212 : ob_dv ob_lc k_law 212 214 4 (.iload 4) 2 := ⟨by decide +kernel, rfl, rfl⟩
theorem d_law_214 : ob_dk k_law 214 215 (5 : Int32) (.iconst 5) 1 := ⟨by decide +kernel, rfl, show Int32.ofInt 5 = (5 : Int32) by decide +kernel⟩
theorem d_law_215 : ob_dc k_law 215 (.iadd) 1 216 := ⟨by decide +kernel, rfl⟩
theorem d_law_605 : ob_di k_law 605 608 4 6 (6 : Int32) := ⟨by decide +kernel, rfl, by decide +kernel, by decide +kernel⟩
theorem d_law_608 : ob_db k_law 608 (.goto (-535)) (-535) 611 73 := ⟨by decide +kernel, rfl, by decide⟩
theorem d_law_223 : ob_dk k_law 223 224 (0 : Int32) (.iconst 0) 1 := ⟨by decide +kernel, rfl, show Int32.ofInt 0 = (0 : Int32) by decide +kernel⟩
theorem d_law_220 : ob_db k_law 220 (.if_icmp .eq 385) 385 223 605 := ⟨by decide +kernel, rfl, by decide⟩
theorem d_law_217 : ob_dc k_law 217 (.invokevirtual 38) 3 220 := ⟨by decide +kernel, rfl⟩
theorem d_law_216 : ob_dc k_law 216 (.iaload) 1 217 := ⟨by decide +kernel, rfl⟩
theorem d_law_210 : ob_dc k_law 210 (.iaload) 1 211 := ⟨by decide +kernel, rfl⟩
theorem d_law_204 : ob_dc k_law 204 (.iaload) 1 205 := ⟨by decide +kernel, rfl⟩
theorem d_law_198 : ob_dc k_law 198 (.iaload) 1 199 := ⟨by decide +kernel, rfl⟩
theorem d_law_192 : ob_dc k_law 192 (.iaload) 1 193 := ⟨by decide +kernel, rfl⟩
theorem d_law_183 : ob_dc k_law 183 (.invokevirtual 34) 3 186 := ⟨by decide +kernel, rfl⟩
theorem d_law_182 : ob_dc k_law 182 (.iaload) 1 183 := ⟨by decide +kernel, rfl⟩
theorem d_law_176 : ob_dc k_law 176 (.iaload) 1 177 := ⟨by decide +kernel, rfl⟩
theorem d_law_170 : ob_dc k_law 170 (.iaload) 1 171 := ⟨by decide +kernel, rfl⟩
theorem d_law_164 : ob_dc k_law 164 (.iaload) 1 165 := ⟨by decide +kernel, rfl⟩
theorem d_law_158 : ob_dc k_law 158 (.iaload) 1 159 := ⟨by decide +kernel, rfl⟩
theorem d_law_225 : ob_dv ob_ac k_law 225 226 1 (.aload_n 1) 1 := ⟨by decide +kernel, rfl, rfl⟩
theorem d_law_226 : ob_dv ob_ac k_law 226 227 0 (.aload_n 0) 1 := ⟨by decide +kernel, rfl, rfl⟩
theorem d_law_227 : ob_dv ob_lc k_law 227 229 4 (.iload 4) 2 := ⟨by decide +kernel, rfl, rfl⟩
theorem d_law_229 : ob_dk k_law 229 230 (1 : Int32) (.iconst 1) 1 := ⟨by decide +kernel, rfl, show Int32.ofInt 1 = (1 : Int32) by decide +kernel⟩
theorem d_law_230 : ob_dc k_law 230 (.iadd) 1 231 := ⟨by decide +kernel, rfl⟩
theorem d_law_235 : ob_dv ob_ac k_law 235 236 2 (.aload_n 2) 1 := ⟨by decide +kernel, rfl, rfl⟩
theorem d_law_236 : ob_dv ob_ac k_law 236 237 0 (.aload_n 0) 1 := ⟨by decide +kernel, rfl, rfl⟩
theorem d_law_237 : ob_dv ob_lc k_law 237 239 4 (.iload 4) 2 := ⟨by decide +kernel, rfl, rfl⟩
theorem d_law_239 : ob_dk k_law 239 240 (1 : Int32) (.iconst 1) 1 := ⟨by decide +kernel, rfl, show Int32.ofInt 1 = (1 : Int32) by decide +kernel⟩
theorem d_law_240 : ob_dc k_law 240 (.iadd) 1 241 := ⟨by decide +kernel, rfl⟩
theorem d_law_248 : ob_dk k_law 248 249 (0 : Int32) (.iconst 0) 1 := ⟨by decide +kernel, rfl, show Int32.ofInt 0 = (0 : Int32) by decide +kernel⟩
theorem d_law_245 : ob_db k_law 245 (.if_icmp .eq 360) 360 248 605 := ⟨by decide +kernel, rfl, by decide⟩
theorem d_law_242 : ob_dc k_law 242 (.invokevirtual 43) 3 245 := ⟨by decide +kernel, rfl⟩
theorem d_law_241 : ob_dc k_law 241 (.iaload) 1 242 := ⟨by decide +kernel, rfl⟩
theorem d_law_232 : ob_dc k_law 232 (.invokevirtual 39) 3 235 := ⟨by decide +kernel, rfl⟩
theorem d_law_231 : ob_dc k_law 231 (.iaload) 1 232 := ⟨by decide +kernel, rfl⟩
theorem d_law_250 : ob_dv ob_ac k_law 250 251 1 (.aload_n 1) 1 := ⟨by decide +kernel, rfl, rfl⟩
theorem d_law_254 : ob_dv ob_ac k_law 254 255 2 (.aload_n 2) 1 := ⟨by decide +kernel, rfl, rfl⟩
theorem d_law_261 : ob_dk k_law 261 262 (0 : Int32) (.iconst 0) 1 := ⟨by decide +kernel, rfl, show Int32.ofInt 0 = (0 : Int32) by decide +kernel⟩
theorem d_law_258 : ob_db k_law 258 (.if_icmp .eq 347) 347 261 605 := ⟨by decide +kernel, rfl, by decide⟩
theorem d_law_255 : ob_dc k_law 255 (.invokevirtual 48) 3 258 := ⟨by decide +kernel, rfl⟩
theorem d_law_251 : ob_dc k_law 251 (.invokevirtual 44) 3 254 := ⟨by decide +kernel, rfl⟩
theorem d_law_263 : ob_dv ob_ac k_law 263 264 1 (.aload_n 1) 1 := ⟨by decide +kernel, rfl, rfl⟩
theorem d_law_264 : ob_dv ob_ac k_law 264 265 0 (.aload_n 0) 1 := ⟨by decide +kernel, rfl, rfl⟩
theorem d_law_265 : ob_dv ob_lc k_law 265 267 4 (.iload 4) 2 := ⟨by decide +kernel, rfl, rfl⟩
theorem d_law_267 : ob_dk k_law 267 268 (1 : Int32) (.iconst 1) 1 := ⟨by decide +kernel, rfl, show Int32.ofInt 1 = (1 : Int32) by decide +kernel⟩
theorem d_law_268 : ob_dc k_law 268 (.iadd) 1 269 := ⟨by decide +kernel, rfl⟩
theorem d_law_270 : ob_dv ob_ac k_law 270 271 0 (.aload_n 0) 1 := ⟨by decide +kernel, rfl, rfl⟩
theorem d_law_271 : ob_dv ob_lc k_law 271 273 4 (.iload 4) 2 := ⟨by decide +kernel, rfl, rfl⟩
theorem d_law_273 : ob_dk k_law 273 274 (2 : Int32) (.iconst 2) 1 := ⟨by decide +kernel, rfl, show Int32.ofInt 2 = (2 : Int32) by decide +kernel⟩
theorem d_law_274 : ob_dc k_law 274 (.iadd) 1 275 := ⟨by decide +kernel, rfl⟩
theorem d_law_279 : ob_dv ob_ac k_law 279 280 2 (.aload_n 2) 1 := ⟨by decide +kernel, rfl, rfl⟩
theorem d_law_280 : ob_dv ob_ac k_law 280 281 0 (.aload_n 0) 1 := ⟨by decide +kernel, rfl, rfl⟩
theorem d_law_281 : ob_dv ob_lc k_law 281 283 4 (.iload 4) 2 := ⟨by decide +kernel, rfl, rfl⟩
theorem d_law_283 : ob_dk k_law 283 284 (1 : Int32) (.iconst 1) 1 := ⟨by decide +kernel, rfl, show Int32.ofInt 1 = (1 : Int32) by decide +kernel⟩
theorem d_law_284 : ob_dc k_law 284 (.iadd) 1 285 := ⟨by decide +kernel, rfl⟩
theorem d_law_286 : ob_dv ob_ac k_law 286 287 0 (.aload_n 0) 1 := ⟨by decide +kernel, rfl, rfl⟩
theorem d_law_287 : ob_dv ob_lc k_law 287 289 4 (.iload 4) 2 := ⟨by decide +kernel, rfl, rfl⟩
theorem d_law_289 : ob_dk k_law 289 290 (2 : Int32) (.iconst 2) 1 := ⟨by decide +kernel, rfl, show Int32.ofInt 2 = (2 : Int32) by decide +kernel⟩
theorem d_law_290 : ob_dc k_law 290 (.iadd) 1 291 := ⟨by decide +kernel, rfl⟩
theorem d_law_298 : ob_dk k_law 298 299 (0 : Int32) (.iconst 0) 1 := ⟨by decide +kernel, rfl, show Int32.ofInt 0 = (0 : Int32) by decide +kernel⟩
theorem d_law_295 : ob_db k_law 295 (.if_icmp .eq 310) 310 298 605 := ⟨by decide +kernel, rfl, by decide⟩
theorem d_law_292 : ob_dc k_law 292 (.invokevirtual 53) 3 295 := ⟨by decide +kernel, rfl⟩
theorem d_law_291 : ob_dc k_law 291 (.iaload) 1 292 := ⟨by decide +kernel, rfl⟩
theorem d_law_285 : ob_dc k_law 285 (.iaload) 1 286 := ⟨by decide +kernel, rfl⟩
theorem d_law_276 : ob_dc k_law 276 (.invokevirtual 49) 3 279 := ⟨by decide +kernel, rfl⟩
theorem d_law_275 : ob_dc k_law 275 (.iaload) 1 276 := ⟨by decide +kernel, rfl⟩
theorem d_law_269 : ob_dc k_law 269 (.iaload) 1 270 := ⟨by decide +kernel, rfl⟩
theorem d_law_300 : ob_dv ob_ac k_law 300 301 1 (.aload_n 1) 1 := ⟨by decide +kernel, rfl, rfl⟩
theorem d_law_304 : ob_dv ob_ac k_law 304 305 2 (.aload_n 2) 1 := ⟨by decide +kernel, rfl, rfl⟩
theorem d_law_311 : ob_dk k_law 311 312 (0 : Int32) (.iconst 0) 1 := ⟨by decide +kernel, rfl, show Int32.ofInt 0 = (0 : Int32) by decide +kernel⟩
theorem d_law_308 : ob_db k_law 308 (.if_icmp .eq 297) 297 311 605 := ⟨by decide +kernel, rfl, by decide⟩
theorem d_law_305 : ob_dc k_law 305 (.invokevirtual 57) 3 308 := ⟨by decide +kernel, rfl⟩
theorem d_law_301 : ob_dc k_law 301 (.invokevirtual 54) 3 304 := ⟨by decide +kernel, rfl⟩
theorem d_law_313 : ob_dv ob_ac k_law 313 314 1 (.aload_n 1) 1 := ⟨by decide +kernel, rfl, rfl⟩
theorem d_law_314 : ob_dv ob_ac k_law 314 315 0 (.aload_n 0) 1 := ⟨by decide +kernel, rfl, rfl⟩
theorem d_law_315 : ob_dv ob_lc k_law 315 317 4 (.iload 4) 2 := ⟨by decide +kernel, rfl, rfl⟩
theorem d_law_317 : ob_dk k_law 317 318 (1 : Int32) (.iconst 1) 1 := ⟨by decide +kernel, rfl, show Int32.ofInt 1 = (1 : Int32) by decide +kernel⟩
theorem d_law_318 : ob_dc k_law 318 (.iadd) 1 319 := ⟨by decide +kernel, rfl⟩
theorem d_law_320 : ob_dv ob_ac k_law 320 321 0 (.aload_n 0) 1 := ⟨by decide +kernel, rfl, rfl⟩
theorem d_law_321 : ob_dv ob_lc k_law 321 323 4 (.iload 4) 2 := ⟨by decide +kernel, rfl, rfl⟩
theorem d_law_323 : ob_dk k_law 323 324 (2 : Int32) (.iconst 2) 1 := ⟨by decide +kernel, rfl, show Int32.ofInt 2 = (2 : Int32) by decide +kernel⟩
theorem d_law_324 : ob_dc k_law 324 (.iadd) 1 325 := ⟨by decide +kernel, rfl⟩
theorem d_law_326 : ob_dv ob_ac k_law 326 327 3 (.aload_n 3) 1 := ⟨by decide +kernel, rfl, rfl⟩
theorem d_law_330 : ob_dv (ob_sc k_law.2.2.2.1) k_law 330 332 5 (.istore 5) 2 := ⟨by decide +kernel, rfl, ⟨rfl, by decide +kernel⟩⟩
theorem d_law_332 : ob_dv ob_ac k_law 332 333 2 (.aload_n 2) 1 := ⟨by decide +kernel, rfl, rfl⟩
theorem d_law_333 : ob_dv ob_ac k_law 333 334 0 (.aload_n 0) 1 := ⟨by decide +kernel, rfl, rfl⟩
theorem d_law_334 : ob_dv ob_lc k_law 334 336 4 (.iload 4) 2 := ⟨by decide +kernel, rfl, rfl⟩
theorem d_law_336 : ob_dk k_law 336 337 (1 : Int32) (.iconst 1) 1 := ⟨by decide +kernel, rfl, show Int32.ofInt 1 = (1 : Int32) by decide +kernel⟩
theorem d_law_337 : ob_dc k_law 337 (.iadd) 1 338 := ⟨by decide +kernel, rfl⟩
theorem d_law_339 : ob_dv ob_ac k_law 339 340 0 (.aload_n 0) 1 := ⟨by decide +kernel, rfl, rfl⟩
theorem d_law_340 : ob_dv ob_lc k_law 340 342 4 (.iload 4) 2 := ⟨by decide +kernel, rfl, rfl⟩
theorem d_law_342 : ob_dk k_law 342 343 (2 : Int32) (.iconst 2) 1 := ⟨by decide +kernel, rfl, show Int32.ofInt 2 = (2 : Int32) by decide +kernel⟩
theorem d_law_343 : ob_dc k_law 343 (.iadd) 1 344 := ⟨by decide +kernel, rfl⟩
theorem d_law_348 : ob_dv (ob_sc k_law.2.2.2.1) k_law 348 350 6 (.istore 6) 2 := ⟨by decide +kernel, rfl, ⟨rfl, by decide +kernel⟩⟩
theorem d_law_350 : ob_dv ob_ac k_law 350 351 2 (.aload_n 2) 1 := ⟨by decide +kernel, rfl, rfl⟩
theorem d_law_354 : ob_dv ob_lc k_law 354 356 5 (.iload 5) 2 := ⟨by decide +kernel, rfl, rfl⟩
theorem d_law_361 : ob_dv ob_lc k_law 361 363 5 (.iload 5) 2 := ⟨by decide +kernel, rfl, rfl⟩
theorem d_law_378 : ob_db k_law 378 (.goto 227) 227 381 605 := ⟨by decide +kernel, rfl, by decide⟩
theorem d_law_366 : ob_dv ob_ac k_law 366 367 3 (.aload_n 3) 1 := ⟨by decide +kernel, rfl, rfl⟩
theorem d_law_367 : ob_dk k_law 367 368 (0 : Int32) (.iconst 0) 1 := ⟨by decide +kernel, rfl, show Int32.ofInt 0 = (0 : Int32) by decide +kernel⟩
theorem d_law_369 : ob_dv ob_lc k_law 369 371 6 (.iload 6) 2 := ⟨by decide +kernel, rfl, rfl⟩
theorem d_law_371 : ob_dc k_law 371 (.i2l) 1 372 := ⟨by decide +kernel, rfl⟩
theorem d_law_372 : ob_dc k_law 372 (.lcmp) 1 373 := ⟨by decide +kernel, rfl⟩
theorem d_law_376 : ob_dk k_law 376 377 (0 : Int32) (.iconst 0) 1 := ⟨by decide +kernel, rfl, show Int32.ofInt 0 = (0 : Int32) by decide +kernel⟩
theorem d_law_373 : ob_db k_law 373 (.ifCond .eq 5) 5 376 378 := ⟨by decide +kernel, rfl, by decide⟩
theorem d_law_368 : ob_dc k_law 368 (.laload) 1 369 := ⟨by decide +kernel, rfl⟩
theorem d_law_363 : ob_db k_law 363 (.ifCond .ne 15) 15 366 378 := ⟨by decide +kernel, rfl, by decide⟩
theorem d_law_359 : ob_dk k_law 359 360 (0 : Int32) (.iconst 0) 1 := ⟨by decide +kernel, rfl, show Int32.ofInt 0 = (0 : Int32) by decide +kernel⟩
theorem d_law_356 : ob_db k_law 356 (.if_icmp .eq 5) 5 359 361 := ⟨by decide +kernel, rfl, by decide⟩
theorem d_law_351 : ob_dc k_law 351 (.invokevirtual 62) 3 354 := ⟨by decide +kernel, rfl⟩
theorem d_law_345 : ob_dc k_law 345 (.invokevirtual 61) 3 348 := ⟨by decide +kernel, rfl⟩
theorem d_law_344 : ob_dc k_law 344 (.iaload) 1 345 := ⟨by decide +kernel, rfl⟩
theorem d_law_338 : ob_dc k_law 338 (.iaload) 1 339 := ⟨by decide +kernel, rfl⟩
theorem d_law_327 : ob_dc k_law 327 (.invokestatic 58) 3 330 := ⟨by decide +kernel, rfl⟩
theorem d_law_325 : ob_dc k_law 325 (.iaload) 1 326 := ⟨by decide +kernel, rfl⟩
theorem d_law_319 : ob_dc k_law 319 (.iaload) 1 320 := ⟨by decide +kernel, rfl⟩
theorem d_law_381 : ob_dv ob_ac k_law 381 382 1 (.aload_n 1) 1 := ⟨by decide +kernel, rfl, rfl⟩
theorem d_law_382 : ob_dv ob_ac k_law 382 383 0 (.aload_n 0) 1 := ⟨by decide +kernel, rfl, rfl⟩
theorem d_law_383 : ob_dv ob_lc k_law 383 385 4 (.iload 4) 2 := ⟨by decide +kernel, rfl, rfl⟩
theorem d_law_385 : ob_dk k_law 385 386 (1 : Int32) (.iconst 1) 1 := ⟨by decide +kernel, rfl, show Int32.ofInt 1 = (1 : Int32) by decide +kernel⟩
theorem d_law_386 : ob_dc k_law 386 (.iadd) 1 387 := ⟨by decide +kernel, rfl⟩
theorem d_law_388 : ob_dv ob_ac k_law 388 389 3 (.aload_n 3) 1 := ⟨by decide +kernel, rfl, rfl⟩
theorem d_law_392 : ob_dv (ob_sc k_law.2.2.2.1) k_law 392 394 5 (.istore 5) 2 := ⟨by decide +kernel, rfl, ⟨rfl, by decide +kernel⟩⟩
theorem d_law_394 : ob_dv ob_ac k_law 394 395 2 (.aload_n 2) 1 := ⟨by decide +kernel, rfl, rfl⟩
theorem d_law_395 : ob_dv ob_ac k_law 395 396 0 (.aload_n 0) 1 := ⟨by decide +kernel, rfl, rfl⟩
theorem d_law_396 : ob_dv ob_lc k_law 396 398 4 (.iload 4) 2 := ⟨by decide +kernel, rfl, rfl⟩
theorem d_law_398 : ob_dk k_law 398 399 (1 : Int32) (.iconst 1) 1 := ⟨by decide +kernel, rfl, show Int32.ofInt 1 = (1 : Int32) by decide +kernel⟩
theorem d_law_399 : ob_dc k_law 399 (.iadd) 1 400 := ⟨by decide +kernel, rfl⟩
theorem d_law_404 : ob_dv (ob_sc k_law.2.2.2.1) k_law 404 406 6 (.istore 6) 2 := ⟨by decide +kernel, rfl, ⟨rfl, by decide +kernel⟩⟩
theorem d_law_406 : ob_dv ob_ac k_law 406 407 2 (.aload_n 2) 1 := ⟨by decide +kernel, rfl, rfl⟩
theorem d_law_410 : ob_dv ob_lc k_law 410 412 5 (.iload 5) 2 := ⟨by decide +kernel, rfl, rfl⟩
theorem d_law_417 : ob_dv ob_lc k_law 417 419 5 (.iload 5) 2 := ⟨by decide +kernel, rfl, rfl⟩
theorem d_law_434 : ob_db k_law 434 (.goto 171) 171 437 605 := ⟨by decide +kernel, rfl, by decide⟩
theorem d_law_422 : ob_dv ob_ac k_law 422 423 3 (.aload_n 3) 1 := ⟨by decide +kernel, rfl, rfl⟩
theorem d_law_423 : ob_dk k_law 423 424 (0 : Int32) (.iconst 0) 1 := ⟨by decide +kernel, rfl, show Int32.ofInt 0 = (0 : Int32) by decide +kernel⟩
theorem d_law_425 : ob_dv ob_lc k_law 425 427 6 (.iload 6) 2 := ⟨by decide +kernel, rfl, rfl⟩
theorem d_law_427 : ob_dc k_law 427 (.i2l) 1 428 := ⟨by decide +kernel, rfl⟩
theorem d_law_428 : ob_dc k_law 428 (.lcmp) 1 429 := ⟨by decide +kernel, rfl⟩
theorem d_law_432 : ob_dk k_law 432 433 (0 : Int32) (.iconst 0) 1 := ⟨by decide +kernel, rfl, show Int32.ofInt 0 = (0 : Int32) by decide +kernel⟩
theorem d_law_429 : ob_db k_law 429 (.ifCond .eq 5) 5 432 434 := ⟨by decide +kernel, rfl, by decide⟩
theorem d_law_424 : ob_dc k_law 424 (.laload) 1 425 := ⟨by decide +kernel, rfl⟩
theorem d_law_419 : ob_db k_law 419 (.ifCond .ne 15) 15 422 434 := ⟨by decide +kernel, rfl, by decide⟩
theorem d_law_415 : ob_dk k_law 415 416 (0 : Int32) (.iconst 0) 1 := ⟨by decide +kernel, rfl, show Int32.ofInt 0 = (0 : Int32) by decide +kernel⟩
theorem d_law_412 : ob_db k_law 412 (.if_icmp .eq 5) 5 415 417 := ⟨by decide +kernel, rfl, by decide⟩
theorem d_law_407 : ob_dc k_law 407 (.invokevirtual 62) 3 410 := ⟨by decide +kernel, rfl⟩
theorem d_law_401 : ob_dc k_law 401 (.invokevirtual 68) 3 404 := ⟨by decide +kernel, rfl⟩
theorem d_law_400 : ob_dc k_law 400 (.iaload) 1 401 := ⟨by decide +kernel, rfl⟩
theorem d_law_389 : ob_dc k_law 389 (.invokestatic 65) 3 392 := ⟨by decide +kernel, rfl⟩
theorem d_law_387 : ob_dc k_law 387 (.iaload) 1 388 := ⟨by decide +kernel, rfl⟩
theorem d_law_437 : ob_dv ob_ac k_law 437 438 1 (.aload_n 1) 1 := ⟨by decide +kernel, rfl, rfl⟩
theorem d_law_441 : ob_dv ob_ac k_law 441 442 2 (.aload_n 2) 1 := ⟨by decide +kernel, rfl, rfl⟩
theorem d_law_448 : ob_dk k_law 448 449 (0 : Int32) (.iconst 0) 1 := ⟨by decide +kernel, rfl, show Int32.ofInt 0 = (0 : Int32) by decide +kernel⟩
theorem d_law_445 : ob_db k_law 445 (.if_icmp .eq 160) 160 448 605 := ⟨by decide +kernel, rfl, by decide⟩
theorem d_law_442 : ob_dc k_law 442 (.invokevirtual 72) 3 445 := ⟨by decide +kernel, rfl⟩
theorem d_law_438 : ob_dc k_law 438 (.invokevirtual 69) 3 441 := ⟨by decide +kernel, rfl⟩
theorem d_law_450 : ob_dv ob_ac k_law 450 451 1 (.aload_n 1) 1 := ⟨by decide +kernel, rfl, rfl⟩
theorem d_law_451 : ob_dv ob_ac k_law 451 452 0 (.aload_n 0) 1 := ⟨by decide +kernel, rfl, rfl⟩
theorem d_law_452 : ob_dv ob_lc k_law 452 454 4 (.iload 4) 2 := ⟨by decide +kernel, rfl, rfl⟩
theorem d_law_454 : ob_dk k_law 454 455 (1 : Int32) (.iconst 1) 1 := ⟨by decide +kernel, rfl, show Int32.ofInt 1 = (1 : Int32) by decide +kernel⟩
theorem d_law_455 : ob_dc k_law 455 (.iadd) 1 456 := ⟨by decide +kernel, rfl⟩
theorem d_law_460 : ob_dv ob_ac k_law 460 461 2 (.aload_n 2) 1 := ⟨by decide +kernel, rfl, rfl⟩
theorem d_law_461 : ob_dv ob_ac k_law 461 462 0 (.aload_n 0) 1 := ⟨by decide +kernel, rfl, rfl⟩
theorem d_law_462 : ob_dv ob_lc k_law 462 464 4 (.iload 4) 2 := ⟨by decide +kernel, rfl, rfl⟩
theorem d_law_464 : ob_dk k_law 464 465 (1 : Int32) (.iconst 1) 1 := ⟨by decide +kernel, rfl, show Int32.ofInt 1 = (1 : Int32) by decide +kernel⟩
theorem d_law_465 : ob_dc k_law 465 (.iadd) 1 466 := ⟨by decide +kernel, rfl⟩
theorem d_law_473 : ob_dk k_law 473 474 (0 : Int32) (.iconst 0) 1 := ⟨by decide +kernel, rfl, show Int32.ofInt 0 = (0 : Int32) by decide +kernel⟩
theorem d_law_470 : ob_db k_law 470 (.if_icmp .eq 135) 135 473 605 := ⟨by decide +kernel, rfl, by decide⟩
theorem d_law_467 : ob_dc k_law 467 (.invokevirtual 76) 3 470 := ⟨by decide +kernel, rfl⟩
theorem d_law_466 : ob_dc k_law 466 (.iaload) 1 467 := ⟨by decide +kernel, rfl⟩
theorem d_law_457 : ob_dc k_law 457 (.invokevirtual 73) 3 460 := ⟨by decide +kernel, rfl⟩
theorem d_law_456 : ob_dc k_law 456 (.iaload) 1 457 := ⟨by decide +kernel, rfl⟩
theorem d_law_475 : ob_dv ob_ac k_law 475 476 1 (.aload_n 1) 1 := ⟨by decide +kernel, rfl, rfl⟩
theorem d_law_476 : ob_dv ob_ac k_law 476 477 0 (.aload_n 0) 1 := ⟨by decide +kernel, rfl, rfl⟩
theorem d_law_477 : ob_dv ob_lc k_law 477 479 4 (.iload 4) 2 := ⟨by decide +kernel, rfl, rfl⟩
theorem d_law_479 : ob_dk k_law 479 480 (1 : Int32) (.iconst 1) 1 := ⟨by decide +kernel, rfl, show Int32.ofInt 1 = (1 : Int32) by decide +kernel⟩
theorem d_law_480 : ob_dc k_law 480 (.iadd) 1 481 := ⟨by decide +kernel, rfl⟩
theorem d_law_482 : ob_dv ob_ac k_law 482 483 0 (.aload_n 0) 1 := ⟨by decide +kernel, rfl, rfl⟩
theorem d_law_483 : ob_dv ob_lc k_law 483 485 4 (.iload 4) 2 := ⟨by decide +kernel, rfl, rfl⟩
theorem d_law_485 : ob_dk k_law 485 486 (2 : Int32) (.iconst 2) 1 := ⟨by decide +kernel, rfl, show Int32.ofInt 2 = (2 : Int32) by decide +kernel⟩
theorem d_law_486 : ob_dc k_law 486 (.iadd) 1 487 := ⟨by decide +kernel, rfl⟩
theorem d_law_488 : ob_dv ob_ac k_law 488 489 3 (.aload_n 3) 1 := ⟨by decide +kernel, rfl, rfl⟩
theorem d_law_492 : ob_dv (ob_sc k_law.2.2.2.1) k_law 492 494 5 (.istore 5) 2 := ⟨by decide +kernel, rfl, ⟨rfl, by decide +kernel⟩⟩
theorem d_law_494 : ob_dv ob_ac k_law 494 495 2 (.aload_n 2) 1 := ⟨by decide +kernel, rfl, rfl⟩
theorem d_law_495 : ob_dv ob_ac k_law 495 496 0 (.aload_n 0) 1 := ⟨by decide +kernel, rfl, rfl⟩
theorem d_law_496 : ob_dv ob_lc k_law 496 498 4 (.iload 4) 2 := ⟨by decide +kernel, rfl, rfl⟩
theorem d_law_498 : ob_dk k_law 498 499 (1 : Int32) (.iconst 1) 1 := ⟨by decide +kernel, rfl, show Int32.ofInt 1 = (1 : Int32) by decide +kernel⟩
theorem d_law_499 : ob_dc k_law 499 (.iadd) 1 500 := ⟨by decide +kernel, rfl⟩
theorem d_law_501 : ob_dv ob_ac k_law 501 502 0 (.aload_n 0) 1 := ⟨by decide +kernel, rfl, rfl⟩
theorem d_law_502 : ob_dv ob_lc k_law 502 504 4 (.iload 4) 2 := ⟨by decide +kernel, rfl, rfl⟩
theorem d_law_504 : ob_dk k_law 504 505 (2 : Int32) (.iconst 2) 1 := ⟨by decide +kernel, rfl, show Int32.ofInt 2 = (2 : Int32) by decide +kernel⟩
theorem d_law_505 : ob_dc k_law 505 (.iadd) 1 506 := ⟨by decide +kernel, rfl⟩
theorem d_law_510 : ob_dv (ob_sc k_law.2.2.2.1) k_law 510 512 6 (.istore 6) 2 := ⟨by decide +kernel, rfl, ⟨rfl, by decide +kernel⟩⟩
theorem d_law_512 : ob_dv ob_ac k_law 512 513 2 (.aload_n 2) 1 := ⟨by decide +kernel, rfl, rfl⟩
theorem d_law_516 : ob_dv ob_lc k_law 516 518 5 (.iload 5) 2 := ⟨by decide +kernel, rfl, rfl⟩
theorem d_law_523 : ob_dv ob_lc k_law 523 525 5 (.iload 5) 2 := ⟨by decide +kernel, rfl, rfl⟩
theorem d_law_540 : ob_db k_law 540 (.goto 65) 65 543 605 := ⟨by decide +kernel, rfl, by decide⟩
theorem d_law_528 : ob_dv ob_ac k_law 528 529 3 (.aload_n 3) 1 := ⟨by decide +kernel, rfl, rfl⟩
theorem d_law_529 : ob_dk k_law 529 530 (0 : Int32) (.iconst 0) 1 := ⟨by decide +kernel, rfl, show Int32.ofInt 0 = (0 : Int32) by decide +kernel⟩
theorem d_law_531 : ob_dv ob_lc k_law 531 533 6 (.iload 6) 2 := ⟨by decide +kernel, rfl, rfl⟩
theorem d_law_533 : ob_dc k_law 533 (.i2l) 1 534 := ⟨by decide +kernel, rfl⟩
theorem d_law_534 : ob_dc k_law 534 (.lcmp) 1 535 := ⟨by decide +kernel, rfl⟩
theorem d_law_538 : ob_dk k_law 538 539 (0 : Int32) (.iconst 0) 1 := ⟨by decide +kernel, rfl, show Int32.ofInt 0 = (0 : Int32) by decide +kernel⟩
theorem d_law_535 : ob_db k_law 535 (.ifCond .eq 5) 5 538 540 := ⟨by decide +kernel, rfl, by decide⟩
theorem d_law_530 : ob_dc k_law 530 (.laload) 1 531 := ⟨by decide +kernel, rfl⟩
theorem d_law_525 : ob_db k_law 525 (.ifCond .ne 15) 15 528 540 := ⟨by decide +kernel, rfl, by decide⟩
theorem d_law_521 : ob_dk k_law 521 522 (0 : Int32) (.iconst 0) 1 := ⟨by decide +kernel, rfl, show Int32.ofInt 0 = (0 : Int32) by decide +kernel⟩
theorem d_law_518 : ob_db k_law 518 (.if_icmp .eq 5) 5 521 523 := ⟨by decide +kernel, rfl, by decide⟩
theorem d_law_513 : ob_dc k_law 513 (.invokevirtual 62) 3 516 := ⟨by decide +kernel, rfl⟩
theorem d_law_507 : ob_dc k_law 507 (.invokevirtual 79) 3 510 := ⟨by decide +kernel, rfl⟩
theorem d_law_506 : ob_dc k_law 506 (.iaload) 1 507 := ⟨by decide +kernel, rfl⟩
theorem d_law_500 : ob_dc k_law 500 (.iaload) 1 501 := ⟨by decide +kernel, rfl⟩
theorem d_law_489 : ob_dc k_law 489 (.invokestatic 77) 3 492 := ⟨by decide +kernel, rfl⟩
theorem d_law_487 : ob_dc k_law 487 (.iaload) 1 488 := ⟨by decide +kernel, rfl⟩
theorem d_law_481 : ob_dc k_law 481 (.iaload) 1 482 := ⟨by decide +kernel, rfl⟩
theorem d_law_543 : ob_dv ob_ac k_law 543 544 1 (.aload_n 1) 1 := ⟨by decide +kernel, rfl, rfl⟩
theorem d_law_544 : ob_dv ob_ac k_law 544 545 0 (.aload_n 0) 1 := ⟨by decide +kernel, rfl, rfl⟩
theorem d_law_545 : ob_dv ob_lc k_law 545 547 4 (.iload 4) 2 := ⟨by decide +kernel, rfl, rfl⟩
theorem d_law_547 : ob_dk k_law 547 548 (1 : Int32) (.iconst 1) 1 := ⟨by decide +kernel, rfl, show Int32.ofInt 1 = (1 : Int32) by decide +kernel⟩
theorem d_law_548 : ob_dc k_law 548 (.iadd) 1 549 := ⟨by decide +kernel, rfl⟩
theorem d_law_550 : ob_dv ob_ac k_law 550 551 0 (.aload_n 0) 1 := ⟨by decide +kernel, rfl, rfl⟩
theorem d_law_551 : ob_dv ob_lc k_law 551 553 4 (.iload 4) 2 := ⟨by decide +kernel, rfl, rfl⟩
theorem d_law_553 : ob_dk k_law 553 554 (2 : Int32) (.iconst 2) 1 := ⟨by decide +kernel, rfl, show Int32.ofInt 2 = (2 : Int32) by decide +kernel⟩
theorem d_law_554 : ob_dc k_law 554 (.iadd) 1 555 := ⟨by decide +kernel, rfl⟩
theorem d_law_559 : ob_dv ob_ac k_law 559 560 2 (.aload_n 2) 1 := ⟨by decide +kernel, rfl, rfl⟩
theorem d_law_560 : ob_dv ob_ac k_law 560 561 0 (.aload_n 0) 1 := ⟨by decide +kernel, rfl, rfl⟩
theorem d_law_561 : ob_dv ob_lc k_law 561 563 4 (.iload 4) 2 := ⟨by decide +kernel, rfl, rfl⟩
theorem d_law_563 : ob_dk k_law 563 564 (1 : Int32) (.iconst 1) 1 := ⟨by decide +kernel, rfl, show Int32.ofInt 1 = (1 : Int32) by decide +kernel⟩
theorem d_law_564 : ob_dc k_law 564 (.iadd) 1 565 := ⟨by decide +kernel, rfl⟩
theorem d_law_566 : ob_dv ob_ac k_law 566 567 0 (.aload_n 0) 1 := ⟨by decide +kernel, rfl, rfl⟩
theorem d_law_567 : ob_dv ob_lc k_law 567 569 4 (.iload 4) 2 := ⟨by decide +kernel, rfl, rfl⟩
theorem d_law_569 : ob_dk k_law 569 570 (2 : Int32) (.iconst 2) 1 := ⟨by decide +kernel, rfl, show Int32.ofInt 2 = (2 : Int32) by decide +kernel⟩
theorem d_law_570 : ob_dc k_law 570 (.iadd) 1 571 := ⟨by decide +kernel, rfl⟩
theorem d_law_578 : ob_dk k_law 578 579 (0 : Int32) (.iconst 0) 1 := ⟨by decide +kernel, rfl, show Int32.ofInt 0 = (0 : Int32) by decide +kernel⟩
theorem d_law_575 : ob_db k_law 575 (.if_icmp .eq 30) 30 578 605 := ⟨by decide +kernel, rfl, by decide⟩
theorem d_law_572 : ob_dc k_law 572 (.invokevirtual 83) 3 575 := ⟨by decide +kernel, rfl⟩
theorem d_law_571 : ob_dc k_law 571 (.iaload) 1 572 := ⟨by decide +kernel, rfl⟩
theorem d_law_565 : ob_dc k_law 565 (.iaload) 1 566 := ⟨by decide +kernel, rfl⟩
theorem d_law_556 : ob_dc k_law 556 (.invokevirtual 80) 3 559 := ⟨by decide +kernel, rfl⟩
theorem d_law_555 : ob_dc k_law 555 (.iaload) 1 556 := ⟨by decide +kernel, rfl⟩
theorem d_law_549 : ob_dc k_law 549 (.iaload) 1 550 := ⟨by decide +kernel, rfl⟩
theorem d_law_580 : ob_dv ob_ac k_law 580 581 1 (.aload_n 1) 1 := ⟨by decide +kernel, rfl, rfl⟩
theorem d_law_581 : ob_dv ob_ac k_law 581 582 0 (.aload_n 0) 1 := ⟨by decide +kernel, rfl, rfl⟩
theorem d_law_582 : ob_dv ob_lc k_law 582 584 4 (.iload 4) 2 := ⟨by decide +kernel, rfl, rfl⟩
theorem d_law_584 : ob_dk k_law 584 585 (1 : Int32) (.iconst 1) 1 := ⟨by decide +kernel, rfl, show Int32.ofInt 1 = (1 : Int32) by decide +kernel⟩
theorem d_law_585 : ob_dc k_law 585 (.iadd) 1 586 := ⟨by decide +kernel, rfl⟩
theorem d_law_590 : ob_dv ob_ac k_law 590 591 2 (.aload_n 2) 1 := ⟨by decide +kernel, rfl, rfl⟩
theorem d_law_591 : ob_dv ob_ac k_law 591 592 0 (.aload_n 0) 1 := ⟨by decide +kernel, rfl, rfl⟩
theorem d_law_592 : ob_dv ob_lc k_law 592 594 4 (.iload 4) 2 := ⟨by decide +kernel, rfl, rfl⟩
theorem d_law_594 : ob_dk k_law 594 595 (1 : Int32) (.iconst 1) 1 := ⟨by decide +kernel, rfl, show Int32.ofInt 1 = (1 : Int32) by decide +kernel⟩
theorem d_law_595 : ob_dc k_law 595 (.iadd) 1 596 := ⟨by decide +kernel, rfl⟩
theorem d_law_603 : ob_dk k_law 603 604 (0 : Int32) (.iconst 0) 1 := ⟨by decide +kernel, rfl, show Int32.ofInt 0 = (0 : Int32) by decide +kernel⟩
theorem d_law_600 : ob_db k_law 600 (.if_icmp .eq 5) 5 603 605 := ⟨by decide +kernel, rfl, by decide⟩
theorem d_law_597 : ob_dc k_law 597 (.invokevirtual 87) 3 600 := ⟨by decide +kernel, rfl⟩
theorem d_law_596 : ob_dc k_law 596 (.iaload) 1 597 := ⟨by decide +kernel, rfl⟩
theorem d_law_587 : ob_dc k_law 587 (.invokevirtual 84) 3 590 := ⟨by decide +kernel, rfl⟩
theorem d_law_586 : ob_dc k_law 586 (.iaload) 1 587 := ⟨by decide +kernel, rfl⟩
theorem d_law_86 : ob_dc k_law 86 (.iaload) 1 87 := ⟨by decide +kernel, rfl⟩
theorem d_law_80 : ob_db k_law 80 (.if_icmp .gt 531) 531 83 611 := ⟨by decide +kernel, rfl, by decide⟩
theorem c_law_22 : ob_sd k_law k_Law_cell 22 2 := ⟨cw_Law_cell, yd_Law_cell, w_988, w_989, w_0, by decide, by decide⟩
theorem c_law_28 : ob_id k_law k_Box_init 28 5 := ⟨cw_Box_init, yd_Box_init, w_23, w_24, w_1, ⟨by decide, by decide⟩, rfl, rfl⟩
theorem c_law_33 : ob_id k_law k_Model_init 33 5 := ⟨cw_Model_init, yd_Model_init, w_1078, w_1079, w_14, ⟨by decide, by decide⟩, rfl, rfl⟩
theorem c_law_38 : ob_vd k_law k_Model_feed 38 5 12 := ⟨cw_Model_feed, yd_Model_feed, w_1368, w_1369, w_1370, w_14, ⟨_, _, rfl⟩, by decide, by decide⟩
theorem c_law_34 : ob_vd k_law k_Box_feed 34 5 0 := ⟨cw_Box_feed, yd_Box_feed, w_462, w_463, w_464, w_1, ⟨_, _, rfl⟩, by decide, by decide⟩
theorem c_law_43 : ob_vd k_law k_Model_end 43 1 12 := ⟨cw_Model_end, yd_Model_end, w_1372, w_1373, w_1374, w_14, ⟨_, _, rfl⟩, by decide, by decide⟩
theorem c_law_39 : ob_vd k_law k_Box_end 39 1 0 := ⟨cw_Box_end, yd_Box_end, w_470, w_471, w_472, w_1, ⟨_, _, rfl⟩, by decide, by decide⟩
theorem c_law_48 : ob_vd k_law k_Model_uplink 48 0 12 := ⟨cw_Model_uplink, yd_Model_uplink, w_1376, w_1377, w_1378, w_14, ⟨_, _, rfl⟩, by decide, by decide⟩
theorem c_law_44 : ob_vd k_law k_Box_uplink 44 0 0 := ⟨cw_Box_uplink, yd_Box_uplink, w_474, w_475, w_476, w_1, ⟨_, _, rfl⟩, by decide, by decide⟩
theorem c_law_53 : ob_vd k_law k_Model_sense 53 2 12 := ⟨cw_Model_sense, yd_Model_sense, w_1422, w_1423, w_1424, w_14, ⟨_, _, rfl⟩, by decide, by decide⟩
theorem c_law_49 : ob_vd k_law k_Box_sense 49 2 0 := ⟨cw_Box_sense, yd_Box_sense, w_560, w_561, w_562, w_1, ⟨_, _, rfl⟩, by decide, by decide⟩
theorem c_law_57 : ob_vd k_law k_Model_tick 57 0 12 := ⟨cw_Model_tick, yd_Model_tick, w_1426, w_1427, w_1428, w_14, ⟨_, _, rfl⟩, by decide, by decide⟩
theorem c_law_54 : ob_vd k_law k_Box_tick 54 0 0 := ⟨cw_Box_tick, yd_Box_tick, w_564, w_565, w_566, w_1, ⟨_, _, rfl⟩, by decide, by decide⟩
theorem c_law_62 : ob_vd k_law k_Model_thrown 62 0 12 := ⟨cw_Model_thrown, yd_Model_thrown, w_1364, w_1365, w_1366, w_14, ⟨_, _, rfl⟩, by decide, by decide⟩
theorem c_law_61 : ob_vd k_law k_Model_down 61 2 12 := ⟨cw_Model_down, yd_Model_down, w_1621, w_1622, w_1623, w_14, ⟨_, _, rfl⟩, by decide, by decide⟩
theorem c_law_58 : ob_swd k_law k_Law_down (0, 10, 13, 13) 58 4 := ⟨w_993, yd_Law_down, w_991, w_992, w_0, by decide, by decide⟩
theorem c_law_68 : ob_vd k_law k_Model_value 68 1 12 := ⟨cw_Model_value, yd_Model_value, w_1625, w_1626, w_1627, w_14, ⟨_, _, rfl⟩, by decide, by decide⟩
theorem c_law_65 : ob_swd k_law k_Law_value (0, 9, 12, 13) 65 3 := ⟨w_1062, yd_Law_value, w_1060, w_1061, w_0, by decide, by decide⟩
theorem c_law_72 : ob_vd k_law k_Model_word 72 0 12 := ⟨cw_Model_word, yd_Model_word, w_1629, w_1630, w_1631, w_14, ⟨_, _, rfl⟩, by decide, by decide⟩
theorem c_law_69 : ob_vd k_law k_Box_word 69 0 0 := ⟨cw_Box_word, yd_Box_word, w_969, w_970, w_971, w_1, ⟨_, _, rfl⟩, by decide, by decide⟩
theorem c_law_76 : ob_vd k_law k_Model_memory 76 1 12 := ⟨cw_Model_memory, yd_Model_memory, w_1633, w_1634, w_1635, w_14, ⟨_, _, rfl⟩, by decide, by decide⟩
theorem c_law_73 : ob_vd k_law k_Box_memory 73 1 0 := ⟨cw_Box_memory, yd_Box_memory, w_973, w_974, w_975, w_1, ⟨_, _, rfl⟩, by decide, by decide⟩
theorem c_law_79 : ob_vd k_law k_Model_entry 79 2 12 := ⟨cw_Model_entry, yd_Model_entry, w_1637, w_1638, w_1639, w_14, ⟨_, _, rfl⟩, by decide, by decide⟩
theorem c_law_77 : ob_swd k_law k_Law_entry (0, 10, 13, 13) 77 4 := ⟨w_1070, yd_Law_entry, w_1068, w_1069, w_0, by decide, by decide⟩
theorem c_law_83 : ob_vd k_law k_Model_limit 83 2 12 := ⟨cw_Model_limit, yd_Model_limit, w_1641, w_1642, w_1643, w_14, ⟨_, _, rfl⟩, by decide, by decide⟩
theorem c_law_80 : ob_vd k_law k_Box_limit 80 2 0 := ⟨cw_Box_limit, yd_Box_limit, w_977, w_978, w_979, w_1, ⟨_, _, rfl⟩, by decide, by decide⟩
theorem c_law_87 : ob_vd k_law k_Model_state 87 1 12 := ⟨cw_Model_state, yd_Model_state, w_1645, w_1646, w_1647, w_14, ⟨_, _, rfl⟩, by decide, by decide⟩
theorem c_law_84 : ob_vd k_law k_Box_state 84 1 0 := ⟨cw_Box_state, yd_Box_state, w_983, w_984, w_985, w_1, ⟨_, _, rfl⟩, by decide, by decide⟩
def f_law_L330 (E : ob_E) (v1 v2 v3 : Nat) (k73 : Int32 → ob_S → ob_D → Option (ob_S × ob_D)) (v4 s0 : Int32) (S : ob_S) (D : ob_D) : Option (ob_S × ob_D) :=
  ob_gt (ob_in (v4 + (1 : Int32)) E.2.2.2.2.2.2.2.1) <| ob_gt (ob_in (v4 + (2 : Int32)) E.2.2.2.2.2.2.2.1) <| ob_bd (f_Model_down S v2 (E.2.2.2.2.2.2.2.2 (v4 + (1 : Int32)).toNatClampNeg) (E.2.2.2.2.2.2.2.2 (v4 + (2 : Int32)).toNatClampNeg) D) fun x119 D120 => ob_bd (f_Model_thrown S v2 D120) fun x122 D123 => (if x122 = s0 then (if s0 = 0 then ob_gt (ob_in (0 : Int32) (S.2.1 v3)) <| (if (lg_cmp (D123.2.2 v3 (0 : Int32).toNatClampNeg) (x119.toInt64)) = 0 then k73 (v4 + (6 : Int32)) S D123 else none) else k73 (v4 + (6 : Int32)) S D123) else none)
theorem e_law_L330 {E : ob_E} {Tf : ob_S} {D' : ob_D} {v1 v2 v3 : Nat} {k73 : Int32 → ob_S → ob_D → Option (ob_S × ob_D)} (he73 : ∀ (v4 : Int32) (S : ob_S) (D : ob_D), k73 v4 S D = some (Tf, D') → ob_ext S Tf) : ∀ (v4 s0 : Int32) (S : ob_S) (D : ob_D), f_law_L330 E v1 v2 v3 k73 v4 s0 S D = some (Tf, D') → ob_ext S Tf := by
  intro v4 s0 S D h
  rw [f_law_L330] at h
  obtain ⟨hg117, h⟩ := ob_gt_e h
  obtain ⟨hg118, h⟩ := ob_gt_e h
  obtain ⟨x119, D120, h121, h⟩ := ob_bd_e h
  obtain ⟨x122, D123, h124, h⟩ := ob_bd_e h
  by_cases hc : x122 = s0
  · replace h := ob_ift hc h
    by_cases hc : s0 = 0
    · replace h := ob_ift hc h
      obtain ⟨hg125, h⟩ := ob_gt_e h
      by_cases hc : (lg_cmp (D123.2.2 v3 (0 : Int32).toNatClampNeg) (x119.toInt64)) = 0
      · replace h := ob_ift hc h
        exact he73 (v4 + (6 : Int32)) S D123 h
      · replace h := ob_iff hc h
        cases h
    · replace h := ob_iff hc h
      exact he73 (v4 + (6 : Int32)) S D123 h
  · replace h := ob_iff hc h
    cases h
theorem v_law_L330 {l : Launch} {E : ob_E} {T Tf : ob_S} {D' : ob_D} {v1 v2 v3 : Nat} (hl0 : ob_nt l) (hcap : ob_ext Tf T) {k73 : Int32 → ob_S → ob_D → Option (ob_S × ob_D)} (he73 : ∀ (v4 : Int32) (S : ob_S) (D : ob_D), k73 v4 S D = some (Tf, D') → ob_ext S Tf) (hk73 : ∀ (v4 : Int32) (S : ob_S) (D : ob_D), S.1 v1 = 1 → S.1 v2 = 13 → S.1 v3 = 23 → k73 v4 S D = some (Tf, D') → ob_G l E k_law 73 [(0, .ref E.2.2.2.2.2.2.1), (1, .ref v1), (2, .ref v2), (3, .ref v3), (4, .int v4)] [] S D (ob_lz E) T) : ∀ (v4 s0 : Int32) (S : ob_S) (D : ob_D), S.1 v1 = 1 → S.1 v2 = 13 → S.1 v3 = 23 → f_law_L330 E v1 v2 v3 k73 v4 s0 S D = some (Tf, D') → ob_G l E k_law 330 [(0, .ref E.2.2.2.2.2.2.1), (1, .ref v1), (2, .ref v2), (3, .ref v3), (4, .int v4)] [.int s0] S D (ob_lz E) T := by
  intro v4 s0 S D hp_v1 hp_v2 hp_v3 h
  have x_S : ob_ext S T := (e_law_L330 he73 v4 s0 S D h).tr hcap
  rw [f_law_L330] at h
  refine ob_withH fun H0 hH0 => ?_
  have kd_v1 := ob_kdH hH0 hp_v1
  have kd_v2 := ob_kdH hH0 hp_v2
  have kd_v3 := ob_kdH hH0 hp_v3
  refine ob_istore (lo2 := [(0, .ref E.2.2.2.2.2.2.1), (1, .ref v1), (2, .ref v2), (3, .ref v3), (4, .int v4), (5, .int s0)]) d_law_330 rfl ?_
  refine ob_aload d_law_332 rfl ?_
  refine ob_aload d_law_333 rfl ?_
  refine ob_iload d_law_334 rfl ?_
  refine ob_push d_law_336 ?_
  refine ob_iadd d_law_337 ?_
  obtain ⟨hg117, h⟩ := ob_gt_e h
  refine ob_ldX d_law_338 hg117 ?_
  refine ob_aload d_law_339 rfl ?_
  refine ob_iload d_law_340 rfl ?_
  refine ob_push d_law_342 ?_
  refine ob_iadd d_law_343 ?_
  obtain ⟨hg118, h⟩ := ob_gt_e h
  refine ob_ldX d_law_344 hg118 ?_
  obtain ⟨x119, D120, h121, h⟩ := ob_bd_e h
  refine ob_callVi (As := [.int (E.2.2.2.2.2.2.2.2 (v4 + (1 : Int32)).toNatClampNeg), .int (E.2.2.2.2.2.2.2.2 (v4 + (2 : Int32)).toNatClampNeg)]) (rest := []) d_law_345 c_law_61 kd_v2.1 rfl rfl (Nat.le_of_ble_eq_true rfl) (c_Model_down kd_v2.1 h121) ⟨Nat.le_refl _, Nat.le_refl _⟩ (ob_ext_m x_S) ?_
  refine ob_istore (lo2 := [(0, .ref E.2.2.2.2.2.2.1), (1, .ref v1), (2, .ref v2), (3, .ref v3), (4, .int v4), (5, .int s0), (6, .int x119)]) d_law_348 rfl ?_
  refine ob_aload d_law_350 rfl ?_
  obtain ⟨x122, D123, h124, h⟩ := ob_bd_e h
  refine ob_callVi (As := []) (rest := []) d_law_351 c_law_62 kd_v2.1 rfl rfl (Nat.le_of_ble_eq_true rfl) (c_Model_thrown kd_v2.1 h124) ⟨Nat.le_refl _, Nat.le_refl _⟩ (ob_ext_m x_S) ?_
  refine ob_iload d_law_354 rfl ?_
  refine ob_icmp_eq d_law_356 (fun hc => ?_) (fun hc => ?_)
  · replace h := ob_ift hc h
    refine ob_iload d_law_361 rfl ?_
    refine ob_if_ne d_law_363 (fun hc => ?_) (fun hc => ?_)
    · replace h := ob_iff hc h
      refine ob_goto d_law_378 ?_
      refine ob_iinc (lo2 := [(0, .ref E.2.2.2.2.2.2.1), (1, .ref v1), (2, .ref v2), (3, .ref v3), (4, .int (v4 + (6 : Int32))), (5, .int s0), (6, .int x119)]) d_law_605 rfl rfl ?_
      refine ob_goto d_law_608 ?_
      refine ob_sub (lo2 := [(0, .ref E.2.2.2.2.2.2.1), (1, .ref v1), (2, .ref v2), (3, .ref v3), (4, .int (v4 + (6 : Int32)))]) [0, 1, 2, 3, 4] rfl ?_
      exact hk73 (v4 + (6 : Int32)) S D123 kd_v1.1 kd_v2.1 kd_v3.1 h
    · replace h := ob_ift hc h
      refine ob_aload d_law_366 rfl ?_
      refine ob_push d_law_367 ?_
      obtain ⟨hg125, h⟩ := ob_gt_e h
      refine ob_lald d_law_368 kd_v3.1 hg125 ?_
      refine ob_iload d_law_369 rfl ?_
      refine ob_i2l d_law_371 ?_
      refine ob_lcmp d_law_372 ?_
      refine ob_if_eq d_law_373 (fun hc => ?_) (fun hc => ?_)
      · replace h := ob_ift hc h
        refine ob_goto d_law_378 ?_
        refine ob_iinc (lo2 := [(0, .ref E.2.2.2.2.2.2.1), (1, .ref v1), (2, .ref v2), (3, .ref v3), (4, .int (v4 + (6 : Int32))), (5, .int s0), (6, .int x119)]) d_law_605 rfl rfl ?_
        refine ob_goto d_law_608 ?_
        refine ob_sub (lo2 := [(0, .ref E.2.2.2.2.2.2.1), (1, .ref v1), (2, .ref v2), (3, .ref v3), (4, .int (v4 + (6 : Int32)))]) [0, 1, 2, 3, 4] rfl ?_
        exact hk73 (v4 + (6 : Int32)) S D123 kd_v1.1 kd_v2.1 kd_v3.1 h
      · replace h := ob_iff hc h
        refine ob_push d_law_376 ?_
        cases h
  · replace h := ob_iff hc h
    refine ob_push d_law_359 ?_
    cases h
def f_law_L392 (E : ob_E) (v1 v2 v3 : Nat) (k73 : Int32 → ob_S → ob_D → Option (ob_S × ob_D)) (v4 s0 : Int32) (S : ob_S) (D : ob_D) : Option (ob_S × ob_D) :=
  ob_gt (ob_in (v4 + (1 : Int32)) E.2.2.2.2.2.2.2.1) <| ob_bd (f_Model_value S v2 (E.2.2.2.2.2.2.2.2 (v4 + (1 : Int32)).toNatClampNeg) D) fun x133 D134 => ob_bd (f_Model_thrown S v2 D134) fun x136 D137 => (if x136 = s0 then (if s0 = 0 then ob_gt (ob_in (0 : Int32) (S.2.1 v3)) <| (if (lg_cmp (D137.2.2 v3 (0 : Int32).toNatClampNeg) (x133.toInt64)) = 0 then k73 (v4 + (6 : Int32)) S D137 else none) else k73 (v4 + (6 : Int32)) S D137) else none)
theorem e_law_L392 {E : ob_E} {Tf : ob_S} {D' : ob_D} {v1 v2 v3 : Nat} {k73 : Int32 → ob_S → ob_D → Option (ob_S × ob_D)} (he73 : ∀ (v4 : Int32) (S : ob_S) (D : ob_D), k73 v4 S D = some (Tf, D') → ob_ext S Tf) : ∀ (v4 s0 : Int32) (S : ob_S) (D : ob_D), f_law_L392 E v1 v2 v3 k73 v4 s0 S D = some (Tf, D') → ob_ext S Tf := by
  intro v4 s0 S D h
  rw [f_law_L392] at h
  obtain ⟨hg132, h⟩ := ob_gt_e h
  obtain ⟨x133, D134, h135, h⟩ := ob_bd_e h
  obtain ⟨x136, D137, h138, h⟩ := ob_bd_e h
  by_cases hc : x136 = s0
  · replace h := ob_ift hc h
    by_cases hc : s0 = 0
    · replace h := ob_ift hc h
      obtain ⟨hg139, h⟩ := ob_gt_e h
      by_cases hc : (lg_cmp (D137.2.2 v3 (0 : Int32).toNatClampNeg) (x133.toInt64)) = 0
      · replace h := ob_ift hc h
        exact he73 (v4 + (6 : Int32)) S D137 h
      · replace h := ob_iff hc h
        cases h
    · replace h := ob_iff hc h
      exact he73 (v4 + (6 : Int32)) S D137 h
  · replace h := ob_iff hc h
    cases h
theorem v_law_L392 {l : Launch} {E : ob_E} {T Tf : ob_S} {D' : ob_D} {v1 v2 v3 : Nat} (hl0 : ob_nt l) (hcap : ob_ext Tf T) {k73 : Int32 → ob_S → ob_D → Option (ob_S × ob_D)} (he73 : ∀ (v4 : Int32) (S : ob_S) (D : ob_D), k73 v4 S D = some (Tf, D') → ob_ext S Tf) (hk73 : ∀ (v4 : Int32) (S : ob_S) (D : ob_D), S.1 v1 = 1 → S.1 v2 = 13 → S.1 v3 = 23 → k73 v4 S D = some (Tf, D') → ob_G l E k_law 73 [(0, .ref E.2.2.2.2.2.2.1), (1, .ref v1), (2, .ref v2), (3, .ref v3), (4, .int v4)] [] S D (ob_lz E) T) : ∀ (v4 s0 : Int32) (S : ob_S) (D : ob_D), S.1 v1 = 1 → S.1 v2 = 13 → S.1 v3 = 23 → f_law_L392 E v1 v2 v3 k73 v4 s0 S D = some (Tf, D') → ob_G l E k_law 392 [(0, .ref E.2.2.2.2.2.2.1), (1, .ref v1), (2, .ref v2), (3, .ref v3), (4, .int v4)] [.int s0] S D (ob_lz E) T := by
  intro v4 s0 S D hp_v1 hp_v2 hp_v3 h
  have x_S : ob_ext S T := (e_law_L392 he73 v4 s0 S D h).tr hcap
  rw [f_law_L392] at h
  refine ob_withH fun H0 hH0 => ?_
  have kd_v1 := ob_kdH hH0 hp_v1
  have kd_v2 := ob_kdH hH0 hp_v2
  have kd_v3 := ob_kdH hH0 hp_v3
  refine ob_istore (lo2 := [(0, .ref E.2.2.2.2.2.2.1), (1, .ref v1), (2, .ref v2), (3, .ref v3), (4, .int v4), (5, .int s0)]) d_law_392 rfl ?_
  refine ob_aload d_law_394 rfl ?_
  refine ob_aload d_law_395 rfl ?_
  refine ob_iload d_law_396 rfl ?_
  refine ob_push d_law_398 ?_
  refine ob_iadd d_law_399 ?_
  obtain ⟨hg132, h⟩ := ob_gt_e h
  refine ob_ldX d_law_400 hg132 ?_
  obtain ⟨x133, D134, h135, h⟩ := ob_bd_e h
  refine ob_callVi (As := [.int (E.2.2.2.2.2.2.2.2 (v4 + (1 : Int32)).toNatClampNeg)]) (rest := []) d_law_401 c_law_68 kd_v2.1 rfl rfl (Nat.le_of_ble_eq_true rfl) (c_Model_value kd_v2.1 h135) ⟨Nat.le_refl _, Nat.le_refl _⟩ (ob_ext_m x_S) ?_
  refine ob_istore (lo2 := [(0, .ref E.2.2.2.2.2.2.1), (1, .ref v1), (2, .ref v2), (3, .ref v3), (4, .int v4), (5, .int s0), (6, .int x133)]) d_law_404 rfl ?_
  refine ob_aload d_law_406 rfl ?_
  obtain ⟨x136, D137, h138, h⟩ := ob_bd_e h
  refine ob_callVi (As := []) (rest := []) d_law_407 c_law_62 kd_v2.1 rfl rfl (Nat.le_of_ble_eq_true rfl) (c_Model_thrown kd_v2.1 h138) ⟨Nat.le_refl _, Nat.le_refl _⟩ (ob_ext_m x_S) ?_
  refine ob_iload d_law_410 rfl ?_
  refine ob_icmp_eq d_law_412 (fun hc => ?_) (fun hc => ?_)
  · replace h := ob_ift hc h
    refine ob_iload d_law_417 rfl ?_
    refine ob_if_ne d_law_419 (fun hc => ?_) (fun hc => ?_)
    · replace h := ob_iff hc h
      refine ob_goto d_law_434 ?_
      refine ob_iinc (lo2 := [(0, .ref E.2.2.2.2.2.2.1), (1, .ref v1), (2, .ref v2), (3, .ref v3), (4, .int (v4 + (6 : Int32))), (5, .int s0), (6, .int x133)]) d_law_605 rfl rfl ?_
      refine ob_goto d_law_608 ?_
      refine ob_sub (lo2 := [(0, .ref E.2.2.2.2.2.2.1), (1, .ref v1), (2, .ref v2), (3, .ref v3), (4, .int (v4 + (6 : Int32)))]) [0, 1, 2, 3, 4] rfl ?_
      exact hk73 (v4 + (6 : Int32)) S D137 kd_v1.1 kd_v2.1 kd_v3.1 h
    · replace h := ob_ift hc h
      refine ob_aload d_law_422 rfl ?_
      refine ob_push d_law_423 ?_
      obtain ⟨hg139, h⟩ := ob_gt_e h
      refine ob_lald d_law_424 kd_v3.1 hg139 ?_
      refine ob_iload d_law_425 rfl ?_
      refine ob_i2l d_law_427 ?_
      refine ob_lcmp d_law_428 ?_
      refine ob_if_eq d_law_429 (fun hc => ?_) (fun hc => ?_)
      · replace h := ob_ift hc h
        refine ob_goto d_law_434 ?_
        refine ob_iinc (lo2 := [(0, .ref E.2.2.2.2.2.2.1), (1, .ref v1), (2, .ref v2), (3, .ref v3), (4, .int (v4 + (6 : Int32))), (5, .int s0), (6, .int x133)]) d_law_605 rfl rfl ?_
        refine ob_goto d_law_608 ?_
        refine ob_sub (lo2 := [(0, .ref E.2.2.2.2.2.2.1), (1, .ref v1), (2, .ref v2), (3, .ref v3), (4, .int (v4 + (6 : Int32)))]) [0, 1, 2, 3, 4] rfl ?_
        exact hk73 (v4 + (6 : Int32)) S D137 kd_v1.1 kd_v2.1 kd_v3.1 h
      · replace h := ob_iff hc h
        refine ob_push d_law_432 ?_
        cases h
  · replace h := ob_iff hc h
    refine ob_push d_law_415 ?_
    cases h
def f_law_L492 (E : ob_E) (v1 v2 v3 : Nat) (k73 : Int32 → ob_S → ob_D → Option (ob_S × ob_D)) (v4 s0 : Int32) (S : ob_S) (D : ob_D) : Option (ob_S × ob_D) :=
  ob_gt (ob_in (v4 + (1 : Int32)) E.2.2.2.2.2.2.2.1) <| ob_gt (ob_in (v4 + (2 : Int32)) E.2.2.2.2.2.2.2.1) <| ob_bd (f_Model_entry S v2 (E.2.2.2.2.2.2.2.2 (v4 + (1 : Int32)).toNatClampNeg) (E.2.2.2.2.2.2.2.2 (v4 + (2 : Int32)).toNatClampNeg) D) fun x165 D166 => ob_bd (f_Model_thrown S v2 D166) fun x168 D169 => (if x168 = s0 then (if s0 = 0 then ob_gt (ob_in (0 : Int32) (S.2.1 v3)) <| (if (lg_cmp (D169.2.2 v3 (0 : Int32).toNatClampNeg) (x165.toInt64)) = 0 then k73 (v4 + (6 : Int32)) S D169 else none) else k73 (v4 + (6 : Int32)) S D169) else none)
theorem e_law_L492 {E : ob_E} {Tf : ob_S} {D' : ob_D} {v1 v2 v3 : Nat} {k73 : Int32 → ob_S → ob_D → Option (ob_S × ob_D)} (he73 : ∀ (v4 : Int32) (S : ob_S) (D : ob_D), k73 v4 S D = some (Tf, D') → ob_ext S Tf) : ∀ (v4 s0 : Int32) (S : ob_S) (D : ob_D), f_law_L492 E v1 v2 v3 k73 v4 s0 S D = some (Tf, D') → ob_ext S Tf := by
  intro v4 s0 S D h
  rw [f_law_L492] at h
  obtain ⟨hg163, h⟩ := ob_gt_e h
  obtain ⟨hg164, h⟩ := ob_gt_e h
  obtain ⟨x165, D166, h167, h⟩ := ob_bd_e h
  obtain ⟨x168, D169, h170, h⟩ := ob_bd_e h
  by_cases hc : x168 = s0
  · replace h := ob_ift hc h
    by_cases hc : s0 = 0
    · replace h := ob_ift hc h
      obtain ⟨hg171, h⟩ := ob_gt_e h
      by_cases hc : (lg_cmp (D169.2.2 v3 (0 : Int32).toNatClampNeg) (x165.toInt64)) = 0
      · replace h := ob_ift hc h
        exact he73 (v4 + (6 : Int32)) S D169 h
      · replace h := ob_iff hc h
        cases h
    · replace h := ob_iff hc h
      exact he73 (v4 + (6 : Int32)) S D169 h
  · replace h := ob_iff hc h
    cases h
theorem v_law_L492 {l : Launch} {E : ob_E} {T Tf : ob_S} {D' : ob_D} {v1 v2 v3 : Nat} (hl0 : ob_nt l) (hcap : ob_ext Tf T) {k73 : Int32 → ob_S → ob_D → Option (ob_S × ob_D)} (he73 : ∀ (v4 : Int32) (S : ob_S) (D : ob_D), k73 v4 S D = some (Tf, D') → ob_ext S Tf) (hk73 : ∀ (v4 : Int32) (S : ob_S) (D : ob_D), S.1 v1 = 1 → S.1 v2 = 13 → S.1 v3 = 23 → k73 v4 S D = some (Tf, D') → ob_G l E k_law 73 [(0, .ref E.2.2.2.2.2.2.1), (1, .ref v1), (2, .ref v2), (3, .ref v3), (4, .int v4)] [] S D (ob_lz E) T) : ∀ (v4 s0 : Int32) (S : ob_S) (D : ob_D), S.1 v1 = 1 → S.1 v2 = 13 → S.1 v3 = 23 → f_law_L492 E v1 v2 v3 k73 v4 s0 S D = some (Tf, D') → ob_G l E k_law 492 [(0, .ref E.2.2.2.2.2.2.1), (1, .ref v1), (2, .ref v2), (3, .ref v3), (4, .int v4)] [.int s0] S D (ob_lz E) T := by
  intro v4 s0 S D hp_v1 hp_v2 hp_v3 h
  have x_S : ob_ext S T := (e_law_L492 he73 v4 s0 S D h).tr hcap
  rw [f_law_L492] at h
  refine ob_withH fun H0 hH0 => ?_
  have kd_v1 := ob_kdH hH0 hp_v1
  have kd_v2 := ob_kdH hH0 hp_v2
  have kd_v3 := ob_kdH hH0 hp_v3
  refine ob_istore (lo2 := [(0, .ref E.2.2.2.2.2.2.1), (1, .ref v1), (2, .ref v2), (3, .ref v3), (4, .int v4), (5, .int s0)]) d_law_492 rfl ?_
  refine ob_aload d_law_494 rfl ?_
  refine ob_aload d_law_495 rfl ?_
  refine ob_iload d_law_496 rfl ?_
  refine ob_push d_law_498 ?_
  refine ob_iadd d_law_499 ?_
  obtain ⟨hg163, h⟩ := ob_gt_e h
  refine ob_ldX d_law_500 hg163 ?_
  refine ob_aload d_law_501 rfl ?_
  refine ob_iload d_law_502 rfl ?_
  refine ob_push d_law_504 ?_
  refine ob_iadd d_law_505 ?_
  obtain ⟨hg164, h⟩ := ob_gt_e h
  refine ob_ldX d_law_506 hg164 ?_
  obtain ⟨x165, D166, h167, h⟩ := ob_bd_e h
  refine ob_callVi (As := [.int (E.2.2.2.2.2.2.2.2 (v4 + (1 : Int32)).toNatClampNeg), .int (E.2.2.2.2.2.2.2.2 (v4 + (2 : Int32)).toNatClampNeg)]) (rest := []) d_law_507 c_law_79 kd_v2.1 rfl rfl (Nat.le_of_ble_eq_true rfl) (c_Model_entry kd_v2.1 h167) ⟨Nat.le_refl _, Nat.le_refl _⟩ (ob_ext_m x_S) ?_
  refine ob_istore (lo2 := [(0, .ref E.2.2.2.2.2.2.1), (1, .ref v1), (2, .ref v2), (3, .ref v3), (4, .int v4), (5, .int s0), (6, .int x165)]) d_law_510 rfl ?_
  refine ob_aload d_law_512 rfl ?_
  obtain ⟨x168, D169, h170, h⟩ := ob_bd_e h
  refine ob_callVi (As := []) (rest := []) d_law_513 c_law_62 kd_v2.1 rfl rfl (Nat.le_of_ble_eq_true rfl) (c_Model_thrown kd_v2.1 h170) ⟨Nat.le_refl _, Nat.le_refl _⟩ (ob_ext_m x_S) ?_
  refine ob_iload d_law_516 rfl ?_
  refine ob_icmp_eq d_law_518 (fun hc => ?_) (fun hc => ?_)
  · replace h := ob_ift hc h
    refine ob_iload d_law_523 rfl ?_
    refine ob_if_ne d_law_525 (fun hc => ?_) (fun hc => ?_)
    · replace h := ob_iff hc h
      refine ob_goto d_law_540 ?_
      refine ob_iinc (lo2 := [(0, .ref E.2.2.2.2.2.2.1), (1, .ref v1), (2, .ref v2), (3, .ref v3), (4, .int (v4 + (6 : Int32))), (5, .int s0), (6, .int x165)]) d_law_605 rfl rfl ?_
      refine ob_goto d_law_608 ?_
      refine ob_sub (lo2 := [(0, .ref E.2.2.2.2.2.2.1), (1, .ref v1), (2, .ref v2), (3, .ref v3), (4, .int (v4 + (6 : Int32)))]) [0, 1, 2, 3, 4] rfl ?_
      exact hk73 (v4 + (6 : Int32)) S D169 kd_v1.1 kd_v2.1 kd_v3.1 h
    · replace h := ob_ift hc h
      refine ob_aload d_law_528 rfl ?_
      refine ob_push d_law_529 ?_
      obtain ⟨hg171, h⟩ := ob_gt_e h
      refine ob_lald d_law_530 kd_v3.1 hg171 ?_
      refine ob_iload d_law_531 rfl ?_
      refine ob_i2l d_law_533 ?_
      refine ob_lcmp d_law_534 ?_
      refine ob_if_eq d_law_535 (fun hc => ?_) (fun hc => ?_)
      · replace h := ob_ift hc h
        refine ob_goto d_law_540 ?_
        refine ob_iinc (lo2 := [(0, .ref E.2.2.2.2.2.2.1), (1, .ref v1), (2, .ref v2), (3, .ref v3), (4, .int (v4 + (6 : Int32))), (5, .int s0), (6, .int x165)]) d_law_605 rfl rfl ?_
        refine ob_goto d_law_608 ?_
        refine ob_sub (lo2 := [(0, .ref E.2.2.2.2.2.2.1), (1, .ref v1), (2, .ref v2), (3, .ref v3), (4, .int (v4 + (6 : Int32)))]) [0, 1, 2, 3, 4] rfl ?_
        exact hk73 (v4 + (6 : Int32)) S D169 kd_v1.1 kd_v2.1 kd_v3.1 h
      · replace h := ob_iff hc h
        refine ob_push d_law_538 ?_
        cases h
  · replace h := ob_iff hc h
    refine ob_push d_law_521 ?_
    cases h
def f_law_L73 (E : ob_E) (v1 v2 v3 : Nat) : Nat → Int32 → ob_S → ob_D → Option (ob_S × ob_D)
  | 0, _, _, _ => none
  | n + 1, v4, S, D => (if ((Int32.ofNat E.2.2.2.2.2.2.2.1) - (6 : Int32)) < v4 then some (S, D) else ob_gt (ob_in v4 E.2.2.2.2.2.2.2.1) <| (if ((E.2.2.2.2.2.2.2.2 v4.toNatClampNeg) &&& (15 : Int32)) = (0 : Int32) then ob_gt (ob_in (v4 + (1 : Int32)) E.2.2.2.2.2.2.2.1) <| ob_gt (ob_in (v4 + (2 : Int32)) E.2.2.2.2.2.2.2.1) <| ob_gt (ob_in (v4 + (3 : Int32)) E.2.2.2.2.2.2.2.1) <| ob_gt (ob_in (v4 + (4 : Int32)) E.2.2.2.2.2.2.2.1) <| ob_gt (ob_in (v4 + (5 : Int32)) E.2.2.2.2.2.2.2.1) <| ob_bd (f_Box_feed S v1 (E.2.2.2.2.2.2.2.2 (v4 + (1 : Int32)).toNatClampNeg) (E.2.2.2.2.2.2.2.2 (v4 + (2 : Int32)).toNatClampNeg) (E.2.2.2.2.2.2.2.2 (v4 + (3 : Int32)).toNatClampNeg) (E.2.2.2.2.2.2.2.2 (v4 + (4 : Int32)).toNatClampNeg) (E.2.2.2.2.2.2.2.2 (v4 + (5 : Int32)).toNatClampNeg) D) fun x65 D66 => ob_gt (ob_in (v4 + (1 : Int32)) E.2.2.2.2.2.2.2.1) <| ob_gt (ob_in (v4 + (2 : Int32)) E.2.2.2.2.2.2.2.1) <| ob_gt (ob_in (v4 + (3 : Int32)) E.2.2.2.2.2.2.2.1) <| ob_gt (ob_in (v4 + (4 : Int32)) E.2.2.2.2.2.2.2.1) <| ob_gt (ob_in (v4 + (5 : Int32)) E.2.2.2.2.2.2.2.1) <| ob_bd (f_Model_feed S v2 (E.2.2.2.2.2.2.2.2 (v4 + (1 : Int32)).toNatClampNeg) (E.2.2.2.2.2.2.2.2 (v4 + (2 : Int32)).toNatClampNeg) (E.2.2.2.2.2.2.2.2 (v4 + (3 : Int32)).toNatClampNeg) (E.2.2.2.2.2.2.2.2 (v4 + (4 : Int32)).toNatClampNeg) (E.2.2.2.2.2.2.2.2 (v4 + (5 : Int32)).toNatClampNeg) D66) fun x73 D74 => (if x65 = x73 then f_law_L73 E v1 v2 v3 n (v4 + (6 : Int32)) S D74 else none) else if ((E.2.2.2.2.2.2.2.2 v4.toNatClampNeg) &&& (15 : Int32)) = (1 : Int32) then ob_gt (ob_in (v4 + (1 : Int32)) E.2.2.2.2.2.2.2.1) <| ob_bd (f_Box_end S v1 (E.2.2.2.2.2.2.2.2 (v4 + (1 : Int32)).toNatClampNeg) D) fun x78 D79 => ob_gt (ob_in (v4 + (1 : Int32)) E.2.2.2.2.2.2.2.1) <| ob_bd (f_Model_end S v2 (E.2.2.2.2.2.2.2.2 (v4 + (1 : Int32)).toNatClampNeg) D79) fun x82 D83 => (if x78 = x82 then f_law_L73 E v1 v2 v3 n (v4 + (6 : Int32)) S D83 else none) else if ((E.2.2.2.2.2.2.2.2 v4.toNatClampNeg) &&& (15 : Int32)) = (2 : Int32) then ob_bd (f_Box_uplink S v1 D) fun x86 D87 => ob_bd (f_Model_uplink S v2 D87) fun x89 D90 => (if x86 = x89 then f_law_L73 E v1 v2 v3 n (v4 + (6 : Int32)) S D90 else none) else if ((E.2.2.2.2.2.2.2.2 v4.toNatClampNeg) &&& (15 : Int32)) = (3 : Int32) then ob_gt (ob_in (v4 + (1 : Int32)) E.2.2.2.2.2.2.2.1) <| ob_gt (ob_in (v4 + (2 : Int32)) E.2.2.2.2.2.2.2.1) <| ob_bd (f_Box_sense S v1 (E.2.2.2.2.2.2.2.2 (v4 + (1 : Int32)).toNatClampNeg) (E.2.2.2.2.2.2.2.2 (v4 + (2 : Int32)).toNatClampNeg) D) fun x95 D96 => ob_gt (ob_in (v4 + (1 : Int32)) E.2.2.2.2.2.2.2.1) <| ob_gt (ob_in (v4 + (2 : Int32)) E.2.2.2.2.2.2.2.1) <| ob_bd (f_Model_sense S v2 (E.2.2.2.2.2.2.2.2 (v4 + (1 : Int32)).toNatClampNeg) (E.2.2.2.2.2.2.2.2 (v4 + (2 : Int32)).toNatClampNeg) D96) fun x100 D101 => (if x95 = x100 then f_law_L73 E v1 v2 v3 n (v4 + (6 : Int32)) S D101 else none) else if ((E.2.2.2.2.2.2.2.2 v4.toNatClampNeg) &&& (15 : Int32)) = (4 : Int32) then ob_bd (f_Box_tick S v1 D) fun x104 D105 => ob_bd (f_Model_tick S v2 D105) fun x107 D108 => (if x104 = x107 then f_law_L73 E v1 v2 v3 n (v4 + (6 : Int32)) S D108 else none) else if ((E.2.2.2.2.2.2.2.2 v4.toNatClampNeg) &&& (15 : Int32)) = (5 : Int32) then ob_gt (ob_in (v4 + (1 : Int32)) E.2.2.2.2.2.2.2.1) <| ob_gt (ob_in (v4 + (2 : Int32)) E.2.2.2.2.2.2.2.1) <| ob_b3 (fl_down S v1 (E.2.2.2.2.2.2.2.2 (v4 + (1 : Int32)).toNatClampNeg) (E.2.2.2.2.2.2.2.2 (v4 + (2 : Int32)).toNatClampNeg) v3 D) fun x113 S114 D115 => f_law_L330 E v1 v2 v3 (fun i s d => f_law_L73 E v1 v2 v3 n i s d) v4 x113 S114 D115 else if ((E.2.2.2.2.2.2.2.2 v4.toNatClampNeg) &&& (15 : Int32)) = (6 : Int32) then ob_gt (ob_in (v4 + (1 : Int32)) E.2.2.2.2.2.2.2.1) <| ob_b3 (fl_value S v1 (E.2.2.2.2.2.2.2.2 (v4 + (1 : Int32)).toNatClampNeg) v3 D) fun x128 S129 D130 => f_law_L392 E v1 v2 v3 (fun i s d => f_law_L73 E v1 v2 v3 n i s d) v4 x128 S129 D130 else if ((E.2.2.2.2.2.2.2.2 v4.toNatClampNeg) &&& (15 : Int32)) = (7 : Int32) then ob_bd (f_Box_word S v1 D) fun x141 D142 => ob_bd (f_Model_word S v2 D142) fun x144 D145 => (if x141 = x144 then f_law_L73 E v1 v2 v3 n (v4 + (6 : Int32)) S D145 else none) else if ((E.2.2.2.2.2.2.2.2 v4.toNatClampNeg) &&& (15 : Int32)) = (8 : Int32) then ob_gt (ob_in (v4 + (1 : Int32)) E.2.2.2.2.2.2.2.1) <| ob_bd (f_Box_memory S v1 (E.2.2.2.2.2.2.2.2 (v4 + (1 : Int32)).toNatClampNeg) D) fun x149 D150 => ob_gt (ob_in (v4 + (1 : Int32)) E.2.2.2.2.2.2.2.1) <| ob_bd (f_Model_memory S v2 (E.2.2.2.2.2.2.2.2 (v4 + (1 : Int32)).toNatClampNeg) D150) fun x153 D154 => (if x149 = x153 then f_law_L73 E v1 v2 v3 n (v4 + (6 : Int32)) S D154 else none) else if ((E.2.2.2.2.2.2.2.2 v4.toNatClampNeg) &&& (15 : Int32)) = (9 : Int32) then ob_gt (ob_in (v4 + (1 : Int32)) E.2.2.2.2.2.2.2.1) <| ob_gt (ob_in (v4 + (2 : Int32)) E.2.2.2.2.2.2.2.1) <| ob_b3 (fl_entry S v1 (E.2.2.2.2.2.2.2.2 (v4 + (1 : Int32)).toNatClampNeg) (E.2.2.2.2.2.2.2.2 (v4 + (2 : Int32)).toNatClampNeg) v3 D) fun x159 S160 D161 => f_law_L492 E v1 v2 v3 (fun i s d => f_law_L73 E v1 v2 v3 n i s d) v4 x159 S160 D161 else if ((E.2.2.2.2.2.2.2.2 v4.toNatClampNeg) &&& (15 : Int32)) = (10 : Int32) then ob_gt (ob_in (v4 + (1 : Int32)) E.2.2.2.2.2.2.2.1) <| ob_gt (ob_in (v4 + (2 : Int32)) E.2.2.2.2.2.2.2.1) <| ob_bd (f_Box_limit S v1 (E.2.2.2.2.2.2.2.2 (v4 + (1 : Int32)).toNatClampNeg) (E.2.2.2.2.2.2.2.2 (v4 + (2 : Int32)).toNatClampNeg) D) fun x175 D176 => ob_gt (ob_in (v4 + (1 : Int32)) E.2.2.2.2.2.2.2.1) <| ob_gt (ob_in (v4 + (2 : Int32)) E.2.2.2.2.2.2.2.1) <| ob_bd (f_Model_limit S v2 (E.2.2.2.2.2.2.2.2 (v4 + (1 : Int32)).toNatClampNeg) (E.2.2.2.2.2.2.2.2 (v4 + (2 : Int32)).toNatClampNeg) D176) fun x180 D181 => (if x175 = x180 then f_law_L73 E v1 v2 v3 n (v4 + (6 : Int32)) S D181 else none) else if ((E.2.2.2.2.2.2.2.2 v4.toNatClampNeg) &&& (15 : Int32)) = (11 : Int32) then ob_gt (ob_in (v4 + (1 : Int32)) E.2.2.2.2.2.2.2.1) <| ob_bd (f_Box_state S v1 (E.2.2.2.2.2.2.2.2 (v4 + (1 : Int32)).toNatClampNeg) D) fun x185 D186 => ob_gt (ob_in (v4 + (1 : Int32)) E.2.2.2.2.2.2.2.1) <| ob_bd (f_Model_state S v2 (E.2.2.2.2.2.2.2.2 (v4 + (1 : Int32)).toNatClampNeg) D186) fun x189 D190 => (if x185 = x189 then f_law_L73 E v1 v2 v3 n (v4 + (6 : Int32)) S D190 else none) else f_law_L73 E v1 v2 v3 n (v4 + (6 : Int32)) S D))
theorem e_law_L73 {E : ob_E} {Tf : ob_S} {D' : ob_D} (v1 v2 v3 : Nat) : ∀ (n : Nat) (v4 : Int32) (S : ob_S) (D : ob_D), f_law_L73 E v1 v2 v3 n v4 S D = some (Tf, D') → ob_ext S Tf := by
  intro n
  induction n with
  | zero =>
    intro v4 S D h
    have h : none = some (Tf, D') := h
    cases h
  | succ n ih =>
    intro v4 S D h
    rw [f_law_L73] at h
    by_cases hc : ((Int32.ofNat E.2.2.2.2.2.2.2.1) - (6 : Int32)) < v4
    · replace h := ob_ift hc h
      exact ob_ext_eq (ob_pe h).1
    · replace h := ob_iff hc h
      obtain ⟨hg59, h⟩ := ob_gt_e h
      by_cases hs76 : ((E.2.2.2.2.2.2.2.2 v4.toNatClampNeg) &&& (15 : Int32)) = (0 : Int32)
      · replace h := ob_ift hs76 h
        obtain ⟨hg60, h⟩ := ob_gt_e h
        obtain ⟨hg61, h⟩ := ob_gt_e h
        obtain ⟨hg62, h⟩ := ob_gt_e h
        obtain ⟨hg63, h⟩ := ob_gt_e h
        obtain ⟨hg64, h⟩ := ob_gt_e h
        obtain ⟨x65, D66, h67, h⟩ := ob_bd_e h
        obtain ⟨hg68, h⟩ := ob_gt_e h
        obtain ⟨hg69, h⟩ := ob_gt_e h
        obtain ⟨hg70, h⟩ := ob_gt_e h
        obtain ⟨hg71, h⟩ := ob_gt_e h
        obtain ⟨hg72, h⟩ := ob_gt_e h
        obtain ⟨x73, D74, h75, h⟩ := ob_bd_e h
        by_cases hc : x65 = x73
        · replace h := ob_ift hc h
          exact ih (v4 + (6 : Int32)) S D74 h
        · replace h := ob_iff hc h
          cases h
      replace h := ob_iff hs76 h
      by_cases hs85 : ((E.2.2.2.2.2.2.2.2 v4.toNatClampNeg) &&& (15 : Int32)) = (1 : Int32)
      · replace h := ob_ift hs85 h
        obtain ⟨hg77, h⟩ := ob_gt_e h
        obtain ⟨x78, D79, h80, h⟩ := ob_bd_e h
        obtain ⟨hg81, h⟩ := ob_gt_e h
        obtain ⟨x82, D83, h84, h⟩ := ob_bd_e h
        by_cases hc : x78 = x82
        · replace h := ob_ift hc h
          exact ih (v4 + (6 : Int32)) S D83 h
        · replace h := ob_iff hc h
          cases h
      replace h := ob_iff hs85 h
      by_cases hs92 : ((E.2.2.2.2.2.2.2.2 v4.toNatClampNeg) &&& (15 : Int32)) = (2 : Int32)
      · replace h := ob_ift hs92 h
        obtain ⟨x86, D87, h88, h⟩ := ob_bd_e h
        obtain ⟨x89, D90, h91, h⟩ := ob_bd_e h
        by_cases hc : x86 = x89
        · replace h := ob_ift hc h
          exact ih (v4 + (6 : Int32)) S D90 h
        · replace h := ob_iff hc h
          cases h
      replace h := ob_iff hs92 h
      by_cases hs103 : ((E.2.2.2.2.2.2.2.2 v4.toNatClampNeg) &&& (15 : Int32)) = (3 : Int32)
      · replace h := ob_ift hs103 h
        obtain ⟨hg93, h⟩ := ob_gt_e h
        obtain ⟨hg94, h⟩ := ob_gt_e h
        obtain ⟨x95, D96, h97, h⟩ := ob_bd_e h
        obtain ⟨hg98, h⟩ := ob_gt_e h
        obtain ⟨hg99, h⟩ := ob_gt_e h
        obtain ⟨x100, D101, h102, h⟩ := ob_bd_e h
        by_cases hc : x95 = x100
        · replace h := ob_ift hc h
          exact ih (v4 + (6 : Int32)) S D101 h
        · replace h := ob_iff hc h
          cases h
      replace h := ob_iff hs103 h
      by_cases hs110 : ((E.2.2.2.2.2.2.2.2 v4.toNatClampNeg) &&& (15 : Int32)) = (4 : Int32)
      · replace h := ob_ift hs110 h
        obtain ⟨x104, D105, h106, h⟩ := ob_bd_e h
        obtain ⟨x107, D108, h109, h⟩ := ob_bd_e h
        by_cases hc : x104 = x107
        · replace h := ob_ift hc h
          exact ih (v4 + (6 : Int32)) S D108 h
        · replace h := ob_iff hc h
          cases h
      replace h := ob_iff hs110 h
      by_cases hs126 : ((E.2.2.2.2.2.2.2.2 v4.toNatClampNeg) &&& (15 : Int32)) = (5 : Int32)
      · replace h := ob_ift hs126 h
        obtain ⟨hg111, h⟩ := ob_gt_e h
        obtain ⟨hg112, h⟩ := ob_gt_e h
        obtain ⟨x113, S114, D115, h116, h⟩ := ob_b3_e h
        exact (el_down h116).tr (e_law_L330 ih v4 x113 S114 D115 h)
      replace h := ob_iff hs126 h
      by_cases hs140 : ((E.2.2.2.2.2.2.2.2 v4.toNatClampNeg) &&& (15 : Int32)) = (6 : Int32)
      · replace h := ob_ift hs140 h
        obtain ⟨hg127, h⟩ := ob_gt_e h
        obtain ⟨x128, S129, D130, h131, h⟩ := ob_b3_e h
        exact (el_value h131).tr (e_law_L392 ih v4 x128 S129 D130 h)
      replace h := ob_iff hs140 h
      by_cases hs147 : ((E.2.2.2.2.2.2.2.2 v4.toNatClampNeg) &&& (15 : Int32)) = (7 : Int32)
      · replace h := ob_ift hs147 h
        obtain ⟨x141, D142, h143, h⟩ := ob_bd_e h
        obtain ⟨x144, D145, h146, h⟩ := ob_bd_e h
        by_cases hc : x141 = x144
        · replace h := ob_ift hc h
          exact ih (v4 + (6 : Int32)) S D145 h
        · replace h := ob_iff hc h
          cases h
      replace h := ob_iff hs147 h
      by_cases hs156 : ((E.2.2.2.2.2.2.2.2 v4.toNatClampNeg) &&& (15 : Int32)) = (8 : Int32)
      · replace h := ob_ift hs156 h
        obtain ⟨hg148, h⟩ := ob_gt_e h
        obtain ⟨x149, D150, h151, h⟩ := ob_bd_e h
        obtain ⟨hg152, h⟩ := ob_gt_e h
        obtain ⟨x153, D154, h155, h⟩ := ob_bd_e h
        by_cases hc : x149 = x153
        · replace h := ob_ift hc h
          exact ih (v4 + (6 : Int32)) S D154 h
        · replace h := ob_iff hc h
          cases h
      replace h := ob_iff hs156 h
      by_cases hs172 : ((E.2.2.2.2.2.2.2.2 v4.toNatClampNeg) &&& (15 : Int32)) = (9 : Int32)
      · replace h := ob_ift hs172 h
        obtain ⟨hg157, h⟩ := ob_gt_e h
        obtain ⟨hg158, h⟩ := ob_gt_e h
        obtain ⟨x159, S160, D161, h162, h⟩ := ob_b3_e h
        exact (el_entry h162).tr (e_law_L492 ih v4 x159 S160 D161 h)
      replace h := ob_iff hs172 h
      by_cases hs183 : ((E.2.2.2.2.2.2.2.2 v4.toNatClampNeg) &&& (15 : Int32)) = (10 : Int32)
      · replace h := ob_ift hs183 h
        obtain ⟨hg173, h⟩ := ob_gt_e h
        obtain ⟨hg174, h⟩ := ob_gt_e h
        obtain ⟨x175, D176, h177, h⟩ := ob_bd_e h
        obtain ⟨hg178, h⟩ := ob_gt_e h
        obtain ⟨hg179, h⟩ := ob_gt_e h
        obtain ⟨x180, D181, h182, h⟩ := ob_bd_e h
        by_cases hc : x175 = x180
        · replace h := ob_ift hc h
          exact ih (v4 + (6 : Int32)) S D181 h
        · replace h := ob_iff hc h
          cases h
      replace h := ob_iff hs183 h
      by_cases hs192 : ((E.2.2.2.2.2.2.2.2 v4.toNatClampNeg) &&& (15 : Int32)) = (11 : Int32)
      · replace h := ob_ift hs192 h
        obtain ⟨hg184, h⟩ := ob_gt_e h
        obtain ⟨x185, D186, h187, h⟩ := ob_bd_e h
        obtain ⟨hg188, h⟩ := ob_gt_e h
        obtain ⟨x189, D190, h191, h⟩ := ob_bd_e h
        by_cases hc : x185 = x189
        · replace h := ob_ift hc h
          exact ih (v4 + (6 : Int32)) S D190 h
        · replace h := ob_iff hc h
          cases h
      replace h := ob_iff hs192 h
      exact ih (v4 + (6 : Int32)) S D h
theorem v_law_L73 {l : Launch} {E : ob_E} {T Tf : ob_S} {D' : ob_D} (hl0 : ob_nt l) (hcap : ob_ext Tf T) (v1 v2 v3 : Nat) : ∀ (n : Nat) (v4 : Int32) (S : ob_S) (D : ob_D), S.1 v1 = 1 → S.1 v2 = 13 → S.1 v3 = 23 → f_law_L73 E v1 v2 v3 n v4 S D = some (Tf, D') → ob_G l E k_law 73 [(0, .ref E.2.2.2.2.2.2.1), (1, .ref v1), (2, .ref v2), (3, .ref v3), (4, .int v4)] [] S D (ob_lz E) T := by
  intro n
  induction n with
  | zero =>
    intro v4 S D hp_v1 hp_v2 hp_v3 h
    have h : none = some (Tf, D') := h
    cases h
  | succ n ih =>
    have he73 := fun i s d => @e_law_L73 E Tf D' v1 v2 v3 n i s d
    intro v4 S D hp_v1 hp_v2 hp_v3 h
    have x_S : ob_ext S T := (e_law_L73 v1 v2 v3 (n + 1) v4 S D h).tr hcap
    rw [f_law_L73] at h
    refine ob_withH fun H0 hH0 => ?_
    have kd_v1 := ob_kdH hH0 hp_v1
    have kd_v2 := ob_kdH hH0 hp_v2
    have kd_v3 := ob_kdH hH0 hp_v3
    refine ob_iload d_law_73 rfl ?_
    refine ob_aload d_law_75 rfl ?_
    refine ob_lenX d_law_76 ?_
    refine ob_push d_law_77 ?_
    refine ob_isub d_law_79 ?_
    refine ob_icmp_gt d_law_80 (fun hc => ?_) (fun hc => ?_)
    · replace h := ob_ift hc h
      refine ob_push d_law_611 ?_
      exact ob_lawret d_law_612 rfl rfl x_S
    · replace h := ob_iff hc h
      refine ob_aload d_law_83 rfl ?_
      refine ob_iload d_law_84 rfl ?_
      obtain ⟨hg59, h⟩ := ob_gt_e h
      refine ob_ldX d_law_86 hg59 ?_
      refine ob_push d_law_87 ?_
      refine ob_iand d_law_89 ?_
      by_cases hs76 : ((E.2.2.2.2.2.2.2.2 v4.toNatClampNeg) &&& (15 : Int32)) = (0 : Int32)
      · replace h := ob_ift hs76 h
        refine ob_tabI (off := 62) (t := 152) d_law_90 hs76 (by decide +kernel) ?_
        refine ob_aload d_law_152 rfl ?_
        refine ob_aload d_law_153 rfl ?_
        refine ob_iload d_law_154 rfl ?_
        refine ob_push d_law_156 ?_
        refine ob_iadd d_law_157 ?_
        obtain ⟨hg60, h⟩ := ob_gt_e h
        refine ob_ldX d_law_158 hg60 ?_
        refine ob_aload d_law_159 rfl ?_
        refine ob_iload d_law_160 rfl ?_
        refine ob_push d_law_162 ?_
        refine ob_iadd d_law_163 ?_
        obtain ⟨hg61, h⟩ := ob_gt_e h
        refine ob_ldX d_law_164 hg61 ?_
        refine ob_aload d_law_165 rfl ?_
        refine ob_iload d_law_166 rfl ?_
        refine ob_push d_law_168 ?_
        refine ob_iadd d_law_169 ?_
        obtain ⟨hg62, h⟩ := ob_gt_e h
        refine ob_ldX d_law_170 hg62 ?_
        refine ob_aload d_law_171 rfl ?_
        refine ob_iload d_law_172 rfl ?_
        refine ob_push d_law_174 ?_
        refine ob_iadd d_law_175 ?_
        obtain ⟨hg63, h⟩ := ob_gt_e h
        refine ob_ldX d_law_176 hg63 ?_
        refine ob_aload d_law_177 rfl ?_
        refine ob_iload d_law_178 rfl ?_
        refine ob_push d_law_180 ?_
        refine ob_iadd d_law_181 ?_
        obtain ⟨hg64, h⟩ := ob_gt_e h
        refine ob_ldX d_law_182 hg64 ?_
        obtain ⟨x65, D66, h67, h⟩ := ob_bd_e h
        refine ob_callVi (As := [.int (E.2.2.2.2.2.2.2.2 (v4 + (1 : Int32)).toNatClampNeg), .int (E.2.2.2.2.2.2.2.2 (v4 + (2 : Int32)).toNatClampNeg), .int (E.2.2.2.2.2.2.2.2 (v4 + (3 : Int32)).toNatClampNeg), .int (E.2.2.2.2.2.2.2.2 (v4 + (4 : Int32)).toNatClampNeg), .int (E.2.2.2.2.2.2.2.2 (v4 + (5 : Int32)).toNatClampNeg)]) (rest := []) d_law_183 c_law_34 kd_v1.1 rfl rfl (Nat.le_of_ble_eq_true rfl) (c_Box_feed kd_v1.1 h67) ⟨Nat.le_refl _, Nat.le_refl _⟩ (ob_ext_m x_S) ?_
        refine ob_aload d_law_186 rfl ?_
        refine ob_aload d_law_187 rfl ?_
        refine ob_iload d_law_188 rfl ?_
        refine ob_push d_law_190 ?_
        refine ob_iadd d_law_191 ?_
        obtain ⟨hg68, h⟩ := ob_gt_e h
        refine ob_ldX d_law_192 hg68 ?_
        refine ob_aload d_law_193 rfl ?_
        refine ob_iload d_law_194 rfl ?_
        refine ob_push d_law_196 ?_
        refine ob_iadd d_law_197 ?_
        obtain ⟨hg69, h⟩ := ob_gt_e h
        refine ob_ldX d_law_198 hg69 ?_
        refine ob_aload d_law_199 rfl ?_
        refine ob_iload d_law_200 rfl ?_
        refine ob_push d_law_202 ?_
        refine ob_iadd d_law_203 ?_
        obtain ⟨hg70, h⟩ := ob_gt_e h
        refine ob_ldX d_law_204 hg70 ?_
        refine ob_aload d_law_205 rfl ?_
        refine ob_iload d_law_206 rfl ?_
        refine ob_push d_law_208 ?_
        refine ob_iadd d_law_209 ?_
        obtain ⟨hg71, h⟩ := ob_gt_e h
        refine ob_ldX d_law_210 hg71 ?_
        refine ob_aload d_law_211 rfl ?_
        refine ob_iload d_law_212 rfl ?_
        refine ob_push d_law_214 ?_
        refine ob_iadd d_law_215 ?_
        obtain ⟨hg72, h⟩ := ob_gt_e h
        refine ob_ldX d_law_216 hg72 ?_
        obtain ⟨x73, D74, h75, h⟩ := ob_bd_e h
        refine ob_callVi (As := [.int (E.2.2.2.2.2.2.2.2 (v4 + (1 : Int32)).toNatClampNeg), .int (E.2.2.2.2.2.2.2.2 (v4 + (2 : Int32)).toNatClampNeg), .int (E.2.2.2.2.2.2.2.2 (v4 + (3 : Int32)).toNatClampNeg), .int (E.2.2.2.2.2.2.2.2 (v4 + (4 : Int32)).toNatClampNeg), .int (E.2.2.2.2.2.2.2.2 (v4 + (5 : Int32)).toNatClampNeg)]) (rest := [.int x65]) d_law_217 c_law_38 kd_v2.1 rfl rfl (Nat.le_of_ble_eq_true rfl) (c_Model_feed kd_v2.1 h75) ⟨Nat.le_refl _, Nat.le_refl _⟩ (ob_ext_m x_S) ?_
        refine ob_icmp_eq d_law_220 (fun hc => ?_) (fun hc => ?_)
        · replace h := ob_ift hc h
          refine ob_iinc (lo2 := [(0, .ref E.2.2.2.2.2.2.1), (1, .ref v1), (2, .ref v2), (3, .ref v3), (4, .int (v4 + (6 : Int32)))]) d_law_605 rfl rfl ?_
          refine ob_goto d_law_608 ?_
          exact ih (v4 + (6 : Int32)) S D74 kd_v1.1 kd_v2.1 kd_v3.1 h
        · replace h := ob_iff hc h
          refine ob_push d_law_223 ?_
          cases h
      replace h := ob_iff hs76 h
      by_cases hs85 : ((E.2.2.2.2.2.2.2.2 v4.toNatClampNeg) &&& (15 : Int32)) = (1 : Int32)
      · replace h := ob_ift hs85 h
        refine ob_tabI (off := 135) (t := 225) d_law_90 hs85 (by decide +kernel) ?_
        refine ob_aload d_law_225 rfl ?_
        refine ob_aload d_law_226 rfl ?_
        refine ob_iload d_law_227 rfl ?_
        refine ob_push d_law_229 ?_
        refine ob_iadd d_law_230 ?_
        obtain ⟨hg77, h⟩ := ob_gt_e h
        refine ob_ldX d_law_231 hg77 ?_
        obtain ⟨x78, D79, h80, h⟩ := ob_bd_e h
        refine ob_callVi (As := [.int (E.2.2.2.2.2.2.2.2 (v4 + (1 : Int32)).toNatClampNeg)]) (rest := []) d_law_232 c_law_39 kd_v1.1 rfl rfl (Nat.le_of_ble_eq_true rfl) (c_Box_end kd_v1.1 h80) ⟨Nat.le_refl _, Nat.le_refl _⟩ (ob_ext_m x_S) ?_
        refine ob_aload d_law_235 rfl ?_
        refine ob_aload d_law_236 rfl ?_
        refine ob_iload d_law_237 rfl ?_
        refine ob_push d_law_239 ?_
        refine ob_iadd d_law_240 ?_
        obtain ⟨hg81, h⟩ := ob_gt_e h
        refine ob_ldX d_law_241 hg81 ?_
        obtain ⟨x82, D83, h84, h⟩ := ob_bd_e h
        refine ob_callVi (As := [.int (E.2.2.2.2.2.2.2.2 (v4 + (1 : Int32)).toNatClampNeg)]) (rest := [.int x78]) d_law_242 c_law_43 kd_v2.1 rfl rfl (Nat.le_of_ble_eq_true rfl) (c_Model_end kd_v2.1 h84) ⟨Nat.le_refl _, Nat.le_refl _⟩ (ob_ext_m x_S) ?_
        refine ob_icmp_eq d_law_245 (fun hc => ?_) (fun hc => ?_)
        · replace h := ob_ift hc h
          refine ob_iinc (lo2 := [(0, .ref E.2.2.2.2.2.2.1), (1, .ref v1), (2, .ref v2), (3, .ref v3), (4, .int (v4 + (6 : Int32)))]) d_law_605 rfl rfl ?_
          refine ob_goto d_law_608 ?_
          exact ih (v4 + (6 : Int32)) S D83 kd_v1.1 kd_v2.1 kd_v3.1 h
        · replace h := ob_iff hc h
          refine ob_push d_law_248 ?_
          cases h
      replace h := ob_iff hs85 h
      by_cases hs92 : ((E.2.2.2.2.2.2.2.2 v4.toNatClampNeg) &&& (15 : Int32)) = (2 : Int32)
      · replace h := ob_ift hs92 h
        refine ob_tabI (off := 160) (t := 250) d_law_90 hs92 (by decide +kernel) ?_
        refine ob_aload d_law_250 rfl ?_
        obtain ⟨x86, D87, h88, h⟩ := ob_bd_e h
        refine ob_callVi (As := []) (rest := []) d_law_251 c_law_44 kd_v1.1 rfl rfl (Nat.le_of_ble_eq_true rfl) (c_Box_uplink kd_v1.1 h88) ⟨Nat.le_refl _, Nat.le_refl _⟩ (ob_ext_m x_S) ?_
        refine ob_aload d_law_254 rfl ?_
        obtain ⟨x89, D90, h91, h⟩ := ob_bd_e h
        refine ob_callVi (As := []) (rest := [.int x86]) d_law_255 c_law_48 kd_v2.1 rfl rfl (Nat.le_of_ble_eq_true rfl) (c_Model_uplink kd_v2.1 h91) ⟨Nat.le_refl _, Nat.le_refl _⟩ (ob_ext_m x_S) ?_
        refine ob_icmp_eq d_law_258 (fun hc => ?_) (fun hc => ?_)
        · replace h := ob_ift hc h
          refine ob_iinc (lo2 := [(0, .ref E.2.2.2.2.2.2.1), (1, .ref v1), (2, .ref v2), (3, .ref v3), (4, .int (v4 + (6 : Int32)))]) d_law_605 rfl rfl ?_
          refine ob_goto d_law_608 ?_
          exact ih (v4 + (6 : Int32)) S D90 kd_v1.1 kd_v2.1 kd_v3.1 h
        · replace h := ob_iff hc h
          refine ob_push d_law_261 ?_
          cases h
      replace h := ob_iff hs92 h
      by_cases hs103 : ((E.2.2.2.2.2.2.2.2 v4.toNatClampNeg) &&& (15 : Int32)) = (3 : Int32)
      · replace h := ob_ift hs103 h
        refine ob_tabI (off := 173) (t := 263) d_law_90 hs103 (by decide +kernel) ?_
        refine ob_aload d_law_263 rfl ?_
        refine ob_aload d_law_264 rfl ?_
        refine ob_iload d_law_265 rfl ?_
        refine ob_push d_law_267 ?_
        refine ob_iadd d_law_268 ?_
        obtain ⟨hg93, h⟩ := ob_gt_e h
        refine ob_ldX d_law_269 hg93 ?_
        refine ob_aload d_law_270 rfl ?_
        refine ob_iload d_law_271 rfl ?_
        refine ob_push d_law_273 ?_
        refine ob_iadd d_law_274 ?_
        obtain ⟨hg94, h⟩ := ob_gt_e h
        refine ob_ldX d_law_275 hg94 ?_
        obtain ⟨x95, D96, h97, h⟩ := ob_bd_e h
        refine ob_callVi (As := [.int (E.2.2.2.2.2.2.2.2 (v4 + (1 : Int32)).toNatClampNeg), .int (E.2.2.2.2.2.2.2.2 (v4 + (2 : Int32)).toNatClampNeg)]) (rest := []) d_law_276 c_law_49 kd_v1.1 rfl rfl (Nat.le_of_ble_eq_true rfl) (c_Box_sense kd_v1.1 h97) ⟨Nat.le_refl _, Nat.le_refl _⟩ (ob_ext_m x_S) ?_
        refine ob_aload d_law_279 rfl ?_
        refine ob_aload d_law_280 rfl ?_
        refine ob_iload d_law_281 rfl ?_
        refine ob_push d_law_283 ?_
        refine ob_iadd d_law_284 ?_
        obtain ⟨hg98, h⟩ := ob_gt_e h
        refine ob_ldX d_law_285 hg98 ?_
        refine ob_aload d_law_286 rfl ?_
        refine ob_iload d_law_287 rfl ?_
        refine ob_push d_law_289 ?_
        refine ob_iadd d_law_290 ?_
        obtain ⟨hg99, h⟩ := ob_gt_e h
        refine ob_ldX d_law_291 hg99 ?_
        obtain ⟨x100, D101, h102, h⟩ := ob_bd_e h
        refine ob_callVi (As := [.int (E.2.2.2.2.2.2.2.2 (v4 + (1 : Int32)).toNatClampNeg), .int (E.2.2.2.2.2.2.2.2 (v4 + (2 : Int32)).toNatClampNeg)]) (rest := [.int x95]) d_law_292 c_law_53 kd_v2.1 rfl rfl (Nat.le_of_ble_eq_true rfl) (c_Model_sense kd_v2.1 h102) ⟨Nat.le_refl _, Nat.le_refl _⟩ (ob_ext_m x_S) ?_
        refine ob_icmp_eq d_law_295 (fun hc => ?_) (fun hc => ?_)
        · replace h := ob_ift hc h
          refine ob_iinc (lo2 := [(0, .ref E.2.2.2.2.2.2.1), (1, .ref v1), (2, .ref v2), (3, .ref v3), (4, .int (v4 + (6 : Int32)))]) d_law_605 rfl rfl ?_
          refine ob_goto d_law_608 ?_
          exact ih (v4 + (6 : Int32)) S D101 kd_v1.1 kd_v2.1 kd_v3.1 h
        · replace h := ob_iff hc h
          refine ob_push d_law_298 ?_
          cases h
      replace h := ob_iff hs103 h
      by_cases hs110 : ((E.2.2.2.2.2.2.2.2 v4.toNatClampNeg) &&& (15 : Int32)) = (4 : Int32)
      · replace h := ob_ift hs110 h
        refine ob_tabI (off := 210) (t := 300) d_law_90 hs110 (by decide +kernel) ?_
        refine ob_aload d_law_300 rfl ?_
        obtain ⟨x104, D105, h106, h⟩ := ob_bd_e h
        refine ob_callVi (As := []) (rest := []) d_law_301 c_law_54 kd_v1.1 rfl rfl (Nat.le_of_ble_eq_true rfl) (c_Box_tick kd_v1.1 h106) ⟨Nat.le_refl _, Nat.le_refl _⟩ (ob_ext_m x_S) ?_
        refine ob_aload d_law_304 rfl ?_
        obtain ⟨x107, D108, h109, h⟩ := ob_bd_e h
        refine ob_callVi (As := []) (rest := [.int x104]) d_law_305 c_law_57 kd_v2.1 rfl rfl (Nat.le_of_ble_eq_true rfl) (c_Model_tick kd_v2.1 h109) ⟨Nat.le_refl _, Nat.le_refl _⟩ (ob_ext_m x_S) ?_
        refine ob_icmp_eq d_law_308 (fun hc => ?_) (fun hc => ?_)
        · replace h := ob_ift hc h
          refine ob_iinc (lo2 := [(0, .ref E.2.2.2.2.2.2.1), (1, .ref v1), (2, .ref v2), (3, .ref v3), (4, .int (v4 + (6 : Int32)))]) d_law_605 rfl rfl ?_
          refine ob_goto d_law_608 ?_
          exact ih (v4 + (6 : Int32)) S D108 kd_v1.1 kd_v2.1 kd_v3.1 h
        · replace h := ob_iff hc h
          refine ob_push d_law_311 ?_
          cases h
      replace h := ob_iff hs110 h
      by_cases hs126 : ((E.2.2.2.2.2.2.2.2 v4.toNatClampNeg) &&& (15 : Int32)) = (5 : Int32)
      · replace h := ob_ift hs126 h
        refine ob_tabI (off := 223) (t := 313) d_law_90 hs126 (by decide +kernel) ?_
        refine ob_aload d_law_313 rfl ?_
        refine ob_aload d_law_314 rfl ?_
        refine ob_iload d_law_315 rfl ?_
        refine ob_push d_law_317 ?_
        refine ob_iadd d_law_318 ?_
        obtain ⟨hg111, h⟩ := ob_gt_e h
        refine ob_ldX d_law_319 hg111 ?_
        refine ob_aload d_law_320 rfl ?_
        refine ob_iload d_law_321 rfl ?_
        refine ob_push d_law_323 ?_
        refine ob_iadd d_law_324 ?_
        obtain ⟨hg112, h⟩ := ob_gt_e h
        refine ob_ldX d_law_325 hg112 ?_
        refine ob_aload d_law_326 rfl ?_
        obtain ⟨x113, S114, D115, h116, h⟩ := ob_b3_e h
        have x_S114 : ob_ext S114 T := (e_law_L330 he73 v4 x113 S114 D115 h).tr hcap
        refine ob_callSW (As := [.ref v1, .int (E.2.2.2.2.2.2.2.2 (v4 + (1 : Int32)).toNatClampNeg), .int (E.2.2.2.2.2.2.2.2 (v4 + (2 : Int32)).toNatClampNeg), .ref v3]) (rest := []) d_law_327 c_law_58 rfl rfl (Nat.le_of_ble_eq_true rfl) (cl_down hl0 kd_v1.1 kd_v3.1 h116) (ob_ext_m (el_down h116)) (ob_ext_m x_S114) ?_
        exact v_law_L330 hl0 hcap he73 ih v4 x113 S114 D115 (ob_kd_ext (el_down h116) kd_v1).1 (ob_kd_ext (el_down h116) kd_v2).1 (ob_kd_ext (el_down h116) kd_v3).1 h
      replace h := ob_iff hs126 h
      by_cases hs140 : ((E.2.2.2.2.2.2.2.2 v4.toNatClampNeg) &&& (15 : Int32)) = (6 : Int32)
      · replace h := ob_ift hs140 h
        refine ob_tabI (off := 291) (t := 381) d_law_90 hs140 (by decide +kernel) ?_
        refine ob_aload d_law_381 rfl ?_
        refine ob_aload d_law_382 rfl ?_
        refine ob_iload d_law_383 rfl ?_
        refine ob_push d_law_385 ?_
        refine ob_iadd d_law_386 ?_
        obtain ⟨hg127, h⟩ := ob_gt_e h
        refine ob_ldX d_law_387 hg127 ?_
        refine ob_aload d_law_388 rfl ?_
        obtain ⟨x128, S129, D130, h131, h⟩ := ob_b3_e h
        have x_S129 : ob_ext S129 T := (e_law_L392 he73 v4 x128 S129 D130 h).tr hcap
        refine ob_callSW (As := [.ref v1, .int (E.2.2.2.2.2.2.2.2 (v4 + (1 : Int32)).toNatClampNeg), .ref v3]) (rest := []) d_law_389 c_law_65 rfl rfl (Nat.le_of_ble_eq_true rfl) (cl_value hl0 kd_v1.1 kd_v3.1 h131) (ob_ext_m (el_value h131)) (ob_ext_m x_S129) ?_
        exact v_law_L392 hl0 hcap he73 ih v4 x128 S129 D130 (ob_kd_ext (el_value h131) kd_v1).1 (ob_kd_ext (el_value h131) kd_v2).1 (ob_kd_ext (el_value h131) kd_v3).1 h
      replace h := ob_iff hs140 h
      by_cases hs147 : ((E.2.2.2.2.2.2.2.2 v4.toNatClampNeg) &&& (15 : Int32)) = (7 : Int32)
      · replace h := ob_ift hs147 h
        refine ob_tabI (off := 347) (t := 437) d_law_90 hs147 (by decide +kernel) ?_
        refine ob_aload d_law_437 rfl ?_
        obtain ⟨x141, D142, h143, h⟩ := ob_bd_e h
        refine ob_callVi (As := []) (rest := []) d_law_438 c_law_69 kd_v1.1 rfl rfl (Nat.le_of_ble_eq_true rfl) (c_Box_word kd_v1.1 h143) ⟨Nat.le_refl _, Nat.le_refl _⟩ (ob_ext_m x_S) ?_
        refine ob_aload d_law_441 rfl ?_
        obtain ⟨x144, D145, h146, h⟩ := ob_bd_e h
        refine ob_callVi (As := []) (rest := [.int x141]) d_law_442 c_law_72 kd_v2.1 rfl rfl (Nat.le_of_ble_eq_true rfl) (c_Model_word kd_v2.1 h146) ⟨Nat.le_refl _, Nat.le_refl _⟩ (ob_ext_m x_S) ?_
        refine ob_icmp_eq d_law_445 (fun hc => ?_) (fun hc => ?_)
        · replace h := ob_ift hc h
          refine ob_iinc (lo2 := [(0, .ref E.2.2.2.2.2.2.1), (1, .ref v1), (2, .ref v2), (3, .ref v3), (4, .int (v4 + (6 : Int32)))]) d_law_605 rfl rfl ?_
          refine ob_goto d_law_608 ?_
          exact ih (v4 + (6 : Int32)) S D145 kd_v1.1 kd_v2.1 kd_v3.1 h
        · replace h := ob_iff hc h
          refine ob_push d_law_448 ?_
          cases h
      replace h := ob_iff hs147 h
      by_cases hs156 : ((E.2.2.2.2.2.2.2.2 v4.toNatClampNeg) &&& (15 : Int32)) = (8 : Int32)
      · replace h := ob_ift hs156 h
        refine ob_tabI (off := 360) (t := 450) d_law_90 hs156 (by decide +kernel) ?_
        refine ob_aload d_law_450 rfl ?_
        refine ob_aload d_law_451 rfl ?_
        refine ob_iload d_law_452 rfl ?_
        refine ob_push d_law_454 ?_
        refine ob_iadd d_law_455 ?_
        obtain ⟨hg148, h⟩ := ob_gt_e h
        refine ob_ldX d_law_456 hg148 ?_
        obtain ⟨x149, D150, h151, h⟩ := ob_bd_e h
        refine ob_callVi (As := [.int (E.2.2.2.2.2.2.2.2 (v4 + (1 : Int32)).toNatClampNeg)]) (rest := []) d_law_457 c_law_73 kd_v1.1 rfl rfl (Nat.le_of_ble_eq_true rfl) (c_Box_memory kd_v1.1 h151) ⟨Nat.le_refl _, Nat.le_refl _⟩ (ob_ext_m x_S) ?_
        refine ob_aload d_law_460 rfl ?_
        refine ob_aload d_law_461 rfl ?_
        refine ob_iload d_law_462 rfl ?_
        refine ob_push d_law_464 ?_
        refine ob_iadd d_law_465 ?_
        obtain ⟨hg152, h⟩ := ob_gt_e h
        refine ob_ldX d_law_466 hg152 ?_
        obtain ⟨x153, D154, h155, h⟩ := ob_bd_e h
        refine ob_callVi (As := [.int (E.2.2.2.2.2.2.2.2 (v4 + (1 : Int32)).toNatClampNeg)]) (rest := [.int x149]) d_law_467 c_law_76 kd_v2.1 rfl rfl (Nat.le_of_ble_eq_true rfl) (c_Model_memory kd_v2.1 h155) ⟨Nat.le_refl _, Nat.le_refl _⟩ (ob_ext_m x_S) ?_
        refine ob_icmp_eq d_law_470 (fun hc => ?_) (fun hc => ?_)
        · replace h := ob_ift hc h
          refine ob_iinc (lo2 := [(0, .ref E.2.2.2.2.2.2.1), (1, .ref v1), (2, .ref v2), (3, .ref v3), (4, .int (v4 + (6 : Int32)))]) d_law_605 rfl rfl ?_
          refine ob_goto d_law_608 ?_
          exact ih (v4 + (6 : Int32)) S D154 kd_v1.1 kd_v2.1 kd_v3.1 h
        · replace h := ob_iff hc h
          refine ob_push d_law_473 ?_
          cases h
      replace h := ob_iff hs156 h
      by_cases hs172 : ((E.2.2.2.2.2.2.2.2 v4.toNatClampNeg) &&& (15 : Int32)) = (9 : Int32)
      · replace h := ob_ift hs172 h
        refine ob_tabI (off := 385) (t := 475) d_law_90 hs172 (by decide +kernel) ?_
        refine ob_aload d_law_475 rfl ?_
        refine ob_aload d_law_476 rfl ?_
        refine ob_iload d_law_477 rfl ?_
        refine ob_push d_law_479 ?_
        refine ob_iadd d_law_480 ?_
        obtain ⟨hg157, h⟩ := ob_gt_e h
        refine ob_ldX d_law_481 hg157 ?_
        refine ob_aload d_law_482 rfl ?_
        refine ob_iload d_law_483 rfl ?_
        refine ob_push d_law_485 ?_
        refine ob_iadd d_law_486 ?_
        obtain ⟨hg158, h⟩ := ob_gt_e h
        refine ob_ldX d_law_487 hg158 ?_
        refine ob_aload d_law_488 rfl ?_
        obtain ⟨x159, S160, D161, h162, h⟩ := ob_b3_e h
        have x_S160 : ob_ext S160 T := (e_law_L492 he73 v4 x159 S160 D161 h).tr hcap
        refine ob_callSW (As := [.ref v1, .int (E.2.2.2.2.2.2.2.2 (v4 + (1 : Int32)).toNatClampNeg), .int (E.2.2.2.2.2.2.2.2 (v4 + (2 : Int32)).toNatClampNeg), .ref v3]) (rest := []) d_law_489 c_law_77 rfl rfl (Nat.le_of_ble_eq_true rfl) (cl_entry hl0 kd_v1.1 kd_v3.1 h162) (ob_ext_m (el_entry h162)) (ob_ext_m x_S160) ?_
        exact v_law_L492 hl0 hcap he73 ih v4 x159 S160 D161 (ob_kd_ext (el_entry h162) kd_v1).1 (ob_kd_ext (el_entry h162) kd_v2).1 (ob_kd_ext (el_entry h162) kd_v3).1 h
      replace h := ob_iff hs172 h
      by_cases hs183 : ((E.2.2.2.2.2.2.2.2 v4.toNatClampNeg) &&& (15 : Int32)) = (10 : Int32)
      · replace h := ob_ift hs183 h
        refine ob_tabI (off := 453) (t := 543) d_law_90 hs183 (by decide +kernel) ?_
        refine ob_aload d_law_543 rfl ?_
        refine ob_aload d_law_544 rfl ?_
        refine ob_iload d_law_545 rfl ?_
        refine ob_push d_law_547 ?_
        refine ob_iadd d_law_548 ?_
        obtain ⟨hg173, h⟩ := ob_gt_e h
        refine ob_ldX d_law_549 hg173 ?_
        refine ob_aload d_law_550 rfl ?_
        refine ob_iload d_law_551 rfl ?_
        refine ob_push d_law_553 ?_
        refine ob_iadd d_law_554 ?_
        obtain ⟨hg174, h⟩ := ob_gt_e h
        refine ob_ldX d_law_555 hg174 ?_
        obtain ⟨x175, D176, h177, h⟩ := ob_bd_e h
        refine ob_callVi (As := [.int (E.2.2.2.2.2.2.2.2 (v4 + (1 : Int32)).toNatClampNeg), .int (E.2.2.2.2.2.2.2.2 (v4 + (2 : Int32)).toNatClampNeg)]) (rest := []) d_law_556 c_law_80 kd_v1.1 rfl rfl (Nat.le_of_ble_eq_true rfl) (c_Box_limit kd_v1.1 h177) ⟨Nat.le_refl _, Nat.le_refl _⟩ (ob_ext_m x_S) ?_
        refine ob_aload d_law_559 rfl ?_
        refine ob_aload d_law_560 rfl ?_
        refine ob_iload d_law_561 rfl ?_
        refine ob_push d_law_563 ?_
        refine ob_iadd d_law_564 ?_
        obtain ⟨hg178, h⟩ := ob_gt_e h
        refine ob_ldX d_law_565 hg178 ?_
        refine ob_aload d_law_566 rfl ?_
        refine ob_iload d_law_567 rfl ?_
        refine ob_push d_law_569 ?_
        refine ob_iadd d_law_570 ?_
        obtain ⟨hg179, h⟩ := ob_gt_e h
        refine ob_ldX d_law_571 hg179 ?_
        obtain ⟨x180, D181, h182, h⟩ := ob_bd_e h
        refine ob_callVi (As := [.int (E.2.2.2.2.2.2.2.2 (v4 + (1 : Int32)).toNatClampNeg), .int (E.2.2.2.2.2.2.2.2 (v4 + (2 : Int32)).toNatClampNeg)]) (rest := [.int x175]) d_law_572 c_law_83 kd_v2.1 rfl rfl (Nat.le_of_ble_eq_true rfl) (c_Model_limit kd_v2.1 h182) ⟨Nat.le_refl _, Nat.le_refl _⟩ (ob_ext_m x_S) ?_
        refine ob_icmp_eq d_law_575 (fun hc => ?_) (fun hc => ?_)
        · replace h := ob_ift hc h
          refine ob_iinc (lo2 := [(0, .ref E.2.2.2.2.2.2.1), (1, .ref v1), (2, .ref v2), (3, .ref v3), (4, .int (v4 + (6 : Int32)))]) d_law_605 rfl rfl ?_
          refine ob_goto d_law_608 ?_
          exact ih (v4 + (6 : Int32)) S D181 kd_v1.1 kd_v2.1 kd_v3.1 h
        · replace h := ob_iff hc h
          refine ob_push d_law_578 ?_
          cases h
      replace h := ob_iff hs183 h
      by_cases hs192 : ((E.2.2.2.2.2.2.2.2 v4.toNatClampNeg) &&& (15 : Int32)) = (11 : Int32)
      · replace h := ob_ift hs192 h
        refine ob_tabI (off := 490) (t := 580) d_law_90 hs192 (by decide +kernel) ?_
        refine ob_aload d_law_580 rfl ?_
        refine ob_aload d_law_581 rfl ?_
        refine ob_iload d_law_582 rfl ?_
        refine ob_push d_law_584 ?_
        refine ob_iadd d_law_585 ?_
        obtain ⟨hg184, h⟩ := ob_gt_e h
        refine ob_ldX d_law_586 hg184 ?_
        obtain ⟨x185, D186, h187, h⟩ := ob_bd_e h
        refine ob_callVi (As := [.int (E.2.2.2.2.2.2.2.2 (v4 + (1 : Int32)).toNatClampNeg)]) (rest := []) d_law_587 c_law_84 kd_v1.1 rfl rfl (Nat.le_of_ble_eq_true rfl) (c_Box_state kd_v1.1 h187) ⟨Nat.le_refl _, Nat.le_refl _⟩ (ob_ext_m x_S) ?_
        refine ob_aload d_law_590 rfl ?_
        refine ob_aload d_law_591 rfl ?_
        refine ob_iload d_law_592 rfl ?_
        refine ob_push d_law_594 ?_
        refine ob_iadd d_law_595 ?_
        obtain ⟨hg188, h⟩ := ob_gt_e h
        refine ob_ldX d_law_596 hg188 ?_
        obtain ⟨x189, D190, h191, h⟩ := ob_bd_e h
        refine ob_callVi (As := [.int (E.2.2.2.2.2.2.2.2 (v4 + (1 : Int32)).toNatClampNeg)]) (rest := [.int x185]) d_law_597 c_law_87 kd_v2.1 rfl rfl (Nat.le_of_ble_eq_true rfl) (c_Model_state kd_v2.1 h191) ⟨Nat.le_refl _, Nat.le_refl _⟩ (ob_ext_m x_S) ?_
        refine ob_icmp_eq d_law_600 (fun hc => ?_) (fun hc => ?_)
        · replace h := ob_ift hc h
          refine ob_iinc (lo2 := [(0, .ref E.2.2.2.2.2.2.1), (1, .ref v1), (2, .ref v2), (3, .ref v3), (4, .int (v4 + (6 : Int32)))]) d_law_605 rfl rfl ?_
          refine ob_goto d_law_608 ?_
          exact ih (v4 + (6 : Int32)) S D190 kd_v1.1 kd_v2.1 kd_v3.1 h
        · replace h := ob_iff hc h
          refine ob_push d_law_603 ?_
          cases h
      replace h := ob_iff hs192 h
      refine ob_tabO (t := 605) d_law_90 (by decide) (ob_out _ _ _ (fun k h1 h2 hk => ?_)) ?_
      · have hh : k = 0 ∨ k = 1 ∨ k = 2 ∨ k = 3 ∨ k = 4 ∨ k = 5 ∨ k = 6 ∨ k = 7 ∨ k = 8 ∨ k = 9 ∨ k = 10 ∨ k = 11 := by omega
        rcases hh with rfl | rfl | rfl | rfl | rfl | rfl | rfl | rfl | rfl | rfl | rfl | rfl
        · exact hs76 (Int32.toInt_inj.mp hk)
        · exact hs85 (Int32.toInt_inj.mp hk)
        · exact hs92 (Int32.toInt_inj.mp hk)
        · exact hs103 (Int32.toInt_inj.mp hk)
        · exact hs110 (Int32.toInt_inj.mp hk)
        · exact hs126 (Int32.toInt_inj.mp hk)
        · exact hs140 (Int32.toInt_inj.mp hk)
        · exact hs147 (Int32.toInt_inj.mp hk)
        · exact hs156 (Int32.toInt_inj.mp hk)
        · exact hs172 (Int32.toInt_inj.mp hk)
        · exact hs183 (Int32.toInt_inj.mp hk)
        · exact hs192 (Int32.toInt_inj.mp hk)
      · skip
        refine ob_iinc (lo2 := [(0, .ref E.2.2.2.2.2.2.1), (1, .ref v1), (2, .ref v2), (3, .ref v3), (4, .int (v4 + (6 : Int32)))]) d_law_605 rfl rfl ?_
        refine ob_goto d_law_608 ?_
        exact ih (v4 + (6 : Int32)) S D kd_v1.1 kd_v2.1 kd_v3.1 h
def f_law (E : ob_E) (S : ob_S) (D : ob_D) : Option (ob_S × ob_D) :=
  ob_lt (ob_new S 1 0 11) fun S1 => ob_lt (ob_z D S.2.2.1) fun D2 => ob_bd (f_Law_cell S1 E (0 : Int32) D2) fun x8 D6 => ob_bd (f_Law_cell S1 E (1 : Int32) D6) fun x11 D9 => ob_bd (f_Law_cell S1 E (2 : Int32) D9) fun x14 D12 => ob_bd (f_Law_cell S1 E (3 : Int32) D12) fun x17 D15 => ob_bd (f_Law_cell S1 E (4 : Int32) D15) fun x20 D18 => ob_bd (f_Box_init (S.2.2.1) x8 x11 x14 x17 x20 S1 D18) fun S21 D22 => ob_lt (ob_new S21 13 0 91) fun S25 => ob_lt (ob_z D22 S21.2.2.1) fun D26 => ob_bd (f_Law_cell S25 E (0 : Int32) D26) fun x33 D31 => ob_bd (f_Law_cell S25 E (1 : Int32) D31) fun x36 D34 => ob_bd (f_Law_cell S25 E (2 : Int32) D34) fun x39 D37 => ob_bd (f_Law_cell S25 E (3 : Int32) D37) fun x42 D40 => ob_bd (f_Law_cell S25 E (4 : Int32) D40) fun x45 D43 => ob_bd (f_Model_init (S21.2.2.1) x33 x36 x39 x42 x45 S25 D43) fun S46 D47 => ob_gt (¬ (1 : Int32) < 0 ∧ (1 : Int32).toNatClampNeg ≤ 67108864) <| ob_lt (ob_new S46 23 (1 : Int32).toNatClampNeg (1 : Int32).toNatClampNeg) fun S51 => ob_lt (ob_z D47 S46.2.2.1) fun D52 => f_law_L73 E (S.2.2.1) (S21.2.2.1) (S46.2.2.1) ob_FU (5 : Int32) S51 D52
theorem e_law {E : ob_E} {S Tf : ob_S} {D D' : ob_D} (h : f_law E S D = some (Tf, D')) : ob_ext S Tf := by
  rw [f_law] at h
  obtain ⟨S1, hS3, h⟩ := ob_lt_x h
  obtain ⟨D2, hD4, h⟩ := ob_lt_x h
  obtain ⟨x8, D6, h7, h⟩ := ob_bd_e h
  obtain ⟨x11, D9, h10, h⟩ := ob_bd_e h
  obtain ⟨x14, D12, h13, h⟩ := ob_bd_e h
  obtain ⟨x17, D15, h16, h⟩ := ob_bd_e h
  obtain ⟨x20, D18, h19, h⟩ := ob_bd_e h
  obtain ⟨S21, D22, h23, h⟩ := ob_bd_e h
  obtain ⟨S25, hS27, h⟩ := ob_lt_x h
  obtain ⟨D26, hD28, h⟩ := ob_lt_x h
  obtain ⟨x33, D31, h32, h⟩ := ob_bd_e h
  obtain ⟨x36, D34, h35, h⟩ := ob_bd_e h
  obtain ⟨x39, D37, h38, h⟩ := ob_bd_e h
  obtain ⟨x42, D40, h41, h⟩ := ob_bd_e h
  obtain ⟨x45, D43, h44, h⟩ := ob_bd_e h
  obtain ⟨S46, D47, h48, h⟩ := ob_bd_e h
  obtain ⟨hg55, h⟩ := ob_gt_e h
  obtain ⟨S51, hS53, h⟩ := ob_lt_x h
  obtain ⟨D52, hD54, h⟩ := ob_lt_x h
  have x_S51 : ob_ext S51 Tf := e_law_L73 (S.2.2.1) (S21.2.2.1) (S46.2.2.1) ob_FU (5 : Int32) S51 D52 h
  have x_S46 : ob_ext S46 Tf := (ob_ext_new hS53).tr x_S51
  have x_S25 : ob_ext S25 Tf := (e_Model_init h48).tr x_S46
  have x_S21 : ob_ext S21 Tf := (ob_ext_new hS27).tr x_S25
  have x_S1 : ob_ext S1 Tf := (e_Box_init h23).tr x_S21
  have x_S : ob_ext S Tf := (ob_ext_new hS3).tr x_S1
  exact x_S
theorem v_law {l : Launch} {E : ob_E} {S T Tf : ob_S} {D D' : ob_D} (hl0 : ob_nt l) (hcap : ob_ext Tf T) (h : f_law E S D = some (Tf, D')) : ob_G l E k_law 0 [(0, .ref E.2.2.2.2.2.2.1)] [] S D (ob_lz E) T := by
  rw [f_law] at h
  obtain ⟨S1, hS3, h⟩ := ob_lt_x h
  obtain ⟨D2, hD4, h⟩ := ob_lt_x h
  obtain ⟨x8, D6, h7, h⟩ := ob_bd_e h
  obtain ⟨x11, D9, h10, h⟩ := ob_bd_e h
  obtain ⟨x14, D12, h13, h⟩ := ob_bd_e h
  obtain ⟨x17, D15, h16, h⟩ := ob_bd_e h
  obtain ⟨x20, D18, h19, h⟩ := ob_bd_e h
  obtain ⟨S21, D22, h23, h⟩ := ob_bd_e h
  obtain ⟨S25, hS27, h⟩ := ob_lt_x h
  obtain ⟨D26, hD28, h⟩ := ob_lt_x h
  obtain ⟨x33, D31, h32, h⟩ := ob_bd_e h
  obtain ⟨x36, D34, h35, h⟩ := ob_bd_e h
  obtain ⟨x39, D37, h38, h⟩ := ob_bd_e h
  obtain ⟨x42, D40, h41, h⟩ := ob_bd_e h
  obtain ⟨x45, D43, h44, h⟩ := ob_bd_e h
  obtain ⟨S46, D47, h48, h⟩ := ob_bd_e h
  obtain ⟨hg55, h⟩ := ob_gt_e h
  obtain ⟨S51, hS53, h⟩ := ob_lt_x h
  obtain ⟨D52, hD54, h⟩ := ob_lt_x h
  have x_S51 : ob_ext S51 T := (e_law_L73 (S.2.2.1) (S21.2.2.1) (S46.2.2.1) ob_FU (5 : Int32) S51 D52 h).tr hcap
  have x_S46 : ob_ext S46 T := (ob_ext_new hS53).tr x_S51
  have x_S25 : ob_ext S25 T := (e_Model_init h48).tr x_S46
  have x_S21 : ob_ext S21 T := (ob_ext_new hS27).tr x_S25
  have x_S1 : ob_ext S1 T := (e_Box_init h23).tr x_S21
  have x_S : ob_ext S T := (ob_ext_new hS3).tr x_S1
  refine ob_newO d_law_0 N_0 w_21 hS3 hD4 x_S1 ?_
  have hk5 : ob_kd S1 S.2.2.1 1 := ob_kd_this hS3 (by decide)
  refine ob_dup d_law_3 rfl ?_
  refine ob_aload d_law_4 rfl ?_
  refine ob_push d_law_5 ?_
  refine ob_callSi (As := [.ref E.2.2.2.2.2.2.1, .int (0 : Int32)]) (rest := [.ref (S.2.2.1), .ref (S.2.2.1)]) d_law_6 c_law_22 rfl rfl (Nat.le_of_ble_eq_true rfl) (c_Law_cell h7) ⟨Nat.le_refl _, Nat.le_refl _⟩ (ob_ext_m x_S1) ?_
  refine ob_aload d_law_9 rfl ?_
  refine ob_push d_law_10 ?_
  refine ob_callSi (As := [.ref E.2.2.2.2.2.2.1, .int (1 : Int32)]) (rest := [.int x8, .ref (S.2.2.1), .ref (S.2.2.1)]) d_law_11 c_law_22 rfl rfl (Nat.le_of_ble_eq_true rfl) (c_Law_cell h10) ⟨Nat.le_refl _, Nat.le_refl _⟩ (ob_ext_m x_S1) ?_
  refine ob_aload d_law_14 rfl ?_
  refine ob_push d_law_15 ?_
  refine ob_callSi (As := [.ref E.2.2.2.2.2.2.1, .int (2 : Int32)]) (rest := [.int x11, .int x8, .ref (S.2.2.1), .ref (S.2.2.1)]) d_law_16 c_law_22 rfl rfl (Nat.le_of_ble_eq_true rfl) (c_Law_cell h13) ⟨Nat.le_refl _, Nat.le_refl _⟩ (ob_ext_m x_S1) ?_
  refine ob_aload d_law_19 rfl ?_
  refine ob_push d_law_20 ?_
  refine ob_callSi (As := [.ref E.2.2.2.2.2.2.1, .int (3 : Int32)]) (rest := [.int x14, .int x11, .int x8, .ref (S.2.2.1), .ref (S.2.2.1)]) d_law_21 c_law_22 rfl rfl (Nat.le_of_ble_eq_true rfl) (c_Law_cell h16) ⟨Nat.le_refl _, Nat.le_refl _⟩ (ob_ext_m x_S1) ?_
  refine ob_aload d_law_24 rfl ?_
  refine ob_push d_law_25 ?_
  refine ob_callSi (As := [.ref E.2.2.2.2.2.2.1, .int (4 : Int32)]) (rest := [.int x17, .int x14, .int x11, .int x8, .ref (S.2.2.1), .ref (S.2.2.1)]) d_law_26 c_law_22 rfl rfl (Nat.le_of_ble_eq_true rfl) (c_Law_cell h19) ⟨Nat.le_refl _, Nat.le_refl _⟩ (ob_ext_m x_S1) ?_
  refine ob_callI (As := [.int x8, .int x11, .int x14, .int x17, .int x20]) (rest := [.ref (S.2.2.1)]) d_law_29 c_law_28 rfl rfl (Nat.le_of_ble_eq_true rfl) (c_Box_init hk5.1 h23) (ob_ext_m (e_Box_init h23)) (ob_ext_m x_S21) ?_
  have hk24 := ob_kd_ext (e_Box_init h23) hk5
  refine ob_astore (lo2 := [(0, .ref E.2.2.2.2.2.2.1), (1, .ref (S.2.2.1))]) d_law_32 rfl ?_
  refine ob_newO d_law_33 N_12 w_1076 hS27 hD28 x_S25 ?_
  have hk29 := ob_kd_new hS27 hk24
  have hk30 : ob_kd S25 S21.2.2.1 13 := ob_kd_this hS27 (by decide)
  refine ob_dup d_law_36 rfl ?_
  refine ob_aload d_law_37 rfl ?_
  refine ob_push d_law_38 ?_
  refine ob_callSi (As := [.ref E.2.2.2.2.2.2.1, .int (0 : Int32)]) (rest := [.ref (S21.2.2.1), .ref (S21.2.2.1)]) d_law_39 c_law_22 rfl rfl (Nat.le_of_ble_eq_true rfl) (c_Law_cell h32) ⟨Nat.le_refl _, Nat.le_refl _⟩ (ob_ext_m x_S25) ?_
  refine ob_aload d_law_42 rfl ?_
  refine ob_push d_law_43 ?_
  refine ob_callSi (As := [.ref E.2.2.2.2.2.2.1, .int (1 : Int32)]) (rest := [.int x33, .ref (S21.2.2.1), .ref (S21.2.2.1)]) d_law_44 c_law_22 rfl rfl (Nat.le_of_ble_eq_true rfl) (c_Law_cell h35) ⟨Nat.le_refl _, Nat.le_refl _⟩ (ob_ext_m x_S25) ?_
  refine ob_aload d_law_47 rfl ?_
  refine ob_push d_law_48 ?_
  refine ob_callSi (As := [.ref E.2.2.2.2.2.2.1, .int (2 : Int32)]) (rest := [.int x36, .int x33, .ref (S21.2.2.1), .ref (S21.2.2.1)]) d_law_49 c_law_22 rfl rfl (Nat.le_of_ble_eq_true rfl) (c_Law_cell h38) ⟨Nat.le_refl _, Nat.le_refl _⟩ (ob_ext_m x_S25) ?_
  refine ob_aload d_law_52 rfl ?_
  refine ob_push d_law_53 ?_
  refine ob_callSi (As := [.ref E.2.2.2.2.2.2.1, .int (3 : Int32)]) (rest := [.int x39, .int x36, .int x33, .ref (S21.2.2.1), .ref (S21.2.2.1)]) d_law_54 c_law_22 rfl rfl (Nat.le_of_ble_eq_true rfl) (c_Law_cell h41) ⟨Nat.le_refl _, Nat.le_refl _⟩ (ob_ext_m x_S25) ?_
  refine ob_aload d_law_57 rfl ?_
  refine ob_push d_law_58 ?_
  refine ob_callSi (As := [.ref E.2.2.2.2.2.2.1, .int (4 : Int32)]) (rest := [.int x42, .int x39, .int x36, .int x33, .ref (S21.2.2.1), .ref (S21.2.2.1)]) d_law_59 c_law_22 rfl rfl (Nat.le_of_ble_eq_true rfl) (c_Law_cell h44) ⟨Nat.le_refl _, Nat.le_refl _⟩ (ob_ext_m x_S25) ?_
  refine ob_callI (As := [.int x33, .int x36, .int x39, .int x42, .int x45]) (rest := [.ref (S21.2.2.1)]) d_law_62 c_law_33 rfl rfl (Nat.le_of_ble_eq_true rfl) (c_Model_init hk30.1 h48) (ob_ext_m (e_Model_init h48)) (ob_ext_m x_S46) ?_
  have hk49 := ob_kd_ext (e_Model_init h48) hk29
  have hk50 := ob_kd_ext (e_Model_init h48) hk30
  refine ob_astore (lo2 := [(0, .ref E.2.2.2.2.2.2.1), (1, .ref (S.2.2.1)), (2, .ref (S21.2.2.1))]) d_law_65 rfl ?_
  refine ob_push d_law_66 ?_
  refine ob_newJx d_law_67 w_1649 hg55 hS53 hD54 x_S51 ?_
  have hk56 := ob_kd_new hS53 hk49
  have hk57 := ob_kd_new hS53 hk50
  have hk58 : ob_kd S51 S46.2.2.1 23 := ob_kd_this hS53 (by decide)
  refine ob_astore (lo2 := [(0, .ref E.2.2.2.2.2.2.1), (1, .ref (S.2.2.1)), (2, .ref (S21.2.2.1)), (3, .ref (S46.2.2.1))]) d_law_69 rfl ?_
  refine ob_push d_law_70 ?_
  refine ob_istore (lo2 := [(0, .ref E.2.2.2.2.2.2.1), (1, .ref (S.2.2.1)), (2, .ref (S21.2.2.1)), (3, .ref (S46.2.2.1)), (4, .int (5 : Int32))]) d_law_71 rfl ?_
  exact v_law_L73 hl0 hcap (S.2.2.1) (S21.2.2.1) (S46.2.2.1) ob_FU (5 : Int32) S51 D52 hk56.1 hk57.1 hk58.1 h
