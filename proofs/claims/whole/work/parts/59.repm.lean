-- ===== only ints changed =====
def oi (P : Nat → Nat → Prop) (D D' : ob_D) : Prop := D'.2 = D.2 ∧ ∀ y k, ¬ P y k → D'.1 y k = D.1 y k
theorem oi.rf {P : Nat → Nat → Prop} {D : ob_D} : oi P D D := ⟨rfl, fun _ _ _ => rfl⟩
theorem oi.tr {P : Nat → Nat → Prop} {D D1 D2 : ob_D} (h : oi P D D1) (k : oi P D1 D2) : oi P D D2 := ⟨k.1.trans h.1, fun y j hy => (k.2 y j hy).trans (h.2 y j hy)⟩
theorem oi.mono {P Q : Nat → Nat → Prop} {D D1 : ob_D} (h : oi P D D1) (hPQ : ∀ y k, P y k → Q y k) : oi Q D D1 := ⟨h.1, fun y j hy => h.2 y j (fun z => hy (hPQ y j z))⟩
theorem oi.tr2 {P Q R : Nat → Nat → Prop} {D D1 D2 : ob_D} (h : oi P D D1) (k : oi Q D1 D2) (hP : ∀ y k, P y k → R y k) (hQ : ∀ y k, Q y k → R y k) : oi R D D2 := (h.mono hP).tr (k.mono hQ)
theorem oi.pI {P : Nat → Nat → Prop} {D : ob_D} {a k : Nat} {x : Int32} (h : P a k) : oi P D (ob_pI D a k x) := ⟨rfl, fun y j hy => if_neg (fun e => hy (by rw [e.1, e.2]; exact h))⟩
theorem oi.wb {P : Nat → Nat → Prop} {D : ob_D} {b : Nat} {g : Nat → Int32} (h : ∀ k, P b k) : oi P D (ob_wb D b g) := ⟨rfl, fun y j hy => if_neg (fun e => hy (by rw [e]; exact h j))⟩
theorem oi.cp {P : Nat → Nat → Prop} {D : ob_D} {a0 a sp dp n : Nat} (h : ∀ k, dp ≤ k → k < dp + n → P a k) : oi P D (ob_cp D a0 a sp dp n) := ⟨rfl, fun y j hy => by
  show (if y = a then va_cpy (D.1 a0) (D.1 a) sp dp n j else D.1 y j) = _
  by_cases e : y = a
  · rw [if_pos e, e]
    unfold va_cpy
    rw [if_neg (fun z => hy (by rw [e]; exact h j z.1 z.2))]
  · rw [if_neg e]⟩
theorem oi.up {P : Nat → Nat → Prop} {D D' : ob_D} (h : oi P D D') : og P D D' := fun y k hy => ⟨h.2 y k hy, by rw [h.1], by rw [h.1]⟩
theorem ob_ag.oi {P : Nat → Prop} {D D' : ob_D} (h : ob_ag P D D') : oi (fun y _ => P y) D D' := ⟨h.1, h.2⟩
theorem pI_self {D : ob_D} {a k : Nat} {x : Int32} : (ob_pI D a k x).1 a k = x := if_pos ⟨rfl, rfl⟩
theorem pI_ne {D : ob_D} {a k b j : Nat} {x : Int32} (h : ¬ (b = a ∧ j = k)) : (ob_pI D a k x).1 b j = D.1 b j := if_neg h
theorem pI_ref {D : ob_D} {a k : Nat} {x : Int32} : (ob_pI D a k x).2 = D.2 := rfl
-- ===== the reference's references =====
def mtab : List (Nat × Nat × Nat) := [(6, 1, 4096), (11, 2, 64), (13, 3, 280), (18, 4, 63), (24, 5, 2080), (25, 6, 8), (27, 7, 260), (31, 8, 256), (32, 9, 256), (33, 10, 256), (34, 11, 256), (35, 12, 2048), (37, 13, 4096), (38, 14, 8), (39, 15, 8), (42, 16, 64), (43, 17, 64), (44, 18, 16640), (47, 19, 256), (48, 20, 256), (49, 21, 256), (50, 22, 256), (51, 23, 256), (52, 24, 256), (53, 25, 256), (54, 26, 256), (55, 27, 256), (60, 28, 32), (61, 29, 32), (62, 30, 32), (63, 31, 8320), (64, 32, 32), (65, 33, 64), (66, 34, 64), (69, 35, 512), (73, 36, 8192), (74, 37, 32), (75, 38, 16384), (76, 39, 900), (77, 40, 900), (84, 41, 2), (85, 44, 2), (86, 47, 2), (87, 48, 1024), (90, 49, 8)]
def mA (S : ob_S) (D : ob_D) (M : Nat) : Prop := (∀ t ∈ mtab, D.2.1 M t.1 = M + t.2.1 ∧ S.2.1 (M + t.2.1) = t.2.2) ∧ ∀ v, v < 2 → D.2.1 (M + 41) v = M + 42 + v ∧ S.2.1 (M + 42 + v) = 4400 ∧ D.2.1 (M + 44) v = M + 45 + v ∧ S.2.1 (M + 45 + v) = 4400
theorem mA.keep {S S' : ob_S} {D D' : ob_D} {M : Nat} (h : mA S D M) (e : D'.2 = D.2) (hS : ∀ y, M ≤ y → y < M + 50 → S'.2.1 y = S.2.1 y) : mA S' D' M := by
  refine ⟨fun t ht => ?_, fun v hv => ?_⟩
  · have hb : ∀ t ∈ mtab, t.2.1 < 50 := by decide
    rw [e, hS _ (by omega) (by have := hb t ht; omega)]
    exact h.1 t ht
  · rw [e, hS _ (by omega) (by omega), hS _ (by omega) (by omega)]
    exact h.2 v hv
theorem mA.kp {S : ob_S} {D D' : ob_D} {M : Nat} {P : Nat → Nat → Prop} (h : mA S D M) (g : oi P D D') : mA S D' M := h.keep g.1 (fun _ _ _ => rfl)
-- ===== the reference's packet =====
def mPk (D : ob_D) (M : Nat) (p : List Nat) : Prop := D.1 M 70 = N32 p.length ∧ p.length ≤ 512 ∧ ba D (M + 35) 0 p
def mPkP (M : Nat) : Nat → Nat → Prop := fun y k => (y = M ∧ k = 70) ∨ y = M + 35
theorem mPk.keep {D D' : ob_D} {M : Nat} {p : List Nat} {P : Nat → Nat → Prop} (h : mPk D M p) (a : og P D D') (h0 : ¬ P M 70) (h1 : ∀ k, ¬ P (M + 35) k) : mPk D' M p := ⟨by rw [(a _ _ h0).1]; exact h.1, h.2.1, h.2.2.keep a (fun k _ _ => h1 k)⟩
theorem mpk_one {S : ob_S} {D : ob_D} {M : Nat} {p : List Nat} (hA : mA S D M) (h : mPk D M p) (hl : p.length < 512) {b : Nat} (hb : b < 256) {x : Int32} (hx : x.toInt8.toInt32 = sb b) : ∃ D', f_Model_say S M x D = some D' ∧ mPk D' M (p ++ [b]) ∧ oi (mPkP M) D D' := by
  have a69 : D.2.1 M 69 = M + 35 ∧ S.2.1 (M + 35) = 512 := hA.1 (69, 35, 512) (by decide)
  obtain ⟨h1, h2, h3⟩ := h
  have e1 : D.1 M 70 + 1 = N32 (p.length + 1) := by rw [h1]; exact nb_add _ 1
  refine ⟨ob_pI (ob_pI D M 70 (N32 (p.length + 1))) (M + 35) p.length (sb b), ?_, ⟨?_, by rw [List.length_append, List.length_singleton]; omega, ?_⟩, ?_⟩
  · unfold f_Model_say
    rw [a69.1, if_pos (by omega), e1]
    simp only [ob_lt]
    rw [a69.2, h1, if_pos (by rw [nb_in (by omega)]; exact hl), nb_clamp (by omega), hx, sb_sb]
  · rw [pI_ne (by omega), pI_self, List.length_append]
    rfl
  · apply ba_snoc (ba.keep h3 (P := fun y k => (y = M ∧ k = 70) ∨ (y = M + 35 ∧ k = p.length)) ((og.pI (Or.inl ⟨rfl, rfl⟩)).tr (og.pI (Or.inr ⟨rfl, rfl⟩))) (by omega)) hb
    rw [Nat.zero_add, pI_self]
  · exact (oi.pI (Or.inl ⟨rfl, rfl⟩)).tr (oi.pI (Or.inr rfl))
theorem by_be_1 (x : Int32) : by_be x 1 = [by_of x 0] := rfl
theorem by_be_2 (x : Int32) : by_be x 2 = [by_of x 1, by_of x 0] := rfl
theorem by_be_4 (x : Int32) : by_be x 4 = [by_of x 3, by_of x 2, by_of x 1, by_of x 0] := rfl
theorem by_of_s8 (x : Int32) : by_of (x >>> ((8 : Int32) &&& 31)) 0 = by_of x 1 := by
  have h1 := by_of0 (x >>> ((8 : Int32) &&& 31))
  have h2 : (x >>> ((8 : Int32) &&& 31)).toInt8.toInt32 = sb (by_of x 1) := by_ofs x (j := 1) (by decide)
  rw [h2, sb_inj (by_of_lt _ _) (by_of_lt _ _)] at h1
  exact h1.symm
theorem by_of_s16 (x : Int32) : by_of (x >>> ((16 : Int32) &&& 31)) 0 = by_of x 2 := by
  have h1 := by_of0 (x >>> ((16 : Int32) &&& 31))
  have h2 : (x >>> ((16 : Int32) &&& 31)).toInt8.toInt32 = sb (by_of x 2) := by_ofs x (j := 2) (by decide)
  rw [h2, sb_inj (by_of_lt _ _) (by_of_lt _ _)] at h1
  exact h1.symm
theorem by_of_s16b (x : Int32) : by_of (x >>> ((16 : Int32) &&& 31)) 1 = by_of x 3 := by
  have e : (x >>> ((16 : Int32) &&& 31)).toUInt32.toNat = (x.toBitVec.sshiftRight 16).toNat := by
    show (x >>> ((16 : Int32) &&& 31)).toBitVec.toNat = _
    rw [show ((16 : Int32) &&& 31) = N32 16 from by decide, Int32.toBitVec_shiftRight, n_bv]
    have h1 : (BitVec.ofNat 32 16).smod 32 = BitVec.ofNat 32 16 := by decide
    rw [h1, BitVec.sshiftRight_eq', BitVec.toNat_ofNat, Nat.mod_eq_of_lt (by omega)]
  unfold by_of
  rw [e]
  show _ = x.toBitVec.toNat >>> (8 * 3) % 256
  apply Nat.eq_of_testBit_eq
  intro i
  rw [show (256 : Nat) = 2 ^ 8 from rfl, Nat.testBit_mod_two_pow, Nat.testBit_mod_two_pow, Nat.testBit_shiftRight, Nat.testBit_shiftRight]
  by_cases hi : i < 8
  · simp only [hi, decide_true, Bool.true_and]
    rw [← BitVec.getLsbD, ← BitVec.getLsbD, BitVec.getLsbD_sshiftRight]
    have h1 : ¬ 32 ≤ 8 * 1 + i := by omega
    have h2 : 16 + (8 * 1 + i) < 32 := by omega
    simp only [h1, decide_false, Bool.not_false, Bool.true_and, h2, if_true]
    congr 1
    omega
  · simp [hi]
theorem mpk_say {S : ob_S} {D : ob_D} {M : Nat} {p : List Nat} (hA : mA S D M) (h : mPk D M p) (x : Int32) (hl : p.length + 1 ≤ 512) : ∃ D', f_Model_say S M x D = some D' ∧ mPk D' M (p ++ by_be x 1) ∧ oi (mPkP M) D D' := mpk_one hA h (by omega) (by_of_lt _ _) (by_of0 x)
theorem mpk_two {S : ob_S} {D : ob_D} {M : Nat} {p : List Nat} (hA : mA S D M) (h : mPk D M p) (x : Int32) (hl : p.length + 2 ≤ 512) : ∃ D', f_Model_sayTwo S M x D = some D' ∧ mPk D' M (p ++ by_be x 2) ∧ oi (mPkP M) D D' := by
  obtain ⟨D1, p1, p2, p3⟩ := mpk_say hA h (x >>> ((8 : Int32) &&& 31)) (by omega)
  obtain ⟨D2, q1, q2, q3⟩ := mpk_say (hA.kp p3) p2 x (by rw [List.length_append, by_be_len]; omega)
  refine ⟨D2, ?_, ?_, p3.tr q3⟩
  · unfold f_Model_sayTwo
    rw [p1]
    simp only [ob_bv]
    rw [q1]
  · rw [by_be_1, by_be_1, by_of_s8, List.append_assoc] at q2
    exact q2
theorem mpk_four {S : ob_S} {D : ob_D} {M : Nat} {p : List Nat} (hA : mA S D M) (h : mPk D M p) (x : Int32) (hl : p.length + 4 ≤ 512) : ∃ D', f_Model_sayFour S M x D = some D' ∧ mPk D' M (p ++ by_be x 4) ∧ oi (mPkP M) D D' := by
  obtain ⟨D1, p1, p2, p3⟩ := mpk_two hA h (x >>> ((16 : Int32) &&& 31)) (by omega)
  obtain ⟨D2, q1, q2, q3⟩ := mpk_two (hA.kp p3) p2 x (by rw [List.length_append, by_be_len]; omega)
  refine ⟨D2, ?_, ?_, p3.tr q3⟩
  · unfold f_Model_sayFour
    rw [p1]
    simp only [ob_bv]
    rw [q1]
  · rw [by_be_2, by_be_2, by_of_s16, by_of_s16b, List.append_assoc] at q2
    exact q2
-- ===== counts that are written in two bytes =====
theorem by_2_eq {x y : Int32} (h : x.toUInt32.toNat % 65536 = y.toUInt32.toNat % 65536) : by_be x 2 = by_be y 2 := by
  rw [by_be_2, by_be_2]
  unfold by_of
  rw [Nat.shiftRight_eq_div_pow, Nat.shiftRight_eq_div_pow, Nat.shiftRight_eq_div_pow, Nat.shiftRight_eq_div_pow]
  simp only [Nat.reduceMul, Nat.reducePow]
  rw [show x.toUInt32.toNat / 256 % 256 = y.toUInt32.toNat / 256 % 256 by omega, show x.toUInt32.toNat / 1 % 256 = y.toUInt32.toNat / 1 % 256 by omega]
theorem n_submul (x y : Int32) (m : Nat) : (x - y * N32 m).toUInt32.toNat = (4294967296 - (y.toUInt32.toNat * m) % 4294967296 + x.toUInt32.toNat) % 4294967296 := by
  show (x - y * N32 m).toBitVec.toNat = _
  rw [Int32.toBitVec_sub, Int32.toBitVec_mul, BitVec.toNat_sub, BitVec.toNat_mul, n_bv, BitVec.toNat_ofNat]
  show (4294967296 - y.toUInt32.toNat * (m % 4294967296) % 4294967296 + x.toUInt32.toNat) % 4294967296 = _
  rw [Nat.mul_mod y.toUInt32.toNat (m % 4294967296), Nat.mod_mod, ← Nat.mul_mod]
theorem by_cnt (x : Int32) : by_be (x - x / (65536 : Int32) * (65536 : Int32)) 2 = by_be x 2 := by
  apply by_2_eq
  rw [show (65536 : Int32) = N32 65536 from rfl, n_submul]
  have := x.toUInt32.toNat_lt
  omega
theorem or_49152 (a : Nat) : (49152 ||| a) % 65536 = 49152 + a % 16384 := by
  have h2 : 49152 + a % 16384 = 49152 ||| a % 16384 := by
    have := Nat.two_pow_add_eq_or_of_lt (i := 14) (b := a % 16384) (Nat.mod_lt _ (by decide)) 3
    omega
  rw [h2]
  apply Nat.eq_of_testBit_eq
  intro i
  rw [show (65536 : Nat) = 2 ^ 16 from rfl, Nat.testBit_mod_two_pow, Nat.testBit_or, Nat.testBit_or, show (16384 : Nat) = 2 ^ 14 from rfl, Nat.testBit_mod_two_pow]
  by_cases h14 : i < 14
  · simp [h14, show i < 16 by omega]
  · by_cases h16 : i < 16
    · have : i = 14 ∨ i = 15 := by omega
      rcases this with e | e
      · subst e
        have h : Nat.testBit 49152 14 = true := by decide
        rw [h]
        simp
      · subst e
        have h : Nat.testBit 49152 15 = true := by decide
        rw [h]
        simp
    · simp only [h16, h14, decide_false, Bool.false_and, Bool.or_false]
      have : (49152 : Nat) < 2 ^ i := Nat.lt_of_lt_of_le (by decide) (Nat.pow_le_pow_right (by decide) (show 16 ≤ i by omega))
      rw [Nat.testBit_lt_two_pow this]
theorem by_seq (x : Int32) : by_be ((49152 : Int32) ||| (x - x / (16384 : Int32) * (16384 : Int32))) 2 = by_be ((49152 : Int32) ||| (x &&& 16383)) 2 := by
  have hor : ∀ y : Int32, ((49152 : Int32) ||| y).toUInt32.toNat % 65536 = 49152 + y.toUInt32.toNat % 16384 := by
    intro y
    rw [← or_49152, ← n_ofU y, show (49152 : Int32) = N32 49152 from rfl, n_or, n_un, n_un]
    have := y.toUInt32.toNat_lt
    have h3 : (49152 ||| y.toUInt32.toNat) < 4294967296 := Nat.or_lt_two_pow (n := 32) (by decide) this
    rw [Nat.mod_eq_of_lt this, Nat.mod_eq_of_lt h3]
  apply by_2_eq
  rw [hor, hor]
  have e : (x &&& 16383).toUInt32.toNat % 16384 = x.toUInt32.toNat % 16384 := by
    have : x &&& (16383 : Int32) = N32 (x.toUInt32.toNat % 2 ^ 14) := n_mask x 14
    rw [this, n_un]
    omega
  rw [e, show (16384 : Int32) = N32 16384 from rfl, n_submul]
  have := x.toUInt32.toNat_lt
  omega
