-- ===== bits of small numbers =====
theorem n_bv (a : Nat) : (N32 a).toBitVec = BitVec.ofNat 32 a := rfl
theorem n_and (a b : Nat) : N32 a &&& N32 b = N32 (a &&& b) := by
  apply Int32.toBitVec_inj.mp
  rw [Int32.toBitVec_and, n_bv, n_bv, n_bv, BitVec.ofNat_and]
theorem n_or (a b : Nat) : N32 a ||| N32 b = N32 (a ||| b) := by
  apply Int32.toBitVec_inj.mp
  rw [Int32.toBitVec_or, n_bv, n_bv, n_bv, BitVec.ofNat_or]
theorem n_xor (a b : Nat) : N32 a ^^^ N32 b = N32 (a ^^^ b) := by
  apply Int32.toBitVec_inj.mp
  rw [Int32.toBitVec_xor, n_bv, n_bv, n_bv, BitVec.ofNat_xor]
theorem n_mod (a : Nat) : N32 (a % 4294967296) = N32 a := by
  apply Int32.toBitVec_inj.mp
  rw [n_bv, n_bv]
  apply BitVec.eq_of_toNat_eq
  simp
theorem n_un (a : Nat) : (N32 a).toUInt32.toNat = a % 4294967296 := rfl
theorem n_ofU (x : Int32) : N32 x.toUInt32.toNat = x := by
  apply Int32.toBitVec_inj.mp
  rw [n_bv]
  apply BitVec.eq_of_toNat_eq
  rw [BitVec.toNat_ofNat]
  exact Nat.mod_eq_of_lt x.toBitVec.isLt
theorem n_shamt (k : Nat) (hk : k < 32) : (N32 k &&& 31) = N32 k := by
  rw [show (31 : Int32) = N32 31 from rfl, n_and, show (31 : Nat) = 2 ^ 5 - 1 from rfl, Nat.and_two_pow_sub_one_eq_mod, Nat.mod_eq_of_lt hk]
theorem n_shl (a k : Nat) (hk : k < 32) : N32 a <<< (N32 k &&& 31) = N32 (a * 2 ^ k) := by
  rw [n_shamt k hk]
  apply Int32.toBitVec_inj.mp
  rw [Int32.toBitVec_shiftLeft, n_bv, n_bv, n_bv]
  apply BitVec.eq_of_toNat_eq
  have h1 : (BitVec.ofNat 32 k).smod 32 = BitVec.ofNat 32 k := by
    have : ∀ j : Fin 32, (BitVec.ofNat 32 j.val).smod 32 = BitVec.ofNat 32 j.val := by decide
    exact this ⟨k, hk⟩
  rw [h1, BitVec.shiftLeft_eq', BitVec.toNat_shiftLeft, BitVec.toNat_ofNat, BitVec.toNat_ofNat, BitVec.toNat_ofNat, Nat.mod_eq_of_lt (show k < 2 ^ 32 by omega), Nat.shiftLeft_eq, Nat.mod_mul_mod]
theorem n_ushr (a k : Nat) (ha : a < 4294967296) (hk : k < 32) : ((N32 a).toUInt32 >>> ((N32 k).toUInt32 &&& Int32.toUInt32 31)).toInt32 = N32 (a / 2 ^ k) := by
  apply Int32.toBitVec_inj.mp
  rw [n_bv]
  apply BitVec.eq_of_toNat_eq
  have e2 : ((N32 k).toUInt32 &&& Int32.toUInt32 31).toNat = k := by
    rw [UInt32.toNat_and, n_un, show (Int32.toUInt32 31).toNat = 2 ^ 5 - 1 from rfl, Nat.and_two_pow_sub_one_eq_mod]
    omega
  show ((N32 a).toUInt32 >>> ((N32 k).toUInt32 &&& Int32.toUInt32 31)).toNat = _
  rw [UInt32.toNat_shiftRight, e2, n_un, Nat.mod_eq_of_lt hk, Nat.mod_eq_of_lt ha, Nat.shiftRight_eq_div_pow, BitVec.toNat_ofNat]
  exact (Nat.mod_eq_of_lt (Nat.lt_of_le_of_lt (Nat.div_le_self _ _) ha)).symm
theorem n_shr (a k : Nat) (ha : a < 2147483648) (hk : k < 32) : N32 a >>> (N32 k &&& 31) = N32 (a / 2 ^ k) := by
  rw [n_shamt k hk]
  apply Int32.toBitVec_inj.mp
  rw [Int32.toBitVec_shiftRight, n_bv, n_bv, n_bv]
  have h1 : (BitVec.ofNat 32 k).smod 32 = BitVec.ofNat 32 k := by
    have : ∀ j : Fin 32, (BitVec.ofNat 32 j.val).smod 32 = BitVec.ofNat 32 j.val := by decide
    exact this ⟨k, hk⟩
  have h2 : (BitVec.ofNat 32 a).msb = false := by
    rw [BitVec.msb_eq_decide]
    simp
    omega
  rw [h1, BitVec.sshiftRight_eq', BitVec.sshiftRight_eq_of_msb_false h2]
  apply BitVec.eq_of_toNat_eq
  rw [BitVec.toNat_ushiftRight, BitVec.toNat_ofNat, BitVec.toNat_ofNat, BitVec.toNat_ofNat, Nat.mod_eq_of_lt (show k < 2 ^ 32 by omega), Nat.mod_eq_of_lt (show a < 2 ^ 32 by omega), Nat.shiftRight_eq_div_pow]
  exact (Nat.mod_eq_of_lt (Nat.lt_of_le_of_lt (Nat.div_le_self _ _) (by omega))).symm
theorem n_div (a b : Nat) (ha : a < 2147483648) (hb : b < 2147483648) : N32 a / N32 b = N32 (a / b) := by
  apply Int32.toInt_inj.mp
  have hd : a / b < 2147483648 := Nat.lt_of_le_of_lt (Nat.div_le_self _ _) ha
  rw [Int32.toInt_div, nb_toInt ha, nb_toInt hb, nb_toInt hd]
  have : (a : Int).tdiv (b : Int) = ((a / b : Nat) : Int) := by
    rw [Int.natCast_ediv]
    exact Int.tdiv_eq_ediv_of_nonneg (by omega)
  rw [this]
  clear this
  generalize a / b = q at *
  rw [Int.bmod_eq_of_le] <;> omega
theorem n_rem (a b : Nat) (ha : a < 2147483648) (hb : b < 2147483648) : N32 a - N32 a / N32 b * N32 b = N32 (a % b) := by
  rw [n_div a b ha hb, nb_mul, nb_sub (Nat.div_mul_le_self a b)]
  congr 1
  have := Nat.div_add_mod a b
  rw [Nat.mul_comm] at this
  omega
theorem n_mask (x : Int32) (k : Nat) : x &&& N32 (2 ^ k - 1) = N32 (x.toUInt32.toNat % 2 ^ k) := by
  have h : x = N32 x.toUInt32.toNat := (n_ofU x).symm
  conv => lhs; rw [h]
  rw [n_and, Nat.and_two_pow_sub_one_eq_mod]
theorem n_mk (a k : Nat) : N32 a &&& N32 (2 ^ k - 1) = N32 (a % 2 ^ k) := by rw [n_and, Nat.and_two_pow_sub_one_eq_mod]
theorem n_255 (a : Nat) : N32 a &&& (255 : Int32) = N32 (a % 256) := n_mk a 8
theorem n_65535 (a : Nat) : N32 a &&& (65535 : Int32) = N32 (a % 65536) := n_mk a 16
theorem n_16383 (a : Nat) : N32 a &&& (16383 : Int32) = N32 (a % 16384) := n_mk a 14
theorem n_2047 (a : Nat) : N32 a &&& (2047 : Int32) = N32 (a % 2048) := n_mk a 11
theorem n_1023 (a : Nat) : N32 a &&& (1023 : Int32) = N32 (a % 1024) := n_mk a 10
theorem n_3 (a : Nat) : N32 a &&& (3 : Int32) = N32 (a % 4) := n_mk a 2
theorem n_15 (a : Nat) : N32 a &&& (15 : Int32) = N32 (a % 16) := n_mk a 4
theorem n_a1 (a : Nat) : N32 a &&& (1 : Int32) = N32 (a % 2) := n_mk a 1
/-- a byte as Java holds it -/
def sb (b : Nat) : Int32 := (N32 b).toInt8.toInt32
theorem sb_bv (b : Nat) : (sb b).toBitVec = (BitVec.ofNat 8 b).signExtend 32 := by
  show ((BitVec.ofNat 32 b).signExtend 8).signExtend 32 = _
  congr 1
  apply BitVec.eq_of_toNat_eq
  rw [BitVec.toNat_signExtend]
  simp [BitVec.toNat_setWidth]
theorem sb_255 {b : Nat} (h : b < 256) : sb b &&& (255 : Int32) = N32 b := by
  have : ∀ j : Fin 256, sb j.val &&& (255 : Int32) = N32 j.val := by decide +kernel
  exact this ⟨b, h⟩
theorem sb_of (x : Int32) : x.toInt8.toInt32 = sb (x.toUInt32.toNat % 256) := by
  have h : x = N32 x.toUInt32.toNat := (n_ofU x).symm
  apply Int32.toBitVec_inj.mp
  rw [sb_bv]
  show (x.toBitVec.signExtend 8).signExtend 32 = _
  congr 1
  apply BitVec.eq_of_toNat_eq
  rw [BitVec.signExtend_eq_setWidth_of_le _ (by decide)]
  simp
  rfl
theorem sb_sb (b : Nat) : (sb b).toInt8.toInt32 = sb b := by
  unfold sb
  congr 1
  simp
theorem sb_n (a : Nat) : (N32 a).toInt8.toInt32 = sb (a % 256) := by
  rw [sb_of, n_un]
  congr 1
  omega
theorem sb_inj {a b : Nat} (ha : a < 256) (hb : b < 256) : (sb a = sb b) = (a = b) := by
  rw [eq_iff_iff]
  refine ⟨fun h => ?_, fun h => by rw [h]⟩
  have : sb a &&& (255 : Int32) = sb b &&& (255 : Int32) := by rw [h]
  rw [sb_255 ha, sb_255 hb, nb_eq (by omega) (by omega)] at this
  exact this
theorem by_of0 (x : Int32) : x.toInt8.toInt32 = sb (by_of x 0) := by
  rw [sb_of]
  unfold by_of
  simp
theorem by_ofs (x : Int32) {j : Nat} (hj : j < 4) : (x >>> (N32 (8 * j) &&& 31)).toInt8.toInt32 = sb (by_of x j) := by
  rw [sb_of]
  congr 1
  unfold by_of
  rw [n_shamt _ (by omega)]
  have e : (x >>> N32 (8 * j)).toUInt32.toNat = (x.toBitVec.sshiftRight (8 * j)).toNat := by
    show (x >>> N32 (8 * j)).toBitVec.toNat = _
    rw [Int32.toBitVec_shiftRight, n_bv]
    have h1 : (BitVec.ofNat 32 (8 * j)).smod 32 = BitVec.ofNat 32 (8 * j) := by
      have : ∀ j : Fin 4, (BitVec.ofNat 32 (8 * j.val)).smod 32 = BitVec.ofNat 32 (8 * j.val) := by decide
      exact this ⟨j, hj⟩
    rw [h1, BitVec.sshiftRight_eq', BitVec.toNat_ofNat, Nat.mod_eq_of_lt (by omega)]
  rw [e]
  show _ = x.toBitVec.toNat >>> (8 * j) % 256
  apply Nat.eq_of_testBit_eq
  intro i
  rw [show (256 : Nat) = 2 ^ 8 from rfl, Nat.testBit_mod_two_pow, Nat.testBit_mod_two_pow, Nat.testBit_shiftRight]
  by_cases hi : i < 8
  · have hlt : 8 * j + i < 32 := by omega
    simp only [hi, decide_true, Bool.true_and]
    rw [← BitVec.getLsbD, ← BitVec.getLsbD, BitVec.getLsbD_sshiftRight]
    simp [hlt, show ¬ 32 ≤ i by omega]
  · simp [hi]
