-- ===== counting bits, longs =====
def bcN (n : Nat) : Nat :=
  let x1 := n - ((n / 2) &&& 1431655765)
  let x2 := (x1 &&& 858993459) + ((x1 / 4) &&& 858993459)
  let x3 := (x2 + x2 / 16) &&& 252645135
  let x4 := x3 + x3 / 256
  let x5 := x4 + x4 / 65536
  x5 &&& 63
theorem bc_cls {S : ob_S} {D : ob_D} {n : Nat} (h : n < 65536) : f_Integer_bitCount S (N32 n) D = some (N32 (bcN n), D) := by
  have l1 : (n / 2) &&& 1431655765 ≤ n := Nat.le_trans Nat.and_le_left (Nat.div_le_self _ _)
  unfold f_Integer_bitCount bcN
  simp only [ob_lt]
  rw [show (1 : Int32) = N32 1 from rfl, show (2 : Int32) = N32 2 from rfl, show (4 : Int32) = N32 4 from rfl, show (8 : Int32) = N32 8 from rfl, show (16 : Int32) = N32 16 from rfl, show (1431655765 : Int32) = N32 1431655765 from rfl, show (858993459 : Int32) = N32 858993459 from rfl, show (252645135 : Int32) = N32 252645135 from rfl, show (63 : Int32) = N32 63 from rfl]
  rw [n_ushr n 1 (by omega) (by decide), n_and, show n / 2 ^ 1 = n / 2 from rfl, nb_sub l1]
  have h1 : n - (n / 2 &&& 1431655765) < 65536 := by omega
  generalize n - (n / 2 &&& 1431655765) = x1 at *
  rw [n_ushr x1 2 (by omega) (by decide), n_and, n_and, nb_add, show x1 / 2 ^ 2 = x1 / 4 from rfl]
  have h2 : (x1 &&& 858993459) + (x1 / 4 &&& 858993459) < 131072 := by
    have a1 : x1 &&& 858993459 ≤ x1 := Nat.and_le_left
    have a2 : x1 / 4 &&& 858993459 ≤ x1 / 4 := Nat.and_le_left
    omega
  generalize (x1 &&& 858993459) + (x1 / 4 &&& 858993459) = x2 at *
  rw [n_ushr x2 4 (by omega) (by decide), nb_add, n_and, show x2 / 2 ^ 4 = x2 / 16 from rfl]
  have h3 : x2 + x2 / 16 &&& 252645135 < 262144 := by
    have a1 : x2 + x2 / 16 &&& 252645135 ≤ x2 + x2 / 16 := Nat.and_le_left
    omega
  generalize x2 + x2 / 16 &&& 252645135 = x3 at *
  rw [n_ushr x3 8 (by omega) (by decide), nb_add, show x3 / 2 ^ 8 = x3 / 256 from rfl]
  have h4 : x3 + x3 / 256 < 524288 := by omega
  generalize x3 + x3 / 256 = x4 at *
  rw [n_ushr x4 16 (by omega) (by decide), nb_add, n_and, show x4 / 2 ^ 16 = x4 / 65536 from rfl]
/-- every row of so many bits behind n: the count is c and theirs -/
def bc_tree : Nat → Nat → Nat → Bool
  | 0, n, c => Nat.beq (bcN n) c
  | d + 1, n, c => bc_tree d (2 * n) c && bc_tree d (2 * n + 1) (c + 1)
theorem bc_tree_ok : ∀ (d n c : Nat), bc_tree d n c = true → ∀ l : List Bool, l.length = d → bcN (l.foldl (fun a b => 2 * a + b.toNat) n) = c + l.count true
  | 0, n, c, h, l, hl => by
    rw [List.length_eq_zero_iff.mp hl]
    exact Nat.eq_of_beq_eq_true h
  | d + 1, n, c, h, l, hl => by
    match l, hl with
    | b :: l, hl =>
      rw [bc_tree, Bool.and_eq_true] at h
      have hl' : l.length = d := by simpa using hl
      rw [List.foldl_cons]
      cases b
      · have := bc_tree_ok d _ _ h.1 l hl'
        simpa using this
      · have := bc_tree_ok d _ _ h.2 l hl'
        simp only [Bool.toNat_true, List.count_cons_self]
        omega
theorem bc_all : bc_tree 16 0 0 = true := by decide +kernel
theorem bc_bits {l : List Bool} (h : l.length = 16) : bcN (bn l) = l.count true := by
  have := bc_tree_ok 16 0 0 bc_all l h
  rw [Nat.zero_add] at this
  exact this
-- longs
theorem n64_bv (a : Nat) : (Int64.ofNat a).toBitVec = BitVec.ofNat 64 a := rfl
theorem n64_sh (k : Nat) (hk : k < 64) : ((N32 k).toInt64 &&& 63) = Int64.ofNat k := by
  have : ∀ j : Fin 64, ((N32 j.val).toInt64 &&& 63) = Int64.ofNat j.val := by decide +kernel
  exact this ⟨k, hk⟩
theorem n64_shl (a k : Nat) (hk : k < 64) : Int64.ofNat a <<< ((N32 k).toInt64 &&& 63) = Int64.ofNat (a * 2 ^ k) := by
  rw [n64_sh k hk]
  apply Int64.toBitVec_inj.mp
  rw [Int64.toBitVec_shiftLeft, n64_bv, n64_bv, n64_bv]
  apply BitVec.eq_of_toNat_eq
  have h1 : (BitVec.ofNat 64 k).smod 64 = BitVec.ofNat 64 k := by
    have : ∀ j : Fin 64, (BitVec.ofNat 64 j.val).smod 64 = BitVec.ofNat 64 j.val := by decide +kernel
    exact this ⟨k, hk⟩
  rw [h1, BitVec.shiftLeft_eq', BitVec.toNat_shiftLeft, BitVec.toNat_ofNat, BitVec.toNat_ofNat, BitVec.toNat_ofNat, Nat.mod_eq_of_lt (show k < 2 ^ 64 by omega), Nat.shiftLeft_eq, Nat.mod_mul_mod]
theorem n64_or (a b : Nat) : Int64.ofNat a ||| Int64.ofNat b = Int64.ofNat (a ||| b) := by
  apply Int64.toBitVec_inj.mp
  rw [Int64.toBitVec_or, n64_bv, n64_bv, n64_bv, BitVec.ofNat_or]
theorem n64_xor (a b : Nat) : Int64.ofNat a ^^^ Int64.ofNat b = Int64.ofNat (a ^^^ b) := by
  apply Int64.toBitVec_inj.mp
  rw [Int64.toBitVec_xor, n64_bv, n64_bv, n64_bv, BitVec.ofNat_xor]
theorem n64_ushr (a k : Nat) (ha : a < 2 ^ 64) (hk : k < 64) : (((Int64.ofNat a).toUInt64 >>> ((N32 k).toInt64.toUInt64 &&& Int64.toUInt64 63)).toInt64).toInt32 = N32 (a / 2 ^ k) := by
  have e2 : ((N32 k).toInt64.toUInt64 &&& Int64.toUInt64 63).toNat = k := by
    have : ∀ j : Fin 64, ((N32 j.val).toInt64.toUInt64 &&& Int64.toUInt64 63).toNat = j.val := by decide +kernel
    exact this ⟨k, hk⟩
  have e3 : ((Int64.ofNat a).toUInt64 >>> ((N32 k).toInt64.toUInt64 &&& Int64.toUInt64 63)).toNat = a / 2 ^ k := by
    rw [UInt64.toNat_shiftRight, e2, show (Int64.ofNat a).toUInt64.toNat = a % 2 ^ 64 from rfl, Nat.mod_eq_of_lt hk, Nat.mod_eq_of_lt ha, Nat.shiftRight_eq_div_pow]
  apply Int32.toBitVec_inj.mp
  rw [n_bv]
  apply BitVec.eq_of_toNat_eq
  show (BitVec.signExtend 32 _).toNat = _
  rw [BitVec.signExtend_eq_setWidth_of_le _ (by decide), BitVec.toNat_setWidth, BitVec.toNat_ofNat]
  show ((Int64.ofNat a).toUInt64 >>> ((N32 k).toInt64.toUInt64 &&& Int64.toUInt64 63)).toNat % _ = _
  rw [e3]
theorem n64_b (b : Bool) : (bI b).toInt64 = Int64.ofNat b.toNat := by cases b <;> rfl
theorem bn_byte {l : List Bool} (h : l.length = 64) {i : Nat} (hi : i < 8) : bn l / 2 ^ (56 - 8 * i) % 256 = bn ((l.drop (8 * i)).take 8) := by
  apply Nat.eq_of_testBit_eq
  intro j
  have hl : ((l.drop (8 * i)).take 8).length = 8 := by rw [List.length_take, List.length_drop]; omega
  rw [bn_tb, hl, show (256 : Nat) = 2 ^ 8 from rfl, Nat.testBit_mod_two_pow, ← Nat.shiftRight_eq_div_pow, Nat.testBit_shiftRight, bn_tb, h]
  by_cases hj : j < 8
  · rw [if_pos hj, if_pos (by omega)]
    simp only [hj, decide_true, Bool.true_and, List.getD_eq_getElem?_getD]
    rw [List.getElem?_take_of_lt (by omega), List.getElem?_drop]
    congr 2
    omega
  · simp [hj]
theorem bn_flip {l : List Bool} {k : Nat} (hk : k < l.length) : bn (bfl l k) = bn l ^^^ 2 ^ (l.length - 1 - k) := by
  apply Nat.eq_of_testBit_eq
  intro j
  have hl : (bfl l k).length = l.length := by unfold bfl; rw [List.length_set]
  rw [Nat.testBit_xor, bn_tb, bn_tb, hl, Nat.testBit_two_pow]
  by_cases hj : j < l.length
  · rw [if_pos hj, if_pos hj]
    unfold bfl
    simp only [List.getD_eq_getElem?_getD, List.getElem?_set]
    by_cases he : k = l.length - 1 - j
    · have e2 : l.length - 1 - k = j := by omega
      rw [if_pos he, if_pos hk, ← he, e2]
      simp
    · rw [if_neg he]
      have e2 : l.length - 1 - k ≠ j := by omega
      simp [e2]
  · rw [if_neg hj, if_neg hj]
    have e2 : l.length - 1 - k ≠ j := by omega
    simp [e2]
