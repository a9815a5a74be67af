-- ===== numbers: an int that is a small natural number =====
abbrev N32 (n : Nat) : Int32 := Int32.ofNat n
theorem nb_toInt {n : Nat} (h : n < 2147483648) : (N32 n).toInt = (n : Int) := Int32.toInt_ofNat_of_lt h
theorem nb_lt {a b : Nat} (ha : a < 2147483648) (hb : b < 2147483648) : (N32 a < N32 b) = (a < b) := by
  rw [eq_iff_iff, Int32.lt_iff_toInt_lt, nb_toInt ha, nb_toInt hb]
  omega
theorem nb_le {a b : Nat} (ha : a < 2147483648) (hb : b < 2147483648) : (N32 a ≤ N32 b) = (a ≤ b) := by
  rw [eq_iff_iff, Int32.le_iff_toInt_le, nb_toInt ha, nb_toInt hb]
  omega
theorem nb_eq {a b : Nat} (ha : a < 2147483648) (hb : b < 2147483648) : (N32 a = N32 b) = (a = b) := by
  rw [eq_iff_iff]
  constructor
  · intro h
    have := congrArg Int32.toInt h
    rw [nb_toInt ha, nb_toInt hb] at this
    omega
  · intro h
    rw [h]
theorem nb_clamp {n : Nat} (h : n < 2147483648) : (N32 n).toNatClampNeg = n := Int32.toNatClampNeg_ofNat_of_lt h
theorem nb_neg {n : Nat} (h : n < 2147483648) : (N32 n < 0) = False := by
  rw [eq_iff_iff, iff_false, Int32.lt_iff_toInt_lt, nb_toInt h]
  simp
theorem nb_add (a b : Nat) : N32 a + N32 b = N32 (a + b) := (Int32.ofNat_add a b).symm
theorem nb_mul (a b : Nat) : N32 a * N32 b = N32 (a * b) := (Int32.ofNat_mul a b).symm
theorem nb_sub {a b : Nat} (h : b ≤ a) : N32 a - N32 b = N32 (a - b) := by
  have : N32 (a - b) + N32 b = N32 a := by rw [nb_add, Nat.sub_add_cancel h]
  rw [← this]
  simp
theorem nb_in {a n : Nat} (h : a < 2147483648) : ob_in (N32 a) n = (a < n) := by
  unfold ob_in
  rw [nb_neg h, nb_clamp h, false_or, Nat.not_le]
theorem nb_m1 (a : Nat) : N32 (a + 1) + (-1 : Int32) = N32 a := by
  have h : N32 (a + 1) = N32 a + 1 := (nb_add a 1).symm
  rw [h, Int32.add_assoc, show (1 : Int32) + -1 = 0 from rfl, Int32.add_zero]
theorem nb_0 : (0 : Int32) = N32 0 := rfl
theorem nb_1 : (1 : Int32) = N32 1 := rfl
theorem ob_FU_eq : ob_FU = 1000000 := rfl
