-- ===== numbers in bytes, the check =====
/-- the number in c bytes from f on, as a natural number -/
def nn (l : List Nat) (f : Nat) : Nat → Nat
  | 0 => 0
  | c + 1 => nn l f c * 256 + l.getD (f + c) 0
theorem n_or_add (a b : Nat) (hb : b < 256) : a * 256 ||| b = a * 256 + b := by
  have := Nat.shiftLeft_add_eq_or_of_lt (show b < 2 ^ 8 from hb) a
  rw [Nat.shiftLeft_eq] at this
  exact this.symm
theorem nn_num {l : List Nat} (h : ∀ x ∈ l, x < 256) (f : Nat) : ∀ c, by_num l f c = N32 (nn l f c)
  | 0 => rfl
  | c + 1 => by
    rw [by_num, nn_num h f c, show (8 : Int32) = N32 8 from rfl, n_shl _ 8 (by decide), n_or, n_or_add _ _ (by_getD_lt h _)]
    rfl
theorem nn_1 (l : List Nat) (f : Nat) : nn l f 1 = l.getD f 0 := by
  show 0 * 256 + l.getD (f + 0) 0 = _
  simp
theorem nn_2 (l : List Nat) (f : Nat) : nn l f 2 = l.getD f 0 * 256 + l.getD (f + 1) 0 := by
  show nn l f 1 * 256 + _ = _
  rw [nn_1]
theorem nn_4 (l : List Nat) (f : Nat) : nn l f 4 = nn l f 2 * 65536 + nn l (f + 2) 2 := by
  show (nn l f 2 * 256 + l.getD (f + 2) 0) * 256 + l.getD (f + 3) 0 = _
  rw [nn_2 l (f + 2), show f + 2 + 1 = f + 3 from rfl]
  omega
theorem nn_lt {l : List Nat} (h : ∀ x ∈ l, x < 256) (f : Nat) : ∀ c, nn l f c < 256 ^ c
  | 0 => Nat.zero_lt_one
  | c + 1 => by
    have h1 := nn_lt h f c
    have h2 := by_getD_lt h (f + c)
    rw [nn, Nat.pow_succ]
    omega
theorem rw_num {S : ob_S} {D : ob_D} {a b cap : Nat} {l : List Nat} (h : rw_at S D a b cap l) {f c : Nat} (hc : c < 1000) (hf : f + c < 2147483647) : f_Row_number S a (N32 f) (N32 c) D = some (N32 (nn l f c), D) := by
  rw [rw_number h hc hf, nn_num h.2.2.2.2.2.2.2.2]
def cr_d (c : Nat) : Nat := cond (Nat.ble 32768 c) ((2 * c) ^^^ 69665) (2 * c)
theorem cr_d_if (c : Nat) : cr_d c = if 2 * c < 65536 then 2 * c else (2 * c) ^^^ 69665 := by
  unfold cr_d
  by_cases h : 32768 ≤ c
  · rw [Nat.ble_eq_true_of_le h, if_neg (by omega)]
    rfl
  · rw [show Nat.ble 32768 c = false from Bool.eq_false_iff.mpr (fun e => h (Nat.le_of_ble_eq_true e)), if_pos (by omega)]
    rfl
def cr_8 (c : Nat) : Nat := cr_d (cr_d (cr_d (cr_d (cr_d (cr_d (cr_d (cr_d c)))))))
def cr_s (c b : Nat) : Nat := cr_8 (c ^^^ (b * 256))
def cr_f (l : List Nat) : Nat := l.foldl cr_s 65535
theorem cr_d_lt {c : Nat} (h : c < 65536) : cr_d c < 65536 := by
  rw [cr_d_if]
  split
  · assumption
  · have h1 : 2 * c < 2 ^ 17 := by omega
    have h2 : (2 * c) ^^^ 69665 < 2 ^ 17 := Nat.xor_lt_two_pow h1 (by decide)
    have h3 : ((2 * c) ^^^ 69665).testBit 16 = false := by
      rw [Nat.testBit_xor, Nat.testBit_eq_decide_div_mod_eq, Nat.testBit_eq_decide_div_mod_eq]
      have : 2 * c / 2 ^ 16 % 2 = 1 := by omega
      rw [this]
      decide
    apply Decidable.byContradiction
    intro h4
    have h5 : ((2 * c) ^^^ 69665).testBit 16 = true := by
      rw [Nat.testBit_eq_decide_div_mod_eq]
      have : ((2 * c) ^^^ 69665) / 2 ^ 16 % 2 = 1 := by
        generalize (2 * c) ^^^ 69665 = z at *
        omega
      rw [this]
      decide
    rw [h3] at h5
    cases h5
theorem cr_8_lt {c : Nat} (h : c < 65536) : cr_8 c < 65536 := by unfold cr_8; exact cr_d_lt (cr_d_lt (cr_d_lt (cr_d_lt (cr_d_lt (cr_d_lt (cr_d_lt (cr_d_lt h)))))))
theorem cr_s_lt {c b : Nat} (h : c < 65536) (hb : b < 256) : cr_s c b < 65536 := by unfold cr_s; exact cr_8_lt (Nat.xor_lt_two_pow (n := 16) h (by omega))
theorem cr_fold_lt (l : List Nat) : ∀ (c : Nat), c < 65536 → (∀ x ∈ l, x < 256) → l.foldl cr_s c < 65536 := by
  induction l with
  | nil => intro c h _; exact h
  | cons b l ih =>
    intro c h hl
    rw [List.foldl_cons]
    have h1 := cr_s_lt h (hl b List.mem_cons_self)
    generalize cr_s c b = z at *
    exact ih z h1 (fun x hx => hl x (List.mem_cons_of_mem _ hx))
theorem cr_f_lt {l : List Nat} (h : ∀ x ∈ l, x < 256) : cr_f l < 65536 := cr_fold_lt l 65535 (by decide) h
/-- the class's step, in natural numbers; x is the byte beside the check's high one -/
def cr_k (x l : Nat) : Nat := ((l * 256) ^^^ ((x ^^^ (x / 16)) * 4096) ^^^ ((x ^^^ (x / 16)) * 32) ^^^ (x ^^^ (x / 16))) % 65536
theorem cr_all : ((List.range 256).all fun x => (List.range 256).all fun l => Nat.beq (cr_8 (x * 256 + l)) (cr_k x l)) = true := by decide +kernel
theorem cr_eq {x l : Nat} (hx : x < 256) (hl : l < 256) : cr_8 (x * 256 + l) = cr_k x l := by
  have := List.all_eq_true.mp cr_all x (List.mem_range.mpr hx)
  exact Nat.eq_of_beq_eq_true (List.all_eq_true.mp this l (List.mem_range.mpr hl))
theorem cr_split {c b : Nat} (hc : c < 65536) (hb : b < 256) : c ^^^ (b * 256) = ((c / 256) ^^^ b) * 256 + c % 256 := by
  have h1 : c = (c / 256) * 256 + c % 256 := by omega
  have h2 : ((c / 256) ^^^ b) * 256 + c % 256 = ((c / 256) ^^^ b) * 256 ||| c % 256 := (n_or_add _ _ (Nat.mod_lt _ (by decide))).symm
  rw [h2]
  conv => lhs; rw [h1]
  rw [← n_or_add (c / 256) (c % 256) (Nat.mod_lt _ (by decide))]
  apply Nat.eq_of_testBit_eq
  intro i
  have e : ∀ z : Nat, z * 256 = z <<< 8 := fun z => by rw [Nat.shiftLeft_eq]
  rw [Nat.testBit_xor, Nat.testBit_or, Nat.testBit_or, e, e, e, Nat.testBit_shiftLeft, Nat.testBit_shiftLeft, Nat.testBit_shiftLeft, Nat.testBit_xor]
  by_cases hi : 8 ≤ i
  · have hz : (c % 256).testBit i = false := Nat.testBit_lt_two_pow (Nat.lt_of_lt_of_le (Nat.mod_lt _ (by decide)) (show 2 ^ 8 ≤ 2 ^ i from Nat.pow_le_pow_right (by decide) hi))
    simp [hi, hz]
  · simp [hi]
theorem cr_mod_xor (a b : Nat) : (a ^^^ b) % 65536 = (a % 65536) ^^^ (b % 65536) := by
  rw [show (65536 : Nat) = 2 ^ 16 from rfl, Nat.xor_mod_two_pow]
theorem ck_step {c b : Nat} (hc : c < 65536) (hb : b < 256) : ck_c (N32 c) (N32 b) = N32 (cr_s c b) := by
  have hx : (c / 256) ^^^ b < 256 := Nat.xor_lt_two_pow (n := 8) (by omega) (by omega)
  unfold ck_c
  simp only [ob_lt]
  rw [show (8 : Int32) = N32 8 from rfl, show (4 : Int32) = N32 4 from rfl, show (12 : Int32) = N32 12 from rfl, show (5 : Int32) = N32 5 from rfl]
  rw [n_ushr c 8 (by omega) (by decide), n_xor, show c / 2 ^ 8 = c / 256 from rfl]
  rw [n_ushr _ 4 (by omega) (by decide), n_xor]
  rw [n_shl _ 8 (by decide), n_shl _ 12 (by decide), n_shl _ 5 (by decide), n_xor, n_xor, n_xor, n_65535]
  unfold cr_s
  rw [cr_split hc hb, cr_eq hx (Nat.mod_lt _ (by decide))]
  unfold cr_k
  rw [show c * 2 ^ 8 = c * 256 from rfl, show (2 : Nat) ^ 4 = 16 from rfl, show (2 : Nat) ^ 12 = 4096 from rfl, show (2 : Nat) ^ 5 = 32 from rfl]
  refine congrArg N32 ?_
  generalize (c / 256 ^^^ b) ^^^ (c / 256 ^^^ b) / 16 = z
  simp only [cr_mod_xor]
  rw [show c % 256 * 256 % 65536 = c * 256 % 65536 by omega]
theorem ck_fold {l : List Nat} (h : ∀ x ∈ l, x < 256) (f : Nat) : ∀ k, f + k ≤ l.length → ck_l l f k = N32 (cr_f ((l.drop f).take k))
  | 0, _ => rfl
  | k + 1, hk => by
    rw [ck_l, ck_fold h f k (by omega), ck_step (cr_f_lt (fun x hx => h x (List.mem_of_mem_drop (List.mem_of_mem_take hx)))) (by_getD_lt h _), by_take_succ (by omega)]
    unfold cr_f
    rw [List.foldl_append]
    rfl
theorem rw_crc {S : ob_S} {D : ob_D} {a b cap : Nat} {l : List Nat} (h : rw_at S D a b cap l) {f c : Nat} (hf : f + c ≤ l.length) : f_Row_check S a (N32 f) (N32 c) D = some (N32 (cr_f ((l.drop f).take c)), D) := by
  have h6 := h.2.2.2.2.2.1
  have h7 := h.2.2.2.2.2.2.1
  rw [rw_check h (by omega) (by omega), ck_fold h.2.2.2.2.2.2.2.2 f c hf]
-- ===== bytes in the reference's arrays =====
/-- from place o on the array b holds the bytes l -/
def ba (D : ob_D) (b o : Nat) (l : List Nat) : Prop := (∀ i, i < l.length → D.1 b (o + i) = sb (l.getD i 0)) ∧ ∀ x ∈ l, x < 256
theorem ba_two {S : ob_S} {D : ob_D} {b o : Nat} {l : List Nat} (h : ba D b o l) (hS : o + l.length ≤ S.2.1 b) (hn : S.2.1 b ≤ 100000) {i : Nat} (hi : i + 2 ≤ l.length) : f_Model_two S b (N32 (o + i)) D = some (N32 (nn l i 2), D) := by
  have e : N32 (o + i) + (1 : Int32) = N32 (o + i + 1) := nb_add _ 1
  rw [f_Model_two, e, if_pos (by rw [nb_in (by omega)]; omega), if_pos (by rw [nb_in (by omega)]; omega), nb_clamp (by omega), nb_clamp (by omega), h.1 i (by omega), show o + i + 1 = o + (i + 1) by omega, h.1 (i + 1) (by omega), sb_255 (by_getD_lt h.2 _), sb_255 (by_getD_lt h.2 _), show (256 : Int32) = N32 256 from rfl, nb_mul, nb_add, nn_2]
theorem ba_four {S : ob_S} {D : ob_D} {b o : Nat} {l : List Nat} (h : ba D b o l) (hS : o + l.length ≤ S.2.1 b) (hn : S.2.1 b ≤ 100000) {i : Nat} (hi : i + 4 ≤ l.length) : f_Model_four S b (N32 (o + i)) D = some (N32 (nn l i 4), D) := by
  have e : N32 (o + i) + (2 : Int32) = N32 (o + (i + 2)) := nb_add _ 2
  have h2 : nn l (i + 2) 2 < 65536 := nn_lt h.2 _ 2
  rw [f_Model_four, ba_two h hS hn (by omega)]
  simp only [ob_bd]
  rw [e, ba_two h hS hn (by omega)]
  simp only
  rw [show (16 : Int32) = N32 16 from rfl, n_shl _ 16 (by decide), n_or, nn_4]
  have := Nat.shiftLeft_add_eq_or_of_lt (show nn l (i + 2) 2 < 2 ^ 16 from h2) (nn l i 2)
  rw [Nat.shiftLeft_eq] at this
  rw [← this]
theorem mck_8 {S : ob_S} {k : Nat → Int32 → Int32 → Int32 → Int32 → ob_D → Option (Int32 × ob_D)} {D : ob_D} {b n : Nat} {o c i : Int32} {x : Nat} (hx : x < 65536) (hn : 9 ≤ n) : f_Model_check_L32 S k n b o c (N32 x) i 0 D = k b o c (N32 (cr_8 x)) (i + 1) D := by
  have st : ∀ (m j y : Nat), y < 65536 → j < 8 → f_Model_check_L32 S k (m + 1) b o c (N32 y) i (N32 j) D = f_Model_check_L32 S k m b o c (N32 (cr_d y)) i (N32 (j + 1)) D := by
    intro m j y hy hj
    have e : N32 j + (1 : Int32) = N32 (j + 1) := nb_add _ 1
    have e2 : N32 y * (2 : Int32) = N32 (2 * y) := by rw [show (2 : Int32) = N32 2 from rfl, nb_mul, Nat.mul_comm]
    rw [f_Model_check_L32, if_neg (by rw [show (8 : Int32) = N32 8 from rfl, nb_le (by decide) (by omega)]; omega), e, e2]
    rw [cr_d_if]
    by_cases h : 2 * y < 65536
    · rw [if_pos (by rw [show (65536 : Int32) = N32 65536 from rfl, nb_lt (by omega) (by decide)]; exact h), if_pos h]
    · rw [if_neg (by rw [show (65536 : Int32) = N32 65536 from rfl, nb_lt (by omega) (by decide)]; exact h), if_neg h, show (69665 : Int32) = N32 69665 from rfl, n_xor]
  match n, hn with
  | m + 9, _ =>
    show f_Model_check_L32 S k (m + 9) b o c (N32 x) i (N32 0) D = _
    rw [st _ 0 _ hx (by decide), st _ 1 _ (cr_d_lt hx) (by decide), st _ 2 _ (cr_d_lt (cr_d_lt hx)) (by decide), st _ 3 _ (cr_d_lt (cr_d_lt (cr_d_lt hx))) (by decide), st _ 4 _ (cr_d_lt (cr_d_lt (cr_d_lt (cr_d_lt hx)))) (by decide), st _ 5 _ (cr_d_lt (cr_d_lt (cr_d_lt (cr_d_lt (cr_d_lt hx))))) (by decide), st _ 6 _ (cr_d_lt (cr_d_lt (cr_d_lt (cr_d_lt (cr_d_lt (cr_d_lt hx)))))) (by decide), st _ 7 _ (cr_d_lt (cr_d_lt (cr_d_lt (cr_d_lt (cr_d_lt (cr_d_lt (cr_d_lt hx))))))) (by decide)]
    unfold cr_8
    rw [f_Model_check_L32, if_pos (by rw [show (8 : Int32) = N32 8 from rfl, nb_le (by decide) (by decide)]; decide)]
theorem ba_check_L {S : ob_S} {D : ob_D} {b o : Nat} {l : List Nat} (h : ba D b o l) (hS : o + l.length ≤ S.2.1 b) (hn : S.2.1 b ≤ 100000) {f c : Nat} (hf : f + c ≤ l.length) : ∀ (d n k : Nat), k + d = c → d < n → f_Model_check_L6 S n b (N32 (o + f)) (N32 c) (N32 (cr_f ((l.drop f).take k))) (N32 k) D = some (N32 (cr_f ((l.drop f).take c)), D) := by
  intro d
  induction d with
  | zero =>
    intro n k hk hn'
    match n, hn' with
    | n + 1, _ =>
      rw [f_Model_check_L6, if_pos (by rw [nb_le (by omega) (by omega)]; omega), show k = c by omega]
  | succ d ih =>
    intro n k hk hn'
    match n, hn' with
    | n + 1, hn' =>
      have e : N32 (o + f) + N32 k = N32 (o + f + k) := nb_add _ _
      have hc : cr_f ((l.drop f).take k) < 65536 := cr_f_lt (fun x hx => h.2 x (List.mem_of_mem_drop (List.mem_of_mem_take hx)))
      have hb := by_getD_lt h.2 (f + k)
      have e1 : N32 k + (1 : Int32) = N32 (k + 1) := nb_add _ 1
      rw [f_Model_check_L6, if_neg (by rw [nb_le (by omega) (by omega)]; omega), e, if_pos (by rw [nb_in (by omega)]; omega)]
      simp only [ob_lt]
      rw [nb_clamp (by omega), show o + f + k = o + (f + k) by omega, h.1 (f + k) (by omega), sb_255 hb, show (256 : Int32) = N32 256 from rfl, nb_mul, n_xor, mck_8 (Nat.xor_lt_two_pow (n := 16) hc (by omega)) (by rw [ob_FU_eq]; decide), e1]
      have e2 : cr_8 (cr_f ((l.drop f).take k) ^^^ l.getD (f + k) 0 * 256) = cr_f ((l.drop f).take (k + 1)) := by
        rw [by_take_succ (by omega)]
        unfold cr_f
        rw [List.foldl_append]
        show _ = cr_s _ _
        unfold cr_s
        rfl
      rw [e2]
      exact ih n (k + 1) (by omega) (by omega)
theorem ba_check {S : ob_S} {D : ob_D} {b o : Nat} {l : List Nat} (h : ba D b o l) (hS : o + l.length ≤ S.2.1 b) (hn : S.2.1 b ≤ 100000) {f c : Nat} (hf : f + c ≤ l.length) : f_Model_check S b (N32 (o + f)) (N32 c) D = some (N32 (cr_f ((l.drop f).take c)), D) := by
  rw [f_Model_check]
  exact ba_check_L h hS hn hf c ob_FU 0 (by omega) (by rw [ob_FU_eq]; omega)
