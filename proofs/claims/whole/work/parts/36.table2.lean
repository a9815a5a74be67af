-- ===== Table: a new line, a line taken away =====
/-- how many lines stand ahead of an id -/
def tb_pos (ls : List (Nat → Int32)) (id : Int32) : Nat := (ls.takeWhile (fun f => decide (f 0 < id))).length
def tb_ins (ls : List (Nat → Int32)) (p : Nat) (id : Int32) : List (Nat → Int32) := ls.take p ++ (fun j => if j = 0 then id else 0) :: ls.drop p
theorem tb_fill {S : ob_S} {a b most w p n0 : Nat} {id : Int32} {D : ob_D} (h1 : D.2.1 a 2 = b) (h2 : b ≠ 0) (h3 : a ≠ b) (h4 : S.2.1 b = most * w) (h5 : most * w ≤ 100000) (h6 : 0 < w) (h8 : D.1 a 1 = N32 w) (hp : p < most) : ∀ (d n k : Nat) (g : Nat → Int32), k + d = w → d < n → ∃ g', f_Table_add_L99 S n a id (N32 p) (N32 k) (ob_wb D b g) = some (N32 p, ob_wb D b g') ∧ ∀ q, g' q = if p * w + k ≤ q ∧ q < p * w + w then (if q = p * w then id else 0) else g q := by
  have hm := tb_most h5 h6
  have hwm : w ≤ most * w := Nat.le_mul_of_pos_left w (by omega)
  intro d
  induction d with
  | zero =>
    intro n k g hk hn
    match n, hn with
    | n + 1, _ =>
      refine ⟨g, ?_, fun q => by rw [if_neg (by omega)]⟩
      rw [f_Table_add_L99, if_pos (by rw [ob_wb_ne D g 1 h3, h8, nb_le (by omega) (by omega)]; omega)]
  | succ d ih =>
    intro n k g hk hn
    match n, hn with
    | n + 1, hn =>
      have hlt : p * w + k < most * w := tb_lt hp (by omega)
      have e : N32 p * N32 w + N32 k = N32 (p * w + k) := by rw [nb_mul, nb_add]
      have ha : N32 k + (1 : Int32) = N32 (k + 1) := nb_add k 1
      have r1 : (ob_wb D b g).2.1 a 2 = b := h1
      obtain ⟨g', q1, q2⟩ := ih n (k + 1) (fun r => if r = p * w + k then (if k = 0 then id else 0) else g r) (by omega) (by omega)
      refine ⟨g', ?_, fun q => ?_⟩
      · rw [f_Table_add_L99, if_neg (by rw [ob_wb_ne D g 1 h3, h8, nb_le (by omega) (by omega)]; omega), if_pos (by rw [r1]; exact h2)]
        by_cases hk0 : k = 0
        · subst hk0
          rw [if_pos (show N32 0 = 0 from rfl), if_pos (by rw [ob_wb_ne D g 1 h3, h8, e, r1, h4, nb_in (by omega)]; exact hlt)]
          simp only [ob_lt, ob_wb_ne D g 1 h3, h8, e, r1, nb_clamp (show p * w + 0 < 2147483648 by omega), ob_wb_pI, ha]
          simpa using q1
        · rw [if_neg (by rw [show (0 : Int32) = N32 0 from rfl, nb_eq (by omega) (by omega)]; exact hk0), if_pos (by rw [ob_wb_ne D g 1 h3, h8, e, r1, h4, nb_in (by omega)]; exact hlt)]
          simp only [ob_lt, ob_wb_ne D g 1 h3, h8, e, r1, nb_clamp (show p * w + k < 2147483648 by omega), ob_wb_pI, ha]
          simpa [hk0] using q1
      · rw [q2 q]
        (repeat' split) <;> first | rfl | (exfalso; omega)
theorem nb_pred (k : Nat) : N32 (k + 1) - (1 : Int32) = N32 k := by rw [nb_1, nb_sub (by omega)]; rfl
theorem nb_predlt {k m : Nat} (hk : k ≤ 2147483648) (hm : m < 2147483648) : (N32 k - (1 : Int32) < N32 m) = (k ≤ m) := by
  match k with
  | 0 =>
    rw [eq_iff_iff, Int32.lt_iff_toInt_lt, nb_toInt hm]
    have : (N32 0 - (1 : Int32)).toInt = -1 := by decide
    rw [this]
    omega
  | k + 1 =>
    rw [nb_pred, nb_lt (by omega) hm]
    rw [eq_iff_iff]
    omega
theorem tb_shift {S : ob_S} {a b most w p sz : Nat} {id : Int32} {D : ob_D} (h1 : D.2.1 a 2 = b) (h2 : b ≠ 0) (h3 : a ≠ b) (h4 : S.2.1 b = most * w) (h5 : most * w ≤ 100000) (h6 : 0 < w) (h8 : D.1 a 1 = N32 w) (h9 : D.1 a 3 = N32 sz) (hsz : sz < most) (hp : p ≤ sz) : ∀ (d n k : Nat) (g : Nat → Int32), p * w + d = k → k ≤ sz * w → d < n → ∃ g', f_Table_add_L54 S n a id (N32 p) (N32 k - 1) (ob_wb D b g) = some (N32 p, ob_pI (ob_wb D b g') a 3 (N32 (sz + 1))) ∧ ∀ q, g' q = if p * w ≤ q ∧ q < p * w + w then (if q = p * w then id else 0) else if p * w + w ≤ q ∧ q < k + w then g (q - w) else g q := by
  have hm := tb_most h5 h6
  have hsw : sz * w + w ≤ most * w := by
    have : (sz + 1) * w ≤ most * w := Nat.mul_le_mul_right w hsz
    rw [Nat.succ_mul] at this
    exact this
  have hpw : p * w ≤ sz * w := Nat.mul_le_mul_right w hp
  intro d
  induction d with
  | zero =>
    intro n k g hk hkz hn
    match n, hn with
    | n + 1, _ =>
      have hsw3 : ob_pI (ob_wb D b g) a 3 (N32 (sz + 1)) = ob_wb (ob_pI D a 3 (N32 (sz + 1))) b g := by
        unfold ob_pI ob_wb
        congr 1
        funext y r
        by_cases hy : y = b
        · subst hy; simp [Ne.symm h3]
        · simp [hy]
      obtain ⟨g', q1, q2⟩ := tb_fill (S := S) (a := a) (b := b) (most := most) (w := w) (p := p) (n0 := 0) (id := id) (D := ob_pI D a 3 (N32 (sz + 1))) h1 h2 h3 h4 h5 h6 (by simp [ob_pI, h8]) (by omega) w ob_FU 0 g (by omega) (by rw [ob_FU_eq]; have : w ≤ most * w := Nat.le_mul_of_pos_left w (by omega); omega)
      refine ⟨g', ?_, fun q => ?_⟩
      · have e3 : (ob_wb D b g).1 a 3 + (1 : Int32) = N32 (sz + 1) := by rw [ob_wb_ne D g 3 h3, h9]; exact nb_add sz 1
        rw [f_Table_add_L54, if_pos (by rw [ob_wb_ne D g 1 h3, h8, nb_mul, nb_predlt (by omega) (by omega)]; omega)]
        simp only [ob_lt, e3, hsw3]
        have hsw4 : ob_pI (ob_wb D b g') a 3 (N32 (sz + 1)) = ob_wb (ob_pI D a 3 (N32 (sz + 1))) b g' := by
          unfold ob_pI ob_wb
          congr 1
          funext y r
          by_cases hy : y = b
          · subst hy; simp [Ne.symm h3]
          · simp [hy]
        rw [hsw4]
        exact q1
      · rw [q2 q]
        (repeat' split) <;> first | rfl | (exfalso; omega)
  | succ d ih =>
    intro n k g hk hkz hn
    match n, hn with
    | n + 1, hn =>
      have hk1 : k = (k - 1) + 1 := by omega
      have r1 : (ob_wb D b g).2.1 a 2 = b := h1
      have ek : N32 k - (1 : Int32) = N32 (k - 1) := by rw [hk1, nb_pred]; rfl
      have e1 : N32 (k - 1) + N32 w = N32 (k - 1 + w) := nb_add _ _
      have e2 : N32 (k - 1) + (-1 : Int32) = N32 (k - 1) - 1 := by rw [Int32.sub_eq_add_neg]
      obtain ⟨g', q1, q2⟩ := ih n (k - 1) (fun r => if r = k - 1 + w then g (k - 1) else g r) (by omega) (by omega) (by omega)
      refine ⟨g', ?_, fun q => ?_⟩
      · rw [f_Table_add_L54, if_neg (by rw [ob_wb_ne D g 1 h3, h8, nb_mul, nb_predlt (by omega) (by omega)]; omega), if_pos (by rw [r1]; exact h2), if_pos (by rw [r1]; exact h2), if_pos (by rw [ek, r1, h4, nb_in (by omega)]; omega), if_pos (by rw [ek, ob_wb_ne D g 1 h3, h8, e1, r1, h4, nb_in (by omega)]; omega)]
        simp only [ob_lt, ek, ob_wb_ne D g 1 h3, h8, e1, e2, r1, nb_clamp (show k - 1 < 2147483648 by omega), nb_clamp (show k - 1 + w < 2147483648 by omega), ob_wb_b, ob_wb_pI]
        exact q1
      · rw [q2 q]
        (repeat' split) <;> first | rfl | (exfalso; omega) | (congr 1; omega)
