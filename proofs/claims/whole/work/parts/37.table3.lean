theorem tb_ins_getD (ls : List (Nat → Int32)) {p i : Nat} (id : Int32) (hp : p ≤ ls.length) : (tb_ins ls p id).getD i tb_z = if i < p then ls.getD i tb_z else if i = p then (fun j => if j = 0 then id else 0) else ls.getD (i - 1) tb_z := by
  have hl : (ls.take p).length = p := by rw [List.length_take]; omega
  unfold tb_ins
  rw [List.getD_eq_getElem?_getD]
  by_cases h1 : i < p
  · rw [if_pos h1, List.getElem?_append_left (by omega), List.getElem?_take_of_lt h1, List.getD_eq_getElem?_getD]
  · rw [if_neg h1, List.getElem?_append_right (by omega), hl]
    by_cases h2 : i = p
    · subst h2; simp
    · rw [if_neg h2]
      have e : i - p = (i - 1 - p) + 1 := by omega
      rw [e, List.getElem?_cons_succ, List.getElem?_drop, List.getD_eq_getElem?_getD]
      congr 2
      omega
theorem tb_ins_len (ls : List (Nat → Int32)) {p : Nat} (id : Int32) (hp : p ≤ ls.length) : (tb_ins ls p id).length = ls.length + 1 := by
  unfold tb_ins
  rw [List.length_append, List.length_cons, List.length_take, List.length_drop]
  omega
theorem tb_pos_le (ls : List (Nat → Int32)) (id : Int32) : tb_pos ls id ≤ ls.length := (List.takeWhile_sublist _).length_le
theorem tb_add_L {S : ob_S} {D : ob_D} {a b most w : Nat} {ls : List (Nat → Int32)} (h : tb_at S D a b most w ls) (id : Int32) : ∀ (d n k : Nat), k + d = ls.length → d < n → f_Table_add_L11 S n a id (N32 k) D = f_Table_add_L54 S ob_FU a id (N32 (k + tb_pos (ls.drop k) id)) (N32 (ls.length * w) - 1) D := by
  obtain ⟨h1, h2, h3, h4, h5, h6, h7, h8, h9, h10, h11⟩ := h
  have hm := tb_most h5 h6
  intro d
  induction d with
  | zero =>
    intro n k hk hn
    match n, hn with
    | n + 1, _ =>
      rw [f_Table_add_L11, if_pos (by rw [h9, nb_le (by omega) (by omega)]; omega), List.drop_eq_nil_of_le (by omega), h9, h8, nb_mul]
      rfl
  | succ d ih =>
    intro n k hk hn
    match n, hn with
    | n + 1, hn =>
      have hkl : k < ls.length := by omega
      have hlt : k * w + 0 < most * w := tb_lt (by omega) h6
      have e : N32 k * N32 w + (0 : Int32) = N32 (k * w + 0) := by rw [nb_mul]; simp
      have ha : N32 k + (1 : Int32) = N32 (k + 1) := nb_add k 1
      have hv := h11 k hkl 0 h6
      have hdr : ls.drop k = ls.getD k tb_z :: ls.drop (k + 1) := by
        rw [List.drop_eq_getElem_cons hkl]
        simp [List.getD_eq_getElem?_getD, hkl]
      rw [f_Table_add_L11, if_neg (by rw [h9, nb_le (by omega) (by omega)]; omega), if_pos (by rw [h1]; exact h2), if_pos (by rw [h8, e, h1, h4, nb_in (by omega)]; exact hlt), h8, e, h1, nb_clamp (by omega), hv, hdr]
      by_cases hid : id ≤ (ls.getD k tb_z) 0
      · rw [if_pos hid, h9, nb_mul]
        have hz : tb_pos (ls.getD k tb_z :: ls.drop (k + 1)) id = 0 := by
          unfold tb_pos
          rw [List.takeWhile_cons_of_neg (by simpa using Int32.not_lt.mpr hid)]
          rfl
        rw [hz]
        rfl
      · rw [if_neg hid, ha, ih n (k + 1) (by omega) (by omega)]
        have hz : tb_pos (ls.getD k tb_z :: ls.drop (k + 1)) id = tb_pos (ls.drop (k + 1)) id + 1 := by
          unfold tb_pos
          rw [List.takeWhile_cons_of_pos (by simpa using Int32.not_le.mp hid)]
          rfl
        rw [hz, show k + 1 + tb_pos (ls.drop (k + 1)) id = k + (tb_pos (ls.drop (k + 1)) id + 1) by omega]
theorem tb_add {S : ob_S} {D : ob_D} {a b most w : Nat} {ls : List (Nat → Int32)} (h : tb_at S D a b most w ls) (id : Int32) (hr : ls.length < most) : ∃ D', f_Table_add S a id D = some (N32 (tb_pos ls id), D') ∧ tb_at S D' a b most w (tb_ins ls (tb_pos ls id) id) ∧ ob_ag (fun y => y = a ∨ y = b) D D' := by
  have hF := tb_isFull h
  rw [if_pos hr] at hF
  have hL := tb_add_L h id ls.length ob_FU 0 (by omega) (by rw [ob_FU_eq]; have := tb_most h.2.2.2.2.1 h.2.2.2.2.2.1; omega)
  obtain ⟨h1, h2, h3, h4, h5, h6, h7, h8, h9, h10, h11⟩ := h
  have hp := tb_pos_le ls id
  have hpw : tb_pos ls id * w ≤ ls.length * w := Nat.mul_le_mul_right w hp
  have hlw : ls.length * w ≤ most * w := Nat.mul_le_mul_right w h10
  obtain ⟨g', q1, q2⟩ := tb_shift (S := S) (a := a) (b := b) (most := most) (w := w) (p := tb_pos ls id) (sz := ls.length) (id := id) (D := D) h1 h2 h3 h4 h5 h6 h8 h9 hr hp (ls.length * w - tb_pos ls id * w) ob_FU (ls.length * w) (D.1 b) (by omega) (Nat.le_refl _) (by rw [ob_FU_eq]; omega)
  rw [ob_wb_self] at q1
  refine ⟨ob_pI (ob_wb D b g') a 3 (N32 (ls.length + 1)), ?_, ⟨h1, h2, h3, h4, h5, h6, by simp [ob_pI, ob_wb, h3, h7], by simp [ob_pI, ob_wb, h3, h8], ?_, ?_, fun i hi j hj => ?_⟩, ((ob_wb_ag D b g').mono (fun y hy => Or.inr hy)).tr (ob_ag.pI (Or.inl rfl))⟩
  · rw [f_Table_add, hF]
    simp only [ob_bd]
    rw [if_pos trivial]
    show f_Table_add_L11 S ob_FU a id (N32 0) D = _
    rw [hL, List.drop_zero, Nat.zero_add]
    exact q1
  · rw [tb_ins_len ls id hp]
    simp [ob_pI]
  · rw [tb_ins_len ls id hp]; omega
  · rw [tb_ins_len ls id hp] at hi
    have e1 : (ob_pI (ob_wb D b g') a 3 (N32 (ls.length + 1))).1 b (i * w + j) = g' (i * w + j) := by simp [ob_pI, ob_wb, Ne.symm h3]
    rw [e1, q2, tb_ins_getD ls id hp]
    by_cases c1 : i < tb_pos ls id
    · have hx : i * w + j < tb_pos ls id * w := tb_lt c1 hj
      rw [if_neg (by omega), if_neg (by omega), if_pos c1, h11 i (by omega) j hj]
    · rw [if_neg c1]
      by_cases c2 : i = tb_pos ls id
      · rw [if_pos (by rw [c2]; omega), if_pos c2]
        by_cases hj0 : j = 0
        · rw [if_pos (by rw [c2]; omega), if_pos hj0]
        · rw [if_neg (by rw [c2]; omega), if_neg hj0]
      · have hge : tb_pos ls id + 1 ≤ i := by omega
        have hm1 : (tb_pos ls id + 1) * w ≤ i * w := Nat.mul_le_mul_right w hge
        rw [Nat.succ_mul] at hm1
        have hx : (i - 1) * w + j < ls.length * w := tb_lt (by omega) hj
        have hiw : i * w = (i - 1) * w + w := by
          have : i = (i - 1) + 1 := by omega
          rw [this, Nat.succ_mul]
          simp
        rw [if_neg (by omega), if_pos (by omega), if_neg c2, ← h11 (i - 1) (by omega) j hj]
        rw [show i * w + j - w = (i - 1) * w + j by omega]
theorem tb_rem_L {S : ob_S} {a b most w m : Nat} {D : ob_D} (h1 : D.2.1 a 2 = b) (h2 : b ≠ 0) (h3 : a ≠ b) (h4 : S.2.1 b = most * w) (h5 : most * w ≤ 100000) (h6 : 0 < w) (h8 : D.1 a 1 = N32 w) (h9 : D.1 a 3 = N32 m) (hm : m + 1 ≤ most) : ∀ (d n k : Nat) (g : Nat → Int32), k + d = m * w → d < n → ∃ g', f_Table_remove_L30 S n a (N32 k) (ob_wb D b g) = some (ob_wb D b g') ∧ ∀ q, g' q = if k ≤ q ∧ q < m * w then g (q + w) else g q := by
  have hsw : m * w + w ≤ most * w := by
    have : (m + 1) * w ≤ most * w := Nat.mul_le_mul_right w hm
    rw [Nat.succ_mul] at this
    exact this
  intro d
  induction d with
  | zero =>
    intro n k g hk hn
    match n, hn with
    | n + 1, _ =>
      refine ⟨g, ?_, fun q => by rw [if_neg (by omega)]⟩
      rw [f_Table_remove_L30, if_pos (by rw [ob_wb_ne D g 3 h3, ob_wb_ne D g 1 h3, h8, h9, nb_mul, nb_le (by omega) (by omega)]; omega)]
  | succ d ih =>
    intro n k g hk hn
    match n, hn with
    | n + 1, hn =>
      have r1 : (ob_wb D b g).2.1 a 2 = b := h1
      have ha : N32 k + (1 : Int32) = N32 (k + 1) := nb_add k 1
      have e1 : N32 k + N32 w = N32 (k + w) := nb_add _ _
      obtain ⟨g', q1, q2⟩ := ih n (k + 1) (fun r => if r = k then g (k + w) else g r) (by omega) (by omega)
      refine ⟨g', ?_, fun q => ?_⟩
      · rw [f_Table_remove_L30, if_neg (by rw [ob_wb_ne D g 3 h3, ob_wb_ne D g 1 h3, h8, h9, nb_mul, nb_le (by omega) (by omega)]; omega), if_pos (by rw [r1]; exact h2), if_pos (by rw [r1]; exact h2), if_pos (by rw [ob_wb_ne D g 1 h3, h8, e1, r1, h4, nb_in (by omega)]; omega), if_pos (by rw [r1, h4, nb_in (by omega)]; omega)]
        simp only [ob_lt, ob_wb_ne D g 1 h3, h8, e1, r1, nb_clamp (show k < 2147483648 by omega), nb_clamp (show k + w < 2147483648 by omega), ob_wb_b, ob_wb_pI, ha]
        exact q1
      · rw [q2 q]
        (repeat' split) <;> first | rfl | (exfalso; omega) | (congr 1; omega)
theorem tb_remove {S : ob_S} {D : ob_D} {a b most w : Nat} {ls : List (Nat → Int32)} (h : tb_at S D a b most w ls) {p : Nat} (hp : p < ls.length) : ∃ D', f_Table_remove S a (N32 p) D = some D' ∧ tb_at S D' a b most w (ls.eraseIdx p) ∧ ob_ag (fun y => y = a ∨ y = b) D D' := by
  obtain ⟨h1, h2, h3, h4, h5, h6, h7, h8, h9, h10, h11⟩ := h
  have hm := tb_most h5 h6
  have hpw : p * w ≤ (ls.length - 1) * w := Nat.mul_le_mul_right w (by omega)
  have hlw : (ls.length - 1) * w ≤ most * w := Nat.mul_le_mul_right w (by omega)
  have e9 : N32 ls.length - (1 : Int32) = N32 (ls.length - 1) := by rw [nb_1, nb_sub (by omega)]
  obtain ⟨g', q1, q2⟩ := tb_rem_L (S := S) (a := a) (b := b) (most := most) (w := w) (m := ls.length - 1) (D := ob_pI D a 3 (N32 (ls.length - 1))) h1 h2 h3 h4 h5 h6 (by simp [ob_pI, h8]) (by simp [ob_pI]) (by omega) ((ls.length - 1) * w - p * w) ob_FU (p * w) ((ob_pI D a 3 (N32 (ls.length - 1))).1 b) (by omega) (by rw [ob_FU_eq]; omega)
  rw [ob_wb_self] at q1
  have hlen : (ls.eraseIdx p).length = ls.length - 1 := by rw [List.length_eraseIdx_of_lt hp]
  refine ⟨ob_wb (ob_pI D a 3 (N32 (ls.length - 1))) b g', ?_, ⟨h1, h2, h3, h4, h5, h6, by simp [ob_pI, ob_wb, h3, h7], by simp [ob_pI, ob_wb, h3, h8], by rw [hlen]; simp [ob_pI, ob_wb, h3], by omega, fun i hi j hj => ?_⟩, (ob_ag.pI (P := fun y => y = a ∨ y = b) (Or.inl rfl)).tr ((ob_wb_ag _ b g').mono (fun y hy => Or.inr hy))⟩
  · have k1 : (ob_pI D a 3 (N32 (ls.length - 1))).1 a 1 = N32 w := by simp [ob_pI, h8]
    rw [f_Table_remove, if_neg (by rw [nb_neg (by omega)]; exact id), if_pos (by rw [h9, nb_lt (by omega) (by omega)]; exact hp)]
    simp only [ob_lt, h9, e9, k1, nb_mul]
    exact q1
  · rw [hlen] at hi
    have k2 : ∀ q, (ob_pI D a 3 (N32 (ls.length - 1))).1 b q = D.1 b q := fun q => by simp [ob_pI, Ne.symm h3]
    have hx : i * w + j < (ls.length - 1) * w := tb_lt hi hj
    rw [ob_wb_b, q2]
    by_cases c1 : i < p
    · have hy : i * w + j < p * w := tb_lt c1 hj
      rw [if_neg (by omega), k2, h11 i (by omega) j hj]
      simp [List.getD_eq_getElem?_getD, List.getElem?_eraseIdx_of_lt c1]
    · have hpi : p * w ≤ i * w := Nat.mul_le_mul_right w (by omega)
      have hiw : (i + 1) * w + j = i * w + j + w := by rw [Nat.succ_mul]; omega
      rw [if_pos (by omega), k2, ← hiw, h11 (i + 1) (by omega) j hj]
      simp [List.getD_eq_getElem?_getD, List.getElem?_eraseIdx_of_ge (show p ≤ i by omega)]
