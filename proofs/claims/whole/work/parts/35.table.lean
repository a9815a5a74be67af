-- ===== Table against a list of lines =====
/-- the memory with one array's ints replaced -/
def ob_wb (D : ob_D) (b : Nat) (g : Nat → Int32) : ob_D := (fun y q => if y = b then g q else D.1 y q, D.2)
theorem ob_wb_pI (D : ob_D) (b : Nat) (g : Nat → Int32) (q : Nat) (x : Int32) : ob_pI (ob_wb D b g) b q x = ob_wb D b (fun r => if r = q then x else g r) := by
  unfold ob_pI ob_wb
  congr 1
  funext y r
  by_cases hy : y = b
  · subst hy; simp
  · simp [hy]
theorem ob_wb_b (D : ob_D) (b : Nat) (g : Nat → Int32) (q : Nat) : (ob_wb D b g).1 b q = g q := if_pos rfl
theorem ob_wb_ne (D : ob_D) {b y : Nat} (g : Nat → Int32) (q : Nat) (h : y ≠ b) : (ob_wb D b g).1 y q = D.1 y q := if_neg h
theorem ob_wb_self (D : ob_D) (b : Nat) : ob_wb D b (D.1 b) = D := by
  unfold ob_wb
  obtain ⟨I, r⟩ := D
  congr 1
  funext y q
  by_cases hy : y = b
  · subst hy; simp
  · simp [hy]
theorem ob_wb_ag (D : ob_D) (b : Nat) (g : Nat → Int32) : ob_ag (fun y => y = b) D (ob_wb D b g) := ⟨rfl, fun _ _ hy => if_neg hy⟩
abbrev tb_z : Nat → Int32 := fun _ => 0
def tb_at (S : ob_S) (D : ob_D) (a b most w : Nat) (ls : List (Nat → Int32)) : Prop := D.2.1 a 2 = b ∧ b ≠ 0 ∧ a ≠ b ∧ S.2.1 b = most * w ∧ most * w ≤ 100000 ∧ 0 < w ∧ D.1 a 0 = N32 most ∧ D.1 a 1 = N32 w ∧ D.1 a 3 = N32 ls.length ∧ ls.length ≤ most ∧ ∀ i, i < ls.length → ∀ j, j < w → D.1 b (i * w + j) = (ls.getD i tb_z) j
theorem tb_at.kept {S : ob_S} {D D' : ob_D} {a b most w : Nat} {ls : List (Nat → Int32)} {P : Nat → Prop} (h : tb_at S D a b most w ls) (g : ob_ag P D D') (ha : ¬ P a) (hb : ¬ P b) : tb_at S D' a b most w ls := by
  obtain ⟨h1, h2, h3, h4, h5, h6, h7, h8, h9, h10, h11⟩ := h
  exact ⟨by rw [g.1]; exact h1, h2, h3, h4, h5, h6, by rw [g.2 a 0 ha]; exact h7, by rw [g.2 a 1 ha]; exact h8, by rw [g.2 a 3 ha]; exact h9, h10, fun i hi j hj => by rw [g.2 b _ hb]; exact h11 i hi j hj⟩
theorem tb_lt {w i j n : Nat} (hi : i < n) (hj : j < w) : i * w + j < n * w := by
  have : (i + 1) * w ≤ n * w := Nat.mul_le_mul_right w hi
  rw [Nat.succ_mul] at this
  omega
theorem tb_most {most w : Nat} (h5 : most * w ≤ 100000) (h6 : 0 < w) : most ≤ 100000 := Nat.le_trans (Nat.le_mul_of_pos_right most h6) h5
theorem tb_isFull {S : ob_S} {D : ob_D} {a b most w : Nat} {ls : List (Nat → Int32)} (h : tb_at S D a b most w ls) : f_Table_isFull S a D = some (if ls.length < most then 0 else 1, D) := by
  obtain ⟨h1, h2, h3, h4, h5, h6, h7, h8, h9, h10, h11⟩ := h
  have := tb_most h5 h6
  rw [f_Table_isFull, h9, h7]
  by_cases hl : ls.length < most
  · rw [if_pos (by rw [nb_lt (by omega) (by omega)]; exact hl), if_pos hl]
  · rw [if_neg (by rw [nb_lt (by omega) (by omega)]; exact hl), if_neg hl]
theorem tb_get {S : ob_S} {D : ob_D} {a b most w : Nat} {ls : List (Nat → Int32)} (h : tb_at S D a b most w ls) {i j : Nat} (hi : i < ls.length) (hj : j < w) : f_Table_get S a (N32 i) (N32 j) D = some ((ls.getD i tb_z) j, D) := by
  obtain ⟨h1, h2, h3, h4, h5, h6, h7, h8, h9, h10, h11⟩ := h
  have hm := tb_most h5 h6
  have hlt : i * w + j < most * w := tb_lt (by omega) hj
  have hwm : w ≤ most * w := Nat.le_mul_of_pos_left w (by omega)
  have e : N32 i * N32 w + N32 j = N32 (i * w + j) := by rw [nb_mul, nb_add]
  rw [f_Table_get, if_neg (by rw [nb_neg (by omega)]; exact id), if_neg (by rw [h9, nb_le (by omega) (by omega)]; omega), if_neg (by rw [nb_neg (by omega)]; exact id), if_neg (by rw [h8, nb_le (by omega) (by omega)]; omega), if_pos (by rw [h1]; exact h2), if_pos (by rw [h8, e, h1, h4, nb_in (by omega)]; exact hlt), h8, e, h1, nb_clamp (by omega), h11 i hi j hj]
/-- the lines with one number of one line changed -/
def tb_upd (ls : List (Nat → Int32)) (i j : Nat) (x : Int32) : List (Nat → Int32) := ls.set i (fun k => if k = j then x else (ls.getD i tb_z) k)
theorem tb_set {S : ob_S} {D : ob_D} {a b most w : Nat} {ls : List (Nat → Int32)} (h : tb_at S D a b most w ls) {i j : Nat} (x : Int32) (hi : i < ls.length) (hj : j < w) : ∃ D', f_Table_set S a (N32 i) (N32 j) x D = some D' ∧ tb_at S D' a b most w (tb_upd ls i j x) ∧ ob_ag (fun y => y = b) D D' := by
  obtain ⟨h1, h2, h3, h4, h5, h6, h7, h8, h9, h10, h11⟩ := h
  have hm := tb_most h5 h6
  have hlt : i * w + j < most * w := tb_lt (by omega) hj
  have hwm : w ≤ most * w := Nat.le_mul_of_pos_left w (by omega)
  have e : N32 i * N32 w + N32 j = N32 (i * w + j) := by rw [nb_mul, nb_add]
  refine ⟨ob_pI D b (i * w + j) x, ?_, ⟨h1, h2, h3, h4, h5, h6, by simp [ob_pI, h3, h7], by simp [ob_pI, h3, h8], by simp [ob_pI, h3, h9, tb_upd], by simpa [tb_upd] using h10, fun i' hi' j' hj' => ?_⟩, ob_ag.pI (P := fun y => y = b) rfl⟩
  · rw [f_Table_set, if_neg (by rw [nb_neg (by omega)]; exact id), if_neg (by rw [h9, nb_le (by omega) (by omega)]; omega), if_neg (by rw [nb_neg (by omega)]; exact id), if_neg (by rw [h8, nb_le (by omega) (by omega)]; omega), if_pos (by rw [h1]; exact h2), if_pos (by rw [h8, e, h1, h4, nb_in (by omega)]; exact hlt)]
    simp only [ob_lt, h8, e, h1, nb_clamp (show i * w + j < 2147483648 by omega)]
  · have hi2 : i' < ls.length := by simpa [tb_upd] using hi'
    have e1 : (ob_pI D b (i * w + j) x).1 b (i' * w + j') = if i' * w + j' = i * w + j then x else D.1 b (i' * w + j') := by simp [ob_pI]
    rw [e1]
    by_cases hii : i' = i
    · subst hii
      have e2 : (tb_upd ls i' j x).getD i' tb_z = fun k => if k = j then x else (ls.getD i' tb_z) k := by simp [tb_upd, List.getD_eq_getElem?_getD, hi2]
      rw [e2]
      by_cases hjj : j' = j
      · subst hjj; simp
      · rw [if_neg (by omega)]
        simp only [hjj, if_false]
        exact h11 i' hi2 j' hj'
    · have e2 : (tb_upd ls i j x).getD i' tb_z = ls.getD i' tb_z := by simp [tb_upd, List.getD_eq_getElem?_getD, List.getElem?_set_ne (Ne.symm hii)]
      have ne : i' * w + j' ≠ i * w + j := by
        intro z
        rcases Nat.lt_or_gt_of_ne hii with hlt2 | hgt
        · have := tb_lt (w := w) hlt2 hj'; omega
        · have := tb_lt (w := w) hgt hj; omega
      rw [if_neg ne, e2, h11 i' hi2 j' hj']
/-- the place of an id, none if it isn't there -/
def tb_find (ls : List (Nat → Int32)) (id : Int32) : Option Nat := ls.findIdx? (fun f => f 0 == id)
theorem tb_find_L {S : ob_S} {D : ob_D} {a b most w : Nat} {ls : List (Nat → Int32)} (h : tb_at S D a b most w ls) (id : Int32) : ∀ (d n k : Nat), k + d = ls.length → d < n → f_Table_find_L2 S n a id (N32 k) D = some (match (ls.drop k).findIdx? (fun f => f 0 == id) with | some i => N32 (k + i) | none => -1, D) := by
  obtain ⟨h1, h2, h3, h4, h5, h6, h7, h8, h9, h10, h11⟩ := h
  have hm := tb_most h5 h6
  intro d
  induction d with
  | zero =>
    intro n k hk hn
    match n, hn with
    | n + 1, _ =>
      rw [f_Table_find_L2, if_pos (by rw [h9, nb_le (by omega) (by omega)]; omega), List.drop_eq_nil_of_le (by omega)]
      rfl
  | succ d ih =>
    intro n k hk hn
    match n, hn with
    | n + 1, hn =>
      have hkl : k < ls.length := by omega
      have hlt : k * w + 0 < most * w := tb_lt (by omega) h6
      have e : N32 k * N32 w + (0 : Int32) = N32 (k * w + 0) := by rw [nb_mul]; simp
      have ha : N32 k + (1 : Int32) = N32 (k + 1) := nb_add k 1
      have hv := h11 k hkl 0 h6
      have hdr : ls.drop k = ls.getD k tb_z :: ls.drop (k + 1) := by
        rw [List.drop_eq_getElem_cons hkl]
        simp [List.getD_eq_getElem?_getD, hkl]
      rw [f_Table_find_L2, if_neg (by rw [h9, nb_le (by omega) (by omega)]; omega), if_pos (by rw [h1]; exact h2), if_pos (by rw [h8, e, h1, h4, nb_in (by omega)]; exact hlt), h8, e, h1, nb_clamp (by omega), hv, hdr, List.findIdx?_cons]
      by_cases hid : (ls.getD k tb_z) 0 = id
      · rw [if_pos hid]
        simp [hid]
      · rw [if_neg hid, ha, ih n (k + 1) (by omega) (by omega)]
        have hne : ((ls.getD k tb_z) 0 == id) = false := by simpa using hid
        rw [hne]
        cases hf : (ls.drop (k + 1)).findIdx? (fun f => f 0 == id) with
        | none => simp
        | some i =>
          show some (N32 (k + 1 + i), D) = some (N32 (k + (i + 1)), D)
          rw [show k + 1 + i = k + (i + 1) by omega]
theorem tb_find_ok {S : ob_S} {D : ob_D} {a b most w : Nat} {ls : List (Nat → Int32)} (h : tb_at S D a b most w ls) (id : Int32) : f_Table_find S a id D = some (match tb_find ls id with | some i => N32 i | none => -1, D) := by
  have hm := tb_most h.2.2.2.2.1 h.2.2.2.2.2.1
  have hl := h.2.2.2.2.2.2.2.2.2.1
  rw [f_Table_find]
  have := tb_find_L h id ls.length ob_FU 0 (by omega) (by rw [ob_FU_eq]; omega)
  show f_Table_find_L2 S ob_FU a id (N32 0) D = _
  simpa [tb_find] using this
