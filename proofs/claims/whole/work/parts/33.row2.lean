-- ===== Row: copying, replacing, checking =====
theorem by_getD_lt {l : List Nat} (h : ∀ x ∈ l, x < 256) (i : Nat) : l.getD i 0 < 256 := by
  rw [List.getD_eq_getElem?_getD]
  cases hi : l[i]? with
  | none => simp
  | some y => exact h y (List.mem_of_getElem? hi)
theorem by_take_succ {l : List Nat} {f k : Nat} (h : f + k < l.length) : (l.drop f).take (k + 1) = (l.drop f).take k ++ [l.getD (f + k) 0] := by
  have hk : k < (l.drop f).length := by rw [List.length_drop]; omega
  rw [List.take_add_one, List.getElem?_eq_getElem hk]
  simp [List.getD_eq_getElem?_getD, List.getElem?_eq_getElem h]
theorem rw_addPart_L {S : ob_S} {a b cap a2 b2 cap2 : Nat} {l l2 : List Nat} {f c : Nat} (hd : a2 ≠ a ∧ a2 ≠ b ∧ b2 ≠ a ∧ b2 ≠ b) (hf : f + c ≤ l2.length) (hr : l.length + c ≤ cap) : ∀ (d n k : Nat) (D : ob_D), k + d = c → d < n → rw_at S D a b cap (l ++ (l2.drop f).take k) → rw_at S D a2 b2 cap2 l2 → ∃ D', f_Row_addPart_L3 S n a a2 (N32 f) (N32 c) (N32 (f + k)) D = some D' ∧ rw_at S D' a b cap (l ++ (l2.drop f).take c) ∧ ob_ag (fun y => y = a ∨ y = b) D D' := by
  intro d
  induction d with
  | zero =>
    intro n k D hk hn h h2
    match n, hn with
    | n + 1, _ =>
      have : k = c := by omega
      subst this
      exact ⟨D, by rw [f_Row_addPart_L3, if_pos (by rw [nb_add]; exact Int32.le_refl _)], h, ob_ag.rf⟩
  | succ d ih =>
    intro n k D hk hn h h2
    match n, hn with
    | n + 1, hn =>
      have hl : (l ++ (l2.drop f).take k).length = l.length + k := by rw [List.length_append, List.length_take, List.length_drop]; omega
      have hp := rw_push h (y := l2.getD (f + k) 0) (by omega) (by_getD_lt h2.2.2.2.2.2.2.2.2 _)
      obtain ⟨h1, q2, q3, q4, q5, q6, q7, q8, q9⟩ := h
      obtain ⟨p1, p2, p3, p4, p5, p6, p7, p8, p9⟩ := id h2
      rw [hl] at q5 q6 hp
      rw [List.append_assoc, ← by_take_succ (by omega)] at hp
      obtain ⟨D', g1, g2, g3⟩ := ih n (k + 1) _ (by omega) (by omega) hp ((h2.kept (ob_ag.pI (P := fun y => y = a ∨ y = b) (Or.inr rfl)) (by simp; exact ⟨hd.1, hd.2.1⟩) (by simp; exact ⟨hd.2.2.1, hd.2.2.2⟩)).kept (ob_ag.pI (P := fun y => y = a ∨ y = b) (Or.inl rfl)) (by simp; exact ⟨hd.1, hd.2.1⟩) (by simp; exact ⟨hd.2.2.1, hd.2.2.2⟩))
      refine ⟨D', ?_, g2, ((ob_ag.pI (Or.inr rfl)).tr (ob_ag.pI (Or.inl rfl))).tr g3⟩
      have ha : N32 (f + k) + (1 : Int32) = N32 (f + (k + 1)) := nb_add (f + k) 1
      rw [f_Row_addPart_L3, if_neg (by rw [nb_add, nb_le (by omega) (by omega)]; omega), if_pos (by rw [h1]; exact q2), if_neg (by rw [h1, q4, q5, nb_le (by omega) (by omega)]; omega), if_neg (by rw [nb_neg (by omega)]; exact id), if_neg (by rw [p5, nb_le (by omega) (by omega)]; omega), if_pos (by rw [h1]; exact q2), if_pos (by rw [p1]; exact p2), if_pos (by rw [p1, p4, nb_in (by omega)]; omega), if_pos (by rw [h1, q4, q5, nb_in (by omega)]; omega)]
      have e2 : (ob_pI D b (l.length + k) (N32 (l2.getD (f + k) 0))).1 a 1 = N32 (l.length + k) := by simp [ob_pI, q3, q5]
      have e3 : N32 (l.length + k) + (1 : Int32) = N32 (l.length + k + 1) := nb_add (l.length + k) 1
      simp only [h1, p1, q5, nb_clamp (show l.length + k < 2147483648 by omega), nb_clamp (show f + k < 2147483648 by omega), p8 (f + k) (by omega), ob_lt, e2, e3, ha]
      exact g1
theorem rw_addPart {S : ob_S} {D : ob_D} {a b cap a2 b2 cap2 : Nat} {l l2 : List Nat} {f c : Nat} (h : rw_at S D a b cap l) (h2 : rw_at S D a2 b2 cap2 l2) (hd : a2 ≠ a ∧ a2 ≠ b ∧ b2 ≠ a ∧ b2 ≠ b) (hf : f + c ≤ l2.length) (hr : l.length + c ≤ cap) : ∃ D', f_Row_addPart S a a2 (N32 f) (N32 c) D = some D' ∧ rw_at S D' a b cap (l ++ (l2.drop f).take c) ∧ ob_ag (fun y => y = a ∨ y = b) D D' := by
  rw [f_Row_addPart]
  have hc := h.2.2.2.2.2.2.1
  exact rw_addPart_L hd hf hr c ob_FU 0 D (by omega) (by rw [ob_FU_eq]; omega) (by simpa using h) h2
theorem rw_nil {S : ob_S} {D : ob_D} {a b cap : Nat} {l : List Nat} (h : rw_at S D a b cap l) : rw_at S (ob_pI D a 1 (0 : Int32)) a b cap [] := by
  obtain ⟨h1, h2, h3, h4, h5, h6, h7, h8, h9⟩ := h
  exact ⟨h1, h2, h3, h4, by simp [ob_pI]; rfl, Nat.zero_le _, h7, fun i hi => absurd hi (Nat.not_lt_zero _), fun x hx => by cases hx⟩
theorem rw_become {S : ob_S} {D : ob_D} {a b cap a2 b2 cap2 : Nat} {l l2 : List Nat} {f c : Nat} (h : rw_at S D a b cap l) (h2 : rw_at S D a2 b2 cap2 l2) (hd : a2 ≠ a ∧ a2 ≠ b ∧ b2 ≠ a ∧ b2 ≠ b) (hf : f + c ≤ l2.length) (hr : c ≤ cap) : ∃ D', f_Row_become S a a2 (N32 f) (N32 c) D = some D' ∧ rw_at S D' a b cap ((l2.drop f).take c) ∧ ob_ag (fun y => y = a ∨ y = b) D D' := by
  obtain ⟨D', g1, g2, g3⟩ := rw_addPart (rw_nil h) (h2.kept (ob_ag.pI (P := fun y => y = a ∨ y = b) (Or.inl rfl)) (by simp; exact ⟨hd.1, hd.2.1⟩) (by simp; exact ⟨hd.2.2.1, hd.2.2.2⟩)) hd hf (by simpa using hr)
  refine ⟨D', ?_, by simpa using g2, (ob_ag.pI (Or.inl rfl)).tr g3⟩
  rw [f_Row_become]
  simp only [ob_lt, g1, ob_bv]
/-- c bytes of x over the bytes from f on, k of them done -/
def by_rep (l : List Nat) (f : Nat) (x : Int32) (c : Nat) : Nat → List Nat
  | 0 => l
  | k + 1 => (by_rep l f x c k).set (f + k) (by_of x (c - 1 - k))
theorem by_rep_len (l : List Nat) (f : Nat) (x : Int32) (c : Nat) : ∀ k, (by_rep l f x c k).length = l.length
  | 0 => rfl
  | k + 1 => by rw [by_rep, List.length_set, by_rep_len l f x c k]
theorem rw_set {S : ob_S} {D : ob_D} {a b cap : Nat} {l : List Nat} {i y : Nat} (h : rw_at S D a b cap l) (hi : i < l.length) (hy : y < 256) : rw_at S (ob_pI D b i (N32 y)) a b cap (l.set i y) := by
  obtain ⟨h1, h2, h3, h4, h5, h6, h7, h8, h9⟩ := h
  refine ⟨h1, h2, h3, h4, ?_, by rw [List.length_set]; exact h6, h7, fun j hj => ?_, fun x hx => ?_⟩
  · rw [List.length_set]
    simp [ob_pI, h3, h5]
  · rw [List.length_set] at hj
    by_cases hji : j = i
    · subst hji
      simp [ob_pI, List.getD_eq_getElem?_getD, hi]
    · have e : (ob_pI D b i (N32 y)).1 b j = D.1 b j := by simp [ob_pI, hji]
      rw [e, h8 j hj]
      simp [List.getD_eq_getElem?_getD, List.getElem?_set_ne (Ne.symm hji)]
  · rcases List.mem_or_eq_of_mem_set hx with hx | hx
    · exact h9 x hx
    · rw [hx]; exact hy
theorem rw_replace_L {S : ob_S} {a b cap : Nat} {l : List Nat} {f c : Nat} {x : Int32} (hc : c ≤ 4) (hf : f + c ≤ l.length) : ∀ (d n k : Nat) (D : ob_D), k + d = c → d < n → rw_at S D a b cap (by_rep l f x c k) → ∃ D', f_Row_replace_L3 S n a (N32 f) x (N32 c) (N32 k) D = some D' ∧ rw_at S D' a b cap (by_rep l f x c c) ∧ ob_ag (fun y => y = b) D D' := by
  intro d
  induction d with
  | zero =>
    intro n k D hk hn h
    match n, hn with
    | n + 1, _ =>
      have : k = c := by omega
      subst this
      exact ⟨D, by rw [f_Row_replace_L3, if_pos (Int32.le_refl _)], h, ob_ag.rf⟩
  | succ d ih =>
    intro n k D hk hn h
    match n, hn with
    | n + 1, hn =>
      have hl := by_rep_len l f x c k
      have hp := rw_set h (i := f + k) (y := by_of x (c - 1 - k)) (by omega) (by_of_lt _ _)
      obtain ⟨D', g1, g2, g3⟩ := ih n (k + 1) _ (by omega) (by omega) hp
      obtain ⟨h1, q2, q3, q4, q5, q6, q7, q8, q9⟩ := h
      rw [hl] at q5 q6
      refine ⟨D', ?_, g2, (ob_ag.pI (P := fun y => y = b) rfl).tr g3⟩
      have ha : N32 k + (1 : Int32) = N32 (k + 1) := nb_add k 1
      have e1 : N32 c - (1 : Int32) - N32 k = N32 (c - 1 - k) := by rw [nb_1, nb_sub (by omega), nb_sub (by omega)]
      rw [f_Row_replace_L3, if_neg (by rw [nb_le (by omega) (by omega)]; omega), if_neg (by rw [nb_add, nb_neg (by omega)]; exact id), if_neg (by rw [q5, nb_add, nb_le (by omega) (by omega)]; omega), if_pos (by rw [h1]; exact q2), if_pos (by rw [h1, q4, nb_add, nb_in (by omega)]; omega)]
      simp only [h1, nb_add, nb_clamp (show f + k < 2147483648 by omega), e1, by_shift x (show c - 1 - k < 4 by omega), ob_lt, ha]
      exact g1
theorem rw_replace {S : ob_S} {D : ob_D} {a b cap : Nat} {l : List Nat} {f c : Nat} (h : rw_at S D a b cap l) (x : Int32) (hc : c ≤ 4) (hf : f + c ≤ l.length) : ∃ D', f_Row_replace S a (N32 f) x (N32 c) D = some D' ∧ rw_at S D' a b cap (by_rep l f x c c) ∧ ob_ag (fun y => y = b) D D' := by
  rw [f_Row_replace]
  exact rw_replace_L hc hf c ob_FU 0 D (by omega) (by rw [ob_FU_eq]; omega) h
/-- the class's step of the check -/
def ck_c (c b : Int32) : Int32 :=
  ob_lt (((c.toUInt32 >>> ((8 : Int32).toUInt32 &&& Int32.toUInt32 31)).toInt32 ^^^ b) ^^^ (((((c.toUInt32 >>> ((8 : Int32).toUInt32 &&& Int32.toUInt32 31)).toInt32) ^^^ b).toUInt32 >>> ((4 : Int32).toUInt32 &&& Int32.toUInt32 31)).toInt32)) fun x1 => ((((c <<< ((8 : Int32) &&& 31)) ^^^ (x1 <<< ((12 : Int32) &&& 31))) ^^^ (x1 <<< ((5 : Int32) &&& 31))) ^^^ x1) &&& (65535 : Int32)
def ck_l (l : List Nat) (f : Nat) : Nat → Int32
  | 0 => 65535
  | k + 1 => ck_c (ck_l l f k) (N32 (l.getD (f + k) 0))
theorem rw_check_L {S : ob_S} {D : ob_D} {a b cap : Nat} {l : List Nat} (h : rw_at S D a b cap l) {f c : Nat} (hf : f + c < 2147483647) : ∀ (d n k : Nat), k + d = c → d < n → f_Row_check_L6 S n a (N32 f) (N32 c) (ck_l l f k) (N32 (f + k)) D = some (ck_l l f c, D) := by
  obtain ⟨h1, h2, h3, h4, h5, h6, h7, h8, h9⟩ := h
  intro d
  induction d with
  | zero =>
    intro n k hk hn
    match n, hn with
    | n + 1, _ =>
      have : k = c := by omega
      subst this
      rw [f_Row_check_L6, if_pos (by rw [nb_add]; exact Int32.le_refl _)]
  | succ d ih =>
    intro n k hk hn
    match n, hn with
    | n + 1, hn =>
      have ha : N32 (f + k) + (1 : Int32) = N32 (f + (k + 1)) := nb_add (f + k) 1
      have key : ∀ y : Int32, y = N32 (l.getD (f + k) 0) → f_Row_check_L43 S (fun a0 a1 a2 a3 a4 d => f_Row_check_L6 S n a0 a1 a2 a3 a4 d) a (N32 f) (N32 c) (ck_l l f k) (N32 (f + k)) y (((ck_l l f k).toUInt32 >>> ((8 : Int32).toUInt32 &&& Int32.toUInt32 31)).toInt32) D = some (ck_l l f c, D) := by
        intro y hy
        subst hy
        rw [f_Row_check_L43]
        simp only [ob_lt, ha]
        exact ih n (k + 1) (by omega) (by omega)
      rw [f_Row_check_L6, if_neg (by rw [nb_add, nb_le (by omega) (by omega)]; omega), if_neg (by rw [nb_neg (by omega)]; exact id)]
      by_cases hl : l.length ≤ f + k
      · rw [if_pos (by rw [h5, nb_le (by omega) (by omega)]; exact hl)]
        exact key _ (by simp [List.getD_eq_getElem?_getD, List.getElem?_eq_none hl]; rfl)
      · rw [if_neg (by rw [h5, nb_le (by omega) (by omega)]; exact hl), if_pos (by rw [h1]; exact h2), if_pos (by rw [h1, h4, nb_in (by omega)]; omega)]
        exact key _ (by rw [h1, nb_clamp (by omega), h8 (f + k) (by omega)])
theorem rw_check {S : ob_S} {D : ob_D} {a b cap : Nat} {l : List Nat} (h : rw_at S D a b cap l) {f c : Nat} (hc : c < 100001) (hf : f + c < 2147483647) : f_Row_check S a (N32 f) (N32 c) D = some (ck_l l f c, D) := by
  rw [f_Row_check]
  exact rw_check_L h hf c ob_FU 0 (by omega) (by rw [ob_FU_eq]; omega)
