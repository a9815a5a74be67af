-- ===== Row against lists of bytes =====
/-- byte j of an int, from the low end -/
def by_of (x : Int32) (j : Nat) : Nat := (x.toUInt32.toNat >>> (8 * j)) % 256
/-- its low c bytes, the highest first -/
def by_be (x : Int32) : Nat → List Nat
  | 0 => []
  | c + 1 => by_of x c :: by_be x c
theorem by_be_len (x : Int32) : ∀ c, (by_be x c).length = c
  | 0 => rfl
  | c + 1 => by rw [by_be, List.length_cons, by_be_len x c]
theorem by_of_lt (x : Int32) (j : Nat) : by_of x j < 256 := Nat.mod_lt _ (by decide)
theorem by_be_lt (x : Int32) : ∀ c, ∀ y ∈ by_be x c, y < 256
  | 0, y, h => by cases h
  | c + 1, y, h => by
    rcases List.mem_cons.mp h with rfl | h
    · exact by_of_lt x c
    · exact by_be_lt x c y h
theorem by_and255 (u : UInt32) : u.toInt32 &&& (255 : Int32) = N32 (u.toNat % 256) := by
  apply Int32.toBitVec_inj.mp
  show u.toBitVec &&& 255#32 = BitVec.ofNat 32 (u.toNat % 256)
  apply BitVec.eq_of_toNat_eq
  rw [BitVec.toNat_and, BitVec.toNat_ofNat, BitVec.toNat_ofNat]
  show u.toNat &&& 255 % 2 ^ 32 = u.toNat % 256 % 2 ^ 32
  rw [Nat.mod_eq_of_lt (show 255 < 2 ^ 32 by decide), Nat.mod_eq_of_lt (Nat.lt_trans (Nat.mod_lt _ (by decide)) (show 256 < 2 ^ 32 by decide))]
  exact Nat.and_two_pow_sub_one_eq_mod u.toNat 8
theorem by_shift (x : Int32) {j : Nat} (hj : j < 4) : ((x.toUInt32 >>> (((8 : Int32) * N32 j).toUInt32 &&& Int32.toUInt32 31)).toInt32) &&& (255 : Int32) = N32 (by_of x j) := by
  have e : (((8 : Int32) * N32 j).toUInt32 &&& Int32.toUInt32 31) = UInt32.ofNat (8 * j) := by
    match j, hj with
    | 0, _ => decide
    | 1, _ => decide
    | 2, _ => decide
    | 3, _ => decide
  rw [by_and255, e, UInt32.toNat_shiftRight]
  have e2 : (UInt32.ofNat (8 * j)).toNat % 32 = 8 * j := by
    match j, hj with
    | 0, _ => rfl
    | 1, _ => rfl
    | 2, _ => rfl
    | 3, _ => rfl
  rw [e2]
  rfl
/-- the row a, whose bytes lie in the array b of cap places, holds the bytes l -/
def rw_at (S : ob_S) (D : ob_D) (a b cap : Nat) (l : List Nat) : Prop := D.2.1 a 0 = b ∧ b ≠ 0 ∧ a ≠ b ∧ S.2.1 b = cap ∧ D.1 a 1 = N32 l.length ∧ l.length ≤ cap ∧ cap ≤ 100000 ∧ (∀ i, i < l.length → D.1 b i = N32 (l.getD i 0)) ∧ ∀ x ∈ l, x < 256
/-- nothing but ints changed, and those in the cells P alone -/
def ob_ag (P : Nat → Prop) (D D' : ob_D) : Prop := D'.2 = D.2 ∧ ∀ y k, ¬ P y → D'.1 y k = D.1 y k
theorem ob_ag.rf {P : Nat → Prop} {D : ob_D} : ob_ag P D D := ⟨rfl, fun _ _ _ => rfl⟩
theorem ob_ag.tr {P : Nat → Prop} {D D1 D2 : ob_D} (h : ob_ag P D D1) (k : ob_ag P D1 D2) : ob_ag P D D2 := ⟨k.1.trans h.1, fun y j hy => (k.2 y j hy).trans (h.2 y j hy)⟩
theorem ob_ag.mono {P Q : Nat → Prop} {D D1 : ob_D} (h : ob_ag P D D1) (hPQ : ∀ y, P y → Q y) : ob_ag Q D D1 := ⟨h.1, fun y j hy => h.2 y j (fun z => hy (hPQ y z))⟩
theorem ob_ag.pI {P : Nat → Prop} {D : ob_D} {a k : Nat} {x : Int32} (h : P a) : ob_ag P D (ob_pI D a k x) := ⟨rfl, fun y j hy => by
  show (if y = a ∧ j = k then x else D.1 y j) = D.1 y j
  rw [if_neg (fun z => hy (by rw [z.1]; exact h))]⟩
theorem rw_at.kept {S : ob_S} {D D' : ob_D} {a b cap : Nat} {l : List Nat} {P : Nat → Prop} (h : rw_at S D a b cap l) (g : ob_ag P D D') (ha : ¬ P a) (hb : ¬ P b) : rw_at S D' a b cap l := by
  obtain ⟨h1, h2, h3, h4, h5, h6, h7, h8, h9⟩ := h
  exact ⟨by rw [g.1]; exact h1, h2, h3, h4, by rw [g.2 a 1 ha]; exact h5, h6, h7, fun i hi => by rw [g.2 b i hb]; exact h8 i hi, h9⟩
/-- the number in c bytes from f on; bytes that are wanting count as 0 -/
def by_num (l : List Nat) (f : Nat) : Nat → Int32
  | 0 => 0
  | c + 1 => (by_num l f c <<< ((8 : Int32) &&& 31)) ||| N32 (l.getD (f + c) 0)
theorem rw_number_L {S : ob_S} {D : ob_D} {a b cap : Nat} {l : List Nat} (h : rw_at S D a b cap l) {f c : Nat} (hf : f + c < 2147483647) : ∀ (d n k : Nat), k + d = c → d < n → f_Row_number_L5 S n a (N32 f) (N32 c) (by_num l f k) (N32 (f + k)) D = some (by_num l f c, D) := by
  obtain ⟨h1, h2, h3, h4, h5, h6, h7, h8, h9⟩ := h
  intro d
  induction d with
  | zero =>
    intro n k hk hn
    match n, hn with
    | n + 1, _ =>
      have : k = c := by omega
      subst this
      rw [f_Row_number_L5, if_pos (by rw [nb_add]; exact Int32.le_refl _)]
  | succ d ih =>
    intro n k hk hn
    match n, hn with
    | n + 1, hn =>
      rw [f_Row_number_L5, if_neg (by rw [nb_add, nb_le (by omega) (by omega)]; omega), if_neg (by rw [nb_neg (by omega)]; exact id)]
      have ha : N32 (f + k) + (1 : Int32) = N32 (f + (k + 1)) := nb_add (f + k) 1
      by_cases hl : l.length ≤ f + k
      · rw [if_pos (by rw [h5, nb_le (by omega) (by omega)]; exact hl), ha]
        have e : (by_num l f k <<< ((8 : Int32) &&& 31)) ||| (0 : Int32) = by_num l f (k + 1) := by
          have e0 : l.getD (f + k) 0 = 0 := by simp [List.getD_eq_getElem?_getD, List.getElem?_eq_none hl]
          rw [by_num, e0]
          rfl
        rw [e]
        exact ih n (k + 1) (by omega) (by omega)
      · rw [if_neg (by rw [h5, nb_le (by omega) (by omega)]; exact hl), if_pos (by rw [h1]; exact h2), if_pos (by rw [h1, h4, nb_in (by omega)]; omega), ha, h1, nb_clamp (by omega), h8 (f + k) (by omega)]
        exact ih n (k + 1) (by omega) (by omega)
theorem rw_number {S : ob_S} {D : ob_D} {a b cap : Nat} {l : List Nat} (h : rw_at S D a b cap l) {f c : Nat} (hc : c < 1000) (hf : f + c < 2147483647) : f_Row_number S a (N32 f) (N32 c) D = some (by_num l f c, D) := by
  rw [f_Row_number]
  exact rw_number_L h hf c ob_FU 0 (by omega) (by rw [ob_FU_eq]; omega)
theorem rw_push {S : ob_S} {D : ob_D} {a b cap : Nat} {l : List Nat} {y : Nat} (h : rw_at S D a b cap l) (hr : l.length + 1 ≤ cap) (hy : y < 256) : rw_at S (ob_pI (ob_pI D b l.length (N32 y)) a 1 (N32 (l.length + 1))) a b cap (l ++ [y]) := by
  obtain ⟨h1, h2, h3, h4, h5, h6, h7, h8, h9⟩ := h
  refine ⟨h1, h2, h3, h4, by simp [ob_pI], by simpa using hr, h7, fun i hi => ?_, fun x hx => ?_⟩
  · have e1 : (ob_pI (ob_pI D b l.length (N32 y)) a 1 (N32 (l.length + 1))).1 b i = if i = l.length then N32 y else D.1 b i := by
      simp [ob_pI, Ne.symm h3]
    rw [e1]
    by_cases hil : i = l.length
    · subst hil
      rw [if_pos rfl]
      simp
    · have : i < l.length := by simp at hi; omega
      rw [if_neg hil, h8 i this]
      simp [List.getD_eq_getElem?_getD, List.getElem?_append_left this]
  · rcases List.mem_append.mp hx with hx | hx
    · exact h9 x hx
    · rw [List.mem_singleton.mp hx]; exact hy
theorem rw_add_L {S : ob_S} {a b cap : Nat} {x : Int32} : ∀ (c n : Nat) (D : ob_D) (l : List Nat), rw_at S D a b cap l → l.length + c ≤ cap → c ≤ 4 → c < n → ∃ D', f_Row_add_L4 S n a x (N32 c - 1) D = some D' ∧ rw_at S D' a b cap (l ++ by_be x c) ∧ ob_ag (fun y => y = a ∨ y = b) D D' := by
  intro c
  induction c with
  | zero =>
    intro n D l h hr hc hn
    match n, hn with
    | n + 1, _ =>
      refine ⟨D, ?_, by simpa [by_be] using h, ob_ag.rf⟩
      rw [f_Row_add_L4, if_pos (by decide)]
  | succ c ih =>
    intro n D l h hr hc hn
    match n, hn with
    | n + 1, hn =>
      have hp := rw_push h (y := by_of x c) (by omega) (by_of_lt x c)
      obtain ⟨h1, h2, h3, h4, h5, h6, h7, h8, h9⟩ := h
      have e0 : N32 (c + 1) - 1 = N32 c := by rw [nb_1, nb_sub (by omega)]; rfl
      obtain ⟨D', g1, g2, g3⟩ := ih n _ _ hp (by simp; omega) (by omega) (by omega)
      refine ⟨D', ?_, by rw [by_be]; simpa using g2, ((ob_ag.pI (Or.inr rfl)).tr (ob_ag.pI (Or.inl rfl))).tr g3⟩
      rw [f_Row_add_L4, e0, if_neg (by rw [nb_neg (by omega)]; exact id), if_pos (by rw [h1]; exact h2), if_neg (by rw [h1, h4, h5, nb_le (by omega) (by omega)]; omega), if_pos (by rw [h1]; exact h2), if_pos (by rw [h1, h4, h5, nb_in (by omega)]; omega)]
      have e1 : N32 c + (-1 : Int32) = N32 c - 1 := by rw [Int32.sub_eq_add_neg]
      have e2 : (ob_pI D b l.length (N32 (by_of x c))).1 a 1 = N32 l.length := by simp [ob_pI, h3, h5]
      have e3 : N32 l.length + (1 : Int32) = N32 (l.length + 1) := nb_add l.length 1
      simp only [h1, h5, nb_clamp (show l.length < 2147483648 by omega), by_shift x (show c < 4 by omega), e1, ob_lt, e2, e3]
      exact g1
theorem rw_add {S : ob_S} {D : ob_D} {a b cap : Nat} {l : List Nat} (h : rw_at S D a b cap l) (x : Int32) {c : Nat} (hc : c ≤ 4) (hr : l.length + c ≤ cap) : ∃ D', f_Row_add S a x (N32 c) D = some D' ∧ rw_at S D' a b cap (l ++ by_be x c) ∧ ob_ag (fun y => y = a ∨ y = b) D D' := by
  rw [f_Row_add]
  exact rw_add_L c ob_FU D l h hr hc (by rw [ob_FU_eq]; omega)
