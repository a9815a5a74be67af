-- ===== lines by their keys =====
def ky_srt {α : Type} (key : α → Nat) : List α → Prop
  | [] => True
  | x :: l => (∀ y ∈ l, key x < key y) ∧ ky_srt key l
def ky_pos {α : Type} (key : α → Nat) (k : Nat) (l : List α) : Nat := (l.takeWhile (fun y => decide (key y < k))).length
def ky_ins {α : Type} (key : α → Nat) (x : α) (l : List α) : List α := l.take (ky_pos key (key x) l) ++ x :: l.drop (ky_pos key (key x) l)
def ky_find {α : Type} (key : α → Nat) (k : Nat) (l : List α) : Option Nat := l.findIdx? (fun y => key y == k)
theorem ky_pos_le {α : Type} (key : α → Nat) (k : Nat) (l : List α) : ky_pos key k l ≤ l.length := (List.takeWhile_sublist _).length_le
theorem ky_pos_cons {α : Type} (key : α → Nat) (k : Nat) (x : α) (l : List α) : ky_pos key k (x :: l) = if key x < k then ky_pos key k l + 1 else 0 := by
  unfold ky_pos
  rw [List.takeWhile_cons]
  by_cases h : key x < k
  · rw [if_pos h, show decide (key x < k) = true by simpa using h]
    rfl
  · rw [if_neg h, show decide (key x < k) = false by simpa using h]
    rfl
theorem ky_ins_mem {α : Type} (key : α → Nat) (x : α) (l : List α) (y : α) : y ∈ ky_ins key x l ↔ y = x ∨ y ∈ l := by
  unfold ky_ins
  conv => rhs; rw [← List.take_append_drop (ky_pos key (key x) l) l]
  rw [List.mem_append, List.mem_cons, List.mem_append]
  constructor
  · rintro (h | h | h)
    · exact Or.inr (Or.inl h)
    · exact Or.inl h
    · exact Or.inr (Or.inr h)
  · rintro (h | h | h)
    · exact Or.inr (Or.inl h)
    · exact Or.inl h
    · exact Or.inr (Or.inr h)
theorem ky_ins_cons {α : Type} (key : α → Nat) (x y : α) (l : List α) : ky_ins key x (y :: l) = if key y < key x then y :: ky_ins key x l else x :: y :: l := by
  unfold ky_ins
  rw [ky_pos_cons]
  split <;> rfl
theorem ky_ins_srt {α : Type} (key : α → Nat) (x : α) : ∀ l : List α, ky_srt key l → (∀ y ∈ l, key y ≠ key x) → ky_srt key (ky_ins key x l)
  | [], _, _ => ⟨fun y hy => absurd hy (by simp), trivial⟩
  | y :: l, h, hn => by
    rw [ky_ins_cons]
    by_cases hc : key y < key x
    · rw [if_pos hc]
      refine ⟨fun z hz => ?_, ky_ins_srt key x l h.2 (fun z hz => hn z (List.mem_cons_of_mem _ hz))⟩
      rcases (ky_ins_mem key x l z).mp hz with e | e
      · rw [e]; exact hc
      · exact h.1 z e
    · rw [if_neg hc]
      have hne := hn y List.mem_cons_self
      refine ⟨fun z hz => ?_, h⟩
      rcases List.mem_cons.mp hz with e | e
      · rw [e]; omega
      · have := h.1 z e; omega
theorem ky_ins_len {α : Type} (key : α → Nat) (x : α) (l : List α) : (ky_ins key x l).length = l.length + 1 := by
  have := ky_pos_le key (key x) l
  unfold ky_ins
  rw [List.length_append, List.length_cons, List.length_take, List.length_drop]
  omega
theorem ky_srt_er {α : Type} (key : α → Nat) : ∀ (l : List α) (i : Nat), ky_srt key l → ky_srt key (l.eraseIdx i)
  | [], _, _ => trivial
  | x :: l, 0, h => h.2
  | x :: l, i + 1, h => ⟨fun y hy => h.1 y (List.mem_of_mem_eraseIdx hy), ky_srt_er key l i h.2⟩
theorem ky_srt_set {α : Type} (key : α → Nat) (y : α) : ∀ (l : List α) (i : Nat) (hi : i < l.length), key y = key l[i] → ky_srt key l → ky_srt key (l.set i y)
  | x :: l, 0, _, e, h => ⟨fun z hz => by have := h.1 z hz; rw [e]; exact this, h.2⟩
  | x :: l, i + 1, hi, e, h => by
    refine ⟨fun z hz => ?_, ky_srt_set key y l i (by simpa using hi) (by simpa using e) h.2⟩
    rcases List.mem_or_eq_of_mem_set hz with q | q
    · exact h.1 z q
    · rw [q, e]
      exact h.1 _ (by simp)
theorem ky_inj {α : Type} (key : α → Nat) : ∀ (l : List α) (i j : Nat) (hi : i < l.length) (hj : j < l.length), ky_srt key l → key l[i] = key l[j] → i = j
  | x :: l, 0, 0, _, _, _, _ => rfl
  | x :: l, 0, j + 1, _, hj, h, e => by
    have := h.1 (l[j]'(by simpa using hj)) (by simp)
    simp at e
    omega
  | x :: l, i + 1, 0, hi, _, h, e => by
    have := h.1 (l[i]'(by simpa using hi)) (by simp)
    simp at e
    omega
  | x :: l, i + 1, j + 1, hi, hj, h, e => by
    have := ky_inj key l i j (by simpa using hi) (by simpa using hj) h.2 (by simpa using e)
    omega
theorem ky_find_some {α : Type} {key : α → Nat} {k : Nat} {l : List α} {i : Nat} (hs : ky_srt key l) (hi : i < l.length) (hk : key l[i] = k) : ky_find key k l = some i := by
  unfold ky_find
  rw [List.findIdx?_eq_some_iff_getElem]
  refine ⟨hi, by simpa using hk, fun j hj => ?_⟩
  intro e
  have e' : key l[j] = k := by simpa using e
  have := ky_inj key l i j hi (by omega) hs (by rw [hk, e'])
  omega
theorem ky_find_is {α : Type} {key : α → Nat} {k : Nat} {l : List α} {i : Nat} (h : ky_find key k l = some i) : ∃ hi : i < l.length, key l[i] = k := by
  unfold ky_find at h
  rw [List.findIdx?_eq_some_iff_getElem] at h
  obtain ⟨hi, h1, -⟩ := h
  exact ⟨hi, by simpa using h1⟩
theorem ky_find_none {α : Type} {key : α → Nat} {k : Nat} {l : List α} : ky_find key k l = none ↔ ∀ y ∈ l, key y ≠ k := by
  unfold ky_find
  rw [List.findIdx?_eq_none_iff]
  constructor
  · intro h y hy e
    have := h y hy
    simp [e] at this
  · intro h y hy
    simpa using h y hy
theorem fi_cg {α : Type} {p q : α → Bool} (l : List α) (h : ∀ x ∈ l, p x = q x) : l.findIdx? p = l.findIdx? q := by
  induction l with
  | nil => rfl
  | cons a l ih =>
    rw [List.findIdx?_cons, List.findIdx?_cons, h a List.mem_cons_self, ih (fun x hx => h x (List.mem_cons_of_mem _ hx))]
theorem ky_tb_find {α : Type} {key : α → Nat} {line : α → Nat → Int32} {k : Nat} {l : List α} (hl : ∀ x, line x 0 = N32 (key x)) (hk : k < 256) (hb : ∀ x ∈ l, key x < 256) : tb_find (l.map line) (N32 k) = ky_find key k l := by
  unfold tb_find ky_find
  rw [List.findIdx?_map]
  apply fi_cg
  intro x hx
  have := hb x hx
  show ((line x 0) == N32 k) = (key x == k)
  rw [hl]
  by_cases h : key x = k
  · simp [h]
  · have h2 : ¬ N32 (key x) = N32 k := by rw [nb_eq (by omega) (by omega)]; exact h
    rw [show (N32 (key x) == N32 k) = false by simpa using h2, show (key x == k) = false by simpa using h]
theorem ky_tb_pos {α : Type} {key : α → Nat} {line : α → Nat → Int32} {k : Nat} {l : List α} (hl : ∀ x, line x 0 = N32 (key x)) (hk : k < 256) (hb : ∀ x ∈ l, key x < 256) : tb_pos (l.map line) (N32 k) = ky_pos key k l := by
  induction l with
  | nil => rfl
  | cons x l ih =>
    have hx := hb x List.mem_cons_self
    have ih' := ih (fun y hy => hb y (List.mem_cons_of_mem _ hy))
    unfold tb_pos at ih' ⊢
    unfold ky_pos at ih' ⊢
    rw [List.map_cons, List.takeWhile_cons, List.takeWhile_cons, hl]
    by_cases h : key x < k
    · rw [show decide (N32 (key x) < N32 k) = true by rw [decide_eq_true_iff, nb_lt (by omega) (by omega)]; exact h, show decide (key x < k) = true by simpa using h]
      simp only [if_true, List.length_cons]
      rw [ih']
    · rw [show decide (N32 (key x) < N32 k) = false by rw [decide_eq_false_iff_not, nb_lt (by omega) (by omega)]; exact h, show decide (key x < k) = false by simpa using h]
      rfl
theorem tb_at.cg {S : ob_S} {D : ob_D} {a b most w : Nat} {ls ls' : List (Nat → Int32)} (h : tb_at S D a b most w ls) (hl : ls'.length = ls.length) (he : ∀ i, i < ls.length → ∀ j, j < w → (ls'.getD i tb_z) j = (ls.getD i tb_z) j) : tb_at S D a b most w ls' := by
  obtain ⟨h1, h2, h3, h4, h5, h6, h7, h8, h9, h10, h11⟩ := h
  exact ⟨h1, h2, h3, h4, h5, h6, h7, h8, by rw [hl]; exact h9, by rw [hl]; exact h10, fun i hi j hj => by rw [hl] at hi; rw [he i hi j hj]; exact h11 i hi j hj⟩
theorem tb_upd_mid (A B : List (Nat → Int32)) (f : Nat → Int32) (j : Nat) (x : Int32) : tb_upd (A ++ f :: B) A.length j x = A ++ (fun k => if k = j then x else f k) :: B := by
  unfold tb_upd
  have e : (A ++ f :: B).getD A.length tb_z = f := by
    simp only [List.getD_eq_getElem?_getD]
    rw [List.getElem?_append_right (Nat.le_refl _), Nat.sub_self]
    rfl
  rw [e, List.set_append_right _ _ (Nat.le_refl _), Nat.sub_self]
  rfl
theorem tb_mid_cg {S : ob_S} {D : ob_D} {a b most w : Nat} {A B : List (Nat → Int32)} {f g : Nat → Int32} (h : tb_at S D a b most w (A ++ f :: B)) (he : ∀ j, j < w → g j = f j) : tb_at S D a b most w (A ++ g :: B) := by
  apply h.cg
  · rw [List.length_append, List.length_append]; rfl
  · intro i _ j hj
    simp only [List.getD_eq_getElem?_getD]
    by_cases h1 : i < A.length
    · rw [List.getElem?_append_left h1, List.getElem?_append_left h1]
    · rw [List.getElem?_append_right (by omega), List.getElem?_append_right (by omega)]
      match i - A.length with
      | 0 => exact he j hj
      | k + 1 => rfl
theorem map_er {α : Type} (line : α → Nat → Int32) (l : List α) (i : Nat) : (l.map line).eraseIdx i = (l.eraseIdx i).map line := by
  induction l generalizing i with
  | nil => rfl
  | cons x l ih =>
    match i with
    | 0 => rfl
    | i + 1 =>
      show line x :: (l.map line).eraseIdx i = line x :: (l.eraseIdx i).map line
      rw [ih]
theorem map_ins {α : Type} (key : α → Nat) (line : α → Nat → Int32) (x : α) (l : List α) : (ky_ins key x l).map line = (l.map line).take (ky_pos key (key x) l) ++ line x :: (l.map line).drop (ky_pos key (key x) l) := by
  unfold ky_ins
  rw [List.map_append, List.map_cons, List.map_take, List.map_drop]
-- forms: key, on, every, what
abbrev sFm : Type := Nat × Bool × Nat × List Nat
def fm_line (f : sFm) : Nat → Int32 := fun j => if j = 0 then N32 f.1 else if j = 1 then bI f.2.1 else if j = 2 then N32 f.2.2.1 else if j = 3 then N32 f.2.2.2.length else N32 (f.2.2.2.getD (j - 4) 0)
def fm_ok (f : sFm) : Prop := f.1 < 256 ∧ 1 ≤ f.2.2.1 ∧ f.2.2.1 < 256 ∧ 1 ≤ f.2.2.2.length ∧ f.2.2.2.length ≤ 8 ∧ ∀ x ∈ f.2.2.2, x < 32
def cFm (S : ob_S) (D : ob_D) (a : Nat) (l : List sFm) : Prop := tb_at S D a (a + 1) 8 12 (l.map fm_line) ∧ ky_srt (fun f : sFm => f.1) l ∧ ∀ f ∈ l, fm_ok f
theorem cFm.keep {S S' : ob_S} {D D' : ob_D} {a : Nat} {l : List sFm} {P : Nat → Nat → Prop} (h : cFm S D a l) (g : og P D D') (h0 : ∀ k, ¬ P a k) (h1 : ∀ k, ¬ P (a + 1) k) (hS : S'.2.1 (a + 1) = S.2.1 (a + 1)) : cFm S' D' a l := ⟨h.1.keep g h0 h1 hS, h.2⟩
-- limits: key, on, count, of, times, low, high, event, link
abbrev sLm : Type := Nat × Bool × Int32 × Nat × Nat × Int32 × Int32 × Nat × Nat
def lm_line (f : sLm) : Nat → Int32 := fun j => if j = 0 then N32 f.1 else if j = 1 then bI f.2.1 else if j = 2 then f.2.2.1 else if j = 3 then N32 f.2.2.2.1 else if j = 4 then N32 f.2.2.2.2.1 else if j = 5 then f.2.2.2.2.2.1 else if j = 6 then f.2.2.2.2.2.2.1 else if j = 7 then N32 f.2.2.2.2.2.2.2.1 else N32 f.2.2.2.2.2.2.2.2
def lm_ok (f : sLm) : Prop := f.1 < 256 ∧ f.2.2.2.1 < 32 ∧ f.2.2.2.2.1 < 256 ∧ f.2.2.2.2.2.2.2.1 < 32 ∧ f.2.2.2.2.2.2.2.2 < 2
def cLm (S : ob_S) (D : ob_D) (a : Nat) (l : List sLm) : Prop := tb_at S D a (a + 1) 16 9 (l.map lm_line) ∧ ky_srt (fun f : sLm => f.1) l ∧ ∀ f ∈ l, lm_ok f
theorem cLm.keep {S S' : ob_S} {D D' : ob_D} {a : Nat} {l : List sLm} {P : Nat → Nat → Prop} (h : cLm S D a l) (g : og P D D') (h0 : ∀ k, ¬ P a k) (h1 : ∀ k, ¬ P (a + 1) k) (hS : S'.2.1 (a + 1) = S.2.1 (a + 1)) : cLm S' D' a l := ⟨h.1.keep g h0 h1 hS, h.2⟩
-- the reference's
def mFm (D : ob_D) (M : Nat) (l : List sFm) : Prop := D.1 M 36 = N32 l.length ∧ l.length ≤ 8 ∧ ky_srt (fun f : sFm => f.1) l ∧ (∀ f ∈ l, fm_ok f) ∧ (∀ k, k < 256 → D.1 (M + 8) k = bI ((ky_find (fun f : sFm => f.1) k l).isSome)) ∧ ∀ f ∈ l, D.1 (M + 9) f.1 = bI f.2.1 ∧ D.1 (M + 10) f.1 = N32 f.2.2.1 ∧ D.1 (M + 11) f.1 = N32 f.2.2.2.length ∧ ∀ j, j < f.2.2.2.length → D.1 (M + 12) (8 * f.1 + j) = N32 (f.2.2.2.getD j 0)
theorem mFm.keep {D D' : ob_D} {M : Nat} {l : List sFm} {P : Nat → Nat → Prop} (h : mFm D M l) (g : og P D D') (h0 : ¬ P M 36) (h1 : ∀ y k, M + 8 ≤ y → y ≤ M + 12 → ¬ P y k) : mFm D' M l := by
  obtain ⟨a1, a2, a3, a4, a5, a6⟩ := h
  exact ⟨by rw [(g _ _ h0).1]; exact a1, a2, a3, a4, fun k hk => by rw [(g _ _ (h1 _ _ (by omega) (by omega))).1]; exact a5 k hk, fun f hf => by
    obtain ⟨b1, b2, b3, b4⟩ := a6 f hf
    exact ⟨by rw [(g _ _ (h1 _ _ (by omega) (by omega))).1]; exact b1, by rw [(g _ _ (h1 _ _ (by omega) (by omega))).1]; exact b2, by rw [(g _ _ (h1 _ _ (by omega) (by omega))).1]; exact b3, fun j hj => by rw [(g _ _ (h1 _ _ (by omega) (by omega))).1]; exact b4 j hj⟩⟩
def mLm (D : ob_D) (M : Nat) (l : List sLm) : Prop := D.1 M 56 = N32 l.length ∧ l.length ≤ 16 ∧ ky_srt (fun f : sLm => f.1) l ∧ (∀ f ∈ l, lm_ok f) ∧ (∀ k, k < 256 → D.1 (M + 19) k = bI ((ky_find (fun f : sLm => f.1) k l).isSome)) ∧ ∀ f ∈ l, D.1 (M + 20) f.1 = bI f.2.1 ∧ D.1 (M + 27) f.1 = f.2.2.1 ∧ D.1 (M + 21) f.1 = N32 f.2.2.2.1 ∧ D.1 (M + 22) f.1 = N32 f.2.2.2.2.1 ∧ D.1 (M + 23) f.1 = f.2.2.2.2.2.1 ∧ D.1 (M + 24) f.1 = f.2.2.2.2.2.2.1 ∧ D.1 (M + 25) f.1 = N32 f.2.2.2.2.2.2.2.1 ∧ D.1 (M + 26) f.1 = N32 f.2.2.2.2.2.2.2.2
theorem mLm.keep {D D' : ob_D} {M : Nat} {l : List sLm} {P : Nat → Nat → Prop} (h : mLm D M l) (g : og P D D') (h0 : ¬ P M 56) (h1 : ∀ y k, M + 19 ≤ y → y ≤ M + 27 → ¬ P y k) : mLm D' M l := by
  obtain ⟨a1, a2, a3, a4, a5, a6⟩ := h
  exact ⟨by rw [(g _ _ h0).1]; exact a1, a2, a3, a4, fun k hk => by rw [(g _ _ (h1 _ _ (by omega) (by omega))).1]; exact a5 k hk, fun f hf => by
    obtain ⟨b1, b2, b3, b4, b5, b6, b7, b8⟩ := a6 f hf
    exact ⟨by rw [(g _ _ (h1 _ _ (by omega) (by omega))).1]; exact b1, by rw [(g _ _ (h1 _ _ (by omega) (by omega))).1]; exact b2, by rw [(g _ _ (h1 _ _ (by omega) (by omega))).1]; exact b3, by rw [(g _ _ (h1 _ _ (by omega) (by omega))).1]; exact b4, by rw [(g _ _ (h1 _ _ (by omega) (by omega))).1]; exact b5, by rw [(g _ _ (h1 _ _ (by omega) (by omega))).1]; exact b6, by rw [(g _ _ (h1 _ _ (by omega) (by omega))).1]; exact b7, by rw [(g _ _ (h1 _ _ (by omega) (by omega))).1]; exact b8⟩⟩
