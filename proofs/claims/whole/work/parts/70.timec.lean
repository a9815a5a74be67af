-- ===== the class's timetable =====
def cTtR (S : ob_S) (D : ob_D) (t m : Nat) (L : List sEn) : Prop := ∃ (r : Nat → Nat) (rows : Nat → List Nat), (∀ i, i < m → r i < m) ∧ (∀ i j, i < m → j < m → r i = r j → i = j) ∧ (∀ i, i < m → D.2.1 (t + 2) i = t + 3 + 2 * r i) ∧ (∀ j, j < m → rw_at S D (t + 3 + 2 * j) (t + 4 + 2 * j) 252 (rows j)) ∧ ∀ i, i < L.length → D.1 (t + 1) i = (L.getD i (0, [])).1 ∧ rows (r i) = (L.getD i (0, [])).2
def cTtA (S : ob_S) (D : ob_D) (t m : Nat) : Prop := D.2.1 t 0 = t + 1 ∧ D.2.1 t 1 = t + 2 ∧ S.2.1 (t + 1) = m ∧ S.2.1 (t + 2) = m ∧ 1 ≤ m ∧ m ≤ 64
def cTt (S : ob_S) (D : ob_D) (t m : Nat) (L : List sEn) (on : Bool) : Prop := cTtA S D t m ∧ cTtR S D t m L ∧ D.1 t 2 = N32 L.length ∧ L.length ≤ m ∧ D.1 t 3 = bI on
theorem cTtA.keep {S S' : ob_S} {D D' : ob_D} {t m : Nat} {P : Nat → Nat → Prop} (h : cTtA S D t m) (a : og P D D') (h0 : ¬ P t 0) (h1 : ¬ P t 1) (hS1 : S'.2.1 (t + 1) = S.2.1 (t + 1)) (hS2 : S'.2.1 (t + 2) = S.2.1 (t + 2)) : cTtA S' D' t m := ⟨by rw [(a _ _ h0).2.1]; exact h.1, by rw [(a _ _ h1).2.1]; exact h.2.1, by rw [hS1]; exact h.2.2.1, by rw [hS2]; exact h.2.2.2.1, h.2.2.2.2⟩
theorem cTtR.keep {S S' : ob_S} {D D' : ob_D} {t m : Nat} {L : List sEn} {P : Nat → Nat → Prop} (h : cTtR S D t m L) (a : og P D D') (hP : ∀ y k, t < y → y < t + 3 + 2 * m → ¬ P y k) (hm : L.length ≤ m) (hS : ∀ y, t < y → y < t + 3 + 2 * m → S'.2.1 y = S.2.1 y) : cTtR S' D' t m L := by
  obtain ⟨r, rows, h1, h2, h3, h4, h5⟩ := h
  refine ⟨r, rows, h1, h2, fun i hi => ?_, fun j hj => (h4 j hj).keep a (fun k => hP _ _ (by omega) (by omega)) (fun k => hP _ _ (by omega) (by omega)) (hS _ (by omega) (by omega)), fun i hi => ?_⟩
  · rw [(a _ _ (hP _ _ (by omega) (by omega))).2.1]; exact h3 i hi
  · rw [(a _ _ (hP _ _ (by omega) (by omega))).1]; exact h5 i hi
theorem cTt.keep {S S' : ob_S} {D D' : ob_D} {t m : Nat} {L : List sEn} {on : Bool} {P : Nat → Nat → Prop} (h : cTt S D t m L on) (a : og P D D') (hP : ∀ y k, t ≤ y → y < t + 3 + 2 * m → ¬ P y k) (hS : ∀ y, t ≤ y → y < t + 3 + 2 * m → S'.2.1 y = S.2.1 y) : cTt S' D' t m L on := by
  obtain ⟨h1, h2, h3, h4, h5⟩ := h
  exact ⟨h1.keep a (hP _ _ (by omega) (by omega)) (hP _ _ (by omega) (by omega)) (hS _ (by omega) (by omega)) (hS _ (by omega) (by omega)), h2.keep a (fun y k _ _ => hP _ _ (by omega) (by omega)) h4 (fun y _ _ => hS _ (by omega) (by omega)), by rw [(a _ _ (hP _ _ (by omega) (by omega))).1]; exact h3, h4, by rw [(a _ _ (hP _ _ (by omega) (by omega))).1]; exact h5⟩
def en_no (e : sEn) : Nat := nn e.2 2 2 % 16384
def tt_dq (clk : Int32) : List sEn → Bool
  | [] => false
  | e :: _ => decide (e.1 ≤ clk)
theorem ttc_due {S : ob_S} {D : ob_D} {t m : Nat} {L : List sEn} {on : Bool} (h : cTt S D t m L on) (clk : Int32) : f_Timetable_isDue S t clk D = some (bI (tt_dq clk L), D) := by
  obtain ⟨⟨a1, a2, a3, a4, a5, a6⟩, ⟨r, rows, h1, h2, h3, h4, h5⟩, h6, h7, h8⟩ := h
  unfold f_Timetable_isDue
  rw [h6]
  match L with
  | [] => rw [if_pos (by decide)]; rfl
  | e :: l =>
    rw [List.length_cons] at h7
    have e0 : D.1 (t + 1) (0 : Int32).toNatClampNeg = e.1 := (h5 0 (by simp)).1
    rw [if_neg (by rw [show (0 : Int32) = N32 0 from rfl, nb_le (by rw [List.length_cons]; omega) (by decide), List.length_cons]; omega), a1, if_pos (by omega), a3, if_pos (by rw [show (0 : Int32) = N32 0 from rfl, nb_in (by decide)]; omega), e0]
    by_cases hc : e.1 ≤ clk
    · rw [if_neg (Int32.not_lt.mpr hc), show tt_dq clk (e :: l) = true from decide_eq_true hc]
      rfl
    · rw [if_pos (Int32.not_le.mp hc), show tt_dq clk (e :: l) = false from decide_eq_false hc]
      rfl
theorem ttc_full {S : ob_S} {D : ob_D} {t m : Nat} {L : List sEn} {on : Bool} (h : cTt S D t m L on) : f_Timetable_isFull S t D = some (bI (decide (m ≤ L.length)), D) := by
  obtain ⟨⟨a1, a2, a3, a4, a5, a6⟩, -, h6, h7, h8⟩ := h
  unfold f_Timetable_isFull
  rw [a1, if_pos (by omega), h6, a3, if_lt (by omega) (by omega)]
  by_cases hc : L.length < m
  · rw [if_pos hc, show decide (m ≤ L.length) = false by rw [decide_eq_false_iff_not]; omega]
    rfl
  · rw [if_neg hc, show decide (m ≤ L.length) = true by rw [decide_eq_true_iff]; omega]
    rfl
theorem ttc_no {S : ob_S} {D : ob_D} {t m : Nat} {L : List sEn} {on : Bool} (h : cTt S D t m L on) {i : Nat} (hi : i < L.length) : f_Timetable_numberOf S t (N32 i) D = some (N32 (en_no (L.getD i (0, []))), D) := by
  obtain ⟨⟨a1, a2, a3, a4, a5, a6⟩, ⟨r, rows, h1, h2, h3, h4, h5⟩, h6, h7, h8⟩ := h
  have hri := h1 i (by omega)
  unfold f_Timetable_numberOf
  rw [a2, if_pos (by omega), a4, if_pos (by rw [nb_in (by omega)]; omega)]
  try simp (disch := omega) only [nb_clamp]
  rw [h3 i (by omega), if_pos (by omega)]
  have e : f_Row_number S (t + 3 + 2 * r i) 2 2 D = _ := rw_num (h4 _ hri) (f := 2) (c := 2) (by decide) (by decide)
  rw [e]
  simp only [ob_bd]
  rw [n_16383, (h5 i hi).2]
  rfl
theorem ttc_has {S : ob_S} {D : ob_D} {t m : Nat} {L : List sEn} {on : Bool} (h : cTt S D t m L on) {x : Nat} (hx : x < 16384) : f_Timetable_has S t (N32 x) D = some (bI (L.any (fun e => en_no e == x)), D) := by
  have hm : L.length ≤ 64 := by have := h.1.2.2.2.2.2; have := h.2.2.2.1; omega
  have hL : ∀ (d n k : Nat), k + d = L.length → d < n → f_Timetable_has_L2 S n t (N32 x) (N32 k) D = some (bI ((L.drop k).any (fun e => en_no e == x)), D) := by
    intro d
    induction d with
    | zero =>
      intro n k hk hn
      match n, hn with
      | n + 1, _ =>
        rw [f_Timetable_has_L2, h.2.2.1, if_pos (by rw [nb_le (by omega) (by omega)]; omega), List.drop_of_length_le (by omega)]
        rfl
    | succ d ih =>
      intro n k hk hn
      match n, hn with
      | n + 1, hn =>
        have e1 : N32 k + (1 : Int32) = N32 (k + 1) := nb_add _ 1
        have hlt : en_no (L.getD k (0, [])) < 16384 := Nat.mod_lt _ (by decide)
        have hd : L.drop k = L.getD k (0, []) :: L.drop (k + 1) := by
          rw [List.drop_eq_getElem_cons (by omega)]
          congr 1
          simp [List.getD_eq_getElem?_getD, show k < L.length by omega]
        rw [f_Timetable_has_L2, h.2.2.1, if_neg (by rw [nb_le (by omega) (by omega)]; omega), ttc_no h (by omega)]
        simp only [ob_bd]
        rw [if_en (by omega) (by omega), e1, ih n (k + 1) (by omega) (by omega), hd, List.any_cons]
        by_cases hc : en_no (L.getD k (0, [])) = x
        · rw [if_pos hc, show (en_no (L.getD k (0, [])) == x) = true by simpa using hc]
          rfl
        · rw [if_neg hc, show (en_no (L.getD k (0, [])) == x) = false by simpa using hc]
          rfl
  have := hL L.length ob_FU 0 (by omega) (by rw [ob_FU_eq]; omega)
  rw [List.drop_zero] at this
  exact this
/-- removing: what becomes of times and references -/
theorem ttc_rem_L {S : ob_S} {t m sz a : Nat} {T : Nat → Int32} {R : Nat → Nat} (hsz : sz ≤ m) (hm : m ≤ 64) (ha : a < sz) (hR : ∀ i, i < sz → R i ≠ 0) : ∀ (d n i : Nat) (D : ob_D), i + 1 + d = sz → d < n → a ≤ i → cTtA S D t m → D.1 t 2 = N32 sz → (∀ j, D.1 (t + 1) j = if a ≤ j ∧ j < i then T (j + 1) else T j) → (∀ j, D.2.1 (t + 2) j = if a ≤ j ∧ j < i then R (j + 1) else R j) → ∃ D', f_Timetable_remove_L9 S n t (R a) (N32 i) D = some D' ∧ (∀ j, D'.1 (t + 1) j = if a ≤ j ∧ j < sz - 1 then T (j + 1) else T j) ∧ (∀ j, D'.2.1 (t + 2) j = if a ≤ j ∧ j < sz - 1 then R (j + 1) else if j = sz - 1 then R a else R j) ∧ D'.1 t 2 = N32 (sz - 1) ∧ og (fun y k => (y = t ∧ k = 2) ∨ y = t + 1 ∨ y = t + 2) D D' := by
  intro d
  induction d with
  | zero =>
    intro n i D hi hn hai hA h2 hT hRf
    match n, hn with
    | n + 1, _ =>
      obtain ⟨a1, a2, a3, a4, a5, a6⟩ := hA
      have ei : N32 i + (1 : Int32) = N32 (i + 1) := nb_add _ 1
      have es : N32 sz - (1 : Int32) = N32 (sz - 1) := by rw [show (1 : Int32) = N32 1 from rfl, nb_sub (by omega)]
      have hi' : i = sz - 1 := by omega
      refine ⟨ob_pR (ob_pI D t 2 (N32 (sz - 1))) (t + 2) (sz - 1) (R a), ?_, fun j => ?_, fun j => ?_, ?_, ?_⟩
      · rw [f_Timetable_remove_L9, h2, ei, if_pos (by rw [nb_le (by omega) (by omega)]; omega), es]
        simp only [ob_lt]
        rw [pI_ref, a2, if_pos (by omega), pI_self, a4, if_pos (by rw [nb_in (by omega)]; omega)]
        try simp (disch := omega) only [nb_clamp]
      · show (ob_pI D t 2 (N32 (sz - 1))).1 (t + 1) j = _
        rw [pI_ne (by omega), hT, hi']
      · show (if t + 2 = t + 2 ∧ j = sz - 1 then R a else D.2.1 (t + 2) j) = _
        by_cases hj : j = sz - 1
        · rw [if_pos ⟨rfl, hj⟩, if_neg (by omega), if_pos hj]
        · rw [if_neg (fun e => hj e.2), if_neg hj, hRf, hi']
      · show (ob_pI D t 2 (N32 (sz - 1))).1 t 2 = _
        exact pI_self
      · exact (og.pI (Or.inl ⟨rfl, rfl⟩)).tr (og.pR (Or.inr (Or.inr rfl)))
  | succ d ih =>
    intro n i D hi hn hai hA h2 hT hRf
    match n, hn with
    | n + 1, hn =>
      have hA0 := hA
      obtain ⟨a1, a2, a3, a4, a5, a6⟩ := hA
      have ei : N32 i + (1 : Int32) = N32 (i + 1) := nb_add _ 1
      have g : og (fun y k => (y = t ∧ k = 2) ∨ y = t + 1 ∨ y = t + 2) D (ob_pR (ob_pI D (t + 1) i (T (i + 1))) (t + 2) i (R (i + 1))) := (og.pI (Or.inr (Or.inl rfl))).tr (og.pR (Or.inr (Or.inr rfl)))
      have vT : D.1 (t + 1) (i + 1) = T (i + 1) := by rw [hT, if_neg (by omega)]
      have vR : D.2.1 (t + 2) (i + 1) = R (i + 1) := by rw [hRf, if_neg (by omega)]
      obtain ⟨D', t1, t2, t3, t4, t5⟩ := ih n (i + 1) (ob_pR (ob_pI D (t + 1) i (T (i + 1))) (t + 2) i (R (i + 1))) (by omega) (by omega) (by omega) ⟨by
          show (if t = t + 2 ∧ 0 = i then _ else D.2.1 t 0) = _
          rw [if_neg (by omega)]; exact a1, by
          show (if t = t + 2 ∧ 1 = i then _ else D.2.1 t 1) = _
          rw [if_neg (by omega)]; exact a2, a3, a4, a5, a6⟩ (by
          show (ob_pI D (t + 1) i (T (i + 1))).1 t 2 = _
          rw [pI_ne (by omega)]; exact h2) (fun j => by
          show (ob_pI D (t + 1) i (T (i + 1))).1 (t + 1) j = _
          by_cases hj : j = i
          · rw [hj, pI_self, if_pos (by omega)]
          · rw [pI_ne (by omega), hT]
            by_cases hc : a ≤ j ∧ j < i
            · rw [if_pos hc, if_pos (by omega)]
            · rw [if_neg hc, if_neg (by omega)]) (fun j => by
          show (if t + 2 = t + 2 ∧ j = i then R (i + 1) else D.2.1 (t + 2) j) = _
          by_cases hj : j = i
          · rw [if_pos ⟨rfl, hj⟩, hj, if_pos (by omega)]
          · rw [if_neg (fun e => hj e.2), hRf]
            by_cases hc : a ≤ j ∧ j < i
            · rw [if_pos hc, if_pos (by omega)]
            · rw [if_neg hc, if_neg (by omega)])
      refine ⟨D', ?_, t2, t3, t4, g.tr t5⟩
      rw [f_Timetable_remove_L9, h2, ei, if_neg (by rw [nb_le (by omega) (by omega)]; omega), a1, if_pos (by omega), if_pos (by omega), a3, if_pos (by rw [nb_in (by omega)]; omega), if_pos (by rw [nb_in (by omega)]; omega)]
      try simp (disch := omega) only [nb_clamp]
      rw [vT]
      simp only [ob_lt]
      rw [pI_ref, a2, if_pos (by omega), if_pos (by omega), a4, if_pos (by rw [nb_in (by omega)]; omega), vR, if_pos (hR _ (by omega)), if_pos (by rw [nb_in (by omega)]; omega)]
      exact t1
theorem er_get {L : List sEn} {a i : Nat} (hi : i < (L.eraseIdx a).length) : (L.eraseIdx a).getD i (0, []) = if i < a then L.getD i (0, []) else L.getD (i + 1) (0, []) := by
  simp only [List.getD_eq_getElem?_getD, List.getElem?_eraseIdx]
  split <;> rfl
theorem ttc_rem {S : ob_S} {D : ob_D} {t m a : Nat} {L : List sEn} {on : Bool} (h : cTt S D t m L on) (ha : a < L.length) : ∃ D', f_Timetable_remove S t (N32 a) D = some D' ∧ cTt S D' t m (L.eraseIdx a) on ∧ og (fun y k => (y = t ∧ k = 2) ∨ y = t + 1 ∨ y = t + 2) D D' := by
  obtain ⟨hA, ⟨r, rows, h1, h2, h3, h4, h5⟩, h6, h7, h8⟩ := h
  have hA0 := hA
  obtain ⟨a1, a2, a3, a4, a5, a6⟩ := hA
  obtain ⟨D', t1, t2, t3, t4, t5⟩ := ttc_rem_L (S := S) (t := t) (m := m) (sz := L.length) (a := a) (T := D.1 (t + 1)) (R := D.2.1 (t + 2)) h7 a6 ha (fun i hi => by rw [h3 i (by omega)]; omega) (L.length - 1 - a) ob_FU a D (by omega) (by rw [ob_FU_eq]; omega) (Nat.le_refl _) hA0 h6 (fun j => by rw [if_neg (by omega)]) (fun j => by rw [if_neg (by omega)])
  have hel : (L.eraseIdx a).length = L.length - 1 := List.length_eraseIdx_of_lt ha
  refine ⟨D', ?_, ⟨hA0.keep t5 (by omega) (by omega) rfl rfl, ⟨fun j => if a ≤ j ∧ j < L.length - 1 then r (j + 1) else if j = L.length - 1 then r a else r j, rows, fun i hi => ?_, fun i j hi hj he => ?_, fun i hi => ?_, fun j hj => (h4 j hj).keep t5 (by omega) (by omega) rfl, fun i hi => ?_⟩, by rw [t4, hel], by omega, by rw [(t5 _ _ (by omega)).1]; exact h8⟩, t5⟩
  · unfold f_Timetable_remove
    rw [a2, if_pos (by omega), a4, if_pos (by rw [nb_in (by omega)]; omega)]
    try simp (disch := omega) only [nb_clamp]
    rw [if_pos (by rw [h3 a (by omega)]; omega)]
    exact t1
  · show (if _ then _ else _) < m
    split
    · exact h1 _ (by omega)
    · split
      · exact h1 _ (by omega)
      · exact h1 _ hi
  · have he' : (if a ≤ i ∧ i < L.length - 1 then r (i + 1) else if i = L.length - 1 then r a else r i) = (if a ≤ j ∧ j < L.length - 1 then r (j + 1) else if j = L.length - 1 then r a else r j) := he
    by_cases c1 : a ≤ i ∧ i < L.length - 1
    · rw [if_pos c1] at he'
      by_cases c2 : a ≤ j ∧ j < L.length - 1
      · rw [if_pos c2] at he'
        have := h2 _ _ (by omega) (by omega) he'
        omega
      · rw [if_neg c2] at he'
        by_cases c3 : j = L.length - 1
        · rw [if_pos c3] at he'
          have := h2 _ _ (by omega) (by omega) he'
          omega
        · rw [if_neg c3] at he'
          have := h2 _ _ (by omega) (by omega) he'
          omega
    · rw [if_neg c1] at he'
      by_cases c1b : i = L.length - 1
      · rw [if_pos c1b] at he'
        by_cases c2 : a ≤ j ∧ j < L.length - 1
        · rw [if_pos c2] at he'
          have := h2 _ _ (by omega) (by omega) he'
          omega
        · rw [if_neg c2] at he'
          by_cases c3 : j = L.length - 1
          · omega
          · rw [if_neg c3] at he'
            have := h2 _ _ (by omega) (by omega) he'
            omega
      · rw [if_neg c1b] at he'
        by_cases c2 : a ≤ j ∧ j < L.length - 1
        · rw [if_pos c2] at he'
          have := h2 _ _ (by omega) (by omega) he'
          omega
        · rw [if_neg c2] at he'
          by_cases c3 : j = L.length - 1
          · rw [if_pos c3] at he'
            have := h2 _ _ (by omega) (by omega) he'
            omega
          · rw [if_neg c3] at he'
            exact h2 _ _ (by omega) (by omega) he'
  · show _ = t + 3 + 2 * (if _ then _ else _)
    rw [t3]
    split
    · exact h3 _ (by omega)
    · split
      · exact h3 _ (by omega)
      · exact h3 _ (by omega)
  · rw [hel] at hi
    rw [er_get (by omega), t2]
    show _ ∧ rows (if _ then _ else _) = _
    by_cases hc : i < a
    · rw [if_neg (show ¬ (a ≤ i ∧ i < L.length - 1) by omega), if_neg (show ¬ (a ≤ i ∧ i < L.length - 1) by omega), if_neg (show ¬ i = L.length - 1 by omega), if_pos hc]
      exact h5 i (by omega)
    · rw [if_pos (show a ≤ i ∧ i < L.length - 1 by omega), if_pos (show a ≤ i ∧ i < L.length - 1 by omega), if_neg hc]
      exact h5 (i + 1) (by omega)
