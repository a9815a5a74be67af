-- ===== the class's timetable: adding, taking, removing all =====
theorem ttc_add_L {S : ob_S} {t m sz p v2 v5 : Nat} {time v3 v4 : Int32} {T : Nat → Int32} {R : Nat → Nat} (hsz : sz < m) (hm : m ≤ 64) (hR : ∀ i, i < m → R i ≠ 0) (hhi : ∀ i, p < i → i ≤ sz → ¬ T (i - 1) ≤ time) (hlo : p = 0 ∨ T (p - 1) ≤ time) (hp : p ≤ sz) : ∀ (d n i : Nat) (D : ob_D), p + d = i → i ≤ sz → d < n → cTtA S D t m → (∀ j, D.1 (t + 1) j = if i < j ∧ j ≤ sz then T (j - 1) else T j) → (∀ j, D.2.1 (t + 2) j = if i < j ∧ j ≤ sz then R (j - 1) else R j) → ∃ D', f_Timetable_add_L25 S n t time v2 v3 v4 v5 (N32 i) D = f_Timetable_add_L81 S t time v2 v3 v4 v5 (N32 p) D' ∧ (∀ j, D'.1 (t + 1) j = if p < j ∧ j ≤ sz then T (j - 1) else T j) ∧ (∀ j, D'.2.1 (t + 2) j = if p < j ∧ j ≤ sz then R (j - 1) else R j) ∧ og (fun y k => y = t + 1 ∨ y = t + 2) D D' := by
  intro d
  induction d with
  | zero =>
    intro n i D hi his hn hA hT hRf
    match n, hn with
    | n + 1, _ =>
      obtain ⟨a1, a2, a3, a4, a5, a6⟩ := hA
      have hi' : i = p := by omega
      subst hi'
      refine ⟨D, ?_, hT, hRf, og.rf⟩
      rw [f_Timetable_add_L25]
      rcases hlo with h0 | h0
      · rw [if_pos (by rw [h0]; decide)]
      · by_cases hz : i = 0
        · rw [if_pos (by rw [hz]; decide)]
        · have e1 : N32 i - (1 : Int32) = N32 (i - 1) := by rw [show (1 : Int32) = N32 1 from rfl, nb_sub (by omega)]
          rw [if_neg (by rw [show (0 : Int32) = N32 0 from rfl, nb_le (by omega) (by decide)]; omega), a1, if_pos (by omega), e1, a3, if_pos (by rw [nb_in (by omega)]; omega)]
          simp only [show (N32 (i - 1)).toNatClampNeg = i - 1 from nb_clamp (by omega)]
          rw [show D.1 (t + 1) (i - 1) = T (i - 1) by rw [hT, if_neg (by omega)], if_pos h0]
  | succ d ih =>
    intro n i D hi his hn hA hT hRf
    match n, hn with
    | n + 1, hn =>
      obtain ⟨a1, a2, a3, a4, a5, a6⟩ := hA
      have e1 : N32 i - (1 : Int32) = N32 (i - 1) := by rw [show (1 : Int32) = N32 1 from rfl, nb_sub (by omega)]
      have e2 : N32 i + (-1 : Int32) = N32 (i - 1) := by
        rw [show i = (i - 1) + 1 by omega, nb_m1, Nat.add_sub_cancel]
      have vT : D.1 (t + 1) (i - 1) = T (i - 1) := by rw [hT, if_neg (by omega)]
      have vR : D.2.1 (t + 2) (i - 1) = R (i - 1) := by rw [hRf, if_neg (by omega)]
      have g : og (fun y k => y = t + 1 ∨ y = t + 2) D (ob_pR (ob_pI D (t + 1) i (T (i - 1))) (t + 2) i (R (i - 1))) := (og.pI (Or.inl rfl)).tr (og.pR (Or.inr rfl))
      obtain ⟨D', t1, t2, t3, t4⟩ := ih n (i - 1) (ob_pR (ob_pI D (t + 1) i (T (i - 1))) (t + 2) i (R (i - 1))) (by omega) (by omega) (by omega) ⟨by
          show (if t = t + 2 ∧ 0 = i then _ else D.2.1 t 0) = _
          rw [if_neg (by omega)]; exact a1, by
          show (if t = t + 2 ∧ 1 = i then _ else D.2.1 t 1) = _
          rw [if_neg (by omega)]; exact a2, a3, a4, a5, a6⟩ (fun j => by
          show (ob_pI D (t + 1) i (T (i - 1))).1 (t + 1) j = _
          by_cases hj : j = i
          · rw [hj, pI_self, if_pos (by omega)]
          · rw [pI_ne (by omega), hT]
            by_cases hc : i < j ∧ j ≤ sz
            · rw [if_pos hc, if_pos (by omega)]
            · rw [if_neg hc, if_neg (by omega)]) (fun j => by
          show (if t + 2 = t + 2 ∧ j = i then R (i - 1) else D.2.1 (t + 2) j) = _
          by_cases hj : j = i
          · rw [if_pos ⟨rfl, hj⟩, hj, if_pos (by omega)]
          · rw [if_neg (fun e => hj e.2), hRf]
            by_cases hc : i < j ∧ j ≤ sz
            · rw [if_pos hc, if_pos (by omega)]
            · rw [if_neg hc, if_neg (by omega)])
      refine ⟨D', ?_, t2, t3, g.tr t4⟩
      rw [f_Timetable_add_L25, if_neg (by rw [show (0 : Int32) = N32 0 from rfl, nb_le (by omega) (by decide)]; omega), a1, if_pos (by omega), e1, a3, if_pos (by rw [nb_in (by omega)]; omega)]
      simp only [show (N32 (i - 1)).toNatClampNeg = i - 1 from nb_clamp (by omega)]
      rw [vT, if_neg (hhi i (by omega) his), if_pos (by omega), if_pos (by omega), if_pos (by rw [nb_in (by omega)]; omega), if_pos (by rw [nb_in (by omega)]; omega)]
      simp only [show (N32 i).toNatClampNeg = i from nb_clamp (by omega)]
      simp only [ob_lt]
      rw [pI_ref, a2, if_pos (by omega), if_pos (by omega), a4, if_pos (by rw [nb_in (by omega)]; omega), vR, if_pos (hR _ (by omega)), if_pos (by rw [nb_in (by omega)]; omega), e2]
      exact t1
theorem ttc_add {S : ob_S} {D : ob_D} {t m a2 b2 cap2 f c : Nat} {L : List sEn} {l2 : List Nat} {on : Bool} {time : Int32} (h : cTt S D t m L on) (hs : tt_srt L) (hr : L.length < m) (hw : rw_at S D a2 b2 cap2 l2) (hd : (a2 < t ∨ t + 3 + 2 * m ≤ a2) ∧ (b2 < t ∨ t + 3 + 2 * m ≤ b2)) (hf : f + c ≤ l2.length) (hc : c ≤ 252) : ∃ D', f_Timetable_add S t time a2 (N32 f) (N32 c) D = some D' ∧ cTt S D' t m (tt_ins (time, (l2.drop f).take c) L) on ∧ og (rgn t (t + 3 + 2 * m)) D D' := by
  have hfull := ttc_full h
  obtain ⟨hA, ⟨r, rows, h1, h2, h3, h4, h5⟩, h6, h7, h8⟩ := h
  have hA0 := hA
  obtain ⟨a1, a2', a3, a4, a5, a6⟩ := hA
  obtain ⟨x, hx⟩ : ∃ x : sEn, x = (time, (l2.drop f).take c) := ⟨_, rfl⟩
  have hx1 : x.1 = time := by rw [hx]
  have hle := tt_cnt_le x L
  obtain ⟨p, hp⟩ : ∃ p, p = tt_cnt x L := ⟨_, rfl⟩
  have hT : ∀ i, i < L.length → (D.1 (t + 1) i ≤ time ↔ i < p) := by
    intro i hi
    rw [(h5 i hi).1, hp, ← hx1]
    have := tt_srt_get x L i hs hi
    have eg : L.getD i (0, []) = L[i] := by simp [List.getD_eq_getElem?_getD, hi]
    rw [eg]
    exact this
  have hrs := h1 L.length hr
  obtain ⟨D1, t1, t2, t3, t4⟩ := ttc_add_L (S := S) (t := t) (m := m) (sz := L.length) (p := p) (v2 := a2) (v5 := t + 3 + 2 * r L.length) (time := time) (v3 := N32 f) (v4 := N32 c) (T := D.1 (t + 1)) (R := D.2.1 (t + 2)) hr a6 (fun i hi => by rw [h3 i hi]; omega) (fun i h1 h2 e => by have := (hT (i - 1) (by omega)).mp e; omega) (by
    by_cases h0 : p = 0
    · exact Or.inl h0
    · exact Or.inr ((hT (p - 1) (by omega)).mpr (by omega))) (by omega) (L.length - p) ob_FU L.length D (by omega) (Nat.le_refl _) (by rw [ob_FU_eq]; omega) hA0 (fun j => by rw [if_neg (by omega)]) (fun j => by rw [if_neg (by omega)])
  have hA1 := hA0.keep t4 (by omega) (by omega) rfl rfl
  obtain ⟨D9, q1, q2, q3⟩ := rw_become (f := f) (c := c) ((h4 _ hrs).keep t4 (by omega) (by omega) rfl) (hw.keep t4 (by omega) (by omega) rfl) (by omega) hf hc
  have hA9 := hA1.keep q3.up (by omega) (by omega) rfl rfl
  have e2 : (ob_pI (ob_pR D9 (t + 2) p (t + 3 + 2 * r L.length)) (t + 1) p time).1 t 2 + 1 = N32 (L.length + 1) := by
    rw [pI_ne (by omega)]
    show D9.1 t 2 + 1 = _
    rw [q3.2 _ _ (by omega), (t4 _ _ (by omega)).1, h6]
    exact nb_add _ 1
  obtain ⟨D19, hD19⟩ : ∃ y, y = ob_pI (ob_pI (ob_pR D9 (t + 2) p (t + 3 + 2 * r L.length)) (t + 1) p time) t 2 (N32 (L.length + 1)) := ⟨_, rfl⟩
  have gz : og (fun y k => (y = t ∧ k = 2) ∨ (y = t + 1 ∧ k = p) ∨ (y = t + 2 ∧ k = p)) D9 D19 := by
    rw [hD19]
    exact ((og.pR (Or.inr (Or.inr ⟨rfl, rfl⟩))).tr (og.pI (Or.inr (Or.inl ⟨rfl, rfl⟩)))).tr (og.pI (Or.inl ⟨rfl, rfl⟩))
  have hrt : ∀ j, D19.2.1 (t + 2) j = if j = p then t + 3 + 2 * r L.length else if p < j ∧ j ≤ L.length then D.2.1 (t + 2) (j - 1) else D.2.1 (t + 2) j := by
    intro j
    rw [hD19]
    show (if t + 2 = t + 2 ∧ j = p then _ else D9.2.1 (t + 2) j) = _
    by_cases hj : j = p
    · rw [if_pos ⟨rfl, hj⟩, if_pos hj]
    · rw [if_neg (fun e => hj e.2), if_neg hj, q3.1, t3]
  have htm : ∀ j, D19.1 (t + 1) j = if j = p then time else if p < j ∧ j ≤ L.length then D.1 (t + 1) (j - 1) else D.1 (t + 1) j := by
    intro j
    rw [hD19, pI_ne (by omega)]
    by_cases hj : j = p
    · rw [hj, pI_self, if_pos rfl]
    · rw [pI_ne (by omega), if_neg hj]
      show D9.1 (t + 1) j = _
      rw [q3.2 _ _ (by omega), t2]
  have gall : og (rgn t (t + 3 + 2 * m)) D D19 := ((t4.mono (fun y k e => ⟨by omega, by omega⟩)).tr (q3.up2 (fun y k e => ⟨by omega, by omega⟩))).tr (gz.mono (fun y k e => ⟨by omega, by omega⟩))
  refine ⟨D19, ?_, ⟨hA9.keep gz (by omega) (by omega) rfl rfl, ⟨fun j => if j = p then r L.length else if p < j ∧ j ≤ L.length then r (j - 1) else r j, fun j => if j = r L.length then (l2.drop f).take c else rows j, fun i hi => ?_, fun i j hi hj he => ?_, fun i hi => ?_, fun j hj => ?_, fun i hi => ?_⟩, ?_, by rw [tt_ins_len]; omega, ?_⟩, gall⟩
  · unfold f_Timetable_add
    rw [hfull]
    simp only [ob_bd]
    rw [if_bI, if_neg (by rw [decide_eq_true_iff]; omega), a2', if_pos (by omega), h6, a4, if_pos (by rw [nb_in (by omega)]; omega)]
    simp only [show (N32 L.length).toNatClampNeg = L.length from nb_clamp (by omega)]
    rw [h3 _ hr, if_pos (by omega), t1]
    unfold f_Timetable_add_L81
    rw [q1]
    simp only [ob_bv, ob_lt]
    have a9 := hA9.2.1
    have a9' := hA9.1
    rw [a9, if_pos (by omega), a4, if_pos (by rw [nb_in (by omega)]; omega)]
    simp only [show (N32 p).toNatClampNeg = p from nb_clamp (by omega)]
    have ez : (ob_pR D9 (t + 2) p (t + 3 + 2 * r L.length)).2.1 t 0 = t + 1 := by
      show (if t = t + 2 ∧ 0 = p then _ else D9.2.1 t 0) = _
      rw [if_neg (by omega)]; exact a9'
    rw [ez, if_pos (by omega), a3, if_pos (by rw [nb_in (by omega)]; omega), e2, hD19]
  · show (if _ then _ else _) < m
    split
    · exact hrs
    · split
      · exact h1 _ (by omega)
      · exact h1 _ hi
  · have he' : (if i = p then r L.length else if p < i ∧ i ≤ L.length then r (i - 1) else r i) = (if j = p then r L.length else if p < j ∧ j ≤ L.length then r (j - 1) else r j) := he
    by_cases c1 : i = p
    · rw [if_pos c1] at he'
      by_cases c2 : j = p
      · omega
      · rw [if_neg c2] at he'
        by_cases c3 : p < j ∧ j ≤ L.length
        · rw [if_pos c3] at he'
          have := h2 _ _ (by omega) (by omega) he'
          omega
        · rw [if_neg c3] at he'
          have := h2 _ _ (by omega) (by omega) he'
          omega
    · rw [if_neg c1] at he'
      by_cases c1b : p < i ∧ i ≤ L.length
      · rw [if_pos c1b] at he'
        by_cases c2 : j = p
        · rw [if_pos c2] at he'
          have := h2 _ _ (by omega) (by omega) he'
          omega
        · rw [if_neg c2] at he'
          by_cases c3 : p < j ∧ j ≤ L.length
          · rw [if_pos c3] at he'
            have := h2 _ _ (by omega) (by omega) he'
            omega
          · rw [if_neg c3] at he'
            have := h2 _ _ (by omega) (by omega) he'
            omega
      · rw [if_neg c1b] at he'
        by_cases c2 : j = p
        · rw [if_pos c2] at he'
          have := h2 _ _ (by omega) (by omega) he'
          omega
        · rw [if_neg c2] at he'
          by_cases c3 : p < j ∧ j ≤ L.length
          · rw [if_pos c3] at he'
            have := h2 _ _ (by omega) (by omega) he'
            omega
          · rw [if_neg c3] at he'
            exact h2 _ _ (by omega) (by omega) he'
  · show _ = t + 3 + 2 * (if _ then _ else _)
    rw [hrt]
    split
    · rfl
    · split
      · exact h3 _ (by omega)
      · exact h3 _ (by omega)
  · show rw_at S D19 _ _ 252 (if _ then _ else _)
    by_cases hj2 : j = r L.length
    · rw [if_pos hj2, hj2]
      exact q2.keep gz (by omega) (by omega) rfl
    · rw [if_neg hj2]
      exact (((h4 j hj).keep t4 (by omega) (by omega) rfl).keep q3.up (by omega) (by omega) rfl).keep gz (by omega) (by omega) rfl
  · rw [tt_ins_len] at hi
    rw [htm, ← hx, tt_ins_get hs, ← hp]
    show _ ∧ (if (if _ then _ else _) = r L.length then _ else rows (if _ then _ else _)) = _
    by_cases c1 : i < p
    · simp only [if_neg (show ¬ i = p by omega), if_neg (show ¬ (p < i ∧ i ≤ L.length) by omega), if_pos c1]
      rw [if_neg (fun e => by have := h2 _ _ (by omega) (by omega) e; omega)]
      exact h5 i (by omega)
    · by_cases c2 : i = p
      · simp only [if_pos c2, if_neg c1, if_true]
        rw [hx]
        exact ⟨rfl, rfl⟩
      · simp only [if_neg c2, if_pos (show p < i ∧ i ≤ L.length by omega), if_neg c1]
        rw [if_neg (fun e => by have := h2 _ _ (by omega) (by omega) e; omega)]
        exact h5 (i - 1) (by omega)
  · rw [tt_ins_len, hD19, pI_self]
  · rw [(gz _ _ (by omega)).1, q3.2 _ _ (by omega), (t4 _ _ (by omega)).1]
    exact h8
theorem ttc_take {S : ob_S} {D : ob_D} {t m a b cap : Nat} {e : sEn} {L : List sEn} {l0 : List Nat} {on : Bool} (h : cTt S D t m (e :: L) on) (hw : rw_at S D a b cap l0) (hcap : 252 ≤ cap) (hd : (a < t ∨ t + 3 + 2 * m ≤ a) ∧ (b < t ∨ t + 3 + 2 * m ≤ b)) : ∃ D', f_Timetable_takeFirst S t a D = some D' ∧ cTt S D' t m L on ∧ rw_at S D' a b cap e.2 ∧ og (fun y k => y = a ∨ y = b ∨ (t ≤ y ∧ y < t + 3 + 2 * m)) D D' := by
  have h0 := h
  obtain ⟨⟨a1, a2, a3, a4, a5, a6⟩, ⟨r, rows, h1, h2, h3, h4, h5⟩, h6, h7, h8⟩ := h
  rw [List.length_cons] at h7
  have hr0 := h1 0 (by omega)
  have e2 : rows (r 0) = e.2 := (h5 0 (by simp)).2
  have w0 := h4 _ hr0
  have hl : (rows (r 0)).length ≤ 252 := w0.2.2.2.2.2.1
  obtain ⟨D11, q1, q2, q3⟩ := rw_become (f := 0) (c := (rows (r 0)).length) hw w0 (by omega) (by omega) (by omega)
  rw [List.drop_zero, List.take_length, e2] at q2
  obtain ⟨D13, t1, t2, t3⟩ := ttc_rem (a := 0) (h0.keep q3.up (by omega) (fun _ _ _ => rfl)) (by simp)
  refine ⟨D13, ?_, t2, q2.keep t3 (by omega) (by omega) rfl, (q3.up2 (fun y k e => by omega)).tr (t3.mono (fun y k e => by omega))⟩
  unfold f_Timetable_takeFirst
  have c0 : D.2.1 (t + 2) (0 : Int32).toNatClampNeg = t + 3 + 2 * r 0 := h3 0 (by omega)
  have hin : ob_in (0 : Int32) m := by rw [show (0 : Int32) = N32 0 from rfl, nb_in (by decide)]; omega
  have q1' : f_Row_become S a (t + 3 + 2 * r 0) 0 (N32 (rows (r 0)).length) D = some D11 := q1
  have t1' : f_Timetable_remove S t 0 D11 = some D13 := t1
  rw [h6, if_neg (by rw [show (0 : Int32) = N32 0 from rfl, nb_le (by rw [List.length_cons]; omega) (by decide), List.length_cons]; omega), a2, if_pos (by omega), a4, if_pos hin, c0, if_pos (by omega), if_pos (by omega), if_pos hin, if_pos (by omega), w0.2.2.2.2.1, q1']
  simp only [ob_bv]
  rw [t1']
theorem ttc_all_L {S : ob_S} {t m x : Nat} {on : Bool} (hx : x < 16384) : ∀ (k n : Nat) (D : ob_D) (L : List sEn), k ≤ L.length → k < n → cTt S D t m L on → ∃ D', f_Timetable_removeAll_L7 S n t (N32 x) (N32 k - 1) D = some D' ∧ cTt S D' t m ((L.take k).filter (fun e => !(en_no e == x)) ++ L.drop k) on ∧ og (fun y k => (y = t ∧ k = 2) ∨ y = t + 1 ∨ y = t + 2) D D' := by
  intro k
  induction k with
  | zero =>
    intro n D L hk hn h
    match n, hn with
    | n + 1, _ =>
      refine ⟨D, ?_, ?_, og.rf⟩
      · rw [f_Timetable_removeAll_L7, if_pos (by decide)]
      · rw [List.take_zero, List.drop_zero]
        exact h
  | succ k ih =>
    intro n D L hk hn h
    match n, hn with
    | n + 1, hn =>
      have hm : L.length ≤ 64 := by have := h.1.2.2.2.2.2; have := h.2.2.2.1; omega
      have e1 : N32 (k + 1) - 1 = N32 k := by rw [show (1 : Int32) = N32 1 from rfl, nb_sub (by omega), Nat.add_sub_cancel]
      have e2 : N32 k + (-1 : Int32) = N32 k - 1 := (Int32.sub_eq_add_neg _ _).symm
      have hlt : en_no (L.getD k (0, [])) < 16384 := Nat.mod_lt _ (by decide)
      have htk : L.take (k + 1) = L.take k ++ [L.getD k (0, [])] := by
        rw [List.take_succ_eq_append_getElem (by omega)]
        congr 2
        simp [List.getD_eq_getElem?_getD, show k < L.length by omega]
      have hd : L.drop k = L.getD k (0, []) :: L.drop (k + 1) := by
        rw [List.drop_eq_getElem_cons (by omega)]
        congr 1
        simp [List.getD_eq_getElem?_getD, show k < L.length by omega]
      rw [f_Timetable_removeAll_L7, e1, if_neg (by rw [nb_neg (by omega)]; exact id), ttc_no h (by omega)]
      simp only [ob_bd]
      rw [if_en (by omega) (by omega), e2]
      by_cases hc : en_no (L.getD k (0, [])) = x
      · rw [if_pos hc]
        obtain ⟨D1, p1, p2, p3⟩ := ttc_rem h (a := k) (by omega)
        obtain ⟨D2, q1, q2, q3⟩ := ih n D1 (L.eraseIdx k) (by rw [List.length_eraseIdx_of_lt (by omega)]; omega) (by omega) p2
        refine ⟨D2, ?_, ?_, p3.tr q3⟩
        · rw [p1]
          simp only [ob_bv]
          exact q1
        · have eT : (L.eraseIdx k).take k = L.take k := by
            rw [List.eraseIdx_eq_take_drop_succ, List.take_append_of_le_length (by rw [List.length_take]; omega), List.take_take, Nat.min_self]
          have eD : (L.eraseIdx k).drop k = L.drop (k + 1) := by
            rw [List.eraseIdx_eq_take_drop_succ, List.drop_append_of_le_length (by rw [List.length_take]; omega), List.drop_of_length_le (by rw [List.length_take]; omega), List.nil_append]
          rw [eT, eD] at q2
          rw [htk, List.filter_append, List.filter_cons_of_neg (by show ¬ (!(en_no (L.getD k (0, [])) == x)) = true; rw [hc, beq_self_eq_true]; decide), List.filter_nil, List.append_nil]
          exact q2
      · rw [if_neg hc]
        obtain ⟨D2, q1, q2, q3⟩ := ih n D L (by omega) (by omega) h
        refine ⟨D2, q1, ?_, q3⟩
        rw [hd] at q2
        rw [htk, List.filter_append, List.filter_cons_of_pos (by show (!(en_no (L.getD k (0, [])) == x)) = true; rw [beq_eq_false_iff_ne.mpr hc]; rfl), List.filter_nil, List.append_assoc]
        exact q2
theorem ttc_all {S : ob_S} {D : ob_D} {t m x : Nat} {L : List sEn} {on : Bool} (hx : x < 16384) (h : cTt S D t m L on) : ∃ D', f_Timetable_removeAll S t (N32 x) D = some D' ∧ cTt S D' t m (L.filter (fun e => !(en_no e == x))) on ∧ og (fun y k => (y = t ∧ k = 2) ∨ y = t + 1 ∨ y = t + 2) D D' := by
  have hm : L.length ≤ 64 := by have := h.1.2.2.2.2.2; have := h.2.2.2.1; omega
  obtain ⟨D', t1, t2, t3⟩ := ttc_all_L hx L.length ob_FU D L (Nat.le_refl _) (by rw [ob_FU_eq]; omega) h
  refine ⟨D', ?_, ?_, t3⟩
  · unfold f_Timetable_removeAll
    rw [h.2.2.1]
    exact t1
  · rw [List.take_length, List.drop_length, List.append_nil] at t2
    exact t2
