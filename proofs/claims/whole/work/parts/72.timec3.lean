-- ===== the class's timetable: shifting, telling =====
theorem l_add (a b : Int32) : (a.toInt64 + b.toInt64).toInt = a.toInt + b.toInt := by
  have h1 := a.toInt_lt
  have h2 := a.le_toInt
  have h3 := b.toInt_lt
  have h4 := b.le_toInt
  rw [Int64.toInt_add, Int32.toInt_toInt64, Int32.toInt_toInt64]
  apply Int.bmod_eq_of_le <;> omega
theorem l_le (a b c : Int32) : (a.toInt64 + b.toInt64 ≤ c.toInt64) ↔ a.toInt + b.toInt ≤ c.toInt := by
  rw [Int64.le_iff_toInt_le, l_add, Int32.toInt_toInt64]
theorem l_back (a b : Int32) : (a.toInt64 + b.toInt64 = ((a.toInt64 + b.toInt64).toInt32).toInt64) ↔ (-2147483648 ≤ a.toInt + b.toInt ∧ a.toInt + b.toInt < 2147483648) := by
  rw [← Int64.toInt_inj, Int32.toInt_toInt64, Int64.toInt_toInt32, l_add]
  constructor
  · intro h
    have h1 := Int.le_bmod (x := a.toInt + b.toInt) (m := 2 ^ 32) (by decide)
    have h2 := Int.bmod_lt (x := a.toInt + b.toInt) (m := 2 ^ 32) (by decide)
    omega
  · intro h
    symm
    apply Int.bmod_eq_of_le <;> omega
def tt_can (d clk : Int32) (A : List sEn) : Bool := A.all (fun e => decide (clk.toInt < e.1.toInt + d.toInt ∧ e.1.toInt + d.toInt < 2147483648))
def tt_shift (d : Int32) (A : List sEn) : List sEn := A.map (fun e => (e.1 + d, e.2))
theorem en_drop {L : List sEn} {k : Nat} (hk : k < L.length) : L.drop k = L.getD k (0, []) :: L.drop (k + 1) := by
  rw [List.drop_eq_getElem_cons hk]
  congr 1
  simp [List.getD_eq_getElem?_getD, hk]
theorem en_take {L : List sEn} {k : Nat} (hk : k < L.length) : L.take (k + 1) = L.take k ++ [L.getD k (0, [])] := by
  rw [List.take_succ_eq_append_getElem hk]
  congr 2
  simp [List.getD_eq_getElem?_getD, hk]
theorem lg_eq0 (x y : Int64) : (lg_cmp x y = 0) ↔ x = y := by
  unfold lg_cmp
  by_cases h : x > y
  · rw [if_pos h]
    exact ⟨fun e => absurd e (by decide), fun e => by rw [e] at h; exact absurd h Int64.lt_irrefl⟩
  · rw [if_neg h]
    by_cases h2 : x = y
    · rw [if_pos h2]
      exact ⟨fun _ => h2, fun _ => rfl⟩
    · rw [if_neg h2]
      exact ⟨fun e => absurd e (by decide), fun e => absurd e h2⟩
theorem ttc_can {S : ob_S} {D : ob_D} {t m : Nat} {L : List sEn} {on : Bool} (h : cTt S D t m L on) (d clk : Int32) : f_Timetable_canShift S t d clk D = some (bI (tt_can d clk L), D) := by
  have hm : L.length ≤ 64 := by have := h.1.2.2.2.2.2; have := h.2.2.2.1; omega
  obtain ⟨⟨a1, a2, a3, a4, a5, a6⟩, ⟨r, rows, h1, h2, h3, h4, h5⟩, h6, h7, h8⟩ := h
  have hL : ∀ (e n k : Nat), k + e = L.length → e < n → f_Timetable_canShift_L2 S n t d clk (N32 k) D = some (bI (tt_can d clk (L.drop k)), D) := by
    intro e
    induction e with
    | zero =>
      intro n k hk hn
      match n, hn with
      | n + 1, _ =>
        rw [f_Timetable_canShift_L2, h6, if_pos (by rw [nb_le (by omega) (by omega)]; omega), List.drop_of_length_le (by omega)]
        rfl
    | succ e ih =>
      intro n k hk hn
      match n, hn with
      | n + 1, hn =>
        have e1 : N32 k + (1 : Int32) = N32 (k + 1) := nb_add _ 1
        rw [f_Timetable_canShift_L2, h6, if_neg (by rw [nb_le (by omega) (by omega)]; omega), a1, if_pos (by omega), a3, if_pos (by rw [nb_in (by omega)]; omega)]
        try simp (disch := omega) only [nb_clamp]
        rw [(h5 k (by omega)).1, en_drop (by omega)]
        have hcons : tt_can d clk (L.getD k (0, []) :: L.drop (k + 1)) = (decide (clk.toInt < (L.getD k (0, [])).1.toInt + d.toInt ∧ (L.getD k (0, [])).1.toInt + d.toInt < 2147483648) && tt_can d clk (L.drop (k + 1))) := rfl
        rw [hcons]
        have hlo := clk.le_toInt
        by_cases c1 : (L.getD k (0, [])).1.toInt + d.toInt ≤ clk.toInt
        · rw [if_pos ((lg_cmp_le _ _).mpr ((l_le _ _ _).mpr c1)), show decide (clk.toInt < (L.getD k (0, [])).1.toInt + d.toInt ∧ (L.getD k (0, [])).1.toInt + d.toInt < 2147483648) = false by rw [decide_eq_false_iff_not]; omega]
          rfl
        · rw [if_neg (fun e => c1 ((l_le _ _ _).mp ((lg_cmp_le _ _).mp e)))]
          by_cases c2 : (L.getD k (0, [])).1.toInt + d.toInt < 2147483648
          · rw [if_pos ((lg_eq0 _ _).mpr ((l_back _ _).mpr ⟨by omega, c2⟩)), show decide (clk.toInt < (L.getD k (0, [])).1.toInt + d.toInt ∧ (L.getD k (0, [])).1.toInt + d.toInt < 2147483648) = true by rw [decide_eq_true_iff]; omega, e1, Bool.true_and]
            exact ih n (k + 1) (by omega) (by omega)
          · rw [if_neg (fun e => c2 ((l_back _ _).mp ((lg_eq0 _ _).mp e)).2), show decide (clk.toInt < (L.getD k (0, [])).1.toInt + d.toInt ∧ (L.getD k (0, [])).1.toInt + d.toInt < 2147483648) = false by rw [decide_eq_false_iff_not]; omega]
            rfl
  have := hL L.length ob_FU 0 (by omega) (by rw [ob_FU_eq]; omega)
  rw [List.drop_zero] at this
  exact this
theorem sh_get (d : Int32) {L : List sEn} {i : Nat} (hi : i < L.length) : (tt_shift d L).getD i (0, []) = ((L.getD i (0, [])).1 + d, (L.getD i (0, [])).2) := by
  unfold tt_shift
  simp only [List.getD_eq_getElem?_getD, List.getElem?_map]
  rw [List.getElem?_eq_getElem hi]
  rfl
theorem ttc_shift {S : ob_S} {D : ob_D} {t m : Nat} {L : List sEn} {on : Bool} (h : cTt S D t m L on) (d : Int32) : ∃ D', f_Timetable_shift S t d D = some D' ∧ cTt S D' t m (tt_shift d L) on ∧ og (fun y k => y = t + 1) D D' := by
  have hm : L.length ≤ 64 := by have := h.1.2.2.2.2.2; have := h.2.2.2.1; omega
  obtain ⟨hA, ⟨r, rows, h1, h2, h3, h4, h5⟩, h6, h7, h8⟩ := h
  have hA0 := hA
  obtain ⟨a1, a2, a3, a4, a5, a6⟩ := hA
  have hL : ∀ (e n k : Nat) (D1 : ob_D), k + e = L.length → e < n → og (fun y k => y = t + 1) D D1 → (∀ i, i < L.length → D1.1 (t + 1) i = if i < k then (L.getD i (0, [])).1 + d else (L.getD i (0, [])).1) → ∃ D', f_Timetable_shift_L2 S n t d (N32 k) D1 = some D' ∧ og (fun y k => y = t + 1) D D' ∧ ∀ i, i < L.length → D'.1 (t + 1) i = (L.getD i (0, [])).1 + d := by
    intro e
    induction e with
    | zero =>
      intro n k D1 hk hn g hT
      match n, hn with
      | n + 1, _ =>
        refine ⟨D1, ?_, g, fun i hi => by rw [hT i hi, if_pos (by omega)]⟩
        rw [f_Timetable_shift_L2, (g _ _ (by omega)).1, h6, if_pos (by rw [nb_le (by omega) (by omega)]; omega)]
    | succ e ih =>
      intro n k D1 hk hn g hT
      match n, hn with
      | n + 1, hn =>
        have e1 : N32 k + (1 : Int32) = N32 (k + 1) := nb_add _ 1
        have hin : ob_in (N32 k) m := by rw [nb_in (by omega)]; omega
        have ev : D1.1 (t + 1) k = (L.getD k (0, [])).1 := by rw [hT k (by omega), if_neg (by omega)]
        obtain ⟨D', t1, t2, t3⟩ := ih n (k + 1) (ob_pI D1 (t + 1) k ((L.getD k (0, [])).1 + d)) (by omega) (by omega) (g.tr (og.pI rfl)) (fun i hi => by
          by_cases hik : i = k
          · rw [hik, pI_self, if_pos (by omega)]
          · rw [pI_ne (by omega), hT i hi]
            by_cases hc : i < k
            · rw [if_pos hc, if_pos (by omega)]
            · rw [if_neg hc, if_neg (by omega)])
        refine ⟨D', ?_, t2, t3⟩
        rw [f_Timetable_shift_L2, (g t 2 (by omega)).1, h6, if_neg (by rw [nb_le (by omega) (by omega)]; omega), (g t 0 (by omega)).2.1, a1, if_pos (by omega), a3, if_pos hin, if_pos hin]
        try simp (disch := omega) only [nb_clamp]
        rw [ev]
        simp only [ob_lt]
        rw [e1]
        exact t1
  obtain ⟨D', t1, t2, t3⟩ := hL L.length ob_FU 0 D (by omega) (by rw [ob_FU_eq]; omega) og.rf (fun i hi => by rw [if_neg (by omega)]; exact (h5 i hi).1)
  have hsl : (tt_shift d L).length = L.length := List.length_map ..
  refine ⟨D', t1, ⟨hA0.keep t2 (by omega) (by omega) rfl rfl, ⟨r, rows, h1, h2, fun i hi => by rw [(t2 _ _ (by omega)).2.1]; exact h3 i hi, fun j hj => (h4 j hj).keep t2 (by omega) (by omega) rfl, fun i hi => ?_⟩, by rw [(t2 _ _ (by omega)).1, hsl]; exact h6, by rw [hsl]; exact h7, by rw [(t2 _ _ (by omega)).1]; exact h8⟩, t2⟩
  rw [hsl] at hi
  rw [sh_get d hi]
  exact ⟨t3 i hi, (h5 i hi).2⟩
def tt_say (L : List sEn) : List Nat := (L.map (fun e => by_be e.1 4 ++ by_be (N32 (en_no e)) 2)).flatten
def tt_told (L : List sEn) : List Nat := by_be (N32 (if L.length ≤ 32 then L.length else 32)) 1 ++ tt_say (L.take 32)
theorem tt_say_snoc (L : List sEn) (e : sEn) : tt_say (L ++ [e]) = tt_say L ++ by_be e.1 4 ++ by_be (N32 (en_no e)) 2 := by simp [tt_say]
theorem tt_say_len (L : List sEn) : (tt_say L).length = 6 * L.length := by
  induction L with
  | nil => rfl
  | cons e L ih =>
    unfold tt_say at ih ⊢
    simp only [List.map_cons, List.flatten_cons, List.length_append, by_be_len, List.length_cons]
    omega
theorem ttc_tell_L {S : ob_S} {D : ob_D} {t m a b cap q : Nat} {L : List sEn} {on : Bool} {l0 : List Nat} (h : cTt S D t m L on) (hr : l0.length + 193 ≤ cap) (hd : (a < t ∨ t + 3 + 2 * m ≤ a) ∧ (b < t ∨ t + 3 + 2 * m ≤ b)) (hqL : q ≤ L.length ∧ q ≤ 32) : ∀ (e n k : Nat) (D1 : ob_D), k + e = q → e < n → ob_ag (fun y => y = a ∨ y = b) D D1 → rw_at S D1 a b cap (l0 ++ by_be (N32 q) 1 ++ tt_say (L.take k)) → ∃ D', f_Timetable_tell_L18 S n t a (N32 q) (N32 k) D1 = some D' ∧ rw_at S D' a b cap (l0 ++ by_be (N32 q) 1 ++ tt_say (L.take q)) ∧ ob_ag (fun y => y = a ∨ y = b) D D' := by
  have hm : L.length ≤ 64 := by have := h.1.2.2.2.2.2; have := h.2.2.2.1; omega
  intro e
  induction e with
  | zero =>
    intro n k D1 hk hn g hw1
    match n, hn with
    | n + 1, _ =>
      have hk' : k = q := hk
      refine ⟨D1, ?_, by rw [hk'] at hw1; exact hw1, g⟩
      rw [f_Timetable_tell_L18, if_pos (by rw [nb_le (by omega) (by omega)]; omega)]
  | succ e ih =>
    intro n k D1 hk hn g hw1
    match n, hn with
    | n + 1, hn =>
      have e1 : N32 k + (1 : Int32) = N32 (k + 1) := nb_add _ 1
      have h1 : cTt S D1 t m L on := h.keep g.up (by omega) (fun _ _ _ => rfl)
      have hlen : (l0 ++ by_be (N32 q) 1 ++ tt_say (L.take k)).length = l0.length + 1 + 6 * k := by
        rw [List.length_append, List.length_append, by_be_len, tt_say_len, List.length_take]
        omega
      obtain ⟨D6, p1, p2, p3⟩ := rw_add hw1 (L.getD k (0, [])).1 (c := 4) (by decide) (by rw [hlen]; omega)
      have h6 : cTt S D6 t m L on := h1.keep p3.up (by omega) (fun _ _ _ => rfl)
      obtain ⟨D11, q1, q2, q3⟩ := rw_add p2 (N32 (en_no (L.getD k (0, [])))) (c := 2) (by decide) (by rw [List.length_append, by_be_len, hlen]; omega)
      have eL : l0 ++ by_be (N32 q) 1 ++ tt_say (L.take k) ++ by_be (L.getD k (0, [])).1 4 ++ by_be (N32 (en_no (L.getD k (0, [])))) 2 = l0 ++ by_be (N32 q) 1 ++ tt_say (L.take (k + 1)) := by
        rw [en_take (by omega), tt_say_snoc]
        simp only [List.append_assoc]
      rw [eL] at q2
      obtain ⟨D', t1, t2, t3⟩ := ih n (k + 1) D11 (by omega) (by omega) ((g.tr p3).tr q3) q2
      refine ⟨D', ?_, t2, t3⟩
      obtain ⟨⟨a1, a2, a3, a4, a5, a6⟩, ⟨r, rows, r1, r2, r3, r4, r5⟩, -, -, -⟩ := h1
      have p1' : f_Row_add S a (L.getD k (0, [])).1 4 D1 = some D6 := p1
      have q1' : f_Row_add S a (N32 (en_no (L.getD k (0, [])))) 2 D6 = some D11 := q1
      have vk : D1.1 (t + 1) (N32 k).toNatClampNeg = (L.getD k (0, [])).1 := by rw [nb_clamp (by omega)]; exact (r5 k (by omega)).1
      rw [f_Timetable_tell_L18, if_neg (by rw [nb_le (by omega) (by omega)]; omega), a1, if_pos (by omega), a3, if_pos (by rw [nb_in (by omega)]; have := h.2.2.2.1; omega), vk, p1']
      simp only [ob_bv]
      rw [ttc_no h6 (by omega)]
      simp only [ob_bd]
      rw [q1']
      simp only [ob_bv]
      rw [e1]
      exact t1
theorem ttc_tell {S : ob_S} {D : ob_D} {t m a b cap : Nat} {L : List sEn} {on : Bool} {l0 : List Nat} (h : cTt S D t m L on) (hw : rw_at S D a b cap l0) (hr : l0.length + 193 ≤ cap) (hd : (a < t ∨ t + 3 + 2 * m ≤ a) ∧ (b < t ∨ t + 3 + 2 * m ≤ b)) : ∃ D', f_Timetable_tell S t a D = some D' ∧ rw_at S D' a b cap (l0 ++ tt_told L) ∧ ob_ag (fun y => y = a ∨ y = b) D D' := by
  have hm : L.length ≤ 64 := by have := h.1.2.2.2.2.2; have := h.2.2.2.1; omega
  obtain ⟨q, hq⟩ : ∃ q, q = if L.length ≤ 32 then L.length else 32 := ⟨_, rfl⟩
  have hqL : q ≤ L.length ∧ q ≤ 32 := by rw [hq]; split <;> omega
  have emn : ob_mn (D.1 t 2) (32 : Int32) = N32 q := by
    rw [h.2.2.1, hq]
    unfold ob_mn
    rw [show (32 : Int32) = N32 32 from rfl, if_lt (by decide) (by omega)]
    by_cases hc : 32 < L.length
    · rw [if_pos hc, if_neg (by omega)]
    · rw [if_neg hc, if_pos (by omega)]
  obtain ⟨D1, p1, p2, p3⟩ := rw_add hw (N32 q) (c := 1) (by decide) (by omega)
  have p2' : rw_at S D1 a b cap (l0 ++ by_be (N32 q) 1 ++ tt_say (L.take 0)) := by
    rw [List.take_zero, show tt_say [] = [] from rfl, List.append_nil]
    exact p2
  obtain ⟨D', t1, t2, t3⟩ := ttc_tell_L h hr hd hqL q ob_FU 0 D1 (by omega) (by rw [ob_FU_eq]; omega) p3 p2'
  have p1' : f_Row_add S a (N32 q) 1 D = some D1 := p1
  have t1' : f_Timetable_tell_L18 S ob_FU t a (N32 q) 0 D1 = some D' := t1
  have hT : L.take q = L.take 32 := by
    rw [hq]
    by_cases hc : L.length ≤ 32
    · rw [if_pos hc, List.take_of_length_le (Nat.le_refl _), List.take_of_length_le hc]
    · rw [if_neg hc]
  refine ⟨D', ?_, ?_, t3⟩
  · unfold f_Timetable_tell
    rw [emn, p1']
    exact t1'
  · unfold tt_told
    rw [← hq, ← List.append_assoc, ← hT]
    exact t2
