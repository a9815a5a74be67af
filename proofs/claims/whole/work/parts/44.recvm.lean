-- ===== the reference's receiver =====
theorem ob_bv_id {γ : Type} (o : Option γ) : ob_bv o (fun d => some d) = o := by cases o <;> rfl
theorem bI_and (b : Bool) : bI b &&& 1 = bI b := by cases b <;> rfl
theorem or_one : ((1 : Int32) &&& 1) = 1 := rfl
theorem or_zero : ((0 : Int32) &&& 1) = 0 := rfl
/-- a step of the long division -/
def dv_u (u : Nat → Bool) (i : Nat) : Nat → Bool := fun j => if u i then (if j = i then false else if j = i + 1 ∨ j = i + 5 ∨ j = i + 7 then !u j else u j) else u j
theorem dv_step {S : ob_S} {D0 : ob_D} {M n i : Nat} {g : Nat → Int32} {u : Nat → Bool} (hr : D0.2.1 M 18 = M + 4) (hS : S.2.1 (M + 4) = 63) (hi : i < 56) (hg : ∀ j, j < 63 → g j = bI (u j)) : ∃ g', f_Model_divides_L46 S (n + 1) M (N32 i) (ob_wb D0 (M + 4) g) = f_Model_divides_L46 S n M (N32 (i + 1)) (ob_wb D0 (M + 4) g') ∧ ∀ j, j < 63 → g' j = bI (dv_u u i j) := by
  have e1 : N32 i + (1 : Int32) = N32 (i + 1) := nb_add i 1
  have e5 : N32 i + (5 : Int32) = N32 (i + 5) := nb_add i 5
  have e7 : N32 i + (7 : Int32) = N32 (i + 7) := nb_add i 7
  have hr' : ∀ g, (ob_wb D0 (M + 4) g).2.1 M 18 = M + 4 := fun _ => hr
  have hin : ∀ j, j < 63 → ob_in (N32 j) 63 = True := fun j hj => by rw [nb_in (by omega)]; simp [hj]
  have hcl : ∀ j, j < 63 → (N32 j).toNatClampNeg = j := fun j hj => nb_clamp (by omega)
  rw [f_Model_divides_L46, e7, if_neg (by rw [show (63 : Int32) = N32 63 from rfl, nb_le (by decide) (by omega)]; omega), hr', if_pos (by omega), hS, if_pos (by rw [hin i (by omega)]; trivial)]
  cases hu : u i
  · rw [if_pos (by rw [hcl i (by omega), ob_wb_b, hg i (by omega), hu]; rfl), e1]
    exact ⟨g, rfl, fun j hj => by rw [hg j hj]; simp [dv_u, hu]⟩
  · rw [if_neg (by rw [hcl i (by omega), ob_wb_b, hg i (by omega), hu]; decide), if_pos (by omega), if_pos (by rw [hin i (by omega)]; trivial)]
    refine ⟨fun r => if r = i + 7 then bI (!u (i + 7)) else if r = i + 5 then bI (!u (i + 5)) else if r = i + 1 then bI (!u (i + 1)) else if r = i then 0 else g r, ?_, fun j hj => ?_⟩
    · have n1 := hin (i + 1) (by omega)
      have n5 := hin (i + 5) (by omega)
      have n7 := hin (i + 7) (by omega)
      have c1 := hcl (i + 1) (by omega)
      have c5 := hcl (i + 5) (by omega)
      have c7 := hcl (i + 7) (by omega)
      have g1 := hg (i + 1) (by omega)
      have g5 := hg (i + 5) (by omega)
      have g7 := hg (i + 7) (by omega)
      have c0 := hcl i (by omega)
      have hne : (M + 4 ≠ 0) = True := by simp
      have f1 : (i + 1 = i) = False := by simp
      have f2 : (i + 5 = i + 1) = False := by simp
      have f3 : (i + 5 = i) = False := by simp
      have f4 : (i + 7 = i + 5) = False := by simp
      have f5 : (i + 7 = i + 1) = False := by simp
      have f6 : (i + 7 = i) = False := by simp
      have one0 : ((1 : Int32) = 0) = False := by simp
      have bt : bI true = 1 := rfl
      have bf : bI false = 0 := rfl
      cases u1 : u (i + 1) <;> cases u5 : u (i + 5) <;> cases u7 : u (i + 7) <;> rw [u1] at g1 <;> rw [u5] at g5 <;> rw [u7] at g7 <;> simp only [f_Model_divides_L94, f_Model_divides_L118, ob_lt, ob_wb_pI, ob_wb_b, hr', hS, e1, e5, e7, n1, n5, n7, c0, c1, c5, c7, g1, g5, g7, hne, f1, f2, f3, f4, f5, f6, one0, bt, bf, if_true, if_false, or_one, or_zero, Bool.not_true, Bool.not_false]
    · unfold dv_u
      rw [hu]
      simp only [if_true]
      by_cases j7 : j = i + 7
      · subst j7; simp
      · by_cases j5 : j = i + 5
        · subst j5; simp
        · by_cases j1 : j = i + 1
          · subst j1; simp
          · by_cases j0 : j = i
            · subst j0; simp [bI]
            · simp [j7, j5, j1, j0, hg j hj]
theorem dv_val : ∀ b0 b1 b2 b3 b4 b5 b6 b7 : Bool, bn [if b0 then !b1 else b1, b2, b3, b4, if b0 then !b5 else b5, b6, if b0 then !b7 else b7] = rm_s (bn [b0, b1, b2, b3, b4, b5, b6]) b7 := by decide
def dv7 (u : Nat → Bool) (i : Nat) : Nat := bn [u i, u (i + 1), u (i + 2), u (i + 3), u (i + 4), u (i + 5), u (i + 6)]
theorem dv7_step (u : Nat → Bool) (i : Nat) : dv7 (dv_u u i) (i + 1) = rm_s (dv7 u i) (u (i + 7)) := by
  unfold dv7
  rw [← dv_val]
  unfold dv_u
  congr 1
  cases u i <;> simp <;> omega
theorem dv_L {S : ob_S} {D0 : ob_D} {M : Nat} {t : Nat → Bool} (hr : D0.2.1 M 18 = M + 4) (hS : S.2.1 (M + 4) = 63) : ∀ (d n i : Nat) (g : Nat → Int32) (u : Nat → Bool), i + d = 56 → d < n → (∀ j, j < 63 → g j = bI (u j)) → (∀ j, i + 7 ≤ j → u j = t j) → dv7 u i = rm ((List.range (i + 7)).map t) → ∃ g' u', f_Model_divides_L46 S n M (N32 i) (ob_wb D0 (M + 4) g) = f_Model_divides_L154 S ob_FU M 56 (ob_wb D0 (M + 4) g') ∧ (∀ j, j < 63 → g' j = bI (u' j)) ∧ dv7 u' 56 = rm ((List.range 63).map t) := by
  intro d
  induction d with
  | zero =>
    intro n i g u hi hn hg _ hv
    match n, hn with
    | n + 1, _ =>
      have : i = 56 := by omega
      subst this
      refine ⟨g, u, ?_, hg, hv⟩
      rw [f_Model_divides_L46, if_pos (by decide)]
  | succ d ih =>
    intro n i g u hi hn hg ht hv
    match n, hn with
    | n + 1, hn =>
      obtain ⟨g1, p1, p2⟩ := dv_step (n := n) hr hS (show i < 56 by omega) hg
      rw [p1]
      refine ih n (i + 1) g1 (dv_u u i) (by omega) (by omega) p2 (fun j hj => ?_) ?_
      · rw [← ht j (by omega)]
        unfold dv_u
        split
        · rw [if_neg (by omega), if_neg (by omega)]
        · rfl
      · rw [dv7_step, hv, ht (i + 7) (by omega), show i + 1 + 7 = (i + 7) + 1 by omega, List.range_succ (n := i + 7), List.map_append, List.map_singleton, rm_snoc]
theorem dv7_zero (u : Nat → Bool) (i : Nat) : (dv7 u i = 0) ↔ (u i = false ∧ u (i + 1) = false ∧ u (i + 2) = false ∧ u (i + 3) = false ∧ u (i + 4) = false ∧ u (i + 5) = false ∧ u (i + 6) = false) := by
  unfold dv7
  have : ∀ b0 b1 b2 b3 b4 b5 b6 : Bool, bn [b0, b1, b2, b3, b4, b5, b6] = 0 ↔ (b0 = false ∧ b1 = false ∧ b2 = false ∧ b3 = false ∧ b4 = false ∧ b5 = false ∧ b6 = false) := by
    intro b0 b1 b2 b3 b4 b5 b6
    cases b0 <;> cases b1 <;> cases b2 <;> cases b3 <;> cases b4 <;> cases b5 <;> cases b6 <;> decide
  exact this _ _ _ _ _ _ _
theorem dv_end {S : ob_S} {D0 : ob_D} {M : Nat} {g : Nat → Int32} {u : Nat → Bool} (hr : D0.2.1 M 18 = M + 4) (hS : S.2.1 (M + 4) = 63) (hg : ∀ j, j < 63 → g j = bI (u j)) : f_Model_divides_L154 S ob_FU M 56 (ob_wb D0 (M + 4) g) = some (bI (decide (dv7 u 56 = 0)), ob_wb D0 (M + 4) g) := by
  have hr' : ∀ g, (ob_wb D0 (M + 4) g).2.1 M 18 = M + 4 := fun _ => hr
  have st : ∀ n i, i < 63 → f_Model_divides_L154 S (n + 1) M (N32 i) (ob_wb D0 (M + 4) g) = if u i = true then some (0, ob_wb D0 (M + 4) g) else f_Model_divides_L154 S n M (N32 (i + 1)) (ob_wb D0 (M + 4) g) := by
    intro n i hi
    have e1 : N32 i + (1 : Int32) = N32 (i + 1) := nb_add i 1
    rw [f_Model_divides_L154, if_neg (by rw [show (63 : Int32) = N32 63 from rfl, nb_le (by decide) (by omega)]; omega), hr', if_pos (by omega), hS, if_pos (by rw [nb_in (by omega)]; exact hi), nb_clamp (by omega), ob_wb_b, hg i hi, if_bI, e1]
  have hend : ∀ n, f_Model_divides_L154 S (n + 1) M (N32 63) (ob_wb D0 (M + 4) g) = some (1, ob_wb D0 (M + 4) g) := by
    intro n
    rw [f_Model_divides_L154, if_pos (by decide)]
  have hz := dv7_zero u 56
  rw [ob_FU_eq]
  show f_Model_divides_L154 S (999992 + 8) M (N32 56) _ = _
  rw [st _ 56 (by decide), st _ 57 (by decide), st _ 58 (by decide), st _ 59 (by decide), st _ 60 (by decide), st _ 61 (by decide), st _ 62 (by decide), hend]
  simp only [Nat.reduceAdd] at hz
  cases h0 : u 56 <;> cases h1 : u 57 <;> cases h2 : u 58 <;> cases h3 : u 59 <;> cases h4 : u 60 <;> cases h5 : u 61 <;> cases h6 : u 62 <;> simp [h0, h1, h2, h3, h4, h5, h6] at hz <;> simp [hz, bI]
theorem dv_copy {S : ob_S} {D0 : ob_D} {M : Nat} {v : Int32} {c : Nat → Bool} (hr : D0.2.1 M 18 = M + 4) (hb : D0.2.1 M 11 = M + 2) (hS : S.2.1 (M + 4) = 63) (hS2 : S.2.1 (M + 2) = 64) (hc : ∀ j, j < 63 → D0.1 (M + 2) j = bI (c j)) : ∀ (d n i : Nat) (g : Nat → Int32), i + d = 63 → d < n → (∀ j, j < i → g j = bI (c j != decide (N32 j = v))) → ∃ g', f_Model_divides_L2 S n M v (N32 i) (ob_wb D0 (M + 4) g) = f_Model_divides_L46 S ob_FU M 0 (ob_wb D0 (M + 4) g') ∧ ∀ j, j < 63 → g' j = bI (c j != decide (N32 j = v)) := by
  have hr' : ∀ g, (ob_wb D0 (M + 4) g).2.1 M 18 = M + 4 := fun _ => hr
  have hb' : ∀ g, (ob_wb D0 (M + 4) g).2.1 M 11 = M + 2 := fun _ => hb
  intro d
  induction d with
  | zero =>
    intro n i g hi hn hg
    match n, hn with
    | n + 1, _ =>
      refine ⟨g, ?_, fun j hj => hg j (by omega)⟩
      rw [f_Model_divides_L2, if_pos (by rw [show (63 : Int32) = N32 63 from rfl, nb_le (by decide) (by omega)]; omega)]
  | succ d ih =>
    intro n i g hi hn hg
    match n, hn with
    | n + 1, hn =>
      have e1 : N32 i + (1 : Int32) = N32 (i + 1) := nb_add i 1
      obtain ⟨g', p1, p2⟩ := ih n (i + 1) (fun r => if r = i then bI (c i != decide (N32 i = v)) else g r) (by omega) (by omega) (fun j hj => by
        by_cases hji : j = i
        · rw [if_pos hji, hji]
        · rw [if_neg hji, hg j (by omega)])
      refine ⟨g', ?_, p2⟩
      rw [← p1, f_Model_divides_L2, if_neg (by rw [show (63 : Int32) = N32 63 from rfl, nb_le (by decide) (by omega)]; omega), hr', if_pos (by omega), hb', if_pos (by omega), hS2, if_pos (by rw [nb_in (by omega)]; omega), nb_clamp (by omega), ob_wb_ne D0 g i (by omega), hc i (by omega)]
      have hin : ob_in (N32 i) 63 := by rw [nb_in (by omega)]; omega
      have hcl : (N32 i).toNatClampNeg = i := nb_clamp (by omega)
      by_cases hv : N32 i = v
      · rw [if_pos hv]
        have : (c i != decide (N32 i = v)) = !c i := by simp [hv]
        rw [this]
        unfold f_Model_divides_L29
        cases hci : c i
        · rw [if_neg (by decide), hS, if_pos hin]
          simp only [ob_lt, hcl, ob_wb_pI, e1, or_one]
          rfl
        · rw [if_pos (by rfl), hS, if_pos hin]
          simp only [ob_lt, hcl, ob_wb_pI, e1, or_zero]
          rfl
      · rw [if_neg hv]
        have : (c i != decide (N32 i = v)) = c i := by simp [hv]
        rw [this]
        unfold f_Model_divides_L29
        cases hci : c i
        · rw [if_pos (by rfl), hS, if_pos hin]
          simp only [ob_lt, hcl, ob_wb_pI, e1, or_zero]
          rfl
        · rw [if_neg (by decide), hS, if_pos hin]
          simp only [ob_lt, hcl, ob_wb_pI, e1, or_one]
          rfl
theorem dv_ok {S : ob_S} {D : ob_D} {M : Nat} {v : Int32} {c : Nat → Bool} (hr : D.2.1 M 18 = M + 4) (hb : D.2.1 M 11 = M + 2) (hS : S.2.1 (M + 4) = 63) (hS2 : S.2.1 (M + 2) = 64) (hc : ∀ j, j < 63 → D.1 (M + 2) j = bI (c j)) : ∃ D', f_Model_divides S M v D = some (bI (decide (rm ((List.range 63).map (fun j => c j != decide (N32 j = v))) = 0)), D') ∧ og (fun y _ => y = M + 4) D D' := by
  obtain ⟨g1, p1, p2⟩ := dv_copy (v := v) hr hb hS hS2 hc 63 ob_FU 0 (D.1 (M + 4)) (by decide) (by rw [ob_FU_eq]; decide) (fun j hj => absurd hj (by omega))
  rw [ob_wb_self] at p1
  have h7 : dv7 (fun j => c j != decide (N32 j = v)) 0 = rm ((List.range (0 + 7)).map (fun j => c j != decide (N32 j = v))) := by
    have : ∀ b0 b1 b2 b3 b4 b5 b6 : Bool, bn [b0, b1, b2, b3, b4, b5, b6] = rm [b0, b1, b2, b3, b4, b5, b6] := by decide
    exact this _ _ _ _ _ _ _
  obtain ⟨g2, u2, q1, q2, q3⟩ := dv_L (t := fun j => c j != decide (N32 j = v)) hr hS 56 ob_FU 0 g1 _ (by decide) (by rw [ob_FU_eq]; decide) p2 (fun j _ => rfl) h7
  refine ⟨ob_wb D (M + 4) g2, ?_, og.wb (fun _ => rfl)⟩
  have q1' : f_Model_divides_L46 S ob_FU M 0 (ob_wb D (M + 4) g1) = _ := q1
  rw [f_Model_divides, show (0 : Int32) = N32 0 from rfl, p1, q1', dv_end hr hS q2, q3]
