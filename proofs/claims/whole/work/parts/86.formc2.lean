-- ===== forms: what the class does with them =====
def fm_add (c : List Nat) (l : List sFm) : List sFm := ky_ins (fun f : sFm => f.1) (c.getD 11 0, false, c.getD 12 0, fmps c) l
def fm_on (b : Bool) (k : Nat) (l : List sFm) : List sFm := match ky_find (fun f : sFm => f.1) k l with
  | none => l
  | some i => match l[i]? with
    | none => l
    | some f => l.set i (f.1, b, f.2.2.1, f.2.2.2)
def fm_rem (k : Nat) (l : List sFm) : List sFm := match ky_find (fun f : sFm => f.1) k l with
  | none => l
  | some i => l.eraseIdx i
theorem ob_mn_n {a b : Nat} (ha : a < 2147483648) (hb : b < 2147483648) : ob_mn (N32 a) (N32 b) = N32 (min a b) := by
  unfold ob_mn
  rw [if_lt hb ha]
  by_cases h : b < a
  · rw [if_pos h, Nat.min_eq_right (by omega)]
  · rw [if_neg h, Nat.min_eq_left (by omega)]
theorem hc_addform {S : ob_S} {D : ob_D} {B m fr : Nat} {c : List Nat} {l : List sFm} (h : cHd S D B m fr) (hc : cCm S D B m fr c) (hk : cFm S D (B + 29 + 2 * m + 80 + 2 * fr + 10) l) (hl : c.length = 16 + c.getD 13 0) (hf : nf_v c l = 0) : ∃ D', f_Handler_addForm S (B + 29 + 2 * m + 80 + 2 * fr + 9) D = some D' ∧ cFm S D' (B + 29 + 2 * m + 80 + 2 * fr + 10) (fm_add c l) ∧ ob_ag (fun y => y = B + 29 + 2 * m + 80 + 2 * fr + 10 ∨ y = B + 29 + 2 * m + 80 + 2 * fr + 11) D D' := by
  have hb := hc.2.2.2.2.2.2.2.2
  have hb11 := by_getD_lt hb 11
  have hb12 := by_getD_lt hb 12
  have hb13 := by_getD_lt hb 13
  have hpl := fmps_len hl
  -- what nf_v says
  unfold nf_v at hf
  have h12 : c.getD 12 0 ≠ 0 := by intro e; rw [if_pos e] at hf; exact absurd hf (by decide)
  rw [if_neg h12] at hf
  have h13 : c.getD 13 0 ≠ 0 := by intro e; rw [if_pos e] at hf; exact absurd hf (by decide)
  rw [if_neg h13] at hf
  have h8 : c.getD 13 0 ≤ 8 := by
    by_cases e : c.getD 13 0 ≤ 8
    · exact e
    · rw [if_neg e] at hf; exact absurd hf (by decide)
  rw [if_pos h8] at hf
  have hall : (fmps c).all (fun x => decide (x < 32)) = true := by
    by_cases e : (fmps c).all (fun x => decide (x < 32)) = true
    · exact e
    · rw [if_neg e] at hf; exact absurd hf (by decide)
  rw [if_pos hall] at hf
  unfold pl_v at hf
  have hnone : ky_find (fun f : sFm => f.1) (c.getD 11 0) l = none := by
    cases e : ky_find (fun f : sFm => f.1) (c.getD 11 0) l with
    | none => rfl
    | some i => rw [e] at hf; exact absurd hf (by simp)
  rw [hnone] at hf
  have hroom : l.length < 8 := by
    by_cases e : l.length < 8
    · exact e
    · rw [if_neg (by simp), if_neg e] at hf; exact absurd hf (by decide)
  -- the steps
  have d0 : f_Handler_data S (B + 29 + 2 * m + 80 + 2 * fr + 9) 0 1 D = some (N32 (c.getD 11 0), D) := hc_d1 h hc (i := 0) (by decide)
  obtain ⟨D6, a1, a2, a3⟩ := kt_add (cFm_kt.mp hk) fm_l0 fm_o0 hb11 hroom
  obtain ⟨p, hp⟩ : ∃ p, p = ky_pos (fun f : sFm => f.1) (c.getD 11 0) l := ⟨_, rfl⟩
  have hple := ky_pos_le (fun f : sFm => f.1) (c.getD 11 0) l
  rw [← hp] at a1 a2 hple
  have hA : ((l.map fm_line).take p).length = p := by rw [List.length_take, List.length_map]; omega
  have g6 : ob_ag (fun y => y = B + 29 + 2 * m + 80 + 2 * fr + 10 ∨ y = B + 29 + 2 * m + 80 + 2 * fr + 11) D D6 := a3
  have hc6 : cCm S D6 B m fr c := hc.kept g6 (by omega) (by omega)
  have h6 : cHd S D6 B m fr := h.keep g6.up (by omega) rfl
  obtain ⟨D14, b1, b2, b3⟩ := kt_in a2 hA (j := 2) (by decide) (N32 (c.getD 12 0))
  have g14 := g6.tr (b3.mono (Q := fun y => y = B + 29 + 2 * m + 80 + 2 * fr + 10 ∨ y = B + 29 + 2 * m + 80 + 2 * fr + 11) (fun y e => Or.inr e))
  have hc14 : cCm S D14 B m fr c := hc.kept g14 (by omega) (by omega)
  have h14 : cHd S D14 B m fr := h.keep g14.up (by omega) rfl
  obtain ⟨D21, e1, e2, e3⟩ := kt_in b2 hA (j := 3) (by decide) (N32 (c.getD 13 0))
  have g21 := g14.tr (e3.mono (Q := fun y => y = B + 29 + 2 * m + 80 + 2 * fr + 10 ∨ y = B + 29 + 2 * m + 80 + 2 * fr + 11) (fun y e => Or.inr e))
  have d1 : f_Handler_data S (B + 29 + 2 * m + 80 + 2 * fr + 9) 1 1 D6 = some (N32 (c.getD 12 0), D6) := hc_d1 h6 hc6 (i := 1) (by decide)
  have d2 : f_Handler_data S (B + 29 + 2 * m + 80 + 2 * fr + 9) 2 1 D14 = some (N32 (c.getD 13 0), D14) := hc_d1 h14 hc14 (i := 2) (by decide)
  have emn : ob_mn (N32 (c.getD 13 0)) (8 : Int32) = N32 (c.getD 13 0) := by
    have : ob_mn (N32 (c.getD 13 0)) (N32 8) = _ := ob_mn_n (by omega) (by decide)
    rw [Nat.min_eq_left h8] at this
    exact this
  have hL : ∀ (d n j : Nat) (D1 : ob_D), j + d = c.getD 13 0 → d < n → ob_ag (fun y => y = B + 29 + 2 * m + 80 + 2 * fr + 10 ∨ y = B + 29 + 2 * m + 80 + 2 * fr + 11) D D1 → (∃ g : Nat → Int32, tb_at S D1 (B + 29 + 2 * m + 80 + 2 * fr + 10) (B + 29 + 2 * m + 80 + 2 * fr + 10 + 1) 8 12 ((l.map fm_line).take p ++ g :: (l.map fm_line).drop p) ∧ (∀ q, q < 4 + j → g q = fm_line (c.getD 11 0, false, c.getD 12 0, fmps c) q) ∧ ∀ q, 4 + j ≤ q → g q = 0) → ∃ D', f_Handler_addForm_L53 S n (B + 29 + 2 * m + 80 + 2 * fr + 9) (N32 p) (N32 (c.getD 13 0)) (N32 j) D1 = some D' ∧ (∃ g : Nat → Int32, tb_at S D' (B + 29 + 2 * m + 80 + 2 * fr + 10) (B + 29 + 2 * m + 80 + 2 * fr + 10 + 1) 8 12 ((l.map fm_line).take p ++ g :: (l.map fm_line).drop p) ∧ (∀ q, q < 4 + c.getD 13 0 → g q = fm_line (c.getD 11 0, false, c.getD 12 0, fmps c) q) ∧ ∀ q, 4 + c.getD 13 0 ≤ q → g q = 0) ∧ ob_ag (fun y => y = B + 29 + 2 * m + 80 + 2 * fr + 10 ∨ y = B + 29 + 2 * m + 80 + 2 * fr + 11) D D' := by
    intro d
    induction d with
    | zero =>
      intro n j D1 hj hn g1 hg
      match n, hn with
      | n + 1, _ =>
        have hj' : j = c.getD 13 0 := hj
        refine ⟨D1, ?_, hj' ▸ hg, g1⟩
        rw [f_Handler_addForm_L53, if_pos (by rw [nb_le (by omega) (by omega)]; omega)]
    | succ d ih =>
      intro n j D1 hj hn g1 hg
      match n, hn with
      | n + 1, hn =>
        obtain ⟨g, hg1, hg2, hg3⟩ := hg
        have hc1 : cCm S D1 B m fr c := hc.kept g1 (by omega) (by omega)
        have h1 : cHd S D1 B m fr := h.keep g1.up (by omega) rfl
        have e3 : (3 : Int32) + N32 j = N32 (3 + j) := nb_add 3 j
        have e4 : (4 : Int32) + N32 j = N32 (4 + j) := nb_add 4 j
        have ej : N32 j + (1 : Int32) = N32 (j + 1) := nb_add _ 1
        have ed : f_Handler_data S (B + 29 + 2 * m + 80 + 2 * fr + 9) (N32 (3 + j)) 1 D1 = some (N32 (c.getD (11 + (3 + j)) 0), D1) := hc_d1 h1 hc1 (by omega)
        rw [show 11 + (3 + j) = 14 + j by omega] at ed
        obtain ⟨D2, u1, u2, u3⟩ := kt_in hg1 hA (j := 4 + j) (by omega) (N32 (c.getD (14 + j) 0))
        have g2 := g1.tr (u3.mono (Q := fun y => y = B + 29 + 2 * m + 80 + 2 * fr + 10 ∨ y = B + 29 + 2 * m + 80 + 2 * fr + 11) (fun y e => Or.inr e))
        obtain ⟨D', t1, t2, t3⟩ := ih n (j + 1) D2 (by omega) (by omega) g2 ⟨_, u2, fun q hq => by
          show (if q = 4 + j then N32 (c.getD (14 + j) 0) else g q) = _
          by_cases hqj : q = 4 + j
          · rw [if_pos hqj, hqj]
            unfold fm_line
            rw [if_neg (by omega), if_neg (by omega), if_neg (by omega), if_neg (by omega), Nat.add_sub_cancel_left, fmps_get (by omega)]
          · rw [if_neg hqj]; exact hg2 q (by omega), fun q hq => by
          show (if q = 4 + j then N32 (c.getD (14 + j) 0) else g q) = _
          rw [if_neg (by omega)]; exact hg3 q (by omega)⟩
        refine ⟨D', ?_, t2, t3⟩
        rw [f_Handler_addForm_L53, if_neg (by rw [nb_le (by omega) (by omega)]; omega), h1.2.2.2.2.2.1, if_pos (by omega), e3, ed]
        simp only [ob_bd]
        rw [e4, u1]
        simp only [ob_bv]
        rw [ej]
        exact t1
  obtain ⟨D', t1, ⟨g, t2, t3, t4⟩, t5⟩ := hL (c.getD 13 0) ob_FU 0 D21 (by omega) (by rw [ob_FU_eq]; omega) g21 ⟨_, e2, fun q hq => by
    show (if q = 3 then N32 (c.getD 13 0) else if q = 2 then N32 (c.getD 12 0) else if q = 0 then N32 (c.getD 11 0) else 0) = _
    unfold fm_line
    rcases (show q = 0 ∨ q = 1 ∨ q = 2 ∨ q = 3 by omega) with e | e | e | e <;> subst e
    · rfl
    · rfl
    · rfl
    · show N32 (c.getD 13 0) = N32 (fmps c).length
      rw [hpl], fun q hq => by
    show (if q = 3 then N32 (c.getD 13 0) else if q = 2 then N32 (c.getD 12 0) else if q = 0 then N32 (c.getD 11 0) else 0) = _
    rw [if_neg (by omega), if_neg (by omega), if_neg (by omega)]⟩
  refine ⟨D', ?_, ?_, t5⟩
  · unfold f_Handler_addForm
    rw [h.2.2.2.2.2.1, if_pos (by omega), d0]
    simp only [ob_bd]
    rw [a1]
    simp only [ob_bd]
    rw [h6.2.2.2.2.2.1, if_pos (by omega), d1]
    simp only [ob_bd]
    have b1' : f_Table_set S (B + 29 + 2 * m + 80 + 2 * fr + 10) (N32 p) 2 (N32 (c.getD 12 0)) D6 = some D14 := b1
    have e1' : f_Table_set S (B + 29 + 2 * m + 80 + 2 * fr + 10) (N32 p) 3 (N32 (c.getD 13 0)) D14 = some D21 := e1
    rw [b1']
    simp only [ob_bv]
    rw [d2]
    simp only [ob_bd]
    rw [h14.2.2.2.2.2.1, if_pos (by omega), emn, e1']
    simp only [ob_bv]
    exact t1
  · show cKt S D' (B + 29 + 2 * m + 80 + 2 * fr + 10) 8 12 (fun f : sFm => f.1) fm_line fm_ok (fm_add c l)
    rw [hp] at t2
    refine kt_end t2 (fun j hj => ?_) hk.2.1 (ky_find_none.mp hnone) hk.2.2 ?_
    · by_cases hj4 : j < 4 + c.getD 13 0
      · exact (t3 j hj4).symm
      · rw [t4 j (by omega)]
        unfold fm_line
        rw [if_neg (by omega), if_neg (by omega), if_neg (by omega), if_neg (by omega)]
        show N32 ((fmps c).getD (j - 4) 0) = 0
        rw [List.getD_eq_getElem?_getD, List.getElem?_eq_none (by omega)]
        rfl
    · refine ⟨hb11, by show 1 ≤ c.getD 12 0; omega, hb12, by show 1 ≤ (fmps c).length; omega, by show (fmps c).length ≤ 8; omega, fun x hx => ?_⟩
      have := List.all_eq_true.mp hall x hx
      simpa using this
