-- ===== the gate: what it does =====
abbrev sGt : Type := Nat × Nat × Nat × Bool × Bool × Int32 × Int32 × List (List Nat)
def gt_body (c : List Nat) : List Nat := (c.drop 5).take (nn c 2 2 - 6)
def gt_dir (c : List Nat) : Bool := (nn c 2 2 == 7 && c.getD 5 0 == 0) || (nn c 2 2 == 9 && nn c 5 2 == 33280)
def gt_form (c : List Nat) : Bool := Nat.ble 7 (nn c 2 2) && Nat.ble (nn c 2 2) 1023 && Nat.ble (nn c 2 2 + 1) c.length && Nat.beq (cr_f (c.take (nn c 2 2 + 1))) 0
def gt_valid (c : List Nat) : Bool := gt_form c && (nn c 0 2 == 346 || nn c 0 2 == 8538 || (nn c 0 2 == 12634 && gt_dir c))
def gt_ahead (c : List Nat) (nx : Nat) : Nat := (c.getD 4 0 + 256 - nx) % 256
def gt_turn (c : List Nat) : sGt → Bool × sGt
  | (st, nx, bs, wt, ag, rf, ac, q) => if st = 1 ∧ gt_ahead c nx = 0 then (if q.length < 8 then (true, (st, (nx + 1) % 256, bs, wt, false, rf, ac + 1, q ++ [gt_body c])) else (false, (2, nx, bs, true, true, rf, ac, q)))
      else if st = 1 ∧ gt_ahead c nx ≤ 9 then (false, (st, nx, bs, wt, true, rf, ac, q))
      else if 10 ≤ gt_ahead c nx ∧ gt_ahead c nx ≤ 245 then (false, (3, nx, bs, wt, ag, rf, ac, q))
      else (false, (st, nx, bs, wt, ag, rf, ac, q))
def gt_beside (c : List Nat) : sGt → Bool × sGt
  | (st, nx, bs, wt, ag, rf, ac, q) => if q.length < 8 then (true, (st, nx, (bs + 1) % 4, wt, ag, rf, ac + 1, q ++ [gt_body c])) else (false, (st, nx, bs, wt, ag, rf + 1, ac, q))
def gt_obey (c : List Nat) : sGt → Bool × sGt
  | (st, nx, bs, wt, ag, rf, ac, q) => if nn c 2 2 = 9 then (if st = 3 then (false, (st, nx, (bs + 1) % 4, wt, ag, rf, ac, q)) else (false, (1, c.getD 7 0, (bs + 1) % 4, false, false, rf, ac, q))) else (false, (1, nx, (bs + 1) % 4, false, false, rf, ac, q))
def gt_receive (c : List Nat) (z : sGt) : Bool × sGt := if gt_valid c = true then (if nn c 0 2 = 346 then gt_turn c z else if nn c 0 2 = 8538 then gt_beside c z else gt_obey c z) else (false, match z with | (st, nx, bs, wt, ag, rf, ac, q) => (st, nx, bs, wt, ag, rf + 1, ac, q))
-- ===== the class's gate =====
def cGtQ (S : ob_S) (D : ob_D) (g : Nat) (q : List (List Nat)) : Prop := D.2.1 g 0 = g + 1 ∧ S.2.1 (g + 1) = 8 ∧ (∀ i, i < 8 → D.2.1 (g + 1) i = g + 2 + 2 * i) ∧ ∃ (f : Nat) (rows : Nat → List Nat), f < 8 ∧ D.1 g 1 = N32 f ∧ D.1 g 2 = N32 q.length ∧ q.length ≤ 8 ∧ (∀ i, i < 8 → rw_at S D (g + 2 + 2 * i) (g + 3 + 2 * i) 252 (rows i)) ∧ ∀ i, i < q.length → rows ((f + i) % 8) = q.getD i []
def cGtF (D : ob_D) (g : Nat) (st nx bs : Nat) (wt ag : Bool) (rf ac : Int32) : Prop := D.1 g 3 = N32 st ∧ (1 ≤ st ∧ st ≤ 3) ∧ D.1 g 4 = N32 nx ∧ nx < 256 ∧ D.1 g 7 = N32 bs ∧ bs < 4 ∧ D.1 g 5 = bI wt ∧ D.1 g 6 = bI ag ∧ D.1 g 8 = rf ∧ D.1 g 9 = ac
def cGt (S : ob_S) (D : ob_D) (g : Nat) : sGt → Prop
  | (st, nx, bs, wt, ag, rf, ac, q) => cGtQ S D g q ∧ cGtF D g st nx bs wt ag rf ac
theorem cGtQ.keep {S S' : ob_S} {D D' : ob_D} {g : Nat} {q : List (List Nat)} {P : Nat → Nat → Prop} (h : cGtQ S D g q) (a : og P D D') (h0 : ∀ k, k < 3 → ¬ P g k) (hP : ∀ y k, g < y → y < g + 18 → ¬ P y k) (hS : ∀ y, g ≤ y → y < g + 18 → S'.2.1 y = S.2.1 y) : cGtQ S' D' g q := by
  obtain ⟨h1, h2, h3, f, rows, h4, h5, h6, h7, h8, h9⟩ := h
  exact ⟨by rw [(a g 0 (h0 0 (by decide))).2.1]; exact h1, by rw [hS _ (by omega) (by omega)]; exact h2, fun i hi => by rw [(a (g + 1) i (hP _ _ (by omega) (by omega))).2.1]; exact h3 i hi, f, rows, h4, by rw [(a g 1 (h0 1 (by decide))).1]; exact h5, by rw [(a g 2 (h0 2 (by decide))).1]; exact h6, h7, fun i hi => (h8 i hi).keep a (fun k => hP _ k (by omega) (by omega)) (fun k => hP _ k (by omega) (by omega)) (hS _ (by omega) (by omega)), h9⟩
theorem cGtF.keep {D D' : ob_D} {g : Nat} {st nx bs : Nat} {wt ag : Bool} {rf ac : Int32} {P : Nat → Nat → Prop} (h : cGtF D g st nx bs wt ag rf ac) (a : og P D D') (h0 : ∀ k, 3 ≤ k → k < 10 → ¬ P g k) : cGtF D' g st nx bs wt ag rf ac := by
  obtain ⟨h1, h2, h3, h4, h5, h6, h7, h8, h9, h10⟩ := h
  exact ⟨by rw [(a g 3 (h0 3 (by decide) (by decide))).1]; exact h1, h2, by rw [(a g 4 (h0 4 (by decide) (by decide))).1]; exact h3, h4, by rw [(a g 7 (h0 7 (by decide) (by decide))).1]; exact h5, h6, by rw [(a g 5 (h0 5 (by decide) (by decide))).1]; exact h7, by rw [(a g 6 (h0 6 (by decide) (by decide))).1]; exact h8, by rw [(a g 8 (h0 8 (by decide) (by decide))).1]; exact h9, by rw [(a g 9 (h0 9 (by decide) (by decide))).1]; exact h10⟩
theorem cGt.keep {S S' : ob_S} {D D' : ob_D} {g : Nat} {z : sGt} {P : Nat → Nat → Prop} (h : cGt S D g z) (a : og P D D') (hP : ∀ y k, g ≤ y → y < g + 18 → ¬ P y k) (hS : ∀ y, g ≤ y → y < g + 18 → S'.2.1 y = S.2.1 y) : cGt S' D' g z := by
  obtain ⟨st, nx, bs, wt, ag, rf, ac, q⟩ := z
  exact ⟨h.1.keep a (fun k _ => hP _ _ (by omega) (by omega)) (fun y k h1 h2 => hP _ _ (by omega) h2) hS, h.2.keep a (fun k _ _ => hP _ _ (by omega) (by omega))⟩
theorem gtc_body {S : ob_S} {D : ob_D} {a b cap : Nat} {c : List Nat} (h : rw_at S D a b cap c) (h6 : 6 ≤ nn c 2 2) : f_Gate_bodyLength S a D = some (N32 (nn c 2 2 - 6), D) := by
  unfold f_Gate_bodyLength
  have e : f_Row_number S a 2 2 D = _ := rw_num h (f := 2) (c := 2) (by decide) (by decide)
  rw [e]
  simp only [ob_bd]
  have e1 : N32 (nn c 2 2) + (1 : Int32) = N32 (nn c 2 2 + 1) := nb_add _ 1
  rw [e1, show (5 : Int32) = N32 5 from rfl, nb_sub (by omega), show (2 : Int32) = N32 2 from rfl, nb_sub (by omega), show nn c 2 2 + 1 - 5 - 2 = nn c 2 2 - 6 by omega]
theorem gtc_enq {S : ob_S} {D : ob_D} {g a b cap : Nat} {c : List Nat} {q : List (List Nat)} (hq : cGtQ S D g q) (hf : rw_at S D a b cap c) (hd : (a < g ∨ g + 18 ≤ a) ∧ (b < g ∨ g + 18 ≤ b)) (h7 : 7 ≤ nn c 2 2) (hl : nn c 2 2 + 1 ≤ c.length) (hc : c.length ≤ 259) : if q.length < 8 then ∃ D', f_Gate_enqueue S g a D = some (1, D') ∧ cGtQ S D' g (q ++ [gt_body c]) ∧ D'.1 g 9 = D.1 g 9 + 1 ∧ og (fun y k => (y = g ∧ (k = 2 ∨ k = 9)) ∨ (g < y ∧ y < g + 18)) D D' else f_Gate_enqueue S g a D = some (0, D) := by
  obtain ⟨h1, h2, h3, f, rows, h4, h5, h6, h7q, h8, h9⟩ := hq
  by_cases hc8 : q.length < 8
  · rw [if_pos hc8]
    have er : (D.1 g 1 + D.1 g 2) - (D.1 g 1 + D.1 g 2) / (8 : Int32) * (8 : Int32) = N32 ((f + q.length) % 8) := by
      rw [h5, h6, nb_add, show (8 : Int32) = N32 8 from rfl, n_rem _ _ (by omega) (by decide)]
    have hi : (f + q.length) % 8 < 8 := Nat.mod_lt _ (by decide)
    unfold f_Gate_enqueue
    rw [er, if_pos (by rw [h6, show (8 : Int32) = N32 8 from rfl, nb_lt (by omega) (by decide)]; exact hc8), h1, if_pos (by omega), h2, if_pos (by rw [nb_in (by omega)]; exact hi), nb_clamp (by omega)]
    generalize hgen : (f + q.length) % 8 = i0 at *
    rw [h3 i0 hi, if_pos (by omega), gtc_body hf (by omega)]
    simp only [ob_bd]
    obtain ⟨D9, p1, p2, p3⟩ := rw_become (f := 5) (c := nn c 2 2 - 6) (h8 i0 hi) hf (by omega) (by omega) (by omega)
    have p1' : f_Row_become S (g + 2 + 2 * i0) a 5 (N32 (nn c 2 2 - 6)) D = some D9 := p1
    rw [p1']
    simp only [ob_bv, ob_lt]
    have e2 : D9.1 g 2 + 1 = N32 (q.length + 1) := by rw [p3.2 g 2 (by omega), h6]; exact nb_add _ 1
    have e9 : (ob_pI D9 g 2 (N32 (q.length + 1))).1 g 9 + 1 = D.1 g 9 + 1 := by
      show (if g = g ∧ 9 = 2 then _ else D9.1 g 9) + 1 = _
      rw [if_neg (by omega), p3.2 g 9 (by omega)]
    rw [e2, e9]
    have gq : og (fun y k => y = g ∧ (k = 2 ∨ k = 9)) D9 (ob_pI (ob_pI D9 g 2 (N32 (q.length + 1))) g 9 (D.1 g 9 + 1)) := (og.pI ⟨rfl, Or.inl rfl⟩).tr (og.pI ⟨rfl, Or.inr rfl⟩)
    refine ⟨_, rfl, ⟨by rw [← h1, ← p3.1]; rfl, h2, fun i hi => by rw [← h3 i hi, ← p3.1]; rfl, f, fun i => if i = i0 then gt_body c else rows i, h4, ?_, ?_, by simp; omega, fun i hi8 => ?_, fun i hil => ?_⟩, ?_, ?_⟩
    · rw [(gq g 1 (by omega)).1, p3.2 g 1 (by omega)]; exact h5
    · simp [ob_pI]
    · show rw_at S _ _ _ _ (if i = i0 then gt_body c else rows i)
      by_cases hii : i = i0
      · rw [if_pos hii, hii]
        exact p2.keep gq (fun k e => by omega) (fun k e => by omega) rfl
      · rw [if_neg hii]
        exact ((h8 i hi8).keep (p3.up) (fun k e => by omega) (fun k e => by omega) rfl).keep gq (fun k e => by omega) (fun k e => by omega) rfl
    · show (if (f + i) % 8 = i0 then gt_body c else rows ((f + i) % 8)) = _
      rw [List.length_append, List.length_singleton] at hil
      by_cases hlast : i = q.length
      · subst hlast
        rw [hgen, if_pos rfl]
        simp [List.getD_eq_getElem?_getD]
      · rw [if_neg (by omega), h9 i (by omega)]
        simp [List.getD_eq_getElem?_getD, List.getElem?_append_left (show i < q.length by omega)]
    · simp [ob_pI]
    · exact (p3.up2 (fun y k e => Or.inr (by omega))).tr (gq.mono (fun y k e => Or.inl e))
  · rw [if_neg hc8]
    unfold f_Gate_enqueue
    rw [if_neg (by rw [h6, show (8 : Int32) = N32 8 from rfl, nb_lt (by omega) (by decide)]; exact hc8)]
