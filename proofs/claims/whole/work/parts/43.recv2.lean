-- ===== the class's receiver =====
theorem if_le {α : Type} {a b : Nat} {x y : α} {i : Decidable (N32 a ≤ N32 b)} (ha : a < 2147483648) (hb : b < 2147483648) : (@ite _ (N32 a ≤ N32 b) i x y) = if a ≤ b then x else y := by
  by_cases h : a ≤ b
  · rw [if_pos h, if_pos (by rw [nb_le ha hb]; exact h)]
  · rw [if_neg h, if_neg (by rw [nb_le ha hb]; exact h)]
theorem if_lt {α : Type} {a b : Nat} {x y : α} {i : Decidable (N32 a < N32 b)} (ha : a < 2147483648) (hb : b < 2147483648) : (@ite _ (N32 a < N32 b) i x y) = if a < b then x else y := by
  by_cases h : a < b
  · rw [if_pos h, if_pos (by rw [nb_lt ha hb]; exact h)]
  · rw [if_neg h, if_neg (by rw [nb_lt ha hb]; exact h)]
theorem if_en {α : Type} {a b : Nat} {x y : α} {i : Decidable (N32 a = N32 b)} (ha : a < 2147483648) (hb : b < 2147483648) : (@ite _ (N32 a = N32 b) i x y) = if a = b then x else y := by
  by_cases h : a = b
  · rw [if_pos h, if_pos (by rw [nb_eq ha hb]; exact h)]
  · rw [if_neg h, if_neg (by rw [nb_eq ha hb]; exact h)]
theorem if_bI {α : Type} {b : Bool} {x y : α} {i : Decidable (bI b = 0)} : (@ite _ (bI b = 0) i x y) = if b = true then y else x := by
  cases b
  · rw [if_pos (by rfl), if_neg (by decide)]
  · rw [if_neg (by rw [bI_0]; simp), if_pos rfl]
theorem nb_m8 (a : Nat) : N32 (a + 8) + (-8 : Int32) = N32 a := by
  have h : N32 (a + 8) = N32 a + 8 := (nb_add a 8).symm
  rw [h, Int32.add_assoc, show (8 : Int32) + -8 = 0 from rfl, Int32.add_zero]
theorem by7_len (l : List Bool) : (by7 l).length = 7 := by simp [by7]
theorem by7_get (l : List Bool) {j : Nat} (hj : j < 7) : (by7 l).getD j 0 = bn ((l.drop (8 * j)).take 8) := by
  unfold by7
  simp [List.getD_eq_getElem?_getD, hj]
theorem by7_lt (l : List Bool) : ∀ x ∈ by7 l, x < 256 := by
  intro x hx
  unfold by7 at hx
  obtain ⟨i, _, rfl⟩ := List.mem_map.mp hx
  have := bn_lt ((l.drop (8 * i)).take 8)
  exact Nat.lt_of_lt_of_le this (Nat.pow_le_pow_right (by decide) (List.length_take_le _ _))
theorem rcc_bytes {S : ob_S} {r : Nat} {d : List Bool} {cand : List Nat} (hd : d.length = 64) (hc : cand.length + 7 ≤ 259) : ∀ (e n j : Nat) (D : ob_D), j + e = 7 → e < n → D.2.1 r 0 = r + 1 → D.2.2 r 4 = Int64.ofNat (bn d) → rw_at S D (r + 1) (r + 2) 259 (cand ++ (by7 d).take j) → ∃ D', f_Receiver_endBlock_L23 S n r 1 (N32 (56 - 8 * j)) D = f_Receiver_endBlock_L54 S r 1 D' ∧ rw_at S D' (r + 1) (r + 2) 259 (cand ++ by7 d) ∧ ob_ag (fun y => y = r + 1 ∨ y = r + 2) D D' := by
  intro e
  induction e with
  | zero =>
    intro n j D hj hn h0 h4 hw
    match n, hn with
    | n + 1, _ =>
      have : j = 7 := by omega
      subst this
      rw [f_Receiver_endBlock_L23, if_neg (by decide), if_pos (by decide)]
      rw [List.take_of_length_le (by rw [by7_len]; decide)] at hw
      exact ⟨D, rfl, hw, ob_ag.rf⟩
  | succ e ih =>
    intro n j D hj hn h0 h4 hw
    match n, hn with
    | n + 1, hn =>
      have hj7 : j < 7 := by omega
      have hlen : (cand ++ (by7 d).take j).length = cand.length + j := by
        rw [List.length_append, List.length_take, by7_len]
        omega
      obtain ⟨D1, q1, q2, q3⟩ := rw_add hw (N32 (bn d / 2 ^ (56 - 8 * j))) (c := 1) (by decide) (by omega)
      have hb : by_be (N32 (bn d / 2 ^ (56 - 8 * j))) 1 = [(by7 d).getD j 0] := by
        show [by_of _ 0] = _
        rw [by7_get d hj7, ← bn_byte hd (by omega)]
        unfold by_of
        rw [n_un]
        congr 1
        rw [Nat.mul_zero, Nat.shiftRight_zero]
        omega
      have hs := by_take_succ (l := by7 d) (f := 0) (k := j) (by rw [by7_len]; omega)
      rw [List.drop_zero, Nat.zero_add] at hs
      rw [hb, List.append_assoc, ← hs] at q2
      have h0' : D1.2.1 r 0 = r + 1 := by rw [q3.1]; exact h0
      have h4' : D1.2.2 r 4 = Int64.ofNat (bn d) := by rw [q3.1]; exact h4
      obtain ⟨D2, p1, p2, p3⟩ := ih n (j + 1) D1 (by omega) (by omega) h0' h4' q2
      refine ⟨D2, ?_, p2, q3.tr p3⟩
      rw [f_Receiver_endBlock_L23, if_neg (by decide), if_neg (by rw [show (8 : Int32) = N32 8 from rfl, nb_lt (by omega) (by decide)]; omega), if_pos (by rw [h0]; omega), h0, h4, n64_ushr _ _ (Nat.lt_of_lt_of_le (bn_lt d) (by rw [hd]; exact Nat.le_refl _)) (by omega)]
      have q1' : f_Row_add S (r + 1) (N32 (bn d / 2 ^ (56 - 8 * j))) 1 D = some D1 := q1
      rw [q1']
      simp only [ob_bv]
      rw [show 56 - 8 * j = (56 - 8 * (j + 1)) + 8 by omega, nb_m8]
      exact p1
theorem rcc_begin {S : ob_S} {D : ob_D} {r : Nat} : f_Receiver_beginBlock S r D = some (ob_pI (ob_pL (ob_pI D r 3 0) r 4 0) r 5 0) := rfl
def rc_bg (D : ob_D) (r : Nat) : ob_D := ob_pI (ob_pL (ob_pI D r 3 0) r 4 0) r 5 0
theorem rc_bg_og {D : ob_D} {r : Nat} : og (fun y k => y = r ∧ (k = 3 ∨ k = 4 ∨ k = 5)) D (rc_bg D r) := ((og.pI ⟨rfl, Or.inl rfl⟩).tr (og.pL ⟨rfl, Or.inr (Or.inl rfl)⟩)).tr (og.pI ⟨rfl, Or.inr (Or.inr rfl)⟩)
theorem rcc_L77 {S : ob_S} {D : ob_D} {r : Nat} {cand : List Nat} {pr : Int32} (h0 : D.2.1 r 0 = r + 1) (hw : rw_at S D (r + 1) (r + 2) 259 cand) (h6 : D.1 r 6 = pr) (h3 : D.1 r 3 = 0) : ∃ D', f_Receiver_endBlock_L77 S r D = some (bI (decide (0 < cand.length)), D') ∧ cRc S D' r (false, 0, 0, [], cand, pr) ∧ og (rgn r (r + 3)) D D' := by
  have g : og (fun y k => y = r ∧ (k = 1 ∨ k = 2)) D (ob_pI (ob_pI D r 1 0) r 2 0) := (og.pI ⟨rfl, Or.inl rfl⟩).tr (og.pI ⟨rfl, Or.inr rfl⟩)
  have hw' : rw_at S (ob_pI (ob_pI D r 1 0) r 2 0) (r + 1) (r + 2) 259 cand := hw.keep g (fun k e => by omega) (fun k e => by omega) rfl
  have h6c := hw.2.2.2.2.2.1
  refine ⟨ob_pI (ob_pI D r 1 0) r 2 0, ?_, ⟨h0, hw', by simp [ob_pI], by simp [ob_pI, h6], by simp [ob_pI]; rfl, by decide, by simp [ob_pI, h3]; rfl, by decide⟩, g.mono (fun y k e => by unfold rgn; omega)⟩
  unfold f_Receiver_endBlock_L77
  simp only [ob_lt]
  rw [show (ob_pI (ob_pI D r 1 0) r 2 0).2.1 r 0 = r + 1 from h0, if_pos (by omega), hw'.2.2.2.2.1, show (0 : Int32) = N32 0 from rfl, if_le (by omega) (by decide)]
  by_cases hc : 0 < cand.length
  · rw [if_neg (by omega)]
    simp [bI, hc]
  · rw [if_pos (by omega)]
    simp [bI, hc]
    rfl
theorem rcc_L54r {S : ob_S} {D : ob_D} {r : Nat} {cand : List Nat} {pr : Int32} (h0 : D.2.1 r 0 = r + 1) (hw : rw_at S D (r + 1) (r + 2) 259 cand) (h1 : D.1 r 1 = 1) (h6 : D.1 r 6 = pr) (hm : cand.length % 7 = 0) (hpos : 0 < cand.length) : ∃ D', f_Receiver_endBlock_L54 S r 1 D = some (bI (if cand.length < 259 then false else true), D') ∧ cRc S D' r (if cand.length < 259 then (true, 0, 0, [], cand, pr) else (false, 0, 0, [], cand, pr)) ∧ og (rgn r (r + 3)) D D' := by
  have g := rc_bg_og (D := D) (r := r)
  have hw' : rw_at S (rc_bg D r) (r + 1) (r + 2) 259 cand := hw.keep g (fun k e => by omega) (fun k e => by omega) rfl
  have h0' : (rc_bg D r).2.1 r 0 = r + 1 := h0
  have h6c := hw.2.2.2.2.2.1
  have e : f_Receiver_endBlock_L54 S r 1 D = if (259 : Int32) ≤ N32 cand.length then f_Receiver_endBlock_L77 S r (rc_bg D r) else some (0, rc_bg D r) := by
    unfold f_Receiver_endBlock_L54
    rw [rcc_begin]
    simp only [ob_bv]
    rw [if_neg (by decide)]
    show (if (rc_bg D r).2.1 r 0 ≠ 0 then (if (259 : Int32) ≤ ((rc_bg D r).1 ((rc_bg D r).2.1 r 0) 1) then f_Receiver_endBlock_L77 S r (rc_bg D r) else some (0, rc_bg D r)) else none) = _
    rw [h0', if_pos (by omega), hw'.2.2.2.2.1]
  rw [e, show (259 : Int32) = N32 259 from rfl, if_le (by decide) (by omega)]
  by_cases hc : cand.length < 259
  · rw [if_neg (by omega), if_pos hc, if_pos hc]
    refine ⟨_, rfl, ⟨⟨h0', hw', by simp [rc_bg, ob_pI, ob_pL, h1], by simp [rc_bg, ob_pI, ob_pL, h6], by simp [rc_bg, ob_pI, ob_pL]; rfl, by decide, by simp [rc_bg, ob_pI, ob_pL, bn], by simp [rc_bg, ob_pI, ob_pL]; rfl, hm, hc⟩, by decide⟩, g.mono (fun y k e => by unfold rgn; omega)⟩
  · rw [if_pos (by omega), if_neg hc, if_neg hc]
    obtain ⟨D', q1, q2, q3⟩ := rcc_L77 (S := S) (D := rc_bg D r) (pr := pr) h0' hw' (by simp [rc_bg, ob_pI, ob_pL, h6]) (by simp [rc_bg, ob_pI, ob_pL])
    refine ⟨D', ?_, q2, (g.mono (fun y k e => by unfold rgn; omega)).tr q3⟩
    rw [q1]
    simp [hpos]
theorem rcc_L54w {S : ob_S} {D : ob_D} {r : Nat} {cand : List Nat} {pr : Int32} (h0 : D.2.1 r 0 = r + 1) (hw : rw_at S D (r + 1) (r + 2) 259 cand) (h6 : D.1 r 6 = pr) : ∃ D', f_Receiver_endBlock_L54 S r 0 D = some (bI (decide (0 < cand.length)), D') ∧ cRc S D' r (false, 0, 0, [], cand, pr) ∧ og (rgn r (r + 3)) D D' := by
  have g := rc_bg_og (D := D) (r := r)
  have hw' : rw_at S (rc_bg D r) (r + 1) (r + 2) 259 cand := hw.keep g (fun k e => by omega) (fun k e => by omega) rfl
  obtain ⟨D', q1, q2, q3⟩ := rcc_L77 (S := S) (D := rc_bg D r) (pr := pr) h0 hw' (by simp [rc_bg, ob_pI, ob_pL, h6]) (by simp [rc_bg, ob_pI, ob_pL])
  refine ⟨D', ?_, q2, (g.mono (fun y k e => by unfold rgn; omega)).tr q3⟩
  unfold f_Receiver_endBlock_L54
  rw [rcc_begin]
  simp only [ob_bv]
  rw [if_pos trivial]
  exact q1
theorem rcc_right {S : ob_S} {D : ob_D} {r : Nat} {d : List Bool} {cand : List Nat} {pr : Int32} (hd : d.length = 64) (h0 : D.2.1 r 0 = r + 1) (hw : rw_at S D (r + 1) (r + 2) 259 cand) (h1 : D.1 r 1 = 1) (h6 : D.1 r 6 = pr) (h4 : D.2.2 r 4 = Int64.ofNat (bn d)) (hm : cand.length % 7 = 0) (hlt : cand.length < 259) : ∃ D', f_Receiver_endBlock_L23 S ob_FU r 1 56 D = some (bI (if cand.length + 7 < 259 then false else true), D') ∧ cRc S D' r (if cand.length + 7 < 259 then (true, 0, 0, [], cand ++ by7 d, pr) else (false, 0, 0, [], cand ++ by7 d, pr)) ∧ og (rgn r (r + 3)) D D' := by
  obtain ⟨D1, p1, p2, p3⟩ := rcc_bytes (S := S) (r := r) (d := d) (cand := cand) hd (by omega) 7 ob_FU 0 D (by decide) (by rw [ob_FU_eq]; decide) h0 h4 (by simpa using hw)
  have hl : (cand ++ by7 d).length = cand.length + 7 := by rw [List.length_append, by7_len]
  obtain ⟨D2, q1, q2, q3⟩ := rcc_L54r (S := S) (D := D1) (r := r) (cand := cand ++ by7 d) (pr := pr) (by rw [p3.1]; exact h0) p2 (by rw [p3.2 r 1 (by omega)]; exact h1) (by rw [p3.2 r 6 (by omega)]; exact h6) (by omega) (by omega)
  rw [hl] at q1 q2
  refine ⟨D2, ?_, q2, (p3.up2 (fun y k e => by unfold rgn; omega)).tr q3⟩
  rw [← q1]
  exact p1
theorem rcc_end {S : ob_S} {D : ob_D} {r : Nat} {blk : List Bool} {cand : List Nat} {pr : Int32} (h : cRcB S D r blk cand pr) (hl : blk.length = 64) : ∃ D', f_Receiver_endBlock S r D = some (bI (rc_end blk cand pr).1, D') ∧ cRc S D' r (rc_end blk cand pr).2 ∧ og (rgn r (r + 3)) D D' := by
  obtain ⟨h0, hw, h1, h6, h3, h2, h4, h5, hm, hlt⟩ := h
  have hx := rc_rm_lt blk
  unfold f_Receiver_endBlock
  rw [h5, show (0 : Int32) = N32 0 from rfl, if_en (by omega) (by decide)]
  unfold rc_end rc_data
  by_cases hz : rc_rm blk = 0
  · rw [if_pos hz, if_pos hz]
    obtain ⟨D', q1, q2, q3⟩ := rcc_right (pr := pr + N32 0) hl h0 hw h1 (by rw [h6, show N32 0 = (0 : Int32) from rfl, Int32.add_zero]) h4 hm hlt
    refine ⟨D', ?_, ?_, q3⟩
    · refine q1.trans ?_
      by_cases hc : cand.length + 7 < 259 <;> simp [hc]
    · by_cases hc : cand.length + 7 < 259 <;> simpa [hc] using q2
  · rw [if_neg hz, if_neg hz]
    obtain ⟨D1, p1, p2, p3⟩ := rcc_turn_L (S := S) hx h5 h4 63 ob_FU 0 (by decide) (by rw [ob_FU_eq]; decide) (fun i hi => absurd hi (by omega))
    have p1' : f_Receiver_turnWrongBit S r D = _ := p1
    rw [p1']
    simp only [ob_bd]
    have hw1 : rw_at S D1 (r + 1) (r + 2) 259 cand := hw.keep p2 (fun k e => by omega) (fun k e => by omega) rfl
    have h01 : D1.2.1 r 0 = r + 1 := by rw [(p2 r 0 (by omega)).2.1]; exact h0
    have h11 : D1.1 r 1 = 1 := by rw [(p2 r 1 (by omega)).1]; exact h1
    cases hf : rc_find (rc_rm blk) with
    | none =>
      rw [hf] at p3
      simp only at p3
      rw [if_pos (by rfl)]
      obtain ⟨D', q1, q2, q3⟩ := rcc_L54w (S := S) (D := D1) (r := r) (cand := cand) (pr := pr) h01 hw1 (by rw [p3]; exact h6)
      refine ⟨D', ?_, q2, (p2.mono (fun y k e => by unfold rgn; omega)).tr q3⟩
      rw [ob_FU_eq, f_Receiver_endBlock_L23, if_pos (by rfl)]
      exact q1
    | some i =>
      rw [hf] at p3
      simp only at p3
      obtain ⟨hi, p4, p5⟩ := p3
      rw [if_neg (show ¬ (1 : Int32) = N32 0 by decide)]
      have hbl : (bfl blk (62 - i)).length = 64 := by unfold bfl; rw [List.length_set]; exact hl
      obtain ⟨D', q1, q2, q3⟩ := rcc_right (S := S) (D := D1) (d := bfl blk (62 - i)) (pr := pr + N32 1) hbl h01 hw1 h11 (by rw [p5, h6]; rfl) (by rw [p4, bn_flip (by omega), hl]; congr 3; omega) hm hlt
      refine ⟨D', ?_, ?_, (p2.mono (fun y k e => by unfold rgn; omega)).tr q3⟩
      · refine q1.trans ?_
        by_cases hc : cand.length + 7 < 259 <;> simp [hc]
      · by_cases hc : cand.length + 7 < 259 <;> simpa [hc] using q2
theorem rcc_collect {S : ob_S} {D : ob_D} {r : Nat} {blk : List Bool} {cand : List Nat} {pr : Int32} {win bits : Nat} (h : cRcB S D r blk cand pr) (hl : blk.length < 64) (b : Bool) : ∃ D', f_Receiver_collect S r (bI b) D = some (bI (rc_hear (true, win, bits, blk, cand, pr) b).1, D') ∧ cRc S D' r (rc_hear (true, win, bits, blk, cand, pr) b).2 ∧ og (rgn r (r + 3)) D D' := by
  obtain ⟨h0, hw, h1, h6, h3, h2, h4, h5, hm, hlt⟩ := h
  have e4 : (D.2.2 r 4 <<< ((1 : Int32).toInt64 &&& 63)) ||| (bI b).toInt64 = Int64.ofNat (bn (blk ++ [b])) := by
    rw [h4, show (1 : Int32) = N32 1 from rfl, n64_shl _ 1 (by decide), n64_b, n64_or, bn_snoc]
    congr 1
    have := Nat.shiftLeft_add_eq_or_of_lt (show b.toNat < 2 ^ 1 from Bool.toNat_lt b) (bn blk)
    rw [Nat.shiftLeft_eq] at this
    rw [← this]
    omega
  have e3 : (ob_pL D r 4 (Int64.ofNat (bn (blk ++ [b])))).1 r 3 + 1 = N32 (blk.length + 1) := by
    show D.1 r 3 + 1 = _
    rw [h3]
    exact nb_add _ 1
  unfold f_Receiver_collect
  simp only [ob_lt]
  rw [e4, e3]
  have g2 : og (fun y k => y = r ∧ (k = 3 ∨ k = 4)) D (ob_pI (ob_pL D r 4 (Int64.ofNat (bn (blk ++ [b])))) r 3 (N32 (blk.length + 1))) := (og.pL ⟨rfl, Or.inr rfl⟩).tr (og.pI ⟨rfl, Or.inl rfl⟩)
  have g3 : (ob_pI (ob_pL D r 4 (Int64.ofNat (bn (blk ++ [b])))) r 3 (N32 (blk.length + 1))).1 r 3 = N32 (blk.length + 1) := by simp [ob_pI]
  have g4 : (ob_pI (ob_pL D r 4 (Int64.ofNat (bn (blk ++ [b])))) r 3 (N32 (blk.length + 1))).2.2 r 4 = Int64.ofNat (bn (blk ++ [b])) := by simp [ob_pI, ob_pL]
  have g5 : (ob_pI (ob_pL D r 4 (Int64.ofNat (bn (blk ++ [b])))) r 3 (N32 (blk.length + 1))).1 r 5 = N32 (rc_rm blk) := by simp [ob_pI, ob_pL, h5]
  generalize ob_pI (ob_pL D r 4 (Int64.ofNat (bn (blk ++ [b])))) r 3 (N32 (blk.length + 1)) = D2 at *
  have w2 : rw_at S D2 (r + 1) (r + 2) 259 cand := hw.keep g2 (fun k e => by omega) (fun k e => by omega) rfl
  have k0 : D2.2.1 r 0 = r + 1 := by rw [(g2 r 0 (by omega)).2.1]; exact h0
  have k1 : D2.1 r 1 = 1 := by rw [(g2 r 1 (by omega)).1]; exact h1
  have k6 : D2.1 r 6 = pr := by rw [(g2 r 6 (by omega)).1]; exact h6
  rw [g3]
  by_cases hc : blk.length < 63
  · have main : ∀ D3, f_Receiver_divide S r (bI (if blk.length < 56 then b else !b)) D2 = some D3 → D3.1 r 5 = N32 (rm_s (rc_rm blk) (if blk.length < 56 then b else !b)) → og (fun y k => y = r ∧ k = 5) D2 D3 → ∃ D', f_Receiver_collect_L52 S r D3 = some (bI (rc_hear (true, win, bits, blk, cand, pr) b).1, D') ∧ cRc S D' r (rc_hear (true, win, bits, blk, cand, pr) b).2 ∧ og (rgn r (r + 3)) D D' := by
      intro D3 q1 q2 q3
      have hh : rc_hear (true, win, bits, blk, cand, pr) b = (false, (true, win, bits, blk ++ [b], cand, pr)) := by
        show (if blk.length < 63 then _ else _) = _
        rw [if_pos hc]
      rw [hh]
      refine ⟨D3, ?_, ⟨⟨by rw [(q3 r 0 (by omega)).2.1]; exact k0, w2.keep q3 (fun k e => by omega) (fun k e => by omega) rfl, by rw [(q3 r 1 (by omega)).1]; exact k1, by rw [(q3 r 6 (by omega)).1]; exact k6, by rw [(q3 r 3 (by omega)).1, g3, List.length_append]; rfl, by simp; omega, by rw [(q3 r 4 (by omega)).2.2]; exact g4, by rw [q2, rc_rm_snoc b hc], hm, hlt⟩, by simp; omega⟩, (g2.mono (fun y k e => by unfold rgn; omega)).tr (q3.mono (fun y k e => by unfold rgn; omega))⟩
      unfold f_Receiver_collect_L52
      rw [(q3 r 3 (by omega)).1, g3, if_neg (by rw [show (64 : Int32) = N32 64 from rfl, nb_eq (by omega) (by decide)]; omega)]
      rfl
    obtain ⟨D3, q1, q2, q3⟩ := rcc_divide (S := S) (D := D2) (r := r) (if blk.length < 56 then b else !b) (rc_rm_lt blk) g5
    obtain ⟨D', m1, m2⟩ := main D3 q1 q2 q3
    refine ⟨D', ?_, m2⟩
    rw [if_neg (by rw [show (63 : Int32) = N32 63 from rfl, nb_lt (by decide) (by omega)]; omega)]
    by_cases h56 : blk.length < 56
    · rw [if_pos h56] at q1
      rw [if_pos (by rw [show (56 : Int32) = N32 56 from rfl, nb_le (by omega) (by decide)]; omega), q1]
      exact m1
    · rw [if_neg h56] at q1
      have e1 : (1 : Int32) - bI b = bI (!b) := by cases b <;> rfl
      rw [if_neg (by rw [show (56 : Int32) = N32 56 from rfl, nb_le (by omega) (by decide)]; omega), e1, q1]
      exact m1
  · have h63 : blk.length = 63 := by omega
    rw [if_pos (by rw [show (63 : Int32) = N32 63 from rfl, nb_lt (by decide) (by omega)]; omega)]
    have hh : rc_hear (true, win, bits, blk, cand, pr) b = rc_end (blk ++ [b]) cand pr := by
      show (if blk.length < 63 then _ else _) = _
      rw [if_neg hc]
    have hB : cRcB S D2 r (blk ++ [b]) cand pr := ⟨k0, w2, k1, k6, by rw [g3, List.length_append]; rfl, by simp; omega, g4, by rw [g5, rc_rm_last b h63], hm, hlt⟩
    obtain ⟨D', q1, q2, q3⟩ := rcc_end hB (by simp; omega)
    rw [hh]
    refine ⟨D', ?_, q2, (g2.mono (fun y k e => by unfold rgn; omega)).tr q3⟩
    unfold f_Receiver_collect_L52
    rw [g3, if_pos (by rw [show (64 : Int32) = N32 64 from rfl, nb_eq (by omega) (by decide)]; omega), q1]
    simp only [ob_bd]
    cases (rc_end (blk ++ [b]) cand pr).1 <;> simp [bI]
theorem rcc_hear {S : ob_S} {D : ob_D} {r : Nat} {q : sRc} (h : cRc S D r q) (b : Bool) : ∃ D', f_Receiver_hear S r (bI b) D = some (bI (rc_hear q b).1, D') ∧ cRc S D' r (rc_hear q b).2 ∧ og (rgn r (r + 3)) D D' := by
  obtain ⟨col, win, bits, blk, cand, pr⟩ := q
  cases col
  · obtain ⟨h0, hw, h1, h6, h2, hwin, h3, hb⟩ := h
    have e1 : (((D.1 r 2) <<< ((1 : Int32) &&& 31)) ||| bI b) &&& (65535 : Int32) = N32 ((2 * win + b.toNat) % 65536) := by
      rw [h2, show (1 : Int32) = N32 1 from rfl, n_shl _ 1 (by decide), bI_n, n_or, n_65535]
      congr 2
      have := Nat.shiftLeft_add_eq_or_of_lt (show b.toNat < 2 ^ 1 from Bool.toNat_lt b) win
      rw [Nat.shiftLeft_eq] at this
      rw [← this]
      omega
    unfold f_Receiver_hear
    simp only [ob_lt]
    rw [if_pos h1, e1]
    have e2 : ob_mn ((ob_pI D r 2 (N32 ((2 * win + b.toNat) % 65536))).1 r 3 + 1) 16 = N32 (min (bits + 1) 16) := by
      have : (ob_pI D r 2 (N32 ((2 * win + b.toNat) % 65536))).1 r 3 = N32 bits := by simp [ob_pI, h3]
      rw [this, show (1 : Int32) = N32 1 from rfl, nb_add, show (16 : Int32) = N32 16 from rfl]
      unfold ob_mn
      rw [if_lt (by decide) (by omega)]
      by_cases hc : 16 < bits + 1
      · rw [if_pos hc, Nat.min_eq_right (by omega)]
      · rw [if_neg hc, Nat.min_eq_left (by omega)]
    rw [e2]
    have g : og (fun y k => y = r ∧ (k = 2 ∨ k = 3)) D (ob_pI (ob_pI D r 2 (N32 ((2 * win + b.toNat) % 65536))) r 3 (N32 (min (bits + 1) 16))) := (og.pI ⟨rfl, Or.inl rfl⟩).tr (og.pI ⟨rfl, Or.inr rfl⟩)
    have g2 : (ob_pI (ob_pI D r 2 (N32 ((2 * win + b.toNat) % 65536))) r 3 (N32 (min (bits + 1) 16))).1 r 2 = N32 ((2 * win + b.toNat) % 65536) := by simp [ob_pI]
    have g3 : (ob_pI (ob_pI D r 2 (N32 ((2 * win + b.toNat) % 65536))) r 3 (N32 (min (bits + 1) 16))).1 r 3 = N32 (min (bits + 1) 16) := by simp [ob_pI]
    generalize ob_pI (ob_pI D r 2 (N32 ((2 * win + b.toNat) % 65536))) r 3 (N32 (min (bits + 1) 16)) = D2 at *
    have w2 : rw_at S D2 (r + 1) (r + 2) 259 cand := hw.keep g (fun k e => by omega) (fun k e => by omega) rfl
    have k0 : D2.2.1 r 0 = r + 1 := by rw [(g r 0 (by omega)).2.1]; exact h0
    have k1 : D2.1 r 1 = 0 := by rw [(g r 1 (by omega)).1]; exact h1
    have k6 : D2.1 r 6 = pr := by rw [(g r 6 (by omega)).1]; exact h6
    have gM := g.mono (Q := rgn r (r + 3)) (fun y k e => by unfold rgn; omega)
    have hw16 : (2 * win + b.toNat) % 65536 < 65536 := Nat.mod_lt _ (by decide)
    rw [g3, g2, show (16 : Int32) = N32 16 from rfl, if_en (by omega) (by decide)]
    have hstay : ¬ (min (bits + 1) 16 = 16 ∧ rc_near ((2 * win + b.toNat) % 65536) = true) → ∃ D', some ((0 : Int32), D2) = some (bI (rc_hear (false, win, bits, blk, cand, pr) b).1, D') ∧ cRc S D' r (rc_hear (false, win, bits, blk, cand, pr) b).2 ∧ og (rgn r (r + 3)) D D' := by
      intro hn
      have hh : rc_hear (false, win, bits, blk, cand, pr) b = (false, (false, (2 * win + b.toNat) % 65536, min (bits + 1) 16, blk, cand, pr)) := by
        show (if _ then _ else _) = _
        rw [if_neg hn]
      rw [hh]
      exact ⟨D2, rfl, ⟨k0, w2, k1, k6, g2, hw16, g3, by omega⟩, gM⟩
    by_cases hc : min (bits + 1) 16 = 16
    · rw [if_pos hc, show (60304 : Int32) = N32 60304 from rfl, n_xor, bc_cls (Nat.xor_lt_two_pow (n := 16) hw16 (by decide))]
      simp only [ob_bd]
      have hbc : bcN ((2 * win + b.toNat) % 65536 ^^^ 60304) < 64 := by
        unfold bcN
        exact Nat.lt_of_le_of_lt Nat.and_le_right (by decide)
      rw [show (1 : Int32) = N32 1 from rfl, if_lt (by decide) (by omega)]
      by_cases hn : 1 < bcN ((2 * win + b.toNat) % 65536 ^^^ 60304)
      · rw [if_pos hn]
        refine hstay (fun e => ?_)
        have := Nat.le_of_ble_eq_true e.2
        omega
      · have hnear : rc_near ((2 * win + b.toNat) % 65536) = true := Nat.ble_eq_true_of_le (by omega)
        have hh : rc_hear (false, win, bits, blk, cand, pr) b = (false, (true, 0, 0, [], [], pr)) := by
          show (if _ then _ else _) = _
          rw [if_pos ⟨hc, hnear⟩]
        rw [if_neg hn, hh]
        have j1 : (ob_pI D2 r 1 (N32 1)).2.1 r 0 = r + 1 := k0
        rw [j1, if_pos (by omega), rcc_begin]
        simp only [ob_bv]
        have wk : rw_at S (ob_pI D2 r 1 (N32 1)) (r + 1) (r + 2) 259 cand := w2.keep (og.pI (P := fun y k => y = r) rfl) (fun k e => by omega) (fun k e => by omega) rfl
        have wn := rw_nil wk
        refine ⟨_, rfl, ⟨⟨k0, wn.keep (rc_bg_og (r := r)) (fun k e => by omega) (fun k e => by omega) rfl, by simp [ob_pI, ob_pL]; rfl, by simp [ob_pI, ob_pL, k6], by simp [ob_pI, ob_pL]; rfl, by decide, by simp [ob_pI, ob_pL, bn], by simp [ob_pI, ob_pL]; rfl, by decide, by decide⟩, by decide⟩, ?_⟩
        refine gM.tr (((og.pI ?_).tr (og.pI ?_)).tr ((rc_bg_og (r := r)).mono (fun y k e => by unfold rgn; omega))) <;> unfold rgn <;> omega
    · rw [if_neg hc]
      exact hstay (fun e => hc e.1)
  · obtain ⟨hB, hl⟩ := h
    obtain ⟨D', q1, q2⟩ := rcc_collect (win := win) (bits := bits) hB hl b
    refine ⟨D', ?_, q2⟩
    unfold f_Receiver_hear
    rw [if_neg (by rw [hB.2.2.1]; decide), q1]
    simp only [ob_bd]
    rw [if_pos (bI_or _)]
