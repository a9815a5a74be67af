-- ===== the law from its first step: the pure statement =====
theorem cl_both (x : Int32) {lo hi : Nat} (h : lo ≤ hi) (hh : hi < 2147483648) : ∃ n, lo ≤ n ∧ n ≤ hi ∧ (∀ S D, f_Box_nearest S x (N32 lo) (N32 hi) D = some (N32 n, D)) ∧ ∀ S D, f_Model_within S x (N32 lo) (N32 hi) D = some (N32 n, D) := by
  have el : (N32 lo).toInt = lo := nb_toInt (by omega)
  have eh : (N32 hi).toInt = hi := nb_toInt hh
  by_cases h1 : N32 lo ≤ x
  · have h1' := Int32.le_iff_toInt_le.mp h1
    by_cases h2 : x ≤ N32 hi
    · have h2' := Int32.le_iff_toInt_le.mp h2
      have ex : x = N32 x.toInt.toNat := by
        apply Int32.toInt_inj.mp
        rw [nb_toInt (by omega)]
        omega
      have hx : (N32 x.toInt.toNat).toInt = x.toInt.toNat := nb_toInt (by omega)
      refine ⟨x.toInt.toNat, by omega, by omega, fun S D => ?_, fun S D => ?_⟩
      · rw [← ex]
        unfold f_Box_nearest ob_mn ob_mx
        have a : (if x < N32 hi then x else N32 hi) = x := by
          by_cases q : x < N32 hi
          · rw [if_pos q]
          · rw [if_neg q]
            apply Int32.toInt_inj.mp
            rw [Int32.lt_iff_toInt_lt] at q
            omega
        rw [a]
        have b : (if N32 lo < x then x else N32 lo) = x := by
          by_cases q : N32 lo < x
          · rw [if_pos q]
          · rw [if_neg q]
            apply Int32.toInt_inj.mp
            rw [Int32.lt_iff_toInt_lt] at q
            omega
        rw [b]
      · rw [← ex]
        unfold f_Model_within
        rw [if_pos h1, if_pos h2]
    · have h2' : ¬ x.toInt ≤ (N32 hi).toInt := fun q => h2 (Int32.le_iff_toInt_le.mpr q)
      refine ⟨hi, h, Nat.le_refl _, fun S D => ?_, fun S D => ?_⟩
      · unfold f_Box_nearest ob_mn ob_mx
        rw [if_neg (show ¬ x < N32 hi by rw [Int32.lt_iff_toInt_lt]; omega)]
        by_cases q : N32 lo < N32 hi
        · rw [if_pos q]
        · rw [if_neg q]
          have : lo = hi := by
            rw [nb_lt (by omega) hh] at q
            omega
          rw [this]
      · unfold f_Model_within
        rw [if_pos h1, if_neg h2]
  · have h1' : ¬ (N32 lo).toInt ≤ x.toInt := fun q => h1 (Int32.le_iff_toInt_le.mpr q)
    refine ⟨lo, Nat.le_refl _, h, fun S D => ?_, fun S D => ?_⟩
    · unfold f_Box_nearest ob_mn ob_mx
      rw [if_pos (show x < N32 hi by rw [Int32.lt_iff_toInt_lt]; omega), if_neg (show ¬ N32 lo < x by rw [Int32.lt_iff_toInt_lt]; omega)]
    · unfold f_Model_within
      rw [if_neg h1]
theorem lc_cell {E : ob_E} (hL : E.2.2.2.2.2.2.2.1 ≤ 3077) (i : Nat) (hi : i ≤ 4) : ∃ x, ∀ S D, f_Law_cell S E (N32 i) D = some (x, D) := by
  by_cases h : E.2.2.2.2.2.2.2.1 ≤ i
  · exact ⟨0, fun S D => by
      unfold f_Law_cell
      rw [if_pos (by rw [nb_le (by omega) (by omega)]; exact h)]⟩
  · exact ⟨E.2.2.2.2.2.2.2.2 (N32 i).toNatClampNeg, fun S D => by
      unfold f_Law_cell
      rw [if_neg (by rw [nb_le (by omega) (by omega)]; exact h), if_pos (by rw [nb_in (by omega)]; omega)]⟩
theorem rm_cells : 600000 ≤ room_1.cells := by decide
theorem rm_slots : 7000000 ≤ room_1.slots := by decide
theorem ob_pure : ob_Pure 3077 := by
  intro E hL hb
  obtain ⟨x0, z0⟩ := lc_cell hL 0 (by decide)
  obtain ⟨x1, z1⟩ := lc_cell hL 1 (by decide)
  obtain ⟨x2, z2⟩ := lc_cell hL 2 (by decide)
  obtain ⟨x3, z3⟩ := lc_cell hL 3 (by decide)
  obtain ⟨x4, z4⟩ := lc_cell hL 4 (by decide)
  obtain ⟨m, hm1, hm, bm, mm⟩ := cl_both x0 (lo := 1) (hi := 64) (by decide) (by decide)
  obtain ⟨F, hF1, hF, bF, mF⟩ := cl_both x1 (lo := 64) (hi := 256) (by decide) (by decide)
  obtain ⟨fr, hf1, hf, bf, mf⟩ := cl_both x2 (lo := 1) (hi := 4) (by decide) (by decide)
  obtain ⟨pt, hp1, hp, bp, mp⟩ := cl_both x3 (lo := 1) (hi := 100) (by decide) (by decide)
  obtain ⟨w, hw1, hw, bw, mw⟩ := cl_both x4 (lo := 64) (hi := 16384) (by decide) (by decide)
  obtain ⟨me, hzm⟩ := zm_is
  generalize hbase : E.2.2.2.1 = B at hb ⊢
  obtain ⟨S1, D1, p1, p2, p3, p4⟩ := ci_box (S := ob_S0 B) (D := ob_D0) (B := B) hzm rfl hm1 hm bm hF1 hF hf1 hf bF bf hw1 hw bw hp1 hp bp
  obtain ⟨S2, D2, q1, q2, q3, q4⟩ := ci_model (S := S1) (D := D1) hzm p3 hp1 hp hw mm mF mf mp mw
  have hB : (ob_S0 B).2.2.1 = B := rfl
  have hs0 : (ob_S0 B).2.2.2 = 0 := rfl
  have hV : S2.2.2.1 = B + 29 + 2 * m + 80 + 2 * fr + 64 := by rw [q3.1, p3]
  have hsl : S2.2.2.2 ≤ 300000 := by
    have := q3.2.1
    omega
  have n1 := nx.new S2 23 1 1
  have hl : (ob_new S2 23 1 1).2.1 (B + 29 + 2 * m + 80 + 2 * fr + 64) = 1 := by
    have := new_len S2 23 1 1
    rw [hV] at this
    exact this
  have gz : og (fun y _ => y = B + 29 + 2 * m + 80 + 2 * fr + 64) D2 (ob_z D2 (B + 29 + 2 * m + 80 + 2 * fr + 64)) := og.z (fun _ => rfl)
  have hIV : IV (ob_new S2 23 1 1) (ob_z D2 (B + 29 + 2 * m + 80 + 2 * fr + 64)) B (B + 29 + 2 * m + 80 + 2 * fr + 14) (B + 29 + 2 * m + 80 + 2 * fr + 64) m fr F w pt (w_z0 me) [] := by
    refine ⟨?_, ?_, hl, ?_, Nat.le_refl _, by omega⟩
    · refine cC.kp (S := S1) (D := D1) p2 (P := fun y _ => B + 29 + 2 * m + 80 + 2 * fr + 14 ≤ y) (q4.tr (gz.mono (fun y k e => by omega))) (by omega) (fun y u v => ?_) (fun y u v => ?_)
      · rw [(n1.2.2 _ (by omega)).2, (q3.2.2 _ (by omega)).2]
      · rw [(n1.2.2 _ (by omega)).1, (q3.2.2 _ (by omega)).1]
    · exact mC.kp q2 gz (by omega) (fun y u v => (n1.2.2 _ (by omega)).2)
    · rw [new_nx, hV]
      omega
  obtain ⟨Tf, D', r1, r2, r3⟩ := lw_loop (E := E) (B := B) (M := B + 29 + 2 * m + 80 + 2 * fr + 14) (V := B + 29 + 2 * m + 80 + 2 * fr + 64) (m := m) (fr := fr) (F := F) (w := w) (pt := pt) (c0 := B + 500) (s0 := 300001) hL 600 ob_FU 5 (by omega) (by decide) (by omega) (by omega) _ _ (w_z0 me) [] hIV (Nat.zero_le _) (by rw [new_nx, hV]; omega) (by show S2.2.2.2 + 1 ≤ 300001 + 5; omega)
  refine ⟨Tf, D', ?_, ?_, ?_⟩
  · unfold f_law
    simp only [ob_lt]
    have z0 : ∀ S D, f_Law_cell S E 0 D = some (x0, D) := z0
    have z1 : ∀ S D, f_Law_cell S E 1 D = some (x1, D) := z1
    have z2 : ∀ S D, f_Law_cell S E 2 D = some (x2, D) := z2
    have z3 : ∀ S D, f_Law_cell S E 3 D = some (x3, D) := z3
    have z4 : ∀ S D, f_Law_cell S E 4 D = some (x4, D) := z4
    rw [hB, bd_s (z0 _ _), bd_s (z1 _ _), bd_s (z2 _ _), bd_s (z3 _ _), bd_s (z4 _ _), bd_s p1, p3, bd_s (z0 _ _), bd_s (z1 _ _), bd_s (z2 _ _), bd_s (z3 _ _), bd_s (z4 _ _), bd_s q1, hV]
    rw [ob_gt_t (show ¬ (1 : Int32) < 0 ∧ (1 : Int32).toNatClampNeg ≤ 67108864 by decide), show (1 : Int32).toNatClampNeg = 1 by decide]
    exact r1
  · have := rm_cells
    omega
  · have := rm_slots
    omega
