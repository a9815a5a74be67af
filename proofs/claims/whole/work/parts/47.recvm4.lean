-- ===== the reference's receiver: a bit =====
def bcm_cn (x i : Nat) : Nat := ((List.range i).filter (fun j => x.testBit j)).length
theorem bcm_cn_succ (x i : Nat) : bcm_cn x (i + 1) = bcm_cn x i + (x.testBit i).toNat := by
  unfold bcm_cn
  rw [List.range_succ, List.filter_append, List.length_append]
  cases h : x.testBit i <;> simp [h]
theorem bcm_cn_le (x : Nat) : ∀ i, bcm_cn x i ≤ i
  | 0 => Nat.le_refl _
  | i + 1 => by
    rw [bcm_cn_succ]
    have := bcm_cn_le x i
    have := Bool.toNat_le (x.testBit i)
    omega
theorem bcm_count {x : Nat} (hx : x < 65536) : bcm_cn x 16 = bcN x := by
  have hl : ((List.range 16).map (fun j => x.testBit j)).reverse.length = 16 := by simp
  have hb : bn ((List.range 16).map (fun j => x.testBit j)).reverse = x := by
    apply Nat.eq_of_testBit_eq
    intro j
    rw [bn_tb, hl]
    by_cases hj : j < 16
    · rw [if_pos hj, List.getD_eq_getElem?_getD, List.getElem?_reverse (by simp; omega)]
      simp only [List.length_map, List.length_range, List.getElem?_map]
      rw [show 16 - 1 - (16 - 1 - j) = j by omega, List.getElem?_range hj]
      rfl
    · rw [if_neg hj]
      exact (Nat.testBit_lt_two_pow (Nat.lt_of_lt_of_le hx (show 2 ^ 16 ≤ 2 ^ j from Nat.pow_le_pow_right (by decide) (by omega)))).symm
  have := bc_bits hl
  rw [hb, List.count_reverse] at this
  rw [this]
  unfold bcm_cn
  rw [List.count_eq_countP, List.countP_map, List.countP_eq_length_filter]
  congr 2
  funext j
  simp
theorem bcm_bitcmp {w i : Nat} (hw : w < 65536) (hi : i < 16) : ((((N32 w) >>> (N32 i &&& 31)) &&& (1 : Int32)) = (((60304 : Int32) >>> (N32 i &&& 31)) &&& (1 : Int32))) = ((w ^^^ 60304).testBit i = false) := by
  rw [show (60304 : Int32) = N32 60304 from rfl, n_shr w i (by omega) (by omega), n_shr 60304 i (by decide) (by omega), n_a1, n_a1, nb_eq (by omega) (by omega), Nat.testBit_xor, Nat.testBit_eq_decide_div_mod_eq, Nat.testBit_eq_decide_div_mod_eq]
  have h1 : w / 2 ^ i % 2 = 0 ∨ w / 2 ^ i % 2 = 1 := by omega
  have h2 : 60304 / 2 ^ i % 2 = 0 ∨ 60304 / 2 ^ i % 2 = 1 := by omega
  generalize w / 2 ^ i % 2 = p at *
  generalize 60304 / 2 ^ i % 2 = q at *
  rcases h1 with h1 | h1 <;> rcases h2 with h2 | h2 <;> subst h1 <;> subst h2 <;> simp
theorem bcm_cntL {S : ob_S} {D : ob_D} {M w : Nat} (hw : w < 65536) (h10 : D.1 M 10 = N32 w) : ∀ (d n i : Nat), i + d = 16 → d < n → f_Model_bit_L89 S n M (N32 (bcm_cn (w ^^^ 60304) i)) (N32 i) D = if D.1 M 9 = 16 then (if 1 < bcN (w ^^^ 60304) then some D else some (ob_pI (ob_pI (ob_pI D M 8 1) M 12 0) M 14 0)) else some D := by
  intro d
  induction d with
  | zero =>
    intro n i hi hn
    match n, hn with
    | n + 1, _ =>
      have : i = 16 := by omega
      subst this
      have hx : w ^^^ 60304 < 65536 := Nat.xor_lt_two_pow (n := 16) hw (by decide)
      have hle := bcm_cn_le (w ^^^ 60304) 16
      rw [f_Model_bit_L89, if_pos (by decide), show (1 : Int32) = N32 1 from rfl, if_lt (by decide) (by omega), bcm_count hx]
  | succ d ih =>
    intro n i hi hn
    match n, hn with
    | n + 1, hn =>
      have e1 : N32 i + (1 : Int32) = N32 (i + 1) := nb_add i 1
      have hI := ih n (i + 1) (by omega) (by omega)
      rw [bcm_cn_succ] at hI
      rw [f_Model_bit_L89, if_neg (by rw [show (16 : Int32) = N32 16 from rfl, nb_le (by decide) (by omega)]; omega), h10, e1]
      cases ht : (w ^^^ 60304).testBit i
      · rw [ht] at hI
        rw [if_pos (by rw [bcm_bitcmp hw (by omega)]; exact ht)]
        exact hI
      · rw [ht] at hI
        have e2 : N32 (bcm_cn (w ^^^ 60304) i) + (1 : Int32) = N32 (bcm_cn (w ^^^ 60304) i + 1) := nb_add _ 1
        rw [if_neg (by rw [bcm_bitcmp hw (by omega), ht]; decide), e2]
        exact hI
theorem bcm_search {S : ob_S} {D : ob_D} {M : Nat} {win bits : Nat} {blk : List Bool} {cand : List Nat} {pr : Int32} (h : mRc S D M (false, win, bits, blk, cand, pr)) (b : Bool) : ∃ D', f_Model_bit_L59 S M (bI b) ((D.1 M 10) * (2 : Int32)) M D = some D' ∧ (rc_hear (false, win, bits, blk, cand, pr) b).1 = false ∧ mRc S D' M (rc_hear (false, win, bits, blk, cand, pr) b).2 ∧ og (mRcP M) D D' := by
  obtain ⟨hL, h8, h14, hcl, hba, h15, h10, hw, h9, hb⟩ := h
  have hbn := Bool.toNat_lt b
  have e1 : (D.1 M 10 * (2 : Int32) + bI b) &&& (65535 : Int32) = N32 ((2 * win + b.toNat) % 65536) := by
    rw [h10, show (2 : Int32) = N32 2 from rfl, nb_mul, bI_n, nb_add, n_65535, Nat.mul_comm]
  have hw2 : (2 * win + b.toNat) % 65536 < 65536 := Nat.mod_lt _ (by decide)
  have main : ∀ D2 : ob_D, og (fun y k => y = M ∧ (k = 9 ∨ k = 10)) D D2 → D2.1 M 10 = N32 ((2 * win + b.toNat) % 65536) → D2.1 M 9 = N32 (min (bits + 1) 16) → ∃ D', f_Model_bit_L89 S ob_FU M 0 0 D2 = some D' ∧ (rc_hear (false, win, bits, blk, cand, pr) b).1 = false ∧ mRc S D' M (rc_hear (false, win, bits, blk, cand, pr) b).2 ∧ og (mRcP M) D D' := by
    intro D2 g k10 k9
    have hcnt := bcm_cntL (S := S) hw2 k10 16 ob_FU 0 (by decide) (by rw [ob_FU_eq]; decide)
    have gM := g.mono (Q := mRcP M) (fun y k e => by unfold mRcP; omega)
    have hL2 : mRcL S D2 M := hL.keep g (fun k hk e => by omega) (fun _ _ _ => rfl)
    have k8 : D2.1 M 8 = 0 := by rw [(g M 8 (by omega)).1]; exact h8
    have k14 : D2.1 M 14 = N32 cand.length := by rw [(g M 14 (by omega)).1]; exact h14
    have k15 : D2.1 M 15 = pr := by rw [(g M 15 (by omega)).1]; exact h15
    have kba : ba D2 (M + 3) 0 cand := hba.keep g (fun k _ _ e => by omega)
    have hstay : ¬ (min (bits + 1) 16 = 16 ∧ rc_near ((2 * win + b.toNat) % 65536) = true) → ∃ D', some D2 = some D' ∧ (rc_hear (false, win, bits, blk, cand, pr) b).1 = false ∧ mRc S D' M (rc_hear (false, win, bits, blk, cand, pr) b).2 ∧ og (mRcP M) D D' := by
      intro hn
      have hh : rc_hear (false, win, bits, blk, cand, pr) b = (false, (false, (2 * win + b.toNat) % 65536, min (bits + 1) 16, blk, cand, pr)) := by
        show (if _ then _ else _) = _
        rw [if_neg hn]
      rw [hh]
      exact ⟨D2, rfl, rfl, ⟨hL2, k8, k14, hcl, kba, k15, k10, hw2, k9, by omega⟩, gM⟩
    have hcnt' : f_Model_bit_L89 S ob_FU M 0 0 D2 = _ := hcnt
    rw [hcnt', k9, show (16 : Int32) = N32 16 from rfl, if_en (by omega) (by decide)]
    by_cases hc : min (bits + 1) 16 = 16
    · rw [if_pos hc]
      by_cases hn : 1 < bcN ((2 * win + b.toNat) % 65536 ^^^ 60304)
      · rw [if_pos hn]
        refine hstay (fun e => ?_)
        have := Nat.le_of_ble_eq_true e.2
        omega
      · have hnear : rc_near ((2 * win + b.toNat) % 65536) = true := Nat.ble_eq_true_of_le (by omega)
        have hh : rc_hear (false, win, bits, blk, cand, pr) b = (false, (true, 0, 0, [], [], pr)) := by
          show (if _ then _ else _) = _
          rw [if_pos ⟨hc, hnear⟩]
        rw [if_neg hn, hh]
        have g3 : og (fun y k => y = M ∧ (k = 8 ∨ k = 12 ∨ k = 14)) D2 (ob_pI (ob_pI (ob_pI D2 M 8 1) M 12 0) M 14 0) := ((og.pI ⟨rfl, Or.inl rfl⟩).tr (og.pI ⟨rfl, Or.inr (Or.inl rfl)⟩)).tr (og.pI ⟨rfl, Or.inr (Or.inr rfl)⟩)
        refine ⟨_, rfl, rfl, ⟨hL2.keep g3 (fun k hk e => by omega) (fun _ _ _ => rfl), by simp [ob_pI], by simp [ob_pI]; rfl, ⟨fun i hi => absurd hi (by simp), fun x hx => absurd hx (by simp)⟩, by simp [ob_pI, k15], by simp [ob_pI]; rfl, by decide, fun i hi => absurd hi (by simp), by decide, by decide⟩, gM.tr (g3.mono (fun y k e => by unfold mRcP; omega))⟩
    · rw [if_neg hc]
      exact hstay (fun e => hc e.1)
  unfold f_Model_bit_L59
  simp only [ob_lt]
  rw [e1]
  have j9 : (ob_pI D M 10 (N32 ((2 * win + b.toNat) % 65536))).1 M 9 = N32 bits := by simp [ob_pI, h9]
  rw [j9]
  by_cases h16 : 16 ≤ bits
  · rw [if_pos (by rw [show (16 : Int32) = N32 16 from rfl, nb_le (by decide) (by omega)]; exact h16)]
    exact main _ (og.pI ⟨rfl, Or.inr rfl⟩) (by simp [ob_pI]) (by rw [j9]; congr 1; omega)
  · rw [if_neg (by rw [show (16 : Int32) = N32 16 from rfl, nb_le (by decide) (by omega)]; exact h16)]
    have e9 : N32 bits + (1 : Int32) = N32 (bits + 1) := nb_add _ 1
    rw [e9]
    exact main _ ((og.pI ⟨rfl, Or.inr rfl⟩).tr (og.pI ⟨rfl, Or.inl rfl⟩)) (by simp [ob_pI]) (by rw [Nat.min_eq_left (by omega)]; simp [ob_pI])
theorem rcm_bit {S : ob_S} {D : ob_D} {M : Nat} {q : sRc} (h : mRc S D M q) (b : Bool) : ∃ D', f_Model_bit S M (bI b) D = (if (rc_hear q b).1 = true then f_Model_frameCame S M D' else some D') ∧ mRc S D' M (rc_hear q b).2 ∧ og (mRcP M) D D' := by
  obtain ⟨col, win, bits, blk, cand, pr⟩ := q
  cases col
  · obtain ⟨D', p1, p2, p3, p4⟩ := bcm_search h b
    refine ⟨D', ?_, p3, p4⟩
    rw [p2, if_neg (by decide), ← p1]
    unfold f_Model_bit
    rw [if_pos h.2.1, if_bI]
    cases b
    · rw [if_neg (by decide), show bI false = 0 from rfl]
    · rw [if_pos rfl, show bI true = 1 from rfl]
  · obtain ⟨hL, h8, h14, hba, h15, h12, hl, hc, hm, hcl⟩ := h
    have e12 : N32 blk.length + (1 : Int32) = N32 (blk.length + 1) := nb_add _ 1
    unfold f_Model_bit
    rw [if_neg (by rw [h8]; decide), hL.1, if_pos (by omega), h12, hL.2.2.2.1]
    simp only [ob_lt]
    rw [if_pos (by rw [nb_in (by omega)]; exact hl), nb_clamp (by omega), e12, bI_and]
    have g : og (fun y k => (y = M ∧ k = 12) ∨ y = M + 2) D (ob_pI (ob_pI D M 12 (N32 (blk.length + 1))) (M + 2) blk.length (bI b)) := (og.pI (Or.inl ⟨rfl, rfl⟩)).tr (og.pI (Or.inr rfl))
    have g12 : (ob_pI (ob_pI D M 12 (N32 (blk.length + 1))) (M + 2) blk.length (bI b)).1 M 12 = N32 (blk.length + 1) := by simp [ob_pI]
    have gb : ∀ i, i < (blk ++ [b]).length → (ob_pI (ob_pI D M 12 (N32 (blk.length + 1))) (M + 2) blk.length (bI b)).1 (M + 2) i = bI ((blk ++ [b]).getD i false) := by
      intro i hi
      rw [List.length_append, List.length_singleton] at hi
      simp only [ob_pI]
      by_cases he : i = blk.length
      · subst he
        simp [List.getD_eq_getElem?_getD]
      · rw [if_neg (by omega), if_neg (by omega), hc i (by omega)]
        simp [List.getD_eq_getElem?_getD, List.getElem?_append_left (show i < blk.length by omega)]
    generalize ob_pI (ob_pI D M 12 (N32 (blk.length + 1))) (M + 2) blk.length (bI b) = D2 at *
    have hL2 : mRcL S D2 M := hL.keep g (fun k hk e => by omega) (fun _ _ _ => rfl)
    have k8 : D2.1 M 8 = 1 := by rw [(g M 8 (by omega)).1]; exact h8
    have k14 : D2.1 M 14 = N32 cand.length := by rw [(g M 14 (by omega)).1]; exact h14
    have k15 : D2.1 M 15 = pr := by rw [(g M 15 (by omega)).1]; exact h15
    have kba : ba D2 (M + 3) 0 cand := hba.keep g (fun k _ _ e => by omega)
    have gM := g.mono (Q := mRcP M) (fun y k e => by unfold mRcP; omega)
    rw [g12, show (64 : Int32) = N32 64 from rfl, if_en (by omega) (by decide)]
    by_cases h63 : blk.length < 63
    · have hh : rc_hear (true, win, bits, blk, cand, pr) b = (false, (true, win, bits, blk ++ [b], cand, pr)) := by
        show (if blk.length < 63 then _ else _) = _
        rw [if_pos h63]
      rw [hh, if_neg (by omega)]
      exact ⟨D2, (if_neg (show ¬ (false = true) by decide)).symm, ⟨hL2, k8, k14, kba, k15, by rw [g12, List.length_append]; rfl, by simp; omega, gb, hm, hcl⟩, gM⟩
    · have hh : rc_hear (true, win, bits, blk, cand, pr) b = rc_end (blk ++ [b]) cand pr := by
        show (if blk.length < 63 then _ else _) = _
        rw [if_neg h63]
      rw [hh, if_pos (by omega), ob_bv_id]
      have g5 : og (fun y k => y = M ∧ k = 12) D2 (ob_pI D2 M 12 0) := og.pI ⟨rfl, rfl⟩
      have hlen : (blk ++ [b]).length = 64 := by simp; omega
      obtain ⟨D', q1, q2, q3⟩ := bcm_ok (S := S) (M := M) (D := ob_pI D2 M 12 0) (l := blk ++ [b]) (pr := pr) hlen hcl hm (hL2.keep g5 (fun k hk e => by omega) (fun _ _ _ => rfl)) (fun j hj => by rw [(g5 (M + 2) j (by omega)).1]; exact gb j (by omega)) (by rw [(g5 M 8 (by omega)).1]; exact k8) (by simp [ob_pI]) (by rw [(g5 M 14 (by omega)).1]; exact k14) (by rw [(g5 M 15 (by omega)).1]; exact k15) (kba.keep g5 (fun k _ _ e => by omega))
      exact ⟨D', q1, q2, (gM.tr (g5.mono (fun y k e => by unfold mRcP; omega))).tr q3⟩
theorem mRc.keep {S S' : ob_S} {D D' : ob_D} {M : Nat} {q : sRc} {P : Nat → Nat → Prop} (h : mRc S D M q) (g : og P D D') (hP : ∀ y k, mRcP M y k → ¬ P y k) (hR : ∀ k, k = 11 ∨ k = 13 ∨ k = 18 → ¬ P M k) (hS : ∀ y, M ≤ y → y < M + 50 → S'.2.1 y = S.2.1 y) : mRc S' D' M q := by
  obtain ⟨col, win, bits, blk, cand, pr⟩ := q
  have k3 : ∀ k, ¬ P (M + 3) k := fun k => hP _ _ (Or.inr (Or.inr (Or.inl rfl)))
  have k2 : ∀ k, ¬ P (M + 2) k := fun k => hP _ _ (Or.inr (Or.inl rfl))
  cases col
  · obtain ⟨hL, h8, h14, hcl, hba, h15, h10, hw, h9, hb⟩ := h
    exact ⟨hL.keep g hR hS, by rw [(g M 8 (hP _ _ (Or.inl ⟨rfl, by omega⟩))).1]; exact h8, by rw [(g M 14 (hP _ _ (Or.inl ⟨rfl, by omega⟩))).1]; exact h14, hcl, hba.keep g (fun k _ _ => k3 k), by rw [(g M 15 (hP _ _ (Or.inl ⟨rfl, by omega⟩))).1]; exact h15, by rw [(g M 10 (hP _ _ (Or.inl ⟨rfl, by omega⟩))).1]; exact h10, hw, by rw [(g M 9 (hP _ _ (Or.inl ⟨rfl, by omega⟩))).1]; exact h9, hb⟩
  · obtain ⟨hL, h8, h14, hba, h15, h12, hl, hc, hm, hcl⟩ := h
    exact ⟨hL.keep g hR hS, by rw [(g M 8 (hP _ _ (Or.inl ⟨rfl, by omega⟩))).1]; exact h8, by rw [(g M 14 (hP _ _ (Or.inl ⟨rfl, by omega⟩))).1]; exact h14, hba.keep g (fun k _ _ => k3 k), by rw [(g M 15 (hP _ _ (Or.inl ⟨rfl, by omega⟩))).1]; exact h15, by rw [(g M 12 (hP _ _ (Or.inl ⟨rfl, by omega⟩))).1]; exact h12, hl, fun i hi => by rw [(g _ _ (k2 i)).1]; exact hc i hi, hm, hcl⟩
