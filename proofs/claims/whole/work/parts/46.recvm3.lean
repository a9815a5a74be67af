-- ===== the reference's receiver: bytes of a block, a bit =====
theorem ba_snoc {D : ob_D} {b o : Nat} {l : List Nat} {x : Nat} (h : ba D b o l) (hx : x < 256) (hv : D.1 b (o + l.length) = sb x) : ba D b o (l ++ [x]) := by
  refine ⟨fun i hi => ?_, fun y hy => ?_⟩
  · rw [List.length_append, List.length_singleton] at hi
    by_cases h1 : i < l.length
    · rw [h.1 i h1]
      simp [List.getD_eq_getElem?_getD, List.getElem?_append_left h1]
    · have : i = l.length := by omega
      subst this
      rw [hv]
      simp [List.getD_eq_getElem?_getD]
  · rw [List.mem_append, List.mem_singleton] at hy
    cases hy with
    | inl h1 => exact h.2 y h1
    | inr h1 => rw [h1]; exact hx
theorem bcm_bits {S : ob_S} {k : Nat → Int32 → Int32 → ob_D → Option ob_D} {D : ob_D} {M i cl : Nat} {l : List Bool} {v1 : Int32} (hL : mRcL S D M) (hl : 56 ≤ l.length) (hi : i < 7) (hc : ∀ j, j < 56 → D.1 (M + 2) j = bI (l.getD j false)) (h14 : D.1 M 14 = N32 cl) (hcl : cl < 280) : ∀ (d n j : Nat), j + d = 8 → d < n → f_Model_blockCame_L116 S k n M v1 (N32 i) (N32 (bn ((l.drop (8 * i)).take j))) (N32 j) D = k M v1 (N32 (i + 1)) (ob_pI (ob_pI D M 14 (N32 (cl + 1))) (M + 3) cl (sb ((by7 l).getD i 0))) := by
  intro d
  induction d with
  | zero =>
    intro n j hj hn
    match n, hn with
    | n + 1, _ =>
      have : j = 8 := by omega
      subst this
      have e1 : N32 i + (1 : Int32) = N32 (i + 1) := nb_add i 1
      have e2 : N32 cl + (1 : Int32) = N32 (cl + 1) := nb_add cl 1
      rw [f_Model_blockCame_L116, if_pos (by decide), hL.2.1, if_pos (by omega), h14, hL.2.2.2.2.1]
      simp only [ob_lt]
      rw [if_pos (by rw [nb_in (by omega)]; exact hcl), nb_clamp (by omega), e1, e2, by7_get l hi, sb_n, sb_sb]
      have hb : bn ((l.drop (8 * i)).take 8) < 256 := by
        have := bn_lt ((l.drop (8 * i)).take 8)
        exact Nat.lt_of_lt_of_le this (Nat.pow_le_pow_right (by decide) (List.length_take_le _ _))
      rw [Nat.mod_eq_of_lt hb]
  | succ d ih =>
    intro n j hj hn
    match n, hn with
    | n + 1, hn =>
      have e1 : N32 j + (1 : Int32) = N32 (j + 1) := nb_add j 1
      have e8 : (8 : Int32) * N32 i + N32 j = N32 (8 * i + j) := by
        rw [show (8 : Int32) = N32 8 from rfl, nb_mul, nb_add]
      have hcl2 : (N32 (8 * i + j)).toNatClampNeg = 8 * i + j := nb_clamp (by omega)
      have hI := ih n (j + 1) (by omega) (by omega)
      have ht : (l.drop (8 * i)).take (j + 1) = (l.drop (8 * i)).take j ++ [l.getD (8 * i + j) false] := by
        rw [List.take_succ, List.getElem?_drop]
        congr 1
        simp [List.getD_eq_getElem?_getD, show 8 * i + j < l.length by omega]
      rw [ht, bn_snoc] at hI
      rw [f_Model_blockCame_L116, if_neg (by rw [show (8 : Int32) = N32 8 from rfl, nb_le (by decide) (by omega)]; omega), hL.1, if_pos (by omega), e8, hL.2.2.2.1, if_pos (by rw [nb_in (by omega)]; omega)]
      have e2 : ∀ z w : Nat, N32 z * (2 : Int32) + N32 w = N32 (2 * z + w) := by
        intro z w
        rw [show (2 : Int32) = N32 2 from rfl, nb_mul, nb_add, Nat.mul_comm]
      cases hb : l.getD (8 * i + j) false
      · rw [hb] at hI
        rw [if_pos (by rw [hcl2, hc _ (by omega), hb]; rfl), e1, ← hI]
        congr 1
        exact e2 _ 0
      · rw [hb] at hI
        rw [if_neg (by rw [hcl2, hc _ (by omega), hb]; decide), e1, ← hI]
        congr 1
        exact e2 _ 1
theorem bcm_bytes {S : ob_S} {M : Nat} {l : List Bool} {cand : List Nat} (hl : 56 ≤ l.length) (hcl : cand.length + 7 ≤ 259) : ∀ (d n i : Nat) (D : ob_D), i + d = 7 → d < n → mRcL S D M → (∀ j, j < 56 → D.1 (M + 2) j = bI (l.getD j false)) → D.1 M 14 = N32 (cand.length + i) → ba D (M + 3) 0 (cand ++ (by7 l).take i) → ∃ D', f_Model_blockCame_L105 S n M 1 (N32 i) D = (if cand.length + 7 = 259 then f_Model_blockCame_L192 S M D' else some D') ∧ og (fun y k => (y = M ∧ k = 14) ∨ y = M + 3) D D' ∧ D'.1 M 14 = N32 (cand.length + 7) ∧ ba D' (M + 3) 0 (cand ++ by7 l) := by
  intro d
  induction d with
  | zero =>
    intro n i D hi hn hL hc h14 hba
    match n, hn with
    | n + 1, _ =>
      have : i = 7 := by omega
      subst this
      rw [List.take_of_length_le (by rw [by7_len]; decide)] at hba
      refine ⟨D, ?_, og.rf, h14, hba⟩
      rw [f_Model_blockCame_L105, if_pos (by decide), if_neg (by decide), h14, show (259 : Int32) = N32 259 from rfl, if_en (by omega) (by decide)]
  | succ d ih =>
    intro n i D hi hn hL hc h14 hba
    match n, hn with
    | n + 1, hn =>
      have hi7 : i < 7 := by omega
      have hb := bcm_bits (k := fun a0 a1 a2 d => f_Model_blockCame_L105 S n a0 a1 a2 d) (v1 := 1) hL hl hi7 hc h14 (by omega) 8 ob_FU 0 (by decide) (by rw [ob_FU_eq]; decide)
      have gg : og (fun y k => (y = M ∧ k = 14) ∨ y = M + 3) D (ob_pI (ob_pI D M 14 (N32 (cand.length + i + 1))) (M + 3) (cand.length + i) (sb ((by7 l).getD i 0))) := (og.pI (Or.inl ⟨rfl, rfl⟩)).tr (og.pI (Or.inr rfl))
      have hlen : (cand ++ (by7 l).take i).length = cand.length + i := by
        rw [List.length_append, List.length_take, by7_len]
        omega
      have hs := by_take_succ (l := by7 l) (f := 0) (k := i) (by rw [by7_len]; omega)
      rw [List.drop_zero, Nat.zero_add] at hs
      have hv : (ob_pI (ob_pI D M 14 (N32 (cand.length + i + 1))) (M + 3) (cand.length + i) (sb ((by7 l).getD i 0))).1 (M + 3) (cand.length + i) = sb ((by7 l).getD i 0) := by simp [ob_pI]
      have h14' : (ob_pI (ob_pI D M 14 (N32 (cand.length + i + 1))) (M + 3) (cand.length + i) (sb ((by7 l).getD i 0))).1 M 14 = N32 (cand.length + i + 1) := by simp [ob_pI]
      have hbk : ba (ob_pI (ob_pI D M 14 (N32 (cand.length + i + 1))) (M + 3) (cand.length + i) (sb ((by7 l).getD i 0))) (M + 3) 0 (cand ++ (by7 l).take i) := by
        refine ⟨fun j hj => ?_, hba.2⟩
        rw [← hba.1 j hj]
        rw [hlen] at hj
        have n1 : ¬ (0 + j = cand.length + i) := by omega
        simp only [ob_pI]
        rw [if_neg (by omega), if_neg (by omega)]
      have hb2 := ba_snoc hbk (by_getD_lt (by7_lt l) i) (by rw [hlen, Nat.zero_add]; exact hv)
      rw [List.append_assoc, ← hs] at hb2
      obtain ⟨D', q1, q2, q3, q4⟩ := ih n (i + 1) _ (by omega) (by omega) (hL.keep gg (fun k hk e => by omega) (fun _ _ _ => rfl)) (fun j hj => by rw [(gg (M + 2) j (by omega)).1]; exact hc j hj) h14' hb2
      refine ⟨D', ?_, gg.tr q2, q3, q4⟩
      rw [f_Model_blockCame_L105, if_neg (by rw [show (7 : Int32) = N32 7 from rfl, nb_le (by decide) (by omega)]; omega), ← q1]
      exact hb
theorem bcm_192 {S : ob_S} {M : Nat} {D : ob_D} {cand : List Nat} {pr : Int32} {blk : List Bool} (hL : mRcL S D M) (h14 : D.1 M 14 = N32 cand.length) (hcl : cand.length ≤ 259) (hba : ba D (M + 3) 0 cand) (h15 : D.1 M 15 = pr) : ∃ D', f_Model_blockCame_L192 S M D = (if 0 < cand.length then f_Model_frameCame S M D' else some D') ∧ mRc S D' M (false, 0, 0, blk, cand, pr) ∧ og (mRcP M) D D' := by
  have g : og (fun y k => y = M ∧ (k = 8 ∨ k = 9 ∨ k = 10)) D (ob_pI (ob_pI (ob_pI D M 8 0) M 9 0) M 10 0) := ((og.pI ⟨rfl, Or.inl rfl⟩).tr (og.pI ⟨rfl, Or.inr (Or.inl rfl)⟩)).tr (og.pI ⟨rfl, Or.inr (Or.inr rfl)⟩)
  refine ⟨ob_pI (ob_pI (ob_pI D M 8 0) M 9 0) M 10 0, ?_, ⟨hL.keep g (fun k hk e => by omega) (fun _ _ _ => rfl), by simp [ob_pI], by simp [ob_pI, h14], hcl, hba.keep g (fun k _ _ e => by omega), by simp [ob_pI, h15], by simp [ob_pI]; rfl, by decide, by simp [ob_pI]; rfl, by decide⟩, g.mono (fun y k e => by unfold mRcP; omega)⟩
  have e14 : (ob_pI (ob_pI (ob_pI D M 8 0) M 9 0) M 10 0).1 M 14 = N32 cand.length := by simp [ob_pI, h14]
  unfold f_Model_blockCame_L192
  simp only [ob_lt]
  rw [e14, ob_bv_id]
  by_cases hc : 0 < cand.length
  · rw [if_pos hc, if_neg (by rw [show (0 : Int32) = N32 0 from rfl, nb_le (by omega) (by decide)]; omega)]
  · rw [if_neg hc, if_pos (by rw [show (0 : Int32) = N32 0 from rfl, nb_le (by omega) (by decide)]; omega)]
theorem fl7_get {l : List Bool} {j : Nat} (hj : j < l.length) : (fl7 l).getD j false = if j < 56 then l.getD j false else !l.getD j false := by
  unfold fl7
  rw [List.getD_eq_getElem?_getD, List.getElem?_append]
  by_cases h : j < 56
  · rw [if_pos h, if_pos (by rw [List.length_take]; omega), List.getElem?_take_of_lt h, List.getD_eq_getElem?_getD]
  · rw [if_neg h, if_neg (by rw [List.length_take]; omega), List.getElem?_map, List.getElem?_drop, List.length_take, show 56 + (j - min 56 l.length) = j by omega]
    simp [List.getD_eq_getElem?_getD, hj]
theorem rc_rm_range {l : List Bool} (h : l.length = 64) : rc_rm l = rm ((List.range 63).map (fun j => (fl7 l).getD j false)) := by
  unfold rc_rm
  congr 1
  apply List.ext_getElem?
  intro j
  by_cases hj : j < 63
  · rw [List.getElem?_take_of_lt hj]
    have : j < (fl7 l).length := by rw [fl7_len]; omega
    simp [hj, List.getD_eq_getElem?_getD, this]
  · rw [List.getElem?_take_eq_none (by omega)]
    simp [hj]
theorem by7_congr {a b : List Bool} (ha : 56 ≤ a.length) (hb : 56 ≤ b.length) (h : ∀ j, j < 56 → a.getD j false = b.getD j false) : by7 a = by7 b := by
  unfold by7
  apply List.map_congr_left
  intro i hi
  have hi7 := List.mem_range.mp hi
  congr 1
  apply List.ext_getElem?
  intro j
  by_cases hj : j < 8
  · rw [List.getElem?_take_of_lt hj, List.getElem?_take_of_lt hj, List.getElem?_drop, List.getElem?_drop]
    have := h (8 * i + j) (by omega)
    simp only [List.getD_eq_getElem?_getD] at this
    rw [List.getElem?_eq_getElem (by omega), List.getElem?_eq_getElem (by omega)] at this ⊢
    simpa using this
  · rw [List.getElem?_take_eq_none (by omega), List.getElem?_take_eq_none (by omega)]
theorem bcm_right {S : ob_S} {M : Nat} {D : ob_D} {l : List Bool} {cand : List Nat} {pr : Int32} (hl : 56 ≤ l.length) (hcl : cand.length < 259) (hm : cand.length % 7 = 0) (hL : mRcL S D M) (hc : ∀ j, j < 56 → D.1 (M + 2) j = bI (l.getD j false)) (h8 : D.1 M 8 = 1) (h12 : D.1 M 12 = 0) (h14 : D.1 M 14 = N32 cand.length) (h15 : D.1 M 15 = pr) (hba : ba D (M + 3) 0 cand) : ∃ D', f_Model_blockCame_L99 S M 1 D = (if cand.length + 7 < 259 then some D' else f_Model_frameCame S M D') ∧ mRc S D' M (if cand.length + 7 < 259 then (true, 0, 0, [], cand ++ by7 l, pr) else (false, 0, 0, [], cand ++ by7 l, pr)) ∧ og (mRcP M) D D' := by
  obtain ⟨D1, p1, p2, p3, p4⟩ := bcm_bytes (S := S) hl (show cand.length + 7 ≤ 259 by omega) 7 ob_FU 0 D (by decide) (by rw [ob_FU_eq]; decide) hL hc (by rw [h14]; rfl) (by simpa using hba)
  have hlen : (cand ++ by7 l).length = cand.length + 7 := by rw [List.length_append, by7_len]
  have hL1 : mRcL S D1 M := hL.keep p2 (fun k hk e => by omega) (fun _ _ _ => rfl)
  have h151 : D1.1 M 15 = pr := by rw [(p2 M 15 (by omega)).1]; exact h15
  unfold f_Model_blockCame_L99
  rw [if_neg (by decide)]
  have p1' : f_Model_blockCame_L105 S ob_FU M 1 0 D = _ := p1
  rw [p1']
  by_cases h259 : cand.length + 7 < 259
  · rw [if_neg (by omega)]
    simp only [h259, if_true]
    refine ⟨D1, rfl, ⟨hL1, by rw [(p2 M 8 (by omega)).1]; exact h8, by rw [p3, hlen], p4, h151, by rw [(p2 M 12 (by omega)).1]; exact h12, by decide, fun i hi => absurd hi (by simp), by omega, by omega⟩, p2.mono (fun y k e => by unfold mRcP; omega)⟩
  · rw [if_pos (by omega)]
    simp only [h259, if_false]
    obtain ⟨D2, q1, q2, q3⟩ := bcm_192 (S := S) (M := M) (D := D1) (cand := cand ++ by7 l) (pr := pr) (blk := []) hL1 (by rw [p3, hlen]) (by omega) p4 h151
    rw [if_pos (by omega)] at q1
    exact ⟨D2, q1, q2, (p2.mono (fun y k e => by unfold mRcP; omega)).tr q3⟩
theorem bcm_ok {S : ob_S} {M : Nat} {D : ob_D} {l : List Bool} {cand : List Nat} {pr : Int32} (hl : l.length = 64) (hcl : cand.length < 259) (hm : cand.length % 7 = 0) (hL : mRcL S D M) (hc : ∀ j, j < 64 → D.1 (M + 2) j = bI (l.getD j false)) (h8 : D.1 M 8 = 1) (h12 : D.1 M 12 = 0) (h14 : D.1 M 14 = N32 cand.length) (h15 : D.1 M 15 = pr) (hba : ba D (M + 3) 0 cand) : ∃ D', f_Model_blockCame S M D = (if (rc_end l cand pr).1 = true then f_Model_frameCame S M D' else some D') ∧ mRc S D' M (rc_end l cand pr).2 ∧ og (mRcP M) D D' := by
  obtain ⟨g1, p1, p2⟩ := bcm_flip (S := S) (D0 := D) (M := M) hL.1 hL.2.2.2.1 7 ob_FU 56 (D.1 (M + 2)) (fun j => l.getD j false) (by decide) (by rw [ob_FU_eq]; decide) hc
  rw [ob_wb_self] at p1
  have p1' : f_Model_blockCame S M D = _ := p1
  rw [p1']
  have gw : og (fun y _ => y = M + 2) D (ob_wb D (M + 2) g1) := og.wb (fun _ => rfl)
  have hf : ∀ j, j < 63 → (ob_wb D (M + 2) g1).1 (M + 2) j = bI ((fl7 l).getD j false) := by
    intro j hj
    rw [ob_wb_b, p2 j (by omega), fl7_get (by omega)]
    congr 1
    by_cases h : j < 56
    · rw [if_pos h, if_neg (by omega)]
    · rw [if_neg h, if_pos (by omega)]
  generalize ob_wb D (M + 2) g1 = D1 at *
  have hL1 : mRcL S D1 M := hL.keep gw (fun k hk e => by omega) (fun _ _ _ => rfl)
  obtain ⟨D2, q1, q2⟩ := dv_ok (v := (-1 : Int32)) hL1.2.2.1 hL1.1 hL1.2.2.2.2.2 hL1.2.2.2.1 hf
  have hneg : (List.range 63).map (fun j => (fl7 l).getD j false != decide (N32 j = -1)) = (List.range 63).map (fun j => (fl7 l).getD j false) := by
    apply List.map_congr_left
    intro j hj
    have hj63 := List.mem_range.mp hj
    have : ¬ N32 j = -1 := by
      intro e
      have := congrArg Int32.toInt e
      rw [nb_toInt (by omega)] at this
      have h2 : (-1 : Int32).toInt = -1 := by decide
      rw [h2] at this
      omega
    simp [this]
  rw [hneg, ← rc_rm_range hl] at q1
  rw [q1]
  simp only [ob_bd]
  have g2 := (gw.mono (Q := fun y _ => y = M + 2 ∨ y = M + 4) (fun y k e => Or.inl e)).tr (q2.mono (fun y k e => Or.inr e))
  have hL2 : mRcL S D2 M := hL.keep g2 (fun k hk e => by omega) (fun _ _ _ => rfl)
  have hf2 : ∀ j, j < 63 → D2.1 (M + 2) j = bI ((fl7 l).getD j false) := fun j hj => by rw [(q2 (M + 2) j (by omega)).1]; exact hf j hj
  have k8 : D2.1 M 8 = 1 := by rw [(g2 M 8 (by omega)).1]; exact h8
  have k12 : D2.1 M 12 = 0 := by rw [(g2 M 12 (by omega)).1]; exact h12
  have k14 : D2.1 M 14 = N32 cand.length := by rw [(g2 M 14 (by omega)).1]; exact h14
  have k15 : D2.1 M 15 = pr := by rw [(g2 M 15 (by omega)).1]; exact h15
  have kba : ba D2 (M + 3) 0 cand := hba.keep g2 (fun k _ _ e => by omega)
  have gM2 := g2.mono (Q := mRcP M) (fun y k e => by unfold mRcP; omega)
  unfold rc_end rc_data
  by_cases hz : rc_rm l = 0
  · rw [if_pos hz, show decide (rc_rm l = 0) = true by simpa using hz]
    have hgo : f_Model_blockCame_L43 S ob_FU M (bI true) 0 D2 = f_Model_blockCame_L99 S M 1 D2 := by
      rw [ob_FU_eq, f_Model_blockCame_L43, if_neg (by decide), if_neg (by decide)]
      rfl
    rw [hgo]
    obtain ⟨D', r1, r2, r3⟩ := bcm_right (S := S) (M := M) (D := D2) (l := l) (pr := pr + N32 0) (by omega) hcl hm hL2 (fun j hj => by rw [hf2 j (by omega), fl7_get (by omega), if_pos hj]) k8 k12 k14 (by rw [k15, show N32 0 = (0 : Int32) from rfl, Int32.add_zero]) kba
    refine ⟨D', ?_, ?_, gM2.tr r3⟩
    · rw [r1]
      by_cases hc : cand.length + 7 < 259 <;> simp [hc]
    · by_cases hc : cand.length + 7 < 259 <;> simpa [hc] using r2
  · rw [if_neg hz, show decide (rc_rm l = 0) = false by simpa using hz]
    obtain ⟨D3, t1, t2, t3⟩ := bcm_try (S := S) (M := M) (pr := pr) (c := fun j => (fl7 l).getD j false) (rc_rm_range hl) 63 ob_FU 0 D2 (by decide) (by rw [ob_FU_eq]; decide) hL2 k15 hf2 (fun j hj => absurd hj (by omega))
    have t1' : f_Model_blockCame_L43 S ob_FU M (bI false) 0 D2 = _ := t1
    rw [t1']
    have hL3 : mRcL S D3 M := hL2.keep t2 (fun k hk e => by omega) (fun _ _ _ => rfl)
    have j8 : D3.1 M 8 = 1 := by rw [(t2 M 8 (by omega)).1]; exact k8
    have j12 : D3.1 M 12 = 0 := by rw [(t2 M 12 (by omega)).1]; exact k12
    have j14 : D3.1 M 14 = N32 cand.length := by rw [(t2 M 14 (by omega)).1]; exact k14
    have jba : ba D3 (M + 3) 0 cand := kba.keep t2 (fun k _ _ e => by omega)
    have gM3 := gM2.tr (t2.mono (Q := mRcP M) (fun y k e => by unfold mRcP; omega))
    cases hfd : rc_find (rc_rm l) with
    | none =>
      rw [hfd] at t3
      obtain ⟨u1, u2⟩ := t3
      obtain ⟨D', r1, r2, r3⟩ := bcm_192 (S := S) (M := M) (D := D3) (blk := []) hL3 j14 (by omega) jba u1
      refine ⟨D', ?_, r2, gM3.tr r3⟩
      show f_Model_blockCame_L99 S M (bI false) D3 = _
      unfold f_Model_blockCame_L99
      rw [if_pos (by rfl), if_pos (by rfl), r1]
      by_cases hc : 0 < cand.length <;> simp [hc]
    | some i =>
      rw [hfd] at t3
      obtain ⟨u0, u1, u2⟩ := t3
      have hfl : (bfl l (62 - i)).length = 64 := by unfold bfl; rw [List.length_set]; exact hl
      obtain ⟨D', r1, r2, r3⟩ := bcm_right (S := S) (M := M) (D := D3) (l := bfl l (62 - i)) (pr := pr + N32 1) (by omega) hcl hm hL3 (fun j hj => by
        rw [u2 j (by omega), fl7_get (by omega), if_pos hj]
        congr 1
        unfold bfl
        simp only [List.getD_eq_getElem?_getD, List.getElem?_set]
        by_cases he : j = 62 - i
        · subst he
          simp [show 62 - i < l.length by omega]
        · rw [if_neg he, if_neg (fun e => he e.symm)]) j8 j12 j14 (by rw [u1]; rfl) jba
      refine ⟨D', ?_, ?_, gM3.tr r3⟩
      · show f_Model_blockCame_L99 S M (bI true) D3 = _
        refine Eq.trans (show f_Model_blockCame_L99 S M (bI true) D3 = f_Model_blockCame_L99 S M 1 D3 from rfl) ?_
        rw [r1]
        by_cases hc : cand.length + 7 < 259 <;> simp [hc]
      · by_cases hc : cand.length + 7 < 259 <;> simpa [hc] using r2
