-- ===== the reference's gate =====
def mGtQ (S : ob_S) (D : ob_D) (M : Nat) (q : List (List Nat)) : Prop := D.2.1 M 24 = M + 5 ∧ D.2.1 M 25 = M + 6 ∧ S.2.1 (M + 5) = 2080 ∧ S.2.1 (M + 6) = 8 ∧ D.1 M 26 = N32 q.length ∧ q.length ≤ 8 ∧ ∀ i, i < q.length → D.1 (M + 6) i = N32 (q.getD i []).length ∧ (q.getD i []).length ≤ 252 ∧ ba D (M + 5) (260 * i) (q.getD i [])
def mGtF (D : ob_D) (M : Nat) (st nx bs : Nat) (wt ag : Bool) (rf ac : Int32) : Prop := D.1 M 19 = N32 st ∧ (1 ≤ st ∧ st ≤ 3) ∧ D.1 M 20 = N32 nx ∧ nx < 256 ∧ D.1 M 21 = N32 bs ∧ bs < 4 ∧ D.1 M 22 = bI wt ∧ D.1 M 23 = bI ag ∧ D.1 M 16 = rf ∧ D.1 M 17 = ac
def mGt (S : ob_S) (D : ob_D) (M : Nat) : sGt → Prop
  | (st, nx, bs, wt, ag, rf, ac, q) => mGtQ S D M q ∧ mGtF D M st nx bs wt ag rf ac
def mGtP (M : Nat) : Nat → Nat → Prop := fun y k => (y = M ∧ (k = 16 ∨ k = 17 ∨ k = 19 ∨ k = 20 ∨ k = 21 ∨ k = 22 ∨ k = 23 ∨ k = 26)) ∨ y = M + 5 ∨ y = M + 6
/-- the candidate as the gate sees it -/
def mCd (S : ob_S) (D : ob_D) (M : Nat) (c : List Nat) : Prop := D.2.1 M 13 = M + 3 ∧ S.2.1 (M + 3) = 280 ∧ D.1 M 14 = N32 c.length ∧ ba D (M + 3) 0 c ∧ 7 ≤ c.length ∧ c.length ≤ 259
theorem mCd.keep {S : ob_S} {D D' : ob_D} {M : Nat} {c : List Nat} {P : Nat → Nat → Prop} (h : mCd S D M c) (g : og P D D') (h1 : ¬ P M 13) (h2 : ¬ P M 14) (h3 : ∀ k, ¬ P (M + 3) k) : mCd S D' M c := by
  obtain ⟨a1, a2, a3, a4, a5, a6⟩ := h
  exact ⟨by rw [(g M 13 h1).2.1]; exact a1, a2, by rw [(g M 14 h2).1]; exact a3, a4.keep g (fun k _ _ => h3 k), a5, a6⟩
theorem mGtQ.keep {S S' : ob_S} {D D' : ob_D} {M : Nat} {q : List (List Nat)} {P : Nat → Nat → Prop} (h : mGtQ S D M q) (g : og P D D') (h0 : ∀ k, k = 24 ∨ k = 25 ∨ k = 26 → ¬ P M k) (hP : ∀ y k, y = M + 5 ∨ y = M + 6 → ¬ P y k) (hS : ∀ y, M ≤ y → y < M + 50 → S'.2.1 y = S.2.1 y) : mGtQ S' D' M q := by
  obtain ⟨h1, h2, h3, h4, h5, h6, h7⟩ := h
  exact ⟨by rw [(g M 24 (h0 24 (by omega))).2.1]; exact h1, by rw [(g M 25 (h0 25 (by omega))).2.1]; exact h2, by rw [hS _ (by omega) (by omega)]; exact h3, by rw [hS _ (by omega) (by omega)]; exact h4, by rw [(g M 26 (h0 26 (by omega))).1]; exact h5, h6, fun i hi => ⟨by rw [(g (M + 6) i (hP _ _ (Or.inr rfl))).1]; exact (h7 i hi).1, (h7 i hi).2.1, (h7 i hi).2.2.keep g (fun k _ _ => hP _ _ (Or.inl rfl))⟩⟩
theorem mGtF.keep {D D' : ob_D} {M : Nat} {st nx bs : Nat} {wt ag : Bool} {rf ac : Int32} {P : Nat → Nat → Prop} (h : mGtF D M st nx bs wt ag rf ac) (g : og P D D') (h0 : ∀ k, k = 16 ∨ k = 17 ∨ k = 19 ∨ k = 20 ∨ k = 21 ∨ k = 22 ∨ k = 23 → ¬ P M k) : mGtF D' M st nx bs wt ag rf ac := by
  obtain ⟨h1, h2, h3, h4, h5, h6, h7, h8, h9, h10⟩ := h
  exact ⟨by rw [(g M 19 (h0 _ (by omega))).1]; exact h1, h2, by rw [(g M 20 (h0 _ (by omega))).1]; exact h3, h4, by rw [(g M 21 (h0 _ (by omega))).1]; exact h5, h6, by rw [(g M 22 (h0 _ (by omega))).1]; exact h7, by rw [(g M 23 (h0 _ (by omega))).1]; exact h8, by rw [(g M 16 (h0 _ (by omega))).1]; exact h9, by rw [(g M 17 (h0 _ (by omega))).1]; exact h10⟩
theorem mGt.keep {S S' : ob_S} {D D' : ob_D} {M : Nat} {z : sGt} {P : Nat → Nat → Prop} (h : mGt S D M z) (g : og P D D') (hP : ∀ y k, mGtP M y k → ¬ P y k) (hR : ∀ k, k = 24 ∨ k = 25 → ¬ P M k) (hS : ∀ y, M ≤ y → y < M + 50 → S'.2.1 y = S.2.1 y) : mGt S' D' M z := by
  obtain ⟨st, nx, bs, wt, ag, rf, ac, q⟩ := z
  refine ⟨h.1.keep g (fun k hk => ?_) (fun y k hy => hP _ _ (Or.inr hy)) hS, h.2.keep g (fun k hk => hP _ _ (Or.inl ⟨rfl, by omega⟩))⟩
  rcases hk with e | e | e
  · exact hR k (Or.inl e)
  · exact hR k (Or.inr e)
  · exact hP _ _ (Or.inl ⟨rfl, by omega⟩)
theorem sb_0 : sb 0 = 0 := by decide
theorem sb_130 : sb 130 = -126 := by decide
theorem gtm_149 {S : ob_S} {D : ob_D} {M n : Nat} {c : List Nat} (hc : mCd S D M c) (hn : n < 2000) : f_Model_valid_L149 S M (N32 n) D = some (bI (n == 10 && nn c 5 2 == 33280), D) := by
  obtain ⟨h1, h2, h3, h4, h5, h6⟩ := hc
  have b5 := by_getD_lt h4.2 5
  have b6 := by_getD_lt h4.2 6
  have d5 : D.1 (M + 3) (5 : Int32).toNatClampNeg = sb (c.getD 5 0) := by
    have := h4.1 5 (by omega)
    rw [Nat.zero_add] at this
    exact this
  have d6 : D.1 (M + 3) (6 : Int32).toNatClampNeg = sb (c.getD 6 0) := by
    have := h4.1 6 (by omega)
    rw [Nat.zero_add] at this
    exact this
  have e5 : nn c 5 2 = c.getD 5 0 * 256 + c.getD 6 0 := nn_2 c 5
  unfold f_Model_valid_L149
  rw [show (10 : Int32) = N32 10 from rfl, if_en (by omega) (by decide), h1, h2, d5, d6]
  by_cases hn10 : n = 10
  · rw [if_pos hn10, if_pos (by omega), if_pos (by decide), ← sb_130]
    by_cases h130 : c.getD 5 0 = 130
    · rw [if_pos (by rw [h130]), if_pos (by omega), if_pos (by decide)]
      by_cases h0 : c.getD 6 0 = 0
      · rw [if_pos (by rw [h0]; exact sb_0), show (n == 10) = true from beq_iff_eq.mpr hn10, show (nn c 5 2 == 33280) = true from beq_iff_eq.mpr (by omega)]
        rfl
      · rw [if_neg (by rw [← sb_0, sb_inj b6 (by decide)]; exact h0), show (nn c 5 2 == 33280) = false from beq_eq_false_iff_ne.mpr (by omega), Bool.and_false]
        rfl
    · rw [if_neg (by rw [sb_inj b5 (by decide)]; exact h130), show (nn c 5 2 == 33280) = false from beq_eq_false_iff_ne.mpr (by omega), Bool.and_false]
      rfl
  · rw [if_neg hn10, show (n == 10) = false from beq_eq_false_iff_ne.mpr hn10]
    rfl
theorem gtm_118 {S : ob_S} {D : ob_D} {M n : Nat} {c : List Nat} {by1 ct : Bool} (hc : mCd S D M c) (hn : n < 2000) (hn2 : n = nn c 2 2 + 1) : f_Model_valid_L118 S M (N32 n) (bI by1) (bI ct) D = some (bI (!ct || (by1 && gt_dir c)), D) := by
  have h149 := gtm_149 hc hn
  obtain ⟨h1, h2, h3, h4, h5, h6⟩ := hc
  have b5 := by_getD_lt h4.2 5
  have d5 : D.1 (M + 3) (5 : Int32).toNatClampNeg = sb (c.getD 5 0) := by
    have := h4.1 5 (by omega)
    rw [Nat.zero_add] at this
    exact this
  unfold f_Model_valid_L118
  rw [if_bI, if_bI, h149, h1, h2, d5, show (8 : Int32) = N32 8 from rfl, if_en (by omega) (by decide)]
  cases ct
  · rw [if_neg (by decide)]
    rfl
  · rw [if_pos rfl]
    cases by1
    · rw [if_neg (by decide)]
      rfl
    · rw [if_pos rfl]
      have e1 : (n == 10) = (nn c 2 2 == 9) := by
        rw [hn2]
        simp
      unfold gt_dir
      by_cases h8 : n = 8
      · rw [if_pos h8, if_pos (by omega), if_pos (by decide), show (nn c 2 2 == 7) = true from beq_iff_eq.mpr (by omega)]
        by_cases h0 : c.getD 5 0 = 0
        · rw [if_pos (by rw [h0]; exact sb_0), show (c.getD 5 0 == 0) = true from beq_iff_eq.mpr h0]
          rfl
        · rw [if_neg (by rw [← sb_0, sb_inj b5 (by decide)]; exact h0), show (c.getD 5 0 == 0) = false from beq_eq_false_iff_ne.mpr h0, e1]
          rfl
      · rw [if_neg h8, show (nn c 2 2 == 7) = false from beq_eq_false_iff_ne.mpr (by omega), e1]
        rfl
theorem gtm_valid {S : ob_S} {D : ob_D} {M : Nat} {c : List Nat} (hc : mCd S D M c) : f_Model_valid S M D = some (bI (gt_valid c), D) := by
  have hcc := hc
  obtain ⟨h1, h2, h3, h4, h5, h6⟩ := hc
  have t0 : f_Model_two S (M + 3) 0 D = _ := ba_two h4 (by omega) (by omega) (i := 0) (by omega)
  have t2 : f_Model_two S (M + 3) 2 D = _ := ba_two h4 (by omega) (by omega) (i := 2) (by omega)
  have l0 : nn c 0 2 < 65536 := nn_lt h4.2 0 2
  have l2 : nn c 2 2 < 65536 := nn_lt h4.2 2 2
  unfold f_Model_valid
  rw [h1, if_pos (by omega), t0]
  simp only [ob_bd]
  rw [h1, if_pos (by omega), t2]
  simp only
  have s1 : N32 (nn c 0 2) >>> ((14 : Int32) &&& 31) = N32 (nn c 0 2 / 2 ^ 14) := n_shr _ 14 (by omega) (by decide)
  have s2 : (N32 (nn c 0 2) >>> ((10 : Int32) &&& 31)) &&& (3 : Int32) = N32 (nn c 0 2 / 2 ^ 10 % 4) := by
    have := n_shr (nn c 0 2) 10 (by omega) (by decide)
    have t : N32 (nn c 0 2) >>> ((10 : Int32) &&& 31) = N32 (nn c 0 2 / 2 ^ 10) := this
    rw [t, n_3]
  have s3 : N32 (nn c 2 2) >>> ((10 : Int32) &&& 31) = N32 (nn c 2 2 / 2 ^ 10) := n_shr _ 10 (by omega) (by decide)
  rw [s1, s2, s3, n_1023, n_1023]
  have hno : ¬ (nn c 0 2 = 346 ∨ nn c 0 2 = 4442 ∨ nn c 0 2 = 8538 ∨ nn c 0 2 = 12634) → gt_valid c = false := by
    intro hm
    unfold gt_valid
    rw [show (nn c 0 2 == 346) = false from beq_eq_false_iff_ne.mpr (by omega), show (nn c 0 2 == 8538) = false from beq_eq_false_iff_ne.mpr (by omega), show (nn c 0 2 == 12634) = false from beq_eq_false_iff_ne.mpr (by omega)]
    simp
  have hnf : gt_form c = false → gt_valid c = false := by
    intro hm
    unfold gt_valid
    rw [hm]
    rfl
  by_cases c1 : nn c 0 2 / 2 ^ 14 = 0
  · rw [if_pos (by rw [c1]; rfl)]
    by_cases c2 : nn c 0 2 / 2 ^ 10 % 4 = 0
    · rw [if_pos (by rw [c2]; rfl)]
      by_cases c3 : nn c 0 2 % 1024 = 346
      · rw [if_pos (by rw [c3]; rfl)]
        have hm : nn c 0 2 = 346 ∨ nn c 0 2 = 4442 ∨ nn c 0 2 = 8538 ∨ nn c 0 2 = 12634 := by omega
        by_cases c4 : nn c 2 2 / 2 ^ 10 = 0
        · have hu : nn c 2 2 ≤ 1023 := by omega
          have ep : N32 (nn c 2 2 % 1024) + (1 : Int32) = N32 (nn c 2 2 + 1) := by
            rw [Nat.mod_eq_of_lt (by omega)]
            exact nb_add _ 1
          rw [if_pos (by rw [c4]; rfl), ep, show (8 : Int32) = N32 8 from rfl, if_lt (by omega) (by decide)]
          by_cases c5 : nn c 2 2 + 1 < 8
          · rw [if_pos c5, hnf (by
              unfold gt_form
              rw [show Nat.ble 7 (nn c 2 2) = false from Bool.eq_false_iff.mpr (fun e => by have := Nat.le_of_ble_eq_true e; omega)]
              rfl)]
            rfl
          · rw [if_neg c5, h3, if_lt (by omega) (by omega)]
            by_cases c6 : c.length < nn c 2 2 + 1
            · rw [if_pos c6, hnf (by
                unfold gt_form
                rw [show Nat.ble (nn c 2 2 + 1) c.length = false from Bool.eq_false_iff.mpr (fun e => by have := Nat.le_of_ble_eq_true e; omega)]
                simp)]
              rfl
            · rw [if_neg c6, h1, if_pos (by omega)]
              have ec : f_Model_check S (M + 3) 0 (N32 (nn c 2 2 + 1)) D = _ := ba_check h4 (by omega) (by omega) (f := 0) (c := nn c 2 2 + 1) (by omega)
              rw [ec, List.drop_zero]
              simp only
              have hcr : cr_f (c.take (nn c 2 2 + 1)) < 65536 := cr_f_lt (fun x hx => h4.2 x (List.mem_of_mem_take hx))
              by_cases c7 : cr_f (c.take (nn c 2 2 + 1)) = 0
              · rw [if_pos (by rw [c7]; rfl)]
                have hform : gt_form c = true := by
                  unfold gt_form
                  rw [Nat.ble_eq_true_of_le (show 7 ≤ nn c 2 2 by omega), Nat.ble_eq_true_of_le hu, Nat.ble_eq_true_of_le (show nn c 2 2 + 1 ≤ c.length by omega), c7]
                  rfl
                have hv : gt_valid c = (nn c 0 2 == 346 || nn c 0 2 == 8538 || (nn c 0 2 == 12634 && gt_dir c)) := by
                  unfold gt_valid
                  rw [hform, Bool.true_and]
                have m1 := and_4096 _ hm
                have m2 := and_8192 _ hm
                have k1 : f_Model_valid_L118 S M (N32 (nn c 2 2 + 1)) 0 0 D = _ := gtm_118 (by1 := false) (ct := false) hcc (by omega) rfl
                have k2 : f_Model_valid_L118 S M (N32 (nn c 2 2 + 1)) 0 1 D = _ := gtm_118 (by1 := false) (ct := true) hcc (by omega) rfl
                have k3 : f_Model_valid_L118 S M (N32 (nn c 2 2 + 1)) 1 0 D = _ := gtm_118 (by1 := true) (ct := false) hcc (by omega) rfl
                have k4 : f_Model_valid_L118 S M (N32 (nn c 2 2 + 1)) 1 1 D = _ := gtm_118 (by1 := true) (ct := true) hcc (by omega) rfl
                unfold f_Model_valid_L103
                rw [k1, k2, k3, k4, hv]
                rcases hm with e | e | e | e
                · rw [if_pos (by rw [m2]; exact Or.inl e), if_pos (by rw [m1]; exact Or.inl e), e]
                  rfl
                · rw [if_pos (by rw [m2]; exact Or.inr e), if_neg (by rw [m1]; omega), e]
                  rfl
                · rw [if_neg (by rw [m2]; omega), if_pos (by rw [m1]; exact Or.inr e), e]
                  rfl
                · rw [if_neg (by rw [m2]; omega), if_neg (by rw [m1]; omega), e]
                  rfl
              · rw [if_neg (by rw [show (0 : Int32) = N32 0 from rfl, nb_eq (by omega) (by decide)]; exact c7), hnf (by
                  unfold gt_form
                  rw [show Nat.beq (cr_f (c.take (nn c 2 2 + 1))) 0 = false from Bool.eq_false_iff.mpr (fun e => c7 (Nat.eq_of_beq_eq_true e))]
                  simp)]
                rfl
        · rw [if_neg (by rw [show (0 : Int32) = N32 0 from rfl, nb_eq (by omega) (by decide)]; exact c4), hnf (by
            unfold gt_form
            rw [show Nat.ble (nn c 2 2) 1023 = false from Bool.eq_false_iff.mpr (fun e => by have := Nat.le_of_ble_eq_true e; omega)]
            simp)]
          rfl
      · rw [if_neg (by rw [show (346 : Int32) = N32 346 from rfl, nb_eq (by omega) (by decide)]; exact c3), hno (by omega)]
        rfl
    · rw [if_neg (by rw [show (0 : Int32) = N32 0 from rfl, nb_eq (by omega) (by decide)]; exact c2), hno (by omega)]
      rfl
  · rw [if_neg (by rw [show (0 : Int32) = N32 0 from rfl, nb_eq (by omega) (by decide)]; exact c1), hno (by omega)]
    rfl
