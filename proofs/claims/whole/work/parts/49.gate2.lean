-- ===== the class's gate: a frame =====
theorem and_4096 : ∀ h : Nat, h = 346 ∨ h = 4442 ∨ h = 8538 ∨ h = 12634 → (((N32 h &&& (4096 : Int32)) = 0) = (h = 346 ∨ h = 8538)) := by
  intro h hh
  rcases hh with e | e | e | e <;> subst e <;> decide
theorem and_8192 : ∀ h : Nat, h = 346 ∨ h = 4442 ∨ h = 8538 ∨ h = 12634 → (((N32 h &&& (8192 : Int32)) = 0) = (h = 346 ∨ h = 4442)) := by
  intro h hh
  rcases hh with e | e | e | e <;> subst e <;> decide
theorem gt_mask_chk : ((List.range 65536).all fun h => Nat.beq (h &&& 4294955007) 346 == (Nat.beq h 346 || Nat.beq h 4442 || Nat.beq h 8538 || Nat.beq h 12634)) = true := by decide +kernel
theorem gt_mask {h : Nat} (hh : h < 65536) : ((N32 h &&& (-12289 : Int32)) = (346 : Int32)) = (h = 346 ∨ h = 4442 ∨ h = 8538 ∨ h = 12634) := by
  have := List.all_eq_true.mp gt_mask_chk h (List.mem_range.mpr hh)
  have e := eq_of_beq this
  rw [show (-12289 : Int32) = N32 4294955007 from rfl, n_and, show (346 : Int32) = N32 346 from rfl]
  have hle : h &&& 4294955007 ≤ h := Nat.and_le_left
  rw [nb_eq (by omega) (by decide), eq_iff_iff]
  constructor
  · intro h1
    rw [h1] at e
    have e2 := e.symm
    simp only [Nat.beq_refl, Bool.or_eq_true, or_assoc] at e2
    rcases e2 with h | h | h | h
    · exact Or.inl (Nat.eq_of_beq_eq_true h)
    · exact Or.inr (Or.inl (Nat.eq_of_beq_eq_true h))
    · exact Or.inr (Or.inr (Or.inl (Nat.eq_of_beq_eq_true h)))
    · exact Or.inr (Or.inr (Or.inr (Nat.eq_of_beq_eq_true h)))
  · intro h1
    rcases h1 with e | e | e | e <;> subst e <;> rfl
theorem gtc_dir {S : ob_S} {D : ob_D} {a b cap : Nat} {c : List Nat} (h : rw_at S D a b cap c) (h6 : 6 ≤ nn c 2 2) (hu : nn c 2 2 ≤ 1023) : f_Gate_isDirective S a D = some (bI (gt_dir c), D) := by
  have hb := h.2.2.2.2.2.2.2.2
  have l19 : ∀ z, z = nn c 2 2 - 6 → f_Gate_isDirective_L19 S a (N32 z) D = some (bI (nn c 2 2 == 9 && nn c 5 2 == 33280), D) := by
    intro z hz
    unfold f_Gate_isDirective_L19
    have e : f_Row_number S a 5 2 D = _ := rw_num h (f := 5) (c := 2) (by decide) (by decide)
    rw [show (3 : Int32) = N32 3 from rfl, if_en (by omega) (by decide)]
    by_cases h3 : z = 3
    · rw [if_pos h3, e]
      simp only [ob_bd]
      have hlt : nn c 5 2 < 65536 := nn_lt hb 5 2
      rw [show (33280 : Int32) = N32 33280 from rfl, if_en (by omega) (by decide)]
      by_cases h5 : nn c 5 2 = 33280
      · rw [if_pos h5]
        simp [bI, h5, show nn c 2 2 = 9 by omega]
      · rw [if_neg h5]
        simp [bI, h5]
    · rw [if_neg h3]
      simp [bI, show ¬ nn c 2 2 = 9 by omega]
  unfold f_Gate_isDirective
  rw [gtc_body h h6]
  simp only [ob_bd]
  rw [show (1 : Int32) = N32 1 from rfl, if_en (by omega) (by decide)]
  unfold gt_dir
  by_cases h1 : nn c 2 2 - 6 = 1
  · have e : f_Row_number S a 5 1 D = _ := rw_num h (f := 5) (c := 1) (by decide) (by decide)
    have e' : f_Row_number S a 5 (N32 1) D = _ := e
    rw [if_pos h1, e', nn_1]
    simp only
    have hlt := by_getD_lt hb 5
    rw [show (0 : Int32) = N32 0 from rfl, if_en (by omega) (by decide)]
    by_cases h0 : c.getD 5 0 = 0
    · rw [if_pos h0, show (c.getD 5 0 == 0) = true from beq_iff_eq.mpr h0, show (nn c 2 2 == 7) = true from beq_iff_eq.mpr (by omega)]
      rfl
    · rw [if_neg h0, l19 _ rfl]
      have : (c.getD 5 0 == 0) = false := by simpa using h0
      rw [this, Bool.and_false, Bool.false_or]
  · rw [if_neg h1, l19 _ rfl]
    have : (nn c 2 2 == 7) = false := by simp; omega
    rw [this, Bool.false_and, Bool.false_or]
theorem gtc_valid {S : ob_S} {D : ob_D} {a b cap : Nat} {c : List Nat} (h : rw_at S D a b cap c) : f_Gate_isValid S a D = some (bI (gt_valid c), D) := by
  have hb := h.2.2.2.2.2.2.2.2
  have hcap := h.2.2.2.2.2.1
  have hcap2 := h.2.2.2.2.2.2.1
  have e0 : f_Row_number S a 0 2 D = _ := rw_num h (f := 0) (c := 2) (by decide) (by decide)
  have e2 : f_Row_number S a 2 2 D = _ := rw_num h (f := 2) (c := 2) (by decide) (by decide)
  have l0 : nn c 0 2 < 65536 := nn_lt hb 0 2
  have l2 : nn c 2 2 < 65536 := nn_lt hb 2 2
  unfold f_Gate_isValid
  rw [e0]
  simp only [ob_bd]
  rw [e2]
  simp only
  have ep : N32 (nn c 2 2) + (1 : Int32) = N32 (nn c 2 2 + 1) := nb_add _ 1
  rw [ep]
  unfold gt_valid
  by_cases hm : nn c 0 2 = 346 ∨ nn c 0 2 = 4442 ∨ nn c 0 2 = 8538 ∨ nn c 0 2 = 12634
  · rw [if_pos (by rw [gt_mask l0]; exact hm), show (7 : Int32) = N32 7 from rfl, if_lt (by omega) (by decide)]
    by_cases h7 : nn c 2 2 < 7
    · rw [if_pos h7]
      have : gt_form c = false := by
        unfold gt_form
        rw [show Nat.ble 7 (nn c 2 2) = false from Bool.eq_false_iff.mpr (fun e => by have := Nat.le_of_ble_eq_true e; omega)]
        rfl
      rw [this]
      rfl
    · rw [if_neg h7, show (1023 : Int32) = N32 1023 from rfl, if_le (by omega) (by decide)]
      by_cases hu : nn c 2 2 ≤ 1023
      · rw [if_pos hu, h.2.2.2.2.1, if_lt (by omega) (by omega)]
        by_cases hl : c.length < nn c 2 2 + 1
        · rw [if_pos hl]
          have : gt_form c = false := by
            unfold gt_form
            rw [show Nat.ble (nn c 2 2 + 1) c.length = false from Bool.eq_false_iff.mpr (fun e => by have := Nat.le_of_ble_eq_true e; omega)]
            simp
          rw [this]
          rfl
        · rw [if_neg hl]
          have ec : f_Row_check S a 0 (N32 (nn c 2 2 + 1)) D = _ := rw_crc h (f := 0) (c := nn c 2 2 + 1) (by omega)
          rw [ec, List.drop_zero]
          simp only
          have hcr : cr_f (c.take (nn c 2 2 + 1)) < 65536 := cr_f_lt (fun x hx => hb x (List.mem_of_mem_take hx))
          rw [show (0 : Int32) = N32 0 from rfl, if_en (by omega) (by decide)]
          by_cases hz : cr_f (c.take (nn c 2 2 + 1)) = 0
          · have hform : gt_form c = true := by
              unfold gt_form
              rw [Nat.ble_eq_true_of_le (show 7 ≤ nn c 2 2 by omega), Nat.ble_eq_true_of_le hu, Nat.ble_eq_true_of_le (show nn c 2 2 + 1 ≤ c.length by omega), hz]
              rfl
            rw [if_pos hz, hform, Bool.true_and]
            have m1 := and_4096 _ hm
            have m2 := and_8192 _ hm
            rcases hm with e | e | e | e
            · rw [if_pos (by rw [show N32 0 = (0 : Int32) from rfl, m1]; exact Or.inl e), e]
              rfl
            · rw [if_neg (by rw [show N32 0 = (0 : Int32) from rfl, m1]; omega), if_pos (by rw [show N32 0 = (0 : Int32) from rfl, m2]; exact Or.inr e), e]
              rfl
            · rw [if_pos (by rw [show N32 0 = (0 : Int32) from rfl, m1]; exact Or.inr e), e]
              rfl
            · rw [if_neg (by rw [show N32 0 = (0 : Int32) from rfl, m1]; omega), if_neg (by rw [show N32 0 = (0 : Int32) from rfl, m2]; omega), gtc_dir h (by omega) hu, e]
              simp only
              rw [show (N32 0 : Int32) = 0 from rfl, if_bI]
              cases gt_dir c <;> rfl
          · rw [if_neg hz]
            have : gt_form c = false := by
              unfold gt_form
              rw [show Nat.beq (cr_f (c.take (nn c 2 2 + 1))) 0 = false from Bool.eq_false_iff.mpr (fun e => hz (Nat.eq_of_beq_eq_true e))]
              simp
            rw [this]
            rfl
      · rw [if_neg hu]
        have : gt_form c = false := by
          unfold gt_form
          rw [show Nat.ble (nn c 2 2) 1023 = false from Bool.eq_false_iff.mpr (fun e => by have := Nat.le_of_ble_eq_true e; omega)]
          simp
        rw [this]
        rfl
  · rw [if_neg (by rw [gt_mask l0]; exact hm)]
    have e1 : (nn c 0 2 == 346) = false := by simp; omega
    have e2 : (nn c 0 2 == 8538) = false := by simp; omega
    have e3 : (nn c 0 2 == 12634) = false := by simp; omega
    rw [e1, e2, e3]
    simp [bI]
theorem gt_form_ok {c : List Nat} (h : gt_valid c = true) : 7 ≤ nn c 2 2 ∧ nn c 2 2 ≤ 1023 ∧ nn c 2 2 + 1 ≤ c.length ∧ (nn c 0 2 = 346 ∨ nn c 0 2 = 8538 ∨ nn c 0 2 = 12634) ∧ (nn c 0 2 = 12634 → gt_dir c = true) := by
  unfold gt_valid gt_form at h
  simp only [Bool.and_eq_true, Bool.or_eq_true, beq_iff_eq] at h
  obtain ⟨⟨⟨⟨h1, h2⟩, h3⟩, -⟩, h5⟩ := h
  refine ⟨Nat.le_of_ble_eq_true h1, Nat.le_of_ble_eq_true h2, Nat.le_of_ble_eq_true h3, ?_, ?_⟩
  · rcases h5 with (e | e) | e
    · exact Or.inl e
    · exact Or.inr (Or.inl e)
    · exact Or.inr (Or.inr e.1)
  · intro e
    rcases h5 with (e1 | e1) | e1
    · omega
    · omega
    · exact e1.2
