-- ===== limits: what the reference does =====
abbrev lmmP (M : Nat) : Nat → Nat → Prop := fun y k => (y = M ∧ k = 56) ∨ (M + 19 ≤ y ∧ y ≤ M + 27)
theorem wm_limfail {S : ob_S} {D : ob_D} {M t : Nat} {c : List Nat} {l : List sLm} (hA : mA S D M) (hc : mCm D M c) (hF : mLm D M l) (hl : 14 ≤ c.length) (ht : t < 256) (ht1 : t ≠ 5) : f_Model_limitFailure S M (N32 t) D = some (N32 (lf_v 27 (decide (t = 6)) (fun f : sLm => f.1) (fun f : sLm => f.2.1) (c.getD 11 0) l), D) := by
  have a47 : D.2.1 M 47 = M + 19 ∧ S.2.1 (M + 19) = 256 := hA.1 (47, 19, 256) (by decide)
  have a48 : D.2.1 M 48 = M + 20 ∧ S.2.1 (M + 20) = 256 := hA.1 (48, 20, 256) (by decide)
  have hb := by_getD_lt hc.2.2.2 11
  have hin : ob_in (N32 (c.getD 11 0)) 256 := by rw [nb_in (by omega)]; exact hb
  obtain ⟨f1, f2, f3, f4, f5, f6⟩ := hF
  have v31 : D.1 (M + 19) (N32 (c.getD 11 0)).toNatClampNeg = bI ((ky_find (fun f : sLm => f.1) (c.getD 11 0) l).isSome) := by rw [nb_clamp (by omega)]; exact f5 _ hb
  unfold f_Model_limitFailure lf_v
  rw [wm_d0 hA hc hl]
  simp only [ob_bd]
  rw [if_neg (by rw [show (5 : Int32) = N32 5 from rfl, nb_eq (by omega) (by decide)]; exact ht1), a47.1, if_pos (by omega), a47.2, if_pos hin, v31]
  cases hf : ky_find (fun f : sLm => f.1) (c.getD 11 0) l with
  | none => rw [if_pos (show bI (none : Option Nat).isSome = 0 from rfl)]; rfl
  | some i =>
    obtain ⟨hi, hk⟩ := ky_find_is hf
    have eg : l[i]? = some l[i] := List.getElem?_eq_getElem hi
    have hk' : l[i].1 = c.getD 11 0 := hk
    have v32 : D.1 (M + 20) (N32 (c.getD 11 0)).toNatClampNeg = bI l[i].2.1 := by
      rw [nb_clamp (by omega), ← hk']
      exact (f6 l[i] (List.getElem_mem hi)).1
    simp only [eg]
    rw [if_neg (show ¬ bI (some i : Option Nat).isSome = 0 from fun e => absurd (show bI true = 0 from e) (by decide))]
    by_cases h3 : t = 6
    · rw [if_pos (by rw [h3]; rfl), a48.1, if_pos (by omega), a48.2, if_pos hin, v32, show decide (t = 6) = true from decide_eq_true h3]
      by_cases hon : l[i].2.1 = true
      · rw [if_neg (show ¬ bI l[i].2.1 = 0 by rw [hon]; decide), if_pos ⟨rfl, hon⟩]; rfl
      · have hon' : l[i].2.1 = false := Bool.eq_false_iff.mpr hon
        rw [if_pos (show bI l[i].2.1 = 0 by rw [hon']; rfl), if_neg (fun e => hon e.2)]; rfl
    · rw [if_neg (by rw [show (6 : Int32) = N32 6 from rfl, nb_eq (by omega) (by decide)]; exact h3), show decide (t = 6) = false from decide_eq_false h3, if_neg (by rintro ⟨e, -⟩; exact absurd e (by decide))]
      rfl
theorem wm_newlim {S : ob_S} {D : ob_D} {M : Nat} {c : List Nat} {l : List sLm} (hA : mA S D M) (hc : mCm D M c) (hF : mLm D M l) (hl : c.length = 26) : f_Model_limitFailure S M 5 D = some (N32 (nl_v c l), D) := by
  have a47 : D.2.1 M 47 = M + 19 ∧ S.2.1 (M + 19) = 256 := hA.1 (47, 19, 256) (by decide)
  have hbb := hc.2.2.2
  have hb := by_getD_lt hbb 11
  have b13 := by_getD_lt hbb 13
  have b23 := by_getD_lt hbb 23
  have b12 := by_getD_lt hbb 12
  have b22 := by_getD_lt hbb 22
  have hin : ob_in (N32 (c.getD 11 0)) 256 := by rw [nb_in (by omega)]; exact hb
  obtain ⟨f1, f2, f3, f4, f5, f6⟩ := hF
  have v31 : D.1 (M + 19) (N32 (c.getD 11 0)).toNatClampNeg = bI ((ky_find (fun f : sLm => f.1) (c.getD 11 0) l).isSome) := by rw [nb_clamp (by omega)]; exact f5 _ hb
  have d2 : f_Model_data S M 2 D = some (N32 (c.getD 13 0), D) := wm_data hA hc (i := 2) (by omega)
  have d12 : f_Model_data S M 12 D = some (N32 (c.getD 23 0), D) := wm_data hA hc (i := 12) (by omega)
  have d1 : f_Model_data S M 1 D = some (N32 (c.getD 12 0), D) := wm_data hA hc (i := 1) (by omega)
  have d11 : f_Model_data S M 11 D = some (N32 (c.getD 22 0), D) := wm_data hA hc (i := 11) (by omega)
  have d3 : f_Model_dataFour S M 3 D = some (N32 (nn c 14 4), D) := wm_data4 hA hc (i := 3) (by omega)
  have d7 : f_Model_dataFour S M 7 D = some (N32 (nn c 18 4), D) := wm_data4 hA hc (i := 7) (by omega)
  unfold f_Model_limitFailure nl_v
  rw [wm_d0 hA hc (by omega)]
  simp only [ob_bd]
  rw [if_pos trivial, d2]
  simp only [ob_bd]
  by_cases h13 : c.getD 13 0 = 0
  · rw [if_pos h13, if_pos (by rw [h13]; rfl)]; rfl
  rw [if_neg h13, if_neg (by rw [show (0 : Int32) = N32 0 from rfl, nb_eq (by omega) (by decide)]; exact h13), d3]
  simp only [ob_bd]
  rw [d7]
  simp only [ob_bd]
  by_cases hlt : N32 (nn c 18 4) < N32 (nn c 14 4)
  · rw [if_pos hlt, if_pos hlt]; rfl
  rw [if_neg hlt, if_neg hlt, d12]
  simp only [ob_bd]
  by_cases h23 : c.getD 23 0 ≤ 1
  case neg => rw [if_pos (by rw [show (1 : Int32) = N32 1 from rfl, nb_lt (by decide) (by omega)]; omega), if_neg h23]; rfl
  rw [if_neg (by rw [show (1 : Int32) = N32 1 from rfl, nb_lt (by decide) (by omega)]; omega), if_pos h23, d1]
  simp only [ob_bd]
  by_cases h12 : 32 ≤ c.getD 12 0
  · rw [if_pos (by rw [show (31 : Int32) = N32 31 from rfl, nb_lt (by decide) (by omega)]; omega), if_pos h12]; rfl
  rw [if_neg (by rw [show (31 : Int32) = N32 31 from rfl, nb_lt (by decide) (by omega)]; omega), if_neg h12, d11]
  simp only [ob_bd]
  by_cases h22 : c.getD 22 0 < 32
  case neg => rw [if_neg (by rw [show (31 : Int32) = N32 31 from rfl, nb_le (by omega) (by decide)]; omega), if_neg h22]; rfl
  rw [if_pos (by rw [show (31 : Int32) = N32 31 from rfl, nb_le (by omega) (by decide)]; omega), if_pos h22, a47.1, if_pos (by omega), a47.2, if_pos hin, v31, f1]
  unfold pl_v
  cases hf : ky_find (fun f : sLm => f.1) (c.getD 11 0) l with
  | none =>
    rw [if_pos (show bI (none : Option Nat).isSome = 0 from rfl), if_neg (show ¬ (none : Option Nat).isSome = true by decide)]
    by_cases h8 : l.length = 16
    · rw [if_pos (by rw [h8]; rfl), if_neg (by omega)]; rfl
    · rw [if_neg (by rw [show (16 : Int32) = N32 16 from rfl, nb_eq (by omega) (by decide)]; exact h8), if_pos (by omega)]; rfl
  | some i =>
    rw [if_neg (show ¬ bI (some i : Option Nat).isSome = 0 from fun e => absurd (show bI true = 0 from e) (by decide)), if_pos (show (some i : Option Nat).isSome = true from rfl)]
    rfl
theorem wm_addlim {S : ob_S} {D : ob_D} {M : Nat} {c : List Nat} {l : List sLm} (hA : mA S D M) (hc : mCm D M c) (hF : mLm D M l) (hl : c.length = 26) (hf : nl_v c l = 0) : ∃ D', f_Model_actLimit S M 5 D = some D' ∧ mLm D' M (lm_add c l) ∧ oi (lmmP M) D D' := by
  obtain ⟨h23, h12, h22, hnone, hroom⟩ := nl_0 hf
  have a47 : D.2.1 M 47 = M + 19 ∧ S.2.1 (M + 19) = 256 := hA.1 (47, 19, 256) (by decide)
  have a48 : D.2.1 M 48 = M + 20 ∧ S.2.1 (M + 20) = 256 := hA.1 (48, 20, 256) (by decide)
  have a49 : D.2.1 M 49 = M + 21 ∧ S.2.1 (M + 21) = 256 := hA.1 (49, 21, 256) (by decide)
  have a50 : D.2.1 M 50 = M + 22 ∧ S.2.1 (M + 22) = 256 := hA.1 (50, 22, 256) (by decide)
  have a51 : D.2.1 M 51 = M + 23 ∧ S.2.1 (M + 23) = 256 := hA.1 (51, 23, 256) (by decide)
  have a52 : D.2.1 M 52 = M + 24 ∧ S.2.1 (M + 24) = 256 := hA.1 (52, 24, 256) (by decide)
  have a53 : D.2.1 M 53 = M + 25 ∧ S.2.1 (M + 25) = 256 := hA.1 (53, 25, 256) (by decide)
  have a54 : D.2.1 M 54 = M + 26 ∧ S.2.1 (M + 26) = 256 := hA.1 (54, 26, 256) (by decide)
  have a55 : D.2.1 M 55 = M + 27 ∧ S.2.1 (M + 27) = 256 := hA.1 (55, 27, 256) (by decide)
  have hbb := hc.2.2.2
  obtain ⟨k, hk⟩ : ∃ k, k = c.getD 11 0 := ⟨_, rfl⟩
  have hkb : k < 256 := hk ▸ by_getD_lt hbb 11
  have b13 := by_getD_lt hbb 13
  have hin : ob_in (N32 k) 256 := by rw [nb_in (by omega)]; exact hkb
  have hcp : (N32 k).toNatClampNeg = k := nb_clamp (by omega)
  obtain ⟨f1, f2, f3, f4, f5, f6⟩ := hF
  have d0 : f_Model_data S M 0 D = some (N32 k, D) := by rw [hk]; exact wm_d0 hA hc (by omega)
  obtain ⟨D7, h7⟩ : ∃ x, x = ob_pI D (M + 27) k (0 : Int32) := ⟨_, rfl⟩
  obtain ⟨D22, hD22⟩ : ∃ x, x = ob_pI D7 (M + 19) k (bI true) := ⟨_, rfl⟩
  obtain ⟨D26, hD26⟩ : ∃ x, x = ob_pI D22 (M + 20) k (bI false) := ⟨_, rfl⟩
  obtain ⟨D33, hD33⟩ : ∃ x, x = ob_pI D26 (M + 21) k (N32 (c.getD 12 0)) := ⟨_, rfl⟩
  obtain ⟨D40, hD40⟩ : ∃ x, x = ob_pI D33 (M + 22) k (N32 (c.getD 13 0)) := ⟨_, rfl⟩
  obtain ⟨D47, hD47⟩ : ∃ x, x = ob_pI D40 (M + 23) k (N32 (nn c 14 4)) := ⟨_, rfl⟩
  obtain ⟨D54, hD54⟩ : ∃ x, x = ob_pI D47 (M + 24) k (N32 (nn c 18 4)) := ⟨_, rfl⟩
  obtain ⟨D61, hD61⟩ : ∃ x, x = ob_pI D54 (M + 25) k (N32 (c.getD 22 0)) := ⟨_, rfl⟩
  obtain ⟨D68, hD68⟩ : ∃ x, x = ob_pI D61 (M + 26) k (N32 (c.getD 23 0)) := ⟨_, rfl⟩
  have g7 : oi (fun y q => M + 19 ≤ y ∧ y ≤ M + 27 ∧ q = k) D D7 := h7 ▸ oi.pI ⟨by omega, by omega, rfl⟩
  have g22 : oi (fun y q => M + 19 ≤ y ∧ y ≤ M + 27 ∧ q = k) D D22 := g7.tr (hD22 ▸ oi.pI ⟨by omega, by omega, rfl⟩)
  have g26 : oi (fun y q => M + 19 ≤ y ∧ y ≤ M + 27 ∧ q = k) D D26 := g22.tr (hD26 ▸ oi.pI ⟨by omega, by omega, rfl⟩)
  have g33 : oi (fun y q => M + 19 ≤ y ∧ y ≤ M + 27 ∧ q = k) D D33 := g26.tr (hD33 ▸ oi.pI ⟨by omega, by omega, rfl⟩)
  have g40 : oi (fun y q => M + 19 ≤ y ∧ y ≤ M + 27 ∧ q = k) D D40 := g33.tr (hD40 ▸ oi.pI ⟨by omega, by omega, rfl⟩)
  have g47 : oi (fun y q => M + 19 ≤ y ∧ y ≤ M + 27 ∧ q = k) D D47 := g40.tr (hD47 ▸ oi.pI ⟨by omega, by omega, rfl⟩)
  have g54 : oi (fun y q => M + 19 ≤ y ∧ y ≤ M + 27 ∧ q = k) D D54 := g47.tr (hD54 ▸ oi.pI ⟨by omega, by omega, rfl⟩)
  have g61 : oi (fun y q => M + 19 ≤ y ∧ y ≤ M + 27 ∧ q = k) D D61 := g54.tr (hD61 ▸ oi.pI ⟨by omega, by omega, rfl⟩)
  have g68 : oi (fun y q => M + 19 ≤ y ∧ y ≤ M + 27 ∧ q = k) D D68 := g61.tr (hD68 ▸ oi.pI ⟨by omega, by omega, rfl⟩)
  have kp : ∀ {X : ob_D}, oi (fun y q => M + 19 ≤ y ∧ y ≤ M + 27 ∧ q = k) D X → mA S X M ∧ mCm X M c := fun g => ⟨hA.kp g, hc.keep g.up (by omega) (by omega)⟩
  have d1 : f_Model_data S M 1 D26 = some (N32 (c.getD 12 0), D26) := wm_data (kp g26).1 (kp g26).2 (i := 1) (by omega)
  have d2 : f_Model_data S M 2 D33 = some (N32 (c.getD 13 0), D33) := wm_data (kp g33).1 (kp g33).2 (i := 2) (by omega)
  have d3 : f_Model_dataFour S M 3 D40 = some (N32 (nn c 14 4), D40) := wm_data4 (kp g40).1 (kp g40).2 (i := 3) (by omega)
  have d7 : f_Model_dataFour S M 7 D47 = some (N32 (nn c 18 4), D47) := wm_data4 (kp g47).1 (kp g47).2 (i := 7) (by omega)
  have d11 : f_Model_data S M 11 D54 = some (N32 (c.getD 22 0), D54) := wm_data (kp g54).1 (kp g54).2 (i := 11) (by omega)
  have d12 : f_Model_data S M 12 D61 = some (N32 (c.getD 23 0), D61) := wm_data (kp g61).1 (kp g61).2 (i := 12) (by omega)
  have e56 : D68.1 M 56 + 1 = N32 (l.length + 1) := by rw [g68.2 _ _ (by omega), f1]; exact nb_add _ 1
  have gZ : oi (fun y q => (y = M ∧ q = 56) ∨ (M + 19 ≤ y ∧ y ≤ M + 27 ∧ q = k)) D (ob_pI D68 M 56 (N32 (l.length + 1))) := (g68.mono (fun y q e => Or.inr e)).tr (oi.pI (Or.inl ⟨rfl, rfl⟩))
  have hnm := ky_find_none.mp hnone
  refine ⟨ob_pI D68 M 56 (N32 (l.length + 1)), ?_, ⟨?_, ?_, ky_ins_srt _ _ _ f3 hnm, fun f hf => ?_, fun q hq => ?_, fun f hf => ?_⟩, gZ.mono (fun y q e => by omega)⟩
  · unfold f_Model_actLimit
    rw [d0]
    simp only [ob_bd]
    rw [a55.1, if_pos (by omega), a55.2, if_pos hin]
    simp only [hcp, ob_lt]
    rw [← h7, if_pos trivial, g7.1, a47.1, if_pos (by omega), a47.2, if_pos hin, bI_and1, bI_and0, ← hD22, g22.1, a48.1, if_pos (by omega), a48.2, if_pos hin, ← hD26, g26.1, a49.1, if_pos (by omega), d1]
    simp only [ob_bd]
    rw [a49.2, if_pos hin, ← hD33, g33.1, a50.1, if_pos (by omega), d2]
    simp only [ob_bd]
    rw [a50.2, if_pos hin, ← hD40, g40.1, a51.1, if_pos (by omega), d3]
    simp only [ob_bd]
    rw [a51.2, if_pos hin, ← hD47, g47.1, a52.1, if_pos (by omega), d7]
    simp only [ob_bd]
    rw [a52.2, if_pos hin, ← hD54, g54.1, a53.1, if_pos (by omega), d11]
    simp only [ob_bd]
    rw [a53.2, if_pos hin, ← hD61, g61.1, a54.1, if_pos (by omega), d12]
    simp only [ob_bd]
    rw [a54.2, if_pos hin, ← hD68, e56]
  · unfold lm_add
    rw [ky_ins_len, pI_self]
  · unfold lm_add
    rw [ky_ins_len]
    omega
  · rcases (ky_ins_mem _ _ l f).mp hf with e | e
    · rw [e]
      exact ⟨by show c.getD 11 0 < 256; rw [← hk]; exact hkb, h12, b13, h22, by show c.getD 23 0 < 2; omega⟩
    · exact f4 f e
  · unfold lm_add
    rw [ky_some_ins, pI_ne (by omega)]
    show _ = bI (decide (q = c.getD 11 0) || _)
    rw [← hk]
    by_cases hqk : q = k
    · rw [hqk, decide_eq_true rfl, hD68, pI_ne (by omega), hD61, pI_ne (by omega), hD54, pI_ne (by omega), hD47, pI_ne (by omega), hD40, pI_ne (by omega), hD33, pI_ne (by omega), hD26, pI_ne (by omega), hD22, pI_self]
      rfl
    · rw [decide_eq_false hqk, Bool.false_or, g68.2 _ _ (by omega)]
      exact f5 q hq
  · rcases (ky_ins_mem _ _ l f).mp hf with e | e
    · rw [e]
      show (ob_pI D68 M 56 (N32 (l.length + 1))).1 (M + 20) (c.getD 11 0) = bI false ∧ (ob_pI D68 M 56 (N32 (l.length + 1))).1 (M + 27) (c.getD 11 0) = 0 ∧ (ob_pI D68 M 56 (N32 (l.length + 1))).1 (M + 21) (c.getD 11 0) = N32 (c.getD 12 0) ∧ (ob_pI D68 M 56 (N32 (l.length + 1))).1 (M + 22) (c.getD 11 0) = N32 (c.getD 13 0) ∧ (ob_pI D68 M 56 (N32 (l.length + 1))).1 (M + 23) (c.getD 11 0) = N32 (nn c 14 4) ∧ (ob_pI D68 M 56 (N32 (l.length + 1))).1 (M + 24) (c.getD 11 0) = N32 (nn c 18 4) ∧ (ob_pI D68 M 56 (N32 (l.length + 1))).1 (M + 25) (c.getD 11 0) = N32 (c.getD 22 0) ∧ (ob_pI D68 M 56 (N32 (l.length + 1))).1 (M + 26) (c.getD 11 0) = N32 (c.getD 23 0)
      rw [← hk]
      refine ⟨?_, ?_, ?_, ?_, ?_, ?_, ?_, ?_⟩
      · rw [pI_ne (by omega), hD68, pI_ne (by omega), hD61, pI_ne (by omega), hD54, pI_ne (by omega), hD47, pI_ne (by omega), hD40, pI_ne (by omega), hD33, pI_ne (by omega), hD26, pI_self]
      · rw [pI_ne (by omega), hD68, pI_ne (by omega), hD61, pI_ne (by omega), hD54, pI_ne (by omega), hD47, pI_ne (by omega), hD40, pI_ne (by omega), hD33, pI_ne (by omega), hD26, pI_ne (by omega), hD22, pI_ne (by omega), h7, pI_self]
      · rw [pI_ne (by omega), hD68, pI_ne (by omega), hD61, pI_ne (by omega), hD54, pI_ne (by omega), hD47, pI_ne (by omega), hD40, pI_ne (by omega), hD33, pI_self]
      · rw [pI_ne (by omega), hD68, pI_ne (by omega), hD61, pI_ne (by omega), hD54, pI_ne (by omega), hD47, pI_ne (by omega), hD40, pI_self]
      · rw [pI_ne (by omega), hD68, pI_ne (by omega), hD61, pI_ne (by omega), hD54, pI_ne (by omega), hD47, pI_self]
      · rw [pI_ne (by omega), hD68, pI_ne (by omega), hD61, pI_ne (by omega), hD54, pI_self]
      · rw [pI_ne (by omega), hD68, pI_ne (by omega), hD61, pI_self]
      · rw [pI_ne (by omega), hD68, pI_self]
    · have hne : f.1 ≠ k := by rw [hk]; exact hnm f e
      obtain ⟨b1, b2, b3, b4, b5, b6, b7, b8⟩ := f6 f e
      exact ⟨by rw [gZ.2 _ _ (by omega)]; exact b1, by rw [gZ.2 _ _ (by omega)]; exact b2, by rw [gZ.2 _ _ (by omega)]; exact b3, by rw [gZ.2 _ _ (by omega)]; exact b4, by rw [gZ.2 _ _ (by omega)]; exact b5, by rw [gZ.2 _ _ (by omega)]; exact b6, by rw [gZ.2 _ _ (by omega)]; exact b7, by rw [gZ.2 _ _ (by omega)]; exact b8⟩
