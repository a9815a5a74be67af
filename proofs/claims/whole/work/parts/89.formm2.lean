-- ===== forms: what the reference does with them =====
theorem nf_0 {c : List Nat} {l : List sFm} (hf : nf_v c l = 0) : c.getD 12 0 ≠ 0 ∧ c.getD 13 0 ≠ 0 ∧ c.getD 13 0 ≤ 8 ∧ (∀ x ∈ fmps c, x < 32) ∧ ky_find (fun f : sFm => f.1) (c.getD 11 0) l = none ∧ l.length < 8 := by
  unfold nf_v at hf
  have h12 : c.getD 12 0 ≠ 0 := by intro e; rw [if_pos e] at hf; exact absurd hf (by decide)
  rw [if_neg h12] at hf
  have h13 : c.getD 13 0 ≠ 0 := by intro e; rw [if_pos e] at hf; exact absurd hf (by decide)
  rw [if_neg h13] at hf
  have h8 : c.getD 13 0 ≤ 8 := by
    by_cases e : c.getD 13 0 ≤ 8
    · exact e
    · rw [if_neg e] at hf; exact absurd hf (by decide)
  rw [if_pos h8] at hf
  have hall : (fmps c).all (fun x => decide (x < 32)) = true := by
    by_cases e : (fmps c).all (fun x => decide (x < 32)) = true
    · exact e
    · rw [if_neg e] at hf; exact absurd hf (by decide)
  rw [if_pos hall] at hf
  unfold pl_v at hf
  have hnone : ky_find (fun f : sFm => f.1) (c.getD 11 0) l = none := by
    cases e : ky_find (fun f : sFm => f.1) (c.getD 11 0) l with
    | none => rfl
    | some i => rw [e] at hf; exact absurd hf (by simp)
  rw [hnone] at hf
  have hroom : l.length < 8 := by
    by_cases e : l.length < 8
    · exact e
    · rw [if_neg (by simp), if_neg e] at hf; exact absurd hf (by decide)
  exact ⟨h12, h13, h8, fun x hx => by have := List.all_eq_true.mp hall x hx; simpa using this, hnone, hroom⟩
theorem bI_and1 : ((1 : Int32) &&& 1) = bI true := by decide
theorem bI_and0 : ((0 : Int32) &&& 1) = bI false := by decide
theorem wm_addform {S : ob_S} {D : ob_D} {M : Nat} {c : List Nat} {l : List sFm} (hA : mA S D M) (hc : mCm D M c) (hF : mFm D M l) (hl : c.length = 16 + c.getD 13 0) (hf : nf_v c l = 0) : ∃ D', f_Model_actForm S M 1 D = some D' ∧ mFm D' M (fm_add c l) ∧ oi (fmmP M) D D' := by
  obtain ⟨h12, h13, h8, hall, hnone, hroom⟩ := nf_0 hf
  have a31 : D.2.1 M 31 = M + 8 ∧ S.2.1 (M + 8) = 256 := hA.1 (31, 8, 256) (by decide)
  have a32 : D.2.1 M 32 = M + 9 ∧ S.2.1 (M + 9) = 256 := hA.1 (32, 9, 256) (by decide)
  have a33 : D.2.1 M 33 = M + 10 ∧ S.2.1 (M + 10) = 256 := hA.1 (33, 10, 256) (by decide)
  have a34 : D.2.1 M 34 = M + 11 ∧ S.2.1 (M + 11) = 256 := hA.1 (34, 11, 256) (by decide)
  have a35 : D.2.1 M 35 = M + 12 ∧ S.2.1 (M + 12) = 2048 := hA.1 (35, 12, 2048) (by decide)
  have hbb := hc.2.2.2
  obtain ⟨k, hk⟩ : ∃ k, k = c.getD 11 0 := ⟨_, rfl⟩
  obtain ⟨n0, hn0⟩ : ∃ n, n = c.getD 13 0 := ⟨_, rfl⟩
  have hkb : k < 256 := hk ▸ by_getD_lt hbb 11
  have hb12 := by_getD_lt hbb 12
  have hb13 := by_getD_lt hbb 13
  have hcl := hc.2.1
  have hpl := fmps_len hl
  have hin : ob_in (N32 k) 256 := by rw [nb_in (by omega)]; exact hkb
  have hcp : (N32 k).toNatClampNeg = k := nb_clamp (by omega)
  obtain ⟨f1, f2, f3, f4, f5, f6⟩ := hF
  obtain ⟨D20, hD20⟩ : ∃ x, x = ob_pI D (M + 8) k (bI true) := ⟨_, rfl⟩
  obtain ⟨D24, hD24⟩ : ∃ x, x = ob_pI D20 (M + 9) k (bI false) := ⟨_, rfl⟩
  obtain ⟨D31, hD31⟩ : ∃ x, x = ob_pI D24 (M + 10) k (N32 (c.getD 12 0)) := ⟨_, rfl⟩
  obtain ⟨D38, hD38⟩ : ∃ x, x = ob_pI D31 (M + 11) k (N32 n0) := ⟨_, rfl⟩
  have g20 : oi (fun y q => M + 8 ≤ y ∧ y ≤ M + 11 ∧ q = k) D D20 := hD20 ▸ oi.pI ⟨by omega, by omega, rfl⟩
  have g24 : oi (fun y q => M + 8 ≤ y ∧ y ≤ M + 11 ∧ q = k) D D24 := g20.tr (hD24 ▸ oi.pI ⟨by omega, by omega, rfl⟩)
  have g31 : oi (fun y q => M + 8 ≤ y ∧ y ≤ M + 11 ∧ q = k) D D31 := g24.tr (hD31 ▸ oi.pI ⟨by omega, by omega, rfl⟩)
  have g38 : oi (fun y q => M + 8 ≤ y ∧ y ≤ M + 11 ∧ q = k) D D38 := g31.tr (hD38 ▸ oi.pI ⟨by omega, by omega, rfl⟩)
  have d0 : f_Model_data S M 0 D = some (N32 k, D) := by rw [hk]; exact wm_d0 hA hc (by omega)
  have d1 : f_Model_data S M 1 D24 = some (N32 (c.getD 12 0), D24) := wm_data (hA.kp g24) (hc.keep g24.up (by omega) (by omega)) (i := 1) (by omega)
  have d2 : f_Model_data S M 2 D31 = some (N32 n0, D31) := by rw [hn0]; exact wm_data (hA.kp g31) (hc.keep g31.up (by omega) (by omega)) (i := 2) (by omega)
  have hL : ∀ (d n j : Nat) (D1 : ob_D), j + d = n0 → d < n → oi (fun y q => (M + 8 ≤ y ∧ y ≤ M + 11 ∧ q = k) ∨ (y = M + 12 ∧ 8 * k ≤ q ∧ q < 8 * k + 8)) D D1 → (∀ y q, M + 8 ≤ y → y ≤ M + 11 → D1.1 y q = D38.1 y q) → (∀ q, q < j → D1.1 (M + 12) (8 * k + q) = N32 (c.getD (14 + q) 0)) → ∃ D', f_Model_actForm_L49 S n M (N32 k) (N32 j) D1 = some D' ∧ oi (fun y q => (y = M ∧ q = 36) ∨ (M + 8 ≤ y ∧ y ≤ M + 11 ∧ q = k) ∨ (y = M + 12 ∧ 8 * k ≤ q ∧ q < 8 * k + 8)) D D' ∧ D'.1 M 36 = N32 (l.length + 1) ∧ (∀ y q, M + 8 ≤ y → y ≤ M + 11 → D'.1 y q = D38.1 y q) ∧ (∀ q, q < n0 → D'.1 (M + 12) (8 * k + q) = N32 (c.getD (14 + q) 0)) := by
    intro d
    induction d with
    | zero =>
      intro n j D1 hj hn g1 hs hq
      match n, hn with
      | n + 1, _ =>
        have hj' : j = n0 := hj
        have dd : f_Model_data S M 2 D1 = some (N32 n0, D1) := by rw [hn0]; exact wm_data (hA.kp g1) (hc.keep g1.up (by omega) (by omega)) (i := 2) (by omega)
        have e36 : D1.1 M 36 + 1 = N32 (l.length + 1) := by rw [g1.2 _ _ (by omega), f1]; exact nb_add _ 1
        refine ⟨ob_pI D1 M 36 (N32 (l.length + 1)), ?_, (g1.mono (fun y q e => Or.inr e)).tr (oi.pI (Or.inl ⟨rfl, rfl⟩)), pI_self, fun y q h1 h2 => by rw [pI_ne (by omega)]; exact hs y q h1 h2, fun q hq2 => by rw [pI_ne (by omega)]; exact hq q (by omega)⟩
        rw [f_Model_actForm_L49, dd]
        simp only [ob_bd]
        rw [if_pos (by rw [nb_le (by omega) (by omega)]; omega), e36]
    | succ d ih =>
      intro n j D1 hj hn g1 hs hq
      match n, hn with
      | n + 1, hn =>
        have hA1 := hA.kp g1
        have hc1 : mCm D1 M c := hc.keep g1.up (by omega) (by omega)
        have b35 : D1.2.1 M 35 = M + 12 := by rw [g1.1]; exact a35.1
        have dd : f_Model_data S M 2 D1 = some (N32 n0, D1) := by rw [hn0]; exact wm_data hA1 hc1 (i := 2) (by omega)
        have e3 : (3 : Int32) + N32 j = N32 (3 + j) := nb_add 3 j
        have ej : N32 j + (1 : Int32) = N32 (j + 1) := nb_add _ 1
        have e8 : (8 : Int32) * N32 k + N32 j = N32 (8 * k + j) := by rw [show (8 : Int32) = N32 8 from rfl, nb_mul, nb_add]
        have ed : f_Model_data S M (N32 (3 + j)) D1 = some (N32 (c.getD (11 + (3 + j)) 0), D1) := wm_data hA1 hc1 (by omega)
        rw [show 11 + (3 + j) = 14 + j by omega] at ed
        obtain ⟨D', t1, t2, t3, t4, t5⟩ := ih n (j + 1) (ob_pI D1 (M + 12) (8 * k + j) (N32 (c.getD (14 + j) 0))) (by omega) (by omega) (g1.tr (oi.pI (Or.inr ⟨rfl, by omega, by omega⟩))) (fun y q h1 h2 => by rw [pI_ne (by omega)]; exact hs y q h1 h2) (fun q hq2 => by
          by_cases hqj : q = j
          · rw [hqj, pI_self]
          · rw [pI_ne (by omega)]; exact hq q (by omega))
        refine ⟨D', ?_, t2, t3, t4, t5⟩
        rw [f_Model_actForm_L49, dd]
        simp only [ob_bd]
        rw [if_neg (by rw [nb_le (by omega) (by omega)]; omega), b35, if_pos (by omega), e3, ed]
        simp only [ob_bd]
        rw [e8, a35.2, if_pos (by rw [nb_in (by omega)]; omega), nb_clamp (by omega)]
        simp only [ob_lt]
        rw [ej]
        exact t1
  obtain ⟨D', t1, t2, t3, t4, t5⟩ := hL n0 ob_FU 0 D38 (by omega) (by rw [ob_FU_eq]; omega) (g38.mono (fun y q e => Or.inl e)) (fun y q _ _ => rfl) (fun q hq => absurd hq (by omega))
  have w8 : ∀ q, D38.1 (M + 8) q = if q = k then bI true else D.1 (M + 8) q := by
    intro q
    by_cases h : q = k
    · rw [if_pos h, h, hD38, pI_ne (by omega), hD31, pI_ne (by omega), hD24, pI_ne (by omega), hD20, pI_self]
    · rw [if_neg h, g38.2 _ _ (by omega)]
  have v9 : D38.1 (M + 9) k = bI false := by rw [hD38, pI_ne (by omega), hD31, pI_ne (by omega), hD24, pI_self]
  have v10 : D38.1 (M + 10) k = N32 (c.getD 12 0) := by rw [hD38, pI_ne (by omega), hD31, pI_self]
  have v11 : D38.1 (M + 11) k = N32 n0 := by rw [hD38, pI_self]
  have hnm := ky_find_none.mp hnone
  refine ⟨D', ?_, ⟨?_, ?_, ky_ins_srt _ _ _ f3 hnm, fun f hf => ?_, fun q hq => ?_, fun f hf => ?_⟩, t2.mono (fun y q e => by omega)⟩
  · unfold f_Model_actForm
    rw [d0]
    simp only [ob_bd]
    have r20 : D20.2 = D.2 := g20.1
    have r24 : D24.2 = D.2 := g24.1
    have r31 : D31.2 = D.2 := g31.1
    rw [if_pos trivial, a31.1, if_pos (by omega), a31.2, if_pos hin, bI_and1, bI_and0]
    simp only [hcp, ob_lt]
    rw [← hD20, r20, a32.1, if_pos (by omega), a32.2, if_pos hin, ← hD24, r24, a33.1, if_pos (by omega), d1]
    simp only [ob_bd]
    rw [a33.2, if_pos hin, ← hD31, r31, a34.1, if_pos (by omega), d2]
    simp only [ob_bd]
    rw [a34.2, if_pos hin, ← hD38]
    exact t1
  · unfold fm_add
    rw [ky_ins_len, t3]
  · unfold fm_add
    rw [ky_ins_len]
    omega
  · rcases (ky_ins_mem _ _ l f).mp hf with e | e
    · rw [e]
      exact ⟨hk ▸ hkb, by show 1 ≤ c.getD 12 0; omega, hb12, by show 1 ≤ (fmps c).length; omega, by show (fmps c).length ≤ 8; omega, hall⟩
    · exact f4 f e
  · unfold fm_add
    rw [ky_some_ins, t4 _ _ (by omega) (by omega), w8, ← hk]
    by_cases hqk : q = k
    · rw [if_pos hqk, decide_eq_true hqk]; rfl
    · rw [if_neg hqk, decide_eq_false hqk, Bool.false_or]; exact f5 q hq
  · rcases (ky_ins_mem _ _ l f).mp hf with e | e
    · rw [e]
      show D'.1 (M + 9) (c.getD 11 0) = bI false ∧ D'.1 (M + 10) (c.getD 11 0) = N32 (c.getD 12 0) ∧ D'.1 (M + 11) (c.getD 11 0) = N32 (fmps c).length ∧ ∀ j, j < (fmps c).length → D'.1 (M + 12) (8 * c.getD 11 0 + j) = N32 ((fmps c).getD j 0)
      rw [← hk, hpl, ← hn0]
      exact ⟨by rw [t4 _ _ (by omega) (by omega)]; exact v9, by rw [t4 _ _ (by omega) (by omega)]; exact v10, by rw [t4 _ _ (by omega) (by omega)]; exact v11, fun j hj => by rw [t5 j hj, fmps_get (by omega)]⟩
    · have hne : f.1 ≠ k := by rw [hk]; exact hnm f e
      have ho := f4 f e
      obtain ⟨b1, b2, b3, b4⟩ := f6 f e
      have hl8 := ho.2.2.2.2.1
      exact ⟨by rw [t2.2 _ _ (by omega)]; exact b1, by rw [t2.2 _ _ (by omega)]; exact b2, by rw [t2.2 _ _ (by omega)]; exact b3, fun j hj => by rw [t2.2 _ _ (by omega)]; exact b4 j hj⟩
theorem wm_remform {S : ob_S} {D : ob_D} {M : Nat} {c : List Nat} {l : List sFm} (hA : mA S D M) (hc : mCm D M c) (hF : mFm D M l) (hl : 14 ≤ c.length) {i : Nat} (hf : ky_find (fun f : sFm => f.1) (c.getD 11 0) l = some i) : ∃ D', f_Model_actForm S M 3 D = some D' ∧ mFm D' M (fm_rem (c.getD 11 0) l) ∧ oi (fmmP M) D D' := by
  have a31 : D.2.1 M 31 = M + 8 ∧ S.2.1 (M + 8) = 256 := hA.1 (31, 8, 256) (by decide)
  have hb := by_getD_lt hc.2.2.2 11
  have hin : ob_in (N32 (c.getD 11 0)) 256 := by rw [nb_in (by omega)]; exact hb
  obtain ⟨hi, hk⟩ := ky_find_is hf
  have hk' : l[i].1 = c.getD 11 0 := hk
  obtain ⟨f1, f2, f3, f4, f5, f6⟩ := hF
  rw [fm_rem_eq hf]
  have hel : (l.eraseIdx i).length = l.length - 1 := List.length_eraseIdx_of_lt hi
  have e36 : (ob_pI D (M + 8) (c.getD 11 0) (bI false)).1 M 36 - 1 = N32 (l.length - 1) := by rw [pI_ne (by omega), f1, show (1 : Int32) = N32 1 from rfl, nb_sub (by omega)]
  have g : oi (fun y q => (y = M ∧ q = 36) ∨ (y = M + 8 ∧ q = c.getD 11 0)) D (ob_pI (ob_pI D (M + 8) (c.getD 11 0) (bI false)) M 36 (N32 (l.length - 1))) := (oi.pI (Or.inr ⟨rfl, rfl⟩)).tr (oi.pI (Or.inl ⟨rfl, rfl⟩))
  refine ⟨ob_pI (ob_pI D (M + 8) (c.getD 11 0) (bI false)) M 36 (N32 (l.length - 1)), ?_, ⟨by rw [pI_self, hel], by omega, ky_srt_er _ l i f3, fun f hf => f4 f (List.mem_of_mem_eraseIdx hf), fun q hq => ?_, fun f hf => ?_⟩, g.mono (fun y q e => by omega)⟩
  · unfold f_Model_actForm
    rw [wm_d0 hA hc hl]
    simp only [ob_bd]
    rw [if_neg (by decide), if_pos trivial, a31.1, if_pos (by omega), a31.2, if_pos hin, bI_and0, nb_clamp (by omega)]
    simp only [ob_lt]
    rw [e36]
  · rw [ky_some_er f3 hi, hk', pI_ne (by omega)]
    by_cases hqk : q = c.getD 11 0
    · rw [hqk, pI_self, decide_eq_true rfl]; rfl
    · rw [pI_ne (by omega), decide_eq_false hqk]; exact f5 q hq
  · have hne : f.1 ≠ l[i].1 := ky_er_ne f3 hi hf
    obtain ⟨b1, b2, b3, b4⟩ := f6 f (List.mem_of_mem_eraseIdx hf)
    exact ⟨by rw [g.2 _ _ (by omega)]; exact b1, by rw [g.2 _ _ (by omega)]; exact b2, by rw [g.2 _ _ (by omega)]; exact b3, fun j hj => by rw [g.2 _ _ (by omega)]; exact b4 j hj⟩
theorem wm_onform {S : ob_S} {D : ob_D} {M : Nat} {c : List Nat} {l : List sFm} (hA : mA S D M) (hc : mCm D M c) (hF : mFm D M l) (hl : 14 ≤ c.length) {i : Nat} (hf : ky_find (fun f : sFm => f.1) (c.getD 11 0) l = some i) (b : Bool) : ∃ D', f_Model_actForm S M (N32 (if b = true then 5 else 6)) D = some D' ∧ mFm D' M (fm_on b (c.getD 11 0) l) ∧ oi (fmmP M) D D' := by
  have a32 : D.2.1 M 32 = M + 9 ∧ S.2.1 (M + 9) = 256 := hA.1 (32, 9, 256) (by decide)
  have hb := by_getD_lt hc.2.2.2 11
  have hin : ob_in (N32 (c.getD 11 0)) 256 := by rw [nb_in (by omega)]; exact hb
  obtain ⟨hi, hk⟩ := ky_find_is hf
  have hk' : l[i].1 = c.getD 11 0 := hk
  obtain ⟨f1, f2, f3, f4, f5, f6⟩ := hF
  rw [fm_on_eq hf hi]
  have g : oi (fun y q => y = M + 9 ∧ q = c.getD 11 0) D (ob_pI D (M + 9) (c.getD 11 0) (bI b)) := oi.pI ⟨rfl, rfl⟩
  refine ⟨ob_pI D (M + 9) (c.getD 11 0) (bI b), ?_, ⟨by rw [List.length_set, g.2 _ _ (by omega)]; exact f1, by rw [List.length_set]; exact f2, ky_srt_set _ _ l i hi rfl f3, fun f hf => ?_, fun q hq => ?_, fun f hf => ?_⟩, g.mono (fun y q e => by omega)⟩
  · unfold f_Model_actForm
    rw [wm_d0 hA hc hl]
    simp only [ob_bd]
    cases b with
    | true =>
      rw [if_neg (by decide), if_neg (by decide), if_neg (by decide), a32.1, if_pos (by omega), if_pos (by decide), a32.2, if_pos hin, bI_and1, nb_clamp (by omega)]
    | false =>
      rw [if_neg (by decide), if_neg (by decide), if_neg (by decide), a32.1, if_pos (by omega), if_neg (by decide), a32.2, if_pos hin, bI_and0, nb_clamp (by omega)]
  · rcases List.mem_or_eq_of_mem_set hf with e | e
    · exact f4 f e
    · rw [e]; exact f4 l[i] (List.getElem_mem hi)
  · rw [ky_some_set hi (show (fun f : sFm => f.1) (l[i].1, b, l[i].2.2.1, l[i].2.2.2) = _ from rfl), g.2 _ _ (by omega)]
    exact f5 q hq
  · rcases ky_set_ne f3 hi (show (fun f : sFm => f.1) (l[i].1, b, l[i].2.2.1, l[i].2.2.2) = _ from rfl) hf with e | ⟨e, hne⟩
    · rw [e]
      obtain ⟨b1, b2, b3, b4⟩ := f6 l[i] (List.getElem_mem hi)
      refine ⟨?_, by rw [g.2 _ _ (by omega)]; exact b2, by rw [g.2 _ _ (by omega)]; exact b3, fun j hj => by rw [g.2 _ _ (by omega)]; exact b4 j hj⟩
      show (ob_pI D (M + 9) (c.getD 11 0) (bI b)).1 (M + 9) l[i].1 = bI b
      rw [hk', pI_self]
    · have hne' : f.1 ≠ l[i].1 := hne
      obtain ⟨b1, b2, b3, b4⟩ := f6 f e
      exact ⟨by rw [g.2 _ _ (by omega)]; exact b1, by rw [g.2 _ _ (by omega)]; exact b2, by rw [g.2 _ _ (by omega)]; exact b3, fun j hj => by rw [g.2 _ _ (by omega)]; exact b4 j hj⟩
