-- ===== limits: removing and switching, in the reference =====
theorem wm_remlim {S : ob_S} {D : ob_D} {M : Nat} {c : List Nat} {l : List sLm} (hA : mA S D M) (hc : mCm D M c) (hF : mLm D M l) (hl : 14 ≤ c.length) {i : Nat} (hf : ky_find (fun f : sLm => f.1) (c.getD 11 0) l = some i) : ∃ D', f_Model_actLimit S M 6 D = some D' ∧ mLm D' M (lm_rem (c.getD 11 0) l) ∧ oi (lmmP M) D D' := by
  have a47 : D.2.1 M 47 = M + 19 ∧ S.2.1 (M + 19) = 256 := hA.1 (47, 19, 256) (by decide)
  have a55 : D.2.1 M 55 = M + 27 ∧ S.2.1 (M + 27) = 256 := hA.1 (55, 27, 256) (by decide)
  have hb := by_getD_lt hc.2.2.2 11
  have hin : ob_in (N32 (c.getD 11 0)) 256 := by rw [nb_in (by omega)]; exact hb
  have hcp : (N32 (c.getD 11 0)).toNatClampNeg = c.getD 11 0 := nb_clamp (by omega)
  obtain ⟨hi, hk⟩ := ky_find_is hf
  have hk' : l[i].1 = c.getD 11 0 := hk
  obtain ⟨f1, f2, f3, f4, f5, f6⟩ := hF
  rw [lm_rem_eq hf]
  have hel : (l.eraseIdx i).length = l.length - 1 := List.length_eraseIdx_of_lt hi
  have e56 : (ob_pI (ob_pI D (M + 27) (c.getD 11 0) (0 : Int32)) (M + 19) (c.getD 11 0) (bI false)).1 M 56 - 1 = N32 (l.length - 1) := by rw [pI_ne (by omega), pI_ne (by omega), f1, show (1 : Int32) = N32 1 from rfl, nb_sub (by omega)]
  have g : oi (fun y q => (y = M ∧ q = 56) ∨ ((y = M + 19 ∨ y = M + 27) ∧ q = c.getD 11 0)) D (ob_pI (ob_pI (ob_pI D (M + 27) (c.getD 11 0) (0 : Int32)) (M + 19) (c.getD 11 0) (bI false)) M 56 (N32 (l.length - 1))) := ((oi.pI (Or.inr ⟨Or.inr rfl, rfl⟩)).tr (oi.pI (Or.inr ⟨Or.inl rfl, rfl⟩))).tr (oi.pI (Or.inl ⟨rfl, rfl⟩))
  refine ⟨ob_pI (ob_pI (ob_pI D (M + 27) (c.getD 11 0) (0 : Int32)) (M + 19) (c.getD 11 0) (bI false)) M 56 (N32 (l.length - 1)), ?_, ⟨by rw [pI_self, hel], by omega, ky_srt_er _ l i f3, fun f hf => f4 f (List.mem_of_mem_eraseIdx hf), fun q hq => ?_, fun f hf => ?_⟩, g.mono (fun y q e => by omega)⟩
  · unfold f_Model_actLimit
    rw [wm_d0 hA hc hl]
    simp only [ob_bd]
    rw [a55.1, if_pos (by omega), a55.2, if_pos hin]
    simp only [hcp, ob_lt]
    rw [if_neg (by decide), if_pos trivial, pI_ref, a47.1, if_pos (by omega), a47.2, if_pos hin, bI_and0, e56]
  · rw [ky_some_er f3 hi, hk', pI_ne (by omega)]
    by_cases hqk : q = c.getD 11 0
    · rw [hqk, pI_self, decide_eq_true rfl]; rfl
    · rw [pI_ne (by omega), pI_ne (by omega), decide_eq_false hqk]; exact f5 q hq
  · have hne : f.1 ≠ l[i].1 := ky_er_ne f3 hi hf
    obtain ⟨b1, b2, b3, b4, b5, b6, b7, b8⟩ := f6 f (List.mem_of_mem_eraseIdx hf)
    exact ⟨by rw [g.2 _ _ (by omega)]; exact b1, by rw [g.2 _ _ (by omega)]; exact b2, by rw [g.2 _ _ (by omega)]; exact b3, by rw [g.2 _ _ (by omega)]; exact b4, by rw [g.2 _ _ (by omega)]; exact b5, by rw [g.2 _ _ (by omega)]; exact b6, by rw [g.2 _ _ (by omega)]; exact b7, by rw [g.2 _ _ (by omega)]; exact b8⟩
theorem wm_onlim {S : ob_S} {D : ob_D} {M : Nat} {c : List Nat} {l : List sLm} (hA : mA S D M) (hc : mCm D M c) (hF : mLm D M l) (hl : 14 ≤ c.length) {i : Nat} (hf : ky_find (fun f : sLm => f.1) (c.getD 11 0) l = some i) (b : Bool) : ∃ D', f_Model_actLimit S M (N32 (if b = true then 1 else 2)) D = some D' ∧ mLm D' M (lm_on b (c.getD 11 0) l) ∧ oi (lmmP M) D D' := by
  have a48 : D.2.1 M 48 = M + 20 ∧ S.2.1 (M + 20) = 256 := hA.1 (48, 20, 256) (by decide)
  have a55 : D.2.1 M 55 = M + 27 ∧ S.2.1 (M + 27) = 256 := hA.1 (55, 27, 256) (by decide)
  have hb := by_getD_lt hc.2.2.2 11
  have hin : ob_in (N32 (c.getD 11 0)) 256 := by rw [nb_in (by omega)]; exact hb
  have hcp : (N32 (c.getD 11 0)).toNatClampNeg = c.getD 11 0 := nb_clamp (by omega)
  obtain ⟨hi, hk⟩ := ky_find_is hf
  have hk' : l[i].1 = c.getD 11 0 := hk
  obtain ⟨f1, f2, f3, f4, f5, f6⟩ := hF
  rw [lm_on_eq hf hi]
  have g : oi (fun y q => (y = M + 20 ∨ y = M + 27) ∧ q = c.getD 11 0) D (ob_pI (ob_pI D (M + 27) (c.getD 11 0) (0 : Int32)) (M + 20) (c.getD 11 0) (bI b)) := (oi.pI ⟨Or.inr rfl, rfl⟩).tr (oi.pI ⟨Or.inl rfl, rfl⟩)
  refine ⟨ob_pI (ob_pI D (M + 27) (c.getD 11 0) (0 : Int32)) (M + 20) (c.getD 11 0) (bI b), ?_, ⟨by rw [List.length_set, g.2 _ _ (by omega)]; exact f1, by rw [List.length_set]; exact f2, ky_srt_set _ _ l i hi rfl f3, fun f hf => ?_, fun q hq => ?_, fun f hf => ?_⟩, g.mono (fun y q e => by omega)⟩
  · unfold f_Model_actLimit
    rw [wm_d0 hA hc hl]
    simp only [ob_bd]
    rw [a55.1, if_pos (by omega), a55.2, if_pos hin]
    simp only [hcp, ob_lt]
    cases b with
    | true => rw [if_neg (by decide), if_neg (by decide), pI_ref, a48.1, if_pos (by omega), if_pos (by decide), a48.2, if_pos hin, bI_and1]
    | false => rw [if_neg (by decide), if_neg (by decide), pI_ref, a48.1, if_pos (by omega), if_neg (by decide), a48.2, if_pos hin, bI_and0]
  · rcases List.mem_or_eq_of_mem_set hf with e | e
    · exact f4 f e
    · rw [e]; exact f4 l[i] (List.getElem_mem hi)
  · rw [ky_some_set hi (show (fun f : sLm => f.1) (lm_to b 0 l[i]) = _ from rfl), g.2 _ _ (by omega)]
    exact f5 q hq
  · rcases ky_set_ne f3 hi (show (fun f : sLm => f.1) (lm_to b 0 l[i]) = _ from rfl) hf with e | ⟨e, hne⟩
    · rw [e]
      obtain ⟨b1, b2, b3, b4, b5, b6, b7, b8⟩ := f6 l[i] (List.getElem_mem hi)
      refine ⟨?_, ?_, by rw [g.2 _ _ (by omega)]; exact b3, by rw [g.2 _ _ (by omega)]; exact b4, by rw [g.2 _ _ (by omega)]; exact b5, by rw [g.2 _ _ (by omega)]; exact b6, by rw [g.2 _ _ (by omega)]; exact b7, by rw [g.2 _ _ (by omega)]; exact b8⟩
      · show (ob_pI (ob_pI D (M + 27) (c.getD 11 0) (0 : Int32)) (M + 20) (c.getD 11 0) (bI b)).1 (M + 20) l[i].1 = bI b
        rw [hk', pI_self]
      · show (ob_pI (ob_pI D (M + 27) (c.getD 11 0) (0 : Int32)) (M + 20) (c.getD 11 0) (bI b)).1 (M + 27) l[i].1 = 0
        rw [hk', pI_ne (by omega), pI_self]
    · have hne' : f.1 ≠ l[i].1 := hne
      obtain ⟨b1, b2, b3, b4, b5, b6, b7, b8⟩ := f6 f e
      exact ⟨by rw [g.2 _ _ (by omega)]; exact b1, by rw [g.2 _ _ (by omega)]; exact b2, by rw [g.2 _ _ (by omega)]; exact b3, by rw [g.2 _ _ (by omega)]; exact b4, by rw [g.2 _ _ (by omega)]; exact b5, by rw [g.2 _ _ (by omega)]; exact b6, by rw [g.2 _ _ (by omega)]; exact b7, by rw [g.2 _ _ (by omega)]; exact b8⟩
