-- ===== the reference's store =====
abbrev rmP (M : Nat) : Nat → Nat → Prop := fun y k => (y = M ∧ (k = 78 ∨ k = 79 ∨ k = 83)) ∨ y = M + 38 ∨ y = M + 39 ∨ y = M + 40
theorem cp_at {D : ob_D} {a0 a sp dp n j : Nat} (h1 : dp ≤ j) (h2 : j < dp + n) : (ob_cp D a0 a sp dp n).1 a j = D.1 a0 (sp + (j - dp)) := by
  show (if a = a then va_cpy (D.1 a0) (D.1 a) sp dp n j else _) = _
  rw [if_pos rfl]
  unfold va_cpy
  rw [if_pos ⟨h1, h2⟩]
theorem cp_out {D : ob_D} {a0 a sp dp n j : Nat} (h : j < dp ∨ dp + n ≤ j) : (ob_cp D a0 a sp dp n).1 a j = D.1 a j := by
  show (if a = a then va_cpy (D.1 a0) (D.1 a) sp dp n j else _) = _
  rw [if_pos rfl]
  unfold va_cpy
  rw [if_neg (by omega)]
theorem cp_ne {D : ob_D} {a0 a sp dp n y j : Nat} (h : y ≠ a) : (ob_cp D a0 a sp dp n).1 y j = D.1 y j := if_neg h
theorem cg_n {a b n n0 n1 : Nat} (ha : a < 2147483648) (hb : b < 2147483648) (hn : n < 2147483648) (h0 : a + n ≤ n0) (h1 : b + n ≤ n1) : ob_cg (N32 a) (N32 b) (N32 n) n0 n1 := ⟨by rw [nb_neg ha]; exact id, by rw [nb_neg hb]; exact id, by rw [nb_neg hn]; exact id, by rw [nb_clamp ha, nb_clamp hn]; exact h0, by rw [nb_clamp hb, nb_clamp hn]; exact h1⟩
theorem mRpS.few {D : ob_D} {M w : Nat} {st : List (List Nat)} {rc : Nat} (h : mRpS D M w st rc) : st.length * 19 ≤ tot st ∧ tot st ≤ w ∧ w ≤ 16384 := ⟨pk_tot _ h.2.2.2.2.2.2.2.2.2, h.2.2.1, h.2.1⟩
theorem app_get_r (a b : List Nat) (i : Nat) : (a ++ b).getD (a.length + i) 0 = b.getD i 0 := by
  simp only [List.getD_eq_getElem?_getD]
  rw [List.getElem?_append_right (by omega), Nat.add_sub_cancel_left]
theorem app_get_l {a b : List Nat} {i : Nat} (h : i < a.length) : (a ++ b).getD i 0 = a.getD i 0 := by
  simp only [List.getD_eq_getElem?_getD]
  rw [List.getElem?_append_left h]
theorem rpm_old {S : ob_S} {D : ob_D} {M w : Nat} {p : List Nat} {st : List (List Nat)} {rc : Nat} (hA : mA S D M) (hS : mRpS D M w (p :: st) rc) : ∃ D', f_Model_dropOldest S M D = some D' ∧ mRpS D' M w st (rc - 1) ∧ oi (rmP M) D D' := by
  have hfew := hS.few
  rw [List.length_cons, tot_cons] at hfew
  have a75 : D.2.1 M 75 = M + 38 ∧ S.2.1 (M + 38) = 16384 := hA.1 (75, 38, 16384) (by decide)
  have a76 : D.2.1 M 76 = M + 39 ∧ S.2.1 (M + 39) = 900 := hA.1 (76, 39, 900) (by decide)
  have a77 : D.2.1 M 77 = M + 40 ∧ S.2.1 (M + 40) = 900 := hA.1 (77, 40, 900) (by decide)
  obtain ⟨s1, s2, s3, s4, s5, s6, s7, s8, s9, s10⟩ := hS
  have e0 : D.1 (M + 39) (0 : Int32).toNatClampNeg = N32 p.length := (s5 0 (by rw [List.length_cons]; omega)).1
  have e79 : D.1 M 79 - N32 p.length = N32 (tot st) := by rw [s7, tot_cons, nb_sub (by omega), Nat.add_sub_cancel_left]
  have e78 : (ob_pI D M 79 (N32 (tot st))).1 M 78 - 1 = N32 st.length := by
    rw [pI_ne (by omega), s6, List.length_cons, show (1 : Int32) = N32 1 from rfl, nb_sub (by omega), Nat.add_sub_cancel]
  obtain ⟨D5, hD5⟩ : ∃ x, x = ob_pI (ob_pI D M 79 (N32 (tot st))) M 78 (N32 st.length) := ⟨_, rfl⟩
  obtain ⟨D11, hD11⟩ : ∃ x, x = ob_cp D5 (M + 38) (M + 38) p.length 0 (tot st) := ⟨_, rfl⟩
  obtain ⟨D17, hD17⟩ : ∃ x, x = ob_cp D11 (M + 39) (M + 39) 1 0 st.length := ⟨_, rfl⟩
  obtain ⟨D23, hD23⟩ : ∃ x, x = ob_cp D17 (M + 40) (M + 40) 1 0 st.length := ⟨_, rfl⟩
  have r5 : D5.2 = D.2 := by rw [hD5]; rfl
  have r11 : D11.2 = D.2 := by rw [hD11]; exact r5
  have r17 : D17.2 = D.2 := by rw [hD17]; exact r11
  have r23 : D23.2 = D.2 := by rw [hD23]; exact r17
  have v79 : D5.1 M 79 = N32 (tot st) := by rw [hD5, pI_ne (by omega), pI_self]
  have v78 : D5.1 M 78 = N32 st.length := by rw [hD5, pI_self]
  have u78 : D11.1 M 78 = N32 st.length := by rw [hD11, cp_ne (by omega)]; exact v78
  have t78 : D17.1 M 78 = N32 st.length := by rw [hD17, cp_ne (by omega)]; exact u78
  have x83 : D23.1 M 83 = N32 rc := by rw [hD23, cp_ne (by omega), hD17, cp_ne (by omega), hD11, cp_ne (by omega), hD5, pI_ne (by omega), pI_ne (by omega)]; exact s8
  have g : oi (rmP M) D D23 := by
    have g5 : oi (rmP M) D D5 := hD5 ▸ (oi.pI (Or.inl ⟨rfl, Or.inr (Or.inl rfl)⟩)).tr (oi.pI (Or.inl ⟨rfl, Or.inl rfl⟩))
    have g11 : oi (rmP M) D5 D11 := hD11 ▸ oi.cp (fun k _ _ => Or.inr (Or.inl rfl))
    have g17 : oi (rmP M) D11 D17 := hD17 ▸ oi.cp (fun k _ _ => Or.inr (Or.inr (Or.inl rfl)))
    have g23 : oi (rmP M) D17 D23 := hD23 ▸ oi.cp (fun k _ _ => Or.inr (Or.inr (Or.inr rfl)))
    exact ((g5.tr g11).tr g17).tr g23
  have hS23 : ∀ D', D'.1 M 83 = N32 (rc - 1) → oi (fun y k => y = M ∧ k = 83) D23 D' → mRpS D' M w st (rc - 1) := by
    intro D' h83 gg
    refine ⟨by rw [gg.2 _ _ (by omega), g.2 _ _ (by omega)]; exact s1, s2, by omega, ⟨fun i hi => ?_, fun x hx => s4.2 x (by rw [List.flatten_cons]; exact List.mem_append_right _ hx)⟩, fun i hi => ?_, ?_, ?_, h83, by rw [List.length_cons] at s9; omega, fun q hq => s10 q (List.mem_cons_of_mem _ hq)⟩
    · have hi' : i < tot st := hi
      rw [gg.2 _ _ (by omega), hD23, cp_ne (by omega), hD17, cp_ne (by omega), hD11, cp_at (by omega) (by omega), hD5, pI_ne (by omega), pI_ne (by omega)]
      have := s4.1 (p.length + i) (by rw [List.flatten_cons, List.length_append]; omega)
      rw [List.flatten_cons, app_get_r] at this
      rw [show p.length + (0 + i - 0) = 0 + (p.length + i) by omega]
      exact this
    · have h5 := s5 (i + 1) (by rw [List.length_cons]; omega)
      have eg : (p :: st).getD (i + 1) [] = st.getD i [] := rfl
      rw [eg] at h5
      refine ⟨?_, ?_⟩
      · rw [gg.2 _ _ (by omega), hD23, cp_ne (by omega), hD17, cp_at (by omega) (by omega), hD11, cp_ne (by omega), hD5, pI_ne (by omega), pI_ne (by omega), show 1 + (i - 0) = i + 1 by omega]
        exact h5.1
      · rw [gg.2 _ _ (by omega), hD23, cp_at (by omega) (by omega), hD17, cp_ne (by omega), hD11, cp_ne (by omega), hD5, pI_ne (by omega), pI_ne (by omega), show 1 + (i - 0) = i + 1 by omega]
        exact h5.2
    · rw [gg.2 _ _ (by omega), hD23, cp_ne (by omega)]; exact t78
    · rw [gg.2 _ _ (by omega), hD23, cp_ne (by omega), hD17, cp_ne (by omega), hD11, cp_ne (by omega)]; exact v79
  have c38 : ob_cg (N32 p.length) (0 : Int32) (N32 (tot st)) 16384 16384 := cg_n (b := 0) (by omega) (by omega) (by omega) (by omega) (by omega)
  have c39 : ob_cg (1 : Int32) (0 : Int32) (N32 st.length) 900 900 := cg_n (a := 1) (b := 0) (by omega) (by omega) (by omega) (by omega) (by omega)
  have k11 : ob_cp D5 (M + 38) (M + 38) (N32 p.length).toNatClampNeg (0 : Int32).toNatClampNeg (N32 (tot st)).toNatClampNeg = D11 := by rw [nb_clamp (by omega), nb_clamp (by omega), hD11]; rfl
  have k17 : ob_cp D11 (M + 39) (M + 39) (1 : Int32).toNatClampNeg (0 : Int32).toNatClampNeg (N32 st.length).toNatClampNeg = D17 := by rw [nb_clamp (by omega), hD17]; rfl
  have k23 : ob_cp D17 (M + 40) (M + 40) (1 : Int32).toNatClampNeg (0 : Int32).toNatClampNeg (N32 st.length).toNatClampNeg = D23 := by rw [nb_clamp (by omega), hD23]; rfl
  have hrcl : rc < 2147483648 := by rw [List.length_cons] at s9; omega
  unfold f_Model_dropOldest
  rw [a76.1, if_pos (by omega), a76.2, if_pos (by decide), e0, e79]
  simp only [ob_lt]
  rw [e78, ← hD5, r5, a75.1, if_pos (by omega), if_pos (by omega), v79, a75.2, if_pos c38, k11, r11, a76.1, if_pos (by omega), if_pos (by omega), u78, a76.2, if_pos c39, k17, r17, a77.1, if_pos (by omega), if_pos (by omega), t78, a77.2, if_pos c39, k23, x83, show (0 : Int32) = N32 0 from rfl, if_le (by omega) (by decide)]
  by_cases hc : rc ≤ 0
  · rw [if_pos hc]
    exact ⟨D23, rfl, hS23 D23 (by rw [x83]; congr 1; omega) oi.rf, g⟩
  · rw [if_neg hc]
    refine ⟨ob_pI D23 M 83 (N32 (rc - 1)), ?_, hS23 _ pI_self (oi.pI ⟨rfl, rfl⟩), g.tr (oi.pI (Or.inl ⟨rfl, Or.inr (Or.inr rfl)⟩))⟩
    rw [show (1 : Int32) = N32 1 from rfl, nb_sub (by omega)]
theorem rpm_put {S : ob_S} {D : ob_D} {M w n : Nat} {q : List Nat} {st : List (List Nat)} {rc : Nat} (hA : mA S D M) (hS : mRpS D M w st rc) (hq : mPk D M q) (ho : pk_ok q) (hr : tot st + q.length ≤ w) (hcl : D.1 M 41 = N32 (nn q 13 4)) : ∃ D', f_Model_keep_L12 S (n + 1) M D = some D' ∧ mRpS D' M w (st ++ [q]) rc ∧ oi (rmP M) D D' := by
  have hfew := hS.few
  have a69 : D.2.1 M 69 = M + 35 ∧ S.2.1 (M + 35) = 512 := hA.1 (69, 35, 512) (by decide)
  have a75 : D.2.1 M 75 = M + 38 ∧ S.2.1 (M + 38) = 16384 := hA.1 (75, 38, 16384) (by decide)
  have a76 : D.2.1 M 76 = M + 39 ∧ S.2.1 (M + 39) = 900 := hA.1 (76, 39, 900) (by decide)
  have a77 : D.2.1 M 77 = M + 40 ∧ S.2.1 (M + 40) = 900 := hA.1 (77, 40, 900) (by decide)
  obtain ⟨s1, s2, s3, s4, s5, s6, s7, s8, s9, s10⟩ := hS
  obtain ⟨q1, q2, q3⟩ := hq
  obtain ⟨o1, o2, o3, o4⟩ := ho
  obtain ⟨D6, hD6⟩ : ∃ x, x = ob_cp D (M + 35) (M + 38) 0 (tot st) q.length := ⟨_, rfl⟩
  obtain ⟨D7, hD7⟩ : ∃ x, x = ob_pI D6 M 79 (N32 (tot st + q.length)) := ⟨_, rfl⟩
  obtain ⟨D11, hD11⟩ : ∃ x, x = ob_pI D7 (M + 39) st.length (N32 q.length) := ⟨_, rfl⟩
  obtain ⟨D14, hD14⟩ : ∃ x, x = ob_pI D11 M 78 (N32 (st.length + 1)) := ⟨_, rfl⟩
  have r7 : D7.2 = D.2 := by rw [hD7, hD6]; rfl
  have r11 : D11.2 = D.2 := by rw [hD11]; exact r7
  have e79 : D6.1 M 79 + D6.1 M 70 = N32 (tot st + q.length) := by rw [hD6, cp_ne (by omega), cp_ne (by omega), s7, q1, nb_add]
  have v78 : D7.1 M 78 = N32 st.length := by rw [hD7, pI_ne (by omega), hD6, cp_ne (by omega)]; exact s6
  have v70 : D7.1 M 70 = N32 q.length := by rw [hD7, pI_ne (by omega), hD6, cp_ne (by omega)]; exact q1
  have u78 : D11.1 M 78 = N32 st.length := by rw [hD11, pI_ne (by omega)]; exact v78
  have e78 : D11.1 M 78 + 1 = N32 (st.length + 1) := by rw [u78]; exact nb_add _ 1
  have e41 : D14.1 M 41 = N32 (nn q 13 4) := by rw [hD14, pI_ne (by omega), hD11, pI_ne (by omega), hD7, pI_ne (by omega), hD6, cp_ne (by omega)]; exact hcl
  have g : oi (rmP M) D (ob_pI D14 (M + 40) st.length (N32 (nn q 13 4))) := by
    have g6 : oi (rmP M) D D6 := hD6 ▸ oi.cp (fun k _ _ => Or.inr (Or.inl rfl))
    have g7 : oi (rmP M) D6 D7 := hD7 ▸ oi.pI (Or.inl ⟨rfl, Or.inr (Or.inl rfl)⟩)
    have g11 : oi (rmP M) D7 D11 := hD11 ▸ oi.pI (Or.inr (Or.inr (Or.inl rfl)))
    have g14 : oi (rmP M) D11 D14 := hD14 ▸ oi.pI (Or.inl ⟨rfl, Or.inl rfl⟩)
    exact ((((g6.tr g7).tr g11).tr g14)).tr (oi.pI (Or.inr (Or.inr (Or.inr rfl))))
  have htot : tot (st ++ [q]) = tot st + q.length := by rw [tot_app, tot_cons, tot_nil, Nat.add_zero]
  have hin : ob_in (N32 st.length) 900 := by rw [nb_in (by omega)]; omega
  refine ⟨ob_pI D14 (M + 40) st.length (N32 (nn q 13 4)), ?_, ⟨by rw [g.2 _ _ (by omega)]; exact s1, s2, by omega, ⟨fun i hi => ?_, fun x hx => ?_⟩, fun i hi => ?_, ?_, ?_, ?_, by rw [List.length_append]; omega, fun p hp => ?_⟩, g⟩
  · have c0 : ob_cg (0 : Int32) (N32 (tot st)) (N32 q.length) 512 16384 := cg_n (a := 0) (by omega) (by omega) (by omega) (by omega) (by omega)
    have k6 : ob_cp D (M + 35) (M + 38) (0 : Int32).toNatClampNeg (N32 (tot st)).toNatClampNeg (N32 q.length).toNatClampNeg = D6 := by rw [nb_clamp (by omega), nb_clamp (by omega), hD6]; rfl
    rw [f_Model_keep_L12, s7, q1, nb_add, s1, if_pos (by rw [nb_le (by omega) (by omega)]; exact hr), a69.1, if_pos (by omega), a75.1, if_pos (by omega), a69.2, a75.2, if_pos c0]
    simp only [ob_lt]
    rw [k6, e79, ← hD7, r7, a76.1, if_pos (by omega), v78, a76.2, if_pos hin, v70]
    try simp (disch := omega) only [nb_clamp]
    rw [← hD11, r11, a77.1, if_pos (by omega), e78, ← hD14, u78, a77.2, if_pos hin]
    try simp (disch := omega) only [nb_clamp]
    rw [e41]
  · have hi' : i < tot st + q.length := by rw [← htot]; exact hi
    rw [Nat.zero_add, pI_ne (by omega), hD14, pI_ne (by omega), hD11, pI_ne (by omega), hD7, pI_ne (by omega), hD6, List.flatten_append]
    have e2 : [q].flatten = q := by simp
    rw [e2]
    by_cases hc : i < tot st
    · rw [cp_out (Or.inl hc), app_get_l hc]
      have := s4.1 i hc
      rw [Nat.zero_add] at this
      exact this
    · rw [cp_at (by omega) (by omega)]
      have e3 : i = st.flatten.length + (i - tot st) := by unfold tot; unfold tot at hc; omega
      conv => rhs; rw [e3, app_get_r]
      exact q3.1 _ (by omega)
  · rw [List.flatten_append] at hx
    rcases List.mem_append.mp hx with e | e
    · exact s4.2 x e
    · have e2 : [q].flatten = q := by simp
      rw [e2] at e
      exact o4 x e
  · rw [List.length_append, List.length_singleton] at hi
    by_cases hc : i < st.length
    · have eg : (st ++ [q]).getD i [] = st.getD i [] := by
        simp only [List.getD_eq_getElem?_getD]
        rw [List.getElem?_append_left hc]
      rw [eg, pI_ne (by omega), pI_ne (by omega), hD14, pI_ne (by omega), pI_ne (by omega), hD11, pI_ne (by omega), pI_ne (by omega), hD7, pI_ne (by omega), pI_ne (by omega), hD6, cp_ne (by omega), cp_ne (by omega)]
      exact s5 i hc
    · have hi2 : i = st.length := by omega
      have eg : (st ++ [q]).getD i [] = q := by
        simp only [List.getD_eq_getElem?_getD]
        rw [hi2, List.getElem?_append_right (Nat.le_refl _)]
        simp
      rw [eg, hi2]
      refine ⟨?_, pI_self⟩
      rw [pI_ne (by omega), hD14, pI_ne (by omega), hD11, pI_self]
  · rw [pI_ne (by omega), hD14, pI_self, List.length_append]
    rfl
  · rw [pI_ne (by omega), hD14, pI_ne (by omega), hD11, pI_ne (by omega), hD7, pI_self, htot]
  · rw [pI_ne (by omega), hD14, pI_ne (by omega), hD11, pI_ne (by omega), hD7, pI_ne (by omega), hD6, cp_ne (by omega)]
    exact s8
  · rcases List.mem_append.mp hp with e | e
    · exact s10 p e
    · rw [List.mem_singleton.mp e]; exact ⟨o1, o2, o3, o4⟩
theorem rpm_fit {S : ob_S} {M w : Nat} {q : List Nat} (ho : pk_ok q) (hw : q.length ≤ w) : ∀ (st : List (List Nat)) (n rc : Nat) (D : ob_D), st.length < n → mA S D M → mRpS D M w st rc → mPk D M q → D.1 M 41 = N32 (nn q 13 4) → ∃ D', f_Model_keep_L12 S n M D = some D' ∧ mRpS D' M w ((rp_fit w q.length st rc).1 ++ [q]) (rp_fit w q.length st rc).2 ∧ oi (rmP M) D D' := by
  intro st
  induction st with
  | nil =>
    intro n rc D hn hA hS hq hcl
    match n, hn with
    | n + 1, _ => exact rpm_put (st := []) (rc := rc) hA hS hq ho (by rw [tot_nil]; omega) hcl
  | cons p st ih =>
    intro n rc D hn hA hS hq hcl
    match n, hn with
    | n + 1, hn =>
      rw [rp_fit]
      by_cases hc : tot (p :: st) + q.length ≤ w
      · rw [if_pos hc]
        exact rpm_put hA hS hq ho hc hcl
      · rw [if_neg hc]
        have hfew := hS.few
        obtain ⟨D1, p1, p2, p3⟩ := rpm_old hA hS
        obtain ⟨D2, q1, q2, q3⟩ := ih n (rc - 1) D1 (by rw [List.length_cons] at hn; omega) (hA.kp p3) p2 (hq.keep p3.up (by omega) (by omega)) (by rw [p3.2 _ _ (by omega)]; exact hcl)
        refine ⟨D2, ?_, q2, p3.tr q3⟩
        have := ho.2.1
        rw [f_Model_keep_L12, hS.2.2.2.2.2.2.1, hq.1, nb_add, hS.1, if_neg (by rw [nb_le (by omega) (by omega)]; exact hc), p1]
        simp only [ob_bv]
        exact q1
theorem sb_small {b : Nat} (h : b < 128) : sb b = N32 b := by
  have : ∀ j : Fin 128, sb j.val = N32 j.val := by decide +kernel
  exact this ⟨b, h⟩
theorem rpm_keep {S : ob_S} {D : ob_D} {M w : Nat} {q : List Nat} {z : sRp} (hA : mA S D M) (h : mRp D M w z) (hq : mPk D M q) (ho : pk_ok q) (h7 : q.getD 7 0 < 32) (hcl : D.1 M 41 = N32 (nn q 13 4)) : ∃ D', f_Model_made_L74 S M D = some D' ∧ mRp D' M w (rp_keep w q z) ∧ oi (rmP M) D D' := by
  obtain ⟨st, sd, md, all, lo, rt, fr, tt, rc⟩ := z
  obtain ⟨hM, hS, hF⟩ := h
  have hfew := hS.few
  have a69 : D.2.1 M 69 = M + 35 ∧ S.2.1 (M + 35) = 512 := hA.1 (69, 35, 512) (by decide)
  have a74 : D.2.1 M 74 = M + 37 ∧ S.2.1 (M + 37) = 32 := hA.1 (74, 37, 32) (by decide)
  have e7 : D.1 (M + 35) (7 : Int32).toNatClampNeg = N32 (q.getD 7 0) := by
    have := hq.2.2.1 7 (by have := ho.1; omega)
    rw [sb_small (by omega)] at this
    exact this
  have e3 : D.1 (M + 37) (N32 (q.getD 7 0)).toNatClampNeg = bI (sd (q.getD 7 0)) := by rw [nb_clamp (by omega)]; exact hM.1 _ h7
  unfold f_Model_made_L74
  rw [a74.1, if_pos (by omega), a69.1, if_pos (by omega), a69.2, if_pos (by decide), e7, a74.2, if_pos (by rw [nb_in (by omega)]; exact h7), e3, if_bI, ob_bv_id]
  have ek : rp_keep w q (st, sd, md, all, lo, rt, fr, tt, rc) = if sd (q.getD 7 0) = true ∧ q.length ≤ w then ((rp_fit w q.length st rc).1 ++ [q], sd, md, all, lo, rt, fr, tt, (rp_fit w q.length st rc).2) else (st, sd, md, all, lo, rt, fr, tt, rc) := rfl
  rw [ek]
  by_cases hs : sd (q.getD 7 0) = true
  · rw [if_pos hs]
    unfold f_Model_keep
    have := ho.2.1
    rw [hq.1, hS.1, if_le (by omega) (by omega)]
    by_cases hw : q.length ≤ w
    · rw [if_pos hw, if_pos ⟨hs, hw⟩]
      obtain ⟨D1, p1, p2, p3⟩ := rpm_fit ho hw st ob_FU rc D (by rw [ob_FU_eq]; omega) hA hS hq hcl
      exact ⟨D1, p1, ⟨hM.keep p3.up (by omega) (by omega), p2, hF.keep p3.up (by omega) (by omega) (by omega) (by omega) (by omega)⟩, p3⟩
    · rw [if_neg hw, if_neg (fun e => hw e.2)]
      exact ⟨D, rfl, ⟨hM, hS, hF⟩, oi.rf⟩
  · rw [if_neg hs, if_neg (fun e => hs e.1)]
    exact ⟨D, rfl, ⟨hM, hS, hF⟩, oi.rf⟩
theorem ba_set {D : ob_D} {b o : Nat} {l : List Nat} {i y : Nat} (h : ba D b o l) (hi : i < l.length) (hy : y < 256) : ba (ob_pI D b (o + i) (sb y)) b o (l.set i y) := by
  refine ⟨fun j hj => ?_, fun x hx => ?_⟩
  · rw [List.length_set] at hj
    by_cases e : j = i
    · rw [e, pI_self]
      simp only [List.getD_eq_getElem?_getD]
      rw [List.getElem?_set_self hi]
      rfl
    · rw [pI_ne (by omega), h.1 j hj]
      simp only [List.getD_eq_getElem?_getD]
      rw [List.getElem?_set_ne (by omega)]
  · rcases List.mem_or_eq_of_mem_set hx with e | e
    · exact h.2 x e
    · omega
theorem rpm_send {S : ob_S} {D : ob_D} {M w : Nat} {p lv : List Nat} {z : sRp} (hA : mA S D M) (h : mRp D M w z) (hl : mCh D M 0 lv) (hp : mPk D M p) (h17 : 17 ≤ p.length) (h275 : p.length ≤ 275) (h7 : p.getD 7 0 < 32) (hcl : D.1 M 41 = N32 (nn p 13 4)) : ∃ D', f_Model_made S M D = some D' ∧ mRp D' M w (rp_send w p lv z).2 ∧ mCh D' M 0 (rp_send w p lv z).1 ∧ mPk D' M (rp_fin p) ∧ oi (fun y k => (y = M ∧ (k = 70 ∨ k = 72 ∨ k = 78 ∨ k = 79 ∨ k = 83)) ∨ y = M + 35 ∨ (M + 38 ≤ y ∧ y ≤ M + 40) ∨ (y = M + 47 ∧ k = 0) ∨ y = M + 42 ∨ y = M + 45) D D' := by
  have a69 : D.2.1 M 69 = M + 35 ∧ S.2.1 (M + 35) = 512 := hA.1 (69, 35, 512) (by decide)
  obtain ⟨q1, q2, q3⟩ := hp
  have e70 : D.1 M 70 + 2 - 6 - 1 = N32 (p.length - 5) := by
    have e : N32 p.length + (2 : Int32) = N32 (p.length + 2) := nb_add _ 2
    rw [q1, e, show (6 : Int32) = N32 6 from rfl, nb_sub (by omega), show (1 : Int32) = N32 1 from rfl, nb_sub (by omega)]
    congr 1
  have s8 : ((N32 (p.length - 5)) >>> ((8 : Int32) &&& 31)).toInt8.toInt32 = sb ((p.length - 5) / 256 % 256) := by
    have : (N32 (p.length - 5) >>> ((8 : Int32) &&& 31)).toInt8.toInt32 = sb (by_of (N32 (p.length - 5)) 1) := by_ofs _ (j := 1) (by decide)
    rw [this, by_of_n1]
  have s0 : (N32 (p.length - 5)).toInt8.toInt32 = sb ((p.length - 5) % 256) := by rw [by_of0, by_of_n0]
  obtain ⟨D4, hD4⟩ : ∃ x, x = ob_pI D (M + 35) 4 (sb ((p.length - 5) / 256 % 256)) := ⟨_, rfl⟩
  obtain ⟨D8, hD8⟩ : ∃ x, x = ob_pI D4 (M + 35) 5 (sb ((p.length - 5) % 256)) := ⟨_, rfl⟩
  have r4 : D4.2 = D.2 := by rw [hD4]; rfl
  have r8 : D8.2 = D.2 := by rw [hD8]; exact r4
  have g8 : oi (mPkP M) D D8 := by
    rw [hD8, hD4]
    exact (oi.pI (Or.inr rfl)).tr (oi.pI (Or.inr rfl))
  have b4 : ba D4 (M + 35) 0 (p.set 4 ((p.length - 5) / 256 % 256)) := by
    rw [hD4]
    exact ba_set q3 (by omega) (Nat.mod_lt _ (by decide))
  have b8 : ba D8 (M + 35) 0 (rp_len p) := by
    rw [hD8, rp_len_eq]
    exact ba_set b4 (by rw [List.length_set]; omega) (Nat.mod_lt _ (by decide))
  have v70 : D8.1 M 70 = N32 (rp_len p).length := by rw [rp_len_len, hD8, pI_ne (by omega), hD4, pI_ne (by omega)]; exact q1
  have w8 : mPk D8 M (rp_len p) := ⟨v70, by rw [rp_len_len]; exact q2, b8⟩
  have ec : f_Model_check S (M + 35) 0 (N32 (rp_len p).length) D8 = some (N32 (cr_f (rp_len p)), D8) := by
    have := ba_check (S := S) b8 (f := 0) (c := (rp_len p).length) (by rw [rp_len_len, a69.2]; omega) (by rw [a69.2]; decide) (by omega)
    rw [List.drop_zero, List.take_length] at this
    exact this
  obtain ⟨D14, p1, w14, k14⟩ := mpk_two (hA.kp g8) w8 (N32 (cr_f (rp_len p))) (by rw [rp_len_len]; omega)
  have w14' : mPk D14 M (rp_fin p) := w14
  have g14 := g8.tr k14
  have hP : ∀ {y j : Nat}, y ≠ M + 35 → ¬ (y = M ∧ j = 70) → ¬ mPkP M y j := fun h1 h2 e => e.elim h2 h1
  have hl14 : mCh D14 M 0 lv := hl.keep g14.up (hP (by omega) (by omega)) (fun k => hP (by omega) (by omega)) (fun k => hP (by omega) (by omega))
  obtain ⟨D18, j1, j2, j3⟩ := mch_join (v := 0) (a := M + 35) (o := 0) (by decide) (hA.kp g14) hl14 w14'.2.2 (by rw [rp_fin_len, a69.2]; omega) (by rw [a69.2]; decide) (by omega)
  have j1' : f_Model_joins S M 0 (M + 35) 0 (N32 (rp_fin p).length) D14 = _ := j1
  have hCP : ∀ {y j : Nat}, y ≠ M + 42 → y ≠ M + 45 → ¬ (y = M + 47 ∧ j = 0) → ¬ mChP M 0 y j := fun h1 h2 h3 e => e.elim h3 (fun e => e.elim h1 h2)
  have h18 : mRp D18 M w z := (h.keep g14.up (hP (by omega) (by omega)) (fun k _ => hP (by omega) (by omega)) (fun y k _ _ => hP (by omega) (by omega))).keep j3.up (hCP (by omega) (by omega) (by omega)) (fun k _ => hCP (by omega) (by omega) (by omega)) (fun y k _ _ => hCP (by omega) (by omega) (by omega))
  have w18 : mPk D18 M (rp_fin p) := w14'.keep j3.up (hCP (by omega) (by omega) (by omega)) (fun k => hCP (by omega) (by omega) (by omega))
  have hb := q3.2
  have ho := rp_fin_ok h17 h275 hb
  have h7' : (rp_fin p).getD 7 0 < 32 := by rw [rp_fin_get (by omega) (by decide) (by decide)]; exact h7
  have enn : nn (rp_fin p) 13 4 = nn p 13 4 := by
    rw [nn_4, nn_4, nn_2, nn_2, nn_2, nn_2]
    simp only [Nat.reduceAdd]
    rw [rp_fin_get (by omega) (by decide) (by decide), rp_fin_get (by omega) (by decide) (by decide), rp_fin_get (by omega) (by decide) (by decide), rp_fin_get (by omega) (by decide) (by decide)]
  have hcl18 : D18.1 M 41 = N32 (nn (rp_fin p) 13 4) := by rw [enn, j3.2 _ _ (hCP (by omega) (by omega) (by omega)), g14.2 _ _ (hP (by omega) (by omega))]; exact hcl
  have gT : oi (fun y k => (y = M ∧ (k = 70 ∨ k = 72 ∨ k = 78 ∨ k = 79 ∨ k = 83)) ∨ y = M + 35 ∨ (M + 38 ≤ y ∧ y ≤ M + 40) ∨ (y = M + 47 ∧ k = 0) ∨ y = M + 42 ∨ y = M + 45) D D18 := g14.tr2 j3 (fun y k e => by rcases e with e | e <;> omega) (fun y k e => by rcases e with e | e | e <;> omega)
  unfold f_Model_made
  rw [a69.1, if_pos (by omega), a69.2, if_pos (by decide), e70, s8, sb_sb]
  simp only [ob_lt]
  rw [show (4 : Int32).toNatClampNeg = 4 from rfl, ← hD4, r4, a69.1, if_pos (by omega), a69.2, if_pos (by decide), s0, sb_sb, show (5 : Int32).toNatClampNeg = 5 from rfl, ← hD8, r8, a69.1, if_pos (by omega), v70, ec]
  simp only [ob_bd]
  rw [p1]
  simp only [ob_bv]
  rw [g14.1, a69.1, if_pos (by omega), w14'.1, j1']
  simp only [ob_bd]
  rw [if_bI]
  unfold rp_send
  by_cases hc : lv.length + (rp_fin p).length ≤ 4096
  · rw [if_pos (by simpa using hc), if_pos hc]
    rw [if_pos hc] at j2
    obtain ⟨D', t1, t2, t3⟩ := rpm_keep ((hA.kp g14).kp j3) h18 w18 ho h7' hcl18
    exact ⟨D', t1, t2, j2.keep t3.up (by omega) (by omega) (by omega), w18.keep t3.up (by omega) (by omega), gT.tr (t3.mono (by omega))⟩
  · rw [if_neg (by simpa using hc), if_neg hc]
    rw [if_neg hc] at j2
    have g6 : oi (fun y k => y = M ∧ k = 72) D18 (ob_pI D18 M 72 (D18.1 M 72 + 1)) := oi.pI ⟨rfl, rfl⟩
    have h6 : mRp (ob_pI D18 M 72 (D18.1 M 72 + 1)) M w (rp_lose z) := by
      obtain ⟨st, sd, md, all, lo, rt, fr, tt, rc⟩ := z
      obtain ⟨hM, hS, hF⟩ := h18
      refine ⟨hM.keep g6.up (by omega) (by omega), hS.keep g6.up (by omega) (by omega) (by omega) (by omega) (by omega) (by omega) (by omega), ?_⟩
      obtain ⟨f1, f2, f3, f4, f5⟩ := hF
      exact ⟨by rw [g6.2 _ _ (by omega)]; exact f1, by rw [pI_self, f2], by rw [g6.2 _ _ (by omega)]; exact f3, by rw [g6.2 _ _ (by omega)]; exact f4, by rw [g6.2 _ _ (by omega)]; exact f5⟩
    obtain ⟨D', t1, t2, t3⟩ := rpm_keep (((hA.kp g14).kp j3).kp g6) h6 (w18.keep g6.up (by omega) (by omega)) ho h7' (by rw [g6.2 _ _ (by omega)]; exact hcl18)
    exact ⟨D', t1, t2, (j2.keep g6.up (by omega) (by omega) (by omega)).keep t3.up (by omega) (by omega) (by omega), (w18.keep g6.up (by omega) (by omega)).keep t3.up (by omega) (by omega), (gT.tr (g6.mono (by omega))).tr (t3.mono (by omega))⟩
