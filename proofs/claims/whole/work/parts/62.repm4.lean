-- ===== the reference's retrieval =====
theorem rpm_sum {S : ob_S} {k0 : Nat → ob_D → Option ob_D} {D : ob_D} {M w : Nat} {st : List (List Nat)} {rc : Nat} (hA : mA S D M) (hS : mRpS D M w st rc) (hr : rc < st.length) : ∀ (d n k : Nat), k + d = rc → d < n → f_Model_retrieve_L60 S k0 n M (N32 (tot (st.take k))) (N32 k) D = ob_bd (f_Model_joins S M 1 (M + 38) (N32 (tot (st.take rc))) (N32 (st.getD rc []).length) D) fun x D14 => if x = 0 then some D14 else k0 M (ob_pI D14 M 83 (D14.1 M 83 + 1)) := by
  have hfew := hS.few
  have a75 : D.2.1 M 75 = M + 38 ∧ S.2.1 (M + 38) = 16384 := hA.1 (75, 38, 16384) (by decide)
  have a76 : D.2.1 M 76 = M + 39 ∧ S.2.1 (M + 39) = 900 := hA.1 (76, 39, 900) (by decide)
  obtain ⟨s1, s2, s3, s4, s5, s6, s7, s8, s9, s10⟩ := hS
  intro d
  induction d with
  | zero =>
    intro n k hk hn
    match n, hn with
    | n + 1, _ =>
      have hk' : k = rc := hk
      rw [f_Model_retrieve_L60, s8, hk', if_pos (by rw [nb_le (by omega) (by omega)]; exact Nat.le_refl _), a75.1, if_pos (by omega), a76.1, if_pos (by omega), a76.2, if_pos (by rw [nb_in (by omega)]; omega)]
      try simp (disch := omega) only [nb_clamp]
      rw [(s5 rc hr).1]
  | succ d ih =>
    intro n k hk hn
    match n, hn with
    | n + 1, hn =>
      have hkr : k < rc := by omega
      have e1 : N32 k + (1 : Int32) = N32 (k + 1) := nb_add _ 1
      rw [f_Model_retrieve_L60, s8, if_neg (by rw [nb_le (by omega) (by omega)]; omega), a76.1, if_pos (by omega), a76.2, if_pos (by rw [nb_in (by omega)]; omega)]
      try simp (disch := omega) only [nb_clamp]
      rw [(s5 k (by omega)).1, nb_add, ← rp_take_succ (by omega), e1]
      exact ih n (k + 1) (by omega) (by omega)
theorem ba_part {D : ob_D} {b : Nat} {st : List (List Nat)} {rc : Nat} (h : ba D b 0 st.flatten) (hr : rc < st.length) : ba D b (tot (st.take rc)) (st.getD rc []) := by
  have e : st = st.take rc ++ (st.getD rc [] :: st.drop (rc + 1)) := by
    conv => lhs; rw [← List.take_append_drop rc st, List.drop_eq_getElem_cons hr]
    simp [List.getD_eq_getElem?_getD, hr]
  have e2 : st.flatten = (st.take rc).flatten ++ (st.getD rc [] ++ (st.drop (rc + 1)).flatten) := by
    conv => lhs; rw [e]
    rw [List.flatten_append, List.flatten_cons]
  rw [e2] at h
  refine ⟨fun i hi => ?_, fun x hx => h.2 x (List.mem_append_right _ (List.mem_append_left _ hx))⟩
  have := h.1 (tot (st.take rc) + i) (by rw [List.length_append, List.length_append]; unfold tot; omega)
  rw [Nat.zero_add] at this
  rw [this]
  unfold tot
  rw [app_get_r, app_get_l hi]
theorem rpm_next {D : ob_D} {M w : Nat} {st : List (List Nat)} {rc : Nat} (hS : mRpS D M w st rc) (hr : rc < st.length) : mRpS (ob_pI D M 83 (D.1 M 83 + 1)) M w st (rc + 1) := by
  obtain ⟨s1, s2, s3, s4, s5, s6, s7, s8, s9, s10⟩ := hS
  have g : oi (fun y k => y = M ∧ k = 83) D (ob_pI D M 83 (D.1 M 83 + 1)) := oi.pI ⟨rfl, rfl⟩
  refine ⟨by rw [g.2 _ _ (by omega)]; exact s1, s2, s3, s4.keep g.up (by omega), fun i hi => by rw [g.2 _ _ (by omega), g.2 _ _ (by omega)]; exact s5 i hi, by rw [g.2 _ _ (by omega)]; exact s6, by rw [g.2 _ _ (by omega)]; exact s7, ?_, hr, s10⟩
  rw [pI_self, s8]
  exact nb_add _ 1
theorem rpm_retr_L {S : ob_S} {M w : Nat} {st : List (List Nat)} {all lo fr tt : Int32} : ∀ (d n rc : Nat) (D : ob_D) (lv : List Nat), rc + d = st.length → d < n → mA S D M → mRpS D M w st rc → mRpF D M all lo true fr tt → mCh D M 1 lv → ∃ D', f_Model_retrieve_L0 S n M D = some D' ∧ mRpS D' M w st (rp_get fr tt (st.drop rc) lv rc).2.2 ∧ mRpF D' M all lo (rp_get fr tt (st.drop rc) lv rc).1 fr tt ∧ mCh D' M 1 (rp_get fr tt (st.drop rc) lv rc).2.1 ∧ oi (fun y k => (y = M ∧ (k = 80 ∨ k = 83)) ∨ (y = M + 47 ∧ k = 1) ∨ y = M + 43 ∨ y = M + 46) D D' := by
  intro d
  induction d with
  | zero =>
    intro n rc D lv hrc hn hA hS hF hC
    match n, hn with
    | n + 1, _ =>
      have hrc' : rc = st.length := hrc
      have hfew := hS.few
      obtain ⟨f1, f2, f3, f4, f5⟩ := hF
      have g : oi (fun y k => y = M ∧ k = 80) D (ob_pI D M 80 (0 : Int32)) := oi.pI ⟨rfl, rfl⟩
      rw [List.drop_of_length_le (by omega)]
      refine ⟨ob_pI D M 80 (0 : Int32), ?_, hS.keep g.up (by omega) (by omega) (by omega) (by omega) (by omega) (by omega) (by omega), ⟨by rw [g.2 _ _ (by omega)]; exact f1, by rw [g.2 _ _ (by omega)]; exact f2, pI_self, by rw [g.2 _ _ (by omega)]; exact f4, by rw [g.2 _ _ (by omega)]; exact f5⟩, hC.keep g.up (by omega) (by omega) (by omega), g.mono (by omega)⟩
      rw [f_Model_retrieve_L0, f3, if_neg (by decide), hS.2.2.2.2.2.2.2.1, hS.2.2.2.2.2.1, hrc', if_pos rfl]
  | succ d ih =>
    intro n rc D lv hrc hn hA hS hF hC
    match n, hn with
    | n + 1, hn =>
      have hr : rc < st.length := by omega
      have hfew := hS.few
      have a75 : D.2.1 M 75 = M + 38 ∧ S.2.1 (M + 38) = 16384 := hA.1 (75, 38, 16384) (by decide)
      have a77 : D.2.1 M 77 = M + 40 ∧ S.2.1 (M + 40) = 900 := hA.1 (77, 40, 900) (by decide)
      have htk := rp_take_succ hr
      have htk2 := tot_take st (rc + 1)
      have hF0 := hF
      have hS0 := hS
      obtain ⟨f1, f2, f3, f4, f5⟩ := hF
      obtain ⟨s1, s2, s3, s4, s5, s6, s7, s8, s9, s10⟩ := hS
      have hm : st.getD rc [] ∈ st := by
        rw [List.getD_eq_getElem?_getD, List.getElem?_eq_getElem hr]
        exact List.getElem_mem hr
      obtain ⟨o1, o2, o3, o4⟩ := s10 _ hm
      have hgo : ∀ (D3 : ob_D) (lv3 : List Nat), mA S D3 M → mRpS D3 M w st rc → mRpF D3 M all lo true fr tt → mCh D3 M 1 lv3 → ∃ D', f_Model_retrieve_L0 S n M (ob_pI D3 M 83 (D3.1 M 83 + 1)) = some D' ∧ mRpS D' M w st (rp_get fr tt (st.drop (rc + 1)) lv3 (rc + 1)).2.2 ∧ mRpF D' M all lo (rp_get fr tt (st.drop (rc + 1)) lv3 (rc + 1)).1 fr tt ∧ mCh D' M 1 (rp_get fr tt (st.drop (rc + 1)) lv3 (rc + 1)).2.1 ∧ oi (fun y k => (y = M ∧ (k = 80 ∨ k = 83)) ∨ (y = M + 47 ∧ k = 1) ∨ y = M + 43 ∨ y = M + 46) D3 D' := by
        intro D3 lv3 kA kS kF kC
        have g : oi (fun y k => y = M ∧ k = 83) D3 (ob_pI D3 M 83 (D3.1 M 83 + 1)) := oi.pI ⟨rfl, rfl⟩
        obtain ⟨D', t1, t2, t3, t4, t5⟩ := ih n (rc + 1) _ lv3 (by omega) (by omega) (kA.kp g) (rpm_next kS hr) (kF.keep g.up (by omega) (by omega) (by omega) (by omega) (by omega)) (kC.keep g.up (by omega) (by omega) (by omega))
        exact ⟨D', t1, t2, t3, t4, (g.mono (by omega)).tr t5⟩
      have hin : ob_in (N32 rc) 900 := by rw [nb_in (by omega)]; omega
      rw [f_Model_retrieve_L0, f3, if_neg (by decide), s8, s6, if_neg (by rw [nb_eq (by omega) (by omega)]; omega), a77.1, if_pos (by omega), a77.2, if_pos hin]
      try simp (disch := omega) only [nb_clamp]
      rw [(s5 rc hr).2, f4, f5, rp_drop_cons hr, rp_get]
      simp only [ob_lt]
      by_cases hc1 : N32 (nn (st.getD rc []) 13 4) < fr
      · rw [if_pos hc1, if_pos (Or.inl hc1), ← s8]
        exact hgo D lv hA hS0 hF0 hC
      · rw [if_neg hc1, if_pos (by omega), if_pos hin]
        by_cases hc2 : tt < N32 (nn (st.getD rc []) 13 4)
        · rw [if_pos hc2, if_pos (Or.inr hc2), ← s8]
          exact hgo D lv hA hS0 hF0 hC
        · rw [if_neg hc2, if_neg (fun e => e.elim hc1 hc2)]
          have hsum := rpm_sum (k0 := fun a0 d => f_Model_retrieve_L0 S n a0 d) hA hS0 hr rc ob_FU 0 (by omega) (by rw [ob_FU_eq]; omega)
          obtain ⟨D14, j1, j2, j3⟩ := mch_join (v := 1) (a := M + 38) (by decide) hA hC (ba_part s4 hr) (by rw [a75.2]; omega) (by rw [a75.2]; decide) (by omega)
          have j1' : f_Model_joins S M 1 (M + 38) (N32 (tot (st.take rc))) (N32 (st.getD rc []).length) D = _ := j1
          rw [j1'] at hsum
          simp only [ob_bd] at hsum
          rw [if_bI] at hsum
          have hsum' : f_Model_retrieve_L60 S (fun a0 d => f_Model_retrieve_L0 S n a0 d) ob_FU M 0 0 D = _ := hsum
          rw [hsum']
          have hCP : ∀ {y j : Nat}, y ≠ M + 43 → y ≠ M + 46 → ¬ (y = M + 47 ∧ j = 1) → ¬ mChP M 1 y j := fun h1 h2 h3 e => e.elim h3 (fun e => e.elim (fun e => h1 (by omega)) (fun e => h2 (by omega)))
          have g14 : oi (fun y k => (y = M ∧ (k = 80 ∨ k = 83)) ∨ (y = M + 47 ∧ k = 1) ∨ y = M + 43 ∨ y = M + 46) D D14 := j3.mono (fun y k e => by rcases e with e | e | e <;> omega)
          by_cases hc3 : lv.length + (st.getD rc []).length ≤ 4096
          · rw [if_pos (by simpa using hc3), if_pos hc3]
            rw [if_pos hc3] at j2
            obtain ⟨D', t1, t2, t3, t4, t5⟩ := hgo D14 (lv ++ pkm (st.getD rc [])) (hA.kp j3) (hS0.keep j3.up (hCP (by omega) (by omega) (by omega)) (hCP (by omega) (by omega) (by omega)) (hCP (by omega) (by omega) (by omega)) (hCP (by omega) (by omega) (by omega)) (fun k => hCP (by omega) (by omega) (by omega)) (fun k => hCP (by omega) (by omega) (by omega)) (fun k => hCP (by omega) (by omega) (by omega))) (hF0.keep j3.up (hCP (by omega) (by omega) (by omega)) (hCP (by omega) (by omega) (by omega)) (hCP (by omega) (by omega) (by omega)) (hCP (by omega) (by omega) (by omega)) (hCP (by omega) (by omega) (by omega))) j2
            exact ⟨D', t1, t2, t3, t4, g14.tr t5⟩
          · rw [if_neg (by simpa using hc3), if_neg hc3]
            rw [if_neg hc3] at j2
            exact ⟨D14, rfl, hS0.keep j3.up (hCP (by omega) (by omega) (by omega)) (hCP (by omega) (by omega) (by omega)) (hCP (by omega) (by omega) (by omega)) (hCP (by omega) (by omega) (by omega)) (fun k => hCP (by omega) (by omega) (by omega)) (fun k => hCP (by omega) (by omega) (by omega)) (fun k => hCP (by omega) (by omega) (by omega)), hF0.keep j3.up (hCP (by omega) (by omega) (by omega)) (hCP (by omega) (by omega) (by omega)) (hCP (by omega) (by omega) (by omega)) (hCP (by omega) (by omega) (by omega)) (hCP (by omega) (by omega) (by omega)), j2, g14⟩
theorem rpm_retr {S : ob_S} {D : ob_D} {M w : Nat} {lv : List Nat} {z : sRp} (hA : mA S D M) (h : mRp D M w z) (hC : mCh D M 1 lv) : ∃ D', f_Model_retrieve S M D = some D' ∧ mRp D' M w (rp_retr lv z).2 ∧ mCh D' M 1 (rp_retr lv z).1 ∧ oi (fun y k => (y = M ∧ (k = 80 ∨ k = 83)) ∨ (y = M + 47 ∧ k = 1) ∨ y = M + 43 ∨ y = M + 46) D D' := by
  obtain ⟨st, sd, md, all, lo, rt, fr, tt, rc⟩ := z
  obtain ⟨hM, hS, hF⟩ := h
  have hfew := hS.few
  have hrc := hS.2.2.2.2.2.2.2.2.1
  have ek : rp_retr lv (st, sd, md, all, lo, rt, fr, tt, rc) = if rt = true then ((rp_get fr tt (st.drop rc) lv rc).2.1, (st, sd, md, all, lo, (rp_get fr tt (st.drop rc) lv rc).1, fr, tt, (rp_get fr tt (st.drop rc) lv rc).2.2)) else (lv, (st, sd, md, all, lo, rt, fr, tt, rc)) := rfl
  rw [ek]
  cases rt with
  | true =>
    obtain ⟨D', t1, t2, t3, t4, t5⟩ := rpm_retr_L (st.length - rc) ob_FU rc D lv (by omega) (by rw [ob_FU_eq]; omega) hA hS hF hC
    rw [if_pos rfl]
    exact ⟨D', t1, ⟨hM.keep t5.up (by omega) (by omega), t2, t3⟩, t4, t5⟩
  | false =>
    rw [if_neg (by decide)]
    refine ⟨D, ?_, ⟨hM, hS, hF⟩, hC, oi.rf⟩
    unfold f_Model_retrieve
    rw [ob_FU_eq, f_Model_retrieve_L0, hF.2.2.1, if_pos (by decide)]
