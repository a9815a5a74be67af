-- ===== the class's reports: dropping up to a time, retrieving =====
theorem pk_tot : ∀ l : List (List Nat), (∀ p ∈ l, pk_ok p) → l.length * 19 ≤ tot l := by
  intro l
  induction l with
  | nil => intro _; exact Nat.le_refl _
  | cons x l ihl =>
    intro hx
    have h1 := ihl (fun p hp => hx p (List.mem_cons_of_mem _ hp))
    have h2 := (hx x List.mem_cons_self).1
    rw [tot_cons, List.length_cons]
    omega
theorem cRpS.few {S : ob_S} {D : ob_D} {R w : Nat} {st : List (List Nat)} {rc : Nat} (h : cRpS S D R w st rc) : st.length * 19 ≤ tot st ∧ tot st ≤ w ∧ w ≤ 100000 := by
  have hl := h.1.len
  rw [rgs_len] at hl
  exact ⟨pk_tot _ h.2.2.2.2, hl.1, hl.2.1⟩
theorem rpc_upto {S : ob_S} {R L w : Nat} {t : Int32} : ∀ (st : List (List Nat)) (n rc : Nat) (D : ob_D), st.length < n → cRpA S D R L → cRpS S D R w st rc → ∃ D', f_Reports_dropUpTo_L5 S n R t (N32 st.length) D = some D' ∧ cRpS S D' R w (rp_upto t st rc).1 (rp_upto t st rc).2 ∧ og (rpP R) D D' := by
  intro st
  induction st with
  | nil =>
    intro n rc D hn hA hS
    match n, hn with
    | n + 1, _ =>
      refine ⟨D, ?_, hS, og.rf⟩
      rw [f_Reports_dropUpTo_L5, if_pos (by decide)]
  | cons p st ih =>
    intro n rc D hn hA hS
    match n, hn with
    | n + 1, hn =>
      have hfew := hS.few
      have hA0 := hA
      obtain ⟨a1, a2, a3, a4, a5, a6, a7, a8⟩ := hA
      have hS0 := hS
      obtain ⟨s1, s2, s3, s4, s5⟩ := hS
      obtain ⟨o1, o2, o3, o4⟩ := s5 p List.mem_cons_self
      have hb : ∀ q ∈ p :: st, ∀ x ∈ q, x < 256 := fun q hq => (s5 q hq).2.2.2
      have e1 : f_Ring_number S (R + 1) 13 4 D = some (N32 (nn p 13 4), D) := by
        have := rgN_number s1 (f := 13) (c := 4) (by rw [rgs_len, tot_cons]; omega)
        rw [rgs_mod hb, List.flatten_cons, nn_left _ _ _ _ (by omega)] at this
        exact this
      rw [f_Reports_dropUpTo_L5, show (0 : Int32) = N32 0 from rfl, if_neg (by rw [nb_le (by omega) (by decide), List.length_cons]; omega), a3, if_pos (by omega), e1]
      simp only [ob_bd]
      by_cases hc : t < N32 (nn p 13 4)
      · rw [if_pos hc, rp_upto, if_pos hc]
        exact ⟨D, rfl, hS0, og.rf⟩
      · rw [if_neg hc, rp_upto, if_neg hc]
        obtain ⟨D1, p1, p2, p3⟩ := rpc_old hA0 hS0
        obtain ⟨D2, q1, q2, q3⟩ := ih n (rc - 1) D1 (by rw [List.length_cons] at hn; omega) (hA0.keep p3 (by omega) rfl rfl) p2
        refine ⟨D2, ?_, q2, p3.tr q3⟩
        rw [p1]
        simp only [ob_bv]
        rw [List.length_cons, nb_m1]
        exact q1
theorem rpc_drop {S : ob_S} {D : ob_D} {R L w : Nat} {z : sRp} (h : cRp S D R L w z) (t : Int32) : ∃ D', f_Reports_dropUpTo S R t D = some D' ∧ cRp S D' R L w (rp_drop t z) ∧ og (rpP R) D D' := by
  obtain ⟨st, sd, md, all, lo, rt, fr, tt, rc⟩ := z
  obtain ⟨hA, hM, hS, hF⟩ := h
  have hfew := hS.few
  obtain ⟨D1, p1, p2, p3⟩ := rpc_upto (t := t) st ob_FU rc D (by rw [ob_FU_eq]; omega) hA hS
  refine ⟨D1, ?_, ⟨hA.keep p3 (by omega) rfl rfl, hM.keep p3 (by omega) (by omega), p2, hF.keep p3 (by omega) (by omega) (by omega) (by omega) (by omega)⟩, p3⟩
  unfold f_Reports_dropUpTo
  rw [hS.2.1]
  exact p1
theorem rpc_want {S : ob_S} {D : ob_D} {R L w : Nat} {z : sRp} (h : cRp S D R L w z) (f t : Int32) : ∃ D', f_Reports_beginRetrieval S R f t D = some D' ∧ cRp S D' R L w (rp_want f t z) ∧ og (fun y k => y = R ∧ 8 ≤ k ∧ k < 12) D D' := by
  obtain ⟨st, sd, md, all, lo, rt, fr, tt, rc⟩ := z
  obtain ⟨hA, hM, hS, hF⟩ := h
  obtain ⟨D', hD'⟩ : ∃ x, x = ob_pI (ob_pI (ob_pI (ob_pI D R 8 (1 : Int32)) R 9 f) R 10 t) R 11 (0 : Int32) := ⟨_, rfl⟩
  have g : og (fun y k => y = R ∧ 8 ≤ k ∧ k < 12) D D' := by
    rw [hD']
    exact (((og.pI ⟨rfl, by decide⟩).tr (og.pI ⟨rfl, by decide⟩)).tr (og.pI ⟨rfl, by decide⟩)).tr (og.pI ⟨rfl, by decide⟩)
  refine ⟨D', ?_, ⟨hA.keep g (by omega) rfl rfl, hM.keep g (by omega) (by omega), ?_, ?_⟩, g⟩
  · unfold f_Reports_beginRetrieval
    simp only [ob_lt]
    rw [hD']
  · obtain ⟨s1, s2, s3, s4, s5⟩ := hS
    refine ⟨rg_at.keep s1 g (by omega) (by omega) rfl, by rw [(g _ _ (by omega)).1]; exact s2, ?_, Nat.zero_le _, s5⟩
    rw [hD']
    show (if R = R ∧ 11 = 11 then _ else _) = _
    rw [if_pos ⟨rfl, rfl⟩]
    rfl
  · obtain ⟨f1, f2, f3, f4, f5⟩ := hF
    refine ⟨by rw [(g _ _ (by omega)).1]; exact f1, by rw [(g _ _ (by omega)).1]; exact f2, ?_, ?_, ?_⟩
    · rw [hD']; simp [ob_pI, bI]
    · rw [hD']; simp [ob_pI]
    · rw [hD']; simp [ob_pI]
theorem rgs_get {l : List (List Nat)} {r i : Nat} (hr : r < l.length) (hi : i < (l.getD r []).length) : (rgs l).getD (tot (l.take r) + i) 0 = (pkm (l.getD r [])).getD i 0 := by
  have e : l = l.take r ++ (l.getD r [] :: l.drop (r + 1)) := by
    conv => lhs; rw [← List.take_append_drop r l, List.drop_eq_getElem_cons hr]
    simp [List.getD_eq_getElem?_getD, hr]
  have e2 : rgs l = rgs (l.take r) ++ (pkm (l.getD r []) ++ rgs (l.drop (r + 1))) := by
    conv => lhs; rw [e]
    simp [rgs]
  rw [e2]
  simp only [List.getD_eq_getElem?_getD]
  rw [List.getElem?_append_right (by rw [rgs_len]; omega), rgs_len, Nat.add_sub_cancel_left, List.getElem?_append_left (by rw [pkm_len]; simpa [List.getD_eq_getElem?_getD] using hi)]
theorem rpc_copy_L {S : ob_S} {R L w Q : Nat} {st : List (List Nat)} {rc : Nat} {lv : List Nat} (hr : rc < st.length) (hrm : lv.length + (st.getD rc []).length ≤ 4096) (hd : Q + 2 ≤ R) : ∀ (d n k : Nat) (D : ob_D), k + d = (st.getD rc []).length → d < n → cRpA S D R L → cRpS S D R w st rc → rgN S D Q (Q + 1) 4096 (lv ++ (pkm (st.getD rc [])).take k) → ∃ D', f_Reports_copyStored_L2 S n R (N32 (st.getD rc []).length) Q (N32 k) D = some D' ∧ rgN S D' Q (Q + 1) 4096 (lv ++ pkm (st.getD rc [])) ∧ ob_ag (fun y => y = Q ∨ y = Q + 1) D D' := by
  intro d
  induction d with
  | zero =>
    intro n k D hk hn hA hS hQ
    match n, hn with
    | n + 1, _ =>
      have hk' : k = (st.getD rc []).length := hk
      refine ⟨D, ?_, ?_, ob_ag.rf⟩
      · rw [f_Reports_copyStored_L2, if_pos (by rw [hk', nb_le (by omega) (by omega)]; exact Nat.le_refl _)]
      · rw [List.take_of_length_le (by rw [pkm_len]; omega)] at hQ
        exact hQ
  | succ d ih =>
    intro n k D hk hn hA hS hQ
    match n, hn with
    | n + 1, hn =>
      have hfew := hS.few
      have htk := tot_take st rc
      have hlen : (lv ++ (pkm (st.getD rc [])).take k).length = lv.length + k := by
        rw [List.length_append, List.length_take, pkm_len]
        omega
      have e1 : f_Ring_get S (R + 1) (D.1 R 11 + N32 k) D = some (N32 ((pkm (st.getD rc [])).getD k 0), D) := by
        rw [hS.2.2.1, nb_add, rgN_get hS.1 (by omega), rgs_get hr (by omega)]
      obtain ⟨D1, p1, p2, p3⟩ := rgN_put hQ ((pkm (st.getD rc [])).getD k 0) (by omega)
      have hs := by_take_succ (l := pkm (st.getD rc [])) (f := 0) (k := k) (by rw [pkm_len]; omega)
      rw [List.drop_zero, Nat.zero_add] at hs
      rw [List.append_assoc, ← hs] at p2
      obtain ⟨D2, q1, q2, q3⟩ := ih n (k + 1) D1 (by omega) (by omega) (hA.keep p3.up (by omega) rfl rfl) (hS.keep p3.up (by omega) (by omega) (by omega) (by omega) rfl) p2
      refine ⟨D2, ?_, q2, p3.tr q3⟩
      rw [f_Reports_copyStored_L2, if_neg (by rw [nb_le (by omega) (by omega)]; omega), hA.2.2.1, if_pos (by omega), e1]
      simp only [ob_bd]
      rw [p1]
      simp only [ob_bv]
      have e2 : N32 k + (1 : Int32) = N32 (k + 1) := nb_add _ 1
      rw [e2]
      exact q1
theorem rp_take_succ {st : List (List Nat)} {rc : Nat} (h : rc < st.length) : tot (st.take (rc + 1)) = tot (st.take rc) + (st.getD rc []).length := by
  rw [List.take_succ_eq_append_getElem h, tot_app, tot_cons, tot_nil]
  simp [List.getD_eq_getElem?_getD, h]
theorem rp_drop_cons {st : List (List Nat)} {rc : Nat} (h : rc < st.length) : st.drop rc = st.getD rc [] :: st.drop (rc + 1) := by
  rw [List.drop_eq_getElem_cons h]
  simp [List.getD_eq_getElem?_getD, h]
theorem rpc_next {S : ob_S} {D : ob_D} {R w : Nat} {st : List (List Nat)} {rc : Nat} (hS : cRpS S D R w st rc) (hr : rc < st.length) : cRpS S (ob_pI D R 11 (D.1 R 11 + (N32 (nn (st.getD rc []) 4 2) + (7 : Int32)))) R w st (rc + 1) := by
  obtain ⟨s1, s2, s3, s4, s5⟩ := hS
  have g : og (fun y k => y = R ∧ k = 11) D (ob_pI D R 11 (D.1 R 11 + (N32 (nn (st.getD rc []) 4 2) + (7 : Int32)))) := og.pI ⟨rfl, rfl⟩
  have hm : st.getD rc [] ∈ st := by
    rw [List.getD_eq_getElem?_getD, List.getElem?_eq_getElem hr]
    exact List.getElem_mem hr
  have ho := s5 _ hm
  refine ⟨rg_at.keep s1 g (by omega) (by omega) rfl, by rw [(g _ _ (by omega)).1]; exact s2, ?_, hr, s5⟩
  show (if R = R ∧ 11 = 11 then _ else _) = _
  have e2 : N32 (nn (st.getD rc []) 4 2) + (7 : Int32) = N32 (st.getD rc []).length := by rw [← ho.2.2.1]; exact nb_add _ 7
  rw [if_pos ⟨rfl, rfl⟩, s3, e2, nb_add, rp_take_succ hr]
theorem rpc_retr_L {S : ob_S} {R L w Q : Nat} {st : List (List Nat)} {all lo fr tt : Int32} (hd : Q + 2 ≤ R) : ∀ (d n rc v : Nat) (D : ob_D) (lv : List Nat), rc + d = st.length → d < n → v ≤ rc → cRpA S D R L → cRpS S D R w st rc → cRpF D R all lo true fr tt → rgN S D Q (Q + 1) 4096 lv → ∃ D', f_Reports_retrieve_L2 S n R Q (N32 v) D = some D' ∧ cRpS S D' R w st (rp_get fr tt (st.drop rc) lv rc).2.2 ∧ cRpF D' R all lo (rp_get fr tt (st.drop rc) lv rc).1 fr tt ∧ rgN S D' Q (Q + 1) 4096 (rp_get fr tt (st.drop rc) lv rc).2.1 ∧ og (fun y k => (y = R ∧ (k = 8 ∨ k = 11)) ∨ y = Q ∨ y = Q + 1) D D' := by
  intro d
  induction d with
  | zero =>
    intro n rc v D lv hrc hn hv hA hS hF hQ
    match n, hn with
    | n + 1, _ =>
      have hrc' : rc = st.length := hrc
      have hfew := hS.few
      obtain ⟨f1, f2, f3, f4, f5⟩ := hF
      have g : og (fun y k => y = R ∧ k = 8) D (ob_pI D R 8 (0 : Int32)) := og.pI ⟨rfl, rfl⟩
      rw [List.drop_of_length_le (by omega)]
      refine ⟨ob_pI D R 8 (0 : Int32), ?_, ?_, ?_, ?_, ?_⟩
      · rw [f_Reports_retrieve_L2, f3, if_neg (by decide), hS.2.1, if_le (by omega) (by omega)]
        simp only [ob_lt]
        by_cases hc : st.length ≤ v
        · rw [if_pos hc]
        · rw [if_neg hc, hA.2.2.1, if_pos (by omega), hS.2.2.1, hS.1.len.2.2, hrc', List.take_length, rgs_len, if_pos (by rw [nb_le (by omega) (by omega)]; exact Nat.le_refl _)]
      · exact hS.keep g (by omega) (by omega) (by omega) (by omega) rfl
      · refine ⟨by rw [(g _ _ (by omega)).1]; exact f1, by rw [(g _ _ (by omega)).1]; exact f2, ?_, by rw [(g _ _ (by omega)).1]; exact f4, by rw [(g _ _ (by omega)).1]; exact f5⟩
        show (if R = R ∧ 8 = 8 then _ else _) = _
        rw [if_pos ⟨rfl, rfl⟩]
        rfl
      · exact rg_at.keep hQ g (by omega) (by omega) rfl
      · exact g.mono (by omega)
  | succ d ih =>
    intro n rc v D lv hrc hn hv hA hS hF hQ
    match n, hn with
    | n + 1, hn =>
      have hr : rc < st.length := by omega
      have hfew := hS.few
      have htk := rp_take_succ hr
      have htk2 := tot_take st (rc + 1)
      have hm : st.getD rc [] ∈ st := by
        rw [List.getD_eq_getElem?_getD, List.getElem?_eq_getElem hr]
        exact List.getElem_mem hr
      have hS0 := hS
      obtain ⟨s1, s2, s3, s4, s5⟩ := hS
      obtain ⟨o1, o2, o3, o4⟩ := s5 _ hm
      have hb : ∀ q ∈ st, ∀ x ∈ q, x < 256 := fun q hq => (s5 q hq).2.2.2
      have hF0 := hF
      obtain ⟨f1, f2, f3, f4, f5⟩ := hF
      have e4 : f_Ring_number S (R + 1) (D.1 R 11 + 4) 2 D = some (N32 (nn (st.getD rc []) 4 2), D) := by
        have := rgN_number s1 (f := tot (st.take rc) + 4) (c := 2) (by rw [rgs_len]; omega)
        rw [rgs_mod hb, nn_store hr (by omega)] at this
        rw [s3, show (4 : Int32) = N32 4 from rfl, nb_add]
        exact this
      have e13 : f_Ring_number S (R + 1) (D.1 R 11 + 13) 4 D = some (N32 (nn (st.getD rc []) 13 4), D) := by
        have := rgN_number s1 (f := tot (st.take rc) + 13) (c := 4) (by rw [rgs_len]; omega)
        rw [rgs_mod hb, nn_store hr (by omega)] at this
        rw [s3, show (13 : Int32) = N32 13 from rfl, nb_add]
        exact this
      have e7 : N32 (nn (st.getD rc []) 4 2) + (7 : Int32) = N32 (st.getD rc []).length := by rw [← o3]; exact nb_add _ 7
      have ev : N32 v + (1 : Int32) = N32 (v + 1) := nb_add _ 1
      have hgo : ∀ (D3 : ob_D) (lv3 : List Nat), cRpA S D3 R L → cRpS S D3 R w st rc → cRpF D3 R all lo true fr tt → rgN S D3 Q (Q + 1) 4096 lv3 → ∃ D', f_Reports_retrieve_L2 S n R Q (N32 (v + 1)) (ob_pI D3 R 11 (D3.1 R 11 + (N32 (nn (st.getD rc []) 4 2) + (7 : Int32)))) = some D' ∧ cRpS S D' R w st (rp_get fr tt (st.drop (rc + 1)) lv3 (rc + 1)).2.2 ∧ cRpF D' R all lo (rp_get fr tt (st.drop (rc + 1)) lv3 (rc + 1)).1 fr tt ∧ rgN S D' Q (Q + 1) 4096 (rp_get fr tt (st.drop (rc + 1)) lv3 (rc + 1)).2.1 ∧ og (fun y k => (y = R ∧ (k = 8 ∨ k = 11)) ∨ y = Q ∨ y = Q + 1) D3 D' := by
        intro D3 lv3 kA kS kF kQ
        have g : og (fun y k => y = R ∧ k = 11) D3 (ob_pI D3 R 11 (D3.1 R 11 + (N32 (nn (st.getD rc []) 4 2) + (7 : Int32)))) := og.pI ⟨rfl, rfl⟩
        obtain ⟨D', t1, t2, t3, t4, t5⟩ := ih n (rc + 1) (v + 1) _ lv3 (by omega) (by omega) (by omega) (kA.keep g (by omega) rfl rfl) (rpc_next kS hr) (kF.keep g (by omega) (by omega) (by omega) (by omega) (by omega)) (rg_at.keep kQ g (by omega) (by omega) rfl)
        exact ⟨D', t1, t2, t3, t4, (g.mono (by omega)).tr t5⟩
      rw [f_Reports_retrieve_L2, f3, if_neg (by decide), s2, if_neg (by rw [nb_le (by omega) (by omega)]; omega), hA.2.2.1, if_pos (by omega), s1.len.2.2, rgs_len]
      have hlt : ¬ (N32 (tot st) ≤ D.1 R 11) := by rw [s3, nb_le (by omega) (by omega)]; omega
      rw [if_neg hlt, if_pos (by omega), e4]
      simp only [ob_bd]
      rw [hA.2.2.1, if_pos (by omega), e13]
      simp only [ob_bd]
      rw [f4, f5, rp_drop_cons hr, rp_get, ev]
      by_cases hc1 : N32 (nn (st.getD rc []) 13 4) < fr
      · rw [if_pos hc1, if_pos (Or.inl hc1)]
        exact hgo D lv hA hS0 hF0 hQ
      · rw [if_neg hc1]
        by_cases hc2 : tt < N32 (nn (st.getD rc []) 13 4)
        · rw [if_pos hc2, if_pos (Or.inr hc2)]
          exact hgo D lv hA hS0 hF0 hQ
        · rw [if_neg hc2, if_neg (fun e => e.elim hc1 hc2), e7, rgN_room hQ (by omega)]
          simp only [ob_bd]
          rw [if_bI]
          by_cases hc3 : lv.length + (st.getD rc []).length ≤ 4096
          · rw [if_pos (by simpa using hc3), if_pos hc3]
            obtain ⟨D3, p1, p2, p3⟩ := rpc_copy_L (L := L) (w := w) hr hc3 hd (st.getD rc []).length ob_FU 0 D (by omega) (by rw [ob_FU_eq]; omega) hA hS0 (by simpa using hQ)
            obtain ⟨D', t1, t2, t3, t4, t5⟩ := hgo D3 (lv ++ pkm (st.getD rc [])) (hA.keep p3.up (by omega) rfl rfl) (hS0.keep p3.up (by omega) (by omega) (by omega) (by omega) rfl) (hF0.keep p3.up (by omega) (by omega) (by omega) (by omega) (by omega)) p2
            refine ⟨D', ?_, t2, t3, t4, (p3.up2 (fun y k e => Or.inr e)).tr t5⟩
            have p1' : f_Reports_copyStored S R (N32 (st.getD rc []).length) Q D = some D3 := p1
            rw [p1']
            simp only [ob_bv, ob_lt]
            rw [← e7]
            exact t1
          · rw [if_neg (by simpa using hc3), if_neg hc3]
            exact ⟨D, rfl, hS0, hF0, hQ, og.rf⟩
theorem rpc_retr {S : ob_S} {D : ob_D} {R L w Q : Nat} {lv : List Nat} {z : sRp} (h : cRp S D R L w z) (hQ : rgN S D Q (Q + 1) 4096 lv) (hd : Q + 2 ≤ R) : ∃ D', f_Reports_retrieve S R Q D = some D' ∧ cRp S D' R L w (rp_retr lv z).2 ∧ rgN S D' Q (Q + 1) 4096 (rp_retr lv z).1 ∧ og (fun y k => (y = R ∧ (k = 8 ∨ k = 11)) ∨ y = Q ∨ y = Q + 1) D D' := by
  obtain ⟨st, sd, md, all, lo, rt, fr, tt, rc⟩ := z
  obtain ⟨hA, hM, hS, hF⟩ := h
  have hfew := hS.few
  have hrc := hS.2.2.2.1
  have ek : rp_retr lv (st, sd, md, all, lo, rt, fr, tt, rc) = if rt = true then ((rp_get fr tt (st.drop rc) lv rc).2.1, (st, sd, md, all, lo, (rp_get fr tt (st.drop rc) lv rc).1, fr, tt, (rp_get fr tt (st.drop rc) lv rc).2.2)) else (lv, (st, sd, md, all, lo, rt, fr, tt, rc)) := rfl
  rw [ek]
  cases rt with
  | true =>
    obtain ⟨D', t1, t2, t3, t4, t5⟩ := rpc_retr_L (L := L) (w := w) hd (st.length - rc) ob_FU rc 0 D lv (by omega) (by rw [ob_FU_eq]; omega) (by omega) hA hS hF hQ
    rw [if_pos rfl]
    exact ⟨D', t1, ⟨hA.keep t5 (by omega) rfl rfl, hM.keep t5 (by omega) (by omega), t2, t3⟩, t4, t5⟩
  | false =>
    rw [if_neg (by decide)]
    obtain ⟨f1, f2, f3, f4, f5⟩ := hF
    have g : og (fun y k => y = R ∧ k = 8) D (ob_pI D R 8 (0 : Int32)) := og.pI ⟨rfl, rfl⟩
    refine ⟨ob_pI D R 8 (0 : Int32), ?_, ⟨hA.keep g (by omega) rfl rfl, hM.keep g (by omega) (by omega), hS.keep g (by omega) (by omega) (by omega) (by omega) rfl, ?_⟩, rg_at.keep hQ g (by omega) (by omega) rfl, g.mono (by omega)⟩
    · unfold f_Reports_retrieve
      rw [ob_FU_eq, f_Reports_retrieve_L2, f3, if_pos (by decide)]
    · refine ⟨by rw [(g _ _ (by omega)).1]; exact f1, by rw [(g _ _ (by omega)).1]; exact f2, ?_, by rw [(g _ _ (by omega)).1]; exact f4, by rw [(g _ _ (by omega)).1]; exact f5⟩
      show (if R = R ∧ 8 = 8 then _ else _) = _
      rw [if_pos ⟨rfl, rfl⟩]
      rfl
