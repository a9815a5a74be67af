-- ===== the queue, on both sides =====
theorem rep_gt (w s k : Nat) (body : List Nat) (z : sW) : (w_rep w s k body z).1 = z.1 := by
  obtain ⟨gt, rc, A, on, ev, lm, ⟨lv, rv, so, al'⟩, frs, rp, cr, fm, me⟩ := z
  show gt = gt
  rfl
theorem one_gt (w k : Nat) (l : List sFm) (z : sW) : (pf_one w k l z).1 = z.1 := by
  unfold pf_one
  split
  · rfl
  · split
    · rfl
    · exact rep_gt _ _ _ _ _
theorem fun_gt (c : List Nat) (z : sW) : (w_fun c z).1 = z.1 := by
  obtain ⟨gt, rc, A, on, ev, lm, ch, frs, rp, ⟨wi, mo, ck, al, hd, fa, br⟩, fm, me⟩ := z
  have ek : w_fun c (gt, rc, A, on, ev, lm, ch, frs, rp, (wi, mo, ck, al, hd, fa, br), fm, me) = if c.getD 11 0 = 1 then (gt, rc, A, on, ev, lm, ch, frs, rp, (up wi (8 + c.getD 12 0) (N32 (nn c 13 4)), mo, ck, al, hd, fa, br), fm, me) else if c.getD 11 0 = 2 then (gt, rc, A, on, (cr_mode (c.getD 12 0) ((wi, mo, ck, al, hd, fa, br), ev)).2, lm, ch, frs, rp, (cr_mode (c.getD 12 0) ((wi, mo, ck, al, hd, fa, br), ev)).1, fm, me) else (gt, rc, A, on, ev_raise (c.getD 12 0) (N32 (nn c 13 4)) ev, lm, ch, frs, rp, (wi, mo, ck, al, hd, fa, br), fm, me) := rfl
  rw [ek]
  split
  · rfl
  · split
    · rfl
    · rfl
theorem pf_gt {w : Nat} {c : List Nat} {z : sW} : (pf w c z).1 = z.1 := by
  obtain ⟨gt, rc, A, on, ev, lm, ch, frs, rp, cr, fm, me⟩ := z
  have ek : pf w c (gt, rc, A, on, ev, lm, ch, frs, rp, cr, fm, me) = if nn c 7 2 = 769 then ((gt, rc, A, on, ev, lm, ch, frs, rp, cr, fm_add c fm, me)) else if nn c 7 2 = 771 then ((gt, rc, A, on, ev, lm, ch, frs, rp, cr, fm_rem (c.getD 11 0) fm, me)) else if nn c 7 2 = 773 then ((gt, rc, A, on, ev, lm, ch, frs, rp, cr, fm_on true (c.getD 11 0) fm, me)) else if nn c 7 2 = 774 then ((gt, rc, A, on, ev, lm, ch, frs, rp, cr, fm_on false (c.getD 11 0) fm, me)) else if nn c 7 2 = 795 then (pf_one w (c.getD 11 0) fm (gt, rc, A, on, ev, lm, ch, frs, rp, cr, fm, me)) else if nn c 7 2 = 1285 then ((gt, rc, A, on, ev_sil (c.getD 11 0) false ev, lm, ch, frs, rp, cr, fm, me)) else if nn c 7 2 = 1286 then ((gt, rc, A, on, ev_sil (c.getD 11 0) true ev, lm, ch, frs, rp, cr, fm, me)) else if nn c 7 2 = 1538 then ((gt, rc, A, on, ev, lm, ch, frs, rp, cr, fm, me_ld me (nn c 11 2) (fmps c) (c.getD 13 0))) else if nn c 7 2 = 1541 then (w_rep w 6 6 (me_dump c me) (gt, rc, A, on, ev, lm, ch, frs, rp, cr, fm, me)) else if nn c 7 2 = 1545 then (w_rep w 6 10 (me_chk c me) (gt, rc, A, on, ev, lm, ch, frs, rp, cr, fm, me)) else if nn c 7 2 = 2049 then (w_fun c (gt, rc, A, on, ev, lm, ch, frs, rp, cr, fm, me)) else if nn c 7 2 = 2817 then ((gt, rc, A, true, ev, lm, ch, frs, rp, cr, fm, me)) else if nn c 7 2 = 2818 then ((gt, rc, A, false, ev, lm, ch, frs, rp, cr, fm, me)) else if nn c 7 2 = 2819 then ((gt, rc, [], false, ev, lm, ch, frs, rp, cr, fm, me)) else if nn c 7 2 = 2820 then ((gt, rc, A ++ [te_new c], on, ev, lm, ch, frs, rp, cr, fm, me)) else if nn c 7 2 = 2821 then ((gt, rc, A.filter (fun e => !(en_no e == nn c 11 2 % 16384)), on, ev, lm, ch, frs, rp, cr, fm, me)) else if nn c 7 2 = 2831 then ((gt, rc, tt_shift (N32 (nn c 11 4)) A, on, ev, lm, ch, frs, rp, cr, fm, me)) else if nn c 7 2 = 2833 then (w_rep w 11 13 (tt_told (tt_sort A)) (gt, rc, A, on, ev, lm, ch, frs, rp, cr, fm, me)) else if nn c 7 2 = 3073 then ((gt, rc, A, on, ev, lm_on true (c.getD 11 0) lm, ch, frs, rp, cr, fm, me)) else if nn c 7 2 = 3074 then ((gt, rc, A, on, ev, lm_on false (c.getD 11 0) lm, ch, frs, rp, cr, fm, me)) else if nn c 7 2 = 3077 then ((gt, rc, A, on, ev, lm_add c lm, ch, frs, rp, cr, fm, me)) else if nn c 7 2 = 3078 then ((gt, rc, A, on, ev, lm_rem (c.getD 11 0) lm, ch, frs, rp, cr, fm, me)) else if nn c 7 2 = 3841 then ((gt, rc, A, on, ev, lm, ch, frs, rp_sto (c.getD 11 0) true rp, cr, fm, me)) else if nn c 7 2 = 3842 then ((gt, rc, A, on, ev, lm, ch, frs, rp_sto (c.getD 11 0) false rp, cr, fm, me)) else if nn c 7 2 = 3849 then ((gt, rc, A, on, ev, lm, ch, frs, rp_want (N32 (nn c 11 4)) (N32 (nn c 15 4)) rp, cr, fm, me)) else if nn c 7 2 = 3851 then ((gt, rc, A, on, ev, lm, ch, frs, rp_drop (N32 (nn c 11 4)) rp, cr, fm, me)) else if nn c 7 2 = 3852 then ((gt, rc, A, on, ev, lm, ch, frs, rp_stop rp, cr, fm, me)) else if nn c 7 2 = 4353 then (w_rep w 17 2 [] (gt, rc, A, on, ev, lm, ch, frs, rp, cr, fm, me)) else if nn c 7 2 = 4865 then ((gt, rc, A, on, ev_act (c.getD 11 0) ((c.drop 12).take (c.length - 14)) ev, lm, ch, frs, rp, cr, fm, me)) else if nn c 7 2 = 4866 then ((gt, rc, A, on, ev_dro (c.getD 11 0) ev, lm, ch, frs, rp, cr, fm, me)) else if nn c 7 2 = 4868 then ((gt, rc, A, on, ev_sw (c.getD 11 0) true ev, lm, ch, frs, rp, cr, fm, me)) else if nn c 7 2 = 4869 then ((gt, rc, A, on, ev_sw (c.getD 11 0) false ev, lm, ch, frs, rp, cr, fm, me)) else (gt, rc, A, on, ev, lm, ch, frs, rp, cr, fm, me) := rfl
  rw [ek]
  clear ek
  by_cases hK : nn c 7 2 = 769
  · rw [if_pos hK]
  rw [if_neg hK]
  clear hK
  by_cases hK : nn c 7 2 = 771
  · rw [if_pos hK]
  rw [if_neg hK]
  clear hK
  by_cases hK : nn c 7 2 = 773
  · rw [if_pos hK]
  rw [if_neg hK]
  clear hK
  by_cases hK : nn c 7 2 = 774
  · rw [if_pos hK]
  rw [if_neg hK]
  clear hK
  by_cases hK : nn c 7 2 = 795
  · rw [if_pos hK]
    exact one_gt _ _ _ _
  rw [if_neg hK]
  clear hK
  by_cases hK : nn c 7 2 = 1285
  · rw [if_pos hK]
  rw [if_neg hK]
  clear hK
  by_cases hK : nn c 7 2 = 1286
  · rw [if_pos hK]
  rw [if_neg hK]
  clear hK
  by_cases hK : nn c 7 2 = 1538
  · rw [if_pos hK]
  rw [if_neg hK]
  clear hK
  by_cases hK : nn c 7 2 = 1541
  · rw [if_pos hK]
    exact rep_gt _ _ _ _ _
  rw [if_neg hK]
  clear hK
  by_cases hK : nn c 7 2 = 1545
  · rw [if_pos hK]
    exact rep_gt _ _ _ _ _
  rw [if_neg hK]
  clear hK
  by_cases hK : nn c 7 2 = 2049
  · rw [if_pos hK]
    exact fun_gt _ _
  rw [if_neg hK]
  clear hK
  by_cases hK : nn c 7 2 = 2817
  · rw [if_pos hK]
  rw [if_neg hK]
  clear hK
  by_cases hK : nn c 7 2 = 2818
  · rw [if_pos hK]
  rw [if_neg hK]
  clear hK
  by_cases hK : nn c 7 2 = 2819
  · rw [if_pos hK]
  rw [if_neg hK]
  clear hK
  by_cases hK : nn c 7 2 = 2820
  · rw [if_pos hK]
  rw [if_neg hK]
  clear hK
  by_cases hK : nn c 7 2 = 2821
  · rw [if_pos hK]
  rw [if_neg hK]
  clear hK
  by_cases hK : nn c 7 2 = 2831
  · rw [if_pos hK]
  rw [if_neg hK]
  clear hK
  by_cases hK : nn c 7 2 = 2833
  · rw [if_pos hK]
    exact rep_gt _ _ _ _ _
  rw [if_neg hK]
  clear hK
  by_cases hK : nn c 7 2 = 3073
  · rw [if_pos hK]
  rw [if_neg hK]
  clear hK
  by_cases hK : nn c 7 2 = 3074
  · rw [if_pos hK]
  rw [if_neg hK]
  clear hK
  by_cases hK : nn c 7 2 = 3077
  · rw [if_pos hK]
  rw [if_neg hK]
  clear hK
  by_cases hK : nn c 7 2 = 3078
  · rw [if_pos hK]
  rw [if_neg hK]
  clear hK
  by_cases hK : nn c 7 2 = 3841
  · rw [if_pos hK]
  rw [if_neg hK]
  clear hK
  by_cases hK : nn c 7 2 = 3842
  · rw [if_pos hK]
  rw [if_neg hK]
  clear hK
  by_cases hK : nn c 7 2 = 3849
  · rw [if_pos hK]
  rw [if_neg hK]
  clear hK
  by_cases hK : nn c 7 2 = 3851
  · rw [if_pos hK]
  rw [if_neg hK]
  clear hK
  by_cases hK : nn c 7 2 = 3852
  · rw [if_pos hK]
  rw [if_neg hK]
  clear hK
  by_cases hK : nn c 7 2 = 4353
  · rw [if_pos hK]
    exact rep_gt _ _ _ _ _
  rw [if_neg hK]
  clear hK
  by_cases hK : nn c 7 2 = 4865
  · rw [if_pos hK]
  rw [if_neg hK]
  clear hK
  by_cases hK : nn c 7 2 = 4866
  · rw [if_pos hK]
  rw [if_neg hK]
  clear hK
  by_cases hK : nn c 7 2 = 4868
  · rw [if_pos hK]
  rw [if_neg hK]
  clear hK
  by_cases hK : nn c 7 2 = 4869
  · rw [if_pos hK]
  rw [if_neg hK]
theorem ack_gt (w b k : Nat) (c : List Nat) (z : sW) : (w_ack w b k c z).1 = z.1 := by
  unfold w_ack
  split
  · rfl
  · exact rep_gt _ _ _ _ _
theorem hand_gt (z : sW) : (w_hand z).1 = z.1 ∧ (w_fail z).1 = z.1 := by
  obtain ⟨gt, rc, A, on, ev, lm, ch, frs, rp, ⟨wi, mo, ck, al, hd, fa, br⟩, fm, me⟩ := z
  show gt = gt ∧ gt = gt
  exact ⟨rfl, rfl⟩
theorem handle_gt (m w : Nat) (c : List Nat) (z : sW) : (w_handle m w c z).1 = z.1 := by
  unfold w_handle
  split
  · split
    · rw [ack_gt, pf_gt, ack_gt, ack_gt, (hand_gt z).1]
    · rw [rep_gt, (hand_gt _).2, ack_gt, (hand_gt z).1]
  · rw [rep_gt, (hand_gt _).2, (hand_gt z).1]
def gq (p : List Nat) (q : List (List Nat)) (j i : Nat) : List Nat := if i < j then q.getD i [] else (p :: q).getD i []
theorem gtm_shift {S : ob_S} {M : Nat} {p : List Nat} {q : List (List Nat)} {k82 : Nat → ob_D → Option (Int32 × ob_D)} (hl : ∀ i, ((p :: q).getD i []).length ≤ 252) (hq : q.length < 8) : ∀ (d n j : Nat) (D : ob_D), j + d = q.length → d < n → mA S D M → D.1 M 26 = N32 q.length → (∀ i, i < q.length + 1 → D.1 (M + 6) i = N32 (gq p q j i).length ∧ ba D (M + 5) (260 * i) (gq p q j i)) → ∃ D', f_Model_tick_L116 S k82 n M (N32 j) D = (ob_bv (f_Model_handle S M D') fun D56 => k82 M D56) ∧ (∀ i, i < q.length → D'.1 (M + 6) i = N32 (q.getD i []).length ∧ ba D' (M + 5) (260 * i) (q.getD i [])) ∧ oi (fun y k => y = M + 5 ∨ y = M + 6) D D' := by
  intro d
  induction d with
  | zero =>
    intro n j D hj hn hA h26 hI
    match n, hn with
    | n + 1, _ =>
      refine ⟨D, ?_, fun i hi => ?_, oi.rf⟩
      · rw [f_Model_tick_L116, h26, if_pos (by rw [nb_le (by omega) (by omega)]; omega)]
      · have := hI i (by omega)
        unfold gq at this
        rw [if_pos (by omega)] at this
        exact this
  | succ d ih =>
    intro n j D hj hn hA h26 hI
    match n, hn with
    | n + 1, hn =>
      have a24 : D.2.1 M 24 = M + 5 ∧ S.2.1 (M + 5) = 2080 := hA.1 (24, 5, 2080) (by decide)
      have a25 : D.2.1 M 25 = M + 6 ∧ S.2.1 (M + 6) = 8 := hA.1 (25, 6, 8) (by decide)
      have e1 : N32 j + (1 : Int32) = N32 (j + 1) := nb_add _ 1
      have e2 : (260 : Int32) * N32 (j + 1) = N32 (260 * (j + 1)) := nb_mul 260 _
      have e3 : (260 : Int32) * N32 j = N32 (260 * j) := nb_mul 260 _
      have hI1 := hI (j + 1) (by omega)
      have eg : gq p q j (j + 1) = q.getD j [] := by
        unfold gq
        rw [if_neg (by omega)]
        rfl
      rw [eg] at hI1
      have hlj : (q.getD j []).length ≤ 252 := hl (j + 1)
      have v6 : D.1 (M + 6) (N32 (j + 1)).toNatClampNeg = N32 (q.getD j []).length := by
        rw [nb_clamp (by omega)]
        exact hI1.1
      have cj : (N32 j).toNatClampNeg = j := nb_clamp (by omega)
      have g1 : oi (fun y k => y = M + 6 ∧ k = j) D (ob_pI D (M + 6) j (N32 (q.getD j []).length)) := oi.pI ⟨rfl, rfl⟩
      generalize hD1 : ob_pI D (M + 6) j (N32 (q.getD j []).length) = D1 at g1
      have w6 : D1.1 (M + 6) j = N32 (q.getD j []).length := by
        rw [← hD1]
        exact pI_self
      have w6c : D1.1 (M + 6) (N32 j).toNatClampNeg = N32 (q.getD j []).length := by
        rw [cj]
        exact w6
      have g2 : oi (fun y k => y = M + 5 ∧ 260 * j ≤ k ∧ k < 260 * j + (q.getD j []).length) D1 (ob_cp D1 (M + 5) (M + 5) (260 * (j + 1)) (260 * j) (q.getD j []).length) := oi.cp (fun k k1 k2 => ⟨rfl, k1, k2⟩)
      have hbs : ba D1 (M + 5) (260 * (j + 1)) (q.getD j []) := hI1.2.keep g1.up (by omega)
      have hbd : ba (ob_cp D1 (M + 5) (M + 5) (260 * (j + 1)) (260 * j) (q.getD j []).length) (M + 5) (260 * j) (q.getD j []) := by
        refine ⟨fun i hi => ?_, hbs.2⟩
        rw [cp_at (by omega) (by omega), show 260 * (j + 1) + (260 * j + i - 260 * j) = 260 * (j + 1) + i by omega]
        exact hbs.1 i hi
      have hst : f_Model_tick_L116 S k82 (n + 1) M (N32 j) D = f_Model_tick_L116 S k82 n M (N32 (j + 1)) (ob_cp D1 (M + 5) (M + 5) (260 * (j + 1)) (260 * j) (q.getD j []).length) := by
        have r24 : D1.2.1 M 24 = M + 5 := by rw [g1.1]; exact a24.1
        have r25 : D1.2.1 M 25 = M + 6 := by rw [g1.1]; exact a25.1
        rw [f_Model_tick_L116, h26, if_neg (by rw [nb_le (by omega) (by omega)]; omega), a25.1, if_pos (by omega), if_pos (by omega), a25.2, e1, if_pos (by rw [nb_in (by omega)]; omega), if_pos (by rw [nb_in (by omega)]; omega), v6]
        simp only [ob_lt]
        rw [show ob_pI D (M + 6) (N32 j).toNatClampNeg (N32 (q.getD j []).length) = D1 by rw [cj]; exact hD1, r24, r25, if_pos (by omega), if_pos (by omega), if_pos (by omega), a25.2, if_pos (by rw [nb_in (by omega)]; omega), w6c, a24.2, e2, e3, if_pos (cg_n (by omega) (by omega) (by omega) (by omega) (by omega)), nb_clamp (by omega), nb_clamp (by omega), nb_clamp (by omega)]
      generalize hD2 : ob_cp D1 (M + 5) (M + 5) (260 * (j + 1)) (260 * j) (q.getD j []).length = D2 at g2 hbd hst
      have gA : oi (fun y k => y = M + 5 ∨ y = M + 6) D D2 := g1.tr2 g2 (fun y k e => by omega) (fun y k e => by omega)
      obtain ⟨D', t1, t2, t3⟩ := ih n (j + 1) D2 (by omega) (by omega) (hA.kp gA) (by rw [gA.2 _ _ (by omega)]; exact h26) (fun i hi => by
        by_cases hij : i = j
        · subst hij
          have : gq p q (i + 1) i = q.getD i [] := by
            unfold gq
            rw [if_pos (by omega)]
          rw [this]
          exact ⟨by rw [g2.2 _ _ (by omega)]; exact w6, hbd⟩
        · have : gq p q (j + 1) i = gq p q j i := by
            unfold gq
            by_cases hc : i < j
            · rw [if_pos (by omega), if_pos hc]
            · rw [if_neg (by omega), if_neg hc]
          rw [this]
          have hh := hI i hi
          have hgl : (gq p q j i).length ≤ 252 := by
            unfold gq
            split
            · exact hl (i + 1)
            · exact hl i
          refine ⟨by rw [g2.2 _ _ (by omega), g1.2 _ _ (by omega)]; exact hh.1, (hh.2.keep g1.up (by omega)).keep g2.up (fun k k1 k2 => by omega)⟩)
      exact ⟨D', by rw [hst]; exact t1, t2, gA.tr t3⟩
theorem gtm_stop {S : ob_S} {D : ob_D} {M : Nat} {z : sGt} (hz : mGt S D M z) (f : ob_D → Option (Int32 × ob_D)) : ∃ D', (if (ob_pI D M 22 (0 : Int32)).1 M 19 = (2 : Int32) then f (ob_pI (ob_pI D M 22 (0 : Int32)) M 19 (1 : Int32)) else f (ob_pI D M 22 (0 : Int32))) = f D' ∧ mGt S D' M (gt_stop z) ∧ oi (fun y k => y = M ∧ (k = 19 ∨ k = 22)) D D' := by
  obtain ⟨st, nx, bs, wt, ag, rf, ac, q⟩ := z
  obtain ⟨hq, f3, fs, f4, fn, f7, fb, f5, f6, f8, f9⟩ := hz
  have g1 : oi (fun y k => y = M ∧ k = 22) D (ob_pI D M 22 (0 : Int32)) := oi.pI ⟨rfl, rfl⟩
  have e19 : (ob_pI D M 22 (0 : Int32)).1 M 19 = N32 st := by rw [pI_ne (by omega)]; exact f3
  by_cases h2 : st = 2
  · have g2 : oi (fun y k => y = M ∧ (k = 19 ∨ k = 22)) D (ob_pI (ob_pI D M 22 (0 : Int32)) M 19 (1 : Int32)) := (g1.mono (fun y k e => by omega)).tr (oi.pI ⟨rfl, Or.inl rfl⟩)
    refine ⟨_, by rw [e19, if_pos (by rw [h2]; rfl)], ?_, g2⟩
    show mGtQ S _ M q ∧ mGtF _ M (if st = 2 then 1 else st) nx bs false ag rf ac
    rw [if_pos h2]
    exact ⟨hq.keep g2.up (by omega) (by omega) (fun _ _ _ => rfl), pI_self, by omega, by rw [g2.2 _ _ (by omega)]; exact f4, fn, by rw [g2.2 _ _ (by omega)]; exact f7, fb, by rw [pI_ne (by omega), pI_self]; rfl, by rw [g2.2 _ _ (by omega)]; exact f6, by rw [g2.2 _ _ (by omega)]; exact f8, by rw [g2.2 _ _ (by omega)]; exact f9⟩
  · have g2 : oi (fun y k => y = M ∧ (k = 19 ∨ k = 22)) D (ob_pI D M 22 (0 : Int32)) := g1.mono (fun y k e => by omega)
    refine ⟨_, by rw [e19, if_neg (by rw [show (2 : Int32) = N32 2 from rfl, nb_eq (by omega) (by decide)]; exact h2)], ?_, g2⟩
    show mGtQ S _ M q ∧ mGtF _ M (if st = 2 then 1 else st) nx bs false ag rf ac
    rw [if_neg h2]
    exact ⟨hq.keep g2.up (by omega) (by omega) (fun _ _ _ => rfl), by rw [pI_ne (by omega)]; exact f3, fs, by rw [g2.2 _ _ (by omega)]; exact f4, fn, by rw [g2.2 _ _ (by omega)]; exact f7, fb, by rw [pI_self]; rfl, by rw [g2.2 _ _ (by omega)]; exact f6, by rw [g2.2 _ _ (by omega)]; exact f8, by rw [g2.2 _ _ (by omega)]; exact f9⟩

theorem j_handle2 {S : ob_S} {Dc Dm : ob_D} {B M m fr F w pt : Nat} {z : sW} {c : List Nat} (hc : cX S Dc B m fr F w pt z c) (hm : mX S Dm M m fr F w pt z c) : ∃ Dc' Dm' z', f_Handler_handle S (B + 29 + 2 * m + 80 + 2 * fr + 9) Dc = some Dc' ∧ f_Model_handle S M Dm = some Dm' ∧ cX S Dc' B m fr F w pt z' c ∧ mX S Dm' M m fr F w pt z' c ∧ (w_ck z' = w_ck z ∧ z'.1 = z.1) ∧ og (cReg B m fr) Dc Dc' ∧ oi (mReg M) Dm Dm' := by
  have hl := cY.len ⟨c, hc⟩
  obtain ⟨Dc', t1, t2, t3⟩ := wc_handle hc hm.1.me.2
  obtain ⟨Dm', s1, s2, s3⟩ := wm_handle hm hl.2 hl.1
  exact ⟨Dc', Dm', w_handle m w c z, t1, s1, t2, s2, ⟨(handle_nd m w c z).2, handle_gt m w c z⟩, t3, s3⟩
theorem j_queue {S : ob_S} {B M m fr F w pt : Nat} : ∀ (d n1 n2 j : Nat) (Dc Dm : ob_D) (z : sW), z.1.2.2.2.2.2.2.2.length = d → j + d ≤ 8 → d < n1 → d < n2 → cY S Dc B m fr F w pt z → mY S Dm M m fr F w pt z → ∃ Dc' Dm' z', f_Handler_handleQueue_L2 S n1 (B + 29 + 2 * m + 80 + 2 * fr + 9) (N32 j) Dc = some Dc' ∧ f_Model_tick_L82 S n2 M Dm = f_Model_tick_L200 S ob_FU M 0 Dm' ∧ cY S Dc' B m fr F w pt z' ∧ mY S Dm' M m fr F w pt z' ∧ w_ck z' = w_ck z ∧ og (cReg B m fr) Dc Dc' ∧ oi (mReg M) Dm Dm' := by
  intro d
  induction d with
  | zero =>
    intro n1 n2 j Dc Dm z hd hj hn1 hn2 hc hm
    match n1, n2, hn1, hn2 with
    | n1 + 1, n2 + 1, _, _ =>
      obtain ⟨c, hm⟩ := hm
      obtain ⟨c', hc⟩ := hc
      obtain ⟨⟨st, nx, bs, wt, ag, rf, ac, q⟩, rc, A, on, ev, lm, ch, frs, rp, cr, fm, me⟩ := z
      have hq0 : q = [] := List.eq_nil_of_length_eq_zero hd
      subst hq0
      have hgc : cGt S Dc (B + 8) (st, nx, bs, wt, ag, rf, ac, []) := hc.1.1
      have hgm : mGt S Dm M (st, nx, bs, wt, ag, rf, ac, []) := hm.1.2.1
      have hH := hc.1.hd
      obtain ⟨Dc', t1, t2, t3⟩ := gtc_stop hgc
      obtain ⟨Dm', s1, s2, s3⟩ := gtm_stop hgm (fun D => f_Model_tick_L200 S ob_FU M 0 D)
      have h26 : Dm.1 M 26 = N32 0 := hgm.1.2.2.2.2.1
      refine ⟨Dc', Dm', (gt_stop (st, nx, bs, wt, ag, rf, ac, []), rc, A, on, ev, lm, ch, frs, rp, cr, fm, me), ?_, ?_, ⟨c', (cW.keepX hc (hc.1.uGt (t3.mono (fun y k e => by unfold rgn at e; omega)) t2) t3 (by unfold rgn; omega) (by unfold rgn; omega) (by unfold rgn; omega) (by unfold rgn; omega) (fun y k e => by unfold rgn at e; omega)).1⟩, ?_, rfl, t3.mono (fun y k e => by unfold rgn at e; omega), s3.mono (fun y k e => by omega)⟩
      · rw [f_Handler_handleQueue_L2]
        by_cases h8 : j = 8
        · rw [if_pos (by rw [h8]; decide), hH.2.1, if_pos (by omega), t1]
          rfl
        · rw [if_neg (by rw [show (8 : Int32) = N32 8 from rfl, nb_le (by omega) (by omega)]; omega), hH.2.1, if_pos (by omega), hH.2.2.2.2.2.2.2.2.1, if_pos (by omega), gtc_take0 hgc]
          simp only [ob_bd]
          rw [if_pos trivial, hH.2.1, if_pos (by omega), t1]
          rfl
      · rw [f_Model_tick_L82, h26, if_pos (by decide)]
        simp only [ob_lt]
        exact s1
      · exact ⟨c, hm.1.uGt (s3.mono (fun y k e => by omega)) s2, hm.2.1.imp (fun p hp => hp.keep s3.up (by omega) (by omega)), hm.2.2.keep s3.up (by omega) (by omega)⟩
  | succ d ih =>
    intro n1 n2 j Dc Dm z hd hj hn1 hn2 hc hm
    match n1, n2, hn1, hn2 with
    | n1 + 1, n2 + 1, hn1, hn2 =>
      obtain ⟨c, hm⟩ := hm
      obtain ⟨c', hc⟩ := hc
      obtain ⟨⟨st, nx, bs, wt, ag, rf, ac, q⟩, rc, A, on, ev, lm, ch, frs, rp, cr, fm, me⟩ := z
      have hd : q.length = d + 1 := hd
      rcases q with _ | ⟨p, q⟩
      · exact absurd hd (by simp)
      have hd' : q.length = d := by simpa using hd
      have hgc : cGt S Dc (B + 8) (st, nx, bs, wt, ag, rf, ac, p :: q) := hc.1.1
      have hgm : mGt S Dm M (st, nx, bs, wt, ag, rf, ac, p :: q) := hm.1.2.1
      have hA : mA S Dm M := hm.1.1
      have hH := hc.1.hd
      have e1 : N32 j + (1 : Int32) = N32 (j + 1) := nb_add _ 1
      obtain ⟨Dc1, t1, t2, t3, t4⟩ := gtc_take hgc hc.2.2 ⟨by omega, by omega⟩ (by decide)
      have hc1 : cX S Dc1 B m fr F w pt ((st, nx, bs, wt, ag, rf, ac, q), rc, A, on, ev, lm, ch, frs, rp, cr, fm, me) p := ⟨hc.1.uGtC (t4.mono (fun y k e => by omega)) t2, hc.2.1.imp (fun p hp => hp.keep t4 (by omega) (by omega) rfl), t3⟩
      -- the reference
      obtain ⟨⟨q24, q25, qs5, qs6, q26, q8, qI⟩, hF⟩ := hgm
      have q26 : Dm.1 M 26 = N32 (q.length + 1) := q26
      have q8 : q.length + 1 ≤ 8 := q8
      have qI : ∀ i, i < q.length + 1 → Dm.1 (M + 6) i = N32 ((p :: q).getD i []).length ∧ ((p :: q).getD i []).length ≤ 252 ∧ ba Dm (M + 5) (260 * i) ((p :: q).getD i []) := qI
      have hl : ∀ i, ((p :: q).getD i []).length ≤ 252 := by
        intro i
        by_cases hi : i < q.length + 1
        · exact (qI i hi).2.1
        · have : (p :: q).getD i [] = [] := by
            rw [List.getD_eq_getElem?_getD, List.getElem?_eq_none (by simp; omega)]
            rfl
          rw [this]
          exact Nat.zero_le _
      have q0 := qI 0 (by omega)
      have q01 : Dm.1 (M + 6) 0 = N32 p.length := q0.1
      have q02 : p.length ≤ 252 := q0.2.1
      have q03 : ba Dm (M + 5) 0 p := q0.2.2
      obtain ⟨Dm1, s1, s2, s3⟩ := mcm_take (o := 0) hA q03 (by rw [qs5]; omega) (by rw [qs5]; omega) q02 (by omega)
      have s1 : f_Model_take S M (M + 5) 0 (N32 p.length) Dm = some Dm1 := s1
      have g2 : oi (fun y k => y = M ∧ k = 26) Dm1 (ob_pI Dm1 M 26 (Dm1.1 M 26 - 1)) := oi.pI ⟨rfl, rfl⟩
      have v26 : (ob_pI Dm1 M 26 (Dm1.1 M 26 - 1)).1 M 26 = N32 q.length := by
        rw [pI_self, s3.2 _ _ (by omega), q26]
        exact nb_sub (a := q.length + 1) (b := 1) (by omega)
      generalize hD2 : ob_pI Dm1 M 26 (Dm1.1 M 26 - 1) = Dm2 at g2 v26
      have gA : oi (fun y k => (y = M ∧ (k = 28 ∨ k = 26)) ∨ y = M + 7) Dm Dm2 := s3.tr2 g2 (fun y k e => by omega) (fun y k e => by omega)
      obtain ⟨Dm3, r1, r2, r3⟩ := gtm_shift (S := S) (M := M) (p := p) (q := q) (k82 := fun a0 d => f_Model_tick_L82 S n2 a0 d) hl (by omega) q.length ob_FU 0 Dm2 (by omega) (by rw [ob_FU_eq]; omega) (hA.kp gA) v26 (fun i hi => by
        have hh := qI i hi
        have : gq p q 0 i = (p :: q).getD i [] := by
          unfold gq
          rw [if_neg (by omega)]
        rw [this]
        exact ⟨by rw [gA.2 _ _ (by omega)]; exact hh.1, hh.2.2.keep gA.up (by omega)⟩)
      have r1 : f_Model_tick_L116 S (fun a0 d => f_Model_tick_L82 S n2 a0 d) ob_FU M 0 Dm2 = ob_bv (f_Model_handle S M Dm3) fun D56 => f_Model_tick_L82 S n2 M D56 := r1
      have hgm3 : mGt S Dm3 M (st, nx, bs, wt, ag, rf, ac, q) := by
        refine ⟨⟨by rw [r3.1, gA.1]; exact q24, by rw [r3.1, gA.1]; exact q25, qs5, qs6, by rw [r3.2 _ _ (by omega)]; exact v26, by omega, fun i hi => ⟨(r2 i hi).1, hl (i + 1), (r2 i hi).2⟩⟩, ?_⟩
        exact (hF.keep gA.up (by omega)).keep r3.up (by omega)
      have hm1 := hm.1.u0 (s3.mono (fun y k e => by omega))
      have g3 : oi (fun y k => (y = M ∧ k = 26) ∨ y = M + 5 ∨ y = M + 6) Dm1 Dm3 := g2.tr2 r3 (fun y k e => by omega) (fun y k e => by omega)
      have hm3 : mX S Dm3 M m fr F w pt ((st, nx, bs, wt, ag, rf, ac, q), rc, A, on, ev, lm, ch, frs, rp, cr, fm, me) p := ⟨hm1.uGt (g3.mono (fun y k e => by omega)) hgm3, hm.2.1.imp (fun p hp => (hp.keep s3.up (by omega) (by omega)).keep g3.up (by omega) (by omega)), s2.keep g3.up (by omega) (by omega)⟩
      obtain ⟨Dc2, Dm4, z2, u1, u2, u3, u4, u5, u6, u7⟩ := j_handle2 hc1 hm3
      obtain ⟨Dc', Dm', z', y1, y2, y3, y4, y5, y6, y7⟩ := ih n1 n2 (j + 1) Dc2 Dm4 z2 (by rw [u5.2]; exact hd') (by omega) (by omega) (by omega) ⟨_, u3⟩ ⟨_, u4⟩
      refine ⟨Dc', Dm', z', ?_, ?_, y3, y4, by rw [y5, u5.1]; rfl, ((t4.mono (fun y k e => by omega)).tr u6).tr y6, (((gA.mono (fun y k e => by omega)).tr (r3.mono (fun y k e => by omega))).tr u7).tr y7⟩
      · rw [f_Handler_handleQueue_L2, if_neg (by rw [show (8 : Int32) = N32 8 from rfl, nb_le (by omega) (by omega)]; omega), hH.2.1, if_pos (by omega), hH.2.2.2.2.2.2.2.2.1, if_pos (by omega), t1]
        simp only [ob_bd]
        rw [if_neg (by decide), u1]
        simp only [ob_bv]
        rw [e1]
        exact y1
      · have v6 : Dm.1 (M + 6) (0 : Int32).toNatClampNeg = N32 p.length := q01
        rw [f_Model_tick_L82, q26, if_neg (by rw [show (0 : Int32) = N32 0 from rfl, nb_le (by omega) (by omega)]; omega), q24, if_pos (by omega), q25, if_pos (by omega), qs6, if_pos (by decide), v6, s1]
        simp only [ob_bv, ob_lt]
        rw [hD2, r1, u2]
        simp only [ob_bv]
        exact y2
