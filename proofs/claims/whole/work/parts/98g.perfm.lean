-- ===== what a command does, in the reference =====
theorem wm_perform {S : ob_S} {D : ob_D} {M m fr F w pt : Nat} {z : sW} {c : List Nat} (h0 : mX S D M m fr F w pt z c) (hfo : fo c = 0) (hh : hf m c z = 0) (hm : m ≤ 64) : ∃ D', f_Model_act S M (N32 (c.getD 7 0)) (N32 (c.getD 8 0)) D = some D' ∧ mX S D' M m fr F w pt (pf w c z) c ∧ oi (mReg M) D D' := by
  obtain ⟨gt, rc, A, on, ev, lm, ch, frs, rp, cr, fm, me⟩ := z
  have hW := h0.1
  have hc := h0.2.2
  have hA := hW.mA
  have hfm := hW.2.2.2.2.2.2.2.2.2.2.1
  have hlm := hW.2.2.2.2.2.1
  have hev := hW.2.2.2.2.1
  have htt := hW.2.2.2.1
  have hcr := hW.2.2.2.2.2.2.2.2.2.1
  have hrp := hW.2.2.2.2.2.2.2.2.1
  have hme := hW.2.2.2.2.2.2.2.2.2.2.2.1
  have hcl := hc.2.1
  have hb := hc.2.2.2
  have b11 := by_getD_lt hb 11
  have b7 := by_getD_lt hb 7
  have b8 := by_getD_lt hb 8
  have b72 := nn_lt hb 7 2
  have e72 : nn c 7 2 = c.getD 7 0 * 256 + c.getD 8 0 := nn_2 c 7
  have ek : pf w c (gt, rc, A, on, ev, lm, ch, frs, rp, cr, fm, me) = if nn c 7 2 = 769 then ((gt, rc, A, on, ev, lm, ch, frs, rp, cr, fm_add c fm, me)) else if nn c 7 2 = 771 then ((gt, rc, A, on, ev, lm, ch, frs, rp, cr, fm_rem (c.getD 11 0) fm, me)) else if nn c 7 2 = 773 then ((gt, rc, A, on, ev, lm, ch, frs, rp, cr, fm_on true (c.getD 11 0) fm, me)) else if nn c 7 2 = 774 then ((gt, rc, A, on, ev, lm, ch, frs, rp, cr, fm_on false (c.getD 11 0) fm, me)) else if nn c 7 2 = 795 then (pf_one w (c.getD 11 0) fm (gt, rc, A, on, ev, lm, ch, frs, rp, cr, fm, me)) else if nn c 7 2 = 1285 then ((gt, rc, A, on, ev_sil (c.getD 11 0) false ev, lm, ch, frs, rp, cr, fm, me)) else if nn c 7 2 = 1286 then ((gt, rc, A, on, ev_sil (c.getD 11 0) true ev, lm, ch, frs, rp, cr, fm, me)) else if nn c 7 2 = 1538 then ((gt, rc, A, on, ev, lm, ch, frs, rp, cr, fm, me_ld me (nn c 11 2) (fmps c) (c.getD 13 0))) else if nn c 7 2 = 1541 then (w_rep w 6 6 (me_dump c me) (gt, rc, A, on, ev, lm, ch, frs, rp, cr, fm, me)) else if nn c 7 2 = 1545 then (w_rep w 6 10 (me_chk c me) (gt, rc, A, on, ev, lm, ch, frs, rp, cr, fm, me)) else if nn c 7 2 = 2049 then (w_fun c (gt, rc, A, on, ev, lm, ch, frs, rp, cr, fm, me)) else if nn c 7 2 = 2817 then ((gt, rc, A, true, ev, lm, ch, frs, rp, cr, fm, me)) else if nn c 7 2 = 2818 then ((gt, rc, A, false, ev, lm, ch, frs, rp, cr, fm, me)) else if nn c 7 2 = 2819 then ((gt, rc, [], false, ev, lm, ch, frs, rp, cr, fm, me)) else if nn c 7 2 = 2820 then ((gt, rc, A ++ [te_new c], on, ev, lm, ch, frs, rp, cr, fm, me)) else if nn c 7 2 = 2821 then ((gt, rc, A.filter (fun e => !(en_no e == nn c 11 2 % 16384)), on, ev, lm, ch, frs, rp, cr, fm, me)) else if nn c 7 2 = 2831 then ((gt, rc, tt_shift (N32 (nn c 11 4)) A, on, ev, lm, ch, frs, rp, cr, fm, me)) else if nn c 7 2 = 2833 then (w_rep w 11 13 (tt_told (tt_sort A)) (gt, rc, A, on, ev, lm, ch, frs, rp, cr, fm, me)) else if nn c 7 2 = 3073 then ((gt, rc, A, on, ev, lm_on true (c.getD 11 0) lm, ch, frs, rp, cr, fm, me)) else if nn c 7 2 = 3074 then ((gt, rc, A, on, ev, lm_on false (c.getD 11 0) lm, ch, frs, rp, cr, fm, me)) else if nn c 7 2 = 3077 then ((gt, rc, A, on, ev, lm_add c lm, ch, frs, rp, cr, fm, me)) else if nn c 7 2 = 3078 then ((gt, rc, A, on, ev, lm_rem (c.getD 11 0) lm, ch, frs, rp, cr, fm, me)) else if nn c 7 2 = 3841 then ((gt, rc, A, on, ev, lm, ch, frs, rp_sto (c.getD 11 0) true rp, cr, fm, me)) else if nn c 7 2 = 3842 then ((gt, rc, A, on, ev, lm, ch, frs, rp_sto (c.getD 11 0) false rp, cr, fm, me)) else if nn c 7 2 = 3849 then ((gt, rc, A, on, ev, lm, ch, frs, rp_want (N32 (nn c 11 4)) (N32 (nn c 15 4)) rp, cr, fm, me)) else if nn c 7 2 = 3851 then ((gt, rc, A, on, ev, lm, ch, frs, rp_drop (N32 (nn c 11 4)) rp, cr, fm, me)) else if nn c 7 2 = 3852 then ((gt, rc, A, on, ev, lm, ch, frs, rp_stop rp, cr, fm, me)) else if nn c 7 2 = 4353 then (w_rep w 17 2 [] (gt, rc, A, on, ev, lm, ch, frs, rp, cr, fm, me)) else if nn c 7 2 = 4865 then ((gt, rc, A, on, ev_act (c.getD 11 0) ((c.drop 12).take (c.length - 14)) ev, lm, ch, frs, rp, cr, fm, me)) else if nn c 7 2 = 4866 then ((gt, rc, A, on, ev_dro (c.getD 11 0) ev, lm, ch, frs, rp, cr, fm, me)) else if nn c 7 2 = 4868 then ((gt, rc, A, on, ev_sw (c.getD 11 0) true ev, lm, ch, frs, rp, cr, fm, me)) else if nn c 7 2 = 4869 then ((gt, rc, A, on, ev_sw (c.getD 11 0) false ev, lm, ch, frs, rp, cr, fm, me)) else (gt, rc, A, on, ev, lm, ch, frs, rp, cr, fm, me) := rfl
  rw [ek]
  clear ek
  have hh : (if nn c 7 2 = 769 then (nf_v c fm) else if nn c 7 2 = 771 then (lf_v 14 true (fun f : sFm => f.1) (fun f : sFm => f.2.1) (c.getD 11 0) fm) else if nn c 7 2 = 773 then (lf_v 14 false (fun f : sFm => f.1) (fun f : sFm => f.2.1) (c.getD 11 0) fm) else if nn c 7 2 = 774 then (lf_v 14 false (fun f : sFm => f.1) (fun f : sFm => f.2.1) (c.getD 11 0) fm) else if nn c 7 2 = 795 then (lf_v 14 false (fun f : sFm => f.1) (fun f : sFm => f.2.1) (c.getD 11 0) fm) else if nn c 7 2 = 1285 then (if c.getD 11 0 < 32 then 0 else 16) else if nn c 7 2 = 1286 then (if c.getD 11 0 < 32 then 0 else 16) else if nn c 7 2 = 1538 then (pm_v (c.getD 13 0) (nn c 11 2)) else if nn c 7 2 = 1541 then (pm_v (c.getD 13 0) (nn c 11 2)) else if nn c 7 2 = 1545 then (pm_v (nn c 13 2) (nn c 11 2)) else if nn c 7 2 = 2049 then (ff_v (c.getD 11 0) (c.getD 12 0) cr.2.1) else if nn c 7 2 = 2820 then (te_v c A.length m cr.2.2.1) else if nn c 7 2 = 2821 then (te_has c A) else if nn c 7 2 = 2831 then (te_can c cr.2.2.1 A) else if nn c 7 2 = 3073 then (lf_v 27 false (fun f : sLm => f.1) (fun f : sLm => f.2.1) (c.getD 11 0) lm) else if nn c 7 2 = 3074 then (lf_v 27 false (fun f : sLm => f.1) (fun f : sLm => f.2.1) (c.getD 11 0) lm) else if nn c 7 2 = 3077 then (nl_v c lm) else if nn c 7 2 = 3078 then (lf_v 27 true (fun f : sLm => f.1) (fun f : sLm => f.2.1) (c.getD 11 0) lm) else if nn c 7 2 = 3841 then (if c.getD 11 0 < 32 then 0 else 32) else if nn c 7 2 = 3842 then (if c.getD 11 0 < 32 then 0 else 32) else if nn c 7 2 = 3849 then (if rp.2.2.2.2.2.1 = true then 28 else 0) else if nn c 7 2 = 3852 then (if rp.2.2.2.2.2.1 = true then 0 else 28) else if nn c 7 2 = 4865 then (na_v c ev) else if nn c 7 2 = 4866 then (af_v true c ev) else if nn c 7 2 = 4868 then (af_v false c ev) else if nn c 7 2 = 4869 then (af_v false c ev) else 0) = 0 := hh
  unfold f_Model_act
  by_cases hK769 : nn c 7 2 = 769
  · rw [if_pos hK769, show c.getD 7 0 = 3 by omega, show c.getD 8 0 = 1 by omega, if_pos (show N32 3 = (3 : Int32) by decide)]
    rw [if_pos hK769] at hh
    obtain ⟨D', t1, t2, t3⟩ := wm_addform hA hc hfm (kl_769 hfo hcl hK769) hh
    have t1 : f_Model_actForm S M (N32 1) D = some D' := t1
    rw [t1]
    exact ⟨D', rfl, mReg_u0 h0 (hW.uFm (t3.mono (fun y k e => by omega)) t2) t3 (by omega) (by omega) (by omega) (by omega) (fun y k e => by omega)⟩
  rw [if_neg hK769]
  rw [if_neg hK769] at hh
  by_cases hK771 : nn c 7 2 = 771
  · rw [if_pos hK771, show c.getD 7 0 = 3 by omega, show c.getD 8 0 = 3 by omega, if_pos (show N32 3 = (3 : Int32) by decide)]
    rw [if_pos hK771] at hh
    have hl := kl_771 hfo hcl hK771
    obtain ⟨i, hi, hfi, hki, -⟩ := lf_0 (by decide) hh
    obtain ⟨D', t1, t2, t3⟩ := wm_remform hA hc hfm (by omega) hfi
    have t1 : f_Model_actForm S M (N32 3) D = some D' := t1
    rw [t1]
    exact ⟨D', rfl, mReg_u0 h0 (hW.uFm (t3.mono (fun y k e => by omega)) t2) t3 (by omega) (by omega) (by omega) (by omega) (fun y k e => by omega)⟩
  rw [if_neg hK771]
  rw [if_neg hK771] at hh
  by_cases hK773 : nn c 7 2 = 773
  · rw [if_pos hK773, show c.getD 7 0 = 3 by omega, show c.getD 8 0 = 5 by omega, if_pos (show N32 3 = (3 : Int32) by decide)]
    rw [if_pos hK773] at hh
    have hl := kl_773 hfo hcl hK773
    obtain ⟨i, hi, hfi, hki, -⟩ := lf_0 (by decide) hh
    obtain ⟨D', t1, t2, t3⟩ := wm_onform hA hc hfm (by omega) hfi true
    have t1 : f_Model_actForm S M (N32 5) D = some D' := t1
    rw [t1]
    exact ⟨D', rfl, mReg_u0 h0 (hW.uFm (t3.mono (fun y k e => by omega)) t2) t3 (by omega) (by omega) (by omega) (by omega) (fun y k e => by omega)⟩
  rw [if_neg hK773]
  rw [if_neg hK773] at hh
  by_cases hK774 : nn c 7 2 = 774
  · rw [if_pos hK774, show c.getD 7 0 = 3 by omega, show c.getD 8 0 = 6 by omega, if_pos (show N32 3 = (3 : Int32) by decide)]
    rw [if_pos hK774] at hh
    have hl := kl_774 hfo hcl hK774
    obtain ⟨i, hi, hfi, hki, -⟩ := lf_0 (by decide) hh
    obtain ⟨D', t1, t2, t3⟩ := wm_onform hA hc hfm (by omega) hfi false
    have t1 : f_Model_actForm S M (N32 6) D = some D' := t1
    rw [t1]
    exact ⟨D', rfl, mReg_u0 h0 (hW.uFm (t3.mono (fun y k e => by omega)) t2) t3 (by omega) (by omega) (by omega) (by omega) (fun y k e => by omega)⟩
  rw [if_neg hK774]
  rw [if_neg hK774] at hh
  by_cases hK795 : nn c 7 2 = 795
  · rw [if_pos hK795, show c.getD 7 0 = 3 by omega, show c.getD 8 0 = 27 by omega, if_pos (show N32 3 = (3 : Int32) by decide)]
    rw [if_pos hK795] at hh
    have hl := kl_795 hfo hcl hK795
    obtain ⟨i, hi, hfi, hki, -⟩ := lf_0 (by decide) hh
    obtain ⟨D', t1, t2, t3⟩ := wm_sendform (f := fm[i]) h0 (List.getElem_mem hi)
    have hki : fm[i].1 = c.getD 11 0 := hki
    rw [hki] at t1
    have e : f_Model_actForm S M (N32 27) D = some D' := by
      unfold f_Model_actForm
      rw [wm_d0 hA hc (by omega)]
      simp only [ob_bd]
      rw [if_neg (by decide), if_neg (by decide), if_pos (by decide), t1]
      rfl
    rw [e, pf_one_eq hfi hi]
    exact ⟨D', rfl, t2, t3⟩
  rw [if_neg hK795]
  rw [if_neg hK795] at hh
  by_cases hK1285 : nn c 7 2 = 1285
  · rw [if_pos hK1285, show c.getD 7 0 = 5 by omega, show c.getD 8 0 = 5 by omega, if_neg (show ¬ N32 5 = (3 : Int32) by decide), if_pos (show N32 5 = (5 : Int32) by decide)]
    rw [if_pos hK1285] at hh
    have hl := kl_1285 hfo hcl hK1285
    have he : c.getD 11 0 < 32 := by
      by_cases e : c.getD 11 0 < 32
      · exact e
      · rw [if_neg e] at hh; exact absurd hh (by decide)
    have a60 : D.2.1 M 60 = M + 28 ∧ S.2.1 (M + 28) = 32 := hA.1 (60, 28, 32) (by decide)
    have t := wm_sil (e := c.getD 11 0) hev false
    rw [a60.1, if_pos (by omega), wm_d0 hA hc (by omega)]
    simp only [ob_bd]
    rw [if_pos (by decide), a60.2, if_pos (by rw [nb_in (by omega)]; exact he), bI_and1, nb_clamp (by omega)]
    exact ⟨ob_pI D (M + 28) (c.getD 11 0) (bI true), rfl, mReg_u0 h0 (hW.uEv (t.2.mono (fun y k e => by omega)) t.1) t.2 (by omega) (by omega) (by omega) (by omega) (fun y k e => by omega)⟩
  rw [if_neg hK1285]
  rw [if_neg hK1285] at hh
  by_cases hK1286 : nn c 7 2 = 1286
  · rw [if_pos hK1286, show c.getD 7 0 = 5 by omega, show c.getD 8 0 = 6 by omega, if_neg (show ¬ N32 5 = (3 : Int32) by decide), if_pos (show N32 5 = (5 : Int32) by decide)]
    rw [if_pos hK1286] at hh
    have hl := kl_1286 hfo hcl hK1286
    have he : c.getD 11 0 < 32 := by
      by_cases e : c.getD 11 0 < 32
      · exact e
      · rw [if_neg e] at hh; exact absurd hh (by decide)
    have a60 : D.2.1 M 60 = M + 28 ∧ S.2.1 (M + 28) = 32 := hA.1 (60, 28, 32) (by decide)
    have t := wm_sil (e := c.getD 11 0) hev true
    rw [a60.1, if_pos (by omega), wm_d0 hA hc (by omega)]
    simp only [ob_bd]
    rw [if_neg (by decide), a60.2, if_pos (by rw [nb_in (by omega)]; exact he), bI_and0, nb_clamp (by omega)]
    exact ⟨ob_pI D (M + 28) (c.getD 11 0) (bI false), rfl, mReg_u0 h0 (hW.uEv (t.2.mono (fun y k e => by omega)) t.1) t.2 (by omega) (by omega) (by omega) (by omega) (fun y k e => by omega)⟩
  rw [if_neg hK1286]
  rw [if_neg hK1286] at hh
  by_cases hK1538 : nn c 7 2 = 1538
  · rw [if_pos hK1538, show c.getD 7 0 = 6 by omega, show c.getD 8 0 = 2 by omega, if_neg (show ¬ N32 6 = (3 : Int32) by decide), if_neg (show ¬ N32 6 = (5 : Int32) by decide), if_pos (show N32 6 = (6 : Int32) by decide)]
    rw [if_pos hK1538] at hh
    obtain ⟨D', t1, t2, t3⟩ := wm_load hA hc hme.1 hme.2 (kl_1538 hfo hcl hK1538) (pm_0 hh).2
    have t1 : f_Model_actMemory S M (N32 2) D = some D' := t1
    rw [t1]
    exact ⟨D', rfl, mReg_u0 h0 (hW.uMe (t3.mono (fun y k e => by omega)) t2 (by rw [me_ld_len]; exact hme.2)) t3 (by omega) (by omega) (by omega) (by omega) (fun y k e => by omega)⟩
  rw [if_neg hK1538]
  rw [if_neg hK1538] at hh
  by_cases hK1541 : nn c 7 2 = 1541
  · rw [if_pos hK1541, show c.getD 7 0 = 6 by omega, show c.getD 8 0 = 5 by omega, if_neg (show ¬ N32 6 = (3 : Int32) by decide), if_neg (show ¬ N32 6 = (5 : Int32) by decide), if_pos (show N32 6 = (6 : Int32) by decide)]
    rw [if_pos hK1541] at hh
    have hl := kl_1541 hfo hcl hK1541
    obtain ⟨D', t1, t2, t3⟩ := wm_dump h0 (by omega) (pm_0 hh).2
    have t1 : f_Model_actMemory S M (N32 5) D = some D' := t1
    rw [t1]
    exact ⟨D', rfl, t2, t3⟩
  rw [if_neg hK1541]
  rw [if_neg hK1541] at hh
  by_cases hK1545 : nn c 7 2 = 1545
  · rw [if_pos hK1545, show c.getD 7 0 = 6 by omega, show c.getD 8 0 = 9 by omega, if_neg (show ¬ N32 6 = (3 : Int32) by decide), if_neg (show ¬ N32 6 = (5 : Int32) by decide), if_pos (show N32 6 = (6 : Int32) by decide)]
    rw [if_pos hK1545] at hh
    have hl := kl_1545 hfo hcl hK1545
    obtain ⟨D', t1, t2, t3⟩ := wm_chk h0 (by omega) (pm_0 hh).2
    have t1 : f_Model_actMemory S M (N32 9) D = some D' := t1
    rw [t1]
    exact ⟨D', rfl, t2, t3⟩
  rw [if_neg hK1545]
  rw [if_neg hK1545] at hh
  by_cases hK2049 : nn c 7 2 = 2049
  · rw [if_pos hK2049, show c.getD 7 0 = 8 by omega, show c.getD 8 0 = 1 by omega, if_neg (show ¬ N32 8 = (3 : Int32) by decide), if_neg (show ¬ N32 8 = (5 : Int32) by decide), if_neg (show ¬ N32 8 = (6 : Int32) by decide), if_pos (show N32 8 = (8 : Int32) by decide)]
    rw [if_pos hK2049] at hh
    have hl := kl_2049 hfo hcl hK2049
    obtain ⟨D', t1, t2, t3⟩ := wm_fun h0 (by omega) hh
    have t1 : f_Model_actFunction S M D = some D' := t1
    rw [t1]
    exact ⟨D', rfl, t2, t3⟩
  rw [if_neg hK2049]
  rw [if_neg hK2049] at hh
  by_cases hK2817 : nn c 7 2 = 2817
  · rw [if_pos hK2817, show c.getD 7 0 = 11 by omega, show c.getD 8 0 = 1 by omega, if_neg (show ¬ N32 11 = (3 : Int32) by decide), if_neg (show ¬ N32 11 = (5 : Int32) by decide), if_neg (show ¬ N32 11 = (6 : Int32) by decide), if_neg (show ¬ N32 11 = (8 : Int32) by decide), if_pos (show N32 11 = (11 : Int32) by decide)]
    have g : oi (fun y k => y = M ∧ k = 46) D (ob_pI D M 46 (bI true)) := oi.pI ⟨rfl, rfl⟩
    have e : f_Model_actTable S M (N32 1) D = some (ob_pI D M 46 (bI true)) := by
      unfold f_Model_actTable f_Model_actTable_L10
      rw [if_pos (by decide), if_pos (by decide)]
      rfl
    rw [e]
    exact ⟨ob_pI D M 46 (bI true), rfl, mReg_u0 h0 (hW.uTt (g.mono (fun y k e => by omega)) (ttm_flag htt true)) g (by omega) (by omega) (by omega) (by omega) (fun y k e => by omega)⟩
  rw [if_neg hK2817]
  by_cases hK2818 : nn c 7 2 = 2818
  · rw [if_pos hK2818, show c.getD 7 0 = 11 by omega, show c.getD 8 0 = 2 by omega, if_neg (show ¬ N32 11 = (3 : Int32) by decide), if_neg (show ¬ N32 11 = (5 : Int32) by decide), if_neg (show ¬ N32 11 = (6 : Int32) by decide), if_neg (show ¬ N32 11 = (8 : Int32) by decide), if_pos (show N32 11 = (11 : Int32) by decide)]
    have g : oi (fun y k => y = M ∧ k = 46) D (ob_pI D M 46 (bI false)) := oi.pI ⟨rfl, rfl⟩
    have e : f_Model_actTable S M (N32 2) D = some (ob_pI D M 46 (bI false)) := by
      unfold f_Model_actTable f_Model_actTable_L10
      rw [if_neg (by decide), if_pos (by decide), if_neg (by decide)]
      rfl
    rw [e]
    exact ⟨ob_pI D M 46 (bI false), rfl, mReg_u0 h0 (hW.uTt (g.mono (fun y k e => by omega)) (ttm_flag htt false)) g (by omega) (by omega) (by omega) (by omega) (fun y k e => by omega)⟩
  rw [if_neg hK2818]
  by_cases hK2819 : nn c 7 2 = 2819
  · rw [if_pos hK2819, show c.getD 7 0 = 11 by omega, show c.getD 8 0 = 3 by omega, if_neg (show ¬ N32 11 = (3 : Int32) by decide), if_neg (show ¬ N32 11 = (5 : Int32) by decide), if_neg (show ¬ N32 11 = (6 : Int32) by decide), if_neg (show ¬ N32 11 = (8 : Int32) by decide), if_pos (show N32 11 = (11 : Int32) by decide)]
    have g : oi (fun y k => y = M ∧ (k = 45 ∨ k = 46)) D (ob_pI (ob_pI D M 45 (0 : Int32)) M 46 (0 : Int32)) := (oi.pI ⟨rfl, Or.inl rfl⟩).tr (oi.pI ⟨rfl, Or.inr rfl⟩)
    have e : f_Model_actTable S M (N32 3) D = some (ob_pI (ob_pI D M 45 (0 : Int32)) M 46 (0 : Int32)) := by
      unfold f_Model_actTable
      rw [if_neg (by decide), if_neg (by decide), if_pos (by decide)]
    rw [e]
    exact ⟨ob_pI (ob_pI D M 45 (0 : Int32)) M 46 (0 : Int32), rfl, mReg_u0 h0 (hW.uTt (g.mono (fun y k e => by omega)) ttm_clear) g (by omega) (by omega) (by omega) (by omega) (fun y k e => by omega)⟩
  rw [if_neg hK2819]
  by_cases hK2820 : nn c 7 2 = 2820
  · rw [if_pos hK2820, show c.getD 7 0 = 11 by omega, show c.getD 8 0 = 4 by omega, if_neg (show ¬ N32 11 = (3 : Int32) by decide), if_neg (show ¬ N32 11 = (5 : Int32) by decide), if_neg (show ¬ N32 11 = (6 : Int32) by decide), if_neg (show ¬ N32 11 = (8 : Int32) by decide), if_pos (show N32 11 = (11 : Int32) by decide)]
    rw [if_pos hK2820] at hh
    have hl := kl_2820 hfo hcl hK2820
    obtain ⟨D', t1, t2, t3⟩ := ttm_add hA hc htt (by have := (te_0 hh).2; omega) (by omega) (te_0 hh).1
    have t1 : f_Model_actTable S M (N32 4) D = some D' := t1
    rw [t1]
    exact ⟨D', rfl, mReg_u0 h0 (hW.uTt (t3.mono (fun y k e => by omega)) t2) t3 (by omega) (by omega) (by omega) (by omega) (fun y k e => by omega)⟩
  rw [if_neg hK2820]
  rw [if_neg hK2820] at hh
  by_cases hK2821 : nn c 7 2 = 2821
  · rw [if_pos hK2821, show c.getD 7 0 = 11 by omega, show c.getD 8 0 = 5 by omega, if_neg (show ¬ N32 11 = (3 : Int32) by decide), if_neg (show ¬ N32 11 = (5 : Int32) by decide), if_neg (show ¬ N32 11 = (6 : Int32) by decide), if_neg (show ¬ N32 11 = (8 : Int32) by decide), if_pos (show N32 11 = (11 : Int32) by decide)]
    rw [if_pos hK2821] at hh
    have hl := kl_2821 hfo hcl hK2821
    obtain ⟨D', t1, t2, t3⟩ := ttm_all hA hc htt (by omega)
    have t1 : f_Model_actTable S M (N32 5) D = some D' := t1
    rw [t1]
    exact ⟨D', rfl, mReg_u0 h0 (hW.uTt (t3.mono (fun y k e => by omega)) t2) t3 (by omega) (by omega) (by omega) (by omega) (fun y k e => by omega)⟩
  rw [if_neg hK2821]
  rw [if_neg hK2821] at hh
  by_cases hK2831 : nn c 7 2 = 2831
  · rw [if_pos hK2831, show c.getD 7 0 = 11 by omega, show c.getD 8 0 = 15 by omega, if_neg (show ¬ N32 11 = (3 : Int32) by decide), if_neg (show ¬ N32 11 = (5 : Int32) by decide), if_neg (show ¬ N32 11 = (6 : Int32) by decide), if_neg (show ¬ N32 11 = (8 : Int32) by decide), if_pos (show N32 11 = (11 : Int32) by decide)]
    rw [if_pos hK2831] at hh
    have hl := kl_2831 hfo hcl hK2831
    obtain ⟨D', t1, t2, t3⟩ := ttm_shift hA hc htt (by omega)
    have t1 : f_Model_actTable S M (N32 15) D = some D' := t1
    rw [t1]
    exact ⟨D', rfl, mReg_u0 h0 (hW.uTt (t3.mono (fun y k e => by omega)) t2) t3 (by omega) (by omega) (by omega) (by omega) (fun y k e => by omega)⟩
  rw [if_neg hK2831]
  rw [if_neg hK2831] at hh
  by_cases hK2833 : nn c 7 2 = 2833
  · rw [if_pos hK2833, show c.getD 7 0 = 11 by omega, show c.getD 8 0 = 17 by omega, if_neg (show ¬ N32 11 = (3 : Int32) by decide), if_neg (show ¬ N32 11 = (5 : Int32) by decide), if_neg (show ¬ N32 11 = (6 : Int32) by decide), if_neg (show ¬ N32 11 = (8 : Int32) by decide), if_pos (show N32 11 = (11 : Int32) by decide)]
    obtain ⟨D', t1, t2, t3⟩ := wm_tell h0
    have t1 : f_Model_actTable S M (N32 17) D = some D' := t1
    rw [t1]
    exact ⟨D', rfl, t2, t3⟩
  rw [if_neg hK2833]
  by_cases hK3073 : nn c 7 2 = 3073
  · rw [if_pos hK3073, show c.getD 7 0 = 12 by omega, show c.getD 8 0 = 1 by omega, if_neg (show ¬ N32 12 = (3 : Int32) by decide), if_neg (show ¬ N32 12 = (5 : Int32) by decide), if_neg (show ¬ N32 12 = (6 : Int32) by decide), if_neg (show ¬ N32 12 = (8 : Int32) by decide), if_neg (show ¬ N32 12 = (11 : Int32) by decide), if_pos (show N32 12 = (12 : Int32) by decide)]
    rw [if_pos hK3073] at hh
    have hl := kl_3073 hfo hcl hK3073
    obtain ⟨i, hi, hfi, hki, -⟩ := lf_0 (by decide) hh
    obtain ⟨D', t1, t2, t3⟩ := wm_onlim hA hc hlm (by omega) hfi true
    have t1 : f_Model_actLimit S M (N32 1) D = some D' := t1
    rw [t1]
    exact ⟨D', rfl, mReg_u0 h0 (hW.uLm (t3.mono (fun y k e => by omega)) t2) t3 (by omega) (by omega) (by omega) (by omega) (fun y k e => by omega)⟩
  rw [if_neg hK3073]
  rw [if_neg hK3073] at hh
  by_cases hK3074 : nn c 7 2 = 3074
  · rw [if_pos hK3074, show c.getD 7 0 = 12 by omega, show c.getD 8 0 = 2 by omega, if_neg (show ¬ N32 12 = (3 : Int32) by decide), if_neg (show ¬ N32 12 = (5 : Int32) by decide), if_neg (show ¬ N32 12 = (6 : Int32) by decide), if_neg (show ¬ N32 12 = (8 : Int32) by decide), if_neg (show ¬ N32 12 = (11 : Int32) by decide), if_pos (show N32 12 = (12 : Int32) by decide)]
    rw [if_pos hK3074] at hh
    have hl := kl_3074 hfo hcl hK3074
    obtain ⟨i, hi, hfi, hki, -⟩ := lf_0 (by decide) hh
    obtain ⟨D', t1, t2, t3⟩ := wm_onlim hA hc hlm (by omega) hfi false
    have t1 : f_Model_actLimit S M (N32 2) D = some D' := t1
    rw [t1]
    exact ⟨D', rfl, mReg_u0 h0 (hW.uLm (t3.mono (fun y k e => by omega)) t2) t3 (by omega) (by omega) (by omega) (by omega) (fun y k e => by omega)⟩
  rw [if_neg hK3074]
  rw [if_neg hK3074] at hh
  by_cases hK3077 : nn c 7 2 = 3077
  · rw [if_pos hK3077, show c.getD 7 0 = 12 by omega, show c.getD 8 0 = 5 by omega, if_neg (show ¬ N32 12 = (3 : Int32) by decide), if_neg (show ¬ N32 12 = (5 : Int32) by decide), if_neg (show ¬ N32 12 = (6 : Int32) by decide), if_neg (show ¬ N32 12 = (8 : Int32) by decide), if_neg (show ¬ N32 12 = (11 : Int32) by decide), if_pos (show N32 12 = (12 : Int32) by decide)]
    rw [if_pos hK3077] at hh
    obtain ⟨D', t1, t2, t3⟩ := wm_addlim hA hc hlm (kl_3077 hfo hcl hK3077) hh
    have t1 : f_Model_actLimit S M (N32 5) D = some D' := t1
    rw [t1]
    exact ⟨D', rfl, mReg_u0 h0 (hW.uLm (t3.mono (fun y k e => by omega)) t2) t3 (by omega) (by omega) (by omega) (by omega) (fun y k e => by omega)⟩
  rw [if_neg hK3077]
  rw [if_neg hK3077] at hh
  by_cases hK3078 : nn c 7 2 = 3078
  · rw [if_pos hK3078, show c.getD 7 0 = 12 by omega, show c.getD 8 0 = 6 by omega, if_neg (show ¬ N32 12 = (3 : Int32) by decide), if_neg (show ¬ N32 12 = (5 : Int32) by decide), if_neg (show ¬ N32 12 = (6 : Int32) by decide), if_neg (show ¬ N32 12 = (8 : Int32) by decide), if_neg (show ¬ N32 12 = (11 : Int32) by decide), if_pos (show N32 12 = (12 : Int32) by decide)]
    rw [if_pos hK3078] at hh
    have hl := kl_3078 hfo hcl hK3078
    obtain ⟨i, hi, hfi, hki, -⟩ := lf_0 (by decide) hh
    obtain ⟨D', t1, t2, t3⟩ := wm_remlim hA hc hlm (by omega) hfi
    have t1 : f_Model_actLimit S M (N32 6) D = some D' := t1
    rw [t1]
    exact ⟨D', rfl, mReg_u0 h0 (hW.uLm (t3.mono (fun y k e => by omega)) t2) t3 (by omega) (by omega) (by omega) (by omega) (fun y k e => by omega)⟩
  rw [if_neg hK3078]
  rw [if_neg hK3078] at hh
  by_cases hK3841 : nn c 7 2 = 3841
  · rw [if_pos hK3841, show c.getD 7 0 = 15 by omega, show c.getD 8 0 = 1 by omega, if_neg (show ¬ N32 15 = (3 : Int32) by decide), if_neg (show ¬ N32 15 = (5 : Int32) by decide), if_neg (show ¬ N32 15 = (6 : Int32) by decide), if_neg (show ¬ N32 15 = (8 : Int32) by decide), if_neg (show ¬ N32 15 = (11 : Int32) by decide), if_neg (show ¬ N32 15 = (12 : Int32) by decide), if_pos (show N32 15 = (15 : Int32) by decide)]
    rw [if_pos hK3841] at hh
    have hl := kl_3841 hfo hcl hK3841
    have he : c.getD 11 0 < 32 := by
      by_cases e : c.getD 11 0 < 32
      · exact e
      · rw [if_neg e] at hh; exact absurd hh (by decide)
    obtain ⟨D', t1, t2, t3⟩ := wm_sto hA hc hrp (by omega) he true
    have t1 : f_Model_actStore S M (N32 1) D = some D' := t1
    rw [t1]
    exact ⟨D', rfl, mReg_u0 h0 (hW.uRp (t3.mono (fun y k e => by omega)) t2) t3 (by omega) (by omega) (by omega) (by omega) (fun y k e => by omega)⟩
  rw [if_neg hK3841]
  rw [if_neg hK3841] at hh
  by_cases hK3842 : nn c 7 2 = 3842
  · rw [if_pos hK3842, show c.getD 7 0 = 15 by omega, show c.getD 8 0 = 2 by omega, if_neg (show ¬ N32 15 = (3 : Int32) by decide), if_neg (show ¬ N32 15 = (5 : Int32) by decide), if_neg (show ¬ N32 15 = (6 : Int32) by decide), if_neg (show ¬ N32 15 = (8 : Int32) by decide), if_neg (show ¬ N32 15 = (11 : Int32) by decide), if_neg (show ¬ N32 15 = (12 : Int32) by decide), if_pos (show N32 15 = (15 : Int32) by decide)]
    rw [if_pos hK3842] at hh
    have hl := kl_3842 hfo hcl hK3842
    have he : c.getD 11 0 < 32 := by
      by_cases e : c.getD 11 0 < 32
      · exact e
      · rw [if_neg e] at hh; exact absurd hh (by decide)
    obtain ⟨D', t1, t2, t3⟩ := wm_sto hA hc hrp (by omega) he false
    have t1 : f_Model_actStore S M (N32 2) D = some D' := t1
    rw [t1]
    exact ⟨D', rfl, mReg_u0 h0 (hW.uRp (t3.mono (fun y k e => by omega)) t2) t3 (by omega) (by omega) (by omega) (by omega) (fun y k e => by omega)⟩
  rw [if_neg hK3842]
  rw [if_neg hK3842] at hh
  by_cases hK3849 : nn c 7 2 = 3849
  · rw [if_pos hK3849, show c.getD 7 0 = 15 by omega, show c.getD 8 0 = 9 by omega, if_neg (show ¬ N32 15 = (3 : Int32) by decide), if_neg (show ¬ N32 15 = (5 : Int32) by decide), if_neg (show ¬ N32 15 = (6 : Int32) by decide), if_neg (show ¬ N32 15 = (8 : Int32) by decide), if_neg (show ¬ N32 15 = (11 : Int32) by decide), if_neg (show ¬ N32 15 = (12 : Int32) by decide), if_pos (show N32 15 = (15 : Int32) by decide)]
    rw [if_pos hK3849] at hh
    have hl := kl_3849 hfo hcl hK3849
    obtain ⟨D', t1, t2, t3⟩ := wm_want hA hc hrp (by omega)
    have t1 : f_Model_actStore S M (N32 9) D = some D' := t1
    rw [t1]
    exact ⟨D', rfl, mReg_u0 h0 (hW.uRp (t3.mono (fun y k e => by omega)) t2) t3 (by omega) (by omega) (by omega) (by omega) (fun y k e => by omega)⟩
  rw [if_neg hK3849]
  rw [if_neg hK3849] at hh
  by_cases hK3851 : nn c 7 2 = 3851
  · rw [if_pos hK3851, show c.getD 7 0 = 15 by omega, show c.getD 8 0 = 11 by omega, if_neg (show ¬ N32 15 = (3 : Int32) by decide), if_neg (show ¬ N32 15 = (5 : Int32) by decide), if_neg (show ¬ N32 15 = (6 : Int32) by decide), if_neg (show ¬ N32 15 = (8 : Int32) by decide), if_neg (show ¬ N32 15 = (11 : Int32) by decide), if_neg (show ¬ N32 15 = (12 : Int32) by decide), if_pos (show N32 15 = (15 : Int32) by decide)]
    have hl := kl_3851 hfo hcl hK3851
    obtain ⟨D', t1, t2, t3⟩ := wm_drop hA hc hrp (by omega)
    have t1 : f_Model_actStore S M (N32 11) D = some D' := t1
    rw [t1]
    exact ⟨D', rfl, mReg_u0 h0 (hW.uRp (t3.mono (fun y k e => by omega)) t2) t3 (by omega) (by omega) (by omega) (by omega) (fun y k e => by omega)⟩
  rw [if_neg hK3851]
  by_cases hK3852 : nn c 7 2 = 3852
  · rw [if_pos hK3852, show c.getD 7 0 = 15 by omega, show c.getD 8 0 = 12 by omega, if_neg (show ¬ N32 15 = (3 : Int32) by decide), if_neg (show ¬ N32 15 = (5 : Int32) by decide), if_neg (show ¬ N32 15 = (6 : Int32) by decide), if_neg (show ¬ N32 15 = (8 : Int32) by decide), if_neg (show ¬ N32 15 = (11 : Int32) by decide), if_neg (show ¬ N32 15 = (12 : Int32) by decide), if_pos (show N32 15 = (15 : Int32) by decide)]
    rw [if_pos hK3852] at hh
    obtain ⟨D', t1, t2, t3⟩ := wm_stop (S := S) hrp
    have t1 : f_Model_actStore S M (N32 12) D = some D' := t1
    rw [t1]
    exact ⟨D', rfl, mReg_u0 h0 (hW.uRp (t3.mono (fun y k e => by omega)) t2) t3 (by omega) (by omega) (by omega) (by omega) (fun y k e => by omega)⟩
  rw [if_neg hK3852]
  rw [if_neg hK3852] at hh
  by_cases hK4353 : nn c 7 2 = 4353
  · rw [if_pos hK4353, show c.getD 7 0 = 17 by omega, show c.getD 8 0 = 1 by omega, if_neg (show ¬ N32 17 = (3 : Int32) by decide), if_neg (show ¬ N32 17 = (5 : Int32) by decide), if_neg (show ¬ N32 17 = (6 : Int32) by decide), if_neg (show ¬ N32 17 = (8 : Int32) by decide), if_neg (show ¬ N32 17 = (11 : Int32) by decide), if_neg (show ¬ N32 17 = (12 : Int32) by decide), if_neg (show ¬ N32 17 = (15 : Int32) by decide), if_neg (show ¬ N32 17 = (19 : Int32) by decide)]
    obtain ⟨p, hp⟩ := h0.2.1
    obtain ⟨D5, b1, b2, b3, b4, b5⟩ := wm_begin hW hp hc (s := 17) (k := 2) (by decide) (by decide)
    obtain ⟨D', t1, t2, t3⟩ := wm_done (body := []) b2 (by rw [List.append_nil]; exact b3) b4 (by decide) (by decide)
    have b1 : f_Model_report S M 17 2 D = some D5 := b1
    rw [b1]
    simp only [ob_bv]
    rw [t1]
    exact ⟨D', rfl, t2, b5.tr t3⟩
  rw [if_neg hK4353]
  by_cases hK4865 : nn c 7 2 = 4865
  · rw [if_pos hK4865, show c.getD 7 0 = 19 by omega, show c.getD 8 0 = 1 by omega, if_neg (show ¬ N32 19 = (3 : Int32) by decide), if_neg (show ¬ N32 19 = (5 : Int32) by decide), if_neg (show ¬ N32 19 = (6 : Int32) by decide), if_neg (show ¬ N32 19 = (8 : Int32) by decide), if_neg (show ¬ N32 19 = (11 : Int32) by decide), if_neg (show ¬ N32 19 = (12 : Int32) by decide), if_neg (show ¬ N32 19 = (15 : Int32) by decide), if_pos (show N32 19 = (19 : Int32) by decide)]
    rw [if_pos hK4865] at hh
    have hl := kl_4865 hfo hcl hK4865
    have he : c.getD 11 0 < 32 := by
      unfold na_v at hh
      by_cases e : c.getD 11 0 < 32
      · exact e
      · rw [if_neg e] at hh; exact absurd hh (by decide)
    obtain ⟨D', t1, t2, t3⟩ := wm_act hA hc hev he (by omega)
    have t1 : f_Model_actAction S M (N32 1) D = some D' := t1
    rw [t1]
    exact ⟨D', rfl, mReg_u0 h0 (hW.uEv (t3.mono (fun y k e => by omega)) t2) t3 (by omega) (by omega) (by omega) (by omega) (fun y k e => by omega)⟩
  rw [if_neg hK4865]
  rw [if_neg hK4865] at hh
  by_cases hK4866 : nn c 7 2 = 4866
  · rw [if_pos hK4866, show c.getD 7 0 = 19 by omega, show c.getD 8 0 = 2 by omega, if_neg (show ¬ N32 19 = (3 : Int32) by decide), if_neg (show ¬ N32 19 = (5 : Int32) by decide), if_neg (show ¬ N32 19 = (6 : Int32) by decide), if_neg (show ¬ N32 19 = (8 : Int32) by decide), if_neg (show ¬ N32 19 = (11 : Int32) by decide), if_neg (show ¬ N32 19 = (12 : Int32) by decide), if_neg (show ¬ N32 19 = (15 : Int32) by decide), if_pos (show N32 19 = (19 : Int32) by decide)]
    rw [if_pos hK4866] at hh
    have hl := kl_4866 hfo hcl hK4866
    have he : c.getD 11 0 < 32 := by
      unfold af_v at hh
      by_cases e : c.getD 11 0 < 32
      · exact e
      · rw [if_neg e] at hh; exact absurd hh (by decide)
    obtain ⟨D', t1, t2, t3⟩ := wm_dro hA hc hev he (by omega)
    have t1 : f_Model_actAction S M (N32 2) D = some D' := t1
    rw [t1]
    exact ⟨D', rfl, mReg_u0 h0 (hW.uEv (t3.mono (fun y k e => by omega)) t2) t3 (by omega) (by omega) (by omega) (by omega) (fun y k e => by omega)⟩
  rw [if_neg hK4866]
  rw [if_neg hK4866] at hh
  by_cases hK4868 : nn c 7 2 = 4868
  · rw [if_pos hK4868, show c.getD 7 0 = 19 by omega, show c.getD 8 0 = 4 by omega, if_neg (show ¬ N32 19 = (3 : Int32) by decide), if_neg (show ¬ N32 19 = (5 : Int32) by decide), if_neg (show ¬ N32 19 = (6 : Int32) by decide), if_neg (show ¬ N32 19 = (8 : Int32) by decide), if_neg (show ¬ N32 19 = (11 : Int32) by decide), if_neg (show ¬ N32 19 = (12 : Int32) by decide), if_neg (show ¬ N32 19 = (15 : Int32) by decide), if_pos (show N32 19 = (19 : Int32) by decide)]
    rw [if_pos hK4868] at hh
    have hl := kl_4868 hfo hcl hK4868
    have he : c.getD 11 0 < 32 := by
      unfold af_v at hh
      by_cases e : c.getD 11 0 < 32
      · exact e
      · rw [if_neg e] at hh; exact absurd hh (by decide)
    obtain ⟨D', t1, t2, t3⟩ := wm_sw hA hc hev he (by omega) true
    have t1 : f_Model_actAction S M (N32 4) D = some D' := t1
    rw [t1]
    exact ⟨D', rfl, mReg_u0 h0 (hW.uEv (t3.mono (fun y k e => by omega)) t2) t3 (by omega) (by omega) (by omega) (by omega) (fun y k e => by omega)⟩
  rw [if_neg hK4868]
  rw [if_neg hK4868] at hh
  by_cases hK4869 : nn c 7 2 = 4869
  · rw [if_pos hK4869, show c.getD 7 0 = 19 by omega, show c.getD 8 0 = 5 by omega, if_neg (show ¬ N32 19 = (3 : Int32) by decide), if_neg (show ¬ N32 19 = (5 : Int32) by decide), if_neg (show ¬ N32 19 = (6 : Int32) by decide), if_neg (show ¬ N32 19 = (8 : Int32) by decide), if_neg (show ¬ N32 19 = (11 : Int32) by decide), if_neg (show ¬ N32 19 = (12 : Int32) by decide), if_neg (show ¬ N32 19 = (15 : Int32) by decide), if_pos (show N32 19 = (19 : Int32) by decide)]
    rw [if_pos hK4869] at hh
    have hl := kl_4869 hfo hcl hK4869
    have he : c.getD 11 0 < 32 := by
      unfold af_v at hh
      by_cases e : c.getD 11 0 < 32
      · exact e
      · rw [if_neg e] at hh; exact absurd hh (by decide)
    obtain ⟨D', t1, t2, t3⟩ := wm_sw hA hc hev he (by omega) false
    have t1 : f_Model_actAction S M (N32 5) D = some D' := t1
    rw [t1]
    exact ⟨D', rfl, mReg_u0 h0 (hW.uEv (t3.mono (fun y k e => by omega)) t2) t3 (by omega) (by omega) (by omega) (by omega) (fun y k e => by omega)⟩
  rw [if_neg hK4869]
  rw [if_neg hK4869] at hh
  have hmem := kf_mem (fo_kind hfo).2.1
  simp only [List.mem_cons, List.not_mem_nil, or_false] at hmem
  omega
