-- ===== what a command does =====
def pf_one (w k : Nat) (l : List sFm) (z : sW) : sW := match ky_find (fun f : sFm => f.1) k l with
  | none => z
  | some i => match l[i]? with
    | none => z
    | some f => w_rep w 3 25 (fm_body f z) z
theorem pf_one_eq {w k i : Nat} {l : List sFm} {z : sW} (hf : ky_find (fun f : sFm => f.1) k l = some i) (hi : i < l.length) : pf_one w k l z = w_rep w 3 25 (fm_body l[i] z) z := by
  unfold pf_one
  rw [hf]
  have eg : l[i]? = some l[i] := List.getElem?_eq_getElem hi
  simp only [eg]
def pf (w : Nat) (c : List Nat) : sW → sW
  | (gt, rc, A, on, ev, lm, ch, frs, rp, cr, fm, me) => if nn c 7 2 = 769 then ((gt, rc, A, on, ev, lm, ch, frs, rp, cr, fm_add c fm, me)) else if nn c 7 2 = 771 then ((gt, rc, A, on, ev, lm, ch, frs, rp, cr, fm_rem (c.getD 11 0) fm, me)) else if nn c 7 2 = 773 then ((gt, rc, A, on, ev, lm, ch, frs, rp, cr, fm_on true (c.getD 11 0) fm, me)) else if nn c 7 2 = 774 then ((gt, rc, A, on, ev, lm, ch, frs, rp, cr, fm_on false (c.getD 11 0) fm, me)) else if nn c 7 2 = 795 then (pf_one w (c.getD 11 0) fm (gt, rc, A, on, ev, lm, ch, frs, rp, cr, fm, me)) else if nn c 7 2 = 1285 then ((gt, rc, A, on, ev_sil (c.getD 11 0) false ev, lm, ch, frs, rp, cr, fm, me)) else if nn c 7 2 = 1286 then ((gt, rc, A, on, ev_sil (c.getD 11 0) true ev, lm, ch, frs, rp, cr, fm, me)) else if nn c 7 2 = 1538 then ((gt, rc, A, on, ev, lm, ch, frs, rp, cr, fm, me_ld me (nn c 11 2) (fmps c) (c.getD 13 0))) else if nn c 7 2 = 1541 then (w_rep w 6 6 (me_dump c me) (gt, rc, A, on, ev, lm, ch, frs, rp, cr, fm, me)) else if nn c 7 2 = 1545 then (w_rep w 6 10 (me_chk c me) (gt, rc, A, on, ev, lm, ch, frs, rp, cr, fm, me)) else if nn c 7 2 = 2049 then (w_fun c (gt, rc, A, on, ev, lm, ch, frs, rp, cr, fm, me)) else if nn c 7 2 = 2817 then ((gt, rc, A, true, ev, lm, ch, frs, rp, cr, fm, me)) else if nn c 7 2 = 2818 then ((gt, rc, A, false, ev, lm, ch, frs, rp, cr, fm, me)) else if nn c 7 2 = 2819 then ((gt, rc, [], false, ev, lm, ch, frs, rp, cr, fm, me)) else if nn c 7 2 = 2820 then ((gt, rc, A ++ [te_new c], on, ev, lm, ch, frs, rp, cr, fm, me)) else if nn c 7 2 = 2821 then ((gt, rc, A.filter (fun e => !(en_no e == nn c 11 2 % 16384)), on, ev, lm, ch, frs, rp, cr, fm, me)) else if nn c 7 2 = 2831 then ((gt, rc, tt_shift (N32 (nn c 11 4)) A, on, ev, lm, ch, frs, rp, cr, fm, me)) else if nn c 7 2 = 2833 then (w_rep w 11 13 (tt_told (tt_sort A)) (gt, rc, A, on, ev, lm, ch, frs, rp, cr, fm, me)) else if nn c 7 2 = 3073 then ((gt, rc, A, on, ev, lm_on true (c.getD 11 0) lm, ch, frs, rp, cr, fm, me)) else if nn c 7 2 = 3074 then ((gt, rc, A, on, ev, lm_on false (c.getD 11 0) lm, ch, frs, rp, cr, fm, me)) else if nn c 7 2 = 3077 then ((gt, rc, A, on, ev, lm_add c lm, ch, frs, rp, cr, fm, me)) else if nn c 7 2 = 3078 then ((gt, rc, A, on, ev, lm_rem (c.getD 11 0) lm, ch, frs, rp, cr, fm, me)) else if nn c 7 2 = 3841 then ((gt, rc, A, on, ev, lm, ch, frs, rp_sto (c.getD 11 0) true rp, cr, fm, me)) else if nn c 7 2 = 3842 then ((gt, rc, A, on, ev, lm, ch, frs, rp_sto (c.getD 11 0) false rp, cr, fm, me)) else if nn c 7 2 = 3849 then ((gt, rc, A, on, ev, lm, ch, frs, rp_want (N32 (nn c 11 4)) (N32 (nn c 15 4)) rp, cr, fm, me)) else if nn c 7 2 = 3851 then ((gt, rc, A, on, ev, lm, ch, frs, rp_drop (N32 (nn c 11 4)) rp, cr, fm, me)) else if nn c 7 2 = 3852 then ((gt, rc, A, on, ev, lm, ch, frs, rp_stop rp, cr, fm, me)) else if nn c 7 2 = 4353 then (w_rep w 17 2 [] (gt, rc, A, on, ev, lm, ch, frs, rp, cr, fm, me)) else if nn c 7 2 = 4865 then ((gt, rc, A, on, ev_act (c.getD 11 0) ((c.drop 12).take (c.length - 14)) ev, lm, ch, frs, rp, cr, fm, me)) else if nn c 7 2 = 4866 then ((gt, rc, A, on, ev_dro (c.getD 11 0) ev, lm, ch, frs, rp, cr, fm, me)) else if nn c 7 2 = 4868 then ((gt, rc, A, on, ev_sw (c.getD 11 0) true ev, lm, ch, frs, rp, cr, fm, me)) else if nn c 7 2 = 4869 then ((gt, rc, A, on, ev_sw (c.getD 11 0) false ev, lm, ch, frs, rp, cr, fm, me)) else (gt, rc, A, on, ev, lm, ch, frs, rp, cr, fm, me)
theorem wc_perform {S : ob_S} {D : ob_D} {B m fr F w pt : Nat} {z : sW} {c : List Nat} (h0 : cX S D B m fr F w pt z c) (hfo : fo c = 0) (hh : hf m c z = 0) (hml : z.2.2.2.2.2.2.2.2.2.2.2.length = 4096) : ∃ D', f_Handler_perform S (B + 29 + 2 * m + 80 + 2 * fr + 9) (N32 (nn c 7 2)) D = some D' ∧ cX S D' B m fr F w pt (pf w c z) c ∧ og (cReg B m fr) D D' := by
  obtain ⟨gt, rc, A, on, ev, lm, ch, frs, rp, cr, fm, me⟩ := z
  have hW := h0.1
  have hc := h0.2.2
  have hH := hW.hd
  have hfm := hW.2.2.2.2.2.2.2.2.2.1
  have hlm := hW.2.2.2.2.1
  have hev := hW.2.2.2.1
  have htt := hW.2.2.1
  have hcr := hW.2.2.2.2.2.2.2.2.1
  have hrp := hW.2.2.2.2.2.2.1
  have hme := hW.2.2.2.2.2.2.2.2.2.2.1
  have hcl : c.length ≤ 252 := hc.2.2.2.2.2.1
  have hb := hc.2.2.2.2.2.2.2.2
  have b11 := by_getD_lt hb 11
  have b7 := nn_lt hb 7 2
  have d0 : f_Handler_data S (B + 29 + 2 * m + 80 + 2 * fr + 9) 0 1 D = some (N32 (c.getD 11 0), D) := hc_d1 hH hc (i := 0) (by decide)
  have ek : pf w c (gt, rc, A, on, ev, lm, ch, frs, rp, cr, fm, me) = if nn c 7 2 = 769 then ((gt, rc, A, on, ev, lm, ch, frs, rp, cr, fm_add c fm, me)) else if nn c 7 2 = 771 then ((gt, rc, A, on, ev, lm, ch, frs, rp, cr, fm_rem (c.getD 11 0) fm, me)) else if nn c 7 2 = 773 then ((gt, rc, A, on, ev, lm, ch, frs, rp, cr, fm_on true (c.getD 11 0) fm, me)) else if nn c 7 2 = 774 then ((gt, rc, A, on, ev, lm, ch, frs, rp, cr, fm_on false (c.getD 11 0) fm, me)) else if nn c 7 2 = 795 then (pf_one w (c.getD 11 0) fm (gt, rc, A, on, ev, lm, ch, frs, rp, cr, fm, me)) else if nn c 7 2 = 1285 then ((gt, rc, A, on, ev_sil (c.getD 11 0) false ev, lm, ch, frs, rp, cr, fm, me)) else if nn c 7 2 = 1286 then ((gt, rc, A, on, ev_sil (c.getD 11 0) true ev, lm, ch, frs, rp, cr, fm, me)) else if nn c 7 2 = 1538 then ((gt, rc, A, on, ev, lm, ch, frs, rp, cr, fm, me_ld me (nn c 11 2) (fmps c) (c.getD 13 0))) else if nn c 7 2 = 1541 then (w_rep w 6 6 (me_dump c me) (gt, rc, A, on, ev, lm, ch, frs, rp, cr, fm, me)) else if nn c 7 2 = 1545 then (w_rep w 6 10 (me_chk c me) (gt, rc, A, on, ev, lm, ch, frs, rp, cr, fm, me)) else if nn c 7 2 = 2049 then (w_fun c (gt, rc, A, on, ev, lm, ch, frs, rp, cr, fm, me)) else if nn c 7 2 = 2817 then ((gt, rc, A, true, ev, lm, ch, frs, rp, cr, fm, me)) else if nn c 7 2 = 2818 then ((gt, rc, A, false, ev, lm, ch, frs, rp, cr, fm, me)) else if nn c 7 2 = 2819 then ((gt, rc, [], false, ev, lm, ch, frs, rp, cr, fm, me)) else if nn c 7 2 = 2820 then ((gt, rc, A ++ [te_new c], on, ev, lm, ch, frs, rp, cr, fm, me)) else if nn c 7 2 = 2821 then ((gt, rc, A.filter (fun e => !(en_no e == nn c 11 2 % 16384)), on, ev, lm, ch, frs, rp, cr, fm, me)) else if nn c 7 2 = 2831 then ((gt, rc, tt_shift (N32 (nn c 11 4)) A, on, ev, lm, ch, frs, rp, cr, fm, me)) else if nn c 7 2 = 2833 then (w_rep w 11 13 (tt_told (tt_sort A)) (gt, rc, A, on, ev, lm, ch, frs, rp, cr, fm, me)) else if nn c 7 2 = 3073 then ((gt, rc, A, on, ev, lm_on true (c.getD 11 0) lm, ch, frs, rp, cr, fm, me)) else if nn c 7 2 = 3074 then ((gt, rc, A, on, ev, lm_on false (c.getD 11 0) lm, ch, frs, rp, cr, fm, me)) else if nn c 7 2 = 3077 then ((gt, rc, A, on, ev, lm_add c lm, ch, frs, rp, cr, fm, me)) else if nn c 7 2 = 3078 then ((gt, rc, A, on, ev, lm_rem (c.getD 11 0) lm, ch, frs, rp, cr, fm, me)) else if nn c 7 2 = 3841 then ((gt, rc, A, on, ev, lm, ch, frs, rp_sto (c.getD 11 0) true rp, cr, fm, me)) else if nn c 7 2 = 3842 then ((gt, rc, A, on, ev, lm, ch, frs, rp_sto (c.getD 11 0) false rp, cr, fm, me)) else if nn c 7 2 = 3849 then ((gt, rc, A, on, ev, lm, ch, frs, rp_want (N32 (nn c 11 4)) (N32 (nn c 15 4)) rp, cr, fm, me)) else if nn c 7 2 = 3851 then ((gt, rc, A, on, ev, lm, ch, frs, rp_drop (N32 (nn c 11 4)) rp, cr, fm, me)) else if nn c 7 2 = 3852 then ((gt, rc, A, on, ev, lm, ch, frs, rp_stop rp, cr, fm, me)) else if nn c 7 2 = 4353 then (w_rep w 17 2 [] (gt, rc, A, on, ev, lm, ch, frs, rp, cr, fm, me)) else if nn c 7 2 = 4865 then ((gt, rc, A, on, ev_act (c.getD 11 0) ((c.drop 12).take (c.length - 14)) ev, lm, ch, frs, rp, cr, fm, me)) else if nn c 7 2 = 4866 then ((gt, rc, A, on, ev_dro (c.getD 11 0) ev, lm, ch, frs, rp, cr, fm, me)) else if nn c 7 2 = 4868 then ((gt, rc, A, on, ev_sw (c.getD 11 0) true ev, lm, ch, frs, rp, cr, fm, me)) else if nn c 7 2 = 4869 then ((gt, rc, A, on, ev_sw (c.getD 11 0) false ev, lm, ch, frs, rp, cr, fm, me)) else (gt, rc, A, on, ev, lm, ch, frs, rp, cr, fm, me) := rfl
  rw [ek]
  clear ek
  have hh : (if nn c 7 2 = 769 then (nf_v c fm) else if nn c 7 2 = 771 then (lf_v 14 true (fun f : sFm => f.1) (fun f : sFm => f.2.1) (c.getD 11 0) fm) else if nn c 7 2 = 773 then (lf_v 14 false (fun f : sFm => f.1) (fun f : sFm => f.2.1) (c.getD 11 0) fm) else if nn c 7 2 = 774 then (lf_v 14 false (fun f : sFm => f.1) (fun f : sFm => f.2.1) (c.getD 11 0) fm) else if nn c 7 2 = 795 then (lf_v 14 false (fun f : sFm => f.1) (fun f : sFm => f.2.1) (c.getD 11 0) fm) else if nn c 7 2 = 1285 then (if c.getD 11 0 < 32 then 0 else 16) else if nn c 7 2 = 1286 then (if c.getD 11 0 < 32 then 0 else 16) else if nn c 7 2 = 1538 then (pm_v (c.getD 13 0) (nn c 11 2)) else if nn c 7 2 = 1541 then (pm_v (c.getD 13 0) (nn c 11 2)) else if nn c 7 2 = 1545 then (pm_v (nn c 13 2) (nn c 11 2)) else if nn c 7 2 = 2049 then (ff_v (c.getD 11 0) (c.getD 12 0) cr.2.1) else if nn c 7 2 = 2820 then (te_v c A.length m cr.2.2.1) else if nn c 7 2 = 2821 then (te_has c A) else if nn c 7 2 = 2831 then (te_can c cr.2.2.1 A) else if nn c 7 2 = 3073 then (lf_v 27 false (fun f : sLm => f.1) (fun f : sLm => f.2.1) (c.getD 11 0) lm) else if nn c 7 2 = 3074 then (lf_v 27 false (fun f : sLm => f.1) (fun f : sLm => f.2.1) (c.getD 11 0) lm) else if nn c 7 2 = 3077 then (nl_v c lm) else if nn c 7 2 = 3078 then (lf_v 27 true (fun f : sLm => f.1) (fun f : sLm => f.2.1) (c.getD 11 0) lm) else if nn c 7 2 = 3841 then (if c.getD 11 0 < 32 then 0 else 32) else if nn c 7 2 = 3842 then (if c.getD 11 0 < 32 then 0 else 32) else if nn c 7 2 = 3849 then (if rp.2.2.2.2.2.1 = true then 28 else 0) else if nn c 7 2 = 3852 then (if rp.2.2.2.2.2.1 = true then 0 else 28) else if nn c 7 2 = 4865 then (na_v c ev) else if nn c 7 2 = 4866 then (af_v true c ev) else if nn c 7 2 = 4868 then (af_v false c ev) else if nn c 7 2 = 4869 then (af_v false c ev) else 0) = 0 := hh
  unfold f_Handler_perform
  by_cases hK : nn c 7 2 = 769
  · rw [if_pos (show N32 (nn c 7 2) = (769 : Int32) by rw [hK]; rfl), if_pos hK]
    rw [if_pos hK] at hh
    obtain ⟨D', t1, t2, t3⟩ := hc_addform hH hc hfm (kl_769 hfo hcl hK) hh
    rw [t1]
    exact ⟨D', rfl, cW.keepX h0 (hW.uFm (t3.up.mono (fun y k e => by omega)) t2) t3.up (by omega) (by omega) (by omega) (by omega) (fun y k e => by omega)⟩
  rw [if_neg (show ¬ N32 (nn c 7 2) = (769 : Int32) by rw [show (769 : Int32) = N32 769 from rfl, nb_eq (by omega) (by decide)]; exact hK), if_neg hK]
  rw [if_neg hK] at hh
  clear hK
  by_cases hK : nn c 7 2 = 771
  · rw [if_pos (show N32 (nn c 7 2) = (771 : Int32) by rw [hK]; rfl), if_pos hK]
    rw [if_pos hK] at hh
    obtain ⟨i, hi, hfi, hki, -⟩ := lf_0 (by decide) hh
    have ef := kt_find (cFm_kt.mp hfm) fm_l0 fm_o0 b11
    rw [hfi] at ef
    have ef : f_Table_find S (B + 29 + 2 * m + 80 + 2 * fr + 10) (N32 (c.getD 11 0)) D = some (N32 i, D) := ef
    obtain ⟨D', t1, t2, t3⟩ := kt_rem (cFm_kt.mp hfm) hi
    rw [hH.2.2.2.2.2.1, if_pos (by omega), if_pos (by omega), d0]
    simp only [ob_bd]
    rw [ef]
    simp only [ob_bd]
    rw [t1]
    rw [fm_rem_eq hfi]
    have t2 : cFm S D' (B + 29 + 2 * m + 80 + 2 * fr + 10) (fm.eraseIdx i) := t2
    exact ⟨D', rfl, cW.keepX h0 (hW.uFm (t3.up.mono (fun y k e => by omega)) t2) t3.up (by omega) (by omega) (by omega) (by omega) (fun y k e => by omega)⟩
  rw [if_neg (show ¬ N32 (nn c 7 2) = (771 : Int32) by rw [show (771 : Int32) = N32 771 from rfl, nb_eq (by omega) (by decide)]; exact hK), if_neg hK]
  rw [if_neg hK] at hh
  clear hK
  by_cases hK : nn c 7 2 = 773
  · rw [if_pos (show N32 (nn c 7 2) = (773 : Int32) by rw [hK]; rfl), if_pos hK]
    rw [if_pos hK] at hh
    obtain ⟨i, hi, hfi, hki, -⟩ := lf_0 (by decide) hh
    have ef := kt_find (cFm_kt.mp hfm) fm_l0 fm_o0 b11
    rw [hfi] at ef
    have ef : f_Table_find S (B + 29 + 2 * m + 80 + 2 * fr + 10) (N32 (c.getD 11 0)) D = some (N32 i, D) := ef
    obtain ⟨D', t1, t2, t3⟩ := fmc_on hfm hfi hi true
    have t1 : f_Table_set S (B + 29 + 2 * m + 80 + 2 * fr + 10) (N32 i) 1 1 D = some D' := t1
    rw [hH.2.2.2.2.2.1, if_pos (by omega), if_pos (by omega), d0]
    simp only [ob_bd]
    rw [ef]
    simp only [ob_bd]
    rw [t1]
    exact ⟨D', rfl, cW.keepX h0 (hW.uFm (t3.up.mono (fun y k e => by omega)) t2) t3.up (by omega) (by omega) (by omega) (by omega) (fun y k e => by omega)⟩
  rw [if_neg (show ¬ N32 (nn c 7 2) = (773 : Int32) by rw [show (773 : Int32) = N32 773 from rfl, nb_eq (by omega) (by decide)]; exact hK), if_neg hK]
  rw [if_neg hK] at hh
  clear hK
  by_cases hK : nn c 7 2 = 774
  · rw [if_pos (show N32 (nn c 7 2) = (774 : Int32) by rw [hK]; rfl), if_pos hK]
    rw [if_pos hK] at hh
    obtain ⟨i, hi, hfi, hki, -⟩ := lf_0 (by decide) hh
    have ef := kt_find (cFm_kt.mp hfm) fm_l0 fm_o0 b11
    rw [hfi] at ef
    have ef : f_Table_find S (B + 29 + 2 * m + 80 + 2 * fr + 10) (N32 (c.getD 11 0)) D = some (N32 i, D) := ef
    obtain ⟨D', t1, t2, t3⟩ := fmc_on hfm hfi hi false
    have t1 : f_Table_set S (B + 29 + 2 * m + 80 + 2 * fr + 10) (N32 i) 1 0 D = some D' := t1
    rw [hH.2.2.2.2.2.1, if_pos (by omega), if_pos (by omega), d0]
    simp only [ob_bd]
    rw [ef]
    simp only [ob_bd]
    rw [t1]
    exact ⟨D', rfl, cW.keepX h0 (hW.uFm (t3.up.mono (fun y k e => by omega)) t2) t3.up (by omega) (by omega) (by omega) (by omega) (fun y k e => by omega)⟩
  rw [if_neg (show ¬ N32 (nn c 7 2) = (774 : Int32) by rw [show (774 : Int32) = N32 774 from rfl, nb_eq (by omega) (by decide)]; exact hK), if_neg hK]
  rw [if_neg hK] at hh
  clear hK
  by_cases hK : nn c 7 2 = 795
  · rw [if_pos (show N32 (nn c 7 2) = (795 : Int32) by rw [hK]; rfl), if_pos hK]
    rw [if_pos hK] at hh
    obtain ⟨i, hi, hfi, hki, -⟩ := lf_0 (by decide) hh
    have ef := kt_find (cFm_kt.mp hfm) fm_l0 fm_o0 b11
    rw [hfi] at ef
    have ef : f_Table_find S (B + 29 + 2 * m + 80 + 2 * fr + 10) (N32 (c.getD 11 0)) D = some (N32 i, D) := ef
    obtain ⟨D', t1, t2, t3⟩ := hc_sendform h0 hi
    rw [hH.2.2.2.2.2.1, if_pos (by omega), d0]
    simp only [ob_bd]
    rw [ef]
    simp only [ob_bd]
    rw [t1]
    rw [pf_one_eq hfi hi]
    exact ⟨D', rfl, t2, t3⟩
  rw [if_neg (show ¬ N32 (nn c 7 2) = (795 : Int32) by rw [show (795 : Int32) = N32 795 from rfl, nb_eq (by omega) (by decide)]; exact hK), if_neg hK]
  rw [if_neg hK] at hh
  clear hK
  by_cases hK : nn c 7 2 = 1285
  · rw [if_pos (show N32 (nn c 7 2) = (1285 : Int32) by rw [hK]; rfl), if_pos hK]
    rw [if_pos hK] at hh
    have he : c.getD 11 0 < 32 := by
      by_cases e : c.getD 11 0 < 32
      · exact e
      · rw [if_neg e] at hh; exact absurd hh (by decide)
    obtain ⟨D', t1, t2, t3⟩ := hc_sil hH hev he false
    have t1 : f_Handler_setSilent S (B + 29 + 2 * m + 80 + 2 * fr + 9) (N32 (c.getD 11 0)) 0 D = some D' := t1
    rw [d0]
    simp only [ob_bd]
    rw [t1]
    exact ⟨D', rfl, cW.keepX h0 (hW.uEv (t3.up.mono (fun y k e => by omega)) t2) t3.up (by omega) (by omega) (by omega) (by omega) (fun y k e => by omega)⟩
  rw [if_neg (show ¬ N32 (nn c 7 2) = (1285 : Int32) by rw [show (1285 : Int32) = N32 1285 from rfl, nb_eq (by omega) (by decide)]; exact hK), if_neg hK]
  rw [if_neg hK] at hh
  clear hK
  by_cases hK : nn c 7 2 = 1286
  · rw [if_pos (show N32 (nn c 7 2) = (1286 : Int32) by rw [hK]; rfl), if_pos hK]
    rw [if_pos hK] at hh
    have he : c.getD 11 0 < 32 := by
      by_cases e : c.getD 11 0 < 32
      · exact e
      · rw [if_neg e] at hh; exact absurd hh (by decide)
    obtain ⟨D', t1, t2, t3⟩ := hc_sil hH hev he true
    have t1 : f_Handler_setSilent S (B + 29 + 2 * m + 80 + 2 * fr + 9) (N32 (c.getD 11 0)) 1 D = some D' := t1
    rw [d0]
    simp only [ob_bd]
    rw [t1]
    exact ⟨D', rfl, cW.keepX h0 (hW.uEv (t3.up.mono (fun y k e => by omega)) t2) t3.up (by omega) (by omega) (by omega) (by omega) (fun y k e => by omega)⟩
  rw [if_neg (show ¬ N32 (nn c 7 2) = (1286 : Int32) by rw [show (1286 : Int32) = N32 1286 from rfl, nb_eq (by omega) (by decide)]; exact hK), if_neg hK]
  rw [if_neg hK] at hh
  clear hK
  by_cases hK : nn c 7 2 = 1538
  · rw [if_pos (show N32 (nn c 7 2) = (1538 : Int32) by rw [hK]; rfl), if_pos hK]
    rw [if_pos hK] at hh
    obtain ⟨D', t1, t2, t3⟩ := hc_load hH hc hme hml (kl_1538 hfo hcl hK) (pm_0 hh).2
    rw [t1]
    exact ⟨D', rfl, cW.keepX h0 (hW.uMe (t3.up.mono (fun y k e => by omega)) t2) t3.up (by omega) (by omega) (by omega) (by omega) (fun y k e => by omega)⟩
  rw [if_neg (show ¬ N32 (nn c 7 2) = (1538 : Int32) by rw [show (1538 : Int32) = N32 1538 from rfl, nb_eq (by omega) (by decide)]; exact hK), if_neg hK]
  rw [if_neg hK] at hh
  clear hK
  by_cases hK : nn c 7 2 = 1541
  · rw [if_pos (show N32 (nn c 7 2) = (1541 : Int32) by rw [hK]; rfl), if_pos hK]
    rw [if_pos hK] at hh
    obtain ⟨D', t1, t2, t3⟩ := hc_dump h0 hml (pm_0 hh).2
    rw [t1]
    exact ⟨D', rfl, t2, t3⟩
  rw [if_neg (show ¬ N32 (nn c 7 2) = (1541 : Int32) by rw [show (1541 : Int32) = N32 1541 from rfl, nb_eq (by omega) (by decide)]; exact hK), if_neg hK]
  rw [if_neg hK] at hh
  clear hK
  by_cases hK : nn c 7 2 = 1545
  · rw [if_pos (show N32 (nn c 7 2) = (1545 : Int32) by rw [hK]; rfl), if_pos hK]
    rw [if_pos hK] at hh
    obtain ⟨D', t1, t2, t3⟩ := hc_chk h0 hml (pm_0 hh).2
    rw [t1]
    exact ⟨D', rfl, t2, t3⟩
  rw [if_neg (show ¬ N32 (nn c 7 2) = (1545 : Int32) by rw [show (1545 : Int32) = N32 1545 from rfl, nb_eq (by omega) (by decide)]; exact hK), if_neg hK]
  rw [if_neg hK] at hh
  clear hK
  by_cases hK : nn c 7 2 = 2049
  · rw [if_pos (show N32 (nn c 7 2) = (2049 : Int32) by rw [hK]; rfl), if_pos hK]
    rw [if_pos hK] at hh
    have d1 : f_Handler_data S (B + 29 + 2 * m + 80 + 2 * fr + 9) 1 1 D = some (N32 (c.getD 12 0), D) := hc_d1 hH hc (i := 1) (by decide)
    have d2 : f_Handler_data S (B + 29 + 2 * m + 80 + 2 * fr + 9) 2 4 D = some (N32 (nn c 13 4), D) := wc_data hH hc (i := 2) (n := 4) (by decide) (by decide)
    obtain ⟨D', t1, t2, t3⟩ := hc_fun h0 hh
    rw [d0]
    simp only [ob_bd]
    rw [d1]
    simp only [ob_bd]
    rw [d2]
    simp only [ob_bd]
    rw [t1]
    exact ⟨D', rfl, t2, t3⟩
  rw [if_neg (show ¬ N32 (nn c 7 2) = (2049 : Int32) by rw [show (2049 : Int32) = N32 2049 from rfl, nb_eq (by omega) (by decide)]; exact hK), if_neg hK]
  rw [if_neg hK] at hh
  clear hK
  by_cases hK : nn c 7 2 = 2817
  · rw [if_pos (show N32 (nn c 7 2) = (2817 : Int32) by rw [hK]; rfl), if_pos hK]
    have g : og (fun y k => y = B + 26 ∧ k = 3) D (ob_pI D (B + 26) 3 (bI true)) := og.pI ⟨rfl, rfl⟩
    rw [hH.2.2.1, if_pos (by omega)]
    exact ⟨ob_pI D (B + 26) 3 (bI true), rfl, cW.keepX h0 (hW.uTt (g.mono (fun y k e => by omega)) (ttc_flag htt true)) g (by omega) (by omega) (by omega) (by omega) (fun y k e => by omega)⟩
  rw [if_neg (show ¬ N32 (nn c 7 2) = (2817 : Int32) by rw [show (2817 : Int32) = N32 2817 from rfl, nb_eq (by omega) (by decide)]; exact hK), if_neg hK]
  clear hK
  by_cases hK : nn c 7 2 = 2818
  · rw [if_pos (show N32 (nn c 7 2) = (2818 : Int32) by rw [hK]; rfl), if_pos hK]
    have g : og (fun y k => y = B + 26 ∧ k = 3) D (ob_pI D (B + 26) 3 (bI false)) := og.pI ⟨rfl, rfl⟩
    rw [hH.2.2.1, if_pos (by omega)]
    exact ⟨ob_pI D (B + 26) 3 (bI false), rfl, cW.keepX h0 (hW.uTt (g.mono (fun y k e => by omega)) (ttc_flag htt false)) g (by omega) (by omega) (by omega) (by omega) (fun y k e => by omega)⟩
  rw [if_neg (show ¬ N32 (nn c 7 2) = (2818 : Int32) by rw [show (2818 : Int32) = N32 2818 from rfl, nb_eq (by omega) (by decide)]; exact hK), if_neg hK]
  clear hK
  by_cases hK : nn c 7 2 = 2819
  · rw [if_pos (show N32 (nn c 7 2) = (2819 : Int32) by rw [hK]; rfl), if_pos hK]
    have g : og (fun y k => y = B + 26 ∧ (k = 2 ∨ k = 3)) D (ob_pI (ob_pI D (B + 26) 2 (0 : Int32)) (B + 26) 3 (0 : Int32)) := (og.pI ⟨rfl, Or.inl rfl⟩).tr (og.pI ⟨rfl, Or.inr rfl⟩)
    rw [hH.2.2.1, if_pos (by omega)]
    simp only [ob_lt]
    rw [pI_ref, hH.2.2.1, if_pos (by omega)]
    exact ⟨ob_pI (ob_pI D (B + 26) 2 (0 : Int32)) (B + 26) 3 (0 : Int32), rfl, cW.keepX h0 (hW.uTt (A' := []) (g.mono (fun y k e => by omega)) (ttc_clear htt)) g (by omega) (by omega) (by omega) (by omega) (fun y k e => by omega)⟩
  rw [if_neg (show ¬ N32 (nn c 7 2) = (2819 : Int32) by rw [show (2819 : Int32) = N32 2819 from rfl, nb_eq (by omega) (by decide)]; exact hK), if_neg hK]
  clear hK
  by_cases hK : nn c 7 2 = 2820
  · rw [if_pos (show N32 (nn c 7 2) = (2820 : Int32) by rw [hK]; rfl), if_pos hK]
    rw [if_pos hK] at hh
    have hl := kl_2820 hfo hcl hK
    have h0' := te_0 hh
    have d4 : f_Handler_data S (B + 29 + 2 * m + 80 + 2 * fr + 9) 0 4 D = some (N32 (nn c 11 4), D) := wc_data hH hc (i := 0) (n := 4) (by decide) (by decide)
    have e4 : N32 (c.length - 13) - (4 : Int32) = N32 (c.length - 17) := by rw [show (4 : Int32) = N32 4 from rfl, nb_sub (by omega)]; congr 1
    obtain ⟨D', t1, t2, t3⟩ := ttc_add (time := N32 (nn c 11 4)) (f := 15) (c := c.length - 17) htt (tt_sort_srt A) (by rw [tt_sort_len]; exact h0'.2) hc (by omega) (by omega) (by omega)
    have t1 : f_Timetable_add S (B + 26) (N32 (nn c 11 4)) (B + 29 + 2 * m + 80 + 2 * fr + 12) 15 (N32 (c.length - 17)) D = some D' := t1
    have t2 : cTt S D' (B + 26) m (tt_sort (A ++ [te_new c])) on := by rw [tt_sort_snoc]; exact t2
    rw [hH.2.2.1, if_pos (by omega), d4]
    simp only [ob_bd]
    rw [hH.2.2.2.2.2.2.2.2.1, if_pos (by omega), wc_dlen hH hc (by omega)]
    simp only [ob_bd]
    rw [e4, t1]
    exact ⟨D', rfl, cW.keepX h0 (hW.uTt (t3.mono (fun y k e => ⟨by have := e.1; omega, by have := e.2; omega⟩)) t2) t3 (fun k e => by have := e.1; have := e.2; omega) (fun k e => by have := e.1; have := e.2; omega) (fun k e => by have := e.1; have := e.2; omega) (fun k e => by have := e.1; have := e.2; omega) (fun y k e => ⟨by have := e.1; omega, by have := e.2; omega⟩)⟩
  rw [if_neg (show ¬ N32 (nn c 7 2) = (2820 : Int32) by rw [show (2820 : Int32) = N32 2820 from rfl, nb_eq (by omega) (by decide)]; exact hK), if_neg hK]
  rw [if_neg hK] at hh
  clear hK
  by_cases hK : nn c 7 2 = 2821
  · rw [if_pos (show N32 (nn c 7 2) = (2821 : Int32) by rw [hK]; rfl), if_pos hK]
    rw [if_pos hK] at hh
    have d2 : f_Handler_data S (B + 29 + 2 * m + 80 + 2 * fr + 9) 0 2 D = some (N32 (nn c 11 2), D) := wc_data hH hc (i := 0) (n := 2) (by decide) (by decide)
    obtain ⟨D', t1, t2, t3⟩ := ttc_all (x := nn c 11 2 % 16384) (Nat.mod_lt _ (by decide)) htt
    rw [← tt_sort_filter] at t2
    rw [hH.2.2.1, if_pos (by omega), d2]
    simp only [ob_bd]
    rw [n_16383, t1]
    exact ⟨D', rfl, cW.keepX h0 (hW.uTt (t3.mono (fun y k e => by omega)) t2) t3 (by omega) (by omega) (by omega) (by omega) (fun y k e => by omega)⟩
  rw [if_neg (show ¬ N32 (nn c 7 2) = (2821 : Int32) by rw [show (2821 : Int32) = N32 2821 from rfl, nb_eq (by omega) (by decide)]; exact hK), if_neg hK]
  rw [if_neg hK] at hh
  clear hK
  by_cases hK : nn c 7 2 = 2831
  · rw [if_pos (show N32 (nn c 7 2) = (2831 : Int32) by rw [hK]; rfl), if_pos hK]
    rw [if_pos hK] at hh
    have d4 : f_Handler_data S (B + 29 + 2 * m + 80 + 2 * fr + 9) 0 4 D = some (N32 (nn c 11 4), D) := wc_data hH hc (i := 0) (n := 4) (by decide) (by decide)
    have hcan : tt_can (N32 (nn c 11 4)) (N32 cr.2.2.1) A = true := by
      unfold te_can at hh
      by_cases e : tt_can (N32 (nn c 11 4)) (N32 cr.2.2.1) A = true
      · exact e
      · rw [if_neg e] at hh; exact absurd hh (by decide)
    obtain ⟨D', t1, t2, t3⟩ := ttc_shift htt (N32 (nn c 11 4))
    rw [← shift_sort hcan] at t2
    rw [hH.2.2.1, if_pos (by omega), d4]
    simp only [ob_bd]
    rw [t1]
    exact ⟨D', rfl, cW.keepX h0 (hW.uTt (t3.mono (fun y k e => by omega)) t2) t3 (by omega) (by omega) (by omega) (by omega) (fun y k e => by omega)⟩
  rw [if_neg (show ¬ N32 (nn c 7 2) = (2831 : Int32) by rw [show (2831 : Int32) = N32 2831 from rfl, nb_eq (by omega) (by decide)]; exact hK), if_neg hK]
  rw [if_neg hK] at hh
  clear hK
  by_cases hK : nn c 7 2 = 2833
  · rw [if_pos (show N32 (nn c 7 2) = (2833 : Int32) by rw [hK]; rfl), if_pos hK]
    obtain ⟨D', t1, t2, t3⟩ := hc_tell h0
    rw [t1]
    exact ⟨D', rfl, t2, t3⟩
  rw [if_neg (show ¬ N32 (nn c 7 2) = (2833 : Int32) by rw [show (2833 : Int32) = N32 2833 from rfl, nb_eq (by omega) (by decide)]; exact hK), if_neg hK]
  clear hK
  by_cases hK : nn c 7 2 = 3073
  · rw [if_pos (show N32 (nn c 7 2) = (3073 : Int32) by rw [hK]; rfl), if_pos hK]
    rw [if_pos hK] at hh
    obtain ⟨i, hi, hfi, hki, -⟩ := lf_0 (by decide) hh
    have ef := kt_find (cLm_kt.mp hlm) lm_l0 lm_o0 b11
    rw [hfi] at ef
    have ef : f_Table_find S (B + 29 + 2 * m + 71) (N32 (c.getD 11 0)) D = some (N32 i, D) := ef
    obtain ⟨D', t1, t2, t3⟩ := hc_swlim hH hlm hfi true
    have t1 : f_Handler_switchLimit S (B + 29 + 2 * m + 80 + 2 * fr + 9) (N32 i) 1 D = some D' := t1
    rw [hH.2.2.2.2.2.2.1, if_pos (by omega), d0]
    simp only [ob_bd]
    rw [ef]
    simp only [ob_bd]
    rw [t1]
    exact ⟨D', rfl, cW.keepX h0 (hW.uLm (t3.up.mono (fun y k e => by omega)) t2) t3.up (by omega) (by omega) (by omega) (by omega) (fun y k e => by omega)⟩
  rw [if_neg (show ¬ N32 (nn c 7 2) = (3073 : Int32) by rw [show (3073 : Int32) = N32 3073 from rfl, nb_eq (by omega) (by decide)]; exact hK), if_neg hK]
  rw [if_neg hK] at hh
  clear hK
  by_cases hK : nn c 7 2 = 3074
  · rw [if_pos (show N32 (nn c 7 2) = (3074 : Int32) by rw [hK]; rfl), if_pos hK]
    rw [if_pos hK] at hh
    obtain ⟨i, hi, hfi, hki, -⟩ := lf_0 (by decide) hh
    have ef := kt_find (cLm_kt.mp hlm) lm_l0 lm_o0 b11
    rw [hfi] at ef
    have ef : f_Table_find S (B + 29 + 2 * m + 71) (N32 (c.getD 11 0)) D = some (N32 i, D) := ef
    obtain ⟨D', t1, t2, t3⟩ := hc_swlim hH hlm hfi false
    have t1 : f_Handler_switchLimit S (B + 29 + 2 * m + 80 + 2 * fr + 9) (N32 i) 0 D = some D' := t1
    rw [hH.2.2.2.2.2.2.1, if_pos (by omega), d0]
    simp only [ob_bd]
    rw [ef]
    simp only [ob_bd]
    rw [t1]
    exact ⟨D', rfl, cW.keepX h0 (hW.uLm (t3.up.mono (fun y k e => by omega)) t2) t3.up (by omega) (by omega) (by omega) (by omega) (fun y k e => by omega)⟩
  rw [if_neg (show ¬ N32 (nn c 7 2) = (3074 : Int32) by rw [show (3074 : Int32) = N32 3074 from rfl, nb_eq (by omega) (by decide)]; exact hK), if_neg hK]
  rw [if_neg hK] at hh
  clear hK
  by_cases hK : nn c 7 2 = 3077
  · rw [if_pos (show N32 (nn c 7 2) = (3077 : Int32) by rw [hK]; rfl), if_pos hK]
    rw [if_pos hK] at hh
    obtain ⟨D', t1, t2, t3⟩ := hc_addlim hH hc hlm hh
    rw [t1]
    exact ⟨D', rfl, cW.keepX h0 (hW.uLm (t3.up.mono (fun y k e => by omega)) t2) t3.up (by omega) (by omega) (by omega) (by omega) (fun y k e => by omega)⟩
  rw [if_neg (show ¬ N32 (nn c 7 2) = (3077 : Int32) by rw [show (3077 : Int32) = N32 3077 from rfl, nb_eq (by omega) (by decide)]; exact hK), if_neg hK]
  rw [if_neg hK] at hh
  clear hK
  by_cases hK : nn c 7 2 = 3078
  · rw [if_pos (show N32 (nn c 7 2) = (3078 : Int32) by rw [hK]; rfl), if_pos hK]
    rw [if_pos hK] at hh
    obtain ⟨i, hi, hfi, hki, -⟩ := lf_0 (by decide) hh
    have ef := kt_find (cLm_kt.mp hlm) lm_l0 lm_o0 b11
    rw [hfi] at ef
    have ef : f_Table_find S (B + 29 + 2 * m + 71) (N32 (c.getD 11 0)) D = some (N32 i, D) := ef
    obtain ⟨D', t1, t2, t3⟩ := kt_rem (cLm_kt.mp hlm) hi
    rw [hH.2.2.2.2.2.2.1, if_pos (by omega), if_pos (by omega), d0]
    simp only [ob_bd]
    rw [ef]
    simp only [ob_bd]
    rw [t1]
    rw [lm_rem_eq hfi]
    have t2 : cLm S D' (B + 29 + 2 * m + 71) (lm.eraseIdx i) := t2
    exact ⟨D', rfl, cW.keepX h0 (hW.uLm (t3.up.mono (fun y k e => by omega)) t2) t3.up (by omega) (by omega) (by omega) (by omega) (fun y k e => by omega)⟩
  rw [if_neg (show ¬ N32 (nn c 7 2) = (3078 : Int32) by rw [show (3078 : Int32) = N32 3078 from rfl, nb_eq (by omega) (by decide)]; exact hK), if_neg hK]
  rw [if_neg hK] at hh
  clear hK
  by_cases hK : nn c 7 2 = 3841
  · rw [if_pos (show N32 (nn c 7 2) = (3841 : Int32) by rw [hK]; rfl), if_pos hK]
    rw [if_pos hK] at hh
    have he : c.getD 11 0 < 32 := by
      by_cases e : c.getD 11 0 < 32
      · exact e
      · rw [if_neg e] at hh; exact absurd hh (by decide)
    obtain ⟨D', t1, t2, t3⟩ := hc_sto hH hrp he true
    have t1 : f_Handler_setStored S (B + 29 + 2 * m + 80 + 2 * fr + 9) (N32 (c.getD 11 0)) 1 D = some D' := t1
    rw [d0]
    simp only [ob_bd]
    rw [t1]
    exact ⟨D', rfl, cW.keepX h0 (hW.uRp (t3.up.mono (fun y k e => by omega)) t2) t3.up (by omega) (by omega) (by omega) (by omega) (fun y k e => by omega)⟩
  rw [if_neg (show ¬ N32 (nn c 7 2) = (3841 : Int32) by rw [show (3841 : Int32) = N32 3841 from rfl, nb_eq (by omega) (by decide)]; exact hK), if_neg hK]
  rw [if_neg hK] at hh
  clear hK
  by_cases hK : nn c 7 2 = 3842
  · rw [if_pos (show N32 (nn c 7 2) = (3842 : Int32) by rw [hK]; rfl), if_pos hK]
    rw [if_pos hK] at hh
    have he : c.getD 11 0 < 32 := by
      by_cases e : c.getD 11 0 < 32
      · exact e
      · rw [if_neg e] at hh; exact absurd hh (by decide)
    obtain ⟨D', t1, t2, t3⟩ := hc_sto hH hrp he false
    have t1 : f_Handler_setStored S (B + 29 + 2 * m + 80 + 2 * fr + 9) (N32 (c.getD 11 0)) 0 D = some D' := t1
    rw [d0]
    simp only [ob_bd]
    rw [t1]
    exact ⟨D', rfl, cW.keepX h0 (hW.uRp (t3.up.mono (fun y k e => by omega)) t2) t3.up (by omega) (by omega) (by omega) (by omega) (fun y k e => by omega)⟩
  rw [if_neg (show ¬ N32 (nn c 7 2) = (3842 : Int32) by rw [show (3842 : Int32) = N32 3842 from rfl, nb_eq (by omega) (by decide)]; exact hK), if_neg hK]
  rw [if_neg hK] at hh
  clear hK
  by_cases hK : nn c 7 2 = 3849
  · rw [if_pos (show N32 (nn c 7 2) = (3849 : Int32) by rw [hK]; rfl), if_pos hK]
    rw [if_pos hK] at hh
    have d4 : f_Handler_data S (B + 29 + 2 * m + 80 + 2 * fr + 9) 0 4 D = some (N32 (nn c 11 4), D) := wc_data hH hc (i := 0) (n := 4) (by decide) (by decide)
    have d8 : f_Handler_data S (B + 29 + 2 * m + 80 + 2 * fr + 9) 4 4 D = some (N32 (nn c 15 4), D) := wc_data hH hc (i := 4) (n := 4) (by decide) (by decide)
    obtain ⟨D', t1, t2, t3⟩ := rpc_want hrp (N32 (nn c 11 4)) (N32 (nn c 15 4))
    rw [hH.2.2.2.2.1, if_pos (by omega), d4]
    simp only [ob_bd]
    rw [d8]
    simp only [ob_bd]
    rw [t1]
    exact ⟨D', rfl, cW.keepX h0 (hW.uRp (t3.mono (fun y k e => by omega)) t2) t3 (by omega) (by omega) (by omega) (by omega) (fun y k e => by omega)⟩
  rw [if_neg (show ¬ N32 (nn c 7 2) = (3849 : Int32) by rw [show (3849 : Int32) = N32 3849 from rfl, nb_eq (by omega) (by decide)]; exact hK), if_neg hK]
  rw [if_neg hK] at hh
  clear hK
  by_cases hK : nn c 7 2 = 3851
  · rw [if_pos (show N32 (nn c 7 2) = (3851 : Int32) by rw [hK]; rfl), if_pos hK]
    have d4 : f_Handler_data S (B + 29 + 2 * m + 80 + 2 * fr + 9) 0 4 D = some (N32 (nn c 11 4), D) := wc_data hH hc (i := 0) (n := 4) (by decide) (by decide)
    obtain ⟨D', t1, t2, t3⟩ := rpc_drop hrp (N32 (nn c 11 4))
    rw [hH.2.2.2.2.1, if_pos (by omega), d4]
    simp only [ob_bd]
    rw [t1]
    exact ⟨D', rfl, cW.keepX h0 (hW.uRp (t3.mono (fun y k e => by omega)) t2) t3 (by omega) (by omega) (by omega) (by omega) (fun y k e => by omega)⟩
  rw [if_neg (show ¬ N32 (nn c 7 2) = (3851 : Int32) by rw [show (3851 : Int32) = N32 3851 from rfl, nb_eq (by omega) (by decide)]; exact hK), if_neg hK]
  clear hK
  by_cases hK : nn c 7 2 = 3852
  · rw [if_pos (show N32 (nn c 7 2) = (3852 : Int32) by rw [hK]; rfl), if_pos hK]
    rw [if_pos hK] at hh
    have g : og (fun y k => y = B + 29 + 2 * m + 80 + 2 * fr ∧ k = 8) D (ob_pI D (B + 29 + 2 * m + 80 + 2 * fr) 8 (0 : Int32)) := og.pI ⟨rfl, rfl⟩
    rw [hH.2.2.2.2.1, if_pos (by omega)]
    exact ⟨ob_pI D (B + 29 + 2 * m + 80 + 2 * fr) 8 (0 : Int32), rfl, cW.keepX h0 (hW.uRp (g.mono (fun y k e => by omega)) (rpc_stop hrp)) g (by omega) (by omega) (by omega) (by omega) (fun y k e => by omega)⟩
  rw [if_neg (show ¬ N32 (nn c 7 2) = (3852 : Int32) by rw [show (3852 : Int32) = N32 3852 from rfl, nb_eq (by omega) (by decide)]; exact hK), if_neg hK]
  rw [if_neg hK] at hh
  clear hK
  by_cases hK : nn c 7 2 = 4353
  · rw [if_pos (show N32 (nn c 7 2) = (4353 : Int32) by rw [hK]; rfl), if_pos hK]
    obtain ⟨p, hp⟩ := h0.2.1
    obtain ⟨D5, b1, b2, b3, b4, b5⟩ := wc_begin hW hp hc (s := 17) (k := 2) (by decide) (by decide)
    have hd5 := b2.hd
    obtain ⟨D', t1, t2, t3⟩ := wc_done (body := []) b2 (by rw [List.append_nil]; exact b3) b4 (by decide) (by decide)
    have b1 : f_Reports_begin S (B + 29 + 2 * m + 80 + 2 * fr) 17 2 (D.1 (B + 29 + 2 * m + 80 + 2 * fr + 7) 8) D = some (B + 29 + 2 * m + 80 + 2 * fr + 3, D5) := b1
    rw [hH.2.2.2.2.1, if_pos (by omega), hH.1, if_pos (by omega), b1]
    simp only [ob_bd]
    rw [if_pos hH.2.2.2.2.2.2.2.2.2, hd5.2.2.2.2.1, if_pos (by omega), t1]
    exact ⟨D', rfl, t2, b5.tr t3⟩
  rw [if_neg (show ¬ N32 (nn c 7 2) = (4353 : Int32) by rw [show (4353 : Int32) = N32 4353 from rfl, nb_eq (by omega) (by decide)]; exact hK), if_neg hK]
  clear hK
  by_cases hK : nn c 7 2 = 4865
  · rw [if_pos (show N32 (nn c 7 2) = (4865 : Int32) by rw [hK]; rfl), if_pos hK]
    rw [if_pos hK] at hh
    have hl := kl_4865 hfo hcl hK
    have he : c.getD 11 0 < 32 := by
      unfold na_v at hh
      by_cases e : c.getD 11 0 < 32
      · exact e
      · rw [if_neg e] at hh; exact absurd hh (by decide)
    obtain ⟨D', t1, t2, t3⟩ := hc_act hH hc hev he (by omega)
    rw [d0]
    simp only [ob_bd]
    rw [t1]
    exact ⟨D', rfl, cW.keepX h0 (hW.uEv (t3.up.mono (fun y k e => by omega)) t2) t3.up (by omega) (by omega) (by omega) (by omega) (fun y k e => by omega)⟩
  rw [if_neg (show ¬ N32 (nn c 7 2) = (4865 : Int32) by rw [show (4865 : Int32) = N32 4865 from rfl, nb_eq (by omega) (by decide)]; exact hK), if_neg hK]
  rw [if_neg hK] at hh
  clear hK
  by_cases hK : nn c 7 2 = 4866
  · rw [if_pos (show N32 (nn c 7 2) = (4866 : Int32) by rw [hK]; rfl), if_pos hK]
    rw [if_pos hK] at hh
    have he : c.getD 11 0 < 32 := by
      unfold af_v at hh
      by_cases e : c.getD 11 0 < 32
      · exact e
      · rw [if_neg e] at hh; exact absurd hh (by decide)
    obtain ⟨D', t1, t2, t3⟩ := hc_dro hH hev he
    rw [d0]
    simp only [ob_bd]
    rw [t1]
    exact ⟨D', rfl, cW.keepX h0 (hW.uEv (t3.up.mono (fun y k e => by omega)) t2) t3.up (by omega) (by omega) (by omega) (by omega) (fun y k e => by omega)⟩
  rw [if_neg (show ¬ N32 (nn c 7 2) = (4866 : Int32) by rw [show (4866 : Int32) = N32 4866 from rfl, nb_eq (by omega) (by decide)]; exact hK), if_neg hK]
  rw [if_neg hK] at hh
  clear hK
  by_cases hK : nn c 7 2 = 4868
  · rw [if_pos (show N32 (nn c 7 2) = (4868 : Int32) by rw [hK]; rfl), if_pos hK]
    rw [if_pos hK] at hh
    have he : c.getD 11 0 < 32 := by
      unfold af_v at hh
      by_cases e : c.getD 11 0 < 32
      · exact e
      · rw [if_neg e] at hh; exact absurd hh (by decide)
    obtain ⟨D', t1, t2, t3⟩ := hc_sw hH hev he true
    have t1 : f_Handler_switchAction S (B + 29 + 2 * m + 80 + 2 * fr + 9) (N32 (c.getD 11 0)) 1 D = some D' := t1
    rw [d0]
    simp only [ob_bd]
    rw [t1]
    exact ⟨D', rfl, cW.keepX h0 (hW.uEv (t3.up.mono (fun y k e => by omega)) t2) t3.up (by omega) (by omega) (by omega) (by omega) (fun y k e => by omega)⟩
  rw [if_neg (show ¬ N32 (nn c 7 2) = (4868 : Int32) by rw [show (4868 : Int32) = N32 4868 from rfl, nb_eq (by omega) (by decide)]; exact hK), if_neg hK]
  rw [if_neg hK] at hh
  clear hK
  by_cases hK : nn c 7 2 = 4869
  · rw [if_pos (show N32 (nn c 7 2) = (4869 : Int32) by rw [hK]; rfl), if_pos hK]
    rw [if_pos hK] at hh
    have he : c.getD 11 0 < 32 := by
      unfold af_v at hh
      by_cases e : c.getD 11 0 < 32
      · exact e
      · rw [if_neg e] at hh; exact absurd hh (by decide)
    obtain ⟨D', t1, t2, t3⟩ := hc_sw hH hev he false
    have t1 : f_Handler_switchAction S (B + 29 + 2 * m + 80 + 2 * fr + 9) (N32 (c.getD 11 0)) 0 D = some D' := t1
    rw [d0]
    simp only [ob_bd]
    rw [t1]
    exact ⟨D', rfl, cW.keepX h0 (hW.uEv (t3.up.mono (fun y k e => by omega)) t2) t3.up (by omega) (by omega) (by omega) (by omega) (fun y k e => by omega)⟩
  rw [if_neg (show ¬ N32 (nn c 7 2) = (4869 : Int32) by rw [show (4869 : Int32) = N32 4869 from rfl, nb_eq (by omega) (by decide)]; exact hK), if_neg hK]
  rw [if_neg hK] at hh
  clear hK
  exact ⟨D, rfl, h0, og.rf⟩
