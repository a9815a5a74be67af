-- ===== what a command fails by, in the reference =====
theorem kf_go_mem {k len s : Nat} : ∀ t : List (Nat × Int32), kf_go k len s t = 0 → k ∈ t.map (fun p => p.1)
  | [], h => absurd (show (6 : Nat) = 0 from h) (by decide)
  | (q, c) :: t, h => by
    rw [kf_go] at h
    by_cases e : k = q
    · rw [List.map_cons]; exact List.mem_cons.mpr (Or.inl e)
    · rw [if_neg e] at h
      exact List.mem_cons_of_mem _ (kf_go_mem t h)
theorem kf_mem {k len s : Nat} (h : kf k len s = 0) : k ∈ [769, 771, 773, 774, 795, 1285, 1286, 1538, 1541, 1545, 2049, 2817, 2818, 2819, 2820, 2821, 2831, 2833, 3073, 3074, 3077, 3078, 3841, 3842, 3849, 3851, 3852, 4353, 4865, 4866, 4868, 4869] := kf_go_mem kf_t h
theorem wm_failure {S : ob_S} {D : ob_D} {M m fr F w pt : Nat} {z : sW} {c : List Nat} (h : mX S D M m fr F w pt z c) (hfo : fo c = 0) (hm : m ≤ 64) (hAm : z.2.2.1.length ≤ m) : f_Model_failure S M (N32 (c.getD 7 0)) (N32 (c.getD 8 0)) D = some (N32 (hf m c z), D) := by
  obtain ⟨gt, rc, A, on, ev, lm, ch, frs, rp, cr, fm, me⟩ := z
  obtain ⟨hW, -, hc⟩ := h
  have hA := hW.mA
  have hfm := hW.2.2.2.2.2.2.2.2.2.2.1
  have hlm := hW.2.2.2.2.2.1
  have hev := hW.2.2.2.2.1
  have htt := hW.2.2.2.1
  have hcr := hW.2.2.2.2.2.2.2.2.2.1
  have hrp := hW.2.2.2.2.2.2.2.2.1
  have hks := hW.2.2.2.2.2.2.2.2.2.2.2.2
  have hcl := hc.2.1
  have hb := hc.2.2.2
  have b11 := by_getD_lt hb 11
  have b7 := by_getD_lt hb 7
  have b8 := by_getD_lt hb 8
  have b72 := nn_lt hb 7 2
  have e72 : nn c 7 2 = c.getD 7 0 * 256 + c.getD 8 0 := nn_2 c 7
  have ek : hf m c (gt, rc, A, on, ev, lm, ch, frs, rp, cr, fm, me) = if nn c 7 2 = 769 then (nf_v c fm) else if nn c 7 2 = 771 then (lf_v 14 true (fun f : sFm => f.1) (fun f : sFm => f.2.1) (c.getD 11 0) fm) else if nn c 7 2 = 773 then (lf_v 14 false (fun f : sFm => f.1) (fun f : sFm => f.2.1) (c.getD 11 0) fm) else if nn c 7 2 = 774 then (lf_v 14 false (fun f : sFm => f.1) (fun f : sFm => f.2.1) (c.getD 11 0) fm) else if nn c 7 2 = 795 then (lf_v 14 false (fun f : sFm => f.1) (fun f : sFm => f.2.1) (c.getD 11 0) fm) else if nn c 7 2 = 1285 then (if c.getD 11 0 < 32 then 0 else 16) else if nn c 7 2 = 1286 then (if c.getD 11 0 < 32 then 0 else 16) else if nn c 7 2 = 1538 then (pm_v (c.getD 13 0) (nn c 11 2)) else if nn c 7 2 = 1541 then (pm_v (c.getD 13 0) (nn c 11 2)) else if nn c 7 2 = 1545 then (pm_v (nn c 13 2) (nn c 11 2)) else if nn c 7 2 = 2049 then (ff_v (c.getD 11 0) (c.getD 12 0) cr.2.1) else if nn c 7 2 = 2820 then (te_v c A.length m cr.2.2.1) else if nn c 7 2 = 2821 then (te_has c A) else if nn c 7 2 = 2831 then (te_can c cr.2.2.1 A) else if nn c 7 2 = 3073 then (lf_v 27 false (fun f : sLm => f.1) (fun f : sLm => f.2.1) (c.getD 11 0) lm) else if nn c 7 2 = 3074 then (lf_v 27 false (fun f : sLm => f.1) (fun f : sLm => f.2.1) (c.getD 11 0) lm) else if nn c 7 2 = 3077 then (nl_v c lm) else if nn c 7 2 = 3078 then (lf_v 27 true (fun f : sLm => f.1) (fun f : sLm => f.2.1) (c.getD 11 0) lm) else if nn c 7 2 = 3841 then (if c.getD 11 0 < 32 then 0 else 32) else if nn c 7 2 = 3842 then (if c.getD 11 0 < 32 then 0 else 32) else if nn c 7 2 = 3849 then (if rp.2.2.2.2.2.1 = true then 28 else 0) else if nn c 7 2 = 3852 then (if rp.2.2.2.2.2.1 = true then 0 else 28) else if nn c 7 2 = 4865 then (na_v c ev) else if nn c 7 2 = 4866 then (af_v true c ev) else if nn c 7 2 = 4868 then (af_v false c ev) else if nn c 7 2 = 4869 then (af_v false c ev) else 0 := rfl
  rw [ek]
  clear ek
  unfold f_Model_failure
  by_cases hK769 : nn c 7 2 = 769
  · rw [if_pos hK769, show c.getD 7 0 = 3 by omega, show c.getD 8 0 = 1 by omega, if_pos (show N32 3 = (3 : Int32) by decide)]
    have e : f_Model_formFailure S M (N32 1) D = _ := wm_newform hA hc hfm (kl_769 hfo hcl hK769)
    rw [e]
    rfl
  rw [if_neg hK769]
  by_cases hK771 : nn c 7 2 = 771
  · rw [if_pos hK771, show c.getD 7 0 = 3 by omega, show c.getD 8 0 = 3 by omega, if_pos (show N32 3 = (3 : Int32) by decide)]
    have hl := kl_771 hfo hcl hK771
    have e : f_Model_formFailure S M (N32 3) D = _ := wm_formfail (t := 3) hA hc hfm (by omega) (by decide) (by decide)
    rw [e]
    rfl
  rw [if_neg hK771]
  by_cases hK773 : nn c 7 2 = 773
  · rw [if_pos hK773, show c.getD 7 0 = 3 by omega, show c.getD 8 0 = 5 by omega, if_pos (show N32 3 = (3 : Int32) by decide)]
    have hl := kl_773 hfo hcl hK773
    have e : f_Model_formFailure S M (N32 5) D = _ := wm_formfail (t := 5) hA hc hfm (by omega) (by decide) (by decide)
    rw [e]
    rfl
  rw [if_neg hK773]
  by_cases hK774 : nn c 7 2 = 774
  · rw [if_pos hK774, show c.getD 7 0 = 3 by omega, show c.getD 8 0 = 6 by omega, if_pos (show N32 3 = (3 : Int32) by decide)]
    have hl := kl_774 hfo hcl hK774
    have e : f_Model_formFailure S M (N32 6) D = _ := wm_formfail (t := 6) hA hc hfm (by omega) (by decide) (by decide)
    rw [e]
    rfl
  rw [if_neg hK774]
  by_cases hK795 : nn c 7 2 = 795
  · rw [if_pos hK795, show c.getD 7 0 = 3 by omega, show c.getD 8 0 = 27 by omega, if_pos (show N32 3 = (3 : Int32) by decide)]
    have hl := kl_795 hfo hcl hK795
    have e : f_Model_formFailure S M (N32 27) D = _ := wm_formfail (t := 27) hA hc hfm (by omega) (by decide) (by decide)
    rw [e]
    rfl
  rw [if_neg hK795]
  by_cases hK1285 : nn c 7 2 = 1285
  · rw [if_pos hK1285, show c.getD 7 0 = 5 by omega, show c.getD 8 0 = 5 by omega, if_neg (show ¬ N32 5 = (3 : Int32) by decide), if_pos (show N32 5 = (5 : Int32) by decide)]
    have hl := kl_1285 hfo hcl hK1285
    rw [wm_d0 hA hc (by omega)]
    simp only [ob_bd]
    by_cases he : c.getD 11 0 < 32
    · rw [if_pos (by rw [show (31 : Int32) = N32 31 from rfl, nb_le (by omega) (by decide)]; omega), if_pos he]; rfl
    · rw [if_neg (by rw [show (31 : Int32) = N32 31 from rfl, nb_le (by omega) (by decide)]; omega), if_neg he]; rfl
  rw [if_neg hK1285]
  by_cases hK1286 : nn c 7 2 = 1286
  · rw [if_pos hK1286, show c.getD 7 0 = 5 by omega, show c.getD 8 0 = 6 by omega, if_neg (show ¬ N32 5 = (3 : Int32) by decide), if_pos (show N32 5 = (5 : Int32) by decide)]
    have hl := kl_1286 hfo hcl hK1286
    rw [wm_d0 hA hc (by omega)]
    simp only [ob_bd]
    by_cases he : c.getD 11 0 < 32
    · rw [if_pos (by rw [show (31 : Int32) = N32 31 from rfl, nb_le (by omega) (by decide)]; omega), if_pos he]; rfl
    · rw [if_neg (by rw [show (31 : Int32) = N32 31 from rfl, nb_le (by omega) (by decide)]; omega), if_neg he]; rfl
  rw [if_neg hK1286]
  by_cases hK1538 : nn c 7 2 = 1538
  · rw [if_pos hK1538, show c.getD 7 0 = 6 by omega, show c.getD 8 0 = 2 by omega, if_neg (show ¬ N32 6 = (3 : Int32) by decide), if_neg (show ¬ N32 6 = (5 : Int32) by decide), if_pos (show N32 6 = (6 : Int32) by decide)]
    have hl := kl_1538 hfo hcl hK1538
    have e : f_Model_memoryFailure S M (N32 2) D = _ := wm_memfail (t := 2) hA hc (by decide) (by rw [if_neg (by decide)]; omega)
    rw [e]
    rfl
  rw [if_neg hK1538]
  by_cases hK1541 : nn c 7 2 = 1541
  · rw [if_pos hK1541, show c.getD 7 0 = 6 by omega, show c.getD 8 0 = 5 by omega, if_neg (show ¬ N32 6 = (3 : Int32) by decide), if_neg (show ¬ N32 6 = (5 : Int32) by decide), if_pos (show N32 6 = (6 : Int32) by decide)]
    have hl := kl_1541 hfo hcl hK1541
    have e : f_Model_memoryFailure S M (N32 5) D = _ := wm_memfail (t := 5) hA hc (by decide) (by rw [if_neg (by decide)]; omega)
    rw [e]
    rfl
  rw [if_neg hK1541]
  by_cases hK1545 : nn c 7 2 = 1545
  · rw [if_pos hK1545, show c.getD 7 0 = 6 by omega, show c.getD 8 0 = 9 by omega, if_neg (show ¬ N32 6 = (3 : Int32) by decide), if_neg (show ¬ N32 6 = (5 : Int32) by decide), if_pos (show N32 6 = (6 : Int32) by decide)]
    have hl := kl_1545 hfo hcl hK1545
    have e : f_Model_memoryFailure S M (N32 9) D = _ := wm_memfail (t := 9) hA hc (by decide) (by rw [if_pos rfl]; omega)
    rw [e]
    rfl
  rw [if_neg hK1545]
  by_cases hK2049 : nn c 7 2 = 2049
  · rw [if_pos hK2049, show c.getD 7 0 = 8 by omega, show c.getD 8 0 = 1 by omega, if_neg (show ¬ N32 8 = (3 : Int32) by decide), if_neg (show ¬ N32 8 = (5 : Int32) by decide), if_neg (show ¬ N32 8 = (6 : Int32) by decide), if_pos (show N32 8 = (8 : Int32) by decide)]
    have hl := kl_2049 hfo hcl hK2049
    rw [wm_funfail hA hc hcr (by omega)]
    rfl
  rw [if_neg hK2049]
  by_cases hK2820 : nn c 7 2 = 2820
  · rw [if_pos hK2820, show c.getD 7 0 = 11 by omega, show c.getD 8 0 = 4 by omega, if_neg (show ¬ N32 11 = (3 : Int32) by decide), if_neg (show ¬ N32 11 = (5 : Int32) by decide), if_neg (show ¬ N32 11 = (6 : Int32) by decide), if_neg (show ¬ N32 11 = (8 : Int32) by decide), if_pos (show N32 11 = (11 : Int32) by decide)]
    have hl := kl_2820 hfo hcl hK2820
    have e : f_Model_tableFailure S M (N32 4) D = _ := wm_newentry hA hc htt hcr hks.1 hm hAm (by omega)
    rw [e]
    rfl
  rw [if_neg hK2820]
  by_cases hK2821 : nn c 7 2 = 2821
  · rw [if_pos hK2821, show c.getD 7 0 = 11 by omega, show c.getD 8 0 = 5 by omega, if_neg (show ¬ N32 11 = (3 : Int32) by decide), if_neg (show ¬ N32 11 = (5 : Int32) by decide), if_neg (show ¬ N32 11 = (6 : Int32) by decide), if_neg (show ¬ N32 11 = (8 : Int32) by decide), if_pos (show N32 11 = (11 : Int32) by decide)]
    have hl := kl_2821 hfo hcl hK2821
    have e : f_Model_tableFailure S M (N32 5) D = _ := wm_has hA hc htt (by omega)
    rw [e]
    rfl
  rw [if_neg hK2821]
  by_cases hK2831 : nn c 7 2 = 2831
  · rw [if_pos hK2831, show c.getD 7 0 = 11 by omega, show c.getD 8 0 = 15 by omega, if_neg (show ¬ N32 11 = (3 : Int32) by decide), if_neg (show ¬ N32 11 = (5 : Int32) by decide), if_neg (show ¬ N32 11 = (6 : Int32) by decide), if_neg (show ¬ N32 11 = (8 : Int32) by decide), if_pos (show N32 11 = (11 : Int32) by decide)]
    have hl := kl_2831 hfo hcl hK2831
    have e : f_Model_tableFailure S M (N32 15) D = _ := wm_can hA hc htt hcr (by omega)
    rw [e]
    rfl
  rw [if_neg hK2831]
  by_cases hK3073 : nn c 7 2 = 3073
  · rw [if_pos hK3073, show c.getD 7 0 = 12 by omega, show c.getD 8 0 = 1 by omega, if_neg (show ¬ N32 12 = (3 : Int32) by decide), if_neg (show ¬ N32 12 = (5 : Int32) by decide), if_neg (show ¬ N32 12 = (6 : Int32) by decide), if_neg (show ¬ N32 12 = (8 : Int32) by decide), if_neg (show ¬ N32 12 = (11 : Int32) by decide), if_pos (show N32 12 = (12 : Int32) by decide)]
    have hl := kl_3073 hfo hcl hK3073
    have e : f_Model_limitFailure S M (N32 1) D = _ := wm_limfail (t := 1) hA hc hlm (by omega) (by decide) (by decide)
    rw [e]
    rfl
  rw [if_neg hK3073]
  by_cases hK3074 : nn c 7 2 = 3074
  · rw [if_pos hK3074, show c.getD 7 0 = 12 by omega, show c.getD 8 0 = 2 by omega, if_neg (show ¬ N32 12 = (3 : Int32) by decide), if_neg (show ¬ N32 12 = (5 : Int32) by decide), if_neg (show ¬ N32 12 = (6 : Int32) by decide), if_neg (show ¬ N32 12 = (8 : Int32) by decide), if_neg (show ¬ N32 12 = (11 : Int32) by decide), if_pos (show N32 12 = (12 : Int32) by decide)]
    have hl := kl_3074 hfo hcl hK3074
    have e : f_Model_limitFailure S M (N32 2) D = _ := wm_limfail (t := 2) hA hc hlm (by omega) (by decide) (by decide)
    rw [e]
    rfl
  rw [if_neg hK3074]
  by_cases hK3077 : nn c 7 2 = 3077
  · rw [if_pos hK3077, show c.getD 7 0 = 12 by omega, show c.getD 8 0 = 5 by omega, if_neg (show ¬ N32 12 = (3 : Int32) by decide), if_neg (show ¬ N32 12 = (5 : Int32) by decide), if_neg (show ¬ N32 12 = (6 : Int32) by decide), if_neg (show ¬ N32 12 = (8 : Int32) by decide), if_neg (show ¬ N32 12 = (11 : Int32) by decide), if_pos (show N32 12 = (12 : Int32) by decide)]
    have e : f_Model_limitFailure S M (N32 5) D = _ := wm_newlim hA hc hlm (kl_3077 hfo hcl hK3077)
    rw [e]
    rfl
  rw [if_neg hK3077]
  by_cases hK3078 : nn c 7 2 = 3078
  · rw [if_pos hK3078, show c.getD 7 0 = 12 by omega, show c.getD 8 0 = 6 by omega, if_neg (show ¬ N32 12 = (3 : Int32) by decide), if_neg (show ¬ N32 12 = (5 : Int32) by decide), if_neg (show ¬ N32 12 = (6 : Int32) by decide), if_neg (show ¬ N32 12 = (8 : Int32) by decide), if_neg (show ¬ N32 12 = (11 : Int32) by decide), if_pos (show N32 12 = (12 : Int32) by decide)]
    have hl := kl_3078 hfo hcl hK3078
    have e : f_Model_limitFailure S M (N32 6) D = _ := wm_limfail (t := 6) hA hc hlm (by omega) (by decide) (by decide)
    rw [e]
    rfl
  rw [if_neg hK3078]
  by_cases hK3841 : nn c 7 2 = 3841
  · rw [if_pos hK3841, show c.getD 7 0 = 15 by omega, show c.getD 8 0 = 1 by omega, if_neg (show ¬ N32 15 = (3 : Int32) by decide), if_neg (show ¬ N32 15 = (5 : Int32) by decide), if_neg (show ¬ N32 15 = (6 : Int32) by decide), if_neg (show ¬ N32 15 = (8 : Int32) by decide), if_neg (show ¬ N32 15 = (11 : Int32) by decide), if_neg (show ¬ N32 15 = (12 : Int32) by decide), if_pos (show N32 15 = (15 : Int32) by decide)]
    have hl := kl_3841 hfo hcl hK3841
    unfold f_Model_storeFailure f_Model_storeFailure_L10
    rw [if_pos (by decide), wm_d0 hA hc (by omega)]
    simp only [ob_bd]
    by_cases he : c.getD 11 0 < 32
    · rw [if_pos (by rw [show (31 : Int32) = N32 31 from rfl, nb_le (by omega) (by decide)]; omega), if_pos he]; rfl
    · rw [if_neg (by rw [show (31 : Int32) = N32 31 from rfl, nb_le (by omega) (by decide)]; omega), if_neg he]; rfl
  rw [if_neg hK3841]
  by_cases hK3842 : nn c 7 2 = 3842
  · rw [if_pos hK3842, show c.getD 7 0 = 15 by omega, show c.getD 8 0 = 2 by omega, if_neg (show ¬ N32 15 = (3 : Int32) by decide), if_neg (show ¬ N32 15 = (5 : Int32) by decide), if_neg (show ¬ N32 15 = (6 : Int32) by decide), if_neg (show ¬ N32 15 = (8 : Int32) by decide), if_neg (show ¬ N32 15 = (11 : Int32) by decide), if_neg (show ¬ N32 15 = (12 : Int32) by decide), if_pos (show N32 15 = (15 : Int32) by decide)]
    have hl := kl_3842 hfo hcl hK3842
    unfold f_Model_storeFailure f_Model_storeFailure_L10
    rw [if_neg (by decide), if_pos (by decide), wm_d0 hA hc (by omega)]
    simp only [ob_bd]
    by_cases he : c.getD 11 0 < 32
    · rw [if_pos (by rw [show (31 : Int32) = N32 31 from rfl, nb_le (by omega) (by decide)]; omega), if_pos he]; rfl
    · rw [if_neg (by rw [show (31 : Int32) = N32 31 from rfl, nb_le (by omega) (by decide)]; omega), if_neg he]; rfl
  rw [if_neg hK3842]
  by_cases hK3849 : nn c 7 2 = 3849
  · rw [if_pos hK3849, show c.getD 7 0 = 15 by omega, show c.getD 8 0 = 9 by omega, if_neg (show ¬ N32 15 = (3 : Int32) by decide), if_neg (show ¬ N32 15 = (5 : Int32) by decide), if_neg (show ¬ N32 15 = (6 : Int32) by decide), if_neg (show ¬ N32 15 = (8 : Int32) by decide), if_neg (show ¬ N32 15 = (11 : Int32) by decide), if_neg (show ¬ N32 15 = (12 : Int32) by decide), if_pos (show N32 15 = (15 : Int32) by decide)]
    have v80 : D.1 M 80 = bI rp.2.2.2.2.2.1 := by obtain ⟨st, sd, md, all, lo, rt, rfr, rtt, rc⟩ := rp; exact hrp.2.2.2.2.1
    unfold f_Model_storeFailure
    rw [if_neg (by decide), if_neg (by decide), if_pos (by decide), v80, if_bI]
    by_cases he : rp.2.2.2.2.2.1 = true
    · rw [if_pos he, if_pos he]; rfl
    · rw [if_neg he, if_neg he]; rfl
  rw [if_neg hK3849]
  by_cases hK3852 : nn c 7 2 = 3852
  · rw [if_pos hK3852, show c.getD 7 0 = 15 by omega, show c.getD 8 0 = 12 by omega, if_neg (show ¬ N32 15 = (3 : Int32) by decide), if_neg (show ¬ N32 15 = (5 : Int32) by decide), if_neg (show ¬ N32 15 = (6 : Int32) by decide), if_neg (show ¬ N32 15 = (8 : Int32) by decide), if_neg (show ¬ N32 15 = (11 : Int32) by decide), if_neg (show ¬ N32 15 = (12 : Int32) by decide), if_pos (show N32 15 = (15 : Int32) by decide)]
    have v80 : D.1 M 80 = bI rp.2.2.2.2.2.1 := by obtain ⟨st, sd, md, all, lo, rt, rfr, rtt, rc⟩ := rp; exact hrp.2.2.2.2.1
    unfold f_Model_storeFailure
    rw [if_neg (by decide), if_neg (by decide), if_neg (by decide), if_pos (by decide), v80, if_bI]
    by_cases he : rp.2.2.2.2.2.1 = true
    · rw [if_pos he, if_pos he]; rfl
    · rw [if_neg he, if_neg he]; rfl
  rw [if_neg hK3852]
  by_cases hK4865 : nn c 7 2 = 4865
  · rw [if_pos hK4865, show c.getD 7 0 = 19 by omega, show c.getD 8 0 = 1 by omega, if_neg (show ¬ N32 19 = (3 : Int32) by decide), if_neg (show ¬ N32 19 = (5 : Int32) by decide), if_neg (show ¬ N32 19 = (6 : Int32) by decide), if_neg (show ¬ N32 19 = (8 : Int32) by decide), if_neg (show ¬ N32 19 = (11 : Int32) by decide), if_neg (show ¬ N32 19 = (12 : Int32) by decide), if_neg (show ¬ N32 19 = (15 : Int32) by decide), if_pos (show N32 19 = (19 : Int32) by decide)]
    have hl := kl_4865 hfo hcl hK4865
    have e : f_Model_actionFailure S M (N32 1) D = _ := wm_newact hA hc hev (by omega)
    rw [e]
    rfl
  rw [if_neg hK4865]
  by_cases hK4866 : nn c 7 2 = 4866
  · rw [if_pos hK4866, show c.getD 7 0 = 19 by omega, show c.getD 8 0 = 2 by omega, if_neg (show ¬ N32 19 = (3 : Int32) by decide), if_neg (show ¬ N32 19 = (5 : Int32) by decide), if_neg (show ¬ N32 19 = (6 : Int32) by decide), if_neg (show ¬ N32 19 = (8 : Int32) by decide), if_neg (show ¬ N32 19 = (11 : Int32) by decide), if_neg (show ¬ N32 19 = (12 : Int32) by decide), if_neg (show ¬ N32 19 = (15 : Int32) by decide), if_pos (show N32 19 = (19 : Int32) by decide)]
    have hl := kl_4866 hfo hcl hK4866
    have e : f_Model_actionFailure S M (N32 2) D = _ := wm_actfail (t := 2) hA hc hev (by omega) (by decide) (by decide)
    rw [e]
    rfl
  rw [if_neg hK4866]
  by_cases hK4868 : nn c 7 2 = 4868
  · rw [if_pos hK4868, show c.getD 7 0 = 19 by omega, show c.getD 8 0 = 4 by omega, if_neg (show ¬ N32 19 = (3 : Int32) by decide), if_neg (show ¬ N32 19 = (5 : Int32) by decide), if_neg (show ¬ N32 19 = (6 : Int32) by decide), if_neg (show ¬ N32 19 = (8 : Int32) by decide), if_neg (show ¬ N32 19 = (11 : Int32) by decide), if_neg (show ¬ N32 19 = (12 : Int32) by decide), if_neg (show ¬ N32 19 = (15 : Int32) by decide), if_pos (show N32 19 = (19 : Int32) by decide)]
    have hl := kl_4868 hfo hcl hK4868
    have e : f_Model_actionFailure S M (N32 4) D = _ := wm_actfail (t := 4) hA hc hev (by omega) (by decide) (by decide)
    rw [e]
    rfl
  rw [if_neg hK4868]
  by_cases hK4869 : nn c 7 2 = 4869
  · rw [if_pos hK4869, show c.getD 7 0 = 19 by omega, show c.getD 8 0 = 5 by omega, if_neg (show ¬ N32 19 = (3 : Int32) by decide), if_neg (show ¬ N32 19 = (5 : Int32) by decide), if_neg (show ¬ N32 19 = (6 : Int32) by decide), if_neg (show ¬ N32 19 = (8 : Int32) by decide), if_neg (show ¬ N32 19 = (11 : Int32) by decide), if_neg (show ¬ N32 19 = (12 : Int32) by decide), if_neg (show ¬ N32 19 = (15 : Int32) by decide), if_pos (show N32 19 = (19 : Int32) by decide)]
    have hl := kl_4869 hfo hcl hK4869
    have e : f_Model_actionFailure S M (N32 5) D = _ := wm_actfail (t := 5) hA hc hev (by omega) (by decide) (by decide)
    rw [e]
    rfl
  rw [if_neg hK4869]
  by_cases hK2817 : nn c 7 2 = 2817
  · rw [show c.getD 7 0 = 11 by omega, show c.getD 8 0 = 1 by omega, if_neg (show ¬ N32 11 = (3 : Int32) by decide), if_neg (show ¬ N32 11 = (5 : Int32) by decide), if_neg (show ¬ N32 11 = (6 : Int32) by decide), if_neg (show ¬ N32 11 = (8 : Int32) by decide), if_pos (show N32 11 = (11 : Int32) by decide)]
    have e : f_Model_tableFailure S M (N32 1) D = _ := wm_tabelse (t := 1) (by decide) (by decide) (by decide) (by decide)
    rw [e]
    rfl
  by_cases hK2818 : nn c 7 2 = 2818
  · rw [show c.getD 7 0 = 11 by omega, show c.getD 8 0 = 2 by omega, if_neg (show ¬ N32 11 = (3 : Int32) by decide), if_neg (show ¬ N32 11 = (5 : Int32) by decide), if_neg (show ¬ N32 11 = (6 : Int32) by decide), if_neg (show ¬ N32 11 = (8 : Int32) by decide), if_pos (show N32 11 = (11 : Int32) by decide)]
    have e : f_Model_tableFailure S M (N32 2) D = _ := wm_tabelse (t := 2) (by decide) (by decide) (by decide) (by decide)
    rw [e]
    rfl
  by_cases hK2819 : nn c 7 2 = 2819
  · rw [show c.getD 7 0 = 11 by omega, show c.getD 8 0 = 3 by omega, if_neg (show ¬ N32 11 = (3 : Int32) by decide), if_neg (show ¬ N32 11 = (5 : Int32) by decide), if_neg (show ¬ N32 11 = (6 : Int32) by decide), if_neg (show ¬ N32 11 = (8 : Int32) by decide), if_pos (show N32 11 = (11 : Int32) by decide)]
    have e : f_Model_tableFailure S M (N32 3) D = _ := wm_tabelse (t := 3) (by decide) (by decide) (by decide) (by decide)
    rw [e]
    rfl
  by_cases hK2833 : nn c 7 2 = 2833
  · rw [show c.getD 7 0 = 11 by omega, show c.getD 8 0 = 17 by omega, if_neg (show ¬ N32 11 = (3 : Int32) by decide), if_neg (show ¬ N32 11 = (5 : Int32) by decide), if_neg (show ¬ N32 11 = (6 : Int32) by decide), if_neg (show ¬ N32 11 = (8 : Int32) by decide), if_pos (show N32 11 = (11 : Int32) by decide)]
    have e : f_Model_tableFailure S M (N32 17) D = _ := wm_tabelse (t := 17) (by decide) (by decide) (by decide) (by decide)
    rw [e]
    rfl
  by_cases hK3851 : nn c 7 2 = 3851
  · rw [show c.getD 7 0 = 15 by omega, show c.getD 8 0 = 11 by omega, if_neg (show ¬ N32 15 = (3 : Int32) by decide), if_neg (show ¬ N32 15 = (5 : Int32) by decide), if_neg (show ¬ N32 15 = (6 : Int32) by decide), if_neg (show ¬ N32 15 = (8 : Int32) by decide), if_neg (show ¬ N32 15 = (11 : Int32) by decide), if_neg (show ¬ N32 15 = (12 : Int32) by decide), if_pos (show N32 15 = (15 : Int32) by decide)]
    unfold f_Model_storeFailure
    rw [if_neg (by decide), if_neg (by decide), if_neg (by decide), if_neg (by decide)]
    rfl
  by_cases hK4353 : nn c 7 2 = 4353
  · rw [show c.getD 7 0 = 17 by omega, show c.getD 8 0 = 1 by omega, if_neg (show ¬ N32 17 = (3 : Int32) by decide), if_neg (show ¬ N32 17 = (5 : Int32) by decide), if_neg (show ¬ N32 17 = (6 : Int32) by decide), if_neg (show ¬ N32 17 = (8 : Int32) by decide), if_neg (show ¬ N32 17 = (11 : Int32) by decide), if_neg (show ¬ N32 17 = (12 : Int32) by decide), if_neg (show ¬ N32 17 = (15 : Int32) by decide), if_neg (show ¬ N32 17 = (19 : Int32) by decide)]
    rfl
  have hmem := kf_mem (fo_kind hfo).2.1
  simp only [List.mem_cons, List.not_mem_nil, or_false] at hmem
  omega
