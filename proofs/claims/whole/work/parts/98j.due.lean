-- ===== what is due does not grow =====
def nd (k : Int32) (A : List sEn) : Nat := A.countP (fun e => decide (e.1 ≤ k))
def w_ck (z : sW) : Nat := z.2.2.2.2.2.2.2.2.2.1.2.2.1
def ndq (z z' : sW) : Prop := nd (N32 (w_ck z)) z'.2.2.1 ≤ nd (N32 (w_ck z)) z.2.2.1 ∧ w_ck z' = w_ck z
theorem ndq.rf (z : sW) : ndq z z := ⟨Nat.le_refl _, rfl⟩
theorem ndq.tr {z z1 z2 : sW} (h : ndq z z1) (k : ndq z1 z2) : ndq z z2 := by
  obtain ⟨h1, h2⟩ := h
  obtain ⟨k1, k2⟩ := k
  rw [h2] at k1 k2
  exact ⟨Nat.le_trans k1 h1, k2⟩
theorem rep_nd (w s k : Nat) (body : List Nat) (z : sW) : ndq z (w_rep w s k body z) := by
  obtain ⟨gt, rc, A, on, ev, lm, ⟨lv, rv, so, al'⟩, frs, rp, ⟨wi, mo, ck, al, hd, fa, br⟩, fm, me⟩ := z
  show nd (N32 ck) A ≤ nd (N32 ck) A ∧ ck = ck
  exact ⟨Nat.le_refl _, rfl⟩
theorem one_nd (w k : Nat) (l : List sFm) (z : sW) : ndq z (pf_one w k l z) := by
  unfold pf_one
  split
  · exact ndq.rf _
  · split
    · exact ndq.rf _
    · exact rep_nd _ _ _ _ _
theorem fun_nd (c : List Nat) (z : sW) : ndq z (w_fun c z) := by
  obtain ⟨gt, rc, A, on, ev, lm, ch, frs, rp, ⟨wi, mo, ck, al, hd, fa, br⟩, fm, me⟩ := z
  have ek : w_fun c (gt, rc, A, on, ev, lm, ch, frs, rp, (wi, mo, ck, al, hd, fa, br), fm, me) = if c.getD 11 0 = 1 then (gt, rc, A, on, ev, lm, ch, frs, rp, (up wi (8 + c.getD 12 0) (N32 (nn c 13 4)), mo, ck, al, hd, fa, br), fm, me) else if c.getD 11 0 = 2 then (gt, rc, A, on, (cr_mode (c.getD 12 0) ((wi, mo, ck, al, hd, fa, br), ev)).2, lm, ch, frs, rp, (cr_mode (c.getD 12 0) ((wi, mo, ck, al, hd, fa, br), ev)).1, fm, me) else (gt, rc, A, on, ev_raise (c.getD 12 0) (N32 (nn c 13 4)) ev, lm, ch, frs, rp, (wi, mo, ck, al, hd, fa, br), fm, me) := rfl
  rw [ek]
  split
  · exact ⟨Nat.le_refl _, rfl⟩
  · split
    · have em : (cr_mode (c.getD 12 0) ((wi, mo, ck, al, hd, fa, br), ev)).1.2.2.1 = ck := by
        have e2 : cr_mode (c.getD 12 0) ((wi, mo, ck, al, hd, fa, br), ev) = if c.getD 12 0 = mo then ((wi, mo, ck, al, hd, fa, br), ev) else ((if c.getD 12 0 = 0 then cr_safe wi else wi, c.getD 12 0, ck, al, hd, fa, br), ev_raise 1 (N32 (c.getD 12 0)) ev) := rfl
        rw [e2]
        split <;> rfl
      exact ⟨Nat.le_refl _, em⟩
    · exact ⟨Nat.le_refl _, rfl⟩
theorem nd_filter (k : Int32) (p : sEn → Bool) (A : List sEn) : nd k (A.filter p) ≤ nd k A := by
  unfold nd
  rw [List.countP_filter]
  exact List.countP_mono_left (fun x _ h => by
    rw [Bool.and_eq_true] at h
    exact h.1)
theorem nd_shift {k d : Int32} {A : List sEn} (h : tt_can d k A = true) : nd k (tt_shift d A) = 0 := by
  unfold nd tt_shift
  rw [List.countP_map, List.countP_eq_zero]
  intro e he
  unfold tt_can at h
  have h1 := (List.all_eq_true.mp h) e he
  have h2 := of_decide_eq_true h1
  show ¬ decide (e.1 + d ≤ k) = true
  rw [decide_eq_true_eq, Int32.le_iff_toInt_le, Int32.toInt_add]
  have := e.1.le_toInt
  have := d.le_toInt
  have := k.le_toInt
  have hb : (e.1.toInt + d.toInt).bmod (2 ^ 32) = e.1.toInt + d.toInt := by
    apply Int.bmod_eq_of_le <;> omega
  rw [hb]
  omega
theorem hf_2820 {m : Nat} {c : List Nat} {z : sW} (hK : nn c 7 2 = 2820) (h : hf m c z = 0) : N32 (w_ck z) < N32 (nn c 11 4) := by
  obtain ⟨gt, rc, A, on, ev, lm, ch, frs, rp, cr, fm, me⟩ := z
  have e : hf m c (gt, rc, A, on, ev, lm, ch, frs, rp, cr, fm, me) = te_v c A.length m cr.2.2.1 := by
    unfold hf
    simp [hK]
  rw [e] at h
  unfold te_v at h
  by_cases h1 : fo ((c.drop 15).take (c.length - 17)) = 0
  · rw [if_pos h1] at h
    by_cases h2 : N32 cr.2.2.1 < N32 (nn c 11 4)
    · exact h2
    · rw [if_neg h2] at h
      exact absurd h (by decide)
  · rw [if_neg h1] at h
    exact absurd h (by decide)
theorem hf_2831 {m : Nat} {c : List Nat} {z : sW} (hK : nn c 7 2 = 2831) (h : hf m c z = 0) : tt_can (N32 (nn c 11 4)) (N32 (w_ck z)) z.2.2.1 = true := by
  obtain ⟨gt, rc, A, on, ev, lm, ch, frs, rp, cr, fm, me⟩ := z
  have e : hf m c (gt, rc, A, on, ev, lm, ch, frs, rp, cr, fm, me) = te_can c cr.2.2.1 A := by
    unfold hf
    simp [hK]
  rw [e] at h
  unfold te_can at h
  by_cases h1 : tt_can (N32 (nn c 11 4)) (N32 cr.2.2.1) A = true
  · exact h1
  · rw [if_neg h1] at h
    exact absurd h (by decide)
theorem pf_nd {m w : Nat} {c : List Nat} {z : sW} (hh : hf m c z = 0) : ndq z (pf w c z) := by
  obtain ⟨gt, rc, A, on, ev, lm, ch, frs, rp, ⟨wi, mo, ck, al, hd, fa, br⟩, fm, me⟩ := z
  have ek : pf w c (gt, rc, A, on, ev, lm, ch, frs, rp, (wi, mo, ck, al, hd, fa, br), fm, me) = if nn c 7 2 = 769 then ((gt, rc, A, on, ev, lm, ch, frs, rp, (wi, mo, ck, al, hd, fa, br), fm_add c fm, me)) else if nn c 7 2 = 771 then ((gt, rc, A, on, ev, lm, ch, frs, rp, (wi, mo, ck, al, hd, fa, br), fm_rem (c.getD 11 0) fm, me)) else if nn c 7 2 = 773 then ((gt, rc, A, on, ev, lm, ch, frs, rp, (wi, mo, ck, al, hd, fa, br), fm_on true (c.getD 11 0) fm, me)) else if nn c 7 2 = 774 then ((gt, rc, A, on, ev, lm, ch, frs, rp, (wi, mo, ck, al, hd, fa, br), fm_on false (c.getD 11 0) fm, me)) else if nn c 7 2 = 795 then (pf_one w (c.getD 11 0) fm (gt, rc, A, on, ev, lm, ch, frs, rp, (wi, mo, ck, al, hd, fa, br), fm, me)) else if nn c 7 2 = 1285 then ((gt, rc, A, on, ev_sil (c.getD 11 0) false ev, lm, ch, frs, rp, (wi, mo, ck, al, hd, fa, br), fm, me)) else if nn c 7 2 = 1286 then ((gt, rc, A, on, ev_sil (c.getD 11 0) true ev, lm, ch, frs, rp, (wi, mo, ck, al, hd, fa, br), fm, me)) else if nn c 7 2 = 1538 then ((gt, rc, A, on, ev, lm, ch, frs, rp, (wi, mo, ck, al, hd, fa, br), fm, me_ld me (nn c 11 2) (fmps c) (c.getD 13 0))) else if nn c 7 2 = 1541 then (w_rep w 6 6 (me_dump c me) (gt, rc, A, on, ev, lm, ch, frs, rp, (wi, mo, ck, al, hd, fa, br), fm, me)) else if nn c 7 2 = 1545 then (w_rep w 6 10 (me_chk c me) (gt, rc, A, on, ev, lm, ch, frs, rp, (wi, mo, ck, al, hd, fa, br), fm, me)) else if nn c 7 2 = 2049 then (w_fun c (gt, rc, A, on, ev, lm, ch, frs, rp, (wi, mo, ck, al, hd, fa, br), fm, me)) else if nn c 7 2 = 2817 then ((gt, rc, A, true, ev, lm, ch, frs, rp, (wi, mo, ck, al, hd, fa, br), fm, me)) else if nn c 7 2 = 2818 then ((gt, rc, A, false, ev, lm, ch, frs, rp, (wi, mo, ck, al, hd, fa, br), fm, me)) else if nn c 7 2 = 2819 then ((gt, rc, [], false, ev, lm, ch, frs, rp, (wi, mo, ck, al, hd, fa, br), fm, me)) else if nn c 7 2 = 2820 then ((gt, rc, A ++ [te_new c], on, ev, lm, ch, frs, rp, (wi, mo, ck, al, hd, fa, br), fm, me)) else if nn c 7 2 = 2821 then ((gt, rc, A.filter (fun e => !(en_no e == nn c 11 2 % 16384)), on, ev, lm, ch, frs, rp, (wi, mo, ck, al, hd, fa, br), fm, me)) else if nn c 7 2 = 2831 then ((gt, rc, tt_shift (N32 (nn c 11 4)) A, on, ev, lm, ch, frs, rp, (wi, mo, ck, al, hd, fa, br), fm, me)) else if nn c 7 2 = 2833 then (w_rep w 11 13 (tt_told (tt_sort A)) (gt, rc, A, on, ev, lm, ch, frs, rp, (wi, mo, ck, al, hd, fa, br), fm, me)) else if nn c 7 2 = 3073 then ((gt, rc, A, on, ev, lm_on true (c.getD 11 0) lm, ch, frs, rp, (wi, mo, ck, al, hd, fa, br), fm, me)) else if nn c 7 2 = 3074 then ((gt, rc, A, on, ev, lm_on false (c.getD 11 0) lm, ch, frs, rp, (wi, mo, ck, al, hd, fa, br), fm, me)) else if nn c 7 2 = 3077 then ((gt, rc, A, on, ev, lm_add c lm, ch, frs, rp, (wi, mo, ck, al, hd, fa, br), fm, me)) else if nn c 7 2 = 3078 then ((gt, rc, A, on, ev, lm_rem (c.getD 11 0) lm, ch, frs, rp, (wi, mo, ck, al, hd, fa, br), fm, me)) else if nn c 7 2 = 3841 then ((gt, rc, A, on, ev, lm, ch, frs, rp_sto (c.getD 11 0) true rp, (wi, mo, ck, al, hd, fa, br), fm, me)) else if nn c 7 2 = 3842 then ((gt, rc, A, on, ev, lm, ch, frs, rp_sto (c.getD 11 0) false rp, (wi, mo, ck, al, hd, fa, br), fm, me)) else if nn c 7 2 = 3849 then ((gt, rc, A, on, ev, lm, ch, frs, rp_want (N32 (nn c 11 4)) (N32 (nn c 15 4)) rp, (wi, mo, ck, al, hd, fa, br), fm, me)) else if nn c 7 2 = 3851 then ((gt, rc, A, on, ev, lm, ch, frs, rp_drop (N32 (nn c 11 4)) rp, (wi, mo, ck, al, hd, fa, br), fm, me)) else if nn c 7 2 = 3852 then ((gt, rc, A, on, ev, lm, ch, frs, rp_stop rp, (wi, mo, ck, al, hd, fa, br), fm, me)) else if nn c 7 2 = 4353 then (w_rep w 17 2 [] (gt, rc, A, on, ev, lm, ch, frs, rp, (wi, mo, ck, al, hd, fa, br), fm, me)) else if nn c 7 2 = 4865 then ((gt, rc, A, on, ev_act (c.getD 11 0) ((c.drop 12).take (c.length - 14)) ev, lm, ch, frs, rp, (wi, mo, ck, al, hd, fa, br), fm, me)) else if nn c 7 2 = 4866 then ((gt, rc, A, on, ev_dro (c.getD 11 0) ev, lm, ch, frs, rp, (wi, mo, ck, al, hd, fa, br), fm, me)) else if nn c 7 2 = 4868 then ((gt, rc, A, on, ev_sw (c.getD 11 0) true ev, lm, ch, frs, rp, (wi, mo, ck, al, hd, fa, br), fm, me)) else if nn c 7 2 = 4869 then ((gt, rc, A, on, ev_sw (c.getD 11 0) false ev, lm, ch, frs, rp, (wi, mo, ck, al, hd, fa, br), fm, me)) else (gt, rc, A, on, ev, lm, ch, frs, rp, (wi, mo, ck, al, hd, fa, br), fm, me) := rfl
  rw [ek]
  clear ek
  by_cases hK : nn c 7 2 = 769
  · rw [if_pos hK]
    exact ⟨Nat.le_refl _, rfl⟩
  rw [if_neg hK]
  clear hK
  by_cases hK : nn c 7 2 = 771
  · rw [if_pos hK]
    exact ⟨Nat.le_refl _, rfl⟩
  rw [if_neg hK]
  clear hK
  by_cases hK : nn c 7 2 = 773
  · rw [if_pos hK]
    exact ⟨Nat.le_refl _, rfl⟩
  rw [if_neg hK]
  clear hK
  by_cases hK : nn c 7 2 = 774
  · rw [if_pos hK]
    exact ⟨Nat.le_refl _, rfl⟩
  rw [if_neg hK]
  clear hK
  by_cases hK : nn c 7 2 = 795
  · rw [if_pos hK]
    exact one_nd _ _ _ _
  rw [if_neg hK]
  clear hK
  by_cases hK : nn c 7 2 = 1285
  · rw [if_pos hK]
    exact ⟨Nat.le_refl _, rfl⟩
  rw [if_neg hK]
  clear hK
  by_cases hK : nn c 7 2 = 1286
  · rw [if_pos hK]
    exact ⟨Nat.le_refl _, rfl⟩
  rw [if_neg hK]
  clear hK
  by_cases hK : nn c 7 2 = 1538
  · rw [if_pos hK]
    exact ⟨Nat.le_refl _, rfl⟩
  rw [if_neg hK]
  clear hK
  by_cases hK : nn c 7 2 = 1541
  · rw [if_pos hK]
    exact rep_nd _ _ _ _ _
  rw [if_neg hK]
  clear hK
  by_cases hK : nn c 7 2 = 1545
  · rw [if_pos hK]
    exact rep_nd _ _ _ _ _
  rw [if_neg hK]
  clear hK
  by_cases hK : nn c 7 2 = 2049
  · rw [if_pos hK]
    exact fun_nd _ _
  rw [if_neg hK]
  clear hK
  by_cases hK : nn c 7 2 = 2817
  · rw [if_pos hK]
    exact ⟨Nat.le_refl _, rfl⟩
  rw [if_neg hK]
  clear hK
  by_cases hK : nn c 7 2 = 2818
  · rw [if_pos hK]
    exact ⟨Nat.le_refl _, rfl⟩
  rw [if_neg hK]
  clear hK
  by_cases hK : nn c 7 2 = 2819
  · rw [if_pos hK]
    exact ⟨Nat.zero_le _, rfl⟩
  rw [if_neg hK]
  clear hK
  by_cases hK : nn c 7 2 = 2820
  · rw [if_pos hK]
    have ht := hf_2820 hK hh
    refine ⟨?_, rfl⟩
    show nd (N32 ck) (A ++ [te_new c]) ≤ nd (N32 ck) A
    unfold nd
    rw [List.countP_append]
    have e0 : List.countP (fun e : sEn => decide (e.1 ≤ N32 ck)) [te_new c] = 0 := by
      rw [List.countP_eq_zero]
      intro e he
      rw [List.mem_singleton.mp he, decide_eq_true_eq]
      exact Int32.not_le.mpr ht
    rw [e0]
    exact Nat.le_refl _
  rw [if_neg hK]
  clear hK
  by_cases hK : nn c 7 2 = 2821
  · rw [if_pos hK]
    exact ⟨nd_filter _ _ _, rfl⟩
  rw [if_neg hK]
  clear hK
  by_cases hK : nn c 7 2 = 2831
  · rw [if_pos hK]
    have ht := hf_2831 hK hh
    refine ⟨?_, rfl⟩
    show nd (N32 ck) (tt_shift (N32 (nn c 11 4)) A) ≤ nd (N32 ck) A
    have ht : tt_can (N32 (nn c 11 4)) (N32 ck) A = true := ht
    rw [nd_shift ht]
    exact Nat.zero_le _
  rw [if_neg hK]
  clear hK
  by_cases hK : nn c 7 2 = 2833
  · rw [if_pos hK]
    exact rep_nd _ _ _ _ _
  rw [if_neg hK]
  clear hK
  by_cases hK : nn c 7 2 = 3073
  · rw [if_pos hK]
    exact ⟨Nat.le_refl _, rfl⟩
  rw [if_neg hK]
  clear hK
  by_cases hK : nn c 7 2 = 3074
  · rw [if_pos hK]
    exact ⟨Nat.le_refl _, rfl⟩
  rw [if_neg hK]
  clear hK
  by_cases hK : nn c 7 2 = 3077
  · rw [if_pos hK]
    exact ⟨Nat.le_refl _, rfl⟩
  rw [if_neg hK]
  clear hK
  by_cases hK : nn c 7 2 = 3078
  · rw [if_pos hK]
    exact ⟨Nat.le_refl _, rfl⟩
  rw [if_neg hK]
  clear hK
  by_cases hK : nn c 7 2 = 3841
  · rw [if_pos hK]
    exact ⟨Nat.le_refl _, rfl⟩
  rw [if_neg hK]
  clear hK
  by_cases hK : nn c 7 2 = 3842
  · rw [if_pos hK]
    exact ⟨Nat.le_refl _, rfl⟩
  rw [if_neg hK]
  clear hK
  by_cases hK : nn c 7 2 = 3849
  · rw [if_pos hK]
    exact ⟨Nat.le_refl _, rfl⟩
  rw [if_neg hK]
  clear hK
  by_cases hK : nn c 7 2 = 3851
  · rw [if_pos hK]
    exact ⟨Nat.le_refl _, rfl⟩
  rw [if_neg hK]
  clear hK
  by_cases hK : nn c 7 2 = 3852
  · rw [if_pos hK]
    exact ⟨Nat.le_refl _, rfl⟩
  rw [if_neg hK]
  clear hK
  by_cases hK : nn c 7 2 = 4353
  · rw [if_pos hK]
    exact rep_nd _ _ _ _ _
  rw [if_neg hK]
  clear hK
  by_cases hK : nn c 7 2 = 4865
  · rw [if_pos hK]
    exact ⟨Nat.le_refl _, rfl⟩
  rw [if_neg hK]
  clear hK
  by_cases hK : nn c 7 2 = 4866
  · rw [if_pos hK]
    exact ⟨Nat.le_refl _, rfl⟩
  rw [if_neg hK]
  clear hK
  by_cases hK : nn c 7 2 = 4868
  · rw [if_pos hK]
    exact ⟨Nat.le_refl _, rfl⟩
  rw [if_neg hK]
  clear hK
  by_cases hK : nn c 7 2 = 4869
  · rw [if_pos hK]
    exact ⟨Nat.le_refl _, rfl⟩
  rw [if_neg hK]
  clear hK
  exact ndq.rf _
theorem ack_nd (w b k : Nat) (c : List Nat) (z : sW) : ndq z (w_ack w b k c z) := by
  unfold w_ack
  split
  · exact ndq.rf _
  · exact rep_nd _ _ _ _ _
theorem hand_nd (z : sW) : ndq z (w_hand z) ∧ ndq z (w_fail z) := by
  obtain ⟨gt, rc, A, on, ev, lm, ch, frs, rp, ⟨wi, mo, ck, al, hd, fa, br⟩, fm, me⟩ := z
  show (nd (N32 ck) A ≤ nd (N32 ck) A ∧ ck = ck) ∧ (nd (N32 ck) A ≤ nd (N32 ck) A ∧ ck = ck)
  exact ⟨⟨Nat.le_refl _, rfl⟩, ⟨Nat.le_refl _, rfl⟩⟩
theorem handle_nd (m w : Nat) (c : List Nat) (z : sW) : ndq z (w_handle m w c z) := by
  unfold w_handle
  have h1 := (hand_nd z).1.tr (ack_nd w 1 1 c (w_hand z))
  split
  · split
    next hh =>
      exact ((h1.tr (ack_nd w 2 3 c _)).tr (pf_nd (m := m) (by rw [hf_ack]; exact hh))).tr (ack_nd w 8 7 c _)
    next => exact (h1.tr (hand_nd _).2).tr (rep_nd _ _ _ _ _)
  · exact ((hand_nd z).1.tr (hand_nd _).2).tr (rep_nd _ _ _ _ _)
