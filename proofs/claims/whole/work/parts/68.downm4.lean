-- ===== the reference's frames of a tick =====
theorem dn_drop_le {n : Nat} {L : List Nat} (hn : n ≤ 250) (h : L.length ≤ 4096) : ((dn_pad n L).drop n).length ≤ 4096 := by
  rw [List.length_drop]
  rcases dn_pad_max (n := n) L with h1 | h1 <;> omega
theorem fmm_frame {S : ob_S} {D : ob_D} {M o n F : Nat} {c : sCh} {wd : Int32} {zg : sGt} (hF : F = n + 12) (hF2 : F ≤ 256) (hF1 : 64 ≤ F) (ho : o + 256 ≤ 1024) (hl0 : c.1.length ≤ 4096) (hl1 : c.2.1.length ≤ 4096) (hwd : wd = N32 (gt_word zg)) (hA : mA S D M) (hG : mGt S D M zg) (h1 : D.1 M 1 = N32 F) (hC : mDnC D M c) : ∃ D', f_Model_frame S M (N32 o) D = some D' ∧ ba D' (M + 48) o (dn_one n wd c).1 ∧ (dn_one n wd c).1.length = F ∧ mDnC D' M (dn_one n wd c).2 ∧ (dn_one n wd c).2.1.length ≤ 4096 ∧ (dn_one n wd c).2.2.1.length ≤ 4096 ∧ oi (fmQ M o) D D' := by
  obtain ⟨lv, rp, so, al⟩ := c
  obtain ⟨c1, c2, c3, c4⟩ := hC
  have hl0' : lv.length ≤ 4096 := hl0
  have hl1' : rp.length ≤ 4096 := hl1
  have a86 : D.2.1 M 86 = M + 47 ∧ S.2.1 (M + 47) = 2 := hA.1 (86, 47, 2) (by decide)
  have w0 : D.1 (M + 47) (0 : Int32).toNatClampNeg = N32 lv.length := c1.1
  have w1 : D.1 (M + 47) (1 : Int32).toNatClampNeg = N32 rp.length := c2.1
  unfold f_Model_frame
  rw [a86.1, if_pos (by omega), a86.2, if_pos (by decide), w0]
  by_cases h0 : 0 < lv.length
  · have eone : dn_one n wd (lv, rp, so, al) = (dn_fr 0 al (so 0) (fst_b ((dn_pad n lv).take n) 0) ((dn_pad n lv).take n) wd, ((dn_pad n lv).drop n, rp, dn_up so 0, al + 1)) := by
      show (if _ then _ else _) = _
      rw [if_pos h0]
    rw [eone, if_neg (by rw [show (0 : Int32) = N32 0 from rfl, nb_le (by omega) (by decide)]; omega)]
    obtain ⟨D', t1, t2, t3, t4, t5, t6⟩ := fmm_chan (S := S) (v := 0) (so := so) (al := al) hF hF2 hF1 ho (by decide) hl0' hwd hA hG h1 c1 c3 c4
    have hpl := dn_pad_len (n := n) lv
    exact ⟨D', t1, t2, (dn_fr_len (by rw [List.length_take]; omega)).2.trans hF.symm, ⟨t3, c2.keep t6.up (by omega) (by omega) (by omega), t4, t5⟩, dn_drop_le (by omega) hl0', hl1', t6.mono (fun y k e => by omega)⟩
  · rw [if_pos (by rw [show (0 : Int32) = N32 0 from rfl, nb_le (by omega) (by decide)]; omega), if_pos (by omega), if_pos (by decide), w1]
    by_cases h2 : 0 < rp.length
    · have eone : dn_one n wd (lv, rp, so, al) = (dn_fr 1 al (so 1) (fst_b ((dn_pad n rp).take n) 0) ((dn_pad n rp).take n) wd, (lv, (dn_pad n rp).drop n, dn_up so 1, al + 1)) := by
        show (if _ then _ else if _ then _ else _) = _
        rw [if_neg h0, if_pos h2]
      rw [eone, if_neg (by rw [show (0 : Int32) = N32 0 from rfl, nb_le (by omega) (by decide)]; omega)]
      obtain ⟨D', t1, t2, t3, t4, t5, t6⟩ := fmm_chan (S := S) (v := 1) (so := so) (al := al) hF hF2 hF1 ho (by decide) hl1' hwd hA hG h1 c2 c3 c4
      have hpl := dn_pad_len (n := n) rp
      exact ⟨D', t1, t2, (dn_fr_len (by rw [List.length_take]; omega)).2.trans hF.symm, ⟨c1.keep t6.up (by omega) (by omega) (by omega), t3, t4, t5⟩, hl0', dn_drop_le (by omega) hl1', t6.mono (fun y k e => by omega)⟩
    · have eone : dn_one n wd (lv, rp, so, al) = (dn_fr 7 al (so 7) 2046 (List.replicate n 85) wd, (lv, rp, dn_up so 7, al + 1)) := by
        show (if _ then _ else if _ then _ else _) = _
        rw [if_neg h0, if_neg h2]
      have e12 : D.1 M 1 - (12 : Int32) = N32 n := by rw [h1, show (12 : Int32) = N32 12 from rfl, nb_sub (by omega)]; congr 1; omega
      rw [eone, if_pos (by rw [show (0 : Int32) = N32 0 from rfl, nb_le (by omega) (by decide)]; omega)]
      obtain ⟨D4, q1, q2, q3⟩ := fmm_head (S := S) (n := n) (ch := 7) (fh := 2046) (al := al) (so := so) ho (by omega) (by omega) hA c3 c4
      obtain ⟨D', t1, t2, t3, t4, t5⟩ := fmm_idle (S := S) (M := M) (o := o) (n := n) (F := F) (al := al) (so := so) hF hF2 hF1 ho hwd n ob_FU 0 D4 (by omega) (by rw [ob_FU_eq]; omega) (hA.kp q3) (hG.keep q3.up (fun y k e => by unfold mGtP at e; omega) (by omega) (fun _ _ _ => rfl)) (by rw [q3.2 _ _ (by omega)]; exact h1) (fun u hu => by rw [q3.2 _ _ (by omega)]; exact c3 u hu) (by rw [q3.2 _ _ (by omega)]; exact c4) (by rw [List.replicate_zero, List.map_nil, List.append_nil]; exact q2)
      have gA : oi (fun y k => fmP M o y k ∨ (y = M ∧ k = 89) ∨ y = M + 49) D D' := (q3.mono (fun y k e => Or.inl e)).tr t5
      refine ⟨D', ?_, t2, (dn_fr_len List.length_replicate).2.trans hF.symm, ⟨c1.keep gA.up (by omega) (by omega) (by omega), c2.keep gA.up (by omega) (by omega) (by omega), t3, t4⟩, hl0', hl1', gA.mono (fun y k e => by omega)⟩
      unfold f_Model_frame_L28
      rw [if_pos rfl, e12]
      unfold f_Model_frame_L52
      rw [if_pos (by decide), ob_FU_eq, f_Model_frame_L106, show N32 n - (1 : Int32) = N32 (n - 1) by rw [show (1 : Int32) = N32 1 from rfl, nb_sub (by omega)], if_neg (by rw [nb_neg (by omega)]; exact id), if_pos (by decide)]
      have q1' : f_Model_frame_L139 S M (N32 o) 7 (N32 n) 2046 D = f_Model_frame_L232 S ob_FU M (N32 o) 7 (N32 n) 0 D4 := q1
      rw [q1']
      exact t1
def mDnR (D : ob_D) (M F : Nat) (frs : List (List Nat)) : Prop := frs.length ≤ 4 ∧ ∀ i, i < frs.length → ba D (M + 48) (256 * i) (frs.getD i []) ∧ (frs.getD i []).length = F
theorem mDnR.keep {D D' : ob_D} {M F : Nat} {frs : List (List Nat)} {P : Nat → Nat → Prop} (h : mDnR D M F frs) (a : og P D D') (hP : ∀ k, ¬ P (M + 48) k) : mDnR D' M F frs := ⟨h.1, fun i hi => ⟨(h.2 i hi).1.keep a (fun k _ _ => hP k), (h.2 i hi).2⟩⟩
theorem fmm_all {S : ob_S} {M n F fr : Nat} {c : sCh} {wd : Int32} {zg : sGt} (hF : F = n + 12) (hF2 : F ≤ 256) (hF1 : 64 ≤ F) (hfr : fr ≤ 4) (hwd : wd = N32 (gt_word zg)) : ∀ (e m j : Nat) (D : ob_D), j + e = fr → e < m → mA S D M → mGt S D M zg → D.1 M 1 = N32 F → D.1 M 2 = N32 fr → mDnC D M (dn_st n wd j c) → (dn_st n wd j c).1.length ≤ 4096 → (dn_st n wd j c).2.1.length ≤ 4096 → mDnR D M F (dn_frs n wd j c) → ∃ D', f_Model_tick_L336 S m M (N32 (dn_sum n wd j c)) (N32 j) D = some (N32 (dn_sum n wd fr c), D') ∧ mDnC D' M (dn_st n wd fr c) ∧ (dn_st n wd fr c).1.length ≤ 4096 ∧ (dn_st n wd fr c).2.1.length ≤ 4096 ∧ mDnR D' M F (dn_frs n wd fr c) ∧ oi (fun y k => (y = M ∧ k = 89) ∨ (M + 42 ≤ y ∧ y ≤ M + 43) ∨ (M + 45 ≤ y ∧ y ≤ M + 49)) D D' := by
  intro e
  induction e with
  | zero =>
    intro m j D hj hm hA hG h1 h2 hC hl0 hl1 hR
    match m, hm with
    | m + 1, _ =>
      have hj' : j = fr := hj
      subst hj'
      refine ⟨D, ?_, hC, hl0, hl1, hR, oi.rf⟩
      rw [f_Model_tick_L336, h2, if_pos (by rw [nb_le (by omega) (by omega)]; exact Nat.le_refl _)]
  | succ e ih =>
    intro m j D hj hm hA hG h1 h2 hC hl0 hl1 hR
    match m, hm with
    | m + 1, hm =>
      have hjf : j < fr := by omega
      have hlen := dn_frs_len n wd c j
      have a86 : D.2.1 M 86 = M + 47 ∧ S.2.1 (M + 47) = 2 := hA.1 (86, 47, 2) (by decide)
      obtain ⟨D1, p1, p2, p3, p4, p5, p6, p7⟩ := fmm_frame (S := S) (o := 256 * j) hF hF2 hF1 (by omega) hl0 hl1 hwd hA hG h1 hC
      have ho : (256 : Int32) * N32 j = N32 (256 * j) := by rw [show (256 : Int32) = N32 256 from rfl, nb_mul]
      have g1 : oi (fun y k => (y = M ∧ k = 89) ∨ (M + 42 ≤ y ∧ y ≤ M + 43) ∨ (M + 45 ≤ y ∧ y ≤ M + 49)) D D1 := p7.mono (fun y k e => by omega)
      have hR1 : mDnR D1 M F (dn_frs n wd (j + 1) c) := by
        rw [dn_frs]
        refine ⟨by rw [List.length_append, hlen, List.length_singleton]; omega, fun i hi => ?_⟩
        rw [List.length_append, hlen, List.length_singleton] at hi
        by_cases h : i = j
        · have eg : (dn_frs n wd j c ++ [(dn_one n wd (dn_st n wd j c)).1]).getD i [] = (dn_one n wd (dn_st n wd j c)).1 := by
            simp only [List.getD_eq_getElem?_getD]
            rw [List.getElem?_append_right (by omega), hlen, h, Nat.sub_self]
            rfl
          rw [eg, h]
          exact ⟨p2, p3⟩
        · have eg : (dn_frs n wd j c ++ [(dn_one n wd (dn_st n wd j c)).1]).getD i [] = (dn_frs n wd j c).getD i [] := by
            simp only [List.getD_eq_getElem?_getD]
            rw [List.getElem?_append_left (by omega)]
          rw [eg]
          have := hR.2 i (by omega)
          exact ⟨this.1.keep p7.up (fun k h1 h2 => by omega), this.2⟩
      obtain ⟨D', t1, t2, t3, t4, t5, t6⟩ := ih m (j + 1) D1 (by omega) (by omega) (hA.kp p7) (hG.keep p7.up (fun y k e => by unfold mGtP at e; omega) (by omega) (fun _ _ _ => rfl)) (by rw [p7.2 _ _ (by omega)]; exact h1) (by rw [p7.2 _ _ (by omega)]; exact h2) p4 p5 p6 hR1
      refine ⟨D', ?_, t2, t3, t4, t5, g1.tr t6⟩
      have e1 : N32 j + (1 : Int32) = N32 (j + 1) := nb_add _ 1
      rw [f_Model_tick_L336, h2, if_neg (by rw [nb_le (by omega) (by omega)]; omega), a86.1, if_pos (by omega), a86.2, if_pos (by decide), ho, p1, e1]
      simp only [ob_bv]
      rw [dn_sum] at t1
      rcases hst : dn_st n wd j c with ⟨lv, rp, so, al⟩
      rw [hst] at hC t1 hl0 hl1
      obtain ⟨c1, c2, c3, c4⟩ := hC
      have hl0' : lv.length ≤ 4096 := hl0
      have hl1' : rp.length ≤ 4096 := hl1
      have w0 : D.1 (M + 47) (0 : Int32).toNatClampNeg = N32 lv.length := c1.1
      have w1 : D.1 (M + 47) (1 : Int32).toNatClampNeg = N32 rp.length := c2.1
      have hct : dn_cnt (lv, rp, so, al) = if 0 < lv.length then 1 else if 0 < rp.length then 1 else 0 := rfl
      rw [hct] at t1
      have es : N32 (dn_sum n wd j c) + (1 : Int32) = N32 (dn_sum n wd j c + 1) := nb_add _ 1
      rw [w0, es]
      by_cases h0 : 0 < lv.length
      · rw [if_pos (by rw [show (0 : Int32) = N32 0 from rfl, nb_lt (by decide) (by omega)]; exact h0)]
        rw [if_pos h0] at t1
        exact t1
      · rw [if_neg (by rw [show (0 : Int32) = N32 0 from rfl, nb_lt (by decide) (by omega)]; exact h0), if_pos (by omega), if_pos (by decide), w1]
        rw [if_neg h0] at t1
        by_cases h2 : 0 < rp.length
        · rw [if_neg (by rw [show (0 : Int32) = N32 0 from rfl, nb_le (by omega) (by decide)]; omega)]
          rw [if_pos h2] at t1
          exact t1
        · rw [if_pos (by rw [show (0 : Int32) = N32 0 from rfl, nb_le (by omega) (by decide)]; omega)]
          rw [if_neg h2] at t1
          exact t1
