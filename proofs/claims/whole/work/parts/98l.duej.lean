-- ===== the entries whose time has come, on both sides =====
theorem ttm_some {S : ob_S} {D : ob_D} {M : Nat} {A : List sEn} {on : Bool} (hA : mA S D M) (h : mTt D M A on) : ∃ x, f_Model_due S M 0 D = some (x, D) := by
  by_cases h0 : A.length = 0
  · exact ⟨_, ttm_none h h0 0⟩
  · obtain ⟨i, -, -, h3⟩ := ttm_due hA h (k := 0) (by omega)
    exact ⟨_, h3⟩
theorem dm_pop {S : ob_S} {D : ob_D} {M m fr F w pt i : Nat} {gt : sGt} {rc : sRc} {A : List sEn} {on : Bool} {ev : sEv} {lm : List sLm} {ch : sCh} {frs : List (List Nat)} {rp : sRp} {cr : sCr} {fm : List sFm} {me c : List Nat} (h : mX S D M m fr F w pt (gt, rc, A, on, ev, lm, ch, frs, rp, cr, fm, me) c) (hi : i < A.length) : ∃ D1 D', f_Model_take S M (M + 18) ((260 : Int32) * N32 i) (D.1 (M + 17) i) D = some D1 ∧ f_Model_dropEntry S M (N32 i) D1 = some D' ∧ mX S D' M m fr F w pt (gt, rc, A.eraseIdx i, on, ev, lm, ch, frs, rp, cr, fm, me) (A.getD i (0, [])).2 ∧ oi (mReg M) D D' := by
  obtain ⟨hW, ⟨p, hp⟩, hc⟩ := h
  have htt : mTt D M A on := hW.2.2.2.1
  have hA : mA S D M := hW.1
  have he := htt.2.2.1 i hi
  have h64 := htt.2.1
  have a44 := hA.1 (44, 18, 16640) (by decide)
  have a442 : S.2.1 (M + 18) = 16640 := a44.2
  have hl := he.2.2.2.1
  obtain ⟨D1, t1, t2, t3⟩ := mcm_take hA he.2.2.2.2 (by rw [a442]; omega) (by rw [a442]; omega) hl (by omega)
  have hW1 := hW.u0 (t3.mono (fun y k e => by omega))
  have hp1 : mPk D1 M p := hp.keep t3.up (by omega) (by omega)
  obtain ⟨D', s1, s2, s3⟩ := edm_drop hW1.1 hW1.2.2.2.1 hi
  refine ⟨D1, D', ?_, s1, ⟨hW1.uTt (s3.mono (fun y k e => by omega)) s2, ⟨p, hp1.keep s3.up (by omega) (by omega)⟩, t2.keep s3.up (by omega) (by omega)⟩, t3.tr2 s3 (fun y k e => by omega) (fun y k e => by omega)⟩
  rw [he.2.1, show (260 : Int32) * N32 i = N32 (260 * i) from nb_mul 260 i]
  exact t1
theorem mY.tt {S : ob_S} {D : ob_D} {M m fr F w pt : Nat} {z : sW} (h : mY S D M m fr F w pt z) : ∃ x, f_Model_due S M 0 D = some (x, D) := by
  obtain ⟨c, h⟩ := h
  exact ttm_some h.1.mA h.1.tt
theorem cY.len {S : ob_S} {D : ob_D} {B m fr F w pt : Nat} {z : sW} (h : cY S D B m fr F w pt z) : z.2.2.1.length ≤ m ∧ m ≤ 64 := by
  obtain ⟨c, h⟩ := h
  obtain ⟨gt, rc, A, on, ev, lm, ch, frs, rp, cr, fm, me⟩ := z
  have htt : cTt S D (B + 26) m (tt_sort A) on := h.1.2.2.1
  have := htt.2.2.2.1
  rw [tt_sort_len] at this
  exact ⟨this, htt.1.2.2.2.2.2⟩
theorem j_handle {S : ob_S} {Dc Dm : ob_D} {B M m fr F w pt : Nat} {z : sW} {c : List Nat} (hc : cX S Dc B m fr F w pt z c) (hm : mX S Dm M m fr F w pt z c) : ∃ Dc' Dm' z', f_Handler_handle S (B + 29 + 2 * m + 80 + 2 * fr + 9) Dc = some Dc' ∧ f_Model_handle S M Dm = some Dm' ∧ cX S Dc' B m fr F w pt z' c ∧ mX S Dm' M m fr F w pt z' c ∧ ndq z z' ∧ og (cReg B m fr) Dc Dc' ∧ oi (mReg M) Dm Dm' := by
  have hl := cY.len ⟨c, hc⟩
  obtain ⟨Dc', t1, t2, t3⟩ := wc_handle hc hm.1.me.2
  obtain ⟨Dm', s1, s2, s3⟩ := wm_handle hm hl.2 hl.1
  exact ⟨Dc', Dm', w_handle m w c z, t1, s1, t2, s2, handle_nd m w c z, t3, s3⟩
theorem j_due {S : ob_S} {B M m fr F w pt : Nat} : ∀ (d n1 n2 j : Nat) (Dc Dm : ob_D) (z : sW) (x : Int32), j + d = 64 → d < n1 → d < n2 → w_ck z < 2147483648 → nd (N32 (w_ck z)) z.2.2.1 ≤ d → cY S Dc B m fr F w pt z → mY S Dm M m fr F w pt z → f_Model_due S M 0 Dm = some (x, Dm) → ∃ Dc' Dm' z', f_Handler_handleDueEntries_L2 S n1 (B + 29 + 2 * m + 80 + 2 * fr + 9) (N32 j) Dc = some Dc' ∧ f_Model_tick_L21 S n2 M x Dm = f_Model_tick_L82 S ob_FU M Dm' ∧ cY S Dc' B m fr F w pt z' ∧ mY S Dm' M m fr F w pt z' ∧ w_ck z' = w_ck z ∧ og (cReg B m fr) Dc Dc' ∧ oi (mReg M) Dm Dm' := by
  intro d
  induction d with
  | zero =>
    intro n1 n2 j Dc Dm z x hj hn1 hn2 hck hnd hc hm hx
    match n1, n2, hn1, hn2 with
    | n1 + 1, n2 + 1, _, _ =>
      have hj' : j = 64 := by omega
      subst hj'
      refine ⟨Dc, Dm, z, ?_, ?_, hc, hm, rfl, og.rf, oi.rf⟩
      · rw [f_Handler_handleDueEntries_L2, if_pos (by decide)]
      · obtain ⟨c, hm⟩ := hm
        obtain ⟨gt, rc, A, on, ev, lm, ch, frs, rp, ⟨wi, mo, ck, al, hd, fa, br⟩, fm, me⟩ := z
        have hA : mA S Dm M := hm.1.1
        have htt : mTt Dm M A on := hm.1.2.2.2.1
        have h41 : Dm.1 M 41 = N32 ck := hm.1.2.2.2.2.2.2.2.2.2.1.2.2.2.1
        have hnd : nd (N32 ck) A ≤ 0 := hnd
        by_cases h0 : A.length = 0
        · rw [ttm_none htt h0 0] at hx
          cases hx
          rw [f_Model_tick_L21, if_pos (by decide)]
        · obtain ⟨i, h1, h2, h3⟩ := ttm_due hA htt (k := 0) (by omega)
          have h3 : f_Model_due S M 0 Dm = some (N32 i, Dm) := h3
          rw [h3] at hx
          cases hx
          have h64 := htt.2.1
          have a42 := hA.1 (42, 16, 64) (by decide)
          have a421 : Dm.2.1 M 42 = M + 16 := a42.1
          have a422 : S.2.1 (M + 16) = 64 := a42.2
          have v : Dm.1 (M + 16) (N32 i).toNatClampNeg = (A.getD i (0, [])).1 := by
            rw [nb_clamp (by omega)]
            exact (htt.2.2.1 i h1).1
          rw [f_Model_tick_L21, if_neg (by rw [nb_neg (by omega)]; exact id), a421, if_pos (by omega), a422, if_pos (by rw [nb_in (by omega)]; omega), v, h41, if_pos]
          apply Int32.not_le.mp
          intro hle
          have := nd_er (N32 ck) A i h1 hle
          omega
  | succ d ih =>
    intro n1 n2 j Dc Dm z x hj hn1 hn2 hck hnd hc hm hx
    match n1, n2, hn1, hn2 with
    | n1 + 1, n2 + 1, hn1, hn2 =>
      obtain ⟨c, hm⟩ := hm
      obtain ⟨c', hc⟩ := hc
      obtain ⟨gt, rc, A, on, ev, lm, ch, frs, rp, ⟨wi, mo, ck, al, hd, fa, br⟩, fm, me⟩ := z
      have hA : mA S Dm M := hm.1.1
      have htt : mTt Dm M A on := hm.1.2.2.2.1
      have htc : cTt S Dc (B + 26) m (tt_sort A) on := hc.1.2.2.1
      have h41 : Dm.1 M 41 = N32 ck := hm.1.2.2.2.2.2.2.2.2.2.1.2.2.2.1
      have h8 : Dc.1 (B + 29 + 2 * m + 80 + 2 * fr + 7) 8 = N32 ck := hc.1.2.2.2.2.2.2.2.2.1.2.2.2.1
      have hH := hc.1.hd
      have hnd : nd (N32 ck) A ≤ d + 1 := hnd
      have hck : ck < 2147483648 := hck
      have e1 : N32 j + (1 : Int32) = N32 (j + 1) := nb_add _ 1
      have hdue := ttc_due htc (N32 ck)
      have hstart : f_Handler_handleDueEntries_L2 S (n1 + 1) (B + 29 + 2 * m + 80 + 2 * fr + 9) (N32 j) Dc = (if bI (tt_dq (N32 ck) (tt_sort A)) = 0 then some Dc else ob_bv (f_Timetable_takeFirst S (B + 26) (B + 29 + 2 * m + 80 + 2 * fr + 12) Dc) fun D12 => if D12.2.1 (B + 29 + 2 * m + 80 + 2 * fr + 9) 2 ≠ 0 then (if (D12.1 (D12.2.1 (B + 29 + 2 * m + 80 + 2 * fr + 9) 2) 3) = 0 then f_Handler_handleDueEntries_L2 S n1 (B + 29 + 2 * m + 80 + 2 * fr + 9) (N32 (j + 1)) D12 else ob_bv (f_Handler_handle S (B + 29 + 2 * m + 80 + 2 * fr + 9) D12) fun D16 => f_Handler_handleDueEntries_L2 S n1 (B + 29 + 2 * m + 80 + 2 * fr + 9) (N32 (j + 1)) D16) else none) := by
        rw [f_Handler_handleDueEntries_L2, if_neg (by rw [show (64 : Int32) = N32 64 from rfl, nb_le (by omega) (by omega)]; omega), hH.2.2.1, if_pos (by omega), hH.1, if_pos (by omega), h8, hdue]
        simp only [ob_bd]
        rw [hH.2.2.1, hH.2.2.2.2.2.2.2.2.1, if_pos (show B + 26 ≠ 0 by omega), if_pos (show B + 29 + 2 * m + 80 + 2 * fr + 12 ≠ 0 by omega), e1]
      by_cases h0 : A.length = 0
      · rw [ttm_none htt h0 0] at hx
        cases hx
        refine ⟨Dc, Dm, _, ?_, ?_, ⟨c', hc⟩, ⟨c, hm⟩, rfl, og.rf, oi.rf⟩
        · have hA0 : A = [] := List.eq_nil_of_length_eq_zero h0
          rw [hstart, if_pos (by rw [hA0]; rfl)]
        · rw [f_Model_tick_L21, if_pos (by decide)]
      · obtain ⟨i, h1, h2, h3⟩ := ttm_due hA htt (k := 0) (by omega)
        have h3 : f_Model_due S M 0 Dm = some (N32 i, Dm) := h3
        rw [h3] at hx
        cases hx
        have h64 := htt.2.1
        have a42 := hA.1 (42, 16, 64) (by decide)
        have a421 : Dm.2.1 M 42 = M + 16 := a42.1
        have a422 : S.2.1 (M + 16) = 64 := a42.2
        have a43 := hA.1 (43, 17, 64) (by decide)
        have a431 : Dm.2.1 M 43 = M + 17 := a43.1
        have a432 : S.2.1 (M + 17) = 64 := a43.2
        have a44 := hA.1 (44, 18, 16640) (by decide)
        have a441 : Dm.2.1 M 44 = M + 18 := a44.1
        obtain ⟨hs, Dc1, p1, p2, p3, p4⟩ := dc_pop hc h1 h2
        have v : Dm.1 (M + 16) (N32 i).toNatClampNeg = (A.getD i (0, [])).1 := by
          rw [nb_clamp (by omega)]
          exact (htt.2.2.1 i h1).1
        have v17 : Dm.1 (M + 17) (N32 i).toNatClampNeg = Dm.1 (M + 17) i := by
          rw [nb_clamp (by omega)]
        have hmst : f_Model_tick_L21 S (n2 + 1) M (N32 i) Dm = (if N32 ck < (A.getD i (0, [])).1 then f_Model_tick_L82 S ob_FU M Dm else ob_bv (f_Model_take S M (M + 18) ((260 : Int32) * N32 i) (Dm.1 (M + 17) i) Dm) fun D82 => ob_bv (f_Model_dropEntry S M (N32 i) D82) fun D84 => (if (D84.1 M 46) = 0 then ob_bd (f_Model_due S M (0 : Int32) D84) fun x88 D86 => f_Model_tick_L21 S n2 M x88 D86 else ob_bv (f_Model_handle S M D84) fun D89 => ob_bd (f_Model_due S M (0 : Int32) D89) fun x93 D91 => f_Model_tick_L21 S n2 M x93 D91)) := by
          rw [f_Model_tick_L21, if_neg (by rw [nb_neg (by omega)]; exact id), a421, if_pos (by omega), a422, if_pos (by rw [nb_in (by omega)]; omega), v, h41, a441, if_pos (show M + 18 ≠ 0 by omega), a431, if_pos (show M + 17 ≠ 0 by omega), a432, if_pos (show ob_in (N32 i) 64 by rw [nb_in (by omega)]; omega), v17]
        by_cases hlt : N32 ck < (A.getD i (0, [])).1
        · refine ⟨Dc, Dm, _, ?_, ?_, ⟨c', hc⟩, ⟨c, hm⟩, rfl, og.rf, oi.rf⟩
          · rw [hstart, if_pos]
            rw [hs]
            have : tt_dq (N32 ck) (A.getD i (0, []) :: tt_sort (A.eraseIdx i)) = decide ((A.getD i (0, [])).1 ≤ N32 ck) := rfl
            rw [this, decide_eq_false (Int32.not_le.mpr hlt)]
            rfl
          · rw [hmst, if_pos hlt]
        · have hle : (A.getD i (0, [])).1 ≤ N32 ck := Int32.not_lt.mp hlt
          have hndp := nd_er (N32 ck) A i h1 hle
          obtain ⟨Dm0, Dm1, q1, q2, q3, q4⟩ := dm_pop hm h1
          have hcs : f_Handler_handleDueEntries_L2 S (n1 + 1) (B + 29 + 2 * m + 80 + 2 * fr + 9) (N32 j) Dc = (if bI on = 0 then f_Handler_handleDueEntries_L2 S n1 (B + 29 + 2 * m + 80 + 2 * fr + 9) (N32 (j + 1)) Dc1 else ob_bv (f_Handler_handle S (B + 29 + 2 * m + 80 + 2 * fr + 9) Dc1) fun D16 => f_Handler_handleDueEntries_L2 S n1 (B + 29 + 2 * m + 80 + 2 * fr + 9) (N32 (j + 1)) D16) := by
            rw [hstart, if_neg]
            · rw [p1]
              simp only [ob_bv]
              rw [p2.1.hd.2.2.1, if_pos (by omega), p3]
            · rw [hs]
              have : tt_dq (N32 ck) (A.getD i (0, []) :: tt_sort (A.eraseIdx i)) = decide ((A.getD i (0, [])).1 ≤ N32 ck) := rfl
              rw [this, decide_eq_true hle]
              decide
          have h46 : Dm1.1 M 46 = bI on := q3.1.2.2.2.1.2.2.2
          have hms : f_Model_tick_L21 S (n2 + 1) M (N32 i) Dm = (if bI on = 0 then ob_bd (f_Model_due S M (0 : Int32) Dm1) fun x88 D86 => f_Model_tick_L21 S n2 M x88 D86 else ob_bv (f_Model_handle S M Dm1) fun D89 => ob_bd (f_Model_due S M (0 : Int32) D89) fun x93 D91 => f_Model_tick_L21 S n2 M x93 D91) := by
            rw [hmst, if_neg hlt, q1]
            simp only [ob_bv]
            rw [q2]
            simp only [ob_bv]
            rw [h46]
          rw [hcs, hms]
          by_cases ho : bI on = 0
          · rw [if_pos ho, if_pos ho]
            obtain ⟨x', hx'⟩ := mY.tt ⟨_, q3⟩
            rw [hx']
            simp only [ob_bd]
            obtain ⟨Dc', Dm', z', r1, r2, r3, r4, r5, r6, r7⟩ := ih n1 n2 (j + 1) Dc1 Dm1 (gt, rc, A.eraseIdx i, on, ev, lm, ch, frs, rp, (wi, mo, ck, al, hd, fa, br), fm, me) x' (by omega) (by omega) (by omega) hck (show nd (N32 ck) (A.eraseIdx i) ≤ d by omega) ⟨_, p2⟩ ⟨_, q3⟩ hx'
            exact ⟨Dc', Dm', z', r1, r2, r3, r4, r5, p4.tr r6, q4.tr r7⟩
          · rw [if_neg ho, if_neg ho]
            obtain ⟨Dc2, Dm2, z2, s1, s2, s3, s4, s5, s6, s7⟩ := j_handle p2 q3
            rw [s1, s2]
            simp only [ob_bv]
            obtain ⟨x', hx'⟩ := mY.tt ⟨_, s4⟩
            rw [hx']
            simp only [ob_bd]
            have hck2 : w_ck z2 = ck := s5.2
            have hnd2 : nd (N32 ck) z2.2.2.1 ≤ nd (N32 ck) (A.eraseIdx i) := s5.1
            obtain ⟨Dc', Dm', z', r1, r2, r3, r4, r5, r6, r7⟩ := ih n1 n2 (j + 1) Dc2 Dm2 z2 x' (by omega) (by omega) (by omega) (by rw [hck2]; exact hck) (by rw [hck2]; omega) ⟨_, s3⟩ ⟨_, s4⟩ hx'
            exact ⟨Dc', Dm', z', r1, r2, r3, r4, by rw [r5, hck2]; rfl, (p4.tr s6).tr r6, (q4.tr s7).tr r7⟩
