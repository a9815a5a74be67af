-- ===== memory, in the reference =====
theorem wm_memfail {S : ob_S} {D : ob_D} {M t : Nat} {c : List Nat} (hA : mA S D M) (hc : mCm D M c) (ht : t < 256) (hl : if t = 9 then 15 ≤ c.length else 14 ≤ c.length) : f_Model_memoryFailure S M (N32 t) D = some (N32 (pm_v (if t = 9 then nn c 13 2 else c.getD 13 0) (nn c 11 2)), D) := by
  have hbb := hc.2.2.2
  have b11 := nn_lt hbb 11 2
  have b13 := nn_lt hbb 13 2
  have c13 := by_getD_lt hbb 13
  have hl14 : 14 ≤ c.length := by split at hl <;> omega
  have d0 : f_Model_dataTwo S M 0 D = some (N32 (nn c 11 2), D) := wm_data2 hA hc (i := 0) (by omega)
  have h25 : ∀ n, n < 100000 → f_Model_memoryFailure_L25 S (N32 (nn c 11 2)) (N32 n) D = some (N32 (pm_v n (nn c 11 2)), D) := by
    intro n hn
    unfold f_Model_memoryFailure_L25 pm_v
    by_cases h0 : n = 0
    · rw [if_pos h0, if_pos (by rw [h0]; rfl)]; rfl
    · rw [if_neg h0, if_neg (by rw [show (0 : Int32) = N32 0 from rfl, nb_eq (by omega) (by decide)]; exact h0), nb_add]
      by_cases h1 : nn c 11 2 + n ≤ 4096
      · rw [if_pos h1, if_pos (by rw [show (4096 : Int32) = N32 4096 from rfl, nb_le (by omega) (by decide)]; exact h1)]; rfl
      · rw [if_neg h1, if_neg (by rw [show (4096 : Int32) = N32 4096 from rfl, nb_le (by omega) (by decide)]; exact h1)]; rfl
  unfold f_Model_memoryFailure
  rw [d0]
  simp only [ob_bd]
  by_cases h9 : t = 9
  · rw [if_pos h9] at hl
    have d2 : f_Model_dataTwo S M 2 D = some (N32 (nn c 13 2), D) := wm_data2 hA hc (i := 2) (by omega)
    rw [if_pos (by rw [h9]; rfl), if_pos h9, d2]
    simp only [ob_bd]
    exact h25 _ (by omega)
  · have d2 : f_Model_data S M 2 D = some (N32 (c.getD 13 0), D) := wm_data hA hc (i := 2) (by omega)
    rw [if_neg (by rw [show (9 : Int32) = N32 9 from rfl, nb_eq (by omega) (by decide)]; exact h9), if_neg h9, d2]
    simp only [ob_bd]
    exact h25 _ (by omega)
theorem wm_load_L {S : ob_S} {M : Nat} {c me : List Nat} (hml : me.length = 4096) (hl : c.length = 16 + c.getD 13 0) (hf : nn c 11 2 + c.getD 13 0 ≤ 4096) : ∀ (d n j : Nat) (D : ob_D), j + d = c.getD 13 0 → d < n → mA S D M → mCm D M c → ba D (M + 13) 0 (me_ld me (nn c 11 2) (fmps c) j) → ∃ D', f_Model_actMemory_L13 S n M (N32 (nn c 11 2)) (N32 j) D = some D' ∧ ba D' (M + 13) 0 (me_ld me (nn c 11 2) (fmps c) (c.getD 13 0)) ∧ oi (fun y k => y = M + 13) D D' := by
  intro d
  induction d with
  | zero =>
    intro n j D hj hn hA hc hb
    match n, hn with
    | n + 1, _ =>
      have hcl := hc.2.1
      have hj' : j = c.getD 13 0 := hj
      have d2 : f_Model_data S M 2 D = some (N32 (c.getD 13 0), D) := wm_data hA hc (i := 2) (by omega)
      refine ⟨D, ?_, by rw [hj'] at hb; exact hb, oi.rf⟩
      rw [f_Model_actMemory_L13, d2]
      simp only [ob_bd]
      rw [if_pos (by rw [nb_le (by omega) (by omega)]; omega)]
  | succ d ih =>
    intro n j D hj hn hA hc hb
    match n, hn with
    | n + 1, hn =>
      have hcl := hc.2.1
      have a27 : D.2.1 M 27 = M + 7 ∧ S.2.1 (M + 7) = 260 := hA.1 (27, 7, 260) (by decide)
      have a37 : D.2.1 M 37 = M + 13 ∧ S.2.1 (M + 13) = 4096 := hA.1 (37, 13, 4096) (by decide)
      have d2 : f_Model_data S M 2 D = some (N32 (c.getD 13 0), D) := wm_data hA hc (i := 2) (by omega)
      have e14 : (14 : Int32) + N32 j = N32 (14 + j) := nb_add 14 j
      have ej : N32 j + (1 : Int32) = N32 (j + 1) := nb_add _ 1
      have hx : (fmps c).getD j 0 = c.getD (14 + j) 0 := fmps_get (by omega)
      have hv : D.1 (M + 7) (N32 (14 + j)).toNatClampNeg = sb ((fmps c).getD j 0) := by
        have := hc.2.2.1 (14 + j) (by omega)
        rw [Nat.zero_add] at this
        rw [nb_clamp (by omega), this, hx]
      have hb256 : (fmps c).getD j 0 < 256 := by rw [hx]; exact by_getD_lt hc.2.2.2 _
      have hbn := ba_set hb (i := nn c 11 2 + j) (by rw [me_ld_len, hml]; omega) hb256
      rw [← me_ld_s, Nat.zero_add] at hbn
      have g : oi (fun y k => y = M + 13) D (ob_pI D (M + 13) (nn c 11 2 + j) (sb ((fmps c).getD j 0))) := oi.pI rfl
      obtain ⟨D', t1, t2, t3⟩ := ih n (j + 1) _ (by omega) (by omega) (hA.kp g) (hc.keep g.up (by omega) (by omega)) hbn
      refine ⟨D', ?_, t2, g.tr t3⟩
      rw [f_Model_actMemory_L13, d2]
      simp only [ob_bd]
      rw [if_neg (by rw [nb_le (by omega) (by omega)]; omega), a37.1, if_pos (by omega), a27.1, if_pos (by omega), e14, a27.2, if_pos (by rw [nb_in (by omega)]; omega), nb_add, a37.2, if_pos (by rw [nb_in (by omega)]; omega), hv, sb_sb, nb_clamp (by omega)]
      simp only [ob_lt]
      rw [ej]
      exact t1
theorem wm_load {S : ob_S} {D : ob_D} {M : Nat} {c me : List Nat} (hA : mA S D M) (hc : mCm D M c) (hb : ba D (M + 13) 0 me) (hml : me.length = 4096) (hl : c.length = 16 + c.getD 13 0) (hf : nn c 11 2 + c.getD 13 0 ≤ 4096) : ∃ D', f_Model_actMemory S M 2 D = some D' ∧ ba D' (M + 13) 0 (me_ld me (nn c 11 2) (fmps c) (c.getD 13 0)) ∧ oi (fun y k => y = M + 13) D D' := by
  have hcl := hc.2.1
  have d0 : f_Model_dataTwo S M 0 D = some (N32 (nn c 11 2), D) := wm_data2 hA hc (i := 0) (by omega)
  obtain ⟨D', t1, t2, t3⟩ := wm_load_L (S := S) hml hl hf (c.getD 13 0) ob_FU 0 D (by omega) (by rw [ob_FU_eq]; omega) hA hc hb
  refine ⟨D', ?_, t2, t3⟩
  have t1' : f_Model_actMemory_L13 S ob_FU M (N32 (nn c 11 2)) 0 D = some D' := t1
  unfold f_Model_actMemory
  rw [d0]
  simp only [ob_bd]
  rw [if_pos trivial]
  exact t1'
theorem mW.me {S : ob_S} {D : ob_D} {M m fr F w pt : Nat} {z : sW} (h : mW S D M m fr F w pt z) : ba D (M + 13) 0 z.2.2.2.2.2.2.2.2.2.2.2 ∧ z.2.2.2.2.2.2.2.2.2.2.2.length = 4096 := by
  obtain ⟨gt, rc, A, on, ev, lm, ch, frs, rp, cr, fm, me⟩ := z
  exact h.2.2.2.2.2.2.2.2.2.2.2.1
theorem nn_be3 {c : List Nat} (hb : ∀ x ∈ c, x < 256) : by_be (N32 (nn c 11 2)) 2 ++ by_be (N32 (c.getD 13 0)) 1 = by_be (N32 (nn c 11 3)) 3 := by
  have h0 := by_getD_lt hb 11
  have h1 := by_getD_lt hb 12
  have h2 := by_getD_lt hb 13
  have e3 : nn c 11 3 = nn c 11 2 * 256 + c.getD 13 0 := rfl
  rw [e3, nn_2]
  show [by_of _ 1, by_of _ 0] ++ [by_of _ 0] = [by_of _ 2, by_of _ 1, by_of _ 0]
  generalize c.getD 11 0 = x at *
  generalize hy : c.getD (11 + 1) 0 = y at *
  have hy2 : y < 256 := h1
  generalize c.getD 13 0 = v at *
  unfold by_of
  rw [n_un, n_un, n_un]
  simp only [Nat.shiftRight_eq_div_pow, Nat.reduceMul, Nat.reducePow, List.cons_append, List.nil_append, List.cons.injEq, and_true]
  refine ⟨by omega, by omega, by omega⟩
theorem nn_be4 {c : List Nat} (hb : ∀ x ∈ c, x < 256) : by_be (N32 (nn c 11 2)) 2 ++ by_be (N32 (nn c 13 2)) 2 = by_be (N32 (nn c 11 4)) 4 := by
  have h0 := nn_lt hb 11 2
  have h1 := nn_lt hb 13 2
  rw [nn_4]
  show [by_of _ 1, by_of _ 0] ++ [by_of _ 1, by_of _ 0] = [by_of _ 3, by_of _ 2, by_of _ 1, by_of _ 0]
  have e : nn c (11 + 2) 2 = nn c 13 2 := rfl
  rw [e]
  generalize nn c 11 2 = x at *
  generalize nn c 13 2 = v at *
  unfold by_of
  rw [n_un, n_un, n_un]
  simp only [Nat.shiftRight_eq_div_pow, Nat.reduceMul, Nat.reducePow, List.cons_append, List.nil_append, List.cons.injEq, and_true]
  refine ⟨by omega, by omega, by omega, by omega⟩
theorem wm_dump_L {S : ob_S} {M m fr F w pt : Nat} {z : sW} {c : List Nat} (hl : 14 ≤ c.length) (hf : nn c 11 2 + c.getD 13 0 ≤ 4096) (hml : z.2.2.2.2.2.2.2.2.2.2.2.length = 4096) : ∀ (d n j : Nat) (D : ob_D), j + d = c.getD 13 0 → d < n → mW S D M m fr F w pt (w_beg 6 6 z) → mPk D M (w_hd 6 6 z ++ (by_be (N32 (nn c 11 3)) 3 ++ ((z.2.2.2.2.2.2.2.2.2.2.2.drop (nn c 11 2)).take j))) → mCm D M c → ∃ D', f_Model_actMemory_L77 S n M (N32 (nn c 11 2)) (N32 j) D = some D' ∧ mX S D' M m fr F w pt (w_rep w 6 6 (me_dump c z.2.2.2.2.2.2.2.2.2.2.2) z) c ∧ oi (mReg M) D D' := by
  intro d
  induction d with
  | zero =>
    intro n j D hj hn hW hp hc
    match n, hn with
    | n + 1, _ =>
      have hj' : j = c.getD 13 0 := hj
      have b13 := by_getD_lt hc.2.2.2 13
      rw [hj'] at hp
      have d2 : f_Model_data S M 2 D = some (N32 (c.getD 13 0), D) := wm_data hW.mA hc (i := 2) (by omega)
      have hdl : ((z.2.2.2.2.2.2.2.2.2.2.2.drop (nn c 11 2)).take (c.getD 13 0)).length = c.getD 13 0 := by rw [List.length_take, List.length_drop]; omega
      obtain ⟨D', t1, t2, t3⟩ := wm_done (body := me_dump c z.2.2.2.2.2.2.2.2.2.2.2) hW hp hc (by decide) (by unfold me_dump; rw [List.length_append, by_be_len, hdl]; omega)
      refine ⟨D', ?_, t2, t3⟩
      rw [f_Model_actMemory_L77, d2]
      simp only [ob_bd]
      rw [if_pos (by rw [nb_le (by omega) (by omega)]; omega), t1]
      rfl
  | succ d ih =>
    intro n j D hj hn hW hp hc
    match n, hn with
    | n + 1, hn =>
      have hA := hW.mA
      have b13 := by_getD_lt hc.2.2.2 13
      have a37 : D.2.1 M 37 = M + 13 ∧ S.2.1 (M + 13) = 4096 := hA.1 (37, 13, 4096) (by decide)
      have d2 : f_Model_data S M 2 D = some (N32 (c.getD 13 0), D) := wm_data hA hc (i := 2) (by omega)
      have ej : N32 j + (1 : Int32) = N32 (j + 1) := nb_add _ 1
      have hme := hW.me
      rw [w_beg_me] at hme
      have hv : D.1 (M + 13) (N32 (nn c 11 2 + j)).toNatClampNeg = sb (z.2.2.2.2.2.2.2.2.2.2.2.getD (nn c 11 2 + j) 0) := by
        have := hme.1.1 (nn c 11 2 + j) (by omega)
        rw [Nat.zero_add] at this
        rw [nb_clamp (by omega), this]
      have hb256 := by_getD_lt hme.1.2 (nn c 11 2 + j)
      have htk := by_take_succ (l := z.2.2.2.2.2.2.2.2.2.2.2) (f := nn c 11 2) (k := j) (by omega)
      have hlen : (w_hd 6 6 z ++ (by_be (N32 (nn c 11 3)) 3 ++ ((z.2.2.2.2.2.2.2.2.2.2.2.drop (nn c 11 2)).take j))).length ≤ 300 := by
        rw [List.length_append, List.length_append, w_hd_len, by_be_len, List.length_take, List.length_drop]
        omega
      obtain ⟨D1, s1, s2, s3⟩ := mpk_one hA hp (by omega) hb256 (x := sb (z.2.2.2.2.2.2.2.2.2.2.2.getD (nn c 11 2 + j) 0)) (sb_sb _)
      rw [List.append_assoc, List.append_assoc, ← htk] at s2
      obtain ⟨D', t1, t2, t3⟩ := ih n (j + 1) D1 (by omega) (by omega) (wm_u0 hW s3) s2 (hc.pk s3)
      refine ⟨D', ?_, t2, (mReg_pk s3).tr t3⟩
      rw [f_Model_actMemory_L77, d2]
      simp only [ob_bd]
      rw [if_neg (by rw [nb_le (by omega) (by omega)]; omega), a37.1, if_pos (by omega), nb_add, a37.2, if_pos (by rw [nb_in (by omega)]; omega), hv, s1]
      simp only [ob_bv]
      rw [ej]
      exact t1
theorem wm_dump {S : ob_S} {D : ob_D} {M m fr F w pt : Nat} {z : sW} {c : List Nat} (h : mX S D M m fr F w pt z c) (hl : 14 ≤ c.length) (hf : nn c 11 2 + c.getD 13 0 ≤ 4096) : ∃ D', f_Model_actMemory S M 5 D = some D' ∧ mX S D' M m fr F w pt (w_rep w 6 6 (me_dump c z.2.2.2.2.2.2.2.2.2.2.2) z) c ∧ oi (mReg M) D D' := by
  obtain ⟨hW, ⟨p, hp⟩, hc⟩ := h
  have hbb := hc.2.2.2
  have b13 := by_getD_lt hbb 13
  have hml := hW.me.2
  have d0 : f_Model_dataTwo S M 0 D = some (N32 (nn c 11 2), D) := wm_data2 hW.mA hc (i := 0) (by omega)
  obtain ⟨D25, b1, b2, b3, b4, b5⟩ := wm_begin hW hp hc (s := 6) (k := 6) (by decide) (by decide)
  obtain ⟨D27, a1, a2, a3, a4, a5⟩ := wm_say2 b2 b3 b4 (N32 (nn c 11 2)) (by rw [w_hd_len]; decide)
  have d2 : f_Model_data S M 2 D27 = some (N32 (c.getD 13 0), D27) := wm_data a2.mA a4 (i := 2) (by omega)
  obtain ⟨D32, e1, e2, e3, e4, e5⟩ := wm_say a2 a3 a4 (N32 (c.getD 13 0)) (by rw [List.length_append, w_hd_len, by_be_len]; decide)
  rw [List.append_assoc, nn_be3 hbb] at e3
  obtain ⟨D', t1, t2, t3⟩ := wm_dump_L (z := z) hl hf hml (c.getD 13 0) ob_FU 0 D32 (by omega) (by rw [ob_FU_eq]; omega) e2 (by rw [List.take_zero, List.append_nil]; exact e3) e4
  refine ⟨D', ?_, t2, ((b5.tr a5).tr e5).tr t3⟩
  have b1' : f_Model_report S M 6 6 D = some D25 := b1
  have t1' : f_Model_actMemory_L77 S ob_FU M (N32 (nn c 11 2)) 0 D32 = some D' := t1
  unfold f_Model_actMemory
  rw [d0]
  simp only [ob_bd]
  rw [if_neg (by decide), if_pos trivial, b1']
  simp only [ob_bv]
  rw [a1]
  simp only [ob_bv]
  rw [d2]
  simp only [ob_bd]
  rw [e1]
  simp only [ob_bv]
  exact t1'
theorem wm_chk {S : ob_S} {D : ob_D} {M m fr F w pt : Nat} {z : sW} {c : List Nat} (h : mX S D M m fr F w pt z c) (hl : 15 ≤ c.length) (hf : nn c 11 2 + nn c 13 2 ≤ 4096) : ∃ D', f_Model_actMemory S M 9 D = some D' ∧ mX S D' M m fr F w pt (w_rep w 6 10 (me_chk c z.2.2.2.2.2.2.2.2.2.2.2) z) c ∧ oi (mReg M) D D' := by
  obtain ⟨hW, ⟨p, hp⟩, hc⟩ := h
  have hbb := hc.2.2.2
  have d0 : f_Model_dataTwo S M 0 D = some (N32 (nn c 11 2), D) := wm_data2 hW.mA hc (i := 0) (by omega)
  obtain ⟨D4, b1, b2, b3, b4, b5⟩ := wm_begin hW hp hc (s := 6) (k := 10) (by decide) (by decide)
  obtain ⟨D6, a1, a2, a3, a4, a5⟩ := wm_say2 b2 b3 b4 (N32 (nn c 11 2)) (by rw [w_hd_len]; decide)
  have d2 : f_Model_dataTwo S M 2 D6 = some (N32 (nn c 13 2), D6) := wm_data2 a2.mA a4 (i := 2) (by omega)
  obtain ⟨D11, e1, e2, e3, e4, e5⟩ := wm_say2 a2 a3 a4 (N32 (nn c 13 2)) (by rw [List.length_append, w_hd_len, by_be_len]; decide)
  rw [List.append_assoc, nn_be4 hbb] at e3
  have hA11 := e2.mA
  have a37 : D11.2.1 M 37 = M + 13 ∧ S.2.1 (M + 13) = 4096 := hA11.1 (37, 13, 4096) (by decide)
  have d2b : f_Model_dataTwo S M 2 D11 = some (N32 (nn c 13 2), D11) := wm_data2 hA11 e4 (i := 2) (by omega)
  have hme := e2.me
  rw [w_beg_me] at hme
  have yc : f_Model_check S (M + 13) (N32 (nn c 11 2)) (N32 (nn c 13 2)) D11 = some (N32 (cr_f ((z.2.2.2.2.2.2.2.2.2.2.2.drop (nn c 11 2)).take (nn c 13 2))), D11) := by
    have := ba_check (S := S) hme.1 (f := nn c 11 2) (c := nn c 13 2) (by rw [Nat.zero_add, hme.2, a37.2]; exact Nat.le_refl _) (by rw [a37.2]; decide) (by omega)
    rw [Nat.zero_add] at this
    exact this
  obtain ⟨D21, g1, g2, g3, g4, g5⟩ := wm_say2 e2 e3 e4 (N32 (cr_f ((z.2.2.2.2.2.2.2.2.2.2.2.drop (nn c 11 2)).take (nn c 13 2)))) (by rw [List.length_append, w_hd_len, by_be_len]; decide)
  rw [List.append_assoc] at g3
  obtain ⟨D', t1, t2, t3⟩ := wm_done (body := me_chk c z.2.2.2.2.2.2.2.2.2.2.2) g2 g3 g4 (by decide) (by unfold me_chk; rw [List.length_append, by_be_len, by_be_len]; decide)
  refine ⟨D', ?_, t2, (((b5.tr a5).tr e5).tr g5).tr t3⟩
  have b1' : f_Model_report S M 6 10 D = some D4 := b1
  unfold f_Model_actMemory
  rw [d0]
  simp only [ob_bd]
  rw [if_neg (by decide), if_neg (by decide), b1']
  simp only [ob_bv]
  rw [a1]
  simp only [ob_bv]
  rw [d2]
  simp only [ob_bd]
  rw [e1]
  simp only [ob_bv]
  rw [a37.1, if_pos (by omega), d2b]
  simp only [ob_bd]
  rw [yc]
  simp only [ob_bd]
  rw [g1]
  simp only [ob_bv]
  rw [t1]
