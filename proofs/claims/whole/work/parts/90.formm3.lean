-- ===== forms: the reference's report =====
theorem mW.fm {S : ob_S} {D : ob_D} {M m fr F w pt : Nat} {z : sW} (h : mW S D M m fr F w pt z) : mFm D M z.2.2.2.2.2.2.2.2.2.2.1 := by
  obtain ⟨gt, rc, A, on, ev, lm, ch, frs, rp, cr, fm, me⟩ := z
  exact h.2.2.2.2.2.2.2.2.2.2.1
theorem wm_sendform_L {S : ob_S} {M m fr F w pt : Nat} {z : sW} {c : List Nat} {f : sFm} (hf : f ∈ z.2.2.2.2.2.2.2.2.2.2.1) : ∀ (d n j : Nat) (D : ob_D), j + d = f.2.2.2.length → d < n → mW S D M m fr F w pt (w_beg 3 25 z) → mPk D M (w_hd 3 25 z ++ (by_be (N32 f.1) 1 ++ ((f.2.2.2.take j).map (fun p => by_be (w_par p z) 4)).flatten)) → mCm D M c → ∃ D', f_Model_formReport_L14 S n M (N32 f.1) (N32 j) D = some D' ∧ mX S D' M m fr F w pt (w_rep w 3 25 (fm_body f z) z) c ∧ oi (mReg M) D D' := by
  intro d
  induction d with
  | zero =>
    intro n j D hj hn hW hp hc
    match n, hn with
    | n + 1, _ =>
      have hF := hW.fm
      rw [w_beg_fm] at hF
      obtain ⟨f1, f2, f3, f4, f5, f6⟩ := hF
      have ho := f4 f hf
      have hl8 := ho.2.2.2.2.1
      have hA := hW.mA
      have a34 : D.2.1 M 34 = M + 11 ∧ S.2.1 (M + 11) = 256 := hA.1 (34, 11, 256) (by decide)
      have hk := ho.1
      have v34 : D.1 (M + 11) (N32 f.1).toNatClampNeg = N32 f.2.2.2.length := by rw [nb_clamp (by omega)]; exact (f6 f hf).2.2.1
      rw [List.take_of_length_le (by omega)] at hp
      obtain ⟨D', t1, t2, t3⟩ := wm_done (body := fm_body f z) hW hp hc (by decide) (by unfold fm_body; rw [List.length_append, by_be_len, fm_body_len]; omega)
      refine ⟨D', ?_, t2, t3⟩
      rw [f_Model_formReport_L14, a34.1, if_pos (by omega), a34.2, if_pos (by rw [nb_in (by omega)]; exact hk), v34, if_pos (by rw [nb_le (by omega) (by omega)]; omega), t1]
      rfl
  | succ d ih =>
    intro n j D hj hn hW hp hc
    match n, hn with
    | n + 1, hn =>
      have hF := hW.fm
      rw [w_beg_fm] at hF
      obtain ⟨f1, f2, f3, f4, f5, f6⟩ := hF
      have ho := f4 f hf
      have hl8 := ho.2.2.2.2.1
      have hA := hW.mA
      have a34 : D.2.1 M 34 = M + 11 ∧ S.2.1 (M + 11) = 256 := hA.1 (34, 11, 256) (by decide)
      have a35 : D.2.1 M 35 = M + 12 ∧ S.2.1 (M + 12) = 2048 := hA.1 (35, 12, 2048) (by decide)
      have hk := ho.1
      have v34 : D.1 (M + 11) (N32 f.1).toNatClampNeg = N32 f.2.2.2.length := by rw [nb_clamp (by omega)]; exact (f6 f hf).2.2.1
      have hjl : j < f.2.2.2.length := by omega
      obtain ⟨q, hq⟩ : ∃ q, q = f.2.2.2.getD j 0 := ⟨_, rfl⟩
      have hq32 : q < 32 := by
        rw [hq, List.getD_eq_getElem?_getD, List.getElem?_eq_getElem hjl]
        exact ho.2.2.2.2.2 _ (List.getElem_mem hjl)
      have e8 : (8 : Int32) * N32 f.1 + N32 j = N32 (8 * f.1 + j) := by rw [show (8 : Int32) = N32 8 from rfl, nb_mul, nb_add]
      have ej : N32 j + (1 : Int32) = N32 (j + 1) := nb_add _ 1
      have v35 : D.1 (M + 12) (N32 (8 * f.1 + j)).toNatClampNeg = N32 q := by rw [nb_clamp (by omega), hq]; exact (f6 f hf).2.2.2 j hjl
      have er := wm_par hW hq32
      rw [w_par_beg] at er
      have hlen : (w_hd 3 25 z ++ (by_be (N32 f.1) 1 ++ ((f.2.2.2.take j).map (fun p => by_be (w_par p z) 4)).flatten)).length = 18 + 4 * j := by
        rw [List.length_append, List.length_append, w_hd_len, by_be_len, fm_body_len, List.length_take]
        omega
      obtain ⟨D1, a1, a2, a3, a4, a5⟩ := wm_say4 hW hp hc (w_par q z) (by rw [hlen]; omega)
      have htk : (f.2.2.2.take (j + 1)) = (f.2.2.2.take j) ++ [q] := by
        have := by_take_succ (l := f.2.2.2) (f := 0) (k := j) (by omega)
        rw [List.drop_zero, Nat.zero_add] at this
        rw [this, hq]
      have hbd : w_hd 3 25 z ++ (by_be (N32 f.1) 1 ++ ((f.2.2.2.take j).map (fun p => by_be (w_par p z) 4)).flatten) ++ by_be (w_par q z) 4 = w_hd 3 25 z ++ (by_be (N32 f.1) 1 ++ ((f.2.2.2.take (j + 1)).map (fun p => by_be (w_par p z) 4)).flatten) := by
        rw [htk, List.map_append, List.flatten_append]
        simp only [List.map_cons, List.map_nil, List.flatten_cons, List.flatten_nil, List.append_nil, List.append_assoc]
      rw [hbd] at a3
      obtain ⟨D', t1, t2, t3⟩ := ih n (j + 1) D1 (by omega) (by omega) a2 a3 a4
      refine ⟨D', ?_, t2, a5.tr t3⟩
      rw [f_Model_formReport_L14, a34.1, if_pos (by omega), a34.2, if_pos (by rw [nb_in (by omega)]; exact hk), v34, if_neg (by rw [nb_le (by omega) (by omega)]; omega), a35.1, if_pos (by omega), e8, a35.2, if_pos (by rw [nb_in (by omega)]; omega), v35, er]
      simp only [ob_bd]
      rw [a1]
      simp only [ob_bv]
      rw [ej]
      exact t1
theorem wm_sendform {S : ob_S} {D : ob_D} {M m fr F w pt : Nat} {z : sW} {c : List Nat} {f : sFm} (h : mX S D M m fr F w pt z c) (hf : f ∈ z.2.2.2.2.2.2.2.2.2.2.1) : ∃ D', f_Model_formReport S M (N32 f.1) D = some D' ∧ mX S D' M m fr F w pt (w_rep w 3 25 (fm_body f z) z) c ∧ oi (mReg M) D D' := by
  obtain ⟨hW, ⟨p, hp⟩, hc⟩ := h
  have hl8 := (hW.fm.2.2.2.1 f hf).2.2.2.2.1
  obtain ⟨D1, b1, b2, b3, b4, b5⟩ := wm_begin hW hp hc (s := 3) (k := 25) (by decide) (by decide)
  obtain ⟨D3, a1, a2, a3, a4, a5⟩ := wm_say b2 b3 b4 (N32 f.1) (by rw [w_hd_len]; decide)
  obtain ⟨D', t1, t2, t3⟩ := wm_sendform_L (c := c) hf f.2.2.2.length ob_FU 0 D3 (by omega) (by rw [ob_FU_eq]; omega) a2 (by
    rw [List.take_zero, List.map_nil, List.flatten_nil, List.append_nil]
    exact a3) a4
  refine ⟨D', ?_, t2, (b5.tr a5).tr t3⟩
  have b1' : f_Model_report S M 3 25 D = some D1 := b1
  unfold f_Model_formReport
  rw [b1']
  simp only [ob_bv]
  rw [a1]
  simp only [ob_bv]
  exact t1
