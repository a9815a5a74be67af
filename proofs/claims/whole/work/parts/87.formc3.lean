-- ===== forms: removing, switching, sending =====
theorem lf_0 {α : Type} {q : Nat} {fl : Bool} {key : α → Nat} {on : α → Bool} {k : Nat} {l : List α} (hq : q ≠ 0) (h : lf_v q fl key on k l = 0) : ∃ (i : Nat) (hi : i < l.length), ky_find key k l = some i ∧ key l[i] = k ∧ (fl = true → on l[i] = false) := by
  unfold lf_v at h
  cases hf : ky_find key k l with
  | none => rw [hf] at h; exact absurd h hq
  | some i =>
    obtain ⟨hi, hk⟩ := ky_find_is hf
    refine ⟨i, hi, rfl, hk, fun hfl => ?_⟩
    rw [hf] at h
    have eg : l[i]? = some l[i] := List.getElem?_eq_getElem hi
    simp only [eg] at h
    cases hon : on l[i] with
    | false => rfl
    | true => rw [if_pos ⟨hfl, hon⟩] at h; exact absurd h (by decide)
theorem fm_on_eq {b : Bool} {k i : Nat} {l : List sFm} (hf : ky_find (fun f : sFm => f.1) k l = some i) (hi : i < l.length) : fm_on b k l = l.set i (l[i].1, b, l[i].2.2.1, l[i].2.2.2) := by
  unfold fm_on
  rw [hf]
  have eg : l[i]? = some l[i] := List.getElem?_eq_getElem hi
  simp only [eg]
theorem fm_rem_eq {k i : Nat} {l : List sFm} (hf : ky_find (fun f : sFm => f.1) k l = some i) : fm_rem k l = l.eraseIdx i := by
  unfold fm_rem
  rw [hf]
theorem fmc_on {S : ob_S} {D : ob_D} {a : Nat} {l : List sFm} (h : cFm S D a l) {k i : Nat} (hf : ky_find (fun f : sFm => f.1) k l = some i) (hi : i < l.length) (b : Bool) : ∃ D', f_Table_set S a (N32 i) 1 (bI b) D = some D' ∧ cFm S D' a (fm_on b k l) ∧ ob_ag (fun y => y = a + 1) D D' := by
  have ho := h.2.2 l[i] (List.getElem_mem hi)
  obtain ⟨D', t1, t2, t3⟩ := kt_set (cFm_kt.mp h) hi (j := 1) (by decide) ((l[i].1, b, l[i].2.2.1, l[i].2.2.2) : sFm) (fun q _ hq => by
    unfold fm_line
    by_cases h0 : q = 0
    · rw [if_pos h0, if_pos h0]
    · rw [if_neg h0, if_neg h0, if_neg hq, if_neg hq]) rfl ho
  refine ⟨D', t1, ?_, t3⟩
  rw [fm_on_eq hf hi]
  exact t2
def fm_body (f : sFm) (z : sW) : List Nat := by_be (N32 f.1) 1 ++ (f.2.2.2.map (fun p => by_be (w_par p z) 4)).flatten
theorem fm_body_len (l : List Nat) (z : sW) : ((l.map (fun p => by_be (w_par p z) 4)).flatten).length = 4 * l.length := by
  induction l with
  | nil => rfl
  | cons a l ih =>
    simp only [List.map_cons, List.flatten_cons, List.length_append, by_be_len, List.length_cons, ih]
    omega
theorem w_par_beg (p s k : Nat) (z : sW) : w_par p (w_beg s k z) = w_par p z := by
  obtain ⟨⟨st, nx, bs, wt, ag, rf, ac, q⟩, ⟨ra, rb, rcc, rd, re, pr⟩, A, on, ⟨rs, sl, ha, ao, acs, elo⟩, lm, ⟨lv, rv, so, al⟩, frs, ⟨sto, sd, md, all, lo, rt, rfr, rtt, rrc⟩, ⟨wi, mo, ck, cal, hd, fa, br⟩, fm, me⟩ := z
  rfl
theorem cW.fm {S : ob_S} {D : ob_D} {B m fr F w pt : Nat} {z : sW} (h : cW S D B m fr F w pt z) : cFm S D (B + 29 + 2 * m + 80 + 2 * fr + 10) z.2.2.2.2.2.2.2.2.2.2.1 := by
  obtain ⟨gt, rc, A, on, ev, lm, ch, frs, rp, cr, fm, me⟩ := z
  exact h.2.2.2.2.2.2.2.2.2.1
theorem w_beg_fm (s k : Nat) (z : sW) : (w_beg s k z).2.2.2.2.2.2.2.2.2.2.1 = z.2.2.2.2.2.2.2.2.2.2.1 := by
  obtain ⟨gt, rc, A, on, ev, lm, ch, frs, rp, cr, fm, me⟩ := z
  rfl
theorem hc_sendform_L {S : ob_S} {B m fr F w pt : Nat} {z : sW} {c : List Nat} {i : Nat} (hi : i < z.2.2.2.2.2.2.2.2.2.2.1.length) : ∀ (d n j : Nat) (D : ob_D), j + d = (z.2.2.2.2.2.2.2.2.2.2.1[i]).2.2.2.length → d < n → cW S D B m fr F w pt (w_beg 3 25 z) → cPk S D B m fr (w_hd 3 25 z ++ (by_be (N32 (z.2.2.2.2.2.2.2.2.2.2.1[i]).1) 1 ++ (((z.2.2.2.2.2.2.2.2.2.2.1[i]).2.2.2.take j).map (fun p => by_be (w_par p z) 4)).flatten)) → cCm S D B m fr c → ∃ D', f_Handler_sendForm_L45 S n (B + 29 + 2 * m + 80 + 2 * fr + 9) (N32 i) (B + 29 + 2 * m + 80 + 2 * fr + 3) (N32 (z.2.2.2.2.2.2.2.2.2.2.1[i]).2.2.2.length) (N32 j) D = some D' ∧ cX S D' B m fr F w pt (w_rep w 3 25 (fm_body (z.2.2.2.2.2.2.2.2.2.2.1[i]) z) z) c ∧ og (cReg B m fr) D D' := by
  intro d
  induction d with
  | zero =>
    intro n j D hj hn hW hp hc
    match n, hn with
    | n + 1, _ =>
      have hF := hW.fm
      rw [w_beg_fm] at hF
      have ho := hF.2.2 _ (List.getElem_mem hi)
      have hl8 := ho.2.2.2.2.1
      have hd := hW.hd
      rw [List.take_of_length_le (by omega)] at hp
      obtain ⟨D', t1, t2, t3⟩ := wc_done (body := fm_body (z.2.2.2.2.2.2.2.2.2.2.1[i]) z) hW hp hc (by decide) (by unfold fm_body; rw [List.length_append, by_be_len, fm_body_len]; omega)
      refine ⟨D', ?_, t2, t3⟩
      rw [f_Handler_sendForm_L45, if_pos (by rw [nb_le (by omega) (by omega)]; omega), hd.2.2.2.2.1, if_pos (by omega), t1]
      rfl
  | succ d ih =>
    intro n j D hj hn hW hp hc
    match n, hn with
    | n + 1, hn =>
      have hF := hW.fm
      rw [w_beg_fm] at hF
      have ho := hF.2.2 _ (List.getElem_mem hi)
      have hl8 := ho.2.2.2.2.1
      have hd := hW.hd
      have hjl : j < (z.2.2.2.2.2.2.2.2.2.2.1[i]).2.2.2.length := by omega
      obtain ⟨q, hq⟩ : ∃ q, q = (z.2.2.2.2.2.2.2.2.2.2.1[i]).2.2.2.getD j 0 := ⟨_, rfl⟩
      have hq32 : q < 32 := by
        rw [hq, List.getD_eq_getElem?_getD, List.getElem?_eq_getElem hjl]
        exact ho.2.2.2.2.2 _ (List.getElem_mem hjl)
      have e4 : (4 : Int32) + N32 j = N32 (4 + j) := nb_add 4 j
      have ej : N32 j + (1 : Int32) = N32 (j + 1) := nb_add _ 1
      have eg : f_Table_get S (B + 29 + 2 * m + 80 + 2 * fr + 10) (N32 i) (N32 (4 + j)) D = some (N32 q, D) := by
        rw [kt_get (cFm_kt.mp hF) hi (by omega)]
        congr 2
        unfold fm_line
        rw [if_neg (by omega), if_neg (by omega), if_neg (by omega), if_neg (by omega), Nat.add_sub_cancel_left, hq]
      have er := wc_par hW hq32
      rw [w_par_beg] at er
      have hlen : (w_hd 3 25 z ++ (by_be (N32 (z.2.2.2.2.2.2.2.2.2.2.1[i]).1) 1 ++ (((z.2.2.2.2.2.2.2.2.2.2.1[i]).2.2.2.take j).map (fun p => by_be (w_par p z) 4)).flatten)).length = 18 + 4 * j := by
        rw [List.length_append, List.length_append, w_hd_len, by_be_len, fm_body_len, List.length_take]
        omega
      obtain ⟨D1, a1, a2, a3, a4, a5⟩ := wc_add hW hp hc (w_par q z) (n := 4) (by decide) (by rw [hlen]; omega)
      have htk : ((z.2.2.2.2.2.2.2.2.2.2.1[i]).2.2.2.take (j + 1)) = ((z.2.2.2.2.2.2.2.2.2.2.1[i]).2.2.2.take j) ++ [q] := by
        have := by_take_succ (l := (z.2.2.2.2.2.2.2.2.2.2.1[i]).2.2.2) (f := 0) (k := j) (by omega)
        rw [List.drop_zero, Nat.zero_add] at this
        rw [this, hq]
      have hbd : w_hd 3 25 z ++ (by_be (N32 (z.2.2.2.2.2.2.2.2.2.2.1[i]).1) 1 ++ (((z.2.2.2.2.2.2.2.2.2.2.1[i]).2.2.2.take j).map (fun p => by_be (w_par p z) 4)).flatten) ++ by_be (w_par q z) 4 = w_hd 3 25 z ++ (by_be (N32 (z.2.2.2.2.2.2.2.2.2.2.1[i]).1) 1 ++ (((z.2.2.2.2.2.2.2.2.2.2.1[i]).2.2.2.take (j + 1)).map (fun p => by_be (w_par p z) 4)).flatten) := by
        rw [htk, List.map_append, List.flatten_append]
        simp only [List.map_cons, List.map_nil, List.flatten_cons, List.flatten_nil, List.append_nil, List.append_assoc]
      rw [hbd] at a3
      obtain ⟨D', t1, t2, t3⟩ := ih n (j + 1) D1 (by omega) (by omega) a2 a3 a4
      refine ⟨D', ?_, t2, (cReg_pk a5).tr t3⟩
      have a1' : f_Row_add S (B + 29 + 2 * m + 80 + 2 * fr + 3) (w_par q z) 4 D = some D1 := a1
      rw [f_Handler_sendForm_L45, if_neg (by rw [nb_le (by omega) (by omega)]; omega), hd.1, if_pos (by omega), hd.2.2.2.2.2.1, if_pos (by omega), e4, eg]
      simp only [ob_bd]
      rw [er]
      simp only [ob_bd]
      rw [a1']
      simp only [ob_bv]
      rw [ej]
      exact t1
theorem hc_sendform {S : ob_S} {D : ob_D} {B m fr F w pt : Nat} {z : sW} {c : List Nat} {i : Nat} (h : cX S D B m fr F w pt z c) (hi : i < z.2.2.2.2.2.2.2.2.2.2.1.length) : ∃ D', f_Handler_sendForm S (B + 29 + 2 * m + 80 + 2 * fr + 9) (N32 i) D = some D' ∧ cX S D' B m fr F w pt (w_rep w 3 25 (fm_body (z.2.2.2.2.2.2.2.2.2.2.1[i]) z) z) c ∧ og (cReg B m fr) D D' := by
  obtain ⟨hW, ⟨p, hp⟩, hc⟩ := h
  have hd := hW.hd
  obtain ⟨D5, b1, b2, b3, b4, b5⟩ := wc_begin hW hp hc (s := 3) (k := 25) (by decide) (by decide)
  have hd5 := b2.hd
  have hF5 := b2.fm
  rw [w_beg_fm] at hF5
  have ho := hF5.2.2 _ (List.getElem_mem hi)
  have g0 : f_Table_get S (B + 29 + 2 * m + 80 + 2 * fr + 10) (N32 i) 0 D5 = some (N32 (z.2.2.2.2.2.2.2.2.2.2.1[i]).1, D5) := kt_get (cFm_kt.mp hF5) hi (j := 0) (by decide)
  obtain ⟨D14, a1, a2, a3, a4, a5⟩ := wc_add b2 b3 b4 (N32 (z.2.2.2.2.2.2.2.2.2.2.1[i]).1) (n := 1) (by decide) (by rw [w_hd_len]; decide)
  have hd14 := a2.hd
  have hF14 := a2.fm
  rw [w_beg_fm] at hF14
  have g3 : f_Table_get S (B + 29 + 2 * m + 80 + 2 * fr + 10) (N32 i) 3 D14 = some (N32 (z.2.2.2.2.2.2.2.2.2.2.1[i]).2.2.2.length, D14) := kt_get (cFm_kt.mp hF14) hi (j := 3) (by decide)
  obtain ⟨D', t1, t2, t3⟩ := hc_sendform_L (c := c) hi (z.2.2.2.2.2.2.2.2.2.2.1[i]).2.2.2.length ob_FU 0 D14 (by omega) (by rw [ob_FU_eq]; have := ho.2.2.2.2.1; omega) a2 (by
    rw [List.take_zero, List.map_nil, List.flatten_nil, List.append_nil]
    exact a3) a4
  refine ⟨D', ?_, t2, (b5.tr (cReg_pk a5)).tr t3⟩
  have b1' : f_Reports_begin S (B + 29 + 2 * m + 80 + 2 * fr) 3 25 (D.1 (B + 29 + 2 * m + 80 + 2 * fr + 7) 8) D = some (B + 29 + 2 * m + 80 + 2 * fr + 3, D5) := b1
  have a1' : f_Row_add S (B + 29 + 2 * m + 80 + 2 * fr + 3) (N32 (z.2.2.2.2.2.2.2.2.2.2.1[i]).1) 1 D5 = some D14 := a1
  unfold f_Handler_sendForm
  rw [hd.2.2.2.2.1, if_pos (by omega), hd.1, if_pos (by omega), b1']
  simp only [ob_bd]
  rw [if_pos hd.2.2.2.2.2.2.2.2.2, hd5.2.2.2.2.2.1, if_pos (by omega), g0]
  simp only [ob_bd]
  rw [a1']
  simp only [ob_bv]
  rw [hd14.2.2.2.2.2.1, if_pos (by omega), g3]
  simp only [ob_bd]
  exact t1
