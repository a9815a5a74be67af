-- ===== memory =====
def pm_v (n a : Nat) : Nat := if n = 0 then 17 else if a + n ≤ 4096 then 0 else 17
theorem pm_0 {n a : Nat} (h : pm_v n a = 0) : n ≠ 0 ∧ a + n ≤ 4096 := by
  unfold pm_v at h
  have h1 : n ≠ 0 := by intro e; rw [if_pos e] at h; exact absurd h (by decide)
  rw [if_neg h1] at h
  refine ⟨h1, ?_⟩
  by_cases e : a + n ≤ 4096
  · exact e
  · rw [if_neg e] at h; exact absurd h (by decide)
def me_ld (me : List Nat) (a : Nat) (bs : List Nat) : Nat → List Nat
  | 0 => me
  | j + 1 => (me_ld me a bs j).set (a + j) (bs.getD j 0)
theorem me_ld_len (me : List Nat) (a : Nat) (bs : List Nat) : ∀ j, (me_ld me a bs j).length = me.length
  | 0 => rfl
  | j + 1 => by rw [me_ld, List.length_set, me_ld_len me a bs j]
theorem hc_place2 {S : ob_S} {D : ob_D} {B m fr n : Nat} {c : List Nat} (h : cHd S D B m fr) (hc : cCm S D B m fr c) (hn : n < 100000) : f_Handler_placeFailure S (B + 29 + 2 * m + 80 + 2 * fr + 9) (N32 n) D = some (N32 (pm_v n (nn c 11 2)), D) := by
  have hb := nn_lt hc.2.2.2.2.2.2.2.2 11 2
  have d : f_Handler_data S (B + 29 + 2 * m + 80 + 2 * fr + 9) 0 2 D = some (N32 (nn c 11 2), D) := wc_data h hc (i := 0) (n := 2) (by decide) (by decide)
  unfold f_Handler_placeFailure pm_v
  by_cases h0 : n = 0
  · rw [if_pos h0, if_pos (by rw [h0]; rfl)]; rfl
  · rw [if_neg h0, if_neg (by rw [show (0 : Int32) = N32 0 from rfl, nb_eq (by omega) (by decide)]; exact h0), d]
    simp only [ob_bd]
    rw [nb_add]
    by_cases h1 : nn c 11 2 + n ≤ 4096
    · rw [if_pos h1, if_pos (by rw [show (4096 : Int32) = N32 4096 from rfl, nb_le (by omega) (by decide)]; exact h1)]; rfl
    · rw [if_neg h1, if_neg (by rw [show (4096 : Int32) = N32 4096 from rfl, nb_le (by omega) (by decide)]; exact h1)]; rfl
theorem by_rep_1 (l : List Nat) (f : Nat) (x : Int32) : by_rep l f x 1 1 = l.set f (by_of x 0) := rfl
theorem me_ld_s (me : List Nat) (a : Nat) (bs : List Nat) (j : Nat) : me_ld me a bs (j + 1) = (me_ld me a bs j).set (a + j) (bs.getD j 0) := rfl
theorem hc_load_L {S : ob_S} {D : ob_D} {B m fr : Nat} {c me : List Nat} (h : cHd S D B m fr) (hc : cCm S D B m fr c) (hml : me.length = 4096) (hl : c.length = 16 + c.getD 13 0) (hf : nn c 11 2 + c.getD 13 0 ≤ 4096) : ∀ (d n j : Nat) (D1 : ob_D), j + d = c.getD 13 0 → d < n → ob_ag (fun y => y = B + 3 ∨ y = B + 4) D D1 → rw_at S D1 (B + 3) (B + 4) 4096 (me_ld me (nn c 11 2) (fmps c) j) → ∃ D', f_Handler_load_L9 S n (B + 29 + 2 * m + 80 + 2 * fr + 9) (N32 (c.getD 13 0)) (N32 j) D1 = some D' ∧ rw_at S D' (B + 3) (B + 4) 4096 (me_ld me (nn c 11 2) (fmps c) (c.getD 13 0)) ∧ ob_ag (fun y => y = B + 3 ∨ y = B + 4) D D' := by
  have hb := hc.2.2.2.2.2.2.2.2
  have b13 := by_getD_lt hb 13
  intro d
  induction d with
  | zero =>
    intro n j D1 hj hn g hm1
    match n, hn with
    | n + 1, _ =>
      have hj' : j = c.getD 13 0 := hj
      refine ⟨D1, ?_, by rw [hj'] at hm1; exact hm1, g⟩
      rw [f_Handler_load_L9, if_pos (by rw [nb_le (by omega) (by omega)]; omega)]
  | succ d ih =>
    intro n j D1 hj hn g hm1
    match n, hn with
    | n + 1, hn =>
      have h1 : cHd S D1 B m fr := h.keep g.up (by omega) rfl
      have hc1 : cCm S D1 B m fr c := hc.kept g (by omega) (by omega)
      have d0 : f_Handler_data S (B + 29 + 2 * m + 80 + 2 * fr + 9) 0 2 D1 = some (N32 (nn c 11 2), D1) := wc_data h1 hc1 (i := 0) (n := 2) (by decide) (by decide)
      have e3 : (3 : Int32) + N32 j = N32 (3 + j) := nb_add 3 j
      have ej : N32 j + (1 : Int32) = N32 (j + 1) := nb_add _ 1
      have dj : f_Handler_data S (B + 29 + 2 * m + 80 + 2 * fr + 9) (N32 (3 + j)) 1 D1 = some (N32 (c.getD (11 + (3 + j)) 0), D1) := hc_d1 h1 hc1 (by omega)
      rw [show 11 + (3 + j) = 14 + j by omega] at dj
      have hbj := by_getD_lt hb (14 + j)
      obtain ⟨D2, t1, t2, t3⟩ := rw_replace (f := nn c 11 2 + j) (c := 1) hm1 (N32 (c.getD (14 + j) 0)) (by decide) (by rw [me_ld_len, hml]; omega)
      rw [by_rep_1, by_of_n0, Nat.mod_eq_of_lt hbj, ← fmps_get (show j < c.getD 13 0 by omega), ← me_ld_s] at t2
      obtain ⟨D', u1, u2, u3⟩ := ih n (j + 1) D2 (by omega) (by omega) (g.tr (t3.mono (fun y e => Or.inr e))) t2
      refine ⟨D', ?_, u2, u3⟩
      have t1' : f_Row_replace S (B + 3) (N32 (nn c 11 2 + j)) (N32 (c.getD (14 + j) 0)) 1 D1 = some D2 := t1
      rw [f_Handler_load_L9, if_neg (by rw [nb_le (by omega) (by omega)]; omega), h1.2.2.2.2.2.2.2.1, if_pos (by omega), d0]
      simp only [ob_bd]
      rw [e3, dj]
      simp only [ob_bd]
      rw [nb_add, t1']
      simp only [ob_bv]
      rw [ej]
      exact u1
theorem hc_load {S : ob_S} {D : ob_D} {B m fr : Nat} {c me : List Nat} (h : cHd S D B m fr) (hc : cCm S D B m fr c) (hm : rw_at S D (B + 3) (B + 4) 4096 me) (hml : me.length = 4096) (hl : c.length = 16 + c.getD 13 0) (hf : nn c 11 2 + c.getD 13 0 ≤ 4096) : ∃ D', f_Handler_load S (B + 29 + 2 * m + 80 + 2 * fr + 9) D = some D' ∧ rw_at S D' (B + 3) (B + 4) 4096 (me_ld me (nn c 11 2) (fmps c) (c.getD 13 0)) ∧ ob_ag (fun y => y = B + 3 ∨ y = B + 4) D D' := by
  have b13 := by_getD_lt hc.2.2.2.2.2.2.2.2 13
  obtain ⟨D', t1, t2, t3⟩ := hc_load_L h hc hml hl hf (c.getD 13 0) ob_FU 0 D (by omega) (by rw [ob_FU_eq]; omega) ob_ag.rf hm
  refine ⟨D', ?_, t2, t3⟩
  have d2 : f_Handler_data S (B + 29 + 2 * m + 80 + 2 * fr + 9) 2 1 D = some (N32 (c.getD 13 0), D) := hc_d1 h hc (i := 2) (by decide)
  have t1' : f_Handler_load_L9 S ob_FU (B + 29 + 2 * m + 80 + 2 * fr + 9) (N32 (c.getD 13 0)) 0 D = some D' := t1
  unfold f_Handler_load
  rw [d2]
  exact t1'
def me_dump (c me : List Nat) : List Nat := by_be (N32 (nn c 11 3)) 3 ++ (me.drop (nn c 11 2)).take (c.getD 13 0)
def me_chk (c me : List Nat) : List Nat := by_be (N32 (nn c 11 4)) 4 ++ by_be (N32 (cr_f ((me.drop (nn c 11 2)).take (nn c 13 2)))) 2
theorem cW.me {S : ob_S} {D : ob_D} {B m fr F w pt : Nat} {z : sW} (h : cW S D B m fr F w pt z) : rw_at S D (B + 3) (B + 4) 4096 z.2.2.2.2.2.2.2.2.2.2.2 := by
  obtain ⟨gt, rc, A, on, ev, lm, ch, frs, rp, cr, fm, me⟩ := z
  exact h.2.2.2.2.2.2.2.2.2.2.1
theorem w_beg_me (s k : Nat) (z : sW) : (w_beg s k z).2.2.2.2.2.2.2.2.2.2.2 = z.2.2.2.2.2.2.2.2.2.2.2 := by
  obtain ⟨gt, rc, A, on, ev, lm, ch, frs, rp, cr, fm, me⟩ := z
  rfl
theorem hc_dump {S : ob_S} {D : ob_D} {B m fr F w pt : Nat} {z : sW} {c : List Nat} (h : cX S D B m fr F w pt z c) (hml : z.2.2.2.2.2.2.2.2.2.2.2.length = 4096) (hf : nn c 11 2 + c.getD 13 0 ≤ 4096) : ∃ D', f_Handler_dump S (B + 29 + 2 * m + 80 + 2 * fr + 9) D = some D' ∧ cX S D' B m fr F w pt (w_rep w 6 6 (me_dump c z.2.2.2.2.2.2.2.2.2.2.2) z) c ∧ og (cReg B m fr) D D' := by
  obtain ⟨hW, ⟨p, hp⟩, hc⟩ := h
  have hb := hc.2.2.2.2.2.2.2.2
  have b13 := by_getD_lt hb 13
  have hd := hW.hd
  obtain ⟨D5, b1, b2, b3, b4, b5⟩ := wc_begin hW hp hc (s := 6) (k := 6) (by decide) (by decide)
  have hd5 := b2.hd
  have x3 : f_Handler_data S (B + 29 + 2 * m + 80 + 2 * fr + 9) 0 3 D5 = some (N32 (nn c 11 3), D5) := wc_data hd5 b4 (i := 0) (n := 3) (by decide) (by decide)
  obtain ⟨D12, a1, a2, a3, a4, a5⟩ := wc_add b2 b3 b4 (N32 (nn c 11 3)) (n := 3) (by decide) (by rw [w_hd_len]; decide)
  have hd12 := a2.hd
  have hm12 := a2.me
  rw [w_beg_me] at hm12
  have y0 : f_Handler_data S (B + 29 + 2 * m + 80 + 2 * fr + 9) 0 2 D12 = some (N32 (nn c 11 2), D12) := wc_data hd12 a4 (i := 0) (n := 2) (by decide) (by decide)
  have y2 : f_Handler_data S (B + 29 + 2 * m + 80 + 2 * fr + 9) 2 1 D12 = some (N32 (c.getD 13 0), D12) := hc_d1 hd12 a4 (i := 2) (by decide)
  obtain ⟨D22, e1, e2, e3⟩ := rw_addPart (f := nn c 11 2) (c := c.getD 13 0) a3 hm12 (by omega) (by omega) (by rw [List.length_append, w_hd_len, by_be_len]; omega)
  rw [List.append_assoc] at e2
  have hW22 : cW S D22 B m fr F w pt (w_beg 6 6 z) := by
    obtain ⟨gt, rc, A, on, ev, lm, ch, frs, rp, cr, fm, me⟩ := z
    exact a2.u0 (e3.up2 (fun y k e => by omega))
  have hc22 : cCm S D22 B m fr c := a4.kept e3 (by omega) (by omega)
  have hd22 := hW22.hd
  have hdl : ((z.2.2.2.2.2.2.2.2.2.2.2.drop (nn c 11 2)).take (c.getD 13 0)).length = c.getD 13 0 := by rw [List.length_take, List.length_drop]; omega
  obtain ⟨D', t1, t2, t3⟩ := wc_done (body := me_dump c z.2.2.2.2.2.2.2.2.2.2.2) hW22 e2 hc22 (by decide) (by unfold me_dump; rw [List.length_append, by_be_len, hdl]; omega)
  refine ⟨D', ?_, t2, ((b5.tr (cReg_pk a5)).tr (cReg_pk e3)).tr t3⟩
  have b1' : f_Reports_begin S (B + 29 + 2 * m + 80 + 2 * fr) 6 6 (D.1 (B + 29 + 2 * m + 80 + 2 * fr + 7) 8) D = some (B + 29 + 2 * m + 80 + 2 * fr + 3, D5) := b1
  have a1' : f_Row_add S (B + 29 + 2 * m + 80 + 2 * fr + 3) (N32 (nn c 11 3)) 3 D5 = some D12 := a1
  unfold f_Handler_dump
  rw [hd.2.2.2.2.1, if_pos (by omega), hd.1, if_pos (by omega), b1']
  simp only [ob_bd]
  rw [if_pos hd.2.2.2.2.2.2.2.2.2, x3]
  simp only [ob_bd]
  rw [a1']
  simp only [ob_bv]
  rw [hd12.2.2.2.2.2.2.2.1, if_pos (by omega), y0]
  simp only [ob_bd]
  rw [y2]
  simp only [ob_bd]
  rw [e1]
  simp only [ob_bv]
  rw [hd22.2.2.2.2.1, if_pos (by omega), t1]
theorem hc_chk {S : ob_S} {D : ob_D} {B m fr F w pt : Nat} {z : sW} {c : List Nat} (h : cX S D B m fr F w pt z c) (hml : z.2.2.2.2.2.2.2.2.2.2.2.length = 4096) (hf : nn c 11 2 + nn c 13 2 ≤ 4096) : ∃ D', f_Handler_sendMemoryCheck S (B + 29 + 2 * m + 80 + 2 * fr + 9) D = some D' ∧ cX S D' B m fr F w pt (w_rep w 6 10 (me_chk c z.2.2.2.2.2.2.2.2.2.2.2) z) c ∧ og (cReg B m fr) D D' := by
  obtain ⟨hW, ⟨p, hp⟩, hc⟩ := h
  have hd := hW.hd
  obtain ⟨D5, b1, b2, b3, b4, b5⟩ := wc_begin hW hp hc (s := 6) (k := 10) (by decide) (by decide)
  have hd5 := b2.hd
  have x4 : f_Handler_data S (B + 29 + 2 * m + 80 + 2 * fr + 9) 0 4 D5 = some (N32 (nn c 11 4), D5) := wc_data hd5 b4 (i := 0) (n := 4) (by decide) (by decide)
  obtain ⟨D12, a1, a2, a3, a4, a5⟩ := wc_add b2 b3 b4 (N32 (nn c 11 4)) (n := 4) (by decide) (by rw [w_hd_len]; decide)
  have hd12 := a2.hd
  have hm12 := a2.me
  rw [w_beg_me] at hm12
  have y0 : f_Handler_data S (B + 29 + 2 * m + 80 + 2 * fr + 9) 0 2 D12 = some (N32 (nn c 11 2), D12) := wc_data hd12 a4 (i := 0) (n := 2) (by decide) (by decide)
  have y2 : f_Handler_data S (B + 29 + 2 * m + 80 + 2 * fr + 9) 2 2 D12 = some (N32 (nn c 13 2), D12) := wc_data hd12 a4 (i := 2) (n := 2) (by decide) (by decide)
  have yc := rw_crc hm12 (f := nn c 11 2) (c := nn c 13 2) (by omega)
  obtain ⟨D25, e1, e2, e3, e4, e5⟩ := wc_add a2 a3 a4 (N32 (cr_f ((z.2.2.2.2.2.2.2.2.2.2.2.drop (nn c 11 2)).take (nn c 13 2)))) (n := 2) (by decide) (by rw [List.length_append, w_hd_len, by_be_len]; decide)
  rw [List.append_assoc] at e3
  have hd25 := e2.hd
  obtain ⟨D', t1, t2, t3⟩ := wc_done (body := me_chk c z.2.2.2.2.2.2.2.2.2.2.2) e2 e3 e4 (by decide) (by unfold me_chk; rw [List.length_append, by_be_len, by_be_len]; decide)
  refine ⟨D', ?_, t2, ((b5.tr (cReg_pk a5)).tr (cReg_pk e5)).tr t3⟩
  have b1' : f_Reports_begin S (B + 29 + 2 * m + 80 + 2 * fr) 6 10 (D.1 (B + 29 + 2 * m + 80 + 2 * fr + 7) 8) D = some (B + 29 + 2 * m + 80 + 2 * fr + 3, D5) := b1
  have a1' : f_Row_add S (B + 29 + 2 * m + 80 + 2 * fr + 3) (N32 (nn c 11 4)) 4 D5 = some D12 := a1
  have e1' : f_Row_add S (B + 29 + 2 * m + 80 + 2 * fr + 3) (N32 (cr_f ((z.2.2.2.2.2.2.2.2.2.2.2.drop (nn c 11 2)).take (nn c 13 2)))) 2 D12 = some D25 := e1
  unfold f_Handler_sendMemoryCheck
  rw [hd.2.2.2.2.1, if_pos (by omega), hd.1, if_pos (by omega), b1']
  simp only [ob_bd]
  rw [if_pos hd.2.2.2.2.2.2.2.2.2, x4]
  simp only [ob_bd]
  rw [a1']
  simp only [ob_bv]
  rw [hd12.2.2.2.2.2.2.2.1, if_pos (by omega), y0]
  simp only [ob_bd]
  rw [y2]
  simp only [ob_bd]
  rw [yc]
  simp only [ob_bd]
  rw [e1']
  simp only [ob_bv]
  rw [hd25.2.2.2.2.1, if_pos (by omega), t1]
