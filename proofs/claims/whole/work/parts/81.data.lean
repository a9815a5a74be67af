-- ===== the command's data, and the answers to it =====
def first4 (c : List Nat) : List Nat := by_be (N32 (nn c 0 4)) 4
def cX (S : ob_S) (D : ob_D) (B m fr F w pt : Nat) (z : sW) (c : List Nat) : Prop := cW S D B m fr F w pt z ∧ (∃ p, cPk S D B m fr p) ∧ cCm S D B m fr c
def mX (S : ob_S) (D : ob_D) (M m fr F w pt : Nat) (z : sW) (c : List Nat) : Prop := mW S D M m fr F w pt z ∧ (∃ p, mPk D M p) ∧ mCm D M c
abbrev mReg (M : Nat) : Nat → Nat → Prop := fun y k => M ≤ y ∧ y < M + 50 ∧ y ≠ M + 1 ∧ ¬ (y = M ∧ k = 7)
theorem cW.hd {S : ob_S} {D : ob_D} {B m fr F w pt : Nat} {z : sW} (h : cW S D B m fr F w pt z) : cHd S D B m fr := by
  obtain ⟨gt, rc, A, on, ev, lm, ch, frs, rp, cr, fm, me⟩ := z
  exact h.2.2.2.2.2.2.2.2.2.2.2
theorem wc_data {S : ob_S} {D : ob_D} {B m fr : Nat} {c : List Nat} (h : cHd S D B m fr) (hc : cCm S D B m fr c) {i n : Nat} (hi : i < 1000) (hn : n < 1000) : f_Handler_data S (B + 29 + 2 * m + 80 + 2 * fr + 9) (N32 i) (N32 n) D = some (N32 (nn c (11 + i) n), D) := by
  obtain ⟨h1, h2, h3, h4, h5, h6, h7, h8, h9, h10⟩ := h
  have e : (11 : Int32) + N32 i = N32 (11 + i) := nb_add 11 i
  unfold f_Handler_data
  rw [h9, if_pos (by omega), e, rw_num hc hn (by omega)]
  rfl
theorem wc_dlen {S : ob_S} {D : ob_D} {B m fr : Nat} {c : List Nat} (h : cHd S D B m fr) (hc : cCm S D B m fr c) (hl : 13 ≤ c.length) : f_Handler_dataLength S (B + 29 + 2 * m + 80 + 2 * fr + 9) D = some (N32 (c.length - 13), D) := by
  obtain ⟨h1, h2, h3, h4, h5, h6, h7, h8, h9, h10⟩ := h
  unfold f_Handler_dataLength
  rw [h9, if_pos (by omega), hc.2.2.2.2.1, show (13 : Int32) = N32 13 from rfl, nb_sub hl]
theorem wc_add {S : ob_S} {D : ob_D} {B m fr F w pt : Nat} {z : sW} {p c : List Nat} (h : cW S D B m fr F w pt z) (hp : cPk S D B m fr p) (hc : cCm S D B m fr c) (x : Int32) {n : Nat} (hn : n ≤ 4) (hl : p.length + n ≤ 277) : ∃ D', f_Row_add S (B + 29 + 2 * m + 80 + 2 * fr + 3) x (N32 n) D = some D' ∧ cW S D' B m fr F w pt z ∧ cPk S D' B m fr (p ++ by_be x n) ∧ cCm S D' B m fr c ∧ ob_ag (fun y => y = B + 29 + 2 * m + 80 + 2 * fr + 3 ∨ y = B + 29 + 2 * m + 80 + 2 * fr + 4) D D' := by
  obtain ⟨gt, rc, A, on, ev, lm, ch, frs, rp, cr, fm, me⟩ := z
  obtain ⟨D', t1, t2, t3⟩ := rw_add hp x hn hl
  exact ⟨D', t1, h.u0 (t3.up2 (fun y k e => by omega)), t2, hc.keep t3.up (by omega) (by omega) rfl, t3⟩
theorem wc_first {S : ob_S} {D : ob_D} {B m fr : Nat} {c : List Nat} (hc : cCm S D B m fr c) : f_Row_number S (B + 29 + 2 * m + 80 + 2 * fr + 12) 0 4 D = some (N32 (nn c 0 4), D) := rw_num hc (f := 0) (c := 4) (by decide) (by decide)
theorem w_snd_hd {w s k : Nat} {z : sW} {body : List Nat} (hs : s < 32) : 17 ≤ (w_hd s k z ++ body).length ∧ (w_hd s k z ++ body).getD 7 0 < 32 := by
  obtain ⟨gt, rc, A, on, ev, lm, ch, frs, rp, cr, fm, me⟩ := z
  refine ⟨?_, ?_⟩
  · rw [List.length_append, w_hd_len]; omega
  · show (rp_head s k (N32 cr.2.2.1) rp ++ body).getD 7 0 < 32
    rw [rp_head_7 hs]
    exact hs
/-- sending what was begun -/
theorem wc_done {S : ob_S} {D : ob_D} {B m fr F w pt s k : Nat} {z : sW} {body c : List Nat} (h : cW S D B m fr F w pt (w_beg s k z)) (hp : cPk S D B m fr (w_hd s k z ++ body)) (hc : cCm S D B m fr c) (hs : s < 32) (hl : body.length ≤ 258) : ∃ D', f_Reports_send S (B + 29 + 2 * m + 80 + 2 * fr) D = some D' ∧ cX S D' B m fr F w pt (w_rep w s k body z) c ∧ og (cReg B m fr) D D' := by
  have h1 := w_snd_hd (w := w) (k := k) (z := z) (body := body) hs
  obtain ⟨D', t1, t2, t3, t4, t5⟩ := wc_send h hp hc h1.1 (by rw [List.length_append, w_hd_len]; omega) h1.2
  rw [← w_rep_eq] at t2
  exact ⟨D', t1, ⟨t2, ⟨_, t3⟩, t4⟩, t5⟩
theorem cReg_pk {B m fr : Nat} {D D' : ob_D} (g : ob_ag (fun y => y = B + 29 + 2 * m + 80 + 2 * fr + 3 ∨ y = B + 29 + 2 * m + 80 + 2 * fr + 4) D D') : og (cReg B m fr) D D' := g.up2 (fun y k e => by omega)
theorem wc_answer {S : ob_S} {D : ob_D} {B m fr F w pt k : Nat} {z : sW} {c : List Nat} (h : cX S D B m fr F w pt z c) (hk : k < 32) : ∃ D', f_Handler_answer S (B + 29 + 2 * m + 80 + 2 * fr + 9) (N32 k) D = some D' ∧ cX S D' B m fr F w pt (w_rep w 1 k (first4 c) z) c ∧ og (cReg B m fr) D D' := by
  obtain ⟨hW, ⟨p, hp⟩, hc⟩ := h
  have hd := hW.hd
  obtain ⟨D5, b1, b2, b3, b4, b5⟩ := wc_begin hW hp hc (s := 1) (by decide) hk
  have hd5 := b2.hd
  obtain ⟨D14, a1, a2, a3, a4, a5⟩ := wc_add b2 b3 b4 (N32 (nn c 0 4)) (n := 4) (by decide) (by rw [w_hd_len]; decide)
  have hd14 := a2.hd
  obtain ⟨D', t1, t2, t3⟩ := wc_done a2 a3 a4 (by decide) (by rw [by_be_len]; decide)
  refine ⟨D', ?_, t2, (b5.tr (cReg_pk a5)).tr t3⟩
  unfold f_Handler_answer
  have b1' : f_Reports_begin S (B + 29 + 2 * m + 80 + 2 * fr) 1 (N32 k) (D.1 (B + 29 + 2 * m + 80 + 2 * fr + 7) 8) D = some (B + 29 + 2 * m + 80 + 2 * fr + 3, D5) := b1
  have a1' : f_Row_add S (B + 29 + 2 * m + 80 + 2 * fr + 3) (N32 (nn c 0 4)) 4 D5 = some D14 := a1
  rw [hd.2.2.2.2.1, if_pos (by omega), hd.1, if_pos (by omega), b1']
  simp only [ob_bd]
  rw [if_pos hd.2.2.2.2.2.2.2.2.2, hd5.2.2.2.2.2.2.2.2.1, if_pos (by omega), wc_first b4]
  simp only [ob_bd]
  rw [a1']
  simp only [ob_bv]
  rw [hd14.2.2.2.2.1, if_pos (by omega), t1]
def w_fail : sW → sW
  | (gt, rc, A, on, ev, lm, ch, frs, rp, (wi, mo, ck, al, hd, fa, br), fm, me) => (gt, rc, A, on, ev, lm, ch, frs, rp, (wi, mo, ck, al, hd, fa + 1, br), fm, me)
def w_hand : sW → sW
  | (gt, rc, A, on, ev, lm, ch, frs, rp, (wi, mo, ck, al, hd, fa, br), fm, me) => (gt, rc, A, on, ev, lm, ch, frs, rp, (wi, mo, ck, al, hd + 1, fa, br), fm, me)
theorem cCrF.set {D : ob_D} {c pt : Nat} {wi : Nat → Int32} {mo ck : Nat} {al : Option Nat} {hd fa br : Int32} (h : cCrF D c pt (wi, mo, ck, al, hd, fa, br)) : cCrF (ob_pI D c 11 (D.1 c 11 + 1)) c pt (wi, mo, ck, al, hd, fa + 1, br) ∧ cCrF (ob_pI D c 10 (D.1 c 10 + 1)) c pt (wi, mo, ck, al, hd + 1, fa, br) := by
  obtain ⟨c1, c2, c3, c4, c5, c6, c7, c8, c9, c10, c11⟩ := h
  refine ⟨⟨fun i hi => by rw [pI_ne (by omega)]; exact c1 i hi, by rw [pI_ne (by omega)]; exact c2, c3, by rw [pI_ne (by omega)]; exact c4, by rw [pI_ne (by omega)]; exact c5, c6, by rw [pI_ne (by omega)]; exact c7, by rw [pI_self, c8], by rw [pI_ne (by omega)]; exact c9, by rw [pI_ne (by omega)]; exact c10, c11⟩, ⟨fun i hi => by rw [pI_ne (by omega)]; exact c1 i hi, by rw [pI_ne (by omega)]; exact c2, c3, by rw [pI_ne (by omega)]; exact c4, by rw [pI_ne (by omega)]; exact c5, c6, by rw [pI_self, c7], by rw [pI_ne (by omega)]; exact c8, by rw [pI_ne (by omega)]; exact c9, by rw [pI_ne (by omega)]; exact c10, c11⟩⟩
theorem wc_fail {S : ob_S} {D : ob_D} {B m fr F w pt : Nat} {z : sW} {c : List Nat} (h : cX S D B m fr F w pt z c) : cX S (ob_pI D (B + 29 + 2 * m + 80 + 2 * fr + 7) 11 (D.1 (B + 29 + 2 * m + 80 + 2 * fr + 7) 11 + 1)) B m fr F w pt (w_fail z) c ∧ cX S (ob_pI D (B + 29 + 2 * m + 80 + 2 * fr + 7) 10 (D.1 (B + 29 + 2 * m + 80 + 2 * fr + 7) 10 + 1)) B m fr F w pt (w_hand z) c := by
  obtain ⟨gt, rc, A, on, ev, lm, ch, frs, rp, ⟨wi, mo, ck, al, hd, fa, br⟩, fm, me⟩ := z
  obtain ⟨hW, ⟨p, hp⟩, hc⟩ := h
  have hF := (hW.2.2.2.2.2.2.2.2.1).set
  have g1 : og (fun y k => y = B + 29 + 2 * m + 80 + 2 * fr + 7 ∧ 7 ≤ k) D (ob_pI D (B + 29 + 2 * m + 80 + 2 * fr + 7) 11 (D.1 (B + 29 + 2 * m + 80 + 2 * fr + 7) 11 + 1)) := og.pI ⟨rfl, by decide⟩
  have g2 : og (fun y k => y = B + 29 + 2 * m + 80 + 2 * fr + 7 ∧ 7 ≤ k) D (ob_pI D (B + 29 + 2 * m + 80 + 2 * fr + 7) 10 (D.1 (B + 29 + 2 * m + 80 + 2 * fr + 7) 10 + 1)) := og.pI ⟨rfl, by decide⟩
  exact ⟨⟨hW.uCr (g1.mono (fun y k e => by omega)) hF.1, ⟨p, hp.keep g1 (by omega) (by omega) rfl⟩, hc.keep g1 (by omega) (by omega) rfl⟩, ⟨hW.uCr (g2.mono (fun y k e => by omega)) hF.2, ⟨p, hp.keep g2 (by omega) (by omega) rfl⟩, hc.keep g2 (by omega) (by omega) rfl⟩⟩
theorem wc_refuse {S : ob_S} {D : ob_D} {B m fr F w pt k q : Nat} {z : sW} {c : List Nat} (h : cX S D B m fr F w pt z c) (hk : k < 32) : ∃ D', f_Handler_refuse S (B + 29 + 2 * m + 80 + 2 * fr + 9) (N32 k) (N32 q) D = some D' ∧ cX S D' B m fr F w pt (w_rep w 1 k (first4 c ++ by_be (N32 q) 2) (w_fail z)) c ∧ og (cReg B m fr) D D' := by
  have hd := h.1.hd
  have g0 : og (cReg B m fr) D (ob_pI D (B + 29 + 2 * m + 80 + 2 * fr + 7) 11 (D.1 (B + 29 + 2 * m + 80 + 2 * fr + 7) 11 + 1)) := og.pI ⟨by omega, by omega⟩
  obtain ⟨hW, ⟨p, hp⟩, hc⟩ := (wc_fail h).1
  have hd3 := hW.hd
  obtain ⟨D8, b1, b2, b3, b4, b5⟩ := wc_begin hW hp hc (s := 1) (by decide) hk
  have hd8 := b2.hd
  obtain ⟨D17, a1, a2, a3, a4, a5⟩ := wc_add b2 b3 b4 (N32 (nn c 0 4)) (n := 4) (by decide) (by rw [w_hd_len]; decide)
  obtain ⟨D19, e1, e2, e3, e4, e5⟩ := wc_add a2 a3 a4 (N32 q) (n := 2) (by decide) (by rw [List.length_append, w_hd_len, by_be_len]; decide)
  have hd19 := e2.hd
  rw [List.append_assoc] at e3
  obtain ⟨D', t1, t2, t3⟩ := wc_done e2 e3 e4 (by decide) (by rw [List.length_append, by_be_len, by_be_len]; decide)
  refine ⟨D', ?_, t2, (((g0.tr b5).tr (cReg_pk a5)).tr (cReg_pk e5)).tr t3⟩
  unfold f_Handler_refuse
  have b1' : f_Reports_begin S (B + 29 + 2 * m + 80 + 2 * fr) 1 (N32 k) ((ob_pI D (B + 29 + 2 * m + 80 + 2 * fr + 7) 11 (D.1 (B + 29 + 2 * m + 80 + 2 * fr + 7) 11 + 1)).1 (B + 29 + 2 * m + 80 + 2 * fr + 7) 8) (ob_pI D (B + 29 + 2 * m + 80 + 2 * fr + 7) 11 (D.1 (B + 29 + 2 * m + 80 + 2 * fr + 7) 11 + 1)) = some (B + 29 + 2 * m + 80 + 2 * fr + 3, D8) := b1
  have a1' : f_Row_add S (B + 29 + 2 * m + 80 + 2 * fr + 3) (N32 (nn c 0 4)) 4 D8 = some D17 := a1
  have e1' : f_Row_add S (B + 29 + 2 * m + 80 + 2 * fr + 3) (N32 q) 2 D17 = some D19 := e1
  rw [hd.1, if_pos (by omega)]
  simp only [ob_lt]
  rw [hd3.2.2.2.2.1, if_pos (by omega), hd3.1, if_pos (by omega), b1']
  simp only [ob_bd]
  rw [if_pos hd.2.2.2.2.2.2.2.2.2, hd8.2.2.2.2.2.2.2.2.1, if_pos (by omega), wc_first b4]
  simp only [ob_bd]
  rw [a1']
  simp only [ob_bv]
  rw [e1']
  simp only [ob_bv]
  rw [hd19.2.2.2.2.1, if_pos (by omega), t1]
