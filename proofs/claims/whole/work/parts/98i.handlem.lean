-- ===== a command is handled, in the reference =====
theorem mCr.set {D : ob_D} {M pt : Nat} {wi : Nat → Int32} {mo ck : Nat} {al : Option Nat} {hd fa br : Int32} (h : mCr D M pt (wi, mo, ck, al, hd, fa, br)) : mCr (ob_pI D M 30 (D.1 M 30 + 1)) M pt (wi, mo, ck, al, hd, fa + 1, br) ∧ mCr (ob_pI D M 29 (D.1 M 29 + 1)) M pt (wi, mo, ck, al, hd + 1, fa, br) := by
  obtain ⟨c1, c2, c3, c4, c5, c6, c7, c8, c9, c10, c11⟩ := h
  refine ⟨⟨fun i hi => by rw [pI_ne (by omega), pI_ne (by omega)]; exact c1 i hi, by rw [pI_ne (by omega)]; exact c2, c3, by rw [pI_ne (by omega)]; exact c4, by rw [pI_ne (by omega)]; exact c5, fun x hx => ⟨by rw [pI_ne (by omega)]; exact (c6 x hx).1, (c6 x hx).2⟩, by rw [pI_ne (by omega)]; exact c7, by rw [pI_self, c8], by rw [pI_ne (by omega)]; exact c9, by rw [pI_ne (by omega)]; exact c10, c11⟩, ⟨fun i hi => by rw [pI_ne (by omega), pI_ne (by omega)]; exact c1 i hi, by rw [pI_ne (by omega)]; exact c2, c3, by rw [pI_ne (by omega)]; exact c4, by rw [pI_ne (by omega)]; exact c5, fun x hx => ⟨by rw [pI_ne (by omega)]; exact (c6 x hx).1, (c6 x hx).2⟩, by rw [pI_self, c7], by rw [pI_ne (by omega)]; exact c8, by rw [pI_ne (by omega)]; exact c9, by rw [pI_ne (by omega)]; exact c10, c11⟩⟩
theorem wm_fail {S : ob_S} {D : ob_D} {M m fr F w pt : Nat} {z : sW} {c : List Nat} (h : mX S D M m fr F w pt z c) : mX S (ob_pI D M 30 (D.1 M 30 + 1)) M m fr F w pt (w_fail z) c ∧ mX S (ob_pI D M 29 (D.1 M 29 + 1)) M m fr F w pt (w_hand z) c := by
  obtain ⟨gt, rc, A, on, ev, lm, ch, frs, rp, ⟨wi, mo, ck, al, hd, fa, br⟩, fm, me⟩ := z
  obtain ⟨hW, ⟨p, hp⟩, hc⟩ := h
  have hF := (hW.2.2.2.2.2.2.2.2.2.1).set
  have g1 : oi (fun y k => y = M ∧ k = 30) D (ob_pI D M 30 (D.1 M 30 + 1)) := oi.pI ⟨rfl, rfl⟩
  have g2 : oi (fun y k => y = M ∧ k = 29) D (ob_pI D M 29 (D.1 M 29 + 1)) := oi.pI ⟨rfl, rfl⟩
  exact ⟨⟨hW.uCr (g1.mono (fun y k e => by omega)) hF.1, ⟨p, hp.keep g1.up (by omega) (by omega)⟩, hc.keep g1.up (by omega) (by omega)⟩, ⟨hW.uCr (g2.mono (fun y k e => by omega)) hF.2, ⟨p, hp.keep g2.up (by omega) (by omega)⟩, hc.keep g2.up (by omega) (by omega)⟩⟩
theorem sb_15 {b : Nat} (h : b < 256) : sb b &&& (15 : Int32) = N32 (b % 16) := by
  have : ∀ j : Fin 256, sb j.val &&& (15 : Int32) = N32 (j.val % 16) := by decide +kernel
  exact this ⟨b, h⟩
theorem fl_1 {b : Nat} (h : b < 256) : N32 (b % 16) &&& (1 : Int32) = N32 (b &&& 1) ∧ N32 (b % 16) &&& (2 : Int32) = N32 (b &&& 2) ∧ N32 (b % 16) &&& (8 : Int32) = N32 (b &&& 8) := by
  have : ∀ j : Fin 256, N32 (j.val % 16) &&& (1 : Int32) = N32 (j.val &&& 1) ∧ N32 (j.val % 16) &&& (2 : Int32) = N32 (j.val &&& 2) ∧ N32 (j.val % 16) &&& (8 : Int32) = N32 (j.val &&& 8) := by decide +kernel
  exact this ⟨b, h⟩
theorem wm_handle {S : ob_S} {D : ob_D} {M m fr F w pt : Nat} {z : sW} {c : List Nat} (h : mX S D M m fr F w pt z c) (hm : m ≤ 64) (hAm : z.2.2.1.length ≤ m) : ∃ D', f_Model_handle S M D = some D' ∧ mX S D' M m fr F w pt (w_handle m w c z) c ∧ oi (mReg M) D D' := by
  have hcl : c.length ≤ 252 := h.2.2.2.1
  have hbb : ∀ x ∈ c, x < 256 := h.2.2.2.2.2
  have b6 := by_getD_lt hbb 6
  have h3 := (wm_fail h).2
  have g3 : oi (mReg M) D (ob_pI D M 29 (D.1 M 29 + 1)) := oi.pI ⟨by omega, by omega⟩
  generalize hD3 : ob_pI D M 29 (D.1 M 29 + 1) = D3 at h3 g3
  have hA3 : mA S D3 M := h3.1.mA
  have a27 := hA3.1 (27, 7, 260) (by decide)
  have a271 : D3.2.1 M 27 = M + 7 := a27.1
  have a272 : S.2.1 (M + 7) = 260 := a27.2
  have hc3 := h3.2.2
  have hfc : f_Model_faultOf S (M + 7) 0 (N32 c.length) D3 = some (N32 (fo c), D3) := by
    have := fom (S := S) hc3.2.2 (f := 0) (n := c.length) (by rw [a272]; omega) (by rw [a272]; omega) (by omega) hcl
    rw [List.drop_zero, List.take_length] at this
    exact this
  have hfl := fo_le c
  unfold f_Model_handle
  simp only [ob_lt]
  rw [hD3, a271, if_pos (by omega), hc3.1, hfc]
  simp only [ob_bd]
  unfold w_handle
  by_cases h0 : fo c = 0
  case neg =>
    rw [if_neg (by rw [show (0 : Int32) = N32 0 from rfl, nb_eq (by omega) (by decide)]; exact h0), if_neg h0]
    have h4 := (wm_fail h3).1
    have g4 : oi (mReg M) D3 (ob_pI D3 M 30 (D3.1 M 30 + 1)) := oi.pI ⟨by omega, by omega⟩
    obtain ⟨D', t1, t2, t3⟩ := wm_verified (k := 2) (q := fo c) h4 (by decide) (by omega)
    have t1 : f_Model_verified S M 2 (N32 (fo c)) (ob_pI D3 M 30 (D3.1 M 30 + 1)) = some D' := t1
    rw [t1]
    rw [if_neg h0] at t2
    exact ⟨D', rfl, t2, (g3.tr g4).tr t3⟩
  rw [if_pos (by rw [h0]; rfl), if_pos h0]
  have h13 := fo_13 h0
  have v6 : D3.1 (M + 7) (6 : Int32).toNatClampNeg = sb (c.getD 6 0) := by
    have := hc3.2.2.1 6 (by omega)
    rw [Nat.zero_add] at this
    exact this
  have v7 : D3.1 (M + 7) (7 : Int32).toNatClampNeg &&& (255 : Int32) = N32 (c.getD 7 0) := ba_at hc3.2.2 (i := 7) (by omega) (by decide)
  have v8 : D3.1 (M + 7) (8 : Int32).toNatClampNeg &&& (255 : Int32) = N32 (c.getD 8 0) := ba_at hc3.2.2 (i := 8) (by omega) (by decide)
  rw [a271, a272, if_pos (by omega), if_pos (by decide), if_pos (by omega), if_pos (by decide), if_pos (by omega), if_pos (by decide), v6, v7, v8, sb_15 b6, (fl_1 b6).1]
  have hml3 : (w_hand z).2.2.1.length ≤ m := by rw [(w_hand_me z).2]; exact hAm
  have ackd : ∀ (b k : Nat) (z1 : sW) (D1 : ob_D) (f : ob_D → Option ob_D) (zf : sW), mX S D1 M m fr F w pt z1 c → oi (mReg M) D D1 → k < 32 → (∀ D2, mX S D2 M m fr F w pt (w_ack w b k c z1) c → oi (mReg M) D D2 → ∃ D', f D2 = some D' ∧ mX S D' M m fr F w pt zf c ∧ oi (mReg M) D D') → ∃ D', (if N32 (c.getD 6 0 &&& b) = 0 then f D1 else ob_bv (f_Model_verified S M (N32 k) (0 : Int32) D1) fun D2 => f D2) = some D' ∧ mX S D' M m fr F w pt zf c ∧ oi (mReg M) D D' := by
    intro b k z1 D1 f zf hx hg hk hf
    unfold w_ack at hf
    have hlt := and_b (c.getD 6 0) b b6
    by_cases hz : c.getD 6 0 &&& b = 0
    · rw [if_pos (by rw [hz]; rfl)]
      rw [if_pos hz] at hf
      exact hf D1 hx hg
    · rw [if_neg (by rw [show (0 : Int32) = N32 0 from rfl, nb_eq (by omega) (by decide)]; exact hz)]
      rw [if_neg hz] at hf
      obtain ⟨D2, t1, t2, t3⟩ := wm_verified (q := 0) hx hk (by decide)
      have t1 : f_Model_verified S M (N32 k) (0 : Int32) D1 = some D2 := t1
      rw [if_pos rfl] at t2
      rw [t1]
      exact hf D2 t2 (hg.tr t3)
  refine ackd 1 1 (w_hand z) D3 (fun D32 => f_Model_handle_L92 S M (N32 (c.getD 6 0 % 16)) (N32 (c.getD 7 0)) (N32 (c.getD 8 0)) D32) _ h3 g3 (by decide) (fun D32 hx2 hg2 => ?_)
  show ∃ D', f_Model_handle_L92 S M (N32 (c.getD 6 0 % 16)) (N32 (c.getD 7 0)) (N32 (c.getD 8 0)) D32 = some D' ∧ _
  unfold f_Model_handle_L92
  rw [wm_failure hx2 h0 hm (by rw [(w_ack_me _ _ _ _ _).2]; exact hml3)]
  simp only [ob_bd]
  have hlt := hf_lt m c (w_ack w 1 1 c (w_hand z))
  by_cases hz : hf m c (w_ack w 1 1 c (w_hand z)) = 0
  case neg =>
    rw [if_neg (by rw [show (0 : Int32) = N32 0 from rfl, nb_eq (by omega) (by decide)]; exact hz), if_neg hz]
    simp only [ob_lt]
    have h4 := (wm_fail hx2).1
    have g4 : oi (mReg M) D32 (ob_pI D32 M 30 (D32.1 M 30 + 1)) := oi.pI ⟨by omega, by omega⟩
    obtain ⟨D', t1, t2, t3⟩ := wm_verified (k := 4) (q := hf m c (w_ack w 1 1 c (w_hand z))) h4 (by decide) (by omega)
    have t1 : f_Model_verified S M 4 (N32 (hf m c (w_ack w 1 1 c (w_hand z)))) (ob_pI D32 M 30 (D32.1 M 30 + 1)) = some D' := t1
    rw [t1]
    rw [if_neg hz] at t2
    exact ⟨D', rfl, t2, (hg2.tr g4).tr t3⟩
  rw [if_pos (by rw [hz]; rfl), if_pos hz, (fl_1 b6).2.1]
  refine ackd 2 3 _ D32 (fun D28 => f_Model_handle_L136 S M (N32 (c.getD 6 0 % 16)) (N32 (c.getD 7 0)) (N32 (c.getD 8 0)) D28) _ hx2 hg2 (by decide) (fun D28 hx3 hg3 => ?_)
  show ∃ D', f_Model_handle_L136 S M (N32 (c.getD 6 0 % 16)) (N32 (c.getD 7 0)) (N32 (c.getD 8 0)) D28 = some D' ∧ _
  unfold f_Model_handle_L136
  obtain ⟨D24, p1, p2, p3⟩ := wm_perform hx3 h0 (by rw [hf_ack]; exact hz) hm
  rw [p1]
  simp only [ob_bv]
  rw [(fl_1 b6).2.2]
  exact ackd 8 7 _ D24 (fun D26 => some D26) _ p2 (hg3.tr p3) (by decide) (fun D26 hx4 hg4 => ⟨D26, rfl, hx4, hg4⟩)
