-- ===== a command is handled =====
def w_ack (w b k : Nat) (c : List Nat) (z : sW) : sW := if c.getD 6 0 &&& b = 0 then z else w_rep w 1 k (first4 c) z
def w_handle (m w : Nat) (c : List Nat) (z : sW) : sW := if fo c = 0 then (if hf m c (w_ack w 1 1 c (w_hand z)) = 0 then w_ack w 8 7 c (pf w c (w_ack w 2 3 c (w_ack w 1 1 c (w_hand z)))) else w_rep w 1 4 (first4 c ++ by_be (N32 (hf m c (w_ack w 1 1 c (w_hand z)))) 2) (w_fail (w_ack w 1 1 c (w_hand z)))) else w_rep w 1 2 (first4 c ++ by_be (N32 (fo c)) 2) (w_fail (w_hand z))
theorem rp_keep_rt (w : Nat) (q : List Nat) (z : sRp) : (rp_keep w q z).2.2.2.2.2.1 = z.2.2.2.2.2.1 := by
  obtain ⟨st, sd, md, all, lo, rt, fr, tt, rc⟩ := z
  have ek : rp_keep w q (st, sd, md, all, lo, rt, fr, tt, rc) = if sd (q.getD 7 0) = true ∧ q.length ≤ w then ((rp_fit w q.length st rc).1 ++ [q], sd, md, all, lo, rt, fr, tt, (rp_fit w q.length st rc).2) else (st, sd, md, all, lo, rt, fr, tt, rc) := rfl
  rw [ek]
  split <;> rfl
theorem rp_lose_rt (z : sRp) : (rp_lose z).2.2.2.2.2.1 = z.2.2.2.2.2.1 := by
  obtain ⟨st, sd, md, all, lo, rt, fr, tt, rc⟩ := z
  show rt = rt
  rfl
theorem rp_begin_rt (s k : Nat) (z : sRp) : (rp_begin s k z).2.2.2.2.2.1 = z.2.2.2.2.2.1 := by
  obtain ⟨st, sd, md, all, lo, rt, fr, tt, rc⟩ := z
  show rt = rt
  rfl
theorem rp_send_rt (w : Nat) (p lv : List Nat) (z : sRp) : (rp_send w p lv z).2.2.2.2.2.2.1 = z.2.2.2.2.2.1 := by
  unfold rp_send
  split
  · exact rp_keep_rt _ _ _
  · rw [rp_keep_rt, rp_lose_rt]
theorem hf_rep (m w s k : Nat) (body c : List Nat) (z : sW) : hf m c (w_rep w s k body z) = hf m c z := by
  obtain ⟨gt, rc, A, on, ev, lm, ⟨lv, rv, so, al⟩, frs, rp, cr, fm, me⟩ := z
  unfold w_rep hf
  simp only [rp_send_rt, rp_begin_rt]
theorem w_rep_me (w s k : Nat) (body : List Nat) (z : sW) : (w_rep w s k body z).2.2.2.2.2.2.2.2.2.2.2 = z.2.2.2.2.2.2.2.2.2.2.2 ∧ (w_rep w s k body z).2.2.1 = z.2.2.1 := by
  obtain ⟨gt, rc, A, on, ev, lm, ⟨lv, rv, so, al⟩, frs, rp, cr, fm, me⟩ := z
  show me = me ∧ A = A
  exact ⟨rfl, rfl⟩
theorem hf_ack (m w b k : Nat) (c : List Nat) (z : sW) : hf m c (w_ack w b k c z) = hf m c z := by
  unfold w_ack
  split
  · rfl
  · exact hf_rep _ _ _ _ _ _ _
theorem w_ack_me (w b k : Nat) (c : List Nat) (z : sW) : (w_ack w b k c z).2.2.2.2.2.2.2.2.2.2.2 = z.2.2.2.2.2.2.2.2.2.2.2 ∧ (w_ack w b k c z).2.2.1 = z.2.2.1 := by
  unfold w_ack
  split
  · exact ⟨rfl, rfl⟩
  · exact w_rep_me _ _ _ _ _
theorem w_hand_me (z : sW) : (w_hand z).2.2.2.2.2.2.2.2.2.2.2 = z.2.2.2.2.2.2.2.2.2.2.2 ∧ (w_hand z).2.2.1 = z.2.2.1 := by
  obtain ⟨gt, rc, A, on, ev, lm, ch, frs, rp, ⟨wi, mo, ck, al, hd, fa, br⟩, fm, me⟩ := z
  show me = me ∧ A = A
  exact ⟨rfl, rfl⟩
theorem pl_lt {α : Type} {x y most k : Nat} {key : α → Nat} {l : List α} (hx : x < 100) (hy : y < 100) : pl_v x y most key k l < 100 := by
  unfold pl_v
  repeat' split
  all_goals omega
theorem lf_lt {α : Type} {q : Nat} {fl : Bool} {key : α → Nat} {on : α → Bool} {k : Nat} {l : List α} (hq : q < 100) : lf_v q fl key on k l < 100 := by
  unfold lf_v
  repeat' split
  all_goals omega
theorem ite_lt {p : Prop} [Decidable p] {a b n : Nat} (ha : a < n) (hb : b < n) : (if p then a else b) < n := by
  split
  · exact ha
  · exact hb
theorem hf_lt (m : Nat) (c : List Nat) (z : sW) : hf m c z < 100 := by
  obtain ⟨gt, rc, A, on, ev, lm, ch, frs, rp, cr, fm, me⟩ := z
  have h1 : nf_v c fm < 100 := by
    unfold nf_v
    have := pl_lt (x := 11) (y := 12) (most := 8) (k := c.getD 11 0) (key := fun f : sFm => f.1) (l := fm) (by decide) (by decide)
    repeat' split
    all_goals omega
  have h2 : nl_v c lm < 100 := by
    unfold nl_v
    have := pl_lt (x := 25) (y := 26) (most := 16) (k := c.getD 11 0) (key := fun f : sLm => f.1) (l := lm) (by decide) (by decide)
    repeat' split
    all_goals omega
  have h3 : ∀ n a, pm_v n a < 100 := by
    intro n a
    unfold pm_v
    repeat' split
    all_goals omega
  have h4 : ff_v (c.getD 11 0) (c.getD 12 0) cr.2.1 < 100 := by
    unfold ff_v
    repeat' split
    all_goals omega
  have h5 : te_v c A.length m cr.2.2.1 < 100 := by
    unfold te_v
    repeat' split
    all_goals omega
  have h6 : te_has c A < 100 := by
    unfold te_has
    split <;> omega
  have h7 : te_can c cr.2.2.1 A < 100 := by
    unfold te_can
    split <;> omega
  have h8 : na_v c ev < 100 := by
    unfold na_v
    repeat' split
    all_goals omega
  have h9 : ∀ fl, af_v fl c ev < 100 := by
    intro fl
    unfold af_v
    repeat' split
    all_goals omega
  unfold hf
  simp only
  repeat' apply ite_lt
  all_goals first
    | omega
    | exact h1
    | exact h2
    | exact h3 _ _
    | exact h4
    | exact h5
    | exact h6
    | exact h7
    | exact h8
    | exact h9 _
    | exact lf_lt (q := 14) (by decide)
    | exact lf_lt (q := 27) (by decide)
theorem and_b (x b : Nat) (hx : x < 256) : x &&& b < 256 := Nat.lt_of_le_of_lt Nat.and_le_left hx
theorem wc_handle {S : ob_S} {D : ob_D} {B m fr F w pt : Nat} {z : sW} {c : List Nat} (h : cX S D B m fr F w pt z c) (hml : z.2.2.2.2.2.2.2.2.2.2.2.length = 4096) : ∃ D', f_Handler_handle S (B + 29 + 2 * m + 80 + 2 * fr + 9) D = some D' ∧ cX S D' B m fr F w pt (w_handle m w c z) c ∧ og (cReg B m fr) D D' := by
  have hd := h.1.hd
  have hcl : c.length ≤ 252 := h.2.2.2.2.2.2.2.1
  have hbb := h.2.2.2.2.2.2.2.2.2.2
  have b6 := by_getD_lt hbb 6
  have h3 := (wc_fail h).2
  have g3 : og (cReg B m fr) D (ob_pI D (B + 29 + 2 * m + 80 + 2 * fr + 7) 10 (D.1 (B + 29 + 2 * m + 80 + 2 * fr + 7) 10 + 1)) := og.pI ⟨by omega, by omega⟩
  generalize hD3 : ob_pI D (B + 29 + 2 * m + 80 + 2 * fr + 7) 10 (D.1 (B + 29 + 2 * m + 80 + 2 * fr + 7) 10 + 1) = D3 at h3 g3
  have hd3 := h3.1.hd
  have hc3 := h3.2.2
  have hfc : f_Handler_faultOf S (B + 29 + 2 * m + 80 + 2 * fr + 12) 0 (N32 c.length) D3 = some (N32 (fo c), D3) := by
    have := foc hc3 (f := 0) (n := c.length) (by omega) hcl
    rw [List.drop_zero, List.take_length] at this
    exact this
  have hfl := fo_le c
  have hstart : f_Handler_handle S (B + 29 + 2 * m + 80 + 2 * fr + 9) D = ob_bd (f_Handler_faultOf S (B + 29 + 2 * m + 80 + 2 * fr + 12) 0 (N32 c.length) D3) fun x10 D8 => (if x10 = 0 then if D8.2.1 (B + 29 + 2 * m + 80 + 2 * fr + 9) 8 ≠ 0 then ob_bd (f_Row_number S (D8.2.1 (B + 29 + 2 * m + 80 + 2 * fr + 9) 8) (6 : Int32) (1 : Int32) D8) fun x15 D13 => if D13.2.1 (B + 29 + 2 * m + 80 + 2 * fr + 9) 8 ≠ 0 then ob_bd (f_Row_number S (D13.2.1 (B + 29 + 2 * m + 80 + 2 * fr + 9) 8) (7 : Int32) (2 : Int32) D13) fun x20 D18 => (if (x15 &&& (1 : Int32)) = 0 then f_Handler_handle_L73 S (B + 29 + 2 * m + 80 + 2 * fr + 9) x15 x20 D18 else ob_bv (f_Handler_answer S (B + 29 + 2 * m + 80 + 2 * fr + 9) (1 : Int32) D18) fun D32 => f_Handler_handle_L73 S (B + 29 + 2 * m + 80 + 2 * fr + 9) x15 x20 D32) else none else none else ob_bv (f_Handler_refuse S (B + 29 + 2 * m + 80 + 2 * fr + 9) (2 : Int32) x10 D8) fun D34 => some D34) := by
    unfold f_Handler_handle
    rw [hd.1, if_pos (by omega)]
    simp only [ob_lt]
    rw [hD3, hd3.2.2.2.2.2.2.2.2.1, if_pos (by omega), if_pos (by omega), hc3.2.2.2.2.1]
  rw [hstart, hfc]
  simp only [ob_bd]
  unfold w_handle
  by_cases h0 : fo c = 0
  case neg =>
    rw [if_neg (by rw [show (0 : Int32) = N32 0 from rfl, nb_eq (by omega) (by decide)]; exact h0), if_neg h0]
    obtain ⟨D', t1, t2, t3⟩ := wc_refuse (k := 2) (q := fo c) h3 (by decide)
    have t1 : f_Handler_refuse S (B + 29 + 2 * m + 80 + 2 * fr + 9) 2 (N32 (fo c)) D3 = some D' := t1
    rw [t1]
    exact ⟨D', rfl, t2, g3.tr t3⟩
  rw [if_pos (by rw [h0]; rfl), if_pos h0]
  have r6 : f_Row_number S (B + 29 + 2 * m + 80 + 2 * fr + 12) 6 1 D3 = some (N32 (c.getD 6 0), D3) := by
    have := rw_num hc3 (f := 6) (c := 1) (by decide) (by decide)
    rw [nn_1] at this
    exact this
  have r7 : f_Row_number S (B + 29 + 2 * m + 80 + 2 * fr + 12) 7 2 D3 = some (N32 (nn c 7 2), D3) := rw_num hc3 (f := 7) (c := 2) (by decide) (by decide)
  rw [hd3.2.2.2.2.2.2.2.2.1, if_pos (by omega), r6]
  simp only
  rw [hd3.2.2.2.2.2.2.2.2.1, if_pos (by omega), r7]
  simp only
  have ea : ∀ b : Nat, N32 (c.getD 6 0) &&& N32 b = N32 (c.getD 6 0 &&& b) := fun b => n_and _ b
  have e1 : N32 (c.getD 6 0) &&& (1 : Int32) = N32 (c.getD 6 0 &&& 1) := ea 1
  have e2 : N32 (c.getD 6 0) &&& (2 : Int32) = N32 (c.getD 6 0 &&& 2) := ea 2
  have e8 : N32 (c.getD 6 0) &&& (8 : Int32) = N32 (c.getD 6 0 &&& 8) := ea 8
  have hml3 : (w_hand z).2.2.2.2.2.2.2.2.2.2.2.length = 4096 := by rw [(w_hand_me z).1]; exact hml
  -- one acknowledgement
  have ackd : ∀ (b k : Nat) (z1 : sW) (D1 : ob_D) (f : ob_D → Option ob_D) (zf : sW), cX S D1 B m fr F w pt z1 c → og (cReg B m fr) D D1 → k < 32 → (∀ D2, cX S D2 B m fr F w pt (w_ack w b k c z1) c → og (cReg B m fr) D D2 → ∃ D', f D2 = some D' ∧ cX S D' B m fr F w pt zf c ∧ og (cReg B m fr) D D') → ∃ D', (if N32 (c.getD 6 0 &&& b) = 0 then f D1 else ob_bv (f_Handler_answer S (B + 29 + 2 * m + 80 + 2 * fr + 9) (N32 k) D1) fun D2 => f D2) = some D' ∧ cX S D' B m fr F w pt zf c ∧ og (cReg B m fr) D D' := by
    intro b k z1 D1 f zf hx hg hk hf
    unfold w_ack at hf
    have hlt := and_b (c.getD 6 0) b b6
    by_cases hz : c.getD 6 0 &&& b = 0
    · rw [if_pos (by rw [hz]; rfl)]
      rw [if_pos hz] at hf
      exact hf D1 hx hg
    · rw [if_neg (by rw [show (0 : Int32) = N32 0 from rfl, nb_eq (by omega) (by decide)]; exact hz)]
      rw [if_neg hz] at hf
      obtain ⟨D2, t1, t2, t3⟩ := wc_answer hx hk
      rw [t1]
      exact hf D2 t2 (hg.tr t3)
  rw [e1]
  refine ackd 1 1 (w_hand z) D3 (fun D32 => f_Handler_handle_L73 S (B + 29 + 2 * m + 80 + 2 * fr + 9) (N32 (c.getD 6 0)) (N32 (nn c 7 2)) D32) _ h3 g3 (by decide) (fun D32 hx2 hg2 => ?_)
  show ∃ D', f_Handler_handle_L73 S (B + 29 + 2 * m + 80 + 2 * fr + 9) (N32 (c.getD 6 0)) (N32 (nn c 7 2)) D32 = some D' ∧ _
  unfold f_Handler_handle_L73
  rw [wc_failure hx2 h0]
  simp only [ob_bd]
  have hlt := hf_lt m c (w_ack w 1 1 c (w_hand z))
  by_cases hz : hf m c (w_ack w 1 1 c (w_hand z)) = 0
  case neg =>
    rw [if_neg (by rw [show (0 : Int32) = N32 0 from rfl, nb_eq (by omega) (by decide)]; exact hz), if_neg hz]
    obtain ⟨D', t1, t2, t3⟩ := wc_refuse (k := 4) (q := hf m c (w_ack w 1 1 c (w_hand z))) hx2 (by decide)
    have t1 : f_Handler_refuse S (B + 29 + 2 * m + 80 + 2 * fr + 9) 4 (N32 (hf m c (w_ack w 1 1 c (w_hand z)))) D32 = some D' := t1
    rw [t1]
    exact ⟨D', rfl, t2, hg2.tr t3⟩
  rw [if_pos (by rw [hz]; rfl), if_pos hz, e2]
  refine ackd 2 3 _ D32 (fun D28 => f_Handler_handle_L104 S (B + 29 + 2 * m + 80 + 2 * fr + 9) (N32 (c.getD 6 0)) (N32 (nn c 7 2)) D28) _ hx2 hg2 (by decide) (fun D28 hx3 hg3 => ?_)
  show ∃ D', f_Handler_handle_L104 S (B + 29 + 2 * m + 80 + 2 * fr + 9) (N32 (c.getD 6 0)) (N32 (nn c 7 2)) D28 = some D' ∧ _
  unfold f_Handler_handle_L104
  obtain ⟨D24, p1, p2, p3⟩ := wc_perform hx3 h0 (by rw [hf_ack]; exact hz) (by rw [(w_ack_me _ _ _ _ _).1, (w_ack_me _ _ _ _ _).1]; exact hml3)
  rw [p1]
  simp only [ob_bv]
  rw [e8]
  exact ackd 8 7 _ D24 (fun D26 => some D26) _ p2 (hg3.tr p3) (by decide) (fun D26 hx4 hg4 => ⟨D26, rfl, hx4, hg4⟩)
