-- ===== the uplink, on both sides =====
theorem mW.uRcg {S : ob_S} {D D' : ob_D} {M m fr F w pt : Nat} {gt : sGt} {rc : sRc} {A : List sEn} {on : Bool} {ev : sEv} {lm : List sLm} {ch : sCh} {frs : List (List Nat)} {rp : sRp} {cr : sCr} {fm : List sFm} {me : List Nat} {rc' : sRc} (h : mW S D M m fr F w pt (gt, rc, A, on, ev, lm, ch, frs, rp, cr, fm, me)) (a : og (mRcP M) D D') (hn : mRc S D' M rc') : mW S D' M m fr F w pt (gt, rc', A, on, ev, lm, ch, frs, rp, cr, fm, me) := by
  obtain ⟨h1, h2, h3, h4, h5, h6, h7, h8, h9, h10, h11, h12, h13⟩ := h
  have hb : ∀ t ∈ mtab, ¬ (t.1 = 8 ∨ t.1 = 9 ∨ t.1 = 10 ∨ t.1 = 12 ∨ t.1 = 14 ∨ t.1 = 15) := by decide
  unfold mRcP at a
  exact ⟨h1.kg a (fun t ht e => by have := hb t ht; omega) (by omega) (fun _ _ _ => rfl), h2.keep a (fun y k e => by unfold mGtP at e; omega) (by omega) (fun _ _ _ => rfl), hn, h4.keep a (by omega) (by omega) (by omega), h5.keep a (by omega) (by omega) (by omega), h6.keep a (by omega) (by omega), ⟨h7.1.keep a (by omega) (by omega) (by omega), h7.2⟩, h8.keep a (by omega), h9.keep a (by omega) (by omega) (by omega), h10.keep a (by omega) (by omega) (by omega), h11.keep a (by omega) (by omega), ⟨h12.1.keep a (fun k _ _ => by omega), h12.2⟩, ⟨by rw [(a _ _ (by omega)).1]; exact h13.1, by rw [(a _ _ (by omega)).1]; exact h13.2.1, by rw [(a _ _ (by omega)).1]; exact h13.2.2.1, by rw [(a _ _ (by omega)).1]; exact h13.2.2.2⟩⟩
theorem mW.uGtg {S : ob_S} {D D' : ob_D} {M m fr F w pt : Nat} {gt : sGt} {rc : sRc} {A : List sEn} {on : Bool} {ev : sEv} {lm : List sLm} {ch : sCh} {frs : List (List Nat)} {rp : sRp} {cr : sCr} {fm : List sFm} {me : List Nat} {gt' : sGt} (h : mW S D M m fr F w pt (gt, rc, A, on, ev, lm, ch, frs, rp, cr, fm, me)) (a : og (mGtP M) D D') (hn : mGt S D' M gt') : mW S D' M m fr F w pt (gt', rc, A, on, ev, lm, ch, frs, rp, cr, fm, me) := by
  obtain ⟨h1, h2, h3, h4, h5, h6, h7, h8, h9, h10, h11, h12, h13⟩ := h
  have hb : ∀ t ∈ mtab, ¬ (t.1 = 16 ∨ t.1 = 17 ∨ t.1 = 19 ∨ t.1 = 20 ∨ t.1 = 21 ∨ t.1 = 22 ∨ t.1 = 23 ∨ t.1 = 26) := by decide
  unfold mGtP at a
  exact ⟨h1.kg a (fun t ht e => by have := hb t ht; omega) (by omega) (fun _ _ _ => rfl), hn, h3.keep a (fun y k e => by unfold mRcP at e; omega) (by omega) (fun _ _ _ => rfl), h4.keep a (by omega) (by omega) (by omega), h5.keep a (by omega) (by omega) (by omega), h6.keep a (by omega) (by omega), ⟨h7.1.keep a (by omega) (by omega) (by omega), h7.2⟩, h8.keep a (by omega), h9.keep a (by omega) (by omega) (by omega), h10.keep a (by omega) (by omega) (by omega), h11.keep a (by omega) (by omega), ⟨h12.1.keep a (fun k _ _ => by omega), h12.2⟩, ⟨by rw [(a _ _ (by omega)).1]; exact h13.1, by rw [(a _ _ (by omega)).1]; exact h13.2.1, by rw [(a _ _ (by omega)).1]; exact h13.2.2.1, by rw [(a _ _ (by omega)).1]; exact h13.2.2.2⟩⟩
theorem bit_c {e c : Nat} (he : e < 256) (hc : c < 8) : (((N32 e).toUInt32 >>> ((N32 c).toUInt32 &&& Int32.toUInt32 31)).toInt32) &&& (1 : Int32) = bI (decide (e / 2 ^ c % 2 = 1)) := by
  rw [n_ushr e c (by omega) (by omega), n_a1]
  rcases Nat.mod_two_eq_zero_or_one (e / 2 ^ c) with h | h <;> rw [h] <;> rfl
theorem bit_m0 : ∀ e : Fin 256, ∀ c : Fin 8, (sb e.val >>> (N32 c.val &&& 31)) &&& (1 : Int32) = bI (decide (e.val / 2 ^ c.val % 2 = 1)) := by decide +kernel
theorem bit_m {e c : Nat} (he : e < 256) (hc : c < 8) : (sb e >>> (N32 c &&& 31)) &&& (1 : Int32) = bI (decide (e / 2 ^ c % 2 = 1)) := bit_m0 ⟨e, he⟩ ⟨c, hc⟩
theorem rc_came {q : sRc} {b : Bool} (hq : q.1 = true → q.2.2.2.2.1.length % 7 = 0 ∧ q.2.2.2.2.1.length < 259) (h : (rc_hear q b).1 = true) : ∃ win bits blk cand pr, (rc_hear q b).2 = (false, win, bits, blk, cand, pr) ∧ 7 ≤ cand.length ∧ cand.length ≤ 259 := by
  obtain ⟨col, win, bits, blk, cand, pr⟩ := q
  cases col with
  | false =>
    exfalso
    have hs : rc_hear (false, win, bits, blk, cand, pr) b = if min (bits + 1) 16 = 16 ∧ rc_near ((2 * win + b.toNat) % 65536) = true then (false, (true, 0, 0, [], [], pr)) else (false, (false, (2 * win + b.toNat) % 65536, min (bits + 1) 16, blk, cand, pr)) := rfl
    rw [hs] at h
    by_cases hc : min (bits + 1) 16 = 16 ∧ rc_near ((2 * win + b.toNat) % 65536) = true
    · rw [if_pos hc] at h
      cases h
    · rw [if_neg hc] at h
      cases h
  | true =>
    obtain ⟨h7, h259⟩ := hq rfl
    have h7 : cand.length % 7 = 0 := h7
    have h259 : cand.length < 259 := h259
    have hs : rc_hear (true, win, bits, blk, cand, pr) b = if blk.length < 63 then (false, (true, win, bits, blk ++ [b], cand, pr)) else rc_end (blk ++ [b]) cand pr := rfl
    rw [hs] at h ⊢
    by_cases hb : blk.length < 63
    · rw [if_pos hb] at h
      cases h
    · rw [if_neg hb] at h ⊢
      unfold rc_end at h ⊢
      rcases hd : rc_data (blk ++ [b]) with _ | ⟨d, a⟩
      · rw [hd] at h
        simp only [] at h ⊢
        have : 0 < cand.length := of_decide_eq_true h
        exact ⟨_, _, _, _, _, rfl, by omega, by omega⟩
      · rw [hd] at h
        simp only [] at h ⊢
        have hl : (by7 d).length = 7 := by unfold by7; rw [List.length_map, List.length_range]
        by_cases hc : cand.length + 7 < 259
        · rw [if_pos hc] at h
          cases h
        · rw [if_neg hc]
          refine ⟨_, _, _, _, _, rfl, ?_, ?_⟩
          · rw [List.length_append]; omega
          · rw [List.length_append]; omega
def u_step (S : ob_S) (B : Nat) (b : Int32) (k : Bool → ob_D → Option (Int32 × ob_D)) (D : ob_D) : Option (Int32 × ob_D) := if D.2.1 B 2 ≠ 0 then ob_bd (f_Receiver_hear S (D.2.1 B 2) b D) fun x15 D13 => (if x15 = 0 then k false D13 else if D13.2.1 B 3 ≠ 0 then if D13.2.1 B 2 ≠ 0 then if D13.2.1 (D13.2.1 B 2) 0 ≠ 0 then ob_bd (f_Gate_receive S (D13.2.1 B 3) (D13.2.1 (D13.2.1 B 2) 0) D13) fun x24 D22 => (if x24 = 0 then k false D22 else k true D22) else none else none else none) else none
abbrev w_ac (z : sW) : Int32 := z.1.2.2.2.2.2.2.1
theorem j_bit {S : ob_S} {B M m fr F w pt : Nat} {Dc Dm : ob_D} {z : sW} {t : List Nat} (hc : cC S Dc B m fr F w pt z t) (hm : mC S Dm M m fr F w pt z t) (b : Bool) : ∃ (acc : Bool) (Dc' Dm' : ob_D) (z' : sW), (∀ k, u_step S B (bI b) k Dc = k acc Dc') ∧ f_Model_bit S M (bI b) Dm = some Dm' ∧ cC S Dc' B m fr F w pt z' t ∧ mC S Dm' M m fr F w pt z' t ∧ w_ck z' = w_ck z ∧ w_ac z' = w_ac z + bI acc ∧ og (cReg B m fr) Dc Dc' ∧ og (mAll M) Dm Dm' := by
  obtain ⟨hB, hw, ⟨c, hY⟩⟩ := hc
  obtain ⟨⟨c', hm⟩, ht⟩ := hm
  obtain ⟨gt, rc, A, on, ev, lm, ch, frs, rp, cr, fm, me⟩ := z
  have hRc : cRc S Dc (B + 5) rc := hY.1.2.1
  have mRc0 : mRc S Dm M rc := hm.1.2.2.1
  obtain ⟨D1, a1, a2, a3⟩ := rcc_hear hRc b
  obtain ⟨E1, b1, b2, b3⟩ := rcm_bit mRc0 b
  have hcol : rc.1 = true → rc.2.2.2.2.1.length % 7 = 0 ∧ rc.2.2.2.2.1.length < 259 := by
    obtain ⟨col, win, bits, blk, cand, pr⟩ := rc
    intro hcol
    have hcol : col = true := hcol
    subst hcol
    exact hRc.1.2.2.2.2.2.2.2.2
  have hcame := rc_came (q := rc) (b := b) hcol
  generalize rc_hear rc b = R at a1 a2 b1 b2 hcame
  obtain ⟨came, rc1⟩ := R
  have a2 : cRc S D1 (B + 5) rc1 := a2
  have b2 : mRc S E1 M rc1 := b2
  have hB1 : cBx D1 B m fr := hB.keep a3 (by unfold rgn; omega)
  have hw1 : rw_at S D1 (B + 1) (B + 2) 4096 t := hw.keep a3 (by unfold rgn; omega) (by unfold rgn; omega) rfl
  have hx1 := cW.keepX hY (hY.1.uRc (a3.mono (fun y k e => by unfold rgn at e; omega)) a2) a3 (by unfold rgn; omega) (by unfold rgn; omega) (by unfold rgn; omega) (by unfold rgn; omega) (fun y k e => by unfold rgn at e; omega)
  have hy1 : mX S E1 M m fr F w pt (gt, rc1, A, on, ev, lm, ch, frs, rp, cr, fm, me) c' := ⟨hm.1.uRcg b3 b2, hm.2.1.imp (fun p hp => hp.keep b3 (by unfold mRcP; omega) (by unfold mRcP; omega)), hm.2.2.keep b3 (by unfold mRcP; omega) (by unfold mRcP; omega)⟩
  have ht1 : mTp E1 M t := ht.keep b3 (by unfold mRcP; omega) (by unfold mRcP; omega)
  have g1 : og (mAll M) Dm E1 := b3.mono (fun y k e => by unfold mRcP at e; omega)
  have hu : ∀ k, u_step S B (bI b) k Dc = (if bI came = 0 then k false D1 else if D1.2.1 B 3 ≠ 0 then if D1.2.1 B 2 ≠ 0 then if D1.2.1 (D1.2.1 B 2) 0 ≠ 0 then ob_bd (f_Gate_receive S (D1.2.1 B 3) (D1.2.1 (D1.2.1 B 2) 0) D1) fun x24 D22 => (if x24 = 0 then k false D22 else k true D22) else none else none else none) := by
    intro k
    unfold u_step
    rw [hB.2.2.1, if_pos (by omega), a1]
    rfl
  cases came with
  | false =>
    refine ⟨false, D1, E1, _, fun k => ?_, ?_, ⟨hB1, hw1, ⟨c, hx1.1⟩⟩, ⟨⟨c', hy1⟩, ht1⟩, rfl, ?_, hx1.2, g1⟩
    · rw [hu k, if_pos (show bI false = 0 from rfl)]
    · rw [b1]
      exact if_neg (fun e => by cases e)
    · exact (Int32.add_zero _).symm
  | true =>
    obtain ⟨win, bits, blk, cand, pr, hrc1, h7, h259⟩ := hcame rfl
    have hrc1 : rc1 = (false, win, bits, blk, cand, pr) := hrc1
    rw [hrc1] at a2 b2
    obtain ⟨p1, p2, -⟩ := a2
    have hgt := hx1.1.1.1
    obtain ⟨D2, e1, e2, e3⟩ := gtc_receive hgt p2 (by omega) h259
    have hcd : mCd S E1 M cand := ⟨b2.1.2.1, b2.1.2.2.2.2.1, b2.2.2.1, b2.2.2.2.2.1, h7, h259⟩
    obtain ⟨E2, f1, f2, f3, f4⟩ := gtm_frame hcd hy1.1.2.1
    have hx2 := cW.keepX hx1.1 (hx1.1.1.uGt (e3.mono (fun y k e => by unfold rgn at e; omega)) e2) e3 (by unfold rgn; omega) (by unfold rgn; omega) (by unfold rgn; omega) (by unfold rgn; omega) (fun y k e => by unfold rgn at e; omega)
    have hy2 : mX S E2 M m fr F w pt ((gt_receive cand gt).2, rc1, A, on, ev, lm, ch, frs, rp, cr, fm, me) c' := ⟨hy1.1.uGtg f4 f2, hy1.2.1.imp (fun p hp => hp.keep f4 (by unfold mGtP; omega) (by unfold mGtP; omega)), hy1.2.2.keep f4 (by unfold mGtP; omega) (by unfold mGtP; omega)⟩
    refine ⟨(gt_receive cand gt).1, D2, E2, _, fun k => ?_, ?_, ⟨hB1.keep e3 (by unfold rgn; omega), hw1.keep e3 (by unfold rgn; omega) (by unfold rgn; omega) rfl, ⟨c, hx2.1⟩⟩, ⟨⟨c', hy2⟩, ht1.keep f4 (by unfold mGtP; omega) (by unfold mGtP; omega)⟩, rfl, f3, hx1.2.tr hx2.2, g1.tr (f4.mono (fun y k e => by unfold mGtP at e; omega))⟩
    · rw [hu k, if_neg (show ¬ bI true = 0 by decide), hB1.2.2.2.1, if_pos (by omega), hB1.2.2.1, if_pos (by omega), p1, if_pos (by omega), e1]
      simp only [ob_bd]
      cases (gt_receive cand gt).1 with
      | false => exact if_pos rfl
      | true => exact if_neg (by decide)
    · rw [b1]
      exact (if_pos rfl).trans f1
theorem nb_m1u (c : Nat) : N32 (c + 1) + (-1 : Int32) = N32 c := by
  rw [show N32 (c + 1) = N32 c + 1 from (nb_add c 1).symm, Int32.add_assoc, show (1 : Int32) + (-1 : Int32) = 0 by decide, Int32.add_zero]
theorem j_bits {S : ob_S} {B M m fr F w pt : Nat} {t : List Nat} {a0 : Int32} {k4 : Nat → Int32 → Int32 → ob_D → Option (Int32 × ob_D)} {k12 : Nat → Int32 → Int32 → ob_D → Option (Int32 × ob_D)} {i : Nat} (hi : i < t.length) : ∀ (c n1 n2 : Nat) (Dc Dm : ob_D) (z : sW) (v1 : Int32), c ≤ 8 → c < n1 → c < n2 → v1 + a0 = w_ac z → cC S Dc B m fr F w pt z t → mC S Dm M m fr F w pt z t → ∃ (Dc' Dm' : ob_D) (z' : sW) (v1' : Int32), f_Box_uplink_L29 S k4 n1 B v1 (N32 i) (N32 (t.getD i 0)) (N32 c + (-1 : Int32)) Dc = k4 B v1' (N32 i + 1) Dc' ∧ f_Model_uplink_L23 S k12 n2 M a0 (N32 i) (N32 c + (-1 : Int32)) Dm = k12 M a0 (N32 i + 1) Dm' ∧ v1' + a0 = w_ac z' ∧ cC S Dc' B m fr F w pt z' t ∧ mC S Dm' M m fr F w pt z' t ∧ w_ck z' = w_ck z ∧ og (cReg B m fr) Dc Dc' ∧ og (mAll M) Dm Dm' := by
  intro c
  induction c with
  | zero =>
    intro n1 n2 Dc Dm z v1 hc8 hn1 hn2 hv hc hm
    match n1, n2, hn1, hn2 with
    | n1 + 1, n2 + 1, _, _ =>
      refine ⟨Dc, Dm, z, v1, ?_, ?_, hv, hc, hm, rfl, og.rf, og.rf⟩
      · rw [f_Box_uplink_L29, if_pos (by decide)]
      · rw [f_Model_uplink_L23, if_pos (by decide)]
  | succ c ih =>
    intro n1 n2 Dc Dm z v1 hc8 hn1 hn2 hv hc hm
    match n1, n2, hn1, hn2 with
    | n1 + 1, n2 + 1, hn1, hn2 =>
      have hlt : ∀ x ∈ t, x < 256 := hc.2.1.2.2.2.2.2.2.2.2
      have he : t.getD i 0 < 256 := by_getD_lt hlt i
      have hl := hm.2.2.2
      have hnn : ¬ N32 c < 0 := by rw [show (0 : Int32) = N32 0 from rfl, nb_lt (by omega) (by decide)]; omega
      obtain ⟨acc, Dc1, Dm1, z1, u1, u2, u3, u4, u5, u6, u7, u8⟩ := j_bit hc hm (decide (t.getD i 0 / 2 ^ c % 2 = 1))
      have s1 : f_Box_uplink_L29 S k4 (n1 + 1) B v1 (N32 i) (N32 (t.getD i 0)) (N32 (c + 1) + (-1 : Int32)) Dc = (Bool.rec (f_Box_uplink_L29 S k4 n1 B v1 (N32 i) (N32 (t.getD i 0)) (N32 c + (-1 : Int32)) Dc1) (f_Box_uplink_L29 S k4 n1 B (v1 + 1) (N32 i) (N32 (t.getD i 0)) (N32 c + (-1 : Int32)) Dc1) acc : Option (Int32 × ob_D)) := by
        rw [nb_m1u, f_Box_uplink_L29, if_neg hnn, bit_c he (by omega)]
        exact u1 (fun a d => (Bool.rec (f_Box_uplink_L29 S k4 n1 B v1 (N32 i) (N32 (t.getD i 0)) (N32 c + (-1 : Int32)) d) (f_Box_uplink_L29 S k4 n1 B (v1 + 1) (N32 i) (N32 (t.getD i 0)) (N32 c + (-1 : Int32)) d) a : Option (Int32 × ob_D)))
      have s2 : f_Model_uplink_L23 S k12 (n2 + 1) M a0 (N32 i) (N32 (c + 1) + (-1 : Int32)) Dm = f_Model_uplink_L23 S k12 n2 M a0 (N32 i) (N32 c + (-1 : Int32)) Dm1 := by
        obtain ⟨⟨c', hmx⟩, ht⟩ := hm
        have a6 : Dm.2.1 M 6 = M + 1 ∧ S.2.1 (M + 1) = 4096 := hmx.1.mA.1 (6, 1, 4096) (by decide)
        have hb := ht.1.1 i hi
        rw [Nat.zero_add] at hb
        rw [nb_m1u, f_Model_uplink_L23, if_neg hnn, a6.1, if_pos (by omega), a6.2, if_pos (by rw [nb_in (by omega)]; omega), nb_clamp (by omega), hb, bit_m he (by omega)]
        generalize decide (t.getD i 0 / 2 ^ c % 2 = 1) = b at u2
        cases b with
        | false =>
          have u2 : f_Model_bit S M 0 Dm = some Dm1 := u2
          rw [if_pos (show bI false = 0 from rfl), u2]
          rfl
        | true =>
          have u2 : f_Model_bit S M 1 Dm = some Dm1 := u2
          rw [if_neg (show ¬ bI true = 0 by decide), u2]
          rfl
      rw [s1, s2]
      cases acc with
      | false =>
        have hv1 : v1 + a0 = w_ac z1 := by rw [u6, hv]; exact (Int32.add_zero _).symm
        obtain ⟨Dc', Dm', z', v1', r1, r2, r3, r4, r5, r6, r7, r8⟩ := ih n1 n2 Dc1 Dm1 z1 v1 (by omega) (by omega) (by omega) hv1 u3 u4
        exact ⟨Dc', Dm', z', v1', r1, r2, r3, r4, r5, r6.trans u5, u7.tr r7, u8.tr r8⟩
      | true =>
        have hv1 : (v1 + 1) + a0 = w_ac z1 := by
          rw [u6, ← hv, Int32.add_assoc, Int32.add_comm 1 a0, ← Int32.add_assoc]
          rfl
        obtain ⟨Dc', Dm', z', v1', r1, r2, r3, r4, r5, r6, r7, r8⟩ := ih n1 n2 Dc1 Dm1 z1 (v1 + 1) (by omega) (by omega) (by omega) hv1 u3 u4
        exact ⟨Dc', Dm', z', v1', r1, r2, r3, r4, r5, r6.trans u5, u7.tr r7, u8.tr r8⟩
theorem j_bytes {S : ob_S} {B M m fr F w pt : Nat} {t : List Nat} {a0 : Int32} : ∀ (d n1 n2 i : Nat) (Dc Dm : ob_D) (z : sW) (v1 : Int32), i + d = t.length → d < n1 → d < n2 → v1 + a0 = w_ac z → cC S Dc B m fr F w pt z t → mC S Dm M m fr F w pt z t → ∃ (x : Int32) (Dc' Dm' : ob_D) (z' : sW), f_Box_uplink_L4 S n1 B v1 (N32 i) Dc = some (x, Dc') ∧ f_Model_uplink_L12 S n2 M a0 (N32 i) Dm = some (x, Dm') ∧ cC S Dc' B m fr F w pt z' [] ∧ mC S Dm' M m fr F w pt z' [] ∧ w_ck z' = w_ck z ∧ og (cAll B m fr) Dc Dc' ∧ og (mAll M) Dm Dm' := by
  intro d
  induction d with
  | zero =>
    intro n1 n2 i Dc Dm z v1 hd hn1 hn2 hv hc hm
    match n1, n2, hn1, hn2 with
    | n1 + 1, n2 + 1, _, _ =>
      obtain ⟨hB, hw, hY⟩ := hc
      obtain ⟨⟨c', hmx⟩, ht⟩ := hm
      have hl := ht.2.2
      have hi' : i = t.length := by omega
      have g1 : og (fun y k => y = B + 1) Dc (ob_pI Dc (B + 1) 1 0) := og.pI rfl
      have g2 : oi (fun y k => (y = M ∧ k = 7) ∨ y = M + 1) Dm (ob_pI Dm M 7 0) := oi.pI (Or.inl ⟨rfl, rfl⟩)
      have ht' : mTp (ob_pI Dm M 7 0) M [] := ⟨⟨fun i hi => absurd hi (by simp), fun x hx => absurd hx (by simp)⟩, pI_self, by simp⟩
      have hac : Dm.1 M 17 = w_ac z := by
        obtain ⟨⟨st, nx, bs, wt, ag, rf, ac, q⟩, rc, A, on, ev, lm, ch, frs, rp, cr, fm, me⟩ := z
        exact hmx.1.2.1.2.2.2.2.2.2.2.2.2.2
      have hmx' : mX S (ob_pI Dm M 7 0) M m fr F w pt z c' := by
        obtain ⟨gt, rc, A, on, ev, lm, ch, frs, rp, cr, fm, me⟩ := z
        exact hmx.kp (hmx.1.uTp g2) g2 (by omega) (by omega) (by omega) (by omega)
      refine ⟨v1, _, _, z, ?_, ?_, ⟨hB.keep g1 (by omega), rw_nil hw, hY.kp g1 (by omega) (fun _ _ _ => rfl) (fun _ _ _ => rfl)⟩, ⟨⟨c', hmx'⟩, ht'⟩, rfl, g1.mono (fun y k e => by omega), (g2.mono (fun y k e => by omega)).up⟩
      · rw [f_Box_uplink_L4, hB.1, if_pos (by omega), hw.2.2.2.2.1, if_pos (by rw [nb_le (by omega) (by omega)]; omega), if_pos (by omega)]
      · rw [f_Model_uplink_L12, ht.2.1, if_pos (by rw [nb_le (by omega) (by omega)]; omega)]
        simp only [ob_lt]
        rw [pI_ne (by omega), hac, ← hv, Int32.add_sub_cancel]
  | succ d ih =>
    intro n1 n2 i Dc Dm z v1 hd hn1 hn2 hv hc hm
    match n1, n2, hn1, hn2 with
    | n1 + 1, n2 + 1, hn1, hn2 =>
      have hi : i < t.length := by omega
      have hl := hm.2.2.2
      obtain ⟨Dc1, Dm1, z1, v1', r1, r2, r3, r4, r5, r6, r7, r8⟩ := j_bits (k4 := fun a0 a1 a2 d => f_Box_uplink_L4 S n1 a0 a1 a2 d) (k12 := fun a0 a1 a2 d => f_Model_uplink_L12 S n2 a0 a1 a2 d) hi 8 ob_FU ob_FU Dc Dm z v1 (by decide) (by rw [ob_FU_eq]; omega) (by rw [ob_FU_eq]; omega) hv hc hm
      have e1 : N32 i + (1 : Int32) = N32 (i + 1) := nb_add _ 1
      rw [e1] at r1 r2
      have e7 : N32 8 + (-1 : Int32) = 7 := by decide
      rw [e7] at r1 r2
      obtain ⟨x, Dc', Dm', z', s1, s2, s3, s4, s5, s6, s7⟩ := ih n1 n2 (i + 1) Dc1 Dm1 z1 v1' (by omega) (by omega) (by omega) r3 r4 r5
      refine ⟨x, Dc', Dm', z', ?_, ?_, s3, s4, s5.trans r6, (r7.mono (fun y k e => by omega)).tr s6, r8.tr s7⟩
      · obtain ⟨hB, hw, hY⟩ := hc
        have hnum := rw_num hw (f := i) (c := 1) (by decide) (by omega)
        rw [nn_1] at hnum
        have hnum : f_Row_number S (B + 1) (N32 i) 1 Dc = some (N32 (t.getD i 0), Dc) := hnum
        rw [f_Box_uplink_L4, hB.1, if_pos (by omega), hw.2.2.2.2.1, if_neg (by rw [nb_le (by omega) (by omega)]; omega), if_pos (by omega), hnum]
        exact r1.trans s1
      · rw [f_Model_uplink_L12, hm.2.2.1, if_neg (by rw [nb_le (by omega) (by omega)]; omega)]
        exact r2.trans s2
theorem j_uplink {S : ob_S} {B M m fr F w pt : Nat} {Dc Dm : ob_D} {z : sW} {t : List Nat} (hc : cC S Dc B m fr F w pt z t) (hm : mC S Dm M m fr F w pt z t) : ∃ (x : Int32) (Dc' Dm' : ob_D) (z' : sW), f_Box_uplink S B Dc = some (x, Dc') ∧ f_Model_uplink S M Dm = some (x, Dm') ∧ cC S Dc' B m fr F w pt z' [] ∧ mC S Dm' M m fr F w pt z' [] ∧ w_ck z' = w_ck z ∧ og (cAll B m fr) Dc Dc' ∧ og (mAll M) Dm Dm' := by
  obtain ⟨h, g0⟩ := hm.five 0
  unfold f_Box_uplink f_Model_uplink
  simp only [ob_lt]
  generalize ob_pI Dm M 5 0 = D1 at h g0
  have hac : D1.1 M 17 = w_ac z := by
    obtain ⟨⟨c', hmx⟩, ht⟩ := h
    obtain ⟨⟨st, nx, bs, wt, ag, rf, ac, q⟩, rc, A, on, ev, lm, ch, frs, rp, cr, fm, me⟩ := z
    exact hmx.1.2.1.2.2.2.2.2.2.2.2.2.2
  have hl := h.2.2.2
  obtain ⟨x, Dc', Dm', z', s1, s2, s3, s4, s5, s6, s7⟩ := j_bytes (a0 := D1.1 M 17) t.length ob_FU ob_FU 0 Dc D1 z 0 (by omega) (by rw [ob_FU_eq]; omega) (by rw [ob_FU_eq]; omega) (by rw [hac]; exact Int32.zero_add _) hc h
  exact ⟨x, Dc', Dm', z', s1, s2, s3, s4, s5, s6, g0.up.tr s7⟩
theorem two_joint {S : ob_S} {D : ob_D} {B M m fr F w pt : Nat} {z : sW} {t : List Nat} {Q : sW → Prop} {fc fm : ob_D → Option (Int32 × ob_D)} (hM : B + 29 + 2 * m + 80 + 2 * fr + 14 ≤ M) (hm : mC S D M m fr F w pt z t) (J : ∀ Dm, mC S Dm M m fr F w pt z t → ∃ (x : Int32) (Dc' Dm' : ob_D) (z' : sW) (t' : List Nat), fc D = some (x, Dc') ∧ fm Dm = some (x, Dm') ∧ cC S Dc' B m fr F w pt z' t' ∧ mC S Dm' M m fr F w pt z' t' ∧ Q z' ∧ og (cAll B m fr) D Dc' ∧ og (mAll M) Dm Dm') : ∃ (x : Int32) (D1 D2 : ob_D) (z' : sW) (t' : List Nat), fc D = some (x, D1) ∧ fm D1 = some (x, D2) ∧ cC S D2 B m fr F w pt z' t' ∧ mC S D2 M m fr F w pt z' t' ∧ Q z' ∧ og (fun y _ => B ≤ y ∧ y < M + 50) D D2 := by
  obtain ⟨x, D1, -, -, -, a1, -, -, -, -, a6, -⟩ := J D hm
  obtain ⟨x', D1', D2, z', t', b1, b2, b3, b4, b5, b6, b7⟩ := J D1 (hm.kp a6 (fun y k u v => by omega) (fun _ _ _ => rfl))
  rw [a1] at b1
  cases b1
  exact ⟨x, D1, D2, z', t', a1, b2, b3.kp b7 (fun y k u v => by omega) (fun _ _ _ => rfl) (fun _ _ _ => rfl), b4, b5, (a6.mono (fun y k e => by omega)).tr (b7.mono (fun y k e => by omega))⟩
