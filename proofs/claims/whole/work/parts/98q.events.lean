-- ===== the events are worked, on both sides =====
def w_evt (w e : Nat) (x : Int32) (z : sW) : sW := w_rep w 5 (1 + e / 8) (by_be (N32 e) 1 ++ by_be x 4) z
theorem e_kind {e : Nat} (he : e < 32) : (1 : Int32) + N32 e / (8 : Int32) = N32 (1 + e / 8) := by
  rw [show (8 : Int32) = N32 8 from rfl, n_div _ _ (by omega) (by decide)]
  exact nb_add 1 _
theorem wc_evt {S : ob_S} {D : ob_D} {B m fr F w pt e : Nat} {z : sW} {c : List Nat} {x : Int32} (h : cX S D B m fr F w pt z c) (he : e < 32) : ∃ D', f_Handler_sendEvent S (B + 29 + 2 * m + 80 + 2 * fr + 9) (N32 e) x D = some D' ∧ cX S D' B m fr F w pt (w_evt w e x z) c ∧ og (cReg B m fr) D D' := by
  obtain ⟨hW, ⟨p, hp⟩, hc⟩ := h
  have hd := hW.hd
  obtain ⟨D5, b1, b2, b3, b4, b5⟩ := wc_begin hW hp hc (s := 5) (k := 1 + e / 8) (by decide) (by omega)
  obtain ⟨D9, a1, a2, a3, a4, a5⟩ := wc_add b2 b3 b4 (N32 e) (n := 1) (by decide) (by rw [w_hd_len]; decide)
  obtain ⟨D11, c1, c2, c3, c4, c5⟩ := wc_add a2 a3 a4 x (n := 4) (by decide) (by rw [List.length_append, w_hd_len, by_be_len]; decide)
  rw [List.append_assoc] at c3
  have hd11 := c2.hd
  obtain ⟨D', t1, t2, t3⟩ := wc_done c2 c3 c4 (by decide) (by rw [List.length_append, by_be_len, by_be_len]; decide)
  refine ⟨D', ?_, t2, ((b5.tr (cReg_pk a5)).tr (cReg_pk c5)).tr t3⟩
  unfold f_Handler_sendEvent
  have b1' : f_Reports_begin S (B + 29 + 2 * m + 80 + 2 * fr) 5 (N32 (1 + e / 8)) (D.1 (B + 29 + 2 * m + 80 + 2 * fr + 7) 8) D = some (B + 29 + 2 * m + 80 + 2 * fr + 3, D5) := b1
  have a1' : f_Row_add S (B + 29 + 2 * m + 80 + 2 * fr + 3) (N32 e) 1 D5 = some D9 := a1
  have c1' : f_Row_add S (B + 29 + 2 * m + 80 + 2 * fr + 3) x 4 D9 = some D11 := c1
  rw [hd.2.2.2.2.1, if_pos (by omega), hd.1, if_pos (by omega), e_kind he, b1']
  simp only [ob_bd]
  rw [if_pos hd.2.2.2.2.2.2.2.2.2, a1']
  simp only [ob_bv]
  rw [c1']
  simp only [ob_bv]
  rw [hd11.2.2.2.2.1, if_pos (by omega), t1]
theorem wm_evt {S : ob_S} {D : ob_D} {M m fr F w pt e : Nat} {z : sW} {c : List Nat} {x : Int32} (h : mX S D M m fr F w pt z c) (he : e < 32) (f : ob_D → Option ob_D) : ∃ D', (ob_bv (f_Model_report S M (5 : Int32) ((1 : Int32) + (N32 e / (8 : Int32))) D) fun D28 => ob_bv (f_Model_say S M (N32 e) D28) fun D30 => ob_bv (f_Model_sayFour S M x D30) fun D32 => ob_bv (f_Model_made S M D32) fun D34 => f D34) = f D' ∧ mX S D' M m fr F w pt (w_evt w e x z) c ∧ oi (mReg M) D D' := by
  obtain ⟨hW, ⟨p, hp⟩, hc⟩ := h
  obtain ⟨D1, b1, b2, b3, b4, b5⟩ := wm_begin hW hp hc (s := 5) (k := 1 + e / 8) (by decide) (by omega)
  obtain ⟨D2, a1, a2, a3, a4, a5⟩ := wm_say b2 b3 b4 (N32 e) (by rw [w_hd_len]; decide)
  obtain ⟨D3, c1, c2, c3, c4, c5⟩ := wm_say4 a2 a3 a4 x (by rw [List.length_append, w_hd_len, by_be_len]; decide)
  rw [List.append_assoc] at c3
  obtain ⟨D', t1, t2, t3⟩ := wm_done c2 c3 c4 (by decide) (by rw [List.length_append, by_be_len, by_be_len]; decide)
  have b1' : f_Model_report S M 5 (N32 (1 + e / 8)) D = some D1 := b1
  refine ⟨D', ?_, t2, ((b5.tr a5).tr c5).tr t3⟩
  rw [e_kind he, b1']
  simp only [ob_bv]
  rw [a1]
  simp only [ob_bv]
  rw [c1]
  simp only [ob_bv]
  rw [t1]
theorem wc_actn {S : ob_S} {D : ob_D} {B m fr F w pt e : Nat} {gt : sGt} {rc : sRc} {A : List sEn} {on : Bool} {rs : List (Nat × Int32)} {sl ha ao : Nat → Bool} {ac : Nat → List Nat} {lo : Int32} {lm : List sLm} {ch : sCh} {frs : List (List Nat)} {rp : sRp} {cr : sCr} {fm : List sFm} {me c : List Nat} (h : cX S D B m fr F w pt (gt, rc, A, on, (rs, sl, ha, ao, ac, lo), lm, ch, frs, rp, cr, fm, me) c) (he : e < 32) (h1 : ha e = true) (h2 : ao e = true) : ∃ D', f_Events_takeAction S (B + 29 + 2 * m) (N32 e) (B + 29 + 2 * m + 80 + 2 * fr + 12) D = some (1, D') ∧ cX S D' B m fr F w pt (gt, rc, A, on, (rs, sl, ha, ao, ac, lo), lm, ch, frs, rp, cr, fm, me) (ac e) ∧ og (cReg B m fr) D D' := by
  obtain ⟨hW, ⟨p, hp⟩, hc⟩ := h
  have hE : cEv S D (B + 29 + 2 * m) (rs, sl, ha, ao, ac, lo) := hW.2.2.2.1
  obtain ⟨D', t1, t2, t3⟩ := evc_act1 hE he hc (by decide) ⟨by omega, by omega⟩ h1 h2
  exact ⟨D', t1, ⟨hW.u0 (t3.up.mono (fun y k e => by omega)), ⟨p, hp.keep t3.up (by omega) (by omega) rfl⟩, t2⟩, t3.up.mono (fun y k e => by omega)⟩
theorem wm_actn {S : ob_S} {D : ob_D} {M m fr F w pt e : Nat} {gt : sGt} {rc : sRc} {A : List sEn} {on : Bool} {rs : List (Nat × Int32)} {sl ha ao : Nat → Bool} {ac : Nat → List Nat} {lo : Int32} {lm : List sLm} {ch : sCh} {frs : List (List Nat)} {rp : sRp} {cr : sCr} {fm : List sFm} {me c : List Nat} (h : mX S D M m fr F w pt (gt, rc, A, on, (rs, sl, ha, ao, ac, lo), lm, ch, frs, rp, cr, fm, me) c) (he : e < 32) (h1 : ha e = true) : ∃ D', f_Model_take S M (M + 31) ((260 : Int32) * N32 e) (D.1 (M + 32) e) D = some D' ∧ mX S D' M m fr F w pt (gt, rc, A, on, (rs, sl, ha, ao, ac, lo), lm, ch, frs, rp, cr, fm, me) (ac e) ∧ oi (mReg M) D D' := by
  obtain ⟨hW, ⟨p, hp⟩, hc⟩ := h
  have hE : mEv D M (rs, sl, ha, ao, ac, lo) := hW.2.2.2.2.1
  have hm := (hE.2.1 e he).2.2.2 h1
  have a63 : D.2.1 M 63 = M + 31 ∧ S.2.1 (M + 31) = 8320 := hW.1.1 (63, 31, 8320) (by decide)
  have hl := hm.2.1
  obtain ⟨D1, t1, t2, t3⟩ := mcm_take hW.1 hm.2.2 (by rw [a63.2]; omega) (by rw [a63.2]; omega) hl (by omega)
  refine ⟨D1, ?_, ⟨hW.u0 (t3.mono (fun y k e => by omega)), ⟨p, hp.keep t3.up (by omega) (by omega)⟩, t2⟩, t3.mono (fun y k e => by omega)⟩
  rw [hm.1, show (260 : Int32) * N32 e = N32 (260 * e) from nb_mul 260 e]
  exact t1
theorem wm_pop {S : ob_S} {D : ob_D} {M m fr F w pt e n : Nat} {x v1 : Int32} {k2 : Nat → Int32 → ob_D → Option ob_D} {gt : sGt} {rc : sRc} {A : List sEn} {on : Bool} {rs : List (Nat × Int32)} {sl ha ao : Nat → Bool} {ac : Nat → List Nat} {lo : Int32} {lm : List sLm} {ch : sCh} {frs : List (List Nat)} {rp : sRp} {cr : sCr} {fm : List sFm} {me c : List Nat} (h : mX S D M m fr F w pt (gt, rc, A, on, ((e, x) :: rs, sl, ha, ao, ac, lo), lm, ch, frs, rp, cr, fm, me) c) (hn : rs.length < n) : ∃ D', f_Model_workEvents_L42 S k2 n M v1 (N32 e) x 0 (ob_pI D M 67 (D.1 M 67 - 1)) = f_Model_workEvents_L42 S k2 1 M v1 (N32 e) x (N32 rs.length) D' ∧ mX S D' M m fr F w pt (gt, rc, A, on, (rs, sl, ha, ao, ac, lo), lm, ch, frs, rp, cr, fm, me) c ∧ oi (mReg M) D D' := by
  have hE : mEv D M ((e, x) :: rs, sl, ha, ao, ac, lo) := h.1.2.2.2.2.1
  obtain ⟨⟨r1, r2, r3, r4⟩, hM, hL⟩ := hE
  have r1 : D.1 M 67 = N32 (rs.length + 1) := r1
  have r2 : rs.length + 1 ≤ 64 := r2
  have g1 : oi (fun y k => y = M ∧ k = 67) D (ob_pI D M 67 (D.1 M 67 - 1)) := oi.pI ⟨rfl, rfl⟩
  have v67 : (ob_pI D M 67 (D.1 M 67 - 1)).1 M 67 = N32 rs.length := by
    rw [pI_self, r1]
    exact nb_sub (a := rs.length + 1) (b := 1) (by omega)
  generalize ob_pI D M 67 (D.1 M 67 - 1) = D1 at g1 v67
  obtain ⟨D', t1, t2, t3⟩ := evm_pop (S := S) (M := M) (e := e) (x := x) (rs := rs) (k2 := k2) (v1 := v1) rs.length n 0 D1 (by omega) hn (h.1.1.kp g1) (by omega) v67 (fun i hi => by
    rw [if_neg (by omega), if_neg (by omega), g1.2 _ _ (by omega), g1.2 _ _ (by omega)]
    exact r3 i hi)
  have gA : oi (fun y k => (y = M ∧ k = 67) ∨ y = M + 33 ∨ y = M + 34) D D' := g1.tr2 t3 (fun y k e => by omega) (fun y k e => by omega)
  have hE' : mEv D' M (rs, sl, ha, ao, ac, lo) := ⟨⟨by rw [t3.2 _ _ (by omega)]; exact v67, by omega, t2, fun p hp => r4 p (List.mem_cons_of_mem _ hp)⟩, hM.keep gA.up (by omega), by rw [gA.2 _ _ (by omega)]; exact hL⟩
  exact ⟨D', t1, h.kp (h.1.uEv (gA.mono (fun y k e => by omega)) hE') gA (by omega) (by omega) (by omega) (by omega), gA.mono (fun y k e => by omega)⟩
theorem rep_ev (w s k : Nat) (body : List Nat) (z : sW) : (w_rep w s k body z).2.2.2.2.1 = z.2.2.2.2.1 := by
  obtain ⟨gt, rc, A, on, ev, lm, ⟨lv, rv, so, al'⟩, frs, rp, cr, fm, me⟩ := z
  show ev = ev
  rfl
theorem j_act {S : ob_S} {B M m fr F w pt e : Nat} {Dc Dm : ob_D} {z zf : sW} {j : Nat} {kc km : Nat → Int32 → ob_D → Option ob_D} (he : e < 32) (hc : cY S Dc B m fr F w pt z) (hm : mY S Dm M m fr F w pt z) (hk : ∀ Dc1 Dm1 z1, cY S Dc1 B m fr F w pt z1 → mY S Dm1 M m fr F w pt z1 → w_ck z1 = w_ck z → ∃ Dc' Dm' z', kc (B + 29 + 2 * m + 80 + 2 * fr + 9) (N32 (j + 1)) Dc1 = some Dc' ∧ km M (N32 (j + 1)) Dm1 = some Dm' ∧ cY S Dc' B m fr F w pt z' ∧ mY S Dm' M m fr F w pt z' ∧ w_ck z' = w_ck zf ∧ og (cReg B m fr) Dc1 Dc' ∧ oi (mReg M) Dm1 Dm') : ∃ Dc' Dm' z', f_Handler_workEvents_L60 S kc (B + 29 + 2 * m + 80 + 2 * fr + 9) (N32 j) (N32 e) Dc = some Dc' ∧ f_Model_workEvents_L123 S km M (N32 j) (N32 e) Dm = some Dm' ∧ cY S Dc' B m fr F w pt z' ∧ mY S Dm' M m fr F w pt z' ∧ w_ck z' = w_ck zf ∧ og (cReg B m fr) Dc Dc' ∧ oi (mReg M) Dm Dm' := by
  obtain ⟨c, hc⟩ := hc
  obtain ⟨c', hm⟩ := hm
  obtain ⟨gt, rc, A, on, ⟨rs, sl, ha, ao, ac, lo⟩, lm, ch, frs, rp, cr, fm, me⟩ := z
  have hH := hc.1.hd
  have hA := hm.1.1
  have hEc : cEv S Dc (B + 29 + 2 * m) (rs, sl, ha, ao, ac, lo) := hc.1.2.2.2.1
  have hEm : mEv Dm M (rs, sl, ha, ao, ac, lo) := hm.1.2.2.2.2.1
  have hEe := hEm.2.1 e he
  have a61 : Dm.2.1 M 61 = M + 29 ∧ S.2.1 (M + 29) = 32 := hA.1 (61, 29, 32) (by decide)
  have a62 : Dm.2.1 M 62 = M + 30 ∧ S.2.1 (M + 30) = 32 := hA.1 (62, 30, 32) (by decide)
  have a63 : Dm.2.1 M 63 = M + 31 ∧ S.2.1 (M + 31) = 8320 := hA.1 (63, 31, 8320) (by decide)
  have a64 : Dm.2.1 M 64 = M + 32 ∧ S.2.1 (M + 32) = 32 := hA.1 (64, 32, 32) (by decide)
  have hin : ob_in (N32 e) 32 := by rw [nb_in (by omega)]; exact he
  have hcp : (N32 e).toNatClampNeg = e := nb_clamp (by omega)
  have e1 : N32 j + (1 : Int32) = N32 (j + 1) := nb_add _ 1
  have hms : f_Model_workEvents_L123 S km M (N32 j) (N32 e) Dm = (if bI (ha e) = 0 then km M (N32 (j + 1)) Dm else (if bI (ao e) = 0 then km M (N32 (j + 1)) Dm else ob_bv (f_Model_take S M (M + 31) ((260 : Int32) * N32 e) (Dm.1 (M + 32) e) Dm) fun D24 => ob_bv (f_Model_handle S M D24) fun D26 => km M (N32 (j + 1)) D26)) := by
    unfold f_Model_workEvents_L123
    simp only [hcp]
    rw [a61.1, if_pos (by omega), a61.2, if_pos hin, hEe.2.1, a62.1, if_pos (show M + 30 ≠ 0 by omega), a62.2, if_pos hin, hEe.2.2.1, a63.1, if_pos (show M + 31 ≠ 0 by omega), a64.1, if_pos (show M + 32 ≠ 0 by omega), a64.2, if_pos hin, e1]
  have hno : (ha e && ao e) = false → ∃ Dc' Dm' z', f_Handler_workEvents_L60 S kc (B + 29 + 2 * m + 80 + 2 * fr + 9) (N32 j) (N32 e) Dc = some Dc' ∧ km M (N32 (j + 1)) Dm = some Dm' ∧ cY S Dc' B m fr F w pt z' ∧ mY S Dm' M m fr F w pt z' ∧ w_ck z' = w_ck zf ∧ og (cReg B m fr) Dc Dc' ∧ oi (mReg M) Dm Dm' := by
    intro h0
    obtain ⟨Dc', Dm', z', r1, r2, r3⟩ := hk Dc Dm _ ⟨c, hc⟩ ⟨c', hm⟩ rfl
    refine ⟨Dc', Dm', z', ?_, r2, r3⟩
    unfold f_Handler_workEvents_L60
    rw [hH.2.2.2.1, if_pos (by omega), hH.2.2.2.2.2.2.2.2.1, if_pos (by omega), evc_act0 hEc he h0]
    simp only [ob_bd]
    rw [if_pos trivial, e1]
    exact r1
  rw [hms]
  cases h1 : ha e with
  | false =>
    rw [if_pos (show bI false = 0 from rfl)]
    exact hno (by rw [h1]; rfl)
  | true =>
    rw [if_neg (show ¬ bI true = 0 by decide)]
    cases h2 : ao e with
    | false =>
      rw [if_pos (show bI false = 0 from rfl)]
      exact hno (by rw [h1, h2]; rfl)
    | true =>
      rw [if_neg (show ¬ bI true = 0 by decide)]
      obtain ⟨Dc1, t1, t2, t3⟩ := wc_actn hc he h1 h2
      obtain ⟨Dm1, s1, s2, s3⟩ := wm_actn hm he h1
      obtain ⟨Dc2, Dm2, z2, u1, u2, u3, u4, u5, u6, u7⟩ := j_handle2 t2 s2
      obtain ⟨Dc', Dm', z', r1, r2, r3, r4, r5, r6, r7⟩ := hk Dc2 Dm2 z2 ⟨_, u3⟩ ⟨_, u4⟩ u5.1
      rw [s1]
      simp only [ob_bv]
      rw [u2]
      simp only [ob_bv]
      refine ⟨Dc', Dm', z', ?_, r2, r3, r4, r5, (t3.tr u6).tr r6, (s3.tr u7).tr r7⟩
      unfold f_Handler_workEvents_L60
      rw [hH.2.2.2.1, if_pos (by omega), hH.2.2.2.2.2.2.2.2.1, if_pos (by omega), t1]
      simp only [ob_bd]
      rw [if_neg (by decide), u1]
      simp only [ob_bv]
      rw [e1]
      exact r1
theorem j_events {S : ob_S} {B M m fr F w pt : Nat} : ∀ (d n1 n2 j : Nat) (Dc Dm : ob_D) (z : sW), j + d = 64 → d < n1 → d < n2 → cY S Dc B m fr F w pt z → mY S Dm M m fr F w pt z → ∃ Dc' Dm' z', f_Handler_workEvents_L2 S n1 (B + 29 + 2 * m + 80 + 2 * fr + 9) (N32 j) Dc = some Dc' ∧ f_Model_workEvents_L2 S n2 M (N32 j) Dm = some Dm' ∧ cY S Dc' B m fr F w pt z' ∧ mY S Dm' M m fr F w pt z' ∧ w_ck z' = w_ck z ∧ og (cReg B m fr) Dc Dc' ∧ oi (mReg M) Dm Dm' := by
  have hlose : ∀ (Dc Dm : ob_D) (z : sW), cY S Dc B m fr F w pt z → mY S Dm M m fr F w pt z → ∃ Dc' Dm' z', f_Events_loseRest S (B + 29 + 2 * m) Dc = some Dc' ∧ f_Model_workEvents_L170 S M Dm = some Dm' ∧ cY S Dc' B m fr F w pt z' ∧ mY S Dm' M m fr F w pt z' ∧ w_ck z' = w_ck z ∧ og (cReg B m fr) Dc Dc' ∧ oi (mReg M) Dm Dm' := by
    intro Dc Dm z hc hm
    obtain ⟨c, hc⟩ := hc
    obtain ⟨c', hm⟩ := hm
    obtain ⟨gt, rc, A, on, ev, lm, ch, frs, rp, cr, fm, me⟩ := z
    obtain ⟨Dc', t1, t2, t3⟩ := evc_lose (show cEv S Dc (B + 29 + 2 * m) ev from hc.1.2.2.2.1)
    obtain ⟨Dm', s1, s2, s3⟩ := evm_lose (S := S) (show mEv Dm M ev from hm.1.2.2.2.2.1)
    have hx := cW.keepX hc (hc.1.uEv (t3.mono (fun y k e => by unfold evP at e; omega)) t2) t3 (fun k e => by unfold evP at e; omega) (fun k e => by unfold evP at e; omega) (fun k e => by unfold evP at e; omega) (fun k e => by unfold evP at e; omega) (fun y k e => by unfold evP at e; omega)
    exact ⟨Dc', Dm', (gt, rc, A, on, ev_lose ev, lm, ch, frs, rp, cr, fm, me), t1, s1, ⟨c, hx.1⟩, ⟨c', hm.kp (hm.1.uEv (s3.mono (fun y k e => by unfold evmP at e; omega)) s2) s3 (by unfold evmP; omega) (by unfold evmP; omega) (by unfold evmP; omega) (by unfold evmP; omega)⟩, rfl, hx.2, s3.mono (fun y k e => by unfold evmP at e; omega)⟩
  intro d
  induction d with
  | zero =>
    intro n1 n2 j Dc Dm z hj hn1 hn2 hc hm
    match n1, n2, hn1, hn2 with
    | n1 + 1, n2 + 1, _, _ =>
      have hj' : j = 64 := by omega
      obtain ⟨Dc', Dm', z', r1, r2, r3⟩ := hlose Dc Dm z hc hm
      refine ⟨Dc', Dm', z', ?_, ?_, r3⟩
      · obtain ⟨c, hc⟩ := hc
        rw [f_Handler_workEvents_L2, if_pos (by rw [hj']; decide), hc.1.hd.2.2.2.1, if_pos (by omega), r1]
        rfl
      · rw [f_Model_workEvents_L2, if_pos (by rw [hj']; decide)]
        exact r2
  | succ d ih =>
    intro n1 n2 j Dc Dm z hj hn1 hn2 hc hm
    match n1, n2, hn1, hn2 with
    | n1 + 1, n2 + 1, hn1, hn2 =>
      have hlz := hlose Dc Dm z hc hm
      obtain ⟨c, hc⟩ := hc
      obtain ⟨c', hm⟩ := hm
      obtain ⟨gt, rc, A, on, ⟨rs, sl, ha, ao, ac, lo⟩, lm, ch, frs, rp, cr, fm, me⟩ := z
      have hH := hc.1.hd
      have hA := hm.1.1
      have hEc : cEv S Dc (B + 29 + 2 * m) (rs, sl, ha, ao, ac, lo) := hc.1.2.2.2.1
      have hEm : mEv Dm M (rs, sl, ha, ao, ac, lo) := hm.1.2.2.2.2.1
      have hcnt : Dc.1 (B + 29 + 2 * m + 1) 2 = N32 (2 * rs.length) := by
        have := hEc.2.1.1.2.2.2.2.2.2.2.1
        rw [ev_fl_len] at this
        exact this
      have hr64 := hEc.2.1.2.1
      rcases rs with _ | ⟨⟨e, x⟩, rs⟩
      · obtain ⟨Dc', Dm', z', r1, r2, r3⟩ := hlz
        refine ⟨Dc', Dm', z', ?_, ?_, r3⟩
        · rw [f_Handler_workEvents_L2, if_neg (by rw [show (64 : Int32) = N32 64 from rfl, nb_le (by omega) (by omega)]; omega), hH.2.2.2.1, if_pos (by omega), hEc.1.1, if_pos (by omega), hcnt, if_pos (by decide), if_pos (by omega), r1]
          rfl
        · have h67 : Dm.1 M 67 = N32 0 := hEm.1.1
          rw [f_Model_workEvents_L2, if_neg (by rw [show (64 : Int32) = N32 64 from rfl, nb_le (by omega) (by omega)]; omega), h67, if_pos (by decide)]
          exact r2
      · have he : e < 32 := hEm.1.2.2.2 (e, x) (List.mem_cons_self ..)
        have hr64 : rs.length + 1 ≤ 64 := hr64
        have hcnt : Dc.1 (B + 29 + 2 * m + 1) 2 = N32 (2 * (rs.length + 1)) := hcnt
        have h67 : Dm.1 M 67 = N32 (rs.length + 1) := hEm.1.1
        have h33 : Dm.1 (M + 33) (0 : Int32).toNatClampNeg = N32 e := (hEm.1.2.2.1 0 (by simp)).1
        have h34 : Dm.1 (M + 34) (0 : Int32).toNatClampNeg = x := (hEm.1.2.2.1 0 (by simp)).2
        have a65 : Dm.2.1 M 65 = M + 33 ∧ S.2.1 (M + 33) = 64 := hA.1 (65, 33, 64) (by decide)
        have a66 : Dm.2.1 M 66 = M + 34 ∧ S.2.1 (M + 34) = 64 := hA.1 (66, 34, 64) (by decide)
        have a60 : Dm.2.1 M 60 = M + 28 ∧ S.2.1 (M + 28) = 32 := hA.1 (60, 28, 32) (by decide)
        -- the class takes the oldest
        obtain ⟨D1, D2, p1, p2, p3, p4, p5⟩ := evc_pop hEc
        have hx2 := cW.keepX hc (hc.1.uEv (p5.up.mono (fun y k e => by omega)) p4) p5.up (by omega) (by omega) (by omega) (by omega) (fun y k e => by omega)
        obtain ⟨hx2, gx2⟩ := hx2
        -- the reference takes the oldest
        obtain ⟨Dm2, q1, q2, q3⟩ := wm_pop (n := ob_FU) (v1 := N32 j) (k2 := fun a0 a1 d => f_Model_workEvents_L2 S n2 a0 a1 d) hm (by rw [ob_FU_eq]; omega)
        have hIH : ∀ (zz : sW) (Dc1 Dm1 : ob_D) (z1 : sW), cY S Dc1 B m fr F w pt z1 → mY S Dm1 M m fr F w pt z1 → w_ck z1 = w_ck zz → ∃ Dc' Dm' z', f_Handler_workEvents_L2 S n1 (B + 29 + 2 * m + 80 + 2 * fr + 9) (N32 (j + 1)) Dc1 = some Dc' ∧ f_Model_workEvents_L2 S n2 M (N32 (j + 1)) Dm1 = some Dm' ∧ cY S Dc' B m fr F w pt z' ∧ mY S Dm' M m fr F w pt z' ∧ w_ck z' = w_ck zz ∧ og (cReg B m fr) Dc1 Dc' ∧ oi (mReg M) Dm1 Dm' := by
          intro zz Dc1 Dm1 z1 h1 h2 h3
          obtain ⟨Dc', Dm', z', r1, r2, r3, r4, r5, r6⟩ := ih n1 n2 (j + 1) Dc1 Dm1 z1 (by omega) (by omega) (by omega) h1 h2
          exact ⟨Dc', Dm', z', r1, r2, r3, r4, r5.trans h3, r6⟩
        have hH2 := hx2.1.hd
        have hE2 : cEv S D2 (B + 29 + 2 * m) (rs, sl, ha, ao, ac, lo) := p4
        have hEm2 : mEv Dm2 M (rs, sl, ha, ao, ac, lo) := q2.1.2.2.2.2.1
        have b60 : Dm2.2.1 M 60 = M + 28 := by rw [q3.1]; exact a60.1
        have hin : ob_in (N32 e) 32 := by rw [nb_in (by omega)]; exact he
        have hv28 : Dm2.1 (M + 28) (N32 e).toNatClampNeg = bI (!(sl e)) := by
          rw [nb_clamp (by omega)]
          exact (hEm2.2.1 e he).1
        have v67 : Dm2.1 M 67 = N32 rs.length := hEm2.1.1
        have hcs : f_Handler_workEvents_L2 S (n1 + 1) (B + 29 + 2 * m + 80 + 2 * fr + 9) (N32 j) Dc = (if bI (!(sl e)) = 0 then f_Handler_workEvents_L60 S (fun a0 a1 d => f_Handler_workEvents_L2 S n1 a0 a1 d) (B + 29 + 2 * m + 80 + 2 * fr + 9) (N32 j) (N32 e) D2 else ob_bv (f_Handler_sendEvent S (B + 29 + 2 * m + 80 + 2 * fr + 9) (N32 e) x D2) fun D41 => f_Handler_workEvents_L60 S (fun a0 a1 d => f_Handler_workEvents_L2 S n1 a0 a1 d) (B + 29 + 2 * m + 80 + 2 * fr + 9) (N32 j) (N32 e) D41) := by
          rw [f_Handler_workEvents_L2, if_neg (by rw [show (64 : Int32) = N32 64 from rfl, nb_le (by omega) (by omega)]; omega), hH.2.2.2.1, if_pos (by omega), hEc.1.1, if_pos (by omega), hcnt, if_neg (by rw [show (0 : Int32) = N32 0 from rfl, nb_le (by omega) (by omega)]; omega), if_pos (by omega), if_pos (by omega), p1]
          simp only [ob_bd]
          rw [p3, hH.2.2.2.1, if_pos (by omega), hEc.1.1, if_pos (by omega), p2]
          simp only [ob_bd]
          rw [hH2.2.2.2.1, if_pos (by omega), evc_told hE2 he]
        have hms : f_Model_workEvents_L2 S (n2 + 1) M (N32 j) Dm = (if bI (!(sl e)) = 0 then f_Model_workEvents_L123 S (fun a0 a1 d => f_Model_workEvents_L2 S n2 a0 a1 d) M (N32 j) (N32 e) Dm2 else ob_bv (f_Model_report S M (5 : Int32) ((1 : Int32) + (N32 e / (8 : Int32))) Dm2) fun D28 => ob_bv (f_Model_say S M (N32 e) D28) fun D30 => ob_bv (f_Model_sayFour S M x D30) fun D32 => ob_bv (f_Model_made S M D32) fun D34 => f_Model_workEvents_L123 S (fun a0 a1 d => f_Model_workEvents_L2 S n2 a0 a1 d) M (N32 j) (N32 e) D34) := by
          rw [f_Model_workEvents_L2, if_neg (by rw [show (64 : Int32) = N32 64 from rfl, nb_le (by omega) (by omega)]; omega), if_neg (by rw [h67, show (0 : Int32) = N32 0 from rfl, nb_le (by omega) (by omega)]; omega), a65.1, if_pos (by omega), a65.2, if_pos (by decide), a66.1, if_pos (by omega), a66.2, if_pos (by decide), h33, h34]
          simp only [ob_lt]
          rw [q1, f_Model_workEvents_L42, v67, if_pos (by rw [nb_le (by omega) (by omega)]; omega), b60, if_pos (by omega), a60.2, if_pos hin, hv28]
        rw [hcs, hms]
        by_cases ht : bI (!(sl e)) = 0
        · rw [if_pos ht, if_pos ht]
          obtain ⟨Dc', Dm', z', r1, r2, r3, r4, r5, r6, r7⟩ := j_act (zf := (gt, rc, A, on, (rs, sl, ha, ao, ac, lo), lm, ch, frs, rp, cr, fm, me)) (j := j) (kc := fun a0 a1 d => f_Handler_workEvents_L2 S n1 a0 a1 d) (km := fun a0 a1 d => f_Model_workEvents_L2 S n2 a0 a1 d) he ⟨c, hx2⟩ ⟨c', q2⟩ (hIH _)
          exact ⟨Dc', Dm', z', r1, r2, r3, r4, r5, gx2.tr r6, q3.tr r7⟩
        · rw [if_neg ht, if_neg ht]
          obtain ⟨D41, t1, t2, t3⟩ := wc_evt (x := x) hx2 he
          obtain ⟨Dm41, s1, s2, s3⟩ := wm_evt (x := x) q2 he (fun D34 => f_Model_workEvents_L123 S (fun a0 a1 d => f_Model_workEvents_L2 S n2 a0 a1 d) M (N32 j) (N32 e) D34)
          rw [t1, s1]
          simp only [ob_bv]
          have hck : w_ck (w_evt w e x (gt, rc, A, on, (rs, sl, ha, ao, ac, lo), lm, ch, frs, rp, cr, fm, me)) = w_ck (gt, rc, A, on, (rs, sl, ha, ao, ac, lo), lm, ch, frs, rp, cr, fm, me) := (rep_nd _ _ _ _ _).2
          obtain ⟨Dc', Dm', z', r1, r2, r3, r4, r5, r6, r7⟩ := j_act (zf := w_evt w e x (gt, rc, A, on, (rs, sl, ha, ao, ac, lo), lm, ch, frs, rp, cr, fm, me)) (j := j) (kc := fun a0 a1 d => f_Handler_workEvents_L2 S n1 a0 a1 d) (km := fun a0 a1 d => f_Model_workEvents_L2 S n2 a0 a1 d) he ⟨c, t2⟩ ⟨c', s2⟩ (hIH _)
          exact ⟨Dc', Dm', z', r1, r2, r3, r4, r5.trans hck, (gx2.tr t3).tr r6, (q3.tr s3).tr r7⟩
