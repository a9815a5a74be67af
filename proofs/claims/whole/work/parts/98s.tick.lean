-- ===== what goes down, on both sides =====
theorem cW.uRt {S : ob_S} {D D' : ob_D} {B m fr F w pt : Nat} {gt : sGt} {rc : sRc} {A : List sEn} {on : Bool} {ev : sEv} {lm : List sLm} {lv rv : List Nat} {so : Nat → Nat} {al : Nat} {frs : List (List Nat)} {rp : sRp} {cr : sCr} {fm : List sFm} {me : List Nat} {rp' : sRp} {rv' : List Nat} (h : cW S D B m fr F w pt (gt, rc, A, on, ev, lm, (lv, rv, so, al), frs, rp, cr, fm, me)) (a : og (fun y _ => y = B + 109 + 2 * m + 2 * fr ∨ y = B + 105 + 2 * m ∨ y = B + 106 + 2 * m) D D') (hn : cRp S D' (B + 29 + 2 * m + 80 + 2 * fr) (B + 29 + 2 * m + 74) w rp') (hl : rgN S D' (B + 29 + 2 * m + 76) (B + 29 + 2 * m + 77) 4096 rv') (hlt : ∀ x ∈ rv', x < 512) : cW S D' B m fr F w pt (gt, rc, A, on, ev, lm, (lv, rv', so, al), frs, rp', cr, fm, me) := by
  obtain ⟨h1, h2, h3, h4, h5, h6, h7, h8, h9, h10, h11, h12⟩ := h
  obtain ⟨d1, ⟨e1, e2, e3, e4, e5, e6⟩, d3, d4⟩ := h6
  exact ⟨h1.keep a (by omega) (fun _ _ _ => rfl), h2.keep a (by omega) (fun _ _ _ => rfl), h3.keep a (by omega) (fun _ _ _ => rfl), h4.keep a (by omega) (fun _ _ _ => rfl), h5.keep a (by omega) (by omega) rfl, ⟨d1.keep a (by omega) (by omega) rfl rfl, ⟨rg_at.keep e1 a (by omega) (by omega) rfl, hl, e3, hlt, fun v hv => by rw [(a _ _ (by omega)).1]; exact e5 v hv, by rw [(a _ _ (by omega)).1]; exact e6⟩, d3.keep a (by omega) (fun _ _ _ => rfl), by rw [(a _ _ (by omega)).1]; exact d4⟩, hn, h8.keep a (by omega) rfl, h9.keep a (by omega) (by omega), h10.keep a (by omega) (by omega) rfl, h11.keep a (by omega) (by omega) rfl, h12.keep a (by omega) rfl⟩
theorem mW.uRt {S : ob_S} {D D' : ob_D} {M m fr F w pt : Nat} {gt : sGt} {rc : sRc} {A : List sEn} {on : Bool} {ev : sEv} {lm : List sLm} {lv rv : List Nat} {so : Nat → Nat} {al : Nat} {frs : List (List Nat)} {rp : sRp} {cr : sCr} {fm : List sFm} {me : List Nat} {rp' : sRp} {rv' : List Nat} (h : mW S D M m fr F w pt (gt, rc, A, on, ev, lm, (lv, rv, so, al), frs, rp, cr, fm, me)) (a : oi (fun y k => (y = M ∧ (k = 80 ∨ k = 83)) ∨ (y = M + 47 ∧ k = 1) ∨ y = M + 43 ∨ y = M + 46) D D') (hn : mRp D' M w rp') (hl : mCh D' M 1 rv') (hlt : rv'.length ≤ 4096) : mW S D' M m fr F w pt (gt, rc, A, on, ev, lm, (lv, rv', so, al), frs, rp', cr, fm, me) := by
  obtain ⟨h1, h2, h3, h4, h5, h6, ⟨⟨e1, e2, e3, e4⟩, e5, e6⟩, h8, h9, h10, h11, h12, h13⟩ := h
  exact ⟨h1.kp a, h2.keep a.up (fun y k e => by unfold mGtP at e; omega) (by omega) (fun _ _ _ => rfl), h3.keep a.up (fun y k e => by unfold mRcP at e; omega) (by omega) (fun _ _ _ => rfl), h4.keep a.up (by omega) (by omega) (by omega), h5.keep a.up (by omega) (by omega) (by omega), h6.keep a.up (by omega) (by omega), ⟨⟨e1.keep a.up (by omega) (by omega) (by omega), hl, fun v hv => by rw [a.2 _ _ (by omega)]; exact e3 v hv, by rw [a.2 _ _ (by omega)]; exact e4⟩, e5, hlt⟩, h8.keep a.up (by omega), hn, h10.keep a.up (by omega) (by omega) (by omega), h11.keep a.up (by omega) (by omega), ⟨h12.1.keep a.up (fun k _ _ => by omega), h12.2⟩, ⟨by rw [a.2 _ _ (by omega)]; exact h13.1, by rw [a.2 _ _ (by omega)]; exact h13.2.1, by rw [a.2 _ _ (by omega)]; exact h13.2.2.1, by rw [a.2 _ _ (by omega)]; exact h13.2.2.2⟩⟩
theorem mW.uDn {S : ob_S} {D D' : ob_D} {M m fr F w pt : Nat} {gt : sGt} {rc : sRc} {A : List sEn} {on : Bool} {ev : sEv} {lm : List sLm} {ch : sCh} {frs : List (List Nat)} {rp : sRp} {cr : sCr} {fm : List sFm} {me : List Nat} {ch' : sCh} {frs' : List (List Nat)} (h : mW S D M m fr F w pt (gt, rc, A, on, ev, lm, ch, frs, rp, cr, fm, me)) (a : oi (fun y k => (y = M ∧ (k = 88 ∨ k = 89)) ∨ (M + 42 ≤ y ∧ y ≤ M + 43) ∨ (M + 45 ≤ y ∧ y ≤ M + 49)) D D') (hn : mDnC D' M ch' ∧ ch'.1.length ≤ 4096 ∧ ch'.2.1.length ≤ 4096) (hr : mDnR D' M F frs') (h88 : D'.1 M 88 = N32 frs'.length) : mW S D' M m fr F w pt (gt, rc, A, on, ev, lm, ch', frs', rp, cr, fm, me) := by
  obtain ⟨h1, h2, h3, h4, h5, h6, h7, h8, h9, h10, h11, h12, h13⟩ := h
  exact ⟨h1.kp a, h2.keep a.up (fun y k e => by unfold mGtP at e; omega) (by omega) (fun _ _ _ => rfl), h3.keep a.up (fun y k e => by unfold mRcP at e; omega) (by omega) (fun _ _ _ => rfl), h4.keep a.up (by omega) (by omega) (by omega), h5.keep a.up (by omega) (by omega) (by omega), h6.keep a.up (by omega) (by omega), hn, hr, h9.keep a.up (by omega) (by omega) (by omega), h10.keep a.up (by omega) (by omega) (by omega), h11.keep a.up (by omega) (by omega), ⟨h12.1.keep a.up (fun k _ _ => by omega), h12.2⟩, ⟨by rw [a.2 _ _ (by omega)]; exact h13.1, by rw [a.2 _ _ (by omega)]; exact h13.2.1, by rw [a.2 _ _ (by omega)]; exact h13.2.2.1, h88⟩⟩
def c_out (S : ob_S) (B m fr : Nat) (D : ob_D) : Option (Int32 × ob_D) := ob_bv (f_Reports_retrieve S (B + 29 + 2 * m + 80 + 2 * fr) (B + 29 + 2 * m + 76) D) fun D36 => ob_bd (f_Gate_asWord S (B + 8) D36) fun x44 D42 => ob_bd (f_Downlink_sendFrames S (B + 29 + 2 * m + 73) x44 D42) fun x47 D45 => some (x47, D45)
theorem j_out {S : ob_S} {B M m fr F w pt : Nat} {Dc Dm : ob_D} {z : sW} (hc : cY S Dc B m fr F w pt z) (hm : mY S Dm M m fr F w pt z) : ∃ x D1 Dc' Dm' z', f_Reports_retrieve S (B + 29 + 2 * m + 80 + 2 * fr) (B + 29 + 2 * m + 76) Dc = some D1 ∧ og (cReg B m fr) Dc D1 ∧ c_out S B m fr Dc = some (x, Dc') ∧ t_out S M Dm = some (x, Dm') ∧ cY S Dc' B m fr F w pt z' ∧ mY S Dm' M m fr F w pt z' ∧ w_ck z' = w_ck z ∧ og (cReg B m fr) Dc Dc' ∧ oi (mReg M) Dm Dm' := by
  obtain ⟨c, hc⟩ := hc
  obtain ⟨c', hm⟩ := hm
  obtain ⟨gt, rc, A, on, ev, lm, ⟨lv, rv, so, al⟩, frs, rp, cr, fm, me⟩ := z
  have hRp := hc.1.2.2.2.2.2.2.1
  have hDn := hc.1.2.2.2.2.2.1
  have hRv : rgN S Dc (B + 29 + 2 * m + 76) (B + 29 + 2 * m + 76 + 1) 4096 rv := hDn.2.1.2.1
  obtain ⟨D1, t1, t2, t3, t4⟩ := rpc_retr hRp hRv (by omega)
  have mA1 := hm.1.1
  have mR := hm.1.2.2.2.2.2.2.2.2.1
  have mC := hm.1.2.2.2.2.2.2.1.1.2.1
  obtain ⟨E1, s1, s2, s3, s4⟩ := rpm_retr mA1 mR mC
  have hlt := s3.2.2.2
  have hle := t3.len.1
  have hx1 := cW.keepX hc (hc.1.uRt (t4.mono (fun y k e => by omega)) t2 t3 hlt) t4 (by omega) (by omega) (by omega) (by omega) (fun y k e => by omega)
  have hy1 : mX S E1 M m fr F w pt (gt, rc, A, on, ev, lm, (lv, (rp_retr rv rp).1, so, al), frs, (rp_retr rv rp).2, cr, fm, me) c' := hm.kp (hm.1.uRt s4 s2 s3 hle) s4 (by omega) (by omega) (by omega) (by omega)
  generalize (rp_retr rv rp).1 = rv1 at *
  generalize (rp_retr rv rp).2 = rp1 at *
  have hDn1 := hx1.1.1.2.2.2.2.2.1
  have hF1 : 64 ≤ F := hDn1.1.2.2.2.2.2.2.2.2.1
  have hF2 : F ≤ 256 := hDn1.1.2.2.2.2.2.2.2.2.2.1
  have hfr : fr ≤ 4 := hDn1.1.2.2.2.2.2.2.2.2.2.2.2
  have hF : F = (F - 12) + 12 := by omega
  have hw := gtc_word hx1.1.1.1
  obtain ⟨D2, u1, u2, u3⟩ := dnc_send hDn1 hF (N32 (gt_word gt))
  have hx2 := cW.keepX hx1.1 (hx1.1.1.uDn (u3.mono (fun y k e => by unfold rgn at e; omega)) u2) u3 (by unfold rgn; omega) (by unfold rgn; omega) (by unfold rgn; omega) (by unfold rgn; omega) (fun y k e => by unfold rgn at e; omega)
  -- the reference
  have b13 := hy1.1.2.2.2.2.2.2.2.2.2.2.2.2
  have g2 : oi (fun y k => y = M ∧ k = 88) E1 (ob_pI E1 M 88 (E1.1 M 2)) := oi.pI ⟨rfl, rfl⟩
  have v88 : (ob_pI E1 M 88 (E1.1 M 2)).1 M 88 = N32 fr := by rw [pI_self]; exact b13.2.2.1
  have hgt2 : mGt S (ob_pI E1 M 88 (E1.1 M 2)) M gt := hy1.1.2.1.keep g2.up (fun y k e => by unfold mGtP at e; omega) (by omega) (fun _ _ _ => rfl)
  have hA2 : mA S (ob_pI E1 M 88 (E1.1 M 2)) M := hy1.1.1.kp g2
  have hC2 : mDnC (ob_pI E1 M 88 (E1.1 M 2)) M (lv, rv1, so, al) := hy1.1.2.2.2.2.2.2.1.1.keep g2.up (by omega) (by omega) (by omega)
  have v1 : (ob_pI E1 M 88 (E1.1 M 2)).1 M 1 = N32 F := by rw [g2.2 _ _ (by omega)]; exact b13.2.1
  have v2 : (ob_pI E1 M 88 (E1.1 M 2)).1 M 2 = N32 fr := by rw [g2.2 _ _ (by omega)]; exact b13.2.2.1
  have hl2 := hy1.1.2.2.2.2.2.2.1.2
  unfold c_out t_out
  have t1' := t1
  rw [t1, s1]
  simp only [ob_bv, ob_lt]
  rw [hw]
  simp only [ob_bd]
  rw [u1]
  simp only [ob_bd]
  generalize ob_pI E1 M 88 (E1.1 M 2) = E2 at g2 v88 hgt2 hA2 hC2 v1 v2
  obtain ⟨E3, r1, r2, r3, r4, r5, r6⟩ := fmm_all (n := F - 12) (c := (lv, rv1, so, al)) hF hF2 hF1 hfr rfl fr ob_FU 0 E2 (by omega) (by rw [ob_FU_eq]; omega) hA2 hgt2 v1 v2 hC2 hl2.1 hl2.2 ⟨Nat.zero_le 4, fun i hi => absurd hi (by simp [dn_frs])⟩
  have r1 : f_Model_tick_L336 S ob_FU M 0 0 E2 = some (N32 (dn_sum (F - 12) (N32 (gt_word gt)) fr (lv, rv1, so, al)), E3) := r1
  rw [r1]
  have g3 : oi (fun y k => (y = M ∧ (k = 88 ∨ k = 89)) ∨ (M + 42 ≤ y ∧ y ≤ M + 43) ∨ (M + 45 ≤ y ∧ y ≤ M + 49)) E1 E3 := g2.tr2 r6 (fun y k e => by omega) (fun y k e => by omega)
  have w88 : E3.1 M 88 = N32 (dn_frs (F - 12) (N32 (gt_word gt)) fr (lv, rv1, so, al)).length := by
    rw [r6.2 _ _ (by omega), v88, dn_frs_len]
  have hy2 := hy1.kp (hy1.1.uDn g3 ⟨r2, r3, r4⟩ r5 w88) g3 (by omega) (by omega) (by omega) (by omega)
  exact ⟨_, D1, D2, E3, _, rfl, hx1.2, rfl, rfl, ⟨c, hx2.1⟩, ⟨c', hy2⟩, rfl, hx1.2.tr hx2.2, (s4.mono (fun y k e => by omega)).tr (g3.mono (fun y k e => by omega))⟩
-- ===== the tick, on both sides =====
def cBx (D : ob_D) (B m fr : Nat) : Prop := D.2.1 B 0 = B + 1 ∧ D.2.1 B 1 = B + 3 ∧ D.2.1 B 2 = B + 5 ∧ D.2.1 B 3 = B + 8 ∧ D.2.1 B 4 = B + 26 ∧ D.2.1 B 5 = B + 29 + 2 * m ∧ D.2.1 B 6 = B + 29 + 2 * m + 71 ∧ D.2.1 B 7 = B + 29 + 2 * m + 73 ∧ D.2.1 B 8 = B + 29 + 2 * m + 80 + 2 * fr ∧ D.2.1 B 9 = B + 29 + 2 * m + 80 + 2 * fr + 7 ∧ D.2.1 B 10 = B + 29 + 2 * m + 80 + 2 * fr + 9
theorem cBx.keep {D D' : ob_D} {B m fr : Nat} {P : Nat → Nat → Prop} (h : cBx D B m fr) (a : og P D D') (h0 : ∀ k, ¬ P B k) : cBx D' B m fr := by
  obtain ⟨h1, h2, h3, h4, h5, h6, h7, h8, h9, h10, h11⟩ := h
  exact ⟨by rw [(a _ _ (h0 _)).2.1]; exact h1, by rw [(a _ _ (h0 _)).2.1]; exact h2, by rw [(a _ _ (h0 _)).2.1]; exact h3, by rw [(a _ _ (h0 _)).2.1]; exact h4, by rw [(a _ _ (h0 _)).2.1]; exact h5, by rw [(a _ _ (h0 _)).2.1]; exact h6, by rw [(a _ _ (h0 _)).2.1]; exact h7, by rw [(a _ _ (h0 _)).2.1]; exact h8, by rw [(a _ _ (h0 _)).2.1]; exact h9, by rw [(a _ _ (h0 _)).2.1]; exact h10, by rw [(a _ _ (h0 _)).2.1]; exact h11⟩
def w_tk : sW → sW
  | (gt, rc, A, on, ev, lm, ch, frs, rp, (wi, mo, ck, al, hd, fa, br), fm, me) => (gt, rc, A, on, ev, lm, ch, frs, rp, (wi, mo, ck + 1, al, hd, fa, br), fm, me)
theorem w_tk_ck (z : sW) : w_ck (w_tk z) = w_ck z + 1 := by
  obtain ⟨gt, rc, A, on, ev, lm, ch, frs, rp, ⟨wi, mo, ck, al, hd, fa, br⟩, fm, me⟩ := z
  rfl
theorem j_clock {S : ob_S} {B M m fr F w pt : Nat} {Dc Dm : ob_D} {z : sW} (hc : cY S Dc B m fr F w pt z) (hm : mY S Dm M m fr F w pt z) : cY S (ob_pI Dc (B + 29 + 2 * m + 80 + 2 * fr + 7) 8 ((Dc.1 (B + 29 + 2 * m + 80 + 2 * fr + 7) 8) + 1)) B m fr F w pt (w_tk z) ∧ mY S (ob_pI (ob_pI Dm M 5 0) M 41 (((ob_pI Dm M 5 0).1 M 41) + 1)) M m fr F w pt (w_tk z) ∧ og (cReg B m fr) Dc (ob_pI Dc (B + 29 + 2 * m + 80 + 2 * fr + 7) 8 ((Dc.1 (B + 29 + 2 * m + 80 + 2 * fr + 7) 8) + 1)) ∧ oi (mReg M) Dm (ob_pI (ob_pI Dm M 5 0) M 41 (((ob_pI Dm M 5 0).1 M 41) + 1)) := by
  obtain ⟨c, hc⟩ := hc
  obtain ⟨c', hm⟩ := hm
  obtain ⟨gt, rc, A, on, ev, lm, ch, frs, rp, ⟨wi, mo, ck, al, hd, fa, br⟩, fm, me⟩ := z
  have e1 : N32 ck + 1 = N32 (ck + 1) := nb_add _ 1
  have hF := hc.1.2.2.2.2.2.2.2.2.1
  have g1 : og (fun y k => y = B + 29 + 2 * m + 80 + 2 * fr + 7 ∧ k = 8) Dc (ob_pI Dc (B + 29 + 2 * m + 80 + 2 * fr + 7) 8 ((Dc.1 (B + 29 + 2 * m + 80 + 2 * fr + 7) 8) + 1)) := og.pI ⟨rfl, rfl⟩
  have hF1 : cCrF (ob_pI Dc (B + 29 + 2 * m + 80 + 2 * fr + 7) 8 ((Dc.1 (B + 29 + 2 * m + 80 + 2 * fr + 7) 8) + 1)) (B + 29 + 2 * m + 80 + 2 * fr + 7) pt (wi, mo, ck + 1, al, hd, fa, br) := by
    obtain ⟨c1, c2, c3, c4, c5, c6, c7, c8, c9, c10, c11⟩ := hF
    exact ⟨fun i hi => by rw [pI_ne (by omega)]; exact c1 i hi, by rw [pI_ne (by omega)]; exact c2, c3, by rw [pI_self, c4, e1], by rw [pI_ne (by omega)]; exact c5, c6, by rw [pI_ne (by omega)]; exact c7, by rw [pI_ne (by omega)]; exact c8, by rw [pI_ne (by omega)]; exact c9, by rw [pI_ne (by omega)]; exact c10, c11⟩
  have hx1 := cW.keepX hc (hc.1.uCr (g1.mono (fun y k e => by omega)) hF1) g1 (by omega) (by omega) (by omega) (by omega) (fun y k e => by omega)
  have g0 : oi (fun y k => y = M ∧ k = 5) Dm (ob_pI Dm M 5 0) := oi.pI ⟨rfl, rfl⟩
  have hy0 : mX S (ob_pI Dm M 5 0) M m fr F w pt (gt, rc, A, on, ev, lm, ch, frs, rp, (wi, mo, ck, al, hd, fa, br), fm, me) c' := hm.kp (hm.1.u0 (g0.mono (fun y k e => by omega))) g0 (by omega) (by omega) (by omega) (by omega)
  generalize ob_pI Dm M 5 0 = E0 at g0 hy0
  have mF := hy0.1.2.2.2.2.2.2.2.2.2.1
  have g2 : oi (fun y k => y = M ∧ k = 41) E0 (ob_pI E0 M 41 ((E0.1 M 41) + 1)) := oi.pI ⟨rfl, rfl⟩
  have mF1 : mCr (ob_pI E0 M 41 ((E0.1 M 41) + 1)) M pt (wi, mo, ck + 1, al, hd, fa, br) := by
    obtain ⟨c1, c2, c3, c4, c5, c6, c7, c8, c9, c10, c11⟩ := mF
    exact ⟨fun i hi => by rw [pI_ne (by omega), pI_ne (by omega)]; exact c1 i hi, by rw [pI_ne (by omega)]; exact c2, c3, by rw [pI_self, c4, e1], by rw [pI_ne (by omega)]; exact c5, fun x hx => ⟨by rw [pI_ne (by omega)]; exact (c6 x hx).1, (c6 x hx).2⟩, by rw [pI_ne (by omega)]; exact c7, by rw [pI_ne (by omega)]; exact c8, by rw [pI_ne (by omega)]; exact c9, by rw [pI_ne (by omega)]; exact c10, c11⟩
  have hy1 : mX S (ob_pI E0 M 41 ((E0.1 M 41) + 1)) M m fr F w pt (gt, rc, A, on, ev, lm, ch, frs, rp, (wi, mo, ck + 1, al, hd, fa, br), fm, me) c' := hy0.kp (hy0.1.uCr (g2.mono (fun y k e => by omega)) mF1) g2 (by omega) (by omega) (by omega) (by omega)
  exact ⟨⟨c, hx1.1⟩, ⟨c', hy1⟩, hx1.2, (g0.mono (fun y k e => by omega)).tr (g2.mono (fun y k e => by omega))⟩
theorem j_tick {S : ob_S} {B M m fr F w pt : Nat} {Dc Dm : ob_D} {z : sW} (hB : cBx Dc B m fr) (hck : w_ck z + 1 + pt < 2147483648) (hc : cY S Dc B m fr F w pt z) (hm : mY S Dm M m fr F w pt z) : ∃ x Dc' Dm' z', f_Box_tick S B Dc = some (x, Dc') ∧ f_Model_tick S M Dm = some (x, Dm') ∧ cY S Dc' B m fr F w pt z' ∧ mY S Dm' M m fr F w pt z' ∧ w_ck z' = w_ck z + 1 ∧ og (cReg B m fr) Dc Dc' ∧ oi (mReg M) Dm Dm' := by
  obtain ⟨k1, k2, k3, k4⟩ := j_clock hc hm
  have hk := w_tk_ck z
  unfold f_Box_tick f_Model_tick
  simp only [ob_lt]
  rw [hB.2.2.2.2.2.2.2.2.2.1, if_pos (by omega)]
  generalize ob_pI Dc (B + 29 + 2 * m + 80 + 2 * fr + 7) 8 ((Dc.1 (B + 29 + 2 * m + 80 + 2 * fr + 7) 8) + 1) = D1 at k1 k3
  generalize ob_pI (ob_pI Dm M 5 0) M 41 (((ob_pI Dm M 5 0).1 M 41) + 1) = E1 at k2 k4
  have hB1 : cBx D1 B m fr := hB.keep k3 (by omega)
  rw [hB1.2.2.2.2.2.2.2.2.2.2, if_pos (by omega)]
  obtain ⟨x, hx⟩ := k2.tt
  rw [hx]
  simp only [ob_bd]
  -- due
  have hnd : nd (N32 (w_ck (w_tk z))) (w_tk z).2.2.1 ≤ 64 := Nat.le_trans (nd_le _ _) (by have := k1.len; omega)
  obtain ⟨D2, E2, z2, a1, a2, a3, a4, a5, a6, a7⟩ := j_due 64 ob_FU ob_FU 0 D1 E1 (w_tk z) x (by omega) (by rw [ob_FU_eq]; omega) (by rw [ob_FU_eq]; omega) (by omega) hnd k1 k2 hx
  have a1 : f_Handler_handleDueEntries S (B + 29 + 2 * m + 80 + 2 * fr + 9) D1 = some D2 := a1
  rw [a1, a2]
  simp only [ob_bv]
  have hB2 : cBx D2 B m fr := hB1.keep a6 (by omega)
  rw [hB2.2.2.2.2.2.2.2.2.2.2, if_pos (by omega)]
  -- queue
  have hq : z2.1.2.2.2.2.2.2.2.length ≤ 8 := by
    obtain ⟨c, hcx⟩ := a3
    obtain ⟨⟨st, nx, bs, wt, ag, rf, ac, q⟩, rc, A, on, ev, lm, ch, frs, rp, cr, fm, me⟩ := z2
    obtain ⟨-, -, -, f, rows, -, -, -, h8, -⟩ := hcx.1.1.1
    exact h8
  obtain ⟨D3, E3, z3, b1, b2, b3, b4, b5, b6, b7⟩ := j_queue _ ob_FU ob_FU 0 D2 E2 z2 rfl (by omega) (by rw [ob_FU_eq]; omega) (by rw [ob_FU_eq]; omega) a3 a4
  have b1 : f_Handler_handleQueue S (B + 29 + 2 * m + 80 + 2 * fr + 9) D2 = some D3 := b1
  rw [b1, b2]
  simp only [ob_bv]
  have hB3 : cBx D3 B m fr := hB2.keep b6 (by omega)
  rw [hB3.2.2.2.2.2.2.2.2.2.1, if_pos (by omega), hB3.2.2.2.2.2.2.1, if_pos (by omega)]
  -- watch
  have hlm : cLm S D3 (B + 29 + 2 * m + 71) z3.2.2.2.2.2.1 := by
    obtain ⟨c, hcx⟩ := b3
    exact hcx.1.lm
  have hll := (kt_len (cLm_kt.mp hlm)).2
  obtain ⟨D4, E4, z4, d1, d2, d3, d4, d5, d6, d7⟩ := j_watch (K := z3.2.2.2.2.2.1.map (fun f : sLm => f.1)) (ky_lt _ _ hlm.2.1) (fun q hq => by
    obtain ⟨f, hf, hfq⟩ := List.mem_map.mp hq
    rw [← hfq]
    exact (hlm.2.2 f hf).1) (by rw [List.length_map]; exact hll) 256 ob_FU ob_FU 0 0 D3 E3 z3 (by omega) (by rw [ob_FU_eq]; omega) (by rw [ob_FU_eq, List.length_map]; omega) (by omega) rfl (fun j q hq => ⟨fun h => by omega, fun _ => by omega⟩) (by omega) b3 b4
  have d1 : f_Craft_watch S (B + 29 + 2 * m + 80 + 2 * fr + 7) (B + 29 + 2 * m + 71) D3 = some D4 := d1
  have d2 : f_Model_tick_L200 S ob_FU M 0 E3 = t_ev S M E4 := d2
  rw [d1, d2]
  simp only [ob_bv]
  have hB4 : cBx D4 B m fr := hB3.keep d6 (by omega)
  rw [hB4.2.2.2.2.2.2.2.2.2.2, if_pos (by omega)]
  -- events
  obtain ⟨D5, E5, z5, e1, e2, e3, e4, e5, e6, e7⟩ := j_events 64 ob_FU ob_FU 0 D4 E4 z4 (by omega) (by rw [ob_FU_eq]; omega) (by rw [ob_FU_eq]; omega) d3 d4
  have e1 : f_Handler_workEvents S (B + 29 + 2 * m + 80 + 2 * fr + 9) D4 = some D5 := e1
  have e2 : f_Model_workEvents S M E4 = some E5 := e2
  unfold t_ev
  rw [e1, e2]
  simp only [ob_bv]
  have hB5 : cBx D5 B m fr := hB4.keep e6 (by omega)
  rw [hB5.2.2.2.2.2.2.2.2.2.1, if_pos (by omega)]
  -- alarm
  obtain ⟨D6, E6, z6, f1, f2, f3, f4, f5, f6, f7⟩ := j_alarm (by omega) e3 e4
  simp only [ob_bv] at f2
  rw [f1, f2]
  simp only []
  have hB6 : cBx D6 B m fr := hB5.keep f6 (by omega)
  rw [hB6.2.2.2.2.2.2.2.2.2.2, if_pos (by omega)]
  -- forms
  have hfm : cFm S D6 (B + 29 + 2 * m + 80 + 2 * fr + 10) z6.2.2.2.2.2.2.2.2.2.2.1 := by
    obtain ⟨c, hcx⟩ := f3
    exact hcx.1.fm
  have hfl := (kt_len (cFm_kt.mp hfm)).2
  obtain ⟨D7, E7, z7, g1, g2, g3, g4, g5, g6, g7⟩ := j_forms (l := z6.2.2.2.2.2.2.2.2.2.2.1) 256 ob_FU ob_FU 0 0 D6 E6 z6 (by omega) (by rw [ob_FU_eq]; omega) (by rw [ob_FU_eq]; omega) (by omega) rfl (fun j q hq => ⟨fun h => by omega, fun _ => by omega⟩) f3 f4
  have g1 : f_Handler_sendDueForms S (B + 29 + 2 * m + 80 + 2 * fr + 9) D6 = some D7 := g1
  have g2 : f_Model_tick_L270 S ob_FU M 0 E6 = t_out S M E7 := g2
  rw [g1, g2]
  simp only []
  have hB7 : cBx D7 B m fr := hB6.keep g6 (by omega)
  have h71 : D7.2.1 (B + 29 + 2 * m + 73) 1 = B + 29 + 2 * m + 76 := by
    obtain ⟨c, hcx⟩ := g3
    obtain ⟨gt, rc, A, on, ev, lm, ch, frs, rp, cr, fm, me⟩ := z7
    exact hcx.1.2.2.2.2.2.1.1.2.1
  rw [hB7.2.2.2.2.2.2.2.2.1, if_pos (by omega), hB7.2.2.2.2.2.2.2.1, if_pos (by omega), h71, if_pos (by omega)]
  -- out
  obtain ⟨y, D9, D8, E8, z8, o1, o2, i1, i2, i3, i4, i5, i6, i7⟩ := j_out g3 g4
  have hB9 : cBx D9 B m fr := hB7.keep o2 (by omega)
  unfold c_out at i1
  rw [o1] at i1
  simp only [ob_bv] at i1
  rw [i2, o1]
  simp only []
  rw [hB9.2.2.2.2.2.2.2.1, if_pos (by omega), hB9.2.2.2.1, if_pos (by omega)]
  exact ⟨y, D8, E8, z8, i1, rfl, i3, i4, by omega, ((((((k3.tr a6).tr b6).tr d6).tr e6).tr f6).tr g6).tr i6, ((((((k4.tr a7).tr b7).tr d7).tr e7).tr f7).tr g7).tr i7⟩
