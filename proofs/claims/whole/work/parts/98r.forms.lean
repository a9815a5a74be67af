-- ===== the alarm, on both sides =====
theorem mCr.dropal {D : ob_D} {M pt : Nat} {wi : Nat → Int32} {mo ck : Nat} {al : Option Nat} {hd fa br : Int32} (h : mCr D M pt (wi, mo, ck, al, hd, fa, br)) : mCr (ob_pI D M 59 0) M pt (wi, mo, ck, none, hd, fa, br) := by
  obtain ⟨c1, c2, c3, c4, c5, c6, c7, c8, c9, c10, c11⟩ := h
  exact ⟨fun i hi => by rw [pI_ne (by omega), pI_ne (by omega)]; exact c1 i hi, by rw [pI_ne (by omega)]; exact c2, c3, by rw [pI_ne (by omega)]; exact c4, by rw [pI_self]; rfl, fun x hx => by (cases hx), by rw [pI_ne (by omega)]; exact c7, by rw [pI_ne (by omega)]; exact c8, by rw [pI_ne (by omega)]; exact c9, by rw [pI_ne (by omega)]; exact c10, c11⟩
theorem cr_mode_ck (q : Nat) (z : sCr) (ev : sEv) : (cr_mode q (z, ev)).1.2.2.1 = z.2.2.1 := by
  obtain ⟨wi, mo, ck, al, hd, fa, br⟩ := z
  show (if q = mo then (((wi, mo, ck, al, hd, fa, br), ev) : sCr × sEv) else ((if q = 0 then cr_safe wi else wi, q, ck, al, hd, fa, br), ev_raise 1 (N32 q) ev)).1.2.2.1 = ck
  split <;> rfl
theorem j_alarm {S : ob_S} {B M m fr F w pt : Nat} {Dc Dm : ob_D} {z : sW} (hck : w_ck z < 2147483648) (hc : cY S Dc B m fr F w pt z) (hm : mY S Dm M m fr F w pt z) : ∃ Dc' Dm' z', f_Craft_heedAlarm S (B + 29 + 2 * m + 80 + 2 * fr + 7) Dc = some Dc' ∧ (if (Dm.1 M 59) = 0 then f_Model_tick_L270 S ob_FU M (0 : Int32) Dm else (if (Dm.1 M 41) < (Dm.1 M 58) then f_Model_tick_L270 S ob_FU M (0 : Int32) Dm else ob_lt (ob_pI Dm M 59 (0 : Int32)) fun D36 => ob_bv (f_Model_becomes S M (0 : Int32) D36) fun D37 => f_Model_tick_L270 S ob_FU M (0 : Int32) D37)) = f_Model_tick_L270 S ob_FU M 0 Dm' ∧ cY S Dc' B m fr F w pt z' ∧ mY S Dm' M m fr F w pt z' ∧ w_ck z' = w_ck z ∧ og (cReg B m fr) Dc Dc' ∧ oi (mReg M) Dm Dm' := by
  obtain ⟨c, hc⟩ := hc
  obtain ⟨c', hm⟩ := hm
  obtain ⟨gt, rc, A, on, ev, lm, ch, frs, rp, ⟨wi, mo, ck, al, hd, fa, br⟩, fm, me⟩ := z
  have hck : ck < 2147483648 := hck
  have hF := hc.1.2.2.2.2.2.2.2.2.1
  have mF := hm.1.2.2.2.2.2.2.2.2.2.1
  have e9 : Dc.1 (B + 29 + 2 * m + 80 + 2 * fr + 7) 9 = al_v al := hF.2.2.2.2.1
  have e8 : Dc.1 (B + 29 + 2 * m + 80 + 2 * fr + 7) 8 = N32 ck := hF.2.2.2.1
  have hal : ∀ a, al = some a → a < 2147483648 := hF.2.2.2.2.2.1
  have e59 : Dm.1 M 59 = bI al.isSome := mF.2.2.2.2.1
  have e41 : Dm.1 M 41 = N32 ck := mF.2.2.2.1
  have e58 : ∀ a, al = some a → Dm.1 M 58 = N32 a := fun a ha => (mF.2.2.2.2.2.1 a ha).1
  unfold f_Craft_heedAlarm
  rw [e9, e59]
  cases al with
  | none =>
    rw [if_pos (show al_v none = -1 from rfl), if_pos (show bI (none : Option Nat).isSome = 0 from rfl)]
    exact ⟨Dc, Dm, _, rfl, rfl, ⟨c, hc⟩, ⟨c', hm⟩, rfl, og.rf, oi.rf⟩
  | some a =>
    have ha := hal a rfl
    rw [if_neg (by rw [al_none hal]; exact fun e => by cases e), if_neg (show ¬ bI (some a).isSome = 0 from (show ¬ (1 : Int32) = 0 by decide)), e8, e41, e58 a rfl]
    by_cases hlt : N32 ck < N32 a
    · rw [if_pos (show N32 ck < al_v (some a) from hlt), if_pos hlt]
      exact ⟨Dc, Dm, _, rfl, rfl, ⟨c, hc⟩, ⟨c', hm⟩, rfl, og.rf, oi.rf⟩
    · rw [if_neg (show ¬ N32 ck < al_v (some a) from hlt), if_neg hlt]
      simp only [ob_lt]
      -- the class
      have hF1 : cCrF (ob_pI Dc (B + 29 + 2 * m + 80 + 2 * fr + 7) 9 (-1)) (B + 29 + 2 * m + 80 + 2 * fr + 7) pt (wi, mo, ck, none, hd, fa, br) := hF.setal (al' := none) (fun a e => by cases e)
      have g1 : og (fun y k => y = B + 29 + 2 * m + 80 + 2 * fr + 7 ∧ 7 ≤ k) Dc (ob_pI Dc (B + 29 + 2 * m + 80 + 2 * fr + 7) 9 (-1)) := og.pI ⟨rfl, by decide⟩
      generalize ob_pI Dc (B + 29 + 2 * m + 80 + 2 * fr + 7) 9 (-1) = D1 at hF1 g1
      have hx1 := cW.keepX hc (hc.1.uCr (g1.mono (fun y k e => by omega)) hF1) g1 (by omega) (by omega) (by omega) (by omega) (fun y k e => by omega)
      obtain ⟨D2, t1, t2, t3, t4⟩ := crc_mode hx1.1.1.2.2.2.2.2.2.2.1 hF1 hx1.1.1.2.2.2.1 (by omega) (by omega) (q := 0) (by decide)
      have hx2 := cW.keepX hx1.1 (hx1.1.1.uCe (t4.mono (fun y k e => by unfold evP at e; omega)) t2 t3) t4 (fun k e => by unfold evP at e; omega) (fun k e => by unfold evP at e; omega) (fun k e => by unfold evP at e; omega) (fun k e => by unfold evP at e; omega) (fun y k e => by unfold evP at e; omega)
      -- the reference
      have mF1 := mF.dropal
      have g2 : oi (fun y k => y = M ∧ k = 59) Dm (ob_pI Dm M 59 0) := oi.pI ⟨rfl, rfl⟩
      generalize ob_pI Dm M 59 0 = E1 at mF1 g2
      have hy1 : mX S E1 M m fr F w pt (gt, rc, A, on, ev, lm, ch, frs, rp, (wi, mo, ck, none, hd, fa, br), fm, me) c' := hm.kp (hm.1.uCr (g2.mono (fun y k e => by omega)) mF1) g2 (by omega) (by omega) (by omega) (by omega)
      obtain ⟨E2, s1, s2, s3, s4⟩ := crm_mode hy1.1.1 mF1 hy1.1.2.2.2.2.1 (q := 0) (by decide)
      have hy2 : mX S E2 M m fr F w pt (gt, rc, A, on, (cr_mode 0 ((wi, mo, ck, none, hd, fa, br), ev)).2, lm, ch, frs, rp, (cr_mode 0 ((wi, mo, ck, none, hd, fa, br), ev)).1, fm, me) c' := hy1.kp (hy1.1.uCe (s4.mono (fun y k e => by omega)) s2 s3) s4 (by omega) (by omega) (by omega) (by omega)
      have t1 : f_Craft_changeMode S (B + 29 + 2 * m + 80 + 2 * fr + 7) 0 D1 = some D2 := t1
      have s1 : f_Model_becomes S M 0 E1 = some E2 := s1
      rw [t1, s1]
      simp only [ob_bv]
      exact ⟨D2, E2, _, rfl, rfl, ⟨c, hx2.1⟩, ⟨c', hy2⟩, cr_mode_ck 0 _ ev, hx1.2.tr hx2.2, (g2.mono (fun y k e => by omega)).tr (s4.mono (fun y k e => by omega))⟩
-- ===== the forms that are due, on both sides =====
def t_out (S : ob_S) (M : Nat) (D : ob_D) : Option (Int32 × ob_D) := ob_bv (f_Model_retrieve S M D) fun D9 => ob_lt (ob_pI D9 M 88 (D9.1 M 2)) fun D11 => f_Model_tick_L336 S ob_FU M (0 : Int32) (0 : Int32) D11
theorem rep_fm (w s k : Nat) (body : List Nat) (z : sW) : (w_rep w s k body z).2.2.2.2.2.2.2.2.2.2.1 = z.2.2.2.2.2.2.2.2.2.2.1 ∧ w_ck (w_rep w s k body z) = w_ck z := by
  obtain ⟨gt, rc, A, on, ev, lm, ⟨lv, rv, so, al'⟩, frs, rp, ⟨wi, mo, ck, al, hd, fa, br⟩, fm, me⟩ := z
  exact ⟨rfl, rfl⟩
theorem cW.ck8 {S : ob_S} {D : ob_D} {B m fr F w pt : Nat} {z : sW} (h : cW S D B m fr F w pt z) : D.1 (B + 29 + 2 * m + 80 + 2 * fr + 7) 8 = N32 (w_ck z) := by
  obtain ⟨gt, rc, A, on, ev, lm, ch, frs, rp, ⟨wi, mo, ck, al, hd, fa, br⟩, fm, me⟩ := z
  exact h.2.2.2.2.2.2.2.2.1.2.2.2.1
theorem mW.ck41 {S : ob_S} {D : ob_D} {M m fr F w pt : Nat} {z : sW} (h : mW S D M m fr F w pt z) : D.1 M 41 = N32 (w_ck z) := by
  obtain ⟨gt, rc, A, on, ev, lm, ch, frs, rp, ⟨wi, mo, ck, al, hd, fa, br⟩, fm, me⟩ := z
  exact h.2.2.2.2.2.2.2.2.2.1.2.2.2.1
theorem j_forms {S : ob_S} {B M m fr F w pt : Nat} {l : List sFm} : ∀ (d n1 n2 k i : Nat) (Dc Dm : ob_D) (z : sW), k + d = 256 → d < n2 → l.length - i < n1 → i ≤ l.length → z.2.2.2.2.2.2.2.2.2.2.1 = l → (∀ j q, (l.map (fun f : sFm => f.1))[j]? = some q → (j < i → q < k) ∧ (i ≤ j → k ≤ q)) → cY S Dc B m fr F w pt z → mY S Dm M m fr F w pt z → ∃ Dc' Dm' z', f_Handler_sendDueForms_L2 S n1 (B + 29 + 2 * m + 80 + 2 * fr + 9) (N32 i) Dc = some Dc' ∧ f_Model_tick_L270 S n2 M (N32 k) Dm = t_out S M Dm' ∧ cY S Dc' B m fr F w pt z' ∧ mY S Dm' M m fr F w pt z' ∧ w_ck z' = w_ck z ∧ og (cReg B m fr) Dc Dc' ∧ oi (mReg M) Dm Dm' := by
  intro d
  induction d with
  | zero =>
    intro n1 n2 k i Dc Dm z hk hn2 hn1 hi hz hp hc hm
    match n1, n2, hn1, hn2 with
    | n1 + 1, n2 + 1, _, _ =>
      obtain ⟨c, hc⟩ := hc
      have hlen := (kt_len (cFm_kt.mp hc.1.fm))
      have hok := hc.1.fm.2.2
      rw [hz] at hlen hok
      have h5 := hc.1.hd.2.2.2.2.2.1
      have hiK : l.length ≤ i := by
        apply Nat.le_of_not_lt
        intro hlt
        have e : (l.map (fun f : sFm => f.1))[i]? = some l[i].1 := by rw [List.getElem?_map, List.getElem?_eq_getElem hlt]; rfl
        have h1 := (hp i _ e).2 (Nat.le_refl _)
        have h2 := (hok _ (List.getElem_mem hlt)).1
        omega
      have hk' : k = 256 := by omega
      refine ⟨Dc, Dm, z, ?_, ?_, ⟨c, hc⟩, hm, rfl, og.rf, oi.rf⟩
      · rw [f_Handler_sendDueForms_L2, h5, if_pos (by omega), hlen.1, if_pos (by rw [nb_le (by omega) (by omega)]; exact hiK)]
      · rw [f_Model_tick_L270, if_pos (by rw [hk']; decide)]
        rfl
  | succ d ih =>
    intro n1 n2 k i Dc Dm z hk hn2 hn1 hi hz hp hc hm
    match n2, hn2 with
    | n2 + 1, hn2 =>
      obtain ⟨c, hc⟩ := hc
      obtain ⟨c', hm⟩ := hm
      have hA := hm.1.mA
      have a31 : Dm.2.1 M 31 = M + 8 ∧ S.2.1 (M + 8) = 256 := hA.1 (31, 8, 256) (by decide)
      have a32 : Dm.2.1 M 32 = M + 9 ∧ S.2.1 (M + 9) = 256 := hA.1 (32, 9, 256) (by decide)
      have a33 : Dm.2.1 M 33 = M + 10 ∧ S.2.1 (M + 10) = 256 := hA.1 (33, 10, 256) (by decide)
      have hin : ob_in (N32 k) 256 := by rw [nb_in (by omega)]; omega
      have hcp : (N32 k).toNatClampNeg = k := nb_clamp (by omega)
      have e1 : N32 k + (1 : Int32) = N32 (k + 1) := nb_add _ 1
      have hmf := hm.1.fm
      have hcf := hc.1.fm
      have h5 := hc.1.hd.2.2.2.2.2.1
      have h0 := hc.1.hd.1
      have hck8 := hc.1.ck8
      have hck41 := hm.1.ck41
      rw [hz] at hmf hcf
      have hlen := kt_len (cFm_kt.mp hcf)
      have hv := hmf.2.2.2.2.1 k (by omega)
      have hst : f_Model_tick_L270 S (n2 + 1) M (N32 k) Dm = (if bI ((ky_find (fun f : sFm => f.1) k l).isSome) = 0 then f_Model_tick_L270 S n2 M (N32 (k + 1)) Dm else (if (Dm.1 (M + 9) k) = 0 then f_Model_tick_L270 S n2 M (N32 (k + 1)) Dm else if ¬ (Dm.1 (M + 10) k) = 0 then (if (N32 (w_ck z) - N32 (w_ck z) / (Dm.1 (M + 10) k) * (Dm.1 (M + 10) k)) = 0 then ob_bv (f_Model_formReport S M (N32 k) Dm) fun D33 => f_Model_tick_L270 S n2 M (N32 (k + 1)) D33 else f_Model_tick_L270 S n2 M (N32 (k + 1)) Dm) else none)) := by
        rw [f_Model_tick_L270, if_neg (by rw [show (256 : Int32) = N32 256 from rfl, nb_le (by omega) (by omega)]; omega)]
        simp only [hcp]
        rw [a31.1, if_pos (by omega), a31.2, if_pos hin, hv, a32.1, a32.2, if_pos (show M + 9 ≠ 0 by omega), if_pos hin, a33.1, a33.2, if_pos (show M + 10 ≠ 0 by omega), if_pos hin, e1, hck41]
      by_cases hf : (l.map (fun f : sFm => f.1))[i]? = some k
      · have hil : i < l.length := by
          obtain ⟨h1, -⟩ := List.getElem?_eq_some_iff.mp hf
          simpa using h1
        have hfk : l[i].1 = k := by
          rw [List.getElem?_map, List.getElem?_eq_getElem hil] at hf
          simpa using hf
        match n1, hn1 with
        | n1 + 1, hn1 =>
          have hmem : l[i] ∈ l := List.getElem_mem hil
          have hsome : (ky_find (fun f : sFm => f.1) k l).isSome = true := by
            rw [ky_inmap]
            exact List.mem_of_getElem? hf
          obtain ⟨o1, o2, o3, -⟩ := hcf.2.2 _ hmem
          obtain ⟨w9, w10, -, -⟩ := hmf.2.2.2.2.2 _ hmem
          rw [hfk] at w9 w10
          have v1 : f_Table_get S (B + 29 + 2 * m + 80 + 2 * fr + 10) (N32 i) 1 Dc = some (bI l[i].2.1, Dc) := kt_get (cFm_kt.mp hcf) hil (j := 1) (by decide)
          have v2 : f_Table_get S (B + 29 + 2 * m + 80 + 2 * fr + 10) (N32 i) 2 Dc = some (N32 l[i].2.2.1, Dc) := kt_get (cFm_kt.mp hcf) hil (j := 2) (by decide)
          have e2 : N32 i + (1 : Int32) = N32 (i + 1) := nb_add _ 1
          have hnz : ¬ N32 l[i].2.2.1 = 0 := by rw [show (0 : Int32) = N32 0 from rfl, nb_eq (by omega) (by decide)]; omega
          have hp' : ∀ j q, (l.map (fun f : sFm => f.1))[j]? = some q → (j < i + 1 → q < k + 1) ∧ (i + 1 ≤ j → k + 1 ≤ q) := by
            intro j q hq
            refine ⟨fun hj => ?_, fun hj => ky_lt _ l hcf.2.1 i j k q (by omega) hf hq⟩
            by_cases hji : j = i
            · subst hji
              rw [hf] at hq
              cases hq
              omega
            · have := (hp j q hq).1 (by omega)
              omega
          have hcs : f_Handler_sendDueForms_L2 S (n1 + 1) (B + 29 + 2 * m + 80 + 2 * fr + 9) (N32 i) Dc = (if bI l[i].2.1 = 1 then (if (N32 (w_ck z) - N32 (w_ck z) / (N32 l[i].2.2.1) * (N32 l[i].2.2.1)) = 0 then ob_bv (f_Handler_sendForm S (B + 29 + 2 * m + 80 + 2 * fr + 9) (N32 i) Dc) fun D15 => f_Handler_sendDueForms_L2 S n1 (B + 29 + 2 * m + 80 + 2 * fr + 9) (N32 (i + 1)) D15 else f_Handler_sendDueForms_L2 S n1 (B + 29 + 2 * m + 80 + 2 * fr + 9) (N32 (i + 1)) Dc) else f_Handler_sendDueForms_L2 S n1 (B + 29 + 2 * m + 80 + 2 * fr + 9) (N32 (i + 1)) Dc) := by
            rw [f_Handler_sendDueForms_L2, h5, if_pos (by omega), hlen.1, if_neg (by rw [nb_le (by omega) (by omega)]; omega), if_pos (by omega), v2]
            simp only [ob_bd]
            rw [h5, if_pos (by omega), v1]
            simp only [ob_bd]
            rw [if_neg (show ¬ N32 l[i].2.2.1 ≤ 0 by rw [show (0 : Int32) = N32 0 from rfl, nb_le (by omega) (by decide)]; omega), h0, if_pos (show B + 29 + 2 * m + 80 + 2 * fr + 7 ≠ 0 by omega), if_pos hnz, hck8, e2]
          rw [hst, hcs, if_neg (show ¬ bI ((ky_find (fun f : sFm => f.1) k l).isSome) = 0 by rw [hsome]; decide), w9, w10, if_pos hnz]
          cases hon : l[i].2.1 with
          | false =>
            rw [if_pos (show bI false = 0 from rfl), if_neg (show ¬ bI false = 1 by decide)]
            exact ih n1 n2 (k + 1) (i + 1) Dc Dm z (by omega) (by omega) (by omega) (by omega) hz hp' ⟨c, hc⟩ ⟨c', hm⟩
          | true =>
            rw [if_neg (show ¬ bI true = 0 by decide), if_pos (show bI true = 1 from rfl)]
            by_cases hr : (N32 (w_ck z) - N32 (w_ck z) / (N32 l[i].2.2.1) * (N32 l[i].2.2.1)) = 0
            · rw [if_pos hr, if_pos hr]
              have hiz : i < z.2.2.2.2.2.2.2.2.2.2.1.length := by rw [hz]; exact hil
              have hze : z.2.2.2.2.2.2.2.2.2.2.1[i] = l[i] := by subst hz; rfl
              obtain ⟨Dc1, t1, t2, t3⟩ := hc_sendform hc hiz
              obtain ⟨Dm1, s1, s2, s3⟩ := wm_sendform hm (f := l[i]) (by rw [hz]; exact hmem)
              rw [hze] at t2
              rw [hfk] at s1
              rw [t1, s1]
              simp only [ob_bv]
              have hwk := rep_fm w 3 25 (fm_body l[i] z) z
              obtain ⟨Dc', Dm', z', r1, r2, r3, r4, r5, r6, r7⟩ := ih n1 n2 (k + 1) (i + 1) Dc1 Dm1 _ (by omega) (by omega) (by omega) (by omega) (hwk.1.trans hz) hp' ⟨c, t2⟩ ⟨c', s2⟩
              exact ⟨Dc', Dm', z', r1, r2, r3, r4, r5.trans hwk.2, t3.tr r6, s3.tr r7⟩
            · rw [if_neg hr, if_neg hr]
              exact ih n1 n2 (k + 1) (i + 1) Dc Dm z (by omega) (by omega) (by omega) (by omega) hz hp' ⟨c, hc⟩ ⟨c', hm⟩
      · have hnone : (ky_find (fun f : sFm => f.1) k l).isSome = false := by
          rw [Bool.eq_false_iff]
          intro h1
          have hmem := (ky_inmap (key := fun f : sFm => f.1)).mp h1
          obtain ⟨j, hj⟩ := List.mem_iff_getElem?.mp hmem
          by_cases hji : j < i
          · have := (hp j k hj).1 hji
            omega
          · by_cases hje : j = i
            · subst hje
              exact hf hj
            · have hil : i < (l.map (fun f : sFm => f.1)).length := by
                obtain ⟨h2, -⟩ := List.getElem?_eq_some_iff.mp hj
                omega
              have e : (l.map (fun f : sFm => f.1))[i]? = some (l.map (fun f : sFm => f.1))[i] := List.getElem?_eq_getElem hil
              have h3 := (hp i _ e).2 (Nat.le_refl _)
              have h4 := ky_lt _ l hcf.2.1 i j _ k (by omega) e hj
              omega
        rw [hst, if_pos (show bI ((ky_find (fun f : sFm => f.1) k l).isSome) = 0 by rw [hnone]; rfl)]
        refine ih n1 n2 (k + 1) i Dc Dm z (by omega) (by omega) hn1 hi hz (fun j q hq => ⟨fun hj => ?_, fun hj => ?_⟩) ⟨c, hc⟩ ⟨c', hm⟩
        · have := (hp j q hq).1 hj
          omega
        · have h5 := (hp j q hq).2 hj
          by_cases hqk : q = k
          · subst hqk
            by_cases hji : j = i
            · subst hji
              exact absurd hq hf
            · have h6 : ky_find (fun f : sFm => f.1) q l ≠ none := by
                have := (ky_inmap (key := fun f : sFm => f.1) (k := q) (l := l)).mpr (List.mem_of_getElem? hq)
                intro e
                rw [e] at this
                cases this
              rw [Option.isSome_eq_false_iff, Option.isNone_iff_eq_none] at hnone
              exact absurd hnone h6
          · omega
