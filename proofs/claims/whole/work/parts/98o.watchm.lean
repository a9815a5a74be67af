-- ===== a limit is watched, in the reference =====
theorem mLm.set {D : ob_D} {M i : Nat} {l : List sLm} (h : mLm D M l) (hi : i < l.length) (n : Int32) : mLm (ob_pI D (M + 27) l[i].1 n) M (l.set i (lm_to l[i].2.1 n l[i])) := by
  obtain ⟨f1, f2, f3, f4, f5, f6⟩ := h
  have g : oi (fun y q => y = M + 27 ∧ q = l[i].1) D (ob_pI D (M + 27) l[i].1 n) := oi.pI ⟨rfl, rfl⟩
  refine ⟨by rw [List.length_set, g.2 _ _ (by omega)]; exact f1, by rw [List.length_set]; exact f2, ky_srt_set _ _ l i hi rfl f3, fun f hf => ?_, fun q hq => ?_, fun f hf => ?_⟩
  · rcases List.mem_or_eq_of_mem_set hf with e | e
    · exact f4 f e
    · rw [e]; exact f4 l[i] (List.getElem_mem hi)
  · rw [ky_some_set hi (show (fun f : sLm => f.1) (lm_to l[i].2.1 n l[i]) = _ from rfl), g.2 _ _ (by omega)]
    exact f5 q hq
  · rcases ky_set_ne f3 hi (show (fun f : sLm => f.1) (lm_to l[i].2.1 n l[i]) = _ from rfl) hf with e | ⟨e, hne⟩
    · rw [e]
      obtain ⟨b1, b2, b3, b4, b5, b6, b7, b8⟩ := f6 l[i] (List.getElem_mem hi)
      exact ⟨by rw [g.2 _ _ (by omega)]; exact b1, pI_self, by rw [g.2 _ _ (by omega)]; exact b3, by rw [g.2 _ _ (by omega)]; exact b4, by rw [g.2 _ _ (by omega)]; exact b5, by rw [g.2 _ _ (by omega)]; exact b6, by rw [g.2 _ _ (by omega)]; exact b7, by rw [g.2 _ _ (by omega)]; exact b8⟩
    · have hne' : f.1 ≠ l[i].1 := hne
      obtain ⟨b1, b2, b3, b4, b5, b6, b7, b8⟩ := f6 f e
      exact ⟨by rw [g.2 _ _ (by omega)]; exact b1, by rw [g.2 _ _ (by omega)]; exact b2, by rw [g.2 _ _ (by omega)]; exact b3, by rw [g.2 _ _ (by omega)]; exact b4, by rw [g.2 _ _ (by omega)]; exact b5, by rw [g.2 _ _ (by omega)]; exact b6, by rw [g.2 _ _ (by omega)]; exact b7, by rw [g.2 _ _ (by omega)]; exact b8⟩
theorem mX.kp {S : ob_S} {D D' : ob_D} {M m fr F w pt : Nat} {z z' : sW} {c : List Nat} {P : Nat → Nat → Prop} (h : mX S D M m fr F w pt z c) (hW : mW S D' M m fr F w pt z') (g : oi P D D') (h1 : ¬ P M 70) (h2 : ∀ k, ¬ P (M + 35) k) (h3 : ¬ P M 28) (h4 : ∀ k, ¬ P (M + 7) k) : mX S D' M m fr F w pt z' c := ⟨hW, h.2.1.imp (fun p hp => hp.keep g.up h1 h2), h.2.2.keep g.up h3 h4⟩
theorem wm_lset {S : ob_S} {D : ob_D} {M m fr F w pt i : Nat} {z : sW} {c : List Nat} {f : sLm} (h : mX S D M m fr F w pt z c) (hi : z.2.2.2.2.2.1[i]? = some f) (n : Int32) : mX S (ob_pI D (M + 27) f.1 n) M m fr F w pt (w_wset i n f z) c ∧ oi (mReg M) D (ob_pI D (M + 27) f.1 n) := by
  obtain ⟨gt, rc, A, on, ev, lm, ch, frs, rp, cr, fm, me⟩ := z
  have hi : lm[i]? = some f := hi
  obtain ⟨hil, hif⟩ := List.getElem?_eq_some_iff.mp hi
  have hk : mLm D M lm := h.1.2.2.2.2.2.1
  have h2 := hk.set hil n
  rw [hif] at h2
  have g : oi (fun y q => y = M + 27) D (ob_pI D (M + 27) f.1 n) := oi.pI rfl
  exact ⟨h.kp (h.1.uLm (g.mono (fun y k e => by omega)) h2) g (by omega) (by omega) (by omega) (by omega), g.mono (fun y k e => by omega)⟩
theorem wm_lget {S : ob_S} {D : ob_D} {M m fr F w pt i : Nat} {z : sW} {f : sLm} (h : mW S D M m fr F w pt z) (hi : z.2.2.2.2.2.1[i]? = some f) : lm_ok f ∧ D.1 (M + 20) f.1 = bI f.2.1 ∧ D.1 (M + 27) f.1 = f.2.2.1 ∧ D.1 (M + 21) f.1 = N32 f.2.2.2.1 ∧ D.1 (M + 22) f.1 = N32 f.2.2.2.2.1 ∧ D.1 (M + 23) f.1 = f.2.2.2.2.2.1 ∧ D.1 (M + 24) f.1 = f.2.2.2.2.2.2.1 ∧ D.1 (M + 25) f.1 = N32 f.2.2.2.2.2.2.2.1 ∧ D.1 (M + 26) f.1 = N32 f.2.2.2.2.2.2.2.2 := by
  obtain ⟨gt, rc, A, on, ev, lm, ch, frs, rp, cr, fm, me⟩ := z
  have hi : lm[i]? = some f := hi
  have hm := List.mem_of_getElem? hi
  have hk : mLm D M lm := h.2.2.2.2.2.1
  exact ⟨hk.2.2.2.1 f hm, hk.2.2.2.2.2 f hm⟩
theorem mCr.brk {D : ob_D} {M pt : Nat} {wi : Nat → Int32} {mo ck : Nat} {al : Option Nat} {hd fa br : Int32} (h : mCr D M pt (wi, mo, ck, al, hd, fa, br)) : mCr (ob_pI D M 57 (D.1 M 57 + 1)) M pt (wi, mo, ck, al, hd, fa, br + 1) := by
  obtain ⟨c1, c2, c3, c4, c5, c6, c7, c8, c9, c10, c11⟩ := h
  exact ⟨fun i hi => by rw [pI_ne (by omega), pI_ne (by omega)]; exact c1 i hi, by rw [pI_ne (by omega)]; exact c2, c3, by rw [pI_ne (by omega)]; exact c4, by rw [pI_ne (by omega)]; exact c5, fun x hx => ⟨by rw [pI_ne (by omega)]; exact (c6 x hx).1, (c6 x hx).2⟩, by rw [pI_ne (by omega)]; exact c7, by rw [pI_ne (by omega)]; exact c8, by rw [pI_self, c9], by rw [pI_ne (by omega)]; exact c10, c11⟩
theorem mCr.setal {D : ob_D} {M pt a : Nat} {wi : Nat → Int32} {mo ck : Nat} {al : Option Nat} {hd fa br : Int32} (h : mCr D M pt (wi, mo, ck, al, hd, fa, br)) (ha : a < 2147483648) : mCr (ob_pI (ob_pI D M 59 1) M 58 (N32 a)) M pt (wi, mo, ck, some a, hd, fa, br) := by
  obtain ⟨c1, c2, c3, c4, c5, c6, c7, c8, c9, c10, c11⟩ := h
  exact ⟨fun i hi => by rw [pI_ne (by omega), pI_ne (by omega), pI_ne (by omega), pI_ne (by omega)]; exact c1 i hi, by rw [pI_ne (by omega), pI_ne (by omega)]; exact c2, c3, by rw [pI_ne (by omega), pI_ne (by omega)]; exact c4, by rw [pI_ne (by omega), pI_self]; rfl, fun x hx => ⟨by cases hx; exact pI_self, by cases hx; exact ha⟩, by rw [pI_ne (by omega), pI_ne (by omega)]; exact c7, by rw [pI_ne (by omega), pI_ne (by omega)]; exact c8, by rw [pI_ne (by omega), pI_ne (by omega)]; exact c9, by rw [pI_ne (by omega), pI_ne (by omega)]; exact c10, c11⟩
theorem wm_watch {S : ob_S} {D : ob_D} {M m fr F w pt i : Nat} {z : sW} {c : List Nat} {f : sLm} (h : mX S D M m fr F w pt z c) (hi : z.2.2.2.2.2.1[i]? = some f) (hck : w_ck z + pt < 2147483648) : ∃ D', f_Model_watch S M (N32 f.1) D = some D' ∧ mX S D' M m fr F w pt (w_wat pt i f z) c ∧ oi (mReg M) D D' := by
  obtain ⟨ho, v20, v27, v21, v22, v23, v24, v25, v26⟩ := wm_lget h.1 hi
  have hA := h.1.mA
  have hk : f.1 < 256 := ho.1
  have a49 : D.2.1 M 49 = M + 21 ∧ S.2.1 (M + 21) = 256 := hA.1 (49, 21, 256) (by decide)
  have a50 : D.2.1 M 50 = M + 22 ∧ S.2.1 (M + 22) = 256 := hA.1 (50, 22, 256) (by decide)
  have a51 : D.2.1 M 51 = M + 23 ∧ S.2.1 (M + 23) = 256 := hA.1 (51, 23, 256) (by decide)
  have a52 : D.2.1 M 52 = M + 24 ∧ S.2.1 (M + 24) = 256 := hA.1 (52, 24, 256) (by decide)
  have a53 : D.2.1 M 53 = M + 25 ∧ S.2.1 (M + 25) = 256 := hA.1 (53, 25, 256) (by decide)
  have a54 : D.2.1 M 54 = M + 26 ∧ S.2.1 (M + 26) = 256 := hA.1 (54, 26, 256) (by decide)
  have a55 : D.2.1 M 55 = M + 27 ∧ S.2.1 (M + 27) = 256 := hA.1 (55, 27, 256) (by decide)
  have hin : ob_in (N32 f.1) 256 := by rw [nb_in (by omega)]; exact hk
  have hcp : (N32 f.1).toNatClampNeg = f.1 := nb_clamp (by omega)
  have hp := wm_par h.1 ho.2.1
  have h39 : ∃ D', f_Model_watch_L39 S M (N32 f.1) (w_par f.2.2.2.1 z) D = some D' ∧ mX S D' M m fr F w pt (if f.2.2.1 + 1 = N32 f.2.2.2.2.1 then w_brk pt (w_par f.2.2.2.1 z) f (w_wset i (f.2.2.1 + 1) f z) else w_wset i (f.2.2.1 + 1) f z) c ∧ oi (mReg M) D D' := by
    obtain ⟨hx1, g1⟩ := wm_lset h hi (f.2.2.1 + 1)
    have hi1 := wset_get (n := f.2.2.1 + 1) hi
    have w22 : (ob_pI D (M + 27) f.1 (f.2.2.1 + 1)).1 (M + 22) f.1 = N32 f.2.2.2.2.1 := by rw [pI_ne (by omega)]; exact v22
    have w27 : (ob_pI D (M + 27) f.1 (f.2.2.1 + 1)).1 (M + 27) f.1 = f.2.2.1 + 1 := pI_self
    have r : (ob_pI D (M + 27) f.1 (f.2.2.1 + 1)).2 = D.2 := rfl
    have hst : f_Model_watch_L39 S M (N32 f.1) (w_par f.2.2.2.1 z) D = (if f.2.2.1 + 1 = N32 f.2.2.2.2.1 then ob_lt (ob_pI (ob_pI D (M + 27) f.1 (f.2.2.1 + 1)) M 57 (((ob_pI D (M + 27) f.1 (f.2.2.1 + 1)).1 M 57) + (1 : Int32))) fun D21 => if D21.2.1 M 53 ≠ 0 then if ob_in (N32 f.1) (S.2.1 (D21.2.1 M 53)) then ob_bv (f_Model_raise S M (D21.1 (D21.2.1 M 53) f.1) (w_par f.2.2.2.1 z) D21) fun D25 => if D25.2.1 M 54 ≠ 0 then if ob_in (N32 f.1) (S.2.1 (D25.2.1 M 54)) then (if (D25.1 (D25.2.1 M 54) f.1) = (1 : Int32) then (if (D25.1 M 59) = 0 then ob_lt (ob_pI D25 M 59 (1 : Int32)) fun D30 => ob_lt (ob_pI D30 M 58 (((D30.1 M 41) + (D30.1 M 3)) - (1 : Int32))) fun D31 => some D31 else some D25) else some D25) else none else none else none else none else some (ob_pI D (M + 27) f.1 (f.2.2.1 + 1))) := by
      unfold f_Model_watch_L39
      simp only [hcp, ob_lt]
      rw [a55.1, if_pos (by omega), a55.2, if_pos hin, if_pos hin, v27]
      rw [r, a55.1, if_pos (by omega), a55.2, if_pos hin, a50.1, if_pos (by omega), a50.2, if_pos hin, w27, w22]
    rw [hst]
    generalize ob_pI D (M + 27) f.1 (f.2.2.1 + 1) = D1 at hx1 g1 w22 w27 r
    clear hst
    have hck1 : w_ck (w_wset i (f.2.2.1 + 1) f z) = w_ck z := by
      obtain ⟨gt, rc, A, on, ev, lm, ch, frs, rp, cr, fm, me⟩ := z
      rfl
    rw [← hck1] at hck
    generalize w_par f.2.2.2.1 z = x
    generalize w_wset i (f.2.2.1 + 1) f z = z1 at hx1 hi1 hck
    by_cases hn : f.2.2.1 + 1 = N32 f.2.2.2.2.1
    case neg =>
      rw [if_neg hn, if_neg hn]
      exact ⟨D1, rfl, hx1, g1⟩
    rw [if_pos hn, if_pos hn]
    obtain ⟨gt, rc, A, on, ev, lm, ch, frs, rp, ⟨wi, mo, ck, al, hd, fa, br⟩, fm, me⟩ := z1
    have hck : ck + pt < 2147483648 := hck
    have hF1 := hx1.1.2.2.2.2.2.2.2.2.2.1
    have hF2 := hF1.brk
    have g2 : oi (fun y k => y = M ∧ k = 57) D1 (ob_pI D1 M 57 (D1.1 M 57 + 1)) := oi.pI ⟨rfl, rfl⟩
    simp only [ob_lt]
    generalize hD2 : ob_pI D1 M 57 (D1.1 M 57 + 1) = D2 at hF2 g2
    have hx2 : mX S D2 M m fr F w pt (gt, rc, A, on, ev, lm, ch, frs, rp, (wi, mo, ck, al, hd, fa, br + 1), fm, me) c := hx1.kp (hx1.1.uCr (g2.mono (fun y k e => by omega)) hF2) g2 (by omega) (by omega) (by omega) (by omega)
    obtain ⟨D3, t1, t2, t3⟩ := evm_raise hx2.1.1 hx2.1.2.2.2.2.1 (e := f.2.2.2.2.2.2.2.1) ho.2.2.2.1 x
    have hx3 : mX S D3 M m fr F w pt (gt, rc, A, on, ev_raise f.2.2.2.2.2.2.2.1 x ev, lm, ch, frs, rp, (wi, mo, ck, al, hd, fa, br + 1), fm, me) c := hx2.kp (hx2.1.uEv (t3.mono (fun y k e => by unfold evmP at e; omega)) t2) t3 (by unfold evmP; omega) (by unfold evmP; omega) (by unfold evmP; omega) (by unfold evmP; omega)
    have b53 : D2.2.1 M 53 = M + 25 := by rw [g2.1, r]; exact a53.1
    have b54 : D3.2.1 M 54 = M + 26 := by rw [t3.1, g2.1, r]; exact a54.1
    obtain ⟨-, -, -, -, -, -, -, u25, -⟩ := wm_lget hx2.1 hi1
    obtain ⟨-, -, -, -, -, -, -, -, u26⟩ := wm_lget hx3.1 hi1
    have u25 : D2.1 (M + 25) f.1 = N32 f.2.2.2.2.2.2.2.1 := u25
    have u26 : D3.1 (M + 26) f.1 = N32 f.2.2.2.2.2.2.2.2 := u26
    rw [b53, if_pos (by omega), a53.2, if_pos hin, u25, t1]
    simp only [ob_bv]
    rw [b54, if_pos (by omega), a54.2, if_pos hin, u26]
    have gA : oi (mReg M) D D3 := (g1.tr (g2.mono (fun y k e => by omega))).tr (t3.mono (fun y k e => by unfold evmP at e; omega))
    have hF3 := hx3.1.2.2.2.2.2.2.2.2.2.1
    have e59 : D3.1 M 59 = bI al.isSome := hF3.2.2.2.2.1
    have hpt : 1 ≤ pt := hF3.2.2.2.2.2.2.2.2.2.2.1
    have hl2 : f.2.2.2.2.2.2.2.2 < 2 := ho.2.2.2.2
    have ew : w_brk pt x f (gt, rc, A, on, ev, lm, ch, frs, rp, (wi, mo, ck, al, hd, fa, br), fm, me) = (gt, rc, A, on, ev_raise f.2.2.2.2.2.2.2.1 x ev, lm, ch, frs, rp, (wi, mo, ck, al_new ck pt f.2.2.2.2.2.2.2.2 al, hd, fa, br + 1), fm, me) := rfl
    rw [ew]
    unfold al_new
    by_cases hL : f.2.2.2.2.2.2.2.2 = 1
    · rw [if_pos (show N32 f.2.2.2.2.2.2.2.2 = 1 by rw [hL]; rfl), if_pos hL, e59]
      cases al with
      | none =>
        rw [if_pos (show bI (none : Option Nat).isSome = 0 from rfl)]
        have ea : ((ob_pI D3 M 59 (1 : Int32)).1 M 41 + (ob_pI D3 M 59 (1 : Int32)).1 M 3) - (1 : Int32) = N32 (ck + pt - 1) := by
          rw [pI_ne (by omega), pI_ne (by omega), hF3.2.2.2.1, hF3.2.2.2.2.2.2.2.2.2.1, nb_add]
          exact nb_sub (a := ck + pt) (b := 1) (by omega)
        rw [ea]
        have hF4 := hF3.setal (a := ck + pt - 1) (by omega)
        have g4 : oi (fun y k => y = M ∧ (k = 58 ∨ k = 59)) D3 (ob_pI (ob_pI D3 M 59 1) M 58 (N32 (ck + pt - 1))) := (oi.pI ⟨rfl, Or.inr rfl⟩).tr (oi.pI ⟨rfl, Or.inl rfl⟩)
        exact ⟨_, rfl, hx3.kp (hx3.1.uCr (g4.mono (fun y k e => by omega)) hF4) g4 (by omega) (by omega) (by omega) (by omega), gA.tr (g4.mono (fun y k e => by omega))⟩
      | some a =>
        rw [if_neg (show ¬ bI (some a).isSome = 0 from (show ¬ (1 : Int32) = 0 by decide))]
        exact ⟨D3, rfl, hx3, gA⟩
    · rw [if_neg (by rw [show (1 : Int32) = N32 1 from rfl, nb_eq (by omega) (by decide)]; exact hL), if_neg hL]
      exact ⟨D3, rfl, hx3, gA⟩
  unfold f_Model_watch w_wat
  simp only [hcp]
  rw [a49.1, if_pos (by omega), a49.2, if_pos hin, v21, hp]
  simp only [ob_bd]
  rw [a51.1, if_pos (by omega), a51.2, if_pos hin, v23]
  by_cases h1 : w_par f.2.2.2.1 z < f.2.2.2.2.2.1
  · rw [if_pos h1, if_pos (Or.inl h1)]
    exact h39
  · rw [if_neg h1, a52.1, if_pos (by omega), a52.2, if_pos hin, v24]
    by_cases h2 : f.2.2.2.2.2.2.1 < w_par f.2.2.2.1 z
    · rw [if_pos h2, if_pos (Or.inr h2)]
      exact h39
    · rw [if_neg h2, a55.1, if_pos (show M + 27 ≠ 0 by omega), a55.2, if_pos hin, if_neg (by rintro (e | e); exact h1 e; exact h2 e)]
      simp only [ob_lt]
      obtain ⟨hx1, g1⟩ := wm_lset h hi 0
      exact ⟨_, rfl, hx1, g1⟩
