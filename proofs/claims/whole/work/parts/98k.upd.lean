-- ===== more changes of the whole =====
theorem cW.uTtC {S : ob_S} {D D' : ob_D} {B m fr F w pt : Nat} {gt : sGt} {rc : sRc} {A : List sEn} {on : Bool} {ev : sEv} {lm : List sLm} {ch : sCh} {frs : List (List Nat)} {rp : sRp} {cr : sCr} {fm : List sFm} {me : List Nat} {A' : List sEn} {on' : Bool} (h : cW S D B m fr F w pt (gt, rc, A, on, ev, lm, ch, frs, rp, cr, fm, me)) (a : og (fun y _ => (B + 26 ≤ y ∧ y < B + 29 + 2 * m) ∨ (B + 121 + 2 * m + 2 * fr ≤ y ∧ y < B + 123 + 2 * m + 2 * fr)) D D') (hn : cTt S D' (B + 26) m (tt_sort A') on') : cW S D' B m fr F w pt (gt, rc, A', on', ev, lm, ch, frs, rp, cr, fm, me) := by
  obtain ⟨h1, h2, h3, h4, h5, h6, h7, h8, h9, h10, h11, h12⟩ := h
  exact ⟨h1.keep a (by omega) (fun _ _ _ => rfl), h2.keep a (by omega) (fun _ _ _ => rfl), hn, h4.keep a (by omega) (fun _ _ _ => rfl), h5.keep a (by omega) (by omega) rfl, h6.keep a (by omega) (fun _ _ _ => rfl), h7.keep a (by omega) (fun _ _ _ => rfl), h8.keep a (by omega) rfl, h9.keep a (by omega) (by omega), h10.keep a (by omega) (by omega) rfl, h11.keep a (by omega) (by omega) rfl, h12.keep a (by omega) rfl⟩
theorem cW.uGtC {S : ob_S} {D D' : ob_D} {B m fr F w pt : Nat} {gt : sGt} {rc : sRc} {A : List sEn} {on : Bool} {ev : sEv} {lm : List sLm} {ch : sCh} {frs : List (List Nat)} {rp : sRp} {cr : sCr} {fm : List sFm} {me : List Nat} {gt' : sGt} (h : cW S D B m fr F w pt (gt, rc, A, on, ev, lm, ch, frs, rp, cr, fm, me)) (a : og (fun y _ => (B + 8 ≤ y ∧ y < B + 26) ∨ (B + 121 + 2 * m + 2 * fr ≤ y ∧ y < B + 123 + 2 * m + 2 * fr)) D D') (hn : cGt S D' (B + 8) gt') : cW S D' B m fr F w pt (gt', rc, A, on, ev, lm, ch, frs, rp, cr, fm, me) := by
  obtain ⟨h1, h2, h3, h4, h5, h6, h7, h8, h9, h10, h11, h12⟩ := h
  exact ⟨hn, h2.keep a (by omega) (fun _ _ _ => rfl), h3.keep a (by omega) (fun _ _ _ => rfl), h4.keep a (by omega) (fun _ _ _ => rfl), h5.keep a (by omega) (by omega) rfl, h6.keep a (by omega) (fun _ _ _ => rfl), h7.keep a (by omega) (fun _ _ _ => rfl), h8.keep a (by omega) rfl, h9.keep a (by omega) (by omega), h10.keep a (by omega) (by omega) rfl, h11.keep a (by omega) (by omega) rfl, h12.keep a (by omega) rfl⟩
theorem cW.uRc {S : ob_S} {D D' : ob_D} {B m fr F w pt : Nat} {gt : sGt} {rc : sRc} {A : List sEn} {on : Bool} {ev : sEv} {lm : List sLm} {ch : sCh} {frs : List (List Nat)} {rp : sRp} {cr : sCr} {fm : List sFm} {me : List Nat} {rc' : sRc} (h : cW S D B m fr F w pt (gt, rc, A, on, ev, lm, ch, frs, rp, cr, fm, me)) (a : og (fun y _ => y < B + 3 ∨ (B + 5 ≤ y ∧ y < B + 8)) D D') (hn : cRc S D' (B + 5) rc') : cW S D' B m fr F w pt (gt, rc', A, on, ev, lm, ch, frs, rp, cr, fm, me) := by
  obtain ⟨h1, h2, h3, h4, h5, h6, h7, h8, h9, h10, h11, h12⟩ := h
  exact ⟨h1.keep a (by omega) (fun _ _ _ => rfl), hn, h3.keep a (by omega) (fun _ _ _ => rfl), h4.keep a (by omega) (fun _ _ _ => rfl), h5.keep a (by omega) (by omega) rfl, h6.keep a (by omega) (fun _ _ _ => rfl), h7.keep a (by omega) (fun _ _ _ => rfl), h8.keep a (by omega) rfl, h9.keep a (by omega) (by omega), h10.keep a (by omega) (by omega) rfl, h11.keep a (by omega) (by omega) rfl, h12.keep a (by omega) rfl⟩
theorem cW.uT {S : ob_S} {D D' : ob_D} {B m fr F w pt : Nat} {gt : sGt} {rc : sRc} {A : List sEn} {on : Bool} {ev : sEv} {lm : List sLm} {ch : sCh} {frs : List (List Nat)} {rp : sRp} {cr : sCr} {fm : List sFm} {me : List Nat} (h : cW S D B m fr F w pt (gt, rc, A, on, ev, lm, ch, frs, rp, cr, fm, me)) (a : og (fun y _ => y < B + 3) D D') : cW S D' B m fr F w pt (gt, rc, A, on, ev, lm, ch, frs, rp, cr, fm, me) := by
  obtain ⟨h1, h2, h3, h4, h5, h6, h7, h8, h9, h10, h11, h12⟩ := h
  exact ⟨h1.keep a (by omega) (fun _ _ _ => rfl), h2.keep a (by omega) (fun _ _ _ => rfl), h3.keep a (by omega) (fun _ _ _ => rfl), h4.keep a (by omega) (fun _ _ _ => rfl), h5.keep a (by omega) (by omega) rfl, h6.keep a (by omega) (fun _ _ _ => rfl), h7.keep a (by omega) (fun _ _ _ => rfl), h8.keep a (by omega) rfl, h9.keep a (by omega) (by omega), h10.keep a (by omega) (by omega) rfl, h11.keep a (by omega) (by omega) rfl, h12.keep a (by omega) rfl⟩
theorem mW.uGt {S : ob_S} {D D' : ob_D} {M m fr F w pt : Nat} {gt : sGt} {rc : sRc} {A : List sEn} {on : Bool} {ev : sEv} {lm : List sLm} {ch : sCh} {frs : List (List Nat)} {rp : sRp} {cr : sCr} {fm : List sFm} {me : List Nat} {gt' : sGt} (h : mW S D M m fr F w pt (gt, rc, A, on, ev, lm, ch, frs, rp, cr, fm, me)) (a : oi (fun y k => (y = M ∧ (k = 16 ∨ k = 17 ∨ k = 19 ∨ k = 20 ∨ k = 21 ∨ k = 22 ∨ k = 23 ∨ k = 26)) ∨ y = M + 5 ∨ y = M + 6) D D') (hn : mGt S D' M gt') : mW S D' M m fr F w pt (gt', rc, A, on, ev, lm, ch, frs, rp, cr, fm, me) := by
  obtain ⟨h1, h2, h3, h4, h5, h6, h7, h8, h9, h10, h11, h12, h13⟩ := h
  exact ⟨h1.kp a, hn, h3.keep a.up (fun y k e => by unfold mRcP at e; omega) (by omega) (fun _ _ _ => rfl), h4.keep a.up (by omega) (by omega) (by omega), h5.keep a.up (by omega) (by omega) (by omega), h6.keep a.up (by omega) (by omega), ⟨h7.1.keep a.up (by omega) (by omega) (by omega), h7.2⟩, h8.keep a.up (by omega), h9.keep a.up (by omega) (by omega) (by omega), h10.keep a.up (by omega) (by omega) (by omega), h11.keep a.up (by omega) (by omega), ⟨h12.1.keep a.up (fun k _ _ => by omega), h12.2⟩, ⟨by rw [a.2 _ _ (by omega)]; exact h13.1, by rw [a.2 _ _ (by omega)]; exact h13.2.1, by rw [a.2 _ _ (by omega)]; exact h13.2.2.1, by rw [a.2 _ _ (by omega)]; exact h13.2.2.2⟩⟩
theorem mW.uRc {S : ob_S} {D D' : ob_D} {M m fr F w pt : Nat} {gt : sGt} {rc : sRc} {A : List sEn} {on : Bool} {ev : sEv} {lm : List sLm} {ch : sCh} {frs : List (List Nat)} {rp : sRp} {cr : sCr} {fm : List sFm} {me : List Nat} {rc' : sRc} (h : mW S D M m fr F w pt (gt, rc, A, on, ev, lm, ch, frs, rp, cr, fm, me)) (a : oi (fun y k => (y = M ∧ (k = 8 ∨ k = 9 ∨ k = 10 ∨ k = 12 ∨ k = 14 ∨ k = 15)) ∨ y = M + 2 ∨ y = M + 3 ∨ y = M + 4) D D') (hn : mRc S D' M rc') : mW S D' M m fr F w pt (gt, rc', A, on, ev, lm, ch, frs, rp, cr, fm, me) := by
  obtain ⟨h1, h2, h3, h4, h5, h6, h7, h8, h9, h10, h11, h12, h13⟩ := h
  exact ⟨h1.kp a, h2.keep a.up (fun y k e => by unfold mGtP at e; omega) (by omega) (fun _ _ _ => rfl), hn, h4.keep a.up (by omega) (by omega) (by omega), h5.keep a.up (by omega) (by omega) (by omega), h6.keep a.up (by omega) (by omega), ⟨h7.1.keep a.up (by omega) (by omega) (by omega), h7.2⟩, h8.keep a.up (by omega), h9.keep a.up (by omega) (by omega) (by omega), h10.keep a.up (by omega) (by omega) (by omega), h11.keep a.up (by omega) (by omega), ⟨h12.1.keep a.up (fun k _ _ => by omega), h12.2⟩, ⟨by rw [a.2 _ _ (by omega)]; exact h13.1, by rw [a.2 _ _ (by omega)]; exact h13.2.1, by rw [a.2 _ _ (by omega)]; exact h13.2.2.1, by rw [a.2 _ _ (by omega)]; exact h13.2.2.2⟩⟩
abbrev cY (S : ob_S) (D : ob_D) (B m fr F w pt : Nat) (z : sW) : Prop := ∃ c, cX S D B m fr F w pt z c
abbrev mY (S : ob_S) (D : ob_D) (M m fr F w pt : Nat) (z : sW) : Prop := ∃ c, mX S D M m fr F w pt z c
theorem nd_er (k : Int32) : ∀ (A : List sEn) (i : Nat), i < A.length → (A.getD i (0, [])).1 ≤ k → nd k (A.eraseIdx i) + 1 = nd k A
  | [], i, h, _ => absurd h (Nat.not_lt_zero i)
  | e :: A, 0, _, h => by
    have h : e.1 ≤ k := h
    show nd k A + 1 = nd k (e :: A)
    unfold nd
    rw [List.countP_cons, if_pos (by rw [decide_eq_true_eq]; exact h)]
  | e :: A, i + 1, hi, h => by
    have ih := nd_er k A i (by simpa using hi) (by simpa using h)
    show nd k (e :: A.eraseIdx i) + 1 = nd k (e :: A)
    unfold nd at ih ⊢
    rw [List.countP_cons, List.countP_cons]
    omega
theorem nd_le (k : Int32) (A : List sEn) : nd k A ≤ A.length := List.countP_le_length
theorem dc_pop {S : ob_S} {D : ob_D} {B m fr F w pt i : Nat} {gt : sGt} {rc : sRc} {A : List sEn} {on : Bool} {ev : sEv} {lm : List sLm} {ch : sCh} {frs : List (List Nat)} {rp : sRp} {cr : sCr} {fm : List sFm} {me c : List Nat} (h : cX S D B m fr F w pt (gt, rc, A, on, ev, lm, ch, frs, rp, cr, fm, me) c) (hi : i < A.length) (hr : tt_rk A i A.length = 0) : tt_sort A = A.getD i (0, []) :: tt_sort (A.eraseIdx i) ∧ ∃ D', f_Timetable_takeFirst S (B + 26) (B + 29 + 2 * m + 80 + 2 * fr + 12) D = some D' ∧ cX S D' B m fr F w pt (gt, rc, A.eraseIdx i, on, ev, lm, ch, frs, rp, cr, fm, me) (A.getD i (0, [])).2 ∧ D'.1 (B + 26) 3 = bI on ∧ og (cReg B m fr) D D' := by
  obtain ⟨hW, ⟨p, hp⟩, hc⟩ := h
  have htt : cTt S D (B + 26) m (tt_sort A) on := hW.2.2.1
  have hk := (tt_rank A).1 i hi
  rw [hr] at hk
  have hln := tt_sort_len A
  rcases hs : tt_sort A with _ | ⟨e, L⟩
  · rw [hs] at hln
    have : A.length = 0 := by rw [← hln]; rfl
    omega
  · rw [hs] at hk htt
    have he : e = A.getD i (0, []) := hk.2.1
    have hL : tt_sort (A.eraseIdx i) = L := hk.2.2
    rw [he] at htt
    refine ⟨by rw [hL, he], ?_⟩
    obtain ⟨D', t1, t2, t3, t4⟩ := ttc_take htt hc (by decide) ⟨by omega, by omega⟩
    rw [← hL] at t2
    refine ⟨D', t1, ⟨hW.uTtC (t4.mono (fun y k e => by omega)) t2, ⟨p, hp.keep t4 (by omega) (by omega) rfl⟩, t3⟩, t2.2.2.2.2, t4.mono (fun y k e => by omega)⟩
