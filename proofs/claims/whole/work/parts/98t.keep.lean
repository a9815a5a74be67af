-- ===== the whole is kept by what happens elsewhere =====
abbrev cAll (B m fr : Nat) : Nat → Nat → Prop := fun y _ => B ≤ y ∧ y < B + 29 + 2 * m + 80 + 2 * fr + 14
abbrev mAll (M : Nat) : Nat → Nat → Prop := fun y _ => M ≤ y ∧ y < M + 50
theorem cW.kp {S S' : ob_S} {D D' : ob_D} {B m fr F w pt : Nat} {z : sW} {P : Nat → Nat → Prop} (h : cW S D B m fr F w pt z) (a : og P D D') (hP : ∀ y k, B + 3 ≤ y → y < B + 29 + 2 * m + 80 + 2 * fr + 14 → ¬ P y k) (hS : ∀ y, B + 3 ≤ y → y < B + 29 + 2 * m + 80 + 2 * fr + 14 → S'.2.1 y = S.2.1 y) (hK : ∀ y, B + 3 ≤ y → y < B + 29 + 2 * m + 80 + 2 * fr + 14 → S'.1 y = S.1 y) : cW S' D' B m fr F w pt z := by
  obtain ⟨gt, rc, A, on, ev, lm, ch, frs, rp, cr, fm, me⟩ := z
  obtain ⟨h1, h2, h3, h4, h5, h6, h7, h8, h9, h10, h11, h12⟩ := h
  exact ⟨h1.keep a (fun y k u v => hP y k (by omega) (by omega)) (fun y u v => hS y (by omega) (by omega)), h2.keep a (fun y k u v => hP y k (by omega) (by omega)) (fun y u v => hS y (by omega) (by omega)), h3.keep a (fun y k u v => hP y k (by omega) (by omega)) (fun y u v => hS y (by omega) (by omega)), h4.keep a (fun y k u v => hP y k (by omega) (by omega)) (fun y u v => hS y (by omega) (by omega)), h5.keep a (fun k => hP _ k (by omega) (by omega)) (fun k => hP _ k (by omega) (by omega)) (hS _ (by omega) (by omega)), h6.keep a (fun y k u v => hP y k (by omega) (by omega)) (fun y u v => hS y (by omega) (by omega)), h7.keep a (fun y k u v _ => hP y k (by omega) (by omega)) (fun y u v => hS y (by omega) (by omega)), h8.keep a (fun k _ _ => hP _ k (by omega) (by omega)) (hS _ (by omega) (by omega)), h9.keep a (fun k => hP _ k (by omega) (by omega)) (fun k => hP _ k (by omega) (by omega)), h10.keep a (fun k => hP _ k (by omega) (by omega)) (fun k => hP _ k (by omega) (by omega)) (hS _ (by omega) (by omega)), h11.keep a (fun k => hP _ k (by omega) (by omega)) (fun k => hP _ k (by omega) (by omega)) (hS _ (by omega) (by omega)), h12.keep a (fun k => hP _ k (by omega) (by omega)) (hK _ (by omega) (by omega))⟩
theorem cY.kp {S S' : ob_S} {D D' : ob_D} {B m fr F w pt : Nat} {z : sW} {P : Nat → Nat → Prop} (h : cY S D B m fr F w pt z) (a : og P D D') (hP : ∀ y k, B + 3 ≤ y → y < B + 29 + 2 * m + 80 + 2 * fr + 14 → ¬ P y k) (hS : ∀ y, B + 3 ≤ y → y < B + 29 + 2 * m + 80 + 2 * fr + 14 → S'.2.1 y = S.2.1 y) (hK : ∀ y, B + 3 ≤ y → y < B + 29 + 2 * m + 80 + 2 * fr + 14 → S'.1 y = S.1 y) : cY S' D' B m fr F w pt z := by
  obtain ⟨c, hW, ⟨p, hp⟩, hc⟩ := h
  exact ⟨c, hW.kp a hP hS hK, ⟨p, rw_at.keep hp a (fun k => hP _ k (by omega) (by omega)) (fun k => hP _ k (by omega) (by omega)) (hS _ (by omega) (by omega))⟩, rw_at.keep hc a (fun k => hP _ k (by omega) (by omega)) (fun k => hP _ k (by omega) (by omega)) (hS _ (by omega) (by omega))⟩
theorem mA.kg {S S' : ob_S} {D D' : ob_D} {M : Nat} {P : Nat → Nat → Prop} (h : mA S D M) (a : og P D D') (h0 : ∀ t ∈ mtab, ¬ P M t.1) (h1 : ∀ v, v < 2 → ¬ P (M + 41) v ∧ ¬ P (M + 44) v) (hS : ∀ y, M ≤ y → y < M + 50 → S'.2.1 y = S.2.1 y) : mA S' D' M := by
  refine ⟨fun t ht => ?_, fun v hv => ?_⟩
  · have hb : ∀ t ∈ mtab, t.2.1 < 50 := by decide
    have := hb t ht
    rw [(a _ _ (h0 t ht)).2.1, hS _ (by omega) (by omega)]
    exact h.1 t ht
  · rw [(a _ _ (h1 v hv).1).2.1, (a _ _ (h1 v hv).2).2.1, hS _ (by omega) (by omega), hS _ (by omega) (by omega)]
    exact h.2 v hv
theorem mW.kp {S S' : ob_S} {D D' : ob_D} {M m fr F w pt : Nat} {z : sW} {P : Nat → Nat → Prop} (h : mW S D M m fr F w pt z) (a : og P D D') (hP : ∀ y k, M ≤ y → y < M + 50 → ¬ P y k) (hS : ∀ y, M ≤ y → y < M + 50 → S'.2.1 y = S.2.1 y) : mW S' D' M m fr F w pt z := by
  obtain ⟨gt, rc, A, on, ev, lm, ch, frs, rp, cr, fm, me⟩ := z
  obtain ⟨h1, h2, h3, h4, h5, h6, h7, h8, h9, h10, h11, h12, h13⟩ := h
  have hM : ∀ k, ¬ P M k := fun k => hP M k (by omega) (by omega)
  exact ⟨h1.kg a (fun t _ => hM _) (fun v _ => ⟨hP _ _ (by omega) (by omega), hP _ _ (by omega) (by omega)⟩) hS, h2.keep a (fun y k e => by unfold mGtP at e; exact hP y k (by omega) (by omega)) (fun k _ => hM k) hS, h3.keep a (fun y k e => by unfold mRcP at e; exact hP y k (by omega) (by omega)) (fun k _ => hM k) hS, h4.keep a (hM _) (hM _) (fun y k u v => hP y k (by omega) (by omega)), h5.keep a (hM _) (hM _) (fun y k u v => hP y k (by omega) (by omega)), h6.keep a (hM _) (fun y k u v => hP y k (by omega) (by omega)), ⟨h7.1.keep a (hM _) (fun k => hP _ k (by omega) (by omega)) (fun y k u => hP y k (by omega) (by omega)), h7.2⟩, h8.keep a (fun k => hP _ k (by omega) (by omega)), h9.keep a (hM _) (fun k _ => hM k) (fun y k u v => hP y k (by omega) (by omega)), h10.keep a (fun k _ => hM k) (fun k => hP _ k (by omega) (by omega)) (fun k => hP _ k (by omega) (by omega)), h11.keep a (hM _) (fun y k u v => hP y k (by omega) (by omega)), ⟨h12.1.keep a (fun k _ _ => hP _ k (by omega) (by omega)), h12.2⟩, ⟨by rw [(a _ _ (hM _)).1]; exact h13.1, by rw [(a _ _ (hM _)).1]; exact h13.2.1, by rw [(a _ _ (hM _)).1]; exact h13.2.2.1, by rw [(a _ _ (hM _)).1]; exact h13.2.2.2⟩⟩
theorem mY.kp {S S' : ob_S} {D D' : ob_D} {M m fr F w pt : Nat} {z : sW} {P : Nat → Nat → Prop} (h : mY S D M m fr F w pt z) (a : og P D D') (hP : ∀ y k, M ≤ y → y < M + 50 → ¬ P y k) (hS : ∀ y, M ≤ y → y < M + 50 → S'.2.1 y = S.2.1 y) : mY S' D' M m fr F w pt z := by
  obtain ⟨c, hW, ⟨p, hp⟩, hc⟩ := h
  exact ⟨c, hW.kp a hP hS, ⟨p, hp.keep a (hP _ _ (by omega) (by omega)) (fun k => hP _ k (by omega) (by omega))⟩, hc.keep a (hP _ _ (by omega) (by omega)) (fun k => hP _ k (by omega) (by omega))⟩
theorem mW.uTp {S : ob_S} {D D' : ob_D} {M m fr F w pt : Nat} {gt : sGt} {rc : sRc} {A : List sEn} {on : Bool} {ev : sEv} {lm : List sLm} {ch : sCh} {frs : List (List Nat)} {rp : sRp} {cr : sCr} {fm : List sFm} {me : List Nat} (h : mW S D M m fr F w pt (gt, rc, A, on, ev, lm, ch, frs, rp, cr, fm, me)) (a : oi (fun y k => (y = M ∧ k = 7) ∨ y = M + 1) D D') : mW S D' M m fr F w pt (gt, rc, A, on, ev, lm, ch, frs, rp, cr, fm, me) := by
  obtain ⟨h1, h2, h3, h4, h5, h6, h7, h8, h9, h10, h11, h12, h13⟩ := h
  exact ⟨h1.kp a, h2.keep a.up (fun y k e => by unfold mGtP at e; omega) (by omega) (fun _ _ _ => rfl), h3.keep a.up (fun y k e => by unfold mRcP at e; omega) (by omega) (fun _ _ _ => rfl), h4.keep a.up (by omega) (by omega) (by omega), h5.keep a.up (by omega) (by omega) (by omega), h6.keep a.up (by omega) (by omega), ⟨h7.1.keep a.up (by omega) (by omega) (by omega), h7.2⟩, h8.keep a.up (by omega), h9.keep a.up (by omega) (by omega) (by omega), h10.keep a.up (by omega) (by omega) (by omega), h11.keep a.up (by omega) (by omega), ⟨h12.1.keep a.up (fun k _ _ => by omega), h12.2⟩, ⟨by rw [a.2 _ _ (by omega)]; exact h13.1, by rw [a.2 _ _ (by omega)]; exact h13.2.1, by rw [a.2 _ _ (by omega)]; exact h13.2.2.1, by rw [a.2 _ _ (by omega)]; exact h13.2.2.2⟩⟩
-- ===== with the tape =====
def mTp (D : ob_D) (M : Nat) (t : List Nat) : Prop := ba D (M + 1) 0 t ∧ D.1 M 7 = N32 t.length ∧ t.length ≤ 4096
theorem mTp.keep {D D' : ob_D} {M : Nat} {t : List Nat} {P : Nat → Nat → Prop} (h : mTp D M t) (a : og P D D') (h7 : ¬ P M 7) (h1 : ∀ k, ¬ P (M + 1) k) : mTp D' M t := ⟨h.1.keep a (fun k _ _ => h1 k), by rw [(a _ _ h7).1]; exact h.2.1, h.2.2⟩
abbrev cC (S : ob_S) (D : ob_D) (B m fr F w pt : Nat) (z : sW) (t : List Nat) : Prop := cBx D B m fr ∧ rw_at S D (B + 1) (B + 2) 4096 t ∧ cY S D B m fr F w pt z
abbrev mC (S : ob_S) (D : ob_D) (M m fr F w pt : Nat) (z : sW) (t : List Nat) : Prop := mY S D M m fr F w pt z ∧ mTp D M t
theorem cC.kp {S S' : ob_S} {D D' : ob_D} {B m fr F w pt : Nat} {z : sW} {t : List Nat} {P : Nat → Nat → Prop} (h : cC S D B m fr F w pt z t) (a : og P D D') (hP : ∀ y k, B ≤ y → y < B + 29 + 2 * m + 80 + 2 * fr + 14 → ¬ P y k) (hS : ∀ y, B ≤ y → y < B + 29 + 2 * m + 80 + 2 * fr + 14 → S'.2.1 y = S.2.1 y) (hK : ∀ y, B ≤ y → y < B + 29 + 2 * m + 80 + 2 * fr + 14 → S'.1 y = S.1 y) : cC S' D' B m fr F w pt z t := ⟨h.1.keep a (fun k => hP _ k (by omega) (by omega)), h.2.1.keep a (fun k => hP _ k (by omega) (by omega)) (fun k => hP _ k (by omega) (by omega)) (hS _ (by omega) (by omega)), h.2.2.kp a (fun y k u v => hP y k (by omega) (by omega)) (fun y u v => hS y (by omega) (by omega)) (fun y u v => hK y (by omega) (by omega))⟩
theorem mC.kp {S S' : ob_S} {D D' : ob_D} {M m fr F w pt : Nat} {z : sW} {t : List Nat} {P : Nat → Nat → Prop} (h : mC S D M m fr F w pt z t) (a : og P D D') (hP : ∀ y k, M ≤ y → y < M + 50 → ¬ P y k) (hS : ∀ y, M ≤ y → y < M + 50 → S'.2.1 y = S.2.1 y) : mC S' D' M m fr F w pt z t := ⟨h.1.kp a hP hS, h.2.keep a (hP _ _ (by omega) (by omega)) (fun k => hP _ k (by omega) (by omega))⟩
-- the reference forgets what it threw
theorem mC.five {S : ob_S} {D : ob_D} {M m fr F w pt : Nat} {z : sW} {t : List Nat} (x : Int32) (h : mC S D M m fr F w pt z t) : mC S (ob_pI D M 5 x) M m fr F w pt z t ∧ oi (mAll M) D (ob_pI D M 5 x) := by
  obtain ⟨⟨c, hm⟩, ht⟩ := h
  have g0 : oi (fun y k => y = M ∧ k = 5) D (ob_pI D M 5 x) := oi.pI ⟨rfl, rfl⟩
  obtain ⟨gt, rc, A, on, ev, lm, ch, frs, rp, cr, fm, me⟩ := z
  exact ⟨⟨⟨c, hm.kp (hm.1.u0 (g0.mono (fun y k e => by omega))) g0 (by omega) (by omega) (by omega) (by omega)⟩, ht.keep g0.up (by omega) (by omega)⟩, g0.mono (fun y k e => by omega)⟩
-- ===== both calls on one memory =====
theorem two_calls {S : ob_S} {D : ob_D} {B M m fr F w pt : Nat} {z z' : sW} {t t' : List Nat} {x : Int32} {fc fm : ob_D → Option (Int32 × ob_D)} (hM : B + 29 + 2 * m + 80 + 2 * fr + 14 ≤ M) (hm : mC S D M m fr F w pt z t) (Hc : ∃ D1, fc D = some (x, D1) ∧ cC S D1 B m fr F w pt z' t' ∧ og (cAll B m fr) D D1) (Hm : ∀ D1, mC S D1 M m fr F w pt z t → ∃ D2, fm D1 = some (x, D2) ∧ mC S D2 M m fr F w pt z' t' ∧ og (mAll M) D1 D2) : ∃ D1 D2, fc D = some (x, D1) ∧ fm D1 = some (x, D2) ∧ cC S D2 B m fr F w pt z' t' ∧ mC S D2 M m fr F w pt z' t' ∧ og (fun y _ => B ≤ y ∧ y < M + 50) D D2 := by
  obtain ⟨D1, a1, a2, a3⟩ := Hc
  obtain ⟨D2, b1, b2, b3⟩ := Hm D1 (hm.kp a3 (fun y k u v => by omega) (fun _ _ _ => rfl))
  exact ⟨D1, D2, a1, b1, a2.kp b3 (fun y k u v => by omega) (fun _ _ _ => rfl) (fun _ _ _ => rfl), b2, (a3.mono (fun y k e => by omega)).tr (b3.mono (fun y k e => by omega))⟩
-- ===== feed =====
theorem cf_feed {S : ob_S} {D : ob_D} {B m fr F w pt : Nat} {z : sW} {t : List Nat} (h : cC S D B m fr F w pt z t) (v1 v2 v3 v4 v5 : Int32) : ∃ D1, f_Box_feed S B v1 v2 v3 v4 v5 D = some (if t.length + 20 ≤ 4096 then 1 else 0, D1) ∧ cC S D1 B m fr F w pt z (if t.length + 20 ≤ 4096 then t ++ by_be v1 4 ++ by_be v2 4 ++ by_be v3 4 ++ by_be v4 4 ++ by_be v5 4 else t) ∧ og (cAll B m fr) D D1 := by
  obtain ⟨hB, hw, hY⟩ := h
  have hl := hw.2.2.2.2.2.1
  have e20 : ((D.1 (B + 1) 1 + (20 : Int32)) ≤ (4096 : Int32)) = (t.length + 20 ≤ 4096) := by
    rw [hw.2.2.2.2.1, show (20 : Int32) = N32 20 from rfl, nb_add, show (4096 : Int32) = N32 4096 from rfl, nb_le (by omega) (by decide)]
  unfold f_Box_feed
  rw [hB.1, if_pos (by omega)]
  by_cases hr : t.length + 20 ≤ 4096
  · rw [if_pos (by rw [e20]; exact hr), if_pos (by omega), if_pos hr, if_pos hr]
    obtain ⟨D1, a1, a2, a3⟩ := rw_add hw v1 (c := 4) (by decide) (by omega)
    have l1 : (t ++ by_be v1 4).length = t.length + 4 := by rw [List.length_append, by_be_len]
    obtain ⟨D2, b1, b2, b3⟩ := rw_add a2 v2 (c := 4) (by decide) (by omega)
    have l2 : (t ++ by_be v1 4 ++ by_be v2 4).length = t.length + 8 := by rw [List.length_append, by_be_len]; omega
    obtain ⟨D3, c1, c2, c3⟩ := rw_add b2 v3 (c := 4) (by decide) (by omega)
    have l3 : (t ++ by_be v1 4 ++ by_be v2 4 ++ by_be v3 4).length = t.length + 12 := by rw [List.length_append, by_be_len]; omega
    obtain ⟨D4, d1, d2, d3⟩ := rw_add c2 v4 (c := 4) (by decide) (by omega)
    have l4 : (t ++ by_be v1 4 ++ by_be v2 4 ++ by_be v3 4 ++ by_be v4 4).length = t.length + 16 := by rw [List.length_append, by_be_len]; omega
    obtain ⟨D5, e1, e2, e3⟩ := rw_add d2 v5 (c := 4) (by decide) (by omega)
    have a1 : f_Row_add S (B + 1) v1 4 D = some D1 := a1
    have b1 : f_Row_add S (B + 1) v2 4 D1 = some D2 := b1
    have c1 : f_Row_add S (B + 1) v3 4 D2 = some D3 := c1
    have d1 : f_Row_add S (B + 1) v4 4 D3 = some D4 := d1
    have e1 : f_Row_add S (B + 1) v5 4 D4 = some D5 := e1
    have r1 : D1.2.1 B 0 = B + 1 := by rw [a3.1]; exact hB.1
    have r2 : D2.2.1 B 0 = B + 1 := by rw [b3.1]; exact r1
    have r3 : D3.2.1 B 0 = B + 1 := by rw [c3.1]; exact r2
    have r4 : D4.2.1 B 0 = B + 1 := by rw [d3.1]; exact r3
    rw [a1]
    simp only [ob_bv]
    rw [r1, if_pos (by omega), b1]
    simp only []
    rw [r2, if_pos (by omega), c1]
    simp only []
    rw [r3, if_pos (by omega), d1]
    simp only []
    rw [r4, if_pos (by omega), e1]
    have g := ((((a3.tr b3).tr c3).tr d3).tr e3).up
    exact ⟨D5, rfl, ⟨hB.keep g (by omega), e2, hY.kp g (by omega) (fun _ _ _ => rfl) (fun _ _ _ => rfl)⟩, g.mono (fun y k e => by omega)⟩
  · rw [if_neg (by rw [e20]; exact hr), if_neg hr, if_neg hr]
    exact ⟨D, rfl, ⟨hB, hw, hY⟩, og.rf⟩
def fd_r (ws : Nat → Int32) : Nat → Nat → List Nat
  | 0, _ => []
  | d + 1, i => by_of (ws (i / 4)) (3 - i % 4) :: fd_r ws d (i + 1)
theorem fd_r_all (ws : Nat → Int32) (t : List Nat) : t ++ fd_r ws 20 0 = t ++ by_be (ws 0) 4 ++ by_be (ws 1) 4 ++ by_be (ws 2) 4 ++ by_be (ws 3) 4 ++ by_be (ws 4) 4 := by
  rw [List.append_assoc, List.append_assoc, List.append_assoc, List.append_assoc]
  rfl
theorem fd_byte (s : Int32) (i : Nat) (hi : i < 20) : ((s >>> (((24 : Int32) - ((8 : Int32) * (N32 i - N32 i / (4 : Int32) * (4 : Int32)))) &&& 31)).toInt8.toInt32).toInt8.toInt32 = sb (by_of s (3 - i % 4)) := by
  have e : N32 i - N32 i / (4 : Int32) * (4 : Int32) = N32 (i % 4) := n_rem i 4 (by omega) (by decide)
  rw [e]
  have b0 : (s >>> ((0 : Int32) &&& 31)).toInt8.toInt32 = sb (by_of s 0) := by_ofs s (j := 0) (by decide)
  have b1 : (s >>> ((8 : Int32) &&& 31)).toInt8.toInt32 = sb (by_of s 1) := by_ofs s (j := 1) (by decide)
  have b2 : (s >>> ((16 : Int32) &&& 31)).toInt8.toInt32 = sb (by_of s 2) := by_ofs s (j := 2) (by decide)
  have b3 : (s >>> ((24 : Int32) &&& 31)).toInt8.toInt32 = sb (by_of s 3) := by_ofs s (j := 3) (by decide)
  rcases (show i % 4 = 0 ∨ i % 4 = 1 ∨ i % 4 = 2 ∨ i % 4 = 3 by omega) with h | h | h | h <;> rw [h]
  · rw [show (24 : Int32) - (8 : Int32) * N32 0 = 24 by decide, b3, sb_sb]
  · rw [show (24 : Int32) - (8 : Int32) * N32 1 = 16 by decide, b2, sb_sb]
  · rw [show (24 : Int32) - (8 : Int32) * N32 2 = 8 by decide, b1, sb_sb]
  · rw [show (24 : Int32) - (8 : Int32) * N32 3 = 0 by decide, b0, sb_sb]
theorem mf_feed_L {S : ob_S} {M : Nat} (ws : Nat → Int32) : ∀ (d n i : Nat) (D : ob_D) (t : List Nat), i + d = 20 → d < n → t.length + d ≤ 4096 → mA S D M → mTp D M t → ∃ D', f_Model_feed_L23 S n M (ws 0) (ws 1) (ws 2) (ws 3) (ws 4) (N32 i) D = some (1, D') ∧ mTp D' M (t ++ fd_r ws d i) ∧ oi (fun y k => (y = M ∧ k = 7) ∨ y = M + 1) D D' := by
  intro d
  induction d with
  | zero =>
    intro n i D t hi hn hl hA ht
    match n, hn with
    | n + 1, _ =>
      have hi' : i = 20 := by omega
      subst hi'
      rw [f_Model_feed_L23, if_pos (by decide)]
      refine ⟨D, rfl, ?_, oi.rf⟩
      rw [fd_r, List.append_nil]
      exact ht
  | succ d ih =>
    intro n i D t hi hn hl hA ht
    match n, hn with
    | n + 1, hn =>
      have a6 : D.2.1 M 6 = M + 1 ∧ S.2.1 (M + 1) = 4096 := hA.1 (6, 1, 4096) (by decide)
      have c4 : ((4 : Int32) ≤ N32 i) = (4 ≤ i) := nb_le (a := 4) (by decide) (by omega)
      have c8 : ((8 : Int32) ≤ N32 i) = (8 ≤ i) := nb_le (a := 8) (by decide) (by omega)
      have c12 : ((12 : Int32) ≤ N32 i) = (12 ≤ i) := nb_le (a := 12) (by decide) (by omega)
      have c16 : ((16 : Int32) ≤ N32 i) = (16 ≤ i) := nb_le (a := 16) (by decide) (by omega)
      have c20 : ((20 : Int32) ≤ N32 i) = (20 ≤ i) := nb_le (a := 20) (by decide) (by omega)
      have hst : f_Model_feed_L23 S (n + 1) M (ws 0) (ws 1) (ws 2) (ws 3) (ws 4) (N32 i) D = f_Model_feed_L76 S (fun a0 a1 a2 a3 a4 a5 a6 d => f_Model_feed_L23 S n a0 a1 a2 a3 a4 a5 a6 d) M (ws 0) (ws 1) (ws 2) (ws 3) (ws 4) (N32 i) (ws (i / 4)) D := by
        rw [f_Model_feed_L23, if_neg (by rw [c20]; omega)]
        rcases (show i / 4 = 0 ∨ i / 4 = 1 ∨ i / 4 = 2 ∨ i / 4 = 3 ∨ i / 4 = 4 by omega) with e | e | e | e | e
        · rw [e, if_neg (by rw [c4]; omega)]
        · rw [e, if_pos (by rw [c4]; omega), if_neg (by rw [c8]; omega)]
        · rw [e, if_pos (by rw [c4]; omega), if_pos (by rw [c8]; omega), if_neg (by rw [c12]; omega)]
        · rw [e, if_pos (by rw [c4]; omega), if_pos (by rw [c8]; omega), if_pos (by rw [c12]; omega), if_neg (by rw [c16]; omega)]
        · rw [e, if_pos (by rw [c4]; omega), if_pos (by rw [c8]; omega), if_pos (by rw [c12]; omega), if_pos (by rw [c16]; omega)]
      rw [hst, f_Model_feed_L76, a6.1, if_pos (by omega), ht.2.1, a6.2]
      simp only [ob_lt]
      rw [if_pos (show ob_in (N32 t.length) 4096 by rw [nb_in (by omega)]; omega), nb_clamp (by omega), fd_byte _ i (by omega), show N32 t.length + (1 : Int32) = N32 (t.length + 1) from nb_add _ 1, show N32 i + (1 : Int32) = N32 (i + 1) from nb_add _ 1]
      have g : oi (fun y k => (y = M ∧ k = 7) ∨ (y = M + 1 ∧ k = t.length)) D (ob_pI (ob_pI D M 7 (N32 (t.length + 1))) (M + 1) t.length (sb (by_of (ws (i / 4)) (3 - i % 4)))) := (oi.pI (Or.inl ⟨rfl, rfl⟩)).tr (oi.pI (Or.inr ⟨rfl, rfl⟩))
      have ht' : mTp (ob_pI (ob_pI D M 7 (N32 (t.length + 1))) (M + 1) t.length (sb (by_of (ws (i / 4)) (3 - i % 4)))) M (t ++ [by_of (ws (i / 4)) (3 - i % 4)]) := by
        refine ⟨ba_snoc (ht.1.keep g.up (by omega)) (by_of_lt _ _) (by rw [Nat.zero_add, pI_self]), by rw [pI_ne (by omega), pI_self, List.length_append]; rfl, by rw [List.length_append, List.length_singleton]; omega⟩
      obtain ⟨D', r1, r2, r3⟩ := ih n (i + 1) _ _ (by omega) (by omega) (by rw [List.length_append, List.length_singleton]; omega) (hA.kp g) ht'
      refine ⟨D', r1, ?_, (g.mono (fun y k e => by omega)).tr r3⟩
      rw [List.append_assoc] at r2
      exact r2
theorem mf_feed {S : ob_S} {D : ob_D} {M m fr F w pt : Nat} {z : sW} {t : List Nat} (h : mC S D M m fr F w pt z t) (v1 v2 v3 v4 v5 : Int32) : ∃ D1, f_Model_feed S M v1 v2 v3 v4 v5 D = some (if t.length + 20 ≤ 4096 then 1 else 0, D1) ∧ mC S D1 M m fr F w pt z (if t.length + 20 ≤ 4096 then t ++ by_be v1 4 ++ by_be v2 4 ++ by_be v3 4 ++ by_be v4 4 ++ by_be v5 4 else t) ∧ og (mAll M) D D1 := by
  obtain ⟨h, g0⟩ := h.five 0
  unfold f_Model_feed
  simp only [ob_lt]
  generalize ob_pI D M 5 0 = D1 at h g0
  obtain ⟨⟨c, hm⟩, ht⟩ := h
  have hl := ht.2.2
  have e20 : ((D1.1 M 7 + (20 : Int32)) ≤ (4096 : Int32)) = (t.length + 20 ≤ 4096) := by
    rw [ht.2.1, show (20 : Int32) = N32 20 from rfl, nb_add, show (4096 : Int32) = N32 4096 from rfl, nb_le (by omega) (by decide)]
  by_cases hr : t.length + 20 ≤ 4096
  · rw [if_pos (by rw [e20]; exact hr), if_pos hr, if_pos hr]
    obtain ⟨D', r1, r2, r3⟩ := mf_feed_L (fun i => match i with | 0 => v1 | 1 => v2 | 2 => v3 | 3 => v4 | _ => v5) 20 ob_FU 0 D1 t (by omega) (by rw [ob_FU_eq]; omega) hr hm.1.mA ht
    rw [fd_r_all] at r2
    refine ⟨D', r1, ⟨⟨c, ?_⟩, r2⟩, (g0.mono (fun y k e => by omega)).up.tr (r3.mono (fun y k e => by omega)).up⟩
    obtain ⟨gt, rc, A, on, ev, lm, ch, frs, rp, cr, fm, me⟩ := z
    exact hm.kp (hm.1.uTp r3) r3 (by omega) (by omega) (by omega) (by omega)
  · rw [if_neg (by rw [e20]; exact hr), if_neg hr, if_neg hr]
    exact ⟨D1, rfl, ⟨⟨c, hm⟩, ht⟩, g0.up⟩
-- ===== end =====
theorem nb_of {x : Int32} (h : ¬ x < 0) : ∃ n, n < 2147483648 ∧ x = N32 n := by
  have h0 : 0 ≤ x.toInt := by
    rw [Int32.lt_iff_toInt_lt] at h
    have : (0 : Int32).toInt = 0 := by decide
    omega
  have h1 := Int32.toInt_lt x
  refine ⟨x.toInt.toNat, by omega, ?_⟩
  apply Int32.toInt_inj.mp
  rw [nb_toInt (by omega)]
  omega
theorem rw_cut {S : ob_S} {D : ob_D} {a b cap n : Nat} {l : List Nat} (h : rw_at S D a b cap l) (hn : n ≤ l.length) : rw_at S (ob_pI D a 1 (N32 n)) a b cap (l.take n) := by
  obtain ⟨h1, h2, h3, h4, h5, h6, h7, h8, h9⟩ := h
  refine ⟨h1, h2, h3, h4, by rw [pI_self, List.length_take, Nat.min_eq_left hn], by rw [List.length_take]; omega, h7, fun i hi => ?_, fun x hx => h9 x (List.mem_of_mem_take hx)⟩
  rw [List.length_take] at hi
  rw [pI_ne (by omega), h8 i (by omega)]
  rw [List.getD_eq_getElem?_getD, List.getD_eq_getElem?_getD, List.getElem?_take_of_lt (by omega)]
theorem mTp.cut {D : ob_D} {M n : Nat} {t : List Nat} (h : mTp D M t) (hn : n ≤ t.length) : mTp (ob_pI D M 7 (N32 n)) M (t.take n) := by
  obtain ⟨⟨h1, h2⟩, h3, h4⟩ := h
  refine ⟨⟨fun i hi => ?_, fun x hx => h2 x (List.mem_of_mem_take hx)⟩, by rw [pI_self, List.length_take, Nat.min_eq_left hn], by rw [List.length_take]; omega⟩
  rw [List.length_take] at hi
  rw [pI_ne (by omega), h1 i (by omega)]
  rw [List.getD_eq_getElem?_getD, List.getD_eq_getElem?_getD, List.getElem?_take_of_lt (by omega)]
def en_x (v : Int32) (t : List Nat) : Int32 := if v < 0 then 0 else if v ≤ N32 t.length then 1 else 0
def en_t (v : Int32) (t : List Nat) : List Nat := if v < 0 then t else if v ≤ N32 t.length then t.take v.toNatClampNeg else t
theorem cf_end {S : ob_S} {D : ob_D} {B m fr F w pt : Nat} {z : sW} {t : List Nat} (h : cC S D B m fr F w pt z t) (v : Int32) : ∃ D1, f_Box_end S B v D = some (en_x v t, D1) ∧ cC S D1 B m fr F w pt z (en_t v t) ∧ og (cAll B m fr) D D1 := by
  obtain ⟨hB, hw, hY⟩ := h
  have hl := hw.2.2.2.2.2.1
  unfold f_Box_end en_x en_t
  by_cases hv : v < 0
  · rw [if_pos hv, if_pos hv, if_pos hv]
    exact ⟨D, rfl, ⟨hB, hw, hY⟩, og.rf⟩
  · obtain ⟨n, hn, hvn⟩ := nb_of hv
    rw [if_neg hv, if_neg hv, if_neg hv, hB.1, if_pos (by omega), hw.2.2.2.2.1]
    by_cases hle : v ≤ N32 t.length
    · rw [if_pos hle, if_pos hle, if_pos hle, if_pos (by omega)]
      simp only [ob_lt]
      rw [hvn, nb_le (by omega) (by omega)] at hle
      have hk : v.toNatClampNeg = n := by rw [hvn]; exact nb_clamp hn
      have hw' := rw_cut hw hle
      have g : og (fun y k => y = B + 1) D (ob_pI D (B + 1) 1 (N32 n)) := og.pI rfl
      rw [hk, hvn]
      exact ⟨_, rfl, ⟨hB.keep g (by omega), hw', hY.kp g (by omega) (fun _ _ _ => rfl) (fun _ _ _ => rfl)⟩, g.mono (fun y k e => by omega)⟩
    · rw [if_neg hle, if_neg hle, if_neg hle]
      exact ⟨D, rfl, ⟨hB, hw, hY⟩, og.rf⟩
theorem mf_end {S : ob_S} {D : ob_D} {M m fr F w pt : Nat} {z : sW} {t : List Nat} (h : mC S D M m fr F w pt z t) (v : Int32) : ∃ D1, f_Model_end S M v D = some (en_x v t, D1) ∧ mC S D1 M m fr F w pt z (en_t v t) ∧ og (mAll M) D D1 := by
  obtain ⟨h, g0⟩ := h.five 0
  unfold f_Model_end en_x en_t
  simp only [ob_lt]
  generalize ob_pI D M 5 0 = D1 at h g0
  obtain ⟨⟨c, hm⟩, ht⟩ := h
  have hl := ht.2.2
  by_cases hv : v < 0
  · rw [if_pos hv, if_pos hv, if_pos hv]
    exact ⟨D1, rfl, ⟨⟨c, hm⟩, ht⟩, g0.up⟩
  · obtain ⟨n, hn, hvn⟩ := nb_of hv
    rw [if_neg hv, if_neg hv, if_neg hv, ht.2.1]
    by_cases hle : v ≤ N32 t.length
    · rw [if_pos hle, if_pos hle, if_pos hle]
      rw [hvn, nb_le (by omega) (by omega)] at hle
      have hk : v.toNatClampNeg = n := by rw [hvn]; exact nb_clamp hn
      have ht' := ht.cut hle
      have g : oi (fun y k => (y = M ∧ k = 7) ∨ y = M + 1) D1 (ob_pI D1 M 7 (N32 n)) := oi.pI (Or.inl ⟨rfl, rfl⟩)
      rw [hk, hvn]
      refine ⟨_, rfl, ⟨⟨c, ?_⟩, ht'⟩, g0.up.tr (g.mono (fun y k e => by omega)).up⟩
      obtain ⟨gt, rc, A, on, ev, lm, ch, frs, rp, cr, fm, me⟩ := z
      exact hm.kp (hm.1.uTp g) g (by omega) (by omega) (by omega) (by omega)
    · rw [if_neg hle, if_neg hle, if_neg hle]
      exact ⟨D1, rfl, ⟨⟨c, hm⟩, ht⟩, g0.up⟩
-- ===== sense =====
def sn_x (v : Int32) : Int32 := if v < 0 then 0 else if v < 8 then 1 else 0
def w_sn (v x : Int32) : sW → sW
  | (gt, rc, A, on, ev, lm, ch, frs, rp, (wi, mo, ck, al, hd, fa, br), fm, me) => (gt, rc, A, on, ev, lm, ch, frs, rp, (if v < 0 then wi else if v < 8 then up wi v.toNatClampNeg x else wi, mo, ck, al, hd, fa, br), fm, me)
theorem w_sn_ck (v x : Int32) (z : sW) : w_ck (w_sn v x z) = w_ck z := by
  obtain ⟨gt, rc, A, on, ev, lm, ch, frs, rp, ⟨wi, mo, ck, al, hd, fa, br⟩, fm, me⟩ := z
  rfl
theorem cf_sense {S : ob_S} {D : ob_D} {B m fr F w pt : Nat} {z : sW} {t : List Nat} (h : cC S D B m fr F w pt z t) (v x : Int32) : ∃ D1, f_Box_sense S B v x D = some (sn_x v, D1) ∧ cC S D1 B m fr F w pt (w_sn v x z) t ∧ og (cAll B m fr) D D1 := by
  obtain ⟨hB, hw, ⟨c, hY⟩⟩ := h
  obtain ⟨gt, rc, A, on, ev, lm, ch, frs, rp, ⟨wi, mo, ck, al, hd, fa, br⟩, fm, me⟩ := z
  unfold f_Box_sense sn_x w_sn
  by_cases hv : v < 0
  · simp only [if_pos hv]
    exact ⟨D, rfl, ⟨hB, hw, ⟨c, hY⟩⟩, og.rf⟩
  · by_cases h8 : v < 8
    · simp only [if_neg hv, if_pos h8]
      obtain ⟨n, hn, hvn⟩ := nb_of hv
      have hn8 : n < 8 := by
        rw [hvn, show (8 : Int32) = N32 8 from rfl, nb_lt hn (by decide)] at h8
        exact h8
      have hk : v.toNatClampNeg = n := by rw [hvn]; exact nb_clamp hn
      have hA := hY.1.2.2.2.2.2.2.2.1
      have hF := hY.1.2.2.2.2.2.2.2.2.1
      have g : og (fun y k => y = B + 29 + 2 * m + 80 + 2 * fr + 8) D (ob_pI D (B + 29 + 2 * m + 80 + 2 * fr + 8) n x) := og.pI rfl
      have hF1 : cCrF (ob_pI D (B + 29 + 2 * m + 80 + 2 * fr + 8) n x) (B + 29 + 2 * m + 80 + 2 * fr + 7) pt (up wi n x, mo, ck, al, hd, fa, br) := by
        obtain ⟨c1, c2, c3, c4, c5, c6, c7, c8, c9, c10, c11⟩ := hF
        refine ⟨fun i hi => ?_, by rw [pI_ne (by omega)]; exact c2, c3, by rw [pI_ne (by omega)]; exact c4, by rw [pI_ne (by omega)]; exact c5, c6, by rw [pI_ne (by omega)]; exact c7, by rw [pI_ne (by omega)]; exact c8, by rw [pI_ne (by omega)]; exact c9, by rw [pI_ne (by omega)]; exact c10, c11⟩
        show (ob_pI D (B + 29 + 2 * m + 80 + 2 * fr + 8) n x).1 (B + 29 + 2 * m + 80 + 2 * fr + 8) i = _
        by_cases hi2 : i = n
        · rw [hi2, pI_self, up_self]
        · rw [pI_ne (by omega), up_ne _ _ hi2]; exact c1 i hi
      have h16 : S.2.1 (B + 29 + 2 * m + 80 + 2 * fr + 8) = 16 := hA.2.2.2.2.2.2
      have h6 : D.2.1 (B + 29 + 2 * m + 80 + 2 * fr + 7) 6 = B + 29 + 2 * m + 80 + 2 * fr + 8 := hA.2.2.2.2.2.1
      have hin : ob_in v 16 := by rw [hvn, nb_in hn]; omega
      rw [hB.2.2.2.2.2.2.2.2.2.1, if_pos (by omega), h6, if_pos (by omega), h16, if_pos hin]
      simp only [ob_lt]
      rw [hk]
      have hx1 := cW.keepX hY (hY.1.uCr (g.mono (fun y k e => by omega)) hF1) g (by omega) (by omega) (by omega) (by omega) (fun y k e => by omega)
      exact ⟨_, rfl, ⟨hB.keep g (by omega), hw.keep g (by omega) (by omega) rfl, ⟨c, hx1.1⟩⟩, g.mono (fun y k e => by omega)⟩
    · simp only [if_neg hv, if_neg h8]
      exact ⟨D, rfl, ⟨hB, hw, ⟨c, hY⟩⟩, og.rf⟩
theorem mf_sense {S : ob_S} {D : ob_D} {M m fr F w pt : Nat} {z : sW} {t : List Nat} (h : mC S D M m fr F w pt z t) (v x : Int32) : ∃ D1, f_Model_sense S M v x D = some (sn_x v, D1) ∧ mC S D1 M m fr F w pt (w_sn v x z) t ∧ og (mAll M) D D1 := by
  obtain ⟨h, g0⟩ := h.five 0
  have e7 : (v ≤ (7 : Int32)) = (v < (8 : Int32)) := by
    rw [Int32.le_iff_toInt_le, Int32.lt_iff_toInt_lt, show (7 : Int32).toInt = 7 by decide, show (8 : Int32).toInt = 8 by decide]
    exact propext ⟨fun e => by omega, fun e => by omega⟩
  obtain ⟨gt, rc, A, on, ev, lm, ch, frs, rp, ⟨wi, mo, ck, al, hd, fa, br⟩, fm, me⟩ := z
  unfold f_Model_sense sn_x w_sn
  simp only [ob_lt, e7]
  generalize ob_pI D M 5 0 = D1 at h g0
  obtain ⟨⟨c, hm⟩, ht⟩ := h
  by_cases hv : v < 0
  · simp only [if_pos hv]
    exact ⟨D1, rfl, ⟨⟨c, hm⟩, ht⟩, g0.up⟩
  · by_cases h8 : v < 8
    · simp only [if_neg hv, if_pos h8]
      obtain ⟨n, hn, hvn⟩ := nb_of hv
      have hn8 : n < 8 := by
        rw [hvn, show (8 : Int32) = N32 8 from rfl, nb_lt hn (by decide)] at h8
        exact h8
      have hk : v.toNatClampNeg = n := by rw [hvn]; exact nb_clamp hn
      have hA := hm.1.mA
      have a38 : D1.2.1 M 38 = M + 14 ∧ S.2.1 (M + 14) = 8 := hA.1 (38, 14, 8) (by decide)
      have hF := hm.1.2.2.2.2.2.2.2.2.2.1
      have g : oi (fun y k => y = M + 14) D1 (ob_pI D1 (M + 14) n x) := oi.pI rfl
      have hF1 : mCr (ob_pI D1 (M + 14) n x) M pt (up wi n x, mo, ck, al, hd, fa, br) := by
        obtain ⟨c1, c2, c3, c4, c5, c6, c7, c8, c9, c10, c11⟩ := hF
        refine ⟨fun i hi => ⟨?_, ?_⟩, by rw [pI_ne (by omega)]; exact c2, c3, by rw [pI_ne (by omega)]; exact c4, by rw [pI_ne (by omega)]; exact c5, fun y hy => ⟨by rw [pI_ne (by omega)]; exact (c6 y hy).1, (c6 y hy).2⟩, by rw [pI_ne (by omega)]; exact c7, by rw [pI_ne (by omega)]; exact c8, by rw [pI_ne (by omega)]; exact c9, by rw [pI_ne (by omega)]; exact c10, c11⟩
        · by_cases hi2 : i = n
          · rw [hi2, pI_self, up_self]
          · rw [pI_ne (by omega), up_ne _ _ hi2]; exact (c1 i hi).1
        · rw [pI_ne (by omega), up_ne _ _ (by omega)]; exact (c1 i hi).2
      have hin : ob_in v 8 := by rw [hvn, nb_in hn]; omega
      rw [a38.1, if_pos (by omega), a38.2, if_pos hin, hk]
      exact ⟨_, rfl, ⟨⟨c, hm.kp (hm.1.uCr (g.mono (fun y k e => by omega)) hF1) g (by omega) (by omega) (by omega) (by omega)⟩, ht.keep g.up (by omega) (by omega)⟩, g0.up.tr (g.mono (fun y k e => by omega)).up⟩
    · simp only [if_neg hv, if_neg h8]
      exact ⟨D1, rfl, ⟨⟨c, hm⟩, ht⟩, g0.up⟩
-- ===== word, memory =====
theorem cf_word {S : ob_S} {D : ob_D} {B m fr F w pt : Nat} {z : sW} {t : List Nat} (h : cC S D B m fr F w pt z t) : f_Box_word S B D = some (N32 (gt_word z.1), D) := by
  obtain ⟨hB, hw, ⟨c, hY⟩⟩ := h
  obtain ⟨gt, rc, A, on, ev, lm, ch, frs, rp, cr, fm, me⟩ := z
  unfold f_Box_word
  rw [hB.2.2.2.1, if_pos (by omega), gtc_word hY.1.1]
  rfl
theorem mf_word {S : ob_S} {D : ob_D} {M m fr F w pt : Nat} {z : sW} {t : List Nat} (h : mC S D M m fr F w pt z t) : ∃ D1, f_Model_word S M D = some (N32 (gt_word z.1), D1) ∧ mC S D1 M m fr F w pt z t ∧ og (mAll M) D D1 := by
  obtain ⟨h, g0⟩ := h.five 0
  unfold f_Model_word
  simp only [ob_lt]
  generalize ob_pI D M 5 0 = D1 at h g0
  refine ⟨D1, ?_, h, g0.up⟩
  obtain ⟨⟨c, hm⟩, ht⟩ := h
  obtain ⟨gt, rc, A, on, ev, lm, ch, frs, rp, cr, fm, me⟩ := z
  rw [gtm_word hm.1.2.1]
  rfl
def me_x (v : Int32) (me : List Nat) : Int32 := if v < 0 then -1 else if 4096 ≤ v then -1 else N32 (me.getD v.toNatClampNeg 0)
theorem cf_memory {S : ob_S} {D : ob_D} {B m fr F w pt : Nat} {z : sW} {t : List Nat} (h : cC S D B m fr F w pt z t) (v : Int32) : f_Box_memory S B v D = some (me_x v z.2.2.2.2.2.2.2.2.2.2.2, D) := by
  obtain ⟨hB, hw, ⟨c, hY⟩⟩ := h
  obtain ⟨gt, rc, A, on, ev, lm, ch, frs, rp, cr, fm, me⟩ := z
  unfold f_Box_memory me_x
  by_cases hv : v < 0
  · rw [if_pos hv, if_pos hv]
  · by_cases h8 : 4096 ≤ v
    · rw [if_neg hv, if_neg hv, if_pos h8, if_pos h8]
    · obtain ⟨n, hn, hvn⟩ := nb_of hv
      have hn8 : n < 4096 := by
        rw [hvn, show (4096 : Int32) = N32 4096 from rfl, nb_le (by decide) hn] at h8
        omega
      have hk : v.toNatClampNeg = n := by rw [hvn]; exact nb_clamp hn
      rw [if_neg hv, if_neg hv, if_neg h8, if_neg h8, hB.2.1, if_pos (by omega), hk, hvn]
      have hme : rw_at S D (B + 3) (B + 4) 4096 me := hY.1.2.2.2.2.2.2.2.2.2.2.1
      have := rw_num hme (f := n) (c := 1) (by decide) (by omega)
      rw [nn_1] at this
      have e : f_Row_number S (B + 3) (N32 n) 1 D = some (N32 (me.getD n 0), D) := this
      rw [e]
      rfl
theorem mf_memory {S : ob_S} {D : ob_D} {M m fr F w pt : Nat} {z : sW} {t : List Nat} (h : mC S D M m fr F w pt z t) (v : Int32) : ∃ D1, f_Model_memory S M v D = some (me_x v z.2.2.2.2.2.2.2.2.2.2.2, D1) ∧ mC S D1 M m fr F w pt z t ∧ og (mAll M) D D1 := by
  obtain ⟨h, g0⟩ := h.five 0
  have e7 : (v ≤ (4095 : Int32)) = ¬ ((4096 : Int32) ≤ v) := by
    rw [Int32.le_iff_toInt_le, Int32.le_iff_toInt_le, show (4095 : Int32).toInt = 4095 by decide, show (4096 : Int32).toInt = 4096 by decide]
    exact propext ⟨fun e => by omega, fun e => by omega⟩
  unfold f_Model_memory me_x
  simp only [ob_lt, e7]
  generalize ob_pI D M 5 0 = D1 at h g0
  refine ⟨D1, ?_, h, g0.up⟩
  obtain ⟨⟨c, hm⟩, ht⟩ := h
  obtain ⟨gt, rc, A, on, ev, lm, ch, frs, rp, cr, fm, me⟩ := z
  by_cases hv : v < 0
  · rw [if_pos hv, if_pos hv]
  · by_cases h8 : 4096 ≤ v
    · rw [if_neg hv, if_neg hv, if_neg (fun e => e h8), if_pos h8]
    · obtain ⟨n, hn, hvn⟩ := nb_of hv
      have hn8 : n < 4096 := by
        rw [hvn, show (4096 : Int32) = N32 4096 from rfl, nb_le (by decide) hn] at h8
        omega
      have hk : v.toNatClampNeg = n := by rw [hvn]; exact nb_clamp hn
      have a37 : D1.2.1 M 37 = M + 13 ∧ S.2.1 (M + 13) = 4096 := hm.1.1.1 (37, 13, 4096) (by decide)
      have hin : ob_in v 4096 := by rw [hvn, nb_in hn]; omega
      have hme := hm.1.2.2.2.2.2.2.2.2.2.2.2.1
      have hml : me.length = 4096 := hme.2
      have hb := hme.1.1 n (by omega)
      rw [Nat.zero_add] at hb
      rw [if_neg hv, if_neg hv, if_pos h8, if_neg h8, a37.1, if_pos (by omega), a37.2, if_pos hin, hk, hb, sb_255 (by_getD_lt hme.1.2 n)]
