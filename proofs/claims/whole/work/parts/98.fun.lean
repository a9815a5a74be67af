-- ===== functions =====
def ff_v (k v mo : Nat) : Nat := if k = 1 then (if v < 8 then (if mo = 0 then 19 else 0) else 18) else if k = 2 then (if v ≤ 2 then (if mo = 0 ∧ v = 2 then 19 else 0) else 18) else if k = 3 then (if v < 32 then 0 else 18) else 18
def w_fun (c : List Nat) : sW → sW
  | (gt, rc, A, on, ev, lm, ch, frs, rp, (wi, mo, ck, al, hd, fa, br), fm, me) => if c.getD 11 0 = 1 then (gt, rc, A, on, ev, lm, ch, frs, rp, (up wi (8 + c.getD 12 0) (N32 (nn c 13 4)), mo, ck, al, hd, fa, br), fm, me) else if c.getD 11 0 = 2 then (gt, rc, A, on, (cr_mode (c.getD 12 0) ((wi, mo, ck, al, hd, fa, br), ev)).2, lm, ch, frs, rp, (cr_mode (c.getD 12 0) ((wi, mo, ck, al, hd, fa, br), ev)).1, fm, me) else (gt, rc, A, on, ev_raise (c.getD 12 0) (N32 (nn c 13 4)) ev, lm, ch, frs, rp, (wi, mo, ck, al, hd, fa, br), fm, me)
theorem ff_0 {k v mo : Nat} (h : ff_v k v mo = 0) : (k = 1 ∧ v < 8) ∨ (k = 2 ∧ v < 3) ∨ (k = 3 ∧ v < 32) := by
  unfold ff_v at h
  by_cases h1 : k = 1
  · rw [if_pos h1] at h
    by_cases h2 : v < 8
    · exact Or.inl ⟨h1, h2⟩
    · rw [if_neg h2] at h; exact absurd h (by decide)
  · rw [if_neg h1] at h
    by_cases h2 : k = 2
    · rw [if_pos h2] at h
      by_cases h3 : v ≤ 2
      · exact Or.inr (Or.inl ⟨h2, by omega⟩)
      · rw [if_neg h3] at h; exact absurd h (by decide)
    · rw [if_neg h2] at h
      by_cases h3 : k = 3
      · rw [if_pos h3] at h
        by_cases h4 : v < 32
        · exact Or.inr (Or.inr ⟨h3, h4⟩)
        · rw [if_neg h4] at h; exact absurd h (by decide)
      · rw [if_neg h3] at h; exact absurd h (by decide)
theorem hc_funfail {S : ob_S} {D : ob_D} {B m fr k v pt : Nat} {cr : sCr} (h : cHd S D B m fr) (hF : cCrF D (B + 29 + 2 * m + 80 + 2 * fr + 7) pt cr) (hk : k < 256) (hv : v < 256) : f_Handler_functionFailure S (B + 29 + 2 * m + 80 + 2 * fr + 9) (N32 k) (N32 v) D = some (N32 (ff_v k v cr.2.1), D) := by
  obtain ⟨wi, mo, ck, al, hd, fa, br⟩ := cr
  have v7 : D.1 (B + 29 + 2 * m + 80 + 2 * fr + 7) 7 = N32 mo := hF.2.1
  have hmo : mo < 3 := hF.2.2.1
  unfold f_Handler_functionFailure ff_v
  show _ = some (N32 (if k = 1 then (if v < 8 then (if mo = 0 then 19 else 0) else 18) else if k = 2 then (if v ≤ 2 then (if mo = 0 ∧ v = 2 then 19 else 0) else 18) else if k = 3 then (if v < 32 then 0 else 18) else 18), D)
  by_cases h1 : k = 1
  · rw [if_pos h1, if_pos (by rw [h1]; rfl)]
    by_cases h2 : v < 8
    · rw [if_pos h2, if_pos (by rw [show (8 : Int32) = N32 8 from rfl, nb_lt (by omega) (by decide)]; exact h2), h.1, if_pos (by omega), v7]
      by_cases h3 : mo = 0
      · rw [if_pos h3, if_pos (by rw [h3]; rfl)]; rfl
      · rw [if_neg h3, if_neg (by rw [show (0 : Int32) = N32 0 from rfl, nb_eq (by omega) (by decide)]; exact h3)]; rfl
    · rw [if_neg h2, if_neg (by rw [show (8 : Int32) = N32 8 from rfl, nb_lt (by omega) (by decide)]; exact h2)]; rfl
  rw [if_neg h1, if_neg (by rw [show (1 : Int32) = N32 1 from rfl, nb_eq (by omega) (by decide)]; exact h1)]
  by_cases h2 : k = 2
  · rw [if_pos h2, if_pos (by rw [h2]; rfl)]
    by_cases h3 : v ≤ 2
    · rw [if_pos h3, if_pos (by rw [show (2 : Int32) = N32 2 from rfl, nb_le (by omega) (by decide)]; exact h3), h.1, if_pos (by omega), v7]
      by_cases h4 : mo = 0
      · rw [if_pos (by rw [h4]; rfl)]
        by_cases h5 : v = 2
        · rw [if_pos (by rw [h5]; rfl), if_pos ⟨h4, h5⟩]; rfl
        · rw [if_neg (by rw [show (2 : Int32) = N32 2 from rfl, nb_eq (by omega) (by decide)]; exact h5), if_neg (fun e => h5 e.2)]; rfl
      · rw [if_neg (by rw [show (0 : Int32) = N32 0 from rfl, nb_eq (by omega) (by decide)]; exact h4), if_neg (fun e => h4 e.1)]; rfl
    · rw [if_neg h3, if_neg (by rw [show (2 : Int32) = N32 2 from rfl, nb_le (by omega) (by decide)]; exact h3)]; rfl
  rw [if_neg h2, if_neg (by rw [show (2 : Int32) = N32 2 from rfl, nb_eq (by omega) (by decide)]; exact h2)]
  by_cases h3 : k = 3
  · rw [if_pos h3, if_pos (by rw [h3]; rfl)]
    by_cases h4 : v < 32
    · rw [if_pos h4, evc_there h4]; rfl
    · rw [if_neg h4, evc_there0 h4 (by omega)]; rfl
  · rw [if_neg h3, if_neg (by rw [show (3 : Int32) = N32 3 from rfl, nb_eq (by omega) (by decide)]; exact h3)]; rfl
theorem hc_fun {S : ob_S} {D : ob_D} {B m fr F w pt : Nat} {z : sW} {c : List Nat} (h : cX S D B m fr F w pt z c) (hf : ff_v (c.getD 11 0) (c.getD 12 0) z.2.2.2.2.2.2.2.2.2.1.2.1 = 0) : ∃ D', f_Handler_performFunction S (B + 29 + 2 * m + 80 + 2 * fr + 9) (N32 (c.getD 11 0)) (N32 (c.getD 12 0)) (N32 (nn c 13 4)) D = some D' ∧ cX S D' B m fr F w pt (w_fun c z) c ∧ og (cReg B m fr) D D' := by
  obtain ⟨gt, rc, A, on, ev, lm, ch, frs, rp, ⟨wi, mo, ck, al, hd, fa, br⟩, fm, me⟩ := z
  obtain ⟨hW, ⟨p, hp⟩, hc⟩ := h
  have hH := hW.hd
  have hA := hW.2.2.2.2.2.2.2.1
  have hF := hW.2.2.2.2.2.2.2.2.1
  have hE := hW.2.2.2.1
  obtain ⟨k, hk⟩ : ∃ k, k = c.getD 11 0 := ⟨_, rfl⟩
  obtain ⟨v, hv⟩ : ∃ v, v = c.getD 12 0 := ⟨_, rfl⟩
  have ek : w_fun c (gt, rc, A, on, ev, lm, ch, frs, rp, (wi, mo, ck, al, hd, fa, br), fm, me) = if k = 1 then (gt, rc, A, on, ev, lm, ch, frs, rp, (up wi (8 + v) (N32 (nn c 13 4)), mo, ck, al, hd, fa, br), fm, me) else if k = 2 then (gt, rc, A, on, (cr_mode v ((wi, mo, ck, al, hd, fa, br), ev)).2, lm, ch, frs, rp, (cr_mode v ((wi, mo, ck, al, hd, fa, br), ev)).1, fm, me) else (gt, rc, A, on, ev_raise v (N32 (nn c 13 4)) ev, lm, ch, frs, rp, (wi, mo, ck, al, hd, fa, br), fm, me) := by rw [hk, hv]; rfl
  rw [← hk, ← hv] at hf ⊢
  rw [ek]
  unfold f_Handler_performFunction
  rcases ff_0 hf with ⟨h1, h2⟩ | ⟨h1, h2⟩ | ⟨h1, h2⟩
  · rw [if_pos h1, if_pos (by rw [h1]; rfl), hH.1, if_pos (by omega)]
    have e8 : (8 : Int32) + N32 v = N32 (8 + v) := nb_add 8 v
    have g : oi (fun y q => y = B + 29 + 2 * m + 80 + 2 * fr + 8) D (ob_pI D (B + 29 + 2 * m + 80 + 2 * fr + 8) (8 + v) (N32 (nn c 13 4))) := oi.pI rfl
    refine ⟨ob_pI D (B + 29 + 2 * m + 80 + 2 * fr + 8) (8 + v) (N32 (nn c 13 4)), ?_, ⟨hW.uCr (g.up.mono (fun y q e => by omega)) ?_, ⟨p, hp.keep g.up (by omega) (by omega) rfl⟩, hc.keep g.up (by omega) (by omega) rfl⟩, g.up.mono (fun y q e => by omega)⟩
    · unfold f_Craft_actuate
      have r6 : D.2.1 (B + 29 + 2 * m + 80 + 2 * fr + 7) 6 = B + 29 + 2 * m + 80 + 2 * fr + 8 := hA.2.2.2.2.2.1
      have s16 : S.2.1 (B + 29 + 2 * m + 80 + 2 * fr + 8) = 16 := hA.2.2.2.2.2.2
      rw [if_neg (by rw [nb_neg (by omega)]; exact id), if_neg (by rw [show (8 : Int32) = N32 8 from rfl, nb_le (by decide) (by omega)]; omega), r6, if_pos (by omega), e8, s16, if_pos (by rw [nb_in (by omega)]; omega), nb_clamp (by omega)]
      rfl
    · obtain ⟨c1, c2, c3, c4, c5, c6, c7, c8, c9, c10, c11⟩ := hF
      refine ⟨fun i hi => ?_, by rw [g.2 _ _ (by omega)]; exact c2, c3, by rw [g.2 _ _ (by omega)]; exact c4, by rw [g.2 _ _ (by omega)]; exact c5, c6, by rw [g.2 _ _ (by omega)]; exact c7, by rw [g.2 _ _ (by omega)]; exact c8, by rw [g.2 _ _ (by omega)]; exact c9, by rw [g.2 _ _ (by omega)]; exact c10, c11⟩
      show (ob_pI D (B + 29 + 2 * m + 80 + 2 * fr + 8) (8 + v) (N32 (nn c 13 4))).1 (B + 29 + 2 * m + 80 + 2 * fr + 8) i = _
      by_cases hi2 : i = 8 + v
      · rw [hi2, pI_self, up_self]
      · rw [pI_ne (by omega), up_ne _ _ hi2]; exact c1 i hi
  · rw [if_neg (show ¬ k = 1 by omega), if_pos h1, if_neg (by rw [h1]; decide), if_pos (by rw [h1]; rfl), hH.1, if_pos (by omega)]
    obtain ⟨D', t1, t2, t3, t4⟩ := crc_mode hA hF hE (by omega) (by omega) h2
    rw [t1]
    refine ⟨D', rfl, ⟨hW.uCe (t4.mono (fun y q e => by omega)) t2 t3, ⟨p, hp.keep t4 (by omega) (by omega) rfl⟩, hc.keep t4 (by omega) (by omega) rfl⟩, t4.mono (fun y q e => by omega)⟩
  · rw [if_neg (show ¬ k = 1 by omega), if_neg (show ¬ k = 2 by omega), if_neg (by rw [h1]; decide), if_neg (by rw [h1]; decide), if_pos (by rw [h1]; rfl), hH.2.2.2.1, if_pos (by omega)]
    obtain ⟨D', t1, t2, t3⟩ := evc_raise hE h2 (N32 (nn c 13 4))
    rw [t1]
    refine ⟨D', rfl, ⟨hW.uEv (t3.mono (fun y q e => by omega)) t2, ⟨p, hp.keep t3 (by omega) (by omega) rfl⟩, hc.keep t3 (by omega) (by omega) rfl⟩, t3.mono (fun y q e => by omega)⟩
-- ===== functions, in the reference =====
theorem wm_funfail {S : ob_S} {D : ob_D} {M pt : Nat} {cr : sCr} {c : List Nat} (hA : mA S D M) (hc : mCm D M c) (hF : mCr D M pt cr) (hl : 14 ≤ c.length) : f_Model_functionFailure S M D = some (N32 (ff_v (c.getD 11 0) (c.getD 12 0) cr.2.1), D) := by
  obtain ⟨wi, mo, ck, al, hd, fa, br⟩ := cr
  have v40 : D.1 M 40 = N32 mo := hF.2.1
  have hmo : mo < 3 := hF.2.2.1
  have b11 := by_getD_lt hc.2.2.2 11
  have b12 := by_getD_lt hc.2.2.2 12
  have d1 : f_Model_data S M 1 D = some (N32 (c.getD 12 0), D) := wm_data hA hc (i := 1) (by omega)
  unfold f_Model_functionFailure
  rw [wm_d0 hA hc hl]
  simp only [ob_bd]
  rw [d1]
  simp only [ob_bd]
  show _ = some (N32 (ff_v (c.getD 11 0) (c.getD 12 0) mo), D)
  generalize c.getD 11 0 = k at *
  generalize c.getD 12 0 = v at *
  unfold f_Model_functionFailure_L44 f_Model_functionFailure_L62 ff_v
  rw [v40]
  by_cases h1 : k = 1
  · rw [if_pos h1, h1, if_neg (by decide), if_neg (by decide), if_pos (by decide)]
    by_cases h2 : v < 8
    · rw [if_pos h2, if_pos (by rw [show (7 : Int32) = N32 7 from rfl, nb_le (by omega) (by decide)]; omega), if_pos (by decide)]
      by_cases h3 : mo = 0
      · rw [if_pos h3, if_pos (by rw [h3]; rfl)]; rfl
      · rw [if_neg h3, if_neg (by rw [show (0 : Int32) = N32 0 from rfl, nb_eq (by omega) (by decide)]; exact h3), if_neg (by decide)]; rfl
    · rw [if_neg h2, if_neg (by rw [show (7 : Int32) = N32 7 from rfl, nb_le (by omega) (by decide)]; omega)]; rfl
  rw [if_neg h1]
  by_cases h2 : k = 2
  · rw [if_pos h2, h2, if_neg (by decide), if_neg (by decide), if_neg (by decide), if_pos (by decide)]
    by_cases h3 : v ≤ 2
    · rw [if_pos h3, if_pos (by rw [show (2 : Int32) = N32 2 from rfl, nb_le (by omega) (by decide)]; exact h3), if_neg (by decide), if_pos (by decide)]
      by_cases h4 : mo = 0
      · rw [if_pos (by rw [h4]; rfl)]
        by_cases h5 : v = 2
        · rw [if_pos (by rw [h5]; rfl), if_pos ⟨h4, h5⟩]; rfl
        · rw [if_neg (by rw [show (2 : Int32) = N32 2 from rfl, nb_eq (by omega) (by decide)]; exact h5), if_neg (fun e => h5 e.2)]; rfl
      · rw [if_neg (by rw [show (0 : Int32) = N32 0 from rfl, nb_eq (by omega) (by decide)]; exact h4), if_neg (fun e => h4 e.1)]; rfl
    · rw [if_neg h3, if_neg (by rw [show (2 : Int32) = N32 2 from rfl, nb_le (by omega) (by decide)]; exact h3)]; rfl
  rw [if_neg h2]
  by_cases h3 : k = 3
  · rw [if_pos h3, h3, if_neg (by decide), if_neg (by decide), if_neg (by decide), if_neg (by decide)]
    by_cases h4 : v < 32
    · rw [if_pos h4, if_pos (by rw [show (31 : Int32) = N32 31 from rfl, nb_le (by omega) (by decide)]; omega), if_neg (by decide), if_neg (by decide)]; rfl
    · rw [if_neg h4, if_neg (by rw [show (31 : Int32) = N32 31 from rfl, nb_le (by omega) (by decide)]; omega)]; rfl
  · rw [if_neg h3]
    by_cases h0 : k < 1
    · rw [if_pos (by rw [show (1 : Int32) = N32 1 from rfl, nb_lt (by omega) (by decide)]; exact h0)]; rfl
    · rw [if_neg (by rw [show (1 : Int32) = N32 1 from rfl, nb_lt (by omega) (by decide)]; exact h0), if_pos (by rw [show (3 : Int32) = N32 3 from rfl, nb_lt (by decide) (by omega)]; omega)]; rfl
theorem mReg_u0 {S : ob_S} {D : ob_D} {M m fr F w pt : Nat} {z z' : sW} {c : List Nat} {D' : ob_D} {P : Nat → Nat → Prop} (h : mX S D M m fr F w pt z c) (hW : mW S D' M m fr F w pt z') (g : oi P D D') (h70 : ¬ P M 70) (h28 : ¬ P M 28) (h7 : ∀ k, ¬ P (M + 7) k) (h35 : ∀ k, ¬ P (M + 35) k) (hr : ∀ y k, P y k → mReg M y k) : mX S D' M m fr F w pt z' c ∧ oi (mReg M) D D' := by
  obtain ⟨-, ⟨p, hp⟩, hc⟩ := h
  exact ⟨⟨hW, ⟨p, hp.keep g.up h70 h35⟩, hc.keep g.up h28 h7⟩, g.mono hr⟩
theorem wm_fun {S : ob_S} {D : ob_D} {M m fr F w pt : Nat} {z : sW} {c : List Nat} (h : mX S D M m fr F w pt z c) (hl : 17 ≤ c.length) (hf : ff_v (c.getD 11 0) (c.getD 12 0) z.2.2.2.2.2.2.2.2.2.1.2.1 = 0) : ∃ D', f_Model_actFunction S M D = some D' ∧ mX S D' M m fr F w pt (w_fun c z) c ∧ oi (mReg M) D D' := by
  have h0 := h
  obtain ⟨gt, rc, A, on, ev, lm, ch, frs, rp, ⟨wi, mo, ck, al, hd, fa, br⟩, fm, me⟩ := z
  obtain ⟨hW, -, hc⟩ := h
  have hA := hW.mA
  have a39 : D.2.1 M 39 = M + 15 ∧ S.2.1 (M + 15) = 8 := hA.1 (39, 15, 8) (by decide)
  have hF := hW.2.2.2.2.2.2.2.2.2.1
  have hE := hW.2.2.2.2.1
  obtain ⟨k, hk⟩ : ∃ k, k = c.getD 11 0 := ⟨_, rfl⟩
  obtain ⟨v, hv⟩ : ∃ v, v = c.getD 12 0 := ⟨_, rfl⟩
  have ek : w_fun c (gt, rc, A, on, ev, lm, ch, frs, rp, (wi, mo, ck, al, hd, fa, br), fm, me) = if k = 1 then (gt, rc, A, on, ev, lm, ch, frs, rp, (up wi (8 + v) (N32 (nn c 13 4)), mo, ck, al, hd, fa, br), fm, me) else if k = 2 then (gt, rc, A, on, (cr_mode v ((wi, mo, ck, al, hd, fa, br), ev)).2, lm, ch, frs, rp, (cr_mode v ((wi, mo, ck, al, hd, fa, br), ev)).1, fm, me) else (gt, rc, A, on, ev_raise v (N32 (nn c 13 4)) ev, lm, ch, frs, rp, (wi, mo, ck, al, hd, fa, br), fm, me) := by rw [hk, hv]; rfl
  have d0 : f_Model_data S M 0 D = some (N32 k, D) := by rw [hk]; exact wm_d0 hA hc (by omega)
  have d1 : f_Model_data S M 1 D = some (N32 v, D) := by rw [hv]; exact wm_data hA hc (i := 1) (by omega)
  have d2 : f_Model_dataFour S M 2 D = some (N32 (nn c 13 4), D) := wm_data4 hA hc (i := 2) (by omega)
  rw [← hk, ← hv] at hf
  rw [ek]
  unfold f_Model_actFunction
  rw [d0]
  simp only [ob_bd]
  rw [d1]
  simp only [ob_bd]
  rw [d2]
  simp only [ob_bd]
  rcases ff_0 hf with ⟨h1, h2⟩ | ⟨h1, h2⟩ | ⟨h1, h2⟩
  · rw [if_pos h1, if_pos (by rw [h1]; rfl), a39.1, if_pos (by omega), a39.2, if_pos (by rw [nb_in (by omega)]; exact h2), nb_clamp (by omega)]
    have g : oi (fun y q => y = M + 15) D (ob_pI D (M + 15) v (N32 (nn c 13 4))) := oi.pI rfl
    have hW' : mW S (ob_pI D (M + 15) v (N32 (nn c 13 4))) M m fr F w pt (gt, rc, A, on, ev, lm, ch, frs, rp, (up wi (8 + v) (N32 (nn c 13 4)), mo, ck, al, hd, fa, br), fm, me) := by
      apply hW.uCr (g.mono (fun y q e => by omega))
      obtain ⟨c1, c2, c3, c4, c5, c6, c7, c8, c9, c10, c11⟩ := hF
      refine ⟨fun i hi => ⟨?_, ?_⟩, by rw [g.2 _ _ (by omega)]; exact c2, c3, by rw [g.2 _ _ (by omega)]; exact c4, by rw [g.2 _ _ (by omega)]; exact c5, fun x hx => ⟨by rw [g.2 _ _ (by omega)]; exact (c6 x hx).1, (c6 x hx).2⟩, by rw [g.2 _ _ (by omega)]; exact c7, by rw [g.2 _ _ (by omega)]; exact c8, by rw [g.2 _ _ (by omega)]; exact c9, by rw [g.2 _ _ (by omega)]; exact c10, c11⟩
      · rw [pI_ne (by omega), up_ne _ _ (by omega)]; exact (c1 i hi).1
      · by_cases hi2 : i = v
        · rw [hi2, pI_self, up_self]
        · rw [pI_ne (by omega), up_ne _ _ (by omega)]; exact (c1 i hi).2
    exact ⟨_, rfl, mReg_u0 h0 hW' g (by omega) (by omega) (by omega) (by omega) (fun y q e => by omega)⟩
  · rw [if_neg (show ¬ k = 1 by omega), if_pos h1, if_neg (by rw [h1]; decide), if_pos (by rw [h1]; rfl)]
    obtain ⟨D', t1, t2, t3, t4⟩ := crm_mode hA hF hE h2
    rw [t1]
    exact ⟨D', rfl, mReg_u0 h0 (hW.uCe (t4.mono (fun y q e => by omega)) t2 t3) t4 (by omega) (by omega) (by omega) (by omega) (fun y q e => by omega)⟩
  · rw [if_neg (show ¬ k = 1 by omega), if_neg (show ¬ k = 2 by omega), if_neg (by rw [h1]; decide), if_neg (by rw [h1]; decide)]
    obtain ⟨D', t1, t2, t3⟩ := evm_raise hA hE h2 (N32 (nn c 13 4))
    rw [t1]
    exact ⟨D', rfl, mReg_u0 h0 (hW.uEv (t3.mono (fun y q e => by omega)) t2) t3 (by omega) (by omega) (by omega) (by omega) (fun y q e => by omega)⟩
