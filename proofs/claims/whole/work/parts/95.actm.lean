-- ===== events and actions: what the reference does with them =====
abbrev eamP (M : Nat) : Nat → Nat → Prop := fun y _ => M + 28 ≤ y ∧ y ≤ M + 32
theorem wm_sil {D : ob_D} {M e : Nat} {ev : sEv} (hE : mEv D M ev) (b : Bool) : mEv (ob_pI D (M + 28) e (bI (!b))) M (ev_sil e b ev) ∧ oi (eamP M) D (ob_pI D (M + 28) e (bI (!b))) := by
  obtain ⟨rs, sl, ha, ao, ac, lo⟩ := ev
  obtain ⟨hR, hM, hL⟩ := hE
  have g : oi (fun y k => y = M + 28) D (ob_pI D (M + 28) e (bI (!b))) := oi.pI rfl
  refine ⟨⟨hR.keep g.up (by omega) (by omega) (by omega), fun i hi => ?_, by rw [g.2 _ _ (by omega)]; exact hL⟩, g.mono (fun y k e => by omega)⟩
  obtain ⟨m1, m2, m3, m4⟩ := hM i hi
  refine ⟨?_, by rw [g.2 _ _ (by omega)]; exact m2, by rw [g.2 _ _ (by omega)]; exact m3, fun q => ⟨by rw [g.2 _ _ (by omega)]; exact (m4 q).1, (m4 q).2.1, (m4 q).2.2.keep g.up (fun k _ _ => by omega)⟩⟩
  by_cases hie : i = e
  · rw [hie, pI_self, up_self]
  · rw [pI_ne (by omega), up_ne _ _ hie]; exact m1
theorem wm_dro {S : ob_S} {D : ob_D} {M : Nat} {c : List Nat} {ev : sEv} (hA : mA S D M) (hc : mCm D M c) (hE : mEv D M ev) (he : c.getD 11 0 < 32) (hl : 14 ≤ c.length) : ∃ D', f_Model_actAction S M 2 D = some D' ∧ mEv D' M (ev_dro (c.getD 11 0) ev) ∧ oi (eamP M) D D' := by
  have a61 : D.2.1 M 61 = M + 29 ∧ S.2.1 (M + 29) = 32 := hA.1 (61, 29, 32) (by decide)
  obtain ⟨rs, sl, ha, ao, ac, lo⟩ := ev
  obtain ⟨hR, hM, hL⟩ := hE
  have g : oi (fun y k => y = M + 29) D (ob_pI D (M + 29) (c.getD 11 0) (bI false)) := oi.pI rfl
  refine ⟨ob_pI D (M + 29) (c.getD 11 0) (bI false), ?_, ⟨hR.keep g.up (by omega) (by omega) (by omega), fun i hi => ?_, by rw [g.2 _ _ (by omega)]; exact hL⟩, g.mono (fun y k e => by omega)⟩
  · unfold f_Model_actAction
    rw [wm_d0 hA hc hl]
    simp only [ob_bd]
    rw [if_neg (by decide), if_pos trivial, a61.1, if_pos (by omega), a61.2, if_pos (by rw [nb_in (by omega)]; exact he), bI_and0, nb_clamp (by omega)]
  · obtain ⟨m1, m2, m3, m4⟩ := hM i hi
    by_cases hie : i = c.getD 11 0
    · rw [hie]
      rw [hie] at m1 m3
      exact ⟨by rw [g.2 _ _ (by omega)]; exact m1, by rw [pI_self, up_self], by rw [g.2 _ _ (by omega)]; exact m3, fun q => by rw [up_self] at q; exact absurd q (by decide)⟩
    · refine ⟨by rw [g.2 _ _ (by omega)]; exact m1, by rw [pI_ne (by omega), up_ne _ _ hie]; exact m2, by rw [g.2 _ _ (by omega)]; exact m3, fun q => ?_⟩
      rw [up_ne _ _ hie] at q
      exact ⟨by rw [g.2 _ _ (by omega)]; exact (m4 q).1, (m4 q).2.1, (m4 q).2.2.keep g.up (fun k _ _ => by omega)⟩
theorem wm_sw {S : ob_S} {D : ob_D} {M : Nat} {c : List Nat} {ev : sEv} (hA : mA S D M) (hc : mCm D M c) (hE : mEv D M ev) (he : c.getD 11 0 < 32) (hl : 14 ≤ c.length) (b : Bool) : ∃ D', f_Model_actAction S M (N32 (if b = true then 4 else 5)) D = some D' ∧ mEv D' M (ev_sw (c.getD 11 0) b ev) ∧ oi (eamP M) D D' := by
  have a62 : D.2.1 M 62 = M + 30 ∧ S.2.1 (M + 30) = 32 := hA.1 (62, 30, 32) (by decide)
  obtain ⟨rs, sl, ha, ao, ac, lo⟩ := ev
  obtain ⟨hR, hM, hL⟩ := hE
  have g : oi (fun y k => y = M + 30) D (ob_pI D (M + 30) (c.getD 11 0) (bI b)) := oi.pI rfl
  refine ⟨ob_pI D (M + 30) (c.getD 11 0) (bI b), ?_, ⟨hR.keep g.up (by omega) (by omega) (by omega), fun i hi => ?_, by rw [g.2 _ _ (by omega)]; exact hL⟩, g.mono (fun y k e => by omega)⟩
  · unfold f_Model_actAction
    rw [wm_d0 hA hc hl]
    simp only [ob_bd]
    cases b with
    | true =>
      rw [if_neg (by decide), if_neg (by decide), a62.1, if_pos (by omega), if_pos (by decide), a62.2, if_pos (by rw [nb_in (by omega)]; exact he), bI_and1, nb_clamp (by omega)]
      try rfl
    | false =>
      rw [if_neg (by decide), if_neg (by decide), a62.1, if_pos (by omega), if_neg (by decide), a62.2, if_pos (by rw [nb_in (by omega)]; exact he), bI_and0, nb_clamp (by omega)]
      try rfl
  · obtain ⟨m1, m2, m3, m4⟩ := hM i hi
    refine ⟨by rw [g.2 _ _ (by omega)]; exact m1, by rw [g.2 _ _ (by omega)]; exact m2, ?_, fun q => ⟨by rw [g.2 _ _ (by omega)]; exact (m4 q).1, (m4 q).2.1, (m4 q).2.2.keep g.up (fun k _ _ => by omega)⟩⟩
    by_cases hie : i = c.getD 11 0
    · rw [hie, pI_self, up_self]
    · rw [pI_ne (by omega), up_ne _ _ hie]; exact m3
theorem wm_act_L {S : ob_S} {M e : Nat} {c : List Nat} (he : e < 32) (hl : 14 ≤ c.length) : ∀ (d n j : Nat) (D : ob_D), j + d = c.length - 14 → d < n → mA S D M → mCm D M c → ba D (M + 31) (260 * e) (((c.drop 12).take (c.length - 14)).take j) → ∃ D', f_Model_actAction_L40 S n M (N32 e) (N32 j) D = some D' ∧ ba D' (M + 31) (260 * e) ((c.drop 12).take (c.length - 14)) ∧ oi (fun y k => y = M + 31 ∧ 260 * e ≤ k ∧ k < 260 * e + 260) D D' := by
  intro d
  induction d with
  | zero =>
    intro n j D hj hn hA hc hb
    match n, hn with
    | n + 1, _ =>
      have hcl := hc.2.1
      have hpl : ((c.drop 12).take (c.length - 14)).length = c.length - 14 := by rw [List.length_take, List.length_drop]; omega
      rw [List.take_of_length_le (by omega)] at hb
      refine ⟨D, ?_, hb, oi.rf⟩
      rw [f_Model_actAction_L40, hc.1, show (14 : Int32) = N32 14 from rfl, nb_sub hl, if_pos (by rw [nb_le (by omega) (by omega)]; omega)]
  | succ d ih =>
    intro n j D hj hn hA hc hb
    match n, hn with
    | n + 1, hn =>
      have hcl := hc.2.1
      have hpl : ((c.drop 12).take (c.length - 14)).length = c.length - 14 := by rw [List.length_take, List.length_drop]; omega
      have a63 : D.2.1 M 63 = M + 31 ∧ S.2.1 (M + 31) = 8320 := hA.1 (63, 31, 8320) (by decide)
      have a27 : D.2.1 M 27 = M + 7 ∧ S.2.1 (M + 7) = 260 := hA.1 (27, 7, 260) (by decide)
      have e12 : (12 : Int32) + N32 j = N32 (12 + j) := nb_add 12 j
      have eo : (260 : Int32) * N32 e + N32 j = N32 (260 * e + j) := by rw [show (260 : Int32) = N32 260 from rfl, nb_mul, nb_add]
      have ej : N32 j + (1 : Int32) = N32 (j + 1) := nb_add _ 1
      have hx : ((c.drop 12).take (c.length - 14)).getD j 0 = c.getD (12 + j) 0 := gd_slice c (by omega)
      have hv : D.1 (M + 7) (N32 (12 + j)).toNatClampNeg = sb (((c.drop 12).take (c.length - 14)).getD j 0) := by
        have := hc.2.2.1 (12 + j) (by omega)
        rw [Nat.zero_add] at this
        rw [nb_clamp (by omega), this, hx]
      have hb256 : ((c.drop 12).take (c.length - 14)).getD j 0 < 256 := by rw [hx]; exact by_getD_lt hc.2.2.2 _
      have hbn := ba_put hb hb256
      have hts := by_take_succ (l := (c.drop 12).take (c.length - 14)) (f := 0) (k := j) (by omega)
      rw [List.drop_zero, Nat.zero_add] at hts
      rw [← hts, List.length_take, hpl, Nat.min_eq_left (by omega)] at hbn
      have g : oi (fun y k => y = M + 31 ∧ 260 * e ≤ k ∧ k < 260 * e + 260) D (ob_pI D (M + 31) (260 * e + j) (sb (((c.drop 12).take (c.length - 14)).getD j 0))) := oi.pI ⟨rfl, by omega, by omega⟩
      obtain ⟨D', t1, t2, t3⟩ := ih n (j + 1) _ (by omega) (by omega) (hA.kp g) (hc.keep g.up (by omega) (by omega)) hbn
      refine ⟨D', ?_, t2, g.tr t3⟩
      rw [f_Model_actAction_L40, hc.1, show (14 : Int32) = N32 14 from rfl, nb_sub hl, if_neg (by rw [nb_le (by omega) (by omega)]; omega), a63.1, if_pos (by omega), a27.1, if_pos (by omega), e12, a27.2, if_pos (by rw [nb_in (by omega)]; omega), eo, a63.2, if_pos (by rw [nb_in (by omega)]; omega), hv, sb_sb, nb_clamp (by omega)]
      simp only [ob_lt]
      rw [ej]
      exact t1
theorem wm_act {S : ob_S} {D : ob_D} {M : Nat} {c : List Nat} {ev : sEv} (hA : mA S D M) (hc : mCm D M c) (hE : mEv D M ev) (he : c.getD 11 0 < 32) (hl : 14 ≤ c.length) : ∃ D', f_Model_actAction S M 1 D = some D' ∧ mEv D' M (ev_act (c.getD 11 0) ((c.drop 12).take (c.length - 14)) ev) ∧ oi (eamP M) D D' := by
  have a61 : D.2.1 M 61 = M + 29 ∧ S.2.1 (M + 29) = 32 := hA.1 (61, 29, 32) (by decide)
  have a62 : D.2.1 M 62 = M + 30 ∧ S.2.1 (M + 30) = 32 := hA.1 (62, 30, 32) (by decide)
  have a64 : D.2.1 M 64 = M + 32 ∧ S.2.1 (M + 32) = 32 := hA.1 (64, 32, 32) (by decide)
  have hcl := hc.2.1
  have hpl : ((c.drop 12).take (c.length - 14)).length = c.length - 14 := by rw [List.length_take, List.length_drop]; omega
  obtain ⟨rs, sl, ha, ao, ac, lo⟩ := ev
  obtain ⟨hR, hM, hL⟩ := hE
  obtain ⟨e, hee⟩ : ∃ e, e = c.getD 11 0 := ⟨_, rfl⟩
  rw [← hee] at he ⊢
  have hin : ob_in (N32 e) 32 := by rw [nb_in (by omega)]; exact he
  have hcp : (N32 e).toNatClampNeg = e := nb_clamp (by omega)
  obtain ⟨D17, hD17⟩ : ∃ x, x = ob_pI D (M + 29) e (bI true) := ⟨_, rfl⟩
  obtain ⟨D21, hD21⟩ : ∃ x, x = ob_pI D17 (M + 30) e (bI false) := ⟨_, rfl⟩
  obtain ⟨D25, hD25⟩ : ∃ x, x = ob_pI D21 (M + 32) e (N32 (c.length - 14)) := ⟨_, rfl⟩
  have r17 : D17.2 = D.2 := by rw [hD17]; rfl
  have r21 : D21.2 = D.2 := by rw [hD21]; exact r17
  have v28 : D21.1 M 28 = N32 c.length := by rw [hD21, pI_ne (by omega), hD17, pI_ne (by omega)]; exact hc.1
  have g25 : oi (fun y k => (y = M + 29 ∨ y = M + 30 ∨ y = M + 32) ∧ k = e) D D25 := by
    rw [hD25, hD21, hD17]
    exact ((oi.pI ⟨Or.inl rfl, rfl⟩).tr (oi.pI ⟨Or.inr (Or.inl rfl), rfl⟩)).tr (oi.pI ⟨Or.inr (Or.inr rfl), rfl⟩)
  obtain ⟨D', t1, t2, t3⟩ := wm_act_L (S := S) (M := M) (e := e) (c := c) he hl (c.length - 14) ob_FU 0 D25 (by omega) (by rw [ob_FU_eq]; omega) (hA.kp g25) (hc.keep g25.up (by omega) (by omega)) (by rw [List.take_zero]; exact ⟨fun i hi => absurd hi (by simp), fun x hx => absurd hx (by simp)⟩)
  refine ⟨D', ?_, ⟨(hR.keep g25.up (by omega) (by omega) (by omega)).keep t3.up (by omega) (by omega) (by omega), fun i hi => ?_, by rw [t3.2 _ _ (by omega), g25.2 _ _ (by omega)]; exact hL⟩, g25.tr2 t3 (fun y k e => by omega) (fun y k e => by omega)⟩
  · have d0 : f_Model_data S M 0 D = some (N32 e, D) := by rw [hee]; exact wm_d0 hA hc hl
    unfold f_Model_actAction
    rw [d0]
    simp only [ob_bd]
    rw [if_pos trivial, a61.1, if_pos (by omega), a61.2, if_pos hin, bI_and1, bI_and0]
    simp only [hcp, ob_lt]
    rw [← hD17, r17, a62.1, if_pos (by omega), a62.2, if_pos hin, ← hD21, r21, a64.1, if_pos (by omega), a64.2, if_pos hin, v28, show (14 : Int32) = N32 14 from rfl, nb_sub hl, ← hD25]
    exact t1
  · obtain ⟨m1, m2, m3, m4⟩ := hM i hi
    by_cases hie : i = e
    · subst hie
      refine ⟨by rw [t3.2 _ _ (by omega), g25.2 _ _ (by omega)]; exact m1, ?_, ?_, fun q => ⟨?_, ?_, ?_⟩⟩
      · rw [up_self, t3.2 _ _ (by omega), hD25, pI_ne (by omega), hD21, pI_ne (by omega), hD17, pI_self]
      · rw [up_self, t3.2 _ _ (by omega), hD25, pI_ne (by omega), hD21, pI_self]
      · rw [up_self, hpl, t3.2 _ _ (by omega), hD25, pI_self]
      · rw [up_self, hpl]; omega
      · rw [up_self]; exact t2
    · refine ⟨by rw [t3.2 _ _ (by omega), g25.2 _ _ (by omega)]; exact m1, ?_, ?_, fun q => ?_⟩
      · rw [up_ne _ _ hie, t3.2 _ _ (by omega), g25.2 _ _ (by omega)]; exact m2
      · rw [up_ne _ _ hie, t3.2 _ _ (by omega), g25.2 _ _ (by omega)]; exact m3
      · rw [up_ne _ _ hie] at q ⊢
        have h252 := (m4 q).2.1
        exact ⟨by rw [t3.2 _ _ (by omega), g25.2 _ _ (by omega)]; exact (m4 q).1, h252, ((m4 q).2.2.keep g25.up (fun k _ _ => by omega)).keep t3.up (fun k k1 k2 => by omega)⟩
theorem wm_newact {S : ob_S} {D : ob_D} {M : Nat} {c : List Nat} {ev : sEv} (hA : mA S D M) (hc : mCm D M c) (hE : mEv D M ev) (hl : 14 ≤ c.length) : f_Model_actionFailure S M 1 D = some (N32 (na_v c ev), D) := by
  have a61 : D.2.1 M 61 = M + 29 ∧ S.2.1 (M + 29) = 32 := hA.1 (61, 29, 32) (by decide)
  have a27 : D.2.1 M 27 = M + 7 ∧ S.2.1 (M + 7) = 260 := hA.1 (27, 7, 260) (by decide)
  have hcl := hc.2.1
  have hb := by_getD_lt hc.2.2.2 11
  obtain ⟨rs, sl, ha, ao, ac, lo⟩ := ev
  obtain ⟨hR, hM, hL⟩ := hE
  unfold f_Model_actionFailure na_v
  rw [wm_d0 hA hc hl]
  simp only [ob_bd]
  by_cases he : c.getD 11 0 < 32
  · have hfo : f_Model_faultOf S (M + 7) 12 (N32 (c.length - 14)) D = some (N32 (fo ((c.drop 12).take (c.length - 14))), D) := fom hc.2.2 (by rw [a27.2]; omega) (by rw [a27.2]; decide) (f := 12) (by omega) hcl
    have hle := fo_le ((c.drop 12).take (c.length - 14))
    have v : D.1 (M + 29) (N32 (c.getD 11 0)).toNatClampNeg = bI (ha (c.getD 11 0)) := by rw [nb_clamp (by omega)]; exact (hM _ he).2.1
    rw [if_pos (by rw [show (31 : Int32) = N32 31 from rfl, nb_le (by omega) (by decide)]; omega), if_pos trivial, if_pos he, a27.1, if_pos (by omega), hc.1, show (14 : Int32) = N32 14 from rfl, nb_sub hl, hfo]
    simp only [ob_bd]
    by_cases hz : fo ((c.drop 12).take (c.length - 14)) = 0
    · rw [if_pos hz, if_pos (by rw [hz]; rfl), a61.1, if_pos (by omega), a61.2, if_pos (by rw [nb_in (by omega)]; exact he), v]
      show _ = some (N32 (if ha (c.getD 11 0) = true then 29 else 0), D)
      cases ha (c.getD 11 0) <;> rfl
    · rw [if_neg hz, if_neg (by rw [show (0 : Int32) = N32 0 from rfl, nb_eq (by omega) (by decide)]; exact hz)]
      rfl
  · rw [if_neg (by rw [show (31 : Int32) = N32 31 from rfl, nb_le (by omega) (by decide)]; omega), if_neg he]
    rfl
theorem wm_actfail {S : ob_S} {D : ob_D} {M t : Nat} {c : List Nat} {ev : sEv} (hA : mA S D M) (hc : mCm D M c) (hE : mEv D M ev) (hl : 14 ≤ c.length) (ht : t < 256) (ht1 : t ≠ 1) : f_Model_actionFailure S M (N32 t) D = some (N32 (af_v (decide (t = 2)) c ev), D) := by
  have a61 : D.2.1 M 61 = M + 29 ∧ S.2.1 (M + 29) = 32 := hA.1 (61, 29, 32) (by decide)
  have a62 : D.2.1 M 62 = M + 30 ∧ S.2.1 (M + 30) = 32 := hA.1 (62, 30, 32) (by decide)
  have hb := by_getD_lt hc.2.2.2 11
  obtain ⟨rs, sl, ha, ao, ac, lo⟩ := ev
  obtain ⟨hR, hM, hL⟩ := hE
  unfold f_Model_actionFailure af_v
  rw [wm_d0 hA hc hl]
  simp only [ob_bd]
  by_cases he : c.getD 11 0 < 32
  · have v : D.1 (M + 29) (N32 (c.getD 11 0)).toNatClampNeg = bI (ha (c.getD 11 0)) := by rw [nb_clamp (by omega)]; exact (hM _ he).2.1
    have v2 : D.1 (M + 30) (N32 (c.getD 11 0)).toNatClampNeg = bI (ao (c.getD 11 0)) := by rw [nb_clamp (by omega)]; exact (hM _ he).2.2.1
    have hin : ob_in (N32 (c.getD 11 0)) 32 := by rw [nb_in (by omega)]; exact he
    rw [if_pos (by rw [show (31 : Int32) = N32 31 from rfl, nb_le (by omega) (by decide)]; omega), if_neg (by rw [show (1 : Int32) = N32 1 from rfl, nb_eq (by omega) (by decide)]; exact ht1), if_pos he, a61.1, if_pos (by omega), a61.2, if_pos hin, v]
    show _ = some (N32 (if ha (c.getD 11 0) = true then (if decide (t = 2) = true ∧ ao (c.getD 11 0) = true then 15 else 0) else 30), D)
    by_cases h1 : ha (c.getD 11 0) = true
    · rw [if_pos h1, h1, if_neg (show ¬ bI true = 0 by decide)]
      by_cases h2 : t = 2
      · rw [if_pos (by rw [h2]; rfl), a62.1, if_pos (by omega), a62.2, if_pos hin, v2, show decide (t = 2) = true from decide_eq_true h2]
        by_cases h3 : ao (c.getD 11 0) = true
        · rw [if_neg (by rw [h3]; decide), if_pos ⟨rfl, h3⟩]; rfl
        · rw [if_pos (by rw [Bool.eq_false_iff.mpr h3]; rfl), if_neg (fun e => h3 e.2)]; rfl
      · rw [if_neg (by rw [show (2 : Int32) = N32 2 from rfl, nb_eq (by omega) (by decide)]; exact h2), show decide (t = 2) = false from decide_eq_false h2, if_neg (by rintro ⟨e, -⟩; exact absurd e (by decide))]
        rfl
    · rw [if_neg h1, if_pos (by rw [Bool.eq_false_iff.mpr h1]; rfl)]; rfl
  · rw [if_neg (by rw [show (31 : Int32) = N32 31 from rfl, nb_le (by omega) (by decide)]; omega), if_neg he]
    rfl
