-- ===== events and actions: what a command does with them =====
def up {β : Type} (f : Nat → β) (e : Nat) (x : β) : Nat → β := fun i => if i = e then x else f i
theorem up_self {β : Type} (f : Nat → β) (e : Nat) (x : β) : up f e x e = x := if_pos rfl
theorem up_ne {β : Type} (f : Nat → β) {e i : Nat} (x : β) (h : i ≠ e) : up f e x i = f i := if_neg h
def ev_sil (e : Nat) (b : Bool) : sEv → sEv
  | (rs, sl, ha, ao, ac, lo) => (rs, up sl e b, ha, ao, ac, lo)
def ev_act (e : Nat) (p : List Nat) : sEv → sEv
  | (rs, sl, ha, ao, ac, lo) => (rs, sl, up ha e true, up ao e false, up ac e p, lo)
def ev_dro (e : Nat) : sEv → sEv
  | (rs, sl, ha, ao, ac, lo) => (rs, sl, up ha e false, ao, ac, lo)
def ev_sw (e : Nat) (b : Bool) : sEv → sEv
  | (rs, sl, ha, ao, ac, lo) => (rs, sl, ha, up ao e b, ac, lo)
def na_v (c : List Nat) (ev : sEv) : Nat := if c.getD 11 0 < 32 then (if fo ((c.drop 12).take (c.length - 14)) = 0 then (if ev.2.2.1 (c.getD 11 0) = true then 29 else 0) else 22) else 16
def af_v (fl : Bool) (c : List Nat) (ev : sEv) : Nat := if c.getD 11 0 < 32 then (if ev.2.2.1 (c.getD 11 0) = true then (if fl = true ∧ ev.2.2.2.1 (c.getD 11 0) = true then 15 else 0) else 30) else 16
theorem bI_a1 (b : Bool) : (bI b &&& 1) = bI b := by cases b <;> decide
theorem evc_there0 {S : ob_S} {D : ob_D} {e : Nat} (he : ¬ e < 32) (he2 : e < 1000) : f_Events_isThere S (N32 e) D = some (0, D) := by
  unfold f_Events_isThere
  rw [if_neg (by rw [nb_neg (by omega)]; exact id), if_pos (by rw [show (32 : Int32) = N32 32 from rfl, nb_le (by decide) (by omega)]; omega)]
theorem hc_sil {S : ob_S} {D : ob_D} {B m fr e : Nat} {ev : sEv} (h : cHd S D B m fr) (hE : cEv S D (B + 29 + 2 * m) ev) (he : e < 32) (b : Bool) : ∃ D', f_Handler_setSilent S (B + 29 + 2 * m + 80 + 2 * fr + 9) (N32 e) (bI b) D = some D' ∧ cEv S D' (B + 29 + 2 * m) (ev_sil e b ev) ∧ oi (fun y k => y = B + 29 + 2 * m + 3) D D' := by
  obtain ⟨rs, sl, ha, ao, ac, lo⟩ := ev
  obtain ⟨hA, hR, hM, hL⟩ := hE
  have g : oi (fun y k => y = B + 29 + 2 * m + 3) D (ob_pI D (B + 29 + 2 * m + 3) e (bI b)) := oi.pI rfl
  refine ⟨ob_pI D (B + 29 + 2 * m + 3) e (bI b), ?_, ⟨hA.keep g.up (by omega) (by omega) (fun _ _ _ => rfl), hR.keep g.up (by omega) (by omega) rfl, fun i hi => ?_, by rw [g.2 _ _ (by omega)]; exact hL⟩, g⟩
  · unfold f_Handler_setSilent
    rw [evc_there he]
    simp only [ob_bd]
    rw [if_neg (by decide), h.2.2.2.1, if_pos (by omega), hA.2.1, if_pos (by omega), hA.2.2.2.2.2.1, if_pos (by rw [nb_in (by omega)]; exact he), nb_clamp (by omega), bI_a1]
  · obtain ⟨m1, m2, m3, m4⟩ := hM i hi
    refine ⟨?_, by rw [g.2 _ _ (by omega)]; exact m2, by rw [g.2 _ _ (by omega)]; exact m3, m4.keep g.up (by omega) (by omega) rfl⟩
    by_cases hie : i = e
    · rw [hie, pI_self, up_self]
    · rw [pI_ne (by omega), up_ne _ _ hie]; exact m1
theorem hc_dro {S : ob_S} {D : ob_D} {B m fr e : Nat} {ev : sEv} (h : cHd S D B m fr) (hE : cEv S D (B + 29 + 2 * m) ev) (he : e < 32) : ∃ D', f_Handler_dropAction S (B + 29 + 2 * m + 80 + 2 * fr + 9) (N32 e) D = some D' ∧ cEv S D' (B + 29 + 2 * m) (ev_dro e ev) ∧ oi (fun y k => y = B + 29 + 2 * m + 4) D D' := by
  obtain ⟨rs, sl, ha, ao, ac, lo⟩ := ev
  obtain ⟨hA, hR, hM, hL⟩ := hE
  have g : oi (fun y k => y = B + 29 + 2 * m + 4) D (ob_pI D (B + 29 + 2 * m + 4) e (bI false)) := oi.pI rfl
  refine ⟨ob_pI D (B + 29 + 2 * m + 4) e (bI false), ?_, ⟨hA.keep g.up (by omega) (by omega) (fun _ _ _ => rfl), hR.keep g.up (by omega) (by omega) rfl, fun i hi => ?_, by rw [g.2 _ _ (by omega)]; exact hL⟩, g⟩
  · unfold f_Handler_dropAction
    rw [evc_there he]
    simp only [ob_bd]
    rw [if_neg (by decide), h.2.2.2.1, if_pos (by omega), hA.2.2.1, if_pos (by omega), hA.2.2.2.2.2.2.1, if_pos (by rw [nb_in (by omega)]; exact he), nb_clamp (by omega), bI_and0]
  · obtain ⟨m1, m2, m3, m4⟩ := hM i hi
    refine ⟨by rw [g.2 _ _ (by omega)]; exact m1, ?_, by rw [g.2 _ _ (by omega)]; exact m3, m4.keep g.up (by omega) (by omega) rfl⟩
    by_cases hie : i = e
    · rw [hie, pI_self, up_self]
    · rw [pI_ne (by omega), up_ne _ _ hie]; exact m2
theorem hc_sw {S : ob_S} {D : ob_D} {B m fr e : Nat} {ev : sEv} (h : cHd S D B m fr) (hE : cEv S D (B + 29 + 2 * m) ev) (he : e < 32) (b : Bool) : ∃ D', f_Handler_switchAction S (B + 29 + 2 * m + 80 + 2 * fr + 9) (N32 e) (bI b) D = some D' ∧ cEv S D' (B + 29 + 2 * m) (ev_sw e b ev) ∧ oi (fun y k => y = B + 29 + 2 * m + 5) D D' := by
  obtain ⟨rs, sl, ha, ao, ac, lo⟩ := ev
  obtain ⟨hA, hR, hM, hL⟩ := hE
  have g : oi (fun y k => y = B + 29 + 2 * m + 5) D (ob_pI D (B + 29 + 2 * m + 5) e (bI b)) := oi.pI rfl
  refine ⟨ob_pI D (B + 29 + 2 * m + 5) e (bI b), ?_, ⟨hA.keep g.up (by omega) (by omega) (fun _ _ _ => rfl), hR.keep g.up (by omega) (by omega) rfl, fun i hi => ?_, by rw [g.2 _ _ (by omega)]; exact hL⟩, g⟩
  · unfold f_Handler_switchAction
    rw [evc_there he]
    simp only [ob_bd]
    rw [if_neg (by decide), h.2.2.2.1, if_pos (by omega), hA.2.2.2.1, if_pos (by omega), hA.2.2.2.2.2.2.2.1, if_pos (by rw [nb_in (by omega)]; exact he), nb_clamp (by omega), bI_a1]
  · obtain ⟨m1, m2, m3, m4⟩ := hM i hi
    refine ⟨by rw [g.2 _ _ (by omega)]; exact m1, by rw [g.2 _ _ (by omega)]; exact m2, ?_, m4.keep g.up (by omega) (by omega) rfl⟩
    by_cases hie : i = e
    · rw [hie, pI_self, up_self]
    · rw [pI_ne (by omega), up_ne _ _ hie]; exact m3
theorem hc_act {S : ob_S} {D : ob_D} {B m fr e : Nat} {c : List Nat} {ev : sEv} (h : cHd S D B m fr) (hc : cCm S D B m fr c) (hE : cEv S D (B + 29 + 2 * m) ev) (he : e < 32) (hl : 14 ≤ c.length) : ∃ D', f_Handler_addAction S (B + 29 + 2 * m + 80 + 2 * fr + 9) (N32 e) D = some D' ∧ cEv S D' (B + 29 + 2 * m) (ev_act e ((c.drop 12).take (c.length - 14)) ev) ∧ oi (fun y k => B + 29 + 2 * m + 4 ≤ y ∧ y < B + 29 + 2 * m + 71 ∧ y ≠ B + 29 + 2 * m + 6) D D' := by
  obtain ⟨rs, sl, ha, ao, ac, lo⟩ := ev
  obtain ⟨hA, hR, hM, hL⟩ := hE
  have hcl : c.length ≤ 252 := hc.2.2.2.2.2.1
  have hcp : (N32 e).toNatClampNeg = e := nb_clamp (by omega)
  have hin : ob_in (N32 e) 32 := by rw [nb_in (by omega)]; exact he
  obtain ⟨D16, p1, p2, p3⟩ := rw_become (f := 12) (c := c.length - 14) (hM e he).2.2.2 hc (by omega) (by omega) (by omega)
  have g16 : oi (fun y k => y = B + 29 + 2 * m + 7 + 2 * e ∨ y = B + 29 + 2 * m + 8 + 2 * e) D D16 := p3.oi
  have hA16 := hA.keep g16.up (by omega) (by omega) (fun _ _ _ => rfl)
  have h16 := h.keep g16.up (by omega) rfl
  obtain ⟨D29, hD29⟩ : ∃ x, x = ob_pI (ob_pI D16 (B + 29 + 2 * m + 4) e (bI true)) (B + 29 + 2 * m + 5) e (bI false) := ⟨_, rfl⟩
  have g29 : oi (fun y k => (y = B + 29 + 2 * m + 4 ∨ y = B + 29 + 2 * m + 5) ∧ k = e) D16 D29 := by
    rw [hD29]
    exact (oi.pI ⟨Or.inl rfl, rfl⟩).tr (oi.pI ⟨Or.inr rfl, rfl⟩)
  refine ⟨D29, ?_, ⟨hA16.keep g29.up (by omega) (by omega) (fun _ _ _ => rfl), (hR.keep g16.up (by omega) (by omega) rfl).keep g29.up (by omega) (by omega) rfl, fun i hi => ?_, by rw [g29.2 _ _ (by omega), g16.2 _ _ (by omega)]; exact hL⟩, g16.tr2 g29 (fun y k e => by omega) (fun y k e => by omega)⟩
  · unfold f_Handler_addAction
    rw [evc_there he]
    simp only [ob_bd]
    have p1' : f_Row_become S (B + 29 + 2 * m + 7 + 2 * e) (B + 29 + 2 * m + 80 + 2 * fr + 12) 12 (N32 (c.length - 14)) D = some D16 := p1
    have e14 : N32 (c.length - 13) - (1 : Int32) = N32 (c.length - 14) := by rw [show (1 : Int32) = N32 1 from rfl, nb_sub (by omega)]; congr 1
    rw [if_neg (by decide), h.2.2.2.1, if_pos (by omega), hA.2.2.2.2.1, if_pos (by omega), hA.2.2.2.2.2.2.2.2.1, if_pos hin, bI_and1, bI_and0]
    simp only [hcp]
    rw [hA.2.2.2.2.2.2.2.2.2 e he, if_pos (by omega), h.2.2.2.2.2.2.2.2.1, if_pos (by omega), wc_dlen h hc (by omega)]
    simp only [ob_bd]
    rw [e14, p1']
    simp only [ob_bv, ob_lt]
    rw [h16.2.2.2.1, if_pos (by omega), hA16.2.2.1, if_pos (by omega), hA16.2.2.2.2.2.2.1, if_pos hin, pI_ref, h16.2.2.2.1, if_pos (by omega), hA16.2.2.2.1, if_pos (by omega), hA16.2.2.2.2.2.2.2.1, if_pos hin, hD29]
  · obtain ⟨m1, m2, m3, m4⟩ := hM i hi
    by_cases hie : i = e
    · subst hie
      refine ⟨by rw [g29.2 _ _ (by omega), g16.2 _ _ (by omega)]; exact m1, ?_, ?_, ?_⟩
      · rw [hD29, pI_ne (by omega), pI_self, up_self]
      · rw [hD29, pI_self, up_self]
      · rw [up_self]
        exact p2.keep g29.up (by omega) (by omega) rfl
    · refine ⟨by rw [g29.2 _ _ (by omega), g16.2 _ _ (by omega)]; exact m1, ?_, ?_, ?_⟩
      · rw [up_ne _ _ hie, g29.2 _ _ (by omega), g16.2 _ _ (by omega)]; exact m2
      · rw [up_ne _ _ hie, g29.2 _ _ (by omega), g16.2 _ _ (by omega)]; exact m3
      · rw [up_ne _ _ hie]
        exact (m4.keep g16.up (by omega) (by omega) rfl).keep g29.up (by omega) (by omega) rfl
theorem hc_newact {S : ob_S} {D : ob_D} {B m fr : Nat} {c : List Nat} {ev : sEv} (h : cHd S D B m fr) (hc : cCm S D B m fr c) (hE : cEv S D (B + 29 + 2 * m) ev) (hl : 14 ≤ c.length) : f_Handler_newActionFailure S (B + 29 + 2 * m + 80 + 2 * fr + 9) (N32 (c.getD 11 0)) D = some (N32 (na_v c ev), D) := by
  obtain ⟨rs, sl, ha, ao, ac, lo⟩ := ev
  obtain ⟨hA, hR, hM, hL⟩ := hE
  have hb := by_getD_lt hc.2.2.2.2.2.2.2.2 11
  have hcl : c.length ≤ 252 := hc.2.2.2.2.2.1
  unfold f_Handler_newActionFailure na_v
  by_cases he : c.getD 11 0 < 32
  · rw [evc_there he, if_pos he]
    simp only [ob_bd]
    have e14 : N32 (c.length - 13) - (1 : Int32) = N32 (c.length - 14) := by rw [show (1 : Int32) = N32 1 from rfl, nb_sub (by omega)]; congr 1
    have hfo : f_Handler_faultOf S (B + 29 + 2 * m + 80 + 2 * fr + 12) 12 (N32 (c.length - 14)) D = some (N32 (fo ((c.drop 12).take (c.length - 14))), D) := foc hc (f := 12) (by omega) hcl
    have hle := fo_le ((c.drop 12).take (c.length - 14))
    have v : D.1 (B + 29 + 2 * m + 4) (N32 (c.getD 11 0)).toNatClampNeg = bI (ha (c.getD 11 0)) := by rw [nb_clamp (by omega)]; exact (hM _ he).2.1
    rw [if_neg (by decide), h.2.2.2.2.2.2.2.2.1, if_pos (by omega), wc_dlen h hc (by omega)]
    simp only [ob_bd]
    rw [e14, hfo]
    simp only [ob_bd]
    by_cases hz : fo ((c.drop 12).take (c.length - 14)) = 0
    · rw [if_pos hz, if_pos (by rw [hz]; rfl), h.2.2.2.1, if_pos (by omega), hA.2.2.1, if_pos (by omega), hA.2.2.2.2.2.2.1, if_pos (by rw [nb_in (by omega)]; exact he), v]
      show _ = some (N32 (if ha (c.getD 11 0) = true then 29 else 0), D)
      cases ha (c.getD 11 0) <;> rfl
    · rw [if_neg hz, if_neg (by rw [show (0 : Int32) = N32 0 from rfl, nb_eq (by omega) (by decide)]; exact hz)]
      rfl
  · rw [evc_there0 he (by omega), if_neg he]
    rfl
theorem hc_actfail {S : ob_S} {D : ob_D} {B m fr : Nat} {c : List Nat} {ev : sEv} (h : cHd S D B m fr) (hc : cCm S D B m fr c) (hE : cEv S D (B + 29 + 2 * m) ev) (fl : Bool) : f_Handler_actionFailure S (B + 29 + 2 * m + 80 + 2 * fr + 9) (N32 (c.getD 11 0)) (bI fl) D = some (N32 (af_v fl c ev), D) := by
  obtain ⟨rs, sl, ha, ao, ac, lo⟩ := ev
  obtain ⟨hA, hR, hM, hL⟩ := hE
  have hb := by_getD_lt hc.2.2.2.2.2.2.2.2 11
  unfold f_Handler_actionFailure af_v
  by_cases he : c.getD 11 0 < 32
  · have v : D.1 (B + 29 + 2 * m + 4) (N32 (c.getD 11 0)).toNatClampNeg = bI (ha (c.getD 11 0)) := by rw [nb_clamp (by omega)]; exact (hM _ he).2.1
    have v2 : D.1 (B + 29 + 2 * m + 5) (N32 (c.getD 11 0)).toNatClampNeg = bI (ao (c.getD 11 0)) := by rw [nb_clamp (by omega)]; exact (hM _ he).2.2.1
    have hin : ob_in (N32 (c.getD 11 0)) 32 := by rw [nb_in (by omega)]; exact he
    rw [evc_there he, if_pos he]
    simp only [ob_bd]
    rw [if_neg (by decide), h.2.2.2.1, if_pos (by omega), hA.2.2.1, if_pos (by omega), hA.2.2.2.2.2.2.1, if_pos hin, v]
    show _ = some (N32 (if ha (c.getD 11 0) = true then (if fl = true ∧ ao (c.getD 11 0) = true then 15 else 0) else 30), D)
    by_cases h1 : ha (c.getD 11 0) = true
    · rw [if_pos h1, h1, if_neg (show ¬ bI true = 0 by decide)]
      cases fl with
      | false => rw [if_pos (show bI false = 0 from rfl), if_neg (by rintro ⟨e, -⟩; exact absurd e (by decide))]; rfl
      | true =>
        rw [if_neg (show ¬ bI true = 0 by decide), if_pos (by omega), hA.2.2.2.1, if_pos (by omega), hA.2.2.2.2.2.2.2.1, if_pos hin, v2]
        by_cases h2 : ao (c.getD 11 0) = true
        · rw [if_neg (by rw [h2]; decide), if_pos ⟨rfl, h2⟩]; rfl
        · rw [if_pos (by rw [Bool.eq_false_iff.mpr h2]; rfl), if_neg (fun e => h2 e.2)]; rfl
    · rw [if_neg h1, if_pos (by rw [Bool.eq_false_iff.mpr h1]; rfl)]; rfl
  · rw [evc_there0 he (by omega), if_neg he]
    rfl
