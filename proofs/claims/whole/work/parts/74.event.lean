-- ===== the events =====
abbrev sEv : Type := List (Nat × Int32) × (Nat → Bool) × (Nat → Bool) × (Nat → Bool) × (Nat → List Nat) × Int32
def ev_raise (e : Nat) (x : Int32) : sEv → sEv
  | (rs, sl, ha, ao, ac, lo) => if rs.length = 64 then (rs, sl, ha, ao, ac, lo + 1) else (rs ++ [(e, x)], sl, ha, ao, ac, lo)
def ev_lose : sEv → sEv
  | (rs, sl, ha, ao, ac, lo) => ([], sl, ha, ao, ac, lo + N32 rs.length)
def ev_fl (rs : List (Nat × Int32)) : List Int32 := (rs.map (fun p => [N32 p.1, p.2])).flatten
theorem ev_fl_len (rs : List (Nat × Int32)) : (ev_fl rs).length = 2 * rs.length := by
  induction rs with
  | nil => rfl
  | cons p rs ih =>
    unfold ev_fl at ih ⊢
    simp only [List.map_cons, List.flatten_cons, List.length_append, List.length_cons, List.length_nil, ih]
    omega
theorem ev_fl_snoc (rs : List (Nat × Int32)) (e : Nat) (x : Int32) : ev_fl (rs ++ [(e, x)]) = ev_fl rs ++ [N32 e] ++ [x] := by simp [ev_fl]
def cEvR (S : ob_S) (D : ob_D) (v : Nat) (rs : List (Nat × Int32)) : Prop := rg_at S D (v + 1) (v + 2) 128 (ev_fl rs) ∧ rs.length ≤ 64 ∧ ∀ p ∈ rs, p.1 < 32
def cEvA (S : ob_S) (D : ob_D) (v : Nat) : Prop := D.2.1 v 0 = v + 1 ∧ D.2.1 v 1 = v + 3 ∧ D.2.1 v 2 = v + 4 ∧ D.2.1 v 3 = v + 5 ∧ D.2.1 v 4 = v + 6 ∧ S.2.1 (v + 3) = 32 ∧ S.2.1 (v + 4) = 32 ∧ S.2.1 (v + 5) = 32 ∧ S.2.1 (v + 6) = 32 ∧ ∀ i, i < 32 → D.2.1 (v + 6) i = v + 7 + 2 * i
def cEvM (S : ob_S) (D : ob_D) (v : Nat) (sl ha ao : Nat → Bool) (ac : Nat → List Nat) : Prop := ∀ i, i < 32 → D.1 (v + 3) i = bI (sl i) ∧ D.1 (v + 4) i = bI (ha i) ∧ D.1 (v + 5) i = bI (ao i) ∧ rw_at S D (v + 7 + 2 * i) (v + 8 + 2 * i) 252 (ac i)
def cEv (S : ob_S) (D : ob_D) (v : Nat) : sEv → Prop
  | (rs, sl, ha, ao, ac, lo) => cEvA S D v ∧ cEvR S D v rs ∧ cEvM S D v sl ha ao ac ∧ D.1 v 5 = lo
theorem cEvA.keep {S S' : ob_S} {D D' : ob_D} {v : Nat} {P : Nat → Nat → Prop} (h : cEvA S D v) (a : og P D D') (h0 : ∀ k, k < 5 → ¬ P v k) (h6 : ∀ k, ¬ P (v + 6) k) (hS : ∀ y, v ≤ y → y < v + 71 → S'.2.1 y = S.2.1 y) : cEvA S' D' v := by
  obtain ⟨a1, a2, a3, a4, a5, a6, a7, a8, a9, a10⟩ := h
  exact ⟨by rw [(a v 0 (h0 0 (by decide))).2.1]; exact a1, by rw [(a v 1 (h0 1 (by decide))).2.1]; exact a2, by rw [(a v 2 (h0 2 (by decide))).2.1]; exact a3, by rw [(a v 3 (h0 3 (by decide))).2.1]; exact a4, by rw [(a v 4 (h0 4 (by decide))).2.1]; exact a5, by rw [hS _ (by omega) (by omega)]; exact a6, by rw [hS _ (by omega) (by omega)]; exact a7, by rw [hS _ (by omega) (by omega)]; exact a8, by rw [hS _ (by omega) (by omega)]; exact a9, fun i hi => by rw [(a _ _ (h6 i)).2.1]; exact a10 i hi⟩
theorem cEvR.keep {S S' : ob_S} {D D' : ob_D} {v : Nat} {rs : List (Nat × Int32)} {P : Nat → Nat → Prop} (h : cEvR S D v rs) (a : og P D D') (h1 : ∀ k, ¬ P (v + 1) k) (h2 : ∀ k, ¬ P (v + 2) k) (hS : S'.2.1 (v + 2) = S.2.1 (v + 2)) : cEvR S' D' v rs := ⟨h.1.keep a h1 h2 hS, h.2⟩
theorem cEvM.keep {S S' : ob_S} {D D' : ob_D} {v : Nat} {sl ha ao : Nat → Bool} {ac : Nat → List Nat} {P : Nat → Nat → Prop} (h : cEvM S D v sl ha ao ac) (a : og P D D') (hP : ∀ y k, v + 3 ≤ y → y < v + 71 → y ≠ v + 6 → ¬ P y k) (hS : ∀ y, v ≤ y → y < v + 71 → S'.2.1 y = S.2.1 y) : cEvM S' D' v sl ha ao ac := fun i hi => by
  obtain ⟨m1, m2, m3, m4⟩ := h i hi
  exact ⟨by rw [(a _ _ (hP _ _ (by omega) (by omega) (by omega))).1]; exact m1, by rw [(a _ _ (hP _ _ (by omega) (by omega) (by omega))).1]; exact m2, by rw [(a _ _ (hP _ _ (by omega) (by omega) (by omega))).1]; exact m3, m4.keep a (fun k => hP _ _ (by omega) (by omega) (by omega)) (fun k => hP _ _ (by omega) (by omega) (by omega)) (hS _ (by omega) (by omega))⟩
theorem cEv.keep {S S' : ob_S} {D D' : ob_D} {v : Nat} {z : sEv} {P : Nat → Nat → Prop} (h : cEv S D v z) (a : og P D D') (hP : ∀ y k, v ≤ y → y < v + 71 → ¬ P y k) (hS : ∀ y, v ≤ y → y < v + 71 → S'.2.1 y = S.2.1 y) : cEv S' D' v z := by
  obtain ⟨rs, sl, ha, ao, ac, lo⟩ := z
  obtain ⟨h1, h2, h3, h4⟩ := h
  exact ⟨h1.keep a (fun k _ => hP _ _ (by omega) (by omega)) (fun k => hP _ _ (by omega) (by omega)) hS, h2.keep a (fun k => hP _ _ (by omega) (by omega)) (fun k => hP _ _ (by omega) (by omega)) (hS _ (by omega) (by omega)), h3.keep a (fun y k _ _ _ => hP _ _ (by omega) (by omega)) hS, by rw [(a _ _ (hP _ _ (by omega) (by omega))).1]; exact h4⟩
abbrev evP (v : Nat) : Nat → Nat → Prop := fun y k => (y = v ∧ k = 5) ∨ y = v + 1 ∨ y = v + 2
theorem evc_raise {S : ob_S} {D : ob_D} {v : Nat} {z : sEv} (h : cEv S D v z) {e : Nat} (he : e < 32) (x : Int32) : ∃ D', f_Events_raise S v (N32 e) x D = some D' ∧ cEv S D' v (ev_raise e x z) ∧ og (evP v) D D' := by
  obtain ⟨rs, sl, ha, ao, ac, lo⟩ := z
  obtain ⟨hA, hR, hM, hL⟩ := h
  have hA0 := hA
  obtain ⟨a1, a2, a3, a4, a5, a6, a7, a8, a9, a10⟩ := hA
  obtain ⟨r1, r2, r3⟩ := hR
  have hroom := rg_hasRoom r1 (n := 2) (by decide)
  rw [ev_fl_len] at hroom
  have hroom' : f_Ring_hasRoom S (v + 1) 2 D = _ := hroom
  unfold f_Events_raise
  rw [a1, if_pos (by omega), hroom']
  simp only [ob_bd, ob_lt]
  have ek : ev_raise e x (rs, sl, ha, ao, ac, lo) = if rs.length = 64 then (rs, sl, ha, ao, ac, lo + 1) else (rs ++ [(e, x)], sl, ha, ao, ac, lo) := rfl
  rw [ek]
  by_cases hc : rs.length = 64
  · rw [if_neg (show ¬ 2 * rs.length + 2 ≤ 128 by omega), if_pos rfl, if_pos hc]
    have g : og (fun y k => y = v ∧ k = 5) D (ob_pI D v 5 (D.1 v 5 + 1)) := og.pI ⟨rfl, rfl⟩
    exact ⟨_, rfl, ⟨hA0.keep g (by omega) (by omega) (fun _ _ _ => rfl), ⟨r1.keep g (by omega) (by omega) rfl, r2, r3⟩, hM.keep g (by omega) (fun _ _ _ => rfl), by rw [pI_self, hL]⟩, g.mono (fun y k e => Or.inl e)⟩
  · rw [if_pos (show 2 * rs.length + 2 ≤ 128 by omega), if_neg (by decide), if_neg hc]
    obtain ⟨D1, p1, p2, p3⟩ := rg_put r1 (N32 e) (by rw [ev_fl_len]; omega)
    obtain ⟨D2, q1, q2, q3⟩ := rg_put p2 x (by rw [List.length_append, ev_fl_len, List.length_singleton]; omega)
    rw [a1, if_pos (by omega), p1]
    simp only [ob_bv]
    rw [p3.1, a1, if_pos (by omega), q1]
    have g := p3.tr q3
    rw [← ev_fl_snoc] at q2
    exact ⟨D2, rfl, ⟨hA0.keep g.up (by omega) (by omega) (fun _ _ _ => rfl), ⟨q2, by rw [List.length_append, List.length_singleton]; omega, fun p hp => by
      rcases List.mem_append.mp hp with e' | e'
      · exact r3 p e'
      · rw [List.mem_singleton.mp e']; exact he⟩, hM.keep g.up (by omega) (fun _ _ _ => rfl), by rw [g.2 _ _ (by omega)]; exact hL⟩, g.up2 (fun y k e => Or.inr e)⟩
theorem evc_count {S : ob_S} {D : ob_D} {v : Nat} {z : sEv} (h : cEv S D v z) : f_Events_raisedCount S v D = some (N32 z.1.length, D) := by
  obtain ⟨rs, sl, ha, ao, ac, lo⟩ := z
  obtain ⟨hA, hR, hM, hL⟩ := h
  have hl := hR.1.2.2.2.2.2.2.2.1
  rw [ev_fl_len] at hl
  have hr := hR.2.1
  unfold f_Events_raisedCount
  rw [hA.1, if_pos (by omega), hl, show (2 : Int32) = N32 2 from rfl, n_div _ _ (by omega) (by decide), Nat.mul_div_cancel_left _ (by decide)]
theorem evc_lose {S : ob_S} {D : ob_D} {v : Nat} {z : sEv} (h : cEv S D v z) : ∃ D', f_Events_loseRest S v D = some D' ∧ cEv S D' v (ev_lose z) ∧ og (evP v) D D' := by
  have hcnt := evc_count h
  obtain ⟨rs, sl, ha, ao, ac, lo⟩ := z
  obtain ⟨hA, hR, hM, hL⟩ := h
  have hl := hR.1.2.2.2.2.2.2.2.1
  rw [ev_fl_len] at hl
  have hr := hR.2.1
  have g : og (fun y k => y = v ∧ k = 5) D (ob_pI D v 5 (lo + N32 rs.length)) := og.pI ⟨rfl, rfl⟩
  obtain ⟨D9, p1, p2, p3⟩ := rg_drop (hR.1.keep g (by omega) (by omega) rfl) (n := 2 * rs.length) (by omega)
  rw [List.drop_of_length_le (by rw [ev_fl_len]; exact Nat.le_refl _)] at p2
  have hA1 := hA.keep g (by omega) (by omega) (fun _ _ _ => rfl)
  refine ⟨D9, ?_, ⟨hA1.keep p3.up (by omega) (by omega) (fun _ _ _ => rfl), ⟨p2, Nat.zero_le _, fun p hp => absurd hp (by simp)⟩, (hM.keep g (by omega) (fun _ _ _ => rfl)).keep p3.up (by omega) (fun _ _ _ => rfl), by rw [p3.2 _ _ (by omega), pI_self]⟩, (g.mono (fun y k e => Or.inl e)).tr (p3.up2 (fun y k e => Or.inr (Or.inl e)))⟩
  unfold f_Events_loseRest
  rw [hcnt]
  simp only [ob_bd, ob_lt]
  rw [hL, hA1.1, if_pos (by omega), if_pos (by omega), pI_ne (by omega), hl, p1]
  rfl
theorem evc_pop {S : ob_S} {D : ob_D} {v e : Nat} {x : Int32} {rs : List (Nat × Int32)} {sl ha ao : Nat → Bool} {ac : Nat → List Nat} {lo : Int32} (h : cEv S D v ((e, x) :: rs, sl, ha, ao, ac, lo)) : ∃ D1 D2, f_Ring_take S (v + 1) D = some (N32 e, D1) ∧ f_Ring_take S (v + 1) D1 = some (x, D2) ∧ D1.2 = D.2 ∧ cEv S D2 v (rs, sl, ha, ao, ac, lo) ∧ ob_ag (fun y => y = v + 1) D D2 := by
  obtain ⟨hA, hR, hM, hL⟩ := h
  obtain ⟨D1, p1, p2, p3⟩ := rg_take hR.1
  obtain ⟨D2, q1, q2, q3⟩ := rg_take p2
  have g := p3.tr q3
  exact ⟨D1, D2, p1, q1, p3.1, ⟨hA.keep g.up (by omega) (by omega) (fun _ _ _ => rfl), ⟨q2, by have := hR.2.1; rw [List.length_cons] at this; omega, fun p hp => hR.2.2 p (List.mem_cons_of_mem _ hp)⟩, hM.keep g.up (by omega) (fun _ _ _ => rfl), by rw [g.2 _ _ (by omega)]; exact hL⟩, g⟩
theorem evc_there {S : ob_S} {D : ob_D} {e : Nat} (he : e < 32) : f_Events_isThere S (N32 e) D = some (1, D) := by
  unfold f_Events_isThere
  rw [if_neg (by rw [nb_neg (by omega)]; exact id), if_neg (by rw [show (32 : Int32) = N32 32 from rfl, nb_le (by decide) (by omega)]; omega)]
theorem evc_told {S : ob_S} {D : ob_D} {v e : Nat} {z : sEv} (h : cEv S D v z) (he : e < 32) : f_Events_isTold S v (N32 e) D = some (bI (!(z.2.1 e)), D) := by
  obtain ⟨rs, sl, ha, ao, ac, lo⟩ := z
  obtain ⟨hA, hR, hM, hL⟩ := h
  obtain ⟨a1, a2, a3, a4, a5, a6, a7, a8, a9, a10⟩ := hA
  obtain ⟨m1, m2, m3, m4⟩ := hM e he
  unfold f_Events_isTold
  rw [evc_there he]
  simp only [ob_bd]
  rw [if_neg (by decide), a2, if_pos (by omega), a6, if_pos (by rw [nb_in (by omega)]; exact he)]
  try simp (disch := omega) only [nb_clamp]
  rw [m1, if_bI]
  show _ = some (bI (!(sl e)), D)
  cases sl e <;> rfl
theorem evc_act1 {S : ob_S} {D : ob_D} {v e a b cap : Nat} {l0 : List Nat} {z : sEv} (h : cEv S D v z) (he : e < 32) (hw : rw_at S D a b cap l0) (hcap : 252 ≤ cap) (hd : (a < v ∨ v + 71 ≤ a) ∧ (b < v ∨ v + 71 ≤ b)) (h1 : z.2.2.1 e = true) (h2 : z.2.2.2.1 e = true) : ∃ D', f_Events_takeAction S v (N32 e) a D = some (1, D') ∧ rw_at S D' a b cap (z.2.2.2.2.1 e) ∧ ob_ag (fun y => y = a ∨ y = b) D D' := by
  obtain ⟨rs, sl, ha, ao, ac, lo⟩ := z
  have h1' : ha e = true := h1
  have h2' : ao e = true := h2
  obtain ⟨hA, hR, hM, hL⟩ := h
  obtain ⟨a1, a2, a3, a4, a5, a6, a7, a8, a9, a10⟩ := hA
  obtain ⟨m1, m2, m3, m4⟩ := hM e he
  have hin : ob_in (N32 e) 32 := by rw [nb_in (by omega)]; exact he
  have hl : (ac e).length ≤ 252 := m4.2.2.2.2.2.1
  have hcl : (N32 e).toNatClampNeg = e := nb_clamp (by omega)
  obtain ⟨D', p1, p2, p3⟩ := rw_become (f := 0) (c := (ac e).length) hw m4 (by omega) (by omega) (by omega)
  rw [List.drop_zero, List.take_length] at p2
  have p1' : f_Row_become S a (v + 7 + 2 * e) 0 (N32 (ac e).length) D = some D' := p1
  refine ⟨D', ?_, p2, p3⟩
  unfold f_Events_takeAction
  rw [evc_there he]
  simp only [ob_bd, hcl]
  rw [if_neg (show ¬ (1 : Int32) = 0 by decide), a3, if_pos (by omega), a7, if_pos hin, m2, h1', if_neg (show ¬ bI true = 0 by decide), a4, if_pos (by omega), a8, if_pos hin, m3, h2', if_neg (show ¬ bI true = 0 by decide), a5, if_pos (by omega), a9, if_pos hin, a10 e he, if_pos (by omega), if_pos (by omega), if_pos hin, if_pos (by omega), m4.2.2.2.2.1, p1']
  rfl
theorem evc_act0 {S : ob_S} {D : ob_D} {v e a : Nat} {z : sEv} (h : cEv S D v z) (he : e < 32) (h0 : (z.2.2.1 e && z.2.2.2.1 e) = false) : f_Events_takeAction S v (N32 e) a D = some (0, D) := by
  obtain ⟨rs, sl, ha, ao, ac, lo⟩ := z
  have h0' : (ha e && ao e) = false := h0
  obtain ⟨hA, hR, hM, hL⟩ := h
  obtain ⟨a1, a2, a3, a4, a5, a6, a7, a8, a9, a10⟩ := hA
  obtain ⟨m1, m2, m3, m4⟩ := hM e he
  have hin : ob_in (N32 e) 32 := by rw [nb_in (by omega)]; exact he
  have hcl : (N32 e).toNatClampNeg = e := nb_clamp (by omega)
  unfold f_Events_takeAction
  rw [evc_there he]
  simp only [ob_bd, hcl]
  rw [if_neg (show ¬ (1 : Int32) = 0 by decide), a3, if_pos (by omega), a7, if_pos hin, m2]
  cases h1 : ha e with
  | false => rw [if_pos (show bI false = 0 by decide)]
  | true =>
    rw [h1, Bool.true_and] at h0'
    rw [if_neg (show ¬ bI true = 0 by decide), a4, if_pos (by omega), a8, if_pos hin, m3, h0', if_pos (show bI false = 0 by decide)]
-- ===== the reference's events =====
def mEvR (D : ob_D) (M : Nat) (rs : List (Nat × Int32)) : Prop := D.1 M 67 = N32 rs.length ∧ rs.length ≤ 64 ∧ (∀ i, i < rs.length → D.1 (M + 33) i = N32 (rs.getD i (0, 0)).1 ∧ D.1 (M + 34) i = (rs.getD i (0, 0)).2) ∧ ∀ p ∈ rs, p.1 < 32
def mEvM (D : ob_D) (M : Nat) (sl ha ao : Nat → Bool) (ac : Nat → List Nat) : Prop := ∀ i, i < 32 → D.1 (M + 28) i = bI (!(sl i)) ∧ D.1 (M + 29) i = bI (ha i) ∧ D.1 (M + 30) i = bI (ao i) ∧ (ha i = true → D.1 (M + 32) i = N32 (ac i).length ∧ (ac i).length ≤ 252 ∧ ba D (M + 31) (260 * i) (ac i))
def mEv (D : ob_D) (M : Nat) : sEv → Prop
  | (rs, sl, ha, ao, ac, lo) => mEvR D M rs ∧ mEvM D M sl ha ao ac ∧ D.1 M 68 = lo
theorem mEvR.keep {D D' : ob_D} {M : Nat} {rs : List (Nat × Int32)} {P : Nat → Nat → Prop} (h : mEvR D M rs) (a : og P D D') (h67 : ¬ P M 67) (h33 : ∀ k, ¬ P (M + 33) k) (h34 : ∀ k, ¬ P (M + 34) k) : mEvR D' M rs := ⟨by rw [(a _ _ h67).1]; exact h.1, h.2.1, fun i hi => by rw [(a _ _ (h33 _)).1, (a _ _ (h34 _)).1]; exact h.2.2.1 i hi, h.2.2.2⟩
theorem mEvM.keep {D D' : ob_D} {M : Nat} {sl ha ao : Nat → Bool} {ac : Nat → List Nat} {P : Nat → Nat → Prop} (h : mEvM D M sl ha ao ac) (a : og P D D') (hP : ∀ y k, M + 28 ≤ y → y ≤ M + 32 → ¬ P y k) : mEvM D' M sl ha ao ac := fun i hi => by
  obtain ⟨m1, m2, m3, m4⟩ := h i hi
  exact ⟨by rw [(a _ _ (hP _ _ (by omega) (by omega))).1]; exact m1, by rw [(a _ _ (hP _ _ (by omega) (by omega))).1]; exact m2, by rw [(a _ _ (hP _ _ (by omega) (by omega))).1]; exact m3, fun e => ⟨by rw [(a _ _ (hP _ _ (by omega) (by omega))).1]; exact (m4 e).1, (m4 e).2.1, (m4 e).2.2.keep a (fun k _ _ => hP _ _ (by omega) (by omega))⟩⟩
theorem mEv.keep {D D' : ob_D} {M : Nat} {z : sEv} {P : Nat → Nat → Prop} (h : mEv D M z) (a : og P D D') (h67 : ¬ P M 67) (h68 : ¬ P M 68) (hP : ∀ y k, M + 28 ≤ y → y ≤ M + 34 → ¬ P y k) : mEv D' M z := by
  obtain ⟨rs, sl, ha, ao, ac, lo⟩ := z
  obtain ⟨h1, h2, h3⟩ := h
  exact ⟨h1.keep a h67 (fun k => hP _ _ (by omega) (by omega)) (fun k => hP _ _ (by omega) (by omega)), h2.keep a (fun y k _ _ => hP _ _ (by omega) (by omega)), by rw [(a _ _ h68).1]; exact h3⟩
abbrev evmP (M : Nat) : Nat → Nat → Prop := fun y k => (y = M ∧ (k = 67 ∨ k = 68)) ∨ y = M + 33 ∨ y = M + 34
theorem evm_raise {S : ob_S} {D : ob_D} {M : Nat} {z : sEv} (hA : mA S D M) (h : mEv D M z) {e : Nat} (he : e < 32) (x : Int32) : ∃ D', f_Model_raise S M (N32 e) x D = some D' ∧ mEv D' M (ev_raise e x z) ∧ oi (evmP M) D D' := by
  obtain ⟨rs, sl, ha, ao, ac, lo⟩ := z
  obtain ⟨⟨r1, r2, r3, r4⟩, hM, hL⟩ := h
  have a65 : D.2.1 M 65 = M + 33 ∧ S.2.1 (M + 33) = 64 := hA.1 (65, 33, 64) (by decide)
  have a66 : D.2.1 M 66 = M + 34 ∧ S.2.1 (M + 34) = 64 := hA.1 (66, 34, 64) (by decide)
  unfold f_Model_raise
  rw [r1, show (64 : Int32) = N32 64 from rfl, if_en (by omega) (by decide)]
  have ek : ev_raise e x (rs, sl, ha, ao, ac, lo) = if rs.length = 64 then (rs, sl, ha, ao, ac, lo + 1) else (rs ++ [(e, x)], sl, ha, ao, ac, lo) := rfl
  rw [ek]
  by_cases hc : rs.length = 64
  · rw [if_pos hc, if_pos hc]
    have g : oi (fun y k => y = M ∧ k = 68) D (ob_pI D M 68 (D.1 M 68 + 1)) := oi.pI ⟨rfl, rfl⟩
    exact ⟨_, rfl, ⟨(show mEvR D M rs from ⟨r1, r2, r3, r4⟩).keep g.up (by omega) (by omega) (by omega), hM.keep g.up (by omega), by rw [pI_self, hL]⟩, g.mono (fun y k e => by omega)⟩
  · rw [if_neg hc, if_neg hc, a65.1, if_pos (by omega), a65.2, if_pos (by rw [nb_in (by omega)]; omega)]
    try simp (disch := omega) only [nb_clamp]
    simp only [ob_lt]
    have e1 : N32 rs.length + (1 : Int32) = N32 (rs.length + 1) := nb_add _ 1
    rw [pI_ref, a66.1, if_pos (by omega), pI_ne (by omega), r1, a66.2, if_pos (by rw [nb_in (by omega)]; omega)]
    try simp (disch := omega) only [nb_clamp]
    rw [e1]
    have g : oi (evmP M) D (ob_pI (ob_pI (ob_pI D (M + 33) rs.length (N32 e)) M 67 (N32 (rs.length + 1))) (M + 34) rs.length x) := ((oi.pI (Or.inr (Or.inl rfl))).tr (oi.pI (Or.inl ⟨rfl, Or.inl rfl⟩))).tr (oi.pI (Or.inr (Or.inr rfl)))
    refine ⟨_, rfl, ⟨⟨by rw [pI_ne (by omega), pI_self, List.length_append]; rfl, by rw [List.length_append, List.length_singleton]; omega, fun i hi => ?_, fun p hp => ?_⟩, hM.keep g.up (by omega), by rw [pI_ne (by omega), pI_ne (by omega), pI_ne (by omega)]; exact hL⟩, g⟩
    · rw [List.length_append, List.length_singleton] at hi
      by_cases hi2 : i < rs.length
      · have eg : (rs ++ [(e, x)]).getD i (0, 0) = rs.getD i (0, 0) := by
          simp only [List.getD_eq_getElem?_getD]
          rw [List.getElem?_append_left hi2]
        rw [eg, pI_ne (by omega), pI_ne (by omega), pI_ne (by omega), pI_ne (by omega), pI_ne (by omega), pI_ne (by omega)]
        exact r3 i hi2
      · have hi3 : i = rs.length := by omega
        have eg : (rs ++ [(e, x)]).getD i (0, 0) = (e, x) := by
          simp only [List.getD_eq_getElem?_getD]
          rw [hi3, List.getElem?_append_right (Nat.le_refl _), Nat.sub_self]
          rfl
        rw [eg, hi3]
        exact ⟨by rw [pI_ne (by omega), pI_ne (by omega), pI_self], pI_self⟩
    · rcases List.mem_append.mp hp with e' | e'
      · exact r4 p e'
      · rw [List.mem_singleton.mp e']; exact he
theorem evm_lose {S : ob_S} {D : ob_D} {M : Nat} {z : sEv} (h : mEv D M z) : ∃ D', f_Model_workEvents_L170 S M D = some D' ∧ mEv D' M (ev_lose z) ∧ oi (evmP M) D D' := by
  obtain ⟨rs, sl, ha, ao, ac, lo⟩ := z
  obtain ⟨⟨r1, r2, r3, r4⟩, hM, hL⟩ := h
  have g : oi (evmP M) D (ob_pI (ob_pI D M 68 (lo + N32 rs.length)) M 67 (0 : Int32)) := (oi.pI (Or.inl ⟨rfl, Or.inr rfl⟩)).tr (oi.pI (Or.inl ⟨rfl, Or.inl rfl⟩))
  refine ⟨ob_pI (ob_pI D M 68 (lo + N32 rs.length)) M 67 (0 : Int32), ?_, ⟨⟨pI_self, Nat.zero_le _, fun i hi => absurd hi (by simp), fun p hp => absurd hp (by simp)⟩, hM.keep g.up (by omega), by rw [pI_ne (by omega), pI_self]⟩, g⟩
  unfold f_Model_workEvents_L170
  simp only [ob_lt]
  rw [hL, r1]
/-- the oldest is taken out: the others come nearer -/
theorem evm_pop {S : ob_S} {M e : Nat} {x : Int32} {rs : List (Nat × Int32)} {k2 : Nat → Int32 → ob_D → Option ob_D} {v1 : Int32} : ∀ (d n j : Nat) (D : ob_D), j + d = rs.length → d < n → mA S D M → rs.length < 64 → D.1 M 67 = N32 rs.length → (∀ i, i < rs.length + 1 → D.1 (M + 33) i = (if i < j then N32 (rs.getD i (0, 0)).1 else N32 (((e, x) :: rs).getD i (0, 0)).1) ∧ D.1 (M + 34) i = (if i < j then (rs.getD i (0, 0)).2 else (((e, x) :: rs).getD i (0, 0)).2)) → ∃ D', f_Model_workEvents_L42 S k2 n M v1 (N32 e) x (N32 j) D = f_Model_workEvents_L42 S k2 1 M v1 (N32 e) x (N32 rs.length) D' ∧ (∀ i, i < rs.length → D'.1 (M + 33) i = N32 (rs.getD i (0, 0)).1 ∧ D'.1 (M + 34) i = (rs.getD i (0, 0)).2) ∧ oi (fun y k => y = M + 33 ∨ y = M + 34) D D' := by
  intro d
  induction d with
  | zero =>
    intro n j D hj hn hA hl h67 hv
    match n, hn with
    | n + 1, _ =>
      have hj' : j = rs.length := hj
      refine ⟨D, ?_, fun i hi => ?_, oi.rf⟩
      · rw [hj', f_Model_workEvents_L42, h67, if_pos (by rw [nb_le (by omega) (by omega)]; exact Nat.le_refl _)]
        symm
        rw [f_Model_workEvents_L42, h67, if_pos (by rw [nb_le (by omega) (by omega)]; exact Nat.le_refl _)]
      · have := hv i (by omega)
        rw [if_pos (by omega), if_pos (by omega)] at this
        exact this
  | succ d ih =>
    intro n j D hj hn hA hl h67 hv
    match n, hn with
    | n + 1, hn =>
      have a65 : D.2.1 M 65 = M + 33 ∧ S.2.1 (M + 33) = 64 := hA.1 (65, 33, 64) (by decide)
      have a66 : D.2.1 M 66 = M + 34 ∧ S.2.1 (M + 34) = 64 := hA.1 (66, 34, 64) (by decide)
      have e1 : N32 j + (1 : Int32) = N32 (j + 1) := nb_add _ 1
      have hj1 := hv (j + 1) (by omega)
      rw [if_neg (by omega), if_neg (by omega)] at hj1
      have eg : ((e, x) :: rs).getD (j + 1) (0, 0) = rs.getD j (0, 0) := rfl
      rw [eg] at hj1
      obtain ⟨D49, hD49⟩ : ∃ y, y = ob_pI (ob_pI D (M + 33) j (N32 (rs.getD j (0, 0)).1)) (M + 34) j (rs.getD j (0, 0)).2 := ⟨_, rfl⟩
      have g : oi (fun y k => y = M + 33 ∨ y = M + 34) D D49 := by
        rw [hD49]
        exact (oi.pI (Or.inl rfl)).tr (oi.pI (Or.inr rfl))
      obtain ⟨D', t1, t2, t3⟩ := ih n (j + 1) D49 (by omega) (by omega) (hA.kp g) hl (by rw [g.2 _ _ (by omega)]; exact h67) (fun i hi => by
        have := hv i hi
        by_cases hij : i = j
        · rw [hij, if_pos (by omega), if_pos (by omega), hD49]
          exact ⟨by rw [pI_ne (by omega), pI_self], pI_self⟩
        · rw [hD49, pI_ne (by omega), pI_ne (by omega), pI_ne (by omega), pI_ne (by omega)]
          by_cases hc : i < j
          · rw [if_pos (by omega), if_pos (by omega)]
            rw [if_pos hc, if_pos hc] at this
            exact this
          · rw [if_neg (by omega), if_neg (by omega)]
            rw [if_neg hc, if_neg hc] at this
            exact this)
      refine ⟨D', ?_, t2, g.tr t3⟩
      rw [f_Model_workEvents_L42, h67, if_neg (by rw [nb_le (by omega) (by omega)]; omega), a65.1, if_pos (by omega), if_pos (by omega), e1, a65.2, if_pos (by rw [nb_in (by omega)]; omega), if_pos (by rw [nb_in (by omega)]; omega)]
      try simp (disch := omega) only [nb_clamp]
      rw [hj1.1]
      simp only [ob_lt]
      rw [pI_ref, a66.1, if_pos (by omega), if_pos (by omega), a66.2, if_pos (by rw [nb_in (by omega)]; omega), if_pos (by rw [nb_in (by omega)]; omega), pI_ne (by omega), hj1.2, ← hD49]
      exact t1
