-- ===== limits: what the class does =====
def nl_v (c : List Nat) (l : List sLm) : Nat := if c.getD 13 0 = 0 then 13 else if N32 (nn c 18 4) < N32 (nn c 14 4) then 13 else if c.getD 23 0 ≤ 1 then (if 32 ≤ c.getD 12 0 then 13 else if c.getD 22 0 < 32 then pl_v 25 26 16 (fun f : sLm => f.1) (c.getD 11 0) l else 13) else 13
def lm_new (c : List Nat) : sLm := (c.getD 11 0, false, 0, c.getD 12 0, c.getD 13 0, N32 (nn c 14 4), N32 (nn c 18 4), c.getD 22 0, c.getD 23 0)
def lm_add (c : List Nat) (l : List sLm) : List sLm := ky_ins (fun f : sLm => f.1) (lm_new c) l
def lm_to (b : Bool) (n : Int32) (f : sLm) : sLm := (f.1, b, n, f.2.2.2.1, f.2.2.2.2.1, f.2.2.2.2.2.1, f.2.2.2.2.2.2.1, f.2.2.2.2.2.2.2.1, f.2.2.2.2.2.2.2.2)
def lm_on (b : Bool) (k : Nat) (l : List sLm) : List sLm := match ky_find (fun f : sLm => f.1) k l with
  | none => l
  | some i => match l[i]? with
    | none => l
    | some f => l.set i (lm_to b 0 f)
def lm_rem (k : Nat) (l : List sLm) : List sLm := match ky_find (fun f : sLm => f.1) k l with
  | none => l
  | some i => l.eraseIdx i
theorem lm_on_eq {b : Bool} {k i : Nat} {l : List sLm} (hf : ky_find (fun f : sLm => f.1) k l = some i) (hi : i < l.length) : lm_on b k l = l.set i (lm_to b 0 l[i]) := by
  unfold lm_on
  rw [hf]
  have eg : l[i]? = some l[i] := List.getElem?_eq_getElem hi
  simp only [eg]
theorem lm_rem_eq {k i : Nat} {l : List sLm} (hf : ky_find (fun f : sLm => f.1) k l = some i) : lm_rem k l = l.eraseIdx i := by
  unfold lm_rem
  rw [hf]
theorem pl_0 {α : Type} {x y most k : Nat} {key : α → Nat} {l : List α} (hx : x ≠ 0) (hy : y ≠ 0) (h : pl_v x y most key k l = 0) : ky_find key k l = none ∧ l.length < most := by
  unfold pl_v at h
  have hnone : ky_find key k l = none := by
    cases e : ky_find key k l with
    | none => rfl
    | some i => rw [e, if_pos (show (some i : Option Nat).isSome = true from rfl)] at h; exact absurd h hx
  rw [hnone, if_neg (by simp)] at h
  refine ⟨hnone, ?_⟩
  by_cases e : l.length < most
  · exact e
  · rw [if_neg e] at h; exact absurd h hy
theorem nl_0 {c : List Nat} {l : List sLm} (hf : nl_v c l = 0) : c.getD 23 0 ≤ 1 ∧ c.getD 12 0 < 32 ∧ c.getD 22 0 < 32 ∧ ky_find (fun f : sLm => f.1) (c.getD 11 0) l = none ∧ l.length < 16 := by
  unfold nl_v at hf
  have h1 : c.getD 13 0 ≠ 0 := by intro e; rw [if_pos e] at hf; exact absurd hf (by decide)
  rw [if_neg h1] at hf
  have h2 : ¬ N32 (nn c 18 4) < N32 (nn c 14 4) := by intro e; rw [if_pos e] at hf; exact absurd hf (by decide)
  rw [if_neg h2] at hf
  have h3 : c.getD 23 0 ≤ 1 := by
    by_cases e : c.getD 23 0 ≤ 1
    · exact e
    · rw [if_neg e] at hf; exact absurd hf (by decide)
  rw [if_pos h3] at hf
  have h4 : ¬ 32 ≤ c.getD 12 0 := by intro e; rw [if_pos e] at hf; exact absurd hf (by decide)
  rw [if_neg h4] at hf
  have h5 : c.getD 22 0 < 32 := by
    by_cases e : c.getD 22 0 < 32
    · exact e
    · rw [if_neg e] at hf; exact absurd hf (by decide)
  rw [if_pos h5] at hf
  have h6 := pl_0 (by decide) (by decide) hf
  exact ⟨h3, by omega, h5, h6.1, h6.2⟩
theorem hc_newlim {S : ob_S} {D : ob_D} {B m fr : Nat} {c : List Nat} {l : List sLm} (h : cHd S D B m fr) (hc : cCm S D B m fr c) (hk : cLm S D (B + 29 + 2 * m + 71) l) : f_Handler_newLimitFailure S (B + 29 + 2 * m + 80 + 2 * fr + 9) D = some (N32 (nl_v c l), D) := by
  have hb := hc.2.2.2.2.2.2.2.2
  have b13 := by_getD_lt hb 13
  have b23 := by_getD_lt hb 23
  have b12 := by_getD_lt hb 12
  have b22 := by_getD_lt hb 22
  have d2 : f_Handler_data S (B + 29 + 2 * m + 80 + 2 * fr + 9) 2 1 D = some (N32 (c.getD 13 0), D) := hc_d1 h hc (i := 2) (by decide)
  have d12 : f_Handler_data S (B + 29 + 2 * m + 80 + 2 * fr + 9) 12 1 D = some (N32 (c.getD 23 0), D) := hc_d1 h hc (i := 12) (by decide)
  have d1 : f_Handler_data S (B + 29 + 2 * m + 80 + 2 * fr + 9) 1 1 D = some (N32 (c.getD 12 0), D) := hc_d1 h hc (i := 1) (by decide)
  have d11 : f_Handler_data S (B + 29 + 2 * m + 80 + 2 * fr + 9) 11 1 D = some (N32 (c.getD 22 0), D) := hc_d1 h hc (i := 11) (by decide)
  have d3 : f_Handler_data S (B + 29 + 2 * m + 80 + 2 * fr + 9) 3 4 D = some (N32 (nn c 14 4), D) := wc_data h hc (i := 3) (n := 4) (by decide) (by decide)
  have d7 : f_Handler_data S (B + 29 + 2 * m + 80 + 2 * fr + 9) 7 4 D = some (N32 (nn c 18 4), D) := wc_data h hc (i := 7) (n := 4) (by decide) (by decide)
  have hp := hc_place h hc (cLm_kt.mp hk) lm_l0 lm_o0 25 26
  have hp' : f_Handler_placeInTable S (B + 29 + 2 * m + 80 + 2 * fr + 9) (B + 29 + 2 * m + 71) 25 26 D = _ := hp
  unfold f_Handler_newLimitFailure nl_v
  rw [d2]
  simp only [ob_bd]
  by_cases h13 : c.getD 13 0 = 0
  · rw [if_pos h13, if_pos (by rw [h13]; rfl)]; rfl
  rw [if_neg h13, if_neg (by rw [show (0 : Int32) = N32 0 from rfl, nb_eq (by omega) (by decide)]; exact h13), d3]
  simp only [ob_bd]
  rw [d7]
  simp only [ob_bd]
  by_cases hlt : N32 (nn c 18 4) < N32 (nn c 14 4)
  · rw [if_pos hlt, if_pos hlt]; rfl
  rw [if_neg hlt, if_neg hlt, d12]
  simp only [ob_bd]
  rw [show (1 : Int32) = N32 1 from rfl, if_le (by omega) (by decide)]
  by_cases h23 : c.getD 23 0 ≤ 1
  case neg => rw [if_neg h23, if_neg h23]; rfl
  rw [if_pos h23, if_pos h23, show N32 1 = (1 : Int32) from rfl, d1]
  simp only [ob_bd]
  rw [show (32 : Int32) = N32 32 from rfl, if_le (by decide) (by omega)]
  by_cases h12 : 32 ≤ c.getD 12 0
  · rw [if_pos h12, if_pos h12]; rfl
  rw [if_neg h12, if_neg h12, d11]
  simp only [ob_bd]
  by_cases h22 : c.getD 22 0 < 32
  · rw [if_pos h22, evc_there h22]
    simp only [ob_bd]
    rw [if_neg (by decide), h.2.2.2.2.2.2.1, if_pos (by omega), hp']
  · rw [if_neg h22]
    have : f_Events_isThere S (N32 (c.getD 22 0)) D = some (0, D) := by
      unfold f_Events_isThere
      rw [if_neg (by rw [nb_neg (by omega)]; exact id), if_pos (by rw [show (32 : Int32) = N32 32 from rfl, nb_le (by decide) (by omega)]; omega)]
    rw [this]
    rfl
theorem hc_addlim {S : ob_S} {D : ob_D} {B m fr : Nat} {c : List Nat} {l : List sLm} (h : cHd S D B m fr) (hc : cCm S D B m fr c) (hk : cLm S D (B + 29 + 2 * m + 71) l) (hf : nl_v c l = 0) : ∃ D', f_Handler_addLimit S (B + 29 + 2 * m + 80 + 2 * fr + 9) D = some D' ∧ cLm S D' (B + 29 + 2 * m + 71) (lm_add c l) ∧ ob_ag (fun y => y = B + 29 + 2 * m + 71 ∨ y = B + 29 + 2 * m + 72) D D' := by
  obtain ⟨h23, h12, h22, hnone, hroom⟩ := nl_0 hf
  have hb := hc.2.2.2.2.2.2.2.2
  have b11 := by_getD_lt hb 11
  have b13 := by_getD_lt hb 13
  have hmn : ∀ {y : Nat}, y = B + 29 + 2 * m + 71 + 1 → y = B + 29 + 2 * m + 71 ∨ y = B + 29 + 2 * m + 72 := fun e => Or.inr e
  have d0 : f_Handler_data S (B + 29 + 2 * m + 80 + 2 * fr + 9) 0 1 D = some (N32 (c.getD 11 0), D) := hc_d1 h hc (i := 0) (by decide)
  obtain ⟨D6, a1, a2, g6⟩ := kt_add (cLm_kt.mp hk) lm_l0 lm_o0 b11 hroom
  obtain ⟨p, hp⟩ : ∃ p, p = ky_pos (fun f : sLm => f.1) (c.getD 11 0) l := ⟨_, rfl⟩
  have hple := ky_pos_le (fun f : sLm => f.1) (c.getD 11 0) l
  rw [← hp] at a1 a2 hple
  have hA : ((l.map lm_line).take p).length = p := by rw [List.length_take, List.length_map]; omega
  have g6' : ob_ag (fun y => y = B + 29 + 2 * m + 71 ∨ y = B + 29 + 2 * m + 72) D D6 := g6
  have st : ∀ (D1 : ob_D) (g : Nat → Int32) (i n j : Nat) (x : Int32), ob_ag (fun y => y = B + 29 + 2 * m + 71 ∨ y = B + 29 + 2 * m + 72) D D1 → tb_at S D1 (B + 29 + 2 * m + 71) (B + 29 + 2 * m + 71 + 1) 16 9 ((l.map lm_line).take p ++ g :: (l.map lm_line).drop p) → i < 1000 → n < 1000 → j < 9 → D1.2.1 (B + 29 + 2 * m + 80 + 2 * fr + 9) 6 = B + 29 + 2 * m + 71 ∧ f_Handler_data S (B + 29 + 2 * m + 80 + 2 * fr + 9) (N32 i) (N32 n) D1 = some (N32 (nn c (11 + i) n), D1) ∧ ∃ D2, f_Table_set S (B + 29 + 2 * m + 71) (N32 p) (N32 j) x D1 = some D2 ∧ tb_at S D2 (B + 29 + 2 * m + 71) (B + 29 + 2 * m + 71 + 1) 16 9 ((l.map lm_line).take p ++ (fun q => if q = j then x else g q) :: (l.map lm_line).drop p) ∧ ob_ag (fun y => y = B + 29 + 2 * m + 71 ∨ y = B + 29 + 2 * m + 72) D D2 := by
    intro D1 g i n j x g1 ht hi hn hj
    have h1 : cHd S D1 B m fr := h.keep g1.up (by omega) rfl
    have hc1 : cCm S D1 B m fr c := hc.kept g1 (by omega) (by omega)
    obtain ⟨D2, u1, u2, u3⟩ := kt_in ht hA hj x
    exact ⟨h1.2.2.2.2.2.2.1, wc_data h1 hc1 hi hn, D2, u1, u2, g1.tr (u3.mono (fun y e => hmn e))⟩
  obtain ⟨r6, x6, D14, s1, w1, k1⟩ := st D6 _ 1 1 3 (N32 (c.getD 12 0)) g6' a2 (by decide) (by decide) (by decide)
  obtain ⟨r14, x14, D21, s2, w2, k2⟩ := st D14 _ 2 1 4 (N32 (c.getD 13 0)) k1 w1 (by decide) (by decide) (by decide)
  obtain ⟨r21, x21, D28, s3, w3, k3⟩ := st D21 _ 3 4 5 (N32 (nn c 14 4)) k2 w2 (by decide) (by decide) (by decide)
  obtain ⟨r28, x28, D35, s4, w4, k4⟩ := st D28 _ 7 4 6 (N32 (nn c 18 4)) k3 w3 (by decide) (by decide) (by decide)
  obtain ⟨r35, x35, D42, s5, w5, k5⟩ := st D35 _ 11 1 7 (N32 (c.getD 22 0)) k4 w4 (by decide) (by decide) (by decide)
  obtain ⟨r42, x42, D49, s6, w6, k6⟩ := st D42 _ 12 1 8 (N32 (c.getD 23 0)) k5 w5 (by decide) (by decide) (by decide)
  rw [nn_1] at x6 x14 x35 x42
  refine ⟨D49, ?_, ?_, k6⟩
  · have y6 : f_Handler_data S (B + 29 + 2 * m + 80 + 2 * fr + 9) 1 1 D6 = some (N32 (c.getD 12 0), D6) := x6
    have y14 : f_Handler_data S (B + 29 + 2 * m + 80 + 2 * fr + 9) 2 1 D14 = some (N32 (c.getD 13 0), D14) := x14
    have y21 : f_Handler_data S (B + 29 + 2 * m + 80 + 2 * fr + 9) 3 4 D21 = some (N32 (nn c 14 4), D21) := x21
    have y28 : f_Handler_data S (B + 29 + 2 * m + 80 + 2 * fr + 9) 7 4 D28 = some (N32 (nn c 18 4), D28) := x28
    have y35 : f_Handler_data S (B + 29 + 2 * m + 80 + 2 * fr + 9) 11 1 D35 = some (N32 (c.getD 22 0), D35) := x35
    have y42 : f_Handler_data S (B + 29 + 2 * m + 80 + 2 * fr + 9) 12 1 D42 = some (N32 (c.getD 23 0), D42) := x42
    have z1 : f_Table_set S (B + 29 + 2 * m + 71) (N32 p) 3 (N32 (c.getD 12 0)) D6 = some D14 := s1
    have z2 : f_Table_set S (B + 29 + 2 * m + 71) (N32 p) 4 (N32 (c.getD 13 0)) D14 = some D21 := s2
    have z3 : f_Table_set S (B + 29 + 2 * m + 71) (N32 p) 5 (N32 (nn c 14 4)) D21 = some D28 := s3
    have z4 : f_Table_set S (B + 29 + 2 * m + 71) (N32 p) 6 (N32 (nn c 18 4)) D28 = some D35 := s4
    have z5 : f_Table_set S (B + 29 + 2 * m + 71) (N32 p) 7 (N32 (c.getD 22 0)) D35 = some D42 := s5
    have z6 : f_Table_set S (B + 29 + 2 * m + 71) (N32 p) 8 (N32 (c.getD 23 0)) D42 = some D49 := s6
    unfold f_Handler_addLimit
    rw [h.2.2.2.2.2.2.1, if_pos (by omega), d0]
    simp only [ob_bd]
    rw [a1]
    simp only [ob_bd]
    rw [r6, if_pos (by omega), y6]
    simp only [ob_bd]
    rw [z1]
    simp only [ob_bv]
    rw [r14, if_pos (by omega), y14]
    simp only [ob_bd]
    rw [z2]
    simp only [ob_bv]
    rw [r21, if_pos (by omega), y21]
    simp only [ob_bd]
    rw [z3]
    simp only [ob_bv]
    rw [r28, if_pos (by omega), y28]
    simp only [ob_bd]
    rw [z4]
    simp only [ob_bv]
    rw [r35, if_pos (by omega), y35]
    simp only [ob_bd]
    rw [z5]
    simp only [ob_bv]
    rw [r42, if_pos (by omega), y42]
    simp only [ob_bd]
    rw [z6]
  · show cKt S D49 (B + 29 + 2 * m + 71) 16 9 (fun f : sLm => f.1) lm_line lm_ok (lm_add c l)
    rw [hp] at w6
    refine kt_end w6 (fun j hj => ?_) hk.2.1 (ky_find_none.mp hnone) hk.2.2 ⟨b11, h12, b13, h22, by show c.getD 23 0 < 2; omega⟩
    rcases (show j = 0 ∨ j = 1 ∨ j = 2 ∨ j = 3 ∨ j = 4 ∨ j = 5 ∨ j = 6 ∨ j = 7 ∨ j = 8 by omega) with e | e | e | e | e | e | e | e | e <;> subst e <;> rfl
theorem hc_swlim {S : ob_S} {D : ob_D} {B m fr : Nat} {l : List sLm} (h : cHd S D B m fr) (hk : cLm S D (B + 29 + 2 * m + 71) l) {k i : Nat} (hf : ky_find (fun f : sLm => f.1) k l = some i) (b : Bool) : ∃ D', f_Handler_switchLimit S (B + 29 + 2 * m + 80 + 2 * fr + 9) (N32 i) (bI b) D = some D' ∧ cLm S D' (B + 29 + 2 * m + 71) (lm_on b k l) ∧ ob_ag (fun y => y = B + 29 + 2 * m + 72) D D' := by
  obtain ⟨hi, hkk⟩ := ky_find_is hf
  have ho := hk.2.2 l[i] (List.getElem_mem hi)
  obtain ⟨D3, t1, t2, t3⟩ := kt_set (cLm_kt.mp hk) hi (j := 1) (by decide) (lm_to b l[i].2.2.1 l[i]) (fun q hq hne => by
    rcases (show q = 0 ∨ q = 2 ∨ q = 3 ∨ q = 4 ∨ q = 5 ∨ q = 6 ∨ q = 7 ∨ q = 8 by omega) with e | e | e | e | e | e | e | e <;> subst e <;> rfl) rfl ho
  have hi2 : i < (l.set i (lm_to b l[i].2.2.1 l[i])).length := by rw [List.length_set]; exact hi
  have hgi : (l.set i (lm_to b l[i].2.2.1 l[i]))[i] = lm_to b l[i].2.2.1 l[i] := List.getElem_set_self _
  obtain ⟨D7, u1, u2, u3⟩ := kt_set t2 hi2 (j := 2) (by decide) (lm_to b 0 l[i]) (fun q hq hne => by
    rw [hgi]
    rcases (show q = 0 ∨ q = 1 ∨ q = 3 ∨ q = 4 ∨ q = 5 ∨ q = 6 ∨ q = 7 ∨ q = 8 by omega) with e | e | e | e | e | e | e | e <;> subst e <;> rfl) (by rw [hgi]; rfl) ho
  refine ⟨D7, ?_, ?_, t3.tr u3⟩
  · have t1' : f_Table_set S (B + 29 + 2 * m + 71) (N32 i) 1 (bI b) D = some D3 := t1
    have u1' : f_Table_set S (B + 29 + 2 * m + 71) (N32 i) 2 0 D3 = some D7 := u1
    have h3 : D3.2.1 (B + 29 + 2 * m + 80 + 2 * fr + 9) 6 = B + 29 + 2 * m + 71 := by rw [t3.1]; exact h.2.2.2.2.2.2.1
    unfold f_Handler_switchLimit
    rw [h.2.2.2.2.2.2.1, if_pos (by omega), t1']
    simp only [ob_bv]
    rw [h3, if_pos (by omega), u1']
  · rw [lm_on_eq hf hi]
    rw [List.set_set] at u2
    exact u2
