-- ===== forms: what the class does =====
def lf_v {α : Type} (q : Nat) (fl : Bool) (key : α → Nat) (on : α → Bool) (k : Nat) (l : List α) : Nat := match ky_find key k l with
  | none => q
  | some i => match l[i]? with
    | none => 0
    | some x => if fl = true ∧ on x = true then 15 else 0
def pl_v {α : Type} (x y most : Nat) (key : α → Nat) (k : Nat) (l : List α) : Nat := if (ky_find key k l).isSome = true then x else if l.length < most then 0 else y
def fmps (c : List Nat) : List Nat := (c.drop 14).take (c.getD 13 0)
def nf_v (c : List Nat) (l : List sFm) : Nat := if c.getD 12 0 = 0 then 13 else if c.getD 13 0 = 0 then 13 else if c.getD 13 0 ≤ 8 then (if (fmps c).all (fun x => decide (x < 32)) = true then pl_v 11 12 8 (fun f : sFm => f.1) (c.getD 11 0) l else 13) else 13
abbrev hA (B m fr : Nat) : Nat := B + 29 + 2 * m + 80 + 2 * fr + 9
theorem hc_d1 {S : ob_S} {D : ob_D} {B m fr : Nat} {c : List Nat} (h : cHd S D B m fr) (hc : cCm S D B m fr c) {i : Nat} (hi : i < 1000) : f_Handler_data S (B + 29 + 2 * m + 80 + 2 * fr + 9) (N32 i) 1 D = some (N32 (c.getD (11 + i) 0), D) := by
  have := wc_data h hc (i := i) (n := 1) hi (by decide)
  rw [nn_1] at this
  exact this
theorem hc_line {α : Type} {S : ob_S} {D : ob_D} {B m fr : Nat} {c : List Nat} {a most w : Nat} {key : α → Nat} {line : α → Nat → Int32} {ok : α → Prop} {on : α → Bool} {l : List α} (h : cHd S D B m fr) (hc : cCm S D B m fr c) (hk : cKt S D a most w key line ok l) (hl : ∀ x, line x 0 = N32 (key x)) (hl1 : ∀ x, line x 1 = bI (on x)) (hw : 1 < w) (ho : ∀ x, ok x → key x < 256) (q : Nat) (fl : Bool) : f_Handler_lineFailure S (B + 29 + 2 * m + 80 + 2 * fr + 9) a (N32 q) (bI fl) D = some (N32 (lf_v q fl key on (c.getD 11 0) l), D) := by
  have hb := by_getD_lt hc.2.2.2.2.2.2.2.2 11
  have e0 : f_Handler_data S (B + 29 + 2 * m + 80 + 2 * fr + 9) 0 1 D = some (N32 (c.getD 11 0), D) := hc_d1 h hc (i := 0) (by decide)
  have hlen := (kt_len hk).2
  have hmo : most ≤ 100000 := tb_most hk.1.2.2.2.2.1 hk.1.2.2.2.2.2.1
  unfold f_Handler_lineFailure lf_v
  rw [e0]
  simp only [ob_bd]
  rw [kt_find hk hl ho hb]
  simp only [ob_bd]
  cases hf : ky_find key (c.getD 11 0) l with
  | none => rw [if_pos (show ix_v none = -1 from rfl)]
  | some i =>
    obtain ⟨hi, -⟩ := ky_find_is hf
    rw [if_neg (show ¬ ix_v (some i) = -1 by
      show ¬ N32 i = -1
      intro e
      have e2 : (N32 i).toInt = (-1 : Int32).toInt := by rw [e]
      rw [nb_toInt (by omega)] at e2
      have e3 : (-1 : Int32).toInt = -1 := by decide
      omega)]
    have eg : l[i]? = some l[i] := List.getElem?_eq_getElem hi
    simp only [eg]
    cases fl with
    | false =>
      rw [if_pos (show bI false = 0 from rfl), if_neg (by rintro ⟨e, -⟩; exact absurd e (by decide))]
      rfl
    | true =>
      rw [if_neg (show ¬ bI true = 0 by decide)]
      have eget : f_Table_get S a (ix_v (some i)) 1 D = some (line l[i] 1, D) := kt_get hk hi hw
      rw [eget]
      simp only [ob_bd]
      rw [hl1]
      cases hon : on l[i] with
      | false => rw [if_neg (show ¬ bI false = 1 by decide), if_neg (by rintro ⟨-, e⟩; exact absurd e (by decide))]; rfl
      | true => rw [if_pos (show bI true = 1 by decide), if_pos ⟨trivial, rfl⟩]; rfl
theorem hc_place {α : Type} {S : ob_S} {D : ob_D} {B m fr : Nat} {c : List Nat} {a most w : Nat} {key : α → Nat} {line : α → Nat → Int32} {ok : α → Prop} {l : List α} (h : cHd S D B m fr) (hc : cCm S D B m fr c) (hk : cKt S D a most w key line ok l) (hl : ∀ x, line x 0 = N32 (key x)) (ho : ∀ x, ok x → key x < 256) (x y : Nat) : f_Handler_placeInTable S (B + 29 + 2 * m + 80 + 2 * fr + 9) a (N32 x) (N32 y) D = some (N32 (pl_v x y most key (c.getD 11 0) l), D) := by
  have hb := by_getD_lt hc.2.2.2.2.2.2.2.2 11
  have e0 : f_Handler_data S (B + 29 + 2 * m + 80 + 2 * fr + 9) 0 1 D = some (N32 (c.getD 11 0), D) := hc_d1 h hc (i := 0) (by decide)
  have hlen := (kt_len hk).2
  have hmo : most ≤ 100000 := tb_most hk.1.2.2.2.2.1 hk.1.2.2.2.2.2.1
  unfold f_Handler_placeInTable pl_v
  rw [e0]
  simp only [ob_bd]
  rw [kt_find hk hl ho hb]
  simp only [ob_bd]
  cases hf : ky_find key (c.getD 11 0) l with
  | none =>
    rw [if_pos (show ix_v none = -1 from rfl), kt_full hk]
    simp only [ob_bd]
    by_cases hc2 : l.length < most
    · simp [hc2]
      rfl
    · simp [hc2]
  | some i =>
    obtain ⟨hi, -⟩ := ky_find_is hf
    rw [if_neg (show ¬ ix_v (some i) = -1 by
      show ¬ N32 i = -1
      intro e
      have e2 : (N32 i).toInt = (-1 : Int32).toInt := by rw [e]
      rw [nb_toInt (by omega)] at e2
      have e3 : (-1 : Int32).toInt = -1 := by decide
      omega)]
    rfl
theorem fmps_len {c : List Nat} (h : c.length = 16 + c.getD 13 0) : (fmps c).length = c.getD 13 0 := by
  unfold fmps
  rw [List.length_take, List.length_drop]
  omega
theorem fmps_get {c : List Nat} {j : Nat} (hj : j < c.getD 13 0) : (fmps c).getD j 0 = c.getD (14 + j) 0 := gd_slice c hj
theorem hc_newform {S : ob_S} {D : ob_D} {B m fr : Nat} {c : List Nat} {l : List sFm} (h : cHd S D B m fr) (hc : cCm S D B m fr c) (hk : cFm S D (B + 29 + 2 * m + 80 + 2 * fr + 10) l) (hl : c.length = 16 + c.getD 13 0) : f_Handler_newFormFailure S (B + 29 + 2 * m + 80 + 2 * fr + 9) D = some (N32 (nf_v c l), D) := by
  have hb := hc.2.2.2.2.2.2.2.2
  have hb12 := by_getD_lt hb 12
  have hb13 := by_getD_lt hb 13
  have hpl := fmps_len hl
  have e1 : f_Handler_data S (B + 29 + 2 * m + 80 + 2 * fr + 9) 1 1 D = some (N32 (c.getD 12 0), D) := hc_d1 h hc (i := 1) (by decide)
  have e2 : f_Handler_data S (B + 29 + 2 * m + 80 + 2 * fr + 9) 2 1 D = some (N32 (c.getD 13 0), D) := hc_d1 h hc (i := 2) (by decide)
  have hL : ∀ (d n j : Nat), j + d = c.getD 13 0 → d < n → f_Handler_newFormFailure_L31 S n (B + 29 + 2 * m + 80 + 2 * fr + 9) (N32 (c.getD 13 0)) (N32 j) D = some (N32 (if ((fmps c).drop j).all (fun x => decide (x < 32)) = true then pl_v 11 12 8 (fun f : sFm => f.1) (c.getD 11 0) l else 13), D) := by
    intro d
    induction d with
    | zero =>
      intro n j hj hn
      match n, hn with
      | n + 1, _ =>
        have hp := hc_place h hc (cFm_kt.mp hk) fm_l0 fm_o0 11 12
        have hp' : f_Handler_placeInTable S (B + 29 + 2 * m + 80 + 2 * fr + 9) (B + 29 + 2 * m + 80 + 2 * fr + 10) 11 12 D = _ := hp
        rw [f_Handler_newFormFailure_L31, if_pos (by rw [nb_le (by omega) (by omega)]; omega), h.2.2.2.2.2.1, if_pos (by omega), hp']
        simp only [ob_bd]
        rw [List.drop_of_length_le (by omega), if_pos (by rfl)]
    | succ d ih =>
      intro n j hj hn
      match n, hn with
      | n + 1, hn =>
        have e3 : (3 : Int32) + N32 j = N32 (3 + j) := nb_add 3 j
        have ej : N32 j + (1 : Int32) = N32 (j + 1) := nb_add _ 1
        have ed : f_Handler_data S (B + 29 + 2 * m + 80 + 2 * fr + 9) (N32 (3 + j)) 1 D = some (N32 (c.getD (11 + (3 + j)) 0), D) := hc_d1 h hc (by omega)
        rw [show 11 + (3 + j) = 14 + j by omega] at ed
        have hbj := by_getD_lt hb (14 + j)
        have hdr : (fmps c).drop j = c.getD (14 + j) 0 :: (fmps c).drop (j + 1) := by
          rw [List.drop_eq_getElem_cons (by omega)]
          congr 1
          rw [← fmps_get (by omega), List.getD_eq_getElem?_getD, List.getElem?_eq_getElem (by omega)]
          rfl
        rw [f_Handler_newFormFailure_L31, if_neg (by rw [nb_le (by omega) (by omega)]; omega), e3, ed]
        simp only [ob_bd]
        rw [show (32 : Int32) = N32 32 from rfl, if_lt (by omega) (by decide), hdr, List.all_cons, ej]
        by_cases hc3 : c.getD (14 + j) 0 < 32
        · rw [if_pos hc3, show decide (c.getD (14 + j) 0 < 32) = true from decide_eq_true hc3, Bool.true_and]
          exact ih n (j + 1) (by omega) (by omega)
        · rw [if_neg hc3, show decide (c.getD (14 + j) 0 < 32) = false from decide_eq_false hc3, Bool.false_and, if_neg (by decide)]
          rfl
  unfold f_Handler_newFormFailure nf_v
  rw [e2]
  simp only [ob_bd]
  rw [e1]
  simp only [ob_bd]
  rw [show (0 : Int32) = N32 0 from rfl, if_en (by omega) (by decide), if_en (by omega) (by decide), show (8 : Int32) = N32 8 from rfl, if_le (by omega) (by decide)]
  by_cases h12 : c.getD 12 0 = 0
  · rw [if_pos h12, if_pos h12]; rfl
  rw [if_neg h12, if_neg h12]
  by_cases h13 : c.getD 13 0 = 0
  · rw [if_pos h13, if_pos h13]; rfl
  rw [if_neg h13, if_neg h13]
  by_cases h8 : c.getD 13 0 ≤ 8
  · rw [if_pos h8, if_pos h8]
    have := hL (c.getD 13 0) ob_FU 0 (by omega) (by rw [ob_FU_eq]; omega)
    rw [List.drop_zero] at this
    exact this
  · rw [if_neg h8, if_neg h8]; rfl
