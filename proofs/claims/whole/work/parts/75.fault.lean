-- ===== faults of a command =====
def kf_t : List (Nat × Int32) := [(769, -1), (771, 1), (773, 1), (774, 1), (795, 1), (1285, 1), (1286, 1), (1538, -1), (1541, 3), (1545, 4), (2049, 6), (2817, 0), (2818, 0), (2819, 0), (2820, -17), (2821, 2), (2831, 4), (2833, 0), (3073, 1), (3074, 1), (3077, 13), (3078, 1), (3841, 1), (3842, 1), (3849, 8), (3851, 4), (3852, 0), (4353, 0), (4865, -14), (4866, 1), (4868, 1), (4869, 1)]
def kf_c (c : Int32) (len s : Nat) : Nat := if c = -1 then (if len < 3 then 7 else if len = 3 + s then 0 else 7) else if -1 ≤ c then (if N32 len = c then 0 else 7) else (if N32 len < -c then 7 else 0)
def kf_go (k len s : Nat) : List (Nat × Int32) → Nat
  | [] => 6
  | (q, c) :: t => if k = q then kf_c c len s else kf_go k len s t
def kf (k len s : Nat) : Nat := kf_go k len s kf_t
def fo (p : List Nat) : Nat := if p.length < 13 then 1 else if p.length = nn p 4 2 + 7 then (if cr_f p = 0 then (if nn p 0 2 / 2048 = 3 then (if p.getD 2 0 / 64 = 3 then (if nn p 0 2 % 2048 = 42 then (if p.getD 6 0 / 16 = 2 then kf (nn p 7 2) (p.length - 13) (p.getD 13 0) else 5) else 4) else 3) else 3) else 2) else 1
theorem kf_c_le (c : Int32) (len s : Nat) : kf_c c len s = 0 ∨ kf_c c len s = 7 := by
  unfold kf_c
  split
  · split
    · exact Or.inr rfl
    · split
      · exact Or.inl rfl
      · exact Or.inr rfl
  · split
    · split
      · exact Or.inl rfl
      · exact Or.inr rfl
    · split
      · exact Or.inr rfl
      · exact Or.inl rfl
theorem kf_c_s {c : Int32} {len s s' : Nat} (h : len < 3) : kf_c c len s = kf_c c len s' := by
  unfold kf_c
  by_cases hc : c = -1
  · rw [if_pos hc, if_pos hc, if_pos h, if_pos h]
  · rw [if_neg hc, if_neg hc]
theorem kf_s {k len s s' : Nat} (h : len < 3) : kf k len s = kf k len s' := by
  unfold kf
  generalize kf_t = t
  induction t with
  | nil => rfl
  | cons a t ih =>
    obtain ⟨q, c⟩ := a
    rw [kf_go, kf_go, ih, kf_c_s h]
theorem kf_le (k len s : Nat) : kf k len s ≤ 7 := by
  unfold kf
  generalize kf_t = t
  induction t with
  | nil => exact (by decide : 6 ≤ 7)
  | cons a t ih =>
    obtain ⟨q, c⟩ := a
    rw [kf_go]
    split
    · rcases kf_c_le c len s with h | h <;> omega
    · exact ih
theorem fo_le (p : List Nat) : fo p ≤ 7 := by
  unfold fo
  have := kf_le (nn p 7 2) (p.length - 13) (p.getD 13 0)
  repeat' split
  all_goals omega
/-- a code that a length must keep: as the class asks -/
theorem kfc_right {S : ob_S} {D : ob_D} (c : Int32) {len s : Nat} (hl : len < 1000) (hs : s < 1000) : ∃ b, f_Handler_isRightLength S c (N32 len) (N32 s) D = some (bI b, D) ∧ kf_c c len s = if b = true then 0 else 7 := by
  unfold f_Handler_isRightLength kf_c
  by_cases h1 : c = -1
  · rw [if_pos h1, if_pos h1, show (3 : Int32) = N32 3 from rfl, if_lt (by omega) (by decide), nb_add, if_en (by omega) (by omega)]
    by_cases h2 : len < 3
    · rw [if_pos h2, if_pos h2]; exact ⟨false, rfl, rfl⟩
    · rw [if_neg h2, if_neg h2]
      by_cases h3 : len = 3 + s
      · rw [if_pos h3, if_pos h3]; exact ⟨true, rfl, rfl⟩
      · rw [if_neg h3, if_neg h3]; exact ⟨false, rfl, rfl⟩
  · rw [if_neg h1, if_neg h1]
    by_cases h2 : -1 ≤ c
    · rw [if_pos h2, if_pos h2]
      by_cases h3 : N32 len = c
      · rw [if_pos h3, if_pos h3]; exact ⟨true, rfl, rfl⟩
      · rw [if_neg h3, if_neg h3]; exact ⟨false, rfl, rfl⟩
    · rw [if_neg h2, if_neg h2]
      by_cases h3 : N32 len < -c
      · rw [if_pos h3, if_pos h3]; exact ⟨false, rfl, rfl⟩
      · rw [if_neg h3, if_neg h3]; exact ⟨true, rfl, rfl⟩
theorem ob_LEN_t : ∀ i : Fin 32, ob_LEN (2 * i.val) = N32 (kf_t.getD i.val (0, 0)).1 ∧ ob_LEN (2 * i.val + 1) = (kf_t.getD i.val (0, 0)).2 ∧ (kf_t.getD i.val (0, 0)).1 < 65536 := by decide
theorem kfc_kind {S : ob_S} {D : ob_D} {a b cap f len k : Nat} {c : List Nat} (hw : rw_at S D a b cap c) (hf : f < 1000) (hl : len < 1000) (hk : k < 65536) : ∀ (d n i : Nat), i + d = 32 → d < n → f_Handler_kindFaultOf_L13 S n a (N32 f) (N32 len) (N32 k) (N32 (2 * i)) D = some (N32 (kf_go k len (c.getD (f + 13) 0) (kf_t.drop i)), D) := by
  intro d
  induction d with
  | zero =>
    intro n i hi hn
    match n, hn with
    | n + 1, _ =>
      have hi' : i = 32 := hi
      subst hi'
      rw [f_Handler_kindFaultOf_L13, if_pos (by decide)]
      rfl
  | succ d ih =>
    intro n i hi hn
    match n, hn with
    | n + 1, hn =>
      have hL := ob_LEN_t ⟨i, by omega⟩
      have e1 : N32 (2 * i) + (1 : Int32) = N32 (2 * i + 1) := nb_add _ 1
      have e2 : N32 (2 * i) + (2 : Int32) = N32 (2 * (i + 1)) := nb_add _ 2
      have hd : kf_t.drop i = kf_t.getD i (0, 0) :: kf_t.drop (i + 1) := by
        have hlt : i < kf_t.length := by show i < 32; omega
        rw [List.drop_eq_getElem_cons hlt]
        congr 1
        simp [List.getD_eq_getElem?_getD, hlt]
      have ef : (N32 f + (11 : Int32)) + (2 : Int32) = N32 (f + 13) := by
        have x1 : N32 f + (11 : Int32) = N32 (f + 11) := nb_add _ 11
        rw [x1]
        exact nb_add _ 2
      have hb := by_getD_lt hw.2.2.2.2.2.2.2.2 (f + 13)
      have er : f_Row_number S a (N32 (f + 13)) 1 D = some (N32 (c.getD (f + 13) 0), D) := by
        have := rw_num hw (f := f + 13) (c := 1) (by decide) (by omega)
        rw [nn_1] at this
        exact this
      obtain ⟨rb, r1, r2⟩ := kfc_right (S := S) (D := D) (kf_t.getD i (0, 0)).2 (len := len) (s := c.getD (f + 13) 0) hl (by omega)
      have hin : ob_in (N32 (2 * i + 1)) 64 := by rw [nb_in (by omega)]; omega
      have hL1 : ob_LEN (N32 (2 * i)).toNatClampNeg = N32 (kf_t.getD i (0, 0)).1 := by rw [nb_clamp (by omega)]; exact hL.1
      have hL2 : ob_LEN (N32 (2 * i + 1)).toNatClampNeg = (kf_t.getD i (0, 0)).2 := by rw [nb_clamp (by omega)]; exact hL.2.1
      have hL3 : (kf_t.getD i (0, 0)).1 < 65536 := hL.2.2
      rw [f_Handler_kindFaultOf_L13, e1, if_neg (by rw [show (64 : Int32) = N32 64 from rfl, nb_le (by decide) (by omega)]; omega), if_pos (by rw [nb_in (by omega)]; omega), hL1, if_en (by omega) (by omega), hd, kf_go, r2]
      by_cases hc : (kf_t.getD i (0, 0)).1 = k
      · rw [if_pos hc, if_pos hc.symm, ef, er]
        simp only [ob_bd]
        rw [if_pos hin, hL2, r1]
        simp only [ob_bd]
        rw [if_bI]
        cases rb <;> rfl
      · rw [if_neg hc, if_neg (fun e => hc e.symm), e2]
        exact ih n (i + 1) (by omega) (by omega)
theorem nn_slice (c : List Nat) (f n i : Nat) : ∀ k, i + k ≤ n → nn ((c.drop f).take n) i k = nn c (f + i) k
  | 0, _ => rfl
  | k + 1, h => by
    rw [nn, nn, nn_slice c f n i k (by omega)]
    congr 1
    simp only [List.getD_eq_getElem?_getD]
    rw [List.getElem?_take_of_lt (by omega), List.getElem?_drop, Nat.add_assoc]
theorem gd_slice (c : List Nat) {f n i : Nat} (h : i < n) : ((c.drop f).take n).getD i 0 = c.getD (f + i) 0 := by
  simp only [List.getD_eq_getElem?_getD]
  rw [List.getElem?_take_of_lt h, List.getElem?_drop]
theorem foc {S : ob_S} {D : ob_D} {a b cap f n : Nat} {c : List Nat} (hw : rw_at S D a b cap c) (hf : f + n ≤ c.length) (hc : c.length ≤ 252) : f_Handler_faultOf S a (N32 f) (N32 n) D = some (N32 (fo ((c.drop f).take n)), D) := by
  have hpl : ((c.drop f).take n).length = n := by rw [List.length_take, List.length_drop]; omega
  have hb := hw.2.2.2.2.2.2.2.2
  unfold f_Handler_faultOf fo
  rw [hpl, show (13 : Int32) = N32 13 from rfl, if_lt (by omega) (by decide)]
  by_cases h13 : n < 13
  · rw [if_pos h13, if_pos h13]
    rfl
  have s0 : nn ((c.drop f).take n) 0 2 = nn c f 2 := nn_slice c f n 0 2 (by omega)
  have s4 : nn ((c.drop f).take n) 4 2 = nn c (f + 4) 2 := nn_slice c f n 4 2 (by omega)
  have s7 : nn ((c.drop f).take n) 7 2 = nn c (f + 7) 2 := nn_slice c f n 7 2 (by omega)
  have s2 : ((c.drop f).take n).getD 2 0 = c.getD (f + 2) 0 := gd_slice c (by omega)
  have s6 : ((c.drop f).take n).getD 6 0 = c.getD (f + 6) 0 := gd_slice c (by omega)
  rw [if_neg h13, if_neg h13, s0, s4, s7, s2, s6]
  have i4 : N32 f + (4 : Int32) = N32 (f + 4) := nb_add _ 4
  have i2 : N32 f + (2 : Int32) = N32 (f + 2) := nb_add _ 2
  have i6 : N32 f + (6 : Int32) = N32 (f + 6) := nb_add _ 6
  have r4 : f_Row_number S a (N32 (f + 4)) 2 D = some (N32 (nn c (f + 4) 2), D) := rw_num hw (f := f + 4) (c := 2) (by decide) (by omega)
  have r0 : f_Row_number S a (N32 f) 2 D = some (N32 (nn c f 2), D) := rw_num hw (f := f) (c := 2) (by decide) (by omega)
  have r2 : f_Row_number S a (N32 (f + 2)) 1 D = some (N32 (c.getD (f + 2) 0), D) := by
    have := rw_num hw (f := f + 2) (c := 1) (by decide) (by omega)
    rw [nn_1] at this
    exact this
  have r6 : f_Row_number S a (N32 (f + 6)) 1 D = some (N32 (c.getD (f + 6) 0), D) := by
    have := rw_num hw (f := f + 6) (c := 1) (by decide) (by omega)
    rw [nn_1] at this
    exact this
  have rc : f_Row_check S a (N32 f) (N32 n) D = _ := rw_crc hw hf
  have b4 := nn_lt hb (f + 4) 2
  have b0 := nn_lt hb f 2
  have b7 := nn_lt hb (f + 7) 2
  have b2 := by_getD_lt hb (f + 2)
  have b6 := by_getD_lt hb (f + 6)
  have bc : cr_f ((c.drop f).take n) < 65536 := cr_f_lt (fun x hx => hb x (List.mem_of_mem_drop (List.mem_of_mem_take hx)))
  have e7 : N32 (nn c (f + 4) 2) + (7 : Int32) = N32 (nn c (f + 4) 2 + 7) := nb_add _ 7
  have u11 : ((N32 (nn c f 2)).toUInt32 >>> ((11 : Int32).toUInt32 &&& Int32.toUInt32 31)).toInt32 = N32 (nn c f 2 / 2048) := n_ushr (nn c f 2) 11 (by omega) (by decide)
  have u6 : ((N32 (c.getD (f + 2) 0)).toUInt32 >>> ((6 : Int32).toUInt32 &&& Int32.toUInt32 31)).toInt32 = N32 (c.getD (f + 2) 0 / 64) := n_ushr _ 6 (by omega) (by decide)
  have u4 : ((N32 (c.getD (f + 6) 0)).toUInt32 >>> ((4 : Int32).toUInt32 &&& Int32.toUInt32 31)).toInt32 = N32 (c.getD (f + 6) 0 / 16) := n_ushr _ 4 (by omega) (by decide)
  rw [i4, r4]
  simp only [ob_bd]
  rw [e7, if_en (by omega) (by omega)]
  by_cases c1 : n = nn c (f + 4) 2 + 7
  case neg => rw [if_neg c1, if_neg c1]; rfl
  rw [if_pos c1, if_pos c1, rc]
  simp only [ob_bd]
  rw [show (0 : Int32) = N32 0 from rfl, if_en (by omega) (by decide)]
  by_cases c2 : cr_f ((c.drop f).take n) = 0
  case neg => rw [if_neg c2, if_neg c2]; rfl
  rw [if_pos c2, if_pos c2, r0]
  simp only [ob_bd]
  rw [u11, show (3 : Int32) = N32 3 from rfl, if_en (by omega) (by decide)]
  by_cases c3 : nn c f 2 / 2048 = 3
  case neg => rw [if_neg c3, if_neg c3]
  rw [if_pos c3, if_pos c3, i2, r2]
  simp only [ob_bd]
  rw [u6, if_en (by omega) (by decide)]
  by_cases c4 : c.getD (f + 2) 0 / 64 = 3
  case neg => rw [if_neg c4, if_neg c4]
  rw [if_pos c4, if_pos c4, n_2047, show (42 : Int32) = N32 42 from rfl, if_en (by omega) (by decide)]
  by_cases c5 : nn c f 2 % 2048 = 42
  case neg => rw [if_neg c5, if_neg c5]; rfl
  rw [if_pos c5, if_pos c5, i6, r6]
  simp only [ob_bd]
  rw [u4, show (2 : Int32) = N32 2 from rfl, if_en (by omega) (by decide)]
  by_cases c6 : c.getD (f + 6) 0 / 16 = 2
  case neg => rw [if_neg c6, if_neg c6]; rfl
  rw [if_pos c6, if_pos c6]
  unfold f_Handler_kindFaultOf
  have i7 : N32 f + (7 : Int32) = N32 (f + 7) := nb_add _ 7
  have r7 : f_Row_number S a (N32 (f + 7)) 2 D = some (N32 (nn c (f + 7) 2), D) := rw_num hw (f := f + 7) (c := 2) (by decide) (by omega)
  rw [i7, r7]
  simp only [ob_bd]
  have hkf := kfc_kind (S := S) (len := n - 13) (k := nn c (f + 7) 2) hw (f := f) (by omega) (by omega) b7 32 ob_FU 0 (by omega) (by rw [ob_FU_eq]; omega)
  rw [nb_sub (by omega)]
  have hkf' : f_Handler_kindFaultOf_L13 S ob_FU a (N32 f) (N32 (n - 13)) (N32 (nn c (f + 7) 2)) 0 D = _ := hkf
  rw [hkf', List.drop_zero]
  show some (N32 (kf (nn c (f + 7) 2) (n - 13) (c.getD (f + 13) 0)), D) = _
  by_cases h16 : n - 13 < 3
  · rw [kf_s h16 (s' := ((c.drop f).take n).getD 13 0)]
  · rw [gd_slice _ (by omega)]
-- ===== the reference's faults =====
theorem kfm_e {len : Nat} {D : ob_D} {c : Int32} {s : Nat} (h1 : ¬ c = -1) (h2 : -1 ≤ c) : (if N32 len = c then (if (1 : Int32) = 0 then some ((7 : Int32), D) else some ((0 : Int32), D)) else (if (0 : Int32) = 0 then some ((7 : Int32), D) else some ((0 : Int32), D))) = some (N32 (kf_c c len s), D) := by
  unfold kf_c
  rw [if_neg h1, if_pos h2]
  by_cases h : N32 len = c
  · rw [if_pos h, if_pos h, if_neg (by decide)]; rfl
  · rw [if_neg h, if_neg h, if_pos rfl]; rfl
theorem kfm_m {len : Nat} {D : ob_D} {c d : Int32} {s : Nat} (h1 : ¬ c = -1) (h2 : ¬ -1 ≤ c) (hd : d = -c) : (if N32 len < d then (if (0 : Int32) = 0 then some ((7 : Int32), D) else some ((0 : Int32), D)) else (if (1 : Int32) = 0 then some ((7 : Int32), D) else some ((0 : Int32), D))) = some (N32 (kf_c c len s), D) := by
  unfold kf_c
  rw [if_neg h1, if_neg h2, hd]
  by_cases h : N32 len < -c
  · rw [if_pos h, if_pos h, if_pos rfl]; rfl
  · rw [if_neg h, if_neg h, if_neg (by decide)]; rfl
theorem kfm_v {S : ob_S} {len : Nat} {D : ob_D} {s : Nat} (hl : len < 1000) (hs : s < 1000) : (if N32 len < (3 : Int32) then f_Model_lengthFault_L305 S D else (if N32 len = ((3 : Int32) + N32 s) then (if (1 : Int32) = 0 then some ((7 : Int32), D) else some ((0 : Int32), D)) else f_Model_lengthFault_L305 S D)) = some (N32 (kf_c (-1) len s), D) := by
  unfold kf_c f_Model_lengthFault_L305
  rw [if_pos rfl, show (3 : Int32) = N32 3 from rfl, if_lt (by omega) (by decide), nb_add, if_en (by omega) (by omega)]
  by_cases h2 : len < 3
  · rw [if_pos h2, if_pos h2, if_pos rfl]; rfl
  · rw [if_neg h2, if_neg h2]
    by_cases h3 : len = 3 + s
    · rw [if_pos h3, if_pos h3, if_neg (by decide)]; rfl
    · rw [if_neg h3, if_neg h3, if_pos rfl]; rfl
theorem kfm_kind {S : ob_S} {D : ob_D} {k len s : Nat} (hk : k < 65536) (hl : len < 1000) (hs : s < 1000) : f_Model_lengthFault_L18 S (N32 k) (N32 len) (N32 s) D = some (N32 (kf k len s), D) := by
  unfold kf kf_t f_Model_lengthFault_L18
  rw [kf_go, show (769 : Int32) = N32 769 from rfl, if_en (by omega) (by decide)]
  by_cases h769 : k = 769
  · rw [if_pos h769, if_pos h769]; exact kfm_v hl hs
  rw [if_neg h769, if_neg h769]
  rw [kf_go, show (771 : Int32) = N32 771 from rfl, if_en (by omega) (by decide)]
  by_cases h771 : k = 771
  · rw [if_pos h771, if_pos h771]; exact kfm_e (by decide) (by decide)
  rw [if_neg h771, if_neg h771]
  rw [kf_go, show (773 : Int32) = N32 773 from rfl, if_en (by omega) (by decide)]
  by_cases h773 : k = 773
  · rw [if_pos h773, if_pos h773]; exact kfm_e (by decide) (by decide)
  rw [if_neg h773, if_neg h773]
  rw [kf_go, show (774 : Int32) = N32 774 from rfl, if_en (by omega) (by decide)]
  by_cases h774 : k = 774
  · rw [if_pos h774, if_pos h774]; exact kfm_e (by decide) (by decide)
  rw [if_neg h774, if_neg h774]
  rw [kf_go, show (795 : Int32) = N32 795 from rfl, if_en (by omega) (by decide)]
  by_cases h795 : k = 795
  · rw [if_pos h795, if_pos h795]; exact kfm_e (by decide) (by decide)
  rw [if_neg h795, if_neg h795]
  rw [kf_go, show (1285 : Int32) = N32 1285 from rfl, if_en (by omega) (by decide)]
  by_cases h1285 : k = 1285
  · rw [if_pos h1285, if_pos h1285]; exact kfm_e (by decide) (by decide)
  rw [if_neg h1285, if_neg h1285]
  rw [kf_go, show (1286 : Int32) = N32 1286 from rfl, if_en (by omega) (by decide)]
  by_cases h1286 : k = 1286
  · rw [if_pos h1286, if_pos h1286]; exact kfm_e (by decide) (by decide)
  rw [if_neg h1286, if_neg h1286]
  rw [kf_go, show (1538 : Int32) = N32 1538 from rfl, if_en (by omega) (by decide)]
  by_cases h1538 : k = 1538
  · rw [if_pos h1538, if_pos h1538]; exact kfm_v hl hs
  rw [if_neg h1538, if_neg h1538]
  rw [kf_go, show (1541 : Int32) = N32 1541 from rfl, if_en (by omega) (by decide)]
  by_cases h1541 : k = 1541
  · rw [if_pos h1541, if_pos h1541]; exact kfm_e (by decide) (by decide)
  rw [if_neg h1541, if_neg h1541]
  rw [kf_go, show (1545 : Int32) = N32 1545 from rfl, if_en (by omega) (by decide)]
  by_cases h1545 : k = 1545
  · rw [if_pos h1545, if_pos h1545]; exact kfm_e (by decide) (by decide)
  rw [if_neg h1545, if_neg h1545]
  rw [kf_go, show (2049 : Int32) = N32 2049 from rfl, if_en (by omega) (by decide)]
  by_cases h2049 : k = 2049
  · rw [if_pos h2049, if_pos h2049]; exact kfm_e (by decide) (by decide)
  rw [if_neg h2049, if_neg h2049]
  rw [kf_go, show (2817 : Int32) = N32 2817 from rfl, if_en (by omega) (by decide)]
  by_cases h2817 : k = 2817
  · rw [if_pos h2817, if_pos h2817]; exact kfm_e (by decide) (by decide)
  rw [if_neg h2817, if_neg h2817]
  rw [kf_go, show (2818 : Int32) = N32 2818 from rfl, if_en (by omega) (by decide)]
  by_cases h2818 : k = 2818
  · rw [if_pos h2818, if_pos h2818]; exact kfm_e (by decide) (by decide)
  rw [if_neg h2818, if_neg h2818]
  rw [kf_go, show (2819 : Int32) = N32 2819 from rfl, if_en (by omega) (by decide)]
  by_cases h2819 : k = 2819
  · rw [if_pos h2819, if_pos h2819]; exact kfm_e (by decide) (by decide)
  rw [if_neg h2819, if_neg h2819]
  rw [kf_go, show (2820 : Int32) = N32 2820 from rfl, if_en (by omega) (by decide)]
  by_cases h2820 : k = 2820
  · rw [if_pos h2820, if_pos h2820]; exact kfm_m (by decide) (by decide) (by decide)
  rw [if_neg h2820, if_neg h2820]
  rw [kf_go, show (2821 : Int32) = N32 2821 from rfl, if_en (by omega) (by decide)]
  by_cases h2821 : k = 2821
  · rw [if_pos h2821, if_pos h2821]; exact kfm_e (by decide) (by decide)
  rw [if_neg h2821, if_neg h2821]
  rw [kf_go, show (2831 : Int32) = N32 2831 from rfl, if_en (by omega) (by decide)]
  by_cases h2831 : k = 2831
  · rw [if_pos h2831, if_pos h2831]; exact kfm_e (by decide) (by decide)
  rw [if_neg h2831, if_neg h2831]
  rw [kf_go, show (2833 : Int32) = N32 2833 from rfl, if_en (by omega) (by decide)]
  by_cases h2833 : k = 2833
  · rw [if_pos h2833, if_pos h2833]; exact kfm_e (by decide) (by decide)
  rw [if_neg h2833, if_neg h2833]
  rw [kf_go, show (3073 : Int32) = N32 3073 from rfl, if_en (by omega) (by decide)]
  by_cases h3073 : k = 3073
  · rw [if_pos h3073, if_pos h3073]; exact kfm_e (by decide) (by decide)
  rw [if_neg h3073, if_neg h3073]
  rw [kf_go, show (3074 : Int32) = N32 3074 from rfl, if_en (by omega) (by decide)]
  by_cases h3074 : k = 3074
  · rw [if_pos h3074, if_pos h3074]; exact kfm_e (by decide) (by decide)
  rw [if_neg h3074, if_neg h3074]
  rw [kf_go, show (3077 : Int32) = N32 3077 from rfl, if_en (by omega) (by decide)]
  by_cases h3077 : k = 3077
  · rw [if_pos h3077, if_pos h3077]; exact kfm_e (by decide) (by decide)
  rw [if_neg h3077, if_neg h3077]
  rw [kf_go, show (3078 : Int32) = N32 3078 from rfl, if_en (by omega) (by decide)]
  by_cases h3078 : k = 3078
  · rw [if_pos h3078, if_pos h3078]; exact kfm_e (by decide) (by decide)
  rw [if_neg h3078, if_neg h3078]
  rw [kf_go, show (3841 : Int32) = N32 3841 from rfl, if_en (by omega) (by decide)]
  by_cases h3841 : k = 3841
  · rw [if_pos h3841, if_pos h3841]; exact kfm_e (by decide) (by decide)
  rw [if_neg h3841, if_neg h3841]
  rw [kf_go, show (3842 : Int32) = N32 3842 from rfl, if_en (by omega) (by decide)]
  by_cases h3842 : k = 3842
  · rw [if_pos h3842, if_pos h3842]; exact kfm_e (by decide) (by decide)
  rw [if_neg h3842, if_neg h3842]
  rw [kf_go, show (3849 : Int32) = N32 3849 from rfl, if_en (by omega) (by decide)]
  by_cases h3849 : k = 3849
  · rw [if_pos h3849, if_pos h3849]; exact kfm_e (by decide) (by decide)
  rw [if_neg h3849, if_neg h3849]
  rw [kf_go, show (3851 : Int32) = N32 3851 from rfl, if_en (by omega) (by decide)]
  by_cases h3851 : k = 3851
  · rw [if_pos h3851, if_pos h3851]; exact kfm_e (by decide) (by decide)
  rw [if_neg h3851, if_neg h3851]
  rw [kf_go, show (3852 : Int32) = N32 3852 from rfl, if_en (by omega) (by decide)]
  by_cases h3852 : k = 3852
  · rw [if_pos h3852, if_pos h3852]; exact kfm_e (by decide) (by decide)
  rw [if_neg h3852, if_neg h3852]
  rw [kf_go, show (4353 : Int32) = N32 4353 from rfl, if_en (by omega) (by decide)]
  by_cases h4353 : k = 4353
  · rw [if_pos h4353, if_pos h4353]; exact kfm_e (by decide) (by decide)
  rw [if_neg h4353, if_neg h4353]
  rw [kf_go, show (4865 : Int32) = N32 4865 from rfl, if_en (by omega) (by decide)]
  by_cases h4865 : k = 4865
  · rw [if_pos h4865, if_pos h4865]; exact kfm_m (by decide) (by decide) (by decide)
  rw [if_neg h4865, if_neg h4865]
  rw [kf_go, show (4866 : Int32) = N32 4866 from rfl, if_en (by omega) (by decide)]
  by_cases h4866 : k = 4866
  · rw [if_pos h4866, if_pos h4866]; exact kfm_e (by decide) (by decide)
  rw [if_neg h4866, if_neg h4866]
  rw [kf_go, show (4868 : Int32) = N32 4868 from rfl, if_en (by omega) (by decide)]
  by_cases h4868 : k = 4868
  · rw [if_pos h4868, if_pos h4868]; exact kfm_e (by decide) (by decide)
  rw [if_neg h4868, if_neg h4868]
  rw [kf_go, show (4869 : Int32) = N32 4869 from rfl, if_en (by omega) (by decide)]
  by_cases h4869 : k = 4869
  · rw [if_pos h4869, if_pos h4869]; exact kfm_e (by decide) (by decide)
  rw [if_neg h4869, if_neg h4869]
  rfl
