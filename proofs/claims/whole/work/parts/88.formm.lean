-- ===== forms: what the reference does =====
theorem ky_isSome {α : Type} {key : α → Nat} {k : Nat} {l : List α} : (ky_find key k l).isSome = true ↔ ∃ x ∈ l, key x = k := by
  cases h : ky_find key k l with
  | none =>
    have := ky_find_none.mp h
    constructor
    · intro e; exact absurd e (by decide)
    · rintro ⟨x, hx, e⟩; exact absurd e (this x hx)
  | some i =>
    obtain ⟨hi, hk⟩ := ky_find_is h
    exact ⟨fun _ => ⟨l[i], List.getElem_mem hi, hk⟩, fun _ => rfl⟩
theorem ky_some_ins {α : Type} {key : α → Nat} {k : Nat} {l : List α} {y : α} : (ky_find key k (ky_ins key y l)).isSome = (decide (k = key y) || (ky_find key k l).isSome) := by
  rw [Bool.eq_iff_iff, ky_isSome, Bool.or_eq_true, decide_eq_true_iff, ky_isSome]
  constructor
  · rintro ⟨x, hx, e⟩
    rcases (ky_ins_mem key y l x).mp hx with q | q
    · left; rw [← e, q]
    · right; exact ⟨x, q, e⟩
  · rintro (e | ⟨x, hx, e⟩)
    · exact ⟨y, (ky_ins_mem key y l y).mpr (Or.inl rfl), e.symm⟩
    · exact ⟨x, (ky_ins_mem key y l x).mpr (Or.inr hx), e⟩
theorem ky_some_er {α : Type} {key : α → Nat} {k i : Nat} {l : List α} (hs : ky_srt key l) (hi : i < l.length) : (ky_find key k (l.eraseIdx i)).isSome = (!(decide (k = key l[i])) && (ky_find key k l).isSome) := by
  rw [Bool.eq_iff_iff, ky_isSome, Bool.and_eq_true, Bool.not_eq_true', decide_eq_false_iff_not, ky_isSome]
  constructor
  · rintro ⟨x, hx, e⟩
    obtain ⟨j, hj, hjx⟩ := List.getElem_of_mem hx
    rw [List.getElem_eraseIdx] at hjx
    rw [List.length_eraseIdx_of_lt hi] at hj
    refine ⟨fun e2 => ?_, x, List.mem_of_mem_eraseIdx hx, e⟩
    split at hjx
    · have := ky_inj key l j i (by omega) hi hs (by rw [hjx, e, e2])
      omega
    · have := ky_inj key l (j + 1) i (by omega) hi hs (by rw [hjx, e, e2])
      omega
  · rintro ⟨hne, x, hx, e⟩
    obtain ⟨j, hj, hjx⟩ := List.getElem_of_mem hx
    have hji : j ≠ i := by
      intro e2
      subst e2
      exact hne (by rw [hjx, e])
    refine ⟨x, ?_, e⟩
    rw [List.mem_eraseIdx_iff_getElem]
    exact ⟨j, hj, hji, hjx⟩
theorem ky_er_ne {α : Type} {key : α → Nat} {i : Nat} {l : List α} (hs : ky_srt key l) (hi : i < l.length) {x : α} (hx : x ∈ l.eraseIdx i) : key x ≠ key l[i] := by
  have := ky_some_er (k := key x) hs hi
  have h2 : (ky_find key (key x) (l.eraseIdx i)).isSome = true := ky_isSome.mpr ⟨x, hx, rfl⟩
  rw [h2] at this
  intro e
  rw [decide_eq_true e] at this
  exact absurd this (by simp)
theorem ky_set_ne {α : Type} {key : α → Nat} {i : Nat} {l : List α} {y : α} (hs : ky_srt key l) (hi : i < l.length) (hk : key y = key l[i]) {x : α} (hx : x ∈ l.set i y) : x = y ∨ (x ∈ l ∧ key x ≠ key l[i]) := by
  obtain ⟨j, hj, hjx⟩ := List.getElem_of_mem hx
  rw [List.length_set] at hj
  rw [List.getElem_set] at hjx
  split at hjx
  · exact Or.inl hjx.symm
  next hne =>
    right
    refine ⟨hjx ▸ List.getElem_mem hj, fun e => ?_⟩
    have := ky_inj key l i j hi hj hs (by rw [hjx, e])
    exact hne this
theorem ky_some_set {α : Type} {key : α → Nat} {k i : Nat} {l : List α} {y : α} (hi : i < l.length) (hk : key y = key l[i]) : (ky_find key k (l.set i y)).isSome = (ky_find key k l).isSome := by
  rw [Bool.eq_iff_iff, ky_isSome, ky_isSome]
  constructor
  · rintro ⟨x, hx, e⟩
    rcases List.mem_or_eq_of_mem_set hx with q | q
    · exact ⟨x, q, e⟩
    · exact ⟨l[i], List.getElem_mem hi, by rw [← hk, ← q]; exact e⟩
  · rintro ⟨x, hx, e⟩
    obtain ⟨j, hj, hjx⟩ := List.getElem_of_mem hx
    by_cases hji : i = j
    · subst hji
      exact ⟨y, List.mem_set hi y, by rw [hk, hjx]; exact e⟩
    · refine ⟨x, ?_, e⟩
      have := List.getElem_set_ne hji (a := y) (by rw [List.length_set]; exact hj)
      rw [hjx] at this
      rw [← this]
      exact List.getElem_mem _
abbrev fmmP (M : Nat) : Nat → Nat → Prop := fun y k => (y = M ∧ k = 36) ∨ (M + 8 ≤ y ∧ y ≤ M + 12)
theorem wm_d0 {S : ob_S} {D : ob_D} {M : Nat} {c : List Nat} (hA : mA S D M) (hc : mCm D M c) (hl : 14 ≤ c.length) : f_Model_data S M 0 D = some (N32 (c.getD 11 0), D) := wm_data hA hc (i := 0) (by omega)
theorem wm_formfail {S : ob_S} {D : ob_D} {M t : Nat} {c : List Nat} {l : List sFm} (hA : mA S D M) (hc : mCm D M c) (hF : mFm D M l) (hl : 14 ≤ c.length) (ht : t < 256) (ht1 : t ≠ 1) : f_Model_formFailure S M (N32 t) D = some (N32 (lf_v 14 (decide (t = 3)) (fun f : sFm => f.1) (fun f : sFm => f.2.1) (c.getD 11 0) l), D) := by
  have a31 : D.2.1 M 31 = M + 8 ∧ S.2.1 (M + 8) = 256 := hA.1 (31, 8, 256) (by decide)
  have a32 : D.2.1 M 32 = M + 9 ∧ S.2.1 (M + 9) = 256 := hA.1 (32, 9, 256) (by decide)
  have hb := by_getD_lt hc.2.2.2 11
  have hin : ob_in (N32 (c.getD 11 0)) 256 := by rw [nb_in (by omega)]; exact hb
  obtain ⟨f1, f2, f3, f4, f5, f6⟩ := hF
  have v31 : D.1 (M + 8) (N32 (c.getD 11 0)).toNatClampNeg = bI ((ky_find (fun f : sFm => f.1) (c.getD 11 0) l).isSome) := by rw [nb_clamp (by omega)]; exact f5 _ hb
  unfold f_Model_formFailure lf_v
  rw [wm_d0 hA hc hl]
  simp only [ob_bd]
  rw [if_neg (by rw [show (1 : Int32) = N32 1 from rfl, nb_eq (by omega) (by decide)]; exact ht1), a31.1, if_pos (by omega), a31.2, if_pos hin, v31]
  cases hf : ky_find (fun f : sFm => f.1) (c.getD 11 0) l with
  | none => rw [if_pos (show bI (none : Option Nat).isSome = 0 from rfl)]; rfl
  | some i =>
    obtain ⟨hi, hk⟩ := ky_find_is hf
    have eg : l[i]? = some l[i] := List.getElem?_eq_getElem hi
    have hk' : l[i].1 = c.getD 11 0 := hk
    have v32 : D.1 (M + 9) (N32 (c.getD 11 0)).toNatClampNeg = bI l[i].2.1 := by
      rw [nb_clamp (by omega), ← hk']
      exact (f6 l[i] (List.getElem_mem hi)).1
    simp only [eg]
    rw [if_neg (show ¬ bI (some i : Option Nat).isSome = 0 from fun e => absurd (show bI true = 0 from e) (by decide))]
    by_cases h3 : t = 3
    · rw [if_pos (by rw [h3]; rfl), a32.1, if_pos (by omega), a32.2, if_pos hin, v32, show decide (t = 3) = true from decide_eq_true h3]
      by_cases hon : l[i].2.1 = true
      · rw [if_neg (show ¬ bI l[i].2.1 = 0 by rw [hon]; decide), if_pos ⟨rfl, hon⟩]; rfl
      · have hon' : l[i].2.1 = false := Bool.eq_false_iff.mpr hon
        rw [if_pos (show bI l[i].2.1 = 0 by rw [hon']; rfl), if_neg (fun e => hon e.2)]; rfl
    · rw [if_neg (by rw [show (3 : Int32) = N32 3 from rfl, nb_eq (by omega) (by decide)]; exact h3), show decide (t = 3) = false from decide_eq_false h3, if_neg (by rintro ⟨e, -⟩; exact absurd e (by decide))]
      rfl
theorem wm_newform {S : ob_S} {D : ob_D} {M : Nat} {c : List Nat} {l : List sFm} (hA : mA S D M) (hc : mCm D M c) (hF : mFm D M l) (hl : c.length = 16 + c.getD 13 0) : f_Model_formFailure S M 1 D = some (N32 (nf_v c l), D) := by
  have a31 : D.2.1 M 31 = M + 8 ∧ S.2.1 (M + 8) = 256 := hA.1 (31, 8, 256) (by decide)
  have hbb := hc.2.2.2
  have hb := by_getD_lt hbb 11
  have hb12 := by_getD_lt hbb 12
  have hb13 := by_getD_lt hbb 13
  have hin : ob_in (N32 (c.getD 11 0)) 256 := by rw [nb_in (by omega)]; exact hb
  have hpl := fmps_len hl
  have hcl := hc.2.1
  obtain ⟨f1, f2, f3, f4, f5, f6⟩ := hF
  have v31 : D.1 (M + 8) (N32 (c.getD 11 0)).toNatClampNeg = bI ((ky_find (fun f : sFm => f.1) (c.getD 11 0) l).isSome) := by rw [nb_clamp (by omega)]; exact f5 _ hb
  have d1 : f_Model_data S M 1 D = some (N32 (c.getD 12 0), D) := wm_data hA hc (i := 1) (by omega)
  have d2 : f_Model_data S M 2 D = some (N32 (c.getD 13 0), D) := wm_data hA hc (i := 2) (by omega)
  have hL : ∀ (d n j : Nat), j + d = c.getD 13 0 → d < n → f_Model_formFailure_L41 S n M (N32 (c.getD 11 0)) (N32 (c.getD 13 0)) (N32 j) D = some (N32 (if ((fmps c).drop j).all (fun x => decide (x < 32)) = true then pl_v 11 12 8 (fun f : sFm => f.1) (c.getD 11 0) l else 13), D) := by
    intro d
    induction d with
    | zero =>
      intro n j hj hn
      match n, hn with
      | n + 1, _ =>
        rw [f_Model_formFailure_L41, if_pos (by rw [nb_le (by omega) (by omega)]; omega), a31.1, if_pos (by omega), a31.2, if_pos hin, v31, f1, List.drop_of_length_le (by omega), if_pos (show ([] : List Nat).all (fun x => decide (x < 32)) = true from rfl)]
        unfold pl_v
        cases hf : ky_find (fun f : sFm => f.1) (c.getD 11 0) l with
        | none =>
          rw [if_pos (show bI (none : Option Nat).isSome = 0 from rfl), if_neg (show ¬ (none : Option Nat).isSome = true by decide), show (8 : Int32) = N32 8 from rfl, if_en (by omega) (by decide)]
          by_cases h8 : l.length = 8
          · rw [if_pos h8, if_neg (by omega)]; rfl
          · rw [if_neg h8, if_pos (by omega)]; rfl
        | some i =>
          rw [if_neg (show ¬ bI (some i : Option Nat).isSome = 0 from fun e => absurd (show bI true = 0 from e) (by decide)), if_pos (show (some i : Option Nat).isSome = true by rfl)]
          rfl
    | succ d ih =>
      intro n j hj hn
      match n, hn with
      | n + 1, hn =>
        have e3 : (3 : Int32) + N32 j = N32 (3 + j) := nb_add 3 j
        have ej : N32 j + (1 : Int32) = N32 (j + 1) := nb_add _ 1
        have ed : f_Model_data S M (N32 (3 + j)) D = some (N32 (c.getD (11 + (3 + j)) 0), D) := wm_data hA hc (by omega)
        rw [show 11 + (3 + j) = 14 + j by omega] at ed
        have hbj := by_getD_lt hbb (14 + j)
        have hdr : (fmps c).drop j = c.getD (14 + j) 0 :: (fmps c).drop (j + 1) := by
          rw [List.drop_eq_getElem_cons (by omega)]
          congr 1
          rw [← fmps_get (by omega), List.getD_eq_getElem?_getD, List.getElem?_eq_getElem (by omega)]
          rfl
        rw [f_Model_formFailure_L41, if_neg (by rw [nb_le (by omega) (by omega)]; omega), e3, ed]
        simp only [ob_bd]
        rw [show (31 : Int32) = N32 31 from rfl, if_le (by omega) (by decide), hdr, List.all_cons, ej]
        by_cases hc3 : c.getD (14 + j) 0 < 32
        · rw [if_pos (show c.getD (14 + j) 0 ≤ 31 by omega), show decide (c.getD (14 + j) 0 < 32) = true from decide_eq_true hc3, Bool.true_and]
          exact ih n (j + 1) (by omega) (by omega)
        · rw [if_neg (show ¬ c.getD (14 + j) 0 ≤ 31 by omega), show decide (c.getD (14 + j) 0 < 32) = false from decide_eq_false hc3, Bool.false_and, if_neg (by decide)]
          rfl
  unfold f_Model_formFailure nf_v
  rw [wm_d0 hA hc (by omega)]
  simp only [ob_bd]
  rw [if_pos trivial, d2]
  simp only [ob_bd]
  rw [d1]
  simp only [ob_bd]
  rw [show (0 : Int32) = N32 0 from rfl, if_en (by omega) (by decide), if_en (by omega) (by decide), show (8 : Int32) = N32 8 from rfl, if_le (by omega) (by decide)]
  by_cases h12 : c.getD 12 0 = 0
  · rw [if_pos h12, if_pos h12]; rfl
  rw [if_neg h12, if_neg h12]
  by_cases h13 : c.getD 13 0 = 0
  · rw [if_pos h13, if_pos h13]; rfl
  rw [if_neg h13, if_neg h13]
  by_cases h8 : c.getD 13 0 ≤ 8
  · rw [if_pos h8, if_pos h8]
    have := hL (c.getD 13 0) ob_FU 0 (by omega) (by rw [ob_FU_eq]; omega)
    rw [List.drop_zero] at this
    exact this
  · rw [if_neg h8, if_neg h8]; rfl
