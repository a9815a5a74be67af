-- ===== the timetable: entries in the order of their coming, and of their times =====
abbrev sEn : Type := Int32 × List Nat
def tt_ins (x : sEn) : List sEn → List sEn
  | [] => [x]
  | y :: l => if y.1 ≤ x.1 then y :: tt_ins x l else x :: y :: l
def tt_sort (A : List sEn) : List sEn := A.foldl (fun l x => tt_ins x l) []
def tt_srt : List sEn → Prop
  | [] => True
  | y :: l => (∀ z ∈ l, y.1 ≤ z.1) ∧ tt_srt l
theorem tt_sort_snoc (A : List sEn) (x : sEn) : tt_sort (A ++ [x]) = tt_ins x (tt_sort A) := by
  unfold tt_sort
  rw [List.foldl_append]
  rfl
theorem tt_ins_len (x : sEn) : ∀ l : List sEn, (tt_ins x l).length = l.length + 1
  | [] => rfl
  | y :: l => by
    rw [tt_ins]
    split
    · rw [List.length_cons, tt_ins_len x l, List.length_cons]
    · rfl
theorem tt_ins_mem (x : sEn) : ∀ (l : List sEn) (z : sEn), z ∈ tt_ins x l ↔ z = x ∨ z ∈ l
  | [], z => by simp [tt_ins]
  | y :: l, z => by
    rw [tt_ins]
    split
    · rw [List.mem_cons, tt_ins_mem x l z, List.mem_cons]
      constructor
      · rintro (h | h | h)
        · exact Or.inr (Or.inl h)
        · exact Or.inl h
        · exact Or.inr (Or.inr h)
      · rintro (h | h | h)
        · exact Or.inr (Or.inl h)
        · exact Or.inl h
        · exact Or.inr (Or.inr h)
    · rw [List.mem_cons]
theorem i_le_of_nle {a b : Int32} (h : ¬ a ≤ b) : b ≤ a := by
  have := Int32.not_le.mp h
  exact Int32.le_of_lt this
theorem tt_ins_srt (x : sEn) : ∀ l : List sEn, tt_srt l → tt_srt (tt_ins x l)
  | [], _ => ⟨fun z hz => absurd hz (by simp), trivial⟩
  | y :: l, h => by
    rw [tt_ins]
    split
    next hc =>
      refine ⟨fun z hz => ?_, tt_ins_srt x l h.2⟩
      rcases (tt_ins_mem x l z).mp hz with e | e
      · rw [e]; exact hc
      · exact h.1 z e
    next hc =>
      refine ⟨fun z hz => ?_, h⟩
      rcases List.mem_cons.mp hz with e | e
      · rw [e]; exact i_le_of_nle hc
      · exact Int32.le_trans (i_le_of_nle hc) (h.1 z e)
theorem tt_rev_ind {P : List sEn → Prop} (h0 : P []) (hs : ∀ A x, P A → P (A ++ [x])) (A : List sEn) : P A := by
  have : ∀ B : List sEn, P B.reverse := by
    intro B
    induction B with
    | nil => exact h0
    | cons b B ih => rw [List.reverse_cons]; exact hs _ _ ih
  have h := this A.reverse
  rw [List.reverse_reverse] at h
  exact h
theorem tt_sort_srt (A : List sEn) : tt_srt (tt_sort A) := by
  induction A using tt_rev_ind with
  | h0 => exact trivial
  | hs A x ih => rw [tt_sort_snoc]; exact tt_ins_srt x _ ih
theorem tt_sort_len (A : List sEn) : (tt_sort A).length = A.length := by
  induction A using tt_rev_ind with
  | h0 => rfl
  | hs A x ih => rw [tt_sort_snoc, tt_ins_len, ih, List.length_append]; rfl
theorem tt_sort_mem (A : List sEn) (z : sEn) : z ∈ tt_sort A ↔ z ∈ A := by
  induction A using tt_rev_ind with
  | h0 => exact Iff.rfl
  | hs A x ih =>
    rw [tt_sort_snoc, tt_ins_mem, ih, List.mem_append, List.mem_singleton]
    exact Or.comm
theorem tt_ins_hd (x : sEn) (l : List sEn) (h : ∀ y ∈ l, ¬ y.1 ≤ x.1) : tt_ins x l = x :: l := by
  match l, h with
  | [], _ => rfl
  | y :: l, h => rw [tt_ins, if_neg (h y List.mem_cons_self)]
/-- how many come not after x -/
def tt_cnt (x : sEn) (l : List sEn) : Nat := l.countP (fun y => decide (y.1 ≤ x.1))
theorem tt_cnt_cons (x y : sEn) (l : List sEn) : tt_cnt x (y :: l) = if y.1 ≤ x.1 then tt_cnt x l + 1 else tt_cnt x l := by
  unfold tt_cnt
  rw [List.countP_cons]
  by_cases h : y.1 ≤ x.1 <;> simp [h]
theorem tt_cnt_0 (x : sEn) (l : List sEn) (h : ∀ y ∈ l, ¬ y.1 ≤ x.1) : tt_cnt x l = 0 := by
  unfold tt_cnt
  rw [List.countP_eq_zero]
  intro y hy
  simpa using h y hy
theorem tt_cnt_le (x : sEn) (l : List sEn) : tt_cnt x l ≤ l.length := List.countP_le_length
theorem tt_srt_gt {x y : sEn} {l : List sEn} (h : tt_srt (y :: l)) (hc : ¬ y.1 ≤ x.1) : ∀ z ∈ y :: l, ¬ z.1 ≤ x.1 := by
  intro z hz he
  rcases List.mem_cons.mp hz with e | e
  · exact hc (e ▸ he)
  · exact hc (Int32.le_trans (h.1 z e) he)
theorem tt_ins_eq (x : sEn) : ∀ l : List sEn, tt_srt l → tt_ins x l = l.take (tt_cnt x l) ++ x :: l.drop (tt_cnt x l)
  | [], _ => rfl
  | y :: l, h => by
    rw [tt_ins, tt_cnt_cons]
    by_cases hc : y.1 ≤ x.1
    · rw [if_pos hc, if_pos hc, tt_ins_eq x l h.2]
      rfl
    · rw [if_neg hc, if_neg hc, tt_cnt_0 x l (fun z hz => tt_srt_gt h hc z (List.mem_cons_of_mem _ hz))]
      rfl
theorem tt_srt_get (x : sEn) : ∀ (l : List sEn) (k : Nat), tt_srt l → (hk : k < l.length) → ((l[k]).1 ≤ x.1 ↔ k < tt_cnt x l)
  | y :: l, k, h, hk => by
    rw [tt_cnt_cons]
    by_cases hc : y.1 ≤ x.1
    · rw [if_pos hc]
      match k, hk with
      | 0, _ => exact ⟨fun _ => Nat.succ_pos _, fun _ => hc⟩
      | k + 1, hk =>
        have := tt_srt_get x l k h.2 (by simpa using hk)
        rw [List.getElem_cons_succ, this]
        omega
    · rw [if_neg hc, tt_cnt_0 x l (fun z hz => tt_srt_gt h hc z (List.mem_cons_of_mem _ hz))]
      constructor
      · intro he
        exact absurd he (tt_srt_gt h hc _ (List.getElem_mem hk))
      · intro he; exact absurd he (by omega)
theorem tt_sort_cnt (x : sEn) (A : List sEn) : tt_cnt x (tt_sort A) = tt_cnt x A := by
  induction A using tt_rev_ind with
  | h0 => rfl
  | hs A y ih =>
    rw [tt_sort_snoc, tt_ins_eq _ _ (tt_sort_srt A)]
    have e : tt_cnt x (tt_sort A) = tt_cnt x (List.take (tt_cnt y (tt_sort A)) (tt_sort A)) + tt_cnt x (List.drop (tt_cnt y (tt_sort A)) (tt_sort A)) := by
      conv => lhs; rw [← List.take_append_drop (tt_cnt y (tt_sort A)) (tt_sort A)]
      unfold tt_cnt
      rw [List.countP_append]
    have e2 : tt_cnt x (A ++ [y]) = tt_cnt x A + (if y.1 ≤ x.1 then 1 else 0) := by
      unfold tt_cnt
      rw [List.countP_append, List.countP_cons, List.countP_nil]
      by_cases h : y.1 ≤ x.1 <;> simp [h]
    have e3 : ∀ a b : List sEn, tt_cnt x (a ++ y :: b) = tt_cnt x a + (tt_cnt x b + (if y.1 ≤ x.1 then 1 else 0)) := by
      intro a b
      unfold tt_cnt
      rw [List.countP_append, List.countP_cons]
      by_cases h : y.1 ≤ x.1 <;> simp [h]
    rw [e3, e2, ← ih, e]
    omega
-- ranks, as the reference counts them
def tt_lt (A : List sEn) (j i : Nat) : Prop := (A.getD j (0, [])).1 < (A.getD i (0, [])).1 ∨ ((A.getD j (0, [])).1 = (A.getD i (0, [])).1 ∧ j < i)
def tt_rk (A : List sEn) (i : Nat) : Nat → Nat
  | 0 => 0
  | j + 1 => tt_rk A i j + (if (A.getD j (0, [])).1 < (A.getD i (0, [])).1 ∨ ((A.getD j (0, [])).1 = (A.getD i (0, [])).1 ∧ j < i) then 1 else 0)
theorem en_app_l {A B : List sEn} {j : Nat} (h : j < A.length) : (A ++ B).getD j (0, []) = A.getD j (0, []) := by
  simp only [List.getD_eq_getElem?_getD]
  rw [List.getElem?_append_left h]
theorem en_app_n {A : List sEn} {x : sEn} : (A ++ [x]).getD A.length (0, []) = x := by
  simp only [List.getD_eq_getElem?_getD]
  rw [List.getElem?_append_right (Nat.le_refl _), Nat.sub_self]
  rfl
theorem tt_rk_app {A : List sEn} {x : sEn} {i : Nat} (hi : i < A.length) : ∀ j, j ≤ A.length → tt_rk (A ++ [x]) i j = tt_rk A i j
  | 0, _ => rfl
  | j + 1, h => by rw [tt_rk, tt_rk, tt_rk_app hi j (by omega), en_app_l (by omega), en_app_l hi]
theorem tt_rk_old {A : List sEn} {x : sEn} {i : Nat} (hi : i < A.length) : tt_rk (A ++ [x]) i (A.length + 1) = tt_rk A i A.length + (if x.1 < (A.getD i (0, [])).1 then 1 else 0) := by
  rw [tt_rk, tt_rk_app hi _ (Nat.le_refl _), en_app_n, en_app_l hi]
  congr 1
  by_cases h : x.1 < (A.getD i (0, [])).1
  · rw [if_pos (Or.inl h), if_pos h]
  · rw [if_neg h, if_neg (by rintro (h2 | h2); exact h h2; omega)]
theorem i_le_iff {a b : Int32} : a ≤ b ↔ a < b ∨ a = b := Int32.le_iff_lt_or_eq
theorem tt_rk_new {A : List sEn} {x : sEn} : ∀ j, j ≤ A.length → tt_rk (A ++ [x]) A.length j = tt_cnt x (A.take j)
  | 0, _ => by rw [List.take_zero]; rfl
  | j + 1, h => by
    rw [tt_rk, tt_rk_new j (by omega), en_app_l (by omega), en_app_n, List.take_succ_eq_append_getElem (by omega)]
    have eg : A.getD j (0, []) = A[j] := by simp [List.getD_eq_getElem?_getD, show j < A.length by omega]
    rw [eg]
    unfold tt_cnt
    rw [List.countP_append, List.countP_cons, List.countP_nil]
    congr 1
    by_cases hc : (A[j]).1 ≤ x.1
    · rw [if_pos (by rcases i_le_iff.mp hc with h2 | h2; exact Or.inl h2; exact Or.inr ⟨h2, by omega⟩)]
      simp [hc]
    · rw [if_neg (by rintro (h2 | h2); exact hc (Int32.le_of_lt h2); exact hc (i_le_iff.mpr (Or.inr h2.1)))]
      simp [hc]
theorem tt_rk_last {A : List sEn} {x : sEn} : tt_rk (A ++ [x]) A.length (A.length + 1) = tt_cnt x A := by
  rw [tt_rk, tt_rk_new _ (Nat.le_refl _), List.take_length, if_neg]
  · rfl
  · rintro (h | h)
    · exact Int32.lt_irrefl h
    · omega
theorem tt_ins_get {x : sEn} {l : List sEn} (h : tt_srt l) (k : Nat) : (tt_ins x l).getD k (0, []) = if k < tt_cnt x l then l.getD k (0, []) else if k = tt_cnt x l then x else l.getD (k - 1) (0, []) := by
  have hle := tt_cnt_le x l
  rw [tt_ins_eq x l h]
  simp only [List.getD_eq_getElem?_getD]
  by_cases h1 : k < tt_cnt x l
  · rw [if_pos h1, List.getElem?_append_left (by rw [List.length_take]; omega), List.getElem?_take_of_lt h1]
  · rw [if_neg h1, List.getElem?_append_right (by rw [List.length_take]; omega), List.length_take, Nat.min_eq_left hle]
    by_cases h2 : k = tt_cnt x l
    · rw [if_pos h2, h2, Nat.sub_self]
      rfl
    · rw [if_neg h2, show k - tt_cnt x l = (k - tt_cnt x l - 1) + 1 by omega, List.getElem?_cons_succ, List.getElem?_drop]
      congr 2
      omega
theorem tt_ins_er_p {x : sEn} {l : List sEn} (h : tt_srt l) : (tt_ins x l).eraseIdx (tt_cnt x l) = l := by
  have hle := tt_cnt_le x l
  rw [tt_ins_eq x l h, List.eraseIdx_append_of_length_le (by rw [List.length_take]; omega), List.length_take, Nat.min_eq_left hle, Nat.sub_self]
  exact List.take_append_drop _ _
theorem tt_srt_er : ∀ (l : List sEn) (k : Nat), tt_srt l → tt_srt (l.eraseIdx k)
  | [], _, _ => trivial
  | y :: l, 0, h => h.2
  | y :: l, k + 1, h => ⟨fun z hz => h.1 z (List.mem_of_mem_eraseIdx hz), tt_srt_er l k h.2⟩
theorem tt_ins_er_lo {x : sEn} : ∀ (l : List sEn) (k : Nat), tt_srt l → k < tt_cnt x l → (tt_ins x l).eraseIdx k = tt_ins x (l.eraseIdx k)
  | [], k, _, hk => absurd hk (by simp [tt_cnt])
  | y :: l, k, h, hk => by
    rw [tt_cnt_cons] at hk
    by_cases hc : y.1 ≤ x.1
    · rw [if_pos hc] at hk
      rw [tt_ins, if_pos hc]
      match k, hk with
      | 0, _ => rfl
      | k + 1, hk =>
        show y :: (tt_ins x l).eraseIdx k = tt_ins x (y :: l.eraseIdx k)
        rw [tt_ins_er_lo l k h.2 (by omega), tt_ins, if_pos hc]
    · rw [if_neg hc, tt_cnt_0 x l (fun z hz => tt_srt_gt h hc z (List.mem_cons_of_mem _ hz))] at hk
      omega
theorem tt_ins_er_hi {x : sEn} : ∀ (l : List sEn) (k : Nat), tt_srt l → tt_cnt x l ≤ k → k < l.length → (tt_ins x l).eraseIdx (k + 1) = tt_ins x (l.eraseIdx k)
  | y :: l, k, h, hk, hl => by
    rw [tt_cnt_cons] at hk
    by_cases hc : y.1 ≤ x.1
    · rw [if_pos hc] at hk
      rw [tt_ins, if_pos hc]
      match k, hk with
      | k + 1, hk =>
        show y :: (tt_ins x l).eraseIdx (k + 1) = tt_ins x (y :: l.eraseIdx k)
        rw [tt_ins_er_hi l k h.2 (by omega) (by simpa using hl), tt_ins, if_pos hc]
    · rw [tt_ins, if_neg hc]
      show x :: (y :: l).eraseIdx k = _
      rw [tt_ins_hd x ((y :: l).eraseIdx k) (fun z hz => tt_srt_gt h hc z (List.mem_of_mem_eraseIdx hz))]
/-- what a rank says -/
theorem tt_rank (A : List sEn) : (∀ i, i < A.length → tt_rk A i A.length < A.length ∧ (tt_sort A).getD (tt_rk A i A.length) (0, []) = A.getD i (0, []) ∧ tt_sort (A.eraseIdx i) = (tt_sort A).eraseIdx (tt_rk A i A.length)) ∧ ∀ k, k < A.length → ∃ i, i < A.length ∧ tt_rk A i A.length = k := by
  induction A using tt_rev_ind with
  | h0 => exact ⟨fun i hi => absurd hi (by simp), fun k hk => absurd hk (by simp)⟩
  | hs A x ih =>
    obtain ⟨ih1, ih2⟩ := ih
    have hs := tt_sort_srt A
    have hsl := tt_sort_len A
    have hc := tt_sort_cnt x A
    have hle := tt_cnt_le x A
    have hlen : (A ++ [x]).length = A.length + 1 := by rw [List.length_append]; rfl
    rw [hlen]
    have hrel : ∀ i, i < A.length → (x.1 < (A.getD i (0, [])).1 ↔ tt_cnt x A ≤ tt_rk A i A.length) := by
      intro i hi
      have h1 := ih1 i hi
      have h2 := tt_srt_get x (tt_sort A) (tt_rk A i A.length) hs (by omega)
      have eg : (tt_sort A)[tt_rk A i A.length]'(by omega) = A.getD i (0, []) := by
        rw [← h1.2.1, List.getD_eq_getElem?_getD, List.getElem?_eq_getElem (by omega)]
        rfl
      rw [eg, hc] at h2
      rw [← Int32.not_le, h2]
      omega
    refine ⟨fun i hi => ?_, fun k hk => ?_⟩
    · by_cases hin : i = A.length
      · rw [hin, tt_rk_last, tt_sort_snoc, en_app_n]
        refine ⟨by omega, ?_, ?_⟩
        · rw [tt_ins_get hs, hc, if_neg (by omega), if_pos rfl]
        · rw [List.eraseIdx_append_of_length_le (Nat.le_refl _), Nat.sub_self]
          rw [← hc, tt_ins_er_p hs]
          show tt_sort (A ++ []) = _
          rw [List.append_nil]
      · have hi' : i < A.length := by omega
        have h1 := ih1 i hi'
        rw [tt_rk_old hi', tt_sort_snoc, en_app_l hi', List.eraseIdx_append_of_lt_length hi', tt_sort_snoc, h1.2.2]
        by_cases hx : x.1 < (A.getD i (0, [])).1
        · have hx2 := (hrel i hi').mp hx
          rw [if_pos hx]
          refine ⟨by omega, ?_, ?_⟩
          · rw [tt_ins_get hs, hc, if_neg (by omega), if_neg (by omega), Nat.add_sub_cancel]
            exact h1.2.1
          · rw [tt_ins_er_hi _ _ hs (by omega) (by omega)]
        · have hx2 : ¬ tt_cnt x A ≤ tt_rk A i A.length := fun h => hx ((hrel i hi').mpr h)
          rw [if_neg hx, Nat.add_zero]
          refine ⟨by omega, ?_, ?_⟩
          · rw [tt_ins_get hs, hc, if_pos (by omega)]
            exact h1.2.1
          · rw [tt_ins_er_lo _ _ hs (by omega)]
    · by_cases h1 : k < tt_cnt x A
      · obtain ⟨i, hi, hr⟩ := ih2 k (by omega)
        refine ⟨i, by omega, ?_⟩
        rw [tt_rk_old hi, if_neg (fun h => by have := (hrel i hi).mp h; omega), hr]
        rfl
      · by_cases h2 : k = tt_cnt x A
        · exact ⟨A.length, by omega, by rw [tt_rk_last, h2]⟩
        · obtain ⟨i, hi, hr⟩ := ih2 (k - 1) (by omega)
          refine ⟨i, by omega, ?_⟩
          rw [tt_rk_old hi, if_pos ((hrel i hi).mpr (by omega)), hr]
          omega
theorem tt_sort_filter (p : sEn → Bool) (A : List sEn) : tt_sort (A.filter p) = (tt_sort A).filter p := by
  have hf : ∀ (x : sEn) (l : List sEn), tt_srt l → (tt_ins x l).filter p = if p x = true then tt_ins x (l.filter p) else l.filter p := by
    intro x l
    induction l with
    | nil =>
      intro _
      by_cases h : p x = true <;> simp [tt_ins, h]
    | cons y l ih =>
      intro hs
      rw [tt_ins]
      by_cases hc : y.1 ≤ x.1
      · rw [if_pos hc]
        by_cases hy : p y = true
        · rw [List.filter_cons_of_pos hy, List.filter_cons_of_pos hy, ih hs.2]
          by_cases hx : p x = true
          · rw [if_pos hx, if_pos hx, tt_ins, if_pos hc]
          · rw [if_neg hx, if_neg hx]
        · rw [List.filter_cons_of_neg hy, List.filter_cons_of_neg hy]
          exact ih hs.2
      · rw [if_neg hc]
        by_cases hx : p x = true
        · rw [if_pos hx, List.filter_cons_of_pos hx, tt_ins_hd x _ (fun z hz => tt_srt_gt hs hc z ((List.mem_filter.mp hz).1))]
        · rw [if_neg hx, List.filter_cons_of_neg hx]
  induction A using tt_rev_ind with
  | h0 => rfl
  | hs A x ih =>
    rw [List.filter_append, tt_sort_snoc, hf x _ (tt_sort_srt A), ← ih]
    by_cases hx : p x = true
    · rw [if_pos hx, List.filter_cons_of_pos hx, List.filter_nil, tt_sort_snoc]
    · rw [if_neg hx, List.filter_cons_of_neg hx, List.filter_nil, List.append_nil]
theorem tt_sort_map (f : sEn → sEn) (A : List sEn) : (∀ a ∈ A, ∀ b ∈ A, ((f a).1 ≤ (f b).1 ↔ a.1 ≤ b.1)) → tt_sort (A.map f) = (tt_sort A).map f := by
  induction A using tt_rev_ind with
  | h0 => intro _; rfl
  | hs A x ih =>
    intro h
    have hm : ∀ (l : List sEn), (∀ a ∈ l, a ∈ A) → tt_ins (f x) (l.map f) = (tt_ins x l).map f := by
      intro l
      induction l with
      | nil => intro _; rfl
      | cons y l ihl =>
        intro hl
        have hy := h y (List.mem_append_left _ (hl y List.mem_cons_self)) x (List.mem_append_right _ (List.mem_singleton.mpr rfl))
        rw [List.map_cons, tt_ins, tt_ins]
        by_cases hc : y.1 ≤ x.1
        · rw [if_pos hc, if_pos (hy.mpr hc), ihl (fun a ha => hl a (List.mem_cons_of_mem _ ha))]
          rfl
        · rw [if_neg hc, if_neg (fun e => hc (hy.mp e))]
          rfl
    rw [List.map_append, List.map_cons, List.map_nil, tt_sort_snoc, tt_sort_snoc, ih (fun a ha b hb => h a (List.mem_append_left _ ha) b (List.mem_append_left _ hb)), hm _ (fun a ha => (tt_sort_mem A a).mp ha)]
