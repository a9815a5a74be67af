-- ===== lines in the class's tables =====
def cKt {α : Type} (S : ob_S) (D : ob_D) (a most w : Nat) (key : α → Nat) (line : α → Nat → Int32) (ok : α → Prop) (l : List α) : Prop := tb_at S D a (a + 1) most w (l.map line) ∧ ky_srt key l ∧ ∀ f ∈ l, ok f
theorem gd_map {α : Type} (line : α → Nat → Int32) {l : List α} {i : Nat} (hi : i < l.length) : (l.map line).getD i tb_z = line l[i] := by
  simp only [List.getD_eq_getElem?_getD, List.getElem?_map]
  rw [List.getElem?_eq_getElem hi]
  rfl
def ix_v : Option Nat → Int32
  | some i => N32 i
  | none => -1
theorem kt_find {α : Type} {S : ob_S} {D : ob_D} {a most w : Nat} {key : α → Nat} {line : α → Nat → Int32} {ok : α → Prop} {l : List α} (h : cKt S D a most w key line ok l) (hl : ∀ x, line x 0 = N32 (key x)) (hk : ∀ x, ok x → key x < 256) {k : Nat} (hk2 : k < 256) : f_Table_find S a (N32 k) D = some (ix_v (ky_find key k l), D) := by
  rw [tb_find_ok h.1, ky_tb_find hl hk2 (fun x hx => hk x (h.2.2 x hx))]
  cases ky_find key k l <;> rfl
theorem kt_get {α : Type} {S : ob_S} {D : ob_D} {a most w : Nat} {key : α → Nat} {line : α → Nat → Int32} {ok : α → Prop} {l : List α} (h : cKt S D a most w key line ok l) {i j : Nat} (hi : i < l.length) (hj : j < w) : f_Table_get S a (N32 i) (N32 j) D = some (line l[i] j, D) := by
  rw [tb_get h.1 (by rw [List.length_map]; exact hi) hj, gd_map line hi]
theorem kt_len {α : Type} {S : ob_S} {D : ob_D} {a most w : Nat} {key : α → Nat} {line : α → Nat → Int32} {ok : α → Prop} {l : List α} (h : cKt S D a most w key line ok l) : D.1 a 3 = N32 l.length ∧ l.length ≤ most := by
  obtain ⟨⟨h1, h2, h3, h4, h5, h6, h7, h8, h9, h10, h11⟩, -, -⟩ := h
  rw [List.length_map] at h9 h10
  exact ⟨h9, h10⟩
theorem kt_full {α : Type} {S : ob_S} {D : ob_D} {a most w : Nat} {key : α → Nat} {line : α → Nat → Int32} {ok : α → Prop} {l : List α} (h : cKt S D a most w key line ok l) : f_Table_isFull S a D = some (if l.length < most then 0 else 1, D) := by
  rw [tb_isFull h.1, List.length_map]
theorem kt_rem {α : Type} {S : ob_S} {D : ob_D} {a most w : Nat} {key : α → Nat} {line : α → Nat → Int32} {ok : α → Prop} {l : List α} (h : cKt S D a most w key line ok l) {i : Nat} (hi : i < l.length) : ∃ D', f_Table_remove S a (N32 i) D = some D' ∧ cKt S D' a most w key line ok (l.eraseIdx i) ∧ ob_ag (fun y => y = a ∨ y = a + 1) D D' := by
  obtain ⟨D', t1, t2, t3⟩ := tb_remove h.1 (p := i) (by rw [List.length_map]; exact hi)
  rw [map_er] at t2
  exact ⟨D', t1, ⟨t2, ky_srt_er key l i h.2.1, fun f hf => h.2.2 f (List.mem_of_mem_eraseIdx hf)⟩, t3⟩
theorem kt_set {α : Type} {S : ob_S} {D : ob_D} {a most w : Nat} {key : α → Nat} {line : α → Nat → Int32} {ok : α → Prop} {l : List α} (h : cKt S D a most w key line ok l) {i j : Nat} (hi : i < l.length) (hj : j < w) (y : α) (hy : ∀ q, q < w → q ≠ j → line y q = line l[i] q) (hk : key y = key l[i]) (ho : ok y) : ∃ D', f_Table_set S a (N32 i) (N32 j) (line y j) D = some D' ∧ cKt S D' a most w key line ok (l.set i y) ∧ ob_ag (fun y => y = a + 1) D D' := by
  obtain ⟨D', t1, t2, t3⟩ := tb_set h.1 (i := i) (j := j) (line y j) (by rw [List.length_map]; exact hi) hj
  refine ⟨D', t1, ⟨?_, ky_srt_set key y l i hi hk h.2.1, fun f hf => ?_⟩, t3⟩
  · apply t2.cg
    · unfold tb_upd
      rw [List.length_map, List.length_set, List.length_set, List.length_map]
    · intro q hq r hr
      unfold tb_upd at hq ⊢
      rw [List.length_set, List.length_map] at hq
      simp only [List.getD_eq_getElem?_getD, List.getElem?_map]
      by_cases hqi : q = i
      · subst hqi
        rw [List.getElem?_set_self hi, List.getElem?_set_self (by rw [List.length_map]; exact hq), List.getElem?_eq_getElem hi]
        show line y r = if r = j then line y j else line l[q] r
        by_cases hrj : r = j
        · rw [if_pos hrj, hrj]
        · rw [if_neg hrj]; exact hy r hr hrj
      · rw [List.getElem?_set_ne (by omega), List.getElem?_set_ne (by omega), List.getElem?_map]
  · rcases List.mem_or_eq_of_mem_set hf with e | e
    · exact h.2.2 f e
    · rw [e]; exact ho
/-- a new line, as it comes out of the table -/
theorem kt_add {α : Type} {S : ob_S} {D : ob_D} {a most w : Nat} {key : α → Nat} {line : α → Nat → Int32} {ok : α → Prop} {l : List α} (h : cKt S D a most w key line ok l) (hl : ∀ x, line x 0 = N32 (key x)) (hk : ∀ x, ok x → key x < 256) {k : Nat} (hk2 : k < 256) (hr : l.length < most) : ∃ D', f_Table_add S a (N32 k) D = some (N32 (ky_pos key k l), D') ∧ tb_at S D' a (a + 1) most w ((l.map line).take (ky_pos key k l) ++ (fun j => if j = 0 then N32 k else 0) :: (l.map line).drop (ky_pos key k l)) ∧ ob_ag (fun y => y = a ∨ y = a + 1) D D' := by
  obtain ⟨D', t1, t2, t3⟩ := tb_add h.1 (N32 k) (by rw [List.length_map]; exact hr)
  rw [ky_tb_pos hl hk2 (fun x hx => hk x (h.2.2 x hx))] at t1 t2
  exact ⟨D', t1, t2, t3⟩
theorem kt_in {S : ob_S} {D : ob_D} {a b most w p : Nat} {A C : List (Nat → Int32)} {g : Nat → Int32} (h : tb_at S D a b most w (A ++ g :: C)) (hp : A.length = p) {j : Nat} (hj : j < w) (x : Int32) : ∃ D', f_Table_set S a (N32 p) (N32 j) x D = some D' ∧ tb_at S D' a b most w (A ++ (fun q => if q = j then x else g q) :: C) ∧ ob_ag (fun y => y = b) D D' := by
  obtain ⟨D', t1, t2, t3⟩ := tb_set h (i := p) (j := j) x (by rw [List.length_append, List.length_cons]; omega) hj
  rw [← hp, tb_upd_mid] at t2
  exact ⟨D', t1, t2, t3⟩
theorem kt_end {α : Type} {S : ob_S} {D : ob_D} {a most w : Nat} {key : α → Nat} {line : α → Nat → Int32} {ok : α → Prop} {l : List α} {y : α} {g : Nat → Int32} (h : tb_at S D a (a + 1) most w ((l.map line).take (ky_pos key (key y) l) ++ g :: (l.map line).drop (ky_pos key (key y) l))) (he : ∀ j, j < w → line y j = g j) (hs : ky_srt key l) (hn : ∀ x ∈ l, key x ≠ key y) (hok : ∀ x ∈ l, ok x) (ho : ok y) : cKt S D a most w key line ok (ky_ins key y l) := by
  refine ⟨?_, ky_ins_srt key y l hs hn, fun f hf => ?_⟩
  · rw [map_ins]
    exact tb_mid_cg h he
  · rcases (ky_ins_mem key y l f).mp hf with e | e
    · rw [e]; exact ho
    · exact hok f e
theorem cFm_kt {S : ob_S} {D : ob_D} {a : Nat} {l : List sFm} : cFm S D a l ↔ cKt S D a 8 12 (fun f : sFm => f.1) fm_line fm_ok l := Iff.rfl
theorem cLm_kt {S : ob_S} {D : ob_D} {a : Nat} {l : List sLm} : cLm S D a l ↔ cKt S D a 16 9 (fun f : sLm => f.1) lm_line lm_ok l := Iff.rfl
theorem fm_l0 (x : sFm) : fm_line x 0 = N32 x.1 := rfl
theorem lm_l0 (x : sLm) : lm_line x 0 = N32 x.1 := rfl
theorem fm_o0 (x : sFm) (h : fm_ok x) : x.1 < 256 := h.1
theorem lm_o0 (x : sLm) (h : lm_ok x) : x.1 < 256 := h.1
