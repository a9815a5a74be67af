-- ===== the reference's timetable =====
def en_at (D : ob_D) (M i : Nat) (e : sEn) : Prop := D.1 (M + 16) i = e.1 ∧ D.1 (M + 17) i = N32 e.2.length ∧ 9 ≤ e.2.length ∧ e.2.length ≤ 252 ∧ ba D (M + 18) (260 * i) e.2
def mTt (D : ob_D) (M : Nat) (A : List sEn) (on : Bool) : Prop := D.1 M 45 = N32 A.length ∧ A.length ≤ 64 ∧ (∀ i, i < A.length → en_at D M i (A.getD i (0, []))) ∧ D.1 M 46 = bI on
theorem en_at.keep {D D' : ob_D} {M i : Nat} {e : sEn} {P : Nat → Nat → Prop} (h : en_at D M i e) (a : og P D D') (h1 : ¬ P (M + 16) i) (h2 : ¬ P (M + 17) i) (h3 : ∀ k, 260 * i ≤ k → k < 260 * i + 260 → ¬ P (M + 18) k) : en_at D' M i e := ⟨by rw [(a _ _ h1).1]; exact h.1, by rw [(a _ _ h2).1]; exact h.2.1, h.2.2.1, h.2.2.2.1, h.2.2.2.2.keep a (fun k k1 k2 => h3 k k1 (by have := h.2.2.2.1; omega))⟩
theorem mTt.keep {D D' : ob_D} {M : Nat} {A : List sEn} {on : Bool} {P : Nat → Nat → Prop} (h : mTt D M A on) (a : og P D D') (h45 : ¬ P M 45) (h46 : ¬ P M 46) (hP : ∀ y k, M + 16 ≤ y → y ≤ M + 18 → ¬ P y k) : mTt D' M A on := ⟨by rw [(a _ _ h45).1]; exact h.1, h.2.1, fun i hi => (h.2.2.1 i hi).keep a (hP _ _ (by omega) (by omega)) (hP _ _ (by omega) (by omega)) (fun k _ _ => hP _ _ (by omega) (by omega)), by rw [(a _ _ h46).1]; exact h.2.2.2⟩
theorem ttm_cnt {S : ob_S} {D : ob_D} {M : Nat} {A : List sEn} {on : Bool} {k2 : Nat → Int32 → Int32 → ob_D → Option (Int32 × ob_D)} (hA : mA S D M) (h : mTt D M A on) {i k : Nat} (hi : i < A.length) (hk : k < 2147483648) : ∀ (d m j : Nat), j + d = A.length → d < m → f_Model_due_L15 S k2 m M (N32 k) (N32 i) (N32 (tt_rk A i j)) (N32 j) D = if tt_rk A i A.length = k then some (N32 i, D) else k2 M (N32 k) (N32 (i + 1)) D := by
  have a42 : D.2.1 M 42 = M + 16 ∧ S.2.1 (M + 16) = 64 := hA.1 (42, 16, 64) (by decide)
  obtain ⟨h1, h2, h3, h4⟩ := h
  have hrk : ∀ j, tt_rk A i j ≤ j := by
    intro j
    induction j with
    | zero => exact Nat.le_refl _
    | succ j ih =>
      rw [tt_rk]
      split <;> omega
  intro d
  induction d with
  | zero =>
    intro m j hj hm
    match m, hm with
    | m + 1, _ =>
      have hj' : j = A.length := hj
      have := hrk A.length
      have e1 : N32 i + (1 : Int32) = N32 (i + 1) := nb_add _ 1
      rw [f_Model_due_L15, h1, hj', if_pos (by rw [nb_le (by omega) (by omega)]; exact Nat.le_refl _), if_en (by omega) hk, e1]
  | succ d ih =>
    intro m j hj hm
    match m, hm with
    | m + 1, hm =>
      have := hrk j
      have e1 : N32 j + (1 : Int32) = N32 (j + 1) := nb_add _ 1
      have e2 : N32 (tt_rk A i j) + (1 : Int32) = N32 (tt_rk A i j + 1) := nb_add _ 1
      have ih' := ih m (j + 1) (by omega) (by omega)
      rw [tt_rk] at ih'
      rw [f_Model_due_L15, h1, if_neg (by rw [nb_le (by omega) (by omega)]; omega), a42.1, if_pos (by omega), a42.2, if_pos (by rw [nb_in (by omega)]; omega), if_pos (by omega), if_pos (by rw [nb_in (by omega)]; omega)]
      try simp (disch := omega) only [nb_clamp]
      rw [(h3 j (by omega)).1, (h3 i hi).1, e1, e2]
      by_cases c1 : (A.getD j (0, [])).1 < (A.getD i (0, [])).1
      · rw [if_pos c1]
        rw [if_pos (Or.inl c1)] at ih'
        exact ih'
      · rw [if_neg c1, if_pos (by omega), if_pos (by rw [nb_in (by omega)]; omega), if_pos (by omega), if_pos (by rw [nb_in (by omega)]; omega)]
        by_cases c2 : (A.getD j (0, [])).1 = (A.getD i (0, [])).1
        · rw [if_pos c2, if_le (by omega) (by omega)]
          by_cases c3 : i ≤ j
          · rw [if_pos c3]
            rw [if_neg (by rintro (e | e); exact c1 e; omega)] at ih'
            exact ih'
          · rw [if_neg c3]
            rw [if_pos (Or.inr ⟨c2, by omega⟩)] at ih'
            exact ih'
        · rw [if_neg c2]
          rw [if_neg (by rintro (e | e); exact c1 e; exact c2 e.1)] at ih'
          exact ih'
theorem ttm_due {S : ob_S} {D : ob_D} {M : Nat} {A : List sEn} {on : Bool} (hA : mA S D M) (h : mTt D M A on) {k : Nat} (hk : k < A.length) : ∃ i, i < A.length ∧ tt_rk A i A.length = k ∧ f_Model_due S M (N32 k) D = some (N32 i, D) := by
  have h2 := h.2.1
  have hL : ∀ (d m i : Nat), i + d = A.length → d < m → (∃ i', i ≤ i' ∧ i' < A.length ∧ tt_rk A i' A.length = k) → ∃ i', i' < A.length ∧ tt_rk A i' A.length = k ∧ f_Model_due_L2 S m M (N32 k) (N32 i) D = some (N32 i', D) := by
    intro d
    induction d with
    | zero =>
      intro m i hi hm he
      obtain ⟨i', h1, h2, -⟩ := he
      omega
    | succ d ih =>
      intro m i hi hm he
      match m, hm with
      | m + 1, hm =>
        have hc := ttm_cnt (k2 := fun a0 a1 a2 d => f_Model_due_L2 S m a0 a1 a2 d) hA h (i := i) (k := k) (by omega) (by omega) A.length ob_FU 0 (by omega) (by rw [ob_FU_eq]; omega)
        have hc' : f_Model_due_L15 S (fun a0 a1 a2 d => f_Model_due_L2 S m a0 a1 a2 d) ob_FU M (N32 k) (N32 i) 0 0 D = _ := hc
        by_cases hr : tt_rk A i A.length = k
        · refine ⟨i, by omega, hr, ?_⟩
          rw [f_Model_due_L2, h.1, if_neg (by rw [nb_le (by omega) (by omega)]; omega), hc', if_pos hr]
        · obtain ⟨i', h1, h2', h3⟩ := he
          have hne : i' ≠ i := fun e => hr (e ▸ h3)
          obtain ⟨i2, p1, p2, p3⟩ := ih m (i + 1) (by omega) (by omega) ⟨i', by omega, h2', h3⟩
          refine ⟨i2, p1, p2, ?_⟩
          rw [f_Model_due_L2, h.1, if_neg (by rw [nb_le (by omega) (by omega)]; omega), hc', if_neg hr]
          exact p3
  obtain ⟨i', h1, h3⟩ := (tt_rank A).2 k hk
  exact hL A.length ob_FU 0 (by omega) (by rw [ob_FU_eq]; omega) ⟨i', by omega, h1, h3⟩
theorem ttm_none {S : ob_S} {D : ob_D} {M : Nat} {A : List sEn} {on : Bool} (h : mTt D M A on) (hn : A.length = 0) (k : Int32) : f_Model_due S M k D = some (-1, D) := by
  unfold f_Model_due
  rw [ob_FU_eq, f_Model_due_L2, h.1, hn, if_pos (by decide)]
-- ===== the command that is handled =====
def mCm (D : ob_D) (M : Nat) (c : List Nat) : Prop := D.1 M 28 = N32 c.length ∧ c.length ≤ 252 ∧ ba D (M + 7) 0 c
theorem mCm.keep {D D' : ob_D} {M : Nat} {c : List Nat} {P : Nat → Nat → Prop} (h : mCm D M c) (a : og P D D') (h0 : ¬ P M 28) (h1 : ∀ k, ¬ P (M + 7) k) : mCm D' M c := ⟨by rw [(a _ _ h0).1]; exact h.1, h.2.1, h.2.2.keep a (fun k _ _ => h1 k)⟩
theorem mcm_take {S : ob_S} {D : ob_D} {M a o : Nat} {c : List Nat} (hA : mA S D M) (hs : ba D a o c) (hl : o + c.length ≤ S.2.1 a) (hn : S.2.1 a ≤ 100000) (hc : c.length ≤ 252) (hd : a ≠ M + 7) : ∃ D', f_Model_take S M a (N32 o) (N32 c.length) D = some D' ∧ mCm D' M c ∧ oi (fun y k => (y = M ∧ k = 28) ∨ y = M + 7) D D' := by
  have hL : ∀ (d m j : Nat) (D : ob_D), j + d = c.length → d < m → mA S D M → ba D a o c → ba D (M + 7) 0 (c.take j) → ∃ D', f_Model_take_L3 S m M a (N32 o) (N32 c.length) (N32 j) D = some D' ∧ mCm D' M c ∧ oi (fun y k => (y = M ∧ k = 28) ∨ y = M + 7) D D' := by
    intro d
    induction d with
    | zero =>
      intro m j D hj hm hA hs hb
      match m, hm with
      | m + 1, _ =>
        have hj' : j = c.length := hj
        rw [hj', List.take_length] at hb
        have g : og (fun y k => y = M ∧ k = 28) D (ob_pI D M 28 (N32 c.length)) := og.pI ⟨rfl, rfl⟩
        refine ⟨ob_pI D M 28 (N32 c.length), ?_, ⟨pI_self, hc, hb.keep g (by omega)⟩, oi.pI (Or.inl ⟨rfl, rfl⟩)⟩
        rw [f_Model_take_L3, hj', if_pos (by rw [nb_le (by omega) (by omega)]; exact Nat.le_refl _)]
    | succ d ih =>
      intro m j D hj hm hA hs hb
      match m, hm with
      | m + 1, hm =>
        have a27 : D.2.1 M 27 = M + 7 ∧ S.2.1 (M + 7) = 260 := hA.1 (27, 7, 260) (by decide)
        have e1 : N32 j + (1 : Int32) = N32 (j + 1) := nb_add _ 1
        have hbj := by_getD_lt hs.2 j
        have htl : (c.take j).length = j := by rw [List.length_take]; omega
        have hbn := ba_put hb hbj
        have hts := by_take_succ (l := c) (f := 0) (k := j) (by omega)
        rw [List.drop_zero, Nat.zero_add] at hts
        rw [← hts, htl, Nat.zero_add] at hbn
        have g : oi (fun y k => (y = M ∧ k = 28) ∨ y = M + 7) D (ob_pI D (M + 7) j (sb (c.getD j 0))) := oi.pI (Or.inr rfl)
        obtain ⟨D', t1, t2, t3⟩ := ih m (j + 1) _ (by omega) (by omega) (hA.kp g) (hs.keep (P := fun y k => y = M + 7) (og.pI rfl) (fun k _ _ => hd)) hbn
        refine ⟨D', ?_, t2, g.tr t3⟩
        rw [f_Model_take_L3, if_neg (by rw [nb_le (by omega) (by omega)]; omega), a27.1, if_pos (by omega), nb_add, if_pos (by rw [nb_in (by omega)]; omega), a27.2, if_pos (by rw [nb_in (by omega)]; omega)]
        try simp (disch := omega) only [nb_clamp]
        rw [hs.1 j (by omega), sb_sb]
        simp only [ob_lt]
        rw [e1]
        exact t1
  exact hL c.length ob_FU 0 D (by omega) (by rw [ob_FU_eq]; omega) hA hs (by rw [List.take_zero]; exact ⟨fun i hi => absurd hi (by simp), fun x hx => absurd hx (by simp)⟩)
-- ===== dropping an entry =====
abbrev edP (M j : Nat) : Nat → Nat → Prop := fun y k => (y = M + 16 ∧ k = j) ∨ (y = M + 17 ∧ k = j) ∨ (y = M + 18 ∧ 260 * j ≤ k ∧ k < 260 * j + 260)
theorem edm_copy {S : ob_S} {M j : Nat} {e : sEn} {k12 : Nat → Int32 → ob_D → Option ob_D} (hj : j + 1 < 64) (he : 9 ≤ e.2.length ∧ e.2.length ≤ 252) : ∀ (d m i : Nat) (D : ob_D), i + d = e.2.length → d < m → mA S D M → D.1 (M + 16) j = e.1 → D.1 (M + 17) j = N32 e.2.length → ba D (M + 18) (260 * (j + 1)) e.2 → ba D (M + 18) (260 * j) (e.2.take i) → ∃ D', f_Model_dropEntry_L50 S k12 m M (N32 j) (N32 i) D = k12 M (N32 (j + 1)) D' ∧ en_at D' M j e ∧ oi (fun y k => y = M + 18 ∧ 260 * j ≤ k ∧ k < 260 * j + 260) D D' := by
  intro d
  induction d with
  | zero =>
    intro m i D hi hm hA h1 h2 hs hb
    match m, hm with
    | m + 1, _ =>
      have a43 : D.2.1 M 43 = M + 17 ∧ S.2.1 (M + 17) = 64 := hA.1 (43, 17, 64) (by decide)
      have hi' : i = e.2.length := hi
      rw [hi', List.take_length] at hb
      have e1 : N32 j + (1 : Int32) = N32 (j + 1) := nb_add _ 1
      refine ⟨D, ?_, ⟨h1, h2, he.1, he.2, hb⟩, oi.rf⟩
      rw [f_Model_dropEntry_L50, a43.1, if_pos (by omega), a43.2, if_pos (by rw [nb_in (by omega)]; omega)]
      try simp (disch := omega) only [nb_clamp]
      rw [h2, hi', if_pos (by rw [nb_le (by omega) (by omega)]; exact Nat.le_refl _), e1]
  | succ d ih =>
    intro m i D hi hm hA h1 h2 hs hb
    match m, hm with
    | m + 1, hm =>
      have a43 : D.2.1 M 43 = M + 17 ∧ S.2.1 (M + 17) = 64 := hA.1 (43, 17, 64) (by decide)
      have a44 : D.2.1 M 44 = M + 18 ∧ S.2.1 (M + 18) = 16640 := hA.1 (44, 18, 16640) (by decide)
      have e1 : N32 j + (1 : Int32) = N32 (j + 1) := nb_add _ 1
      have e2 : N32 i + (1 : Int32) = N32 (i + 1) := nb_add _ 1
      have eo : (260 : Int32) * N32 j + N32 i = N32 (260 * j + i) := by rw [show (260 : Int32) = N32 260 from rfl, nb_mul, nb_add]
      have eo2 : (260 : Int32) * N32 (j + 1) + N32 i = N32 (260 * (j + 1) + i) := by rw [show (260 : Int32) = N32 260 from rfl, nb_mul, nb_add]
      have htl : (e.2.take i).length = i := by rw [List.length_take]; omega
      have hbn := ba_put hb (by_getD_lt hs.2 i)
      have hts := by_take_succ (l := e.2) (f := 0) (k := i) (by omega)
      rw [List.drop_zero, Nat.zero_add] at hts
      rw [← hts, htl] at hbn
      have g : oi (fun y k => y = M + 18 ∧ 260 * j ≤ k ∧ k < 260 * j + 260) D (ob_pI D (M + 18) (260 * j + i) (sb (e.2.getD i 0))) := oi.pI ⟨rfl, by omega, by omega⟩
      obtain ⟨D', t1, t2, t3⟩ := ih m (i + 1) _ (by omega) (by omega) (hA.kp g) (by rw [pI_ne (by omega)]; exact h1) (by rw [pI_ne (by omega)]; exact h2) (hs.keep g.up (fun k k1 k2 => by omega)) hbn
      refine ⟨D', ?_, t2, g.tr t3⟩
      rw [f_Model_dropEntry_L50, a43.1, if_pos (by omega), a43.2, if_pos (by rw [nb_in (by omega)]; omega)]
      try simp (disch := omega) only [nb_clamp]
      rw [h2, if_neg (by rw [nb_le (by omega) (by omega)]; omega), a44.1, if_pos (by omega), if_pos (by omega), e1, eo2, a44.2, if_pos (by rw [nb_in (by omega)]; omega), eo, if_pos (by rw [nb_in (by omega)]; omega)]
      try simp (disch := omega) only [nb_clamp]
      rw [hs.1 i (by omega), sb_sb]
      simp only [ob_lt]
      rw [e2]
      exact t1
theorem edm_L {S : ob_S} {M a : Nat} {A : List sEn} (hl : A.length ≤ 64) (ha : a < A.length) : ∀ (d m j : Nat) (D : ob_D), j + d = A.length - 1 → d < m → a ≤ j → mA S D M → D.1 M 45 = N32 (A.length - 1) → (∀ i, i < j → en_at D M i ((A.eraseIdx a).getD i (0, []))) → (∀ i, j ≤ i → i < A.length → en_at D M i (A.getD i (0, []))) → ∃ D', f_Model_dropEntry_L12 S m M (N32 j) D = some D' ∧ (∀ i, i < A.length - 1 → en_at D' M i ((A.eraseIdx a).getD i (0, []))) ∧ oi (fun y k => M + 16 ≤ y ∧ y ≤ M + 18) D D' := by
  intro d
  induction d with
  | zero =>
    intro m j D hj hm haj hA h45 hlo hhi
    match m, hm with
    | m + 1, _ =>
      refine ⟨D, ?_, fun i hi => hlo i (by omega), oi.rf⟩
      rw [f_Model_dropEntry_L12, h45, if_pos (by rw [nb_le (by omega) (by omega)]; omega)]
  | succ d ih =>
    intro m j D hj hm haj hA h45 hlo hhi
    match m, hm with
    | m + 1, hm =>
      have a42 : D.2.1 M 42 = M + 16 ∧ S.2.1 (M + 16) = 64 := hA.1 (42, 16, 64) (by decide)
      have a43 : D.2.1 M 43 = M + 17 ∧ S.2.1 (M + 17) = 64 := hA.1 (43, 17, 64) (by decide)
      have e1 : N32 j + (1 : Int32) = N32 (j + 1) := nb_add _ 1
      have hE := hhi (j + 1) (by omega) (by omega)
      have hel : (A.eraseIdx a).length = A.length - 1 := List.length_eraseIdx_of_lt ha
      have eg : (A.eraseIdx a).getD j (0, []) = A.getD (j + 1) (0, []) := by rw [er_get (by omega), if_neg (by omega)]
      obtain ⟨D8, hD8⟩ : ∃ x, x = ob_pI D (M + 16) j (A.getD (j + 1) (0, [])).1 := ⟨_, rfl⟩
      obtain ⟨D15, hD15⟩ : ∃ x, x = ob_pI D8 (M + 17) j (N32 (A.getD (j + 1) (0, [])).2.length) := ⟨_, rfl⟩
      have r8 : D8.2 = D.2 := by rw [hD8]; rfl
      have g15 : oi (edP M j) D D15 := by
        rw [hD15, hD8]
        exact (oi.pI (Or.inl ⟨rfl, rfl⟩)).tr (oi.pI (Or.inr (Or.inl ⟨rfl, rfl⟩)))
      have v17 : D8.1 (M + 17) (j + 1) = N32 (A.getD (j + 1) (0, [])).2.length := by rw [hD8, pI_ne (by omega)]; exact hE.2.1
      have g15b : oi (fun y k => (y = M + 16 ∧ k = j) ∨ (y = M + 17 ∧ k = j)) D D15 := by
        rw [hD15, hD8]
        exact (oi.pI (Or.inl ⟨rfl, rfl⟩)).tr (oi.pI (Or.inr ⟨rfl, rfl⟩))
      obtain ⟨D16, p1, p2, p3⟩ := edm_copy (S := S) (M := M) (j := j) (e := A.getD (j + 1) (0, [])) (k12 := fun a0 a1 d => f_Model_dropEntry_L12 S m a0 a1 d) (by omega) ⟨hE.2.2.1, hE.2.2.2.1⟩ (A.getD (j + 1) (0, [])).2.length ob_FU 0 D15 (by omega) (by rw [ob_FU_eq]; have := hE.2.2.2.1; omega) (hA.kp g15) (by rw [hD15, pI_ne (by omega), hD8, pI_self]) (by rw [hD15, pI_self]) (hE.2.2.2.2.keep g15b.up (fun k _ _ => by omega)) (by rw [List.take_zero]; exact ⟨fun i hi => absurd hi (by simp), fun x hx => absurd hx (by simp)⟩)
      have g16 : oi (edP M j) D D16 := g15.tr (p3.mono (fun y k e => Or.inr (Or.inr e)))
      obtain ⟨D', t1, t2, t3⟩ := ih m (j + 1) D16 (by omega) (by omega) (by omega) (hA.kp g16) (by rw [g16.2 _ _ (by omega)]; exact h45) (fun i hi => by
        by_cases hij : i = j
        · rw [hij, eg]; exact p2
        · exact (hlo i (by omega)).keep g16.up (by omega) (by omega) (fun k k1 k2 => by omega)) (fun i h1 h2 => (hhi i (by omega) h2).keep g16.up (by omega) (by omega) (fun k k1 k2 => by omega))
      refine ⟨D', ?_, t2, (g16.mono (fun y k e => by omega)).tr t3⟩
      rw [f_Model_dropEntry_L12, h45, if_neg (by rw [nb_le (by omega) (by omega)]; omega), a42.1, if_pos (by omega), if_pos (by omega), e1, a42.2, if_pos (by rw [nb_in (by omega)]; omega), if_pos (by rw [nb_in (by omega)]; omega)]
      try simp (disch := omega) only [nb_clamp]
      rw [hE.1]
      simp only [ob_lt]
      rw [← hD8, r8, a43.1, if_pos (by omega), if_pos (by omega), a43.2, if_pos (by rw [nb_in (by omega)]; omega), if_pos (by rw [nb_in (by omega)]; omega), v17, ← hD15]
      rw [show (0 : Int32) = N32 0 from rfl, p1]
      exact t1
theorem edm_drop {S : ob_S} {D : ob_D} {M a : Nat} {A : List sEn} {on : Bool} (hA : mA S D M) (h : mTt D M A on) (ha : a < A.length) : ∃ D', f_Model_dropEntry S M (N32 a) D = some D' ∧ mTt D' M (A.eraseIdx a) on ∧ oi (fun y k => (y = M ∧ k = 45) ∨ (M + 16 ≤ y ∧ y ≤ M + 18)) D D' := by
  obtain ⟨h1, h2, h3, h4⟩ := h
  have g : oi (fun y k => y = M ∧ k = 45) D (ob_pI D M 45 (N32 (A.length - 1))) := oi.pI ⟨rfl, rfl⟩
  have hel : (A.eraseIdx a).length = A.length - 1 := List.length_eraseIdx_of_lt ha
  obtain ⟨D', t1, t2, t3⟩ := edm_L (S := S) (M := M) h2 ha (A.length - 1 - a) ob_FU a (ob_pI D M 45 (N32 (A.length - 1))) (by omega) (by rw [ob_FU_eq]; omega) (Nat.le_refl _) (hA.kp g) pI_self (fun i hi => by
    rw [er_get (by omega), if_pos hi]
    exact (h3 i (by omega)).keep g.up (by omega) (by omega) (fun k _ _ => by omega)) (fun i _ hi => (h3 i hi).keep g.up (by omega) (by omega) (fun k _ _ => by omega))
  refine ⟨D', ?_, ⟨by rw [t3.2 _ _ (by omega), pI_self, hel], by omega, fun i hi => t2 i (by omega), by rw [t3.2 _ _ (by omega), g.2 _ _ (by omega)]; exact h4⟩, (g.mono (fun y k e => Or.inl e)).tr (t3.mono (fun y k e => Or.inr e))⟩
  unfold f_Model_dropEntry
  simp only [ob_lt]
  rw [h1, show (1 : Int32) = N32 1 from rfl, nb_sub (by omega)]
  exact t1
theorem edm_no {S : ob_S} {D : ob_D} {M i : Nat} {A : List sEn} {on : Bool} (hA : mA S D M) (h : mTt D M A on) (hi : i < A.length) : f_Model_entryNumber S M (N32 i) D = some (N32 (en_no (A.getD i (0, []))), D) := by
  have a44 : D.2.1 M 44 = M + 18 ∧ S.2.1 (M + 18) = 16640 := hA.1 (44, 18, 16640) (by decide)
  obtain ⟨h1, h2, h3, h4⟩ := h
  have hE := h3 i hi
  have eo : (260 : Int32) * N32 i + (2 : Int32) = N32 (260 * i + 2) := by rw [show (260 : Int32) = N32 260 from rfl, nb_mul]; exact nb_add _ 2
  have e2 : f_Model_two S (M + 18) (N32 (260 * i + 2)) D = _ := ba_two (S := S) hE.2.2.2.2 (i := 2) (by rw [a44.2]; have := hE.2.2.2.1; omega) (by rw [a44.2]; decide) (by have := hE.2.2.1; omega)
  unfold f_Model_entryNumber
  rw [a44.1, if_pos (by omega), eo, e2]
  simp only [ob_bd]
  rw [n_16383]
  rfl
theorem edm_all_L {S : ob_S} {M x : Nat} {on : Bool} (hx : x < 16384) : ∀ (k n : Nat) (D : ob_D) (A : List sEn), k ≤ A.length → k < n → mA S D M → mTt D M A on → ∃ D', f_Model_actTable_L158 S n M (N32 x) (N32 k - 1) D = some D' ∧ mTt D' M ((A.take k).filter (fun e => !(en_no e == x)) ++ A.drop k) on ∧ oi (fun y k => (y = M ∧ k = 45) ∨ (M + 16 ≤ y ∧ y ≤ M + 18)) D D' := by
  intro k
  induction k with
  | zero =>
    intro n D A hk hn hA h
    match n, hn with
    | n + 1, _ =>
      refine ⟨D, ?_, ?_, oi.rf⟩
      · rw [f_Model_actTable_L158, if_pos (by decide)]
      · rw [List.take_zero, List.drop_zero]
        exact h
  | succ k ih =>
    intro n D A hk hn hA h
    match n, hn with
    | n + 1, hn =>
      have hm := h.2.1
      have e1 : N32 (k + 1) - 1 = N32 k := by rw [show (1 : Int32) = N32 1 from rfl, nb_sub (by omega), Nat.add_sub_cancel]
      have e2 : N32 k + (-1 : Int32) = N32 k - 1 := (Int32.sub_eq_add_neg _ _).symm
      have hlt : en_no (A.getD k (0, [])) < 16384 := Nat.mod_lt _ (by decide)
      rw [f_Model_actTable_L158, e1, if_neg (by rw [nb_neg (by omega)]; exact id), edm_no hA h (by omega)]
      simp only [ob_bd]
      rw [if_en (by omega) (by omega), e2]
      by_cases hc : en_no (A.getD k (0, [])) = x
      · rw [if_pos hc]
        obtain ⟨D1, p1, p2, p3⟩ := edm_drop hA h (a := k) (by omega)
        obtain ⟨D2, q1, q2, q3⟩ := ih n D1 (A.eraseIdx k) (by rw [List.length_eraseIdx_of_lt (by omega)]; omega) (by omega) (hA.kp p3) p2
        refine ⟨D2, ?_, ?_, p3.tr q3⟩
        · rw [p1]
          simp only [ob_bv]
          exact q1
        · have eT : (A.eraseIdx k).take k = A.take k := by
            rw [List.eraseIdx_eq_take_drop_succ, List.take_append_of_le_length (by rw [List.length_take]; omega), List.take_take, Nat.min_self]
          have eD : (A.eraseIdx k).drop k = A.drop (k + 1) := by
            rw [List.eraseIdx_eq_take_drop_succ, List.drop_append_of_le_length (by rw [List.length_take]; omega), List.drop_of_length_le (by rw [List.length_take]; omega), List.nil_append]
          rw [eT, eD] at q2
          rw [en_take (by omega), List.filter_append, List.filter_cons_of_neg (by show ¬ (!(en_no (A.getD k (0, [])) == x)) = true; rw [hc, beq_self_eq_true]; decide), List.filter_nil, List.append_nil]
          exact q2
      · rw [if_neg hc]
        obtain ⟨D2, q1, q2, q3⟩ := ih n D A (by omega) (by omega) hA h
        refine ⟨D2, q1, ?_, q3⟩
        rw [en_drop (by omega)] at q2
        rw [en_take (by omega), List.filter_append, List.filter_cons_of_pos (by show (!(en_no (A.getD k (0, [])) == x)) = true; rw [beq_eq_false_iff_ne.mpr hc]; rfl), List.filter_nil, List.append_assoc]
        exact q2
