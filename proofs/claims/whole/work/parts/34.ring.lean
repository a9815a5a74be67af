-- ===== Ring against lists =====
/-- the ring a over the array b of cap places, its head at h, holds the numbers l -/
def rg_at (S : ob_S) (D : ob_D) (a b cap : Nat) (l : List Int32) : Prop := D.2.1 a 0 = b ∧ b ≠ 0 ∧ a ≠ b ∧ S.2.1 b = cap ∧ 0 < cap ∧ cap ≤ 100000 ∧ l.length ≤ cap ∧ D.1 a 2 = N32 l.length ∧ ∃ h, h < cap ∧ D.1 a 1 = N32 h ∧ ∀ i, i < l.length → D.1 b (if h + i < cap then h + i else h + i - cap) = l.getD i 0
theorem rg_at.kept {S : ob_S} {D D' : ob_D} {a b cap : Nat} {l : List Int32} {P : Nat → Prop} (h : rg_at S D a b cap l) (g : ob_ag P D D') (ha : ¬ P a) (hb : ¬ P b) : rg_at S D' a b cap l := by
  obtain ⟨h1, h2, h3, h4, h5, h6, h7, h8, hd, h9, h10, h11⟩ := h
  exact ⟨by rw [g.1]; exact h1, h2, h3, h4, h5, h6, h7, by rw [g.2 a 2 ha]; exact h8, hd, h9, by rw [g.2 a 1 ha]; exact h10, fun i hi => by rw [g.2 b _ hb]; exact h11 i hi⟩
theorem rg_hasRoom {S : ob_S} {D : ob_D} {a b cap : Nat} {l : List Int32} (h : rg_at S D a b cap l) {n : Nat} (hn : n < 2147483648) : f_Ring_hasRoom S a (N32 n) D = some (if l.length + n ≤ cap then 1 else 0, D) := by
  obtain ⟨h1, h2, h3, h4, h5, h6, h7, h8, -⟩ := h
  rw [f_Ring_hasRoom, if_pos (by rw [h1]; exact h2), h1, h4, h8]
  have e : Int32.ofNat cap - N32 l.length = N32 (cap - l.length) := nb_sub h7
  rw [e]
  by_cases hc : l.length + n ≤ cap
  · rw [if_neg (by rw [nb_lt (by omega) hn]; omega), if_pos hc]
  · rw [if_pos (by rw [nb_lt (by omega) hn]; omega), if_neg hc]
theorem rg_put {S : ob_S} {D : ob_D} {a b cap : Nat} {l : List Int32} (h : rg_at S D a b cap l) (x : Int32) (hr : l.length < cap) : ∃ D', f_Ring_put S a x D = some D' ∧ rg_at S D' a b cap (l ++ [x]) ∧ ob_ag (fun y => y = a ∨ y = b) D D' := by
  obtain ⟨h1, h2, h3, h4, h5, h6, h7, h8, hd, h9, h10, h11⟩ := h
  have hz : D.2.1 a 0 ≠ 0 := by rw [h1]; exact h2
  have c0 : ¬ Int32.ofNat (S.2.1 (D.2.1 a 0)) ≤ D.1 a 2 := by rw [h1, h4, h8, nb_le (by omega) (by omega)]; omega
  have es : D.1 a 1 + D.1 a 2 = N32 (hd + l.length) := by rw [h10, h8, nb_add]
  have fin : ∀ j, j < cap → j = (if hd + l.length < cap then hd + l.length else hd + l.length - cap) → rg_at S (ob_pI (ob_pI D b j x) a 2 (N32 (l.length + 1))) a b cap (l ++ [x]) ∧ ob_ag (fun y => y = a ∨ y = b) D (ob_pI (ob_pI D b j x) a 2 (N32 (l.length + 1))) := by
    intro j hj hje
    refine ⟨⟨h1, h2, h3, h4, h5, h6, by simp; omega, by simp [ob_pI], hd, h9, by simp [ob_pI, h3, h10], fun i hi => ?_⟩, (ob_ag.pI (Or.inr rfl)).tr (ob_ag.pI (Or.inl rfl))⟩
    have e1 : ∀ q, (ob_pI (ob_pI D b j x) a 2 (N32 (l.length + 1))).1 b q = if q = j then x else D.1 b q := fun q => by simp [ob_pI, Ne.symm h3]
    rw [e1]
    by_cases hil : i = l.length
    · subst hil
      rw [if_pos hje.symm]
      simp
    · have hi2 : i < l.length := by simp at hi; omega
      rw [if_neg (by rw [hje]; split <;> split <;> omega), h11 i hi2]
      simp [List.getD_eq_getElem?_getD, List.getElem?_append_left hi2]
  have e3 : N32 l.length + (1 : Int32) = N32 (l.length + 1) := nb_add l.length 1
  rw [f_Ring_put, if_pos hz, if_neg c0, if_pos hz, if_pos hz]
  by_cases hw : hd + l.length < cap
  · obtain ⟨g1, g2⟩ := fin (hd + l.length) hw (by rw [if_pos hw])
    refine ⟨_, ?_, g1, g2⟩
    have e2 : (ob_pI D b (hd + l.length) x).1 a 2 = N32 l.length := by simp [ob_pI, h3, h8]
    rw [if_neg (by rw [es, h1, h4, nb_le (by omega) (by omega)]; omega), if_pos (by rw [es, h1, h4, nb_in (by omega)]; omega)]
    simp only [es, h1, nb_clamp (show hd + l.length < 2147483648 by omega), ob_lt, e2, e3]
  · obtain ⟨g1, g2⟩ := fin (hd + l.length - cap) (by omega) (by rw [if_neg hw])
    refine ⟨_, ?_, g1, g2⟩
    have e2 : (ob_pI D b (hd + l.length - cap) x).1 a 2 = N32 l.length := by simp [ob_pI, h3, h8]
    have e4 : N32 (hd + l.length) - Int32.ofNat cap = N32 (hd + l.length - cap) := nb_sub (by omega)
    rw [if_pos (by rw [es, h1, h4, nb_le (by omega) (by omega)]; omega), if_pos hz, if_pos (by rw [es, h1, h4, e4, nb_in (by omega)]; omega)]
    simp only [es, h1, h4, e4, nb_clamp (show hd + l.length - cap < 2147483648 by omega), ob_lt, e2, e3]
theorem rg_get {S : ob_S} {D : ob_D} {a b cap : Nat} {l : List Int32} (h : rg_at S D a b cap l) {i : Nat} (hi : i < 2147483648) : f_Ring_get S a (N32 i) D = some (l.getD i 0, D) := by
  obtain ⟨h1, h2, h3, h4, h5, h6, h7, h8, hd, h9, h10, h11⟩ := h
  have hz : D.2.1 a 0 ≠ 0 := by rw [h1]; exact h2
  rw [f_Ring_get, if_neg (by rw [nb_neg hi]; exact id)]
  by_cases hl : l.length ≤ i
  · rw [h8, if_neg (by rw [nb_lt hi (by omega)]; omega)]
    simp [List.getD_eq_getElem?_getD, List.getElem?_eq_none hl]
  · have es : D.1 a 1 + N32 i = N32 (hd + i) := by rw [h10, nb_add]
    have hv := h11 i (by omega)
    rw [h8, if_pos (by rw [nb_lt hi (by omega)]; omega), if_pos hz, if_pos hz]
    by_cases hw : hd + i < cap
    · rw [if_pos hw] at hv
      rw [if_neg (by rw [es, h1, h4, nb_le (by omega) (by omega)]; omega), if_pos (by rw [es, h1, h4, nb_in (by omega)]; omega), es, h1, nb_clamp (by omega), hv]
    · rw [if_neg hw] at hv
      have e4 : N32 (hd + i) - Int32.ofNat cap = N32 (hd + i - cap) := nb_sub (by omega)
      rw [if_pos (by rw [es, h1, h4, nb_le (by omega) (by omega)]; omega), if_pos hz, if_pos (by rw [es, h1, h4, e4, nb_in (by omega)]; omega), es, h1, h4, e4, nb_clamp (by omega), hv]
theorem rg_drop {S : ob_S} {D : ob_D} {a b cap : Nat} {l : List Int32} (h : rg_at S D a b cap l) {n : Nat} (hn : n < 2147483648) : ∃ D', f_Ring_drop S a (N32 n) D = some D' ∧ rg_at S D' a b cap (l.drop n) ∧ ob_ag (fun y => y = a) D D' := by
  obtain ⟨h1, h2, h3, h4, h5, h6, h7, h8, hd, h9, h10, h11⟩ := h
  have hz : D.2.1 a 0 ≠ 0 := by rw [h1]; exact h2
  have core : ∀ g, g ≤ l.length → ∃ D', f_Ring_drop_L16 S a (N32 g) D = some D' ∧ rg_at S D' a b cap (l.drop g) ∧ ob_ag (fun y => y = a) D D' := by
    intro g hg
    have es : D.1 a 1 + N32 g = N32 (hd + g) := by rw [h10, nb_add]
    have e2 : N32 l.length - N32 g = N32 (l.length - g) := nb_sub hg
    have fin : ∀ (hd' : Nat), hd' < cap → (∀ i, i < l.length - g → (if hd' + i < cap then hd' + i else hd' + i - cap) = (if hd + (g + i) < cap then hd + (g + i) else hd + (g + i) - cap)) → ∀ D2 : ob_D, D2.2 = D.2 → D2.1 a 1 = N32 hd' → D2.1 a 2 = N32 (l.length - g) → (∀ q, D2.1 b q = D.1 b q) → rg_at S D2 a b cap (l.drop g) := by
      intro hd' q1 q2 D2 q3 q4 q5 q6
      refine ⟨by rw [q3]; exact h1, h2, h3, h4, h5, h6, by rw [List.length_drop]; omega, by rw [List.length_drop]; exact q5, hd', q1, q4, fun i hi => ?_⟩
      rw [List.length_drop] at hi
      rw [q6, q2 i hi, h11 (g + i) (by omega)]
      simp [List.getD_eq_getElem?_getD]
    rw [f_Ring_drop_L16]
    by_cases hw : hd + g < cap
    · refine ⟨ob_pI (ob_pI D a 1 (N32 (hd + g))) a 2 (N32 (l.length - g)), ?_, fin (hd + g) hw (fun i _ => by split <;> split <;> omega) _ rfl (by simp [ob_pI]) (by simp [ob_pI]) (fun q => by simp [ob_pI, Ne.symm h3]), (ob_ag.pI (P := fun y => y = a) rfl).tr (ob_ag.pI (P := fun y => y = a) rfl)⟩
      have k1 : (ob_pI D a 1 (N32 (hd + g))).1 a 1 = N32 (hd + g) := by simp [ob_pI]
      have k2 : (ob_pI D a 1 (N32 (hd + g))).1 a 2 = N32 l.length := by simp [ob_pI, h8]
      have k3 : (ob_pI D a 1 (N32 (hd + g))).2.1 a 0 = b := h1
      simp only [ob_lt, es]
      rw [if_pos (by rw [k3]; exact h2), if_pos (by rw [k1, k3, h4, nb_lt (by omega) (by omega)]; exact hw), k2, e2]
    · refine ⟨ob_pI (ob_pI (ob_pI D a 1 (N32 (hd + g))) a 1 (N32 (hd + g - cap))) a 2 (N32 (l.length - g)), ?_, fin (hd + g - cap) (by omega) (fun i _ => by split <;> split <;> omega) _ rfl (by simp [ob_pI]) (by simp [ob_pI]) (fun q => by simp [ob_pI, Ne.symm h3]), ((ob_ag.pI (P := fun y => y = a) rfl).tr (ob_ag.pI (P := fun y => y = a) rfl)).tr (ob_ag.pI (P := fun y => y = a) rfl)⟩
      have k1 : (ob_pI D a 1 (N32 (hd + g))).1 a 1 = N32 (hd + g) := by simp [ob_pI]
      have k3 : (ob_pI D a 1 (N32 (hd + g))).2.1 a 0 = b := h1
      have e4 : N32 (hd + g) - Int32.ofNat cap = N32 (hd + g - cap) := nb_sub (by omega)
      have k2 : (ob_pI (ob_pI D a 1 (N32 (hd + g))) a 1 (N32 (hd + g - cap))).1 a 2 = N32 l.length := by simp [ob_pI, h8]
      simp only [ob_lt, es]
      rw [if_pos (by rw [k3]; exact h2), if_neg (by rw [k1, k3, h4, nb_lt (by omega) (by omega)]; exact hw), if_pos (by rw [k3]; exact h2), k1, k3, h4, e4, k2, e2]
  rw [f_Ring_drop]
  by_cases hc : l.length ≤ n
  · rw [if_pos (by rw [h8, nb_le (by omega) hn]; exact hc), h8]
    have := core l.length (Nat.le_refl _)
    rw [List.drop_eq_nil_of_le (Nat.le_refl _)] at this
    rw [List.drop_eq_nil_of_le hc]
    exact this
  · rw [if_neg (by rw [h8, nb_le (by omega) hn]; exact hc)]
    exact core n (by omega)
theorem rg_take {S : ob_S} {D : ob_D} {a b cap : Nat} {l : List Int32} (h : rg_at S D a b cap l) : ∃ D', f_Ring_take S a D = some (l.getD 0 0, D') ∧ rg_at S D' a b cap (l.drop 1) ∧ ob_ag (fun y => y = a) D D' := by
  obtain ⟨D', g1, g2, g3⟩ := rg_drop h (n := 1) (by omega)
  refine ⟨D', ?_, g2, g3⟩
  have g0 := rg_get h (i := 0) (by omega)
  rw [f_Ring_take, show (0 : Int32) = N32 0 from rfl, g0]
  simp only [ob_bd]
  rw [show (1 : Int32) = N32 1 from rfl, g1]
  rfl
def rg_num (l : List Int32) (f : Nat) : Nat → Int32
  | 0 => 0
  | c + 1 => (rg_num l f c <<< ((8 : Int32) &&& 31)) ||| ((l.getD (f + c) 0) &&& (255 : Int32))
theorem rg_number_L {S : ob_S} {D : ob_D} {a b cap : Nat} {l : List Int32} (h : rg_at S D a b cap l) {f c : Nat} (hf : f + c ≤ l.length) : ∀ (d n k : Nat), k + d = c → d < n → f_Ring_number_L5 S n a (N32 f) (N32 c) (rg_num l f k) (N32 (f + k)) D = some (rg_num l f c, D) := by
  obtain ⟨h1, h2, h3, h4, h5, h6, h7, h8, hd, h9, h10, h11⟩ := h
  have hz : D.2.1 a 0 ≠ 0 := by rw [h1]; exact h2
  intro d
  induction d with
  | zero =>
    intro n k hk hn
    match n, hn with
    | n + 1, _ =>
      have : k = c := by omega
      subst this
      rw [f_Ring_number_L5, if_pos (by rw [nb_add]; exact Int32.le_refl _)]
  | succ d ih =>
    intro n k hk hn
    match n, hn with
    | n + 1, hn =>
      have ha : N32 (f + k) + (1 : Int32) = N32 (f + (k + 1)) := nb_add (f + k) 1
      have es : D.1 a 1 + N32 (f + k) = N32 (hd + (f + k)) := by rw [h10, nb_add]
      have hv := h11 (f + k) (by omega)
      have hi := ih n (k + 1) (by omega) (by omega)
      rw [f_Ring_number_L5, if_neg (by rw [nb_add, nb_le (by omega) (by omega)]; omega), if_neg (by rw [nb_neg (by omega)]; exact id), if_neg (by rw [h8, nb_le (by omega) (by omega)]; omega), if_pos hz, if_pos hz]
      by_cases hw : hd + (f + k) < cap
      · rw [if_pos hw] at hv
        rw [if_neg (by rw [es, h1, h4, nb_le (by omega) (by omega)]; omega), if_pos (by rw [es, h1, h4, nb_in (by omega)]; omega)]
        simp only [ob_lt, es, h1, nb_clamp (show hd + (f + k) < 2147483648 by omega), hv, ha]
        exact hi
      · rw [if_neg hw] at hv
        have e4 : N32 (hd + (f + k)) - Int32.ofNat cap = N32 (hd + (f + k) - cap) := nb_sub (by omega)
        rw [if_pos (by rw [es, h1, h4, nb_le (by omega) (by omega)]; omega), if_pos hz, if_pos (by rw [es, h1, h4, e4, nb_in (by omega)]; omega)]
        simp only [ob_lt, es, h1, h4, e4, nb_clamp (show hd + (f + k) - cap < 2147483648 by omega), hv, ha]
        exact hi
theorem rg_number {S : ob_S} {D : ob_D} {a b cap : Nat} {l : List Int32} (h : rg_at S D a b cap l) {f c : Nat} (hf : f + c ≤ l.length) : f_Ring_number S a (N32 f) (N32 c) D = some (rg_num l f c, D) := by
  rw [f_Ring_number]
  have := h.2.2.2.2.2.1
  have := h.2.2.2.2.2.2.1
  exact rg_number_L h hf c ob_FU 0 (by omega) (by rw [ob_FU_eq]; omega)
/-- a packet's bytes in a ring: the first is marked -/
def rg_pk (p : List Nat) : List Int32 := (p.zipIdx).map (fun q => if q.2 = 0 then N32 q.1 ||| (256 : Int32) else N32 q.1)
