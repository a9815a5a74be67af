-- ===== what the constructors make =====
def nx (S S' : ob_S) (c s : Nat) : Prop := S'.2.2.1 = S.2.2.1 + c ∧ S'.2.2.2 = S.2.2.2 + s ∧ ∀ y, y < S.2.2.1 → S'.1 y = S.1 y ∧ S'.2.1 y = S.2.1 y
theorem nx.rf {S : ob_S} : nx S S 0 0 := ⟨rfl, rfl, fun _ _ => ⟨rfl, rfl⟩⟩
theorem nx.tr {S S1 S2 : ob_S} {c s c' s' : Nat} (h : nx S S1 c s) (k : nx S1 S2 c' s') : nx S S2 (c + c') (s + s') := ⟨by rw [k.1, h.1]; omega, by rw [k.2.1, h.2.1]; omega, fun y hy => ⟨(k.2.2 y (by rw [h.1]; omega)).1.trans (h.2.2 y hy).1, (k.2.2 y (by rw [h.1]; omega)).2.trans (h.2.2 y hy).2⟩⟩
theorem nx.new (S : ob_S) (ki n sl : Nat) : nx S (ob_new S ki n sl) 1 sl := ⟨rfl, rfl, fun y hy => ⟨if_neg (Nat.ne_of_lt hy), if_neg (Nat.ne_of_lt hy)⟩⟩
theorem nx.eq {S S' : ob_S} {c s c' s' : Nat} (h : nx S S' c s) (hc : c = c') (hs : s = s') : nx S S' c' s' := by subst hc; subst hs; exact h
theorem new_len (S : ob_S) (ki n sl : Nat) : (ob_new S ki n sl).2.1 S.2.2.1 = n := if_pos rfl
theorem new_kd (S : ob_S) (ki n sl : Nat) : (ob_new S ki n sl).1 S.2.2.1 = ki := if_pos rfl
theorem og.z {P : Nat → Nat → Prop} {D : ob_D} {a : Nat} (h : ∀ k, P a k) : og P D (ob_z D a) := fun y j hy => by
  have hne : y ≠ a := fun e => hy (by rw [e]; exact h j)
  exact ⟨if_neg hne, if_neg hne, if_neg hne⟩
theorem z_I (D : ob_D) (a k : Nat) : (ob_z D a).1 a k = 0 := if_pos rfl
theorem z_R (D : ob_D) (a k : Nat) : (ob_z D a).2.1 a k = 0 := if_pos rfl
theorem z_L (D : ob_D) (a k : Nat) : (ob_z D a).2.2 a k = 0 := if_pos rfl
theorem pR_self {D : ob_D} {a k x : Nat} : (ob_pR D a k x).2.1 a k = x := if_pos ⟨rfl, rfl⟩
theorem pR_ne {D : ob_D} {a k x y j : Nat} (h : ¬ (y = a ∧ j = k)) : (ob_pR D a k x).2.1 y j = D.2.1 y j := if_neg h
theorem ci_ok {n : Nat} (hn : n ≤ 100000) : ¬ N32 n < 0 ∧ (N32 n).toNatClampNeg ≤ 67108864 := ⟨by rw [show (0 : Int32) = N32 0 from rfl, nb_lt (by omega) (by decide)]; omega, by rw [nb_clamp (by omega)]; omega⟩
theorem ci_row {S : ob_S} {D : ob_D} {n : Nat} (hn : n ≤ 100000) : ∃ S' D', f_Row_init S.2.2.1 (N32 n) (ob_new S 2 0 2) (ob_z D S.2.2.1) = some (S', D') ∧ rw_at S' D' S.2.2.1 (S.2.2.1 + 1) n [] ∧ (∀ j, D'.1 (S.2.2.1 + 1) j = 0) ∧ S'.1 S.2.2.1 = 2 ∧ nx S S' 2 (2 + n) ∧ og (fun y _ => S.2.2.1 ≤ y ∧ y < S.2.2.1 + 2) D D' := by
  have hc : (N32 n).toNatClampNeg = n := nb_clamp (by omega)
  unfold f_Row_init
  rw [ob_gt_t (ci_ok hn)]
  simp only [ob_lt]
  rw [hc]
  generalize ha : S.2.2.1 = a
  have hS1 : (ob_new S 2 0 2).2.2.1 = a + 1 := by rw [← ha]; rfl
  rw [hS1]
  refine ⟨_, _, rfl, ⟨pR_self, by omega, by omega, ?_, pI_self, Nat.zero_le _, hn, fun i hi => absurd hi (Nat.not_lt_zero _), fun x hx => absurd hx List.not_mem_nil⟩, fun j => ?_, ?_, ?_, ?_⟩
  · have := new_len (ob_new S 2 0 2) 20 n n
    rw [hS1] at this
    exact this
  · rw [pI_ne (by omega)]
    exact z_I _ _ _
  · have h1 := ((nx.new (ob_new S 2 0 2) 20 n n).2.2 a (by rw [hS1]; omega)).1
    rw [h1, ← ha]
    exact new_kd S 2 0 2
  · exact ((nx.new S 2 0 2).tr (nx.new (ob_new S 2 0 2) 20 n n))
  · exact (((og.z (fun _ => by omega)).tr (og.z (fun _ => by omega))).tr (og.pR (by omega))).tr (og.pI (by omega))
theorem ci_ring {S : ob_S} {D : ob_D} {n : Nat} (h0 : 0 < n) (hn : n ≤ 100000) : ∃ S' D', f_Ring_init S.2.2.1 (N32 n) (ob_new S 3 0 3) (ob_z D S.2.2.1) = some (S', D') ∧ rg_at S' D' S.2.2.1 (S.2.2.1 + 1) n [] ∧ nx S S' 2 (3 + n) ∧ og (fun y _ => S.2.2.1 ≤ y ∧ y < S.2.2.1 + 2) D D' := by
  have hc : (N32 n).toNatClampNeg = n := nb_clamp (by omega)
  unfold f_Ring_init
  rw [ob_gt_t (ci_ok hn)]
  simp only [ob_lt]
  rw [hc]
  generalize ha : S.2.2.1 = a
  have hS1 : (ob_new S 3 0 3).2.2.1 = a + 1 := by rw [← ha]; rfl
  rw [hS1]
  refine ⟨_, _, rfl, ⟨pR_self, by omega, by omega, ?_, h0, hn, Nat.zero_le _, pI_self, 0, h0, ?_, fun i hi => absurd hi (Nat.not_lt_zero _)⟩, ?_, ?_⟩
  · have := new_len (ob_new S 3 0 3) 20 n n
    rw [hS1] at this
    exact this
  · rw [pI_ne (by omega), pI_self]
    rfl
  · exact ((nx.new S 3 0 3).tr (nx.new (ob_new S 3 0 3) 20 n n))
  · exact ((((og.z (fun _ => by omega)).tr (og.z (fun _ => by omega))).tr (og.pR (by omega))).tr (og.pI (by omega))).tr (og.pI (by omega))
theorem ci_table {S : ob_S} {D : ob_D} {most w : Nat} (hw : 0 < w) (hn : most * w ≤ 100000) : ∃ S' D', f_Table_init S.2.2.1 (N32 most) (N32 w) (ob_new S 8 0 4) (ob_z D S.2.2.1) = some (S', D') ∧ tb_at S' D' S.2.2.1 (S.2.2.1 + 1) most w [] ∧ nx S S' 2 (4 + most * w) ∧ og (fun y _ => S.2.2.1 ≤ y ∧ y < S.2.2.1 + 2) D D' := by
  have hc : (N32 (most * w)).toNatClampNeg = most * w := nb_clamp (by omega)
  unfold f_Table_init
  simp only [ob_lt]
  rw [nb_mul, ob_gt_t (ci_ok hn), hc]
  generalize ha : S.2.2.1 = a
  have hS1 : (ob_new S 8 0 4).2.2.1 = a + 1 := by rw [← ha]; rfl
  rw [hS1]
  refine ⟨_, _, rfl, ⟨pR_self, by omega, by omega, ?_, hn, hw, ?_, ?_, ?_, Nat.zero_le _, fun i hi => absurd hi (Nat.not_lt_zero _)⟩, ?_, ?_⟩
  · have := new_len (ob_new S 8 0 4) 20 (most * w) (most * w)
    rw [hS1] at this
    exact this
  · show (ob_z (ob_pI (ob_pI (ob_z D a) a 0 (N32 most)) a 1 (N32 w)) (a + 1)).1 a 0 = _
    rw [((og.z (P := fun y _ => y = a + 1) (fun _ => rfl)) a 0 (by omega)).1, pI_ne (by omega), pI_self]
  · show (ob_z (ob_pI (ob_pI (ob_z D a) a 0 (N32 most)) a 1 (N32 w)) (a + 1)).1 a 1 = _
    rw [((og.z (P := fun y _ => y = a + 1) (fun _ => rfl)) a 1 (by omega)).1, pI_self]
  · show (ob_z (ob_pI (ob_pI (ob_z D a) a 0 (N32 most)) a 1 (N32 w)) (a + 1)).1 a 3 = _
    rw [((og.z (P := fun y _ => y = a + 1) (fun _ => rfl)) a 3 (by omega)).1, pI_ne (by omega), pI_ne (by omega)]
    exact z_I _ _ _
  · exact ((nx.new S 8 0 4).tr (nx.new (ob_new S 8 0 4) 20 (most * w) (most * w)))
  · exact ((((og.z (fun _ => by omega)).tr (og.pI (by omega))).tr (og.pI (by omega))).tr (og.z (fun _ => by omega))).tr (og.pR (by omega))
theorem ci_receiver {S : ob_S} {D : ob_D} {r : Nat} (hr : S.2.2.1 = r) : ∃ S' D', f_Receiver_init r (ob_new S 4 0 7) (ob_z D r) = some (S', D') ∧ cRc S' D' r (false, 0, 0, [], [], 0) ∧ nx S S' 3 268 ∧ og (fun y _ => r ≤ y ∧ y < r + 3) D D' := by
  have hS1 : (ob_new S 4 0 7).2.2.1 = r + 1 := by rw [← hr]; rfl
  obtain ⟨S7, D8, a1, a2, -, -, a5, a6⟩ := ci_row (S := ob_new S 4 0 7) (D := ob_z D r) (n := 259) (by decide)
  rw [hS1] at a1 a2 a6
  unfold f_Receiver_init
  simp only [ob_lt]
  rw [hS1]
  have a1 : f_Row_init (r + 1) 259 (ob_new (ob_new S 4 0 7) 2 0 2) (ob_z (ob_z D r) (r + 1)) = some (S7, D8) := a1
  rw [a1]
  simp only [ob_bd]
  have hz : ∀ k, D8.1 r k = 0 := fun k => by rw [(a6 r k (by omega)).1]; exact z_I _ _ _
  have g : og (fun y k => y = r ∧ k = 0) D8 (ob_pR D8 r 0 (r + 1)) := og.pR ⟨rfl, rfl⟩
  refine ⟨S7, _, rfl, ⟨pR_self, a2.keep g (by omega) (by omega) rfl, hz 1, hz 6, hz 2, by decide, hz 3, by decide⟩, ((nx.new S 4 0 7).tr a5).eq rfl rfl, ?_⟩
  exact ((og.z (fun _ => by omega)).tr (a6.mono (fun y k e => by omega))).tr (g.mono (fun y k e => by omega))
def rws (S : ob_S) (D : ob_D) (b c cap n : Nat) : Prop := ∀ j, j < n → D.2.1 b j = c + 2 * j ∧ rw_at S D (c + 2 * j) (c + 1 + 2 * j) cap []
theorem rws.keep {S S' : ob_S} {D D' : ob_D} {b c cap n : Nat} {P : Nat → Nat → Prop} (h : rws S D b c cap n) (a : og P D D') (h0 : ∀ k, k < n → ¬ P b k) (h1 : ∀ y k, c ≤ y → y < c + 2 * n → ¬ P y k) (hS : ∀ y, c ≤ y → y < c + 2 * n → S'.2.1 y = S.2.1 y) : rws S' D' b c cap n := fun j hj => ⟨by rw [(a _ _ (h0 _ hj)).2.1]; exact (h j hj).1, (h j hj).2.keep a (fun k => h1 _ k (by omega) (by omega)) (fun k => h1 _ k (by omega) (by omega)) (hS _ (by omega) (by omega))⟩
theorem row_step {S : ob_S} {D : ob_D} {b c cap i : Nat} (hcap : cap ≤ 100000) (hS : S.2.2.1 = c + 2 * i) (hb : b < c) (h : rws S D b c cap i) : ∃ S' D', f_Row_init S.2.2.1 (N32 cap) (ob_new S 2 0 2) (ob_z D S.2.2.1) = some (S', D') ∧ rws S' (ob_pR D' b i S.2.2.1) b c cap (i + 1) ∧ nx S S' 2 (2 + cap) ∧ og (fun y k => (y = b ∧ k = i) ∨ (c + 2 * i ≤ y ∧ y < c + 2 * i + 2)) D (ob_pR D' b i S.2.2.1) := by
  obtain ⟨S', D', a1, a2, -, -, a5, a6⟩ := ci_row (S := S) (D := D) hcap
  refine ⟨S', D', a1, ?_, a5, ?_⟩
  · rw [hS] at a2 a6 ⊢
    have g : og (fun y k => y = b ∧ k = i) D' (ob_pR D' b i (c + 2 * i)) := og.pR ⟨rfl, rfl⟩
    intro j hj
    by_cases hji : j = i
    · subst hji
      refine ⟨pR_self, ?_⟩
      have := a2.keep (S' := S') g (by omega) (by omega) rfl
      rw [show c + 1 + 2 * j = c + 2 * j + 1 by omega]
      exact this
    · obtain ⟨p1, p2⟩ := h j (by omega)
      refine ⟨?_, ?_⟩
      · rw [pR_ne (by omega), (a6 _ _ (by omega)).2.1]
        exact p1
      · exact (p2.keep (S' := S') a6 (by omega) (by omega) (a5.2.2 _ (by rw [hS]; omega)).2).keep g (by omega) (by omega) rfl
  · rw [hS] at a6 ⊢
    exact (a6.mono (fun y k e => by omega)).tr (og.pR (by omega))

theorem gi_L {g : Nat} : ∀ (d n i : Nat) (S : ob_S) (D : ob_D), i + d = 8 → d < n → D.2.1 g 0 = g + 1 → S.2.1 (g + 1) = 8 → S.2.2.1 = g + 2 + 2 * i → rws S D (g + 1) (g + 2) 252 i → ∃ S' D', f_Gate_init_L15 n g (N32 i) S D = some (S', ob_pI D' g 3 1) ∧ rws S' D' (g + 1) (g + 2) 252 8 ∧ nx S S' (2 * d) ((2 + 252) * d) ∧ og (fun y k => y = g + 1 ∨ (g + 2 + 2 * i ≤ y ∧ y < g + 2 + 2 * 8)) D D' := by
  intro d
  induction d with
  | zero =>
    intro n i S D hi hn h0 h1 hS h
    match n, hn with
    | n + 1, _ =>
      have hi' : i = 8 := by omega
      subst hi'
      refine ⟨S, D, ?_, h, nx.rf.eq (by omega) (by omega), og.rf⟩
      rw [f_Gate_init_L15, if_pos (by decide)]
  | succ d ih =>
    intro n i S D hi hn h0 h1 hS h
    match n, hn with
    | n + 1, hn =>
      obtain ⟨S1, D1, a1, a2, a3, a4⟩ := row_step (b := g + 1) (c := g + 2) (by decide) hS (by omega) h
      have a1 : f_Row_init S.2.2.1 252 (ob_new S 2 0 2) (ob_z D S.2.2.1) = some (S1, D1) := a1
      have e1 : N32 i + (1 : Int32) = N32 (i + 1) := nb_add _ 1
      have hl : S1.2.1 (g + 1) = 8 := by rw [(a3.2.2 _ (by omega)).2]; exact h1
      have h0' : (ob_pR D1 (g + 1) i S.2.2.1).2.1 g 0 = g + 1 := by rw [(a4 _ _ (by omega)).2.1]; exact h0
      obtain ⟨S', D', b1, b2, b3, b4⟩ := ih n (i + 1) S1 _ (by omega) (by omega) h0' hl (by rw [a3.1, hS]; omega) a2
      refine ⟨S', D', ?_, b2, (a3.tr b3).eq (by omega) (by rw [Nat.mul_succ]; omega), (a4.mono (fun y k e => by omega)).tr (b4.mono (fun y k e => by omega))⟩
      rw [f_Gate_init_L15, if_neg (by rw [show (8 : Int32) = N32 8 from rfl, nb_le (by decide) (by omega)]; omega), h0, ob_gt_t (show g + 1 ≠ 0 by omega)]
      simp only [ob_lt]
      rw [a1]
      simp only [ob_bd]
      rw [hl, ob_gt_t (show ob_in (N32 i) 8 by rw [nb_in (by omega)]; omega), nb_clamp (by omega), e1]
      exact b1

theorem ti_L {t m : Nat} (hm : m ≤ 64) : ∀ (d n i : Nat) (S : ob_S) (D : ob_D), i + d = m → d < n → D.2.1 t 1 = t + 2 → S.2.1 (t + 2) = m → S.2.2.1 = t + 3 + 2 * i → rws S D (t + 2) (t + 3) 252 i → ∃ S' D', f_Timetable_init_L21 n t (N32 m) (N32 i) S D = some (S', D') ∧ rws S' D' (t + 2) (t + 3) 252 m ∧ nx S S' (2 * d) ((2 + 252) * d) ∧ og (fun y k => y = t + 2 ∨ (t + 3 + 2 * i ≤ y ∧ y < t + 3 + 2 * m)) D D' := by
  intro d
  induction d with
  | zero =>
    intro n i S D hi hn h0 h1 hS h
    match n, hn with
    | n + 1, _ =>
      have hi' : i = m := by omega
      subst hi'
      refine ⟨S, D, ?_, h, nx.rf.eq (by omega) (by omega), og.rf⟩
      rw [f_Timetable_init_L21, if_pos (by rw [nb_le (by omega) (by omega)]; omega)]
  | succ d ih =>
    intro n i S D hi hn h0 h1 hS h
    match n, hn with
    | n + 1, hn =>
      obtain ⟨S1, D1, a1, a2, a3, a4⟩ := row_step (b := t + 2) (c := t + 3) (by decide) hS (by omega) h
      have a1 : f_Row_init S.2.2.1 252 (ob_new S 2 0 2) (ob_z D S.2.2.1) = some (S1, D1) := a1
      have e1 : N32 i + (1 : Int32) = N32 (i + 1) := nb_add _ 1
      have hl : S1.2.1 (t + 2) = m := by rw [(a3.2.2 _ (by omega)).2]; exact h1
      have h0' : (ob_pR D1 (t + 2) i S.2.2.1).2.1 t 1 = t + 2 := by rw [(a4 _ _ (by omega)).2.1]; exact h0
      obtain ⟨S', D', b1, b2, b3, b4⟩ := ih n (i + 1) S1 _ (by omega) (by omega) h0' hl (by rw [a3.1, hS]; omega) a2
      refine ⟨S', D', ?_, b2, (a3.tr b3).eq (by omega) (by rw [Nat.mul_succ]; omega), (a4.mono (fun y k e => by omega)).tr (b4.mono (fun y k e => by omega))⟩
      rw [f_Timetable_init_L21, if_neg (by rw [nb_le (by omega) (by omega)]; omega), h0, ob_gt_t (show t + 2 ≠ 0 by omega)]
      simp only [ob_lt]
      rw [a1]
      simp only [ob_bd]
      rw [hl, ob_gt_t (show ob_in (N32 i) m by rw [nb_in (by omega)]; omega), nb_clamp (by omega), e1]
      exact b1

theorem vi_L {v : Nat} : ∀ (d n i : Nat) (S : ob_S) (D : ob_D), i + d = 32 → d < n → D.2.1 v 4 = v + 6 → S.2.1 (v + 6) = 32 → S.2.2.1 = v + 7 + 2 * i → rws S D (v + 6) (v + 7) 252 i → ∃ S' D', f_Events_init_L53 n v (N32 i) S D = some (S', D') ∧ rws S' D' (v + 6) (v + 7) 252 32 ∧ nx S S' (2 * d) ((2 + 252) * d) ∧ og (fun y k => y = v + 6 ∨ (v + 7 + 2 * i ≤ y ∧ y < v + 7 + 2 * 32)) D D' := by
  intro d
  induction d with
  | zero =>
    intro n i S D hi hn h0 h1 hS h
    match n, hn with
    | n + 1, _ =>
      have hi' : i = 32 := by omega
      subst hi'
      refine ⟨S, D, ?_, h, nx.rf.eq (by omega) (by omega), og.rf⟩
      rw [f_Events_init_L53, if_pos (by decide)]
  | succ d ih =>
    intro n i S D hi hn h0 h1 hS h
    match n, hn with
    | n + 1, hn =>
      obtain ⟨S1, D1, a1, a2, a3, a4⟩ := row_step (b := v + 6) (c := v + 7) (by decide) hS (by omega) h
      have a1 : f_Row_init S.2.2.1 252 (ob_new S 2 0 2) (ob_z D S.2.2.1) = some (S1, D1) := a1
      have e1 : N32 i + (1 : Int32) = N32 (i + 1) := nb_add _ 1
      have hl : S1.2.1 (v + 6) = 32 := by rw [(a3.2.2 _ (by omega)).2]; exact h1
      have h0' : (ob_pR D1 (v + 6) i S.2.2.1).2.1 v 4 = v + 6 := by rw [(a4 _ _ (by omega)).2.1]; exact h0
      obtain ⟨S', D', b1, b2, b3, b4⟩ := ih n (i + 1) S1 _ (by omega) (by omega) h0' hl (by rw [a3.1, hS]; omega) a2
      refine ⟨S', D', ?_, b2, (a3.tr b3).eq (by omega) (by rw [Nat.mul_succ]; omega), (a4.mono (fun y k e => by omega)).tr (b4.mono (fun y k e => by omega))⟩
      rw [f_Events_init_L53, if_neg (by rw [show (32 : Int32) = N32 32 from rfl, nb_le (by decide) (by omega)]; omega), h0, ob_gt_t (show v + 6 ≠ 0 by omega)]
      simp only [ob_lt]
      rw [a1]
      simp only [ob_bd]
      rw [hl, ob_gt_t (show ob_in (N32 i) 32 by rw [nb_in (by omega)]; omega), nb_clamp (by omega), e1]
      exact b1

theorem di_L {v F fr : Nat} (hF : F ≤ 256) (hfr : fr ≤ 4) : ∀ (d n i : Nat) (S : ob_S) (D : ob_D), i + d = fr → d < n → D.2.1 v 2 = v + 6 → S.2.1 (v + 6) = fr → S.2.2.1 = v + 7 + 2 * i → rws S D (v + 6) (v + 7) F i → ∃ S' D', f_Downlink_init_L55 n v (N32 F) (N32 fr) (N32 i) S D = some (S', D') ∧ rws S' D' (v + 6) (v + 7) F fr ∧ nx S S' (2 * d) ((2 + F) * d) ∧ og (fun y k => y = v + 6 ∨ (v + 7 + 2 * i ≤ y ∧ y < v + 7 + 2 * fr)) D D' := by
  intro d
  induction d with
  | zero =>
    intro n i S D hi hn h0 h1 hS h
    match n, hn with
    | n + 1, _ =>
      have hi' : i = fr := by omega
      subst hi'
      refine ⟨S, D, ?_, h, nx.rf.eq (by omega) (by omega), og.rf⟩
      rw [f_Downlink_init_L55, if_pos (by rw [nb_le (by omega) (by omega)]; omega)]
  | succ d ih =>
    intro n i S D hi hn h0 h1 hS h
    match n, hn with
    | n + 1, hn =>
      obtain ⟨S1, D1, a1, a2, a3, a4⟩ := row_step (b := v + 6) (c := v + 7) (by omega) hS (by omega) h
      have a1 : f_Row_init S.2.2.1 (N32 F) (ob_new S 2 0 2) (ob_z D S.2.2.1) = some (S1, D1) := a1
      have e1 : N32 i + (1 : Int32) = N32 (i + 1) := nb_add _ 1
      have hl : S1.2.1 (v + 6) = fr := by rw [(a3.2.2 _ (by omega)).2]; exact h1
      have h0' : (ob_pR D1 (v + 6) i S.2.2.1).2.1 v 2 = v + 6 := by rw [(a4 _ _ (by omega)).2.1]; exact h0
      obtain ⟨S', D', b1, b2, b3, b4⟩ := ih n (i + 1) S1 _ (by omega) (by omega) h0' hl (by rw [a3.1, hS]; omega) a2
      refine ⟨S', D', ?_, b2, (a3.tr b3).eq (by omega) (by rw [Nat.mul_succ]; omega), (a4.mono (fun y k e => by omega)).tr (b4.mono (fun y k e => by omega))⟩
      rw [f_Downlink_init_L55, if_neg (by rw [nb_le (by omega) (by omega)]; omega), h0, ob_gt_t (show v + 6 ≠ 0 by omega)]
      simp only [ob_lt]
      rw [a1]
      simp only [ob_bd]
      rw [hl, ob_gt_t (show ob_in (N32 i) fr by rw [nb_in (by omega)]; omega), nb_clamp (by omega), e1]
      exact b1
