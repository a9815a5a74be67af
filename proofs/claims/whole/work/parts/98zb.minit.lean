-- ===== what the reference's constructor makes =====
def me_p (k : Nat) (x : Int32) (e : Nat → Int32) : Nat → Int32 := fun j => if j = k then x else e j
def mI (S0 : ob_S) (D0 : ob_D) (M : Nat) (S : ob_S) (D : ob_D) (c s : Nat) (l l2 : List (Nat × Nat × Nat)) (e : Nat → Int32) : Prop := nx S0 S c s ∧ og (fun y _ => M ≤ y) D0 D ∧ (∀ t ∈ l, D.2.1 M t.1 = M + t.2.1 ∧ S.2.1 (M + t.2.1) = t.2.2 ∧ t.2.1 < c) ∧ (∀ t ∈ l2, D.2.1 (M + t.1) t.2.1 = M + t.2.2 ∧ S.2.1 (M + t.2.2) = 4400 ∧ 0 < t.1 ∧ t.1 < c ∧ t.2.2 < c) ∧ (∀ k, D.1 M k = e k) ∧ ∀ y k, M < y → y < M + c → D.1 y k = 0
theorem mi_0 {S0 : ob_S} {D0 : ob_D} {M : Nat} (hM : S0.2.2.1 = M) : mI S0 D0 M (ob_new S0 13 0 91) (ob_z D0 M) 1 91 [] [] (fun _ => 0) := ⟨nx.new S0 13 0 91, og.z (fun _ => Nat.le_refl _), fun t ht => absurd ht List.not_mem_nil, fun t ht => absurd ht List.not_mem_nil, fun k => z_I _ _ _, fun y k h1 h2 => absurd h1 (by omega)⟩
theorem z_Rne {D : ob_D} {a b k : Nat} (h : b ≠ a) : (ob_z D a).2.1 b k = D.2.1 b k := if_neg h
theorem z_Ine {D : ob_D} {a b k : Nat} (h : b ≠ a) : (ob_z D a).1 b k = D.1 b k := if_neg h
/-- a fresh cell behind the last: what stands keeps standing -/
theorem mi_new {S0 : ob_S} {D0 : ob_D} {M : Nat} {S : ob_S} {D : ob_D} {c s : Nat} {l l2 : List (Nat × Nat × Nat)} {e : Nat → Int32} (ki n sl : Nat) (hM : S0.2.2.1 = M) (h : mI S0 D0 M S D c s l l2 e) (hc : 1 ≤ c) : mI S0 D0 M (ob_new S ki n sl) (ob_z D (M + c)) (c + 1) (s + sl) l l2 e := by
  have hS : S.2.2.1 = M + c := by rw [h.1.1, hM]
  obtain ⟨h1, h2, h3, h4, h5, h6⟩ := h
  have n1 := nx.new S ki n sl
  refine ⟨h1.tr n1, h2.tr (og.z (fun _ => by omega)), fun t ht => ?_, fun t ht => ?_, fun k => ?_, fun y k u v => zc (fun hy => h6 y k u (by omega))⟩
  · obtain ⟨a1, a2, a3⟩ := h3 t ht
    exact ⟨by rw [z_Rne (by omega)]; exact a1, by rw [(n1.2.2 _ (by omega)).2]; exact a2, by omega⟩
  · obtain ⟨a1, a2, a3, a4, a5⟩ := h4 t ht
    exact ⟨by rw [z_Rne (by omega)]; exact a1, by rw [(n1.2.2 _ (by omega)).2]; exact a2, a3, by omega, by omega⟩
  · rw [z_Ine (by omega)]
    exact h5 k
/-- a reference is laid into the object -/
theorem mi_ref {S0 : ob_S} {D0 : ob_D} {M : Nat} {S : ob_S} {D : ob_D} {c s : Nat} {l l2 : List (Nat × Nat × Nat)} {e : Nat → Int32} {k o n : Nat} (h : mI S0 D0 M S D c s l l2 e) (ho : o < c) (hl : S.2.1 (M + o) = n) (hk : ∀ t ∈ l, t.1 ≠ k) : mI S0 D0 M S (ob_pR D M k (M + o)) c s ((k, o, n) :: l) l2 e := by
  obtain ⟨h1, h2, h3, h4, h5, h6⟩ := h
  refine ⟨h1, h2.tr (og.pR (Nat.le_refl _)), fun t ht => ?_, fun t ht => ?_, h5, h6⟩
  · rcases List.mem_cons.mp ht with rfl | ht
    · exact ⟨pR_self, hl, ho⟩
    · obtain ⟨a1, a2, a3⟩ := h3 t ht
      exact ⟨by rw [pR_ne (fun e => hk t ht e.2)]; exact a1, a2, a3⟩
  · obtain ⟨a1, a2, a3, a4, a5⟩ := h4 t ht
    exact ⟨by rw [pR_ne (by omega)]; exact a1, a2, a3, a4, a5⟩
theorem mi_arr {S0 : ob_S} {D0 : ob_D} {M : Nat} {S : ob_S} {D : ob_D} {c s : Nat} {l l2 : List (Nat × Nat × Nat)} {e : Nat → Int32} {ki n k : Nat} {f : ob_S → ob_D → Option (ob_S × ob_D)} {Q : ob_S → ob_D → Prop} (hM : S0.2.2.1 = M) (h : mI S0 D0 M S D c s l l2 e) (hc : 1 ≤ c) (hn : n ≤ 100000) (hk : ∀ t ∈ l, t.1 ≠ k) (cont : ∀ S' D', mI S0 D0 M S' D' (c + 1) (s + n) ((k, c, n) :: l) l2 e → ∃ T U, f S' D' = some (T, U) ∧ Q T U) : ∃ T U, (ob_gt (¬ N32 n < 0 ∧ (N32 n).toNatClampNeg ≤ 67108864) <| ob_lt (ob_new S ki (N32 n).toNatClampNeg (N32 n).toNatClampNeg) fun S1 => ob_lt (ob_z D S.2.2.1) fun D2 => ob_lt (ob_pR D2 M k (S.2.2.1)) fun D8 => f S1 D8) = some (T, U) ∧ Q T U := by
  have hS : S.2.2.1 = M + c := by rw [h.1.1, hM]
  rw [ob_gt_t (ci_ok hn)]
  simp only [ob_lt]
  rw [nb_clamp (by omega), hS]
  refine cont _ _ (mi_ref (mi_new ki n n hM h hc) (by omega) ?_ hk)
  have := new_len S ki n n
  rw [hS] at this
  exact this
theorem mi_pI {S0 : ob_S} {D0 : ob_D} {M : Nat} {S : ob_S} {D : ob_D} {c s : Nat} {l l2 : List (Nat × Nat × Nat)} {e : Nat → Int32} {k : Nat} {x : Int32} {f : ob_D → Option (ob_S × ob_D)} {Q : ob_S → ob_D → Prop} (h : mI S0 D0 M S D c s l l2 e) (cont : ∀ D', mI S0 D0 M S D' c s l l2 (me_p k x e) → ∃ T U, f D' = some (T, U) ∧ Q T U) : ∃ T U, (ob_lt (ob_pI D M k x) fun D8 => f D8) = some (T, U) ∧ Q T U := by
  obtain ⟨h1, h2, h3, h4, h5, h6⟩ := h
  refine cont _ ⟨h1, h2.tr (og.pI (Nat.le_refl _)), h3, h4, fun j => ?_, fun y j u v => ?_⟩
  · show (if M = M ∧ j = k then x else D.1 M j) = if j = k then x else e j
    by_cases hj : j = k
    · rw [if_pos ⟨rfl, hj⟩, if_pos hj]
    · rw [if_neg (fun q => hj q.2), if_neg hj]
      exact h5 j
  · rw [pI_ne (by omega)]
    exact h6 y j u v
theorem mi_two {S0 : ob_S} {D0 : ob_D} {M : Nat} {S : ob_S} {D : ob_D} {c s : Nat} {l l2 : List (Nat × Nat × Nat)} {e : Nat → Int32} {ki kj n k : Nat} {f : ob_S → ob_D → Option (ob_S × ob_D)} {Q : ob_S → ob_D → Prop} (hM : S0.2.2.1 = M) (h : mI S0 D0 M S D c s l l2 e) (hc : 1 ≤ c) (hn : n = 4400) (hk : ∀ t ∈ l, t.1 ≠ k) (cont : ∀ S' D', mI S0 D0 M S' D' (c + 3) (s + (2 + n + n)) ((k, c, 2) :: l) ((c, 0, c + 1) :: (c, 1, c + 2) :: l2) e → ∃ T U, f S' D' = some (T, U) ∧ Q T U) : ∃ T U, (ob_gt (¬ N32 n < 0 ∧ (N32 n).toNatClampNeg ≤ 67108864) <| ob_lt (ob_new S ki 2 2) fun S365 => ob_lt (ob_z D S.2.2.1) fun D368 => ob_lt (ob_new S365 kj (N32 n).toNatClampNeg (N32 n).toNatClampNeg) fun S366 => ob_lt (ob_z D368 S365.2.2.1) fun D369 => ob_lt (ob_pR D369 S.2.2.1 0 S365.2.2.1) fun D370 => ob_lt (ob_new S366 kj (N32 n).toNatClampNeg (N32 n).toNatClampNeg) fun S367 => ob_lt (ob_z D370 S366.2.2.1) fun D371 => ob_lt (ob_pR D371 S.2.2.1 1 S366.2.2.1) fun D372 => ob_lt (ob_pR D372 M k (S.2.2.1)) fun D388 => f S367 D388) = some (T, U) ∧ Q T U := by
  subst hn
  have hS : S.2.2.1 = M + c := by rw [h.1.1, hM]
  rw [ob_gt_t (ci_ok (n := 4400) (by decide))]
  simp only [ob_lt]
  rw [nb_clamp (n := 4400) (by decide), hS]
  have hS1 : (ob_new S ki 2 2).2.2.1 = M + (c + 1) := by rw [new_nx, hS]; omega
  have hS2 : (ob_new (ob_new S ki 2 2) kj 4400 4400).2.2.1 = M + (c + 2) := by rw [new_nx, hS1]; omega
  rw [hS1, hS2]
  have t1 := mi_new ki 2 2 hM h hc
  have u1 : (ob_new S ki 2 2).2.1 (M + c) = 2 := by
    have := new_len S ki 2 2
    rw [hS] at this
    exact this
  have t2 := mi_new kj 4400 4400 hM t1 (by omega)
  have u2 : (ob_new (ob_new S ki 2 2) kj 4400 4400).2.1 (M + (c + 1)) = 4400 := by
    have := new_len (ob_new S ki 2 2) kj 4400 4400
    rw [hS1] at this
    exact this
  have t3 : mI S0 D0 M (ob_new (ob_new S ki 2 2) kj 4400 4400) (ob_pR (ob_z (ob_z D (M + c)) (M + (c + 1))) (M + c) 0 (M + (c + 1))) (c + 2) (s + 2 + 4400) l ((c, 0, c + 1) :: l2) e := by
    obtain ⟨h1, h2, h3, h4, h5, h6⟩ := t2
    refine ⟨h1, h2.tr (og.pR (by omega)), fun t ht => ?_, fun t ht => ?_, h5, h6⟩
    · obtain ⟨a1, a2, a3⟩ := h3 t ht
      exact ⟨by rw [pR_ne (by omega)]; exact a1, a2, a3⟩
    · rcases List.mem_cons.mp ht with rfl | ht
      · exact ⟨pR_self, u2, by show 0 < c; omega, by show c < c + 2; omega, by show c + 1 < c + 2; omega⟩
      · obtain ⟨a1, a2, a3, a4, a5⟩ := h4 t ht
        have hlt := (h.2.2.2.1 t ht).2.2.2.1
        exact ⟨by rw [pR_ne (by omega)]; exact a1, a2, a3, a4, a5⟩
  have t4 := mi_new kj 4400 4400 hM t3 (by omega)
  have n3 := nx.new (ob_new (ob_new S ki 2 2) kj 4400 4400) kj 4400 4400
  have u3 : (ob_new (ob_new (ob_new S ki 2 2) kj 4400 4400) kj 4400 4400).2.1 (M + (c + 2)) = 4400 := by
    have := new_len (ob_new (ob_new S ki 2 2) kj 4400 4400) kj 4400 4400
    rw [hS2] at this
    exact this
  have t5 : mI S0 D0 M (ob_new (ob_new (ob_new S ki 2 2) kj 4400 4400) kj 4400 4400) (ob_pR (ob_z (ob_pR (ob_z (ob_z D (M + c)) (M + (c + 1))) (M + c) 0 (M + (c + 1))) (M + (c + 2))) (M + c) 1 (M + (c + 2))) (c + 3) (s + (2 + 4400 + 4400)) l ((c, 0, c + 1) :: (c, 1, c + 2) :: l2) e := by
    obtain ⟨h1, h2, h3, h4, h5, h6⟩ := t4
    refine ⟨h1.eq rfl (by omega), h2.tr (og.pR (by omega)), fun t ht => ?_, fun t ht => ?_, h5, h6⟩
    · obtain ⟨a1, a2, a3⟩ := h3 t ht
      exact ⟨by rw [pR_ne (by omega)]; exact a1, a2, a3⟩
    · rcases List.mem_cons.mp ht with rfl | ht
      · obtain ⟨a1, a2, a3, a4, a5⟩ := h4 _ List.mem_cons_self
        exact ⟨by rw [pR_ne (by simp)]; exact a1, a2, a3, a4, a5⟩
      · rcases List.mem_cons.mp ht with rfl | ht
        · exact ⟨pR_self, u3, by show 0 < c; omega, by show c < c + 3; omega, by show c + 2 < c + 3; omega⟩
        · obtain ⟨a1, a2, a3, a4, a5⟩ := h4 t (List.mem_cons_of_mem _ ht)
          have hlt := (h.2.2.2.1 t ht).2.2.2.1
          exact ⟨by rw [pR_ne (by omega)]; exact a1, a2, a3, a4, a5⟩
  refine cont _ _ (mi_ref t5 (by omega) ?_ hk)
  rw [(n3.2.2 _ (by omega)).2, ((nx.new (ob_new S ki 2 2) kj 4400 4400).2.2 _ (by omega)).2]
  exact u1
theorem mi_L {M : Nat} {S : ob_S} (hl : S.2.1 (M + 28) = 32) : ∀ (d n i : Nat) (D : ob_D), i + d = 32 → d < n → D.2.1 M 60 = M + 28 → ∃ D', f_Model_init_L471 n M (N32 i) S D = some (S, D') ∧ oi (fun y _ => y = M + 28) D D' ∧ (∀ k, i ≤ k → k < 32 → D'.1 (M + 28) k = 1) ∧ ∀ k, k < i → D'.1 (M + 28) k = D.1 (M + 28) k := by
  intro d
  induction d with
  | zero =>
    intro n i D hi hn h0
    match n, hn with
    | n + 1, _ =>
      have hi' : i = 32 := by omega
      subst hi'
      refine ⟨D, ?_, oi.rf, fun k a b => absurd a (by omega), fun k _ => rfl⟩
      rw [f_Model_init_L471, if_pos (by decide)]
  | succ d ih =>
    intro n i D hi hn h0
    match n, hn with
    | n + 1, hn =>
      have e1 : N32 i + (1 : Int32) = N32 (i + 1) := nb_add _ 1
      have ea : ((1 : Int32) &&& 1) = 1 := by decide
      obtain ⟨D', b1, b2, b3, b4⟩ := ih n (i + 1) (ob_pI D (M + 28) i 1) (by omega) (by omega) h0
      refine ⟨D', ?_, (oi.pI (P := fun y _ => y = M + 28) rfl).tr b2, fun k a b => ?_, fun k a => ?_⟩
      · rw [f_Model_init_L471, if_neg (by rw [show (32 : Int32) = N32 32 from rfl, nb_le (by decide) (by omega)]; omega), h0, ob_gt_t (show M + 28 ≠ 0 by omega), hl, ob_gt_t (show ob_in (N32 i) 32 by rw [nb_in (by omega)]; omega)]
        simp only [ob_lt]
        rw [nb_clamp (by omega), e1, ea]
        exact b1
      · by_cases hk : k = i
        · rw [b4 k (by omega), hk]
          exact pI_self
        · exact b3 k (by omega) b
      · rw [b4 k (by omega), pI_ne (by omega)]
theorem ba_nil {D : ob_D} {b o : Nat} : ba D b o [] := ⟨fun i hi => absurd hi (Nat.not_lt_zero _), fun x hx => absurd hx List.not_mem_nil⟩
def mQ (S0 : ob_S) (D0 : ob_D) (M m fr F w pt : Nat) (me : List Nat) (S' : ob_S) (D' : ob_D) : Prop := mC S' D' M m fr F w pt (w_z0 me) [] ∧ nx S0 S' 50 87332 ∧ og (fun y _ => M ≤ y) D0 D'
def mL1 : List (Nat × Nat × Nat) := [(90, 49, 8), (87, 48, 1024), (86, 47, 2), (85, 44, 2), (84, 41, 2), (77, 40, 900), (76, 39, 900), (75, 38, 16384), (74, 37, 32), (73, 36, 8192), (69, 35, 512), (66, 34, 64), (65, 33, 64), (64, 32, 32), (63, 31, 8320), (62, 30, 32), (61, 29, 32), (60, 28, 32), (55, 27, 256), (54, 26, 256), (53, 25, 256), (52, 24, 256), (51, 23, 256), (50, 22, 256), (49, 21, 256), (48, 20, 256), (47, 19, 256), (44, 18, 16640), (43, 17, 64), (42, 16, 64), (39, 15, 8), (38, 14, 8), (37, 13, 4096), (35, 12, 2048), (34, 11, 256), (33, 10, 256), (32, 9, 256), (31, 8, 256), (27, 7, 260), (25, 6, 8), (24, 5, 2080), (18, 4, 63), (13, 3, 280), (11, 2, 64), (6, 1, 4096)]
def mL2 : List (Nat × Nat × Nat) := [(44, 0, 45), (44, 1, 46), (41, 0, 42), (41, 1, 43)]
def mE (m F fr pt w : Nat) : Nat → Int32 := me_p 4 (N32 w) (me_p 3 (N32 pt) (me_p 2 (N32 fr) (me_p 1 (N32 F) (me_p 0 (N32 m) (me_p 40 1 (me_p 19 1 (fun _ => 0)))))))
theorem mi_end {S0 : ob_S} {D0 : ob_D} {M : Nat} {S : ob_S} {D : ob_D} {m F fr pt w : Nat} {me : List Nat} (hzm : zm me) (hp1 : 1 ≤ pt) (hpt : pt ≤ 100) (hw : w ≤ 16384) (h : mI S0 D0 M S D 50 87332 mL1 mL2 (mE m F fr pt w)) : ∃ T U, f_Model_init_L471 ob_FU M (0 : Int32) S D = some (T, U) ∧ mQ S0 D0 M m fr F w pt me T U := by
  obtain ⟨h1, h2, h3, h4, h5, h6⟩ := h
  obtain ⟨D', b1, b2, b3, -⟩ := mi_L (M := M) (S := S) (h3 (60, 28, 32) (by decide)).2.1 32 ob_FU 0 D (by omega) (by decide) (h3 (60, 28, 32) (by decide)).1
  have hA : mA S D' M := by
    refine ⟨fun t ht => ?_, fun v hv => ?_⟩
    · have ht' : t ∈ mL1 := (by decide +kernel : ∀ t ∈ mtab, t ∈ mL1) t ht
      rw [b2.1]
      exact ⟨(h3 t ht').1, (h3 t ht').2.1⟩
    · rw [b2.1]
      rcases (show v = 0 ∨ v = 1 by omega) with e | e
      · subst e
        exact ⟨(h4 (41, 0, 42) (by decide)).1, (h4 (41, 0, 42) (by decide)).2.1, (h4 (44, 0, 45) (by decide)).1, (h4 (44, 0, 45) (by decide)).2.1⟩
      · subst e
        exact ⟨(h4 (41, 1, 43) (by decide)).1, (h4 (41, 1, 43) (by decide)).2.1, (h4 (44, 1, 46) (by decide)).1, (h4 (44, 1, 46) (by decide)).2.1⟩
  have hI : ∀ k, D'.1 M k = mE m F fr pt w k := fun k => (b2.2 M k (by omega)).trans (h5 k)
  have hz : ∀ o k, 0 < o → o < 50 → o ≠ 28 → D'.1 (M + o) k = 0 := fun o k u v x => (b2.2 (M + o) k (by omega)).trans (h6 (M + o) k (by omega) (by omega))
  have tA : ∀ t ∈ mtab, D'.2.1 M t.1 = M + t.2.1 ∧ S.2.1 (M + t.2.1) = t.2.2 := hA.1
  refine ⟨S, D', b1, ⟨⟨⟨[], ⟨hA, ⟨⟨(tA (24, 5, 2080) (by decide)).1, (tA (25, 6, 8) (by decide)).1, (tA (24, 5, 2080) (by decide)).2, (tA (25, 6, 8) (by decide)).2, hI 26, Nat.zero_le _, fun i hi => absurd hi (Nat.not_lt_zero _)⟩, ⟨hI 19, by decide, hI 20, by decide, hI 21, by decide, hI 22, hI 23, hI 16, hI 17⟩⟩, ⟨⟨(tA (11, 2, 64) (by decide)).1, (tA (13, 3, 280) (by decide)).1, (tA (18, 4, 63) (by decide)).1, (tA (11, 2, 64) (by decide)).2, (tA (13, 3, 280) (by decide)).2, (tA (18, 4, 63) (by decide)).2⟩, hI 8, hI 14, by decide, ba_nil, hI 15, hI 10, by decide, hI 9, by decide⟩, ⟨hI 45, Nat.zero_le _, fun i hi => absurd hi (Nat.not_lt_zero _), hI 46⟩, ⟨⟨hI 67, Nat.zero_le _, fun i hi => absurd hi (Nat.not_lt_zero _), fun p hp => absurd hp List.not_mem_nil⟩, fun i hi => ⟨b3 i (Nat.zero_le _) hi, hz 29 i (by decide) (by decide) (by decide), hz 30 i (by decide) (by decide) (by decide), fun hf => absurd hf Bool.false_ne_true⟩, hI 68⟩, ⟨hI 56, Nat.zero_le _, trivial, fun f hf => absurd hf List.not_mem_nil, fun k hk => hz 19 k (by decide) (by decide) (by decide), fun f hf => absurd hf List.not_mem_nil⟩, ⟨⟨⟨hz 47 0 (by decide) (by decide) (by decide), Nat.zero_le _, fun i hi => absurd hi (Nat.not_lt_zero _), fun x hx => absurd hx List.not_mem_nil⟩, ⟨hz 47 1 (by decide) (by decide) (by decide), Nat.zero_le _, fun i hi => absurd hi (Nat.not_lt_zero _), fun x hx => absurd hx List.not_mem_nil⟩, fun v hv => hz 49 v (by decide) (by decide) (by decide), hI 89⟩, Nat.zero_le _, Nat.zero_le _⟩, ⟨Nat.zero_le _, fun i hi => absurd hi (Nat.not_lt_zero _)⟩, ⟨⟨fun s hs => hz 37 s (by decide) (by decide) (by decide), fun s k hs hk => hz 36 _ (by decide) (by decide) (by decide)⟩, ⟨hI 4, hw, Nat.zero_le _, ba_nil, fun i hi => absurd hi (Nat.not_lt_zero _), hI 78, hI 79, hI 83, Nat.zero_le _, fun p hp => absurd hp List.not_mem_nil⟩, ⟨hI 71, hI 72, hI 80, hI 81, hI 82⟩⟩, ⟨fun i hi => ⟨hz 14 i (by decide) (by decide) (by decide), hz 15 i (by decide) (by decide) (by decide)⟩, hI 40, by decide, hI 41, hI 59, fun a ha => absurd ha (by simp), hI 29, hI 30, hI 57, hI 3, hp1, hpt⟩, ⟨hI 36, Nat.zero_le _, trivial, fun f hf => absurd hf List.not_mem_nil, fun k hk => hz 8 k (by decide) (by decide) (by decide), fun f hf => absurd hf List.not_mem_nil⟩, ⟨⟨fun i hi => ?_, hzm.2.2⟩, hzm.1⟩, hI 0, hI 1, hI 2, hI 88⟩, ⟨[], hI 70, Nat.zero_le _, ba_nil⟩, hI 28, Nat.zero_le _, ba_nil⟩, ba_nil, hI 7, Nat.zero_le _⟩, h1, h2.tr (b2.up.mono (fun y k e => by omega))⟩⟩
  · rw [hz 13 _ (by decide) (by decide) (by decide)]
    rw [hzm.2.1]
    decide
set_option maxHeartbeats 8000000 in
set_option maxRecDepth 20000 in
theorem ci_model {S : ob_S} {D : ob_D} {M m F fr pt w : Nat} {x1 x2 x3 x4 x5 : Int32} {me : List Nat} (hzm : zm me) (hM : S.2.2.1 = M) (hp1 : 1 ≤ pt) (hpt : pt ≤ 100) (hw : w ≤ 16384) (y1 : ∀ S D, f_Model_within S x1 1 64 D = some (N32 m, D)) (y2 : ∀ S D, f_Model_within S x2 64 256 D = some (N32 F, D)) (y3 : ∀ S D, f_Model_within S x3 1 4 D = some (N32 fr, D)) (y4 : ∀ S D, f_Model_within S x4 1 100 D = some (N32 pt, D)) (y5 : ∀ S D, f_Model_within S x5 64 16384 D = some (N32 w, D)) : ∃ S' D', f_Model_init M x1 x2 x3 x4 x5 (ob_new S 13 0 91) (ob_z D M) = some (S', D') ∧ mQ S D M m fr F w pt me S' D' := by
  have h0 : mI S D M (ob_new S 13 0 91) (ob_z D M) 1 91 [] [] (fun _ => 0) := mi_0 hM
  generalize ob_new S 13 0 91 = S0 at h0 ⊢
  generalize ob_z D M = D0 at h0 ⊢
  unfold f_Model_init
  refine mi_arr (n := 4096) hM h0 (by decide) (by decide) (by decide) (fun S1 D1 (h1 : mI S D M S1 D1 2 4187 [(6, 1, 4096)] [] (fun _ => 0)) => ?_)
  refine mi_arr (n := 64) hM h1 (by decide) (by decide) (by decide) (fun S2 D2 (h2 : mI S D M S2 D2 3 4251 [(11, 2, 64), (6, 1, 4096)] [] (fun _ => 0)) => ?_)
  refine mi_arr (n := 280) hM h2 (by decide) (by decide) (by decide) (fun S3 D3 (h3 : mI S D M S3 D3 4 4531 [(13, 3, 280), (11, 2, 64), (6, 1, 4096)] [] (fun _ => 0)) => ?_)
  refine mi_arr (n := 63) hM h3 (by decide) (by decide) (by decide) (fun S4 D4 (h4 : mI S D M S4 D4 5 4594 [(18, 4, 63), (13, 3, 280), (11, 2, 64), (6, 1, 4096)] [] (fun _ => 0)) => ?_)
  refine mi_pI h4 (fun D5 (h5 : mI S D M S4 D5 5 4594 [(18, 4, 63), (13, 3, 280), (11, 2, 64), (6, 1, 4096)] [] (me_p 19 1 (fun _ => 0))) => ?_)
  refine mi_arr (n := 2080) hM h5 (by decide) (by decide) (by decide) (fun S6 D6 (h6 : mI S D M S6 D6 6 6674 [(24, 5, 2080), (18, 4, 63), (13, 3, 280), (11, 2, 64), (6, 1, 4096)] [] (me_p 19 1 (fun _ => 0))) => ?_)
  refine mi_arr (n := 8) hM h6 (by decide) (by decide) (by decide) (fun S7 D7 (h7 : mI S D M S7 D7 7 6682 [(25, 6, 8), (24, 5, 2080), (18, 4, 63), (13, 3, 280), (11, 2, 64), (6, 1, 4096)] [] (me_p 19 1 (fun _ => 0))) => ?_)
  refine mi_arr (n := 260) hM h7 (by decide) (by decide) (by decide) (fun S8 D8 (h8 : mI S D M S8 D8 8 6942 [(27, 7, 260), (25, 6, 8), (24, 5, 2080), (18, 4, 63), (13, 3, 280), (11, 2, 64), (6, 1, 4096)] [] (me_p 19 1 (fun _ => 0))) => ?_)
  refine mi_arr (n := 256) hM h8 (by decide) (by decide) (by decide) (fun S9 D9 (h9 : mI S D M S9 D9 9 7198 [(31, 8, 256), (27, 7, 260), (25, 6, 8), (24, 5, 2080), (18, 4, 63), (13, 3, 280), (11, 2, 64), (6, 1, 4096)] [] (me_p 19 1 (fun _ => 0))) => ?_)
  refine mi_arr (n := 256) hM h9 (by decide) (by decide) (by decide) (fun S10 D10 (h10 : mI S D M S10 D10 10 7454 [(32, 9, 256), (31, 8, 256), (27, 7, 260), (25, 6, 8), (24, 5, 2080), (18, 4, 63), (13, 3, 280), (11, 2, 64), (6, 1, 4096)] [] (me_p 19 1 (fun _ => 0))) => ?_)
  refine mi_arr (n := 256) hM h10 (by decide) (by decide) (by decide) (fun S11 D11 (h11 : mI S D M S11 D11 11 7710 [(33, 10, 256), (32, 9, 256), (31, 8, 256), (27, 7, 260), (25, 6, 8), (24, 5, 2080), (18, 4, 63), (13, 3, 280), (11, 2, 64), (6, 1, 4096)] [] (me_p 19 1 (fun _ => 0))) => ?_)
  refine mi_arr (n := 256) hM h11 (by decide) (by decide) (by decide) (fun S12 D12 (h12 : mI S D M S12 D12 12 7966 [(34, 11, 256), (33, 10, 256), (32, 9, 256), (31, 8, 256), (27, 7, 260), (25, 6, 8), (24, 5, 2080), (18, 4, 63), (13, 3, 280), (11, 2, 64), (6, 1, 4096)] [] (me_p 19 1 (fun _ => 0))) => ?_)
  refine mi_arr (n := 2048) hM h12 (by decide) (by decide) (by decide) (fun S13 D13 (h13 : mI S D M S13 D13 13 10014 [(35, 12, 2048), (34, 11, 256), (33, 10, 256), (32, 9, 256), (31, 8, 256), (27, 7, 260), (25, 6, 8), (24, 5, 2080), (18, 4, 63), (13, 3, 280), (11, 2, 64), (6, 1, 4096)] [] (me_p 19 1 (fun _ => 0))) => ?_)
  refine mi_arr (n := 4096) hM h13 (by decide) (by decide) (by decide) (fun S14 D14 (h14 : mI S D M S14 D14 14 14110 [(37, 13, 4096), (35, 12, 2048), (34, 11, 256), (33, 10, 256), (32, 9, 256), (31, 8, 256), (27, 7, 260), (25, 6, 8), (24, 5, 2080), (18, 4, 63), (13, 3, 280), (11, 2, 64), (6, 1, 4096)] [] (me_p 19 1 (fun _ => 0))) => ?_)
  refine mi_arr (n := 8) hM h14 (by decide) (by decide) (by decide) (fun S15 D15 (h15 : mI S D M S15 D15 15 14118 [(38, 14, 8), (37, 13, 4096), (35, 12, 2048), (34, 11, 256), (33, 10, 256), (32, 9, 256), (31, 8, 256), (27, 7, 260), (25, 6, 8), (24, 5, 2080), (18, 4, 63), (13, 3, 280), (11, 2, 64), (6, 1, 4096)] [] (me_p 19 1 (fun _ => 0))) => ?_)
  refine mi_arr (n := 8) hM h15 (by decide) (by decide) (by decide) (fun S16 D16 (h16 : mI S D M S16 D16 16 14126 [(39, 15, 8), (38, 14, 8), (37, 13, 4096), (35, 12, 2048), (34, 11, 256), (33, 10, 256), (32, 9, 256), (31, 8, 256), (27, 7, 260), (25, 6, 8), (24, 5, 2080), (18, 4, 63), (13, 3, 280), (11, 2, 64), (6, 1, 4096)] [] (me_p 19 1 (fun _ => 0))) => ?_)
  refine mi_pI h16 (fun D17 (h17 : mI S D M S16 D17 16 14126 [(39, 15, 8), (38, 14, 8), (37, 13, 4096), (35, 12, 2048), (34, 11, 256), (33, 10, 256), (32, 9, 256), (31, 8, 256), (27, 7, 260), (25, 6, 8), (24, 5, 2080), (18, 4, 63), (13, 3, 280), (11, 2, 64), (6, 1, 4096)] [] (me_p 40 1 (me_p 19 1 (fun _ => 0)))) => ?_)
  refine mi_arr (n := 64) hM h17 (by decide) (by decide) (by decide) (fun S18 D18 (h18 : mI S D M S18 D18 17 14190 [(42, 16, 64), (39, 15, 8), (38, 14, 8), (37, 13, 4096), (35, 12, 2048), (34, 11, 256), (33, 10, 256), (32, 9, 256), (31, 8, 256), (27, 7, 260), (25, 6, 8), (24, 5, 2080), (18, 4, 63), (13, 3, 280), (11, 2, 64), (6, 1, 4096)] [] (me_p 40 1 (me_p 19 1 (fun _ => 0)))) => ?_)
  refine mi_arr (n := 64) hM h18 (by decide) (by decide) (by decide) (fun S19 D19 (h19 : mI S D M S19 D19 18 14254 [(43, 17, 64), (42, 16, 64), (39, 15, 8), (38, 14, 8), (37, 13, 4096), (35, 12, 2048), (34, 11, 256), (33, 10, 256), (32, 9, 256), (31, 8, 256), (27, 7, 260), (25, 6, 8), (24, 5, 2080), (18, 4, 63), (13, 3, 280), (11, 2, 64), (6, 1, 4096)] [] (me_p 40 1 (me_p 19 1 (fun _ => 0)))) => ?_)
  refine mi_arr (n := 16640) hM h19 (by decide) (by decide) (by decide) (fun S20 D20 (h20 : mI S D M S20 D20 19 30894 [(44, 18, 16640), (43, 17, 64), (42, 16, 64), (39, 15, 8), (38, 14, 8), (37, 13, 4096), (35, 12, 2048), (34, 11, 256), (33, 10, 256), (32, 9, 256), (31, 8, 256), (27, 7, 260), (25, 6, 8), (24, 5, 2080), (18, 4, 63), (13, 3, 280), (11, 2, 64), (6, 1, 4096)] [] (me_p 40 1 (me_p 19 1 (fun _ => 0)))) => ?_)
  refine mi_arr (n := 256) hM h20 (by decide) (by decide) (by decide) (fun S21 D21 (h21 : mI S D M S21 D21 20 31150 [(47, 19, 256), (44, 18, 16640), (43, 17, 64), (42, 16, 64), (39, 15, 8), (38, 14, 8), (37, 13, 4096), (35, 12, 2048), (34, 11, 256), (33, 10, 256), (32, 9, 256), (31, 8, 256), (27, 7, 260), (25, 6, 8), (24, 5, 2080), (18, 4, 63), (13, 3, 280), (11, 2, 64), (6, 1, 4096)] [] (me_p 40 1 (me_p 19 1 (fun _ => 0)))) => ?_)
  refine mi_arr (n := 256) hM h21 (by decide) (by decide) (by decide) (fun S22 D22 (h22 : mI S D M S22 D22 21 31406 [(48, 20, 256), (47, 19, 256), (44, 18, 16640), (43, 17, 64), (42, 16, 64), (39, 15, 8), (38, 14, 8), (37, 13, 4096), (35, 12, 2048), (34, 11, 256), (33, 10, 256), (32, 9, 256), (31, 8, 256), (27, 7, 260), (25, 6, 8), (24, 5, 2080), (18, 4, 63), (13, 3, 280), (11, 2, 64), (6, 1, 4096)] [] (me_p 40 1 (me_p 19 1 (fun _ => 0)))) => ?_)
  refine mi_arr (n := 256) hM h22 (by decide) (by decide) (by decide) (fun S23 D23 (h23 : mI S D M S23 D23 22 31662 [(49, 21, 256), (48, 20, 256), (47, 19, 256), (44, 18, 16640), (43, 17, 64), (42, 16, 64), (39, 15, 8), (38, 14, 8), (37, 13, 4096), (35, 12, 2048), (34, 11, 256), (33, 10, 256), (32, 9, 256), (31, 8, 256), (27, 7, 260), (25, 6, 8), (24, 5, 2080), (18, 4, 63), (13, 3, 280), (11, 2, 64), (6, 1, 4096)] [] (me_p 40 1 (me_p 19 1 (fun _ => 0)))) => ?_)
  refine mi_arr (n := 256) hM h23 (by decide) (by decide) (by decide) (fun S24 D24 (h24 : mI S D M S24 D24 23 31918 [(50, 22, 256), (49, 21, 256), (48, 20, 256), (47, 19, 256), (44, 18, 16640), (43, 17, 64), (42, 16, 64), (39, 15, 8), (38, 14, 8), (37, 13, 4096), (35, 12, 2048), (34, 11, 256), (33, 10, 256), (32, 9, 256), (31, 8, 256), (27, 7, 260), (25, 6, 8), (24, 5, 2080), (18, 4, 63), (13, 3, 280), (11, 2, 64), (6, 1, 4096)] [] (me_p 40 1 (me_p 19 1 (fun _ => 0)))) => ?_)
  refine mi_arr (n := 256) hM h24 (by decide) (by decide) (by decide) (fun S25 D25 (h25 : mI S D M S25 D25 24 32174 [(51, 23, 256), (50, 22, 256), (49, 21, 256), (48, 20, 256), (47, 19, 256), (44, 18, 16640), (43, 17, 64), (42, 16, 64), (39, 15, 8), (38, 14, 8), (37, 13, 4096), (35, 12, 2048), (34, 11, 256), (33, 10, 256), (32, 9, 256), (31, 8, 256), (27, 7, 260), (25, 6, 8), (24, 5, 2080), (18, 4, 63), (13, 3, 280), (11, 2, 64), (6, 1, 4096)] [] (me_p 40 1 (me_p 19 1 (fun _ => 0)))) => ?_)
  refine mi_arr (n := 256) hM h25 (by decide) (by decide) (by decide) (fun S26 D26 (h26 : mI S D M S26 D26 25 32430 [(52, 24, 256), (51, 23, 256), (50, 22, 256), (49, 21, 256), (48, 20, 256), (47, 19, 256), (44, 18, 16640), (43, 17, 64), (42, 16, 64), (39, 15, 8), (38, 14, 8), (37, 13, 4096), (35, 12, 2048), (34, 11, 256), (33, 10, 256), (32, 9, 256), (31, 8, 256), (27, 7, 260), (25, 6, 8), (24, 5, 2080), (18, 4, 63), (13, 3, 280), (11, 2, 64), (6, 1, 4096)] [] (me_p 40 1 (me_p 19 1 (fun _ => 0)))) => ?_)
  refine mi_arr (n := 256) hM h26 (by decide) (by decide) (by decide) (fun S27 D27 (h27 : mI S D M S27 D27 26 32686 [(53, 25, 256), (52, 24, 256), (51, 23, 256), (50, 22, 256), (49, 21, 256), (48, 20, 256), (47, 19, 256), (44, 18, 16640), (43, 17, 64), (42, 16, 64), (39, 15, 8), (38, 14, 8), (37, 13, 4096), (35, 12, 2048), (34, 11, 256), (33, 10, 256), (32, 9, 256), (31, 8, 256), (27, 7, 260), (25, 6, 8), (24, 5, 2080), (18, 4, 63), (13, 3, 280), (11, 2, 64), (6, 1, 4096)] [] (me_p 40 1 (me_p 19 1 (fun _ => 0)))) => ?_)
  refine mi_arr (n := 256) hM h27 (by decide) (by decide) (by decide) (fun S28 D28 (h28 : mI S D M S28 D28 27 32942 [(54, 26, 256), (53, 25, 256), (52, 24, 256), (51, 23, 256), (50, 22, 256), (49, 21, 256), (48, 20, 256), (47, 19, 256), (44, 18, 16640), (43, 17, 64), (42, 16, 64), (39, 15, 8), (38, 14, 8), (37, 13, 4096), (35, 12, 2048), (34, 11, 256), (33, 10, 256), (32, 9, 256), (31, 8, 256), (27, 7, 260), (25, 6, 8), (24, 5, 2080), (18, 4, 63), (13, 3, 280), (11, 2, 64), (6, 1, 4096)] [] (me_p 40 1 (me_p 19 1 (fun _ => 0)))) => ?_)
  refine mi_arr (n := 256) hM h28 (by decide) (by decide) (by decide) (fun S29 D29 (h29 : mI S D M S29 D29 28 33198 [(55, 27, 256), (54, 26, 256), (53, 25, 256), (52, 24, 256), (51, 23, 256), (50, 22, 256), (49, 21, 256), (48, 20, 256), (47, 19, 256), (44, 18, 16640), (43, 17, 64), (42, 16, 64), (39, 15, 8), (38, 14, 8), (37, 13, 4096), (35, 12, 2048), (34, 11, 256), (33, 10, 256), (32, 9, 256), (31, 8, 256), (27, 7, 260), (25, 6, 8), (24, 5, 2080), (18, 4, 63), (13, 3, 280), (11, 2, 64), (6, 1, 4096)] [] (me_p 40 1 (me_p 19 1 (fun _ => 0)))) => ?_)
  refine mi_arr (n := 32) hM h29 (by decide) (by decide) (by decide) (fun S30 D30 (h30 : mI S D M S30 D30 29 33230 [(60, 28, 32), (55, 27, 256), (54, 26, 256), (53, 25, 256), (52, 24, 256), (51, 23, 256), (50, 22, 256), (49, 21, 256), (48, 20, 256), (47, 19, 256), (44, 18, 16640), (43, 17, 64), (42, 16, 64), (39, 15, 8), (38, 14, 8), (37, 13, 4096), (35, 12, 2048), (34, 11, 256), (33, 10, 256), (32, 9, 256), (31, 8, 256), (27, 7, 260), (25, 6, 8), (24, 5, 2080), (18, 4, 63), (13, 3, 280), (11, 2, 64), (6, 1, 4096)] [] (me_p 40 1 (me_p 19 1 (fun _ => 0)))) => ?_)
  refine mi_arr (n := 32) hM h30 (by decide) (by decide) (by decide) (fun S31 D31 (h31 : mI S D M S31 D31 30 33262 [(61, 29, 32), (60, 28, 32), (55, 27, 256), (54, 26, 256), (53, 25, 256), (52, 24, 256), (51, 23, 256), (50, 22, 256), (49, 21, 256), (48, 20, 256), (47, 19, 256), (44, 18, 16640), (43, 17, 64), (42, 16, 64), (39, 15, 8), (38, 14, 8), (37, 13, 4096), (35, 12, 2048), (34, 11, 256), (33, 10, 256), (32, 9, 256), (31, 8, 256), (27, 7, 260), (25, 6, 8), (24, 5, 2080), (18, 4, 63), (13, 3, 280), (11, 2, 64), (6, 1, 4096)] [] (me_p 40 1 (me_p 19 1 (fun _ => 0)))) => ?_)
  refine mi_arr (n := 32) hM h31 (by decide) (by decide) (by decide) (fun S32 D32 (h32 : mI S D M S32 D32 31 33294 [(62, 30, 32), (61, 29, 32), (60, 28, 32), (55, 27, 256), (54, 26, 256), (53, 25, 256), (52, 24, 256), (51, 23, 256), (50, 22, 256), (49, 21, 256), (48, 20, 256), (47, 19, 256), (44, 18, 16640), (43, 17, 64), (42, 16, 64), (39, 15, 8), (38, 14, 8), (37, 13, 4096), (35, 12, 2048), (34, 11, 256), (33, 10, 256), (32, 9, 256), (31, 8, 256), (27, 7, 260), (25, 6, 8), (24, 5, 2080), (18, 4, 63), (13, 3, 280), (11, 2, 64), (6, 1, 4096)] [] (me_p 40 1 (me_p 19 1 (fun _ => 0)))) => ?_)
  refine mi_arr (n := 8320) hM h32 (by decide) (by decide) (by decide) (fun S33 D33 (h33 : mI S D M S33 D33 32 41614 [(63, 31, 8320), (62, 30, 32), (61, 29, 32), (60, 28, 32), (55, 27, 256), (54, 26, 256), (53, 25, 256), (52, 24, 256), (51, 23, 256), (50, 22, 256), (49, 21, 256), (48, 20, 256), (47, 19, 256), (44, 18, 16640), (43, 17, 64), (42, 16, 64), (39, 15, 8), (38, 14, 8), (37, 13, 4096), (35, 12, 2048), (34, 11, 256), (33, 10, 256), (32, 9, 256), (31, 8, 256), (27, 7, 260), (25, 6, 8), (24, 5, 2080), (18, 4, 63), (13, 3, 280), (11, 2, 64), (6, 1, 4096)] [] (me_p 40 1 (me_p 19 1 (fun _ => 0)))) => ?_)
  refine mi_arr (n := 32) hM h33 (by decide) (by decide) (by decide) (fun S34 D34 (h34 : mI S D M S34 D34 33 41646 [(64, 32, 32), (63, 31, 8320), (62, 30, 32), (61, 29, 32), (60, 28, 32), (55, 27, 256), (54, 26, 256), (53, 25, 256), (52, 24, 256), (51, 23, 256), (50, 22, 256), (49, 21, 256), (48, 20, 256), (47, 19, 256), (44, 18, 16640), (43, 17, 64), (42, 16, 64), (39, 15, 8), (38, 14, 8), (37, 13, 4096), (35, 12, 2048), (34, 11, 256), (33, 10, 256), (32, 9, 256), (31, 8, 256), (27, 7, 260), (25, 6, 8), (24, 5, 2080), (18, 4, 63), (13, 3, 280), (11, 2, 64), (6, 1, 4096)] [] (me_p 40 1 (me_p 19 1 (fun _ => 0)))) => ?_)
  refine mi_arr (n := 64) hM h34 (by decide) (by decide) (by decide) (fun S35 D35 (h35 : mI S D M S35 D35 34 41710 [(65, 33, 64), (64, 32, 32), (63, 31, 8320), (62, 30, 32), (61, 29, 32), (60, 28, 32), (55, 27, 256), (54, 26, 256), (53, 25, 256), (52, 24, 256), (51, 23, 256), (50, 22, 256), (49, 21, 256), (48, 20, 256), (47, 19, 256), (44, 18, 16640), (43, 17, 64), (42, 16, 64), (39, 15, 8), (38, 14, 8), (37, 13, 4096), (35, 12, 2048), (34, 11, 256), (33, 10, 256), (32, 9, 256), (31, 8, 256), (27, 7, 260), (25, 6, 8), (24, 5, 2080), (18, 4, 63), (13, 3, 280), (11, 2, 64), (6, 1, 4096)] [] (me_p 40 1 (me_p 19 1 (fun _ => 0)))) => ?_)
  refine mi_arr (n := 64) hM h35 (by decide) (by decide) (by decide) (fun S36 D36 (h36 : mI S D M S36 D36 35 41774 [(66, 34, 64), (65, 33, 64), (64, 32, 32), (63, 31, 8320), (62, 30, 32), (61, 29, 32), (60, 28, 32), (55, 27, 256), (54, 26, 256), (53, 25, 256), (52, 24, 256), (51, 23, 256), (50, 22, 256), (49, 21, 256), (48, 20, 256), (47, 19, 256), (44, 18, 16640), (43, 17, 64), (42, 16, 64), (39, 15, 8), (38, 14, 8), (37, 13, 4096), (35, 12, 2048), (34, 11, 256), (33, 10, 256), (32, 9, 256), (31, 8, 256), (27, 7, 260), (25, 6, 8), (24, 5, 2080), (18, 4, 63), (13, 3, 280), (11, 2, 64), (6, 1, 4096)] [] (me_p 40 1 (me_p 19 1 (fun _ => 0)))) => ?_)
  refine mi_arr (n := 512) hM h36 (by decide) (by decide) (by decide) (fun S37 D37 (h37 : mI S D M S37 D37 36 42286 [(69, 35, 512), (66, 34, 64), (65, 33, 64), (64, 32, 32), (63, 31, 8320), (62, 30, 32), (61, 29, 32), (60, 28, 32), (55, 27, 256), (54, 26, 256), (53, 25, 256), (52, 24, 256), (51, 23, 256), (50, 22, 256), (49, 21, 256), (48, 20, 256), (47, 19, 256), (44, 18, 16640), (43, 17, 64), (42, 16, 64), (39, 15, 8), (38, 14, 8), (37, 13, 4096), (35, 12, 2048), (34, 11, 256), (33, 10, 256), (32, 9, 256), (31, 8, 256), (27, 7, 260), (25, 6, 8), (24, 5, 2080), (18, 4, 63), (13, 3, 280), (11, 2, 64), (6, 1, 4096)] [] (me_p 40 1 (me_p 19 1 (fun _ => 0)))) => ?_)
  refine mi_arr (n := 8192) hM h37 (by decide) (by decide) (by decide) (fun S38 D38 (h38 : mI S D M S38 D38 37 50478 [(73, 36, 8192), (69, 35, 512), (66, 34, 64), (65, 33, 64), (64, 32, 32), (63, 31, 8320), (62, 30, 32), (61, 29, 32), (60, 28, 32), (55, 27, 256), (54, 26, 256), (53, 25, 256), (52, 24, 256), (51, 23, 256), (50, 22, 256), (49, 21, 256), (48, 20, 256), (47, 19, 256), (44, 18, 16640), (43, 17, 64), (42, 16, 64), (39, 15, 8), (38, 14, 8), (37, 13, 4096), (35, 12, 2048), (34, 11, 256), (33, 10, 256), (32, 9, 256), (31, 8, 256), (27, 7, 260), (25, 6, 8), (24, 5, 2080), (18, 4, 63), (13, 3, 280), (11, 2, 64), (6, 1, 4096)] [] (me_p 40 1 (me_p 19 1 (fun _ => 0)))) => ?_)
  refine mi_arr (n := 32) hM h38 (by decide) (by decide) (by decide) (fun S39 D39 (h39 : mI S D M S39 D39 38 50510 [(74, 37, 32), (73, 36, 8192), (69, 35, 512), (66, 34, 64), (65, 33, 64), (64, 32, 32), (63, 31, 8320), (62, 30, 32), (61, 29, 32), (60, 28, 32), (55, 27, 256), (54, 26, 256), (53, 25, 256), (52, 24, 256), (51, 23, 256), (50, 22, 256), (49, 21, 256), (48, 20, 256), (47, 19, 256), (44, 18, 16640), (43, 17, 64), (42, 16, 64), (39, 15, 8), (38, 14, 8), (37, 13, 4096), (35, 12, 2048), (34, 11, 256), (33, 10, 256), (32, 9, 256), (31, 8, 256), (27, 7, 260), (25, 6, 8), (24, 5, 2080), (18, 4, 63), (13, 3, 280), (11, 2, 64), (6, 1, 4096)] [] (me_p 40 1 (me_p 19 1 (fun _ => 0)))) => ?_)
  refine mi_arr (n := 16384) hM h39 (by decide) (by decide) (by decide) (fun S40 D40 (h40 : mI S D M S40 D40 39 66894 [(75, 38, 16384), (74, 37, 32), (73, 36, 8192), (69, 35, 512), (66, 34, 64), (65, 33, 64), (64, 32, 32), (63, 31, 8320), (62, 30, 32), (61, 29, 32), (60, 28, 32), (55, 27, 256), (54, 26, 256), (53, 25, 256), (52, 24, 256), (51, 23, 256), (50, 22, 256), (49, 21, 256), (48, 20, 256), (47, 19, 256), (44, 18, 16640), (43, 17, 64), (42, 16, 64), (39, 15, 8), (38, 14, 8), (37, 13, 4096), (35, 12, 2048), (34, 11, 256), (33, 10, 256), (32, 9, 256), (31, 8, 256), (27, 7, 260), (25, 6, 8), (24, 5, 2080), (18, 4, 63), (13, 3, 280), (11, 2, 64), (6, 1, 4096)] [] (me_p 40 1 (me_p 19 1 (fun _ => 0)))) => ?_)
  refine mi_arr (n := 900) hM h40 (by decide) (by decide) (by decide) (fun S41 D41 (h41 : mI S D M S41 D41 40 67794 [(76, 39, 900), (75, 38, 16384), (74, 37, 32), (73, 36, 8192), (69, 35, 512), (66, 34, 64), (65, 33, 64), (64, 32, 32), (63, 31, 8320), (62, 30, 32), (61, 29, 32), (60, 28, 32), (55, 27, 256), (54, 26, 256), (53, 25, 256), (52, 24, 256), (51, 23, 256), (50, 22, 256), (49, 21, 256), (48, 20, 256), (47, 19, 256), (44, 18, 16640), (43, 17, 64), (42, 16, 64), (39, 15, 8), (38, 14, 8), (37, 13, 4096), (35, 12, 2048), (34, 11, 256), (33, 10, 256), (32, 9, 256), (31, 8, 256), (27, 7, 260), (25, 6, 8), (24, 5, 2080), (18, 4, 63), (13, 3, 280), (11, 2, 64), (6, 1, 4096)] [] (me_p 40 1 (me_p 19 1 (fun _ => 0)))) => ?_)
  refine mi_arr (n := 900) hM h41 (by decide) (by decide) (by decide) (fun S42 D42 (h42 : mI S D M S42 D42 41 68694 [(77, 40, 900), (76, 39, 900), (75, 38, 16384), (74, 37, 32), (73, 36, 8192), (69, 35, 512), (66, 34, 64), (65, 33, 64), (64, 32, 32), (63, 31, 8320), (62, 30, 32), (61, 29, 32), (60, 28, 32), (55, 27, 256), (54, 26, 256), (53, 25, 256), (52, 24, 256), (51, 23, 256), (50, 22, 256), (49, 21, 256), (48, 20, 256), (47, 19, 256), (44, 18, 16640), (43, 17, 64), (42, 16, 64), (39, 15, 8), (38, 14, 8), (37, 13, 4096), (35, 12, 2048), (34, 11, 256), (33, 10, 256), (32, 9, 256), (31, 8, 256), (27, 7, 260), (25, 6, 8), (24, 5, 2080), (18, 4, 63), (13, 3, 280), (11, 2, 64), (6, 1, 4096)] [] (me_p 40 1 (me_p 19 1 (fun _ => 0)))) => ?_)
  refine mi_two (n := 4400) hM h42 (by decide) (by decide) (by decide) (fun S43 D43 (h43 : mI S D M S43 D43 44 77496 [(84, 41, 2), (77, 40, 900), (76, 39, 900), (75, 38, 16384), (74, 37, 32), (73, 36, 8192), (69, 35, 512), (66, 34, 64), (65, 33, 64), (64, 32, 32), (63, 31, 8320), (62, 30, 32), (61, 29, 32), (60, 28, 32), (55, 27, 256), (54, 26, 256), (53, 25, 256), (52, 24, 256), (51, 23, 256), (50, 22, 256), (49, 21, 256), (48, 20, 256), (47, 19, 256), (44, 18, 16640), (43, 17, 64), (42, 16, 64), (39, 15, 8), (38, 14, 8), (37, 13, 4096), (35, 12, 2048), (34, 11, 256), (33, 10, 256), (32, 9, 256), (31, 8, 256), (27, 7, 260), (25, 6, 8), (24, 5, 2080), (18, 4, 63), (13, 3, 280), (11, 2, 64), (6, 1, 4096)] [(41, 0, 42), (41, 1, 43)] (me_p 40 1 (me_p 19 1 (fun _ => 0)))) => ?_)
  refine mi_two (n := 4400) hM h43 (by decide) (by decide) (by decide) (fun S44 D44 (h44 : mI S D M S44 D44 47 86298 [(85, 44, 2), (84, 41, 2), (77, 40, 900), (76, 39, 900), (75, 38, 16384), (74, 37, 32), (73, 36, 8192), (69, 35, 512), (66, 34, 64), (65, 33, 64), (64, 32, 32), (63, 31, 8320), (62, 30, 32), (61, 29, 32), (60, 28, 32), (55, 27, 256), (54, 26, 256), (53, 25, 256), (52, 24, 256), (51, 23, 256), (50, 22, 256), (49, 21, 256), (48, 20, 256), (47, 19, 256), (44, 18, 16640), (43, 17, 64), (42, 16, 64), (39, 15, 8), (38, 14, 8), (37, 13, 4096), (35, 12, 2048), (34, 11, 256), (33, 10, 256), (32, 9, 256), (31, 8, 256), (27, 7, 260), (25, 6, 8), (24, 5, 2080), (18, 4, 63), (13, 3, 280), (11, 2, 64), (6, 1, 4096)] [(44, 0, 45), (44, 1, 46), (41, 0, 42), (41, 1, 43)] (me_p 40 1 (me_p 19 1 (fun _ => 0)))) => ?_)
  refine mi_arr (n := 2) hM h44 (by decide) (by decide) (by decide) (fun S45 D45 (h45 : mI S D M S45 D45 48 86300 [(86, 47, 2), (85, 44, 2), (84, 41, 2), (77, 40, 900), (76, 39, 900), (75, 38, 16384), (74, 37, 32), (73, 36, 8192), (69, 35, 512), (66, 34, 64), (65, 33, 64), (64, 32, 32), (63, 31, 8320), (62, 30, 32), (61, 29, 32), (60, 28, 32), (55, 27, 256), (54, 26, 256), (53, 25, 256), (52, 24, 256), (51, 23, 256), (50, 22, 256), (49, 21, 256), (48, 20, 256), (47, 19, 256), (44, 18, 16640), (43, 17, 64), (42, 16, 64), (39, 15, 8), (38, 14, 8), (37, 13, 4096), (35, 12, 2048), (34, 11, 256), (33, 10, 256), (32, 9, 256), (31, 8, 256), (27, 7, 260), (25, 6, 8), (24, 5, 2080), (18, 4, 63), (13, 3, 280), (11, 2, 64), (6, 1, 4096)] [(44, 0, 45), (44, 1, 46), (41, 0, 42), (41, 1, 43)] (me_p 40 1 (me_p 19 1 (fun _ => 0)))) => ?_)
  refine mi_arr (n := 1024) hM h45 (by decide) (by decide) (by decide) (fun S46 D46 (h46 : mI S D M S46 D46 49 87324 [(87, 48, 1024), (86, 47, 2), (85, 44, 2), (84, 41, 2), (77, 40, 900), (76, 39, 900), (75, 38, 16384), (74, 37, 32), (73, 36, 8192), (69, 35, 512), (66, 34, 64), (65, 33, 64), (64, 32, 32), (63, 31, 8320), (62, 30, 32), (61, 29, 32), (60, 28, 32), (55, 27, 256), (54, 26, 256), (53, 25, 256), (52, 24, 256), (51, 23, 256), (50, 22, 256), (49, 21, 256), (48, 20, 256), (47, 19, 256), (44, 18, 16640), (43, 17, 64), (42, 16, 64), (39, 15, 8), (38, 14, 8), (37, 13, 4096), (35, 12, 2048), (34, 11, 256), (33, 10, 256), (32, 9, 256), (31, 8, 256), (27, 7, 260), (25, 6, 8), (24, 5, 2080), (18, 4, 63), (13, 3, 280), (11, 2, 64), (6, 1, 4096)] [(44, 0, 45), (44, 1, 46), (41, 0, 42), (41, 1, 43)] (me_p 40 1 (me_p 19 1 (fun _ => 0)))) => ?_)
  refine mi_arr (n := 8) hM h46 (by decide) (by decide) (by decide) (fun S47 D47 (h47 : mI S D M S47 D47 50 87332 [(90, 49, 8), (87, 48, 1024), (86, 47, 2), (85, 44, 2), (84, 41, 2), (77, 40, 900), (76, 39, 900), (75, 38, 16384), (74, 37, 32), (73, 36, 8192), (69, 35, 512), (66, 34, 64), (65, 33, 64), (64, 32, 32), (63, 31, 8320), (62, 30, 32), (61, 29, 32), (60, 28, 32), (55, 27, 256), (54, 26, 256), (53, 25, 256), (52, 24, 256), (51, 23, 256), (50, 22, 256), (49, 21, 256), (48, 20, 256), (47, 19, 256), (44, 18, 16640), (43, 17, 64), (42, 16, 64), (39, 15, 8), (38, 14, 8), (37, 13, 4096), (35, 12, 2048), (34, 11, 256), (33, 10, 256), (32, 9, 256), (31, 8, 256), (27, 7, 260), (25, 6, 8), (24, 5, 2080), (18, 4, 63), (13, 3, 280), (11, 2, 64), (6, 1, 4096)] [(44, 0, 45), (44, 1, 46), (41, 0, 42), (41, 1, 43)] (me_p 40 1 (me_p 19 1 (fun _ => 0)))) => ?_)
  rw [bd_s (y1 _ _)]
  refine mi_pI h47 (fun D48 h48 => ?_)
  rw [bd_s (y2 _ _)]
  refine mi_pI h48 (fun D49 h49 => ?_)
  rw [bd_s (y3 _ _)]
  refine mi_pI h49 (fun D50 h50 => ?_)
  rw [bd_s (y4 _ _)]
  refine mi_pI h50 (fun D51 h51 => ?_)
  rw [bd_s (y5 _ _)]
  refine mi_pI h51 (fun D52 h52 => ?_)
  exact mi_end hzm hp1 hpt hw h52
