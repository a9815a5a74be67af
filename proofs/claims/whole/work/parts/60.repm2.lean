-- ===== the reference's reports =====
def mRpM (D : ob_D) (M : Nat) (sd : Nat → Bool) (md : Nat → Nat → Int32) : Prop := (∀ s, s < 32 → D.1 (M + 37) s = bI (sd s)) ∧ ∀ s k, s < 32 → k < 32 → D.1 (M + 36) (s * 256 + k) = md s k
def mRpS (D : ob_D) (M w : Nat) (st : List (List Nat)) (rc : Nat) : Prop := D.1 M 4 = N32 w ∧ w ≤ 16384 ∧ tot st ≤ w ∧ ba D (M + 38) 0 st.flatten ∧ (∀ i, i < st.length → D.1 (M + 39) i = N32 (st.getD i []).length ∧ D.1 (M + 40) i = N32 (nn (st.getD i []) 13 4)) ∧ D.1 M 78 = N32 st.length ∧ D.1 M 79 = N32 (tot st) ∧ D.1 M 83 = N32 rc ∧ rc ≤ st.length ∧ ∀ p ∈ st, pk_ok p
def mRpF (D : ob_D) (M : Nat) (all lo : Int32) (rt : Bool) (fr tt : Int32) : Prop := D.1 M 71 = all ∧ D.1 M 72 = lo ∧ D.1 M 80 = bI rt ∧ D.1 M 81 = fr ∧ D.1 M 82 = tt
def mRp (D : ob_D) (M w : Nat) : sRp → Prop
  | (st, sd, md, all, lo, rt, fr, tt, rc) => mRpM D M sd md ∧ mRpS D M w st rc ∧ mRpF D M all lo rt fr tt
def mRpP (M : Nat) : Nat → Nat → Prop := fun y k => (y = M ∧ (k = 71 ∨ k = 72 ∨ (78 ≤ k ∧ k ≤ 83))) ∨ (M + 36 ≤ y ∧ y ≤ M + 40)
theorem mRpM.keep {D D' : ob_D} {M : Nat} {sd : Nat → Bool} {md : Nat → Nat → Int32} {P : Nat → Nat → Prop} (h : mRpM D M sd md) (a : og P D D') (h0 : ∀ k, ¬ P (M + 36) k) (h1 : ∀ k, ¬ P (M + 37) k) : mRpM D' M sd md := ⟨fun s hs => by rw [(a _ _ (h1 _)).1]; exact h.1 s hs, fun s k hs hk => by rw [(a _ _ (h0 _)).1]; exact h.2 s k hs hk⟩
theorem mRpS.keep {D D' : ob_D} {M w : Nat} {st : List (List Nat)} {rc : Nat} {P : Nat → Nat → Prop} (h : mRpS D M w st rc) (a : og P D D') (h4 : ¬ P M 4) (h78 : ¬ P M 78) (h79 : ¬ P M 79) (h83 : ¬ P M 83) (h38 : ∀ k, ¬ P (M + 38) k) (h39 : ∀ k, ¬ P (M + 39) k) (h40 : ∀ k, ¬ P (M + 40) k) : mRpS D' M w st rc := by
  obtain ⟨s1, s2, s3, s4, s5, s6, s7, s8, s9, s10⟩ := h
  exact ⟨by rw [(a _ _ h4).1]; exact s1, s2, s3, s4.keep a (fun k _ _ => h38 k), fun i hi => by rw [(a _ _ (h39 _)).1, (a _ _ (h40 _)).1]; exact s5 i hi, by rw [(a _ _ h78).1]; exact s6, by rw [(a _ _ h79).1]; exact s7, by rw [(a _ _ h83).1]; exact s8, s9, s10⟩
theorem mRpF.keep {D D' : ob_D} {M : Nat} {all lo : Int32} {rt : Bool} {fr tt : Int32} {P : Nat → Nat → Prop} (h : mRpF D M all lo rt fr tt) (a : og P D D') (h71 : ¬ P M 71) (h72 : ¬ P M 72) (h80 : ¬ P M 80) (h81 : ¬ P M 81) (h82 : ¬ P M 82) : mRpF D' M all lo rt fr tt := by
  obtain ⟨f1, f2, f3, f4, f5⟩ := h
  exact ⟨by rw [(a _ _ h71).1]; exact f1, by rw [(a _ _ h72).1]; exact f2, by rw [(a _ _ h80).1]; exact f3, by rw [(a _ _ h81).1]; exact f4, by rw [(a _ _ h82).1]; exact f5⟩
theorem mRp.keep {D D' : ob_D} {M w : Nat} {z : sRp} {P : Nat → Nat → Prop} (h : mRp D M w z) (a : og P D D') (h4 : ¬ P M 4) (h0 : ∀ k, (k = 71 ∨ k = 72 ∨ (78 ≤ k ∧ k ≤ 83)) → ¬ P M k) (h1 : ∀ y k, M + 36 ≤ y → y ≤ M + 40 → ¬ P y k) : mRp D' M w z := by
  obtain ⟨st, sd, md, all, lo, rt, fr, tt, rc⟩ := z
  obtain ⟨hM, hS, hF⟩ := h
  exact ⟨hM.keep a (fun k => h1 _ _ (by omega) (by omega)) (fun k => h1 _ _ (by omega) (by omega)), hS.keep a h4 (h0 _ (by omega)) (h0 _ (by omega)) (h0 _ (by omega)) (fun k => h1 _ _ (by omega) (by omega)) (fun k => h1 _ _ (by omega) (by omega)) (fun k => h1 _ _ (by omega) (by omega)), hF.keep a (h0 _ (by omega)) (h0 _ (by omega)) (h0 _ (by omega)) (h0 _ (by omega)) (h0 _ (by omega))⟩
theorem rpm_begin {S : ob_S} {D : ob_D} {M w : Nat} {z : sRp} {p : List Nat} {clk : Int32} (hA : mA S D M) (h : mRp D M w z) (hp : mPk D M p) (hc : D.1 M 41 = clk) {s k : Nat} (hs : s < 32) (hk : k < 32) : ∃ D', f_Model_report S M (N32 s) (N32 k) D = some D' ∧ mRp D' M w (rp_begin s k z) ∧ mPk D' M (rp_head s k clk z) ∧ oi (fun y k => (y = M ∧ (k = 70 ∨ k = 71)) ∨ y = M + 35 ∨ y = M + 36) D D' := by
  obtain ⟨st, sd, md, all, lo, rt, fr, tt, rc⟩ := z
  obtain ⟨hM, hS, hF⟩ := h
  have a73 : D.2.1 M 73 = M + 36 ∧ S.2.1 (M + 36) = 8192 := hA.1 (73, 36, 8192) (by decide)
  obtain ⟨D1, hD1⟩ : ∃ x, x = ob_pI D M 70 (0 : Int32) := ⟨_, rfl⟩
  have g1 : oi (mPkP M) D D1 := hD1 ▸ oi.pI (Or.inl ⟨rfl, rfl⟩)
  have w1 : mPk D1 M [] := ⟨by rw [hD1, pI_self]; rfl, by decide, fun i hi => absurd hi (by simp), fun x hx => absurd hx (by simp)⟩
  obtain ⟨D2, p2, w2, k2⟩ := mpk_two (hA.kp g1) w1 2090 (by simp)
  have g2 := g1.tr k2
  obtain ⟨D4, p4, w4, k4⟩ := mpk_two (hA.kp g2) w2 (49152 ||| (all - all / 16384 * 16384)) (by simp only [List.length_append, by_be_len, List.length_nil]; omega)
  have g4 := g2.tr k4
  obtain ⟨D6, p6, w6, k6⟩ := mpk_two (hA.kp g4) w4 0 (by simp only [List.length_append, by_be_len, List.length_nil]; omega)
  have g6 := g4.tr k6
  obtain ⟨D8, p8, w8, k8⟩ := mpk_say (hA.kp g6) w6 32 (by simp only [List.length_append, by_be_len, List.length_nil]; omega)
  have g8 := g6.tr k8
  obtain ⟨D10, p10, w10, k10⟩ := mpk_say (hA.kp g8) w8 (N32 s) (by simp only [List.length_append, by_be_len, List.length_nil]; omega)
  have g10 := g8.tr k10
  obtain ⟨D12, p12, w12, k12⟩ := mpk_say (hA.kp g10) w10 (N32 k) (by simp only [List.length_append, by_be_len, List.length_nil]; omega)
  have g12 := g10.tr k12
  obtain ⟨D17, p17, w17, k17⟩ := mpk_two (hA.kp g12) w12 (md s k - md s k / 65536 * 65536) (by simp only [List.length_append, by_be_len, List.length_nil]; omega)
  have g17 := g12.tr k17
  obtain ⟨D19, p19, w19, k19⟩ := mpk_two (hA.kp g17) w17 0 (by simp only [List.length_append, by_be_len, List.length_nil]; omega)
  have g19 := g17.tr k19
  obtain ⟨D21, p21, w21, k21⟩ := mpk_four (hA.kp g19) w19 clk (by simp only [List.length_append, by_be_len, List.length_nil]; omega)
  have g21 := g19.tr k21
  have hP : ∀ {y j : Nat}, y ≠ M + 35 → ¬ (y = M ∧ j = 70) → ¬ mPkP M y j := fun h1 h2 e => e.elim h2 h1
  have c2 : D2.1 M 71 = all := by rw [g2.2 _ _ (hP (by omega) (by omega))]; exact hF.1
  have c12 : D12.1 (M + 36) (s * 256 + k) = md s k := by rw [g12.2 _ _ (hP (by omega) (by omega))]; exact hM.2 s k hs hk
  have c19 : D19.1 M 41 = clk := by rw [g19.2 _ _ (hP (by omega) (by omega))]; exact hc
  have c21 : D21.1 M 71 = all := by rw [g21.2 _ _ (hP (by omega) (by omega))]; exact hF.1
  have c22 : (ob_pI D21 M 71 (all + 1)).1 (M + 36) (s * 256 + k) = md s k := by rw [pI_ne (by omega), g21.2 _ _ (hP (by omega) (by omega))]; exact hM.2 s k hs hk
  have hx : (N32 s * (256 : Int32)) + N32 k = N32 (s * 256 + k) := by rw [show (256 : Int32) = N32 256 from rfl, nb_mul, nb_add]
  have hin : ob_in (N32 (s * 256 + k)) 8192 := by rw [nb_in (by omega)]; omega
  have hcl : (N32 (s * 256 + k)).toNatClampNeg = s * 256 + k := nb_clamp (by omega)
  have d12 := g12.1
  have d21 := g21.1
  have n0 : M + 36 ≠ 0 := by omega
  refine ⟨ob_pI (ob_pI D21 M 71 (all + 1)) (M + 36) (s * 256 + k) (md s k + 1), ?_, ?_, ?_, ?_⟩
  · unfold f_Model_report
    simp only [ob_lt]
    rw [← hD1, p2]
    simp only [ob_bv]
    rw [c2, p4]
    simp only [ob_bv]
    rw [p6]
    simp only [ob_bv]
    rw [p8]
    simp only [ob_bv]
    rw [p10]
    simp only [ob_bv]
    rw [p12]
    simp only [ob_bv]
    have c12' : D12.1 (M + 36) (N32 (s * 256 + k)).toNatClampNeg = md s k := by rw [hcl]; exact c12
    rw [d12, a73.1, if_pos n0, hx, a73.2, if_pos hin, c12', p17]
    simp only [ob_bv]
    rw [p19]
    simp only [ob_bv]
    rw [c19, p21]
    simp only [ob_bv]
    rw [c21, pI_ref, d21, a73.1, if_pos n0, a73.2, if_pos hin, if_pos hin]
    simp only [hcl]
    rw [c22]
  · have gB : og (fun y j => (y = M + 36 ∧ j = s * 256 + k) ∨ (y = M ∧ j = 71)) D21 (ob_pI (ob_pI D21 M 71 (all + 1)) (M + 36) (s * 256 + k) (md s k + 1)) := (og.pI (Or.inr ⟨rfl, rfl⟩)).tr (og.pI (Or.inl ⟨rfl, rfl⟩))
    have gA := g21.up
    refine ⟨⟨fun t ht => ?_, fun t j ht hj => ?_⟩, (hS.keep gA (hP (by omega) (by omega)) (hP (by omega) (by omega)) (hP (by omega) (by omega)) (hP (by omega) (by omega)) (fun j => hP (by omega) (by omega)) (fun j => hP (by omega) (by omega)) (fun j => hP (by omega) (by omega))).keep gB (by omega) (by omega) (by omega) (by omega) (by omega) (by omega) (by omega), ?_⟩
    · rw [(gB _ _ (by omega)).1, (gA _ _ (hP (by omega) (by omega))).1]
      exact hM.1 t ht
    · by_cases hc : t = s ∧ j = k
      · show _ = if t = s ∧ j = k then md s k + 1 else md t j
        rw [if_pos hc, hc.1, hc.2, pI_self]
      · show _ = if t = s ∧ j = k then md s k + 1 else md t j
        rw [if_neg hc, (gB _ _ (by omega)).1, (gA _ _ (hP (by omega) (by omega))).1]
        exact hM.2 t j ht hj
    · obtain ⟨f1, f2, f3, f4, f5⟩ := hF.keep gA (hP (by omega) (by omega)) (hP (by omega) (by omega)) (hP (by omega) (by omega)) (hP (by omega) (by omega)) (hP (by omega) (by omega))
      refine ⟨by rw [pI_ne (by omega), pI_self], by rw [(gB _ _ (by omega)).1]; exact f2, by rw [(gB _ _ (by omega)).1]; exact f3, by rw [(gB _ _ (by omega)).1]; exact f4, by rw [(gB _ _ (by omega)).1]; exact f5⟩
  · have gB : og (fun y j => (y = M + 36 ∧ j = s * 256 + k) ∨ (y = M ∧ j = 71)) D21 (ob_pI (ob_pI D21 M 71 (all + 1)) (M + 36) (s * 256 + k) (md s k + 1)) := (og.pI (Or.inr ⟨rfl, rfl⟩)).tr (og.pI (Or.inl ⟨rfl, rfl⟩))
    have := w21.keep gB (by omega) (by omega)
    rw [by_cnt, by_seq] at this
    exact this
  · have gA : oi (fun y k => (y = M ∧ (k = 70 ∨ k = 71)) ∨ y = M + 35 ∨ y = M + 36) D D21 := g21.mono (fun y j e => e.elim (fun e => Or.inl ⟨e.1, Or.inl e.2⟩) (fun e => Or.inr (Or.inl e)))
    exact gA.tr ((oi.pI (Or.inl ⟨rfl, Or.inr rfl⟩)).tr (oi.pI (Or.inr (Or.inr rfl))))
-- ===== the reference's channels =====
def mCh (D : ob_D) (M v : Nat) (L : List Nat) : Prop := D.1 (M + 47) v = N32 L.length ∧ L.length ≤ 4400 ∧ (∀ i, i < L.length → D.1 (M + 42 + v) i = sb (L.getD i 0 % 256) ∧ D.1 (M + 45 + v) i = bI (decide (256 ≤ L.getD i 0))) ∧ ∀ x ∈ L, x < 512
def mChP (M v : Nat) : Nat → Nat → Prop := fun y k => (y = M + 47 ∧ k = v) ∨ y = M + 42 + v ∨ y = M + 45 + v
theorem mCh.keep {D D' : ob_D} {M v : Nat} {L : List Nat} {P : Nat → Nat → Prop} (h : mCh D M v L) (a : og P D D') (h0 : ¬ P (M + 47) v) (h1 : ∀ k, ¬ P (M + 42 + v) k) (h2 : ∀ k, ¬ P (M + 45 + v) k) : mCh D' M v L := ⟨by rw [(a _ _ h0).1]; exact h.1, h.2.1, fun i hi => by rw [(a _ _ (h1 _)).1, (a _ _ (h2 _)).1]; exact h.2.2.1 i hi, h.2.2.2⟩
theorem mch_beg {S : ob_S} {M v : Nat} {L p : List Nat} (hv : v < 2) (hr : L.length + p.length ≤ 4096) : ∀ (d n k : Nat) (D : ob_D), k + d = p.length → d < n → mA S D M → D.1 (M + 47) v = N32 L.length → (∀ i, i < L.length + p.length → D.1 (M + 42 + v) i = sb ((L ++ pkm p).getD i 0 % 256)) → (∀ i, i < L.length + k → D.1 (M + 45 + v) i = bI (decide (256 ≤ (L ++ pkm p).getD i 0))) → (∀ x ∈ L, x < 512) → (∀ x ∈ p, x < 256) → ∃ D', f_Model_joins_L39 S n M (N32 v) (N32 p.length) (N32 k) D = some (1, D') ∧ mCh D' M v (L ++ pkm p) ∧ oi (mChP M v) D D' := by
  intro d
  induction d with
  | zero =>
    intro n k D hk hn hA h1 h2 h3 h4 h5
    match n, hn with
    | n + 1, _ =>
      have hk' : k = p.length := hk
      have a86 : D.2.1 M 86 = M + 47 ∧ S.2.1 (M + 47) = 2 := hA.1 (86, 47, 2) (by decide)
      have hin : ob_in (N32 v) 2 := by rw [nb_in (by omega)]; exact hv
      refine ⟨ob_pI D (M + 47) v (N32 (L ++ pkm p).length), ?_, ⟨pI_self, ?_, fun i hi => ?_, ?_⟩, oi.pI (Or.inl ⟨rfl, rfl⟩)⟩
      · rw [f_Model_joins_L39, hk', if_pos (by rw [nb_le (by omega) (by omega)]; exact Nat.le_refl _), a86.1, if_pos (by omega), a86.2, if_pos hin, if_pos hin]
        try simp (disch := omega) only [nb_clamp]
        rw [h1, nb_add, List.length_append, pkm_len]
      · rw [List.length_append, pkm_len]; omega
      · rw [List.length_append, pkm_len] at hi
        rw [pI_ne (by omega), pI_ne (by omega)]
        exact ⟨h2 i hi, h3 i (by omega)⟩
      · intro x hx
        rcases List.mem_append.mp hx with e | e
        · exact h4 x e
        · exact pkm_lt h5 x e
  | succ d ih =>
    intro n k D hk hn hA h1 h2 h3 h4 h5
    match n, hn with
    | n + 1, hn =>
      have a86 : D.2.1 M 86 = M + 47 ∧ S.2.1 (M + 47) = 2 := hA.1 (86, 47, 2) (by decide)
      have a85 : D.2.1 M 85 = M + 44 ∧ S.2.1 (M + 44) = 2 := hA.1 (85, 44, 2) (by decide)
      have av := hA.2 v hv
      have hin : ob_in (N32 v) 2 := by rw [nb_in (by omega)]; exact hv
      have hkl : k < p.length := by omega
      have ek : (L ++ pkm p).getD (L.length + k) 0 = (pkm p).getD k 0 := by
        simp only [List.getD_eq_getElem?_getD]
        rw [List.getElem?_append_right (by omega), Nat.add_sub_cancel_left]
      have hb := by_getD_lt h5 k
      have hgo : ∀ x : Int32, x = bI (decide (256 ≤ (pkm p).getD k 0)) → ∃ D', f_Model_joins_L39 S n M (N32 v) (N32 p.length) (N32 (k + 1)) (ob_pI D (M + 45 + v) (L.length + k) x) = some (1, D') ∧ mCh D' M v (L ++ pkm p) ∧ oi (mChP M v) D D' := by
        intro x hx
        have g : oi (mChP M v) D (ob_pI D (M + 45 + v) (L.length + k) x) := oi.pI (Or.inr (Or.inr rfl))
        obtain ⟨D', q1, q2, q3⟩ := ih n (k + 1) (ob_pI D (M + 45 + v) (L.length + k) x) (by omega) (by omega) (hA.kp g) (by rw [pI_ne (by omega)]; exact h1) (fun i hi => by rw [pI_ne (by omega)]; exact h2 i hi) (fun i hi => by
          by_cases hik : i = L.length + k
          · rw [hik, pI_self, ek, hx]
          · rw [pI_ne (by omega)]; exact h3 i (by omega)) h4 h5
        exact ⟨D', q1, q2, g.tr q3⟩
      have ek1 : N32 k + (1 : Int32) = N32 (k + 1) := nb_add _ 1
      rw [f_Model_joins_L39, if_neg (by rw [nb_le (by omega) (by omega)]; omega), a85.1, if_pos (by omega), a85.2, if_pos hin]
      try simp (disch := omega) only [nb_clamp]
      rw [av.2.2.1, if_pos (by omega), a86.1, if_pos (by omega), a86.2, if_pos hin, h1, nb_add, av.2.2.2]
      try simp (disch := omega) only [nb_clamp]
      rw [ek1]
      have hin2 : ob_in (N32 (L.length + k)) 4400 := by rw [nb_in (by omega)]; omega
      by_cases hk0 : k = 0
      · rw [if_pos (by rw [hk0]; rfl), if_pos hin2]
        simp only [ob_lt]
        exact hgo _ (by rw [pkm_get hkl, if_pos hk0]; simp [bI])
      · rw [if_neg (by rw [show (0 : Int32) = N32 0 from rfl, nb_eq (by omega) (by decide)]; exact hk0), if_pos hin2]
        simp only [ob_lt]
        exact hgo _ (by rw [pkm_get hkl, if_neg hk0, show decide (256 ≤ p.getD k 0) = false by simp only [decide_eq_false_iff_not]; omega]; rfl)
theorem mch_join {S : ob_S} {D : ob_D} {M v : Nat} {L p : List Nat} (hv : v < 2) (hA : mA S D M) (h : mCh D M v L) {a o : Nat} (hs : ba D a o p) (hsl : o + p.length ≤ S.2.1 a) (hsn : S.2.1 a ≤ 100000) (hd : a ≠ M + 42 + v) : ∃ D', f_Model_joins S M (N32 v) a (N32 o) (N32 p.length) D = some (bI (decide (L.length + p.length ≤ 4096)), D') ∧ mCh D' M v (if L.length + p.length ≤ 4096 then L ++ pkm p else L) ∧ oi (mChP M v) D D' := by
  have a86 : D.2.1 M 86 = M + 47 ∧ S.2.1 (M + 47) = 2 := hA.1 (86, 47, 2) (by decide)
  have a84 : D.2.1 M 84 = M + 41 ∧ S.2.1 (M + 41) = 2 := hA.1 (84, 41, 2) (by decide)
  have av := hA.2 v hv
  have hin : ob_in (N32 v) 2 := by rw [nb_in (by omega)]; exact hv
  have h0 := h
  obtain ⟨h1, h2, h3, h4⟩ := h
  have hl : p.length ≤ 100000 := by omega
  unfold f_Model_joins
  rw [a86.1, if_pos (by omega), a86.2, if_pos hin]
  try simp (disch := omega) only [nb_clamp]
  rw [h1, nb_add, show (4096 : Int32) = N32 4096 from rfl, if_le (by omega) (by decide)]
  by_cases hc : L.length + p.length ≤ 4096
  · rw [if_pos hc, if_pos hc, a84.1, if_pos (by omega), a84.2, if_pos hin, av.1, if_pos (by omega), if_pos (by omega), if_pos hin, av.2.1]
    rw [if_pos (by
      refine ⟨by rw [nb_neg (by omega)]; exact id, by rw [nb_neg (by omega)]; exact id, by rw [nb_neg (by omega)]; exact id, ?_, ?_⟩
      · rw [nb_clamp (by omega), nb_clamp (by omega)]; exact hsl
      · rw [nb_clamp (by omega), nb_clamp (by omega)]; omega)]
    simp only [ob_lt]
    try simp (disch := omega) only [nb_clamp]
    have g : oi (mChP M v) D (ob_cp D a (M + 42 + v) o L.length p.length) := oi.cp (fun k _ _ => Or.inr (Or.inl rfl))
    have hcp : ∀ j, (ob_cp D a (M + 42 + v) o L.length p.length).1 (M + 42 + v) j = if L.length ≤ j ∧ j < L.length + p.length then D.1 a (o + (j - L.length)) else D.1 (M + 42 + v) j := by
      intro j
      show (if M + 42 + v = M + 42 + v then va_cpy (D.1 a) (D.1 (M + 42 + v)) o L.length p.length j else _) = _
      rw [if_pos rfl]
      rfl
    have hcn : ∀ y j, y ≠ M + 42 + v → (ob_cp D a (M + 42 + v) o L.length p.length).1 y j = D.1 y j := fun y j hy => if_neg hy
    obtain ⟨D', q1, q2, q3⟩ := mch_beg (S := S) hv hc p.length ob_FU 0 (ob_cp D a (M + 42 + v) o L.length p.length) (by omega) (by rw [ob_FU_eq]; omega) (hA.kp g) (by rw [hcn _ _ (by omega)]; exact h1) (fun i hi => by
      rw [hcp]
      by_cases hi2 : L.length ≤ i
      · rw [if_pos ⟨hi2, hi⟩, hs.1 _ (by omega)]
        have ek : (L ++ pkm p).getD i 0 = (pkm p).getD (i - L.length) 0 := by
          simp only [List.getD_eq_getElem?_getD]
          rw [List.getElem?_append_right hi2]
        have hb := by_getD_lt hs.2 (i - L.length)
        rw [ek, pkm_get (by omega)]
        by_cases h00 : i - L.length = 0
        · rw [if_pos h00, Nat.add_mod_right, Nat.mod_eq_of_lt hb]
        · rw [if_neg h00, Nat.mod_eq_of_lt hb]
      · rw [if_neg (fun e => hi2 e.1), (h3 i (by omega)).1]
        simp only [List.getD_eq_getElem?_getD]
        rw [List.getElem?_append_left (by omega)]) (fun i hi => by
      rw [hcn _ _ (by omega), (h3 i (by omega)).2]
      simp only [List.getD_eq_getElem?_getD]
      rw [List.getElem?_append_left (by omega)]) h4 hs.2
    refine ⟨D', ?_, q2, g.tr q3⟩
    rw [show decide (L.length + p.length ≤ 4096) = true by simpa using hc]
    exact q1
  · rw [if_neg hc, if_neg hc]
    refine ⟨D, ?_, h0, oi.rf⟩
    rw [show decide (L.length + p.length ≤ 4096) = false by simpa using hc]
    rfl
