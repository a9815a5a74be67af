-- ===== the reference's receiver: a block, a bit =====
def mRcP (M : Nat) : Nat → Nat → Prop := fun y k => (y = M ∧ (k = 8 ∨ k = 9 ∨ k = 10 ∨ k = 12 ∨ k = 14 ∨ k = 15)) ∨ y = M + 2 ∨ y = M + 3 ∨ y = M + 4
def mRcL (S : ob_S) (D : ob_D) (M : Nat) : Prop := D.2.1 M 11 = M + 2 ∧ D.2.1 M 13 = M + 3 ∧ D.2.1 M 18 = M + 4 ∧ S.2.1 (M + 2) = 64 ∧ S.2.1 (M + 3) = 280 ∧ S.2.1 (M + 4) = 63
def mRc (S : ob_S) (D : ob_D) (M : Nat) : sRc → Prop
  | (true, _, _, blk, cand, pr) => mRcL S D M ∧ D.1 M 8 = 1 ∧ D.1 M 14 = N32 cand.length ∧ ba D (M + 3) 0 cand ∧ D.1 M 15 = pr ∧ D.1 M 12 = N32 blk.length ∧ blk.length < 64 ∧ (∀ i, i < blk.length → D.1 (M + 2) i = bI (blk.getD i false)) ∧ cand.length % 7 = 0 ∧ cand.length < 259
  | (false, win, bits, _, cand, pr) => mRcL S D M ∧ D.1 M 8 = 0 ∧ D.1 M 14 = N32 cand.length ∧ cand.length ≤ 259 ∧ ba D (M + 3) 0 cand ∧ D.1 M 15 = pr ∧ D.1 M 10 = N32 win ∧ win < 65536 ∧ D.1 M 9 = N32 bits ∧ bits ≤ 16
theorem mRcL.keep {S S' : ob_S} {D D' : ob_D} {M : Nat} {P : Nat → Nat → Prop} (h : mRcL S D M) (g : og P D D') (hP : ∀ k, k = 11 ∨ k = 13 ∨ k = 18 → ¬ P M k) (hS : ∀ y, M ≤ y → y < M + 50 → S'.2.1 y = S.2.1 y) : mRcL S' D' M := by
  obtain ⟨h1, h2, h3, h4, h5, h6⟩ := h
  exact ⟨by rw [(g M 11 (hP 11 (by omega))).2.1]; exact h1, by rw [(g M 13 (hP 13 (by omega))).2.1]; exact h2, by rw [(g M 18 (hP 18 (by omega))).2.1]; exact h3, by rw [hS _ (by omega) (by omega)]; exact h4, by rw [hS _ (by omega) (by omega)]; exact h5, by rw [hS _ (by omega) (by omega)]; exact h6⟩
theorem rc_find_some {x i : Nat} (hi : i < 63) (h : pw i = x) : rc_find x = some i := by
  unfold rc_find
  rw [List.find?_eq_some_iff_getElem]
  refine ⟨by simpa using h, i, by simpa using hi, by simp, fun j hj => ?_⟩
  simp only [List.getElem_range, Bool.not_eq_true', beq_eq_false_iff_ne, ne_eq]
  intro e
  have := pw_inj (show j < 63 by omega) hi (e.trans h.symm)
  omega
theorem rc_find_none {x : Nat} (h : ∀ i, i < 63 → pw i ≠ x) : rc_find x = none := by
  unfold rc_find
  rw [List.find?_eq_none]
  intro i hi
  simpa using h i (List.mem_range.mp hi)
theorem bfl_range {c : Nat → Bool} {k : Nat} (hk : k < 63) : (List.range 63).map (fun j => c j != decide (N32 j = N32 k)) = bfl ((List.range 63).map c) k := by
  unfold bfl
  apply List.ext_getElem?
  intro j
  rw [List.getElem?_set]
  by_cases hj : j < 63
  · have e : (N32 j = N32 k) = (j = k) := nb_eq (by omega) (by omega)
    by_cases hjk : k = j
    · subst hjk
      simp [hk, List.getD_eq_getElem?_getD]
    · simp [hjk, hj, e, Ne.symm hjk]
  · have : ¬ k = j := by omega
    simp [this, hj]
theorem xor_zero {a b : Nat} : a ^^^ b = 0 ↔ a = b := by
  constructor
  · intro h
    have : a = (a ^^^ b) ^^^ b := by rw [Nat.xor_assoc, Nat.xor_self, Nat.xor_zero]
    rw [this, h, Nat.zero_xor]
  · intro h
    rw [h, Nat.xor_self]
theorem bcm_flip {S : ob_S} {D0 : ob_D} {M : Nat} (hb : D0.2.1 M 11 = M + 2) (hS2 : S.2.1 (M + 2) = 64) : ∀ (d n i : Nat) (g : Nat → Int32) (c : Nat → Bool), i + d = 63 → d < n → (∀ j, j < 64 → g j = bI (c j)) → ∃ g', f_Model_blockCame_L3 S n M (N32 i) (ob_wb D0 (M + 2) g) = ob_bd (f_Model_divides S M (-1 : Int32) (ob_wb D0 (M + 2) g')) (fun x3 D1 => f_Model_blockCame_L43 S ob_FU M x3 (0 : Int32) D1) ∧ ∀ j, j < 64 → g' j = bI (if i ≤ j ∧ j < 63 then !c j else c j) := by
  have hb' : ∀ g, (ob_wb D0 (M + 2) g).2.1 M 11 = M + 2 := fun _ => hb
  intro d
  induction d with
  | zero =>
    intro n i g c hi hn hg
    match n, hn with
    | n + 1, _ =>
      refine ⟨g, ?_, fun j hj => by rw [hg j hj, if_neg (by omega)]⟩
      rw [f_Model_blockCame_L3, if_pos (by rw [show (63 : Int32) = N32 63 from rfl, nb_le (by decide) (by omega)]; omega)]
  | succ d ih =>
    intro n i g c hi hn hg
    match n, hn with
    | n + 1, hn =>
      have e1 : N32 i + (1 : Int32) = N32 (i + 1) := nb_add i 1
      have hin : ob_in (N32 i) 64 := by rw [nb_in (by omega)]; omega
      have hcl : (N32 i).toNatClampNeg = i := nb_clamp (by omega)
      obtain ⟨g', p1, p2⟩ := ih n (i + 1) (fun r => if r = i then bI (!c i) else g r) (fun r => if r = i then !c i else c r) (by omega) (by omega) (fun j hj => by
        by_cases hji : j = i
        · rw [if_pos hji, if_pos hji]
        · rw [if_neg hji, if_neg hji, hg j hj])
      refine ⟨g', ?_, fun j hj => ?_⟩
      · rw [← p1, f_Model_blockCame_L3, if_neg (by rw [show (63 : Int32) = N32 63 from rfl, nb_le (by decide) (by omega)]; omega), hb', if_pos (by omega), if_pos (by omega), hS2, if_pos hin]
        cases hc : c i
        · rw [if_pos (by rw [hcl, ob_wb_b, hg i (by omega), hc]; rfl), if_pos hin]
          simp only [ob_lt, hcl, ob_wb_pI, e1, or_one]
          rfl
        · rw [if_neg (by rw [hcl, ob_wb_b, hg i (by omega), hc]; decide), if_pos hin]
          simp only [ob_lt, hcl, ob_wb_pI, e1, or_zero]
          rfl
      · rw [p2 j hj]
        congr 1
        by_cases hji : j = i
        · subst hji
          rw [if_neg (by omega), if_pos rfl, if_pos (by omega)]
        · simp only [hji, if_false]
          by_cases h2 : i + 1 ≤ j ∧ j < 63
          · rw [if_pos h2, if_pos (by omega)]
          · rw [if_neg h2, if_neg (by omega)]
theorem bcm_try {S : ob_S} {M x : Nat} {pr : Int32} {c : Nat → Bool} (hx : x = rm ((List.range 63).map c)) : ∀ (d n k : Nat) (D : ob_D), k + d = 63 → d < n → mRcL S D M → D.1 M 15 = pr → (∀ j, j < 63 → D.1 (M + 2) j = bI (c j)) → (∀ j, j < k → pw (62 - j) ≠ x) → ∃ D', f_Model_blockCame_L43 S n M 0 (N32 k) D = f_Model_blockCame_L99 S M (bI (rc_find x).isSome) D' ∧ og (fun y k => (y = M ∧ k = 15) ∨ y = M + 2 ∨ y = M + 4) D D' ∧ (match rc_find x with | some i => i < 63 ∧ D'.1 M 15 = pr + 1 ∧ ∀ j, j < 63 → D'.1 (M + 2) j = bI (if j = 62 - i then !c j else c j) | none => D'.1 M 15 = pr ∧ ∀ j, j < 63 → D'.1 (M + 2) j = bI (c j)) := by
  intro d
  induction d with
  | zero =>
    intro n k D hk hn hL h15 hc hno
    match n, hn with
    | n + 1, _ =>
      have hf : rc_find x = none := rc_find_none (fun i hi => by
        have := hno (62 - i) (by omega)
        rw [show 62 - (62 - i) = i by omega] at this
        exact this)
      refine ⟨D, ?_, og.rf, ?_⟩
      · rw [f_Model_blockCame_L43, if_pos (by rw [show (63 : Int32) = N32 63 from rfl, nb_le (by decide) (by omega)]; omega), hf]
        rfl
      · rw [hf]
        exact ⟨h15, hc⟩
  | succ d ih =>
    intro n k D hk hn hL h15 hc hno
    match n, hn with
    | n + 1, hn =>
      have hk63 : k < 63 := by omega
      have e1 : N32 k + (1 : Int32) = N32 (k + 1) := nb_add k 1
      have hL' := hL
      obtain ⟨l1, l2, l3, l4, l5, l6⟩ := hL'
      obtain ⟨D1, p1, p2⟩ := dv_ok (v := N32 k) l3 l1 l6 l4 hc
      rw [bfl_range hk63, rm_flip (by simpa using hk63), ← hx] at p1
      have hlen : ((List.range 63).map c).length - 1 - k = 62 - k := by simp
      rw [hlen] at p1
      have hL1 : mRcL S D1 M := hL.keep p2 (fun k hk e => by omega) (fun _ _ _ => rfl)
      have h151 : D1.1 M 15 = pr := by rw [(p2 M 15 (by omega)).1]; exact h15
      have hc1 : ∀ j, j < 63 → D1.1 (M + 2) j = bI (c j) := fun j hj => by rw [(p2 (M + 2) j (by omega)).1]; exact hc j hj
      rw [f_Model_blockCame_L43, if_neg (by rw [show (63 : Int32) = N32 63 from rfl, nb_le (by decide) (by omega)]; omega), if_pos (by rfl), p1]
      simp only [ob_bd]
      by_cases hp : pw (62 - k) = x
      · have hd : decide (x ^^^ pw (62 - k) = 0) = true := by rw [decide_eq_true_eq, xor_zero]; exact hp.symm
        have hf := rc_find_some (show 62 - k < 63 by omega) hp
        have hin : ob_in (N32 k) 64 := by rw [nb_in (by omega)]; omega
        have hcl : (N32 k).toNatClampNeg = k := nb_clamp (by omega)
        have hgo : ∀ D2, f_Model_blockCame_L43 S n M 1 (N32 (k + 1)) D2 = f_Model_blockCame_L99 S M 1 D2 := by
          intro D2
          match n, (show 0 < n by omega) with
          | n + 1, _ =>
            rw [f_Model_blockCame_L43]
            by_cases h63 : 63 ≤ k + 1
            · rw [if_pos (by rw [show (63 : Int32) = N32 63 from rfl, nb_le (by decide) (by omega)]; omega)]
            · rw [if_neg (by rw [show (63 : Int32) = N32 63 from rfl, nb_le (by decide) (by omega)]; omega), if_neg (by decide)]
        rw [hd, if_neg (by decide), hL1.1, if_pos (by omega), if_pos (by omega), l4, if_pos hin, hf]
        refine ⟨ob_pI (ob_pI D1 (M + 2) k (bI (!c k))) M 15 (pr + 1), ?_, ?_, by omega, ?_, fun j hj => ?_⟩
        · have e15 : (ob_pI D1 (M + 2) k (bI (!c k))).1 M 15 = pr := by simp [ob_pI, h151]
          cases hck : c k
          · rw [if_pos (by rw [hcl, hc1 k hk63, hck]; rfl)]
            unfold f_Model_blockCame_L82
            rw [l4, if_pos hin]
            rw [hck] at e15
            simp only [ob_lt, hcl, or_one, e1, hgo]
            have : bI (!false) = 1 := rfl
            rw [this] at e15 ⊢
            rw [e15]
            rfl
          · rw [if_neg (by rw [hcl, hc1 k hk63, hck]; decide)]
            unfold f_Model_blockCame_L82
            rw [l4, if_pos hin]
            rw [hck] at e15
            simp only [ob_lt, hcl, or_zero, e1, hgo]
            have : bI (!true) = 0 := rfl
            rw [this] at e15 ⊢
            rw [e15]
            rfl
        · refine ((p2.mono (fun y k e => Or.inr (Or.inr e))).tr (og.pI ?_)).tr (og.pI ?_)
          · exact Or.inr (Or.inl rfl)
          · exact Or.inl ⟨rfl, rfl⟩
        · simp [ob_pI]
        · rw [show 62 - (62 - k) = k by omega]
          show (if M + 2 = M ∧ j = 15 then _ else if M + 2 = M + 2 ∧ j = k then _ else _) = _
          rw [if_neg (by omega)]
          by_cases hjk : j = k
          · rw [if_pos ⟨rfl, hjk⟩, if_pos hjk, hjk]
          · rw [if_neg (fun e => hjk e.2), if_neg hjk, hc1 j hj]
      · have hd : decide (x ^^^ pw (62 - k) = 0) = false := by rw [decide_eq_false_iff_not, xor_zero]; exact fun e => hp e.symm
        rw [hd, if_pos (by rfl), e1]
        obtain ⟨D', q1, q2, q3⟩ := ih n (k + 1) D1 (by omega) (by omega) hL1 h151 hc1 (fun j hj => by
          by_cases hjk : j = k
          · rw [hjk]; exact hp
          · exact hno j (by omega))
        exact ⟨D', q1, (p2.mono (fun y k e => Or.inr (Or.inr e))).tr q2, q3⟩
