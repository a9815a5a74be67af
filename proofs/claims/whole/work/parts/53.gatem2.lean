-- ===== bytes laid into an array =====
def g_cp (g : Nat → Int32) (o : Nat) (l : List Nat) : Nat → Int32 := fun j => if o ≤ j ∧ j < o + l.length then sb (l.getD (j - o) 0) else g j
theorem g_cp_nil (g : Nat → Int32) (o : Nat) : g_cp g o [] = g := by
  funext j
  unfold g_cp
  rw [if_neg (by simp only [List.length_nil]; omega)]
theorem g_cp_step {D : ob_D} {b : Nat} (g : Nat → Int32) (o : Nat) (l : List Nat) {k : Nat} (hk : k < l.length) : ob_pI (ob_wb D b (g_cp g o (l.take k))) b (o + k) (sb (l.getD k 0)) = ob_wb D b (g_cp g o (l.take (k + 1))) := by
  rw [ob_wb_pI]
  congr 1
  funext r
  unfold g_cp
  rw [List.length_take, List.length_take, Nat.min_eq_left (by omega), Nat.min_eq_left (by omega)]
  by_cases h1 : r = o + k
  · rw [if_pos h1, if_pos (by omega), h1, Nat.add_sub_cancel_left]
    congr 1
    simp [List.getD_eq_getElem?_getD, List.getElem?_take_of_lt (show k < k + 1 by omega)]
  · rw [if_neg h1]
    by_cases h2 : o ≤ r ∧ r < o + k
    · rw [if_pos h2, if_pos (by omega)]
      congr 1
      simp only [List.getD_eq_getElem?_getD]
      rw [List.getElem?_take_of_lt (by omega), List.getElem?_take_of_lt (by omega)]
    · rw [if_neg h2, if_neg (by omega)]
theorem g_cp_ba {D : ob_D} {b : Nat} (g : Nat → Int32) (o : Nat) {l : List Nat} (hl : ∀ x ∈ l, x < 256) : ba (ob_wb D b (g_cp g o l)) b o l := by
  refine ⟨fun i hi => ?_, hl⟩
  rw [ob_wb_b]
  unfold g_cp
  rw [if_pos (by omega), Nat.add_sub_cancel_left]
theorem g_cp_other {D : ob_D} {b : Nat} (o : Nat) {l : List Nat} {o2 : Nat} {l2 : List Nat} (h : ba D b o2 l2) (hd : o2 + l2.length ≤ o ∨ o + l.length ≤ o2) : ba (ob_wb D b (g_cp (D.1 b) o l)) b o2 l2 := by
  refine ⟨fun i hi => ?_, h.2⟩
  rw [ob_wb_b]
  unfold g_cp
  rw [if_neg (by omega)]
  exact h.1 i hi
-- ===== the reference's gate: a frame =====
theorem gt_body_get {c : List Nat} {k : Nat} (hk : k < (gt_body c).length) : (gt_body c).getD k 0 = c.getD (5 + k) 0 := by
  unfold gt_body at hk ⊢
  rw [List.length_take] at hk
  simp only [List.getD_eq_getElem?_getD]
  rw [List.getElem?_take_of_lt (by omega), List.getElem?_drop]
theorem gt_body_len {c : List Nat} (hl : nn c 2 2 + 1 ≤ c.length) : (gt_body c).length = nn c 2 2 - 6 := by
  unfold gt_body
  rw [List.length_take, List.length_drop]
  omega
theorem gt_body_lt {c : List Nat} (h : ∀ x ∈ c, x < 256) : ∀ x ∈ gt_body c, x < 256 := fun x hx => h x (List.mem_of_mem_drop (List.mem_of_mem_take hx))
theorem gtm_queue_L {S : ob_S} {D0 : ob_D} {M ql : Nat} {c : List Nat} {g : Nat → Int32} (hc : mCd S D0 M c) (h24 : D0.2.1 M 24 = M + 5) (h25 : D0.2.1 M 25 = M + 6) (hS5 : S.2.1 (M + 5) = 2080) (hS6 : S.2.1 (M + 6) = 8) (h26 : D0.1 M 26 = N32 ql) (hql : ql < 8) (hb : (gt_body c).length ≤ 252) : ∀ (d n k : Nat), k + d = (gt_body c).length → d < n → f_Model_queueBody_L2 S n M (N32 (gt_body c).length) (N32 k) (ob_wb D0 (M + 5) (g_cp g (260 * ql) ((gt_body c).take k))) = some (ob_pI (ob_pI (ob_pI (ob_wb D0 (M + 5) (g_cp g (260 * ql) (gt_body c))) M 26 (N32 (ql + 1))) (M + 6) ql (N32 (gt_body c).length)) M 17 (D0.1 M 17 + 1)) := by
  obtain ⟨h1, h2, h3, h4, h5, h6⟩ := hc
  intro d
  induction d with
  | zero =>
    intro n k hk hn
    match n, hn with
    | n + 1, _ =>
      have : k = (gt_body c).length := by omega
      subst this
      rw [List.take_length]
      have e26 : ∀ g, (ob_wb D0 (M + 5) g).1 M 26 = N32 ql := fun g => by rw [ob_wb_ne D0 g 26 (by omega)]; exact h26
      have e25 : ∀ g, (ob_wb D0 (M + 5) g).2.1 M 25 = M + 6 := fun g => h25
      have e1 : N32 ql + (1 : Int32) = N32 (ql + 1) := nb_add _ 1
      rw [f_Model_queueBody_L2, if_pos (by rw [nb_le (by omega) (by omega)]; omega), e25, if_pos (by omega), e26, hS6]
      simp only [ob_lt]
      rw [if_pos (by rw [nb_in (by omega)]; exact hql), nb_clamp (by omega), e1]
      congr 2
      show (if M = M + 6 ∧ 17 = ql then _ else if M = M ∧ 17 = 26 then _ else (ob_wb D0 (M + 5) _).1 M 17) + 1 = _
      rw [if_neg (by omega), if_neg (by omega), ob_wb_ne D0 _ 17 (by omega)]
  | succ d ih =>
    intro n k hk hn
    match n, hn with
    | n + 1, hn =>
      have hk2 : k < (gt_body c).length := by omega
      have hbl : 5 + k < c.length := by
        have : (gt_body c).length ≤ c.length - 5 := by
          unfold gt_body
          rw [List.length_take, List.length_drop]
          omega
        omega
      have e1 : N32 k + (1 : Int32) = N32 (k + 1) := nb_add _ 1
      have e26 : ∀ g, (ob_wb D0 (M + 5) g).1 M 26 = N32 ql := fun g => by rw [ob_wb_ne D0 g 26 (by omega)]; exact h26
      have e24 : ∀ g, (ob_wb D0 (M + 5) g).2.1 M 24 = M + 5 := fun g => h24
      have e13 : ∀ g, (ob_wb D0 (M + 5) g).2.1 M 13 = M + 3 := fun g => h1
      have e5 : (5 : Int32) + N32 k = N32 (5 + k) := nb_add 5 k
      have eo : N32 ql * (260 : Int32) + N32 k = N32 (260 * ql + k) := by
        rw [show (260 : Int32) = N32 260 from rfl, nb_mul, nb_add, Nat.mul_comm]
      have hd : ∀ g, (ob_wb D0 (M + 5) g).1 (M + 3) (5 + k) = sb ((gt_body c).getD k 0) := by
        intro g
        rw [ob_wb_ne D0 g _ (by omega), gt_body_get hk2]
        have := h4.1 (5 + k) hbl
        rw [Nat.zero_add] at this
        exact this
      rw [f_Model_queueBody_L2, if_neg (by rw [nb_le (by omega) (by omega)]; omega), e24, if_pos (by omega), e13, if_pos (by omega), e5, h2, if_pos (by rw [nb_in (by omega)]; omega), e26, eo, hS5, if_pos (by rw [nb_in (by omega)]; omega)]
      simp only [ob_lt]
      rw [nb_clamp (by omega), nb_clamp (by omega), hd, sb_sb, g_cp_step g _ _ hk2, e1]
      exact ih n (k + 1) (by omega) (by omega)
theorem gtm_queue {S : ob_S} {D : ob_D} {M : Nat} {c : List Nat} {q : List (List Nat)} (hc : mCd S D M c) (hq : mGtQ S D M q) (hql : q.length < 8) (hl : nn c 2 2 + 1 ≤ c.length) : ∃ D', f_Model_queueBody S M (N32 (nn c 2 2 - 6)) D = some D' ∧ mGtQ S D' M (q ++ [gt_body c]) ∧ D'.1 M 17 = D.1 M 17 + 1 ∧ og (fun y k => (y = M ∧ (k = 17 ∨ k = 26)) ∨ y = M + 5 ∨ y = M + 6) D D' := by
  have hlen := gt_body_len hl
  have hcl := hc.2.2.2.2.2
  obtain ⟨h1, h2, h3, h4, h5, h6, h7⟩ := hq
  have hL := gtm_queue_L (g := D.1 (M + 5)) hc h1 h2 h3 h4 h5 hql (by omega) (gt_body c).length ob_FU 0 (by omega) (by rw [ob_FU_eq]; omega)
  rw [List.take_zero, g_cp_nil, ob_wb_self, hlen] at hL
  refine ⟨_, hL, ⟨h1, h2, h3, h4, by simp [ob_pI], by simp; omega, fun i hi => ?_⟩, by simp [ob_pI], ((((og.wb (fun _ => Or.inr (Or.inl rfl))).tr (og.pI (Or.inl ⟨rfl, Or.inr rfl⟩))).tr (og.pI (Or.inr (Or.inr rfl)))).tr (og.pI (Or.inl ⟨rfl, Or.inl rfl⟩)))⟩
  rw [List.length_append, List.length_singleton] at hi
  have hkeep : ∀ l2 o2, ba (ob_wb D (M + 5) (g_cp (D.1 (M + 5)) (260 * q.length) (gt_body c))) (M + 5) o2 l2 → ba (ob_pI (ob_pI (ob_pI (ob_wb D (M + 5) (g_cp (D.1 (M + 5)) (260 * q.length) (gt_body c))) M 26 (N32 (q.length + 1))) (M + 6) q.length (N32 (nn c 2 2 - 6))) M 17 (D.1 M 17 + 1)) (M + 5) o2 l2 := by
    intro l2 o2 h
    exact h.keep (P := fun y _ => y = M ∨ y = M + 6) (((og.pI (Or.inl rfl)).tr (og.pI (Or.inr rfl))).tr (og.pI (Or.inl rfl))) (fun k _ _ e => by omega)
  by_cases hlast : i = q.length
  · subst hlast
    have e : (q ++ [gt_body c]).getD q.length [] = gt_body c := by simp [List.getD_eq_getElem?_getD]
    rw [e, hlen]
    refine ⟨by simp [ob_pI], by omega, hkeep _ _ (g_cp_ba _ _ (gt_body_lt hc.2.2.2.1.2))⟩
  · have hi2 : i < q.length := by omega
    have e : (q ++ [gt_body c]).getD i [] = q.getD i [] := by simp [List.getD_eq_getElem?_getD, List.getElem?_append_left hi2]
    obtain ⟨a1, a2, a3⟩ := h7 i hi2
    rw [e]
    refine ⟨?_, a2, hkeep _ _ (g_cp_other _ a3 (by omega))⟩
    rw [← a1]
    simp only [ob_pI]
    rw [if_neg (by omega), if_neg (by omega), if_neg (by omega), ob_wb_ne D _ i (by omega)]
