-- ===== the law's loop =====
def IV (S : ob_S) (D : ob_D) (B M V m fr F w pt : Nat) (z : sW) (t : List Nat) : Prop := cC S D B m fr F w pt z t ∧ mC S D M m fr F w pt z t ∧ S.2.1 V = 1 ∧ V < S.2.2.1 ∧ B + 29 + 2 * m + 80 + 2 * fr + 14 ≤ M ∧ M + 50 ≤ V
theorem lw_end {L i : Nat} (hL : L ≤ 3077) (hi : i ≤ 4000) : (Int32.ofNat L - (6 : Int32) < N32 i) = (L < i + 6) := by
  by_cases h6 : 6 ≤ L
  · have e : Int32.ofNat L - (6 : Int32) = N32 (L - 6) := nb_sub (a := L) (b := 6) h6
    rw [e, nb_lt (by omega) (by omega)]
    exact propext ⟨fun h => by omega, fun h => by omega⟩
  · have hn : (Int32.ofNat L - (6 : Int32)).toInt < 0 := by
      rcases (show L = 0 ∨ L = 1 ∨ L = 2 ∨ L = 3 ∨ L = 4 ∨ L = 5 by omega) with e | e | e | e | e | e <;> rw [e] <;> decide
    have hp : (N32 i).toInt = i := nb_toInt (by omega)
    rw [Int32.lt_iff_toInt_lt, hp]
    exact propext ⟨fun h => by omega, fun h => by omega⟩
theorem IV.kS {S S' : ob_S} {D D' : ob_D} {B M V m fr F w pt : Nat} {z : sW} {t : List Nat} (h : IV S D B M V m fr F w pt z t) (hS : ∀ y, y < S.2.2.1 → S'.1 y = S.1 y ∧ S'.2.1 y = S.2.1 y) (hn : S.2.2.1 ≤ S'.2.2.1) (hD : og (fun y _ => y = V) D D') : IV S' D' B M V m fr F w pt z t := by
  obtain ⟨h1, h2, h3, h4, h5, h6⟩ := h
  exact ⟨h1.kp hD (fun y k u v => by omega) (fun y u v => (hS y (by omega)).2) (fun y u v => (hS y (by omega)).1), h2.kp hD (fun y k u v => by omega) (fun y u v => (hS y (by omega)).2), by rw [(hS V h4).2]; exact h3, by omega, h5, h6⟩
theorem IV.st {S : ob_S} {D D' : ob_D} {B M V m fr F w pt : Nat} {z z' : sW} {t t' : List Nat} (h : IV S D B M V m fr F w pt z t) (hc : cC S D' B m fr F w pt z' t') (hm : mC S D' M m fr F w pt z' t') : IV S D' B M V m fr F w pt z' t' := ⟨hc, hm, h.2.2.1, h.2.2.2.1, h.2.2.2.2.1, h.2.2.2.2.2⟩
theorem IV.five {S : ob_S} {D : ob_D} {B M V m fr F w pt : Nat} {z : sW} {t : List Nat} (h : IV S D B M V m fr F w pt z t) (x : Int32) : IV S (ob_pI D M 5 x) B M V m fr F w pt z t := by
  have h5 := h.2.2.2.2.1
  obtain ⟨a, b⟩ := h.2.1.five x
  exact h.st (h.1.kp b.up (fun y k u v => by omega) (fun _ _ _ => rfl) (fun _ _ _ => rfl)) a
theorem IV.long {S : ob_S} {D : ob_D} {B M V m fr F w pt : Nat} {z : sW} {t : List Nat} (h : IV S D B M V m fr F w pt z t) (k : Nat) (x : Int64) : IV S (ob_pL D V k x) B M V m fr F w pt z t := h.kS (fun _ _ => ⟨rfl, rfl⟩) (Nat.le_refl _) (og.pL rfl)
theorem IV.new {S : ob_S} {D : ob_D} {B M V m fr F w pt : Nat} {z : sW} {t : List Nat} (h : IV S D B M V m fr F w pt z t) : IV (ob_new S 0 0 6) D B M V m fr F w pt z t := h.kS (fun y hy => ⟨if_neg (Nat.ne_of_lt hy), if_neg (Nat.ne_of_lt hy)⟩) (Nat.le_succ _) og.rf
theorem cC.pt {S : ob_S} {D : ob_D} {B m fr F w pt : Nat} {z : sW} {t : List Nat} (h : cC S D B m fr F w pt z t) : pt ≤ 100 ∧ F ≤ 256 := by
  obtain ⟨hB, hw, ⟨c, hY⟩⟩ := h
  obtain ⟨gt, rc, A, on, ev, lm, ch, frs, rp, ⟨wi, mo, ck, al, hd, fa, br⟩, fm, me⟩ := z
  exact ⟨hY.1.2.2.2.2.2.2.2.2.1.2.2.2.2.2.2.2.2.2.2.2, hY.1.2.2.2.2.2.1.1.2.2.2.2.2.2.2.2.2.1⟩
theorem ob_gt_t {c : Prop} [Decidable c] {α : Type} {a : Option α} (h : c) : ob_gt c a = a := if_pos h
theorem lg_same (x : Int64) : lg_cmp x x = 0 := by simp [lg_cmp]
theorem pL_self {D : ob_D} {a k : Nat} {x : Int64} : (ob_pL D a k x).2.2 a k = x := if_pos ⟨rfl, rfl⟩

abbrev lw_go (E : ob_E) (B M V c0 s0 n i : Nat) (S : ob_S) (D : ob_D) : Prop := ∃ (Tf : ob_S) (D' : ob_D), f_law_L73 E B M V n (N32 i) S D = some (Tf, D') ∧ Tf.2.2.1 ≤ c0 + (E.2.2.2.2.2.2.2.1 + 6) ∧ Tf.2.2.2 ≤ s0 + (E.2.2.2.2.2.2.2.1 + 6)
abbrev lw_ih (E : ob_E) (B M V m fr F w pt c0 s0 n i : Nat) : Prop := ∀ (S : ob_S) (D : ob_D) (z : sW) (t : List Nat), IV S D B M V m fr F w pt z t → w_ck z ≤ i → S.2.2.1 ≤ c0 + i → S.2.2.2 ≤ s0 + i → lw_go E B M V c0 s0 n i S D

theorem lw_down {E : ob_E} {B M V m fr F w pt c0 s0 n i : Nat} {S : ob_S} {D : ob_D} {z : sW} {t : List Nat} (ih : lw_ih E B M V m fr F w pt c0 s0 n (i + 6)) (h : IV S D B M V m fr F w pt z t) (hck : w_ck z ≤ i) (hc0 : S.2.2.1 ≤ c0 + i) (hs0 : S.2.2.2 ≤ s0 + i) (g1 : ob_in (N32 i + (1 : Int32)) E.2.2.2.2.2.2.2.1) (g2 : ob_in (N32 i + (2 : Int32)) E.2.2.2.2.2.2.2.1) : ∃ (Tf : ob_S) (D' : ob_D), (ob_b3 (fl_down S B (E.2.2.2.2.2.2.2.2 (N32 i + (1 : Int32)).toNatClampNeg) (E.2.2.2.2.2.2.2.2 (N32 i + (2 : Int32)).toNatClampNeg) V D) fun x113 S114 D115 => f_law_L330 E B M V (fun i s d => f_law_L73 E B M V n i s d) (N32 i) x113 S114 D115) = some (Tf, D') ∧ Tf.2.2.1 ≤ c0 + (E.2.2.2.2.2.2.2.1 + 6) ∧ Tf.2.2.2 ≤ s0 + (E.2.2.2.2.2.2.2.1 + 6) := by
  have e6 : N32 i + (6 : Int32) = N32 (i + 6) := nb_add _ 6
  have hV := h.2.2.1
  generalize h1 : (E.2.2.2.2.2.2.2.2 (N32 i + (1 : Int32)).toNatClampNeg) = v1
  generalize h2 : (E.2.2.2.2.2.2.2.2 (N32 i + (2 : Int32)).toNatClampNeg) = v2
  rcases cf_down h.1 v1 v2 with ⟨a, b, ha, hb, hva, hvb, hth, hf⟩ | ⟨hbad, hth⟩
  · unfold fl_down
    rw [hth]
    simp only []
    unfold f_Law_down
    rw [hf]
    simp only [ob_bd]
    rw [if_pos (show ob_in 0 (S.2.1 V) by rw [hV]; decide)]
    simp only [ob_lt, ob_b3]
    have hI := h.long (0 : Int32).toNatClampNeg (N32 ((z.2.2.2.2.2.2.2.1.getD a []).getD b 0)).toInt64
    unfold f_law_L330
    rw [ob_gt_t g1, ob_gt_t g2, h1, h2]
    rw [(mf_down hI.2.1 hI.1.pt.2 v1 v2).1 a b ha hb hva hvb]
    simp only [ob_bd, f_Model_thrown]
    rw [if_pos pI_self, if_pos (by trivial), ob_gt_t (show ob_in 0 (S.2.1 V) by rw [hV]; decide)]
    show ∃ (Tf : ob_S) (D' : ob_D), (if lg_cmp ((ob_pL D V (0 : Int32).toNatClampNeg _).2.2 V (0 : Int32).toNatClampNeg) _ = 0 then _ else none) = some (Tf, D') ∧ _
    rw [pL_self, if_pos (lg_same _), e6]
    exact ih _ _ _ _ (hI.five 0) (by omega) (by omega) (by omega)
  · unfold fl_down
    rw [hth]
    simp only [ob_b3]
    have hI := h.new
    unfold f_law_L330
    rw [ob_gt_t g1, ob_gt_t g2, h1, h2, (mf_down hI.2.1 hI.1.pt.2 v1 v2).2 hbad]
    simp only [ob_bd, f_Model_thrown]
    rw [if_pos pI_self, if_neg (by decide), e6]
    exact ih _ _ _ _ (hI.five 1) (by omega) (show S.2.2.1 + 1 ≤ c0 + (i + 6) by omega) (show S.2.2.2 + 6 ≤ s0 + (i + 6) by omega)

theorem lw_entry {E : ob_E} {B M V m fr F w pt c0 s0 n i : Nat} {S : ob_S} {D : ob_D} {z : sW} {t : List Nat} (ih : lw_ih E B M V m fr F w pt c0 s0 n (i + 6)) (h : IV S D B M V m fr F w pt z t) (hck : w_ck z ≤ i) (hc0 : S.2.2.1 ≤ c0 + i) (hs0 : S.2.2.2 ≤ s0 + i) (g1 : ob_in (N32 i + (1 : Int32)) E.2.2.2.2.2.2.2.1) (g2 : ob_in (N32 i + (2 : Int32)) E.2.2.2.2.2.2.2.1) : ∃ (Tf : ob_S) (D' : ob_D), (ob_b3 (fl_entry S B (E.2.2.2.2.2.2.2.2 (N32 i + (1 : Int32)).toNatClampNeg) (E.2.2.2.2.2.2.2.2 (N32 i + (2 : Int32)).toNatClampNeg) V D) fun x113 S114 D115 => f_law_L492 E B M V (fun i s d => f_law_L73 E B M V n i s d) (N32 i) x113 S114 D115) = some (Tf, D') ∧ Tf.2.2.1 ≤ c0 + (E.2.2.2.2.2.2.2.1 + 6) ∧ Tf.2.2.2 ≤ s0 + (E.2.2.2.2.2.2.2.1 + 6) := by
  have e6 : N32 i + (6 : Int32) = N32 (i + 6) := nb_add _ 6
  have hV := h.2.2.1
  generalize h1 : (E.2.2.2.2.2.2.2.2 (N32 i + (1 : Int32)).toNatClampNeg) = v1
  generalize h2 : (E.2.2.2.2.2.2.2.2 (N32 i + (2 : Int32)).toNatClampNeg) = v2
  rcases cf_entry h.1 v1 v2 with ⟨a, ha, hva, hvb, hth, hf⟩ | ⟨hbad, hth⟩
  · unfold fl_entry
    rw [hth]
    simp only []
    unfold f_Law_entry
    rw [hf]
    simp only [ob_bd]
    rw [if_pos (show ob_in 0 (S.2.1 V) by rw [hV]; decide)]
    simp only [ob_lt, ob_b3]
    have hI := h.long (0 : Int32).toNatClampNeg (en_v v2 ((tt_sort z.2.2.1).getD a (0, []))).toInt64
    unfold f_law_L492
    rw [ob_gt_t g1, ob_gt_t g2, h1, h2]
    rw [(mf_entry hI.2.1 v1 v2).1 a ha hva hvb]
    simp only [ob_bd, f_Model_thrown]
    rw [if_pos pI_self, if_pos (by trivial), ob_gt_t (show ob_in 0 (S.2.1 V) by rw [hV]; decide)]
    show ∃ (Tf : ob_S) (D' : ob_D), (if lg_cmp ((ob_pL D V (0 : Int32).toNatClampNeg _).2.2 V (0 : Int32).toNatClampNeg) _ = 0 then _ else none) = some (Tf, D') ∧ _
    rw [pL_self, if_pos (lg_same _), e6]
    exact ih _ _ _ _ (hI.five 0) (by omega) (by omega) (by omega)
  · unfold fl_entry
    rw [hth]
    simp only [ob_b3]
    have hI := h.new
    unfold f_law_L492
    rw [ob_gt_t g1, ob_gt_t g2, h1, h2, (mf_entry hI.2.1 v1 v2).2 hbad]
    simp only [ob_bd, f_Model_thrown]
    rw [if_pos pI_self, if_neg (by decide), e6]
    exact ih _ _ _ _ (hI.five 1) (by omega) (show S.2.2.1 + 1 ≤ c0 + (i + 6) by omega) (show S.2.2.2 + 6 ≤ s0 + (i + 6) by omega)

theorem lw_value {E : ob_E} {B M V m fr F w pt c0 s0 n i : Nat} {S : ob_S} {D : ob_D} {z : sW} {t : List Nat} (ih : lw_ih E B M V m fr F w pt c0 s0 n (i + 6)) (h : IV S D B M V m fr F w pt z t) (hck : w_ck z ≤ i) (hc0 : S.2.2.1 ≤ c0 + i) (hs0 : S.2.2.2 ≤ s0 + i) (g1 : ob_in (N32 i + (1 : Int32)) E.2.2.2.2.2.2.2.1) : ∃ (Tf : ob_S) (D' : ob_D), (ob_b3 (fl_value S B (E.2.2.2.2.2.2.2.2 (N32 i + (1 : Int32)).toNatClampNeg) V D) fun x128 S129 D130 => f_law_L392 E B M V (fun i s d => f_law_L73 E B M V n i s d) (N32 i) x128 S129 D130) = some (Tf, D') ∧ Tf.2.2.1 ≤ c0 + (E.2.2.2.2.2.2.2.1 + 6) ∧ Tf.2.2.2 ≤ s0 + (E.2.2.2.2.2.2.2.1 + 6) := by
  have e6 : N32 i + (6 : Int32) = N32 (i + 6) := nb_add _ 6
  have hV := h.2.2.1
  generalize h1 : (E.2.2.2.2.2.2.2.2 (N32 i + (1 : Int32)).toNatClampNeg) = v1
  rcases cf_value h.1 v1 with ⟨a, ha, hva, hth, hf⟩ | ⟨hbad, hth⟩
  · unfold fl_value
    rw [hth]
    simp only []
    unfold f_Law_value
    rw [hf]
    simp only [ob_bd]
    rw [if_pos (show ob_in 0 (S.2.1 V) by rw [hV]; decide)]
    simp only [ob_lt, ob_b3]
    have hI := h.long (0 : Int32).toNatClampNeg (w_par a z).toInt64
    unfold f_law_L392
    rw [ob_gt_t g1, h1]
    rw [(mf_value hI.2.1 v1).1 a ha hva]
    simp only [ob_bd, f_Model_thrown]
    rw [if_pos pI_self, if_pos (by trivial), ob_gt_t (show ob_in 0 (S.2.1 V) by rw [hV]; decide)]
    show ∃ (Tf : ob_S) (D' : ob_D), (if lg_cmp ((ob_pL D V (0 : Int32).toNatClampNeg _).2.2 V (0 : Int32).toNatClampNeg) _ = 0 then _ else none) = some (Tf, D') ∧ _
    rw [pL_self, if_pos (lg_same _), e6]
    exact ih _ _ _ _ (hI.five 0) (by omega) (by omega) (by omega)
  · unfold fl_value
    rw [hth]
    simp only [ob_b3]
    have hI := h.new
    unfold f_law_L392
    rw [ob_gt_t g1, h1, (mf_value hI.2.1 v1).2 hbad]
    simp only [ob_bd, f_Model_thrown]
    rw [if_pos pI_self, if_neg (by decide), e6]
    exact ih _ _ _ _ (hI.five 1) (by omega) (show S.2.2.1 + 1 ≤ c0 + (i + 6) by omega) (show S.2.2.2 + 6 ≤ s0 + (i + 6) by omega)

theorem lw_loop {E : ob_E} {B M V m fr F w pt c0 s0 : Nat} (hL : E.2.2.2.2.2.2.2.1 ≤ 3077) : ∀ (d n i : Nat), E.2.2.2.2.2.2.2.1 ≤ i + 6 * d + 5 → d < n → i ≤ 3083 → i ≤ E.2.2.2.2.2.2.2.1 + 6 → lw_ih E B M V m fr F w pt c0 s0 n i := by
  intro d
  induction d with
  | zero =>
    intro n i hd hn hi hiL S D z t h hck hc0 hs0
    match n, hn with
    | n + 1, _ =>
      refine ⟨S, D, ?_, by omega, by omega⟩
      rw [f_law_L73, if_pos (by rw [lw_end hL (by omega)]; omega)]
  | succ d ihd =>
    intro n i hd hn hi hiL S D z t h hck hc0 hs0
    match n, hn with
    | n + 1, hn =>
      have hLe := lw_end (L := E.2.2.2.2.2.2.2.1) (i := i) hL (by omega)
      unfold lw_go
      by_cases hend : E.2.2.2.2.2.2.2.1 < i + 6
      · refine ⟨S, D, ?_, by omega, by omega⟩
        rw [f_law_L73, if_pos (by rw [hLe]; exact hend)]
      have ih := ihd n (i + 6) (by omega) (by omega) (by omega) (by omega)
      have e6 : N32 i + (6 : Int32) = N32 (i + 6) := nb_add _ 6
      have g0 : ob_in (N32 i) E.2.2.2.2.2.2.2.1 := by rw [nb_in (by omega)]; omega
      have g1 : ob_in (N32 i + (1 : Int32)) E.2.2.2.2.2.2.2.1 := by rw [show N32 i + (1 : Int32) = N32 (i + 1) from nb_add _ 1, nb_in (by omega)]; omega
      have g2 : ob_in (N32 i + (2 : Int32)) E.2.2.2.2.2.2.2.1 := by rw [show N32 i + (2 : Int32) = N32 (i + 2) from nb_add _ 2, nb_in (by omega)]; omega
      have g3 : ob_in (N32 i + (3 : Int32)) E.2.2.2.2.2.2.2.1 := by rw [show N32 i + (3 : Int32) = N32 (i + 3) from nb_add _ 3, nb_in (by omega)]; omega
      have g4 : ob_in (N32 i + (4 : Int32)) E.2.2.2.2.2.2.2.1 := by rw [show N32 i + (4 : Int32) = N32 (i + 4) from nb_add _ 4, nb_in (by omega)]; omega
      have g5 : ob_in (N32 i + (5 : Int32)) E.2.2.2.2.2.2.2.1 := by rw [show N32 i + (5 : Int32) = N32 (i + 5) from nb_add _ 5, nb_in (by omega)]; omega
      have hM := h.2.2.2.2.1
      have hpt := h.1.pt.1
      rw [f_law_L73, if_neg (show ¬ (Int32.ofNat E.2.2.2.2.2.2.2.1 - (6 : Int32) < N32 i) by rw [hLe]; exact hend), ob_gt_t g0]
      generalize hop : E.2.2.2.2.2.2.2.2 (N32 i).toNatClampNeg &&& (15 : Int32) = op
      by_cases h0 : op = (0 : Int32)
      · rw [if_pos h0, ob_gt_t g1, ob_gt_t g2, ob_gt_t g3, ob_gt_t g4, ob_gt_t g5]
        obtain ⟨D1, D2, a1, a2, a3, a4, -⟩ := two_calls (fc := f_Box_feed S B (E.2.2.2.2.2.2.2.2 (N32 i + (1 : Int32)).toNatClampNeg) (E.2.2.2.2.2.2.2.2 (N32 i + (2 : Int32)).toNatClampNeg) (E.2.2.2.2.2.2.2.2 (N32 i + (3 : Int32)).toNatClampNeg) (E.2.2.2.2.2.2.2.2 (N32 i + (4 : Int32)).toNatClampNeg) (E.2.2.2.2.2.2.2.2 (N32 i + (5 : Int32)).toNatClampNeg)) (fm := f_Model_feed S M (E.2.2.2.2.2.2.2.2 (N32 i + (1 : Int32)).toNatClampNeg) (E.2.2.2.2.2.2.2.2 (N32 i + (2 : Int32)).toNatClampNeg) (E.2.2.2.2.2.2.2.2 (N32 i + (3 : Int32)).toNatClampNeg) (E.2.2.2.2.2.2.2.2 (N32 i + (4 : Int32)).toNatClampNeg) (E.2.2.2.2.2.2.2.2 (N32 i + (5 : Int32)).toNatClampNeg)) hM h.2.1 (cf_feed h.1 (E.2.2.2.2.2.2.2.2 (N32 i + (1 : Int32)).toNatClampNeg) (E.2.2.2.2.2.2.2.2 (N32 i + (2 : Int32)).toNatClampNeg) (E.2.2.2.2.2.2.2.2 (N32 i + (3 : Int32)).toNatClampNeg) (E.2.2.2.2.2.2.2.2 (N32 i + (4 : Int32)).toNatClampNeg) (E.2.2.2.2.2.2.2.2 (N32 i + (5 : Int32)).toNatClampNeg)) (fun D1 hD1 => mf_feed hD1 (E.2.2.2.2.2.2.2.2 (N32 i + (1 : Int32)).toNatClampNeg) (E.2.2.2.2.2.2.2.2 (N32 i + (2 : Int32)).toNatClampNeg) (E.2.2.2.2.2.2.2.2 (N32 i + (3 : Int32)).toNatClampNeg) (E.2.2.2.2.2.2.2.2 (N32 i + (4 : Int32)).toNatClampNeg) (E.2.2.2.2.2.2.2.2 (N32 i + (5 : Int32)).toNatClampNeg))
        rw [a1]
        simp only [ob_bd]
        rw [ob_gt_t g1, ob_gt_t g2, ob_gt_t g3, ob_gt_t g4, ob_gt_t g5, a2]
        simp only [ob_bd]
        rw [if_pos trivial, e6]
        exact ih _ _ _ _ (h.st a3 a4) (by omega) (by omega) (by omega)
      rw [if_neg h0]
      by_cases h1 : op = (1 : Int32)
      · rw [if_pos h1, ob_gt_t g1]
        obtain ⟨D1, D2, a1, a2, a3, a4, -⟩ := two_calls (fc := f_Box_end S B (E.2.2.2.2.2.2.2.2 (N32 i + (1 : Int32)).toNatClampNeg)) (fm := f_Model_end S M (E.2.2.2.2.2.2.2.2 (N32 i + (1 : Int32)).toNatClampNeg)) hM h.2.1 (cf_end h.1 (E.2.2.2.2.2.2.2.2 (N32 i + (1 : Int32)).toNatClampNeg)) (fun D1 hD1 => mf_end hD1 (E.2.2.2.2.2.2.2.2 (N32 i + (1 : Int32)).toNatClampNeg))
        rw [a1]
        simp only [ob_bd]
        rw [ob_gt_t g1, a2]
        simp only [ob_bd]
        rw [if_pos trivial, e6]
        exact ih _ _ _ _ (h.st a3 a4) (by omega) (by omega) (by omega)
      rw [if_neg h1]
      by_cases h2 : op = (2 : Int32)
      · rw [if_pos h2]
        obtain ⟨x, D1, D2, z', t', a1, a2, a3, a4, a5, -⟩ := two_joint (Q := fun z' => w_ck z' = w_ck z) (fc := f_Box_uplink S B) (fm := f_Model_uplink S M) hM h.2.1 (fun Dm hDm => by
          obtain ⟨x, Dc', Dm', z', b1, b2, b3, b4, b5, b6, b7⟩ := j_uplink h.1 hDm
          exact ⟨x, Dc', Dm', z', [], b1, b2, b3, b4, b5, b6, b7⟩)
        rw [a1]
        simp only [ob_bd]
        rw [a2]
        simp only [ob_bd]
        rw [if_pos trivial, e6]
        exact ih _ _ _ _ (h.st a3 a4) (by rw [a5]; omega) (by omega) (by omega)
      rw [if_neg h2]
      by_cases h3 : op = (3 : Int32)
      · rw [if_pos h3, ob_gt_t g1, ob_gt_t g2]
        obtain ⟨D1, D2, a1, a2, a3, a4, -⟩ := two_calls (fc := f_Box_sense S B (E.2.2.2.2.2.2.2.2 (N32 i + (1 : Int32)).toNatClampNeg) (E.2.2.2.2.2.2.2.2 (N32 i + (2 : Int32)).toNatClampNeg)) (fm := f_Model_sense S M (E.2.2.2.2.2.2.2.2 (N32 i + (1 : Int32)).toNatClampNeg) (E.2.2.2.2.2.2.2.2 (N32 i + (2 : Int32)).toNatClampNeg)) hM h.2.1 (cf_sense h.1 (E.2.2.2.2.2.2.2.2 (N32 i + (1 : Int32)).toNatClampNeg) (E.2.2.2.2.2.2.2.2 (N32 i + (2 : Int32)).toNatClampNeg)) (fun D1 hD1 => mf_sense hD1 (E.2.2.2.2.2.2.2.2 (N32 i + (1 : Int32)).toNatClampNeg) (E.2.2.2.2.2.2.2.2 (N32 i + (2 : Int32)).toNatClampNeg))
        rw [a1]
        simp only [ob_bd]
        rw [ob_gt_t g1, ob_gt_t g2, a2]
        simp only [ob_bd]
        rw [if_pos trivial, e6]
        exact ih _ _ _ _ (h.st a3 a4) (by rw [w_sn_ck]; omega) (by omega) (by omega)
      rw [if_neg h3]
      by_cases h4 : op = (4 : Int32)
      · rw [if_pos h4]
        obtain ⟨x, D1, D2, z', t', a1, a2, a3, a4, a5, -⟩ := two_joint (Q := fun z' => w_ck z' = w_ck z + 1) (fc := f_Box_tick S B) (fm := f_Model_tick S M) hM h.2.1 (fun Dm hDm => by
          obtain ⟨x, Dc', Dm', z', b1, b2, b3, b4, b5, b6, b7⟩ := j_tick h.1.1 (by omega) h.1.2.2 hDm.1
          exact ⟨x, Dc', Dm', z', t, b1, b2, ⟨h.1.1.keep b6 (by omega), h.1.2.1.keep b6 (by omega) (by omega) rfl, b3⟩, ⟨b4, hDm.2.keep b7.up (by omega) (by omega)⟩, b5, b6.mono (fun y k e => by omega), (b7.mono (fun y k e => by omega)).up⟩)
        rw [a1]
        simp only [ob_bd]
        rw [a2]
        simp only [ob_bd]
        rw [if_pos trivial, e6]
        exact ih _ _ _ _ (h.st a3 a4) (by rw [a5]; omega) (by omega) (by omega)
      rw [if_neg h4]
      by_cases h5 : op = (5 : Int32)
      · rw [if_pos h5, ob_gt_t g1, ob_gt_t g2]
        exact lw_down ih h hck hc0 hs0 g1 g2
      rw [if_neg h5]
      by_cases h6 : op = (6 : Int32)
      · rw [if_pos h6, ob_gt_t g1]
        exact lw_value ih h hck hc0 hs0 g1
      rw [if_neg h6]
      by_cases h7 : op = (7 : Int32)
      · rw [if_pos h7]
        obtain ⟨D1, D2, a1, a2, a3, a4, -⟩ := two_calls (fc := f_Box_word S B) (fm := f_Model_word S M) hM h.2.1 ⟨D, cf_word h.1, h.1, og.rf⟩ (fun D1 hD1 => mf_word hD1)
        rw [a1]
        simp only [ob_bd]
        rw [a2]
        simp only [ob_bd]
        rw [if_pos trivial, e6]
        exact ih _ _ _ _ (h.st a3 a4) (by omega) (by omega) (by omega)
      rw [if_neg h7]
      by_cases h8 : op = (8 : Int32)
      · rw [if_pos h8, ob_gt_t g1]
        obtain ⟨D1, D2, a1, a2, a3, a4, -⟩ := two_calls (fc := f_Box_memory S B (E.2.2.2.2.2.2.2.2 (N32 i + (1 : Int32)).toNatClampNeg)) (fm := f_Model_memory S M (E.2.2.2.2.2.2.2.2 (N32 i + (1 : Int32)).toNatClampNeg)) hM h.2.1 ⟨D, cf_memory h.1 (E.2.2.2.2.2.2.2.2 (N32 i + (1 : Int32)).toNatClampNeg), h.1, og.rf⟩ (fun D1 hD1 => mf_memory hD1 (E.2.2.2.2.2.2.2.2 (N32 i + (1 : Int32)).toNatClampNeg))
        rw [a1]
        simp only [ob_bd]
        rw [ob_gt_t g1, a2]
        simp only [ob_bd]
        rw [if_pos trivial, e6]
        exact ih _ _ _ _ (h.st a3 a4) (by omega) (by omega) (by omega)
      rw [if_neg h8]
      by_cases h9 : op = (9 : Int32)
      · rw [if_pos h9, ob_gt_t g1, ob_gt_t g2]
        exact lw_entry ih h hck hc0 hs0 g1 g2
      rw [if_neg h9]
      by_cases h10 : op = (10 : Int32)
      · rw [if_pos h10, ob_gt_t g1, ob_gt_t g2]
        obtain ⟨D1, D2, a1, a2, a3, a4, -⟩ := two_calls (fc := f_Box_limit S B (E.2.2.2.2.2.2.2.2 (N32 i + (1 : Int32)).toNatClampNeg) (E.2.2.2.2.2.2.2.2 (N32 i + (2 : Int32)).toNatClampNeg)) (fm := f_Model_limit S M (E.2.2.2.2.2.2.2.2 (N32 i + (1 : Int32)).toNatClampNeg) (E.2.2.2.2.2.2.2.2 (N32 i + (2 : Int32)).toNatClampNeg)) hM h.2.1 ⟨D, cf_limit h.1 (E.2.2.2.2.2.2.2.2 (N32 i + (1 : Int32)).toNatClampNeg) (E.2.2.2.2.2.2.2.2 (N32 i + (2 : Int32)).toNatClampNeg), h.1, og.rf⟩ (fun D1 hD1 => mf_limit hD1 (E.2.2.2.2.2.2.2.2 (N32 i + (1 : Int32)).toNatClampNeg) (E.2.2.2.2.2.2.2.2 (N32 i + (2 : Int32)).toNatClampNeg))
        rw [a1]
        simp only [ob_bd]
        rw [ob_gt_t g1, ob_gt_t g2, a2]
        simp only [ob_bd]
        rw [if_pos trivial, e6]
        exact ih _ _ _ _ (h.st a3 a4) (by omega) (by omega) (by omega)
      rw [if_neg h10]
      by_cases h11 : op = (11 : Int32)
      · rw [if_pos h11, ob_gt_t g1]
        obtain ⟨D1, D2, a1, a2, a3, a4, -⟩ := two_calls (fc := f_Box_state S B (E.2.2.2.2.2.2.2.2 (N32 i + (1 : Int32)).toNatClampNeg)) (fm := f_Model_state S M (E.2.2.2.2.2.2.2.2 (N32 i + (1 : Int32)).toNatClampNeg)) hM h.2.1 ⟨D, cf_state h.1 (E.2.2.2.2.2.2.2.2 (N32 i + (1 : Int32)).toNatClampNeg), h.1, og.rf⟩ (fun D1 hD1 => mf_state hD1 (E.2.2.2.2.2.2.2.2 (N32 i + (1 : Int32)).toNatClampNeg))
        rw [a1]
        simp only [ob_bd]
        rw [ob_gt_t g1, a2]
        simp only [ob_bd]
        rw [if_pos trivial, e6]
        exact ih _ _ _ _ (h.st a3 a4) (by omega) (by omega) (by omega)
      rw [if_neg h11]
      rw [e6]
      exact ih _ _ _ _ h (by omega) (by omega) (by omega)
