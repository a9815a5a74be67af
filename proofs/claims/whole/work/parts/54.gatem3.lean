-- ===== the reference's gate: receiving =====
theorem gtm_numbered {S : ob_S} {D : ob_D} {M : Nat} {c : List Nat} {z : sGt} (hc : mCd S D M c) (hz : mGt S D M z) (h7 : 7 ≤ nn c 2 2) (hl : nn c 2 2 + 1 ≤ c.length) : ∃ D', f_Model_numberedCame S M (N32 (nn c 2 2 - 6)) (N32 (gt_ahead c z.2.1)) D = some D' ∧ mGt S D' M (gt_turn c z).2 ∧ (gt_turn c z).2.2.2.2.2.2.2.1 = z.2.2.2.2.2.2.1 + bI (gt_turn c z).1 ∧ og (mGtP M) D D' := by
  obtain ⟨st, nx, bs, wt, ag, rf, ac, q⟩ := z
  obtain ⟨hq, hF⟩ := hz
  have hF' := hF
  obtain ⟨f3, fs, f4, fn, f7, fb, f5, f6, f8, f9⟩ := hF'
  have hah : gt_ahead c nx < 256 := Nat.mod_lt _ (by decide)
  have gM : ∀ {P : Nat → Nat → Prop} {D1 D2 : ob_D}, og P D1 D2 → (∀ y k, P y k → mGtP M y k) → og (mGtP M) D1 D2 := fun h hP => h.mono hP
  show ∃ D', f_Model_numberedCame S M (N32 (nn c 2 2 - 6)) (N32 (gt_ahead c nx)) D = some D' ∧ mGt S D' M (gt_turn c (st, nx, bs, wt, ag, rf, ac, q)).2 ∧ _ ∧ _
  have h66 : st = 1 → gt_ahead c nx = 0 → False ∨ True := fun _ _ => Or.inr trivial
  have l93 : ¬ (st = 1 ∧ gt_ahead c nx ≤ 9) → ∃ D', f_Model_numberedCame_L93 S M (N32 (gt_ahead c nx)) D = some D' ∧ mGt S D' M (gt_turn c (st, nx, bs, wt, ag, rf, ac, q)).2 ∧ (gt_turn c (st, nx, bs, wt, ag, rf, ac, q)).2.2.2.2.2.2.2.1 = ac + bI (gt_turn c (st, nx, bs, wt, ag, rf, ac, q)).1 ∧ og (mGtP M) D D' := by
    intro hn
    have hn0 : ¬ (st = 1 ∧ gt_ahead c nx = 0) := fun e => hn ⟨e.1, by omega⟩
    unfold f_Model_numberedCame_L93
    simp only [ob_lt]
    rw [show (10 : Int32) = N32 10 from rfl, if_lt (by omega) (by decide)]
    by_cases h10 : gt_ahead c nx < 10
    · have hT : gt_turn c (st, nx, bs, wt, ag, rf, ac, q) = (false, (st, nx, bs, wt, ag, rf, ac, q)) := by
        show (if _ then _ else _) = _
        rw [if_neg hn0, if_neg hn, if_neg (by omega)]
      rw [if_pos h10, hT]
      exact ⟨D, rfl, ⟨hq, hF⟩, (Int32.add_zero _).symm, og.rf⟩
    · rw [if_neg h10, show (245 : Int32) = N32 245 from rfl, if_lt (by decide) (by omega)]
      by_cases h245 : 245 < gt_ahead c nx
      · have hT : gt_turn c (st, nx, bs, wt, ag, rf, ac, q) = (false, (st, nx, bs, wt, ag, rf, ac, q)) := by
          show (if _ then _ else _) = _
          rw [if_neg hn0, if_neg hn, if_neg (by omega)]
        rw [if_pos h245, hT]
        exact ⟨D, rfl, ⟨hq, hF⟩, (Int32.add_zero _).symm, og.rf⟩
      · have hT : gt_turn c (st, nx, bs, wt, ag, rf, ac, q) = (false, (3, nx, bs, wt, ag, rf, ac, q)) := by
          show (if _ then _ else _) = _
          rw [if_neg hn0, if_neg hn, if_pos (by omega)]
        rw [if_neg h245, hT, f3, show (3 : Int32) = N32 3 from rfl, if_en (by omega) (by decide)]
        by_cases hs3 : st = 3
        · rw [if_pos hs3]
          rw [hs3] at hF
          exact ⟨D, rfl, ⟨hq, hF⟩, (Int32.add_zero _).symm, og.rf⟩
        · rw [if_neg hs3]
          have gq : og (fun y k => y = M ∧ k = 19) D (ob_pI D M 19 (N32 3)) := og.pI ⟨rfl, rfl⟩
          refine ⟨_, rfl, ⟨hq.keep gq (fun k hk e => by omega) (fun y k h1 e => by omega) (fun _ _ _ => rfl), ?_⟩, (Int32.add_zero _).symm, gM gq (fun y k e => by unfold mGtP; omega)⟩
          exact ⟨by simp [ob_pI], by omega, by rw [(gq M 20 (by omega)).1]; exact f4, fn, by rw [(gq M 21 (by omega)).1]; exact f7, fb, by rw [(gq M 22 (by omega)).1]; exact f5, by rw [(gq M 23 (by omega)).1]; exact f6, by rw [(gq M 16 (by omega)).1]; exact f8, by rw [(gq M 17 (by omega)).1]; exact f9⟩
  have l66 : ¬ (st = 1 ∧ gt_ahead c nx = 0) → ∃ D', f_Model_numberedCame_L66 S M (N32 (gt_ahead c nx)) D = some D' ∧ mGt S D' M (gt_turn c (st, nx, bs, wt, ag, rf, ac, q)).2 ∧ (gt_turn c (st, nx, bs, wt, ag, rf, ac, q)).2.2.2.2.2.2.2.1 = ac + bI (gt_turn c (st, nx, bs, wt, ag, rf, ac, q)).1 ∧ og (mGtP M) D D' := by
    intro hn0
    unfold f_Model_numberedCame_L66
    simp only [ob_lt]
    rw [show (1 : Int32) = N32 1 from rfl, if_lt (by omega) (by decide)]
    by_cases h1 : gt_ahead c nx < 1
    · rw [if_pos h1]
      exact l93 (fun e => hn0 ⟨e.1, by omega⟩)
    · rw [if_neg h1, show (9 : Int32) = N32 9 from rfl, if_lt (by decide) (by omega)]
      by_cases h9 : 9 < gt_ahead c nx
      · rw [if_pos h9]
        exact l93 (fun e => by omega)
      · rw [if_neg h9, f3, if_en (by omega) (by decide)]
        by_cases hs1 : st = 1
        · have hT : gt_turn c (st, nx, bs, wt, ag, rf, ac, q) = (false, (st, nx, bs, wt, true, rf, ac, q)) := by
            show (if _ then _ else _) = _
            rw [if_neg hn0, if_pos ⟨hs1, by omega⟩]
          rw [if_pos hs1, hT]
          have gq : og (fun y k => y = M ∧ k = 23) D (ob_pI D M 23 (N32 1)) := og.pI ⟨rfl, rfl⟩
          refine ⟨_, rfl, ⟨hq.keep gq (fun k hk e => by omega) (fun y k h1 e => by omega) (fun _ _ _ => rfl), ?_⟩, (Int32.add_zero _).symm, gM gq (fun y k e => by unfold mGtP; omega)⟩
          exact ⟨by rw [(gq M 19 (by omega)).1]; exact f3, fs, by rw [(gq M 20 (by omega)).1]; exact f4, fn, by rw [(gq M 21 (by omega)).1]; exact f7, fb, by rw [(gq M 22 (by omega)).1]; exact f5, by simp [ob_pI, bI]; rfl, by rw [(gq M 16 (by omega)).1]; exact f8, by rw [(gq M 17 (by omega)).1]; exact f9⟩
        · rw [if_neg hs1]
          exact l93 (fun e => hs1 e.1)
  unfold f_Model_numberedCame
  simp only [ob_lt]
  rw [f3]
  by_cases h0 : gt_ahead c nx = 0
  · rw [if_pos (by rw [h0]; rfl)]
    by_cases hs1 : st = 1
    · rw [if_pos (by rw [hs1]; rfl), hq.2.2.2.2.1, show (8 : Int32) = N32 8 from rfl, if_le (by decide) (by have := hq.2.2.2.2.2.1; omega)]
      by_cases h8 : q.length < 8
      · have hT : gt_turn c (st, nx, bs, wt, ag, rf, ac, q) = (true, (st, (nx + 1) % 256, bs, wt, false, rf, ac + 1, q ++ [gt_body c])) := by
          show (if _ then _ else _) = _
          rw [if_pos ⟨hs1, h0⟩, if_pos h8]
        rw [if_neg (by omega), hT]
        obtain ⟨D1, p1, p2, p3, p4⟩ := gtm_queue hc hq h8 hl
        rw [p1]
        simp only [ob_bv]
        have e20 : (D1.1 M 20 + (1 : Int32)) - (D1.1 M 20 + (1 : Int32)) / (256 : Int32) * (256 : Int32) = N32 ((nx + 1) % 256) := by
          rw [(p4 M 20 (by omega)).1, f4, show (1 : Int32) = N32 1 from rfl, nb_add, show (256 : Int32) = N32 256 from rfl, n_rem _ _ (by omega) (by decide)]
        rw [e20]
        have gq : og (fun y k => y = M ∧ (k = 20 ∨ k = 23)) D1 (ob_pI (ob_pI D1 M 20 (N32 ((nx + 1) % 256))) M 23 0) := (og.pI ⟨rfl, Or.inl rfl⟩).tr (og.pI ⟨rfl, Or.inr rfl⟩)
        refine ⟨_, rfl, ⟨p2.keep gq (fun k hk e => by omega) (fun y k h1 e => by omega) (fun _ _ _ => rfl), ?_⟩, rfl, (gM p4 (fun y k e => by unfold mGtP; omega)).tr (gM gq (fun y k e => by unfold mGtP; omega))⟩
        exact ⟨by rw [(gq M 19 (by omega)).1, (p4 M 19 (by omega)).1]; exact f3, fs, by simp [ob_pI], by omega, by rw [(gq M 21 (by omega)).1, (p4 M 21 (by omega)).1]; exact f7, fb, by rw [(gq M 22 (by omega)).1, (p4 M 22 (by omega)).1]; exact f5, by simp [ob_pI, bI], by rw [(gq M 16 (by omega)).1, (p4 M 16 (by omega)).1]; exact f8, by rw [(gq M 17 (by omega)).1, p3, f9]⟩
      · have hT : gt_turn c (st, nx, bs, wt, ag, rf, ac, q) = (false, (2, nx, bs, true, true, rf, ac, q)) := by
          show (if _ then _ else _) = _
          rw [if_pos ⟨hs1, h0⟩, if_neg h8]
        rw [if_pos (by omega), hT]
        have gq : og (fun y k => y = M ∧ (k = 23 ∨ k = 22 ∨ k = 19)) D (ob_pI (ob_pI (ob_pI D M 23 1) M 22 1) M 19 2) := ((og.pI ⟨rfl, Or.inl rfl⟩).tr (og.pI ⟨rfl, Or.inr (Or.inl rfl)⟩)).tr (og.pI ⟨rfl, Or.inr (Or.inr rfl)⟩)
        refine ⟨_, rfl, ⟨hq.keep gq (fun k hk e => by omega) (fun y k h1 e => by omega) (fun _ _ _ => rfl), ?_⟩, (Int32.add_zero _).symm, gM gq (fun y k e => by unfold mGtP; omega)⟩
        exact ⟨by simp [ob_pI]; rfl, by omega, by rw [(gq M 20 (by omega)).1]; exact f4, fn, by rw [(gq M 21 (by omega)).1]; exact f7, fb, by simp [ob_pI, bI], by simp [ob_pI, bI], by rw [(gq M 16 (by omega)).1]; exact f8, by rw [(gq M 17 (by omega)).1]; exact f9⟩
    · rw [if_neg (by rw [show (1 : Int32) = N32 1 from rfl, nb_eq (by omega) (by decide)]; exact hs1)]
      exact l66 (fun e => hs1 e.1)
  · rw [if_neg (by rw [show (0 : Int32) = N32 0 from rfl, nb_eq (by omega) (by decide)]; exact h0)]
    exact l66 (fun e => h0 e.2)
theorem gtm_control {S : ob_S} {D : ob_D} {M : Nat} {c : List Nat} {z : sGt} (hc : mCd S D M c) (hz : mGt S D M z) (hd : nn c 2 2 = 7 ∨ nn c 2 2 = 9) (hl : nn c 2 2 + 1 ≤ c.length) : ∃ D', f_Model_controlCame S M (N32 (nn c 2 2 - 6)) D = some D' ∧ mGt S D' M (gt_obey c z).2 ∧ (gt_obey c z).1 = false ∧ (gt_obey c z).2.2.2.2.2.2.2.1 = z.2.2.2.2.2.2.1 ∧ og (mGtP M) D D' := by
  obtain ⟨st, nx, bs, wt, ag, rf, ac, q⟩ := z
  obtain ⟨hq, f3, fs, f4, fn, f7, fb, f5, f6, f8, f9⟩ := hz
  have gM : ∀ {P : Nat → Nat → Prop} {D1 D2 : ob_D}, og P D1 D2 → (∀ y k, P y k → mGtP M y k) → og (mGtP M) D1 D2 := fun h hP => h.mono hP
  have e7 : (D.1 M 21 + (1 : Int32)) - (D.1 M 21 + (1 : Int32)) / (4 : Int32) * (4 : Int32) = N32 ((bs + 1) % 4) := by
    rw [f7, show (1 : Int32) = N32 1 from rfl, nb_add, show (4 : Int32) = N32 4 from rfl, n_rem _ _ (by omega) (by decide)]
  unfold f_Model_controlCame
  simp only [ob_lt]
  rw [e7, show (1 : Int32) = N32 1 from rfl, if_en (by omega) (by decide)]
  by_cases h9 : nn c 2 2 = 9
  · rw [if_neg (by omega)]
    have k3 : (ob_pI D M 21 (N32 ((bs + 1) % 4))).1 M 19 = N32 st := by simp [ob_pI, f3]
    rw [k3, show (3 : Int32) = N32 3 from rfl, if_en (by omega) (by decide)]
    by_cases hs3 : st = 3
    · have hT : gt_obey c (st, nx, bs, wt, ag, rf, ac, q) = (false, (st, nx, (bs + 1) % 4, wt, ag, rf, ac, q)) := by
        show (if _ then _ else _) = _
        rw [if_pos h9, if_pos hs3]
      rw [if_pos hs3, hT]
      have gq : og (fun y k => y = M ∧ k = 21) D (ob_pI D M 21 (N32 ((bs + 1) % 4))) := og.pI ⟨rfl, rfl⟩
      refine ⟨_, rfl, ⟨hq.keep gq (fun k hk e => by omega) (fun y k h1 e => by omega) (fun _ _ _ => rfl), ?_⟩, rfl, rfl, gM gq (fun y k e => by unfold mGtP; omega)⟩
      exact ⟨k3, fs, by rw [(gq M 20 (by omega)).1]; exact f4, fn, by simp [ob_pI], by omega, by rw [(gq M 22 (by omega)).1]; exact f5, by rw [(gq M 23 (by omega)).1]; exact f6, by rw [(gq M 16 (by omega)).1]; exact f8, by rw [(gq M 17 (by omega)).1]; exact f9⟩
    · have hT : gt_obey c (st, nx, bs, wt, ag, rf, ac, q) = (false, (1, c.getD 7 0, (bs + 1) % 4, false, false, rf, ac, q)) := by
        show (if _ then _ else _) = _
        rw [if_pos h9, if_neg hs3]
      rw [if_neg hs3, hT]
      have j1 : (ob_pI (ob_pI (ob_pI D M 21 (N32 ((bs + 1) % 4))) M 23 0) M 22 0).2.1 M 13 = M + 3 := hc.1
      have b7 := by_getD_lt hc.2.2.2.1.2 7
      have j2 : (ob_pI (ob_pI (ob_pI D M 21 (N32 ((bs + 1) % 4))) M 23 0) M 22 0).1 (M + 3) (7 : Int32).toNatClampNeg &&& (255 : Int32) = N32 (c.getD 7 0) := by
        have := hc.2.2.2.1.1 7 (by omega)
        rw [Nat.zero_add] at this
        have t : (ob_pI (ob_pI (ob_pI D M 21 (N32 ((bs + 1) % 4))) M 23 0) M 22 0).1 (M + 3) (7 : Int32).toNatClampNeg = D.1 (M + 3) 7 := by
          show (if M + 3 = M ∧ _ then _ else if M + 3 = M ∧ _ then _ else if M + 3 = M ∧ _ then _ else _) = _
          rw [if_neg (by omega), if_neg (by omega), if_neg (by omega)]
          rfl
        rw [t, this, sb_255 b7]
      rw [j1, if_pos (by omega), hc.2.1, if_pos (by decide), j2]
      have gq : og (fun y k => y = M ∧ (k = 21 ∨ k = 23 ∨ k = 22 ∨ k = 20 ∨ k = 19)) D (ob_pI (ob_pI (ob_pI (ob_pI (ob_pI D M 21 (N32 ((bs + 1) % 4))) M 23 0) M 22 0) M 20 (N32 (c.getD 7 0))) M 19 (N32 1)) := ((((og.pI ⟨rfl, by omega⟩).tr (og.pI ⟨rfl, by omega⟩)).tr (og.pI ⟨rfl, by omega⟩)).tr (og.pI ⟨rfl, by omega⟩)).tr (og.pI ⟨rfl, by omega⟩)
      refine ⟨_, rfl, ⟨hq.keep gq (fun k hk e => by omega) (fun y k h1 e => by omega) (fun _ _ _ => rfl), ?_⟩, rfl, rfl, gM gq (fun y k e => by unfold mGtP; omega)⟩
      exact ⟨by simp [ob_pI], by omega, by simp [ob_pI], b7, by simp [ob_pI], by omega, by simp [ob_pI, bI], by simp [ob_pI, bI], by rw [(gq M 16 (by omega)).1]; exact f8, by rw [(gq M 17 (by omega)).1]; exact f9⟩
  · have hT : gt_obey c (st, nx, bs, wt, ag, rf, ac, q) = (false, (1, nx, (bs + 1) % 4, false, false, rf, ac, q)) := by
      show (if _ then _ else _) = _
      rw [if_neg h9]
    rw [if_pos (by omega), hT]
    have gq : og (fun y k => y = M ∧ (k = 21 ∨ k = 23 ∨ k = 22 ∨ k = 19)) D (ob_pI (ob_pI (ob_pI (ob_pI D M 21 (N32 ((bs + 1) % 4))) M 23 0) M 22 0) M 19 (N32 1)) := (((og.pI ⟨rfl, by omega⟩).tr (og.pI ⟨rfl, by omega⟩)).tr (og.pI ⟨rfl, by omega⟩)).tr (og.pI ⟨rfl, by omega⟩)
    refine ⟨_, rfl, ⟨hq.keep gq (fun k hk e => by omega) (fun y k h1 e => by omega) (fun _ _ _ => rfl), ?_⟩, rfl, rfl, gM gq (fun y k e => by unfold mGtP; omega)⟩
    exact ⟨by simp [ob_pI], by omega, by rw [(gq M 20 (by omega)).1]; exact f4, fn, by simp [ob_pI], by omega, by simp [ob_pI, bI], by simp [ob_pI, bI], by rw [(gq M 16 (by omega)).1]; exact f8, by rw [(gq M 17 (by omega)).1]; exact f9⟩
theorem gtm_frame {S : ob_S} {D : ob_D} {M : Nat} {c : List Nat} {z : sGt} (hc : mCd S D M c) (hz : mGt S D M z) : ∃ D', f_Model_frameCame S M D = some D' ∧ mGt S D' M (gt_receive c z).2 ∧ (gt_receive c z).2.2.2.2.2.2.2.1 = z.2.2.2.2.2.2.1 + bI (gt_receive c z).1 ∧ og (mGtP M) D D' := by
  have hcc := hc
  obtain ⟨h1, h2, h3, h4, h5, h6⟩ := hc
  have t0 : f_Model_two S (M + 3) 0 D = _ := ba_two h4 (by omega) (by omega) (i := 0) (by omega)
  have t2 : f_Model_two S (M + 3) 2 D = _ := ba_two h4 (by omega) (by omega) (i := 2) (by omega)
  unfold f_Model_frameCame
  rw [gtm_valid hcc]
  simp only [ob_bd, ob_lt]
  rw [if_bI]
  unfold gt_receive
  by_cases hv : gt_valid c = true
  · obtain ⟨h7, hu, hl, hh, hdir⟩ := gt_form_ok hv
    have hm : nn c 0 2 = 346 ∨ nn c 0 2 = 4442 ∨ nn c 0 2 = 8538 ∨ nn c 0 2 = 12634 := by omega
    have m1 := and_4096 _ hm
    have m2 := and_8192 _ hm
    have eb : (N32 (nn c 2 2) &&& (1023 : Int32)) - (6 : Int32) = N32 (nn c 2 2 - 6) := by
      rw [n_1023, Nat.mod_eq_of_lt (by omega), show (6 : Int32) = N32 6 from rfl, nb_sub (by omega)]
    rw [if_pos hv, if_pos hv, h1, if_pos (by omega), t0]
    simp only
    rw [h1, if_pos (by omega), t2]
    simp only
    rw [eb]
    have b4 := by_getD_lt h4.2 4
    by_cases hA : nn c 0 2 = 346
    · rw [if_pos hA, if_pos (by rw [m2]; exact Or.inl hA)]
      unfold f_Model_frameCame_L56
      rw [if_pos (by rw [m1]; exact Or.inl hA)]
      unfold f_Model_frameCame_L70
      rw [if_pos (by rfl), if_pos (by rfl), h1, if_pos (by omega), h2, if_pos (by decide)]
      have e4 : D.1 (M + 3) (4 : Int32).toNatClampNeg &&& (255 : Int32) = N32 (c.getD 4 0) := by
        have := h4.1 4 (by omega)
        rw [Nat.zero_add] at this
        have t : D.1 (M + 3) (4 : Int32).toNatClampNeg = D.1 (M + 3) 4 := rfl
        rw [t, this, sb_255 b4]
      obtain ⟨st, nx, bs, wt, ag, rf, ac, q⟩ := z
      have f4 := hz.2.2.2.1
      have fn := hz.2.2.2.2.1
      have ea : (((D.1 (M + 3) (4 : Int32).toNatClampNeg &&& (255 : Int32)) - D.1 M 20) + (256 : Int32)) - (((D.1 (M + 3) (4 : Int32).toNatClampNeg &&& (255 : Int32)) - D.1 M 20) + (256 : Int32)) / (256 : Int32) * (256 : Int32) = N32 (gt_ahead c nx) := by
        have e5 : (N32 (c.getD 4 0) - N32 nx) + (256 : Int32) = N32 (c.getD 4 0 + 256 - nx) := by
          rw [← nb_sub (show nx ≤ c.getD 4 0 + 256 by omega), ← nb_add, Int32.sub_eq_add_neg, Int32.sub_eq_add_neg, Int32.add_assoc, Int32.add_comm (-N32 nx), ← Int32.add_assoc]
          rfl
        rw [e4, f4, e5, show (256 : Int32) = N32 256 from rfl, n_rem _ _ (by omega) (by decide)]
        rfl
      rw [ea, ob_bv_id]
      exact gtm_numbered hcc hz h7 hl
    · rw [if_neg hA, if_neg (by rw [m2]; omega)]
      unfold f_Model_frameCame_L56
      by_cases hB : nn c 0 2 = 8538
      · rw [if_pos hB, if_pos (by rw [m1]; exact Or.inr hB)]
        unfold f_Model_frameCame_L70
        rw [if_pos (by rfl), if_neg (by decide)]
        obtain ⟨st, nx, bs, wt, ag, rf, ac, q⟩ := z
        obtain ⟨hq, f3, fs, f4, fn, f7, fb, f5, f6, f8, f9⟩ := hz
        rw [hq.2.2.2.2.1, show (8 : Int32) = N32 8 from rfl, if_le (by decide) (by have := hq.2.2.2.2.2.1; omega)]
        simp only [ob_lt]
        by_cases h8 : q.length < 8
        · have hT : gt_beside c (st, nx, bs, wt, ag, rf, ac, q) = (true, (st, nx, (bs + 1) % 4, wt, ag, rf, ac + 1, q ++ [gt_body c])) := by
            show (if _ then _ else _) = _
            rw [if_pos h8]
          rw [if_neg (by omega), hT]
          obtain ⟨D1, p1, p2, p3, p4⟩ := gtm_queue hcc hq h8 hl
          rw [p1]
          simp only [ob_bv]
          have e20 : (D1.1 M 21 + (1 : Int32)) - (D1.1 M 21 + (1 : Int32)) / (4 : Int32) * (4 : Int32) = N32 ((bs + 1) % 4) := by
            rw [(p4 M 21 (by omega)).1, f7, show (1 : Int32) = N32 1 from rfl, nb_add, show (4 : Int32) = N32 4 from rfl, n_rem _ _ (by omega) (by decide)]
          rw [e20]
          have gq : og (fun y k => y = M ∧ k = 21) D1 (ob_pI D1 M 21 (N32 ((bs + 1) % 4))) := og.pI ⟨rfl, rfl⟩
          refine ⟨_, rfl, ⟨p2.keep gq (fun k hk e => by omega) (fun y k h1 e => by omega) (fun _ _ _ => rfl), ?_⟩, rfl, (p4.mono (fun y k e => by unfold mGtP; omega)).tr (gq.mono (fun y k e => by unfold mGtP; omega))⟩
          exact ⟨by rw [(gq M 19 (by omega)).1, (p4 M 19 (by omega)).1]; exact f3, fs, by rw [(gq M 20 (by omega)).1, (p4 M 20 (by omega)).1]; exact f4, fn, by simp [ob_pI], by omega, by rw [(gq M 22 (by omega)).1, (p4 M 22 (by omega)).1]; exact f5, by rw [(gq M 23 (by omega)).1, (p4 M 23 (by omega)).1]; exact f6, by rw [(gq M 16 (by omega)).1, (p4 M 16 (by omega)).1]; exact f8, by rw [(gq M 17 (by omega)).1, p3, f9]⟩
        · have hT : gt_beside c (st, nx, bs, wt, ag, rf, ac, q) = (false, (st, nx, bs, wt, ag, rf + 1, ac, q)) := by
            show (if _ then _ else _) = _
            rw [if_neg h8]
          rw [if_pos (by omega), hT]
          have gq : og (fun y k => y = M ∧ k = 16) D (ob_pI D M 16 (D.1 M 16 + 1)) := og.pI ⟨rfl, rfl⟩
          refine ⟨_, rfl, ⟨hq.keep gq (fun k hk e => by omega) (fun y k h1 e => by omega) (fun _ _ _ => rfl), ?_⟩, (Int32.add_zero _).symm, gq.mono (fun y k e => by unfold mGtP; omega)⟩
          exact ⟨by rw [(gq M 19 (by omega)).1]; exact f3, fs, by rw [(gq M 20 (by omega)).1]; exact f4, fn, by rw [(gq M 21 (by omega)).1]; exact f7, fb, by rw [(gq M 22 (by omega)).1]; exact f5, by rw [(gq M 23 (by omega)).1]; exact f6, by simp [ob_pI, f8], by rw [(gq M 17 (by omega)).1]; exact f9⟩
      · rw [if_neg hB, if_neg (by rw [m1]; omega)]
        unfold f_Model_frameCame_L70
        rw [if_neg (by decide), ob_bv_id]
        have hdr := hdir (by omega)
        have hd79 : nn c 2 2 = 7 ∨ nn c 2 2 = 9 := by
          unfold gt_dir at hdr
          simp only [Bool.or_eq_true, Bool.and_eq_true, beq_iff_eq] at hdr
          rcases hdr with e | e
          · exact Or.inl e.1
          · exact Or.inr e.1
        obtain ⟨D', q1, q2, q3, q4, q5⟩ := gtm_control hcc hz hd79 hl
        refine ⟨D', q1, q2, ?_, q5⟩
        rw [q3, q4]
        exact (Int32.add_zero _).symm
  · rw [if_neg hv, if_neg hv]
    obtain ⟨st, nx, bs, wt, ag, rf, ac, q⟩ := z
    obtain ⟨hq, f3, fs, f4, fn, f7, fb, f5, f6, f8, f9⟩ := hz
    have gq : og (fun y k => y = M ∧ k = 16) D (ob_pI D M 16 (D.1 M 16 + 1)) := og.pI ⟨rfl, rfl⟩
    refine ⟨_, rfl, ⟨hq.keep gq (fun k hk e => by omega) (fun y k h1 e => by omega) (fun _ _ _ => rfl), ?_⟩, (Int32.add_zero _).symm, gq.mono (fun y k e => by unfold mGtP; omega)⟩
    exact ⟨by rw [(gq M 19 (by omega)).1]; exact f3, fs, by rw [(gq M 20 (by omega)).1]; exact f4, fn, by rw [(gq M 21 (by omega)).1]; exact f7, fb, by rw [(gq M 22 (by omega)).1]; exact f5, by rw [(gq M 23 (by omega)).1]; exact f6, by simp [ob_pI, f8], by rw [(gq M 17 (by omega)).1]; exact f9⟩
theorem gtm_word {S : ob_S} {D : ob_D} {M : Nat} {z : sGt} (hz : mGt S D M z) : f_Model_theWord S M D = some (N32 (gt_word z), D) := by
  obtain ⟨st, nx, bs, wt, ag, rf, ac, q⟩ := z
  obtain ⟨hq, f3, fs, f4, fn, f7, fb, f5, f6, f8, f9⟩ := hz
  have l41 : ∀ x y : Nat, f_Model_theWord_L41 S M (N32 x) (N32 y) D = some (N32 ((16777216 ||| (y + x + bs * 2) * 256) ||| nx), D) := by
    intro x y
    unfold f_Model_theWord_L41
    rw [f7, f4, show (8 : Int32) = N32 8 from rfl, show (2 : Int32) = N32 2 from rfl, nb_add, nb_mul, nb_add, n_shl _ 8 (by decide), show (16777216 : Int32) = N32 16777216 from rfl, n_or, n_or]
  have l14 : ∀ x : Nat, f_Model_theWord_L14 S M (N32 x) D = some (N32 ((16777216 ||| (x + (if wt then 16 else 0) + (if ag then 8 else 0) + bs * 2) * 256) ||| nx), D) := by
    intro x
    unfold f_Model_theWord_L14
    rw [f5, f6, if_bI, show (0 : Int32) = N32 0 from rfl, show (8 : Int32) = N32 8 from rfl, show (16 : Int32) = N32 16 from rfl, nb_add, nb_add, l41, l41, l41, l41]
    cases wt <;> cases ag <;> rfl
  unfold f_Model_theWord
  rw [f3, show (3 : Int32) = N32 3 from rfl, if_en (by omega) (by decide), show (32 : Int32) = N32 32 from rfl, show (0 : Int32) = N32 0 from rfl, l14, l14]
  have hK : ∀ K : Nat, K % 256 = 0 → K ||| nx = K + nx := by
    intro K hK
    have : K = K / 256 * 256 := by omega
    rw [this, n_or_add _ _ fn]
  have hbs : bs = 0 ∨ bs = 1 ∨ bs = 2 ∨ bs = 3 := by omega
  rw [gt_word_eq]
  by_cases h3 : st = 3
  · rw [if_pos h3, if_pos h3]
    rcases hbs with e | e | e | e <;> subst e <;> cases wt <;> cases ag <;> rw [hK _ (by decide)] <;> rfl
  · rw [if_neg h3, if_neg h3]
    rcases hbs with e | e | e | e <;> subst e <;> cases wt <;> cases ag <;> rw [hK _ (by decide)] <;> rfl
