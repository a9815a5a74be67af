-- ===== the class's gate: receiving =====
theorem gtc_turn {S : ob_S} {D : ob_D} {g a b cap : Nat} {c : List Nat} {z : sGt} (hz : cGt S D g z) (hf : rw_at S D a b cap c) (hd : (a < g ∨ g + 18 ≤ a) ∧ (b < g ∨ g + 18 ≤ b)) (h7 : 7 ≤ nn c 2 2) (hl : nn c 2 2 + 1 ≤ c.length) (hc : c.length ≤ 259) : ∃ D', f_Gate_receiveInTurn S g a D = some (bI (gt_turn c z).1, D') ∧ cGt S D' g (gt_turn c z).2 ∧ og (rgn g (g + 18)) D D' := by
  obtain ⟨st, nx, bs, wt, ag, rf, ac, q⟩ := z
  obtain ⟨hq, hF⟩ := hz
  have hF' := hF
  obtain ⟨f3, fs, f4, fn, f7, fb, f5, f6, f8, f9⟩ := hF'
  have hb := hf.2.2.2.2.2.2.2.2
  have e4 : f_Row_number S a 4 1 D = _ := rw_num hf (f := 4) (c := 1) (by decide) (by decide)
  have hb4 := by_getD_lt hb 4
  have ea : (N32 (c.getD 4 0) - D.1 g 4) &&& (255 : Int32) = N32 (gt_ahead c nx) := by
    rw [f4]
    have : N32 (c.getD 4 0) - N32 nx = N32 (c.getD 4 0 + 4294967296 - nx) := by
      rw [← nb_sub (show nx ≤ c.getD 4 0 + 4294967296 by omega), ← n_mod (c.getD 4 0 + 4294967296), Nat.add_mod_right, n_mod]
    rw [this, n_255]
    unfold gt_ahead
    congr 1
    omega
  have hah : gt_ahead c nx < 256 := Nat.mod_lt _ (by decide)
  have gM : ∀ {P : Nat → Nat → Prop} {D1 D2 : ob_D}, og P D1 D2 → (∀ y k, P y k → g ≤ y ∧ y < g + 18) → og (rgn g (g + 18)) D1 D2 := fun h hP => h.mono hP
  unfold f_Gate_receiveInTurn
  rw [e4, nn_1]
  simp only [ob_bd, ob_lt]
  rw [ea]
  have l34 : ∀ D1, cGtQ S D1 g q → rw_at S D1 a b cap c → D1.1 g 3 = N32 1 → cGtF D1 g 1 nx bs wt ag rf ac → og (rgn g (g + 18)) D D1 → gt_ahead c nx ≤ 9 → st = 1 → ∃ D', f_Gate_receiveInTurn_L34 S g a (N32 (gt_ahead c nx)) D1 = some (bI (gt_turn c (st, nx, bs, wt, ag, rf, ac, q)).1, D') ∧ cGt S D' g (gt_turn c (st, nx, bs, wt, ag, rf, ac, q)).2 ∧ og (rgn g (g + 18)) D D' := by
    intro D1 hq1 hf1 h31 hF1 g1 h9 hst
    subst hst
    obtain ⟨k3, ks, k4, kn, k7, kb, k5, k6, k8, k9⟩ := hF1
    unfold f_Gate_receiveInTurn_L34
    rw [if_pos (by rw [h31]; rfl), show (9 : Int32) = N32 9 from rfl, if_le (by omega) (by decide), if_pos h9, show (0 : Int32) = N32 0 from rfl, if_le (by omega) (by decide)]
    by_cases h0 : gt_ahead c nx = 0
    · rw [if_pos (by omega)]
      have hE := gtc_enq hq1 hf1 hd h7 hl hc
      by_cases h8 : q.length < 8
      · rw [if_pos h8] at hE
        obtain ⟨D4, p1, p2, p3, p4⟩ := hE
        rw [p1]
        simp only [ob_bd, ob_lt]
        rw [if_neg (by decide)]
        have hT : gt_turn c (1, nx, bs, wt, ag, rf, ac, q) = (true, (1, (nx + 1) % 256, bs, wt, false, rf, ac + 1, q ++ [gt_body c])) := by
          show (if _ then _ else _) = _
          rw [if_pos ⟨rfl, h0⟩, if_pos h8]
        rw [hT]
        have e41 : (D4.1 g 4 + (1 : Int32)) &&& (255 : Int32) = N32 ((nx + 1) % 256) := by
          rw [(p4 g 4 (by omega)).1, k4, show (1 : Int32) = N32 1 from rfl, nb_add, n_255]
        rw [e41]
        have gq : og (fun y k => y = g ∧ (k = 4 ∨ k = 6)) D4 (ob_pI (ob_pI D4 g 4 (N32 ((nx + 1) % 256))) g 6 (N32 0)) := (og.pI ⟨rfl, Or.inl rfl⟩).tr (og.pI ⟨rfl, Or.inr rfl⟩)
        refine ⟨_, rfl, ⟨p2.keep gq (fun k hk e => by omega) (fun y k h1 h2 e => by omega) (fun _ _ _ => rfl), ?_⟩, g1.tr ((gM p4 (fun y k e => by omega)).tr (gM gq (fun y k e => by omega)))⟩
        refine ⟨?_, by omega, ?_, by omega, ?_, kb, ?_, ?_, ?_, ?_⟩
        · rw [(gq g 3 (by omega)).1, (p4 g 3 (by omega)).1]; exact k3
        · simp [ob_pI]
        · rw [(gq g 7 (by omega)).1, (p4 g 7 (by omega)).1]; exact k7
        · rw [(gq g 5 (by omega)).1, (p4 g 5 (by omega)).1]; exact k5
        · simp [ob_pI, bI]; rfl
        · rw [(gq g 8 (by omega)).1, (p4 g 8 (by omega)).1]; exact k8
        · have : (ob_pI (ob_pI D4 g 4 (N32 ((nx + 1) % 256))) g 6 (N32 0)).1 g 9 = D4.1 g 9 := (gq g 9 (by omega)).1
          rw [this, p3, k9]
      · rw [if_neg h8] at hE
        rw [hE]
        simp only [ob_bd, ob_lt]
        rw [if_pos (by rfl)]
        have hT : gt_turn c (1, nx, bs, wt, ag, rf, ac, q) = (false, (2, nx, bs, true, true, rf, ac, q)) := by
          show (if _ then _ else _) = _
          rw [if_pos ⟨rfl, h0⟩, if_neg h8]
        rw [hT]
        have gq : og (fun y k => y = g ∧ (k = 3 ∨ k = 5 ∨ k = 6)) D1 (ob_pI (ob_pI (ob_pI D1 g 6 1) g 5 1) g 3 2) := ((og.pI ⟨rfl, Or.inr (Or.inr rfl)⟩).tr (og.pI ⟨rfl, Or.inr (Or.inl rfl)⟩)).tr (og.pI ⟨rfl, Or.inl rfl⟩)
        refine ⟨_, rfl, ⟨hq1.keep gq (fun k hk e => by omega) (fun y k h1 h2 e => by omega) (fun _ _ _ => rfl), ?_⟩, g1.tr (gM gq (fun y k e => by omega))⟩
        refine ⟨by simp [ob_pI]; rfl, by omega, ?_, by omega, ?_, kb, by simp [ob_pI, bI], by simp [ob_pI, bI], ?_, ?_⟩
        · rw [(gq g 4 (by omega)).1]; exact k4
        · rw [(gq g 7 (by omega)).1]; exact k7
        · rw [(gq g 8 (by omega)).1]; exact k8
        · rw [(gq g 9 (by omega)).1]; exact k9
    · rw [if_neg (by omega)]
      have hT : gt_turn c (1, nx, bs, wt, ag, rf, ac, q) = (false, (1, nx, bs, wt, true, rf, ac, q)) := by
        show (if _ then _ else _) = _
        rw [if_neg (fun e => h0 e.2), if_pos ⟨rfl, h9⟩]
      rw [hT]
      simp only [ob_lt]
      have gq : og (fun y k => y = g ∧ k = 6) D1 (ob_pI D1 g 6 1) := og.pI ⟨rfl, rfl⟩
      refine ⟨_, rfl, ⟨hq1.keep gq (fun k hk e => by omega) (fun y k h1 h2 e => by omega) (fun _ _ _ => rfl), ?_⟩, g1.tr (gM gq (fun y k e => by omega))⟩
      exact ⟨by rw [(gq g 3 (by omega)).1]; exact k3, ks, by rw [(gq g 4 (by omega)).1]; exact k4, kn, by rw [(gq g 7 (by omega)).1]; exact k7, kb, by rw [(gq g 5 (by omega)).1]; exact k5, by simp [ob_pI, bI], by rw [(gq g 8 (by omega)).1]; exact k8, by rw [(gq g 9 (by omega)).1]; exact k9⟩
  have l34n : ∀ D1 : ob_D, D1.1 g 3 ≠ N32 1 ∨ 9 < gt_ahead c nx → f_Gate_receiveInTurn_L34 S g a (N32 (gt_ahead c nx)) D1 = some (0, D1) := by
    intro D1 hor
    unfold f_Gate_receiveInTurn_L34
    by_cases h31 : D1.1 g 3 = 1
    · rw [if_pos h31, if_neg]
      rw [show (9 : Int32) = N32 9 from rfl, nb_le (by omega) (by decide)]
      rcases hor with h | h
      · exact absurd h31 h
      · omega
    · rw [if_neg h31]
  by_cases h10 : gt_ahead c nx < 10
  · rw [if_pos (by rw [show (10 : Int32) = N32 10 from rfl, nb_lt (by omega) (by decide)]; exact h10)]
    by_cases hst : st = 1
    · exact l34 D hq hf (by rw [f3, hst]) (by rw [← hst]; exact hF) og.rf (by omega) hst
    · rw [l34n D (Or.inl (by rw [f3]; intro e; rw [nb_eq (by omega) (by decide)] at e; exact hst e))]
      have hT : gt_turn c (st, nx, bs, wt, ag, rf, ac, q) = (false, (st, nx, bs, wt, ag, rf, ac, q)) := by
        show (if _ then _ else _) = _
        rw [if_neg (fun e => hst e.1), if_neg (fun e => hst e.1), if_neg (by omega)]
      rw [hT]
      exact ⟨D, rfl, ⟨hq, hF⟩, og.rf⟩
  · rw [if_neg (by rw [show (10 : Int32) = N32 10 from rfl, nb_lt (by omega) (by decide)]; exact h10), show (245 : Int32) = N32 245 from rfl, if_lt (by decide) (by omega)]
    by_cases h245 : 245 < gt_ahead c nx
    · rw [if_pos h245, l34n D (Or.inr (by omega))]
      have hT : gt_turn c (st, nx, bs, wt, ag, rf, ac, q) = (false, (st, nx, bs, wt, ag, rf, ac, q)) := by
        show (if _ then _ else _) = _
        rw [if_neg (fun e => by omega), if_neg (fun e => by omega), if_neg (by omega)]
      rw [hT]
      exact ⟨D, rfl, ⟨hq, hF⟩, og.rf⟩
    · rw [if_neg h245, l34n _ (Or.inr (by omega))]
      have hT : gt_turn c (st, nx, bs, wt, ag, rf, ac, q) = (false, (3, nx, bs, wt, ag, rf, ac, q)) := by
        show (if _ then _ else _) = _
        rw [if_neg (fun e => by omega), if_neg (fun e => by omega), if_pos (by omega)]
      rw [hT]
      have gq : og (fun y k => y = g ∧ k = 3) D (ob_pI D g 3 3) := og.pI ⟨rfl, rfl⟩
      refine ⟨_, rfl, ⟨hq.keep gq (fun k hk e => by omega) (fun y k h1 h2 e => by omega) (fun _ _ _ => rfl), ?_⟩, gM gq (fun y k e => by omega)⟩
      exact ⟨by simp [ob_pI]; rfl, by omega, by rw [(gq g 4 (by omega)).1]; exact f4, fn, by rw [(gq g 7 (by omega)).1]; exact f7, fb, by rw [(gq g 5 (by omega)).1]; exact f5, by rw [(gq g 6 (by omega)).1]; exact f6, by rw [(gq g 8 (by omega)).1]; exact f8, by rw [(gq g 9 (by omega)).1]; exact f9⟩
theorem gtc_beside {S : ob_S} {D : ob_D} {g a b cap : Nat} {c : List Nat} {z : sGt} (hz : cGt S D g z) (hf : rw_at S D a b cap c) (hd : (a < g ∨ g + 18 ≤ a) ∧ (b < g ∨ g + 18 ≤ b)) (h7 : 7 ≤ nn c 2 2) (hl : nn c 2 2 + 1 ≤ c.length) (hc : c.length ≤ 259) : ∃ D', f_Gate_receiveBeside S g a D = some (bI (gt_beside c z).1, D') ∧ cGt S D' g (gt_beside c z).2 ∧ og (rgn g (g + 18)) D D' := by
  obtain ⟨st, nx, bs, wt, ag, rf, ac, q⟩ := z
  obtain ⟨hq, f3, fs, f4, fn, f7, fb, f5, f6, f8, f9⟩ := hz
  have hE := gtc_enq hq hf hd h7 hl hc
  have gM : ∀ {P : Nat → Nat → Prop} {D1 D2 : ob_D}, og P D1 D2 → (∀ y k, P y k → g ≤ y ∧ y < g + 18) → og (rgn g (g + 18)) D1 D2 := fun h hP => h.mono hP
  unfold f_Gate_receiveBeside
  by_cases h8 : q.length < 8
  · rw [if_pos h8] at hE
    obtain ⟨D4, p1, p2, p3, p4⟩ := hE
    rw [p1]
    simp only [ob_bd, ob_lt]
    rw [if_neg (by decide)]
    have hT : gt_beside c (st, nx, bs, wt, ag, rf, ac, q) = (true, (st, nx, (bs + 1) % 4, wt, ag, rf, ac + 1, q ++ [gt_body c])) := by
      show (if _ then _ else _) = _
      rw [if_pos h8]
    have e7 : (D4.1 g 7 + (1 : Int32)) &&& (3 : Int32) = N32 ((bs + 1) % 4) := by
      rw [(p4 g 7 (by omega)).1, f7, show (1 : Int32) = N32 1 from rfl, nb_add, n_3]
    rw [hT, e7]
    have gq : og (fun y k => y = g ∧ k = 7) D4 (ob_pI D4 g 7 (N32 ((bs + 1) % 4))) := og.pI ⟨rfl, rfl⟩
    refine ⟨_, rfl, ⟨p2.keep gq (fun k hk e => by omega) (fun y k h1 h2 e => by omega) (fun _ _ _ => rfl), ?_⟩, (gM p4 (fun y k e => by omega)).tr (gM gq (fun y k e => by omega))⟩
    refine ⟨?_, fs, ?_, fn, by simp [ob_pI], by omega, ?_, ?_, ?_, ?_⟩
    · rw [(gq g 3 (by omega)).1, (p4 g 3 (by omega)).1]; exact f3
    · rw [(gq g 4 (by omega)).1, (p4 g 4 (by omega)).1]; exact f4
    · rw [(gq g 5 (by omega)).1, (p4 g 5 (by omega)).1]; exact f5
    · rw [(gq g 6 (by omega)).1, (p4 g 6 (by omega)).1]; exact f6
    · rw [(gq g 8 (by omega)).1, (p4 g 8 (by omega)).1]; exact f8
    · rw [(gq g 9 (by omega)).1, p3, f9]
  · rw [if_neg h8] at hE
    rw [hE]
    simp only [ob_bd, ob_lt]
    rw [if_pos trivial]
    have hT : gt_beside c (st, nx, bs, wt, ag, rf, ac, q) = (false, (st, nx, bs, wt, ag, rf + 1, ac, q)) := by
      show (if _ then _ else _) = _
      rw [if_neg h8]
    rw [hT]
    have gq : og (fun y k => y = g ∧ k = 8) D (ob_pI D g 8 (D.1 g 8 + 1)) := og.pI ⟨rfl, rfl⟩
    refine ⟨_, rfl, ⟨hq.keep gq (fun k hk e => by omega) (fun y k h1 h2 e => by omega) (fun _ _ _ => rfl), ?_⟩, gM gq (fun y k e => by omega)⟩
    exact ⟨by rw [(gq g 3 (by omega)).1]; exact f3, fs, by rw [(gq g 4 (by omega)).1]; exact f4, fn, by rw [(gq g 7 (by omega)).1]; exact f7, fb, by rw [(gq g 5 (by omega)).1]; exact f5, by rw [(gq g 6 (by omega)).1]; exact f6, by simp [ob_pI, f8], by rw [(gq g 9 (by omega)).1]; exact f9⟩
theorem gtc_obey {S : ob_S} {D : ob_D} {g a b cap : Nat} {c : List Nat} {z : sGt} (hz : cGt S D g z) (hf : rw_at S D a b cap c) (hd : (a < g ∨ g + 18 ≤ a) ∧ (b < g ∨ g + 18 ≤ b)) (h7 : 7 ≤ nn c 2 2) (hu : nn c 2 2 ≤ 1023) : ∃ D', f_Gate_obey S g a D = some D' ∧ (gt_obey c z).1 = false ∧ cGt S D' g (gt_obey c z).2 ∧ og (rgn g (g + 18)) D D' := by
  obtain ⟨st, nx, bs, wt, ag, rf, ac, q⟩ := z
  obtain ⟨hq, f3, fs, f4, fn, f7, fb, f5, f6, f8, f9⟩ := hz
  have hb := hf.2.2.2.2.2.2.2.2
  have gM : ∀ {P : Nat → Nat → Prop} {D1 D2 : ob_D}, og P D1 D2 → (∀ y k, P y k → g ≤ y ∧ y < g + 18) → og (rgn g (g + 18)) D1 D2 := fun h hP => h.mono hP
  have e7 : (D.1 g 7 + (1 : Int32)) &&& (3 : Int32) = N32 ((bs + 1) % 4) := by
    rw [f7, show (1 : Int32) = N32 1 from rfl, nb_add, n_3]
  unfold f_Gate_obey
  simp only [ob_lt]
  rw [e7]
  have g1 : og (fun y k => y = g ∧ k = 7) D (ob_pI D g 7 (N32 ((bs + 1) % 4))) := og.pI ⟨rfl, rfl⟩
  have k7 : (ob_pI D g 7 (N32 ((bs + 1) % 4))).1 g 7 = N32 ((bs + 1) % 4) := by simp [ob_pI]
  generalize ob_pI D g 7 (N32 ((bs + 1) % 4)) = D1 at *
  have hf1 : rw_at S D1 a b cap c := hf.keep g1 (fun k e => by omega) (fun k e => by omega) rfl
  have hq1 : cGtQ S D1 g q := hq.keep g1 (fun k hk e => by omega) (fun y k h1 h2 e => by omega) (fun _ _ _ => rfl)
  have k3 : D1.1 g 3 = N32 st := by rw [(g1 g 3 (by omega)).1]; exact f3
  have k4 : D1.1 g 4 = N32 nx := by rw [(g1 g 4 (by omega)).1]; exact f4
  have k5 : D1.1 g 5 = bI wt := by rw [(g1 g 5 (by omega)).1]; exact f5
  have k6 : D1.1 g 6 = bI ag := by rw [(g1 g 6 (by omega)).1]; exact f6
  have k8 : D1.1 g 8 = rf := by rw [(g1 g 8 (by omega)).1]; exact f8
  have k9 : D1.1 g 9 = ac := by rw [(g1 g 9 (by omega)).1]; exact f9
  rw [gtc_body hf1 (by omega)]
  simp only [ob_bd]
  have l54 : ∀ (D2 : ob_D) (n2 : Nat), og (fun y k => y = g ∧ k = 4) D1 D2 → D2.1 g 4 = N32 n2 → n2 < 256 → ∃ D', f_Gate_obey_L54 S g D2 = some D' ∧ cGt S D' g (1, n2, (bs + 1) % 4, false, false, rf, ac, q) ∧ og (rgn g (g + 18)) D D' := by
    intro D2 n2 g2 j4 hn2
    have g3 : og (fun y k => y = g ∧ (k = 6 ∨ k = 5 ∨ k = 3)) D2 (ob_pI (ob_pI (ob_pI D2 g 6 0) g 5 0) g 3 1) := ((og.pI ⟨rfl, Or.inl rfl⟩).tr (og.pI ⟨rfl, Or.inr (Or.inl rfl)⟩)).tr (og.pI ⟨rfl, Or.inr (Or.inr rfl)⟩)
    refine ⟨_, rfl, ⟨(hq1.keep g2 (fun k hk e => by omega) (fun y k h1 h2 e => by omega) (fun _ _ _ => rfl)).keep g3 (fun k hk e => by omega) (fun y k h1 h2 e => by omega) (fun _ _ _ => rfl), ?_⟩, ((gM g1 (fun y k e => by omega)).tr (gM g2 (fun y k e => by omega))).tr (gM g3 (fun y k e => by omega))⟩
    exact ⟨by simp [ob_pI]; rfl, by omega, by rw [(g3 g 4 (by omega)).1]; exact j4, hn2, by rw [(g3 g 7 (by omega)).1, (g2 g 7 (by omega)).1]; exact k7, by omega, by simp [ob_pI, bI], by simp [ob_pI, bI], by rw [(g3 g 8 (by omega)).1, (g2 g 8 (by omega)).1]; exact k8, by rw [(g3 g 9 (by omega)).1, (g2 g 9 (by omega)).1]; exact k9⟩
  rw [show (3 : Int32) = N32 3 from rfl, if_en (by omega) (by decide)]
  by_cases h9 : nn c 2 2 = 9
  · rw [if_pos (by omega)]
    unfold f_Gate_obey_L25
    rw [if_neg (by decide), k3, show (3 : Int32) = N32 3 from rfl, if_en (by omega) (by decide)]
    by_cases hst : st = 3
    · have hT : gt_obey c (st, nx, bs, wt, ag, rf, ac, q) = (false, (st, nx, (bs + 1) % 4, wt, ag, rf, ac, q)) := by
        show (if _ then _ else _) = _
        rw [if_pos h9, if_pos hst]
      rw [if_pos hst, hT]
      exact ⟨D1, rfl, rfl, ⟨hq1, k3, fs, k4, fn, k7, by omega, k5, k6, k8, k9⟩, gM g1 (fun y k e => by omega)⟩
    · have hT : gt_obey c (st, nx, bs, wt, ag, rf, ac, q) = (false, (1, c.getD 7 0, (bs + 1) % 4, false, false, rf, ac, q)) := by
        show (if _ then _ else _) = _
        rw [if_pos h9, if_neg hst]
      rw [if_neg hst, hT]
      unfold f_Gate_obey_L39
      have e7 : f_Row_number S a 7 1 D1 = _ := rw_num hf1 (f := 7) (c := 1) (by decide) (by decide)
      rw [if_neg (by decide), e7, nn_1]
      simp only [ob_bd, ob_lt]
      obtain ⟨D', q1, q2, q3⟩ := l54 (ob_pI D1 g 4 (N32 (c.getD 7 0))) (c.getD 7 0) (og.pI ⟨rfl, rfl⟩) (by simp [ob_pI]) (by_getD_lt hb 7)
      exact ⟨D', q1, trivial, q2, q3⟩
  · rw [if_neg (by omega)]
    have hT : gt_obey c (st, nx, bs, wt, ag, rf, ac, q) = (false, (1, nx, (bs + 1) % 4, false, false, rf, ac, q)) := by
      show (if _ then _ else _) = _
      rw [if_neg h9]
    rw [hT]
    unfold f_Gate_obey_L25 f_Gate_obey_L39
    rw [if_pos (by rfl), if_pos (by rfl)]
    obtain ⟨D', q1, q2, q3⟩ := l54 D1 nx og.rf k4 fn
    exact ⟨D', q1, rfl, q2, q3⟩
theorem gtc_receive {S : ob_S} {D : ob_D} {g a b cap : Nat} {c : List Nat} {z : sGt} (hz : cGt S D g z) (hf : rw_at S D a b cap c) (hd : (a < g ∨ g + 18 ≤ a) ∧ (b < g ∨ g + 18 ≤ b)) (hc : c.length ≤ 259) : ∃ D', f_Gate_receive S g a D = some (bI (gt_receive c z).1, D') ∧ cGt S D' g (gt_receive c z).2 ∧ og (rgn g (g + 18)) D D' := by
  have e0 : f_Row_number S a 0 2 D = _ := rw_num hf (f := 0) (c := 2) (by decide) (by decide)
  unfold f_Gate_receive
  rw [gtc_valid hf]
  simp only [ob_bd, ob_lt]
  rw [if_bI]
  unfold gt_receive
  by_cases hv : gt_valid c = true
  · rw [if_pos hv, if_pos hv, e0]
    simp only
    obtain ⟨h7, hu, hl, hh, hdir⟩ := gt_form_ok hv
    have hm : nn c 0 2 = 346 ∨ nn c 0 2 = 4442 ∨ nn c 0 2 = 8538 ∨ nn c 0 2 = 12634 := by omega
    have m1 := and_4096 _ hm
    have m2 := and_8192 _ hm
    by_cases h1 : nn c 0 2 = 346
    · rw [if_pos h1, if_pos (by rw [m2]; exact Or.inl h1)]
      obtain ⟨D', q1, q2, q3⟩ := gtc_turn hz hf hd h7 hl hc
      refine ⟨D', ?_, q2, q3⟩
      rw [q1]
      simp only
      rw [if_pos (bI_or _)]
    · rw [if_neg h1, if_neg (by rw [m2]; omega)]
      by_cases h2 : nn c 0 2 = 8538
      · rw [if_pos h2, if_pos (by rw [m1]; exact Or.inr h2)]
        obtain ⟨D', q1, q2, q3⟩ := gtc_beside hz hf hd h7 hl hc
        refine ⟨D', ?_, q2, q3⟩
        rw [q1]
        simp only
        rw [if_pos (bI_or _)]
      · rw [if_neg h2, if_neg (by rw [m1]; omega)]
        obtain ⟨D', q1, q2, q3, q4⟩ := gtc_obey hz hf hd h7 hu
        refine ⟨D', ?_, q3, q4⟩
        rw [q1, q2]
        rfl
  · rw [if_neg hv, if_neg hv]
    obtain ⟨st, nx, bs, wt, ag, rf, ac, q⟩ := z
    obtain ⟨hq, f3, fs, f4, fn, f7, fb, f5, f6, f8, f9⟩ := hz
    have gq : og (fun y k => y = g ∧ k = 8) D (ob_pI D g 8 (D.1 g 8 + 1)) := og.pI ⟨rfl, rfl⟩
    refine ⟨_, rfl, ⟨hq.keep gq (fun k hk e => by omega) (fun y k h1 h2 e => by omega) (fun _ _ _ => rfl), ?_⟩, gq.mono (fun y k e => by unfold rgn; omega)⟩
    exact ⟨by rw [(gq g 3 (by omega)).1]; exact f3, fs, by rw [(gq g 4 (by omega)).1]; exact f4, fn, by rw [(gq g 7 (by omega)).1]; exact f7, fb, by rw [(gq g 5 (by omega)).1]; exact f5, by rw [(gq g 6 (by omega)).1]; exact f6, by simp [ob_pI, f8], by rw [(gq g 9 (by omega)).1]; exact f9⟩
