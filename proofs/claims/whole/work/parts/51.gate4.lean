-- ===== the class's gate: the queue's head, its word =====
def gt_stop : sGt → sGt
  | (st, nx, bs, _, ag, rf, ac, q) => (if st = 2 then 1 else st, nx, bs, false, ag, rf, ac, q)
def gt_word : sGt → Nat
  | (st, nx, bs, wt, ag, _, _, _) => 16777216 + (if st = 3 then 8192 else 0) + (if wt then 4096 else 0) + (if ag then 2048 else 0) + 512 * bs + nx
theorem gt_word_eq (st nx bs : Nat) (wt ag : Bool) (rf ac : Int32) (q : List (List Nat)) : gt_word (st, nx, bs, wt, ag, rf, ac, q) = 16777216 + (if st = 3 then 8192 else 0) + (if wt then 4096 else 0) + (if ag then 2048 else 0) + 512 * bs + nx := rfl
theorem gtc_take {S : ob_S} {D : ob_D} {g a b cap : Nat} {c p : List Nat} {st nx bs : Nat} {wt ag : Bool} {rf ac : Int32} {q : List (List Nat)} (hz : cGt S D g (st, nx, bs, wt, ag, rf, ac, p :: q)) (hf : rw_at S D a b cap c) (hd : (a < g ∨ g + 18 ≤ a) ∧ (b < g ∨ g + 18 ≤ b)) (hc : 252 ≤ cap) : ∃ D', f_Gate_takeOut S g a D = some (1, D') ∧ cGt S D' g (st, nx, bs, wt, ag, rf, ac, q) ∧ rw_at S D' a b cap p ∧ og (fun y k => (y = g ∧ (k = 1 ∨ k = 2)) ∨ y = a ∨ y = b) D D' := by
  obtain ⟨⟨h1, h2, h3, f, rows, h4, h5, h6, h7, h8, h9⟩, hF⟩ := hz
  rw [List.length_cons] at h6 h7
  have hp : rows f = p := by
    have := h9 0 (by simp)
    rw [Nat.add_zero, Nat.mod_eq_of_lt h4] at this
    rw [this]
    simp
  have hr := h8 f h4
  rw [hp] at hr
  have hlen := hr.2.2.2.2.2.1
  obtain ⟨D1, p1, p2, p3⟩ := rw_become (f := 0) (c := p.length) hf hr (by omega) (by omega) (by omega)
  have p1' : f_Row_become S a (g + 2 + 2 * f) 0 (N32 p.length) D = some D1 := p1
  have hr3 : D.2.1 (g + 1) (N32 f).toNatClampNeg = g + 2 + 2 * f := by rw [nb_clamp (by omega), h3 f h4]
  unfold f_Gate_takeOut
  rw [if_neg (by rw [h6, show (0 : Int32) = N32 0 from rfl, nb_eq (by omega) (by decide)]; omega), h1, if_pos (by omega), h2, h5, if_pos (by rw [nb_in (by omega)]; exact h4), hr3, if_pos (by omega), if_pos (by omega), if_pos (by rw [nb_in (by omega)]; exact h4), if_pos (by omega), hr.2.2.2.2.1, p1']
  simp only [ob_bv, ob_lt]
  have e1 : (D1.1 g 1 + (1 : Int32)) - (D1.1 g 1 + (1 : Int32)) / (8 : Int32) * (8 : Int32) = N32 ((f + 1) % 8) := by
    rw [p3.2 g 1 (by omega), h5, show (1 : Int32) = N32 1 from rfl, nb_add, show (8 : Int32) = N32 8 from rfl, n_rem _ _ (by omega) (by decide)]
  have e2 : (ob_pI D1 g 1 (N32 ((f + 1) % 8))).1 g 2 - (1 : Int32) = N32 q.length := by
    show (if g = g ∧ 2 = 1 then _ else D1.1 g 2) - (1 : Int32) = _
    rw [if_neg (by omega), p3.2 g 2 (by omega), h6, show (1 : Int32) = N32 1 from rfl, nb_sub (by omega)]
    rfl
  rw [e1, e2]
  have gq : og (fun y k => y = g ∧ (k = 1 ∨ k = 2)) D1 (ob_pI (ob_pI D1 g 1 (N32 ((f + 1) % 8))) g 2 (N32 q.length)) := (og.pI ⟨rfl, Or.inl rfl⟩).tr (og.pI ⟨rfl, Or.inr rfl⟩)
  have gall : og (fun y k => (y = g ∧ (k = 1 ∨ k = 2)) ∨ y = a ∨ y = b) D (ob_pI (ob_pI D1 g 1 (N32 ((f + 1) % 8))) g 2 (N32 q.length)) := (p3.up2 (fun y k e => Or.inr e)).tr (gq.mono (fun y k e => Or.inl e))
  have ht : (p.drop 0).take p.length = p := by simp
  rw [ht] at p2
  refine ⟨_, rfl, ⟨⟨by rw [← h1, ← p3.1]; rfl, h2, fun i hi => by rw [← h3 i hi, ← p3.1]; rfl, (f + 1) % 8, rows, Nat.mod_lt _ (by decide), by simp [ob_pI], by simp [ob_pI], by omega, fun i hi => ?_, fun i hi => ?_⟩, ?_⟩, p2.keep gq (fun k e => by omega) (fun k e => by omega) rfl, gall⟩
  · exact (h8 i hi).keep gall (fun k e => by omega) (fun k e => by omega) rfl
  · have := h9 (i + 1) (by rw [List.length_cons]; omega)
    rw [show ((f + 1) % 8 + i) % 8 = (f + (i + 1)) % 8 by omega, this]
    simp
  · exact hF.keep gall (fun k h3 h10 e => by omega)
theorem gtc_take0 {S : ob_S} {D : ob_D} {g a : Nat} {st nx bs : Nat} {wt ag : Bool} {rf ac : Int32} (hz : cGt S D g (st, nx, bs, wt, ag, rf, ac, [])) : f_Gate_takeOut S g a D = some (0, D) := by
  obtain ⟨⟨h1, h2, h3, f, rows, h4, h5, h6, h7, h8, h9⟩, hF⟩ := hz
  unfold f_Gate_takeOut
  rw [if_pos (by rw [h6]; rfl)]
theorem gtc_stop {S : ob_S} {D : ob_D} {g : Nat} {z : sGt} (hz : cGt S D g z) : ∃ D', f_Gate_stopWaiting S g D = some D' ∧ cGt S D' g (gt_stop z) ∧ og (rgn g (g + 18)) D D' := by
  obtain ⟨st, nx, bs, wt, ag, rf, ac, q⟩ := z
  obtain ⟨hq, f3, fs, f4, fn, f7, fb, f5, f6, f8, f9⟩ := hz
  unfold f_Gate_stopWaiting
  simp only [ob_lt]
  have g1 : og (fun y k => y = g ∧ (k = 5 ∨ k = 3)) D (ob_pI D g 5 0) := og.pI ⟨rfl, Or.inl rfl⟩
  have k3 : (ob_pI D g 5 0).1 g 3 = N32 st := by simp [ob_pI, f3]
  rw [k3, show (2 : Int32) = N32 2 from rfl, if_en (by omega) (by decide)]
  have main : ∀ (D2 : ob_D) (s2 : Nat), og (fun y k => y = g ∧ (k = 5 ∨ k = 3)) D D2 → D2.1 g 3 = N32 s2 → 1 ≤ s2 ∧ s2 ≤ 3 → D2.1 g 5 = 0 → cGt S D2 g (s2, nx, bs, false, ag, rf, ac, q) ∧ og (rgn g (g + 18)) D D2 := by
    intro D2 s2 g2 j3 js j5
    refine ⟨⟨hq.keep g2 (fun k hk e => by omega) (fun y k h1 h2 e => by omega) (fun _ _ _ => rfl), j3, js, by rw [(g2 g 4 (by omega)).1]; exact f4, fn, by rw [(g2 g 7 (by omega)).1]; exact f7, fb, j5, by rw [(g2 g 6 (by omega)).1]; exact f6, by rw [(g2 g 8 (by omega)).1]; exact f8, by rw [(g2 g 9 (by omega)).1]; exact f9⟩, g2.mono (fun y k e => by unfold rgn; omega)⟩
  by_cases h2 : st = 2
  · rw [if_pos h2]
    have hT : gt_stop (st, nx, bs, wt, ag, rf, ac, q) = (1, nx, bs, false, ag, rf, ac, q) := by
      show (if st = 2 then 1 else st, _) = _
      rw [if_pos h2]
    rw [hT]
    obtain ⟨m1, m2⟩ := main (ob_pI (ob_pI D g 5 0) g 3 1) 1 (g1.tr (og.pI ⟨rfl, Or.inr rfl⟩)) (by simp [ob_pI]; rfl) (by omega) (by simp [ob_pI])
    exact ⟨_, rfl, m1, m2⟩
  · rw [if_neg h2]
    have hT : gt_stop (st, nx, bs, wt, ag, rf, ac, q) = (st, nx, bs, false, ag, rf, ac, q) := by
      show (if st = 2 then 1 else st, _) = _
      rw [if_neg h2]
    rw [hT]
    obtain ⟨m1, m2⟩ := main _ st g1 k3 fs (by simp [ob_pI])
    exact ⟨_, rfl, m1, m2⟩
theorem gt_or {k n : Nat} (hn : n < 256) : N32 (k * 256) ||| N32 n = N32 (k * 256 + n) := by rw [n_or, n_or_add _ _ hn]
theorem gtc_word {S : ob_S} {D : ob_D} {g : Nat} {z : sGt} (hz : cGt S D g z) : f_Gate_asWord S g D = some (N32 (gt_word z), D) := by
  obtain ⟨st, nx, bs, wt, ag, rf, ac, q⟩ := z
  obtain ⟨hq, f3, fs, f4, fn, f7, fb, f5, f6, f8, f9⟩ := hz
  have l47 : ∀ x y : Nat, f_Gate_asWord_L47 S g (N32 x) (N32 y) D = some (N32 ((y ||| x) ||| bs * 512 ||| nx), D) := by
    intro x y
    unfold f_Gate_asWord_L47
    rw [f7, f4, show (9 : Int32) = N32 9 from rfl, n_shl _ 9 (by decide), n_or, n_or, n_or]
  have l17 : ∀ x y : Nat, f_Gate_asWord_L17 S g (N32 x) (N32 y) D = some (N32 (((y ||| x ||| if wt then 4096 else 0) ||| if ag then 2048 else 0) ||| bs * 512 ||| nx), D) := by
    intro x y
    unfold f_Gate_asWord_L17
    rw [f5, f6, if_bI, show (0 : Int32) = N32 0 from rfl, show (2048 : Int32) = N32 2048 from rfl, show (4096 : Int32) = N32 4096 from rfl, n_or, n_or, n_or, l47, l47, l47, l47]
    cases wt <;> cases ag <;> rfl
  unfold f_Gate_asWord
  rw [f3, show (3 : Int32) = N32 3 from rfl, if_en (by omega) (by decide), show (8192 : Int32) = N32 8192 from rfl, show (16777216 : Int32) = N32 16777216 from rfl, show (0 : Int32) = N32 0 from rfl, l17, l17]
  have hK : ∀ K : Nat, K % 256 = 0 → K ||| nx = K + nx := by
    intro K hK
    have : K = K / 256 * 256 := by omega
    rw [this, n_or_add _ _ fn]
  have hbs : bs = 0 ∨ bs = 1 ∨ bs = 2 ∨ bs = 3 := by omega
  rw [gt_word_eq]
  by_cases h3 : st = 3
  · rw [if_pos h3, if_pos h3]
    rcases hbs with e | e | e | e <;> subst e <;> cases wt <;> cases ag <;> rw [hK _ (by decide)] <;> rfl
  · rw [if_neg h3, if_neg h3]
    rcases hbs with e | e | e | e <;> subst e <;> cases wt <;> cases ag <;> rw [hK _ (by decide)] <;> rfl
