-- ===== the craft =====
abbrev sCr : Type := (Nat → Int32) × Nat × Nat × Option Nat × Int32 × Int32 × Int32
def al_v : Option Nat → Int32
  | none => -1
  | some a => N32 a
def cr_safe (wi : Nat → Int32) : Nat → Int32 := fun i => if 8 ≤ i ∧ i < 16 then ob_SAF (i - 8) else wi i
def cCrF (D : ob_D) (c pt : Nat) : sCr → Prop
  | (wi, mo, ck, al, hd, fa, br) => (∀ i, i < 16 → D.1 (c + 1) i = wi i) ∧ D.1 c 7 = N32 mo ∧ mo < 3 ∧ D.1 c 8 = N32 ck ∧ D.1 c 9 = al_v al ∧ (∀ a, al = some a → a < 2147483648) ∧ D.1 c 10 = hd ∧ D.1 c 11 = fa ∧ D.1 c 12 = br ∧ D.1 c 0 = N32 pt ∧ 1 ≤ pt ∧ pt ≤ 100
def cCrA (S : ob_S) (D : ob_D) (c rv gt tt ev rp : Nat) : Prop := D.2.1 c 1 = rv ∧ D.2.1 c 2 = gt ∧ D.2.1 c 3 = tt ∧ D.2.1 c 4 = ev ∧ D.2.1 c 5 = rp ∧ D.2.1 c 6 = c + 1 ∧ S.2.1 (c + 1) = 16
theorem cCrF.keep {D D' : ob_D} {c pt : Nat} {z : sCr} {P : Nat → Nat → Prop} (h : cCrF D c pt z) (a : og P D D') (h0 : ∀ k, ¬ P c k) (h1 : ∀ k, ¬ P (c + 1) k) : cCrF D' c pt z := by
  obtain ⟨wi, mo, ck, al, hd, fa, br⟩ := z
  obtain ⟨c1, c2, c3, c4, c5, c6, c7, c8, c9, c10, c11⟩ := h
  exact ⟨fun i hi => by rw [(a _ _ (h1 _)).1]; exact c1 i hi, by rw [(a _ _ (h0 _)).1]; exact c2, c3, by rw [(a _ _ (h0 _)).1]; exact c4, by rw [(a _ _ (h0 _)).1]; exact c5, c6, by rw [(a _ _ (h0 _)).1]; exact c7, by rw [(a _ _ (h0 _)).1]; exact c8, by rw [(a _ _ (h0 _)).1]; exact c9, by rw [(a _ _ (h0 _)).1]; exact c10, c11⟩
theorem cCrA.keep {S S' : ob_S} {D D' : ob_D} {c rv gt tt ev rp : Nat} {P : Nat → Nat → Prop} (h : cCrA S D c rv gt tt ev rp) (a : og P D D') (h0 : ∀ k, 1 ≤ k → k ≤ 6 → ¬ P c k) (hS : S'.2.1 (c + 1) = S.2.1 (c + 1)) : cCrA S' D' c rv gt tt ev rp := by
  obtain ⟨a1, a2, a3, a4, a5, a6, a7⟩ := h
  exact ⟨by rw [(a _ _ (h0 1 (by decide) (by decide))).2.1]; exact a1, by rw [(a _ _ (h0 2 (by decide) (by decide))).2.1]; exact a2, by rw [(a _ _ (h0 3 (by decide) (by decide))).2.1]; exact a3, by rw [(a _ _ (h0 4 (by decide) (by decide))).2.1]; exact a4, by rw [(a _ _ (h0 5 (by decide) (by decide))).2.1]; exact a5, by rw [(a _ _ (h0 6 (by decide) (by decide))).2.1]; exact a6, by rw [hS]; exact a7⟩
def cr_mode (q : Nat) : sCr × sEv → sCr × sEv
  | ((wi, mo, ck, al, hd, fa, br), ev) => if q = mo then ((wi, mo, ck, al, hd, fa, br), ev) else ((if q = 0 then cr_safe wi else wi, q, ck, al, hd, fa, br), ev_raise 1 (N32 q) ev)
theorem crc_safe {S : ob_S} {c : Nat} {wi : Nat → Int32} {rv gt tt ev rp : Nat} : ∀ (d n j : Nat) (D : ob_D), j + d = 8 → d < n → cCrA S D c rv gt tt ev rp → D.1 c 7 = 0 → (∀ i, i < 16 → D.1 (c + 1) i = if 8 ≤ i ∧ i < 8 + j then ob_SAF (i - 8) else wi i) → ∃ D', f_Craft_changeMode_L28 S n c (N32 j) D = some D' ∧ (∀ i, i < 16 → D'.1 (c + 1) i = cr_safe wi i) ∧ oi (fun y k => y = c + 1) D D' := by
  intro d
  induction d with
  | zero =>
    intro n j D hj hn hA h7 hw
    match n, hn with
    | n + 1, _ =>
      have hj' : j = 8 := hj
      subst hj'
      refine ⟨D, ?_, fun i hi => by rw [hw i hi]; rfl, oi.rf⟩
      rw [f_Craft_changeMode_L28, h7, if_pos rfl, if_pos (by decide)]
  | succ d ih =>
    intro n j D hj hn hA h7 hw
    match n, hn with
    | n + 1, hn =>
      have e1 : N32 j + (1 : Int32) = N32 (j + 1) := nb_add _ 1
      have e8 : (8 : Int32) + N32 j = N32 (8 + j) := nb_add 8 j
      have g : oi (fun y k => y = c + 1) D (ob_pI D (c + 1) (8 + j) (ob_SAF j)) := oi.pI rfl
      obtain ⟨D', t1, t2, t3⟩ := ih n (j + 1) _ (by omega) (by omega) (hA.keep g.up (by omega) rfl) (by rw [pI_ne (by omega)]; exact h7) (fun i hi => by
        by_cases hc : i = 8 + j
        · rw [hc, pI_self, if_pos (by omega), Nat.add_sub_cancel_left]
        · rw [pI_ne (by omega), hw i hi]
          by_cases h2 : 8 ≤ i ∧ i < 8 + j
          · rw [if_pos h2, if_pos (by omega)]
          · rw [if_neg h2, if_neg (by omega)])
      refine ⟨D', ?_, t2, g.tr t3⟩
      rw [f_Craft_changeMode_L28, h7, if_pos rfl, if_neg (by rw [show (8 : Int32) = N32 8 from rfl, nb_le (by decide) (by omega)]; omega), hA.2.2.2.2.2.1, if_pos (by omega), if_pos (by rw [nb_in (by omega)]; omega), e8, hA.2.2.2.2.2.2, if_pos (by rw [nb_in (by omega)]; omega)]
      try simp (disch := omega) only [nb_clamp]
      simp only [ob_lt]
      rw [e1]
      exact t1
theorem crc_mode {S : ob_S} {D : ob_D} {c pt rv gt tt v rp : Nat} {z : sCr} {ev : sEv} (hA : cCrA S D c rv gt tt v rp) (h : cCrF D c pt z) (hE : cEv S D v ev) (hd : v + 71 ≤ c) (hv0 : v ≠ 0) {q : Nat} (hq : q < 3) : ∃ D', f_Craft_changeMode S c (N32 q) D = some D' ∧ cCrF D' c pt (cr_mode q (z, ev)).1 ∧ cEv S D' v (cr_mode q (z, ev)).2 ∧ og (fun y k => (y = c ∧ k = 7) ∨ y = c + 1 ∨ evP v y k) D D' := by
  obtain ⟨wi, mo, ck, al, hd', fa, br⟩ := z
  have h0 := h
  obtain ⟨c1, c2, c3, c4, c5, c6, c7, c8, c9, c10, c11⟩ := h
  unfold f_Craft_changeMode
  rw [c2, if_en (by omega) (by omega)]
  have ek : cr_mode q ((wi, mo, ck, al, hd', fa, br), ev) = if q = mo then ((wi, mo, ck, al, hd', fa, br), ev) else ((if q = 0 then cr_safe wi else wi, q, ck, al, hd', fa, br), ev_raise 1 (N32 q) ev) := rfl
  rw [ek]
  by_cases hc : q = mo
  · rw [if_pos hc, if_pos hc]
    exact ⟨D, rfl, h0, hE, og.rf⟩
  · rw [if_neg hc, if_neg hc]
    simp only [ob_lt]
    have g1 : og (fun y k => y = c ∧ k = 7) D (ob_pI D c 7 (N32 q)) := og.pI ⟨rfl, rfl⟩
    obtain ⟨D4, p1, p2, p3⟩ := evc_raise (hE.keep g1 (by omega) (fun _ _ _ => rfl)) (e := 1) (by decide) (N32 q)
    have p1' : f_Events_raise S v 1 (N32 q) (ob_pI D c 7 (N32 q)) = some D4 := p1
    rw [pI_ref, hA.2.2.2.1, if_pos hv0, pI_self, p1']
    simp only [ob_bv]
    have v7 : D4.1 c 7 = N32 q := by rw [(p3 _ _ (by omega)).1, pI_self]
    have hF4 : cCrF D4 c pt (wi, q, ck, al, hd', fa, br) := by
      refine ⟨fun i hi => by rw [(p3 _ _ (by omega)).1, (g1 _ _ (by omega)).1]; exact c1 i hi, v7, hq, by rw [(p3 _ _ (by omega)).1, (g1 _ _ (by omega)).1]; exact c4, by rw [(p3 _ _ (by omega)).1, (g1 _ _ (by omega)).1]; exact c5, c6, by rw [(p3 _ _ (by omega)).1, (g1 _ _ (by omega)).1]; exact c7, by rw [(p3 _ _ (by omega)).1, (g1 _ _ (by omega)).1]; exact c8, by rw [(p3 _ _ (by omega)).1, (g1 _ _ (by omega)).1]; exact c9, by rw [(p3 _ _ (by omega)).1, (g1 _ _ (by omega)).1]; exact c10, c11⟩
    have gA : og (fun y k => (y = c ∧ k = 7) ∨ y = c + 1 ∨ evP v y k) D D4 := (g1.mono (fun y k e => Or.inl e)).tr (p3.mono (fun y k e => Or.inr (Or.inr e)))
    by_cases hz : q = 0
    · rw [if_pos hz]
      obtain ⟨D', t1, t2, t3⟩ := crc_safe (S := S) (c := c) (wi := wi) 8 ob_FU 0 D4 (by omega) (by rw [ob_FU_eq]; omega) ((hA.keep g1 (by omega) rfl).keep p3 (by omega) rfl) (by rw [v7, hz]; rfl) (fun i hi => by rw [if_neg (by omega)]; exact hF4.1 i hi)
      refine ⟨D', t1, ?_, p2.keep t3.up (by omega) (fun _ _ _ => rfl), gA.tr (t3.up.mono (fun y k e => Or.inr (Or.inl e)))⟩
      obtain ⟨d1, d2, d3, d4, d5, d6, d7, d8, d9, d10, d11⟩ := hF4
      exact ⟨t2, by rw [t3.2 _ _ (by omega)]; exact d2, d3, by rw [t3.2 _ _ (by omega)]; exact d4, by rw [t3.2 _ _ (by omega)]; exact d5, d6, by rw [t3.2 _ _ (by omega)]; exact d7, by rw [t3.2 _ _ (by omega)]; exact d8, by rw [t3.2 _ _ (by omega)]; exact d9, by rw [t3.2 _ _ (by omega)]; exact d10, d11⟩
    · rw [if_neg hz]
      refine ⟨D4, ?_, hF4, p2, gA⟩
      rw [ob_FU_eq, f_Craft_changeMode_L28, v7, if_neg (by rw [show (0 : Int32) = N32 0 from rfl, nb_eq (by omega) (by decide)]; exact hz)]
-- ===== the reference's craft =====
def mCr (D : ob_D) (M pt : Nat) : sCr → Prop
  | (wi, mo, ck, al, hd, fa, br) => (∀ i, i < 8 → D.1 (M + 14) i = wi i ∧ D.1 (M + 15) i = wi (8 + i)) ∧ D.1 M 40 = N32 mo ∧ mo < 3 ∧ D.1 M 41 = N32 ck ∧ D.1 M 59 = bI al.isSome ∧ (∀ a, al = some a → D.1 M 58 = N32 a ∧ a < 2147483648) ∧ D.1 M 29 = hd ∧ D.1 M 30 = fa ∧ D.1 M 57 = br ∧ D.1 M 3 = N32 pt ∧ 1 ≤ pt ∧ pt ≤ 100
def mCrP (M : Nat) : Nat → Nat → Prop := fun y k => (y = M ∧ (k = 29 ∨ k = 30 ∨ k = 40 ∨ k = 41 ∨ k = 57 ∨ k = 58 ∨ k = 59)) ∨ y = M + 14 ∨ y = M + 15
theorem mCr.keep {D D' : ob_D} {M pt : Nat} {z : sCr} {P : Nat → Nat → Prop} (h : mCr D M pt z) (a : og P D D') (h0 : ∀ k, (k = 3 ∨ k = 29 ∨ k = 30 ∨ k = 40 ∨ k = 41 ∨ k = 57 ∨ k = 58 ∨ k = 59) → ¬ P M k) (h1 : ∀ k, ¬ P (M + 14) k) (h2 : ∀ k, ¬ P (M + 15) k) : mCr D' M pt z := by
  obtain ⟨wi, mo, ck, al, hd, fa, br⟩ := z
  obtain ⟨c1, c2, c3, c4, c5, c6, c7, c8, c9, c10, c11⟩ := h
  exact ⟨fun i hi => by rw [(a _ _ (h1 _)).1, (a _ _ (h2 _)).1]; exact c1 i hi, by rw [(a _ _ (h0 40 (by omega))).1]; exact c2, c3, by rw [(a _ _ (h0 41 (by omega))).1]; exact c4, by rw [(a _ _ (h0 59 (by omega))).1]; exact c5, fun x hx => ⟨by rw [(a _ _ (h0 58 (by omega))).1]; exact (c6 x hx).1, (c6 x hx).2⟩, by rw [(a _ _ (h0 29 (by omega))).1]; exact c7, by rw [(a _ _ (h0 30 (by omega))).1]; exact c8, by rw [(a _ _ (h0 57 (by omega))).1]; exact c9, by rw [(a _ _ (h0 3 (by omega))).1]; exact c10, c11⟩
theorem crm_safe {S : ob_S} {M : Nat} {wi : Nat → Int32} : ∀ (d n j : Nat) (D : ob_D), j + d = 8 → d < n → mA S D M → (∀ i, i < 8 → D.1 (M + 15) i = if i < j then ob_SAF i else wi (8 + i)) → ∃ D', f_Model_becomes_L26 S n M (N32 j) D = some D' ∧ (∀ i, i < 8 → D'.1 (M + 15) i = ob_SAF i) ∧ oi (fun y k => y = M + 15) D D' := by
  intro d
  induction d with
  | zero =>
    intro n j D hj hn hA hw
    match n, hn with
    | n + 1, _ =>
      have hj' : j = 8 := hj
      subst hj'
      refine ⟨D, ?_, fun i hi => by rw [hw i hi, if_pos hi], oi.rf⟩
      rw [f_Model_becomes_L26, if_pos (by decide)]
  | succ d ih =>
    intro n j D hj hn hA hw
    match n, hn with
    | n + 1, hn =>
      have a39 : D.2.1 M 39 = M + 15 ∧ S.2.1 (M + 15) = 8 := hA.1 (39, 15, 8) (by decide)
      have e1 : N32 j + (1 : Int32) = N32 (j + 1) := nb_add _ 1
      have hin : ob_in (N32 j) 8 := by rw [nb_in (by omega)]; omega
      have g : oi (fun y k => y = M + 15) D (ob_pI D (M + 15) j (ob_SAF j)) := oi.pI rfl
      obtain ⟨D', t1, t2, t3⟩ := ih n (j + 1) _ (by omega) (by omega) (hA.kp g) (fun i hi => by
        by_cases hc : i = j
        · rw [hc, pI_self, if_pos (by omega)]
        · rw [pI_ne (by omega), hw i hi]
          by_cases h2 : i < j
          · rw [if_pos h2, if_pos (by omega)]
          · rw [if_neg h2, if_neg (by omega)])
      refine ⟨D', ?_, t2, g.tr t3⟩
      rw [f_Model_becomes_L26, if_neg (by rw [show (8 : Int32) = N32 8 from rfl, nb_le (by decide) (by omega)]; omega), a39.1, if_pos (by omega), a39.2, show (4 : Int32) = N32 4 from rfl, if_le (by decide) (by omega), show (6 : Int32) = N32 6 from rfl, if_le (by decide) (by omega), if_en (by omega) (by decide), if_pos hin, if_pos hin, if_pos hin, if_pos hin]
      try simp (disch := omega) only [nb_clamp]
      rw [e1]
      simp only [ob_lt]
      by_cases h4 : 4 ≤ j
      · rw [if_pos h4]
        by_cases h6 : 6 ≤ j
        · rw [if_pos h6]
          by_cases h66 : j = 6
          · rw [if_pos h66, show (100 : Int32) = ob_SAF j by rw [h66]; rfl]
            exact t1
          · rw [if_neg h66, show (1 : Int32) = ob_SAF j by rw [show j = 7 by omega]; rfl]
            exact t1
        · rw [if_neg h6, show (50 : Int32) = ob_SAF j by rcases (show j = 4 ∨ j = 5 by omega) with h | h <;> rw [h] <;> rfl]
          exact t1
      · rw [if_neg h4, show (0 : Int32) = ob_SAF j by rcases (show j = 0 ∨ j = 1 ∨ j = 2 ∨ j = 3 by omega) with h | h | h | h <;> rw [h] <;> rfl]
        exact t1
theorem crm_mode {S : ob_S} {D : ob_D} {M pt : Nat} {z : sCr} {ev : sEv} (hA : mA S D M) (h : mCr D M pt z) (hE : mEv D M ev) {q : Nat} (hq : q < 3) : ∃ D', f_Model_becomes S M (N32 q) D = some D' ∧ mCr D' M pt (cr_mode q (z, ev)).1 ∧ mEv D' M (cr_mode q (z, ev)).2 ∧ oi (fun y k => (y = M ∧ (k = 40 ∨ k = 67 ∨ k = 68)) ∨ y = M + 15 ∨ y = M + 33 ∨ y = M + 34) D D' := by
  obtain ⟨wi, mo, ck, al, hd', fa, br⟩ := z
  have h0 := h
  obtain ⟨c1, c2, c3, c4, c5, c6, c7, c8, c9, c10, c11⟩ := h
  unfold f_Model_becomes
  rw [c2, if_en (by omega) (by omega)]
  have ek : cr_mode q ((wi, mo, ck, al, hd', fa, br), ev) = if q = mo then ((wi, mo, ck, al, hd', fa, br), ev) else ((if q = 0 then cr_safe wi else wi, q, ck, al, hd', fa, br), ev_raise 1 (N32 q) ev) := rfl
  rw [ek]
  by_cases hc : q = mo
  · rw [if_pos hc, if_pos hc]
    exact ⟨D, rfl, h0, hE, oi.rf⟩
  · rw [if_neg hc, if_neg hc]
    simp only [ob_lt]
    have g1 : oi (fun y k => y = M ∧ k = 40) D (ob_pI D M 40 (N32 q)) := oi.pI ⟨rfl, rfl⟩
    obtain ⟨D4, p1, p2, p3⟩ := evm_raise (hA.kp g1) (hE.keep g1.up (by omega) (by omega) (by omega)) (e := 1) (by decide) (N32 q)
    have p1' : f_Model_raise S M 1 (N32 q) (ob_pI D M 40 (N32 q)) = some D4 := p1
    rw [p1']
    simp only [ob_bv]
    have hF4 : mCr D4 M pt (wi, q, ck, al, hd', fa, br) := by
      refine ⟨fun i hi => by rw [p3.2 _ _ (by omega), g1.2 _ _ (by omega), p3.2 _ _ (by omega), g1.2 _ _ (by omega)]; exact c1 i hi, by rw [p3.2 _ _ (by omega), pI_self], hq, by rw [p3.2 _ _ (by omega), g1.2 _ _ (by omega)]; exact c4, by rw [p3.2 _ _ (by omega), g1.2 _ _ (by omega)]; exact c5, fun x hx => ⟨by rw [p3.2 _ _ (by omega), g1.2 _ _ (by omega)]; exact (c6 x hx).1, (c6 x hx).2⟩, by rw [p3.2 _ _ (by omega), g1.2 _ _ (by omega)]; exact c7, by rw [p3.2 _ _ (by omega), g1.2 _ _ (by omega)]; exact c8, by rw [p3.2 _ _ (by omega), g1.2 _ _ (by omega)]; exact c9, by rw [p3.2 _ _ (by omega), g1.2 _ _ (by omega)]; exact c10, c11⟩
    have gA : oi (fun y k => (y = M ∧ (k = 40 ∨ k = 67 ∨ k = 68)) ∨ y = M + 15 ∨ y = M + 33 ∨ y = M + 34) D D4 := g1.tr2 p3 (fun y k e => by omega) (fun y k e => by omega)
    rw [show (0 : Int32) = N32 0 from rfl, if_en (by omega) (by decide)]
    by_cases hz : q = 0
    · rw [if_pos hz, if_pos hz]
      obtain ⟨D', t1, t2, t3⟩ := crm_safe (S := S) (M := M) (wi := wi) 8 ob_FU 0 D4 (by omega) (by rw [ob_FU_eq]; omega) ((hA.kp g1).kp p3) (fun i hi => by rw [if_neg (by omega)]; exact (hF4.1 i hi).2)
      refine ⟨D', t1, ?_, p2.keep t3.up (by omega) (by omega) (by omega), gA.tr (t3.mono (fun y k e => by omega))⟩
      obtain ⟨d1, d2, d3, d4, d5, d6, d7, d8, d9, d10, d11⟩ := hF4
      refine ⟨fun i hi => ⟨?_, ?_⟩, by rw [t3.2 _ _ (by omega)]; exact d2, d3, by rw [t3.2 _ _ (by omega)]; exact d4, by rw [t3.2 _ _ (by omega)]; exact d5, fun x hx => ⟨by rw [t3.2 _ _ (by omega)]; exact (d6 x hx).1, (d6 x hx).2⟩, by rw [t3.2 _ _ (by omega)]; exact d7, by rw [t3.2 _ _ (by omega)]; exact d8, by rw [t3.2 _ _ (by omega)]; exact d9, by rw [t3.2 _ _ (by omega)]; exact d10, d11⟩
      · rw [t3.2 _ _ (by omega)]
        unfold cr_safe
        rw [if_neg (by omega)]
        exact (d1 i hi).1
      · rw [t2 i hi]
        unfold cr_safe
        rw [if_pos (by omega), Nat.add_sub_cancel_left]
    · rw [if_neg hz, if_neg hz]
      exact ⟨D4, rfl, hF4, p2, gA⟩
