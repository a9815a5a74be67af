-- ===== the timetable's commands, in the class =====
def te_v (c : List Nat) (n m ck : Nat) : Nat := if fo ((c.drop 15).take (c.length - 17)) = 0 then (if N32 ck < N32 (nn c 11 4) then (if n < m then 0 else 21) else 20) else 22
def te_new (c : List Nat) : sEn := (N32 (nn c 11 4), (c.drop 15).take (c.length - 17))
def te_has (c : List Nat) (A : List sEn) : Nat := if A.any (fun e => en_no e == nn c 11 2 % 16384) = true then 0 else 23
def te_can (c : List Nat) (ck : Nat) (A : List sEn) : Nat := if tt_can (N32 (nn c 11 4)) (N32 ck) A = true then 0 else 24
theorem any_sort (p : sEn → Bool) (A : List sEn) : (tt_sort A).any p = A.any p := by
  rw [Bool.eq_iff_iff, List.any_eq_true, List.any_eq_true]
  constructor
  · rintro ⟨x, hx, h⟩; exact ⟨x, (tt_sort_mem A x).mp hx, h⟩
  · rintro ⟨x, hx, h⟩; exact ⟨x, (tt_sort_mem A x).mpr hx, h⟩
theorem can_sort (d k : Int32) (A : List sEn) : tt_can d k (tt_sort A) = tt_can d k A := by
  unfold tt_can
  rw [Bool.eq_iff_iff, List.all_eq_true, List.all_eq_true]
  constructor
  · intro h x hx; exact h x ((tt_sort_mem A x).mpr hx)
  · intro h x hx; exact h x ((tt_sort_mem A x).mp hx)
theorem i_add_toInt {a b : Int32} (h1 : -2147483648 ≤ a.toInt + b.toInt) (h2 : a.toInt + b.toInt < 2147483648) : (a + b).toInt = a.toInt + b.toInt := by
  rw [Int32.toInt_add]
  apply Int.bmod_eq_of_le <;> omega
theorem shift_sort {d k : Int32} {A : List sEn} (h : tt_can d k A = true) : tt_sort (tt_shift d A) = tt_shift d (tt_sort A) := by
  unfold tt_shift
  apply tt_sort_map
  intro a ha b hb
  unfold tt_can at h
  have h1 := of_decide_eq_true (List.all_eq_true.mp h a ha)
  have h2 := of_decide_eq_true (List.all_eq_true.mp h b hb)
  have hk := k.le_toInt
  show a.1 + d ≤ b.1 + d ↔ a.1 ≤ b.1
  rw [Int32.le_iff_toInt_le, Int32.le_iff_toInt_le, i_add_toInt (by omega) (by omega), i_add_toInt (by omega) (by omega)]
  omega
theorem fo_13 {p : List Nat} (h : fo p = 0) : 13 ≤ p.length := by
  unfold fo at h
  by_cases e : p.length < 13
  · rw [if_pos e] at h; exact absurd h (by decide)
  · omega
theorem hc_newentry {S : ob_S} {D : ob_D} {B m fr pt : Nat} {c : List Nat} {A : List sEn} {on : Bool} {cr : sCr} (h : cHd S D B m fr) (hc : cCm S D B m fr c) (hT : cTt S D (B + 26) m (tt_sort A) on) (hF : cCrF D (B + 29 + 2 * m + 80 + 2 * fr + 7) pt cr) (hl : 17 ≤ c.length) : f_Handler_newEntryFailure S (B + 29 + 2 * m + 80 + 2 * fr + 9) D = some (N32 (te_v c A.length m cr.2.2.1), D) := by
  obtain ⟨wi, mo, ck, al, hd, fa, br⟩ := cr
  have v8 : D.1 (B + 29 + 2 * m + 80 + 2 * fr + 7) 8 = N32 ck := hF.2.2.2.1
  have hcl : c.length ≤ 252 := hc.2.2.2.2.2.1
  have e4 : N32 (c.length - 13) - (4 : Int32) = N32 (c.length - 17) := by rw [show (4 : Int32) = N32 4 from rfl, nb_sub (by omega)]; congr 1
  have hfo : f_Handler_faultOf S (B + 29 + 2 * m + 80 + 2 * fr + 12) 15 (N32 (c.length - 17)) D = some (N32 (fo ((c.drop 15).take (c.length - 17))), D) := foc hc (f := 15) (by omega) hcl
  have hle := fo_le ((c.drop 15).take (c.length - 17))
  have d0 : f_Handler_data S (B + 29 + 2 * m + 80 + 2 * fr + 9) 0 4 D = some (N32 (nn c 11 4), D) := wc_data h hc (i := 0) (n := 4) (by decide) (by decide)
  have hfull := ttc_full hT
  rw [tt_sort_len] at hfull
  unfold f_Handler_newEntryFailure te_v
  rw [h.2.2.2.2.2.2.2.2.1, if_pos (by omega), wc_dlen h hc (by omega)]
  simp only [ob_bd]
  rw [e4, hfo]
  simp only [ob_bd]
  show _ = some (N32 (if fo ((c.drop 15).take (c.length - 17)) = 0 then (if N32 ck < N32 (nn c 11 4) then (if A.length < m then 0 else 21) else 20) else 22), D)
  by_cases h0 : fo ((c.drop 15).take (c.length - 17)) = 0
  · rw [if_pos (by rw [h0]; rfl), if_pos h0, d0]
    simp only [ob_bd]
    rw [h.1, if_pos (by omega), v8]
    by_cases h1 : N32 ck < N32 (nn c 11 4)
    · rw [if_pos h1, if_pos h1, h.2.2.1, if_pos (by omega), hfull]
      simp only [ob_bd]
      rw [if_bI]
      by_cases h2 : A.length < m
      · rw [if_neg (show ¬ decide (m ≤ A.length) = true by rw [decide_eq_true_iff]; omega), if_pos h2]; rfl
      · rw [if_pos (show decide (m ≤ A.length) = true by rw [decide_eq_true_iff]; omega), if_neg h2]; rfl
    · rw [if_neg h1, if_neg h1]; rfl
  · rw [if_neg (by rw [show (0 : Int32) = N32 0 from rfl, nb_eq (by omega) (by decide)]; exact h0), if_neg h0]; rfl
theorem te_0 {c : List Nat} {n m ck : Nat} (h : te_v c n m ck = 0) : fo ((c.drop 15).take (c.length - 17)) = 0 ∧ n < m := by
  unfold te_v at h
  by_cases h0 : fo ((c.drop 15).take (c.length - 17)) = 0
  · rw [if_pos h0] at h
    by_cases h1 : N32 ck < N32 (nn c 11 4)
    · rw [if_pos h1] at h
      by_cases h2 : n < m
      · exact ⟨h0, h2⟩
      · rw [if_neg h2] at h; exact absurd h (by decide)
    · rw [if_neg h1] at h; exact absurd h (by decide)
  · rw [if_neg h0] at h; exact absurd h (by decide)
theorem cW.keepX {S : ob_S} {D D' : ob_D} {B m fr F w pt : Nat} {z z' : sW} {c : List Nat} {P : Nat → Nat → Prop} (h : cX S D B m fr F w pt z c) (hW : cW S D' B m fr F w pt z') (g : og P D D') (h1 : ∀ k, ¬ P (B + 29 + 2 * m + 80 + 2 * fr + 3) k) (h2 : ∀ k, ¬ P (B + 29 + 2 * m + 80 + 2 * fr + 4) k) (h3 : ∀ k, ¬ P (B + 29 + 2 * m + 80 + 2 * fr + 12) k) (h4 : ∀ k, ¬ P (B + 29 + 2 * m + 80 + 2 * fr + 13) k) (hr : ∀ y k, P y k → cReg B m fr y k) : cX S D' B m fr F w pt z' c ∧ og (cReg B m fr) D D' := by
  obtain ⟨-, ⟨p, hp⟩, hc⟩ := h
  exact ⟨⟨hW, ⟨p, hp.keep g h1 h2 rfl⟩, hc.keep g h3 h4 rfl⟩, g.mono hr⟩
theorem ttc_flag {S : ob_S} {D : ob_D} {t m : Nat} {L : List sEn} {on : Bool} (h : cTt S D t m L on) (b : Bool) : cTt S (ob_pI D t 3 (bI b)) t m L b := by
  obtain ⟨h1, h2, h3, h4, h5⟩ := h
  have g : og (fun y k => y = t ∧ k = 3) D (ob_pI D t 3 (bI b)) := og.pI ⟨rfl, rfl⟩
  exact ⟨h1.keep g (by omega) (by omega) rfl rfl, h2.keep g (by omega) h4 (fun _ _ _ => rfl), by rw [pI_ne (by omega)]; exact h3, h4, pI_self⟩
theorem ttc_clear {S : ob_S} {D : ob_D} {t m : Nat} {L : List sEn} {on : Bool} (h : cTt S D t m L on) : cTt S (ob_pI (ob_pI D t 2 (0 : Int32)) t 3 (0 : Int32)) t m [] false := by
  obtain ⟨h1, ⟨r, rows, r1, r2, r3, r4, r5⟩, h3, h4, h5⟩ := h
  have g : og (fun y k => y = t ∧ (k = 2 ∨ k = 3)) D (ob_pI (ob_pI D t 2 (0 : Int32)) t 3 (0 : Int32)) := (og.pI ⟨rfl, Or.inl rfl⟩).tr (og.pI ⟨rfl, Or.inr rfl⟩)
  exact ⟨h1.keep g (by omega) (by omega) rfl rfl, ⟨r, rows, r1, r2, fun i hi => by rw [(g _ _ (by omega)).2.1]; exact r3 i hi, fun j hj => (r4 j hj).keep g (by omega) (by omega) rfl, fun i hi => absurd hi (by simp)⟩, by rw [pI_ne (by omega), pI_self]; rfl, Nat.zero_le _, pI_self⟩
theorem hc_tell {S : ob_S} {D : ob_D} {B m fr F w pt : Nat} {z : sW} {c : List Nat} (h : cX S D B m fr F w pt z c) : ∃ D', f_Handler_tellEntries S (B + 29 + 2 * m + 80 + 2 * fr + 9) D = some D' ∧ cX S D' B m fr F w pt (w_rep w 11 13 (tt_told (tt_sort z.2.2.1)) z) c ∧ og (cReg B m fr) D D' := by
  obtain ⟨hW, ⟨p, hp⟩, hc⟩ := h
  have hd := hW.hd
  obtain ⟨D7, b1, b2, b3, b4, b5⟩ := wc_begin hW hp hc (s := 11) (k := 13) (by decide) (by decide)
  have hd7 := b2.hd
  have hT7 : ∃ on, cTt S D7 (B + 26) m (tt_sort z.2.2.1) on := by
    obtain ⟨gt, rc, A, on, ev, lm, ch, frs, rp, cr, fm, me⟩ := z
    exact ⟨on, b2.2.2.1⟩
  obtain ⟨on, hT7⟩ := hT7
  obtain ⟨D11, t1, t2, t3⟩ := ttc_tell hT7 b3 (by rw [w_hd_len]; decide) (by omega)
  have hW11 : cW S D11 B m fr F w pt (w_beg 11 13 z) := by
    obtain ⟨gt, rc, A, on, ev, lm, ch, frs, rp, cr, fm, me⟩ := z
    exact b2.u0 (t3.up2 (fun y k e => by omega))
  have hc11 : cCm S D11 B m fr c := b4.kept t3 (by omega) (by omega)
  have hd11 := hW11.hd
  have hlen : (tt_told (tt_sort z.2.2.1)).length ≤ 193 := by
    unfold tt_told
    rw [List.length_append, by_be_len, tt_say_len, List.length_take]
    omega
  obtain ⟨D', u1, u2, u3⟩ := wc_done hW11 t2 hc11 (by decide) (by omega)
  refine ⟨D', ?_, u2, (b5.tr (cReg_pk t3)).tr u3⟩
  have b1' : f_Reports_begin S (B + 29 + 2 * m + 80 + 2 * fr) 11 13 (D.1 (B + 29 + 2 * m + 80 + 2 * fr + 7) 8) D = some (B + 29 + 2 * m + 80 + 2 * fr + 3, D7) := b1
  unfold f_Handler_tellEntries
  rw [hd.2.2.1, if_pos (by omega), hd.2.2.2.2.1, if_pos (by omega), hd.1, if_pos (by omega), b1']
  simp only [ob_bd]
  rw [if_pos hd.2.2.2.2.2.2.2.2.2, t1]
  simp only [ob_bv]
  rw [hd11.2.2.2.2.1, if_pos (by omega), u1]
