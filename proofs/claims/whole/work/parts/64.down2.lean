-- ===== the class's downlink: frames =====
def cDnA (S : ob_S) (D : ob_D) (d fr F : Nat) : Prop := D.2.1 d 0 = d + 1 ∧ D.2.1 d 1 = d + 3 ∧ D.2.1 d 2 = d + 6 ∧ D.2.1 d 4 = d + 5 ∧ S.2.1 (d + 5) = 8 ∧ S.2.1 (d + 6) = fr ∧ (∀ i, i < fr → D.2.1 (d + 6) i = d + 7 + 2 * i) ∧ D.1 d 3 = N32 F ∧ 64 ≤ F ∧ F ≤ 256 ∧ 1 ≤ fr ∧ fr ≤ 4
def cDnC (S : ob_S) (D : ob_D) (d : Nat) : sCh → Prop
  | (lv, rp, so, al) => rgN S D (d + 1) (d + 2) 4096 lv ∧ rgN S D (d + 3) (d + 4) 4096 rp ∧ (∀ x ∈ lv, x < 512) ∧ (∀ x ∈ rp, x < 512) ∧ (∀ v, v < 8 → D.1 (d + 5) v = N32 (so v)) ∧ D.1 d 5 = N32 al
def cDnR (S : ob_S) (D : ob_D) (d fr F : Nat) (frs : List (List Nat)) : Prop := ∃ rows : Nat → List Nat, (∀ i, i < fr → rw_at S D (d + 7 + 2 * i) (d + 8 + 2 * i) F (rows i)) ∧ frs.length ≤ fr ∧ ∀ i, i < frs.length → rows i = frs.getD i []
def cDn (S : ob_S) (D : ob_D) (d fr F : Nat) (c : sCh) (frs : List (List Nat)) : Prop := cDnA S D d fr F ∧ cDnC S D d c ∧ cDnR S D d fr F frs ∧ D.1 d 6 = N32 frs.length
theorem cDnA.keep {S S' : ob_S} {D D' : ob_D} {d fr F : Nat} {P : Nat → Nat → Prop} (h : cDnA S D d fr F) (a : og P D D') (h0 : ∀ k, k < 5 → ¬ P d k) (h6 : ∀ k, ¬ P (d + 6) k) (hS5 : S'.2.1 (d + 5) = S.2.1 (d + 5)) (hS6 : S'.2.1 (d + 6) = S.2.1 (d + 6)) : cDnA S' D' d fr F := by
  obtain ⟨a1, a2, a3, a4, a5, a6, a7, a8, a9⟩ := h
  exact ⟨by rw [(a d 0 (h0 0 (by decide))).2.1]; exact a1, by rw [(a d 1 (h0 1 (by decide))).2.1]; exact a2, by rw [(a d 2 (h0 2 (by decide))).2.1]; exact a3, by rw [(a d 4 (h0 4 (by decide))).2.1]; exact a4, by rw [hS5]; exact a5, by rw [hS6]; exact a6, fun i hi => by rw [(a _ _ (h6 i)).2.1]; exact a7 i hi, by rw [(a d 3 (h0 3 (by decide))).1]; exact a8, a9⟩
theorem cDnC.keep {S S' : ob_S} {D D' : ob_D} {d : Nat} {c : sCh} {P : Nat → Nat → Prop} (h : cDnC S D d c) (a : og P D D') (h5 : ¬ P d 5) (hP : ∀ y k, d < y → y < d + 6 → ¬ P y k) (hS2 : S'.2.1 (d + 2) = S.2.1 (d + 2)) (hS4 : S'.2.1 (d + 4) = S.2.1 (d + 4)) : cDnC S' D' d c := by
  obtain ⟨lv, rp, so, al⟩ := c
  obtain ⟨c1, c2, c3, c4, c5, c6⟩ := h
  exact ⟨rg_at.keep c1 a (fun k => hP _ _ (by omega) (by omega)) (fun k => hP _ _ (by omega) (by omega)) hS2, rg_at.keep c2 a (fun k => hP _ _ (by omega) (by omega)) (fun k => hP _ _ (by omega) (by omega)) hS4, c3, c4, fun v hv => by rw [(a _ _ (hP _ _ (by omega) (by omega))).1]; exact c5 v hv, by rw [(a _ _ h5).1]; exact c6⟩
theorem cDnR.keep {S S' : ob_S} {D D' : ob_D} {d fr F : Nat} {frs : List (List Nat)} {P : Nat → Nat → Prop} (h : cDnR S D d fr F frs) (a : og P D D') (hP : ∀ y k, d + 7 ≤ y → y < d + 7 + 2 * fr → ¬ P y k) (hS : ∀ y, d + 7 ≤ y → y < d + 7 + 2 * fr → S'.2.1 y = S.2.1 y) : cDnR S' D' d fr F frs := by
  obtain ⟨rows, h1, h2⟩ := h
  exact ⟨rows, fun i hi => (h1 i hi).keep a (fun k => hP _ _ (by omega) (by omega)) (fun k => hP _ _ (by omega) (by omega)) (hS _ (by omega) (by omega)), h2⟩
theorem cDn.keep {S S' : ob_S} {D D' : ob_D} {d fr F : Nat} {c : sCh} {frs : List (List Nat)} {P : Nat → Nat → Prop} (h : cDn S D d fr F c frs) (a : og P D D') (hP : ∀ y k, d ≤ y → y < d + 7 + 2 * fr → ¬ P y k) (hS : ∀ y, d ≤ y → y < d + 7 + 2 * fr → S'.2.1 y = S.2.1 y) : cDn S' D' d fr F c frs := by
  obtain ⟨h1, h2, h3, h4⟩ := h
  have hfr := h1.2.2.2.2.2.2.2.2.2.2.1
  exact ⟨h1.keep a (fun k _ => hP _ _ (by omega) (by omega)) (fun k => hP _ _ (by omega) (by omega)) (hS _ (by omega) (by omega)) (hS _ (by omega) (by omega)), h2.keep a (hP _ _ (by omega) (by omega)) (fun y k _ _ => hP _ _ (by omega) (by omega)) (hS _ (by omega) (by omega)) (hS _ (by omega) (by omega)), h3.keep a (fun y k _ _ => hP _ _ (by omega) (by omega)) (fun y _ _ => hS _ (by omega) (by omega)), by rw [(a _ _ (hP _ _ (by omega) (by omega))).1]; exact h4⟩
theorem dn_h_len (ch al so fh : Nat) : (dn_h ch al so fh).length = 6 := rfl
theorem dn_ch_e {ch : Nat} (h : ch = 0 ∨ ch = 1 ∨ ch = 7) : (((5536 : Int32) ||| (N32 ch <<< ((1 : Int32) &&& 31))) ||| (1 : Int32)) = N32 (5537 + 2 * ch) := by
  rcases h with e | e | e <;> subst e <;> decide
theorem dn_or {fh : Nat} (h : fh < 2048) : (6144 : Int32) ||| N32 fh = N32 (6144 + fh) := by
  rw [show (6144 : Int32) = N32 6144 from rfl, n_or]
  congr 1
  have := Nat.two_pow_add_eq_or_of_lt (i := 11) (b := fh) h 3
  rw [show 2 ^ 11 * 3 = 6144 from rfl] at this
  omega
theorem dnc_end {S : ob_S} {D : ob_D} {d fr F n a b ch al fh : Nat} {so : Nat → Nat} {body : List Nat} {wd : Int32} (hA : cDnA S D d fr F) (hF : F = n + 12) (hch : ch = 0 ∨ ch = 1 ∨ ch = 7) (hfh : fh < 2048) (hab : a = b - 1) (ha : d + 7 ≤ a) (hab2 : a < b) (hw : rw_at S D a b F (([] ++ by_be (N32 (5537 + 2 * ch)) 2 ++ by_be (N32 al) 1 ++ by_be (N32 (so ch)) 1 ++ by_be 0 2) ++ body.map (fun v => v % 256))) (hbl : body.length = n) (hal : D.1 d 5 = N32 al) (hso : ∀ v, v < 8 → D.1 (d + 5) v = N32 (so v)) : ∃ D', f_Downlink_writeFrame_L79 S d a (N32 ch) wd (N32 fh) D = some D' ∧ rw_at S D' a b F (dn_fr ch al (so ch) fh body wd) ∧ D'.1 d 5 = N32 (al + 1) ∧ (∀ v, v < 8 → D'.1 (d + 5) v = N32 (dn_up so ch v)) ∧ oi (fun y k => y = a ∨ y = b ∨ (y = d ∧ k = 5) ∨ y = d + 5) D D' := by
  obtain ⟨a1, a2, a3, a4, a5, a6, a7, a8, a9, a10, a11, a12⟩ := hA
  have hc8 : ch < 8 := by omega
  obtain ⟨D18, p1, w1, g1⟩ := rw_replace (f := 4) (c := 2) hw (N32 (6144 + fh)) (by decide) (by simp only [List.length_append, by_be_len, List.length_nil, List.length_map]; omega)
  have w1' : rw_at S D18 a b F (dn_h ch al (so ch) fh ++ body.map (fun v => v % 256)) := w1
  obtain ⟨D20, p2, w2, g2⟩ := rw_add w1' wd (c := 4) (by decide) (by rw [List.length_append, dn_h_len, List.length_map]; omega)
  have w2' : rw_at S D20 a b F (dn_b ch al (so ch) fh body wd) := w2
  have hbl2 : (dn_b ch al (so ch) fh body wd).length = n + 10 := by
    unfold dn_b
    rw [List.length_append, List.length_append, dn_h_len, List.length_map, by_be_len]
    omega
  obtain ⟨D25, p3, w3, g3⟩ := rw_add w2' (N32 (cr_f (dn_b ch al (so ch) fh body wd))) (c := 2) (by decide) (by rw [hbl2]; omega)
  have w3' : rw_at S D25 a b F (dn_fr ch al (so ch) fh body wd) := w3
  have ec : f_Row_check S a 0 (D20.1 a 1) D20 = some (N32 (cr_f (dn_b ch al (so ch) fh body wd)), D20) := by
    rw [w2'.2.2.2.2.1]
    have := rw_crc w2' (f := 0) (c := (dn_b ch al (so ch) fh body wd).length) (by omega)
    rw [List.drop_zero, List.take_length] at this
    exact this
  have g25 : ob_ag (fun y => y = a ∨ y = b) D D25 := ((g1.mono (fun y e => Or.inr e)).tr g2).tr g3
  have e5 : D25.1 d 5 + 1 = N32 (al + 1) := by rw [g25.2 _ _ (by omega), hal]; exact nb_add _ 1
  have eso : (ob_pI D25 d 5 (N32 (al + 1))).1 (d + 5) ch + 1 = N32 (so ch + 1) := by rw [pI_ne (by omega), g25.2 _ _ (by omega), hso ch hc8]; exact nb_add _ 1
  have hin : ob_in (N32 ch) 8 := by rw [nb_in (by omega)]; exact hc8
  have gB : oi (fun y k => (y = d ∧ k = 5) ∨ (y = d + 5 ∧ k = ch)) D25 (ob_pI (ob_pI D25 d 5 (N32 (al + 1))) (d + 5) ch (N32 (so ch + 1))) := (oi.pI (Or.inl ⟨rfl, rfl⟩)).tr (oi.pI (Or.inr ⟨rfl, rfl⟩))
  refine ⟨ob_pI (ob_pI D25 d 5 (N32 (al + 1))) (d + 5) ch (N32 (so ch + 1)), ?_, w3'.keep gB.up (by omega) (by omega) rfl, by rw [pI_ne (by omega), pI_self], fun v hv => ?_, ?_⟩
  · unfold f_Downlink_writeFrame_L79
    have p1' : f_Row_replace S a 4 (N32 (6144 + fh)) 2 D = some D18 := p1
    have p2' : f_Row_add S a wd 4 D18 = some D20 := p2
    have p3' : f_Row_add S a (N32 (cr_f (dn_b ch al (so ch) fh body wd))) 2 D20 = some D25 := p3
    rw [dn_or hfh, p1']
    simp only [ob_bv]
    rw [p2']
    simp only [ob_bv]
    rw [ec]
    simp only [ob_bd]
    rw [p3']
    simp only [ob_bv, ob_lt]
    rw [e5, pI_ref, g25.1, a4, if_pos (by omega), a5, if_pos hin, if_pos hin]
    try simp (disch := omega) only [nb_clamp]
    rw [eso]
  · unfold dn_up
    by_cases hv2 : v = ch
    · rw [if_pos hv2, hv2, pI_self]
    · rw [if_neg hv2, pI_ne (by omega), pI_ne (by omega), g25.2 _ _ (by omega)]
      exact hso v hv
  · exact (g25.oi).tr2 gB (fun y k e => by omega) (fun y k e => by omega)
def dn_ch : sCh → Nat
  | (lv, rp, _, _) => if 0 < lv.length then 0 else if 0 < rp.length then 1 else 7
theorem dnc_write {S : ob_S} {D : ob_D} {d fr F n i : Nat} {c : sCh} {l0 : List Nat} {wd : Int32} (hA : cDnA S D d fr F) (hC : cDnC S D d c) (hF : F = n + 12) (hw : rw_at S D (d + 7 + 2 * i) (d + 8 + 2 * i) F l0) : ∃ D', f_Downlink_writeFrame S d (d + 7 + 2 * i) (N32 (dn_ch c)) wd D = some D' ∧ cDnC S D' d (dn_one n wd c).2 ∧ rw_at S D' (d + 7 + 2 * i) (d + 8 + 2 * i) F (dn_one n wd c).1 ∧ oi (fun y k => (y = d ∧ k = 5) ∨ (d < y ∧ y < d + 6) ∨ y = d + 7 + 2 * i ∨ y = d + 8 + 2 * i) D D' := by
  obtain ⟨lv, rp, so, al⟩ := c
  have hA0 := hA
  obtain ⟨a1, a2, a3, a4, a5, a6, a7, a8, a9, a10, a11, a12⟩ := hA
  obtain ⟨c1, c2, c3, c4, c5, c6⟩ := hC
  obtain ⟨ch, hch⟩ : ∃ x, x = dn_ch (lv, rp, so, al) := ⟨_, rfl⟩
  have hch3 : ch = 0 ∨ ch = 1 ∨ ch = 7 := by
    rw [hch]
    show (if _ then _ else if _ then _ else _) = 0 ∨ (if _ then _ else if _ then _ else _) = 1 ∨ (if _ then _ else if _ then _ else _) = 7
    split
    · exact Or.inl rfl
    · split
      · exact Or.inr (Or.inl rfl)
      · exact Or.inr (Or.inr rfl)
  have hc8 : ch < 8 := by omega
  rw [← hch]
  obtain ⟨D1, hD1⟩ : ∃ x, x = ob_pI D (d + 7 + 2 * i) 1 (0 : Int32) := ⟨_, rfl⟩
  have g1 : ob_ag (fun y => y = d + 7 + 2 * i ∨ y = d + 8 + 2 * i) D D1 := hD1 ▸ ob_ag.pI (Or.inl rfl)
  have w1 : rw_at S D1 (d + 7 + 2 * i) (d + 8 + 2 * i) F [] := hD1 ▸ rw_nil hw
  obtain ⟨D2, p2, w2, k2⟩ := rw_add w1 (N32 (5537 + 2 * ch)) (c := 2) (by decide) (by simp only [List.length_nil]; omega)
  have g2 := g1.tr k2
  obtain ⟨D4, p4, w4, k4⟩ := rw_add w2 (N32 al) (c := 1) (by decide) (by simp only [List.length_append, by_be_len, List.length_nil]; omega)
  have g4 := g2.tr k4
  obtain ⟨D9, p9, w9, k9⟩ := rw_add w4 (N32 (so ch)) (c := 1) (by decide) (by simp only [List.length_append, by_be_len, List.length_nil]; omega)
  have g9 := g4.tr k9
  obtain ⟨D11, p11, w11, k11⟩ := rw_add w9 0 (c := 2) (by decide) (by simp only [List.length_append, by_be_len, List.length_nil]; omega)
  have g11 := g9.tr k11
  have p2' : f_Row_add S (d + 7 + 2 * i) (N32 (5537 + 2 * ch)) 2 D1 = some D2 := p2
  have p4' : f_Row_add S (d + 7 + 2 * i) (N32 al) 1 D2 = some D4 := p4
  have p9' : f_Row_add S (d + 7 + 2 * i) (N32 (so ch)) 1 D4 = some D9 := p9
  have p11' : f_Row_add S (d + 7 + 2 * i) 0 2 D9 = some D11 := p11
  have e5 : D2.1 d 5 = N32 al := by rw [g2.2 _ _ (by omega)]; exact c6
  have eso : D4.1 (d + 5) ch = N32 (so ch) := by rw [g4.2 _ _ (by omega)]; exact c5 ch hc8
  have hin : ob_in (N32 ch) 8 := by rw [nb_in (by omega)]; exact hc8
  have hA11 : cDnA S D11 d fr F := hA0.keep g11.up (by omega) (by omega) rfl rfl
  have gI : oi (fun y k => (y = d ∧ k = 5) ∨ (d < y ∧ y < d + 6) ∨ y = d + 7 + 2 * i ∨ y = d + 8 + 2 * i) D D11 := g11.oi.mono (by omega)
  unfold f_Downlink_writeFrame
  simp only [ob_lt]
  rw [dn_ch_e hch3, ← hD1, p2']
  simp only [ob_bv]
  rw [e5, p4']
  simp only [ob_bv]
  rw [g4.1, a4, if_pos (by omega), a5, if_pos hin]
  try simp (disch := omega) only [nb_clamp]
  rw [eso, p9']
  simp only [ob_bv]
  rw [p11']
  simp only [ob_bv]
  -- what comes after the field
  have hend : ∀ (D3 : ob_D) (body : List Nat) (fh : Nat) (lv' rp' : List Nat), fh < 2048 → body.length = n → oi (fun y k => y = d + 7 + 2 * i ∨ y = d + 8 + 2 * i ∨ (d < y ∧ y < d + 5)) D11 D3 → rw_at S D3 (d + 7 + 2 * i) (d + 8 + 2 * i) F (([] ++ by_be (N32 (5537 + 2 * ch)) 2 ++ by_be (N32 al) 1 ++ by_be (N32 (so ch)) 1 ++ by_be 0 2) ++ body.map (fun v => v % 256)) → rgN S D3 (d + 1) (d + 2) 4096 lv' → rgN S D3 (d + 3) (d + 4) 4096 rp' → (∀ x ∈ lv', x < 512) → (∀ x ∈ rp', x < 512) → ∃ D', f_Downlink_writeFrame_L79 S d (d + 7 + 2 * i) (N32 ch) wd (N32 fh) D3 = some D' ∧ cDnC S D' d (lv', rp', dn_up so ch, al + 1) ∧ rw_at S D' (d + 7 + 2 * i) (d + 8 + 2 * i) F (dn_fr ch al (so ch) fh body wd) ∧ oi (fun y k => (y = d ∧ k = 5) ∨ (d < y ∧ y < d + 6) ∨ y = d + 7 + 2 * i ∨ y = d + 8 + 2 * i) D D' := by
    intro D3 body fh lv' rp' hfh hbl g3 w3 q1 q2 q3 q4
    obtain ⟨D', t1, t2, t3, t4, t5⟩ := dnc_end (wd := wd) (so := so) (al := al) (hA11.keep g3.up (by omega) (by omega) rfl rfl) hF hch3 hfh (by omega) (by omega) (by omega) w3 hbl (by rw [g3.2 _ _ (by omega), g11.2 _ _ (by omega)]; exact c6) (fun v hv => by rw [g3.2 _ _ (by omega), g11.2 _ _ (by omega)]; exact c5 v hv)
    exact ⟨D', t1, ⟨rg_at.keep q1 t5.up (by omega) (by omega) rfl, rg_at.keep q2 t5.up (by omega) (by omega) rfl, q3, q4, t4, t3⟩, t2, (gI.tr (g3.mono (by omega))).tr (t5.mono (by omega))⟩
  have c1' : rgN S D11 (d + 1) (d + 2) 4096 lv := rg_at.kept c1 g11 (by omega) (by omega)
  have c2' : rgN S D11 (d + 3) (d + 4) 4096 rp := rg_at.kept c2 g11 (by omega) (by omega)
  by_cases hl : 0 < lv.length
  · have h0 : ch = 0 := by rw [hch]; show (if _ then _ else _) = _; rw [if_pos hl]
    have eone : dn_one n wd (lv, rp, so, al) = (dn_fr 0 al (so 0) (fst_b ((dn_pad n lv).take n) 0) ((dn_pad n lv).take n) wd, ((dn_pad n lv).drop n, rp, dn_up so 0, al + 1)) := by
      show (if _ then _ else _) = _
      rw [if_pos hl]
    rw [eone, if_neg (by rw [h0]; decide), if_pos (by rw [h0]; rfl), g11.1, a1, if_pos (by omega)]
    have hpl := dn_pad_len (n := n) lv
    obtain ⟨D3, f1, f2, f3, f4⟩ := dnc_fill_L (S := S) (a := d + 7 + 2 * i) (b := d + 8 + 2 * i) (cap := F) (q := d + 1) (n := n) (h := [] ++ by_be (N32 (5537 + 2 * ch)) 2 ++ by_be (N32 al) 1 ++ by_be (N32 (so ch)) 1 ++ by_be 0 2) (L := lv) (by omega) (by omega) (by omega) (by simp only [List.length_append, by_be_len, List.length_nil]; omega) c3 n ob_FU 0 D11 lv (by omega) (by rw [ob_FU_eq]; omega) (by simpa using w11) c1' (Or.inl ⟨by omega, rfl⟩)
    have f1' : f_Downlink_fill S d (d + 7 + 2 * i) (d + 1) D11 = some (N32 (fst_b ((dn_pad n lv).take n) 0), D3) := by
      unfold f_Downlink_fill
      rw [hA11.2.2.2.2.2.2.2.1, show (6 : Int32) = N32 6 from rfl, nb_sub (by omega), show F - 6 = 6 + n by omega]
      exact f1
    rw [f1']
    simp only [ob_bd]
    obtain ⟨D', t1, t2, t3, t4⟩ := hend D3 ((dn_pad n lv).take n) (fst_b ((dn_pad n lv).take n) 0) ((dn_pad n lv).drop n) rp (by have := fst_b_le ((dn_pad n lv).take n) 0 (by rw [List.length_take]; omega); omega) (by rw [List.length_take]; omega) (f4.oi.mono (by omega)) f2 f3 (rg_at.kept c2' f4 (by omega) (by omega)) (fun x hx => dn_pad_lt (by omega) c3 x (List.mem_of_mem_drop hx)) c4
    rw [h0] at t1 t2 t3
    refine ⟨D', ?_, t2, t3, t4⟩
    rw [h0]
    exact t1
  · by_cases hr : 0 < rp.length
    · have h0 : ch = 1 := by rw [hch]; show (if _ then _ else if _ then _ else _) = _; rw [if_neg hl, if_pos hr]
      have eone : dn_one n wd (lv, rp, so, al) = (dn_fr 1 al (so 1) (fst_b ((dn_pad n rp).take n) 0) ((dn_pad n rp).take n) wd, (lv, (dn_pad n rp).drop n, dn_up so 1, al + 1)) := by
        show (if _ then _ else if _ then _ else _) = _
        rw [if_neg hl, if_pos hr]
      rw [eone, if_neg (by rw [h0]; decide), if_neg (by rw [h0]; decide), g11.1, a2, if_pos (by omega)]
      have hpl := dn_pad_len (n := n) rp
      obtain ⟨D3, f1, f2, f3, f4⟩ := dnc_fill_L (S := S) (a := d + 7 + 2 * i) (b := d + 8 + 2 * i) (cap := F) (q := d + 3) (n := n) (h := [] ++ by_be (N32 (5537 + 2 * ch)) 2 ++ by_be (N32 al) 1 ++ by_be (N32 (so ch)) 1 ++ by_be 0 2) (L := rp) (by omega) (by omega) (by omega) (by simp only [List.length_append, by_be_len, List.length_nil]; omega) c4 n ob_FU 0 D11 rp (by omega) (by rw [ob_FU_eq]; omega) (by simpa using w11) c2' (Or.inl ⟨by omega, rfl⟩)
      have f1' : f_Downlink_fill S d (d + 7 + 2 * i) (d + 3) D11 = some (N32 (fst_b ((dn_pad n rp).take n) 0), D3) := by
        unfold f_Downlink_fill
        rw [hA11.2.2.2.2.2.2.2.1, show (6 : Int32) = N32 6 from rfl, nb_sub (by omega), show F - 6 = 6 + n by omega]
        exact f1
      rw [f1']
      simp only [ob_bd]
      obtain ⟨D', t1, t2, t3, t4⟩ := hend D3 ((dn_pad n rp).take n) (fst_b ((dn_pad n rp).take n) 0) lv ((dn_pad n rp).drop n) (by have := fst_b_le ((dn_pad n rp).take n) 0 (by rw [List.length_take]; omega); omega) (by rw [List.length_take]; omega) (f4.oi.mono (by omega)) f2 (rg_at.kept c1' f4 (by omega) (by omega)) f3 c3 (fun x hx => dn_pad_lt (by omega) c4 x (List.mem_of_mem_drop hx))
      rw [h0] at t1 t2 t3
      refine ⟨D', ?_, t2, t3, t4⟩
      rw [h0]
      exact t1
    · have h0 : ch = 7 := by rw [hch]; show (if _ then _ else if _ then _ else _) = _; rw [if_neg hl, if_neg hr]
      have eone : dn_one n wd (lv, rp, so, al) = (dn_fr 7 al (so 7) 2046 (List.replicate n 85) wd, (lv, rp, dn_up so 7, al + 1)) := by
        show (if _ then _ else if _ then _ else _) = _
        rw [if_neg hl, if_neg hr]
      rw [eone, if_pos (by rw [h0]; rfl)]
      obtain ⟨D3, f1, f2, f3⟩ := dnc_idle_L (S := S) (d := d) (a := d + 7 + 2 * i) (b := d + 8 + 2 * i) (cap := F) (F := F) (n := n) (l := [] ++ by_be (N32 (5537 + 2 * ch)) 2 ++ by_be (N32 al) 1 ++ by_be (N32 (so ch)) 1 ++ by_be 0 2) hF (by omega) (by omega) (by simp only [List.length_append, by_be_len, List.length_nil]; omega) n ob_FU 0 D11 (by omega) (by rw [ob_FU_eq]; omega) (by simpa using w11) hA11.2.2.2.2.2.2.2.1
      have f1' : f_Downlink_fillIdle S d (d + 7 + 2 * i) D11 = some (2046, D3) := f1
      rw [f1']
      simp only [ob_bd]
      obtain ⟨D', t1, t2, t3, t4⟩ := hend D3 (List.replicate n 85) 2046 lv rp (by decide) List.length_replicate (f3.oi.mono (by omega)) (by rw [List.map_replicate]; exact f2) (rg_at.kept c1' f3 (by omega) (by omega)) (rg_at.kept c2' f3 (by omega) (by omega)) c3 c4
      rw [h0] at t1 t2 t3
      refine ⟨D', ?_, t2, t3, t4⟩
      rw [h0]
      exact t1
theorem dnc_send_L {S : ob_S} {d fr F n : Nat} {c : sCh} {wd : Int32} (hF : F = n + 12) : ∀ (e m j : Nat) (D : ob_D) (rows : Nat → List Nat), j + e = fr → e < m → cDnA S D d fr F → cDnC S D d (dn_st n wd j c) → (∀ i, i < fr → rw_at S D (d + 7 + 2 * i) (d + 8 + 2 * i) F (rows i)) → (∀ i, i < j → rows i = (dn_frs n wd j c).getD i []) → ∃ D', f_Downlink_sendFrames_L4 S m d wd (N32 (dn_sum n wd j c)) (N32 j) D = some (N32 (dn_sum n wd fr c), D') ∧ cDn S D' d fr F (dn_st n wd fr c) (dn_frs n wd fr c) ∧ og (rgn d (d + 7 + 2 * fr)) D D' := by
  intro e
  induction e with
  | zero =>
    intro m j D rows hj hm hA hC hr hf
    match m, hm with
    | m + 1, _ =>
      have hj' : j = fr := hj
      subst hj'
      have hA0 := hA
      obtain ⟨a1, a2, a3, a4, a5, a6, a7, a8, a9, a10, a11, a12⟩ := hA
      have g : og (fun y k => y = d ∧ k = 6) D (ob_pI D d 6 (N32 j)) := og.pI ⟨rfl, rfl⟩
      refine ⟨ob_pI D d 6 (N32 j), ?_, ⟨hA0.keep g (by omega) (by omega) rfl rfl, hC.keep g (by omega) (by omega) rfl rfl, ⟨rows, fun i hi => (hr i hi).keep g (by omega) (by omega) rfl, by rw [dn_frs_len]; exact Nat.le_refl _, fun i hi => hf i (by rw [dn_frs_len] at hi; exact hi)⟩, ?_⟩, g.mono (fun y k e => ⟨by omega, by omega⟩)⟩
      · rw [f_Downlink_sendFrames_L4, a3, if_pos (by omega), a6, if_pos (by rw [nb_le (by omega) (by omega)]; exact Nat.le_refl _), if_pos (by omega)]
      · rw [pI_self, dn_frs_len]
  | succ e ih =>
    intro m j D rows hj hm hA hC hr hf
    match m, hm with
    | m + 1, hm =>
      have hjf : j < fr := by omega
      have hA0 := hA
      have hC0 := hC
      obtain ⟨a1, a2, a3, a4, a5, a6, a7, a8, a9, a10, a11, a12⟩ := hA
      obtain ⟨D1, p1, p2, p3, p4⟩ := dnc_write (i := j) (wd := wd) hA0 hC hF (hr j hjf)
      have hsum : N32 (dn_sum n wd j c) + (if dn_ch (dn_st n wd j c) = 7 then 0 else 1) = N32 (dn_sum n wd (j + 1) c) := by
        rw [dn_sum]
        obtain ⟨lv, rp, so, al⟩ := dn_st n wd j c
        show _ + (if (if _ then _ else if _ then _ else _) = 7 then (0 : Int32) else 1) = N32 (_ + if _ then _ else if _ then _ else _)
        by_cases h1 : 0 < lv.length
        · rw [if_pos h1, if_pos h1, if_neg (by decide)]; exact nb_add _ 1
        · rw [if_neg h1, if_neg h1]
          by_cases h2 : 0 < rp.length
          · rw [if_pos h2, if_pos h2, if_neg (by decide)]; exact nb_add _ 1
          · rw [if_neg h2, if_neg h2, if_pos rfl]; exact nb_add _ 0
      obtain ⟨D', t1, t2, t3⟩ := ih m (j + 1) D1 (fun i => if i = j then (dn_one n wd (dn_st n wd j c)).1 else rows i) (by omega) (by omega) (hA0.keep p4.up (by omega) (by omega) rfl rfl) p2 (fun i hi => by
        by_cases h : i = j
        · rw [if_pos h, h]; exact p3
        · rw [if_neg h]; exact (hr i hi).keep p4.up (by omega) (by omega) rfl) (fun i hi => by
        rw [dn_frs]
        have hlen := dn_frs_len n wd c j
        by_cases h : i = j
        · rw [if_pos h, h]
          simp only [List.getD_eq_getElem?_getD]
          rw [List.getElem?_append_right (by omega), hlen, Nat.sub_self]
          rfl
        · rw [if_neg h, hf i (by omega)]
          simp only [List.getD_eq_getElem?_getD]
          rw [List.getElem?_append_left (by omega)])
      refine ⟨D', ?_, t2, (p4.up.mono (fun y k e => ⟨by omega, by omega⟩)).tr t3⟩
      have ej : N32 j + (1 : Int32) = N32 (j + 1) := nb_add _ 1
      have h43 : f_Downlink_sendFrames_L43 S (fun a0 a1 a2 a3 d => f_Downlink_sendFrames_L4 S m a0 a1 a2 a3 d) d wd (N32 (dn_sum n wd j c)) (N32 j) (N32 (dn_ch (dn_st n wd j c))) D = some (N32 (dn_sum n wd fr c), D') := by
        unfold f_Downlink_sendFrames_L43
        rw [a3, if_pos (by omega), a6, if_pos (by rw [nb_in (by omega)]; exact hjf)]
        try simp (disch := omega) only [nb_clamp]
        rw [a7 j hjf, if_pos (by omega), p1]
        simp only [ob_bv]
        have hch8 : dn_ch (dn_st n wd j c) < 2147483648 := by
          obtain ⟨lv, rp, so, al⟩ := dn_st n wd j c
          show (if _ then _ else if _ then _ else _) < _
          split
          · decide
          · split <;> decide
        rw [show (7 : Int32) = N32 7 from rfl, if_en hch8 (by decide), ej]
        by_cases h7 : dn_ch (dn_st n wd j c) = 7
        · rw [if_pos h7]
          rw [if_pos h7, Int32.add_zero] at hsum
          rw [hsum]
          exact t1
        · rw [if_neg h7]
          rw [if_neg h7] at hsum
          rw [hsum]
          exact t1
      rw [f_Downlink_sendFrames_L4, a3, if_pos (by omega), a6, if_neg (by rw [nb_le (by omega) (by omega)]; omega), a1, if_pos (by omega)]
      rcases hst : dn_st n wd j c with ⟨lv, rp, so, al⟩
      rw [hst] at hC0 h43
      obtain ⟨c1, c2, c3, c4, c5, c6⟩ := hC0
      have hl1 := c1.len
      have hl2 := c2.len
      rw [c1.len.2.2, show (0 : Int32) = N32 0 from rfl, if_le (by omega) (by decide)]
      have hdc : dn_ch (lv, rp, so, al) = if 0 < lv.length then 0 else if 0 < rp.length then 1 else 7 := rfl
      rw [hdc] at h43
      by_cases h1 : lv.length ≤ 0
      · rw [if_pos h1, a2, if_pos (by omega), c2.len.2.2, if_le (by omega) (by decide)]
        rw [if_neg (by omega)] at h43
        by_cases h2 : rp.length ≤ 0
        · rw [if_pos h2]
          rw [if_neg (by omega)] at h43
          exact h43
        · rw [if_neg h2]
          rw [if_pos (by omega)] at h43
          exact h43
      · rw [if_neg h1]
        rw [if_pos (by omega)] at h43
        exact h43
theorem dnc_send {S : ob_S} {D : ob_D} {d fr F n : Nat} {c : sCh} {frs : List (List Nat)} (h : cDn S D d fr F c frs) (hF : F = n + 12) (wd : Int32) : ∃ D', f_Downlink_sendFrames S d wd D = some (N32 (dn_sum n wd fr c), D') ∧ cDn S D' d fr F (dn_st n wd fr c) (dn_frs n wd fr c) ∧ og (rgn d (d + 7 + 2 * fr)) D D' := by
  obtain ⟨hA, hC, ⟨rows, hr, -, -⟩, -⟩ := h
  have hfr := hA.2.2.2.2.2.2.2.2.2.2.2
  exact dnc_send_L hF fr ob_FU 0 D rows (by omega) (by rw [ob_FU_eq]; omega) hA hC hr (fun i hi => absurd hi (by omega))
theorem dnc_down {S : ob_S} {D : ob_D} {d fr F : Nat} {c : sCh} {frs : List (List Nat)} (h : cDn S D d fr F c frs) {i j : Nat} (hi : i < frs.length) (hj : j < F) : f_Row_number S (d + 7 + 2 * i) (N32 j) 1 D = some (N32 ((frs.getD i []).getD j 0), D) := by
  obtain ⟨hA, hC, ⟨rows, hr, h2, h3⟩, -⟩ := h
  have hF := hA.2.2.2.2.2.2.2.2.2.1
  have := rw_num (hr i (by omega)) (f := j) (c := 1) (by decide) (by omega)
  rw [nn_1, h3 i hi] at this
  exact this
