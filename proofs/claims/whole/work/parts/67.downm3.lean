-- ===== the reference's empty packet =====
theorem dn_emp_get {s k : Nat} (h7 : 7 ≤ s) (hk : k < s) : (dn_emp s).getD k 0 = if k = 0 then 263 else if k = 1 then 255 else if k = 2 then 192 else if k = 3 then 0 else if k = 4 then (s - 7) / 256 else if k = 5 then (s - 7) % 256 else 85 := by
  unfold dn_emp
  match k with
  | 0 => rfl
  | 1 => rfl
  | 2 => rfl
  | 3 => rfl
  | 4 => rfl
  | 5 => rfl
  | k + 6 =>
    rw [if_neg (by omega), if_neg (by omega), if_neg (by omega), if_neg (by omega), if_neg (by omega), if_neg (by omega)]
    show (List.replicate (s - 6) 85).getD k 0 = 85
    simp only [List.getD_eq_getElem?_getD, List.getElem?_replicate]
    rw [if_pos (by omega)]
    rfl
theorem emm_step {S : ob_S} {D : ob_D} {M v L k : Nat} {s x : Int32} {k2 : Nat → Int32 → Int32 → Int32 → ob_D → Option ob_D} (hv : v < 2) (hA : mA S D M) (hL : D.1 (M + 47) v = N32 L) (hLk : L + k < 4400) : f_Model_empty_L76 S k2 M (N32 v) s (N32 k) x D = k2 M (N32 v) s (N32 (k + 1)) (ob_pI (ob_pI D (M + 42 + v) (L + k) (x.toInt8.toInt32)) (M + 45 + v) (L + k) (bI (decide (k = 0)))) := by
  have a84 : D.2.1 M 84 = M + 41 ∧ S.2.1 (M + 41) = 2 := hA.1 (84, 41, 2) (by decide)
  have a85 : D.2.1 M 85 = M + 44 ∧ S.2.1 (M + 44) = 2 := hA.1 (85, 44, 2) (by decide)
  have a86 : D.2.1 M 86 = M + 47 ∧ S.2.1 (M + 47) = 2 := hA.1 (86, 47, 2) (by decide)
  have av := hA.2 v hv
  have hin : ob_in (N32 v) 2 := by rw [nb_in (by omega)]; exact hv
  have hi2 : ob_in (N32 (L + k)) 4400 := by rw [nb_in (by omega)]; exact hLk
  have ex : (x.toInt8.toInt32).toInt8.toInt32 = x.toInt8.toInt32 := by
    have e := sb_of x
    rw [e, sb_sb]
  have e1 : N32 k + (1 : Int32) = N32 (k + 1) := nb_add _ 1
  unfold f_Model_empty_L76
  rw [a84.1, if_pos (by omega), a84.2, if_pos hin]
  simp only [show (N32 v).toNatClampNeg = v from nb_clamp (by omega)]
  rw [av.1, if_pos (by omega), a86.1, if_pos (by omega), a86.2, if_pos hin, hL, nb_add, av.2.1, if_pos hi2]
  simp only [show (N32 (L + k)).toNatClampNeg = L + k from nb_clamp (by omega)]
  rw [ex]
  simp only [ob_lt]
  rw [pI_ref, a85.1, if_pos (by omega), a85.2, if_pos hin, av.2.2.1, if_pos (by omega), a86.1, if_pos (by omega), a86.2, if_pos hin, pI_ne (by omega), hL, nb_add, av.2.2.2, if_pos hi2]
  simp only [show (N32 (L + k)).toNatClampNeg = L + k from nb_clamp (by omega)]
  rw [e1]
  by_cases h0 : k = 0
  · rw [if_pos (by rw [h0]; rfl), show bI (decide (k = 0)) = (1 : Int32) &&& 1 by rw [h0]; rfl]
  · rw [if_neg (by rw [show (0 : Int32) = N32 0 from rfl, nb_eq (by omega) (by decide)]; exact h0), if_pos hi2, show bI (decide (k = 0)) = (0 : Int32) &&& 1 by rw [show decide (k = 0) = false by simpa using h0]; rfl]
theorem emm_L {S : ob_S} {M v s : Nat} {L : List Nat} (hv : v < 2) (h7 : 7 ≤ s) (hr : L.length + s ≤ 4400) (hs : s ≤ 1000) (hLt : ∀ x ∈ L, x < 512) : ∀ (e m k : Nat) (D : ob_D), k + e = s → e < m → mA S D M → D.1 (M + 47) v = N32 L.length → (∀ i, i < L.length + k → D.1 (M + 42 + v) i = sb ((L ++ dn_emp s).getD i 0 % 256) ∧ D.1 (M + 45 + v) i = bI (decide (256 ≤ (L ++ dn_emp s).getD i 0))) → ∃ D', f_Model_empty_L2 S m M (N32 v) (N32 s) (N32 k) D = some D' ∧ mCh D' M v (L ++ dn_emp s) ∧ oi (mChP M v) D D' := by
  intro e
  induction e with
  | zero =>
    intro m k D hk hm hA h1 h2
    match m, hm with
    | m + 1, _ =>
      have hk' : k = s := hk
      subst hk'
      have a86 : D.2.1 M 86 = M + 47 ∧ S.2.1 (M + 47) = 2 := hA.1 (86, 47, 2) (by decide)
      have hin : ob_in (N32 v) 2 := by rw [nb_in (by omega)]; exact hv
      have hel := dn_emp_len (s := k) (by omega)
      refine ⟨ob_pI D (M + 47) v (N32 (L ++ dn_emp k).length), ?_, ⟨pI_self, by rw [List.length_append, hel]; omega, fun i hi => ?_, fun x hx => ?_⟩, oi.pI (Or.inl ⟨rfl, rfl⟩)⟩
      · rw [f_Model_empty_L2, if_pos (by rw [nb_le (by omega) (by omega)]; exact Nat.le_refl _), a86.1, if_pos (by omega), a86.2, if_pos hin, if_pos hin]
        try simp (disch := omega) only [nb_clamp]
        rw [h1, nb_add, List.length_append, hel]
      · rw [List.length_append, hel] at hi
        rw [pI_ne (by omega), pI_ne (by omega)]
        exact h2 i hi
      · rcases List.mem_append.mp hx with e | e
        · exact hLt x e
        · exact dn_emp_lt k (by omega) x e
  | succ e ih =>
    intro m k D hk hm hA h1 h2
    match m, hm with
    | m + 1, hm =>
      have hel := dn_emp_len (s := s) (by omega)
      have ek : (L ++ dn_emp s).getD (L.length + k) 0 = (dn_emp s).getD k 0 := app_get_r _ _ _
      have heg := dn_emp_get h7 (show k < s by omega)
      have hgo : ∀ x : Int32, x.toInt8.toInt32 = sb ((dn_emp s).getD k 0 % 256) → ∃ D', f_Model_empty_L76 S (fun a0 a1 a2 a3 d => f_Model_empty_L2 S m a0 a1 a2 a3 d) M (N32 v) (N32 s) (N32 k) x D = some D' ∧ mCh D' M v (L ++ dn_emp s) ∧ oi (mChP M v) D D' := by
        intro x hx
        rw [emm_step (k := k) hv hA h1 (by omega), hx]
        have g : oi (mChP M v) D (ob_pI (ob_pI D (M + 42 + v) (L.length + k) (sb ((dn_emp s).getD k 0 % 256))) (M + 45 + v) (L.length + k) (bI (decide (k = 0)))) := (oi.pI (Or.inr (Or.inl rfl))).tr (oi.pI (Or.inr (Or.inr rfl)))
        obtain ⟨D', t1, t2, t3⟩ := ih m (k + 1) _ (by omega) (by omega) (hA.kp g) (by rw [pI_ne (by omega), pI_ne (by omega)]; exact h1) (fun i hi => by
          by_cases hik : i = L.length + k
          · rw [hik, ek]
            refine ⟨by rw [pI_ne (by omega), pI_self], ?_⟩
            rw [pI_self, heg]
            by_cases h0 : k = 0
            · rw [if_pos h0, h0]; rfl
            · rw [if_neg h0, show decide (k = 0) = false by simpa using h0]
              congr 1
              symm
              rw [decide_eq_false_iff_not]
              split
              · omega
              · split
                · omega
                · split
                  · omega
                  · split
                    · omega
                    · split
                      · omega
                      · omega
          · rw [pI_ne (by omega), pI_ne (by omega), pI_ne (by omega), pI_ne (by omega)]
            exact h2 i (by omega))
        exact ⟨D', t1, t2, g.tr t3⟩
      rw [f_Model_empty_L2, if_neg (by rw [nb_le (by omega) (by omega)]; omega), show (0 : Int32) = N32 0 from rfl, if_en (by omega) (by decide), show (1 : Int32) = N32 1 from rfl, if_en (by omega) (by decide), show (2 : Int32) = N32 2 from rfl, if_en (by omega) (by decide), show (3 : Int32) = N32 3 from rfl, if_en (by omega) (by decide), show (4 : Int32) = N32 4 from rfl, if_en (by omega) (by decide), show (5 : Int32) = N32 5 from rfl, if_en (by omega) (by decide)]
      have e7 : N32 s - (7 : Int32) = N32 (s - 7) := by rw [show (7 : Int32) = N32 7 from rfl, nb_sub h7]
      by_cases h0 : k = 0
      · rw [if_pos h0]; rw [if_pos h0] at heg
        exact hgo 7 (by rw [heg]; rfl)
      rw [if_neg h0]; rw [if_neg h0] at heg
      by_cases h1' : k = 1
      · rw [if_pos h1']; rw [if_pos h1'] at heg
        exact hgo 255 (by rw [heg]; rfl)
      rw [if_neg h1']; rw [if_neg h1'] at heg
      by_cases h2' : k = 2
      · rw [if_pos h2']; rw [if_pos h2'] at heg
        exact hgo 192 (by rw [heg]; rfl)
      rw [if_neg h2']; rw [if_neg h2'] at heg
      by_cases h3 : k = 3
      · rw [if_pos h3]; rw [if_pos h3] at heg
        exact hgo 0 (by rw [heg]; rfl)
      rw [if_neg h3]; rw [if_neg h3] at heg
      by_cases h4 : k = 4
      · rw [if_pos h4, e7]; rw [if_pos h4] at heg
        have e : N32 (s - 7) >>> ((8 : Int32) &&& 31) = N32 ((s - 7) / 2 ^ 8) := n_shr (s - 7) 8 (by omega) (by decide)
        rw [e]
        exact hgo _ (by rw [heg, sb_n])
      rw [if_neg h4]; rw [if_neg h4] at heg
      by_cases h5 : k = 5
      · rw [if_pos h5, e7]; rw [if_pos h5] at heg
        exact hgo _ (by rw [heg, sb_n, Nat.mod_mod])
      rw [if_neg h5]; rw [if_neg h5] at heg
      exact hgo 85 (by rw [heg]; rfl)
theorem emm_emp {S : ob_S} {D : ob_D} {M v s : Nat} {L : List Nat} (hv : v < 2) (h7 : 7 ≤ s) (hs : s ≤ 1000) (hA : mA S D M) (hC : mCh D M v L) (hr : L.length + s ≤ 4400) : ∃ D', f_Model_empty S M (N32 v) (N32 s) D = some D' ∧ mCh D' M v (L ++ dn_emp s) ∧ oi (mChP M v) D D' := by
  obtain ⟨h1, h2, h3, h4⟩ := hC
  exact emm_L (S := S) hv h7 hr hs h4 s ob_FU 0 D (by omega) (by rw [ob_FU_eq]; omega) hA h1 (fun i hi => by
    rw [app_get_l (by omega)]
    exact h3 i (by omega))
theorem fmm_fst {S : ob_S} {D : ob_D} {M v n : Nat} {P : List Nat} {v1 : Int32} (hv : v < 2) (hA : mA S D M) (hC : mCh D M v P) (hn : n ≤ P.length) (hn2 : n ≤ 250) : ∀ (e m : Nat), e ≤ n → e < m → f_Model_frame_L106 S m M v1 (N32 v) (N32 n) (N32 (fst_b ((P.take n).drop e) e)) (N32 e - 1) D = f_Model_frame_L139 S M v1 (N32 v) (N32 n) (N32 (fst_b (P.take n) 0)) D := by
  have a85 : D.2.1 M 85 = M + 44 ∧ S.2.1 (M + 44) = 2 := hA.1 (85, 44, 2) (by decide)
  have av := hA.2 v hv
  have hin : ob_in (N32 v) 2 := by rw [nb_in (by omega)]; exact hv
  have hlen := hC.2.1
  intro e
  induction e with
  | zero =>
    intro m he hm
    match m, hm with
    | m + 1, _ =>
      rw [f_Model_frame_L106, if_pos (by decide), List.drop_zero]
  | succ e ih =>
    intro m he hm
    match m, hm with
    | m + 1, hm =>
      have e1 : N32 (e + 1) - 1 = N32 e := by rw [show (1 : Int32) = N32 1 from rfl, nb_sub (by omega), Nat.add_sub_cancel]
      have e2 : N32 e + (-1 : Int32) = N32 e - 1 := (Int32.sub_eq_add_neg _ _).symm
      have htl : (P.take n).length = n := by rw [List.length_take]; omega
      have hX : (P.take n).drop e = P.getD e 0 :: (P.take n).drop (e + 1) := by
        rw [List.drop_eq_getElem_cons (by omega)]
        congr 1
        rw [List.getElem_take, List.getD_eq_getElem?_getD, List.getElem?_eq_getElem (by omega)]
        rfl
      have hb := (hC.2.2.1 e (by omega)).2
      have ih' := ih m (by omega) (by omega)
      rw [hX, fst_b] at ih'
      rw [f_Model_frame_L106, e1, if_neg (by rw [nb_neg (by omega)]; exact id), show (7 : Int32) = N32 7 from rfl, if_neg (by rw [nb_le (by decide) (by omega)]; omega), a85.1, if_pos (by omega), a85.2, if_pos hin]
      try simp (disch := omega) only [nb_clamp]
      rw [av.2.2.1, if_pos (by omega), av.2.2.2, if_pos (by rw [nb_in (by omega)]; omega)]
      try simp (disch := omega) only [nb_clamp]
      rw [hb, if_bI, e2]
      by_cases hc : 256 ≤ P.getD e 0
      · rw [if_pos (by simpa using hc)]
        rw [if_pos hc] at ih'
        exact ih'
      · rw [if_neg (by simpa using hc)]
        rw [if_neg hc] at ih'
        exact ih'
theorem fmm_chan {S : ob_S} {D : ob_D} {M o n F v al : Nat} {so : Nat → Nat} {L : List Nat} {wd : Int32} {zg : sGt} (hF : F = n + 12) (hF2 : F ≤ 256) (hF1 : 64 ≤ F) (ho : o + 256 ≤ 1024) (hv : v < 2) (hL : L.length ≤ 4096) (hwd : wd = N32 (gt_word zg)) (hA : mA S D M) (hG : mGt S D M zg) (h1 : D.1 M 1 = N32 F) (hC : mCh D M v L) (hso : ∀ v, v < 8 → D.1 (M + 49) v = N32 (so v % 256)) (hal : D.1 M 89 = N32 (al % 256)) : ∃ D', f_Model_frame_L28 S M (N32 o) (N32 v) D = some D' ∧ ba D' (M + 48) o (dn_fr v al (so v) (fst_b ((dn_pad n L).take n) 0) ((dn_pad n L).take n) wd) ∧ mCh D' M v ((dn_pad n L).drop n) ∧ (∀ u, u < 8 → D'.1 (M + 49) u = N32 (dn_up so v u % 256)) ∧ D'.1 M 89 = N32 ((al + 1) % 256) ∧ oi (fun y k => fmP M o y k ∨ (y = M ∧ k = 89) ∨ (y = M + 47 ∧ k = v) ∨ y = M + 42 + v ∨ y = M + 45 + v ∨ y = M + 49) D D' := by
  have a86 : D.2.1 M 86 = M + 47 ∧ S.2.1 (M + 47) = 2 := hA.1 (86, 47, 2) (by decide)
  have hin : ob_in (N32 v) 2 := by rw [nb_in (by omega)]; exact hv
  have hpl := dn_pad_len (n := n) L
  have e12 : D.1 M 1 - (12 : Int32) = N32 n := by rw [h1, show (12 : Int32) = N32 12 from rfl, nb_sub (by omega)]; congr 1; omega
  have hfb := fst_b_le ((dn_pad n L).take n) 0 (by rw [List.length_take]; omega)
  have hgo : ∀ D3, oi (mChP M v) D D3 → mCh D3 M v (dn_pad n L) → ∃ D', f_Model_frame_L106 S ob_FU M (N32 o) (N32 v) (N32 n) 2047 (N32 n - 1) D3 = some D' ∧ ba D' (M + 48) o (dn_fr v al (so v) (fst_b ((dn_pad n L).take n) 0) ((dn_pad n L).take n) wd) ∧ mCh D' M v ((dn_pad n L).drop n) ∧ (∀ u, u < 8 → D'.1 (M + 49) u = N32 (dn_up so v u % 256)) ∧ D'.1 M 89 = N32 ((al + 1) % 256) ∧ oi (fun y k => fmP M o y k ∨ (y = M ∧ k = 89) ∨ (y = M + 47 ∧ k = v) ∨ y = M + 42 + v ∨ y = M + 45 + v ∨ y = M + 49) D D' := by
    intro D3 g3 hC3
    have hCP : ∀ {y j : Nat}, y ≠ M + 42 + v → y ≠ M + 45 + v → ¬ (y = M + 47 ∧ j = v) → ¬ mChP M v y j := fun h1 h2 h3 e => e.elim h3 (fun e => e.elim h1 h2)
    have hf := fmm_fst (S := S) (v1 := N32 o) hv (hA.kp g3) hC3 hpl (by omega) n ob_FU (Nat.le_refl _) (by rw [ob_FU_eq]; omega)
    rw [List.drop_of_length_le (by rw [List.length_take]; omega)] at hf
    have hf' : f_Model_frame_L106 S ob_FU M (N32 o) (N32 v) (N32 n) 2047 (N32 n - 1) D3 = _ := hf
    rw [hf']
    obtain ⟨D4, q1, q2, q3⟩ := fmm_head (S := S) (n := n) (ch := v) (fh := fst_b ((dn_pad n L).take n) 0) (al := al) (so := so) ho (by omega) (by omega) (hA.kp g3) (fun u hu => by rw [g3.2 _ _ (hCP (by omega) (by omega) (by omega))]; exact hso u hu) (by rw [g3.2 _ _ (hCP (by omega) (by omega) (by omega))]; exact hal)
    rw [q1]
    obtain ⟨D', t1, t2, t3, t4, t5, t6⟩ := fmm_body (S := S) (M := M) (o := o) (n := n) (F := F) (v := v) (al := al) (fh := fst_b ((dn_pad n L).take n) 0) (so := so) (P := dn_pad n L) hF hF2 hF1 ho hv hpl hwd n ob_FU 0 D4 (by omega) (by rw [ob_FU_eq]; omega) ((hA.kp g3).kp q3) ((hG.keep g3.up (fun y k e => hCP (by unfold mGtP at e; omega) (by unfold mGtP at e; omega) (by unfold mGtP at e; omega)) (fun k _ => hCP (by omega) (by omega) (by omega)) (fun _ _ _ => rfl)).keep q3.up (fun y k e => by unfold mGtP at e; omega) (by omega) (fun _ _ _ => rfl)) (by rw [q3.2 _ _ (by omega), g3.2 _ _ (hCP (by omega) (by omega) (by omega))]; exact h1) (hC3.keep q3.up (by omega) (by omega) (by omega)) (fun u hu => by rw [q3.2 _ _ (by omega), g3.2 _ _ (hCP (by omega) (by omega) (by omega))]; exact hso u hu) (by rw [q3.2 _ _ (by omega), g3.2 _ _ (hCP (by omega) (by omega) (by omega))]; exact hal) (by rw [List.take_zero, List.map_nil, List.append_nil]; exact q2)
    exact ⟨D', t1, t2, t3, t4, t5, ((g3.mono (fun y k e => by rcases e with e | e | e <;> omega)).tr (q3.mono (fun y k e => Or.inl e))).tr t6⟩
  unfold f_Model_frame_L28
  rw [show (7 : Int32) = N32 7 from rfl, if_neg (by rw [nb_eq (by omega) (by decide)]; omega), e12]
  unfold f_Model_frame_L52
  rw [show (7 : Int32) = N32 7 from rfl, if_neg (by rw [nb_le (by decide) (by omega)]; omega), a86.1, if_pos (by omega), a86.2, if_pos hin]
  try simp (disch := omega) only [nb_clamp]
  rw [hC.1, if_le (by omega) (by omega)]
  by_cases hc : n ≤ L.length
  · rw [if_pos hc]
    have ep : dn_pad n L = L := by unfold dn_pad; rw [if_neg (by omega)]
    exact hgo D oi.rf (by rw [ep]; exact hC)
  · rw [if_neg hc, if_pos (by omega), if_pos hin, nb_sub (by omega), if_le (by decide) (by omega)]
    by_cases hc7 : 7 ≤ n - L.length
    · rw [if_pos hc7, if_pos (by omega), if_pos hin]
      obtain ⟨D3, p1, p2, p3⟩ := emm_emp (S := S) (s := n - L.length) hv hc7 (by omega) hA hC (by omega)
      rw [p1]
      simp only [ob_bv]
      exact hgo D3 p3 (by
        have ep : dn_pad n L = L ++ dn_emp (n - L.length) := by unfold dn_pad; rw [if_pos (by omega), if_pos hc7]
        rw [ep]
        exact p2)
    · rw [if_neg hc7]
      obtain ⟨D3, p1, p2, p3⟩ := emm_emp (S := S) (s := 7) hv (by decide) (by decide) hA hC (by omega)
      rw [p1]
      simp only [ob_bv]
      exact hgo D3 p3 (by
        have ep : dn_pad n L = L ++ dn_emp 7 := by unfold dn_pad; rw [if_pos (by omega), if_neg hc7]
        rw [ep]
        exact p2)
