-- ===== the reference's frames: the field, the header =====
/-- what a channel leaves when the field has been taken -/
theorem fmm_rest {S : ob_S} {D : ob_D} {M v n : Nat} {P : List Nat} (hv : v < 2) (hA : mA S D M) (hC : mCh D M v P) (hn : n ≤ P.length) : mCh (ob_cp (ob_cp (ob_pI D (M + 47) v (N32 (P.length - n))) (M + 42 + v) (M + 42 + v) n 0 (P.length - n)) (M + 45 + v) (M + 45 + v) n 0 (P.length - n)) M v (P.drop n) := by
  obtain ⟨h1, h2, h3, h4⟩ := hC
  have hd : (P.drop n).length = P.length - n := List.length_drop
  refine ⟨?_, by omega, fun i hi => ?_, fun x hx => h4 x (List.mem_of_mem_drop hx)⟩
  · rw [cp_ne (by omega), cp_ne (by omega), pI_self, hd]
  · rw [hd] at hi
    have h := h3 (n + i) (by omega)
    have eg : (P.drop n).getD i 0 = P.getD (n + i) 0 := by simp only [List.getD_eq_getElem?_getD, List.getElem?_drop]
    rw [eg]
    refine ⟨?_, ?_⟩
    · rw [cp_ne (by omega), cp_at (by omega) (by omega), pI_ne (by omega), ← h.1]
      congr 1
    · rw [cp_at (by omega) (by omega), cp_ne (by omega), pI_ne (by omega), ← h.2]
      congr 1
abbrev fmQ (M o : Nat) : Nat → Nat → Prop := fun y k => fmP M o y k ∨ (y = M ∧ k = 89) ∨ (M + 42 ≤ y ∧ y ≤ M + 43) ∨ (M + 45 ≤ y ∧ y ≤ M + 47) ∨ y = M + 49
/-- the field of a channel -/
theorem fmm_body {S : ob_S} {M o n F v al fh : Nat} {so : Nat → Nat} {P : List Nat} {wd : Int32} {zg : sGt} (hF : F = n + 12) (hF2 : F ≤ 256) (hF1 : 64 ≤ F) (ho : o + 256 ≤ 1024) (hv : v < 2) (hP : n ≤ P.length) (hwd : wd = N32 (gt_word zg)) : ∀ (e m j : Nat) (D : ob_D), j + e = n → e < m → mA S D M → mGt S D M zg → D.1 M 1 = N32 F → mCh D M v P → (∀ v, v < 8 → D.1 (M + 49) v = N32 (so v % 256)) → D.1 M 89 = N32 (al % 256) → ba D (M + 48) o (dn_h v al (so v) fh ++ (P.take j).map (fun v => v % 256)) → ∃ D', f_Model_frame_L232 S m M (N32 o) (N32 v) (N32 n) (N32 j) D = some D' ∧ ba D' (M + 48) o (dn_fr v al (so v) fh (P.take n) wd) ∧ mCh D' M v (P.drop n) ∧ (∀ u, u < 8 → D'.1 (M + 49) u = N32 (dn_up so v u % 256)) ∧ D'.1 M 89 = N32 ((al + 1) % 256) ∧ oi (fun y k => fmP M o y k ∨ (y = M ∧ k = 89) ∨ (y = M + 47 ∧ k = v) ∨ y = M + 42 + v ∨ y = M + 45 + v ∨ y = M + 49) D D' := by
  intro e
  induction e with
  | zero =>
    intro m j D hj hm hA hG h1 hC hso hal hb
    match m, hm with
    | m + 1, _ =>
      have hj' : j = n := hj
      subst hj'
      have a84 : D.2.1 M 84 = M + 41 ∧ S.2.1 (M + 41) = 2 := hA.1 (84, 41, 2) (by decide)
      have a85 : D.2.1 M 85 = M + 44 ∧ S.2.1 (M + 44) = 2 := hA.1 (85, 44, 2) (by decide)
      have a86 : D.2.1 M 86 = M + 47 ∧ S.2.1 (M + 47) = 2 := hA.1 (86, 47, 2) (by decide)
      have av := hA.2 v hv
      have hin : ob_in (N32 v) 2 := by rw [nb_in (by omega)]; exact hv
      have hlen := hC.2.1
      have hrest := fmm_rest hv hA hC hP
      obtain ⟨D66, hD66⟩ : ∃ x, x = ob_pI D (M + 47) v (N32 (P.length - j)) := ⟨_, rfl⟩
      obtain ⟨D81, hD81⟩ : ∃ x, x = ob_cp D66 (M + 42 + v) (M + 42 + v) j 0 (P.length - j) := ⟨_, rfl⟩
      obtain ⟨D96, hD96⟩ : ∃ x, x = ob_cp D81 (M + 45 + v) (M + 45 + v) j 0 (P.length - j) := ⟨_, rfl⟩
      rw [← hD66, ← hD81, ← hD96] at hrest
      have g : oi (fun y k => (y = M + 47 ∧ k = v) ∨ y = M + 42 + v ∨ y = M + 45 + v) D D96 := by
        have g1 : oi (fun y k => (y = M + 47 ∧ k = v) ∨ y = M + 42 + v ∨ y = M + 45 + v) D D66 := hD66 ▸ oi.pI (Or.inl ⟨rfl, rfl⟩)
        have g2 : oi (fun y k => (y = M + 47 ∧ k = v) ∨ y = M + 42 + v ∨ y = M + 45 + v) D66 D81 := hD81 ▸ oi.cp (fun k _ _ => Or.inr (Or.inl rfl))
        have g3 : oi (fun y k => (y = M + 47 ∧ k = v) ∨ y = M + 42 + v ∨ y = M + 45 + v) D81 D96 := hD96 ▸ oi.cp (fun k _ _ => Or.inr (Or.inr rfl))
        exact (g1.tr g2).tr g3
      have r66 : D66.2 = D.2 := by rw [hD66]; rfl
      have r81 : D81.2 = D.2 := by rw [hD81]; exact r66
      have u66 : D66.1 (M + 47) v = N32 (P.length - j) := by rw [hD66, pI_self]
      have u81 : D81.1 (M + 47) v = N32 (P.length - j) := by rw [hD81, cp_ne (by omega)]; exact u66
      obtain ⟨D', t1, t2, t3, t4, t5⟩ := fmm_end (S := S) (M := M) (o := o) (n := j) (F := F) (ch := v) (al := al) (fh := fh) (so := so) (body := P.take j) hF hF2 ho (by omega) (by rw [List.length_take]; omega) hwd 4 ob_FU 0 D96 (by omega) (by rw [ob_FU_eq]; omega) (hA.kp g) (hG.keep g.up (fun y k e => by unfold mGtP at e; omega) (by omega) (fun _ _ _ => rfl)) (by rw [g.2 _ _ (by omega)]; exact h1) (fun u hu => by rw [g.2 _ _ (by omega)]; exact hso u hu) (by rw [g.2 _ _ (by omega)]; exact hal) (by rw [List.take_zero, List.append_nil]; exact hb.keep g.up (fun k _ _ => by omega))
      refine ⟨D', ?_, t2, hrest.keep t5.up (by omega) (by omega) (by omega), t3, t4, g.tr2 t5 (fun y k e => by omega) (fun y k e => by omega)⟩
      have ew : D.1 (M + 47) v - N32 j = N32 (P.length - j) := by rw [hC.1, nb_sub hP]
      have cg : ob_cg (N32 j) (0 : Int32) (N32 (P.length - j)) 4400 4400 := cg_n (b := 0) (by omega) (by omega) (by omega) (by omega) (by omega)
      have k81 : ob_cp D66 (M + 42 + v) (M + 42 + v) (N32 j).toNatClampNeg (0 : Int32).toNatClampNeg (N32 (P.length - j)).toNatClampNeg = D81 := by rw [nb_clamp (by omega), nb_clamp (by omega), hD81]; rfl
      have k96 : ob_cp D81 (M + 45 + v) (M + 45 + v) (N32 j).toNatClampNeg (0 : Int32).toNatClampNeg (N32 (P.length - j)).toNatClampNeg = D96 := by rw [nb_clamp (by omega), nb_clamp (by omega), hD96]; rfl
      rw [f_Model_frame_L232, if_pos (by rw [nb_le (by omega) (by omega)]; exact Nat.le_refl _), show (7 : Int32) = N32 7 from rfl, if_neg (by rw [nb_le (by decide) (by omega)]; omega), a86.1, if_pos (by omega), a86.2, if_pos hin, if_pos hin]
      simp only [show (N32 v).toNatClampNeg = v from nb_clamp (by omega)]
      rw [ew]
      simp only [ob_lt]
      rw [← hD66, r66, a84.1, if_pos (by omega), a84.2, if_pos hin, av.1, if_pos (by omega), if_pos (by omega), if_pos hin, if_pos (by omega), a86.1, if_pos (by omega), a86.2, if_pos hin, u66, av.2.1, if_pos cg, k81, r81, a85.1, if_pos (by omega), a85.2, if_pos hin, av.2.2.1, if_pos (by omega), if_pos (by omega), if_pos hin, if_pos (by omega), a86.1, if_pos (by omega), a86.2, if_pos hin, u81, av.2.2.2, if_pos cg, k96]
      exact t1
  | succ e ih =>
    intro m j D hj hm hA hG h1 hC hso hal hb
    match m, hm with
    | m + 1, hm =>
      have a84 : D.2.1 M 84 = M + 41 ∧ S.2.1 (M + 41) = 2 := hA.1 (84, 41, 2) (by decide)
      have a87 : D.2.1 M 87 = M + 48 ∧ S.2.1 (M + 48) = 1024 := hA.1 (87, 48, 1024) (by decide)
      have av := hA.2 v hv
      have hin : ob_in (N32 v) 2 := by rw [nb_in (by omega)]; exact hv
      have ij : N32 o + (6 : Int32) + N32 j = N32 (o + (6 + j)) := by
        have e : N32 o + (6 : Int32) = N32 (o + 6) := nb_add _ 6
        rw [e, nb_add]
        congr 1
        omega
      have hlen := hC.2.1
      have hl0 : (dn_h v al (so v) fh ++ (P.take j).map (fun v => v % 256)).length = 6 + j := by
        rw [List.length_append, dn_h_len, List.length_map, List.length_take]
        omega
      have hts := by_take_succ (l := P) (f := 0) (k := j) (by omega)
      rw [List.drop_zero, Nat.zero_add] at hts
      have hbn := ba_put hb (Nat.mod_lt (P.getD j 0) (show 0 < 256 by decide))
      have htj : (P.take j).map (fun v => v % 256) ++ [P.getD j 0 % 256] = (P.take (j + 1)).map (fun v => v % 256) := by rw [hts, List.map_append]; rfl
      rw [hl0, List.append_assoc, htj] at hbn
      have g : oi (fmP M o) D (ob_pI D (M + 48) (o + (6 + j)) (sb (P.getD j 0 % 256))) := oi.pI ⟨rfl, by omega, by omega⟩
      obtain ⟨D', t1, t2, t3, t4, t5, t6⟩ := ih m (j + 1) _ (by omega) (by omega) (hA.kp g) (hG.keep g.up (fun y k e => by unfold mGtP at e; omega) (by omega) (fun _ _ _ => rfl)) (by rw [pI_ne (by omega)]; exact h1) (hC.keep g.up (by omega) (by omega) (by omega)) (fun v hv => by rw [pI_ne (by omega)]; exact hso v hv) (by rw [pI_ne (by omega)]; exact hal) hbn
      refine ⟨D', ?_, t2, t3, t4, t5, (g.mono (fun y k e => Or.inl e)).tr t6⟩
      rw [f_Model_frame_L232, if_neg (by rw [nb_le (by omega) (by omega)]; omega), a87.1, if_pos (by omega), show (7 : Int32) = N32 7 from rfl, if_neg (by rw [nb_eq (by omega) (by decide)]; omega), a84.1, if_pos (by omega), a84.2, if_pos hin]
      try simp (disch := omega) only [nb_clamp]
      rw [av.1, if_pos (by omega), av.2.1, if_pos (by rw [nb_in (by omega)]; omega), ij, a87.2, if_pos (by rw [nb_in (by omega)]; omega)]
      try simp (disch := omega) only [nb_clamp]
      rw [(hC.2.2.1 j (by omega)).1, sb_sb]
      simp only [ob_lt]
      have e1 : N32 j + (1 : Int32) = N32 (j + 1) := nb_add _ 1
      rw [e1]
      exact t1
/-- the field of an idle frame -/
theorem fmm_idle {S : ob_S} {M o n F al : Nat} {so : Nat → Nat} {wd : Int32} {zg : sGt} (hF : F = n + 12) (hF2 : F ≤ 256) (hF1 : 64 ≤ F) (ho : o + 256 ≤ 1024) (hwd : wd = N32 (gt_word zg)) : ∀ (e m j : Nat) (D : ob_D), j + e = n → e < m → mA S D M → mGt S D M zg → D.1 M 1 = N32 F → (∀ v, v < 8 → D.1 (M + 49) v = N32 (so v % 256)) → D.1 M 89 = N32 (al % 256) → ba D (M + 48) o (dn_h 7 al (so 7) 2046 ++ (List.replicate j 85).map (fun v => v % 256)) → ∃ D', f_Model_frame_L232 S m M (N32 o) 7 (N32 n) (N32 j) D = some D' ∧ ba D' (M + 48) o (dn_fr 7 al (so 7) 2046 (List.replicate n 85) wd) ∧ (∀ u, u < 8 → D'.1 (M + 49) u = N32 (dn_up so 7 u % 256)) ∧ D'.1 M 89 = N32 ((al + 1) % 256) ∧ oi (fun y k => fmP M o y k ∨ (y = M ∧ k = 89) ∨ y = M + 49) D D' := by
  intro e
  induction e with
  | zero =>
    intro m j D hj hm hA hG h1 hso hal hb
    match m, hm with
    | m + 1, _ =>
      have hj' : j = n := hj
      subst hj'
      obtain ⟨D', t1, t2, t3, t4, t5⟩ := fmm_end (S := S) (M := M) (o := o) (n := j) (F := F) (ch := 7) (al := al) (fh := 2046) (so := so) (body := List.replicate j 85) hF hF2 ho (by omega) List.length_replicate hwd 4 ob_FU 0 D (by omega) (by rw [ob_FU_eq]; omega) hA hG h1 hso hal (by rw [List.take_zero, List.append_nil]; exact hb)
      refine ⟨D', ?_, t2, t3, t4, t5⟩
      rw [f_Model_frame_L232, if_pos (by rw [nb_le (by omega) (by omega)]; exact Nat.le_refl _), if_pos (by decide)]
      exact t1
  | succ e ih =>
    intro m j D hj hm hA hG h1 hso hal hb
    match m, hm with
    | m + 1, hm =>
      have a87 : D.2.1 M 87 = M + 48 ∧ S.2.1 (M + 48) = 1024 := hA.1 (87, 48, 1024) (by decide)
      have ij : N32 o + (6 : Int32) + N32 j = N32 (o + (6 + j)) := by
        have e : N32 o + (6 : Int32) = N32 (o + 6) := nb_add _ 6
        rw [e, nb_add]
        congr 1
        omega
      have hl0 : (dn_h 7 al (so 7) 2046 ++ (List.replicate j 85).map (fun v => v % 256)).length = 6 + j := by
        rw [List.length_append, dn_h_len, List.length_map, List.length_replicate]
      have hbn := ba_put (x := 85) hb (by decide)
      have htj : (List.replicate j 85).map (fun v => v % 256) ++ [85] = (List.replicate (j + 1) 85).map (fun v => v % 256) := by
        rw [List.replicate_succ', List.map_append]
        rfl
      rw [hl0, List.append_assoc, htj] at hbn
      have g : oi (fmP M o) D (ob_pI D (M + 48) (o + (6 + j)) (sb 85)) := oi.pI ⟨rfl, by omega, by omega⟩
      obtain ⟨D', t1, t2, t3, t4, t5⟩ := ih m (j + 1) _ (by omega) (by omega) (hA.kp g) (hG.keep g.up (fun y k e => by unfold mGtP at e; omega) (by omega) (fun _ _ _ => rfl)) (by rw [pI_ne (by omega)]; exact h1) (fun v hv => by rw [pI_ne (by omega)]; exact hso v hv) (by rw [pI_ne (by omega)]; exact hal) hbn
      refine ⟨D', ?_, t2, t3, t4, (g.mono (fun y k e => Or.inl e)).tr t5⟩
      have x85 : (85 : Int32).toInt8.toInt32 = sb 85 := rfl
      rw [f_Model_frame_L232, if_neg (by rw [nb_le (by omega) (by omega)]; omega), a87.1, if_pos (by omega), if_pos rfl, ij, a87.2, if_pos (by rw [nb_in (by omega)]; omega)]
      try simp (disch := omega) only [nb_clamp]
      rw [x85]
      simp only [ob_lt]
      have e1 : N32 j + (1 : Int32) = N32 (j + 1) := nb_add _ 1
      rw [e1]
      exact t1
/-- the header: six bytes, then the field -/
theorem fmm_head {S : ob_S} {D : ob_D} {M o n ch al fh : Nat} {so : Nat → Nat} (ho : o + 256 ≤ 1024) (hch : ch = 0 ∨ ch = 1 ∨ ch = 7) (hfh : fh < 2048) (hA : mA S D M) (hso : ∀ v, v < 8 → D.1 (M + 49) v = N32 (so v % 256)) (hal : D.1 M 89 = N32 (al % 256)) : ∃ D', f_Model_frame_L139 S M (N32 o) (N32 ch) (N32 n) (N32 fh) D = f_Model_frame_L232 S ob_FU M (N32 o) (N32 ch) (N32 n) 0 D' ∧ ba D' (M + 48) o (dn_h ch al (so ch) fh) ∧ oi (fmP M o) D D' := by
  have a87 : D.2.1 M 87 = M + 48 ∧ S.2.1 (M + 48) = 1024 := hA.1 (87, 48, 1024) (by decide)
  have a90 : D.2.1 M 90 = M + 49 ∧ S.2.1 (M + 49) = 8 := hA.1 (90, 49, 8) (by decide)
  have hc8 : ch < 8 := by omega
  have hin : ob_in (N32 ch) 8 := by rw [nb_in (by omega)]; exact hc8
  obtain ⟨X, hX⟩ : ∃ x, x = N32 (5537 + 2 * ch) := ⟨_, rfl⟩
  obtain ⟨Y, hY⟩ : ∃ x, x = N32 (6144 + fh) := ⟨_, rfl⟩
  have x1 : (X >>> ((8 : Int32) &&& 31)).toInt8.toInt32 = sb (by_of X 1) := by_ofs _ (j := 1) (by decide)
  have x0 : X.toInt8.toInt32 = sb (by_of X 0) := by_of0 _
  have y1 : ((24 : Int32) ||| (N32 fh >>> ((8 : Int32) &&& 31))).toInt8.toInt32 = sb (by_of Y 1) := by
    have e : N32 fh >>> ((8 : Int32) &&& 31) = N32 (fh / 2 ^ 8) := n_shr fh 8 (by omega) (by decide)
    rw [e, show (24 : Int32) = N32 24 from rfl, n_or, sb_n, hY, by_of_n1]
    congr 1
    have := Nat.two_pow_add_eq_or_of_lt (i := 3) (b := fh / 2 ^ 8) (by omega) 3
    rw [show 2 ^ 3 * 3 = 24 from rfl] at this
    omega
  have y0 : (N32 fh).toInt8.toInt32 = sb (by_of Y 0) := by
    rw [sb_n, hY, by_of_n0]
    congr 1
    omega
  obtain ⟨D10, hD10⟩ : ∃ x, x = ob_pI D (M + 48) (o + 0) (sb (by_of X 1)) := ⟨_, rfl⟩
  obtain ⟨D14, hD14⟩ : ∃ x, x = ob_pI D10 (M + 48) (o + 1) (sb (by_of X 0)) := ⟨_, rfl⟩
  obtain ⟨D18, hD18⟩ : ∃ x, x = ob_pI D14 (M + 48) (o + 2) (sb (by_of (N32 al) 0)) := ⟨_, rfl⟩
  obtain ⟨D25, hD25⟩ : ∃ x, x = ob_pI D18 (M + 48) (o + 3) (sb (by_of (N32 (so ch)) 0)) := ⟨_, rfl⟩
  obtain ⟨D29, hD29⟩ : ∃ x, x = ob_pI D25 (M + 48) (o + 4) (sb (by_of Y 1)) := ⟨_, rfl⟩
  obtain ⟨D33, hD33⟩ : ∃ x, x = ob_pI D29 (M + 48) (o + 5) (sb (by_of Y 0)) := ⟨_, rfl⟩
  have b0 : ba D (M + 48) o [] := ⟨fun i hi => absurd hi (by simp), fun x hx => absurd hx (by simp)⟩
  have b1 := ba_put b0 (by_of_lt X 1)
  have b2 := ba_put b1 (by_of_lt X 0)
  have b3 := ba_put b2 (by_of_lt (N32 al) 0)
  have b4 := ba_put b3 (by_of_lt (N32 (so ch)) 0)
  have b5 := ba_put b4 (by_of_lt Y 1)
  have b6 := ba_put b5 (by_of_lt Y 0)
  have r10 : D10.2 = D.2 := by rw [hD10]; rfl
  have r14 : D14.2 = D.2 := by rw [hD14]; exact r10
  have r18 : D18.2 = D.2 := by rw [hD18]; exact r14
  have r25 : D25.2 = D.2 := by rw [hD25]; exact r18
  have r29 : D29.2 = D.2 := by rw [hD29]; exact r25
  have v89 : D14.1 M 89 = N32 (al % 256) := by rw [hD14, pI_ne (by omega), hD10, pI_ne (by omega)]; exact hal
  have vso : D18.1 (M + 49) ch = N32 (so ch % 256) := by rw [hD18, pI_ne (by omega), hD14, pI_ne (by omega), hD10, pI_ne (by omega)]; exact hso ch hc8
  have z1 : (N32 (al % 256)).toInt8.toInt32 = sb (by_of (N32 al) 0) := by rw [sb_n, by_of_n0, Nat.mod_mod]
  have z2 : (N32 (so ch % 256)).toInt8.toInt32 = sb (by_of (N32 (so ch)) 0) := by rw [sb_n, by_of_n0, Nat.mod_mod]
  have ii : ∀ k, k < 6 → N32 o + N32 k = N32 (o + k) := fun k _ => nb_add _ _
  have hi : ∀ k, k < 6 → ob_in (N32 (o + k)) 1024 := fun k hk => by rw [nb_in (by omega)]; omega
  have hc : ∀ k, k < 6 → (N32 (o + k)).toNatClampNeg = o + k := fun k hk => nb_clamp (by omega)
  refine ⟨D33, ?_, ?_, ?_⟩
  · unfold f_Model_frame_L139
    rw [dn_ch_e hch, ← hX, x1, x0, sb_sb, sb_sb, a87.1, if_pos (by omega), a87.2, show N32 o = N32 (o + 0) from rfl, if_pos (hi 0 (by decide)), hc 0 (by decide)]
    simp only [ob_lt]
    rw [← hD10, r10, a87.1, if_pos (by omega), Nat.add_zero, show (1 : Int32) = N32 1 from rfl, ii 1 (by decide), a87.2, if_pos (hi 1 (by decide)), hc 1 (by decide), ← hD14, r14, a87.1, if_pos (by omega), show (2 : Int32) = N32 2 from rfl, ii 2 (by decide), a87.2, if_pos (hi 2 (by decide)), hc 2 (by decide), v89, z1, sb_sb, ← hD18, r18, a87.1, if_pos (by omega), a90.1, if_pos (by omega), a90.2, if_pos hin, show (3 : Int32) = N32 3 from rfl, ii 3 (by decide), a87.2, if_pos (hi 3 (by decide)), hc 3 (by decide)]
    try simp (disch := omega) only [nb_clamp]
    rw [vso, z2, sb_sb, ← hD25, r25, a87.1, if_pos (by omega), show (4 : Int32) = N32 4 from rfl, ii 4 (by decide), a87.2, if_pos (hi 4 (by decide)), hc 4 (by decide), y1, sb_sb, ← hD29, r29, a87.1, if_pos (by omega), show (5 : Int32) = N32 5 from rfl, ii 5 (by decide), a87.2, if_pos (hi 5 (by decide)), hc 5 (by decide), y0, sb_sb, ← hD33]
  · rw [hD33, hD29, hD25, hD18, hD14, hD10]
    unfold dn_h
    rw [← hX, ← hY]
    exact b6
  · rw [hD33, hD29, hD25, hD18, hD14, hD10]
    exact (((((oi.pI ⟨rfl, by omega, by omega⟩).tr (oi.pI ⟨rfl, by omega, by omega⟩)).tr (oi.pI ⟨rfl, by omega, by omega⟩)).tr (oi.pI ⟨rfl, by omega, by omega⟩)).tr (oi.pI ⟨rfl, by omega, by omega⟩)).tr (oi.pI ⟨rfl, by omega, by omega⟩)
