-- ===== the reference's frames =====
theorem ba_put {D : ob_D} {b o : Nat} {l : List Nat} {x : Nat} (h : ba D b o l) (hx : x < 256) : ba (ob_pI D b (o + l.length) (sb x)) b o (l ++ [x]) := by
  apply ba_snoc (ba.keep h (P := fun y k => y = b ∧ k = o + l.length) (og.pI ⟨rfl, rfl⟩) (fun k h1 h2 e => by omega)) hx
  exact pI_self
abbrev fmP (M o : Nat) : Nat → Nat → Prop := fun y k => y = M + 48 ∧ o ≤ k ∧ k < o + 256
def mDnC (D : ob_D) (M : Nat) : sCh → Prop
  | (lv, rp, so, al) => mCh D M 0 lv ∧ mCh D M 1 rp ∧ (∀ v, v < 8 → D.1 (M + 49) v = N32 (so v % 256)) ∧ D.1 M 89 = N32 (al % 256)
theorem mDnC.keep {D D' : ob_D} {M : Nat} {c : sCh} {P : Nat → Nat → Prop} (h : mDnC D M c) (a : og P D D') (h89 : ¬ P M 89) (h0 : ∀ k, ¬ P (M + 47) k) (hP : ∀ y k, (y = M + 42 ∨ y = M + 43 ∨ y = M + 45 ∨ y = M + 46 ∨ y = M + 49) → ¬ P y k) : mDnC D' M c := by
  obtain ⟨lv, rp, so, al⟩ := c
  obtain ⟨c1, c2, c3, c4⟩ := h
  exact ⟨c1.keep a (h0 _) (fun k => hP _ _ (by omega)) (fun k => hP _ _ (by omega)), c2.keep a (h0 _) (fun k => hP _ _ (by omega)) (fun k => hP _ _ (by omega)), fun v hv => by rw [(a _ _ (hP _ _ (by omega))).1]; exact c3 v hv, by rw [(a _ _ h89).1]; exact c4⟩
theorem dn_fr_len {ch al so fh n : Nat} {body : List Nat} {wd : Int32} (h : body.length = n) : (dn_b ch al so fh body wd).length = n + 10 ∧ (dn_fr ch al so fh body wd).length = n + 12 := by
  have e : (dn_b ch al so fh body wd).length = n + 10 := by
    unfold dn_b
    rw [List.length_append, List.length_append, dn_h_len, List.length_map, by_be_len]
    omega
  refine ⟨e, ?_⟩
  unfold dn_fr
  rw [List.length_append, by_be_len, e]
theorem dn_b_lt {ch al so fh : Nat} {body : List Nat} {wd : Int32} : ∀ x ∈ dn_b ch al so fh body wd, x < 256 := by
  intro x hx
  unfold dn_b dn_h at hx
  simp only [List.mem_append, List.mem_map] at hx
  rcases hx with ((((((hx | hx) | hx) | hx) | hx) | hx) | hx)
  · exact absurd hx (by simp)
  · exact by_be_lt _ _ x hx
  · exact by_be_lt _ _ x hx
  · exact by_be_lt _ _ x hx
  · exact by_be_lt _ _ x hx
  · obtain ⟨v, -, e⟩ := hx
    rw [← e]
    exact Nat.mod_lt _ (by decide)
  · exact by_be_lt _ _ x hx
/-- the bytes after the field -/
theorem fmm_end {S : ob_S} {M o n F ch al fh : Nat} {so : Nat → Nat} {body : List Nat} {wd : Int32} {zg : sGt} (hF : F = n + 12) (hF2 : F ≤ 256) (ho : o + 256 ≤ 1024) (hch : ch < 8) (hbl : body.length = n) (hwd : wd = N32 (gt_word zg)) : ∀ (e m j : Nat) (D : ob_D), j + e = 4 → e < m → mA S D M → mGt S D M zg → D.1 M 1 = N32 F → (∀ v, v < 8 → D.1 (M + 49) v = N32 (so v % 256)) → D.1 M 89 = N32 (al % 256) → ba D (M + 48) o (dn_h ch al (so ch) fh ++ body.map (fun v => v % 256) ++ (by_be wd 4).take j) → ∃ D', f_Model_frame_L341 S m M (N32 o) (N32 ch) (N32 n) (N32 j) D = some D' ∧ ba D' (M + 48) o (dn_fr ch al (so ch) fh body wd) ∧ (∀ v, v < 8 → D'.1 (M + 49) v = N32 (dn_up so ch v % 256)) ∧ D'.1 M 89 = N32 ((al + 1) % 256) ∧ oi (fun y k => fmP M o y k ∨ (y = M ∧ k = 89) ∨ y = M + 49) D D' := by
  intro e
  induction e with
  | zero =>
    intro m j D hj hm hA hG h1 hso hal hb
    match m, hm with
    | m + 1, _ =>
      have hj' : j = 4 := hj
      subst hj'
      have a87 : D.2.1 M 87 = M + 48 ∧ S.2.1 (M + 48) = 1024 := hA.1 (87, 48, 1024) (by decide)
      have a90 : D.2.1 M 90 = M + 49 ∧ S.2.1 (M + 49) = 8 := hA.1 (90, 49, 8) (by decide)
      have hlen := dn_fr_len (ch := ch) (al := al) (so := so ch) (fh := fh) (wd := wd) hbl
      have hb' : ba D (M + 48) o (dn_b ch al (so ch) fh body wd) := hb
      obtain ⟨cr, hcr⟩ : ∃ x, x = cr_f (dn_b ch al (so ch) fh body wd) := ⟨_, rfl⟩
      have ec : f_Model_check S (M + 48) (N32 o) (N32 (F - 2)) D = some (N32 cr, D) := by
        have := ba_check (S := S) hb' (f := 0) (c := (dn_b ch al (so ch) fh body wd).length) (by rw [hlen.1, a87.2]; omega) (by rw [a87.2]; decide) (by omega)
        rw [List.drop_zero, List.take_length, Nat.add_zero, hlen.1, ← hcr] at this
        rw [show F - 2 = n + 10 by omega]
        exact this
      have eF2 : N32 F - (2 : Int32) = N32 (F - 2) := by rw [show (2 : Int32) = N32 2 from rfl, nb_sub (by omega)]
      have i1 : N32 o + N32 F - (2 : Int32) = N32 (o + (n + 10)) := by rw [nb_add, show (2 : Int32) = N32 2 from rfl, nb_sub (by omega)]; congr 1; omega
      have i2 : N32 o + N32 F - (1 : Int32) = N32 (o + (n + 11)) := by rw [nb_add, show (1 : Int32) = N32 1 from rfl, nb_sub (by omega)]; congr 1; omega
      have x1 : (N32 cr >>> ((8 : Int32) &&& 31)).toInt8.toInt32 = sb (by_of (N32 cr) 1) := by_ofs _ (j := 1) (by decide)
      have x0 : (N32 cr).toInt8.toInt32 = sb (by_of (N32 cr) 0) := by_of0 _
      obtain ⟨D42, hD42⟩ : ∃ x, x = ob_pI D (M + 48) (o + (n + 10)) (sb (by_of (N32 cr) 1)) := ⟨_, rfl⟩
      obtain ⟨D46, hD46⟩ : ∃ x, x = ob_pI D42 (M + 48) (o + (n + 11)) (sb (by_of (N32 cr) 0)) := ⟨_, rfl⟩
      obtain ⟨D47, hD47⟩ : ∃ x, x = ob_pI D46 M 89 (N32 ((al + 1) % 256)) := ⟨_, rfl⟩
      have r42 : D42.2 = D.2 := by rw [hD42]; rfl
      have r47 : D47.2 = D.2 := by rw [hD47, hD46, hD42]; rfl
      have v1 : D42.1 M 1 = N32 F := by rw [hD42, pI_ne (by omega)]; exact h1
      have v89 : D46.1 M 89 = N32 (al % 256) := by rw [hD46, pI_ne (by omega), hD42, pI_ne (by omega)]; exact hal
      have e89 : (N32 (al % 256) + 1) - (N32 (al % 256) + 1) / (256 : Int32) * (256 : Int32) = N32 ((al + 1) % 256) := by
        have e : N32 (al % 256) + (1 : Int32) = N32 (al % 256 + 1) := nb_add _ 1
        rw [e, show (256 : Int32) = N32 256 from rfl, n_rem _ _ (by omega) (by decide)]
        congr 1
        omega
      have vso : D47.1 (M + 49) ch = N32 (so ch % 256) := by rw [hD47, pI_ne (by omega), hD46, pI_ne (by omega), hD42, pI_ne (by omega)]; exact hso ch hch
      have eso : (N32 (so ch % 256) + 1) - (N32 (so ch % 256) + 1) / (256 : Int32) * (256 : Int32) = N32 ((so ch + 1) % 256) := by
        have e : N32 (so ch % 256) + (1 : Int32) = N32 (so ch % 256 + 1) := nb_add _ 1
        rw [e, show (256 : Int32) = N32 256 from rfl, n_rem _ _ (by omega) (by decide)]
        congr 1
        omega
      have hin : ob_in (N32 ch) 8 := by rw [nb_in (by omega)]; exact hch
      have b42 : ba D42 (M + 48) o (dn_b ch al (so ch) fh body wd ++ [by_of (N32 cr) 1]) := by
        rw [hD42, ← hlen.1]
        exact ba_put hb' (by_of_lt _ _)
      have b46 : ba D46 (M + 48) o (dn_fr ch al (so ch) fh body wd) := by
        have := ba_put b42 (by_of_lt (N32 cr) 0)
        rw [List.length_append, hlen.1, List.append_assoc] at this
        rw [hD46]
        unfold dn_fr
        rw [← hcr]
        exact this
      have gF : oi (fun y k => (y = M ∧ k = 89) ∨ y = M + 49) D46 (ob_pI D47 (M + 49) ch (N32 ((so ch + 1) % 256))) := by
        rw [hD47]
        exact (oi.pI (Or.inl ⟨rfl, rfl⟩)).tr (oi.pI (Or.inr rfl))
      have gE : oi (fmP M o) D D46 := by
        rw [hD46, hD42]
        exact (oi.pI ⟨rfl, by omega, by omega⟩).tr (oi.pI ⟨rfl, by omega, by omega⟩)
      refine ⟨ob_pI D47 (M + 49) ch (N32 ((so ch + 1) % 256)), ?_, b46.keep gF.up (fun k _ _ => by omega), fun v hv => ?_, ?_, gE.tr2 gF (fun y k e => Or.inl e) (fun y k e => Or.inr e)⟩
      · rw [f_Model_frame_L341, if_pos (by decide), a87.1, if_pos (by omega), h1, eF2, ec]
        simp only [ob_bd]
        rw [a87.1, if_pos (by omega), h1, i1, a87.2, if_pos (by rw [nb_in (by omega)]; omega)]
        try simp (disch := omega) only [nb_clamp]
        rw [x1, sb_sb]
        simp only [ob_lt]
        rw [← hD42, r42, a87.1, if_pos (by omega), v1, i2, a87.2, if_pos (by rw [nb_in (by omega)]; omega)]
        try simp (disch := omega) only [nb_clamp]
        rw [x0, sb_sb, ← hD46, v89, e89, ← hD47, r47, a90.1, if_pos (by omega), if_pos (by omega), a90.2, if_pos hin, if_pos hin]
        try simp (disch := omega) only [nb_clamp]
        rw [vso, eso]
      · unfold dn_up
        by_cases hv2 : v = ch
        · rw [if_pos hv2, hv2, pI_self]
        · rw [if_neg hv2, pI_ne (by omega), hD47, pI_ne (by omega), gE.2 _ _ (by omega)]
          exact hso v hv
      · rw [pI_ne (by omega), hD47, pI_self]
  | succ e ih =>
    intro m j D hj hm hA hG h1 hso hal hb
    match m, hm with
    | m + 1, hm =>
      have a87 : D.2.1 M 87 = M + 48 ∧ S.2.1 (M + 48) = 1024 := hA.1 (87, 48, 1024) (by decide)
      have ij : N32 o + (6 : Int32) + N32 n + N32 j = N32 (o + (6 + n + j)) := by
        have e : N32 o + (6 : Int32) = N32 (o + 6) := nb_add _ 6
        rw [e, nb_add, nb_add]
        congr 1
        omega
      have xj : (N32 (gt_word zg) >>> (((24 : Int32) - ((8 : Int32) * N32 j)) &&& 31)).toInt8.toInt32 = sb (by_of wd (3 - j)) := by
        have e : (24 : Int32) - ((8 : Int32) * N32 j) = N32 (8 * (3 - j)) := by
          rw [show (8 : Int32) = N32 8 from rfl, nb_mul, show (24 : Int32) = N32 24 from rfl, nb_sub (by omega)]
          congr 1
          omega
        rw [e, ← hwd]
        exact by_ofs wd (j := 3 - j) (by omega)
      have hl0 : (dn_h ch al (so ch) fh ++ body.map (fun v => v % 256) ++ (by_be wd 4).take j).length = 6 + n + j := by
        rw [List.length_append, List.length_append, dn_h_len, List.length_map, List.length_take, by_be_len]
        omega
      have hbn := ba_put hb (by_of_lt wd (3 - j))
      have htj : (by_be wd 4).take j ++ [by_of wd (3 - j)] = (by_be wd 4).take (j + 1) := by
        have h4 : j = 0 ∨ j = 1 ∨ j = 2 ∨ j = 3 := by omega
        rcases h4 with h | h | h | h <;> subst h <;> rfl
      rw [hl0, List.append_assoc, htj] at hbn
      have g : oi (fmP M o) D (ob_pI D (M + 48) (o + (6 + n + j)) (sb (by_of wd (3 - j)))) := oi.pI ⟨rfl, by omega, by omega⟩
      obtain ⟨D', t1, t2, t3, t4, t5⟩ := ih m (j + 1) _ (by omega) (by omega) (hA.kp g) (hG.keep g.up (fun y k e => by unfold mGtP at e; omega) (by omega) (fun _ _ _ => rfl)) (by rw [pI_ne (by omega)]; exact h1) (fun v hv => by rw [pI_ne (by omega)]; exact hso v hv) (by rw [pI_ne (by omega)]; exact hal) hbn
      refine ⟨D', ?_, t2, t3, t4, (g.mono (fun y k e => Or.inl e)).tr t5⟩
      rw [f_Model_frame_L341, show (4 : Int32) = N32 4 from rfl, if_neg (by rw [nb_le (by decide) (by omega)]; omega), a87.1, if_pos (by omega), gtm_word hG]
      simp only [ob_bd]
      rw [ij, a87.2, if_pos (by rw [nb_in (by omega)]; omega)]
      try simp (disch := omega) only [nb_clamp]
      rw [xj, sb_sb]
      simp only [ob_lt]
      have e1 : N32 j + (1 : Int32) = N32 (j + 1) := nb_add _ 1
      rw [e1]
      exact t1
