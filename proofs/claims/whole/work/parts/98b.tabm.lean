-- ===== the timetable's commands, in the reference =====
abbrev ttmP (M : Nat) : Nat → Nat → Prop := fun y k => (y = M ∧ (k = 45 ∨ k = 46)) ∨ (M + 16 ≤ y ∧ y ≤ M + 18)
theorem wm_newentry {S : ob_S} {D : ob_D} {M pt m : Nat} {c : List Nat} {A : List sEn} {on : Bool} {cr : sCr} (hA : mA S D M) (hc : mCm D M c) (hT : mTt D M A on) (hF : mCr D M pt cr) (h0 : D.1 M 0 = N32 m) (hm : m ≤ 64) (hAm : A.length ≤ m) (hl : 17 ≤ c.length) : f_Model_tableFailure S M 4 D = some (N32 (te_v c A.length m cr.2.2.1), D) := by
  obtain ⟨wi, mo, ck, al, hd, fa, br⟩ := cr
  have v41 : D.1 M 41 = N32 ck := hF.2.2.2.1
  have a27 : D.2.1 M 27 = M + 7 ∧ S.2.1 (M + 7) = 260 := hA.1 (27, 7, 260) (by decide)
  have hcl := hc.2.1
  have hfo : f_Model_faultOf S (M + 7) 15 (N32 (c.length - 17)) D = some (N32 (fo ((c.drop 15).take (c.length - 17))), D) := fom hc.2.2 (by rw [a27.2]; omega) (by rw [a27.2]; decide) (f := 15) (by omega) hcl
  have hle := fo_le ((c.drop 15).take (c.length - 17))
  have d0 : f_Model_dataFour S M 0 D = some (N32 (nn c 11 4), D) := wm_data4 hA hc (i := 0) (by omega)
  unfold f_Model_tableFailure te_v
  rw [if_pos rfl, a27.1, if_pos (by omega), hc.1, show (17 : Int32) = N32 17 from rfl, nb_sub hl, hfo]
  simp only [ob_bd]
  show _ = some (N32 (if fo ((c.drop 15).take (c.length - 17)) = 0 then (if N32 ck < N32 (nn c 11 4) then (if A.length < m then 0 else 21) else 20) else 22), D)
  by_cases h1 : fo ((c.drop 15).take (c.length - 17)) = 0
  · rw [if_pos (by rw [h1]; rfl), if_pos h1, d0]
    simp only [ob_bd]
    rw [v41, hT.1, h0]
    by_cases h2 : N32 ck < N32 (nn c 11 4)
    · rw [if_pos h2, if_pos h2, if_en (by omega) (by omega)]
      by_cases h3 : A.length = m
      · rw [if_pos h3, if_neg (by omega)]; rfl
      · rw [if_neg h3, if_pos (by omega)]; rfl
    · rw [if_neg h2, if_neg h2]; rfl
  · rw [if_neg (by rw [show (0 : Int32) = N32 0 from rfl, nb_eq (by omega) (by decide)]; exact h1), if_neg h1]; rfl
theorem wm_has {S : ob_S} {D : ob_D} {M : Nat} {c : List Nat} {A : List sEn} {on : Bool} (hA : mA S D M) (hc : mCm D M c) (hT : mTt D M A on) (hl : 13 ≤ c.length) : f_Model_tableFailure S M 5 D = some (N32 (te_has c A), D) := by
  have h64 := hT.2.1
  have d0 : f_Model_dataTwo S M 0 D = some (N32 (nn c 11 2), D) := wm_data2 hA hc (i := 0) (by omega)
  have hL : ∀ (d n k : Nat), k + d = A.length → d < n → f_Model_tableFailure_L69 S n M (N32 k) D = some (N32 (if (A.drop k).any (fun e => en_no e == nn c 11 2 % 16384) = true then 0 else 23), D) := by
    intro d
    induction d with
    | zero =>
      intro n k hk hn
      match n, hn with
      | n + 1, _ =>
        rw [f_Model_tableFailure_L69, hT.1, if_pos (by rw [nb_le (by omega) (by omega)]; omega), List.drop_of_length_le (by omega)]
        rfl
    | succ d ih =>
      intro n k hk hn
      match n, hn with
      | n + 1, hn =>
        have e1 : N32 k + (1 : Int32) = N32 (k + 1) := nb_add _ 1
        have hlt : en_no (A.getD k (0, [])) < 16384 := Nat.mod_lt _ (by decide)
        rw [f_Model_tableFailure_L69, hT.1, if_neg (by rw [nb_le (by omega) (by omega)]; omega), edm_no hA hT (by omega)]
        simp only [ob_bd]
        rw [d0]
        simp only [ob_bd]
        rw [n_16383, if_en (by omega) (by omega), e1, en_drop (L := A) (k := k) (by omega), List.any_cons, ih n (k + 1) (by omega) (by omega)]
        by_cases h : en_no (A.getD k (0, [])) = nn c 11 2 % 16384
        · rw [if_pos h, show (en_no (A.getD k (0, [])) == nn c 11 2 % 16384) = true from beq_iff_eq.mpr h, Bool.true_or, if_pos rfl]
          rfl
        · rw [if_neg h, show (en_no (A.getD k (0, [])) == nn c 11 2 % 16384) = false from beq_eq_false_iff_ne.mpr h, Bool.false_or]
  have := hL A.length ob_FU 0 (by omega) (by rw [ob_FU_eq]; omega)
  rw [List.drop_zero] at this
  have this' : f_Model_tableFailure_L69 S ob_FU M 0 D = _ := this
  unfold f_Model_tableFailure te_has
  rw [if_neg (by decide), if_pos rfl]
  exact this'
theorem wm_can {S : ob_S} {D : ob_D} {M pt : Nat} {c : List Nat} {A : List sEn} {on : Bool} {cr : sCr} (hA : mA S D M) (hc : mCm D M c) (hT : mTt D M A on) (hF : mCr D M pt cr) (hl : 15 ≤ c.length) : f_Model_tableFailure S M 15 D = some (N32 (te_can c cr.2.2.1 A), D) := by
  obtain ⟨wi, mo, ck, al, hd, fa, br⟩ := cr
  have v41 : D.1 M 41 = N32 ck := hF.2.2.2.1
  have h64 := hT.2.1
  have a42 : D.2.1 M 42 = M + 16 ∧ S.2.1 (M + 16) = 64 := hA.1 (42, 16, 64) (by decide)
  have d0 : f_Model_dataFour S M 0 D = some (N32 (nn c 11 4), D) := wm_data4 hA hc (i := 0) (by omega)
  obtain ⟨dd, hdd⟩ : ∃ x, x = N32 (nn c 11 4) := ⟨_, rfl⟩
  rw [← hdd] at d0
  have hL : ∀ (d n k : Nat), k + d = A.length → d < n → f_Model_tableFailure_L113 S n M (N32 k) D = some (N32 (if tt_can dd (N32 ck) (A.drop k) = true then 0 else 24), D) := by
    intro d
    induction d with
    | zero =>
      intro n k hk hn
      match n, hn with
      | n + 1, _ =>
        rw [f_Model_tableFailure_L113, hT.1, if_pos (by rw [nb_le (by omega) (by omega)]; omega), List.drop_of_length_le (by omega)]
        rfl
    | succ d ih =>
      intro n k hk hn
      match n, hn with
      | n + 1, hn =>
        have e1 : N32 k + (1 : Int32) = N32 (k + 1) := nb_add _ 1
        have vk : D.1 (M + 16) (N32 k).toNatClampNeg = (A.getD k (0, [])).1 := by rw [nb_clamp (by omega)]; exact (hT.2.2.1 k (by omega)).1
        have hcons : tt_can dd (N32 ck) (A.getD k (0, []) :: A.drop (k + 1)) = (decide ((N32 ck).toInt < (A.getD k (0, [])).1.toInt + dd.toInt ∧ (A.getD k (0, [])).1.toInt + dd.toInt < 2147483648) && tt_can dd (N32 ck) (A.drop (k + 1))) := rfl
        rw [f_Model_tableFailure_L113, hT.1, if_neg (by rw [nb_le (by omega) (by omega)]; omega), a42.1, if_pos (by omega), a42.2, if_pos (by rw [nb_in (by omega)]; omega), d0]
        simp only [ob_bd]
        rw [vk, v41, en_drop (by omega), hcons]
        have hmax : (2147483647 : Int64) = (2147483647 : Int32).toInt64 := by decide
        by_cases c1 : (A.getD k (0, [])).1.toInt + dd.toInt ≤ (N32 ck).toInt
        · rw [if_pos ((lg_cmp_le _ _).mpr ((l_le _ _ _).mpr c1)), show decide ((N32 ck).toInt < (A.getD k (0, [])).1.toInt + dd.toInt ∧ (A.getD k (0, [])).1.toInt + dd.toInt < 2147483648) = false by rw [decide_eq_false_iff_not]; omega]
          rfl
        · rw [if_neg (fun e => c1 ((l_le _ _ _).mp ((lg_cmp_le _ _).mp e))), hmax]
          have hm2 : (2147483647 : Int32).toInt = 2147483647 := by decide
          by_cases c2 : (A.getD k (0, [])).1.toInt + dd.toInt < 2147483648
          · rw [if_pos ((lg_cmp_le _ _).mpr ((l_le _ _ _).mpr (by rw [hm2]; omega))), show decide ((N32 ck).toInt < (A.getD k (0, [])).1.toInt + dd.toInt ∧ (A.getD k (0, [])).1.toInt + dd.toInt < 2147483648) = true by rw [decide_eq_true_iff]; omega, e1, Bool.true_and]
            exact ih n (k + 1) (by omega) (by omega)
          · rw [if_neg (fun e => c2 (by have := (l_le _ _ _).mp ((lg_cmp_le _ _).mp e); rw [hm2] at this; omega)), show decide ((N32 ck).toInt < (A.getD k (0, [])).1.toInt + dd.toInt ∧ (A.getD k (0, [])).1.toInt + dd.toInt < 2147483648) = false by rw [decide_eq_false_iff_not]; omega]
            rfl
  have := hL A.length ob_FU 0 (by omega) (by rw [ob_FU_eq]; omega)
  rw [List.drop_zero] at this
  have this' : f_Model_tableFailure_L113 S ob_FU M 0 D = _ := this
  unfold f_Model_tableFailure te_can
  rw [if_neg (by decide), if_neg (by decide), if_pos rfl, ← hdd]
  exact this'
theorem wm_tabelse {S : ob_S} {D : ob_D} {M t : Nat} (ht : t < 256) (h4 : t ≠ 4) (h5 : t ≠ 5) (h15 : t ≠ 15) : f_Model_tableFailure S M (N32 t) D = some (0, D) := by
  unfold f_Model_tableFailure
  rw [if_neg (by rw [show (4 : Int32) = N32 4 from rfl, nb_eq (by omega) (by decide)]; exact h4), if_neg (by rw [show (5 : Int32) = N32 5 from rfl, nb_eq (by omega) (by decide)]; exact h5), if_neg (by rw [show (15 : Int32) = N32 15 from rfl, nb_eq (by omega) (by decide)]; exact h15)]
theorem ttm_flag {D : ob_D} {M : Nat} {A : List sEn} {on : Bool} (h : mTt D M A on) (b : Bool) : mTt (ob_pI D M 46 (bI b)) M A b := by
  have g : og (fun y k => y = M ∧ k = 46) D (ob_pI D M 46 (bI b)) := og.pI ⟨rfl, rfl⟩
  exact ⟨by rw [pI_ne (by omega)]; exact h.1, h.2.1, fun i hi => (h.2.2.1 i hi).keep g (by omega) (by omega) (fun k _ _ => by omega), pI_self⟩
theorem ttm_clear {D : ob_D} {M : Nat} : mTt (ob_pI (ob_pI D M 45 (0 : Int32)) M 46 (0 : Int32)) M [] false := ⟨by rw [pI_ne (by omega), pI_self]; rfl, Nat.zero_le _, fun i hi => absurd hi (by simp), pI_self⟩
theorem ttm_add_L {S : ob_S} {M q : Nat} {c : List Nat} (hq : q < 64) (hl : 17 ≤ c.length) : ∀ (d n j : Nat) (D : ob_D), j + d = c.length - 17 → d < n → mA S D M → mCm D M c → D.1 M 45 = N32 q → ba D (M + 18) (260 * q) (((c.drop 15).take (c.length - 17)).take j) → ∃ D', f_Model_actTable_L82 S n M (N32 j) D = some D' ∧ ba D' (M + 18) (260 * q) ((c.drop 15).take (c.length - 17)) ∧ D'.1 M 45 = N32 (q + 1) ∧ oi (fun y k => (y = M ∧ k = 45) ∨ (y = M + 18 ∧ 260 * q ≤ k ∧ k < 260 * q + 260)) D D' := by
  intro d
  induction d with
  | zero =>
    intro n j D hj hn hA hc h45 hb
    match n, hn with
    | n + 1, _ =>
      have hcl := hc.2.1
      have hpl : ((c.drop 15).take (c.length - 17)).length = c.length - 17 := by rw [List.length_take, List.length_drop]; omega
      rw [List.take_of_length_le (by omega)] at hb
      have e45 : D.1 M 45 + 1 = N32 (q + 1) := by rw [h45]; exact nb_add _ 1
      have g : og (fun y k => y = M ∧ k = 45) D (ob_pI D M 45 (N32 (q + 1))) := og.pI ⟨rfl, rfl⟩
      refine ⟨ob_pI D M 45 (N32 (q + 1)), ?_, hb.keep g (fun k _ _ => by omega), pI_self, oi.pI (Or.inl ⟨rfl, rfl⟩)⟩
      rw [f_Model_actTable_L82, hc.1, show (17 : Int32) = N32 17 from rfl, nb_sub hl, if_pos (by rw [nb_le (by omega) (by omega)]; omega), e45]
      try rfl
  | succ d ih =>
    intro n j D hj hn hA hc h45 hb
    match n, hn with
    | n + 1, hn =>
      have hcl := hc.2.1
      have hpl : ((c.drop 15).take (c.length - 17)).length = c.length - 17 := by rw [List.length_take, List.length_drop]; omega
      have a44 : D.2.1 M 44 = M + 18 ∧ S.2.1 (M + 18) = 16640 := hA.1 (44, 18, 16640) (by decide)
      have a27 : D.2.1 M 27 = M + 7 ∧ S.2.1 (M + 7) = 260 := hA.1 (27, 7, 260) (by decide)
      have e15 : (15 : Int32) + N32 j = N32 (15 + j) := nb_add 15 j
      have eo : (260 : Int32) * N32 q + N32 j = N32 (260 * q + j) := by rw [show (260 : Int32) = N32 260 from rfl, nb_mul, nb_add]
      have ej : N32 j + (1 : Int32) = N32 (j + 1) := nb_add _ 1
      have hx : ((c.drop 15).take (c.length - 17)).getD j 0 = c.getD (15 + j) 0 := gd_slice c (by omega)
      have hv : D.1 (M + 7) (N32 (15 + j)).toNatClampNeg = sb (((c.drop 15).take (c.length - 17)).getD j 0) := by
        have := hc.2.2.1 (15 + j) (by omega)
        rw [Nat.zero_add] at this
        rw [nb_clamp (by omega), this, hx]
      have hb256 : ((c.drop 15).take (c.length - 17)).getD j 0 < 256 := by rw [hx]; exact by_getD_lt hc.2.2.2 _
      have hbn := ba_put hb hb256
      have hts := by_take_succ (l := (c.drop 15).take (c.length - 17)) (f := 0) (k := j) (by omega)
      rw [List.drop_zero, Nat.zero_add] at hts
      rw [← hts, List.length_take, hpl, Nat.min_eq_left (by omega)] at hbn
      have g : oi (fun y k => (y = M ∧ k = 45) ∨ (y = M + 18 ∧ 260 * q ≤ k ∧ k < 260 * q + 260)) D (ob_pI D (M + 18) (260 * q + j) (sb (((c.drop 15).take (c.length - 17)).getD j 0))) := oi.pI (Or.inr ⟨rfl, by omega, by omega⟩)
      obtain ⟨D', t1, t2, t3, t4⟩ := ih n (j + 1) _ (by omega) (by omega) (hA.kp g) (hc.keep g.up (by omega) (by omega)) (by rw [pI_ne (by omega)]; exact h45) hbn
      refine ⟨D', ?_, t2, t3, g.tr t4⟩
      rw [f_Model_actTable_L82, hc.1, show (17 : Int32) = N32 17 from rfl, nb_sub hl, if_neg (by rw [nb_le (by omega) (by omega)]; omega), a44.1, if_pos (by omega), a27.1, if_pos (by omega), e15, a27.2, if_pos (by rw [nb_in (by omega)]; omega), h45, eo, a44.2, if_pos (by rw [nb_in (by omega)]; omega), hv, sb_sb, nb_clamp (by omega)]
      simp only [ob_lt]
      rw [ej]
      exact t1
theorem ttm_add {S : ob_S} {D : ob_D} {M : Nat} {c : List Nat} {A : List sEn} {on : Bool} (hA : mA S D M) (hc : mCm D M c) (hT : mTt D M A on) (hr : A.length < 64) (hl : 17 ≤ c.length) (hf : fo ((c.drop 15).take (c.length - 17)) = 0) : ∃ D', f_Model_actTable S M 4 D = some D' ∧ mTt D' M (A ++ [te_new c]) on ∧ oi (ttmP M) D D' := by
  have hcl := hc.2.1
  have hpl : ((c.drop 15).take (c.length - 17)).length = c.length - 17 := by rw [List.length_take, List.length_drop]; omega
  have h13 := fo_13 hf
  have a42 : D.2.1 M 42 = M + 16 ∧ S.2.1 (M + 16) = 64 := hA.1 (42, 16, 64) (by decide)
  have a43 : D.2.1 M 43 = M + 17 ∧ S.2.1 (M + 17) = 64 := hA.1 (43, 17, 64) (by decide)
  have d0 : f_Model_dataFour S M 0 D = some (N32 (nn c 11 4), D) := wm_data4 hA hc (i := 0) (by omega)
  obtain ⟨t1, t2, t3, t4⟩ := hT
  obtain ⟨D44, hD44⟩ : ∃ x, x = ob_pI D (M + 16) A.length (N32 (nn c 11 4)) := ⟨_, rfl⟩
  obtain ⟨D48, hD48⟩ : ∃ x, x = ob_pI D44 (M + 17) A.length (N32 (c.length - 17)) := ⟨_, rfl⟩
  have r44 : D44.2 = D.2 := by rw [hD44]; rfl
  have v45 : D44.1 M 45 = N32 A.length := by rw [hD44, pI_ne (by omega)]; exact t1
  have v28 : D44.1 M 28 = N32 c.length := by rw [hD44, pI_ne (by omega)]; exact hc.1
  have g48 : oi (fun y k => (y = M + 16 ∨ y = M + 17) ∧ k = A.length) D D48 := by
    rw [hD48, hD44]
    exact (oi.pI ⟨Or.inl rfl, rfl⟩).tr (oi.pI ⟨Or.inr rfl, rfl⟩)
  obtain ⟨D', u1, u2, u3, u4⟩ := ttm_add_L (S := S) (M := M) (q := A.length) (c := c) hr hl (c.length - 17) ob_FU 0 D48 (by omega) (by rw [ob_FU_eq]; omega) (hA.kp g48) (hc.keep g48.up (by omega) (by omega)) (by rw [g48.2 _ _ (by omega)]; exact t1) (by rw [List.take_zero]; exact ⟨fun i hi => absurd hi (by simp), fun x hx => absurd hx (by simp)⟩)
  have u1' : f_Model_actTable_L82 S ob_FU M 0 D48 = some D' := u1
  refine ⟨D', ?_, ⟨by rw [u3, List.length_append]; rfl, by rw [List.length_append, List.length_singleton]; omega, fun i hi => ?_, by rw [u4.2 _ _ (by omega), g48.2 _ _ (by omega)]; exact t4⟩, g48.tr2 u4 (fun y k e => by omega) (fun y k e => by omega)⟩
  · unfold f_Model_actTable
    rw [if_neg (by decide), if_neg (by decide), if_neg (by decide), if_pos rfl, a42.1, if_pos (by omega), d0]
    simp only [ob_bd]
    rw [t1, a42.2, if_pos (by rw [nb_in (by omega)]; exact hr), nb_clamp (by omega)]
    simp only [ob_lt]
    rw [← hD44, r44, a43.1, if_pos (by omega), v45, a43.2, if_pos (by rw [nb_in (by omega)]; exact hr), v28, show (17 : Int32) = N32 17 from rfl, nb_sub hl, nb_clamp (by omega), ← hD48]
    exact u1'
  · rw [List.length_append, List.length_singleton] at hi
    by_cases hi2 : i < A.length
    · rw [en_app_l hi2]
      exact ((t3 i hi2).keep g48.up (by omega) (by omega) (fun k _ _ => by omega)).keep u4.up (by omega) (by omega) (fun k k1 k2 => by omega)
    · have hi3 : i = A.length := by omega
      rw [hi3, en_app_n]
      refine ⟨?_, ?_, ?_, ?_, u2⟩
      · rw [u4.2 _ _ (by omega), hD48, pI_ne (by omega), hD44, pI_self]; rfl
      · rw [u4.2 _ _ (by omega), hD48, pI_self]
        show _ = N32 ((c.drop 15).take (c.length - 17)).length
        rw [hpl]
      · show 9 ≤ ((c.drop 15).take (c.length - 17)).length; omega
      · show ((c.drop 15).take (c.length - 17)).length ≤ 252; omega
theorem ttm_shift {S : ob_S} {D : ob_D} {M : Nat} {c : List Nat} {A : List sEn} {on : Bool} (hA : mA S D M) (hc : mCm D M c) (hT : mTt D M A on) (hl : 15 ≤ c.length) : ∃ D', f_Model_actTable S M 15 D = some D' ∧ mTt D' M (tt_shift (N32 (nn c 11 4)) A) on ∧ oi (ttmP M) D D' := by
  have a42 : D.2.1 M 42 = M + 16 ∧ S.2.1 (M + 16) = 64 := hA.1 (42, 16, 64) (by decide)
  obtain ⟨t1, t2, t3, t4⟩ := hT
  have hL : ∀ (d n k : Nat) (D1 : ob_D), k + d = A.length → d < n → oi (fun y q => y = M + 16) D D1 → (∀ i, i < A.length → D1.1 (M + 16) i = if i < k then (A.getD i (0, [])).1 + N32 (nn c 11 4) else (A.getD i (0, [])).1) → ∃ D', f_Model_actTable_L193 S n M (N32 k) D1 = some D' ∧ oi (fun y q => y = M + 16) D D' ∧ ∀ i, i < A.length → D'.1 (M + 16) i = (A.getD i (0, [])).1 + N32 (nn c 11 4) := by
    intro d
    induction d with
    | zero =>
      intro n k D1 hk hn g hv
      match n, hn with
      | n + 1, _ =>
        refine ⟨D1, ?_, g, fun i hi => by rw [hv i hi, if_pos (by omega)]⟩
        rw [f_Model_actTable_L193, g.2 _ _ (by omega), t1, if_pos (by rw [nb_le (by omega) (by omega)]; omega)]
    | succ d ih =>
      intro n k D1 hk hn g hv
      match n, hn with
      | n + 1, hn =>
        have e1 : N32 k + (1 : Int32) = N32 (k + 1) := nb_add _ 1
        have hin : ob_in (N32 k) 64 := by rw [nb_in (by omega)]; omega
        have d0 : f_Model_dataFour S M 0 D1 = some (N32 (nn c 11 4), D1) := wm_data4 (hA.kp g) (hc.keep g.up (by omega) (by omega)) (i := 0) (by omega)
        have ev : D1.1 (M + 16) (N32 k).toNatClampNeg = (A.getD k (0, [])).1 := by rw [nb_clamp (by omega), hv k (by omega), if_neg (by omega)]
        obtain ⟨D', u1, u2, u3⟩ := ih n (k + 1) (ob_pI D1 (M + 16) k ((A.getD k (0, [])).1 + N32 (nn c 11 4))) (by omega) (by omega) (g.tr (oi.pI rfl)) (fun i hi => by
          by_cases hik : i = k
          · rw [hik, pI_self, if_pos (by omega)]
          · rw [pI_ne (by omega), hv i hi]
            by_cases hc : i < k
            · rw [if_pos hc, if_pos (by omega)]
            · rw [if_neg hc, if_neg (by omega)])
        refine ⟨D', ?_, u2, u3⟩
        rw [f_Model_actTable_L193, g.2 M 45 (by omega), t1, if_neg (by rw [nb_le (by omega) (by omega)]; omega), g.1, a42.1, if_pos (by omega), a42.2, if_pos hin, d0]
        simp only [ob_bd]
        rw [if_pos hin, ev, nb_clamp (by omega)]
        simp only [ob_lt]
        rw [e1]
        exact u1
  obtain ⟨D', u1, u2, u3⟩ := hL A.length ob_FU 0 D (by omega) (by rw [ob_FU_eq]; omega) oi.rf (fun i hi => by rw [if_neg (by omega)]; exact (t3 i hi).1)
  have u1' : f_Model_actTable_L193 S ob_FU M 0 D = some D' := u1
  have hsl : (tt_shift (N32 (nn c 11 4)) A).length = A.length := List.length_map ..
  refine ⟨D', ?_, ⟨by rw [u2.2 _ _ (by omega), hsl]; exact t1, by rw [hsl]; exact t2, fun i hi => ?_, by rw [u2.2 _ _ (by omega)]; exact t4⟩, u2.mono (fun y q e => by omega)⟩
  · unfold f_Model_actTable
    rw [if_neg (by decide), if_neg (by decide), if_neg (by decide), if_neg (by decide), if_neg (by decide), if_pos rfl]
    exact u1'
  · rw [hsl] at hi
    rw [sh_get _ hi]
    obtain ⟨b1, b2, b3, b4, b5⟩ := t3 i hi
    exact ⟨u3 i hi, by rw [u2.2 _ _ (by omega)]; exact b2, b3, b4, b5.keep u2.up (fun k _ _ => by omega)⟩
