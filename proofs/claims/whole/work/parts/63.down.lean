-- ===== the downlink: what it sends =====
abbrev sCh : Type := List Nat × List Nat × (Nat → Nat) × Nat
def dn_emp (s : Nat) : List Nat := 263 :: 255 :: 192 :: 0 :: ((s - 7) / 256) :: ((s - 7) % 256) :: List.replicate (s - 6) 85
def dn_pad (n : Nat) (L : List Nat) : List Nat := if L.length < n then L ++ dn_emp (if 7 ≤ n - L.length then n - L.length else 7) else L
def fst_b : List Nat → Nat → Nat
  | [], _ => 2047
  | x :: l, k => if 256 ≤ x then k else fst_b l (k + 1)
def dn_h (ch al so fh : Nat) : List Nat := [] ++ by_be (N32 (5537 + 2 * ch)) 2 ++ by_be (N32 al) 1 ++ by_be (N32 so) 1 ++ by_be (N32 (6144 + fh)) 2
def dn_b (ch al so fh : Nat) (body : List Nat) (wd : Int32) : List Nat := dn_h ch al so fh ++ body.map (fun v => v % 256) ++ by_be wd 4
def dn_fr (ch al so fh : Nat) (body : List Nat) (wd : Int32) : List Nat := dn_b ch al so fh body wd ++ by_be (N32 (cr_f (dn_b ch al so fh body wd))) 2
def dn_up (so : Nat → Nat) (v : Nat) : Nat → Nat := fun j => if j = v then so v + 1 else so j
def dn_one (n : Nat) (wd : Int32) : sCh → List Nat × sCh
  | (lv, rp, so, al) => if 0 < lv.length then (dn_fr 0 al (so 0) (fst_b ((dn_pad n lv).take n) 0) ((dn_pad n lv).take n) wd, ((dn_pad n lv).drop n, rp, dn_up so 0, al + 1))
      else if 0 < rp.length then (dn_fr 1 al (so 1) (fst_b ((dn_pad n rp).take n) 0) ((dn_pad n rp).take n) wd, (lv, (dn_pad n rp).drop n, dn_up so 1, al + 1))
      else (dn_fr 7 al (so 7) 2046 (List.replicate n 85) wd, (lv, rp, dn_up so 7, al + 1))
def dn_cnt : sCh → Nat
  | (lv, rp, _, _) => if 0 < lv.length then 1 else if 0 < rp.length then 1 else 0
def dn_st (n : Nat) (wd : Int32) : Nat → sCh → sCh
  | 0, c => c
  | k + 1, c => (dn_one n wd (dn_st n wd k c)).2
def dn_sum (n : Nat) (wd : Int32) : Nat → sCh → Nat
  | 0, _ => 0
  | k + 1, c => dn_sum n wd k c + dn_cnt (dn_st n wd k c)
def dn_frs (n : Nat) (wd : Int32) : Nat → sCh → List (List Nat)
  | 0, _ => []
  | k + 1, c => dn_frs n wd k c ++ [(dn_one n wd (dn_st n wd k c)).1]
theorem dn_frs_len (n : Nat) (wd : Int32) (c : sCh) : ∀ k, (dn_frs n wd k c).length = k
  | 0 => rfl
  | k + 1 => by rw [dn_frs, List.length_append, dn_frs_len n wd c k]; rfl
theorem dn_emp_len {s : Nat} (h : 6 ≤ s) : (dn_emp s).length = s := by
  unfold dn_emp
  simp only [List.length_cons, List.length_replicate]
  omega
theorem dn_emp_lt (s : Nat) (h : s ≤ 1000) : ∀ x ∈ dn_emp s, x < 512 := by
  intro x hx
  unfold dn_emp at hx
  simp only [List.mem_cons, List.mem_replicate] at hx
  omega
theorem dn_pad_len {n : Nat} (L : List Nat) : n ≤ (dn_pad n L).length := by
  unfold dn_pad
  split
  · split
    · rw [List.length_append, dn_emp_len (by omega)]; omega
    · rw [List.length_append, dn_emp_len (by omega)]; omega
  · omega
theorem dn_pad_max {n : Nat} (L : List Nat) : (dn_pad n L).length ≤ L.length ∨ (dn_pad n L).length ≤ n + 7 := by
  unfold dn_pad
  split
  · right
    split
    · rw [List.length_append, dn_emp_len (by omega)]; omega
    · rw [List.length_append, dn_emp_len (by omega)]; omega
  · left; omega
theorem dn_pad_lt {n : Nat} (hn : n ≤ 250) {L : List Nat} (h : ∀ x ∈ L, x < 512) : ∀ x ∈ dn_pad n L, x < 512 := by
  intro x hx
  unfold dn_pad at hx
  split at hx
  · rcases List.mem_append.mp hx with e | e
    · exact h x e
    · exact dn_emp_lt _ (by split <;> omega) x e
  · exact h x hx
theorem fst_b_app (l : List Nat) (x : Nat) : ∀ k, k + l.length < 2047 → fst_b (l ++ [x]) k = if fst_b l k = 2047 then (if 256 ≤ x then k + l.length else 2047) else fst_b l k := by
  induction l with
  | nil => intro k hk; simp [fst_b]
  | cons y l ih =>
    intro k hk
    rw [List.length_cons] at hk
    rw [List.cons_append, fst_b, fst_b]
    by_cases hc : 256 ≤ y
    · rw [if_pos hc, if_pos hc, if_neg (by omega)]
    · rw [if_neg hc, if_neg hc, ih (k + 1) (by omega), List.length_cons, show k + 1 + l.length = k + (l.length + 1) by omega]
theorem fst_b_le (l : List Nat) : ∀ k, k + l.length ≤ 2047 → fst_b l k ≤ 2047 := by
  induction l with
  | nil => intro k hk; exact Nat.le_refl _
  | cons y l ih =>
    intro k hk
    rw [List.length_cons] at hk
    rw [fst_b]
    split
    · omega
    · exact ih (k + 1) (by omega)
theorem by_be_n1 (x : Nat) : by_be (N32 x) 1 = [x % 256] := by rw [by_be_1, by_of_n0]
-- ===== the class's downlink: filling a frame =====
theorem dnc_idle_L {S : ob_S} {d a b cap F n : Nat} {l : List Nat} (hF : F = n + 12) (hF2 : F ≤ 1000) (hd : d ≠ a ∧ d ≠ b) (hr : l.length + n ≤ cap) : ∀ (e m j : Nat) (D : ob_D), j + e = n → e < m → rw_at S D a b cap (l ++ List.replicate j 85) → D.1 d 3 = N32 F → ∃ D', f_Downlink_fillIdle_L3 S m d a (N32 (6 + j)) D = some (2046, D') ∧ rw_at S D' a b cap (l ++ List.replicate n 85) ∧ ob_ag (fun y => y = a ∨ y = b) D D' := by
  intro e
  induction e with
  | zero =>
    intro m j D hj hm hw h3
    match m, hm with
    | m + 1, _ =>
      have hj' : j = n := hj
      refine ⟨D, ?_, hj' ▸ hw, ob_ag.rf⟩
      rw [f_Downlink_fillIdle_L3, h3, show (6 : Int32) = N32 6 from rfl, nb_sub (by omega), if_pos (by rw [nb_le (by omega) (by omega)]; omega)]
  | succ e ih =>
    intro m j D hj hm hw h3
    match m, hm with
    | m + 1, hm =>
      obtain ⟨D1, p1, p2, p3⟩ := rw_add hw 85 (c := 1) (by decide) (by rw [List.length_append, List.length_replicate]; omega)
      have e85 : by_be 85 1 = [85] := by decide
      rw [e85, List.append_assoc, ← List.replicate_succ'] at p2
      obtain ⟨D2, q1, q2, q3⟩ := ih m (j + 1) D1 (by omega) (by omega) p2 (by rw [p3.2 _ _ (by omega)]; exact h3)
      refine ⟨D2, ?_, q2, p3.tr q3⟩
      have p1' : f_Row_add S a 85 1 D = some D1 := p1
      rw [f_Downlink_fillIdle_L3, h3, show (6 : Int32) = N32 6 from rfl, nb_sub (by omega), if_neg (by rw [nb_le (by omega) (by omega)]; omega), p1']
      simp only [ob_bv]
      have e1 : N32 (6 + j) + (1 : Int32) = N32 (6 + (j + 1)) := nb_add _ 1
      rw [e1]
      exact q1
theorem dnc_emp_L {S : ob_S} {q s : Nat} {L : List Nat} (hr : L.length + s ≤ 4096) (h7 : 7 ≤ s) : ∀ (e m j : Nat) (D : ob_D), 6 + j + e = s → e < m → rgN S D q (q + 1) 4096 (L ++ (263 :: 255 :: 192 :: 0 :: ((s - 7) / 256) :: ((s - 7) % 256) :: List.replicate j 85)) → ∃ D', f_Downlink_putEmptyPacket_L52 S m q (N32 s) (N32 (6 + j)) D = some D' ∧ rgN S D' q (q + 1) 4096 (L ++ dn_emp s) ∧ ob_ag (fun y => y = q ∨ y = q + 1) D D' := by
  intro e
  induction e with
  | zero =>
    intro m j D hj hm hw
    match m, hm with
    | m + 1, _ =>
      have hj' : j = s - 6 := by omega
      refine ⟨D, ?_, ?_, ob_ag.rf⟩
      · rw [f_Downlink_putEmptyPacket_L52, if_pos (by rw [nb_le (by omega) (by omega)]; omega)]
      · unfold dn_emp
        rw [← hj']
        exact hw
  | succ e ih =>
    intro m j D hj hm hw
    match m, hm with
    | m + 1, hm =>
      obtain ⟨D1, p1, p2, p3⟩ := rgN_put hw 85 (by simp only [List.length_append, List.length_cons, List.length_replicate]; omega)
      have e2 : (263 :: 255 :: 192 :: 0 :: ((s - 7) / 256) :: ((s - 7) % 256) :: List.replicate j 85) ++ [85] = 263 :: 255 :: 192 :: 0 :: ((s - 7) / 256) :: ((s - 7) % 256) :: List.replicate (j + 1) 85 := by
        rw [List.replicate_succ']
        rfl
      rw [List.append_assoc, e2] at p2
      obtain ⟨D2, q1, q2, q3⟩ := ih m (j + 1) D1 (by omega) (by omega) p2
      refine ⟨D2, ?_, q2, p3.tr q3⟩
      have p1' : f_Ring_put S q 85 D = some D1 := p1
      rw [f_Downlink_putEmptyPacket_L52, if_neg (by rw [nb_le (by omega) (by omega)]; omega), p1']
      simp only [ob_bv]
      have e1 : N32 (6 + j) + (1 : Int32) = N32 (6 + (j + 1)) := nb_add _ 1
      rw [e1]
      exact q1
theorem dnc_emp {S : ob_S} {D : ob_D} {q s : Nat} {L : List Nat} (h : rgN S D q (q + 1) 4096 L) (hr : L.length + s ≤ 4096) (h7 : 7 ≤ s) : ∃ D', f_Downlink_putEmptyPacket S q (N32 s) D = some D' ∧ rgN S D' q (q + 1) 4096 (L ++ dn_emp s) ∧ ob_ag (fun y => y = q ∨ y = q + 1) D D' := by
  obtain ⟨D1, p1, w1, g1⟩ := rgN_put h 263 (by omega)
  obtain ⟨D2, p2, w2, g2⟩ := rgN_put w1 255 (by simp only [List.length_append, List.length_singleton]; omega)
  obtain ⟨D3, p3, w3, g3⟩ := rgN_put w2 192 (by simp only [List.length_append, List.length_singleton]; omega)
  obtain ⟨D4, p4, w4, g4⟩ := rgN_put w3 0 (by simp only [List.length_append, List.length_singleton]; omega)
  obtain ⟨D5, p5, w5, g5⟩ := rgN_put w4 ((s - 7) / 256) (by simp only [List.length_append, List.length_singleton]; omega)
  obtain ⟨D6, p6, w6, g6⟩ := rgN_put w5 ((s - 7) % 256) (by simp only [List.length_append, List.length_singleton]; omega)
  have w6' : rgN S D6 q (q + 1) 4096 (L ++ (263 :: 255 :: 192 :: 0 :: ((s - 7) / 256) :: ((s - 7) % 256) :: List.replicate 0 85)) := by
    simp only [List.append_assoc, List.cons_append, List.nil_append] at w6
    exact w6
  obtain ⟨D7, p7, w7, g7⟩ := dnc_emp_L (S := S) hr h7 (s - 6) ob_FU 0 D6 (by omega) (by rw [ob_FU_eq]; omega) w6'
  refine ⟨D7, ?_, w7, (((((g1.tr g2).tr g3).tr g4).tr g5).tr g6).tr g7⟩
  have q1 : f_Ring_put S q 263 D = some D1 := p1
  have q2 : f_Ring_put S q 255 D1 = some D2 := p2
  have q3 : f_Ring_put S q 192 D2 = some D3 := p3
  have q4 : f_Ring_put S q 0 D3 = some D4 := p4
  have e7 : N32 s - (7 : Int32) = N32 (s - 7) := by rw [show (7 : Int32) = N32 7 from rfl, nb_sub h7]
  have e8 : ((N32 (s - 7)).toUInt32 >>> ((8 : Int32).toUInt32 &&& Int32.toUInt32 31)).toInt32 = N32 ((s - 7) / 256) := n_ushr (s - 7) 8 (by omega) (by decide)
  unfold f_Downlink_putEmptyPacket
  rw [e7, e8, n_255, q1]
  simp only [ob_bv]
  rw [q2]
  simp only [ob_bv]
  rw [q3]
  simp only [ob_bv]
  rw [q4]
  simp only [ob_bv]
  rw [p5]
  simp only [ob_bv]
  rw [p6]
  simp only [ob_bv]
  exact p7
theorem dnc_fill_L {S : ob_S} {a b cap q n : Nat} {h L : List Nat} (hn : n ≤ 250) (hn0 : 0 < n) (hd : a ≠ q ∧ a ≠ q + 1 ∧ b ≠ q ∧ b ≠ q + 1) (hr : h.length + n ≤ cap) (hL : ∀ x ∈ L, x < 512) : ∀ (e m j : Nat) (D : ob_D) (R : List Nat), j + e = n → e < m → rw_at S D a b cap (h ++ ((dn_pad n L).take j).map (fun v => v % 256)) → rgN S D q (q + 1) 4096 R → ((j ≤ L.length ∧ R = L.drop j) ∨ (L.length < j ∧ R = (dn_pad n L).drop j)) → ∃ D', f_Downlink_fill_L17 S m a q (N32 (fst_b ((dn_pad n L).take j) 0)) (N32 (6 + n)) (N32 (6 + j)) D = some (N32 (fst_b ((dn_pad n L).take n) 0), D') ∧ rw_at S D' a b cap (h ++ ((dn_pad n L).take n).map (fun v => v % 256)) ∧ rgN S D' q (q + 1) 4096 ((dn_pad n L).drop n) ∧ ob_ag (fun y => y = a ∨ y = b ∨ y = q ∨ y = q + 1) D D' := by
  have hpl := dn_pad_len (n := n) L
  have hplt := dn_pad_lt hn hL
  intro e
  induction e with
  | zero =>
    intro m j D R hj hm hw hR hi
    match m, hm with
    | m + 1, _ =>
      have hj' : j = n := hj
      subst hj'
      refine ⟨D, ?_, hw, ?_, ob_ag.rf⟩
      · rw [f_Downlink_fill_L17, if_pos (by rw [nb_le (by omega) (by omega)]; exact Nat.le_refl _)]
      · rcases hi with ⟨h1, h2⟩ | ⟨h1, h2⟩
        · have : dn_pad j L = L := by unfold dn_pad; rw [if_neg (by omega)]
          rw [this, ← h2]
          exact hR
        · rw [← h2]
          exact hR
  | succ e ih =>
    intro m j D R hj hm hw hR hi
    match m, hm with
    | m + 1, hm =>
      have hjn : j < n := by omega
      have hlt : j < (dn_pad n L).length := by omega
      have hx : (dn_pad n L).getD j 0 < 512 := by
        rw [List.getD_eq_getElem?_getD, List.getElem?_eq_getElem hlt]
        exact hplt _ (List.getElem_mem hlt)
      have htl : ((dn_pad n L).take j).length = j := by rw [List.length_take]; omega
      have hts := by_take_succ (l := dn_pad n L) (f := 0) (k := j) (by omega)
      rw [List.drop_zero, Nat.zero_add] at hts
      have hle := fst_b_le ((dn_pad n L).take j) 0 (by omega)
      -- one byte
      have hgo : ∀ (D3 : ob_D) (R3 : List Nat), rw_at S D3 a b cap (h ++ ((dn_pad n L).take j).map (fun v => v % 256)) → rgN S D3 q (q + 1) 4096 R3 → R3.getD 0 0 = (dn_pad n L).getD j 0 → ((j + 1 ≤ L.length ∧ R3.drop 1 = L.drop (j + 1)) ∨ (L.length < j + 1 ∧ R3.drop 1 = (dn_pad n L).drop (j + 1))) → ∃ D', f_Downlink_fill_L45 S (fun a0 a1 a2 a3 a4 d => f_Downlink_fill_L17 S m a0 a1 a2 a3 a4 d) a q (N32 (fst_b ((dn_pad n L).take j) 0)) (N32 (6 + n)) (N32 (6 + j)) D3 = some (N32 (fst_b ((dn_pad n L).take n) 0), D') ∧ rw_at S D' a b cap (h ++ ((dn_pad n L).take n).map (fun v => v % 256)) ∧ rgN S D' q (q + 1) 4096 ((dn_pad n L).drop n) ∧ ob_ag (fun y => y = a ∨ y = b ∨ y = q ∨ y = q + 1) D3 D' := by
        intro D3 R3 kw kR kx ki
        obtain ⟨D4, p1, p2, p3⟩ := rgN_take kR
        rw [kx] at p1
        obtain ⟨D5, r1, r2, r3⟩ := rw_add (kw.kept p3 (by omega) (by omega)) (N32 ((dn_pad n L).getD j 0)) (c := 1) (by decide) (by rw [List.length_append, List.length_map, htl]; omega)
        have r1' : f_Row_add S a (N32 ((dn_pad n L).getD j 0)) 1 D4 = some D5 := r1
        rw [by_be_n1] at r2
        have e5 : h ++ ((dn_pad n L).take j).map (fun v => v % 256) ++ [(dn_pad n L).getD j 0 % 256] = h ++ ((dn_pad n L).take (j + 1)).map (fun v => v % 256) := by
          rw [hts, List.map_append, List.append_assoc]
          rfl
        rw [e5] at r2
        obtain ⟨D6, t1, t2, t3, t4⟩ := ih m (j + 1) D5 (R3.drop 1) (by omega) (by omega) r2 (rg_at.kept p2 r3 (by omega) (by omega)) ki
        have hfb := fst_b_app ((dn_pad n L).take j) ((dn_pad n L).getD j 0) 0 (by omega)
        rw [← hts, Nat.zero_add, htl] at hfb
        have e1 : N32 (6 + j) + (1 : Int32) = N32 (6 + (j + 1)) := nb_add _ 1
        have gA : ob_ag (fun y => y = a ∨ y = b ∨ y = q ∨ y = q + 1) D3 D5 := (p3.mono (fun y e => Or.inr (Or.inr (Or.inl e)))).tr (r3.mono (by omega))
        refine ⟨D6, ?_, t2, t3, gA.tr t4⟩
        unfold f_Downlink_fill_L45
        rw [p1]
        simp only [ob_bd]
        rw [show (256 : Int32) = N32 256 from rfl, if_lt (by omega) (by decide), r1']
        simp only [ob_bv]
        rw [e1, show (2047 : Int32) = N32 2047 from rfl, if_en (by omega) (by decide)]
        by_cases hc1 : (dn_pad n L).getD j 0 < 256
        · rw [if_pos hc1]
          have : fst_b ((dn_pad n L).take (j + 1)) 0 = fst_b ((dn_pad n L).take j) 0 := by
            rw [hfb]
            by_cases hc2 : fst_b ((dn_pad n L).take j) 0 = 2047
            · rw [if_pos hc2, if_neg (by omega), hc2]
            · rw [if_neg hc2]
          rw [← this]
          exact t1
        · rw [if_neg hc1]
          by_cases hc2 : fst_b ((dn_pad n L).take j) 0 = 2047
          · rw [if_pos hc2]
            have : fst_b ((dn_pad n L).take (j + 1)) 0 = j := by rw [hfb, if_pos hc2, if_pos (by omega)]
            rw [this] at t1
            rw [show (6 : Int32) = N32 6 from rfl, nb_sub (by omega), Nat.add_sub_cancel_left]
            exact t1
          · rw [if_neg hc2]
            have : fst_b ((dn_pad n L).take (j + 1)) 0 = fst_b ((dn_pad n L).take j) 0 := by rw [hfb, if_neg hc2]
            rw [← this]
            exact t1
      rw [f_Downlink_fill_L17, if_neg (by rw [nb_le (by omega) (by omega)]; omega), hR.len.2.2, show (0 : Int32) = N32 0 from rfl]
      have hRl := hR.len
      rw [if_en (by omega) (by decide)]
      rcases hi with ⟨h1, h2⟩ | ⟨h1, h2⟩
      · by_cases hz : R.length = 0
        · rw [if_pos hz]
          have hjL : j = L.length := by rw [h2, List.length_drop] at hz; omega
          have em : ob_mx (7 : Int32) (N32 (6 + n) - N32 (6 + j)) = N32 (if 7 ≤ n - L.length then n - L.length else 7) := by
            rw [nb_sub (by omega), show 6 + n - (6 + j) = n - L.length by omega]
            unfold ob_mx
            rw [show (7 : Int32) = N32 7 from rfl, if_lt (by decide) (by omega)]
            by_cases h7 : 7 < n - L.length
            · rw [if_pos h7, if_pos (by omega)]
            · rw [if_neg h7]
              by_cases h77 : 7 ≤ n - L.length
              · rw [if_pos h77, show n - L.length = 7 by omega]
              · rw [if_neg h77]
          rw [em]
          have hRn : R = [] := List.length_eq_zero_iff.mp hz
          obtain ⟨D3, p1, p2, p3⟩ := dnc_emp (s := if 7 ≤ n - L.length then n - L.length else 7) hR (by rw [hz]; split <;> omega) (by split <;> omega)
          rw [hRn, List.nil_append] at p2
          have epd : (dn_pad n L).drop j = dn_emp (if 7 ≤ n - L.length then n - L.length else 7) := by
            unfold dn_pad
            rw [if_pos (by omega), hjL, List.drop_left]
          rw [← epd] at p2
          rw [p1]
          simp only [ob_bv]
          obtain ⟨D', t1, t2, t3, t4⟩ := hgo D3 _ (hw.kept p3 (by omega) (by omega)) p2 (by simp only [List.getD_eq_getElem?_getD, List.getElem?_drop]; rfl) (Or.inr ⟨by omega, by rw [List.drop_drop]⟩)
          exact ⟨D', t1, t2, t3, (p3.mono (by omega)).tr t4⟩
        · rw [if_neg hz]
          have hjL : j < L.length := by rw [h2, List.length_drop] at hz; omega
          have eP : (dn_pad n L).getD j 0 = L.getD j 0 := by
            unfold dn_pad
            split
            · rw [app_get_l hjL]
            · rfl
          exact hgo D R hw hR (by rw [eP, h2]; simp only [List.getD_eq_getElem?_getD, List.getElem?_drop]; rfl) (Or.inl ⟨by omega, by rw [h2, List.drop_drop]⟩)
      · have hz : ¬ R.length = 0 := by rw [h2, List.length_drop]; omega
        rw [if_neg hz]
        exact hgo D R hw hR (by rw [h2]; simp only [List.getD_eq_getElem?_getD, List.getElem?_drop]; rfl) (Or.inr ⟨by omega, by rw [h2, List.drop_drop]⟩)
