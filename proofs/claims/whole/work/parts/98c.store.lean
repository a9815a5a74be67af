-- ===== telling the entries, in the reference =====
theorem mW.tt {S : ob_S} {D : ob_D} {M m fr F w pt : Nat} {z : sW} (h : mW S D M m fr F w pt z) : mTt D M z.2.2.1 z.2.2.2.1 := by
  obtain ⟨gt, rc, A, on, ev, lm, ch, frs, rp, cr, fm, me⟩ := z
  exact h.2.2.2.1
theorem w_beg_tt (s k : Nat) (z : sW) : (w_beg s k z).2.2.1 = z.2.2.1 ∧ (w_beg s k z).2.2.2.1 = z.2.2.2.1 := by
  obtain ⟨gt, rc, A, on, ev, lm, ch, frs, rp, cr, fm, me⟩ := z
  exact ⟨rfl, rfl⟩
theorem wm_tell_L {S : ob_S} {M m fr F w pt q : Nat} {z : sW} {c : List Nat} (hq : q ≤ z.2.2.1.length) (hq2 : q ≤ 32) (hbd : tt_told (tt_sort z.2.2.1) = by_be (N32 q) 1 ++ tt_say ((tt_sort z.2.2.1).take q)) : ∀ (d n j : Nat) (D : ob_D), j + d = q → d < n → mW S D M m fr F w pt (w_beg 11 13 z) → mPk D M (w_hd 11 13 z ++ (by_be (N32 q) 1 ++ tt_say ((tt_sort z.2.2.1).take j))) → mCm D M c → ∃ D', f_Model_actTable_L258 S n M (N32 q) (N32 j) D = some D' ∧ mX S D' M m fr F w pt (w_rep w 11 13 (tt_told (tt_sort z.2.2.1)) z) c ∧ oi (mReg M) D D' := by
  intro d
  induction d with
  | zero =>
    intro n j D hj hn hW hp hc
    match n, hn with
    | n + 1, _ =>
      have hj' : j = q := hj
      rw [hj', ← hbd] at hp
      have hlen : (tt_told (tt_sort z.2.2.1)).length ≤ 193 := by
        unfold tt_told
        rw [List.length_append, by_be_len, tt_say_len, List.length_take]
        omega
      obtain ⟨D', t1, t2, t3⟩ := wm_done hW hp hc (by decide) (by omega)
      refine ⟨D', ?_, t2, t3⟩
      rw [f_Model_actTable_L258, if_pos (by rw [nb_le (by omega) (by omega)]; omega), t1]
      rfl
  | succ d ih =>
    intro n j D hj hn hW hp hc
    match n, hn with
    | n + 1, hn =>
      have hT := hW.tt
      rw [(w_beg_tt 11 13 z).1, (w_beg_tt 11 13 z).2] at hT
      have h64 := hT.2.1
      have hA := hW.mA
      have a42 : D.2.1 M 42 = M + 16 ∧ S.2.1 (M + 16) = 64 := hA.1 (42, 16, 64) (by decide)
      have ej : N32 j + (1 : Int32) = N32 (j + 1) := nb_add _ 1
      obtain ⟨i, hi, hrk, hdue⟩ := ttm_due hA hT (k := j) (by omega)
      have hget := ((tt_rank z.2.2.1).1 i hi).2.1
      rw [hrk] at hget
      have hsl := tt_sort_len z.2.2.1
      have vt : D.1 (M + 16) (N32 i).toNatClampNeg = ((tt_sort z.2.2.1).getD j (0, [])).1 := by rw [nb_clamp (by omega), hget]; exact (hT.2.2.1 i hi).1
      have hlen : (w_hd 11 13 z ++ (by_be (N32 q) 1 ++ tt_say ((tt_sort z.2.2.1).take j))).length = 18 + 6 * j := by
        rw [List.length_append, List.length_append, w_hd_len, by_be_len, tt_say_len, List.length_take]
        omega
      obtain ⟨D15, a1, a2, a3, a4, a5⟩ := wm_say4 hW hp hc ((tt_sort z.2.2.1).getD j (0, [])).1 (by rw [hlen]; omega)
      have hT15 := a2.tt
      rw [(w_beg_tt 11 13 z).1, (w_beg_tt 11 13 z).2] at hT15
      have hno := edm_no a2.mA hT15 hi
      rw [← hget] at hno
      obtain ⟨D20, e1, e2, e3, e4, e5⟩ := wm_say2 a2 a3 a4 (N32 (en_no ((tt_sort z.2.2.1).getD j (0, [])))) (by rw [List.length_append, hlen, by_be_len]; omega)
      have hb2 : w_hd 11 13 z ++ (by_be (N32 q) 1 ++ tt_say ((tt_sort z.2.2.1).take j)) ++ by_be ((tt_sort z.2.2.1).getD j (0, [])).1 4 ++ by_be (N32 (en_no ((tt_sort z.2.2.1).getD j (0, [])))) 2 = w_hd 11 13 z ++ (by_be (N32 q) 1 ++ tt_say ((tt_sort z.2.2.1).take (j + 1))) := by
        rw [en_take (L := tt_sort z.2.2.1) (k := j) (by omega), tt_say_snoc]
        simp only [List.append_assoc]
      rw [hb2] at e3
      obtain ⟨D', t1, t2, t3⟩ := ih n (j + 1) D20 (by omega) (by omega) e2 e3 e4
      refine ⟨D', ?_, t2, (a5.tr e5).tr t3⟩
      rw [f_Model_actTable_L258, if_neg (by rw [nb_le (by omega) (by omega)]; omega), hdue]
      simp only [ob_bd]
      rw [a42.1, if_pos (by omega), a42.2, if_pos (by rw [nb_in (by omega)]; omega), vt, a1]
      simp only [ob_bv]
      rw [hno]
      simp only [ob_bd]
      rw [e1]
      simp only [ob_bv]
      rw [ej]
      exact t1
theorem wm_tell {S : ob_S} {D : ob_D} {M m fr F w pt : Nat} {z : sW} {c : List Nat} (h : mX S D M m fr F w pt z c) : ∃ D', f_Model_actTable S M 17 D = some D' ∧ mX S D' M m fr F w pt (w_rep w 11 13 (tt_told (tt_sort z.2.2.1)) z) c ∧ oi (mReg M) D D' := by
  obtain ⟨hW, ⟨p, hp⟩, hc⟩ := h
  have hT := hW.tt
  have h64 := hT.2.1
  have hsl := tt_sort_len z.2.2.1
  obtain ⟨q, hq⟩ : ∃ q, q = if z.2.2.1.length ≤ 32 then z.2.2.1.length else 32 := ⟨_, rfl⟩
  have hqL : q ≤ z.2.2.1.length ∧ q ≤ 32 := by rw [hq]; split <;> omega
  have hbd : tt_told (tt_sort z.2.2.1) = by_be (N32 q) 1 ++ tt_say ((tt_sort z.2.2.1).take q) := by
    unfold tt_told
    rw [hsl, ← hq]
    congr 2
    rw [hq]
    by_cases hc : z.2.2.1.length ≤ 32
    · rw [if_pos hc, List.take_of_length_le (by omega), List.take_of_length_le (by omega)]
    · rw [if_neg hc]
  obtain ⟨D3, b1, b2, b3, b4, b5⟩ := wm_begin hW hp hc (s := 11) (k := 13) (by decide) (by decide)
  obtain ⟨D5, a1, a2, a3, a4, a5⟩ := wm_say b2 b3 b4 (N32 q) (by rw [w_hd_len]; decide)
  obtain ⟨D', t1, t2, t3⟩ := wm_tell_L (c := c) hqL.1 hqL.2 hbd q ob_FU 0 D5 (by omega) (by rw [ob_FU_eq]; omega) a2 (by rw [List.take_zero, show tt_say [] = [] from rfl, List.append_nil]; exact a3) a4
  have t1' : f_Model_actTable_L258 S ob_FU M (N32 q) 0 D5 = some D' := t1
  have b1' : f_Model_report S M 11 13 D = some D3 := b1
  have h242 : f_Model_actTable_L242 S M (N32 q) D = some D' := by
    unfold f_Model_actTable_L242
    rw [b1']
    simp only [ob_bv]
    rw [a1]
    simp only [ob_bv]
    exact t1'
  refine ⟨D', ?_, t2, (b5.tr a5).tr t3⟩
  unfold f_Model_actTable
  rw [if_neg (by decide), if_neg (by decide), if_neg (by decide), if_neg (by decide), if_neg (by decide), if_neg (by decide), hT.1]
  by_cases h32 : 32 ≤ z.2.2.1.length
  · rw [if_pos (by rw [show (32 : Int32) = N32 32 from rfl, nb_le (by decide) (by omega)]; exact h32)]
    have : q = 32 := by rw [hq]; split <;> omega
    rw [this] at h242
    exact h242
  · rw [if_neg (by rw [show (32 : Int32) = N32 32 from rfl, nb_le (by decide) (by omega)]; exact h32)]
    have : q = z.2.2.1.length := by rw [hq]; split <;> omega
    rw [this] at h242
    exact h242
theorem ttm_all {S : ob_S} {D : ob_D} {M : Nat} {c : List Nat} {A : List sEn} {on : Bool} (hA : mA S D M) (hc : mCm D M c) (hT : mTt D M A on) (hl : 13 ≤ c.length) : ∃ D', f_Model_actTable S M 5 D = some D' ∧ mTt D' M (A.filter (fun e => !(en_no e == nn c 11 2 % 16384))) on ∧ oi (ttmP M) D D' := by
  have h64 := hT.2.1
  have d0 : f_Model_dataTwo S M 0 D = some (N32 (nn c 11 2), D) := wm_data2 hA hc (i := 0) (by omega)
  obtain ⟨D', t1, t2, t3⟩ := edm_all_L (x := nn c 11 2 % 16384) (Nat.mod_lt _ (by decide)) A.length ob_FU D A (Nat.le_refl _) (by rw [ob_FU_eq]; omega) hA hT
  rw [List.take_length, List.drop_length, List.append_nil] at t2
  refine ⟨D', ?_, t2, t3.mono (fun y k e => by omega)⟩
  unfold f_Model_actTable
  rw [if_neg (by decide), if_neg (by decide), if_neg (by decide), if_neg (by decide), if_pos rfl, d0]
  simp only [ob_bd]
  rw [n_16383, hT.1]
  exact t1
-- ===== the store =====
def rp_sto (s : Nat) (b : Bool) : sRp → sRp
  | (st, sd, md, all, lo, rt, fr, tt, rc) => (st, up sd s b, md, all, lo, rt, fr, tt, rc)
def rp_stop : sRp → sRp
  | (st, sd, md, all, lo, rt, fr, tt, rc) => (st, sd, md, all, lo, false, fr, tt, rc)
theorem hc_sto {S : ob_S} {D : ob_D} {B m fr w s : Nat} {rp : sRp} {L : Nat} (h : cHd S D B m fr) (hR : cRp S D (B + 29 + 2 * m + 80 + 2 * fr) L w rp) (hs : s < 32) (b : Bool) : ∃ D', f_Handler_setStored S (B + 29 + 2 * m + 80 + 2 * fr + 9) (N32 s) (bI b) D = some D' ∧ cRp S D' (B + 29 + 2 * m + 80 + 2 * fr) L w (rp_sto s b rp) ∧ oi (fun y k => y = B + 29 + 2 * m + 80 + 2 * fr + 5) D D' := by
  obtain ⟨st, sd, md, all, lo, rt, rfr, rtt, rc⟩ := rp
  obtain ⟨hA, hM, hS, hF⟩ := hR
  have g : oi (fun y k => y = B + 29 + 2 * m + 80 + 2 * fr + 5) D (ob_pI D (B + 29 + 2 * m + 80 + 2 * fr + 5) s (bI b)) := oi.pI rfl
  refine ⟨ob_pI D (B + 29 + 2 * m + 80 + 2 * fr + 5) s (bI b), ?_, ⟨hA.keep g.up (by omega) rfl rfl, ⟨fun t ht => ?_, fun t k ht hk => by rw [g.2 _ _ (by omega)]; exact hM.2 t k ht hk⟩, hS.keep g.up (by omega) (by omega) (by omega) (by omega) rfl, hF.keep g.up (by omega) (by omega) (by omega) (by omega) (by omega)⟩, g⟩
  · unfold f_Handler_setStored
    have e2 : f_Reports_isService S (N32 s) D = some (1, D) := by
      unfold f_Reports_isService
      rw [if_neg (by rw [nb_neg (by omega)]; exact id), if_neg (by rw [show (32 : Int32) = N32 32 from rfl, nb_le (by decide) (by omega)]; omega)]
    rw [e2]
    simp only [ob_bd]
    rw [if_neg (by decide), h.2.2.2.2.1, if_pos (by omega), hA.2.2.2.2.1, if_pos (by omega), hA.2.2.2.2.2.2.1, if_pos (by rw [nb_in (by omega)]; exact hs), nb_clamp (by omega), bI_a1]
    try rfl
  · by_cases hts : t = s
    · rw [hts, pI_self, up_self]
    · rw [pI_ne (by omega), up_ne _ _ hts]; exact hM.1 t ht
theorem rpc_stop {S : ob_S} {D : ob_D} {R L w : Nat} {rp : sRp} (hR : cRp S D R L w rp) : cRp S (ob_pI D R 8 (0 : Int32)) R L w (rp_stop rp) := by
  obtain ⟨st, sd, md, all, lo, rt, rfr, rtt, rc⟩ := rp
  obtain ⟨hA, hM, hS, f1, f2, f3, f4, f5⟩ := hR
  have g : oi (fun y k => y = R ∧ k = 8) D (ob_pI D R 8 (0 : Int32)) := oi.pI ⟨rfl, rfl⟩
  exact ⟨hA.keep g.up (by omega) rfl rfl, hM.keep g.up (by omega) (by omega), hS.keep g.up (by omega) (by omega) (by omega) (by omega) rfl, by rw [g.2 _ _ (by omega)]; exact f1, by rw [g.2 _ _ (by omega)]; exact f2, pI_self, by rw [g.2 _ _ (by omega)]; exact f4, by rw [g.2 _ _ (by omega)]; exact f5⟩
abbrev rpmP (M : Nat) : Nat → Nat → Prop := fun y k => (y = M ∧ (78 ≤ k ∧ k ≤ 83)) ∨ (M + 37 ≤ y ∧ y ≤ M + 40)
theorem wm_sto {S : ob_S} {D : ob_D} {M w : Nat} {c : List Nat} {rp : sRp} (hA : mA S D M) (hc : mCm D M c) (hR : mRp D M w rp) (hl : 14 ≤ c.length) (hs : c.getD 11 0 < 32) (b : Bool) : ∃ D', f_Model_actStore S M (N32 (if b = true then 1 else 2)) D = some D' ∧ mRp D' M w (rp_sto (c.getD 11 0) b rp) ∧ oi (rpmP M) D D' := by
  have a74 : D.2.1 M 74 = M + 37 ∧ S.2.1 (M + 37) = 32 := hA.1 (74, 37, 32) (by decide)
  obtain ⟨st, sd, md, all, lo, rt, rfr, rtt, rc⟩ := rp
  obtain ⟨hM, hS, hF⟩ := hR
  have g : oi (fun y k => y = M + 37) D (ob_pI D (M + 37) (c.getD 11 0) (bI b)) := oi.pI rfl
  have hin : ob_in (N32 (c.getD 11 0)) 32 := by rw [nb_in (by omega)]; exact hs
  refine ⟨ob_pI D (M + 37) (c.getD 11 0) (bI b), ?_, ⟨⟨fun t ht => ?_, fun t k ht hk => by rw [g.2 _ _ (by omega)]; exact hM.2 t k ht hk⟩, hS.keep g.up (by omega) (by omega) (by omega) (by omega) (by omega) (by omega) (by omega), hF.keep g.up (by omega) (by omega) (by omega) (by omega) (by omega)⟩, g.mono (fun y k e => by omega)⟩
  · unfold f_Model_actStore f_Model_actStore_L10
    cases b with
    | true =>
      rw [if_pos (by decide), a74.1, if_pos (by omega), wm_d0 hA hc hl]
      simp only [ob_bd]
      rw [if_pos (by decide), a74.2, if_pos hin, bI_and1, nb_clamp (by omega)]
      try rfl
    | false =>
      rw [if_neg (by decide), if_pos (by decide), a74.1, if_pos (by omega), wm_d0 hA hc hl]
      simp only [ob_bd]
      rw [if_neg (by decide), a74.2, if_pos hin, bI_and0, nb_clamp (by omega)]
      try rfl
  · by_cases hts : t = c.getD 11 0
    · rw [hts, pI_self, up_self]
    · rw [pI_ne (by omega), up_ne _ _ hts]; exact hM.1 t ht
theorem wm_stop {S : ob_S} {D : ob_D} {M w : Nat} {rp : sRp} (hR : mRp D M w rp) : ∃ D', f_Model_actStore S M 12 D = some D' ∧ mRp D' M w (rp_stop rp) ∧ oi (rpmP M) D D' := by
  obtain ⟨st, sd, md, all, lo, rt, rfr, rtt, rc⟩ := rp
  obtain ⟨hM, hS, f1, f2, f3, f4, f5⟩ := hR
  have g : oi (fun y k => y = M ∧ k = 80) D (ob_pI D M 80 (0 : Int32)) := oi.pI ⟨rfl, rfl⟩
  refine ⟨ob_pI D M 80 (0 : Int32), ?_, ⟨hM.keep g.up (by omega) (by omega), hS.keep g.up (by omega) (by omega) (by omega) (by omega) (by omega) (by omega) (by omega), by rw [g.2 _ _ (by omega)]; exact f1, by rw [g.2 _ _ (by omega)]; exact f2, pI_self, by rw [g.2 _ _ (by omega)]; exact f4, by rw [g.2 _ _ (by omega)]; exact f5⟩, g.mono (fun y k e => by omega)⟩
  unfold f_Model_actStore
  rw [if_neg (by decide), if_neg (by decide), if_neg (by decide), if_neg (by decide)]
theorem wm_want {S : ob_S} {D : ob_D} {M w : Nat} {c : List Nat} {rp : sRp} (hA : mA S D M) (hc : mCm D M c) (hR : mRp D M w rp) (hl : 19 ≤ c.length) : ∃ D', f_Model_actStore S M 9 D = some D' ∧ mRp D' M w (rp_want (N32 (nn c 11 4)) (N32 (nn c 15 4)) rp) ∧ oi (rpmP M) D D' := by
  obtain ⟨st, sd, md, all, lo, rt, rfr, rtt, rc⟩ := rp
  obtain ⟨hM, hS, f1, f2, f3, f4, f5⟩ := hR
  obtain ⟨D19, hD19⟩ : ∃ x, x = ob_pI D M 80 (1 : Int32) := ⟨_, rfl⟩
  obtain ⟨D23, hD23⟩ : ∃ x, x = ob_pI D19 M 81 (N32 (nn c 11 4)) := ⟨_, rfl⟩
  obtain ⟨D28, hD28⟩ : ∃ x, x = ob_pI (ob_pI D23 M 82 (N32 (nn c 15 4))) M 83 (0 : Int32) := ⟨_, rfl⟩
  have g19 : oi (fun y k => y = M ∧ 80 ≤ k ∧ k ≤ 83) D D19 := hD19 ▸ oi.pI ⟨rfl, by decide⟩
  have g23 : oi (fun y k => y = M ∧ 80 ≤ k ∧ k ≤ 83) D D23 := g19.tr (hD23 ▸ oi.pI ⟨rfl, by decide⟩)
  have g28 : oi (fun y k => y = M ∧ 80 ≤ k ∧ k ≤ 83) D D28 := g23.tr (hD28 ▸ (oi.pI ⟨rfl, by decide⟩).tr (oi.pI ⟨rfl, by decide⟩))
  have d0 : f_Model_dataFour S M 0 D19 = some (N32 (nn c 11 4), D19) := wm_data4 (hA.kp g19) (hc.keep g19.up (by omega) (by omega)) (i := 0) (by omega)
  have d4 : f_Model_dataFour S M 4 D23 = some (N32 (nn c 15 4), D23) := wm_data4 (hA.kp g23) (hc.keep g23.up (by omega) (by omega)) (i := 4) (by omega)
  obtain ⟨s1, s2, s3, s4, s5, s6, s7, s8, s9, s10⟩ := hS
  refine ⟨D28, ?_, ⟨hM.keep g28.up (by omega) (by omega), ⟨by rw [g28.2 _ _ (by omega)]; exact s1, s2, s3, s4.keep g28.up (fun k _ _ => by omega), fun i hi => by rw [g28.2 _ _ (by omega), g28.2 _ _ (by omega)]; exact s5 i hi, by rw [g28.2 _ _ (by omega)]; exact s6, by rw [g28.2 _ _ (by omega)]; exact s7, by rw [hD28, pI_self]; rfl, Nat.zero_le _, s10⟩, by rw [g28.2 _ _ (by omega)]; exact f1, by rw [g28.2 _ _ (by omega)]; exact f2, ?_, ?_, ?_⟩, g28.mono (fun y k e => by omega)⟩
  · unfold f_Model_actStore
    rw [if_neg (by decide), if_neg (by decide), if_pos rfl]
    simp only [ob_lt]
    rw [← hD19, d0]
    simp only [ob_bd]
    rw [← hD23, d4]
    simp only [ob_bd]
    rw [← hD28]
  · rw [hD28, pI_ne (by omega), pI_ne (by omega), hD23, pI_ne (by omega), hD19, pI_self]; rfl
  · rw [hD28, pI_ne (by omega), pI_ne (by omega), hD23, pI_self]
  · rw [hD28, pI_ne (by omega), pI_self]
theorem wm_upto {S : ob_S} {M w : Nat} {c : List Nat} (hl : 15 ≤ c.length) : ∀ (st : List (List Nat)) (n rc : Nat) (D : ob_D), st.length < n → mA S D M → mCm D M c → mRpS D M w st rc → ∃ D', f_Model_actStore_L76 S n M D = some D' ∧ mRpS D' M w (rp_upto (N32 (nn c 11 4)) st rc).1 (rp_upto (N32 (nn c 11 4)) st rc).2 ∧ oi (rmP M) D D' := by
  intro st
  induction st with
  | nil =>
    intro n rc D hn hA hc hS
    match n, hn with
    | n + 1, _ =>
      refine ⟨D, ?_, hS, oi.rf⟩
      rw [f_Model_actStore_L76, hS.2.2.2.2.2.1, if_pos (by decide)]
  | cons p st ih =>
    intro n rc D hn hA hc hS
    match n, hn with
    | n + 1, hn =>
      have hfew := hS.few
      rw [List.length_cons] at hfew
      have a77 : D.2.1 M 77 = M + 40 ∧ S.2.1 (M + 40) = 900 := hA.1 (77, 40, 900) (by decide)
      have d0 : f_Model_dataFour S M 0 D = some (N32 (nn c 11 4), D) := wm_data4 hA hc (i := 0) (by omega)
      have v : D.1 (M + 40) (0 : Int32).toNatClampNeg = N32 (nn p 13 4) := (hS.2.2.2.2.1 0 (by rw [List.length_cons]; omega)).2
      rw [f_Model_actStore_L76, hS.2.2.2.2.2.1, if_neg (by rw [show (0 : Int32) = N32 0 from rfl, nb_le (by rw [List.length_cons]; omega) (by decide), List.length_cons]; omega), a77.1, if_pos (by omega), a77.2, if_pos (by decide), d0]
      simp only [ob_bd]
      rw [v, rp_upto]
      by_cases hc1 : N32 (nn c 11 4) < N32 (nn p 13 4)
      · rw [if_pos hc1, if_pos hc1]
        exact ⟨D, rfl, hS, oi.rf⟩
      · rw [if_neg hc1, if_neg hc1]
        obtain ⟨D1, p1, p2, p3⟩ := rpm_old hA hS
        obtain ⟨D2, q1, q2, q3⟩ := ih n (rc - 1) D1 (by rw [List.length_cons] at hn; omega) (hA.kp p3) (hc.keep p3.up (by omega) (by omega)) p2
        refine ⟨D2, ?_, q2, p3.tr q3⟩
        rw [p1]
        simp only [ob_bv]
        exact q1
theorem wm_drop {S : ob_S} {D : ob_D} {M w : Nat} {c : List Nat} {rp : sRp} (hA : mA S D M) (hc : mCm D M c) (hR : mRp D M w rp) (hl : 15 ≤ c.length) : ∃ D', f_Model_actStore S M 11 D = some D' ∧ mRp D' M w (rp_drop (N32 (nn c 11 4)) rp) ∧ oi (rpmP M) D D' := by
  obtain ⟨st, sd, md, all, lo, rt, rfr, rtt, rc⟩ := rp
  obtain ⟨hM, hS, hF⟩ := hR
  have hfew := hS.few
  obtain ⟨D', t1, t2, t3⟩ := wm_upto hl st ob_FU rc D (by rw [ob_FU_eq]; omega) hA hc hS
  refine ⟨D', ?_, ⟨hM.keep t3.up (by omega) (by omega), t2, hF.keep t3.up (by omega) (by omega) (by omega) (by omega) (by omega)⟩, t3.mono (fun y k e => by omega)⟩
  unfold f_Model_actStore
  rw [if_neg (by decide), if_neg (by decide), if_neg (by decide), if_pos rfl]
  exact t1
