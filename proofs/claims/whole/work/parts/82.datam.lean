-- ===== the reference: the command's data, its fault, the answers =====
theorem ba_two0 {S : ob_S} {D : ob_D} {a : Nat} {c : List Nat} (hb : ba D a 0 c) (hS : c.length ≤ S.2.1 a) (hn : S.2.1 a ≤ 100000) {i : Nat} (hi : i + 2 ≤ c.length) : f_Model_two S a (N32 i) D = some (N32 (nn c i 2), D) := by
  have := ba_two (S := S) hb (by rw [Nat.zero_add]; exact hS) hn hi
  rw [Nat.zero_add] at this
  exact this
theorem ba_four0 {S : ob_S} {D : ob_D} {a : Nat} {c : List Nat} (hb : ba D a 0 c) (hS : c.length ≤ S.2.1 a) (hn : S.2.1 a ≤ 100000) {i : Nat} (hi : i + 4 ≤ c.length) : f_Model_four S a (N32 i) D = some (N32 (nn c i 4), D) := by
  have := ba_four (S := S) hb (by rw [Nat.zero_add]; exact hS) hn hi
  rw [Nat.zero_add] at this
  exact this
theorem ba_at {D : ob_D} {a : Nat} {c : List Nat} (hb : ba D a 0 c) {i : Nat} (hi : i < c.length) (hi2 : i < 100000) : D.1 a (N32 i).toNatClampNeg &&& (255 : Int32) = N32 (c.getD i 0) := by
  rw [nb_clamp (by omega)]
  have := hb.1 i hi
  rw [Nat.zero_add] at this
  rw [this]
  exact sb_255 (by_getD_lt hb.2 i)
theorem fom {S : ob_S} {D : ob_D} {a f n : Nat} {c : List Nat} (hb : ba D a 0 c) (hS : c.length ≤ S.2.1 a) (hSn : S.2.1 a ≤ 100000) (hf : f + n ≤ c.length) (hc : c.length ≤ 252) : f_Model_faultOf S a (N32 f) (N32 n) D = some (N32 (fo ((c.drop f).take n)), D) := by
  have hpl : ((c.drop f).take n).length = n := by rw [List.length_take, List.length_drop]; omega
  have hbb := hb.2
  unfold f_Model_faultOf fo
  rw [hpl, show (13 : Int32) = N32 13 from rfl, if_lt (by omega) (by decide)]
  by_cases h13 : n < 13
  · rw [if_pos h13, if_pos h13]
    rfl
  have s0 : nn ((c.drop f).take n) 0 2 = nn c f 2 := nn_slice c f n 0 2 (by omega)
  have s4 : nn ((c.drop f).take n) 4 2 = nn c (f + 4) 2 := nn_slice c f n 4 2 (by omega)
  have s7 : nn ((c.drop f).take n) 7 2 = nn c (f + 7) 2 := nn_slice c f n 7 2 (by omega)
  have s2 : ((c.drop f).take n).getD 2 0 = c.getD (f + 2) 0 := gd_slice c (by omega)
  have s6 : ((c.drop f).take n).getD 6 0 = c.getD (f + 6) 0 := gd_slice c (by omega)
  rw [if_neg h13, if_neg h13, s0, s4, s7, s2, s6]
  have i4 : N32 f + (4 : Int32) = N32 (f + 4) := nb_add _ 4
  have i2 : N32 f + (2 : Int32) = N32 (f + 2) := nb_add _ 2
  have i6 : N32 f + (6 : Int32) = N32 (f + 6) := nb_add _ 6
  have i7 : N32 f + (7 : Int32) = N32 (f + 7) := nb_add _ 7
  have i11 : N32 f + (11 : Int32) = N32 (f + 11) := nb_add _ 11
  have b4 := nn_lt hbb (f + 4) 2
  have b0 := nn_lt hbb f 2
  have b7 := nn_lt hbb (f + 7) 2
  have b2 := by_getD_lt hbb (f + 2)
  have b6 := by_getD_lt hbb (f + 6)
  have bf := by_getD_lt hbb f
  have bf1 := by_getD_lt hbb (f + 1)
  have bc : cr_f ((c.drop f).take n) < 65536 := cr_f_lt (fun x hx => hbb x (List.mem_of_mem_drop (List.mem_of_mem_take hx)))
  have e7 : N32 (nn c (f + 4) 2) + (7 : Int32) = N32 (nn c (f + 4) 2 + 7) := nb_add _ 7
  have rc : f_Model_check S a (N32 f) (N32 n) D = some (N32 (cr_f ((c.drop f).take n)), D) := by
    have := ba_check (S := S) hb (f := f) (c := n) (by rw [Nat.zero_add]; exact hS) hSn hf
    rw [Nat.zero_add] at this
    exact this
  have v0 : (D.1 a (N32 f).toNatClampNeg &&& (255 : Int32)) >>> ((3 : Int32) &&& 31) = N32 (c.getD f 0 / 8) := by
    rw [ba_at hb (by omega) (by omega)]
    exact n_shr _ 3 (by omega) (by decide)
  have v2 : (D.1 a (N32 (f + 2)).toNatClampNeg &&& (255 : Int32)) >>> ((6 : Int32) &&& 31) = N32 (c.getD (f + 2) 0 / 64) := by
    rw [ba_at hb (by omega) (by omega)]
    exact n_shr _ 6 (by omega) (by decide)
  have v6 : (D.1 a (N32 (f + 6)).toNatClampNeg &&& (255 : Int32)) >>> ((4 : Int32) &&& 31) = N32 (c.getD (f + 6) 0 / 16) := by
    rw [ba_at hb (by omega) (by omega)]
    exact n_shr _ 4 (by omega) (by decide)
  have h8 : nn c f 2 / 2048 = c.getD f 0 / 8 := by rw [nn_2]; omega
  rw [i4, ba_two0 hb hS hSn (by omega)]
  simp only [ob_bd]
  rw [e7, if_en (by omega) (by omega)]
  by_cases c1 : n = nn c (f + 4) 2 + 7
  case neg => rw [if_neg (fun e => c1 e.symm), if_neg c1]; rfl
  rw [if_pos c1.symm, if_pos c1, rc]
  simp only [ob_bd]
  by_cases c2 : cr_f ((c.drop f).take n) = 0
  case neg => rw [if_neg (by rw [show (0 : Int32) = N32 0 from rfl, nb_eq (by omega) (by decide)]; exact c2), if_neg c2]; rfl
  rw [if_pos (by rw [c2]; rfl), if_pos c2, if_pos (by rw [nb_in (by omega)]; omega), v0, h8]
  by_cases c3 : c.getD f 0 / 8 = 3
  case neg => rw [if_neg (by rw [show (3 : Int32) = N32 3 from rfl, nb_eq (by omega) (by decide)]; exact c3), if_neg c3]; rfl
  rw [if_pos (by rw [c3]; rfl), if_pos c3, i2, if_pos (by rw [nb_in (by omega)]; omega), v2]
  by_cases c4 : c.getD (f + 2) 0 / 64 = 3
  case neg => rw [if_neg (by rw [show (3 : Int32) = N32 3 from rfl, nb_eq (by omega) (by decide)]; exact c4), if_neg c4]; rfl
  rw [if_pos (by rw [c4]; rfl), if_pos c4, ba_two0 hb hS hSn (by omega)]
  simp only [ob_bd]
  rw [n_2047]
  by_cases c5 : nn c f 2 % 2048 = 42
  case neg => rw [if_neg (by rw [show (42 : Int32) = N32 42 from rfl, nb_eq (by omega) (by decide)]; exact c5), if_neg c5]; rfl
  rw [if_pos (by rw [c5]; rfl), if_pos c5, i6, if_pos (by rw [nb_in (by omega)]; omega), v6]
  by_cases c6 : c.getD (f + 6) 0 / 16 = 2
  case neg => rw [if_neg (by rw [show (2 : Int32) = N32 2 from rfl, nb_eq (by omega) (by decide)]; exact c6), if_neg c6]; rfl
  rw [if_pos (by rw [c6]; rfl), if_pos c6, i7, ba_two0 hb hS hSn (by omega)]
  simp only [ob_bd]
  rw [i11, nb_sub (by omega)]
  have hlen : f_Model_lengthFault S (N32 (nn c (f + 7) 2)) a (N32 (f + 11)) (N32 (n - 13)) D = some (N32 (kf (nn c (f + 7) 2) (n - 13) (((c.drop f).take n).getD 13 0)), D) := by
    unfold f_Model_lengthFault
    rw [show (2 : Int32) = N32 2 from rfl, if_le (by omega) (by decide), nb_add]
    by_cases h2 : n - 13 ≤ 2
    · rw [if_pos h2]
      have := kfm_kind (S := S) (D := D) (k := nn c (f + 7) 2) (len := n - 13) (s := 0) b7 (by omega) (by decide)
      rw [kf_s (show n - 13 < 3 by omega) (s' := ((c.drop f).take n).getD 13 0)] at this
      exact this
    · rw [if_neg h2, if_pos (by rw [nb_in (by omega)]; omega), ba_at hb (by omega) (by omega)]
      have := kfm_kind (S := S) (D := D) (k := nn c (f + 7) 2) (len := n - 13) (s := c.getD (f + 13) 0) b7 (by omega) (by have := by_getD_lt hbb (f + 13); omega)
      rw [gd_slice c (show 13 < n by omega)]
      exact this
  rw [hlen]
theorem mW.mA {S : ob_S} {D : ob_D} {M m fr F w pt : Nat} {z : sW} (h : mW S D M m fr F w pt z) : mA S D M := by
  obtain ⟨gt, rc, A, on, ev, lm, ch, frs, rp, cr, fm, me⟩ := z
  exact h.1
theorem wm_data {S : ob_S} {D : ob_D} {M : Nat} {c : List Nat} (hA : mA S D M) (hc : mCm D M c) {i : Nat} (hi : 11 + i < c.length) : f_Model_data S M (N32 i) D = some (N32 (c.getD (11 + i) 0), D) := by
  have a27 : D.2.1 M 27 = M + 7 ∧ S.2.1 (M + 7) = 260 := hA.1 (27, 7, 260) (by decide)
  have hl := hc.2.1
  have e : (11 : Int32) + N32 i = N32 (11 + i) := nb_add 11 i
  unfold f_Model_data
  rw [a27.1, if_pos (by omega), e, a27.2, if_pos (by rw [nb_in (by omega)]; omega), ba_at hc.2.2 hi (by omega)]
theorem wm_data2 {S : ob_S} {D : ob_D} {M : Nat} {c : List Nat} (hA : mA S D M) (hc : mCm D M c) {i : Nat} (hi : 11 + i + 2 ≤ c.length) : f_Model_dataTwo S M (N32 i) D = some (N32 (nn c (11 + i) 2), D) := by
  have a27 : D.2.1 M 27 = M + 7 ∧ S.2.1 (M + 7) = 260 := hA.1 (27, 7, 260) (by decide)
  have hl := hc.2.1
  have e : (11 : Int32) + N32 i = N32 (11 + i) := nb_add 11 i
  unfold f_Model_dataTwo
  rw [a27.1, if_pos (by omega), e, ba_two0 hc.2.2 (by omega) (by omega) hi]
  rfl
theorem wm_data4 {S : ob_S} {D : ob_D} {M : Nat} {c : List Nat} (hA : mA S D M) (hc : mCm D M c) {i : Nat} (hi : 11 + i + 4 ≤ c.length) : f_Model_dataFour S M (N32 i) D = some (N32 (nn c (11 + i) 4), D) := by
  have a27 : D.2.1 M 27 = M + 7 ∧ S.2.1 (M + 7) = 260 := hA.1 (27, 7, 260) (by decide)
  have hl := hc.2.1
  have e : (11 : Int32) + N32 i = N32 (11 + i) := nb_add 11 i
  unfold f_Model_dataFour
  rw [a27.1, if_pos (by omega), e, ba_four0 hc.2.2 (by omega) (by omega) hi]
  rfl
theorem wm_u0 {S : ob_S} {D D' : ob_D} {M m fr F w pt : Nat} {z : sW} (h : mW S D M m fr F w pt z) (g : oi (mPkP M) D D') : mW S D' M m fr F w pt z := by
  obtain ⟨gt, rc, A, on, ev, lm, ch, frs, rp, cr, fm, me⟩ := z
  exact h.u0 (g.mono (fun y k e => by rcases e with e | e <;> omega))
theorem mCm.pk {D D' : ob_D} {M : Nat} {c : List Nat} (h : mCm D M c) (g : oi (mPkP M) D D') : mCm D' M c := h.keep g.up (fun e => by rcases e with e | e <;> omega) (fun k e => by rcases e with e | e <;> omega)
theorem mReg_pk {M : Nat} {D D' : ob_D} (g : oi (mPkP M) D D') : oi (mReg M) D D' := g.mono (fun y k e => by rcases e with e | e <;> exact ⟨by omega, by omega⟩)
theorem wm_say {S : ob_S} {D : ob_D} {M m fr F w pt : Nat} {z : sW} {p c : List Nat} (h : mW S D M m fr F w pt z) (hp : mPk D M p) (hc : mCm D M c) (x : Int32) (hl : p.length + 1 ≤ 512) : ∃ D', f_Model_say S M x D = some D' ∧ mW S D' M m fr F w pt z ∧ mPk D' M (p ++ by_be x 1) ∧ mCm D' M c ∧ oi (mReg M) D D' := by
  obtain ⟨D', t1, t2, t3⟩ := mpk_say h.mA hp x hl
  exact ⟨D', t1, wm_u0 h t3, t2, hc.pk t3, mReg_pk t3⟩
theorem wm_say2 {S : ob_S} {D : ob_D} {M m fr F w pt : Nat} {z : sW} {p c : List Nat} (h : mW S D M m fr F w pt z) (hp : mPk D M p) (hc : mCm D M c) (x : Int32) (hl : p.length + 2 ≤ 512) : ∃ D', f_Model_sayTwo S M x D = some D' ∧ mW S D' M m fr F w pt z ∧ mPk D' M (p ++ by_be x 2) ∧ mCm D' M c ∧ oi (mReg M) D D' := by
  obtain ⟨D', t1, t2, t3⟩ := mpk_two h.mA hp x hl
  exact ⟨D', t1, wm_u0 h t3, t2, hc.pk t3, mReg_pk t3⟩
theorem wm_say4 {S : ob_S} {D : ob_D} {M m fr F w pt : Nat} {z : sW} {p c : List Nat} (h : mW S D M m fr F w pt z) (hp : mPk D M p) (hc : mCm D M c) (x : Int32) (hl : p.length + 4 ≤ 512) : ∃ D', f_Model_sayFour S M x D = some D' ∧ mW S D' M m fr F w pt z ∧ mPk D' M (p ++ by_be x 4) ∧ mCm D' M c ∧ oi (mReg M) D D' := by
  obtain ⟨D', t1, t2, t3⟩ := mpk_four h.mA hp x hl
  exact ⟨D', t1, wm_u0 h t3, t2, hc.pk t3, mReg_pk t3⟩
theorem wm_done {S : ob_S} {D : ob_D} {M m fr F w pt s k : Nat} {z : sW} {body c : List Nat} (h : mW S D M m fr F w pt (w_beg s k z)) (hp : mPk D M (w_hd s k z ++ body)) (hc : mCm D M c) (hs : s < 32) (hl : body.length ≤ 258) : ∃ D', f_Model_made S M D = some D' ∧ mX S D' M m fr F w pt (w_rep w s k body z) c ∧ oi (mReg M) D D' := by
  have h1 := w_snd_hd (w := w) (k := k) (z := z) (body := body) hs
  obtain ⟨D', t1, t2, t3, t4, t5⟩ := wm_send h hp hc h1.1 (by rw [List.length_append, w_hd_len]; omega) h1.2 (by
    obtain ⟨gt, rc, A, on, ev, lm, ch, frs, rp, cr, fm, me⟩ := z
    show N32 cr.2.2.1 = N32 (nn (rp_head s k (N32 cr.2.2.1) rp ++ body) 13 4)
    rw [rp_head_13])
  rw [← w_rep_eq] at t2
  exact ⟨D', t1, ⟨t2, ⟨_, t3⟩, t4⟩, t5⟩
theorem first4_eq {c : List Nat} (hb : ∀ x ∈ c, x < 256) : first4 c = [c.getD 0 0, c.getD 1 0, c.getD 2 0, c.getD 3 0] := by
  have h0 := by_getD_lt hb 0
  have h1 := by_getD_lt hb 1
  have h2 := by_getD_lt hb 2
  have h3 := by_getD_lt hb 3
  unfold first4
  rw [by_be_4, nn_4, nn_2, nn_2]
  have e : ((c.getD 0 0 * 256 + c.getD (0 + 1) 0) * 65536 + (c.getD (0 + 2) 0 * 256 + c.getD (0 + 2 + 1) 0)) = c.getD 0 0 * 16777216 + c.getD 1 0 * 65536 + c.getD 2 0 * 256 + c.getD 3 0 := by
    show (c.getD 0 0 * 256 + c.getD 1 0) * 65536 + (c.getD 2 0 * 256 + c.getD 3 0) = _
    omega
  rw [e]
  generalize c.getD 0 0 = a at *
  generalize c.getD 1 0 = b at *
  generalize c.getD 2 0 = d at *
  generalize c.getD 3 0 = f at *
  unfold by_of
  rw [n_un, Nat.shiftRight_eq_div_pow, Nat.shiftRight_eq_div_pow, Nat.shiftRight_eq_div_pow, Nat.shiftRight_eq_div_pow]
  simp only [Nat.reduceMul, Nat.reducePow]
  congr 1
  · omega
  · congr 1
    · omega
    · congr 1
      · omega
      · congr 1
        omega
theorem wm_first_L {S : ob_S} {M m fr F w pt : Nat} {z : sW} {p c : List Nat} (hp4 : p.length ≤ 100) : ∀ (d n j : Nat) (D : ob_D), j + d = 4 → d < n → mW S D M m fr F w pt z → mPk D M (p ++ ([c.getD 0 0, c.getD 1 0, c.getD 2 0, c.getD 3 0]).take j) → mCm D M c → ∃ D', f_Model_firstFour_L2 S n M (N32 j) D = some D' ∧ mW S D' M m fr F w pt z ∧ mPk D' M (p ++ [c.getD 0 0, c.getD 1 0, c.getD 2 0, c.getD 3 0]) ∧ mCm D' M c ∧ oi (mReg M) D D' := by
  intro d
  induction d with
  | zero =>
    intro n j D hj hn hW hp hc
    match n, hn with
    | n + 1, _ =>
      have hj' : j = 4 := hj
      subst hj'
      refine ⟨D, ?_, hW, hp, hc, oi.rf⟩
      rw [f_Model_firstFour_L2, if_pos (by decide)]
  | succ d ih =>
    intro n j D hj hn hW hp hc
    match n, hn with
    | n + 1, hn =>
      have hA := hW.mA
      have a27 : D.2.1 M 27 = M + 7 ∧ S.2.1 (M + 7) = 260 := hA.1 (27, 7, 260) (by decide)
      have e1 : N32 j + (1 : Int32) = N32 (j + 1) := nb_add _ 1
      have hb := by_getD_lt hc.2.2.2 j
      have hl := hc.2.1
      have hlen : (p ++ ([c.getD 0 0, c.getD 1 0, c.getD 2 0, c.getD 3 0]).take j).length ≤ 200 := by
        rw [List.length_append, List.length_take]
        simp only [List.length_cons, List.length_nil]
        omega
      have htk : ([c.getD 0 0, c.getD 1 0, c.getD 2 0, c.getD 3 0]).take j ++ [c.getD j 0] = ([c.getD 0 0, c.getD 1 0, c.getD 2 0, c.getD 3 0]).take (j + 1) := by
        have h4 : j = 0 ∨ j = 1 ∨ j = 2 ∨ j = 3 := by omega
        rcases h4 with h | h | h | h <;> subst h <;> rfl
      have hgo : ∀ x : Int32, x.toInt8.toInt32 = sb (c.getD j 0) → ∃ D', (ob_bv (f_Model_say S M x D) fun D6 => f_Model_firstFour_L2 S n M (N32 (j + 1)) D6) = some D' ∧ mW S D' M m fr F w pt z ∧ mPk D' M (p ++ [c.getD 0 0, c.getD 1 0, c.getD 2 0, c.getD 3 0]) ∧ mCm D' M c ∧ oi (mReg M) D D' := by
        intro x hx
        obtain ⟨D1, t1, t2, t3⟩ := mpk_one hA hp (by omega) hb hx
        rw [List.append_assoc, htk] at t2
        obtain ⟨D2, u1, u2, u3, u4, u5⟩ := ih n (j + 1) D1 (by omega) (by omega) (wm_u0 hW t3) t2 (hc.pk t3)
        refine ⟨D2, ?_, u2, u3, u4, (mReg_pk t3).tr u5⟩
        rw [t1]
        exact u1
      rw [f_Model_firstFour_L2, if_neg (by rw [show (4 : Int32) = N32 4 from rfl, nb_le (by decide) (by omega)]; omega), hc.1, e1, if_le (by omega) (by omega)]
      by_cases hcl : c.length ≤ j
      · rw [if_pos hcl]
        exact hgo 0 (by rw [show c.getD j 0 = 0 by simp [List.getD_eq_getElem?_getD, hcl]]; rfl)
      · rw [if_neg hcl, a27.1, if_pos (by omega), a27.2, if_pos (by rw [nb_in (by omega)]; omega)]
        exact hgo _ (by
          have := hc.2.2.1 j (by omega)
          rw [Nat.zero_add] at this
          rw [nb_clamp (by omega), this, sb_sb])
theorem wm_verified {S : ob_S} {D : ob_D} {M m fr F w pt k q : Nat} {z : sW} {c : List Nat} (h : mX S D M m fr F w pt z c) (hk : k < 32) (hq : q < 1000) : ∃ D', f_Model_verified S M (N32 k) (N32 q) D = some D' ∧ mX S D' M m fr F w pt (w_rep w 1 k (if q = 0 then first4 c else first4 c ++ by_be (N32 q) 2) z) c ∧ oi (mReg M) D D' := by
  obtain ⟨hW, ⟨p, hp⟩, hc⟩ := h
  obtain ⟨D1, b1, b2, b3, b4, b5⟩ := wm_begin hW hp hc (s := 1) (by decide) hk
  obtain ⟨D3, a1, a2, a3, a4, a5⟩ := wm_first_L (S := S) (p := w_hd 1 k z) (c := c) (by rw [w_hd_len]; decide) 4 ob_FU 0 D1 (by omega) (by rw [ob_FU_eq]; omega) b2 (by rw [List.take_zero, List.append_nil]; exact b3) b4
  have a1' : f_Model_firstFour S M D1 = some D3 := a1
  have b1' : f_Model_report S M 1 (N32 k) D = some D1 := b1
  rw [← first4_eq hc.2.2.2] at a3
  unfold f_Model_verified
  rw [b1']
  simp only [ob_bv]
  rw [a1']
  simp only [ob_bv]
  by_cases h0 : q = 0
  · rw [if_pos h0, if_pos (by rw [h0]; decide)]
    obtain ⟨D', t1, t2, t3⟩ := wm_done a2 a3 a4 (by decide) (by unfold first4; rw [by_be_len]; decide)
    refine ⟨D', ?_, t2, (b5.tr a5).tr t3⟩
    rw [t1]
  · rw [if_neg h0, if_neg (by rw [show (0 : Int32) = N32 0 from rfl, nb_le (by omega) (by decide)]; omega)]
    obtain ⟨D7, e1, e2, e3, e4, e5⟩ := wm_say2 a2 a3 a4 (N32 q) (by unfold first4; rw [List.length_append, w_hd_len, by_be_len]; decide)
    rw [List.append_assoc] at e3
    obtain ⟨D', t1, t2, t3⟩ := wm_done e2 e3 e4 (by decide) (by unfold first4; rw [List.length_append, by_be_len, by_be_len]; decide)
    refine ⟨D', ?_, t2, ((b5.tr a5).tr e5).tr t3⟩
    rw [e1]
    simp only [ob_bv]
    rw [t1]
