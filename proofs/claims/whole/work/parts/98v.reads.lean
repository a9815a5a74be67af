-- ===== limit =====
theorem nb_255 {v : Int32} (h0 : ¬ v < 0) (h1 : ¬ 255 < v) : ∃ n, n < 256 ∧ v = N32 n := by
  obtain ⟨n, hn, hv⟩ := nb_of h0
  rw [hv, show (255 : Int32) = N32 255 from rfl, nb_lt (by decide) hn] at h1
  exact ⟨n, by omega, hv⟩
def li_x (v1 v2 : Int32) (lm : List sLm) : Int32 := if v1 < 0 then -1 else if 255 < v1 then -1 else match ky_find (fun f : sLm => f.1) v1.toNatClampNeg lm with | none => -1 | some i => if v2 < 0 then -1 else if v2 ≤ 1 then (match lm[i]? with | none => -1 | some f => if v2 = 0 then bI f.2.1 else f.2.2.1) else -1
theorem kt_out {α : Type} {S : ob_S} {D : ob_D} {a most w : Nat} {key : α → Nat} {line : α → Nat → Int32} {ok : α → Prop} {l : List α} (h : cKt S D a most w key line ok l) (hl : ∀ x, line x 0 = N32 (key x)) (hk : ∀ x, ok x → key x < 256) {v : Int32} (hv : v < 0 ∨ 255 < v) : f_Table_find S a v D = some (-1, D) := by
  have hf : tb_find (l.map line) v = none := by
    unfold tb_find
    rw [List.findIdx?_map, List.findIdx?_eq_none_iff]
    intro x hx
    have hb := hk x (h.2.2 x hx)
    have : ¬ line x 0 = v := by
      intro e
      rw [hl] at e
      rw [← e] at hv
      rcases hv with hv | hv
      · rw [show (0 : Int32) = N32 0 from rfl, nb_lt (by omega) (by decide)] at hv
        omega
      · rw [show (255 : Int32) = N32 255 from rfl, nb_lt (by decide) (by omega)] at hv
        omega
    simpa using this
  rw [tb_find_ok h.1 v, hf]
theorem cf_limit {S : ob_S} {D : ob_D} {B m fr F w pt : Nat} {z : sW} {t : List Nat} (h : cC S D B m fr F w pt z t) (v1 v2 : Int32) : f_Box_limit S B v1 v2 D = some (li_x v1 v2 z.2.2.2.2.2.1, D) := by
  obtain ⟨hB, hw, ⟨c, hY⟩⟩ := h
  have hlm := hY.1.lm
  generalize z.2.2.2.2.2.1 = lm at hlm
  have hkt := cLm_kt.mp hlm
  have hll := (kt_len hkt).2
  have h6 := hB.2.2.2.2.2.2.1
  have hst : ∀ x, f_Table_find S (B + 29 + 2 * m + 71) v1 D = some (x, D) → f_Box_limit S B v1 v2 D = (if x = (-1 : Int32) then some ((-1 : Int32), D) else (if v2 < 0 then some ((-1 : Int32), D) else (if v2 ≤ (1 : Int32) then (if v2 = 0 then ob_bd (f_Table_get S (B + 29 + 2 * m + 71) x (1 : Int32) D) fun x13 D11 => some (x13, D11) else ob_bd (f_Table_get S (B + 29 + 2 * m + 71) x (2 : Int32) D) fun x10 D8 => some (x10, D8)) else some ((-1 : Int32), D)))) := by
    intro x hx
    unfold f_Box_limit
    rw [h6, if_pos (by omega), hx]
    show (if x = (-1 : Int32) then some ((-1 : Int32), D) else (if v2 < 0 then some ((-1 : Int32), D) else (if v2 ≤ (1 : Int32) then if D.2.1 B 6 ≠ 0 then (if v2 = 0 then ob_bd (f_Table_get S (D.2.1 B 6) x (1 : Int32) D) fun x13 D11 => some (x13, D11) else ob_bd (f_Table_get S (D.2.1 B 6) x (2 : Int32) D) fun x10 D8 => some (x10, D8)) else none else some ((-1 : Int32), D)))) = _
    rw [h6, if_pos (show B + 29 + 2 * m + 71 ≠ 0 by omega)]
  unfold li_x
  by_cases h0 : v1 < 0
  · rw [if_pos h0, hst _ (kt_out hkt (fun _ => rfl) (fun x hx => hx.1) (Or.inl h0)), if_pos rfl]
  · rw [if_neg h0]
    by_cases h255 : 255 < v1
    · rw [if_pos h255, hst _ (kt_out hkt (fun _ => rfl) (fun x hx => hx.1) (Or.inr h255)), if_pos rfl]
    · rw [if_neg h255]
      obtain ⟨n, hn, hvn⟩ := nb_255 h0 h255
      have hk : v1.toNatClampNeg = n := by rw [hvn]; exact nb_clamp (by omega)
      have hfd := kt_find hkt (fun _ => rfl) (fun x hx => hx.1) hn
      rw [← hvn] at hfd
      rw [hk, hst _ hfd]
      rcases hf : ky_find (fun f : sLm => f.1) n lm with _ | i
      · rw [if_pos (show ix_v none = -1 from rfl)]
      · obtain ⟨hi, hik⟩ := ky_find_is hf
        have hne : ¬ ix_v (some i) = -1 := by
          intro e
          have e : N32 i = -1 := e
          have e2 : (N32 i).toInt = (-1 : Int32).toInt := by rw [e]
          rw [nb_toInt (by omega)] at e2
          have e3 : (-1 : Int32).toInt = -1 := by decide
          omega
        rw [if_neg hne]
        simp only [List.getElem?_eq_getElem hi]
        by_cases g0 : v2 < 0
        · rw [if_pos g0, if_pos g0]
        · rw [if_neg g0, if_neg g0]
          by_cases g1 : v2 ≤ 1
          · rw [if_pos g1, if_pos g1]
            have v1' : f_Table_get S (B + 29 + 2 * m + 71) (ix_v (some i)) 1 D = some (bI lm[i].2.1, D) := kt_get hkt hi (j := 1) (by decide)
            have v2' : f_Table_get S (B + 29 + 2 * m + 71) (ix_v (some i)) 2 D = some (lm[i].2.2.1, D) := kt_get hkt hi (j := 2) (by decide)
            by_cases g2 : v2 = 0
            · rw [if_pos g2, if_pos g2, v1']
              rfl
            · rw [if_neg g2, if_neg g2, v2']
              rfl
          · rw [if_neg g1, if_neg g1]
theorem mf_limit {S : ob_S} {D : ob_D} {M m fr F w pt : Nat} {z : sW} {t : List Nat} (h : mC S D M m fr F w pt z t) (v1 v2 : Int32) : ∃ D1, f_Model_limit S M v1 v2 D = some (li_x v1 v2 z.2.2.2.2.2.1, D1) ∧ mC S D1 M m fr F w pt z t ∧ og (mAll M) D D1 := by
  obtain ⟨h, g0⟩ := h.five 0
  unfold f_Model_limit li_x
  simp only [ob_lt]
  generalize ob_pI D M 5 0 = D1 at h g0
  refine ⟨D1, ?_, h, g0.up⟩
  obtain ⟨⟨c, hm⟩, ht⟩ := h
  have hA := hm.1.mA
  have hlm := hm.1.lm
  generalize z.2.2.2.2.2.1 = lm at hlm
  have a47 : D1.2.1 M 47 = M + 19 ∧ S.2.1 (M + 19) = 256 := hA.1 (47, 19, 256) (by decide)
  have a48 : D1.2.1 M 48 = M + 20 ∧ S.2.1 (M + 20) = 256 := hA.1 (48, 20, 256) (by decide)
  have a55 : D1.2.1 M 55 = M + 27 ∧ S.2.1 (M + 27) = 256 := hA.1 (55, 27, 256) (by decide)
  by_cases h0 : v1 < 0
  · rw [if_pos h0, if_pos h0]
  · rw [if_neg h0, if_neg h0]
    by_cases h255 : 255 < v1
    · rw [if_pos h255, if_pos h255]
    · rw [if_neg h255, if_neg h255]
      obtain ⟨n, hn, hvn⟩ := nb_255 h0 h255
      have hk : v1.toNatClampNeg = n := by rw [hvn]; exact nb_clamp (by omega)
      have hin : ob_in v1 256 := by rw [hvn, nb_in (by omega)]; exact hn
      have hv := hlm.2.2.2.2.1 v1.toNatClampNeg (by rw [hk]; exact hn)
      rw [a47.1, if_pos (by omega), a47.2, if_pos hin, hv]
      rcases hf : ky_find (fun f : sLm => f.1) v1.toNatClampNeg lm with _ | i
      · rw [if_pos (show bI (none : Option Nat).isSome = 0 from rfl)]
      · obtain ⟨hi, hik⟩ := ky_find_is hf
        have hik : lm[i].1 = v1.toNatClampNeg := hik
        have hmem : lm[i] ∈ lm := List.getElem_mem hi
        obtain ⟨b1, b2, -⟩ := hlm.2.2.2.2.2 _ hmem
        rw [hik] at b1 b2
        rw [if_neg (show ¬ bI (some i).isSome = 0 from (show ¬ (1 : Int32) = 0 by decide))]
        simp only [List.getElem?_eq_getElem hi]
        by_cases g0 : v2 < 0
        · rw [if_pos g0, if_pos g0]
        · rw [if_neg g0, if_neg g0]
          by_cases g1 : v2 ≤ 1
          · rw [if_pos g1, if_pos g1]
            by_cases g2 : v2 = 0
            · rw [if_neg (show ¬ v2 = 1 by rw [g2]; decide), if_pos g2, a48.1, if_pos (by omega), a48.2, if_pos hin, b1]
              cases lm[i].2.1 with
              | false => exact if_pos rfl
              | true => exact if_neg (by decide)
            · have g3 : v2 = 1 := by
                obtain ⟨q, hq, hvq⟩ := nb_of g0
                rw [hvq, show (1 : Int32) = N32 1 from rfl, nb_le hq (by decide)] at g1
                rcases (show q = 0 ∨ q = 1 by omega) with e | e
                · rw [hvq, e] at g2
                  exact absurd rfl g2
                · rw [hvq, e]
                  rfl
              rw [if_pos g3, if_neg g2, a55.1, if_pos (by omega), a55.2, if_pos hin, b2]
          · rw [if_neg g1, if_neg g1]
-- ===== state =====
def st_x (v : Int32) : sW → Int32
  | (_, rc, _, _, ev, _, ch, _, rp, cr, _, _) => if v = 0 then N32 ch.2.1.length else if v = 1 then al_v cr.2.2.2.1 else if v = 2 then bI rp.2.2.2.2.2.1 else if v = 3 then N32 (tot rp.1) else if v = 4 then N32 ev.1.length else if v = 5 then bI rc.1 else -1
theorem bI_if (b : Bool) {α : Type} (x : α) : (if bI b = 0 then some ((0 : Int32), x) else some ((1 : Int32), x)) = some (bI b, x) := by
  cases b with
  | false => exact if_pos rfl
  | true => exact if_neg (by decide)
theorem cf_state {S : ob_S} {D : ob_D} {B m fr F w pt : Nat} {z : sW} {t : List Nat} (h : cC S D B m fr F w pt z t) (v : Int32) : f_Box_state S B v D = some (st_x v z, D) := by
  obtain ⟨hB, hw, ⟨c, hY⟩⟩ := h
  obtain ⟨gt, rc, A, on, ⟨rs, sl, ha, ao, ac, lo⟩, lm, ⟨lv, rv, so, al'⟩, frs, ⟨st, sd, md, all, lo', rt, fr', tt, rcx⟩, ⟨wi, mo, ck, al, hd, fa, br⟩, fm, me⟩ := z
  have hDn := hY.1.2.2.2.2.2.1
  have hRp := hY.1.2.2.2.2.2.2.1
  have hEv := hY.1.2.2.2.1
  have hF := hY.1.2.2.2.2.2.2.2.2.1
  have hRc : cRc S D (B + 5) rc := hY.1.2.1
  unfold f_Box_state
  rw [st_x]
  by_cases h0 : v = 0
  · rw [if_pos h0, if_pos h0]
    have e1 : D.2.1 (B + 29 + 2 * m + 73) 1 = B + 29 + 2 * m + 76 := hDn.1.2.1
    have e2 : D.1 (B + 29 + 2 * m + 76) 2 = N32 rv.length := (rgN.len hDn.2.1.2.1).2.2
    rw [hB.2.2.2.2.2.2.2.1, if_pos (by omega), e1, if_pos (by omega), e2]
  rw [if_neg h0, if_neg h0]
  by_cases h1 : v = 1
  · rw [if_pos h1, if_pos h1, hB.2.2.2.2.2.2.2.2.2.1, if_pos (by omega), hF.2.2.2.2.1]
  rw [if_neg h1, if_neg h1]
  by_cases h2 : v = 2
  · have e : D.1 (B + 29 + 2 * m + 80 + 2 * fr) 8 = bI rt := hRp.2.2.2.2.2.1
    rw [if_pos h2, if_pos h2, hB.2.2.2.2.2.2.2.2.1, if_pos (by omega), e, bI_if]
  rw [if_neg h2, if_neg h2]
  by_cases h3 : v = 3
  · have e1 : D.2.1 (B + 29 + 2 * m + 80 + 2 * fr) 1 = B + 29 + 2 * m + 80 + 2 * fr + 1 := hRp.1.2.2.1
    have e2 := (rgN.len hRp.2.2.1.1).2.2
    rw [rgs_len] at e2
    rw [if_pos h3, if_pos h3, hB.2.2.2.2.2.2.2.2.1, if_pos (by omega), e1, if_pos (by omega), e2]
  rw [if_neg h3, if_neg h3]
  by_cases h4 : v = 4
  · have e1 : D.2.1 (B + 29 + 2 * m) 0 = B + 29 + 2 * m + 1 := hEv.1.1
    have e2 : D.1 (B + 29 + 2 * m + 1) 2 = N32 (ev_fl rs).length := hEv.2.1.1.2.2.2.2.2.2.2.1
    have e3 := hEv.2.1.2.1
    rw [if_pos h4, if_pos h4, hB.2.2.2.2.2.1, if_pos (by omega)]
    unfold f_Events_raisedCount
    rw [e1, if_pos (by omega), e2, ev_fl_len, show (2 : Int32) = N32 2 from rfl, n_div _ _ (by omega) (by decide), show 2 * rs.length / 2 = rs.length by omega]
    rfl
  rw [if_neg h4, if_neg h4]
  by_cases h5 : v = 5
  · have e : D.1 (B + 5) 1 = bI rc.1 := by
      obtain ⟨col, win, bits, blk, cand, pr⟩ := rc
      cases col with
      | false => exact hRc.2.2.1
      | true => exact hRc.1.2.2.1
    rw [if_pos h5, if_pos h5, hB.2.2.1, if_pos (by omega), e, bI_if]
  rw [if_neg h5, if_neg h5]
theorem mf_state {S : ob_S} {D : ob_D} {M m fr F w pt : Nat} {z : sW} {t : List Nat} (h : mC S D M m fr F w pt z t) (v : Int32) : ∃ D1, f_Model_state S M v D = some (st_x v z, D1) ∧ mC S D1 M m fr F w pt z t ∧ og (mAll M) D D1 := by
  obtain ⟨h, g0⟩ := h.five 0
  unfold f_Model_state
  simp only [ob_lt]
  generalize ob_pI D M 5 0 = D1 at h g0
  refine ⟨D1, ?_, h, g0.up⟩
  obtain ⟨⟨c, hm⟩, ht⟩ := h
  obtain ⟨gt, rc, A, on, ⟨rs, sl, ha, ao, ac, lo⟩, lm, ⟨lv, rv, so, al'⟩, frs, ⟨st, sd, md, all, lo', rt, fr', tt, rcx⟩, ⟨wi, mo, ck, al, hd, fa, br⟩, fm, me⟩ := z
  have hA := hm.1.mA
  have hDn := hm.1.2.2.2.2.2.2.1.1
  have hRp := hm.1.2.2.2.2.2.2.2.2.1
  have hEv := hm.1.2.2.2.2.1
  have hF := hm.1.2.2.2.2.2.2.2.2.2.1
  have hRc : mRc S D1 M rc := hm.1.2.2.1
  have a86 : D1.2.1 M 86 = M + 47 ∧ S.2.1 (M + 47) = 2 := hA.1 (86, 47, 2) (by decide)
  rw [st_x]
  by_cases h0 : v = 0
  · have e : D1.1 (M + 47) 1 = N32 rv.length := hDn.2.1.1
    rw [if_pos h0, if_pos h0, a86.1, if_pos (by omega), a86.2, if_pos (by decide), show (1 : Int32).toNatClampNeg = 1 by decide, e]
  rw [if_neg h0, if_neg h0]
  by_cases h1 : v = 1
  · have e59 : D1.1 M 59 = bI al.isSome := hF.2.2.2.2.1
    rw [if_pos h1, if_pos h1, e59]
    cases al with
    | none => exact if_pos rfl
    | some a =>
      rw [if_neg (show ¬ bI (some a).isSome = 0 from (show ¬ (1 : Int32) = 0 by decide)), (hF.2.2.2.2.2.1 a rfl).1]
      rfl
  rw [if_neg h1, if_neg h1]
  by_cases h2 : v = 2
  · have e : D1.1 M 80 = bI rt := hRp.2.2.2.2.1
    rw [if_pos h2, if_pos h2, e, bI_if]
  rw [if_neg h2, if_neg h2]
  by_cases h3 : v = 3
  · have e : D1.1 M 79 = N32 (tot st) := hRp.2.1.2.2.2.2.2.2.1
    rw [if_pos h3, if_pos h3, e]
  rw [if_neg h3, if_neg h3]
  by_cases h4 : v = 4
  · have e : D1.1 M 67 = N32 rs.length := hEv.1.1
    rw [if_pos h4, if_pos h4, e]
  rw [if_neg h4, if_neg h4]
  by_cases h5 : v = 5
  · have e : D1.1 M 8 = bI rc.1 := by
      obtain ⟨col, win, bits, blk, cand, pr⟩ := rc
      cases col with
      | false => exact hRc.2.1
      | true => exact hRc.2.1
    rw [if_pos h5, if_pos h5, e, bI_if]
  rw [if_neg h5, if_neg h5]
-- ===== value =====
theorem cf_value {S : ob_S} {D : ob_D} {B m fr F w pt : Nat} {z : sW} {t : List Nat} (h : cC S D B m fr F w pt z t) (v : Int32) : (∃ p, p < 32 ∧ v = N32 p ∧ th_Box_value S B v D = none ∧ f_Box_value S B v D = some (w_par p z, D)) ∨ ((v < 0 ∨ ¬ v < 32) ∧ th_Box_value S B v D = some ()) := by
  obtain ⟨hB, hw, ⟨c, hY⟩⟩ := h
  unfold th_Box_value f_Box_value
  by_cases h0 : v < 0
  · exact Or.inr ⟨Or.inl h0, by rw [if_pos h0]⟩
  · by_cases h1 : v < 32
    · obtain ⟨n, hn, hvn⟩ := nb_of h0
      have hp : n < 32 := by
        rw [hvn, show (32 : Int32) = N32 32 from rfl, nb_lt hn (by decide)] at h1
        exact h1
      refine Or.inl ⟨n, hp, hvn, ?_, ?_⟩
      · rw [if_neg h0, if_pos h1, ite_self]
      · rw [if_neg h0, if_pos h1, hB.2.2.2.2.2.2.2.2.2.1, if_pos (by omega), hvn, wc_par hY.1 hp]
        rfl
    · exact Or.inr ⟨Or.inr h1, by rw [if_neg h0, if_neg h1]⟩
theorem mf_value {S : ob_S} {D : ob_D} {M m fr F w pt : Nat} {z : sW} {t : List Nat} (h : mC S D M m fr F w pt z t) (v : Int32) : (∀ p, p < 32 → v = N32 p → f_Model_value S M v D = some (w_par p z, ob_pI D M 5 0)) ∧ ((v < 0 ∨ ¬ v < 32) → f_Model_value S M v D = some (0, ob_pI D M 5 1)) := by
  have e7 : (v ≤ (31 : Int32)) = (v < (32 : Int32)) := by
    rw [Int32.le_iff_toInt_le, Int32.lt_iff_toInt_lt, show (31 : Int32).toInt = 31 by decide, show (32 : Int32).toInt = 32 by decide]
    exact propext ⟨fun e => by omega, fun e => by omega⟩
  unfold f_Model_value
  simp only [e7]
  constructor
  · intro p hp hv
    obtain ⟨h, -⟩ := h.five 0
    have h0 : ¬ v < 0 := by rw [hv, show (0 : Int32) = N32 0 from rfl, nb_lt (by omega) (by decide)]; omega
    have h1 : v < 32 := by rw [hv, show (32 : Int32) = N32 32 from rfl, nb_lt (by omega) (by decide)]; exact hp
    rw [if_neg h0, if_pos h1, f_Model_value_L16]
    simp only [ob_lt]
    rw [if_pos pI_self]
    obtain ⟨⟨c, hm⟩, ht⟩ := h
    rw [hv, wm_par hm.1 hp]
    rfl
  · intro hb
    have hL : f_Model_value_L16 S M v 1 M D = some (0, ob_pI D M 5 1) := by
      rw [f_Model_value_L16]
      simp only [ob_lt]
      rw [if_neg (by rw [pI_self]; decide)]
    by_cases h0 : v < 0
    · rw [if_pos h0, hL]
    · rcases hb with hb | hb
      · exact absurd hb h0
      · rw [if_neg h0, if_neg hb, hL]
-- ===== down =====
def dn_bad (v1 v2 : Int32) (n F : Nat) : Prop := v1 < 0 ∨ N32 n ≤ v1 ∨ v2 < 0 ∨ ¬ v2 < N32 F
theorem cf_down {S : ob_S} {D : ob_D} {B m fr F w pt : Nat} {z : sW} {t : List Nat} (h : cC S D B m fr F w pt z t) (v1 v2 : Int32) : (∃ i j, i < z.2.2.2.2.2.2.2.1.length ∧ j < F ∧ v1 = N32 i ∧ v2 = N32 j ∧ th_Box_down S B v1 v2 D = none ∧ f_Box_down S B v1 v2 D = some (N32 ((z.2.2.2.2.2.2.2.1.getD i []).getD j 0), D)) ∨ (dn_bad v1 v2 z.2.2.2.2.2.2.2.1.length F ∧ th_Box_down S B v1 v2 D = some ()) := by
  obtain ⟨hB, hw, ⟨c, hY⟩⟩ := h
  obtain ⟨gt, rc, A, on, ev, lm, ch, frs, rp, cr, fm, me⟩ := z
  show (∃ i j, i < frs.length ∧ j < F ∧ v1 = N32 i ∧ v2 = N32 j ∧ th_Box_down S B v1 v2 D = none ∧ f_Box_down S B v1 v2 D = some (N32 ((frs.getD i []).getD j 0), D)) ∨ (dn_bad v1 v2 frs.length F ∧ th_Box_down S B v1 v2 D = some ())
  have hDn := hY.1.2.2.2.2.2.1
  have e6 : D.1 (B + 29 + 2 * m + 73) 6 = N32 frs.length := hDn.2.2.2
  have e3 : D.1 (B + 29 + 2 * m + 73) 3 = N32 F := hDn.1.2.2.2.2.2.2.2.1
  have e2 : D.2.1 (B + 29 + 2 * m + 73) 2 = B + 29 + 2 * m + 79 := hDn.1.2.2.1
  have s2 : S.2.1 (B + 29 + 2 * m + 79) = fr := hDn.1.2.2.2.2.2.1
  have hfr := hDn.1.2.2.2.2.2.2.2.2.2.2.2
  have hF2 := hDn.1.2.2.2.2.2.2.2.2.2.1
  obtain ⟨rows, -, hfl, -⟩ := hDn.2.2.1
  unfold th_Box_down f_Box_down dn_bad
  rw [hB.2.2.2.2.2.2.2.1, e6, e3, e2]
  by_cases h0 : v1 < 0
  · exact Or.inr ⟨Or.inl h0, by rw [if_pos h0]⟩
  · by_cases h1 : N32 frs.length ≤ v1
    · exact Or.inr ⟨Or.inr (Or.inl h1), by rw [if_neg h0, if_pos (by omega), if_pos h1]⟩
    · by_cases h2 : v2 < 0
      · exact Or.inr ⟨Or.inr (Or.inr (Or.inl h2)), by rw [if_neg h0, if_pos (by omega), if_neg h1, if_pos h2]⟩
      · by_cases h3 : v2 < N32 F
        · obtain ⟨i, hi, hvi⟩ := nb_of h0
          obtain ⟨j, hj, hvj⟩ := nb_of h2
          have hi2 : i < frs.length := by
            rw [hvi, nb_le (by omega) hi] at h1
            omega
          have hj2 : j < F := by
            rw [hvj, nb_lt hj (by omega)] at h3
            exact h3
          have hki : v1.toNatClampNeg = i := by rw [hvi]; exact nb_clamp hi
          have hin : ob_in v1 fr := by rw [hvi, nb_in hi]; omega
          have hrow : D.2.1 (B + 29 + 2 * m + 79) i = B + 29 + 2 * m + 73 + 7 + 2 * i := hDn.1.2.2.2.2.2.2.1 i (by omega)
          refine Or.inl ⟨i, j, hi2, hj2, hvi, hvj, ?_, ?_⟩
          · rw [if_neg h0, if_pos (by omega), if_neg h1, if_neg h2, if_pos (by omega), if_pos h3, if_pos (by omega), ite_self]
          · rw [if_neg h0, if_pos (by omega), if_neg h1, if_neg h2, if_pos (by omega), if_pos h3, if_pos (by omega), if_pos (by omega), s2, if_pos hin, hki, hrow, if_pos (by omega), hvj]
            have := dnc_down hDn hi2 hj2
            have e : f_Row_number S (B + 29 + 2 * m + 73 + 7 + 2 * i) (N32 j) 1 D = some (N32 ((frs.getD i []).getD j 0), D) := this
            rw [e]
            rfl
        · exact Or.inr ⟨Or.inr (Or.inr (Or.inr h3)), by rw [if_neg h0, if_pos (by omega), if_neg h1, if_neg h2, if_pos (by omega), if_neg h3]⟩
theorem mf_down {S : ob_S} {D : ob_D} {M m fr F w pt : Nat} {z : sW} {t : List Nat} (h : mC S D M m fr F w pt z t) (hF2 : F ≤ 256) (v1 v2 : Int32) : (∀ i j, i < z.2.2.2.2.2.2.2.1.length → j < F → v1 = N32 i → v2 = N32 j → f_Model_down S M v1 v2 D = some (N32 ((z.2.2.2.2.2.2.2.1.getD i []).getD j 0), ob_pI D M 5 0)) ∧ (dn_bad v1 v2 z.2.2.2.2.2.2.2.1.length F → f_Model_down S M v1 v2 D = some (0, ob_pI D M 5 1)) := by
  obtain ⟨⟨c, hm⟩, ht⟩ := h
  obtain ⟨gt, rc, A, on, ev, lm, ch, frs, rp, cr, fm, me⟩ := z
  show (∀ i j, i < frs.length → j < F → v1 = N32 i → v2 = N32 j → f_Model_down S M v1 v2 D = some (N32 ((frs.getD i []).getD j 0), ob_pI D M 5 0)) ∧ (dn_bad v1 v2 frs.length F → f_Model_down S M v1 v2 D = some (0, ob_pI D M 5 1))
  have hR := hm.1.2.2.2.2.2.2.2.1
  have h13 := hm.1.2.2.2.2.2.2.2.2.2.2.2.2
  have hl4 := hR.1
  have a87 : D.2.1 M 87 = M + 48 ∧ S.2.1 (M + 48) = 1024 := hm.1.1.1 (87, 48, 1024) (by decide)
  unfold f_Model_down dn_bad
  rw [h13.2.2.2, h13.2.1]
  constructor
  · intro i j hi hj hvi hvj
    have h0 : ¬ v1 < 0 := by rw [hvi, show (0 : Int32) = N32 0 from rfl, nb_lt (by omega) (by decide)]; omega
    have h1 : ¬ N32 frs.length ≤ v1 := by rw [hvi, nb_le (by omega) (by omega)]; omega
    have h2 : ¬ v2 < 0 := by rw [hvj, show (0 : Int32) = N32 0 from rfl, nb_lt (by omega) (by decide)]; omega
    have h3 : v2 < N32 F := by rw [hvj, nb_lt (by omega) (by omega)]; exact hj
    have ea : (256 : Int32) * v1 + v2 = N32 (256 * i + j) := by rw [hvi, hvj, show (256 : Int32) = N32 256 from rfl, nb_mul, nb_add]
    obtain ⟨hba, hlen⟩ := hR.2 i hi
    have hb := hba.1 j (by omega)
    rw [if_neg h0, if_neg h1, if_neg h2, if_pos h3, f_Model_down_L30]
    simp only [ob_lt]
    rw [if_pos pI_self, ea]
    show (if D.2.1 M 87 ≠ 0 then if ob_in (N32 (256 * i + j)) (S.2.1 (D.2.1 M 87)) then some ((ob_pI D M 5 0).1 (D.2.1 M 87) (N32 (256 * i + j)).toNatClampNeg &&& (255 : Int32), ob_pI D M 5 0) else none else none) = _
    rw [a87.1, if_pos (by omega), a87.2, if_pos (by rw [nb_in (by omega)]; omega), nb_clamp (by omega), pI_ne (by omega), hb, sb_255 (by_getD_lt hba.2 j)]
  · intro hb
    have hL : f_Model_down_L30 S M v1 v2 1 M D = some (0, ob_pI D M 5 1) := by
      rw [f_Model_down_L30]
      simp only [ob_lt]
      rw [if_neg (by rw [pI_self]; decide)]
    by_cases h0 : v1 < 0
    · rw [if_pos h0, hL]
    rw [if_neg h0]
    by_cases h1 : N32 frs.length ≤ v1
    · rw [if_pos h1, hL]
    rw [if_neg h1]
    by_cases h2 : v2 < 0
    · rw [if_pos h2, hL]
    rw [if_neg h2]
    rcases hb with hb | hb | hb | hb
    · exact absurd hb h0
    · exact absurd hb h1
    · exact absurd hb h2
    · rw [if_neg hb, hL]
-- ===== entry =====
def en_bad (v1 v2 : Int32) (n : Nat) : Prop := v1 < 0 ∨ N32 n ≤ v1 ∨ v2 < 0 ∨ ¬ v2 ≤ 2
def en_v (v2 : Int32) (e : sEn) : Int32 := if v2 = 0 then e.1 else if v2 = 1 then N32 (en_no e) else N32 (nn e.2 7 2)
theorem cf_entry {S : ob_S} {D : ob_D} {B m fr F w pt : Nat} {z : sW} {t : List Nat} (h : cC S D B m fr F w pt z t) (v1 v2 : Int32) : (∃ i, i < z.2.2.1.length ∧ v1 = N32 i ∧ (¬ v2 < 0 ∧ v2 ≤ 2) ∧ th_Box_entry S B v1 v2 D = none ∧ f_Box_entry S B v1 v2 D = some (en_v v2 ((tt_sort z.2.2.1).getD i (0, [])), D)) ∨ (en_bad v1 v2 z.2.2.1.length ∧ th_Box_entry S B v1 v2 D = some ()) := by
  obtain ⟨hB, hw, ⟨c, hY⟩⟩ := h
  obtain ⟨gt, rc, A, on, ev, lm, ch, frs, rp, cr, fm, me⟩ := z
  show (∃ i, i < A.length ∧ v1 = N32 i ∧ (¬ v2 < 0 ∧ v2 ≤ 2) ∧ th_Box_entry S B v1 v2 D = none ∧ f_Box_entry S B v1 v2 D = some (en_v v2 ((tt_sort A).getD i (0, [])), D)) ∨ (en_bad v1 v2 A.length ∧ th_Box_entry S B v1 v2 D = some ())
  have hT : cTt S D (B + 26) m (tt_sort A) on := hY.1.2.2.1
  have hls := tt_sort_len A
  have e2 : D.1 (B + 26) 2 = N32 A.length := by rw [← hls]; exact hT.2.2.1
  have hlm : A.length ≤ m := by rw [← hls]; exact hT.2.2.2.1
  have hm64 := hT.1.2.2.2.2.2
  unfold th_Box_entry f_Box_entry en_bad
  rw [hB.2.2.2.2.1, e2]
  by_cases h0 : v1 < 0
  · exact Or.inr ⟨Or.inl h0, by rw [if_pos h0]⟩
  · by_cases h1 : N32 A.length ≤ v1
    · exact Or.inr ⟨Or.inr (Or.inl h1), by rw [if_neg h0, if_pos (by omega), if_pos h1]⟩
    · by_cases h2 : v2 < 0
      · exact Or.inr ⟨Or.inr (Or.inr (Or.inl h2)), by rw [if_neg h0, if_pos (by omega), if_neg h1, if_pos h2]⟩
      · by_cases h3 : v2 ≤ 2
        · obtain ⟨i, hi, hvi⟩ := nb_of h0
          have hi2 : i < A.length := by
            rw [hvi, nb_le (by omega) hi] at h1
            omega
          have hki : v1.toNatClampNeg = i := by rw [hvi]; exact nb_clamp hi
          have hin : ob_in v1 m := by rw [hvi, nb_in hi]; omega
          have hno := ttc_no hT (i := i) (by omega)
          refine Or.inl ⟨i, hi2, hvi, ⟨h2, h3⟩, by rw [if_neg h0, if_pos (by omega), if_neg h1, if_neg h2, if_pos h3], ?_⟩
          obtain ⟨⟨a1, a2, a3, a4, a5, a6⟩, ⟨r, rows, r1, r2, r3, r4, r5⟩, -⟩ := hT
          have hri := r1 i (by omega)
          rw [if_neg h0, if_pos (by omega), if_neg h1, if_neg h2, if_pos h3]
          unfold en_v
          by_cases g0 : v2 = 0
          · rw [if_pos g0, if_pos g0, if_pos (by omega), a1, if_pos (by omega), a3, if_pos hin, hki, (r5 i (by omega)).1]
          · rw [if_neg g0, if_neg g0]
            by_cases g1 : v2 = 1
            · rw [if_pos g1, if_pos g1, if_pos (by omega), hvi, hno]
              rfl
            · have e : f_Row_number S (B + 26 + 3 + 2 * r i) 7 2 D = _ := rw_num (r4 _ hri) (f := 7) (c := 2) (by decide) (by decide)
              rw [if_neg g1, if_neg g1, if_pos (by omega), a2, if_pos (by omega), a4, if_pos hin, hki, r3 i (by omega), if_pos (by omega), e, (r5 i (by omega)).2]
              rfl
        · exact Or.inr ⟨Or.inr (Or.inr (Or.inr h3)), by rw [if_neg h0, if_pos (by omega), if_neg h1, if_neg h2, if_neg h3]⟩
theorem mf_entry {S : ob_S} {D : ob_D} {M m fr F w pt : Nat} {z : sW} {t : List Nat} (h : mC S D M m fr F w pt z t) (v1 v2 : Int32) : (∀ i, i < z.2.2.1.length → v1 = N32 i → (¬ v2 < 0 ∧ v2 ≤ 2) → f_Model_entry S M v1 v2 D = some (en_v v2 ((tt_sort z.2.2.1).getD i (0, [])), ob_pI D M 5 0)) ∧ (en_bad v1 v2 z.2.2.1.length → f_Model_entry S M v1 v2 D = some (0, ob_pI D M 5 1)) := by
  have h5 := (h.five 0).1
  obtain ⟨⟨c0, hm0⟩, -⟩ := h
  obtain ⟨⟨c, hm⟩, ht⟩ := h5
  obtain ⟨gt, rc, A, on, ev, lm, ch, frs, rp, cr, fm, me⟩ := z
  show (∀ i, i < A.length → v1 = N32 i → (¬ v2 < 0 ∧ v2 ≤ 2) → f_Model_entry S M v1 v2 D = some (en_v v2 ((tt_sort A).getD i (0, [])), ob_pI D M 5 0)) ∧ (en_bad v1 v2 A.length → f_Model_entry S M v1 v2 D = some (0, ob_pI D M 5 1))
  have hT0 : mTt D M A on := hm0.1.2.2.2.1
  have hT : mTt (ob_pI D M 5 0) M A on := hm.1.2.2.2.1
  have hA := hm.1.1
  have hl64 := hT.2.1
  unfold f_Model_entry en_bad
  rw [hT0.1]
  constructor
  · intro k hk hvk ⟨h2, h3⟩
    have h0 : ¬ v1 < 0 := by rw [hvk, show (0 : Int32) = N32 0 from rfl, nb_lt (by omega) (by decide)]; omega
    have h1 : ¬ N32 A.length ≤ v1 := by rw [hvk, nb_le (by omega) (by omega)]; omega
    obtain ⟨i, hi, hrk, hdue⟩ := ttm_due hA hT hk
    have hso := ((tt_rank A).1 i hi).2.1
    rw [hrk] at hso
    rw [if_neg h0, if_neg h1, if_neg h2, if_pos h3, f_Model_entry_L27]
    simp only [ob_lt]
    rw [if_pos pI_self, hvk, hdue]
    simp only [ob_bd]
    rw [hso]
    generalize ob_pI D M 5 0 = D1 at hT hA hdue hm
    have a42 : D1.2.1 M 42 = M + 16 ∧ S.2.1 (M + 16) = 64 := hA.1 (42, 16, 64) (by decide)
    have a44 : D1.2.1 M 44 = M + 18 ∧ S.2.1 (M + 18) = 16640 := hA.1 (44, 18, 16640) (by decide)
    obtain ⟨n1, n2, n3, n4, n5⟩ := hT.2.2.1 i hi
    unfold en_v
    by_cases g0 : v2 = 0
    · rw [if_pos g0, if_pos g0, a42.1, if_pos (by omega), a42.2, if_pos (by rw [nb_in (by omega)]; omega), nb_clamp (by omega), n1]
    · rw [if_neg g0, if_neg g0]
      by_cases g1 : v2 = 1
      · rw [if_pos g1, if_pos g1, edm_no hA hT hi]
      · have ea : (260 : Int32) * N32 i + 7 = N32 (260 * i + 7) := by rw [show (260 : Int32) = N32 260 from rfl, nb_mul, show (7 : Int32) = N32 7 from rfl, nb_add]
        rw [if_neg g1, if_neg g1, a44.1, if_pos (by omega), ea, ba_two n5 (by rw [a44.2]; omega) (by rw [a44.2]; omega) (by omega)]
  · intro hb
    have hL : f_Model_entry_L27 S M v1 v2 1 M D = some (0, ob_pI D M 5 1) := by
      rw [f_Model_entry_L27]
      simp only [ob_lt]
      rw [if_neg (by rw [pI_self]; decide)]
    by_cases h0 : v1 < 0
    · rw [if_pos h0, hL]
    rw [if_neg h0]
    by_cases h1 : N32 A.length ≤ v1
    · rw [if_pos h1, hL]
    rw [if_neg h1]
    by_cases h2 : v2 < 0
    · rw [if_pos h2, hL]
    rw [if_neg h2]
    rcases hb with hb | hb | hb | hb
    · exact absurd hb h0
    · exact absurd hb h1
    · exact absurd hb h2
    · rw [if_neg hb, hL]
