-- ===== the limits are watched, on both sides =====
def t_ev (S : ob_S) (M : Nat) (D : ob_D) : Option (Int32 × ob_D) := ob_bv (f_Model_workEvents S M D) fun D7 => (if (D7.1 M 59) = 0 then f_Model_tick_L270 S ob_FU M (0 : Int32) D7 else (if (D7.1 M 41) < (D7.1 M 58) then f_Model_tick_L270 S ob_FU M (0 : Int32) D7 else ob_lt (ob_pI D7 M 59 (0 : Int32)) fun D36 => ob_bv (f_Model_becomes S M (0 : Int32) D36) fun D37 => f_Model_tick_L270 S ob_FU M (0 : Int32) D37))
theorem ky_lt {α : Type} (key : α → Nat) : ∀ (l : List α), ky_srt key l → ∀ (i j a b : Nat), i < j → (l.map key)[i]? = some a → (l.map key)[j]? = some b → a < b
  | [], _, i, j, a, b, _, h, _ => by simp at h
  | x :: l, hs, 0, j + 1, a, b, _, h1, h2 => by
    have e1 : key x = a := by simpa using h1
    have h2 : (l.map key)[j]? = some b := by simpa using h2
    have hm := List.mem_of_getElem? h2
    obtain ⟨y, hy, hyb⟩ := List.mem_map.mp hm
    rw [← e1, ← hyb]
    exact hs.1 y hy
  | x :: l, hs, i + 1, j + 1, a, b, hij, h1, h2 => ky_lt key l hs.2 i j a b (by omega) (by simpa using h1) (by simpa using h2)
theorem ky_inmap {α : Type} {key : α → Nat} {k : Nat} {l : List α} : (ky_find key k l).isSome = true ↔ k ∈ l.map key := by
  constructor
  · intro h
    obtain ⟨i, hi⟩ := Option.isSome_iff_exists.mp h
    obtain ⟨hl, hk⟩ := ky_find_is hi
    rw [← hk]
    exact List.mem_map_of_mem (List.getElem_mem hl)
  · intro h
    rcases hf : ky_find key k l with _ | i
    · obtain ⟨y, hy, hk⟩ := List.mem_map.mp h
      exact absurd hk (ky_find_none.mp hf y hy)
    · rfl
theorem wset_key {i : Nat} {n : Int32} {f : sLm} {z : sW} (hi : z.2.2.2.2.2.1[i]? = some f) : (w_wset i n f z).2.2.2.2.2.1.map (fun f : sLm => f.1) = z.2.2.2.2.2.1.map (fun f : sLm => f.1) := by
  obtain ⟨gt, rc, A, on, ev, lm, ch, frs, rp, cr, fm, me⟩ := z
  have hi : lm[i]? = some f := hi
  obtain ⟨hil, hif⟩ := List.getElem?_eq_some_iff.mp hi
  show (lm.set i (lm_to f.2.1 n f)).map (fun f : sLm => f.1) = lm.map (fun f : sLm => f.1)
  rw [List.map_set]
  apply List.ext_getElem?
  intro j
  by_cases hj : i = j
  · subst hj
    rw [List.getElem?_set_self (by rw [List.length_map]; exact hil), List.getElem?_map, hi]
    rfl
  · rw [List.getElem?_set_ne hj]
theorem brk_key {pt : Nat} {x : Int32} {f : sLm} {z : sW} : (w_brk pt x f z).2.2.2.2.2.1 = z.2.2.2.2.2.1 ∧ w_ck (w_brk pt x f z) = w_ck z := by
  obtain ⟨gt, rc, A, on, ev, lm, ch, frs, rp, ⟨wi, mo, ck, al, hd, fa, br⟩, fm, me⟩ := z
  exact ⟨rfl, rfl⟩
theorem wset_ck {i : Nat} {n : Int32} {f : sLm} {z : sW} : w_ck (w_wset i n f z) = w_ck z := by
  obtain ⟨gt, rc, A, on, ev, lm, ch, frs, rp, cr, fm, me⟩ := z
  rfl
theorem wat_key {pt i : Nat} {f : sLm} {z : sW} (hi : z.2.2.2.2.2.1[i]? = some f) : (w_wat pt i f z).2.2.2.2.2.1.map (fun f : sLm => f.1) = z.2.2.2.2.2.1.map (fun f : sLm => f.1) ∧ w_ck (w_wat pt i f z) = w_ck z := by
  unfold w_wat
  split
  · split
    · exact ⟨by rw [brk_key.1]; exact wset_key hi, by rw [brk_key.2]; exact wset_ck⟩
    · exact ⟨wset_key hi, wset_ck⟩
  · exact ⟨wset_key hi, wset_ck⟩
theorem cW.lm {S : ob_S} {D : ob_D} {B m fr F w pt : Nat} {z : sW} (h : cW S D B m fr F w pt z) : cLm S D (B + 29 + 2 * m + 71) z.2.2.2.2.2.1 := by
  obtain ⟨gt, rc, A, on, ev, lm, ch, frs, rp, cr, fm, me⟩ := z
  exact h.2.2.2.2.1
theorem mW.lm {S : ob_S} {D : ob_D} {M m fr F w pt : Nat} {z : sW} (h : mW S D M m fr F w pt z) : mLm D M z.2.2.2.2.2.1 := by
  obtain ⟨gt, rc, A, on, ev, lm, ch, frs, rp, cr, fm, me⟩ := z
  exact h.2.2.2.2.2.1
theorem j_watch {S : ob_S} {B M m fr F w pt : Nat} {K : List Nat} (hK : ∀ i j a b : Nat, i < j → K[i]? = some a → K[j]? = some b → a < b) (hK2 : ∀ q ∈ K, q < 256) (hK3 : K.length ≤ 16) : ∀ (d n1 n2 k i : Nat) (Dc Dm : ob_D) (z : sW), k + d = 256 → d < n2 → K.length - i < n1 → i ≤ K.length → z.2.2.2.2.2.1.map (fun f : sLm => f.1) = K → (∀ j q, K[j]? = some q → (j < i → q < k) ∧ (i ≤ j → k ≤ q)) → w_ck z + pt < 2147483648 → cY S Dc B m fr F w pt z → mY S Dm M m fr F w pt z → ∃ Dc' Dm' z', f_Craft_watch_L2 S n1 (B + 29 + 2 * m + 80 + 2 * fr + 7) (B + 29 + 2 * m + 71) (N32 i) Dc = some Dc' ∧ f_Model_tick_L200 S n2 M (N32 k) Dm = t_ev S M Dm' ∧ cY S Dc' B m fr F w pt z' ∧ mY S Dm' M m fr F w pt z' ∧ w_ck z' = w_ck z ∧ og (cReg B m fr) Dc Dc' ∧ oi (mReg M) Dm Dm' := by
  intro d
  induction d with
  | zero =>
    intro n1 n2 k i Dc Dm z hk hn2 hn1 hi hz hp hck hc hm
    match n1, n2, hn1, hn2 with
    | n1 + 1, n2 + 1, _, _ =>
      obtain ⟨c, hc⟩ := hc
      have hlen := (kt_len (cLm_kt.mp hc.1.lm)).1
      rw [← List.length_map (f := fun f : sLm => f.1), hz] at hlen
      have hiK : K.length ≤ i := by
        apply Nat.le_of_not_lt
        intro hlt
        have e : K[i]? = some K[i] := List.getElem?_eq_getElem hlt
        have h1 := (hp i _ e).2 (Nat.le_refl _)
        have h2 := hK2 _ (List.getElem_mem hlt)
        omega
      have hk' : k = 256 := by omega
      refine ⟨Dc, Dm, z, ?_, ?_, ⟨c, hc⟩, hm, rfl, og.rf, oi.rf⟩
      · rw [f_Craft_watch_L2, hlen, if_pos (by rw [nb_le (by omega) (by omega)]; exact hiK)]
      · rw [f_Model_tick_L200, if_pos (by rw [hk']; decide)]
        rfl
  | succ d ih =>
    intro n1 n2 k i Dc Dm z hk hn2 hn1 hi hz hp hck hc hm
    match n2, hn2 with
    | n2 + 1, hn2 =>
      obtain ⟨c, hc⟩ := hc
      obtain ⟨c', hm⟩ := hm
      have hA := hm.1.mA
      have a47 : Dm.2.1 M 47 = M + 19 ∧ S.2.1 (M + 19) = 256 := hA.1 (47, 19, 256) (by decide)
      have a48 : Dm.2.1 M 48 = M + 20 ∧ S.2.1 (M + 20) = 256 := hA.1 (48, 20, 256) (by decide)
      have hin : ob_in (N32 k) 256 := by rw [nb_in (by omega)]; omega
      have hcp : (N32 k).toNatClampNeg = k := nb_clamp (by omega)
      have e1 : N32 k + (1 : Int32) = N32 (k + 1) := nb_add _ 1
      have hv := hm.1.lm.2.2.2.2.1 k (by omega)
      have hst : f_Model_tick_L200 S (n2 + 1) M (N32 k) Dm = (if bI ((ky_find (fun f : sLm => f.1) k z.2.2.2.2.2.1).isSome) = 0 then f_Model_tick_L200 S n2 M (N32 (k + 1)) Dm else (if (Dm.1 (M + 20) k) = 0 then f_Model_tick_L200 S n2 M (N32 (k + 1)) Dm else ob_bv (f_Model_watch S M (N32 k) Dm) fun D45 => f_Model_tick_L200 S n2 M (N32 (k + 1)) D45)) := by
        rw [f_Model_tick_L200, if_neg (by rw [show (256 : Int32) = N32 256 from rfl, nb_le (by omega) (by omega)]; omega)]
        simp only [hcp]
        rw [a47.1, if_pos (by omega), a47.2, if_pos hin, hv, a48.1, a48.2, if_pos (show M + 20 ≠ 0 by omega), if_pos hin, e1]
      by_cases hf : K[i]? = some k
      · -- here it is
        have hil : i < K.length := by
          obtain ⟨h1, -⟩ := List.getElem?_eq_some_iff.mp hf
          exact h1
        match n1, hn1 with
        | n1 + 1, hn1 =>
          obtain ⟨f, hfz, hfk⟩ : ∃ f : sLm, z.2.2.2.2.2.1[i]? = some f ∧ f.1 = k := by
            rw [← hz, List.getElem?_map] at hf
            rcases hh : z.2.2.2.2.2.1[i]? with _ | f
            · rw [hh] at hf
              cases hf
            · rw [hh] at hf
              exact ⟨f, rfl, by simpa using hf⟩
          have hsome : (ky_find (fun f : sLm => f.1) k z.2.2.2.2.2.1).isSome = true := by
            rw [ky_inmap, hz]
            exact List.mem_of_getElem? hf
          have hlen := (kt_len (cLm_kt.mp hc.1.lm)).1
          rw [← List.length_map (f := fun f : sLm => f.1), hz] at hlen
          have v1 : f_Table_get S (B + 29 + 2 * m + 71) (N32 i) 1 Dc = some (bI f.2.1, Dc) := wc_lget hc.1 hfz (j := 1) (by decide)
          have v20 := (wm_lget hm.1 hfz).2.1
          rw [hfk] at v20
          have e2 : N32 i + (1 : Int32) = N32 (i + 1) := nb_add _ 1
          have hp' : ∀ j q, K[j]? = some q → (j < i + 1 → q < k + 1) ∧ (i + 1 ≤ j → k + 1 ≤ q) := by
            intro j q hq
            refine ⟨fun hj => ?_, fun hj => hK i j k q (by omega) hf hq⟩
            by_cases hji : j = i
            · subst hji
              rw [hf] at hq
              cases hq
              omega
            · have := (hp j q hq).1 (by omega)
              omega
          have hcs : f_Craft_watch_L2 S (n1 + 1) (B + 29 + 2 * m + 80 + 2 * fr + 7) (B + 29 + 2 * m + 71) (N32 i) Dc = (if bI f.2.1 = 1 then ob_bv (f_Craft_watchOne S (B + 29 + 2 * m + 80 + 2 * fr + 7) (B + 29 + 2 * m + 71) (N32 i) Dc) fun D4 => f_Craft_watch_L2 S n1 (B + 29 + 2 * m + 80 + 2 * fr + 7) (B + 29 + 2 * m + 71) (N32 (i + 1)) D4 else f_Craft_watch_L2 S n1 (B + 29 + 2 * m + 80 + 2 * fr + 7) (B + 29 + 2 * m + 71) (N32 (i + 1)) Dc) := by
            rw [f_Craft_watch_L2, hlen, if_neg (by rw [nb_le (by omega) (by omega)]; omega), v1]
            simp only [ob_bd]
            rw [e2]
          rw [hst, hcs, if_neg (show ¬ bI ((ky_find (fun f : sLm => f.1) k z.2.2.2.2.2.1).isSome) = 0 by rw [hsome]; decide), v20]
          cases hon : f.2.1 with
          | false =>
            rw [if_pos (show bI false = 0 from rfl), if_neg (show ¬ bI false = 1 by decide)]
            exact ih n1 n2 (k + 1) (i + 1) Dc Dm z (by omega) (by omega) (by omega) (by omega) hz hp' hck ⟨c, hc⟩ ⟨c', hm⟩
          | true =>
            rw [if_neg (show ¬ bI true = 0 by decide), if_pos (show bI true = 1 from rfl)]
            obtain ⟨Dc1, t1, t2, t3⟩ := wc_watch hc hfz hck
            obtain ⟨Dm1, s1, s2, s3⟩ := wm_watch hm hfz hck
            rw [hfk] at s1
            rw [t1, s1]
            simp only [ob_bv]
            have hwk := wat_key (pt := pt) hfz
            obtain ⟨Dc', Dm', z', r1, r2, r3, r4, r5, r6, r7⟩ := ih n1 n2 (k + 1) (i + 1) Dc1 Dm1 _ (by omega) (by omega) (by omega) (by omega) (hwk.1.trans hz) hp' (by rw [hwk.2]; exact hck) ⟨c, t2⟩ ⟨c', s2⟩
            exact ⟨Dc', Dm', z', r1, r2, r3, r4, r5.trans hwk.2, t3.tr r6, s3.tr r7⟩
      · have hnone : (ky_find (fun f : sLm => f.1) k z.2.2.2.2.2.1).isSome = false := by
          rw [Bool.eq_false_iff]
          intro h1
          have hmem := (ky_inmap (key := fun f : sLm => f.1)).mp h1
          rw [hz] at hmem
          obtain ⟨j, hj⟩ := List.mem_iff_getElem?.mp hmem
          by_cases hji : j < i
          · have := (hp j k hj).1 hji
            omega
          · by_cases hje : j = i
            · subst hje
              exact hf hj
            · have hil : i < K.length := by
                obtain ⟨h2, -⟩ := List.getElem?_eq_some_iff.mp hj
                omega
              have e : K[i]? = some K[i] := List.getElem?_eq_getElem hil
              have h3 := (hp i _ e).2 (Nat.le_refl _)
              have h4 := hK i j _ k (by omega) e hj
              omega
        rw [hst, if_pos (show bI ((ky_find (fun f : sLm => f.1) k z.2.2.2.2.2.1).isSome) = 0 by rw [hnone]; rfl)]
        refine ih n1 n2 (k + 1) i Dc Dm z (by omega) (by omega) hn1 hi hz (fun j q hq => ⟨fun hj => ?_, fun hj => ?_⟩) hck ⟨c, hc⟩ ⟨c', hm⟩
        · have := (hp j q hq).1 hj
          omega
        · have h5 := (hp j q hq).2 hj
          by_cases hqk : q = k
          · subst hqk
            by_cases hji : j = i
            · subst hji
              exact absurd hq hf
            · have hil : i < K.length := by
                obtain ⟨h2, -⟩ := List.getElem?_eq_some_iff.mp hq
                omega
              have e : K[i]? = some K[i] := List.getElem?_eq_getElem hil
              have h3 := (hp i _ e).2 (Nat.le_refl _)
              have h4 := hK i j _ q (by omega) e hq
              omega
          · omega
