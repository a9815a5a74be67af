-- ===== the reports: what they are =====
abbrev sRp : Type := List (List Nat) × (Nat → Bool) × (Nat → Nat → Int32) × Int32 × Int32 × Bool × Int32 × Int32 × Nat
def rp_hd (s k : Nat) (all cnt clk : Int32) : List Nat := [] ++ by_be 2090 2 ++ by_be (49152 ||| (all &&& 16383)) 2 ++ by_be 0 2 ++ by_be 32 1 ++ by_be (N32 s) 1 ++ by_be (N32 k) 1 ++ by_be cnt 2 ++ by_be 0 2 ++ by_be clk 4
def rp_head (s k : Nat) (clk : Int32) : sRp → List Nat
  | (_, _, md, all, _, _, _, _, _) => rp_hd s k all (md s k) clk
def rp_begin (s k : Nat) : sRp → sRp
  | (st, sd, md, all, lo, rt, fr, tt, rc) => (st, sd, fun a b => if a = s ∧ b = k then md s k + 1 else md a b, all + 1, lo, rt, fr, tt, rc)
def rp_len (p : List Nat) : List Nat := by_rep p 4 (N32 (p.length - 5)) 2 2
def rp_fin (p : List Nat) : List Nat := rp_len p ++ by_be (N32 (cr_f (rp_len p))) 2
def pk_ok (p : List Nat) : Prop := 19 ≤ p.length ∧ p.length ≤ 277 ∧ nn p 4 2 + 7 = p.length ∧ ∀ x ∈ p, x < 256
def rp_fit (w n : Nat) : List (List Nat) → Nat → List (List Nat) × Nat
  | [], r => ([], r)
  | p :: l, r => if tot (p :: l) + n ≤ w then (p :: l, r) else rp_fit w n l (r - 1)
def rp_keep (w : Nat) (q : List Nat) : sRp → sRp
  | (st, sd, md, all, lo, rt, fr, tt, rc) => if sd (q.getD 7 0) = true ∧ q.length ≤ w then ((rp_fit w q.length st rc).1 ++ [q], sd, md, all, lo, rt, fr, tt, (rp_fit w q.length st rc).2) else (st, sd, md, all, lo, rt, fr, tt, rc)
def rp_lose : sRp → sRp
  | (st, sd, md, all, lo, rt, fr, tt, rc) => (st, sd, md, all, lo + 1, rt, fr, tt, rc)
def rp_send (w : Nat) (p : List Nat) (lv : List Nat) (z : sRp) : List Nat × sRp := if lv.length + (rp_fin p).length ≤ 4096 then (lv ++ pkm (rp_fin p), rp_keep w (rp_fin p) z) else (lv, rp_keep w (rp_fin p) (rp_lose z))
def rp_upto (t : Int32) : List (List Nat) → Nat → List (List Nat) × Nat
  | [], r => ([], r)
  | p :: l, r => if t < N32 (nn p 13 4) then (p :: l, r) else rp_upto t l (r - 1)
def rp_drop (t : Int32) : sRp → sRp
  | (st, sd, md, all, lo, rt, fr, tt, rc) => ((rp_upto t st rc).1, sd, md, all, lo, rt, fr, tt, (rp_upto t st rc).2)
def rp_want (f t : Int32) : sRp → sRp
  | (st, sd, md, all, lo, _, _, _, _) => (st, sd, md, all, lo, true, f, t, 0)
def rp_get (fr tt : Int32) : List (List Nat) → List Nat → Nat → Bool × List Nat × Nat
  | [], lv, rc => (false, lv, rc)
  | p :: l, lv, rc => if N32 (nn p 13 4) < fr ∨ tt < N32 (nn p 13 4) then rp_get fr tt l lv (rc + 1) else if lv.length + p.length ≤ 4096 then rp_get fr tt l (lv ++ pkm p) (rc + 1) else (true, lv, rc)
def rp_retr (lv : List Nat) : sRp → List Nat × sRp
  | (st, sd, md, all, lo, rt, fr, tt, rc) => if rt = true then ((rp_get fr tt (st.drop rc) lv rc).2.1, (st, sd, md, all, lo, (rp_get fr tt (st.drop rc) lv rc).1, fr, tt, (rp_get fr tt (st.drop rc) lv rc).2.2)) else (lv, (st, sd, md, all, lo, rt, fr, tt, rc))
theorem tot_take (l : List (List Nat)) (r : Nat) : tot (l.take r) ≤ tot l := by
  conv => rhs; rw [← List.take_append_drop r l, tot_app]
  exact Nat.le_add_right _ _
theorem rp_fit_rc (w n : Nat) : ∀ (l : List (List Nat)) (r : Nat), r ≤ l.length → (rp_fit w n l r).2 ≤ (rp_fit w n l r).1.length
  | [], r, h => h
  | p :: l, r, h => by
    rw [rp_fit]
    split
    · exact h
    · exact rp_fit_rc w n l (r - 1) (by rw [List.length_cons] at h; omega)
theorem rp_fit_mem (w n : Nat) : ∀ (l : List (List Nat)) (r : Nat) (p : List Nat), p ∈ (rp_fit w n l r).1 → p ∈ l
  | [], r, p, h => h
  | q :: l, r, p, h => by
    rw [rp_fit] at h
    split at h
    · exact h
    · exact List.mem_cons_of_mem _ (rp_fit_mem w n l (r - 1) p h)
theorem rp_len_len (p : List Nat) : (rp_len p).length = p.length := by_rep_len _ _ _ _ _
theorem rp_fin_len (p : List Nat) : (rp_fin p).length = p.length + 2 := by rw [rp_fin, List.length_append, by_be_len, rp_len_len]
theorem by_of_n0 (a : Nat) : by_of (N32 a) 0 = a % 256 := by
  unfold by_of
  rw [n_un]
  show (a % 4294967296) % 256 = a % 256
  omega
theorem by_of_n1 (a : Nat) : by_of (N32 a) 1 = a / 256 % 256 := by
  unfold by_of
  rw [n_un, Nat.shiftRight_eq_div_pow]
  show (a % 4294967296) / 256 % 256 = a / 256 % 256
  omega
theorem rp_len_eq (p : List Nat) : rp_len p = (p.set 4 ((p.length - 5) / 256 % 256)).set 5 ((p.length - 5) % 256) := by
  show (p.set (4 + 0) (by_of (N32 (p.length - 5)) (2 - 1 - 0))).set (4 + 1) (by_of (N32 (p.length - 5)) (2 - 1 - 1)) = _
  rw [show 2 - 1 - 0 = 1 from rfl, show 2 - 1 - 1 = 0 from rfl, by_of_n0, by_of_n1]
theorem rp_len_lt {p : List Nat} (h : ∀ x ∈ p, x < 256) : ∀ x ∈ rp_len p, x < 256 := by
  intro x hx
  rw [rp_len_eq] at hx
  rcases List.mem_or_eq_of_mem_set hx with e | e
  · rcases List.mem_or_eq_of_mem_set e with e2 | e2
    · exact h x e2
    · omega
  · omega
theorem rp_fin_lt {p : List Nat} (h : ∀ x ∈ p, x < 256) : ∀ x ∈ rp_fin p, x < 256 := by
  intro x hx
  rcases List.mem_append.mp hx with e | e
  · exact rp_len_lt h x e
  · exact by_be_lt _ _ x e
theorem rp_fin_get {p : List Nat} {i : Nat} (hi : i < p.length) (h4 : i ≠ 4) (h5 : i ≠ 5) : (rp_fin p).getD i 0 = p.getD i 0 := by
  unfold rp_fin
  simp only [List.getD_eq_getElem?_getD]
  rw [List.getElem?_append_left (by rw [rp_len_len]; exact hi), rp_len_eq, List.getElem?_set_ne (by omega), List.getElem?_set_ne (by omega)]
theorem rp_fin_4 {p : List Nat} (h : 6 ≤ p.length) (h2 : p.length ≤ 1000) : nn (rp_fin p) 4 2 = p.length - 5 := by
  unfold rp_fin
  rw [nn_left _ _ _ _ (by rw [rp_len_len]; omega), nn_2, rp_len_eq]
  simp only [List.getD_eq_getElem?_getD]
  rw [List.getElem?_set_ne (by omega), List.getElem?_set_self (by omega), List.getElem?_set_self (by rw [List.length_set]; omega)]
  simp only [Option.getD_some]
  omega
theorem rp_fin_ok {p : List Nat} (h : 17 ≤ p.length) (h2 : p.length ≤ 275) (hb : ∀ x ∈ p, x < 256) : pk_ok (rp_fin p) := ⟨by rw [rp_fin_len]; omega, by rw [rp_fin_len]; omega, by rw [rp_fin_4 (by omega) (by omega), rp_fin_len]; omega, rp_fin_lt hb⟩
-- ===== the class's reports =====
def cRpA (S : ob_S) (D : ob_D) (R L : Nat) : Prop := D.2.1 R 0 = L ∧ L ≠ 0 ∧ D.2.1 R 1 = R + 1 ∧ D.2.1 R 2 = R + 3 ∧ D.2.1 R 3 = R + 5 ∧ D.2.1 R 4 = R + 6 ∧ S.2.1 (R + 5) = 32 ∧ S.2.1 (R + 6) = 1024
def cRpM (D : ob_D) (R : Nat) (sd : Nat → Bool) (md : Nat → Nat → Int32) : Prop := (∀ s, s < 32 → D.1 (R + 5) s = bI (sd s)) ∧ ∀ s k, s < 32 → k < 32 → D.1 (R + 6) (s * 32 + k) = md s k
def cRpS (S : ob_S) (D : ob_D) (R w : Nat) (st : List (List Nat)) (rc : Nat) : Prop := rgN S D (R + 1) (R + 2) w (rgs st) ∧ D.1 R 7 = N32 st.length ∧ D.1 R 11 = N32 (tot (st.take rc)) ∧ rc ≤ st.length ∧ ∀ p ∈ st, pk_ok p
def cRpF (D : ob_D) (R : Nat) (all lo : Int32) (rt : Bool) (fr tt : Int32) : Prop := D.1 R 5 = all ∧ D.1 R 6 = lo ∧ D.1 R 8 = bI rt ∧ D.1 R 9 = fr ∧ D.1 R 10 = tt
def cRp (S : ob_S) (D : ob_D) (R L w : Nat) : sRp → Prop
  | (st, sd, md, all, lo, rt, fr, tt, rc) => cRpA S D R L ∧ cRpM D R sd md ∧ cRpS S D R w st rc ∧ cRpF D R all lo rt fr tt
theorem cRpA.keep {S S' : ob_S} {D D' : ob_D} {R L : Nat} {P : Nat → Nat → Prop} (h : cRpA S D R L) (a : og P D D') (h0 : ∀ k, k < 5 → ¬ P R k) (h5 : S'.2.1 (R + 5) = S.2.1 (R + 5)) (h6 : S'.2.1 (R + 6) = S.2.1 (R + 6)) : cRpA S' D' R L := by
  obtain ⟨a1, a2, a3, a4, a5, a6, a7, a8⟩ := h
  exact ⟨by rw [(a R 0 (h0 0 (by decide))).2.1]; exact a1, a2, by rw [(a R 1 (h0 1 (by decide))).2.1]; exact a3, by rw [(a R 2 (h0 2 (by decide))).2.1]; exact a4, by rw [(a R 3 (h0 3 (by decide))).2.1]; exact a5, by rw [(a R 4 (h0 4 (by decide))).2.1]; exact a6, by rw [h5]; exact a7, by rw [h6]; exact a8⟩
theorem cRpM.keep {D D' : ob_D} {R : Nat} {sd : Nat → Bool} {md : Nat → Nat → Int32} {P : Nat → Nat → Prop} (h : cRpM D R sd md) (a : og P D D') (h5 : ∀ k, ¬ P (R + 5) k) (h6 : ∀ k, ¬ P (R + 6) k) : cRpM D' R sd md := ⟨fun s hs => by rw [(a _ _ (h5 s)).1]; exact h.1 s hs, fun s k hs hk => by rw [(a _ _ (h6 _)).1]; exact h.2 s k hs hk⟩
theorem cRpS.keep {S S' : ob_S} {D D' : ob_D} {R w : Nat} {st : List (List Nat)} {rc : Nat} {P : Nat → Nat → Prop} (h : cRpS S D R w st rc) (a : og P D D') (h7 : ¬ P R 7) (h11 : ¬ P R 11) (h1 : ∀ k, ¬ P (R + 1) k) (h2 : ∀ k, ¬ P (R + 2) k) (hS : S'.2.1 (R + 2) = S.2.1 (R + 2)) : cRpS S' D' R w st rc := by
  obtain ⟨s1, s2, s3, s4, s5⟩ := h
  exact ⟨rg_at.keep s1 a h1 h2 hS, by rw [(a _ _ h7).1]; exact s2, by rw [(a _ _ h11).1]; exact s3, s4, s5⟩
theorem cRpF.keep {D D' : ob_D} {R : Nat} {all lo : Int32} {rt : Bool} {fr tt : Int32} {P : Nat → Nat → Prop} (h : cRpF D R all lo rt fr tt) (a : og P D D') (h5 : ¬ P R 5) (h6 : ¬ P R 6) (h8 : ¬ P R 8) (h9 : ¬ P R 9) (h10 : ¬ P R 10) : cRpF D' R all lo rt fr tt := by
  obtain ⟨f1, f2, f3, f4, f5⟩ := h
  exact ⟨by rw [(a _ _ h5).1]; exact f1, by rw [(a _ _ h6).1]; exact f2, by rw [(a _ _ h8).1]; exact f3, by rw [(a _ _ h9).1]; exact f4, by rw [(a _ _ h10).1]; exact f5⟩
theorem cRp.keep {S S' : ob_S} {D D' : ob_D} {R L w : Nat} {z : sRp} {P : Nat → Nat → Prop} (h : cRp S D R L w z) (a : og P D D') (hP : ∀ y k, R ≤ y → y < R + 7 → ¬ (y = R + 3 ∨ y = R + 4) → ¬ P y k) (hS : ∀ y, R ≤ y → y < R + 7 → S'.2.1 y = S.2.1 y) : cRp S' D' R L w z := by
  obtain ⟨st, sd, md, all, lo, rt, fr, tt, rc⟩ := z
  obtain ⟨h1, h2, h3, h4⟩ := h
  exact ⟨h1.keep a (fun k _ => hP _ _ (by omega) (by omega) (by omega)) (hS _ (by omega) (by omega)) (hS _ (by omega) (by omega)), h2.keep a (fun k => hP _ _ (by omega) (by omega) (by omega)) (fun k => hP _ _ (by omega) (by omega) (by omega)), h3.keep a (hP _ _ (by omega) (by omega) (by omega)) (hP _ _ (by omega) (by omega) (by omega)) (fun k => hP _ _ (by omega) (by omega) (by omega)) (fun k => hP _ _ (by omega) (by omega) (by omega)) (hS _ (by omega) (by omega)), h4.keep a (hP _ _ (by omega) (by omega) (by omega)) (hP _ _ (by omega) (by omega) (by omega)) (hP _ _ (by omega) (by omega) (by omega)) (hP _ _ (by omega) (by omega) (by omega)) (hP _ _ (by omega) (by omega) (by omega))⟩
theorem rpc_begin {S : ob_S} {D : ob_D} {R L w : Nat} {z : sRp} {p : List Nat} (h : cRp S D R L w z) (hp : rw_at S D (R + 3) (R + 4) 277 p) {s k : Nat} (hs : s < 32) (hk : k < 32) (clk : Int32) : ∃ D', f_Reports_begin S R (N32 s) (N32 k) clk D = some (R + 3, D') ∧ cRp S D' R L w (rp_begin s k z) ∧ rw_at S D' (R + 3) (R + 4) 277 (rp_head s k clk z) ∧ og (rgn R (R + 7)) D D' := by
  obtain ⟨st, sd, md, all, lo, rt, fr, tt, rc⟩ := z
  obtain ⟨hA, hM, hS, hF⟩ := h
  have hA0 := hA
  obtain ⟨a1, a2, a3, a4, a5, a6, a7, a8⟩ := hA
  obtain ⟨D6, hD6⟩ : ∃ x, x = ob_pI D (R + 3) 1 (0 : Int32) := ⟨_, rfl⟩
  have w0 : rw_at S D6 (R + 3) (R + 4) 277 [] := hD6 ▸ rw_nil hp
  have g0 : ob_ag (fun y => y = R + 3 ∨ y = R + 4) D D6 := hD6 ▸ ob_ag.pI (Or.inl rfl)
  obtain ⟨D9, p1, w1, g1⟩ := rw_add w0 2090 (c := 2) (by decide) (by decide)
  obtain ⟨D13, p2, w2, g2⟩ := rw_add w1 (49152 ||| (all &&& 16383)) (c := 2) (by decide) (by simp only [List.length_append, by_be_len, List.length_nil]; omega)
  obtain ⟨D17, p3, w3, g3⟩ := rw_add w2 0 (c := 2) (by decide) (by simp only [List.length_append, by_be_len, List.length_nil]; omega)
  obtain ⟨D21, p4, w4, g4⟩ := rw_add w3 32 (c := 1) (by decide) (by simp only [List.length_append, by_be_len, List.length_nil]; omega)
  obtain ⟨D25, p5, w5, g5⟩ := rw_add w4 (N32 s) (c := 1) (by decide) (by simp only [List.length_append, by_be_len, List.length_nil]; omega)
  obtain ⟨D29, p6, w6, g6⟩ := rw_add w5 (N32 k) (c := 1) (by decide) (by simp only [List.length_append, by_be_len, List.length_nil]; omega)
  obtain ⟨D36, p7, w7, g7⟩ := rw_add w6 (md s k) (c := 2) (by decide) (by simp only [List.length_append, by_be_len, List.length_nil]; omega)
  obtain ⟨D40, p8, w8, g8⟩ := rw_add w7 0 (c := 2) (by decide) (by simp only [List.length_append, by_be_len, List.length_nil]; omega)
  obtain ⟨D44, p9, w9, g9⟩ := rw_add w8 clk (c := 4) (by decide) (by simp only [List.length_append, by_be_len, List.length_nil]; omega)
  have q1 : f_Row_add S (R + 3) 2090 2 D6 = some D9 := p1
  have q2 : f_Row_add S (R + 3) (49152 ||| (all &&& 16383)) 2 D9 = some D13 := p2
  have q3 : f_Row_add S (R + 3) 0 2 D13 = some D17 := p3
  have q4 : f_Row_add S (R + 3) 32 1 D17 = some D21 := p4
  have q5 : f_Row_add S (R + 3) (N32 s) 1 D21 = some D25 := p5
  have q6 : f_Row_add S (R + 3) (N32 k) 1 D25 = some D29 := p6
  have q7 : f_Row_add S (R + 3) (md s k) 2 D29 = some D36 := p7
  have q8 : f_Row_add S (R + 3) 0 2 D36 = some D40 := p8
  have q9 : f_Row_add S (R + 3) clk 4 D40 = some D44 := p9
  have r1 := g0.tr g1
  have r2 := r1.tr g2
  have r3 := r2.tr g3
  have r4 := r3.tr g4
  have r5 := r4.tr g5
  have r6 := r5.tr g6
  have r7 := r6.tr g7
  have r8 := r7.tr g8
  have r9 := r8.tr g9
  have d0 := g0.1
  have d1 := r1.1
  have d2 := r2.1
  have d3 := r3.1
  have d4 := r4.1
  have d5 := r5.1
  have d6 := r6.1
  have d7 := r7.1
  have d8 := r8.1
  have d9 := r9.1
  have hx : ((N32 s * (32 : Int32)) + N32 k) - ((N32 s * (32 : Int32)) + N32 k) / (Int32.ofNat 1024) * (Int32.ofNat 1024) = N32 (s * 32 + k) := by
    rw [show (32 : Int32) = N32 32 from rfl, nb_mul, nb_add, n_rem _ _ (by omega) (by decide), Nat.mod_eq_of_lt (by omega)]
  have hin : ob_in (N32 (s * 32 + k)) 1024 := by rw [nb_in (by omega)]; omega
  have hcl : (N32 (s * 32 + k)).toNatClampNeg = s * 32 + k := nb_clamp (by omega)
  have c5 : D9.1 R 5 = all := by rw [r1.2 R 5 (by omega)]; exact hF.1
  have c6 : D29.1 (R + 6) (s * 32 + k) = md s k := by rw [r6.2 _ _ (by omega)]; exact hM.2 s k hs hk
  have c7 : D44.1 (R + 6) (s * 32 + k) = md s k := by rw [r9.2 _ _ (by omega)]; exact hM.2 s k hs hk
  have c8 : (ob_pI D44 (R + 6) (s * 32 + k) (md s k + 1)).1 R 5 = all := by
    show (if R = R + 6 ∧ 5 = s * 32 + k then _ else D44.1 R 5) = _
    rw [if_neg (by omega), r9.2 R 5 (by omega)]
    exact hF.1
  have hn : ¬ (Int32.ofNat 1024 = 0) := by decide
  refine ⟨ob_pI (ob_pI D44 (R + 6) (s * 32 + k) (md s k + 1)) R 5 (all + 1), ?_, ?_, ?_, ?_⟩
  · unfold f_Reports_begin
    have c6' : D29.1 (R + 6) (N32 (s * 32 + k)).toNatClampNeg = md s k := by rw [hcl]; exact c6
    have n3 : R + 3 ≠ 0 := by omega
    have n6 : R + 6 ≠ 0 := by omega
    simp only [ob_lt]
    rw [a6, if_pos n6, a8, if_pos hn, hx, a4, if_pos n3, ← hD6, d0, a4, if_pos n3, q1]
    simp only [ob_bv]
    rw [d1, a4, if_pos n3, c5, q2]
    simp only [ob_bv]
    rw [d2, a4, if_pos n3, q3]
    simp only [ob_bv]
    rw [d3, a4, if_pos n3, q4]
    simp only [ob_bv]
    rw [d4, a4, if_pos n3, q5]
    simp only [ob_bv]
    rw [d5, a4, if_pos n3, q6]
    simp only [ob_bv]
    rw [d6, a4, if_pos n3, a6, if_pos n6, a8, if_pos hin, c6', q7]
    simp only [ob_bv]
    rw [d7, a4, if_pos n3, q8]
    simp only [ob_bv]
    rw [d8, a4, if_pos n3, q9]
    simp only [ob_bv]
    rw [d9, a6, if_pos n6, a8, if_pos hin, if_pos hin]
    simp only [hcl, c7, c8]
    have e2 : (ob_pI (ob_pI D44 (R + 6) (s * 32 + k) (md s k + 1)) R 5 (all + 1)).2.1 R 2 = R + 3 := by
      show D44.2.1 R 2 = _
      rw [d9, a4]
    rw [if_pos (by rw [e2]; exact n3), e2]
  · have gA : og (fun y k => y = R + 3 ∨ y = R + 4) D D44 := r9.up
    have gB : og (fun y j => (y = R + 6 ∧ j = s * 32 + k) ∨ (y = R ∧ j = 5)) D44 (ob_pI (ob_pI D44 (R + 6) (s * 32 + k) (md s k + 1)) R 5 (all + 1)) := (og.pI (Or.inl ⟨rfl, rfl⟩)).tr (og.pI (Or.inr ⟨rfl, rfl⟩))
    refine ⟨(hA0.keep gA (by omega) rfl rfl).keep gB (by omega) rfl rfl, ⟨fun t ht => ?_, fun t j ht hj => ?_⟩, (hS.keep gA (by omega) (by omega) (by omega) (by omega) rfl).keep gB (by omega) (by omega) (by omega) (by omega) rfl, ?_⟩
    · rw [(gB _ _ (by omega)).1, (gA _ _ (by omega)).1]
      exact hM.1 t ht
    · show (if R + 6 = R ∧ _ then _ else if R + 6 = R + 6 ∧ t * 32 + j = s * 32 + k then _ else D44.1 (R + 6) (t * 32 + j)) = if t = s ∧ j = k then md s k + 1 else md t j
      rw [if_neg (by omega)]
      by_cases hc : t = s ∧ j = k
      · rw [if_pos hc, if_pos (by rw [hc.1, hc.2]; exact ⟨rfl, rfl⟩)]
      · rw [if_neg hc, if_neg (by omega), (gA _ _ (by omega)).1]
        exact hM.2 t j ht hj
    · have hF2 := hF.keep gA (by omega) (by omega) (by omega) (by omega) (by omega)
      obtain ⟨f1, f2, f3, f4, f5⟩ := hF2
      refine ⟨?_, ?_, ?_, ?_, ?_⟩
      · show (if R = R ∧ 5 = 5 then _ else _) = _
        rw [if_pos ⟨rfl, rfl⟩]
      · rw [(gB _ _ (by omega)).1]; exact f2
      · rw [(gB _ _ (by omega)).1]; exact f3
      · rw [(gB _ _ (by omega)).1]; exact f4
      · rw [(gB _ _ (by omega)).1]; exact f5
  · have gB : og (fun y j => (y = R + 6 ∧ j = s * 32 + k) ∨ (y = R ∧ j = 5)) D44 (ob_pI (ob_pI D44 (R + 6) (s * 32 + k) (md s k + 1)) R 5 (all + 1)) := (og.pI (Or.inl ⟨rfl, rfl⟩)).tr (og.pI (Or.inr ⟨rfl, rfl⟩))
    exact w9.keep gB (by omega) (by omega) rfl
  · have gA : og (rgn R (R + 7)) D D44 := r9.up2 (fun y k e => by rcases e with e | e <;> exact ⟨by omega, by omega⟩)
    have gB : og (rgn R (R + 7)) D44 (ob_pI (ob_pI D44 (R + 6) (s * 32 + k) (md s k + 1)) R 5 (all + 1)) := (og.pI ⟨by omega, by omega⟩).tr (og.pI ⟨by omega, by omega⟩)
    exact gA.tr gB
