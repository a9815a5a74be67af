-- ===== what the class's own constructor makes =====
def bxa (B m fr : Nat) : Nat → Nat
  | 0 => B + 1
  | 1 => B + 3
  | 2 => B + 5
  | 3 => B + 8
  | 4 => B + 26
  | 5 => B + 29 + 2 * m
  | 6 => B + 29 + 2 * m + 71
  | 7 => B + 29 + 2 * m + 73
  | 8 => B + 29 + 2 * m + 80 + 2 * fr
  | 9 => B + 29 + 2 * m + 80 + 2 * fr + 7
  | _ => B + 29 + 2 * m + 80 + 2 * fr + 9
def bx (D : ob_D) (B m fr n : Nat) : Prop := ∀ k, k < n → D.2.1 B k = bxa B m fr k
theorem bx.step {D D' : ob_D} {B m fr n x : Nat} {P : Nat → Nat → Prop} (h : bx D B m fr n) (g : og P D D') (hP : ∀ k, ¬ P B k) (hx : x = bxa B m fr n) : bx (ob_pR D' B n x) B m fr (n + 1) := fun k hk => by
  by_cases e : k = n
  · rw [e, ← hx]
    exact pR_self
  · rw [pR_ne (by omega), (g B k (hP k)).2.1]
    exact h k (by omega)
theorem bx.z {D : ob_D} {B m fr n a : Nat} (h : bx D B m fr n) (ha : B ≠ a) : bx (ob_z D a) B m fr n := fun k hk => (if_neg ha).trans (h k hk)
def w_0 : sW := ((1, 0, 0, false, false, 0, 0, []), (false, 0, 0, [], [], 0), [], false, ([], fun _ => false, fun _ => false, fun _ => false, fun _ => [], 0), [], ([], [], fun _ => 0, 0), [], ([], fun _ => false, fun _ _ => 0, 0, 0, false, 0, 0, 0), (fun _ => 0, 1, 0, none, 0, 0, 0), [], List.replicate 4096 0)
theorem rw_full {S : ob_S} {D : ob_D} {a b cap : Nat} (h : rw_at S D a b cap []) (hz : ∀ j, D.1 b j = 0) (hab : b ≠ a) : rw_at S (ob_pI D a 1 (N32 cap)) a b cap (List.replicate cap 0) := by
  obtain ⟨h1, h2, h3, h4, h5, h6, h7, h8, h9⟩ := h
  refine ⟨h1, h2, h3, h4, ?_, ?_, h7, fun i hi => ?_, fun x hx => ?_⟩
  · rw [List.length_replicate]
    exact pI_self
  · rw [List.length_replicate]
    exact Nat.le_refl _
  · rw [pI_ne (by omega), hz]
    have e : (List.replicate cap 0).getD i 0 = 0 := by
      rw [List.length_replicate] at hi
      simp [List.getD, hi]
    rw [e]
    rfl
  · have := List.eq_of_mem_replicate hx
    omega
set_option maxHeartbeats 4000000 in
theorem ci_box {S : ob_S} {D : ob_D} {B m F fr pt w : Nat} {x1 x2 x3 x4 x5 : Int32} (hB : S.2.2.1 = B) (hm1 : 1 ≤ m) (hm : m ≤ 64) (hF1 : 64 ≤ F) (hF : F ≤ 256) (hf1 : 1 ≤ fr) (hfr : fr ≤ 4) (hp1 : 1 ≤ pt) (hpt : pt ≤ 100) (hw1 : 64 ≤ w) (hw : w ≤ 16384) (y1 : ∀ S D, f_Box_nearest S x1 1 64 D = some (N32 m, D)) (y2 : ∀ S D, f_Box_nearest S x2 64 256 D = some (N32 F, D)) (y3 : ∀ S D, f_Box_nearest S x3 1 4 D = some (N32 fr, D)) (y4 : ∀ S D, f_Box_nearest S x4 1 100 D = some (N32 pt, D)) (y5 : ∀ S D, f_Box_nearest S x5 64 16384 D = some (N32 w, D)) : ∃ S' D', f_Box_init B x1 x2 x3 x4 x5 (ob_new S 1 0 11) (ob_z D B) = some (S', D') ∧ cC S' D' B m fr F w pt w_0 [] ∧ S'.2.2.1 = B + 29 + 2 * m + 80 + 2 * fr + 14 ∧ S'.2.2.2 ≤ S.2.2.2 + 100000 := by
  have hS0 : (ob_new S 1 0 11).2.2.1 = B + 1 := by rw [new_nx, hB]
  obtain ⟨S1, D1, a1, a2, -, -, a3, a4⟩ := ci_row (S := ob_new S 1 0 11) (D := ob_z D B) (n := 4096) (by decide)
  rw [hS0] at a1 a2 a4
  have a1 : f_Row_init (B + 1) 4096 (ob_new (ob_new S 1 0 11) 2 0 2) (ob_z (ob_z D B) (B + 1)) = some (S1, D1) := a1
  have k1 : S1.2.2.1 = B + 3 := by rw [a3.1, hS0]
  have w1 : bx (ob_pR D1 B 0 (B + 1)) B m fr 1 := bx.step (D := D1) (P := fun _ _ => False) (fun k hk => absurd hk (Nat.not_lt_zero _)) og.rf (fun _ h => h) rfl
  obtain ⟨S2, D2, b1, b2, b0, -, b3, b4⟩ := ci_row (S := S1) (D := ob_pR D1 B 0 (B + 1)) (n := 4096) (by decide)
  rw [k1] at b1 b2 b0 b4
  have b1 : f_Row_init (B + 3) 4096 (ob_new S1 2 0 2) (ob_z (ob_pR D1 B 0 (B + 1)) (B + 3)) = some (S2, D2) := b1
  have k2 : S2.2.2.1 = B + 5 := by rw [b3.1, k1]
  have w2 : bx (ob_pR D2 B 1 (B + 3)) B m fr 2 := w1.step b4 (by omega) rfl
  obtain ⟨S3, D3, c1, c2, c3, c4⟩ := ci_receiver (S := S2) (D := ob_pI (ob_pR D2 B 1 (B + 3)) (B + 3) 1 4096) k2
  have k3 : S3.2.2.1 = B + 8 := by rw [c3.1, k2]
  have w2' : bx (ob_pI (ob_pR D2 B 1 (B + 3)) (B + 3) 1 4096) B m fr 2 := w2
  have w3 : bx (ob_pR D3 B 2 (B + 5)) B m fr 3 := w2'.step c4 (by omega) rfl
  obtain ⟨S4, D4, d1, d2, d3, d4⟩ := ci_gate (S := S3) (D := ob_pR D3 B 2 (B + 5)) k3
  have k4 : S4.2.2.1 = B + 26 := by rw [d3.1, k3]
  have w4 : bx (ob_pR D4 B 3 (B + 8)) B m fr 4 := w3.step d4 (by omega) rfl
  obtain ⟨S5, D5, e1, e2, e3, e4⟩ := ci_timetable (S := S4) (D := ob_pR D4 B 3 (B + 8)) hm1 hm k4
  have k5 : S5.2.2.1 = B + 29 + 2 * m := by rw [e3.1, k4]; omega
  have w5 : bx (ob_pR D5 B 4 (B + 26)) B m fr 5 := w4.step e4 (by omega) rfl
  obtain ⟨S6, D6, f1, f2, f3, f4⟩ := ci_events (S := S5) (D := ob_pR D5 B 4 (B + 26)) k5
  have k6 : S6.2.2.1 = B + 29 + 2 * m + 71 := by rw [f3.1, k5]
  have w6 : bx (ob_pR D6 B 5 (B + 29 + 2 * m)) B m fr 6 := w5.step f4 (by omega) rfl
  obtain ⟨S7, D7, g1, g2, g3, g4⟩ := ci_table (S := S6) (D := ob_pR D6 B 5 (B + 29 + 2 * m)) (most := 16) (w := 9) (by decide) (by decide)
  rw [k6] at g1 g2 g4
  have g1 : f_Table_init (B + 29 + 2 * m + 71) 16 9 (ob_new S6 8 0 4) (ob_z (ob_pR D6 B 5 (B + 29 + 2 * m)) (B + 29 + 2 * m + 71)) = some (S7, D7) := g1
  have k7 : S7.2.2.1 = B + 29 + 2 * m + 73 := by rw [g3.1, k6]
  have w7 : bx (ob_pR D7 B 6 (B + 29 + 2 * m + 71)) B m fr 7 := w6.step g4 (by omega) rfl
  obtain ⟨S8, D8, h1, h2, h3, h4⟩ := ci_downlink (S := S7) (D := ob_pR D7 B 6 (B + 29 + 2 * m + 71)) hF1 hF hf1 hfr k7
  have k8 : S8.2.2.1 = B + 29 + 2 * m + 80 + 2 * fr := by rw [h3.1, k7]; omega
  have w8 : bx (ob_pR D8 B 7 (B + 29 + 2 * m + 73)) B m fr 8 := w7.step h4 (by omega) rfl
  obtain ⟨S9, D9, i1, i2, i5, i6, i3, i4⟩ := ci_reports (S := S8) (D := ob_pR D8 B 7 (B + 29 + 2 * m + 73)) (L := B + 29 + 2 * m + 74) (w := w) (by omega) (by omega) (by omega) k8
  have k9 : S9.2.2.1 = B + 29 + 2 * m + 80 + 2 * fr + 7 := by rw [i3.1, k8]
  have w9 : bx (ob_pR D9 B 8 (B + 29 + 2 * m + 80 + 2 * fr)) B m fr 9 := w8.step i4 (by omega) rfl
  obtain ⟨S10, D10, j1, j2, j5, j3, j4⟩ := ci_craft (S := S9) (D := ob_pR D9 B 8 (B + 29 + 2 * m + 80 + 2 * fr)) (p1 := B + 5) (p2 := B + 8) (p3 := B + 26) (p4 := B + 29 + 2 * m) (p5 := B + 29 + 2 * m + 80 + 2 * fr) hp1 hpt k9
  have k10 : S10.2.2.1 = B + 29 + 2 * m + 80 + 2 * fr + 9 := by rw [j3.1, k9]
  have w10 : bx (ob_pR D10 B 9 (B + 29 + 2 * m + 80 + 2 * fr + 7)) B m fr 10 := w9.step j4 (by omega) rfl
  have k10' : (ob_new S10 12 0 9).2.2.1 = B + 29 + 2 * m + 80 + 2 * fr + 10 := by rw [new_nx, k10]
  obtain ⟨S11, D11, l1, l2, l3, l4⟩ := ci_table (S := ob_new S10 12 0 9) (D := ob_z (ob_pR D10 B 9 (B + 29 + 2 * m + 80 + 2 * fr + 7)) (B + 29 + 2 * m + 80 + 2 * fr + 9)) (most := 8) (w := 12) (by decide) (by decide)
  rw [k10'] at l1 l2 l4
  have l1 : f_Table_init (B + 29 + 2 * m + 80 + 2 * fr + 10) 8 12 (ob_new (ob_new S10 12 0 9) 8 0 4) (ob_z (ob_z (ob_pR D10 B 9 (B + 29 + 2 * m + 80 + 2 * fr + 7)) (B + 29 + 2 * m + 80 + 2 * fr + 9)) (B + 29 + 2 * m + 80 + 2 * fr + 10)) = some (S11, D11) := l1
  have k11 : S11.2.2.1 = B + 29 + 2 * m + 80 + 2 * fr + 12 := by rw [l3.1, k10']
  have w10' : bx (ob_z (ob_pR D10 B 9 (B + 29 + 2 * m + 80 + 2 * fr + 7)) (B + 29 + 2 * m + 80 + 2 * fr + 9)) B m fr 10 := w10.z (by omega)
  have w11 : bx D11 B m fr 10 := fun k hk => by rw [(l4 B k (by omega)).2.1]; exact w10' k hk
  have o1011 : og (fun y k => y = B ∨ B + 29 + 2 * m + 80 + 2 * fr + 9 ≤ y) D10 D11 := ((og.pR (by omega)).tr (og.z (fun _ => by omega))).tr (l4.mono (fun y k e => by omega))
  have j5' : cCrA S11 D11 (B + 29 + 2 * m + 80 + 2 * fr + 7) (B + 5) (B + 8) (B + 26) (B + 29 + 2 * m) (B + 29 + 2 * m + 80 + 2 * fr) := j5.keep o1011 (by omega) (by rw [(l3.2.2 _ (by omega)).2, ((nx.new S10 12 0 9).2.2 _ (by omega)).2])
  obtain ⟨S12, D12, m1, m2, m5, m3, m4⟩ := ci_handler (S := S11) (D := D11) (h := B + 29 + 2 * m + 80 + 2 * fr + 9) (c := B + 29 + 2 * m + 80 + 2 * fr + 7) (f := B + 29 + 2 * m + 80 + 2 * fr + 10) (l := B + 29 + 2 * m + 71) (mm := B + 3) k11 (by omega) (by omega) j5'.2.1 j5'.2.2.1 j5'.2.2.2.1 j5'.2.2.2.2.1 (by omega) (by omega) (by omega) (by omega)
  have w12 : bx (ob_pR D12 B 10 (B + 29 + 2 * m + 80 + 2 * fr + 9)) B m fr 11 := w11.step m4 (by omega) rfl
  have N11 := m3
  have N10 := ((nx.new S10 12 0 9).tr l3).tr N11
  have N9 := j3.tr N10
  have N8 := i3.tr N9
  have N7 := h3.tr N8
  have N6 := g3.tr N7
  have N5 := f3.tr N6
  have N4 := e3.tr N5
  have N3 := d3.tr N4
  have N2 := c3.tr N3
  have N1 := b3.tr N2
  have N0 := (nx.new S 1 0 11).tr (a3.tr N1)
  have o12 : og (fun y _ => y = B) D12 (ob_pR D12 B 10 (B + 29 + 2 * m + 80 + 2 * fr + 9)) := og.pR rfl
  have o11 : og (fun y _ => y = B ∨ y = B + 29 + 2 * m + 80 + 2 * fr + 9 ∨ B + 29 + 2 * m + 80 + 2 * fr + 12 ≤ y) D11 (ob_pR D12 B 10 (B + 29 + 2 * m + 80 + 2 * fr + 9)) := (m4.mono (fun y k e => by omega)).tr (o12.mono (fun y k e => by omega))
  have o10 : og (fun y _ => y = B ∨ B + 29 + 2 * m + 80 + 2 * fr + 9 ≤ y) D10 (ob_pR D12 B 10 (B + 29 + 2 * m + 80 + 2 * fr + 9)) := o1011.tr (o11.mono (fun y k e => by omega))
  have o9 : og (fun y _ => y = B ∨ B + 29 + 2 * m + 80 + 2 * fr + 7 ≤ y) D9 (ob_pR D12 B 10 (B + 29 + 2 * m + 80 + 2 * fr + 9)) := ((og.pR (by omega)).tr (j4.mono (fun y k e => by omega))).tr (o10.mono (fun y k e => by omega))
  have o8 : og (fun y _ => y = B ∨ B + 29 + 2 * m + 80 + 2 * fr ≤ y) D8 (ob_pR D12 B 10 (B + 29 + 2 * m + 80 + 2 * fr + 9)) := ((og.pR (by omega)).tr (i4.mono (fun y k e => by omega))).tr (o9.mono (fun y k e => by omega))
  have o7 : og (fun y _ => y = B ∨ B + 29 + 2 * m + 73 ≤ y) D7 (ob_pR D12 B 10 (B + 29 + 2 * m + 80 + 2 * fr + 9)) := ((og.pR (by omega)).tr (h4.mono (fun y k e => by omega))).tr (o8.mono (fun y k e => by omega))
  have o6 : og (fun y _ => y = B ∨ B + 29 + 2 * m + 71 ≤ y) D6 (ob_pR D12 B 10 (B + 29 + 2 * m + 80 + 2 * fr + 9)) := ((og.pR (by omega)).tr (g4.mono (fun y k e => by omega))).tr (o7.mono (fun y k e => by omega))
  have o5 : og (fun y _ => y = B ∨ B + 29 + 2 * m ≤ y) D5 (ob_pR D12 B 10 (B + 29 + 2 * m + 80 + 2 * fr + 9)) := ((og.pR (by omega)).tr (f4.mono (fun y k e => by omega))).tr (o6.mono (fun y k e => by omega))
  have o4 : og (fun y _ => y = B ∨ B + 26 ≤ y) D4 (ob_pR D12 B 10 (B + 29 + 2 * m + 80 + 2 * fr + 9)) := ((og.pR (by omega)).tr (e4.mono (fun y k e => by omega))).tr (o5.mono (fun y k e => by omega))
  have o3 : og (fun y _ => y = B ∨ B + 8 ≤ y) D3 (ob_pR D12 B 10 (B + 29 + 2 * m + 80 + 2 * fr + 9)) := ((og.pR (by omega)).tr (d4.mono (fun y k e => by omega))).tr (o4.mono (fun y k e => by omega))
  have o2 : og (fun y _ => y = B ∨ B + 5 ≤ y) (ob_pI (ob_pR D2 B 1 (B + 3)) (B + 3) 1 4096) (ob_pR D12 B 10 (B + 29 + 2 * m + 80 + 2 * fr + 9)) := (c4.mono (fun y k e => by omega)).tr (o3.mono (fun y k e => by omega))
  have o1 : og (fun y _ => y = B ∨ B + 3 ≤ y) D1 (ob_pR D12 B 10 (B + 29 + 2 * m + 80 + 2 * fr + 9)) := ((((og.pR (by omega)).tr (b4.mono (fun y k e => by omega))).tr (og.pR (by omega))).tr (og.pI (by omega))).tr (o2.mono (fun y k e => by omega))
  have gB1 : og (fun y k => y = B) D2 (ob_pR D2 B 1 (B + 3)) := og.pR rfl
  have hme : rw_at S2 (ob_pI (ob_pR D2 B 1 (B + 3)) (B + 3) 1 4096) (B + 3) (B + 4) 4096 (List.replicate 4096 0) := rw_full (b2.keep (S' := S2) gB1 (by omega) (by omega) rfl) (fun j => b0 j) (by omega)
  refine ⟨S12, ob_pR D12 B 10 (B + 29 + 2 * m + 80 + 2 * fr + 9), ?_, ⟨?_, a2.keep o1 (by omega) (by omega) (N1.2.2 _ (by omega)).2, ⟨[], ⟨d2.keep o4 (by omega) (fun y u v => (N4.2.2 y (by omega)).2), c2.keep o3 (by omega) (fun y u v => (N3.2.2 y (by omega)).2), e2.keep o5 (by omega) (fun y u v => (N5.2.2 y (by omega)).2), f2.keep o6 (by omega) (fun y u v => (N6.2.2 y (by omega)).2), ⟨g2.keep o7 (by omega) (by omega) (N7.2.2 _ (by omega)).2, trivial, fun f hf => absurd hf List.not_mem_nil⟩, h2.keep o8 (by omega) (fun y u v => (N8.2.2 y (by omega)).2), i2.keep o9 (by omega) (fun y u v => (N9.2.2 y (by omega)).2), j5.keep o10 (by omega) (N10.2.2 _ (by omega)).2, j2.keep o10 (by omega) (by omega), ⟨l2.keep o11 (by omega) (by omega) (N11.2.2 _ (by omega)).2, trivial, fun f hf => absurd hf List.not_mem_nil⟩, hme.keep o2 (by omega) (by omega) (N2.2.2 _ (by omega)).2, ?_⟩, ⟨[], i5.keep o9 (by omega) (by omega) (N9.2.2 _ (by omega)).2⟩, m5.keep (S' := S12) o12 (by omega) (by omega) rfl⟩⟩, ?_, ?_⟩
  · unfold f_Box_init
    simp only [ob_lt]
    rw [hS0, bd_s a1, k1, bd_s b1, show (ob_pR D2 B 1 (B + 3)).2.1 B 1 = B + 3 from pR_self, ob_gt_t (show B + 3 ≠ 0 by omega), k2, bd_s c1, k3, bd_s d1, k4, bd_s (y1 _ _), bd_s e1, k5, bd_s f1, k6, bd_s g1, k7, bd_s (y2 _ _), bd_s (y3 _ _), bd_s h1, k8]
    rw [show (ob_z (ob_pR D8 B 7 (B + 29 + 2 * m + 73)) (B + 29 + 2 * m + 80 + 2 * fr)).2.1 B 7 = B + 29 + 2 * m + 73 from (w8.z (by omega)) 7 (by decide)]
    rw [show (ob_z (ob_pR D8 B 7 (B + 29 + 2 * m + 73)) (B + 29 + 2 * m + 80 + 2 * fr)).2.1 (B + 29 + 2 * m + 73) 0 = B + 29 + 2 * m + 74 from by
      rw [((og.z (P := fun y _ => y = B + 29 + 2 * m + 80 + 2 * fr) (fun _ => rfl)) (B + 29 + 2 * m + 73) 0 (by omega)).2.1, pR_ne (by omega)]
      exact h2.1.1]
    rw [ob_gt_t (show B + 29 + 2 * m + 73 ≠ 0 by omega), ob_gt_t (show B + 29 + 2 * m + 74 ≠ 0 by omega), bd_s (y5 _ _), bd_s i1, k9, bd_s (y4 _ _)]
    have w9' : bx (ob_z (ob_pR D9 B 8 (B + 29 + 2 * m + 80 + 2 * fr)) (B + 29 + 2 * m + 80 + 2 * fr + 7)) B m fr 9 := w9.z (by omega)
    rw [show (ob_z (ob_pR D9 B 8 (B + 29 + 2 * m + 80 + 2 * fr)) (B + 29 + 2 * m + 80 + 2 * fr + 7)).2.1 B 2 = B + 5 from w9' 2 (by decide), show (ob_z (ob_pR D9 B 8 (B + 29 + 2 * m + 80 + 2 * fr)) (B + 29 + 2 * m + 80 + 2 * fr + 7)).2.1 B 3 = B + 8 from w9' 3 (by decide), show (ob_z (ob_pR D9 B 8 (B + 29 + 2 * m + 80 + 2 * fr)) (B + 29 + 2 * m + 80 + 2 * fr + 7)).2.1 B 4 = B + 26 from w9' 4 (by decide), show (ob_z (ob_pR D9 B 8 (B + 29 + 2 * m + 80 + 2 * fr)) (B + 29 + 2 * m + 80 + 2 * fr + 7)).2.1 B 5 = B + 29 + 2 * m from w9' 5 (by decide), show (ob_z (ob_pR D9 B 8 (B + 29 + 2 * m + 80 + 2 * fr)) (B + 29 + 2 * m + 80 + 2 * fr + 7)).2.1 B 8 = B + 29 + 2 * m + 80 + 2 * fr from w9' 8 (by decide)]
    rw [ob_gt_t (show B + 5 ≠ 0 by omega), ob_gt_t (show B + 8 ≠ 0 by omega), ob_gt_t (show B + 26 ≠ 0 by omega), ob_gt_t (show B + 29 + 2 * m ≠ 0 by omega), ob_gt_t (show B + 29 + 2 * m + 80 + 2 * fr ≠ 0 by omega), bd_s j1, k10]
    rw [show (ob_z (ob_pR D10 B 9 (B + 29 + 2 * m + 80 + 2 * fr + 7)) (B + 29 + 2 * m + 80 + 2 * fr + 9)).2.1 B 9 = B + 29 + 2 * m + 80 + 2 * fr + 7 from w10' 9 (by decide)]
    rw [ob_gt_t (show B + 29 + 2 * m + 80 + 2 * fr + 7 ≠ 0 by omega), k10', bd_s l1]
    rw [show D11.2.1 B 6 = B + 29 + 2 * m + 71 from w11 6 (by decide), show D11.2.1 B 1 = B + 3 from w11 1 (by decide)]
    rw [ob_gt_t (show B + 29 + 2 * m + 71 ≠ 0 by omega), ob_gt_t (show B + 3 ≠ 0 by omega), bd_s m1]
  · exact ⟨w12 0 (by decide), w12 1 (by decide), w12 2 (by decide), w12 3 (by decide), w12 4 (by decide), w12 5 (by decide), w12 6 (by decide), w12 7 (by decide), w12 8 (by decide), w12 9 (by decide), w12 10 (by decide)⟩
  · obtain ⟨v0, v1, v2, v3, v4, v5, v6, v7, v8⟩ := m2
    have oo : ∀ k, (ob_pR D12 B 10 (B + 29 + 2 * m + 80 + 2 * fr + 9)).2.1 (B + 29 + 2 * m + 80 + 2 * fr + 9) k = D12.2.1 (B + 29 + 2 * m + 80 + 2 * fr + 9) k := fun k => pR_ne (by omega)
    exact ⟨(oo _).trans v0, (oo _).trans v1, (oo _).trans v2, (oo _).trans v3, (oo _).trans v4, (oo _).trans v5, (oo _).trans v6, (oo _).trans v7, (oo _).trans v8, (N9.2.2 _ (by omega)).1.trans i6⟩
  · rw [m3.1, k11]
  · have hq : (2 + F) * fr ≤ 258 * 4 := Nat.mul_le_mul (by omega) hfr
    have hs := N0.2.1
    omega
