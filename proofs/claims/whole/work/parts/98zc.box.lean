-- ===== what the class's own constructor makes, stage by stage =====
def rk_10 (v0 : Nat) (v1 v2 v3 v4 v5 : Int32) (a : Nat) (S213 : ob_S) (D214 : ob_D) : Option (ob_S × ob_D) :=
  ob_lt (ob_pR D214 v0 10 a) fun D218 => some (S213, D218)
def rk_9 (v0 : Nat) (v1 v2 v3 v4 v5 : Int32) (a : Nat) (S173 : ob_S) (D174 : ob_D) : Option (ob_S × ob_D) :=
  ob_lt (ob_pR D174 v0 9 a) fun D178 => ob_lt (ob_new S173 12 0 9) fun S180 => ob_lt (ob_z D178 S173.2.2.1) fun D181 => ob_gt (D181.2.1 v0 9 ≠ 0) <| ob_lt (ob_new S180 8 0 4) fun S190 => ob_lt (ob_z D181 S180.2.2.1) fun D191 => ob_bd (f_Table_init (S180.2.2.1) (8 : Int32) (12 : Int32) S190 D191) fun S198 D199 => ob_gt (D199.2.1 v0 6 ≠ 0) <| ob_gt (D199.2.1 v0 1 ≠ 0) <| ob_bd (f_Handler_init (S173.2.2.1) (D181.2.1 v0 9) (S180.2.2.1) (D199.2.1 v0 6) (D199.2.1 v0 1) S198 D199) fun S213 D214 => rk_10 v0 v1 v2 v3 v4 v5 (S173.2.2.1) S213 D214
def rk_8 (v0 : Nat) (v1 v2 v3 v4 v5 : Int32) (a : Nat) (S137 : ob_S) (D138 : ob_D) : Option (ob_S × ob_D) :=
  ob_lt (ob_pR D138 v0 8 a) fun D142 => ob_lt (ob_new S137 11 0 13) fun S144 => ob_lt (ob_z D142 S137.2.2.1) fun D145 => ob_bd (f_Box_nearest S144 v4 (1 : Int32) (100 : Int32) D145) fun x152 D150 => ob_gt (D150.2.1 v0 2 ≠ 0) <| ob_gt (D150.2.1 v0 3 ≠ 0) <| ob_gt (D150.2.1 v0 4 ≠ 0) <| ob_gt (D150.2.1 v0 5 ≠ 0) <| ob_gt (D150.2.1 v0 8 ≠ 0) <| ob_bd (f_Craft_init (S137.2.2.1) x152 (D150.2.1 v0 2) (D150.2.1 v0 3) (D150.2.1 v0 4) (D150.2.1 v0 5) (D150.2.1 v0 8) S144 D150) fun S173 D174 => rk_9 v0 v1 v2 v3 v4 v5 (S137.2.2.1) S173 D174
def rk_7 (v0 : Nat) (v1 v2 v3 v4 v5 : Int32) (a : Nat) (S113 : ob_S) (D114 : ob_D) : Option (ob_S × ob_D) :=
  ob_lt (ob_pR D114 v0 7 a) fun D118 => ob_lt (ob_new S113 9 0 12) fun S120 => ob_lt (ob_z D118 S113.2.2.1) fun D121 => ob_gt (D121.2.1 v0 7 ≠ 0) <| ob_gt (D121.2.1 (D121.2.1 v0 7) 0 ≠ 0) <| ob_bd (f_Box_nearest S120 v5 (64 : Int32) (16384 : Int32) D121) fun x136 D134 => ob_bd (f_Reports_init (S113.2.2.1) (D121.2.1 (D121.2.1 v0 7) 0) x136 S120 D134) fun S137 D138 => rk_8 v0 v1 v2 v3 v4 v5 (S113.2.2.1) S137 D138
def rk_6 (v0 : Nat) (v1 v2 v3 v4 v5 : Int32) (a : Nat) (S94 : ob_S) (D95 : ob_D) : Option (ob_S × ob_D) :=
  ob_lt (ob_pR D95 v0 6 a) fun D99 => ob_lt (ob_new S94 10 0 7) fun S101 => ob_lt (ob_z D99 S94.2.2.1) fun D102 => ob_bd (f_Box_nearest S101 v2 (64 : Int32) (256 : Int32) D102) fun x109 D107 => ob_bd (f_Box_nearest S101 v3 (1 : Int32) (4 : Int32) D107) fun x112 D110 => ob_bd (f_Downlink_init (S94.2.2.1) x109 x112 S101 D110) fun S113 D114 => rk_7 v0 v1 v2 v3 v4 v5 (S94.2.2.1) S113 D114
def rk_5 (v0 : Nat) (v1 v2 v3 v4 v5 : Int32) (a : Nat) (S81 : ob_S) (D82 : ob_D) : Option (ob_S × ob_D) :=
  ob_lt (ob_pR D82 v0 5 a) fun D86 => ob_lt (ob_new S81 8 0 4) fun S88 => ob_lt (ob_z D86 S81.2.2.1) fun D89 => ob_bd (f_Table_init (S81.2.2.1) (16 : Int32) (9 : Int32) S88 D89) fun S94 D95 => rk_6 v0 v1 v2 v3 v4 v5 (S81.2.2.1) S94 D95
def rk_4 (v0 : Nat) (v1 v2 v3 v4 v5 : Int32) (a : Nat) (S68 : ob_S) (D69 : ob_D) : Option (ob_S × ob_D) :=
  ob_lt (ob_pR D69 v0 4 a) fun D73 => ob_lt (ob_new S68 7 0 6) fun S75 => ob_lt (ob_z D73 S68.2.2.1) fun D76 => ob_bd (f_Events_init (S68.2.2.1) S75 D76) fun S81 D82 => rk_5 v0 v1 v2 v3 v4 v5 (S68.2.2.1) S81 D82
def rk_3 (v0 : Nat) (v1 v2 v3 v4 v5 : Int32) (a : Nat) (S52 : ob_S) (D53 : ob_D) : Option (ob_S × ob_D) :=
  ob_lt (ob_pR D53 v0 3 a) fun D57 => ob_lt (ob_new S52 6 0 4) fun S59 => ob_lt (ob_z D57 S52.2.2.1) fun D60 => ob_bd (f_Box_nearest S59 v1 (1 : Int32) (64 : Int32) D60) fun x67 D65 => ob_bd (f_Timetable_init (S52.2.2.1) x67 S59 D65) fun S68 D69 => rk_4 v0 v1 v2 v3 v4 v5 (S52.2.2.1) S68 D69
def rk_2 (v0 : Nat) (v1 v2 v3 v4 v5 : Int32) (a : Nat) (S39 : ob_S) (D40 : ob_D) : Option (ob_S × ob_D) :=
  ob_lt (ob_pR D40 v0 2 a) fun D44 => ob_lt (ob_new S39 5 0 10) fun S46 => ob_lt (ob_z D44 S39.2.2.1) fun D47 => ob_bd (f_Gate_init (S39.2.2.1) S46 D47) fun S52 D53 => rk_3 v0 v1 v2 v3 v4 v5 (S39.2.2.1) S52 D53
def rk_1 (v0 : Nat) (v1 v2 v3 v4 v5 : Int32) (a : Nat) (S20 : ob_S) (D21 : ob_D) : Option (ob_S × ob_D) :=
  ob_lt (ob_pR D21 v0 1 a) fun D25 => ob_gt (D25.2.1 v0 1 ≠ 0) <| ob_lt (ob_pI D25 (D25.2.1 v0 1) 1 (4096 : Int32)) fun D31 => ob_lt (ob_new S20 4 0 7) fun S33 => ob_lt (ob_z D31 S20.2.2.1) fun D34 => ob_bd (f_Receiver_init (S20.2.2.1) S33 D34) fun S39 D40 => rk_2 v0 v1 v2 v3 v4 v5 (S20.2.2.1) S39 D40
def rk_0 (v0 : Nat) (v1 v2 v3 v4 v5 : Int32) (a : Nat) (S7 : ob_S) (D8 : ob_D) : Option (ob_S × ob_D) :=
  ob_lt (ob_pR D8 v0 0 a) fun D12 => ob_lt (ob_new S7 2 0 2) fun S14 => ob_lt (ob_z D12 S7.2.2.1) fun D15 => ob_bd (f_Row_init (S7.2.2.1) (4096 : Int32) S14 D15) fun S20 D21 => rk_1 v0 v1 v2 v3 v4 v5 (S7.2.2.1) S20 D21
theorem rk_eq (v0 : Nat) (v1 v2 v3 v4 v5 : Int32) (S : ob_S) (D : ob_D) : f_Box_init v0 v1 v2 v3 v4 v5 S D = (ob_lt (ob_new S 2 0 2) fun S1 => ob_lt (ob_z D S.2.2.1) fun D2 => ob_bd (f_Row_init (S.2.2.1) (4096 : Int32) S1 D2) fun S7 D8 => rk_0 v0 v1 v2 v3 v4 v5 (S.2.2.1) S7 D8) := rfl
def g_9 (S : ob_S) (D : ob_D) (B m F fr pt w : Nat) (me : List Nat) : Prop := (cFm S D (B + 29 + 2 * m + 80 + 2 * fr + 10) [] ∧ (D.2.1 (B + 29 + 2 * m + 80 + 2 * fr + 9) 0 = B + 29 + 2 * m + 80 + 2 * fr + 7 ∧ D.2.1 (B + 29 + 2 * m + 80 + 2 * fr + 9) 1 = B + 8 ∧ D.2.1 (B + 29 + 2 * m + 80 + 2 * fr + 9) 2 = B + 26 ∧ D.2.1 (B + 29 + 2 * m + 80 + 2 * fr + 9) 3 = B + 29 + 2 * m ∧ D.2.1 (B + 29 + 2 * m + 80 + 2 * fr + 9) 4 = B + 29 + 2 * m + 80 + 2 * fr ∧ D.2.1 (B + 29 + 2 * m + 80 + 2 * fr + 9) 5 = B + 29 + 2 * m + 80 + 2 * fr + 10 ∧ D.2.1 (B + 29 + 2 * m + 80 + 2 * fr + 9) 6 = B + 29 + 2 * m + 71 ∧ D.2.1 (B + 29 + 2 * m + 80 + 2 * fr + 9) 7 = B + 3 ∧ D.2.1 (B + 29 + 2 * m + 80 + 2 * fr + 9) 8 = B + 29 + 2 * m + 80 + 2 * fr + 12) ∧ rw_at S D (B + 29 + 2 * m + 80 + 2 * fr + 12) (B + 29 + 2 * m + 80 + 2 * fr + 13) 252 [])
def g_8 (S : ob_S) (D : ob_D) (B m F fr pt w : Nat) (me : List Nat) : Prop := (cCrA S D (B + 29 + 2 * m + 80 + 2 * fr + 7) (B + 5) (B + 8) (B + 26) (B + 29 + 2 * m) (B + 29 + 2 * m + 80 + 2 * fr) ∧ cCrF D (B + 29 + 2 * m + 80 + 2 * fr + 7) pt (fun _ => 0, 1, 0, none, 0, 0, 0)) ∧ g_9 S D B m F fr pt w me
def g_7 (S : ob_S) (D : ob_D) (B m F fr pt w : Nat) (me : List Nat) : Prop := (cRp S D (B + 29 + 2 * m + 80 + 2 * fr) (B + 29 + 2 * m + 74) w ([], fun _ => false, fun _ _ => 0, 0, 0, false, 0, 0, 0) ∧ rw_at S D (B + 29 + 2 * m + 80 + 2 * fr + 3) (B + 29 + 2 * m + 80 + 2 * fr + 4) 277 [] ∧ S.1 (B + 29 + 2 * m + 80 + 2 * fr + 3) = 2) ∧ g_8 S D B m F fr pt w me
def g_6 (S : ob_S) (D : ob_D) (B m F fr pt w : Nat) (me : List Nat) : Prop := (cDn S D (B + 29 + 2 * m + 73) fr F ([], [], fun _ => 0, 0) []) ∧ g_7 S D B m F fr pt w me
def g_5 (S : ob_S) (D : ob_D) (B m F fr pt w : Nat) (me : List Nat) : Prop := (cLm S D (B + 29 + 2 * m + 71) []) ∧ g_6 S D B m F fr pt w me
def g_4 (S : ob_S) (D : ob_D) (B m F fr pt w : Nat) (me : List Nat) : Prop := (cEv S D (B + 29 + 2 * m) ([], fun _ => false, fun _ => false, fun _ => false, fun _ => [], 0)) ∧ g_5 S D B m F fr pt w me
def g_3 (S : ob_S) (D : ob_D) (B m F fr pt w : Nat) (me : List Nat) : Prop := (cTt S D (B + 26) m [] false) ∧ g_4 S D B m F fr pt w me
def g_2 (S : ob_S) (D : ob_D) (B m F fr pt w : Nat) (me : List Nat) : Prop := (cGt S D (B + 8) (1, 0, 0, false, false, 0, 0, [])) ∧ g_3 S D B m F fr pt w me
def g_1 (S : ob_S) (D : ob_D) (B m F fr pt w : Nat) (me : List Nat) : Prop := (cRc S D (B + 5) (false, 0, 0, [], [], 0) ∧ rw_at S D (B + 3) (B + 4) 4096 me) ∧ g_2 S D B m F fr pt w me
theorem t_10 {S : ob_S} {D : ob_D} {B m fr : Nat} {x1 x2 x3 x4 x5 : Int32} (hS : S.2.2.1 = B + 29 + 2 * m + 80 + 2 * fr + 14) (hb : bx D B m fr 10) : ∃ S' D', rk_10 B x1 x2 x3 x4 x5 (B + 29 + 2 * m + 80 + 2 * fr + 9) S D = some (S', D') ∧ S' = S ∧ tl S D B m fr 10 (B + 29 + 2 * m + 80 + 2 * fr + 14) 0 S' D' :=
  ⟨S, ob_pR D B 10 (B + 29 + 2 * m + 80 + 2 * fr + 9), rfl, rfl, og.pR (Or.inl ⟨rfl, Nat.le_refl _⟩), fun _ _ => ⟨rfl, rfl⟩, hS, Nat.le_refl _, hb.lay rfl⟩
def hd9 (D : ob_D) (h c g t e r f l mm q : Nat) : Prop := D.2.1 h 0 = c ∧ D.2.1 h 1 = g ∧ D.2.1 h 2 = t ∧ D.2.1 h 3 = e ∧ D.2.1 h 4 = r ∧ D.2.1 h 5 = f ∧ D.2.1 h 6 = l ∧ D.2.1 h 7 = mm ∧ D.2.1 h 8 = q
theorem t_9 {S : ob_S} {D : ob_D} {B m F fr pt w : Nat} {me : List Nat} {x1 x2 x3 x4 x5 : Int32} (hS : S.2.2.1 = B + 29 + 2 * m + 80 + 2 * fr + 9) (hb : bx D B m fr 9) (hc : cCrA S D (B + 29 + 2 * m + 80 + 2 * fr + 7) (B + 5) (B + 8) (B + 26) (B + 29 + 2 * m) (B + 29 + 2 * m + 80 + 2 * fr)) : ∃ S' D', rk_9 B x1 x2 x3 x4 x5 (B + 29 + 2 * m + 80 + 2 * fr + 7) S D = some (S', D') ∧ g_9 S' D' B m F fr pt w me ∧ tl S D B m fr 9 (B + 29 + 2 * m + 80 + 2 * fr + 9) 363 S' D' := by
  have b1 := hb.lay (x := B + 29 + 2 * m + 80 + 2 * fr + 7) rfl
  have gz : og (fun y _ => y = B + 29 + 2 * m + 80 + 2 * fr + 9) (ob_pR D B 9 (B + 29 + 2 * m + 80 + 2 * fr + 7)) (ob_z (ob_pR D B 9 (B + 29 + 2 * m + 80 + 2 * fr + 7)) (B + 29 + 2 * m + 80 + 2 * fr + 9)) := og.z (fun _ => rfl)
  have b2 : bx (ob_z (ob_pR D B 9 (B + 29 + 2 * m + 80 + 2 * fr + 7)) (B + 29 + 2 * m + 80 + 2 * fr + 9)) B m fr 10 := b1.keep gz (fun k q => by omega)
  have k1 : (ob_new S 12 0 9).2.2.1 = B + 29 + 2 * m + 80 + 2 * fr + 10 := by rw [new_nx, hS]
  have n1 := nx.new S 12 0 9
  obtain ⟨S1, D1, l1, l2, l3, l4⟩ := ci_table (S := ob_new S 12 0 9) (D := ob_z (ob_pR D B 9 (B + 29 + 2 * m + 80 + 2 * fr + 7)) (B + 29 + 2 * m + 80 + 2 * fr + 9)) (most := 8) (w := 12) (by decide) (by decide)
  rw [k1] at l1 l2 l4
  have l1 : f_Table_init (B + 29 + 2 * m + 80 + 2 * fr + 10) 8 12 (ob_new (ob_new S 12 0 9) 8 0 4) (ob_z (ob_z (ob_pR D B 9 (B + 29 + 2 * m + 80 + 2 * fr + 7)) (B + 29 + 2 * m + 80 + 2 * fr + 9)) (B + 29 + 2 * m + 80 + 2 * fr + 10)) = some (S1, D1) := l1
  have k2 : S1.2.2.1 = B + 29 + 2 * m + 80 + 2 * fr + 12 := by rw [l3.1, k1]
  have b3 : bx D1 B m fr 10 := b2.keep l4 (fun k q => by omega)
  have gB : og (fun y _ => y = B) D (ob_pR D B 9 (B + 29 + 2 * m + 80 + 2 * fr + 7)) := og.pR rfl
  have hc1 : cCrA S1 D1 (B + 29 + 2 * m + 80 + 2 * fr + 7) (B + 5) (B + 8) (B + 26) (B + 29 + 2 * m) (B + 29 + 2 * m + 80 + 2 * fr) := ((hc.keep (S' := S) gB (fun k _ _ q => by omega) rfl).keep (S' := S) gz (fun k _ _ q => by omega) rfl).keep l4 (fun k _ _ q => by omega) (by rw [(l3.2.2 _ (by rw [k1]; omega)).2, (n1.2.2 _ (by rw [hS]; omega)).2])
  obtain ⟨S2, D2, m1, m2, m5, m3, m4⟩ := ci_handler (S := S1) (D := D1) (h := B + 29 + 2 * m + 80 + 2 * fr + 9) (c := B + 29 + 2 * m + 80 + 2 * fr + 7) (f := B + 29 + 2 * m + 80 + 2 * fr + 10) (l := B + 29 + 2 * m + 71) (mm := B + 3) k2 (by omega) (by omega) hc1.2.1 hc1.2.2.1 hc1.2.2.2.1 hc1.2.2.2.2.1 (Nat.succ_ne_zero _) (Nat.succ_ne_zero _) (by omega) (by omega)
  replace m2 : hd9 D2 (B + 29 + 2 * m + 80 + 2 * fr + 9) (B + 29 + 2 * m + 80 + 2 * fr + 7) (B + 8) (B + 26) (B + 29 + 2 * m) (B + 29 + 2 * m + 80 + 2 * fr) (B + 29 + 2 * m + 80 + 2 * fr + 10) (B + 29 + 2 * m + 71) (B + 3) (B + 29 + 2 * m + 80 + 2 * fr + 12) := m2
  have k3 : S2.2.2.1 = B + 29 + 2 * m + 80 + 2 * fr + 14 := by rw [m3.1, k2]
  have b4 : bx D2 B m fr 10 := b3.keep m4 (fun k q => by omega)
  obtain ⟨S', D', t1, t2, t3⟩ := t_10 (x1 := x1) (x2 := x2) (x3 := x3) (x4 := x4) (x5 := x5) k3 b4
  subst t2
  have g2 : og (fun y _ => B + 29 + 2 * m + 80 + 2 * fr + 9 ≤ y ∧ y < B + 29 + 2 * m + 80 + 2 * fr + 14) (ob_pR D B 9 (B + 29 + 2 * m + 80 + 2 * fr + 7)) D2 := ((gz.mono (fun y k q => by omega)).tr (l4.mono (fun y k q => by omega))).tr (m4.mono (fun y k q => by omega))
  have nn := (n1.tr l3).tr m3
  refine ⟨S', D', ?_, ⟨⟨?_, trivial, fun f hf => absurd hf List.not_mem_nil⟩, ?_, ?_⟩, (t3.step nn g2 hS (by omega))⟩
  · unfold rk_9
    simp only [ob_lt]
    rw [hS, show (ob_z (ob_pR D B 9 (B + 29 + 2 * m + 80 + 2 * fr + 7)) (B + 29 + 2 * m + 80 + 2 * fr + 9)).2.1 B 9 = B + 29 + 2 * m + 80 + 2 * fr + 7 from b2 9 (by decide), ob_gt_t (show B + 29 + 2 * m + 80 + 2 * fr + 7 ≠ 0 from Nat.succ_ne_zero _), k1, bd_s l1, show D1.2.1 B 6 = B + 29 + 2 * m + 71 from b3 6 (by decide), show D1.2.1 B 1 = B + 3 from b3 1 (by decide), ob_gt_t (show B + 29 + 2 * m + 71 ≠ 0 from Nat.succ_ne_zero _), ob_gt_t (show B + 3 ≠ 0 from Nat.succ_ne_zero _), bd_s m1]
    exact t1
  · refine (l2.keep (S' := S') m4 (fun k q => by omega) (fun k q => by omega) (m3.2.2 _ (by rw [k2]; omega)).2).keep (S' := S') t3.1 (fun k q => by omega) (fun k q => by omega) rfl
  · have oo : ∀ k, D'.2.1 (B + 29 + 2 * m + 80 + 2 * fr + 9) k = D2.2.1 (B + 29 + 2 * m + 80 + 2 * fr + 9) k := fun k => (t3.1 _ _ (fun q => by omega)).2.1
    obtain ⟨v0, v1, v2, v3, v4, v5, v6, v7, v8⟩ := m2
    exact ⟨(oo _).trans v0, (oo _).trans v1, (oo _).trans v2, (oo _).trans v3, (oo _).trans v4, (oo _).trans v5, (oo _).trans v6, (oo _).trans v7, (oo _).trans v8⟩
  · exact m5.keep (S' := S') t3.1 (fun k q => by omega) (fun k q => by omega) rfl
theorem t_8 {S : ob_S} {D : ob_D} {B m F fr pt w : Nat} {me : List Nat} {x1 x2 x3 x4 x5 : Int32} (hS : S.2.2.1 = B + 29 + 2 * m + 80 + 2 * fr + 7) (hb : bx D B m fr 8) (hp1 : 1 ≤ pt) (hpt : pt ≤ 100) (y4 : ∀ S D, f_Box_nearest S x4 1 100 D = some (N32 pt, D)) : ∃ S' D', rk_8 B x1 x2 x3 x4 x5 (B + 29 + 2 * m + 80 + 2 * fr) S D = some (S', D') ∧ g_8 S' D' B m F fr pt w me ∧ tl S D B m fr 8 (B + 29 + 2 * m + 80 + 2 * fr + 7) 400 S' D' := by
  have b1 := hb.lay (x := B + 29 + 2 * m + 80 + 2 * fr) rfl
  have gz : og (fun y _ => y = B + 29 + 2 * m + 80 + 2 * fr + 7) (ob_pR D B 8 (B + 29 + 2 * m + 80 + 2 * fr)) (ob_z (ob_pR D B 8 (B + 29 + 2 * m + 80 + 2 * fr)) (B + 29 + 2 * m + 80 + 2 * fr + 7)) := og.z (fun _ => rfl)
  have b2 : bx (ob_z (ob_pR D B 8 (B + 29 + 2 * m + 80 + 2 * fr)) (B + 29 + 2 * m + 80 + 2 * fr + 7)) B m fr 9 := b1.keep gz (fun k q => by omega)
  obtain ⟨S1, D1, c1, c2, c5, c3, c4⟩ := ci_craft (S := S) (D := ob_pR D B 8 (B + 29 + 2 * m + 80 + 2 * fr)) (p1 := B + 5) (p2 := B + 8) (p3 := B + 26) (p4 := B + 29 + 2 * m) (p5 := B + 29 + 2 * m + 80 + 2 * fr) hp1 hpt hS
  have c4 : og (fun y _ => B + 29 + 2 * m + 80 + 2 * fr + 7 ≤ y ∧ y < B + 29 + 2 * m + 80 + 2 * fr + 9) (ob_pR D B 8 (B + 29 + 2 * m + 80 + 2 * fr)) D1 := c4
  have k1 : S1.2.2.1 = B + 29 + 2 * m + 80 + 2 * fr + 9 := by rw [c3.1, hS]
  have b3 : bx D1 B m fr 9 := (b1.keep c4 (fun k q => by omega))
  obtain ⟨S', D', t1, t2, t3⟩ := t_9 (F := F) (pt := pt) (w := w) (me := me) (x1 := x1) (x2 := x2) (x3 := x3) (x4 := x4) (x5 := x5) k1 b3 c5
  refine ⟨S', D', ?_, ⟨⟨c5.keep t3.1 (fun k _ _ q => by omega) (t3.2.1 _ (by omega)).2, c2.keep t3.1 (fun k q => by omega) (fun k q => by omega)⟩, t2⟩, ?_⟩
  · unfold rk_8
    simp only [ob_lt]
    rw [hS, bd_s (y4 _ _)]
    rw [show (ob_z (ob_pR D B 8 (B + 29 + 2 * m + 80 + 2 * fr)) (B + 29 + 2 * m + 80 + 2 * fr + 7)).2.1 B 2 = B + 5 from b2 2 (by decide), show (ob_z (ob_pR D B 8 (B + 29 + 2 * m + 80 + 2 * fr)) (B + 29 + 2 * m + 80 + 2 * fr + 7)).2.1 B 3 = B + 8 from b2 3 (by decide), show (ob_z (ob_pR D B 8 (B + 29 + 2 * m + 80 + 2 * fr)) (B + 29 + 2 * m + 80 + 2 * fr + 7)).2.1 B 4 = B + 26 from b2 4 (by decide), show (ob_z (ob_pR D B 8 (B + 29 + 2 * m + 80 + 2 * fr)) (B + 29 + 2 * m + 80 + 2 * fr + 7)).2.1 B 5 = B + 29 + 2 * m from b2 5 (by decide), show (ob_z (ob_pR D B 8 (B + 29 + 2 * m + 80 + 2 * fr)) (B + 29 + 2 * m + 80 + 2 * fr + 7)).2.1 B 8 = B + 29 + 2 * m + 80 + 2 * fr from b2 8 (by decide)]
    rw [ob_gt_t (show B + 5 ≠ 0 from Nat.succ_ne_zero _), ob_gt_t (show B + 8 ≠ 0 from Nat.succ_ne_zero _), ob_gt_t (show B + 26 ≠ 0 from Nat.succ_ne_zero _), ob_gt_t (show B + 29 + 2 * m ≠ 0 by omega), ob_gt_t (show B + 29 + 2 * m + 80 + 2 * fr ≠ 0 by omega), bd_s c1]
    exact t1
  · exact ⟨(t3.step c3 c4 hS (by omega)).1, (t3.step c3 c4 hS (by omega)).2.1, t3.2.2.1, Nat.le_trans (t3.step c3 c4 hS (by omega)).2.2.2.1 (by omega), t3.2.2.2.2⟩
theorem t_7 {S : ob_S} {D : ob_D} {B m F fr pt w : Nat} {me : List Nat} {x1 x2 x3 x4 x5 : Int32} (hS : S.2.2.1 = B + 29 + 2 * m + 80 + 2 * fr) (hb : bx D B m fr 7) (hdn : D.2.1 (B + 29 + 2 * m + 73) 0 = B + 29 + 2 * m + 74) (hw1 : 64 ≤ w) (hw : w ≤ 16384) (y5 : ∀ S D, f_Box_nearest S x5 64 16384 D = some (N32 w, D)) (hp1 : 1 ≤ pt) (hpt : pt ≤ 100) (y4 : ∀ S D, f_Box_nearest S x4 1 100 D = some (N32 pt, D)) : ∃ S' D', rk_7 B x1 x2 x3 x4 x5 (B + 29 + 2 * m + 73) S D = some (S', D') ∧ g_7 S' D' B m F fr pt w me ∧ tl S D B m fr 7 (B + 29 + 2 * m + 80 + 2 * fr) (1800 + w) S' D' := by
  have b1 := hb.lay (x := B + 29 + 2 * m + 73) rfl
  have gz : og (fun y _ => y = B + 29 + 2 * m + 80 + 2 * fr) (ob_pR D B 7 (B + 29 + 2 * m + 73)) (ob_z (ob_pR D B 7 (B + 29 + 2 * m + 73)) (B + 29 + 2 * m + 80 + 2 * fr)) := og.z (fun _ => rfl)
  have b2 : bx (ob_z (ob_pR D B 7 (B + 29 + 2 * m + 73)) (B + 29 + 2 * m + 80 + 2 * fr)) B m fr 8 := b1.keep gz (fun k q => by omega)
  have hd0 : (ob_z (ob_pR D B 7 (B + 29 + 2 * m + 73)) (B + 29 + 2 * m + 80 + 2 * fr)).2.1 (B + 29 + 2 * m + 73) 0 = B + 29 + 2 * m + 74 := by
    rw [(gz _ _ (fun q => by omega)).2.1, pR_ne (by omega)]
    exact hdn
  obtain ⟨S1, D1, c1, c2, c5, c6, c3, c4⟩ := ci_reports (S := S) (D := ob_pR D B 7 (B + 29 + 2 * m + 73)) (L := B + 29 + 2 * m + 74) (w := w) (Nat.succ_ne_zero _) (by omega) (by omega) hS
  have k1 : S1.2.2.1 = B + 29 + 2 * m + 80 + 2 * fr + 7 := by rw [c3.1, hS]
  have b3 : bx D1 B m fr 8 := (b1.keep c4 (fun k q => by omega))
  obtain ⟨S', D', t1, t2, t3⟩ := t_8 (F := F) (pt := pt) (w := w) (me := me) (x1 := x1) (x2 := x2) (x3 := x3) (x4 := x4) (x5 := x5) k1 b3 hp1 hpt y4
  refine ⟨S', D', ?_, ⟨⟨c2.keep t3.1 (fun y k u v _ q => by omega) (fun y u v => (t3.2.1 y (by omega)).2), c5.keep t3.1 (fun k q => by omega) (fun k q => by omega) (t3.2.1 _ (by omega)).2, (t3.2.1 _ (by omega)).1.trans c6⟩, t2⟩, ?_⟩
  · unfold rk_7
    simp only [ob_lt]
    rw [hS, show (ob_z (ob_pR D B 7 (B + 29 + 2 * m + 73)) (B + 29 + 2 * m + 80 + 2 * fr)).2.1 B 7 = B + 29 + 2 * m + 73 from b2 7 (by decide), hd0, ob_gt_t (show B + 29 + 2 * m + 73 ≠ 0 from Nat.succ_ne_zero _), ob_gt_t (show B + 29 + 2 * m + 74 ≠ 0 from Nat.succ_ne_zero _), bd_s (y5 _ _), bd_s c1]
    exact t1
  · exact ⟨(t3.step c3 c4 hS (by omega)).1, (t3.step c3 c4 hS (by omega)).2.1, t3.2.2.1, Nat.le_trans (t3.step c3 c4 hS (by omega)).2.2.2.1 (by omega), t3.2.2.2.2⟩
theorem t_6 {S : ob_S} {D : ob_D} {B m F fr pt w : Nat} {me : List Nat} {x1 x2 x3 x4 x5 : Int32} (hS : S.2.2.1 = B + 29 + 2 * m + 73) (hb : bx D B m fr 6) (hF1 : 64 ≤ F) (hF : F ≤ 256) (hf1 : 1 ≤ fr) (hfr : fr ≤ 4) (y2 : ∀ S D, f_Box_nearest S x2 64 256 D = some (N32 F, D)) (y3 : ∀ S D, f_Box_nearest S x3 1 4 D = some (N32 fr, D)) (hw1 : 64 ≤ w) (hw : w ≤ 16384) (y5 : ∀ S D, f_Box_nearest S x5 64 16384 D = some (N32 w, D)) (hp1 : 1 ≤ pt) (hpt : pt ≤ 100) (y4 : ∀ S D, f_Box_nearest S x4 1 100 D = some (N32 pt, D)) : ∃ S' D', rk_6 B x1 x2 x3 x4 x5 (B + 29 + 2 * m + 71) S D = some (S', D') ∧ g_6 S' D' B m F fr pt w me ∧ tl S D B m fr 6 (B + 29 + 2 * m + 73) (12000 + w) S' D' := by
  have b1 := hb.lay (x := B + 29 + 2 * m + 71) rfl
  have hq : (2 + F) * fr ≤ 258 * 4 := Nat.mul_le_mul (by omega) hfr
  obtain ⟨S1, D1, c1, c2, c3, c4⟩ := ci_downlink (S := S) (D := ob_pR D B 6 (B + 29 + 2 * m + 71)) hF1 hF hf1 hfr hS
  have c4 : og (fun y _ => B + 29 + 2 * m + 73 ≤ y ∧ y < B + 29 + 2 * m + 80 + 2 * fr) (ob_pR D B 6 (B + 29 + 2 * m + 71)) D1 := c4.mono (fun y k q => by omega)
  have hdn : D1.2.1 (B + 29 + 2 * m + 73) 0 = B + 29 + 2 * m + 74 := c2.1.1
  have k1 : S1.2.2.1 = B + 29 + 2 * m + 80 + 2 * fr := by rw [c3.1, hS]; omega
  have b3 : bx D1 B m fr 7 := (b1.keep c4 (fun k q => by omega))
  obtain ⟨S', D', t1, t2, t3⟩ := t_7 (F := F) (pt := pt) (w := w) (me := me) (x1 := x1) (x2 := x2) (x3 := x3) (x4 := x4) (x5 := x5) k1 b3 hdn hw1 hw y5 hp1 hpt y4
  refine ⟨S', D', ?_, ⟨c2.keep t3.1 (fun y k u v q => by omega) (fun y u v => (t3.2.1 y (by omega)).2), t2⟩, ?_⟩
  · unfold rk_6
    simp only [ob_lt]
    rw [hS, bd_s (y2 _ _), bd_s (y3 _ _), bd_s c1]
    exact t1
  · exact ⟨(t3.step c3 c4 hS (by omega)).1, (t3.step c3 c4 hS (by omega)).2.1, t3.2.2.1, Nat.le_trans (t3.step c3 c4 hS (by omega)).2.2.2.1 (by omega), t3.2.2.2.2⟩
theorem t_5 {S : ob_S} {D : ob_D} {B m F fr pt w : Nat} {me : List Nat} {x1 x2 x3 x4 x5 : Int32} (hS : S.2.2.1 = B + 29 + 2 * m + 71) (hb : bx D B m fr 5) (hF1 : 64 ≤ F) (hF : F ≤ 256) (hf1 : 1 ≤ fr) (hfr : fr ≤ 4) (y2 : ∀ S D, f_Box_nearest S x2 64 256 D = some (N32 F, D)) (y3 : ∀ S D, f_Box_nearest S x3 1 4 D = some (N32 fr, D)) (hw1 : 64 ≤ w) (hw : w ≤ 16384) (y5 : ∀ S D, f_Box_nearest S x5 64 16384 D = some (N32 w, D)) (hp1 : 1 ≤ pt) (hpt : pt ≤ 100) (y4 : ∀ S D, f_Box_nearest S x4 1 100 D = some (N32 pt, D)) : ∃ S' D', rk_5 B x1 x2 x3 x4 x5 (B + 29 + 2 * m) S D = some (S', D') ∧ g_5 S' D' B m F fr pt w me ∧ tl S D B m fr 5 (B + 29 + 2 * m + 71) (12200 + w) S' D' := by
  have b1 := hb.lay (x := B + 29 + 2 * m) rfl
  obtain ⟨S1, D1, c1, c2, c3, c4⟩ := ci_table (S := S) (D := ob_pR D B 5 (B + 29 + 2 * m)) (most := 16) (w := 9) (by decide) (by decide)
  rw [hS] at c1 c2 c4
  have c1 : f_Table_init (B + 29 + 2 * m + 71) 16 9 (ob_new S 8 0 4) (ob_z (ob_pR D B 5 (B + 29 + 2 * m)) (B + 29 + 2 * m + 71)) = some (S1, D1) := c1
  have k1 : S1.2.2.1 = B + 29 + 2 * m + 73 := by rw [c3.1, hS]
  have b3 : bx D1 B m fr 6 := (b1.keep c4 (fun k q => by omega))
  obtain ⟨S', D', t1, t2, t3⟩ := t_6 (F := F) (pt := pt) (w := w) (me := me) (x1 := x1) (x2 := x2) (x3 := x3) (x4 := x4) (x5 := x5) k1 b3 hF1 hF hf1 hfr y2 y3 hw1 hw y5 hp1 hpt y4
  refine ⟨S', D', ?_, ⟨⟨c2.keep t3.1 (fun k q => by omega) (fun k q => by omega) (t3.2.1 _ (by omega)).2, trivial, fun f hf => absurd hf List.not_mem_nil⟩, t2⟩, ?_⟩
  · unfold rk_5
    simp only [ob_lt]
    rw [hS, bd_s c1]
    exact t1
  · exact ⟨(t3.step c3 c4 hS (by omega)).1, (t3.step c3 c4 hS (by omega)).2.1, t3.2.2.1, Nat.le_trans (t3.step c3 c4 hS (by omega)).2.2.2.1 (by omega), t3.2.2.2.2⟩
theorem t_4 {S : ob_S} {D : ob_D} {B m F fr pt w : Nat} {me : List Nat} {x1 x2 x3 x4 x5 : Int32} (hS : S.2.2.1 = B + 29 + 2 * m) (hb : bx D B m fr 4) (hF1 : 64 ≤ F) (hF : F ≤ 256) (hf1 : 1 ≤ fr) (hfr : fr ≤ 4) (y2 : ∀ S D, f_Box_nearest S x2 64 256 D = some (N32 F, D)) (y3 : ∀ S D, f_Box_nearest S x3 1 4 D = some (N32 fr, D)) (hw1 : 64 ≤ w) (hw : w ≤ 16384) (y5 : ∀ S D, f_Box_nearest S x5 64 16384 D = some (N32 w, D)) (hp1 : 1 ≤ pt) (hpt : pt ≤ 100) (y4 : ∀ S D, f_Box_nearest S x4 1 100 D = some (N32 pt, D)) : ∃ S' D', rk_4 B x1 x2 x3 x4 x5 (B + 26) S D = some (S', D') ∧ g_4 S' D' B m F fr pt w me ∧ tl S D B m fr 4 (B + 29 + 2 * m) (21000 + w) S' D' := by
  have b1 := hb.lay (x := B + 26) rfl
  obtain ⟨S1, D1, c1, c2, c3, c4⟩ := ci_events (S := S) (D := ob_pR D B 4 (B + 26)) hS
  have k1 : S1.2.2.1 = B + 29 + 2 * m + 71 := by rw [c3.1, hS]
  have b3 : bx D1 B m fr 5 := (b1.keep c4 (fun k q => by omega))
  obtain ⟨S', D', t1, t2, t3⟩ := t_5 (F := F) (pt := pt) (w := w) (me := me) (x1 := x1) (x2 := x2) (x3 := x3) (x4 := x4) (x5 := x5) k1 b3 hF1 hF hf1 hfr y2 y3 hw1 hw y5 hp1 hpt y4
  refine ⟨S', D', ?_, ⟨c2.keep t3.1 (fun y k u v q => by omega) (fun y u v => (t3.2.1 y (by omega)).2), t2⟩, ?_⟩
  · unfold rk_4
    simp only [ob_lt]
    rw [hS, bd_s c1]
    exact t1
  · exact ⟨(t3.step c3 c4 hS (by omega)).1, (t3.step c3 c4 hS (by omega)).2.1, t3.2.2.1, Nat.le_trans (t3.step c3 c4 hS (by omega)).2.2.2.1 (by omega), t3.2.2.2.2⟩
theorem t_3 {S : ob_S} {D : ob_D} {B m F fr pt w : Nat} {me : List Nat} {x1 x2 x3 x4 x5 : Int32} (hS : S.2.2.1 = B + 26) (hb : bx D B m fr 3) (hm1 : 1 ≤ m) (hm : m ≤ 64) (y1 : ∀ S D, f_Box_nearest S x1 1 64 D = some (N32 m, D)) (hF1 : 64 ≤ F) (hF : F ≤ 256) (hf1 : 1 ≤ fr) (hfr : fr ≤ 4) (y2 : ∀ S D, f_Box_nearest S x2 64 256 D = some (N32 F, D)) (y3 : ∀ S D, f_Box_nearest S x3 1 4 D = some (N32 fr, D)) (hw1 : 64 ≤ w) (hw : w ≤ 16384) (y5 : ∀ S D, f_Box_nearest S x5 64 16384 D = some (N32 w, D)) (hp1 : 1 ≤ pt) (hpt : pt ≤ 100) (y4 : ∀ S D, f_Box_nearest S x4 1 100 D = some (N32 pt, D)) : ∃ S' D', rk_3 B x1 x2 x3 x4 x5 (B + 8) S D = some (S', D') ∧ g_3 S' D' B m F fr pt w me ∧ tl S D B m fr 3 (B + 26) (40000 + w) S' D' := by
  have b1 := hb.lay (x := B + 8) rfl
  obtain ⟨S1, D1, c1, c2, c3, c4⟩ := ci_timetable (S := S) (D := ob_pR D B 3 (B + 8)) hm1 hm hS
  have c4 : og (fun y _ => B + 26 ≤ y ∧ y < B + 29 + 2 * m) (ob_pR D B 3 (B + 8)) D1 := c4.mono (fun y k q => by omega)
  have k1 : S1.2.2.1 = B + 29 + 2 * m := by rw [c3.1, hS]; omega
  have b3 : bx D1 B m fr 4 := (b1.keep c4 (fun k q => by omega))
  obtain ⟨S', D', t1, t2, t3⟩ := t_4 (F := F) (pt := pt) (w := w) (me := me) (x1 := x1) (x2 := x2) (x3 := x3) (x4 := x4) (x5 := x5) k1 b3 hF1 hF hf1 hfr y2 y3 hw1 hw y5 hp1 hpt y4
  refine ⟨S', D', ?_, ⟨c2.keep t3.1 (fun y k u v q => by omega) (fun y u v => (t3.2.1 y (by omega)).2), t2⟩, ?_⟩
  · unfold rk_3
    simp only [ob_lt]
    rw [hS, bd_s (y1 _ _), bd_s c1]
    exact t1
  · exact ⟨(t3.step c3 c4 hS (by omega)).1, (t3.step c3 c4 hS (by omega)).2.1, t3.2.2.1, Nat.le_trans (t3.step c3 c4 hS (by omega)).2.2.2.1 (by omega), t3.2.2.2.2⟩
theorem t_2 {S : ob_S} {D : ob_D} {B m F fr pt w : Nat} {me : List Nat} {x1 x2 x3 x4 x5 : Int32} (hS : S.2.2.1 = B + 8) (hb : bx D B m fr 2) (hm1 : 1 ≤ m) (hm : m ≤ 64) (y1 : ∀ S D, f_Box_nearest S x1 1 64 D = some (N32 m, D)) (hF1 : 64 ≤ F) (hF : F ≤ 256) (hf1 : 1 ≤ fr) (hfr : fr ≤ 4) (y2 : ∀ S D, f_Box_nearest S x2 64 256 D = some (N32 F, D)) (y3 : ∀ S D, f_Box_nearest S x3 1 4 D = some (N32 fr, D)) (hw1 : 64 ≤ w) (hw : w ≤ 16384) (y5 : ∀ S D, f_Box_nearest S x5 64 16384 D = some (N32 w, D)) (hp1 : 1 ≤ pt) (hpt : pt ≤ 100) (y4 : ∀ S D, f_Box_nearest S x4 1 100 D = some (N32 pt, D)) : ∃ S' D', rk_2 B x1 x2 x3 x4 x5 (B + 5) S D = some (S', D') ∧ g_2 S' D' B m F fr pt w me ∧ tl S D B m fr 2 (B + 8) (43000 + w) S' D' := by
  have b1 := hb.lay (x := B + 5) rfl
  obtain ⟨S1, D1, c1, c2, c3, c4⟩ := ci_gate (S := S) (D := ob_pR D B 2 (B + 5)) hS
  have k1 : S1.2.2.1 = B + 26 := by rw [c3.1, hS]
  have b3 : bx D1 B m fr 3 := (b1.keep c4 (fun k q => by omega))
  obtain ⟨S', D', t1, t2, t3⟩ := t_3 (F := F) (pt := pt) (w := w) (me := me) (x1 := x1) (x2 := x2) (x3 := x3) (x4 := x4) (x5 := x5) k1 b3 hm1 hm y1 hF1 hF hf1 hfr y2 y3 hw1 hw y5 hp1 hpt y4
  refine ⟨S', D', ?_, ⟨c2.keep t3.1 (fun y k u v q => by omega) (fun y u v => (t3.2.1 y (by omega)).2), t2⟩, ?_⟩
  · unfold rk_2
    simp only [ob_lt]
    rw [hS, bd_s c1]
    exact t1
  · exact ⟨(t3.step c3 c4 hS (by omega)).1, (t3.step c3 c4 hS (by omega)).2.1, t3.2.2.1, Nat.le_trans (t3.step c3 c4 hS (by omega)).2.2.2.1 (by omega), t3.2.2.2.2⟩
theorem t_1 {S : ob_S} {D : ob_D} {B m F fr pt w : Nat} {me : List Nat} {x1 x2 x3 x4 x5 : Int32} (hzm : zm me) (hS : S.2.2.1 = B + 5) (hb : bx D B m fr 1) (hr : rw_at S D (B + 3) (B + 4) 4096 []) (hz : ∀ j, D.1 (B + 4) j = 0) (hm1 : 1 ≤ m) (hm : m ≤ 64) (y1 : ∀ S D, f_Box_nearest S x1 1 64 D = some (N32 m, D)) (hF1 : 64 ≤ F) (hF : F ≤ 256) (hf1 : 1 ≤ fr) (hfr : fr ≤ 4) (y2 : ∀ S D, f_Box_nearest S x2 64 256 D = some (N32 F, D)) (y3 : ∀ S D, f_Box_nearest S x3 1 4 D = some (N32 fr, D)) (hw1 : 64 ≤ w) (hw : w ≤ 16384) (y5 : ∀ S D, f_Box_nearest S x5 64 16384 D = some (N32 w, D)) (hp1 : 1 ≤ pt) (hpt : pt ≤ 100) (y4 : ∀ S D, f_Box_nearest S x4 1 100 D = some (N32 pt, D)) : ∃ S' D', rk_1 B x1 x2 x3 x4 x5 (B + 3) S D = some (S', D') ∧ g_1 S' D' B m F fr pt w me ∧ (og (fun y _ => y = B ∨ B + 3 ≤ y) D D' ∧ (∀ y, y < B + 5 → S'.1 y = S.1 y ∧ S'.2.1 y = S.2.1 y) ∧ S'.2.2.1 = B + 29 + 2 * m + 80 + 2 * fr + 14 ∧ S'.2.2.2 ≤ S.2.2.2 + (44000 + w) ∧ bx D' B m fr 11) := by
  have b1 : bx (ob_pI (ob_pR D B 1 (B + 3)) (B + 3) 1 4096) B m fr 2 := hb.lay (x := B + 3) rfl
  have gB : og (fun y _ => y = B) D (ob_pR D B 1 (B + 3)) := og.pR rfl
  have hme : rw_at S (ob_pI (ob_pR D B 1 (B + 3)) (B + 3) 1 4096) (B + 3) (B + 4) 4096 me := rw_full hzm (hr.keep (S' := S) gB (fun k q => by omega) (fun k q => by omega) rfl) hz (by omega)
  obtain ⟨S1, D1, c1, c2, c3, c4⟩ := ci_receiver (S := S) (D := ob_pI (ob_pR D B 1 (B + 3)) (B + 3) 1 4096) hS
  have k1 : S1.2.2.1 = B + 8 := by rw [c3.1, hS]
  have b3 : bx D1 B m fr 2 := b1.keep c4 (fun k q => by omega)
  obtain ⟨S', D', t1, t2, t3⟩ := t_2 (F := F) (pt := pt) (w := w) (me := me) (x1 := x1) (x2 := x2) (x3 := x3) (x4 := x4) (x5 := x5) k1 b3 hm1 hm y1 hF1 hF hf1 hfr y2 y3 hw1 hw y5 hp1 hpt y4
  refine ⟨S', D', ?_, ⟨⟨c2.keep t3.1 (fun y k u v q => by omega) (fun y u v => (t3.2.1 y (by omega)).2), ?_⟩, t2⟩, ?_, fun y hy => ?_, t3.2.2.1, ?_, t3.2.2.2.2⟩
  · unfold rk_1
    simp only [ob_lt]
    rw [show (ob_pR D B 1 (B + 3)).2.1 B 1 = B + 3 from pR_self, ob_gt_t (show B + 3 ≠ 0 from Nat.succ_ne_zero _), hS, bd_s c1]
    exact t1
  · refine (hme.keep (S' := S1) c4 (fun k q => by omega) (fun k q => by omega) (c3.2.2 _ (by omega)).2).keep t3.1 (fun k q => by omega) (fun k q => by omega) (t3.2.1 _ (by omega)).2
  · exact (((gB.mono (fun y k q => by omega)).tr (og.pI (by omega))).tr (c4.mono (fun y k q => by omega))).tr (t3.1.mono (fun y k q => by omega))
  · have a1 := t3.2.1 y (by omega)
    have a2 := c3.2.2 y (by omega)
    exact ⟨a1.1.trans a2.1, a1.2.trans a2.2⟩
  · have a1 := t3.2.2.2.1
    have a2 := c3.2.1
    omega
theorem ci_box {S : ob_S} {D : ob_D} {B m F fr pt w : Nat} {me : List Nat} {x1 x2 x3 x4 x5 : Int32} (hzm : zm me) (hB : S.2.2.1 = B) (hm1 : 1 ≤ m) (hm : m ≤ 64) (y1 : ∀ S D, f_Box_nearest S x1 1 64 D = some (N32 m, D)) (hF1 : 64 ≤ F) (hF : F ≤ 256) (hf1 : 1 ≤ fr) (hfr : fr ≤ 4) (y2 : ∀ S D, f_Box_nearest S x2 64 256 D = some (N32 F, D)) (y3 : ∀ S D, f_Box_nearest S x3 1 4 D = some (N32 fr, D)) (hw1 : 64 ≤ w) (hw : w ≤ 16384) (y5 : ∀ S D, f_Box_nearest S x5 64 16384 D = some (N32 w, D)) (hp1 : 1 ≤ pt) (hpt : pt ≤ 100) (y4 : ∀ S D, f_Box_nearest S x4 1 100 D = some (N32 pt, D)) : ∃ S' D', f_Box_init B x1 x2 x3 x4 x5 (ob_new S 1 0 11) (ob_z D B) = some (S', D') ∧ cC S' D' B m fr F w pt (w_z0 me) [] ∧ S'.2.2.1 = B + 29 + 2 * m + 80 + 2 * fr + 14 ∧ S'.2.2.2 ≤ S.2.2.2 + 100000 := by
  have hS0 : (ob_new S 1 0 11).2.2.1 = B + 1 := by rw [new_nx, hB]
  obtain ⟨S1, D1, a1, a2, -, -, a3, a4⟩ := ci_row (S := ob_new S 1 0 11) (D := ob_z D B) (n := 4096) (by decide)
  rw [hS0] at a1 a2 a4
  have a1 : f_Row_init (B + 1) 4096 (ob_new (ob_new S 1 0 11) 2 0 2) (ob_z (ob_z D B) (B + 1)) = some (S1, D1) := a1
  have k1 : S1.2.2.1 = B + 3 := by rw [a3.1, hS0]
  have w1 : bx (ob_pR D1 B 0 (B + 1)) B m fr 1 := bx.lay (fun k hk => absurd hk (Nat.not_lt_zero _)) rfl
  obtain ⟨S2, D2, b1, b2, b0, -, b3, b4⟩ := ci_row (S := S1) (D := ob_pR D1 B 0 (B + 1)) (n := 4096) (by decide)
  rw [k1] at b1 b2 b0 b4
  have b1 : f_Row_init (B + 3) 4096 (ob_new S1 2 0 2) (ob_z (ob_pR D1 B 0 (B + 1)) (B + 3)) = some (S2, D2) := b1
  have k2 : S2.2.2.1 = B + 5 := by rw [b3.1, k1]
  have w2 : bx D2 B m fr 1 := w1.keep b4 (fun k q => by omega)
  obtain ⟨S', D', t1, t2, t3, t4, t5, t6, t7⟩ := t_1 (F := F) (pt := pt) (w := w) (me := me) (x1 := x1) (x2 := x2) (x3 := x3) (x4 := x4) (x5 := x5) hzm k2 w2 b2 b0 hm1 hm y1 hF1 hF hf1 hfr y2 y3 hw1 hw y5 hp1 hpt y4
  obtain ⟨⟨u1, u2⟩, u3, u4, u5, u6, u7, ⟨u8, u9, u10⟩, ⟨u11, u12⟩, u13, ⟨v0, v1, v2, v3, v4, v5, v6, v7, v8⟩, u15⟩ := t2
  have gB : og (fun y _ => y = B) D1 (ob_pR D1 B 0 (B + 1)) := og.pR rfl
  have u0 : rw_at S' D' (B + 1) (B + 2) 4096 [] := ((a2.keep (S' := S1) gB (fun k q => by omega) (fun k q => by omega) rfl).keep (S' := S2) b4 (fun k q => by omega) (fun k q => by omega) (b3.2.2 _ (by omega)).2).keep t3 (fun k q => by omega) (fun k q => by omega) (t4 _ (by omega)).2
  refine ⟨S', D', ?_, ⟨⟨t7 0 (by decide), t7 1 (by decide), t7 2 (by decide), t7 3 (by decide), t7 4 (by decide), t7 5 (by decide), t7 6 (by decide), t7 7 (by decide), t7 8 (by decide), t7 9 (by decide), t7 10 (by decide)⟩, u0, ⟨[], ⟨u3, u1, u4, u5, u6, u7, u8, u11, u12, u13, u2, v0, v1, v2, v3, v4, v5, v6, v7, v8, u10⟩, ⟨[], u9⟩, u15⟩⟩, t5, ?_⟩
  · rw [rk_eq]
    simp only [ob_lt]
    rw [hS0, bd_s a1]
    unfold rk_0
    simp only [ob_lt]
    rw [k1, bd_s b1]
    exact t1
  · have q1 := a3.2.1
    have q2 := b3.2.1
    have q3 : (ob_new S 1 0 11).2.2.2 = S.2.2.2 + 11 := rfl
    omega
