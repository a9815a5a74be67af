-- ===== what the constructors make: reports, craft, handler =====
theorem ci_reports {S : ob_S} {D : ob_D} {R L w : Nat} (hL0 : L ≠ 0) (hw1 : 1 ≤ w) (hw : w ≤ 100000) (hR : S.2.2.1 = R) : ∃ S' D', f_Reports_init R L (N32 w) (ob_new S 9 0 12) (ob_z D R) = some (S', D') ∧ cRp S' D' R L w ([], fun _ => false, fun _ _ => 0, 0, 0, false, 0, 0, 0) ∧ rw_at S' D' (R + 3) (R + 4) 277 [] ∧ S'.1 (R + 3) = 2 ∧ nx S S' 7 (1350 + w) ∧ og (fun y _ => R ≤ y ∧ y < R + 7) D D' := by
  have hS1 : (ob_new S 9 0 12).2.2.1 = R + 1 := by rw [new_nx, hR]
  obtain ⟨S10, D11, r1, r2, r3, r4⟩ := ci_ring (S := ob_new S 9 0 12) (D := ob_pR (ob_z D R) R 0 L) (n := w) (by omega) hw
  rw [hS1] at r1 r2 r4
  have h10 : S10.2.2.1 = R + 3 := by rw [r3.1, hS1]
  obtain ⟨S25, D26, q1, q2, q5, q6, q3, q4⟩ := ci_row (S := S10) (D := ob_pR D11 R 1 (R + 1)) (n := 277) (by decide)
  rw [h10] at q1 q2 q4 q6
  have q1 : f_Row_init (R + 3) 277 (ob_new S10 2 0 2) (ob_z (ob_pR D11 R 1 (R + 1)) (R + 3)) = some (S25, D26) := q1
  have h25 : S25.2.2.1 = R + 5 := by rw [q3.1, h10]
  have h33 : (ob_new S25 22 32 32).2.2.1 = R + 6 := by rw [new_nx, h25]
  have l5 : (ob_new S25 22 32 32).2.1 (R + 5) = 32 := by
    have := new_len S25 22 32 32
    rw [h25] at this
    exact this
  have l6 : (ob_new (ob_new S25 22 32 32) 20 1024 1024).2.1 (R + 6) = 1024 := by
    have := new_len (ob_new S25 22 32 32) 20 1024 1024
    rw [h33] at this
    exact this
  have n5 := nx.new S25 22 32 32
  have n6 := nx.new (ob_new S25 22 32 32) 20 1024 1024
  have g1 : og (fun y k => y = R ∧ k = 1) D11 (ob_pR D11 R 1 (R + 1)) := og.pR ⟨rfl, rfl⟩
  have gg : og (fun y k => (y = R ∧ 2 ≤ k) ∨ (R + 5 ≤ y ∧ y < R + 7)) D26 (ob_pR (ob_z (ob_pR (ob_z (ob_pR D26 R 2 (R + 3)) (R + 5)) R 3 (R + 5)) (R + 6)) R 4 (R + 6)) := ((((og.pR (by omega)).tr (og.z (fun _ => by omega))).tr (og.pR (by omega))).tr (og.z (fun _ => by omega))).tr (og.pR (by omega))
  have hz : ∀ k, (ob_pR (ob_z (ob_pR (ob_z (ob_pR D26 R 2 (R + 3)) (R + 5)) R 3 (R + 5)) (R + 6)) R 4 (R + 6)).1 R k = 0 := fun k => by
    refine zcR (fun _ => zcR (fun _ => ?_))
    show D26.1 R k = 0
    rw [(q4 R k (by omega)).1]
    show D11.1 R k = 0
    rw [(r4 R k (by omega)).1]
    exact z_I _ _ _
  refine ⟨ob_new (ob_new S25 22 32 32) 20 1024 1024, ob_pR (ob_z (ob_pR (ob_z (ob_pR D26 R 2 (R + 3)) (R + 5)) R 3 (R + 5)) (R + 6)) R 4 (R + 6), ?_, ⟨⟨?_, hL0, ?_, ?_, ?_, ?_, ?_, l6⟩, ⟨fun s _ => ?_, fun s k _ _ => ?_⟩, ⟨?_, hz 7, hz 11, Nat.zero_le _, fun p hp => absurd hp List.not_mem_nil⟩, ⟨hz 5, hz 6, hz 8, hz 9, hz 10⟩⟩, ?_, ?_, ?_, ?_⟩
  · unfold f_Reports_init
    simp only [ob_lt]
    rw [hS1, bd_s r1, h10, bd_s q1, ob_gt_t c32_ok, ob_gt_t c1024_ok, e32_c, e1024_c, h25, h33]
  · rw [(gg R 0 (by omega)).2.1, (q4 R 0 (by omega)).2.1, pR_ne (by omega), (r4 R 0 (by omega)).2.1]
    exact pR_self
  · rw [(gg R 1 (by omega)).2.1, (q4 R 1 (by omega)).2.1]
    exact pR_self
  · simp [ob_pR, ob_z]
  · simp [ob_pR, ob_z]
  · simp [ob_pR, ob_z]
  · rw [(n6.2.2 _ (by omega)).2]
    exact l5
  · exact zcR (fun _ => zcR (fun h => absurd rfl h))
  · exact zcR (fun h => absurd rfl h)
  · refine ((r2.keep (S' := S10) g1 (by omega) (by omega) rfl).keep (S' := S25) q4 (by omega) (by omega) (q3.2.2 _ (by omega)).2).keep gg (by omega) (by omega) ?_
    rw [(n6.2.2 _ (by omega)).2, (n5.2.2 _ (by omega)).2]
  · refine q2.keep gg (by omega) (by omega) ?_
    rw [(n6.2.2 _ (by omega)).2, (n5.2.2 _ (by omega)).2]
  · rw [(n6.2.2 _ (by omega)).1, (n5.2.2 _ (by omega)).1]
    exact q6
  · exact (((((nx.new S 9 0 12).tr r3).tr q3).tr n5).tr n6).eq rfl (by omega)
  · exact (((((og.z (fun _ => by omega)).tr (og.pR (by omega))).tr (r4.mono (fun y k e => by omega))).tr (g1.mono (fun y k e => by omega))).tr (q4.mono (fun y k e => by omega))).tr (gg.mono (fun y k e => by omega))

theorem ci_craft {S : ob_S} {D : ob_D} {c pt p1 p2 p3 p4 p5 : Nat} (hp1 : 1 ≤ pt) (hp : pt ≤ 100) (hc : S.2.2.1 = c) : ∃ S' D', f_Craft_init c (N32 pt) p1 p2 p3 p4 p5 (ob_new S 11 0 13) (ob_z D c) = some (S', D') ∧ cCrF D' c pt (fun _ => 0, 1, 0, none, 0, 0, 0) ∧ cCrA S' D' c p1 p2 p3 p4 p5 ∧ nx S S' 2 29 ∧ og (fun y _ => c ≤ y ∧ y < c + 2) D D' := by
  have hS1 : (ob_new S 11 0 13).2.2.1 = c + 1 := by rw [new_nx, hc]
  refine ⟨ob_new (ob_new S 11 0 13) 20 16 16, ob_pI (ob_pI (ob_pR (ob_z (ob_pR (ob_pR (ob_pR (ob_pR (ob_pR (ob_pI (ob_z D c) c 0 (N32 pt)) c 1 p1) c 2 p2) c 3 p3) c 4 p4) c 5 p5) (c + 1)) c 6 (c + 1)) c 7 1) c 9 (-1), ?_, ⟨fun i _ => ?_, ?_, by decide, ?_, ?_, fun a ha => absurd ha (by simp), ?_, ?_, ?_, ?_, hp1, hp⟩, ⟨?_, ?_, ?_, ?_, ?_, ?_, ?_⟩, ?_, ?_⟩
  · unfold f_Craft_init
    simp only [ob_lt]
    rw [ob_gt_t c16_ok, e16_c, hS1]
  · simp [ob_pI, ob_pR, ob_z]
  · simp [ob_pI, ob_pR, ob_z]
    rfl
  · simp [ob_pI, ob_pR, ob_z]
    rfl
  · simp [ob_pI, ob_pR, ob_z, al_v]
  · simp [ob_pI, ob_pR, ob_z]
  · simp [ob_pI, ob_pR, ob_z]
  · simp [ob_pI, ob_pR, ob_z]
  · simp [ob_pI, ob_pR, ob_z]
  · simp [ob_pI, ob_pR, ob_z]
  · simp [ob_pI, ob_pR, ob_z]
  · simp [ob_pI, ob_pR, ob_z]
  · simp [ob_pI, ob_pR, ob_z]
  · simp [ob_pI, ob_pR, ob_z]
  · simp [ob_pI, ob_pR, ob_z]
  · have := new_len (ob_new S 11 0 13) 20 16 16
    rw [hS1] at this
    exact this
  · exact ((nx.new S 11 0 13).tr (nx.new _ 20 16 16)).eq rfl rfl
  · exact ((((((((((og.z (fun _ => by omega)).tr (og.pI (by omega))).tr (og.pR (by omega))).tr (og.pR (by omega))).tr (og.pR (by omega))).tr (og.pR (by omega))).tr (og.pR (by omega))).tr (og.z (fun _ => by omega))).tr (og.pR (by omega))).tr (og.pI (by omega))).tr (og.pI (by omega))

theorem ci_handler {S : ob_S} {D : ob_D} {h c f l mm q g t e r : Nat} (hq : S.2.2.1 = q) (hh : h < q) (hch : c ≠ h) (h2 : D.2.1 c 2 = g) (h3 : D.2.1 c 3 = t) (h4 : D.2.1 c 4 = e) (h5 : D.2.1 c 5 = r) (g0 : g ≠ 0) (t0 : t ≠ 0) (e0 : e ≠ 0) (r0 : r ≠ 0) : ∃ S' D', f_Handler_init h c f l mm S D = some (S', D') ∧ (D'.2.1 h 0 = c ∧ D'.2.1 h 1 = g ∧ D'.2.1 h 2 = t ∧ D'.2.1 h 3 = e ∧ D'.2.1 h 4 = r ∧ D'.2.1 h 5 = f ∧ D'.2.1 h 6 = l ∧ D'.2.1 h 7 = mm ∧ D'.2.1 h 8 = q) ∧ rw_at S' D' q (q + 1) 252 [] ∧ nx S S' 2 254 ∧ og (fun y _ => y = h ∨ (q ≤ y ∧ y < q + 2)) D D' := by
  have pn : ∀ (D : ob_D) (k x j : Nat), (ob_pR D h k x).2.1 c j = D.2.1 c j := fun D k x j => pR_ne (fun e => hch e.1)
  obtain ⟨S43, D44, q1, q2, -, -, q3, q4⟩ := ci_row (S := S) (D := ob_pR (ob_pR (ob_pR (ob_pR (ob_pR (ob_pR (ob_pR (ob_pR D h 0 c) h 1 g) h 2 t) h 3 e) h 4 r) h 5 f) h 6 l) h 7 mm) (n := 252) (by decide)
  rw [hq] at q1 q2 q4
  have q1 : f_Row_init q 252 (ob_new S 2 0 2) (ob_z (ob_pR (ob_pR (ob_pR (ob_pR (ob_pR (ob_pR (ob_pR (ob_pR D h 0 c) h 1 g) h 2 t) h 3 e) h 4 r) h 5 f) h 6 l) h 7 mm) q) = some (S43, D44) := q1
  have g8 : og (fun y k => y = h ∧ k = 8) D44 (ob_pR D44 h 8 q) := og.pR ⟨rfl, rfl⟩
  have hb : ∀ k, k ≠ 8 → (ob_pR D44 h 8 q).2.1 h k = (ob_pR (ob_pR (ob_pR (ob_pR (ob_pR (ob_pR (ob_pR (ob_pR D h 0 c) h 1 g) h 2 t) h 3 e) h 4 r) h 5 f) h 6 l) h 7 mm).2.1 h k := fun k hk => by
    rw [pR_ne (by omega), (q4 h k (by omega)).2.1]
  refine ⟨S43, ob_pR D44 h 8 q, ?_, ⟨?_, ?_, ?_, ?_, ?_, ?_, ?_, ?_, pR_self⟩, q2.keep (S' := S43) g8 (by omega) (by omega) rfl, q3.eq rfl rfl, ?_⟩
  · unfold f_Handler_init
    simp only [ob_lt]
    rw [show (ob_pR D h 0 c).2.1 c 2 = g from (pn _ _ _ _).trans h2, ob_gt_t g0, show (ob_pR (ob_pR D h 0 c) h 1 g).2.1 c 3 = t from (pn _ _ _ _).trans ((pn _ _ _ _).trans h3), ob_gt_t t0, show (ob_pR (ob_pR (ob_pR D h 0 c) h 1 g) h 2 t).2.1 c 4 = e from (pn _ _ _ _).trans ((pn _ _ _ _).trans ((pn _ _ _ _).trans h4)), ob_gt_t e0, show (ob_pR (ob_pR (ob_pR (ob_pR D h 0 c) h 1 g) h 2 t) h 3 e).2.1 c 5 = r from (pn _ _ _ _).trans ((pn _ _ _ _).trans ((pn _ _ _ _).trans ((pn _ _ _ _).trans h5))), ob_gt_t r0, hq, bd_s q1]
  · rw [hb 0 (by decide)]; simp [ob_pR]
  · rw [hb 1 (by decide)]; simp [ob_pR]
  · rw [hb 2 (by decide)]; simp [ob_pR]
  · rw [hb 3 (by decide)]; simp [ob_pR]
  · rw [hb 4 (by decide)]; simp [ob_pR]
  · rw [hb 5 (by decide)]; simp [ob_pR]
  · rw [hb 6 (by decide)]; simp [ob_pR]
  · rw [hb 7 (by decide)]; simp [ob_pR]
  · exact (((((((((og.pR (by omega)).tr (og.pR (by omega))).tr (og.pR (by omega))).tr (og.pR (by omega))).tr (og.pR (by omega))).tr (og.pR (by omega))).tr (og.pR (by omega))).tr (og.pR (by omega))).tr (q4.mono (fun y k e => by omega))).tr (g8.mono (fun y k e => by omega))
