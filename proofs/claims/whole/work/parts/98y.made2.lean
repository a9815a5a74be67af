-- ===== what the constructors make: gate, timetable, events, downlink =====
theorem bd_s {α γ β : Type} {o : Option (α × γ)} {f : α → γ → Option β} {a : α} {d : γ} (h : o = some (a, d)) : ob_bd o f = f a d := by rw [h]; rfl
theorem zc {D : ob_D} {b y k : Nat} (h : y ≠ b → D.1 y k = 0) : (ob_z D b).1 y k = 0 := by
  by_cases e : y = b
  · exact if_pos e
  · exact (if_neg e).trans (h e)
theorem zcR {D : ob_D} {b y k a j x : Nat} (h : y ≠ b → D.1 y k = 0) : (ob_pR (ob_z D b) a j x).1 y k = 0 := zc h
theorem new_nx (S : ob_S) (ki n sl : Nat) : (ob_new S ki n sl).2.2.1 = S.2.2.1 + 1 := rfl
theorem rws0 {S : ob_S} {D : ob_D} {b c cap : Nat} : rws S D b c cap 0 := fun _ hj => absurd hj (Nat.not_lt_zero _)
theorem c8_ok : ¬ (8 : Int32) < 0 ∧ (8 : Int32).toNatClampNeg ≤ 67108864 := by decide
theorem c32_ok : ¬ (32 : Int32) < 0 ∧ (32 : Int32).toNatClampNeg ≤ 67108864 := by decide
theorem c16_ok : ¬ (16 : Int32) < 0 ∧ (16 : Int32).toNatClampNeg ≤ 67108864 := by decide
theorem c1024_ok : ¬ (1024 : Int32) < 0 ∧ (1024 : Int32).toNatClampNeg ≤ 67108864 := by decide
theorem e8_c : (8 : Int32).toNatClampNeg = 8 := by decide
theorem e32_c : (32 : Int32).toNatClampNeg = 32 := by decide
theorem e16_c : (16 : Int32).toNatClampNeg = 16 := by decide
theorem e1024_c : (1024 : Int32).toNatClampNeg = 1024 := by decide

theorem ci_gate {S : ob_S} {D : ob_D} {g : Nat} (hg : S.2.2.1 = g) : ∃ S' D', f_Gate_init g (ob_new S 5 0 10) (ob_z D g) = some (S', D') ∧ cGt S' D' g (1, 0, 0, false, false, 0, 0, []) ∧ nx S S' 18 2050 ∧ og (fun y _ => g ≤ y ∧ y < g + 18) D D' := by
  have hS1 : (ob_new S 5 0 10).2.2.1 = g + 1 := by rw [new_nx, hg]
  have hS2 : (ob_new (ob_new S 5 0 10) 24 8 8).2.2.1 = g + 2 := by rw [new_nx, hS1]
  have hl : (ob_new (ob_new S 5 0 10) 24 8 8).2.1 (g + 1) = 8 := by
    have := new_len (ob_new S 5 0 10) 24 8 8
    rw [hS1] at this
    exact this
  obtain ⟨S', D', a1, a2, a3, a4⟩ := gi_L (g := g) 8 ob_FU 0 (ob_new (ob_new S 5 0 10) 24 8 8) (ob_pR (ob_z (ob_z D g) (g + 1)) g 0 (g + 1)) (by omega) (by decide) pR_self hl hS2 rws0
  have hz : ∀ k, D'.1 g k = 0 := fun k => by
    rw [(a4 g k (by omega)).1]
    exact zcR (fun _ => z_I _ _ _)
  have gI : og (fun y k => y = g ∧ k = 3) D' (ob_pI D' g 3 1) := og.pI ⟨rfl, rfl⟩
  have hz' : ∀ k, k ≠ 3 → (ob_pI D' g 3 1).1 g k = 0 := fun k hk => by rw [pI_ne (by omega)]; exact hz k
  refine ⟨S', ob_pI D' g 3 1, ?_, ⟨⟨?_, ?_, fun i hi => ?_, 0, fun _ => [], by decide, hz' 1 (by decide), hz' 2 (by decide), by decide, fun i hi => ?_, fun i hi => absurd hi (Nat.not_lt_zero _)⟩, ⟨pI_self, by decide, hz' 4 (by decide), by decide, hz' 7 (by decide), by decide, hz' 5 (by decide), hz' 6 (by decide), hz' 8 (by decide), hz' 9 (by decide)⟩⟩, ?_, ?_⟩
  · unfold f_Gate_init
    rw [ob_gt_t c8_ok]
    simp only [ob_lt]
    rw [hS1, e8_c]
    exact a1
  · show D'.2.1 g 0 = g + 1
    rw [(a4 g 0 (by omega)).2.1]
    exact pR_self
  · rw [(a3.2.2 _ (by omega)).2]
    exact hl
  · exact (a2 i hi).1
  · have := (a2 i hi).2.keep (S' := S') gI (by omega) (by omega) rfl
    rw [show g + 3 + 2 * i = g + 2 + 1 + 2 * i by omega]
    exact this
  · exact (((nx.new S 5 0 10).tr (nx.new _ 24 8 8)).tr a3).eq rfl rfl
  · exact ((((og.z (fun _ => by omega)).tr (og.z (fun _ => by omega))).tr (og.pR (by omega))).tr (a4.mono (fun y k e => by omega))).tr (gI.mono (fun y k e => by omega))

theorem ci_timetable {S : ob_S} {D : ob_D} {t m : Nat} (hm1 : 1 ≤ m) (hm : m ≤ 64) (ht : S.2.2.1 = t) : ∃ S' D', f_Timetable_init t (N32 m) (ob_new S 6 0 4) (ob_z D t) = some (S', D') ∧ cTt S' D' t m [] false ∧ nx S S' (3 + 2 * m) (4 + m + m + 254 * m) ∧ og (fun y _ => t ≤ y ∧ y < t + 3 + 2 * m) D D' := by
  have hc : (N32 m).toNatClampNeg = m := nb_clamp (by omega)
  have hS1 : (ob_new S 6 0 4).2.2.1 = t + 1 := by rw [new_nx, ht]
  have hS2 : (ob_new (ob_new S 6 0 4) 20 m m).2.2.1 = t + 2 := by rw [new_nx, hS1]
  have hS3 : (ob_new (ob_new (ob_new S 6 0 4) 20 m m) 24 m m).2.2.1 = t + 3 := by rw [new_nx, hS2]
  have hl1 : (ob_new (ob_new S 6 0 4) 20 m m).2.1 (t + 1) = m := by
    have := new_len (ob_new S 6 0 4) 20 m m
    rw [hS1] at this
    exact this
  have hl2 : (ob_new (ob_new (ob_new S 6 0 4) 20 m m) 24 m m).2.1 (t + 2) = m := by
    have := new_len (ob_new (ob_new S 6 0 4) 20 m m) 24 m m
    rw [hS2] at this
    exact this
  obtain ⟨S', D', a1, a2, a3, a4⟩ := ti_L (t := t) hm m ob_FU 0 (ob_new (ob_new (ob_new S 6 0 4) 20 m m) 24 m m) (ob_pR (ob_z (ob_pR (ob_z (ob_z D t) (t + 1)) t 0 (t + 1)) (t + 2)) t 1 (t + 2)) (by omega) (by show m < 1000000; omega) pR_self hl2 hS3 rws0
  have hz : ∀ k, D'.1 t k = 0 := fun k => by
    rw [(a4 t k (by omega)).1]
    exact zcR (fun _ => zcR (fun _ => z_I _ _ _))
  refine ⟨S', D', ?_, ⟨⟨?_, ?_, ?_, ?_, hm1, hm⟩, ⟨fun i => i, fun _ => [], fun i hi => hi, fun i j _ _ e => e, fun i hi => (a2 i hi).1, fun j hj => ?_, fun i hi => absurd hi (Nat.not_lt_zero _)⟩, hz 2, Nat.zero_le _, hz 3⟩, ?_, ?_⟩
  · unfold f_Timetable_init
    rw [ob_gt_t (ci_ok (n := m) (by omega))]
    simp only [ob_lt]
    rw [ob_gt_t (ci_ok (n := m) (by omega)), hc, hS1, hS2]
    exact a1
  · rw [(a4 t 0 (by omega)).2.1, pR_ne (by omega)]
    show (if t = t + 2 then 0 else (ob_pR (ob_z (ob_z D t) (t + 1)) t 0 (t + 1)).2.1 t 0) = t + 1
    rw [if_neg (by omega)]
    exact pR_self
  · rw [(a4 t 1 (by omega)).2.1]
    exact pR_self
  · rw [(a3.2.2 _ (by omega)).2, ((nx.new (ob_new (ob_new S 6 0 4) 20 m m) 24 m m).2.2 _ (by omega)).2]
    exact hl1
  · rw [(a3.2.2 _ (by omega)).2]
    exact hl2
  · have := (a2 j hj).2
    rw [show t + 4 + 2 * j = t + 3 + 1 + 2 * j by omega]
    exact this
  · exact ((((nx.new S 6 0 4).tr (nx.new _ 20 m m)).tr (nx.new _ 24 m m)).tr a3).eq (by omega) (by omega)
  · exact (((((og.z (fun _ => by omega)).tr (og.z (fun _ => by omega))).tr (og.pR (by omega))).tr (og.z (fun _ => by omega))).tr (og.pR (by omega))).tr (a4.mono (fun y k e => by omega))

theorem ci_events {S : ob_S} {D : ob_D} {v : Nat} (hv : S.2.2.1 = v) : ∃ S' D', f_Events_init v (ob_new S 7 0 6) (ob_z D v) = some (S', D') ∧ cEv S' D' v ([], fun _ => false, fun _ => false, fun _ => false, fun _ => [], 0) ∧ nx S S' 71 8393 ∧ og (fun y _ => v ≤ y ∧ y < v + 71) D D' := by
  have hS1 : (ob_new S 7 0 6).2.2.1 = v + 1 := by rw [new_nx, hv]
  obtain ⟨S7, D8, r1, r2, r3, r4⟩ := ci_ring (S := ob_new S 7 0 6) (D := ob_z D v) (n := 128) (by decide) (by decide)
  rw [hS1] at r1 r2 r4
  have r1 : f_Ring_init (v + 1) 128 (ob_new (ob_new S 7 0 6) 3 0 3) (ob_z (ob_z D v) (v + 1)) = some (S7, D8) := r1
  have h7 : S7.2.2.1 = v + 3 := by rw [r3.1, hS1]
  have hS14 : (ob_new S7 22 32 32).2.2.1 = v + 4 := by rw [new_nx, h7]
  have hS23 : (ob_new (ob_new S7 22 32 32) 22 32 32).2.2.1 = v + 5 := by rw [new_nx, hS14]
  have hS32 : (ob_new (ob_new (ob_new S7 22 32 32) 22 32 32) 22 32 32).2.2.1 = v + 6 := by rw [new_nx, hS23]
  have hS41 : (ob_new (ob_new (ob_new (ob_new S7 22 32 32) 22 32 32) 22 32 32) 24 32 32).2.2.1 = v + 7 := by rw [new_nx, hS32]
  have l3 : (ob_new S7 22 32 32).2.1 (v + 3) = 32 := by
    have := new_len S7 22 32 32
    rw [h7] at this
    exact this
  have l4 : (ob_new (ob_new S7 22 32 32) 22 32 32).2.1 (v + 4) = 32 := by
    have := new_len (ob_new S7 22 32 32) 22 32 32
    rw [hS14] at this
    exact this
  have l5 : (ob_new (ob_new (ob_new S7 22 32 32) 22 32 32) 22 32 32).2.1 (v + 5) = 32 := by
    have := new_len (ob_new (ob_new S7 22 32 32) 22 32 32) 22 32 32
    rw [hS23] at this
    exact this
  have l6 : (ob_new (ob_new (ob_new (ob_new S7 22 32 32) 22 32 32) 22 32 32) 24 32 32).2.1 (v + 6) = 32 := by
    have := new_len (ob_new (ob_new (ob_new S7 22 32 32) 22 32 32) 22 32 32) 24 32 32
    rw [hS32] at this
    exact this
  have n3 := nx.new S7 22 32 32
  have n4 := nx.new (ob_new S7 22 32 32) 22 32 32
  have n5 := nx.new (ob_new (ob_new S7 22 32 32) 22 32 32) 22 32 32
  have n6 := nx.new (ob_new (ob_new (ob_new S7 22 32 32) 22 32 32) 22 32 32) 24 32 32
  obtain ⟨S', D', a1, a2, a3, a4⟩ := vi_L (v := v) 32 ob_FU 0 (ob_new (ob_new (ob_new (ob_new S7 22 32 32) 22 32 32) 22 32 32) 24 32 32) (ob_pR (ob_z (ob_pR (ob_z (ob_pR (ob_z (ob_pR (ob_z (ob_pR D8 v 0 (v + 1)) (v + 3)) v 1 (v + 3)) (v + 4)) v 2 (v + 4)) (v + 5)) v 3 (v + 5)) (v + 6)) v 4 (v + 6)) (by omega) (by decide) pR_self l6 hS41 rws0
  have hzz : ∀ y k, (y = v ∨ (v + 3 ≤ y ∧ y < v + 6)) → D'.1 y k = 0 := fun y k hy => by
    rw [(a4 y k (by omega)).1]
    refine zcR (fun h1 => zcR (fun h2 => zcR (fun h3 => zcR (fun h4 => ?_))))
    have e : y = v := by omega
    subst e
    show D8.1 y k = 0
    rw [(r4 y k (by omega)).1]
    exact z_I _ _ _
  have gg : og (fun y k => y = v ∨ (v + 3 ≤ y ∧ y < v + 71)) D8 D' := (((((((((og.pR (by omega)).tr (og.z (fun _ => by omega))).tr (og.pR (by omega))).tr (og.z (fun _ => by omega))).tr (og.pR (by omega))).tr (og.z (fun _ => by omega))).tr (og.pR (by omega))).tr (og.z (fun _ => by omega))).tr (og.pR (by omega))).tr (a4.mono (fun y k e => by omega))
  have hr : ∀ k, k < 5 → D'.2.1 v k = (ob_pR (ob_z (ob_pR (ob_z (ob_pR (ob_z (ob_pR (ob_z (ob_pR D8 v 0 (v + 1)) (v + 3)) v 1 (v + 3)) (v + 4)) v 2 (v + 4)) (v + 5)) v 3 (v + 5)) (v + 6)) v 4 (v + 6)).2.1 v k := fun k _ => (a4 v k (by omega)).2.1
  refine ⟨S', D', ?_, ⟨⟨?_, ?_, ?_, ?_, ?_, ?_, ?_, ?_, ?_, fun i hi => (a2 i hi).1⟩, ⟨?_, Nat.zero_le _, fun p hp => absurd hp List.not_mem_nil⟩, fun i hi => ⟨hzz _ _ (by omega), hzz _ _ (by omega), hzz _ _ (by omega), ?_⟩, hzz _ _ (by omega)⟩, ?_, ?_⟩
  · unfold f_Events_init
    simp only [ob_lt]
    rw [hS1, bd_s r1]
    rw [ob_gt_t c32_ok, ob_gt_t c32_ok, ob_gt_t c32_ok, ob_gt_t c32_ok, e32_c, h7, hS14, hS23, hS32]
    exact a1
  · rw [hr 0 (by decide)]; simp [ob_pR, ob_z]
  · rw [hr 1 (by decide)]; simp [ob_pR, ob_z]
  · rw [hr 2 (by decide)]; simp [ob_pR, ob_z]
  · rw [hr 3 (by decide)]; simp [ob_pR, ob_z]
  · rw [hr 4 (by decide)]; simp [ob_pR, ob_z]
  · rw [(a3.2.2 _ (by omega)).2, (n6.2.2 _ (by omega)).2, (n5.2.2 _ (by omega)).2, (n4.2.2 _ (by omega)).2]; exact l3
  · rw [(a3.2.2 _ (by omega)).2, (n6.2.2 _ (by omega)).2, (n5.2.2 _ (by omega)).2]; exact l4
  · rw [(a3.2.2 _ (by omega)).2, (n6.2.2 _ (by omega)).2]; exact l5
  · rw [(a3.2.2 _ (by omega)).2]; exact l6
  · refine r2.keep gg (by omega) (by omega) ?_
    rw [(a3.2.2 _ (by omega)).2, (n6.2.2 _ (by omega)).2, (n5.2.2 _ (by omega)).2, (n4.2.2 _ (by omega)).2, (n3.2.2 _ (by omega)).2]
  · have := (a2 i hi).2
    rw [show v + 8 + 2 * i = v + 7 + 1 + 2 * i by omega]
    exact this
  · exact (((((((nx.new S 7 0 6).tr r3).tr n3).tr n4).tr n5).tr n6).tr a3).eq rfl rfl
  · exact ((og.z (fun _ => by omega)).tr (r4.mono (fun y k e => by omega))).tr (gg.mono (fun y k e => by omega))

theorem ci_downlink {S : ob_S} {D : ob_D} {d F fr : Nat} (hF1 : 64 ≤ F) (hF : F ≤ 256) (hf1 : 1 ≤ fr) (hfr : fr ≤ 4) (hd : S.2.2.1 = d) : ∃ S' D', f_Downlink_init d (N32 F) (N32 fr) (ob_new S 10 0 7) (ob_z D d) = some (S', D') ∧ cDn S' D' d fr F ([], [], fun _ => 0, 0) [] ∧ nx S S' (7 + 2 * fr) (8213 + fr + (2 + F) * fr) ∧ og (fun y _ => d ≤ y ∧ y < d + 7 + 2 * fr) D D' := by
  have hS1 : (ob_new S 10 0 7).2.2.1 = d + 1 := by rw [new_nx, hd]
  have hc : (N32 fr).toNatClampNeg = fr := nb_clamp (by omega)
  obtain ⟨S9, D10, r1, r2, r3, r4⟩ := ci_ring (S := ob_new S 10 0 7) (D := ob_pI (ob_z D d) d 3 (N32 F)) (n := 4096) (by decide) (by decide)
  rw [hS1] at r1 r2 r4
  have r1 : f_Ring_init (d + 1) 4096 (ob_new (ob_new S 10 0 7) 3 0 3) (ob_z (ob_pI (ob_z D d) d 3 (N32 F)) (d + 1)) = some (S9, D10) := r1
  have h9 : S9.2.2.1 = d + 3 := by rw [r3.1, hS1]
  obtain ⟨S22, D23, q1, q2, q3, q4⟩ := ci_ring (S := S9) (D := ob_pR D10 d 0 (d + 1)) (n := 4096) (by decide) (by decide)
  rw [h9] at q1 q2 q4
  have q1 : f_Ring_init (d + 3) 4096 (ob_new S9 3 0 3) (ob_z (ob_pR D10 d 0 (d + 1)) (d + 3)) = some (S22, D23) := q1
  have h22 : S22.2.2.1 = d + 5 := by rw [q3.1, h9]
  have hS29 : (ob_new S22 20 8 8).2.2.1 = d + 6 := by rw [new_nx, h22]
  have hS38 : (ob_new (ob_new S22 20 8 8) 24 fr fr).2.2.1 = d + 7 := by rw [new_nx, hS29]
  have l5 : (ob_new S22 20 8 8).2.1 (d + 5) = 8 := by
    have := new_len S22 20 8 8
    rw [h22] at this
    exact this
  have l6 : (ob_new (ob_new S22 20 8 8) 24 fr fr).2.1 (d + 6) = fr := by
    have := new_len (ob_new S22 20 8 8) 24 fr fr
    rw [hS29] at this
    exact this
  have n5 := nx.new S22 20 8 8
  have n6 := nx.new (ob_new S22 20 8 8) 24 fr fr
  obtain ⟨S', D', a1, a2, a3, a4⟩ := di_L (v := d) hF hfr fr ob_FU 0 (ob_new (ob_new S22 20 8 8) 24 fr fr) (ob_pR (ob_z (ob_pR (ob_z (ob_pR D23 d 1 (d + 3)) (d + 5)) d 4 (d + 5)) (d + 6)) d 2 (d + 6)) (by omega) (by show fr < 1000000; omega) pR_self l6 hS38 rws0
  have g0 : og (fun y k => y = d ∧ k = 0) D10 (ob_pR D10 d 0 (d + 1)) := og.pR ⟨rfl, rfl⟩
  have gg : og (fun y k => (y = d ∧ 0 < k) ∨ (d + 5 ≤ y ∧ y < d + 7 + 2 * fr)) D23 D' := (((((og.pR (by omega)).tr (og.z (fun _ => by omega))).tr (og.pR (by omega))).tr (og.z (fun _ => by omega))).tr (og.pR (by omega))).tr (a4.mono (fun y k e => by omega))
  have hI : ∀ k, D'.1 d k = if k = 3 then N32 F else 0 := fun k => by
    rw [(a4 d k (by omega)).1]
    show (if d = d + 6 then 0 else if d = d + 5 then 0 else D23.1 d k) = _
    rw [if_neg (by omega), if_neg (by omega), (q4 d k (by omega)).1]
    show D10.1 d k = _
    rw [(r4 d k (by omega)).1]
    show (if d = d ∧ k = 3 then N32 F else if d = d then 0 else D.1 d k) = _
    by_cases hk : k = 3
    · rw [if_pos ⟨rfl, hk⟩, if_pos hk]
    · rw [if_neg (by omega), if_pos rfl, if_neg hk]
  have hR : ∀ k, D'.2.1 d k = (ob_pR (ob_z (ob_pR (ob_z (ob_pR D23 d 1 (d + 3)) (d + 5)) d 4 (d + 5)) (d + 6)) d 2 (d + 6)).2.1 d k := fun k => (a4 d k (by omega)).2.1
  have hz5 : ∀ k, D'.1 (d + 5) k = 0 := fun k => by
    rw [(a4 (d + 5) k (by omega)).1]
    exact zcR (fun _ => zcR (fun h => absurd rfl h))
  refine ⟨S', D', ?_, ⟨⟨?_, ?_, ?_, ?_, ?_, ?_, fun i hi => (a2 i hi).1, hI 3, hF1, hF, hf1, hfr⟩, ⟨?_, ?_, fun x hx => absurd hx List.not_mem_nil, fun x hx => absurd hx List.not_mem_nil, fun i _ => hz5 i, hI 5⟩, ⟨fun _ => [], fun i hi => ?_, Nat.zero_le _, fun i hi => absurd hi (Nat.not_lt_zero _)⟩, hI 6⟩, ?_, ?_⟩
  · unfold f_Downlink_init
    simp only [ob_lt]
    rw [hS1, bd_s r1, h9, bd_s q1, ob_gt_t c8_ok, ob_gt_t (ci_ok (n := fr) (by omega)), e8_c, hc, h22, hS29]
    exact a1
  · rw [(gg d 0 (by omega)).2.1, (q4 d 0 (by omega)).2.1]
    exact pR_self
  · rw [hR]; simp [ob_pR, ob_z]
  · rw [hR]; simp [ob_pR, ob_z]
  · rw [hR]; simp [ob_pR, ob_z]
  · rw [(a3.2.2 _ (by omega)).2, (n6.2.2 _ (by omega)).2]; exact l5
  · rw [(a3.2.2 _ (by omega)).2]; exact l6
  · refine (((r2.keep (S' := S9) g0 (by omega) (by omega) rfl).keep (S' := S22) q4 (by omega) (by omega) (q3.2.2 _ (by omega)).2).keep gg (by omega) (by omega) ?_)
    rw [(a3.2.2 _ (by omega)).2, (n6.2.2 _ (by omega)).2, (n5.2.2 _ (by omega)).2]
  · refine q2.keep gg (by omega) (by omega) ?_
    rw [(a3.2.2 _ (by omega)).2, (n6.2.2 _ (by omega)).2, (n5.2.2 _ (by omega)).2]
  · have := (a2 i hi).2
    rw [show d + 8 + 2 * i = d + 7 + 1 + 2 * i by omega]
    exact this
  · exact (((((nx.new S 10 0 7).tr r3).tr q3).tr n5).tr n6).tr a3 |>.eq (by omega) (by omega)
  · exact ((((og.z (fun _ => by omega)).tr (og.pI (by omega))).tr (r4.mono (fun y k e => by omega))).tr (g0.mono (fun y k e => by omega))).tr (q4.mono (fun y k e => by omega)) |>.tr (gg.mono (fun y k e => by omega))
