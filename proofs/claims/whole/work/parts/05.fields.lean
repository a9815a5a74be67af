-- ===== fields =====
def ob_cd (c : Nat) (C : String) (U : u_T) (N : Nat) : Prop := ob_cl[c]? = some (C, U, N) ∧ (∀ w ∈ u_ws C U N, w ∈ ob_g) ∧ (∃ ty : Nat → FieldType, ∀ k, k < N → parseFieldDescriptor (U k).2.2.1 = some (ty k)) ∧ (∀ a, a < N → ∀ b, b < N → a ≠ b → (U a).2.1 ≠ (U b).2.1)
def ob_fd (c k : Nat) (C nm ds : String) (fin : Bool) (t : Nat) : Prop := ∃ (U : u_T) (N : Nat), ob_cd c C U N ∧ k < N ∧ U k = (C, nm, ds, fin) ∧ ob_ty (c + 1) k = t
def ob_fl (K : ob_K) (idx : Nat) (C nm ds : String) : Prop := Cond.fieldLink K.1 idx C nm ds ∈ ob_g ∨ (K.1, idx, C, nm, ds, "OrbitBox") ∈ ob_nest
section OB2
variable {l : Launch} {E : ob_E} {K : ob_K} {pc q : Nat} {lo lo2 : List (Nat × Value)} {st st2 rest : List Value} {S T : ob_S} {D : ob_D} {Z : ob_Z}
theorem ob_get0 {idx c k t a : Nat} {C nm ds : String} {fin : Bool} (d : ob_dc K pc (.getfield idx) 3 q) (F : ob_fd c k C nm ds fin t) (L : ob_fl K idx C nm ds) (ha : S.1 a = c + 1) (kk : ob_G l E K q lo (ob_val D a k t :: rest) S D Z T) : ob_G l E K pc lo (.ref a :: rest) S D Z T := by
  obtain ⟨d1, rfl⟩ := d
  obtain ⟨U, N, ⟨hc, hin, -, -⟩, hk, hU, rfl⟩ := F
  intro p e R s m args below meth cd H locs cells slots s0 ls hx hb hml hr hlk hnm hown hts hC hH hS hl hfr hlo h1 h2 h3 h4
  have k2 := kk p e R s m args below meth cd H locs cells slots s0 ls hx hb hml hr hlk hnm hown hts hC hH hS hl hfr hlo h1 h2 h3 h4
  obtain ⟨cell, q1, q2, q3, q4⟩ := hH.2.2.2.2.2.1 a c _ ha hc
  obtain ⟨hSl, hfc, kC, hkC, hkind⟩ := hC.1.1 c _ hc
  obtain ⟨cf, kf, fi, f, hi, hsl⟩ := hSl k hk
  have hst := (u_facts hfc hkC (u_lays hts hin hk) hi).1
  have e1 : (U k).1 = C := by rw [hU]
  have e2 : (U k).2.1 = nm := by rw [hU]
  have e3 : (U k).2.2.1 = ds := by rw [hU]
  simp only [e1, e2, e3] at hi
  have hv : cell.slots[f.slot]? = some (ob_val D a k (ob_ty (c + 1) k)) := by rw [hsl]; exact q4 k hk
  rcases L with L | L
  · exact W.getf hx hb hown (hts _ L) hi hst q1 (by rw [q3]; exact fun h => by cases h) hv rfl rfl d1 k2
  · exact va_Wgetf hx hb hown ((hC.2.2.1 _ L).use rfl) hi hst q1 (by rw [q3]; exact fun h => by cases h) hv rfl rfl d1 k2
theorem ob_getI {idx c k a : Nat} {C nm ds : String} {fin : Bool} (d : ob_dc K pc (.getfield idx) 3 q) (F : ob_fd c k C nm ds fin 0) (L : ob_fl K idx C nm ds) (ha : S.1 a = c + 1) (kk : ob_G l E K q lo (.int (D.1 a k) :: rest) S D Z T) : ob_G l E K pc lo (.ref a :: rest) S D Z T := ob_get0 d F L ha kk
theorem ob_getL {idx c k a : Nat} {C nm ds : String} {fin : Bool} (d : ob_dc K pc (.getfield idx) 3 q) (F : ob_fd c k C nm ds fin 1) (L : ob_fl K idx C nm ds) (ha : S.1 a = c + 1) (kk : ob_G l E K q lo (.long (D.2.2 a k) :: rest) S D Z T) : ob_G l E K pc lo (.ref a :: rest) S D Z T := ob_get0 d F L ha kk
theorem ob_withH (h : ∀ H : Heap, ob_H E S D H → ob_G l E K pc lo st S D Z T) : ob_G l E K pc lo st S D Z T :=
  fun p e R s m args below meth c H locs cells slots s0 ls hx hb hml hr hlk hnm hown hts hC hH hS hl hfr hlo h1 h2 h3 h4 => h H hH p e R s m args below meth c H locs cells slots s0 ls hx hb hml hr hlk hnm hown hts hC hH hS hl hfr hlo h1 h2 h3 h4
theorem ob_getR {idx c k a t : Nat} {C nm ds : String} {fin : Bool} (d : ob_dc K pc (.getfield idx) 3 q) (F : ob_fd c k C nm ds fin (t + 3)) (L : ob_fl K idx C nm ds) (ha : S.1 a = c + 1) (hz : D.2.1 a k ≠ 0) (kk : S.1 (D.2.1 a k) = t + 1 → ob_G l E K q lo (.ref (D.2.1 a k) :: rest) S D Z T) : ob_G l E K pc lo (.ref a :: rest) S D Z T := by
  refine ob_withH fun H hH => ob_get0 d F L ha ?_
  obtain ⟨U, N, -, -, -, ht⟩ := F
  have h5 := hH.2.2.2.2.1 a k (by omega) (by rw [ha]; omega)
  rw [ha] at h5
  have e : ob_val D a k (t + 3) = .ref (D.2.1 a k) := by simp [ob_val, hz]
  rw [e]
  exact kk (by omega)
theorem ob_put0 {idx c k t a : Nat} {C nm ds : String} {v : Value} {D2 : ob_D} {fty : FieldType} (d : ob_dc K pc (.putfield idx) 3 q) (F : ob_fd c k C nm ds false t) (L : ob_fl K idx C nm ds) (hp : parseFieldDescriptor ds = some fty) (hn : narrow fty v = v) (hf : fits fty v = true) (ha : S.1 a = c + 1)
    (hv : ob_val D2 a k t = v) (hs : ∀ b j : Nat, ¬ (b = a ∧ j = k) → ∀ t, ob_val D2 b j t = ob_val D b j t) (hr0 : ∀ b j : Nat, ¬ (b = a ∧ j = k) → D2.2.1 b j = D.2.1 b j) (hn0 : 2 < t → D2.2.1 a k = 0 ∨ S.1 (D2.2.1 a k) + 2 = t)
    (kk : ob_G l E K q lo rest S D2 Z T) : ob_G l E K pc lo (v :: .ref a :: rest) S D Z T := by
  obtain ⟨d1, rfl⟩ := d
  obtain ⟨U, N, ⟨hc, hin, ⟨ty0, hty⟩, hnm0⟩, hk, hU, rfl⟩ := F
  intro p e R s m args below meth cd H locs cells slots s0 ls hx hb hml hr hlk hnm hown hts hC hH hS hl hfr hlo h1 h2 h3 h4
  have hap := va_apart (own := K.1) hts hin ty0 hty hnm0 hC.1 hc
  obtain ⟨cell, q1, q2, q3, q4⟩ := hH.2.2.2.2.2.1 a c _ ha hc
  obtain ⟨hSl, hfc, kC, hkC, hkind⟩ := hC.1.1 c _ hc
  obtain ⟨cf, kf, fi, f, hi, hsl⟩ := hSl k hk
  have hst := (u_facts hfc hkC (u_lays hts hin hk) hi).1
  have hlay := hts _ (hin _ (u_in_lay hk))
  unfold u_lay at hlay
  rw [if_neg (by rw [hU]; exact Bool.false_ne_true)] at hlay
  have e1 : (U k).1 = C := by rw [hU]
  have e2 : (U k).2.1 = nm := by rw [hU]
  have e3 : (U k).2.2.1 = ds := by rw [hU]
  have h6 := u_store hfc hkC hkind hlay hi (by rw [e3]; exact hp) hn hf
  simp only [e1, e2, e3] at hi
  have hbase : ob_A E a := hH.2.2.2.1 a (by omega)
  rcases L with L | L
  · refine W.putK hx hb (f := f) ⟨hown, hts _ L, ⟨_, _, _, hi⟩, hst⟩ (by rw [q2]; exact h6) q1 q3 (by rw [hsl]; exact k2_hasslot (q4 k hk)) rfl rfl d1 fun H' g1 g2 g3 => ?_
    rw [hsl] at g1 ⊢
    exact kk p e R s m args below meth cd H' _ cells slots s0 ls hx hb hml hr hlk hnm hown hts hC (hH.put ha hc hk hap q1 g1 g2 g3 hv hs hr0 hn0) (hS.put g2 g3 hbase) hl hfr hlo h1 h2 h3 h4
  · refine va_WputK hx hb (f := f) hown ((hC.2.2.1 _ L).use rfl) hi hst (by rw [q2]; exact h6) q1 q3 (by rw [hsl]; exact k2_hasslot (q4 k hk)) rfl rfl d1 fun H' g1 g2 g3 => ?_
    rw [hsl] at g1 ⊢
    exact kk p e R s m args below meth cd H' _ cells slots s0 ls hx hb hml hr hlk hnm hown hts hC (hH.put ha hc hk hap q1 g1 g2 g3 hv hs hr0 hn0) (hS.put g2 g3 hbase) hl hfr hlo h1 h2 h3 h4
/-- a final field, in a constructor of its class -/
theorem ob_putF0 {idx c k t a : Nat} {C nm ds : String} {v : Value} {D2 : ob_D} {fty : FieldType} (d : ob_dc K pc (.putfield idx) 3 q) (F : ob_fd c k C nm ds true t) (L : Cond.fieldLink K.1 idx C nm ds ∈ ob_g) (hin2 : K.2.1.name = "<init>" ∧ K.1 = C) (hp : parseFieldDescriptor ds = some fty) (hn : narrow fty v = v) (hf : fits fty v = true) (ha : S.1 a = c + 1)
    (hv : ob_val D2 a k t = v) (hs : ∀ b j : Nat, ¬ (b = a ∧ j = k) → ∀ t, ob_val D2 b j t = ob_val D b j t) (hr0 : ∀ b j : Nat, ¬ (b = a ∧ j = k) → D2.2.1 b j = D.2.1 b j) (hn0 : 2 < t → D2.2.1 a k = 0 ∨ S.1 (D2.2.1 a k) + 2 = t)
    (kk : ob_G l E K q lo rest S D2 Z T) : ob_G l E K pc lo (v :: .ref a :: rest) S D Z T := by
  obtain ⟨d1, rfl⟩ := d
  obtain ⟨U, N, ⟨hc, hin, ⟨ty0, hty⟩, hnm0⟩, hk, hU, rfl⟩ := F
  intro p e R s m args below meth cd H locs cells slots s0 ls hx hb hml hr hlk hnm hown hts hC hH hS hl hfr hlo h1 h2 h3 h4
  have hap := va_apart (own := K.1) hts hin ty0 hty hnm0 hC.1 hc
  obtain ⟨cell, q1, q2, q3, q4⟩ := hH.2.2.2.2.2.1 a c _ ha hc
  obtain ⟨hSl, hfc, kC, hkC, hkind⟩ := hC.1.1 c _ hc
  obtain ⟨cf, kf, fi, f, hi, hsl⟩ := hSl k hk
  have hst := (u_facts hfc hkC (u_lays hts hin hk) hi).1
  have hlay := hts _ (hin _ (u_in_lay hk))
  unfold u_lay at hlay
  rw [if_pos (by rw [hU])] at hlay
  have e1 : (U k).1 = C := by rw [hU]
  have e2 : (U k).2.1 = nm := by rw [hU]
  have e3 : (U k).2.2.1 = ds := by rw [hU]
  have hcf : m.cls = cf := by
    obtain ⟨_, _, c', _, _, _, -, -, hf', -, -, -, hown2, -⟩ := Cond.laysFinal_spec hlay
    have z1 : c' = cf := by have := hi.symm.trans hf'; simp at this; exact this.1.symm
    rw [e1, ← hin2.2] at hown2
    rw [← z1]; exact Option.some.inj (hown.symm.trans hown2)
  have h6 := u_fits hfc hkC hkind (Or.inr hlay) hi (by rw [e3]; exact hp) hn hf
  simp only [e1, e2, e3] at hi
  have hbase : ob_A E a := hH.2.2.2.1 a (by omega)
  refine W.putFinK hx hb hown (hts _ L) hi hst hcf (hnm.1.trans hin2.1) (by rw [q2]; exact h6) q1 q3 (by rw [hsl]; exact k2_hasslot (q4 k hk)) rfl rfl d1 fun H' g1 g2 g3 => ?_
  rw [hsl] at g1 ⊢
  exact kk p e R s m args below meth cd H' _ cells slots s0 ls hx hb hml hr hlk hnm hown hts hC (hH.put ha hc hk hap q1 g1 g2 g3 hv hs hr0 hn0) (hS.put g2 g3 hbase) hl hfr hlo h1 h2 h3 h4
theorem ob_sI {a k : Nat} {x : Int32} : (∀ b j : Nat, ¬ (b = a ∧ j = k) → ∀ t, ob_val (ob_pI D a k x) b j t = ob_val D b j t) ∧ (∀ b j : Nat, ¬ (b = a ∧ j = k) → (ob_pI D a k x).2.1 b j = D.2.1 b j) ∧ ob_val (ob_pI D a k x) a k 0 = .int x := ⟨fun _ _ h _ => ob_val_pI (Or.inl h), fun _ _ _ => rfl, by simp [ob_val, ob_pI]⟩
theorem ob_sL {a k : Nat} {x : Int64} : (∀ b j : Nat, ¬ (b = a ∧ j = k) → ∀ t, ob_val (ob_pL D a k x) b j t = ob_val D b j t) ∧ (∀ b j : Nat, ¬ (b = a ∧ j = k) → (ob_pL D a k x).2.1 b j = D.2.1 b j) ∧ ob_val (ob_pL D a k x) a k 1 = .long x := ⟨fun _ _ h _ => ob_val_pL (Or.inl h), fun _ _ _ => rfl, by simp [ob_val, ob_pL]⟩
theorem ob_sR {a k x t : Nat} (hx : x ≠ 0) : (∀ b j : Nat, ¬ (b = a ∧ j = k) → ∀ t, ob_val (ob_pR D a k x) b j t = ob_val D b j t) ∧ (∀ b j : Nat, ¬ (b = a ∧ j = k) → (ob_pR D a k x).2.1 b j = D.2.1 b j) ∧ ob_val (ob_pR D a k x) a k (t + 2) = .ref x := ⟨fun _ _ h _ => ob_val_pR (Or.inl h), fun b j h => by simp [ob_pR, h], by simp [ob_val, ob_pR, hx]⟩
theorem ob_putI {idx c k a : Nat} {C nm : String} {x : Int32} (d : ob_dc K pc (.putfield idx) 3 q) (F : ob_fd c k C nm "I" false 0) (L : ob_fl K idx C nm "I") (ha : S.1 a = c + 1) (kk : ob_G l E K q lo rest S (ob_pI D a k x) Z T) : ob_G l E K pc lo (.int x :: .ref a :: rest) S D Z T :=
  ob_put0 (fty := .int) d F L (by decide) rfl rfl ha ob_sI.2.2 ob_sI.1 ob_sI.2.1 (fun h => absurd h (by decide)) kk
theorem ob_putZ {idx c k a : Nat} {C nm : String} {x : Int32} (d : ob_dc K pc (.putfield idx) 3 q) (F : ob_fd c k C nm "Z" false 0) (L : ob_fl K idx C nm "Z") (ha : S.1 a = c + 1) (hx : x = 0 ∨ x = 1) (kk : ob_G l E K q lo rest S (ob_pI D a k x) Z T) : ob_G l E K pc lo (.int x :: .ref a :: rest) S D Z T :=
  ob_put0 (fty := .boolean) d F L (by decide) (by rcases hx with rfl | rfl <;> rfl) (by rcases hx with rfl | rfl <;> rfl) ha ob_sI.2.2 ob_sI.1 ob_sI.2.1 (fun h => absurd h (by decide)) kk
theorem ob_putJ {idx c k a : Nat} {C nm : String} {x : Int64} (d : ob_dc K pc (.putfield idx) 3 q) (F : ob_fd c k C nm "J" false 1) (L : ob_fl K idx C nm "J") (ha : S.1 a = c + 1) (kk : ob_G l E K q lo rest S (ob_pL D a k x) Z T) : ob_G l E K pc lo (.long x :: .ref a :: rest) S D Z T :=
  ob_put0 (fty := .long) d F L (by decide) rfl rfl ha ob_sL.2.2 ob_sL.1 ob_sL.2.1 (fun h => absurd h (by decide)) kk
theorem ob_putFI {idx c k a : Nat} {C nm : String} {x : Int32} (d : ob_dc K pc (.putfield idx) 3 q) (F : ob_fd c k C nm "I" true 0) (L : Cond.fieldLink K.1 idx C nm "I" ∈ ob_g) (hin : K.2.1.name = "<init>" ∧ K.1 = C) (ha : S.1 a = c + 1) (kk : ob_G l E K q lo rest S (ob_pI D a k x) Z T) : ob_G l E K pc lo (.int x :: .ref a :: rest) S D Z T :=
  ob_putF0 (fty := .int) d F L hin (by decide) rfl rfl ha ob_sI.2.2 ob_sI.1 ob_sI.2.1 (fun h => absurd h (by decide)) kk
theorem ob_nz {x t : Nat} {H : Heap} (hC : 1 ≤ E.2.2.2.1) (hH : ob_H E S D H) (h : S.1 x = t + 1) : x ≠ 0 := fun z => by
  have := hH.2.2.2.1 x (by omega)
  omega
theorem ob_withX (h : ∀ (s : State) (H : Heap), ob_C E s → ob_H E S D H → ob_G l E K pc lo st S D Z T) : ob_G l E K pc lo st S D Z T :=
  fun p e R s m args below meth c H locs cells slots s0 ls hx hb hml hr hlk hnm hown hts hC hH hS hl hfr hlo h1 h2 h3 h4 => h s H hC hH p e R s m args below meth c H locs cells slots s0 ls hx hb hml hr hlk hnm hown hts hC hH hS hl hfr hlo h1 h2 h3 h4
theorem ob_putFR {idx c k a x t : Nat} {C nm ds : String} {fty : FieldType} (d : ob_dc K pc (.putfield idx) 3 q) (F : ob_fd c k C nm ds true (t + 3)) (L : Cond.fieldLink K.1 idx C nm ds ∈ ob_g) (hin : K.2.1.name = "<init>" ∧ K.1 = C) (hp : parseFieldDescriptor ds = some fty) (hn : narrow fty (.ref x) = .ref x) (hf : fits fty (.ref x) = true) (ha : S.1 a = c + 1) (hx : S.1 x = t + 1) (kk : ob_G l E K q lo rest S (ob_pR D a k x) Z T) : ob_G l E K pc lo (.ref x :: .ref a :: rest) S D Z T :=
  ob_withX fun _ _ hC hH => ob_putF0 (fty := fty) d F L hin hp hn hf ha (ob_sR (t := t + 1) (ob_nz hC.2.1 hH hx)).2.2 (ob_sR (t := t + 1) (ob_nz hC.2.1 hH hx)).1 (ob_sR (t := t + 1) (ob_nz hC.2.1 hH hx)).2.1 (fun _ => Or.inr (by simp [ob_pR, hx])) kk
-- ===== arrays =====
abbrev ob_in (i : Int32) (n : Nat) : Prop := ¬ (i < 0 ∨ n ≤ i.toNatClampNeg)
theorem ob_aof {s : State} {i : Nat} {ty : FieldType} (hC : ob_C E s) (h : (ob_tys E.2.2.1)[i]? = some (E.2.2.1 i, ty)) (n : Nat) (z : Nat → Value) : s.isArrayOf (arrV (E.2.2.1 i) n z) ty := (hC.1.2 i _ h).1 n z
theorem ob_alen {a i : Nat} (d : ob_dc K pc .arraylength 1 q) (ha : S.1 a = 20 + i) (hi : i < 7) (kk : ob_G l E K q lo (.int (Int32.ofNat (S.2.1 a)) :: rest) S D Z T) : ob_G l E K pc lo (.ref a :: rest) S D Z T := by
  obtain ⟨d1, rfl⟩ := d
  intro p e R s m args below meth cd H locs cells slots s0 ls hx hb hml hr hlk hnm hown hts hC hH hS hl hfr hlo h1 h2 h3 h4
  have k2 := kk p e R s m args below meth cd H locs cells slots s0 ls hx hb hml hr hlk hnm hown hts hC hH hS hl hfr hlo h1 h2 h3 h4
  have hA := hH.2.2.2.2.2.2.1 a i ha hi
  have hty : ∃ ty, (ob_tys E.2.2.1)[i]? = some (E.2.2.1 i, ty) := by
    match i, hi with
    | 0, _ => exact ⟨_, rfl⟩
    | 1, _ => exact ⟨_, rfl⟩
    | 2, _ => exact ⟨_, rfl⟩
    | 3, _ => exact ⟨_, rfl⟩
    | 4, _ => exact ⟨_, rfl⟩
    | 5, _ => exact ⟨_, rfl⟩
    | 6, _ => exact ⟨_, rfl⟩
  obtain ⟨ty, hty⟩ := hty
  exact W.alen hx hb hA (ob_aof hC hty _ _) (by rw [arrV_size]) rfl rfl d1 k2
theorem ob_iald {a : Nat} {i : Int32} (d : ob_dc K pc .iaload 1 q) (ha : S.1 a = 20) (hi : ob_in i (S.2.1 a)) (kk : ob_G l E K q lo (.int (D.1 a i.toNatClampNeg) :: rest) S D Z T) : ob_G l E K pc lo (.int i :: .ref a :: rest) S D Z T := by
  obtain ⟨d1, rfl⟩ := d
  intro p e R s m args below meth cd H locs cells slots s0 ls hx hb hml hr hlk hnm hown hts hC hH hS hl hfr hlo h1 h2 h3 h4
  have k2 := kk p e R s m args below meth cd H locs cells slots s0 ls hx hb hml hr hlk hnm hown hts hC hH hS hl hfr hlo h1 h2 h3 h4
  have hA := hH.2.2.2.2.2.2.1 a 0 ha (by decide)
  have hlt : i.toNatClampNeg < S.2.1 a := Nat.not_le.mp fun z => hi (Or.inr z)
  exact W.iald hx hb hA (ob_aof (i := 0) hC rfl _ _) (fun z => by cases z) (by rw [arrV_size]; exact hi) (arrV_read _ _ hlt) rfl rfl d1 k2
theorem ob_bald {a : Nat} {i : Int32} (d : ob_dc K pc .baload 1 q) (ha : S.1 a = 21) (hi : ob_in i (S.2.1 a)) (kk : ob_G l E K q lo (.int (D.1 a i.toNatClampNeg) :: rest) S D Z T) : ob_G l E K pc lo (.int i :: .ref a :: rest) S D Z T := by
  obtain ⟨d1, rfl⟩ := d
  intro p e R s m args below meth cd H locs cells slots s0 ls hx hb hml hr hlk hnm hown hts hC hH hS hl hfr hlo h1 h2 h3 h4
  have k2 := kk p e R s m args below meth cd H locs cells slots s0 ls hx hb hml hr hlk hnm hown hts hC hH hS hl hfr hlo h1 h2 h3 h4
  have hA := hH.2.2.2.2.2.2.1 a 1 ha (by decide)
  have hlt : i.toNatClampNeg < S.2.1 a := Nat.not_le.mp fun z => hi (Or.inr z)
  exact W.bald hx hb hA (ob_aof (i := 1) hC rfl _ _) (fun z => by cases z) (by rw [arrV_size]; exact hi) (arrV_read _ _ hlt) rfl rfl d1 k2
theorem ob_zald {a : Nat} {i : Int32} (d : ob_dc K pc .baload 1 q) (ha : S.1 a = 22) (hi : ob_in i (S.2.1 a)) (kk : ob_G l E K q lo (.int (D.1 a i.toNatClampNeg) :: rest) S D Z T) : ob_G l E K pc lo (.int i :: .ref a :: rest) S D Z T := by
  obtain ⟨d1, rfl⟩ := d
  intro p e R s m args below meth cd H locs cells slots s0 ls hx hb hml hr hlk hnm hown hts hC hH hS hl hfr hlo h1 h2 h3 h4
  have k2 := kk p e R s m args below meth cd H locs cells slots s0 ls hx hb hml hr hlk hnm hown hts hC hH hS hl hfr hlo h1 h2 h3 h4
  have hA := hH.2.2.2.2.2.2.1 a 2 ha (by decide)
  have hlt : i.toNatClampNeg < S.2.1 a := Nat.not_le.mp fun z => hi (Or.inr z)
  exact W.zald hx hb hA (ob_aof (i := 2) hC rfl _ _) (fun z => by cases z) (by rw [arrV_size]; exact hi) (arrV_read _ _ hlt) rfl rfl d1 k2
theorem ob_lald {a : Nat} {i : Int32} (d : ob_dc K pc .laload 1 q) (ha : S.1 a = 23) (hi : ob_in i (S.2.1 a)) (kk : ob_G l E K q lo (.long (D.2.2 a i.toNatClampNeg) :: rest) S D Z T) : ob_G l E K pc lo (.int i :: .ref a :: rest) S D Z T := by
  obtain ⟨d1, rfl⟩ := d
  intro p e R s m args below meth cd H locs cells slots s0 ls hx hb hml hr hlk hnm hown hts hC hH hS hl hfr hlo h1 h2 h3 h4
  have k2 := kk p e R s m args below meth cd H locs cells slots s0 ls hx hb hml hr hlk hnm hown hts hC hH hS hl hfr hlo h1 h2 h3 h4
  have hA := hH.2.2.2.2.2.2.1 a 3 ha (by decide)
  have hlt : i.toNatClampNeg < S.2.1 a := Nat.not_le.mp fun z => hi (Or.inr z)
  exact W.lald hx hb hA (ob_aof (i := 3) hC rfl _ _) (fun z => by cases z) (by rw [arrV_size]; exact hi) (arrV_read _ _ hlt) rfl rfl d1 k2
theorem ob_aald {a j t : Nat} {i : Int32} {ty : FieldType} (d : ob_dc K pc .aaload 1 q) (ha : S.1 a = 20 + j) (hj : j < 7) (ht : ob_ty (20 + j) 0 = t + 3) (hty : (ob_tys E.2.2.1)[j]? = some (E.2.2.1 j, ty)) (hrf : ty.isReference = true) (hi : ob_in i (S.2.1 a)) (hz : D.2.1 a i.toNatClampNeg ≠ 0) (hk0 : ob_ty (20 + j) i.toNatClampNeg = t + 3)
    (kk : S.1 (D.2.1 a i.toNatClampNeg) = t + 1 → ob_G l E K q lo (.ref (D.2.1 a i.toNatClampNeg) :: rest) S D Z T) : ob_G l E K pc lo (.int i :: .ref a :: rest) S D Z T := by
  obtain ⟨d1, rfl⟩ := d
  intro p e R s m args below meth cd H locs cells slots s0 ls hx hb hml hr hlk hnm hown hts hC hH hS hl hfr hlo h1 h2 h3 h4
  have h5 := hH.2.2.2.2.1 a i.toNatClampNeg (by omega) (by rw [ha]; omega)
  rw [ha] at h5
  have k2 := kk (by omega) p e R s m args below meth cd H locs cells slots s0 ls hx hb hml hr hlk hnm hown hts hC hH hS hl hfr hlo h1 h2 h3 h4
  have hA := hH.2.2.2.2.2.2.1 a j ha hj
  have hlt : i.toNatClampNeg < S.2.1 a := Nat.not_le.mp fun z => hi (Or.inr z)
  exact W.aald hx hb hA (ob_aof hC hty _ _) hrf (fun z => by cases z) (by rw [arrV_size]; exact hi) (by rw [arrV_read _ _ hlt, ht]; simp [ob_val, hz]) rfl rfl d1 k2
theorem ob_iast {a : Nat} {i x : Int32} (d : ob_dc K pc .iastore 1 q) (ha : S.1 a = 20) (hi : ob_in i (S.2.1 a)) (kk : ob_G l E K q lo rest S (ob_pI D a i.toNatClampNeg x) Z T) : ob_G l E K pc lo (.int x :: .int i :: .ref a :: rest) S D Z T := by
  obtain ⟨d1, rfl⟩ := d
  intro p e R s m args below meth cd H locs cells slots s0 ls hx hb hml hr hlk hnm hown hts hC hH hS hl hfr hlo h1 h2 h3 h4
  have hA := hH.2.2.2.2.2.2.1 a 0 ha (by decide)
  refine W.iast hx hb hA (ob_aof (i := 0) hC rfl _ _) (fun z => by cases z) (by rw [arrV_size]; exact hi) rfl rfl d1 fun H' g1 g2 g3 => ?_
  exact kk p e R s m args below meth cd H' _ cells slots s0 ls hx hb hml hr hlk hnm hown hts hC (hH.sto (i := 0) ha (by decide) g1 g2 g3 ob_sI.2.2 ob_sI.1 ob_sI.2.1 (fun h => absurd (show 2 < 0 from h) (by decide)) ⟨fun h => absurd h (by decide), fun h => absurd h (by decide)⟩) (hS.put g2 g3 (hH.2.2.2.1 a (by omega))) hl hfr hlo h1 h2 h3 h4
theorem ob_bfit (x : Int32) : fits .byte (.int x.toInt8.toInt32) = true := by
  have h1 := Int8.le_toInt x.toInt8
  have h2 := Int8.toInt_lt x.toInt8
  simp only [fits, Bool.and_eq_true, decide_eq_true_eq, Int32.le_iff_toInt_le, Int8.toInt_toInt32]
  constructor
  · exact h1
  · show x.toInt8.toInt ≤ 127
    omega
theorem ob_zand (x : Int32) : x &&& 1 = 0 ∨ x &&& 1 = 1 := by
  have h := BitVec.and_one_eq_setWidth_ofBool_getLsbD (x := x.toBitVec)
  cases hb : x.toBitVec.getLsbD 0 with
  | false =>
    left
    apply Int32.toBitVec_inj.mp
    rw [hb] at h
    exact h
  | true =>
    right
    apply Int32.toBitVec_inj.mp
    rw [hb] at h
    exact h
theorem ob_zfit (x : Int32) : fits .boolean (.int (x &&& 1)) = true := by
  simp only [fits, Bool.or_eq_true, beq_iff_eq]
  exact ob_zand x
theorem ob_bast {a : Nat} {i x : Int32} (d : ob_dc K pc .bastore 1 q) (ha : S.1 a = 21) (hi : ob_in i (S.2.1 a)) (kk : ob_G l E K q lo rest S (ob_pI D a i.toNatClampNeg x.toInt8.toInt32) Z T) : ob_G l E K pc lo (.int x :: .int i :: .ref a :: rest) S D Z T := by
  obtain ⟨d1, rfl⟩ := d
  intro p e R s m args below meth cd H locs cells slots s0 ls hx hb hml hr hlk hnm hown hts hC hH hS hl hfr hlo h1 h2 h3 h4
  have hA := hH.2.2.2.2.2.2.1 a 1 ha (by decide)
  refine W.bast hx hb hA (ob_aof (i := 1) hC rfl _ _) (fun z => by cases z) (by rw [arrV_size]; exact hi) rfl rfl d1 fun H' g1 g2 g3 => ?_
  exact kk p e R s m args below meth cd H' _ cells slots s0 ls hx hb hml hr hlk hnm hown hts hC (hH.sto (i := 1) ha (by decide) g1 g2 g3 ob_sI.2.2 ob_sI.1 ob_sI.2.1 (fun h => absurd (show 2 < 0 from h) (by decide)) ⟨fun _ => by simp only [ob_pI, and_self, if_true]; exact ob_bfit x, fun h => absurd h (by decide)⟩) (hS.put g2 g3 (hH.2.2.2.1 a (by omega))) hl hfr hlo h1 h2 h3 h4
theorem ob_zast {a : Nat} {i x : Int32} (d : ob_dc K pc .bastore 1 q) (ha : S.1 a = 22) (hi : ob_in i (S.2.1 a)) (kk : ob_G l E K q lo rest S (ob_pI D a i.toNatClampNeg (x &&& 1)) Z T) : ob_G l E K pc lo (.int x :: .int i :: .ref a :: rest) S D Z T := by
  obtain ⟨d1, rfl⟩ := d
  intro p e R s m args below meth cd H locs cells slots s0 ls hx hb hml hr hlk hnm hown hts hC hH hS hl hfr hlo h1 h2 h3 h4
  have hA := hH.2.2.2.2.2.2.1 a 2 ha (by decide)
  refine W.zast hx hb hA (ob_aof (i := 2) hC rfl _ _) (fun z => by cases z) (by rw [arrV_size]; exact hi) rfl rfl d1 fun H' g1 g2 g3 => ?_
  exact kk p e R s m args below meth cd H' _ cells slots s0 ls hx hb hml hr hlk hnm hown hts hC (hH.sto (i := 2) ha (by decide) g1 g2 g3 ob_sI.2.2 ob_sI.1 ob_sI.2.1 (fun h => absurd (show 2 < 0 from h) (by decide)) ⟨fun h => absurd h (by decide), fun _ => by simp only [ob_pI, and_self, if_true]; exact ob_zfit x⟩) (hS.put g2 g3 (hH.2.2.2.1 a (by omega))) hl hfr hlo h1 h2 h3 h4
theorem ob_last {a : Nat} {i : Int32} {x : Int64} (d : ob_dc K pc .lastore 1 q) (ha : S.1 a = 23) (hi : ob_in i (S.2.1 a)) (kk : ob_G l E K q lo rest S (ob_pL D a i.toNatClampNeg x) Z T) : ob_G l E K pc lo (.long x :: .int i :: .ref a :: rest) S D Z T := by
  obtain ⟨d1, rfl⟩ := d
  intro p e R s m args below meth cd H locs cells slots s0 ls hx hb hml hr hlk hnm hown hts hC hH hS hl hfr hlo h1 h2 h3 h4
  have hA := hH.2.2.2.2.2.2.1 a 3 ha (by decide)
  refine W.last hx hb hA (ob_aof (i := 3) hC rfl _ _) (fun z => by cases z) (by rw [arrV_size]; exact hi) rfl rfl d1 fun H' g1 g2 g3 => ?_
  exact kk p e R s m args below meth cd H' _ cells slots s0 ls hx hb hml hr hlk hnm hown hts hC (hH.sto (i := 3) ha (by decide) g1 g2 g3 ob_sL.2.2 ob_sL.1 ob_sL.2.1 (fun h => absurd (show 2 < 1 from h) (by decide)) ⟨fun h => absurd h (by decide), fun h => absurd h (by decide)⟩) (hS.put g2 g3 (hH.2.2.2.1 a (by omega))) hl hfr hlo h1 h2 h3 h4
/-- a Row into an array of Rows -/
theorem ob_aast {a x : Nat} {i : Int32} (d : ob_dc K pc .aastore 1 q) (ha : S.1 a = 24) (hx0 : S.1 x = 2) (hi : ob_in i (S.2.1 a)) (kk : ob_G l E K q lo rest S (ob_pR D a i.toNatClampNeg x) Z T) : ob_G l E K pc lo (.ref x :: .int i :: .ref a :: rest) S D Z T := by
  obtain ⟨d1, rfl⟩ := d
  intro p e R s m args below meth cd H locs cells slots s0 ls hx hb hml hr hlk hnm hown hts hC hH hS hl hfr hlo h1 h2 h3 h4
  have hA := hH.2.2.2.2.2.2.1 a 4 ha (by decide)
  have hxz : x ≠ 0 := ob_nz (t := 1) hC.2.1 hH hx0
  obtain ⟨cellV, f1, f2, f3, -⟩ := hH.2.2.2.2.2.1 x 1 _ hx0 rfl
  have hcls := (hC.1.1 1 _ rfl).2
  obtain ⟨kA, comp, k1, k2, k3, -⟩ := (hC.1.2 4 _ rfl).2
  have hcomp : comp = E.1 1 := Option.some.inj (k3.symm.trans hcls.1)
  subst hcomp
  obtain ⟨kC, hkC, -⟩ := hcls.2
  have hlt : i.toNatClampNeg < S.2.1 a := Nat.not_le.mp fun z => hi (Or.inr z)
  refine W.aast hx hb hA (fun q h => by cases h) (fun h => by cases h) k1 k2 rfl hkC ⟨fun z => hi (Or.inl z), by rw [arrV_size]; exact hlt⟩ f1 (fun q h => by rw [f3] at h; cases h) (by rw [f2]; exact hkC) (by rw [f2]; exact va_assign hcls) rfl rfl d1 fun H' g1 g2 g3 => ?_
  exact kk p e R s m args below meth cd H' _ cells slots s0 ls hx hb hml hr hlk hnm hown hts hC (hH.sto (i := 4) ha (by decide) g1 g2 g3 (ob_sR (t := 2) hxz).2.2 (ob_sR (t := 2) hxz).1 (ob_sR (t := 2) hxz).2.1 (fun _ => Or.inr (by simp only [ob_pR, and_self, if_true]; rw [hx0]; rfl)) ⟨fun h => absurd h (by decide), fun h => absurd h (by decide)⟩) (hS.put g2 g3 (hH.2.2.2.1 a (by omega))) hl hfr hlo h1 h2 h3 h4
end OB2
