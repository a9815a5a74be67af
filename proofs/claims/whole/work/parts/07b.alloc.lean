-- ===== System.arraycopy between arrays of one small type =====
def ob_cp (D : ob_D) (a0 a sp dp n : Nat) : ob_D := (fun b j => if b = a then va_cpy (D.1 a0) (D.1 a) sp dp n j else D.1 b j, D.2.1, D.2.2)
abbrev ob_cg (sp dp n : Int32) (n0 n1 : Nat) : Prop := ¬ sp < 0 ∧ ¬ dp < 0 ∧ ¬ n < 0 ∧ sp.toNatClampNeg + n.toNatClampNeg ≤ n0 ∧ dp.toNatClampNeg + n.toNatClampNeg ≤ n1
theorem ob_nn (z : Int32) (hz : ¬ z < 0) : z.toInt = (z.toNatClampNeg : Int) := by
  have hz0 : (0 : Int) ≤ z.toInt := by
    have := Int32.not_lt.mp hz
    simpa using Int32.le_iff_toInt_le.mp this
  show z.toInt = ((z.toInt.toNat : Nat) : Int)
  omega
section OB5
variable {l : Launch} {E : ob_E} {K : ob_K} {pc q : Nat} {lo : List (Nat × Value)} {rest : List Value} {S T : ob_S} {D : ob_D} {Z : ob_Z}
theorem ob_cpyW {p : Program} {e : Env} {R : Room} {s : State} {m : MethodId} {args : Array Value} {below : List Frame} {meth : Method} {c : Code} {H : Heap} {locs : List Loc} {cells slots : Nat} {Q : State → Prop} {ls : Array Slot} {cc : ByteArray} (hexec : p.tables.exec = Jvm.exec) (hb : c.code = cc) (hml : c.maxLocals = ls.size) {own : String} {index : Nat} (hown : s.vm.findClass own = some m.cls) (hlink : (Cond.methodLink own index arraycopyName).before args s = true) (hnat : (Cond.native arraycopyName).before args s = true) (hstat : (Cond.static arraycopyName).before args s = true) (hini : (Cond.initialized "java/lang/System").before args s = true)
    {a0 a : Nat} {c0 c1 : ClassId} {n0 n1 : Nat} {f g : Nat → Int32} {ty : FieldType} (hc0 : H[a0]? = some (arrV c0 n0 (fun j => .int (f j)))) (hc1 : H[a]? = some (arrV c1 n1 (fun j => .int (g j)))) (hA0 : ArrOfT s c0 ty) (hA1 : ArrOfT s c1 ty) (hprim : refKind ty = false)
    {sp dp n : Int32} (hg : ob_cg sp dp n n0 n1) (hfit : ∀ i, i < n.toNatClampNeg → fits ty (.int (f (sp.toNatClampNeg + i))) = true)
    (hframes : 1 ≤ R.frames) (hlocals : (rest.map fun v => v.category).sum + (nativeFrameWords "java/lang/System" "arraycopy" 5 + 11) ≤ R.locals) (hdg : decode cc pc = .ok (.invokestatic index, 3))
    (kk : ∀ (H1 : Heap) (locs1 : List Loc), H1[a]? = some (arrV c1 n1 (fun j => .int (va_cpy f g sp.toNatClampNeg dp.toNatClampNeg n.toNatClampNeg j))) → H1.size = H.size → (∀ x : Nat, x ≠ a → H1[x]? = H[x]?) → (∀ z ∈ locs1, z ∈ locs ∨ z.base = a) → W p l e R s m args below meth c H1 locs1 cells slots Q (F0 m (pc + 3) ls rest)) : W p l e R s m args below meth c H locs cells slots Q (F0 m pc ls (.int n :: .int dp :: .ref a :: .int sp :: .ref a0 :: rest)) := by
  obtain ⟨h1, h2, h3, h4, h5⟩ := hg
  intro X0 hT X
  obtain ⟨-, k0, hk0, cm0, hkk0⟩ := hA0 n0 (fun j => .int (f j))
  obtain ⟨-, k1, hk1, cm1, hkk1⟩ := hA1 n1 (fun j => .int (g j))
  obtain ⟨vm', X', step⟩ := X.arraycopy hexec hown hlink hnat hstat hini (src := a0) (dst := a) (cs := arrV c0 n0 (fun j => .int (f j))) (cd := arrV c1 n1 (fun j => .int (g j))) (srcPos := sp) (destPos := dp) (n := n) (by rw [hT]; exact hc0) (by rw [hT]; exact hc1)
    (fun _ h => by cases h) (fun _ h => by cases h) (fun h => by cases h) (fun h => by cases h) hk0 hk1 hkk0 hkk1 (by simp [hprim]) h1 h2 h3
    (by rw [ob_nn sp h1, ob_nn n h3, arrV_size]; omega) (by rw [ob_nn dp h2, ob_nn n h3, arrV_size]; omega)
    (fun vm₁ _ i hi => by
      have e : (arrV c0 n0 (fun j => .int (f j))).slots.getD (sp.toNatClampNeg + i) .null = .int (f (sp.toNatClampNeg + i)) := by
        rw [Array.getD_eq_getD_getElem?, arrV_read _ _ (by omega)]
        rfl
      rw [e]
      exact ⟨hfit i hi, trivial⟩)
    (g := F0 m pc ls (.int n :: .int dp :: .ref a :: .int sp :: .ref a0 :: rest)) rfl (by rw [hml]) (rest := rest) rfl (by rw [hb]; exact hdg) hframes (by show 2 * 0 + _ + _ ≤ _; omega)
  have e1 : copied (arrV c0 n0 (fun j => .int (f j))) (arrV c1 n1 (fun j => .int (g j))) sp dp n = arrV c1 n1 (fun j => .int (va_cpy f g sp.toNatClampNeg dp.toNatClampNeg n.toNatClampNeg j)) := va_copied (fun z => .int z) c0 c1 f g h4
  rw [e1] at X' step
  have hl : a < H.size := (Array.getElem?_eq_some_iff.mp hc1).1
  obtain ⟨t, a1, b1⟩ := kk (H.setIfInBounds a (arrV c1 n1 (fun j => .int (va_cpy f g sp.toNatClampNeg dp.toNatClampNeg n.toNatClampNeg j)))) _ (by simp [Array.getElem?_setIfInBounds, hl]) (by simp) (fun x hx => by simp [Array.getElem?_setIfInBounds, Ne.symm hx]) (fun z hz => by
      rcases List.mem_append.mp hz with h | h
      · exact Or.inl h
      · obtain ⟨y, -, hy⟩ := List.mem_map.mp h
        rw [← hy]
        exact Or.inr rfl) _ (by rw [← hT]; rfl) X'
  exact ⟨t, step t a1, b1⟩
theorem ob_cpval {D : ob_D} {a0 a sp dp n b j t : Nat} (h : b ≠ a ∨ t ≠ 0) : ob_val (ob_cp D a0 a sp dp n) b j t = ob_val D b j t := by
  unfold ob_val ob_cp
  split
  · rcases h with h | h
    · simp [h]
    · exact absurd rfl h
  · rfl
  · rfl
theorem ob_copy {idx a0 a i : Nat} {sp dp n : Int32} {ty : FieldType} (d : ob_dc K pc (.invokestatic idx) 3 q) (L : Cond.methodLink K.1 idx arraycopyName ∈ ob_g) (L2 : Cond.native arraycopyName ∈ ob_g) (L3 : Cond.static arraycopyName ∈ ob_g) (L4 : Cond.initialized "java/lang/System" ∈ ob_g) (ha0 : S.1 a0 = 20 + i) (ha : S.1 a = 20 + i) (hi : i < 3) (hty : (ob_tys E.2.2.1)[i]? = some (E.2.2.1 i, ty)) (hty2 : (i = 0 ∧ ty = .int) ∨ (i = 1 ∧ ty = .byte) ∨ (i = 2 ∧ ty = .boolean)) (hg : ob_cg sp dp n (S.2.1 a0) (S.2.1 a)) (hf : 1 ≤ K.2.2.2.2.2.1) (hw : (rest.map fun v => v.category).sum + (nativeFrameWords "java/lang/System" "arraycopy" 5 + 11) ≤ K.2.2.2.2.2.2)
    (kk : ob_G l E K q lo rest S (ob_cp D a0 a sp.toNatClampNeg dp.toNatClampNeg n.toNatClampNeg) Z T) : ob_G l E K pc lo (.int n :: .int dp :: .ref a :: .int sp :: .ref a0 :: rest) S D Z T := by
  obtain ⟨d1, rfl⟩ := d
  intro p e R s m args below meth cd H locs cells slots s0 ls hx hb hml hr hlk hnm hown hts hC hH hS hl hfr hlo h1 h2 h3 h4
  have e0 : ∀ k, ob_ty (20 + i) k = 0 := by
    match i, hi with
    | 0, _ => exact fun _ => rfl
    | 1, _ => exact fun _ => rfl
    | 2, _ => exact fun _ => rfl
  have hc0 := hH.2.2.2.2.2.2.1 a0 i ha0 (by omega)
  have hc1 := hH.2.2.2.2.2.2.1 a i ha (by omega)
  rw [e0] at hc0 hc1
  have hAr : ArrOfT s (E.2.2.1 i) ty := (hC.1.2 i _ hty).1
  refine ob_cpyW (ty := ty) hx hb (by rw [hml]; exact hl.1.symm) hown (hts _ L) (hts _ L2) (hts _ L3) (hts _ L4) hc0 hc1 hAr hAr (by rcases hty2 with ⟨-, rfl⟩ | ⟨-, rfl⟩ | ⟨-, rfl⟩ <;> rfl) hg (fun j _ => ?_) (Nat.le_trans hf hfr) (Nat.le_trans hw hlo) d1 fun H1 locs1 g1 g2 g3 g4 => ?_
  · rcases hty2 with ⟨-, rfl⟩ | ⟨rfl, rfl⟩ | ⟨rfl, rfl⟩
    · rfl
    · exact (hH.2.2.2.2.2.2.2 a0 _).1 ha0
    · exact (hH.2.2.2.2.2.2.2 a0 _).2 ha0
  · obtain ⟨q1, q2, q3, q4, q5, q6, q7, q8⟩ := hH
    have hH1 : ob_H E S (ob_cp D a0 a sp.toNatClampNeg dp.toNatClampNeg n.toNatClampNeg) H1 := by
      refine ⟨g2.trans q1, q2, q3, q4, q5, fun b c q' hb hq' => ?_, fun b i' hb hi' => ?_, fun b j => ?_⟩
      · have hba : b ≠ a := fun z => by
          subst z
          have hl : c < 13 := (List.getElem?_eq_some_iff.mp hq').1
          omega
        exact ((q6 b c q' hb hq').kept (g3 b hba)).to (fun j _ => (ob_cpval (Or.inl hba)).symm)
      · by_cases hba : b = a
        · subst hba
          have hii : i' = i := by omega
          subst hii
          rw [g1, e0]
          congr 2
          funext j
          simp [ob_val, ob_cp]
        · rw [g3 b hba, q7 b i' hb hi']
          congr 2
          funext j
          exact (ob_cpval (Or.inl hba)).symm
      · by_cases hba : b = a
        · subst hba
          have e2 : (ob_cp D a0 b sp.toNatClampNeg dp.toNatClampNeg n.toNatClampNeg).1 b j = va_cpy (D.1 a0) (D.1 b) sp.toNatClampNeg dp.toNatClampNeg n.toNatClampNeg j := by simp [ob_cp]
          rw [e2]
          unfold va_cpy
          split
          · exact ⟨fun h => (q8 a0 _).1 (by omega), fun h => (q8 a0 _).2 (by omega)⟩
          · exact q8 b j
        · have e2 : (ob_cp D a0 a sp.toNatClampNeg dp.toNatClampNeg n.toNatClampNeg).1 b j = D.1 b j := by simp [ob_cp, hba]
          rw [e2]
          exact q8 b j
    have hba : ob_A E a := q4 a (by omega)
    exact kk p e R s m args below meth cd H1 locs1 cells slots s0 ls hx hb hml hr hlk hnm hown hts hC hH1 ⟨by rw [g2]; exact hS.1, fun x z1 z2 => by rw [g3 x (fun z => z2 (by rw [z]; exact hba))]; exact hS.2.1 x z1 z2, fun z hz => by
      rcases g4 z hz with h | h
      · exact hS.2.2 z h
      · rw [h]; exact hba⟩ hl hfr hlo h1 h2 h3 h4
end OB5
-- ===== methods that make cells =====
def ob_ext (S T : ob_S) : Prop := S.2.2.1 ≤ T.2.2.1 ∧ S.2.2.2 ≤ T.2.2.2 ∧ ∀ x, x < S.2.2.1 → T.1 x = S.1 x ∧ T.2.1 x = S.2.1 x
theorem ob_ext.tr {S T U : ob_S} (h : ob_ext S T) (k : ob_ext T U) : ob_ext S U := ⟨Nat.le_trans h.1 k.1, Nat.le_trans h.2.1 k.2.1, fun x hx => ⟨(k.2.2 x (Nat.lt_of_lt_of_le hx h.1)).1.trans (h.2.2 x hx).1, (k.2.2 x (Nat.lt_of_lt_of_le hx h.1)).2.trans (h.2.2 x hx).2⟩⟩
theorem ob_ext_eq {S T : ob_S} (h : S = T) : ob_ext S T := by
  subst h
  exact ⟨Nat.le_refl _, Nat.le_refl _, fun _ _ => ⟨rfl, rfl⟩⟩
theorem ob_ext_new {S S1 : ob_S} {ki n sl : Nat} (h : S1 = ob_new S ki n sl) : ob_ext S S1 := by
  subst h
  exact ⟨Nat.le_succ _, Nat.le_add_right _ _, fun x hx => ⟨if_neg (Nat.ne_of_lt hx), if_neg (Nat.ne_of_lt hx)⟩⟩
theorem ob_ext_m {S T : ob_S} (h : ob_ext S T) : S.2.2.1 ≤ T.2.2.1 ∧ S.2.2.2 ≤ T.2.2.2 := ⟨h.1, h.2.1⟩
def ob_kd (S : ob_S) (x k : Nat) : Prop := S.1 x = k ∧ x < S.2.2.1
theorem ob_kd_ext {S T : ob_S} {x k : Nat} (h : ob_ext S T) (hk : ob_kd S x k) : ob_kd T x k := ⟨(h.2.2 x hk.2).1.trans hk.1, Nat.lt_of_lt_of_le hk.2 h.1⟩
theorem ob_kd_new {S S1 : ob_S} {ki n sl x k : Nat} (h : S1 = ob_new S ki n sl) (hk : ob_kd S x k) : ob_kd S1 x k := ob_kd_ext (ob_ext_new h) hk
theorem ob_kd_this {S S1 : ob_S} {ki n sl : Nat} (h : S1 = ob_new S ki n sl) (_ : ki ≠ 0) : ob_kd S1 S.2.2.1 ki := by
  subst h
  exact ⟨if_pos rfl, Nat.lt_succ_self _⟩
theorem ob_kdH {E : ob_E} {S : ob_S} {D : ob_D} {H : Heap} {x k : Nat} (h : ob_H E S D H) (hk : S.1 x = k + 1) : ob_kd S x (k + 1) := ⟨hk, Nat.not_le.mp fun z => by have := h.2.2.1 x z; omega⟩
theorem ob_lt_x {α β : Type} {x : α} {f : α → β} {y : β} (h : ob_lt x f = y) : ∃ z, z = x ∧ f z = y := ⟨x, rfl, h⟩
abbrev ob_gt (c : Prop) [Decidable c] {α : Type} (a : Option α) : Option α := if c then a else none
theorem ob_gt_e {c : Prop} [Decidable c] {α : Type} {a : Option α} {x : α} (h : ob_gt c a = some x) : c ∧ a = some x := ob_gd h
theorem ob_pe {S T : ob_S} {D D' : ob_D} (h : some (S, D) = some (T, D')) : S = T ∧ D = D' := by
  cases h
  exact ⟨rfl, rfl⟩
section OB6
variable {l : Launch} {E : ob_E} {K : ob_K} {pc q : Nat} {lo : List (Nat × Value)} {st rest : List Value} {S T S1 : ob_S} {D D' D1 : ob_D} {Z : ob_Z} {r : Option Value}
theorem ob_vee {T1 : ob_S} {D3 : ob_D} (h1 : T1 = T) (h2 : D3 = D') (k : ob_V l E K pc lo st S D r T1 D3) : ob_V l E K pc lo st S D r T D' := by
  subst h1
  subst h2
  exact k
theorem ob_xI {X : ob_D} {P : Prop} (h : D1 = X) (k : ob_G l E K q lo rest S X Z T → P) (kk : ob_G l E K q lo rest S D1 Z T) : P := by
  subst h
  exact k kk
theorem ob_newO {idx c N : Nat} {C : String} (d : ob_dc K pc (.new idx) 3 q) (F : ob_nd c C N) (L : Cond.classLink K.1 idx C ∈ ob_g) (hS : S1 = ob_new S (c + 1) 0 N) (hD : D1 = ob_z D S.2.2.1) (x : ob_ext S1 T) (kk : ob_G l E K q lo (.ref S.2.2.1 :: rest) S1 D1 Z T) : ob_G l E K pc lo rest S D Z T := by
  subst hS
  subst hD
  exact ob_new0 d F L x.1 x.2.1 kk
theorem ob_newIx {n : Int32} (d : ob_dc K pc (.newarray .int) 2 q) (L : Cond.arrayClass .int ∈ ob_g) (hn : ¬ n < 0 ∧ n.toNatClampNeg ≤ 67108864) (hS : S1 = ob_new S 20 n.toNatClampNeg n.toNatClampNeg) (hD : D1 = ob_z D S.2.2.1) (x : ob_ext S1 T) (kk : ob_G l E K q lo (.ref S.2.2.1 :: rest) S1 D1 Z T) : ob_G l E K pc lo (.int n :: rest) S D Z T := by
  subst hS
  subst hD
  exact ob_newI d L hn x.1 x.2.1 kk
theorem ob_newBx {n : Int32} (d : ob_dc K pc (.newarray .byte) 2 q) (L : Cond.arrayClass .byte ∈ ob_g) (hn : ¬ n < 0 ∧ n.toNatClampNeg ≤ 67108864) (hS : S1 = ob_new S 21 n.toNatClampNeg n.toNatClampNeg) (hD : D1 = ob_z D S.2.2.1) (x : ob_ext S1 T) (kk : ob_G l E K q lo (.ref S.2.2.1 :: rest) S1 D1 Z T) : ob_G l E K pc lo (.int n :: rest) S D Z T := by
  subst hS
  subst hD
  exact ob_newB d L hn x.1 x.2.1 kk
theorem ob_newZx {n : Int32} (d : ob_dc K pc (.newarray .boolean) 2 q) (L : Cond.arrayClass .boolean ∈ ob_g) (hn : ¬ n < 0 ∧ n.toNatClampNeg ≤ 67108864) (hS : S1 = ob_new S 22 n.toNatClampNeg n.toNatClampNeg) (hD : D1 = ob_z D S.2.2.1) (x : ob_ext S1 T) (kk : ob_G l E K q lo (.ref S.2.2.1 :: rest) S1 D1 Z T) : ob_G l E K pc lo (.int n :: rest) S D Z T := by
  subst hS
  subst hD
  exact ob_newZ d L hn x.1 x.2.1 kk
theorem ob_newJx {n : Int32} (d : ob_dc K pc (.newarray .long) 2 q) (L : Cond.arrayClass .long ∈ ob_g) (hn : ¬ n < 0 ∧ n.toNatClampNeg ≤ 67108864) (hS : S1 = ob_new S 23 n.toNatClampNeg n.toNatClampNeg) (hD : D1 = ob_z D S.2.2.1) (x : ob_ext S1 T) (kk : ob_G l E K q lo (.ref S.2.2.1 :: rest) S1 D1 Z T) : ob_G l E K pc lo (.int n :: rest) S D Z T := by
  subst hS
  subst hD
  exact ob_newJ d L hn x.1 x.2.1 kk
theorem ob_newRx {idx : Nat} {n : Int32} (d : ob_dc K pc (.anewarray idx) 3 q) (L : Cond.classLink K.1 idx "OrbitBox$Row" ∈ ob_g) (hn : ¬ n < 0 ∧ n.toNatClampNeg ≤ 67108864) (hS : S1 = ob_new S 24 n.toNatClampNeg n.toNatClampNeg) (hD : D1 = ob_z D S.2.2.1) (x : ob_ext S1 T) (kk : ob_G l E K q lo (.ref S.2.2.1 :: rest) S1 D1 Z T) : ob_G l E K pc lo (.int n :: rest) S D Z T := by
  subst hS
  subst hD
  exact ob_newR d L hn x.1 x.2.1 kk
end OB6
-- ===== Math.min, Math.max =====
def ob_mn (x y : Int32) : Int32 := if y < x then y else x
def ob_mx (x y : Int32) : Int32 := if x < y then y else x
section OB7
variable {l : Launch} {E : ob_E} {K : ob_K} {pc q : Nat} {lo : List (Nat × Value)} {rest : List Value} {S T : ob_S} {D : ob_D} {Z : ob_Z}
theorem ob_mmin {idx : Nat} {x y : Int32} (d : ob_dc K pc (.invokestatic idx) 3 q) (L : Cond.methodLink K.1 idx Lib.Math.min.name ∈ ob_g) (L2 : Cond.static Lib.Math.min.name ∈ ob_g) (L3 : Cond.initialized "java/lang/Math" ∈ ob_g) (L4 : Cond.code Lib.Math.min.name Lib.Math.min.code 2 (some .int) ∈ ob_g) (hf : 1 ≤ K.2.2.2.2.2.1) (hw : (rest.map fun v => v.category).sum + 13 ≤ K.2.2.2.2.2.2) (m1 : S.2.2.1 ≤ T.2.2.1 ∧ S.2.2.2 ≤ T.2.2.2) (kk : ob_G l E K q lo (.int (ob_mn x y) :: rest) S D Z T) : ob_G l E K pc lo (.int y :: .int x :: rest) S D Z T := by
  obtain ⟨d1, rfl⟩ := d
  intro p e R s m args below meth cd H locs cells slots s0 ls hx hb hml hr hlk hnm hown hts hC hH hS hl hfr hlo h1 h2 h3 h4
  exact va_mmin hx hb (by rw [hml]; exact hl.1.symm) hown (hts _ L) (hts _ L2) (hts _ L3) (hts _ L4) (Nat.le_trans hf hfr) (Nat.le_trans hw hlo) (by omega) (by omega) d1 (kk p e R s m args below meth cd H locs cells slots s0 ls hx hb hml hr hlk hnm hown hts hC hH hS hl hfr hlo h1 h2 h3 h4)
theorem ob_mmax {idx : Nat} {x y : Int32} (d : ob_dc K pc (.invokestatic idx) 3 q) (L : Cond.methodLink K.1 idx Lib.Math.max.name ∈ ob_g) (L2 : Cond.static Lib.Math.max.name ∈ ob_g) (L3 : Cond.initialized "java/lang/Math" ∈ ob_g) (L4 : Cond.code Lib.Math.max.name Lib.Math.max.code 2 (some .int) ∈ ob_g) (hf : 1 ≤ K.2.2.2.2.2.1) (hw : (rest.map fun v => v.category).sum + 13 ≤ K.2.2.2.2.2.2) (m1 : S.2.2.1 ≤ T.2.2.1 ∧ S.2.2.2 ≤ T.2.2.2) (kk : ob_G l E K q lo (.int (ob_mx x y) :: rest) S D Z T) : ob_G l E K pc lo (.int y :: .int x :: rest) S D Z T := by
  obtain ⟨d1, rfl⟩ := d
  intro p e R s m args below meth cd H locs cells slots s0 ls hx hb hml hr hlk hnm hown hts hC hH hS hl hfr hlo h1 h2 h3 h4
  exact va_mmax hx hb (by rw [hml]; exact hl.1.symm) hown (hts _ L) (hts _ L2) (hts _ L3) (hts _ L4) (Nat.le_trans hf hfr) (Nat.le_trans hw hlo) (by omega) (by omega) d1 (kk p e R s m args below meth cd H locs cells slots s0 ls hx hb hml hr hlk hnm hown hts hC hH hS hl hfr hlo h1 h2 h3 h4)
end OB7
