-- ===== words that every part uses =====
theorem ob_good : ∀ w ∈ ob_g, (w.onTables && w.keeps) = true ∨ ∃ ty, w = .arrayClass ty := fun _ h => good_of_word (List.mem_filter.mp h).2
def ob_ns (n : Int32) : Prop := ¬ n < 0 ∧ n.toNatClampNeg ≤ 67108864
def ob_cw (K : ob_K) : Prop := Cond.code K.2.1 K.2.2.1 K.2.2.2.1 K.2.2.2.2.1 ∈ ob_g
theorem ob_goodK {K : ob_K} (h : ob_cw K) : GoodIn ob_g (ob_ws K) := fun w hw => by
  rcases List.mem_cons.mp hw with rfl | hw
  · exact ⟨h, ob_good _ h⟩
  · exact ⟨hw, ob_good _ hw⟩
def ob_nd (c : Nat) (C : String) (N : Nat) : Prop := ∃ (U : u_T) (ty : Nat → FieldType), ob_cl[c]? = some (C, U, N) ∧ (∀ w ∈ u_ws C U N, w ∈ ob_g) ∧ (∀ k, k < N → parseFieldDescriptor (U k).2.2.1 = some (ty k)) ∧ (∀ k, k < N → defaultValue (ty k) = match ob_ty (c + 1) k with | 0 => .int 0 | 1 => .long 0 | _ => .null) ∧ Cond.instantiable C N ∈ ob_g ∧ Cond.initialized C ∈ ob_g
section OB3
variable {l : Launch} {E : ob_E} {K K2 : ob_K} {pc q : Nat} {lo lo2 : List (Nat × Value)} {st st2 rest : List Value} {S T S2 : ob_S} {D D' D2 : ob_D} {Z : ob_Z} {r r2 : Option Value}
theorem ob_zval (D : ob_D) (a k t : Nat) : ob_val (ob_z D a) a k t = match t with | 0 => .int 0 | 1 => .long 0 | _ => .null := by
  match t with
  | 0 => simp [ob_val, ob_z]
  | 1 => simp [ob_val, ob_z]
  | t + 2 => simp [ob_val, ob_z]
theorem ob_new0 {idx c N : Nat} {C : String} (d : ob_dc K pc (.new idx) 3 q) (F : ob_nd c C N) (L : Cond.classLink K.1 idx C ∈ ob_g) (m1 : S.2.2.1 + 1 ≤ T.2.2.1) (m2 : S.2.2.2 + N ≤ T.2.2.2)
    (kk : ob_G l E K q lo (.ref S.2.2.1 :: rest) (ob_new S (c + 1) 0 N) (ob_z D S.2.2.1) Z T) : ob_G l E K pc lo rest S D Z T := by
  obtain ⟨d1, rfl⟩ := d
  obtain ⟨U, ty, hc, hin, hty, hdf, hi1, hi2⟩ := F
  intro p e R s m args below meth cd H locs cells slots s0 ls hx hb hml hr hlk hnm hown hts hC hH hS hl hfr hlo h1 h2 h3 h4
  have hKn := hC.1.1 c _ hc
  refine W.newcK hx hb hown (hts _ L) (hts _ hi1) (hts _ hi2) rfl d1 (by omega) (by omega) hKn.2.1 hH.1 fun H' kC hkC e1 z1 o1 => ?_
  have hb0 := u_born ty hts hin hKn hkC e1 hty
  have hH' : ob_H E (ob_new S (c + 1) 0 N) (ob_z D S.2.2.1) H' := by
    refine hH.push z1 (fun x hx => o1 x hx) (by omega) (fun c' q' hc' hq' => ?_) (fun i hi hi7 => ?_)
    · have : c' = c := by omega
      subst this
      have hqq := Option.some.inj (hq'.symm.trans hc)
      subst hqq
      exact hb0.to (fun k hk => (hdf k hk).trans (ob_zval _ _ _ _).symm)
    · have hl13 : c < 13 := (List.getElem?_eq_some_iff.mp hc).1
      omega
  exact kk p e R s m args below meth cd H' locs (cells + 1) (slots + N) s0 ls hx hb hml hr hlk hnm hown hts hC hH' ⟨Nat.le_trans hS.1 (by rw [hH.1, z1]; omega), fun x g1 g2 => by rw [o1 x (by have := hS.1; have := hH.1; omega)]; exact hS.2.1 x g1 g2, hS.2.2⟩ hl hfr hlo (by show _ = S.2.2.1 + 1; omega) (by show _ = S.2.2.2 + N; omega) h3 h4
theorem ob_newa {i : Nat} {n : Int32} {ty : FieldType} {at_ : ArrayType} (d : ob_dc K pc (.newarray at_) 2 q) (hat : Op.newarray.typeOf at_ = ty) (hi7 : i < 7) (hty : (ob_tys E.2.2.1)[i]? = some (E.2.2.1 i, ty)) (hdf : ∀ D a k, ob_val (ob_z D a) a k (ob_ty (20 + i) 0) = defaultValue ty) (hcb : componentBytes ty ≤ 8) (hra : ∀ s c, va_RA s c ty → s.vm.findClass ("[" ++ ty.toString) = some c) (L : Cond.arrayClass ty ∈ ob_g) (hn : ob_ns n) (m1 : S.2.2.1 + 1 ≤ T.2.2.1) (m2 : S.2.2.2 + n.toNatClampNeg ≤ T.2.2.2)
    (kk : ob_G l E K q lo (.ref S.2.2.1 :: rest) (ob_new S (20 + i) n.toNatClampNeg n.toNatClampNeg) (ob_z D S.2.2.1) Z T) : ob_G l E K pc lo (.int n :: rest) S D Z T := by
  obtain ⟨d1, rfl⟩ := d
  subst hat
  intro p e R s m args below meth cd H locs cells slots s0 ls hx hb hml hr hlk hnm hown hts hC hH hS hl hfr hlo h1 h2 h3 h4
  have hbt : n.toNatClampNeg * componentBytes (Op.newarray.typeOf at_) ≤ 536870912 := Nat.le_trans (Nat.mul_le_mul hn.2 hcb) (by decide)
  refine va_newaK hx hb (hts _ L) rfl d1 rfl hn.1 rfl hbt (by omega) (by omega) hH.1 fun H' cA e1 z1 o1 hAr hNm => ?_
  have hcA : cA = E.2.2.1 i := Option.some.inj (hNm.symm.trans (hra _ _ (hC.1.2 i _ hty).2))
  subst hcA
  have hH' : ob_H E (ob_new S (20 + i) n.toNatClampNeg n.toNatClampNeg) (ob_z D S.2.2.1) H' := by
    refine hH.push z1 (fun x hx => o1 x hx) (by omega) (fun c' q' hc' hq' => ?_) (fun i' hi hi7 => ?_)
    · have hl13 : c' < 13 := (List.getElem?_eq_some_iff.mp hq').1
      omega
    · have : i' = i := by omega
      subst this
      rw [e1]
      congr 2
      funext j
      exact (hdf _ _ _).symm
  exact kk p e R s m args below meth cd H' locs (cells + 1) (slots + n.toNatClampNeg) s0 ls hx hb hml hr hlk hnm hown hts hC hH' ⟨Nat.le_trans hS.1 (by rw [hH.1, z1]; omega), fun x g1 g2 => by rw [o1 x (by have := hS.1; have := hH.1; omega)]; exact hS.2.1 x g1 g2, hS.2.2⟩ hl hfr hlo (by show _ = S.2.2.1 + 1; omega) (by show _ = S.2.2.2 + n.toNatClampNeg; omega) h3 h4
theorem ob_newI {n : Int32} (d : ob_dc K pc (.newarray .int) 2 q) (L : Cond.arrayClass .int ∈ ob_g) (hn : ob_ns n) (m1 : S.2.2.1 + 1 ≤ T.2.2.1) (m2 : S.2.2.2 + n.toNatClampNeg ≤ T.2.2.2) (kk : ob_G l E K q lo (.ref S.2.2.1 :: rest) (ob_new S 20 n.toNatClampNeg n.toNatClampNeg) (ob_z D S.2.2.1) Z T) : ob_G l E K pc lo (.int n :: rest) S D Z T :=
  ob_newa (i := 0) d rfl (by decide) rfl (fun D a k => ob_zval D a k 0) (by decide) (fun _ _ h => h) L hn m1 m2 kk
theorem ob_newB {n : Int32} (d : ob_dc K pc (.newarray .byte) 2 q) (L : Cond.arrayClass .byte ∈ ob_g) (hn : ob_ns n) (m1 : S.2.2.1 + 1 ≤ T.2.2.1) (m2 : S.2.2.2 + n.toNatClampNeg ≤ T.2.2.2) (kk : ob_G l E K q lo (.ref S.2.2.1 :: rest) (ob_new S 21 n.toNatClampNeg n.toNatClampNeg) (ob_z D S.2.2.1) Z T) : ob_G l E K pc lo (.int n :: rest) S D Z T :=
  ob_newa (i := 1) d rfl (by decide) rfl (fun D a k => ob_zval D a k 0) (by decide) (fun _ _ h => h) L hn m1 m2 kk
theorem ob_newZ {n : Int32} (d : ob_dc K pc (.newarray .boolean) 2 q) (L : Cond.arrayClass .boolean ∈ ob_g) (hn : ob_ns n) (m1 : S.2.2.1 + 1 ≤ T.2.2.1) (m2 : S.2.2.2 + n.toNatClampNeg ≤ T.2.2.2) (kk : ob_G l E K q lo (.ref S.2.2.1 :: rest) (ob_new S 22 n.toNatClampNeg n.toNatClampNeg) (ob_z D S.2.2.1) Z T) : ob_G l E K pc lo (.int n :: rest) S D Z T :=
  ob_newa (i := 2) d rfl (by decide) rfl (fun D a k => ob_zval D a k 0) (by decide) (fun _ _ h => h) L hn m1 m2 kk
theorem ob_newJ {n : Int32} (d : ob_dc K pc (.newarray .long) 2 q) (L : Cond.arrayClass .long ∈ ob_g) (hn : ob_ns n) (m1 : S.2.2.1 + 1 ≤ T.2.2.1) (m2 : S.2.2.2 + n.toNatClampNeg ≤ T.2.2.2) (kk : ob_G l E K q lo (.ref S.2.2.1 :: rest) (ob_new S 23 n.toNatClampNeg n.toNatClampNeg) (ob_z D S.2.2.1) Z T) : ob_G l E K pc lo (.int n :: rest) S D Z T :=
  ob_newa (i := 3) d rfl (by decide) rfl (fun D a k => ob_zval D a k 1) (by decide) (fun _ _ h => h) L hn m1 m2 kk
/-- an array of Rows -/
theorem ob_newR {idx : Nat} {n : Int32} (d : ob_dc K pc (.anewarray idx) 3 q) (L : Cond.classLink K.1 idx "OrbitBox$Row" ∈ ob_g) (hn : ob_ns n) (m1 : S.2.2.1 + 1 ≤ T.2.2.1) (m2 : S.2.2.2 + n.toNatClampNeg ≤ T.2.2.2) (kk : ob_G l E K q lo (.ref S.2.2.1 :: rest) (ob_new S 24 n.toNatClampNeg n.toNatClampNeg) (ob_z D S.2.2.1) Z T) : ob_G l E K pc lo (.int n :: rest) S D Z T := by
  obtain ⟨d1, rfl⟩ := d
  intro p e R s m args below meth cd H locs cells slots s0 ls hx hb hml hr hlk hnm hown hts hC hH hS hl hfr hlo h1 h2 h3 h4
  have hbt : n.toNatClampNeg * 4 ≤ 536870912 := Nat.le_trans (Nat.mul_le_mul hn.2 (Nat.le_refl 4)) (by decide)
  refine W.anew hx hb hown (hts _ L) (va_AO.use hC.2.2.2.2.2.2.2.1.1) rfl d1 rfl hn.1 hbt (by omega) (by omega) fun cA kA comp f1 f2 f3 f4 => ?_
  generalize hH1 : H.push ({ cls := cA, slots := Array.replicate n.toNatClampNeg .null, vm := .none } : Cell) = H'
  have z1 : H'.size = S.2.2.1 + 1 := by rw [← hH1, Array.size_push, hH.1]
  have e1 : H'[S.2.2.1]? = some (arrV cA n.toNatClampNeg (fun _ => .null)) := by rw [← hH1, ← hH.1, Array.getElem?_push_size, ← arrV_new]
  have o1 : ∀ x : Nat, x < S.2.2.1 → H'[x]? = H[x]? := fun x hx => by rw [← hH1, Array.getElem?_push, if_neg (Nat.ne_of_lt (by rw [hH.1]; exact hx))]
  obtain ⟨kA', comp', g1, g2, g3, g4⟩ := (hC.1.2 4 _ rfl).2
  have hcA : cA = E.2.2.1 4 := Option.some.inj (f1.symm.trans g4)
  subst hcA
  have hH' : ob_H E (ob_new S 24 n.toNatClampNeg n.toNatClampNeg) (ob_z D S.2.2.1) H' := by
    refine hH.push z1 o1 (by omega) (fun c' q' hc' hq' => ?_) (fun i' hi hi7 => ?_)
    · have hl13 : c' < 13 := (List.getElem?_eq_some_iff.mp hq').1
      omega
    · have : i' = 4 := by omega
      subst this
      rw [e1]
      congr 2
      funext j
      exact (ob_zval D S.2.2.1 j 4).symm
  rw [hH.1]
  exact kk p e R s m args below meth cd H' locs (cells + 1) (slots + n.toNatClampNeg) s0 ls hx hb hml hr hlk hnm hown hts hC hH' ⟨Nat.le_trans hS.1 (by rw [hH.1, z1]; omega), fun x g1 g2 => by rw [o1 x (by have := hS.1; have := hH.1; omega)]; exact hS.2.1 x g1 g2, hS.2.2⟩ hl hfr hlo (by show _ = S.2.2.1 + 1; omega) (by show _ = S.2.2.2 + n.toNatClampNeg; omega) h3 h4
theorem ob_objI {idx a : Nat} (d : ob_dc K pc (.invokespecial idx) 3 q) (L : Cond.methodLink K.1 idx objectInit ∈ ob_g) (L2 : Cond.instanceMethod objectInit ∈ ob_g) (L3 : Cond.code objectInit ⟨#[0xb1]⟩ 1 none ∈ ob_g) (hf : 1 ≤ K.2.2.2.2.2.1) (hw : (rest.map fun v => v.category).sum + 12 ≤ K.2.2.2.2.2.2) (kk : ob_G l E K q lo rest S D Z T) : ob_G l E K pc lo (.ref a :: rest) S D Z T := by
  obtain ⟨d1, rfl⟩ := d
  intro p e R s m args below meth cd H locs cells slots s0 ls hx hb hml hr hlk hnm hown hts hC hH hS hl hfr hlo h1 h2 h3 h4
  have k2 := kk p e R s m args below meth cd H locs cells slots s0 ls hx hb hml hr hlk hnm hown hts hC hH hS hl hfr hlo h1 h2 h3 h4
  exact W.objInit hx hb hown (hts _ L) (hts _ L2) (hts _ L3) rfl (by rw [hml]; exact hl.1) rfl d1 (Nat.le_trans hf hfr) (by have : (F0 m pc ls (Value.ref a :: rest)).monitorRoom = 0 := rfl; rw [this]; omega) k2
-- ===== calls =====
theorem ob_run {p : Program} {e : Env} {R : Room} {s : State} {m : MethodId} {args : Array Value} {below : List Frame} {meth : Method} {c : Code} {H : Heap} {locs : List Loc} {cells slots mc ms : Nat} {ls : Array Slot} {Q : State → Prop} {a : Array Value} {st0 : List Value}
    (hr : va_Run p l e R s m args below meth c H locs cells slots mc ms (F0 m pc ls st0) rest (ob_Q E r2 S2 D2 a) (ob_A E)) (hS : va_S (ob_A E) s.heap H locs)
    (kk : ∀ (H1 : Heap) (locs1 : List Loc), ob_H E S2 D2 H1 → va_S (ob_A E) s.heap H1 locs1 → W p l e R s m args below meth c H1 locs1 (cells + mc) (slots + ms) Q (F0 m (pc + 3) ls (r2.toList ++ rest))) : W p l e R s m args below meth c H locs cells slots Q (F0 m pc ls st0) := by
  intro X hX Z
  obtain ⟨v, st₀, t, T', L, h0, X', hL, e1, e2, ⟨hv, hh, hz, hk⟩, st⟩ := hr X hX Z
  cases hv
  rw [h0] at hz hk
  obtain ⟨t2, a1, b1⟩ := kk T'.heap (locs ++ L) (by rw [e1]; exact hh)
    ⟨Nat.le_trans hS.1 (by rw [e1]; exact hz), fun q h1 h2 => by rw [e1, hk q (Nat.lt_of_lt_of_le h1 hS.1) h2]; exact hS.2.1 q h1 h2, fun q hq => by
      rcases List.mem_append.mp hq with h | h
      · exact hS.2.2 q h
      · exact hL q h⟩ T' rfl X'
  exact ⟨t2, st t2 a1, b1⟩
def ob_yd (K2 : ob_K) (n : Nat) : Prop := K2.2.1.cls ≠ "java/lang/invoke/MethodHandle" ∧ K2.2.1.cls ≠ "java/lang/invoke/VarHandle" ∧ (parseMethodDescriptor K2.2.1.desc).map (fun d => d.parameters.length) = some n
def ob_fit (K K2 : ob_K) : Prop := K2.2.2.2.2.2.1 + 1 ≤ K.2.2.2.2.2.1 ∧ 8 + (K2.2.2.2.1 + 11) + K2.2.2.2.2.2.2 ≤ K.2.2.2.2.2.2
/-- what a virtual call's tables say -/
def ob_vd (K K2 : ob_K) (idx n c : Nat) : Prop := ob_cw K2 ∧ ob_yd K2 n ∧ Cond.methodLink K.1 idx K2.2.1 ∈ ob_g ∧ Cond.instanceMethod K2.2.1 ∈ ob_g ∧ Cond.selects K2.2.1.cls K2.2.1 K2.2.1 ∈ ob_g ∧ Cond.initialized K2.2.1.cls ∈ ob_g ∧ (∃ (U : u_T) (N : Nat), ob_cl[c]? = some (K2.2.1.cls, U, N)) ∧ ob_fit K K2
theorem ob_callV {idx n c b : Nat} {As : List Value} (d : ob_dc K pc (.invokevirtual idx) 3 q) (F : ob_vd K K2 idx n c) (ha : S.1 b = c + 1) (hn : As.length = n) (hst : st = As.reverse ++ .ref b :: rest) (hw : (rest.map fun v => v.category).sum ≤ 8) (hM : ob_M l E K2 (.ref b :: As) S D r2 S2 D2) (m1 : S.2.2.1 ≤ S2.2.2.1 ∧ S.2.2.2 ≤ S2.2.2.2) (m2 : S2.2.2.1 ≤ T.2.2.1 ∧ S2.2.2.2 ≤ T.2.2.2)
    (kk : ob_G l E K q lo (r2.toList ++ rest) S2 D2 Z T) : ob_G l E K pc lo st S D Z T := by
  obtain ⟨d1, rfl⟩ := d
  obtain ⟨w1, w2, w3, w4, w5, w6, ⟨U, N, hc⟩, w8⟩ := F
  intro p e R s m args below meth cd H locs cells slots s0 ls hx hb hml hr hlk hnm hown hts hC hH hS hl hfr hlo h1 h2 h3 h4
  have hg : GoodIn ob_g (wsV K.1 idx K2.2.1.cls K2.2.1 (ob_ws K2)) := fun w hw => by
    simp only [wsV, List.mem_append, List.mem_cons, List.not_mem_nil, or_false] at hw
    rcases hw with (rfl | rfl | rfl | rfl) | hw
    · exact ⟨w3, ob_good _ w3⟩
    · exact ⟨w4, ob_good _ w4⟩
    · exact ⟨w5, ob_good _ w5⟩
    · exact ⟨w6, ob_good _ w6⟩
    · exact ob_goodK w1 w hw
  have hrec : ∃ cell : Cell, H[b]? = some cell ∧ cell.vm.isStatics = false ∧ s.vm.findClass K2.2.1.cls = some cell.cls := by
    obtain ⟨cell, q1, q2, q3, -⟩ := hH.2.2.2.2.2.1 b c _ ha hc
    exact ⟨cell, q1, by rw [q3]; rfl, by rw [q2]; exact (hC.1.1 c _ hc).2.1⟩
  refine ob_run (va_runV (As := As) (rest := rest) (C := K2.2.1.cls) ⟨hx, hb, hml, hown, hts⟩ hM (cwV n hts hg rfl rfl rfl ⟨rfl, w2⟩ ⟨Nat.le_trans w8.1 hfr, Nat.le_trans w8.2 hlo⟩) ⟨ob_P.blind, hrec, fun V hV hW => ⟨rfl, hC.next hW (by rw [hV]; exact hS), by rw [hV]; exact hH⟩⟩ rfl hn hl.1 hst (lv_room hw) d1 ⟨by omega, by omega⟩) hS fun H1 locs1 g1 g2 => ?_
  exact kk p e R s m args below meth cd H1 locs1 _ _ s0 ls hx hb hml hr hlk hnm hown hts hC g1 g2 hl hfr hlo (by omega) (by omega) h3 h4
def ob_sd (K K2 : ob_K) (idx n : Nat) : Prop := ob_cw K2 ∧ ob_yd K2 n ∧ Cond.methodLink K.1 idx K2.2.1 ∈ ob_g ∧ Cond.static K2.2.1 ∈ ob_g ∧ Cond.initialized K2.2.1.cls ∈ ob_g ∧ ob_fit K K2
theorem ob_callS {idx n : Nat} {As : List Value} (d : ob_dc K pc (.invokestatic idx) 3 q) (F : ob_sd K K2 idx n) (hn : As.length = n) (hst : st = As.reverse ++ rest) (hw : (rest.map fun v => v.category).sum ≤ 8) (hM : ob_M l E K2 As S D r2 S2 D2) (m1 : S.2.2.1 ≤ S2.2.2.1 ∧ S.2.2.2 ≤ S2.2.2.2) (m2 : S2.2.2.1 ≤ T.2.2.1 ∧ S2.2.2.2 ≤ T.2.2.2)
    (kk : ob_G l E K q lo (r2.toList ++ rest) S2 D2 Z T) : ob_G l E K pc lo st S D Z T := by
  obtain ⟨d1, rfl⟩ := d
  obtain ⟨w1, w2, w3, w4, w5, w8⟩ := F
  intro p e R s m args below meth cd H locs cells slots s0 ls hx hb hml hr hlk hnm hown hts hC hH hS hl hfr hlo h1 h2 h3 h4
  have hg : GoodIn ob_g (va_wsS K.1 idx K2.2.1 (ob_ws K2)) := fun w hw => by
    simp only [va_wsS, List.mem_append, List.mem_cons, List.not_mem_nil, or_false] at hw
    rcases hw with (rfl | rfl | rfl) | hw
    · exact ⟨w3, ob_good _ w3⟩
    · exact ⟨w4, ob_good _ w4⟩
    · exact ⟨w5, ob_good _ w5⟩
    · exact ob_goodK w1 w hw
  refine ob_run (va_runS (As := As) (rest := rest) ⟨hx, hb, hml, hown, hts⟩ hM (va_cwS n hts hg rfl rfl rfl w2 ⟨Nat.le_trans w8.1 hfr, Nat.le_trans w8.2 hlo⟩) ⟨ob_P.blind, fun V hV hW => ⟨rfl, hC.next hW (by rw [hV]; exact hS), by rw [hV]; exact hH⟩⟩ rfl hn hl.1 hst (lv_room hw) d1 ⟨by omega, by omega⟩) hS fun H1 locs1 g1 g2 => ?_
  exact kk p e R s m args below meth cd H1 locs1 _ _ s0 ls hx hb hml hr hlk hnm hown hts hC g1 g2 hl hfr hlo (by omega) (by omega) h3 h4
def ob_id (K K2 : ob_K) (idx n : Nat) : Prop := ob_cw K2 ∧ ob_yd K2 n ∧ Cond.methodLink K.1 idx K2.2.1 ∈ ob_g ∧ Cond.instanceMethod K2.2.1 ∈ ob_g ∧ Cond.initialized K2.2.1.cls ∈ ob_g ∧ ob_fit K K2 ∧ K2.2.1.name = "<init>" ∧ K2.2.2.2.2.1 = none
theorem ob_callI {idx n b : Nat} {As : List Value} (d : ob_dc K pc (.invokespecial idx) 3 q) (F : ob_id K K2 idx n) (hn : As.length = n) (hst : st = As.reverse ++ .ref b :: rest) (hw : (rest.map fun v => v.category).sum ≤ 8) (hM : ob_M l E K2 (.ref b :: As) S D none S2 D2) (m1 : S.2.2.1 ≤ S2.2.2.1 ∧ S.2.2.2 ≤ S2.2.2.2) (m2 : S2.2.2.1 ≤ T.2.2.1 ∧ S2.2.2.2 ≤ T.2.2.2)
    (kk : ob_G l E K q lo rest S2 D2 Z T) : ob_G l E K pc lo st S D Z T := by
  obtain ⟨d1, rfl⟩ := d
  obtain ⟨w1, w2, w3, w4, w5, w8, w9, w10⟩ := F
  intro p e R s m args below meth cd H locs cells slots s0 ls hx hb hml hr hlk hnm hown hts hC hH hS hl hfr hlo h1 h2 h3 h4
  have hwe : ob_ws K2 = Cond.code K2.2.1 K2.2.2.1 K2.2.2.2.1 none :: ob_g := by unfold ob_ws; rw [w10]
  refine ob_run (r2 := none) (va_runI (As := As) (rest := rest) ⟨hx, hb, hml, hown, hts⟩ hM (cwI n hts (ob_goodK w1) hwe rfl rfl (hts _ w5) (hts _ w3) (hts _ w4) w9 w2 ⟨Nat.le_trans w8.1 hfr, Nat.le_trans w8.2 hlo⟩) ⟨ob_P.blind, fun V hV hW => ⟨rfl, hC.next hW (by rw [hV]; exact hS), by rw [hV]; exact hH⟩⟩ rfl hn hl.1 hst (lv_room hw) d1 ⟨by omega, by omega⟩) hS fun H1 locs1 g1 g2 => ?_
  exact kk p e R s m args below meth cd H1 locs1 _ _ s0 ls hx hb hml hr hlk hnm hown hts hC g1 g2 hl hfr hlo (by omega) (by omega) h3 h4
-- ===== ends =====
theorem ob_iret {v : Int32} {ty : FieldType} (d : ob_dc K pc .ireturn 1 q) (hty : K.2.2.2.2.1 = some ty) (hn : narrow ty (.int v) = .int v) : ob_V l E K pc lo [.int v] S D (some (.int v)) S D := by
  obtain ⟨d1, rfl⟩ := d
  intro p e R s m args below meth cd H locs cells slots s0 ls hx hb hml hr hlk hnm hown hts hC hH hS hl hfr hlo h1 h2 h3 h4
  have e1 : R.cells = cells := by omega
  have e2 : R.slots = slots := by omega
  unfold ob_mq
  rw [e1, e2]
  exact W.zret hx hb (hr.trans hty) hn (fun t ht hW => ⟨rfl, by rw [ht]; exact hH, hS.F ht⟩) hS.2.2 d1 hlk
theorem ob_vret (d : ob_dc K pc .return_ 1 q) (hty : K.2.2.2.2.1 = none) : ob_V l E K pc lo [] S D none S D := by
  obtain ⟨d1, rfl⟩ := d
  intro p e R s m args below meth cd H locs cells slots s0 ls hx hb hml hr hlk hnm hown hts hC hH hS hl hfr hlo h1 h2 h3 h4
  have e1 : R.cells = cells := by omega
  have e2 : R.slots = slots := by omega
  unfold ob_mq
  rw [e1, e2]
  exact W.vret hx hb (hr.trans hty) (fun t ht hW => ⟨rfl, by rw [ht]; exact hH, hS.F ht⟩) hS.2.2 d1 hlk
theorem ob_aret {x : Nat} {rt : FieldType} (d : ob_dc K pc .areturn 1 q) (hty : K.2.2.2.2.1 = some rt) (hrt : (∃ n, rt = .object n) ∨ ∃ t, rt = .array t) : ob_V l E K pc lo [.ref x] S D (some (.ref x)) S D := by
  obtain ⟨d1, rfl⟩ := d
  intro p e R s m args below meth cd H locs cells slots s0 ls hx hb hml hr hlk hnm hown hts hC hH hS hl hfr hlo h1 h2 h3 h4
  have e1 : R.cells = cells := by omega
  have e2 : R.slots = slots := by omega
  unfold ob_mq
  rw [e1, e2]
  exact W.aret hx hb (hr.trans hty) hrt (Or.inr ⟨x, rfl⟩) (fun t ht hW => ⟨rfl, by rw [ht]; exact hH, hS.F ht⟩) hS.2.2 d1 hlk
-- ===== constants, statics, switches =====
theorem ob_ldc {idx n : Nat} {v : Int32} {i : Instr} (d : ob_dc K pc i n q) (hi : (i = .ldc idx ∧ n = 2) ∨ (i = .ldc_w idx ∧ n = 3)) (L : Cond.constant K.1 idx v ∈ ob_g) (kk : ob_G l E K q lo (.int v :: rest) S D Z T) : ob_G l E K pc lo rest S D Z T := by
  obtain ⟨d1, rfl⟩ := d
  intro p e R s m args below meth cd H locs cells slots s0 ls hx hb hml hr hlk hnm hown hts hC hH hS hl hfr hlo h1 h2 h3 h4
  have k2 := kk p e R s m args below meth cd H locs cells slots s0 ls hx hb hml hr hlk hnm hown hts hC hH hS hl hfr hlo h1 h2 h3 h4
  rcases hi with ⟨rfl, rfl⟩ | ⟨rfl, rfl⟩
  · exact lv_ldc hx hb hown (hts _ L) d1 k2
  · exact lv_ldcw hx hb hown (hts _ L) d1 k2
theorem ob_ldc2 {idx : Nat} {v : Int64} (d : ob_dc K pc (.ldc2_w idx) 3 q) (L : Cond.constantLong K.1 idx v ∈ ob_g) (kk : ob_G l E K q lo (.long v :: rest) S D Z T) : ob_G l E K pc lo rest S D Z T := by
  obtain ⟨d1, rfl⟩ := d
  intro p e R s m args below meth cd H locs cells slots s0 ls hx hb hml hr hlk hnm hown hts hC hH hS hl hfr hlo h1 h2 h3 h4
  exact lv_ldc2 hx hb hown (hts _ L) d1 (kk p e R s m args below meth cd H locs cells slots s0 ls hx hb hml hr hlk hnm hown hts hC hH hS hl hfr hlo h1 h2 h3 h4)
theorem ob_gsL {idx : Nat} (d : ob_dc K pc (.getstatic idx) 3 q) (L : Cond.fieldLink K.1 idx "OrbitBox$Handler" "LENGTHS" "[I" ∈ ob_g) (kk : ob_G l E K q lo (.ref E.2.2.2.2.1 :: rest) S D Z T) : ob_G l E K pc lo rest S D Z T := by
  obtain ⟨d1, rfl⟩ := d
  intro p e R s m args below meth cd H locs cells slots s0 ls hx hb hml hr hlk hnm hown hts hC hH hS hl hfr hlo h1 h2 h3 h4
  exact va_gets hx hb hC.2.2.2.1 hS hown (hts _ L) (fun _ h => h) d1 (kk p e R s m args below meth cd H locs cells slots s0 ls hx hb hml hr hlk hnm hown hts hC hH hS hl hfr hlo h1 h2 h3 h4)
theorem ob_gsS {idx : Nat} (d : ob_dc K pc (.getstatic idx) 3 q) (L : Cond.fieldLink K.1 idx "OrbitBox$Craft" "SAFE_ACTUATORS" "[I" ∈ ob_g) (kk : ob_G l E K q lo (.ref E.2.2.2.2.2.1 :: rest) S D Z T) : ob_G l E K pc lo rest S D Z T := by
  obtain ⟨d1, rfl⟩ := d
  intro p e R s m args below meth cd H locs cells slots s0 ls hx hb hml hr hlk hnm hown hts hC hH hS hl hfr hlo h1 h2 h3 h4
  exact va_gets hx hb hC.2.2.2.2.2.1 hS hown (hts _ L) (fun _ h => h) d1 (kk p e R s m args below meth cd H locs cells slots s0 ls hx hb hml hr hlk hnm hown hts hC hH hS hl hfr hlo h1 h2 h3 h4)
theorem ob_ldL {i : Int32} (d : ob_dc K pc .iaload 1 q) (hi : ob_in i 64) (kk : ob_G l E K q lo (.int (ob_LEN i.toNatClampNeg) :: rest) S D Z T) : ob_G l E K pc lo (.int i :: .ref E.2.2.2.2.1 :: rest) S D Z T := by
  obtain ⟨d1, rfl⟩ := d
  intro p e R s m args below meth cd H locs cells slots s0 ls hx hb hml hr hlk hnm hown hts hC hH hS hl hfr hlo h1 h2 h3 h4
  exact va_ti hx hb hC.2.2.2.2.1 hS hi rfl d1 (kk p e R s m args below meth cd H locs cells slots s0 ls hx hb hml hr hlk hnm hown hts hC hH hS hl hfr hlo h1 h2 h3 h4)
theorem ob_ldS {i : Int32} (d : ob_dc K pc .iaload 1 q) (hi : ob_in i 8) (kk : ob_G l E K q lo (.int (ob_SAF i.toNatClampNeg) :: rest) S D Z T) : ob_G l E K pc lo (.int i :: .ref E.2.2.2.2.2.1 :: rest) S D Z T := by
  obtain ⟨d1, rfl⟩ := d
  intro p e R s m args below meth cd H locs cells slots s0 ls hx hb hml hr hlk hnm hown hts hC hH hS hl hfr hlo h1 h2 h3 h4
  exact va_ti hx hb hC.2.2.2.2.2.2.1 hS hi rfl d1 (kk p e R s m args below meth cd H locs cells slots s0 ls hx hb hml hr hlk hnm hown hts hC hH hS hl hfr hlo h1 h2 h3 h4)
theorem ob_lenL (d : ob_dc K pc .arraylength 1 q) (kk : ob_G l E K q lo (.int 64 :: rest) S D Z T) : ob_G l E K pc lo (.ref E.2.2.2.2.1 :: rest) S D Z T := by
  obtain ⟨d1, rfl⟩ := d
  intro p e R s m args below meth cd H locs cells slots s0 ls hx hb hml hr hlk hnm hown hts hC hH hS hl hfr hlo h1 h2 h3 h4
  exact va_tlen hx hb hC.2.2.2.2.1 hS rfl d1 (kk p e R s m args below meth cd H locs cells slots s0 ls hx hb hml hr hlk hnm hown hts hC hH hS hl hfr hlo h1 h2 h3 h4)
/-- a table switch, at a number that it has -/
theorem ob_tabI {x v : Int32} {df lo' hi' off : Int} {offs : Array Int} {n t : Nat} (d : decode K.2.2.1 pc = .ok (.tableswitch df lo' hi' offs, n)) (hx0 : x = v) (hv : ¬ v.toInt < lo' ∧ ¬ hi' < v.toInt ∧ offs[(v.toInt - lo').toNat]? = some off ∧ (pc : Int) + off = (t : Int)) (k : ob_G l E K t lo rest S D Z T) : ob_G l E K pc lo (.int x :: rest) S D Z T := by
  subst hx0
  exact ob_step (fun hx hb k => lv_tableIn hx hb d hv.1 hv.2.1 hv.2.2.1 hv.2.2.2 k) k
theorem ob_tabO {x : Int32} {df lo' hi' : Int} {offs : Array Int} {n t : Nat} (d : decode K.2.2.1 pc = .ok (.tableswitch df lo' hi' offs, n)) (ht : (pc : Int) + df = (t : Int)) (ho : x.toInt < lo' ∨ hi' < x.toInt) (k : ob_G l E K t lo rest S D Z T) : ob_G l E K pc lo (.int x :: rest) S D Z T :=
  ob_step (fun hx hb k => lv_tableOut hx hb d ho ht k) k
theorem ob_lku {x : Int32} {df off : Int} {ps : Array (Int × Int)} {n t : Nat} (d : decode K.2.2.1 pc = .ok (.lookupswitch df ps, n)) (hp : (ps.toList.zip (ps.toList.drop 1)).all (fun (a, next) => a.1 < next.1) = true) (ho : Op.lookupswitch.offset ps.toList df x.toInt = off) (ht : (pc : Int) + off = (t : Int)) (k : ob_G l E K t lo rest S D Z T) : ob_G l E K pc lo (.int x :: rest) S D Z T :=
  ob_step (fun hx hb k => lv_lookup hx hb d hp ho ht k) k
end OB3
/-- a number that is none of lo, lo + 1, .. is outside -/
theorem ob_out (x : Int32) (lo hi : Int) (h : ∀ k : Int, lo ≤ k → k ≤ hi → x.toInt ≠ k) : x.toInt < lo ∨ hi < x.toInt := by
  by_cases h1 : x.toInt < lo
  · exact Or.inl h1
  · by_cases h2 : hi < x.toInt
    · exact Or.inr h2
    · exact absurd rfl (h x.toInt (by omega) (by omega))
-- ===== trees =====
abbrev ob_lt {α β : Type} (x : α) (f : α → β) : β := f x
def ob_bd {α γ β : Type} (o : Option (α × γ)) (f : α → γ → Option β) : Option β := match o with
  | none => none
  | some (a, d) => f a d
def ob_bv {γ β : Type} (o : Option γ) (f : γ → Option β) : Option β := match o with
  | none => none
  | some d => f d
theorem ob_bd_e {α γ β : Type} {o : Option (α × γ)} {f : α → γ → Option β} {y : β} (h : ob_bd o f = some y) : ∃ a d, o = some (a, d) ∧ f a d = some y := by
  match o, h with
  | some (a, d), h => exact ⟨a, d, rfl, h⟩
theorem ob_bv_e {γ β : Type} {o : Option γ} {f : γ → Option β} {y : β} (h : ob_bv o f = some y) : ∃ d, o = some d ∧ f d = some y := by
  match o, h with
  | some d, h => exact ⟨d, rfl, h⟩
theorem ob_ift {c : Prop} [Decidable c] {α : Type} {a b x : α} (hc : c) (h : (if c then a else b) = x) : a = x := by rwa [if_pos hc] at h
theorem ob_iff {c : Prop} [Decidable c] {α : Type} {a b x : α} (hc : ¬ c) (h : (if c then a else b) = x) : b = x := by rwa [if_neg hc] at h
theorem ob_gd {c : Prop} [Decidable c] {α : Type} {a : Option α} {x : α} (h : (if c then a else none) = some x) : c ∧ a = some x := by
  by_cases hc : c
  · exact ⟨hc, ob_ift hc h⟩
  · exact absurd (ob_iff hc h) (fun z => by cases z)
theorem ob_lt_e {α β : Type} {x : α} {f : α → β} {y : β} (h : ob_lt x f = y) : f x = y := h
def ob_FU : Nat := 1000000
