-- ===== rows: arrays of arrays, the script, the law's end =====
theorem ob_H.stoR {E : ob_E} {S : ob_S} {D : ob_D} {H H1 : Heap} {a i k x t : Nat} {cell : Cell} (h : ob_H E S D H) (ha : S.1 a = 20 + i) (hi : i < 7) (hi3 : 3 ≤ i) (hc : H[a]? = some cell) (h1 : H1[a]? = some (cell.setSlot k (.ref x))) (hz : H1.size = H.size) (oq : ∀ y : Nat, y ≠ a → H1[y]? = H[y]?) (hx : x ≠ 0) (hty : ob_ty (20 + i) 0 = t + 2 ∧ ob_ty (20 + i) k = t + 2) (hk : S.1 x = t) : ob_H E S (ob_pR D a k x) H1 := by
  have hg := h.2.2.2.2.2.2.1 a i ha hi
  have hce : cell = arrV (E.2.2.1 i) (S.2.1 a) (fun j => ob_val D a j (ob_ty (20 + i) 0)) := Option.some.inj (hc.symm.trans hg)
  rw [hce] at h1
  refine h.sto ha hi h1 hz oq ?_ (ob_sR (t := t) hx).1 (ob_sR (t := t) hx).2.1 (fun _ => Or.inr ?_) ⟨fun z => absurd z (by omega), fun z => absurd z (by omega)⟩
  · rw [hty.1]
    exact (ob_sR (t := t) hx).2.2
  · have e : (ob_pR D a k x).2.1 a k = x := by simp [ob_pR]
    rw [e, hty.2, hk]
section OB14
variable {l : Launch} {E : ob_E} {K : ob_K} {pc q : Nat} {lo : List (Nat × Value)} {st rest : List Value} {S T S1 S2 S4 : ob_S} {D D1 D2 D3 D4 D5 : ob_D} {Z : ob_Z}
theorem ob_multi {idx i : Nat} {n : Int32} {ty : FieldType} (d : ob_dc K pc (.multianewarray idx 2) 4 q) (L : Cond.classLink K.1 idx ("[" ++ (FieldType.array ty).toString) ∈ ob_g) (hcase : (i = 1 ∧ ty = .byte) ∨ (i = 2 ∧ ty = .boolean)) (hn : ¬ n < 0 ∧ n.toNatClampNeg ≤ 67108864) (hS1 : S1 = ob_new S (24 + i) 2 2) (hD1 : D1 = ob_z D S.2.2.1) (hS2 : S2 = ob_new S1 (20 + i) n.toNatClampNeg n.toNatClampNeg) (hD2 : D2 = ob_z D1 S1.2.2.1) (hD3 : D3 = ob_pR D2 S.2.2.1 0 S1.2.2.1) (hS4 : S4 = ob_new S2 (20 + i) n.toNatClampNeg n.toNatClampNeg) (hD4 : D4 = ob_z D3 S2.2.2.1) (hD5 : D5 = ob_pR D4 S.2.2.1 1 S2.2.2.1) (x : ob_ext S4 T)
    (kk : ob_G l E K q lo (.ref S.2.2.1 :: rest) S4 D5 Z T) : ob_G l E K pc lo (.int n :: .int 2 :: rest) S D Z T := by
  obtain ⟨d1, rfl⟩ := d
  intro p e R s m args below meth cd H locs cells slots s0 ls hx hb hml hr hlk hnm hown hts hC hH hS hl hfr hlo h1 h2 h3 h4
  intro X0 hT X
  have n1 : S1.2.2.1 = S.2.2.1 + 1 := by rw [hS1]; rfl
  have n2 : S2.2.2.1 = S.2.2.1 + 2 := by rw [hS2]; show S1.2.2.1 + 1 = _; omega
  have n4 : S4.2.2.1 = S.2.2.1 + 3 := by rw [hS4]; show S2.2.2.1 + 1 = _; omega
  have l1 : S1.2.2.2 = S.2.2.2 + 2 := by rw [hS1]; rfl
  have l2 : S2.2.2.2 = S.2.2.2 + 2 + n.toNatClampNeg := by rw [hS2]; show S1.2.2.2 + _ = _; omega
  have l4 : S4.2.2.2 = S.2.2.2 + 2 + n.toNatClampNeg + n.toNatClampNeg := by rw [hS4]; show S2.2.2.2 + _ = _; omega
  have x1 := x.1
  have x2 := x.2.1
  have hfacts : s.vm.findClass ("[" ++ (FieldType.array ty).toString) = some (E.2.2.1 (4 + i)) ∧ (∃ kA : Class, s.vm.classes[E.2.2.1 (4 + i)]? = some kA ∧ kA.kind = .array (E.2.2.1 i) (.array ty)) ∧ (∃ (kC : Class) (cc : ClassId), s.vm.classes[E.2.2.1 i]? = some kC ∧ kC.kind = .array cc ty) ∧ n.toNatClampNeg * componentBytes ty ≤ 536870912 ∧ fits ty (defaultValue ty) = true ∧ (defaultValue ty).isDefault = true ∧ defaultValue ty = .int 0 := by
    rcases hcase with ⟨rfl, rfl⟩ | ⟨rfl, rfl⟩
    · obtain ⟨-, kC, hkC, cc, hcc⟩ := (hC.1.2 1 _ rfl).1 0 (fun _ => .null)
      exact ⟨(hC.1.2 5 _ rfl).2, hC.2.2.2.2.2.2.2.1.2.1, ⟨kC, cc, hkC, hcc⟩, by show _ * 1 ≤ _; omega, rfl, rfl, rfl⟩
    · obtain ⟨-, kC, hkC, cc, hcc⟩ := (hC.1.2 2 _ rfl).1 0 (fun _ => .null)
      exact ⟨(hC.1.2 6 _ rfl).2, hC.2.2.2.2.2.2.2.1.2.2, ⟨kC, cc, hkC, hcc⟩, by show _ * 1 ≤ _; omega, rfl, rfl, rfl⟩
  obtain ⟨fA, ⟨kA, fkA, fkindA⟩, ⟨kC, cc, fkC, fkindC⟩, fb, ff, fd, fz⟩ := hfacts
  obtain ⟨vm₁, hW, XF, stp⟩ := ob_multiS X hx hown (hts _ L) fA fkA fkindA fkC fkindC (g := F0 m pc ls (.int n :: .int 2 :: rest)) rfl (by rw [hb]; exact d1) (k := n) (rest := rest) rfl hn.1 fb (by omega) ff fd (by omega) (by omega)
  have hi12 : i = 1 ∨ i = 2 := by rcases hcase with ⟨h, -⟩ | ⟨h, -⟩ <;> omega
  have hsz : H.size = S.2.2.1 := hH.1
  have hbase : E.2.2.2.1 ≤ S.2.2.1 := hH.2.1
  have hb1 := hC.2.1
  -- the heaps, one by one
  generalize hA1 : H.push (ob_oc (E.2.2.1 (4 + i))) = A1
  generalize hA2 : A1.push (ob_ic (E.2.2.1 i) n.toNatClampNeg (defaultValue ty)) = A2
  generalize hA3 : A2.setIfInBounds S.2.2.1 ((ob_oc (E.2.2.1 (4 + i))).setSlot 0 (.ref (S.2.2.1 + 1))) = A3
  generalize hA4 : A3.push (ob_ic (E.2.2.1 i) n.toNatClampNeg (defaultValue ty)) = A4
  generalize hA5 : A4.setIfInBounds S.2.2.1 (((ob_oc (E.2.2.1 (4 + i))).setSlot 0 (.ref (S.2.2.1 + 1))).setSlot 1 (.ref (S.2.2.1 + 2))) = A5
  have s1 : A1.size = S.2.2.1 + 1 := by rw [← hA1, Array.size_push, hsz]
  have s2 : A2.size = S.2.2.1 + 2 := by rw [← hA2, Array.size_push, s1]
  have s3 : A3.size = S.2.2.1 + 2 := by rw [← hA3, Array.size_setIfInBounds, s2]
  have s4 : A4.size = S.2.2.1 + 3 := by rw [← hA4, Array.size_push, s3]
  have s5 : A5.size = S.2.2.1 + 3 := by rw [← hA5, Array.size_setIfInBounds, s4]
  have c1 : A1[S.2.2.1]? = some (ob_oc (E.2.2.1 (4 + i))) := by rw [← hA1, ← hsz, Array.getElem?_push_size]
  have c2 : A2[S.2.2.1]? = some (ob_oc (E.2.2.1 (4 + i))) := by rw [← hA2, Array.getElem?_push, if_neg (by omega)]; exact c1
  have c3 : A3[S.2.2.1]? = some ((ob_oc (E.2.2.1 (4 + i))).setSlot 0 (.ref (S.2.2.1 + 1))) := by rw [← hA3, Array.getElem?_setIfInBounds, if_pos rfl, if_pos (by omega)]
  have c4 : A4[S.2.2.1]? = some ((ob_oc (E.2.2.1 (4 + i))).setSlot 0 (.ref (S.2.2.1 + 1))) := by rw [← hA4, Array.getElem?_push, if_neg (by omega)]; exact c3
  have c5 : A5[S.2.2.1]? = some (((ob_oc (E.2.2.1 (4 + i))).setSlot 0 (.ref (S.2.2.1 + 1))).setSlot 1 (.ref (S.2.2.1 + 2))) := by rw [← hA5, Array.getElem?_setIfInBounds, if_pos rfl, if_pos (by omega)]
  have tyo : ∀ k, ob_ty (24 + i) k = 20 + i + 2 := by rcases hi12 with rfl | rfl <;> exact fun _ => rfl
  have tyi : ∀ k, ob_ty (20 + i) k = 0 := by rcases hi12 with rfl | rfl <;> exact fun _ => rfl
  have q1 : ob_H E S1 D1 A1 := by
    rw [hS1, hD1]
    refine hH.push s1 (fun y hy => by rw [← hA1, Array.getElem?_push, if_neg (by omega)]) (by omega) (fun c' q' hc' hq' => ?_) (fun i' hi' hi7 => ?_)
    · have := (List.getElem?_eq_some_iff.mp hq').1
      have : c' < 13 := this
      omega
    · have : i' = 4 + i := by omega
      subst this
      rw [c1]
      have e0 : (20 : Nat) + (4 + i) = 24 + i := by omega
      rw [e0, tyo]
      have e1 : (fun j => ob_val (ob_z D S.2.2.1) S.2.2.1 j (20 + i + 2)) = fun _ => Value.null := by funext j; exact ob_zval D S.2.2.1 j (20 + i + 2)
      rw [e1, ← arrV_new]
  have q2 : ob_H E S2 D2 A2 := by
    rw [hS2, hD2]
    refine q1.push (by omega) (fun y hy => by rw [← hA2, Array.getElem?_push, if_neg (by omega)]) (by omega) (fun c' q' hc' hq' => ?_) (fun i' hi' hi7 => ?_)
    · have : c' < 13 := (List.getElem?_eq_some_iff.mp hq').1
      omega
    · have : i' = i := by omega
      subst this
      rw [n1, ← s1, ← hA2, Array.getElem?_push_size, tyi]
      have e1 : (fun j => ob_val (ob_z D1 A1.size) A1.size j 0) = fun _ => Value.int 0 := by funext j; exact ob_zval D1 A1.size j 0
      rw [e1, fz, ← arrV_new]
  have k1 : S2.1 S.2.2.1 = 20 + (4 + i) := by
    rw [hS2, hS1]
    simp [ob_new]
    omega
  have k2 : S2.1 S1.2.2.1 = 20 + i := by
    rw [hS2]
    simp [ob_new]
  have e24 : (20 : Nat) + (4 + i) = 24 + i := by omega
  have q3 : ob_H E S2 D3 A3 := by
    rw [hD3]
    refine q2.stoR (t := 20 + i) k1 (by omega) (by omega) c2 (by rw [n1]; exact c3) (by rw [s3, s2]) (fun y hy => by rw [← hA3, Array.getElem?_setIfInBounds, if_neg (Ne.symm hy)]) (by omega) ⟨by rw [e24]; exact tyo _, by rw [e24]; exact tyo _⟩ k2
  have q4 : ob_H E S4 D4 A4 := by
    rw [hS4, hD4]
    refine q3.push (by omega) (fun y hy => by rw [← hA4, Array.getElem?_push, if_neg (by omega)]) (by omega) (fun c' q' hc' hq' => ?_) (fun i' hi' hi7 => ?_)
    · have : c' < 13 := (List.getElem?_eq_some_iff.mp hq').1
      omega
    · have : i' = i := by omega
      subst this
      rw [n2, ← s3, ← hA4, Array.getElem?_push_size, tyi]
      have e1 : (fun j => ob_val (ob_z D3 A3.size) A3.size j 0) = fun _ => Value.int 0 := by funext j; exact ob_zval D3 A3.size j 0
      rw [e1, fz, ← arrV_new]
  have k3 : S4.1 S.2.2.1 = 20 + (4 + i) := by
    rw [hS4]
    have : S.2.2.1 ≠ S2.2.2.1 := by omega
    simp only [ob_new, this, if_false]
    exact k1
  have k4 : S4.1 S2.2.2.1 = 20 + i := by
    rw [hS4]
    simp [ob_new]
  have q5 : ob_H E S4 D5 A5 := by
    rw [hD5]
    refine q4.stoR (t := 20 + i) k3 (by omega) (by omega) c4 (by rw [n2]; exact c5) (by rw [s5, s4]) (fun y hy => by rw [← hA5, Array.getElem?_setIfInBounds, if_neg (Ne.symm hy)]) (by omega) ⟨by rw [e24]; exact tyo _, by rw [e24]; exact tyo _⟩ k4
  have old : ∀ y : Nat, y < S.2.2.1 → A5[y]? = H[y]? := fun y hy => by
    rw [← hA5, Array.getElem?_setIfInBounds, if_neg (by omega), ← hA4, Array.getElem?_push, if_neg (by omega), ← hA3, Array.getElem?_setIfInBounds, if_neg (by omega), ← hA2, Array.getElem?_push, if_neg (by omega), ← hA1, Array.getElem?_push, if_neg (by omega)]
  have hheap : (ob_m2 (X0.setVm vm₁) (E.2.2.1 (4 + i)) (E.2.2.1 i) n.toNatClampNeg (defaultValue ty)).heap = A5 := by
    have hX0 : (X0.setVm vm₁).heap = H := hT
    rw [← hA5, ← hA4, ← hA3, ← hA2, ← hA1, ← hsz, ← hX0]
    rfl
  have hXs : X0.heap.size = S.2.2.1 := by rw [hT, hsz]
  obtain ⟨tf, a1, b1⟩ := kk p e R s m args below meth cd A5 (locs ++ [⟨X0.heap.size, 0⟩] ++ [⟨X0.heap.size, 1⟩]) (cells + 3) (slots + (2 + n.toNatClampNeg + n.toNatClampNeg)) s0 ls hx hb hml hr hlk hnm hown hts hC q5 ⟨by rw [s5]; exact Nat.le_trans hS.1 (by omega), fun y g1 g2 => by rw [old y (by have := hS.1; omega)]; exact hS.2.1 y g1 g2, fun z hz => by
      simp only [List.mem_append, List.mem_singleton] at hz
      rcases hz with (hz | rfl) | rfl
      · exact hS.2.2 z hz
      · show E.2.2.2.1 ≤ X0.heap.size; omega
      · show E.2.2.2.1 ≤ X0.heap.size; omega⟩ hl hfr hlo (by omega) (by omega) h3 h4 _ hheap XF
  refine ⟨tf, stp tf ?_, b1⟩
  rw [hXs]
  exact a1
-- ===== the script =====
theorem ob_ldX {i : Int32} (d : ob_dc K pc .iaload 1 q) (hi : ob_in i E.2.2.2.2.2.2.2.1) (kk : ob_G l E K q lo (.int (E.2.2.2.2.2.2.2.2 i.toNatClampNeg) :: rest) S D Z T) : ob_G l E K pc lo (.int i :: .ref E.2.2.2.2.2.2.1 :: rest) S D Z T := by
  obtain ⟨d1, rfl⟩ := d
  intro p e R s m args below meth cd H locs cells slots s0 ls hx hb hml hr hlk hnm hown hts hC hH hS hl hfr hlo h1 h2 h3 h4
  exact va_ti hx hb hC.2.2.2.2.2.2.2.2.1 hS hi rfl d1 (kk p e R s m args below meth cd H locs cells slots s0 ls hx hb hml hr hlk hnm hown hts hC hH hS hl hfr hlo h1 h2 h3 h4)
theorem ob_lenX (d : ob_dc K pc .arraylength 1 q) (kk : ob_G l E K q lo (.int (Int32.ofNat E.2.2.2.2.2.2.2.1) :: rest) S D Z T) : ob_G l E K pc lo (.ref E.2.2.2.2.2.2.1 :: rest) S D Z T := by
  obtain ⟨d1, rfl⟩ := d
  intro p e R s m args below meth cd H locs cells slots s0 ls hx hb hml hr hlk hnm hown hts hC hH hS hl hfr hlo h1 h2 h3 h4
  exact va_tlen hx hb hC.2.2.2.2.2.2.2.2.1 hS rfl d1 (kk p e R s m args below meth cd H locs cells slots s0 ls hx hb hml hr hlk hnm hown hts hC hH hS hl hfr hlo h1 h2 h3 h4)
-- ===== the law's end =====
def ob_lz (E : ob_E) : ob_Z := fun below args s R t => s.heap.size ≤ E.2.2.2.1 → R = room_1 → args = #[Value.ref E.2.2.2.2.2.2.1] → lw_Z below #[Value.ref E.2.2.2.2.2.2.1] s t
theorem ob_lawret (d : ob_dc K pc .ireturn 1 q) (hc : K.2.2.1 = code) (hr0 : K.2.2.2.2.1 = ret) (x : ob_ext S T) : ob_G l E K pc lo [.int 1] S D (ob_lz E) T := by
  obtain ⟨d1, rfl⟩ := d
  intro p e R s m args below meth cd H locs cells slots s0 ls hx hb hml hr hlk hnm hown hts hC hH hS hl hfr hlo h1 h2 h3 h4
  by_cases hall : s.heap.size ≤ E.2.2.2.1 ∧ R = room_1 ∧ args = #[Value.ref E.2.2.2.2.2.2.1]
  · obtain ⟨g1, rfl, rfl⟩ := hall
    have w : W p l e room_1 s m #[Value.ref E.2.2.2.2.2.2.1] below meth cd H locs cells slots (lw_Z below #[Value.ref E.2.2.2.2.2.2.1] s) (F0 m pc ls [.int 1]) := by
      refine va_forget (fun z hz => Nat.le_trans g1 (hS.2.2 z hz)) ?_
      refine W.widen (k := room_1.cells) (n := room_1.slots) ?_ ?_ (lw_ret hx (hb.trans hc) (hr.trans hr0) hlk (by rw [← hc]; exact d1))
      · have := x.1
        have h3' : s.heap.size + room_1.cells = T.2.2.1 := h3
        omega
      · have := x.2.1
        have h4' : s0 + room_1.slots = T.2.2.2 := h4
        omega
    intro X0 hT X
    obtain ⟨t, a1, b1⟩ := w X0 hT X
    exact ⟨t, a1, fun _ _ _ => b1⟩
  · intro X0 hT X
    exact ⟨_, Steps.refl _, fun z1 z2 z3 => absurd ⟨z1, z2, z3⟩ hall⟩
end OB14
