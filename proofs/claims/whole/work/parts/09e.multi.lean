-- ===== new byte[2][n], new boolean[2][n] =====
theorem ob_pu1 (A : Array Cell) (x y : Cell) : ((A.push x).push y)[A.size]? = some x := by
  rw [Array.getElem?_push, if_neg (by simp), Array.getElem?_push, if_pos rfl]
theorem ob_pu2 (A : Array Cell) (x y z w : Cell) : ((((A.push x).push y).setIfInBounds A.size z).push w)[A.size]? = some z := by
  rw [Array.getElem?_push, if_neg (by simp; omega), Array.getElem?_setIfInBounds, if_pos rfl, if_pos (by simp; omega)]
section OB12
variable {Ec : CtlPost} {e : Env} {d : Bool} {acts : List Action} {s : State}
theorem ob_wpA {c comp : ClassId} {k : Class} {type : FieldType} {len : Nat} {init : Value} (hk : s.vm.classes[c]? = some k) (hkind : k.kind = .array comp type) (hlimit : ¬ len > e.platform.arrayLengthLimit) (hheap : ¬ len * componentBytes type > e.platform.maxHeapBytes) (hfit : fits type init = true) (hdef : init.isDefault = true) {Q : Addr → Pre}
    (h1 : s.heap.size < e.platform.maxCells) (h2 : s.slotsUsed + len ≤ e.platform.maxSlots) (hq : Q s.heap.size d acts (s.pushCell { cls := c, slots := Array.replicate len init, vm := .none })) : wp (Jvm.newArray c len init) Q Ec e d acts s := by
  have f1 : ∀ i v, (Array.replicate len init)[i]? = some v → s.fitsSlot c .none i v = true := by
    intro i v hv
    rw [Array.getElem?_replicate] at hv
    split at hv
    · cases hv
      simp [State.fitsSlot, State.slotType?, hk, hkind, hfit]
    · cases hv
  have f2 : allocActs (Array.replicate len init) s.heap.size acts = acts := by
    have : ((Array.replicate len init).all (·.isDefault)) = true := by
      rw [Array.all_replicate]
      split <;> simp [hdef]
    unfold allocActs
    rw [if_pos this]
  simp only [Jvm.newArray, Jvm.arrayFits, wp_bind', W.ask, W.ite, hlimit, if_false, wp_pure', W.theClass, hk, hkind, hheap, W.alloc, W.stop, Option.some.injEq, exists_eq_left', Array.size_replicate, f2]
  rw [if_neg (by omega)]
  exact ⟨h1, h2, f1, hq⟩
abbrev ob_oc (c : ClassId) : Cell := { cls := c, slots := Array.replicate 2 .null, vm := .none }
abbrev ob_ic (c : ClassId) (n : Nat) (v : Value) : Cell := { cls := c, slots := Array.replicate n v, vm := .none }
/-- the state behind it: the outer array at the old end, the inner ones behind it -/
def ob_m2 (s : State) (c comp : ClassId) (n : Nat) (v : Value) : State :=
  ((((s.pushCell (ob_oc c)).pushCell (ob_ic comp n v)).setCell s.heap.size ((ob_oc c).setSlot 0 (.ref (s.heap.size + 1)))).pushCell (ob_ic comp n v)).setCell s.heap.size (((ob_oc c).setSlot 0 (.ref (s.heap.size + 1))).setSlot 1 (.ref (s.heap.size + 2)))
theorem ob_m2_setTop (s : State) (f : JFrame) (c comp : ClassId) (n : Nat) (v : Value) : ob_m2 (s.setTop f) c comp n v = (ob_m2 s c comp n v).setTop f := by
  simp only [ob_m2, State.heap_setTop, State.pushCell_setTop, State.setCell_setTop]
theorem ob_wpM {c comp cc : ClassId} {k kc : Class} {ty : FieldType} {m : Int32} (hk : s.vm.classes[c]? = some k) (hkind : k.kind = .array comp (.array ty)) (hkc : s.vm.classes[comp]? = some kc) (hkindc : kc.kind = .array cc ty) (hm : ¬ m < 0) (hl1 : ¬ 2 > e.platform.arrayLengthLimit) (hh1 : ¬ 2 * componentBytes (.array ty) > e.platform.maxHeapBytes) (hl2 : ¬ m.toNatClampNeg > e.platform.arrayLengthLimit) (hh2 : ¬ m.toNatClampNeg * componentBytes ty > e.platform.maxHeapBytes)
    (hdf : fits ty (defaultValue ty) = true) (hdd : (defaultValue ty).isDefault = true) (hc : s.heap.size + 3 ≤ e.platform.maxCells) (hs : s.slotsUsed + 2 + m.toNatClampNeg + m.toNatClampNeg ≤ e.platform.maxSlots) {Q : Addr → Pre} (hq : ∀ d' acts', Q s.heap.size d' acts' (ob_m2 s c comp m.toNatClampNeg (defaultValue ty))) : wp (Op.multianewarray.make c [2, m]) Q Ec e d acts s := by
  have h2n : (2 : Int32).toNatClampNeg = 2 := by decide
  have hfind : ([m].find? (· < 0)) = none := by simp [hm]
  have hz : s.heap.size < (s.heap.push (ob_oc c)).size := by simp
  rw [Op.multianewarray.make]
  simp only [wp_bind', W.ite, show ¬ (2 : Int32) < 0 by decide, if_false, wp_pure', W.theClass, hk, hkind, Option.some.injEq, exists_eq_left', h2n]
  refine ob_wpA hk hkind hl1 hh1 rfl rfl (by omega) (by omega) ?_
  simp only [hfind]
  rw [ite_self, wp_bind', Std.Legacy.Range.forIn_eq_forIn_range']
  have hsz : ([:2] : Std.Legacy.Range).size = 2 := by simp [Std.Legacy.Range.size]
  rw [hsz]
  show wp (forIn ([0, 1] : List Nat) PUnit.unit _) _ Ec e d acts _
  have inner : ∀ (u : State) (d' : Bool) (acts' : List Action) (Q' : Addr → Pre), u.vm = s.vm → u.heap.size < e.platform.maxCells → u.slotsUsed + m.toNatClampNeg ≤ e.platform.maxSlots → Q' u.heap.size d' acts' (u.pushCell (ob_ic comp m.toNatClampNeg (defaultValue ty))) → wp (Op.multianewarray.make comp [m]) Q' Ec e d' acts' u := by
    intro u d' acts' Q' e0 g1 g2 g3
    rw [Op.multianewarray.make]
    simp only [wp_bind', W.ite, hm, if_false, wp_pure', W.theClass, e0, hkc, hkindc, Option.some.injEq, exists_eq_left']
    exact ob_wpA (by rw [e0]; exact hkc) hkindc hl2 hh2 hdf hdd g1 g2 g3
  simp only [List.forIn_cons, List.forIn_nil, wp_bind', wp_pure']
  refine inner _ _ _ _ rfl (by simp [State.pushCell]; omega) (by simp [State.pushCell]; omega) ?_
  simp only [wp_bind', W.writeLoc, wp_pure']
  refine ⟨ob_oc c, ob_pu1 _ _ _, by simp, by simp, ?_, ?_⟩
  · simp [State.fitsSlot, State.slotType?, State.pushCell, hk, hkind, fits]
  refine inner _ _ _ _ rfl (by simp [State.pushCell, State.setCell]; omega) (by simp [State.pushCell, State.setCell]; omega) ?_
  simp only [wp_bind', W.writeLoc, wp_pure']
  refine ⟨(ob_oc c).setSlot 0 (.ref (s.pushCell (ob_oc c)).heap.size), ob_pu2 _ _ _ _ _, by simp [Cell.setSlot], by simp [Cell.setSlot], ?_, ?_⟩
  · simp [State.fitsSlot, State.slotType?, State.pushCell, State.setCell, hk, hkind, fits, Cell.setSlot]
  have e1 : (((s.pushCell (ob_oc c)).pushCell (ob_ic comp m.toNatClampNeg (defaultValue ty))).setCell s.heap.size ((ob_oc c).setSlot 0 (.ref (s.heap.size + 1)))).heap.size = s.heap.size + 2 := by simp [State.pushCell, State.setCell]
  have e2 : (s.pushCell (ob_oc c)).heap.size = s.heap.size + 1 := by simp [State.pushCell]
  first
    | (rw [e2, e1]; exact hq _ _)
    | (simp only [e2, e1]; exact hq _ _)
end OB12
section OB13
variable {p : Program} {l : Launch} {e : Env} {R : Room} {s : State} {m : MethodId} {args : Array Value} {below : List Frame} {meth : Method} {c : Code} {T : State} {locs : List Loc} {cells slots : Nat}
theorem ob_m2_stand (X : Stand p l e R s m args below meth c T locs cells slots) (cA comp : ClassId) (n : Nat) (v : Value) : Stand p l e R s m args below meth c (ob_m2 T cA comp n v) (locs ++ [⟨T.heap.size, 0⟩] ++ [⟨T.heap.size, 1⟩]) (cells + 3) (slots + (2 + n + n)) := by
  have X1 := X.pushed (ob_oc cA)
  have X2 := X1.pushed (ob_ic comp n v)
  have X3 := X2.stored (a := T.heap.size) (cell := ob_oc cA) (ob_pu1 _ _ _) 0 (.ref (T.heap.size + 1))
  have X4 := X3.pushed (ob_ic comp n v)
  have X5 := X4.stored (a := T.heap.size) (cell := (ob_oc cA).setSlot 0 (.ref (T.heap.size + 1))) (ob_pu2 _ _ _ _ _) 1 (.ref (T.heap.size + 2))
  have e1 : cells + 1 + 1 + 1 = cells + 3 := by omega
  have e2 : slots + (ob_oc cA).slots.size + (ob_ic comp n v).slots.size + (ob_ic comp n v).slots.size = slots + (2 + n + n) := by simp; omega
  rw [e1, e2] at X5
  exact X5
theorem ob_multiS (X : Stand p l e R s m args below meth c T locs cells slots) (hexec : p.tables.exec = Jvm.exec) {own : String} {index : Nat} {ty : FieldType} {cA comp cc : ClassId} {kA kC : Class}
    (hown : s.vm.findClass own = some m.cls) (hclink : (Cond.classLink own index ("[" ++ (FieldType.array ty).toString)).before args s = true) (hnA : s.vm.findClass ("[" ++ (FieldType.array ty).toString) = some cA) (hkA : s.vm.classes[cA]? = some kA) (hkindA : kA.kind = .array comp (.array ty)) (hkC : s.vm.classes[comp]? = some kC) (hkindC : kC.kind = .array cc ty)
    {g : JFrame} (hg : g.method = m) (hdg : decode c.code g.pc = .ok (.multianewarray index 2, 4)) {k : Int32} {rest : List Value} (hstack : g.stack = .int k :: .int 2 :: rest) (hk : ¬ k < 0) (hb2 : k.toNatClampNeg * componentBytes ty ≤ 536870912) (hb3 : k.toNatClampNeg ≤ 536870912) (hdf : fits ty (defaultValue ty) = true) (hdd : (defaultValue ty).isDefault = true) (hcells : cells + 3 ≤ R.cells) (hslots : slots + (2 + k.toNatClampNeg + k.toNatClampNeg) ≤ R.slots) :
    ∃ vm₁ : Vm, s.WarmedH vm₁ ∧ Stand p l e R s m args below meth c (ob_m2 (T.setVm vm₁) cA comp k.toNatClampNeg (defaultValue ty)) (locs ++ [⟨T.heap.size, 0⟩] ++ [⟨T.heap.size, 1⟩]) (cells + 3) (slots + (2 + k.toNatClampNeg + k.toNatClampNeg)) ∧
      ∀ target, Steps p.tables e below ((ob_m2 (T.setVm vm₁) cA comp k.toNatClampNeg (defaultValue ty)).setTop { g with pc := g.pc + 4, stack := .ref T.heap.size :: rest }) target → Steps p.tables e below (T.setTop g) target := by
  subst hg
  have hpl : e.platform.magicAccessors = ({} : Platform).magicAccessors := by rw [X.admits.platform]
  obtain ⟨c0, hfc0, hcl⟩ := Cond.classLink_spec hown hclink e.platform hpl
  cases hnA.symm.trans hfc0
  obtain ⟨hg₁, hwarm₁, hready₁⟩ := State.classEntry (e := e) X.warmed hcl
  generalize T.vm.noted g.method.cls index (.cls cA) = vm₁ at hg₁ hwarm₁ hready₁
  have hal : s.vm.Alike vm₁ := hwarm₁.alike
  obtain ⟨kA₁, hkA₁, heA⟩ := hal.2.2 _ _ hkA
  obtain ⟨kC₁, hkC₁, heC⟩ := hal.2.2 _ _ hkC
  have X₁ := X.noted hwarm₁
  obtain ⟨hr1, hr2⟩ := X.roomAbove hcells hslots
  have XF := ob_m2_stand X₁ cA comp k.toNatClampNeg (defaultValue ty)
  refine ⟨vm₁, hwarm₁, XF, fun target hrest => ?_⟩
  have hl1 : ¬ 2 > e.platform.arrayLengthLimit := by rw [Launch.admits_arrayLengthLimit X.admits]; omega
  have hh1 : ¬ 2 * componentBytes (.array ty) > e.platform.maxHeapBytes := by rw [Launch.admits_maxHeapBytes X.admits]; show ¬ 2 * 4 > 536870912; omega
  have hl2 : ¬ k.toNatClampNeg > e.platform.arrayLengthLimit := by rw [Launch.admits_arrayLengthLimit X.admits]; omega
  have hh2 : ¬ k.toNatClampNeg * componentBytes ty > e.platform.maxHeapBytes := by rw [Launch.admits_maxHeapBytes X.admits]; omega
  jvm_step X.here [hexec, hdg]
  simp only [Op.multianewarray.sem, wp_bind', W.resolveClassAt_links (State.method?_setTop g X.here.top) hg₁]
  rw [W.popN, if_neg (by decide)]
  refine ⟨g, State.topJava?_setTop' (s := T.setVm vm₁) g X.here.top, [.int 2, .int k], rest, rfl, hstack, ?_⟩
  simp only [List.mapM_cons, List.mapM_nil, wp_bind', wp_pure']
  refine ob_wpM (k := kA₁) (kc := kC₁) (comp := comp) (cc := cc) (ty := ty) hkA₁ (by rw [heA]; exact hkindA) hkC₁ (by rw [heC]; exact hkindC) hk hl1 hh1 hl2 hh2 hdf hdd (by show T.heap.size + 3 ≤ _; omega) (by show T.slotsUsed + 2 + _ + _ ≤ _; omega) (fun d' acts' => ?_)
  have eS : ((T.setTop g).setVm vm₁).setTop { g with stack := rest } = (T.setVm vm₁).setTop { g with stack := rest } := by
    show ((T.setVm vm₁).setTop g).setTop _ = _
    rw [State.setTop_setTop]
  rw [eS, ob_m2_setTop]
  simp only [wp_bind', W.mark, W.pushRef, State.topJava?_setTop' _ XF.here.top, Option.some.injEq, exists_eq_left', State.setTop_setTop, State.heap_setTop]
  intro acts
  simp [jvm, XF.here.top]
  exact hrest
end OB13
