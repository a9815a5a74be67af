-- ===== new byte[2][n], new boolean[2][n] =====
section OB12
variable {Ec : CtlPost} {e : Env} {d : Bool} {acts : List Action} {s : State}
theorem ob_wpA {c comp : ClassId} {k : Class} {type : FieldType} {len : Nat} {init : Value} (hk : s.vm.classes[c]? = some k) (hkind : k.kind = .array comp type) (hlimit : ¬ len > e.platform.arrayLengthLimit) (hheap : ¬ len * componentBytes type > e.platform.maxHeapBytes) (hfit : fits type init = true) (hdef : init.isDefault = true) {Q : Addr → Pre}
    (h1 : s.heap.size < e.platform.maxCells) (h2 : s.slotsUsed + len ≤ e.platform.maxSlots) (hq : Q s.heap.size d acts (s.pushCell { cls := c, slots := Array.replicate len init, vm := .none })) : wp (Jvm.newArray c len init) Q Ec e d acts s := by
  have f1 : ∀ i v, (Array.replicate len init)[i]? = some v → s.fitsSlot c .none i v = true := by
    intro i v hv
    rw [Array.getElem?_replicate] at hv
    split at hv
    · cases hv
      simp [State.fitsSlot, State.slotType?, hk, hkind, hfit]
    · cases hv
  have f2 : allocActs (Array.replicate len init) s.heap.size acts = acts := by
    have : ((Array.replicate len init).all (·.isDefault)) = true := by
      rw [Array.all_replicate]
      split <;> simp [hdef]
    unfold allocActs
    rw [if_pos this]
  simp only [Jvm.newArray, Jvm.arrayFits, wp_bind', W.ask, W.ite, hlimit, if_false, wp_pure', W.theClass, hk, hkind, hheap, W.alloc, W.stop, Option.some.injEq, exists_eq_left', Array.size_replicate, f2]
  rw [if_neg (by omega)]
  exact ⟨h1, h2, f1, hq⟩
abbrev ob_oc (c : ClassId) : Cell := { cls := c, slots := Array.replicate 2 .null, vm := .none }
abbrev ob_ic (c : ClassId) (n : Nat) (v : Value) : Cell := { cls := c, slots := Array.replicate n v, vm := .none }
/-- the state behind it: the outer array at the old end, the inner ones behind it -/
def ob_m2 (s : State) (c comp : ClassId) (n : Nat) (v : Value) : State :=
  ((((s.pushCell (ob_oc c)).pushCell (ob_ic comp n v)).setCell s.heap.size ((ob_oc c).setSlot 0 (.ref (s.heap.size + 1)))).pushCell (ob_ic comp n v)).setCell s.heap.size (((ob_oc c).setSlot 0 (.ref (s.heap.size + 1))).setSlot 1 (.ref (s.heap.size + 2)))
theorem ob_m2_setTop (s : State) (f : JFrame) (c comp : ClassId) (n : Nat) (v : Value) : ob_m2 (s.setTop f) c comp n v = (ob_m2 s c comp n v).setTop f := by
  simp only [ob_m2, State.heap_setTop, State.pushCell_setTop, State.setCell_setTop]
theorem ob_wpM {c comp cc : ClassId} {k kc : Class} {ty : FieldType} {m : Int32} (hk : s.vm.classes[c]? = some k) (hkind : k.kind = .array comp (.array ty)) (hkc : s.vm.classes[comp]? = some kc) (hkindc : kc.kind = .array cc ty) (hm : ¬ m < 0) (hl1 : ¬ 2 > e.platform.arrayLengthLimit) (hh1 : ¬ 2 * componentBytes (.array ty) > e.platform.maxHeapBytes) (hl2 : ¬ m.toNatClampNeg > e.platform.arrayLengthLimit) (hh2 : ¬ m.toNatClampNeg * componentBytes ty > e.platform.maxHeapBytes)
    (hdf : fits ty (defaultValue ty) = true) (hdd : (defaultValue ty).isDefault = true) (hc : s.heap.size + 3 ≤ e.platform.maxCells) (hs : s.slotsUsed + 2 + m.toNatClampNeg + m.toNatClampNeg ≤ e.platform.maxSlots) {Q : Addr → Pre} (hq : ∀ d' acts', Q s.heap.size d' acts' (ob_m2 s c comp m.toNatClampNeg (defaultValue ty))) : wp (Op.multianewarray.make c [2, m]) Q Ec e d acts s := by
  have h2n : (2 : Int32).toNatClampNeg = 2 := by decide
  have hfind : ([m].find? (· < 0)) = none := by simp [hm]
  have hz : s.heap.size < (s.heap.push (ob_oc c)).size := by simp
  rw [Op.multianewarray.make]
  simp only [wp_bind', W.ite, show ¬ (2 : Int32) < 0 by decide, if_false, wp_pure', W.theClass, hk, hkind, Option.some.injEq, exists_eq_left', h2n]
  refine ob_wpA hk hkind hl1 hh1 rfl rfl (by omega) (by omega) ?_
  simp only [hfind]
  rw [ite_self, wp_bind', Std.Legacy.Range.forIn_eq_forIn_range']
  have hsz : ([:2] : Std.Legacy.Range).size = 2 := by simp [Std.Legacy.Range.size]
  rw [hsz]
  show wp (forIn ([0, 1] : List Nat) PUnit.unit _) _ Ec e d acts _
  have inner : ∀ (u : State) (d' : Bool) (acts' : List Action) (Q' : Addr → Pre), u.vm = s.vm → u.heap.size < e.platform.maxCells → u.slotsUsed + m.toNatClampNeg ≤ e.platform.maxSlots → Q' u.heap.size d' acts' (u.pushCell (ob_ic comp m.toNatClampNeg (defaultValue ty))) → wp (Op.multianewarray.make comp [m]) Q' Ec e d' acts' u := by
    intro u d' acts' Q' e0 g1 g2 g3
    rw [Op.multianewarray.make]
    simp only [wp_bind', W.ite, hm, if_false, wp_pure', W.theClass, e0, hkc, hkindc, Option.some.injEq, exists_eq_left']
    exact ob_wpA (by rw [e0]; exact hkc) hkindc hl2 hh2 hdf hdd g1 g2 g3
  simp only [List.forIn_cons, List.forIn_nil, wp_bind', wp_pure']
  refine inner _ _ _ _ rfl (by simp [State.pushCell]; omega) (by simp [State.pushCell]; omega) ?_
  simp only [wp_bind', W.writeLoc, wp_pure']
  refine ⟨ob_oc c, by simp [State.pushCell], by simp, by simp, ?_, ?_⟩
  · simp [State.fitsSlot, State.slotType?, State.pushCell, hk, hkind, fits]
  refine inner _ _ _ _ rfl (by simp [State.pushCell, State.setCell]; omega) (by simp [State.pushCell, State.setCell]; omega) ?_
  simp only [wp_bind', W.writeLoc, wp_pure']
  refine ⟨(ob_oc c).setSlot 0 (.ref (s.heap.size + 1)), by simp [State.pushCell, State.setCell], by simp [Cell.setSlot], by simp [Cell.setSlot], ?_, ?_⟩
  · simp [State.fitsSlot, State.slotType?, State.pushCell, State.setCell, hk, hkind, fits, Cell.setSlot]
  have e1 : (((s.pushCell (ob_oc c)).pushCell (ob_ic comp m.toNatClampNeg (defaultValue ty))).setCell s.heap.size ((ob_oc c).setSlot 0 (.ref (s.heap.size + 1)))).heap.size = s.heap.size + 2 := by simp [State.pushCell, State.setCell]
  have e2 : (s.pushCell (ob_oc c)).heap.size = s.heap.size + 1 := by simp [State.pushCell]
  have := hq true (writeActs ⟨s.heap.size, 1⟩ .plain (.ref (s.heap.size + 2)) (writeActs ⟨s.heap.size, 0⟩ .plain (.ref (s.heap.size + 1)) acts))
  first
    | (rw [e2, e1]; exact hq _ _)
    | (simp only [e2, e1]; exact hq _ _)
    | sorry
end OB12
