-- memory of our own: (ints, references (0: null), longs); shape: (kinds, lengths, next address, slots made)
abbrev ob_D : Type := (Nat → Nat → Int32) × (Nat → Nat → Nat) × (Nat → Nat → Int64)
abbrev ob_S : Type := (Nat → Nat) × (Nat → Nat) × Nat × Nat
-- classes' numbers, fields' slots, array classes, base, the two static arrays' cells, the script's cell, length and ints
abbrev ob_E : Type := (Nat → ClassId) × (Nat → Nat → Nat) × (Nat → ClassId) × Nat × Nat × Nat × Nat × Nat × (Nat → Int32)
-- a method: its class, name, bytes, locals, answer's type, frames and words of locals that it wants
abbrev ob_K : Type := String × MethodName × ByteArray × Nat × Option FieldType × Nat × Nat
def ob_val (D : ob_D) (a k t : Nat) : Value := match t with
  | 0 => .int (D.1 a k)
  | 1 => .long (D.2.2 a k)
  | _ => if D.2.1 a k = 0 then .null else .ref (D.2.1 a k)
def ob_pI (D : ob_D) (a k : Nat) (x : Int32) : ob_D := (fun b j => if b = a ∧ j = k then x else D.1 b j, D.2.1, D.2.2)
def ob_pR (D : ob_D) (a k : Nat) (x : Nat) : ob_D := (D.1, fun b j => if b = a ∧ j = k then x else D.2.1 b j, D.2.2)
def ob_pL (D : ob_D) (a k : Nat) (x : Int64) : ob_D := (D.1, D.2.1, fun b j => if b = a ∧ j = k then x else D.2.2 b j)
def ob_z (D : ob_D) (a : Nat) : ob_D := (fun b j => if b = a then 0 else D.1 b j, fun b j => if b = a then 0 else D.2.1 b j, fun b j => if b = a then 0 else D.2.2 b j)
/-- one more cell: of this kind, this length, so many slots -/
def ob_new (S : ob_S) (ki n sl : Nat) : ob_S := (fun b => if b = S.2.2.1 then ki else S.1 b, fun b => if b = S.2.2.1 then n else S.2.1 b, S.2.2.1 + 1, S.2.2.2 + sl)
/-- a static that is laid, and holds a reference or null -/
def ob_ls (C n d : String) (A : Nat → Prop) (s : State) (H : Heap) : Prop := ∃ (c : ClassId) (k : Class) (i : Nat) (f : Field) (a : Addr) (cell : Cell) (v : Value), s.vm.findClass C = some c ∧ s.fieldFound? C n d = some (c, k, i, f) ∧ f.isStatic = true ∧ k.statics = some a ∧ H[a]? = some cell ∧ cell.vm.isStatics = true ∧ cell.cls = c ∧ f.slot < cell.slots.size ∧ k.staticTypes[f.slot]? = some f.type ∧ cell.slots[f.slot]? = some v ∧ v.isRef = true ∧ ¬ A a
theorem ob_ls.moved {C n d : String} {A : Nat → Prop} {u U : State} {H : Heap} (hvm : u.vm.Alike U.vm) (h : ob_ls C n d A u H) : ob_ls C n d A U H := by
  obtain ⟨c, k, i, f, a, cell, v, h0, h1, h2, h3, h4, h5, h6, h7, h8, h9⟩ := h
  obtain ⟨k', hi', he⟩ := State.fieldFound?_setVm hvm h1
  exact ⟨c, k', i, f, a, cell, v, by rw [hvm.findClass]; exact h0, hi', h2, by rw [he]; exact h3, h4, h5, h6, h7, by rw [he]; exact h8, h9⟩
theorem ob_ls.kept {C n d : String} {A : Nat → Prop} {U : State} {H H1 : Heap} (h : ob_ls C n d A U H) (hq : ∀ a : Nat, a < H.size → ¬ A a → H1[a]? = H[a]?) : ob_ls C n d A U H1 := by
  obtain ⟨c, k, i, f, a, cell, v, h0, h1, h2, h3, h4, h5, h6, h7, h8, h9, h10, h11⟩ := h
  exact ⟨c, k, i, f, a, cell, v, h0, h1, h2, h3, by rw [hq a (Array.getElem?_eq_some_iff.mp h4).1 h11]; exact h4, h5, h6, h7, h8, h9, h10, h11⟩
def ob_nse : String := "java/util/NoSuchElementException"
/-- what a throw needs beside the good words -/
def ob_th (A : Nat → Prop) (s : State) (H : Heap) : Prop := va_Nw (.declares ⟨"java/lang/RuntimeException", "<init>", "()V"⟩) s ∧ va_Nw (.declares ⟨"java/lang/Exception", "<init>", "()V"⟩) s ∧ va_Nw (.declares ⟨"java/lang/Throwable", "<init>", "()V"⟩) s ∧ va_Nw (.castable ob_nse ob_nse) s ∧ ob_ls "java/lang/Throwable" "UNASSIGNED_STACK" "[Ljava/lang/StackTraceElement;" A s H ∧ ob_ls "java/lang/Throwable" "SUPPRESSED_SENTINEL" "Ljava/util/List;" A s H
theorem ob_nwD {x : MethodName} {u U : State} (hvm : u.vm.Alike U.vm) (h : va_Nw (.declares x) u) : va_Nw (.declares x) U := va_tabs rfl (rfl : (u.setVm U.vm).vm = U.vm) (by rw [Cond.declares_setVm hvm]; exact h)
theorem ob_nwC {x y : String} {u U : State} (hvm : u.vm.Alike U.vm) (h : va_Nw (.castable x y) u) : va_Nw (.castable x y) U := va_tabs rfl (rfl : (u.setVm U.vm).vm = U.vm) (by rw [Cond.castable_setVm hvm]; exact h)
theorem ob_th.moved {A : Nat → Prop} {u U : State} {H : Heap} (hvm : u.vm.Alike U.vm) (h : ob_th A u H) : ob_th A U H := ⟨ob_nwD hvm h.1, ob_nwD hvm h.2.1, ob_nwD hvm h.2.2.1, ob_nwC hvm h.2.2.2.1, h.2.2.2.2.1.moved hvm, h.2.2.2.2.2.moved hvm⟩
theorem ob_th.kept {A : Nat → Prop} {U : State} {H H1 : Heap} (h : ob_th A U H) (hq : ∀ a : Nat, a < H.size → ¬ A a → H1[a]? = H[a]?) : ob_th A U H1 := ⟨h.1, h.2.1, h.2.2.1, h.2.2.2.1, h.2.2.2.2.1.kept hq, h.2.2.2.2.2.kept hq⟩
/-- arrays of arrays: their classes' components -/
def ob_mA (aC : Nat → ClassId) (s : State) : Prop := (∃ k : Class, s.vm.classes[aC 5]? = some k ∧ k.kind = .array (aC 1) (.array .byte)) ∧ ∃ k : Class, s.vm.classes[aC 6]? = some k ∧ k.kind = .array (aC 2) (.array .boolean)
theorem ob_mA.moved {aC : Nat → ClassId} {u U : State} (hvm : u.vm.Alike U.vm) (h : ob_mA aC u) : ob_mA aC U := by
  obtain ⟨⟨k, h1, h2⟩, k2, h3, h4⟩ := h
  obtain ⟨k', hk', he⟩ := hvm.2.2 _ _ h1
  obtain ⟨k2', hk2', he2⟩ := hvm.2.2 _ _ h3
  exact ⟨⟨k', hk', by rw [he]; exact h2⟩, k2', hk2', by rw [he2]; exact h4⟩
abbrev ob_A (E : ob_E) : Nat → Prop := fun q => E.2.2.2.1 ≤ q
def ob_C (E : ob_E) (s : State) : Prop := va_K (E.1, E.2.1) ob_cl (ob_tys E.2.2.1) s ∧ 1 ≤ E.2.2.2.1 ∧ (∀ q ∈ ob_nest, va_Nw (.fieldLinkNest q.1 q.2.1 q.2.2.1 q.2.2.2.1 q.2.2.2.2.1 q.2.2.2.2.2) s) ∧
  va_Z "OrbitBox$Handler" "LENGTHS" "[I" (.ref E.2.2.2.2.1) (ob_A E) s s.heap ∧ va_T .int E.2.2.2.2.1 64 (fun j => .int (ob_LEN j)) (ob_A E) s s.heap ∧
  va_Z "OrbitBox$Craft" "SAFE_ACTUATORS" "[I" (.ref E.2.2.2.2.2.1) (ob_A E) s s.heap ∧ va_T .int E.2.2.2.2.2.1 8 (fun j => .int (ob_SAF j)) (ob_A E) s s.heap ∧ (va_AO "OrbitBox$Row" s ∧ ob_mA E.2.2.1 s) ∧
  va_T .int E.2.2.2.2.2.2.1 E.2.2.2.2.2.2.2.1 (fun j => .int (E.2.2.2.2.2.2.2.2 j)) (ob_A E) s s.heap ∧ ob_th (ob_A E) s s.heap
def ob_H (E : ob_E) (S : ob_S) (D : ob_D) (H : Heap) : Prop :=
  H.size = S.2.2.1 ∧ E.2.2.2.1 ≤ S.2.2.1 ∧ (∀ a, S.2.2.1 ≤ a → S.1 a = 0) ∧ (∀ a, S.1 a ≠ 0 → E.2.2.2.1 ≤ a) ∧
  (∀ a k, S.1 a ≠ 0 → 2 < ob_ty (S.1 a) k → D.2.1 a k = 0 ∨ S.1 (D.2.1 a k) + 2 = ob_ty (S.1 a) k) ∧
  (∀ a c q, S.1 a = c + 1 → ob_cl[c]? = some q → t_OB a (E.1 c) q.2.2 (E.2.1 c) H (fun k => ob_val D a k (ob_ty (c + 1) k))) ∧
  (∀ a i, S.1 a = 20 + i → i < 7 → H[a]? = some (arrV (E.2.2.1 i) (S.2.1 a) (fun j => ob_val D a j (ob_ty (20 + i) 0)))) ∧
  (∀ a j, (S.1 a = 21 → fits .byte (.int (D.1 a j)) = true) ∧ (S.1 a = 22 → fits .boolean (.int (D.1 a j)) = true))
def ob_P (E : ob_E) (av : List Value) (S : ob_S) (D : ob_D) : Array Value → State → Prop := fun a U => a = av.toArray ∧ ob_C E U ∧ ob_H E S D U.heap
def ob_Q (E : ob_E) (r : Option Value) (S : ob_S) (D : ob_D) : Array Value → State → Outcome → State → Prop := fun _ st o t => o = .returned r ∧ ob_H E S D t.heap ∧ va_F (ob_A E) st t
def ob_ws (K : ob_K) : List Cond := Cond.code K.2.1 K.2.2.1 K.2.2.2.1 K.2.2.2.2.1 :: ob_g
def ob_rm (K : ob_K) (S T : ob_S) : Room := { frames := K.2.2.2.2.2.1, cells := T.2.2.1 - S.2.2.1, slots := T.2.2.2 - S.2.2.2, locals := K.2.2.2.2.2.2 }
/-- a method's contract: from this memory it returns r, with that memory -/
def ob_M (l : Launch) (E : ob_E) (K : ob_K) (av : List Value) (S : ob_S) (D : ob_D) (r : Option Value) (T : ob_S) (D' : ob_D) : Prop :=
  Met l K.2.1 (ob_ws K) (ob_rm K S T) (ob_P E av S D) (ob_Q E r T D') (T.2.2.1 - S.2.2.1) (T.2.2.2 - S.2.2.2) (ob_A E)
/-- an end: what the state must be, given the stack below, the arguments, the state at the method's entry and the room -/
abbrev ob_Z : Type := List Frame → Array Value → State → Room → State → Prop
def ob_mq (E : ob_E) (r : Option Value) (T : ob_S) (D' : ob_D) : ob_Z := fun below args s R => MQ below (ob_Q E r T D') args s R.cells R.slots (ob_A E)
/-- the method K stands at pc with these locals and stack in this memory: it comes to the end Z, with room up to T -/
def ob_G (l : Launch) (E : ob_E) (K : ob_K) (pc : Nat) (lo : List (Nat × Value)) (st : List Value) (S : ob_S) (D : ob_D) (Z : ob_Z) (T : ob_S) : Prop :=
  ∀ (p : Program) (e : Env) (R : Room) (s : State) (m : MethodId) (args : Array Value) (below : List Frame) (meth : Method) (c : Code) (H : Heap) (locs : List Loc) (cells slots s0 : Nat) (ls : Array Slot),
    p.tables.exec = Jvm.exec → c.code = K.2.2.1 → c.maxLocals = K.2.2.2.1 → meth.sig.returnType = K.2.2.2.2.1 → meth.locks = false → (meth.name = K.2.1.name ∧ s.methodNamed? K.2.1 = some m) → s.vm.findClass K.1 = some m.cls → (∀ w ∈ ob_g, w.before args s = true) →
    ob_C E s → ob_H E S D H → va_S (ob_A E) s.heap H locs → lv_has ls K.2.2.2.1 lo → K.2.2.2.2.2.1 ≤ R.frames → K.2.2.2.2.2.2 ≤ R.locals → s.heap.size + cells = S.2.2.1 → s0 + slots = S.2.2.2 → s.heap.size + R.cells = T.2.2.1 → s0 + R.slots = T.2.2.2 →
    W p l e R s m args below meth c H locs cells slots (Z below args s R) (F0 m pc ls st)
/-- .. it returns r, with that memory -/
abbrev ob_V (l : Launch) (E : ob_E) (K : ob_K) (pc : Nat) (lo : List (Nat × Value)) (st : List Value) (S : ob_S) (D : ob_D) (r : Option Value) (T : ob_S) (D' : ob_D) : Prop := ob_G l E K pc lo st S D (ob_mq E r T D') T
-- ===== the context moves on =====
theorem ob_C.next {E : ob_E} {s U : State} {locs : List Loc} (h : ob_C E s) (hW : s.WarmedH U.vm) (hS : va_S (ob_A E) s.heap U.heap locs) : ob_C E U := by
  obtain ⟨h1, h2, h3, h4, h5, h6, h7, h8, h9, h10⟩ := h
  exact ⟨h1.moved hW.alike, h2, fun q hq => (h3 q hq).warmF hW, (h4.moved hW.alike).kept hS.2.1, (h5.moved hW.alike).kept hS.2.1, (h6.moved hW.alike).kept hS.2.1, (h7.moved hW.alike).kept hS.2.1, ⟨h8.1.moved hW.alike, h8.2.moved hW.alike⟩, (h9.moved hW.alike).kept hS.2.1, (h10.moved hW.alike).kept hS.2.1⟩
theorem ob_P.blind {E : ob_E} {av : List Value} {S : ob_S} {D : ob_D} : FrameBlind (ob_P E av S D) := by
  intro a U g mk h
  obtain ⟨h0, ⟨h1, h2, h3, h4, h5, h6, h7, h8, h10, h11⟩, h9⟩ := h
  have hr : U.vm.Alike (U.calling g mk a).vm := Vm.Alike.refl U.vm
  exact ⟨h0, ⟨h1.moved hr, h2, fun q hq => (h3 q hq).same rfl rfl, h4.moved hr, h5.moved hr, h6.moved hr, h7.moved hr, ⟨h8.1.moved hr, h8.2.moved hr⟩, h10.moved hr, h11.moved hr⟩, h9⟩
theorem ob_ofV {l : Launch} {E : ob_E} {K : ob_K} {av : List Value} {lo : List (Nat × Value)} {S : ob_S} {D : ob_D} {r : Option Value} {T : ob_S} {D' : ob_D} (hp : plainName K.2.1.cls = true) (hcl : K.2.1.cls = K.1) (hn : (lg_sl av).length ≤ K.2.2.2.1) (hlo : lv_args 0 av = lo) (h1 : S.2.2.1 ≤ T.2.2.1) (h2 : S.2.2.2 ≤ T.2.2.2) (v : ob_V l E K 0 lo [] S D r T D') : ob_M l E K av S D r T D' := by
  refine Met.ofW (cc := K.2.2.1) (maxL := K.2.2.2.1) (ret := K.2.2.2.2.1) hp rfl ?_
  intro p e s m args below meth c s₁ B hml hv
  obtain ⟨rfl, hC, hH⟩ := hv
  have hts := atoms_spec (ws := ob_ws K) B.pre
  have hl := lv_entry av hn
  rw [hlo] at hl
  rw [lg_entry_eq]
  have hfc : s.vm.findClass K.1 = some m.cls := by rw [← hcl]; exact findClass_of_methodNamed B.named
  have hh : s.heap.size = S.2.2.1 := hH.1
  exact v p e (ob_rm K S T) s m av.toArray below meth c s.heap [] 0 0 S.2.2.2 _ B.exec B.bytes hml B.returns B.notSynchronized ⟨(name_of_methodNamed B.named B.method).1, B.named⟩ hfc (fun w hw => hts w (List.mem_cons_of_mem _ hw)) hC hH va_S.rf hl (Nat.le_refl _) (Nat.le_refl _) (by rw [hh]; rfl) rfl (by rw [hh]; show S.2.2.1 + (T.2.2.1 - S.2.2.1) = T.2.2.1; omega) (by show S.2.2.2 + (T.2.2.2 - S.2.2.2) = T.2.2.2; omega)
-- ===== reading and writing the memory =====
theorem ob_val_pI {D : ob_D} {a k : Nat} {x : Int32} {b j t : Nat} (h : ¬ (b = a ∧ j = k) ∨ t ≠ 0) : ob_val (ob_pI D a k x) b j t = ob_val D b j t := by
  unfold ob_val ob_pI
  split
  · rename_i h0
    rcases h with h | h
    · simp [h]
    · exact absurd rfl h
  · rfl
  · rfl
theorem ob_val_pL {D : ob_D} {a k : Nat} {x : Int64} {b j t : Nat} (h : ¬ (b = a ∧ j = k) ∨ t ≠ 1) : ob_val (ob_pL D a k x) b j t = ob_val D b j t := by
  unfold ob_val ob_pL
  split
  · rfl
  · rcases h with h | h
    · simp [h]
    · exact absurd rfl h
  · rfl
theorem ob_val_pR {D : ob_D} {a k : Nat} {x : Nat} {b j t : Nat} (h : ¬ (b = a ∧ j = k) ∨ t < 2) : ob_val (ob_pR D a k x) b j t = ob_val D b j t := by
  match t, h with
  | 0, _ => rfl
  | 1, _ => rfl
  | t + 2, h =>
    rcases h with h | h
    · simp [ob_val, ob_pR, h]
    · exact absurd h (by omega)
theorem ob_val_z {D : ob_D} {a b j t : Nat} (h : b ≠ a) : ob_val (ob_z D a) b j t = ob_val D b j t := by
  unfold ob_val ob_z
  split <;> simp [h]
/-- a field of an object is written -/
theorem ob_H.put {E : ob_E} {S : ob_S} {D D2 : ob_D} {H H1 : Heap} {a c k : Nat} {q : vw_C} {cell : Cell} {v : Value} (h : ob_H E S D H) (ha : S.1 a = c + 1) (hc : ob_cl[c]? = some q) (hk : k < q.2.2) (hap : ∀ x y, x < q.2.2 → y < q.2.2 → x ≠ y → (E.2.1 c) x ≠ (E.2.1 c) y)
    (h0 : H[a]? = some cell) (h1 : H1[a]? = some (cell.setSlot (E.2.1 c k) v)) (hz : H1.size = H.size) (oq : ∀ x : Nat, x ≠ a → H1[x]? = H[x]?) (hv : ob_val D2 a k (ob_ty (c + 1) k) = v) (hs : ∀ b j : Nat, ¬ (b = a ∧ j = k) → ∀ t, ob_val D2 b j t = ob_val D b j t)
    (hr : ∀ b j : Nat, ¬ (b = a ∧ j = k) → D2.2.1 b j = D.2.1 b j) (hn : 2 < ob_ty (c + 1) k → D2.2.1 a k = 0 ∨ S.1 (D2.2.1 a k) + 2 = ob_ty (c + 1) k) : ob_H E S D2 H1 := by
  obtain ⟨g1, g2, g3, g4, g5, g6, g7, g8⟩ := h
  refine ⟨hz.trans g1, g2, g3, g4, fun b j hb hj => ?_, fun b c' q' hb hq' => ?_, fun b i hb hi => ?_, fun b j => ?_⟩
  · by_cases hbj : b = a ∧ j = k
    · obtain ⟨rfl, rfl⟩ := hbj
      rw [ha] at hj ⊢
      exact hn hj
    · rw [hr b j hbj]
      exact g5 b j hb hj
  · by_cases hba : b = a
    · subst hba
      have hcc : c' = c := by omega
      subst hcc
      have hqq : q' = q := Option.some.inj (hq'.symm.trans hc)
      subst hqq
      obtain ⟨cell', f1, f2, f3, f4⟩ := g6 b c' q' ha hc
      have e0 : cell' = cell := Option.some.inj (f1.symm.trans h0)
      subst e0
      refine t_OB.to (V := updV (fun j => ob_val D b j (ob_ty (c' + 1) j)) k v) ⟨_, h1, f2, f3, t_set f4 hap hk v⟩ (fun j _ => ?_)
      unfold updV
      by_cases hj : j = k
      · subst hj
        simp [hv]
      · simp only [hj, if_false]
        exact (hs b j (fun z => hj z.2) _).symm
    · refine ((g6 b c' q' hb hq').kept (oq b hba)).to (fun j _ => ?_)
      exact (hs b j (fun z => hba z.1) _).symm
  · have hba : b ≠ a := fun z => by
      subst z
      have hl : c < 13 := (List.getElem?_eq_some_iff.mp hc).1
      omega
    rw [oq b hba, g7 b i hb hi]
    congr 2
    funext j
    exact (hs b j (fun z => hba z.1) _).symm
  · have hl : c < 13 := (List.getElem?_eq_some_iff.mp hc).1
    refine ⟨fun hb => ?_, fun hb => ?_⟩
    · have e : D2.1 b j = D.1 b j := Value.int.inj (hs b j (fun z => by have := z.1; subst this; omega) 0)
      rw [e]; exact (g8 b j).1 hb
    · have e : D2.1 b j = D.1 b j := Value.int.inj (hs b j (fun z => by have := z.1; subst this; omega) 0)
      rw [e]; exact (g8 b j).2 hb
/-- an element of an array is written -/
theorem ob_H.sto {E : ob_E} {S : ob_S} {D D2 : ob_D} {H H1 : Heap} {a i k : Nat} {v : Value} (h : ob_H E S D H) (ha : S.1 a = 20 + i) (hi : i < 7)
    (h1 : H1[a]? = some ((arrV (E.2.2.1 i) (S.2.1 a) (fun j => ob_val D a j (ob_ty (20 + i) 0))).setSlot k v)) (hz : H1.size = H.size) (oq : ∀ x : Nat, x ≠ a → H1[x]? = H[x]?) (hv : ob_val D2 a k (ob_ty (20 + i) 0) = v) (hs : ∀ b j : Nat, ¬ (b = a ∧ j = k) → ∀ t, ob_val D2 b j t = ob_val D b j t)
    (hr : ∀ b j : Nat, ¬ (b = a ∧ j = k) → D2.2.1 b j = D.2.1 b j) (hn : 2 < ob_ty (20 + i) k → D2.2.1 a k = 0 ∨ S.1 (D2.2.1 a k) + 2 = ob_ty (20 + i) k) (hf : (i = 1 → fits .byte (.int (D2.1 a k)) = true) ∧ (i = 2 → fits .boolean (.int (D2.1 a k)) = true)) : ob_H E S D2 H1 := by
  obtain ⟨g1, g2, g3, g4, g5, g6, g7, g8⟩ := h
  refine ⟨hz.trans g1, g2, g3, g4, fun b j hb hj => ?_, fun b c' q' hb hq' => ?_, fun b i' hb hi' => ?_, fun b j => ?_⟩
  · by_cases hbj : b = a ∧ j = k
    · obtain ⟨rfl, rfl⟩ := hbj
      rw [ha] at hj ⊢
      exact hn hj
    · rw [hr b j hbj]
      exact g5 b j hb hj
  · have hba : b ≠ a := fun z => by
      subst z
      have hl : c' < 13 := (List.getElem?_eq_some_iff.mp hq').1
      omega
    refine ((g6 b c' q' hb hq').kept (oq b hba)).to (fun j _ => ?_)
    exact (hs b j (fun z => hba z.1) _).symm
  · by_cases hba : b = a
    · subst hba
      have hii : i' = i := by omega
      subst hii
      rw [h1, arrV_store]
      congr 2
      funext j
      unfold updV
      by_cases hj : j = k
      · subst hj
        simp [hv]
      · simp only [hj, if_false]
        exact (hs b j (fun z => hj z.2) _).symm
    · rw [oq b hba, g7 b i' hb hi']
      congr 2
      funext j
      exact (hs b j (fun z => hba z.1) _).symm
  · by_cases hbj : b = a ∧ j = k
    · obtain ⟨rfl, rfl⟩ := hbj
      exact ⟨fun hb => hf.1 (by omega), fun hb => hf.2 (by omega)⟩
    · have e : D2.1 b j = D.1 b j := Value.int.inj (hs b j hbj 0)
      rw [e]; exact g8 b j
/-- a cell is made -/
theorem ob_H.push {E : ob_E} {S : ob_S} {D : ob_D} {H H1 : Heap} {ki n sl : Nat} (h : ob_H E S D H) (hz : H1.size = S.2.2.1 + 1) (oq : ∀ x : Nat, x < S.2.2.1 → H1[x]? = H[x]?) (hki : ki ≠ 0)
    (ho : ∀ c q, ki = c + 1 → ob_cl[c]? = some q → t_OB S.2.2.1 (E.1 c) q.2.2 (E.2.1 c) H1 (fun k => ob_val (ob_z D S.2.2.1) S.2.2.1 k (ob_ty (c + 1) k))) (hA : ∀ i, ki = 20 + i → i < 7 → H1[S.2.2.1]? = some (arrV (E.2.2.1 i) n (fun j => ob_val (ob_z D S.2.2.1) S.2.2.1 j (ob_ty (20 + i) 0)))) : ob_H E (ob_new S ki n sl) (ob_z D S.2.2.1) H1 := by
  obtain ⟨g1, g2, g3, g4, g5, g6, g7, g8⟩ := h
  have lt : ∀ b : Nat, b ≠ S.2.2.1 → (ob_new S ki n sl).1 b = S.1 b := fun b hb => by simp [ob_new, hb]
  have eq : (ob_new S ki n sl).1 S.2.2.1 = ki := by simp [ob_new]
  have ol : ∀ b : Nat, S.1 b ≠ 0 → b < S.2.2.1 := fun b hb => Nat.not_le.mp fun z => hb (g3 b z)
  refine ⟨hz, by show E.2.2.2.1 ≤ S.2.2.1 + 1; omega, fun b hb => ?_, fun b hb => ?_, fun b k hb hk => ?_, fun b c q hb hq => ?_, fun b i hb hi => ?_, fun b j => ?_⟩
  · have hb' : S.2.2.1 + 1 ≤ b := hb
    rw [lt b (by omega)]
    exact g3 b (by omega)
  · by_cases hbn : b = S.2.2.1
    · subst hbn; exact g2
    · rw [lt b hbn] at hb
      exact g4 b hb
  · by_cases hbn : b = S.2.2.1
    · left; simp [ob_z, hbn]
    · rw [lt b hbn] at hb hk ⊢
      have e1 : (ob_z D S.2.2.1).2.1 b k = D.2.1 b k := by simp [ob_z, hbn]
      rw [e1]
      rcases g5 b k hb hk with h | h
      · exact Or.inl h
      · refine Or.inr ?_
        have hne : S.1 (D.2.1 b k) ≠ 0 := by omega
        rw [lt _ (fun z => by have := ol _ hne; omega)]
        exact h
  · by_cases hbn : b = S.2.2.1
    · subst hbn
      rw [eq] at hb
      exact ho c q hb hq
    · rw [lt b hbn] at hb
      refine ((g6 b c q hb hq).kept (oq b (ol b (by omega)))).to (fun j _ => ?_)
      exact (ob_val_z hbn).symm
  · by_cases hbn : b = S.2.2.1
    · subst hbn
      rw [eq] at hb
      have := hA i hb hi
      rw [this]
      simp [ob_new]
    · rw [lt b hbn] at hb
      rw [oq b (ol b (by omega)), g7 b i hb hi]
      have e2 : (ob_new S ki n sl).2.1 b = S.2.1 b := by simp [ob_new, hbn]
      rw [e2]
      congr 2
      funext j
      exact (ob_val_z hbn).symm
  · by_cases hbn : b = S.2.2.1
    · have e : (ob_z D S.2.2.1).1 b j = 0 := by simp [ob_z, hbn]
      rw [e]
      exact ⟨fun _ => by decide, fun _ => by decide⟩
    · have e : (ob_z D S.2.2.1).1 b j = D.1 b j := by simp [ob_z, hbn]
      rw [e, lt b hbn]
      exact g8 b j
