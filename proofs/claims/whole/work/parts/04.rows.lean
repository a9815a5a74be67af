-- ===== rows of our own judgement: an instruction each =====
def ob_get : List (Nat × Value) → Nat → Option Value
  | [], _ => none
  | (j, v) :: l, i => bif Nat.beq j i then some v else ob_get l i
theorem ob_get_mem : ∀ {l : List (Nat × Value)} {i : Nat} {v : Value}, ob_get l i = some v → (i, v) ∈ l
  | [], i, v, h => by cases h
  | (j, w) :: l, i, v, h => by
    unfold ob_get at h
    cases hj : Nat.beq j i with
    | true =>
      rw [hj] at h
      simp only [cond_true] at h
      cases h
      have := Nat.eq_of_beq_eq_true hj
      subst this
      exact List.mem_cons_self
    | false =>
      rw [hj] at h
      simp only [cond_false] at h
      exact List.mem_cons_of_mem _ (ob_get_mem h)
def ob_ins (i : Nat) (v : Value) : List (Nat × Value) → List (Nat × Value)
  | [] => [(i, v)]
  | (j, w) :: l => bif Nat.blt i j then (i, v) :: (j, w) :: l else (j, w) :: ob_ins i v l
theorem ob_ins_mem {i : Nat} {v : Value} : ∀ {l : List (Nat × Value)} {q : Nat × Value}, q ∈ ob_ins i v l → q ∈ (i, v) :: l
  | [], q, h => h
  | (j, w) :: l, q, h => by
    unfold ob_ins at h
    cases hj : Nat.blt i j with
    | true => rw [hj] at h; exact h
    | false =>
      rw [hj] at h
      simp only [cond_false] at h
      rcases List.mem_cons.mp h with h | h
      · exact List.mem_cons_of_mem _ (List.mem_cons.mpr (Or.inl h))
      · rcases List.mem_cons.mp (ob_ins_mem h) with h | h
        · exact List.mem_cons.mpr (Or.inl h)
        · exact List.mem_cons_of_mem _ (List.mem_cons_of_mem _ h)
abbrev ob_f1 (i : Nat) (l : List (Nat × Value)) : List (Nat × Value) := l.filter (fun q => !(q.1 == i) && !(q.1 + 1 == i && q.2.category == 2))
abbrev ob_f2 (i : Nat) (l : List (Nat × Value)) : List (Nat × Value) := l.filter (fun q => !(q.1 == i) && (!(q.1 == i + 1) && !(q.1 + 1 == i && q.2.category == 2)))
theorem ob_has_ins {ls : Array Slot} {n i : Nat} {v : Value} {l l2 : List (Nat × Value)} (h : lv_has ls n ((i, v) :: l)) (he : ob_ins i v l = l2) : lv_has ls n l2 := ⟨h.1, h.2.1, fun q hq => h.2.2 q (ob_ins_mem (he ▸ hq))⟩
-- decode rows: what stands at pc, and where the next one is
def ob_dc (K : ob_K) (pc : Nat) (i : Instr) (n q : Nat) : Prop := decode K.2.2.1 pc = .ok (i, n) ∧ pc + n = q
def ob_db (K : ob_K) (pc : Nat) (i : Instr) (off : Int) (q t : Nat) : Prop := decode K.2.2.1 pc = .ok (i, 3) ∧ pc + 3 = q ∧ (pc : Int) + off = (t : Int)
def ob_kc : Instr → Nat → Int32 → Prop
  | .iconst i, 1, v => Int32.ofInt i = v
  | .bipush i, 2, v => (Int8.ofInt i).toInt32 = v
  | .sipush i, 3, v => (Int16.ofInt i).toInt32 = v
  | _, _, _ => False
def ob_dk (K : ob_K) (pc q : Nat) (v : Int32) (i : Instr) (n : Nat) : Prop := decode K.2.2.1 pc = .ok (i, n) ∧ pc + n = q ∧ ob_kc i n v
def ob_lc : Instr → Nat → Nat → Prop
  | .iload_n k, 1, i => (k : Nat) = i
  | .iload k, 2, i => k = i
  | _, _, _ => False
def ob_ac : Instr → Nat → Nat → Prop
  | .aload_n k, 1, i => (k : Nat) = i
  | .aload k, 2, i => k = i
  | _, _, _ => False
def ob_jc : Instr → Nat → Nat → Prop
  | .lload_n k, 1, i => (k : Nat) = i
  | .lload k, 2, i => k = i
  | _, _, _ => False
def ob_sc (N : Nat) : Instr → Nat → Nat → Prop
  | .istore_n k, 1, i => (k : Nat) = i ∧ i < N
  | .istore k, 2, i => k = i ∧ i < N
  | _, _, _ => False
def ob_bc (N : Nat) : Instr → Nat → Nat → Prop
  | .astore_n k, 1, i => (k : Nat) = i ∧ i < N
  | .astore k, 2, i => k = i ∧ i < N
  | _, _, _ => False
def ob_uc (N : Nat) : Instr → Nat → Nat → Prop
  | .lstore_n k, 1, i => (k : Nat) = i ∧ i + 1 < N
  | .lstore k, 2, i => k = i ∧ i + 1 < N
  | _, _, _ => False
def ob_dv (c : Instr → Nat → Nat → Prop) (K : ob_K) (pc q i : Nat) (ins : Instr) (n : Nat) : Prop := decode K.2.2.1 pc = .ok (ins, n) ∧ pc + n = q ∧ c ins n i
section OB
variable {l : Launch} {E : ob_E} {K : ob_K} {pc q : Nat} {lo lo2 : List (Nat × Value)} {st st2 rest : List Value} {S T : ob_S} {D : ob_D} {Z : ob_Z}
theorem ob_step (h : ∀ {p : Program} {e : Env} {R : Room} {s : State} {m : MethodId} {args : Array Value} {below : List Frame} {meth : Method} {c : Code} {H : Heap} {locs : List Loc} {cells slots : Nat} {Q : State → Prop} {ls : Array Slot}, p.tables.exec = Jvm.exec → c.code = K.2.2.1 → W p l e R s m args below meth c H locs cells slots Q (F0 m q ls st2) → W p l e R s m args below meth c H locs cells slots Q (F0 m pc ls st))
    (k : ob_G l E K q lo st2 S D Z T) : ob_G l E K pc lo st S D Z T :=
  fun p e R s m args below meth c H locs cells slots s0 ls hx hb hml hr hlk hnm hown hts hC hH hS hl hfr hlo h1 h2 h3 h4 => h hx hb (k p e R s m args below meth c H locs cells slots s0 ls hx hb hml hr hlk hnm hown hts hC hH hS hl hfr hlo h1 h2 h3 h4)
/-- fewer locals -/
theorem ob_sub (ks : List Nat) (h : lv_pick lo ks = lo2) (k : ob_G l E K pc lo2 st S D Z T) : ob_G l E K pc lo st S D Z T :=
  fun p e R s m args below meth c H locs cells slots s0 ls hx hb hml hr hlk hnm hown hts hC hH hS hl hfr hlo h1 h2 h3 h4 => k p e R s m args below meth c H locs cells slots s0 ls hx hb hml hr hlk hnm hown hts hC hH hS (lv_sub hl ks h) hfr hlo h1 h2 h3 h4
theorem ob_push {v : Int32} {i : Instr} {n : Nat} (d : ob_dk K pc q v i n) (k : ob_G l E K q lo (.int v :: rest) S D Z T) : ob_G l E K pc lo rest S D Z T := by
  obtain ⟨d1, rfl, d3⟩ := d
  unfold ob_kc at d3
  split at d3
  · exact ob_step (fun hx hb k => lv_iconst hx hb d1 d3 k) k
  · exact ob_step (fun hx hb k => lv_bipush hx hb d1 d3 k) k
  · exact ob_step (fun hx hb k => lv_sipush hx hb d1 d3 k) k
  · exact d3.elim
theorem ob_lconst {v : Int64} {n : Fin 2} (d : ob_dc K pc (.lconst n) 1 q) (hv : Int64.ofNat (n : Nat) = v) (k : ob_G l E K q lo (.long v :: rest) S D Z T) : ob_G l E K pc lo rest S D Z T := by
  obtain ⟨d1, rfl⟩ := d
  exact ob_step (fun hx hb k => lv_lconst hx hb d1 hv k) k
theorem ob_stepL (h : ∀ {p : Program} {e : Env} {R : Room} {s : State} {m : MethodId} {args : Array Value} {below : List Frame} {meth : Method} {c : Code} {H : Heap} {locs : List Loc} {cells slots : Nat} {Q : State → Prop} {ls : Array Slot}, p.tables.exec = Jvm.exec → c.code = K.2.2.1 → lv_has ls K.2.2.2.1 lo → (∀ ls' : Array Slot, lv_has ls' K.2.2.2.1 lo2 → W p l e R s m args below meth c H locs cells slots Q (F0 m q ls' st2)) → W p l e R s m args below meth c H locs cells slots Q (F0 m pc ls st))
    (k : ob_G l E K q lo2 st2 S D Z T) : ob_G l E K pc lo st S D Z T :=
  fun p e R s m args below meth c H locs cells slots s0 ls hx hb hml hr hlk hnm hown hts hC hH hS hl hfr hlo h1 h2 h3 h4 => h hx hb hl (fun ls' hl' => k p e R s m args below meth c H locs cells slots s0 ls' hx hb hml hr hlk hnm hown hts hC hH hS hl' hfr hlo h1 h2 h3 h4)
theorem ob_iload {i n : Nat} {x : Int32} {ins : Instr} (d : ob_dv ob_lc K pc q i ins n) (hg : ob_get lo i = some (.int x)) (k : ob_G l E K q lo (.int x :: rest) S D Z T) : ob_G l E K pc lo rest S D Z T := by
  obtain ⟨d1, rfl, d3⟩ := d
  unfold ob_lc at d3
  split at d3
  · exact ob_stepL (fun hx hb hl k => lv_iload_n hx hb d1 d3 (hl.2.2 _ (ob_get_mem hg)) (k _ hl)) k
  · subst d3
    exact ob_stepL (fun hx hb hl k => lv_iload hx hb d1 (hl.2.2 _ (ob_get_mem hg)) (k _ hl)) k
  · exact d3.elim
theorem ob_aload {i n : Nat} {x : Nat} {ins : Instr} (d : ob_dv ob_ac K pc q i ins n) (hg : ob_get lo i = some (.ref x)) (k : ob_G l E K q lo (.ref x :: rest) S D Z T) : ob_G l E K pc lo rest S D Z T := by
  obtain ⟨d1, rfl, d3⟩ := d
  unfold ob_ac at d3
  split at d3
  · exact ob_stepL (fun hx hb hl k => lv_aload_n hx hb d1 d3 (hl.2.2 _ (ob_get_mem hg)) (k _ hl)) k
  · subst d3
    exact ob_stepL (fun hx hb hl k => lv_aload hx hb d1 (hl.2.2 _ (ob_get_mem hg)) (k _ hl)) k
  · exact d3.elim
theorem ob_lload {i n : Nat} {x : Int64} {ins : Instr} (d : ob_dv ob_jc K pc q i ins n) (hg : ob_get lo i = some (.long x)) (k : ob_G l E K q lo (.long x :: rest) S D Z T) : ob_G l E K pc lo rest S D Z T := by
  obtain ⟨d1, rfl, d3⟩ := d
  unfold ob_jc at d3
  split at d3
  · exact ob_stepL (fun hx hb hl k => lv_lload_n hx hb d1 d3 (hl.2.2 _ (ob_get_mem hg)) (k _ hl)) k
  · subst d3
    exact ob_stepL (fun hx hb hl k => lv_lload hx hb d1 (hl.2.2 _ (ob_get_mem hg)) (k _ hl)) k
  · exact d3.elim
theorem ob_istore {i n : Nat} {x : Int32} {ins : Instr} (d : ob_dv (ob_sc K.2.2.2.1) K pc q i ins n) (hg : ob_ins i (.int x) (ob_f1 i lo) = lo2) (k : ob_G l E K q lo2 rest S D Z T) : ob_G l E K pc lo (.int x :: rest) S D Z T := by
  obtain ⟨d1, rfl, d3⟩ := d
  unfold ob_sc at d3
  split at d3
  · exact ob_stepL (fun hx hb hl k => lv_istore_n hx hb d1 d3.1 hl d3.2 rfl (fun ls' h => k ls' (ob_has_ins h hg))) k
  · obtain ⟨rfl, d3⟩ := d3
    exact ob_stepL (fun hx hb hl k => lv_istore hx hb d1 hl d3 rfl (fun ls' h => k ls' (ob_has_ins h hg))) k
  · exact d3.elim
theorem ob_astore {i n : Nat} {x : Nat} {ins : Instr} (d : ob_dv (ob_bc K.2.2.2.1) K pc q i ins n) (hg : ob_ins i (.ref x) (ob_f1 i lo) = lo2) (k : ob_G l E K q lo2 rest S D Z T) : ob_G l E K pc lo (.ref x :: rest) S D Z T := by
  obtain ⟨d1, rfl, d3⟩ := d
  unfold ob_bc at d3
  split at d3
  · exact ob_stepL (fun hx hb hl k => lv_astore_n hx hb d1 d3.1 hl d3.2 rfl (fun ls' h => k ls' (ob_has_ins h hg))) k
  · obtain ⟨rfl, d3⟩ := d3
    exact ob_stepL (fun hx hb hl k => lv_astore hx hb d1 hl d3 rfl (fun ls' h => k ls' (ob_has_ins h hg))) k
  · exact d3.elim
theorem ob_lstore {i n : Nat} {x : Int64} {ins : Instr} (d : ob_dv (ob_uc K.2.2.2.1) K pc q i ins n) (hg : ob_ins i (.long x) (ob_f2 i lo) = lo2) (k : ob_G l E K q lo2 rest S D Z T) : ob_G l E K pc lo (.long x :: rest) S D Z T := by
  obtain ⟨d1, rfl, d3⟩ := d
  unfold ob_uc at d3
  split at d3
  · exact ob_stepL (fun hx hb hl k => lv_lstore_n hx hb d1 d3.1 hl d3.2 rfl (fun ls' h => k ls' (ob_has_ins h hg))) k
  · obtain ⟨rfl, d3⟩ := d3
    exact ob_stepL (fun hx hb hl k => lv_lstore hx hb d1 hl d3 rfl (fun ls' h => k ls' (ob_has_ins h hg))) k
  · exact d3.elim
def ob_di (K : ob_K) (pc q i : Nat) (n : Int) (v : Int32) : Prop := decode K.2.2.1 pc = .ok (.iinc i n, 3) ∧ pc + 3 = q ∧ Int32.ofInt n = v ∧ i < K.2.2.2.1
theorem ob_iinc {i : Nat} {n : Int} {x v : Int32} (d : ob_di K pc q i n v) (hx0 : ob_get lo i = some (.int x)) (hg : ob_ins i (.int (x + v)) (ob_f1 i lo) = lo2) (k : ob_G l E K q lo2 st S D Z T) : ob_G l E K pc lo st S D Z T := by
  obtain ⟨d1, rfl, rfl, d3⟩ := d
  obtain ⟨j, hj⟩ := List.getElem?_of_mem (ob_get_mem hx0)
  exact ob_stepL (fun hx hb hl k => lv_iinc hx hb d1 hl hj rfl d3 rfl (fun ls' h => k ls' (ob_has_ins h hg))) k
theorem ob_iadd {x y : Int32} (d : ob_dc K pc .iadd 1 q) (k : ob_G l E K q lo (.int (x + y) :: rest) S D Z T) : ob_G l E K pc lo (.int y :: .int x :: rest) S D Z T := by
  obtain ⟨d1, rfl⟩ := d
  exact ob_step (fun hx hb k => lv_iadd hx hb d1 k) k
theorem ob_isub {x y : Int32} (d : ob_dc K pc .isub 1 q) (k : ob_G l E K q lo (.int (x - y) :: rest) S D Z T) : ob_G l E K pc lo (.int y :: .int x :: rest) S D Z T := by
  obtain ⟨d1, rfl⟩ := d
  exact ob_step (fun hx hb k => lv_isub hx hb d1 k) k
theorem ob_imul {x y : Int32} (d : ob_dc K pc .imul 1 q) (k : ob_G l E K q lo (.int (x * y) :: rest) S D Z T) : ob_G l E K pc lo (.int y :: .int x :: rest) S D Z T := by
  obtain ⟨d1, rfl⟩ := d
  exact ob_step (fun hx hb k => lv_imul hx hb d1 k) k
theorem ob_iand {x y : Int32} (d : ob_dc K pc .iand 1 q) (k : ob_G l E K q lo (.int (x &&& y) :: rest) S D Z T) : ob_G l E K pc lo (.int y :: .int x :: rest) S D Z T := by
  obtain ⟨d1, rfl⟩ := d
  exact ob_step (fun hx hb k => lv_iand hx hb d1 k) k
theorem ob_ior {x y : Int32} (d : ob_dc K pc .ior 1 q) (k : ob_G l E K q lo (.int (x ||| y) :: rest) S D Z T) : ob_G l E K pc lo (.int y :: .int x :: rest) S D Z T := by
  obtain ⟨d1, rfl⟩ := d
  exact ob_step (fun hx hb k => lv_ior hx hb d1 k) k
theorem ob_ixor {x y : Int32} (d : ob_dc K pc .ixor 1 q) (k : ob_G l E K q lo (.int (x ^^^ y) :: rest) S D Z T) : ob_G l E K pc lo (.int y :: .int x :: rest) S D Z T := by
  obtain ⟨d1, rfl⟩ := d
  exact ob_step (fun hx hb k => lv_ixor hx hb d1 k) k
theorem ob_ishl {x y : Int32} (d : ob_dc K pc .ishl 1 q) (k : ob_G l E K q lo (.int (x <<< (y &&& 31)) :: rest) S D Z T) : ob_G l E K pc lo (.int y :: .int x :: rest) S D Z T := by
  obtain ⟨d1, rfl⟩ := d
  exact ob_step (fun hx hb k => lv_ishl hx hb d1 k) k
theorem ob_ishr {x y : Int32} (d : ob_dc K pc .ishr 1 q) (k : ob_G l E K q lo (.int (x >>> (y &&& 31)) :: rest) S D Z T) : ob_G l E K pc lo (.int y :: .int x :: rest) S D Z T := by
  obtain ⟨d1, rfl⟩ := d
  exact ob_step (fun hx hb k => lv_ishr hx hb d1 k) k
theorem ob_idiv {x y : Int32} (d : ob_dc K pc .idiv 1 q) (hne : ¬ y = 0) (k : ob_G l E K q lo (.int (x / y) :: rest) S D Z T) : ob_G l E K pc lo (.int y :: .int x :: rest) S D Z T := by
  obtain ⟨d1, rfl⟩ := d
  exact ob_step (fun hx hb k => lv_idiv hx hb d1 hne k) k
theorem ob_irem {x y : Int32} (d : ob_dc K pc .irem 1 q) (hne : ¬ y = 0) (k : ob_G l E K q lo (.int (x - x / y * y) :: rest) S D Z T) : ob_G l E K pc lo (.int y :: .int x :: rest) S D Z T := by
  obtain ⟨d1, rfl⟩ := d
  exact ob_step (fun hx hb k => lv_irem hx hb d1 hne k) k
theorem ob_ineg {x : Int32} (d : ob_dc K pc .ineg 1 q) (k : ob_G l E K q lo (.int (-x) :: rest) S D Z T) : ob_G l E K pc lo (.int x :: rest) S D Z T := by
  obtain ⟨d1, rfl⟩ := d
  exact ob_step (fun hx hb k => lv_ineg hx hb d1 k) k
theorem ob_iushr {x y : Int32} (d : ob_dc K pc .iushr 1 q) (k : ob_G l E K q lo (.int (x.toUInt32 >>> (y.toUInt32 &&& Int32.toUInt32 31)).toInt32 :: rest) S D Z T) : ob_G l E K pc lo (.int y :: .int x :: rest) S D Z T := by
  obtain ⟨d1, rfl⟩ := d
  exact ob_step (fun hx hb k => lv_iushr hx hb d1 rfl k) k
theorem ob_ladd {x y : Int64} (d : ob_dc K pc .ladd 1 q) (k : ob_G l E K q lo (.long (x + y) :: rest) S D Z T) : ob_G l E K pc lo (.long y :: .long x :: rest) S D Z T := by
  obtain ⟨d1, rfl⟩ := d
  exact ob_step (fun hx hb k => lv_ladd hx hb d1 k) k
theorem ob_lor {x y : Int64} (d : ob_dc K pc .lor 1 q) (k : ob_G l E K q lo (.long (x ||| y) :: rest) S D Z T) : ob_G l E K pc lo (.long y :: .long x :: rest) S D Z T := by
  obtain ⟨d1, rfl⟩ := d
  exact ob_step (fun hx hb k => lv_lor hx hb d1 k) k
theorem ob_lxor {x y : Int64} (d : ob_dc K pc .lxor 1 q) (k : ob_G l E K q lo (.long (x ^^^ y) :: rest) S D Z T) : ob_G l E K pc lo (.long y :: .long x :: rest) S D Z T := by
  obtain ⟨d1, rfl⟩ := d
  exact ob_step (fun hx hb k => lv_lxor hx hb d1 k) k
theorem ob_lshl {x : Int64} {y : Int32} (d : ob_dc K pc .lshl 1 q) (k : ob_G l E K q lo (.long (x <<< (y.toInt64 &&& 63)) :: rest) S D Z T) : ob_G l E K pc lo (.int y :: .long x :: rest) S D Z T := by
  obtain ⟨d1, rfl⟩ := d
  exact ob_step (fun hx hb k => lv_lshl hx hb d1 rfl k) k
theorem ob_lushr {x : Int64} {y : Int32} (d : ob_dc K pc .lushr 1 q) (k : ob_G l E K q lo (.long (x.toUInt64 >>> (y.toInt64.toUInt64 &&& Int64.toUInt64 63)).toInt64 :: rest) S D Z T) : ob_G l E K pc lo (.int y :: .long x :: rest) S D Z T := by
  obtain ⟨d1, rfl⟩ := d
  exact ob_step (fun hx hb k => lv_lushr hx hb d1 rfl k) k
theorem ob_i2l {x : Int32} (d : ob_dc K pc .i2l 1 q) (k : ob_G l E K q lo (.long x.toInt64 :: rest) S D Z T) : ob_G l E K pc lo (.int x :: rest) S D Z T := by
  obtain ⟨d1, rfl⟩ := d
  exact ob_step (fun hx hb k => lv_i2l hx hb d1 rfl k) k
theorem ob_l2i {x : Int64} (d : ob_dc K pc .l2i 1 q) (k : ob_G l E K q lo (.int x.toInt32 :: rest) S D Z T) : ob_G l E K pc lo (.long x :: rest) S D Z T := by
  obtain ⟨d1, rfl⟩ := d
  exact ob_step (fun hx hb k => lv_l2i hx hb d1 rfl k) k
theorem ob_i2b {x : Int32} (d : ob_dc K pc .i2b 1 q) (k : ob_G l E K q lo (.int x.toInt8.toInt32 :: rest) S D Z T) : ob_G l E K pc lo (.int x :: rest) S D Z T := by
  obtain ⟨d1, rfl⟩ := d
  exact ob_step (fun hx hb k => lv_i2b hx hb d1 rfl k) k
theorem ob_lcmp {x y : Int64} (d : ob_dc K pc .lcmp 1 q) (k : ob_G l E K q lo (.int (lg_cmp x y) :: rest) S D Z T) : ob_G l E K pc lo (.long y :: .long x :: rest) S D Z T := by
  obtain ⟨d1, rfl⟩ := d
  exact ob_step (fun hx hb k => W.lcmp hx hb d1 k) k
theorem ob_dup {va : Value} (d : ob_dc K pc .dup 1 q) (h1 : va.category = 1) (k : ob_G l E K q lo (va :: va :: rest) S D Z T) : ob_G l E K pc lo (va :: rest) S D Z T := by
  obtain ⟨d1, rfl⟩ := d
  exact ob_step (fun hx hb k => lv_dup hx hb d1 h1 k) k
theorem ob_pop {va : Value} (d : ob_dc K pc .pop 1 q) (h1 : va.category = 1) (k : ob_G l E K q lo (rest) S D Z T) : ob_G l E K pc lo (va :: rest) S D Z T := by
  obtain ⟨d1, rfl⟩ := d
  exact ob_step (fun hx hb k => lv_pop hx hb d1 h1 k) k
theorem ob_dup_x1 {va vb : Value} (d : ob_dc K pc .dup_x1 1 q) (h1 : va.category = 1) (h2 : vb.category = 1) (k : ob_G l E K q lo (va :: vb :: va :: rest) S D Z T) : ob_G l E K pc lo (va :: vb :: rest) S D Z T := by
  obtain ⟨d1, rfl⟩ := d
  exact ob_step (fun hx hb k => lv_dup_x1 hx hb d1 h1 h2 k) k
theorem ob_dup2 {va vb : Value} (d : ob_dc K pc .dup2 1 q) (h1 : va.category = 1) (h2 : vb.category = 1) (k : ob_G l E K q lo (va :: vb :: va :: vb :: rest) S D Z T) : ob_G l E K pc lo (va :: vb :: rest) S D Z T := by
  obtain ⟨d1, rfl⟩ := d
  exact ob_step (fun hx hb k => lv_dup2_11 hx hb d1 h1 h2 k) k
theorem ob_icmp_eq {x y : Int32} {off : Int} {t : Nat} (d : ob_db K pc (.if_icmp .eq off) off q t) (kt : x = y → ob_G l E K t lo rest S D Z T) (kf : ¬ x = y → ob_G l E K q lo rest S D Z T) : ob_G l E K pc lo (.int y :: .int x :: rest) S D Z T := by
  obtain ⟨d1, rfl, d2⟩ := d
  intro p e R s m args below meth c H locs cells slots s0 ls hx hb hml hr hlk hnm hown hts hC hH hS hl hfr hlo h1 h2 h3 h4
  exact lv_icmp_eq hx hb d1 d2 (fun z => kt z p e R s m args below meth c H locs cells slots s0 ls hx hb hml hr hlk hnm hown hts hC hH hS hl hfr hlo h1 h2 h3 h4) (fun z => kf z p e R s m args below meth c H locs cells slots s0 ls hx hb hml hr hlk hnm hown hts hC hH hS hl hfr hlo h1 h2 h3 h4)
theorem ob_if_eq {x : Int32} {off : Int} {t : Nat} (d : ob_db K pc (.ifCond .eq off) off q t) (kt : x = 0 → ob_G l E K t lo rest S D Z T) (kf : ¬ x = 0 → ob_G l E K q lo rest S D Z T) : ob_G l E K pc lo (.int x :: rest) S D Z T := by
  obtain ⟨d1, rfl, d2⟩ := d
  intro p e R s m args below meth c H locs cells slots s0 ls hx hb hml hr hlk hnm hown hts hC hH hS hl hfr hlo h1 h2 h3 h4
  exact lv_if_eq hx hb d1 d2 (fun z => kt z p e R s m args below meth c H locs cells slots s0 ls hx hb hml hr hlk hnm hown hts hC hH hS hl hfr hlo h1 h2 h3 h4) (fun z => kf z p e R s m args below meth c H locs cells slots s0 ls hx hb hml hr hlk hnm hown hts hC hH hS hl hfr hlo h1 h2 h3 h4)
theorem ob_icmp_ne {x y : Int32} {off : Int} {t : Nat} (d : ob_db K pc (.if_icmp .ne off) off q t) (kt : ¬ x = y → ob_G l E K t lo rest S D Z T) (kf : x = y → ob_G l E K q lo rest S D Z T) : ob_G l E K pc lo (.int y :: .int x :: rest) S D Z T := by
  obtain ⟨d1, rfl, d2⟩ := d
  intro p e R s m args below meth c H locs cells slots s0 ls hx hb hml hr hlk hnm hown hts hC hH hS hl hfr hlo h1 h2 h3 h4
  exact lv_icmp_ne hx hb d1 d2 (fun z => kt z p e R s m args below meth c H locs cells slots s0 ls hx hb hml hr hlk hnm hown hts hC hH hS hl hfr hlo h1 h2 h3 h4) (fun z => kf z p e R s m args below meth c H locs cells slots s0 ls hx hb hml hr hlk hnm hown hts hC hH hS hl hfr hlo h1 h2 h3 h4)
theorem ob_if_ne {x : Int32} {off : Int} {t : Nat} (d : ob_db K pc (.ifCond .ne off) off q t) (kt : ¬ x = 0 → ob_G l E K t lo rest S D Z T) (kf : x = 0 → ob_G l E K q lo rest S D Z T) : ob_G l E K pc lo (.int x :: rest) S D Z T := by
  obtain ⟨d1, rfl, d2⟩ := d
  intro p e R s m args below meth c H locs cells slots s0 ls hx hb hml hr hlk hnm hown hts hC hH hS hl hfr hlo h1 h2 h3 h4
  exact lv_if_ne hx hb d1 d2 (fun z => kt z p e R s m args below meth c H locs cells slots s0 ls hx hb hml hr hlk hnm hown hts hC hH hS hl hfr hlo h1 h2 h3 h4) (fun z => kf z p e R s m args below meth c H locs cells slots s0 ls hx hb hml hr hlk hnm hown hts hC hH hS hl hfr hlo h1 h2 h3 h4)
theorem ob_icmp_lt {x y : Int32} {off : Int} {t : Nat} (d : ob_db K pc (.if_icmp .lt off) off q t) (kt : x < y → ob_G l E K t lo rest S D Z T) (kf : ¬ x < y → ob_G l E K q lo rest S D Z T) : ob_G l E K pc lo (.int y :: .int x :: rest) S D Z T := by
  obtain ⟨d1, rfl, d2⟩ := d
  intro p e R s m args below meth c H locs cells slots s0 ls hx hb hml hr hlk hnm hown hts hC hH hS hl hfr hlo h1 h2 h3 h4
  exact lv_icmp_lt hx hb d1 d2 (fun z => kt z p e R s m args below meth c H locs cells slots s0 ls hx hb hml hr hlk hnm hown hts hC hH hS hl hfr hlo h1 h2 h3 h4) (fun z => kf z p e R s m args below meth c H locs cells slots s0 ls hx hb hml hr hlk hnm hown hts hC hH hS hl hfr hlo h1 h2 h3 h4)
theorem ob_if_lt {x : Int32} {off : Int} {t : Nat} (d : ob_db K pc (.ifCond .lt off) off q t) (kt : x < 0 → ob_G l E K t lo rest S D Z T) (kf : ¬ x < 0 → ob_G l E K q lo rest S D Z T) : ob_G l E K pc lo (.int x :: rest) S D Z T := by
  obtain ⟨d1, rfl, d2⟩ := d
  intro p e R s m args below meth c H locs cells slots s0 ls hx hb hml hr hlk hnm hown hts hC hH hS hl hfr hlo h1 h2 h3 h4
  exact lv_if_lt hx hb d1 d2 (fun z => kt z p e R s m args below meth c H locs cells slots s0 ls hx hb hml hr hlk hnm hown hts hC hH hS hl hfr hlo h1 h2 h3 h4) (fun z => kf z p e R s m args below meth c H locs cells slots s0 ls hx hb hml hr hlk hnm hown hts hC hH hS hl hfr hlo h1 h2 h3 h4)
theorem ob_icmp_ge {x y : Int32} {off : Int} {t : Nat} (d : ob_db K pc (.if_icmp .ge off) off q t) (kt : y ≤ x → ob_G l E K t lo rest S D Z T) (kf : ¬ y ≤ x → ob_G l E K q lo rest S D Z T) : ob_G l E K pc lo (.int y :: .int x :: rest) S D Z T := by
  obtain ⟨d1, rfl, d2⟩ := d
  intro p e R s m args below meth c H locs cells slots s0 ls hx hb hml hr hlk hnm hown hts hC hH hS hl hfr hlo h1 h2 h3 h4
  exact lv_icmp_ge hx hb d1 d2 (fun z => kt z p e R s m args below meth c H locs cells slots s0 ls hx hb hml hr hlk hnm hown hts hC hH hS hl hfr hlo h1 h2 h3 h4) (fun z => kf z p e R s m args below meth c H locs cells slots s0 ls hx hb hml hr hlk hnm hown hts hC hH hS hl hfr hlo h1 h2 h3 h4)
theorem ob_if_ge {x : Int32} {off : Int} {t : Nat} (d : ob_db K pc (.ifCond .ge off) off q t) (kt : 0 ≤ x → ob_G l E K t lo rest S D Z T) (kf : ¬ 0 ≤ x → ob_G l E K q lo rest S D Z T) : ob_G l E K pc lo (.int x :: rest) S D Z T := by
  obtain ⟨d1, rfl, d2⟩ := d
  intro p e R s m args below meth c H locs cells slots s0 ls hx hb hml hr hlk hnm hown hts hC hH hS hl hfr hlo h1 h2 h3 h4
  exact lv_if_ge hx hb d1 d2 (fun z => kt z p e R s m args below meth c H locs cells slots s0 ls hx hb hml hr hlk hnm hown hts hC hH hS hl hfr hlo h1 h2 h3 h4) (fun z => kf z p e R s m args below meth c H locs cells slots s0 ls hx hb hml hr hlk hnm hown hts hC hH hS hl hfr hlo h1 h2 h3 h4)
theorem ob_icmp_gt {x y : Int32} {off : Int} {t : Nat} (d : ob_db K pc (.if_icmp .gt off) off q t) (kt : y < x → ob_G l E K t lo rest S D Z T) (kf : ¬ y < x → ob_G l E K q lo rest S D Z T) : ob_G l E K pc lo (.int y :: .int x :: rest) S D Z T := by
  obtain ⟨d1, rfl, d2⟩ := d
  intro p e R s m args below meth c H locs cells slots s0 ls hx hb hml hr hlk hnm hown hts hC hH hS hl hfr hlo h1 h2 h3 h4
  exact lv_icmp_gt hx hb d1 d2 (fun z => kt z p e R s m args below meth c H locs cells slots s0 ls hx hb hml hr hlk hnm hown hts hC hH hS hl hfr hlo h1 h2 h3 h4) (fun z => kf z p e R s m args below meth c H locs cells slots s0 ls hx hb hml hr hlk hnm hown hts hC hH hS hl hfr hlo h1 h2 h3 h4)
theorem ob_if_gt {x : Int32} {off : Int} {t : Nat} (d : ob_db K pc (.ifCond .gt off) off q t) (kt : 0 < x → ob_G l E K t lo rest S D Z T) (kf : ¬ 0 < x → ob_G l E K q lo rest S D Z T) : ob_G l E K pc lo (.int x :: rest) S D Z T := by
  obtain ⟨d1, rfl, d2⟩ := d
  intro p e R s m args below meth c H locs cells slots s0 ls hx hb hml hr hlk hnm hown hts hC hH hS hl hfr hlo h1 h2 h3 h4
  exact lv_if_gt hx hb d1 d2 (fun z => kt z p e R s m args below meth c H locs cells slots s0 ls hx hb hml hr hlk hnm hown hts hC hH hS hl hfr hlo h1 h2 h3 h4) (fun z => kf z p e R s m args below meth c H locs cells slots s0 ls hx hb hml hr hlk hnm hown hts hC hH hS hl hfr hlo h1 h2 h3 h4)
theorem ob_icmp_le {x y : Int32} {off : Int} {t : Nat} (d : ob_db K pc (.if_icmp .le off) off q t) (kt : x ≤ y → ob_G l E K t lo rest S D Z T) (kf : ¬ x ≤ y → ob_G l E K q lo rest S D Z T) : ob_G l E K pc lo (.int y :: .int x :: rest) S D Z T := by
  obtain ⟨d1, rfl, d2⟩ := d
  intro p e R s m args below meth c H locs cells slots s0 ls hx hb hml hr hlk hnm hown hts hC hH hS hl hfr hlo h1 h2 h3 h4
  exact lv_icmp_le hx hb d1 d2 (fun z => kt z p e R s m args below meth c H locs cells slots s0 ls hx hb hml hr hlk hnm hown hts hC hH hS hl hfr hlo h1 h2 h3 h4) (fun z => kf z p e R s m args below meth c H locs cells slots s0 ls hx hb hml hr hlk hnm hown hts hC hH hS hl hfr hlo h1 h2 h3 h4)
theorem ob_if_le {x : Int32} {off : Int} {t : Nat} (d : ob_db K pc (.ifCond .le off) off q t) (kt : x ≤ 0 → ob_G l E K t lo rest S D Z T) (kf : ¬ x ≤ 0 → ob_G l E K q lo rest S D Z T) : ob_G l E K pc lo (.int x :: rest) S D Z T := by
  obtain ⟨d1, rfl, d2⟩ := d
  intro p e R s m args below meth c H locs cells slots s0 ls hx hb hml hr hlk hnm hown hts hC hH hS hl hfr hlo h1 h2 h3 h4
  exact lv_if_le hx hb d1 d2 (fun z => kt z p e R s m args below meth c H locs cells slots s0 ls hx hb hml hr hlk hnm hown hts hC hH hS hl hfr hlo h1 h2 h3 h4) (fun z => kf z p e R s m args below meth c H locs cells slots s0 ls hx hb hml hr hlk hnm hown hts hC hH hS hl hfr hlo h1 h2 h3 h4)
theorem ob_goto {off : Int} {t : Nat} (d : ob_db K pc (.goto off) off q t) (k : ob_G l E K t lo st S D Z T) : ob_G l E K pc lo st S D Z T := by
  obtain ⟨d1, rfl, d2⟩ := d
  exact ob_step (fun hx hb k => lv_goto hx hb d1 d2 k) k
end OB
