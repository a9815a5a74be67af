-- ===== throws of NoSuchElementException, and their catching =====
def ob_nt (l : Launch) : Prop := ∀ e : Env, l.admits e → e.platform.stackTraces = false
def ob_tm (K : ob_K) : Room := { frames := K.2.2.2.2.2.1, cells := 1, slots := 6, locals := K.2.2.2.2.2.2 }
/-- the end of a method that throws: one cell more, nothing else -/
def ob_QT (E : ob_E) (S : ob_S) (D : ob_D) : Array Value → State → Outcome → State → Prop := fun _ st o t => ∃ (x : Addr) (ce : Cell) (L : List Loc), o = .threw x ∧ st.WarmedH t.vm ∧ st.sameButNew ({ t with vm := st.vm } : State) L 1 6 ∧ (∀ q ∈ L, ob_A E q.base) ∧ ob_H E (ob_new S 0 0 6) D t.heap ∧ va_F (ob_A E) st t ∧ t.heap[x]? = some ce ∧ ce.vm.isStatics = false ∧ st.vm.findClass ob_nse = some ce.cls
def ob_MT (l : Launch) (E : ob_E) (K : ob_K) (av : List Value) (S : ob_S) (D : ob_D) : Prop := MetFree l K.2.1 (headSpec (ob_ws K) (ob_tm K)) (ob_P E av S D) (fun _ _ _ _ _ => True) (ob_QT E S D)
/-- as ob_G, but nothing has been written or made yet: the road to a throw -/
def ob_G0 (l : Launch) (E : ob_E) (K : ob_K) (pc : Nat) (lo : List (Nat × Value)) (st : List Value) (S : ob_S) (D : ob_D) : Prop :=
  ∀ (p : Program) (e : Env) (R : Room) (s : State) (m : MethodId) (args : Array Value) (below : List Frame) (meth : Method) (c : Code) (ls : Array Slot),
    p.tables.exec = Jvm.exec → c.code = K.2.2.1 → c.maxLocals = K.2.2.2.1 → meth.locks = false → s.methodNamed? K.2.1 = some m → s.vm.findClass K.1 = some m.cls → (∀ w ∈ ob_g, w.before args s = true) →
    ob_C E s → ob_H E S D s.heap → lv_has ls K.2.2.2.1 lo → K.2.2.2.2.2.1 ≤ R.frames → K.2.2.2.2.2.2 ≤ R.locals → R.cells = 1 → R.slots = 6 →
    W p l e R s m args below meth c s.heap [] 0 0 (fun t => ∃ o, t.status = .running ∧ Ended t below o ∧ ob_QT E S D args s o t) (F0 m pc ls st)
section OB8
variable {l : Launch} {E : ob_E} {K K2 : ob_K} {pc q : Nat} {lo lo2 : List (Nat × Value)} {st st2 rest : List Value} {S T : ob_S} {D : ob_D} {Z : ob_Z}
theorem ob_ofG0 {av : List Value} (hp : plainName K.2.1.cls = true) (hcl : K.2.1.cls = K.1) (hn : (lg_sl av).length ≤ K.2.2.2.1) (hlo : lv_args 0 av = lo) (v : ob_G0 l E K 0 lo [] S D) : ob_MT l E K av S D := by
  refine MetFree.of_bodyS (code := K.2.2.1) (maxLocals := K.2.2.2.1) (ret := K.2.2.2.2.1) hp ?_ ?_
  · intro args s m h hn
    obtain ⟨meth, c, h1, h2, h3, h4, h5, h6, -, -⟩ := Cond.code_spec hn (atoms_spec (ws := ob_ws K) h _ List.mem_cons_self)
    exact ⟨meth, c, h1, h2, h3, h4, h5, h6⟩
  · intro p e s m args below meth c s₁ B hml hP _
    obtain ⟨rfl, hC, hH⟩ := hP
    have hts := atoms_spec (ws := ob_ws K) B.pre
    have hh0 : s₁.heap = s.heap := by rw [B.state]; rfl
    have hl := lv_entry av hn
    rw [hlo] at hl
    have hfc : s.vm.findClass K.1 = some m.cls := by rw [← hcl]; exact findClass_of_methodNamed B.named
    have hml2 : c.maxLocals = K.2.2.2.1 := B.maxLocals_eq (hts _ List.mem_cons_self)
    have k := v p e (ob_tm K) s m av.toArray below meth c _ B.exec B.bytes hml2 B.notSynchronized B.named hfc (fun w hw => hts w (List.mem_cons_of_mem _ hw)) hC hH hl (Nat.le_refl _) (Nat.le_refl _) rfl rfl
    obtain ⟨t, a1, o, b1, b2, b3⟩ := k s₁ hh0 (Stand.of_body B)
    refine ⟨t, o, ?_, b1, b2, b3⟩
    rw [← lg_entry_eq] at a1
    exact a1
theorem ob_step0 (h : ∀ {p : Program} {e : Env} {R : Room} {s : State} {m : MethodId} {args : Array Value} {below : List Frame} {meth : Method} {c : Code} {H : Heap} {locs : List Loc} {cells slots : Nat} {Q : State → Prop} {ls : Array Slot}, p.tables.exec = Jvm.exec → c.code = K.2.2.1 → lv_has ls K.2.2.2.1 lo → (∀ ls' : Array Slot, lv_has ls' K.2.2.2.1 lo2 → W p l e R s m args below meth c H locs cells slots Q (F0 m q ls' st2)) → W p l e R s m args below meth c H locs cells slots Q (F0 m pc ls st))
    (k : ob_G0 l E K q lo2 st2 S D) : ob_G0 l E K pc lo st S D :=
  fun p e R s m args below meth c ls hx hb hml hlk hnm hown hts hC hH hl hfr hlo h3 h4 => h hx hb hl (fun ls' hl' => k p e R s m args below meth c ls' hx hb hml hlk hnm hown hts hC hH hl' hfr hlo h3 h4)
theorem ob_iload0 {i n : Nat} {x : Int32} {ins : Instr} (d : ob_dv ob_lc K pc q i ins n) (hg : ob_get lo i = some (.int x)) (k : ob_G0 l E K q lo (.int x :: rest) S D) : ob_G0 l E K pc lo rest S D := by
  obtain ⟨d1, rfl, d3⟩ := d
  unfold ob_lc at d3
  split at d3
  · exact ob_step0 (fun hx hb hl k => lv_iload_n hx hb d1 d3 (hl.2.2 _ (ob_get_mem hg)) (k _ hl)) k
  · subst d3
    exact ob_step0 (fun hx hb hl k => lv_iload hx hb d1 (hl.2.2 _ (ob_get_mem hg)) (k _ hl)) k
  · exact d3.elim
theorem ob_aload0 {i n : Nat} {x : Nat} {ins : Instr} (d : ob_dv ob_ac K pc q i ins n) (hg : ob_get lo i = some (.ref x)) (k : ob_G0 l E K q lo (.ref x :: rest) S D) : ob_G0 l E K pc lo rest S D := by
  obtain ⟨d1, rfl, d3⟩ := d
  unfold ob_ac at d3
  split at d3
  · exact ob_step0 (fun hx hb hl k => lv_aload_n hx hb d1 d3 (hl.2.2 _ (ob_get_mem hg)) (k _ hl)) k
  · subst d3
    exact ob_step0 (fun hx hb hl k => lv_aload hx hb d1 (hl.2.2 _ (ob_get_mem hg)) (k _ hl)) k
  · exact d3.elim
theorem ob_push0 {v : Int32} {i : Instr} {n : Nat} (d : ob_dk K pc q v i n) (k : ob_G0 l E K q lo (.int v :: rest) S D) : ob_G0 l E K pc lo rest S D := by
  obtain ⟨d1, rfl, d3⟩ := d
  unfold ob_kc at d3
  split at d3
  · exact ob_step0 (fun hx hb hl k => lv_iconst hx hb d1 d3 (k _ hl)) k
  · exact ob_step0 (fun hx hb hl k => lv_bipush hx hb d1 d3 (k _ hl)) k
  · exact ob_step0 (fun hx hb hl k => lv_sipush hx hb d1 d3 (k _ hl)) k
  · exact d3.elim
theorem ob_get00 {idx c k t a : Nat} {C nm ds : String} {fin : Bool} (d : ob_dc K pc (.getfield idx) 3 q) (F : ob_fd c k C nm ds fin t) (L : ob_fl K idx C nm ds) (ha : S.1 a = c + 1) (kk : ob_G0 l E K q lo (ob_val D a k t :: rest) S D) : ob_G0 l E K pc lo (.ref a :: rest) S D := by
  obtain ⟨d1, rfl⟩ := d
  obtain ⟨U, N, ⟨hc, hin, -, -⟩, hk, hU, rfl⟩ := F
  intro p e R s m args below meth cd ls hx hb hml hlk hnm hown hts hC hH hl hfr hlo h3 h4
  have k2 := kk p e R s m args below meth cd ls hx hb hml hlk hnm hown hts hC hH hl hfr hlo h3 h4
  obtain ⟨cell, q1, q2, q3, q4⟩ := hH.2.2.2.2.2.1 a c _ ha hc
  obtain ⟨hSl, hfc, kC, hkC, hkind⟩ := hC.1.1 c _ hc
  obtain ⟨cf, kf, fi, f, hi, hsl⟩ := hSl k hk
  have hst := (u_facts hfc hkC (u_lays hts hin hk) hi).1
  have e1 : (U k).1 = C := by rw [hU]
  have e2 : (U k).2.1 = nm := by rw [hU]
  have e3 : (U k).2.2.1 = ds := by rw [hU]
  simp only [e1, e2, e3] at hi
  have hv : cell.slots[f.slot]? = some (ob_val D a k (ob_ty (c + 1) k)) := by rw [hsl]; exact q4 k hk
  rcases L with L | L
  · exact W.getf hx hb hown (hts _ L) hi hst q1 (by rw [q3]; exact fun h => by cases h) hv rfl rfl d1 k2
  · exact va_Wgetf hx hb hown ((hC.2.2.1 _ L).use rfl) hi hst q1 (by rw [q3]; exact fun h => by cases h) hv rfl rfl d1 k2
theorem ob_getI0 {idx c k a : Nat} {C nm ds : String} {fin : Bool} (d : ob_dc K pc (.getfield idx) 3 q) (F : ob_fd c k C nm ds fin 0) (L : ob_fl K idx C nm ds) (ha : S.1 a = c + 1) (kk : ob_G0 l E K q lo (.int (D.1 a k) :: rest) S D) : ob_G0 l E K pc lo (.ref a :: rest) S D := ob_get00 d F L ha kk
theorem ob_getR0 {idx c k a t : Nat} {C nm ds : String} {fin : Bool} (d : ob_dc K pc (.getfield idx) 3 q) (F : ob_fd c k C nm ds fin (t + 3)) (L : ob_fl K idx C nm ds) (ha : S.1 a = c + 1) (hz : D.2.1 a k ≠ 0) (kk : S.1 (D.2.1 a k) = t + 1 → ob_G0 l E K q lo (.ref (D.2.1 a k) :: rest) S D) : ob_G0 l E K pc lo (.ref a :: rest) S D := by
  intro p e R s m args below meth cd ls hx hb hml hlk hnm hown hts hC hH hl hfr hlo h3 h4
  have h5 := hH.2.2.2.2.1 a k (by omega) (by rw [ha]; obtain ⟨U, N, -, -, -, ht⟩ := F; omega)
  rw [ha] at h5
  have ev : ob_val D a k (t + 3) = .ref (D.2.1 a k) := by simp [ob_val, hz]
  refine ob_get00 d F L ha ?_ p e R s m args below meth cd ls hx hb hml hlk hnm hown hts hC hH hl hfr hlo h3 h4
  rw [ev]
  obtain ⟨U, N, -, -, -, ht⟩ := F
  exact kk (by omega)
end OB8
