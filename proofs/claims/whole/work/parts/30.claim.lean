-- ===== the claim, out of one pure statement =====
def ob_S0 (n : Nat) : ob_S := (fun _ => 0, fun _ => 0, n, 0)
def ob_D0 : ob_D := (fun _ _ => 0, fun _ _ => 0, fun _ _ => 0)
/-- what is left: on every script of at most N ints the law's function, over an empty memory, comes to its end within the room -/
def ob_Pure (N : Nat) : Prop := ∀ E : ob_E, E.2.2.2.2.2.2.2.1 ≤ N → 1 ≤ E.2.2.2.1 → ∃ (Tf : ob_S) (D' : ob_D), f_law E (ob_S0 E.2.2.2.1) ob_D0 = some (Tf, D') ∧ Tf.2.2.1 ≤ E.2.2.2.1 + room_1.cells ∧ Tf.2.2.2 ≤ room_1.slots
theorem ob_known {s : State} {args : Array Value} {c N : Nat} {C : String} (htg : ∀ w ∈ ob_g, w.before args s = true) (F : ob_nd c C N) : ∃ (cC : ClassId) (iS : Nat → Nat), ∀ q, ob_cl[c]? = some q → u_Kn s q.1 q.2.1 q.2.2 cC iS := by
  obtain ⟨U, ty, hc, hin, -, -, hi1, -⟩ := F
  obtain ⟨cC, iS, h⟩ := u_known htg hin (htg _ hi1)
  exact ⟨cC, iS, fun q hq => by cases hc.symm.trans hq; exact h⟩
theorem ob_arr {s : State} {args : Array Value} {ty : FieldType} (h : (Cond.arrayClass ty).before args s = true) : ∃ (cA : ClassId), ArrOfT s cA ty ∧ s.vm.findClass ("[" ++ ty.toString) = some cA := by
  obtain ⟨cA, kA, comp, h1, h2, h3⟩ := Cond.arrayClass_spec h
  exact ⟨cA, fun n z => ⟨fun k h => (by cases h), kA, h2, comp, h3⟩, h1⟩
theorem ob_lsof {s : State} {args : Array Value} {C n d : String} {A : Nat → Prop} (hl : (Cond.laysStatic C n d).before args s = true) (hr : (Cond.isRef (.static C n d)).before args s = true) (hA : ∀ a : Nat, a < s.heap.size → ¬ A a) : ob_ls C n d A s s.heap := by
  obtain ⟨c, k, i, f, a, cell, hc, hi, hst, ha, hcell, hs, hcls, hlt, hty⟩ := Cond.laysStatic_spec hl
  have hv : ∃ v, (Term.static C n d).eval args s none [] s = some v ∧ v.isRef = true := by
    cases hv : (Term.static C n d).eval args s none [] s with
    | none => simp [Cond.before, Cond.holds, Cond.value, hv] at hr
    | some v => cases v <;> simp_all [Cond.before, Cond.holds, Cond.value, Value.isRef]
  obtain ⟨v, hv, hvr⟩ := hv
  obtain ⟨-, a', cell', ha', hcell', -, hslot⟩ := Term.static_spec hi hv
  cases ha.symm.trans ha'
  cases hcell.symm.trans hcell'
  exact ⟨c, k, i, f, a, cell, v, hc, hi, hst, ha, hcell, hs, hcls, hlt, hty, hslot, hvr, hA a (Array.getElem?_eq_some_iff.mp hcell).1⟩
theorem ob_nest_ok : ob_nest.all (fun q => decide (Cond.fieldLinkNest q.1 q.2.1 q.2.2.1 q.2.2.2.1 q.2.2.2.2.1 q.2.2.2.2.2 ∈ tables_1)) = true := by decide +kernel
set_option maxRecDepth 20000 in
theorem ob_env {s : State} {args : Array Value} {b L : Nat} {xs : Nat → Int32} (hts : ∀ w ∈ lw_tbl, w.before args s = true) (hX : va_X b L xs s s.heap) (hb : b < s.heap.size) (hgv : (Jvm.Cond.and given_1 narrow_1).before args s = true) : ∃ E : ob_E, ob_C E s ∧ E.2.2.2.1 = s.heap.size ∧ E.2.2.2.2.2.2.1 = b ∧ E.2.2.2.2.2.2.2.1 = L ∧ E.2.2.2.2.2.2.2.2 = xs := by
  have htg : ∀ w ∈ ob_g, w.before args s = true := fun w hw => hts w (List.mem_filter.mp hw).1
  have hs := flat_of_before _ hgv
  have hA : ∀ a : Nat, a < s.heap.size → ¬ (fun q => s.heap.size ≤ q) a := fun a h1 h2 => by simp only at h2; omega
  have H : ∀ c : Nat, ∃ (cC : ClassId) (iS : Nat → Nat), ∀ q, ob_cl[c]? = some q → u_Kn s q.1 q.2.1 q.2.2 cC iS := by
    intro c
    match c with
    | 0 => exact ob_known htg N_0
    | 1 => exact ob_known htg N_1
    | 2 => exact ob_known htg N_2
    | 3 => exact ob_known htg N_3
    | 4 => exact ob_known htg N_4
    | 5 => exact ob_known htg N_5
    | 6 => exact ob_known htg N_6
    | 7 => exact ob_known htg N_7
    | 8 => exact ob_known htg N_8
    | 9 => exact ob_known htg N_9
    | 10 => exact ob_known htg N_10
    | 11 => exact ob_known htg N_11
    | 12 => exact ob_known htg N_12
    | c + 13 => exact ⟨0, fun _ => 0, fun q hq => absurd (List.getElem?_eq_some_iff.mp hq).1 (by show ¬ c + 13 < 13; omega)⟩
  obtain ⟨dC, H⟩ := Classical.axiomOfChoice H
  obtain ⟨dI, H⟩ := Classical.axiomOfChoice H
  obtain ⟨cI, acI, ncI⟩ := ob_arr (hts (Cond.arrayClass .int) (List.mem_append_right _ (List.mem_of_getElem? (i := 52) (by decide +kernel))))
  obtain ⟨cB, acB, ncB⟩ := ob_arr (hts (Cond.arrayClass .byte) (List.mem_append_right _ (List.mem_of_getElem? (i := 1363) (by decide +kernel))))
  obtain ⟨cZ, acZ, ncZ⟩ := ob_arr (hts (Cond.arrayClass .boolean) (List.mem_append_right _ (List.mem_of_getElem? (i := 222) (by decide +kernel))))
  obtain ⟨cJ, acJ, ncJ⟩ := ob_arr (hts (Cond.arrayClass .long) (List.mem_append_right _ (List.mem_of_getElem? (i := 1649) (by decide +kernel))))
  obtain ⟨compR, cR, kR, r1, -, r3, r4, r5⟩ := Cond.arrayOver_spec (hts (Cond.arrayOver (.object "OrbitBox$Row")) (List.mem_append_right _ (List.mem_of_getElem? (i := 93) (by decide +kernel))))
  obtain ⟨compB, cBB, kBB, b1, -, b3, b4, b5⟩ := arrayOverA_spec (hts (Cond.arrayOver (.array .byte)) (List.mem_append_right _ (List.mem_of_getElem? (i := 1083) (by decide +kernel))))
  obtain ⟨compZ, cZZ, kZZ, z1, -, z3, z4, z5⟩ := arrayOverA_spec (hts (Cond.arrayOver (.array .boolean)) (List.mem_append_right _ (List.mem_of_getElem? (i := 1085) (by decide +kernel))))
  have eB : compB = cB := Option.some.inj (b1.symm.trans ncB)
  have eZ : compZ = cZ := Option.some.inj (z1.symm.trans ncZ)
  subst eB
  subst eZ
  obtain ⟨tL, vL, hTL⟩ := va_Tof (tm := .static "OrbitBox$Handler" "LENGTHS" "[I") (ty := .int) (N := 64) (f := fun j => .int (ob_LEN j)) (A := fun q => s.heap.size ≤ q) (by decide) (hs _ (by decide +kernel)) (va_eqt (hs _ (by decide +kernel))) (fun j hj => va_eqt (hs _ ((by decide +kernel : ∀ j, j < 64 → Cond.eq (.elem (.static "OrbitBox$Handler" "LENGTHS" "[I") (.int (Int32.ofNat j))) (.int (ob_LEN j)) ∈ flatC (Jvm.Cond.and given_1 narrow_1)) j hj))) hA
  obtain ⟨tS, vS, hTS⟩ := va_Tof (tm := .static "OrbitBox$Craft" "SAFE_ACTUATORS" "[I") (ty := .int) (N := 8) (f := fun j => .int (ob_SAF j)) (A := fun q => s.heap.size ≤ q) (by decide) (hs _ (by decide +kernel)) (va_eqt (hs _ (by decide +kernel))) (fun j hj => va_eqt (hs _ ((by decide +kernel : ∀ j, j < 8 → Cond.eq (.elem (.static "OrbitBox$Craft" "SAFE_ACTUATORS" "[I") (.int (Int32.ofNat j))) (.int (ob_SAF j)) ∈ flatC (Jvm.Cond.and given_1 narrow_1)) j hj))) hA
  have hZL : va_Z "OrbitBox$Handler" "LENGTHS" "[I" (.ref tL) (fun q => s.heap.size ≤ q) s s.heap := va_Zof (hts _ (List.mem_append_right _ (List.mem_of_getElem? (i := 598) (by decide +kernel)))) (hts _ (List.mem_append_right _ (List.mem_of_getElem? (i := 13) (by decide +kernel)))) vL hA
  have hZS : va_Z "OrbitBox$Craft" "SAFE_ACTUATORS" "[I" (.ref tS) (fun q => s.heap.size ≤ q) s s.heap := va_Zof (hts _ (List.mem_append_right _ (List.mem_of_getElem? (i := 803) (by decide +kernel)))) (hts _ (List.mem_append_right _ (List.mem_of_getElem? (i := 12) (by decide +kernel)))) vS hA
  refine ⟨(dC, dI, (fun i => match i with | 0 => cI | 1 => compB | 2 => compZ | 3 => cJ | 4 => cR | 5 => cBB | _ => cZZ), s.heap.size, tL, tS, b, L, xs), ⟨⟨fun c q hq => H c q hq, fun k q hq => ?_⟩, ?_, fun q hq => ?_, hZL, hTL, hZS, hTS, ⟨?_, ⟨kBB, b3, b4⟩, kZZ, z3, z4⟩, ?_, ?_⟩, rfl, rfl, rfl, rfl⟩
  · match k, hq with
    | 0, hq => cases hq; exact ⟨acI, ncI⟩
    | 1, hq => cases hq; exact ⟨acB, ncB⟩
    | 2, hq => cases hq; exact ⟨acZ, ncZ⟩
    | 3, hq => cases hq; exact ⟨acJ, ncJ⟩
    | 4, hq => cases hq; exact ⟨fun n z => ⟨fun k h => (by cases h), kR, r3, compR, r4⟩, kR, compR, r3, r4, r1, r5⟩
    | 5, hq => cases hq; exact ⟨fun n z => ⟨fun k h => (by cases h), kBB, b3, compB, b4⟩, b5⟩
    | 6, hq => cases hq; exact ⟨fun n z => ⟨fun k h => (by cases h), kZZ, z3, compZ, z4⟩, z5⟩
  · show 1 ≤ s.heap.size
    omega
  · have := List.all_eq_true.mp ob_nest_ok q hq
    exact va_Nw.of rfl (hts _ (List.mem_append_right _ (of_decide_eq_true this)))
  · exact va_AO.of (hts (Cond.arrayOver (.object "OrbitBox$Row")) (List.mem_append_right _ (List.mem_of_getElem? (i := 93) (by decide +kernel))))
  · obtain ⟨scr, h1, h2, h3, h4, h5⟩ := hX
    exact ⟨scr, h1, h2, h3, by rw [h4]; exact Nat.le_refl _, by rw [h4], h5, hA b hb⟩
  · exact ⟨va_Nw.of rfl (hts _ (List.mem_append_right _ (List.mem_of_getElem? (i := 1002) (by decide +kernel)))), va_Nw.of rfl (hts _ (List.mem_append_right _ (List.mem_of_getElem? (i := 1004) (by decide +kernel)))), va_Nw.of rfl (hts _ (List.mem_append_right _ (List.mem_of_getElem? (i := 1006) (by decide +kernel)))), va_Nw.of rfl (hts (Cond.castable ob_nse ob_nse) (List.mem_append_right _ (List.mem_of_getElem? (i := 1001) (by decide +kernel)))), ob_lsof (hts _ (List.mem_append_right _ (List.mem_of_getElem? (i := 1026) (by decide +kernel)))) (hs _ (by decide +kernel)) hA, ob_lsof (hts _ (List.mem_append_right _ (List.mem_of_getElem? (i := 1028) (by decide +kernel)))) (hs _ (by decide +kernel)) hA⟩
theorem ob_start (hP : ob_Pure 3077) {p : Program} {e : Env} {s : State} {m : MethodId} {below : List Frame} {meth : Method} {c : Code} {l : Launch} (hl0 : ob_nt l) {b L : Nat} {xs : Nat → Int32} (hL : L ≤ 3077) (C0 : lw_At p s m meth c b L xs) (hnm : meth.name = "law" ∧ s.methodNamed? ⟨"OrbitBoxLaw", "law", "([I)Z"⟩ = some m) : W p l e room_1 s m #[Value.ref b] below meth c s.heap [] 0 0 (lw_Z below #[Value.ref b] s) (entryFrame m ([Value.ref b] : List Value).toArray 7) := by
  obtain ⟨hx, hcd, hr, hml, hown, hts, hX, hbl, hlk, hgv⟩ := C0
  obtain ⟨E, hC, e1, e2, e3, e4⟩ := ob_env hts hX hbl hgv
  obtain ⟨Tf, D', hf, c1, c2⟩ := hP E (by rw [e3]; exact hL) (by rw [e1]; omega)
  have hcap : ob_ext Tf (Tf.1, Tf.2.1, s.heap.size + room_1.cells, room_1.slots) := ⟨by rw [← e1]; exact c1, c2, fun _ _ => ⟨rfl, rfl⟩⟩
  have v := v_law hl0 hcap hf
  have hl := lv_entry ([.ref b] : List Value) (n := 7) (Nat.le_of_ble_eq_true rfl)
  rw [lg_entry_eq]
  have hH : ob_H E (ob_S0 E.2.2.2.1) ob_D0 s.heap := ⟨e1.symm, Nat.le_refl _, fun _ _ => rfl, fun _ h => absurd rfl h, fun _ _ h => absurd rfl h, fun _ c _ h => absurd (show (0 : Nat) = c + 1 from h) (by omega), fun _ i h => absurd (show (0 : Nat) = 20 + i from h) (by omega), fun _ _ => ⟨fun h => absurd (show (0 : Nat) = _ from h) (by decide), fun h => absurd (show (0 : Nat) = _ from h) (by decide)⟩⟩
  have w := v p e room_1 s m #[Value.ref b] below meth c s.heap [] 0 0 0 _ hx hcd hml hr hlk hnm hown (fun w hw => hts w (List.mem_filter.mp hw).1) hC hH va_S.rf (by rw [e2]; exact hl) (Nat.le_refl _) (Nat.le_refl _) (by rw [e1.symm]; rfl) rfl rfl rfl
  intro X0 hT X
  obtain ⟨t, a1, b1⟩ := w X0 hT X
  exact ⟨t, a1, by
    have := b1 (by rw [e1]; exact Nat.le_refl _) rfl (by rw [e2])
    rw [e2] at this
    exact this⟩
theorem lw_pre_spec {args : Array Value} {s : State} (h : (Jvm.Cond.and given_1 narrow_1).before args s = true) (hr : rest_1_c.before args s = true) : ∃ (b : Addr) (xs : List Int32), lw_P b xs args s := by
  have hs := flat_of_before _ h
  have hq := flat_of_before _ hr
  have hc : (Cond.count 1).before args s = true := hs _ (by decide +kernel)
  have harr : (Cond.arrayOf (.arg 0) .int).before args s = true := hs _ (by decide +kernel)
  have hle : (Cond.le (.length (.arg 0)) (.int 3077)).before args s = true := hs _ (by decide +kernel)
  have hlen : (Cond.isInt (.length (.arg 0))).before args s = true := hq _ (by decide +kernel)
  have hall : (Cond.all (.arg 0) (.isInt (.elem (.arg 0) (.index 0)))).before args s = true := hq _ (by decide +kernel)
  obtain ⟨b, xs, hb, hx⟩ := State.ints_of_pre rfl harr hlen hall
  have hsm : xs.length < 2 ^ 31 := hx.choose_spec.2.2.2
  have hev : (Term.length (.arg 0)).eval args s none [] s = some (.int xs.length.toInt32) := hx.length_eval hb
  have hv := Cond.le_ints hev (show (Term.int 3077).eval args s none [] s = some (.int 3077) from rfl)
  have hd : xs.length.toInt32 ≤ 3077 := by
    simpa [Cond.before, Cond.holds, hv] using hle
  have hN : xs.length ≤ 3077 := (Int32.ofNat_le_ofNat hsm (by decide)).mp (show Int32.ofNat xs.length ≤ Int32.ofNat 3077 from hd)
  exact ⟨b, xs, Cond.one_arg hc (show args[0]? = some (.ref b) from hb), hx, hN, h⟩
theorem lw_frame {s t : State} {o : Outcome} {args : Array Value} (h : Framed s o t [] room_1.cells room_1.slots) :
    Framed s o t (fieldLocs frame_1_writes args s ++ arrayLocs frame_1_arrays args s ++ staticLocs frame_1_statics s) room_1.cells room_1.slots := h
theorem ob_walk (hP : ob_Pure 3077) {l : Launch} (hl0 : ob_nt l) (b : Addr) (xs : List Int32) : MetFree l x (headSpec (Jvm.Cond.code x code maxLocals ret :: tables_1) room_1) (lw_P b xs) (fun _ _ _ _ _ => True) lw_Q := by
  refine MetFree.of_bodyS (code := code) (maxLocals := maxLocals) (ret := ret) (by decide) ?_ ?_
  · intro args s m h hn
    obtain ⟨meth, c, h1, h2, h3, h4, h5, h6, -, -⟩ := Cond.code_spec hn (atoms_spec (ws := Jvm.Cond.code x code maxLocals ret :: tables_1) h _ List.mem_cons_self)
    exact ⟨meth, c, h1, h2, h3, h4, h5, h6⟩
  · intro p e s m args below meth c s₁ B hml0 hPp _
    obtain ⟨rfl, hx, hbd, hgv⟩ := hPp
    obtain ⟨scr, harrAt, hlist, hof, hsmall⟩ := hx
    obtain ⟨hcb, hkn, -, -⟩ := State.arrayAt?_spec harrAt
    have hown : s.vm.findClass R_law = some m.cls := findClass_of_methodNamed B.named
    have hts0 : ∀ c ∈ (Jvm.Cond.code x code maxLocals ret :: tables_1), c.before #[Value.ref b] s = true := atoms_spec (ws := Jvm.Cond.code x code maxLocals ret :: tables_1) B.pre
    have hts : ∀ w ∈ lw_tbl, w.before #[Value.ref b] s = true := k2_hts_sels lw_privs (fun w hw => hts0 w (List.mem_cons_of_mem _ hw)) lw_privs_ok
    have hml : c.maxLocals = 7 := B.maxLocals_eq (hts0 _ List.mem_cons_self)
    have X₀ : Stand p l e room_1 s m #[Value.ref b] below meth c s₁ [] 0 0 := Stand.of_body B
    have hh0 : s₁.heap = s.heap := by rw [B.state]; rfl
    have hsz : scr.slots.size = xs.length := by rw [← Array.length_toList, hlist, List.length_map]
    have hval : ∀ j : Nat, j < xs.length → scr.slots[j]? = some (.int (xs.getD j 0)) := fun j hj => by
      rw [← Array.getElem?_toList, hlist]
      simp [hj]
    have hbl : b < s.heap.size := (Array.getElem?_eq_some_iff.mp hcb).1
    have hX : va_X b xs.length (fun j => xs.getD j 0) s s.heap := ⟨scr, hcb, hof, hkn, hsz, hval⟩
    have K : W p l e room_1 s m #[Value.ref b] below meth c s₁.heap [] 0 0 (lw_Z below #[Value.ref b] s) (entryFrame m ([Value.ref b] : List Value).toArray 7) := by
      rw [hh0]
      exact ob_start hP hl0 hbd ⟨B.exec, B.bytes, B.returns, hml, hown, hts, hX, hbl, B.notSynchronized, hgv⟩ ⟨(name_of_methodNamed B.named B.method).1, B.named⟩
    obtain ⟨t, a1, o, b1, b2, b3⟩ := K s₁ rfl X₀
    exact ⟨t, o, a1, b1, b2, b3⟩
theorem ob_comes (hP : ob_Pure 3077) {l : Launch} (hl0 : ob_nt l) : Comes l x (Jvm.Cond.code x code maxLocals ret :: tables_1) room_1 (fun tb e args s => Calls_1 tb e args s ∧ rest_1 tb e args s ∧ Pre_1 tb e args s)
    (fun _ _ args s o t => lw_Q args s o t) := by
  intro p e ha hc hk s m args below hf hfit hheap happ hpre
  obtain ⟨b, xs, hPp⟩ := lw_pre_spec hpre.2.2 hpre.2.1
  obtain ⟨k, o, h1, h2, h3, hQ⟩ := ob_walk hP hl0 b xs p e ha hc hk s m args below hf ((Spec.applies_iff_loose hf).mp happ).1 hPp trivial
  exact ⟨k, o, h1, h2, h3, hQ⟩
theorem ob_ntof {l : Launch} (h : l.flags = flags0) : ob_nt l := by
  intro e ha
  have hp := ha.2.2.2.2.1
  rw [hp]
  show l.stackTraces = false
  unfold Launch.stackTraces
  rw [h]
  decide +kernel
theorem ob_limb (hP : ob_Pure 3077) (L : Cond) (hL : ∀ (args : Array Value) (s t : State), L.after args s (.returned (some (.int 1))) t = true) :
    ArmFor flags0 classFile x code maxLocals ret World_1 tables_1 room_1 Calls_1 rest_1 Pre_1
      (fun tb e a s o t => postC L tb e a s o t ∧ Framed s o t (fieldLocs frame_1_writes a s ++ arrayLocs frame_1_arrays a s ++ staticLocs frame_1_statics s) room_1.cells room_1.slots) := by
  intro l hfl _ _ p e ha hc hk s m args below hf hfit hheap happ hpre
  obtain ⟨k, o, h1, h2, h3, rfl, hF⟩ := ob_comes hP (ob_ntof hfl) p e ha hc hk s m args below hf hfit hheap happ hpre
  exact ⟨k, _, h1, h2, h3, hL args s _, lw_frame hF⟩
theorem ob_claim (hP : ob_Pure 3077) : Claimed_1_1 ∧ Claimed_1_2 := ⟨ob_limb hP limb_1_1 (fun args s t => by simp [limb_1_1, Cond.after, Cond.holds, Cond.value]), ob_limb hP limb_1_2 (fun args s t => Cond.after_iff.mpr (by
  first | (rw [show limb_1_2 = Cond.eq .result (.int 1) from rfl, Cond.eq_ints (x := 1) (y := 1) rfl rfl]; simp; done) | (simp [limb_1_2, Cond.value, Term.eval]; done)))⟩
