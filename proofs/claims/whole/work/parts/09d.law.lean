-- ===== a call that throws, caught here; methods with a table; calls of them =====
def ob_hw (K : ob_K) (x : Nat × Nat × Nat × Nat) : Cond := Cond.codeWith K.2.1 K.2.2.1 K.2.2.2.1 K.2.2.2.2.1 [x]
def ob_wsW (K : ob_K) (x : Nat × Nat × Nat × Nat) : List Cond := ob_hw K x :: ob_g
def ob_MW (l : Launch) (E : ob_E) (K : ob_K) (x : Nat × Nat × Nat × Nat) (av : List Value) (S : ob_S) (D : ob_D) (r : Option Value) (T : ob_S) (D' : ob_D) : Prop :=
  Met l K.2.1 (ob_wsW K x) (ob_rm K S T) (ob_P E av S D) (ob_Q E r T D') (T.2.2.1 - S.2.2.1) (T.2.2.2 - S.2.2.2) (ob_A E)
theorem ob_nseI : Cond.instantiable ob_nse 6 ∈ ob_g := ob_w 1000 (by decide +kernel) (by decide +kernel)
section OB11
variable {l : Launch} {E : ob_E} {K K2 : ob_K} {pc q : Nat} {lo : List (Nat × Value)} {st rest : List Value} {S T S2 : ob_S} {D D' D2 : ob_D} {Z : ob_Z} {r r2 : Option Value}
theorem ob_ofVW {x : Nat × Nat × Nat × Nat} {av : List Value} (hp : plainName K.2.1.cls = true) (hcl : K.2.1.cls = K.1) (hn : (lg_sl av).length ≤ K.2.2.2.1) (hlo : lv_args 0 av = lo) (h1 : S.2.2.1 ≤ T.2.2.1) (h2 : S.2.2.2 ≤ T.2.2.2) (v : ob_V l E K 0 lo [] S D r T D') : ob_MW l E K x av S D r T D' := by
  refine va_MetW (cc := K.2.2.1) (maxL := K.2.2.2.1) (ret := K.2.2.2.2.1) (hh := [x]) hp rfl ?_
  intro p e s m args below meth c s₁ B hml hv
  obtain ⟨rfl, hC, hH⟩ := hv
  have hts := atoms_spec (ws := ob_wsW K x) B.pre
  have hl := lv_entry av hn
  rw [hlo] at hl
  rw [lg_entry_eq]
  have hfc : s.vm.findClass K.1 = some m.cls := by rw [← hcl]; exact findClass_of_methodNamed B.named
  have hh : s.heap.size = S.2.2.1 := hH.1
  exact v p e (ob_rm K S T) s m av.toArray below meth c s.heap [] 0 0 S.2.2.2 _ B.exec B.bytes hml B.returns B.notSynchronized ⟨(name_of_methodNamed B.named B.method).1, B.named⟩ hfc (fun w hw => hts w (List.mem_cons_of_mem _ hw)) hC hH va_S.rf hl (Nat.le_refl _) (Nat.le_refl _) (by rw [hh]; rfl) rfl (by rw [hh]; show S.2.2.1 + (T.2.2.1 - S.2.2.1) = T.2.2.1; omega) (by show S.2.2.2 + (T.2.2.2 - S.2.2.2) = T.2.2.2; omega)
/-- a static call of a method with a table -/
def ob_swd (K K2 : ob_K) (x : Nat × Nat × Nat × Nat) (idx n : Nat) : Prop := ob_hw K2 x ∈ ob_g ∧ ob_yd K2 n ∧ Cond.methodLink K.1 idx K2.2.1 ∈ ob_g ∧ Cond.static K2.2.1 ∈ ob_g ∧ Cond.initialized K2.2.1.cls ∈ ob_g ∧ ob_fit K K2
theorem ob_callSW {x : Nat × Nat × Nat × Nat} {idx n : Nat} {As : List Value} {y : Int32} (d : ob_dc K pc (.invokestatic idx) 3 q) (F : ob_swd K K2 x idx n) (hn : As.length = n) (hst : st = As.reverse ++ rest) (hw : (rest.map fun v => v.category).sum ≤ 8) (hM : ob_MW l E K2 x As S D (some (.int y)) S2 D2) (m1 : S.2.2.1 ≤ S2.2.2.1 ∧ S.2.2.2 ≤ S2.2.2.2) (m2 : S2.2.2.1 ≤ T.2.2.1 ∧ S2.2.2.2 ≤ T.2.2.2)
    (kk : ob_G l E K q lo (.int y :: rest) S2 D2 Z T) : ob_G l E K pc lo st S D Z T := by
  obtain ⟨d1, rfl⟩ := d
  obtain ⟨w1, w2, w3, w4, w5, w8⟩ := F
  intro p e R s m args below meth cd H locs cells slots s0 ls hx hb hml hr hlk hnm hown hts hC hH hS hl hfr hlo h1 h2 h3 h4
  have hgd : GoodIn ob_g (ob_wsW K2 x) := fun w hw => by
    rcases List.mem_cons.mp hw with rfl | hw
    · exact ⟨w1, ob_good _ w1⟩
    · exact ⟨hw, ob_good _ hw⟩
  have hB : Back l R p e below s args K2.2.1 3 8 (PreOf R (S2.2.2.1 - S.2.2.1) (S2.2.2.2 - S.2.2.2) (ob_P E As S D)) (PostOf (ob_Q E (some (.int y)) S2 D2) (S2.2.2.1 - S.2.2.1) (S2.2.2.2 - S.2.2.2) (ob_A E)) :=
    va_backW (bytes := K2.2.2.1) (maxL := K2.2.2.2.1) (ret := K2.2.2.2.2.1) (hh := [x]) hM ob_P.blind rfl rfl (Nat.le_trans w8.1 hfr) (Nat.le_trans w8.2 hlo) (pay_in hts hgd) List.mem_cons_self (fun a' U hW => word_at hW (ob_good _ w5) (hts _ w5))
  refine ob_run (r2 := some (.int y)) (mc := S2.2.2.1 - S.2.2.1) (ms := S2.2.2.2 - S.2.2.2) (a := As.toArray) ?_ hS fun H1 locs1 g1 g2 => kk p e R s m args below meth cd H1 locs1 _ _ s0 ls hx hb hml hr hlk hnm hown hts hC g1 g2 hl hfr hlo (by omega) (by omega) h3 h4
  intro X0 hT X
  obtain ⟨mk, methM, cM, hnamed, hmethM, -, -, -, -, -, -, hsigM⟩ := Cond.codeWith_spec (hts _ w1)
  have hstatic : methM.isStatic = true := Cond.static_spec hnamed hmethM (hts _ w4)
  obtain ⟨kP, hkP, -⟩ := className_of_methodNamed hnamed
  have hinitP : kP.init = .initialized := Cond.initialized_spec (findClass_of_methodNamed hnamed) hkP (hts _ w5)
  have hlen : As.length = methM.sig.parameters.length := by
    have h2' := w2.2.2
    rw [hsigM] at h2'
    rw [hn]
    exact (Option.some.inj h2').symm
  obtain ⟨vm₁, X₁, hstep₁⟩ := X.invokestatic hx hown (hts _ w3) hnamed hmethM hstatic hkP hinitP ⟨w2.1, w2.2.1⟩ (g := F0 m pc ls st) rfl (argsL := As) (rest := rest) hlen hst (by rw [hb]; exact d1)
  have hCU : ob_C E (X0.setVm vm₁) := hC.next X₁.warmed (by show va_S (ob_A E) s.heap X0.heap locs; rw [hT]; exact hS)
  obtain ⟨v, ⟨U', l2, c2, s2⟩, X', ⟨g', mk2, t, L, e1, e2, hq, k1, hL, k2, k3⟩, hsteps⟩ := hB m meth cd ⟨X0.setVm vm₁, locs, cells, slots⟩ { F0 m pc ls st with stack := rest } (.invokestatic idx) mk As.toArray X₁ rfl (by rw [hml]; exact hl.1) (by rw [hb]; exact d1) (lv_room hw) (X₁.named hnamed) ⟨by show cells + _ ≤ _; omega, by show slots + _ ≤ _; omega, rfl, hCU, by show ob_H E S D X0.heap; rw [hT]; exact hH⟩
  dsimp only [Pt.U, Pt.locs, Pt.cells, Pt.slots] at X' e1 e2 k1 k2 k3 hsteps
  subst k1; subst k2; subst k3
  exact ⟨v, (X0.setVm vm₁).calling g' mk2 As.toArray, t, U', L, hT, X', hL, e1, e2, hq, fun tg h => hstep₁ _ fun acts => by rw [doInvoke_state]; exact hsteps.trans h⟩
/-- a virtual call that throws, caught in this method -/
theorem ob_callT {idx n c b s1 e1 hpc ct : Nat} {As : List Value} (d : ob_dc K pc (.invokevirtual idx) 3 q) (F : ob_vd K K2 idx n c) (ha : S.1 b = c + 1) (hn : As.length = n) (hst : st = As.reverse ++ .ref b :: rest) (hw : (rest.map fun v => v.category).sum ≤ 8) (hM : ob_MT l E K2 (.ref b :: As) S D) (hH0 : ob_hw K (s1, e1, hpc, ct) ∈ ob_g) (hcov : s1 ≤ pc ∧ pc < e1) (hct : ct ≠ 0) (hlk0 : Cond.classLink K.1 ct ob_nse ∈ ob_g) (m2 : S.2.2.1 + 1 ≤ T.2.2.1 ∧ S.2.2.2 + 6 ≤ T.2.2.2)
    (kk : ∀ x : Nat, ob_G l E K hpc lo [.ref x] (ob_new S 0 0 6) D Z T) : ob_G l E K pc lo st S D Z T := by
  obtain ⟨d1, rfl⟩ := d
  obtain ⟨w1, w2, w3, w4, w5, w6, ⟨U, N, hc⟩, w8⟩ := F
  intro p e R s m args below meth cd H locs cells slots s0 ls hx hb hml hr hlk hnm hown hts hC hH hS hl hfr hlo h1 h2 h3 h4
  intro X0 hT X
  obtain ⟨cellB, q1, q2, q3, -⟩ := hH.2.2.2.2.2.1 b c _ ha hc
  obtain ⟨mk, methM, hnamed, hmethM, hstM, habM⟩ := Cond.instanceMethod_spec (hts _ w4)
  obtain ⟨methM', cM, hmethM', hcodeM, -, hlocM, -, -, -, hsigM⟩ := Cond.code_spec hnamed (hts _ w1)
  cases hmethM.symm.trans hmethM'
  obtain ⟨c2, r2, m2', p1, p2, p3, p4, kP, hkP, hkPi⟩ := Cond.selects_spec (hts _ w5)
  have hcB : s.vm.findClass K2.2.1.cls = some cellB.cls := by rw [q2]; exact (hC.1.1 c _ hc).2.1
  cases hcB.symm.trans p1
  cases (State.methodFound?_of_named hnamed ⟨w2.1, w2.2.1⟩).symm.trans p2
  cases hnamed.symm.trans p3
  have hselP : selectMethod e.platform s.vm cellB.cls mk = .method mk := by rw [Launch.admits_selectMethod X.admits]; exact p4
  have hlen : As.length = methM.sig.parameters.length := by
    have h2' := w2.2.2
    rw [hsigM] at h2'
    rw [hn]
    exact (Option.some.inj h2').symm
  obtain ⟨vm₁, X₁, hstep₁⟩ := X.invokevirtual hx hown (hts _ w3) hnamed hmethM hstM hkP hkPi ⟨w2.1, w2.2.1⟩ (a := b) (cell := cellB) (by rw [hT]; exact q1) (fun z h => by rw [q3] at h; cases h) hselP hmethM habM hkP hkPi (g := F0 m pc ls st) rfl (argsL := As) (rest := rest) hlen hst (by rw [hb]; exact d1)
  have hCU : ob_C E (X0.setVm vm₁) := hC.next X₁.warmed (by show va_S (ob_A E) s.heap X0.heap locs; rw [hT]; exact hS)
  have hnU := X₁.named hnamed
  have hal := X₁.warmed.alike
  obtain ⟨kQ, hkQ, -⟩ := className_of_methodNamed hnamed
  have hinQ : kQ.init = .initialized := Cond.initialized_spec (findClass_of_methodNamed hnamed) hkQ (hts _ w6)
  obtain ⟨kU, hkU, heU⟩ := hal.2.2 _ _ hkQ
  have hmU : (X0.setVm vm₁).vm.method? mk = some methM := by rw [hal.method?]; exact hmethM
  have hPre : ob_P E (.ref b :: As) S D (Value.ref b :: As).toArray ((X0.setVm vm₁).calling { F0 m pc ls st with stack := rest } mk (Value.ref b :: As).toArray) := ob_P.blind _ _ _ _ ⟨rfl, hCU, by show ob_H E S D X0.heap; rw [hT]; exact hH⟩
  have hwds : (headSpec (ob_ws K2) (ob_tm K2)).pre.before (Value.ref b :: As).toArray (X0.setVm vm₁) = true := atoms_intro fun w hw' => pay_in hts (ob_goodK w1) w hw' _ _ X₁.warmed
  have hat : At (X0.setVm vm₁) m cd below := X₁.here
  have happ : (headSpec (ob_ws K2) (ob_tm K2)).appliesLoose K2.2.1 e.platform ((X0.setVm vm₁).calling { F0 m pc ls st with stack := rest } mk (Value.ref b :: As).toArray) = true :=
    Spec.appliesLoose_calling (g := { F0 m pc ls st with stack := rest }) hat (by rw [hb]; exact d1) hnU hkU (by rw [heU]; exact hinQ)
      (X₁.room_calling (g := { F0 m pc ls st with stack := rest }) (R' := ob_tm K2) (by rw [hml]; exact hl.1) hmU hcodeM (Nat.le_trans w8.1 hfr) (by rw [hlocM]; have h8 := w8.2; show 2 * 0 + (rest.map fun v => v.category).sum + (K2.2.2.2.1 + 11) + K2.2.2.2.2.2.2 ≤ R.locals; omega) (by show cells + 1 ≤ R.cells; omega) (by show slots + 6 ≤ R.slots; omega)) hwds
  obtain ⟨mid, hmid⟩ := hat.above
  have hfr2 : ((X0.setVm vm₁).setTop { F0 m pc ls st with stack := rest }).frames = (.java { F0 m pc ls st with stack := rest } :: mid) ++ below := by rw [State.frames_setTop' _ hat.top, hmid]; rfl
  obtain ⟨o, s₂, hsteps, -, hend, hq⟩ := Steps.callFree hM p X₁.admits X₁.cas X₁.clock (acts := []) hfr2 happ hPre trivial
  obtain ⟨x, ce, L, rfl, z1, z2, z3, z4, z5, z6, z7, z8⟩ := hq
  have hfrX : ((X0.setVm vm₁).setTop { F0 m pc ls st with stack := rest }).frames = .java { F0 m pc ls st with stack := rest } :: below := by
    rw [State.frames_setTop' _ hat.top]; congr 1; exact X₁.tail
  rw [hfrX] at hend
  obtain ⟨T', XT, t1, t2, t3⟩ := X₁.outOfThrown (g := { F0 m pc ls st with stack := rest }) rfl hend z1 z2
  have hheap : s₂.heap = T'.heap := by rw [t3]; exact Stand.throwing_heap _ _ _
  obtain ⟨mW, methW, cW, v1, v2, v3, -, -, v6, -⟩ := Cond.codeWith_spec (hts _ hH0)
  cases hnm.2.symm.trans v1
  cases v2.symm.trans X.method
  cases v3.symm.trans X.code
  have hone : ∃ y, cd.exceptionTable.toList = [y] ∧ (y.startPc, y.endPc, y.handlerPc, y.catchType) = (s1, e1, hpc, ct) := by
    match hL : cd.exceptionTable.toList, v6 with
    | [y], v6 => exact ⟨y, rfl, by simpa using v6⟩
  obtain ⟨y, hy1, hy2⟩ := hone
  simp only [Prod.mk.injEq] at hy2
  obtain ⟨ya, yb, yc, yd⟩ := hy2
  have hcls : s.vm.findClass ob_nse = some ce.cls := by
    have z8' : (X0.setVm vm₁).vm.findClass ob_nse = some ce.cls := z8
    rw [hal.findClass] at z8'
    exact z8'
  obtain ⟨ca, cb, y1, y2, y3⟩ := Cond.castable_spec (hC.2.2.2.2.2.2.2.2.2.2.2.2.1.use rfl : (Cond.castable ob_nse ob_nse).before args s = true)
  cases hcls.symm.trans y1
  cases hcls.symm.trans y2
  obtain ⟨kc, hkc⟩ : ∃ k, s.vm.classes[ce.cls]? = some k := by
    obtain ⟨cc2, kk2, b1, b2, -⟩ := Cond.instantiable_spec (hts (Cond.instantiable ob_nse 6) ob_nseI)
    cases hcls.symm.trans b1
    exact ⟨_, b2⟩
  obtain ⟨vm', XC, stC⟩ := ob_caught XT (a := x) (g := { F0 m pc ls st with stack := rest }) rfl hown hy1 (by simp only [covers, ya, yb, Bool.and_eq_true, decide_eq_true_eq]; exact hcov) (by rw [yd]; exact hct) (by rw [yd]; exact hts _ hlk0) hcls (cell := ce) (by rw [← hheap]; exact z6) z7 ⟨kc, hkc⟩ y3
  have hHT : ob_H E (ob_new S 0 0 6) D T'.heap := by rw [← hheap]; exact z4
  have hz5 : va_F (ob_A E) (X0.setVm vm₁) s₂ := z5
  have hST : va_S (ob_A E) s.heap T'.heap (locs ++ L) := by
    refine ⟨Nat.le_trans hS.1 (by rw [← hheap, ← hT]; exact hz5.1), fun q' g1 g2 => ?_, fun q' hq' => ?_⟩
    · rw [← hheap, hz5.2 q' (by show q' < X0.heap.size; rw [hT]; exact Nat.lt_of_lt_of_le g1 hS.1) g2]
      show X0.heap[q']? = _
      rw [hT]
      exact hS.2.1 q' g1 g2
    · rcases List.mem_append.mp hq' with h | h
      · exact hS.2.2 q' h
      · exact z3 q' h
  obtain ⟨tf, a1, b1⟩ := kk x p e R s m args below meth cd T'.heap (locs ++ L) (cells + 1) (slots + 6) s0 ls hx hb hml hr hlk hnm hown hts hC hHT hST hl hfr hlo (by show _ = S.2.2.1 + 1; omega) (by show _ = S.2.2.2 + 6; omega) h3 h4 (T'.setVm vm') rfl XC
  refine ⟨tf, hstep₁ _ fun acts => ?_, b1⟩
  rw [doInvoke_state]
  refine hsteps.trans ?_
  rw [t3]
  refine stC tf ?_
  rw [yc]
  exact a1
end OB11
