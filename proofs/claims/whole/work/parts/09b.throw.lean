section OB9
variable {l : Launch} {E : ob_E} {K K2 : ob_K} {pc q : Nat} {lo lo2 : List (Nat × Value)} {st st2 rest : List Value} {S T : ob_S} {D : ob_D} {Z : ob_Z}
theorem ob_br0 {ct cf : Prop} {t : Nat} (h : ∀ {p : Program} {e : Env} {R : Room} {s : State} {m : MethodId} {args : Array Value} {below : List Frame} {meth : Method} {c : Code} {H : Heap} {locs : List Loc} {cells slots : Nat} {Q : State → Prop} {ls : Array Slot}, p.tables.exec = Jvm.exec → c.code = K.2.2.1 → (ct → W p l e R s m args below meth c H locs cells slots Q (F0 m t ls rest)) → (cf → W p l e R s m args below meth c H locs cells slots Q (F0 m q ls rest)) → W p l e R s m args below meth c H locs cells slots Q (F0 m pc ls st))
    (kt : ct → ob_G0 l E K t lo rest S D) (kf : cf → ob_G0 l E K q lo rest S D) : ob_G0 l E K pc lo st S D :=
  fun p e R s m args below meth c ls hx hb hml hlk hnm hown hts hC hH hl hfr hlo h3 h4 => h hx hb (fun z => kt z p e R s m args below meth c ls hx hb hml hlk hnm hown hts hC hH hl hfr hlo h3 h4) (fun z => kf z p e R s m args below meth c ls hx hb hml hlk hnm hown hts hC hH hl hfr hlo h3 h4)
theorem ob_if_lt0 {x : Int32} {off : Int} {t : Nat} (d : ob_db K pc (.ifCond .lt off) off q t) (kt : x < 0 → ob_G0 l E K t lo rest S D) (kf : ¬ x < 0 → ob_G0 l E K q lo rest S D) : ob_G0 l E K pc lo (.int x :: rest) S D := by
  obtain ⟨d1, rfl, d2⟩ := d
  exact ob_br0 (fun hx hb a b => lv_if_lt hx hb d1 d2 a b) kt kf
theorem ob_icmp_ge0 {x y : Int32} {off : Int} {t : Nat} (d : ob_db K pc (.if_icmp .ge off) off q t) (kt : y ≤ x → ob_G0 l E K t lo rest S D) (kf : ¬ y ≤ x → ob_G0 l E K q lo rest S D) : ob_G0 l E K pc lo (.int y :: .int x :: rest) S D := by
  obtain ⟨d1, rfl, d2⟩ := d
  exact ob_br0 (fun hx hb a b => lv_icmp_ge hx hb d1 d2 a b) kt kf
theorem ob_icmp_lt0 {x y : Int32} {off : Int} {t : Nat} (d : ob_db K pc (.if_icmp .lt off) off q t) (kt : x < y → ob_G0 l E K t lo rest S D) (kf : ¬ x < y → ob_G0 l E K q lo rest S D) : ob_G0 l E K pc lo (.int y :: .int x :: rest) S D := by
  obtain ⟨d1, rfl, d2⟩ := d
  exact ob_br0 (fun hx hb a b => lv_icmp_lt hx hb d1 d2 a b) kt kf
theorem ob_icmp_le0 {x y : Int32} {off : Int} {t : Nat} (d : ob_db K pc (.if_icmp .le off) off q t) (kt : x ≤ y → ob_G0 l E K t lo rest S D) (kf : ¬ x ≤ y → ob_G0 l E K q lo rest S D) : ob_G0 l E K pc lo (.int y :: .int x :: rest) S D := by
  obtain ⟨d1, rfl, d2⟩ := d
  exact ob_br0 (fun hx hb a b => lv_icmp_le hx hb d1 d2 a b) kt kf
theorem ob_icmp_gt0 {x y : Int32} {off : Int} {t : Nat} (d : ob_db K pc (.if_icmp .gt off) off q t) (kt : y < x → ob_G0 l E K t lo rest S D) (kf : ¬ y < x → ob_G0 l E K q lo rest S D) : ob_G0 l E K pc lo (.int y :: .int x :: rest) S D := by
  obtain ⟨d1, rfl, d2⟩ := d
  exact ob_br0 (fun hx hb a b => lv_icmp_gt hx hb d1 d2 a b) kt kf
-- the atoms of the throw
def ob_thn : List String := ["java/lang/RuntimeException", "java/lang/Exception"]
def ob_ta : List Cond := Bundle.ownAtoms0 "OrbitBox" 171 ob_nse ob_thn
def ob_ts : List Cond := [.declares ⟨"java/lang/RuntimeException", "<init>", "()V"⟩, .declares ⟨"java/lang/Exception", "<init>", "()V"⟩, .declares ⟨"java/lang/Throwable", "<init>", "()V"⟩, .castable ob_nse ob_nse, .laysStatic "java/lang/Throwable" "UNASSIGNED_STACK" "[Ljava/lang/StackTraceElement;", .laysStatic "java/lang/Throwable" "SUPPRESSED_SENTINEL" "Ljava/util/List;", .isRef (.static "java/lang/Throwable" "UNASSIGNED_STACK" "[Ljava/lang/StackTraceElement;"), .isRef (.static "java/lang/Throwable" "SUPPRESSED_SENTINEL" "Ljava/util/List;")]
theorem ob_ta_ok : ob_ta.all (fun w => decide (w ∈ ob_ts) || (decide (w ∈ tables_1) && goodWord w)) = true := by decide +kernel
theorem ob_lsL {C n d : String} {A : Nat → Prop} {s : State} {args : Array Value} (h : ob_ls C n d A s s.heap) : (Cond.laysStatic C n d).before args s = true := by
  obtain ⟨c, k, i, f, a, cell, v, h0, h1, h2, h3, h4, h5, h6, h7, h8, -⟩ := h
  exact Cond.laysStatic_of h0 h1 h2 h3 h4 h5 h6 h7 h8
theorem ob_lsR {C n d : String} {A : Nat → Prop} {s : State} {args : Array Value} (h : ob_ls C n d A s s.heap) : (Cond.isRef (.static C n d)).before args s = true := by
  obtain ⟨c, k, i, f, a, cell, v, h0, h1, h2, h3, h4, h5, h6, h7, h8, h9, h10, h11⟩ := h
  have he : (Term.static C n d).eval args s none [] s = some v := by simp [Term.eval, State.fieldNamed?, h1, h2, h3, h4, h5, h9]
  cases v <;> simp_all [Cond.before, Cond.holds, Cond.value, Value.isRef]
theorem ob_ta_hold {s : State} {args : Array Value} (hts : ∀ w ∈ ob_g, w.before args s = true) (hC : ob_th (ob_A E) s s.heap) : ∀ w ∈ ob_ta, w.before args s = true := by
  intro w hw
  have h1 := List.all_eq_true.mp ob_ta_ok w hw
  simp only [Bool.or_eq_true, Bool.and_eq_true, decide_eq_true_eq] at h1
  rcases h1 with h1 | h1
  · obtain ⟨g1, g2, g3, g4, g5, g6⟩ := hC
    simp only [ob_ts, List.mem_cons, List.not_mem_nil, or_false] at h1
    rcases h1 with rfl | rfl | rfl | rfl | rfl | rfl | rfl | rfl
    · exact g1.use rfl
    · exact g2.use rfl
    · exact g3.use rfl
    · exact g4.use rfl
    · exact ob_lsL g5
    · exact ob_lsL g6
    · exact ob_lsR g5
    · exact ob_lsR g6
  · exact hts w (List.mem_filter.mpr ⟨List.mem_append_right _ h1.1, h1.2⟩)
/-- a cell of no kind of ours is there too -/
theorem ob_H.odd {H H1 : Heap} {n sl : Nat} (h : ob_H E S D H) (hz : H1.size = S.2.2.1 + 1) (oq : ∀ x : Nat, x < S.2.2.1 → H1[x]? = H[x]?) : ob_H E (ob_new S 0 n sl) D H1 := by
  obtain ⟨g1, g2, g3, g4, g5, g6, g7, g8⟩ := h
  have k1 : ∀ b : Nat, (ob_new S 0 n sl).1 b = S.1 b := fun b => by
    by_cases hb : b = S.2.2.1
    · subst hb; simp [ob_new, g3 S.2.2.1 (Nat.le_refl _)]
    · simp [ob_new, hb]
  have ol : ∀ b : Nat, S.1 b ≠ 0 → b < S.2.2.1 := fun b hb => Nat.not_le.mp fun z => hb (g3 b z)
  refine ⟨hz, by show E.2.2.2.1 ≤ S.2.2.1 + 1; omega, fun b hb => ?_, fun b hb => ?_, fun b k hb hk => ?_, fun b c q hb hq => ?_, fun b i hb hi => ?_, fun b j => ?_⟩
  · rw [k1]; exact g3 b (by have : S.2.2.1 + 1 ≤ b := hb; omega)
  · rw [k1] at hb; exact g4 b hb
  · rw [k1] at hb hk ⊢; rw [k1]; exact g5 b k hb hk
  · rw [k1] at hb
    exact (g6 b c q hb hq).kept (oq b (ol b (by omega)))
  · rw [k1] at hb
    have e2 : (ob_new S 0 n sl).2.1 b = S.2.1 b := by
      have : b ≠ S.2.2.1 := Nat.ne_of_lt (ol b (by omega))
      simp [ob_new, this]
    rw [oq b (ol b (by omega)), g7 b i hb hi, e2]
  · rw [k1]; exact g8 b j
theorem ob_sameN {s U : State} {k n : Nat} (h : s.sameButNew U [] k n) : ∀ x : Nat, x < s.heap.size → U.heap[x]? = s.heap[x]? := by
  intro x hx
  obtain ⟨c', h1, h2, h3, h4⟩ := h.2.2.2.2.2 x s.heap[x] (Array.getElem?_eq_getElem hx)
  have hs : c'.slots = s.heap[x].slots := Array.ext_getElem? (fun i => h4 i List.not_mem_nil)
  rw [h1, Array.getElem?_eq_getElem hx]
  congr 1
  rw [h2, hs]
theorem ob_throw {idx q1 q2 : Nat} (hl0 : ob_nt l) (d1 : ob_dc K pc (.new idx) 3 q1) (d2 : ob_dc K q1 .dup 1 q2) (d3 : decode K.2.2.1 q2 = .ok (.invokespecial 171, 3)) (d4 : decode K.2.2.1 (q2 + 3) = .ok (.athrow, 1)) (hK : K.1 = "OrbitBox") (L1 : Cond.classLink K.1 idx ob_nse ∈ ob_g) (L2 : Cond.instantiable ob_nse 6 ∈ ob_g) (L3 : Cond.initialized ob_nse ∈ ob_g) (L4 : ob_cw K) (hf : 6 ≤ K.2.2.2.2.2.1) (hw : 90 ≤ K.2.2.2.2.2.2) : ob_G0 l E K pc lo [] S D := by
  obtain ⟨d1, rfl⟩ := d1
  obtain ⟨d2, rfl⟩ := d2
  intro p e R s m args below meth cd ls hx hb hml hlk hnm hown hts hC hH hl hfr hlo h3 h4
  refine W.newc hx hb hown (hts _ L1) (hts _ L2) (hts _ L3) rfl d1 (by omega) (by omega) fun cC kC f1 f2 f3 f4 => ?_
  refine lv_dup hx hb d2 rfl ?_
  intro X0 hT X
  have htr := hl0 e X.admits
  obtain ⟨meth', c', g1, g2, -, -, -, -, g7, -⟩ := Cond.code_spec hnm (hts _ L4)
  cases g1.symm.trans X.method
  cases g2.symm.trans X.code
  have hcell : X0.heap[s.heap.size]? = some (freshCell cC kC) := by rw [hT]; simp
  obtain ⟨U, u1, u2, u3, u4, u5, ce, u6, u7⟩ := X.ctorThrow0 hx htr (own := "OrbitBox") (cls := ob_nse) (names := ob_thn) (ic := 171) (by rw [← hK]; exact hown) (by decide +kernel) (by decide +kernel) (ob_ta_hold hts hC.2.2.2.2.2.2.2.2.2) (fun x h => by cases h) (a := s.heap.size) f1 f2 hcell (Nat.le_refl _)
    (g := F0 m (pc + 3 + 1) ls [.ref s.heap.size, .ref s.heap.size]) rfl (by rw [hml]; exact hl.1) rfl rfl (rest := []) rfl (by rw [hb]; exact d3) (by rw [hb]; exact d4) (fun x h => by rw [Array.isEmpty_iff.mp g7] at h; cases h) (by show 2 + 3 < R.frames; omega) (by show 2 * 0 + 1 + (13 * (2 + 1) + 41) ≤ R.locals; omega) hlk
  refine ⟨U, u1, _, u2, u3, s.heap.size, ce, [], rfl, u4, ?_, fun _ h => (by cases h), ?_, ?_, u6, by rw [u7.vm]; rfl, u7.cls⟩
  · exact u5.mono (by omega) (by omega)
  · have hsz : s.heap.size = S.2.2.1 := hH.1
    have hlt : s.heap.size < U.heap.size := (Array.getElem?_eq_some_iff.mp u6).1
    have hle : U.heap.size ≤ s.heap.size + (0 + 1) := u5.2.2.1
    exact hH.odd (by omega) (fun x hx => ob_sameN u5 x (by omega))
  · exact ⟨u5.2.1, fun x hx _ => ob_sameN u5 x hx⟩
end OB9
