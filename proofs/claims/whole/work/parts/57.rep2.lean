-- ===== the class's reports: sending, dropping, retrieving =====
abbrev rpP (R : Nat) : Nat → Nat → Prop := fun y k => (y = R ∧ (k = 7 ∨ k = 11)) ∨ y = R + 1 ∨ y = R + 2
theorem rpc_old {S : ob_S} {D : ob_D} {R L w : Nat} {p : List Nat} {st : List (List Nat)} {rc : Nat} (hA : cRpA S D R L) (hS : cRpS S D R w (p :: st) rc) : ∃ D', f_Reports_dropOldest S R D = some D' ∧ cRpS S D' R w st (rc - 1) ∧ og (rpP R) D D' := by
  obtain ⟨a1, a2, a3, a4, a5, a6, a7, a8⟩ := hA
  obtain ⟨s1, s2, s3, s4, s5⟩ := hS
  obtain ⟨o1, o2, o3, o4⟩ := s5 p List.mem_cons_self
  have hb : ∀ q ∈ p :: st, ∀ x ∈ q, x < 256 := fun q hq => (s5 q hq).2.2.2
  have hl := s1.len
  have hlen : (rgs (p :: st)).length = p.length + tot st := by rw [rgs_len, tot_cons]
  have htk := tot_take (p :: st) rc
  rw [tot_cons] at htk
  have e1 : f_Ring_number S (R + 1) 4 2 D = some (N32 (nn p 4 2), D) := by
    have := rgN_number s1 (f := 4) (c := 2) (by omega)
    rw [rgs_mod hb, List.flatten_cons, nn_left _ _ _ _ (by omega)] at this
    exact this
  have e2 : N32 (nn p 4 2) + (7 : Int32) = N32 p.length := by rw [← o3]; exact nb_add _ 7
  obtain ⟨D8, q1, q2, q3⟩ := rgN_drop s1 (n := p.length) (by omega)
  have e3 : (rgs (p :: st)).drop p.length = rgs st := by rw [rgs_cons]; exact List.drop_left' (pkm_len p)
  rw [e3] at q2
  have g8 : og (rpP R) D D8 := q3.up2 (fun y k e => Or.inr (Or.inl e))
  have r7 : D8.1 R 7 = N32 (st.length + 1) := by rw [q3.2 R 7 (by omega), s2]; rfl
  have r11 : D8.1 R 11 = N32 (tot ((p :: st).take rc)) := by rw [q3.2 R 11 (by omega), s3]
  have e7 : D8.1 R 7 - 1 = N32 st.length := by rw [r7, show (1 : Int32) = N32 1 from rfl, nb_sub (by omega)]; rfl
  have e11 : (ob_pI D8 R 7 (N32 st.length)).1 R 11 = N32 (tot ((p :: st).take rc)) := by
    show (if R = R ∧ 11 = 7 then _ else D8.1 R 11) = _
    rw [if_neg (by omega), r11]
  have hrc : rc - 1 ≤ st.length := by rw [List.length_cons] at s4; omega
  have hv : (if tot ((p :: st).take rc) ≤ p.length then some (ob_pI (ob_pI D8 R 7 (N32 st.length)) R 11 (0 : Int32)) else some (ob_pI (ob_pI D8 R 7 (N32 st.length)) R 11 (N32 (tot ((p :: st).take rc)) - N32 p.length))) = some (ob_pI (ob_pI D8 R 7 (N32 st.length)) R 11 (N32 (tot (st.take (rc - 1))))) := by
    match rc with
    | 0 =>
      rw [if_pos (by rw [List.take_zero, tot_nil]; omega)]
      rfl
    | r + 1 =>
      rw [List.take_succ_cons, tot_cons, Nat.add_sub_cancel]
      by_cases hc : p.length + tot (st.take r) ≤ p.length
      · rw [if_pos hc, show tot (st.take r) = 0 by omega]
        rfl
      · rw [if_neg hc, nb_sub (by omega), Nat.add_sub_cancel_left]
  refine ⟨ob_pI (ob_pI D8 R 7 (N32 st.length)) R 11 (N32 (tot (st.take (rc - 1)))), ?_, ?_, ?_⟩
  · unfold f_Reports_dropOldest
    rw [a3, if_pos (by omega), e1]
    simp only [ob_bd]
    rw [a3, if_pos (by omega), e2, q1]
    simp only [ob_bv, ob_lt]
    rw [e7, e11, if_le (by omega) (by omega), hv]
  · have gB : og (fun y k => y = R ∧ (k = 7 ∨ k = 11)) D8 (ob_pI (ob_pI D8 R 7 (N32 st.length)) R 11 (N32 (tot (st.take (rc - 1))))) := (og.pI ⟨rfl, Or.inl rfl⟩).tr (og.pI ⟨rfl, Or.inr rfl⟩)
    refine ⟨rg_at.keep q2 gB (by omega) (by omega) rfl, ?_, ?_, hrc, fun q hq => s5 q (List.mem_cons_of_mem _ hq)⟩
    · show (if R = R ∧ 7 = 11 then _ else if R = R ∧ 7 = 7 then _ else _) = _
      rw [if_neg (by omega), if_pos ⟨rfl, rfl⟩]
    · show (if R = R ∧ 11 = 11 then _ else _) = _
      rw [if_pos ⟨rfl, rfl⟩]
  · exact g8.tr ((og.pI (Or.inl ⟨rfl, Or.inl rfl⟩)).tr (og.pI (Or.inl ⟨rfl, Or.inr rfl⟩)))
theorem rpc_put {S : ob_S} {D : ob_D} {R L w : Nat} {q : List Nat} {st : List (List Nat)} {rc : Nat} (hA : cRpA S D R L) (hS : cRpS S D R w st rc) (hq : rw_at S D (R + 3) (R + 4) 277 q) (ho : pk_ok q) (hr : tot st + q.length ≤ w) : ∃ D', f_Reports_send_L150 S R D = some D' ∧ cRpS S D' R w (st ++ [q]) rc ∧ og (rpP R) D D' := by
  obtain ⟨a1, a2, a3, a4, a5, a6, a7, a8⟩ := hA
  obtain ⟨s1, s2, s3, s4, s5⟩ := hS
  obtain ⟨D1, p1, p2, p3⟩ := rgN_pkt s1 hq (by omega)
  rw [rgs_len, if_pos hr, ← rgs_snoc] at p2
  have e7 : D1.1 R 7 + 1 = N32 (st ++ [q]).length := by
    rw [p3.2 R 7 (by omega), s2, List.length_append]
    exact nb_add _ 1
  refine ⟨ob_pI D1 R 7 (N32 (st ++ [q]).length), ?_, ⟨?_, ?_, ?_, ?_, ?_⟩, ?_⟩
  · unfold f_Reports_send_L150
    rw [a3, if_pos (by omega), a4, if_pos (by omega), p1]
    simp only [ob_bd, ob_lt]
    rw [e7]
  · exact rg_at.keep p2 (P := fun y k => y = R ∧ k = 7) (og.pI ⟨rfl, rfl⟩) (by omega) (by omega) rfl
  · show (if R = R ∧ 7 = 7 then _ else _) = _
    rw [if_pos ⟨rfl, rfl⟩]
  · show (if R = R ∧ 11 = 7 then _ else D1.1 R 11) = _
    rw [if_neg (by omega), p3.2 R 11 (by omega), s3, List.take_append_of_le_length s4]
  · rw [List.length_append]; omega
  · intro p hp
    rcases List.mem_append.mp hp with e | e
    · exact s5 p e
    · rw [List.mem_singleton.mp e]; exact ho
  · exact (p3.up2 (fun y k e => Or.inr e)).tr (og.pI (Or.inl ⟨rfl, Or.inl rfl⟩))
theorem rpc_fit {S : ob_S} {R L w : Nat} {q : List Nat} (ho : pk_ok q) (hw : q.length ≤ w) : ∀ (st : List (List Nat)) (n rc : Nat) (D : ob_D), st.length < n → cRpA S D R L → cRpS S D R w st rc → rw_at S D (R + 3) (R + 4) 277 q → ∃ D', f_Reports_send_L119 S n R (N32 st.length) D = some D' ∧ cRpS S D' R w ((rp_fit w q.length st rc).1 ++ [q]) (rp_fit w q.length st rc).2 ∧ og (rpP R) D D' := by
  intro st
  induction st with
  | nil =>
    intro n rc D hn hA hS hq
    match n, hn with
    | n + 1, _ =>
      obtain ⟨D1, p1, p2, p3⟩ := rpc_put hA hS hq ho (by rw [tot_nil]; omega)
      refine ⟨D1, ?_, p2, p3⟩
      rw [f_Reports_send_L119, if_pos (by decide)]
      exact p1
  | cons p st ih =>
    intro n rc D hn hA hS hq
    match n, hn with
    | n + 1, hn =>
      have hA0 := hA
      obtain ⟨a1, a2, a3, a4, a5, a6, a7, a8⟩ := hA
      have s1 := hS.1
      have hl := s1.len
      rw [rgs_len] at hl
      have hlen : (p :: st).length ≤ 6000 := by
        have : ∀ l : List (List Nat), (∀ p ∈ l, pk_ok p) → l.length * 19 ≤ tot l := by
          intro l
          induction l with
          | nil => intro _; exact Nat.le_refl _
          | cons x l ihl =>
            intro hx
            have h1 := ihl (fun p hp => hx p (List.mem_cons_of_mem _ hp))
            have h2 := (hx x List.mem_cons_self).1
            rw [tot_cons, List.length_cons]
            omega
        have := this _ hS.2.2.2.2
        omega
      rw [f_Reports_send_L119, show (0 : Int32) = N32 0 from rfl, if_neg (by rw [nb_le (by omega) (by decide), List.length_cons]; omega), a3, if_pos (by omega), a4, if_pos (by omega), hq.2.2.2.2.1, rgN_room s1 (by have := ho.2.1; omega), rgs_len]
      simp only [ob_bd]
      rw [show N32 0 = (0 : Int32) from rfl, if_bI]
      by_cases hc : tot (p :: st) + q.length ≤ w
      · rw [if_pos (by simpa using hc), rp_fit, if_pos hc]
        exact rpc_put hA0 hS hq ho hc
      · rw [if_neg (by simpa using hc), rp_fit, if_neg hc]
        obtain ⟨D1, p1, p2, p3⟩ := rpc_old hA0 hS
        obtain ⟨D2, q1, q2, q3⟩ := ih n (rc - 1) D1 (by rw [List.length_cons] at hn; omega) (hA0.keep p3 (by omega) rfl rfl) p2 (hq.keep p3 (by omega) (by omega) rfl)
        refine ⟨D2, ?_, q2, p3.tr q3⟩
        rw [p1]
        simp only [ob_bv]
        rw [List.length_cons, nb_m1]
        exact q1
theorem rpc_keep {S : ob_S} {D : ob_D} {R L w : Nat} {q : List Nat} {z : sRp} (h : cRp S D R L w z) (hq : rw_at S D (R + 3) (R + 4) 277 q) (ho : pk_ok q) (h7 : q.getD 7 0 < 32) : ∃ D', f_Reports_send_L68 S R D = some D' ∧ cRp S D' R L w (rp_keep w q z) ∧ og (rpP R) D D' := by
  obtain ⟨st, sd, md, all, lo, rt, fr, tt, rc⟩ := z
  obtain ⟨hA, hM, hS, hF⟩ := h
  have hA0 := hA
  obtain ⟨a1, a2, a3, a4, a5, a6, a7, a8⟩ := hA
  have e1 : f_Row_number S (R + 3) 7 1 D = some (N32 (q.getD 7 0), D) := by
    have := rw_num hq (f := 7) (c := 1) (by decide) (by decide)
    rw [nn_1] at this
    exact this
  have e2 : f_Reports_isService S (N32 (q.getD 7 0)) D = some (1, D) := by
    unfold f_Reports_isService
    rw [if_neg (by rw [nb_neg (by omega)]; exact id), if_neg (by rw [show (32 : Int32) = N32 32 from rfl, nb_le (by decide) (by omega)]; omega)]
  have e3 : D.1 (R + 5) (N32 (q.getD 7 0)).toNatClampNeg = bI (sd (q.getD 7 0)) := by rw [nb_clamp (by omega)]; exact hM.1 _ h7
  have hsl : st.length < ob_FU := by
    have hl := hS.1.len
    rw [rgs_len] at hl
    have : ∀ l : List (List Nat), (∀ p ∈ l, pk_ok p) → l.length * 19 ≤ tot l := by
      intro l
      induction l with
      | nil => intro _; exact Nat.le_refl _
      | cons x l ihl =>
        intro hx
        have h1 := ihl (fun p hp => hx p (List.mem_cons_of_mem _ hp))
        have h2 := (hx x List.mem_cons_self).1
        rw [tot_cons, List.length_cons]
        omega
    have := this _ hS.2.2.2.2
    rw [ob_FU_eq]
    omega
  unfold f_Reports_send_L68
  rw [a4, if_pos (by omega), e1]
  simp only [ob_bd]
  rw [e2]
  simp only [ob_bd]
  rw [if_neg (by decide), a5, if_pos (by omega), a7, if_pos (by rw [nb_in (by omega)]; exact h7), e3, if_bI]
  have ek : rp_keep w q (st, sd, md, all, lo, rt, fr, tt, rc) = if sd (q.getD 7 0) = true ∧ q.length ≤ w then ((rp_fit w q.length st rc).1 ++ [q], sd, md, all, lo, rt, fr, tt, (rp_fit w q.length st rc).2) else (st, sd, md, all, lo, rt, fr, tt, rc) := rfl
  rw [ek]
  by_cases hs : sd (q.getD 7 0) = true
  · rw [if_pos hs, a4, if_pos (by omega), a3, if_pos (by omega), hS.1.1, if_pos (by omega), hq.2.2.2.2.1, hS.1.2.2.2.1]
    have hcw := hS.1.2.2.2.2.2.1
    rw [if_le (by have := ho.2.1; omega) (by omega)]
    by_cases hw : q.length ≤ w
    · rw [if_pos hw, if_pos ⟨hs, hw⟩, hS.2.1]
      obtain ⟨D1, p1, p2, p3⟩ := rpc_fit ho hw st ob_FU rc D hsl hA0 hS hq
      exact ⟨D1, p1, ⟨hA0.keep p3 (by omega) rfl rfl, hM.keep p3 (by omega) (by omega), p2, hF.keep p3 (by omega) (by omega) (by omega) (by omega) (by omega)⟩, p3⟩
    · rw [if_neg hw, if_neg (fun e => hw e.2)]
      exact ⟨D, rfl, ⟨hA0, hM, hS, hF⟩, og.rf⟩
  · rw [if_neg hs, if_neg (fun e => hs e.1)]
    exact ⟨D, rfl, ⟨hA0, hM, hS, hF⟩, og.rf⟩
theorem rpc_send {S : ob_S} {D : ob_D} {R L w : Nat} {p lv : List Nat} {z : sRp} (h : cRp S D R L w z) (hl : rgN S D L (L + 1) 4096 lv) (hd : L + 2 ≤ R) (hp : rw_at S D (R + 3) (R + 4) 277 p) (h17 : 17 ≤ p.length) (h275 : p.length ≤ 275) (h7 : p.getD 7 0 < 32) : ∃ D', f_Reports_send S R D = some D' ∧ cRp S D' R L w (rp_send w p lv z).2 ∧ rgN S D' L (L + 1) 4096 (rp_send w p lv z).1 ∧ rw_at S D' (R + 3) (R + 4) 277 (rp_fin p) ∧ og (fun y _ => (R ≤ y ∧ y < R + 7) ∨ y = L ∨ y = L + 1) D D' := by
  have hb := hp.2.2.2.2.2.2.2.2
  have hA : cRpA S D R L := by obtain ⟨st, sd, md, all, lo, rt, fr, tt, rc⟩ := z; exact h.1
  obtain ⟨a1, a2, a3, a4, a5, a6, a7, a8⟩ := hA
  have e0 : D.1 (R + 3) 1 + 2 - 7 = N32 (p.length - 5) := by
    have e : N32 p.length + (2 : Int32) = N32 (p.length + 2) := nb_add _ 2
    rw [hp.2.2.2.2.1, e, show (7 : Int32) = N32 7 from rfl, nb_sub (by omega)]
    congr 1
  obtain ⟨D5, p1, p2, p3⟩ := rw_replace (f := 4) (c := 2) hp (N32 (p.length - 5)) (by decide) (by omega)
  have p1' : f_Row_replace S (R + 3) 4 (N32 (p.length - 5)) 2 D = some D5 := p1
  have p2' : rw_at S D5 (R + 3) (R + 4) 277 (rp_len p) := p2
  have e1 : f_Row_check S (R + 3) 0 (D5.1 (R + 3) 1) D5 = some (N32 (cr_f (rp_len p)), D5) := by
    rw [p2'.2.2.2.2.1]
    have := rw_crc p2' (f := 0) (c := (rp_len p).length) (by omega)
    rw [List.drop_zero, List.take_length] at this
    exact this
  obtain ⟨D16, q1, q2, q3⟩ := rw_add p2' (N32 (cr_f (rp_len p))) (c := 2) (by decide) (by rw [rp_len_len]; omega)
  have q1' : f_Row_add S (R + 3) (N32 (cr_f (rp_len p))) 2 D5 = some D16 := q1
  have q2' : rw_at S D16 (R + 3) (R + 4) 277 (rp_fin p) := q2
  have gA : ob_ag (fun y => y = R + 3 ∨ y = R + 4) D D16 := (p3.mono (fun y e => Or.inr e)).tr q3
  have hl16 : rgN S D16 L (L + 1) 4096 lv := rg_at.kept hl gA (by omega) (by omega)
  obtain ⟨D22, r1, r2, r3⟩ := rgN_pkt hl16 q2' (by omega)
  have gB : og (fun y _ => (R ≤ y ∧ y < R + 7) ∨ y = L ∨ y = L + 1) D D16 := gA.up2 (fun y k e => Or.inl (by omega))
  have gC : og (fun y _ => (R ≤ y ∧ y < R + 7) ∨ y = L ∨ y = L + 1) D16 D22 := r3.up2 (fun y k e => Or.inr e)
  have h22 : cRp S D22 R L w z := (h.keep gA.up (by omega) (fun _ _ _ => rfl)).keep r3.up (by omega) (fun _ _ _ => rfl)
  have w22 : rw_at S D22 (R + 3) (R + 4) 277 (rp_fin p) := q2'.keep r3.up (by omega) (by omega) rfl
  have h7' : (rp_fin p).getD 7 0 < 32 := by rw [rp_fin_get (by omega) (by decide) (by decide)]; exact h7
  have ho := rp_fin_ok h17 h275 hb
  unfold f_Reports_send
  rw [a4, if_pos (by omega), if_pos (by omega), e0, p1']
  simp only [ob_bv]
  rw [p3.1, a4, if_pos (by omega), if_pos (by omega), if_pos (by omega), e1]
  simp only [ob_bd]
  rw [q1']
  simp only [ob_bv]
  rw [gA.1, a1, if_pos a2, a4, if_pos (by omega), r1]
  simp only [ob_bd]
  rw [if_bI]
  unfold rp_send
  by_cases hc : lv.length + (rp_fin p).length ≤ 4096
  · rw [if_pos (by simpa using hc), if_pos hc]
    rw [if_pos hc] at r2
    obtain ⟨D', t1, t2, t3⟩ := rpc_keep h22 w22 ho h7'
    exact ⟨D', t1, t2, rg_at.keep r2 t3 (by omega) (by omega) rfl, w22.keep t3 (by omega) (by omega) rfl, (gB.tr gC).tr (t3.mono (by omega))⟩
  · rw [if_neg (by simpa using hc), if_neg hc]
    rw [if_neg hc] at r2
    simp only [ob_lt]
    have g6 : og (fun y k => y = R ∧ k = 6) D22 (ob_pI D22 R 6 (D22.1 R 6 + 1)) := og.pI ⟨rfl, rfl⟩
    have h6 : cRp S (ob_pI D22 R 6 (D22.1 R 6 + 1)) R L w (rp_lose z) := by
      obtain ⟨st, sd, md, all, lo, rt, fr, tt, rc⟩ := z
      obtain ⟨hA, hM, hS, hF⟩ := h22
      refine ⟨hA.keep g6 (by omega) rfl rfl, hM.keep g6 (by omega) (by omega), hS.keep g6 (by omega) (by omega) (by omega) (by omega) rfl, ?_⟩
      obtain ⟨f1, f2, f3, f4, f5⟩ := hF
      refine ⟨?_, ?_, ?_, ?_, ?_⟩
      · rw [(g6 _ _ (by omega)).1]; exact f1
      · show (if R = R ∧ 6 = 6 then _ else _) = _
        rw [if_pos ⟨rfl, rfl⟩, f2]
      · rw [(g6 _ _ (by omega)).1]; exact f3
      · rw [(g6 _ _ (by omega)).1]; exact f4
      · rw [(g6 _ _ (by omega)).1]; exact f5
    obtain ⟨D', t1, t2, t3⟩ := rpc_keep h6 (w22.keep g6 (by omega) (by omega) rfl) ho h7'
    exact ⟨D', t1, t2, rg_at.keep (rg_at.keep r2 g6 (by omega) (by omega) rfl) t3 (by omega) (by omega) rfl, (w22.keep g6 (by omega) (by omega) rfl).keep t3 (by omega) (by omega) rfl, ((gB.tr gC).tr (g6.mono (by omega))).tr (t3.mono (by omega))⟩
