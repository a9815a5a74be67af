-- ===== packets in rings =====
def pkm : List Nat → List Nat
  | [] => []
  | b :: t => (b + 256) :: t
theorem pkm_len (p : List Nat) : (pkm p).length = p.length := by cases p <;> rfl
theorem pkm_get {p : List Nat} {k : Nat} (hk : k < p.length) : (pkm p).getD k 0 = if k = 0 then p.getD k 0 + 256 else p.getD k 0 := by
  match p, hk with
  | b :: t, _ =>
    match k with
    | 0 => rfl
    | k + 1 => rfl
theorem pkm_mod {p : List Nat} (h : ∀ x ∈ p, x < 256) : (pkm p).map (fun v => v % 256) = p := by
  match p, h with
  | [], _ => rfl
  | b :: t, h =>
    have hb := h b List.mem_cons_self
    show ((b + 256) % 256) :: t.map (fun v => v % 256) = b :: t
    have : t.map (fun v => v % 256) = t := by
      conv => rhs; rw [← List.map_id t]
      apply List.map_congr_left
      intro x hx
      exact Nat.mod_eq_of_lt (h x (List.mem_cons_of_mem _ hx))
    rw [this]
    congr 1
    omega
theorem pkm_lt {p : List Nat} (h : ∀ x ∈ p, x < 256) : ∀ x ∈ pkm p, x < 512 := by
  match p, h with
  | [], _ => intro x hx; exact absurd hx (by simp [pkm])
  | b :: t, h =>
    intro x hx
    rcases List.mem_cons.mp hx with e | e
    · have := h b List.mem_cons_self
      omega
    · have := h x (List.mem_cons_of_mem _ e)
      omega
abbrev rgN (S : ob_S) (D : ob_D) (a b cap : Nat) (L : List Nat) : Prop := rg_at S D a b cap (L.map N32)
theorem rgN.len {S : ob_S} {D : ob_D} {a b cap : Nat} {L : List Nat} (h : rgN S D a b cap L) : L.length ≤ cap ∧ cap ≤ 100000 ∧ D.1 a 2 = N32 L.length := by
  obtain ⟨h1, h2, h3, h4, h5, h6, h7, h8, -⟩ := h
  rw [List.length_map] at h7 h8
  exact ⟨h7, h6, h8⟩
theorem rgN_room {S : ob_S} {D : ob_D} {a b cap : Nat} {L : List Nat} (h : rgN S D a b cap L) {n : Nat} (hn : n < 2147483648) : f_Ring_hasRoom S a (N32 n) D = some (bI (decide (L.length + n ≤ cap)), D) := by
  rw [rg_hasRoom h hn, List.length_map]
  by_cases hc : L.length + n ≤ cap <;> simp [hc, bI]
theorem rgN_put {S : ob_S} {D : ob_D} {a b cap : Nat} {L : List Nat} (h : rgN S D a b cap L) (x : Nat) (hr : L.length < cap) : ∃ D', f_Ring_put S a (N32 x) D = some D' ∧ rgN S D' a b cap (L ++ [x]) ∧ ob_ag (fun y => y = a ∨ y = b) D D' := by
  obtain ⟨D', p1, p2, p3⟩ := rg_put h (N32 x) (by rw [List.length_map]; exact hr)
  refine ⟨D', p1, ?_, p3⟩
  show rg_at S D' a b cap ((L ++ [x]).map N32)
  rw [List.map_append]
  exact p2
theorem rgN_getD (L : List Nat) (i : Nat) : (L.map N32).getD i 0 = N32 (L.getD i 0) := by
  simp only [List.getD_eq_getElem?_getD, List.getElem?_map]
  cases L[i]? <;> rfl
theorem rgN_get {S : ob_S} {D : ob_D} {a b cap : Nat} {L : List Nat} (h : rgN S D a b cap L) {i : Nat} (hi : i < 2147483648) : f_Ring_get S a (N32 i) D = some (N32 (L.getD i 0), D) := by
  rw [rg_get h hi, rgN_getD]
theorem rgN_drop {S : ob_S} {D : ob_D} {a b cap : Nat} {L : List Nat} (h : rgN S D a b cap L) {n : Nat} (hn : n < 2147483648) : ∃ D', f_Ring_drop S a (N32 n) D = some D' ∧ rgN S D' a b cap (L.drop n) ∧ ob_ag (fun y => y = a) D D' := by
  obtain ⟨D', p1, p2, p3⟩ := rg_drop h hn
  refine ⟨D', p1, ?_, p3⟩
  show rg_at S D' a b cap ((L.drop n).map N32)
  rw [List.map_drop]
  exact p2
theorem rgN_take {S : ob_S} {D : ob_D} {a b cap : Nat} {L : List Nat} (h : rgN S D a b cap L) : ∃ D', f_Ring_take S a D = some (N32 (L.getD 0 0), D') ∧ rgN S D' a b cap (L.drop 1) ∧ ob_ag (fun y => y = a) D D' := by
  obtain ⟨D', p1, p2, p3⟩ := rg_take h
  rw [rgN_getD] at p1
  refine ⟨D', p1, ?_, p3⟩
  show rg_at S D' a b cap ((L.drop 1).map N32)
  rw [List.map_drop]
  exact p2
theorem rgN_numv (L : List Nat) (f : Nat) : ∀ c, rg_num (L.map N32) f c = N32 (nn (L.map (fun v => v % 256)) f c)
  | 0 => rfl
  | c + 1 => by
    have e : (L.map (fun v => v % 256)).getD (f + c) 0 = L.getD (f + c) 0 % 256 := by
      simp only [List.getD_eq_getElem?_getD, List.getElem?_map]
      cases L[f + c]? <;> rfl
    rw [rg_num, rgN_numv L f c, rgN_getD, n_255, show (8 : Int32) = N32 8 from rfl, n_shl _ 8 (by decide), n_or, n_or_add _ _ (Nat.mod_lt _ (by decide)), nn, e]
theorem rgN_number {S : ob_S} {D : ob_D} {a b cap : Nat} {L : List Nat} (h : rgN S D a b cap L) {f c : Nat} (hf : f + c ≤ L.length) : f_Ring_number S a (N32 f) (N32 c) D = some (N32 (nn (L.map (fun v => v % 256)) f c), D) := by
  rw [rg_number h (by rw [List.length_map]; exact hf), rgN_numv]
theorem n_or256 {b : Nat} (hb : b < 256) : N32 b ||| (256 : Int32) = N32 (b + 256) := by
  rw [show (256 : Int32) = N32 256 from rfl, n_or, Nat.or_comm, show (256 : Nat) = 1 * 256 from rfl, n_or_add 1 b hb, Nat.add_comm]
theorem rgN_pkt_L {S : ob_S} {a b cap a2 b2 cap2 : Nat} {L p : List Nat} (hd : a2 ≠ a ∧ a2 ≠ b ∧ b2 ≠ a ∧ b2 ≠ b) (hr : L.length + p.length ≤ cap) : ∀ (d n k : Nat) (D : ob_D), k + d = p.length → d < n → rgN S D a b cap (L ++ (pkm p).take k) → rw_at S D a2 b2 cap2 p → ∃ D', f_Ring_putPacket_L15 S n a a2 (N32 k) D = some (1, D') ∧ rgN S D' a b cap (L ++ pkm p) ∧ ob_ag (fun y => y = a ∨ y = b) D D' := by
  intro d
  induction d with
  | zero =>
    intro n k D hk hn hg hw
    match n, hn with
    | n + 1, _ =>
      have h6 := hw.2.2.2.2.2.1
      have h7 := hw.2.2.2.2.2.2.1
      rw [List.take_of_length_le (by rw [pkm_len]; omega)] at hg
      refine ⟨D, ?_, hg, ob_ag.rf⟩
      rw [f_Ring_putPacket_L15, hw.2.2.2.2.1, if_pos (by rw [nb_le (by omega) (by omega)]; omega)]
  | succ d ih =>
    intro n k D hk hn hg hw
    match n, hn with
    | n + 1, hn =>
      have hw' := hw
      obtain ⟨h1, h2, h3, h4, h5, h6, h7, h8, h9⟩ := hw'
      have hkl : k < p.length := by omega
      have e1 : N32 k + (1 : Int32) = N32 (k + 1) := nb_add _ 1
      have hlen : (L ++ (pkm p).take k).length = L.length + k := by
        rw [List.length_append, List.length_take, pkm_len]
        omega
      obtain ⟨D1, p1, p2, p3⟩ := rgN_put hg ((pkm p).getD k 0) (by omega)
      have hs := by_take_succ (l := pkm p) (f := 0) (k := k) (by rw [pkm_len]; omega)
      rw [List.drop_zero, Nat.zero_add] at hs
      rw [List.append_assoc, ← hs] at p2
      obtain ⟨D2, q1, q2, q3⟩ := ih n (k + 1) D1 (by omega) (by omega) p2 (hw.kept p3 (by omega) (by omega))
      refine ⟨D2, ?_, q2, p3.tr q3⟩
      have hv : D.1 b2 (N32 k).toNatClampNeg = N32 (p.getD k 0) := by rw [nb_clamp (by omega), h8 k hkl]
      have hb := by_getD_lt h9 k
      have hin : ob_in (N32 k) (S.2.1 b2) := by rw [h4, nb_in (by omega)]; omega
      rw [f_Ring_putPacket_L15, h5, if_neg (by rw [nb_le (by omega) (by omega)]; omega), h1, hv]
      by_cases hk0 : k = 0
      · rw [pkm_get hkl, if_pos hk0] at p1
        rw [if_pos (by rw [hk0]; rfl), if_pos h2, if_pos hin, n_or256 hb, p1]
        simp only [ob_bv]
        rw [e1]
        exact q1
      · rw [pkm_get hkl, if_neg hk0] at p1
        rw [if_neg (by rw [show (0 : Int32) = N32 0 from rfl, nb_eq (by omega) (by decide)]; exact hk0), if_pos h2, if_pos hin, p1]
        simp only [ob_bv]
        rw [e1]
        exact q1
theorem rgN_pkt {S : ob_S} {D : ob_D} {a b cap a2 b2 cap2 : Nat} {L p : List Nat} (hg : rgN S D a b cap L) (hw : rw_at S D a2 b2 cap2 p) (hd : a2 ≠ a ∧ a2 ≠ b ∧ b2 ≠ a ∧ b2 ≠ b) : ∃ D', f_Ring_putPacket S a a2 D = some (bI (decide (L.length + p.length ≤ cap)), D') ∧ rgN S D' a b cap (if L.length + p.length ≤ cap then L ++ pkm p else L) ∧ ob_ag (fun y => y = a ∨ y = b) D D' := by
  have h6 := hw.2.2.2.2.2.1
  have h7 := hw.2.2.2.2.2.2.1
  unfold f_Ring_putPacket
  rw [hw.2.2.2.2.1, rgN_room hg (by omega)]
  simp only [ob_bd]
  rw [if_bI]
  by_cases hc : L.length + p.length ≤ cap
  · obtain ⟨D', q1, q2, q3⟩ := rgN_pkt_L hd hc p.length ob_FU 0 D (by omega) (by rw [ob_FU_eq]; omega) (by simpa using hg) hw
    rw [if_pos (by simpa using hc), if_pos hc]
    refine ⟨D', ?_, q2, q3⟩
    rw [show decide (L.length + p.length ≤ cap) = true by simpa using hc]
    exact q1
  · rw [if_neg (by simpa using hc), if_neg hc]
    refine ⟨D, ?_, hg, ob_ag.rf⟩
    rw [show decide (L.length + p.length ≤ cap) = false by simpa using hc]
    rfl
-- ===== a row of packets =====
def tot (l : List (List Nat)) : Nat := l.flatten.length
def rgs (l : List (List Nat)) : List Nat := (l.map pkm).flatten
theorem tot_cons (p : List Nat) (l : List (List Nat)) : tot (p :: l) = p.length + tot l := by simp [tot]
theorem tot_nil : tot [] = 0 := rfl
theorem tot_app (a b : List (List Nat)) : tot (a ++ b) = tot a + tot b := by simp [tot]
theorem rgs_len (l : List (List Nat)) : (rgs l).length = tot l := by
  induction l with
  | nil => rfl
  | cons p l ih =>
    rw [tot_cons, ← ih]
    simp [rgs, pkm_len]
theorem rgs_cons (p : List Nat) (l : List (List Nat)) : rgs (p :: l) = pkm p ++ rgs l := by simp [rgs]
theorem rgs_snoc (p : List Nat) (l : List (List Nat)) : rgs (l ++ [p]) = rgs l ++ pkm p := by simp [rgs]
theorem rgs_mod {l : List (List Nat)} (h : ∀ p ∈ l, ∀ x ∈ p, x < 256) : (rgs l).map (fun v => v % 256) = l.flatten := by
  induction l with
  | nil => rfl
  | cons p l ih =>
    rw [rgs_cons, List.map_append, pkm_mod (h p List.mem_cons_self), ih (fun q hq => h q (List.mem_cons_of_mem _ hq))]
    simp
theorem nn_app (a b : List Nat) (i : Nat) : ∀ c, nn (a ++ b) (a.length + i) c = nn b i c
  | 0 => rfl
  | c + 1 => by
    rw [nn, nn, nn_app a b i c]
    congr 1
    simp only [List.getD_eq_getElem?_getD]
    rw [List.getElem?_append_right (by omega)]
    congr 2
    omega
theorem nn_left (a b : List Nat) (i : Nat) : ∀ c, i + c ≤ a.length → nn (a ++ b) i c = nn a i c
  | 0, _ => rfl
  | c + 1, h => by
    rw [nn, nn, nn_left a b i c (by omega)]
    congr 1
    simp only [List.getD_eq_getElem?_getD]
    rw [List.getElem?_append_left (by omega)]
theorem nn_store {l : List (List Nat)} {r i c : Nat} (hr : r < l.length) (hc : i + c ≤ (l.getD r []).length) : nn l.flatten (tot (l.take r) + i) c = nn (l.getD r []) i c := by
  have e : l = l.take r ++ (l.getD r [] :: l.drop (r + 1)) := by
    conv => lhs; rw [← List.take_append_drop r l, List.drop_eq_getElem_cons hr]
    simp [List.getD_eq_getElem?_getD, hr]
  have e2 : l.flatten = (l.take r).flatten ++ (l.getD r [] ++ (l.drop (r + 1)).flatten) := by
    conv => lhs; rw [e]
    rw [List.flatten_append, List.flatten_cons]
  rw [e2]
  unfold tot
  rw [nn_app, nn_left _ _ _ _ hc]
