-- ===== the receiver: what it does =====
abbrev sRc : Type := Bool × Nat × Nat × List Bool × List Nat × Int32
/-- the check bits come turned -/
def fl7 (l : List Bool) : List Bool := l.take 56 ++ (l.drop 56).map (fun b => !b)
theorem fl7_snoc (l : List Bool) (b : Bool) : fl7 (l ++ [b]) = fl7 l ++ [if l.length < 56 then b else !b] := by
  unfold fl7
  by_cases h : l.length < 56
  · rw [if_pos h, List.take_of_length_le (by simp; omega), List.drop_eq_nil_of_le (by simp; omega), List.take_of_length_le (by omega), List.drop_eq_nil_of_le (by omega)]
    simp
  · rw [if_neg h, List.take_append_of_le_length (by omega), List.drop_append_of_le_length (by omega)]
    simp
theorem fl7_len (l : List Bool) : (fl7 l).length = l.length := by
  unfold fl7
  simp
  omega
def rc_rm (l : List Bool) : Nat := rm ((fl7 l).take 63)
theorem rc_rm_snoc {l : List Bool} (b : Bool) (h : l.length < 63) : rc_rm (l ++ [b]) = rm_s (rc_rm l) (if l.length < 56 then b else !b) := by
  unfold rc_rm
  rw [fl7_snoc, List.take_of_length_le (by simp [fl7_len]; omega), List.take_of_length_le (by rw [fl7_len]; omega), rm_snoc]
theorem rc_rm_last {l : List Bool} (b : Bool) (h : l.length = 63) : rc_rm (l ++ [b]) = rc_rm l := by
  unfold rc_rm
  rw [fl7_snoc, List.take_append_of_le_length (by rw [fl7_len]; omega)]
def rc_find (r : Nat) : Option Nat := (List.range 63).find? (fun i => pw i == r)
/-- the block put right, and how many bits that took; none if it can't be -/
def rc_data (l : List Bool) : Option (List Bool × Nat) := if rc_rm l = 0 then some (l, 0) else (rc_find (rc_rm l)).map (fun i => (bfl l (62 - i), 1))
def by7 (l : List Bool) : List Nat := (List.range 7).map (fun i => bn ((l.drop (8 * i)).take 8))
def rc_end (l : List Bool) (cand : List Nat) (pr : Int32) : Bool × sRc := match rc_data l with
  | some (d, a) => if cand.length + 7 < 259 then (false, (true, 0, 0, [], cand ++ by7 d, pr + N32 a)) else (true, (false, 0, 0, [], cand ++ by7 d, pr + N32 a))
  | none => (decide (0 < cand.length), (false, 0, 0, [], cand, pr))
def rc_near (n : Nat) : Bool := Nat.ble (bcN (n ^^^ 60304)) 1
def rc_hear : sRc → Bool → Bool × sRc
  | (true, win, bits, blk, cand, pr), b => if blk.length < 63 then (false, (true, win, bits, blk ++ [b], cand, pr)) else rc_end (blk ++ [b]) cand pr
  | (false, win, bits, blk, cand, pr), b => if min (bits + 1) 16 = 16 ∧ rc_near ((2 * win + b.toNat) % 65536) = true then (false, (true, 0, 0, [], [], pr)) else (false, (false, (2 * win + b.toNat) % 65536, min (bits + 1) 16, blk, cand, pr))
/-- the class's receiver r while it collects -/
def cRcB (S : ob_S) (D : ob_D) (r : Nat) (blk : List Bool) (cand : List Nat) (pr : Int32) : Prop := D.2.1 r 0 = r + 1 ∧ rw_at S D (r + 1) (r + 2) 259 cand ∧ D.1 r 1 = 1 ∧ D.1 r 6 = pr ∧ D.1 r 3 = N32 blk.length ∧ blk.length ≤ 64 ∧ D.2.2 r 4 = Int64.ofNat (bn blk) ∧ D.1 r 5 = N32 (rc_rm blk) ∧ cand.length % 7 = 0 ∧ cand.length < 259
def cRcS (S : ob_S) (D : ob_D) (r : Nat) (win bits : Nat) (cand : List Nat) (pr : Int32) : Prop := D.2.1 r 0 = r + 1 ∧ rw_at S D (r + 1) (r + 2) 259 cand ∧ D.1 r 1 = 0 ∧ D.1 r 6 = pr ∧ D.1 r 2 = N32 win ∧ win < 65536 ∧ D.1 r 3 = N32 bits ∧ bits ≤ 16
def cRc (S : ob_S) (D : ob_D) (r : Nat) : sRc → Prop
  | (true, _, _, blk, cand, pr) => cRcB S D r blk cand pr ∧ blk.length < 64
  | (false, win, bits, _, cand, pr) => cRcS S D r win bits cand pr
theorem cRc.keep {S S' : ob_S} {D D' : ob_D} {r : Nat} {q : sRc} {P : Nat → Nat → Prop} (h : cRc S D r q) (g : og P D D') (hP : ∀ y k, r ≤ y → y < r + 3 → ¬ P y k) (hS : ∀ y, r ≤ y → y < r + 3 → S'.2.1 y = S.2.1 y) : cRc S' D' r q := by
  obtain ⟨col, win, bits, blk, cand, pr⟩ := q
  have hr : ∀ k, ¬ P r k := fun k => hP r k (by omega) (by omega)
  cases col
  · obtain ⟨h1, h2, h3, h4, h5, h6, h7, h8⟩ := h
    exact ⟨by rw [(g r 0 (hr 0)).2.1]; exact h1, h2.keep g (fun k => hP _ k (by omega) (by omega)) (fun k => hP _ k (by omega) (by omega)) (hS _ (by omega) (by omega)), by rw [(g r 1 (hr 1)).1]; exact h3, by rw [(g r 6 (hr 6)).1]; exact h4, by rw [(g r 2 (hr 2)).1]; exact h5, h6, by rw [(g r 3 (hr 3)).1]; exact h7, h8⟩
  · obtain ⟨⟨h1, h2, h3, h4, h5, h6, h7, h8, h9⟩, h10⟩ := h
    exact ⟨⟨by rw [(g r 0 (hr 0)).2.1]; exact h1, h2.keep g (fun k => hP _ k (by omega) (by omega)) (fun k => hP _ k (by omega) (by omega)) (hS _ (by omega) (by omega)), by rw [(g r 1 (hr 1)).1]; exact h3, by rw [(g r 6 (hr 6)).1]; exact h4, by rw [(g r 3 (hr 3)).1]; exact h5, h6, by rw [(g r 4 (hr 4)).2.2]; exact h7, by rw [(g r 5 (hr 5)).1]; exact h8, h9⟩, h10⟩
theorem rc_rm_lt (l : List Bool) : rc_rm l < 128 := rm_lt _
theorem rcc_divide {S : ob_S} {D : ob_D} {r x : Nat} (b : Bool) (hx : x < 128) (h : D.1 r 5 = N32 x) : ∃ D', f_Receiver_divide S r (bI b) D = some D' ∧ D'.1 r 5 = N32 (rm_s x b) ∧ og (fun y k => y = r ∧ k = 5) D D' := by
  have e : (D.1 r 5 <<< ((1 : Int32) &&& 31)) ||| bI b = N32 (2 * x + b.toNat) := by
    rw [h, show (1 : Int32) = N32 1 from rfl, n_shl x 1 (by decide), bI_n, n_or]
    congr 1
    have := Nat.shiftLeft_add_eq_or_of_lt (show b.toNat < 2 ^ 1 from Bool.toNat_lt b) x
    rw [Nat.shiftLeft_eq] at this
    rw [← this]
    omega
  have hb := Bool.toNat_lt b
  unfold f_Receiver_divide
  simp only [ob_lt]
  rw [e]
  have e2 : (ob_pI D r 5 (N32 (2 * x + b.toNat))).1 r 5 = N32 (2 * x + b.toNat) := by simp [ob_pI]
  rw [e2]
  by_cases hc : 64 ≤ x
  · rw [if_neg (by rw [show (127 : Int32) = N32 127 from rfl, nb_le (by omega) (by decide)]; omega)]
    refine ⟨_, rfl, ?_, (og.pI ⟨rfl, rfl⟩).tr (og.pI ⟨rfl, rfl⟩)⟩
    unfold rm_s
    rw [Nat.ble_eq_true_of_le hc, show (197 : Int32) = N32 197 from rfl, n_xor]
    simp [ob_pI]
  · rw [if_pos (by rw [show (127 : Int32) = N32 127 from rfl, nb_le (by omega) (by decide)]; omega)]
    refine ⟨_, rfl, ?_, og.pI ⟨rfl, rfl⟩⟩
    unfold rm_s
    rw [show Nat.ble 64 x = false from Bool.eq_false_iff.mpr (fun e => hc (Nat.le_of_ble_eq_true e))]
    simp [ob_pI]
theorem pw_step (i : Nat) : pw (i + 1) = if 2 * pw i ≤ 127 then 2 * pw i else 2 * pw i ^^^ 197 := by
  show rm_s (pw i) false = _
  unfold rm_s
  by_cases hc : 64 ≤ pw i
  · rw [Nat.ble_eq_true_of_le hc, if_neg (by omega)]; rfl
  · rw [show Nat.ble 64 (pw i) = false from Bool.eq_false_iff.mpr (fun e => hc (Nat.le_of_ble_eq_true e)), if_pos (by omega)]; rfl
theorem rc_find_from {r : Nat} : ∀ (d k : Nat), k + d = 63 → (∀ i, i < k → pw i ≠ r) → rc_find r = ((List.range' k d).find? (fun i => pw i == r)) := by
  intro d
  induction d with
  | zero =>
    intro k hk h
    unfold rc_find
    simp only [List.range'_zero, List.find?_nil, List.find?_eq_none, List.mem_range]
    intro i hi
    simpa using h i (by omega)
  | succ d ih =>
    intro k hk h
    rw [List.range'_succ, List.find?_cons]
    by_cases hp : pw k = r
    · have e : (pw k == r) = true := by simpa using hp
      rw [e]
      unfold rc_find
      rw [List.find?_eq_some_iff_getElem]
      refine ⟨by simpa using hp, k, by simp; omega, by simp, fun j hj => by simpa using h j hj⟩
    · have e : (pw k == r) = false := by simpa using hp
      rw [e]
      refine ih (k + 1) (by omega) (fun i hi => ?_)
      by_cases hik : i = k
      · rw [hik]; exact hp
      · exact h i (by omega)
theorem rcc_turn_L {S : ob_S} {D : ob_D} {r x bv : Nat} (hx : x < 128) (h5 : D.1 r 5 = N32 x) (h4 : D.2.2 r 4 = Int64.ofNat bv) : ∀ (d n k : Nat), k + d = 63 → d < n → (∀ i, i < k → pw i ≠ x) → ∃ D', f_Receiver_turnWrongBit_L4 S n r (N32 (pw k)) (N32 k) D = some (match rc_find x with | some _ => 1 | none => 0, D') ∧ og (fun y k => y = r ∧ (k = 4 ∨ k = 6)) D D' ∧ (match rc_find x with | some i => i < 63 ∧ D'.2.2 r 4 = Int64.ofNat (bv ^^^ 2 ^ (i + 1)) ∧ D'.1 r 6 = D.1 r 6 + 1 | none => D' = D) := by
  intro d
  induction d with
  | zero =>
    intro n k hk hn hi
    match n, hn with
    | n + 1, _ =>
      have e : rc_find x = none := by rw [rc_find_from 0 k (by omega) hi]; rfl
      rw [f_Receiver_turnWrongBit_L4, if_pos (by rw [show (63 : Int32) = N32 63 from rfl, nb_le (by decide) (by omega)]; omega), e]
      exact ⟨D, rfl, og.rf, rfl⟩
  | succ d ih =>
    intro n k hk hn hi
    match n, hn with
    | n + 1, hn =>
      have hp := pw_lt k
      rw [f_Receiver_turnWrongBit_L4, if_neg (by rw [show (63 : Int32) = N32 63 from rfl, nb_le (by decide) (by omega)]; omega), h5]
      by_cases hk2 : pw k = x
      · have e : rc_find x = some k := by
          rw [rc_find_from (d + 1) k hk hi, List.range'_succ, List.find?_cons, show (pw k == x) = true by simpa using hk2]
        rw [if_pos (by rw [hk2]), e]
        refine ⟨_, rfl, (og.pL ⟨rfl, Or.inl rfl⟩).tr (og.pI ⟨rfl, Or.inr rfl⟩), by omega, ?_, ?_⟩
        · have e1 : N32 k + (1 : Int32) = N32 (k + 1) := nb_add k 1
          show (if r = r ∧ 4 = 4 then _ else _) = _
          rw [if_pos ⟨rfl, rfl⟩, h4, e1, show (1 : Int64) = Int64.ofNat 1 from rfl, n64_shl 1 (k + 1) (by omega), n64_xor, Nat.one_mul]
        · simp [ob_pI, ob_pL]
      · rw [if_neg (by rw [nb_eq (by omega) (by omega)]; exact hk2)]
        have e1 : N32 k + (1 : Int32) = N32 (k + 1) := nb_add k 1
        have e2 : N32 (pw k) <<< ((1 : Int32) &&& 31) = N32 (2 * pw k) := by
          rw [show (1 : Int32) = N32 1 from rfl, n_shl _ 1 (by decide)]
          congr 1
          omega
        have hi' : ∀ i, i < k + 1 → pw i ≠ x := by
          intro i hlt
          by_cases hik : i = k
          · rw [hik]; exact hk2
          · exact hi i (by omega)
        have hI := ih n (k + 1) (by omega) (by omega) hi'
        rw [pw_step] at hI
        rw [e1, e2]
        by_cases hc : 2 * pw k ≤ 127
        · rw [if_pos (by rw [show (127 : Int32) = N32 127 from rfl, nb_le (by omega) (by decide)]; exact hc)]
          rw [if_pos hc] at hI
          exact hI
        · rw [if_neg (by rw [show (127 : Int32) = N32 127 from rfl, nb_le (by omega) (by decide)]; exact hc), show (197 : Int32) = N32 197 from rfl, n_xor]
          rw [if_neg hc] at hI
          exact hI
