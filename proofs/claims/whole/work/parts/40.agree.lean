-- ===== agreement of two memories, slot by slot =====
def og (P : Nat → Nat → Prop) (D D' : ob_D) : Prop := ∀ y k, ¬ P y k → D'.1 y k = D.1 y k ∧ D'.2.1 y k = D.2.1 y k ∧ D'.2.2 y k = D.2.2 y k
/-- the cells from lo up to hi -/
def rgn (lo hi : Nat) : Nat → Nat → Prop := fun y _ => lo ≤ y ∧ y < hi
theorem og.rf {P : Nat → Nat → Prop} {D : ob_D} : og P D D := fun _ _ _ => ⟨rfl, rfl, rfl⟩
theorem og.tr {P : Nat → Nat → Prop} {D D1 D2 : ob_D} (h : og P D D1) (k : og P D1 D2) : og P D D2 := fun y j hy => ⟨(k y j hy).1.trans (h y j hy).1, (k y j hy).2.1.trans (h y j hy).2.1, (k y j hy).2.2.trans (h y j hy).2.2⟩
theorem og.mono {P Q : Nat → Nat → Prop} {D D1 : ob_D} (h : og P D D1) (hPQ : ∀ y k, P y k → Q y k) : og Q D D1 := fun y j hy => h y j (fun z => hy (hPQ y j z))
theorem og.pI {P : Nat → Nat → Prop} {D : ob_D} {a k : Nat} {x : Int32} (h : P a k) : og P D (ob_pI D a k x) := fun y j hy => ⟨by
  show (if y = a ∧ j = k then x else D.1 y j) = D.1 y j
  rw [if_neg (fun e => hy (by rw [e.1, e.2]; exact h))], rfl, rfl⟩
theorem og.pR {P : Nat → Nat → Prop} {D : ob_D} {a k x : Nat} (h : P a k) : og P D (ob_pR D a k x) := fun y j hy => ⟨rfl, by
  show (if y = a ∧ j = k then x else D.2.1 y j) = D.2.1 y j
  rw [if_neg (fun e => hy (by rw [e.1, e.2]; exact h))], rfl⟩
theorem og.pL {P : Nat → Nat → Prop} {D : ob_D} {a k : Nat} {x : Int64} (h : P a k) : og P D (ob_pL D a k x) := fun y j hy => ⟨rfl, rfl, by
  show (if y = a ∧ j = k then x else D.2.2 y j) = D.2.2 y j
  rw [if_neg (fun e => hy (by rw [e.1, e.2]; exact h))]⟩
theorem og.wb {P : Nat → Nat → Prop} {D : ob_D} {b : Nat} {g : Nat → Int32} (h : ∀ k, P b k) : og P D (ob_wb D b g) := fun y j hy => ⟨if_neg (fun e => hy (by rw [e]; exact h j)), rfl, rfl⟩
theorem ob_ag.up {P : Nat → Prop} {D D' : ob_D} (h : ob_ag P D D') : og (fun y _ => P y) D D' := fun y k hy => ⟨h.2 y k hy, by rw [h.1], by rw [h.1]⟩
theorem ob_ag.up2 {P : Nat → Prop} {Q : Nat → Nat → Prop} {D D' : ob_D} (h : ob_ag P D D') (hQ : ∀ y k, P y → Q y k) : og Q D D' := h.up.mono hQ
theorem rw_at.keep {S S' : ob_S} {D D' : ob_D} {a b cap : Nat} {l : List Nat} {P : Nat → Nat → Prop} (h : rw_at S D a b cap l) (g : og P D D') (ha : ∀ k, ¬ P a k) (hb : ∀ k, ¬ P b k) (hS : S'.2.1 b = S.2.1 b) : rw_at S' D' a b cap l := by
  obtain ⟨h1, h2, h3, h4, h5, h6, h7, h8, h9⟩ := h
  exact ⟨by rw [(g a 0 (ha 0)).2.1]; exact h1, h2, h3, by rw [hS]; exact h4, by rw [(g a 1 (ha 1)).1]; exact h5, h6, h7, fun i hi => by rw [(g b i (hb i)).1]; exact h8 i hi, h9⟩
theorem rg_at.keep {S S' : ob_S} {D D' : ob_D} {a b cap : Nat} {l : List Int32} {P : Nat → Nat → Prop} (h : rg_at S D a b cap l) (g : og P D D') (ha : ∀ k, ¬ P a k) (hb : ∀ k, ¬ P b k) (hS : S'.2.1 b = S.2.1 b) : rg_at S' D' a b cap l := by
  obtain ⟨h1, h2, h3, h4, h5, h6, h7, h8, hd, h9, h10, h11⟩ := h
  exact ⟨by rw [(g a 0 (ha 0)).2.1]; exact h1, h2, h3, by rw [hS]; exact h4, h5, h6, h7, by rw [(g a 2 (ha 2)).1]; exact h8, hd, h9, by rw [(g a 1 (ha 1)).1]; exact h10, fun i hi => by rw [(g b _ (hb _)).1]; exact h11 i hi⟩
theorem tb_at.keep {S S' : ob_S} {D D' : ob_D} {a b most w : Nat} {ls : List (Nat → Int32)} {P : Nat → Nat → Prop} (h : tb_at S D a b most w ls) (g : og P D D') (ha : ∀ k, ¬ P a k) (hb : ∀ k, ¬ P b k) (hS : S'.2.1 b = S.2.1 b) : tb_at S' D' a b most w ls := by
  obtain ⟨h1, h2, h3, h4, h5, h6, h7, h8, h9, h10, h11⟩ := h
  exact ⟨by rw [(g a 2 (ha 2)).2.1]; exact h1, h2, h3, by rw [hS]; exact h4, h5, h6, by rw [(g a 0 (ha 0)).1]; exact h7, by rw [(g a 1 (ha 1)).1]; exact h8, by rw [(g a 3 (ha 3)).1]; exact h9, h10, fun i hi j hj => by rw [(g b _ (hb _)).1]; exact h11 i hi j hj⟩
theorem ba.keep {D D' : ob_D} {b o : Nat} {l : List Nat} {P : Nat → Nat → Prop} (h : ba D b o l) (g : og P D D') (hb : ∀ k, o ≤ k → k < o + l.length → ¬ P b k) : ba D' b o l :=
  ⟨fun i hi => by rw [(g b (o + i) (hb _ (by omega) (by omega))).1]; exact h.1 i hi, h.2⟩
def bI (b : Bool) : Int32 := if b then 1 else 0
theorem bI_0 (b : Bool) : (bI b = 0) = (b = false) := by cases b <;> simp [bI]
theorem bI_1 (b : Bool) : (bI b = 1) = (b = true) := by cases b <;> simp [bI]
theorem bI_n (b : Bool) : bI b = N32 b.toNat := by cases b <;> rfl
theorem bI_or (b : Bool) : bI b = 0 ∨ bI b = 1 := by cases b <;> simp [bI]
-- ===== bits in a row, the remainder =====
def bn (l : List Bool) : Nat := l.foldl (fun a b => 2 * a + b.toNat) 0
theorem bn_snoc (l : List Bool) (b : Bool) : bn (l ++ [b]) = 2 * bn l + b.toNat := by
  unfold bn
  rw [List.foldl_append]
  rfl
theorem bn_tb0 (l : List Bool) : ∀ (acc j : Nat), (l.foldl (fun a b => 2 * a + b.toNat) acc).testBit j = if j < l.length then l.getD (l.length - 1 - j) false else acc.testBit (j - l.length) := by
  induction l with
  | nil => intro acc j; simp
  | cons b l ih =>
    intro acc j
    rw [List.foldl_cons, ih]
    by_cases h : j < l.length
    · rw [if_pos h, if_pos (by simp; omega)]
      have e : (b :: l).length - 1 - j = (l.length - 1 - j) + 1 := by simp; omega
      rw [e]
      simp
    · rw [if_neg h]
      by_cases h2 : j = l.length
      · subst h2
        rw [if_pos (by simp)]
        simp
        cases b <;> simp [Nat.testBit_zero] <;> omega
      · rw [if_neg (by simp; omega)]
        have e : j - l.length = (j - (b :: l).length) + 1 := by simp; omega
        rw [e, Nat.testBit_succ]
        congr 1
        cases b <;> simp <;> omega
theorem bn_tb (l : List Bool) (j : Nat) : (bn l).testBit j = if j < l.length then l.getD (l.length - 1 - j) false else false := by
  unfold bn
  rw [bn_tb0]
  simp
theorem bn_lt (l : List Bool) : bn l < 2 ^ l.length := by
  apply Nat.lt_pow_two_of_testBit
  intro i hi
  rw [bn_tb, if_neg (by omega)]
def rm_s (r : Nat) (b : Bool) : Nat := cond (Nat.ble 64 r) ((2 * r + b.toNat) ^^^ 197) (2 * r + b.toNat)
def rm (l : List Bool) : Nat := l.foldl rm_s 0
theorem rm_chk : ((List.range 128).all fun r => (Nat.ble (rm_s r true) 127 && Nat.ble (rm_s r false) 127) && (List.range 128).all fun d => (Nat.beq (rm_s (r ^^^ d) true) (rm_s r true ^^^ rm_s d false)) && (Nat.beq (rm_s (r ^^^ d) false) (rm_s r false ^^^ rm_s d false))) = true := by decide +kernel
theorem rm_s_lt {r : Nat} (b : Bool) (h : r < 128) : rm_s r b < 128 := by
  have := List.all_eq_true.mp rm_chk r (List.mem_range.mpr h)
  simp only [Bool.and_eq_true] at this
  cases b
  · exact Nat.lt_succ_of_le (Nat.le_of_ble_eq_true this.1.2)
  · exact Nat.lt_succ_of_le (Nat.le_of_ble_eq_true this.1.1)
theorem rm_lin {r d : Nat} (b : Bool) (h : r < 128) (hd : d < 128) : rm_s (r ^^^ d) b = rm_s r b ^^^ rm_s d false := by
  have := List.all_eq_true.mp rm_chk r (List.mem_range.mpr h)
  simp only [Bool.and_eq_true] at this
  have := List.all_eq_true.mp this.2 d (List.mem_range.mpr hd)
  simp only [Bool.and_eq_true] at this
  cases b
  · exact Nat.eq_of_beq_eq_true this.2
  · exact Nat.eq_of_beq_eq_true this.1
theorem rm_fold_lt (l : List Bool) : ∀ r, r < 128 → l.foldl rm_s r < 128 := by
  induction l with
  | nil => intro r h; exact h
  | cons b l ih => intro r h; rw [List.foldl_cons]; exact ih _ (rm_s_lt b h)
theorem rm_lt (l : List Bool) : rm l < 128 := rm_fold_lt l 0 (by decide)
theorem rm_snoc (l : List Bool) (b : Bool) : rm (l ++ [b]) = rm_s (rm l) b := by
  unfold rm
  rw [List.foldl_append]
  rfl
/-- the remainder that x to the i has -/
def pw : Nat → Nat
  | 0 => 1
  | i + 1 => rm_s (pw i) false
theorem pw_lt : ∀ i, pw i < 128
  | 0 => by decide
  | i + 1 => rm_s_lt false (pw_lt i)
def pwi (d : Nat) : Nat → Nat
  | 0 => d
  | n + 1 => pwi (rm_s d false) n
theorem pwi_pw : ∀ n i, pwi (pw i) n = pw (i + n)
  | 0, _ => rfl
  | n + 1, i => by
    show pwi (pw (i + 1)) n = _
    rw [pwi_pw n (i + 1)]
    congr 1
    omega
theorem rm_fold_lin (l : List Bool) : ∀ r d, r < 128 → d < 128 → l.foldl rm_s (r ^^^ d) = l.foldl rm_s r ^^^ pwi d l.length := by
  induction l with
  | nil => intro r d _ _; rfl
  | cons b l ih =>
    intro r d hr hd
    rw [List.foldl_cons, List.foldl_cons, rm_lin b hr hd, ih _ _ (rm_s_lt b hr) (rm_s_lt false hd)]
    rfl
/-- one bit turned -/
def bfl (l : List Bool) (k : Nat) : List Bool := l.set k (!(l.getD k false))
theorem rm_not {r : Nat} (b : Bool) (h : r < 128) : rm_s r (!b) = rm_s r b ^^^ 1 := by
  have : ((List.range 128).all fun r => Nat.beq (rm_s r true) (rm_s r false ^^^ 1) && Nat.beq (rm_s r false) (rm_s r true ^^^ 1)) = true := by decide +kernel
  have := List.all_eq_true.mp this r (List.mem_range.mpr h)
  simp only [Bool.and_eq_true] at this
  cases b
  · exact Nat.eq_of_beq_eq_true this.1
  · exact Nat.eq_of_beq_eq_true this.2
theorem rm_flip {l : List Bool} {k : Nat} (hk : k < l.length) : rm (bfl l k) = rm l ^^^ pw (l.length - 1 - k) := by
  unfold rm bfl
  have e1 : l = l.take k ++ l.getD k false :: l.drop (k + 1) := by
    conv => lhs; rw [← List.take_append_drop k l, List.drop_eq_getElem_cons hk]
    simp [List.getD_eq_getElem?_getD, hk]
  have e2 : l.set k (!(l.getD k false)) = l.take k ++ (!(l.getD k false)) :: l.drop (k + 1) := List.set_eq_take_append_cons_drop ▸ (by rw [if_pos hk])
  have e3 : (l.drop (k + 1)).length = l.length - 1 - k := by rw [List.length_drop]; omega
  rw [e2]
  conv => rhs; rw [e1]
  rw [List.foldl_append, List.foldl_append, List.foldl_cons, List.foldl_cons]
  have h1 := rm_fold_lt (l.take k) 0 (by decide)
  rw [rm_not _ h1, rm_fold_lin _ _ _ (rm_s_lt _ h1) (by decide), e3]
  have : pwi 1 (l.length - 1 - k) = pw (0 + (l.length - 1 - k)) := pwi_pw _ 0
  rw [this, Nat.zero_add, ← e1]
/-- the powers differ -/
theorem pw_inj_chk : ((List.range 63).all fun i => (List.range 63).all fun j => Nat.beq (pw i) (pw j) == Nat.beq i j) = true := by decide +kernel
theorem pw_inj {i j : Nat} (hi : i < 63) (hj : j < 63) (h : pw i = pw j) : i = j := by
  have := List.all_eq_true.mp (List.all_eq_true.mp pw_inj_chk i (List.mem_range.mpr hi)) j (List.mem_range.mpr hj)
  rw [h, Nat.beq_refl] at this
  exact Nat.eq_of_beq_eq_true (eq_of_beq this).symm
theorem pw_pos {i : Nat} (hi : i < 63) : pw i ≠ 0 := by
  have h : ((List.range 63).all fun i => Nat.ble 1 (pw i)) = true := by decide +kernel
  have := Nat.le_of_ble_eq_true (List.all_eq_true.mp h i (List.mem_range.mpr hi))
  omega
