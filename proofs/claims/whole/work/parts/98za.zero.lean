-- ===== the start: the world of a new object, and the addresses of its parts =====
def w_z0 (me : List Nat) : sW := ((1, 0, 0, false, false, 0, 0, []), (false, 0, 0, [], [], 0), [], false, ([], fun _ => false, fun _ => false, fun _ => false, fun _ => [], 0), [], ([], [], fun _ => 0, 0), [], ([], fun _ => false, fun _ _ => 0, 0, 0, false, 0, 0, 0), (fun _ => 0, 1, 0, none, 0, 0, 0), [], me)
def zm (me : List Nat) : Prop := me.length = 4096 ∧ (∀ i, me.getD i 0 = 0) ∧ ∀ x ∈ me, x < 256
theorem rep_getD (n i : Nat) : (List.replicate n 0).getD i 0 = 0 := by
  rw [List.getD_eq_getElem?_getD, List.getElem?_replicate]
  split <;> rfl
theorem zm_is : ∃ me, zm me := ⟨List.replicate 4096 0, List.length_replicate, rep_getD 4096, fun x hx => by
  have := List.eq_of_mem_replicate hx
  omega⟩
theorem rw_full {S : ob_S} {D : ob_D} {a b : Nat} {me : List Nat} (hm : zm me) (h : rw_at S D a b 4096 []) (hz : ∀ j, D.1 b j = 0) (hab : b ≠ a) : rw_at S (ob_pI D a 1 4096) a b 4096 me := by
  obtain ⟨h1, h2, h3, h4, h5, h6, h7, h8, h9⟩ := h
  obtain ⟨m1, m2, m3⟩ := hm
  refine ⟨h1, h2, h3, h4, ?_, by omega, h7, fun i hi => ?_, m3⟩
  · rw [m1]
    exact pI_self
  · rw [pI_ne (by omega), hz, m2]
    rfl
def bxa (B m fr : Nat) : Nat → Nat
  | 0 => B + 1
  | 1 => B + 3
  | 2 => B + 5
  | 3 => B + 8
  | 4 => B + 26
  | 5 => B + 29 + 2 * m
  | 6 => B + 29 + 2 * m + 71
  | 7 => B + 29 + 2 * m + 73
  | 8 => B + 29 + 2 * m + 80 + 2 * fr
  | 9 => B + 29 + 2 * m + 80 + 2 * fr + 7
  | _ => B + 29 + 2 * m + 80 + 2 * fr + 9
def bx (D : ob_D) (B m fr n : Nat) : Prop := ∀ k, k < n → D.2.1 B k = bxa B m fr k
theorem bx.lay {D : ob_D} {B m fr n x : Nat} (h : bx D B m fr n) (hx : x = bxa B m fr n) : bx (ob_pR D B n x) B m fr (n + 1) := fun k hk => by
  by_cases e : k = n
  · rw [e, ← hx]
    exact pR_self
  · rw [pR_ne (fun q => e q.2)]
    exact h k (by omega)
theorem bx.keep {D D' : ob_D} {B m fr n : Nat} {P : Nat → Nat → Prop} (h : bx D B m fr n) (g : og P D D') (hP : ∀ k, ¬ P B k) : bx D' B m fr n := fun k hk => by
  rw [(g B k (hP k)).2.1]
  exact h k hk
/-- what the rest of the making leaves as it is, and where it ends -/
def tl (S : ob_S) (D : ob_D) (B m fr k e s : Nat) (S' : ob_S) (D' : ob_D) : Prop := og (fun y j => (y = B ∧ k ≤ j) ∨ e ≤ y) D D' ∧ (∀ y, y < e → S'.1 y = S.1 y ∧ S'.2.1 y = S.2.1 y) ∧ S'.2.2.1 = B + 29 + 2 * m + 80 + 2 * fr + 14 ∧ S'.2.2.2 ≤ S.2.2.2 + s ∧ bx D' B m fr 11
theorem tl.step {S S1 S' : ob_S} {D D1 D' : ob_D} {B m fr k e e1 c s0 s1 a : Nat} (t : tl S1 D1 B m fr (k + 1) e1 s1 S' D') (n : nx S S1 c s0) (g : og (fun y _ => e ≤ y ∧ y < e1) (ob_pR D B k a) D1) (hS : S.2.2.1 = e) (he : e ≤ e1) : tl S D B m fr k e (s0 + s1) S' D' := by
  obtain ⟨t1, t2, t3, t4, t5⟩ := t
  obtain ⟨n1, n2, n3⟩ := n
  refine ⟨((og.pR (Or.inl ⟨rfl, Nat.le_refl _⟩)).tr (g.mono (fun y j q => Or.inr q.1))).tr (t1.mono (fun y j q => ?_)), fun y hy => ?_, t3, by omega, t5⟩
  · rcases q with q | q
    · exact Or.inl ⟨q.1, by omega⟩
    · exact Or.inr (by omega)
  · have a1 := t2 y (by omega)
    have a2 := n3 y (by omega)
    exact ⟨a1.1.trans a2.1, a1.2.trans a2.2⟩
