-- ===== a limit is watched, in the class =====
def al_new (k pt link : Nat) (al : Option Nat) : Option Nat := if link = 1 then (match al with | none => some (k + pt - 1) | some a => some a) else al
def w_wset (i : Nat) (n : Int32) (f : sLm) : sW → sW
  | (gt, rc, A, on, ev, lm, ch, frs, rp, cr, fm, me) => (gt, rc, A, on, ev, lm.set i (lm_to f.2.1 n f), ch, frs, rp, cr, fm, me)
def w_brk (pt : Nat) (x : Int32) (f : sLm) : sW → sW
  | (gt, rc, A, on, ev, lm, ch, frs, rp, (wi, mo, ck, al, hd, fa, br), fm, me) => (gt, rc, A, on, ev_raise f.2.2.2.2.2.2.2.1 x ev, lm, ch, frs, rp, (wi, mo, ck, al_new ck pt f.2.2.2.2.2.2.2.2 al, hd, fa, br + 1), fm, me)
def w_wat (pt i : Nat) (f : sLm) (z : sW) : sW := if w_par f.2.2.2.1 z < f.2.2.2.2.2.1 ∨ f.2.2.2.2.2.2.1 < w_par f.2.2.2.1 z then (if f.2.2.1 + 1 = N32 f.2.2.2.2.1 then w_brk pt (w_par f.2.2.2.1 z) f (w_wset i (f.2.2.1 + 1) f z) else w_wset i (f.2.2.1 + 1) f z) else w_wset i 0 f z
theorem cCrF.brk {D : ob_D} {c pt : Nat} {wi : Nat → Int32} {mo ck : Nat} {al : Option Nat} {hd fa br : Int32} (h : cCrF D c pt (wi, mo, ck, al, hd, fa, br)) : cCrF (ob_pI D c 12 (D.1 c 12 + 1)) c pt (wi, mo, ck, al, hd, fa, br + 1) := by
  obtain ⟨c1, c2, c3, c4, c5, c6, c7, c8, c9, c10, c11⟩ := h
  exact ⟨fun i hi => by rw [pI_ne (by omega)]; exact c1 i hi, by rw [pI_ne (by omega)]; exact c2, c3, by rw [pI_ne (by omega)]; exact c4, by rw [pI_ne (by omega)]; exact c5, c6, by rw [pI_ne (by omega)]; exact c7, by rw [pI_ne (by omega)]; exact c8, by rw [pI_self, c9], by rw [pI_ne (by omega)]; exact c10, c11⟩
theorem cCrF.setal {D : ob_D} {c pt : Nat} {wi : Nat → Int32} {mo ck : Nat} {al al' : Option Nat} {hd fa br : Int32} (h : cCrF D c pt (wi, mo, ck, al, hd, fa, br)) (ha : ∀ a, al' = some a → a < 2147483648) : cCrF (ob_pI D c 9 (al_v al')) c pt (wi, mo, ck, al', hd, fa, br) := by
  obtain ⟨c1, c2, c3, c4, c5, c6, c7, c8, c9, c10, c11⟩ := h
  exact ⟨fun i hi => by rw [pI_ne (by omega)]; exact c1 i hi, by rw [pI_ne (by omega)]; exact c2, c3, by rw [pI_ne (by omega)]; exact c4, pI_self, ha, by rw [pI_ne (by omega)]; exact c7, by rw [pI_ne (by omega)]; exact c8, by rw [pI_ne (by omega)]; exact c9, by rw [pI_ne (by omega)]; exact c10, c11⟩
theorem al_none {al : Option Nat} (h : ∀ a, al = some a → a < 2147483648) : (al_v al = -1) = (al = none) := by
  cases al with
  | none => exact propext ⟨fun _ => rfl, fun _ => rfl⟩
  | some a =>
    have ha := h a rfl
    refine propext ⟨fun e => ?_, fun e => by cases e⟩
    have e : N32 a = -1 := e
    have e2 : (N32 a).toInt = (-1 : Int32).toInt := by rw [e]
    rw [nb_toInt ha] at e2
    have e3 : (-1 : Int32).toInt = -1 := by decide
    omega
theorem wc_lset {S : ob_S} {D : ob_D} {B m fr F w pt i : Nat} {z : sW} {c : List Nat} {f : sLm} (h : cX S D B m fr F w pt z c) (hi : z.2.2.2.2.2.1[i]? = some f) (n : Int32) : ∃ D', f_Table_set S (B + 29 + 2 * m + 71) (N32 i) 2 n D = some D' ∧ cX S D' B m fr F w pt (w_wset i n f z) c ∧ og (cReg B m fr) D D' := by
  obtain ⟨gt, rc, A, on, ev, lm, ch, frs, rp, cr, fm, me⟩ := z
  have hi : lm[i]? = some f := hi
  obtain ⟨hil, hif⟩ := List.getElem?_eq_some_iff.mp hi
  have hk : cLm S D (B + 29 + 2 * m + 71) lm := h.1.2.2.2.2.1
  have ho := hk.2.2 f (by rw [← hif]; exact List.getElem_mem hil)
  obtain ⟨D3, t1, t2, t3⟩ := kt_set (cLm_kt.mp hk) hil (j := 2) (by decide) (lm_to f.2.1 n f) (fun q hq hne => by
    rw [hif]
    rcases (show q = 0 ∨ q = 1 ∨ q = 3 ∨ q = 4 ∨ q = 5 ∨ q = 6 ∨ q = 7 ∨ q = 8 by omega) with e | e | e | e | e | e | e | e <;> subst e <;> rfl) (by rw [hif]; rfl) ho
  obtain ⟨x1, x2⟩ := cW.keepX h (h.1.uLm (t3.up.mono (fun y k e => by omega)) t2) t3.up (by omega) (by omega) (by omega) (by omega) (fun y k e => by omega)
  exact ⟨D3, t1, x1, x2⟩
theorem wc_lget {S : ob_S} {D : ob_D} {B m fr F w pt i : Nat} {z : sW} {f : sLm} (h : cW S D B m fr F w pt z) (hi : z.2.2.2.2.2.1[i]? = some f) {j : Nat} (hj : j < 9) : f_Table_get S (B + 29 + 2 * m + 71) (N32 i) (N32 j) D = some (lm_line f j, D) := by
  obtain ⟨gt, rc, A, on, ev, lm, ch, frs, rp, cr, fm, me⟩ := z
  have hi : lm[i]? = some f := hi
  obtain ⟨hil, hif⟩ := List.getElem?_eq_some_iff.mp hi
  have := kt_get (cLm_kt.mp h.2.2.2.2.1) hil hj
  rw [hif] at this
  exact this
theorem wset_get {i : Nat} {n : Int32} {f : sLm} {z : sW} (hi : z.2.2.2.2.2.1[i]? = some f) : (w_wset i n f z).2.2.2.2.2.1[i]? = some (lm_to f.2.1 n f) := by
  obtain ⟨gt, rc, A, on, ev, lm, ch, frs, rp, cr, fm, me⟩ := z
  have hi : lm[i]? = some f := hi
  obtain ⟨hil, hif⟩ := List.getElem?_eq_some_iff.mp hi
  show (lm.set i (lm_to f.2.1 n f))[i]? = _
  rw [List.getElem?_set_self hil]
theorem wc_lbrk {S : ob_S} {D : ob_D} {B m fr F w pt i : Nat} {z : sW} {c : List Nat} {f g : sLm} {x : Int32} (h : cX S D B m fr F w pt z c) (hi : z.2.2.2.2.2.1[i]? = some g) (h7 : g.2.2.2.2.2.2.2.1 = f.2.2.2.2.2.2.2.1) (h8 : g.2.2.2.2.2.2.2.2 = f.2.2.2.2.2.2.2.2) (hck : w_ck z + pt < 2147483648) (ho : lm_ok g) : ∃ D', (ob_lt (ob_pI D (B + 29 + 2 * m + 80 + 2 * fr + 7) 12 ((D.1 (B + 29 + 2 * m + 80 + 2 * fr + 7) 12) + (1 : Int32))) fun D18 => if D18.2.1 (B + 29 + 2 * m + 80 + 2 * fr + 7) 4 ≠ 0 then ob_bd (f_Table_get S (B + 29 + 2 * m + 71) (N32 i) (7 : Int32) D18) fun x23 D21 => ob_bv (f_Events_raise S (D18.2.1 (B + 29 + 2 * m + 80 + 2 * fr + 7) 4) x23 x D21) fun D24 => ob_bd (f_Table_get S (B + 29 + 2 * m + 71) (N32 i) (8 : Int32) D24) fun x28 D26 => (if x28 = (1 : Int32) then (if (D26.1 (B + 29 + 2 * m + 80 + 2 * fr + 7) 9) = (-1 : Int32) then ob_lt (ob_pI D26 (B + 29 + 2 * m + 80 + 2 * fr + 7) 9 (((D26.1 (B + 29 + 2 * m + 80 + 2 * fr + 7) 8) + (D26.1 (B + 29 + 2 * m + 80 + 2 * fr + 7) 0)) - (1 : Int32))) fun D29 => some D29 else some D26) else some D26) else none) = some D' ∧ cX S D' B m fr F w pt (w_brk pt x f z) c ∧ og (cReg B m fr) D D' := by
  obtain ⟨gt, rc, A, on, ev, lm, ch, frs, rp, ⟨wi, mo, ck, al, hd, fa, br⟩, fm, me⟩ := z
  have hck : ck + pt < 2147483648 := hck
  have hi : lm[i]? = some g := hi
  have hA := h.1.2.2.2.2.2.2.2.1
  have hF := h.1.2.2.2.2.2.2.2.2.1
  have hF1 := hF.brk
  have g1 : og (fun y k => y = B + 29 + 2 * m + 80 + 2 * fr + 7 ∧ 7 ≤ k) D (ob_pI D (B + 29 + 2 * m + 80 + 2 * fr + 7) 12 (D.1 (B + 29 + 2 * m + 80 + 2 * fr + 7) 12 + 1)) := og.pI ⟨rfl, by decide⟩
  generalize hD1 : ob_pI D (B + 29 + 2 * m + 80 + 2 * fr + 7) 12 (D.1 (B + 29 + 2 * m + 80 + 2 * fr + 7) 12 + 1) = D1 at hF1 g1
  have hx1 := cW.keepX h (h.1.uCr (g1.mono (fun y k e => by omega)) hF1) g1 (by omega) (by omega) (by omega) (by omega) (fun y k e => by omega)
  have hA1 := hx1.1.1.2.2.2.2.2.2.2.1
  have hE1 := hx1.1.1.2.2.2.1
  obtain ⟨D2, t1, t2, t3⟩ := evc_raise hE1 (e := g.2.2.2.2.2.2.2.1) ho.2.2.2.1 x
  have hx2 := cW.keepX hx1.1 (hx1.1.1.uEv (t3.mono (fun y k e => by unfold evP at e; omega)) t2) t3 (fun k e => by unfold evP at e; omega) (fun k e => by unfold evP at e; omega) (fun k e => by unfold evP at e; omega) (fun k e => by unfold evP at e; omega) (fun y k e => by unfold evP at e; omega)
  have v7 : f_Table_get S (B + 29 + 2 * m + 71) (N32 i) 7 D1 = some (N32 g.2.2.2.2.2.2.2.1, D1) := wc_lget hx1.1.1 (f := g) hi (j := 7) (by decide)
  have v8 : f_Table_get S (B + 29 + 2 * m + 71) (N32 i) 8 D2 = some (N32 g.2.2.2.2.2.2.2.2, D2) := wc_lget hx2.1.1 (f := g) hi (j := 8) (by decide)
  simp only [ob_lt]
  rw [hA1.2.2.2.1, if_pos (by omega), v7]
  simp only [ob_bd]
  rw [t1]
  simp only [ob_bv]
  rw [v8]
  simp only [ob_bd]
  have hF2 := hx2.1.1.2.2.2.2.2.2.2.2.1
  have e9 : D2.1 (B + 29 + 2 * m + 80 + 2 * fr + 7) 9 = al_v al := hF2.2.2.2.2.1
  have e8 : D2.1 (B + 29 + 2 * m + 80 + 2 * fr + 7) 8 = N32 ck := hF2.2.2.2.1
  have e0 : D2.1 (B + 29 + 2 * m + 80 + 2 * fr + 7) 0 = N32 pt := hF2.2.2.2.2.2.2.2.2.2.1
  have hpt : 1 ≤ pt := hF2.2.2.2.2.2.2.2.2.2.2.1
  have hal : ∀ a, al = some a → a < 2147483648 := hF2.2.2.2.2.2.1
  have hl2 : g.2.2.2.2.2.2.2.2 < 2 := ho.2.2.2.2
  have ew : w_brk pt x f (gt, rc, A, on, ev, lm, ch, frs, rp, (wi, mo, ck, al, hd, fa, br), fm, me) = (gt, rc, A, on, ev_raise g.2.2.2.2.2.2.2.1 x ev, lm, ch, frs, rp, (wi, mo, ck, al_new ck pt g.2.2.2.2.2.2.2.2 al, hd, fa, br + 1), fm, me) := by
    rw [h7, h8]
    rfl
  rw [ew]
  unfold al_new
  by_cases hL : g.2.2.2.2.2.2.2.2 = 1
  · rw [if_pos (show N32 g.2.2.2.2.2.2.2.2 = 1 by rw [hL]; rfl), if_pos hL, e9]
    cases al with
    | none =>
      rw [if_pos (show al_v none = -1 from rfl)]
      have ev' : ((D2.1 (B + 29 + 2 * m + 80 + 2 * fr + 7) 8) + (D2.1 (B + 29 + 2 * m + 80 + 2 * fr + 7) 0)) - (1 : Int32) = al_v (some (ck + pt - 1)) := by
        rw [e8, e0, nb_add]
        exact nb_sub (a := ck + pt) (b := 1) (by omega)
      rw [ev']
      have hF3 := hF2.setal (al' := some (ck + pt - 1)) (fun a e => by cases e; omega)
      have g3 : og (fun y k => y = B + 29 + 2 * m + 80 + 2 * fr + 7 ∧ 7 ≤ k) D2 (ob_pI D2 (B + 29 + 2 * m + 80 + 2 * fr + 7) 9 (al_v (some (ck + pt - 1)))) := og.pI ⟨rfl, by decide⟩
      have hx3 := cW.keepX hx2.1 (hx2.1.1.uCr (g3.mono (fun y k e => by omega)) hF3) g3 (by omega) (by omega) (by omega) (by omega) (fun y k e => by omega)
      exact ⟨_, rfl, hx3.1, (hx1.2.tr hx2.2).tr hx3.2⟩
    | some a =>
      rw [if_neg (by rw [al_none hal]; exact fun e => by cases e)]
      exact ⟨D2, rfl, hx2.1, hx1.2.tr hx2.2⟩
  · rw [if_neg (by rw [show (1 : Int32) = N32 1 from rfl, nb_eq (by omega) (by decide)]; exact hL), if_neg hL]
    exact ⟨D2, rfl, hx2.1, hx1.2.tr hx2.2⟩
theorem wc_watch {S : ob_S} {D : ob_D} {B m fr F w pt i : Nat} {z : sW} {c : List Nat} {f : sLm} (h : cX S D B m fr F w pt z c) (hi : z.2.2.2.2.2.1[i]? = some f) (hck : w_ck z + pt < 2147483648) : ∃ D', f_Craft_watchOne S (B + 29 + 2 * m + 80 + 2 * fr + 7) (B + 29 + 2 * m + 71) (N32 i) D = some D' ∧ cX S D' B m fr F w pt (w_wat pt i f z) c ∧ og (cReg B m fr) D D' := by
  have ho : lm_ok f := by
    obtain ⟨gt, rc, A, on, ev, lm, ch, frs, rp, cr, fm, me⟩ := z
    have hi : lm[i]? = some f := hi
    exact h.1.2.2.2.2.1.2.2 f (List.mem_of_getElem? hi)
  have v3 : f_Table_get S (B + 29 + 2 * m + 71) (N32 i) 3 D = some (N32 f.2.2.2.1, D) := wc_lget h.1 hi (j := 3) (by decide)
  have v5 : f_Table_get S (B + 29 + 2 * m + 71) (N32 i) 5 D = some (f.2.2.2.2.2.1, D) := wc_lget h.1 hi (j := 5) (by decide)
  have v6 : f_Table_get S (B + 29 + 2 * m + 71) (N32 i) 6 D = some (f.2.2.2.2.2.2.1, D) := wc_lget h.1 hi (j := 6) (by decide)
  have v2 : f_Table_get S (B + 29 + 2 * m + 71) (N32 i) 2 D = some (f.2.2.1, D) := wc_lget h.1 hi (j := 2) (by decide)
  have hp := wc_par h.1 ho.2.1
  have h40 : ∃ D', f_Craft_watchOne_L40 S (B + 29 + 2 * m + 80 + 2 * fr + 7) (B + 29 + 2 * m + 71) (N32 i) (w_par f.2.2.2.1 z) D = some D' ∧ cX S D' B m fr F w pt (if f.2.2.1 + 1 = N32 f.2.2.2.2.1 then w_brk pt (w_par f.2.2.2.1 z) f (w_wset i (f.2.2.1 + 1) f z) else w_wset i (f.2.2.1 + 1) f z) c ∧ og (cReg B m fr) D D' := by
    obtain ⟨D3, t1, t2, t3⟩ := wc_lset h hi (f.2.2.1 + 1)
    have hi3 := wset_get (n := f.2.2.1 + 1) hi
    have v4 : f_Table_get S (B + 29 + 2 * m + 71) (N32 i) 4 D3 = some (N32 f.2.2.2.2.1, D3) := wc_lget t2.1 hi3 (j := 4) (by decide)
    unfold f_Craft_watchOne_L40
    rw [v2]
    simp only [ob_bd]
    rw [t1]
    simp only [ob_bv]
    rw [v4]
    simp only [ob_bd]
    by_cases hn : f.2.2.1 + 1 = N32 f.2.2.2.2.1
    · rw [if_pos hn, if_pos hn]
      have hck3 : w_ck (w_wset i (f.2.2.1 + 1) f z) = w_ck z := by
        obtain ⟨gt, rc, A, on, ev, lm, ch, frs, rp, cr, fm, me⟩ := z
        rfl
      obtain ⟨D', u1, u2, u3⟩ := wc_lbrk (x := w_par f.2.2.2.1 z) (f := f) t2 hi3 rfl rfl (by rw [hck3]; exact hck) ho
      exact ⟨D', u1, u2, t3.tr u3⟩
    · rw [if_neg hn, if_neg hn]
      exact ⟨D3, rfl, t2, t3⟩
  unfold f_Craft_watchOne w_wat
  rw [v3]
  simp only [ob_bd]
  rw [hp]
  simp only [ob_bd]
  rw [v5]
  simp only [ob_bd]
  by_cases h1 : w_par f.2.2.2.1 z < f.2.2.2.2.2.1
  · rw [if_pos h1, if_pos (Or.inl h1)]
    exact h40
  · rw [if_neg h1, v6]
    simp only [ob_bd]
    by_cases h2 : f.2.2.2.2.2.2.1 < w_par f.2.2.2.1 z
    · rw [if_pos h2, if_pos (Or.inr h2)]
      exact h40
    · rw [if_neg h2, if_neg (by rintro (e | e); exact h1 e; exact h2 e)]
      obtain ⟨D3, t1, t2, t3⟩ := wc_lset h hi 0
      rw [t1]
      exact ⟨D3, rfl, t2, t3⟩
