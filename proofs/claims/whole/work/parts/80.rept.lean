-- ===== reports, in the whole =====
theorem rp_head_len (s k : Nat) (clk : Int32) (z : sRp) : (rp_head s k clk z).length = 17 := by
  obtain ⟨st, sd, md, all, lo, rt, fr, tt, rc⟩ := z
  rfl
theorem rp_head_lt (s k : Nat) (clk : Int32) (z : sRp) : ∀ x ∈ rp_head s k clk z, x < 256 := by
  obtain ⟨st, sd, md, all, lo, rt, fr, tt, rc⟩ := z
  intro x hx
  unfold rp_head rp_hd at hx
  simp only [List.mem_append] at hx
  rcases hx with (((((((((hx | hx) | hx) | hx) | hx) | hx) | hx) | hx) | hx) | hx)
  · exact absurd hx (by simp)
  all_goals exact by_be_lt _ _ x hx
theorem rp_head_7 {s : Nat} (hs : s < 32) (k : Nat) (clk : Int32) (z : sRp) (body : List Nat) : (rp_head s k clk z ++ body).getD 7 0 = s := by
  rw [app_get_l (by rw [rp_head_len]; decide)]
  obtain ⟨st, sd, md, all, lo, rt, fr, tt, rc⟩ := z
  show by_of (N32 s) 0 = s
  rw [by_of_n0]
  omega
theorem by_be_nn (x : Int32) : N32 (by_of x 3 * 256 * 65536 + by_of x 2 * 65536 + by_of x 1 * 256 + by_of x 0) = x := by
  have h : by_of x 3 * 256 * 65536 + by_of x 2 * 65536 + by_of x 1 * 256 + by_of x 0 = x.toUInt32.toNat := by
    unfold by_of
    have := x.toUInt32.toNat_lt
    rw [Nat.shiftRight_eq_div_pow, Nat.shiftRight_eq_div_pow, Nat.shiftRight_eq_div_pow, Nat.shiftRight_eq_div_pow]
    simp only [Nat.reduceMul, Nat.reducePow]
    omega
  rw [h]
  exact n_ofU x
theorem rp_head_13 (s k : Nat) (clk : Int32) (z : sRp) (body : List Nat) : N32 (nn (rp_head s k clk z ++ body) 13 4) = clk := by
  rw [nn_left _ _ _ _ (by rw [rp_head_len]; decide)]
  obtain ⟨st, sd, md, all, lo, rt, fr, tt, rc⟩ := z
  have e : nn (rp_head s k clk (st, sd, md, all, lo, rt, fr, tt, rc)) 13 4 = by_of clk 3 * 256 * 65536 + by_of clk 2 * 65536 + by_of clk 1 * 256 + by_of clk 0 := by
    rw [nn_4, nn_2, nn_2]
    show (by_of clk 3 * 256 + by_of clk 2) * 65536 + (by_of clk 1 * 256 + by_of clk 0) = _
    omega
  rw [e]
  exact by_be_nn clk
theorem rp_send_lt {w : Nat} {p lv : List Nat} {z : sRp} (hp : ∀ x ∈ p, x < 256) (hl : ∀ x ∈ lv, x < 512) : ∀ x ∈ (rp_send w p lv z).1, x < 512 := by
  unfold rp_send
  split
  · intro x hx
    rcases List.mem_append.mp hx with e | e
    · exact hl x e
    · exact pkm_lt (rp_fin_lt hp) x e
  · exact hl
theorem rp_send_le {w : Nat} {p lv : List Nat} {z : sRp} (hl : lv.length ≤ 4096) : (rp_send w p lv z).1.length ≤ 4096 := by
  unfold rp_send
  split
  next h =>
    show (lv ++ pkm (rp_fin p)).length ≤ 4096
    rw [List.length_append, pkm_len]
    exact h
  next => exact hl
def w_rep (w s k : Nat) (body : List Nat) : sW → sW
  | (gt, rc, A, on, ev, lm, (lv, rv, so, al), frs, rp, cr, fm, me) => (gt, rc, A, on, ev, lm, ((rp_send w (rp_head s k (N32 cr.2.2.1) rp ++ body) lv (rp_begin s k rp)).1, rv, so, al), frs, (rp_send w (rp_head s k (N32 cr.2.2.1) rp ++ body) lv (rp_begin s k rp)).2, cr, fm, me)
/-- begun: the reports know it, and the head lies in the packet -/
def w_beg (s k : Nat) : sW → sW
  | (gt, rc, A, on, ev, lm, ch, frs, rp, cr, fm, me) => (gt, rc, A, on, ev, lm, ch, frs, rp_begin s k rp, cr, fm, me)
def w_hd (s k : Nat) : sW → List Nat
  | (_, _, _, _, _, _, _, _, rp, cr, _, _) => rp_head s k (N32 cr.2.2.1) rp
def w_snd (w : Nat) (p : List Nat) : sW → sW
  | (gt, rc, A, on, ev, lm, (lv, rv, so, al), frs, rp, cr, fm, me) => (gt, rc, A, on, ev, lm, ((rp_send w p lv rp).1, rv, so, al), frs, (rp_send w p lv rp).2, cr, fm, me)
theorem w_rep_eq (w s k : Nat) (body : List Nat) (z : sW) : w_rep w s k body z = w_snd w (w_hd s k z ++ body) (w_beg s k z) := by
  obtain ⟨gt, rc, A, on, ev, lm, ⟨lv, rv, so, al⟩, frs, rp, cr, fm, me⟩ := z
  rfl
theorem w_hd_len (s k : Nat) (z : sW) : (w_hd s k z).length = 17 := by
  obtain ⟨gt, rc, A, on, ev, lm, ch, frs, rp, cr, fm, me⟩ := z
  exact rp_head_len _ _ _ _
abbrev cReg (B m fr : Nat) : Nat → Nat → Prop := fun y _ => B + 3 ≤ y ∧ y < B + 29 + 2 * m + 80 + 2 * fr + 14
abbrev cPk (S : ob_S) (D : ob_D) (B m fr : Nat) (p : List Nat) : Prop := rw_at S D (B + 29 + 2 * m + 80 + 2 * fr + 3) (B + 29 + 2 * m + 80 + 2 * fr + 4) 277 p
abbrev cCm (S : ob_S) (D : ob_D) (B m fr : Nat) (c : List Nat) : Prop := rw_at S D (B + 29 + 2 * m + 80 + 2 * fr + 12) (B + 29 + 2 * m + 80 + 2 * fr + 13) 252 c
theorem wc_begin {S : ob_S} {D : ob_D} {B m fr F w pt : Nat} {z : sW} {p c : List Nat} (h : cW S D B m fr F w pt z) (hp : cPk S D B m fr p) (hc : cCm S D B m fr c) {s k : Nat} (hs : s < 32) (hk : k < 32) : ∃ D', f_Reports_begin S (B + 29 + 2 * m + 80 + 2 * fr) (N32 s) (N32 k) (D.1 (B + 29 + 2 * m + 80 + 2 * fr + 7) 8) D = some (B + 29 + 2 * m + 80 + 2 * fr + 3, D') ∧ cW S D' B m fr F w pt (w_beg s k z) ∧ cPk S D' B m fr (w_hd s k z) ∧ cCm S D' B m fr c ∧ og (cReg B m fr) D D' := by
  obtain ⟨gt, rc, A, on, ev, lm, ch, frs, rp, ⟨wi, mo, ck, al, hd, fa, br⟩, fm, me⟩ := z
  have h9 := h.2.2.2.2.2.2.2.2.1
  have h7 := h.2.2.2.2.2.2.1
  obtain ⟨D', t1, t2, t3, t4⟩ := rpc_begin h7 hp hs hk (N32 ck)
  refine ⟨D', ?_, h.uRp (t4.mono (fun y k e => ⟨by have := e.1; omega, by have := e.2; omega⟩)) t2, t3, hc.keep t4 (fun k e => by have := e.1; have := e.2; omega) (fun k e => by have := e.1; have := e.2; omega) rfl, t4.mono (fun y k e => ⟨by have := e.1; omega, by have := e.2; omega⟩)⟩
  rw [h9.2.2.2.1]
  exact t1
theorem wc_send {S : ob_S} {D : ob_D} {B m fr F w pt : Nat} {z : sW} {p c : List Nat} (h : cW S D B m fr F w pt z) (hp : cPk S D B m fr p) (hc : cCm S D B m fr c) (h17 : 17 ≤ p.length) (h275 : p.length ≤ 275) (h7 : p.getD 7 0 < 32) : ∃ D', f_Reports_send S (B + 29 + 2 * m + 80 + 2 * fr) D = some D' ∧ cW S D' B m fr F w pt (w_snd w p z) ∧ cPk S D' B m fr (rp_fin p) ∧ cCm S D' B m fr c ∧ og (cReg B m fr) D D' := by
  obtain ⟨gt, rc, A, on, ev, lm, ⟨lv, rv, so, al⟩, frs, rp, cr, fm, me⟩ := z
  have hdn := h.2.2.2.2.2.1
  have hrp := h.2.2.2.2.2.2.1
  obtain ⟨D', t1, t2, t3, t4, t5⟩ := rpc_send hrp hdn.2.1.1 (by omega) hp h17 h275 h7
  have hlt := rp_send_lt (w := w) (z := rp) hp.2.2.2.2.2.2.2.2 hdn.2.1.2.2.1
  exact ⟨D', t1, h.uSd (t5.mono (fun y k e => by omega)) t2 t3 hlt, t4, hc.keep t5 (by omega) (by omega) rfl, t5.mono (fun y k e => by omega)⟩
-- ===== the reference's =====
theorem wm_begin {S : ob_S} {D : ob_D} {M m fr F w pt : Nat} {z : sW} {p c : List Nat} (h : mW S D M m fr F w pt z) (hp : mPk D M p) (hc : mCm D M c) {s k : Nat} (hs : s < 32) (hk : k < 32) : ∃ D', f_Model_report S M (N32 s) (N32 k) D = some D' ∧ mW S D' M m fr F w pt (w_beg s k z) ∧ mPk D' M (w_hd s k z) ∧ mCm D' M c ∧ oi (fun y k => M ≤ y ∧ y < M + 50 ∧ y ≠ M + 1 ∧ ¬ (y = M ∧ k = 7)) D D' := by
  obtain ⟨gt, rc, A, on, ev, lm, ch, frs, rp, ⟨wi, mo, ck, al, hd, fa, br⟩, fm, me⟩ := z
  have hcr := h.2.2.2.2.2.2.2.2.2.1
  have hrp := h.2.2.2.2.2.2.2.2.1
  obtain ⟨D', t1, t2, t3, t4⟩ := rpm_begin h.1 hrp hp hcr.2.2.2.1 hs hk
  exact ⟨D', t1, h.uRp (t4.mono (fun y k e => by omega)) t2, t3, hc.keep t4.up (by omega) (by omega), t4.mono (fun y k e => by omega)⟩
theorem wm_send {S : ob_S} {D : ob_D} {M m fr F w pt : Nat} {z : sW} {p c : List Nat} (h : mW S D M m fr F w pt z) (hp : mPk D M p) (hc : mCm D M c) (h17 : 17 ≤ p.length) (h275 : p.length ≤ 275) (h7 : p.getD 7 0 < 32) (hck : N32 z.2.2.2.2.2.2.2.2.2.1.2.2.1 = N32 (nn p 13 4)) : ∃ D', f_Model_made S M D = some D' ∧ mW S D' M m fr F w pt (w_snd w p z) ∧ mPk D' M (rp_fin p) ∧ mCm D' M c ∧ oi (fun y k => M ≤ y ∧ y < M + 50 ∧ y ≠ M + 1 ∧ ¬ (y = M ∧ k = 7)) D D' := by
  obtain ⟨gt, rc, A, on, ev, lm, ⟨lv, rv, so, al⟩, frs, rp, ⟨wi, mo, ck, al2, hd, fa, br⟩, fm, me⟩ := z
  have hcr := h.2.2.2.2.2.2.2.2.2.1
  have hrp := h.2.2.2.2.2.2.2.2.1
  have hch := h.2.2.2.2.2.2.1
  have hck' : N32 ck = N32 (nn p 13 4) := hck
  obtain ⟨D', t1, t2, t3, t4, t5⟩ := rpm_send h.1 hrp hch.1.1 hp h17 h275 h7 (by rw [hcr.2.2.2.1]; exact hck')
  exact ⟨D', t1, h.uSd (t5.mono (fun y k e => by omega)) t2 t3 (rp_send_le hch.2.1), t4, hc.keep t5.up (by omega) (by omega), t5.mono (fun y k e => by omega)⟩
