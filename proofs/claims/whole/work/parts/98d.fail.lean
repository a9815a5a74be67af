-- ===== what a command fails by =====
def hf (m : Nat) (c : List Nat) : sW → Nat
  | (gt, rc, A, on, ev, lm, ch, frs, rp, cr, fm, me) => if nn c 7 2 = 769 then (nf_v c fm) else if nn c 7 2 = 771 then (lf_v 14 true (fun f : sFm => f.1) (fun f : sFm => f.2.1) (c.getD 11 0) fm) else if nn c 7 2 = 773 then (lf_v 14 false (fun f : sFm => f.1) (fun f : sFm => f.2.1) (c.getD 11 0) fm) else if nn c 7 2 = 774 then (lf_v 14 false (fun f : sFm => f.1) (fun f : sFm => f.2.1) (c.getD 11 0) fm) else if nn c 7 2 = 795 then (lf_v 14 false (fun f : sFm => f.1) (fun f : sFm => f.2.1) (c.getD 11 0) fm) else if nn c 7 2 = 1285 then (if c.getD 11 0 < 32 then 0 else 16) else if nn c 7 2 = 1286 then (if c.getD 11 0 < 32 then 0 else 16) else if nn c 7 2 = 1538 then (pm_v (c.getD 13 0) (nn c 11 2)) else if nn c 7 2 = 1541 then (pm_v (c.getD 13 0) (nn c 11 2)) else if nn c 7 2 = 1545 then (pm_v (nn c 13 2) (nn c 11 2)) else if nn c 7 2 = 2049 then (ff_v (c.getD 11 0) (c.getD 12 0) cr.2.1) else if nn c 7 2 = 2820 then (te_v c A.length m cr.2.2.1) else if nn c 7 2 = 2821 then (te_has c A) else if nn c 7 2 = 2831 then (te_can c cr.2.2.1 A) else if nn c 7 2 = 3073 then (lf_v 27 false (fun f : sLm => f.1) (fun f : sLm => f.2.1) (c.getD 11 0) lm) else if nn c 7 2 = 3074 then (lf_v 27 false (fun f : sLm => f.1) (fun f : sLm => f.2.1) (c.getD 11 0) lm) else if nn c 7 2 = 3077 then (nl_v c lm) else if nn c 7 2 = 3078 then (lf_v 27 true (fun f : sLm => f.1) (fun f : sLm => f.2.1) (c.getD 11 0) lm) else if nn c 7 2 = 3841 then (if c.getD 11 0 < 32 then 0 else 32) else if nn c 7 2 = 3842 then (if c.getD 11 0 < 32 then 0 else 32) else if nn c 7 2 = 3849 then (if rp.2.2.2.2.2.1 = true then 28 else 0) else if nn c 7 2 = 3852 then (if rp.2.2.2.2.2.1 = true then 0 else 28) else if nn c 7 2 = 4865 then (na_v c ev) else if nn c 7 2 = 4866 then (af_v true c ev) else if nn c 7 2 = 4868 then (af_v false c ev) else if nn c 7 2 = 4869 then (af_v false c ev) else 0
theorem kl_v {len s : Nat} (h : kf_c (-1) len s = 0) : len = 3 + s := by
  unfold kf_c at h
  rw [if_pos rfl] at h
  by_cases h1 : len < 3
  · rw [if_pos h1] at h; exact absurd h (by decide)
  · rw [if_neg h1] at h
    by_cases h2 : len = 3 + s
    · exact h2
    · rw [if_neg h2] at h; exact absurd h (by decide)
theorem kl_e {k len s : Nat} (hk : k < 100) (hl : len < 1000) (h : kf_c (N32 k) len s = 0) : len = k := by
  unfold kf_c at h
  have h1 : ¬ N32 k = -1 := by
    intro e
    have e2 : (N32 k).toInt = (-1 : Int32).toInt := by rw [e]
    rw [nb_toInt (by omega)] at e2
    have e3 : (-1 : Int32).toInt = -1 := by decide
    omega
  have h2 : -1 ≤ N32 k := by
    rw [Int32.le_iff_toInt_le, nb_toInt (by omega)]
    have e3 : (-1 : Int32).toInt = -1 := by decide
    omega
  rw [if_neg h1, if_pos h2, if_en (by omega) (by omega)] at h
  by_cases e : len = k
  · exact e
  · rw [if_neg e] at h; exact absurd h (by decide)
theorem kl_17 {len s : Nat} (hl : len < 1000) (h : kf_c (-17) len s = 0) : 17 ≤ len := by
  unfold kf_c at h
  rw [if_neg (by decide), if_neg (by decide), show -(-17 : Int32) = N32 17 by decide, if_lt (by omega) (by decide)] at h
  by_cases e : len < 17
  · rw [if_pos e] at h; exact absurd h (by decide)
  · omega
theorem kl_14 {len s : Nat} (hl : len < 1000) (h : kf_c (-14) len s = 0) : 14 ≤ len := by
  unfold kf_c at h
  rw [if_neg (by decide), if_neg (by decide), show -(-14 : Int32) = N32 14 by decide, if_lt (by omega) (by decide)] at h
  by_cases e : len < 14
  · rw [if_pos e] at h; exact absurd h (by decide)
  · omega
theorem fo_kind {c : List Nat} (h : fo c = 0) : 13 ≤ c.length ∧ kf (nn c 7 2) (c.length - 13) (c.getD 13 0) = 0 ∧ c.getD 6 0 / 16 = 2 := by
  have h13 := fo_13 h
  unfold fo at h
  rw [if_neg (by omega)] at h
  by_cases c1 : c.length = nn c 4 2 + 7
  case neg => rw [if_neg c1] at h; exact absurd h (by decide)
  rw [if_pos c1] at h
  by_cases c2 : cr_f c = 0
  case neg => rw [if_neg c2] at h; exact absurd h (by decide)
  rw [if_pos c2] at h
  by_cases c3 : nn c 0 2 / 2048 = 3
  case neg => rw [if_neg c3] at h; exact absurd h (by decide)
  rw [if_pos c3] at h
  by_cases c4 : c.getD 2 0 / 64 = 3
  case neg => rw [if_neg c4] at h; exact absurd h (by decide)
  rw [if_pos c4] at h
  by_cases c5 : nn c 0 2 % 2048 = 42
  case neg => rw [if_neg c5] at h; exact absurd h (by decide)
  rw [if_pos c5] at h
  by_cases c6 : c.getD 6 0 / 16 = 2
  case neg => rw [if_neg c6] at h; exact absurd h (by decide)
  rw [if_pos c6] at h
  exact ⟨h13, h, c6⟩
theorem kl_769 {c : List Nat} (h : fo c = 0) (hc : c.length ≤ 252) (hK : nn c 7 2 = 769) : c.length = 16 + c.getD 13 0 := by
  obtain ⟨h13, hk, -⟩ := fo_kind h
  rw [hK] at hk
  have hk : kf_c (-1) (c.length - 13) (c.getD 13 0) = 0 := hk
  have := kl_v (s := c.getD 13 0) (len := c.length - 13) hk; omega
theorem kl_771 {c : List Nat} (h : fo c = 0) (hc : c.length ≤ 252) (hK : nn c 7 2 = 771) : c.length = 14 := by
  obtain ⟨h13, hk, -⟩ := fo_kind h
  rw [hK] at hk
  have hk : kf_c (N32 1) (c.length - 13) (c.getD 13 0) = 0 := hk
  have := kl_e (k := 1) (s := c.getD 13 0) (len := c.length - 13) (by decide) (by omega) hk; omega
theorem kl_773 {c : List Nat} (h : fo c = 0) (hc : c.length ≤ 252) (hK : nn c 7 2 = 773) : c.length = 14 := by
  obtain ⟨h13, hk, -⟩ := fo_kind h
  rw [hK] at hk
  have hk : kf_c (N32 1) (c.length - 13) (c.getD 13 0) = 0 := hk
  have := kl_e (k := 1) (s := c.getD 13 0) (len := c.length - 13) (by decide) (by omega) hk; omega
theorem kl_774 {c : List Nat} (h : fo c = 0) (hc : c.length ≤ 252) (hK : nn c 7 2 = 774) : c.length = 14 := by
  obtain ⟨h13, hk, -⟩ := fo_kind h
  rw [hK] at hk
  have hk : kf_c (N32 1) (c.length - 13) (c.getD 13 0) = 0 := hk
  have := kl_e (k := 1) (s := c.getD 13 0) (len := c.length - 13) (by decide) (by omega) hk; omega
theorem kl_795 {c : List Nat} (h : fo c = 0) (hc : c.length ≤ 252) (hK : nn c 7 2 = 795) : c.length = 14 := by
  obtain ⟨h13, hk, -⟩ := fo_kind h
  rw [hK] at hk
  have hk : kf_c (N32 1) (c.length - 13) (c.getD 13 0) = 0 := hk
  have := kl_e (k := 1) (s := c.getD 13 0) (len := c.length - 13) (by decide) (by omega) hk; omega
theorem kl_1285 {c : List Nat} (h : fo c = 0) (hc : c.length ≤ 252) (hK : nn c 7 2 = 1285) : c.length = 14 := by
  obtain ⟨h13, hk, -⟩ := fo_kind h
  rw [hK] at hk
  have hk : kf_c (N32 1) (c.length - 13) (c.getD 13 0) = 0 := hk
  have := kl_e (k := 1) (s := c.getD 13 0) (len := c.length - 13) (by decide) (by omega) hk; omega
theorem kl_1286 {c : List Nat} (h : fo c = 0) (hc : c.length ≤ 252) (hK : nn c 7 2 = 1286) : c.length = 14 := by
  obtain ⟨h13, hk, -⟩ := fo_kind h
  rw [hK] at hk
  have hk : kf_c (N32 1) (c.length - 13) (c.getD 13 0) = 0 := hk
  have := kl_e (k := 1) (s := c.getD 13 0) (len := c.length - 13) (by decide) (by omega) hk; omega
theorem kl_1538 {c : List Nat} (h : fo c = 0) (hc : c.length ≤ 252) (hK : nn c 7 2 = 1538) : c.length = 16 + c.getD 13 0 := by
  obtain ⟨h13, hk, -⟩ := fo_kind h
  rw [hK] at hk
  have hk : kf_c (-1) (c.length - 13) (c.getD 13 0) = 0 := hk
  have := kl_v (s := c.getD 13 0) (len := c.length - 13) hk; omega
theorem kl_1541 {c : List Nat} (h : fo c = 0) (hc : c.length ≤ 252) (hK : nn c 7 2 = 1541) : c.length = 16 := by
  obtain ⟨h13, hk, -⟩ := fo_kind h
  rw [hK] at hk
  have hk : kf_c (N32 3) (c.length - 13) (c.getD 13 0) = 0 := hk
  have := kl_e (k := 3) (s := c.getD 13 0) (len := c.length - 13) (by decide) (by omega) hk; omega
theorem kl_1545 {c : List Nat} (h : fo c = 0) (hc : c.length ≤ 252) (hK : nn c 7 2 = 1545) : c.length = 17 := by
  obtain ⟨h13, hk, -⟩ := fo_kind h
  rw [hK] at hk
  have hk : kf_c (N32 4) (c.length - 13) (c.getD 13 0) = 0 := hk
  have := kl_e (k := 4) (s := c.getD 13 0) (len := c.length - 13) (by decide) (by omega) hk; omega
theorem kl_2049 {c : List Nat} (h : fo c = 0) (hc : c.length ≤ 252) (hK : nn c 7 2 = 2049) : c.length = 19 := by
  obtain ⟨h13, hk, -⟩ := fo_kind h
  rw [hK] at hk
  have hk : kf_c (N32 6) (c.length - 13) (c.getD 13 0) = 0 := hk
  have := kl_e (k := 6) (s := c.getD 13 0) (len := c.length - 13) (by decide) (by omega) hk; omega
theorem kl_2817 {c : List Nat} (h : fo c = 0) (hc : c.length ≤ 252) (hK : nn c 7 2 = 2817) : c.length = 13 := by
  obtain ⟨h13, hk, -⟩ := fo_kind h
  rw [hK] at hk
  have hk : kf_c (N32 0) (c.length - 13) (c.getD 13 0) = 0 := hk
  have := kl_e (k := 0) (s := c.getD 13 0) (len := c.length - 13) (by decide) (by omega) hk; omega
theorem kl_2818 {c : List Nat} (h : fo c = 0) (hc : c.length ≤ 252) (hK : nn c 7 2 = 2818) : c.length = 13 := by
  obtain ⟨h13, hk, -⟩ := fo_kind h
  rw [hK] at hk
  have hk : kf_c (N32 0) (c.length - 13) (c.getD 13 0) = 0 := hk
  have := kl_e (k := 0) (s := c.getD 13 0) (len := c.length - 13) (by decide) (by omega) hk; omega
theorem kl_2819 {c : List Nat} (h : fo c = 0) (hc : c.length ≤ 252) (hK : nn c 7 2 = 2819) : c.length = 13 := by
  obtain ⟨h13, hk, -⟩ := fo_kind h
  rw [hK] at hk
  have hk : kf_c (N32 0) (c.length - 13) (c.getD 13 0) = 0 := hk
  have := kl_e (k := 0) (s := c.getD 13 0) (len := c.length - 13) (by decide) (by omega) hk; omega
theorem kl_2820 {c : List Nat} (h : fo c = 0) (hc : c.length ≤ 252) (hK : nn c 7 2 = 2820) : 30 ≤ c.length := by
  obtain ⟨h13, hk, -⟩ := fo_kind h
  rw [hK] at hk
  have hk : kf_c (-17) (c.length - 13) (c.getD 13 0) = 0 := hk
  have := kl_17 (s := c.getD 13 0) (len := c.length - 13) (by omega) hk; omega
theorem kl_2821 {c : List Nat} (h : fo c = 0) (hc : c.length ≤ 252) (hK : nn c 7 2 = 2821) : c.length = 15 := by
  obtain ⟨h13, hk, -⟩ := fo_kind h
  rw [hK] at hk
  have hk : kf_c (N32 2) (c.length - 13) (c.getD 13 0) = 0 := hk
  have := kl_e (k := 2) (s := c.getD 13 0) (len := c.length - 13) (by decide) (by omega) hk; omega
theorem kl_2831 {c : List Nat} (h : fo c = 0) (hc : c.length ≤ 252) (hK : nn c 7 2 = 2831) : c.length = 17 := by
  obtain ⟨h13, hk, -⟩ := fo_kind h
  rw [hK] at hk
  have hk : kf_c (N32 4) (c.length - 13) (c.getD 13 0) = 0 := hk
  have := kl_e (k := 4) (s := c.getD 13 0) (len := c.length - 13) (by decide) (by omega) hk; omega
theorem kl_2833 {c : List Nat} (h : fo c = 0) (hc : c.length ≤ 252) (hK : nn c 7 2 = 2833) : c.length = 13 := by
  obtain ⟨h13, hk, -⟩ := fo_kind h
  rw [hK] at hk
  have hk : kf_c (N32 0) (c.length - 13) (c.getD 13 0) = 0 := hk
  have := kl_e (k := 0) (s := c.getD 13 0) (len := c.length - 13) (by decide) (by omega) hk; omega
theorem kl_3073 {c : List Nat} (h : fo c = 0) (hc : c.length ≤ 252) (hK : nn c 7 2 = 3073) : c.length = 14 := by
  obtain ⟨h13, hk, -⟩ := fo_kind h
  rw [hK] at hk
  have hk : kf_c (N32 1) (c.length - 13) (c.getD 13 0) = 0 := hk
  have := kl_e (k := 1) (s := c.getD 13 0) (len := c.length - 13) (by decide) (by omega) hk; omega
theorem kl_3074 {c : List Nat} (h : fo c = 0) (hc : c.length ≤ 252) (hK : nn c 7 2 = 3074) : c.length = 14 := by
  obtain ⟨h13, hk, -⟩ := fo_kind h
  rw [hK] at hk
  have hk : kf_c (N32 1) (c.length - 13) (c.getD 13 0) = 0 := hk
  have := kl_e (k := 1) (s := c.getD 13 0) (len := c.length - 13) (by decide) (by omega) hk; omega
theorem kl_3077 {c : List Nat} (h : fo c = 0) (hc : c.length ≤ 252) (hK : nn c 7 2 = 3077) : c.length = 26 := by
  obtain ⟨h13, hk, -⟩ := fo_kind h
  rw [hK] at hk
  have hk : kf_c (N32 13) (c.length - 13) (c.getD 13 0) = 0 := hk
  have := kl_e (k := 13) (s := c.getD 13 0) (len := c.length - 13) (by decide) (by omega) hk; omega
theorem kl_3078 {c : List Nat} (h : fo c = 0) (hc : c.length ≤ 252) (hK : nn c 7 2 = 3078) : c.length = 14 := by
  obtain ⟨h13, hk, -⟩ := fo_kind h
  rw [hK] at hk
  have hk : kf_c (N32 1) (c.length - 13) (c.getD 13 0) = 0 := hk
  have := kl_e (k := 1) (s := c.getD 13 0) (len := c.length - 13) (by decide) (by omega) hk; omega
theorem kl_3841 {c : List Nat} (h : fo c = 0) (hc : c.length ≤ 252) (hK : nn c 7 2 = 3841) : c.length = 14 := by
  obtain ⟨h13, hk, -⟩ := fo_kind h
  rw [hK] at hk
  have hk : kf_c (N32 1) (c.length - 13) (c.getD 13 0) = 0 := hk
  have := kl_e (k := 1) (s := c.getD 13 0) (len := c.length - 13) (by decide) (by omega) hk; omega
theorem kl_3842 {c : List Nat} (h : fo c = 0) (hc : c.length ≤ 252) (hK : nn c 7 2 = 3842) : c.length = 14 := by
  obtain ⟨h13, hk, -⟩ := fo_kind h
  rw [hK] at hk
  have hk : kf_c (N32 1) (c.length - 13) (c.getD 13 0) = 0 := hk
  have := kl_e (k := 1) (s := c.getD 13 0) (len := c.length - 13) (by decide) (by omega) hk; omega
theorem kl_3849 {c : List Nat} (h : fo c = 0) (hc : c.length ≤ 252) (hK : nn c 7 2 = 3849) : c.length = 21 := by
  obtain ⟨h13, hk, -⟩ := fo_kind h
  rw [hK] at hk
  have hk : kf_c (N32 8) (c.length - 13) (c.getD 13 0) = 0 := hk
  have := kl_e (k := 8) (s := c.getD 13 0) (len := c.length - 13) (by decide) (by omega) hk; omega
theorem kl_3851 {c : List Nat} (h : fo c = 0) (hc : c.length ≤ 252) (hK : nn c 7 2 = 3851) : c.length = 17 := by
  obtain ⟨h13, hk, -⟩ := fo_kind h
  rw [hK] at hk
  have hk : kf_c (N32 4) (c.length - 13) (c.getD 13 0) = 0 := hk
  have := kl_e (k := 4) (s := c.getD 13 0) (len := c.length - 13) (by decide) (by omega) hk; omega
theorem kl_3852 {c : List Nat} (h : fo c = 0) (hc : c.length ≤ 252) (hK : nn c 7 2 = 3852) : c.length = 13 := by
  obtain ⟨h13, hk, -⟩ := fo_kind h
  rw [hK] at hk
  have hk : kf_c (N32 0) (c.length - 13) (c.getD 13 0) = 0 := hk
  have := kl_e (k := 0) (s := c.getD 13 0) (len := c.length - 13) (by decide) (by omega) hk; omega
theorem kl_4353 {c : List Nat} (h : fo c = 0) (hc : c.length ≤ 252) (hK : nn c 7 2 = 4353) : c.length = 13 := by
  obtain ⟨h13, hk, -⟩ := fo_kind h
  rw [hK] at hk
  have hk : kf_c (N32 0) (c.length - 13) (c.getD 13 0) = 0 := hk
  have := kl_e (k := 0) (s := c.getD 13 0) (len := c.length - 13) (by decide) (by omega) hk; omega
theorem kl_4865 {c : List Nat} (h : fo c = 0) (hc : c.length ≤ 252) (hK : nn c 7 2 = 4865) : 27 ≤ c.length := by
  obtain ⟨h13, hk, -⟩ := fo_kind h
  rw [hK] at hk
  have hk : kf_c (-14) (c.length - 13) (c.getD 13 0) = 0 := hk
  have := kl_14 (s := c.getD 13 0) (len := c.length - 13) (by omega) hk; omega
theorem kl_4866 {c : List Nat} (h : fo c = 0) (hc : c.length ≤ 252) (hK : nn c 7 2 = 4866) : c.length = 14 := by
  obtain ⟨h13, hk, -⟩ := fo_kind h
  rw [hK] at hk
  have hk : kf_c (N32 1) (c.length - 13) (c.getD 13 0) = 0 := hk
  have := kl_e (k := 1) (s := c.getD 13 0) (len := c.length - 13) (by decide) (by omega) hk; omega
theorem kl_4868 {c : List Nat} (h : fo c = 0) (hc : c.length ≤ 252) (hK : nn c 7 2 = 4868) : c.length = 14 := by
  obtain ⟨h13, hk, -⟩ := fo_kind h
  rw [hK] at hk
  have hk : kf_c (N32 1) (c.length - 13) (c.getD 13 0) = 0 := hk
  have := kl_e (k := 1) (s := c.getD 13 0) (len := c.length - 13) (by decide) (by omega) hk; omega
theorem kl_4869 {c : List Nat} (h : fo c = 0) (hc : c.length ≤ 252) (hK : nn c 7 2 = 4869) : c.length = 14 := by
  obtain ⟨h13, hk, -⟩ := fo_kind h
  rw [hK] at hk
  have hk : kf_c (N32 1) (c.length - 13) (c.getD 13 0) = 0 := hk
  have := kl_e (k := 1) (s := c.getD 13 0) (len := c.length - 13) (by decide) (by omega) hk; omega
theorem wc_failure {S : ob_S} {D : ob_D} {B m fr F w pt : Nat} {z : sW} {c : List Nat} (h : cX S D B m fr F w pt z c) (hfo : fo c = 0) : f_Handler_failureOf S (B + 29 + 2 * m + 80 + 2 * fr + 9) (N32 (nn c 7 2)) D = some (N32 (hf m c z), D) := by
  obtain ⟨gt, rc, A, on, ev, lm, ch, frs, rp, cr, fm, me⟩ := z
  obtain ⟨hW, -, hc⟩ := h
  have hH := hW.hd
  have hfm := hW.2.2.2.2.2.2.2.2.2.1
  have hlm := hW.2.2.2.2.1
  have hev := hW.2.2.2.1
  have htt := hW.2.2.1
  have hcr := hW.2.2.2.2.2.2.2.2.1
  have hrp := hW.2.2.2.2.2.2.1
  have hcl : c.length ≤ 252 := hc.2.2.2.2.2.1
  have hb := hc.2.2.2.2.2.2.2.2
  have b11 := by_getD_lt hb 11
  have b7 := nn_lt hb 7 2
  have d0 : f_Handler_data S (B + 29 + 2 * m + 80 + 2 * fr + 9) 0 1 D = some (N32 (c.getD 11 0), D) := hc_d1 hH hc (i := 0) (by decide)
  have ek : hf m c (gt, rc, A, on, ev, lm, ch, frs, rp, cr, fm, me) = if nn c 7 2 = 769 then (nf_v c fm) else if nn c 7 2 = 771 then (lf_v 14 true (fun f : sFm => f.1) (fun f : sFm => f.2.1) (c.getD 11 0) fm) else if nn c 7 2 = 773 then (lf_v 14 false (fun f : sFm => f.1) (fun f : sFm => f.2.1) (c.getD 11 0) fm) else if nn c 7 2 = 774 then (lf_v 14 false (fun f : sFm => f.1) (fun f : sFm => f.2.1) (c.getD 11 0) fm) else if nn c 7 2 = 795 then (lf_v 14 false (fun f : sFm => f.1) (fun f : sFm => f.2.1) (c.getD 11 0) fm) else if nn c 7 2 = 1285 then (if c.getD 11 0 < 32 then 0 else 16) else if nn c 7 2 = 1286 then (if c.getD 11 0 < 32 then 0 else 16) else if nn c 7 2 = 1538 then (pm_v (c.getD 13 0) (nn c 11 2)) else if nn c 7 2 = 1541 then (pm_v (c.getD 13 0) (nn c 11 2)) else if nn c 7 2 = 1545 then (pm_v (nn c 13 2) (nn c 11 2)) else if nn c 7 2 = 2049 then (ff_v (c.getD 11 0) (c.getD 12 0) cr.2.1) else if nn c 7 2 = 2820 then (te_v c A.length m cr.2.2.1) else if nn c 7 2 = 2821 then (te_has c A) else if nn c 7 2 = 2831 then (te_can c cr.2.2.1 A) else if nn c 7 2 = 3073 then (lf_v 27 false (fun f : sLm => f.1) (fun f : sLm => f.2.1) (c.getD 11 0) lm) else if nn c 7 2 = 3074 then (lf_v 27 false (fun f : sLm => f.1) (fun f : sLm => f.2.1) (c.getD 11 0) lm) else if nn c 7 2 = 3077 then (nl_v c lm) else if nn c 7 2 = 3078 then (lf_v 27 true (fun f : sLm => f.1) (fun f : sLm => f.2.1) (c.getD 11 0) lm) else if nn c 7 2 = 3841 then (if c.getD 11 0 < 32 then 0 else 32) else if nn c 7 2 = 3842 then (if c.getD 11 0 < 32 then 0 else 32) else if nn c 7 2 = 3849 then (if rp.2.2.2.2.2.1 = true then 28 else 0) else if nn c 7 2 = 3852 then (if rp.2.2.2.2.2.1 = true then 0 else 28) else if nn c 7 2 = 4865 then (na_v c ev) else if nn c 7 2 = 4866 then (af_v true c ev) else if nn c 7 2 = 4868 then (af_v false c ev) else if nn c 7 2 = 4869 then (af_v false c ev) else 0 := rfl
  rw [ek]
  clear ek
  unfold f_Handler_failureOf
  by_cases hK : nn c 7 2 = 769
  · rw [if_pos (show N32 (nn c 7 2) = (769 : Int32) by rw [hK]; rfl), if_pos hK]
    rw [hc_newform hH hc hfm (kl_769 hfo hcl hK)]
    rfl
  rw [if_neg (show ¬ N32 (nn c 7 2) = (769 : Int32) by rw [show (769 : Int32) = N32 769 from rfl, nb_eq (by omega) (by decide)]; exact hK), if_neg hK]
  clear hK
  by_cases hK : nn c 7 2 = 771
  · rw [if_pos (show N32 (nn c 7 2) = (771 : Int32) by rw [hK]; rfl), if_pos hK]
    have e : f_Handler_lineFailure S (B + 29 + 2 * m + 80 + 2 * fr + 9) (B + 29 + 2 * m + 80 + 2 * fr + 10) 14 1 D = _ := hc_line (on := (fun f : sFm => f.2.1)) hH hc (cFm_kt.mp hfm) fm_l0 (fun _ => rfl) (by decide) fm_o0 14 true
    rw [hH.2.2.2.2.2.1, if_pos (by omega), e]
    rfl
  rw [if_neg (show ¬ N32 (nn c 7 2) = (771 : Int32) by rw [show (771 : Int32) = N32 771 from rfl, nb_eq (by omega) (by decide)]; exact hK), if_neg hK]
  clear hK
  by_cases hK : nn c 7 2 = 773
  · rw [if_pos (show N32 (nn c 7 2) = (773 : Int32) by rw [hK]; rfl), if_pos hK]
    have e : f_Handler_lineFailure S (B + 29 + 2 * m + 80 + 2 * fr + 9) (B + 29 + 2 * m + 80 + 2 * fr + 10) 14 0 D = _ := hc_line (on := (fun f : sFm => f.2.1)) hH hc (cFm_kt.mp hfm) fm_l0 (fun _ => rfl) (by decide) fm_o0 14 false
    rw [hH.2.2.2.2.2.1, if_pos (by omega), e]
    rfl
  rw [if_neg (show ¬ N32 (nn c 7 2) = (773 : Int32) by rw [show (773 : Int32) = N32 773 from rfl, nb_eq (by omega) (by decide)]; exact hK), if_neg hK]
  clear hK
  by_cases hK : nn c 7 2 = 774
  · rw [if_pos (show N32 (nn c 7 2) = (774 : Int32) by rw [hK]; rfl), if_pos hK]
    have e : f_Handler_lineFailure S (B + 29 + 2 * m + 80 + 2 * fr + 9) (B + 29 + 2 * m + 80 + 2 * fr + 10) 14 0 D = _ := hc_line (on := (fun f : sFm => f.2.1)) hH hc (cFm_kt.mp hfm) fm_l0 (fun _ => rfl) (by decide) fm_o0 14 false
    rw [hH.2.2.2.2.2.1, if_pos (by omega), e]
    rfl
  rw [if_neg (show ¬ N32 (nn c 7 2) = (774 : Int32) by rw [show (774 : Int32) = N32 774 from rfl, nb_eq (by omega) (by decide)]; exact hK), if_neg hK]
  clear hK
  by_cases hK : nn c 7 2 = 795
  · rw [if_pos (show N32 (nn c 7 2) = (795 : Int32) by rw [hK]; rfl), if_pos hK]
    have e : f_Handler_lineFailure S (B + 29 + 2 * m + 80 + 2 * fr + 9) (B + 29 + 2 * m + 80 + 2 * fr + 10) 14 0 D = _ := hc_line (on := (fun f : sFm => f.2.1)) hH hc (cFm_kt.mp hfm) fm_l0 (fun _ => rfl) (by decide) fm_o0 14 false
    rw [hH.2.2.2.2.2.1, if_pos (by omega), e]
    rfl
  rw [if_neg (show ¬ N32 (nn c 7 2) = (795 : Int32) by rw [show (795 : Int32) = N32 795 from rfl, nb_eq (by omega) (by decide)]; exact hK), if_neg hK]
  clear hK
  by_cases hK : nn c 7 2 = 1285
  · rw [if_pos (show N32 (nn c 7 2) = (1285 : Int32) by rw [hK]; rfl), if_pos hK]
    rw [d0]
    simp only [ob_bd]
    by_cases he : c.getD 11 0 < 32
    · rw [evc_there he, if_pos he]; rfl
    · rw [evc_there0 he (by omega), if_neg he]; rfl
  rw [if_neg (show ¬ N32 (nn c 7 2) = (1285 : Int32) by rw [show (1285 : Int32) = N32 1285 from rfl, nb_eq (by omega) (by decide)]; exact hK), if_neg hK]
  clear hK
  by_cases hK : nn c 7 2 = 1286
  · rw [if_pos (show N32 (nn c 7 2) = (1286 : Int32) by rw [hK]; rfl), if_pos hK]
    rw [d0]
    simp only [ob_bd]
    by_cases he : c.getD 11 0 < 32
    · rw [evc_there he, if_pos he]; rfl
    · rw [evc_there0 he (by omega), if_neg he]; rfl
  rw [if_neg (show ¬ N32 (nn c 7 2) = (1286 : Int32) by rw [show (1286 : Int32) = N32 1286 from rfl, nb_eq (by omega) (by decide)]; exact hK), if_neg hK]
  clear hK
  by_cases hK : nn c 7 2 = 1538
  · rw [if_pos (show N32 (nn c 7 2) = (1538 : Int32) by rw [hK]; rfl), if_pos hK]
    have d2 : f_Handler_data S (B + 29 + 2 * m + 80 + 2 * fr + 9) 2 1 D = some (N32 (c.getD 13 0), D) := hc_d1 hH hc (i := 2) (by decide)
    rw [d2]
    simp only [ob_bd]
    rw [hc_place2 hH hc (by have := by_getD_lt hb 13; omega)]
  rw [if_neg (show ¬ N32 (nn c 7 2) = (1538 : Int32) by rw [show (1538 : Int32) = N32 1538 from rfl, nb_eq (by omega) (by decide)]; exact hK), if_neg hK]
  clear hK
  by_cases hK : nn c 7 2 = 1541
  · rw [if_pos (show N32 (nn c 7 2) = (1541 : Int32) by rw [hK]; rfl), if_pos hK]
    have d2 : f_Handler_data S (B + 29 + 2 * m + 80 + 2 * fr + 9) 2 1 D = some (N32 (c.getD 13 0), D) := hc_d1 hH hc (i := 2) (by decide)
    rw [d2]
    simp only [ob_bd]
    rw [hc_place2 hH hc (by have := by_getD_lt hb 13; omega)]
  rw [if_neg (show ¬ N32 (nn c 7 2) = (1541 : Int32) by rw [show (1541 : Int32) = N32 1541 from rfl, nb_eq (by omega) (by decide)]; exact hK), if_neg hK]
  clear hK
  by_cases hK : nn c 7 2 = 1545
  · rw [if_pos (show N32 (nn c 7 2) = (1545 : Int32) by rw [hK]; rfl), if_pos hK]
    have d2 : f_Handler_data S (B + 29 + 2 * m + 80 + 2 * fr + 9) 2 2 D = some (N32 (nn c 13 2), D) := wc_data hH hc (i := 2) (n := 2) (by decide) (by decide)
    rw [d2]
    simp only [ob_bd]
    rw [hc_place2 hH hc (by have := nn_lt hb 13 2; omega)]
  rw [if_neg (show ¬ N32 (nn c 7 2) = (1545 : Int32) by rw [show (1545 : Int32) = N32 1545 from rfl, nb_eq (by omega) (by decide)]; exact hK), if_neg hK]
  clear hK
  by_cases hK : nn c 7 2 = 2049
  · rw [if_pos (show N32 (nn c 7 2) = (2049 : Int32) by rw [hK]; rfl), if_pos hK]
    have d1 : f_Handler_data S (B + 29 + 2 * m + 80 + 2 * fr + 9) 1 1 D = some (N32 (c.getD 12 0), D) := hc_d1 hH hc (i := 1) (by decide)
    rw [d0]
    simp only [ob_bd]
    rw [d1]
    simp only [ob_bd]
    rw [hc_funfail hH hcr (by omega) (by have := by_getD_lt hb 12; omega)]
  rw [if_neg (show ¬ N32 (nn c 7 2) = (2049 : Int32) by rw [show (2049 : Int32) = N32 2049 from rfl, nb_eq (by omega) (by decide)]; exact hK), if_neg hK]
  clear hK
  by_cases hK : nn c 7 2 = 2820
  · rw [if_pos (show N32 (nn c 7 2) = (2820 : Int32) by rw [hK]; rfl), if_pos hK]
    have hl := kl_2820 hfo hcl hK
    rw [hc_newentry hH hc htt hcr (by omega)]
    rfl
  rw [if_neg (show ¬ N32 (nn c 7 2) = (2820 : Int32) by rw [show (2820 : Int32) = N32 2820 from rfl, nb_eq (by omega) (by decide)]; exact hK), if_neg hK]
  clear hK
  by_cases hK : nn c 7 2 = 2821
  · rw [if_pos (show N32 (nn c 7 2) = (2821 : Int32) by rw [hK]; rfl), if_pos hK]
    have d2 : f_Handler_data S (B + 29 + 2 * m + 80 + 2 * fr + 9) 0 2 D = some (N32 (nn c 11 2), D) := wc_data hH hc (i := 0) (n := 2) (by decide) (by decide)
    rw [hH.2.2.1, if_pos (by omega), d2]
    simp only [ob_bd]
    rw [n_16383, ttc_has htt (Nat.mod_lt _ (by decide)), any_sort]
    simp only [ob_bd]
    rw [if_bI]
    unfold te_has
    by_cases he : A.any (fun e => en_no e == nn c 11 2 % 16384) = true
    · rw [if_pos he, if_pos he]; rfl
    · rw [if_neg he, if_neg he]; rfl
  rw [if_neg (show ¬ N32 (nn c 7 2) = (2821 : Int32) by rw [show (2821 : Int32) = N32 2821 from rfl, nb_eq (by omega) (by decide)]; exact hK), if_neg hK]
  clear hK
  by_cases hK : nn c 7 2 = 2831
  · rw [if_pos (show N32 (nn c 7 2) = (2831 : Int32) by rw [hK]; rfl), if_pos hK]
    have d4 : f_Handler_data S (B + 29 + 2 * m + 80 + 2 * fr + 9) 0 4 D = some (N32 (nn c 11 4), D) := wc_data hH hc (i := 0) (n := 4) (by decide) (by decide)
    have v8 : D.1 (B + 29 + 2 * m + 80 + 2 * fr + 7) 8 = N32 cr.2.2.1 := by obtain ⟨wi, mo, ck, al, hd, fa, br⟩ := cr; exact hcr.2.2.2.1
    rw [hH.2.2.1, if_pos (by omega), d4]
    simp only [ob_bd]
    rw [hH.1, if_pos (by omega), v8, ttc_can htt, can_sort]
    simp only [ob_bd]
    rw [if_bI]
    unfold te_can
    by_cases he : tt_can (N32 (nn c 11 4)) (N32 cr.2.2.1) A = true
    · rw [if_pos he, if_pos he]; rfl
    · rw [if_neg he, if_neg he]; rfl
  rw [if_neg (show ¬ N32 (nn c 7 2) = (2831 : Int32) by rw [show (2831 : Int32) = N32 2831 from rfl, nb_eq (by omega) (by decide)]; exact hK), if_neg hK]
  clear hK
  by_cases hK : nn c 7 2 = 3073
  · rw [if_pos (show N32 (nn c 7 2) = (3073 : Int32) by rw [hK]; rfl), if_pos hK]
    have e : f_Handler_lineFailure S (B + 29 + 2 * m + 80 + 2 * fr + 9) (B + 29 + 2 * m + 71) 27 0 D = _ := hc_line (on := (fun f : sLm => f.2.1)) hH hc (cLm_kt.mp hlm) lm_l0 (fun _ => rfl) (by decide) lm_o0 27 false
    rw [hH.2.2.2.2.2.2.1, if_pos (by omega), e]
    rfl
  rw [if_neg (show ¬ N32 (nn c 7 2) = (3073 : Int32) by rw [show (3073 : Int32) = N32 3073 from rfl, nb_eq (by omega) (by decide)]; exact hK), if_neg hK]
  clear hK
  by_cases hK : nn c 7 2 = 3074
  · rw [if_pos (show N32 (nn c 7 2) = (3074 : Int32) by rw [hK]; rfl), if_pos hK]
    have e : f_Handler_lineFailure S (B + 29 + 2 * m + 80 + 2 * fr + 9) (B + 29 + 2 * m + 71) 27 0 D = _ := hc_line (on := (fun f : sLm => f.2.1)) hH hc (cLm_kt.mp hlm) lm_l0 (fun _ => rfl) (by decide) lm_o0 27 false
    rw [hH.2.2.2.2.2.2.1, if_pos (by omega), e]
    rfl
  rw [if_neg (show ¬ N32 (nn c 7 2) = (3074 : Int32) by rw [show (3074 : Int32) = N32 3074 from rfl, nb_eq (by omega) (by decide)]; exact hK), if_neg hK]
  clear hK
  by_cases hK : nn c 7 2 = 3077
  · rw [if_pos (show N32 (nn c 7 2) = (3077 : Int32) by rw [hK]; rfl), if_pos hK]
    rw [hc_newlim hH hc hlm]
    rfl
  rw [if_neg (show ¬ N32 (nn c 7 2) = (3077 : Int32) by rw [show (3077 : Int32) = N32 3077 from rfl, nb_eq (by omega) (by decide)]; exact hK), if_neg hK]
  clear hK
  by_cases hK : nn c 7 2 = 3078
  · rw [if_pos (show N32 (nn c 7 2) = (3078 : Int32) by rw [hK]; rfl), if_pos hK]
    have e : f_Handler_lineFailure S (B + 29 + 2 * m + 80 + 2 * fr + 9) (B + 29 + 2 * m + 71) 27 1 D = _ := hc_line (on := (fun f : sLm => f.2.1)) hH hc (cLm_kt.mp hlm) lm_l0 (fun _ => rfl) (by decide) lm_o0 27 true
    rw [hH.2.2.2.2.2.2.1, if_pos (by omega), e]
    rfl
  rw [if_neg (show ¬ N32 (nn c 7 2) = (3078 : Int32) by rw [show (3078 : Int32) = N32 3078 from rfl, nb_eq (by omega) (by decide)]; exact hK), if_neg hK]
  clear hK
  by_cases hK : nn c 7 2 = 3841
  · rw [if_pos (show N32 (nn c 7 2) = (3841 : Int32) by rw [hK]; rfl), if_pos hK]
    rw [d0]
    simp only [ob_bd]
    unfold f_Reports_isService
    rw [if_neg (by rw [nb_neg (by omega)]; exact id)]
    by_cases he : c.getD 11 0 < 32
    · rw [if_neg (by rw [show (32 : Int32) = N32 32 from rfl, nb_le (by decide) (by omega)]; omega), if_pos he]; rfl
    · rw [if_pos (by rw [show (32 : Int32) = N32 32 from rfl, nb_le (by decide) (by omega)]; omega), if_neg he]; rfl
  rw [if_neg (show ¬ N32 (nn c 7 2) = (3841 : Int32) by rw [show (3841 : Int32) = N32 3841 from rfl, nb_eq (by omega) (by decide)]; exact hK), if_neg hK]
  clear hK
  by_cases hK : nn c 7 2 = 3842
  · rw [if_pos (show N32 (nn c 7 2) = (3842 : Int32) by rw [hK]; rfl), if_pos hK]
    rw [d0]
    simp only [ob_bd]
    unfold f_Reports_isService
    rw [if_neg (by rw [nb_neg (by omega)]; exact id)]
    by_cases he : c.getD 11 0 < 32
    · rw [if_neg (by rw [show (32 : Int32) = N32 32 from rfl, nb_le (by decide) (by omega)]; omega), if_pos he]; rfl
    · rw [if_pos (by rw [show (32 : Int32) = N32 32 from rfl, nb_le (by decide) (by omega)]; omega), if_neg he]; rfl
  rw [if_neg (show ¬ N32 (nn c 7 2) = (3842 : Int32) by rw [show (3842 : Int32) = N32 3842 from rfl, nb_eq (by omega) (by decide)]; exact hK), if_neg hK]
  clear hK
  by_cases hK : nn c 7 2 = 3849
  · rw [if_pos (show N32 (nn c 7 2) = (3849 : Int32) by rw [hK]; rfl), if_pos hK]
    have v8 : D.1 (B + 29 + 2 * m + 80 + 2 * fr) 8 = bI rp.2.2.2.2.2.1 := by obtain ⟨st, sd, md, all, lo, rt, rfr, rtt, rc⟩ := rp; exact hrp.2.2.2.2.2.1
    rw [hH.2.2.2.2.1, if_pos (by omega), v8, if_bI]
    by_cases he : rp.2.2.2.2.2.1 = true
    · rw [if_pos he, if_pos he]; rfl
    · rw [if_neg he, if_neg he]; rfl
  rw [if_neg (show ¬ N32 (nn c 7 2) = (3849 : Int32) by rw [show (3849 : Int32) = N32 3849 from rfl, nb_eq (by omega) (by decide)]; exact hK), if_neg hK]
  clear hK
  by_cases hK : nn c 7 2 = 3852
  · rw [if_pos (show N32 (nn c 7 2) = (3852 : Int32) by rw [hK]; rfl), if_pos hK]
    have v8 : D.1 (B + 29 + 2 * m + 80 + 2 * fr) 8 = bI rp.2.2.2.2.2.1 := by obtain ⟨st, sd, md, all, lo, rt, rfr, rtt, rc⟩ := rp; exact hrp.2.2.2.2.2.1
    rw [hH.2.2.2.2.1, if_pos (by omega), v8, if_bI]
    by_cases he : rp.2.2.2.2.2.1 = true
    · rw [if_pos he, if_pos he]; rfl
    · rw [if_neg he, if_neg he]; rfl
  rw [if_neg (show ¬ N32 (nn c 7 2) = (3852 : Int32) by rw [show (3852 : Int32) = N32 3852 from rfl, nb_eq (by omega) (by decide)]; exact hK), if_neg hK]
  clear hK
  by_cases hK : nn c 7 2 = 4865
  · rw [if_pos (show N32 (nn c 7 2) = (4865 : Int32) by rw [hK]; rfl), if_pos hK]
    have hl := kl_4865 hfo hcl hK
    rw [d0]
    simp only [ob_bd]
    rw [hc_newact hH hc hev (by omega)]
  rw [if_neg (show ¬ N32 (nn c 7 2) = (4865 : Int32) by rw [show (4865 : Int32) = N32 4865 from rfl, nb_eq (by omega) (by decide)]; exact hK), if_neg hK]
  clear hK
  by_cases hK : nn c 7 2 = 4866
  · rw [if_pos (show N32 (nn c 7 2) = (4866 : Int32) by rw [hK]; rfl), if_pos hK]
    have e : f_Handler_actionFailure S (B + 29 + 2 * m + 80 + 2 * fr + 9) (N32 (c.getD 11 0)) 1 D = _ := hc_actfail hH hc hev true
    rw [d0]
    simp only [ob_bd]
    rw [e]
  rw [if_neg (show ¬ N32 (nn c 7 2) = (4866 : Int32) by rw [show (4866 : Int32) = N32 4866 from rfl, nb_eq (by omega) (by decide)]; exact hK), if_neg hK]
  clear hK
  by_cases hK : nn c 7 2 = 4868
  · rw [if_pos (show N32 (nn c 7 2) = (4868 : Int32) by rw [hK]; rfl), if_pos hK]
    have e : f_Handler_actionFailure S (B + 29 + 2 * m + 80 + 2 * fr + 9) (N32 (c.getD 11 0)) 0 D = _ := hc_actfail hH hc hev false
    rw [d0]
    simp only [ob_bd]
    rw [e]
  rw [if_neg (show ¬ N32 (nn c 7 2) = (4868 : Int32) by rw [show (4868 : Int32) = N32 4868 from rfl, nb_eq (by omega) (by decide)]; exact hK), if_neg hK]
  clear hK
  by_cases hK : nn c 7 2 = 4869
  · rw [if_pos (show N32 (nn c 7 2) = (4869 : Int32) by rw [hK]; rfl), if_pos hK]
    have e : f_Handler_actionFailure S (B + 29 + 2 * m + 80 + 2 * fr + 9) (N32 (c.getD 11 0)) 0 D = _ := hc_actfail hH hc hev false
    rw [d0]
    simp only [ob_bd]
    rw [e]
  rw [if_neg (show ¬ N32 (nn c 7 2) = (4869 : Int32) by rw [show (4869 : Int32) = N32 4869 from rfl, nb_eq (by omega) (by decide)]; exact hK), if_neg hK]
  clear hK
  rfl
