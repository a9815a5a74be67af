theorem ob_pure : ob_Pure 3077 := sorry
theorem i_vc : Claimed_1_1 ∧ Claimed_1_2 := ob_claim ob_pure
