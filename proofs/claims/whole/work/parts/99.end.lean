theorem i_vc : Claimed_1_1 ∧ Claimed_1_2 := ob_claim ob_pure
