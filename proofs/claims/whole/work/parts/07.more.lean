section OB4
variable {l : Launch} {E : ob_E} {K K2 : ob_K} {pc q : Nat} {lo lo2 : List (Nat × Value)} {st st2 rest : List Value} {S T S2 : ob_S} {D D' D2 : ob_D} {Z : ob_Z} {r r2 : Option Value}
theorem ob_callVi {idx n c b : Nat} {As : List Value} {x : Int32} (d : ob_dc K pc (.invokevirtual idx) 3 q) (F : ob_vd K K2 idx n c) (ha : S.1 b = c + 1) (hn : As.length = n) (hst : st = As.reverse ++ .ref b :: rest) (hw : (rest.map fun v => v.category).sum ≤ 8) (hM : ob_M l E K2 (.ref b :: As) S D (some (.int x)) S2 D2) (m1 : S.2.2.1 ≤ S2.2.2.1 ∧ S.2.2.2 ≤ S2.2.2.2) (m2 : S2.2.2.1 ≤ T.2.2.1 ∧ S2.2.2.2 ≤ T.2.2.2)
    (kk : ob_G l E K q lo (.int x :: rest) S2 D2 Z T) : ob_G l E K pc lo st S D Z T := ob_callV d F ha hn hst hw hM m1 m2 kk
theorem ob_callVr {idx n c b x : Nat} {As : List Value} (d : ob_dc K pc (.invokevirtual idx) 3 q) (F : ob_vd K K2 idx n c) (ha : S.1 b = c + 1) (hn : As.length = n) (hst : st = As.reverse ++ .ref b :: rest) (hw : (rest.map fun v => v.category).sum ≤ 8) (hM : ob_M l E K2 (.ref b :: As) S D (some (.ref x)) S2 D2) (m1 : S.2.2.1 ≤ S2.2.2.1 ∧ S.2.2.2 ≤ S2.2.2.2) (m2 : S2.2.2.1 ≤ T.2.2.1 ∧ S2.2.2.2 ≤ T.2.2.2)
    (kk : ob_G l E K q lo (.ref x :: rest) S2 D2 Z T) : ob_G l E K pc lo st S D Z T := ob_callV d F ha hn hst hw hM m1 m2 kk
theorem ob_callVv {idx n c b : Nat} {As : List Value} (d : ob_dc K pc (.invokevirtual idx) 3 q) (F : ob_vd K K2 idx n c) (ha : S.1 b = c + 1) (hn : As.length = n) (hst : st = As.reverse ++ .ref b :: rest) (hw : (rest.map fun v => v.category).sum ≤ 8) (hM : ob_M l E K2 (.ref b :: As) S D none S2 D2) (m1 : S.2.2.1 ≤ S2.2.2.1 ∧ S.2.2.2 ≤ S2.2.2.2) (m2 : S2.2.2.1 ≤ T.2.2.1 ∧ S2.2.2.2 ≤ T.2.2.2)
    (kk : ob_G l E K q lo rest S2 D2 Z T) : ob_G l E K pc lo st S D Z T := ob_callV d F ha hn hst hw hM m1 m2 kk
theorem ob_callSi {idx n : Nat} {As : List Value} {x : Int32} (d : ob_dc K pc (.invokestatic idx) 3 q) (F : ob_sd K K2 idx n) (hn : As.length = n) (hst : st = As.reverse ++ rest) (hw : (rest.map fun v => v.category).sum ≤ 8) (hM : ob_M l E K2 As S D (some (.int x)) S2 D2) (m1 : S.2.2.1 ≤ S2.2.2.1 ∧ S.2.2.2 ≤ S2.2.2.2) (m2 : S2.2.2.1 ≤ T.2.2.1 ∧ S2.2.2.2 ≤ T.2.2.2)
    (kk : ob_G l E K q lo (.int x :: rest) S2 D2 Z T) : ob_G l E K pc lo st S D Z T := ob_callS d F hn hst hw hM m1 m2 kk
theorem ob_callSv {idx n : Nat} {As : List Value} (d : ob_dc K pc (.invokestatic idx) 3 q) (F : ob_sd K K2 idx n) (hn : As.length = n) (hst : st = As.reverse ++ rest) (hw : (rest.map fun v => v.category).sum ≤ 8) (hM : ob_M l E K2 As S D none S2 D2) (m1 : S.2.2.1 ≤ S2.2.2.1 ∧ S.2.2.2 ≤ S2.2.2.2) (m2 : S2.2.2.1 ≤ T.2.2.1 ∧ S2.2.2.2 ≤ T.2.2.2)
    (kk : ob_G l E K q lo rest S2 D2 Z T) : ob_G l E K pc lo st S D Z T := ob_callS d F hn hst hw hM m1 m2 kk
theorem ob_ie {v x : Int32} {D3 : ob_D} (h : some (v, D3) = some (x, D')) (k : ob_V l E K pc lo st S D (some (.int v)) T D3) : ob_V l E K pc lo st S D (some (.int x)) T D' := by
  cases h
  exact k
theorem ob_re {v x : Nat} {D3 : ob_D} (h : some (v, D3) = some (x, D')) (k : ob_V l E K pc lo st S D (some (.ref v)) T D3) : ob_V l E K pc lo st S D (some (.ref x)) T D' := by
  cases h
  exact k
theorem ob_ve {D3 : ob_D} (h : some D3 = some D') (k : ob_V l E K pc lo st S D r T D3) : ob_V l E K pc lo st S D r T D' := by
  cases h
  exact k
end OB4
theorem ob_nar1 {x : Int32} (h : x = 0 ∨ x = 1) : narrow .boolean (.int x) = .int x := by rcases h with rfl | rfl <;> rfl
