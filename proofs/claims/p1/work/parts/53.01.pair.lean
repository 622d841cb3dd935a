set_option maxRecDepth 1000000 in
theorem pk_together_2_t : tPair [(0, 0)] tNo tNo 159 50 [.inl (0, 1, 1)] = true := by decide +kernel
theorem pk_together_2 (adK adV : Nat → Nat) (l : Launch) : PairOk adK adV l [(0, 0)] 159 50 [.inl (0, 1, 1)] := tPair0 pk_together_2_t
set_option maxRecDepth 1000000 in
theorem pk_together_3_t : tPair [(0, 0), (2, 2147483647)] tNo tNo 159 50 [.inl (1, 0, 0)] = true := by decide +kernel
theorem pk_together_3 (adK adV : Nat → Nat) (l : Launch) : PairOk adK adV l [(0, 0), (2, 2147483647)] 159 50 [.inl (1, 0, 0)] := tPair0 pk_together_3_t
set_option maxRecDepth 1000000 in
theorem pk_when_0_t : tPair [(0, 0), (-2147483648, -1)] tNo tNo 160 51 [.inl (1, 0, 0)] = true := by decide +kernel
theorem pk_when_0 (adK adV : Nat → Nat) (l : Launch) : PairOk adK adV l [(0, 0), (-2147483648, -1)] 160 51 [.inl (1, 0, 0)] := tPair0 pk_when_0_t
set_option maxRecDepth 1000000 in
theorem pk_when_1_t : tPair [(0, 0), (0, 2147483647)] tNo tNo 160 51 [.inl (1, 0, 0)] = true := by decide +kernel
theorem pk_when_1 (adK adV : Nat → Nat) (l : Launch) : PairOk adK adV l [(0, 0), (0, 2147483647)] 160 51 [.inl (1, 0, 0)] := tPair0 pk_when_1_t
set_option maxRecDepth 1000000 in
theorem pk_thick_0_t : tPair [(0, 0), (-2147483648, 0)] tNo tNo 161 52 [.inl (1, 0, 0)] = true := by decide +kernel
theorem pk_thick_0 (adK adV : Nat → Nat) (l : Launch) : PairOk adK adV l [(0, 0), (-2147483648, 0)] 161 52 [.inl (1, 0, 0)] := tPair0 pk_thick_0_t
set_option maxRecDepth 1000000 in
theorem pk_thick_2_t : tPair [(0, 0), (21, 2147483647)] tNo tNo 161 52 [.inl (1, 0, 0)] = true := by decide +kernel
theorem pk_thick_2 (adK adV : Nat → Nat) (l : Launch) : PairOk adK adV l [(0, 0), (21, 2147483647)] 161 52 [.inl (1, 0, 0)] := tPair0 pk_thick_2_t
set_option maxRecDepth 1000000 in
theorem pk_cut_0_t : tPair [(0, 0), (-2147483648, -1), (-2147483648, 2147483647)] tNo tNo 162 54 [.inl (1, 0, 0), .inl (2, 0, 0)] = true := by decide +kernel
theorem pk_cut_0 (adK adV : Nat → Nat) (l : Launch) : PairOk adK adV l [(0, 0), (-2147483648, -1), (-2147483648, 2147483647)] 162 54 [.inl (1, 0, 0), .inl (2, 0, 0)] := tPair0 pk_cut_0_t
set_option maxRecDepth 1000000 in
theorem pk_cut_1_t : tPair [(0, 0), (0, 2147483647), (-2147483648, 2147483647)] tNo tNo 162 54 [.inl (1, 0, 0), .inl (2, 0, 0)] = true := by decide +kernel
theorem pk_cut_1 (adK adV : Nat → Nat) (l : Launch) : PairOk adK adV l [(0, 0), (0, 2147483647), (-2147483648, 2147483647)] 162 54 [.inl (1, 0, 0), .inl (2, 0, 0)] := tPair0 pk_cut_1_t
set_option maxRecDepth 1000000 in
theorem pk_share_0_t : tPair [(0, 0), (-2147483648, -1), (-2147483648, 2147483647)] tNo tNo 163 55 [.inl (1, 0, 0), .inl (2, 0, 0)] = true := by decide +kernel
theorem pk_share_0 (adK adV : Nat → Nat) (l : Launch) : PairOk adK adV l [(0, 0), (-2147483648, -1), (-2147483648, 2147483647)] 163 55 [.inl (1, 0, 0), .inl (2, 0, 0)] := tPair0 pk_share_0_t
set_option maxRecDepth 1000000 in
theorem pk_share_1_t : tPair [(0, 0), (0, 2147483647), (-2147483648, 2147483647)] tNo tNo 163 55 [.inl (1, 0, 0), .inl (2, 0, 0)] = true := by decide +kernel
theorem pk_share_1 (adK adV : Nat → Nat) (l : Launch) : PairOk adK adV l [(0, 0), (0, 2147483647), (-2147483648, 2147483647)] 163 55 [.inl (1, 0, 0), .inl (2, 0, 0)] := tPair0 pk_share_1_t
set_option maxRecDepth 1000000 in
theorem pk_without_0_t : tPair [(0, 0), (-2147483648, -1)] tNo tNo 164 57 [.inl (1, 0, 0)] = true := by decide +kernel
theorem pk_without_0 (adK adV : Nat → Nat) (l : Launch) : PairOk adK adV l [(0, 0), (-2147483648, -1)] 164 57 [.inl (1, 0, 0)] := tPair0 pk_without_0_t
set_option maxRecDepth 1000000 in
theorem pk_without_1_t : tPair [(0, 0), (0, 2147483647)] tNo tNo 164 57 [.inl (1, 0, 0)] = true := by decide +kernel
theorem pk_without_1 (adK adV : Nat → Nat) (l : Launch) : PairOk adK adV l [(0, 0), (0, 2147483647)] 164 57 [.inl (1, 0, 0)] := tPair0 pk_without_1_t
set_option maxRecDepth 1000000 in
theorem pk_needed_0_t : tPair [(0, 0)] tNo tNo 165 58 [] = true := by decide +kernel
theorem pk_needed_0 (adK adV : Nat → Nat) (l : Launch) : PairOk adK adV l [(0, 0)] 165 58 [] := tPair0 pk_needed_0_t
set_option maxRecDepth 1000000 in
theorem pk_hottest_0_t : tPair [(0, 0), (-2147483648, -1)] tNo tNo 166 59 [.inl (1, 0, 0)] = true := by decide +kernel
theorem pk_hottest_0 (adK adV : Nat → Nat) (l : Launch) : PairOk adK adV l [(0, 0), (-2147483648, -1)] 166 59 [.inl (1, 0, 0)] := tPair0 pk_hottest_0_t
set_option maxRecDepth 1000000 in
theorem pk_hottest_1_t : tPair [(0, 0)] tNo tNo 166 59 [.inl (0, 0, 0)] = true := by decide +kernel
theorem pk_hottest_1 (adK adV : Nat → Nat) (l : Launch) : PairOk adK adV l [(0, 0)] 166 59 [.inl (0, 0, 0)] := tPair0 pk_hottest_1_t
set_option maxRecDepth 1000000 in
theorem pk_hottest_2_t : tPair [(0, 0)] tNo tNo 166 59 [.inl (0, 1, 1)] = true := by decide +kernel
theorem pk_hottest_2 (adK adV : Nat → Nat) (l : Launch) : PairOk adK adV l [(0, 0)] 166 59 [.inl (0, 1, 1)] := tPair0 pk_hottest_2_t
set_option maxRecDepth 1000000 in
theorem pk_hottest_3_t : tPair [(0, 0), (2, 2147483647)] tNo tNo 166 59 [.inl (1, 0, 0)] = true := by decide +kernel
theorem pk_hottest_3 (adK adV : Nat → Nat) (l : Launch) : PairOk adK adV l [(0, 0), (2, 2147483647)] 166 59 [.inl (1, 0, 0)] := tPair0 pk_hottest_3_t
set_option maxRecDepth 1000000 in
theorem pk_clash_0_t : tPair [(0, 0), (-2147483648, -1), (-2147483648, 2147483647)] tNo tNo 167 60 [.inl (1, 0, 0), .inl (2, 0, 0)] = true := by decide +kernel
theorem pk_clash_0 (adK adV : Nat → Nat) (l : Launch) : PairOk adK adV l [(0, 0), (-2147483648, -1), (-2147483648, 2147483647)] 167 60 [.inl (1, 0, 0), .inl (2, 0, 0)] := tPair0 pk_clash_0_t
set_option maxRecDepth 1000000 in
theorem pk_clash_1_t : tPair [(0, 0), (0, 2147483647), (-2147483648, 2147483647)] tNo tNo 167 60 [.inl (1, 0, 0), .inl (2, 0, 0)] = true := by decide +kernel
theorem pk_clash_1 (adK adV : Nat → Nat) (l : Launch) : PairOk adK adV l [(0, 0), (0, 2147483647), (-2147483648, 2147483647)] 167 60 [.inl (1, 0, 0), .inl (2, 0, 0)] := tPair0 pk_clash_1_t
set_option maxRecDepth 1000000 in
theorem pk_then_0_t : tPair [(0, 0), (-2147483648, -1), (-2147483648, -1)] tNo tNo 168 61 [.inl (1, 0, 0), .inl (2, 0, 0)] = true := by decide +kernel
theorem pk_then_0 (adK adV : Nat → Nat) (l : Launch) : PairOk adK adV l [(0, 0), (-2147483648, -1), (-2147483648, -1)] 168 61 [.inl (1, 0, 0), .inl (2, 0, 0)] := tPair0 pk_then_0_t
set_option maxRecDepth 1000000 in
theorem pk_then_1_t : tPair [(0, 0), (-2147483648, -1)] tNo tNo 168 61 [.inl (1, 0, 0), .inl (0, 0, 0)] = true := by decide +kernel
theorem pk_then_1 (adK adV : Nat → Nat) (l : Launch) : PairOk adK adV l [(0, 0), (-2147483648, -1)] 168 61 [.inl (1, 0, 0), .inl (0, 0, 0)] := tPair0 pk_then_1_t
