set_option maxRecDepth 1000000 in
theorem pk_then_16_t : tPair [(0, 0), (73, 2147483647)] tNo tNo 168 61 [.inl (1, 0, 0), .inl (0, 0, 0)] = true := by decide +kernel
theorem pk_then_16 (adK adV : Nat → Nat) (l : Launch) : PairOk adK adV l [(0, 0), (73, 2147483647)] 168 61 [.inl (1, 0, 0), .inl (0, 0, 0)] := tPair0 pk_then_16_t
set_option maxRecDepth 1000000 in
theorem pk_then_17_t : tPair [(0, 0), (73, 2147483647)] tNo tNo 168 61 [.inl (1, 0, 0), .inl (0, 1, 1)] = true := by decide +kernel
theorem pk_then_17 (adK adV : Nat → Nat) (l : Launch) : PairOk adK adV l [(0, 0), (73, 2147483647)] 168 61 [.inl (1, 0, 0), .inl (0, 1, 1)] := tPair0 pk_then_17_t
set_option maxRecDepth 1000000 in
theorem pk_then_18_t : tPair [(0, 0), (73, 2147483647)] tNo tNo 168 61 [.inl (1, 0, 0), .inl (0, 2, 2)] = true := by decide +kernel
theorem pk_then_18 (adK adV : Nat → Nat) (l : Launch) : PairOk adK adV l [(0, 0), (73, 2147483647)] 168 61 [.inl (1, 0, 0), .inl (0, 2, 2)] := tPair0 pk_then_18_t
set_option maxRecDepth 1000000 in
theorem pk_then_19_t : tPair [(0, 0), (73, 2147483647), (3, 2147483647)] tNo tNo 168 61 [.inl (1, 0, 0), .inl (2, 0, 0)] = true := by decide +kernel
theorem pk_then_19 (adK adV : Nat → Nat) (l : Launch) : PairOk adK adV l [(0, 0), (73, 2147483647), (3, 2147483647)] 168 61 [.inl (1, 0, 0), .inl (2, 0, 0)] := tPair0 pk_then_19_t
set_option maxRecDepth 1000000 in
theorem pk_litIn_0_t : tPair [(0, 0), (-2147483648, -1), (-2147483648, 2147483647)] tNo tNo 169 62 [.inl (1, 0, 0), .inl (2, 0, 0)] = true := by decide +kernel
theorem pk_litIn_0 (adK adV : Nat → Nat) (l : Launch) : PairOk adK adV l [(0, 0), (-2147483648, -1), (-2147483648, 2147483647)] 169 62 [.inl (1, 0, 0), .inl (2, 0, 0)] := tPair0 pk_litIn_0_t
set_option maxRecDepth 1000000 in
theorem pk_litIn_1_t : tPair [(0, 0), (0, 2147483647), (-2147483648, 2147483647)] tNo tNo 169 62 [.inl (1, 0, 0), .inl (2, 0, 0)] = true := by decide +kernel
theorem pk_litIn_1 (adK adV : Nat → Nat) (l : Launch) : PairOk adK adV l [(0, 0), (0, 2147483647), (-2147483648, 2147483647)] 169 62 [.inl (1, 0, 0), .inl (2, 0, 0)] := tPair0 pk_litIn_1_t
set_option maxRecDepth 1000000 in
theorem pk_year_0_t : tPair [(0, 0), (-2147483648, -1), (-2147483648, 0)] tNo tNo 170 63 [.inl (1, 0, 0), .inl (2, 0, 0)] = true := by decide +kernel
theorem pk_year_0 (adK adV : Nat → Nat) (l : Launch) : PairOk adK adV l [(0, 0), (-2147483648, -1), (-2147483648, 0)] 170 63 [.inl (1, 0, 0), .inl (2, 0, 0)] := tPair0 pk_year_0_t
set_option maxRecDepth 1000000 in
theorem pk_year_1_t : tPair [(0, 0), (-2147483648, -1), (1, 20)] tNo tNo 170 63 [.inl (1, 0, 0), .inl (2, 0, 0)] = true := by decide +kernel
theorem pk_year_1 (adK adV : Nat → Nat) (l : Launch) : PairOk adK adV l [(0, 0), (-2147483648, -1), (1, 20)] 170 63 [.inl (1, 0, 0), .inl (2, 0, 0)] := tPair0 pk_year_1_t
set_option maxRecDepth 1000000 in
theorem pk_year_2_t : tPair [(0, 0), (-2147483648, -1), (21, 2147483647)] tNo tNo 170 63 [.inl (1, 0, 0), .inl (2, 0, 0)] = true := by decide +kernel
theorem pk_year_2 (adK adV : Nat → Nat) (l : Launch) : PairOk adK adV l [(0, 0), (-2147483648, -1), (21, 2147483647)] 170 63 [.inl (1, 0, 0), .inl (2, 0, 0)] := tPair0 pk_year_2_t
set_option maxRecDepth 1000000 in
theorem pk_year_3_t : tPair [(0, 0), (0, 0), (-2147483648, 0)] tNo tNo 170 63 [.inl (1, 0, 0), .inl (2, 0, 0)] = true := by decide +kernel
theorem pk_year_3 (adK adV : Nat → Nat) (l : Launch) : PairOk adK adV l [(0, 0), (0, 0), (-2147483648, 0)] 170 63 [.inl (1, 0, 0), .inl (2, 0, 0)] := tPair0 pk_year_3_t
set_option maxRecDepth 1000000 in
theorem pk_year_5_t : tPair [(0, 0), (0, 0), (21, 2147483647)] tNo tNo 170 63 [.inl (1, 0, 0), .inl (2, 0, 0)] = true := by decide +kernel
theorem pk_year_5 (adK adV : Nat → Nat) (l : Launch) : PairOk adK adV l [(0, 0), (0, 0), (21, 2147483647)] 170 63 [.inl (1, 0, 0), .inl (2, 0, 0)] := tPair0 pk_year_5_t
set_option maxRecDepth 1000000 in
theorem pk_year_6_t : tPair [(0, 0), (1, 72), (-2147483648, 0)] tNo tNo 170 63 [.inl (1, 0, 0), .inl (2, 0, 0)] = true := by decide +kernel
theorem pk_year_6 (adK adV : Nat → Nat) (l : Launch) : PairOk adK adV l [(0, 0), (1, 72), (-2147483648, 0)] 170 63 [.inl (1, 0, 0), .inl (2, 0, 0)] := tPair0 pk_year_6_t
