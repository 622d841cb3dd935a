set_option maxRecDepth 1000000 in
theorem pk_then_2_t : tPair [(0, 0), (-2147483648, -1)] tNo tNo 168 61 [.inl (1, 0, 0), .inl (0, 1, 1)] = true := by decide +kernel
theorem pk_then_2 (adK adV : Nat → Nat) (l : Launch) : PairOk adK adV l [(0, 0), (-2147483648, -1)] 168 61 [.inl (1, 0, 0), .inl (0, 1, 1)] := tPair0 pk_then_2_t
set_option maxRecDepth 1000000 in
theorem pk_then_3_t : tPair [(0, 0), (-2147483648, -1)] tNo tNo 168 61 [.inl (1, 0, 0), .inl (0, 2, 2)] = true := by decide +kernel
theorem pk_then_3 (adK adV : Nat → Nat) (l : Launch) : PairOk adK adV l [(0, 0), (-2147483648, -1)] 168 61 [.inl (1, 0, 0), .inl (0, 2, 2)] := tPair0 pk_then_3_t
set_option maxRecDepth 1000000 in
theorem pk_then_4_t : tPair [(0, 0), (-2147483648, -1), (3, 2147483647)] tNo tNo 168 61 [.inl (1, 0, 0), .inl (2, 0, 0)] = true := by decide +kernel
theorem pk_then_4 (adK adV : Nat → Nat) (l : Launch) : PairOk adK adV l [(0, 0), (-2147483648, -1), (3, 2147483647)] 168 61 [.inl (1, 0, 0), .inl (2, 0, 0)] := tPair0 pk_then_4_t
set_option maxRecDepth 1000000 in
theorem pk_then_5_t : tPair [(0, 0), (-2147483648, -1)] tNo tNo 168 61 [.inl (0, 0, 0), .inl (1, 0, 0)] = true := by decide +kernel
theorem pk_then_5 (adK adV : Nat → Nat) (l : Launch) : PairOk adK adV l [(0, 0), (-2147483648, -1)] 168 61 [.inl (0, 0, 0), .inl (1, 0, 0)] := tPair0 pk_then_5_t
set_option maxRecDepth 1000000 in
theorem pk_then_6_t : tPair [(0, 0)] tNo tNo 168 61 [.inl (0, 0, 0), .inl (0, 0, 0)] = true := by decide +kernel
theorem pk_then_6 (adK adV : Nat → Nat) (l : Launch) : PairOk adK adV l [(0, 0)] 168 61 [.inl (0, 0, 0), .inl (0, 0, 0)] := tPair0 pk_then_6_t
set_option maxRecDepth 1000000 in
theorem pk_then_7_t : tPair [(0, 0)] tNo tNo 168 61 [.inl (0, 0, 0), .inl (0, 1, 1)] = true := by decide +kernel
theorem pk_then_7 (adK adV : Nat → Nat) (l : Launch) : PairOk adK adV l [(0, 0)] 168 61 [.inl (0, 0, 0), .inl (0, 1, 1)] := tPair0 pk_then_7_t
set_option maxRecDepth 1000000 in
theorem pk_then_8_t : tPair [(0, 0)] tNo tNo 168 61 [.inl (0, 0, 0), .inl (0, 2, 2)] = true := by decide +kernel
theorem pk_then_8 (adK adV : Nat → Nat) (l : Launch) : PairOk adK adV l [(0, 0)] 168 61 [.inl (0, 0, 0), .inl (0, 2, 2)] := tPair0 pk_then_8_t
set_option maxRecDepth 1000000 in
theorem pk_then_9_t : tPair [(0, 0), (3, 2147483647)] tNo tNo 168 61 [.inl (0, 0, 0), .inl (1, 0, 0)] = true := by decide +kernel
theorem pk_then_9 (adK adV : Nat → Nat) (l : Launch) : PairOk adK adV l [(0, 0), (3, 2147483647)] 168 61 [.inl (0, 0, 0), .inl (1, 0, 0)] := tPair0 pk_then_9_t
set_option maxRecDepth 1000000 in
theorem pk_then_10_t : tPair [(0, 0), (1, 72), (-2147483648, -1)] tNo tNo 168 61 [.inl (1, 0, 0), .inl (2, 0, 0)] = true := by decide +kernel
theorem pk_then_10 (adK adV : Nat → Nat) (l : Launch) : PairOk adK adV l [(0, 0), (1, 72), (-2147483648, -1)] 168 61 [.inl (1, 0, 0), .inl (2, 0, 0)] := tPair0 pk_then_10_t
set_option maxRecDepth 1000000 in
theorem pk_then_14_t : tPair [(0, 0), (1, 72), (3, 2147483647)] tNo tNo 168 61 [.inl (1, 0, 0), .inl (2, 0, 0)] = true := by decide +kernel
theorem pk_then_14 (adK adV : Nat → Nat) (l : Launch) : PairOk adK adV l [(0, 0), (1, 72), (3, 2147483647)] 168 61 [.inl (1, 0, 0), .inl (2, 0, 0)] := tPair0 pk_then_14_t
set_option maxRecDepth 1000000 in
theorem pk_then_15_t : tPair [(0, 0), (73, 2147483647), (-2147483648, -1)] tNo tNo 168 61 [.inl (1, 0, 0), .inl (2, 0, 0)] = true := by decide +kernel
theorem pk_then_15 (adK adV : Nat → Nat) (l : Launch) : PairOk adK adV l [(0, 0), (73, 2147483647), (-2147483648, -1)] 168 61 [.inl (1, 0, 0), .inl (2, 0, 0)] := tPair0 pk_then_15_t
