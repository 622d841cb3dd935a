set_option maxRecDepth 1000000 in
theorem pk_count_8_t : tPair [(0, 0)] tNo tNo 177 71 [.inl (0, 7, 7)] = true := by decide +kernel
theorem pk_count_8 (adK adV : Nat → Nat) (l : Launch) : PairOk adK adV l [(0, 0)] 177 71 [.inl (0, 7, 7)] := tPair0 pk_count_8_t
set_option maxRecDepth 1000000 in
theorem pk_count_9_t : tPair [(0, 0)] tNo tNo 177 71 [.inl (0, 8, 8)] = true := by decide +kernel
theorem pk_count_9 (adK adV : Nat → Nat) (l : Launch) : PairOk adK adV l [(0, 0)] 177 71 [.inl (0, 8, 8)] := tPair0 pk_count_9_t
set_option maxRecDepth 1000000 in
theorem pk_count_10_t : tPair [(0, 0)] tNo tNo 177 71 [.inl (0, 9, 9)] = true := by decide +kernel
theorem pk_count_10 (adK adV : Nat → Nat) (l : Launch) : PairOk adK adV l [(0, 0)] 177 71 [.inl (0, 9, 9)] := tPair0 pk_count_10_t
set_option maxRecDepth 1000000 in
theorem pk_count_11_t : tPair [(0, 0)] tNo tNo 177 71 [.inl (0, 10, 10)] = true := by decide +kernel
theorem pk_count_11 (adK adV : Nat → Nat) (l : Launch) : PairOk adK adV l [(0, 0)] 177 71 [.inl (0, 10, 10)] := tPair0 pk_count_11_t
set_option maxRecDepth 1000000 in
theorem pk_count_12_t : tPair [(0, 0)] tNo tNo 177 71 [.inl (0, 11, 11)] = true := by decide +kernel
theorem pk_count_12 (adK adV : Nat → Nat) (l : Launch) : PairOk adK adV l [(0, 0)] 177 71 [.inl (0, 11, 11)] := tPair0 pk_count_12_t
set_option maxRecDepth 1000000 in
theorem pk_count_13_t : tPair [(0, 0)] tNo tNo 177 71 [.inl (0, 12, 12)] = true := by decide +kernel
theorem pk_count_13 (adK adV : Nat → Nat) (l : Launch) : PairOk adK adV l [(0, 0)] 177 71 [.inl (0, 12, 12)] := tPair0 pk_count_13_t
set_option maxRecDepth 1000000 in
theorem pk_count_14_t : tPair [(0, 0)] tNo tNo 177 71 [.inl (0, 13, 13)] = true := by decide +kernel
theorem pk_count_14 (adK adV : Nat → Nat) (l : Launch) : PairOk adK adV l [(0, 0)] 177 71 [.inl (0, 13, 13)] := tPair0 pk_count_14_t
set_option maxRecDepth 1000000 in
theorem pk_count_15_t : tPair [(0, 0)] tNo tNo 177 71 [.inl (0, 14, 14)] = true := by decide +kernel
theorem pk_count_15 (adK adV : Nat → Nat) (l : Launch) : PairOk adK adV l [(0, 0)] 177 71 [.inl (0, 14, 14)] := tPair0 pk_count_15_t
set_option maxRecDepth 1000000 in
theorem pk_count_16_t : tPair [(0, 0)] tNo tNo 177 71 [.inl (0, 15, 15)] = true := by decide +kernel
theorem pk_count_16 (adK adV : Nat → Nat) (l : Launch) : PairOk adK adV l [(0, 0)] 177 71 [.inl (0, 15, 15)] := tPair0 pk_count_16_t
set_option maxRecDepth 1000000 in
theorem pk_count_17_t : tPair [(0, 0), (16, 2147483647)] tNo tNo 177 71 [.inl (1, 0, 0)] = true := by decide +kernel
theorem pk_count_17 (adK adV : Nat → Nat) (l : Launch) : PairOk adK adV l [(0, 0), (16, 2147483647)] 177 71 [.inl (1, 0, 0)] := tPair0 pk_count_17_t
