set_option maxRecDepth 1000000 in
theorem pk_hold_3_t : tPair [(0, 0)] tNo tNo 175 69 [.inl (0, 2, 2)] = true := by decide +kernel
theorem pk_hold_3 (adK adV : Nat → Nat) (l : Launch) : PairOk adK adV l [(0, 0)] 175 69 [.inl (0, 2, 2)] := tPair0 pk_hold_3_t
set_option maxRecDepth 1000000 in
theorem pk_hold_4_t : tPair [(0, 0), (3, 2147483647)] tNo tNo 175 69 [.inl (1, 0, 0)] = true := by decide +kernel
theorem pk_hold_4 (adK adV : Nat → Nat) (l : Launch) : PairOk adK adV l [(0, 0), (3, 2147483647)] 175 69 [.inl (1, 0, 0)] := tPair0 pk_hold_4_t
set_option maxRecDepth 1000000 in
theorem pk_restore_0_t : tPair [(0, 0), (-2147483648, -1)] tNo tNo 176 70 [.inl (1, 0, 0)] = true := by decide +kernel
theorem pk_restore_0 (adK adV : Nat → Nat) (l : Launch) : PairOk adK adV l [(0, 0), (-2147483648, -1)] 176 70 [.inl (1, 0, 0)] := tPair0 pk_restore_0_t
set_option maxRecDepth 1000000 in
theorem pk_restore_1_t : tPair [(0, 0)] tNo tNo 176 70 [.inl (0, 0, 0)] = true := by decide +kernel
theorem pk_restore_1 (adK adV : Nat → Nat) (l : Launch) : PairOk adK adV l [(0, 0)] 176 70 [.inl (0, 0, 0)] := tPair0 pk_restore_1_t
set_option maxRecDepth 1000000 in
theorem pk_restore_2_t : tPair [(0, 0)] tNo tNo 176 70 [.inl (0, 1, 1)] = true := by decide +kernel
theorem pk_restore_2 (adK adV : Nat → Nat) (l : Launch) : PairOk adK adV l [(0, 0)] 176 70 [.inl (0, 1, 1)] := tPair0 pk_restore_2_t
set_option maxRecDepth 1000000 in
theorem pk_restore_3_t : tPair [(0, 0)] tNo tNo 176 70 [.inl (0, 2, 2)] = true := by decide +kernel
theorem pk_restore_3 (adK adV : Nat → Nat) (l : Launch) : PairOk adK adV l [(0, 0)] 176 70 [.inl (0, 2, 2)] := tPair0 pk_restore_3_t
set_option maxRecDepth 1000000 in
theorem pk_restore_4_t : tPair [(0, 0), (3, 2147483647)] tNo tNo 176 70 [.inl (1, 0, 0)] = true := by decide +kernel
theorem pk_restore_4 (adK adV : Nat → Nat) (l : Launch) : PairOk adK adV l [(0, 0), (3, 2147483647)] 176 70 [.inl (1, 0, 0)] := tPair0 pk_restore_4_t
set_option maxRecDepth 1000000 in
theorem pk_count_0_t : tPair [(0, 0), (-2147483648, -1)] tNo tNo 177 71 [.inl (1, 0, 0)] = true := by decide +kernel
theorem pk_count_0 (adK adV : Nat → Nat) (l : Launch) : PairOk adK adV l [(0, 0), (-2147483648, -1)] 177 71 [.inl (1, 0, 0)] := tPair0 pk_count_0_t
set_option maxRecDepth 1000000 in
theorem pk_count_1_t : tPair [(0, 0)] tNo tNo 177 71 [.inl (0, 0, 0)] = true := by decide +kernel
theorem pk_count_1 (adK adV : Nat → Nat) (l : Launch) : PairOk adK adV l [(0, 0)] 177 71 [.inl (0, 0, 0)] := tPair0 pk_count_1_t
set_option maxRecDepth 1000000 in
theorem pk_count_2_t : tPair [(0, 0)] tNo tNo 177 71 [.inl (0, 1, 1)] = true := by decide +kernel
theorem pk_count_2 (adK adV : Nat → Nat) (l : Launch) : PairOk adK adV l [(0, 0)] 177 71 [.inl (0, 1, 1)] := tPair0 pk_count_2_t
set_option maxRecDepth 1000000 in
theorem pk_count_3_t : tPair [(0, 0)] tNo tNo 177 71 [.inl (0, 2, 2)] = true := by decide +kernel
theorem pk_count_3 (adK adV : Nat → Nat) (l : Launch) : PairOk adK adV l [(0, 0)] 177 71 [.inl (0, 2, 2)] := tPair0 pk_count_3_t
set_option maxRecDepth 1000000 in
theorem pk_count_4_t : tPair [(0, 0)] tNo tNo 177 71 [.inl (0, 3, 3)] = true := by decide +kernel
theorem pk_count_4 (adK adV : Nat → Nat) (l : Launch) : PairOk adK adV l [(0, 0)] 177 71 [.inl (0, 3, 3)] := tPair0 pk_count_4_t
set_option maxRecDepth 1000000 in
theorem pk_count_5_t : tPair [(0, 0)] tNo tNo 177 71 [.inl (0, 4, 4)] = true := by decide +kernel
theorem pk_count_5 (adK adV : Nat → Nat) (l : Launch) : PairOk adK adV l [(0, 0)] 177 71 [.inl (0, 4, 4)] := tPair0 pk_count_5_t
set_option maxRecDepth 1000000 in
theorem pk_count_6_t : tPair [(0, 0)] tNo tNo 177 71 [.inl (0, 5, 5)] = true := by decide +kernel
theorem pk_count_6 (adK adV : Nat → Nat) (l : Launch) : PairOk adK adV l [(0, 0)] 177 71 [.inl (0, 5, 5)] := tPair0 pk_count_6_t
set_option maxRecDepth 1000000 in
theorem pk_count_7_t : tPair [(0, 0)] tNo tNo 177 71 [.inl (0, 6, 6)] = true := by decide +kernel
theorem pk_count_7 (adK adV : Nat → Nat) (l : Launch) : PairOk adK adV l [(0, 0)] 177 71 [.inl (0, 6, 6)] := tPair0 pk_count_7_t
