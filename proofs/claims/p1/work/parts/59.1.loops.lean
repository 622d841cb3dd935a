set_option maxRecDepth 1000000 in
theorem pk_hours_2_t : tPairL [(0, 0), (1, 72)] 154 42 [.inl (1, 0, 0)] = true := by decide +kernel
theorem pk_hours_2 (adK adV : Nat → Nat) (l : Launch) : PairOk adK adV l [(0, 0), (1, 72)] 154 42 [.inl (1, 0, 0)] := tPairL_ok pk_hours_2_t
set_option maxRecDepth 1000000 in
theorem pk_first_1_t : tPairL [(0, 0)] 158 48 [.inl (0, 0, 0)] = true := by decide +kernel
theorem pk_first_1 (adK adV : Nat → Nat) (l : Launch) : PairOk adK adV l [(0, 0)] 158 48 [.inl (0, 0, 0)] := tPairL_ok pk_first_1_t
set_option maxRecDepth 1000000 in
theorem pk_first_2_t : tPairL [(0, 0)] 158 48 [.inl (0, 1, 1)] = true := by decide +kernel
theorem pk_first_2 (adK adV : Nat → Nat) (l : Launch) : PairOk adK adV l [(0, 0)] 158 48 [.inl (0, 1, 1)] := tPairL_ok pk_first_2_t
set_option maxRecDepth 1000000 in
theorem pk_thick_1_t : tPairL [(0, 0), (1, 20)] 161 52 [.inl (1, 0, 0)] = true := by decide +kernel
theorem pk_thick_1 (adK adV : Nat → Nat) (l : Launch) : PairOk adK adV l [(0, 0), (1, 20)] 161 52 [.inl (1, 0, 0)] := tPairL_ok pk_thick_1_t
set_option maxRecDepth 1000000 in
theorem pk_then_11_t : tPairL [(0, 0), (1, 72)] 168 61 [.inl (1, 0, 0), .inl (0, 0, 0)] = true := by decide +kernel
theorem pk_then_11 (adK adV : Nat → Nat) (l : Launch) : PairOk adK adV l [(0, 0), (1, 72)] 168 61 [.inl (1, 0, 0), .inl (0, 0, 0)] := tPairL_ok pk_then_11_t
set_option maxRecDepth 1000000 in
theorem pk_then_12_t : tPairL [(0, 0), (1, 72)] 168 61 [.inl (1, 0, 0), .inl (0, 1, 1)] = true := by decide +kernel
theorem pk_then_12 (adK adV : Nat → Nat) (l : Launch) : PairOk adK adV l [(0, 0), (1, 72)] 168 61 [.inl (1, 0, 0), .inl (0, 1, 1)] := tPairL_ok pk_then_12_t
set_option maxRecDepth 1000000 in
theorem pk_then_13_t : tPairL [(0, 0), (1, 72)] 168 61 [.inl (1, 0, 0), .inl (0, 2, 2)] = true := by decide +kernel
theorem pk_then_13 (adK adV : Nat → Nat) (l : Launch) : PairOk adK adV l [(0, 0), (1, 72)] 168 61 [.inl (1, 0, 0), .inl (0, 2, 2)] := tPairL_ok pk_then_13_t
set_option maxRecDepth 1000000 in
theorem pk_year_4_t : tPairL [(0, 0), (0, 0), (1, 20)] 170 63 [.inl (1, 0, 0), .inl (2, 0, 0)] = true := by decide +kernel
theorem pk_year_4 (adK adV : Nat → Nat) (l : Launch) : PairOk adK adV l [(0, 0), (0, 0), (1, 20)] 170 63 [.inl (1, 0, 0), .inl (2, 0, 0)] := tPairL_ok pk_year_4_t
set_option maxRecDepth 1000000 in
theorem pk_year_7_t : tPairL [(0, 0), (1, 72), (1, 20)] 170 63 [.inl (1, 0, 0), .inl (2, 0, 0)] = true := by decide +kernel
theorem pk_year_7 (adK adV : Nat → Nat) (l : Launch) : PairOk adK adV l [(0, 0), (1, 72), (1, 20)] 170 63 [.inl (1, 0, 0), .inl (2, 0, 0)] := tPairL_ok pk_year_7_t
