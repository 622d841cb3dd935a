set_option maxRecDepth 1000000 in
theorem pk_year_8_t : tPair [(0, 0), (1, 72), (21, 2147483647)] tNo tNo 170 63 [.inl (1, 0, 0), .inl (2, 0, 0)] = true := by decide +kernel
theorem pk_year_8 (adK adV : Nat → Nat) (l : Launch) : PairOk adK adV l [(0, 0), (1, 72), (21, 2147483647)] 170 63 [.inl (1, 0, 0), .inl (2, 0, 0)] := tPair0 pk_year_8_t
set_option maxRecDepth 1000000 in
theorem pk_year_9_t : tPair [(0, 0), (73, 2147483647), (-2147483648, 0)] tNo tNo 170 63 [.inl (1, 0, 0), .inl (2, 0, 0)] = true := by decide +kernel
theorem pk_year_9 (adK adV : Nat → Nat) (l : Launch) : PairOk adK adV l [(0, 0), (73, 2147483647), (-2147483648, 0)] 170 63 [.inl (1, 0, 0), .inl (2, 0, 0)] := tPair0 pk_year_9_t
set_option maxRecDepth 1000000 in
theorem pk_year_10_t : tPair [(0, 0), (73, 2147483647), (1, 20)] tNo tNo 170 63 [.inl (1, 0, 0), .inl (2, 0, 0)] = true := by decide +kernel
theorem pk_year_10 (adK adV : Nat → Nat) (l : Launch) : PairOk adK adV l [(0, 0), (73, 2147483647), (1, 20)] 170 63 [.inl (1, 0, 0), .inl (2, 0, 0)] := tPair0 pk_year_10_t
set_option maxRecDepth 1000000 in
theorem pk_year_11_t : tPair [(0, 0), (73, 2147483647), (21, 2147483647)] tNo tNo 170 63 [.inl (1, 0, 0), .inl (2, 0, 0)] = true := by decide +kernel
theorem pk_year_11 (adK adV : Nat → Nat) (l : Launch) : PairOk adK adV l [(0, 0), (73, 2147483647), (21, 2147483647)] 170 63 [.inl (1, 0, 0), .inl (2, 0, 0)] := tPair0 pk_year_11_t
set_option maxRecDepth 1000000 in
theorem pk_tellb0_0_t : tPair [(0, 0), (-2147483648, -1)] tNo tNo 171 64 [.inl (1, 0, 0), .inl (0, 0, 0)] = true := by decide +kernel
theorem pk_tellb0_0 (adK adV : Nat → Nat) (l : Launch) : PairOk adK adV l [(0, 0), (-2147483648, -1)] 171 64 [.inl (1, 0, 0), .inl (0, 0, 0)] := tPair0 pk_tellb0_0_t
set_option maxRecDepth 1000000 in
theorem pk_tellb0_1_t : tPair [(0, 0), (0, 2147483647)] tNo tNo 171 64 [.inl (1, 0, 0), .inl (0, 0, 0)] = true := by decide +kernel
theorem pk_tellb0_1 (adK adV : Nat → Nat) (l : Launch) : PairOk adK adV l [(0, 0), (0, 2147483647)] 171 64 [.inl (1, 0, 0), .inl (0, 0, 0)] := tPair0 pk_tellb0_1_t
set_option maxRecDepth 1000000 in
theorem pk_tellb1_0_t : tPair [(0, 0), (-2147483648, -1)] tNo tNo 171 64 [.inl (1, 0, 0), .inl (0, 1, 1)] = true := by decide +kernel
theorem pk_tellb1_0 (adK adV : Nat → Nat) (l : Launch) : PairOk adK adV l [(0, 0), (-2147483648, -1)] 171 64 [.inl (1, 0, 0), .inl (0, 1, 1)] := tPair0 pk_tellb1_0_t
set_option maxRecDepth 1000000 in
theorem pk_tellb1_1_t : tPair [(0, 0), (0, 2147483647)] tNo tNo 171 64 [.inl (1, 0, 0), .inl (0, 1, 1)] = true := by decide +kernel
theorem pk_tellb1_1 (adK adV : Nat → Nat) (l : Launch) : PairOk adK adV l [(0, 0), (0, 2147483647)] 171 64 [.inl (1, 0, 0), .inl (0, 1, 1)] := tPair0 pk_tellb1_1_t
set_option maxRecDepth 1000000 in
theorem pk_forget_0_t : tPair [(0, 0)] tNo tNo 172 65 [] = true := by decide +kernel
theorem pk_forget_0 (adK adV : Nat → Nat) (l : Launch) : PairOk adK adV l [(0, 0)] 172 65 [] := tPair0 pk_forget_0_t
set_option maxRecDepth 1000000 in
theorem pk_went_0_t : tPair [(0, 0), (-2147483648, -1), (-2147483648, -1)] tNo tNo 173 67 [.inl (1, 0, 0), .inl (2, 0, 0)] = true := by decide +kernel
theorem pk_went_0 (adK adV : Nat → Nat) (l : Launch) : PairOk adK adV l [(0, 0), (-2147483648, -1), (-2147483648, -1)] 173 67 [.inl (1, 0, 0), .inl (2, 0, 0)] := tPair0 pk_went_0_t
set_option maxRecDepth 1000000 in
theorem pk_went_1_t : tPair [(0, 0), (-2147483648, -1)] tNo tNo 173 67 [.inl (1, 0, 0), .inl (0, 0, 0)] = true := by decide +kernel
theorem pk_went_1 (adK adV : Nat → Nat) (l : Launch) : PairOk adK adV l [(0, 0), (-2147483648, -1)] 173 67 [.inl (1, 0, 0), .inl (0, 0, 0)] := tPair0 pk_went_1_t
set_option maxRecDepth 1000000 in
theorem pk_went_2_t : tPair [(0, 0), (-2147483648, -1)] tNo tNo 173 67 [.inl (1, 0, 0), .inl (0, 1, 1)] = true := by decide +kernel
theorem pk_went_2 (adK adV : Nat → Nat) (l : Launch) : PairOk adK adV l [(0, 0), (-2147483648, -1)] 173 67 [.inl (1, 0, 0), .inl (0, 1, 1)] := tPair0 pk_went_2_t
set_option maxRecDepth 1000000 in
theorem pk_went_3_t : tPair [(0, 0), (-2147483648, -1), (2, 2147483647)] tNo tNo 173 67 [.inl (1, 0, 0), .inl (2, 0, 0)] = true := by decide +kernel
theorem pk_went_3 (adK adV : Nat → Nat) (l : Launch) : PairOk adK adV l [(0, 0), (-2147483648, -1), (2, 2147483647)] 173 67 [.inl (1, 0, 0), .inl (2, 0, 0)] := tPair0 pk_went_3_t
set_option maxRecDepth 1000000 in
theorem pk_went_4_t : tPair [(0, 0), (-2147483648, -1)] tNo tNo 173 67 [.inl (0, 0, 0), .inl (1, 0, 0)] = true := by decide +kernel
theorem pk_went_4 (adK adV : Nat → Nat) (l : Launch) : PairOk adK adV l [(0, 0), (-2147483648, -1)] 173 67 [.inl (0, 0, 0), .inl (1, 0, 0)] := tPair0 pk_went_4_t
set_option maxRecDepth 1000000 in
theorem pk_went_5_t : tPair [(0, 0)] tNo tNo 173 67 [.inl (0, 0, 0), .inl (0, 0, 0)] = true := by decide +kernel
theorem pk_went_5 (adK adV : Nat → Nat) (l : Launch) : PairOk adK adV l [(0, 0)] 173 67 [.inl (0, 0, 0), .inl (0, 0, 0)] := tPair0 pk_went_5_t
set_option maxRecDepth 1000000 in
theorem pk_went_6_t : tPair [(0, 0)] tNo tNo 173 67 [.inl (0, 0, 0), .inl (0, 1, 1)] = true := by decide +kernel
theorem pk_went_6 (adK adV : Nat → Nat) (l : Launch) : PairOk adK adV l [(0, 0)] 173 67 [.inl (0, 0, 0), .inl (0, 1, 1)] := tPair0 pk_went_6_t
set_option maxRecDepth 1000000 in
theorem pk_went_7_t : tPair [(0, 0), (2, 2147483647)] tNo tNo 173 67 [.inl (0, 0, 0), .inl (1, 0, 0)] = true := by decide +kernel
theorem pk_went_7 (adK adV : Nat → Nat) (l : Launch) : PairOk adK adV l [(0, 0), (2, 2147483647)] 173 67 [.inl (0, 0, 0), .inl (1, 0, 0)] := tPair0 pk_went_7_t
set_option maxRecDepth 1000000 in
theorem pk_went_8_t : tPair [(0, 0), (1, 2147483647), (-2147483648, -1)] tNo tNo 173 67 [.inl (1, 0, 0), .inl (2, 0, 0)] = true := by decide +kernel
theorem pk_went_8 (adK adV : Nat → Nat) (l : Launch) : PairOk adK adV l [(0, 0), (1, 2147483647), (-2147483648, -1)] 173 67 [.inl (1, 0, 0), .inl (2, 0, 0)] := tPair0 pk_went_8_t
set_option maxRecDepth 1000000 in
theorem pk_went_9_t : tPair [(0, 0), (1, 2147483647)] tNo tNo 173 67 [.inl (1, 0, 0), .inl (0, 0, 0)] = true := by decide +kernel
theorem pk_went_9 (adK adV : Nat → Nat) (l : Launch) : PairOk adK adV l [(0, 0), (1, 2147483647)] 173 67 [.inl (1, 0, 0), .inl (0, 0, 0)] := tPair0 pk_went_9_t
set_option maxRecDepth 1000000 in
theorem pk_went_10_t : tPair [(0, 0), (1, 2147483647)] tNo tNo 173 67 [.inl (1, 0, 0), .inl (0, 1, 1)] = true := by decide +kernel
theorem pk_went_10 (adK adV : Nat → Nat) (l : Launch) : PairOk adK adV l [(0, 0), (1, 2147483647)] 173 67 [.inl (1, 0, 0), .inl (0, 1, 1)] := tPair0 pk_went_10_t
set_option maxRecDepth 1000000 in
theorem pk_went_11_t : tPair [(0, 0), (1, 2147483647), (2, 2147483647)] tNo tNo 173 67 [.inl (1, 0, 0), .inl (2, 0, 0)] = true := by decide +kernel
theorem pk_went_11 (adK adV : Nat → Nat) (l : Launch) : PairOk adK adV l [(0, 0), (1, 2147483647), (2, 2147483647)] 173 67 [.inl (1, 0, 0), .inl (2, 0, 0)] := tPair0 pk_went_11_t
set_option maxRecDepth 1000000 in
theorem pk_ask_0_t : tPair [(0, 0), (-2147483648, -1)] tNo tNo 174 68 [.inl (1, 0, 0)] = true := by decide +kernel
theorem pk_ask_0 (adK adV : Nat → Nat) (l : Launch) : PairOk adK adV l [(0, 0), (-2147483648, -1)] 174 68 [.inl (1, 0, 0)] := tPair0 pk_ask_0_t
set_option maxRecDepth 1000000 in
theorem pk_ask_1_t : tPair [(0, 0)] tNo tNo 174 68 [.inl (0, 0, 0)] = true := by decide +kernel
theorem pk_ask_1 (adK adV : Nat → Nat) (l : Launch) : PairOk adK adV l [(0, 0)] 174 68 [.inl (0, 0, 0)] := tPair0 pk_ask_1_t
set_option maxRecDepth 1000000 in
theorem pk_ask_2_t : tPair [(0, 0), (1, 2147483647)] tNo tNo 174 68 [.inl (1, 0, 0)] = true := by decide +kernel
theorem pk_ask_2 (adK adV : Nat → Nat) (l : Launch) : PairOk adK adV l [(0, 0), (1, 2147483647)] 174 68 [.inl (1, 0, 0)] := tPair0 pk_ask_2_t
set_option maxRecDepth 1000000 in
theorem pk_hold_0_t : tPair [(0, 0), (-2147483648, -1)] tNo tNo 175 69 [.inl (1, 0, 0)] = true := by decide +kernel
theorem pk_hold_0 (adK adV : Nat → Nat) (l : Launch) : PairOk adK adV l [(0, 0), (-2147483648, -1)] 175 69 [.inl (1, 0, 0)] := tPair0 pk_hold_0_t
set_option maxRecDepth 1000000 in
theorem pk_hold_1_t : tPair [(0, 0)] tNo tNo 175 69 [.inl (0, 0, 0)] = true := by decide +kernel
theorem pk_hold_1 (adK adV : Nat → Nat) (l : Launch) : PairOk adK adV l [(0, 0)] 175 69 [.inl (0, 0, 0)] := tPair0 pk_hold_1_t
set_option maxRecDepth 1000000 in
theorem pk_hold_2_t : tPair [(0, 0)] tNo tNo 175 69 [.inl (0, 1, 1)] = true := by decide +kernel
theorem pk_hold_2 (adK adV : Nat → Nat) (l : Launch) : PairOk adK adV l [(0, 0)] 175 69 [.inl (0, 1, 1)] := tPair0 pk_hold_2_t
