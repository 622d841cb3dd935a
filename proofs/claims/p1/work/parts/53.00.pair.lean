set_option maxRecDepth 1000000 in
theorem pk_feed_0_t : tPair [(0, 0), (-2147483648, 2147483647), (-2147483648, 2147483647), (-2147483648, 2147483647), (-2147483648, 2147483647), (-2147483648, 2147483647)] tNo tNo 139 1 [.inl (1, 0, 0), .inl (2, 0, 0), .inl (3, 0, 0), .inl (4, 0, 0), .inl (5, 0, 0)] = true := by decide +kernel
theorem pk_feed_0 (adK adV : Nat → Nat) (l : Launch) : PairOk adK adV l [(0, 0), (-2147483648, 2147483647), (-2147483648, 2147483647), (-2147483648, 2147483647), (-2147483648, 2147483647), (-2147483648, 2147483647)] 139 1 [.inl (1, 0, 0), .inl (2, 0, 0), .inl (3, 0, 0), .inl (4, 0, 0), .inl (5, 0, 0)] := tPair0 pk_feed_0_t
set_option maxRecDepth 1000000 in
theorem pk_back_0_t : tPair [(0, 0), (-2147483648, -1)] tNo tNo 141 3 [.inl (1, 0, 0)] = true := by decide +kernel
theorem pk_back_0 (adK adV : Nat → Nat) (l : Launch) : PairOk adK adV l [(0, 0), (-2147483648, -1)] 141 3 [.inl (1, 0, 0)] := tPair0 pk_back_0_t
set_option maxRecDepth 1000000 in
theorem pk_back_1_t : tPair [(0, 0)] tNo tNo 141 3 [.inl (0, 0, 0)] = true := by decide +kernel
theorem pk_back_1 (adK adV : Nat → Nat) (l : Launch) : PairOk adK adV l [(0, 0)] 141 3 [.inl (0, 0, 0)] := tPair0 pk_back_1_t
set_option maxRecDepth 1000000 in
theorem pk_back_2_t : tPair [(0, 0), (1, 2147483647)] tNo tNo 141 3 [.inl (1, 0, 0)] = true := by decide +kernel
theorem pk_back_2 (adK adV : Nat → Nat) (l : Launch) : PairOk adK adV l [(0, 0), (1, 2147483647)] 141 3 [.inl (1, 0, 0)] := tPair0 pk_back_2_t
set_option maxRecDepth 1000000 in
theorem pk_read_0_t : tPair [(0, 0)] tNo tNo 142 11 [] = true := by decide +kernel
theorem pk_read_0 (adK adV : Nat → Nat) (l : Launch) : PairOk adK adV l [(0, 0)] 142 11 [] := tPair0 pk_read_0_t
set_option maxRecDepth 1000000 in
theorem pk_place_0_t : tPair [(0, 0)] tNo tNo 143 12 [] = true := by decide +kernel
theorem pk_place_0 (adK adV : Nat → Nat) (l : Launch) : PairOk adK adV l [(0, 0)] 143 12 [] := tPair0 pk_place_0_t
set_option maxRecDepth 1000000 in
theorem pk_flat_0_t : tPair [(0, 0), (-2147483648, -1), (-2147483648, 2147483647)] tNo tNo 147 33 [.inl (1, 0, 0), .inl (2, 0, 0)] = true := by decide +kernel
theorem pk_flat_0 (adK adV : Nat → Nat) (l : Launch) : PairOk adK adV l [(0, 0), (-2147483648, -1), (-2147483648, 2147483647)] 147 33 [.inl (1, 0, 0), .inl (2, 0, 0)] := tPair0 pk_flat_0_t
set_option maxRecDepth 1000000 in
theorem pk_flat_1_t : tPair [(0, 0), (0, 2147483647), (-2147483648, 2147483647)] tNo tNo 147 33 [.inl (1, 0, 0), .inl (2, 0, 0)] = true := by decide +kernel
theorem pk_flat_1 (adK adV : Nat → Nat) (l : Launch) : PairOk adK adV l [(0, 0), (0, 2147483647), (-2147483648, 2147483647)] 147 33 [.inl (1, 0, 0), .inl (2, 0, 0)] := tPair0 pk_flat_1_t
set_option maxRecDepth 1000000 in
theorem pk_wire_0_t : tPair [(0, 0), (-2147483648, -1), (-2147483648, 2147483647)] tNo tNo 148 34 [.inl (1, 0, 0), .inl (2, 0, 0)] = true := by decide +kernel
theorem pk_wire_0 (adK adV : Nat → Nat) (l : Launch) : PairOk adK adV l [(0, 0), (-2147483648, -1), (-2147483648, 2147483647)] 148 34 [.inl (1, 0, 0), .inl (2, 0, 0)] := tPair0 pk_wire_0_t
set_option maxRecDepth 1000000 in
theorem pk_wire_1_t : tPair [(0, 0), (0, 2147483647), (-2147483648, 2147483647)] tNo tNo 148 34 [.inl (1, 0, 0), .inl (2, 0, 0)] = true := by decide +kernel
theorem pk_wire_1 (adK adV : Nat → Nat) (l : Launch) : PairOk adK adV l [(0, 0), (0, 2147483647), (-2147483648, 2147483647)] 148 34 [.inl (1, 0, 0), .inl (2, 0, 0)] := tPair0 pk_wire_1_t
set_option maxRecDepth 1000000 in
theorem pk_use_0_t : tPair [(0, 0), (-2147483648, -1), (-2147483648, 2147483647)] tNo tNo 149 35 [.inl (1, 0, 0), .inl (2, 0, 0)] = true := by decide +kernel
theorem pk_use_0 (adK adV : Nat → Nat) (l : Launch) : PairOk adK adV l [(0, 0), (-2147483648, -1), (-2147483648, 2147483647)] 149 35 [.inl (1, 0, 0), .inl (2, 0, 0)] := tPair0 pk_use_0_t
set_option maxRecDepth 1000000 in
theorem pk_use_1_t : tPair [(0, 0), (0, 2147483647), (-2147483648, 2147483647)] tNo tNo 149 35 [.inl (1, 0, 0), .inl (2, 0, 0)] = true := by decide +kernel
theorem pk_use_1 (adK adV : Nat → Nat) (l : Launch) : PairOk adK adV l [(0, 0), (0, 2147483647), (-2147483648, 2147483647)] 149 35 [.inl (1, 0, 0), .inl (2, 0, 0)] := tPair0 pk_use_1_t
set_option maxRecDepth 1000000 in
theorem pk_agreeb0_0_t : tPair [(0, 0), (-2147483648, -1)] tNo tNo 150 37 [.inl (1, 0, 0), .inl (0, 0, 0)] = true := by decide +kernel
theorem pk_agreeb0_0 (adK adV : Nat → Nat) (l : Launch) : PairOk adK adV l [(0, 0), (-2147483648, -1)] 150 37 [.inl (1, 0, 0), .inl (0, 0, 0)] := tPair0 pk_agreeb0_0_t
set_option maxRecDepth 1000000 in
theorem pk_agreeb0_1_t : tPair [(0, 0), (0, 2147483647)] tNo tNo 150 37 [.inl (1, 0, 0), .inl (0, 0, 0)] = true := by decide +kernel
theorem pk_agreeb0_1 (adK adV : Nat → Nat) (l : Launch) : PairOk adK adV l [(0, 0), (0, 2147483647)] 150 37 [.inl (1, 0, 0), .inl (0, 0, 0)] := tPair0 pk_agreeb0_1_t
set_option maxRecDepth 1000000 in
theorem pk_agreeb1_0_t : tPair [(0, 0), (-2147483648, -1)] tNo tNo 150 37 [.inl (1, 0, 0), .inl (0, 1, 1)] = true := by decide +kernel
theorem pk_agreeb1_0 (adK adV : Nat → Nat) (l : Launch) : PairOk adK adV l [(0, 0), (-2147483648, -1)] 150 37 [.inl (1, 0, 0), .inl (0, 1, 1)] := tPair0 pk_agreeb1_0_t
set_option maxRecDepth 1000000 in
theorem pk_agreeb1_1_t : tPair [(0, 0), (0, 2147483647)] tNo tNo 150 37 [.inl (1, 0, 0), .inl (0, 1, 1)] = true := by decide +kernel
theorem pk_agreeb1_1 (adK adV : Nat → Nat) (l : Launch) : PairOk adK adV l [(0, 0), (0, 2147483647)] 150 37 [.inl (1, 0, 0), .inl (0, 1, 1)] := tPair0 pk_agreeb1_1_t
set_option maxRecDepth 1000000 in
theorem pk_mend_0_t : tPair [(0, 0), (-2147483648, -1)] tNo tNo 151 38 [.inl (1, 0, 0)] = true := by decide +kernel
theorem pk_mend_0 (adK adV : Nat → Nat) (l : Launch) : PairOk adK adV l [(0, 0), (-2147483648, -1)] 151 38 [.inl (1, 0, 0)] := tPair0 pk_mend_0_t
set_option maxRecDepth 1000000 in
theorem pk_mend_1_t : tPair [(0, 0), (0, 2147483647)] tNo tNo 151 38 [.inl (1, 0, 0)] = true := by decide +kernel
theorem pk_mend_1 (adK adV : Nat → Nat) (l : Launch) : PairOk adK adV l [(0, 0), (0, 2147483647)] 151 38 [.inl (1, 0, 0)] := tPair0 pk_mend_1_t
set_option maxRecDepth 1000000 in
theorem pk_thicken_0_t : tPair [(0, 0), (-2147483648, -1)] tNo tNo 152 39 [.inl (1, 0, 0)] = true := by decide +kernel
theorem pk_thicken_0 (adK adV : Nat → Nat) (l : Launch) : PairOk adK adV l [(0, 0), (-2147483648, -1)] 152 39 [.inl (1, 0, 0)] := tPair0 pk_thicken_0_t
set_option maxRecDepth 1000000 in
theorem pk_thicken_1_t : tPair [(0, 0), (0, 2147483647)] tNo tNo 152 39 [.inl (1, 0, 0)] = true := by decide +kernel
theorem pk_thicken_1 (adK adV : Nat → Nat) (l : Launch) : PairOk adK adV l [(0, 0), (0, 2147483647)] 152 39 [.inl (1, 0, 0)] := tPair0 pk_thicken_1_t
set_option maxRecDepth 1000000 in
theorem pk_pinb0_0_t : tPair [(0, 0), (-2147483648, -1)] tNo tNo 153 40 [.inl (1, 0, 0), .inl (0, 0, 0)] = true := by decide +kernel
theorem pk_pinb0_0 (adK adV : Nat → Nat) (l : Launch) : PairOk adK adV l [(0, 0), (-2147483648, -1)] 153 40 [.inl (1, 0, 0), .inl (0, 0, 0)] := tPair0 pk_pinb0_0_t
set_option maxRecDepth 1000000 in
theorem pk_pinb0_1_t : tPair [(0, 0), (0, 2147483647)] tNo tNo 153 40 [.inl (1, 0, 0), .inl (0, 0, 0)] = true := by decide +kernel
theorem pk_pinb0_1 (adK adV : Nat → Nat) (l : Launch) : PairOk adK adV l [(0, 0), (0, 2147483647)] 153 40 [.inl (1, 0, 0), .inl (0, 0, 0)] := tPair0 pk_pinb0_1_t
set_option maxRecDepth 1000000 in
theorem pk_pinb1_0_t : tPair [(0, 0), (-2147483648, -1)] tNo tNo 153 40 [.inl (1, 0, 0), .inl (0, 1, 1)] = true := by decide +kernel
theorem pk_pinb1_0 (adK adV : Nat → Nat) (l : Launch) : PairOk adK adV l [(0, 0), (-2147483648, -1)] 153 40 [.inl (1, 0, 0), .inl (0, 1, 1)] := tPair0 pk_pinb1_0_t
set_option maxRecDepth 1000000 in
theorem pk_pinb1_1_t : tPair [(0, 0), (0, 2147483647)] tNo tNo 153 40 [.inl (1, 0, 0), .inl (0, 1, 1)] = true := by decide +kernel
theorem pk_pinb1_1 (adK adV : Nat → Nat) (l : Launch) : PairOk adK adV l [(0, 0), (0, 2147483647)] 153 40 [.inl (1, 0, 0), .inl (0, 1, 1)] := tPair0 pk_pinb1_1_t
set_option maxRecDepth 1000000 in
theorem pk_hours_0_t : tPair [(0, 0), (-2147483648, -1)] tNo tNo 154 42 [.inl (1, 0, 0)] = true := by decide +kernel
theorem pk_hours_0 (adK adV : Nat → Nat) (l : Launch) : PairOk adK adV l [(0, 0), (-2147483648, -1)] 154 42 [.inl (1, 0, 0)] := tPair0 pk_hours_0_t
set_option maxRecDepth 1000000 in
theorem pk_hours_1_t : tPair [(0, 0)] tNo tNo 154 42 [.inl (0, 0, 0)] = true := by decide +kernel
theorem pk_hours_1 (adK adV : Nat → Nat) (l : Launch) : PairOk adK adV l [(0, 0)] 154 42 [.inl (0, 0, 0)] := tPair0 pk_hours_1_t
set_option maxRecDepth 1000000 in
theorem pk_hours_3_t : tPair [(0, 0), (73, 2147483647)] tNo tNo 154 42 [.inl (1, 0, 0)] = true := by decide +kernel
theorem pk_hours_3 (adK adV : Nat → Nat) (l : Launch) : PairOk adK adV l [(0, 0), (73, 2147483647)] 154 42 [.inl (1, 0, 0)] := tPair0 pk_hours_3_t
set_option maxRecDepth 1000000 in
theorem pk_undo_0_t : tPair [(0, 0)] tNo tNo 155 43 [] = true := by decide +kernel
theorem pk_undo_0 (adK adV : Nat → Nat) (l : Launch) : PairOk adK adV l [(0, 0)] 155 43 [] := tPair0 pk_undo_0_t
set_option maxRecDepth 1000000 in
theorem pk_way_0_t : tPair [(0, 0), (-2147483648, -1), (-2147483648, 2147483647)] tNo tNo 156 44 [.inl (1, 0, 0), .inl (2, 0, 0)] = true := by decide +kernel
theorem pk_way_0 (adK adV : Nat → Nat) (l : Launch) : PairOk adK adV l [(0, 0), (-2147483648, -1), (-2147483648, 2147483647)] 156 44 [.inl (1, 0, 0), .inl (2, 0, 0)] := tPair0 pk_way_0_t
set_option maxRecDepth 1000000 in
theorem pk_way_1_t : tPair [(0, 0), (0, 2147483647), (-2147483648, 2147483647)] tNo tNo 156 44 [.inl (1, 0, 0), .inl (2, 0, 0)] = true := by decide +kernel
theorem pk_way_1 (adK adV : Nat → Nat) (l : Launch) : PairOk adK adV l [(0, 0), (0, 2147483647), (-2147483648, 2147483647)] 156 44 [.inl (1, 0, 0), .inl (2, 0, 0)] := tPair0 pk_way_1_t
set_option maxRecDepth 1000000 in
theorem pk_peak_0_t : tPair [(0, 0), (-2147483648, -1), (-2147483648, 2147483647), (-2147483648, 2147483647)] tNo tNo 157 46 [.inl (1, 0, 0), .inl (2, 0, 0), .inl (3, 0, 0)] = true := by decide +kernel
theorem pk_peak_0 (adK adV : Nat → Nat) (l : Launch) : PairOk adK adV l [(0, 0), (-2147483648, -1), (-2147483648, 2147483647), (-2147483648, 2147483647)] 157 46 [.inl (1, 0, 0), .inl (2, 0, 0), .inl (3, 0, 0)] := tPair0 pk_peak_0_t
set_option maxRecDepth 1000000 in
theorem pk_peak_1_t : tPair [(0, 0), (0, 2147483647), (-2147483648, 2147483647), (-2147483648, 2147483647)] tNo tNo 157 46 [.inl (1, 0, 0), .inl (2, 0, 0), .inl (3, 0, 0)] = true := by decide +kernel
theorem pk_peak_1 (adK adV : Nat → Nat) (l : Launch) : PairOk adK adV l [(0, 0), (0, 2147483647), (-2147483648, 2147483647), (-2147483648, 2147483647)] 157 46 [.inl (1, 0, 0), .inl (2, 0, 0), .inl (3, 0, 0)] := tPair0 pk_peak_1_t
set_option maxRecDepth 1000000 in
theorem pk_first_0_t : tPair [(0, 0), (-2147483648, -1)] tNo tNo 158 48 [.inl (1, 0, 0)] = true := by decide +kernel
theorem pk_first_0 (adK adV : Nat → Nat) (l : Launch) : PairOk adK adV l [(0, 0), (-2147483648, -1)] 158 48 [.inl (1, 0, 0)] := tPair0 pk_first_0_t
set_option maxRecDepth 1000000 in
theorem pk_first_3_t : tPair [(0, 0), (2, 2147483647)] tNo tNo 158 48 [.inl (1, 0, 0)] = true := by decide +kernel
theorem pk_first_3 (adK adV : Nat → Nat) (l : Launch) : PairOk adK adV l [(0, 0), (2, 2147483647)] 158 48 [.inl (1, 0, 0)] := tPair0 pk_first_3_t
set_option maxRecDepth 1000000 in
theorem pk_together_0_t : tPair [(0, 0), (-2147483648, -1)] tNo tNo 159 50 [.inl (1, 0, 0)] = true := by decide +kernel
theorem pk_together_0 (adK adV : Nat → Nat) (l : Launch) : PairOk adK adV l [(0, 0), (-2147483648, -1)] 159 50 [.inl (1, 0, 0)] := tPair0 pk_together_0_t
set_option maxRecDepth 1000000 in
theorem pk_together_1_t : tPair [(0, 0)] tNo tNo 159 50 [.inl (0, 0, 0)] = true := by decide +kernel
theorem pk_together_1 (adK adV : Nat → Nat) (l : Launch) : PairOk adK adV l [(0, 0)] 159 50 [.inl (0, 0, 0)] := tPair0 pk_together_1_t
