theorem pk_hours_2 (adK adV : Nat → Nat) (l : Launch) : PairOk adK adV l [(0, 0), (1, 72)] 154 42 [.inl (1, 0, 0)] := sorry
theorem pk_first_1 (adK adV : Nat → Nat) (l : Launch) : PairOk adK adV l [(0, 0)] 158 48 [.inl (0, 0, 0)] := sorry
theorem pk_first_2 (adK adV : Nat → Nat) (l : Launch) : PairOk adK adV l [(0, 0)] 158 48 [.inl (0, 1, 1)] := sorry
theorem pk_thick_1 (adK adV : Nat → Nat) (l : Launch) : PairOk adK adV l [(0, 0), (1, 20)] 161 52 [.inl (1, 0, 0)] := sorry
theorem pk_then_11 (adK adV : Nat → Nat) (l : Launch) : PairOk adK adV l [(0, 0), (1, 72)] 168 61 [.inl (1, 0, 0), .inl (0, 0, 0)] := sorry
theorem pk_then_12 (adK adV : Nat → Nat) (l : Launch) : PairOk adK adV l [(0, 0), (1, 72)] 168 61 [.inl (1, 0, 0), .inl (0, 1, 1)] := sorry
theorem pk_then_13 (adK adV : Nat → Nat) (l : Launch) : PairOk adK adV l [(0, 0), (1, 72)] 168 61 [.inl (1, 0, 0), .inl (0, 2, 2)] := sorry
theorem pk_year_4 (adK adV : Nat → Nat) (l : Launch) : PairOk adK adV l [(0, 0), (0, 72), (1, 20)] 170 63 [.inl (1, 0, 0), .inl (2, 0, 0)] := sorry
