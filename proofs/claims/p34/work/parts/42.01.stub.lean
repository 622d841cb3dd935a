theorem s_X3_clear_20 {g : gM} {m : dM} {Q : dM → Prop} (hG : Gd g) (hI : Inv g m) (hQ : ∀ m' : dM, Inv g m' → Q m') : c_X3_clear_20 20 m Q := sorry
theorem s_X5_check_44 {g : gM} {m : dM} {Q : Int32 → dM → Prop} (hG : Gd g) (hI : Inv g m) (hQ : ∀ (r : Int32) (m' : dM), Inv g m' → Q r m') : c_X5_check_44 20 m Q := sorry
theorem s_X3_copy_2_20 {g : gM} {m : dM} {Q : dM → Prop} (hG : Gd g) (hI : Inv g m) (hQ : ∀ m' : dM, Inv g m' → Q m') : c_X3_copy_2_20 20 m Q := sorry
theorem s_X12_fillsWays_70 {g : gM} {m : dM} {Q : dM → Prop} (hG : Gd g) (hI : Inv g m) (hQ : ∀ m' : dM, Inv g m' → Q m') : c_X12_fillsWays_70 20 m Q := sorry
theorem s_X12_lawTells_70 {g : gM} {x1 : Int32} {x2 : Int32} {m : dM} {Q : Int32 → dM → Prop} (hG : Gd g) (hI : Inv g m) (h1 : 0 ≤ x1.toInt ∧ x1.toInt ≤ 3) (hQ : ∀ (r : Int32) (m' : dM), Inv g m' → Q r m') : c_X12_lawTells_70 20 x1 x2 m Q := sorry
theorem s_X12_way_70 {g : gM} {x1 : Int32} {x2 : Int32} {m : dM} {Q : Int32 → dM → Prop} (hG : Gd g) (hI : Inv g m) (hQ : ∀ (r : Int32) (m' : dM), Inv g m' → Q r m') : c_X12_way_70 20 x1 x2 m Q := sorry

