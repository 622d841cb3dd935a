section
theorem v_X12_lowestOf {d : Nat} {x0 : Int32} {m : dM} {Q : Int32 → dM → Prop} (h : j_X12_lowestOf_2 (d + 1) x0 (0 : Int32) m Q) : c_X12_lowestOf (d + 1) x0 m Q := by
  refine w_iconst (q := 1) hm85 ⟨⟨_, _, rfl⟩, rfl⟩ iconst_0 ?_
  refine w_istore_n (q := 2) (l' := [oI x0, oI (0 : Int32)]) hm85 ⟨⟨_, _, rfl⟩, rfl⟩ rfl rfl rfl ?_
  exact h
theorem v_X12_lowestOf_2 {d : Nat} {x0 : Int32} {x1 : Int32} {m : dM} {Q : Int32 → dM → Prop} (h : ((10 ≤ x1.toInt → j_X12_lowestOf_22 (d + 1) x1 m Q) ∧ (x1.toInt < 10 → ((((x0 >>> (x1 &&& 31)) &&& (1 : Int32)).toInt ≠ 0 → j_X12_lowestOf_22 (d + 1) x1 m Q) ∧ (((x0 >>> (x1 &&& 31)) &&& (1 : Int32)).toInt = 0 → j_X12_lowestOf_2 (d + 1) x0 (x1 + (1 : Int32)) m Q))))) : j_X12_lowestOf_2 (d + 1) x0 x1 m Q := by
  refine w_iload_n (q := 3) hm85 ⟨⟨_, _, rfl⟩, rfl⟩ rfl ?_
  refine w_bipush (q := 5) hm85 ⟨⟨_, _, rfl⟩, rfl⟩ bipush_10 ?_
  refine w_icmp_ge (q := 8) (X := x1.toInt) (Y := 10) hm85 ⟨⟨_, _, rfl⟩, rfl⟩ rfl (by decide) (fun hc => ?_) (fun hc => ?_)
  · have h := h.1 hc
    exact Wp.wk [false, true] h
  · have h := h.2 hc
    refine w_iload_n (q := 9) hm85 ⟨⟨_, _, rfl⟩, rfl⟩ rfl ?_
    refine w_iload_n (q := 10) hm85 ⟨⟨_, _, rfl⟩, rfl⟩ rfl ?_
    refine w_ishr (q := 11) hm85 ⟨⟨_, _, rfl⟩, rfl⟩ ?_
    refine w_iconst (q := 12) hm85 ⟨⟨_, _, rfl⟩, rfl⟩ iconst_1 ?_
    refine w_iand (q := 13) hm85 ⟨⟨_, _, rfl⟩, rfl⟩ ?_
    refine w_if_ne (q := 16) (X := ((x0 >>> (x1 &&& 31)) &&& (1 : Int32)).toInt) hm85 ⟨⟨_, _, rfl⟩, rfl⟩ rfl (fun hc => ?_) (fun hc => ?_)
    · have h := h.1 hc
      exact Wp.wk [false, true] h
    · have h := h.2 hc
      refine w_iinc (q := 19) (l' := [oI x0, oI (x1 + (1 : Int32))]) hm85 ⟨⟨_, _, rfl⟩, rfl⟩ rfl rfl rfl iconst_1 rfl ?_
      refine w_goto (q := 2) hm85 ⟨_, _, rfl⟩ ?_
      exact h
theorem v_X12_lowestOf_22 {d : Nat} {x1 : Int32} {m : dM} {Q : Int32 → dM → Prop} (h : Q x1 m) : j_X12_lowestOf_22 (d + 1) x1 m Q := by
  refine w_iload_n (q := 23) hm85 ⟨⟨_, _, rfl⟩, rfl⟩ rfl ?_
  exact w_reti hm85 ⟨⟨_, _, rfl⟩, rfl⟩ rfl h
theorem v_X12_first_70 {d : Nat} {x1 : Int32} {m : dM} {Q : Int32 → dM → Prop} (h : c_X12_in d x1 (0 : Int32) (1 : Int32) m (fun r1 m1 => ((r1.toInt ≠ 0 → c_X12_copiesStill_70 d m1 (fun m2 => c_X12_firstGoing_70 d m2 (fun r3 m3 => ((r3.toInt ≠ 201 → ((x1.toInt ≠ 0 → c_X12_lowestOf d (m3.1 70 60) m3 (fun r4 m4 => Q r4 m4)) ∧ (x1.toInt = 0 → Q r3 m3))) ∧ (r3.toInt = 201 → Q (-2 : Int32) m3))))) ∧ (r1.toInt = 0 → Q (-1 : Int32) m1)))) : c_X12_first_70 (d + 1) x1 m Q := by
  refine w_iload_n (q := 1) hm86 ⟨⟨_, _, rfl⟩, rfl⟩ rfl ?_
  refine w_iconst (q := 2) hm86 ⟨⟨_, _, rfl⟩, rfl⟩ iconst_0 ?_
  refine w_iconst (q := 3) hm86 ⟨⟨_, _, rfl⟩, rfl⟩ iconst_1 ?_
  refine w_call (q := 6) (n := 0) (vs := [.inl x1, .inl (0 : Int32), .inl (1 : Int32)]) (rest := []) (la := [oI x1, oI (0 : Int32), oI (1 : Int32)]) hm86 ⟨⟨_, _, rfl⟩, rfl⟩ rfl rfl rfl rfl hm36 rfl rfl (fun hz => absurd hz (by decide)) rfl (Wp.mono h ?_)
  rintro _ m1 ⟨r1, rfl, h⟩
  change Wp _ _ 6 _ [.inl r1] _ _
  refine w_if_ne (q := 9) (X := r1.toInt) hm86 ⟨⟨_, _, rfl⟩, rfl⟩ rfl (fun hc => ?_) (fun hc => ?_)
  · have h := h.1 hc
    refine w_aload_n (q := 12) hm86 ⟨⟨_, _, rfl⟩, rfl⟩ rfl ?_
    refine w_call (q := 15) (n := 0) (vs := [.inr (.inr (some 70))]) (rest := []) (la := [oR 70]) hm86 ⟨⟨_, _, rfl⟩, rfl⟩ rfl rfl rfl rfl hm82 rfl rfl (fun _ => ⟨_, _, rfl, rfl⟩) rfl (Wp.mono h ?_)
    rintro _ m2 ⟨rfl, h⟩
    change Wp _ _ 15 _ [] _ _
    refine w_aload_n (q := 16) hm86 ⟨⟨_, _, rfl⟩, rfl⟩ rfl ?_
    refine w_call (q := 19) (n := 1) (vs := [.inr (.inr (some 70))]) (rest := []) (la := [oR 70, none]) hm86 ⟨⟨_, _, rfl⟩, rfl⟩ rfl rfl rfl rfl hm84 rfl rfl (fun _ => ⟨_, _, rfl, rfl⟩) rfl (Wp.mono h ?_)
    rintro _ m3 ⟨r3, rfl, h⟩
    change Wp _ _ 19 _ [.inl r3] _ _
    refine w_istore_n (q := 20) (l' := [oR 70, oI x1, oI r3]) hm86 ⟨⟨_, _, rfl⟩, rfl⟩ rfl rfl rfl ?_
    refine w_iload_n (q := 21) hm86 ⟨⟨_, _, rfl⟩, rfl⟩ rfl ?_
    refine w_sipush (q := 24) hm86 ⟨⟨_, _, rfl⟩, rfl⟩ sipush_201 ?_
    refine w_icmp_ne (q := 27) (X := r3.toInt) (Y := 201) hm86 ⟨⟨_, _, rfl⟩, rfl⟩ rfl (by decide) (fun hc => ?_) (fun hc => ?_)
    · have h := h.1 hc
      refine w_iload_n (q := 33) hm86 ⟨⟨_, _, rfl⟩, rfl⟩ rfl ?_
      refine w_if_ne (q := 36) (X := x1.toInt) hm86 ⟨⟨_, _, rfl⟩, rfl⟩ rfl (fun hc => ?_) (fun hc => ?_)
      · have h := h.1 hc
        refine w_aload_n (q := 41) hm86 ⟨⟨_, _, rfl⟩, rfl⟩ rfl ?_
        refine w_getf (q := 44) (v := (m3.1 70 60)) hm86 ⟨⟨_, _, rfl⟩, rfl⟩ rfl rfl ?_
        refine w_call (q := 47) (n := 1) (vs := [.inl (m3.1 70 60)]) (rest := []) (la := [oI (m3.1 70 60), none]) hm86 ⟨⟨_, _, rfl⟩, rfl⟩ rfl rfl rfl rfl hm85 rfl rfl (fun hz => absurd hz (by decide)) rfl (Wp.mono h ?_)
        rintro _ m4 ⟨r4, rfl, h⟩
        change Wp _ _ 47 _ [.inl r4] _ _
        exact w_reti hm86 ⟨⟨_, _, rfl⟩, rfl⟩ rfl h
      · have h := h.2 hc
        refine w_iload_n (q := 37) hm86 ⟨⟨_, _, rfl⟩, rfl⟩ rfl ?_
        refine w_goto (q := 47) hm86 ⟨_, _, rfl⟩ ?_
        exact w_reti hm86 ⟨⟨_, _, rfl⟩, rfl⟩ rfl h
    · have h := h.2 hc
      refine w_bipush (q := 29) hm86 ⟨⟨_, _, rfl⟩, rfl⟩ bipush_m2 ?_
      refine w_goto (q := 47) hm86 ⟨_, _, rfl⟩ ?_
      exact w_reti hm86 ⟨⟨_, _, rfl⟩, rfl⟩ rfl h
  · have h := h.2 hc
    refine w_iconst (q := 10) hm86 ⟨⟨_, _, rfl⟩, rfl⟩ iconst_m1 ?_
    exact w_reti hm86 ⟨⟨_, _, rfl⟩, rfl⟩ rfl h
theorem v_X1_payOfAll_61 {d : Nat} {x1 : Int32} {m : dM} {Q : Int32 → dM → Prop} (h : j_X1_payOfAll_61_4 (d + 1) x1 (0 : Int32) (0 : Int32) m Q) : c_X1_payOfAll_61 (d + 1) x1 m Q := by
  refine w_iconst (q := 1) hm145 ⟨⟨_, _, rfl⟩, rfl⟩ iconst_0 ?_
  refine w_istore_n (q := 2) (l' := [oR 61, oI x1, oI (0 : Int32), none]) hm145 ⟨⟨_, _, rfl⟩, rfl⟩ rfl rfl rfl ?_
  refine w_iconst (q := 3) hm145 ⟨⟨_, _, rfl⟩, rfl⟩ iconst_0 ?_
  refine w_istore_n (q := 4) (l' := [oR 61, oI x1, oI (0 : Int32), oI (0 : Int32)]) hm145 ⟨⟨_, _, rfl⟩, rfl⟩ rfl rfl rfl ?_
  exact h
theorem v_X1_payOfAll_61_4 {d : Nat} {x1 : Int32} {x2 : Int32} {x3 : Int32} {m : dM} {Q : Int32 → dM → Prop} (h : (((m.1 2 2).toInt ≤ x3.toInt → Q x2 m) ∧ (x3.toInt < (m.1 2 2).toInt → c_X11_has d x1 x3 m (fun r1 m1 => ((r1.toInt = 0 → j_X1_payOfAll_61_4 (d + 1) x1 (x2 + (0 : Int32)) (x3 + (1 : Int32)) m1 Q) ∧ (r1.toInt ≠ 0 → ((0 ≤ x3.toInt ∧ x3.toInt < 8) ∧ j_X1_payOfAll_61_4 (d + 1) x1 (x2 + (m1.1 66 x3.toNatClampNeg)) (x3 + (1 : Int32)) m1 Q))))))) : j_X1_payOfAll_61_4 (d + 1) x1 x2 x3 m Q := by
  refine w_iload_n (q := 5) hm145 ⟨⟨_, _, rfl⟩, rfl⟩ rfl ?_
  refine w_aload_n (q := 6) hm145 ⟨⟨_, _, rfl⟩, rfl⟩ rfl ?_
  refine w_getr (q := 9) hm145 ⟨⟨_, _, rfl⟩, rfl⟩ rfl ?_
  refine w_getf (q := 12) (v := (m.1 2 2)) hm145 ⟨⟨_, _, rfl⟩, rfl⟩ rfl rfl ?_
  refine w_icmp_ge (q := 15) (X := x3.toInt) (Y := (m.1 2 2).toInt) hm145 ⟨⟨_, _, rfl⟩, rfl⟩ rfl rfl (fun hc => ?_) (fun hc => ?_)
  · have h := h.1 hc
    refine w_iload_n (q := 43) hm145 ⟨⟨_, _, rfl⟩, rfl⟩ rfl ?_
    exact w_reti hm145 ⟨⟨_, _, rfl⟩, rfl⟩ rfl h
  · have h := h.2 hc
    refine w_iload_n (q := 16) hm145 ⟨⟨_, _, rfl⟩, rfl⟩ rfl ?_
    refine w_iload_n (q := 17) hm145 ⟨⟨_, _, rfl⟩, rfl⟩ rfl ?_
    refine w_iload_n (q := 18) hm145 ⟨⟨_, _, rfl⟩, rfl⟩ rfl ?_
    refine w_call (q := 21) (n := 0) (vs := [.inl x1, .inl x3]) (rest := [.inl x2]) (la := [oI x1, oI x3]) hm145 ⟨⟨_, _, rfl⟩, rfl⟩ rfl rfl rfl rfl hm283 rfl rfl (fun hz => absurd hz (by decide)) rfl (Wp.mono h ?_)
    rintro _ m1 ⟨r1, rfl, h⟩
    change Wp _ _ 21 _ [.inl r1, .inl x2] _ _
    refine w_if_eq (q := 24) (X := r1.toInt) hm145 ⟨⟨_, _, rfl⟩, rfl⟩ rfl (fun hc => ?_) (fun hc => ?_)
    · have h := h.1 hc
      refine w_iconst (q := 34) hm145 ⟨⟨_, _, rfl⟩, rfl⟩ iconst_0 ?_
      refine w_iadd (q := 35) hm145 ⟨⟨_, _, rfl⟩, rfl⟩ ?_
      refine w_istore_n (q := 36) (l' := [oR 61, oI x1, oI (x2 + (0 : Int32)), oI x3]) hm145 ⟨⟨_, _, rfl⟩, rfl⟩ rfl rfl rfl ?_
      refine w_iinc (q := 39) (l' := [oR 61, oI x1, oI (x2 + (0 : Int32)), oI (x3 + (1 : Int32))]) hm145 ⟨⟨_, _, rfl⟩, rfl⟩ rfl rfl rfl iconst_1 rfl ?_
      refine w_goto (q := 4) hm145 ⟨_, _, rfl⟩ ?_
      exact h
    · have h := h.2 hc
      refine w_aload_n (q := 25) hm145 ⟨⟨_, _, rfl⟩, rfl⟩ rfl ?_
      refine w_getr (q := 28) hm145 ⟨⟨_, _, rfl⟩, rfl⟩ rfl ?_
      refine w_iload_n (q := 29) hm145 ⟨⟨_, _, rfl⟩, rfl⟩ rfl ?_
      obtain ⟨hi, h⟩ := h
      refine w_iald (q := 30) (v := (m1.1 66 x3.toNatClampNeg)) hm145 ⟨⟨_, _, rfl⟩, rfl⟩ rfl hi rfl rfl ?_
      refine w_goto (q := 34) hm145 ⟨_, _, rfl⟩ ?_
      refine w_iadd (q := 35) hm145 ⟨⟨_, _, rfl⟩, rfl⟩ ?_
      refine w_istore_n (q := 36) (l' := [oR 61, oI x1, oI (x2 + (m1.1 66 x3.toNatClampNeg)), oI x3]) hm145 ⟨⟨_, _, rfl⟩, rfl⟩ rfl rfl rfl ?_
      refine w_iinc (q := 39) (l' := [oR 61, oI x1, oI (x2 + (m1.1 66 x3.toNatClampNeg)), oI (x3 + (1 : Int32))]) hm145 ⟨⟨_, _, rfl⟩, rfl⟩ rfl rfl rfl iconst_1 rfl ?_
      refine w_goto (q := 4) hm145 ⟨_, _, rfl⟩ ?_
      exact h
theorem v_X1_bestTogether_61_47 {d : Nat} {m : dM} {Q : Int32 → dM → Prop} (h : c_X0_waysNow_54_47 d m (fun m1 => j_X1_bestTogether_61_47_17 (d + 1) (m1.1 57 5) (0 : Int32) (0 : Int32) m1 Q)) : c_X1_bestTogether_61_47 (d + 1) m Q := by
  refine w_aload_n (q := 1) hm144 ⟨⟨_, _, rfl⟩, rfl⟩ rfl ?_
  refine w_getr (q := 4) hm144 ⟨⟨_, _, rfl⟩, rfl⟩ rfl ?_
  refine w_aload_n (q := 5) hm144 ⟨⟨_, _, rfl⟩, rfl⟩ rfl ?_
  refine w_call (q := 8) (n := 0) (vs := [.inr (.inr (some 54)), .inr (.inr (some 47))]) (rest := []) (la := [oR 54, oR 47]) hm144 ⟨⟨_, _, rfl⟩, rfl⟩ rfl rfl rfl rfl hm116 rfl rfl (fun _ => ⟨_, _, rfl, rfl⟩) rfl (Wp.mono h ?_)
  rintro _ m1 ⟨rfl, h⟩
  change Wp _ _ 8 _ [.inr (.inr (some 57))] _ _
  refine w_getf (q := 11) (v := (m1.1 57 5)) hm144 ⟨⟨_, _, rfl⟩, rfl⟩ rfl rfl ?_
  refine w_istore_n (q := 12) (l' := [oR 61, oR 47, oI (m1.1 57 5), none, none, none, none]) hm144 ⟨⟨_, _, rfl⟩, rfl⟩ rfl rfl rfl ?_
  refine w_iconst (q := 13) hm144 ⟨⟨_, _, rfl⟩, rfl⟩ iconst_0 ?_
  refine w_istore_n (q := 14) (l' := [oR 61, oR 47, oI (m1.1 57 5), oI (0 : Int32), none, none, none]) hm144 ⟨⟨_, _, rfl⟩, rfl⟩ rfl rfl rfl ?_
  refine w_iconst (q := 15) hm144 ⟨⟨_, _, rfl⟩, rfl⟩ iconst_0 ?_
  refine w_istore (q := 17) (l' := [oR 61, oR 47, oI (m1.1 57 5), oI (0 : Int32), oI (0 : Int32), none, none]) hm144 ⟨⟨_, _, rfl⟩, rfl⟩ rfl rfl rfl ?_
  exact h
theorem v_X1_bestTogether_61_47_17 {d : Nat} {x2 : Int32} {x3 : Int32} {x4 : Int32} {m : dM} {Q : Int32 → dM → Prop} (h : (((m.1 2 2).toInt ≤ x4.toInt → j_X1_bestTogether_61_47_89 (d + 1) x3 (0 : Int32) (0 : Int32) (1 : Int32) m Q) ∧ (x4.toInt < (m.1 2 2).toInt → c_X0_payOf_54_47 d x4 m (fun r1 m1 => ((0 ≤ x4.toInt ∧ x4.toInt < 8) ∧ ((0 ≤ x4.toInt ∧ x4.toInt < 8) ∧ c_X11_has d x2 (m1.1 7 x4.toNatClampNeg) (dSet m1 66 x4.toNatClampNeg r1) (fun r2 m2 => ((r2.toInt = 0 → j_X1_bestTogether_61_47_17 (d + 1) x2 (x3 ||| (0 : Int32)) (x4 + (1 : Int32)) m2 Q) ∧ (r2.toInt ≠ 0 → j_X1_bestTogether_61_47_17 (d + 1) x2 (x3 ||| ((1 : Int32) <<< (x4 &&& 31))) (x4 + (1 : Int32)) m2 Q))))))))) : j_X1_bestTogether_61_47_17 (d + 1) x2 x3 x4 m Q := by
  refine w_iload (q := 19) hm144 ⟨⟨_, _, rfl⟩, rfl⟩ rfl ?_
  refine w_aload_n (q := 20) hm144 ⟨⟨_, _, rfl⟩, rfl⟩ rfl ?_
  refine w_getr (q := 23) hm144 ⟨⟨_, _, rfl⟩, rfl⟩ rfl ?_
  refine w_getf (q := 26) (v := (m.1 2 2)) hm144 ⟨⟨_, _, rfl⟩, rfl⟩ rfl rfl ?_
  refine w_icmp_ge (q := 29) (X := x4.toInt) (Y := (m.1 2 2).toInt) hm144 ⟨⟨_, _, rfl⟩, rfl⟩ rfl rfl (fun hc => ?_) (fun hc => ?_)
  · have h := h.1 hc
    refine w_iconst (q := 81) hm144 ⟨⟨_, _, rfl⟩, rfl⟩ iconst_0 ?_
    refine w_istore (q := 83) (l' := [oR 61, oR 47, oI x2, oI x3, oI (0 : Int32), none, none]) hm144 ⟨⟨_, _, rfl⟩, rfl⟩ rfl rfl rfl ?_
    refine w_iconst (q := 84) hm144 ⟨⟨_, _, rfl⟩, rfl⟩ iconst_0 ?_
    refine w_istore (q := 86) (l' := [oR 61, oR 47, oI x2, oI x3, oI (0 : Int32), oI (0 : Int32), none]) hm144 ⟨⟨_, _, rfl⟩, rfl⟩ rfl rfl rfl ?_
    refine w_iconst (q := 87) hm144 ⟨⟨_, _, rfl⟩, rfl⟩ iconst_1 ?_
    refine w_istore (q := 89) (l' := [oR 61, oR 47, oI x2, oI x3, oI (0 : Int32), oI (0 : Int32), oI (1 : Int32)]) hm144 ⟨⟨_, _, rfl⟩, rfl⟩ rfl rfl rfl ?_
    exact Wp.wk [true, true, false, true, true, true, true] h
  · have h := h.2 hc
    refine w_aload_n (q := 30) hm144 ⟨⟨_, _, rfl⟩, rfl⟩ rfl ?_
    refine w_getr (q := 33) hm144 ⟨⟨_, _, rfl⟩, rfl⟩ rfl ?_
    refine w_iload (q := 35) hm144 ⟨⟨_, _, rfl⟩, rfl⟩ rfl ?_
    refine w_aload_n (q := 36) hm144 ⟨⟨_, _, rfl⟩, rfl⟩ rfl ?_
    refine w_getr (q := 39) hm144 ⟨⟨_, _, rfl⟩, rfl⟩ rfl ?_
    refine w_aload_n (q := 40) hm144 ⟨⟨_, _, rfl⟩, rfl⟩ rfl ?_
    refine w_iload (q := 42) hm144 ⟨⟨_, _, rfl⟩, rfl⟩ rfl ?_
    refine w_call (q := 45) (n := 0) (vs := [.inr (.inr (some 54)), .inr (.inr (some 47)), .inl x4]) (rest := [.inl x4, .inr (.inr (some 66))]) (la := [oR 54, oR 47, oI x4]) hm144 ⟨⟨_, _, rfl⟩, rfl⟩ rfl rfl rfl rfl hm129 rfl rfl (fun _ => ⟨_, _, rfl, rfl⟩) rfl (Wp.mono h ?_)
    rintro _ m1 ⟨r1, rfl, h⟩
    change Wp _ _ 45 _ [.inl r1, .inl x4, .inr (.inr (some 66))] _ _
    obtain ⟨hi, h⟩ := h
    refine w_iast (q := 46) hm144 ⟨⟨_, _, rfl⟩, rfl⟩ rfl hi rfl rfl ?_
    refine w_iload_n (q := 47) hm144 ⟨⟨_, _, rfl⟩, rfl⟩ rfl ?_
    refine w_iload_n (q := 48) hm144 ⟨⟨_, _, rfl⟩, rfl⟩ rfl ?_
    refine w_aload_n (q := 49) hm144 ⟨⟨_, _, rfl⟩, rfl⟩ rfl ?_
    refine w_getr (q := 52) hm144 ⟨⟨_, _, rfl⟩, rfl⟩ rfl ?_
    refine w_getr (q := 55) hm144 ⟨⟨_, _, rfl⟩, rfl⟩ rfl ?_
    refine w_iload (q := 57) hm144 ⟨⟨_, _, rfl⟩, rfl⟩ rfl ?_
    obtain ⟨hi, h⟩ := h
    refine w_iald (q := 58) (v := (m1.1 7 x4.toNatClampNeg)) hm144 ⟨⟨_, _, rfl⟩, rfl⟩ rfl hi rfl rfl ?_
    refine w_call (q := 61) (n := 0) (vs := [.inl x2, .inl (m1.1 7 x4.toNatClampNeg)]) (rest := [.inl x3]) (la := [oI x2, oI (m1.1 7 x4.toNatClampNeg)]) hm144 ⟨⟨_, _, rfl⟩, rfl⟩ rfl rfl rfl rfl hm283 rfl rfl (fun hz => absurd hz (by decide)) rfl (Wp.mono h ?_)
    rintro _ m2 ⟨r2, rfl, h⟩
    change Wp _ _ 61 _ [.inl r2, .inl x3] _ _
    refine w_if_eq (q := 64) (X := r2.toInt) hm144 ⟨⟨_, _, rfl⟩, rfl⟩ rfl (fun hc => ?_) (fun hc => ?_)
    · have h := h.1 hc
      refine w_iconst (q := 72) hm144 ⟨⟨_, _, rfl⟩, rfl⟩ iconst_0 ?_
      refine w_ior (q := 73) hm144 ⟨⟨_, _, rfl⟩, rfl⟩ ?_
      refine w_istore_n (q := 74) (l' := [oR 61, oR 47, oI x2, oI (x3 ||| (0 : Int32)), oI x4, none, none]) hm144 ⟨⟨_, _, rfl⟩, rfl⟩ rfl rfl rfl ?_
      refine w_iinc (q := 77) (l' := [oR 61, oR 47, oI x2, oI (x3 ||| (0 : Int32)), oI (x4 + (1 : Int32)), none, none]) hm144 ⟨⟨_, _, rfl⟩, rfl⟩ rfl rfl rfl iconst_1 rfl ?_
      refine w_goto (q := 17) hm144 ⟨_, _, rfl⟩ ?_
      exact h
    · have h := h.2 hc
      refine w_iconst (q := 65) hm144 ⟨⟨_, _, rfl⟩, rfl⟩ iconst_1 ?_
      refine w_iload (q := 67) hm144 ⟨⟨_, _, rfl⟩, rfl⟩ rfl ?_
      refine w_ishl (q := 68) hm144 ⟨⟨_, _, rfl⟩, rfl⟩ ?_
      refine w_goto (q := 72) hm144 ⟨_, _, rfl⟩ ?_
      refine w_ior (q := 73) hm144 ⟨⟨_, _, rfl⟩, rfl⟩ ?_
      refine w_istore_n (q := 74) (l' := [oR 61, oR 47, oI x2, oI (x3 ||| ((1 : Int32) <<< (x4 &&& 31))), oI x4, none, none]) hm144 ⟨⟨_, _, rfl⟩, rfl⟩ rfl rfl rfl ?_
      refine w_iinc (q := 77) (l' := [oR 61, oR 47, oI x2, oI (x3 ||| ((1 : Int32) <<< (x4 &&& 31))), oI (x4 + (1 : Int32)), none, none]) hm144 ⟨⟨_, _, rfl⟩, rfl⟩ rfl rfl rfl iconst_1 rfl ?_
      refine w_goto (q := 17) hm144 ⟨_, _, rfl⟩ ?_
      exact h
theorem v_X1_bestTogether_61_47_89 {d : Nat} {x3 : Int32} {x4 : Int32} {x5 : Int32} {x6 : Int32} {m : dM} {Q : Int32 → dM → Prop} (h : ((((1 : Int32) <<< ((m.1 2 2) &&& 31)).toInt ≤ x6.toInt → Q x4 m) ∧ (x6.toInt < ((1 : Int32) <<< ((m.1 2 2) &&& 31)).toInt → (((x6 &&& (x3 ^^^ (-1 : Int32))).toInt ≠ 0 → j_X1_bestTogether_61_47_148 (d + 1) x3 x4 x5 x6 m Q) ∧ ((x6 &&& (x3 ^^^ (-1 : Int32))).toInt = 0 → c_X1_payOfAll_61 d x6 m (fun r1 m1 => ((r1.toInt ≤ x5.toInt → j_X1_bestTogether_61_47_148 (d + 1) x3 x4 x5 x6 m1 Q) ∧ (x5.toInt < r1.toInt → c_X0_goingWith_54_47 d x6 m1 (fun r2 m2 => ((r2.toInt ≠ 0 → j_X1_bestTogether_61_47_148 (d + 1) x3 x4 x5 x6 m2 Q) ∧ (r2.toInt = 0 → c_X1_payOfAll_61 d x6 m2 (fun r3 m3 => j_X1_bestTogether_61_47_148 (d + 1) x3 x6 r3 x6 m3 Q)))))))))))) : j_X1_bestTogether_61_47_89 (d + 1) x3 x4 x5 x6 m Q := by
  refine w_iload (q := 91) hm144 ⟨⟨_, _, rfl⟩, rfl⟩ rfl ?_
  refine w_iconst (q := 92) hm144 ⟨⟨_, _, rfl⟩, rfl⟩ iconst_1 ?_
  refine w_aload_n (q := 93) hm144 ⟨⟨_, _, rfl⟩, rfl⟩ rfl ?_
  refine w_getr (q := 96) hm144 ⟨⟨_, _, rfl⟩, rfl⟩ rfl ?_
  refine w_getf (q := 99) (v := (m.1 2 2)) hm144 ⟨⟨_, _, rfl⟩, rfl⟩ rfl rfl ?_
  refine w_ishl (q := 100) hm144 ⟨⟨_, _, rfl⟩, rfl⟩ ?_
  refine w_icmp_ge (q := 103) (X := x6.toInt) (Y := ((1 : Int32) <<< ((m.1 2 2) &&& 31)).toInt) hm144 ⟨⟨_, _, rfl⟩, rfl⟩ rfl rfl (fun hc => ?_) (fun hc => ?_)
  · have h := h.1 hc
    refine w_iload (q := 156) hm144 ⟨⟨_, _, rfl⟩, rfl⟩ rfl ?_
    exact w_reti hm144 ⟨⟨_, _, rfl⟩, rfl⟩ rfl h
  · have h := h.2 hc
    refine w_iload (q := 105) hm144 ⟨⟨_, _, rfl⟩, rfl⟩ rfl ?_
    refine w_iload_n (q := 106) hm144 ⟨⟨_, _, rfl⟩, rfl⟩ rfl ?_
    refine w_iconst (q := 107) hm144 ⟨⟨_, _, rfl⟩, rfl⟩ iconst_m1 ?_
    refine w_ixor (q := 108) hm144 ⟨⟨_, _, rfl⟩, rfl⟩ ?_
    refine w_iand (q := 109) hm144 ⟨⟨_, _, rfl⟩, rfl⟩ ?_
    refine w_if_ne (q := 112) (X := (x6 &&& (x3 ^^^ (-1 : Int32))).toInt) hm144 ⟨⟨_, _, rfl⟩, rfl⟩ rfl (fun hc => ?_) (fun hc => ?_)
    · have h := h.1 hc
      exact h
    · have h := h.2 hc
      refine w_aload_n (q := 113) hm144 ⟨⟨_, _, rfl⟩, rfl⟩ rfl ?_
      refine w_iload (q := 115) hm144 ⟨⟨_, _, rfl⟩, rfl⟩ rfl ?_
      refine w_call (q := 118) (n := 2) (vs := [.inr (.inr (some 61)), .inl x6]) (rest := []) (la := [oR 61, oI x6, none, none]) hm144 ⟨⟨_, _, rfl⟩, rfl⟩ rfl rfl rfl rfl hm145 rfl rfl (fun _ => ⟨_, _, rfl, rfl⟩) rfl (Wp.mono h ?_)
      rintro _ m1 ⟨r1, rfl, h⟩
      change Wp _ _ 118 _ [.inl r1] _ _
      refine w_iload (q := 120) hm144 ⟨⟨_, _, rfl⟩, rfl⟩ rfl ?_
      refine w_icmp_le (q := 123) (X := r1.toInt) (Y := x5.toInt) hm144 ⟨⟨_, _, rfl⟩, rfl⟩ rfl rfl (fun hc => ?_) (fun hc => ?_)
      · have h := h.1 hc
        exact h
      · have h := h.2 hc
        refine w_aload_n (q := 124) hm144 ⟨⟨_, _, rfl⟩, rfl⟩ rfl ?_
        refine w_getr (q := 127) hm144 ⟨⟨_, _, rfl⟩, rfl⟩ rfl ?_
        refine w_aload_n (q := 128) hm144 ⟨⟨_, _, rfl⟩, rfl⟩ rfl ?_
        refine w_iload (q := 130) hm144 ⟨⟨_, _, rfl⟩, rfl⟩ rfl ?_
        refine w_call (q := 133) (n := 0) (vs := [.inr (.inr (some 54)), .inr (.inr (some 47)), .inl x6]) (rest := []) (la := [oR 54, oR 47, oI x6]) hm144 ⟨⟨_, _, rfl⟩, rfl⟩ rfl rfl rfl rfl hm123 rfl rfl (fun _ => ⟨_, _, rfl, rfl⟩) rfl (Wp.mono h ?_)
        rintro _ m2 ⟨r2, rfl, h⟩
        change Wp _ _ 133 _ [.inl r2] _ _
        refine w_if_ne (q := 136) (X := r2.toInt) hm144 ⟨⟨_, _, rfl⟩, rfl⟩ rfl (fun hc => ?_) (fun hc => ?_)
        · have h := h.1 hc
          exact h
        · have h := h.2 hc
          refine w_iload (q := 138) hm144 ⟨⟨_, _, rfl⟩, rfl⟩ rfl ?_
          refine w_istore (q := 140) (l' := [oR 61, oR 47, none, oI x3, oI x6, oI x5, oI x6]) hm144 ⟨⟨_, _, rfl⟩, rfl⟩ rfl rfl rfl ?_
          refine w_aload_n (q := 141) hm144 ⟨⟨_, _, rfl⟩, rfl⟩ rfl ?_
          refine w_iload (q := 143) hm144 ⟨⟨_, _, rfl⟩, rfl⟩ rfl ?_
          refine w_call (q := 146) (n := 2) (vs := [.inr (.inr (some 61)), .inl x6]) (rest := []) (la := [oR 61, oI x6, none, none]) hm144 ⟨⟨_, _, rfl⟩, rfl⟩ rfl rfl rfl rfl hm145 rfl rfl (fun _ => ⟨_, _, rfl, rfl⟩) rfl (Wp.mono h ?_)
          rintro _ m3 ⟨r3, rfl, h⟩
          change Wp _ _ 146 _ [.inl r3] _ _
          refine w_istore (q := 148) (l' := [oR 61, oR 47, none, oI x3, oI x6, oI r3, oI x6]) hm144 ⟨⟨_, _, rfl⟩, rfl⟩ rfl rfl rfl ?_
          exact h
theorem v_X1_bestTogether_61_47_148 {d : Nat} {x3 : Int32} {x4 : Int32} {x5 : Int32} {x6 : Int32} {m : dM} {Q : Int32 → dM → Prop} (h : j_X1_bestTogether_61_47_89 (d + 1) x3 x4 x5 (x6 + (1 : Int32)) m Q) : j_X1_bestTogether_61_47_148 (d + 1) x3 x4 x5 x6 m Q := by
  refine w_iinc (q := 151) (l' := [oR 61, oR 47, none, oI x3, oI x4, oI x5, oI (x6 + (1 : Int32))]) hm144 ⟨⟨_, _, rfl⟩, rfl⟩ rfl rfl rfl iconst_1 rfl ?_
  refine w_goto (q := 89) hm144 ⟨_, _, rfl⟩ ?_
  exact h
theorem v_X11_together_0 {d : Nat} {x1 : Int32} {m : dM} {Q : Int32 → dM → Prop} (h : ((x1.toInt < 0 → j_X11_together_0_9 (d + 1) m Q) ∧ (0 ≤ x1.toInt → ((x1.toInt ≤ 1 → c_X1_bestTogether_61_47 d m (fun r1 m1 => ((x1.toInt ≠ 0 → Q r1 m1) ∧ (x1.toInt = 0 → c_X1_payOfAll_61 d r1 m1 (fun r2 m2 => Q r2 m2))))) ∧ (1 < x1.toInt → j_X11_together_0_9 (d + 1) m Q))))) : c_X11_together_0 (d + 1) x1 m Q := by
  refine w_iload_n (q := 1) hm263 ⟨⟨_, _, rfl⟩, rfl⟩ rfl ?_
  refine w_if_lt (q := 4) (X := x1.toInt) hm263 ⟨⟨_, _, rfl⟩, rfl⟩ rfl (fun hc => ?_) (fun hc => ?_)
  · have h := h.1 hc
    exact Wp.wk [false, false, false] h
  · have h := h.2 hc
    refine w_iload_n (q := 5) hm263 ⟨⟨_, _, rfl⟩, rfl⟩ rfl ?_
    refine w_iconst (q := 6) hm263 ⟨⟨_, _, rfl⟩, rfl⟩ iconst_1 ?_
    refine w_icmp_le (q := 9) (X := x1.toInt) (Y := 1) hm263 ⟨⟨_, _, rfl⟩, rfl⟩ rfl (by decide) (fun hc => ?_) (fun hc => ?_)
    · have h := h.1 hc
      refine w_aload_n (q := 12) hm263 ⟨⟨_, _, rfl⟩, rfl⟩ rfl ?_
      refine w_getr (q := 15) hm263 ⟨⟨_, _, rfl⟩, rfl⟩ rfl ?_
      refine w_aload_n (q := 16) hm263 ⟨⟨_, _, rfl⟩, rfl⟩ rfl ?_
      refine w_getr (q := 19) hm263 ⟨⟨_, _, rfl⟩, rfl⟩ rfl ?_
      refine w_call (q := 22) (n := 5) (vs := [.inr (.inr (some 61)), .inr (.inr (some 47))]) (rest := []) (la := [oR 61, oR 47, none, none, none, none, none]) hm263 ⟨⟨_, _, rfl⟩, rfl⟩ rfl rfl rfl rfl hm144 rfl rfl (fun _ => ⟨_, _, rfl, rfl⟩) rfl (Wp.mono h ?_)
      rintro _ m1 ⟨r1, rfl, h⟩
      change Wp _ _ 22 _ [.inl r1] _ _
      refine w_istore_n (q := 23) (l' := [oR 0, oI x1, oI r1]) hm263 ⟨⟨_, _, rfl⟩, rfl⟩ rfl rfl rfl ?_
      refine w_iload_n (q := 24) hm263 ⟨⟨_, _, rfl⟩, rfl⟩ rfl ?_
      refine w_if_ne (q := 27) (X := x1.toInt) hm263 ⟨⟨_, _, rfl⟩, rfl⟩ rfl (fun hc => ?_) (fun hc => ?_)
      · have h := h.1 hc
        refine w_iload_n (q := 39) hm263 ⟨⟨_, _, rfl⟩, rfl⟩ rfl ?_
        exact w_reti hm263 ⟨⟨_, _, rfl⟩, rfl⟩ rfl h
      · have h := h.2 hc
        refine w_aload_n (q := 28) hm263 ⟨⟨_, _, rfl⟩, rfl⟩ rfl ?_
        refine w_getr (q := 31) hm263 ⟨⟨_, _, rfl⟩, rfl⟩ rfl ?_
        refine w_iload_n (q := 32) hm263 ⟨⟨_, _, rfl⟩, rfl⟩ rfl ?_
        refine w_call (q := 35) (n := 2) (vs := [.inr (.inr (some 61)), .inl r1]) (rest := []) (la := [oR 61, oI r1, none, none]) hm263 ⟨⟨_, _, rfl⟩, rfl⟩ rfl rfl rfl rfl hm145 rfl rfl (fun _ => ⟨_, _, rfl, rfl⟩) rfl (Wp.mono h ?_)
        rintro _ m2 ⟨r2, rfl, h⟩
        change Wp _ _ 35 _ [.inl r2] _ _
        refine w_goto (q := 39) hm263 ⟨_, _, rfl⟩ ?_
        exact w_reti hm263 ⟨⟨_, _, rfl⟩, rfl⟩ rfl h
    · have h := h.2 hc
      exact Wp.wk [false, false, false] h
theorem v_X11_together_0_9 {d : Nat} {m : dM} {Q : Int32 → dM → Prop} (h : Q (-1 : Int32) m) : j_X11_together_0_9 (d + 1) m Q := by
  refine w_iconst (q := 10) hm263 ⟨⟨_, _, rfl⟩, rfl⟩ iconst_m1 ?_
  exact w_reti hm263 ⟨⟨_, _, rfl⟩, rfl⟩ rfl h
theorem v_X12_usesLit_70 {d : Nat} {m : dM} {Q : Int32 → dM → Prop} (h : j_X12_usesLit_70_4 (d + 1) (0 : Int32) (0 : Int32) m Q) : c_X12_usesLit_70 (d + 1) m Q := by
  refine w_iconst (q := 1) hm87 ⟨⟨_, _, rfl⟩, rfl⟩ iconst_0 ?_
  refine w_istore_n (q := 2) (l' := [oR 70, oI (0 : Int32), none]) hm87 ⟨⟨_, _, rfl⟩, rfl⟩ rfl rfl rfl ?_
  refine w_iconst (q := 3) hm87 ⟨⟨_, _, rfl⟩, rfl⟩ iconst_0 ?_
  refine w_istore_n (q := 4) (l' := [oR 70, oI (0 : Int32), oI (0 : Int32)]) hm87 ⟨⟨_, _, rfl⟩, rfl⟩ rfl rfl rfl ?_
  exact h
theorem v_X12_usesLit_70_4 {d : Nat} {x1 : Int32} {x2 : Int32} {m : dM} {Q : Int32 → dM → Prop} (h : ((0 ≤ (m.1 70 18).toInt ∧ (m.1 70 18).toInt < 2) ∧ (((m.1 86 (m.1 70 18).toNatClampNeg).toInt ≤ x2.toInt → Q x1 m) ∧ (x2.toInt < (m.1 86 (m.1 70 18).toNatClampNeg).toInt → c_X12_flatAt_70 d x2 m (fun r1 m1 => c_X12_isLit_70 d r1 m1 (fun r2 m2 => ((r2.toInt = 0 → j_X12_usesLit_70_35 (d + 1) x1 x2 m2 Q) ∧ (r2.toInt ≠ 0 → j_X12_usesLit_70_35 (d + 1) (x1 ||| ((1 : Int32) <<< (x2 &&& 31))) x2 m2 Q)))))))) : j_X12_usesLit_70_4 (d + 1) x1 x2 m Q := by
  refine w_iload_n (q := 5) hm87 ⟨⟨_, _, rfl⟩, rfl⟩ rfl ?_
  refine w_aload_n (q := 6) hm87 ⟨⟨_, _, rfl⟩, rfl⟩ rfl ?_
  refine w_getr (q := 9) hm87 ⟨⟨_, _, rfl⟩, rfl⟩ rfl ?_
  refine w_aload_n (q := 10) hm87 ⟨⟨_, _, rfl⟩, rfl⟩ rfl ?_
  refine w_getf (q := 13) (v := (m.1 70 18)) hm87 ⟨⟨_, _, rfl⟩, rfl⟩ rfl rfl ?_
  obtain ⟨hi, h⟩ := h
  refine w_iald (q := 14) (v := (m.1 86 (m.1 70 18).toNatClampNeg)) hm87 ⟨⟨_, _, rfl⟩, rfl⟩ rfl hi rfl rfl ?_
  refine w_icmp_ge (q := 17) (X := x2.toInt) (Y := (m.1 86 (m.1 70 18).toNatClampNeg).toInt) hm87 ⟨⟨_, _, rfl⟩, rfl⟩ rfl rfl (fun hc => ?_) (fun hc => ?_)
  · have h := h.1 hc
    refine w_iload_n (q := 42) hm87 ⟨⟨_, _, rfl⟩, rfl⟩ rfl ?_
    exact w_reti hm87 ⟨⟨_, _, rfl⟩, rfl⟩ rfl h
  · have h := h.2 hc
    refine w_aload_n (q := 18) hm87 ⟨⟨_, _, rfl⟩, rfl⟩ rfl ?_
    refine w_aload_n (q := 19) hm87 ⟨⟨_, _, rfl⟩, rfl⟩ rfl ?_
    refine w_iload_n (q := 20) hm87 ⟨⟨_, _, rfl⟩, rfl⟩ rfl ?_
    refine w_call (q := 23) (n := 0) (vs := [.inr (.inr (some 70)), .inl x2]) (rest := [.inr (.inr (some 70))]) (la := [oR 70, oI x2]) hm87 ⟨⟨_, _, rfl⟩, rfl⟩ rfl rfl rfl rfl hm53 rfl rfl (fun _ => ⟨_, _, rfl, rfl⟩) rfl (Wp.mono h ?_)
    rintro _ m1 ⟨r1, rfl, h⟩
    change Wp _ _ 23 _ [.inl r1, .inr (.inr (some 70))] _ _
    refine w_call (q := 26) (n := 0) (vs := [.inr (.inr (some 70)), .inl r1]) (rest := []) (la := [oR 70, oI r1]) hm87 ⟨⟨_, _, rfl⟩, rfl⟩ rfl rfl rfl rfl hm51 rfl rfl (fun _ => ⟨_, _, rfl, rfl⟩) rfl (Wp.mono h ?_)
    rintro _ m2 ⟨r2, rfl, h⟩
    change Wp _ _ 26 _ [.inl r2] _ _
    refine w_if_eq (q := 29) (X := r2.toInt) hm87 ⟨⟨_, _, rfl⟩, rfl⟩ rfl (fun hc => ?_) (fun hc => ?_)
    · have h := h.1 hc
      exact h
    · have h := h.2 hc
      refine w_iload_n (q := 30) hm87 ⟨⟨_, _, rfl⟩, rfl⟩ rfl ?_
      refine w_iconst (q := 31) hm87 ⟨⟨_, _, rfl⟩, rfl⟩ iconst_1 ?_
      refine w_iload_n (q := 32) hm87 ⟨⟨_, _, rfl⟩, rfl⟩ rfl ?_
      refine w_ishl (q := 33) hm87 ⟨⟨_, _, rfl⟩, rfl⟩ ?_
      refine w_ior (q := 34) hm87 ⟨⟨_, _, rfl⟩, rfl⟩ ?_
      refine w_istore_n (q := 35) (l' := [oR 70, oI (x1 ||| ((1 : Int32) <<< (x2 &&& 31))), oI x2]) hm87 ⟨⟨_, _, rfl⟩, rfl⟩ rfl rfl rfl ?_
      exact h
theorem v_X12_usesLit_70_35 {d : Nat} {x1 : Int32} {x2 : Int32} {m : dM} {Q : Int32 → dM → Prop} (h : j_X12_usesLit_70_4 (d + 1) x1 (x2 + (1 : Int32)) m Q) : j_X12_usesLit_70_35 (d + 1) x1 x2 m Q := by
  refine w_iinc (q := 38) (l' := [oR 70, oI x1, oI (x2 + (1 : Int32))]) hm87 ⟨⟨_, _, rfl⟩, rfl⟩ rfl rfl rfl iconst_1 rfl ?_
  refine w_goto (q := 4) hm87 ⟨_, _, rfl⟩ ?_
  exact h
theorem v_X12_together_70 {d : Nat} {x1 : Int32} {m : dM} {Q : Int32 → dM → Prop} (h : c_X12_in d x1 (0 : Int32) (1 : Int32) m (fun r1 m1 => ((r1.toInt ≠ 0 → c_X12_copies_70 d m1 (fun m2 => c_X12_usesLit_70 d m2 (fun r3 m3 => j_X12_together_70_28 (d + 1) x1 r3 (0 : Int32) (0 : Int32) (1 : Int32) m3 Q))) ∧ (r1.toInt = 0 → Q (-1 : Int32) m1)))) : c_X12_together_70 (d + 1) x1 m Q := by
  refine w_iload_n (q := 1) hm88 ⟨⟨_, _, rfl⟩, rfl⟩ rfl ?_
  refine w_iconst (q := 2) hm88 ⟨⟨_, _, rfl⟩, rfl⟩ iconst_0 ?_
  refine w_iconst (q := 3) hm88 ⟨⟨_, _, rfl⟩, rfl⟩ iconst_1 ?_
  refine w_call (q := 6) (n := 0) (vs := [.inl x1, .inl (0 : Int32), .inl (1 : Int32)]) (rest := []) (la := [oI x1, oI (0 : Int32), oI (1 : Int32)]) hm88 ⟨⟨_, _, rfl⟩, rfl⟩ rfl rfl rfl rfl hm36 rfl rfl (fun hz => absurd hz (by decide)) rfl (Wp.mono h ?_)
  rintro _ m1 ⟨r1, rfl, h⟩
  change Wp _ _ 6 _ [.inl r1] _ _
  refine w_if_ne (q := 9) (X := r1.toInt) hm88 ⟨⟨_, _, rfl⟩, rfl⟩ rfl (fun hc => ?_) (fun hc => ?_)
  · have h := h.1 hc
    refine w_aload_n (q := 12) hm88 ⟨⟨_, _, rfl⟩, rfl⟩ rfl ?_
    refine w_call (q := 15) (n := 1) (vs := [.inr (.inr (some 70))]) (rest := []) (la := [oR 70, none]) hm88 ⟨⟨_, _, rfl⟩, rfl⟩ rfl rfl rfl rfl hm44 rfl rfl (fun _ => ⟨_, _, rfl, rfl⟩) rfl (Wp.mono h ?_)
    rintro _ m2 ⟨rfl, h⟩
    change Wp _ _ 15 _ [] _ _
    refine w_aload_n (q := 16) hm88 ⟨⟨_, _, rfl⟩, rfl⟩ rfl ?_
    refine w_call (q := 19) (n := 2) (vs := [.inr (.inr (some 70))]) (rest := []) (la := [oR 70, none, none]) hm88 ⟨⟨_, _, rfl⟩, rfl⟩ rfl rfl rfl rfl hm87 rfl rfl (fun _ => ⟨_, _, rfl, rfl⟩) rfl (Wp.mono h ?_)
    rintro _ m3 ⟨r3, rfl, h⟩
    change Wp _ _ 19 _ [.inl r3] _ _
    refine w_istore_n (q := 20) (l' := [oR 70, oI x1, oI r3, none, none, none, none]) hm88 ⟨⟨_, _, rfl⟩, rfl⟩ rfl rfl rfl ?_
    refine w_iconst (q := 21) hm88 ⟨⟨_, _, rfl⟩, rfl⟩ iconst_0 ?_
    refine w_istore_n (q := 22) (l' := [oR 70, oI x1, oI r3, oI (0 : Int32), none, none, none]) hm88 ⟨⟨_, _, rfl⟩, rfl⟩ rfl rfl rfl ?_
    refine w_iconst (q := 23) hm88 ⟨⟨_, _, rfl⟩, rfl⟩ iconst_0 ?_
    refine w_istore (q := 25) (l' := [oR 70, oI x1, oI r3, oI (0 : Int32), oI (0 : Int32), none, none]) hm88 ⟨⟨_, _, rfl⟩, rfl⟩ rfl rfl rfl ?_
    refine w_iconst (q := 26) hm88 ⟨⟨_, _, rfl⟩, rfl⟩ iconst_1 ?_
    refine w_istore (q := 28) (l' := [oR 70, oI x1, oI r3, oI (0 : Int32), oI (0 : Int32), oI (1 : Int32), none]) hm88 ⟨⟨_, _, rfl⟩, rfl⟩ rfl rfl rfl ?_
    exact h
  · have h := h.2 hc
    refine w_iconst (q := 10) hm88 ⟨⟨_, _, rfl⟩, rfl⟩ iconst_m1 ?_
    exact w_reti hm88 ⟨⟨_, _, rfl⟩, rfl⟩ rfl h
theorem v_X12_together_70_28 {d : Nat} {x1 : Int32} {x2 : Int32} {x3 : Int32} {x4 : Int32} {x5 : Int32} {m : dM} {Q : Int32 → dM → Prop} (h : ((0 ≤ (m.1 70 18).toInt ∧ (m.1 70 18).toInt < 2) ∧ ((((1 : Int32) <<< ((m.1 86 (m.1 70 18).toNatClampNeg) &&& 31)).toInt ≤ x5.toInt → ((x1.toInt ≠ 0 → Q x3 m) ∧ (x1.toInt = 0 → Q x4 m))) ∧ (x5.toInt < ((1 : Int32) <<< ((m.1 86 (m.1 70 18).toNatClampNeg) &&& 31)).toInt → (((x5 &&& (x2 ^^^ (-1 : Int32))).toInt = 0 → c_X12_paysAll_70 d x5 m (fun r1 m1 => ((r1.toInt ≤ x4.toInt → j_X12_together_70_101 (d + 1) x1 x2 x3 x4 x5 m1 Q) ∧ (x4.toInt < r1.toInt → c_X12_goingBits_70 d x5 ((m1.1 108 55) - (m1.1 108 55) / (24 : Int32) * (24 : Int32)) (0 : Int32) m1 (fun r2 m2 => ((r2.toInt = 0 → j_X12_together_70_101 (d + 1) x1 x2 x5 r1 x5 m2 Q) ∧ (r2.toInt ≠ 0 → j_X12_together_70_101 (d + 1) x1 x2 x3 x4 x5 m2 Q))))))) ∧ ((x5 &&& (x2 ^^^ (-1 : Int32))).toInt ≠ 0 → j_X12_together_70_101 (d + 1) x1 x2 x3 x4 x5 m Q)))))) : j_X12_together_70_28 (d + 1) x1 x2 x3 x4 x5 m Q := by
  refine w_iload (q := 30) hm88 ⟨⟨_, _, rfl⟩, rfl⟩ rfl ?_
  refine w_iconst (q := 31) hm88 ⟨⟨_, _, rfl⟩, rfl⟩ iconst_1 ?_
  refine w_aload_n (q := 32) hm88 ⟨⟨_, _, rfl⟩, rfl⟩ rfl ?_
  refine w_getr (q := 35) hm88 ⟨⟨_, _, rfl⟩, rfl⟩ rfl ?_
  refine w_aload_n (q := 36) hm88 ⟨⟨_, _, rfl⟩, rfl⟩ rfl ?_
  refine w_getf (q := 39) (v := (m.1 70 18)) hm88 ⟨⟨_, _, rfl⟩, rfl⟩ rfl rfl ?_
  obtain ⟨hi, h⟩ := h
  refine w_iald (q := 40) (v := (m.1 86 (m.1 70 18).toNatClampNeg)) hm88 ⟨⟨_, _, rfl⟩, rfl⟩ rfl hi rfl rfl ?_
  refine w_ishl (q := 41) hm88 ⟨⟨_, _, rfl⟩, rfl⟩ ?_
  refine w_icmp_ge (q := 44) (X := x5.toInt) (Y := ((1 : Int32) <<< ((m.1 86 (m.1 70 18).toNatClampNeg) &&& 31)).toInt) hm88 ⟨⟨_, _, rfl⟩, rfl⟩ rfl rfl (fun hc => ?_) (fun hc => ?_)
  · have h := h.1 hc
    refine w_iload_n (q := 108) hm88 ⟨⟨_, _, rfl⟩, rfl⟩ rfl ?_
    refine w_if_ne (q := 111) (X := x1.toInt) hm88 ⟨⟨_, _, rfl⟩, rfl⟩ rfl (fun hc => ?_) (fun hc => ?_)
    · have h := h.1 hc
      refine w_iload_n (q := 117) hm88 ⟨⟨_, _, rfl⟩, rfl⟩ rfl ?_
      exact w_reti hm88 ⟨⟨_, _, rfl⟩, rfl⟩ rfl h
    · have h := h.2 hc
      refine w_iload (q := 113) hm88 ⟨⟨_, _, rfl⟩, rfl⟩ rfl ?_
      refine w_goto (q := 117) hm88 ⟨_, _, rfl⟩ ?_
      exact w_reti hm88 ⟨⟨_, _, rfl⟩, rfl⟩ rfl h
  · have h := h.2 hc
    refine w_iload (q := 46) hm88 ⟨⟨_, _, rfl⟩, rfl⟩ rfl ?_
    refine w_iload_n (q := 47) hm88 ⟨⟨_, _, rfl⟩, rfl⟩ rfl ?_
    refine w_iconst (q := 48) hm88 ⟨⟨_, _, rfl⟩, rfl⟩ iconst_m1 ?_
    refine w_ixor (q := 49) hm88 ⟨⟨_, _, rfl⟩, rfl⟩ ?_
    refine w_iand (q := 50) hm88 ⟨⟨_, _, rfl⟩, rfl⟩ ?_
    refine w_if_eq (q := 53) (X := (x5 &&& (x2 ^^^ (-1 : Int32))).toInt) hm88 ⟨⟨_, _, rfl⟩, rfl⟩ rfl (fun hc => ?_) (fun hc => ?_)
    · have h := h.1 hc
      refine w_aload_n (q := 57) hm88 ⟨⟨_, _, rfl⟩, rfl⟩ rfl ?_
      refine w_iload (q := 59) hm88 ⟨⟨_, _, rfl⟩, rfl⟩ rfl ?_
      refine w_call (q := 62) (n := 2) (vs := [.inr (.inr (some 70)), .inl x5]) (rest := []) (la := [oR 70, oI x5, none, none]) hm88 ⟨⟨_, _, rfl⟩, rfl⟩ rfl rfl rfl rfl hm65 rfl rfl (fun _ => ⟨_, _, rfl, rfl⟩) rfl (Wp.mono h ?_)
      rintro _ m1 ⟨r1, rfl, h⟩
      change Wp _ _ 62 _ [.inl r1] _ _
      refine w_istore (q := 64) (l' := [oR 70, oI x1, oI x2, oI x3, oI x4, oI x5, oI r1]) hm88 ⟨⟨_, _, rfl⟩, rfl⟩ rfl rfl rfl ?_
      refine w_iload (q := 66) hm88 ⟨⟨_, _, rfl⟩, rfl⟩ rfl ?_
      refine w_iload (q := 68) hm88 ⟨⟨_, _, rfl⟩, rfl⟩ rfl ?_
      refine w_icmp_le (q := 71) (X := r1.toInt) (Y := x4.toInt) hm88 ⟨⟨_, _, rfl⟩, rfl⟩ rfl rfl (fun hc => ?_) (fun hc => ?_)
      · have h := h.1 hc
        exact Wp.wk [true, true, true, true, true, true, false] h
      · have h := h.2 hc
        refine w_aload_n (q := 72) hm88 ⟨⟨_, _, rfl⟩, rfl⟩ rfl ?_
        refine w_iload (q := 74) hm88 ⟨⟨_, _, rfl⟩, rfl⟩ rfl ?_
        refine w_aload_n (q := 75) hm88 ⟨⟨_, _, rfl⟩, rfl⟩ rfl ?_
        refine w_getr (q := 78) hm88 ⟨⟨_, _, rfl⟩, rfl⟩ rfl ?_
        refine w_bipush (q := 80) hm88 ⟨⟨_, _, rfl⟩, rfl⟩ bipush_55 ?_
        refine w_iald (q := 81) (j := 55) (v := (m1.1 108 55)) hm88 ⟨⟨_, _, rfl⟩, rfl⟩ rfl (by decide) (by decide) rfl ?_
        refine w_bipush (q := 83) hm88 ⟨⟨_, _, rfl⟩, rfl⟩ bipush_24 ?_
        refine w_irem (q := 84) hm88 ⟨⟨_, _, rfl⟩, rfl⟩ (by decide) ?_
        refine w_iconst (q := 85) hm88 ⟨⟨_, _, rfl⟩, rfl⟩ iconst_0 ?_
        refine w_call (q := 88) (n := 2) (vs := [.inr (.inr (some 70)), .inl x5, .inl ((m1.1 108 55) - (m1.1 108 55) / (24 : Int32) * (24 : Int32)), .inl (0 : Int32)]) (rest := []) (la := [oR 70, oI x5, oI ((m1.1 108 55) - (m1.1 108 55) / (24 : Int32) * (24 : Int32)), oI (0 : Int32), none, none]) hm88 ⟨⟨_, _, rfl⟩, rfl⟩ rfl rfl rfl rfl hm61 rfl rfl (fun _ => ⟨_, _, rfl, rfl⟩) rfl (Wp.mono h ?_)
        rintro _ m2 ⟨r2, rfl, h⟩
        change Wp _ _ 88 _ [.inl r2] _ _
        refine w_if_eq (q := 91) (X := r2.toInt) hm88 ⟨⟨_, _, rfl⟩, rfl⟩ rfl (fun hc => ?_) (fun hc => ?_)
        · have h := h.1 hc
          refine w_iload (q := 96) hm88 ⟨⟨_, _, rfl⟩, rfl⟩ rfl ?_
          refine w_istore_n (q := 97) (l' := [oR 70, oI x1, oI x2, oI x5, oI x4, oI x5, oI r1]) hm88 ⟨⟨_, _, rfl⟩, rfl⟩ rfl rfl rfl ?_
          refine w_iload (q := 99) hm88 ⟨⟨_, _, rfl⟩, rfl⟩ rfl ?_
          refine w_istore (q := 101) (l' := [oR 70, oI x1, oI x2, oI x5, oI r1, oI x5, oI r1]) hm88 ⟨⟨_, _, rfl⟩, rfl⟩ rfl rfl rfl ?_
          exact Wp.wk [true, true, true, true, true, true, false] h
        · have h := h.2 hc
          refine w_goto (q := 101) hm88 ⟨_, _, rfl⟩ ?_
          exact Wp.wk [true, true, true, true, true, true, false] h
    · have h := h.2 hc
      refine w_goto (q := 101) hm88 ⟨_, _, rfl⟩ ?_
      exact h
theorem v_X12_together_70_101 {d : Nat} {x1 : Int32} {x2 : Int32} {x3 : Int32} {x4 : Int32} {x5 : Int32} {m : dM} {Q : Int32 → dM → Prop} (h : j_X12_together_70_28 (d + 1) x1 x2 x3 x4 (x5 + (1 : Int32)) m Q) : j_X12_together_70_101 (d + 1) x1 x2 x3 x4 x5 m Q := by
  refine w_iinc (q := 104) (l' := [oR 70, oI x1, oI x2, oI x3, oI x4, oI (x5 + (1 : Int32)), none]) hm88 ⟨⟨_, _, rfl⟩, rfl⟩ rfl rfl rfl iconst_1 rfl ?_
  refine w_goto (q := 28) hm88 ⟨_, _, rfl⟩ ?_
  exact h
theorem v_X1_firstStart_61_47 {d : Nat} {x2 : Int32} {m : dM} {Q : Int32 → dM → Prop} (h : ((0 ≤ x2.toInt ∧ x2.toInt < 8) ∧ ((0 ≤ x2.toInt ∧ x2.toInt < 8) ∧ j_X1_firstStart_61_47_28 (d + 1) x2 (((m.1 10 x2.toNatClampNeg) - (m.1 9 x2.toNatClampNeg)) + (1 : Int32)) (0 : Int32) (0 : Int32) m Q))) : c_X1_firstStart_61_47 (d + 1) x2 m Q := by
  refine w_aload_n (q := 1) hm146 ⟨⟨_, _, rfl⟩, rfl⟩ rfl ?_
  refine w_getr (q := 4) hm146 ⟨⟨_, _, rfl⟩, rfl⟩ rfl ?_
  refine w_getr (q := 7) hm146 ⟨⟨_, _, rfl⟩, rfl⟩ rfl ?_
  refine w_iload_n (q := 8) hm146 ⟨⟨_, _, rfl⟩, rfl⟩ rfl ?_
  obtain ⟨hi, h⟩ := h
  refine w_iald (q := 9) (v := (m.1 10 x2.toNatClampNeg)) hm146 ⟨⟨_, _, rfl⟩, rfl⟩ rfl hi rfl rfl ?_
  refine w_aload_n (q := 10) hm146 ⟨⟨_, _, rfl⟩, rfl⟩ rfl ?_
  refine w_getr (q := 13) hm146 ⟨⟨_, _, rfl⟩, rfl⟩ rfl ?_
  refine w_getr (q := 16) hm146 ⟨⟨_, _, rfl⟩, rfl⟩ rfl ?_
  refine w_iload_n (q := 17) hm146 ⟨⟨_, _, rfl⟩, rfl⟩ rfl ?_
  obtain ⟨hi, h⟩ := h
  refine w_iald (q := 18) (v := (m.1 9 x2.toNatClampNeg)) hm146 ⟨⟨_, _, rfl⟩, rfl⟩ rfl hi rfl rfl ?_
  refine w_isub (q := 19) hm146 ⟨⟨_, _, rfl⟩, rfl⟩ ?_
  refine w_iconst (q := 20) hm146 ⟨⟨_, _, rfl⟩, rfl⟩ iconst_1 ?_
  refine w_iadd (q := 21) hm146 ⟨⟨_, _, rfl⟩, rfl⟩ ?_
  refine w_istore_n (q := 22) (l' := [oR 61, oR 47, oI x2, oI (((m.1 10 x2.toNatClampNeg) - (m.1 9 x2.toNatClampNeg)) + (1 : Int32)), none, none]) hm146 ⟨⟨_, _, rfl⟩, rfl⟩ rfl rfl rfl ?_
  refine w_iconst (q := 23) hm146 ⟨⟨_, _, rfl⟩, rfl⟩ iconst_0 ?_
  refine w_istore (q := 25) (l' := [oR 61, oR 47, oI x2, oI (((m.1 10 x2.toNatClampNeg) - (m.1 9 x2.toNatClampNeg)) + (1 : Int32)), oI (0 : Int32), none]) hm146 ⟨⟨_, _, rfl⟩, rfl⟩ rfl rfl rfl ?_
  refine w_iconst (q := 26) hm146 ⟨⟨_, _, rfl⟩, rfl⟩ iconst_0 ?_
  refine w_istore (q := 28) (l' := [oR 61, oR 47, oI x2, oI (((m.1 10 x2.toNatClampNeg) - (m.1 9 x2.toNatClampNeg)) + (1 : Int32)), oI (0 : Int32), oI (0 : Int32)]) hm146 ⟨⟨_, _, rfl⟩, rfl⟩ rfl rfl rfl ?_
  exact h
theorem v_X1_firstStart_61_47_28 {d : Nat} {x2 : Int32} {x3 : Int32} {x4 : Int32} {x5 : Int32} {m : dM} {Q : Int32 → dM → Prop} (h : ((24 ≤ x5.toInt → Q (-2 : Int32) m) ∧ (x5.toInt < 24 → c_X0_usesAt_54_47 d x5 m (fun r1 m1 => c_X0_putOn_54_47 d (r1 ||| ((1 : Int32) <<< (x2 &&& 31))) m1 (fun m2 => c_X0_going_54_47 d x5 (0 : Int32) m2 (fun r3 m3 => ((r3.toInt ≠ 0 → ((0 < x3.toInt → j_X1_firstStart_61_47_28 (d + 1) x2 x3 (0 : Int32) (x5 + (1 : Int32)) m3 Q) ∧ (x3.toInt ≤ 0 → Q ((x5 - x3) + (1 : Int32)) m3))) ∧ (r3.toInt = 0 → (((x4 + (1 : Int32)).toInt < x3.toInt → j_X1_firstStart_61_47_28 (d + 1) x2 x3 (x4 + (1 : Int32)) (x5 + (1 : Int32)) m3 Q) ∧ (x3.toInt ≤ (x4 + (1 : Int32)).toInt → Q ((x5 - x3) + (1 : Int32)) m3)))))))))) : j_X1_firstStart_61_47_28 (d + 1) x2 x3 x4 x5 m Q := by
  refine w_iload (q := 30) hm146 ⟨⟨_, _, rfl⟩, rfl⟩ rfl ?_
  refine w_bipush (q := 32) hm146 ⟨⟨_, _, rfl⟩, rfl⟩ bipush_24 ?_
  refine w_icmp_ge (q := 35) (X := x5.toInt) (Y := 24) hm146 ⟨⟨_, _, rfl⟩, rfl⟩ rfl (by decide) (fun hc => ?_) (fun hc => ?_)
  · have h := h.1 hc
    refine w_bipush (q := 102) hm146 ⟨⟨_, _, rfl⟩, rfl⟩ bipush_m2 ?_
    exact w_reti hm146 ⟨⟨_, _, rfl⟩, rfl⟩ rfl h
  · have h := h.2 hc
    refine w_aload_n (q := 36) hm146 ⟨⟨_, _, rfl⟩, rfl⟩ rfl ?_
    refine w_getr (q := 39) hm146 ⟨⟨_, _, rfl⟩, rfl⟩ rfl ?_
    refine w_aload_n (q := 40) hm146 ⟨⟨_, _, rfl⟩, rfl⟩ rfl ?_
    refine w_aload_n (q := 41) hm146 ⟨⟨_, _, rfl⟩, rfl⟩ rfl ?_
    refine w_getr (q := 44) hm146 ⟨⟨_, _, rfl⟩, rfl⟩ rfl ?_
    refine w_aload_n (q := 45) hm146 ⟨⟨_, _, rfl⟩, rfl⟩ rfl ?_
    refine w_iload (q := 47) hm146 ⟨⟨_, _, rfl⟩, rfl⟩ rfl ?_
    refine w_call (q := 50) (n := 3) (vs := [.inr (.inr (some 54)), .inr (.inr (some 47)), .inl x5]) (rest := [.inr (.inr (some 47)), .inr (.inr (some 54))]) (la := [oR 54, oR 47, oI x5, none, none, none]) hm146 ⟨⟨_, _, rfl⟩, rfl⟩ rfl rfl rfl rfl hm118 rfl rfl (fun _ => ⟨_, _, rfl, rfl⟩) rfl (Wp.mono h ?_)
    rintro _ m1 ⟨r1, rfl, h⟩
    change Wp _ _ 50 _ [.inl r1, .inr (.inr (some 47)), .inr (.inr (some 54))] _ _
    refine w_iconst (q := 51) hm146 ⟨⟨_, _, rfl⟩, rfl⟩ iconst_1 ?_
    refine w_iload_n (q := 52) hm146 ⟨⟨_, _, rfl⟩, rfl⟩ rfl ?_
    refine w_ishl (q := 53) hm146 ⟨⟨_, _, rfl⟩, rfl⟩ ?_
    refine w_ior (q := 54) hm146 ⟨⟨_, _, rfl⟩, rfl⟩ ?_
    refine w_call (q := 57) (n := 3) (vs := [.inr (.inr (some 54)), .inr (.inr (some 47)), .inl (r1 ||| ((1 : Int32) <<< (x2 &&& 31)))]) (rest := []) (la := [oR 54, oR 47, oI (r1 ||| ((1 : Int32) <<< (x2 &&& 31))), none, none, none]) hm146 ⟨⟨_, _, rfl⟩, rfl⟩ rfl rfl rfl rfl hm120 rfl rfl (fun _ => ⟨_, _, rfl, rfl⟩) rfl (Wp.mono h ?_)
    rintro _ m2 ⟨rfl, h⟩
    change Wp _ _ 57 _ [] _ _
    refine w_aload_n (q := 58) hm146 ⟨⟨_, _, rfl⟩, rfl⟩ rfl ?_
    refine w_getr (q := 61) hm146 ⟨⟨_, _, rfl⟩, rfl⟩ rfl ?_
    refine w_aload_n (q := 62) hm146 ⟨⟨_, _, rfl⟩, rfl⟩ rfl ?_
    refine w_iload (q := 64) hm146 ⟨⟨_, _, rfl⟩, rfl⟩ rfl ?_
    refine w_iconst (q := 65) hm146 ⟨⟨_, _, rfl⟩, rfl⟩ iconst_0 ?_
    refine w_call (q := 68) (n := 2) (vs := [.inr (.inr (some 54)), .inr (.inr (some 47)), .inl x5, .inl (0 : Int32)]) (rest := []) (la := [oR 54, oR 47, oI x5, oI (0 : Int32), none, none]) hm146 ⟨⟨_, _, rfl⟩, rfl⟩ rfl rfl rfl rfl hm124 rfl rfl (fun _ => ⟨_, _, rfl, rfl⟩) rfl (Wp.mono h ?_)
    rintro _ m3 ⟨r3, rfl, h⟩
    change Wp _ _ 68 _ [.inl r3] _ _
    refine w_if_ne (q := 71) (X := r3.toInt) hm146 ⟨⟨_, _, rfl⟩, rfl⟩ rfl (fun hc => ?_) (fun hc => ?_)
    · have h := h.1 hc
      refine w_iconst (q := 79) hm146 ⟨⟨_, _, rfl⟩, rfl⟩ iconst_0 ?_
      refine w_istore (q := 81) (l' := [oR 61, oR 47, oI x2, oI x3, oI (0 : Int32), oI x5]) hm146 ⟨⟨_, _, rfl⟩, rfl⟩ rfl rfl rfl ?_
      refine w_iload (q := 83) hm146 ⟨⟨_, _, rfl⟩, rfl⟩ rfl ?_
      refine w_iload_n (q := 84) hm146 ⟨⟨_, _, rfl⟩, rfl⟩ rfl ?_
      refine w_icmp_lt (q := 87) (X := 0) (Y := x3.toInt) hm146 ⟨⟨_, _, rfl⟩, rfl⟩ (by decide) rfl (fun hc => ?_) (fun hc => ?_)
      · have h := h.1 hc
        refine w_iinc (q := 97) (l' := [oR 61, oR 47, oI x2, oI x3, oI (0 : Int32), oI (x5 + (1 : Int32))]) hm146 ⟨⟨_, _, rfl⟩, rfl⟩ rfl rfl rfl iconst_1 rfl ?_
        refine w_goto (q := 28) hm146 ⟨_, _, rfl⟩ ?_
        exact h
      · have h := h.2 hc
        refine w_iload (q := 89) hm146 ⟨⟨_, _, rfl⟩, rfl⟩ rfl ?_
        refine w_iload_n (q := 90) hm146 ⟨⟨_, _, rfl⟩, rfl⟩ rfl ?_
        refine w_isub (q := 91) hm146 ⟨⟨_, _, rfl⟩, rfl⟩ ?_
        refine w_iconst (q := 92) hm146 ⟨⟨_, _, rfl⟩, rfl⟩ iconst_1 ?_
        refine w_iadd (q := 93) hm146 ⟨⟨_, _, rfl⟩, rfl⟩ ?_
        exact w_reti hm146 ⟨⟨_, _, rfl⟩, rfl⟩ rfl h
    · have h := h.2 hc
      refine w_iload (q := 73) hm146 ⟨⟨_, _, rfl⟩, rfl⟩ rfl ?_
      refine w_iconst (q := 74) hm146 ⟨⟨_, _, rfl⟩, rfl⟩ iconst_1 ?_
      refine w_iadd (q := 75) hm146 ⟨⟨_, _, rfl⟩, rfl⟩ ?_
      refine w_goto (q := 79) hm146 ⟨_, _, rfl⟩ ?_
      refine w_istore (q := 81) (l' := [oR 61, oR 47, oI x2, oI x3, oI (x4 + (1 : Int32)), oI x5]) hm146 ⟨⟨_, _, rfl⟩, rfl⟩ rfl rfl rfl ?_
      refine w_iload (q := 83) hm146 ⟨⟨_, _, rfl⟩, rfl⟩ rfl ?_
      refine w_iload_n (q := 84) hm146 ⟨⟨_, _, rfl⟩, rfl⟩ rfl ?_
      refine w_icmp_lt (q := 87) (X := (x4 + (1 : Int32)).toInt) (Y := x3.toInt) hm146 ⟨⟨_, _, rfl⟩, rfl⟩ rfl rfl (fun hc => ?_) (fun hc => ?_)
      · have h := h.1 hc
        refine w_iinc (q := 97) (l' := [oR 61, oR 47, oI x2, oI x3, oI (x4 + (1 : Int32)), oI (x5 + (1 : Int32))]) hm146 ⟨⟨_, _, rfl⟩, rfl⟩ rfl rfl rfl iconst_1 rfl ?_
        refine w_goto (q := 28) hm146 ⟨_, _, rfl⟩ ?_
        exact h
      · have h := h.2 hc
        refine w_iload (q := 89) hm146 ⟨⟨_, _, rfl⟩, rfl⟩ rfl ?_
        refine w_iload_n (q := 90) hm146 ⟨⟨_, _, rfl⟩, rfl⟩ rfl ?_
        refine w_isub (q := 91) hm146 ⟨⟨_, _, rfl⟩, rfl⟩ ?_
        refine w_iconst (q := 92) hm146 ⟨⟨_, _, rfl⟩, rfl⟩ iconst_1 ?_
        refine w_iadd (q := 93) hm146 ⟨⟨_, _, rfl⟩, rfl⟩ ?_
        exact w_reti hm146 ⟨⟨_, _, rfl⟩, rfl⟩ rfl h
theorem v_X11_when_0 {d : Nat} {x1 : Int32} {m : dM} {Q : Int32 → dM → Prop} (h : c_X11_isUse_0 d x1 m (fun r1 m1 => ((r1.toInt = 0 → Q (-1 : Int32) m1) ∧ (r1.toInt ≠ 0 → c_X1_firstStart_61_47 d x1 m1 (fun r2 m2 => Q r2 m2))))) : c_X11_when_0 (d + 1) x1 m Q := by
  refine w_aload_n (q := 1) hm264 ⟨⟨_, _, rfl⟩, rfl⟩ rfl ?_
  refine w_iload_n (q := 2) hm264 ⟨⟨_, _, rfl⟩, rfl⟩ rfl ?_
  refine w_call (q := 5) (n := 0) (vs := [.inr (.inr (some 0)), .inl x1]) (rest := []) (la := [oR 0, oI x1]) hm264 ⟨⟨_, _, rfl⟩, rfl⟩ rfl rfl rfl rfl hm250 rfl rfl (fun _ => ⟨_, _, rfl, rfl⟩) rfl (Wp.mono h ?_)
  rintro _ m1 ⟨r1, rfl, h⟩
  change Wp _ _ 5 _ [.inl r1] _ _
  refine w_if_eq (q := 8) (X := r1.toInt) hm264 ⟨⟨_, _, rfl⟩, rfl⟩ rfl (fun hc => ?_) (fun hc => ?_)
  · have h := h.1 hc
    refine w_iconst (q := 24) hm264 ⟨⟨_, _, rfl⟩, rfl⟩ iconst_m1 ?_
    exact w_reti hm264 ⟨⟨_, _, rfl⟩, rfl⟩ rfl h
  · have h := h.2 hc
    refine w_aload_n (q := 9) hm264 ⟨⟨_, _, rfl⟩, rfl⟩ rfl ?_
    refine w_getr (q := 12) hm264 ⟨⟨_, _, rfl⟩, rfl⟩ rfl ?_
    refine w_aload_n (q := 13) hm264 ⟨⟨_, _, rfl⟩, rfl⟩ rfl ?_
    refine w_getr (q := 16) hm264 ⟨⟨_, _, rfl⟩, rfl⟩ rfl ?_
    refine w_iload_n (q := 17) hm264 ⟨⟨_, _, rfl⟩, rfl⟩ rfl ?_
    refine w_call (q := 20) (n := 3) (vs := [.inr (.inr (some 61)), .inr (.inr (some 47)), .inl x1]) (rest := []) (la := [oR 61, oR 47, oI x1, none, none, none]) hm264 ⟨⟨_, _, rfl⟩, rfl⟩ rfl rfl rfl rfl hm146 rfl rfl (fun _ => ⟨_, _, rfl, rfl⟩) rfl (Wp.mono h ?_)
    rintro _ m2 ⟨r2, rfl, h⟩
    change Wp _ _ 20 _ [.inl r2] _ _
    refine w_goto (q := 24) hm264 ⟨_, _, rfl⟩ ?_
    exact w_reti hm264 ⟨⟨_, _, rfl⟩, rfl⟩ rfl h
theorem v_X12_canBegin_70 {d : Nat} {x1 : Int32} {x2 : Int32} {m : dM} {Q : Int32 → dM → Prop} (h : ((0 ≤ (((8 : Int32) * (m.1 70 18)) + x1).toInt ∧ (((8 : Int32) * (m.1 70 18)) + x1).toInt < 16) ∧ ((0 ≤ (((8 : Int32) * (m.1 70 18)) + x1).toInt ∧ (((8 : Int32) * (m.1 70 18)) + x1).toInt < 16) ∧ j_X12_canBegin_70_33 (d + 1) x1 x2 ((m.1 90 (((8 : Int32) * (m.1 70 18)) + x1).toNatClampNeg) - (m.1 89 (((8 : Int32) * (m.1 70 18)) + x1).toNatClampNeg)) x2 m Q))) : c_X12_canBegin_70 (d + 1) x1 x2 m Q := by
  refine w_aload_n (q := 1) hm89 ⟨⟨_, _, rfl⟩, rfl⟩ rfl ?_
  refine w_getr (q := 4) hm89 ⟨⟨_, _, rfl⟩, rfl⟩ rfl ?_
  refine w_bipush (q := 6) hm89 ⟨⟨_, _, rfl⟩, rfl⟩ bipush_8 ?_
  refine w_aload_n (q := 7) hm89 ⟨⟨_, _, rfl⟩, rfl⟩ rfl ?_
  refine w_getf (q := 10) (v := (m.1 70 18)) hm89 ⟨⟨_, _, rfl⟩, rfl⟩ rfl rfl ?_
  refine w_imul (q := 11) hm89 ⟨⟨_, _, rfl⟩, rfl⟩ ?_
  refine w_iload_n (q := 12) hm89 ⟨⟨_, _, rfl⟩, rfl⟩ rfl ?_
  refine w_iadd (q := 13) hm89 ⟨⟨_, _, rfl⟩, rfl⟩ ?_
  obtain ⟨hi, h⟩ := h
  refine w_iald (q := 14) (v := (m.1 90 (((8 : Int32) * (m.1 70 18)) + x1).toNatClampNeg)) hm89 ⟨⟨_, _, rfl⟩, rfl⟩ rfl hi rfl rfl ?_
  refine w_aload_n (q := 15) hm89 ⟨⟨_, _, rfl⟩, rfl⟩ rfl ?_
  refine w_getr (q := 18) hm89 ⟨⟨_, _, rfl⟩, rfl⟩ rfl ?_
  refine w_bipush (q := 20) hm89 ⟨⟨_, _, rfl⟩, rfl⟩ bipush_8 ?_
  refine w_aload_n (q := 21) hm89 ⟨⟨_, _, rfl⟩, rfl⟩ rfl ?_
  refine w_getf (q := 24) (v := (m.1 70 18)) hm89 ⟨⟨_, _, rfl⟩, rfl⟩ rfl rfl ?_
  refine w_imul (q := 25) hm89 ⟨⟨_, _, rfl⟩, rfl⟩ ?_
  refine w_iload_n (q := 26) hm89 ⟨⟨_, _, rfl⟩, rfl⟩ rfl ?_
  refine w_iadd (q := 27) hm89 ⟨⟨_, _, rfl⟩, rfl⟩ ?_
  obtain ⟨hi, h⟩ := h
  refine w_iald (q := 28) (v := (m.1 89 (((8 : Int32) * (m.1 70 18)) + x1).toNatClampNeg)) hm89 ⟨⟨_, _, rfl⟩, rfl⟩ rfl hi rfl rfl ?_
  refine w_isub (q := 29) hm89 ⟨⟨_, _, rfl⟩, rfl⟩ ?_
  refine w_istore_n (q := 30) (l' := [oR 70, oI x1, oI x2, oI ((m.1 90 (((8 : Int32) * (m.1 70 18)) + x1).toNatClampNeg) - (m.1 89 (((8 : Int32) * (m.1 70 18)) + x1).toNatClampNeg)), none, none]) hm89 ⟨⟨_, _, rfl⟩, rfl⟩ rfl rfl rfl ?_
  refine w_iload_n (q := 31) hm89 ⟨⟨_, _, rfl⟩, rfl⟩ rfl ?_
  refine w_istore (q := 33) (l' := [oR 70, oI x1, oI x2, oI ((m.1 90 (((8 : Int32) * (m.1 70 18)) + x1).toNatClampNeg) - (m.1 89 (((8 : Int32) * (m.1 70 18)) + x1).toNatClampNeg)), oI x2, none]) hm89 ⟨⟨_, _, rfl⟩, rfl⟩ rfl rfl rfl ?_
  exact h
theorem v_X12_canBegin_70_33 {d : Nat} {x1 : Int32} {x2 : Int32} {x3 : Int32} {x4 : Int32} {m : dM} {Q : Int32 → dM → Prop} (h : (((x2 + x3).toInt < x4.toInt → Q (1 : Int32) m) ∧ (x4.toInt ≤ (x2 + x3).toInt → c_X12_onAt_70 d x4 m (fun r1 m1 => c_X12_flatAt_70 d x1 m1 (fun r2 m2 => c_X12_isLit_70 d r2 m2 (fun r3 m3 => ((r3.toInt = 0 → j_X12_canBegin_70_75 (d + 1) x1 x2 x3 x4 (r1 &&& (((1 : Int32) <<< (x1 &&& 31)) ^^^ (-1 : Int32))) m3 Q) ∧ (r3.toInt ≠ 0 → j_X12_canBegin_70_75 (d + 1) x1 x2 x3 x4 ((r1 &&& (((1 : Int32) <<< (x1 &&& 31)) ^^^ (-1 : Int32))) ||| ((1 : Int32) <<< (x1 &&& 31))) m3 Q)))))))) : j_X12_canBegin_70_33 (d + 1) x1 x2 x3 x4 m Q := by
  refine w_iload (q := 35) hm89 ⟨⟨_, _, rfl⟩, rfl⟩ rfl ?_
  refine w_iload_n (q := 36) hm89 ⟨⟨_, _, rfl⟩, rfl⟩ rfl ?_
  refine w_iload_n (q := 37) hm89 ⟨⟨_, _, rfl⟩, rfl⟩ rfl ?_
  refine w_iadd (q := 38) hm89 ⟨⟨_, _, rfl⟩, rfl⟩ ?_
  refine w_icmp_gt (q := 41) (X := x4.toInt) (Y := (x2 + x3).toInt) hm89 ⟨⟨_, _, rfl⟩, rfl⟩ rfl rfl (fun hc => ?_) (fun hc => ?_)
  · have h := h.1 hc
    refine w_iconst (q := 96) hm89 ⟨⟨_, _, rfl⟩, rfl⟩ iconst_1 ?_
    exact w_retz hm89 ⟨⟨_, _, rfl⟩, rfl⟩ rfl (by decide) h
  · have h := h.2 hc
    refine w_aload_n (q := 42) hm89 ⟨⟨_, _, rfl⟩, rfl⟩ rfl ?_
    refine w_iload (q := 44) hm89 ⟨⟨_, _, rfl⟩, rfl⟩ rfl ?_
    refine w_call (q := 47) (n := 2) (vs := [.inr (.inr (some 70)), .inl x4]) (rest := []) (la := [oR 70, oI x4, none, none]) hm89 ⟨⟨_, _, rfl⟩, rfl⟩ rfl rfl rfl rfl hm55 rfl rfl (fun _ => ⟨_, _, rfl, rfl⟩) rfl (Wp.mono h ?_)
    rintro _ m1 ⟨r1, rfl, h⟩
    change Wp _ _ 47 _ [.inl r1] _ _
    refine w_iconst (q := 48) hm89 ⟨⟨_, _, rfl⟩, rfl⟩ iconst_1 ?_
    refine w_iload_n (q := 49) hm89 ⟨⟨_, _, rfl⟩, rfl⟩ rfl ?_
    refine w_ishl (q := 50) hm89 ⟨⟨_, _, rfl⟩, rfl⟩ ?_
    refine w_iconst (q := 51) hm89 ⟨⟨_, _, rfl⟩, rfl⟩ iconst_m1 ?_
    refine w_ixor (q := 52) hm89 ⟨⟨_, _, rfl⟩, rfl⟩ ?_
    refine w_iand (q := 53) hm89 ⟨⟨_, _, rfl⟩, rfl⟩ ?_
    refine w_istore (q := 55) (l' := [oR 70, oI x1, oI x2, oI x3, oI x4, oI (r1 &&& (((1 : Int32) <<< (x1 &&& 31)) ^^^ (-1 : Int32)))]) hm89 ⟨⟨_, _, rfl⟩, rfl⟩ rfl rfl rfl ?_
    refine w_aload_n (q := 56) hm89 ⟨⟨_, _, rfl⟩, rfl⟩ rfl ?_
    refine w_aload_n (q := 57) hm89 ⟨⟨_, _, rfl⟩, rfl⟩ rfl ?_
    refine w_iload_n (q := 58) hm89 ⟨⟨_, _, rfl⟩, rfl⟩ rfl ?_
    refine w_call (q := 61) (n := 0) (vs := [.inr (.inr (some 70)), .inl x1]) (rest := [.inr (.inr (some 70))]) (la := [oR 70, oI x1]) hm89 ⟨⟨_, _, rfl⟩, rfl⟩ rfl rfl rfl rfl hm53 rfl rfl (fun _ => ⟨_, _, rfl, rfl⟩) rfl (Wp.mono h ?_)
    rintro _ m2 ⟨r2, rfl, h⟩
    change Wp _ _ 61 _ [.inl r2, .inr (.inr (some 70))] _ _
    refine w_call (q := 64) (n := 0) (vs := [.inr (.inr (some 70)), .inl r2]) (rest := []) (la := [oR 70, oI r2]) hm89 ⟨⟨_, _, rfl⟩, rfl⟩ rfl rfl rfl rfl hm51 rfl rfl (fun _ => ⟨_, _, rfl, rfl⟩) rfl (Wp.mono h ?_)
    rintro _ m3 ⟨r3, rfl, h⟩
    change Wp _ _ 64 _ [.inl r3] _ _
    refine w_if_eq (q := 67) (X := r3.toInt) hm89 ⟨⟨_, _, rfl⟩, rfl⟩ rfl (fun hc => ?_) (fun hc => ?_)
    · have h := h.1 hc
      exact h
    · have h := h.2 hc
      refine w_iload (q := 69) hm89 ⟨⟨_, _, rfl⟩, rfl⟩ rfl ?_
      refine w_iconst (q := 70) hm89 ⟨⟨_, _, rfl⟩, rfl⟩ iconst_1 ?_
      refine w_iload_n (q := 71) hm89 ⟨⟨_, _, rfl⟩, rfl⟩ rfl ?_
      refine w_ishl (q := 72) hm89 ⟨⟨_, _, rfl⟩, rfl⟩ ?_
      refine w_ior (q := 73) hm89 ⟨⟨_, _, rfl⟩, rfl⟩ ?_
      refine w_istore (q := 75) (l' := [oR 70, oI x1, oI x2, oI x3, oI x4, oI ((r1 &&& (((1 : Int32) <<< (x1 &&& 31)) ^^^ (-1 : Int32))) ||| ((1 : Int32) <<< (x1 &&& 31)))]) hm89 ⟨⟨_, _, rfl⟩, rfl⟩ rfl rfl rfl ?_
      exact h
theorem v_X12_canBegin_70_75 {d : Nat} {x1 : Int32} {x2 : Int32} {x3 : Int32} {x4 : Int32} {x5 : Int32} {m : dM} {Q : Int32 → dM → Prop} (h : c_X12_goingBits_70 d x5 x4 (0 : Int32) m (fun r1 m1 => ((r1.toInt = 0 → j_X12_canBegin_70_33 (d + 1) x1 x2 x3 (x4 + (1 : Int32)) m1 Q) ∧ (r1.toInt ≠ 0 → Q (0 : Int32) m1)))) : j_X12_canBegin_70_75 (d + 1) x1 x2 x3 x4 x5 m Q := by
  refine w_aload_n (q := 76) hm89 ⟨⟨_, _, rfl⟩, rfl⟩ rfl ?_
  refine w_iload (q := 78) hm89 ⟨⟨_, _, rfl⟩, rfl⟩ rfl ?_
  refine w_iload (q := 80) hm89 ⟨⟨_, _, rfl⟩, rfl⟩ rfl ?_
  refine w_iconst (q := 81) hm89 ⟨⟨_, _, rfl⟩, rfl⟩ iconst_0 ?_
  refine w_call (q := 84) (n := 2) (vs := [.inr (.inr (some 70)), .inl x5, .inl x4, .inl (0 : Int32)]) (rest := []) (la := [oR 70, oI x5, oI x4, oI (0 : Int32), none, none]) hm89 ⟨⟨_, _, rfl⟩, rfl⟩ rfl rfl rfl rfl hm61 rfl rfl (fun _ => ⟨_, _, rfl, rfl⟩) rfl (Wp.mono h ?_)
  rintro _ m1 ⟨r1, rfl, h⟩
  change Wp _ _ 84 _ [.inl r1] _ _
  refine w_if_eq (q := 87) (X := r1.toInt) hm89 ⟨⟨_, _, rfl⟩, rfl⟩ rfl (fun hc => ?_) (fun hc => ?_)
  · have h := h.1 hc
    refine w_iinc (q := 92) (l' := [oR 70, oI x1, oI x2, oI x3, oI (x4 + (1 : Int32)), oI x5]) hm89 ⟨⟨_, _, rfl⟩, rfl⟩ rfl rfl rfl iconst_1 rfl ?_
    refine w_goto (q := 33) hm89 ⟨_, _, rfl⟩ ?_
    exact Wp.wk [true, true, true, true, true, false] h
  · have h := h.2 hc
    refine w_iconst (q := 88) hm89 ⟨⟨_, _, rfl⟩, rfl⟩ iconst_0 ?_
    exact w_retz hm89 ⟨⟨_, _, rfl⟩, rfl⟩ rfl (by decide) h
theorem v_X12_when_70 {d : Nat} {x1 : Int32} {m : dM} {Q : Int32 → dM → Prop} (h : c_X12_isUse_70 d x1 m (fun r1 m1 => ((r1.toInt ≠ 0 → c_X12_copies_70 d m1 (fun m2 => ((0 ≤ (((8 : Int32) * (m2.1 70 18)) + x1).toInt ∧ (((8 : Int32) * (m2.1 70 18)) + x1).toInt < 16) ∧ ((0 ≤ (((8 : Int32) * (m2.1 70 18)) + x1).toInt ∧ (((8 : Int32) * (m2.1 70 18)) + x1).toInt < 16) ∧ j_X12_when_70_46 (d + 1) x1 ((m2.1 90 (((8 : Int32) * (m2.1 70 18)) + x1).toNatClampNeg) - (m2.1 89 (((8 : Int32) * (m2.1 70 18)) + x1).toNatClampNeg)) (0 : Int32) m2 Q)))) ∧ (r1.toInt = 0 → Q (-1 : Int32) m1)))) : c_X12_when_70 (d + 1) x1 m Q := by
  refine w_aload_n (q := 1) hm90 ⟨⟨_, _, rfl⟩, rfl⟩ rfl ?_
  refine w_iload_n (q := 2) hm90 ⟨⟨_, _, rfl⟩, rfl⟩ rfl ?_
  refine w_call (q := 5) (n := 0) (vs := [.inr (.inr (some 70)), .inl x1]) (rest := []) (la := [oR 70, oI x1]) hm90 ⟨⟨_, _, rfl⟩, rfl⟩ rfl rfl rfl rfl hm41 rfl rfl (fun _ => ⟨_, _, rfl, rfl⟩) rfl (Wp.mono h ?_)
  rintro _ m1 ⟨r1, rfl, h⟩
  change Wp _ _ 5 _ [.inl r1] _ _
  refine w_if_ne (q := 8) (X := r1.toInt) hm90 ⟨⟨_, _, rfl⟩, rfl⟩ rfl (fun hc => ?_) (fun hc => ?_)
  · have h := h.1 hc
    refine w_aload_n (q := 11) hm90 ⟨⟨_, _, rfl⟩, rfl⟩ rfl ?_
    refine w_call (q := 14) (n := 1) (vs := [.inr (.inr (some 70))]) (rest := []) (la := [oR 70, none]) hm90 ⟨⟨_, _, rfl⟩, rfl⟩ rfl rfl rfl rfl hm44 rfl rfl (fun _ => ⟨_, _, rfl, rfl⟩) rfl (Wp.mono h ?_)
    rintro _ m2 ⟨rfl, h⟩
    change Wp _ _ 14 _ [] _ _
    refine w_aload_n (q := 15) hm90 ⟨⟨_, _, rfl⟩, rfl⟩ rfl ?_
    refine w_getr (q := 18) hm90 ⟨⟨_, _, rfl⟩, rfl⟩ rfl ?_
    refine w_bipush (q := 20) hm90 ⟨⟨_, _, rfl⟩, rfl⟩ bipush_8 ?_
    refine w_aload_n (q := 21) hm90 ⟨⟨_, _, rfl⟩, rfl⟩ rfl ?_
    refine w_getf (q := 24) (v := (m2.1 70 18)) hm90 ⟨⟨_, _, rfl⟩, rfl⟩ rfl rfl ?_
    refine w_imul (q := 25) hm90 ⟨⟨_, _, rfl⟩, rfl⟩ ?_
    refine w_iload_n (q := 26) hm90 ⟨⟨_, _, rfl⟩, rfl⟩ rfl ?_
    refine w_iadd (q := 27) hm90 ⟨⟨_, _, rfl⟩, rfl⟩ ?_
    obtain ⟨hi, h⟩ := h
    refine w_iald (q := 28) (v := (m2.1 90 (((8 : Int32) * (m2.1 70 18)) + x1).toNatClampNeg)) hm90 ⟨⟨_, _, rfl⟩, rfl⟩ rfl hi rfl rfl ?_
    refine w_aload_n (q := 29) hm90 ⟨⟨_, _, rfl⟩, rfl⟩ rfl ?_
    refine w_getr (q := 32) hm90 ⟨⟨_, _, rfl⟩, rfl⟩ rfl ?_
    refine w_bipush (q := 34) hm90 ⟨⟨_, _, rfl⟩, rfl⟩ bipush_8 ?_
    refine w_aload_n (q := 35) hm90 ⟨⟨_, _, rfl⟩, rfl⟩ rfl ?_
    refine w_getf (q := 38) (v := (m2.1 70 18)) hm90 ⟨⟨_, _, rfl⟩, rfl⟩ rfl rfl ?_
    refine w_imul (q := 39) hm90 ⟨⟨_, _, rfl⟩, rfl⟩ ?_
    refine w_iload_n (q := 40) hm90 ⟨⟨_, _, rfl⟩, rfl⟩ rfl ?_
    refine w_iadd (q := 41) hm90 ⟨⟨_, _, rfl⟩, rfl⟩ ?_
    obtain ⟨hi, h⟩ := h
    refine w_iald (q := 42) (v := (m2.1 89 (((8 : Int32) * (m2.1 70 18)) + x1).toNatClampNeg)) hm90 ⟨⟨_, _, rfl⟩, rfl⟩ rfl hi rfl rfl ?_
    refine w_isub (q := 43) hm90 ⟨⟨_, _, rfl⟩, rfl⟩ ?_
    refine w_istore_n (q := 44) (l' := [oR 70, oI x1, oI ((m2.1 90 (((8 : Int32) * (m2.1 70 18)) + x1).toNatClampNeg) - (m2.1 89 (((8 : Int32) * (m2.1 70 18)) + x1).toNatClampNeg)), none]) hm90 ⟨⟨_, _, rfl⟩, rfl⟩ rfl rfl rfl ?_
    refine w_iconst (q := 45) hm90 ⟨⟨_, _, rfl⟩, rfl⟩ iconst_0 ?_
    refine w_istore_n (q := 46) (l' := [oR 70, oI x1, oI ((m2.1 90 (((8 : Int32) * (m2.1 70 18)) + x1).toNatClampNeg) - (m2.1 89 (((8 : Int32) * (m2.1 70 18)) + x1).toNatClampNeg)), oI (0 : Int32)]) hm90 ⟨⟨_, _, rfl⟩, rfl⟩ rfl rfl rfl ?_
    exact h
  · have h := h.2 hc
    refine w_iconst (q := 9) hm90 ⟨⟨_, _, rfl⟩, rfl⟩ iconst_m1 ?_
    exact w_reti hm90 ⟨⟨_, _, rfl⟩, rfl⟩ rfl h
theorem v_X12_when_70_46 {d : Nat} {x1 : Int32} {x2 : Int32} {x3 : Int32} {m : dM} {Q : Int32 → dM → Prop} (h : ((23 < (x3 + x2).toInt → Q (-2 : Int32) m) ∧ ((x3 + x2).toInt ≤ 23 → c_X12_canBegin_70 d x1 x3 m (fun r1 m1 => ((r1.toInt = 0 → j_X12_when_70_46 (d + 1) x1 x2 (x3 + (1 : Int32)) m1 Q) ∧ (r1.toInt ≠ 0 → Q x3 m1)))))) : j_X12_when_70_46 (d + 1) x1 x2 x3 m Q := by
  refine w_iload_n (q := 47) hm90 ⟨⟨_, _, rfl⟩, rfl⟩ rfl ?_
  refine w_iload_n (q := 48) hm90 ⟨⟨_, _, rfl⟩, rfl⟩ rfl ?_
  refine w_iadd (q := 49) hm90 ⟨⟨_, _, rfl⟩, rfl⟩ ?_
  refine w_bipush (q := 51) hm90 ⟨⟨_, _, rfl⟩, rfl⟩ bipush_23 ?_
  refine w_icmp_gt (q := 54) (X := (x3 + x2).toInt) (Y := 23) hm90 ⟨⟨_, _, rfl⟩, rfl⟩ rfl (by decide) (fun hc => ?_) (fun hc => ?_)
  · have h := h.1 hc
    refine w_bipush (q := 73) hm90 ⟨⟨_, _, rfl⟩, rfl⟩ bipush_m2 ?_
    exact w_reti hm90 ⟨⟨_, _, rfl⟩, rfl⟩ rfl h
  · have h := h.2 hc
    refine w_aload_n (q := 55) hm90 ⟨⟨_, _, rfl⟩, rfl⟩ rfl ?_
    refine w_iload_n (q := 56) hm90 ⟨⟨_, _, rfl⟩, rfl⟩ rfl ?_
    refine w_iload_n (q := 57) hm90 ⟨⟨_, _, rfl⟩, rfl⟩ rfl ?_
    refine w_call (q := 60) (n := 3) (vs := [.inr (.inr (some 70)), .inl x1, .inl x3]) (rest := []) (la := [oR 70, oI x1, oI x3, none, none, none]) hm90 ⟨⟨_, _, rfl⟩, rfl⟩ rfl rfl rfl rfl hm89 rfl rfl (fun _ => ⟨_, _, rfl, rfl⟩) rfl (Wp.mono h ?_)
    rintro _ m1 ⟨r1, rfl, h⟩
    change Wp _ _ 60 _ [.inl r1] _ _
    refine w_if_eq (q := 63) (X := r1.toInt) hm90 ⟨⟨_, _, rfl⟩, rfl⟩ rfl (fun hc => ?_) (fun hc => ?_)
    · have h := h.1 hc
      refine w_iinc (q := 68) (l' := [oR 70, oI x1, oI x2, oI (x3 + (1 : Int32))]) hm90 ⟨⟨_, _, rfl⟩, rfl⟩ rfl rfl rfl iconst_1 rfl ?_
      refine w_goto (q := 46) hm90 ⟨_, _, rfl⟩ ?_
      exact h
    · have h := h.2 hc
      refine w_iload_n (q := 64) hm90 ⟨⟨_, _, rfl⟩, rfl⟩ rfl ?_
      exact w_reti hm90 ⟨⟨_, _, rfl⟩, rfl⟩ rfl h
theorem v_X1_bestThicker_61_47 {d : Nat} {x2 : Int32} {m : dM} {Q : Int32 → dM → Prop} (h : c_X7_copy_62_47 d m (fun m1 => c_X1_trialTillGone_61 d m1 (fun r2 m2 => j_X1_bestThicker_61_47_20 (d + 1) x2 r2 (-2 : Int32) (0 : Int32) m2 Q))) : c_X1_bestThicker_61_47 (d + 1) x2 m Q := by
  refine w_aload_n (q := 1) hm143 ⟨⟨_, _, rfl⟩, rfl⟩ rfl ?_
  refine w_getr (q := 4) hm143 ⟨⟨_, _, rfl⟩, rfl⟩ rfl ?_
  refine w_aload_n (q := 5) hm143 ⟨⟨_, _, rfl⟩, rfl⟩ rfl ?_
  refine w_call (q := 8) (n := 0) (vs := [.inr (.inr (some 62)), .inr (.inr (some 47))]) (rest := []) (la := [oR 62, oR 47]) hm143 ⟨⟨_, _, rfl⟩, rfl⟩ rfl rfl rfl rfl hm209 rfl rfl (fun _ => ⟨_, _, rfl, rfl⟩) rfl (Wp.mono h ?_)
  rintro _ m1 ⟨rfl, h⟩
  change Wp _ _ 8 _ [] _ _
  refine w_aload_n (q := 9) hm143 ⟨⟨_, _, rfl⟩, rfl⟩ rfl ?_
  refine w_call (q := 12) (n := 1) (vs := [.inr (.inr (some 61))]) (rest := []) (la := [oR 61, none]) hm143 ⟨⟨_, _, rfl⟩, rfl⟩ rfl rfl rfl rfl hm142 rfl rfl (fun _ => ⟨_, _, rfl, rfl⟩) rfl (Wp.mono h ?_)
  rintro _ m2 ⟨r2, rfl, h⟩
  change Wp _ _ 12 _ [.inl r2] _ _
  refine w_istore_n (q := 13) (l' := [oR 61, oR 47, oI x2, oI r2, none, none, none]) hm143 ⟨⟨_, _, rfl⟩, rfl⟩ rfl rfl rfl ?_
  refine w_bipush (q := 15) hm143 ⟨⟨_, _, rfl⟩, rfl⟩ bipush_m2 ?_
  refine w_istore (q := 17) (l' := [oR 61, oR 47, oI x2, oI r2, oI (-2 : Int32), none, none]) hm143 ⟨⟨_, _, rfl⟩, rfl⟩ rfl rfl rfl ?_
  refine w_iconst (q := 18) hm143 ⟨⟨_, _, rfl⟩, rfl⟩ iconst_0 ?_
  refine w_istore (q := 20) (l' := [oR 61, oR 47, oI x2, oI r2, oI (-2 : Int32), oI (0 : Int32), none]) hm143 ⟨⟨_, _, rfl⟩, rfl⟩ rfl rfl rfl ?_
  exact h
theorem v_X1_bestThicker_61_47_20 {d : Nat} {x2 : Int32} {x3 : Int32} {x4 : Int32} {x5 : Int32} {m : dM} {Q : Int32 → dM → Prop} (h : (((m.1 2 1).toInt ≤ x5.toInt → j_X1_bestThicker_61_47_111 (d + 1) x4 m Q) ∧ (x5.toInt < (m.1 2 1).toInt → ((200 < x3.toInt → j_X1_bestThicker_61_47_111 (d + 1) x4 m Q) ∧ (x3.toInt ≤ 200 → c_X11_has d (m.1 47 3) x5 m (fun r1 m1 => ((r1.toInt ≠ 0 → j_X1_bestThicker_61_47_105 (d + 1) x2 x3 x4 x5 m1 Q) ∧ (r1.toInt = 0 → c_X7_copy_62_47 d m1 (fun m2 => ((0 ≤ x5.toInt ∧ x5.toInt < 10) ∧ ((0 ≤ x5.toInt ∧ x5.toInt < 10) ∧ c_X1_trialTillGone_61 d (dSet m2 63 x5.toNatClampNeg (if ((m2.1 63 x5.toNatClampNeg) + x2) < (99 : Int32) then ((m2.1 63 x5.toNatClampNeg) + x2) else (99 : Int32))) (fun r3 m3 => ((r3.toInt ≤ x3.toInt → j_X1_bestThicker_61_47_105 (d + 1) x2 x3 x4 x5 m3 Q) ∧ (x3.toInt < r3.toInt → j_X1_bestThicker_61_47_105 (d + 1) x2 r3 x5 x5 m3 Q)))))))))))))) : j_X1_bestThicker_61_47_20 (d + 1) x2 x3 x4 x5 m Q := by
  refine w_iload (q := 22) hm143 ⟨⟨_, _, rfl⟩, rfl⟩ rfl ?_
  refine w_aload_n (q := 23) hm143 ⟨⟨_, _, rfl⟩, rfl⟩ rfl ?_
  refine w_getr (q := 26) hm143 ⟨⟨_, _, rfl⟩, rfl⟩ rfl ?_
  refine w_getf (q := 29) (v := (m.1 2 1)) hm143 ⟨⟨_, _, rfl⟩, rfl⟩ rfl rfl ?_
  refine w_icmp_ge (q := 32) (X := x5.toInt) (Y := (m.1 2 1).toInt) hm143 ⟨⟨_, _, rfl⟩, rfl⟩ rfl rfl (fun hc => ?_) (fun hc => ?_)
  · have h := h.1 hc
    exact Wp.wk [false, false, false, false, true, false, false] h
  · have h := h.2 hc
    refine w_iload_n (q := 33) hm143 ⟨⟨_, _, rfl⟩, rfl⟩ rfl ?_
    refine w_sipush (q := 36) hm143 ⟨⟨_, _, rfl⟩, rfl⟩ sipush_200 ?_
    refine w_icmp_gt (q := 39) (X := x3.toInt) (Y := 200) hm143 ⟨⟨_, _, rfl⟩, rfl⟩ rfl (by decide) (fun hc => ?_) (fun hc => ?_)
    · have h := h.1 hc
      exact Wp.wk [false, false, false, false, true, false, false] h
    · have h := h.2 hc
      refine w_aload_n (q := 40) hm143 ⟨⟨_, _, rfl⟩, rfl⟩ rfl ?_
      refine w_getf (q := 43) (v := (m.1 47 3)) hm143 ⟨⟨_, _, rfl⟩, rfl⟩ rfl rfl ?_
      refine w_iload (q := 45) hm143 ⟨⟨_, _, rfl⟩, rfl⟩ rfl ?_
      refine w_call (q := 48) (n := 0) (vs := [.inl (m.1 47 3), .inl x5]) (rest := []) (la := [oI (m.1 47 3), oI x5]) hm143 ⟨⟨_, _, rfl⟩, rfl⟩ rfl rfl rfl rfl hm283 rfl rfl (fun hz => absurd hz (by decide)) rfl (Wp.mono h ?_)
      rintro _ m1 ⟨r1, rfl, h⟩
      change Wp _ _ 48 _ [.inl r1] _ _
      refine w_if_ne (q := 51) (X := r1.toInt) hm143 ⟨⟨_, _, rfl⟩, rfl⟩ rfl (fun hc => ?_) (fun hc => ?_)
      · have h := h.1 hc
        exact h
      · have h := h.2 hc
        refine w_aload_n (q := 52) hm143 ⟨⟨_, _, rfl⟩, rfl⟩ rfl ?_
        refine w_getr (q := 55) hm143 ⟨⟨_, _, rfl⟩, rfl⟩ rfl ?_
        refine w_aload_n (q := 56) hm143 ⟨⟨_, _, rfl⟩, rfl⟩ rfl ?_
        refine w_call (q := 59) (n := 0) (vs := [.inr (.inr (some 62)), .inr (.inr (some 47))]) (rest := []) (la := [oR 62, oR 47]) hm143 ⟨⟨_, _, rfl⟩, rfl⟩ rfl rfl rfl rfl hm209 rfl rfl (fun _ => ⟨_, _, rfl, rfl⟩) rfl (Wp.mono h ?_)
        rintro _ m2 ⟨rfl, h⟩
        change Wp _ _ 59 _ [] _ _
        refine w_aload_n (q := 60) hm143 ⟨⟨_, _, rfl⟩, rfl⟩ rfl ?_
        refine w_getr (q := 63) hm143 ⟨⟨_, _, rfl⟩, rfl⟩ rfl ?_
        refine w_getr (q := 66) hm143 ⟨⟨_, _, rfl⟩, rfl⟩ rfl ?_
        refine w_iload (q := 68) hm143 ⟨⟨_, _, rfl⟩, rfl⟩ rfl ?_
        refine w_bipush (q := 70) hm143 ⟨⟨_, _, rfl⟩, rfl⟩ bipush_99 ?_
        refine w_aload_n (q := 71) hm143 ⟨⟨_, _, rfl⟩, rfl⟩ rfl ?_
        refine w_getr (q := 74) hm143 ⟨⟨_, _, rfl⟩, rfl⟩ rfl ?_
        refine w_getr (q := 77) hm143 ⟨⟨_, _, rfl⟩, rfl⟩ rfl ?_
        refine w_iload (q := 79) hm143 ⟨⟨_, _, rfl⟩, rfl⟩ rfl ?_
        obtain ⟨hi, h⟩ := h
        refine w_iald (q := 80) (v := (m2.1 63 x5.toNatClampNeg)) hm143 ⟨⟨_, _, rfl⟩, rfl⟩ rfl hi rfl rfl ?_
        refine w_iload_n (q := 81) hm143 ⟨⟨_, _, rfl⟩, rfl⟩ rfl ?_
        refine w_iadd (q := 82) hm143 ⟨⟨_, _, rfl⟩, rfl⟩ ?_
        refine w_min (q := 85) hm143 ⟨⟨_, _, rfl⟩, rfl⟩ rfl rfl ?_
        obtain ⟨hi, h⟩ := h
        refine w_iast (q := 86) hm143 ⟨⟨_, _, rfl⟩, rfl⟩ rfl hi rfl rfl ?_
        refine w_aload_n (q := 87) hm143 ⟨⟨_, _, rfl⟩, rfl⟩ rfl ?_
        refine w_call (q := 90) (n := 1) (vs := [.inr (.inr (some 61))]) (rest := []) (la := [oR 61, none]) hm143 ⟨⟨_, _, rfl⟩, rfl⟩ rfl rfl rfl rfl hm142 rfl rfl (fun _ => ⟨_, _, rfl, rfl⟩) rfl (Wp.mono h ?_)
        rintro _ m3 ⟨r3, rfl, h⟩
        change Wp _ _ 90 _ [.inl r3] _ _
        refine w_istore (q := 92) (l' := [oR 61, oR 47, oI x2, oI x3, oI x4, oI x5, oI r3]) hm143 ⟨⟨_, _, rfl⟩, rfl⟩ rfl rfl rfl ?_
        refine w_iload (q := 94) hm143 ⟨⟨_, _, rfl⟩, rfl⟩ rfl ?_
        refine w_iload_n (q := 95) hm143 ⟨⟨_, _, rfl⟩, rfl⟩ rfl ?_
        refine w_icmp_le (q := 98) (X := r3.toInt) (Y := x3.toInt) hm143 ⟨⟨_, _, rfl⟩, rfl⟩ rfl rfl (fun hc => ?_) (fun hc => ?_)
        · have h := h.1 hc
          exact Wp.wk [true, true, true, true, true, true, false] h
        · have h := h.2 hc
          refine w_iload (q := 100) hm143 ⟨⟨_, _, rfl⟩, rfl⟩ rfl ?_
          refine w_istore_n (q := 101) (l' := [oR 61, oR 47, oI x2, oI r3, oI x4, oI x5, oI r3]) hm143 ⟨⟨_, _, rfl⟩, rfl⟩ rfl rfl rfl ?_
          refine w_iload (q := 103) hm143 ⟨⟨_, _, rfl⟩, rfl⟩ rfl ?_
          refine w_istore (q := 105) (l' := [oR 61, oR 47, oI x2, oI r3, oI x5, oI x5, oI r3]) hm143 ⟨⟨_, _, rfl⟩, rfl⟩ rfl rfl rfl ?_
          exact Wp.wk [true, true, true, true, true, true, false] h
theorem v_X1_bestThicker_61_47_105 {d : Nat} {x2 : Int32} {x3 : Int32} {x4 : Int32} {x5 : Int32} {m : dM} {Q : Int32 → dM → Prop} (h : j_X1_bestThicker_61_47_20 (d + 1) x2 x3 x4 (x5 + (1 : Int32)) m Q) : j_X1_bestThicker_61_47_105 (d + 1) x2 x3 x4 x5 m Q := by
  refine w_iinc (q := 108) (l' := [oR 61, oR 47, oI x2, oI x3, oI x4, oI (x5 + (1 : Int32)), none]) hm143 ⟨⟨_, _, rfl⟩, rfl⟩ rfl rfl rfl iconst_1 rfl ?_
  refine w_goto (q := 20) hm143 ⟨_, _, rfl⟩ ?_
  exact h
theorem v_X1_bestThicker_61_47_111 {d : Nat} {x4 : Int32} {m : dM} {Q : Int32 → dM → Prop} (h : Q x4 m) : j_X1_bestThicker_61_47_111 (d + 1) x4 m Q := by
  refine w_iload (q := 113) hm143 ⟨⟨_, _, rfl⟩, rfl⟩ rfl ?_
  exact w_reti hm143 ⟨⟨_, _, rfl⟩, rfl⟩ rfl h
theorem v_X11_thick_0 {d : Nat} {x1 : Int32} {m : dM} {Q : Int32 → dM → Prop} (h : ((x1.toInt < 1 → j_X11_thick_0_11 (d + 1) m Q) ∧ (1 ≤ x1.toInt → ((x1.toInt ≤ 20 → c_X1_bestThicker_61_47 d x1 m (fun r1 m1 => Q r1 m1)) ∧ (20 < x1.toInt → j_X11_thick_0_11 (d + 1) m Q))))) : c_X11_thick_0 (d + 1) x1 m Q := by
  refine w_iload_n (q := 1) hm265 ⟨⟨_, _, rfl⟩, rfl⟩ rfl ?_
  refine w_iconst (q := 2) hm265 ⟨⟨_, _, rfl⟩, rfl⟩ iconst_1 ?_
  refine w_icmp_lt (q := 5) (X := x1.toInt) (Y := 1) hm265 ⟨⟨_, _, rfl⟩, rfl⟩ rfl (by decide) (fun hc => ?_) (fun hc => ?_)
  · have h := h.1 hc
    exact Wp.wk [false, false] h
  · have h := h.2 hc
    refine w_iload_n (q := 6) hm265 ⟨⟨_, _, rfl⟩, rfl⟩ rfl ?_
    refine w_bipush (q := 8) hm265 ⟨⟨_, _, rfl⟩, rfl⟩ bipush_20 ?_
    refine w_icmp_le (q := 11) (X := x1.toInt) (Y := 20) hm265 ⟨⟨_, _, rfl⟩, rfl⟩ rfl (by decide) (fun hc => ?_) (fun hc => ?_)
    · have h := h.1 hc
      refine w_aload_n (q := 16) hm265 ⟨⟨_, _, rfl⟩, rfl⟩ rfl ?_
      refine w_getr (q := 19) hm265 ⟨⟨_, _, rfl⟩, rfl⟩ rfl ?_
      refine w_aload_n (q := 20) hm265 ⟨⟨_, _, rfl⟩, rfl⟩ rfl ?_
      refine w_getr (q := 23) hm265 ⟨⟨_, _, rfl⟩, rfl⟩ rfl ?_
      refine w_iload_n (q := 24) hm265 ⟨⟨_, _, rfl⟩, rfl⟩ rfl ?_
      refine w_call (q := 27) (n := 4) (vs := [.inr (.inr (some 61)), .inr (.inr (some 47)), .inl x1]) (rest := []) (la := [oR 61, oR 47, oI x1, none, none, none, none]) hm265 ⟨⟨_, _, rfl⟩, rfl⟩ rfl rfl rfl rfl hm143 rfl rfl (fun _ => ⟨_, _, rfl, rfl⟩) rfl (Wp.mono h ?_)
      rintro _ m1 ⟨r1, rfl, h⟩
      change Wp _ _ 27 _ [.inl r1] _ _
      exact w_reti hm265 ⟨⟨_, _, rfl⟩, rfl⟩ rfl h
    · have h := h.2 hc
      exact Wp.wk [false, false] h
theorem v_X11_thick_0_11 {d : Nat} {m : dM} {Q : Int32 → dM → Prop} (h : Q (-1 : Int32) m) : j_X11_thick_0_11 (d + 1) m Q := by
  refine w_iconst (q := 12) hm265 ⟨⟨_, _, rfl⟩, rfl⟩ iconst_m1 ?_
  refine w_goto (q := 27) hm265 ⟨_, _, rfl⟩ ?_
  exact w_reti hm265 ⟨⟨_, _, rfl⟩, rfl⟩ rfl h
theorem v_X12_thick_70 {d : Nat} {x1 : Int32} {m : dM} {Q : Int32 → dM → Prop} (h : c_X12_in d x1 (1 : Int32) (20 : Int32) m (fun r1 m1 => ((r1.toInt ≠ 0 → c_X12_copiesStill_70 d m1 (fun m2 => c_X12_firstGoing_70 d m2 (fun r3 m3 => j_X12_thick_70_27 (d + 1) x1 r3 (-2 : Int32) (0 : Int32) m3 Q))) ∧ (r1.toInt = 0 → Q (-1 : Int32) m1)))) : c_X12_thick_70 (d + 1) x1 m Q := by
  refine w_iload_n (q := 1) hm91 ⟨⟨_, _, rfl⟩, rfl⟩ rfl ?_
  refine w_iconst (q := 2) hm91 ⟨⟨_, _, rfl⟩, rfl⟩ iconst_1 ?_
  refine w_bipush (q := 4) hm91 ⟨⟨_, _, rfl⟩, rfl⟩ bipush_20 ?_
  refine w_call (q := 7) (n := 0) (vs := [.inl x1, .inl (1 : Int32), .inl (20 : Int32)]) (rest := []) (la := [oI x1, oI (1 : Int32), oI (20 : Int32)]) hm91 ⟨⟨_, _, rfl⟩, rfl⟩ rfl rfl rfl rfl hm36 rfl rfl (fun hz => absurd hz (by decide)) rfl (Wp.mono h ?_)
  rintro _ m1 ⟨r1, rfl, h⟩
  change Wp _ _ 7 _ [.inl r1] _ _
  refine w_if_ne (q := 10) (X := r1.toInt) hm91 ⟨⟨_, _, rfl⟩, rfl⟩ rfl (fun hc => ?_) (fun hc => ?_)
  · have h := h.1 hc
    refine w_aload_n (q := 13) hm91 ⟨⟨_, _, rfl⟩, rfl⟩ rfl ?_
    refine w_call (q := 16) (n := 0) (vs := [.inr (.inr (some 70))]) (rest := []) (la := [oR 70]) hm91 ⟨⟨_, _, rfl⟩, rfl⟩ rfl rfl rfl rfl hm82 rfl rfl (fun _ => ⟨_, _, rfl, rfl⟩) rfl (Wp.mono h ?_)
    rintro _ m2 ⟨rfl, h⟩
    change Wp _ _ 16 _ [] _ _
    refine w_aload_n (q := 17) hm91 ⟨⟨_, _, rfl⟩, rfl⟩ rfl ?_
    refine w_call (q := 20) (n := 1) (vs := [.inr (.inr (some 70))]) (rest := []) (la := [oR 70, none]) hm91 ⟨⟨_, _, rfl⟩, rfl⟩ rfl rfl rfl rfl hm84 rfl rfl (fun _ => ⟨_, _, rfl, rfl⟩) rfl (Wp.mono h ?_)
    rintro _ m3 ⟨r3, rfl, h⟩
    change Wp _ _ 20 _ [.inl r3] _ _
    refine w_istore_n (q := 21) (l' := [oR 70, oI x1, oI r3, none, none, none]) hm91 ⟨⟨_, _, rfl⟩, rfl⟩ rfl rfl rfl ?_
    refine w_bipush (q := 23) hm91 ⟨⟨_, _, rfl⟩, rfl⟩ bipush_m2 ?_
    refine w_istore_n (q := 24) (l' := [oR 70, oI x1, oI r3, oI (-2 : Int32), none, none]) hm91 ⟨⟨_, _, rfl⟩, rfl⟩ rfl rfl rfl ?_
    refine w_iconst (q := 25) hm91 ⟨⟨_, _, rfl⟩, rfl⟩ iconst_0 ?_
    refine w_istore (q := 27) (l' := [oR 70, oI x1, oI r3, oI (-2 : Int32), oI (0 : Int32), none]) hm91 ⟨⟨_, _, rfl⟩, rfl⟩ rfl rfl rfl ?_
    exact h
  · have h := h.2 hc
    refine w_iconst (q := 11) hm91 ⟨⟨_, _, rfl⟩, rfl⟩ iconst_m1 ?_
    exact w_reti hm91 ⟨⟨_, _, rfl⟩, rfl⟩ rfl h
theorem v_X12_thick_70_27 {d : Nat} {x1 : Int32} {x2 : Int32} {x3 : Int32} {x4 : Int32} {m : dM} {Q : Int32 → dM → Prop} (h : ((0 ≤ (m.1 70 18).toInt ∧ (m.1 70 18).toInt < 2) ∧ (((m.1 82 (m.1 70 18).toNatClampNeg).toInt ≤ x4.toInt → Q x3 m) ∧ (x4.toInt < (m.1 82 (m.1 70 18).toNatClampNeg).toInt → ((0 ≤ ((10 : Int32) + x4).toInt ∧ ((10 : Int32) + x4).toInt < 58) ∧ (((m.1 107 ((10 : Int32) + x4).toNatClampNeg).toInt ≠ 1 → c_X12_copiesStill_70 d m (fun m1 => ((0 ≤ x4.toInt ∧ x4.toInt < 58) ∧ c_X12_within d ((m1.1 108 x4.toNatClampNeg) + x1) (1 : Int32) (99 : Int32) m1 (fun r2 m2 => ((0 ≤ x4.toInt ∧ x4.toInt < 58) ∧ c_X12_firstGoing_70 d (dSet m2 108 x4.toNatClampNeg r2) (fun r3 m3 => ((x2.toInt < r3.toInt → j_X12_thick_70_105 (d + 1) x1 r3 x4 x4 m3 Q) ∧ (r3.toInt ≤ x2.toInt → j_X12_thick_70_105 (d + 1) x1 x2 x3 x4 m3 Q)))))))) ∧ ((m.1 107 ((10 : Int32) + x4).toNatClampNeg).toInt = 1 → j_X12_thick_70_105 (d + 1) x1 x2 x3 x4 m Q))))))) : j_X12_thick_70_27 (d + 1) x1 x2 x3 x4 m Q := by
  refine w_iload (q := 29) hm91 ⟨⟨_, _, rfl⟩, rfl⟩ rfl ?_
  refine w_aload_n (q := 30) hm91 ⟨⟨_, _, rfl⟩, rfl⟩ rfl ?_
  refine w_getr (q := 33) hm91 ⟨⟨_, _, rfl⟩, rfl⟩ rfl ?_
  refine w_aload_n (q := 34) hm91 ⟨⟨_, _, rfl⟩, rfl⟩ rfl ?_
  refine w_getf (q := 37) (v := (m.1 70 18)) hm91 ⟨⟨_, _, rfl⟩, rfl⟩ rfl rfl ?_
  obtain ⟨hi, h⟩ := h
  refine w_iald (q := 38) (v := (m.1 82 (m.1 70 18).toNatClampNeg)) hm91 ⟨⟨_, _, rfl⟩, rfl⟩ rfl hi rfl rfl ?_
  refine w_icmp_ge (q := 41) (X := x4.toInt) (Y := (m.1 82 (m.1 70 18).toNatClampNeg).toInt) hm91 ⟨⟨_, _, rfl⟩, rfl⟩ rfl rfl (fun hc => ?_) (fun hc => ?_)
  · have h := h.1 hc
    refine w_iload_n (q := 112) hm91 ⟨⟨_, _, rfl⟩, rfl⟩ rfl ?_
    exact w_reti hm91 ⟨⟨_, _, rfl⟩, rfl⟩ rfl h
  · have h := h.2 hc
    refine w_aload_n (q := 42) hm91 ⟨⟨_, _, rfl⟩, rfl⟩ rfl ?_
    refine w_getr (q := 45) hm91 ⟨⟨_, _, rfl⟩, rfl⟩ rfl ?_
    refine w_bipush (q := 47) hm91 ⟨⟨_, _, rfl⟩, rfl⟩ bipush_10 ?_
    refine w_iload (q := 49) hm91 ⟨⟨_, _, rfl⟩, rfl⟩ rfl ?_
    refine w_iadd (q := 50) hm91 ⟨⟨_, _, rfl⟩, rfl⟩ ?_
    obtain ⟨hi, h⟩ := h
    refine w_iald (q := 51) (v := (m.1 107 ((10 : Int32) + x4).toNatClampNeg)) hm91 ⟨⟨_, _, rfl⟩, rfl⟩ rfl hi rfl rfl ?_
    refine w_iconst (q := 52) hm91 ⟨⟨_, _, rfl⟩, rfl⟩ iconst_1 ?_
    refine w_icmp_ne (q := 55) (X := (m.1 107 ((10 : Int32) + x4).toNatClampNeg).toInt) (Y := 1) hm91 ⟨⟨_, _, rfl⟩, rfl⟩ rfl (by decide) (fun hc => ?_) (fun hc => ?_)
    · have h := h.1 hc
      refine w_aload_n (q := 59) hm91 ⟨⟨_, _, rfl⟩, rfl⟩ rfl ?_
      refine w_call (q := 62) (n := 0) (vs := [.inr (.inr (some 70))]) (rest := []) (la := [oR 70]) hm91 ⟨⟨_, _, rfl⟩, rfl⟩ rfl rfl rfl rfl hm82 rfl rfl (fun _ => ⟨_, _, rfl, rfl⟩) rfl (Wp.mono h ?_)
      rintro _ m1 ⟨rfl, h⟩
      change Wp _ _ 62 _ [] _ _
      refine w_aload_n (q := 63) hm91 ⟨⟨_, _, rfl⟩, rfl⟩ rfl ?_
      refine w_getr (q := 66) hm91 ⟨⟨_, _, rfl⟩, rfl⟩ rfl ?_
      refine w_iload (q := 68) hm91 ⟨⟨_, _, rfl⟩, rfl⟩ rfl ?_
      refine w_aload_n (q := 69) hm91 ⟨⟨_, _, rfl⟩, rfl⟩ rfl ?_
      refine w_getr (q := 72) hm91 ⟨⟨_, _, rfl⟩, rfl⟩ rfl ?_
      refine w_iload (q := 74) hm91 ⟨⟨_, _, rfl⟩, rfl⟩ rfl ?_
      obtain ⟨hi, h⟩ := h
      refine w_iald (q := 75) (v := (m1.1 108 x4.toNatClampNeg)) hm91 ⟨⟨_, _, rfl⟩, rfl⟩ rfl hi rfl rfl ?_
      refine w_iload_n (q := 76) hm91 ⟨⟨_, _, rfl⟩, rfl⟩ rfl ?_
      refine w_iadd (q := 77) hm91 ⟨⟨_, _, rfl⟩, rfl⟩ ?_
      refine w_iconst (q := 78) hm91 ⟨⟨_, _, rfl⟩, rfl⟩ iconst_1 ?_
      refine w_bipush (q := 80) hm91 ⟨⟨_, _, rfl⟩, rfl⟩ bipush_99 ?_
      refine w_call (q := 83) (n := 0) (vs := [.inl ((m1.1 108 x4.toNatClampNeg) + x1), .inl (1 : Int32), .inl (99 : Int32)]) (rest := [.inl x4, .inr (.inr (some 108))]) (la := [oI ((m1.1 108 x4.toNatClampNeg) + x1), oI (1 : Int32), oI (99 : Int32)]) hm91 ⟨⟨_, _, rfl⟩, rfl⟩ rfl rfl rfl rfl hm37 rfl rfl (fun hz => absurd hz (by decide)) rfl (Wp.mono h ?_)
      rintro _ m2 ⟨r2, rfl, h⟩
      change Wp _ _ 83 _ [.inl r2, .inl x4, .inr (.inr (some 108))] _ _
      obtain ⟨hi, h⟩ := h
      refine w_iast (q := 84) hm91 ⟨⟨_, _, rfl⟩, rfl⟩ rfl hi rfl rfl ?_
      refine w_aload_n (q := 85) hm91 ⟨⟨_, _, rfl⟩, rfl⟩ rfl ?_
      refine w_call (q := 88) (n := 1) (vs := [.inr (.inr (some 70))]) (rest := []) (la := [oR 70, none]) hm91 ⟨⟨_, _, rfl⟩, rfl⟩ rfl rfl rfl rfl hm84 rfl rfl (fun _ => ⟨_, _, rfl, rfl⟩) rfl (Wp.mono h ?_)
      rintro _ m3 ⟨r3, rfl, h⟩
      change Wp _ _ 88 _ [.inl r3] _ _
      refine w_istore (q := 90) (l' := [oR 70, oI x1, oI x2, oI x3, oI x4, oI r3]) hm91 ⟨⟨_, _, rfl⟩, rfl⟩ rfl rfl rfl ?_
      refine w_iload (q := 92) hm91 ⟨⟨_, _, rfl⟩, rfl⟩ rfl ?_
      refine w_iload_n (q := 93) hm91 ⟨⟨_, _, rfl⟩, rfl⟩ rfl ?_
      refine w_icmp_gt (q := 96) (X := r3.toInt) (Y := x2.toInt) hm91 ⟨⟨_, _, rfl⟩, rfl⟩ rfl rfl (fun hc => ?_) (fun hc => ?_)
      · have h := h.1 hc
        refine w_iload (q := 101) hm91 ⟨⟨_, _, rfl⟩, rfl⟩ rfl ?_
        refine w_istore_n (q := 102) (l' := [oR 70, oI x1, oI x2, oI x4, oI x4, oI r3]) hm91 ⟨⟨_, _, rfl⟩, rfl⟩ rfl rfl rfl ?_
        refine w_iload (q := 104) hm91 ⟨⟨_, _, rfl⟩, rfl⟩ rfl ?_
        refine w_istore_n (q := 105) (l' := [oR 70, oI x1, oI r3, oI x4, oI x4, oI r3]) hm91 ⟨⟨_, _, rfl⟩, rfl⟩ rfl rfl rfl ?_
        exact Wp.wk [true, true, true, true, true, false] h
      · have h := h.2 hc
        refine w_goto (q := 105) hm91 ⟨_, _, rfl⟩ ?_
        exact Wp.wk [true, true, true, true, true, false] h
    · have h := h.2 hc
      refine w_goto (q := 105) hm91 ⟨_, _, rfl⟩ ?_
      exact h
theorem v_X12_thick_70_105 {d : Nat} {x1 : Int32} {x2 : Int32} {x3 : Int32} {x4 : Int32} {m : dM} {Q : Int32 → dM → Prop} (h : j_X12_thick_70_27 (d + 1) x1 x2 x3 (x4 + (1 : Int32)) m Q) : j_X12_thick_70_105 (d + 1) x1 x2 x3 x4 m Q := by
  refine w_iinc (q := 108) (l' := [oR 70, oI x1, oI x2, oI x3, oI (x4 + (1 : Int32)), none]) hm91 ⟨⟨_, _, rfl⟩, rfl⟩ rfl rfl rfl iconst_1 rfl ?_
  refine w_goto (q := 27) hm91 ⟨_, _, rfl⟩ ?_
  exact h
theorem v_X3_endsOf_2 {d : Nat} {x1 : Int32} {m : dM} {Q : Int32 → dM → Prop} (h : ((0 ≤ x1.toInt ∧ x1.toInt < 10) ∧ ((0 ≤ x1.toInt ∧ x1.toInt < 10) ∧ Q (((1 : Int32) <<< ((m.1 4 x1.toNatClampNeg) &&& 31)) ||| ((1 : Int32) <<< ((m.1 5 x1.toNatClampNeg) &&& 31))) m))) : c_X3_endsOf_2 (d + 1) x1 m Q := by
  refine w_iconst (q := 1) hm172 ⟨⟨_, _, rfl⟩, rfl⟩ iconst_1 ?_
  refine w_aload_n (q := 2) hm172 ⟨⟨_, _, rfl⟩, rfl⟩ rfl ?_
  refine w_getr (q := 5) hm172 ⟨⟨_, _, rfl⟩, rfl⟩ rfl ?_
  refine w_iload_n (q := 6) hm172 ⟨⟨_, _, rfl⟩, rfl⟩ rfl ?_
  obtain ⟨hi, h⟩ := h
  refine w_iald (q := 7) (v := (m.1 4 x1.toNatClampNeg)) hm172 ⟨⟨_, _, rfl⟩, rfl⟩ rfl hi rfl rfl ?_
  refine w_ishl (q := 8) hm172 ⟨⟨_, _, rfl⟩, rfl⟩ ?_
  refine w_iconst (q := 9) hm172 ⟨⟨_, _, rfl⟩, rfl⟩ iconst_1 ?_
  refine w_aload_n (q := 10) hm172 ⟨⟨_, _, rfl⟩, rfl⟩ rfl ?_
  refine w_getr (q := 13) hm172 ⟨⟨_, _, rfl⟩, rfl⟩ rfl ?_
  refine w_iload_n (q := 14) hm172 ⟨⟨_, _, rfl⟩, rfl⟩ rfl ?_
  obtain ⟨hi, h⟩ := h
  refine w_iald (q := 15) (v := (m.1 5 x1.toNatClampNeg)) hm172 ⟨⟨_, _, rfl⟩, rfl⟩ rfl hi rfl rfl ?_
  refine w_ishl (q := 16) hm172 ⟨⟨_, _, rfl⟩, rfl⟩ ?_
  refine w_ior (q := 17) hm172 ⟨⟨_, _, rfl⟩, rfl⟩ ?_
  exact w_reti hm172 ⟨⟨_, _, rfl⟩, rfl⟩ rfl h
theorem v_X3_litWithout_2 {d : Nat} {x1 : Int32} {m : dM} {Q : Int32 → dM → Prop} (h : (((m.1 2 0).toInt ≤ 0 → j_X3_litWithout_2_15 (d + 1) x1 (0 : Int32) (1 : Int32) m Q) ∧ (0 < (m.1 2 0).toInt → j_X3_litWithout_2_15 (d + 1) x1 (1 : Int32) (1 : Int32) m Q))) : c_X3_litWithout_2 (d + 1) x1 m Q := by
  refine w_aload_n (q := 1) hm174 ⟨⟨_, _, rfl⟩, rfl⟩ rfl ?_
  refine w_getf (q := 4) (v := (m.1 2 0)) hm174 ⟨⟨_, _, rfl⟩, rfl⟩ rfl rfl ?_
  refine w_if_le (q := 7) (X := (m.1 2 0).toInt) hm174 ⟨⟨_, _, rfl⟩, rfl⟩ rfl (fun hc => ?_) (fun hc => ?_)
  · have h := h.1 hc
    refine w_iconst (q := 12) hm174 ⟨⟨_, _, rfl⟩, rfl⟩ iconst_0 ?_
    refine w_istore_n (q := 13) (l' := [oR 2, oI x1, oI (0 : Int32), none, none, none, none]) hm174 ⟨⟨_, _, rfl⟩, rfl⟩ rfl rfl rfl ?_
    refine w_iconst (q := 14) hm174 ⟨⟨_, _, rfl⟩, rfl⟩ iconst_1 ?_
    refine w_istore_n (q := 15) (l' := [oR 2, oI x1, oI (0 : Int32), oI (1 : Int32), none, none, none]) hm174 ⟨⟨_, _, rfl⟩, rfl⟩ rfl rfl rfl ?_
    exact h
  · have h := h.2 hc
    refine w_iconst (q := 8) hm174 ⟨⟨_, _, rfl⟩, rfl⟩ iconst_1 ?_
    refine w_goto (q := 12) hm174 ⟨_, _, rfl⟩ ?_
    refine w_istore_n (q := 13) (l' := [oR 2, oI x1, oI (1 : Int32), none, none, none, none]) hm174 ⟨⟨_, _, rfl⟩, rfl⟩ rfl rfl rfl ?_
    refine w_iconst (q := 14) hm174 ⟨⟨_, _, rfl⟩, rfl⟩ iconst_1 ?_
    refine w_istore_n (q := 15) (l' := [oR 2, oI x1, oI (1 : Int32), oI (1 : Int32), none, none, none]) hm174 ⟨⟨_, _, rfl⟩, rfl⟩ rfl rfl rfl ?_
    exact h
theorem v_X3_litWithout_2_15 {d : Nat} {x1 : Int32} {x2 : Int32} {x3 : Int32} {m : dM} {Q : Int32 → dM → Prop} (h : (((m.1 2 0).toInt ≤ x3.toInt → j_X3_litWithout_2_88 (d + 1) x2 m Q) ∧ (x3.toInt < (m.1 2 0).toInt → j_X3_litWithout_2_29 (d + 1) x1 x2 x3 x2 (0 : Int32) m Q))) : j_X3_litWithout_2_15 (d + 1) x1 x2 x3 m Q := by
  refine w_iload_n (q := 16) hm174 ⟨⟨_, _, rfl⟩, rfl⟩ rfl ?_
  refine w_aload_n (q := 17) hm174 ⟨⟨_, _, rfl⟩, rfl⟩ rfl ?_
  refine w_getf (q := 20) (v := (m.1 2 0)) hm174 ⟨⟨_, _, rfl⟩, rfl⟩ rfl rfl ?_
  refine w_icmp_ge (q := 23) (X := x3.toInt) (Y := (m.1 2 0).toInt) hm174 ⟨⟨_, _, rfl⟩, rfl⟩ rfl rfl (fun hc => ?_) (fun hc => ?_)
  · have h := h.1 hc
    exact Wp.wk [false, false, true, false, false, false, false] h
  · have h := h.2 hc
    refine w_iload_n (q := 24) hm174 ⟨⟨_, _, rfl⟩, rfl⟩ rfl ?_
    refine w_istore (q := 26) (l' := [oR 2, oI x1, oI x2, oI x3, oI x2, none, none]) hm174 ⟨⟨_, _, rfl⟩, rfl⟩ rfl rfl rfl ?_
    refine w_iconst (q := 27) hm174 ⟨⟨_, _, rfl⟩, rfl⟩ iconst_0 ?_
    refine w_istore (q := 29) (l' := [oR 2, oI x1, oI x2, oI x3, oI x2, oI (0 : Int32), none]) hm174 ⟨⟨_, _, rfl⟩, rfl⟩ rfl rfl rfl ?_
    exact h
theorem v_X3_litWithout_2_29 {d : Nat} {x1 : Int32} {x2 : Int32} {x3 : Int32} {x4 : Int32} {x5 : Int32} {m : dM} {Q : Int32 → dM → Prop} (h : (((m.1 2 1).toInt ≤ x5.toInt → ((x2.toInt ≠ x4.toInt → j_X3_litWithout_2_15 (d + 1) x1 x2 (x3 + (1 : Int32)) m Q) ∧ (x2.toInt = x4.toInt → j_X3_litWithout_2_88 (d + 1) x2 m Q))) ∧ (x5.toInt < (m.1 2 1).toInt → c_X3_endsOf_2 d x5 m (fun r1 m1 => c_X11_has d x1 x5 m1 (fun r2 m2 => ((r2.toInt ≠ 0 → j_X3_litWithout_2_67 (d + 1) x1 x2 x3 x4 x5 m2 Q) ∧ (r2.toInt = 0 → (((r1 &&& x2).toInt = 0 → j_X3_litWithout_2_67 (d + 1) x1 x2 x3 x4 x5 m2 Q) ∧ ((r1 &&& x2).toInt ≠ 0 → j_X3_litWithout_2_67 (d + 1) x1 (x2 ||| r1) x3 x4 x5 m2 Q))))))))) : j_X3_litWithout_2_29 (d + 1) x1 x2 x3 x4 x5 m Q := by
  refine w_iload (q := 31) hm174 ⟨⟨_, _, rfl⟩, rfl⟩ rfl ?_
  refine w_aload_n (q := 32) hm174 ⟨⟨_, _, rfl⟩, rfl⟩ rfl ?_
  refine w_getf (q := 35) (v := (m.1 2 1)) hm174 ⟨⟨_, _, rfl⟩, rfl⟩ rfl rfl ?_
  refine w_icmp_ge (q := 38) (X := x5.toInt) (Y := (m.1 2 1).toInt) hm174 ⟨⟨_, _, rfl⟩, rfl⟩ rfl rfl (fun hc => ?_) (fun hc => ?_)
  · have h := h.1 hc
    refine w_iload_n (q := 74) hm174 ⟨⟨_, _, rfl⟩, rfl⟩ rfl ?_
    refine w_iload (q := 76) hm174 ⟨⟨_, _, rfl⟩, rfl⟩ rfl ?_
    refine w_icmp_ne (q := 79) (X := x2.toInt) (Y := x4.toInt) hm174 ⟨⟨_, _, rfl⟩, rfl⟩ rfl rfl (fun hc => ?_) (fun hc => ?_)
    · have h := h.1 hc
      refine w_iinc (q := 85) (l' := [oR 2, oI x1, oI x2, oI (x3 + (1 : Int32)), oI x4, oI x5, none]) hm174 ⟨⟨_, _, rfl⟩, rfl⟩ rfl rfl rfl iconst_1 rfl ?_
      refine w_goto (q := 15) hm174 ⟨_, _, rfl⟩ ?_
      exact Wp.wk [true, true, true, true, false, false, false] h
    · have h := h.2 hc
      refine w_goto (q := 88) hm174 ⟨_, _, rfl⟩ ?_
      exact Wp.wk [false, false, true, false, false, false, false] h
  · have h := h.2 hc
    refine w_aload_n (q := 39) hm174 ⟨⟨_, _, rfl⟩, rfl⟩ rfl ?_
    refine w_iload (q := 41) hm174 ⟨⟨_, _, rfl⟩, rfl⟩ rfl ?_
    refine w_call (q := 44) (n := 0) (vs := [.inr (.inr (some 2)), .inl x5]) (rest := []) (la := [oR 2, oI x5]) hm174 ⟨⟨_, _, rfl⟩, rfl⟩ rfl rfl rfl rfl hm172 rfl rfl (fun _ => ⟨_, _, rfl, rfl⟩) rfl (Wp.mono h ?_)
    rintro _ m1 ⟨r1, rfl, h⟩
    change Wp _ _ 44 _ [.inl r1] _ _
    refine w_istore (q := 46) (l' := [oR 2, oI x1, oI x2, oI x3, oI x4, oI x5, oI r1]) hm174 ⟨⟨_, _, rfl⟩, rfl⟩ rfl rfl rfl ?_
    refine w_iload_n (q := 47) hm174 ⟨⟨_, _, rfl⟩, rfl⟩ rfl ?_
    refine w_iload (q := 49) hm174 ⟨⟨_, _, rfl⟩, rfl⟩ rfl ?_
    refine w_call (q := 52) (n := 0) (vs := [.inl x1, .inl x5]) (rest := []) (la := [oI x1, oI x5]) hm174 ⟨⟨_, _, rfl⟩, rfl⟩ rfl rfl rfl rfl hm283 rfl rfl (fun hz => absurd hz (by decide)) rfl (Wp.mono h ?_)
    rintro _ m2 ⟨r2, rfl, h⟩
    change Wp _ _ 52 _ [.inl r2] _ _
    refine w_if_ne (q := 55) (X := r2.toInt) hm174 ⟨⟨_, _, rfl⟩, rfl⟩ rfl (fun hc => ?_) (fun hc => ?_)
    · have h := h.1 hc
      exact Wp.wk [true, true, true, true, true, true, false] h
    · have h := h.2 hc
      refine w_iload (q := 57) hm174 ⟨⟨_, _, rfl⟩, rfl⟩ rfl ?_
      refine w_iload_n (q := 58) hm174 ⟨⟨_, _, rfl⟩, rfl⟩ rfl ?_
      refine w_iand (q := 59) hm174 ⟨⟨_, _, rfl⟩, rfl⟩ ?_
      refine w_if_eq (q := 62) (X := (r1 &&& x2).toInt) hm174 ⟨⟨_, _, rfl⟩, rfl⟩ rfl (fun hc => ?_) (fun hc => ?_)
      · have h := h.1 hc
        exact Wp.wk [true, true, true, true, true, true, false] h
      · have h := h.2 hc
        refine w_iload_n (q := 63) hm174 ⟨⟨_, _, rfl⟩, rfl⟩ rfl ?_
        refine w_iload (q := 65) hm174 ⟨⟨_, _, rfl⟩, rfl⟩ rfl ?_
        refine w_ior (q := 66) hm174 ⟨⟨_, _, rfl⟩, rfl⟩ ?_
        refine w_istore_n (q := 67) (l' := [oR 2, oI x1, oI (x2 ||| r1), oI x3, oI x4, oI x5, oI r1]) hm174 ⟨⟨_, _, rfl⟩, rfl⟩ rfl rfl rfl ?_
        exact Wp.wk [true, true, true, true, true, true, false] h
theorem v_X3_litWithout_2_67 {d : Nat} {x1 : Int32} {x2 : Int32} {x3 : Int32} {x4 : Int32} {x5 : Int32} {m : dM} {Q : Int32 → dM → Prop} (h : j_X3_litWithout_2_29 (d + 1) x1 x2 x3 x4 (x5 + (1 : Int32)) m Q) : j_X3_litWithout_2_67 (d + 1) x1 x2 x3 x4 x5 m Q := by
  refine w_iinc (q := 70) (l' := [oR 2, oI x1, oI x2, oI x3, oI x4, oI (x5 + (1 : Int32)), none]) hm174 ⟨⟨_, _, rfl⟩, rfl⟩ rfl rfl rfl iconst_1 rfl ?_
  refine w_goto (q := 29) hm174 ⟨_, _, rfl⟩ ?_
  exact h
theorem v_X3_litWithout_2_88 {d : Nat} {x2 : Int32} {m : dM} {Q : Int32 → dM → Prop} (h : Q x2 m) : j_X3_litWithout_2_88 (d + 1) x2 m Q := by
  refine w_iload_n (q := 89) hm174 ⟨⟨_, _, rfl⟩, rfl⟩ rfl ?_
  exact w_reti hm174 ⟨⟨_, _, rfl⟩, rfl⟩ rfl h
theorem v_X1_cutBy_2 {d : Nat} {x1 : Int32} {x2 : Int32} {x3 : Int32} {x4 : Int32} {m : dM} {Q : Int32 → dM → Prop} (h : ((0 < x4.toInt → j_X1_cutBy_2_26 (d + 1) x1 x2 x4 x3 m Q) ∧ (x4.toInt ≤ 0 → c_X3_litWithout_2 d x2 m (fun r1 m1 => c_X11_has d r1 x1 m1 (fun r2 m2 => ((r2.toInt = 0 → Q (0 : Int32) m2) ∧ (r2.toInt ≠ 0 → Q (-1 : Int32) m2))))))) : c_X1_cutBy_2 (d + 1) x1 x2 x3 x4 m Q := by
  refine w_iload (q := 2) hm148 ⟨⟨_, _, rfl⟩, rfl⟩ rfl ?_
  refine w_if_gt (q := 5) (X := x4.toInt) hm148 ⟨⟨_, _, rfl⟩, rfl⟩ rfl (fun hc => ?_) (fun hc => ?_)
  · have h := h.1 hc
    refine w_iload_n (q := 24) hm148 ⟨⟨_, _, rfl⟩, rfl⟩ rfl ?_
    refine w_istore (q := 26) (l' := [oR 2, oI x1, oI x2, oI x3, oI x4, oI x3, none]) hm148 ⟨⟨_, _, rfl⟩, rfl⟩ rfl rfl rfl ?_
    exact Wp.wk [true, true, true, false, true, true, false] h
  · have h := h.2 hc
    refine w_aload_n (q := 6) hm148 ⟨⟨_, _, rfl⟩, rfl⟩ rfl ?_
    refine w_iload_n (q := 7) hm148 ⟨⟨_, _, rfl⟩, rfl⟩ rfl ?_
    refine w_call (q := 10) (n := 5) (vs := [.inr (.inr (some 2)), .inl x2]) (rest := []) (la := [oR 2, oI x2, none, none, none, none, none]) hm148 ⟨⟨_, _, rfl⟩, rfl⟩ rfl rfl rfl rfl hm174 rfl rfl (fun _ => ⟨_, _, rfl, rfl⟩) rfl (Wp.mono h ?_)
    rintro _ m1 ⟨r1, rfl, h⟩
    change Wp _ _ 10 _ [.inl r1] _ _
    refine w_iload_n (q := 11) hm148 ⟨⟨_, _, rfl⟩, rfl⟩ rfl ?_
    refine w_call (q := 14) (n := 0) (vs := [.inl r1, .inl x1]) (rest := []) (la := [oI r1, oI x1]) hm148 ⟨⟨_, _, rfl⟩, rfl⟩ rfl rfl rfl rfl hm283 rfl rfl (fun hz => absurd hz (by decide)) rfl (Wp.mono h ?_)
    rintro _ m2 ⟨r2, rfl, h⟩
    change Wp _ _ 14 _ [.inl r2] _ _
    refine w_if_eq (q := 17) (X := r2.toInt) hm148 ⟨⟨_, _, rfl⟩, rfl⟩ rfl (fun hc => ?_) (fun hc => ?_)
    · have h := h.1 hc
      refine w_iconst (q := 22) hm148 ⟨⟨_, _, rfl⟩, rfl⟩ iconst_0 ?_
      exact w_reti hm148 ⟨⟨_, _, rfl⟩, rfl⟩ rfl h
    · have h := h.2 hc
      refine w_iconst (q := 18) hm148 ⟨⟨_, _, rfl⟩, rfl⟩ iconst_m1 ?_
      refine w_goto (q := 22) hm148 ⟨_, _, rfl⟩ ?_
      exact w_reti hm148 ⟨⟨_, _, rfl⟩, rfl⟩ rfl h
theorem v_X1_cutBy_2_26 {d : Nat} {x1 : Int32} {x2 : Int32} {x4 : Int32} {x5 : Int32} {m : dM} {Q : Int32 → dM → Prop} (h : (((m.1 2 1).toInt ≤ x5.toInt → Q (-1 : Int32) m) ∧ (x5.toInt < (m.1 2 1).toInt → c_X11_has d x2 x5 m (fun r1 m1 => ((r1.toInt ≠ 0 → j_X1_cutBy_2_79 (d + 1) x1 x2 x4 x5 m1 Q) ∧ (r1.toInt = 0 → c_X1_cutBy_2 d x1 (x2 ||| ((1 : Int32) <<< (x5 &&& 31))) (x5 + (1 : Int32)) (x4 - (1 : Int32)) m1 (fun r2 m2 => ((r2.toInt = (-1) → j_X1_cutBy_2_79 (d + 1) x1 x2 x4 x5 m2 Q) ∧ (r2.toInt ≠ (-1) → Q (r2 ||| ((1 : Int32) <<< (x5 &&& 31))) m2))))))))) : j_X1_cutBy_2_26 (d + 1) x1 x2 x4 x5 m Q := by
  refine w_iload (q := 28) hm148 ⟨⟨_, _, rfl⟩, rfl⟩ rfl ?_
  refine w_aload_n (q := 29) hm148 ⟨⟨_, _, rfl⟩, rfl⟩ rfl ?_
  refine w_getf (q := 32) (v := (m.1 2 1)) hm148 ⟨⟨_, _, rfl⟩, rfl⟩ rfl rfl ?_
  refine w_icmp_ge (q := 35) (X := x5.toInt) (Y := (m.1 2 1).toInt) hm148 ⟨⟨_, _, rfl⟩, rfl⟩ rfl rfl (fun hc => ?_) (fun hc => ?_)
  · have h := h.1 hc
    refine w_iconst (q := 86) hm148 ⟨⟨_, _, rfl⟩, rfl⟩ iconst_m1 ?_
    exact w_reti hm148 ⟨⟨_, _, rfl⟩, rfl⟩ rfl h
  · have h := h.2 hc
    refine w_iload_n (q := 36) hm148 ⟨⟨_, _, rfl⟩, rfl⟩ rfl ?_
    refine w_iload (q := 38) hm148 ⟨⟨_, _, rfl⟩, rfl⟩ rfl ?_
    refine w_call (q := 41) (n := 0) (vs := [.inl x2, .inl x5]) (rest := []) (la := [oI x2, oI x5]) hm148 ⟨⟨_, _, rfl⟩, rfl⟩ rfl rfl rfl rfl hm283 rfl rfl (fun hz => absurd hz (by decide)) rfl (Wp.mono h ?_)
    rintro _ m1 ⟨r1, rfl, h⟩
    change Wp _ _ 41 _ [.inl r1] _ _
    refine w_if_ne (q := 44) (X := r1.toInt) hm148 ⟨⟨_, _, rfl⟩, rfl⟩ rfl (fun hc => ?_) (fun hc => ?_)
    · have h := h.1 hc
      exact h
    · have h := h.2 hc
      refine w_aload_n (q := 45) hm148 ⟨⟨_, _, rfl⟩, rfl⟩ rfl ?_
      refine w_iload_n (q := 46) hm148 ⟨⟨_, _, rfl⟩, rfl⟩ rfl ?_
      refine w_iload_n (q := 47) hm148 ⟨⟨_, _, rfl⟩, rfl⟩ rfl ?_
      refine w_iconst (q := 48) hm148 ⟨⟨_, _, rfl⟩, rfl⟩ iconst_1 ?_
      refine w_iload (q := 50) hm148 ⟨⟨_, _, rfl⟩, rfl⟩ rfl ?_
      refine w_ishl (q := 51) hm148 ⟨⟨_, _, rfl⟩, rfl⟩ ?_
      refine w_ior (q := 52) hm148 ⟨⟨_, _, rfl⟩, rfl⟩ ?_
      refine w_iload (q := 54) hm148 ⟨⟨_, _, rfl⟩, rfl⟩ rfl ?_
      refine w_iconst (q := 55) hm148 ⟨⟨_, _, rfl⟩, rfl⟩ iconst_1 ?_
      refine w_iadd (q := 56) hm148 ⟨⟨_, _, rfl⟩, rfl⟩ ?_
      refine w_iload (q := 58) hm148 ⟨⟨_, _, rfl⟩, rfl⟩ rfl ?_
      refine w_iconst (q := 59) hm148 ⟨⟨_, _, rfl⟩, rfl⟩ iconst_1 ?_
      refine w_isub (q := 60) hm148 ⟨⟨_, _, rfl⟩, rfl⟩ ?_
      refine w_call (q := 63) (n := 2) (vs := [.inr (.inr (some 2)), .inl x1, .inl (x2 ||| ((1 : Int32) <<< (x5 &&& 31))), .inl (x5 + (1 : Int32)), .inl (x4 - (1 : Int32))]) (rest := []) (la := [oR 2, oI x1, oI (x2 ||| ((1 : Int32) <<< (x5 &&& 31))), oI (x5 + (1 : Int32)), oI (x4 - (1 : Int32)), none, none]) hm148 ⟨⟨_, _, rfl⟩, rfl⟩ rfl rfl rfl rfl hm148 rfl rfl (fun hz => absurd hz (by decide)) rfl (Wp.mono h ?_)
      rintro _ m2 ⟨r2, rfl, h⟩
      change Wp _ _ 63 _ [.inl r2] _ _
      refine w_istore (q := 65) (l' := [oR 2, oI x1, oI x2, none, oI x4, oI x5, oI r2]) hm148 ⟨⟨_, _, rfl⟩, rfl⟩ rfl rfl rfl ?_
      refine w_iload (q := 67) hm148 ⟨⟨_, _, rfl⟩, rfl⟩ rfl ?_
      refine w_iconst (q := 68) hm148 ⟨⟨_, _, rfl⟩, rfl⟩ iconst_m1 ?_
      refine w_icmp_eq (q := 71) (X := r2.toInt) (Y := (-1)) hm148 ⟨⟨_, _, rfl⟩, rfl⟩ rfl (by decide) (fun hc => ?_) (fun hc => ?_)
      · have h := h.1 hc
        exact Wp.wk [true, true, true, false, true, true, false] h
      · have h := h.2 hc
        refine w_iload (q := 73) hm148 ⟨⟨_, _, rfl⟩, rfl⟩ rfl ?_
        refine w_iconst (q := 74) hm148 ⟨⟨_, _, rfl⟩, rfl⟩ iconst_1 ?_
        refine w_iload (q := 76) hm148 ⟨⟨_, _, rfl⟩, rfl⟩ rfl ?_
        refine w_ishl (q := 77) hm148 ⟨⟨_, _, rfl⟩, rfl⟩ ?_
        refine w_ior (q := 78) hm148 ⟨⟨_, _, rfl⟩, rfl⟩ ?_
        exact w_reti hm148 ⟨⟨_, _, rfl⟩, rfl⟩ rfl h
theorem v_X1_cutBy_2_79 {d : Nat} {x1 : Int32} {x2 : Int32} {x4 : Int32} {x5 : Int32} {m : dM} {Q : Int32 → dM → Prop} (h : j_X1_cutBy_2_26 (d + 1) x1 x2 x4 (x5 + (1 : Int32)) m Q) : j_X1_cutBy_2_79 (d + 1) x1 x2 x4 x5 m Q := by
  refine w_iinc (q := 82) (l' := [oR 2, oI x1, oI x2, none, oI x4, oI (x5 + (1 : Int32)), none]) hm148 ⟨⟨_, _, rfl⟩, rfl⟩ rfl rfl rfl iconst_1 rfl ?_
  refine w_goto (q := 26) hm148 ⟨_, _, rfl⟩ ?_
  exact h
theorem v_X1_leastCut_61_47 {d : Nat} {x2 : Int32} {m : dM} {Q : Int32 → dM → Prop} (h : j_X1_leastCut_61_47_2 (d + 1) x2 (0 : Int32) m Q) : c_X1_leastCut_61_47 (d + 1) x2 m Q := by
  refine w_iconst (q := 1) hm147 ⟨⟨_, _, rfl⟩, rfl⟩ iconst_0 ?_
  refine w_istore_n (q := 2) (l' := [oR 61, oR 47, oI x2, oI (0 : Int32), none]) hm147 ⟨⟨_, _, rfl⟩, rfl⟩ rfl rfl rfl ?_
  exact h
theorem v_X1_leastCut_61_47_2 {d : Nat} {x2 : Int32} {x3 : Int32} {m : dM} {Q : Int32 → dM → Prop} (h : ((3 < x3.toInt → Q (-1 : Int32) m) ∧ (x3.toInt ≤ 3 → c_X1_cutBy_2 d x2 (m.1 47 3) (0 : Int32) x3 m (fun r1 m1 => ((r1.toInt = (-1) → j_X1_leastCut_61_47_2 (d + 1) x2 (x3 + (1 : Int32)) m1 Q) ∧ (r1.toInt ≠ (-1) → Q r1 m1)))))) : j_X1_leastCut_61_47_2 (d + 1) x2 x3 m Q := by
  refine w_iload_n (q := 3) hm147 ⟨⟨_, _, rfl⟩, rfl⟩ rfl ?_
  refine w_iconst (q := 4) hm147 ⟨⟨_, _, rfl⟩, rfl⟩ iconst_3 ?_
  refine w_icmp_gt (q := 7) (X := x3.toInt) (Y := 3) hm147 ⟨⟨_, _, rfl⟩, rfl⟩ rfl (by decide) (fun hc => ?_) (fun hc => ?_)
  · have h := h.1 hc
    refine w_iconst (q := 39) hm147 ⟨⟨_, _, rfl⟩, rfl⟩ iconst_m1 ?_
    exact w_reti hm147 ⟨⟨_, _, rfl⟩, rfl⟩ rfl h
  · have h := h.2 hc
    refine w_aload_n (q := 8) hm147 ⟨⟨_, _, rfl⟩, rfl⟩ rfl ?_
    refine w_getr (q := 11) hm147 ⟨⟨_, _, rfl⟩, rfl⟩ rfl ?_
    refine w_iload_n (q := 12) hm147 ⟨⟨_, _, rfl⟩, rfl⟩ rfl ?_
    refine w_aload_n (q := 13) hm147 ⟨⟨_, _, rfl⟩, rfl⟩ rfl ?_
    refine w_getf (q := 16) (v := (m.1 47 3)) hm147 ⟨⟨_, _, rfl⟩, rfl⟩ rfl rfl ?_
    refine w_iconst (q := 17) hm147 ⟨⟨_, _, rfl⟩, rfl⟩ iconst_0 ?_
    refine w_iload_n (q := 18) hm147 ⟨⟨_, _, rfl⟩, rfl⟩ rfl ?_
    refine w_call (q := 21) (n := 2) (vs := [.inr (.inr (some 2)), .inl x2, .inl (m.1 47 3), .inl (0 : Int32), .inl x3]) (rest := []) (la := [oR 2, oI x2, oI (m.1 47 3), oI (0 : Int32), oI x3, none, none]) hm147 ⟨⟨_, _, rfl⟩, rfl⟩ rfl rfl rfl rfl hm148 rfl rfl (fun hz => absurd hz (by decide)) rfl (Wp.mono h ?_)
    rintro _ m1 ⟨r1, rfl, h⟩
    change Wp _ _ 21 _ [.inl r1] _ _
    refine w_istore (q := 23) (l' := [oR 61, oR 47, oI x2, oI x3, oI r1]) hm147 ⟨⟨_, _, rfl⟩, rfl⟩ rfl rfl rfl ?_
    refine w_iload (q := 25) hm147 ⟨⟨_, _, rfl⟩, rfl⟩ rfl ?_
    refine w_iconst (q := 26) hm147 ⟨⟨_, _, rfl⟩, rfl⟩ iconst_m1 ?_
    refine w_icmp_eq (q := 29) (X := r1.toInt) (Y := (-1)) hm147 ⟨⟨_, _, rfl⟩, rfl⟩ rfl (by decide) (fun hc => ?_) (fun hc => ?_)
    · have h := h.1 hc
      refine w_iinc (q := 35) (l' := [oR 61, oR 47, oI x2, oI (x3 + (1 : Int32)), oI r1]) hm147 ⟨⟨_, _, rfl⟩, rfl⟩ rfl rfl rfl iconst_1 rfl ?_
      refine w_goto (q := 2) hm147 ⟨_, _, rfl⟩ ?_
      exact Wp.wk [true, true, true, true, false] h
    · have h := h.2 hc
      refine w_iload (q := 31) hm147 ⟨⟨_, _, rfl⟩, rfl⟩ rfl ?_
      exact w_reti hm147 ⟨⟨_, _, rfl⟩, rfl⟩ rfl h
theorem v_J6_bitCount {d : Nat} {x0 : Int32} {m : dM} {Q : Int32 → dM → Prop} (h : Q ((((((((x0 - ((x0.toUInt32 >>> ((1 : Int32).toUInt32 &&& Int32.toUInt32 31)).toInt32 &&& (1431655765 : Int32))) &&& (858993459 : Int32)) + (((x0 - ((x0.toUInt32 >>> ((1 : Int32).toUInt32 &&& Int32.toUInt32 31)).toInt32 &&& (1431655765 : Int32))).toUInt32 >>> ((2 : Int32).toUInt32 &&& Int32.toUInt32 31)).toInt32 &&& (858993459 : Int32))) + ((((x0 - ((x0.toUInt32 >>> ((1 : Int32).toUInt32 &&& Int32.toUInt32 31)).toInt32 &&& (1431655765 : Int32))) &&& (858993459 : Int32)) + (((x0 - ((x0.toUInt32 >>> ((1 : Int32).toUInt32 &&& Int32.toUInt32 31)).toInt32 &&& (1431655765 : Int32))).toUInt32 >>> ((2 : Int32).toUInt32 &&& Int32.toUInt32 31)).toInt32 &&& (858993459 : Int32))).toUInt32 >>> ((4 : Int32).toUInt32 &&& Int32.toUInt32 31)).toInt32) &&& (252645135 : Int32)) + ((((((x0 - ((x0.toUInt32 >>> ((1 : Int32).toUInt32 &&& Int32.toUInt32 31)).toInt32 &&& (1431655765 : Int32))) &&& (858993459 : Int32)) + (((x0 - ((x0.toUInt32 >>> ((1 : Int32).toUInt32 &&& Int32.toUInt32 31)).toInt32 &&& (1431655765 : Int32))).toUInt32 >>> ((2 : Int32).toUInt32 &&& Int32.toUInt32 31)).toInt32 &&& (858993459 : Int32))) + ((((x0 - ((x0.toUInt32 >>> ((1 : Int32).toUInt32 &&& Int32.toUInt32 31)).toInt32 &&& (1431655765 : Int32))) &&& (858993459 : Int32)) + (((x0 - ((x0.toUInt32 >>> ((1 : Int32).toUInt32 &&& Int32.toUInt32 31)).toInt32 &&& (1431655765 : Int32))).toUInt32 >>> ((2 : Int32).toUInt32 &&& Int32.toUInt32 31)).toInt32 &&& (858993459 : Int32))).toUInt32 >>> ((4 : Int32).toUInt32 &&& Int32.toUInt32 31)).toInt32) &&& (252645135 : Int32)).toUInt32 >>> ((8 : Int32).toUInt32 &&& Int32.toUInt32 31)).toInt32) + (((((((x0 - ((x0.toUInt32 >>> ((1 : Int32).toUInt32 &&& Int32.toUInt32 31)).toInt32 &&& (1431655765 : Int32))) &&& (858993459 : Int32)) + (((x0 - ((x0.toUInt32 >>> ((1 : Int32).toUInt32 &&& Int32.toUInt32 31)).toInt32 &&& (1431655765 : Int32))).toUInt32 >>> ((2 : Int32).toUInt32 &&& Int32.toUInt32 31)).toInt32 &&& (858993459 : Int32))) + ((((x0 - ((x0.toUInt32 >>> ((1 : Int32).toUInt32 &&& Int32.toUInt32 31)).toInt32 &&& (1431655765 : Int32))) &&& (858993459 : Int32)) + (((x0 - ((x0.toUInt32 >>> ((1 : Int32).toUInt32 &&& Int32.toUInt32 31)).toInt32 &&& (1431655765 : Int32))).toUInt32 >>> ((2 : Int32).toUInt32 &&& Int32.toUInt32 31)).toInt32 &&& (858993459 : Int32))).toUInt32 >>> ((4 : Int32).toUInt32 &&& Int32.toUInt32 31)).toInt32) &&& (252645135 : Int32)) + ((((((x0 - ((x0.toUInt32 >>> ((1 : Int32).toUInt32 &&& Int32.toUInt32 31)).toInt32 &&& (1431655765 : Int32))) &&& (858993459 : Int32)) + (((x0 - ((x0.toUInt32 >>> ((1 : Int32).toUInt32 &&& Int32.toUInt32 31)).toInt32 &&& (1431655765 : Int32))).toUInt32 >>> ((2 : Int32).toUInt32 &&& Int32.toUInt32 31)).toInt32 &&& (858993459 : Int32))) + ((((x0 - ((x0.toUInt32 >>> ((1 : Int32).toUInt32 &&& Int32.toUInt32 31)).toInt32 &&& (1431655765 : Int32))) &&& (858993459 : Int32)) + (((x0 - ((x0.toUInt32 >>> ((1 : Int32).toUInt32 &&& Int32.toUInt32 31)).toInt32 &&& (1431655765 : Int32))).toUInt32 >>> ((2 : Int32).toUInt32 &&& Int32.toUInt32 31)).toInt32 &&& (858993459 : Int32))).toUInt32 >>> ((4 : Int32).toUInt32 &&& Int32.toUInt32 31)).toInt32) &&& (252645135 : Int32)).toUInt32 >>> ((8 : Int32).toUInt32 &&& Int32.toUInt32 31)).toInt32).toUInt32 >>> ((16 : Int32).toUInt32 &&& Int32.toUInt32 31)).toInt32) &&& (63 : Int32)) m) : c_J6_bitCount (d + 1) x0 m Q := by
  refine w_iload_n (q := 1) hm285 ⟨⟨_, _, rfl⟩, rfl⟩ rfl ?_
  refine w_iload_n (q := 2) hm285 ⟨⟨_, _, rfl⟩, rfl⟩ rfl ?_
  refine w_iconst (q := 3) hm285 ⟨⟨_, _, rfl⟩, rfl⟩ iconst_1 ?_
  refine w_iushr (q := 4) hm285 ⟨⟨_, _, rfl⟩, rfl⟩ ?_
  refine w_ldc_w (q := 7) hm285 ⟨⟨_, _, rfl⟩, rfl⟩ ldc_1431655765 ?_
  refine w_iand (q := 8) hm285 ⟨⟨_, _, rfl⟩, rfl⟩ ?_
  refine w_isub (q := 9) hm285 ⟨⟨_, _, rfl⟩, rfl⟩ ?_
  refine w_istore_n (q := 10) (l' := [oI (x0 - ((x0.toUInt32 >>> ((1 : Int32).toUInt32 &&& Int32.toUInt32 31)).toInt32 &&& (1431655765 : Int32)))]) hm285 ⟨⟨_, _, rfl⟩, rfl⟩ rfl rfl rfl ?_
  refine w_iload_n (q := 11) hm285 ⟨⟨_, _, rfl⟩, rfl⟩ rfl ?_
  refine w_ldc_w (q := 14) hm285 ⟨⟨_, _, rfl⟩, rfl⟩ ldc_858993459 ?_
  refine w_iand (q := 15) hm285 ⟨⟨_, _, rfl⟩, rfl⟩ ?_
  refine w_iload_n (q := 16) hm285 ⟨⟨_, _, rfl⟩, rfl⟩ rfl ?_
  refine w_iconst (q := 17) hm285 ⟨⟨_, _, rfl⟩, rfl⟩ iconst_2 ?_
  refine w_iushr (q := 18) hm285 ⟨⟨_, _, rfl⟩, rfl⟩ ?_
  refine w_ldc_w (q := 21) hm285 ⟨⟨_, _, rfl⟩, rfl⟩ ldc_858993459 ?_
  refine w_iand (q := 22) hm285 ⟨⟨_, _, rfl⟩, rfl⟩ ?_
  refine w_iadd (q := 23) hm285 ⟨⟨_, _, rfl⟩, rfl⟩ ?_
  refine w_istore_n (q := 24) (l' := [oI (((x0 - ((x0.toUInt32 >>> ((1 : Int32).toUInt32 &&& Int32.toUInt32 31)).toInt32 &&& (1431655765 : Int32))) &&& (858993459 : Int32)) + (((x0 - ((x0.toUInt32 >>> ((1 : Int32).toUInt32 &&& Int32.toUInt32 31)).toInt32 &&& (1431655765 : Int32))).toUInt32 >>> ((2 : Int32).toUInt32 &&& Int32.toUInt32 31)).toInt32 &&& (858993459 : Int32)))]) hm285 ⟨⟨_, _, rfl⟩, rfl⟩ rfl rfl rfl ?_
  refine w_iload_n (q := 25) hm285 ⟨⟨_, _, rfl⟩, rfl⟩ rfl ?_
  refine w_iload_n (q := 26) hm285 ⟨⟨_, _, rfl⟩, rfl⟩ rfl ?_
  refine w_iconst (q := 27) hm285 ⟨⟨_, _, rfl⟩, rfl⟩ iconst_4 ?_
  refine w_iushr (q := 28) hm285 ⟨⟨_, _, rfl⟩, rfl⟩ ?_
  refine w_iadd (q := 29) hm285 ⟨⟨_, _, rfl⟩, rfl⟩ ?_
  refine w_ldc_w (q := 32) hm285 ⟨⟨_, _, rfl⟩, rfl⟩ ldc_252645135 ?_
  refine w_iand (q := 33) hm285 ⟨⟨_, _, rfl⟩, rfl⟩ ?_
  refine w_istore_n (q := 34) (l' := [oI (((((x0 - ((x0.toUInt32 >>> ((1 : Int32).toUInt32 &&& Int32.toUInt32 31)).toInt32 &&& (1431655765 : Int32))) &&& (858993459 : Int32)) + (((x0 - ((x0.toUInt32 >>> ((1 : Int32).toUInt32 &&& Int32.toUInt32 31)).toInt32 &&& (1431655765 : Int32))).toUInt32 >>> ((2 : Int32).toUInt32 &&& Int32.toUInt32 31)).toInt32 &&& (858993459 : Int32))) + ((((x0 - ((x0.toUInt32 >>> ((1 : Int32).toUInt32 &&& Int32.toUInt32 31)).toInt32 &&& (1431655765 : Int32))) &&& (858993459 : Int32)) + (((x0 - ((x0.toUInt32 >>> ((1 : Int32).toUInt32 &&& Int32.toUInt32 31)).toInt32 &&& (1431655765 : Int32))).toUInt32 >>> ((2 : Int32).toUInt32 &&& Int32.toUInt32 31)).toInt32 &&& (858993459 : Int32))).toUInt32 >>> ((4 : Int32).toUInt32 &&& Int32.toUInt32 31)).toInt32) &&& (252645135 : Int32))]) hm285 ⟨⟨_, _, rfl⟩, rfl⟩ rfl rfl rfl ?_
  refine w_iload_n (q := 35) hm285 ⟨⟨_, _, rfl⟩, rfl⟩ rfl ?_
  refine w_iload_n (q := 36) hm285 ⟨⟨_, _, rfl⟩, rfl⟩ rfl ?_
  refine w_bipush (q := 38) hm285 ⟨⟨_, _, rfl⟩, rfl⟩ bipush_8 ?_
  refine w_iushr (q := 39) hm285 ⟨⟨_, _, rfl⟩, rfl⟩ ?_
  refine w_iadd (q := 40) hm285 ⟨⟨_, _, rfl⟩, rfl⟩ ?_
  refine w_istore_n (q := 41) (l' := [oI ((((((x0 - ((x0.toUInt32 >>> ((1 : Int32).toUInt32 &&& Int32.toUInt32 31)).toInt32 &&& (1431655765 : Int32))) &&& (858993459 : Int32)) + (((x0 - ((x0.toUInt32 >>> ((1 : Int32).toUInt32 &&& Int32.toUInt32 31)).toInt32 &&& (1431655765 : Int32))).toUInt32 >>> ((2 : Int32).toUInt32 &&& Int32.toUInt32 31)).toInt32 &&& (858993459 : Int32))) + ((((x0 - ((x0.toUInt32 >>> ((1 : Int32).toUInt32 &&& Int32.toUInt32 31)).toInt32 &&& (1431655765 : Int32))) &&& (858993459 : Int32)) + (((x0 - ((x0.toUInt32 >>> ((1 : Int32).toUInt32 &&& Int32.toUInt32 31)).toInt32 &&& (1431655765 : Int32))).toUInt32 >>> ((2 : Int32).toUInt32 &&& Int32.toUInt32 31)).toInt32 &&& (858993459 : Int32))).toUInt32 >>> ((4 : Int32).toUInt32 &&& Int32.toUInt32 31)).toInt32) &&& (252645135 : Int32)) + ((((((x0 - ((x0.toUInt32 >>> ((1 : Int32).toUInt32 &&& Int32.toUInt32 31)).toInt32 &&& (1431655765 : Int32))) &&& (858993459 : Int32)) + (((x0 - ((x0.toUInt32 >>> ((1 : Int32).toUInt32 &&& Int32.toUInt32 31)).toInt32 &&& (1431655765 : Int32))).toUInt32 >>> ((2 : Int32).toUInt32 &&& Int32.toUInt32 31)).toInt32 &&& (858993459 : Int32))) + ((((x0 - ((x0.toUInt32 >>> ((1 : Int32).toUInt32 &&& Int32.toUInt32 31)).toInt32 &&& (1431655765 : Int32))) &&& (858993459 : Int32)) + (((x0 - ((x0.toUInt32 >>> ((1 : Int32).toUInt32 &&& Int32.toUInt32 31)).toInt32 &&& (1431655765 : Int32))).toUInt32 >>> ((2 : Int32).toUInt32 &&& Int32.toUInt32 31)).toInt32 &&& (858993459 : Int32))).toUInt32 >>> ((4 : Int32).toUInt32 &&& Int32.toUInt32 31)).toInt32) &&& (252645135 : Int32)).toUInt32 >>> ((8 : Int32).toUInt32 &&& Int32.toUInt32 31)).toInt32)]) hm285 ⟨⟨_, _, rfl⟩, rfl⟩ rfl rfl rfl ?_
  refine w_iload_n (q := 42) hm285 ⟨⟨_, _, rfl⟩, rfl⟩ rfl ?_
  refine w_iload_n (q := 43) hm285 ⟨⟨_, _, rfl⟩, rfl⟩ rfl ?_
  refine w_bipush (q := 45) hm285 ⟨⟨_, _, rfl⟩, rfl⟩ bipush_16 ?_
  refine w_iushr (q := 46) hm285 ⟨⟨_, _, rfl⟩, rfl⟩ ?_
  refine w_iadd (q := 47) hm285 ⟨⟨_, _, rfl⟩, rfl⟩ ?_
  refine w_istore_n (q := 48) (l' := [oI (((((((x0 - ((x0.toUInt32 >>> ((1 : Int32).toUInt32 &&& Int32.toUInt32 31)).toInt32 &&& (1431655765 : Int32))) &&& (858993459 : Int32)) + (((x0 - ((x0.toUInt32 >>> ((1 : Int32).toUInt32 &&& Int32.toUInt32 31)).toInt32 &&& (1431655765 : Int32))).toUInt32 >>> ((2 : Int32).toUInt32 &&& Int32.toUInt32 31)).toInt32 &&& (858993459 : Int32))) + ((((x0 - ((x0.toUInt32 >>> ((1 : Int32).toUInt32 &&& Int32.toUInt32 31)).toInt32 &&& (1431655765 : Int32))) &&& (858993459 : Int32)) + (((x0 - ((x0.toUInt32 >>> ((1 : Int32).toUInt32 &&& Int32.toUInt32 31)).toInt32 &&& (1431655765 : Int32))).toUInt32 >>> ((2 : Int32).toUInt32 &&& Int32.toUInt32 31)).toInt32 &&& (858993459 : Int32))).toUInt32 >>> ((4 : Int32).toUInt32 &&& Int32.toUInt32 31)).toInt32) &&& (252645135 : Int32)) + ((((((x0 - ((x0.toUInt32 >>> ((1 : Int32).toUInt32 &&& Int32.toUInt32 31)).toInt32 &&& (1431655765 : Int32))) &&& (858993459 : Int32)) + (((x0 - ((x0.toUInt32 >>> ((1 : Int32).toUInt32 &&& Int32.toUInt32 31)).toInt32 &&& (1431655765 : Int32))).toUInt32 >>> ((2 : Int32).toUInt32 &&& Int32.toUInt32 31)).toInt32 &&& (858993459 : Int32))) + ((((x0 - ((x0.toUInt32 >>> ((1 : Int32).toUInt32 &&& Int32.toUInt32 31)).toInt32 &&& (1431655765 : Int32))) &&& (858993459 : Int32)) + (((x0 - ((x0.toUInt32 >>> ((1 : Int32).toUInt32 &&& Int32.toUInt32 31)).toInt32 &&& (1431655765 : Int32))).toUInt32 >>> ((2 : Int32).toUInt32 &&& Int32.toUInt32 31)).toInt32 &&& (858993459 : Int32))).toUInt32 >>> ((4 : Int32).toUInt32 &&& Int32.toUInt32 31)).toInt32) &&& (252645135 : Int32)).toUInt32 >>> ((8 : Int32).toUInt32 &&& Int32.toUInt32 31)).toInt32) + (((((((x0 - ((x0.toUInt32 >>> ((1 : Int32).toUInt32 &&& Int32.toUInt32 31)).toInt32 &&& (1431655765 : Int32))) &&& (858993459 : Int32)) + (((x0 - ((x0.toUInt32 >>> ((1 : Int32).toUInt32 &&& Int32.toUInt32 31)).toInt32 &&& (1431655765 : Int32))).toUInt32 >>> ((2 : Int32).toUInt32 &&& Int32.toUInt32 31)).toInt32 &&& (858993459 : Int32))) + ((((x0 - ((x0.toUInt32 >>> ((1 : Int32).toUInt32 &&& Int32.toUInt32 31)).toInt32 &&& (1431655765 : Int32))) &&& (858993459 : Int32)) + (((x0 - ((x0.toUInt32 >>> ((1 : Int32).toUInt32 &&& Int32.toUInt32 31)).toInt32 &&& (1431655765 : Int32))).toUInt32 >>> ((2 : Int32).toUInt32 &&& Int32.toUInt32 31)).toInt32 &&& (858993459 : Int32))).toUInt32 >>> ((4 : Int32).toUInt32 &&& Int32.toUInt32 31)).toInt32) &&& (252645135 : Int32)) + ((((((x0 - ((x0.toUInt32 >>> ((1 : Int32).toUInt32 &&& Int32.toUInt32 31)).toInt32 &&& (1431655765 : Int32))) &&& (858993459 : Int32)) + (((x0 - ((x0.toUInt32 >>> ((1 : Int32).toUInt32 &&& Int32.toUInt32 31)).toInt32 &&& (1431655765 : Int32))).toUInt32 >>> ((2 : Int32).toUInt32 &&& Int32.toUInt32 31)).toInt32 &&& (858993459 : Int32))) + ((((x0 - ((x0.toUInt32 >>> ((1 : Int32).toUInt32 &&& Int32.toUInt32 31)).toInt32 &&& (1431655765 : Int32))) &&& (858993459 : Int32)) + (((x0 - ((x0.toUInt32 >>> ((1 : Int32).toUInt32 &&& Int32.toUInt32 31)).toInt32 &&& (1431655765 : Int32))).toUInt32 >>> ((2 : Int32).toUInt32 &&& Int32.toUInt32 31)).toInt32 &&& (858993459 : Int32))).toUInt32 >>> ((4 : Int32).toUInt32 &&& Int32.toUInt32 31)).toInt32) &&& (252645135 : Int32)).toUInt32 >>> ((8 : Int32).toUInt32 &&& Int32.toUInt32 31)).toInt32).toUInt32 >>> ((16 : Int32).toUInt32 &&& Int32.toUInt32 31)).toInt32)]) hm285 ⟨⟨_, _, rfl⟩, rfl⟩ rfl rfl rfl ?_
  refine w_iload_n (q := 49) hm285 ⟨⟨_, _, rfl⟩, rfl⟩ rfl ?_
  refine w_bipush (q := 51) hm285 ⟨⟨_, _, rfl⟩, rfl⟩ bipush_63 ?_
  refine w_iand (q := 52) hm285 ⟨⟨_, _, rfl⟩, rfl⟩ ?_
  exact w_reti hm285 ⟨⟨_, _, rfl⟩, rfl⟩ rfl h
end
section
theorem v_X11_cut_0 {d : Nat} {x1 : Int32} {x2 : Int32} {m : dM} {Q : Int32 → dM → Prop} (h : c_X11_isFlat_0 d x1 m (fun r1 m1 => ((r1.toInt = 0 → j_X11_cut_0_18 (d + 1) m1 Q) ∧ (r1.toInt ≠ 0 → ((x2.toInt < (-1) → j_X11_cut_0_18 (d + 1) m1 Q) ∧ ((-1) ≤ x2.toInt → ((x2.toInt < 3 → c_X1_leastCut_61_47 d x1 m1 (fun r2 m2 => ((0 ≤ r2.toInt → ((x2.toInt ≠ (-1) → c_X11_bitAt d r2 x2 m2 (fun r3 m3 => Q r3 m3)) ∧ (x2.toInt = (-1) → c_J6_bitCount d r2 m2 (fun r4 m4 => Q r4 m4)))) ∧ (r2.toInt < 0 → Q (-2 : Int32) m2)))) ∧ (3 ≤ x2.toInt → j_X11_cut_0_18 (d + 1) m1 Q)))))))) : c_X11_cut_0 (d + 1) x1 x2 m Q := by
  refine w_aload_n (q := 1) hm266 ⟨⟨_, _, rfl⟩, rfl⟩ rfl ?_
  refine w_iload_n (q := 2) hm266 ⟨⟨_, _, rfl⟩, rfl⟩ rfl ?_
  refine w_call (q := 5) (n := 0) (vs := [.inr (.inr (some 0)), .inl x1]) (rest := []) (la := [oR 0, oI x1]) hm266 ⟨⟨_, _, rfl⟩, rfl⟩ rfl rfl rfl rfl hm248 rfl rfl (fun _ => ⟨_, _, rfl, rfl⟩) rfl (Wp.mono h ?_)
  rintro _ m1 ⟨r1, rfl, h⟩
  change Wp _ _ 5 _ [.inl r1] _ _
  refine w_if_eq (q := 8) (X := r1.toInt) hm266 ⟨⟨_, _, rfl⟩, rfl⟩ rfl (fun hc => ?_) (fun hc => ?_)
  · have h := h.1 hc
    exact Wp.wk [false, false, false, false] h
  · have h := h.2 hc
    refine w_iload_n (q := 9) hm266 ⟨⟨_, _, rfl⟩, rfl⟩ rfl ?_
    refine w_iconst (q := 10) hm266 ⟨⟨_, _, rfl⟩, rfl⟩ iconst_m1 ?_
    refine w_icmp_lt (q := 13) (X := x2.toInt) (Y := (-1)) hm266 ⟨⟨_, _, rfl⟩, rfl⟩ rfl (by decide) (fun hc => ?_) (fun hc => ?_)
    · have h := h.1 hc
      exact Wp.wk [false, false, false, false] h
    · have h := h.2 hc
      refine w_iload_n (q := 14) hm266 ⟨⟨_, _, rfl⟩, rfl⟩ rfl ?_
      refine w_iconst (q := 15) hm266 ⟨⟨_, _, rfl⟩, rfl⟩ iconst_3 ?_
      refine w_icmp_lt (q := 18) (X := x2.toInt) (Y := 3) hm266 ⟨⟨_, _, rfl⟩, rfl⟩ rfl (by decide) (fun hc => ?_) (fun hc => ?_)
      · have h := h.1 hc
        refine w_aload_n (q := 21) hm266 ⟨⟨_, _, rfl⟩, rfl⟩ rfl ?_
        refine w_getr (q := 24) hm266 ⟨⟨_, _, rfl⟩, rfl⟩ rfl ?_
        refine w_aload_n (q := 25) hm266 ⟨⟨_, _, rfl⟩, rfl⟩ rfl ?_
        refine w_getr (q := 28) hm266 ⟨⟨_, _, rfl⟩, rfl⟩ rfl ?_
        refine w_iload_n (q := 29) hm266 ⟨⟨_, _, rfl⟩, rfl⟩ rfl ?_
        refine w_call (q := 32) (n := 2) (vs := [.inr (.inr (some 61)), .inr (.inr (some 47)), .inl x1]) (rest := []) (la := [oR 61, oR 47, oI x1, none, none]) hm266 ⟨⟨_, _, rfl⟩, rfl⟩ rfl rfl rfl rfl hm147 rfl rfl (fun _ => ⟨_, _, rfl, rfl⟩) rfl (Wp.mono h ?_)
        rintro _ m2 ⟨r2, rfl, h⟩
        change Wp _ _ 32 _ [.inl r2] _ _
        refine w_istore_n (q := 33) (l' := [oR 0, oI x1, oI x2, oI r2]) hm266 ⟨⟨_, _, rfl⟩, rfl⟩ rfl rfl rfl ?_
        refine w_iload_n (q := 34) hm266 ⟨⟨_, _, rfl⟩, rfl⟩ rfl ?_
        refine w_if_ge (q := 37) (X := r2.toInt) hm266 ⟨⟨_, _, rfl⟩, rfl⟩ rfl (fun hc => ?_) (fun hc => ?_)
        · have h := h.1 hc
          refine w_iload_n (q := 41) hm266 ⟨⟨_, _, rfl⟩, rfl⟩ rfl ?_
          refine w_iconst (q := 42) hm266 ⟨⟨_, _, rfl⟩, rfl⟩ iconst_m1 ?_
          refine w_icmp_ne (q := 45) (X := x2.toInt) (Y := (-1)) hm266 ⟨⟨_, _, rfl⟩, rfl⟩ rfl (by decide) (fun hc => ?_) (fun hc => ?_)
          · have h := h.1 hc
            refine w_iload_n (q := 53) hm266 ⟨⟨_, _, rfl⟩, rfl⟩ rfl ?_
            refine w_iload_n (q := 54) hm266 ⟨⟨_, _, rfl⟩, rfl⟩ rfl ?_
            refine w_call (q := 57) (n := 2) (vs := [.inl r2, .inl x2]) (rest := []) (la := [oI r2, oI x2, none, none]) hm266 ⟨⟨_, _, rfl⟩, rfl⟩ rfl rfl rfl rfl hm284 rfl rfl (fun hz => absurd hz (by decide)) rfl (Wp.mono h ?_)
            rintro _ m3 ⟨r3, rfl, h⟩
            change Wp _ _ 57 _ [.inl r3] _ _
            exact w_reti hm266 ⟨⟨_, _, rfl⟩, rfl⟩ rfl h
          · have h := h.2 hc
            refine w_iload_n (q := 46) hm266 ⟨⟨_, _, rfl⟩, rfl⟩ rfl ?_
            refine w_call (q := 49) (n := 0) (vs := [.inl r2]) (rest := []) (la := [oI r2]) hm266 ⟨⟨_, _, rfl⟩, rfl⟩ rfl rfl rfl rfl hm285 rfl rfl (fun hz => absurd hz (by decide)) rfl (Wp.mono h ?_)
            rintro _ m4 ⟨r4, rfl, h⟩
            change Wp _ _ 49 _ [.inl r4] _ _
            refine w_goto (q := 57) hm266 ⟨_, _, rfl⟩ ?_
            exact w_reti hm266 ⟨⟨_, _, rfl⟩, rfl⟩ rfl h
        · have h := h.2 hc
          refine w_bipush (q := 39) hm266 ⟨⟨_, _, rfl⟩, rfl⟩ bipush_m2 ?_
          exact w_reti hm266 ⟨⟨_, _, rfl⟩, rfl⟩ rfl h
      · have h := h.2 hc
        exact Wp.wk [false, false, false, false] h
theorem v_X11_cut_0_18 {d : Nat} {m : dM} {Q : Int32 → dM → Prop} (h : Q (-1 : Int32) m) : j_X11_cut_0_18 (d + 1) m Q := by
  refine w_iconst (q := 19) hm266 ⟨⟨_, _, rfl⟩, rfl⟩ iconst_m1 ?_
  exact w_reti hm266 ⟨⟨_, _, rfl⟩, rfl⟩ rfl h
theorem v_X12_goneBits_70 {d : Nat} {m : dM} {Q : Int32 → dM → Prop} (h : j_X12_goneBits_70_4 (d + 1) (0 : Int32) (0 : Int32) m Q) : c_X12_goneBits_70 (d + 1) m Q := by
  refine w_iconst (q := 1) hm93 ⟨⟨_, _, rfl⟩, rfl⟩ iconst_0 ?_
  refine w_istore_n (q := 2) (l' := [oR 70, oI (0 : Int32), none]) hm93 ⟨⟨_, _, rfl⟩, rfl⟩ rfl rfl rfl ?_
  refine w_iconst (q := 3) hm93 ⟨⟨_, _, rfl⟩, rfl⟩ iconst_0 ?_
  refine w_istore_n (q := 4) (l' := [oR 70, oI (0 : Int32), oI (0 : Int32)]) hm93 ⟨⟨_, _, rfl⟩, rfl⟩ rfl rfl rfl ?_
  exact h
theorem v_X12_goneBits_70_4 {d : Nat} {x1 : Int32} {x2 : Int32} {m : dM} {Q : Int32 → dM → Prop} (h : ((0 ≤ (m.1 70 18).toInt ∧ (m.1 70 18).toInt < 2) ∧ (((m.1 82 (m.1 70 18).toNatClampNeg).toInt ≤ x2.toInt → Q x1 m) ∧ (x2.toInt < (m.1 82 (m.1 70 18).toNatClampNeg).toInt → ((0 ≤ ((10 : Int32) + x2).toInt ∧ ((10 : Int32) + x2).toInt < 58) ∧ (((m.1 107 ((10 : Int32) + x2).toNatClampNeg).toInt ≠ 1 → j_X12_goneBits_70_36 (d + 1) x1 x2 m Q) ∧ ((m.1 107 ((10 : Int32) + x2).toNatClampNeg).toInt = 1 → j_X12_goneBits_70_36 (d + 1) (x1 ||| ((1 : Int32) <<< (x2 &&& 31))) x2 m Q))))))) : j_X12_goneBits_70_4 (d + 1) x1 x2 m Q := by
  refine w_iload_n (q := 5) hm93 ⟨⟨_, _, rfl⟩, rfl⟩ rfl ?_
  refine w_aload_n (q := 6) hm93 ⟨⟨_, _, rfl⟩, rfl⟩ rfl ?_
  refine w_getr (q := 9) hm93 ⟨⟨_, _, rfl⟩, rfl⟩ rfl ?_
  refine w_aload_n (q := 10) hm93 ⟨⟨_, _, rfl⟩, rfl⟩ rfl ?_
  refine w_getf (q := 13) (v := (m.1 70 18)) hm93 ⟨⟨_, _, rfl⟩, rfl⟩ rfl rfl ?_
  obtain ⟨hi, h⟩ := h
  refine w_iald (q := 14) (v := (m.1 82 (m.1 70 18).toNatClampNeg)) hm93 ⟨⟨_, _, rfl⟩, rfl⟩ rfl hi rfl rfl ?_
  refine w_icmp_ge (q := 17) (X := x2.toInt) (Y := (m.1 82 (m.1 70 18).toNatClampNeg).toInt) hm93 ⟨⟨_, _, rfl⟩, rfl⟩ rfl rfl (fun hc => ?_) (fun hc => ?_)
  · have h := h.1 hc
    refine w_iload_n (q := 43) hm93 ⟨⟨_, _, rfl⟩, rfl⟩ rfl ?_
    exact w_reti hm93 ⟨⟨_, _, rfl⟩, rfl⟩ rfl h
  · have h := h.2 hc
    refine w_aload_n (q := 18) hm93 ⟨⟨_, _, rfl⟩, rfl⟩ rfl ?_
    refine w_getr (q := 21) hm93 ⟨⟨_, _, rfl⟩, rfl⟩ rfl ?_
    refine w_bipush (q := 23) hm93 ⟨⟨_, _, rfl⟩, rfl⟩ bipush_10 ?_
    refine w_iload_n (q := 24) hm93 ⟨⟨_, _, rfl⟩, rfl⟩ rfl ?_
    refine w_iadd (q := 25) hm93 ⟨⟨_, _, rfl⟩, rfl⟩ ?_
    obtain ⟨hi, h⟩ := h
    refine w_iald (q := 26) (v := (m.1 107 ((10 : Int32) + x2).toNatClampNeg)) hm93 ⟨⟨_, _, rfl⟩, rfl⟩ rfl hi rfl rfl ?_
    refine w_iconst (q := 27) hm93 ⟨⟨_, _, rfl⟩, rfl⟩ iconst_1 ?_
    refine w_icmp_ne (q := 30) (X := (m.1 107 ((10 : Int32) + x2).toNatClampNeg).toInt) (Y := 1) hm93 ⟨⟨_, _, rfl⟩, rfl⟩ rfl (by decide) (fun hc => ?_) (fun hc => ?_)
    · have h := h.1 hc
      exact h
    · have h := h.2 hc
      refine w_iload_n (q := 31) hm93 ⟨⟨_, _, rfl⟩, rfl⟩ rfl ?_
      refine w_iconst (q := 32) hm93 ⟨⟨_, _, rfl⟩, rfl⟩ iconst_1 ?_
      refine w_iload_n (q := 33) hm93 ⟨⟨_, _, rfl⟩, rfl⟩ rfl ?_
      refine w_ishl (q := 34) hm93 ⟨⟨_, _, rfl⟩, rfl⟩ ?_
      refine w_ior (q := 35) hm93 ⟨⟨_, _, rfl⟩, rfl⟩ ?_
      refine w_istore_n (q := 36) (l' := [oR 70, oI (x1 ||| ((1 : Int32) <<< (x2 &&& 31))), oI x2]) hm93 ⟨⟨_, _, rfl⟩, rfl⟩ rfl rfl rfl ?_
      exact h
theorem v_X12_goneBits_70_36 {d : Nat} {x1 : Int32} {x2 : Int32} {m : dM} {Q : Int32 → dM → Prop} (h : j_X12_goneBits_70_4 (d + 1) x1 (x2 + (1 : Int32)) m Q) : j_X12_goneBits_70_36 (d + 1) x1 x2 m Q := by
  refine w_iinc (q := 39) (l' := [oR 70, oI x1, oI (x2 + (1 : Int32))]) hm93 ⟨⟨_, _, rfl⟩, rfl⟩ rfl rfl rfl iconst_1 rfl ?_
  refine w_goto (q := 4) hm93 ⟨_, _, rfl⟩ ?_
  exact h
theorem v_X12_ithOf {d : Nat} {x0 : Int32} {x1 : Int32} {m : dM} {Q : Int32 → dM → Prop} (h : j_X12_ithOf_4 (d + 1) x0 x1 (0 : Int32) (0 : Int32) m Q) : c_X12_ithOf (d + 1) x0 x1 m Q := by
  refine w_iconst (q := 1) hm94 ⟨⟨_, _, rfl⟩, rfl⟩ iconst_0 ?_
  refine w_istore_n (q := 2) (l' := [oI x0, oI x1, oI (0 : Int32), none]) hm94 ⟨⟨_, _, rfl⟩, rfl⟩ rfl rfl rfl ?_
  refine w_iconst (q := 3) hm94 ⟨⟨_, _, rfl⟩, rfl⟩ iconst_0 ?_
  refine w_istore_n (q := 4) (l' := [oI x0, oI x1, oI (0 : Int32), oI (0 : Int32)]) hm94 ⟨⟨_, _, rfl⟩, rfl⟩ rfl rfl rfl ?_
  exact h
theorem v_X12_ithOf_4 {d : Nat} {x0 : Int32} {x1 : Int32} {x2 : Int32} {x3 : Int32} {m : dM} {Q : Int32 → dM → Prop} (h : ((10 ≤ x3.toInt → Q (-1 : Int32) m) ∧ (x3.toInt < 10 → ((((x0 >>> (x3 &&& 31)) &&& (1 : Int32)).toInt ≠ 0 → ((x2.toInt ≠ x1.toInt → j_X12_ithOf_31 (d + 1) x0 x1 (x2 + (1 : Int32)) x3 m Q) ∧ (x2.toInt = x1.toInt → Q x3 m))) ∧ (((x0 >>> (x3 &&& 31)) &&& (1 : Int32)).toInt = 0 → j_X12_ithOf_31 (d + 1) x0 x1 x2 x3 m Q))))) : j_X12_ithOf_4 (d + 1) x0 x1 x2 x3 m Q := by
  refine w_iload_n (q := 5) hm94 ⟨⟨_, _, rfl⟩, rfl⟩ rfl ?_
  refine w_bipush (q := 7) hm94 ⟨⟨_, _, rfl⟩, rfl⟩ bipush_10 ?_
  refine w_icmp_ge (q := 10) (X := x3.toInt) (Y := 10) hm94 ⟨⟨_, _, rfl⟩, rfl⟩ rfl (by decide) (fun hc => ?_) (fun hc => ?_)
  · have h := h.1 hc
    refine w_iconst (q := 38) hm94 ⟨⟨_, _, rfl⟩, rfl⟩ iconst_m1 ?_
    exact w_reti hm94 ⟨⟨_, _, rfl⟩, rfl⟩ rfl h
  · have h := h.2 hc
    refine w_iload_n (q := 11) hm94 ⟨⟨_, _, rfl⟩, rfl⟩ rfl ?_
    refine w_iload_n (q := 12) hm94 ⟨⟨_, _, rfl⟩, rfl⟩ rfl ?_
    refine w_ishr (q := 13) hm94 ⟨⟨_, _, rfl⟩, rfl⟩ ?_
    refine w_iconst (q := 14) hm94 ⟨⟨_, _, rfl⟩, rfl⟩ iconst_1 ?_
    refine w_iand (q := 15) hm94 ⟨⟨_, _, rfl⟩, rfl⟩ ?_
    refine w_if_ne (q := 18) (X := ((x0 >>> (x3 &&& 31)) &&& (1 : Int32)).toInt) hm94 ⟨⟨_, _, rfl⟩, rfl⟩ rfl (fun hc => ?_) (fun hc => ?_)
    · have h := h.1 hc
      refine w_iload_n (q := 22) hm94 ⟨⟨_, _, rfl⟩, rfl⟩ rfl ?_
      refine w_iload_n (q := 23) hm94 ⟨⟨_, _, rfl⟩, rfl⟩ rfl ?_
      refine w_icmp_ne (q := 26) (X := x2.toInt) (Y := x1.toInt) hm94 ⟨⟨_, _, rfl⟩, rfl⟩ rfl rfl (fun hc => ?_) (fun hc => ?_)
      · have h := h.1 hc
        refine w_iinc (q := 31) (l' := [oI x0, oI x1, oI (x2 + (1 : Int32)), oI x3]) hm94 ⟨⟨_, _, rfl⟩, rfl⟩ rfl rfl rfl iconst_1 rfl ?_
        exact h
      · have h := h.2 hc
        refine w_iload_n (q := 27) hm94 ⟨⟨_, _, rfl⟩, rfl⟩ rfl ?_
        exact w_reti hm94 ⟨⟨_, _, rfl⟩, rfl⟩ rfl h
    · have h := h.2 hc
      refine w_goto (q := 31) hm94 ⟨_, _, rfl⟩ ?_
      exact h
theorem v_X12_ithOf_31 {d : Nat} {x0 : Int32} {x1 : Int32} {x2 : Int32} {x3 : Int32} {m : dM} {Q : Int32 → dM → Prop} (h : j_X12_ithOf_4 (d + 1) x0 x1 x2 (x3 + (1 : Int32)) m Q) : j_X12_ithOf_31 (d + 1) x0 x1 x2 x3 m Q := by
  refine w_iinc (q := 34) (l' := [oI x0, oI x1, oI x2, oI (x3 + (1 : Int32))]) hm94 ⟨⟨_, _, rfl⟩, rfl⟩ rfl rfl rfl iconst_1 rfl ?_
  refine w_goto (q := 4) hm94 ⟨_, _, rfl⟩ ?_
  exact h
theorem v_X12_bits {d : Nat} {x0 : Int32} {m : dM} {Q : Int32 → dM → Prop} (h : j_X12_bits_4 (d + 1) x0 (0 : Int32) (0 : Int32) m Q) : c_X12_bits (d + 1) x0 m Q := by
  refine w_iconst (q := 1) hm38 ⟨⟨_, _, rfl⟩, rfl⟩ iconst_0 ?_
  refine w_istore_n (q := 2) (l' := [oI x0, oI (0 : Int32), none]) hm38 ⟨⟨_, _, rfl⟩, rfl⟩ rfl rfl rfl ?_
  refine w_iconst (q := 3) hm38 ⟨⟨_, _, rfl⟩, rfl⟩ iconst_0 ?_
  refine w_istore_n (q := 4) (l' := [oI x0, oI (0 : Int32), oI (0 : Int32)]) hm38 ⟨⟨_, _, rfl⟩, rfl⟩ rfl rfl rfl ?_
  exact h
theorem v_X12_bits_4 {d : Nat} {x0 : Int32} {x1 : Int32} {x2 : Int32} {m : dM} {Q : Int32 → dM → Prop} (h : ((10 ≤ x2.toInt → Q x1 m) ∧ (x2.toInt < 10 → j_X12_bits_4 (d + 1) x0 (x1 + ((x0 >>> (x2 &&& 31)) &&& (1 : Int32))) (x2 + (1 : Int32)) m Q))) : j_X12_bits_4 (d + 1) x0 x1 x2 m Q := by
  refine w_iload_n (q := 5) hm38 ⟨⟨_, _, rfl⟩, rfl⟩ rfl ?_
  refine w_bipush (q := 7) hm38 ⟨⟨_, _, rfl⟩, rfl⟩ bipush_10 ?_
  refine w_icmp_ge (q := 10) (X := x2.toInt) (Y := 10) hm38 ⟨⟨_, _, rfl⟩, rfl⟩ rfl (by decide) (fun hc => ?_) (fun hc => ?_)
  · have h := h.1 hc
    refine w_iload_n (q := 25) hm38 ⟨⟨_, _, rfl⟩, rfl⟩ rfl ?_
    exact w_reti hm38 ⟨⟨_, _, rfl⟩, rfl⟩ rfl h
  · have h := h.2 hc
    refine w_iload_n (q := 11) hm38 ⟨⟨_, _, rfl⟩, rfl⟩ rfl ?_
    refine w_iload_n (q := 12) hm38 ⟨⟨_, _, rfl⟩, rfl⟩ rfl ?_
    refine w_iload_n (q := 13) hm38 ⟨⟨_, _, rfl⟩, rfl⟩ rfl ?_
    refine w_ishr (q := 14) hm38 ⟨⟨_, _, rfl⟩, rfl⟩ ?_
    refine w_iconst (q := 15) hm38 ⟨⟨_, _, rfl⟩, rfl⟩ iconst_1 ?_
    refine w_iand (q := 16) hm38 ⟨⟨_, _, rfl⟩, rfl⟩ ?_
    refine w_iadd (q := 17) hm38 ⟨⟨_, _, rfl⟩, rfl⟩ ?_
    refine w_istore_n (q := 18) (l' := [oI x0, oI (x1 + ((x0 >>> (x2 &&& 31)) &&& (1 : Int32))), oI x2]) hm38 ⟨⟨_, _, rfl⟩, rfl⟩ rfl rfl rfl ?_
    refine w_iinc (q := 21) (l' := [oI x0, oI (x1 + ((x0 >>> (x2 &&& 31)) &&& (1 : Int32))), oI (x2 + (1 : Int32))]) hm38 ⟨⟨_, _, rfl⟩, rfl⟩ rfl rfl rfl iconst_1 rfl ?_
    refine w_goto (q := 4) hm38 ⟨_, _, rfl⟩ ?_
    exact h
theorem v_X12_isEarlier {d : Nat} {x0 : Int32} {x1 : Int32} {m : dM} {Q : Int32 → dM → Prop} (h : j_X12_isEarlier_2 (d + 1) x0 x1 (0 : Int32) m Q) : c_X12_isEarlier (d + 1) x0 x1 m Q := by
  refine w_iconst (q := 1) hm95 ⟨⟨_, _, rfl⟩, rfl⟩ iconst_0 ?_
  refine w_istore_n (q := 2) (l' := [oI x0, oI x1, oI (0 : Int32)]) hm95 ⟨⟨_, _, rfl⟩, rfl⟩ rfl rfl rfl ?_
  exact h
theorem v_X12_isEarlier_2 {d : Nat} {x0 : Int32} {x1 : Int32} {x2 : Int32} {m : dM} {Q : Int32 → dM → Prop} (h : ((3 ≤ x2.toInt → Q (0 : Int32) m) ∧ (x2.toInt < 3 → c_X12_ithOf d x0 x2 m (fun r1 m1 => c_X12_ithOf d x1 x2 m1 (fun r2 m2 => ((r1.toInt = r2.toInt → j_X12_isEarlier_2 (d + 1) x0 x1 (x2 + (1 : Int32)) m2 Q) ∧ (r1.toInt ≠ r2.toInt → c_X12_ithOf d x0 x2 m2 (fun r3 m3 => c_X12_ithOf d x1 x2 m3 (fun r4 m4 => ((r4.toInt ≤ r3.toInt → Q (0 : Int32) m4) ∧ (r3.toInt < r4.toInt → Q (1 : Int32) m4))))))))))) : j_X12_isEarlier_2 (d + 1) x0 x1 x2 m Q := by
  refine w_iload_n (q := 3) hm95 ⟨⟨_, _, rfl⟩, rfl⟩ rfl ?_
  refine w_iconst (q := 4) hm95 ⟨⟨_, _, rfl⟩, rfl⟩ iconst_3 ?_
  refine w_icmp_ge (q := 7) (X := x2.toInt) (Y := 3) hm95 ⟨⟨_, _, rfl⟩, rfl⟩ rfl (by decide) (fun hc => ?_) (fun hc => ?_)
  · have h := h.1 hc
    refine w_iconst (q := 46) hm95 ⟨⟨_, _, rfl⟩, rfl⟩ iconst_0 ?_
    exact w_retz hm95 ⟨⟨_, _, rfl⟩, rfl⟩ rfl (by decide) h
  · have h := h.2 hc
    refine w_iload_n (q := 8) hm95 ⟨⟨_, _, rfl⟩, rfl⟩ rfl ?_
    refine w_iload_n (q := 9) hm95 ⟨⟨_, _, rfl⟩, rfl⟩ rfl ?_
    refine w_call (q := 12) (n := 2) (vs := [.inl x0, .inl x2]) (rest := []) (la := [oI x0, oI x2, none, none]) hm95 ⟨⟨_, _, rfl⟩, rfl⟩ rfl rfl rfl rfl hm94 rfl rfl (fun hz => absurd hz (by decide)) rfl (Wp.mono h ?_)
    rintro _ m1 ⟨r1, rfl, h⟩
    change Wp _ _ 12 _ [.inl r1] _ _
    refine w_iload_n (q := 13) hm95 ⟨⟨_, _, rfl⟩, rfl⟩ rfl ?_
    refine w_iload_n (q := 14) hm95 ⟨⟨_, _, rfl⟩, rfl⟩ rfl ?_
    refine w_call (q := 17) (n := 2) (vs := [.inl x1, .inl x2]) (rest := [.inl r1]) (la := [oI x1, oI x2, none, none]) hm95 ⟨⟨_, _, rfl⟩, rfl⟩ rfl rfl rfl rfl hm94 rfl rfl (fun hz => absurd hz (by decide)) rfl (Wp.mono h ?_)
    rintro _ m2 ⟨r2, rfl, h⟩
    change Wp _ _ 17 _ [.inl r2, .inl r1] _ _
    refine w_icmp_eq (q := 20) (X := r1.toInt) (Y := r2.toInt) hm95 ⟨⟨_, _, rfl⟩, rfl⟩ rfl rfl (fun hc => ?_) (fun hc => ?_)
    · have h := h.1 hc
      refine w_iinc (q := 42) (l' := [oI x0, oI x1, oI (x2 + (1 : Int32))]) hm95 ⟨⟨_, _, rfl⟩, rfl⟩ rfl rfl rfl iconst_1 rfl ?_
      refine w_goto (q := 2) hm95 ⟨_, _, rfl⟩ ?_
      exact h
    · have h := h.2 hc
      refine w_iload_n (q := 21) hm95 ⟨⟨_, _, rfl⟩, rfl⟩ rfl ?_
      refine w_iload_n (q := 22) hm95 ⟨⟨_, _, rfl⟩, rfl⟩ rfl ?_
      refine w_call (q := 25) (n := 2) (vs := [.inl x0, .inl x2]) (rest := []) (la := [oI x0, oI x2, none, none]) hm95 ⟨⟨_, _, rfl⟩, rfl⟩ rfl rfl rfl rfl hm94 rfl rfl (fun hz => absurd hz (by decide)) rfl (Wp.mono h ?_)
      rintro _ m3 ⟨r3, rfl, h⟩
      change Wp _ _ 25 _ [.inl r3] _ _
      refine w_iload_n (q := 26) hm95 ⟨⟨_, _, rfl⟩, rfl⟩ rfl ?_
      refine w_iload_n (q := 27) hm95 ⟨⟨_, _, rfl⟩, rfl⟩ rfl ?_
      refine w_call (q := 30) (n := 2) (vs := [.inl x1, .inl x2]) (rest := [.inl r3]) (la := [oI x1, oI x2, none, none]) hm95 ⟨⟨_, _, rfl⟩, rfl⟩ rfl rfl rfl rfl hm94 rfl rfl (fun hz => absurd hz (by decide)) rfl (Wp.mono h ?_)
      rintro _ m4 ⟨r4, rfl, h⟩
      change Wp _ _ 30 _ [.inl r4, .inl r3] _ _
      refine w_icmp_ge (q := 33) (X := r3.toInt) (Y := r4.toInt) hm95 ⟨⟨_, _, rfl⟩, rfl⟩ rfl rfl (fun hc => ?_) (fun hc => ?_)
      · have h := h.1 hc
        refine w_iconst (q := 38) hm95 ⟨⟨_, _, rfl⟩, rfl⟩ iconst_0 ?_
        exact w_retz hm95 ⟨⟨_, _, rfl⟩, rfl⟩ rfl (by decide) h
      · have h := h.2 hc
        refine w_iconst (q := 34) hm95 ⟨⟨_, _, rfl⟩, rfl⟩ iconst_1 ?_
        refine w_goto (q := 38) hm95 ⟨_, _, rfl⟩ ?_
        exact w_retz hm95 ⟨⟨_, _, rfl⟩, rfl⟩ rfl (by decide) h
theorem v_X12_loses_70 {d : Nat} {x1 : Int32} {m : dM} {Q : dM → Prop} (h : c_X12_copies_70 d m (fun m1 => j_X12_loses_70_6 (d + 1) x1 (0 : Int32) m1 Q)) : c_X12_loses_70 (d + 1) x1 m Q := by
  refine w_aload_n (q := 1) hm92 ⟨⟨_, _, rfl⟩, rfl⟩ rfl ?_
  refine w_call (q := 4) (n := 1) (vs := [.inr (.inr (some 70))]) (rest := []) (la := [oR 70, none]) hm92 ⟨⟨_, _, rfl⟩, rfl⟩ rfl rfl rfl rfl hm44 rfl rfl (fun _ => ⟨_, _, rfl, rfl⟩) rfl (Wp.mono h ?_)
  rintro _ m1 ⟨rfl, h⟩
  change Wp _ _ 4 _ [] _ _
  refine w_iconst (q := 5) hm92 ⟨⟨_, _, rfl⟩, rfl⟩ iconst_0 ?_
  refine w_istore_n (q := 6) (l' := [oR 70, oI x1, oI (0 : Int32)]) hm92 ⟨⟨_, _, rfl⟩, rfl⟩ rfl rfl rfl ?_
  exact h
theorem v_X12_loses_70_6 {d : Nat} {x1 : Int32} {x2 : Int32} {m : dM} {Q : dM → Prop} (h : ((10 ≤ x2.toInt → c_X12_fillsWays_70 d m (fun m1 => Q m1)) ∧ (x2.toInt < 10 → ((((x1 >>> (x2 &&& 31)) &&& (1 : Int32)).toInt ≠ 1 → j_X12_loses_70_31 (d + 1) x1 x2 m Q) ∧ (((x1 >>> (x2 &&& 31)) &&& (1 : Int32)).toInt = 1 → ((0 ≤ ((10 : Int32) + x2).toInt ∧ ((10 : Int32) + x2).toInt < 58) ∧ j_X12_loses_70_31 (d + 1) x1 x2 (dSet m 108 ((10 : Int32) + x2).toNatClampNeg (1 : Int32)) Q)))))) : j_X12_loses_70_6 (d + 1) x1 x2 m Q := by
  refine w_iload_n (q := 7) hm92 ⟨⟨_, _, rfl⟩, rfl⟩ rfl ?_
  refine w_bipush (q := 9) hm92 ⟨⟨_, _, rfl⟩, rfl⟩ bipush_10 ?_
  refine w_icmp_ge (q := 12) (X := x2.toInt) (Y := 10) hm92 ⟨⟨_, _, rfl⟩, rfl⟩ rfl (by decide) (fun hc => ?_) (fun hc => ?_)
  · have h := h.1 hc
    refine w_aload_n (q := 38) hm92 ⟨⟨_, _, rfl⟩, rfl⟩ rfl ?_
    refine w_call (q := 41) (n := 4) (vs := [.inr (.inr (some 70))]) (rest := []) (la := [oR 70, none, none, none, none]) hm92 ⟨⟨_, _, rfl⟩, rfl⟩ rfl rfl rfl rfl hm50 rfl rfl (fun _ => ⟨_, _, rfl, rfl⟩) rfl (Wp.mono h ?_)
    rintro _ m1 ⟨rfl, h⟩
    change Wp _ _ 41 _ [] _ _
    exact w_retv hm92 ⟨⟨_, _, rfl⟩, rfl⟩ rfl h
  · have h := h.2 hc
    refine w_iload_n (q := 13) hm92 ⟨⟨_, _, rfl⟩, rfl⟩ rfl ?_
    refine w_iload_n (q := 14) hm92 ⟨⟨_, _, rfl⟩, rfl⟩ rfl ?_
    refine w_ishr (q := 15) hm92 ⟨⟨_, _, rfl⟩, rfl⟩ ?_
    refine w_iconst (q := 16) hm92 ⟨⟨_, _, rfl⟩, rfl⟩ iconst_1 ?_
    refine w_iand (q := 17) hm92 ⟨⟨_, _, rfl⟩, rfl⟩ ?_
    refine w_iconst (q := 18) hm92 ⟨⟨_, _, rfl⟩, rfl⟩ iconst_1 ?_
    refine w_icmp_ne (q := 21) (X := ((x1 >>> (x2 &&& 31)) &&& (1 : Int32)).toInt) (Y := 1) hm92 ⟨⟨_, _, rfl⟩, rfl⟩ rfl (by decide) (fun hc => ?_) (fun hc => ?_)
    · have h := h.1 hc
      exact h
    · have h := h.2 hc
      refine w_aload_n (q := 22) hm92 ⟨⟨_, _, rfl⟩, rfl⟩ rfl ?_
      refine w_getr (q := 25) hm92 ⟨⟨_, _, rfl⟩, rfl⟩ rfl ?_
      refine w_bipush (q := 27) hm92 ⟨⟨_, _, rfl⟩, rfl⟩ bipush_10 ?_
      refine w_iload_n (q := 28) hm92 ⟨⟨_, _, rfl⟩, rfl⟩ rfl ?_
      refine w_iadd (q := 29) hm92 ⟨⟨_, _, rfl⟩, rfl⟩ ?_
      refine w_iconst (q := 30) hm92 ⟨⟨_, _, rfl⟩, rfl⟩ iconst_1 ?_
      obtain ⟨hi, h⟩ := h
      refine w_iast (q := 31) hm92 ⟨⟨_, _, rfl⟩, rfl⟩ rfl hi rfl rfl ?_
      exact h
theorem v_X12_loses_70_31 {d : Nat} {x1 : Int32} {x2 : Int32} {m : dM} {Q : dM → Prop} (h : j_X12_loses_70_6 (d + 1) x1 (x2 + (1 : Int32)) m Q) : j_X12_loses_70_31 (d + 1) x1 x2 m Q := by
  refine w_iinc (q := 34) (l' := [oR 70, oI x1, oI (x2 + (1 : Int32))]) hm92 ⟨⟨_, _, rfl⟩, rfl⟩ rfl rfl rfl iconst_1 rfl ?_
  refine w_goto (q := 6) hm92 ⟨_, _, rfl⟩ ?_
  exact h
theorem v_X12_cut_70 {d : Nat} {x1 : Int32} {x2 : Int32} {m : dM} {Q : Int32 → dM → Prop} (h : c_X12_isFlat_70 d x1 m (fun r1 m1 => ((r1.toInt = 0 → j_X12_cut_70_17 (d + 1) m1 Q) ∧ (r1.toInt ≠ 0 → c_X12_in d x2 (-1 : Int32) (2 : Int32) m1 (fun r2 m2 => ((r2.toInt ≠ 0 → c_X12_goneBits_70 d m2 (fun r3 m3 => j_X12_cut_70_30 (d + 1) x1 x2 r3 (-1 : Int32) (0 : Int32) m3 Q)) ∧ (r2.toInt = 0 → j_X12_cut_70_17 (d + 1) m2 Q))))))) : c_X12_cut_70 (d + 1) x1 x2 m Q := by
  refine w_aload_n (q := 1) hm96 ⟨⟨_, _, rfl⟩, rfl⟩ rfl ?_
  refine w_iload_n (q := 2) hm96 ⟨⟨_, _, rfl⟩, rfl⟩ rfl ?_
  refine w_call (q := 5) (n := 0) (vs := [.inr (.inr (some 70)), .inl x1]) (rest := []) (la := [oR 70, oI x1]) hm96 ⟨⟨_, _, rfl⟩, rfl⟩ rfl rfl rfl rfl hm39 rfl rfl (fun _ => ⟨_, _, rfl, rfl⟩) rfl (Wp.mono h ?_)
  rintro _ m1 ⟨r1, rfl, h⟩
  change Wp _ _ 5 _ [.inl r1] _ _
  refine w_if_eq (q := 8) (X := r1.toInt) hm96 ⟨⟨_, _, rfl⟩, rfl⟩ rfl (fun hc => ?_) (fun hc => ?_)
  · have h := h.1 hc
    exact Wp.wk [false, false, false, false, false, false] h
  · have h := h.2 hc
    refine w_iload_n (q := 9) hm96 ⟨⟨_, _, rfl⟩, rfl⟩ rfl ?_
    refine w_iconst (q := 10) hm96 ⟨⟨_, _, rfl⟩, rfl⟩ iconst_m1 ?_
    refine w_iconst (q := 11) hm96 ⟨⟨_, _, rfl⟩, rfl⟩ iconst_2 ?_
    refine w_call (q := 14) (n := 0) (vs := [.inl x2, .inl (-1 : Int32), .inl (2 : Int32)]) (rest := []) (la := [oI x2, oI (-1 : Int32), oI (2 : Int32)]) hm96 ⟨⟨_, _, rfl⟩, rfl⟩ rfl rfl rfl rfl hm36 rfl rfl (fun hz => absurd hz (by decide)) rfl (Wp.mono h ?_)
    rintro _ m2 ⟨r2, rfl, h⟩
    change Wp _ _ 14 _ [.inl r2] _ _
    refine w_if_ne (q := 17) (X := r2.toInt) hm96 ⟨⟨_, _, rfl⟩, rfl⟩ rfl (fun hc => ?_) (fun hc => ?_)
    · have h := h.1 hc
      refine w_aload_n (q := 20) hm96 ⟨⟨_, _, rfl⟩, rfl⟩ rfl ?_
      refine w_call (q := 23) (n := 2) (vs := [.inr (.inr (some 70))]) (rest := []) (la := [oR 70, none, none]) hm96 ⟨⟨_, _, rfl⟩, rfl⟩ rfl rfl rfl rfl hm93 rfl rfl (fun _ => ⟨_, _, rfl, rfl⟩) rfl (Wp.mono h ?_)
      rintro _ m3 ⟨r3, rfl, h⟩
      change Wp _ _ 23 _ [.inl r3] _ _
      refine w_istore_n (q := 24) (l' := [oR 70, oI x1, oI x2, oI r3, none, none]) hm96 ⟨⟨_, _, rfl⟩, rfl⟩ rfl rfl rfl ?_
      refine w_iconst (q := 25) hm96 ⟨⟨_, _, rfl⟩, rfl⟩ iconst_m1 ?_
      refine w_istore (q := 27) (l' := [oR 70, oI x1, oI x2, oI r3, oI (-1 : Int32), none]) hm96 ⟨⟨_, _, rfl⟩, rfl⟩ rfl rfl rfl ?_
      refine w_iconst (q := 28) hm96 ⟨⟨_, _, rfl⟩, rfl⟩ iconst_0 ?_
      refine w_istore (q := 30) (l' := [oR 70, oI x1, oI x2, oI r3, oI (-1 : Int32), oI (0 : Int32)]) hm96 ⟨⟨_, _, rfl⟩, rfl⟩ rfl rfl rfl ?_
      exact h
    · have h := h.2 hc
      exact Wp.wk [false, false, false, false, false, false] h
theorem v_X12_cut_70_17 {d : Nat} {m : dM} {Q : Int32 → dM → Prop} (h : Q (-1 : Int32) m) : j_X12_cut_70_17 (d + 1) m Q := by
  refine w_iconst (q := 18) hm96 ⟨⟨_, _, rfl⟩, rfl⟩ iconst_m1 ?_
  exact w_reti hm96 ⟨⟨_, _, rfl⟩, rfl⟩ rfl h
theorem v_X12_cut_70_30 {d : Nat} {x1 : Int32} {x2 : Int32} {x3 : Int32} {x4 : Int32} {x5 : Int32} {m : dM} {Q : Int32 → dM → Prop} (h : ((0 ≤ (m.1 70 18).toInt ∧ (m.1 70 18).toInt < 2) ∧ ((((1 : Int32) <<< ((m.1 82 (m.1 70 18).toNatClampNeg) &&& 31)).toInt ≤ x5.toInt → ((0 ≤ x4.toInt → ((x2.toInt ≠ (-1) → c_X12_ithOf d x4 x2 m (fun r1 m1 => Q r1 m1)) ∧ (x2.toInt = (-1) → c_X12_bits d x4 m (fun r2 m2 => Q r2 m2)))) ∧ (x4.toInt < 0 → Q (-2 : Int32) m))) ∧ (x5.toInt < ((1 : Int32) <<< ((m.1 82 (m.1 70 18).toNatClampNeg) &&& 31)).toInt → c_X12_bits d x5 m (fun r3 m3 => ((3 < r3.toInt → j_X12_cut_70_127 (d + 1) x1 x2 x3 x4 x5 m3 Q) ∧ (r3.toInt ≤ 3 → (((x5 &&& x3).toInt = 0 → ((x4.toInt < 0 → j_X12_cut_70_109 (d + 1) x1 x2 x3 x4 x5 m3 Q) ∧ (0 ≤ x4.toInt → c_X12_bits d x5 m3 (fun r4 m4 => c_X12_bits d x4 m4 (fun r5 m5 => ((r5.toInt < r4.toInt → j_X12_cut_70_127 (d + 1) x1 x2 x3 x4 x5 m5 Q) ∧ (r4.toInt ≤ r5.toInt → c_X12_bits d x5 m5 (fun r6 m6 => c_X12_bits d x4 m6 (fun r7 m7 => ((r6.toInt ≠ r7.toInt → j_X12_cut_70_109 (d + 1) x1 x2 x3 x4 x5 m7 Q) ∧ (r6.toInt = r7.toInt → c_X12_isEarlier d x5 x4 m7 (fun r8 m8 => ((r8.toInt ≠ 0 → j_X12_cut_70_109 (d + 1) x1 x2 x3 x4 x5 m8 Q) ∧ (r8.toInt = 0 → j_X12_cut_70_127 (d + 1) x1 x2 x3 x4 x5 m8 Q)))))))))))))) ∧ ((x5 &&& x3).toInt ≠ 0 → j_X12_cut_70_127 (d + 1) x1 x2 x3 x4 x5 m3 Q))))))))) : j_X12_cut_70_30 (d + 1) x1 x2 x3 x4 x5 m Q := by
  refine w_iload (q := 32) hm96 ⟨⟨_, _, rfl⟩, rfl⟩ rfl ?_
  refine w_iconst (q := 33) hm96 ⟨⟨_, _, rfl⟩, rfl⟩ iconst_1 ?_
  refine w_aload_n (q := 34) hm96 ⟨⟨_, _, rfl⟩, rfl⟩ rfl ?_
  refine w_getr (q := 37) hm96 ⟨⟨_, _, rfl⟩, rfl⟩ rfl ?_
  refine w_aload_n (q := 38) hm96 ⟨⟨_, _, rfl⟩, rfl⟩ rfl ?_
  refine w_getf (q := 41) (v := (m.1 70 18)) hm96 ⟨⟨_, _, rfl⟩, rfl⟩ rfl rfl ?_
  obtain ⟨hi, h⟩ := h
  refine w_iald (q := 42) (v := (m.1 82 (m.1 70 18).toNatClampNeg)) hm96 ⟨⟨_, _, rfl⟩, rfl⟩ rfl hi rfl rfl ?_
  refine w_ishl (q := 43) hm96 ⟨⟨_, _, rfl⟩, rfl⟩ ?_
  refine w_icmp_ge (q := 46) (X := x5.toInt) (Y := ((1 : Int32) <<< ((m.1 82 (m.1 70 18).toNatClampNeg) &&& 31)).toInt) hm96 ⟨⟨_, _, rfl⟩, rfl⟩ rfl rfl (fun hc => ?_) (fun hc => ?_)
  · have h := h.1 hc
    refine w_iload (q := 135) hm96 ⟨⟨_, _, rfl⟩, rfl⟩ rfl ?_
    refine w_if_ge (q := 138) (X := x4.toInt) hm96 ⟨⟨_, _, rfl⟩, rfl⟩ rfl (fun hc => ?_) (fun hc => ?_)
    · have h := h.1 hc
      refine w_iload_n (q := 142) hm96 ⟨⟨_, _, rfl⟩, rfl⟩ rfl ?_
      refine w_iconst (q := 143) hm96 ⟨⟨_, _, rfl⟩, rfl⟩ iconst_m1 ?_
      refine w_icmp_ne (q := 146) (X := x2.toInt) (Y := (-1)) hm96 ⟨⟨_, _, rfl⟩, rfl⟩ rfl (by decide) (fun hc => ?_) (fun hc => ?_)
      · have h := h.1 hc
        refine w_iload (q := 156) hm96 ⟨⟨_, _, rfl⟩, rfl⟩ rfl ?_
        refine w_iload_n (q := 157) hm96 ⟨⟨_, _, rfl⟩, rfl⟩ rfl ?_
        refine w_call (q := 160) (n := 2) (vs := [.inl x4, .inl x2]) (rest := []) (la := [oI x4, oI x2, none, none]) hm96 ⟨⟨_, _, rfl⟩, rfl⟩ rfl rfl rfl rfl hm94 rfl rfl (fun hz => absurd hz (by decide)) rfl (Wp.mono h ?_)
        rintro _ m1 ⟨r1, rfl, h⟩
        change Wp _ _ 160 _ [.inl r1] _ _
        exact w_reti hm96 ⟨⟨_, _, rfl⟩, rfl⟩ rfl h
      · have h := h.2 hc
        refine w_iload (q := 148) hm96 ⟨⟨_, _, rfl⟩, rfl⟩ rfl ?_
        refine w_call (q := 151) (n := 2) (vs := [.inl x4]) (rest := []) (la := [oI x4, none, none]) hm96 ⟨⟨_, _, rfl⟩, rfl⟩ rfl rfl rfl rfl hm38 rfl rfl (fun hz => absurd hz (by decide)) rfl (Wp.mono h ?_)
        rintro _ m2 ⟨r2, rfl, h⟩
        change Wp _ _ 151 _ [.inl r2] _ _
        refine w_goto (q := 160) hm96 ⟨_, _, rfl⟩ ?_
        exact w_reti hm96 ⟨⟨_, _, rfl⟩, rfl⟩ rfl h
    · have h := h.2 hc
      refine w_bipush (q := 140) hm96 ⟨⟨_, _, rfl⟩, rfl⟩ bipush_m2 ?_
      exact w_reti hm96 ⟨⟨_, _, rfl⟩, rfl⟩ rfl h
  · have h := h.2 hc
    refine w_iload (q := 48) hm96 ⟨⟨_, _, rfl⟩, rfl⟩ rfl ?_
    refine w_call (q := 51) (n := 2) (vs := [.inl x5]) (rest := []) (la := [oI x5, none, none]) hm96 ⟨⟨_, _, rfl⟩, rfl⟩ rfl rfl rfl rfl hm38 rfl rfl (fun hz => absurd hz (by decide)) rfl (Wp.mono h ?_)
    rintro _ m3 ⟨r3, rfl, h⟩
    change Wp _ _ 51 _ [.inl r3] _ _
    refine w_iconst (q := 52) hm96 ⟨⟨_, _, rfl⟩, rfl⟩ iconst_3 ?_
    refine w_icmp_gt (q := 55) (X := r3.toInt) (Y := 3) hm96 ⟨⟨_, _, rfl⟩, rfl⟩ rfl (by decide) (fun hc => ?_) (fun hc => ?_)
    · have h := h.1 hc
      exact h
    · have h := h.2 hc
      refine w_iload (q := 57) hm96 ⟨⟨_, _, rfl⟩, rfl⟩ rfl ?_
      refine w_iload_n (q := 58) hm96 ⟨⟨_, _, rfl⟩, rfl⟩ rfl ?_
      refine w_iand (q := 59) hm96 ⟨⟨_, _, rfl⟩, rfl⟩ ?_
      refine w_if_eq (q := 62) (X := (x5 &&& x3).toInt) hm96 ⟨⟨_, _, rfl⟩, rfl⟩ rfl (fun hc => ?_) (fun hc => ?_)
      · have h := h.1 hc
        refine w_iload (q := 67) hm96 ⟨⟨_, _, rfl⟩, rfl⟩ rfl ?_
        refine w_if_lt (q := 70) (X := x4.toInt) hm96 ⟨⟨_, _, rfl⟩, rfl⟩ rfl (fun hc => ?_) (fun hc => ?_)
        · have h := h.1 hc
          exact h
        · have h := h.2 hc
          refine w_iload (q := 72) hm96 ⟨⟨_, _, rfl⟩, rfl⟩ rfl ?_
          refine w_call (q := 75) (n := 2) (vs := [.inl x5]) (rest := []) (la := [oI x5, none, none]) hm96 ⟨⟨_, _, rfl⟩, rfl⟩ rfl rfl rfl rfl hm38 rfl rfl (fun hz => absurd hz (by decide)) rfl (Wp.mono h ?_)
          rintro _ m4 ⟨r4, rfl, h⟩
          change Wp _ _ 75 _ [.inl r4] _ _
          refine w_iload (q := 77) hm96 ⟨⟨_, _, rfl⟩, rfl⟩ rfl ?_
          refine w_call (q := 80) (n := 2) (vs := [.inl x4]) (rest := [.inl r4]) (la := [oI x4, none, none]) hm96 ⟨⟨_, _, rfl⟩, rfl⟩ rfl rfl rfl rfl hm38 rfl rfl (fun hz => absurd hz (by decide)) rfl (Wp.mono h ?_)
          rintro _ m5 ⟨r5, rfl, h⟩
          change Wp _ _ 80 _ [.inl r5, .inl r4] _ _
          refine w_icmp_gt (q := 83) (X := r4.toInt) (Y := r5.toInt) hm96 ⟨⟨_, _, rfl⟩, rfl⟩ rfl rfl (fun hc => ?_) (fun hc => ?_)
          · have h := h.1 hc
            exact h
          · have h := h.2 hc
            refine w_iload (q := 85) hm96 ⟨⟨_, _, rfl⟩, rfl⟩ rfl ?_
            refine w_call (q := 88) (n := 2) (vs := [.inl x5]) (rest := []) (la := [oI x5, none, none]) hm96 ⟨⟨_, _, rfl⟩, rfl⟩ rfl rfl rfl rfl hm38 rfl rfl (fun hz => absurd hz (by decide)) rfl (Wp.mono h ?_)
            rintro _ m6 ⟨r6, rfl, h⟩
            change Wp _ _ 88 _ [.inl r6] _ _
            refine w_iload (q := 90) hm96 ⟨⟨_, _, rfl⟩, rfl⟩ rfl ?_
            refine w_call (q := 93) (n := 2) (vs := [.inl x4]) (rest := [.inl r6]) (la := [oI x4, none, none]) hm96 ⟨⟨_, _, rfl⟩, rfl⟩ rfl rfl rfl rfl hm38 rfl rfl (fun hz => absurd hz (by decide)) rfl (Wp.mono h ?_)
            rintro _ m7 ⟨r7, rfl, h⟩
            change Wp _ _ 93 _ [.inl r7, .inl r6] _ _
            refine w_icmp_ne (q := 96) (X := r6.toInt) (Y := r7.toInt) hm96 ⟨⟨_, _, rfl⟩, rfl⟩ rfl rfl (fun hc => ?_) (fun hc => ?_)
            · have h := h.1 hc
              exact h
            · have h := h.2 hc
              refine w_iload (q := 98) hm96 ⟨⟨_, _, rfl⟩, rfl⟩ rfl ?_
              refine w_iload (q := 100) hm96 ⟨⟨_, _, rfl⟩, rfl⟩ rfl ?_
              refine w_call (q := 103) (n := 1) (vs := [.inl x5, .inl x4]) (rest := []) (la := [oI x5, oI x4, none]) hm96 ⟨⟨_, _, rfl⟩, rfl⟩ rfl rfl rfl rfl hm95 rfl rfl (fun hz => absurd hz (by decide)) rfl (Wp.mono h ?_)
              rintro _ m8 ⟨r8, rfl, h⟩
              change Wp _ _ 103 _ [.inl r8] _ _
              refine w_if_ne (q := 106) (X := r8.toInt) hm96 ⟨⟨_, _, rfl⟩, rfl⟩ rfl (fun hc => ?_) (fun hc => ?_)
              · have h := h.1 hc
                exact h
              · have h := h.2 hc
                refine w_goto (q := 127) hm96 ⟨_, _, rfl⟩ ?_
                exact h
      · have h := h.2 hc
        refine w_goto (q := 127) hm96 ⟨_, _, rfl⟩ ?_
        exact h
theorem v_X12_cut_70_109 {d : Nat} {x1 : Int32} {x2 : Int32} {x3 : Int32} {x4 : Int32} {x5 : Int32} {m : dM} {Q : Int32 → dM → Prop} (h : c_X12_loses_70 d x5 m (fun m1 => c_X12_isLit_70 d x1 m1 (fun r2 m2 => ((r2.toInt ≠ 0 → j_X12_cut_70_127 (d + 1) x1 x2 x3 x4 x5 m2 Q) ∧ (r2.toInt = 0 → j_X12_cut_70_127 (d + 1) x1 x2 x3 x5 x5 m2 Q))))) : j_X12_cut_70_109 (d + 1) x1 x2 x3 x4 x5 m Q := by
  refine w_aload_n (q := 110) hm96 ⟨⟨_, _, rfl⟩, rfl⟩ rfl ?_
  refine w_iload (q := 112) hm96 ⟨⟨_, _, rfl⟩, rfl⟩ rfl ?_
  refine w_call (q := 115) (n := 1) (vs := [.inr (.inr (some 70)), .inl x5]) (rest := []) (la := [oR 70, oI x5, none]) hm96 ⟨⟨_, _, rfl⟩, rfl⟩ rfl rfl rfl rfl hm92 rfl rfl (fun _ => ⟨_, _, rfl, rfl⟩) rfl (Wp.mono h ?_)
  rintro _ m1 ⟨rfl, h⟩
  change Wp _ _ 115 _ [] _ _
  refine w_aload_n (q := 116) hm96 ⟨⟨_, _, rfl⟩, rfl⟩ rfl ?_
  refine w_iload_n (q := 117) hm96 ⟨⟨_, _, rfl⟩, rfl⟩ rfl ?_
  refine w_call (q := 120) (n := 0) (vs := [.inr (.inr (some 70)), .inl x1]) (rest := []) (la := [oR 70, oI x1]) hm96 ⟨⟨_, _, rfl⟩, rfl⟩ rfl rfl rfl rfl hm51 rfl rfl (fun _ => ⟨_, _, rfl, rfl⟩) rfl (Wp.mono h ?_)
  rintro _ m2 ⟨r2, rfl, h⟩
  change Wp _ _ 120 _ [.inl r2] _ _
  refine w_if_ne (q := 123) (X := r2.toInt) hm96 ⟨⟨_, _, rfl⟩, rfl⟩ rfl (fun hc => ?_) (fun hc => ?_)
  · have h := h.1 hc
    exact h
  · have h := h.2 hc
    refine w_iload (q := 125) hm96 ⟨⟨_, _, rfl⟩, rfl⟩ rfl ?_
    refine w_istore (q := 127) (l' := [oR 70, oI x1, oI x2, oI x3, oI x5, oI x5]) hm96 ⟨⟨_, _, rfl⟩, rfl⟩ rfl rfl rfl ?_
    exact h
theorem v_X12_cut_70_127 {d : Nat} {x1 : Int32} {x2 : Int32} {x3 : Int32} {x4 : Int32} {x5 : Int32} {m : dM} {Q : Int32 → dM → Prop} (h : j_X12_cut_70_30 (d + 1) x1 x2 x3 x4 (x5 + (1 : Int32)) m Q) : j_X12_cut_70_127 (d + 1) x1 x2 x3 x4 x5 m Q := by
  refine w_iinc (q := 130) (l' := [oR 70, oI x1, oI x2, oI x3, oI x4, oI (x5 + (1 : Int32))]) hm96 ⟨⟨_, _, rfl⟩, rfl⟩ rfl rfl rfl iconst_1 rfl ?_
  refine w_goto (q := 30) hm96 ⟨_, _, rfl⟩ ?_
  exact h
theorem v_X11_share_0 {d : Nat} {x1 : Int32} {x2 : Int32} {m : dM} {Q : Int32 → dM → Prop} (h : c_X11_isFlat_0 d x1 m (fun r1 m1 => ((r1.toInt = 0 → j_X11_share_0_16 (d + 1) m1 Q) ∧ (r1.toInt ≠ 0 → c_X11_isWire_0 d x2 m1 (fun r2 m2 => ((r2.toInt ≠ 0 → c_X0_waysNow_54_47 d m2 (fun m3 => ((0 ≤ x1.toInt ∧ x1.toInt < 7) ∧ c_X11_has d (m3.1 60 x1.toNatClampNeg) x2 m3 (fun r4 m4 => ((r4.toInt = 0 → Q (0 : Int32) m4) ∧ (r4.toInt ≠ 0 → c_X0_usesNow_54_47 d m4 (fun r5 m5 => c_X0_ampsOf_54 d r5 x1 m5 (fun r6 m6 => Q r6 m6)))))))) ∧ (r2.toInt = 0 → j_X11_share_0_16 (d + 1) m2 Q))))))) : c_X11_share_0 (d + 1) x1 x2 m Q := by
  refine w_aload_n (q := 1) hm267 ⟨⟨_, _, rfl⟩, rfl⟩ rfl ?_
  refine w_iload_n (q := 2) hm267 ⟨⟨_, _, rfl⟩, rfl⟩ rfl ?_
  refine w_call (q := 5) (n := 0) (vs := [.inr (.inr (some 0)), .inl x1]) (rest := []) (la := [oR 0, oI x1]) hm267 ⟨⟨_, _, rfl⟩, rfl⟩ rfl rfl rfl rfl hm248 rfl rfl (fun _ => ⟨_, _, rfl, rfl⟩) rfl (Wp.mono h ?_)
  rintro _ m1 ⟨r1, rfl, h⟩
  change Wp _ _ 5 _ [.inl r1] _ _
  refine w_if_eq (q := 8) (X := r1.toInt) hm267 ⟨⟨_, _, rfl⟩, rfl⟩ rfl (fun hc => ?_) (fun hc => ?_)
  · have h := h.1 hc
    exact Wp.wk [false, false, false, false] h
  · have h := h.2 hc
    refine w_aload_n (q := 9) hm267 ⟨⟨_, _, rfl⟩, rfl⟩ rfl ?_
    refine w_iload_n (q := 10) hm267 ⟨⟨_, _, rfl⟩, rfl⟩ rfl ?_
    refine w_call (q := 13) (n := 0) (vs := [.inr (.inr (some 0)), .inl x2]) (rest := []) (la := [oR 0, oI x2]) hm267 ⟨⟨_, _, rfl⟩, rfl⟩ rfl rfl rfl rfl hm249 rfl rfl (fun _ => ⟨_, _, rfl, rfl⟩) rfl (Wp.mono h ?_)
    rintro _ m2 ⟨r2, rfl, h⟩
    change Wp _ _ 13 _ [.inl r2] _ _
    refine w_if_ne (q := 16) (X := r2.toInt) hm267 ⟨⟨_, _, rfl⟩, rfl⟩ rfl (fun hc => ?_) (fun hc => ?_)
    · have h := h.1 hc
      refine w_aload_n (q := 19) hm267 ⟨⟨_, _, rfl⟩, rfl⟩ rfl ?_
      refine w_getr (q := 22) hm267 ⟨⟨_, _, rfl⟩, rfl⟩ rfl ?_
      refine w_aload_n (q := 23) hm267 ⟨⟨_, _, rfl⟩, rfl⟩ rfl ?_
      refine w_getr (q := 26) hm267 ⟨⟨_, _, rfl⟩, rfl⟩ rfl ?_
      refine w_call (q := 29) (n := 0) (vs := [.inr (.inr (some 54)), .inr (.inr (some 47))]) (rest := []) (la := [oR 54, oR 47]) hm267 ⟨⟨_, _, rfl⟩, rfl⟩ rfl rfl rfl rfl hm116 rfl rfl (fun _ => ⟨_, _, rfl, rfl⟩) rfl (Wp.mono h ?_)
      rintro _ m3 ⟨rfl, h⟩
      change Wp _ _ 29 _ [.inr (.inr (some 57))] _ _
      refine w_astore_n (q := 30) (l' := [oR 0, oI x1, oI x2, oR 57]) hm267 ⟨⟨_, _, rfl⟩, rfl⟩ rfl rfl rfl ?_
      refine w_aload_n (q := 31) hm267 ⟨⟨_, _, rfl⟩, rfl⟩ rfl ?_
      refine w_getr (q := 34) hm267 ⟨⟨_, _, rfl⟩, rfl⟩ rfl ?_
      refine w_iload_n (q := 35) hm267 ⟨⟨_, _, rfl⟩, rfl⟩ rfl ?_
      obtain ⟨hi, h⟩ := h
      refine w_iald (q := 36) (v := (m3.1 60 x1.toNatClampNeg)) hm267 ⟨⟨_, _, rfl⟩, rfl⟩ rfl hi rfl rfl ?_
      refine w_iload_n (q := 37) hm267 ⟨⟨_, _, rfl⟩, rfl⟩ rfl ?_
      refine w_call (q := 40) (n := 0) (vs := [.inl (m3.1 60 x1.toNatClampNeg), .inl x2]) (rest := []) (la := [oI (m3.1 60 x1.toNatClampNeg), oI x2]) hm267 ⟨⟨_, _, rfl⟩, rfl⟩ rfl rfl rfl rfl hm283 rfl rfl (fun hz => absurd hz (by decide)) rfl (Wp.mono h ?_)
      rintro _ m4 ⟨r4, rfl, h⟩
      change Wp _ _ 40 _ [.inl r4] _ _
      refine w_if_eq (q := 43) (X := r4.toInt) hm267 ⟨⟨_, _, rfl⟩, rfl⟩ rfl (fun hc => ?_) (fun hc => ?_)
      · have h := h.1 hc
        refine w_iconst (q := 66) hm267 ⟨⟨_, _, rfl⟩, rfl⟩ iconst_0 ?_
        exact w_reti hm267 ⟨⟨_, _, rfl⟩, rfl⟩ rfl h
      · have h := h.2 hc
        refine w_aload_n (q := 44) hm267 ⟨⟨_, _, rfl⟩, rfl⟩ rfl ?_
        refine w_getr (q := 47) hm267 ⟨⟨_, _, rfl⟩, rfl⟩ rfl ?_
        refine w_aload_n (q := 48) hm267 ⟨⟨_, _, rfl⟩, rfl⟩ rfl ?_
        refine w_getr (q := 51) hm267 ⟨⟨_, _, rfl⟩, rfl⟩ rfl ?_
        refine w_aload_n (q := 52) hm267 ⟨⟨_, _, rfl⟩, rfl⟩ rfl ?_
        refine w_getr (q := 55) hm267 ⟨⟨_, _, rfl⟩, rfl⟩ rfl ?_
        refine w_call (q := 58) (n := 0) (vs := [.inr (.inr (some 54)), .inr (.inr (some 47))]) (rest := [.inr (.inr (some 54))]) (la := [oR 54, oR 47]) hm267 ⟨⟨_, _, rfl⟩, rfl⟩ rfl rfl rfl rfl hm117 rfl rfl (fun _ => ⟨_, _, rfl, rfl⟩) rfl (Wp.mono h ?_)
        rintro _ m5 ⟨r5, rfl, h⟩
        change Wp _ _ 58 _ [.inl r5, .inr (.inr (some 54))] _ _
        refine w_iload_n (q := 59) hm267 ⟨⟨_, _, rfl⟩, rfl⟩ rfl ?_
        refine w_call (q := 62) (n := 2) (vs := [.inr (.inr (some 54)), .inl r5, .inl x1]) (rest := []) (la := [oR 54, oI r5, oI x1, none, none]) hm267 ⟨⟨_, _, rfl⟩, rfl⟩ rfl rfl rfl rfl hm119 rfl rfl (fun _ => ⟨_, _, rfl, rfl⟩) rfl (Wp.mono h ?_)
        rintro _ m6 ⟨r6, rfl, h⟩
        change Wp _ _ 62 _ [.inl r6] _ _
        refine w_goto (q := 66) hm267 ⟨_, _, rfl⟩ ?_
        exact w_reti hm267 ⟨⟨_, _, rfl⟩, rfl⟩ rfl h
    · have h := h.2 hc
      exact Wp.wk [false, false, false, false] h
theorem v_X11_share_0_16 {d : Nat} {m : dM} {Q : Int32 → dM → Prop} (h : Q (-1 : Int32) m) : j_X11_share_0_16 (d + 1) m Q := by
  refine w_iconst (q := 17) hm267 ⟨⟨_, _, rfl⟩, rfl⟩ iconst_m1 ?_
  exact w_reti hm267 ⟨⟨_, _, rfl⟩, rfl⟩ rfl h
theorem v_X12_share_70 {d : Nat} {x1 : Int32} {x2 : Int32} {m : dM} {Q : Int32 → dM → Prop} (h : c_X12_isFlat_70 d x1 m (fun r1 m1 => ((r1.toInt = 0 → j_X12_share_70_16 (d + 1) m1 Q) ∧ (r1.toInt ≠ 0 → c_X12_isWire_70 d x2 m1 (fun r2 m2 => ((r2.toInt ≠ 0 → c_X12_copies_70 d m2 (fun m3 => ((0 ≤ x1.toInt ∧ x1.toInt < 7) ∧ (((((m3.1 110 x1.toNatClampNeg) >>> (x2 &&& 31)) &&& (1 : Int32)).toInt ≠ 1 → Q (0 : Int32) m3) ∧ ((((m3.1 110 x1.toNatClampNeg) >>> (x2 &&& 31)) &&& (1 : Int32)).toInt = 1 → c_X12_ampsOn_70 d x1 m3 (fun r4 m4 => Q r4 m4)))))) ∧ (r2.toInt = 0 → j_X12_share_70_16 (d + 1) m2 Q))))))) : c_X12_share_70 (d + 1) x1 x2 m Q := by
  refine w_aload_n (q := 1) hm97 ⟨⟨_, _, rfl⟩, rfl⟩ rfl ?_
  refine w_iload_n (q := 2) hm97 ⟨⟨_, _, rfl⟩, rfl⟩ rfl ?_
  refine w_call (q := 5) (n := 0) (vs := [.inr (.inr (some 70)), .inl x1]) (rest := []) (la := [oR 70, oI x1]) hm97 ⟨⟨_, _, rfl⟩, rfl⟩ rfl rfl rfl rfl hm39 rfl rfl (fun _ => ⟨_, _, rfl, rfl⟩) rfl (Wp.mono h ?_)
  rintro _ m1 ⟨r1, rfl, h⟩
  change Wp _ _ 5 _ [.inl r1] _ _
  refine w_if_eq (q := 8) (X := r1.toInt) hm97 ⟨⟨_, _, rfl⟩, rfl⟩ rfl (fun hc => ?_) (fun hc => ?_)
  · have h := h.1 hc
    exact Wp.wk [false, false, false] h
  · have h := h.2 hc
    refine w_aload_n (q := 9) hm97 ⟨⟨_, _, rfl⟩, rfl⟩ rfl ?_
    refine w_iload_n (q := 10) hm97 ⟨⟨_, _, rfl⟩, rfl⟩ rfl ?_
    refine w_call (q := 13) (n := 0) (vs := [.inr (.inr (some 70)), .inl x2]) (rest := []) (la := [oR 70, oI x2]) hm97 ⟨⟨_, _, rfl⟩, rfl⟩ rfl rfl rfl rfl hm40 rfl rfl (fun _ => ⟨_, _, rfl, rfl⟩) rfl (Wp.mono h ?_)
    rintro _ m2 ⟨r2, rfl, h⟩
    change Wp _ _ 13 _ [.inl r2] _ _
    refine w_if_ne (q := 16) (X := r2.toInt) hm97 ⟨⟨_, _, rfl⟩, rfl⟩ rfl (fun hc => ?_) (fun hc => ?_)
    · have h := h.1 hc
      refine w_aload_n (q := 19) hm97 ⟨⟨_, _, rfl⟩, rfl⟩ rfl ?_
      refine w_call (q := 22) (n := 1) (vs := [.inr (.inr (some 70))]) (rest := []) (la := [oR 70, none]) hm97 ⟨⟨_, _, rfl⟩, rfl⟩ rfl rfl rfl rfl hm44 rfl rfl (fun _ => ⟨_, _, rfl, rfl⟩) rfl (Wp.mono h ?_)
      rintro _ m3 ⟨rfl, h⟩
      change Wp _ _ 22 _ [] _ _
      refine w_aload_n (q := 23) hm97 ⟨⟨_, _, rfl⟩, rfl⟩ rfl ?_
      refine w_getr (q := 26) hm97 ⟨⟨_, _, rfl⟩, rfl⟩ rfl ?_
      refine w_iload_n (q := 27) hm97 ⟨⟨_, _, rfl⟩, rfl⟩ rfl ?_
      obtain ⟨hi, h⟩ := h
      refine w_iald (q := 28) (v := (m3.1 110 x1.toNatClampNeg)) hm97 ⟨⟨_, _, rfl⟩, rfl⟩ rfl hi rfl rfl ?_
      refine w_iload_n (q := 29) hm97 ⟨⟨_, _, rfl⟩, rfl⟩ rfl ?_
      refine w_ishr (q := 30) hm97 ⟨⟨_, _, rfl⟩, rfl⟩ ?_
      refine w_iconst (q := 31) hm97 ⟨⟨_, _, rfl⟩, rfl⟩ iconst_1 ?_
      refine w_iand (q := 32) hm97 ⟨⟨_, _, rfl⟩, rfl⟩ ?_
      refine w_iconst (q := 33) hm97 ⟨⟨_, _, rfl⟩, rfl⟩ iconst_1 ?_
      refine w_icmp_ne (q := 36) (X := (((m3.1 110 x1.toNatClampNeg) >>> (x2 &&& 31)) &&& (1 : Int32)).toInt) (Y := 1) hm97 ⟨⟨_, _, rfl⟩, rfl⟩ rfl (by decide) (fun hc => ?_) (fun hc => ?_)
      · have h := h.1 hc
        refine w_iconst (q := 45) hm97 ⟨⟨_, _, rfl⟩, rfl⟩ iconst_0 ?_
        exact w_reti hm97 ⟨⟨_, _, rfl⟩, rfl⟩ rfl h
      · have h := h.2 hc
        refine w_aload_n (q := 37) hm97 ⟨⟨_, _, rfl⟩, rfl⟩ rfl ?_
        refine w_iload_n (q := 38) hm97 ⟨⟨_, _, rfl⟩, rfl⟩ rfl ?_
        refine w_call (q := 41) (n := 3) (vs := [.inr (.inr (some 70)), .inl x1]) (rest := []) (la := [oR 70, oI x1, none, none, none]) hm97 ⟨⟨_, _, rfl⟩, rfl⟩ rfl rfl rfl rfl hm70 rfl rfl (fun _ => ⟨_, _, rfl, rfl⟩) rfl (Wp.mono h ?_)
        rintro _ m4 ⟨r4, rfl, h⟩
        change Wp _ _ 41 _ [.inl r4] _ _
        refine w_goto (q := 45) hm97 ⟨_, _, rfl⟩ ?_
        exact w_reti hm97 ⟨⟨_, _, rfl⟩, rfl⟩ rfl h
    · have h := h.2 hc
      exact Wp.wk [false, false, false] h
theorem v_X12_share_70_16 {d : Nat} {m : dM} {Q : Int32 → dM → Prop} (h : Q (-1 : Int32) m) : j_X12_share_70_16 (d + 1) m Q := by
  refine w_iconst (q := 17) hm97 ⟨⟨_, _, rfl⟩, rfl⟩ iconst_m1 ?_
  exact w_reti hm97 ⟨⟨_, _, rfl⟩, rfl⟩ rfl h
theorem v_X3_allFlats_2 {d : Nat} {m : dM} {Q : Int32 → dM → Prop} (h : Q (((1 : Int32) <<< ((m.1 2 0) &&& 31)) - (1 : Int32)) m) : c_X3_allFlats_2 (d + 1) m Q := by
  refine w_iconst (q := 1) hm173 ⟨⟨_, _, rfl⟩, rfl⟩ iconst_1 ?_
  refine w_aload_n (q := 2) hm173 ⟨⟨_, _, rfl⟩, rfl⟩ rfl ?_
  refine w_getf (q := 5) (v := (m.1 2 0)) hm173 ⟨⟨_, _, rfl⟩, rfl⟩ rfl rfl ?_
  refine w_ishl (q := 6) hm173 ⟨⟨_, _, rfl⟩, rfl⟩ ?_
  refine w_iconst (q := 7) hm173 ⟨⟨_, _, rfl⟩, rfl⟩ iconst_1 ?_
  refine w_isub (q := 8) hm173 ⟨⟨_, _, rfl⟩, rfl⟩ ?_
  exact w_reti hm173 ⟨⟨_, _, rfl⟩, rfl⟩ rfl h
theorem v_X11_without_0 {d : Nat} {x1 : Int32} {m : dM} {Q : Int32 → dM → Prop} (h : c_X11_isWire_0 d x1 m (fun r1 m1 => ((r1.toInt = 0 → Q (-1 : Int32) m1) ∧ (r1.toInt ≠ 0 → c_X3_allFlats_2 d m1 (fun r2 m2 => c_X3_litWithout_2 d ((m2.1 47 3) ||| ((1 : Int32) <<< (x1 &&& 31))) m2 (fun r3 m3 => Q (r2 &&& (r3 ^^^ (-1 : Int32))) m3)))))) : c_X11_without_0 (d + 1) x1 m Q := by
  refine w_aload_n (q := 1) hm268 ⟨⟨_, _, rfl⟩, rfl⟩ rfl ?_
  refine w_iload_n (q := 2) hm268 ⟨⟨_, _, rfl⟩, rfl⟩ rfl ?_
  refine w_call (q := 5) (n := 0) (vs := [.inr (.inr (some 0)), .inl x1]) (rest := []) (la := [oR 0, oI x1]) hm268 ⟨⟨_, _, rfl⟩, rfl⟩ rfl rfl rfl rfl hm249 rfl rfl (fun _ => ⟨_, _, rfl, rfl⟩) rfl (Wp.mono h ?_)
  rintro _ m1 ⟨r1, rfl, h⟩
  change Wp _ _ 5 _ [.inl r1] _ _
  refine w_if_eq (q := 8) (X := r1.toInt) hm268 ⟨⟨_, _, rfl⟩, rfl⟩ rfl (fun hc => ?_) (fun hc => ?_)
  · have h := h.1 hc
    refine w_iconst (q := 40) hm268 ⟨⟨_, _, rfl⟩, rfl⟩ iconst_m1 ?_
    exact w_reti hm268 ⟨⟨_, _, rfl⟩, rfl⟩ rfl h
  · have h := h.2 hc
    refine w_aload_n (q := 9) hm268 ⟨⟨_, _, rfl⟩, rfl⟩ rfl ?_
    refine w_getr (q := 12) hm268 ⟨⟨_, _, rfl⟩, rfl⟩ rfl ?_
    refine w_call (q := 15) (n := 0) (vs := [.inr (.inr (some 2))]) (rest := []) (la := [oR 2]) hm268 ⟨⟨_, _, rfl⟩, rfl⟩ rfl rfl rfl rfl hm173 rfl rfl (fun _ => ⟨_, _, rfl, rfl⟩) rfl (Wp.mono h ?_)
    rintro _ m2 ⟨r2, rfl, h⟩
    change Wp _ _ 15 _ [.inl r2] _ _
    refine w_aload_n (q := 16) hm268 ⟨⟨_, _, rfl⟩, rfl⟩ rfl ?_
    refine w_getr (q := 19) hm268 ⟨⟨_, _, rfl⟩, rfl⟩ rfl ?_
    refine w_aload_n (q := 20) hm268 ⟨⟨_, _, rfl⟩, rfl⟩ rfl ?_
    refine w_getr (q := 23) hm268 ⟨⟨_, _, rfl⟩, rfl⟩ rfl ?_
    refine w_getf (q := 26) (v := (m2.1 47 3)) hm268 ⟨⟨_, _, rfl⟩, rfl⟩ rfl rfl ?_
    refine w_iconst (q := 27) hm268 ⟨⟨_, _, rfl⟩, rfl⟩ iconst_1 ?_
    refine w_iload_n (q := 28) hm268 ⟨⟨_, _, rfl⟩, rfl⟩ rfl ?_
    refine w_ishl (q := 29) hm268 ⟨⟨_, _, rfl⟩, rfl⟩ ?_
    refine w_ior (q := 30) hm268 ⟨⟨_, _, rfl⟩, rfl⟩ ?_
    refine w_call (q := 33) (n := 5) (vs := [.inr (.inr (some 2)), .inl ((m2.1 47 3) ||| ((1 : Int32) <<< (x1 &&& 31)))]) (rest := [.inl r2]) (la := [oR 2, oI ((m2.1 47 3) ||| ((1 : Int32) <<< (x1 &&& 31))), none, none, none, none, none]) hm268 ⟨⟨_, _, rfl⟩, rfl⟩ rfl rfl rfl rfl hm174 rfl rfl (fun _ => ⟨_, _, rfl, rfl⟩) rfl (Wp.mono h ?_)
    rintro _ m3 ⟨r3, rfl, h⟩
    change Wp _ _ 33 _ [.inl r3, .inl r2] _ _
    refine w_iconst (q := 34) hm268 ⟨⟨_, _, rfl⟩, rfl⟩ iconst_m1 ?_
    refine w_ixor (q := 35) hm268 ⟨⟨_, _, rfl⟩, rfl⟩ ?_
    refine w_iand (q := 36) hm268 ⟨⟨_, _, rfl⟩, rfl⟩ ?_
    refine w_goto (q := 40) hm268 ⟨_, _, rfl⟩ ?_
    exact w_reti hm268 ⟨⟨_, _, rfl⟩, rfl⟩ rfl h
theorem v_X12_litBits_70 {d : Nat} {m : dM} {Q : Int32 → dM → Prop} (h : j_X12_litBits_70_4 (d + 1) (0 : Int32) (0 : Int32) m Q) : c_X12_litBits_70 (d + 1) m Q := by
  refine w_iconst (q := 1) hm52 ⟨⟨_, _, rfl⟩, rfl⟩ iconst_0 ?_
  refine w_istore_n (q := 2) (l' := [oR 70, oI (0 : Int32), none]) hm52 ⟨⟨_, _, rfl⟩, rfl⟩ rfl rfl rfl ?_
  refine w_iconst (q := 3) hm52 ⟨⟨_, _, rfl⟩, rfl⟩ iconst_0 ?_
  refine w_istore_n (q := 4) (l' := [oR 70, oI (0 : Int32), oI (0 : Int32)]) hm52 ⟨⟨_, _, rfl⟩, rfl⟩ rfl rfl rfl ?_
  exact h
theorem v_X12_litBits_70_4 {d : Nat} {x1 : Int32} {x2 : Int32} {m : dM} {Q : Int32 → dM → Prop} (h : ((0 ≤ (m.1 70 18).toInt ∧ (m.1 70 18).toInt < 2) ∧ (((m.1 80 (m.1 70 18).toNatClampNeg).toInt ≤ x2.toInt → Q x1 m) ∧ (x2.toInt < (m.1 80 (m.1 70 18).toNatClampNeg).toInt → c_X12_isLit_70 d x2 m (fun r1 m1 => ((r1.toInt = 0 → j_X12_litBits_70_31 (d + 1) x1 x2 m1 Q) ∧ (r1.toInt ≠ 0 → j_X12_litBits_70_31 (d + 1) (x1 ||| ((1 : Int32) <<< (x2 &&& 31))) x2 m1 Q))))))) : j_X12_litBits_70_4 (d + 1) x1 x2 m Q := by
  refine w_iload_n (q := 5) hm52 ⟨⟨_, _, rfl⟩, rfl⟩ rfl ?_
  refine w_aload_n (q := 6) hm52 ⟨⟨_, _, rfl⟩, rfl⟩ rfl ?_
  refine w_getr (q := 9) hm52 ⟨⟨_, _, rfl⟩, rfl⟩ rfl ?_
  refine w_aload_n (q := 10) hm52 ⟨⟨_, _, rfl⟩, rfl⟩ rfl ?_
  refine w_getf (q := 13) (v := (m.1 70 18)) hm52 ⟨⟨_, _, rfl⟩, rfl⟩ rfl rfl ?_
  obtain ⟨hi, h⟩ := h
  refine w_iald (q := 14) (v := (m.1 80 (m.1 70 18).toNatClampNeg)) hm52 ⟨⟨_, _, rfl⟩, rfl⟩ rfl hi rfl rfl ?_
  refine w_icmp_ge (q := 17) (X := x2.toInt) (Y := (m.1 80 (m.1 70 18).toNatClampNeg).toInt) hm52 ⟨⟨_, _, rfl⟩, rfl⟩ rfl rfl (fun hc => ?_) (fun hc => ?_)
  · have h := h.1 hc
    refine w_iload_n (q := 38) hm52 ⟨⟨_, _, rfl⟩, rfl⟩ rfl ?_
    exact w_reti hm52 ⟨⟨_, _, rfl⟩, rfl⟩ rfl h
  · have h := h.2 hc
    refine w_aload_n (q := 18) hm52 ⟨⟨_, _, rfl⟩, rfl⟩ rfl ?_
    refine w_iload_n (q := 19) hm52 ⟨⟨_, _, rfl⟩, rfl⟩ rfl ?_
    refine w_call (q := 22) (n := 0) (vs := [.inr (.inr (some 70)), .inl x2]) (rest := []) (la := [oR 70, oI x2]) hm52 ⟨⟨_, _, rfl⟩, rfl⟩ rfl rfl rfl rfl hm51 rfl rfl (fun _ => ⟨_, _, rfl, rfl⟩) rfl (Wp.mono h ?_)
    rintro _ m1 ⟨r1, rfl, h⟩
    change Wp _ _ 22 _ [.inl r1] _ _
    refine w_if_eq (q := 25) (X := r1.toInt) hm52 ⟨⟨_, _, rfl⟩, rfl⟩ rfl (fun hc => ?_) (fun hc => ?_)
    · have h := h.1 hc
      exact h
    · have h := h.2 hc
      refine w_iload_n (q := 26) hm52 ⟨⟨_, _, rfl⟩, rfl⟩ rfl ?_
      refine w_iconst (q := 27) hm52 ⟨⟨_, _, rfl⟩, rfl⟩ iconst_1 ?_
      refine w_iload_n (q := 28) hm52 ⟨⟨_, _, rfl⟩, rfl⟩ rfl ?_
      refine w_ishl (q := 29) hm52 ⟨⟨_, _, rfl⟩, rfl⟩ ?_
      refine w_ior (q := 30) hm52 ⟨⟨_, _, rfl⟩, rfl⟩ ?_
      refine w_istore_n (q := 31) (l' := [oR 70, oI (x1 ||| ((1 : Int32) <<< (x2 &&& 31))), oI x2]) hm52 ⟨⟨_, _, rfl⟩, rfl⟩ rfl rfl rfl ?_
      exact h
theorem v_X12_litBits_70_31 {d : Nat} {x1 : Int32} {x2 : Int32} {m : dM} {Q : Int32 → dM → Prop} (h : j_X12_litBits_70_4 (d + 1) x1 (x2 + (1 : Int32)) m Q) : j_X12_litBits_70_31 (d + 1) x1 x2 m Q := by
  refine w_iinc (q := 34) (l' := [oR 70, oI x1, oI (x2 + (1 : Int32))]) hm52 ⟨⟨_, _, rfl⟩, rfl⟩ rfl rfl rfl iconst_1 rfl ?_
  refine w_goto (q := 4) hm52 ⟨_, _, rfl⟩ ?_
  exact h
theorem v_X12_darkBits_70 {d : Nat} {m : dM} {Q : Int32 → dM → Prop} (h : ((0 ≤ (m.1 70 18).toInt ∧ (m.1 70 18).toInt < 2) ∧ c_X12_litBits_70 d m (fun r1 m1 => Q ((((1 : Int32) <<< ((m.1 80 (m.1 70 18).toNatClampNeg) &&& 31)) - (1 : Int32)) &&& (r1 ^^^ (-1 : Int32))) m1))) : c_X12_darkBits_70 (d + 1) m Q := by
  refine w_iconst (q := 1) hm98 ⟨⟨_, _, rfl⟩, rfl⟩ iconst_1 ?_
  refine w_aload_n (q := 2) hm98 ⟨⟨_, _, rfl⟩, rfl⟩ rfl ?_
  refine w_getr (q := 5) hm98 ⟨⟨_, _, rfl⟩, rfl⟩ rfl ?_
  refine w_aload_n (q := 6) hm98 ⟨⟨_, _, rfl⟩, rfl⟩ rfl ?_
  refine w_getf (q := 9) (v := (m.1 70 18)) hm98 ⟨⟨_, _, rfl⟩, rfl⟩ rfl rfl ?_
  obtain ⟨hi, h⟩ := h
  refine w_iald (q := 10) (v := (m.1 80 (m.1 70 18).toNatClampNeg)) hm98 ⟨⟨_, _, rfl⟩, rfl⟩ rfl hi rfl rfl ?_
  refine w_ishl (q := 11) hm98 ⟨⟨_, _, rfl⟩, rfl⟩ ?_
  refine w_iconst (q := 12) hm98 ⟨⟨_, _, rfl⟩, rfl⟩ iconst_1 ?_
  refine w_isub (q := 13) hm98 ⟨⟨_, _, rfl⟩, rfl⟩ ?_
  refine w_aload_n (q := 14) hm98 ⟨⟨_, _, rfl⟩, rfl⟩ rfl ?_
  refine w_call (q := 17) (n := 2) (vs := [.inr (.inr (some 70))]) (rest := [.inl (((1 : Int32) <<< ((m.1 80 (m.1 70 18).toNatClampNeg) &&& 31)) - (1 : Int32))]) (la := [oR 70, none, none]) hm98 ⟨⟨_, _, rfl⟩, rfl⟩ rfl rfl rfl rfl hm52 rfl rfl (fun _ => ⟨_, _, rfl, rfl⟩) rfl (Wp.mono h ?_)
  rintro _ m1 ⟨r1, rfl, h⟩
  change Wp _ _ 17 _ [.inl r1, .inl (((1 : Int32) <<< ((m.1 80 (m.1 70 18).toNatClampNeg) &&& 31)) - (1 : Int32))] _ _
  refine w_iconst (q := 18) hm98 ⟨⟨_, _, rfl⟩, rfl⟩ iconst_m1 ?_
  refine w_ixor (q := 19) hm98 ⟨⟨_, _, rfl⟩, rfl⟩ ?_
  refine w_iand (q := 20) hm98 ⟨⟨_, _, rfl⟩, rfl⟩ ?_
  exact w_reti hm98 ⟨⟨_, _, rfl⟩, rfl⟩ rfl h
theorem v_X12_without_70 {d : Nat} {x1 : Int32} {m : dM} {Q : Int32 → dM → Prop} (h : c_X12_isWire_70 d x1 m (fun r1 m1 => ((r1.toInt ≠ 0 → c_X12_loses_70 d ((1 : Int32) <<< (x1 &&& 31)) m1 (fun m2 => c_X12_darkBits_70 d m2 (fun r3 m3 => Q r3 m3))) ∧ (r1.toInt = 0 → Q (-1 : Int32) m1)))) : c_X12_without_70 (d + 1) x1 m Q := by
  refine w_aload_n (q := 1) hm99 ⟨⟨_, _, rfl⟩, rfl⟩ rfl ?_
  refine w_iload_n (q := 2) hm99 ⟨⟨_, _, rfl⟩, rfl⟩ rfl ?_
  refine w_call (q := 5) (n := 0) (vs := [.inr (.inr (some 70)), .inl x1]) (rest := []) (la := [oR 70, oI x1]) hm99 ⟨⟨_, _, rfl⟩, rfl⟩ rfl rfl rfl rfl hm40 rfl rfl (fun _ => ⟨_, _, rfl, rfl⟩) rfl (Wp.mono h ?_)
  rintro _ m1 ⟨r1, rfl, h⟩
  change Wp _ _ 5 _ [.inl r1] _ _
  refine w_if_ne (q := 8) (X := r1.toInt) hm99 ⟨⟨_, _, rfl⟩, rfl⟩ rfl (fun hc => ?_) (fun hc => ?_)
  · have h := h.1 hc
    refine w_aload_n (q := 11) hm99 ⟨⟨_, _, rfl⟩, rfl⟩ rfl ?_
    refine w_iconst (q := 12) hm99 ⟨⟨_, _, rfl⟩, rfl⟩ iconst_1 ?_
    refine w_iload_n (q := 13) hm99 ⟨⟨_, _, rfl⟩, rfl⟩ rfl ?_
    refine w_ishl (q := 14) hm99 ⟨⟨_, _, rfl⟩, rfl⟩ ?_
    refine w_call (q := 17) (n := 1) (vs := [.inr (.inr (some 70)), .inl ((1 : Int32) <<< (x1 &&& 31))]) (rest := []) (la := [oR 70, oI ((1 : Int32) <<< (x1 &&& 31)), none]) hm99 ⟨⟨_, _, rfl⟩, rfl⟩ rfl rfl rfl rfl hm92 rfl rfl (fun _ => ⟨_, _, rfl, rfl⟩) rfl (Wp.mono h ?_)
    rintro _ m2 ⟨rfl, h⟩
    change Wp _ _ 17 _ [] _ _
    refine w_aload_n (q := 18) hm99 ⟨⟨_, _, rfl⟩, rfl⟩ rfl ?_
    refine w_call (q := 21) (n := 0) (vs := [.inr (.inr (some 70))]) (rest := []) (la := [oR 70]) hm99 ⟨⟨_, _, rfl⟩, rfl⟩ rfl rfl rfl rfl hm98 rfl rfl (fun _ => ⟨_, _, rfl, rfl⟩) rfl (Wp.mono h ?_)
    rintro _ m3 ⟨r3, rfl, h⟩
    change Wp _ _ 21 _ [.inl r3] _ _
    exact w_reti hm99 ⟨⟨_, _, rfl⟩, rfl⟩ rfl h
  · have h := h.2 hc
    refine w_iconst (q := 9) hm99 ⟨⟨_, _, rfl⟩, rfl⟩ iconst_m1 ?_
    exact w_reti hm99 ⟨⟨_, _, rfl⟩, rfl⟩ rfl h
theorem v_X11_needed_0 {d : Nat} {m : dM} {Q : Int32 → dM → Prop} (h : c_X3_litWithout_2 d (m.1 47 3) m (fun r1 m1 => j_X11_needed_0_19 (d + 1) r1 (0 : Int32) (0 : Int32) m1 Q)) : c_X11_needed_0 (d + 1) m Q := by
  refine w_aload_n (q := 1) hm269 ⟨⟨_, _, rfl⟩, rfl⟩ rfl ?_
  refine w_getr (q := 4) hm269 ⟨⟨_, _, rfl⟩, rfl⟩ rfl ?_
  refine w_aload_n (q := 5) hm269 ⟨⟨_, _, rfl⟩, rfl⟩ rfl ?_
  refine w_getr (q := 8) hm269 ⟨⟨_, _, rfl⟩, rfl⟩ rfl ?_
  refine w_getf (q := 11) (v := (m.1 47 3)) hm269 ⟨⟨_, _, rfl⟩, rfl⟩ rfl rfl ?_
  refine w_call (q := 14) (n := 5) (vs := [.inr (.inr (some 2)), .inl (m.1 47 3)]) (rest := []) (la := [oR 2, oI (m.1 47 3), none, none, none, none, none]) hm269 ⟨⟨_, _, rfl⟩, rfl⟩ rfl rfl rfl rfl hm174 rfl rfl (fun _ => ⟨_, _, rfl, rfl⟩) rfl (Wp.mono h ?_)
  rintro _ m1 ⟨r1, rfl, h⟩
  change Wp _ _ 14 _ [.inl r1] _ _
  refine w_istore_n (q := 15) (l' := [oR 0, oI r1, none, none]) hm269 ⟨⟨_, _, rfl⟩, rfl⟩ rfl rfl rfl ?_
  refine w_iconst (q := 16) hm269 ⟨⟨_, _, rfl⟩, rfl⟩ iconst_0 ?_
  refine w_istore_n (q := 17) (l' := [oR 0, oI r1, oI (0 : Int32), none]) hm269 ⟨⟨_, _, rfl⟩, rfl⟩ rfl rfl rfl ?_
  refine w_iconst (q := 18) hm269 ⟨⟨_, _, rfl⟩, rfl⟩ iconst_0 ?_
  refine w_istore_n (q := 19) (l' := [oR 0, oI r1, oI (0 : Int32), oI (0 : Int32)]) hm269 ⟨⟨_, _, rfl⟩, rfl⟩ rfl rfl rfl ?_
  exact h
theorem v_X11_needed_0_19 {d : Nat} {x1 : Int32} {x2 : Int32} {x3 : Int32} {m : dM} {Q : Int32 → dM → Prop} (h : (((m.1 2 1).toInt ≤ x3.toInt → Q x2 m) ∧ (x3.toInt < (m.1 2 1).toInt → c_X11_has d (m.1 47 3) x3 m (fun r1 m1 => ((r1.toInt ≠ 0 → j_X11_needed_0_72 (d + 1) x1 x2 x3 m1 Q) ∧ (r1.toInt = 0 → c_X3_litWithout_2 d ((m1.1 47 3) ||| ((1 : Int32) <<< (x3 &&& 31))) m1 (fun r2 m2 => ((r2.toInt = x1.toInt → j_X11_needed_0_72 (d + 1) x1 x2 x3 m2 Q) ∧ (r2.toInt ≠ x1.toInt → j_X11_needed_0_72 (d + 1) x1 (x2 ||| ((1 : Int32) <<< (x3 &&& 31))) x3 m2 Q))))))))) : j_X11_needed_0_19 (d + 1) x1 x2 x3 m Q := by
  refine w_iload_n (q := 20) hm269 ⟨⟨_, _, rfl⟩, rfl⟩ rfl ?_
  refine w_aload_n (q := 21) hm269 ⟨⟨_, _, rfl⟩, rfl⟩ rfl ?_
  refine w_getr (q := 24) hm269 ⟨⟨_, _, rfl⟩, rfl⟩ rfl ?_
  refine w_getf (q := 27) (v := (m.1 2 1)) hm269 ⟨⟨_, _, rfl⟩, rfl⟩ rfl rfl ?_
  refine w_icmp_ge (q := 30) (X := x3.toInt) (Y := (m.1 2 1).toInt) hm269 ⟨⟨_, _, rfl⟩, rfl⟩ rfl rfl (fun hc => ?_) (fun hc => ?_)
  · have h := h.1 hc
    refine w_iload_n (q := 79) hm269 ⟨⟨_, _, rfl⟩, rfl⟩ rfl ?_
    exact w_reti hm269 ⟨⟨_, _, rfl⟩, rfl⟩ rfl h
  · have h := h.2 hc
    refine w_aload_n (q := 31) hm269 ⟨⟨_, _, rfl⟩, rfl⟩ rfl ?_
    refine w_getr (q := 34) hm269 ⟨⟨_, _, rfl⟩, rfl⟩ rfl ?_
    refine w_getf (q := 37) (v := (m.1 47 3)) hm269 ⟨⟨_, _, rfl⟩, rfl⟩ rfl rfl ?_
    refine w_iload_n (q := 38) hm269 ⟨⟨_, _, rfl⟩, rfl⟩ rfl ?_
    refine w_call (q := 41) (n := 0) (vs := [.inl (m.1 47 3), .inl x3]) (rest := []) (la := [oI (m.1 47 3), oI x3]) hm269 ⟨⟨_, _, rfl⟩, rfl⟩ rfl rfl rfl rfl hm283 rfl rfl (fun hz => absurd hz (by decide)) rfl (Wp.mono h ?_)
    rintro _ m1 ⟨r1, rfl, h⟩
    change Wp _ _ 41 _ [.inl r1] _ _
    refine w_if_ne (q := 44) (X := r1.toInt) hm269 ⟨⟨_, _, rfl⟩, rfl⟩ rfl (fun hc => ?_) (fun hc => ?_)
    · have h := h.1 hc
      exact h
    · have h := h.2 hc
      refine w_aload_n (q := 45) hm269 ⟨⟨_, _, rfl⟩, rfl⟩ rfl ?_
      refine w_getr (q := 48) hm269 ⟨⟨_, _, rfl⟩, rfl⟩ rfl ?_
      refine w_aload_n (q := 49) hm269 ⟨⟨_, _, rfl⟩, rfl⟩ rfl ?_
      refine w_getr (q := 52) hm269 ⟨⟨_, _, rfl⟩, rfl⟩ rfl ?_
      refine w_getf (q := 55) (v := (m1.1 47 3)) hm269 ⟨⟨_, _, rfl⟩, rfl⟩ rfl rfl ?_
      refine w_iconst (q := 56) hm269 ⟨⟨_, _, rfl⟩, rfl⟩ iconst_1 ?_
      refine w_iload_n (q := 57) hm269 ⟨⟨_, _, rfl⟩, rfl⟩ rfl ?_
      refine w_ishl (q := 58) hm269 ⟨⟨_, _, rfl⟩, rfl⟩ ?_
      refine w_ior (q := 59) hm269 ⟨⟨_, _, rfl⟩, rfl⟩ ?_
      refine w_call (q := 62) (n := 5) (vs := [.inr (.inr (some 2)), .inl ((m1.1 47 3) ||| ((1 : Int32) <<< (x3 &&& 31)))]) (rest := []) (la := [oR 2, oI ((m1.1 47 3) ||| ((1 : Int32) <<< (x3 &&& 31))), none, none, none, none, none]) hm269 ⟨⟨_, _, rfl⟩, rfl⟩ rfl rfl rfl rfl hm174 rfl rfl (fun _ => ⟨_, _, rfl, rfl⟩) rfl (Wp.mono h ?_)
      rintro _ m2 ⟨r2, rfl, h⟩
      change Wp _ _ 62 _ [.inl r2] _ _
      refine w_iload_n (q := 63) hm269 ⟨⟨_, _, rfl⟩, rfl⟩ rfl ?_
      refine w_icmp_eq (q := 66) (X := r2.toInt) (Y := x1.toInt) hm269 ⟨⟨_, _, rfl⟩, rfl⟩ rfl rfl (fun hc => ?_) (fun hc => ?_)
      · have h := h.1 hc
        exact h
      · have h := h.2 hc
        refine w_iload_n (q := 67) hm269 ⟨⟨_, _, rfl⟩, rfl⟩ rfl ?_
        refine w_iconst (q := 68) hm269 ⟨⟨_, _, rfl⟩, rfl⟩ iconst_1 ?_
        refine w_iload_n (q := 69) hm269 ⟨⟨_, _, rfl⟩, rfl⟩ rfl ?_
        refine w_ishl (q := 70) hm269 ⟨⟨_, _, rfl⟩, rfl⟩ ?_
        refine w_ior (q := 71) hm269 ⟨⟨_, _, rfl⟩, rfl⟩ ?_
        refine w_istore_n (q := 72) (l' := [oR 0, oI x1, oI (x2 ||| ((1 : Int32) <<< (x3 &&& 31))), oI x3]) hm269 ⟨⟨_, _, rfl⟩, rfl⟩ rfl rfl rfl ?_
        exact h
theorem v_X11_needed_0_72 {d : Nat} {x1 : Int32} {x2 : Int32} {x3 : Int32} {m : dM} {Q : Int32 → dM → Prop} (h : j_X11_needed_0_19 (d + 1) x1 x2 (x3 + (1 : Int32)) m Q) : j_X11_needed_0_72 (d + 1) x1 x2 x3 m Q := by
  refine w_iinc (q := 75) (l' := [oR 0, oI x1, oI x2, oI (x3 + (1 : Int32))]) hm269 ⟨⟨_, _, rfl⟩, rfl⟩ rfl rfl rfl iconst_1 rfl ?_
  refine w_goto (q := 19) hm269 ⟨_, _, rfl⟩ ?_
  exact h
theorem v_X12_needed_70 {d : Nat} {m : dM} {Q : Int32 → dM → Prop} (h : c_X12_copies_70 d m (fun m1 => c_X12_darkBits_70 d m1 (fun r2 m2 => j_X12_needed_70_13 (d + 1) r2 (0 : Int32) (0 : Int32) m2 Q))) : c_X12_needed_70 (d + 1) m Q := by
  refine w_aload_n (q := 1) hm100 ⟨⟨_, _, rfl⟩, rfl⟩ rfl ?_
  refine w_call (q := 4) (n := 1) (vs := [.inr (.inr (some 70))]) (rest := []) (la := [oR 70, none]) hm100 ⟨⟨_, _, rfl⟩, rfl⟩ rfl rfl rfl rfl hm44 rfl rfl (fun _ => ⟨_, _, rfl, rfl⟩) rfl (Wp.mono h ?_)
  rintro _ m1 ⟨rfl, h⟩
  change Wp _ _ 4 _ [] _ _
  refine w_aload_n (q := 5) hm100 ⟨⟨_, _, rfl⟩, rfl⟩ rfl ?_
  refine w_call (q := 8) (n := 0) (vs := [.inr (.inr (some 70))]) (rest := []) (la := [oR 70]) hm100 ⟨⟨_, _, rfl⟩, rfl⟩ rfl rfl rfl rfl hm98 rfl rfl (fun _ => ⟨_, _, rfl, rfl⟩) rfl (Wp.mono h ?_)
  rintro _ m2 ⟨r2, rfl, h⟩
  change Wp _ _ 8 _ [.inl r2] _ _
  refine w_istore_n (q := 9) (l' := [oR 70, oI r2, none, none]) hm100 ⟨⟨_, _, rfl⟩, rfl⟩ rfl rfl rfl ?_
  refine w_iconst (q := 10) hm100 ⟨⟨_, _, rfl⟩, rfl⟩ iconst_0 ?_
  refine w_istore_n (q := 11) (l' := [oR 70, oI r2, oI (0 : Int32), none]) hm100 ⟨⟨_, _, rfl⟩, rfl⟩ rfl rfl rfl ?_
  refine w_iconst (q := 12) hm100 ⟨⟨_, _, rfl⟩, rfl⟩ iconst_0 ?_
  refine w_istore_n (q := 13) (l' := [oR 70, oI r2, oI (0 : Int32), oI (0 : Int32)]) hm100 ⟨⟨_, _, rfl⟩, rfl⟩ rfl rfl rfl ?_
  exact h
theorem v_X12_needed_70_13 {d : Nat} {x1 : Int32} {x2 : Int32} {x3 : Int32} {m : dM} {Q : Int32 → dM → Prop} (h : ((0 ≤ (m.1 70 18).toInt ∧ (m.1 70 18).toInt < 2) ∧ (((m.1 82 (m.1 70 18).toNatClampNeg).toInt ≤ x3.toInt → Q x2 m) ∧ (x3.toInt < (m.1 82 (m.1 70 18).toNatClampNeg).toInt → ((0 ≤ ((10 : Int32) + x3).toInt ∧ ((10 : Int32) + x3).toInt < 58) ∧ (((m.1 107 ((10 : Int32) + x3).toNatClampNeg).toInt ≠ 1 → c_X12_loses_70 d ((1 : Int32) <<< (x3 &&& 31)) m (fun m1 => c_X12_darkBits_70 d m1 (fun r2 m2 => ((r2.toInt = x1.toInt → j_X12_needed_70_63 (d + 1) x1 x2 x3 m2 Q) ∧ (r2.toInt ≠ x1.toInt → j_X12_needed_70_63 (d + 1) x1 (x2 ||| ((1 : Int32) <<< (x3 &&& 31))) x3 m2 Q))))) ∧ ((m.1 107 ((10 : Int32) + x3).toNatClampNeg).toInt = 1 → j_X12_needed_70_63 (d + 1) x1 x2 x3 m Q))))))) : j_X12_needed_70_13 (d + 1) x1 x2 x3 m Q := by
  refine w_iload_n (q := 14) hm100 ⟨⟨_, _, rfl⟩, rfl⟩ rfl ?_
  refine w_aload_n (q := 15) hm100 ⟨⟨_, _, rfl⟩, rfl⟩ rfl ?_
  refine w_getr (q := 18) hm100 ⟨⟨_, _, rfl⟩, rfl⟩ rfl ?_
  refine w_aload_n (q := 19) hm100 ⟨⟨_, _, rfl⟩, rfl⟩ rfl ?_
  refine w_getf (q := 22) (v := (m.1 70 18)) hm100 ⟨⟨_, _, rfl⟩, rfl⟩ rfl rfl ?_
  obtain ⟨hi, h⟩ := h
  refine w_iald (q := 23) (v := (m.1 82 (m.1 70 18).toNatClampNeg)) hm100 ⟨⟨_, _, rfl⟩, rfl⟩ rfl hi rfl rfl ?_
  refine w_icmp_ge (q := 26) (X := x3.toInt) (Y := (m.1 82 (m.1 70 18).toNatClampNeg).toInt) hm100 ⟨⟨_, _, rfl⟩, rfl⟩ rfl rfl (fun hc => ?_) (fun hc => ?_)
  · have h := h.1 hc
    refine w_iload_n (q := 70) hm100 ⟨⟨_, _, rfl⟩, rfl⟩ rfl ?_
    exact w_reti hm100 ⟨⟨_, _, rfl⟩, rfl⟩ rfl h
  · have h := h.2 hc
    refine w_aload_n (q := 27) hm100 ⟨⟨_, _, rfl⟩, rfl⟩ rfl ?_
    refine w_getr (q := 30) hm100 ⟨⟨_, _, rfl⟩, rfl⟩ rfl ?_
    refine w_bipush (q := 32) hm100 ⟨⟨_, _, rfl⟩, rfl⟩ bipush_10 ?_
    refine w_iload_n (q := 33) hm100 ⟨⟨_, _, rfl⟩, rfl⟩ rfl ?_
    refine w_iadd (q := 34) hm100 ⟨⟨_, _, rfl⟩, rfl⟩ ?_
    obtain ⟨hi, h⟩ := h
    refine w_iald (q := 35) (v := (m.1 107 ((10 : Int32) + x3).toNatClampNeg)) hm100 ⟨⟨_, _, rfl⟩, rfl⟩ rfl hi rfl rfl ?_
    refine w_iconst (q := 36) hm100 ⟨⟨_, _, rfl⟩, rfl⟩ iconst_1 ?_
    refine w_icmp_ne (q := 39) (X := (m.1 107 ((10 : Int32) + x3).toNatClampNeg).toInt) (Y := 1) hm100 ⟨⟨_, _, rfl⟩, rfl⟩ rfl (by decide) (fun hc => ?_) (fun hc => ?_)
    · have h := h.1 hc
      refine w_aload_n (q := 43) hm100 ⟨⟨_, _, rfl⟩, rfl⟩ rfl ?_
      refine w_iconst (q := 44) hm100 ⟨⟨_, _, rfl⟩, rfl⟩ iconst_1 ?_
      refine w_iload_n (q := 45) hm100 ⟨⟨_, _, rfl⟩, rfl⟩ rfl ?_
      refine w_ishl (q := 46) hm100 ⟨⟨_, _, rfl⟩, rfl⟩ ?_
      refine w_call (q := 49) (n := 1) (vs := [.inr (.inr (some 70)), .inl ((1 : Int32) <<< (x3 &&& 31))]) (rest := []) (la := [oR 70, oI ((1 : Int32) <<< (x3 &&& 31)), none]) hm100 ⟨⟨_, _, rfl⟩, rfl⟩ rfl rfl rfl rfl hm92 rfl rfl (fun _ => ⟨_, _, rfl, rfl⟩) rfl (Wp.mono h ?_)
      rintro _ m1 ⟨rfl, h⟩
      change Wp _ _ 49 _ [] _ _
      refine w_aload_n (q := 50) hm100 ⟨⟨_, _, rfl⟩, rfl⟩ rfl ?_
      refine w_call (q := 53) (n := 0) (vs := [.inr (.inr (some 70))]) (rest := []) (la := [oR 70]) hm100 ⟨⟨_, _, rfl⟩, rfl⟩ rfl rfl rfl rfl hm98 rfl rfl (fun _ => ⟨_, _, rfl, rfl⟩) rfl (Wp.mono h ?_)
      rintro _ m2 ⟨r2, rfl, h⟩
      change Wp _ _ 53 _ [.inl r2] _ _
      refine w_iload_n (q := 54) hm100 ⟨⟨_, _, rfl⟩, rfl⟩ rfl ?_
      refine w_icmp_eq (q := 57) (X := r2.toInt) (Y := x1.toInt) hm100 ⟨⟨_, _, rfl⟩, rfl⟩ rfl rfl (fun hc => ?_) (fun hc => ?_)
      · have h := h.1 hc
        exact h
      · have h := h.2 hc
        refine w_iload_n (q := 58) hm100 ⟨⟨_, _, rfl⟩, rfl⟩ rfl ?_
        refine w_iconst (q := 59) hm100 ⟨⟨_, _, rfl⟩, rfl⟩ iconst_1 ?_
        refine w_iload_n (q := 60) hm100 ⟨⟨_, _, rfl⟩, rfl⟩ rfl ?_
        refine w_ishl (q := 61) hm100 ⟨⟨_, _, rfl⟩, rfl⟩ ?_
        refine w_ior (q := 62) hm100 ⟨⟨_, _, rfl⟩, rfl⟩ ?_
        refine w_istore_n (q := 63) (l' := [oR 70, oI x1, oI (x2 ||| ((1 : Int32) <<< (x3 &&& 31))), oI x3]) hm100 ⟨⟨_, _, rfl⟩, rfl⟩ rfl rfl rfl ?_
        exact h
    · have h := h.2 hc
      refine w_goto (q := 63) hm100 ⟨_, _, rfl⟩ ?_
      exact h
theorem v_X12_needed_70_63 {d : Nat} {x1 : Int32} {x2 : Int32} {x3 : Int32} {m : dM} {Q : Int32 → dM → Prop} (h : j_X12_needed_70_13 (d + 1) x1 x2 (x3 + (1 : Int32)) m Q) : j_X12_needed_70_63 (d + 1) x1 x2 x3 m Q := by
  refine w_iinc (q := 66) (l' := [oR 70, oI x1, oI x2, oI (x3 + (1 : Int32))]) hm100 ⟨⟨_, _, rfl⟩, rfl⟩ rfl rfl rfl iconst_1 rfl ?_
  refine w_goto (q := 13) hm100 ⟨_, _, rfl⟩ ?_
  exact h
theorem v_X11_hottest_0 {d : Nat} {x1 : Int32} {m : dM} {Q : Int32 → dM → Prop} (h : ((x1.toInt < 0 → j_X11_hottest_0_9 (d + 1) m Q) ∧ (0 ≤ x1.toInt → ((x1.toInt ≤ 1 → c_X0_usesNow_54_47 d m (fun r1 m1 => c_X0_putOn_54_47 d r1 m1 (fun m2 => j_X11_hottest_0_42 (d + 1) x1 (-1 : Int32) (0 : Int32) (0 : Int32) m2 Q))) ∧ (1 < x1.toInt → j_X11_hottest_0_9 (d + 1) m Q))))) : c_X11_hottest_0 (d + 1) x1 m Q := by
  refine w_iload_n (q := 1) hm270 ⟨⟨_, _, rfl⟩, rfl⟩ rfl ?_
  refine w_if_lt (q := 4) (X := x1.toInt) hm270 ⟨⟨_, _, rfl⟩, rfl⟩ rfl (fun hc => ?_) (fun hc => ?_)
  · have h := h.1 hc
    exact Wp.wk [false, false, false, false, false, false] h
  · have h := h.2 hc
    refine w_iload_n (q := 5) hm270 ⟨⟨_, _, rfl⟩, rfl⟩ rfl ?_
    refine w_iconst (q := 6) hm270 ⟨⟨_, _, rfl⟩, rfl⟩ iconst_1 ?_
    refine w_icmp_le (q := 9) (X := x1.toInt) (Y := 1) hm270 ⟨⟨_, _, rfl⟩, rfl⟩ rfl (by decide) (fun hc => ?_) (fun hc => ?_)
    · have h := h.1 hc
      refine w_aload_n (q := 14) hm270 ⟨⟨_, _, rfl⟩, rfl⟩ rfl ?_
      refine w_getr (q := 17) hm270 ⟨⟨_, _, rfl⟩, rfl⟩ rfl ?_
      refine w_aload_n (q := 18) hm270 ⟨⟨_, _, rfl⟩, rfl⟩ rfl ?_
      refine w_getr (q := 21) hm270 ⟨⟨_, _, rfl⟩, rfl⟩ rfl ?_
      refine w_aload_n (q := 22) hm270 ⟨⟨_, _, rfl⟩, rfl⟩ rfl ?_
      refine w_getr (q := 25) hm270 ⟨⟨_, _, rfl⟩, rfl⟩ rfl ?_
      refine w_aload_n (q := 26) hm270 ⟨⟨_, _, rfl⟩, rfl⟩ rfl ?_
      refine w_getr (q := 29) hm270 ⟨⟨_, _, rfl⟩, rfl⟩ rfl ?_
      refine w_call (q := 32) (n := 0) (vs := [.inr (.inr (some 54)), .inr (.inr (some 47))]) (rest := [.inr (.inr (some 47)), .inr (.inr (some 54))]) (la := [oR 54, oR 47]) hm270 ⟨⟨_, _, rfl⟩, rfl⟩ rfl rfl rfl rfl hm117 rfl rfl (fun _ => ⟨_, _, rfl, rfl⟩) rfl (Wp.mono h ?_)
      rintro _ m1 ⟨r1, rfl, h⟩
      change Wp _ _ 32 _ [.inl r1, .inr (.inr (some 47)), .inr (.inr (some 54))] _ _
      refine w_call (q := 35) (n := 3) (vs := [.inr (.inr (some 54)), .inr (.inr (some 47)), .inl r1]) (rest := []) (la := [oR 54, oR 47, oI r1, none, none, none]) hm270 ⟨⟨_, _, rfl⟩, rfl⟩ rfl rfl rfl rfl hm120 rfl rfl (fun _ => ⟨_, _, rfl, rfl⟩) rfl (Wp.mono h ?_)
      rintro _ m2 ⟨rfl, h⟩
      change Wp _ _ 35 _ [] _ _
      refine w_iconst (q := 36) hm270 ⟨⟨_, _, rfl⟩, rfl⟩ iconst_m1 ?_
      refine w_istore_n (q := 37) (l' := [oR 0, oI x1, oI (-1 : Int32), none, none, none]) hm270 ⟨⟨_, _, rfl⟩, rfl⟩ rfl rfl rfl ?_
      refine w_iconst (q := 38) hm270 ⟨⟨_, _, rfl⟩, rfl⟩ iconst_0 ?_
      refine w_istore_n (q := 39) (l' := [oR 0, oI x1, oI (-1 : Int32), oI (0 : Int32), none, none]) hm270 ⟨⟨_, _, rfl⟩, rfl⟩ rfl rfl rfl ?_
      refine w_iconst (q := 40) hm270 ⟨⟨_, _, rfl⟩, rfl⟩ iconst_0 ?_
      refine w_istore (q := 42) (l' := [oR 0, oI x1, oI (-1 : Int32), oI (0 : Int32), oI (0 : Int32), none]) hm270 ⟨⟨_, _, rfl⟩, rfl⟩ rfl rfl rfl ?_
      exact h
    · have h := h.2 hc
      exact Wp.wk [false, false, false, false, false, false] h
theorem v_X11_hottest_0_9 {d : Nat} {m : dM} {Q : Int32 → dM → Prop} (h : Q (-1000 : Int32) m) : j_X11_hottest_0_9 (d + 1) m Q := by
  refine w_sipush (q := 12) hm270 ⟨⟨_, _, rfl⟩, rfl⟩ sipush_m1000 ?_
  exact w_reti hm270 ⟨⟨_, _, rfl⟩, rfl⟩ rfl h
theorem v_X11_hottest_0_42 {d : Nat} {x1 : Int32} {x2 : Int32} {x3 : Int32} {x4 : Int32} {m : dM} {Q : Int32 → dM → Prop} (h : (((m.1 2 1).toInt ≤ x4.toInt → ((x2.toInt ≠ (-1) → ((x1.toInt ≠ 0 → Q x3 m) ∧ (x1.toInt = 0 → Q x2 m))) ∧ (x2.toInt = (-1) → Q (-2000 : Int32) m))) ∧ (x4.toInt < (m.1 2 1).toInt → ((0 ≤ x4.toInt ∧ x4.toInt < 10) ∧ ((0 ≤ x4.toInt ∧ x4.toInt < 10) ∧ c_X11_has d (m.1 47 3) x4 m (fun r1 m1 => ((r1.toInt ≠ 0 → j_X11_hottest_0_109 (d + 1) x1 x2 x3 x4 m1 Q) ∧ (r1.toInt = 0 → ((x2.toInt = (-1) → j_X11_hottest_0_103 (d + 1) x1 x4 ((m.1 56 x4.toNatClampNeg) - (m.1 48 x4.toNatClampNeg)) m1 Q) ∧ (x2.toInt ≠ (-1) → ((((m.1 56 x4.toNatClampNeg) - (m.1 48 x4.toNatClampNeg)).toInt ≤ x3.toInt → j_X11_hottest_0_109 (d + 1) x1 x2 x3 x4 m1 Q) ∧ (x3.toInt < ((m.1 56 x4.toNatClampNeg) - (m.1 48 x4.toNatClampNeg)).toInt → j_X11_hottest_0_103 (d + 1) x1 x4 ((m.1 56 x4.toNatClampNeg) - (m.1 48 x4.toNatClampNeg)) m1 Q)))))))))))) : j_X11_hottest_0_42 (d + 1) x1 x2 x3 x4 m Q := by
  refine w_iload (q := 44) hm270 ⟨⟨_, _, rfl⟩, rfl⟩ rfl ?_
  refine w_aload_n (q := 45) hm270 ⟨⟨_, _, rfl⟩, rfl⟩ rfl ?_
  refine w_getr (q := 48) hm270 ⟨⟨_, _, rfl⟩, rfl⟩ rfl ?_
  refine w_getf (q := 51) (v := (m.1 2 1)) hm270 ⟨⟨_, _, rfl⟩, rfl⟩ rfl rfl ?_
  refine w_icmp_ge (q := 54) (X := x4.toInt) (Y := (m.1 2 1).toInt) hm270 ⟨⟨_, _, rfl⟩, rfl⟩ rfl rfl (fun hc => ?_) (fun hc => ?_)
  · have h := h.1 hc
    refine w_iload_n (q := 116) hm270 ⟨⟨_, _, rfl⟩, rfl⟩ rfl ?_
    refine w_iconst (q := 117) hm270 ⟨⟨_, _, rfl⟩, rfl⟩ iconst_m1 ?_
    refine w_icmp_ne (q := 120) (X := x2.toInt) (Y := (-1)) hm270 ⟨⟨_, _, rfl⟩, rfl⟩ rfl (by decide) (fun hc => ?_) (fun hc => ?_)
    · have h := h.1 hc
      refine w_iload_n (q := 125) hm270 ⟨⟨_, _, rfl⟩, rfl⟩ rfl ?_
      refine w_if_ne (q := 128) (X := x1.toInt) hm270 ⟨⟨_, _, rfl⟩, rfl⟩ rfl (fun hc => ?_) (fun hc => ?_)
      · have h := h.1 hc
        refine w_iload_n (q := 133) hm270 ⟨⟨_, _, rfl⟩, rfl⟩ rfl ?_
        exact w_reti hm270 ⟨⟨_, _, rfl⟩, rfl⟩ rfl h
      · have h := h.2 hc
        refine w_iload_n (q := 129) hm270 ⟨⟨_, _, rfl⟩, rfl⟩ rfl ?_
        refine w_goto (q := 133) hm270 ⟨_, _, rfl⟩ ?_
        exact w_reti hm270 ⟨⟨_, _, rfl⟩, rfl⟩ rfl h
    · have h := h.2 hc
      refine w_sipush (q := 123) hm270 ⟨⟨_, _, rfl⟩, rfl⟩ sipush_m2000 ?_
      exact w_reti hm270 ⟨⟨_, _, rfl⟩, rfl⟩ rfl h
  · have h := h.2 hc
    refine w_aload_n (q := 55) hm270 ⟨⟨_, _, rfl⟩, rfl⟩ rfl ?_
    refine w_getr (q := 58) hm270 ⟨⟨_, _, rfl⟩, rfl⟩ rfl ?_
    refine w_getr (q := 61) hm270 ⟨⟨_, _, rfl⟩, rfl⟩ rfl ?_
    refine w_iload (q := 63) hm270 ⟨⟨_, _, rfl⟩, rfl⟩ rfl ?_
    obtain ⟨hi, h⟩ := h
    refine w_iald (q := 64) (v := (m.1 56 x4.toNatClampNeg)) hm270 ⟨⟨_, _, rfl⟩, rfl⟩ rfl hi rfl rfl ?_
    refine w_aload_n (q := 65) hm270 ⟨⟨_, _, rfl⟩, rfl⟩ rfl ?_
    refine w_getr (q := 68) hm270 ⟨⟨_, _, rfl⟩, rfl⟩ rfl ?_
    refine w_getr (q := 71) hm270 ⟨⟨_, _, rfl⟩, rfl⟩ rfl ?_
    refine w_iload (q := 73) hm270 ⟨⟨_, _, rfl⟩, rfl⟩ rfl ?_
    obtain ⟨hi, h⟩ := h
    refine w_iald (q := 74) (v := (m.1 48 x4.toNatClampNeg)) hm270 ⟨⟨_, _, rfl⟩, rfl⟩ rfl hi rfl rfl ?_
    refine w_isub (q := 75) hm270 ⟨⟨_, _, rfl⟩, rfl⟩ ?_
    refine w_istore (q := 77) (l' := [oR 0, oI x1, oI x2, oI x3, oI x4, oI ((m.1 56 x4.toNatClampNeg) - (m.1 48 x4.toNatClampNeg))]) hm270 ⟨⟨_, _, rfl⟩, rfl⟩ rfl rfl rfl ?_
    refine w_aload_n (q := 78) hm270 ⟨⟨_, _, rfl⟩, rfl⟩ rfl ?_
    refine w_getr (q := 81) hm270 ⟨⟨_, _, rfl⟩, rfl⟩ rfl ?_
    refine w_getf (q := 84) (v := (m.1 47 3)) hm270 ⟨⟨_, _, rfl⟩, rfl⟩ rfl rfl ?_
    refine w_iload (q := 86) hm270 ⟨⟨_, _, rfl⟩, rfl⟩ rfl ?_
    refine w_call (q := 89) (n := 0) (vs := [.inl (m.1 47 3), .inl x4]) (rest := []) (la := [oI (m.1 47 3), oI x4]) hm270 ⟨⟨_, _, rfl⟩, rfl⟩ rfl rfl rfl rfl hm283 rfl rfl (fun hz => absurd hz (by decide)) rfl (Wp.mono h ?_)
    rintro _ m1 ⟨r1, rfl, h⟩
    change Wp _ _ 89 _ [.inl r1] _ _
    refine w_if_ne (q := 92) (X := r1.toInt) hm270 ⟨⟨_, _, rfl⟩, rfl⟩ rfl (fun hc => ?_) (fun hc => ?_)
    · have h := h.1 hc
      exact Wp.wk [true, true, true, true, true, false] h
    · have h := h.2 hc
      refine w_iload_n (q := 93) hm270 ⟨⟨_, _, rfl⟩, rfl⟩ rfl ?_
      refine w_iconst (q := 94) hm270 ⟨⟨_, _, rfl⟩, rfl⟩ iconst_m1 ?_
      refine w_icmp_eq (q := 97) (X := x2.toInt) (Y := (-1)) hm270 ⟨⟨_, _, rfl⟩, rfl⟩ rfl (by decide) (fun hc => ?_) (fun hc => ?_)
      · have h := h.1 hc
        exact Wp.wk [true, true, false, false, true, true] h
      · have h := h.2 hc
        refine w_iload (q := 99) hm270 ⟨⟨_, _, rfl⟩, rfl⟩ rfl ?_
        refine w_iload_n (q := 100) hm270 ⟨⟨_, _, rfl⟩, rfl⟩ rfl ?_
        refine w_icmp_le (q := 103) (X := ((m.1 56 x4.toNatClampNeg) - (m.1 48 x4.toNatClampNeg)).toInt) (Y := x3.toInt) hm270 ⟨⟨_, _, rfl⟩, rfl⟩ rfl rfl (fun hc => ?_) (fun hc => ?_)
        · have h := h.1 hc
          exact Wp.wk [true, true, true, true, true, false] h
        · have h := h.2 hc
          exact Wp.wk [true, true, false, false, true, true] h
theorem v_X11_hottest_0_103 {d : Nat} {x1 : Int32} {x4 : Int32} {x5 : Int32} {m : dM} {Q : Int32 → dM → Prop} (h : j_X11_hottest_0_109 (d + 1) x1 x4 x5 x4 m Q) : j_X11_hottest_0_103 (d + 1) x1 x4 x5 m Q := by
  refine w_iload (q := 105) hm270 ⟨⟨_, _, rfl⟩, rfl⟩ rfl ?_
  refine w_istore_n (q := 106) (l' := [oR 0, oI x1, oI x4, none, oI x4, oI x5]) hm270 ⟨⟨_, _, rfl⟩, rfl⟩ rfl rfl rfl ?_
  refine w_iload (q := 108) hm270 ⟨⟨_, _, rfl⟩, rfl⟩ rfl ?_
  refine w_istore_n (q := 109) (l' := [oR 0, oI x1, oI x4, oI x5, oI x4, oI x5]) hm270 ⟨⟨_, _, rfl⟩, rfl⟩ rfl rfl rfl ?_
  exact Wp.wk [true, true, true, true, true, false] h
theorem v_X11_hottest_0_109 {d : Nat} {x1 : Int32} {x2 : Int32} {x3 : Int32} {x4 : Int32} {m : dM} {Q : Int32 → dM → Prop} (h : j_X11_hottest_0_42 (d + 1) x1 x2 x3 (x4 + (1 : Int32)) m Q) : j_X11_hottest_0_109 (d + 1) x1 x2 x3 x4 m Q := by
  refine w_iinc (q := 112) (l' := [oR 0, oI x1, oI x2, oI x3, oI (x4 + (1 : Int32)), none]) hm270 ⟨⟨_, _, rfl⟩, rfl⟩ rfl rfl rfl iconst_1 rfl ?_
  refine w_goto (q := 42) hm270 ⟨_, _, rfl⟩ ?_
  exact h
theorem v_X12_hottest_70 {d : Nat} {x1 : Int32} {m : dM} {Q : Int32 → dM → Prop} (h : c_X12_in d x1 (0 : Int32) (1 : Int32) m (fun r1 m1 => ((r1.toInt ≠ 0 → c_X12_copies_70 d m1 (fun m2 => c_X12_onNow_70 d m2 (fun r3 m3 => j_X12_hottest_70_34 (d + 1) x1 r3 (-2000 : Int32) (-2000 : Int32) (0 : Int32) m3 Q))) ∧ (r1.toInt = 0 → Q (-1000 : Int32) m1)))) : c_X12_hottest_70 (d + 1) x1 m Q := by
  refine w_iload_n (q := 1) hm101 ⟨⟨_, _, rfl⟩, rfl⟩ rfl ?_
  refine w_iconst (q := 2) hm101 ⟨⟨_, _, rfl⟩, rfl⟩ iconst_0 ?_
  refine w_iconst (q := 3) hm101 ⟨⟨_, _, rfl⟩, rfl⟩ iconst_1 ?_
  refine w_call (q := 6) (n := 0) (vs := [.inl x1, .inl (0 : Int32), .inl (1 : Int32)]) (rest := []) (la := [oI x1, oI (0 : Int32), oI (1 : Int32)]) hm101 ⟨⟨_, _, rfl⟩, rfl⟩ rfl rfl rfl rfl hm36 rfl rfl (fun hz => absurd hz (by decide)) rfl (Wp.mono h ?_)
  rintro _ m1 ⟨r1, rfl, h⟩
  change Wp _ _ 6 _ [.inl r1] _ _
  refine w_if_ne (q := 9) (X := r1.toInt) hm101 ⟨⟨_, _, rfl⟩, rfl⟩ rfl (fun hc => ?_) (fun hc => ?_)
  · have h := h.1 hc
    refine w_aload_n (q := 14) hm101 ⟨⟨_, _, rfl⟩, rfl⟩ rfl ?_
    refine w_call (q := 17) (n := 1) (vs := [.inr (.inr (some 70))]) (rest := []) (la := [oR 70, none]) hm101 ⟨⟨_, _, rfl⟩, rfl⟩ rfl rfl rfl rfl hm44 rfl rfl (fun _ => ⟨_, _, rfl, rfl⟩) rfl (Wp.mono h ?_)
    rintro _ m2 ⟨rfl, h⟩
    change Wp _ _ 17 _ [] _ _
    refine w_aload_n (q := 18) hm101 ⟨⟨_, _, rfl⟩, rfl⟩ rfl ?_
    refine w_call (q := 21) (n := 0) (vs := [.inr (.inr (some 70))]) (rest := []) (la := [oR 70]) hm101 ⟨⟨_, _, rfl⟩, rfl⟩ rfl rfl rfl rfl hm56 rfl rfl (fun _ => ⟨_, _, rfl, rfl⟩) rfl (Wp.mono h ?_)
    rintro _ m3 ⟨r3, rfl, h⟩
    change Wp _ _ 21 _ [.inl r3] _ _
    refine w_istore_n (q := 22) (l' := [oR 70, oI x1, oI r3, none, none, none, none]) hm101 ⟨⟨_, _, rfl⟩, rfl⟩ rfl rfl rfl ?_
    refine w_sipush (q := 25) hm101 ⟨⟨_, _, rfl⟩, rfl⟩ sipush_m2000 ?_
    refine w_istore_n (q := 26) (l' := [oR 70, oI x1, oI r3, oI (-2000 : Int32), none, none, none]) hm101 ⟨⟨_, _, rfl⟩, rfl⟩ rfl rfl rfl ?_
    refine w_sipush (q := 29) hm101 ⟨⟨_, _, rfl⟩, rfl⟩ sipush_m2000 ?_
    refine w_istore (q := 31) (l' := [oR 70, oI x1, oI r3, oI (-2000 : Int32), oI (-2000 : Int32), none, none]) hm101 ⟨⟨_, _, rfl⟩, rfl⟩ rfl rfl rfl ?_
    refine w_iconst (q := 32) hm101 ⟨⟨_, _, rfl⟩, rfl⟩ iconst_0 ?_
    refine w_istore (q := 34) (l' := [oR 70, oI x1, oI r3, oI (-2000 : Int32), oI (-2000 : Int32), oI (0 : Int32), none]) hm101 ⟨⟨_, _, rfl⟩, rfl⟩ rfl rfl rfl ?_
    exact h
  · have h := h.2 hc
    refine w_sipush (q := 12) hm101 ⟨⟨_, _, rfl⟩, rfl⟩ sipush_m1000 ?_
    exact w_reti hm101 ⟨⟨_, _, rfl⟩, rfl⟩ rfl h
theorem v_X12_hottest_70_34 {d : Nat} {x1 : Int32} {x2 : Int32} {x3 : Int32} {x4 : Int32} {x5 : Int32} {m : dM} {Q : Int32 → dM → Prop} (h : ((0 ≤ (m.1 70 18).toInt ∧ (m.1 70 18).toInt < 2) ∧ (((m.1 82 (m.1 70 18).toNatClampNeg).toInt ≤ x5.toInt → ((x1.toInt ≠ 0 → Q x4 m) ∧ (x1.toInt = 0 → Q x3 m))) ∧ (x5.toInt < (m.1 82 (m.1 70 18).toNatClampNeg).toInt → c_X12_loadBy_70 d x5 x2 m (fun r1 m1 => ((0 ≤ x5.toInt ∧ x5.toInt < 58) ∧ c_X12_isWhole_70 d x5 m1 (fun r2 m2 => ((r2.toInt = 0 → j_X12_hottest_70_95 (d + 1) x1 x2 x3 x4 x5 m2 Q) ∧ (r2.toInt ≠ 0 → ((x3.toInt < 0 → j_X12_hottest_70_88 (d + 1) x1 x2 x5 (r1 - (m1.1 108 x5.toNatClampNeg)) m2 Q) ∧ (0 ≤ x3.toInt → ((x4.toInt < (r1 - (m1.1 108 x5.toNatClampNeg)).toInt → j_X12_hottest_70_88 (d + 1) x1 x2 x5 (r1 - (m1.1 108 x5.toNatClampNeg)) m2 Q) ∧ ((r1 - (m1.1 108 x5.toNatClampNeg)).toInt ≤ x4.toInt → j_X12_hottest_70_95 (d + 1) x1 x2 x3 x4 x5 m2 Q))))))))))))) : j_X12_hottest_70_34 (d + 1) x1 x2 x3 x4 x5 m Q := by
  refine w_iload (q := 36) hm101 ⟨⟨_, _, rfl⟩, rfl⟩ rfl ?_
  refine w_aload_n (q := 37) hm101 ⟨⟨_, _, rfl⟩, rfl⟩ rfl ?_
  refine w_getr (q := 40) hm101 ⟨⟨_, _, rfl⟩, rfl⟩ rfl ?_
  refine w_aload_n (q := 41) hm101 ⟨⟨_, _, rfl⟩, rfl⟩ rfl ?_
  refine w_getf (q := 44) (v := (m.1 70 18)) hm101 ⟨⟨_, _, rfl⟩, rfl⟩ rfl rfl ?_
  obtain ⟨hi, h⟩ := h
  refine w_iald (q := 45) (v := (m.1 82 (m.1 70 18).toNatClampNeg)) hm101 ⟨⟨_, _, rfl⟩, rfl⟩ rfl hi rfl rfl ?_
  refine w_icmp_ge (q := 48) (X := x5.toInt) (Y := (m.1 82 (m.1 70 18).toNatClampNeg).toInt) hm101 ⟨⟨_, _, rfl⟩, rfl⟩ rfl rfl (fun hc => ?_) (fun hc => ?_)
  · have h := h.1 hc
    refine w_iload_n (q := 102) hm101 ⟨⟨_, _, rfl⟩, rfl⟩ rfl ?_
    refine w_if_ne (q := 105) (X := x1.toInt) hm101 ⟨⟨_, _, rfl⟩, rfl⟩ rfl (fun hc => ?_) (fun hc => ?_)
    · have h := h.1 hc
      refine w_iload (q := 111) hm101 ⟨⟨_, _, rfl⟩, rfl⟩ rfl ?_
      exact w_reti hm101 ⟨⟨_, _, rfl⟩, rfl⟩ rfl h
    · have h := h.2 hc
      refine w_iload_n (q := 106) hm101 ⟨⟨_, _, rfl⟩, rfl⟩ rfl ?_
      refine w_goto (q := 111) hm101 ⟨_, _, rfl⟩ ?_
      exact w_reti hm101 ⟨⟨_, _, rfl⟩, rfl⟩ rfl h
  · have h := h.2 hc
    refine w_aload_n (q := 49) hm101 ⟨⟨_, _, rfl⟩, rfl⟩ rfl ?_
    refine w_iload (q := 51) hm101 ⟨⟨_, _, rfl⟩, rfl⟩ rfl ?_
    refine w_iload_n (q := 52) hm101 ⟨⟨_, _, rfl⟩, rfl⟩ rfl ?_
    refine w_call (q := 55) (n := 2) (vs := [.inr (.inr (some 70)), .inl x5, .inl x2]) (rest := []) (la := [oR 70, oI x5, oI x2, none, none]) hm101 ⟨⟨_, _, rfl⟩, rfl⟩ rfl rfl rfl rfl hm57 rfl rfl (fun _ => ⟨_, _, rfl, rfl⟩) rfl (Wp.mono h ?_)
    rintro _ m1 ⟨r1, rfl, h⟩
    change Wp _ _ 55 _ [.inl r1] _ _
    refine w_aload_n (q := 56) hm101 ⟨⟨_, _, rfl⟩, rfl⟩ rfl ?_
    refine w_getr (q := 59) hm101 ⟨⟨_, _, rfl⟩, rfl⟩ rfl ?_
    refine w_iload (q := 61) hm101 ⟨⟨_, _, rfl⟩, rfl⟩ rfl ?_
    obtain ⟨hi, h⟩ := h
    refine w_iald (q := 62) (v := (m1.1 108 x5.toNatClampNeg)) hm101 ⟨⟨_, _, rfl⟩, rfl⟩ rfl hi rfl rfl ?_
    refine w_isub (q := 63) hm101 ⟨⟨_, _, rfl⟩, rfl⟩ ?_
    refine w_istore (q := 65) (l' := [oR 70, oI x1, oI x2, oI x3, oI x4, oI x5, oI (r1 - (m1.1 108 x5.toNatClampNeg))]) hm101 ⟨⟨_, _, rfl⟩, rfl⟩ rfl rfl rfl ?_
    refine w_aload_n (q := 66) hm101 ⟨⟨_, _, rfl⟩, rfl⟩ rfl ?_
    refine w_iload (q := 68) hm101 ⟨⟨_, _, rfl⟩, rfl⟩ rfl ?_
    refine w_call (q := 71) (n := 0) (vs := [.inr (.inr (some 70)), .inl x5]) (rest := []) (la := [oR 70, oI x5]) hm101 ⟨⟨_, _, rfl⟩, rfl⟩ rfl rfl rfl rfl hm47 rfl rfl (fun _ => ⟨_, _, rfl, rfl⟩) rfl (Wp.mono h ?_)
    rintro _ m2 ⟨r2, rfl, h⟩
    change Wp _ _ 71 _ [.inl r2] _ _
    refine w_if_eq (q := 74) (X := r2.toInt) hm101 ⟨⟨_, _, rfl⟩, rfl⟩ rfl (fun hc => ?_) (fun hc => ?_)
    · have h := h.1 hc
      exact Wp.wk [true, true, true, true, true, true, false] h
    · have h := h.2 hc
      refine w_iload_n (q := 75) hm101 ⟨⟨_, _, rfl⟩, rfl⟩ rfl ?_
      refine w_if_lt (q := 78) (X := x3.toInt) hm101 ⟨⟨_, _, rfl⟩, rfl⟩ rfl (fun hc => ?_) (fun hc => ?_)
      · have h := h.1 hc
        exact Wp.wk [true, true, true, false, false, true, true] h
      · have h := h.2 hc
        refine w_iload (q := 80) hm101 ⟨⟨_, _, rfl⟩, rfl⟩ rfl ?_
        refine w_iload (q := 82) hm101 ⟨⟨_, _, rfl⟩, rfl⟩ rfl ?_
        refine w_icmp_gt (q := 85) (X := (r1 - (m1.1 108 x5.toNatClampNeg)).toInt) (Y := x4.toInt) hm101 ⟨⟨_, _, rfl⟩, rfl⟩ rfl rfl (fun hc => ?_) (fun hc => ?_)
        · have h := h.1 hc
          exact Wp.wk [true, true, true, false, false, true, true] h
        · have h := h.2 hc
          refine w_goto (q := 95) hm101 ⟨_, _, rfl⟩ ?_
          exact Wp.wk [true, true, true, true, true, true, false] h
theorem v_X12_hottest_70_88 {d : Nat} {x1 : Int32} {x2 : Int32} {x5 : Int32} {x6 : Int32} {m : dM} {Q : Int32 → dM → Prop} (h : j_X12_hottest_70_95 (d + 1) x1 x2 x5 x6 x5 m Q) : j_X12_hottest_70_88 (d + 1) x1 x2 x5 x6 m Q := by
  refine w_iload (q := 90) hm101 ⟨⟨_, _, rfl⟩, rfl⟩ rfl ?_
  refine w_istore_n (q := 91) (l' := [oR 70, oI x1, oI x2, oI x5, none, oI x5, oI x6]) hm101 ⟨⟨_, _, rfl⟩, rfl⟩ rfl rfl rfl ?_
  refine w_iload (q := 93) hm101 ⟨⟨_, _, rfl⟩, rfl⟩ rfl ?_
  refine w_istore (q := 95) (l' := [oR 70, oI x1, oI x2, oI x5, oI x6, oI x5, oI x6]) hm101 ⟨⟨_, _, rfl⟩, rfl⟩ rfl rfl rfl ?_
  exact Wp.wk [true, true, true, true, true, true, false] h
theorem v_X12_hottest_70_95 {d : Nat} {x1 : Int32} {x2 : Int32} {x3 : Int32} {x4 : Int32} {x5 : Int32} {m : dM} {Q : Int32 → dM → Prop} (h : j_X12_hottest_70_34 (d + 1) x1 x2 x3 x4 (x5 + (1 : Int32)) m Q) : j_X12_hottest_70_95 (d + 1) x1 x2 x3 x4 x5 m Q := by
  refine w_iinc (q := 98) (l' := [oR 70, oI x1, oI x2, oI x3, oI x4, oI (x5 + (1 : Int32)), none]) hm101 ⟨⟨_, _, rfl⟩, rfl⟩ rfl rfl rfl iconst_1 rfl ?_
  refine w_goto (q := 34) hm101 ⟨_, _, rfl⟩ ?_
  exact h
theorem v_X1_clashOf_61_47 {d : Nat} {x2 : Int32} {x3 : Int32} {m : dM} {Q : Int32 → dM → Prop} (h : c_X0_waysNow_54_47 d m (fun m1 => ((0 ≤ x2.toInt ∧ x2.toInt < 8) ∧ c_X11_has d (m1.1 57 5) (m1.1 7 x2.toNatClampNeg) m1 (fun r2 m2 => ((r2.toInt = 0 → j_X1_clashOf_61_47_47 (d + 1) m2 Q) ∧ (r2.toInt ≠ 0 → ((0 ≤ x3.toInt ∧ x3.toInt < 8) ∧ c_X11_has d (m1.1 57 5) (m2.1 7 x3.toNatClampNeg) m2 (fun r3 m3 => ((r3.toInt ≠ 0 → c_X0_goingWith_54_47 d ((1 : Int32) <<< (x2 &&& 31)) m3 (fun r4 m4 => c_X0_goingWith_54_47 d ((1 : Int32) <<< (x3 &&& 31)) m4 (fun r5 m5 => c_X0_goingWith_54_47 d (((1 : Int32) <<< (x2 &&& 31)) ||| ((1 : Int32) <<< (x3 &&& 31))) m5 (fun r6 m6 => c_J6_bitCount d (r6 &&& ((r4 ||| r5) ^^^ (-1 : Int32))) m6 (fun r7 m7 => Q r7 m7))))) ∧ (r3.toInt = 0 → j_X1_clashOf_61_47_47 (d + 1) m3 Q)))))))))) : c_X1_clashOf_61_47 (d + 1) x2 x3 m Q := by
  refine w_aload_n (q := 1) hm149 ⟨⟨_, _, rfl⟩, rfl⟩ rfl ?_
  refine w_getr (q := 4) hm149 ⟨⟨_, _, rfl⟩, rfl⟩ rfl ?_
  refine w_aload_n (q := 5) hm149 ⟨⟨_, _, rfl⟩, rfl⟩ rfl ?_
  refine w_call (q := 8) (n := 0) (vs := [.inr (.inr (some 54)), .inr (.inr (some 47))]) (rest := []) (la := [oR 54, oR 47]) hm149 ⟨⟨_, _, rfl⟩, rfl⟩ rfl rfl rfl rfl hm116 rfl rfl (fun _ => ⟨_, _, rfl, rfl⟩) rfl (Wp.mono h ?_)
  rintro _ m1 ⟨rfl, h⟩
  change Wp _ _ 8 _ [.inr (.inr (some 57))] _ _
  refine w_getf (q := 11) (v := (m1.1 57 5)) hm149 ⟨⟨_, _, rfl⟩, rfl⟩ rfl rfl ?_
  refine w_istore (q := 13) (l' := [oR 61, oR 47, oI x2, oI x3, oI (m1.1 57 5), none]) hm149 ⟨⟨_, _, rfl⟩, rfl⟩ rfl rfl rfl ?_
  refine w_iload (q := 15) hm149 ⟨⟨_, _, rfl⟩, rfl⟩ rfl ?_
  refine w_aload_n (q := 16) hm149 ⟨⟨_, _, rfl⟩, rfl⟩ rfl ?_
  refine w_getr (q := 19) hm149 ⟨⟨_, _, rfl⟩, rfl⟩ rfl ?_
  refine w_getr (q := 22) hm149 ⟨⟨_, _, rfl⟩, rfl⟩ rfl ?_
  refine w_iload_n (q := 23) hm149 ⟨⟨_, _, rfl⟩, rfl⟩ rfl ?_
  obtain ⟨hi, h⟩ := h
  refine w_iald (q := 24) (v := (m1.1 7 x2.toNatClampNeg)) hm149 ⟨⟨_, _, rfl⟩, rfl⟩ rfl hi rfl rfl ?_
  refine w_call (q := 27) (n := 0) (vs := [.inl (m1.1 57 5), .inl (m1.1 7 x2.toNatClampNeg)]) (rest := []) (la := [oI (m1.1 57 5), oI (m1.1 7 x2.toNatClampNeg)]) hm149 ⟨⟨_, _, rfl⟩, rfl⟩ rfl rfl rfl rfl hm283 rfl rfl (fun hz => absurd hz (by decide)) rfl (Wp.mono h ?_)
  rintro _ m2 ⟨r2, rfl, h⟩
  change Wp _ _ 27 _ [.inl r2] _ _
  refine w_if_eq (q := 30) (X := r2.toInt) hm149 ⟨⟨_, _, rfl⟩, rfl⟩ rfl (fun hc => ?_) (fun hc => ?_)
  · have h := h.1 hc
    exact Wp.wk [false, false, false, false, false, false] h
  · have h := h.2 hc
    refine w_iload (q := 32) hm149 ⟨⟨_, _, rfl⟩, rfl⟩ rfl ?_
    refine w_aload_n (q := 33) hm149 ⟨⟨_, _, rfl⟩, rfl⟩ rfl ?_
    refine w_getr (q := 36) hm149 ⟨⟨_, _, rfl⟩, rfl⟩ rfl ?_
    refine w_getr (q := 39) hm149 ⟨⟨_, _, rfl⟩, rfl⟩ rfl ?_
    refine w_iload_n (q := 40) hm149 ⟨⟨_, _, rfl⟩, rfl⟩ rfl ?_
    obtain ⟨hi, h⟩ := h
    refine w_iald (q := 41) (v := (m2.1 7 x3.toNatClampNeg)) hm149 ⟨⟨_, _, rfl⟩, rfl⟩ rfl hi rfl rfl ?_
    refine w_call (q := 44) (n := 0) (vs := [.inl (m1.1 57 5), .inl (m2.1 7 x3.toNatClampNeg)]) (rest := []) (la := [oI (m1.1 57 5), oI (m2.1 7 x3.toNatClampNeg)]) hm149 ⟨⟨_, _, rfl⟩, rfl⟩ rfl rfl rfl rfl hm283 rfl rfl (fun hz => absurd hz (by decide)) rfl (Wp.mono h ?_)
    rintro _ m3 ⟨r3, rfl, h⟩
    change Wp _ _ 44 _ [.inl r3] _ _
    refine w_if_ne (q := 47) (X := r3.toInt) hm149 ⟨⟨_, _, rfl⟩, rfl⟩ rfl (fun hc => ?_) (fun hc => ?_)
    · have h := h.1 hc
      refine w_aload_n (q := 50) hm149 ⟨⟨_, _, rfl⟩, rfl⟩ rfl ?_
      refine w_getr (q := 53) hm149 ⟨⟨_, _, rfl⟩, rfl⟩ rfl ?_
      refine w_aload_n (q := 54) hm149 ⟨⟨_, _, rfl⟩, rfl⟩ rfl ?_
      refine w_iconst (q := 55) hm149 ⟨⟨_, _, rfl⟩, rfl⟩ iconst_1 ?_
      refine w_iload_n (q := 56) hm149 ⟨⟨_, _, rfl⟩, rfl⟩ rfl ?_
      refine w_ishl (q := 57) hm149 ⟨⟨_, _, rfl⟩, rfl⟩ ?_
      refine w_call (q := 60) (n := 0) (vs := [.inr (.inr (some 54)), .inr (.inr (some 47)), .inl ((1 : Int32) <<< (x2 &&& 31))]) (rest := []) (la := [oR 54, oR 47, oI ((1 : Int32) <<< (x2 &&& 31))]) hm149 ⟨⟨_, _, rfl⟩, rfl⟩ rfl rfl rfl rfl hm123 rfl rfl (fun _ => ⟨_, _, rfl, rfl⟩) rfl (Wp.mono h ?_)
      rintro _ m4 ⟨r4, rfl, h⟩
      change Wp _ _ 60 _ [.inl r4] _ _
      refine w_aload_n (q := 61) hm149 ⟨⟨_, _, rfl⟩, rfl⟩ rfl ?_
      refine w_getr (q := 64) hm149 ⟨⟨_, _, rfl⟩, rfl⟩ rfl ?_
      refine w_aload_n (q := 65) hm149 ⟨⟨_, _, rfl⟩, rfl⟩ rfl ?_
      refine w_iconst (q := 66) hm149 ⟨⟨_, _, rfl⟩, rfl⟩ iconst_1 ?_
      refine w_iload_n (q := 67) hm149 ⟨⟨_, _, rfl⟩, rfl⟩ rfl ?_
      refine w_ishl (q := 68) hm149 ⟨⟨_, _, rfl⟩, rfl⟩ ?_
      refine w_call (q := 71) (n := 0) (vs := [.inr (.inr (some 54)), .inr (.inr (some 47)), .inl ((1 : Int32) <<< (x3 &&& 31))]) (rest := [.inl r4]) (la := [oR 54, oR 47, oI ((1 : Int32) <<< (x3 &&& 31))]) hm149 ⟨⟨_, _, rfl⟩, rfl⟩ rfl rfl rfl rfl hm123 rfl rfl (fun _ => ⟨_, _, rfl, rfl⟩) rfl (Wp.mono h ?_)
      rintro _ m5 ⟨r5, rfl, h⟩
      change Wp _ _ 71 _ [.inl r5, .inl r4] _ _
      refine w_ior (q := 72) hm149 ⟨⟨_, _, rfl⟩, rfl⟩ ?_
      refine w_istore (q := 74) (l' := [oR 61, oR 47, oI x2, oI x3, oI (m1.1 57 5), oI (r4 ||| r5)]) hm149 ⟨⟨_, _, rfl⟩, rfl⟩ rfl rfl rfl ?_
      refine w_aload_n (q := 75) hm149 ⟨⟨_, _, rfl⟩, rfl⟩ rfl ?_
      refine w_getr (q := 78) hm149 ⟨⟨_, _, rfl⟩, rfl⟩ rfl ?_
      refine w_aload_n (q := 79) hm149 ⟨⟨_, _, rfl⟩, rfl⟩ rfl ?_
      refine w_iconst (q := 80) hm149 ⟨⟨_, _, rfl⟩, rfl⟩ iconst_1 ?_
      refine w_iload_n (q := 81) hm149 ⟨⟨_, _, rfl⟩, rfl⟩ rfl ?_
      refine w_ishl (q := 82) hm149 ⟨⟨_, _, rfl⟩, rfl⟩ ?_
      refine w_iconst (q := 83) hm149 ⟨⟨_, _, rfl⟩, rfl⟩ iconst_1 ?_
      refine w_iload_n (q := 84) hm149 ⟨⟨_, _, rfl⟩, rfl⟩ rfl ?_
      refine w_ishl (q := 85) hm149 ⟨⟨_, _, rfl⟩, rfl⟩ ?_
      refine w_ior (q := 86) hm149 ⟨⟨_, _, rfl⟩, rfl⟩ ?_
      refine w_call (q := 89) (n := 0) (vs := [.inr (.inr (some 54)), .inr (.inr (some 47)), .inl (((1 : Int32) <<< (x2 &&& 31)) ||| ((1 : Int32) <<< (x3 &&& 31)))]) (rest := []) (la := [oR 54, oR 47, oI (((1 : Int32) <<< (x2 &&& 31)) ||| ((1 : Int32) <<< (x3 &&& 31)))]) hm149 ⟨⟨_, _, rfl⟩, rfl⟩ rfl rfl rfl rfl hm123 rfl rfl (fun _ => ⟨_, _, rfl, rfl⟩) rfl (Wp.mono h ?_)
      rintro _ m6 ⟨r6, rfl, h⟩
      change Wp _ _ 89 _ [.inl r6] _ _
      refine w_iload (q := 91) hm149 ⟨⟨_, _, rfl⟩, rfl⟩ rfl ?_
      refine w_iconst (q := 92) hm149 ⟨⟨_, _, rfl⟩, rfl⟩ iconst_m1 ?_
      refine w_ixor (q := 93) hm149 ⟨⟨_, _, rfl⟩, rfl⟩ ?_
      refine w_iand (q := 94) hm149 ⟨⟨_, _, rfl⟩, rfl⟩ ?_
      refine w_call (q := 97) (n := 0) (vs := [.inl (r6 &&& ((r4 ||| r5) ^^^ (-1 : Int32)))]) (rest := []) (la := [oI (r6 &&& ((r4 ||| r5) ^^^ (-1 : Int32)))]) hm149 ⟨⟨_, _, rfl⟩, rfl⟩ rfl rfl rfl rfl hm285 rfl rfl (fun hz => absurd hz (by decide)) rfl (Wp.mono h ?_)
      rintro _ m7 ⟨r7, rfl, h⟩
      change Wp _ _ 97 _ [.inl r7] _ _
      exact w_reti hm149 ⟨⟨_, _, rfl⟩, rfl⟩ rfl h
    · have h := h.2 hc
      exact Wp.wk [false, false, false, false, false, false] h
theorem v_X1_clashOf_61_47_47 {d : Nat} {m : dM} {Q : Int32 → dM → Prop} (h : Q (0 : Int32) m) : j_X1_clashOf_61_47_47 (d + 1) m Q := by
  refine w_iconst (q := 48) hm149 ⟨⟨_, _, rfl⟩, rfl⟩ iconst_0 ?_
  exact w_reti hm149 ⟨⟨_, _, rfl⟩, rfl⟩ rfl h
theorem v_X11_clash_0 {d : Nat} {x1 : Int32} {x2 : Int32} {m : dM} {Q : Int32 → dM → Prop} (h : c_X11_isUse_0 d x1 m (fun r1 m1 => ((r1.toInt = 0 → j_X11_clash_0_37 (d + 1) m1 Q) ∧ (r1.toInt ≠ 0 → c_X11_isUse_0 d x2 m1 (fun r2 m2 => ((r2.toInt = 0 → j_X11_clash_0_37 (d + 1) m2 Q) ∧ (r2.toInt ≠ 0 → ((x1.toInt = x2.toInt → j_X11_clash_0_37 (d + 1) m2 Q) ∧ (x1.toInt ≠ x2.toInt → c_X1_clashOf_61_47 d x1 x2 m2 (fun r3 m3 => Q r3 m3)))))))))) : c_X11_clash_0 (d + 1) x1 x2 m Q := by
  refine w_aload_n (q := 1) hm271 ⟨⟨_, _, rfl⟩, rfl⟩ rfl ?_
  refine w_iload_n (q := 2) hm271 ⟨⟨_, _, rfl⟩, rfl⟩ rfl ?_
  refine w_call (q := 5) (n := 0) (vs := [.inr (.inr (some 0)), .inl x1]) (rest := []) (la := [oR 0, oI x1]) hm271 ⟨⟨_, _, rfl⟩, rfl⟩ rfl rfl rfl rfl hm250 rfl rfl (fun _ => ⟨_, _, rfl, rfl⟩) rfl (Wp.mono h ?_)
  rintro _ m1 ⟨r1, rfl, h⟩
  change Wp _ _ 5 _ [.inl r1] _ _
  refine w_if_eq (q := 8) (X := r1.toInt) hm271 ⟨⟨_, _, rfl⟩, rfl⟩ rfl (fun hc => ?_) (fun hc => ?_)
  · have h := h.1 hc
    exact Wp.wk [false, false, false] h
  · have h := h.2 hc
    refine w_aload_n (q := 9) hm271 ⟨⟨_, _, rfl⟩, rfl⟩ rfl ?_
    refine w_iload_n (q := 10) hm271 ⟨⟨_, _, rfl⟩, rfl⟩ rfl ?_
    refine w_call (q := 13) (n := 0) (vs := [.inr (.inr (some 0)), .inl x2]) (rest := []) (la := [oR 0, oI x2]) hm271 ⟨⟨_, _, rfl⟩, rfl⟩ rfl rfl rfl rfl hm250 rfl rfl (fun _ => ⟨_, _, rfl, rfl⟩) rfl (Wp.mono h ?_)
    rintro _ m2 ⟨r2, rfl, h⟩
    change Wp _ _ 13 _ [.inl r2] _ _
    refine w_if_eq (q := 16) (X := r2.toInt) hm271 ⟨⟨_, _, rfl⟩, rfl⟩ rfl (fun hc => ?_) (fun hc => ?_)
    · have h := h.1 hc
      exact Wp.wk [false, false, false] h
    · have h := h.2 hc
      refine w_iload_n (q := 17) hm271 ⟨⟨_, _, rfl⟩, rfl⟩ rfl ?_
      refine w_iload_n (q := 18) hm271 ⟨⟨_, _, rfl⟩, rfl⟩ rfl ?_
      refine w_icmp_eq (q := 21) (X := x1.toInt) (Y := x2.toInt) hm271 ⟨⟨_, _, rfl⟩, rfl⟩ rfl rfl (fun hc => ?_) (fun hc => ?_)
      · have h := h.1 hc
        exact Wp.wk [false, false, false] h
      · have h := h.2 hc
        refine w_aload_n (q := 22) hm271 ⟨⟨_, _, rfl⟩, rfl⟩ rfl ?_
        refine w_getr (q := 25) hm271 ⟨⟨_, _, rfl⟩, rfl⟩ rfl ?_
        refine w_aload_n (q := 26) hm271 ⟨⟨_, _, rfl⟩, rfl⟩ rfl ?_
        refine w_getr (q := 29) hm271 ⟨⟨_, _, rfl⟩, rfl⟩ rfl ?_
        refine w_iload_n (q := 30) hm271 ⟨⟨_, _, rfl⟩, rfl⟩ rfl ?_
        refine w_iload_n (q := 31) hm271 ⟨⟨_, _, rfl⟩, rfl⟩ rfl ?_
        refine w_call (q := 34) (n := 2) (vs := [.inr (.inr (some 61)), .inr (.inr (some 47)), .inl x1, .inl x2]) (rest := []) (la := [oR 61, oR 47, oI x1, oI x2, none, none]) hm271 ⟨⟨_, _, rfl⟩, rfl⟩ rfl rfl rfl rfl hm149 rfl rfl (fun _ => ⟨_, _, rfl, rfl⟩) rfl (Wp.mono h ?_)
        rintro _ m3 ⟨r3, rfl, h⟩
        change Wp _ _ 34 _ [.inl r3] _ _
        refine w_goto (q := 38) hm271 ⟨_, _, rfl⟩ ?_
        exact w_reti hm271 ⟨⟨_, _, rfl⟩, rfl⟩ rfl h
theorem v_X11_clash_0_37 {d : Nat} {m : dM} {Q : Int32 → dM → Prop} (h : Q (-1 : Int32) m) : j_X11_clash_0_37 (d + 1) m Q := by
  refine w_iconst (q := 38) hm271 ⟨⟨_, _, rfl⟩, rfl⟩ iconst_m1 ?_
  exact w_reti hm271 ⟨⟨_, _, rfl⟩, rfl⟩ rfl h
theorem v_X12_clash_70 {d : Nat} {x1 : Int32} {x2 : Int32} {m : dM} {Q : Int32 → dM → Prop} (h : c_X12_isUse_70 d x1 m (fun r1 m1 => ((r1.toInt = 0 → j_X12_clash_70_21 (d + 1) m1 Q) ∧ (r1.toInt ≠ 0 → c_X12_isUse_70 d x2 m1 (fun r2 m2 => ((r2.toInt = 0 → j_X12_clash_70_21 (d + 1) m2 Q) ∧ (r2.toInt ≠ 0 → ((x1.toInt ≠ x2.toInt → c_X12_copies_70 d m2 (fun m3 => c_X12_flatAt_70 d x1 m3 (fun r4 m4 => c_X12_isLit_70 d r4 m4 (fun r5 m5 => ((r5.toInt = 0 → j_X12_clash_70_51 (d + 1) m5 Q) ∧ (r5.toInt ≠ 0 → c_X12_flatAt_70 d x2 m5 (fun r6 m6 => c_X12_isLit_70 d r6 m6 (fun r7 m7 => ((r7.toInt ≠ 0 → c_X12_goingBits_70 d (((1 : Int32) <<< (x1 &&& 31)) ||| ((1 : Int32) <<< (x2 &&& 31))) ((m7.1 108 55) - (m7.1 108 55) / (24 : Int32) * (24 : Int32)) (0 : Int32) m7 (fun r8 m8 => c_X12_goingBits_70 d ((1 : Int32) <<< (x1 &&& 31)) ((m7.1 108 55) - (m7.1 108 55) / (24 : Int32) * (24 : Int32)) (0 : Int32) m8 (fun r9 m9 => c_X12_goingBits_70 d ((1 : Int32) <<< (x2 &&& 31)) ((m7.1 108 55) - (m7.1 108 55) / (24 : Int32) * (24 : Int32)) (0 : Int32) m9 (fun r10 m10 => c_X12_bits d ((r8 &&& (r9 ^^^ (-1 : Int32))) &&& (r10 ^^^ (-1 : Int32))) m10 (fun r11 m11 => Q r11 m11))))) ∧ (r7.toInt = 0 → j_X12_clash_70_51 (d + 1) m7 Q)))))))))) ∧ (x1.toInt = x2.toInt → j_X12_clash_70_21 (d + 1) m2 Q))))))))) : c_X12_clash_70 (d + 1) x1 x2 m Q := by
  refine w_aload_n (q := 1) hm102 ⟨⟨_, _, rfl⟩, rfl⟩ rfl ?_
  refine w_iload_n (q := 2) hm102 ⟨⟨_, _, rfl⟩, rfl⟩ rfl ?_
  refine w_call (q := 5) (n := 0) (vs := [.inr (.inr (some 70)), .inl x1]) (rest := []) (la := [oR 70, oI x1]) hm102 ⟨⟨_, _, rfl⟩, rfl⟩ rfl rfl rfl rfl hm41 rfl rfl (fun _ => ⟨_, _, rfl, rfl⟩) rfl (Wp.mono h ?_)
  rintro _ m1 ⟨r1, rfl, h⟩
  change Wp _ _ 5 _ [.inl r1] _ _
  refine w_if_eq (q := 8) (X := r1.toInt) hm102 ⟨⟨_, _, rfl⟩, rfl⟩ rfl (fun hc => ?_) (fun hc => ?_)
  · have h := h.1 hc
    exact Wp.wk [false, false, false, false] h
  · have h := h.2 hc
    refine w_aload_n (q := 9) hm102 ⟨⟨_, _, rfl⟩, rfl⟩ rfl ?_
    refine w_iload_n (q := 10) hm102 ⟨⟨_, _, rfl⟩, rfl⟩ rfl ?_
    refine w_call (q := 13) (n := 0) (vs := [.inr (.inr (some 70)), .inl x2]) (rest := []) (la := [oR 70, oI x2]) hm102 ⟨⟨_, _, rfl⟩, rfl⟩ rfl rfl rfl rfl hm41 rfl rfl (fun _ => ⟨_, _, rfl, rfl⟩) rfl (Wp.mono h ?_)
    rintro _ m2 ⟨r2, rfl, h⟩
    change Wp _ _ 13 _ [.inl r2] _ _
    refine w_if_eq (q := 16) (X := r2.toInt) hm102 ⟨⟨_, _, rfl⟩, rfl⟩ rfl (fun hc => ?_) (fun hc => ?_)
    · have h := h.1 hc
      exact Wp.wk [false, false, false, false] h
    · have h := h.2 hc
      refine w_iload_n (q := 17) hm102 ⟨⟨_, _, rfl⟩, rfl⟩ rfl ?_
      refine w_iload_n (q := 18) hm102 ⟨⟨_, _, rfl⟩, rfl⟩ rfl ?_
      refine w_icmp_ne (q := 21) (X := x1.toInt) (Y := x2.toInt) hm102 ⟨⟨_, _, rfl⟩, rfl⟩ rfl rfl (fun hc => ?_) (fun hc => ?_)
      · have h := h.1 hc
        refine w_aload_n (q := 24) hm102 ⟨⟨_, _, rfl⟩, rfl⟩ rfl ?_
        refine w_call (q := 27) (n := 1) (vs := [.inr (.inr (some 70))]) (rest := []) (la := [oR 70, none]) hm102 ⟨⟨_, _, rfl⟩, rfl⟩ rfl rfl rfl rfl hm44 rfl rfl (fun _ => ⟨_, _, rfl, rfl⟩) rfl (Wp.mono h ?_)
        rintro _ m3 ⟨rfl, h⟩
        change Wp _ _ 27 _ [] _ _
        refine w_aload_n (q := 28) hm102 ⟨⟨_, _, rfl⟩, rfl⟩ rfl ?_
        refine w_aload_n (q := 29) hm102 ⟨⟨_, _, rfl⟩, rfl⟩ rfl ?_
        refine w_iload_n (q := 30) hm102 ⟨⟨_, _, rfl⟩, rfl⟩ rfl ?_
        refine w_call (q := 33) (n := 0) (vs := [.inr (.inr (some 70)), .inl x1]) (rest := [.inr (.inr (some 70))]) (la := [oR 70, oI x1]) hm102 ⟨⟨_, _, rfl⟩, rfl⟩ rfl rfl rfl rfl hm53 rfl rfl (fun _ => ⟨_, _, rfl, rfl⟩) rfl (Wp.mono h ?_)
        rintro _ m4 ⟨r4, rfl, h⟩
        change Wp _ _ 33 _ [.inl r4, .inr (.inr (some 70))] _ _
        refine w_call (q := 36) (n := 0) (vs := [.inr (.inr (some 70)), .inl r4]) (rest := []) (la := [oR 70, oI r4]) hm102 ⟨⟨_, _, rfl⟩, rfl⟩ rfl rfl rfl rfl hm51 rfl rfl (fun _ => ⟨_, _, rfl, rfl⟩) rfl (Wp.mono h ?_)
        rintro _ m5 ⟨r5, rfl, h⟩
        change Wp _ _ 36 _ [.inl r5] _ _
        refine w_if_eq (q := 39) (X := r5.toInt) hm102 ⟨⟨_, _, rfl⟩, rfl⟩ rfl (fun hc => ?_) (fun hc => ?_)
        · have h := h.1 hc
          exact Wp.wk [false, false, false, false] h
        · have h := h.2 hc
          refine w_aload_n (q := 40) hm102 ⟨⟨_, _, rfl⟩, rfl⟩ rfl ?_
          refine w_aload_n (q := 41) hm102 ⟨⟨_, _, rfl⟩, rfl⟩ rfl ?_
          refine w_iload_n (q := 42) hm102 ⟨⟨_, _, rfl⟩, rfl⟩ rfl ?_
          refine w_call (q := 45) (n := 0) (vs := [.inr (.inr (some 70)), .inl x2]) (rest := [.inr (.inr (some 70))]) (la := [oR 70, oI x2]) hm102 ⟨⟨_, _, rfl⟩, rfl⟩ rfl rfl rfl rfl hm53 rfl rfl (fun _ => ⟨_, _, rfl, rfl⟩) rfl (Wp.mono h ?_)
          rintro _ m6 ⟨r6, rfl, h⟩
          change Wp _ _ 45 _ [.inl r6, .inr (.inr (some 70))] _ _
          refine w_call (q := 48) (n := 0) (vs := [.inr (.inr (some 70)), .inl r6]) (rest := []) (la := [oR 70, oI r6]) hm102 ⟨⟨_, _, rfl⟩, rfl⟩ rfl rfl rfl rfl hm51 rfl rfl (fun _ => ⟨_, _, rfl, rfl⟩) rfl (Wp.mono h ?_)
          rintro _ m7 ⟨r7, rfl, h⟩
          change Wp _ _ 48 _ [.inl r7] _ _
          refine w_if_ne (q := 51) (X := r7.toInt) hm102 ⟨⟨_, _, rfl⟩, rfl⟩ rfl (fun hc => ?_) (fun hc => ?_)
          · have h := h.1 hc
            refine w_aload_n (q := 54) hm102 ⟨⟨_, _, rfl⟩, rfl⟩ rfl ?_
            refine w_getr (q := 57) hm102 ⟨⟨_, _, rfl⟩, rfl⟩ rfl ?_
            refine w_bipush (q := 59) hm102 ⟨⟨_, _, rfl⟩, rfl⟩ bipush_55 ?_
            refine w_iald (q := 60) (j := 55) (v := (m7.1 108 55)) hm102 ⟨⟨_, _, rfl⟩, rfl⟩ rfl (by decide) (by decide) rfl ?_
            refine w_bipush (q := 62) hm102 ⟨⟨_, _, rfl⟩, rfl⟩ bipush_24 ?_
            refine w_irem (q := 63) hm102 ⟨⟨_, _, rfl⟩, rfl⟩ (by decide) ?_
            refine w_istore_n (q := 64) (l' := [oR 70, oI x1, oI x2, oI ((m7.1 108 55) - (m7.1 108 55) / (24 : Int32) * (24 : Int32))]) hm102 ⟨⟨_, _, rfl⟩, rfl⟩ rfl rfl rfl ?_
            refine w_aload_n (q := 65) hm102 ⟨⟨_, _, rfl⟩, rfl⟩ rfl ?_
            refine w_iconst (q := 66) hm102 ⟨⟨_, _, rfl⟩, rfl⟩ iconst_1 ?_
            refine w_iload_n (q := 67) hm102 ⟨⟨_, _, rfl⟩, rfl⟩ rfl ?_
            refine w_ishl (q := 68) hm102 ⟨⟨_, _, rfl⟩, rfl⟩ ?_
            refine w_iconst (q := 69) hm102 ⟨⟨_, _, rfl⟩, rfl⟩ iconst_1 ?_
            refine w_iload_n (q := 70) hm102 ⟨⟨_, _, rfl⟩, rfl⟩ rfl ?_
            refine w_ishl (q := 71) hm102 ⟨⟨_, _, rfl⟩, rfl⟩ ?_
            refine w_ior (q := 72) hm102 ⟨⟨_, _, rfl⟩, rfl⟩ ?_
            refine w_iload_n (q := 73) hm102 ⟨⟨_, _, rfl⟩, rfl⟩ rfl ?_
            refine w_iconst (q := 74) hm102 ⟨⟨_, _, rfl⟩, rfl⟩ iconst_0 ?_
            refine w_call (q := 77) (n := 2) (vs := [.inr (.inr (some 70)), .inl (((1 : Int32) <<< (x1 &&& 31)) ||| ((1 : Int32) <<< (x2 &&& 31))), .inl ((m7.1 108 55) - (m7.1 108 55) / (24 : Int32) * (24 : Int32)), .inl (0 : Int32)]) (rest := []) (la := [oR 70, oI (((1 : Int32) <<< (x1 &&& 31)) ||| ((1 : Int32) <<< (x2 &&& 31))), oI ((m7.1 108 55) - (m7.1 108 55) / (24 : Int32) * (24 : Int32)), oI (0 : Int32), none, none]) hm102 ⟨⟨_, _, rfl⟩, rfl⟩ rfl rfl rfl rfl hm61 rfl rfl (fun _ => ⟨_, _, rfl, rfl⟩) rfl (Wp.mono h ?_)
            rintro _ m8 ⟨r8, rfl, h⟩
            change Wp _ _ 77 _ [.inl r8] _ _
            refine w_aload_n (q := 78) hm102 ⟨⟨_, _, rfl⟩, rfl⟩ rfl ?_
            refine w_iconst (q := 79) hm102 ⟨⟨_, _, rfl⟩, rfl⟩ iconst_1 ?_
            refine w_iload_n (q := 80) hm102 ⟨⟨_, _, rfl⟩, rfl⟩ rfl ?_
            refine w_ishl (q := 81) hm102 ⟨⟨_, _, rfl⟩, rfl⟩ ?_
            refine w_iload_n (q := 82) hm102 ⟨⟨_, _, rfl⟩, rfl⟩ rfl ?_
            refine w_iconst (q := 83) hm102 ⟨⟨_, _, rfl⟩, rfl⟩ iconst_0 ?_
            refine w_call (q := 86) (n := 2) (vs := [.inr (.inr (some 70)), .inl ((1 : Int32) <<< (x1 &&& 31)), .inl ((m7.1 108 55) - (m7.1 108 55) / (24 : Int32) * (24 : Int32)), .inl (0 : Int32)]) (rest := [.inl r8]) (la := [oR 70, oI ((1 : Int32) <<< (x1 &&& 31)), oI ((m7.1 108 55) - (m7.1 108 55) / (24 : Int32) * (24 : Int32)), oI (0 : Int32), none, none]) hm102 ⟨⟨_, _, rfl⟩, rfl⟩ rfl rfl rfl rfl hm61 rfl rfl (fun _ => ⟨_, _, rfl, rfl⟩) rfl (Wp.mono h ?_)
            rintro _ m9 ⟨r9, rfl, h⟩
            change Wp _ _ 86 _ [.inl r9, .inl r8] _ _
            refine w_iconst (q := 87) hm102 ⟨⟨_, _, rfl⟩, rfl⟩ iconst_m1 ?_
            refine w_ixor (q := 88) hm102 ⟨⟨_, _, rfl⟩, rfl⟩ ?_
            refine w_iand (q := 89) hm102 ⟨⟨_, _, rfl⟩, rfl⟩ ?_
            refine w_aload_n (q := 90) hm102 ⟨⟨_, _, rfl⟩, rfl⟩ rfl ?_
            refine w_iconst (q := 91) hm102 ⟨⟨_, _, rfl⟩, rfl⟩ iconst_1 ?_
            refine w_iload_n (q := 92) hm102 ⟨⟨_, _, rfl⟩, rfl⟩ rfl ?_
            refine w_ishl (q := 93) hm102 ⟨⟨_, _, rfl⟩, rfl⟩ ?_
            refine w_iload_n (q := 94) hm102 ⟨⟨_, _, rfl⟩, rfl⟩ rfl ?_
            refine w_iconst (q := 95) hm102 ⟨⟨_, _, rfl⟩, rfl⟩ iconst_0 ?_
            refine w_call (q := 98) (n := 2) (vs := [.inr (.inr (some 70)), .inl ((1 : Int32) <<< (x2 &&& 31)), .inl ((m7.1 108 55) - (m7.1 108 55) / (24 : Int32) * (24 : Int32)), .inl (0 : Int32)]) (rest := [.inl (r8 &&& (r9 ^^^ (-1 : Int32)))]) (la := [oR 70, oI ((1 : Int32) <<< (x2 &&& 31)), oI ((m7.1 108 55) - (m7.1 108 55) / (24 : Int32) * (24 : Int32)), oI (0 : Int32), none, none]) hm102 ⟨⟨_, _, rfl⟩, rfl⟩ rfl rfl rfl rfl hm61 rfl rfl (fun _ => ⟨_, _, rfl, rfl⟩) rfl (Wp.mono h ?_)
            rintro _ m10 ⟨r10, rfl, h⟩
            change Wp _ _ 98 _ [.inl r10, .inl (r8 &&& (r9 ^^^ (-1 : Int32)))] _ _
            refine w_iconst (q := 99) hm102 ⟨⟨_, _, rfl⟩, rfl⟩ iconst_m1 ?_
            refine w_ixor (q := 100) hm102 ⟨⟨_, _, rfl⟩, rfl⟩ ?_
            refine w_iand (q := 101) hm102 ⟨⟨_, _, rfl⟩, rfl⟩ ?_
            refine w_call (q := 104) (n := 2) (vs := [.inl ((r8 &&& (r9 ^^^ (-1 : Int32))) &&& (r10 ^^^ (-1 : Int32)))]) (rest := []) (la := [oI ((r8 &&& (r9 ^^^ (-1 : Int32))) &&& (r10 ^^^ (-1 : Int32))), none, none]) hm102 ⟨⟨_, _, rfl⟩, rfl⟩ rfl rfl rfl rfl hm38 rfl rfl (fun hz => absurd hz (by decide)) rfl (Wp.mono h ?_)
            rintro _ m11 ⟨r11, rfl, h⟩
            change Wp _ _ 104 _ [.inl r11] _ _
            exact w_reti hm102 ⟨⟨_, _, rfl⟩, rfl⟩ rfl h
          · have h := h.2 hc
            exact Wp.wk [false, false, false, false] h
      · have h := h.2 hc
        exact Wp.wk [false, false, false, false] h
theorem v_X12_clash_70_21 {d : Nat} {m : dM} {Q : Int32 → dM → Prop} (h : Q (-1 : Int32) m) : j_X12_clash_70_21 (d + 1) m Q := by
  refine w_iconst (q := 22) hm102 ⟨⟨_, _, rfl⟩, rfl⟩ iconst_m1 ?_
  exact w_reti hm102 ⟨⟨_, _, rfl⟩, rfl⟩ rfl h
theorem v_X12_clash_70_51 {d : Nat} {m : dM} {Q : Int32 → dM → Prop} (h : Q (0 : Int32) m) : j_X12_clash_70_51 (d + 1) m Q := by
  refine w_iconst (q := 52) hm102 ⟨⟨_, _, rfl⟩, rfl⟩ iconst_0 ?_
  exact w_reti hm102 ⟨⟨_, _, rfl⟩, rfl⟩ rfl h
end
section
theorem v_X0_payOf_54_62 {d : Nat} {x2 : Int32} {m : dM} {Q : Int32 → dM → Prop} (h : c_X7_hourOfDay_62 d m (fun r1 m1 => c_X7_day_62 d m1 (fun r2 m2 => c_X0_setVars_54 d r1 r2 x2 m2 (fun m3 => ((0 ≤ x2.toInt ∧ x2.toInt < 8) ∧ c_X4_tells_11_55 d (3 : Int32) (dSet m3 55 5 (m3.1 8 x2.toNatClampNeg)) (fun r4 m4 => c_X0_held d r4 m4 (fun r5 m5 => Q r5 m5))))))) : c_X0_payOf_54_62 (d + 1) x2 m Q := by
  refine w_aload_n (q := 1) hm129 ⟨⟨_, _, rfl⟩, rfl⟩ rfl ?_
  refine w_aload_n (q := 2) hm129 ⟨⟨_, _, rfl⟩, rfl⟩ rfl ?_
  refine w_call (q := 5) (n := 0) (vs := [.inr (.inr (some 62))]) (rest := [.inr (.inr (some 54))]) (la := [oR 62]) hm129 ⟨⟨_, _, rfl⟩, rfl⟩ rfl rfl rfl rfl hm212 rfl rfl (fun _ => ⟨_, _, rfl, rfl⟩) rfl (Wp.mono h ?_)
  rintro _ m1 ⟨r1, rfl, h⟩
  change Wp _ _ 5 _ [.inl r1, .inr (.inr (some 54))] _ _
  refine w_aload_n (q := 6) hm129 ⟨⟨_, _, rfl⟩, rfl⟩ rfl ?_
  refine w_call (q := 9) (n := 0) (vs := [.inr (.inr (some 62))]) (rest := [.inl r1, .inr (.inr (some 54))]) (la := [oR 62]) hm129 ⟨⟨_, _, rfl⟩, rfl⟩ rfl rfl rfl rfl hm213 rfl rfl (fun _ => ⟨_, _, rfl, rfl⟩) rfl (Wp.mono h ?_)
  rintro _ m2 ⟨r2, rfl, h⟩
  change Wp _ _ 9 _ [.inl r2, .inl r1, .inr (.inr (some 54))] _ _
  refine w_iload_n (q := 10) hm129 ⟨⟨_, _, rfl⟩, rfl⟩ rfl ?_
  refine w_call (q := 13) (n := 0) (vs := [.inr (.inr (some 54)), .inl r1, .inl r2, .inl x2]) (rest := []) (la := [oR 54, oI r1, oI r2, oI x2]) hm129 ⟨⟨_, _, rfl⟩, rfl⟩ rfl rfl rfl rfl hm125 rfl rfl (fun _ => ⟨_, _, rfl, rfl⟩) rfl (Wp.mono h ?_)
  rintro _ m3 ⟨rfl, h⟩
  change Wp _ _ 13 _ [] _ _
  refine w_aload_n (q := 14) hm129 ⟨⟨_, _, rfl⟩, rfl⟩ rfl ?_
  refine w_getr (q := 17) hm129 ⟨⟨_, _, rfl⟩, rfl⟩ rfl ?_
  refine w_iconst (q := 18) hm129 ⟨⟨_, _, rfl⟩, rfl⟩ iconst_5 ?_
  refine w_aload_n (q := 19) hm129 ⟨⟨_, _, rfl⟩, rfl⟩ rfl ?_
  refine w_getr (q := 22) hm129 ⟨⟨_, _, rfl⟩, rfl⟩ rfl ?_
  refine w_getr (q := 25) hm129 ⟨⟨_, _, rfl⟩, rfl⟩ rfl ?_
  refine w_iload_n (q := 26) hm129 ⟨⟨_, _, rfl⟩, rfl⟩ rfl ?_
  obtain ⟨hi, h⟩ := h
  refine w_iald (q := 27) (v := (m3.1 8 x2.toNatClampNeg)) hm129 ⟨⟨_, _, rfl⟩, rfl⟩ rfl hi rfl rfl ?_
  refine w_iast (q := 28) (j := 5) hm129 ⟨⟨_, _, rfl⟩, rfl⟩ rfl (by decide) (by decide) rfl ?_
  refine w_aload_n (q := 29) hm129 ⟨⟨_, _, rfl⟩, rfl⟩ rfl ?_
  refine w_getr (q := 32) hm129 ⟨⟨_, _, rfl⟩, rfl⟩ rfl ?_
  refine w_getr (q := 35) hm129 ⟨⟨_, _, rfl⟩, rfl⟩ rfl ?_
  refine w_iconst (q := 36) hm129 ⟨⟨_, _, rfl⟩, rfl⟩ iconst_3 ?_
  refine w_aload_n (q := 37) hm129 ⟨⟨_, _, rfl⟩, rfl⟩ rfl ?_
  refine w_getr (q := 40) hm129 ⟨⟨_, _, rfl⟩, rfl⟩ rfl ?_
  refine w_call (q := 43) (n := 4) (vs := [.inr (.inr (some 11)), .inl (3 : Int32), .inr (.inr (some 55))]) (rest := []) (la := [oR 11, oI (3 : Int32), oR 55, none, none, none, none]) hm129 ⟨⟨_, _, rfl⟩, rfl⟩ rfl rfl rfl rfl hm181 rfl rfl (fun _ => ⟨_, _, rfl, rfl⟩) rfl (Wp.mono h ?_)
  rintro _ m4 ⟨r4, rfl, h⟩
  change Wp _ _ 43 _ [.inl r4] _ _
  refine w_call (q := 46) (n := 0) (vs := [.inl r4]) (rest := []) (la := [oI r4]) hm129 ⟨⟨_, _, rfl⟩, rfl⟩ rfl rfl rfl rfl hm126 rfl rfl (fun hz => absurd hz (by decide)) rfl (Wp.mono h ?_)
  rintro _ m5 ⟨r5, rfl, h⟩
  change Wp _ _ 46 _ [.inl r5] _ _
  exact w_reti hm129 ⟨⟨_, _, rfl⟩, rfl⟩ rfl h
theorem v_X0_takePay_54_62 {d : Nat} {m : dM} {Q : dM → Prop} (h : c_X7_hourOfDay_62 d m (fun r1 m1 => c_X0_usesAt_54_62 d r1 m1 (fun r2 m2 => j_X0_takePay_54_62_12 (d + 1) r2 (0 : Int32) m2 Q))) : c_X0_takePay_54_62 (d + 1) m Q := by
  refine w_aload_n (q := 1) hm135 ⟨⟨_, _, rfl⟩, rfl⟩ rfl ?_
  refine w_aload_n (q := 2) hm135 ⟨⟨_, _, rfl⟩, rfl⟩ rfl ?_
  refine w_aload_n (q := 3) hm135 ⟨⟨_, _, rfl⟩, rfl⟩ rfl ?_
  refine w_call (q := 6) (n := 0) (vs := [.inr (.inr (some 62))]) (rest := [.inr (.inr (some 62)), .inr (.inr (some 54))]) (la := [oR 62]) hm135 ⟨⟨_, _, rfl⟩, rfl⟩ rfl rfl rfl rfl hm212 rfl rfl (fun _ => ⟨_, _, rfl, rfl⟩) rfl (Wp.mono h ?_)
  rintro _ m1 ⟨r1, rfl, h⟩
  change Wp _ _ 6 _ [.inl r1, .inr (.inr (some 62)), .inr (.inr (some 54))] _ _
  refine w_call (q := 9) (n := 3) (vs := [.inr (.inr (some 54)), .inr (.inr (some 62)), .inl r1]) (rest := []) (la := [oR 54, oR 62, oI r1, none, none, none]) hm135 ⟨⟨_, _, rfl⟩, rfl⟩ rfl rfl rfl rfl hm118 rfl rfl (fun _ => ⟨_, _, rfl, rfl⟩) rfl (Wp.mono h ?_)
  rintro _ m2 ⟨r2, rfl, h⟩
  change Wp _ _ 9 _ [.inl r2] _ _
  refine w_istore_n (q := 10) (l' := [oR 54, oR 62, oI r2, none]) hm135 ⟨⟨_, _, rfl⟩, rfl⟩ rfl rfl rfl ?_
  refine w_iconst (q := 11) hm135 ⟨⟨_, _, rfl⟩, rfl⟩ iconst_0 ?_
  refine w_istore_n (q := 12) (l' := [oR 54, oR 62, oI r2, oI (0 : Int32)]) hm135 ⟨⟨_, _, rfl⟩, rfl⟩ rfl rfl rfl ?_
  exact h
theorem v_X0_takePay_54_62_12 {d : Nat} {x2 : Int32} {x3 : Int32} {m : dM} {Q : dM → Prop} (h : (((m.1 2 2).toInt ≤ x3.toInt → Q m) ∧ (x3.toInt < (m.1 2 2).toInt → c_X11_has d x2 x3 m (fun r1 m1 => ((r1.toInt = 0 → j_X0_takePay_54_62_51 (d + 1) x2 x3 m1 Q) ∧ (r1.toInt ≠ 0 → c_X0_payOf_54_62 d x3 m1 (fun r2 m2 => j_X0_takePay_54_62_51 (d + 1) x2 x3 (dSet m2 62 1 (if ((m1.1 62 1) + r2) < (99999 : Int32) then ((m1.1 62 1) + r2) else (99999 : Int32))) Q))))))) : j_X0_takePay_54_62_12 (d + 1) x2 x3 m Q := by
  refine w_iload_n (q := 13) hm135 ⟨⟨_, _, rfl⟩, rfl⟩ rfl ?_
  refine w_aload_n (q := 14) hm135 ⟨⟨_, _, rfl⟩, rfl⟩ rfl ?_
  refine w_getr (q := 17) hm135 ⟨⟨_, _, rfl⟩, rfl⟩ rfl ?_
  refine w_getf (q := 20) (v := (m.1 2 2)) hm135 ⟨⟨_, _, rfl⟩, rfl⟩ rfl rfl ?_
  refine w_icmp_ge (q := 23) (X := x3.toInt) (Y := (m.1 2 2).toInt) hm135 ⟨⟨_, _, rfl⟩, rfl⟩ rfl rfl (fun hc => ?_) (fun hc => ?_)
  · have h := h.1 hc
    exact w_retv hm135 ⟨⟨_, _, rfl⟩, rfl⟩ rfl h
  · have h := h.2 hc
    refine w_iload_n (q := 24) hm135 ⟨⟨_, _, rfl⟩, rfl⟩ rfl ?_
    refine w_iload_n (q := 25) hm135 ⟨⟨_, _, rfl⟩, rfl⟩ rfl ?_
    refine w_call (q := 28) (n := 0) (vs := [.inl x2, .inl x3]) (rest := []) (la := [oI x2, oI x3]) hm135 ⟨⟨_, _, rfl⟩, rfl⟩ rfl rfl rfl rfl hm283 rfl rfl (fun hz => absurd hz (by decide)) rfl (Wp.mono h ?_)
    rintro _ m1 ⟨r1, rfl, h⟩
    change Wp _ _ 28 _ [.inl r1] _ _
    refine w_if_eq (q := 31) (X := r1.toInt) hm135 ⟨⟨_, _, rfl⟩, rfl⟩ rfl (fun hc => ?_) (fun hc => ?_)
    · have h := h.1 hc
      exact h
    · have h := h.2 hc
      refine w_aload_n (q := 32) hm135 ⟨⟨_, _, rfl⟩, rfl⟩ rfl ?_
      refine w_ldc (q := 34) hm135 ⟨⟨_, _, rfl⟩, rfl⟩ ldc_99999 ?_
      refine w_aload_n (q := 35) hm135 ⟨⟨_, _, rfl⟩, rfl⟩ rfl ?_
      refine w_getf (q := 38) (v := (m1.1 62 1)) hm135 ⟨⟨_, _, rfl⟩, rfl⟩ rfl rfl ?_
      refine w_aload_n (q := 39) hm135 ⟨⟨_, _, rfl⟩, rfl⟩ rfl ?_
      refine w_aload_n (q := 40) hm135 ⟨⟨_, _, rfl⟩, rfl⟩ rfl ?_
      refine w_iload_n (q := 41) hm135 ⟨⟨_, _, rfl⟩, rfl⟩ rfl ?_
      refine w_call (q := 44) (n := 0) (vs := [.inr (.inr (some 54)), .inr (.inr (some 62)), .inl x3]) (rest := [.inl (m1.1 62 1), .inl (99999 : Int32), .inr (.inr (some 62))]) (la := [oR 54, oR 62, oI x3]) hm135 ⟨⟨_, _, rfl⟩, rfl⟩ rfl rfl rfl rfl hm129 rfl rfl (fun _ => ⟨_, _, rfl, rfl⟩) rfl (Wp.mono h ?_)
      rintro _ m2 ⟨r2, rfl, h⟩
      change Wp _ _ 44 _ [.inl r2, .inl (m1.1 62 1), .inl (99999 : Int32), .inr (.inr (some 62))] _ _
      refine w_iadd (q := 45) hm135 ⟨⟨_, _, rfl⟩, rfl⟩ ?_
      refine w_min (q := 48) hm135 ⟨⟨_, _, rfl⟩, rfl⟩ rfl rfl ?_
      refine w_putf (q := 51) hm135 ⟨⟨_, _, rfl⟩, rfl⟩ rfl rfl rfl ?_
      exact h
theorem v_X0_takePay_54_62_51 {d : Nat} {x2 : Int32} {x3 : Int32} {m : dM} {Q : dM → Prop} (h : j_X0_takePay_54_62_12 (d + 1) x2 (x3 + (1 : Int32)) m Q) : j_X0_takePay_54_62_51 (d + 1) x2 x3 m Q := by
  refine w_iinc (q := 54) (l' := [oR 54, oR 62, oI x2, oI (x3 + (1 : Int32))]) hm135 ⟨⟨_, _, rfl⟩, rfl⟩ rfl rfl rfl iconst_1 rfl ?_
  refine w_goto (q := 12) hm135 ⟨_, _, rfl⟩ ?_
  exact h
theorem v_X0_quarrelOf_54_62 {d : Nat} {x2 : Int32} {m : dM} {Q : Int32 → dM → Prop} (h : c_X7_hourOfDay_62 d m (fun r1 m1 => c_X7_day_62 d m1 (fun r2 m2 => c_X0_setVars_54 d r1 r2 x2 m2 (fun m3 => ((0 ≤ x2.toInt ∧ x2.toInt < 7) ∧ ((0 ≤ x2.toInt ∧ x2.toInt < 7) ∧ c_X4_tells_11_55 d (1 : Int32) (dSet (dSet m3 55 6 (m3.1 3 x2.toNatClampNeg)) 55 7 (m3.1 65 x2.toNatClampNeg)) (fun r4 m4 => c_X0_held d r4 m4 (fun r5 m5 => Q r5 m5)))))))) : c_X0_quarrelOf_54_62 (d + 1) x2 m Q := by
  refine w_aload_n (q := 1) hm127 ⟨⟨_, _, rfl⟩, rfl⟩ rfl ?_
  refine w_aload_n (q := 2) hm127 ⟨⟨_, _, rfl⟩, rfl⟩ rfl ?_
  refine w_call (q := 5) (n := 0) (vs := [.inr (.inr (some 62))]) (rest := [.inr (.inr (some 54))]) (la := [oR 62]) hm127 ⟨⟨_, _, rfl⟩, rfl⟩ rfl rfl rfl rfl hm212 rfl rfl (fun _ => ⟨_, _, rfl, rfl⟩) rfl (Wp.mono h ?_)
  rintro _ m1 ⟨r1, rfl, h⟩
  change Wp _ _ 5 _ [.inl r1, .inr (.inr (some 54))] _ _
  refine w_aload_n (q := 6) hm127 ⟨⟨_, _, rfl⟩, rfl⟩ rfl ?_
  refine w_call (q := 9) (n := 0) (vs := [.inr (.inr (some 62))]) (rest := [.inl r1, .inr (.inr (some 54))]) (la := [oR 62]) hm127 ⟨⟨_, _, rfl⟩, rfl⟩ rfl rfl rfl rfl hm213 rfl rfl (fun _ => ⟨_, _, rfl, rfl⟩) rfl (Wp.mono h ?_)
  rintro _ m2 ⟨r2, rfl, h⟩
  change Wp _ _ 9 _ [.inl r2, .inl r1, .inr (.inr (some 54))] _ _
  refine w_iload_n (q := 10) hm127 ⟨⟨_, _, rfl⟩, rfl⟩ rfl ?_
  refine w_call (q := 13) (n := 0) (vs := [.inr (.inr (some 54)), .inl r1, .inl r2, .inl x2]) (rest := []) (la := [oR 54, oI r1, oI r2, oI x2]) hm127 ⟨⟨_, _, rfl⟩, rfl⟩ rfl rfl rfl rfl hm125 rfl rfl (fun _ => ⟨_, _, rfl, rfl⟩) rfl (Wp.mono h ?_)
  rintro _ m3 ⟨rfl, h⟩
  change Wp _ _ 13 _ [] _ _
  refine w_aload_n (q := 14) hm127 ⟨⟨_, _, rfl⟩, rfl⟩ rfl ?_
  refine w_getr (q := 17) hm127 ⟨⟨_, _, rfl⟩, rfl⟩ rfl ?_
  refine w_bipush (q := 19) hm127 ⟨⟨_, _, rfl⟩, rfl⟩ bipush_6 ?_
  refine w_aload_n (q := 20) hm127 ⟨⟨_, _, rfl⟩, rfl⟩ rfl ?_
  refine w_getr (q := 23) hm127 ⟨⟨_, _, rfl⟩, rfl⟩ rfl ?_
  refine w_getr (q := 26) hm127 ⟨⟨_, _, rfl⟩, rfl⟩ rfl ?_
  refine w_iload_n (q := 27) hm127 ⟨⟨_, _, rfl⟩, rfl⟩ rfl ?_
  obtain ⟨hi, h⟩ := h
  refine w_iald (q := 28) (v := (m3.1 3 x2.toNatClampNeg)) hm127 ⟨⟨_, _, rfl⟩, rfl⟩ rfl hi rfl rfl ?_
  refine w_iast (q := 29) (j := 6) hm127 ⟨⟨_, _, rfl⟩, rfl⟩ rfl (by decide) (by decide) rfl ?_
  refine w_aload_n (q := 30) hm127 ⟨⟨_, _, rfl⟩, rfl⟩ rfl ?_
  refine w_getr (q := 33) hm127 ⟨⟨_, _, rfl⟩, rfl⟩ rfl ?_
  refine w_bipush (q := 35) hm127 ⟨⟨_, _, rfl⟩, rfl⟩ bipush_7 ?_
  refine w_aload_n (q := 36) hm127 ⟨⟨_, _, rfl⟩, rfl⟩ rfl ?_
  refine w_getr (q := 39) hm127 ⟨⟨_, _, rfl⟩, rfl⟩ rfl ?_
  refine w_iload_n (q := 40) hm127 ⟨⟨_, _, rfl⟩, rfl⟩ rfl ?_
  obtain ⟨hi, h⟩ := h
  refine w_iald (q := 41) (v := (m3.1 65 x2.toNatClampNeg)) hm127 ⟨⟨_, _, rfl⟩, rfl⟩ rfl hi rfl rfl ?_
  refine w_iast (q := 42) (j := 7) hm127 ⟨⟨_, _, rfl⟩, rfl⟩ rfl (by decide) (by decide) rfl ?_
  refine w_aload_n (q := 43) hm127 ⟨⟨_, _, rfl⟩, rfl⟩ rfl ?_
  refine w_getr (q := 46) hm127 ⟨⟨_, _, rfl⟩, rfl⟩ rfl ?_
  refine w_getr (q := 49) hm127 ⟨⟨_, _, rfl⟩, rfl⟩ rfl ?_
  refine w_iconst (q := 50) hm127 ⟨⟨_, _, rfl⟩, rfl⟩ iconst_1 ?_
  refine w_aload_n (q := 51) hm127 ⟨⟨_, _, rfl⟩, rfl⟩ rfl ?_
  refine w_getr (q := 54) hm127 ⟨⟨_, _, rfl⟩, rfl⟩ rfl ?_
  refine w_call (q := 57) (n := 4) (vs := [.inr (.inr (some 11)), .inl (1 : Int32), .inr (.inr (some 55))]) (rest := []) (la := [oR 11, oI (1 : Int32), oR 55, none, none, none, none]) hm127 ⟨⟨_, _, rfl⟩, rfl⟩ rfl rfl rfl rfl hm181 rfl rfl (fun _ => ⟨_, _, rfl, rfl⟩) rfl (Wp.mono h ?_)
  rintro _ m4 ⟨r4, rfl, h⟩
  change Wp _ _ 57 _ [.inl r4] _ _
  refine w_call (q := 60) (n := 0) (vs := [.inl r4]) (rest := []) (la := [oI r4]) hm127 ⟨⟨_, _, rfl⟩, rfl⟩ rfl rfl rfl rfl hm126 rfl rfl (fun hz => absurd hz (by decide)) rfl (Wp.mono h ?_)
  rintro _ m5 ⟨r5, rfl, h⟩
  change Wp _ _ 60 _ [.inl r5] _ _
  exact w_reti hm127 ⟨⟨_, _, rfl⟩, rfl⟩ rfl h
theorem v_X0_countQuarrels_54_62 {d : Nat} {m : dM} {Q : dM → Prop} (h : c_X10_lay_57 d (m.1 62 3) m (fun m1 => j_X0_countQuarrels_54_62_13 (d + 1) (0 : Int32) m1 Q)) : c_X0_countQuarrels_54_62 (d + 1) m Q := by
  refine w_aload_n (q := 1) hm136 ⟨⟨_, _, rfl⟩, rfl⟩ rfl ?_
  refine w_getr (q := 4) hm136 ⟨⟨_, _, rfl⟩, rfl⟩ rfl ?_
  refine w_aload_n (q := 5) hm136 ⟨⟨_, _, rfl⟩, rfl⟩ rfl ?_
  refine w_getf (q := 8) (v := (m.1 62 3)) hm136 ⟨⟨_, _, rfl⟩, rfl⟩ rfl rfl ?_
  refine w_call (q := 11) (n := 3) (vs := [.inr (.inr (some 57)), .inl (m.1 62 3)]) (rest := []) (la := [oR 57, oI (m.1 62 3), none, none, none]) hm136 ⟨⟨_, _, rfl⟩, rfl⟩ rfl rfl rfl rfl hm239 rfl rfl (fun _ => ⟨_, _, rfl, rfl⟩) rfl (Wp.mono h ?_)
  rintro _ m1 ⟨rfl, h⟩
  change Wp _ _ 11 _ [] _ _
  refine w_iconst (q := 12) hm136 ⟨⟨_, _, rfl⟩, rfl⟩ iconst_0 ?_
  refine w_istore_n (q := 13) (l' := [oR 54, oR 62, oI (0 : Int32)]) hm136 ⟨⟨_, _, rfl⟩, rfl⟩ rfl rfl rfl ?_
  exact h
theorem v_X0_countQuarrels_54_62_13 {d : Nat} {x2 : Int32} {m : dM} {Q : dM → Prop} (h : (((m.1 2 0).toInt ≤ x2.toInt → Q m) ∧ (x2.toInt < (m.1 2 0).toInt → c_X11_has d (m.1 57 5) x2 m (fun r1 m1 => ((r1.toInt = 0 → c_X0_quarrelOf_54_62 d x2 m1 (fun r2 m2 => ((0 ≤ x2.toInt ∧ x2.toInt < 7) ∧ ((0 ≤ x2.toInt ∧ x2.toInt < 7) ∧ j_X0_countQuarrels_54_62_78 (d + 1) x2 (dSet (dSet m2 62 2 (if ((m1.1 62 2) + r2) < (999999 : Int32) then ((m1.1 62 2) + r2) else (999999 : Int32))) 65 x2.toNatClampNeg ((m2.1 65 x2.toNatClampNeg) + (1 : Int32))) Q)))) ∧ (r1.toInt ≠ 0 → ((0 ≤ x2.toInt ∧ x2.toInt < 7) ∧ j_X0_countQuarrels_54_62_78 (d + 1) x2 (dSet m1 65 x2.toNatClampNeg (0 : Int32)) Q))))))) : j_X0_countQuarrels_54_62_13 (d + 1) x2 m Q := by
  refine w_iload_n (q := 14) hm136 ⟨⟨_, _, rfl⟩, rfl⟩ rfl ?_
  refine w_aload_n (q := 15) hm136 ⟨⟨_, _, rfl⟩, rfl⟩ rfl ?_
  refine w_getr (q := 18) hm136 ⟨⟨_, _, rfl⟩, rfl⟩ rfl ?_
  refine w_getf (q := 21) (v := (m.1 2 0)) hm136 ⟨⟨_, _, rfl⟩, rfl⟩ rfl rfl ?_
  refine w_icmp_ge (q := 24) (X := x2.toInt) (Y := (m.1 2 0).toInt) hm136 ⟨⟨_, _, rfl⟩, rfl⟩ rfl rfl (fun hc => ?_) (fun hc => ?_)
  · have h := h.1 hc
    exact w_retv hm136 ⟨⟨_, _, rfl⟩, rfl⟩ rfl h
  · have h := h.2 hc
    refine w_aload_n (q := 25) hm136 ⟨⟨_, _, rfl⟩, rfl⟩ rfl ?_
    refine w_getr (q := 28) hm136 ⟨⟨_, _, rfl⟩, rfl⟩ rfl ?_
    refine w_getf (q := 31) (v := (m.1 57 5)) hm136 ⟨⟨_, _, rfl⟩, rfl⟩ rfl rfl ?_
    refine w_iload_n (q := 32) hm136 ⟨⟨_, _, rfl⟩, rfl⟩ rfl ?_
    refine w_call (q := 35) (n := 0) (vs := [.inl (m.1 57 5), .inl x2]) (rest := []) (la := [oI (m.1 57 5), oI x2]) hm136 ⟨⟨_, _, rfl⟩, rfl⟩ rfl rfl rfl rfl hm283 rfl rfl (fun hz => absurd hz (by decide)) rfl (Wp.mono h ?_)
    rintro _ m1 ⟨r1, rfl, h⟩
    change Wp _ _ 35 _ [.inl r1] _ _
    refine w_if_eq (q := 38) (X := r1.toInt) hm136 ⟨⟨_, _, rfl⟩, rfl⟩ rfl (fun hc => ?_) (fun hc => ?_)
    · have h := h.1 hc
      refine w_aload_n (q := 49) hm136 ⟨⟨_, _, rfl⟩, rfl⟩ rfl ?_
      refine w_ldc (q := 51) hm136 ⟨⟨_, _, rfl⟩, rfl⟩ ldc_999999 ?_
      refine w_aload_n (q := 52) hm136 ⟨⟨_, _, rfl⟩, rfl⟩ rfl ?_
      refine w_getf (q := 55) (v := (m1.1 62 2)) hm136 ⟨⟨_, _, rfl⟩, rfl⟩ rfl rfl ?_
      refine w_aload_n (q := 56) hm136 ⟨⟨_, _, rfl⟩, rfl⟩ rfl ?_
      refine w_aload_n (q := 57) hm136 ⟨⟨_, _, rfl⟩, rfl⟩ rfl ?_
      refine w_iload_n (q := 58) hm136 ⟨⟨_, _, rfl⟩, rfl⟩ rfl ?_
      refine w_call (q := 61) (n := 0) (vs := [.inr (.inr (some 54)), .inr (.inr (some 62)), .inl x2]) (rest := [.inl (m1.1 62 2), .inl (999999 : Int32), .inr (.inr (some 62))]) (la := [oR 54, oR 62, oI x2]) hm136 ⟨⟨_, _, rfl⟩, rfl⟩ rfl rfl rfl rfl hm127 rfl rfl (fun _ => ⟨_, _, rfl, rfl⟩) rfl (Wp.mono h ?_)
      rintro _ m2 ⟨r2, rfl, h⟩
      change Wp _ _ 61 _ [.inl r2, .inl (m1.1 62 2), .inl (999999 : Int32), .inr (.inr (some 62))] _ _
      refine w_iadd (q := 62) hm136 ⟨⟨_, _, rfl⟩, rfl⟩ ?_
      refine w_min (q := 65) hm136 ⟨⟨_, _, rfl⟩, rfl⟩ rfl rfl ?_
      refine w_putf (q := 68) hm136 ⟨⟨_, _, rfl⟩, rfl⟩ rfl rfl rfl ?_
      refine w_aload_n (q := 69) hm136 ⟨⟨_, _, rfl⟩, rfl⟩ rfl ?_
      refine w_getr (q := 72) hm136 ⟨⟨_, _, rfl⟩, rfl⟩ rfl ?_
      refine w_iload_n (q := 73) hm136 ⟨⟨_, _, rfl⟩, rfl⟩ rfl ?_
      refine w_dup2 (q := 74) hm136 ⟨⟨_, _, rfl⟩, rfl⟩ rfl ?_
      obtain ⟨hi, h⟩ := h
      refine w_iald (q := 75) (v := (m2.1 65 x2.toNatClampNeg)) hm136 ⟨⟨_, _, rfl⟩, rfl⟩ rfl hi rfl rfl ?_
      refine w_iconst (q := 76) hm136 ⟨⟨_, _, rfl⟩, rfl⟩ iconst_1 ?_
      refine w_iadd (q := 77) hm136 ⟨⟨_, _, rfl⟩, rfl⟩ ?_
      obtain ⟨hi, h⟩ := h
      refine w_iast (q := 78) hm136 ⟨⟨_, _, rfl⟩, rfl⟩ rfl hi rfl rfl ?_
      exact h
    · have h := h.2 hc
      refine w_aload_n (q := 39) hm136 ⟨⟨_, _, rfl⟩, rfl⟩ rfl ?_
      refine w_getr (q := 42) hm136 ⟨⟨_, _, rfl⟩, rfl⟩ rfl ?_
      refine w_iload_n (q := 43) hm136 ⟨⟨_, _, rfl⟩, rfl⟩ rfl ?_
      refine w_iconst (q := 44) hm136 ⟨⟨_, _, rfl⟩, rfl⟩ iconst_0 ?_
      obtain ⟨hi, h⟩ := h
      refine w_iast (q := 45) hm136 ⟨⟨_, _, rfl⟩, rfl⟩ rfl hi rfl rfl ?_
      refine w_goto (q := 78) hm136 ⟨_, _, rfl⟩ ?_
      exact h
theorem v_X0_countQuarrels_54_62_78 {d : Nat} {x2 : Int32} {m : dM} {Q : dM → Prop} (h : j_X0_countQuarrels_54_62_13 (d + 1) (x2 + (1 : Int32)) m Q) : j_X0_countQuarrels_54_62_78 (d + 1) x2 m Q := by
  refine w_iinc (q := 81) (l' := [oR 54, oR 62, oI (x2 + (1 : Int32))]) hm136 ⟨⟨_, _, rfl⟩, rfl⟩ rfl rfl rfl iconst_1 rfl ?_
  refine w_goto (q := 13) hm136 ⟨_, _, rfl⟩ ?_
  exact h
theorem v_X0_passHour_54_62 {d : Nat} {m : dM} {Q : dM → Prop} (h : c_X0_takePay_54_62 d m (fun m1 => c_X0_countQuarrels_54_62 d m1 (fun m2 => c_X0_surgeOf_54 d (m2.1 2 6) (m2.1 62 0) m2 (fun r3 m3 => c_X0_passWires_54_62 d r3 m3 (fun r4 m4 => Q m4))))) : c_X0_passHour_54_62 (d + 1) m Q := by
  refine w_aload_n (q := 1) hm134 ⟨⟨_, _, rfl⟩, rfl⟩ rfl ?_
  refine w_aload_n (q := 2) hm134 ⟨⟨_, _, rfl⟩, rfl⟩ rfl ?_
  refine w_call (q := 5) (n := 2) (vs := [.inr (.inr (some 54)), .inr (.inr (some 62))]) (rest := []) (la := [oR 54, oR 62, none, none]) hm134 ⟨⟨_, _, rfl⟩, rfl⟩ rfl rfl rfl rfl hm135 rfl rfl (fun _ => ⟨_, _, rfl, rfl⟩) rfl (Wp.mono h ?_)
  rintro _ m1 ⟨rfl, h⟩
  change Wp _ _ 5 _ [] _ _
  refine w_aload_n (q := 6) hm134 ⟨⟨_, _, rfl⟩, rfl⟩ rfl ?_
  refine w_aload_n (q := 7) hm134 ⟨⟨_, _, rfl⟩, rfl⟩ rfl ?_
  refine w_call (q := 10) (n := 1) (vs := [.inr (.inr (some 54)), .inr (.inr (some 62))]) (rest := []) (la := [oR 54, oR 62, none]) hm134 ⟨⟨_, _, rfl⟩, rfl⟩ rfl rfl rfl rfl hm136 rfl rfl (fun _ => ⟨_, _, rfl, rfl⟩) rfl (Wp.mono h ?_)
  rintro _ m2 ⟨rfl, h⟩
  change Wp _ _ 10 _ [] _ _
  refine w_aload_n (q := 11) hm134 ⟨⟨_, _, rfl⟩, rfl⟩ rfl ?_
  refine w_aload_n (q := 12) hm134 ⟨⟨_, _, rfl⟩, rfl⟩ rfl ?_
  refine w_aload_n (q := 13) hm134 ⟨⟨_, _, rfl⟩, rfl⟩ rfl ?_
  refine w_aload_n (q := 14) hm134 ⟨⟨_, _, rfl⟩, rfl⟩ rfl ?_
  refine w_getr (q := 17) hm134 ⟨⟨_, _, rfl⟩, rfl⟩ rfl ?_
  refine w_getf (q := 20) (v := (m2.1 2 6)) hm134 ⟨⟨_, _, rfl⟩, rfl⟩ rfl rfl ?_
  refine w_aload_n (q := 21) hm134 ⟨⟨_, _, rfl⟩, rfl⟩ rfl ?_
  refine w_getf (q := 24) (v := (m2.1 62 0)) hm134 ⟨⟨_, _, rfl⟩, rfl⟩ rfl rfl ?_
  refine w_call (q := 27) (n := 0) (vs := [.inr (.inr (some 54)), .inl (m2.1 2 6), .inl (m2.1 62 0)]) (rest := [.inr (.inr (some 62)), .inr (.inr (some 54))]) (la := [oR 54, oI (m2.1 2 6), oI (m2.1 62 0)]) hm134 ⟨⟨_, _, rfl⟩, rfl⟩ rfl rfl rfl rfl hm131 rfl rfl (fun _ => ⟨_, _, rfl, rfl⟩) rfl (Wp.mono h ?_)
  rintro _ m3 ⟨r3, rfl, h⟩
  change Wp _ _ 27 _ [.inl r3, .inr (.inr (some 62)), .inr (.inr (some 54))] _ _
  refine w_call (q := 30) (n := 2) (vs := [.inr (.inr (some 54)), .inr (.inr (some 62)), .inl r3]) (rest := []) (la := [oR 54, oR 62, oI r3, none, none]) hm134 ⟨⟨_, _, rfl⟩, rfl⟩ rfl rfl rfl rfl hm137 rfl rfl (fun _ => ⟨_, _, rfl, rfl⟩) rfl (Wp.mono h ?_)
  rintro _ m4 ⟨r4, rfl, h⟩
  change Wp _ _ 30 _ [.inl r4] _ _
  refine w_pop (q := 31) hm134 ⟨⟨_, _, rfl⟩, rfl⟩ rfl ?_
  exact w_retv hm134 ⟨⟨_, _, rfl⟩, rfl⟩ rfl h
theorem v_X1_after_61_47 {d : Nat} {x2 : Int32} {m : dM} {Q : dM → Prop} (h : c_X7_copy_62_47 d m (fun m1 => j_X1_after_61_47_10 (d + 1) x2 (0 : Int32) m1 Q)) : c_X1_after_61_47 (d + 1) x2 m Q := by
  refine w_aload_n (q := 1) hm150 ⟨⟨_, _, rfl⟩, rfl⟩ rfl ?_
  refine w_getr (q := 4) hm150 ⟨⟨_, _, rfl⟩, rfl⟩ rfl ?_
  refine w_aload_n (q := 5) hm150 ⟨⟨_, _, rfl⟩, rfl⟩ rfl ?_
  refine w_call (q := 8) (n := 0) (vs := [.inr (.inr (some 62)), .inr (.inr (some 47))]) (rest := []) (la := [oR 62, oR 47]) hm150 ⟨⟨_, _, rfl⟩, rfl⟩ rfl rfl rfl rfl hm209 rfl rfl (fun _ => ⟨_, _, rfl, rfl⟩) rfl (Wp.mono h ?_)
  rintro _ m1 ⟨rfl, h⟩
  change Wp _ _ 8 _ [] _ _
  refine w_iconst (q := 9) hm150 ⟨⟨_, _, rfl⟩, rfl⟩ iconst_0 ?_
  refine w_istore_n (q := 10) (l' := [oR 61, oR 47, oI x2, oI (0 : Int32)]) hm150 ⟨⟨_, _, rfl⟩, rfl⟩ rfl rfl rfl ?_
  exact Wp.wk [true, false, true, true] h
theorem v_X1_after_61_47_10 {d : Nat} {x2 : Int32} {x3 : Int32} {m : dM} {Q : dM → Prop} (h : ((x2.toInt ≤ x3.toInt → Q m) ∧ (x3.toInt < x2.toInt → c_X0_passHour_54_62 d m (fun m1 => j_X1_after_61_47_10 (d + 1) x2 (x3 + (1 : Int32)) m1 Q)))) : j_X1_after_61_47_10 (d + 1) x2 x3 m Q := by
  refine w_iload_n (q := 11) hm150 ⟨⟨_, _, rfl⟩, rfl⟩ rfl ?_
  refine w_iload_n (q := 12) hm150 ⟨⟨_, _, rfl⟩, rfl⟩ rfl ?_
  refine w_icmp_ge (q := 15) (X := x3.toInt) (Y := x2.toInt) hm150 ⟨⟨_, _, rfl⟩, rfl⟩ rfl rfl (fun hc => ?_) (fun hc => ?_)
  · have h := h.1 hc
    refine w_aload_n (q := 33) hm150 ⟨⟨_, _, rfl⟩, rfl⟩ rfl ?_
    refine w_getr (q := 36) hm150 ⟨⟨_, _, rfl⟩, rfl⟩ rfl ?_
    exact w_reta hm150 ⟨⟨_, _, rfl⟩, rfl⟩ rfl h
  · have h := h.2 hc
    refine w_aload_n (q := 16) hm150 ⟨⟨_, _, rfl⟩, rfl⟩ rfl ?_
    refine w_getr (q := 19) hm150 ⟨⟨_, _, rfl⟩, rfl⟩ rfl ?_
    refine w_aload_n (q := 20) hm150 ⟨⟨_, _, rfl⟩, rfl⟩ rfl ?_
    refine w_getr (q := 23) hm150 ⟨⟨_, _, rfl⟩, rfl⟩ rfl ?_
    refine w_call (q := 26) (n := 0) (vs := [.inr (.inr (some 54)), .inr (.inr (some 62))]) (rest := []) (la := [oR 54, oR 62]) hm150 ⟨⟨_, _, rfl⟩, rfl⟩ rfl rfl rfl rfl hm134 rfl rfl (fun _ => ⟨_, _, rfl, rfl⟩) rfl (Wp.mono h ?_)
    rintro _ m1 ⟨rfl, h⟩
    change Wp _ _ 26 _ [] _ _
    refine w_iinc (q := 29) (l' := [oR 61, none, oI x2, oI (x3 + (1 : Int32))]) hm150 ⟨⟨_, _, rfl⟩, rfl⟩ rfl rfl rfl iconst_1 rfl ?_
    refine w_goto (q := 10) hm150 ⟨_, _, rfl⟩ ?_
    exact h
theorem v_X11_then_0 {d : Nat} {x1 : Int32} {x2 : Int32} {m : dM} {Q : Int32 → dM → Prop} (h : ((x1.toInt < 0 → j_X11_then_0_19 (d + 1) m Q) ∧ (0 ≤ x1.toInt → ((72 < x1.toInt → j_X11_then_0_19 (d + 1) m Q) ∧ (x1.toInt ≤ 72 → ((x2.toInt < 0 → j_X11_then_0_19 (d + 1) m Q) ∧ (0 ≤ x2.toInt → ((x2.toInt ≤ 2 → c_X1_after_61_47 d x1 m (fun m1 => ((x2.toInt ≠ 0 → ((x2.toInt ≠ 1 → c_J6_bitCount d (m1.1 62 3) m1 (fun r2 m2 => Q r2 m2)) ∧ (x2.toInt = 1 → Q ((m1.1 62 2) - (m1.1 47 2)) m1))) ∧ (x2.toInt = 0 → Q ((m1.1 62 1) - (m1.1 47 1)) m1)))) ∧ (2 < x2.toInt → j_X11_then_0_19 (d + 1) m Q))))))))) : c_X11_then_0 (d + 1) x1 x2 m Q := by
  refine w_iload_n (q := 1) hm272 ⟨⟨_, _, rfl⟩, rfl⟩ rfl ?_
  refine w_if_lt (q := 4) (X := x1.toInt) hm272 ⟨⟨_, _, rfl⟩, rfl⟩ rfl (fun hc => ?_) (fun hc => ?_)
  · have h := h.1 hc
    exact Wp.wk [false, false, false, false] h
  · have h := h.2 hc
    refine w_iload_n (q := 5) hm272 ⟨⟨_, _, rfl⟩, rfl⟩ rfl ?_
    refine w_bipush (q := 7) hm272 ⟨⟨_, _, rfl⟩, rfl⟩ bipush_72 ?_
    refine w_icmp_gt (q := 10) (X := x1.toInt) (Y := 72) hm272 ⟨⟨_, _, rfl⟩, rfl⟩ rfl (by decide) (fun hc => ?_) (fun hc => ?_)
    · have h := h.1 hc
      exact Wp.wk [false, false, false, false] h
    · have h := h.2 hc
      refine w_iload_n (q := 11) hm272 ⟨⟨_, _, rfl⟩, rfl⟩ rfl ?_
      refine w_if_lt (q := 14) (X := x2.toInt) hm272 ⟨⟨_, _, rfl⟩, rfl⟩ rfl (fun hc => ?_) (fun hc => ?_)
      · have h := h.1 hc
        exact Wp.wk [false, false, false, false] h
      · have h := h.2 hc
        refine w_iload_n (q := 15) hm272 ⟨⟨_, _, rfl⟩, rfl⟩ rfl ?_
        refine w_iconst (q := 16) hm272 ⟨⟨_, _, rfl⟩, rfl⟩ iconst_2 ?_
        refine w_icmp_le (q := 19) (X := x2.toInt) (Y := 2) hm272 ⟨⟨_, _, rfl⟩, rfl⟩ rfl (by decide) (fun hc => ?_) (fun hc => ?_)
        · have h := h.1 hc
          refine w_aload_n (q := 22) hm272 ⟨⟨_, _, rfl⟩, rfl⟩ rfl ?_
          refine w_getr (q := 25) hm272 ⟨⟨_, _, rfl⟩, rfl⟩ rfl ?_
          refine w_aload_n (q := 26) hm272 ⟨⟨_, _, rfl⟩, rfl⟩ rfl ?_
          refine w_getr (q := 29) hm272 ⟨⟨_, _, rfl⟩, rfl⟩ rfl ?_
          refine w_iload_n (q := 30) hm272 ⟨⟨_, _, rfl⟩, rfl⟩ rfl ?_
          refine w_call (q := 33) (n := 1) (vs := [.inr (.inr (some 61)), .inr (.inr (some 47)), .inl x1]) (rest := []) (la := [oR 61, oR 47, oI x1, none]) hm272 ⟨⟨_, _, rfl⟩, rfl⟩ rfl rfl rfl rfl hm150 rfl rfl (fun _ => ⟨_, _, rfl, rfl⟩) rfl (Wp.mono h ?_)
          rintro _ m1 ⟨rfl, h⟩
          change Wp _ _ 33 _ [.inr (.inr (some 62))] _ _
          refine w_astore_n (q := 34) (l' := [oR 0, oI x1, oI x2, oR 62]) hm272 ⟨⟨_, _, rfl⟩, rfl⟩ rfl rfl rfl ?_
          refine w_iload_n (q := 35) hm272 ⟨⟨_, _, rfl⟩, rfl⟩ rfl ?_
          refine w_if_ne (q := 38) (X := x2.toInt) hm272 ⟨⟨_, _, rfl⟩, rfl⟩ rfl (fun hc => ?_) (fun hc => ?_)
          · have h := h.1 hc
            refine w_iload_n (q := 52) hm272 ⟨⟨_, _, rfl⟩, rfl⟩ rfl ?_
            refine w_iconst (q := 53) hm272 ⟨⟨_, _, rfl⟩, rfl⟩ iconst_1 ?_
            refine w_icmp_ne (q := 56) (X := x2.toInt) (Y := 1) hm272 ⟨⟨_, _, rfl⟩, rfl⟩ rfl (by decide) (fun hc => ?_) (fun hc => ?_)
            · have h := h.1 hc
              refine w_aload_n (q := 72) hm272 ⟨⟨_, _, rfl⟩, rfl⟩ rfl ?_
              refine w_getf (q := 75) (v := (m1.1 62 3)) hm272 ⟨⟨_, _, rfl⟩, rfl⟩ rfl rfl ?_
              refine w_call (q := 78) (n := 0) (vs := [.inl (m1.1 62 3)]) (rest := []) (la := [oI (m1.1 62 3)]) hm272 ⟨⟨_, _, rfl⟩, rfl⟩ rfl rfl rfl rfl hm285 rfl rfl (fun hz => absurd hz (by decide)) rfl (Wp.mono h ?_)
              rintro _ m2 ⟨r2, rfl, h⟩
              change Wp _ _ 78 _ [.inl r2] _ _
              exact w_reti hm272 ⟨⟨_, _, rfl⟩, rfl⟩ rfl h
            · have h := h.2 hc
              refine w_aload_n (q := 57) hm272 ⟨⟨_, _, rfl⟩, rfl⟩ rfl ?_
              refine w_getf (q := 60) (v := (m1.1 62 2)) hm272 ⟨⟨_, _, rfl⟩, rfl⟩ rfl rfl ?_
              refine w_aload_n (q := 61) hm272 ⟨⟨_, _, rfl⟩, rfl⟩ rfl ?_
              refine w_getr (q := 64) hm272 ⟨⟨_, _, rfl⟩, rfl⟩ rfl ?_
              refine w_getf (q := 67) (v := (m1.1 47 2)) hm272 ⟨⟨_, _, rfl⟩, rfl⟩ rfl rfl ?_
              refine w_isub (q := 68) hm272 ⟨⟨_, _, rfl⟩, rfl⟩ ?_
              refine w_goto (q := 78) hm272 ⟨_, _, rfl⟩ ?_
              exact w_reti hm272 ⟨⟨_, _, rfl⟩, rfl⟩ rfl h
          · have h := h.2 hc
            refine w_aload_n (q := 39) hm272 ⟨⟨_, _, rfl⟩, rfl⟩ rfl ?_
            refine w_getf (q := 42) (v := (m1.1 62 1)) hm272 ⟨⟨_, _, rfl⟩, rfl⟩ rfl rfl ?_
            refine w_aload_n (q := 43) hm272 ⟨⟨_, _, rfl⟩, rfl⟩ rfl ?_
            refine w_getr (q := 46) hm272 ⟨⟨_, _, rfl⟩, rfl⟩ rfl ?_
            refine w_getf (q := 49) (v := (m1.1 47 1)) hm272 ⟨⟨_, _, rfl⟩, rfl⟩ rfl rfl ?_
            refine w_isub (q := 50) hm272 ⟨⟨_, _, rfl⟩, rfl⟩ ?_
            exact w_reti hm272 ⟨⟨_, _, rfl⟩, rfl⟩ rfl h
        · have h := h.2 hc
          exact Wp.wk [false, false, false, false] h
theorem v_X11_then_0_19 {d : Nat} {m : dM} {Q : Int32 → dM → Prop} (h : Q (-1 : Int32) m) : j_X11_then_0_19 (d + 1) m Q := by
  refine w_iconst (q := 20) hm272 ⟨⟨_, _, rfl⟩, rfl⟩ iconst_m1 ?_
  exact w_reti hm272 ⟨⟨_, _, rfl⟩, rfl⟩ rfl h
theorem v_X12_then_70 {d : Nat} {x1 : Int32} {x2 : Int32} {m : dM} {Q : Int32 → dM → Prop} (h : c_X12_isLong d x1 m (fun r1 m1 => ((r1.toInt = 0 → j_X12_then_70_16 (d + 1) m1 Q) ∧ (r1.toInt ≠ 0 → c_X12_in d x2 (0 : Int32) (2 : Int32) m1 (fun r2 m2 => ((r2.toInt ≠ 0 → c_X12_copies_70 d m2 (fun m3 => c_X12_goes_70 d x1 m3 (fun m4 => ((2 ≤ x2.toInt → j_X12_then_70_57 (d + 1) (0 : Int32) (0 : Int32) m4 Q) ∧ (x2.toInt < 2 → ((0 ≤ ((56 : Int32) + x2).toInt ∧ ((56 : Int32) + x2).toInt < 58) ∧ ((0 ≤ ((56 : Int32) + x2).toInt ∧ ((56 : Int32) + x2).toInt < 58) ∧ Q ((m4.1 108 ((56 : Int32) + x2).toNatClampNeg) - (m4.1 107 ((56 : Int32) + x2).toNatClampNeg)) m4))))))) ∧ (r2.toInt = 0 → j_X12_then_70_16 (d + 1) m2 Q))))))) : c_X12_then_70 (d + 1) x1 x2 m Q := by
  refine w_iload_n (q := 1) hm103 ⟨⟨_, _, rfl⟩, rfl⟩ rfl ?_
  refine w_call (q := 4) (n := 0) (vs := [.inl x1]) (rest := []) (la := [oI x1]) hm103 ⟨⟨_, _, rfl⟩, rfl⟩ rfl rfl rfl rfl hm78 rfl rfl (fun hz => absurd hz (by decide)) rfl (Wp.mono h ?_)
  rintro _ m1 ⟨r1, rfl, h⟩
  change Wp _ _ 4 _ [.inl r1] _ _
  refine w_if_eq (q := 7) (X := r1.toInt) hm103 ⟨⟨_, _, rfl⟩, rfl⟩ rfl (fun hc => ?_) (fun hc => ?_)
  · have h := h.1 hc
    exact Wp.wk [false, false, false, false, false] h
  · have h := h.2 hc
    refine w_iload_n (q := 8) hm103 ⟨⟨_, _, rfl⟩, rfl⟩ rfl ?_
    refine w_iconst (q := 9) hm103 ⟨⟨_, _, rfl⟩, rfl⟩ iconst_0 ?_
    refine w_iconst (q := 10) hm103 ⟨⟨_, _, rfl⟩, rfl⟩ iconst_2 ?_
    refine w_call (q := 13) (n := 0) (vs := [.inl x2, .inl (0 : Int32), .inl (2 : Int32)]) (rest := []) (la := [oI x2, oI (0 : Int32), oI (2 : Int32)]) hm103 ⟨⟨_, _, rfl⟩, rfl⟩ rfl rfl rfl rfl hm36 rfl rfl (fun hz => absurd hz (by decide)) rfl (Wp.mono h ?_)
    rintro _ m2 ⟨r2, rfl, h⟩
    change Wp _ _ 13 _ [.inl r2] _ _
    refine w_if_ne (q := 16) (X := r2.toInt) hm103 ⟨⟨_, _, rfl⟩, rfl⟩ rfl (fun hc => ?_) (fun hc => ?_)
    · have h := h.1 hc
      refine w_aload_n (q := 19) hm103 ⟨⟨_, _, rfl⟩, rfl⟩ rfl ?_
      refine w_call (q := 22) (n := 1) (vs := [.inr (.inr (some 70))]) (rest := []) (la := [oR 70, none]) hm103 ⟨⟨_, _, rfl⟩, rfl⟩ rfl rfl rfl rfl hm44 rfl rfl (fun _ => ⟨_, _, rfl, rfl⟩) rfl (Wp.mono h ?_)
      rintro _ m3 ⟨rfl, h⟩
      change Wp _ _ 22 _ [] _ _
      refine w_aload_n (q := 23) hm103 ⟨⟨_, _, rfl⟩, rfl⟩ rfl ?_
      refine w_iload_n (q := 24) hm103 ⟨⟨_, _, rfl⟩, rfl⟩ rfl ?_
      refine w_call (q := 27) (n := 1) (vs := [.inr (.inr (some 70)), .inl x1]) (rest := []) (la := [oR 70, oI x1, none]) hm103 ⟨⟨_, _, rfl⟩, rfl⟩ rfl rfl rfl rfl hm68 rfl rfl (fun _ => ⟨_, _, rfl, rfl⟩) rfl (Wp.mono h ?_)
      rintro _ m4 ⟨rfl, h⟩
      change Wp _ _ 27 _ [] _ _
      refine w_iload_n (q := 28) hm103 ⟨⟨_, _, rfl⟩, rfl⟩ rfl ?_
      refine w_iconst (q := 29) hm103 ⟨⟨_, _, rfl⟩, rfl⟩ iconst_2 ?_
      refine w_icmp_ge (q := 32) (X := x2.toInt) (Y := 2) hm103 ⟨⟨_, _, rfl⟩, rfl⟩ rfl (by decide) (fun hc => ?_) (fun hc => ?_)
      · have h := h.1 hc
        refine w_iconst (q := 53) hm103 ⟨⟨_, _, rfl⟩, rfl⟩ iconst_0 ?_
        refine w_istore_n (q := 54) (l' := [oR 70, oI x1, oI x2, oI (0 : Int32), none]) hm103 ⟨⟨_, _, rfl⟩, rfl⟩ rfl rfl rfl ?_
        refine w_iconst (q := 55) hm103 ⟨⟨_, _, rfl⟩, rfl⟩ iconst_0 ?_
        refine w_istore (q := 57) (l' := [oR 70, oI x1, oI x2, oI (0 : Int32), oI (0 : Int32)]) hm103 ⟨⟨_, _, rfl⟩, rfl⟩ rfl rfl rfl ?_
        exact Wp.wk [true, false, false, true, true] h
      · have h := h.2 hc
        refine w_aload_n (q := 33) hm103 ⟨⟨_, _, rfl⟩, rfl⟩ rfl ?_
        refine w_getr (q := 36) hm103 ⟨⟨_, _, rfl⟩, rfl⟩ rfl ?_
        refine w_bipush (q := 38) hm103 ⟨⟨_, _, rfl⟩, rfl⟩ bipush_56 ?_
        refine w_iload_n (q := 39) hm103 ⟨⟨_, _, rfl⟩, rfl⟩ rfl ?_
        refine w_iadd (q := 40) hm103 ⟨⟨_, _, rfl⟩, rfl⟩ ?_
        obtain ⟨hi, h⟩ := h
        refine w_iald (q := 41) (v := (m4.1 108 ((56 : Int32) + x2).toNatClampNeg)) hm103 ⟨⟨_, _, rfl⟩, rfl⟩ rfl hi rfl rfl ?_
        refine w_aload_n (q := 42) hm103 ⟨⟨_, _, rfl⟩, rfl⟩ rfl ?_
        refine w_getr (q := 45) hm103 ⟨⟨_, _, rfl⟩, rfl⟩ rfl ?_
        refine w_bipush (q := 47) hm103 ⟨⟨_, _, rfl⟩, rfl⟩ bipush_56 ?_
        refine w_iload_n (q := 48) hm103 ⟨⟨_, _, rfl⟩, rfl⟩ rfl ?_
        refine w_iadd (q := 49) hm103 ⟨⟨_, _, rfl⟩, rfl⟩ ?_
        obtain ⟨hi, h⟩ := h
        refine w_iald (q := 50) (v := (m4.1 107 ((56 : Int32) + x2).toNatClampNeg)) hm103 ⟨⟨_, _, rfl⟩, rfl⟩ rfl hi rfl rfl ?_
        refine w_isub (q := 51) hm103 ⟨⟨_, _, rfl⟩, rfl⟩ ?_
        exact w_reti hm103 ⟨⟨_, _, rfl⟩, rfl⟩ rfl h
    · have h := h.2 hc
      exact Wp.wk [false, false, false, false, false] h
theorem v_X12_then_70_16 {d : Nat} {m : dM} {Q : Int32 → dM → Prop} (h : Q (-1 : Int32) m) : j_X12_then_70_16 (d + 1) m Q := by
  refine w_iconst (q := 17) hm103 ⟨⟨_, _, rfl⟩, rfl⟩ iconst_m1 ?_
  exact w_reti hm103 ⟨⟨_, _, rfl⟩, rfl⟩ rfl h
theorem v_X12_then_70_57 {d : Nat} {x3 : Int32} {x4 : Int32} {m : dM} {Q : Int32 → dM → Prop} (h : ((0 ≤ (m.1 70 18).toInt ∧ (m.1 70 18).toInt < 2) ∧ (((m.1 82 (m.1 70 18).toNatClampNeg).toInt ≤ x4.toInt → Q x3 m) ∧ (x4.toInt < (m.1 82 (m.1 70 18).toNatClampNeg).toInt → ((0 ≤ ((10 : Int32) + x4).toInt ∧ ((10 : Int32) + x4).toInt < 58) ∧ j_X12_then_70_57 (d + 1) (x3 + (m.1 108 ((10 : Int32) + x4).toNatClampNeg)) (x4 + (1 : Int32)) m Q))))) : j_X12_then_70_57 (d + 1) x3 x4 m Q := by
  refine w_iload (q := 59) hm103 ⟨⟨_, _, rfl⟩, rfl⟩ rfl ?_
  refine w_aload_n (q := 60) hm103 ⟨⟨_, _, rfl⟩, rfl⟩ rfl ?_
  refine w_getr (q := 63) hm103 ⟨⟨_, _, rfl⟩, rfl⟩ rfl ?_
  refine w_aload_n (q := 64) hm103 ⟨⟨_, _, rfl⟩, rfl⟩ rfl ?_
  refine w_getf (q := 67) (v := (m.1 70 18)) hm103 ⟨⟨_, _, rfl⟩, rfl⟩ rfl rfl ?_
  obtain ⟨hi, h⟩ := h
  refine w_iald (q := 68) (v := (m.1 82 (m.1 70 18).toNatClampNeg)) hm103 ⟨⟨_, _, rfl⟩, rfl⟩ rfl hi rfl rfl ?_
  refine w_icmp_ge (q := 71) (X := x4.toInt) (Y := (m.1 82 (m.1 70 18).toNatClampNeg).toInt) hm103 ⟨⟨_, _, rfl⟩, rfl⟩ rfl rfl (fun hc => ?_) (fun hc => ?_)
  · have h := h.1 hc
    refine w_iload_n (q := 91) hm103 ⟨⟨_, _, rfl⟩, rfl⟩ rfl ?_
    exact w_reti hm103 ⟨⟨_, _, rfl⟩, rfl⟩ rfl h
  · have h := h.2 hc
    refine w_iload_n (q := 72) hm103 ⟨⟨_, _, rfl⟩, rfl⟩ rfl ?_
    refine w_aload_n (q := 73) hm103 ⟨⟨_, _, rfl⟩, rfl⟩ rfl ?_
    refine w_getr (q := 76) hm103 ⟨⟨_, _, rfl⟩, rfl⟩ rfl ?_
    refine w_bipush (q := 78) hm103 ⟨⟨_, _, rfl⟩, rfl⟩ bipush_10 ?_
    refine w_iload (q := 80) hm103 ⟨⟨_, _, rfl⟩, rfl⟩ rfl ?_
    refine w_iadd (q := 81) hm103 ⟨⟨_, _, rfl⟩, rfl⟩ ?_
    obtain ⟨hi, h⟩ := h
    refine w_iald (q := 82) (v := (m.1 108 ((10 : Int32) + x4).toNatClampNeg)) hm103 ⟨⟨_, _, rfl⟩, rfl⟩ rfl hi rfl rfl ?_
    refine w_iadd (q := 83) hm103 ⟨⟨_, _, rfl⟩, rfl⟩ ?_
    refine w_istore_n (q := 84) (l' := [oR 70, none, none, oI (x3 + (m.1 108 ((10 : Int32) + x4).toNatClampNeg)), oI x4]) hm103 ⟨⟨_, _, rfl⟩, rfl⟩ rfl rfl rfl ?_
    refine w_iinc (q := 87) (l' := [oR 70, none, none, oI (x3 + (m.1 108 ((10 : Int32) + x4).toNatClampNeg)), oI (x4 + (1 : Int32))]) hm103 ⟨⟨_, _, rfl⟩, rfl⟩ rfl rfl rfl iconst_1 rfl ?_
    refine w_goto (q := 57) hm103 ⟨_, _, rfl⟩ ?_
    exact h
theorem v_X11_litIn_0 {d : Nat} {x1 : Int32} {x2 : Int32} {m : dM} {Q : Int32 → dM → Prop} (h : c_X11_isFlat_0 d x1 m (fun r1 m1 => ((r1.toInt = 0 → j_X11_litIn_0_18 (d + 1) m1 Q) ∧ (r1.toInt ≠ 0 → ((x2.toInt < 0 → j_X11_litIn_0_18 (d + 1) m1 Q) ∧ (0 ≤ x2.toInt → ((x2.toInt ≤ 72 → c_X1_after_61_47 d x2 m1 (fun m2 => c_X3_litWithout_2 d (m2.1 62 3) m2 (fun r3 m3 => c_X11_has d r3 x1 m3 (fun r4 m4 => ((r4.toInt = 0 → Q (0 : Int32) m4) ∧ (r4.toInt ≠ 0 → Q (1 : Int32) m4)))))) ∧ (72 < x2.toInt → j_X11_litIn_0_18 (d + 1) m1 Q)))))))) : c_X11_litIn_0 (d + 1) x1 x2 m Q := by
  refine w_aload_n (q := 1) hm273 ⟨⟨_, _, rfl⟩, rfl⟩ rfl ?_
  refine w_iload_n (q := 2) hm273 ⟨⟨_, _, rfl⟩, rfl⟩ rfl ?_
  refine w_call (q := 5) (n := 0) (vs := [.inr (.inr (some 0)), .inl x1]) (rest := []) (la := [oR 0, oI x1]) hm273 ⟨⟨_, _, rfl⟩, rfl⟩ rfl rfl rfl rfl hm248 rfl rfl (fun _ => ⟨_, _, rfl, rfl⟩) rfl (Wp.mono h ?_)
  rintro _ m1 ⟨r1, rfl, h⟩
  change Wp _ _ 5 _ [.inl r1] _ _
  refine w_if_eq (q := 8) (X := r1.toInt) hm273 ⟨⟨_, _, rfl⟩, rfl⟩ rfl (fun hc => ?_) (fun hc => ?_)
  · have h := h.1 hc
    exact Wp.wk [false, false, false] h
  · have h := h.2 hc
    refine w_iload_n (q := 9) hm273 ⟨⟨_, _, rfl⟩, rfl⟩ rfl ?_
    refine w_if_lt (q := 12) (X := x2.toInt) hm273 ⟨⟨_, _, rfl⟩, rfl⟩ rfl (fun hc => ?_) (fun hc => ?_)
    · have h := h.1 hc
      exact Wp.wk [false, false, false] h
    · have h := h.2 hc
      refine w_iload_n (q := 13) hm273 ⟨⟨_, _, rfl⟩, rfl⟩ rfl ?_
      refine w_bipush (q := 15) hm273 ⟨⟨_, _, rfl⟩, rfl⟩ bipush_72 ?_
      refine w_icmp_le (q := 18) (X := x2.toInt) (Y := 72) hm273 ⟨⟨_, _, rfl⟩, rfl⟩ rfl (by decide) (fun hc => ?_) (fun hc => ?_)
      · have h := h.1 hc
        refine w_aload_n (q := 21) hm273 ⟨⟨_, _, rfl⟩, rfl⟩ rfl ?_
        refine w_getr (q := 24) hm273 ⟨⟨_, _, rfl⟩, rfl⟩ rfl ?_
        refine w_aload_n (q := 25) hm273 ⟨⟨_, _, rfl⟩, rfl⟩ rfl ?_
        refine w_getr (q := 28) hm273 ⟨⟨_, _, rfl⟩, rfl⟩ rfl ?_
        refine w_aload_n (q := 29) hm273 ⟨⟨_, _, rfl⟩, rfl⟩ rfl ?_
        refine w_getr (q := 32) hm273 ⟨⟨_, _, rfl⟩, rfl⟩ rfl ?_
        refine w_iload_n (q := 33) hm273 ⟨⟨_, _, rfl⟩, rfl⟩ rfl ?_
        refine w_call (q := 36) (n := 1) (vs := [.inr (.inr (some 61)), .inr (.inr (some 47)), .inl x2]) (rest := [.inr (.inr (some 2))]) (la := [oR 61, oR 47, oI x2, none]) hm273 ⟨⟨_, _, rfl⟩, rfl⟩ rfl rfl rfl rfl hm150 rfl rfl (fun _ => ⟨_, _, rfl, rfl⟩) rfl (Wp.mono h ?_)
        rintro _ m2 ⟨rfl, h⟩
        change Wp _ _ 36 _ [.inr (.inr (some 62)), .inr (.inr (some 2))] _ _
        refine w_getf (q := 39) (v := (m2.1 62 3)) hm273 ⟨⟨_, _, rfl⟩, rfl⟩ rfl rfl ?_
        refine w_call (q := 42) (n := 5) (vs := [.inr (.inr (some 2)), .inl (m2.1 62 3)]) (rest := []) (la := [oR 2, oI (m2.1 62 3), none, none, none, none, none]) hm273 ⟨⟨_, _, rfl⟩, rfl⟩ rfl rfl rfl rfl hm174 rfl rfl (fun _ => ⟨_, _, rfl, rfl⟩) rfl (Wp.mono h ?_)
        rintro _ m3 ⟨r3, rfl, h⟩
        change Wp _ _ 42 _ [.inl r3] _ _
        refine w_iload_n (q := 43) hm273 ⟨⟨_, _, rfl⟩, rfl⟩ rfl ?_
        refine w_call (q := 46) (n := 0) (vs := [.inl r3, .inl x1]) (rest := []) (la := [oI r3, oI x1]) hm273 ⟨⟨_, _, rfl⟩, rfl⟩ rfl rfl rfl rfl hm283 rfl rfl (fun hz => absurd hz (by decide)) rfl (Wp.mono h ?_)
        rintro _ m4 ⟨r4, rfl, h⟩
        change Wp _ _ 46 _ [.inl r4] _ _
        refine w_if_eq (q := 49) (X := r4.toInt) hm273 ⟨⟨_, _, rfl⟩, rfl⟩ rfl (fun hc => ?_) (fun hc => ?_)
        · have h := h.1 hc
          refine w_iconst (q := 54) hm273 ⟨⟨_, _, rfl⟩, rfl⟩ iconst_0 ?_
          exact w_reti hm273 ⟨⟨_, _, rfl⟩, rfl⟩ rfl h
        · have h := h.2 hc
          refine w_iconst (q := 50) hm273 ⟨⟨_, _, rfl⟩, rfl⟩ iconst_1 ?_
          refine w_goto (q := 54) hm273 ⟨_, _, rfl⟩ ?_
          exact w_reti hm273 ⟨⟨_, _, rfl⟩, rfl⟩ rfl h
      · have h := h.2 hc
        exact Wp.wk [false, false, false] h
theorem v_X11_litIn_0_18 {d : Nat} {m : dM} {Q : Int32 → dM → Prop} (h : Q (-1 : Int32) m) : j_X11_litIn_0_18 (d + 1) m Q := by
  refine w_iconst (q := 19) hm273 ⟨⟨_, _, rfl⟩, rfl⟩ iconst_m1 ?_
  exact w_reti hm273 ⟨⟨_, _, rfl⟩, rfl⟩ rfl h
theorem v_X12_litIn_70 {d : Nat} {x1 : Int32} {x2 : Int32} {m : dM} {Q : Int32 → dM → Prop} (h : c_X12_isFlat_70 d x1 m (fun r1 m1 => ((r1.toInt = 0 → j_X12_litIn_70_15 (d + 1) m1 Q) ∧ (r1.toInt ≠ 0 → c_X12_isLong d x2 m1 (fun r2 m2 => ((r2.toInt ≠ 0 → c_X12_copies_70 d m2 (fun m3 => c_X12_goes_70 d x2 m3 (fun m4 => c_X12_isLit_70 d x1 m4 (fun r5 m5 => ((r5.toInt = 0 → Q (0 : Int32) m5) ∧ (r5.toInt ≠ 0 → Q (1 : Int32) m5)))))) ∧ (r2.toInt = 0 → j_X12_litIn_70_15 (d + 1) m2 Q))))))) : c_X12_litIn_70 (d + 1) x1 x2 m Q := by
  refine w_aload_n (q := 1) hm104 ⟨⟨_, _, rfl⟩, rfl⟩ rfl ?_
  refine w_iload_n (q := 2) hm104 ⟨⟨_, _, rfl⟩, rfl⟩ rfl ?_
  refine w_call (q := 5) (n := 0) (vs := [.inr (.inr (some 70)), .inl x1]) (rest := []) (la := [oR 70, oI x1]) hm104 ⟨⟨_, _, rfl⟩, rfl⟩ rfl rfl rfl rfl hm39 rfl rfl (fun _ => ⟨_, _, rfl, rfl⟩) rfl (Wp.mono h ?_)
  rintro _ m1 ⟨r1, rfl, h⟩
  change Wp _ _ 5 _ [.inl r1] _ _
  refine w_if_eq (q := 8) (X := r1.toInt) hm104 ⟨⟨_, _, rfl⟩, rfl⟩ rfl (fun hc => ?_) (fun hc => ?_)
  · have h := h.1 hc
    exact Wp.wk [false, false, false] h
  · have h := h.2 hc
    refine w_iload_n (q := 9) hm104 ⟨⟨_, _, rfl⟩, rfl⟩ rfl ?_
    refine w_call (q := 12) (n := 0) (vs := [.inl x2]) (rest := []) (la := [oI x2]) hm104 ⟨⟨_, _, rfl⟩, rfl⟩ rfl rfl rfl rfl hm78 rfl rfl (fun hz => absurd hz (by decide)) rfl (Wp.mono h ?_)
    rintro _ m2 ⟨r2, rfl, h⟩
    change Wp _ _ 12 _ [.inl r2] _ _
    refine w_if_ne (q := 15) (X := r2.toInt) hm104 ⟨⟨_, _, rfl⟩, rfl⟩ rfl (fun hc => ?_) (fun hc => ?_)
    · have h := h.1 hc
      refine w_aload_n (q := 18) hm104 ⟨⟨_, _, rfl⟩, rfl⟩ rfl ?_
      refine w_call (q := 21) (n := 1) (vs := [.inr (.inr (some 70))]) (rest := []) (la := [oR 70, none]) hm104 ⟨⟨_, _, rfl⟩, rfl⟩ rfl rfl rfl rfl hm44 rfl rfl (fun _ => ⟨_, _, rfl, rfl⟩) rfl (Wp.mono h ?_)
      rintro _ m3 ⟨rfl, h⟩
      change Wp _ _ 21 _ [] _ _
      refine w_aload_n (q := 22) hm104 ⟨⟨_, _, rfl⟩, rfl⟩ rfl ?_
      refine w_iload_n (q := 23) hm104 ⟨⟨_, _, rfl⟩, rfl⟩ rfl ?_
      refine w_call (q := 26) (n := 1) (vs := [.inr (.inr (some 70)), .inl x2]) (rest := []) (la := [oR 70, oI x2, none]) hm104 ⟨⟨_, _, rfl⟩, rfl⟩ rfl rfl rfl rfl hm68 rfl rfl (fun _ => ⟨_, _, rfl, rfl⟩) rfl (Wp.mono h ?_)
      rintro _ m4 ⟨rfl, h⟩
      change Wp _ _ 26 _ [] _ _
      refine w_aload_n (q := 27) hm104 ⟨⟨_, _, rfl⟩, rfl⟩ rfl ?_
      refine w_iload_n (q := 28) hm104 ⟨⟨_, _, rfl⟩, rfl⟩ rfl ?_
      refine w_call (q := 31) (n := 0) (vs := [.inr (.inr (some 70)), .inl x1]) (rest := []) (la := [oR 70, oI x1]) hm104 ⟨⟨_, _, rfl⟩, rfl⟩ rfl rfl rfl rfl hm51 rfl rfl (fun _ => ⟨_, _, rfl, rfl⟩) rfl (Wp.mono h ?_)
      rintro _ m5 ⟨r5, rfl, h⟩
      change Wp _ _ 31 _ [.inl r5] _ _
      refine w_if_eq (q := 34) (X := r5.toInt) hm104 ⟨⟨_, _, rfl⟩, rfl⟩ rfl (fun hc => ?_) (fun hc => ?_)
      · have h := h.1 hc
        refine w_iconst (q := 39) hm104 ⟨⟨_, _, rfl⟩, rfl⟩ iconst_0 ?_
        exact w_reti hm104 ⟨⟨_, _, rfl⟩, rfl⟩ rfl h
      · have h := h.2 hc
        refine w_iconst (q := 35) hm104 ⟨⟨_, _, rfl⟩, rfl⟩ iconst_1 ?_
        refine w_goto (q := 39) hm104 ⟨_, _, rfl⟩ ?_
        exact w_reti hm104 ⟨⟨_, _, rfl⟩, rfl⟩ rfl h
    · have h := h.2 hc
      exact Wp.wk [false, false, false] h
theorem v_X12_litIn_70_15 {d : Nat} {m : dM} {Q : Int32 → dM → Prop} (h : Q (-1 : Int32) m) : j_X12_litIn_70_15 (d + 1) m Q := by
  refine w_iconst (q := 16) hm104 ⟨⟨_, _, rfl⟩, rfl⟩ iconst_m1 ?_
  exact w_reti hm104 ⟨⟨_, _, rfl⟩, rfl⟩ rfl h
theorem v_X1_isCalm_61_47 {d : Nat} {x2 : Int32} {x3 : Int32} {m : dM} {Q : Int32 → dM → Prop} (h : c_X7_copy_62_47 d m (fun m1 => j_X1_isCalm_61_47_11 (d + 1) x2 x3 (0 : Int32) m1 Q)) : c_X1_isCalm_61_47 (d + 1) x2 x3 m Q := by
  refine w_aload_n (q := 1) hm152 ⟨⟨_, _, rfl⟩, rfl⟩ rfl ?_
  refine w_getr (q := 4) hm152 ⟨⟨_, _, rfl⟩, rfl⟩ rfl ?_
  refine w_aload_n (q := 5) hm152 ⟨⟨_, _, rfl⟩, rfl⟩ rfl ?_
  refine w_call (q := 8) (n := 0) (vs := [.inr (.inr (some 62)), .inr (.inr (some 47))]) (rest := []) (la := [oR 62, oR 47]) hm152 ⟨⟨_, _, rfl⟩, rfl⟩ rfl rfl rfl rfl hm209 rfl rfl (fun _ => ⟨_, _, rfl, rfl⟩) rfl (Wp.mono h ?_)
  rintro _ m1 ⟨rfl, h⟩
  change Wp _ _ 8 _ [] _ _
  refine w_iconst (q := 9) hm152 ⟨⟨_, _, rfl⟩, rfl⟩ iconst_0 ?_
  refine w_istore (q := 11) (l' := [oR 61, oR 47, oI x2, oI x3, oI (0 : Int32)]) hm152 ⟨⟨_, _, rfl⟩, rfl⟩ rfl rfl rfl ?_
  exact Wp.wk [true, false, true, true, true] h
theorem v_X1_isCalm_61_47_11 {d : Nat} {x2 : Int32} {x3 : Int32} {x4 : Int32} {m : dM} {Q : Int32 → dM → Prop} (h : ((x2.toInt ≤ x4.toInt → Q (1 : Int32) m) ∧ (x4.toInt < x2.toInt → c_X0_surgeOf_54 d x3 (m.1 62 0) m (fun r1 m1 => c_X0_passWires_54_62 d r1 m1 (fun r2 m2 => ((r2.toInt = 0 → j_X1_isCalm_61_47_11 (d + 1) x2 x3 (x4 + (1 : Int32)) m2 Q) ∧ (r2.toInt ≠ 0 → Q (0 : Int32) m2))))))) : j_X1_isCalm_61_47_11 (d + 1) x2 x3 x4 m Q := by
  refine w_iload (q := 13) hm152 ⟨⟨_, _, rfl⟩, rfl⟩ rfl ?_
  refine w_iload_n (q := 14) hm152 ⟨⟨_, _, rfl⟩, rfl⟩ rfl ?_
  refine w_icmp_ge (q := 17) (X := x4.toInt) (Y := x2.toInt) hm152 ⟨⟨_, _, rfl⟩, rfl⟩ rfl rfl (fun hc => ?_) (fun hc => ?_)
  · have h := h.1 hc
    refine w_iconst (q := 55) hm152 ⟨⟨_, _, rfl⟩, rfl⟩ iconst_1 ?_
    exact w_retz hm152 ⟨⟨_, _, rfl⟩, rfl⟩ rfl (by decide) h
  · have h := h.2 hc
    refine w_aload_n (q := 18) hm152 ⟨⟨_, _, rfl⟩, rfl⟩ rfl ?_
    refine w_getr (q := 21) hm152 ⟨⟨_, _, rfl⟩, rfl⟩ rfl ?_
    refine w_aload_n (q := 22) hm152 ⟨⟨_, _, rfl⟩, rfl⟩ rfl ?_
    refine w_getr (q := 25) hm152 ⟨⟨_, _, rfl⟩, rfl⟩ rfl ?_
    refine w_aload_n (q := 26) hm152 ⟨⟨_, _, rfl⟩, rfl⟩ rfl ?_
    refine w_getr (q := 29) hm152 ⟨⟨_, _, rfl⟩, rfl⟩ rfl ?_
    refine w_iload_n (q := 30) hm152 ⟨⟨_, _, rfl⟩, rfl⟩ rfl ?_
    refine w_aload_n (q := 31) hm152 ⟨⟨_, _, rfl⟩, rfl⟩ rfl ?_
    refine w_getr (q := 34) hm152 ⟨⟨_, _, rfl⟩, rfl⟩ rfl ?_
    refine w_getf (q := 37) (v := (m.1 62 0)) hm152 ⟨⟨_, _, rfl⟩, rfl⟩ rfl rfl ?_
    refine w_call (q := 40) (n := 0) (vs := [.inr (.inr (some 54)), .inl x3, .inl (m.1 62 0)]) (rest := [.inr (.inr (some 62)), .inr (.inr (some 54))]) (la := [oR 54, oI x3, oI (m.1 62 0)]) hm152 ⟨⟨_, _, rfl⟩, rfl⟩ rfl rfl rfl rfl hm131 rfl rfl (fun _ => ⟨_, _, rfl, rfl⟩) rfl (Wp.mono h ?_)
    rintro _ m1 ⟨r1, rfl, h⟩
    change Wp _ _ 40 _ [.inl r1, .inr (.inr (some 62)), .inr (.inr (some 54))] _ _
    refine w_call (q := 43) (n := 2) (vs := [.inr (.inr (some 54)), .inr (.inr (some 62)), .inl r1]) (rest := []) (la := [oR 54, oR 62, oI r1, none, none]) hm152 ⟨⟨_, _, rfl⟩, rfl⟩ rfl rfl rfl rfl hm137 rfl rfl (fun _ => ⟨_, _, rfl, rfl⟩) rfl (Wp.mono h ?_)
    rintro _ m2 ⟨r2, rfl, h⟩
    change Wp _ _ 43 _ [.inl r2] _ _
    refine w_if_eq (q := 46) (X := r2.toInt) hm152 ⟨⟨_, _, rfl⟩, rfl⟩ rfl (fun hc => ?_) (fun hc => ?_)
    · have h := h.1 hc
      refine w_iinc (q := 51) (l' := [oR 61, none, oI x2, oI x3, oI (x4 + (1 : Int32))]) hm152 ⟨⟨_, _, rfl⟩, rfl⟩ rfl rfl rfl iconst_1 rfl ?_
      refine w_goto (q := 11) hm152 ⟨_, _, rfl⟩ ?_
      exact h
    · have h := h.2 hc
      refine w_iconst (q := 47) hm152 ⟨⟨_, _, rfl⟩, rfl⟩ iconst_0 ?_
      exact w_retz hm152 ⟨⟨_, _, rfl⟩, rfl⟩ rfl (by decide) h
theorem v_X1_calmSeeds_61_47 {d : Nat} {x2 : Int32} {x3 : Int32} {m : dM} {Q : Int32 → dM → Prop} (h : j_X1_calmSeeds_61_47_6 (d + 1) x2 x3 (0 : Int32) (0 : Int32) m Q) : c_X1_calmSeeds_61_47 (d + 1) x2 x3 m Q := by
  refine w_iconst (q := 1) hm151 ⟨⟨_, _, rfl⟩, rfl⟩ iconst_0 ?_
  refine w_istore (q := 3) (l' := [oR 61, oR 47, oI x2, oI x3, oI (0 : Int32), none]) hm151 ⟨⟨_, _, rfl⟩, rfl⟩ rfl rfl rfl ?_
  refine w_iconst (q := 4) hm151 ⟨⟨_, _, rfl⟩, rfl⟩ iconst_0 ?_
  refine w_istore (q := 6) (l' := [oR 61, oR 47, oI x2, oI x3, oI (0 : Int32), oI (0 : Int32)]) hm151 ⟨⟨_, _, rfl⟩, rfl⟩ rfl rfl rfl ?_
  exact h
theorem v_X1_calmSeeds_61_47_6 {d : Nat} {x2 : Int32} {x3 : Int32} {x4 : Int32} {x5 : Int32} {m : dM} {Q : Int32 → dM → Prop} (h : ((x3.toInt ≤ x5.toInt → Q x4 m) ∧ (x5.toInt < x3.toInt → c_X1_isCalm_61_47 d x2 ((m.1 2 6) + x5) m (fun r1 m1 => ((r1.toInt = 0 → j_X1_calmSeeds_61_47_6 (d + 1) x2 x3 (x4 + (0 : Int32)) (x5 + (1 : Int32)) m1 Q) ∧ (r1.toInt ≠ 0 → j_X1_calmSeeds_61_47_6 (d + 1) x2 x3 (x4 + (1 : Int32)) (x5 + (1 : Int32)) m1 Q)))))) : j_X1_calmSeeds_61_47_6 (d + 1) x2 x3 x4 x5 m Q := by
  refine w_iload (q := 8) hm151 ⟨⟨_, _, rfl⟩, rfl⟩ rfl ?_
  refine w_iload_n (q := 9) hm151 ⟨⟨_, _, rfl⟩, rfl⟩ rfl ?_
  refine w_icmp_ge (q := 12) (X := x5.toInt) (Y := x3.toInt) hm151 ⟨⟨_, _, rfl⟩, rfl⟩ rfl rfl (fun hc => ?_) (fun hc => ?_)
  · have h := h.1 hc
    refine w_iload (q := 49) hm151 ⟨⟨_, _, rfl⟩, rfl⟩ rfl ?_
    exact w_reti hm151 ⟨⟨_, _, rfl⟩, rfl⟩ rfl h
  · have h := h.2 hc
    refine w_iload (q := 14) hm151 ⟨⟨_, _, rfl⟩, rfl⟩ rfl ?_
    refine w_aload_n (q := 15) hm151 ⟨⟨_, _, rfl⟩, rfl⟩ rfl ?_
    refine w_aload_n (q := 16) hm151 ⟨⟨_, _, rfl⟩, rfl⟩ rfl ?_
    refine w_iload_n (q := 17) hm151 ⟨⟨_, _, rfl⟩, rfl⟩ rfl ?_
    refine w_aload_n (q := 18) hm151 ⟨⟨_, _, rfl⟩, rfl⟩ rfl ?_
    refine w_getr (q := 21) hm151 ⟨⟨_, _, rfl⟩, rfl⟩ rfl ?_
    refine w_getf (q := 24) (v := (m.1 2 6)) hm151 ⟨⟨_, _, rfl⟩, rfl⟩ rfl rfl ?_
    refine w_iload (q := 26) hm151 ⟨⟨_, _, rfl⟩, rfl⟩ rfl ?_
    refine w_iadd (q := 27) hm151 ⟨⟨_, _, rfl⟩, rfl⟩ ?_
    refine w_call (q := 30) (n := 1) (vs := [.inr (.inr (some 61)), .inr (.inr (some 47)), .inl x2, .inl ((m.1 2 6) + x5)]) (rest := [.inl x4]) (la := [oR 61, oR 47, oI x2, oI ((m.1 2 6) + x5), none]) hm151 ⟨⟨_, _, rfl⟩, rfl⟩ rfl rfl rfl rfl hm152 rfl rfl (fun _ => ⟨_, _, rfl, rfl⟩) rfl (Wp.mono h ?_)
    rintro _ m1 ⟨r1, rfl, h⟩
    change Wp _ _ 30 _ [.inl r1, .inl x4] _ _
    refine w_if_eq (q := 33) (X := r1.toInt) hm151 ⟨⟨_, _, rfl⟩, rfl⟩ rfl (fun hc => ?_) (fun hc => ?_)
    · have h := h.1 hc
      refine w_iconst (q := 38) hm151 ⟨⟨_, _, rfl⟩, rfl⟩ iconst_0 ?_
      refine w_iadd (q := 39) hm151 ⟨⟨_, _, rfl⟩, rfl⟩ ?_
      refine w_istore (q := 41) (l' := [oR 61, oR 47, oI x2, oI x3, oI (x4 + (0 : Int32)), oI x5]) hm151 ⟨⟨_, _, rfl⟩, rfl⟩ rfl rfl rfl ?_
      refine w_iinc (q := 44) (l' := [oR 61, oR 47, oI x2, oI x3, oI (x4 + (0 : Int32)), oI (x5 + (1 : Int32))]) hm151 ⟨⟨_, _, rfl⟩, rfl⟩ rfl rfl rfl iconst_1 rfl ?_
      refine w_goto (q := 6) hm151 ⟨_, _, rfl⟩ ?_
      exact h
    · have h := h.2 hc
      refine w_iconst (q := 34) hm151 ⟨⟨_, _, rfl⟩, rfl⟩ iconst_1 ?_
      refine w_goto (q := 38) hm151 ⟨_, _, rfl⟩ ?_
      refine w_iadd (q := 39) hm151 ⟨⟨_, _, rfl⟩, rfl⟩ ?_
      refine w_istore (q := 41) (l' := [oR 61, oR 47, oI x2, oI x3, oI (x4 + (1 : Int32)), oI x5]) hm151 ⟨⟨_, _, rfl⟩, rfl⟩ rfl rfl rfl ?_
      refine w_iinc (q := 44) (l' := [oR 61, oR 47, oI x2, oI x3, oI (x4 + (1 : Int32)), oI (x5 + (1 : Int32))]) hm151 ⟨⟨_, _, rfl⟩, rfl⟩ rfl rfl rfl iconst_1 rfl ?_
      refine w_goto (q := 6) hm151 ⟨_, _, rfl⟩ ?_
      exact h
theorem v_X11_year_0 {d : Nat} {x1 : Int32} {x2 : Int32} {m : dM} {Q : Int32 → dM → Prop} (h : ((x1.toInt < 0 → j_X11_year_0_21 (d + 1) m Q) ∧ (0 ≤ x1.toInt → ((72 < x1.toInt → j_X11_year_0_21 (d + 1) m Q) ∧ (x1.toInt ≤ 72 → ((x2.toInt < 1 → j_X11_year_0_21 (d + 1) m Q) ∧ (1 ≤ x2.toInt → ((x2.toInt ≤ 20 → c_X1_calmSeeds_61_47 d x1 x2 m (fun r1 m1 => Q r1 m1)) ∧ (20 < x2.toInt → j_X11_year_0_21 (d + 1) m Q))))))))) : c_X11_year_0 (d + 1) x1 x2 m Q := by
  refine w_iload_n (q := 1) hm274 ⟨⟨_, _, rfl⟩, rfl⟩ rfl ?_
  refine w_if_lt (q := 4) (X := x1.toInt) hm274 ⟨⟨_, _, rfl⟩, rfl⟩ rfl (fun hc => ?_) (fun hc => ?_)
  · have h := h.1 hc
    exact Wp.wk [false, false, false] h
  · have h := h.2 hc
    refine w_iload_n (q := 5) hm274 ⟨⟨_, _, rfl⟩, rfl⟩ rfl ?_
    refine w_bipush (q := 7) hm274 ⟨⟨_, _, rfl⟩, rfl⟩ bipush_72 ?_
    refine w_icmp_gt (q := 10) (X := x1.toInt) (Y := 72) hm274 ⟨⟨_, _, rfl⟩, rfl⟩ rfl (by decide) (fun hc => ?_) (fun hc => ?_)
    · have h := h.1 hc
      exact Wp.wk [false, false, false] h
    · have h := h.2 hc
      refine w_iload_n (q := 11) hm274 ⟨⟨_, _, rfl⟩, rfl⟩ rfl ?_
      refine w_iconst (q := 12) hm274 ⟨⟨_, _, rfl⟩, rfl⟩ iconst_1 ?_
      refine w_icmp_lt (q := 15) (X := x2.toInt) (Y := 1) hm274 ⟨⟨_, _, rfl⟩, rfl⟩ rfl (by decide) (fun hc => ?_) (fun hc => ?_)
      · have h := h.1 hc
        exact Wp.wk [false, false, false] h
      · have h := h.2 hc
        refine w_iload_n (q := 16) hm274 ⟨⟨_, _, rfl⟩, rfl⟩ rfl ?_
        refine w_bipush (q := 18) hm274 ⟨⟨_, _, rfl⟩, rfl⟩ bipush_20 ?_
        refine w_icmp_le (q := 21) (X := x2.toInt) (Y := 20) hm274 ⟨⟨_, _, rfl⟩, rfl⟩ rfl (by decide) (fun hc => ?_) (fun hc => ?_)
        · have h := h.1 hc
          refine w_aload_n (q := 26) hm274 ⟨⟨_, _, rfl⟩, rfl⟩ rfl ?_
          refine w_getr (q := 29) hm274 ⟨⟨_, _, rfl⟩, rfl⟩ rfl ?_
          refine w_aload_n (q := 30) hm274 ⟨⟨_, _, rfl⟩, rfl⟩ rfl ?_
          refine w_getr (q := 33) hm274 ⟨⟨_, _, rfl⟩, rfl⟩ rfl ?_
          refine w_iload_n (q := 34) hm274 ⟨⟨_, _, rfl⟩, rfl⟩ rfl ?_
          refine w_iload_n (q := 35) hm274 ⟨⟨_, _, rfl⟩, rfl⟩ rfl ?_
          refine w_call (q := 38) (n := 2) (vs := [.inr (.inr (some 61)), .inr (.inr (some 47)), .inl x1, .inl x2]) (rest := []) (la := [oR 61, oR 47, oI x1, oI x2, none, none]) hm274 ⟨⟨_, _, rfl⟩, rfl⟩ rfl rfl rfl rfl hm151 rfl rfl (fun _ => ⟨_, _, rfl, rfl⟩) rfl (Wp.mono h ?_)
          rintro _ m1 ⟨r1, rfl, h⟩
          change Wp _ _ 38 _ [.inl r1] _ _
          exact w_reti hm274 ⟨⟨_, _, rfl⟩, rfl⟩ rfl h
        · have h := h.2 hc
          exact Wp.wk [false, false, false] h
theorem v_X11_year_0_21 {d : Nat} {m : dM} {Q : Int32 → dM → Prop} (h : Q (-1 : Int32) m) : j_X11_year_0_21 (d + 1) m Q := by
  refine w_iconst (q := 22) hm274 ⟨⟨_, _, rfl⟩, rfl⟩ iconst_m1 ?_
  refine w_goto (q := 38) hm274 ⟨_, _, rfl⟩ ?_
  exact w_reti hm274 ⟨⟨_, _, rfl⟩, rfl⟩ rfl h
theorem v_X12_year_70 {d : Nat} {x1 : Int32} {x2 : Int32} {m : dM} {Q : Int32 → dM → Prop} (h : c_X12_isLong d x1 m (fun r1 m1 => ((r1.toInt = 0 → j_X12_year_70_17 (d + 1) m1 Q) ∧ (r1.toInt ≠ 0 → c_X12_in d x2 (1 : Int32) (20 : Int32) m1 (fun r2 m2 => ((r2.toInt ≠ 0 → j_X12_year_70_24 (d + 1) x1 x2 (0 : Int32) (0 : Int32) m2 Q) ∧ (r2.toInt = 0 → j_X12_year_70_17 (d + 1) m2 Q))))))) : c_X12_year_70 (d + 1) x1 x2 m Q := by
  refine w_iload_n (q := 1) hm105 ⟨⟨_, _, rfl⟩, rfl⟩ rfl ?_
  refine w_call (q := 4) (n := 0) (vs := [.inl x1]) (rest := []) (la := [oI x1]) hm105 ⟨⟨_, _, rfl⟩, rfl⟩ rfl rfl rfl rfl hm78 rfl rfl (fun hz => absurd hz (by decide)) rfl (Wp.mono h ?_)
  rintro _ m1 ⟨r1, rfl, h⟩
  change Wp _ _ 4 _ [.inl r1] _ _
  refine w_if_eq (q := 7) (X := r1.toInt) hm105 ⟨⟨_, _, rfl⟩, rfl⟩ rfl (fun hc => ?_) (fun hc => ?_)
  · have h := h.1 hc
    exact Wp.wk [false, false, false, false, false, false, false] h
  · have h := h.2 hc
    refine w_iload_n (q := 8) hm105 ⟨⟨_, _, rfl⟩, rfl⟩ rfl ?_
    refine w_iconst (q := 9) hm105 ⟨⟨_, _, rfl⟩, rfl⟩ iconst_1 ?_
    refine w_bipush (q := 11) hm105 ⟨⟨_, _, rfl⟩, rfl⟩ bipush_20 ?_
    refine w_call (q := 14) (n := 0) (vs := [.inl x2, .inl (1 : Int32), .inl (20 : Int32)]) (rest := []) (la := [oI x2, oI (1 : Int32), oI (20 : Int32)]) hm105 ⟨⟨_, _, rfl⟩, rfl⟩ rfl rfl rfl rfl hm36 rfl rfl (fun hz => absurd hz (by decide)) rfl (Wp.mono h ?_)
    rintro _ m2 ⟨r2, rfl, h⟩
    change Wp _ _ 14 _ [.inl r2] _ _
    refine w_if_ne (q := 17) (X := r2.toInt) hm105 ⟨⟨_, _, rfl⟩, rfl⟩ rfl (fun hc => ?_) (fun hc => ?_)
    · have h := h.1 hc
      refine w_iconst (q := 20) hm105 ⟨⟨_, _, rfl⟩, rfl⟩ iconst_0 ?_
      refine w_istore_n (q := 21) (l' := [oR 70, oI x1, oI x2, oI (0 : Int32), none, none, none]) hm105 ⟨⟨_, _, rfl⟩, rfl⟩ rfl rfl rfl ?_
      refine w_iconst (q := 22) hm105 ⟨⟨_, _, rfl⟩, rfl⟩ iconst_0 ?_
      refine w_istore (q := 24) (l' := [oR 70, oI x1, oI x2, oI (0 : Int32), oI (0 : Int32), none, none]) hm105 ⟨⟨_, _, rfl⟩, rfl⟩ rfl rfl rfl ?_
      exact h
    · have h := h.2 hc
      exact Wp.wk [false, false, false, false, false, false, false] h
theorem v_X12_year_70_17 {d : Nat} {m : dM} {Q : Int32 → dM → Prop} (h : Q (-1 : Int32) m) : j_X12_year_70_17 (d + 1) m Q := by
  refine w_iconst (q := 18) hm105 ⟨⟨_, _, rfl⟩, rfl⟩ iconst_m1 ?_
  exact w_reti hm105 ⟨⟨_, _, rfl⟩, rfl⟩ rfl h
theorem v_X12_year_70_24 {d : Nat} {x1 : Int32} {x2 : Int32} {x3 : Int32} {x4 : Int32} {m : dM} {Q : Int32 → dM → Prop} (h : ((x2.toInt ≤ x4.toInt → Q x3 m) ∧ (x4.toInt < x2.toInt → c_X12_copies_70 d m (fun m1 => j_X12_year_70_51 (d + 1) x1 x2 x3 x4 (1 : Int32) (0 : Int32) (dSet m1 70 56 ((m1.1 70 56) + x4)) Q)))) : j_X12_year_70_24 (d + 1) x1 x2 x3 x4 m Q := by
  refine w_iload (q := 26) hm105 ⟨⟨_, _, rfl⟩, rfl⟩ rfl ?_
  refine w_iload_n (q := 27) hm105 ⟨⟨_, _, rfl⟩, rfl⟩ rfl ?_
  refine w_icmp_ge (q := 30) (X := x4.toInt) (Y := x2.toInt) hm105 ⟨⟨_, _, rfl⟩, rfl⟩ rfl rfl (fun hc => ?_) (fun hc => ?_)
  · have h := h.1 hc
    refine w_iload_n (q := 92) hm105 ⟨⟨_, _, rfl⟩, rfl⟩ rfl ?_
    exact w_reti hm105 ⟨⟨_, _, rfl⟩, rfl⟩ rfl h
  · have h := h.2 hc
    refine w_aload_n (q := 31) hm105 ⟨⟨_, _, rfl⟩, rfl⟩ rfl ?_
    refine w_call (q := 34) (n := 1) (vs := [.inr (.inr (some 70))]) (rest := []) (la := [oR 70, none]) hm105 ⟨⟨_, _, rfl⟩, rfl⟩ rfl rfl rfl rfl hm44 rfl rfl (fun _ => ⟨_, _, rfl, rfl⟩) rfl (Wp.mono h ?_)
    rintro _ m1 ⟨rfl, h⟩
    change Wp _ _ 34 _ [] _ _
    refine w_aload_n (q := 35) hm105 ⟨⟨_, _, rfl⟩, rfl⟩ rfl ?_
    refine w_dup (q := 36) hm105 ⟨⟨_, _, rfl⟩, rfl⟩ rfl ?_
    refine w_getf (q := 39) (v := (m1.1 70 56)) hm105 ⟨⟨_, _, rfl⟩, rfl⟩ rfl rfl ?_
    refine w_iload (q := 41) hm105 ⟨⟨_, _, rfl⟩, rfl⟩ rfl ?_
    refine w_iadd (q := 42) hm105 ⟨⟨_, _, rfl⟩, rfl⟩ ?_
    refine w_putf (q := 45) hm105 ⟨⟨_, _, rfl⟩, rfl⟩ rfl rfl rfl ?_
    refine w_iconst (q := 46) hm105 ⟨⟨_, _, rfl⟩, rfl⟩ iconst_1 ?_
    refine w_istore (q := 48) (l' := [oR 70, oI x1, oI x2, oI x3, oI x4, oI (1 : Int32), none]) hm105 ⟨⟨_, _, rfl⟩, rfl⟩ rfl rfl rfl ?_
    refine w_iconst (q := 49) hm105 ⟨⟨_, _, rfl⟩, rfl⟩ iconst_0 ?_
    refine w_istore (q := 51) (l' := [oR 70, oI x1, oI x2, oI x3, oI x4, oI (1 : Int32), oI (0 : Int32)]) hm105 ⟨⟨_, _, rfl⟩, rfl⟩ rfl rfl rfl ?_
    exact h
theorem v_X12_year_70_51 {d : Nat} {x1 : Int32} {x2 : Int32} {x3 : Int32} {x4 : Int32} {x5 : Int32} {x6 : Int32} {m : dM} {Q : Int32 → dM → Prop} (h : ((x1.toInt ≤ x6.toInt → ((x5.toInt = 0 → j_X12_year_70_85 (d + 1) x1 x2 x3 x4 m Q) ∧ (x5.toInt ≠ 0 → j_X12_year_70_85 (d + 1) x1 x2 (x3 + (1 : Int32)) x4 m Q))) ∧ (x6.toInt < x1.toInt → c_X12_hourGoes_70 d m (fun m1 => (((m1.1 70 60).toInt = 0 → j_X12_year_70_71 (d + 1) x1 x2 x3 x4 x5 x6 m1 Q) ∧ ((m1.1 70 60).toInt ≠ 0 → j_X12_year_70_71 (d + 1) x1 x2 x3 x4 (0 : Int32) x6 m1 Q)))))) : j_X12_year_70_51 (d + 1) x1 x2 x3 x4 x5 x6 m Q := by
  refine w_iload (q := 53) hm105 ⟨⟨_, _, rfl⟩, rfl⟩ rfl ?_
  refine w_iload_n (q := 54) hm105 ⟨⟨_, _, rfl⟩, rfl⟩ rfl ?_
  refine w_icmp_ge (q := 57) (X := x6.toInt) (Y := x1.toInt) hm105 ⟨⟨_, _, rfl⟩, rfl⟩ rfl rfl (fun hc => ?_) (fun hc => ?_)
  · have h := h.1 hc
    refine w_iload (q := 79) hm105 ⟨⟨_, _, rfl⟩, rfl⟩ rfl ?_
    refine w_if_eq (q := 82) (X := x5.toInt) hm105 ⟨⟨_, _, rfl⟩, rfl⟩ rfl (fun hc => ?_) (fun hc => ?_)
    · have h := h.1 hc
      exact Wp.wk [true, true, true, true, true, false, false] h
    · have h := h.2 hc
      refine w_iinc (q := 85) (l' := [oR 70, oI x1, oI x2, oI (x3 + (1 : Int32)), oI x4, oI x5, oI x6]) hm105 ⟨⟨_, _, rfl⟩, rfl⟩ rfl rfl rfl iconst_1 rfl ?_
      exact Wp.wk [true, true, true, true, true, false, false] h
  · have h := h.2 hc
    refine w_aload_n (q := 58) hm105 ⟨⟨_, _, rfl⟩, rfl⟩ rfl ?_
    refine w_call (q := 61) (n := 4) (vs := [.inr (.inr (some 70))]) (rest := []) (la := [oR 70, none, none, none, none]) hm105 ⟨⟨_, _, rfl⟩, rfl⟩ rfl rfl rfl rfl hm67 rfl rfl (fun _ => ⟨_, _, rfl, rfl⟩) rfl (Wp.mono h ?_)
    rintro _ m1 ⟨rfl, h⟩
    change Wp _ _ 61 _ [] _ _
    refine w_aload_n (q := 62) hm105 ⟨⟨_, _, rfl⟩, rfl⟩ rfl ?_
    refine w_getf (q := 65) (v := (m1.1 70 60)) hm105 ⟨⟨_, _, rfl⟩, rfl⟩ rfl rfl ?_
    refine w_if_eq (q := 68) (X := (m1.1 70 60).toInt) hm105 ⟨⟨_, _, rfl⟩, rfl⟩ rfl (fun hc => ?_) (fun hc => ?_)
    · have h := h.1 hc
      exact h
    · have h := h.2 hc
      refine w_iconst (q := 69) hm105 ⟨⟨_, _, rfl⟩, rfl⟩ iconst_0 ?_
      refine w_istore (q := 71) (l' := [oR 70, oI x1, oI x2, oI x3, oI x4, oI (0 : Int32), oI x6]) hm105 ⟨⟨_, _, rfl⟩, rfl⟩ rfl rfl rfl ?_
      exact h
theorem v_X12_year_70_71 {d : Nat} {x1 : Int32} {x2 : Int32} {x3 : Int32} {x4 : Int32} {x5 : Int32} {x6 : Int32} {m : dM} {Q : Int32 → dM → Prop} (h : j_X12_year_70_51 (d + 1) x1 x2 x3 x4 x5 (x6 + (1 : Int32)) m Q) : j_X12_year_70_71 (d + 1) x1 x2 x3 x4 x5 x6 m Q := by
  refine w_iinc (q := 74) (l' := [oR 70, oI x1, oI x2, oI x3, oI x4, oI x5, oI (x6 + (1 : Int32))]) hm105 ⟨⟨_, _, rfl⟩, rfl⟩ rfl rfl rfl iconst_1 rfl ?_
  refine w_goto (q := 51) hm105 ⟨_, _, rfl⟩ ?_
  exact h
theorem v_X12_year_70_85 {d : Nat} {x1 : Int32} {x2 : Int32} {x3 : Int32} {x4 : Int32} {m : dM} {Q : Int32 → dM → Prop} (h : j_X12_year_70_24 (d + 1) x1 x2 x3 (x4 + (1 : Int32)) m Q) : j_X12_year_70_85 (d + 1) x1 x2 x3 x4 m Q := by
  refine w_iinc (q := 88) (l' := [oR 70, oI x1, oI x2, oI x3, oI (x4 + (1 : Int32)), none, none]) hm105 ⟨⟨_, _, rfl⟩, rfl⟩ rfl rfl rfl iconst_1 rfl ?_
  refine w_goto (q := 24) hm105 ⟨_, _, rfl⟩ ?_
  exact h
theorem v_X9_add_67 {d : Nat} {x1 : Int32} {x2 : Int32} {m : dM} {Q : Int32 → dM → Prop} (h : (((m.1 67 3).toInt < 20 → ((0 ≤ (m.1 67 3).toInt ∧ (m.1 67 3).toInt < 20) ∧ ((x2 = 0 ∨ x2 = 1) ∧ ((0 ≤ (m.1 67 3).toInt ∧ (m.1 67 3).toInt < 20) ∧ Q (((m.1 67 3) + (1 : Int32)) - (1 : Int32)) (dSet (dSet (dSet m 68 (m.1 67 3).toNatClampNeg x1) 69 (m.1 67 3).toNatClampNeg x2) 67 3 ((m.1 67 3) + (1 : Int32))))))) ∧ (20 ≤ (m.1 67 3).toInt → Q (-1 : Int32) m))) : c_X9_add_67 (d + 1) x1 x2 m Q := by
  refine w_aload_n (q := 1) hm232 ⟨⟨_, _, rfl⟩, rfl⟩ rfl ?_
  refine w_getf (q := 4) (v := (m.1 67 3)) hm232 ⟨⟨_, _, rfl⟩, rfl⟩ rfl rfl ?_
  refine w_bipush (q := 6) hm232 ⟨⟨_, _, rfl⟩, rfl⟩ bipush_20 ?_
  refine w_icmp_lt (q := 9) (X := (m.1 67 3).toInt) (Y := 20) hm232 ⟨⟨_, _, rfl⟩, rfl⟩ rfl (by decide) (fun hc => ?_) (fun hc => ?_)
  · have h := h.1 hc
    refine w_aload_n (q := 12) hm232 ⟨⟨_, _, rfl⟩, rfl⟩ rfl ?_
    refine w_getr (q := 15) hm232 ⟨⟨_, _, rfl⟩, rfl⟩ rfl ?_
    refine w_aload_n (q := 16) hm232 ⟨⟨_, _, rfl⟩, rfl⟩ rfl ?_
    refine w_getf (q := 19) (v := (m.1 67 3)) hm232 ⟨⟨_, _, rfl⟩, rfl⟩ rfl rfl ?_
    refine w_iload_n (q := 20) hm232 ⟨⟨_, _, rfl⟩, rfl⟩ rfl ?_
    obtain ⟨hi, h⟩ := h
    refine w_iast (q := 21) hm232 ⟨⟨_, _, rfl⟩, rfl⟩ rfl hi rfl rfl ?_
    refine w_aload_n (q := 22) hm232 ⟨⟨_, _, rfl⟩, rfl⟩ rfl ?_
    refine w_getr (q := 25) hm232 ⟨⟨_, _, rfl⟩, rfl⟩ rfl ?_
    refine w_aload_n (q := 26) hm232 ⟨⟨_, _, rfl⟩, rfl⟩ rfl ?_
    refine w_getf (q := 29) (v := (m.1 67 3)) hm232 ⟨⟨_, _, rfl⟩, rfl⟩ rfl rfl ?_
    refine w_iload_n (q := 30) hm232 ⟨⟨_, _, rfl⟩, rfl⟩ rfl ?_
    obtain ⟨hz, h⟩ := h
    obtain ⟨hi, h⟩ := h
    refine w_zast (q := 31) hm232 ⟨⟨_, _, rfl⟩, rfl⟩ rfl hz hi rfl rfl ?_
    refine w_aload_n (q := 32) hm232 ⟨⟨_, _, rfl⟩, rfl⟩ rfl ?_
    refine w_dup (q := 33) hm232 ⟨⟨_, _, rfl⟩, rfl⟩ rfl ?_
    refine w_getf (q := 36) (v := (m.1 67 3)) hm232 ⟨⟨_, _, rfl⟩, rfl⟩ rfl rfl ?_
    refine w_iconst (q := 37) hm232 ⟨⟨_, _, rfl⟩, rfl⟩ iconst_1 ?_
    refine w_iadd (q := 38) hm232 ⟨⟨_, _, rfl⟩, rfl⟩ ?_
    refine w_putf (q := 41) hm232 ⟨⟨_, _, rfl⟩, rfl⟩ rfl rfl rfl ?_
    refine w_aload_n (q := 42) hm232 ⟨⟨_, _, rfl⟩, rfl⟩ rfl ?_
    refine w_getf (q := 45) (v := ((m.1 67 3) + (1 : Int32))) hm232 ⟨⟨_, _, rfl⟩, rfl⟩ rfl rfl ?_
    refine w_iconst (q := 46) hm232 ⟨⟨_, _, rfl⟩, rfl⟩ iconst_1 ?_
    refine w_isub (q := 47) hm232 ⟨⟨_, _, rfl⟩, rfl⟩ ?_
    exact w_reti hm232 ⟨⟨_, _, rfl⟩, rfl⟩ rfl h
  · have h := h.2 hc
    refine w_iconst (q := 10) hm232 ⟨⟨_, _, rfl⟩, rfl⟩ iconst_m1 ?_
    exact w_reti hm232 ⟨⟨_, _, rfl⟩, rfl⟩ rfl h
theorem v_X11_tell_0 {d : Nat} {x1 : Int32} {x2 : Int32} {m : dM} {Q : Int32 → dM → Prop} (h : c_X11_isFlat_0 d x1 m (fun r1 m1 => ((r1.toInt = 0 → Q (-1 : Int32) m1) ∧ (r1.toInt ≠ 0 → c_X9_add_67 d x1 x2 m1 (fun r2 m2 => Q r2 m2))))) : c_X11_tell_0 (d + 1) x1 x2 m Q := by
  refine w_aload_n (q := 1) hm275 ⟨⟨_, _, rfl⟩, rfl⟩ rfl ?_
  refine w_iload_n (q := 2) hm275 ⟨⟨_, _, rfl⟩, rfl⟩ rfl ?_
  refine w_call (q := 5) (n := 0) (vs := [.inr (.inr (some 0)), .inl x1]) (rest := []) (la := [oR 0, oI x1]) hm275 ⟨⟨_, _, rfl⟩, rfl⟩ rfl rfl rfl rfl hm248 rfl rfl (fun _ => ⟨_, _, rfl, rfl⟩) rfl (Wp.mono h ?_)
  rintro _ m1 ⟨r1, rfl, h⟩
  change Wp _ _ 5 _ [.inl r1] _ _
  refine w_if_eq (q := 8) (X := r1.toInt) hm275 ⟨⟨_, _, rfl⟩, rfl⟩ rfl (fun hc => ?_) (fun hc => ?_)
  · have h := h.1 hc
    refine w_iconst (q := 21) hm275 ⟨⟨_, _, rfl⟩, rfl⟩ iconst_m1 ?_
    exact w_reti hm275 ⟨⟨_, _, rfl⟩, rfl⟩ rfl h
  · have h := h.2 hc
    refine w_aload_n (q := 9) hm275 ⟨⟨_, _, rfl⟩, rfl⟩ rfl ?_
    refine w_getr (q := 12) hm275 ⟨⟨_, _, rfl⟩, rfl⟩ rfl ?_
    refine w_iload_n (q := 13) hm275 ⟨⟨_, _, rfl⟩, rfl⟩ rfl ?_
    refine w_iload_n (q := 14) hm275 ⟨⟨_, _, rfl⟩, rfl⟩ rfl ?_
    refine w_call (q := 17) (n := 0) (vs := [.inr (.inr (some 67)), .inl x1, .inl x2]) (rest := []) (la := [oR 67, oI x1, oI x2]) hm275 ⟨⟨_, _, rfl⟩, rfl⟩ rfl rfl rfl rfl hm232 rfl rfl (fun _ => ⟨_, _, rfl, rfl⟩) rfl (Wp.mono h ?_)
    rintro _ m2 ⟨r2, rfl, h⟩
    change Wp _ _ 17 _ [.inl r2] _ _
    refine w_goto (q := 21) hm275 ⟨_, _, rfl⟩ ?_
    exact w_reti hm275 ⟨⟨_, _, rfl⟩, rfl⟩ rfl h
theorem v_X12_tell_70 {d : Nat} {x1 : Int32} {x2 : Int32} {m : dM} {Q : Int32 → dM → Prop} (h : (((m.1 70 63).toInt = 20 → j_X12_tell_70_17 (d + 1) m Q) ∧ ((m.1 70 63).toInt ≠ 20 → c_X12_isFlat_70 d x1 m (fun r1 m1 => ((r1.toInt ≠ 0 → ((0 ≤ (m1.1 70 63).toInt ∧ (m1.1 70 63).toInt < 20) ∧ ((x2.toInt = 0 → ((0 ≤ (m1.1 70 63).toInt ∧ (m1.1 70 63).toInt < 20) ∧ Q (((m1.1 70 63) + (1 : Int32)) - (1 : Int32)) (dSet (dSet (dSet m1 112 (m1.1 70 63).toNatClampNeg x1) 113 (m1.1 70 63).toNatClampNeg (0 : Int32)) 70 63 ((m1.1 70 63) + (1 : Int32))))) ∧ (x2.toInt ≠ 0 → ((0 ≤ (m1.1 70 63).toInt ∧ (m1.1 70 63).toInt < 20) ∧ Q (((m1.1 70 63) + (1 : Int32)) - (1 : Int32)) (dSet (dSet (dSet m1 112 (m1.1 70 63).toNatClampNeg x1) 113 (m1.1 70 63).toNatClampNeg (1 : Int32)) 70 63 ((m1.1 70 63) + (1 : Int32)))))))) ∧ (r1.toInt = 0 → j_X12_tell_70_17 (d + 1) m1 Q)))))) : c_X12_tell_70 (d + 1) x1 x2 m Q := by
  refine w_aload_n (q := 1) hm106 ⟨⟨_, _, rfl⟩, rfl⟩ rfl ?_
  refine w_getf (q := 4) (v := (m.1 70 63)) hm106 ⟨⟨_, _, rfl⟩, rfl⟩ rfl rfl ?_
  refine w_bipush (q := 6) hm106 ⟨⟨_, _, rfl⟩, rfl⟩ bipush_20 ?_
  refine w_icmp_eq (q := 9) (X := (m.1 70 63).toInt) (Y := 20) hm106 ⟨⟨_, _, rfl⟩, rfl⟩ rfl (by decide) (fun hc => ?_) (fun hc => ?_)
  · have h := h.1 hc
    exact Wp.wk [false, false, false] h
  · have h := h.2 hc
    refine w_aload_n (q := 10) hm106 ⟨⟨_, _, rfl⟩, rfl⟩ rfl ?_
    refine w_iload_n (q := 11) hm106 ⟨⟨_, _, rfl⟩, rfl⟩ rfl ?_
    refine w_call (q := 14) (n := 0) (vs := [.inr (.inr (some 70)), .inl x1]) (rest := []) (la := [oR 70, oI x1]) hm106 ⟨⟨_, _, rfl⟩, rfl⟩ rfl rfl rfl rfl hm39 rfl rfl (fun _ => ⟨_, _, rfl, rfl⟩) rfl (Wp.mono h ?_)
    rintro _ m1 ⟨r1, rfl, h⟩
    change Wp _ _ 14 _ [.inl r1] _ _
    refine w_if_ne (q := 17) (X := r1.toInt) hm106 ⟨⟨_, _, rfl⟩, rfl⟩ rfl (fun hc => ?_) (fun hc => ?_)
    · have h := h.1 hc
      refine w_aload_n (q := 20) hm106 ⟨⟨_, _, rfl⟩, rfl⟩ rfl ?_
      refine w_getr (q := 23) hm106 ⟨⟨_, _, rfl⟩, rfl⟩ rfl ?_
      refine w_aload_n (q := 24) hm106 ⟨⟨_, _, rfl⟩, rfl⟩ rfl ?_
      refine w_getf (q := 27) (v := (m1.1 70 63)) hm106 ⟨⟨_, _, rfl⟩, rfl⟩ rfl rfl ?_
      refine w_iload_n (q := 28) hm106 ⟨⟨_, _, rfl⟩, rfl⟩ rfl ?_
      obtain ⟨hi, h⟩ := h
      refine w_iast (q := 29) hm106 ⟨⟨_, _, rfl⟩, rfl⟩ rfl hi rfl rfl ?_
      refine w_aload_n (q := 30) hm106 ⟨⟨_, _, rfl⟩, rfl⟩ rfl ?_
      refine w_getr (q := 33) hm106 ⟨⟨_, _, rfl⟩, rfl⟩ rfl ?_
      refine w_aload_n (q := 34) hm106 ⟨⟨_, _, rfl⟩, rfl⟩ rfl ?_
      refine w_getf (q := 37) (v := (m1.1 70 63)) hm106 ⟨⟨_, _, rfl⟩, rfl⟩ rfl rfl ?_
      refine w_iload_n (q := 38) hm106 ⟨⟨_, _, rfl⟩, rfl⟩ rfl ?_
      refine w_if_eq (q := 41) (X := x2.toInt) hm106 ⟨⟨_, _, rfl⟩, rfl⟩ rfl (fun hc => ?_) (fun hc => ?_)
      · have h := h.1 hc
        refine w_iconst (q := 46) hm106 ⟨⟨_, _, rfl⟩, rfl⟩ iconst_0 ?_
        obtain ⟨hi, h⟩ := h
        refine w_iast (q := 47) hm106 ⟨⟨_, _, rfl⟩, rfl⟩ rfl hi rfl rfl ?_
        refine w_aload_n (q := 48) hm106 ⟨⟨_, _, rfl⟩, rfl⟩ rfl ?_
        refine w_dup (q := 49) hm106 ⟨⟨_, _, rfl⟩, rfl⟩ rfl ?_
        refine w_getf (q := 52) (v := (m1.1 70 63)) hm106 ⟨⟨_, _, rfl⟩, rfl⟩ rfl rfl ?_
        refine w_iconst (q := 53) hm106 ⟨⟨_, _, rfl⟩, rfl⟩ iconst_1 ?_
        refine w_iadd (q := 54) hm106 ⟨⟨_, _, rfl⟩, rfl⟩ ?_
        refine w_putf (q := 57) hm106 ⟨⟨_, _, rfl⟩, rfl⟩ rfl rfl rfl ?_
        refine w_aload_n (q := 58) hm106 ⟨⟨_, _, rfl⟩, rfl⟩ rfl ?_
        refine w_getf (q := 61) (v := ((m1.1 70 63) + (1 : Int32))) hm106 ⟨⟨_, _, rfl⟩, rfl⟩ rfl rfl ?_
        refine w_iconst (q := 62) hm106 ⟨⟨_, _, rfl⟩, rfl⟩ iconst_1 ?_
        refine w_isub (q := 63) hm106 ⟨⟨_, _, rfl⟩, rfl⟩ ?_
        exact w_reti hm106 ⟨⟨_, _, rfl⟩, rfl⟩ rfl h
      · have h := h.2 hc
        refine w_iconst (q := 42) hm106 ⟨⟨_, _, rfl⟩, rfl⟩ iconst_1 ?_
        refine w_goto (q := 46) hm106 ⟨_, _, rfl⟩ ?_
        obtain ⟨hi, h⟩ := h
        refine w_iast (q := 47) hm106 ⟨⟨_, _, rfl⟩, rfl⟩ rfl hi rfl rfl ?_
        refine w_aload_n (q := 48) hm106 ⟨⟨_, _, rfl⟩, rfl⟩ rfl ?_
        refine w_dup (q := 49) hm106 ⟨⟨_, _, rfl⟩, rfl⟩ rfl ?_
        refine w_getf (q := 52) (v := (m1.1 70 63)) hm106 ⟨⟨_, _, rfl⟩, rfl⟩ rfl rfl ?_
        refine w_iconst (q := 53) hm106 ⟨⟨_, _, rfl⟩, rfl⟩ iconst_1 ?_
        refine w_iadd (q := 54) hm106 ⟨⟨_, _, rfl⟩, rfl⟩ ?_
        refine w_putf (q := 57) hm106 ⟨⟨_, _, rfl⟩, rfl⟩ rfl rfl rfl ?_
        refine w_aload_n (q := 58) hm106 ⟨⟨_, _, rfl⟩, rfl⟩ rfl ?_
        refine w_getf (q := 61) (v := ((m1.1 70 63) + (1 : Int32))) hm106 ⟨⟨_, _, rfl⟩, rfl⟩ rfl rfl ?_
        refine w_iconst (q := 62) hm106 ⟨⟨_, _, rfl⟩, rfl⟩ iconst_1 ?_
        refine w_isub (q := 63) hm106 ⟨⟨_, _, rfl⟩, rfl⟩ ?_
        exact w_reti hm106 ⟨⟨_, _, rfl⟩, rfl⟩ rfl h
    · have h := h.2 hc
      exact Wp.wk [false, false, false] h
theorem v_X12_tell_70_17 {d : Nat} {m : dM} {Q : Int32 → dM → Prop} (h : Q (-1 : Int32) m) : j_X12_tell_70_17 (d + 1) m Q := by
  refine w_iconst (q := 18) hm106 ⟨⟨_, _, rfl⟩, rfl⟩ iconst_m1 ?_
  exact w_reti hm106 ⟨⟨_, _, rfl⟩, rfl⟩ rfl h
theorem v_X11_forget_0 {d : Nat} {m : dM} {Q : Int32 → dM → Prop} (h : c_X9_clear_67 d m (fun m1 => Q (m.1 67 3) m1)) : c_X11_forget_0 (d + 1) m Q := by
  refine w_aload_n (q := 1) hm276 ⟨⟨_, _, rfl⟩, rfl⟩ rfl ?_
  refine w_getr (q := 4) hm276 ⟨⟨_, _, rfl⟩, rfl⟩ rfl ?_
  refine w_getf (q := 7) (v := (m.1 67 3)) hm276 ⟨⟨_, _, rfl⟩, rfl⟩ rfl rfl ?_
  refine w_istore_n (q := 8) (l' := [oR 0, oI (m.1 67 3)]) hm276 ⟨⟨_, _, rfl⟩, rfl⟩ rfl rfl rfl ?_
  refine w_aload_n (q := 9) hm276 ⟨⟨_, _, rfl⟩, rfl⟩ rfl ?_
  refine w_getr (q := 12) hm276 ⟨⟨_, _, rfl⟩, rfl⟩ rfl ?_
  refine w_call (q := 15) (n := 0) (vs := [.inr (.inr (some 67))]) (rest := []) (la := [oR 67]) hm276 ⟨⟨_, _, rfl⟩, rfl⟩ rfl rfl rfl rfl hm231 rfl rfl (fun _ => ⟨_, _, rfl, rfl⟩) rfl (Wp.mono h ?_)
  rintro _ m1 ⟨rfl, h⟩
  change Wp _ _ 15 _ [] _ _
  refine w_iload_n (q := 16) hm276 ⟨⟨_, _, rfl⟩, rfl⟩ rfl ?_
  exact w_reti hm276 ⟨⟨_, _, rfl⟩, rfl⟩ rfl h
theorem v_X12_forget_70 {d : Nat} {m : dM} {Q : Int32 → dM → Prop} (h : Q (m.1 70 63) (dSet m 70 63 (0 : Int32))) : c_X12_forget_70 (d + 1) m Q := by
  refine w_aload_n (q := 1) hm107 ⟨⟨_, _, rfl⟩, rfl⟩ rfl ?_
  refine w_getf (q := 4) (v := (m.1 70 63)) hm107 ⟨⟨_, _, rfl⟩, rfl⟩ rfl rfl ?_
  refine w_istore_n (q := 5) (l' := [oR 70, oI (m.1 70 63)]) hm107 ⟨⟨_, _, rfl⟩, rfl⟩ rfl rfl rfl ?_
  refine w_aload_n (q := 6) hm107 ⟨⟨_, _, rfl⟩, rfl⟩ rfl ?_
  refine w_iconst (q := 7) hm107 ⟨⟨_, _, rfl⟩, rfl⟩ iconst_0 ?_
  refine w_putf (q := 10) hm107 ⟨⟨_, _, rfl⟩, rfl⟩ rfl rfl rfl ?_
  refine w_iload_n (q := 11) hm107 ⟨⟨_, _, rfl⟩, rfl⟩ rfl ?_
  exact w_reti hm107 ⟨⟨_, _, rfl⟩, rfl⟩ rfl h
theorem v_X9_isSo_67 {d : Nat} {x1 : Int32} {x2 : Int32} {m : dM} {Q : Int32 → dM → Prop} (h : j_X9_isSo_67_2 (d + 1) x1 x2 (0 : Int32) m Q) : c_X9_isSo_67 (d + 1) x1 x2 m Q := by
  refine w_iconst (q := 1) hm234 ⟨⟨_, _, rfl⟩, rfl⟩ iconst_0 ?_
  refine w_istore_n (q := 2) (l' := [oR 67, oI x1, oI x2, oI (0 : Int32)]) hm234 ⟨⟨_, _, rfl⟩, rfl⟩ rfl rfl rfl ?_
  exact h
theorem v_X9_isSo_67_2 {d : Nat} {x1 : Int32} {x2 : Int32} {x3 : Int32} {m : dM} {Q : Int32 → dM → Prop} (h : ((x2.toInt ≤ x3.toInt → j_X9_isSo_67_42 (d + 1) m Q) ∧ (x3.toInt < x2.toInt → (((m.1 67 3).toInt ≤ x3.toInt → j_X9_isSo_67_42 (d + 1) m Q) ∧ (x3.toInt < (m.1 67 3).toInt → ((0 ≤ x3.toInt ∧ x3.toInt < 20) ∧ c_X11_has d x1 (m.1 68 x3.toNatClampNeg) m (fun r1 m1 => ((0 ≤ x3.toInt ∧ x3.toInt < 20) ∧ ((r1.toInt = (m1.1 69 x3.toNatClampNeg).toInt → j_X9_isSo_67_2 (d + 1) x1 x2 (x3 + (1 : Int32)) m1 Q) ∧ (r1.toInt ≠ (m1.1 69 x3.toNatClampNeg).toInt → Q (0 : Int32) m1)))))))))) : j_X9_isSo_67_2 (d + 1) x1 x2 x3 m Q := by
  refine w_iload_n (q := 3) hm234 ⟨⟨_, _, rfl⟩, rfl⟩ rfl ?_
  refine w_iload_n (q := 4) hm234 ⟨⟨_, _, rfl⟩, rfl⟩ rfl ?_
  refine w_icmp_ge (q := 7) (X := x3.toInt) (Y := x2.toInt) hm234 ⟨⟨_, _, rfl⟩, rfl⟩ rfl rfl (fun hc => ?_) (fun hc => ?_)
  · have h := h.1 hc
    exact Wp.wk [false, false, false, false] h
  · have h := h.2 hc
    refine w_iload_n (q := 8) hm234 ⟨⟨_, _, rfl⟩, rfl⟩ rfl ?_
    refine w_aload_n (q := 9) hm234 ⟨⟨_, _, rfl⟩, rfl⟩ rfl ?_
    refine w_getf (q := 12) (v := (m.1 67 3)) hm234 ⟨⟨_, _, rfl⟩, rfl⟩ rfl rfl ?_
    refine w_icmp_ge (q := 15) (X := x3.toInt) (Y := (m.1 67 3).toInt) hm234 ⟨⟨_, _, rfl⟩, rfl⟩ rfl rfl (fun hc => ?_) (fun hc => ?_)
    · have h := h.1 hc
      exact Wp.wk [false, false, false, false] h
    · have h := h.2 hc
      refine w_iload_n (q := 16) hm234 ⟨⟨_, _, rfl⟩, rfl⟩ rfl ?_
      refine w_aload_n (q := 17) hm234 ⟨⟨_, _, rfl⟩, rfl⟩ rfl ?_
      refine w_getr (q := 20) hm234 ⟨⟨_, _, rfl⟩, rfl⟩ rfl ?_
      refine w_iload_n (q := 21) hm234 ⟨⟨_, _, rfl⟩, rfl⟩ rfl ?_
      obtain ⟨hi, h⟩ := h
      refine w_iald (q := 22) (v := (m.1 68 x3.toNatClampNeg)) hm234 ⟨⟨_, _, rfl⟩, rfl⟩ rfl hi rfl rfl ?_
      refine w_call (q := 25) (n := 0) (vs := [.inl x1, .inl (m.1 68 x3.toNatClampNeg)]) (rest := []) (la := [oI x1, oI (m.1 68 x3.toNatClampNeg)]) hm234 ⟨⟨_, _, rfl⟩, rfl⟩ rfl rfl rfl rfl hm283 rfl rfl (fun hz => absurd hz (by decide)) rfl (Wp.mono h ?_)
      rintro _ m1 ⟨r1, rfl, h⟩
      change Wp _ _ 25 _ [.inl r1] _ _
      refine w_aload_n (q := 26) hm234 ⟨⟨_, _, rfl⟩, rfl⟩ rfl ?_
      refine w_getr (q := 29) hm234 ⟨⟨_, _, rfl⟩, rfl⟩ rfl ?_
      refine w_iload_n (q := 30) hm234 ⟨⟨_, _, rfl⟩, rfl⟩ rfl ?_
      obtain ⟨hi, h⟩ := h
      refine w_zald (q := 31) (v := (m1.1 69 x3.toNatClampNeg)) hm234 ⟨⟨_, _, rfl⟩, rfl⟩ rfl hi rfl rfl ?_
      refine w_icmp_eq (q := 34) (X := r1.toInt) (Y := (m1.1 69 x3.toNatClampNeg).toInt) hm234 ⟨⟨_, _, rfl⟩, rfl⟩ rfl rfl (fun hc => ?_) (fun hc => ?_)
      · have h := h.1 hc
        refine w_iinc (q := 39) (l' := [oR 67, oI x1, oI x2, oI (x3 + (1 : Int32))]) hm234 ⟨⟨_, _, rfl⟩, rfl⟩ rfl rfl rfl iconst_1 rfl ?_
        refine w_goto (q := 2) hm234 ⟨_, _, rfl⟩ ?_
        exact h
      · have h := h.2 hc
        refine w_iconst (q := 35) hm234 ⟨⟨_, _, rfl⟩, rfl⟩ iconst_0 ?_
        exact w_retz hm234 ⟨⟨_, _, rfl⟩, rfl⟩ rfl (by decide) h
theorem v_X9_isSo_67_42 {d : Nat} {m : dM} {Q : Int32 → dM → Prop} (h : Q (1 : Int32) m) : j_X9_isSo_67_42 (d + 1) m Q := by
  refine w_iconst (q := 43) hm234 ⟨⟨_, _, rfl⟩, rfl⟩ iconst_1 ?_
  exact w_retz hm234 ⟨⟨_, _, rfl⟩, rfl⟩ rfl (by decide) h
theorem v_X9_suspects_67 {d : Nat} {x1 : Int32} {x2 : Int32} {m : dM} {Q : Int32 → dM → Prop} (h : j_X9_suspects_67_5 (d + 1) x1 x2 (0 : Int32) (0 : Int32) m Q) : c_X9_suspects_67 (d + 1) x1 x2 m Q := by
  refine w_iconst (q := 1) hm233 ⟨⟨_, _, rfl⟩, rfl⟩ iconst_0 ?_
  refine w_istore_n (q := 2) (l' := [oR 67, oI x1, oI x2, oI (0 : Int32), none]) hm233 ⟨⟨_, _, rfl⟩, rfl⟩ rfl rfl rfl ?_
  refine w_iconst (q := 3) hm233 ⟨⟨_, _, rfl⟩, rfl⟩ iconst_0 ?_
  refine w_istore (q := 5) (l' := [oR 67, oI x1, oI x2, oI (0 : Int32), oI (0 : Int32)]) hm233 ⟨⟨_, _, rfl⟩, rfl⟩ rfl rfl rfl ?_
  exact h
theorem v_X9_suspects_67_5 {d : Nat} {x1 : Int32} {x2 : Int32} {x3 : Int32} {x4 : Int32} {m : dM} {Q : Int32 → dM → Prop} (h : (((m.1 2 1).toInt ≤ x4.toInt → Q x3 m) ∧ (x4.toInt < (m.1 2 1).toInt → c_X11_has d x1 x4 m (fun r1 m1 => ((r1.toInt ≠ 0 → j_X9_suspects_67_54 (d + 1) x1 x2 x3 x4 m1 Q) ∧ (r1.toInt = 0 → c_X3_litWithout_2 d (x1 ||| ((1 : Int32) <<< (x4 &&& 31))) m1 (fun r2 m2 => c_X9_isSo_67 d r2 x2 m2 (fun r3 m3 => ((r3.toInt = 0 → j_X9_suspects_67_54 (d + 1) x1 x2 x3 x4 m3 Q) ∧ (r3.toInt ≠ 0 → j_X9_suspects_67_54 (d + 1) x1 x2 (x3 ||| ((1 : Int32) <<< (x4 &&& 31))) x4 m3 Q)))))))))) : j_X9_suspects_67_5 (d + 1) x1 x2 x3 x4 m Q := by
  refine w_iload (q := 7) hm233 ⟨⟨_, _, rfl⟩, rfl⟩ rfl ?_
  refine w_aload_n (q := 8) hm233 ⟨⟨_, _, rfl⟩, rfl⟩ rfl ?_
  refine w_getr (q := 11) hm233 ⟨⟨_, _, rfl⟩, rfl⟩ rfl ?_
  refine w_getf (q := 14) (v := (m.1 2 1)) hm233 ⟨⟨_, _, rfl⟩, rfl⟩ rfl rfl ?_
  refine w_icmp_ge (q := 17) (X := x4.toInt) (Y := (m.1 2 1).toInt) hm233 ⟨⟨_, _, rfl⟩, rfl⟩ rfl rfl (fun hc => ?_) (fun hc => ?_)
  · have h := h.1 hc
    refine w_iload_n (q := 61) hm233 ⟨⟨_, _, rfl⟩, rfl⟩ rfl ?_
    exact w_reti hm233 ⟨⟨_, _, rfl⟩, rfl⟩ rfl h
  · have h := h.2 hc
    refine w_iload_n (q := 18) hm233 ⟨⟨_, _, rfl⟩, rfl⟩ rfl ?_
    refine w_iload (q := 20) hm233 ⟨⟨_, _, rfl⟩, rfl⟩ rfl ?_
    refine w_call (q := 23) (n := 0) (vs := [.inl x1, .inl x4]) (rest := []) (la := [oI x1, oI x4]) hm233 ⟨⟨_, _, rfl⟩, rfl⟩ rfl rfl rfl rfl hm283 rfl rfl (fun hz => absurd hz (by decide)) rfl (Wp.mono h ?_)
    rintro _ m1 ⟨r1, rfl, h⟩
    change Wp _ _ 23 _ [.inl r1] _ _
    refine w_if_ne (q := 26) (X := r1.toInt) hm233 ⟨⟨_, _, rfl⟩, rfl⟩ rfl (fun hc => ?_) (fun hc => ?_)
    · have h := h.1 hc
      exact h
    · have h := h.2 hc
      refine w_aload_n (q := 27) hm233 ⟨⟨_, _, rfl⟩, rfl⟩ rfl ?_
      refine w_aload_n (q := 28) hm233 ⟨⟨_, _, rfl⟩, rfl⟩ rfl ?_
      refine w_getr (q := 31) hm233 ⟨⟨_, _, rfl⟩, rfl⟩ rfl ?_
      refine w_iload_n (q := 32) hm233 ⟨⟨_, _, rfl⟩, rfl⟩ rfl ?_
      refine w_iconst (q := 33) hm233 ⟨⟨_, _, rfl⟩, rfl⟩ iconst_1 ?_
      refine w_iload (q := 35) hm233 ⟨⟨_, _, rfl⟩, rfl⟩ rfl ?_
      refine w_ishl (q := 36) hm233 ⟨⟨_, _, rfl⟩, rfl⟩ ?_
      refine w_ior (q := 37) hm233 ⟨⟨_, _, rfl⟩, rfl⟩ ?_
      refine w_call (q := 40) (n := 5) (vs := [.inr (.inr (some 2)), .inl (x1 ||| ((1 : Int32) <<< (x4 &&& 31)))]) (rest := [.inr (.inr (some 67))]) (la := [oR 2, oI (x1 ||| ((1 : Int32) <<< (x4 &&& 31))), none, none, none, none, none]) hm233 ⟨⟨_, _, rfl⟩, rfl⟩ rfl rfl rfl rfl hm174 rfl rfl (fun _ => ⟨_, _, rfl, rfl⟩) rfl (Wp.mono h ?_)
      rintro _ m2 ⟨r2, rfl, h⟩
      change Wp _ _ 40 _ [.inl r2, .inr (.inr (some 67))] _ _
      refine w_iload_n (q := 41) hm233 ⟨⟨_, _, rfl⟩, rfl⟩ rfl ?_
      refine w_call (q := 44) (n := 1) (vs := [.inr (.inr (some 67)), .inl r2, .inl x2]) (rest := []) (la := [oR 67, oI r2, oI x2, none]) hm233 ⟨⟨_, _, rfl⟩, rfl⟩ rfl rfl rfl rfl hm234 rfl rfl (fun _ => ⟨_, _, rfl, rfl⟩) rfl (Wp.mono h ?_)
      rintro _ m3 ⟨r3, rfl, h⟩
      change Wp _ _ 44 _ [.inl r3] _ _
      refine w_if_eq (q := 47) (X := r3.toInt) hm233 ⟨⟨_, _, rfl⟩, rfl⟩ rfl (fun hc => ?_) (fun hc => ?_)
      · have h := h.1 hc
        exact h
      · have h := h.2 hc
        refine w_iload_n (q := 48) hm233 ⟨⟨_, _, rfl⟩, rfl⟩ rfl ?_
        refine w_iconst (q := 49) hm233 ⟨⟨_, _, rfl⟩, rfl⟩ iconst_1 ?_
        refine w_iload (q := 51) hm233 ⟨⟨_, _, rfl⟩, rfl⟩ rfl ?_
        refine w_ishl (q := 52) hm233 ⟨⟨_, _, rfl⟩, rfl⟩ ?_
        refine w_ior (q := 53) hm233 ⟨⟨_, _, rfl⟩, rfl⟩ ?_
        refine w_istore_n (q := 54) (l' := [oR 67, oI x1, oI x2, oI (x3 ||| ((1 : Int32) <<< (x4 &&& 31))), oI x4]) hm233 ⟨⟨_, _, rfl⟩, rfl⟩ rfl rfl rfl ?_
        exact h
theorem v_X9_suspects_67_54 {d : Nat} {x1 : Int32} {x2 : Int32} {x3 : Int32} {x4 : Int32} {m : dM} {Q : Int32 → dM → Prop} (h : j_X9_suspects_67_5 (d + 1) x1 x2 x3 (x4 + (1 : Int32)) m Q) : j_X9_suspects_67_54 (d + 1) x1 x2 x3 x4 m Q := by
  refine w_iinc (q := 57) (l' := [oR 67, oI x1, oI x2, oI x3, oI (x4 + (1 : Int32))]) hm233 ⟨⟨_, _, rfl⟩, rfl⟩ rfl rfl rfl iconst_1 rfl ?_
  refine w_goto (q := 5) hm233 ⟨_, _, rfl⟩ ?_
  exact h
theorem v_X11_went_0 {d : Nat} {x1 : Int32} {x2 : Int32} {m : dM} {Q : Int32 → dM → Prop} (h : ((x1.toInt < 0 → j_X11_went_0_24 (d + 1) m Q) ∧ (0 ≤ x1.toInt → (((m.1 67 3).toInt < x1.toInt → j_X11_went_0_24 (d + 1) m Q) ∧ (x1.toInt ≤ (m.1 67 3).toInt → ((x2.toInt < 0 → j_X11_went_0_24 (d + 1) m Q) ∧ (0 ≤ x2.toInt → ((x2.toInt ≤ 1 → c_X9_suspects_67 d (m.1 47 3) x1 m (fun r1 m1 => ((x2.toInt ≠ 0 → Q r1 m1) ∧ (x2.toInt = 0 → c_J6_bitCount d r1 m1 (fun r2 m2 => Q r2 m2))))) ∧ (1 < x2.toInt → j_X11_went_0_24 (d + 1) m Q))))))))) : c_X11_went_0 (d + 1) x1 x2 m Q := by
  refine w_iload_n (q := 1) hm277 ⟨⟨_, _, rfl⟩, rfl⟩ rfl ?_
  refine w_if_lt (q := 4) (X := x1.toInt) hm277 ⟨⟨_, _, rfl⟩, rfl⟩ rfl (fun hc => ?_) (fun hc => ?_)
  · have h := h.1 hc
    exact Wp.wk [false, false, false, false] h
  · have h := h.2 hc
    refine w_iload_n (q := 5) hm277 ⟨⟨_, _, rfl⟩, rfl⟩ rfl ?_
    refine w_aload_n (q := 6) hm277 ⟨⟨_, _, rfl⟩, rfl⟩ rfl ?_
    refine w_getr (q := 9) hm277 ⟨⟨_, _, rfl⟩, rfl⟩ rfl ?_
    refine w_getf (q := 12) (v := (m.1 67 3)) hm277 ⟨⟨_, _, rfl⟩, rfl⟩ rfl rfl ?_
    refine w_icmp_gt (q := 15) (X := x1.toInt) (Y := (m.1 67 3).toInt) hm277 ⟨⟨_, _, rfl⟩, rfl⟩ rfl rfl (fun hc => ?_) (fun hc => ?_)
    · have h := h.1 hc
      exact Wp.wk [false, false, false, false] h
    · have h := h.2 hc
      refine w_iload_n (q := 16) hm277 ⟨⟨_, _, rfl⟩, rfl⟩ rfl ?_
      refine w_if_lt (q := 19) (X := x2.toInt) hm277 ⟨⟨_, _, rfl⟩, rfl⟩ rfl (fun hc => ?_) (fun hc => ?_)
      · have h := h.1 hc
        exact Wp.wk [false, false, false, false] h
      · have h := h.2 hc
        refine w_iload_n (q := 20) hm277 ⟨⟨_, _, rfl⟩, rfl⟩ rfl ?_
        refine w_iconst (q := 21) hm277 ⟨⟨_, _, rfl⟩, rfl⟩ iconst_1 ?_
        refine w_icmp_le (q := 24) (X := x2.toInt) (Y := 1) hm277 ⟨⟨_, _, rfl⟩, rfl⟩ rfl (by decide) (fun hc => ?_) (fun hc => ?_)
        · have h := h.1 hc
          refine w_aload_n (q := 27) hm277 ⟨⟨_, _, rfl⟩, rfl⟩ rfl ?_
          refine w_getr (q := 30) hm277 ⟨⟨_, _, rfl⟩, rfl⟩ rfl ?_
          refine w_aload_n (q := 31) hm277 ⟨⟨_, _, rfl⟩, rfl⟩ rfl ?_
          refine w_getr (q := 34) hm277 ⟨⟨_, _, rfl⟩, rfl⟩ rfl ?_
          refine w_getf (q := 37) (v := (m.1 47 3)) hm277 ⟨⟨_, _, rfl⟩, rfl⟩ rfl rfl ?_
          refine w_iload_n (q := 38) hm277 ⟨⟨_, _, rfl⟩, rfl⟩ rfl ?_
          refine w_call (q := 41) (n := 2) (vs := [.inr (.inr (some 67)), .inl (m.1 47 3), .inl x1]) (rest := []) (la := [oR 67, oI (m.1 47 3), oI x1, none, none]) hm277 ⟨⟨_, _, rfl⟩, rfl⟩ rfl rfl rfl rfl hm233 rfl rfl (fun _ => ⟨_, _, rfl, rfl⟩) rfl (Wp.mono h ?_)
          rintro _ m1 ⟨r1, rfl, h⟩
          change Wp _ _ 41 _ [.inl r1] _ _
          refine w_istore_n (q := 42) (l' := [oR 0, oI x1, oI x2, oI r1]) hm277 ⟨⟨_, _, rfl⟩, rfl⟩ rfl rfl rfl ?_
          refine w_iload_n (q := 43) hm277 ⟨⟨_, _, rfl⟩, rfl⟩ rfl ?_
          refine w_if_ne (q := 46) (X := x2.toInt) hm277 ⟨⟨_, _, rfl⟩, rfl⟩ rfl (fun hc => ?_) (fun hc => ?_)
          · have h := h.1 hc
            refine w_iload_n (q := 54) hm277 ⟨⟨_, _, rfl⟩, rfl⟩ rfl ?_
            exact w_reti hm277 ⟨⟨_, _, rfl⟩, rfl⟩ rfl h
          · have h := h.2 hc
            refine w_iload_n (q := 47) hm277 ⟨⟨_, _, rfl⟩, rfl⟩ rfl ?_
            refine w_call (q := 50) (n := 0) (vs := [.inl r1]) (rest := []) (la := [oI r1]) hm277 ⟨⟨_, _, rfl⟩, rfl⟩ rfl rfl rfl rfl hm285 rfl rfl (fun hz => absurd hz (by decide)) rfl (Wp.mono h ?_)
            rintro _ m2 ⟨r2, rfl, h⟩
            change Wp _ _ 50 _ [.inl r2] _ _
            refine w_goto (q := 54) hm277 ⟨_, _, rfl⟩ ?_
            exact w_reti hm277 ⟨⟨_, _, rfl⟩, rfl⟩ rfl h
        · have h := h.2 hc
          exact Wp.wk [false, false, false, false] h
theorem v_X11_went_0_24 {d : Nat} {m : dM} {Q : Int32 → dM → Prop} (h : Q (-1 : Int32) m) : j_X11_went_0_24 (d + 1) m Q := by
  refine w_iconst (q := 25) hm277 ⟨⟨_, _, rfl⟩, rfl⟩ iconst_m1 ?_
  exact w_reti hm277 ⟨⟨_, _, rfl⟩, rfl⟩ rfl h
theorem v_X12_wentBits_70 {d : Nat} {x1 : Int32} {m : dM} {Q : Int32 → dM → Prop} (h : j_X12_wentBits_70_4 (d + 1) x1 (0 : Int32) (0 : Int32) m Q) : c_X12_wentBits_70 (d + 1) x1 m Q := by
  refine w_iconst (q := 1) hm108 ⟨⟨_, _, rfl⟩, rfl⟩ iconst_0 ?_
  refine w_istore_n (q := 2) (l' := [oR 70, oI x1, oI (0 : Int32), none, none, none]) hm108 ⟨⟨_, _, rfl⟩, rfl⟩ rfl rfl rfl ?_
  refine w_iconst (q := 3) hm108 ⟨⟨_, _, rfl⟩, rfl⟩ iconst_0 ?_
  refine w_istore_n (q := 4) (l' := [oR 70, oI x1, oI (0 : Int32), oI (0 : Int32), none, none]) hm108 ⟨⟨_, _, rfl⟩, rfl⟩ rfl rfl rfl ?_
  exact h
theorem v_X12_wentBits_70_4 {d : Nat} {x1 : Int32} {x2 : Int32} {x3 : Int32} {m : dM} {Q : Int32 → dM → Prop} (h : ((0 ≤ (m.1 70 18).toInt ∧ (m.1 70 18).toInt < 2) ∧ (((m.1 82 (m.1 70 18).toNatClampNeg).toInt ≤ x3.toInt → Q x2 m) ∧ (x3.toInt < (m.1 82 (m.1 70 18).toNatClampNeg).toInt → ((0 ≤ ((10 : Int32) + x3).toInt ∧ ((10 : Int32) + x3).toInt < 58) ∧ (((m.1 107 ((10 : Int32) + x3).toNatClampNeg).toInt ≠ 1 → c_X12_loses_70 d ((1 : Int32) <<< (x3 &&& 31)) m (fun m1 => c_X12_litBits_70 d m1 (fun r2 m2 => ((0 ≤ x3.toInt ∧ x3.toInt < 10) ∧ j_X12_wentBits_70_56 (d + 1) x1 x2 x3 (1 : Int32) (0 : Int32) (dSet m2 114 x3.toNatClampNeg r2) Q)))) ∧ ((m.1 107 ((10 : Int32) + x3).toNatClampNeg).toInt = 1 → j_X12_wentBits_70_108 (d + 1) x1 x2 x3 m Q))))))) : j_X12_wentBits_70_4 (d + 1) x1 x2 x3 m Q := by
  refine w_iload_n (q := 5) hm108 ⟨⟨_, _, rfl⟩, rfl⟩ rfl ?_
  refine w_aload_n (q := 6) hm108 ⟨⟨_, _, rfl⟩, rfl⟩ rfl ?_
  refine w_getr (q := 9) hm108 ⟨⟨_, _, rfl⟩, rfl⟩ rfl ?_
  refine w_aload_n (q := 10) hm108 ⟨⟨_, _, rfl⟩, rfl⟩ rfl ?_
  refine w_getf (q := 13) (v := (m.1 70 18)) hm108 ⟨⟨_, _, rfl⟩, rfl⟩ rfl rfl ?_
  obtain ⟨hi, h⟩ := h
  refine w_iald (q := 14) (v := (m.1 82 (m.1 70 18).toNatClampNeg)) hm108 ⟨⟨_, _, rfl⟩, rfl⟩ rfl hi rfl rfl ?_
  refine w_icmp_ge (q := 17) (X := x3.toInt) (Y := (m.1 82 (m.1 70 18).toNatClampNeg).toInt) hm108 ⟨⟨_, _, rfl⟩, rfl⟩ rfl rfl (fun hc => ?_) (fun hc => ?_)
  · have h := h.1 hc
    refine w_iload_n (q := 115) hm108 ⟨⟨_, _, rfl⟩, rfl⟩ rfl ?_
    exact w_reti hm108 ⟨⟨_, _, rfl⟩, rfl⟩ rfl h
  · have h := h.2 hc
    refine w_aload_n (q := 18) hm108 ⟨⟨_, _, rfl⟩, rfl⟩ rfl ?_
    refine w_getr (q := 21) hm108 ⟨⟨_, _, rfl⟩, rfl⟩ rfl ?_
    refine w_bipush (q := 23) hm108 ⟨⟨_, _, rfl⟩, rfl⟩ bipush_10 ?_
    refine w_iload_n (q := 24) hm108 ⟨⟨_, _, rfl⟩, rfl⟩ rfl ?_
    refine w_iadd (q := 25) hm108 ⟨⟨_, _, rfl⟩, rfl⟩ ?_
    obtain ⟨hi, h⟩ := h
    refine w_iald (q := 26) (v := (m.1 107 ((10 : Int32) + x3).toNatClampNeg)) hm108 ⟨⟨_, _, rfl⟩, rfl⟩ rfl hi rfl rfl ?_
    refine w_iconst (q := 27) hm108 ⟨⟨_, _, rfl⟩, rfl⟩ iconst_1 ?_
    refine w_icmp_ne (q := 30) (X := (m.1 107 ((10 : Int32) + x3).toNatClampNeg).toInt) (Y := 1) hm108 ⟨⟨_, _, rfl⟩, rfl⟩ rfl (by decide) (fun hc => ?_) (fun hc => ?_)
    · have h := h.1 hc
      refine w_aload_n (q := 34) hm108 ⟨⟨_, _, rfl⟩, rfl⟩ rfl ?_
      refine w_iconst (q := 35) hm108 ⟨⟨_, _, rfl⟩, rfl⟩ iconst_1 ?_
      refine w_iload_n (q := 36) hm108 ⟨⟨_, _, rfl⟩, rfl⟩ rfl ?_
      refine w_ishl (q := 37) hm108 ⟨⟨_, _, rfl⟩, rfl⟩ ?_
      refine w_call (q := 40) (n := 1) (vs := [.inr (.inr (some 70)), .inl ((1 : Int32) <<< (x3 &&& 31))]) (rest := []) (la := [oR 70, oI ((1 : Int32) <<< (x3 &&& 31)), none]) hm108 ⟨⟨_, _, rfl⟩, rfl⟩ rfl rfl rfl rfl hm92 rfl rfl (fun _ => ⟨_, _, rfl, rfl⟩) rfl (Wp.mono h ?_)
      rintro _ m1 ⟨rfl, h⟩
      change Wp _ _ 40 _ [] _ _
      refine w_aload_n (q := 41) hm108 ⟨⟨_, _, rfl⟩, rfl⟩ rfl ?_
      refine w_getr (q := 44) hm108 ⟨⟨_, _, rfl⟩, rfl⟩ rfl ?_
      refine w_iload_n (q := 45) hm108 ⟨⟨_, _, rfl⟩, rfl⟩ rfl ?_
      refine w_aload_n (q := 46) hm108 ⟨⟨_, _, rfl⟩, rfl⟩ rfl ?_
      refine w_call (q := 49) (n := 2) (vs := [.inr (.inr (some 70))]) (rest := [.inl x3, .inr (.inr (some 114))]) (la := [oR 70, none, none]) hm108 ⟨⟨_, _, rfl⟩, rfl⟩ rfl rfl rfl rfl hm52 rfl rfl (fun _ => ⟨_, _, rfl, rfl⟩) rfl (Wp.mono h ?_)
      rintro _ m2 ⟨r2, rfl, h⟩
      change Wp _ _ 49 _ [.inl r2, .inl x3, .inr (.inr (some 114))] _ _
      obtain ⟨hi, h⟩ := h
      refine w_iast (q := 50) hm108 ⟨⟨_, _, rfl⟩, rfl⟩ rfl hi rfl rfl ?_
      refine w_iconst (q := 51) hm108 ⟨⟨_, _, rfl⟩, rfl⟩ iconst_1 ?_
      refine w_istore (q := 53) (l' := [oR 70, oI x1, oI x2, oI x3, oI (1 : Int32), none]) hm108 ⟨⟨_, _, rfl⟩, rfl⟩ rfl rfl rfl ?_
      refine w_iconst (q := 54) hm108 ⟨⟨_, _, rfl⟩, rfl⟩ iconst_0 ?_
      refine w_istore (q := 56) (l' := [oR 70, oI x1, oI x2, oI x3, oI (1 : Int32), oI (0 : Int32)]) hm108 ⟨⟨_, _, rfl⟩, rfl⟩ rfl rfl rfl ?_
      exact h
    · have h := h.2 hc
      refine w_goto (q := 108) hm108 ⟨_, _, rfl⟩ ?_
      exact h
theorem v_X12_wentBits_70_56 {d : Nat} {x1 : Int32} {x2 : Int32} {x3 : Int32} {x4 : Int32} {x5 : Int32} {m : dM} {Q : Int32 → dM → Prop} (h : ((x1.toInt ≤ x5.toInt → ((x4.toInt = 0 → j_X12_wentBits_70_108 (d + 1) x1 x2 x3 m Q) ∧ (x4.toInt ≠ 0 → j_X12_wentBits_70_108 (d + 1) x1 (x2 ||| ((1 : Int32) <<< (x3 &&& 31))) x3 m Q))) ∧ (x5.toInt < x1.toInt → ((0 ≤ x3.toInt ∧ x3.toInt < 10) ∧ ((0 ≤ x5.toInt ∧ x5.toInt < 20) ∧ ((0 ≤ x5.toInt ∧ x5.toInt < 20) ∧ (((((m.1 114 x3.toNatClampNeg) >>> ((m.1 112 x5.toNatClampNeg) &&& 31)) &&& (1 : Int32)).toInt = (m.1 113 x5.toNatClampNeg).toInt → j_X12_wentBits_70_91 (d + 1) x1 x2 x3 x4 x5 m Q) ∧ ((((m.1 114 x3.toNatClampNeg) >>> ((m.1 112 x5.toNatClampNeg) &&& 31)) &&& (1 : Int32)).toInt ≠ (m.1 113 x5.toNatClampNeg).toInt → j_X12_wentBits_70_91 (d + 1) x1 x2 x3 (0 : Int32) x5 m Q)))))))) : j_X12_wentBits_70_56 (d + 1) x1 x2 x3 x4 x5 m Q := by
  refine w_iload (q := 58) hm108 ⟨⟨_, _, rfl⟩, rfl⟩ rfl ?_
  refine w_iload_n (q := 59) hm108 ⟨⟨_, _, rfl⟩, rfl⟩ rfl ?_
  refine w_icmp_ge (q := 62) (X := x5.toInt) (Y := x1.toInt) hm108 ⟨⟨_, _, rfl⟩, rfl⟩ rfl rfl (fun hc => ?_) (fun hc => ?_)
  · have h := h.1 hc
    refine w_iload (q := 99) hm108 ⟨⟨_, _, rfl⟩, rfl⟩ rfl ?_
    refine w_if_eq (q := 102) (X := x4.toInt) hm108 ⟨⟨_, _, rfl⟩, rfl⟩ rfl (fun hc => ?_) (fun hc => ?_)
    · have h := h.1 hc
      exact Wp.wk [true, true, true, true, false, false] h
    · have h := h.2 hc
      refine w_iload_n (q := 103) hm108 ⟨⟨_, _, rfl⟩, rfl⟩ rfl ?_
      refine w_iconst (q := 104) hm108 ⟨⟨_, _, rfl⟩, rfl⟩ iconst_1 ?_
      refine w_iload_n (q := 105) hm108 ⟨⟨_, _, rfl⟩, rfl⟩ rfl ?_
      refine w_ishl (q := 106) hm108 ⟨⟨_, _, rfl⟩, rfl⟩ ?_
      refine w_ior (q := 107) hm108 ⟨⟨_, _, rfl⟩, rfl⟩ ?_
      refine w_istore_n (q := 108) (l' := [oR 70, oI x1, oI (x2 ||| ((1 : Int32) <<< (x3 &&& 31))), oI x3, oI x4, oI x5]) hm108 ⟨⟨_, _, rfl⟩, rfl⟩ rfl rfl rfl ?_
      exact Wp.wk [true, true, true, true, false, false] h
  · have h := h.2 hc
    refine w_aload_n (q := 63) hm108 ⟨⟨_, _, rfl⟩, rfl⟩ rfl ?_
    refine w_getr (q := 66) hm108 ⟨⟨_, _, rfl⟩, rfl⟩ rfl ?_
    refine w_iload_n (q := 67) hm108 ⟨⟨_, _, rfl⟩, rfl⟩ rfl ?_
    obtain ⟨hi, h⟩ := h
    refine w_iald (q := 68) (v := (m.1 114 x3.toNatClampNeg)) hm108 ⟨⟨_, _, rfl⟩, rfl⟩ rfl hi rfl rfl ?_
    refine w_aload_n (q := 69) hm108 ⟨⟨_, _, rfl⟩, rfl⟩ rfl ?_
    refine w_getr (q := 72) hm108 ⟨⟨_, _, rfl⟩, rfl⟩ rfl ?_
    refine w_iload (q := 74) hm108 ⟨⟨_, _, rfl⟩, rfl⟩ rfl ?_
    obtain ⟨hi, h⟩ := h
    refine w_iald (q := 75) (v := (m.1 112 x5.toNatClampNeg)) hm108 ⟨⟨_, _, rfl⟩, rfl⟩ rfl hi rfl rfl ?_
    refine w_ishr (q := 76) hm108 ⟨⟨_, _, rfl⟩, rfl⟩ ?_
    refine w_iconst (q := 77) hm108 ⟨⟨_, _, rfl⟩, rfl⟩ iconst_1 ?_
    refine w_iand (q := 78) hm108 ⟨⟨_, _, rfl⟩, rfl⟩ ?_
    refine w_aload_n (q := 79) hm108 ⟨⟨_, _, rfl⟩, rfl⟩ rfl ?_
    refine w_getr (q := 82) hm108 ⟨⟨_, _, rfl⟩, rfl⟩ rfl ?_
    refine w_iload (q := 84) hm108 ⟨⟨_, _, rfl⟩, rfl⟩ rfl ?_
    obtain ⟨hi, h⟩ := h
    refine w_iald (q := 85) (v := (m.1 113 x5.toNatClampNeg)) hm108 ⟨⟨_, _, rfl⟩, rfl⟩ rfl hi rfl rfl ?_
    refine w_icmp_eq (q := 88) (X := (((m.1 114 x3.toNatClampNeg) >>> ((m.1 112 x5.toNatClampNeg) &&& 31)) &&& (1 : Int32)).toInt) (Y := (m.1 113 x5.toNatClampNeg).toInt) hm108 ⟨⟨_, _, rfl⟩, rfl⟩ rfl rfl (fun hc => ?_) (fun hc => ?_)
    · have h := h.1 hc
      exact h
    · have h := h.2 hc
      refine w_iconst (q := 89) hm108 ⟨⟨_, _, rfl⟩, rfl⟩ iconst_0 ?_
      refine w_istore (q := 91) (l' := [oR 70, oI x1, oI x2, oI x3, oI (0 : Int32), oI x5]) hm108 ⟨⟨_, _, rfl⟩, rfl⟩ rfl rfl rfl ?_
      exact h
theorem v_X12_wentBits_70_91 {d : Nat} {x1 : Int32} {x2 : Int32} {x3 : Int32} {x4 : Int32} {x5 : Int32} {m : dM} {Q : Int32 → dM → Prop} (h : j_X12_wentBits_70_56 (d + 1) x1 x2 x3 x4 (x5 + (1 : Int32)) m Q) : j_X12_wentBits_70_91 (d + 1) x1 x2 x3 x4 x5 m Q := by
  refine w_iinc (q := 94) (l' := [oR 70, oI x1, oI x2, oI x3, oI x4, oI (x5 + (1 : Int32))]) hm108 ⟨⟨_, _, rfl⟩, rfl⟩ rfl rfl rfl iconst_1 rfl ?_
  refine w_goto (q := 56) hm108 ⟨_, _, rfl⟩ ?_
  exact h
theorem v_X12_wentBits_70_108 {d : Nat} {x1 : Int32} {x2 : Int32} {x3 : Int32} {m : dM} {Q : Int32 → dM → Prop} (h : j_X12_wentBits_70_4 (d + 1) x1 x2 (x3 + (1 : Int32)) m Q) : j_X12_wentBits_70_108 (d + 1) x1 x2 x3 m Q := by
  refine w_iinc (q := 111) (l' := [oR 70, oI x1, oI x2, oI (x3 + (1 : Int32)), none, none]) hm108 ⟨⟨_, _, rfl⟩, rfl⟩ rfl rfl rfl iconst_1 rfl ?_
  refine w_goto (q := 4) hm108 ⟨_, _, rfl⟩ ?_
  exact h
theorem v_X12_went_70 {d : Nat} {x1 : Int32} {x2 : Int32} {m : dM} {Q : Int32 → dM → Prop} (h : c_X12_in d x1 (0 : Int32) (m.1 70 63) m (fun r1 m1 => ((r1.toInt = 0 → j_X12_went_70_21 (d + 1) m1 Q) ∧ (r1.toInt ≠ 0 → c_X12_in d x2 (0 : Int32) (1 : Int32) m1 (fun r2 m2 => ((r2.toInt ≠ 0 → c_X12_wentBits_70 d x1 m2 (fun r3 m3 => ((x2.toInt ≠ 0 → Q r3 m3) ∧ (x2.toInt = 0 → c_X12_bits d r3 m3 (fun r4 m4 => Q r4 m4))))) ∧ (r2.toInt = 0 → j_X12_went_70_21 (d + 1) m2 Q))))))) : c_X12_went_70 (d + 1) x1 x2 m Q := by
  refine w_iload_n (q := 1) hm109 ⟨⟨_, _, rfl⟩, rfl⟩ rfl ?_
  refine w_iconst (q := 2) hm109 ⟨⟨_, _, rfl⟩, rfl⟩ iconst_0 ?_
  refine w_aload_n (q := 3) hm109 ⟨⟨_, _, rfl⟩, rfl⟩ rfl ?_
  refine w_getf (q := 6) (v := (m.1 70 63)) hm109 ⟨⟨_, _, rfl⟩, rfl⟩ rfl rfl ?_
  refine w_call (q := 9) (n := 0) (vs := [.inl x1, .inl (0 : Int32), .inl (m.1 70 63)]) (rest := []) (la := [oI x1, oI (0 : Int32), oI (m.1 70 63)]) hm109 ⟨⟨_, _, rfl⟩, rfl⟩ rfl rfl rfl rfl hm36 rfl rfl (fun hz => absurd hz (by decide)) rfl (Wp.mono h ?_)
  rintro _ m1 ⟨r1, rfl, h⟩
  change Wp _ _ 9 _ [.inl r1] _ _
  refine w_if_eq (q := 12) (X := r1.toInt) hm109 ⟨⟨_, _, rfl⟩, rfl⟩ rfl (fun hc => ?_) (fun hc => ?_)
  · have h := h.1 hc
    exact Wp.wk [false, false, false, false] h
  · have h := h.2 hc
    refine w_iload_n (q := 13) hm109 ⟨⟨_, _, rfl⟩, rfl⟩ rfl ?_
    refine w_iconst (q := 14) hm109 ⟨⟨_, _, rfl⟩, rfl⟩ iconst_0 ?_
    refine w_iconst (q := 15) hm109 ⟨⟨_, _, rfl⟩, rfl⟩ iconst_1 ?_
    refine w_call (q := 18) (n := 0) (vs := [.inl x2, .inl (0 : Int32), .inl (1 : Int32)]) (rest := []) (la := [oI x2, oI (0 : Int32), oI (1 : Int32)]) hm109 ⟨⟨_, _, rfl⟩, rfl⟩ rfl rfl rfl rfl hm36 rfl rfl (fun hz => absurd hz (by decide)) rfl (Wp.mono h ?_)
    rintro _ m2 ⟨r2, rfl, h⟩
    change Wp _ _ 18 _ [.inl r2] _ _
    refine w_if_ne (q := 21) (X := r2.toInt) hm109 ⟨⟨_, _, rfl⟩, rfl⟩ rfl (fun hc => ?_) (fun hc => ?_)
    · have h := h.1 hc
      refine w_aload_n (q := 24) hm109 ⟨⟨_, _, rfl⟩, rfl⟩ rfl ?_
      refine w_iload_n (q := 25) hm109 ⟨⟨_, _, rfl⟩, rfl⟩ rfl ?_
      refine w_call (q := 28) (n := 4) (vs := [.inr (.inr (some 70)), .inl x1]) (rest := []) (la := [oR 70, oI x1, none, none, none, none]) hm109 ⟨⟨_, _, rfl⟩, rfl⟩ rfl rfl rfl rfl hm108 rfl rfl (fun _ => ⟨_, _, rfl, rfl⟩) rfl (Wp.mono h ?_)
      rintro _ m3 ⟨r3, rfl, h⟩
      change Wp _ _ 28 _ [.inl r3] _ _
      refine w_istore_n (q := 29) (l' := [oR 70, oI x1, oI x2, oI r3]) hm109 ⟨⟨_, _, rfl⟩, rfl⟩ rfl rfl rfl ?_
      refine w_iload_n (q := 30) hm109 ⟨⟨_, _, rfl⟩, rfl⟩ rfl ?_
      refine w_if_ne (q := 33) (X := x2.toInt) hm109 ⟨⟨_, _, rfl⟩, rfl⟩ rfl (fun hc => ?_) (fun hc => ?_)
      · have h := h.1 hc
        refine w_iload_n (q := 41) hm109 ⟨⟨_, _, rfl⟩, rfl⟩ rfl ?_
        exact w_reti hm109 ⟨⟨_, _, rfl⟩, rfl⟩ rfl h
      · have h := h.2 hc
        refine w_iload_n (q := 34) hm109 ⟨⟨_, _, rfl⟩, rfl⟩ rfl ?_
        refine w_call (q := 37) (n := 2) (vs := [.inl r3]) (rest := []) (la := [oI r3, none, none]) hm109 ⟨⟨_, _, rfl⟩, rfl⟩ rfl rfl rfl rfl hm38 rfl rfl (fun hz => absurd hz (by decide)) rfl (Wp.mono h ?_)
        rintro _ m4 ⟨r4, rfl, h⟩
        change Wp _ _ 37 _ [.inl r4] _ _
        refine w_goto (q := 41) hm109 ⟨_, _, rfl⟩ ?_
        exact w_reti hm109 ⟨⟨_, _, rfl⟩, rfl⟩ rfl h
    · have h := h.2 hc
      exact Wp.wk [false, false, false, false] h
theorem v_X12_went_70_21 {d : Nat} {m : dM} {Q : Int32 → dM → Prop} (h : Q (-1 : Int32) m) : j_X12_went_70_21 (d + 1) m Q := by
  refine w_iconst (q := 22) hm109 ⟨⟨_, _, rfl⟩, rfl⟩ iconst_m1 ?_
  exact w_reti hm109 ⟨⟨_, _, rfl⟩, rfl⟩ rfl h
end
section
theorem v_X9_leftAtWorst_67 {d : Nat} {x1 : Int32} {x2 : Int32} {x3 : Int32} {m : dM} {Q : Int32 → dM → Prop} (h : j_X9_leftAtWorst_67_6 (d + 1) x1 x2 x3 (0 : Int32) (0 : Int32) m Q) : c_X9_leftAtWorst_67 (d + 1) x1 x2 x3 m Q := by
  refine w_iconst (q := 1) hm236 ⟨⟨_, _, rfl⟩, rfl⟩ iconst_0 ?_
  refine w_istore (q := 3) (l' := [oR 67, oI x1, oI x2, oI x3, oI (0 : Int32), none]) hm236 ⟨⟨_, _, rfl⟩, rfl⟩ rfl rfl rfl ?_
  refine w_iconst (q := 4) hm236 ⟨⟨_, _, rfl⟩, rfl⟩ iconst_0 ?_
  refine w_istore (q := 6) (l' := [oR 67, oI x1, oI x2, oI x3, oI (0 : Int32), oI (0 : Int32)]) hm236 ⟨⟨_, _, rfl⟩, rfl⟩ rfl rfl rfl ?_
  exact h
theorem v_X9_leftAtWorst_67_6 {d : Nat} {x1 : Int32} {x2 : Int32} {x3 : Int32} {x4 : Int32} {x5 : Int32} {m : dM} {Q : Int32 → dM → Prop} (h : (((m.1 2 1).toInt ≤ x5.toInt → c_J6_bitCount d x2 m (fun r1 m1 => Q (if x4 < (r1 - x4) then (r1 - x4) else x4) m1)) ∧ (x5.toInt < (m.1 2 1).toInt → c_X11_has d x2 x5 m (fun r2 m2 => ((r2.toInt = 0 → j_X9_leftAtWorst_67_6 (d + 1) x1 x2 x3 (x4 + (0 : Int32)) (x5 + (1 : Int32)) m2 Q) ∧ (r2.toInt ≠ 0 → c_X3_litWithout_2 d (x1 ||| ((1 : Int32) <<< (x5 &&& 31))) m2 (fun r3 m3 => c_X11_has d r3 x3 m3 (fun r4 m4 => ((r4.toInt = 0 → j_X9_leftAtWorst_67_6 (d + 1) x1 x2 x3 (x4 + (0 : Int32)) (x5 + (1 : Int32)) m4 Q) ∧ (r4.toInt ≠ 0 → j_X9_leftAtWorst_67_6 (d + 1) x1 x2 x3 (x4 + (1 : Int32)) (x5 + (1 : Int32)) m4 Q)))))))))) : j_X9_leftAtWorst_67_6 (d + 1) x1 x2 x3 x4 x5 m Q := by
  refine w_iload (q := 8) hm236 ⟨⟨_, _, rfl⟩, rfl⟩ rfl ?_
  refine w_aload_n (q := 9) hm236 ⟨⟨_, _, rfl⟩, rfl⟩ rfl ?_
  refine w_getr (q := 12) hm236 ⟨⟨_, _, rfl⟩, rfl⟩ rfl ?_
  refine w_getf (q := 15) (v := (m.1 2 1)) hm236 ⟨⟨_, _, rfl⟩, rfl⟩ rfl rfl ?_
  refine w_icmp_ge (q := 18) (X := x5.toInt) (Y := (m.1 2 1).toInt) hm236 ⟨⟨_, _, rfl⟩, rfl⟩ rfl rfl (fun hc => ?_) (fun hc => ?_)
  · have h := h.1 hc
    refine w_iload (q := 65) hm236 ⟨⟨_, _, rfl⟩, rfl⟩ rfl ?_
    refine w_iload_n (q := 66) hm236 ⟨⟨_, _, rfl⟩, rfl⟩ rfl ?_
    refine w_call (q := 69) (n := 0) (vs := [.inl x2]) (rest := [.inl x4]) (la := [oI x2]) hm236 ⟨⟨_, _, rfl⟩, rfl⟩ rfl rfl rfl rfl hm285 rfl rfl (fun hz => absurd hz (by decide)) rfl (Wp.mono h ?_)
    rintro _ m1 ⟨r1, rfl, h⟩
    change Wp _ _ 69 _ [.inl r1, .inl x4] _ _
    refine w_iload (q := 71) hm236 ⟨⟨_, _, rfl⟩, rfl⟩ rfl ?_
    refine w_isub (q := 72) hm236 ⟨⟨_, _, rfl⟩, rfl⟩ ?_
    refine w_max (q := 75) hm236 ⟨⟨_, _, rfl⟩, rfl⟩ rfl rfl ?_
    exact w_reti hm236 ⟨⟨_, _, rfl⟩, rfl⟩ rfl h
  · have h := h.2 hc
    refine w_iload (q := 20) hm236 ⟨⟨_, _, rfl⟩, rfl⟩ rfl ?_
    refine w_iload_n (q := 21) hm236 ⟨⟨_, _, rfl⟩, rfl⟩ rfl ?_
    refine w_iload (q := 23) hm236 ⟨⟨_, _, rfl⟩, rfl⟩ rfl ?_
    refine w_call (q := 26) (n := 0) (vs := [.inl x2, .inl x5]) (rest := [.inl x4]) (la := [oI x2, oI x5]) hm236 ⟨⟨_, _, rfl⟩, rfl⟩ rfl rfl rfl rfl hm283 rfl rfl (fun hz => absurd hz (by decide)) rfl (Wp.mono h ?_)
    rintro _ m2 ⟨r2, rfl, h⟩
    change Wp _ _ 26 _ [.inl r2, .inl x4] _ _
    refine w_if_eq (q := 29) (X := r2.toInt) hm236 ⟨⟨_, _, rfl⟩, rfl⟩ rfl (fun hc => ?_) (fun hc => ?_)
    · have h := h.1 hc
      refine w_iconst (q := 54) hm236 ⟨⟨_, _, rfl⟩, rfl⟩ iconst_0 ?_
      refine w_iadd (q := 55) hm236 ⟨⟨_, _, rfl⟩, rfl⟩ ?_
      refine w_istore (q := 57) (l' := [oR 67, oI x1, oI x2, oI x3, oI (x4 + (0 : Int32)), oI x5]) hm236 ⟨⟨_, _, rfl⟩, rfl⟩ rfl rfl rfl ?_
      refine w_iinc (q := 60) (l' := [oR 67, oI x1, oI x2, oI x3, oI (x4 + (0 : Int32)), oI (x5 + (1 : Int32))]) hm236 ⟨⟨_, _, rfl⟩, rfl⟩ rfl rfl rfl iconst_1 rfl ?_
      refine w_goto (q := 6) hm236 ⟨_, _, rfl⟩ ?_
      exact h
    · have h := h.2 hc
      refine w_aload_n (q := 30) hm236 ⟨⟨_, _, rfl⟩, rfl⟩ rfl ?_
      refine w_getr (q := 33) hm236 ⟨⟨_, _, rfl⟩, rfl⟩ rfl ?_
      refine w_iload_n (q := 34) hm236 ⟨⟨_, _, rfl⟩, rfl⟩ rfl ?_
      refine w_iconst (q := 35) hm236 ⟨⟨_, _, rfl⟩, rfl⟩ iconst_1 ?_
      refine w_iload (q := 37) hm236 ⟨⟨_, _, rfl⟩, rfl⟩ rfl ?_
      refine w_ishl (q := 38) hm236 ⟨⟨_, _, rfl⟩, rfl⟩ ?_
      refine w_ior (q := 39) hm236 ⟨⟨_, _, rfl⟩, rfl⟩ ?_
      refine w_call (q := 42) (n := 5) (vs := [.inr (.inr (some 2)), .inl (x1 ||| ((1 : Int32) <<< (x5 &&& 31)))]) (rest := [.inl x4]) (la := [oR 2, oI (x1 ||| ((1 : Int32) <<< (x5 &&& 31))), none, none, none, none, none]) hm236 ⟨⟨_, _, rfl⟩, rfl⟩ rfl rfl rfl rfl hm174 rfl rfl (fun _ => ⟨_, _, rfl, rfl⟩) rfl (Wp.mono h ?_)
      rintro _ m3 ⟨r3, rfl, h⟩
      change Wp _ _ 42 _ [.inl r3, .inl x4] _ _
      refine w_iload_n (q := 43) hm236 ⟨⟨_, _, rfl⟩, rfl⟩ rfl ?_
      refine w_call (q := 46) (n := 0) (vs := [.inl r3, .inl x3]) (rest := [.inl x4]) (la := [oI r3, oI x3]) hm236 ⟨⟨_, _, rfl⟩, rfl⟩ rfl rfl rfl rfl hm283 rfl rfl (fun hz => absurd hz (by decide)) rfl (Wp.mono h ?_)
      rintro _ m4 ⟨r4, rfl, h⟩
      change Wp _ _ 46 _ [.inl r4, .inl x4] _ _
      refine w_if_eq (q := 49) (X := r4.toInt) hm236 ⟨⟨_, _, rfl⟩, rfl⟩ rfl (fun hc => ?_) (fun hc => ?_)
      · have h := h.1 hc
        refine w_iconst (q := 54) hm236 ⟨⟨_, _, rfl⟩, rfl⟩ iconst_0 ?_
        refine w_iadd (q := 55) hm236 ⟨⟨_, _, rfl⟩, rfl⟩ ?_
        refine w_istore (q := 57) (l' := [oR 67, oI x1, oI x2, oI x3, oI (x4 + (0 : Int32)), oI x5]) hm236 ⟨⟨_, _, rfl⟩, rfl⟩ rfl rfl rfl ?_
        refine w_iinc (q := 60) (l' := [oR 67, oI x1, oI x2, oI x3, oI (x4 + (0 : Int32)), oI (x5 + (1 : Int32))]) hm236 ⟨⟨_, _, rfl⟩, rfl⟩ rfl rfl rfl iconst_1 rfl ?_
        refine w_goto (q := 6) hm236 ⟨_, _, rfl⟩ ?_
        exact h
      · have h := h.2 hc
        refine w_iconst (q := 50) hm236 ⟨⟨_, _, rfl⟩, rfl⟩ iconst_1 ?_
        refine w_goto (q := 54) hm236 ⟨_, _, rfl⟩ ?_
        refine w_iadd (q := 55) hm236 ⟨⟨_, _, rfl⟩, rfl⟩ ?_
        refine w_istore (q := 57) (l' := [oR 67, oI x1, oI x2, oI x3, oI (x4 + (1 : Int32)), oI x5]) hm236 ⟨⟨_, _, rfl⟩, rfl⟩ rfl rfl rfl ?_
        refine w_iinc (q := 60) (l' := [oR 67, oI x1, oI x2, oI x3, oI (x4 + (1 : Int32)), oI (x5 + (1 : Int32))]) hm236 ⟨⟨_, _, rfl⟩, rfl⟩ rfl rfl rfl iconst_1 rfl ?_
        refine w_goto (q := 6) hm236 ⟨_, _, rfl⟩ ?_
        exact h
theorem v_X9_bestQuestion_67 {d : Nat} {x1 : Int32} {x2 : Int32} {m : dM} {Q : Int32 → dM → Prop} (h : c_X9_suspects_67 d x1 x2 m (fun r1 m1 => j_X9_bestQuestion_67_18 (d + 1) x1 r1 (-2 : Int32) (2147483647 : Int32) (0 : Int32) m1 Q)) : c_X9_bestQuestion_67 (d + 1) x1 x2 m Q := by
  refine w_aload_n (q := 1) hm235 ⟨⟨_, _, rfl⟩, rfl⟩ rfl ?_
  refine w_iload_n (q := 2) hm235 ⟨⟨_, _, rfl⟩, rfl⟩ rfl ?_
  refine w_iload_n (q := 3) hm235 ⟨⟨_, _, rfl⟩, rfl⟩ rfl ?_
  refine w_call (q := 6) (n := 2) (vs := [.inr (.inr (some 67)), .inl x1, .inl x2]) (rest := []) (la := [oR 67, oI x1, oI x2, none, none]) hm235 ⟨⟨_, _, rfl⟩, rfl⟩ rfl rfl rfl rfl hm233 rfl rfl (fun _ => ⟨_, _, rfl, rfl⟩) rfl (Wp.mono h ?_)
  rintro _ m1 ⟨r1, rfl, h⟩
  change Wp _ _ 6 _ [.inl r1] _ _
  refine w_istore_n (q := 7) (l' := [oR 67, oI x1, oI x2, oI r1, none, none, none, none]) hm235 ⟨⟨_, _, rfl⟩, rfl⟩ rfl rfl rfl ?_
  refine w_bipush (q := 9) hm235 ⟨⟨_, _, rfl⟩, rfl⟩ bipush_m2 ?_
  refine w_istore (q := 11) (l' := [oR 67, oI x1, oI x2, oI r1, oI (-2 : Int32), none, none, none]) hm235 ⟨⟨_, _, rfl⟩, rfl⟩ rfl rfl rfl ?_
  refine w_ldc (q := 13) hm235 ⟨⟨_, _, rfl⟩, rfl⟩ ldc_2147483647 ?_
  refine w_istore (q := 15) (l' := [oR 67, oI x1, oI x2, oI r1, oI (-2 : Int32), oI (2147483647 : Int32), none, none]) hm235 ⟨⟨_, _, rfl⟩, rfl⟩ rfl rfl rfl ?_
  refine w_iconst (q := 16) hm235 ⟨⟨_, _, rfl⟩, rfl⟩ iconst_0 ?_
  refine w_istore (q := 18) (l' := [oR 67, oI x1, oI x2, oI r1, oI (-2 : Int32), oI (2147483647 : Int32), oI (0 : Int32), none]) hm235 ⟨⟨_, _, rfl⟩, rfl⟩ rfl rfl rfl ?_
  exact Wp.wk [true, true, false, true, true, true, true, false] h
theorem v_X9_bestQuestion_67_18 {d : Nat} {x1 : Int32} {x3 : Int32} {x4 : Int32} {x5 : Int32} {x6 : Int32} {m : dM} {Q : Int32 → dM → Prop} (h : (((m.1 2 0).toInt ≤ x6.toInt → j_X9_bestQuestion_67_65 (d + 1) x4 m Q) ∧ (x6.toInt < (m.1 2 0).toInt → ((x3.toInt = 0 → j_X9_bestQuestion_67_65 (d + 1) x4 m Q) ∧ (x3.toInt ≠ 0 → c_X9_leftAtWorst_67 d x1 x3 x6 m (fun r1 m1 => ((x5.toInt ≤ r1.toInt → j_X9_bestQuestion_67_59 (d + 1) x1 x3 x4 x5 x6 m1 Q) ∧ (r1.toInt < x5.toInt → j_X9_bestQuestion_67_59 (d + 1) x1 x3 x6 r1 x6 m1 Q)))))))) : j_X9_bestQuestion_67_18 (d + 1) x1 x3 x4 x5 x6 m Q := by
  refine w_iload (q := 20) hm235 ⟨⟨_, _, rfl⟩, rfl⟩ rfl ?_
  refine w_aload_n (q := 21) hm235 ⟨⟨_, _, rfl⟩, rfl⟩ rfl ?_
  refine w_getr (q := 24) hm235 ⟨⟨_, _, rfl⟩, rfl⟩ rfl ?_
  refine w_getf (q := 27) (v := (m.1 2 0)) hm235 ⟨⟨_, _, rfl⟩, rfl⟩ rfl rfl ?_
  refine w_icmp_ge (q := 30) (X := x6.toInt) (Y := (m.1 2 0).toInt) hm235 ⟨⟨_, _, rfl⟩, rfl⟩ rfl rfl (fun hc => ?_) (fun hc => ?_)
  · have h := h.1 hc
    exact Wp.wk [false, false, false, false, true, false, false, false] h
  · have h := h.2 hc
    refine w_iload_n (q := 31) hm235 ⟨⟨_, _, rfl⟩, rfl⟩ rfl ?_
    refine w_if_eq (q := 34) (X := x3.toInt) hm235 ⟨⟨_, _, rfl⟩, rfl⟩ rfl (fun hc => ?_) (fun hc => ?_)
    · have h := h.1 hc
      exact Wp.wk [false, false, false, false, true, false, false, false] h
    · have h := h.2 hc
      refine w_aload_n (q := 35) hm235 ⟨⟨_, _, rfl⟩, rfl⟩ rfl ?_
      refine w_iload_n (q := 36) hm235 ⟨⟨_, _, rfl⟩, rfl⟩ rfl ?_
      refine w_iload_n (q := 37) hm235 ⟨⟨_, _, rfl⟩, rfl⟩ rfl ?_
      refine w_iload (q := 39) hm235 ⟨⟨_, _, rfl⟩, rfl⟩ rfl ?_
      refine w_call (q := 42) (n := 2) (vs := [.inr (.inr (some 67)), .inl x1, .inl x3, .inl x6]) (rest := []) (la := [oR 67, oI x1, oI x3, oI x6, none, none]) hm235 ⟨⟨_, _, rfl⟩, rfl⟩ rfl rfl rfl rfl hm236 rfl rfl (fun _ => ⟨_, _, rfl, rfl⟩) rfl (Wp.mono h ?_)
      rintro _ m1 ⟨r1, rfl, h⟩
      change Wp _ _ 42 _ [.inl r1] _ _
      refine w_istore (q := 44) (l' := [oR 67, oI x1, none, oI x3, oI x4, oI x5, oI x6, oI r1]) hm235 ⟨⟨_, _, rfl⟩, rfl⟩ rfl rfl rfl ?_
      refine w_iload (q := 46) hm235 ⟨⟨_, _, rfl⟩, rfl⟩ rfl ?_
      refine w_iload (q := 48) hm235 ⟨⟨_, _, rfl⟩, rfl⟩ rfl ?_
      refine w_icmp_ge (q := 51) (X := r1.toInt) (Y := x5.toInt) hm235 ⟨⟨_, _, rfl⟩, rfl⟩ rfl rfl (fun hc => ?_) (fun hc => ?_)
      · have h := h.1 hc
        exact Wp.wk [true, true, false, true, true, true, true, false] h
      · have h := h.2 hc
        refine w_iload (q := 53) hm235 ⟨⟨_, _, rfl⟩, rfl⟩ rfl ?_
        refine w_istore (q := 55) (l' := [oR 67, oI x1, none, oI x3, oI x4, oI r1, oI x6, oI r1]) hm235 ⟨⟨_, _, rfl⟩, rfl⟩ rfl rfl rfl ?_
        refine w_iload (q := 57) hm235 ⟨⟨_, _, rfl⟩, rfl⟩ rfl ?_
        refine w_istore (q := 59) (l' := [oR 67, oI x1, none, oI x3, oI x6, oI r1, oI x6, oI r1]) hm235 ⟨⟨_, _, rfl⟩, rfl⟩ rfl rfl rfl ?_
        exact Wp.wk [true, true, false, true, true, true, true, false] h
theorem v_X9_bestQuestion_67_59 {d : Nat} {x1 : Int32} {x3 : Int32} {x4 : Int32} {x5 : Int32} {x6 : Int32} {m : dM} {Q : Int32 → dM → Prop} (h : j_X9_bestQuestion_67_18 (d + 1) x1 x3 x4 x5 (x6 + (1 : Int32)) m Q) : j_X9_bestQuestion_67_59 (d + 1) x1 x3 x4 x5 x6 m Q := by
  refine w_iinc (q := 62) (l' := [oR 67, oI x1, none, oI x3, oI x4, oI x5, oI (x6 + (1 : Int32)), none]) hm235 ⟨⟨_, _, rfl⟩, rfl⟩ rfl rfl rfl iconst_1 rfl ?_
  refine w_goto (q := 18) hm235 ⟨_, _, rfl⟩ ?_
  exact h
theorem v_X9_bestQuestion_67_65 {d : Nat} {x4 : Int32} {m : dM} {Q : Int32 → dM → Prop} (h : Q x4 m) : j_X9_bestQuestion_67_65 (d + 1) x4 m Q := by
  refine w_iload (q := 67) hm235 ⟨⟨_, _, rfl⟩, rfl⟩ rfl ?_
  exact w_reti hm235 ⟨⟨_, _, rfl⟩, rfl⟩ rfl h
theorem v_X11_ask_0 {d : Nat} {x1 : Int32} {m : dM} {Q : Int32 → dM → Prop} (h : ((x1.toInt < 0 → j_X11_ask_0_15 (d + 1) m Q) ∧ (0 ≤ x1.toInt → ((x1.toInt ≤ (m.1 67 3).toInt → c_X9_bestQuestion_67 d (m.1 47 3) x1 m (fun r1 m1 => Q r1 m1)) ∧ ((m.1 67 3).toInt < x1.toInt → j_X11_ask_0_15 (d + 1) m Q))))) : c_X11_ask_0 (d + 1) x1 m Q := by
  refine w_iload_n (q := 1) hm278 ⟨⟨_, _, rfl⟩, rfl⟩ rfl ?_
  refine w_if_lt (q := 4) (X := x1.toInt) hm278 ⟨⟨_, _, rfl⟩, rfl⟩ rfl (fun hc => ?_) (fun hc => ?_)
  · have h := h.1 hc
    exact Wp.wk [false, false] h
  · have h := h.2 hc
    refine w_iload_n (q := 5) hm278 ⟨⟨_, _, rfl⟩, rfl⟩ rfl ?_
    refine w_aload_n (q := 6) hm278 ⟨⟨_, _, rfl⟩, rfl⟩ rfl ?_
    refine w_getr (q := 9) hm278 ⟨⟨_, _, rfl⟩, rfl⟩ rfl ?_
    refine w_getf (q := 12) (v := (m.1 67 3)) hm278 ⟨⟨_, _, rfl⟩, rfl⟩ rfl rfl ?_
    refine w_icmp_le (q := 15) (X := x1.toInt) (Y := (m.1 67 3).toInt) hm278 ⟨⟨_, _, rfl⟩, rfl⟩ rfl rfl (fun hc => ?_) (fun hc => ?_)
    · have h := h.1 hc
      refine w_aload_n (q := 20) hm278 ⟨⟨_, _, rfl⟩, rfl⟩ rfl ?_
      refine w_getr (q := 23) hm278 ⟨⟨_, _, rfl⟩, rfl⟩ rfl ?_
      refine w_aload_n (q := 24) hm278 ⟨⟨_, _, rfl⟩, rfl⟩ rfl ?_
      refine w_getr (q := 27) hm278 ⟨⟨_, _, rfl⟩, rfl⟩ rfl ?_
      refine w_getf (q := 30) (v := (m.1 47 3)) hm278 ⟨⟨_, _, rfl⟩, rfl⟩ rfl rfl ?_
      refine w_iload_n (q := 31) hm278 ⟨⟨_, _, rfl⟩, rfl⟩ rfl ?_
      refine w_call (q := 34) (n := 5) (vs := [.inr (.inr (some 67)), .inl (m.1 47 3), .inl x1]) (rest := []) (la := [oR 67, oI (m.1 47 3), oI x1, none, none, none, none, none]) hm278 ⟨⟨_, _, rfl⟩, rfl⟩ rfl rfl rfl rfl hm235 rfl rfl (fun _ => ⟨_, _, rfl, rfl⟩) rfl (Wp.mono h ?_)
      rintro _ m1 ⟨r1, rfl, h⟩
      change Wp _ _ 34 _ [.inl r1] _ _
      exact w_reti hm278 ⟨⟨_, _, rfl⟩, rfl⟩ rfl h
    · have h := h.2 hc
      exact Wp.wk [false, false] h
theorem v_X11_ask_0_15 {d : Nat} {m : dM} {Q : Int32 → dM → Prop} (h : Q (-1 : Int32) m) : j_X11_ask_0_15 (d + 1) m Q := by
  refine w_iconst (q := 16) hm278 ⟨⟨_, _, rfl⟩, rfl⟩ iconst_m1 ?_
  refine w_goto (q := 34) hm278 ⟨_, _, rfl⟩ ?_
  exact w_reti hm278 ⟨⟨_, _, rfl⟩, rfl⟩ rfl h
theorem v_X12_ask_70 {d : Nat} {x1 : Int32} {m : dM} {Q : Int32 → dM → Prop} (h : c_X12_in d x1 (0 : Int32) (m.1 70 63) m (fun r1 m1 => ((r1.toInt ≠ 0 → c_X12_wentBits_70 d x1 m1 (fun r2 m2 => j_X12_ask_70_29 (d + 1) r2 (-2 : Int32) (0 : Int32) (0 : Int32) m2 Q)) ∧ (r1.toInt = 0 → Q (-1 : Int32) m1)))) : c_X12_ask_70 (d + 1) x1 m Q := by
  refine w_iload_n (q := 1) hm110 ⟨⟨_, _, rfl⟩, rfl⟩ rfl ?_
  refine w_iconst (q := 2) hm110 ⟨⟨_, _, rfl⟩, rfl⟩ iconst_0 ?_
  refine w_aload_n (q := 3) hm110 ⟨⟨_, _, rfl⟩, rfl⟩ rfl ?_
  refine w_getf (q := 6) (v := (m.1 70 63)) hm110 ⟨⟨_, _, rfl⟩, rfl⟩ rfl rfl ?_
  refine w_call (q := 9) (n := 0) (vs := [.inl x1, .inl (0 : Int32), .inl (m.1 70 63)]) (rest := []) (la := [oI x1, oI (0 : Int32), oI (m.1 70 63)]) hm110 ⟨⟨_, _, rfl⟩, rfl⟩ rfl rfl rfl rfl hm36 rfl rfl (fun hz => absurd hz (by decide)) rfl (Wp.mono h ?_)
  rintro _ m1 ⟨r1, rfl, h⟩
  change Wp _ _ 9 _ [.inl r1] _ _
  refine w_if_ne (q := 12) (X := r1.toInt) hm110 ⟨⟨_, _, rfl⟩, rfl⟩ rfl (fun hc => ?_) (fun hc => ?_)
  · have h := h.1 hc
    refine w_aload_n (q := 15) hm110 ⟨⟨_, _, rfl⟩, rfl⟩ rfl ?_
    refine w_iload_n (q := 16) hm110 ⟨⟨_, _, rfl⟩, rfl⟩ rfl ?_
    refine w_call (q := 19) (n := 4) (vs := [.inr (.inr (some 70)), .inl x1]) (rest := []) (la := [oR 70, oI x1, none, none, none, none]) hm110 ⟨⟨_, _, rfl⟩, rfl⟩ rfl rfl rfl rfl hm108 rfl rfl (fun _ => ⟨_, _, rfl, rfl⟩) rfl (Wp.mono h ?_)
    rintro _ m2 ⟨r2, rfl, h⟩
    change Wp _ _ 19 _ [.inl r2] _ _
    refine w_istore_n (q := 20) (l' := [oR 70, oI x1, oI r2, none, none, none, none, none]) hm110 ⟨⟨_, _, rfl⟩, rfl⟩ rfl rfl rfl ?_
    refine w_bipush (q := 22) hm110 ⟨⟨_, _, rfl⟩, rfl⟩ bipush_m2 ?_
    refine w_istore_n (q := 23) (l' := [oR 70, oI x1, oI r2, oI (-2 : Int32), none, none, none, none]) hm110 ⟨⟨_, _, rfl⟩, rfl⟩ rfl rfl rfl ?_
    refine w_iconst (q := 24) hm110 ⟨⟨_, _, rfl⟩, rfl⟩ iconst_0 ?_
    refine w_istore (q := 26) (l' := [oR 70, oI x1, oI r2, oI (-2 : Int32), oI (0 : Int32), none, none, none]) hm110 ⟨⟨_, _, rfl⟩, rfl⟩ rfl rfl rfl ?_
    refine w_iconst (q := 27) hm110 ⟨⟨_, _, rfl⟩, rfl⟩ iconst_0 ?_
    refine w_istore (q := 29) (l' := [oR 70, oI x1, oI r2, oI (-2 : Int32), oI (0 : Int32), oI (0 : Int32), none, none]) hm110 ⟨⟨_, _, rfl⟩, rfl⟩ rfl rfl rfl ?_
    exact Wp.wk [true, false, true, true, true, true, false, false] h
  · have h := h.2 hc
    refine w_iconst (q := 13) hm110 ⟨⟨_, _, rfl⟩, rfl⟩ iconst_m1 ?_
    exact w_reti hm110 ⟨⟨_, _, rfl⟩, rfl⟩ rfl h
theorem v_X12_ask_70_29 {d : Nat} {x2 : Int32} {x3 : Int32} {x4 : Int32} {x5 : Int32} {m : dM} {Q : Int32 → dM → Prop} (h : ((0 ≤ (m.1 70 18).toInt ∧ (m.1 70 18).toInt < 2) ∧ (((m.1 80 (m.1 70 18).toNatClampNeg).toInt ≤ x5.toInt → j_X12_ask_70_153 (d + 1) x3 m Q) ∧ (x5.toInt < (m.1 80 (m.1 70 18).toNatClampNeg).toInt → ((x2.toInt = 0 → j_X12_ask_70_153 (d + 1) x3 m Q) ∧ (x2.toInt ≠ 0 → j_X12_ask_70_53 (d + 1) x2 x3 x4 x5 (0 : Int32) (0 : Int32) m Q)))))) : j_X12_ask_70_29 (d + 1) x2 x3 x4 x5 m Q := by
  refine w_iload (q := 31) hm110 ⟨⟨_, _, rfl⟩, rfl⟩ rfl ?_
  refine w_aload_n (q := 32) hm110 ⟨⟨_, _, rfl⟩, rfl⟩ rfl ?_
  refine w_getr (q := 35) hm110 ⟨⟨_, _, rfl⟩, rfl⟩ rfl ?_
  refine w_aload_n (q := 36) hm110 ⟨⟨_, _, rfl⟩, rfl⟩ rfl ?_
  refine w_getf (q := 39) (v := (m.1 70 18)) hm110 ⟨⟨_, _, rfl⟩, rfl⟩ rfl rfl ?_
  obtain ⟨hi, h⟩ := h
  refine w_iald (q := 40) (v := (m.1 80 (m.1 70 18).toNatClampNeg)) hm110 ⟨⟨_, _, rfl⟩, rfl⟩ rfl hi rfl rfl ?_
  refine w_icmp_ge (q := 43) (X := x5.toInt) (Y := (m.1 80 (m.1 70 18).toNatClampNeg).toInt) hm110 ⟨⟨_, _, rfl⟩, rfl⟩ rfl rfl (fun hc => ?_) (fun hc => ?_)
  · have h := h.1 hc
    exact Wp.wk [false, false, false, true, false, false, false, false] h
  · have h := h.2 hc
    refine w_iload_n (q := 44) hm110 ⟨⟨_, _, rfl⟩, rfl⟩ rfl ?_
    refine w_if_eq (q := 47) (X := x2.toInt) hm110 ⟨⟨_, _, rfl⟩, rfl⟩ rfl (fun hc => ?_) (fun hc => ?_)
    · have h := h.1 hc
      exact Wp.wk [false, false, false, true, false, false, false, false] h
    · have h := h.2 hc
      refine w_iconst (q := 48) hm110 ⟨⟨_, _, rfl⟩, rfl⟩ iconst_0 ?_
      refine w_istore (q := 50) (l' := [oR 70, none, oI x2, oI x3, oI x4, oI x5, oI (0 : Int32), none]) hm110 ⟨⟨_, _, rfl⟩, rfl⟩ rfl rfl rfl ?_
      refine w_iconst (q := 51) hm110 ⟨⟨_, _, rfl⟩, rfl⟩ iconst_0 ?_
      refine w_istore (q := 53) (l' := [oR 70, none, oI x2, oI x3, oI x4, oI x5, oI (0 : Int32), oI (0 : Int32)]) hm110 ⟨⟨_, _, rfl⟩, rfl⟩ rfl rfl rfl ?_
      exact h
theorem v_X12_ask_70_53 {d : Nat} {x2 : Int32} {x3 : Int32} {x4 : Int32} {x5 : Int32} {x6 : Int32} {x7 : Int32} {m : dM} {Q : Int32 → dM → Prop} (h : ((0 ≤ (m.1 70 18).toInt ∧ (m.1 70 18).toInt < 2) ∧ (((m.1 82 (m.1 70 18).toNatClampNeg).toInt ≤ x7.toInt → c_X12_bits d x2 m (fun r1 m1 => ((x6.toInt ≤ (r1 - x6).toInt → c_X12_bits d x2 m1 (fun r2 m2 => ((x3.toInt < 0 → j_X12_ask_70_140 (d + 1) x2 x5 (r2 - x6) m2 Q) ∧ (0 ≤ x3.toInt → (((r2 - x6).toInt < x4.toInt → j_X12_ask_70_140 (d + 1) x2 x5 (r2 - x6) m2 Q) ∧ (x4.toInt ≤ (r2 - x6).toInt → j_X12_ask_70_147 (d + 1) x2 x3 x4 x5 m2 Q)))))) ∧ ((r1 - x6).toInt < x6.toInt → ((x3.toInt < 0 → j_X12_ask_70_140 (d + 1) x2 x5 x6 m1 Q) ∧ (0 ≤ x3.toInt → ((x6.toInt < x4.toInt → j_X12_ask_70_140 (d + 1) x2 x5 x6 m1 Q) ∧ (x4.toInt ≤ x6.toInt → j_X12_ask_70_147 (d + 1) x2 x3 x4 x5 m1 Q)))))))) ∧ (x7.toInt < (m.1 82 (m.1 70 18).toNatClampNeg).toInt → ((((x2 >>> (x7 &&& 31)) &&& (1 : Int32)).toInt ≠ 1 → j_X12_ask_70_94 (d + 1) x2 x3 x4 x5 x6 x7 m Q) ∧ (((x2 >>> (x7 &&& 31)) &&& (1 : Int32)).toInt = 1 → ((0 ≤ x7.toInt ∧ x7.toInt < 10) ∧ j_X12_ask_70_94 (d + 1) x2 x3 x4 x5 (x6 + (((m.1 114 x7.toNatClampNeg) >>> (x5 &&& 31)) &&& (1 : Int32))) x7 m Q))))))) : j_X12_ask_70_53 (d + 1) x2 x3 x4 x5 x6 x7 m Q := by
  refine w_iload (q := 55) hm110 ⟨⟨_, _, rfl⟩, rfl⟩ rfl ?_
  refine w_aload_n (q := 56) hm110 ⟨⟨_, _, rfl⟩, rfl⟩ rfl ?_
  refine w_getr (q := 59) hm110 ⟨⟨_, _, rfl⟩, rfl⟩ rfl ?_
  refine w_aload_n (q := 60) hm110 ⟨⟨_, _, rfl⟩, rfl⟩ rfl ?_
  refine w_getf (q := 63) (v := (m.1 70 18)) hm110 ⟨⟨_, _, rfl⟩, rfl⟩ rfl rfl ?_
  obtain ⟨hi, h⟩ := h
  refine w_iald (q := 64) (v := (m.1 82 (m.1 70 18).toNatClampNeg)) hm110 ⟨⟨_, _, rfl⟩, rfl⟩ rfl hi rfl rfl ?_
  refine w_icmp_ge (q := 67) (X := x7.toInt) (Y := (m.1 82 (m.1 70 18).toNatClampNeg).toInt) hm110 ⟨⟨_, _, rfl⟩, rfl⟩ rfl rfl (fun hc => ?_) (fun hc => ?_)
  · have h := h.1 hc
    refine w_iload (q := 102) hm110 ⟨⟨_, _, rfl⟩, rfl⟩ rfl ?_
    refine w_iload_n (q := 103) hm110 ⟨⟨_, _, rfl⟩, rfl⟩ rfl ?_
    refine w_call (q := 106) (n := 2) (vs := [.inl x2]) (rest := [.inl x6]) (la := [oI x2, none, none]) hm110 ⟨⟨_, _, rfl⟩, rfl⟩ rfl rfl rfl rfl hm38 rfl rfl (fun hz => absurd hz (by decide)) rfl (Wp.mono h ?_)
    rintro _ m1 ⟨r1, rfl, h⟩
    change Wp _ _ 106 _ [.inl r1, .inl x6] _ _
    refine w_iload (q := 108) hm110 ⟨⟨_, _, rfl⟩, rfl⟩ rfl ?_
    refine w_isub (q := 109) hm110 ⟨⟨_, _, rfl⟩, rfl⟩ ?_
    refine w_icmp_le (q := 112) (X := x6.toInt) (Y := (r1 - x6).toInt) hm110 ⟨⟨_, _, rfl⟩, rfl⟩ rfl rfl (fun hc => ?_) (fun hc => ?_)
    · have h := h.1 hc
      refine w_iload_n (q := 118) hm110 ⟨⟨_, _, rfl⟩, rfl⟩ rfl ?_
      refine w_call (q := 121) (n := 2) (vs := [.inl x2]) (rest := []) (la := [oI x2, none, none]) hm110 ⟨⟨_, _, rfl⟩, rfl⟩ rfl rfl rfl rfl hm38 rfl rfl (fun hz => absurd hz (by decide)) rfl (Wp.mono h ?_)
      rintro _ m2 ⟨r2, rfl, h⟩
      change Wp _ _ 121 _ [.inl r2] _ _
      refine w_iload (q := 123) hm110 ⟨⟨_, _, rfl⟩, rfl⟩ rfl ?_
      refine w_isub (q := 124) hm110 ⟨⟨_, _, rfl⟩, rfl⟩ ?_
      refine w_istore (q := 126) (l' := [oR 70, none, oI x2, oI x3, oI x4, oI x5, oI x6, oI (r2 - x6)]) hm110 ⟨⟨_, _, rfl⟩, rfl⟩ rfl rfl rfl ?_
      refine w_iload_n (q := 127) hm110 ⟨⟨_, _, rfl⟩, rfl⟩ rfl ?_
      refine w_if_lt (q := 130) (X := x3.toInt) hm110 ⟨⟨_, _, rfl⟩, rfl⟩ rfl (fun hc => ?_) (fun hc => ?_)
      · have h := h.1 hc
        exact Wp.wk [true, false, true, false, false, true, false, true] h
      · have h := h.2 hc
        refine w_iload (q := 132) hm110 ⟨⟨_, _, rfl⟩, rfl⟩ rfl ?_
        refine w_iload (q := 134) hm110 ⟨⟨_, _, rfl⟩, rfl⟩ rfl ?_
        refine w_icmp_lt (q := 137) (X := (r2 - x6).toInt) (Y := x4.toInt) hm110 ⟨⟨_, _, rfl⟩, rfl⟩ rfl rfl (fun hc => ?_) (fun hc => ?_)
        · have h := h.1 hc
          exact Wp.wk [true, false, true, false, false, true, false, true] h
        · have h := h.2 hc
          refine w_goto (q := 147) hm110 ⟨_, _, rfl⟩ ?_
          exact Wp.wk [true, false, true, true, true, true, false, false] h
    · have h := h.2 hc
      refine w_iload (q := 114) hm110 ⟨⟨_, _, rfl⟩, rfl⟩ rfl ?_
      refine w_goto (q := 124) hm110 ⟨_, _, rfl⟩ ?_
      refine w_istore (q := 126) (l' := [oR 70, none, oI x2, oI x3, oI x4, oI x5, oI x6, oI x6]) hm110 ⟨⟨_, _, rfl⟩, rfl⟩ rfl rfl rfl ?_
      refine w_iload_n (q := 127) hm110 ⟨⟨_, _, rfl⟩, rfl⟩ rfl ?_
      refine w_if_lt (q := 130) (X := x3.toInt) hm110 ⟨⟨_, _, rfl⟩, rfl⟩ rfl (fun hc => ?_) (fun hc => ?_)
      · have h := h.1 hc
        exact Wp.wk [true, false, true, false, false, true, false, true] h
      · have h := h.2 hc
        refine w_iload (q := 132) hm110 ⟨⟨_, _, rfl⟩, rfl⟩ rfl ?_
        refine w_iload (q := 134) hm110 ⟨⟨_, _, rfl⟩, rfl⟩ rfl ?_
        refine w_icmp_lt (q := 137) (X := x6.toInt) (Y := x4.toInt) hm110 ⟨⟨_, _, rfl⟩, rfl⟩ rfl rfl (fun hc => ?_) (fun hc => ?_)
        · have h := h.1 hc
          exact Wp.wk [true, false, true, false, false, true, false, true] h
        · have h := h.2 hc
          refine w_goto (q := 147) hm110 ⟨_, _, rfl⟩ ?_
          exact Wp.wk [true, false, true, true, true, true, false, false] h
  · have h := h.2 hc
    refine w_iload_n (q := 68) hm110 ⟨⟨_, _, rfl⟩, rfl⟩ rfl ?_
    refine w_iload (q := 70) hm110 ⟨⟨_, _, rfl⟩, rfl⟩ rfl ?_
    refine w_ishr (q := 71) hm110 ⟨⟨_, _, rfl⟩, rfl⟩ ?_
    refine w_iconst (q := 72) hm110 ⟨⟨_, _, rfl⟩, rfl⟩ iconst_1 ?_
    refine w_iand (q := 73) hm110 ⟨⟨_, _, rfl⟩, rfl⟩ ?_
    refine w_iconst (q := 74) hm110 ⟨⟨_, _, rfl⟩, rfl⟩ iconst_1 ?_
    refine w_icmp_ne (q := 77) (X := ((x2 >>> (x7 &&& 31)) &&& (1 : Int32)).toInt) (Y := 1) hm110 ⟨⟨_, _, rfl⟩, rfl⟩ rfl (by decide) (fun hc => ?_) (fun hc => ?_)
    · have h := h.1 hc
      exact h
    · have h := h.2 hc
      refine w_iload (q := 79) hm110 ⟨⟨_, _, rfl⟩, rfl⟩ rfl ?_
      refine w_aload_n (q := 80) hm110 ⟨⟨_, _, rfl⟩, rfl⟩ rfl ?_
      refine w_getr (q := 83) hm110 ⟨⟨_, _, rfl⟩, rfl⟩ rfl ?_
      refine w_iload (q := 85) hm110 ⟨⟨_, _, rfl⟩, rfl⟩ rfl ?_
      obtain ⟨hi, h⟩ := h
      refine w_iald (q := 86) (v := (m.1 114 x7.toNatClampNeg)) hm110 ⟨⟨_, _, rfl⟩, rfl⟩ rfl hi rfl rfl ?_
      refine w_iload (q := 88) hm110 ⟨⟨_, _, rfl⟩, rfl⟩ rfl ?_
      refine w_ishr (q := 89) hm110 ⟨⟨_, _, rfl⟩, rfl⟩ ?_
      refine w_iconst (q := 90) hm110 ⟨⟨_, _, rfl⟩, rfl⟩ iconst_1 ?_
      refine w_iand (q := 91) hm110 ⟨⟨_, _, rfl⟩, rfl⟩ ?_
      refine w_iadd (q := 92) hm110 ⟨⟨_, _, rfl⟩, rfl⟩ ?_
      refine w_istore (q := 94) (l' := [oR 70, none, oI x2, oI x3, oI x4, oI x5, oI (x6 + (((m.1 114 x7.toNatClampNeg) >>> (x5 &&& 31)) &&& (1 : Int32))), oI x7]) hm110 ⟨⟨_, _, rfl⟩, rfl⟩ rfl rfl rfl ?_
      exact h
theorem v_X12_ask_70_94 {d : Nat} {x2 : Int32} {x3 : Int32} {x4 : Int32} {x5 : Int32} {x6 : Int32} {x7 : Int32} {m : dM} {Q : Int32 → dM → Prop} (h : j_X12_ask_70_53 (d + 1) x2 x3 x4 x5 x6 (x7 + (1 : Int32)) m Q) : j_X12_ask_70_94 (d + 1) x2 x3 x4 x5 x6 x7 m Q := by
  refine w_iinc (q := 97) (l' := [oR 70, none, oI x2, oI x3, oI x4, oI x5, oI x6, oI (x7 + (1 : Int32))]) hm110 ⟨⟨_, _, rfl⟩, rfl⟩ rfl rfl rfl iconst_1 rfl ?_
  refine w_goto (q := 53) hm110 ⟨_, _, rfl⟩ ?_
  exact h
theorem v_X12_ask_70_140 {d : Nat} {x2 : Int32} {x5 : Int32} {x7 : Int32} {m : dM} {Q : Int32 → dM → Prop} (h : j_X12_ask_70_147 (d + 1) x2 x5 x7 x5 m Q) : j_X12_ask_70_140 (d + 1) x2 x5 x7 m Q := by
  refine w_iload (q := 142) hm110 ⟨⟨_, _, rfl⟩, rfl⟩ rfl ?_
  refine w_istore_n (q := 143) (l' := [oR 70, none, oI x2, oI x5, none, oI x5, none, oI x7]) hm110 ⟨⟨_, _, rfl⟩, rfl⟩ rfl rfl rfl ?_
  refine w_iload (q := 145) hm110 ⟨⟨_, _, rfl⟩, rfl⟩ rfl ?_
  refine w_istore (q := 147) (l' := [oR 70, none, oI x2, oI x5, oI x7, oI x5, none, oI x7]) hm110 ⟨⟨_, _, rfl⟩, rfl⟩ rfl rfl rfl ?_
  exact Wp.wk [true, false, true, true, true, true, false, false] h
theorem v_X12_ask_70_147 {d : Nat} {x2 : Int32} {x3 : Int32} {x4 : Int32} {x5 : Int32} {m : dM} {Q : Int32 → dM → Prop} (h : j_X12_ask_70_29 (d + 1) x2 x3 x4 (x5 + (1 : Int32)) m Q) : j_X12_ask_70_147 (d + 1) x2 x3 x4 x5 m Q := by
  refine w_iinc (q := 150) (l' := [oR 70, none, oI x2, oI x3, oI x4, oI (x5 + (1 : Int32)), none, none]) hm110 ⟨⟨_, _, rfl⟩, rfl⟩ rfl rfl rfl iconst_1 rfl ?_
  refine w_goto (q := 29) hm110 ⟨_, _, rfl⟩ ?_
  exact h
theorem v_X12_ask_70_153 {d : Nat} {x3 : Int32} {m : dM} {Q : Int32 → dM → Prop} (h : Q x3 m) : j_X12_ask_70_153 (d + 1) x3 m Q := by
  refine w_iload_n (q := 154) hm110 ⟨⟨_, _, rfl⟩, rfl⟩ rfl ?_
  exact w_reti hm110 ⟨⟨_, _, rfl⟩, rfl⟩ rfl h
theorem v_X7_writeTo_47_53 {d : Nat} {x2 : Int32} {m : dM} {Q : dM → Prop} (h : ((x2.toInt < 0 → j_X7_writeTo_47_53_13 (d + 1) m Q) ∧ (0 ≤ x2.toInt → ((x2.toInt ≤ ((99 : Int32) - (33 : Int32)).toInt → ((0 ≤ x2.toInt ∧ x2.toInt < 99) ∧ ((0 ≤ (x2 + (1 : Int32)).toInt ∧ (x2 + (1 : Int32)).toInt < 99) ∧ ((0 ≤ (x2 + (2 : Int32)).toInt ∧ (x2 + (2 : Int32)).toInt < 99) ∧ ((0 ≤ (x2 + (3 : Int32)).toInt ∧ (x2 + (3 : Int32)).toInt < 99) ∧ ((0 ≤ (x2 + (4 : Int32)).toInt ∧ (x2 + (4 : Int32)).toInt < 99) ∧ ((0 ≤ (x2 + (5 : Int32)).toInt ∧ (x2 + (5 : Int32)).toInt < 99) ∧ ((0 ≤ (10 : Int) ∧ 0 ≤ (x2 + (6 : Int32)).toInt ∧ 0 ≤ (0 : Int) ∧ (0 : Int) + (10 : Int) ≤ 10 ∧ (x2 + (6 : Int32)).toInt + (10 : Int) ≤ 99) ∧ ((0 ≤ (10 : Int) ∧ 0 ≤ ((x2 + (6 : Int32)) + (10 : Int32)).toInt ∧ 0 ≤ (0 : Int) ∧ (0 : Int) + (10 : Int) ≤ 10 ∧ ((x2 + (6 : Int32)) + (10 : Int32)).toInt + (10 : Int) ≤ 99) ∧ ((0 ≤ (7 : Int) ∧ 0 ≤ ((x2 + (6 : Int32)) + (20 : Int32)).toInt ∧ 0 ≤ (0 : Int) ∧ (0 : Int) + (7 : Int) ≤ 7 ∧ ((x2 + (6 : Int32)) + (20 : Int32)).toInt + (7 : Int) ≤ 99) ∧ Q (dCpy (dCpy (dCpy (dSet (dSet (dSet (dSet (dSet (dSet m 53 x2.toNatClampNeg (m.1 47 0)) 53 (x2 + (1 : Int32)).toNatClampNeg (m.1 47 1)) 53 (x2 + (2 : Int32)).toNatClampNeg (m.1 47 2)) 53 (x2 + (3 : Int32)).toNatClampNeg (m.1 47 3)) 53 (x2 + (4 : Int32)).toNatClampNeg (m.1 47 4)) 53 (x2 + (5 : Int32)).toNatClampNeg (m.1 47 5)) 48 (0 : Int).toNat 53 ((x2 + (6 : Int32)).toInt).toNat (10 : Int).toNat) 49 (0 : Int).toNat 53 (((x2 + (6 : Int32)) + (10 : Int32)).toInt).toNat (10 : Int).toNat) 50 (0 : Int).toNat 53 (((x2 + (6 : Int32)) + (20 : Int32)).toInt).toNat (7 : Int).toNat))))))))))) ∧ (((99 : Int32) - (33 : Int32)).toInt < x2.toInt → j_X7_writeTo_47_53_13 (d + 1) m Q))))) : c_X7_writeTo_47_53 (d + 1) x2 m Q := by
  refine w_iload_n (q := 1) hm210 ⟨⟨_, _, rfl⟩, rfl⟩ rfl ?_
  refine w_if_lt (q := 4) (X := x2.toInt) hm210 ⟨⟨_, _, rfl⟩, rfl⟩ rfl (fun hc => ?_) (fun hc => ?_)
  · have h := h.1 hc
    exact Wp.wk [false, false, false] h
  · have h := h.2 hc
    refine w_iload_n (q := 5) hm210 ⟨⟨_, _, rfl⟩, rfl⟩ rfl ?_
    refine w_aload_n (q := 6) hm210 ⟨⟨_, _, rfl⟩, rfl⟩ rfl ?_
    refine w_alen (q := 7) hm210 ⟨⟨_, _, rfl⟩, rfl⟩ rfl alen_99 ?_
    refine w_bipush (q := 9) hm210 ⟨⟨_, _, rfl⟩, rfl⟩ bipush_33 ?_
    refine w_isub (q := 10) hm210 ⟨⟨_, _, rfl⟩, rfl⟩ ?_
    refine w_icmp_le (q := 13) (X := x2.toInt) (Y := ((99 : Int32) - (33 : Int32)).toInt) hm210 ⟨⟨_, _, rfl⟩, rfl⟩ rfl rfl (fun hc => ?_) (fun hc => ?_)
    · have h := h.1 hc
      refine w_aload_n (q := 15) hm210 ⟨⟨_, _, rfl⟩, rfl⟩ rfl ?_
      refine w_iload_n (q := 16) hm210 ⟨⟨_, _, rfl⟩, rfl⟩ rfl ?_
      refine w_aload_n (q := 17) hm210 ⟨⟨_, _, rfl⟩, rfl⟩ rfl ?_
      refine w_getf (q := 20) (v := (m.1 47 0)) hm210 ⟨⟨_, _, rfl⟩, rfl⟩ rfl rfl ?_
      obtain ⟨hi, h⟩ := h
      refine w_iast (q := 21) hm210 ⟨⟨_, _, rfl⟩, rfl⟩ rfl hi rfl rfl ?_
      refine w_aload_n (q := 22) hm210 ⟨⟨_, _, rfl⟩, rfl⟩ rfl ?_
      refine w_iload_n (q := 23) hm210 ⟨⟨_, _, rfl⟩, rfl⟩ rfl ?_
      refine w_iconst (q := 24) hm210 ⟨⟨_, _, rfl⟩, rfl⟩ iconst_1 ?_
      refine w_iadd (q := 25) hm210 ⟨⟨_, _, rfl⟩, rfl⟩ ?_
      refine w_aload_n (q := 26) hm210 ⟨⟨_, _, rfl⟩, rfl⟩ rfl ?_
      refine w_getf (q := 29) (v := (m.1 47 1)) hm210 ⟨⟨_, _, rfl⟩, rfl⟩ rfl rfl ?_
      obtain ⟨hi, h⟩ := h
      refine w_iast (q := 30) hm210 ⟨⟨_, _, rfl⟩, rfl⟩ rfl hi rfl rfl ?_
      refine w_aload_n (q := 31) hm210 ⟨⟨_, _, rfl⟩, rfl⟩ rfl ?_
      refine w_iload_n (q := 32) hm210 ⟨⟨_, _, rfl⟩, rfl⟩ rfl ?_
      refine w_iconst (q := 33) hm210 ⟨⟨_, _, rfl⟩, rfl⟩ iconst_2 ?_
      refine w_iadd (q := 34) hm210 ⟨⟨_, _, rfl⟩, rfl⟩ ?_
      refine w_aload_n (q := 35) hm210 ⟨⟨_, _, rfl⟩, rfl⟩ rfl ?_
      refine w_getf (q := 38) (v := (m.1 47 2)) hm210 ⟨⟨_, _, rfl⟩, rfl⟩ rfl rfl ?_
      obtain ⟨hi, h⟩ := h
      refine w_iast (q := 39) hm210 ⟨⟨_, _, rfl⟩, rfl⟩ rfl hi rfl rfl ?_
      refine w_aload_n (q := 40) hm210 ⟨⟨_, _, rfl⟩, rfl⟩ rfl ?_
      refine w_iload_n (q := 41) hm210 ⟨⟨_, _, rfl⟩, rfl⟩ rfl ?_
      refine w_iconst (q := 42) hm210 ⟨⟨_, _, rfl⟩, rfl⟩ iconst_3 ?_
      refine w_iadd (q := 43) hm210 ⟨⟨_, _, rfl⟩, rfl⟩ ?_
      refine w_aload_n (q := 44) hm210 ⟨⟨_, _, rfl⟩, rfl⟩ rfl ?_
      refine w_getf (q := 47) (v := (m.1 47 3)) hm210 ⟨⟨_, _, rfl⟩, rfl⟩ rfl rfl ?_
      obtain ⟨hi, h⟩ := h
      refine w_iast (q := 48) hm210 ⟨⟨_, _, rfl⟩, rfl⟩ rfl hi rfl rfl ?_
      refine w_aload_n (q := 49) hm210 ⟨⟨_, _, rfl⟩, rfl⟩ rfl ?_
      refine w_iload_n (q := 50) hm210 ⟨⟨_, _, rfl⟩, rfl⟩ rfl ?_
      refine w_iconst (q := 51) hm210 ⟨⟨_, _, rfl⟩, rfl⟩ iconst_4 ?_
      refine w_iadd (q := 52) hm210 ⟨⟨_, _, rfl⟩, rfl⟩ ?_
      refine w_aload_n (q := 53) hm210 ⟨⟨_, _, rfl⟩, rfl⟩ rfl ?_
      refine w_getf (q := 56) (v := (m.1 47 4)) hm210 ⟨⟨_, _, rfl⟩, rfl⟩ rfl rfl ?_
      obtain ⟨hi, h⟩ := h
      refine w_iast (q := 57) hm210 ⟨⟨_, _, rfl⟩, rfl⟩ rfl hi rfl rfl ?_
      refine w_aload_n (q := 58) hm210 ⟨⟨_, _, rfl⟩, rfl⟩ rfl ?_
      refine w_iload_n (q := 59) hm210 ⟨⟨_, _, rfl⟩, rfl⟩ rfl ?_
      refine w_iconst (q := 60) hm210 ⟨⟨_, _, rfl⟩, rfl⟩ iconst_5 ?_
      refine w_iadd (q := 61) hm210 ⟨⟨_, _, rfl⟩, rfl⟩ ?_
      refine w_aload_n (q := 62) hm210 ⟨⟨_, _, rfl⟩, rfl⟩ rfl ?_
      refine w_getf (q := 65) (v := (m.1 47 5)) hm210 ⟨⟨_, _, rfl⟩, rfl⟩ rfl rfl ?_
      obtain ⟨hi, h⟩ := h
      refine w_iast (q := 66) hm210 ⟨⟨_, _, rfl⟩, rfl⟩ rfl hi rfl rfl ?_
      refine w_aload_n (q := 67) hm210 ⟨⟨_, _, rfl⟩, rfl⟩ rfl ?_
      refine w_getr (q := 70) hm210 ⟨⟨_, _, rfl⟩, rfl⟩ rfl ?_
      refine w_iconst (q := 71) hm210 ⟨⟨_, _, rfl⟩, rfl⟩ iconst_0 ?_
      refine w_aload_n (q := 72) hm210 ⟨⟨_, _, rfl⟩, rfl⟩ rfl ?_
      refine w_iload_n (q := 73) hm210 ⟨⟨_, _, rfl⟩, rfl⟩ rfl ?_
      refine w_bipush (q := 75) hm210 ⟨⟨_, _, rfl⟩, rfl⟩ bipush_6 ?_
      refine w_iadd (q := 76) hm210 ⟨⟨_, _, rfl⟩, rfl⟩ ?_
      refine w_bipush (q := 78) hm210 ⟨⟨_, _, rfl⟩, rfl⟩ bipush_10 ?_
      obtain ⟨hi, h⟩ := h
      refine w_copy (q := 81) (N := 10) (D := (x2 + (6 : Int32)).toInt) (S := 0) hm210 ⟨⟨_, _, rfl⟩, rfl⟩ rfl rfl rfl rfl rfl (by decide) rfl (by decide) hi ?_
      refine w_aload_n (q := 82) hm210 ⟨⟨_, _, rfl⟩, rfl⟩ rfl ?_
      refine w_getr (q := 85) hm210 ⟨⟨_, _, rfl⟩, rfl⟩ rfl ?_
      refine w_iconst (q := 86) hm210 ⟨⟨_, _, rfl⟩, rfl⟩ iconst_0 ?_
      refine w_aload_n (q := 87) hm210 ⟨⟨_, _, rfl⟩, rfl⟩ rfl ?_
      refine w_iload_n (q := 88) hm210 ⟨⟨_, _, rfl⟩, rfl⟩ rfl ?_
      refine w_bipush (q := 90) hm210 ⟨⟨_, _, rfl⟩, rfl⟩ bipush_6 ?_
      refine w_iadd (q := 91) hm210 ⟨⟨_, _, rfl⟩, rfl⟩ ?_
      refine w_bipush (q := 93) hm210 ⟨⟨_, _, rfl⟩, rfl⟩ bipush_10 ?_
      refine w_iadd (q := 94) hm210 ⟨⟨_, _, rfl⟩, rfl⟩ ?_
      refine w_bipush (q := 96) hm210 ⟨⟨_, _, rfl⟩, rfl⟩ bipush_10 ?_
      obtain ⟨hi, h⟩ := h
      refine w_copy (q := 99) (N := 10) (D := ((x2 + (6 : Int32)) + (10 : Int32)).toInt) (S := 0) hm210 ⟨⟨_, _, rfl⟩, rfl⟩ rfl rfl rfl rfl rfl (by decide) rfl (by decide) hi ?_
      refine w_aload_n (q := 100) hm210 ⟨⟨_, _, rfl⟩, rfl⟩ rfl ?_
      refine w_getr (q := 103) hm210 ⟨⟨_, _, rfl⟩, rfl⟩ rfl ?_
      refine w_iconst (q := 104) hm210 ⟨⟨_, _, rfl⟩, rfl⟩ iconst_0 ?_
      refine w_aload_n (q := 105) hm210 ⟨⟨_, _, rfl⟩, rfl⟩ rfl ?_
      refine w_iload_n (q := 106) hm210 ⟨⟨_, _, rfl⟩, rfl⟩ rfl ?_
      refine w_bipush (q := 108) hm210 ⟨⟨_, _, rfl⟩, rfl⟩ bipush_6 ?_
      refine w_iadd (q := 109) hm210 ⟨⟨_, _, rfl⟩, rfl⟩ ?_
      refine w_bipush (q := 111) hm210 ⟨⟨_, _, rfl⟩, rfl⟩ bipush_20 ?_
      refine w_iadd (q := 112) hm210 ⟨⟨_, _, rfl⟩, rfl⟩ ?_
      refine w_bipush (q := 114) hm210 ⟨⟨_, _, rfl⟩, rfl⟩ bipush_7 ?_
      obtain ⟨hi, h⟩ := h
      refine w_copy (q := 117) (N := 7) (D := ((x2 + (6 : Int32)) + (20 : Int32)).toInt) (S := 0) hm210 ⟨⟨_, _, rfl⟩, rfl⟩ rfl rfl rfl rfl rfl (by decide) rfl (by decide) hi ?_
      exact w_retv hm210 ⟨⟨_, _, rfl⟩, rfl⟩ rfl h
    · have h := h.2 hc
      exact Wp.wk [false, false, false] h
theorem v_X7_writeTo_47_53_13 {d : Nat} {m : dM} {Q : dM → Prop} (h : Q m) : j_X7_writeTo_47_53_13 (d + 1) m Q := by
  exact w_retv hm210 ⟨⟨_, _, rfl⟩, rfl⟩ rfl h
theorem v_X6_store_51_47 {d : Nat} {x1 : Int32} {m : dM} {Q : Int32 → dM → Prop} (h : ((x1.toInt < 0 → j_X6_store_51_47_9 (d + 1) m Q) ∧ (0 ≤ x1.toInt → ((x1.toInt < 3 → c_X7_writeTo_47_53 d (x1 * (33 : Int32)) m (fun m1 => Q (1 : Int32) (dSet m1 51 4 ((m1.1 51 4) ||| ((1 : Int32) <<< (x1 &&& 31)))))) ∧ (3 ≤ x1.toInt → j_X6_store_51_47_9 (d + 1) m Q))))) : c_X6_store_51_47 (d + 1) x1 m Q := by
  refine w_iload_n (q := 1) hm205 ⟨⟨_, _, rfl⟩, rfl⟩ rfl ?_
  refine w_if_lt (q := 4) (X := x1.toInt) hm205 ⟨⟨_, _, rfl⟩, rfl⟩ rfl (fun hc => ?_) (fun hc => ?_)
  · have h := h.1 hc
    exact Wp.wk [false, false, false] h
  · have h := h.2 hc
    refine w_iload_n (q := 5) hm205 ⟨⟨_, _, rfl⟩, rfl⟩ rfl ?_
    refine w_iconst (q := 6) hm205 ⟨⟨_, _, rfl⟩, rfl⟩ iconst_3 ?_
    refine w_icmp_lt (q := 9) (X := x1.toInt) (Y := 3) hm205 ⟨⟨_, _, rfl⟩, rfl⟩ rfl (by decide) (fun hc => ?_) (fun hc => ?_)
    · have h := h.1 hc
      refine w_aload_n (q := 12) hm205 ⟨⟨_, _, rfl⟩, rfl⟩ rfl ?_
      refine w_aload_n (q := 13) hm205 ⟨⟨_, _, rfl⟩, rfl⟩ rfl ?_
      refine w_getr (q := 16) hm205 ⟨⟨_, _, rfl⟩, rfl⟩ rfl ?_
      refine w_iload_n (q := 17) hm205 ⟨⟨_, _, rfl⟩, rfl⟩ rfl ?_
      refine w_bipush (q := 19) hm205 ⟨⟨_, _, rfl⟩, rfl⟩ bipush_33 ?_
      refine w_imul (q := 20) hm205 ⟨⟨_, _, rfl⟩, rfl⟩ ?_
      refine w_call (q := 23) (n := 0) (vs := [.inr (.inr (some 47)), .inr (.inr (some 53)), .inl (x1 * (33 : Int32))]) (rest := []) (la := [oR 47, oR 53, oI (x1 * (33 : Int32))]) hm205 ⟨⟨_, _, rfl⟩, rfl⟩ rfl rfl rfl rfl hm210 rfl rfl (fun _ => ⟨_, _, rfl, rfl⟩) rfl (Wp.mono h ?_)
      rintro _ m1 ⟨rfl, h⟩
      change Wp _ _ 23 _ [] _ _
      refine w_aload_n (q := 24) hm205 ⟨⟨_, _, rfl⟩, rfl⟩ rfl ?_
      refine w_dup (q := 25) hm205 ⟨⟨_, _, rfl⟩, rfl⟩ rfl ?_
      refine w_getf (q := 28) (v := (m1.1 51 4)) hm205 ⟨⟨_, _, rfl⟩, rfl⟩ rfl rfl ?_
      refine w_iconst (q := 29) hm205 ⟨⟨_, _, rfl⟩, rfl⟩ iconst_1 ?_
      refine w_iload_n (q := 30) hm205 ⟨⟨_, _, rfl⟩, rfl⟩ rfl ?_
      refine w_ishl (q := 31) hm205 ⟨⟨_, _, rfl⟩, rfl⟩ ?_
      refine w_ior (q := 32) hm205 ⟨⟨_, _, rfl⟩, rfl⟩ ?_
      refine w_putf (q := 35) hm205 ⟨⟨_, _, rfl⟩, rfl⟩ rfl rfl rfl ?_
      refine w_iconst (q := 36) hm205 ⟨⟨_, _, rfl⟩, rfl⟩ iconst_1 ?_
      exact w_retz hm205 ⟨⟨_, _, rfl⟩, rfl⟩ rfl (by decide) h
    · have h := h.2 hc
      exact Wp.wk [false, false, false] h
theorem v_X6_store_51_47_9 {d : Nat} {m : dM} {Q : Int32 → dM → Prop} (h : Q (0 : Int32) m) : j_X6_store_51_47_9 (d + 1) m Q := by
  refine w_iconst (q := 10) hm205 ⟨⟨_, _, rfl⟩, rfl⟩ iconst_0 ?_
  exact w_retz hm205 ⟨⟨_, _, rfl⟩, rfl⟩ rfl (by decide) h
theorem v_X11_hold_0 {d : Nat} {x1 : Int32} {m : dM} {Q : Int32 → dM → Prop} (h : c_X6_store_51_47 d x1 m (fun r1 m1 => (r1 = 0 ∨ r1 = 1) ∧ Q r1 m1)) : c_X11_hold_0 (d + 1) x1 m Q := by
  refine w_aload_n (q := 1) hm279 ⟨⟨_, _, rfl⟩, rfl⟩ rfl ?_
  refine w_getr (q := 4) hm279 ⟨⟨_, _, rfl⟩, rfl⟩ rfl ?_
  refine w_iload_n (q := 5) hm279 ⟨⟨_, _, rfl⟩, rfl⟩ rfl ?_
  refine w_aload_n (q := 6) hm279 ⟨⟨_, _, rfl⟩, rfl⟩ rfl ?_
  refine w_getr (q := 9) hm279 ⟨⟨_, _, rfl⟩, rfl⟩ rfl ?_
  refine w_call (q := 12) (n := 0) (vs := [.inr (.inr (some 51)), .inl x1, .inr (.inr (some 47))]) (rest := []) (la := [oR 51, oI x1, oR 47]) hm279 ⟨⟨_, _, rfl⟩, rfl⟩ rfl rfl rfl rfl hm205 rfl rfl (fun _ => ⟨_, _, rfl, rfl⟩) rfl (Wp.mono h ?_)
  rintro _ m1 ⟨r1, rfl, h⟩
  change Wp _ _ 12 _ [.inl r1] _ _
  exact w_retz hm279 ⟨⟨_, _, rfl⟩, rfl⟩ rfl h.1 h.2
theorem v_X12_hold_70 {d : Nat} {x1 : Int32} {m : dM} {Q : Int32 → dM → Prop} (h : c_X12_in d x1 (0 : Int32) (2 : Int32) m (fun r1 m1 => ((r1.toInt ≠ 0 → ((0 ≤ x1.toInt ∧ x1.toInt < 3) ∧ j_X12_hold_70_20 (d + 1) x1 (0 : Int32) (dSet m1 115 x1.toNatClampNeg (1 : Int32)) Q)) ∧ (r1.toInt = 0 → Q (0 : Int32) m1)))) : c_X12_hold_70 (d + 1) x1 m Q := by
  refine w_iload_n (q := 1) hm111 ⟨⟨_, _, rfl⟩, rfl⟩ rfl ?_
  refine w_iconst (q := 2) hm111 ⟨⟨_, _, rfl⟩, rfl⟩ iconst_0 ?_
  refine w_iconst (q := 3) hm111 ⟨⟨_, _, rfl⟩, rfl⟩ iconst_2 ?_
  refine w_call (q := 6) (n := 0) (vs := [.inl x1, .inl (0 : Int32), .inl (2 : Int32)]) (rest := []) (la := [oI x1, oI (0 : Int32), oI (2 : Int32)]) hm111 ⟨⟨_, _, rfl⟩, rfl⟩ rfl rfl rfl rfl hm36 rfl rfl (fun hz => absurd hz (by decide)) rfl (Wp.mono h ?_)
  rintro _ m1 ⟨r1, rfl, h⟩
  change Wp _ _ 6 _ [.inl r1] _ _
  refine w_if_ne (q := 9) (X := r1.toInt) hm111 ⟨⟨_, _, rfl⟩, rfl⟩ rfl (fun hc => ?_) (fun hc => ?_)
  · have h := h.1 hc
    refine w_aload_n (q := 12) hm111 ⟨⟨_, _, rfl⟩, rfl⟩ rfl ?_
    refine w_getr (q := 15) hm111 ⟨⟨_, _, rfl⟩, rfl⟩ rfl ?_
    refine w_iload_n (q := 16) hm111 ⟨⟨_, _, rfl⟩, rfl⟩ rfl ?_
    refine w_iconst (q := 17) hm111 ⟨⟨_, _, rfl⟩, rfl⟩ iconst_1 ?_
    obtain ⟨hi, h⟩ := h
    refine w_zast (q := 18) hm111 ⟨⟨_, _, rfl⟩, rfl⟩ rfl (by decide) hi rfl rfl ?_
    refine w_iconst (q := 19) hm111 ⟨⟨_, _, rfl⟩, rfl⟩ iconst_0 ?_
    refine w_istore_n (q := 20) (l' := [oR 70, oI x1, oI (0 : Int32)]) hm111 ⟨⟨_, _, rfl⟩, rfl⟩ rfl rfl rfl ?_
    exact h
  · have h := h.2 hc
    refine w_iconst (q := 10) hm111 ⟨⟨_, _, rfl⟩, rfl⟩ iconst_0 ?_
    exact w_retz hm111 ⟨⟨_, _, rfl⟩, rfl⟩ rfl (by decide) h
theorem v_X12_hold_70_20 {d : Nat} {x1 : Int32} {x2 : Int32} {m : dM} {Q : Int32 → dM → Prop} (h : ((58 ≤ x2.toInt → Q (1 : Int32) m) ∧ (x2.toInt < 58 → ((0 ≤ x2.toInt ∧ x2.toInt < 58) ∧ ((0 ≤ (((58 : Int32) * x1) + x2).toInt ∧ (((58 : Int32) * x1) + x2).toInt < 174) ∧ j_X12_hold_70_20 (d + 1) x1 (x2 + (1 : Int32)) (dSet m 116 (((58 : Int32) * x1) + x2).toNatClampNeg (m.1 107 x2.toNatClampNeg)) Q))))) : j_X12_hold_70_20 (d + 1) x1 x2 m Q := by
  refine w_iload_n (q := 21) hm111 ⟨⟨_, _, rfl⟩, rfl⟩ rfl ?_
  refine w_bipush (q := 23) hm111 ⟨⟨_, _, rfl⟩, rfl⟩ bipush_58 ?_
  refine w_icmp_ge (q := 26) (X := x2.toInt) (Y := 58) hm111 ⟨⟨_, _, rfl⟩, rfl⟩ rfl (by decide) (fun hc => ?_) (fun hc => ?_)
  · have h := h.1 hc
    refine w_iconst (q := 50) hm111 ⟨⟨_, _, rfl⟩, rfl⟩ iconst_1 ?_
    exact w_retz hm111 ⟨⟨_, _, rfl⟩, rfl⟩ rfl (by decide) h
  · have h := h.2 hc
    refine w_aload_n (q := 27) hm111 ⟨⟨_, _, rfl⟩, rfl⟩ rfl ?_
    refine w_getr (q := 30) hm111 ⟨⟨_, _, rfl⟩, rfl⟩ rfl ?_
    refine w_bipush (q := 32) hm111 ⟨⟨_, _, rfl⟩, rfl⟩ bipush_58 ?_
    refine w_iload_n (q := 33) hm111 ⟨⟨_, _, rfl⟩, rfl⟩ rfl ?_
    refine w_imul (q := 34) hm111 ⟨⟨_, _, rfl⟩, rfl⟩ ?_
    refine w_iload_n (q := 35) hm111 ⟨⟨_, _, rfl⟩, rfl⟩ rfl ?_
    refine w_iadd (q := 36) hm111 ⟨⟨_, _, rfl⟩, rfl⟩ ?_
    refine w_aload_n (q := 37) hm111 ⟨⟨_, _, rfl⟩, rfl⟩ rfl ?_
    refine w_getr (q := 40) hm111 ⟨⟨_, _, rfl⟩, rfl⟩ rfl ?_
    refine w_iload_n (q := 41) hm111 ⟨⟨_, _, rfl⟩, rfl⟩ rfl ?_
    obtain ⟨hi, h⟩ := h
    refine w_iald (q := 42) (v := (m.1 107 x2.toNatClampNeg)) hm111 ⟨⟨_, _, rfl⟩, rfl⟩ rfl hi rfl rfl ?_
    obtain ⟨hi, h⟩ := h
    refine w_iast (q := 43) hm111 ⟨⟨_, _, rfl⟩, rfl⟩ rfl hi rfl rfl ?_
    refine w_iinc (q := 46) (l' := [oR 70, oI x1, oI (x2 + (1 : Int32))]) hm111 ⟨⟨_, _, rfl⟩, rfl⟩ rfl rfl rfl iconst_1 rfl ?_
    refine w_goto (q := 20) hm111 ⟨_, _, rfl⟩ ?_
    exact h
theorem v_X7_readFrom_47_53 {d : Nat} {x2 : Int32} {m : dM} {Q : dM → Prop} (h : ((x2.toInt < 0 → j_X7_readFrom_47_53_13 (d + 1) m Q) ∧ (0 ≤ x2.toInt → ((x2.toInt ≤ ((99 : Int32) - (33 : Int32)).toInt → ((0 ≤ x2.toInt ∧ x2.toInt < 99) ∧ ((0 ≤ (x2 + (1 : Int32)).toInt ∧ (x2 + (1 : Int32)).toInt < 99) ∧ ((0 ≤ (x2 + (2 : Int32)).toInt ∧ (x2 + (2 : Int32)).toInt < 99) ∧ ((0 ≤ (x2 + (3 : Int32)).toInt ∧ (x2 + (3 : Int32)).toInt < 99) ∧ ((0 ≤ (x2 + (4 : Int32)).toInt ∧ (x2 + (4 : Int32)).toInt < 99) ∧ ((0 ≤ (x2 + (5 : Int32)).toInt ∧ (x2 + (5 : Int32)).toInt < 99) ∧ ((0 ≤ (10 : Int) ∧ 0 ≤ (0 : Int) ∧ 0 ≤ (x2 + (6 : Int32)).toInt ∧ (x2 + (6 : Int32)).toInt + (10 : Int) ≤ 99 ∧ (0 : Int) + (10 : Int) ≤ 10) ∧ ((0 ≤ (10 : Int) ∧ 0 ≤ (0 : Int) ∧ 0 ≤ ((x2 + (6 : Int32)) + (10 : Int32)).toInt ∧ ((x2 + (6 : Int32)) + (10 : Int32)).toInt + (10 : Int) ≤ 99 ∧ (0 : Int) + (10 : Int) ≤ 10) ∧ ((0 ≤ (7 : Int) ∧ 0 ≤ (0 : Int) ∧ 0 ≤ ((x2 + (6 : Int32)) + (20 : Int32)).toInt ∧ ((x2 + (6 : Int32)) + (20 : Int32)).toInt + (7 : Int) ≤ 99 ∧ (0 : Int) + (7 : Int) ≤ 7) ∧ Q (dCpy (dCpy (dCpy (dSet (dSet (dSet (dSet (dSet (dSet m 47 0 (m.1 53 x2.toNatClampNeg)) 47 1 (m.1 53 (x2 + (1 : Int32)).toNatClampNeg)) 47 2 (m.1 53 (x2 + (2 : Int32)).toNatClampNeg)) 47 3 (m.1 53 (x2 + (3 : Int32)).toNatClampNeg)) 47 4 (m.1 53 (x2 + (4 : Int32)).toNatClampNeg)) 47 5 (m.1 53 (x2 + (5 : Int32)).toNatClampNeg)) 53 ((x2 + (6 : Int32)).toInt).toNat 48 (0 : Int).toNat (10 : Int).toNat) 53 (((x2 + (6 : Int32)) + (10 : Int32)).toInt).toNat 49 (0 : Int).toNat (10 : Int).toNat) 53 (((x2 + (6 : Int32)) + (20 : Int32)).toInt).toNat 50 (0 : Int).toNat (7 : Int).toNat))))))))))) ∧ (((99 : Int32) - (33 : Int32)).toInt < x2.toInt → j_X7_readFrom_47_53_13 (d + 1) m Q))))) : c_X7_readFrom_47_53 (d + 1) x2 m Q := by
  refine w_iload_n (q := 1) hm211 ⟨⟨_, _, rfl⟩, rfl⟩ rfl ?_
  refine w_if_lt (q := 4) (X := x2.toInt) hm211 ⟨⟨_, _, rfl⟩, rfl⟩ rfl (fun hc => ?_) (fun hc => ?_)
  · have h := h.1 hc
    exact Wp.wk [false, false, false] h
  · have h := h.2 hc
    refine w_iload_n (q := 5) hm211 ⟨⟨_, _, rfl⟩, rfl⟩ rfl ?_
    refine w_aload_n (q := 6) hm211 ⟨⟨_, _, rfl⟩, rfl⟩ rfl ?_
    refine w_alen (q := 7) hm211 ⟨⟨_, _, rfl⟩, rfl⟩ rfl alen_99 ?_
    refine w_bipush (q := 9) hm211 ⟨⟨_, _, rfl⟩, rfl⟩ bipush_33 ?_
    refine w_isub (q := 10) hm211 ⟨⟨_, _, rfl⟩, rfl⟩ ?_
    refine w_icmp_le (q := 13) (X := x2.toInt) (Y := ((99 : Int32) - (33 : Int32)).toInt) hm211 ⟨⟨_, _, rfl⟩, rfl⟩ rfl rfl (fun hc => ?_) (fun hc => ?_)
    · have h := h.1 hc
      refine w_aload_n (q := 15) hm211 ⟨⟨_, _, rfl⟩, rfl⟩ rfl ?_
      refine w_aload_n (q := 16) hm211 ⟨⟨_, _, rfl⟩, rfl⟩ rfl ?_
      refine w_iload_n (q := 17) hm211 ⟨⟨_, _, rfl⟩, rfl⟩ rfl ?_
      obtain ⟨hi, h⟩ := h
      refine w_iald (q := 18) (v := (m.1 53 x2.toNatClampNeg)) hm211 ⟨⟨_, _, rfl⟩, rfl⟩ rfl hi rfl rfl ?_
      refine w_putf (q := 21) hm211 ⟨⟨_, _, rfl⟩, rfl⟩ rfl rfl rfl ?_
      refine w_aload_n (q := 22) hm211 ⟨⟨_, _, rfl⟩, rfl⟩ rfl ?_
      refine w_aload_n (q := 23) hm211 ⟨⟨_, _, rfl⟩, rfl⟩ rfl ?_
      refine w_iload_n (q := 24) hm211 ⟨⟨_, _, rfl⟩, rfl⟩ rfl ?_
      refine w_iconst (q := 25) hm211 ⟨⟨_, _, rfl⟩, rfl⟩ iconst_1 ?_
      refine w_iadd (q := 26) hm211 ⟨⟨_, _, rfl⟩, rfl⟩ ?_
      obtain ⟨hi, h⟩ := h
      refine w_iald (q := 27) (v := (m.1 53 (x2 + (1 : Int32)).toNatClampNeg)) hm211 ⟨⟨_, _, rfl⟩, rfl⟩ rfl hi rfl rfl ?_
      refine w_putf (q := 30) hm211 ⟨⟨_, _, rfl⟩, rfl⟩ rfl rfl rfl ?_
      refine w_aload_n (q := 31) hm211 ⟨⟨_, _, rfl⟩, rfl⟩ rfl ?_
      refine w_aload_n (q := 32) hm211 ⟨⟨_, _, rfl⟩, rfl⟩ rfl ?_
      refine w_iload_n (q := 33) hm211 ⟨⟨_, _, rfl⟩, rfl⟩ rfl ?_
      refine w_iconst (q := 34) hm211 ⟨⟨_, _, rfl⟩, rfl⟩ iconst_2 ?_
      refine w_iadd (q := 35) hm211 ⟨⟨_, _, rfl⟩, rfl⟩ ?_
      obtain ⟨hi, h⟩ := h
      refine w_iald (q := 36) (v := (m.1 53 (x2 + (2 : Int32)).toNatClampNeg)) hm211 ⟨⟨_, _, rfl⟩, rfl⟩ rfl hi rfl rfl ?_
      refine w_putf (q := 39) hm211 ⟨⟨_, _, rfl⟩, rfl⟩ rfl rfl rfl ?_
      refine w_aload_n (q := 40) hm211 ⟨⟨_, _, rfl⟩, rfl⟩ rfl ?_
      refine w_aload_n (q := 41) hm211 ⟨⟨_, _, rfl⟩, rfl⟩ rfl ?_
      refine w_iload_n (q := 42) hm211 ⟨⟨_, _, rfl⟩, rfl⟩ rfl ?_
      refine w_iconst (q := 43) hm211 ⟨⟨_, _, rfl⟩, rfl⟩ iconst_3 ?_
      refine w_iadd (q := 44) hm211 ⟨⟨_, _, rfl⟩, rfl⟩ ?_
      obtain ⟨hi, h⟩ := h
      refine w_iald (q := 45) (v := (m.1 53 (x2 + (3 : Int32)).toNatClampNeg)) hm211 ⟨⟨_, _, rfl⟩, rfl⟩ rfl hi rfl rfl ?_
      refine w_putf (q := 48) hm211 ⟨⟨_, _, rfl⟩, rfl⟩ rfl rfl rfl ?_
      refine w_aload_n (q := 49) hm211 ⟨⟨_, _, rfl⟩, rfl⟩ rfl ?_
      refine w_aload_n (q := 50) hm211 ⟨⟨_, _, rfl⟩, rfl⟩ rfl ?_
      refine w_iload_n (q := 51) hm211 ⟨⟨_, _, rfl⟩, rfl⟩ rfl ?_
      refine w_iconst (q := 52) hm211 ⟨⟨_, _, rfl⟩, rfl⟩ iconst_4 ?_
      refine w_iadd (q := 53) hm211 ⟨⟨_, _, rfl⟩, rfl⟩ ?_
      obtain ⟨hi, h⟩ := h
      refine w_iald (q := 54) (v := (m.1 53 (x2 + (4 : Int32)).toNatClampNeg)) hm211 ⟨⟨_, _, rfl⟩, rfl⟩ rfl hi rfl rfl ?_
      refine w_putf (q := 57) hm211 ⟨⟨_, _, rfl⟩, rfl⟩ rfl rfl rfl ?_
      refine w_aload_n (q := 58) hm211 ⟨⟨_, _, rfl⟩, rfl⟩ rfl ?_
      refine w_aload_n (q := 59) hm211 ⟨⟨_, _, rfl⟩, rfl⟩ rfl ?_
      refine w_iload_n (q := 60) hm211 ⟨⟨_, _, rfl⟩, rfl⟩ rfl ?_
      refine w_iconst (q := 61) hm211 ⟨⟨_, _, rfl⟩, rfl⟩ iconst_5 ?_
      refine w_iadd (q := 62) hm211 ⟨⟨_, _, rfl⟩, rfl⟩ ?_
      obtain ⟨hi, h⟩ := h
      refine w_iald (q := 63) (v := (m.1 53 (x2 + (5 : Int32)).toNatClampNeg)) hm211 ⟨⟨_, _, rfl⟩, rfl⟩ rfl hi rfl rfl ?_
      refine w_putf (q := 66) hm211 ⟨⟨_, _, rfl⟩, rfl⟩ rfl rfl rfl ?_
      refine w_aload_n (q := 67) hm211 ⟨⟨_, _, rfl⟩, rfl⟩ rfl ?_
      refine w_iload_n (q := 68) hm211 ⟨⟨_, _, rfl⟩, rfl⟩ rfl ?_
      refine w_bipush (q := 70) hm211 ⟨⟨_, _, rfl⟩, rfl⟩ bipush_6 ?_
      refine w_iadd (q := 71) hm211 ⟨⟨_, _, rfl⟩, rfl⟩ ?_
      refine w_aload_n (q := 72) hm211 ⟨⟨_, _, rfl⟩, rfl⟩ rfl ?_
      refine w_getr (q := 75) hm211 ⟨⟨_, _, rfl⟩, rfl⟩ rfl ?_
      refine w_iconst (q := 76) hm211 ⟨⟨_, _, rfl⟩, rfl⟩ iconst_0 ?_
      refine w_bipush (q := 78) hm211 ⟨⟨_, _, rfl⟩, rfl⟩ bipush_10 ?_
      obtain ⟨hi, h⟩ := h
      refine w_copy (q := 81) (N := 10) (D := 0) (S := (x2 + (6 : Int32)).toInt) hm211 ⟨⟨_, _, rfl⟩, rfl⟩ rfl rfl rfl rfl rfl (by decide) (by decide) rfl hi ?_
      refine w_aload_n (q := 82) hm211 ⟨⟨_, _, rfl⟩, rfl⟩ rfl ?_
      refine w_iload_n (q := 83) hm211 ⟨⟨_, _, rfl⟩, rfl⟩ rfl ?_
      refine w_bipush (q := 85) hm211 ⟨⟨_, _, rfl⟩, rfl⟩ bipush_6 ?_
      refine w_iadd (q := 86) hm211 ⟨⟨_, _, rfl⟩, rfl⟩ ?_
      refine w_bipush (q := 88) hm211 ⟨⟨_, _, rfl⟩, rfl⟩ bipush_10 ?_
      refine w_iadd (q := 89) hm211 ⟨⟨_, _, rfl⟩, rfl⟩ ?_
      refine w_aload_n (q := 90) hm211 ⟨⟨_, _, rfl⟩, rfl⟩ rfl ?_
      refine w_getr (q := 93) hm211 ⟨⟨_, _, rfl⟩, rfl⟩ rfl ?_
      refine w_iconst (q := 94) hm211 ⟨⟨_, _, rfl⟩, rfl⟩ iconst_0 ?_
      refine w_bipush (q := 96) hm211 ⟨⟨_, _, rfl⟩, rfl⟩ bipush_10 ?_
      obtain ⟨hi, h⟩ := h
      refine w_copy (q := 99) (N := 10) (D := 0) (S := ((x2 + (6 : Int32)) + (10 : Int32)).toInt) hm211 ⟨⟨_, _, rfl⟩, rfl⟩ rfl rfl rfl rfl rfl (by decide) (by decide) rfl hi ?_
      refine w_aload_n (q := 100) hm211 ⟨⟨_, _, rfl⟩, rfl⟩ rfl ?_
      refine w_iload_n (q := 101) hm211 ⟨⟨_, _, rfl⟩, rfl⟩ rfl ?_
      refine w_bipush (q := 103) hm211 ⟨⟨_, _, rfl⟩, rfl⟩ bipush_6 ?_
      refine w_iadd (q := 104) hm211 ⟨⟨_, _, rfl⟩, rfl⟩ ?_
      refine w_bipush (q := 106) hm211 ⟨⟨_, _, rfl⟩, rfl⟩ bipush_20 ?_
      refine w_iadd (q := 107) hm211 ⟨⟨_, _, rfl⟩, rfl⟩ ?_
      refine w_aload_n (q := 108) hm211 ⟨⟨_, _, rfl⟩, rfl⟩ rfl ?_
      refine w_getr (q := 111) hm211 ⟨⟨_, _, rfl⟩, rfl⟩ rfl ?_
      refine w_iconst (q := 112) hm211 ⟨⟨_, _, rfl⟩, rfl⟩ iconst_0 ?_
      refine w_bipush (q := 114) hm211 ⟨⟨_, _, rfl⟩, rfl⟩ bipush_7 ?_
      obtain ⟨hi, h⟩ := h
      refine w_copy (q := 117) (N := 7) (D := 0) (S := ((x2 + (6 : Int32)) + (20 : Int32)).toInt) hm211 ⟨⟨_, _, rfl⟩, rfl⟩ rfl rfl rfl rfl rfl (by decide) (by decide) rfl hi ?_
      exact w_retv hm211 ⟨⟨_, _, rfl⟩, rfl⟩ rfl h
    · have h := h.2 hc
      exact Wp.wk [false, false, false] h
theorem v_X7_readFrom_47_53_13 {d : Nat} {m : dM} {Q : dM → Prop} (h : Q m) : j_X7_readFrom_47_53_13 (d + 1) m Q := by
  exact w_retv hm211 ⟨⟨_, _, rfl⟩, rfl⟩ rfl h
theorem v_X6_fetch_51_47 {d : Nat} {x1 : Int32} {m : dM} {Q : Int32 → dM → Prop} (h : ((x1.toInt < 0 → j_X6_fetch_51_47_20 (d + 1) m Q) ∧ (0 ≤ x1.toInt → ((3 ≤ x1.toInt → j_X6_fetch_51_47_20 (d + 1) m Q) ∧ (x1.toInt < 3 → c_X11_has d (m.1 51 4) x1 m (fun r1 m1 => ((r1.toInt ≠ 0 → c_X7_readFrom_47_53 d (x1 * (33 : Int32)) m1 (fun m2 => c_X6_clear_51 d m2 (fun m3 => Q (1 : Int32) m3))) ∧ (r1.toInt = 0 → j_X6_fetch_51_47_20 (d + 1) m1 Q)))))))) : c_X6_fetch_51_47 (d + 1) x1 m Q := by
  refine w_iload_n (q := 1) hm206 ⟨⟨_, _, rfl⟩, rfl⟩ rfl ?_
  refine w_if_lt (q := 4) (X := x1.toInt) hm206 ⟨⟨_, _, rfl⟩, rfl⟩ rfl (fun hc => ?_) (fun hc => ?_)
  · have h := h.1 hc
    exact Wp.wk [false, false, false] h
  · have h := h.2 hc
    refine w_iload_n (q := 5) hm206 ⟨⟨_, _, rfl⟩, rfl⟩ rfl ?_
    refine w_iconst (q := 6) hm206 ⟨⟨_, _, rfl⟩, rfl⟩ iconst_3 ?_
    refine w_icmp_ge (q := 9) (X := x1.toInt) (Y := 3) hm206 ⟨⟨_, _, rfl⟩, rfl⟩ rfl (by decide) (fun hc => ?_) (fun hc => ?_)
    · have h := h.1 hc
      exact Wp.wk [false, false, false] h
    · have h := h.2 hc
      refine w_aload_n (q := 10) hm206 ⟨⟨_, _, rfl⟩, rfl⟩ rfl ?_
      refine w_getf (q := 13) (v := (m.1 51 4)) hm206 ⟨⟨_, _, rfl⟩, rfl⟩ rfl rfl ?_
      refine w_iload_n (q := 14) hm206 ⟨⟨_, _, rfl⟩, rfl⟩ rfl ?_
      refine w_call (q := 17) (n := 0) (vs := [.inl (m.1 51 4), .inl x1]) (rest := []) (la := [oI (m.1 51 4), oI x1]) hm206 ⟨⟨_, _, rfl⟩, rfl⟩ rfl rfl rfl rfl hm283 rfl rfl (fun hz => absurd hz (by decide)) rfl (Wp.mono h ?_)
      rintro _ m1 ⟨r1, rfl, h⟩
      change Wp _ _ 17 _ [.inl r1] _ _
      refine w_if_ne (q := 20) (X := r1.toInt) hm206 ⟨⟨_, _, rfl⟩, rfl⟩ rfl (fun hc => ?_) (fun hc => ?_)
      · have h := h.1 hc
        refine w_aload_n (q := 23) hm206 ⟨⟨_, _, rfl⟩, rfl⟩ rfl ?_
        refine w_aload_n (q := 24) hm206 ⟨⟨_, _, rfl⟩, rfl⟩ rfl ?_
        refine w_getr (q := 27) hm206 ⟨⟨_, _, rfl⟩, rfl⟩ rfl ?_
        refine w_iload_n (q := 28) hm206 ⟨⟨_, _, rfl⟩, rfl⟩ rfl ?_
        refine w_bipush (q := 30) hm206 ⟨⟨_, _, rfl⟩, rfl⟩ bipush_33 ?_
        refine w_imul (q := 31) hm206 ⟨⟨_, _, rfl⟩, rfl⟩ ?_
        refine w_call (q := 34) (n := 0) (vs := [.inr (.inr (some 47)), .inr (.inr (some 53)), .inl (x1 * (33 : Int32))]) (rest := []) (la := [oR 47, oR 53, oI (x1 * (33 : Int32))]) hm206 ⟨⟨_, _, rfl⟩, rfl⟩ rfl rfl rfl rfl hm211 rfl rfl (fun _ => ⟨_, _, rfl, rfl⟩) rfl (Wp.mono h ?_)
        rintro _ m2 ⟨rfl, h⟩
        change Wp _ _ 34 _ [] _ _
        refine w_aload_n (q := 35) hm206 ⟨⟨_, _, rfl⟩, rfl⟩ rfl ?_
        refine w_call (q := 38) (n := 0) (vs := [.inr (.inr (some 51))]) (rest := []) (la := [oR 51]) hm206 ⟨⟨_, _, rfl⟩, rfl⟩ rfl rfl rfl rfl hm201 rfl rfl (fun _ => ⟨_, _, rfl, rfl⟩) rfl (Wp.mono h ?_)
        rintro _ m3 ⟨rfl, h⟩
        change Wp _ _ 38 _ [] _ _
        refine w_iconst (q := 39) hm206 ⟨⟨_, _, rfl⟩, rfl⟩ iconst_1 ?_
        exact w_retz hm206 ⟨⟨_, _, rfl⟩, rfl⟩ rfl (by decide) h
      · have h := h.2 hc
        exact Wp.wk [false, false, false] h
theorem v_X6_fetch_51_47_20 {d : Nat} {m : dM} {Q : Int32 → dM → Prop} (h : Q (0 : Int32) m) : j_X6_fetch_51_47_20 (d + 1) m Q := by
  refine w_iconst (q := 21) hm206 ⟨⟨_, _, rfl⟩, rfl⟩ iconst_0 ?_
  exact w_retz hm206 ⟨⟨_, _, rfl⟩, rfl⟩ rfl (by decide) h
theorem v_X11_restore_0 {d : Nat} {x1 : Int32} {m : dM} {Q : Int32 → dM → Prop} (h : c_X6_fetch_51_47 d x1 m (fun r1 m1 => (r1 = 0 ∨ r1 = 1) ∧ Q r1 m1)) : c_X11_restore_0 (d + 1) x1 m Q := by
  refine w_aload_n (q := 1) hm280 ⟨⟨_, _, rfl⟩, rfl⟩ rfl ?_
  refine w_getr (q := 4) hm280 ⟨⟨_, _, rfl⟩, rfl⟩ rfl ?_
  refine w_iload_n (q := 5) hm280 ⟨⟨_, _, rfl⟩, rfl⟩ rfl ?_
  refine w_aload_n (q := 6) hm280 ⟨⟨_, _, rfl⟩, rfl⟩ rfl ?_
  refine w_getr (q := 9) hm280 ⟨⟨_, _, rfl⟩, rfl⟩ rfl ?_
  refine w_call (q := 12) (n := 0) (vs := [.inr (.inr (some 51)), .inl x1, .inr (.inr (some 47))]) (rest := []) (la := [oR 51, oI x1, oR 47]) hm280 ⟨⟨_, _, rfl⟩, rfl⟩ rfl rfl rfl rfl hm206 rfl rfl (fun _ => ⟨_, _, rfl, rfl⟩) rfl (Wp.mono h ?_)
  rintro _ m1 ⟨r1, rfl, h⟩
  change Wp _ _ 12 _ [.inl r1] _ _
  exact w_retz hm280 ⟨⟨_, _, rfl⟩, rfl⟩ rfl h.1 h.2
theorem v_X12_restore_70 {d : Nat} {x1 : Int32} {m : dM} {Q : Int32 → dM → Prop} (h : c_X12_in d x1 (0 : Int32) (2 : Int32) m (fun r1 m1 => ((r1.toInt = 0 → j_X12_restore_70_18 (d + 1) m1 Q) ∧ (r1.toInt ≠ 0 → ((0 ≤ x1.toInt ∧ x1.toInt < 3) ∧ (((m1.1 115 x1.toNatClampNeg).toInt ≠ 0 → j_X12_restore_70_22 (d + 1) x1 (0 : Int32) m1 Q) ∧ ((m1.1 115 x1.toNatClampNeg).toInt = 0 → j_X12_restore_70_18 (d + 1) m1 Q))))))) : c_X12_restore_70 (d + 1) x1 m Q := by
  refine w_iload_n (q := 1) hm112 ⟨⟨_, _, rfl⟩, rfl⟩ rfl ?_
  refine w_iconst (q := 2) hm112 ⟨⟨_, _, rfl⟩, rfl⟩ iconst_0 ?_
  refine w_iconst (q := 3) hm112 ⟨⟨_, _, rfl⟩, rfl⟩ iconst_2 ?_
  refine w_call (q := 6) (n := 0) (vs := [.inl x1, .inl (0 : Int32), .inl (2 : Int32)]) (rest := []) (la := [oI x1, oI (0 : Int32), oI (2 : Int32)]) hm112 ⟨⟨_, _, rfl⟩, rfl⟩ rfl rfl rfl rfl hm36 rfl rfl (fun hz => absurd hz (by decide)) rfl (Wp.mono h ?_)
  rintro _ m1 ⟨r1, rfl, h⟩
  change Wp _ _ 6 _ [.inl r1] _ _
  refine w_if_eq (q := 9) (X := r1.toInt) hm112 ⟨⟨_, _, rfl⟩, rfl⟩ rfl (fun hc => ?_) (fun hc => ?_)
  · have h := h.1 hc
    exact Wp.wk [false, false, false] h
  · have h := h.2 hc
    refine w_aload_n (q := 10) hm112 ⟨⟨_, _, rfl⟩, rfl⟩ rfl ?_
    refine w_getr (q := 13) hm112 ⟨⟨_, _, rfl⟩, rfl⟩ rfl ?_
    refine w_iload_n (q := 14) hm112 ⟨⟨_, _, rfl⟩, rfl⟩ rfl ?_
    obtain ⟨hi, h⟩ := h
    refine w_zald (q := 15) (v := (m1.1 115 x1.toNatClampNeg)) hm112 ⟨⟨_, _, rfl⟩, rfl⟩ rfl hi rfl rfl ?_
    refine w_if_ne (q := 18) (X := (m1.1 115 x1.toNatClampNeg).toInt) hm112 ⟨⟨_, _, rfl⟩, rfl⟩ rfl (fun hc => ?_) (fun hc => ?_)
    · have h := h.1 hc
      refine w_iconst (q := 21) hm112 ⟨⟨_, _, rfl⟩, rfl⟩ iconst_0 ?_
      refine w_istore_n (q := 22) (l' := [oR 70, oI x1, oI (0 : Int32)]) hm112 ⟨⟨_, _, rfl⟩, rfl⟩ rfl rfl rfl ?_
      exact h
    · have h := h.2 hc
      exact Wp.wk [false, false, false] h
theorem v_X12_restore_70_18 {d : Nat} {m : dM} {Q : Int32 → dM → Prop} (h : Q (0 : Int32) m) : j_X12_restore_70_18 (d + 1) m Q := by
  refine w_iconst (q := 19) hm112 ⟨⟨_, _, rfl⟩, rfl⟩ iconst_0 ?_
  exact w_retz hm112 ⟨⟨_, _, rfl⟩, rfl⟩ rfl (by decide) h
theorem v_X12_restore_70_22 {d : Nat} {x1 : Int32} {x2 : Int32} {m : dM} {Q : Int32 → dM → Prop} (h : ((58 ≤ x2.toInt → Q (1 : Int32) (dSet m 70 61 (0 : Int32))) ∧ (x2.toInt < 58 → ((0 ≤ (((58 : Int32) * x1) + x2).toInt ∧ (((58 : Int32) * x1) + x2).toInt < 174) ∧ ((0 ≤ x2.toInt ∧ x2.toInt < 58) ∧ j_X12_restore_70_22 (d + 1) x1 (x2 + (1 : Int32)) (dSet m 107 x2.toNatClampNeg (m.1 116 (((58 : Int32) * x1) + x2).toNatClampNeg)) Q))))) : j_X12_restore_70_22 (d + 1) x1 x2 m Q := by
  refine w_iload_n (q := 23) hm112 ⟨⟨_, _, rfl⟩, rfl⟩ rfl ?_
  refine w_bipush (q := 25) hm112 ⟨⟨_, _, rfl⟩, rfl⟩ bipush_58 ?_
  refine w_icmp_ge (q := 28) (X := x2.toInt) (Y := 58) hm112 ⟨⟨_, _, rfl⟩, rfl⟩ rfl (by decide) (fun hc => ?_) (fun hc => ?_)
  · have h := h.1 hc
    refine w_aload_n (q := 52) hm112 ⟨⟨_, _, rfl⟩, rfl⟩ rfl ?_
    refine w_iconst (q := 53) hm112 ⟨⟨_, _, rfl⟩, rfl⟩ iconst_0 ?_
    refine w_putf (q := 56) hm112 ⟨⟨_, _, rfl⟩, rfl⟩ rfl rfl rfl ?_
    refine w_iconst (q := 57) hm112 ⟨⟨_, _, rfl⟩, rfl⟩ iconst_1 ?_
    exact w_retz hm112 ⟨⟨_, _, rfl⟩, rfl⟩ rfl (by decide) h
  · have h := h.2 hc
    refine w_aload_n (q := 29) hm112 ⟨⟨_, _, rfl⟩, rfl⟩ rfl ?_
    refine w_getr (q := 32) hm112 ⟨⟨_, _, rfl⟩, rfl⟩ rfl ?_
    refine w_iload_n (q := 33) hm112 ⟨⟨_, _, rfl⟩, rfl⟩ rfl ?_
    refine w_aload_n (q := 34) hm112 ⟨⟨_, _, rfl⟩, rfl⟩ rfl ?_
    refine w_getr (q := 37) hm112 ⟨⟨_, _, rfl⟩, rfl⟩ rfl ?_
    refine w_bipush (q := 39) hm112 ⟨⟨_, _, rfl⟩, rfl⟩ bipush_58 ?_
    refine w_iload_n (q := 40) hm112 ⟨⟨_, _, rfl⟩, rfl⟩ rfl ?_
    refine w_imul (q := 41) hm112 ⟨⟨_, _, rfl⟩, rfl⟩ ?_
    refine w_iload_n (q := 42) hm112 ⟨⟨_, _, rfl⟩, rfl⟩ rfl ?_
    refine w_iadd (q := 43) hm112 ⟨⟨_, _, rfl⟩, rfl⟩ ?_
    obtain ⟨hi, h⟩ := h
    refine w_iald (q := 44) (v := (m.1 116 (((58 : Int32) * x1) + x2).toNatClampNeg)) hm112 ⟨⟨_, _, rfl⟩, rfl⟩ rfl hi rfl rfl ?_
    obtain ⟨hi, h⟩ := h
    refine w_iast (q := 45) hm112 ⟨⟨_, _, rfl⟩, rfl⟩ rfl hi rfl rfl ?_
    refine w_iinc (q := 48) (l' := [oR 70, oI x1, oI (x2 + (1 : Int32))]) hm112 ⟨⟨_, _, rfl⟩, rfl⟩ rfl rfl rfl iconst_1 rfl ?_
    refine w_goto (q := 22) hm112 ⟨_, _, rfl⟩ ?_
    exact h
theorem v_X11_wholeRatings_0 {d : Nat} {m : dM} {Q : Int32 → dM → Prop} (h : j_X11_wholeRatings_0_4 (d + 1) (0 : Int32) (0 : Int32) m Q) : c_X11_wholeRatings_0 (d + 1) m Q := by
  refine w_iconst (q := 1) hm282 ⟨⟨_, _, rfl⟩, rfl⟩ iconst_0 ?_
  refine w_istore_n (q := 2) (l' := [oR 0, oI (0 : Int32), none]) hm282 ⟨⟨_, _, rfl⟩, rfl⟩ rfl rfl rfl ?_
  refine w_iconst (q := 3) hm282 ⟨⟨_, _, rfl⟩, rfl⟩ iconst_0 ?_
  refine w_istore_n (q := 4) (l' := [oR 0, oI (0 : Int32), oI (0 : Int32)]) hm282 ⟨⟨_, _, rfl⟩, rfl⟩ rfl rfl rfl ?_
  exact h
theorem v_X11_wholeRatings_0_4 {d : Nat} {x1 : Int32} {x2 : Int32} {m : dM} {Q : Int32 → dM → Prop} (h : (((m.1 2 1).toInt ≤ x2.toInt → Q x1 m) ∧ (x2.toInt < (m.1 2 1).toInt → c_X11_has d (m.1 47 3) x2 m (fun r1 m1 => ((r1.toInt = 0 → ((0 ≤ x2.toInt ∧ x2.toInt < 10) ∧ j_X11_wholeRatings_0_4 (d + 1) (x1 + (m1.1 48 x2.toNatClampNeg)) (x2 + (1 : Int32)) m1 Q)) ∧ (r1.toInt ≠ 0 → j_X11_wholeRatings_0_4 (d + 1) (x1 + (0 : Int32)) (x2 + (1 : Int32)) m1 Q)))))) : j_X11_wholeRatings_0_4 (d + 1) x1 x2 m Q := by
  refine w_iload_n (q := 5) hm282 ⟨⟨_, _, rfl⟩, rfl⟩ rfl ?_
  refine w_aload_n (q := 6) hm282 ⟨⟨_, _, rfl⟩, rfl⟩ rfl ?_
  refine w_getr (q := 9) hm282 ⟨⟨_, _, rfl⟩, rfl⟩ rfl ?_
  refine w_getf (q := 12) (v := (m.1 2 1)) hm282 ⟨⟨_, _, rfl⟩, rfl⟩ rfl rfl ?_
  refine w_icmp_ge (q := 15) (X := x2.toInt) (Y := (m.1 2 1).toInt) hm282 ⟨⟨_, _, rfl⟩, rfl⟩ rfl rfl (fun hc => ?_) (fun hc => ?_)
  · have h := h.1 hc
    refine w_iload_n (q := 52) hm282 ⟨⟨_, _, rfl⟩, rfl⟩ rfl ?_
    exact w_reti hm282 ⟨⟨_, _, rfl⟩, rfl⟩ rfl h
  · have h := h.2 hc
    refine w_iload_n (q := 16) hm282 ⟨⟨_, _, rfl⟩, rfl⟩ rfl ?_
    refine w_aload_n (q := 17) hm282 ⟨⟨_, _, rfl⟩, rfl⟩ rfl ?_
    refine w_getr (q := 20) hm282 ⟨⟨_, _, rfl⟩, rfl⟩ rfl ?_
    refine w_getf (q := 23) (v := (m.1 47 3)) hm282 ⟨⟨_, _, rfl⟩, rfl⟩ rfl rfl ?_
    refine w_iload_n (q := 24) hm282 ⟨⟨_, _, rfl⟩, rfl⟩ rfl ?_
    refine w_call (q := 27) (n := 0) (vs := [.inl (m.1 47 3), .inl x2]) (rest := [.inl x1]) (la := [oI (m.1 47 3), oI x2]) hm282 ⟨⟨_, _, rfl⟩, rfl⟩ rfl rfl rfl rfl hm283 rfl rfl (fun hz => absurd hz (by decide)) rfl (Wp.mono h ?_)
    rintro _ m1 ⟨r1, rfl, h⟩
    change Wp _ _ 27 _ [.inl r1, .inl x1] _ _
    refine w_if_eq (q := 30) (X := r1.toInt) hm282 ⟨⟨_, _, rfl⟩, rfl⟩ rfl (fun hc => ?_) (fun hc => ?_)
    · have h := h.1 hc
      refine w_aload_n (q := 35) hm282 ⟨⟨_, _, rfl⟩, rfl⟩ rfl ?_
      refine w_getr (q := 38) hm282 ⟨⟨_, _, rfl⟩, rfl⟩ rfl ?_
      refine w_getr (q := 41) hm282 ⟨⟨_, _, rfl⟩, rfl⟩ rfl ?_
      refine w_iload_n (q := 42) hm282 ⟨⟨_, _, rfl⟩, rfl⟩ rfl ?_
      obtain ⟨hi, h⟩ := h
      refine w_iald (q := 43) (v := (m1.1 48 x2.toNatClampNeg)) hm282 ⟨⟨_, _, rfl⟩, rfl⟩ rfl hi rfl rfl ?_
      refine w_iadd (q := 44) hm282 ⟨⟨_, _, rfl⟩, rfl⟩ ?_
      refine w_istore_n (q := 45) (l' := [oR 0, oI (x1 + (m1.1 48 x2.toNatClampNeg)), oI x2]) hm282 ⟨⟨_, _, rfl⟩, rfl⟩ rfl rfl rfl ?_
      refine w_iinc (q := 48) (l' := [oR 0, oI (x1 + (m1.1 48 x2.toNatClampNeg)), oI (x2 + (1 : Int32))]) hm282 ⟨⟨_, _, rfl⟩, rfl⟩ rfl rfl rfl iconst_1 rfl ?_
      refine w_goto (q := 4) hm282 ⟨_, _, rfl⟩ ?_
      exact h
    · have h := h.2 hc
      refine w_iconst (q := 31) hm282 ⟨⟨_, _, rfl⟩, rfl⟩ iconst_0 ?_
      refine w_goto (q := 43) hm282 ⟨_, _, rfl⟩ ?_
      refine w_iadd (q := 44) hm282 ⟨⟨_, _, rfl⟩, rfl⟩ ?_
      refine w_istore_n (q := 45) (l' := [oR 0, oI (x1 + (0 : Int32)), oI x2]) hm282 ⟨⟨_, _, rfl⟩, rfl⟩ rfl rfl rfl ?_
      refine w_iinc (q := 48) (l' := [oR 0, oI (x1 + (0 : Int32)), oI (x2 + (1 : Int32))]) hm282 ⟨⟨_, _, rfl⟩, rfl⟩ rfl rfl rfl iconst_1 rfl ?_
      refine w_goto (q := 4) hm282 ⟨_, _, rfl⟩ ?_
      exact h
theorem v_X11_count_0 {d : Nat} {x1 : Int32} {m : dM} {Q : Int32 → dM → Prop} (h : ((x1.toInt = 0 → Q (m.1 2 0) m) ∧ (x1.toInt = 1 → Q (m.1 2 1) m) ∧ (x1.toInt = 2 → Q (m.1 2 2) m) ∧ (x1.toInt = 3 → Q (m.1 47 0) m) ∧ (x1.toInt = 4 → Q (m.1 47 1) m) ∧ (x1.toInt = 5 → Q (m.1 47 2) m) ∧ (x1.toInt = 6 → Q (m.1 47 3) m) ∧ (x1.toInt = 7 → c_X3_litWithout_2 d (m.1 47 3) m (fun r1 m1 => Q r1 m1)) ∧ (x1.toInt = 8 → c_X0_usesNow_54_47 d m (fun r2 m2 => Q r2 m2)) ∧ (x1.toInt = 9 → Q (m.1 0 1) m) ∧ (x1.toInt = 10 → Q (m.1 51 3) m) ∧ (x1.toInt = 11 → Q (m.1 67 3) m) ∧ (x1.toInt = 12 → c_J6_bitCount d (m.1 51 4) m (fun r3 m3 => Q r3 m3)) ∧ (x1.toInt = 13 → c_X0_isSurge_54 d (m.1 2 6) (m.1 47 0) m (fun r4 m4 => ((r4.toInt = 0 → Q (0 : Int32) m4) ∧ (r4.toInt ≠ 0 → Q (1 : Int32) m4)))) ∧ (x1.toInt = 14 → Q (m.1 47 4) m) ∧ (x1.toInt = 15 → c_X11_wholeRatings_0 d m (fun r5 m5 => Q r5 m5)) ∧ (x1.toInt < 0 ∨ 15 < x1.toInt → Q (-1 : Int32) m))) : c_X11_count_0 (d + 1) x1 m Q := by
  refine w_iload_n (q := 1) hm281 ⟨⟨_, _, rfl⟩, rfl⟩ rfl ?_
  refine w_tsw (X := x1.toInt) hm281 ⟨_, _, rfl⟩ (by decide) (by decide) rfl ((And.intro (fun hc => ?_) (And.intro (fun hc => ?_) (And.intro (fun hc => ?_) (And.intro (fun hc => ?_) (And.intro (fun hc => ?_) (And.intro (fun hc => ?_) (And.intro (fun hc => ?_) (And.intro (fun hc => ?_) (And.intro (fun hc => ?_) (And.intro (fun hc => ?_) (And.intro (fun hc => ?_) (And.intro (fun hc => ?_) (And.intro (fun hc => ?_) (And.intro (fun hc => ?_) (And.intro (fun hc => ?_) (And.intro (fun hc => ?_) trivial))))))))))))))))) (fun hc => ?_)
  · have h := (h.1) hc
    change Wp _ _ 80 _ _ _ _
    refine w_aload_n (q := 81) hm281 ⟨⟨_, _, rfl⟩, rfl⟩ rfl ?_
    refine w_getr (q := 84) hm281 ⟨⟨_, _, rfl⟩, rfl⟩ rfl ?_
    refine w_getf (q := 87) (v := (m.1 2 0)) hm281 ⟨⟨_, _, rfl⟩, rfl⟩ rfl rfl ?_
    exact w_reti hm281 ⟨⟨_, _, rfl⟩, rfl⟩ rfl h
  · have h := (h.2.1) hc
    change Wp _ _ 88 _ _ _ _
    refine w_aload_n (q := 89) hm281 ⟨⟨_, _, rfl⟩, rfl⟩ rfl ?_
    refine w_getr (q := 92) hm281 ⟨⟨_, _, rfl⟩, rfl⟩ rfl ?_
    refine w_getf (q := 95) (v := (m.1 2 1)) hm281 ⟨⟨_, _, rfl⟩, rfl⟩ rfl rfl ?_
    exact w_reti hm281 ⟨⟨_, _, rfl⟩, rfl⟩ rfl h
  · have h := (h.2.2.1) hc
    change Wp _ _ 96 _ _ _ _
    refine w_aload_n (q := 97) hm281 ⟨⟨_, _, rfl⟩, rfl⟩ rfl ?_
    refine w_getr (q := 100) hm281 ⟨⟨_, _, rfl⟩, rfl⟩ rfl ?_
    refine w_getf (q := 103) (v := (m.1 2 2)) hm281 ⟨⟨_, _, rfl⟩, rfl⟩ rfl rfl ?_
    exact w_reti hm281 ⟨⟨_, _, rfl⟩, rfl⟩ rfl h
  · have h := (h.2.2.2.1) hc
    change Wp _ _ 104 _ _ _ _
    refine w_aload_n (q := 105) hm281 ⟨⟨_, _, rfl⟩, rfl⟩ rfl ?_
    refine w_getr (q := 108) hm281 ⟨⟨_, _, rfl⟩, rfl⟩ rfl ?_
    refine w_getf (q := 111) (v := (m.1 47 0)) hm281 ⟨⟨_, _, rfl⟩, rfl⟩ rfl rfl ?_
    exact w_reti hm281 ⟨⟨_, _, rfl⟩, rfl⟩ rfl h
  · have h := (h.2.2.2.2.1) hc
    change Wp _ _ 112 _ _ _ _
    refine w_aload_n (q := 113) hm281 ⟨⟨_, _, rfl⟩, rfl⟩ rfl ?_
    refine w_getr (q := 116) hm281 ⟨⟨_, _, rfl⟩, rfl⟩ rfl ?_
    refine w_getf (q := 119) (v := (m.1 47 1)) hm281 ⟨⟨_, _, rfl⟩, rfl⟩ rfl rfl ?_
    exact w_reti hm281 ⟨⟨_, _, rfl⟩, rfl⟩ rfl h
  · have h := (h.2.2.2.2.2.1) hc
    change Wp _ _ 120 _ _ _ _
    refine w_aload_n (q := 121) hm281 ⟨⟨_, _, rfl⟩, rfl⟩ rfl ?_
    refine w_getr (q := 124) hm281 ⟨⟨_, _, rfl⟩, rfl⟩ rfl ?_
    refine w_getf (q := 127) (v := (m.1 47 2)) hm281 ⟨⟨_, _, rfl⟩, rfl⟩ rfl rfl ?_
    exact w_reti hm281 ⟨⟨_, _, rfl⟩, rfl⟩ rfl h
  · have h := (h.2.2.2.2.2.2.1) hc
    change Wp _ _ 128 _ _ _ _
    refine w_aload_n (q := 129) hm281 ⟨⟨_, _, rfl⟩, rfl⟩ rfl ?_
    refine w_getr (q := 132) hm281 ⟨⟨_, _, rfl⟩, rfl⟩ rfl ?_
    refine w_getf (q := 135) (v := (m.1 47 3)) hm281 ⟨⟨_, _, rfl⟩, rfl⟩ rfl rfl ?_
    exact w_reti hm281 ⟨⟨_, _, rfl⟩, rfl⟩ rfl h
  · have h := (h.2.2.2.2.2.2.2.1) hc
    change Wp _ _ 136 _ _ _ _
    refine w_aload_n (q := 137) hm281 ⟨⟨_, _, rfl⟩, rfl⟩ rfl ?_
    refine w_getr (q := 140) hm281 ⟨⟨_, _, rfl⟩, rfl⟩ rfl ?_
    refine w_aload_n (q := 141) hm281 ⟨⟨_, _, rfl⟩, rfl⟩ rfl ?_
    refine w_getr (q := 144) hm281 ⟨⟨_, _, rfl⟩, rfl⟩ rfl ?_
    refine w_getf (q := 147) (v := (m.1 47 3)) hm281 ⟨⟨_, _, rfl⟩, rfl⟩ rfl rfl ?_
    refine w_call (q := 150) (n := 5) (vs := [.inr (.inr (some 2)), .inl (m.1 47 3)]) (rest := []) (la := [oR 2, oI (m.1 47 3), none, none, none, none, none]) hm281 ⟨⟨_, _, rfl⟩, rfl⟩ rfl rfl rfl rfl hm174 rfl rfl (fun _ => ⟨_, _, rfl, rfl⟩) rfl (Wp.mono h ?_)
    rintro _ m1 ⟨r1, rfl, h⟩
    change Wp _ _ 150 _ [.inl r1] _ _
    exact w_reti hm281 ⟨⟨_, _, rfl⟩, rfl⟩ rfl h
  · have h := (h.2.2.2.2.2.2.2.2.1) hc
    change Wp _ _ 151 _ _ _ _
    refine w_aload_n (q := 152) hm281 ⟨⟨_, _, rfl⟩, rfl⟩ rfl ?_
    refine w_getr (q := 155) hm281 ⟨⟨_, _, rfl⟩, rfl⟩ rfl ?_
    refine w_aload_n (q := 156) hm281 ⟨⟨_, _, rfl⟩, rfl⟩ rfl ?_
    refine w_getr (q := 159) hm281 ⟨⟨_, _, rfl⟩, rfl⟩ rfl ?_
    refine w_call (q := 162) (n := 0) (vs := [.inr (.inr (some 54)), .inr (.inr (some 47))]) (rest := []) (la := [oR 54, oR 47]) hm281 ⟨⟨_, _, rfl⟩, rfl⟩ rfl rfl rfl rfl hm117 rfl rfl (fun _ => ⟨_, _, rfl, rfl⟩) rfl (Wp.mono h ?_)
    rintro _ m2 ⟨r2, rfl, h⟩
    change Wp _ _ 162 _ [.inl r2] _ _
    exact w_reti hm281 ⟨⟨_, _, rfl⟩, rfl⟩ rfl h
  · have h := (h.2.2.2.2.2.2.2.2.2.1) hc
    change Wp _ _ 163 _ _ _ _
    refine w_aload_n (q := 164) hm281 ⟨⟨_, _, rfl⟩, rfl⟩ rfl ?_
    refine w_getf (q := 167) (v := (m.1 0 1)) hm281 ⟨⟨_, _, rfl⟩, rfl⟩ rfl rfl ?_
    exact w_reti hm281 ⟨⟨_, _, rfl⟩, rfl⟩ rfl h
  · have h := (h.2.2.2.2.2.2.2.2.2.2.1) hc
    change Wp _ _ 168 _ _ _ _
    refine w_aload_n (q := 169) hm281 ⟨⟨_, _, rfl⟩, rfl⟩ rfl ?_
    refine w_getr (q := 172) hm281 ⟨⟨_, _, rfl⟩, rfl⟩ rfl ?_
    refine w_getf (q := 175) (v := (m.1 51 3)) hm281 ⟨⟨_, _, rfl⟩, rfl⟩ rfl rfl ?_
    exact w_reti hm281 ⟨⟨_, _, rfl⟩, rfl⟩ rfl h
  · have h := (h.2.2.2.2.2.2.2.2.2.2.2.1) hc
    change Wp _ _ 176 _ _ _ _
    refine w_aload_n (q := 177) hm281 ⟨⟨_, _, rfl⟩, rfl⟩ rfl ?_
    refine w_getr (q := 180) hm281 ⟨⟨_, _, rfl⟩, rfl⟩ rfl ?_
    refine w_getf (q := 183) (v := (m.1 67 3)) hm281 ⟨⟨_, _, rfl⟩, rfl⟩ rfl rfl ?_
    exact w_reti hm281 ⟨⟨_, _, rfl⟩, rfl⟩ rfl h
  · have h := (h.2.2.2.2.2.2.2.2.2.2.2.2.1) hc
    change Wp _ _ 184 _ _ _ _
    refine w_aload_n (q := 185) hm281 ⟨⟨_, _, rfl⟩, rfl⟩ rfl ?_
    refine w_getr (q := 188) hm281 ⟨⟨_, _, rfl⟩, rfl⟩ rfl ?_
    refine w_getf (q := 191) (v := (m.1 51 4)) hm281 ⟨⟨_, _, rfl⟩, rfl⟩ rfl rfl ?_
    refine w_call (q := 194) (n := 0) (vs := [.inl (m.1 51 4)]) (rest := []) (la := [oI (m.1 51 4)]) hm281 ⟨⟨_, _, rfl⟩, rfl⟩ rfl rfl rfl rfl hm285 rfl rfl (fun hz => absurd hz (by decide)) rfl (Wp.mono h ?_)
    rintro _ m3 ⟨r3, rfl, h⟩
    change Wp _ _ 194 _ [.inl r3] _ _
    exact w_reti hm281 ⟨⟨_, _, rfl⟩, rfl⟩ rfl h
  · have h := (h.2.2.2.2.2.2.2.2.2.2.2.2.2.1) hc
    change Wp _ _ 195 _ _ _ _
    refine w_aload_n (q := 196) hm281 ⟨⟨_, _, rfl⟩, rfl⟩ rfl ?_
    refine w_getr (q := 199) hm281 ⟨⟨_, _, rfl⟩, rfl⟩ rfl ?_
    refine w_aload_n (q := 200) hm281 ⟨⟨_, _, rfl⟩, rfl⟩ rfl ?_
    refine w_getr (q := 203) hm281 ⟨⟨_, _, rfl⟩, rfl⟩ rfl ?_
    refine w_getf (q := 206) (v := (m.1 2 6)) hm281 ⟨⟨_, _, rfl⟩, rfl⟩ rfl rfl ?_
    refine w_aload_n (q := 207) hm281 ⟨⟨_, _, rfl⟩, rfl⟩ rfl ?_
    refine w_getr (q := 210) hm281 ⟨⟨_, _, rfl⟩, rfl⟩ rfl ?_
    refine w_getf (q := 213) (v := (m.1 47 0)) hm281 ⟨⟨_, _, rfl⟩, rfl⟩ rfl rfl ?_
    refine w_call (q := 216) (n := 0) (vs := [.inr (.inr (some 54)), .inl (m.1 2 6), .inl (m.1 47 0)]) (rest := []) (la := [oR 54, oI (m.1 2 6), oI (m.1 47 0)]) hm281 ⟨⟨_, _, rfl⟩, rfl⟩ rfl rfl rfl rfl hm130 rfl rfl (fun _ => ⟨_, _, rfl, rfl⟩) rfl (Wp.mono h ?_)
    rintro _ m4 ⟨r4, rfl, h⟩
    change Wp _ _ 216 _ [.inl r4] _ _
    refine w_if_eq (q := 219) (X := r4.toInt) hm281 ⟨⟨_, _, rfl⟩, rfl⟩ rfl (fun hc => ?_) (fun hc => ?_)
    · have h := h.1 hc
      refine w_iconst (q := 224) hm281 ⟨⟨_, _, rfl⟩, rfl⟩ iconst_0 ?_
      exact w_reti hm281 ⟨⟨_, _, rfl⟩, rfl⟩ rfl h
    · have h := h.2 hc
      refine w_iconst (q := 220) hm281 ⟨⟨_, _, rfl⟩, rfl⟩ iconst_1 ?_
      refine w_goto (q := 224) hm281 ⟨_, _, rfl⟩ ?_
      exact w_reti hm281 ⟨⟨_, _, rfl⟩, rfl⟩ rfl h
  · have h := (h.2.2.2.2.2.2.2.2.2.2.2.2.2.2.1) hc
    change Wp _ _ 225 _ _ _ _
    refine w_aload_n (q := 226) hm281 ⟨⟨_, _, rfl⟩, rfl⟩ rfl ?_
    refine w_getr (q := 229) hm281 ⟨⟨_, _, rfl⟩, rfl⟩ rfl ?_
    refine w_getf (q := 232) (v := (m.1 47 4)) hm281 ⟨⟨_, _, rfl⟩, rfl⟩ rfl rfl ?_
    exact w_reti hm281 ⟨⟨_, _, rfl⟩, rfl⟩ rfl h
  · have h := (h.2.2.2.2.2.2.2.2.2.2.2.2.2.2.2.1) hc
    change Wp _ _ 233 _ _ _ _
    refine w_aload_n (q := 234) hm281 ⟨⟨_, _, rfl⟩, rfl⟩ rfl ?_
    refine w_call (q := 237) (n := 2) (vs := [.inr (.inr (some 0))]) (rest := []) (la := [oR 0, none, none]) hm281 ⟨⟨_, _, rfl⟩, rfl⟩ rfl rfl rfl rfl hm282 rfl rfl (fun _ => ⟨_, _, rfl, rfl⟩) rfl (Wp.mono h ?_)
    rintro _ m5 ⟨r5, rfl, h⟩
    change Wp _ _ 237 _ [.inl r5] _ _
    exact w_reti hm281 ⟨⟨_, _, rfl⟩, rfl⟩ rfl h
  · have h := (h.2.2.2.2.2.2.2.2.2.2.2.2.2.2.2.2) hc
    change Wp _ _ 238 _ _ _ _
    refine w_iconst (q := 239) hm281 ⟨⟨_, _, rfl⟩, rfl⟩ iconst_m1 ?_
    exact w_reti hm281 ⟨⟨_, _, rfl⟩, rfl⟩ rfl h
theorem v_X12_count_70 {d : Nat} {x1 : Int32} {m : dM} {Q : Int32 → dM → Prop} (h : c_X12_copies_70 d m (fun m1 => ((x1.toInt = 0 → ((0 ≤ (m1.1 70 18).toInt ∧ (m1.1 70 18).toInt < 2) ∧ Q (m1.1 80 (m1.1 70 18).toNatClampNeg) m1)) ∧ (x1.toInt = 1 → ((0 ≤ (m1.1 70 18).toInt ∧ (m1.1 70 18).toInt < 2) ∧ Q (m1.1 82 (m1.1 70 18).toNatClampNeg) m1)) ∧ (x1.toInt = 2 → ((0 ≤ (m1.1 70 18).toInt ∧ (m1.1 70 18).toInt < 2) ∧ Q (m1.1 86 (m1.1 70 18).toNatClampNeg) m1)) ∧ (x1.toInt = 3 → Q (m1.1 108 55) m1) ∧ (x1.toInt = 4 → Q (m1.1 108 56) m1) ∧ (x1.toInt = 5 → Q (m1.1 108 57) m1) ∧ (x1.toInt = 6 → c_X12_goneBits_70 d m1 (fun r2 m2 => Q r2 m2)) ∧ (x1.toInt = 7 → c_X12_litBits_70 d m1 (fun r3 m3 => Q r3 m3)) ∧ (x1.toInt = 8 → c_X12_onNow_70 d m1 (fun r4 m4 => Q r4 m4)) ∧ (x1.toInt = 9 → Q (m1.1 70 2) m1) ∧ (x1.toInt = 10 → Q (m1.1 70 61) m1) ∧ (x1.toInt = 11 → Q (m1.1 70 63) m1) ∧ (x1.toInt = 12 → (((m1.1 115 0).toInt = 0 → (((m1.1 115 1).toInt = 0 → (((m1.1 115 2).toInt = 0 → Q (((0 : Int32) + (0 : Int32)) + (0 : Int32)) m1) ∧ ((m1.1 115 2).toInt ≠ 0 → Q (((0 : Int32) + (0 : Int32)) + (1 : Int32)) m1))) ∧ ((m1.1 115 1).toInt ≠ 0 → (((m1.1 115 2).toInt = 0 → Q (((0 : Int32) + (1 : Int32)) + (0 : Int32)) m1) ∧ ((m1.1 115 2).toInt ≠ 0 → Q (((0 : Int32) + (1 : Int32)) + (1 : Int32)) m1))))) ∧ ((m1.1 115 0).toInt ≠ 0 → (((m1.1 115 1).toInt = 0 → (((m1.1 115 2).toInt = 0 → Q (((1 : Int32) + (0 : Int32)) + (0 : Int32)) m1) ∧ ((m1.1 115 2).toInt ≠ 0 → Q (((1 : Int32) + (0 : Int32)) + (1 : Int32)) m1))) ∧ ((m1.1 115 1).toInt ≠ 0 → (((m1.1 115 2).toInt = 0 → Q (((1 : Int32) + (1 : Int32)) + (0 : Int32)) m1) ∧ ((m1.1 115 2).toInt ≠ 0 → Q (((1 : Int32) + (1 : Int32)) + (1 : Int32)) m1))))))) ∧ (x1.toInt = 13 → c_X12_isSurge_70 d m1 (fun r5 m5 => ((r5.toInt = 0 → Q (0 : Int32) m5) ∧ (r5.toInt ≠ 0 → Q (1 : Int32) m5)))) ∧ (x1.toInt = 14 → j_X12_count_70_228 (d + 1) (0 : Int32) (0 : Int32) m1 Q) ∧ (x1.toInt = 15 → j_X12_count_70_265 (d + 1) (0 : Int32) (0 : Int32) m1 Q) ∧ (x1.toInt < 0 ∨ 15 < x1.toInt → Q (-1 : Int32) m1)))) : c_X12_count_70 (d + 1) x1 m Q := by
  refine w_aload_n (q := 1) hm113 ⟨⟨_, _, rfl⟩, rfl⟩ rfl ?_
  refine w_call (q := 4) (n := 1) (vs := [.inr (.inr (some 70))]) (rest := []) (la := [oR 70, none]) hm113 ⟨⟨_, _, rfl⟩, rfl⟩ rfl rfl rfl rfl hm44 rfl rfl (fun _ => ⟨_, _, rfl, rfl⟩) rfl (Wp.mono h ?_)
  rintro _ m1 ⟨rfl, h⟩
  change Wp _ _ 4 _ [] _ _
  refine w_iconst (q := 5) hm113 ⟨⟨_, _, rfl⟩, rfl⟩ iconst_0 ?_
  refine w_istore_n (q := 6) (l' := [oR 70, oI x1, oI (0 : Int32), none]) hm113 ⟨⟨_, _, rfl⟩, rfl⟩ rfl rfl rfl ?_
  refine w_iload_n (q := 7) hm113 ⟨⟨_, _, rfl⟩, rfl⟩ rfl ?_
  refine w_tsw (X := x1.toInt) hm113 ⟨_, _, rfl⟩ (by decide) (by decide) rfl ((And.intro (fun hc => ?_) (And.intro (fun hc => ?_) (And.intro (fun hc => ?_) (And.intro (fun hc => ?_) (And.intro (fun hc => ?_) (And.intro (fun hc => ?_) (And.intro (fun hc => ?_) (And.intro (fun hc => ?_) (And.intro (fun hc => ?_) (And.intro (fun hc => ?_) (And.intro (fun hc => ?_) (And.intro (fun hc => ?_) (And.intro (fun hc => ?_) (And.intro (fun hc => ?_) (And.intro (fun hc => ?_) (And.intro (fun hc => ?_) trivial))))))))))))))))) (fun hc => ?_)
  · have h := (h.1) hc
    change Wp _ _ 84 _ _ _ _
    refine w_aload_n (q := 85) hm113 ⟨⟨_, _, rfl⟩, rfl⟩ rfl ?_
    refine w_getr (q := 88) hm113 ⟨⟨_, _, rfl⟩, rfl⟩ rfl ?_
    refine w_aload_n (q := 89) hm113 ⟨⟨_, _, rfl⟩, rfl⟩ rfl ?_
    refine w_getf (q := 92) (v := (m1.1 70 18)) hm113 ⟨⟨_, _, rfl⟩, rfl⟩ rfl rfl ?_
    obtain ⟨hi, h⟩ := h
    refine w_iald (q := 93) (v := (m1.1 80 (m1.1 70 18).toNatClampNeg)) hm113 ⟨⟨_, _, rfl⟩, rfl⟩ rfl hi rfl rfl ?_
    exact w_reti hm113 ⟨⟨_, _, rfl⟩, rfl⟩ rfl h
  · have h := (h.2.1) hc
    change Wp _ _ 94 _ _ _ _
    refine w_aload_n (q := 95) hm113 ⟨⟨_, _, rfl⟩, rfl⟩ rfl ?_
    refine w_getr (q := 98) hm113 ⟨⟨_, _, rfl⟩, rfl⟩ rfl ?_
    refine w_aload_n (q := 99) hm113 ⟨⟨_, _, rfl⟩, rfl⟩ rfl ?_
    refine w_getf (q := 102) (v := (m1.1 70 18)) hm113 ⟨⟨_, _, rfl⟩, rfl⟩ rfl rfl ?_
    obtain ⟨hi, h⟩ := h
    refine w_iald (q := 103) (v := (m1.1 82 (m1.1 70 18).toNatClampNeg)) hm113 ⟨⟨_, _, rfl⟩, rfl⟩ rfl hi rfl rfl ?_
    exact w_reti hm113 ⟨⟨_, _, rfl⟩, rfl⟩ rfl h
  · have h := (h.2.2.1) hc
    change Wp _ _ 104 _ _ _ _
    refine w_aload_n (q := 105) hm113 ⟨⟨_, _, rfl⟩, rfl⟩ rfl ?_
    refine w_getr (q := 108) hm113 ⟨⟨_, _, rfl⟩, rfl⟩ rfl ?_
    refine w_aload_n (q := 109) hm113 ⟨⟨_, _, rfl⟩, rfl⟩ rfl ?_
    refine w_getf (q := 112) (v := (m1.1 70 18)) hm113 ⟨⟨_, _, rfl⟩, rfl⟩ rfl rfl ?_
    obtain ⟨hi, h⟩ := h
    refine w_iald (q := 113) (v := (m1.1 86 (m1.1 70 18).toNatClampNeg)) hm113 ⟨⟨_, _, rfl⟩, rfl⟩ rfl hi rfl rfl ?_
    exact w_reti hm113 ⟨⟨_, _, rfl⟩, rfl⟩ rfl h
  · have h := (h.2.2.2.1) hc
    change Wp _ _ 114 _ _ _ _
    refine w_aload_n (q := 115) hm113 ⟨⟨_, _, rfl⟩, rfl⟩ rfl ?_
    refine w_getr (q := 118) hm113 ⟨⟨_, _, rfl⟩, rfl⟩ rfl ?_
    refine w_bipush (q := 120) hm113 ⟨⟨_, _, rfl⟩, rfl⟩ bipush_55 ?_
    refine w_iald (q := 121) (j := 55) (v := (m1.1 108 55)) hm113 ⟨⟨_, _, rfl⟩, rfl⟩ rfl (by decide) (by decide) rfl ?_
    exact w_reti hm113 ⟨⟨_, _, rfl⟩, rfl⟩ rfl h
  · have h := (h.2.2.2.2.1) hc
    change Wp _ _ 122 _ _ _ _
    refine w_aload_n (q := 123) hm113 ⟨⟨_, _, rfl⟩, rfl⟩ rfl ?_
    refine w_getr (q := 126) hm113 ⟨⟨_, _, rfl⟩, rfl⟩ rfl ?_
    refine w_bipush (q := 128) hm113 ⟨⟨_, _, rfl⟩, rfl⟩ bipush_56 ?_
    refine w_iald (q := 129) (j := 56) (v := (m1.1 108 56)) hm113 ⟨⟨_, _, rfl⟩, rfl⟩ rfl (by decide) (by decide) rfl ?_
    exact w_reti hm113 ⟨⟨_, _, rfl⟩, rfl⟩ rfl h
  · have h := (h.2.2.2.2.2.1) hc
    change Wp _ _ 130 _ _ _ _
    refine w_aload_n (q := 131) hm113 ⟨⟨_, _, rfl⟩, rfl⟩ rfl ?_
    refine w_getr (q := 134) hm113 ⟨⟨_, _, rfl⟩, rfl⟩ rfl ?_
    refine w_bipush (q := 136) hm113 ⟨⟨_, _, rfl⟩, rfl⟩ bipush_57 ?_
    refine w_iald (q := 137) (j := 57) (v := (m1.1 108 57)) hm113 ⟨⟨_, _, rfl⟩, rfl⟩ rfl (by decide) (by decide) rfl ?_
    exact w_reti hm113 ⟨⟨_, _, rfl⟩, rfl⟩ rfl h
  · have h := (h.2.2.2.2.2.2.1) hc
    change Wp _ _ 138 _ _ _ _
    refine w_aload_n (q := 139) hm113 ⟨⟨_, _, rfl⟩, rfl⟩ rfl ?_
    refine w_call (q := 142) (n := 2) (vs := [.inr (.inr (some 70))]) (rest := []) (la := [oR 70, none, none]) hm113 ⟨⟨_, _, rfl⟩, rfl⟩ rfl rfl rfl rfl hm93 rfl rfl (fun _ => ⟨_, _, rfl, rfl⟩) rfl (Wp.mono h ?_)
    rintro _ m2 ⟨r2, rfl, h⟩
    change Wp _ _ 142 _ [.inl r2] _ _
    exact w_reti hm113 ⟨⟨_, _, rfl⟩, rfl⟩ rfl h
  · have h := (h.2.2.2.2.2.2.2.1) hc
    change Wp _ _ 143 _ _ _ _
    refine w_aload_n (q := 144) hm113 ⟨⟨_, _, rfl⟩, rfl⟩ rfl ?_
    refine w_call (q := 147) (n := 2) (vs := [.inr (.inr (some 70))]) (rest := []) (la := [oR 70, none, none]) hm113 ⟨⟨_, _, rfl⟩, rfl⟩ rfl rfl rfl rfl hm52 rfl rfl (fun _ => ⟨_, _, rfl, rfl⟩) rfl (Wp.mono h ?_)
    rintro _ m3 ⟨r3, rfl, h⟩
    change Wp _ _ 147 _ [.inl r3] _ _
    exact w_reti hm113 ⟨⟨_, _, rfl⟩, rfl⟩ rfl h
  · have h := (h.2.2.2.2.2.2.2.2.1) hc
    change Wp _ _ 148 _ _ _ _
    refine w_aload_n (q := 149) hm113 ⟨⟨_, _, rfl⟩, rfl⟩ rfl ?_
    refine w_call (q := 152) (n := 0) (vs := [.inr (.inr (some 70))]) (rest := []) (la := [oR 70]) hm113 ⟨⟨_, _, rfl⟩, rfl⟩ rfl rfl rfl rfl hm56 rfl rfl (fun _ => ⟨_, _, rfl, rfl⟩) rfl (Wp.mono h ?_)
    rintro _ m4 ⟨r4, rfl, h⟩
    change Wp _ _ 152 _ [.inl r4] _ _
    exact w_reti hm113 ⟨⟨_, _, rfl⟩, rfl⟩ rfl h
  · have h := (h.2.2.2.2.2.2.2.2.2.1) hc
    change Wp _ _ 153 _ _ _ _
    refine w_aload_n (q := 154) hm113 ⟨⟨_, _, rfl⟩, rfl⟩ rfl ?_
    refine w_getf (q := 157) (v := (m1.1 70 2)) hm113 ⟨⟨_, _, rfl⟩, rfl⟩ rfl rfl ?_
    exact w_reti hm113 ⟨⟨_, _, rfl⟩, rfl⟩ rfl h
  · have h := (h.2.2.2.2.2.2.2.2.2.2.1) hc
    change Wp _ _ 158 _ _ _ _
    refine w_aload_n (q := 159) hm113 ⟨⟨_, _, rfl⟩, rfl⟩ rfl ?_
    refine w_getf (q := 162) (v := (m1.1 70 61)) hm113 ⟨⟨_, _, rfl⟩, rfl⟩ rfl rfl ?_
    exact w_reti hm113 ⟨⟨_, _, rfl⟩, rfl⟩ rfl h
  · have h := (h.2.2.2.2.2.2.2.2.2.2.2.1) hc
    change Wp _ _ 163 _ _ _ _
    refine w_aload_n (q := 164) hm113 ⟨⟨_, _, rfl⟩, rfl⟩ rfl ?_
    refine w_getf (q := 167) (v := (m1.1 70 63)) hm113 ⟨⟨_, _, rfl⟩, rfl⟩ rfl rfl ?_
    exact w_reti hm113 ⟨⟨_, _, rfl⟩, rfl⟩ rfl h
  · have h := (h.2.2.2.2.2.2.2.2.2.2.2.2.1) hc
    change Wp _ _ 168 _ _ _ _
    refine w_aload_n (q := 169) hm113 ⟨⟨_, _, rfl⟩, rfl⟩ rfl ?_
    refine w_getr (q := 172) hm113 ⟨⟨_, _, rfl⟩, rfl⟩ rfl ?_
    refine w_iconst (q := 173) hm113 ⟨⟨_, _, rfl⟩, rfl⟩ iconst_0 ?_
    refine w_zald (q := 174) (j := 0) (v := (m1.1 115 0)) hm113 ⟨⟨_, _, rfl⟩, rfl⟩ rfl (by decide) (by decide) rfl ?_
    refine w_if_eq (q := 177) (X := (m1.1 115 0).toInt) hm113 ⟨⟨_, _, rfl⟩, rfl⟩ rfl (fun hc => ?_) (fun hc => ?_)
    · have h := h.1 hc
      refine w_iconst (q := 182) hm113 ⟨⟨_, _, rfl⟩, rfl⟩ iconst_0 ?_
      refine w_aload_n (q := 183) hm113 ⟨⟨_, _, rfl⟩, rfl⟩ rfl ?_
      refine w_getr (q := 186) hm113 ⟨⟨_, _, rfl⟩, rfl⟩ rfl ?_
      refine w_iconst (q := 187) hm113 ⟨⟨_, _, rfl⟩, rfl⟩ iconst_1 ?_
      refine w_zald (q := 188) (j := 1) (v := (m1.1 115 1)) hm113 ⟨⟨_, _, rfl⟩, rfl⟩ rfl (by decide) (by decide) rfl ?_
      refine w_if_eq (q := 191) (X := (m1.1 115 1).toInt) hm113 ⟨⟨_, _, rfl⟩, rfl⟩ rfl (fun hc => ?_) (fun hc => ?_)
      · have h := h.1 hc
        refine w_iconst (q := 196) hm113 ⟨⟨_, _, rfl⟩, rfl⟩ iconst_0 ?_
        refine w_iadd (q := 197) hm113 ⟨⟨_, _, rfl⟩, rfl⟩ ?_
        refine w_aload_n (q := 198) hm113 ⟨⟨_, _, rfl⟩, rfl⟩ rfl ?_
        refine w_getr (q := 201) hm113 ⟨⟨_, _, rfl⟩, rfl⟩ rfl ?_
        refine w_iconst (q := 202) hm113 ⟨⟨_, _, rfl⟩, rfl⟩ iconst_2 ?_
        refine w_zald (q := 203) (j := 2) (v := (m1.1 115 2)) hm113 ⟨⟨_, _, rfl⟩, rfl⟩ rfl (by decide) (by decide) rfl ?_
        refine w_if_eq (q := 206) (X := (m1.1 115 2).toInt) hm113 ⟨⟨_, _, rfl⟩, rfl⟩ rfl (fun hc => ?_) (fun hc => ?_)
        · have h := h.1 hc
          refine w_iconst (q := 211) hm113 ⟨⟨_, _, rfl⟩, rfl⟩ iconst_0 ?_
          refine w_iadd (q := 212) hm113 ⟨⟨_, _, rfl⟩, rfl⟩ ?_
          exact w_reti hm113 ⟨⟨_, _, rfl⟩, rfl⟩ rfl h
        · have h := h.2 hc
          refine w_iconst (q := 207) hm113 ⟨⟨_, _, rfl⟩, rfl⟩ iconst_1 ?_
          refine w_goto (q := 211) hm113 ⟨_, _, rfl⟩ ?_
          refine w_iadd (q := 212) hm113 ⟨⟨_, _, rfl⟩, rfl⟩ ?_
          exact w_reti hm113 ⟨⟨_, _, rfl⟩, rfl⟩ rfl h
      · have h := h.2 hc
        refine w_iconst (q := 192) hm113 ⟨⟨_, _, rfl⟩, rfl⟩ iconst_1 ?_
        refine w_goto (q := 196) hm113 ⟨_, _, rfl⟩ ?_
        refine w_iadd (q := 197) hm113 ⟨⟨_, _, rfl⟩, rfl⟩ ?_
        refine w_aload_n (q := 198) hm113 ⟨⟨_, _, rfl⟩, rfl⟩ rfl ?_
        refine w_getr (q := 201) hm113 ⟨⟨_, _, rfl⟩, rfl⟩ rfl ?_
        refine w_iconst (q := 202) hm113 ⟨⟨_, _, rfl⟩, rfl⟩ iconst_2 ?_
        refine w_zald (q := 203) (j := 2) (v := (m1.1 115 2)) hm113 ⟨⟨_, _, rfl⟩, rfl⟩ rfl (by decide) (by decide) rfl ?_
        refine w_if_eq (q := 206) (X := (m1.1 115 2).toInt) hm113 ⟨⟨_, _, rfl⟩, rfl⟩ rfl (fun hc => ?_) (fun hc => ?_)
        · have h := h.1 hc
          refine w_iconst (q := 211) hm113 ⟨⟨_, _, rfl⟩, rfl⟩ iconst_0 ?_
          refine w_iadd (q := 212) hm113 ⟨⟨_, _, rfl⟩, rfl⟩ ?_
          exact w_reti hm113 ⟨⟨_, _, rfl⟩, rfl⟩ rfl h
        · have h := h.2 hc
          refine w_iconst (q := 207) hm113 ⟨⟨_, _, rfl⟩, rfl⟩ iconst_1 ?_
          refine w_goto (q := 211) hm113 ⟨_, _, rfl⟩ ?_
          refine w_iadd (q := 212) hm113 ⟨⟨_, _, rfl⟩, rfl⟩ ?_
          exact w_reti hm113 ⟨⟨_, _, rfl⟩, rfl⟩ rfl h
    · have h := h.2 hc
      refine w_iconst (q := 178) hm113 ⟨⟨_, _, rfl⟩, rfl⟩ iconst_1 ?_
      refine w_goto (q := 182) hm113 ⟨_, _, rfl⟩ ?_
      refine w_aload_n (q := 183) hm113 ⟨⟨_, _, rfl⟩, rfl⟩ rfl ?_
      refine w_getr (q := 186) hm113 ⟨⟨_, _, rfl⟩, rfl⟩ rfl ?_
      refine w_iconst (q := 187) hm113 ⟨⟨_, _, rfl⟩, rfl⟩ iconst_1 ?_
      refine w_zald (q := 188) (j := 1) (v := (m1.1 115 1)) hm113 ⟨⟨_, _, rfl⟩, rfl⟩ rfl (by decide) (by decide) rfl ?_
      refine w_if_eq (q := 191) (X := (m1.1 115 1).toInt) hm113 ⟨⟨_, _, rfl⟩, rfl⟩ rfl (fun hc => ?_) (fun hc => ?_)
      · have h := h.1 hc
        refine w_iconst (q := 196) hm113 ⟨⟨_, _, rfl⟩, rfl⟩ iconst_0 ?_
        refine w_iadd (q := 197) hm113 ⟨⟨_, _, rfl⟩, rfl⟩ ?_
        refine w_aload_n (q := 198) hm113 ⟨⟨_, _, rfl⟩, rfl⟩ rfl ?_
        refine w_getr (q := 201) hm113 ⟨⟨_, _, rfl⟩, rfl⟩ rfl ?_
        refine w_iconst (q := 202) hm113 ⟨⟨_, _, rfl⟩, rfl⟩ iconst_2 ?_
        refine w_zald (q := 203) (j := 2) (v := (m1.1 115 2)) hm113 ⟨⟨_, _, rfl⟩, rfl⟩ rfl (by decide) (by decide) rfl ?_
        refine w_if_eq (q := 206) (X := (m1.1 115 2).toInt) hm113 ⟨⟨_, _, rfl⟩, rfl⟩ rfl (fun hc => ?_) (fun hc => ?_)
        · have h := h.1 hc
          refine w_iconst (q := 211) hm113 ⟨⟨_, _, rfl⟩, rfl⟩ iconst_0 ?_
          refine w_iadd (q := 212) hm113 ⟨⟨_, _, rfl⟩, rfl⟩ ?_
          exact w_reti hm113 ⟨⟨_, _, rfl⟩, rfl⟩ rfl h
        · have h := h.2 hc
          refine w_iconst (q := 207) hm113 ⟨⟨_, _, rfl⟩, rfl⟩ iconst_1 ?_
          refine w_goto (q := 211) hm113 ⟨_, _, rfl⟩ ?_
          refine w_iadd (q := 212) hm113 ⟨⟨_, _, rfl⟩, rfl⟩ ?_
          exact w_reti hm113 ⟨⟨_, _, rfl⟩, rfl⟩ rfl h
      · have h := h.2 hc
        refine w_iconst (q := 192) hm113 ⟨⟨_, _, rfl⟩, rfl⟩ iconst_1 ?_
        refine w_goto (q := 196) hm113 ⟨_, _, rfl⟩ ?_
        refine w_iadd (q := 197) hm113 ⟨⟨_, _, rfl⟩, rfl⟩ ?_
        refine w_aload_n (q := 198) hm113 ⟨⟨_, _, rfl⟩, rfl⟩ rfl ?_
        refine w_getr (q := 201) hm113 ⟨⟨_, _, rfl⟩, rfl⟩ rfl ?_
        refine w_iconst (q := 202) hm113 ⟨⟨_, _, rfl⟩, rfl⟩ iconst_2 ?_
        refine w_zald (q := 203) (j := 2) (v := (m1.1 115 2)) hm113 ⟨⟨_, _, rfl⟩, rfl⟩ rfl (by decide) (by decide) rfl ?_
        refine w_if_eq (q := 206) (X := (m1.1 115 2).toInt) hm113 ⟨⟨_, _, rfl⟩, rfl⟩ rfl (fun hc => ?_) (fun hc => ?_)
        · have h := h.1 hc
          refine w_iconst (q := 211) hm113 ⟨⟨_, _, rfl⟩, rfl⟩ iconst_0 ?_
          refine w_iadd (q := 212) hm113 ⟨⟨_, _, rfl⟩, rfl⟩ ?_
          exact w_reti hm113 ⟨⟨_, _, rfl⟩, rfl⟩ rfl h
        · have h := h.2 hc
          refine w_iconst (q := 207) hm113 ⟨⟨_, _, rfl⟩, rfl⟩ iconst_1 ?_
          refine w_goto (q := 211) hm113 ⟨_, _, rfl⟩ ?_
          refine w_iadd (q := 212) hm113 ⟨⟨_, _, rfl⟩, rfl⟩ ?_
          exact w_reti hm113 ⟨⟨_, _, rfl⟩, rfl⟩ rfl h
  · have h := (h.2.2.2.2.2.2.2.2.2.2.2.2.2.1) hc
    change Wp _ _ 213 _ _ _ _
    refine w_aload_n (q := 214) hm113 ⟨⟨_, _, rfl⟩, rfl⟩ rfl ?_
    refine w_call (q := 217) (n := 0) (vs := [.inr (.inr (some 70))]) (rest := []) (la := [oR 70]) hm113 ⟨⟨_, _, rfl⟩, rfl⟩ rfl rfl rfl rfl hm46 rfl rfl (fun _ => ⟨_, _, rfl, rfl⟩) rfl (Wp.mono h ?_)
    rintro _ m5 ⟨r5, rfl, h⟩
    change Wp _ _ 217 _ [.inl r5] _ _
    refine w_if_eq (q := 220) (X := r5.toInt) hm113 ⟨⟨_, _, rfl⟩, rfl⟩ rfl (fun hc => ?_) (fun hc => ?_)
    · have h := h.1 hc
      refine w_iconst (q := 225) hm113 ⟨⟨_, _, rfl⟩, rfl⟩ iconst_0 ?_
      exact w_reti hm113 ⟨⟨_, _, rfl⟩, rfl⟩ rfl h
    · have h := h.2 hc
      refine w_iconst (q := 221) hm113 ⟨⟨_, _, rfl⟩, rfl⟩ iconst_1 ?_
      refine w_goto (q := 225) hm113 ⟨_, _, rfl⟩ ?_
      exact w_reti hm113 ⟨⟨_, _, rfl⟩, rfl⟩ rfl h
  · have h := (h.2.2.2.2.2.2.2.2.2.2.2.2.2.2.1) hc
    change Wp _ _ 226 _ _ _ _
    refine w_iconst (q := 227) hm113 ⟨⟨_, _, rfl⟩, rfl⟩ iconst_0 ?_
    refine w_istore_n (q := 228) (l' := [oR 70, oI x1, oI (0 : Int32), oI (0 : Int32)]) hm113 ⟨⟨_, _, rfl⟩, rfl⟩ rfl rfl rfl ?_
    exact Wp.wk [true, false, true, true] h
  · have h := (h.2.2.2.2.2.2.2.2.2.2.2.2.2.2.2.1) hc
    change Wp _ _ 263 _ _ _ _
    refine w_iconst (q := 264) hm113 ⟨⟨_, _, rfl⟩, rfl⟩ iconst_0 ?_
    refine w_istore_n (q := 265) (l' := [oR 70, oI x1, oI (0 : Int32), oI (0 : Int32)]) hm113 ⟨⟨_, _, rfl⟩, rfl⟩ rfl rfl rfl ?_
    exact Wp.wk [true, false, true, true] h
  · have h := (h.2.2.2.2.2.2.2.2.2.2.2.2.2.2.2.2) hc
    change Wp _ _ 303 _ _ _ _
    refine w_iconst (q := 304) hm113 ⟨⟨_, _, rfl⟩, rfl⟩ iconst_m1 ?_
    exact w_reti hm113 ⟨⟨_, _, rfl⟩, rfl⟩ rfl h
theorem v_X12_count_70_228 {d : Nat} {x2 : Int32} {x3 : Int32} {m : dM} {Q : Int32 → dM → Prop} (h : ((0 ≤ (m.1 70 18).toInt ∧ (m.1 70 18).toInt < 2) ∧ (((m.1 82 (m.1 70 18).toNatClampNeg).toInt ≤ x3.toInt → Q x2 m) ∧ (x3.toInt < (m.1 82 (m.1 70 18).toNatClampNeg).toInt → ((0 ≤ ((30 : Int32) + x3).toInt ∧ ((30 : Int32) + x3).toInt < 58) ∧ j_X12_count_70_228 (d + 1) (x2 ||| ((m.1 108 ((30 : Int32) + x3).toNatClampNeg) <<< (x3 &&& 31))) (x3 + (1 : Int32)) m Q))))) : j_X12_count_70_228 (d + 1) x2 x3 m Q := by
  refine w_iload_n (q := 229) hm113 ⟨⟨_, _, rfl⟩, rfl⟩ rfl ?_
  refine w_aload_n (q := 230) hm113 ⟨⟨_, _, rfl⟩, rfl⟩ rfl ?_
  refine w_getr (q := 233) hm113 ⟨⟨_, _, rfl⟩, rfl⟩ rfl ?_
  refine w_aload_n (q := 234) hm113 ⟨⟨_, _, rfl⟩, rfl⟩ rfl ?_
  refine w_getf (q := 237) (v := (m.1 70 18)) hm113 ⟨⟨_, _, rfl⟩, rfl⟩ rfl rfl ?_
  obtain ⟨hi, h⟩ := h
  refine w_iald (q := 238) (v := (m.1 82 (m.1 70 18).toNatClampNeg)) hm113 ⟨⟨_, _, rfl⟩, rfl⟩ rfl hi rfl rfl ?_
  refine w_icmp_ge (q := 241) (X := x3.toInt) (Y := (m.1 82 (m.1 70 18).toNatClampNeg).toInt) hm113 ⟨⟨_, _, rfl⟩, rfl⟩ rfl rfl (fun hc => ?_) (fun hc => ?_)
  · have h := h.1 hc
    refine w_iload_n (q := 262) hm113 ⟨⟨_, _, rfl⟩, rfl⟩ rfl ?_
    exact w_reti hm113 ⟨⟨_, _, rfl⟩, rfl⟩ rfl h
  · have h := h.2 hc
    refine w_iload_n (q := 242) hm113 ⟨⟨_, _, rfl⟩, rfl⟩ rfl ?_
    refine w_aload_n (q := 243) hm113 ⟨⟨_, _, rfl⟩, rfl⟩ rfl ?_
    refine w_getr (q := 246) hm113 ⟨⟨_, _, rfl⟩, rfl⟩ rfl ?_
    refine w_bipush (q := 248) hm113 ⟨⟨_, _, rfl⟩, rfl⟩ bipush_30 ?_
    refine w_iload_n (q := 249) hm113 ⟨⟨_, _, rfl⟩, rfl⟩ rfl ?_
    refine w_iadd (q := 250) hm113 ⟨⟨_, _, rfl⟩, rfl⟩ ?_
    obtain ⟨hi, h⟩ := h
    refine w_iald (q := 251) (v := (m.1 108 ((30 : Int32) + x3).toNatClampNeg)) hm113 ⟨⟨_, _, rfl⟩, rfl⟩ rfl hi rfl rfl ?_
    refine w_iload_n (q := 252) hm113 ⟨⟨_, _, rfl⟩, rfl⟩ rfl ?_
    refine w_ishl (q := 253) hm113 ⟨⟨_, _, rfl⟩, rfl⟩ ?_
    refine w_ior (q := 254) hm113 ⟨⟨_, _, rfl⟩, rfl⟩ ?_
    refine w_istore_n (q := 255) (l' := [oR 70, none, oI (x2 ||| ((m.1 108 ((30 : Int32) + x3).toNatClampNeg) <<< (x3 &&& 31))), oI x3]) hm113 ⟨⟨_, _, rfl⟩, rfl⟩ rfl rfl rfl ?_
    refine w_iinc (q := 258) (l' := [oR 70, none, oI (x2 ||| ((m.1 108 ((30 : Int32) + x3).toNatClampNeg) <<< (x3 &&& 31))), oI (x3 + (1 : Int32))]) hm113 ⟨⟨_, _, rfl⟩, rfl⟩ rfl rfl rfl iconst_1 rfl ?_
    refine w_goto (q := 228) hm113 ⟨_, _, rfl⟩ ?_
    exact h
theorem v_X12_count_70_265 {d : Nat} {x2 : Int32} {x3 : Int32} {m : dM} {Q : Int32 → dM → Prop} (h : ((0 ≤ (m.1 70 18).toInt ∧ (m.1 70 18).toInt < 2) ∧ (((m.1 82 (m.1 70 18).toNatClampNeg).toInt ≤ x3.toInt → Q x2 m) ∧ (x3.toInt < (m.1 82 (m.1 70 18).toNatClampNeg).toInt → c_X12_isWhole_70 d x3 m (fun r1 m1 => ((r1.toInt = 0 → j_X12_count_70_295 (d + 1) x2 x3 m1 Q) ∧ (r1.toInt ≠ 0 → ((0 ≤ x3.toInt ∧ x3.toInt < 58) ∧ j_X12_count_70_295 (d + 1) (x2 + (m1.1 108 x3.toNatClampNeg)) x3 m1 Q)))))))) : j_X12_count_70_265 (d + 1) x2 x3 m Q := by
  refine w_iload_n (q := 266) hm113 ⟨⟨_, _, rfl⟩, rfl⟩ rfl ?_
  refine w_aload_n (q := 267) hm113 ⟨⟨_, _, rfl⟩, rfl⟩ rfl ?_
  refine w_getr (q := 270) hm113 ⟨⟨_, _, rfl⟩, rfl⟩ rfl ?_
  refine w_aload_n (q := 271) hm113 ⟨⟨_, _, rfl⟩, rfl⟩ rfl ?_
  refine w_getf (q := 274) (v := (m.1 70 18)) hm113 ⟨⟨_, _, rfl⟩, rfl⟩ rfl rfl ?_
  obtain ⟨hi, h⟩ := h
  refine w_iald (q := 275) (v := (m.1 82 (m.1 70 18).toNatClampNeg)) hm113 ⟨⟨_, _, rfl⟩, rfl⟩ rfl hi rfl rfl ?_
  refine w_icmp_ge (q := 278) (X := x3.toInt) (Y := (m.1 82 (m.1 70 18).toNatClampNeg).toInt) hm113 ⟨⟨_, _, rfl⟩, rfl⟩ rfl rfl (fun hc => ?_) (fun hc => ?_)
  · have h := h.1 hc
    refine w_iload_n (q := 302) hm113 ⟨⟨_, _, rfl⟩, rfl⟩ rfl ?_
    exact w_reti hm113 ⟨⟨_, _, rfl⟩, rfl⟩ rfl h
  · have h := h.2 hc
    refine w_aload_n (q := 279) hm113 ⟨⟨_, _, rfl⟩, rfl⟩ rfl ?_
    refine w_iload_n (q := 280) hm113 ⟨⟨_, _, rfl⟩, rfl⟩ rfl ?_
    refine w_call (q := 283) (n := 0) (vs := [.inr (.inr (some 70)), .inl x3]) (rest := []) (la := [oR 70, oI x3]) hm113 ⟨⟨_, _, rfl⟩, rfl⟩ rfl rfl rfl rfl hm47 rfl rfl (fun _ => ⟨_, _, rfl, rfl⟩) rfl (Wp.mono h ?_)
    rintro _ m1 ⟨r1, rfl, h⟩
    change Wp _ _ 283 _ [.inl r1] _ _
    refine w_if_eq (q := 286) (X := r1.toInt) hm113 ⟨⟨_, _, rfl⟩, rfl⟩ rfl (fun hc => ?_) (fun hc => ?_)
    · have h := h.1 hc
      exact h
    · have h := h.2 hc
      refine w_iload_n (q := 287) hm113 ⟨⟨_, _, rfl⟩, rfl⟩ rfl ?_
      refine w_aload_n (q := 288) hm113 ⟨⟨_, _, rfl⟩, rfl⟩ rfl ?_
      refine w_getr (q := 291) hm113 ⟨⟨_, _, rfl⟩, rfl⟩ rfl ?_
      refine w_iload_n (q := 292) hm113 ⟨⟨_, _, rfl⟩, rfl⟩ rfl ?_
      obtain ⟨hi, h⟩ := h
      refine w_iald (q := 293) (v := (m1.1 108 x3.toNatClampNeg)) hm113 ⟨⟨_, _, rfl⟩, rfl⟩ rfl hi rfl rfl ?_
      refine w_iadd (q := 294) hm113 ⟨⟨_, _, rfl⟩, rfl⟩ ?_
      refine w_istore_n (q := 295) (l' := [oR 70, none, oI (x2 + (m1.1 108 x3.toNatClampNeg)), oI x3]) hm113 ⟨⟨_, _, rfl⟩, rfl⟩ rfl rfl rfl ?_
      exact h
theorem v_X12_count_70_295 {d : Nat} {x2 : Int32} {x3 : Int32} {m : dM} {Q : Int32 → dM → Prop} (h : j_X12_count_70_265 (d + 1) x2 (x3 + (1 : Int32)) m Q) : j_X12_count_70_295 (d + 1) x2 x3 m Q := by
  refine w_iinc (q := 298) (l' := [oR 70, none, oI x2, oI (x3 + (1 : Int32))]) hm113 ⟨⟨_, _, rfl⟩, rfl⟩ rfl rfl rfl iconst_1 rfl ?_
  refine w_goto (q := 265) hm113 ⟨_, _, rfl⟩ ?_
  exact h
end
section
/-! WHAT HOLDS BETWEEN CALLS (printed by wip/p34/mk40.py). wT: what most methods may write, and its bounds; what it leaves out stays as g has it; sT: bounds of what stays. -/
abbrev gM : Type := Nat → Nat → Int32
def fR : Option (Int × Int) := some (-2147483648, 2147483647)
def wT (k j : Nat) : Option (Int × Int) := match k with
  | 0 => match j with
    | 1 => none
    | 2 => none
    | _ => fR
  | 1 => none
  | 2 => match j with
    | 0 => none
    | 1 => none
    | 2 => none
    | 3 => none
    | 4 => none
    | 5 => none
    | 6 => none
    | _ => fR
  | 3 => none
  | 4 => none
  | 5 => none
  | 6 => none
  | 7 => none
  | 8 => none
  | 9 => none
  | 10 => none
  | 11 => match j with
    | 1 => none
    | _ => fR
  | 12 => none
  | 14 => none
  | 15 => none
  | 16 => none
  | 17 => none
  | 18 => none
  | 19 => fR
  | 20 => match j with
    | 0 => none
    | 1 => none
    | 2 => none
    | _ => fR
  | 21 => fR
  | 22 => some (0, 6)
  | 23 => some (0, 6)
  | 24 => fR
  | 25 => none
  | 26 => fR
  | 27 => fR
  | 28 => fR
  | 29 => match j with
    | 1 => some (0, 406)
    | _ => fR
  | 30 => fR
  | 32 => some (0, 406)
  | 33 => some (0, 406)
  | 34 => some (0, 406)
  | 35 => some (0, 406)
  | 36 => some (0, 13)
  | 37 => fR
  | 38 => match j with
    | 5 => some (0, 2000)
    | _ => fR
  | 39 => fR
  | 40 => fR
  | 43 => fR
  | 44 => fR
  | 47 => fR
  | 48 => fR
  | 49 => fR
  | 50 => fR
  | 51 => match j with
    | 4 => none
    | _ => fR
  | 52 => fR
  | 53 => fR
  | 54 => fR
  | 55 => fR
  | 56 => fR
  | 57 => fR
  | 58 => some (0, 9)
  | 59 => some (-1, 7)
  | 60 => fR
  | 61 => fR
  | 62 => fR
  | 63 => fR
  | 64 => fR
  | 65 => fR
  | 66 => fR
  | 67 => match j with
    | 3 => none
    | _ => fR
  | 68 => fR
  | 69 => fR
  | 70 => match j with
    | 2 => none
    | 4 => none
    | 10 => none
    | 11 => none
    | 12 => none
    | 13 => none
    | 14 => none
    | 15 => none
    | 16 => none
    | 17 => none
    | 18 => none
    | 19 => none
    | 20 => none
    | 40 => none
    | 46 => none
    | 50 => none
    | 61 => some (0, 40)
    | 63 => none
    | _ => fR
  | 71 => none
  | 72 => none
  | 73 => none
  | 74 => none
  | 75 => none
  | 79 => none
  | 80 => none
  | 81 => none
  | 82 => none
  | 83 => none
  | 84 => none
  | 85 => none
  | 86 => none
  | 87 => none
  | 88 => none
  | 89 => none
  | 90 => none
  | 91 => none
  | 92 => none
  | 93 => none
  | 94 => none
  | 95 => none
  | 96 => none
  | 97 => none
  | 98 => none
  | 99 => none
  | 100 => none
  | 101 => none
  | 102 => none
  | 103 => none
  | 104 => none
  | 105 => fR
  | 106 => fR
  | 107 => fR
  | 108 => fR
  | 109 => fR
  | 110 => fR
  | 111 => fR
  | 112 => fR
  | 113 => fR
  | 114 => fR
  | 115 => none
  | 116 => fR
  | _ => fR
def sT (k j : Nat) : Option (Int × Int) := match k with
  | 0 => match j with
    | 1 => some (0, 2000)
    | _ => none
  | 2 => match j with
    | 0 => some (0, 7)
    | 1 => some (0, 10)
    | 2 => some (0, 8)
    | _ => none
  | 4 => some (0, 6)
  | 5 => some (0, 6)
  | 11 => match j with
    | 1 => some (0, 406)
    | _ => none
  | 14 => some (0, 406)
  | 15 => some (0, 406)
  | 16 => some (0, 406)
  | 17 => some (0, 406)
  | 18 => some (0, 13)
  | 20 => match j with
    | 0 => some (0, 7)
    | 1 => some (0, 10)
    | 2 => some (0, 8)
    | _ => none
  | 25 => some (-1, 6)
  | 67 => match j with
    | 3 => some (0, 20)
    | _ => none
  | 70 => match j with
    | 2 => some (0, 2000)
    | 18 => some (0, 1)
    | 63 => some (0, 20)
    | _ => none
  | 73 => some (0, 41)
  | 75 => some (0, 9999)
  | 79 => some (-1, 6)
  | 80 => some (0, 7)
  | 82 => some (0, 10)
  | 86 => some (0, 8)
  | 89 => some (0, 9999)
  | 90 => some (0, 9999)
  | _ => none
/-- a stretch of code that can be worked with t waiting -/
def gSeg (g : gM) : Nat → Nat → Nat → Prop
  | 0, _, _ => True
  | n + 1, p, t => ((g 102 p).toInt < 2 ∧ ((g 102 p).toInt ≠ 0 → 0 ≤ (g 103 p).toInt ∧ (g 103 p).toInt ≤ 8) ∧ gSeg g n (p + 1) (t + 1)) ∨ ((2 ≤ (g 102 p).toInt ∧ (g 102 p).toInt ≤ 5) ∧ 2 ≤ t ∧ gSeg g n (p + 1) (t - 1))
def gPc (g : gM) (L : Nat) (a b : Int) : Prop := 420 * (L : Int) ≤ a ∧ a ≤ b ∧ b ≤ 420 * (L : Int) + 420 ∧ b - a ≤ 400 ∧ gSeg g (b - a).toNat a.toNat 0
def gBr (g : gM) (L b : Nat) : Prop := ((g 97 b).toInt ≠ 0 → gPc g L (g 98 b).toInt (g 99 b).toInt ∧ gPc g L (g 99 b).toInt (g 100 b).toInt) ∧ gPc g L (g 100 b).toInt (g 101 b).toInt
def gLw (g : gM) (L : Nat) (a b : Int) : Prop := a = b ∨ (130 * (L : Int) ≤ a ∧ a ≤ b ∧ b ≤ 130 * (L : Int) + 130 ∧ ∀ j : Nat, a ≤ j → (j : Int) < b → gBr g L j)
/-- which side is live -/
def gL (g : gM) : Nat := (g 70 18).toInt.toNat
def Gx (g : gM) : Prop :=
  (∀ u : Nat, (u : Int) < (g 2 2).toInt → 0 ≤ (g 7 u).toInt ∧ (g 7 u).toInt ≤ 6) ∧
  (∀ u : Nat, (u : Int) < (g 86 (gL g)).toInt → 0 ≤ (g 87 (8 * gL g + u)).toInt ∧ (g 87 (8 * gL g + u)).toInt ≤ 6) ∧
  (∀ w : Nat, (w : Int) < (g 82 (gL g)).toInt → (0 ≤ (g 83 (10 * gL g + w)).toInt ∧ (g 83 (10 * gL g + w)).toInt ≤ 6) ∧ (0 ≤ (g 84 (10 * gL g + w)).toInt ∧ (g 84 (10 * gL g + w)).toInt ≤ 6)) ∧
  (∀ k : Nat, k < 4 → gLw g (gL g) (g 95 (4 * gL g + k)).toInt (g 96 (4 * gL g + k)).toInt)
def Gd (g : gM) : Prop := (∀ (k j : Nat) (lo hi : Int), sT k j = some (lo, hi) → lo ≤ (g k j).toInt ∧ (g k j).toInt ≤ hi) ∧ Gx g
def Inv (g : gM) (m : dM) : Prop := (∀ (k j : Nat) (lo hi : Int), wT k j = some (lo, hi) → lo ≤ (m.1 k j).toInt ∧ (m.1 k j).toInt ≤ hi) ∧ ∀ k j : Nat, wT k j = none → m.1 k j = g k j
section INV
variable {g : gM} {m : dM} {k j : Nat} {lo hi : Int} {v : Int32}
theorem Inv.w (hI : Inv g m) (h : wT k j = some (lo, hi)) : lo ≤ (m.1 k j).toInt ∧ (m.1 k j).toInt ≤ hi := hI.1 k j lo hi h
theorem Inv.s (hG : Gd g) (hI : Inv g m) (hw : wT k j = none) (h : sT k j = some (lo, hi)) : lo ≤ (m.1 k j).toInt ∧ (m.1 k j).toInt ≤ hi := by
  rw [hI.2 k j hw]
  exact hG.1 k j lo hi h
theorem Inv.set (hI : Inv g m) (hw : wT k j = some (lo, hi)) (h1 : lo ≤ v.toInt) (h2 : v.toInt ≤ hi) : Inv g (dSet m k j v) := by
  refine ⟨fun k' j' lo' hi' h => ?_, fun k' j' h => ?_⟩
  · rw [dSet_e]
    by_cases hc : k' = k ∧ j' = j
    · rw [if_pos hc]
      rw [hc.1, hc.2, hw] at h
      cases h
      exact ⟨h1, h2⟩
    · rw [if_neg hc]
      exact hI.1 k' j' lo' hi' h
  · rw [dSet_e]
    by_cases hc : k' = k ∧ j' = j
    · rw [hc.1, hc.2, hw] at h
      cases h
    · rw [if_neg hc]
      exact hI.2 k' j' h
theorem Inv.setA (hI : Inv g m) (hw : wT k j = fR) : Inv g (dSet m k j v) := Inv.set hI hw (e_lo v) (e_hi v)
theorem Inv.setL {x : Int64} (hI : Inv g m) : Inv g (dSetL m k j x) := hI
theorem Inv.tx (hI : Inv g m) : Inv g (dTx m) := hI
theorem Inv.cpy {k0 sp k1 dp n : Nat} (hI : Inv g m) (hw : ∀ j, wT k1 j = fR) : Inv g (dCpy m k0 sp k1 dp n) := by
  refine ⟨fun k' j' lo' hi' h => ?_, fun k' j' h => ?_⟩
  · rw [dCpy_e]
    by_cases hc : k' = k1 ∧ dp ≤ j' ∧ j' < dp + n
    · rw [if_pos hc]
      rw [hc.1, hw] at h
      cases h
      exact ⟨e_lo _, e_hi _⟩
    · rw [if_neg hc]
      exact hI.1 k' j' lo' hi' h
  · rw [dCpy_e]
    by_cases hc : k' = k1 ∧ dp ≤ j' ∧ j' < dp + n
    · rw [hc.1, hw] at h
      cases h
    · rw [if_neg hc]
      exact hI.2 k' j' h
theorem d_cl {x : Int32} (h : 0 ≤ x.toInt) : (x.toNatClampNeg : Int) = x.toInt := by rw [Int32.toNatClampNeg]; exact Int.toNat_of_nonneg h
theorem dAddE {x y : Int32} {X Y : Int} (hx : x.toInt = X) (hy : y.toInt = Y) (h1 : -2147483648 ≤ X + Y) (h2 : X + Y ≤ 2147483647) : (x + y).toInt = X + Y := by
  subst hx
  subst hy
  exact eAddI h1 h2
theorem dSubE {x y : Int32} {X Y : Int} (hx : x.toInt = X) (hy : y.toInt = Y) (h1 : -2147483648 ≤ X - Y) (h2 : X - Y ≤ 2147483647) : (x - y).toInt = X - Y := by
  subst hx
  subst hy
  exact eSubI h1 h2
theorem dMulE {x y : Int32} {X Y : Int} (hx : x.toInt = X) (hy : y.toInt = Y) (h1 : -2147483648 ≤ X * Y) (h2 : X * Y ≤ 2147483647) : (x * y).toInt = X * Y := by
  subst hx
  subst hy
  rw [Int32.toInt_mul]
  exact Int.bmod_eq_of_le (by omega) (by omega)
theorem dB01 {x : Int32} (h : 0 ≤ x.toInt ∧ x.toInt ≤ 1) : x = 0 ∨ x = 1 := by
  by_cases h0 : x.toInt = 0
  · left; exact Int32.toInt_inj.mp h0
  · right; exact Int32.toInt_inj.mp (show x.toInt = 1 by omega)
theorem dRemE {x y : Int32} {Y : Int} (hy : y.toInt = Y) (h : 1 ≤ Y) : (x - x / y * y).toInt ≤ Y - 1 ∧ 1 - Y ≤ (x - x / y * y).toInt ∧ (0 ≤ x.toInt → 0 ≤ (x - x / y * y).toInt) := by
  subst hy
  have e := rem_toInt x y
  have hb := tmod_bounds (a := x.toInt) (M := y.toInt) (by omega)
  refine ⟨by rw [e]; omega, by rw [e]; omega, fun hx => ?_⟩
  rw [e]
  exact Int.tmod_nonneg _ hx
theorem dMinE (x y : Int32) : (if y < x then y else x).toInt ≤ x.toInt ∧ (if y < x then y else x).toInt ≤ y.toInt ∧ ((if y < x then y else x).toInt = x.toInt ∨ (if y < x then y else x).toInt = y.toInt) := by
  by_cases h : y < x
  · have := Int32.lt_iff_toInt_lt.mp h
    rw [if_pos h]; omega
  · have : ¬ y.toInt < x.toInt := fun q => h (Int32.lt_iff_toInt_lt.mpr q)
    rw [if_neg h]; omega
theorem dMaxE (x y : Int32) : x.toInt ≤ (if x < y then y else x).toInt ∧ y.toInt ≤ (if x < y then y else x).toInt ∧ ((if x < y then y else x).toInt = x.toInt ∨ (if x < y then y else x).toInt = y.toInt) := by
  by_cases h : x < y
  · have := Int32.lt_iff_toInt_lt.mp h
    rw [if_pos h]; omega
  · have : ¬ x.toInt < y.toInt := fun q => h (Int32.lt_iff_toInt_lt.mpr q)
    rw [if_neg h]; omega
theorem dCmpE (x y : Int64) : -1 ≤ (lg_cmp x y).toInt ∧ (lg_cmp x y).toInt ≤ 1 ∧ ((lg_cmp x y).toInt = 0 ↔ x = y) := by
  unfold lg_cmp
  by_cases h : x > y
  · rw [if_pos h]
    refine ⟨by decide, by decide, ⟨fun q => absurd q (by decide), fun q => ?_⟩⟩
    rw [q] at h
    exact absurd h (Int64.lt_irrefl)
  · rw [if_neg h]
    by_cases h2 : x = y
    · rw [if_pos h2]
      exact ⟨by decide, by decide, ⟨fun _ => h2, fun _ => by decide⟩⟩
    · rw [if_neg h2]
      exact ⟨by decide, by decide, ⟨fun q => absurd q (by decide), fun q => absurd q h2⟩⟩
theorem d_nat {x : Int32} (h : 0 ≤ x.toInt) : x = Int32.ofNat x.toInt.toNat := by
  apply Int32.toInt_inj.mp
  have := e_hi x
  rw [Int32.toInt_ofNat_of_lt (by omega)]
  omega
theorem dShl8 {x : Int32} (h1 : 0 ≤ x.toInt) (h2 : x.toInt ≤ 8) : 1 ≤ ((1 : Int32) <<< (x &&& 31)).toInt ∧ ((1 : Int32) <<< (x &&& 31)).toInt ≤ 256 := by
  have H : ∀ n : Nat, n < 9 → 1 ≤ ((1 : Int32) <<< (Int32.ofNat n &&& 31)).toInt ∧ ((1 : Int32) <<< (Int32.ofNat n &&& 31)).toInt ≤ 256 := by decide
  rw [d_nat h1]
  exact H _ (by omega)
theorem dShl10 {x : Int32} (h1 : 0 ≤ x.toInt) (h2 : x.toInt ≤ 10) : 1 ≤ ((1 : Int32) <<< (x &&& 31)).toInt ∧ ((1 : Int32) <<< (x &&& 31)).toInt ≤ 1024 := by
  have H : ∀ n : Nat, n < 11 → 1 ≤ ((1 : Int32) <<< (Int32.ofNat n &&& 31)).toInt ∧ ((1 : Int32) <<< (Int32.ofNat n &&& 31)).toInt ≤ 1024 := by decide
  rw [d_nat h1]
  exact H _ (by omega)
theorem dAndE {x y : Int32} (h : 0 ≤ y.toInt) : 0 ≤ (x &&& y).toInt ∧ (x &&& y).toInt ≤ y.toInt := by
  have e1 : (x &&& y).toInt = (x.toBitVec &&& y.toBitVec).toInt := rfl
  have e2 : y.toInt = y.toBitVec.toInt := rfl
  have h3 : (x.toBitVec &&& y.toBitVec).toNat ≤ y.toBitVec.toNat := by rw [BitVec.toNat_and]; exact Nat.and_le_right
  rw [e2] at h ⊢
  rw [e1]
  have hy : 2 * y.toBitVec.toNat < 2 ^ 32 := by
    rw [BitVec.toInt_eq_toNat_cond] at h
    split at h
    · assumption
    · have := y.toBitVec.isLt; omega
  rw [BitVec.toInt_eq_toNat_cond, BitVec.toInt_eq_toNat_cond, if_pos hy, if_pos (by omega)]
  omega
/-! what hangs on an index below a count -/
theorem Inv.home {u : Int32} (hG : Gd g) (hI : Inv g m) (h1 : 0 ≤ u.toInt) (h2 : u.toInt < (m.1 2 2).toInt) : 0 ≤ (m.1 7 u.toNatClampNeg).toInt ∧ (m.1 7 u.toNatClampNeg).toInt ≤ 6 := by
  rw [hI.2 7 _ rfl]
  rw [hI.2 2 2 rfl] at h2
  exact hG.2.1 _ (by rw [d_cl h1]; exact h2)
theorem Inv.live (hG : Gd g) (hI : Inv g m) : m.1 70 18 = g 70 18 ∧ 0 ≤ (g 70 18).toInt ∧ (g 70 18).toInt ≤ 1 ∧ (m.1 70 18).toNatClampNeg = gL g ∧ (gL g : Int) = (m.1 70 18).toInt := by
  have e := hI.2 70 18 rfl
  have b := hG.1 70 18 0 1 rfl
  refine ⟨e, b.1, b.2, by rw [e]; rfl, ?_⟩
  rw [e]
  exact Int.toNat_of_nonneg b.1
theorem d_idx {c l u : Int32} {C : Int} {L : Nat} (hc : c.toInt = C) (hC : 0 ≤ C ∧ C ≤ 1000) (hl : (L : Int) = l.toInt) (hL : l.toInt ≤ 1) (h1 : 0 ≤ u.toInt) (h2 : u.toInt ≤ 10000) : (c * l + u).toNatClampNeg = C.toNat * L + u.toInt.toNat := by
  have b0 : 0 ≤ C * l.toInt ∧ C * l.toInt ≤ 1000 := by
    have : l.toInt = 0 ∨ l.toInt = 1 := by omega
    rcases this with q | q <;> rw [q] <;> omega
  have e1 := dMulE hc rfl (show -2147483648 ≤ C * l.toInt by omega) (by omega)
  have e2 := dAddE e1 (rfl : u.toInt = _) (by omega) (by omega)
  rw [Int32.toNatClampNeg, e2, ← hl]
  have : (C * (L : Int)).toNat = C.toNat * L := by
    have h3 : l.toInt = 0 ∨ l.toInt = 1 := by omega
    rcases h3 with q | q
    · have : L = 0 := by omega
      subst this
      simp
    · have : L = 1 := by omega
      subst this
      simp
  rw [← hl] at b0
  omega
theorem Inv.flat {u : Int32} (hG : Gd g) (hI : Inv g m) (h1 : 0 ≤ u.toInt) (h2 : u.toInt < (m.1 86 (m.1 70 18).toNatClampNeg).toInt) : 0 ≤ (m.1 87 ((8 : Int32) * m.1 70 18 + u).toNatClampNeg).toInt ∧ (m.1 87 ((8 : Int32) * m.1 70 18 + u).toNatClampNeg).toInt ≤ 6 := by
  obtain ⟨l1, l2, l3, l4, l5⟩ := Inv.live hG hI
  rw [l4, hI.2 86 _ rfl] at h2
  have hb := hG.1 86 (gL g) 0 8 rfl
  have e := d_idx (c := 8) (C := 8) (by decide) (by decide) l5 (by rw [l1]; exact l3) h1 (by omega)
  rw [e, hI.2 87 _ rfl]
  have q : ((u.toInt.toNat : Nat) : Int) < (g 86 (gL g)).toInt := by omega
  exact hG.2.2.1 _ q
theorem Inv.one {u : Int32} (hG : Gd g) (hI : Inv g m) (h1 : 0 ≤ u.toInt) (h2 : u.toInt < (m.1 82 (m.1 70 18).toNatClampNeg).toInt) : 0 ≤ (m.1 83 ((10 : Int32) * m.1 70 18 + u).toNatClampNeg).toInt ∧ (m.1 83 ((10 : Int32) * m.1 70 18 + u).toNatClampNeg).toInt ≤ 6 := by
  obtain ⟨l1, l2, l3, l4, l5⟩ := Inv.live hG hI
  rw [l4, hI.2 82 _ rfl] at h2
  have hb := hG.1 82 (gL g) 0 10 rfl
  have e := d_idx (c := 10) (C := 10) (by decide) (by decide) l5 (by rw [l1]; exact l3) h1 (by omega)
  rw [e, hI.2 83 _ rfl]
  have q : ((u.toInt.toNat : Nat) : Int) < (g 82 (gL g)).toInt := by omega
  exact (hG.2.2.2.1 _ q).1
theorem Inv.two {u : Int32} (hG : Gd g) (hI : Inv g m) (h1 : 0 ≤ u.toInt) (h2 : u.toInt < (m.1 82 (m.1 70 18).toNatClampNeg).toInt) : 0 ≤ (m.1 84 ((10 : Int32) * m.1 70 18 + u).toNatClampNeg).toInt ∧ (m.1 84 ((10 : Int32) * m.1 70 18 + u).toNatClampNeg).toInt ≤ 6 := by
  obtain ⟨l1, l2, l3, l4, l5⟩ := Inv.live hG hI
  rw [l4, hI.2 82 _ rfl] at h2
  have hb := hG.1 82 (gL g) 0 10 rfl
  have e := d_idx (c := 10) (C := 10) (by decide) (by decide) l5 (by rw [l1]; exact l3) h1 (by omega)
  rw [e, hI.2 84 _ rfl]
  have q : ((u.toInt.toNat : Nat) : Int) < (g 82 (gL g)).toInt := by omega
  exact (hG.2.2.2.1 _ q).2
theorem Inv.cnt80 (hG : Gd g) (hI : Inv g m) : (m.1 80 (m.1 70 18).toNatClampNeg).toInt = (g 80 (gL g)).toInt := by
  obtain ⟨l1, l2, l3, l4, l5⟩ := Inv.live hG hI
  rw [l4, hI.2 80 _ rfl]
theorem Inv.cnt82 (hG : Gd g) (hI : Inv g m) : (m.1 82 (m.1 70 18).toNatClampNeg).toInt = (g 82 (gL g)).toInt := by
  obtain ⟨l1, l2, l3, l4, l5⟩ := Inv.live hG hI
  rw [l4, hI.2 82 _ rfl]
theorem Inv.cnt86 (hG : Gd g) (hI : Inv g m) : (m.1 86 (m.1 70 18).toNatClampNeg).toInt = (g 86 (gL g)).toInt := by
  obtain ⟨l1, l2, l3, l4, l5⟩ := Inv.live hG hI
  rw [l4, hI.2 86 _ rfl]
end INV
end
section
theorem ti_m2000 : (-2000 : Int32).toInt = -2000 := by decide
theorem ti_m1000 : (-1000 : Int32).toInt = -1000 := by decide
theorem ti_m2 : (-2 : Int32).toInt = -2 := by decide
theorem ti_m1 : (-1 : Int32).toInt = -1 := by decide
theorem ti_0 : (0 : Int32).toInt = 0 := by decide
theorem ti_1 : (1 : Int32).toInt = 1 := by decide
theorem ti_2 : (2 : Int32).toInt = 2 := by decide
theorem ti_3 : (3 : Int32).toInt = 3 := by decide
theorem ti_4 : (4 : Int32).toInt = 4 := by decide
theorem ti_5 : (5 : Int32).toInt = 5 := by decide
theorem ti_7 : (7 : Int32).toInt = 7 := by decide
theorem ti_8 : (8 : Int32).toInt = 8 := by decide
theorem ti_9 : (9 : Int32).toInt = 9 := by decide
theorem ti_10 : (10 : Int32).toInt = 10 := by decide
theorem ti_11 : (11 : Int32).toInt = 11 := by decide
theorem ti_12 : (12 : Int32).toInt = 12 := by decide
theorem ti_13 : (13 : Int32).toInt = 13 := by decide
theorem ti_19 : (19 : Int32).toInt = 19 := by decide
theorem ti_20 : (20 : Int32).toInt = 20 := by decide
theorem ti_22 : (22 : Int32).toInt = 22 := by decide
theorem ti_23 : (23 : Int32).toInt = 23 := by decide
theorem ti_24 : (24 : Int32).toInt = 24 := by decide
theorem ti_25 : (25 : Int32).toInt = 25 := by decide
theorem ti_41 : (41 : Int32).toInt = 41 := by decide
theorem ti_48 : (48 : Int32).toInt = 48 := by decide
theorem ti_59 : (59 : Int32).toInt = 59 := by decide
theorem ti_60 : (60 : Int32).toInt = 60 := by decide
theorem ti_61 : (61 : Int32).toInt = 61 := by decide
theorem ti_63 : (63 : Int32).toInt = 63 := by decide
theorem ti_72 : (72 : Int32).toInt = 72 := by decide
theorem ti_99 : (99 : Int32).toInt = 99 := by decide
theorem ti_100 : (100 : Int32).toInt = 100 := by decide
theorem ti_129 : (129 : Int32).toInt = 129 := by decide
theorem ti_201 : (201 : Int32).toInt = 201 := by decide
theorem ti_255 : (255 : Int32).toInt = 255 := by decide
theorem ti_999 : (999 : Int32).toInt = 999 := by decide
theorem ti_2000 : (2000 : Int32).toInt = 2000 := by decide
theorem ti_9999 : (9999 : Int32).toInt = 9999 := by decide
theorem ti_99999 : (99999 : Int32).toInt = 99999 := by decide
theorem ti_999999 : (999999 : Int32).toInt = 999999 := by decide
theorem ti_252645135 : (252645135 : Int32).toInt = 252645135 := by decide
theorem ti_858993459 : (858993459 : Int32).toInt = 858993459 := by decide
theorem ti_1431655765 : (1431655765 : Int32).toInt = 1431655765 := by decide
theorem ti_2147483647 : (2147483647 : Int32).toInt = 2147483647 := by decide
end
section
theorem s_X8_byteAt_38 {g : gM} {x1 : Int32} {m : dM} {Q : Int32 → dM → Prop} (hG : Gd g) (hI : Inv g m) (h1 : 0 ≤ x1.toInt ∧ x1.toInt ≤ 2000) (hQ : ∀ r : Int32, (0 ≤ r.toInt ∧ r.toInt ≤ 255) → Q r m) : c_X8_byteAt_38 1 x1 m Q := by
  refine v_X8_byteAt_38 ?_
  refine ⟨fun ht1 => ?_, fun ht1 => ?_⟩
  · skip
    refine v_X8_byteAt_38_41 ?_
    have f2 := ti_0
    exact hQ _ (by omega)
  · skip
    refine ⟨fun hc2 => ?_, fun hc2 => ?_⟩
    · skip
      exfalso; omega
    · skip
      have f3 := Inv.w hI (k := 38) (j := 5) rfl
      refine ⟨fun hc4 => ?_, fun hc4 => ?_⟩
      · skip
        refine v_X8_byteAt_38_41 ?_
        have f5 := ti_0
        exact hQ _ (by omega)
      · skip
        refine ⟨fun hc5 => ?_, fun hc5 => ?_⟩
        · skip
          exfalso; omega
        · skip
          refine ⟨by omega, ?_⟩
          have f6 := ti_255
          have f7 := dAndE (x := (m.1 1 x1.toNatClampNeg)) (y := (255 : Int32)) (by decide)
          exact hQ _ (by omega)
theorem s_X8_pastBlanks_38_all {g : gM} {Q : Int32 → dM → Prop} {m : dM} (hG : Gd g) (hI : Inv g m) (hQ : ∀ r : Int32, (0 ≤ r.toInt ∧ r.toInt ≤ 2000) → Q r m) : ∀ n : Nat, (∀ (x2 : Int32), (0 ≤ x2.toInt ∧ x2.toInt ≤ 2001) → 4003 - 2 * x2.toInt < (n : Int) → j_X8_pastBlanks_38_2 2 x2 m Q) ∧ (∀ (x2 : Int32), (0 ≤ x2.toInt ∧ x2.toInt ≤ 2000) → 4002 - 2 * x2.toInt < (n : Int) → j_X8_pastBlanks_38_42 2 x2 m Q) := by
  intro n
  induction n with
  | zero => exact ⟨fun x2 h2 hμ => by exfalso; omega, fun x2 h2 hμ => by exfalso; omega⟩
  | succ n ih =>
    refine ⟨?_, ?_⟩
    · intro x2 h2 hμ
      refine v_X8_pastBlanks_38_2 ?_
      have f1 := Inv.w hI (k := 38) (j := 5) rfl
      refine ⟨fun hc2 => ?_, fun hc2 => ?_⟩
      · skip
        exact hQ _ (by omega)
      · skip
        refine Wp.deep (s_X8_byteAt_38 hG hI (by omega) (fun R3 hr3 => ?_)) (Nat.le_of_ble_eq_true rfl)
        refine ⟨fun hc4 => ?_, fun hc4 => ?_⟩
        · skip
          exact ih.2 _ (by omega) (by omega)
        · skip
          refine ⟨fun hc5 => ?_, fun hc5 => ?_⟩
          · skip
            exact ih.2 _ (by omega) (by omega)
          · skip
            refine ⟨fun hc6 => ?_, fun hc6 => ?_⟩
            · skip
              exact ih.2 _ (by omega) (by omega)
            · skip
              refine ⟨fun hc7 => ?_, fun hc7 => ?_⟩
              · skip
                exact ih.2 _ (by omega) (by omega)
              · skip
                exact hQ _ (by omega)
    · intro x2 h2 hμ
      refine v_X8_pastBlanks_38_42 ?_
      have f1 := dAddE (X := x2.toInt) (Y := 1) (x := x2) (y := (1 : Int32)) rfl (by decide) (by omega) (by omega)
      exact ih.1 _ (by omega) (by omega)
theorem s_X8_pastBlanks_38 {g : gM} {x1 : Int32} {m : dM} {Q : Int32 → dM → Prop} (hG : Gd g) (hI : Inv g m) (h1 : 0 ≤ x1.toInt ∧ x1.toInt ≤ 2000) (hQ : ∀ r : Int32, (0 ≤ r.toInt ∧ r.toInt ≤ 2000) → Q r m) : c_X8_pastBlanks_38 2 x1 m Q := by
  refine v_X8_pastBlanks_38 ?_
  exact (s_X8_pastBlanks_38_all hG hI hQ 4005).1 _ (by omega) (by omega)
theorem s_X8_isLetterAt_38 {g : gM} {x1 : Int32} {m : dM} {Q : Int32 → dM → Prop} (hG : Gd g) (hI : Inv g m) (h1 : 0 ≤ x1.toInt ∧ x1.toInt ≤ 2000) (hQ : ∀ r : Int32, (0 ≤ r.toInt ∧ r.toInt ≤ 1) → Q r m) : c_X8_isLetterAt_38 2 x1 m Q := by
  refine v_X8_isLetterAt_38 ?_
  refine Wp.deep (s_X8_byteAt_38 hG hI (by omega) (fun R1 hr1 => ?_)) (Nat.le_of_ble_eq_true rfl)
  refine ⟨fun hc2 => ?_, fun hc2 => ?_⟩
  · skip
    refine v_X8_isLetterAt_38_22 ?_
    have f3 := ti_0
    exact hQ _ (by omega)
  · skip
    refine ⟨fun hc3 => ?_, fun hc3 => ?_⟩
    · skip
      refine v_X8_isLetterAt_38_22 ?_
      have f4 := ti_0
      exact hQ _ (by omega)
    · skip
      have f4 := ti_1
      exact hQ _ (by omega)
theorem s_X8_isDigitAt_38 {g : gM} {x1 : Int32} {m : dM} {Q : Int32 → dM → Prop} (hG : Gd g) (hI : Inv g m) (h1 : 0 ≤ x1.toInt ∧ x1.toInt ≤ 1999) (hQ : ∀ r : Int32, (0 ≤ r.toInt ∧ r.toInt ≤ 1) → Q r m) : c_X8_isDigitAt_38 2 x1 m Q := by
  refine v_X8_isDigitAt_38 ?_
  refine Wp.deep (s_X8_byteAt_38 hG hI (by omega) (fun R1 hr1 => ?_)) (Nat.le_of_ble_eq_true rfl)
  refine ⟨fun hc2 => ?_, fun hc2 => ?_⟩
  · skip
    refine v_X8_isDigitAt_38_22 ?_
    have f3 := ti_0
    exact hQ _ (by omega)
  · skip
    refine ⟨fun hc3 => ?_, fun hc3 => ?_⟩
    · skip
      refine v_X8_isDigitAt_38_22 ?_
      have f4 := ti_0
      exact hQ _ (by omega)
    · skip
      have f4 := ti_1
      exact hQ _ (by omega)
theorem s_X8_signOf {g : gM} {x0 : Int32} {m : dM} {Q : Int32 → dM → Prop} (hG : Gd g) (hI : Inv g m) (h0 : 0 ≤ x0.toInt ∧ x0.toInt ≤ 255) (hQ : ∀ r : Int32, (24 ≤ r.toInt ∧ r.toInt ≤ 63) → Q r m) : c_X8_signOf 1 x0 m Q := by
  refine v_X8_signOf ?_
  refine ⟨fun hc1 => ?_, fun hc1 => ?_, fun hc1 => ?_, fun hc1 => ?_, fun hc1 => ?_, fun hc1 => ?_, fun hc1 => ?_, fun hc1 => ?_, fun hc1 => ?_, fun hc1 => ?_, fun hc1 => ?_, fun hc1 => ?_, fun hc1 => ?_, fun hc1 => ?_, fun hc1 => ?_, fun hc1 => ?_, fun hc1 => ?_, fun hc1 => ?_, fun hc1 => ?_, fun hc1 => ?_, fun hc1 => ?_, fun hc1 => ?_, fun hc1 => ?_⟩
  · skip
    exact hQ _ (by omega)
  · skip
    exact hQ _ (by omega)
  · skip
    exact hQ _ (by omega)
  · skip
    exact hQ _ (by omega)
  · skip
    have f2 := ti_25
    exact hQ _ (by omega)
  · skip
    exact hQ _ (by omega)
  · skip
    have f2 := ti_25
    exact hQ _ (by omega)
  · skip
    exact hQ _ (by omega)
  · skip
    have f2 := ti_25
    exact hQ _ (by omega)
  · skip
    have f2 := ti_25
    exact hQ _ (by omega)
  · skip
    have f2 := ti_25
    exact hQ _ (by omega)
  · skip
    have f2 := ti_25
    exact hQ _ (by omega)
  · skip
    have f2 := ti_25
    exact hQ _ (by omega)
  · skip
    have f2 := ti_25
    exact hQ _ (by omega)
  · skip
    have f2 := ti_25
    exact hQ _ (by omega)
  · skip
    have f2 := ti_25
    exact hQ _ (by omega)
  · skip
    have f2 := ti_25
    exact hQ _ (by omega)
  · skip
    have f2 := ti_25
    exact hQ _ (by omega)
  · skip
    have f2 := ti_25
    exact hQ _ (by omega)
  · skip
    exact hQ _ (by omega)
  · skip
    exact hQ _ (by omega)
  · skip
    exact hQ _ (by omega)
  · skip
    have f2 := ti_25
    exact hQ _ (by omega)
theorem s_X8_scanDigits_38_all {g : gM} {Q : Int32 → dM → Prop} (hG : Gd g) (hQ : ∀ (r : Int32) (m' : dM), Inv g m' → (0 ≤ r.toInt ∧ r.toInt ≤ 2000) → Q r m') : ∀ n : Nat, (∀ (x1 : Int32) (x2 : Int32) (y3 : Int64) (x5 : Int32) (m : dM), Inv g m → (0 ≤ x1.toInt ∧ x1.toInt ≤ 400) → (0 ≤ x2.toInt ∧ x2.toInt ≤ 1999) → (0 ≤ x5.toInt ∧ x5.toInt ≤ 2000) → 2001 - 1 * x5.toInt < (n : Int) → j_X8_scanDigits_38_5 3 x1 x2 y3 x5 m Q) ∧ (∀ (x1 : Int32) (x2 : Int32) (y3 : Int64) (x5 : Int32) (m : dM), Inv g m → (0 ≤ x1.toInt ∧ x1.toInt ≤ 400) → (0 ≤ x2.toInt ∧ x2.toInt ≤ 1999) → (0 ≤ x5.toInt ∧ x5.toInt ≤ 2000) → 0 < (n : Int) → j_X8_scanDigits_38_54 3 x1 x2 y3 x5 m Q) := by
  intro n
  induction n with
  | zero => exact ⟨fun x1 x2 y3 x5 m hI h1 h2 h5 hμ => by exfalso; omega, fun x1 x2 y3 x5 m hI h1 h2 h5 hμ => by exfalso; omega⟩
  | succ n ih =>
    refine ⟨?_, ?_⟩
    · intro x1 x2 y3 x5 m hI h1 h2 h5 hμ
      refine v_X8_scanDigits_38_5 ?_
      have f1 := Inv.w hI (k := 38) (j := 5) rfl
      refine ⟨fun hc2 => ?_, fun hc2 => ?_⟩
      · skip
        exact ih.2 _ _ _ _ _ hI (by omega) (by omega) (by omega) (by omega)
      · skip
        have f3 := dSubE (X := x5.toInt) (Y := x2.toInt) (x := x5) (y := x2) rfl rfl (by omega) (by omega)
        refine ⟨fun hc4 => ?_, fun hc4 => ?_⟩
        · skip
          exact ih.2 _ _ _ _ _ hI (by omega) (by omega) (by omega) (by omega)
        · skip
          refine Wp.deep (s_X8_isDigitAt_38 hG hI (by omega) (fun R5 hr5 => ?_)) (Nat.le_of_ble_eq_true rfl)
          refine ⟨fun hc6 => ?_, fun hc6 => ?_⟩
          · skip
            exact ih.2 _ _ _ _ _ hI (by omega) (by omega) (by omega) (by omega)
          · skip
            refine Wp.deep (s_X8_byteAt_38 hG hI (by omega) (fun R7 hr7 => ?_)) (Nat.le_of_ble_eq_true rfl)
            have f8 := dAddE (X := x5.toInt) (Y := 1) (x := x5) (y := (1 : Int32)) rfl (by decide) (by omega) (by omega)
            exact ih.1 _ _ _ _ _ hI (by omega) (by omega) (by omega) (by omega)
    · intro x1 x2 y3 x5 m hI h1 h2 h5 hμ
      refine v_X8_scanDigits_38_54 ?_
      refine ⟨by omega, ?_⟩
      have f1 := dSubE (X := x5.toInt) (Y := x2.toInt) (x := x5) (y := x2) rfl rfl (by omega) (by omega)
      refine ⟨fun hc2 => ?_, fun hc2 => ?_⟩
      · skip
        refine ⟨by omega, ?_⟩
        have I3 : Inv g (dSetL m 41 x1.toNatClampNeg y3) := (Inv.setL hI)
        have I4 : Inv g (dSet (dSetL m 41 x1.toNatClampNeg y3) 39 x1.toNatClampNeg (23 : Int32)) := (Inv.setA I3 rfl)
        exact hQ _ _ I4 (by omega)
      · skip
        refine ⟨by omega, ?_⟩
        have I3 : Inv g (dSetL m 41 x1.toNatClampNeg y3) := (Inv.setL hI)
        have I4 : Inv g (dSet (dSetL m 41 x1.toNatClampNeg y3) 39 x1.toNatClampNeg (25 : Int32)) := (Inv.setA I3 rfl)
        exact hQ _ _ I4 (by omega)
theorem s_X8_scanDigits_38 {g : gM} {x1 : Int32} {x2 : Int32} {m : dM} {Q : Int32 → dM → Prop} (hG : Gd g) (hI : Inv g m) (h1 : 0 ≤ x1.toInt ∧ x1.toInt ≤ 400) (h2 : 0 ≤ x2.toInt ∧ x2.toInt ≤ 1999) (hQ : ∀ (r : Int32) (m' : dM), Inv g m' → (0 ≤ r.toInt ∧ r.toInt ≤ 2000) → Q r m') : c_X8_scanDigits_38 3 x1 x2 m Q := by
  refine v_X8_scanDigits_38 ?_
  exact (s_X8_scanDigits_38_all hG hQ 2003).1 _ _ _ _ _ hI (by omega) (by omega) (by omega) (by omega)
theorem s_X8_withLetter {g : gM} {y0 : Int64} {x2 : Int32} {m : dM} {Q : Int64 → dM → Prop} (hG : Gd g) (hI : Inv g m) (h2 : 0 ≤ x2.toInt ∧ x2.toInt ≤ 255) (hQ : ∀ r : Int64, Q r m) : c_X8_withLetter 1 y0 x2 m Q := by
  refine v_X8_withLetter ?_
  exact hQ _
theorem s_X8_wordOrName_38_all {g : gM} {Q : Int32 → dM → Prop} {m : dM} (hG : Gd g) (hI : Inv g m) (hQ : ∀ r : Int32, (0 ≤ r.toInt ∧ r.toInt ≤ 22) → Q r m) : ∀ n : Nat, (∀ (y1 : Int64) (x3 : Int32), (0 ≤ x3.toInt ∧ x3.toInt ≤ 22) → 22 - 1 * x3.toInt < (n : Int) → j_X8_wordOrName_38_2 1 y1 x3 m Q) := by
  intro n
  induction n with
  | zero => exact fun y1 x3 h3 hμ => by exfalso; omega
  | succ n ih =>
    · intro y1 x3 h3 hμ
      refine v_X8_wordOrName_38_2 ?_
      refine ⟨fun hc1 => ?_, fun hc1 => ?_⟩
      · skip
        have f2 := ti_22
        exact hQ _ (by omega)
      · skip
        refine ⟨by omega, ?_⟩
        have f2 := dCmpE (tKv x3.toNatClampNeg) y1
        refine ⟨fun hc3 => ?_, fun hc3 => ?_⟩
        · skip
          have f4 := dAddE (X := x3.toInt) (Y := 1) (x := x3) (y := (1 : Int32)) rfl (by decide) (by omega) (by omega)
          exact ih _ _ (by omega) (by omega)
        · skip
          exact hQ _ (by omega)
theorem s_X8_wordOrName_38 {g : gM} {y1 : Int64} {m : dM} {Q : Int32 → dM → Prop} (hG : Gd g) (hI : Inv g m) (hQ : ∀ r : Int32, (0 ≤ r.toInt ∧ r.toInt ≤ 22) → Q r m) : c_X8_wordOrName_38 1 y1 m Q := by
  refine v_X8_wordOrName_38 ?_
  have f1 := ti_0
  exact (s_X8_wordOrName_38_all hG hI hQ 24) _ _ (by omega) (by omega)
theorem s_X8_scanLetters_38_all {g : gM} {Q : Int32 → dM → Prop} (hG : Gd g) (hQ : ∀ (r : Int32) (m' : dM), Inv g m' → (0 ≤ r.toInt ∧ r.toInt ≤ 2000) → Q r m') : ∀ n : Nat, (∀ (x1 : Int32) (x2 : Int32) (y3 : Int64) (x5 : Int32) (m : dM), Inv g m → (0 ≤ x1.toInt ∧ x1.toInt ≤ 400) → (0 ≤ x2.toInt ∧ x2.toInt ≤ 1999) → (0 ≤ x5.toInt ∧ x5.toInt ≤ 2000) → 2001 - 1 * x5.toInt < (n : Int) → j_X8_scanLetters_38_5 3 x1 x2 y3 x5 m Q) ∧ (∀ (x1 : Int32) (x2 : Int32) (y3 : Int64) (x5 : Int32) (m : dM), Inv g m → (0 ≤ x1.toInt ∧ x1.toInt ≤ 400) → (0 ≤ x2.toInt ∧ x2.toInt ≤ 1999) → (0 ≤ x5.toInt ∧ x5.toInt ≤ 2000) → 0 < (n : Int) → j_X8_scanLetters_38_49 3 x1 x2 y3 x5 m Q) := by
  intro n
  induction n with
  | zero => exact ⟨fun x1 x2 y3 x5 m hI h1 h2 h5 hμ => by exfalso; omega, fun x1 x2 y3 x5 m hI h1 h2 h5 hμ => by exfalso; omega⟩
  | succ n ih =>
    refine ⟨?_, ?_⟩
    · intro x1 x2 y3 x5 m hI h1 h2 h5 hμ
      refine v_X8_scanLetters_38_5 ?_
      have f1 := Inv.w hI (k := 38) (j := 5) rfl
      refine ⟨fun hc2 => ?_, fun hc2 => ?_⟩
      · skip
        exact ih.2 _ _ _ _ _ hI (by omega) (by omega) (by omega) (by omega)
      · skip
        have f3 := dSubE (X := x5.toInt) (Y := x2.toInt) (x := x5) (y := x2) rfl rfl (by omega) (by omega)
        refine ⟨fun hc4 => ?_, fun hc4 => ?_⟩
        · skip
          exact ih.2 _ _ _ _ _ hI (by omega) (by omega) (by omega) (by omega)
        · skip
          refine Wp.deep (s_X8_isLetterAt_38 hG hI (by omega) (fun R5 hr5 => ?_)) (Nat.le_of_ble_eq_true rfl)
          refine ⟨fun hc6 => ?_, fun hc6 => ?_⟩
          · skip
            exact ih.2 _ _ _ _ _ hI (by omega) (by omega) (by omega) (by omega)
          · skip
            refine Wp.deep (s_X8_byteAt_38 hG hI (by omega) (fun R7 hr7 => ?_)) (Nat.le_of_ble_eq_true rfl)
            refine Wp.deep (s_X8_withLetter hG hI (by omega) (fun R8 => ?_)) (Nat.le_of_ble_eq_true rfl)
            have f9 := dAddE (X := x5.toInt) (Y := 1) (x := x5) (y := (1 : Int32)) rfl (by decide) (by omega) (by omega)
            exact ih.1 _ _ _ _ _ hI (by omega) (by omega) (by omega) (by omega)
    · intro x1 x2 y3 x5 m hI h1 h2 h5 hμ
      refine v_X8_scanLetters_38_49 ?_
      refine ⟨by omega, ?_⟩
      have f1 := dSubE (X := x5.toInt) (Y := x2.toInt) (x := x5) (y := x2) rfl rfl (by omega) (by omega)
      refine ⟨fun hc2 => ?_, fun hc2 => ?_⟩
      · skip
        have I3 : Inv g (dSetL m 41 x1.toNatClampNeg y3) := (Inv.setL hI)
        refine Wp.deep (s_X8_wordOrName_38 hG I3 (fun R4 hr4 => ?_)) (Nat.le_of_ble_eq_true rfl)
        refine ⟨by omega, ?_⟩
        have I5 : Inv g (dSet (dSetL m 41 x1.toNatClampNeg y3) 39 x1.toNatClampNeg R4) := (Inv.setA I3 rfl)
        exact hQ _ _ I5 (by omega)
      · skip
        refine ⟨by omega, ?_⟩
        have I3 : Inv g (dSetL m 41 x1.toNatClampNeg y3) := (Inv.setL hI)
        have I4 : Inv g (dSet (dSetL m 41 x1.toNatClampNeg y3) 39 x1.toNatClampNeg (25 : Int32)) := (Inv.setA I3 rfl)
        exact hQ _ _ I4 (by omega)
theorem s_X8_scanLetters_38 {g : gM} {x1 : Int32} {x2 : Int32} {m : dM} {Q : Int32 → dM → Prop} (hG : Gd g) (hI : Inv g m) (h1 : 0 ≤ x1.toInt ∧ x1.toInt ≤ 400) (h2 : 0 ≤ x2.toInt ∧ x2.toInt ≤ 1999) (hQ : ∀ (r : Int32) (m' : dM), Inv g m' → (0 ≤ r.toInt ∧ r.toInt ≤ 2000) → Q r m') : c_X8_scanLetters_38 3 x1 x2 m Q := by
  refine v_X8_scanLetters_38 ?_
  exact (s_X8_scanLetters_38_all hG hQ 2003).1 _ _ _ _ _ hI (by omega) (by omega) (by omega) (by omega)
theorem s_X8_scanOne_38 {g : gM} {x1 : Int32} {x2 : Int32} {m : dM} {Q : Int32 → dM → Prop} (hG : Gd g) (hI : Inv g m) (h1 : 0 ≤ x1.toInt ∧ x1.toInt ≤ 400) (h2 : 0 ≤ x2.toInt ∧ x2.toInt ≤ 2000) (hQ : ∀ (r : Int32) (m' : dM), Inv g m' → (0 ≤ r.toInt ∧ r.toInt ≤ 2000) → Q r m') : c_X8_scanOne_38 4 x1 x2 m Q := by
  refine v_X8_scanOne_38 ?_
  have f1 := Inv.w hI (k := 38) (j := 5) rfl
  refine ⟨fun hc2 => ?_, fun hc2 => ?_⟩
  · skip
    refine Wp.deep (s_X8_isLetterAt_38 hG hI (by omega) (fun R3 hr3 => ?_)) (Nat.le_of_ble_eq_true rfl)
    refine ⟨fun hc4 => ?_, fun hc4 => ?_⟩
    · skip
      refine Wp.deep (s_X8_isDigitAt_38 hG hI (by omega) (fun R5 hr5 => ?_)) (Nat.le_of_ble_eq_true rfl)
      refine ⟨fun hc6 => ?_, fun hc6 => ?_⟩
      · skip
        refine Wp.deep (s_X8_byteAt_38 hG hI (by omega) (fun R7 hr7 => ?_)) (Nat.le_of_ble_eq_true rfl)
        refine Wp.deep (s_X8_signOf hG hI (by omega) (fun R8 hr8 => ?_)) (Nat.le_of_ble_eq_true rfl)
        refine ⟨by omega, ?_⟩
        have f9 := dAddE (X := x2.toInt) (Y := 1) (x := x2) (y := (1 : Int32)) rfl (by decide) (by omega) (by omega)
        have I10 : Inv g (dSet m 39 x1.toNatClampNeg R8) := (Inv.setA hI rfl)
        exact hQ _ _ I10 (by omega)
      · skip
        refine Wp.deep (s_X8_scanDigits_38 hG hI (by omega) (by omega) (fun R7 M7 I7 hr7 => ?_)) (Nat.le_of_ble_eq_true rfl)
        exact hQ _ _ I7 (by omega)
    · skip
      refine Wp.deep (s_X8_scanLetters_38 hG hI (by omega) (by omega) (fun R5 M5 I5 hr5 => ?_)) (Nat.le_of_ble_eq_true rfl)
      exact hQ _ _ I5 (by omega)
  · skip
    refine ⟨by omega, ?_⟩
    have I3 : Inv g (dSet m 39 x1.toNatClampNeg (24 : Int32)) := (Inv.setA hI rfl)
    exact hQ _ _ I3 (by omega)
theorem s_X8_scan_38_1_all {g : gM} {Q : dM → Prop} (hG : Gd g) (hQ : ∀ m' : dM, Inv g m' → Q m') : ∀ n : Nat, (∀ (x3 : Int32) (x4 : Int32) (m : dM), Inv g m → (0 ≤ x3.toInt ∧ x3.toInt ≤ 2000) → (0 ≤ x4.toInt ∧ x4.toInt ≤ 401) → 402 - 1 * x4.toInt < (n : Int) → j_X8_scan_38_1_20 5 x3 x4 m Q) ∧ (∀ (m : dM), Inv g m → 0 < (n : Int) → j_X8_scan_38_1_74 5 m Q) := by
  intro n
  induction n with
  | zero => exact ⟨fun x3 x4 m hI h3 h4 hμ => by exfalso; omega, fun m hI hμ => by exfalso; omega⟩
  | succ n ih =>
    refine ⟨?_, ?_⟩
    · intro x3 x4 m hI h3 h4 hμ
      refine v_X8_scan_38_1_20 ?_
      refine ⟨fun hc1 => ?_, fun hc1 => ?_⟩
      · skip
        exact hQ _ hI
      · skip
        refine Wp.deep (s_X8_pastBlanks_38 hG hI (by omega) (fun R2 hr2 => ?_)) (Nat.le_of_ble_eq_true rfl)
        refine ⟨by omega, ?_⟩
        have I3 : Inv g (dSet m 40 x4.toNatClampNeg R2) := (Inv.setA hI rfl)
        refine Wp.deep (s_X8_scanOne_38 hG I3 (by omega) (by omega) (fun R4 M4 I4 hr4 => ?_)) (Nat.le_of_ble_eq_true rfl)
        refine ⟨by omega, ?_⟩
        refine ⟨fun hc5 => ?_, fun hc5 => ?_⟩
        · skip
          exact ih.2 _ I4 (by omega)
        · skip
          refine ⟨by omega, ?_⟩
          refine ⟨fun hc6 => ?_, fun hc6 => ?_⟩
          · skip
            have f7 := dAddE (X := x4.toInt) (Y := 1) (x := x4) (y := (1 : Int32)) rfl (by decide) (by omega) (by omega)
            exact ih.1 _ _ _ I4 (by omega) (by omega) (by omega)
          · skip
            exact ih.2 _ I4 (by omega)
    · intro m hI hμ
      refine v_X8_scan_38_1_74 ?_
      exact hQ _ hI
theorem s_X8_scan_38_1 {g : gM} {x2 : Int32} {m : dM} {Q : dM → Prop} (hG : Gd g) (hI : Inv g m) (h2 : 0 ≤ x2.toInt ∧ x2.toInt ≤ 2000) (hQ : ∀ m' : dM, Inv g m' → Q m') : c_X8_scan_38_1 5 x2 m Q := by
  refine v_X8_scan_38_1 ?_
  have f1 := ti_0
  have I2 : Inv g (dTx m) := (Inv.tx hI)
  have f3 := ti_2000
  have f4 := dMinE x2 (2000 : Int32)
  have I5 : Inv g (dSet (dTx m) 38 5 (if (2000 : Int32) < x2 then (2000 : Int32) else x2)) := (Inv.set I2 rfl (by omega) (by omega))
  exact (s_X8_scan_38_1_all hG hQ 404).1 _ _ _ I5 (by omega) (by omega) (by omega)
theorem s_X4_begin_29 {g : gM} {x1 : Int32} {m : dM} {Q : dM → Prop} (hG : Gd g) (hI : Inv g m) (h1 : 0 ≤ x1.toInt ∧ x1.toInt ≤ 3) (hQ : ∀ m' : dM, Inv g m' → Q m') : c_X4_begin_29 1 x1 m Q := by
  refine v_X4_begin_29 ?_
  refine ⟨by omega, ?_⟩
  refine ⟨by omega, fun hc1 => ?_, fun hc2 => ?_, fun hc3 => ?_, fun hc4 => ?_⟩
  · skip
    have f5 := ti_0
    have I6 : Inv g (dSet m 36 x1.toNatClampNeg (0 : Int32)) := (Inv.set hI rfl (by omega) (by omega))
    have f7 := Inv.w hI (k := 29) (j := 1) rfl
    have I8 : Inv g (dSet (dSet m 36 x1.toNatClampNeg (0 : Int32)) 32 0 (m.1 29 1)) := (Inv.set I6 rfl (by omega) (by omega))
    exact hQ _ I8
  · skip
    have f5 := ti_0
    have I6 : Inv g (dSet m 36 x1.toNatClampNeg (0 : Int32)) := (Inv.set hI rfl (by omega) (by omega))
    have f7 := Inv.w hI (k := 29) (j := 1) rfl
    have I8 : Inv g (dSet (dSet m 36 x1.toNatClampNeg (0 : Int32)) 33 0 (m.1 29 1)) := (Inv.set I6 rfl (by omega) (by omega))
    exact hQ _ I8
  · skip
    have f5 := ti_0
    have I6 : Inv g (dSet m 36 x1.toNatClampNeg (0 : Int32)) := (Inv.set hI rfl (by omega) (by omega))
    have f7 := Inv.w hI (k := 29) (j := 1) rfl
    have I8 : Inv g (dSet (dSet m 36 x1.toNatClampNeg (0 : Int32)) 34 0 (m.1 29 1)) := (Inv.set I6 rfl (by omega) (by omega))
    exact hQ _ I8
  · skip
    have f5 := ti_0
    have I6 : Inv g (dSet m 36 x1.toNatClampNeg (0 : Int32)) := (Inv.set hI rfl (by omega) (by omega))
    have f7 := Inv.w hI (k := 29) (j := 1) rfl
    have I8 : Inv g (dSet (dSet m 36 x1.toNatClampNeg (0 : Int32)) 35 0 (m.1 29 1)) := (Inv.set I6 rfl (by omega) (by omega))
    exact hQ _ I8
theorem s_X4_put_29 {g : gM} {x1 : Int32} {m : dM} {Q : dM → Prop} (hG : Gd g) (hI : Inv g m) (hQ : ∀ m' : dM, Inv g m' → Q m') : c_X4_put_29 1 x1 m Q := by
  refine v_X4_put_29 ?_
  have f1 := Inv.w hI (k := 29) (j := 1) rfl
  refine ⟨fun hc2 => ?_, fun hc2 => ?_⟩
  · skip
    refine v_X4_put_29_32 ?_
    exact hQ _ hI
  · skip
    refine ⟨by omega, ?_⟩
    refine v_X4_put_29_32 ?_
    have I3 : Inv g (dSet m 30 (m.1 29 1).toNatClampNeg x1) := (Inv.setA hI rfl)
    have f4 := dAddE (X := (m.1 29 1).toInt) (Y := 1) (x := (m.1 29 1)) (y := (1 : Int32)) rfl (by decide) (by omega) (by omega)
    have I5 : Inv g (dSet (dSet m 30 (m.1 29 1).toNatClampNeg x1) 29 1 ((m.1 29 1) + (1 : Int32))) := (Inv.set I3 rfl (by omega) (by omega))
    exact hQ _ I5
theorem s_X4_endPiece_29 {g : gM} {x1 : Int32} {m : dM} {Q : dM → Prop} (hG : Gd g) (hI : Inv g m) (h1 : 0 ≤ x1.toInt ∧ x1.toInt ≤ 3) (hQ : ∀ m' : dM, Inv g m' → Q m') : c_X4_endPiece_29 1 x1 m Q := by
  refine v_X4_endPiece_29 ?_
  refine ⟨by omega, ?_⟩
  have f1 := Inv.w hI (k := 36) (j := x1.toNatClampNeg) rfl
  refine ⟨fun hc2 => ?_, fun hc2 => ?_⟩
  · skip
    refine v_X4_endPiece_29_38 ?_
    exact hQ _ hI
  · skip
    refine ⟨by omega, ?_⟩
    refine ⟨by omega, ?_⟩
    refine ⟨by omega, fun hc3 => ?_, fun hc4 => ?_, fun hc5 => ?_, fun hc6 => ?_⟩
    · skip
      refine ⟨by omega, ?_⟩
      have f7 := dAddE (X := (m.1 36 x1.toNatClampNeg).toInt) (Y := 1) (x := (m.1 36 x1.toNatClampNeg)) (y := (1 : Int32)) rfl (by decide) (by omega) (by omega)
      refine ⟨by omega, ?_⟩
      refine v_X4_endPiece_29_38 ?_
      have I8 : Inv g (dSet m 36 x1.toNatClampNeg ((m.1 36 x1.toNatClampNeg) + (1 : Int32))) := (Inv.set hI rfl (by omega) (by omega))
      have f9 := Inv.w hI (k := 29) (j := 1) rfl
      have I10 : Inv g (dSet (dSet m 36 x1.toNatClampNeg ((m.1 36 x1.toNatClampNeg) + (1 : Int32))) 32 ((m.1 36 x1.toNatClampNeg) + (1 : Int32)).toNatClampNeg (m.1 29 1)) := (Inv.set I8 rfl (by omega) (by omega))
      exact hQ _ I10
    · skip
      refine ⟨by omega, ?_⟩
      have f7 := dAddE (X := (m.1 36 x1.toNatClampNeg).toInt) (Y := 1) (x := (m.1 36 x1.toNatClampNeg)) (y := (1 : Int32)) rfl (by decide) (by omega) (by omega)
      refine ⟨by omega, ?_⟩
      refine v_X4_endPiece_29_38 ?_
      have I8 : Inv g (dSet m 36 x1.toNatClampNeg ((m.1 36 x1.toNatClampNeg) + (1 : Int32))) := (Inv.set hI rfl (by omega) (by omega))
      have f9 := Inv.w hI (k := 29) (j := 1) rfl
      have I10 : Inv g (dSet (dSet m 36 x1.toNatClampNeg ((m.1 36 x1.toNatClampNeg) + (1 : Int32))) 33 ((m.1 36 x1.toNatClampNeg) + (1 : Int32)).toNatClampNeg (m.1 29 1)) := (Inv.set I8 rfl (by omega) (by omega))
      exact hQ _ I10
    · skip
      refine ⟨by omega, ?_⟩
      have f7 := dAddE (X := (m.1 36 x1.toNatClampNeg).toInt) (Y := 1) (x := (m.1 36 x1.toNatClampNeg)) (y := (1 : Int32)) rfl (by decide) (by omega) (by omega)
      refine ⟨by omega, ?_⟩
      refine v_X4_endPiece_29_38 ?_
      have I8 : Inv g (dSet m 36 x1.toNatClampNeg ((m.1 36 x1.toNatClampNeg) + (1 : Int32))) := (Inv.set hI rfl (by omega) (by omega))
      have f9 := Inv.w hI (k := 29) (j := 1) rfl
      have I10 : Inv g (dSet (dSet m 36 x1.toNatClampNeg ((m.1 36 x1.toNatClampNeg) + (1 : Int32))) 34 ((m.1 36 x1.toNatClampNeg) + (1 : Int32)).toNatClampNeg (m.1 29 1)) := (Inv.set I8 rfl (by omega) (by omega))
      exact hQ _ I10
    · skip
      refine ⟨by omega, ?_⟩
      have f7 := dAddE (X := (m.1 36 x1.toNatClampNeg).toInt) (Y := 1) (x := (m.1 36 x1.toNatClampNeg)) (y := (1 : Int32)) rfl (by decide) (by omega) (by omega)
      refine ⟨by omega, ?_⟩
      refine v_X4_endPiece_29_38 ?_
      have I8 : Inv g (dSet m 36 x1.toNatClampNeg ((m.1 36 x1.toNatClampNeg) + (1 : Int32))) := (Inv.set hI rfl (by omega) (by omega))
      have f9 := Inv.w hI (k := 29) (j := 1) rfl
      have I10 : Inv g (dSet (dSet m 36 x1.toNatClampNeg ((m.1 36 x1.toNatClampNeg) + (1 : Int32))) 35 ((m.1 36 x1.toNatClampNeg) + (1 : Int32)).toNatClampNeg (m.1 29 1)) := (Inv.set I8 rfl (by omega) (by omega))
      exact hQ _ I10
theorem s_X4_clear_29 {g : gM} {m : dM} {Q : dM → Prop} (hG : Gd g) (hI : Inv g m) (hQ : ∀ m' : dM, Inv g m' → Q m') : c_X4_clear_29 2 m Q := by
  refine v_X4_clear_29 ?_
  have f1 := ti_0
  have I2 : Inv g (dSet m 29 1 (0 : Int32)) := (Inv.set hI rfl (by omega) (by omega))
  refine Wp.deep (s_X4_begin_29 hG I2 (by omega) (fun M3 I3 => ?_)) (Nat.le_of_ble_eq_true rfl)
  have f4 := ti_4
  refine Wp.deep (s_X4_put_29 hG I3 (fun M5 I5 => ?_)) (Nat.le_of_ble_eq_true rfl)
  have f6 := ti_5
  refine Wp.deep (s_X4_put_29 hG I5 (fun M7 I7 => ?_)) (Nat.le_of_ble_eq_true rfl)
  have f8 := ti_1
  refine Wp.deep (s_X4_put_29 hG I7 (fun M9 I9 => ?_)) (Nat.le_of_ble_eq_true rfl)
  refine Wp.deep (s_X4_endPiece_29 hG I9 (by omega) (fun M10 I10 => ?_)) (Nat.le_of_ble_eq_true rfl)
  refine Wp.deep (s_X4_begin_29 hG I10 (by omega) (fun M11 I11 => ?_)) (Nat.le_of_ble_eq_true rfl)
  have f12 := ti_13
  refine Wp.deep (s_X4_put_29 hG I11 (fun M13 I13 => ?_)) (Nat.le_of_ble_eq_true rfl)
  refine Wp.deep (s_X4_endPiece_29 hG I13 (by omega) (fun M14 I14 => ?_)) (Nat.le_of_ble_eq_true rfl)
  have f15 := ti_2
  refine Wp.deep (s_X4_begin_29 hG I14 (by omega) (fun M16 I16 => ?_)) (Nat.le_of_ble_eq_true rfl)
  refine Wp.deep (s_X4_put_29 hG I16 (fun M17 I17 => ?_)) (Nat.le_of_ble_eq_true rfl)
  refine Wp.deep (s_X4_endPiece_29 hG I17 (by omega) (fun M18 I18 => ?_)) (Nat.le_of_ble_eq_true rfl)
  have f19 := ti_3
  refine Wp.deep (s_X4_begin_29 hG I18 (by omega) (fun M20 I20 => ?_)) (Nat.le_of_ble_eq_true rfl)
  have f21 := ti_9
  refine Wp.deep (s_X4_put_29 hG I20 (fun M22 I22 => ?_)) (Nat.le_of_ble_eq_true rfl)
  refine Wp.deep (s_X4_endPiece_29 hG I22 (by omega) (fun M23 I23 => ?_)) (Nat.le_of_ble_eq_true rfl)
  exact hQ _ I23
theorem s_X2_step_43 {g : gM} {m : dM} {Q : Int32 → dM → Prop} (hG : Gd g) (hI : Inv g m) (hQ : ∀ (r : Int32) (m' : dM), Inv g m' → (0 ≤ r.toInt ∧ r.toInt ≤ 1) → Q r m') : c_X2_step_43 1 m Q := by
  refine v_X2_step_43 ?_
  refine ⟨fun hc1 => ?_, fun hc1 => ?_⟩
  · skip
    have f2 := ti_1
    have I3 : Inv g (dSet m 43 2 ((m.1 43 2) + (1 : Int32))) := (Inv.setA hI rfl)
    exact hQ _ _ I3 (by omega)
  · skip
    have f2 := ti_0
    have I3 : Inv g (dSet m 43 3 (2 : Int32)) := (Inv.setA hI rfl)
    exact hQ _ _ I3 (by omega)
theorem s_X2_fail_43 {g : gM} {x1 : Int32} {m : dM} {Q : Int32 → dM → Prop} (hG : Gd g) (hI : Inv g m) (hQ : ∀ (r : Int32) (m' : dM), Inv g m' → (0 ≤ r.toInt ∧ r.toInt ≤ 0) → Q r m') : c_X2_fail_43 1 x1 m Q := by
  refine v_X2_fail_43 ?_
  have f1 := ti_0
  have I2 : Inv g (dSet m 43 3 x1) := (Inv.setA hI rfl)
  exact hQ _ _ I2 (by omega)
theorem s_X2_need_43 {g : gM} {x1 : Int32} {m : dM} {Q : Int32 → dM → Prop} (hG : Gd g) (hI : Inv g m) (hQ : ∀ (r : Int32) (m' : dM), Inv g m' → (0 ≤ r.toInt ∧ r.toInt ≤ 1) → Q r m') : c_X2_need_43 2 x1 m Q := by
  refine v_X2_need_43 ?_
  refine v_X2_kind_43 ?_
  refine ⟨fun hc1 => ?_, fun hc1 => ?_⟩
  · skip
    refine v_X2_kind_43_32 ?_
    have f2 := ti_24
    refine ⟨fun hc3 => ?_, fun hc3 => ?_⟩
    · skip
      have f4 := ti_1
      refine Wp.deep (s_X2_fail_43 hG hI (fun R5 M5 I5 hr5 => ?_)) (Nat.le_of_ble_eq_true rfl)
      refine ⟨dB01 (by omega), ?_⟩
      exact hQ _ _ I5 (by omega)
    · skip
      refine Wp.deep (s_X2_step_43 hG hI (fun R4 M4 I4 hr4 => ?_)) (Nat.le_of_ble_eq_true rfl)
      refine ⟨dB01 (by omega), ?_⟩
      exact hQ _ _ I4 (by omega)
  · skip
    refine ⟨fun hc2 => ?_, fun hc2 => ?_⟩
    · skip
      refine v_X2_kind_43_32 ?_
      have f3 := ti_24
      refine ⟨fun hc4 => ?_, fun hc4 => ?_⟩
      · skip
        have f5 := ti_1
        refine Wp.deep (s_X2_fail_43 hG hI (fun R6 M6 I6 hr6 => ?_)) (Nat.le_of_ble_eq_true rfl)
        refine ⟨dB01 (by omega), ?_⟩
        exact hQ _ _ I6 (by omega)
      · skip
        refine Wp.deep (s_X2_step_43 hG hI (fun R5 M5 I5 hr5 => ?_)) (Nat.le_of_ble_eq_true rfl)
        refine ⟨dB01 (by omega), ?_⟩
        exact hQ _ _ I5 (by omega)
    · skip
      refine ⟨by omega, ?_⟩
      refine ⟨fun hc3 => ?_, fun hc3 => ?_⟩
      · skip
        have f4 := ti_1
        refine Wp.deep (s_X2_fail_43 hG hI (fun R5 M5 I5 hr5 => ?_)) (Nat.le_of_ble_eq_true rfl)
        refine ⟨dB01 (by omega), ?_⟩
        exact hQ _ _ I5 (by omega)
      · skip
        refine Wp.deep (s_X2_step_43 hG hI (fun R4 M4 I4 hr4 => ?_)) (Nat.le_of_ble_eq_true rfl)
        refine ⟨dB01 (by omega), ?_⟩
        exact hQ _ _ I4 (by omega)
theorem s_X2_checkRow_43_all {g : gM} {Q : dM → Prop} (hG : Gd g) (hQ : ∀ m' : dM, Inv g m' → Q m') : ∀ n : Nat, (∀ (x1 : Int32) (x2 : Int32) (x3 : Int32) (x4 : Int32) (m : dM), Inv g m → (0 ≤ x1.toInt ∧ x1.toInt ≤ 2) → (1 ≤ x2.toInt ∧ x2.toInt ≤ 3) → (0 ≤ x3.toInt ∧ x3.toInt ≤ 1) → (0 ≤ x4.toInt ∧ x4.toInt ≤ 2) → 9 - 1 * x4.toInt < (n : Int) → j_X2_checkRow_43_8 3 x1 x2 x3 x4 m Q) ∧ (∀ (x2 : Int32) (x3 : Int32) (m : dM), Inv g m → (1 ≤ x2.toInt ∧ x2.toInt ≤ 3) → (0 ≤ x3.toInt ∧ x3.toInt ≤ 1) → 6 < (n : Int) → j_X2_checkRow_43_31 3 x2 x3 m Q) ∧ (∀ (x2 : Int32) (x3 : Int32) (x4 : Int32) (m : dM), Inv g m → (1 ≤ x2.toInt ∧ x2.toInt ≤ 3) → (0 ≤ x3.toInt ∧ x3.toInt ≤ 1) → (0 ≤ x4.toInt ∧ x4.toInt ≤ 3) → 5 - 1 * x4.toInt < (n : Int) → j_X2_checkRow_43_34 3 x2 x3 x4 m Q) ∧ (∀ (x3 : Int32) (m : dM), Inv g m → (0 ≤ x3.toInt ∧ x3.toInt ≤ 1) → 1 < (n : Int) → j_X2_checkRow_43_57 3 x3 m Q) ∧ (∀ (m : dM), Inv g m → 0 < (n : Int) → j_X2_checkRow_43_68 3 m Q) := by
  intro n
  induction n with
  | zero => exact ⟨fun x1 x2 x3 x4 m hI h1 h2 h3 h4 hμ => by exfalso; omega, fun x2 x3 m hI h2 h3 hμ => by exfalso; omega, fun x2 x3 x4 m hI h2 h3 h4 hμ => by exfalso; omega, fun x3 m hI h3 hμ => by exfalso; omega, fun m hI hμ => by exfalso; omega⟩
  | succ n ih =>
    refine ⟨?_, ?_, ?_, ?_, ?_⟩
    · intro x1 x2 x3 x4 m hI h1 h2 h3 h4 hμ
      refine v_X2_checkRow_43_8 ?_
      refine ⟨fun hc1 => ?_, fun hc1 => ?_⟩
      · skip
        exact ih.2.1 _ _ _ hI (by omega) (by omega) (by omega)
      · skip
        refine ⟨fun hc2 => ?_, fun hc2 => ?_⟩
        · skip
          exact ih.2.1 _ _ _ hI (by omega) (by omega) (by omega)
        · skip
          have f3 := ti_22
          refine Wp.deep (s_X2_need_43 hG hI (fun R4 M4 I4 hr4 => ?_)) (Nat.le_of_ble_eq_true rfl)
          have f5 := dAddE (X := x4.toInt) (Y := 1) (x := x4) (y := (1 : Int32)) rfl (by decide) (by omega) (by omega)
          exact ih.1 _ _ _ _ _ I4 (by omega) (by omega) (by omega) (by omega) (by omega)
    · intro x2 x3 m hI h2 h3 hμ
      refine v_X2_checkRow_43_31 ?_
      have f1 := ti_0
      exact ih.2.2.1 _ _ _ _ hI (by omega) (by omega) (by omega) (by omega)
    · intro x2 x3 x4 m hI h2 h3 h4 hμ
      refine v_X2_checkRow_43_34 ?_
      refine ⟨fun hc1 => ?_, fun hc1 => ?_⟩
      · skip
        exact ih.2.2.2.1 _ _ hI (by omega) (by omega)
      · skip
        refine ⟨fun hc2 => ?_, fun hc2 => ?_⟩
        · skip
          exact ih.2.2.2.1 _ _ hI (by omega) (by omega)
        · skip
          have f3 := ti_23
          refine Wp.deep (s_X2_need_43 hG hI (fun R4 M4 I4 hr4 => ?_)) (Nat.le_of_ble_eq_true rfl)
          have f5 := dAddE (X := x4.toInt) (Y := 1) (x := x4) (y := (1 : Int32)) rfl (by decide) (by omega) (by omega)
          exact ih.2.2.1 _ _ _ _ I4 (by omega) (by omega) (by omega) (by omega)
    · intro x3 m hI h3 hμ
      refine v_X2_checkRow_43_57 ?_
      refine ⟨fun hc1 => ?_, fun hc1 => ?_⟩
      · skip
        exact ih.2.2.2.2 _ hI (by omega)
      · skip
        have f2 := ti_59
        refine Wp.deep (s_X2_need_43 hG hI (fun R3 M3 I3 hr3 => ?_)) (Nat.le_of_ble_eq_true rfl)
        exact ih.2.2.2.2 _ I3 (by omega)
    · intro m hI hμ
      refine v_X2_checkRow_43_68 ?_
      exact hQ _ hI
theorem s_X2_checkRow_43 {g : gM} {x1 : Int32} {x2 : Int32} {m : dM} {Q : dM → Prop} (hG : Gd g) (hI : Inv g m) (h1 : 0 ≤ x1.toInt ∧ x1.toInt ≤ 2) (h2 : 1 ≤ x2.toInt ∧ x2.toInt ≤ 3) (hQ : ∀ m' : dM, Inv g m' → Q m') : c_X2_checkRow_43 3 x1 x2 m Q := by
  refine v_X2_checkRow_43 ?_
  refine Wp.deep (s_X2_step_43 hG hI (fun R1 M1 I1 hr1 => ?_)) (Nat.le_of_ble_eq_true rfl)
  have f2 := ti_0
  exact (s_X2_checkRow_43_all hG hQ 11).1 _ _ _ _ _ I1 (by omega) (by omega) (by omega) (by omega) (by omega)
theorem s_X2_checkCounted_43 {g : gM} {x1 : Int32} {x2 : Int32} {x3 : Int32} {x4 : Int32} {m : dM} {Q : dM → Prop} (hG : Gd g) (hI : Inv g m) (h2 : 7 ≤ x2.toInt ∧ x2.toInt ≤ 10) (h3 : 1 ≤ x3.toInt ∧ x3.toInt ≤ 2) (h4 : 1 ≤ x4.toInt ∧ x4.toInt ≤ 3) (hQ : ∀ m' : dM, Inv g m' → Q m') : c_X2_checkCounted_43 4 x1 x2 x3 x4 m Q := by
  refine v_X2_checkCounted_43 ?_
  refine ⟨fun hc1 => ?_, fun hc1 => ?_⟩
  · skip
    refine Wp.deep (s_X2_checkRow_43 hG hI (by omega) (by omega) (fun M2 I2 => ?_)) (Nat.le_of_ble_eq_true rfl)
    refine v_X2_checkCounted_43_20 ?_
    exact hQ _ I2
  · skip
    refine v_X2_checkCounted_43_20 ?_
    have I2 : Inv g (dSet m 43 3 (2 : Int32)) := (Inv.setA hI rfl)
    exact hQ _ I2
theorem s_X8_nameAt_38 {g : gM} {x1 : Int32} {m : dM} {Q : Int64 → dM → Prop} (hG : Gd g) (hI : Inv g m) (hQ : ∀ r : Int64, Q r m) : c_X8_nameAt_38 1 x1 m Q := by
  refine v_X8_nameAt_38 ?_
  refine ⟨fun hc1 => ?_, fun hc1 => ?_⟩
  · skip
    refine v_X8_nameAt_38_20 ?_
    exact hQ _
  · skip
    refine ⟨fun hc2 => ?_, fun hc2 => ?_⟩
    · skip
      refine v_X8_nameAt_38_20 ?_
      exact hQ _
    · skip
      refine ⟨by omega, ?_⟩
      exact hQ _
theorem s_X8_numberAt_38 {g : gM} {x1 : Int32} {m : dM} {Q : Int32 → dM → Prop} (hG : Gd g) (hI : Inv g m) (hQ : ∀ r : Int32, Q r m) : c_X8_numberAt_38 2 x1 m Q := by
  refine v_X8_numberAt_38 ?_
  refine Wp.deep (s_X8_nameAt_38 hG hI (fun R1 => ?_)) (Nat.le_of_ble_eq_true rfl)
  exact hQ _
theorem s_X2_endPiece_43 {g : gM} {x1 : Int32} {x2 : Int32} {m : dM} {Q : Int32 → dM → Prop} (hG : Gd g) (hI : Inv g m) (h1 : 0 ≤ x1.toInt ∧ x1.toInt ≤ 3) (h2 : 10 ≤ x2.toInt ∧ x2.toInt ≤ 60) (hQ : ∀ (r : Int32) (m' : dM), Inv g m' → (0 ≤ r.toInt ∧ r.toInt ≤ 1) → Q r m') : c_X2_endPiece_43 3 x1 x2 m Q := by
  refine v_X2_endPiece_43 ?_
  refine Wp.deep (s_X4_endPiece_29 hG hI (by omega) (fun M1 I1 => ?_)) (Nat.le_of_ble_eq_true rfl)
  refine Wp.deep (s_X2_need_43 hG I1 (fun R2 M2 I2 hr2 => ?_)) (Nat.le_of_ble_eq_true rfl)
  refine ⟨dB01 (by omega), ?_⟩
  exact hQ _ _ I2 (by omega)
theorem s_X5_indexOf_45_all {g : gM} {Q : Int32 → dM → Prop} {m : dM} (hG : Gd g) (hI : Inv g m) (hQ : ∀ r : Int32, (-1 ≤ r.toInt ∧ r.toInt ≤ 6) → Q r m) : ∀ n : Nat, (∀ (x1 : Int32) (y2 : Int64) (x4 : Int32), (0 ≤ x1.toInt ∧ x1.toInt ≤ 7) → (0 ≤ x4.toInt ∧ x4.toInt ≤ 7) → 8 - 1 * x4.toInt < (n : Int) → j_X5_indexOf_45_3 1 x1 y2 x4 m Q) ∧ (0 < (n : Int) → j_X5_indexOf_45_34 1 m Q) := by
  intro n
  induction n with
  | zero => exact ⟨fun x1 y2 x4 h1 h4 hμ => by exfalso; omega, fun hμ => by exfalso; omega⟩
  | succ n ih =>
    refine ⟨?_, ?_⟩
    · intro x1 y2 x4 h1 h4 hμ
      refine v_X5_indexOf_45_3 ?_
      refine ⟨fun hc1 => ?_, fun hc1 => ?_⟩
      · skip
        exact ih.2 (by omega)
      · skip
        refine ⟨fun hc2 => ?_, fun hc2 => ?_⟩
        · skip
          exfalso; omega
        · skip
          refine ⟨by omega, ?_⟩
          have f3 := dCmpE (m.2.1 45 x4.toNatClampNeg) y2
          refine ⟨fun hc4 => ?_, fun hc4 => ?_⟩
          · skip
            have f5 := dAddE (X := x4.toInt) (Y := 1) (x := x4) (y := (1 : Int32)) rfl (by decide) (by omega) (by omega)
            exact ih.1 _ _ _ (by omega) (by omega) (by omega)
          · skip
            exact hQ _ (by omega)
    · intro hμ
      refine v_X5_indexOf_45_34 ?_
      have f1 := ti_m1
      exact hQ _ (by omega)
theorem s_X5_indexOf_45 {g : gM} {x1 : Int32} {y2 : Int64} {m : dM} {Q : Int32 → dM → Prop} (hG : Gd g) (hI : Inv g m) (h1 : 0 ≤ x1.toInt ∧ x1.toInt ≤ 7) (hQ : ∀ r : Int32, (-1 ≤ r.toInt ∧ r.toInt ≤ 6) → Q r m) : c_X5_indexOf_45 1 x1 y2 m Q := by
  refine v_X5_indexOf_45 ?_
  have f1 := ti_0
  exact (s_X5_indexOf_45_all hG hI hQ 10).1 _ _ _ (by omega) (by omega) (by omega)
theorem s_X5_indexOf_46_all {g : gM} {Q : Int32 → dM → Prop} {m : dM} (hG : Gd g) (hI : Inv g m) (hQ : ∀ r : Int32, (-1 ≤ r.toInt ∧ r.toInt ≤ 7) → Q r m) : ∀ n : Nat, (∀ (x1 : Int32) (y2 : Int64) (x4 : Int32), (0 ≤ x1.toInt ∧ x1.toInt ≤ 8) → (0 ≤ x4.toInt ∧ x4.toInt ≤ 8) → 9 - 1 * x4.toInt < (n : Int) → j_X5_indexOf_46_3 1 x1 y2 x4 m Q) ∧ (0 < (n : Int) → j_X5_indexOf_46_34 1 m Q) := by
  intro n
  induction n with
  | zero => exact ⟨fun x1 y2 x4 h1 h4 hμ => by exfalso; omega, fun hμ => by exfalso; omega⟩
  | succ n ih =>
    refine ⟨?_, ?_⟩
    · intro x1 y2 x4 h1 h4 hμ
      refine v_X5_indexOf_46_3 ?_
      refine ⟨fun hc1 => ?_, fun hc1 => ?_⟩
      · skip
        exact ih.2 (by omega)
      · skip
        refine ⟨fun hc2 => ?_, fun hc2 => ?_⟩
        · skip
          exfalso; omega
        · skip
          refine ⟨by omega, ?_⟩
          have f3 := dCmpE (m.2.1 46 x4.toNatClampNeg) y2
          refine ⟨fun hc4 => ?_, fun hc4 => ?_⟩
          · skip
            have f5 := dAddE (X := x4.toInt) (Y := 1) (x := x4) (y := (1 : Int32)) rfl (by decide) (by omega) (by omega)
            exact ih.1 _ _ _ (by omega) (by omega) (by omega)
          · skip
            exact hQ _ (by omega)
    · intro hμ
      refine v_X5_indexOf_46_34 ?_
      have f1 := ti_m1
      exact hQ _ (by omega)
theorem s_X5_indexOf_46 {g : gM} {x1 : Int32} {y2 : Int64} {m : dM} {Q : Int32 → dM → Prop} (hG : Gd g) (hI : Inv g m) (h1 : 0 ≤ x1.toInt ∧ x1.toInt ≤ 8) (hQ : ∀ r : Int32, (-1 ≤ r.toInt ∧ r.toInt ≤ 7) → Q r m) : c_X5_indexOf_46 1 x1 y2 m Q := by
  refine v_X5_indexOf_46 ?_
  have f1 := ti_0
  exact (s_X5_indexOf_46_all hG hI hQ 11).1 _ _ _ (by omega) (by omega) (by omega)
theorem s_X5_fail_44 {g : gM} {x1 : Int32} {m : dM} {Q : Int32 → dM → Prop} (hG : Gd g) (hI : Inv g m) (hQ : ∀ (r : Int32) (m' : dM), Inv g m' → (0 ≤ r.toInt ∧ r.toInt ≤ 0) → Q r m') : c_X5_fail_44 1 x1 m Q := by
  refine v_X5_fail_44 ?_
  have f1 := ti_0
  have I2 : Inv g (dSet m 44 5 x1) := (Inv.setA hI rfl)
  exact hQ _ _ I2 (by omega)
theorem s_X5_isNewName_44 {g : gM} {m : dM} {Q : Int32 → dM → Prop} (hG : Gd g) (hI : Inv g m) (hQ : ∀ (r : Int32) (m' : dM), Inv g m' → (0 ≤ r.toInt ∧ r.toInt ≤ 1) → Q r m') : c_X5_isNewName_44 2 m Q := by
  refine v_X5_isNewName_44 ?_
  refine Wp.deep (s_X8_nameAt_38 hG hI (fun R1 => ?_)) (Nat.le_of_ble_eq_true rfl)
  have f2 := congrArg Int32.toInt (hI.2 20 0 rfl)
  have f3 := Inv.s hG hI (k := 20) (j := 0) rfl rfl
  refine Wp.deep (s_X5_indexOf_45 hG hI (by omega) (fun R4 hr4 => ?_)) (Nat.le_of_ble_eq_true rfl)
  refine ⟨fun hc5 => ?_, fun hc5 => ?_⟩
  · skip
    refine v_X5_isNewName_44_50 ?_
    have f6 := ti_3
    refine Wp.deep (s_X5_fail_44 hG hI (fun R7 M7 I7 hr7 => ?_)) (Nat.le_of_ble_eq_true rfl)
    refine ⟨dB01 (by omega), ?_⟩
    exact hQ _ _ I7 (by omega)
  · skip
    have f6 := congrArg Int32.toInt (hI.2 20 2 rfl)
    have f7 := Inv.s hG hI (k := 20) (j := 2) rfl rfl
    refine Wp.deep (s_X5_indexOf_46 hG hI (by omega) (fun R8 hr8 => ?_)) (Nat.le_of_ble_eq_true rfl)
    refine ⟨fun hc9 => ?_, fun hc9 => ?_⟩
    · skip
      have f10 := ti_1
      exact hQ _ _ hI (by omega)
    · skip
      refine v_X5_isNewName_44_50 ?_
      have f10 := ti_3
      refine Wp.deep (s_X5_fail_44 hG hI (fun R11 M11 I11 hr11 => ?_)) (Nat.le_of_ble_eq_true rfl)
      refine ⟨dB01 (by omega), ?_⟩
      exact hQ _ _ I11 (by omega)
theorem s_X5_isWithin_44 {g : gM} {x1 : Int32} {x2 : Int32} {m : dM} {Q : Int32 → dM → Prop} (hG : Gd g) (hI : Inv g m) (hQ : ∀ (r : Int32) (m' : dM), Inv g m' → (0 ≤ r.toInt ∧ r.toInt ≤ 1) → Q r m') : c_X5_isWithin_44 3 x1 x2 m Q := by
  refine v_X5_isWithin_44 ?_
  refine Wp.deep (s_X8_numberAt_38 hG hI (fun R1 => ?_)) (Nat.le_of_ble_eq_true rfl)
  refine ⟨fun hc2 => ?_, fun hc2 => ?_⟩
  · skip
    refine v_X5_isWithin_44_22 ?_
    have f3 := ti_5
    refine Wp.deep (s_X5_fail_44 hG hI (fun R4 M4 I4 hr4 => ?_)) (Nat.le_of_ble_eq_true rfl)
    refine ⟨dB01 (by omega), ?_⟩
    exact hQ _ _ I4 (by omega)
  · skip
    refine ⟨fun hc3 => ?_, fun hc3 => ?_⟩
    · skip
      have f4 := ti_1
      have I5 : Inv g (dSet m 44 4 ((m.1 44 4) + (1 : Int32))) := (Inv.setA hI rfl)
      exact hQ _ _ I5 (by omega)
    · skip
      refine v_X5_isWithin_44_22 ?_
      have f4 := ti_5
      refine Wp.deep (s_X5_fail_44 hG hI (fun R5 M5 I5 hr5 => ?_)) (Nat.le_of_ble_eq_true rfl)
      refine ⟨dB01 (by omega), ?_⟩
      exact hQ _ _ I5 (by omega)
theorem s_X5_flatNamed_44 {g : gM} {m : dM} {Q : Int32 → dM → Prop} (hG : Gd g) (hI : Inv g m) (hQ : ∀ (r : Int32) (m' : dM), Inv g m' → (-1 ≤ r.toInt ∧ r.toInt ≤ 6) → Q r m') : c_X5_flatNamed_44 2 m Q := by
  refine v_X5_flatNamed_44 ?_
  refine Wp.deep (s_X8_nameAt_38 hG hI (fun R1 => ?_)) (Nat.le_of_ble_eq_true rfl)
  have f2 := congrArg Int32.toInt (hI.2 20 0 rfl)
  have f3 := Inv.s hG hI (k := 20) (j := 0) rfl rfl
  refine Wp.deep (s_X5_indexOf_45 hG hI (by omega) (fun R4 hr4 => ?_)) (Nat.le_of_ble_eq_true rfl)
  refine ⟨fun hc5 => ?_, fun hc5 => ?_⟩
  · skip
    refine v_X5_flatNamed_44_36 ?_
    exact hQ _ _ hI (by omega)
  · skip
    refine v_X5_flatNamed_44_36 ?_
    have I6 : Inv g (dSet m 44 5 (4 : Int32)) := (Inv.setA hI rfl)
    exact hQ _ _ I6 (by omega)
theorem s_X3_isWired_20_all {g : gM} {Q : Int32 → dM → Prop} {m : dM} (hG : Gd g) (hI : Inv g m) (hQ : ∀ r : Int32, (0 ≤ r.toInt ∧ r.toInt ≤ 1) → Q r m) : ∀ n : Nat, (∀ (x3 : Int32) (x4 : Int32), (0 ≤ x4.toInt ∧ x4.toInt ≤ 10) → 10 - 1 * x4.toInt < (n : Int) → j_X3_isWired_20_11 2 x3 x4 m Q) := by
  intro n
  induction n with
  | zero => exact fun x3 x4 h4 hμ => by exfalso; omega
  | succ n ih =>
    · intro x3 x4 h4 hμ
      refine v_X3_isWired_20_11 ?_
      have f1 := congrArg Int32.toInt (hI.2 20 1 rfl)
      have f2 := Inv.s hG hI (k := 20) (j := 1) rfl rfl
      refine ⟨fun hc3 => ?_, fun hc3 => ?_⟩
      · skip
        have f4 := ti_0
        exact hQ _ (by omega)
      · skip
        refine v_X3_endsOf_20 ?_
        refine ⟨by omega, ?_⟩
        refine ⟨by omega, ?_⟩
        have f4 := Inv.w hI (k := 22) (j := x4.toNatClampNeg) rfl
        have f5 := dShl8 (x := (m.1 22 x4.toNatClampNeg)) (by omega) (by omega)
        have f6 := Inv.w hI (k := 23) (j := x4.toNatClampNeg) rfl
        have f7 := dShl8 (x := (m.1 23 x4.toNatClampNeg)) (by omega) (by omega)
        refine ⟨fun hc8 => ?_, fun hc8 => ?_⟩
        · skip
          have f9 := dAddE (X := x4.toInt) (Y := 1) (x := x4) (y := (1 : Int32)) rfl (by decide) (by omega) (by omega)
          exact ih _ _ (by omega) (by omega)
        · skip
          have f9 := ti_1
          exact hQ _ (by omega)
theorem s_X3_isWired_20 {g : gM} {x1 : Int32} {x2 : Int32} {m : dM} {Q : Int32 → dM → Prop} (hG : Gd g) (hI : Inv g m) (hQ : ∀ r : Int32, (0 ≤ r.toInt ∧ r.toInt ≤ 1) → Q r m) : c_X3_isWired_20 2 x1 x2 m Q := by
  refine v_X3_isWired_20 ?_
  have f1 := ti_0
  exact (s_X3_isWired_20_all hG hI hQ 12) _ _ (by omega) (by omega)
theorem s_X5_takeSurge_44 {g : gM} {m : dM} {Q : Int32 → dM → Prop} (hG : Gd g) (hI : Inv g m) (hQ : ∀ (r : Int32) (m' : dM), Inv g m' → (0 ≤ r.toInt ∧ r.toInt ≤ 1) → Q r m') : c_X5_takeSurge_44 4 m Q := by
  refine v_X5_takeSurge_44 ?_
  refine Wp.deep (s_X8_numberAt_38 hG hI (fun R1 => ?_)) (Nat.le_of_ble_eq_true rfl)
  have I2 : Inv g (dSet m 20 3 R1) := (Inv.setA hI rfl)
  refine Wp.deep (s_X8_numberAt_38 hG I2 (fun R3 => ?_)) (Nat.le_of_ble_eq_true rfl)
  have f4 := ti_0
  have f5 := ti_100
  have I6 : Inv g (dSet (dSet m 20 3 R1) 20 4 R3) := (Inv.setA I2 rfl)
  refine Wp.deep (s_X5_isWithin_44 hG I6 (fun R7 M7 I7 hr7 => ?_)) (Nat.le_of_ble_eq_true rfl)
  refine ⟨fun hc8 => ?_, fun hc8 => ?_⟩
  · skip
    refine v_X5_takeSurge_44_62 ?_
    exact hQ _ _ I7 (by omega)
  · skip
    have f9 := ti_19
    refine Wp.deep (s_X5_isWithin_44 hG I7 (fun R10 M10 I10 hr10 => ?_)) (Nat.le_of_ble_eq_true rfl)
    refine ⟨fun hc11 => ?_, fun hc11 => ?_⟩
    · skip
      refine v_X5_takeSurge_44_62 ?_
      exact hQ _ _ I10 (by omega)
    · skip
      have f12 := ti_1
      exact hQ _ _ I10 (by omega)
theorem s_X5_takeCoins_44 {g : gM} {m : dM} {Q : Int32 → dM → Prop} (hG : Gd g) (hI : Inv g m) (hQ : ∀ (r : Int32) (m' : dM), Inv g m' → (0 ≤ r.toInt ∧ r.toInt ≤ 1) → Q r m') : c_X5_takeCoins_44 4 m Q := by
  refine v_X5_takeCoins_44 ?_
  refine Wp.deep (s_X8_numberAt_38 hG hI (fun R1 => ?_)) (Nat.le_of_ble_eq_true rfl)
  have f2 := ti_0
  have f3 := ti_999
  have I4 : Inv g (dSet m 20 5 R1) := (Inv.setA hI rfl)
  refine Wp.deep (s_X5_isWithin_44 hG I4 (fun R5 M5 I5 hr5 => ?_)) (Nat.le_of_ble_eq_true rfl)
  refine ⟨dB01 (by omega), ?_⟩
  exact hQ _ _ I5 (by omega)
theorem s_X5_takeSeed_44 {g : gM} {m : dM} {Q : Int32 → dM → Prop} (hG : Gd g) (hI : Inv g m) (hQ : ∀ (r : Int32) (m' : dM), Inv g m' → (0 ≤ r.toInt ∧ r.toInt ≤ 1) → Q r m') : c_X5_takeSeed_44 4 m Q := by
  refine v_X5_takeSeed_44 ?_
  refine Wp.deep (s_X8_numberAt_38 hG hI (fun R1 => ?_)) (Nat.le_of_ble_eq_true rfl)
  have f2 := ti_0
  have f3 := ti_9999
  have I4 : Inv g (dSet m 20 6 R1) := (Inv.setA hI rfl)
  refine Wp.deep (s_X5_isWithin_44 hG I4 (fun R5 M5 I5 hr5 => ?_)) (Nat.le_of_ble_eq_true rfl)
  refine ⟨dB01 (by omega), ?_⟩
  exact hQ _ _ I5 (by omega)
theorem s_X5_skipEnd_44_all {g : gM} {Q : dM → Prop} (hG : Gd g) (hQ : ∀ m' : dM, Inv g m' → Q m') : ∀ n : Nat, (∀ (m : dM), Inv g m → (-2147483647 ≤ (m.1 44 4).toInt ∧ (m.1 44 4).toInt ≤ 400) → 401 - 1 * (m.1 44 4).toInt < (n : Int) → j_X5_skipEnd_44_0 2 m Q) ∧ (∀ (m : dM), Inv g m → (0 ≤ (m.1 44 4).toInt) → 0 < (n : Int) → j_X5_skipEnd_44_39 2 m Q) := by
  intro n
  induction n with
  | zero => exact ⟨fun m hI hk44_4 hμ => by have hz0 := e_lo (m.1 44 4); have hz1 := e_hi (m.1 44 4); exfalso; omega, fun m hI hk44_4 hμ => by exfalso; omega⟩
  | succ n ih =>
    refine ⟨?_, ?_⟩
    · intro m hI hk44_4 hμ
      have hz0 := e_lo (m.1 44 4)
      have hz1 := e_hi (m.1 44 4)
      refine v_X5_skipEnd_44_0 ?_
      refine ⟨fun hc1 => ?_, fun hc1 => ?_⟩
      · skip
        exact ih.2 _ hI (by omega) (by omega)
      · skip
        refine v_X8_kindAt_38 ?_
        refine ⟨fun hc2 => ?_, fun hc2 => ?_⟩
        · skip
          refine v_X8_kindAt_38_20 ?_
          have f3 := ti_24
          refine ⟨fun hc4 => ?_, fun hc4 => ?_⟩
          · skip
            exfalso; omega
          · skip
            have I5 : Inv g (dSet m 44 4 ((m.1 44 4) + (1 : Int32))) := (Inv.setA hI rfl)
            have f6 := dAddE (X := (m.1 44 4).toInt) (Y := 1) (x := (m.1 44 4)) (y := (1 : Int32)) rfl (by decide) (by omega) (by omega)
            have f7 : ((dSet m 44 4 ((m.1 44 4) + (1 : Int32))).1 44 4).toInt = ((m.1 44 4) + (1 : Int32)).toInt := rfl
            exact ih.1 _ I5 (by omega) (by omega)
        · skip
          refine ⟨fun hc3 => ?_, fun hc3 => ?_⟩
          · skip
            exfalso; omega
          · skip
            refine ⟨by omega, ?_⟩
            refine ⟨fun hc4 => ?_, fun hc4 => ?_⟩
            · skip
              exact ih.2 _ hI (by omega) (by omega)
            · skip
              have I5 : Inv g (dSet m 44 4 ((m.1 44 4) + (1 : Int32))) := (Inv.setA hI rfl)
              have f6 := dAddE (X := (m.1 44 4).toInt) (Y := 1) (x := (m.1 44 4)) (y := (1 : Int32)) rfl (by decide) (by omega) (by omega)
              have f7 : ((dSet m 44 4 ((m.1 44 4) + (1 : Int32))).1 44 4).toInt = ((m.1 44 4) + (1 : Int32)).toInt := rfl
              exact ih.1 _ I5 (by omega) (by omega)
    · intro m hI hk44_4 hμ
      refine v_X5_skipEnd_44_39 ?_
      have I1 : Inv g (dSet m 44 4 ((m.1 44 4) + (1 : Int32))) := (Inv.setA hI rfl)
      exact hQ _ I1
theorem s_X5_skipEnd_44 {g : gM} {m : dM} {Q : dM → Prop} (hG : Gd g) (hI : Inv g m) (hQ : ∀ m' : dM, Inv g m' → Q m') : c_X5_skipEnd_44 2 m Q := by
  have hz2 := e_lo (m.1 44 4)
  have hz3 := e_hi (m.1 44 4)
  refine v_X5_skipEnd_44 ?_
  refine ⟨fun hc1 => ?_, fun hc1 => ?_⟩
  · skip
    exact (s_X5_skipEnd_44_all hG hQ 2147484050).2 _ hI (by omega) (by omega)
  · skip
    refine v_X8_kindAt_38 ?_
    refine ⟨fun hc2 => ?_, fun hc2 => ?_⟩
    · skip
      refine v_X8_kindAt_38_20 ?_
      have f3 := ti_24
      refine ⟨fun hc4 => ?_, fun hc4 => ?_⟩
      · skip
        exfalso; omega
      · skip
        have I5 : Inv g (dSet m 44 4 ((m.1 44 4) + (1 : Int32))) := (Inv.setA hI rfl)
        have f6 := dAddE (X := (m.1 44 4).toInt) (Y := 1) (x := (m.1 44 4)) (y := (1 : Int32)) rfl (by decide) (by omega) (by omega)
        have f7 : ((dSet m 44 4 ((m.1 44 4) + (1 : Int32))).1 44 4).toInt = ((m.1 44 4) + (1 : Int32)).toInt := rfl
        have hz0 := e_lo (m.1 44 4)
        have hz1 := e_hi (m.1 44 4)
        exact (s_X5_skipEnd_44_all hG hQ 2147484050).1 _ I5 (by omega) (by omega)
    · skip
      refine ⟨fun hc3 => ?_, fun hc3 => ?_⟩
      · skip
        exfalso; omega
      · skip
        refine ⟨by omega, ?_⟩
        refine ⟨fun hc4 => ?_, fun hc4 => ?_⟩
        · skip
          exact (s_X5_skipEnd_44_all hG hQ 2147484050).2 _ hI (by omega) (by omega)
        · skip
          have I5 : Inv g (dSet m 44 4 ((m.1 44 4) + (1 : Int32))) := (Inv.setA hI rfl)
          have f6 := dAddE (X := (m.1 44 4).toInt) (Y := 1) (x := (m.1 44 4)) (y := (1 : Int32)) rfl (by decide) (by omega) (by omega)
          have f7 : ((dSet m 44 4 ((m.1 44 4) + (1 : Int32))).1 44 4).toInt = ((m.1 44 4) + (1 : Int32)).toInt := rfl
          have hz0 := e_lo (m.1 44 4)
          have hz1 := e_hi (m.1 44 4)
          exact (s_X5_skipEnd_44_all hG hQ 2147484050).1 _ I5 (by omega) (by omega)
theorem s_X10_houseIsNew_57 {g : gM} {m : dM} {Q : dM → Prop} (hG : Gd g) (hI : Inv g m) (hQ : ∀ m' : dM, Inv g m' → Q m') : c_X10_houseIsNew_57 1 m Q := by
  refine v_X10_houseIsNew_57 ?_
  have I1 : Inv g (dSet m 57 1 (-1 : Int32)) := (Inv.setA hI rfl)
  exact hQ _ I1
end
