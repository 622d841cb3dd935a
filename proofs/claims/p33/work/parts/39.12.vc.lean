theorem v_X12_lowestOf {d : Nat} {x0 : Int32} {m : dM} {Q : Int32 → dM → Prop} (h : j_X12_lowestOf_2 (d + 1) x0 (0 : Int32) m Q) : c_X12_lowestOf (d + 1) x0 m Q := by
  refine w_iconst (q := 1) hm85 ⟨⟨_, _, rfl⟩, rfl⟩ iconst_0 ?_
  refine w_istore_n (q := 2) (l' := [oI x0, oI (0 : Int32)]) hm85 ⟨⟨_, _, rfl⟩, rfl⟩ rfl rfl rfl ?_
  exact h
theorem v_X12_lowestOf_2 {d : Nat} {x0 : Int32} {x1 : Int32} {m : dM} {Q : Int32 → dM → Prop} (h : ((10 ≤ x1.toInt → j_X12_lowestOf_22 (d + 1) x1 m Q) ∧ (x1.toInt < 10 → ((((x0 >>> (x1 &&& 31)) &&& (1 : Int32)).toInt ≠ 0 → j_X12_lowestOf_22 (d + 1) x1 m Q) ∧ (((x0 >>> (x1 &&& 31)) &&& (1 : Int32)).toInt = 0 → j_X12_lowestOf_2 (d + 1) x0 (x1 + (1 : Int32)) m Q))))) : j_X12_lowestOf_2 (d + 1) x0 x1 m Q := by
  refine w_iload_n (q := 3) hm85 ⟨⟨_, _, rfl⟩, rfl⟩ rfl ?_
  refine w_bipush (q := 5) hm85 ⟨⟨_, _, rfl⟩, rfl⟩ bipush_10 ?_
  refine w_icmp_ge (q := 8) (X := x1.toInt) (Y := 10) hm85 ⟨⟨_, _, rfl⟩, rfl⟩ rfl (by decide) (fun hc => ?_) (fun hc => ?_)
  · have h := h.1 hc
    exact Wp.wk [false, true] h
  · have h := h.2 hc
    refine w_iload_n (q := 9) hm85 ⟨⟨_, _, rfl⟩, rfl⟩ rfl ?_
    refine w_iload_n (q := 10) hm85 ⟨⟨_, _, rfl⟩, rfl⟩ rfl ?_
    refine w_ishr (q := 11) hm85 ⟨⟨_, _, rfl⟩, rfl⟩ ?_
    refine w_iconst (q := 12) hm85 ⟨⟨_, _, rfl⟩, rfl⟩ iconst_1 ?_
    refine w_iand (q := 13) hm85 ⟨⟨_, _, rfl⟩, rfl⟩ ?_
    refine w_if_ne (q := 16) (X := ((x0 >>> (x1 &&& 31)) &&& (1 : Int32)).toInt) hm85 ⟨⟨_, _, rfl⟩, rfl⟩ rfl (fun hc => ?_) (fun hc => ?_)
    · have h := h.1 hc
      exact Wp.wk [false, true] h
    · have h := h.2 hc
      refine w_iinc (q := 19) (l' := [oI x0, oI (x1 + (1 : Int32))]) hm85 ⟨⟨_, _, rfl⟩, rfl⟩ rfl rfl rfl iconst_1 rfl ?_
      refine w_goto (q := 2) hm85 ⟨_, _, rfl⟩ ?_
      exact h
theorem v_X12_lowestOf_22 {d : Nat} {x1 : Int32} {m : dM} {Q : Int32 → dM → Prop} (h : Q x1 m) : j_X12_lowestOf_22 (d + 1) x1 m Q := by
  refine w_iload_n (q := 23) hm85 ⟨⟨_, _, rfl⟩, rfl⟩ rfl ?_
  exact w_reti hm85 ⟨⟨_, _, rfl⟩, rfl⟩ rfl h
theorem v_X12_first_70 {d : Nat} {x1 : Int32} {m : dM} {Q : Int32 → dM → Prop} (h : c_X12_in d x1 (0 : Int32) (1 : Int32) m (fun r1 m1 => ((r1.toInt ≠ 0 → c_X12_copiesStill_70 d m1 (fun m2 => c_X12_firstGoing_70 d m2 (fun r3 m3 => ((r3.toInt ≠ 201 → ((x1.toInt ≠ 0 → c_X12_lowestOf d (m3.1 70 60) m3 (fun r4 m4 => Q r4 m4)) ∧ (x1.toInt = 0 → Q r3 m3))) ∧ (r3.toInt = 201 → Q (-2 : Int32) m3))))) ∧ (r1.toInt = 0 → Q (-1 : Int32) m1)))) : c_X12_first_70 (d + 1) x1 m Q := by
  refine w_iload_n (q := 1) hm86 ⟨⟨_, _, rfl⟩, rfl⟩ rfl ?_
  refine w_iconst (q := 2) hm86 ⟨⟨_, _, rfl⟩, rfl⟩ iconst_0 ?_
  refine w_iconst (q := 3) hm86 ⟨⟨_, _, rfl⟩, rfl⟩ iconst_1 ?_
  refine w_call (q := 6) (n := 0) (vs := [.inl x1, .inl (0 : Int32), .inl (1 : Int32)]) (rest := []) (la := [oI x1, oI (0 : Int32), oI (1 : Int32)]) hm86 ⟨⟨_, _, rfl⟩, rfl⟩ rfl rfl rfl rfl hm36 rfl rfl (fun hz => absurd hz (by decide)) rfl (Wp.mono h ?_)
  rintro _ m1 ⟨r1, rfl, h⟩
  change Wp _ _ 6 _ [.inl r1] _ _
  refine w_if_ne (q := 9) (X := r1.toInt) hm86 ⟨⟨_, _, rfl⟩, rfl⟩ rfl (fun hc => ?_) (fun hc => ?_)
  · have h := h.1 hc
    refine w_aload_n (q := 12) hm86 ⟨⟨_, _, rfl⟩, rfl⟩ rfl ?_
    refine w_call (q := 15) (n := 0) (vs := [.inr (.inr (some 70))]) (rest := []) (la := [oR 70]) hm86 ⟨⟨_, _, rfl⟩, rfl⟩ rfl rfl rfl rfl hm82 rfl rfl (fun _ => ⟨_, _, rfl, rfl⟩) rfl (Wp.mono h ?_)
    rintro _ m2 ⟨rfl, h⟩
    change Wp _ _ 15 _ [] _ _
    refine w_aload_n (q := 16) hm86 ⟨⟨_, _, rfl⟩, rfl⟩ rfl ?_
    refine w_call (q := 19) (n := 1) (vs := [.inr (.inr (some 70))]) (rest := []) (la := [oR 70, none]) hm86 ⟨⟨_, _, rfl⟩, rfl⟩ rfl rfl rfl rfl hm84 rfl rfl (fun _ => ⟨_, _, rfl, rfl⟩) rfl (Wp.mono h ?_)
    rintro _ m3 ⟨r3, rfl, h⟩
    change Wp _ _ 19 _ [.inl r3] _ _
    refine w_istore_n (q := 20) (l' := [oR 70, oI x1, oI r3]) hm86 ⟨⟨_, _, rfl⟩, rfl⟩ rfl rfl rfl ?_
    refine w_iload_n (q := 21) hm86 ⟨⟨_, _, rfl⟩, rfl⟩ rfl ?_
    refine w_sipush (q := 24) hm86 ⟨⟨_, _, rfl⟩, rfl⟩ sipush_201 ?_
    refine w_icmp_ne (q := 27) (X := r3.toInt) (Y := 201) hm86 ⟨⟨_, _, rfl⟩, rfl⟩ rfl (by decide) (fun hc => ?_) (fun hc => ?_)
    · have h := h.1 hc
      refine w_iload_n (q := 33) hm86 ⟨⟨_, _, rfl⟩, rfl⟩ rfl ?_
      refine w_if_ne (q := 36) (X := x1.toInt) hm86 ⟨⟨_, _, rfl⟩, rfl⟩ rfl (fun hc => ?_) (fun hc => ?_)
      · have h := h.1 hc
        refine w_aload_n (q := 41) hm86 ⟨⟨_, _, rfl⟩, rfl⟩ rfl ?_
        refine w_getf (q := 44) (v := (m3.1 70 60)) hm86 ⟨⟨_, _, rfl⟩, rfl⟩ rfl rfl ?_
        refine w_call (q := 47) (n := 1) (vs := [.inl (m3.1 70 60)]) (rest := []) (la := [oI (m3.1 70 60), none]) hm86 ⟨⟨_, _, rfl⟩, rfl⟩ rfl rfl rfl rfl hm85 rfl rfl (fun hz => absurd hz (by decide)) rfl (Wp.mono h ?_)
        rintro _ m4 ⟨r4, rfl, h⟩
        change Wp _ _ 47 _ [.inl r4] _ _
        exact w_reti hm86 ⟨⟨_, _, rfl⟩, rfl⟩ rfl h
      · have h := h.2 hc
        refine w_iload_n (q := 37) hm86 ⟨⟨_, _, rfl⟩, rfl⟩ rfl ?_
        refine w_goto (q := 47) hm86 ⟨_, _, rfl⟩ ?_
        exact w_reti hm86 ⟨⟨_, _, rfl⟩, rfl⟩ rfl h
    · have h := h.2 hc
      refine w_bipush (q := 29) hm86 ⟨⟨_, _, rfl⟩, rfl⟩ bipush_m2 ?_
      refine w_goto (q := 47) hm86 ⟨_, _, rfl⟩ ?_
      exact w_reti hm86 ⟨⟨_, _, rfl⟩, rfl⟩ rfl h
  · have h := h.2 hc
    refine w_iconst (q := 10) hm86 ⟨⟨_, _, rfl⟩, rfl⟩ iconst_m1 ?_
    exact w_reti hm86 ⟨⟨_, _, rfl⟩, rfl⟩ rfl h
theorem v_X1_payOfAll_61 {d : Nat} {x1 : Int32} {m : dM} {Q : Int32 → dM → Prop} (h : j_X1_payOfAll_61_4 (d + 1) x1 (0 : Int32) (0 : Int32) m Q) : c_X1_payOfAll_61 (d + 1) x1 m Q := by
  refine w_iconst (q := 1) hm145 ⟨⟨_, _, rfl⟩, rfl⟩ iconst_0 ?_
  refine w_istore_n (q := 2) (l' := [oR 61, oI x1, oI (0 : Int32), none]) hm145 ⟨⟨_, _, rfl⟩, rfl⟩ rfl rfl rfl ?_
  refine w_iconst (q := 3) hm145 ⟨⟨_, _, rfl⟩, rfl⟩ iconst_0 ?_
  refine w_istore_n (q := 4) (l' := [oR 61, oI x1, oI (0 : Int32), oI (0 : Int32)]) hm145 ⟨⟨_, _, rfl⟩, rfl⟩ rfl rfl rfl ?_
  exact h
theorem v_X1_payOfAll_61_4 {d : Nat} {x1 : Int32} {x2 : Int32} {x3 : Int32} {m : dM} {Q : Int32 → dM → Prop} (h : (((m.1 2 2).toInt ≤ x3.toInt → Q x2 m) ∧ (x3.toInt < (m.1 2 2).toInt → c_X11_has d x1 x3 m (fun r1 m1 => ((r1.toInt = 0 → j_X1_payOfAll_61_4 (d + 1) x1 (x2 + (0 : Int32)) (x3 + (1 : Int32)) m1 Q) ∧ (r1.toInt ≠ 0 → ((0 ≤ x3.toInt ∧ x3.toInt < 8) ∧ j_X1_payOfAll_61_4 (d + 1) x1 (x2 + (m1.1 66 x3.toNatClampNeg)) (x3 + (1 : Int32)) m1 Q))))))) : j_X1_payOfAll_61_4 (d + 1) x1 x2 x3 m Q := by
  refine w_iload_n (q := 5) hm145 ⟨⟨_, _, rfl⟩, rfl⟩ rfl ?_
  refine w_aload_n (q := 6) hm145 ⟨⟨_, _, rfl⟩, rfl⟩ rfl ?_
  refine w_getr (q := 9) hm145 ⟨⟨_, _, rfl⟩, rfl⟩ rfl ?_
  refine w_getf (q := 12) (v := (m.1 2 2)) hm145 ⟨⟨_, _, rfl⟩, rfl⟩ rfl rfl ?_
  refine w_icmp_ge (q := 15) (X := x3.toInt) (Y := (m.1 2 2).toInt) hm145 ⟨⟨_, _, rfl⟩, rfl⟩ rfl rfl (fun hc => ?_) (fun hc => ?_)
  · have h := h.1 hc
    refine w_iload_n (q := 43) hm145 ⟨⟨_, _, rfl⟩, rfl⟩ rfl ?_
    exact w_reti hm145 ⟨⟨_, _, rfl⟩, rfl⟩ rfl h
  · have h := h.2 hc
    refine w_iload_n (q := 16) hm145 ⟨⟨_, _, rfl⟩, rfl⟩ rfl ?_
    refine w_iload_n (q := 17) hm145 ⟨⟨_, _, rfl⟩, rfl⟩ rfl ?_
    refine w_iload_n (q := 18) hm145 ⟨⟨_, _, rfl⟩, rfl⟩ rfl ?_
    refine w_call (q := 21) (n := 0) (vs := [.inl x1, .inl x3]) (rest := [.inl x2]) (la := [oI x1, oI x3]) hm145 ⟨⟨_, _, rfl⟩, rfl⟩ rfl rfl rfl rfl hm283 rfl rfl (fun hz => absurd hz (by decide)) rfl (Wp.mono h ?_)
    rintro _ m1 ⟨r1, rfl, h⟩
    change Wp _ _ 21 _ [.inl r1, .inl x2] _ _
    refine w_if_eq (q := 24) (X := r1.toInt) hm145 ⟨⟨_, _, rfl⟩, rfl⟩ rfl (fun hc => ?_) (fun hc => ?_)
    · have h := h.1 hc
      refine w_iconst (q := 34) hm145 ⟨⟨_, _, rfl⟩, rfl⟩ iconst_0 ?_
      refine w_iadd (q := 35) hm145 ⟨⟨_, _, rfl⟩, rfl⟩ ?_
      refine w_istore_n (q := 36) (l' := [oR 61, oI x1, oI (x2 + (0 : Int32)), oI x3]) hm145 ⟨⟨_, _, rfl⟩, rfl⟩ rfl rfl rfl ?_
      refine w_iinc (q := 39) (l' := [oR 61, oI x1, oI (x2 + (0 : Int32)), oI (x3 + (1 : Int32))]) hm145 ⟨⟨_, _, rfl⟩, rfl⟩ rfl rfl rfl iconst_1 rfl ?_
      refine w_goto (q := 4) hm145 ⟨_, _, rfl⟩ ?_
      exact h
    · have h := h.2 hc
      refine w_aload_n (q := 25) hm145 ⟨⟨_, _, rfl⟩, rfl⟩ rfl ?_
      refine w_getr (q := 28) hm145 ⟨⟨_, _, rfl⟩, rfl⟩ rfl ?_
      refine w_iload_n (q := 29) hm145 ⟨⟨_, _, rfl⟩, rfl⟩ rfl ?_
      obtain ⟨hi, h⟩ := h
      refine w_iald (q := 30) (v := (m1.1 66 x3.toNatClampNeg)) hm145 ⟨⟨_, _, rfl⟩, rfl⟩ rfl hi rfl rfl ?_
      refine w_goto (q := 34) hm145 ⟨_, _, rfl⟩ ?_
      refine w_iadd (q := 35) hm145 ⟨⟨_, _, rfl⟩, rfl⟩ ?_
      refine w_istore_n (q := 36) (l' := [oR 61, oI x1, oI (x2 + (m1.1 66 x3.toNatClampNeg)), oI x3]) hm145 ⟨⟨_, _, rfl⟩, rfl⟩ rfl rfl rfl ?_
      refine w_iinc (q := 39) (l' := [oR 61, oI x1, oI (x2 + (m1.1 66 x3.toNatClampNeg)), oI (x3 + (1 : Int32))]) hm145 ⟨⟨_, _, rfl⟩, rfl⟩ rfl rfl rfl iconst_1 rfl ?_
      refine w_goto (q := 4) hm145 ⟨_, _, rfl⟩ ?_
      exact h
theorem v_X1_bestTogether_61_47 {d : Nat} {m : dM} {Q : Int32 → dM → Prop} (h : c_X0_waysNow_54_47 d m (fun m1 => j_X1_bestTogether_61_47_17 (d + 1) (m1.1 57 5) (0 : Int32) (0 : Int32) m1 Q)) : c_X1_bestTogether_61_47 (d + 1) m Q := by
  refine w_aload_n (q := 1) hm144 ⟨⟨_, _, rfl⟩, rfl⟩ rfl ?_
  refine w_getr (q := 4) hm144 ⟨⟨_, _, rfl⟩, rfl⟩ rfl ?_
  refine w_aload_n (q := 5) hm144 ⟨⟨_, _, rfl⟩, rfl⟩ rfl ?_
  refine w_call (q := 8) (n := 0) (vs := [.inr (.inr (some 54)), .inr (.inr (some 47))]) (rest := []) (la := [oR 54, oR 47]) hm144 ⟨⟨_, _, rfl⟩, rfl⟩ rfl rfl rfl rfl hm116 rfl rfl (fun _ => ⟨_, _, rfl, rfl⟩) rfl (Wp.mono h ?_)
  rintro _ m1 ⟨rfl, h⟩
  change Wp _ _ 8 _ [.inr (.inr (some 57))] _ _
  refine w_getf (q := 11) (v := (m1.1 57 5)) hm144 ⟨⟨_, _, rfl⟩, rfl⟩ rfl rfl ?_
  refine w_istore_n (q := 12) (l' := [oR 61, oR 47, oI (m1.1 57 5), none, none, none, none]) hm144 ⟨⟨_, _, rfl⟩, rfl⟩ rfl rfl rfl ?_
  refine w_iconst (q := 13) hm144 ⟨⟨_, _, rfl⟩, rfl⟩ iconst_0 ?_
  refine w_istore_n (q := 14) (l' := [oR 61, oR 47, oI (m1.1 57 5), oI (0 : Int32), none, none, none]) hm144 ⟨⟨_, _, rfl⟩, rfl⟩ rfl rfl rfl ?_
  refine w_iconst (q := 15) hm144 ⟨⟨_, _, rfl⟩, rfl⟩ iconst_0 ?_
  refine w_istore (q := 17) (l' := [oR 61, oR 47, oI (m1.1 57 5), oI (0 : Int32), oI (0 : Int32), none, none]) hm144 ⟨⟨_, _, rfl⟩, rfl⟩ rfl rfl rfl ?_
  exact h
theorem v_X1_bestTogether_61_47_17 {d : Nat} {x2 : Int32} {x3 : Int32} {x4 : Int32} {m : dM} {Q : Int32 → dM → Prop} (h : (((m.1 2 2).toInt ≤ x4.toInt → j_X1_bestTogether_61_47_89 (d + 1) x3 (0 : Int32) (0 : Int32) (1 : Int32) m Q) ∧ (x4.toInt < (m.1 2 2).toInt → c_X0_payOf_54_47 d x4 m (fun r1 m1 => ((0 ≤ x4.toInt ∧ x4.toInt < 8) ∧ ((0 ≤ x4.toInt ∧ x4.toInt < 8) ∧ c_X11_has d x2 (m1.1 7 x4.toNatClampNeg) (dSet m1 66 x4.toNatClampNeg r1) (fun r2 m2 => ((r2.toInt = 0 → j_X1_bestTogether_61_47_17 (d + 1) x2 (x3 ||| (0 : Int32)) (x4 + (1 : Int32)) m2 Q) ∧ (r2.toInt ≠ 0 → j_X1_bestTogether_61_47_17 (d + 1) x2 (x3 ||| ((1 : Int32) <<< (x4 &&& 31))) (x4 + (1 : Int32)) m2 Q))))))))) : j_X1_bestTogether_61_47_17 (d + 1) x2 x3 x4 m Q := by
  refine w_iload (q := 19) hm144 ⟨⟨_, _, rfl⟩, rfl⟩ rfl ?_
  refine w_aload_n (q := 20) hm144 ⟨⟨_, _, rfl⟩, rfl⟩ rfl ?_
  refine w_getr (q := 23) hm144 ⟨⟨_, _, rfl⟩, rfl⟩ rfl ?_
  refine w_getf (q := 26) (v := (m.1 2 2)) hm144 ⟨⟨_, _, rfl⟩, rfl⟩ rfl rfl ?_
  refine w_icmp_ge (q := 29) (X := x4.toInt) (Y := (m.1 2 2).toInt) hm144 ⟨⟨_, _, rfl⟩, rfl⟩ rfl rfl (fun hc => ?_) (fun hc => ?_)
  · have h := h.1 hc
    refine w_iconst (q := 81) hm144 ⟨⟨_, _, rfl⟩, rfl⟩ iconst_0 ?_
    refine w_istore (q := 83) (l' := [oR 61, oR 47, oI x2, oI x3, oI (0 : Int32), none, none]) hm144 ⟨⟨_, _, rfl⟩, rfl⟩ rfl rfl rfl ?_
    refine w_iconst (q := 84) hm144 ⟨⟨_, _, rfl⟩, rfl⟩ iconst_0 ?_
    refine w_istore (q := 86) (l' := [oR 61, oR 47, oI x2, oI x3, oI (0 : Int32), oI (0 : Int32), none]) hm144 ⟨⟨_, _, rfl⟩, rfl⟩ rfl rfl rfl ?_
    refine w_iconst (q := 87) hm144 ⟨⟨_, _, rfl⟩, rfl⟩ iconst_1 ?_
    refine w_istore (q := 89) (l' := [oR 61, oR 47, oI x2, oI x3, oI (0 : Int32), oI (0 : Int32), oI (1 : Int32)]) hm144 ⟨⟨_, _, rfl⟩, rfl⟩ rfl rfl rfl ?_
    exact Wp.wk [true, true, false, true, true, true, true] h
  · have h := h.2 hc
    refine w_aload_n (q := 30) hm144 ⟨⟨_, _, rfl⟩, rfl⟩ rfl ?_
    refine w_getr (q := 33) hm144 ⟨⟨_, _, rfl⟩, rfl⟩ rfl ?_
    refine w_iload (q := 35) hm144 ⟨⟨_, _, rfl⟩, rfl⟩ rfl ?_
    refine w_aload_n (q := 36) hm144 ⟨⟨_, _, rfl⟩, rfl⟩ rfl ?_
    refine w_getr (q := 39) hm144 ⟨⟨_, _, rfl⟩, rfl⟩ rfl ?_
    refine w_aload_n (q := 40) hm144 ⟨⟨_, _, rfl⟩, rfl⟩ rfl ?_
    refine w_iload (q := 42) hm144 ⟨⟨_, _, rfl⟩, rfl⟩ rfl ?_
    refine w_call (q := 45) (n := 0) (vs := [.inr (.inr (some 54)), .inr (.inr (some 47)), .inl x4]) (rest := [.inl x4, .inr (.inr (some 66))]) (la := [oR 54, oR 47, oI x4]) hm144 ⟨⟨_, _, rfl⟩, rfl⟩ rfl rfl rfl rfl hm129 rfl rfl (fun _ => ⟨_, _, rfl, rfl⟩) rfl (Wp.mono h ?_)
    rintro _ m1 ⟨r1, rfl, h⟩
    change Wp _ _ 45 _ [.inl r1, .inl x4, .inr (.inr (some 66))] _ _
    obtain ⟨hi, h⟩ := h
    refine w_iast (q := 46) hm144 ⟨⟨_, _, rfl⟩, rfl⟩ rfl hi rfl rfl ?_
    refine w_iload_n (q := 47) hm144 ⟨⟨_, _, rfl⟩, rfl⟩ rfl ?_
    refine w_iload_n (q := 48) hm144 ⟨⟨_, _, rfl⟩, rfl⟩ rfl ?_
    refine w_aload_n (q := 49) hm144 ⟨⟨_, _, rfl⟩, rfl⟩ rfl ?_
    refine w_getr (q := 52) hm144 ⟨⟨_, _, rfl⟩, rfl⟩ rfl ?_
    refine w_getr (q := 55) hm144 ⟨⟨_, _, rfl⟩, rfl⟩ rfl ?_
    refine w_iload (q := 57) hm144 ⟨⟨_, _, rfl⟩, rfl⟩ rfl ?_
    obtain ⟨hi, h⟩ := h
    refine w_iald (q := 58) (v := (m1.1 7 x4.toNatClampNeg)) hm144 ⟨⟨_, _, rfl⟩, rfl⟩ rfl hi rfl rfl ?_
    refine w_call (q := 61) (n := 0) (vs := [.inl x2, .inl (m1.1 7 x4.toNatClampNeg)]) (rest := [.inl x3]) (la := [oI x2, oI (m1.1 7 x4.toNatClampNeg)]) hm144 ⟨⟨_, _, rfl⟩, rfl⟩ rfl rfl rfl rfl hm283 rfl rfl (fun hz => absurd hz (by decide)) rfl (Wp.mono h ?_)
    rintro _ m2 ⟨r2, rfl, h⟩
    change Wp _ _ 61 _ [.inl r2, .inl x3] _ _
    refine w_if_eq (q := 64) (X := r2.toInt) hm144 ⟨⟨_, _, rfl⟩, rfl⟩ rfl (fun hc => ?_) (fun hc => ?_)
    · have h := h.1 hc
      refine w_iconst (q := 72) hm144 ⟨⟨_, _, rfl⟩, rfl⟩ iconst_0 ?_
      refine w_ior (q := 73) hm144 ⟨⟨_, _, rfl⟩, rfl⟩ ?_
      refine w_istore_n (q := 74) (l' := [oR 61, oR 47, oI x2, oI (x3 ||| (0 : Int32)), oI x4, none, none]) hm144 ⟨⟨_, _, rfl⟩, rfl⟩ rfl rfl rfl ?_
      refine w_iinc (q := 77) (l' := [oR 61, oR 47, oI x2, oI (x3 ||| (0 : Int32)), oI (x4 + (1 : Int32)), none, none]) hm144 ⟨⟨_, _, rfl⟩, rfl⟩ rfl rfl rfl iconst_1 rfl ?_
      refine w_goto (q := 17) hm144 ⟨_, _, rfl⟩ ?_
      exact h
    · have h := h.2 hc
      refine w_iconst (q := 65) hm144 ⟨⟨_, _, rfl⟩, rfl⟩ iconst_1 ?_
      refine w_iload (q := 67) hm144 ⟨⟨_, _, rfl⟩, rfl⟩ rfl ?_
      refine w_ishl (q := 68) hm144 ⟨⟨_, _, rfl⟩, rfl⟩ ?_
      refine w_goto (q := 72) hm144 ⟨_, _, rfl⟩ ?_
      refine w_ior (q := 73) hm144 ⟨⟨_, _, rfl⟩, rfl⟩ ?_
      refine w_istore_n (q := 74) (l' := [oR 61, oR 47, oI x2, oI (x3 ||| ((1 : Int32) <<< (x4 &&& 31))), oI x4, none, none]) hm144 ⟨⟨_, _, rfl⟩, rfl⟩ rfl rfl rfl ?_
      refine w_iinc (q := 77) (l' := [oR 61, oR 47, oI x2, oI (x3 ||| ((1 : Int32) <<< (x4 &&& 31))), oI (x4 + (1 : Int32)), none, none]) hm144 ⟨⟨_, _, rfl⟩, rfl⟩ rfl rfl rfl iconst_1 rfl ?_
      refine w_goto (q := 17) hm144 ⟨_, _, rfl⟩ ?_
      exact h
theorem v_X1_bestTogether_61_47_89 {d : Nat} {x3 : Int32} {x4 : Int32} {x5 : Int32} {x6 : Int32} {m : dM} {Q : Int32 → dM → Prop} (h : ((((1 : Int32) <<< ((m.1 2 2) &&& 31)).toInt ≤ x6.toInt → Q x4 m) ∧ (x6.toInt < ((1 : Int32) <<< ((m.1 2 2) &&& 31)).toInt → (((x6 &&& (x3 ^^^ (-1 : Int32))).toInt ≠ 0 → j_X1_bestTogether_61_47_148 (d + 1) x3 x4 x5 x6 m Q) ∧ ((x6 &&& (x3 ^^^ (-1 : Int32))).toInt = 0 → c_X1_payOfAll_61 d x6 m (fun r1 m1 => ((r1.toInt ≤ x5.toInt → j_X1_bestTogether_61_47_148 (d + 1) x3 x4 x5 x6 m1 Q) ∧ (x5.toInt < r1.toInt → c_X0_goingWith_54_47 d x6 m1 (fun r2 m2 => ((r2.toInt ≠ 0 → j_X1_bestTogether_61_47_148 (d + 1) x3 x4 x5 x6 m2 Q) ∧ (r2.toInt = 0 → c_X1_payOfAll_61 d x6 m2 (fun r3 m3 => j_X1_bestTogether_61_47_148 (d + 1) x3 x6 r3 x6 m3 Q)))))))))))) : j_X1_bestTogether_61_47_89 (d + 1) x3 x4 x5 x6 m Q := by
  refine w_iload (q := 91) hm144 ⟨⟨_, _, rfl⟩, rfl⟩ rfl ?_
  refine w_iconst (q := 92) hm144 ⟨⟨_, _, rfl⟩, rfl⟩ iconst_1 ?_
  refine w_aload_n (q := 93) hm144 ⟨⟨_, _, rfl⟩, rfl⟩ rfl ?_
  refine w_getr (q := 96) hm144 ⟨⟨_, _, rfl⟩, rfl⟩ rfl ?_
  refine w_getf (q := 99) (v := (m.1 2 2)) hm144 ⟨⟨_, _, rfl⟩, rfl⟩ rfl rfl ?_
  refine w_ishl (q := 100) hm144 ⟨⟨_, _, rfl⟩, rfl⟩ ?_
  refine w_icmp_ge (q := 103) (X := x6.toInt) (Y := ((1 : Int32) <<< ((m.1 2 2) &&& 31)).toInt) hm144 ⟨⟨_, _, rfl⟩, rfl⟩ rfl rfl (fun hc => ?_) (fun hc => ?_)
  · have h := h.1 hc
    refine w_iload (q := 156) hm144 ⟨⟨_, _, rfl⟩, rfl⟩ rfl ?_
    exact w_reti hm144 ⟨⟨_, _, rfl⟩, rfl⟩ rfl h
  · have h := h.2 hc
    refine w_iload (q := 105) hm144 ⟨⟨_, _, rfl⟩, rfl⟩ rfl ?_
    refine w_iload_n (q := 106) hm144 ⟨⟨_, _, rfl⟩, rfl⟩ rfl ?_
    refine w_iconst (q := 107) hm144 ⟨⟨_, _, rfl⟩, rfl⟩ iconst_m1 ?_
    refine w_ixor (q := 108) hm144 ⟨⟨_, _, rfl⟩, rfl⟩ ?_
    refine w_iand (q := 109) hm144 ⟨⟨_, _, rfl⟩, rfl⟩ ?_
    refine w_if_ne (q := 112) (X := (x6 &&& (x3 ^^^ (-1 : Int32))).toInt) hm144 ⟨⟨_, _, rfl⟩, rfl⟩ rfl (fun hc => ?_) (fun hc => ?_)
    · have h := h.1 hc
      exact h
    · have h := h.2 hc
      refine w_aload_n (q := 113) hm144 ⟨⟨_, _, rfl⟩, rfl⟩ rfl ?_
      refine w_iload (q := 115) hm144 ⟨⟨_, _, rfl⟩, rfl⟩ rfl ?_
      refine w_call (q := 118) (n := 2) (vs := [.inr (.inr (some 61)), .inl x6]) (rest := []) (la := [oR 61, oI x6, none, none]) hm144 ⟨⟨_, _, rfl⟩, rfl⟩ rfl rfl rfl rfl hm145 rfl rfl (fun _ => ⟨_, _, rfl, rfl⟩) rfl (Wp.mono h ?_)
      rintro _ m1 ⟨r1, rfl, h⟩
      change Wp _ _ 118 _ [.inl r1] _ _
      refine w_iload (q := 120) hm144 ⟨⟨_, _, rfl⟩, rfl⟩ rfl ?_
      refine w_icmp_le (q := 123) (X := r1.toInt) (Y := x5.toInt) hm144 ⟨⟨_, _, rfl⟩, rfl⟩ rfl rfl (fun hc => ?_) (fun hc => ?_)
      · have h := h.1 hc
        exact h
      · have h := h.2 hc
        refine w_aload_n (q := 124) hm144 ⟨⟨_, _, rfl⟩, rfl⟩ rfl ?_
        refine w_getr (q := 127) hm144 ⟨⟨_, _, rfl⟩, rfl⟩ rfl ?_
        refine w_aload_n (q := 128) hm144 ⟨⟨_, _, rfl⟩, rfl⟩ rfl ?_
        refine w_iload (q := 130) hm144 ⟨⟨_, _, rfl⟩, rfl⟩ rfl ?_
        refine w_call (q := 133) (n := 0) (vs := [.inr (.inr (some 54)), .inr (.inr (some 47)), .inl x6]) (rest := []) (la := [oR 54, oR 47, oI x6]) hm144 ⟨⟨_, _, rfl⟩, rfl⟩ rfl rfl rfl rfl hm123 rfl rfl (fun _ => ⟨_, _, rfl, rfl⟩) rfl (Wp.mono h ?_)
        rintro _ m2 ⟨r2, rfl, h⟩
        change Wp _ _ 133 _ [.inl r2] _ _
        refine w_if_ne (q := 136) (X := r2.toInt) hm144 ⟨⟨_, _, rfl⟩, rfl⟩ rfl (fun hc => ?_) (fun hc => ?_)
        · have h := h.1 hc
          exact h
        · have h := h.2 hc
          refine w_iload (q := 138) hm144 ⟨⟨_, _, rfl⟩, rfl⟩ rfl ?_
          refine w_istore (q := 140) (l' := [oR 61, oR 47, none, oI x3, oI x6, oI x5, oI x6]) hm144 ⟨⟨_, _, rfl⟩, rfl⟩ rfl rfl rfl ?_
          refine w_aload_n (q := 141) hm144 ⟨⟨_, _, rfl⟩, rfl⟩ rfl ?_
          refine w_iload (q := 143) hm144 ⟨⟨_, _, rfl⟩, rfl⟩ rfl ?_
          refine w_call (q := 146) (n := 2) (vs := [.inr (.inr (some 61)), .inl x6]) (rest := []) (la := [oR 61, oI x6, none, none]) hm144 ⟨⟨_, _, rfl⟩, rfl⟩ rfl rfl rfl rfl hm145 rfl rfl (fun _ => ⟨_, _, rfl, rfl⟩) rfl (Wp.mono h ?_)
          rintro _ m3 ⟨r3, rfl, h⟩
          change Wp _ _ 146 _ [.inl r3] _ _
          refine w_istore (q := 148) (l' := [oR 61, oR 47, none, oI x3, oI x6, oI r3, oI x6]) hm144 ⟨⟨_, _, rfl⟩, rfl⟩ rfl rfl rfl ?_
          exact h
theorem v_X1_bestTogether_61_47_148 {d : Nat} {x3 : Int32} {x4 : Int32} {x5 : Int32} {x6 : Int32} {m : dM} {Q : Int32 → dM → Prop} (h : j_X1_bestTogether_61_47_89 (d + 1) x3 x4 x5 (x6 + (1 : Int32)) m Q) : j_X1_bestTogether_61_47_148 (d + 1) x3 x4 x5 x6 m Q := by
  refine w_iinc (q := 151) (l' := [oR 61, oR 47, none, oI x3, oI x4, oI x5, oI (x6 + (1 : Int32))]) hm144 ⟨⟨_, _, rfl⟩, rfl⟩ rfl rfl rfl iconst_1 rfl ?_
  refine w_goto (q := 89) hm144 ⟨_, _, rfl⟩ ?_
  exact h
theorem v_X11_together_0 {d : Nat} {x1 : Int32} {m : dM} {Q : Int32 → dM → Prop} (h : ((x1.toInt < 0 → j_X11_together_0_9 (d + 1) m Q) ∧ (0 ≤ x1.toInt → ((x1.toInt ≤ 1 → c_X1_bestTogether_61_47 d m (fun r1 m1 => ((x1.toInt ≠ 0 → Q r1 m1) ∧ (x1.toInt = 0 → c_X1_payOfAll_61 d r1 m1 (fun r2 m2 => Q r2 m2))))) ∧ (1 < x1.toInt → j_X11_together_0_9 (d + 1) m Q))))) : c_X11_together_0 (d + 1) x1 m Q := by
  refine w_iload_n (q := 1) hm263 ⟨⟨_, _, rfl⟩, rfl⟩ rfl ?_
  refine w_if_lt (q := 4) (X := x1.toInt) hm263 ⟨⟨_, _, rfl⟩, rfl⟩ rfl (fun hc => ?_) (fun hc => ?_)
  · have h := h.1 hc
    exact Wp.wk [false, false, false] h
  · have h := h.2 hc
    refine w_iload_n (q := 5) hm263 ⟨⟨_, _, rfl⟩, rfl⟩ rfl ?_
    refine w_iconst (q := 6) hm263 ⟨⟨_, _, rfl⟩, rfl⟩ iconst_1 ?_
    refine w_icmp_le (q := 9) (X := x1.toInt) (Y := 1) hm263 ⟨⟨_, _, rfl⟩, rfl⟩ rfl (by decide) (fun hc => ?_) (fun hc => ?_)
    · have h := h.1 hc
      refine w_aload_n (q := 12) hm263 ⟨⟨_, _, rfl⟩, rfl⟩ rfl ?_
      refine w_getr (q := 15) hm263 ⟨⟨_, _, rfl⟩, rfl⟩ rfl ?_
      refine w_aload_n (q := 16) hm263 ⟨⟨_, _, rfl⟩, rfl⟩ rfl ?_
      refine w_getr (q := 19) hm263 ⟨⟨_, _, rfl⟩, rfl⟩ rfl ?_
      refine w_call (q := 22) (n := 5) (vs := [.inr (.inr (some 61)), .inr (.inr (some 47))]) (rest := []) (la := [oR 61, oR 47, none, none, none, none, none]) hm263 ⟨⟨_, _, rfl⟩, rfl⟩ rfl rfl rfl rfl hm144 rfl rfl (fun _ => ⟨_, _, rfl, rfl⟩) rfl (Wp.mono h ?_)
      rintro _ m1 ⟨r1, rfl, h⟩
      change Wp _ _ 22 _ [.inl r1] _ _
      refine w_istore_n (q := 23) (l' := [oR 0, oI x1, oI r1]) hm263 ⟨⟨_, _, rfl⟩, rfl⟩ rfl rfl rfl ?_
      refine w_iload_n (q := 24) hm263 ⟨⟨_, _, rfl⟩, rfl⟩ rfl ?_
      refine w_if_ne (q := 27) (X := x1.toInt) hm263 ⟨⟨_, _, rfl⟩, rfl⟩ rfl (fun hc => ?_) (fun hc => ?_)
      · have h := h.1 hc
        refine w_iload_n (q := 39) hm263 ⟨⟨_, _, rfl⟩, rfl⟩ rfl ?_
        exact w_reti hm263 ⟨⟨_, _, rfl⟩, rfl⟩ rfl h
      · have h := h.2 hc
        refine w_aload_n (q := 28) hm263 ⟨⟨_, _, rfl⟩, rfl⟩ rfl ?_
        refine w_getr (q := 31) hm263 ⟨⟨_, _, rfl⟩, rfl⟩ rfl ?_
        refine w_iload_n (q := 32) hm263 ⟨⟨_, _, rfl⟩, rfl⟩ rfl ?_
        refine w_call (q := 35) (n := 2) (vs := [.inr (.inr (some 61)), .inl r1]) (rest := []) (la := [oR 61, oI r1, none, none]) hm263 ⟨⟨_, _, rfl⟩, rfl⟩ rfl rfl rfl rfl hm145 rfl rfl (fun _ => ⟨_, _, rfl, rfl⟩) rfl (Wp.mono h ?_)
        rintro _ m2 ⟨r2, rfl, h⟩
        change Wp _ _ 35 _ [.inl r2] _ _
        refine w_goto (q := 39) hm263 ⟨_, _, rfl⟩ ?_
        exact w_reti hm263 ⟨⟨_, _, rfl⟩, rfl⟩ rfl h
    · have h := h.2 hc
      exact Wp.wk [false, false, false] h
theorem v_X11_together_0_9 {d : Nat} {m : dM} {Q : Int32 → dM → Prop} (h : Q (-1 : Int32) m) : j_X11_together_0_9 (d + 1) m Q := by
  refine w_iconst (q := 10) hm263 ⟨⟨_, _, rfl⟩, rfl⟩ iconst_m1 ?_
  exact w_reti hm263 ⟨⟨_, _, rfl⟩, rfl⟩ rfl h
theorem v_X12_usesLit_70 {d : Nat} {m : dM} {Q : Int32 → dM → Prop} (h : j_X12_usesLit_70_4 (d + 1) (0 : Int32) (0 : Int32) m Q) : c_X12_usesLit_70 (d + 1) m Q := by
  refine w_iconst (q := 1) hm87 ⟨⟨_, _, rfl⟩, rfl⟩ iconst_0 ?_
  refine w_istore_n (q := 2) (l' := [oR 70, oI (0 : Int32), none]) hm87 ⟨⟨_, _, rfl⟩, rfl⟩ rfl rfl rfl ?_
  refine w_iconst (q := 3) hm87 ⟨⟨_, _, rfl⟩, rfl⟩ iconst_0 ?_
  refine w_istore_n (q := 4) (l' := [oR 70, oI (0 : Int32), oI (0 : Int32)]) hm87 ⟨⟨_, _, rfl⟩, rfl⟩ rfl rfl rfl ?_
  exact h
theorem v_X12_usesLit_70_4 {d : Nat} {x1 : Int32} {x2 : Int32} {m : dM} {Q : Int32 → dM → Prop} (h : ((0 ≤ (m.1 70 18).toInt ∧ (m.1 70 18).toInt < 2) ∧ (((m.1 86 (m.1 70 18).toNatClampNeg).toInt ≤ x2.toInt → Q x1 m) ∧ (x2.toInt < (m.1 86 (m.1 70 18).toNatClampNeg).toInt → c_X12_flatAt_70 d x2 m (fun r1 m1 => c_X12_isLit_70 d r1 m1 (fun r2 m2 => ((r2.toInt = 0 → j_X12_usesLit_70_35 (d + 1) x1 x2 m2 Q) ∧ (r2.toInt ≠ 0 → j_X12_usesLit_70_35 (d + 1) (x1 ||| ((1 : Int32) <<< (x2 &&& 31))) x2 m2 Q)))))))) : j_X12_usesLit_70_4 (d + 1) x1 x2 m Q := by
  refine w_iload_n (q := 5) hm87 ⟨⟨_, _, rfl⟩, rfl⟩ rfl ?_
  refine w_aload_n (q := 6) hm87 ⟨⟨_, _, rfl⟩, rfl⟩ rfl ?_
  refine w_getr (q := 9) hm87 ⟨⟨_, _, rfl⟩, rfl⟩ rfl ?_
  refine w_aload_n (q := 10) hm87 ⟨⟨_, _, rfl⟩, rfl⟩ rfl ?_
  refine w_getf (q := 13) (v := (m.1 70 18)) hm87 ⟨⟨_, _, rfl⟩, rfl⟩ rfl rfl ?_
  obtain ⟨hi, h⟩ := h
  refine w_iald (q := 14) (v := (m.1 86 (m.1 70 18).toNatClampNeg)) hm87 ⟨⟨_, _, rfl⟩, rfl⟩ rfl hi rfl rfl ?_
  refine w_icmp_ge (q := 17) (X := x2.toInt) (Y := (m.1 86 (m.1 70 18).toNatClampNeg).toInt) hm87 ⟨⟨_, _, rfl⟩, rfl⟩ rfl rfl (fun hc => ?_) (fun hc => ?_)
  · have h := h.1 hc
    refine w_iload_n (q := 42) hm87 ⟨⟨_, _, rfl⟩, rfl⟩ rfl ?_
    exact w_reti hm87 ⟨⟨_, _, rfl⟩, rfl⟩ rfl h
  · have h := h.2 hc
    refine w_aload_n (q := 18) hm87 ⟨⟨_, _, rfl⟩, rfl⟩ rfl ?_
    refine w_aload_n (q := 19) hm87 ⟨⟨_, _, rfl⟩, rfl⟩ rfl ?_
    refine w_iload_n (q := 20) hm87 ⟨⟨_, _, rfl⟩, rfl⟩ rfl ?_
    refine w_call (q := 23) (n := 0) (vs := [.inr (.inr (some 70)), .inl x2]) (rest := [.inr (.inr (some 70))]) (la := [oR 70, oI x2]) hm87 ⟨⟨_, _, rfl⟩, rfl⟩ rfl rfl rfl rfl hm53 rfl rfl (fun _ => ⟨_, _, rfl, rfl⟩) rfl (Wp.mono h ?_)
    rintro _ m1 ⟨r1, rfl, h⟩
    change Wp _ _ 23 _ [.inl r1, .inr (.inr (some 70))] _ _
    refine w_call (q := 26) (n := 0) (vs := [.inr (.inr (some 70)), .inl r1]) (rest := []) (la := [oR 70, oI r1]) hm87 ⟨⟨_, _, rfl⟩, rfl⟩ rfl rfl rfl rfl hm51 rfl rfl (fun _ => ⟨_, _, rfl, rfl⟩) rfl (Wp.mono h ?_)
    rintro _ m2 ⟨r2, rfl, h⟩
    change Wp _ _ 26 _ [.inl r2] _ _
    refine w_if_eq (q := 29) (X := r2.toInt) hm87 ⟨⟨_, _, rfl⟩, rfl⟩ rfl (fun hc => ?_) (fun hc => ?_)
    · have h := h.1 hc
      exact h
    · have h := h.2 hc
      refine w_iload_n (q := 30) hm87 ⟨⟨_, _, rfl⟩, rfl⟩ rfl ?_
      refine w_iconst (q := 31) hm87 ⟨⟨_, _, rfl⟩, rfl⟩ iconst_1 ?_
      refine w_iload_n (q := 32) hm87 ⟨⟨_, _, rfl⟩, rfl⟩ rfl ?_
      refine w_ishl (q := 33) hm87 ⟨⟨_, _, rfl⟩, rfl⟩ ?_
      refine w_ior (q := 34) hm87 ⟨⟨_, _, rfl⟩, rfl⟩ ?_
      refine w_istore_n (q := 35) (l' := [oR 70, oI (x1 ||| ((1 : Int32) <<< (x2 &&& 31))), oI x2]) hm87 ⟨⟨_, _, rfl⟩, rfl⟩ rfl rfl rfl ?_
      exact h
theorem v_X12_usesLit_70_35 {d : Nat} {x1 : Int32} {x2 : Int32} {m : dM} {Q : Int32 → dM → Prop} (h : j_X12_usesLit_70_4 (d + 1) x1 (x2 + (1 : Int32)) m Q) : j_X12_usesLit_70_35 (d + 1) x1 x2 m Q := by
  refine w_iinc (q := 38) (l' := [oR 70, oI x1, oI (x2 + (1 : Int32))]) hm87 ⟨⟨_, _, rfl⟩, rfl⟩ rfl rfl rfl iconst_1 rfl ?_
  refine w_goto (q := 4) hm87 ⟨_, _, rfl⟩ ?_
  exact h
theorem v_X12_together_70 {d : Nat} {x1 : Int32} {m : dM} {Q : Int32 → dM → Prop} (h : c_X12_in d x1 (0 : Int32) (1 : Int32) m (fun r1 m1 => ((r1.toInt ≠ 0 → c_X12_copies_70 d m1 (fun m2 => c_X12_usesLit_70 d m2 (fun r3 m3 => j_X12_together_70_28 (d + 1) x1 r3 (0 : Int32) (0 : Int32) (1 : Int32) m3 Q))) ∧ (r1.toInt = 0 → Q (-1 : Int32) m1)))) : c_X12_together_70 (d + 1) x1 m Q := by
  refine w_iload_n (q := 1) hm88 ⟨⟨_, _, rfl⟩, rfl⟩ rfl ?_
  refine w_iconst (q := 2) hm88 ⟨⟨_, _, rfl⟩, rfl⟩ iconst_0 ?_
  refine w_iconst (q := 3) hm88 ⟨⟨_, _, rfl⟩, rfl⟩ iconst_1 ?_
  refine w_call (q := 6) (n := 0) (vs := [.inl x1, .inl (0 : Int32), .inl (1 : Int32)]) (rest := []) (la := [oI x1, oI (0 : Int32), oI (1 : Int32)]) hm88 ⟨⟨_, _, rfl⟩, rfl⟩ rfl rfl rfl rfl hm36 rfl rfl (fun hz => absurd hz (by decide)) rfl (Wp.mono h ?_)
  rintro _ m1 ⟨r1, rfl, h⟩
  change Wp _ _ 6 _ [.inl r1] _ _
  refine w_if_ne (q := 9) (X := r1.toInt) hm88 ⟨⟨_, _, rfl⟩, rfl⟩ rfl (fun hc => ?_) (fun hc => ?_)
  · have h := h.1 hc
    refine w_aload_n (q := 12) hm88 ⟨⟨_, _, rfl⟩, rfl⟩ rfl ?_
    refine w_call (q := 15) (n := 1) (vs := [.inr (.inr (some 70))]) (rest := []) (la := [oR 70, none]) hm88 ⟨⟨_, _, rfl⟩, rfl⟩ rfl rfl rfl rfl hm44 rfl rfl (fun _ => ⟨_, _, rfl, rfl⟩) rfl (Wp.mono h ?_)
    rintro _ m2 ⟨rfl, h⟩
    change Wp _ _ 15 _ [] _ _
    refine w_aload_n (q := 16) hm88 ⟨⟨_, _, rfl⟩, rfl⟩ rfl ?_
    refine w_call (q := 19) (n := 2) (vs := [.inr (.inr (some 70))]) (rest := []) (la := [oR 70, none, none]) hm88 ⟨⟨_, _, rfl⟩, rfl⟩ rfl rfl rfl rfl hm87 rfl rfl (fun _ => ⟨_, _, rfl, rfl⟩) rfl (Wp.mono h ?_)
    rintro _ m3 ⟨r3, rfl, h⟩
    change Wp _ _ 19 _ [.inl r3] _ _
    refine w_istore_n (q := 20) (l' := [oR 70, oI x1, oI r3, none, none, none, none]) hm88 ⟨⟨_, _, rfl⟩, rfl⟩ rfl rfl rfl ?_
    refine w_iconst (q := 21) hm88 ⟨⟨_, _, rfl⟩, rfl⟩ iconst_0 ?_
    refine w_istore_n (q := 22) (l' := [oR 70, oI x1, oI r3, oI (0 : Int32), none, none, none]) hm88 ⟨⟨_, _, rfl⟩, rfl⟩ rfl rfl rfl ?_
    refine w_iconst (q := 23) hm88 ⟨⟨_, _, rfl⟩, rfl⟩ iconst_0 ?_
    refine w_istore (q := 25) (l' := [oR 70, oI x1, oI r3, oI (0 : Int32), oI (0 : Int32), none, none]) hm88 ⟨⟨_, _, rfl⟩, rfl⟩ rfl rfl rfl ?_
    refine w_iconst (q := 26) hm88 ⟨⟨_, _, rfl⟩, rfl⟩ iconst_1 ?_
    refine w_istore (q := 28) (l' := [oR 70, oI x1, oI r3, oI (0 : Int32), oI (0 : Int32), oI (1 : Int32), none]) hm88 ⟨⟨_, _, rfl⟩, rfl⟩ rfl rfl rfl ?_
    exact h
  · have h := h.2 hc
    refine w_iconst (q := 10) hm88 ⟨⟨_, _, rfl⟩, rfl⟩ iconst_m1 ?_
    exact w_reti hm88 ⟨⟨_, _, rfl⟩, rfl⟩ rfl h
theorem v_X12_together_70_28 {d : Nat} {x1 : Int32} {x2 : Int32} {x3 : Int32} {x4 : Int32} {x5 : Int32} {m : dM} {Q : Int32 → dM → Prop} (h : ((0 ≤ (m.1 70 18).toInt ∧ (m.1 70 18).toInt < 2) ∧ ((((1 : Int32) <<< ((m.1 86 (m.1 70 18).toNatClampNeg) &&& 31)).toInt ≤ x5.toInt → ((x1.toInt ≠ 0 → Q x3 m) ∧ (x1.toInt = 0 → Q x4 m))) ∧ (x5.toInt < ((1 : Int32) <<< ((m.1 86 (m.1 70 18).toNatClampNeg) &&& 31)).toInt → (((x5 &&& (x2 ^^^ (-1 : Int32))).toInt = 0 → c_X12_paysAll_70 d x5 m (fun r1 m1 => ((r1.toInt ≤ x4.toInt → j_X12_together_70_101 (d + 1) x1 x2 x3 x4 x5 m1 Q) ∧ (x4.toInt < r1.toInt → c_X12_goingBits_70 d x5 ((m1.1 108 55) - (m1.1 108 55) / (24 : Int32) * (24 : Int32)) (0 : Int32) m1 (fun r2 m2 => ((r2.toInt = 0 → j_X12_together_70_101 (d + 1) x1 x2 x5 r1 x5 m2 Q) ∧ (r2.toInt ≠ 0 → j_X12_together_70_101 (d + 1) x1 x2 x3 x4 x5 m2 Q))))))) ∧ ((x5 &&& (x2 ^^^ (-1 : Int32))).toInt ≠ 0 → j_X12_together_70_101 (d + 1) x1 x2 x3 x4 x5 m Q)))))) : j_X12_together_70_28 (d + 1) x1 x2 x3 x4 x5 m Q := by
  refine w_iload (q := 30) hm88 ⟨⟨_, _, rfl⟩, rfl⟩ rfl ?_
  refine w_iconst (q := 31) hm88 ⟨⟨_, _, rfl⟩, rfl⟩ iconst_1 ?_
  refine w_aload_n (q := 32) hm88 ⟨⟨_, _, rfl⟩, rfl⟩ rfl ?_
  refine w_getr (q := 35) hm88 ⟨⟨_, _, rfl⟩, rfl⟩ rfl ?_
  refine w_aload_n (q := 36) hm88 ⟨⟨_, _, rfl⟩, rfl⟩ rfl ?_
  refine w_getf (q := 39) (v := (m.1 70 18)) hm88 ⟨⟨_, _, rfl⟩, rfl⟩ rfl rfl ?_
  obtain ⟨hi, h⟩ := h
  refine w_iald (q := 40) (v := (m.1 86 (m.1 70 18).toNatClampNeg)) hm88 ⟨⟨_, _, rfl⟩, rfl⟩ rfl hi rfl rfl ?_
  refine w_ishl (q := 41) hm88 ⟨⟨_, _, rfl⟩, rfl⟩ ?_
  refine w_icmp_ge (q := 44) (X := x5.toInt) (Y := ((1 : Int32) <<< ((m.1 86 (m.1 70 18).toNatClampNeg) &&& 31)).toInt) hm88 ⟨⟨_, _, rfl⟩, rfl⟩ rfl rfl (fun hc => ?_) (fun hc => ?_)
  · have h := h.1 hc
    refine w_iload_n (q := 108) hm88 ⟨⟨_, _, rfl⟩, rfl⟩ rfl ?_
    refine w_if_ne (q := 111) (X := x1.toInt) hm88 ⟨⟨_, _, rfl⟩, rfl⟩ rfl (fun hc => ?_) (fun hc => ?_)
    · have h := h.1 hc
      refine w_iload_n (q := 117) hm88 ⟨⟨_, _, rfl⟩, rfl⟩ rfl ?_
      exact w_reti hm88 ⟨⟨_, _, rfl⟩, rfl⟩ rfl h
    · have h := h.2 hc
      refine w_iload (q := 113) hm88 ⟨⟨_, _, rfl⟩, rfl⟩ rfl ?_
      refine w_goto (q := 117) hm88 ⟨_, _, rfl⟩ ?_
      exact w_reti hm88 ⟨⟨_, _, rfl⟩, rfl⟩ rfl h
  · have h := h.2 hc
    refine w_iload (q := 46) hm88 ⟨⟨_, _, rfl⟩, rfl⟩ rfl ?_
    refine w_iload_n (q := 47) hm88 ⟨⟨_, _, rfl⟩, rfl⟩ rfl ?_
    refine w_iconst (q := 48) hm88 ⟨⟨_, _, rfl⟩, rfl⟩ iconst_m1 ?_
    refine w_ixor (q := 49) hm88 ⟨⟨_, _, rfl⟩, rfl⟩ ?_
    refine w_iand (q := 50) hm88 ⟨⟨_, _, rfl⟩, rfl⟩ ?_
    refine w_if_eq (q := 53) (X := (x5 &&& (x2 ^^^ (-1 : Int32))).toInt) hm88 ⟨⟨_, _, rfl⟩, rfl⟩ rfl (fun hc => ?_) (fun hc => ?_)
    · have h := h.1 hc
      refine w_aload_n (q := 57) hm88 ⟨⟨_, _, rfl⟩, rfl⟩ rfl ?_
      refine w_iload (q := 59) hm88 ⟨⟨_, _, rfl⟩, rfl⟩ rfl ?_
      refine w_call (q := 62) (n := 2) (vs := [.inr (.inr (some 70)), .inl x5]) (rest := []) (la := [oR 70, oI x5, none, none]) hm88 ⟨⟨_, _, rfl⟩, rfl⟩ rfl rfl rfl rfl hm65 rfl rfl (fun _ => ⟨_, _, rfl, rfl⟩) rfl (Wp.mono h ?_)
      rintro _ m1 ⟨r1, rfl, h⟩
      change Wp _ _ 62 _ [.inl r1] _ _
      refine w_istore (q := 64) (l' := [oR 70, oI x1, oI x2, oI x3, oI x4, oI x5, oI r1]) hm88 ⟨⟨_, _, rfl⟩, rfl⟩ rfl rfl rfl ?_
      refine w_iload (q := 66) hm88 ⟨⟨_, _, rfl⟩, rfl⟩ rfl ?_
      refine w_iload (q := 68) hm88 ⟨⟨_, _, rfl⟩, rfl⟩ rfl ?_
      refine w_icmp_le (q := 71) (X := r1.toInt) (Y := x4.toInt) hm88 ⟨⟨_, _, rfl⟩, rfl⟩ rfl rfl (fun hc => ?_) (fun hc => ?_)
      · have h := h.1 hc
        exact Wp.wk [true, true, true, true, true, true, false] h
      · have h := h.2 hc
        refine w_aload_n (q := 72) hm88 ⟨⟨_, _, rfl⟩, rfl⟩ rfl ?_
        refine w_iload (q := 74) hm88 ⟨⟨_, _, rfl⟩, rfl⟩ rfl ?_
        refine w_aload_n (q := 75) hm88 ⟨⟨_, _, rfl⟩, rfl⟩ rfl ?_
        refine w_getr (q := 78) hm88 ⟨⟨_, _, rfl⟩, rfl⟩ rfl ?_
        refine w_bipush (q := 80) hm88 ⟨⟨_, _, rfl⟩, rfl⟩ bipush_55 ?_
        refine w_iald (q := 81) (j := 55) (v := (m1.1 108 55)) hm88 ⟨⟨_, _, rfl⟩, rfl⟩ rfl (by decide) (by decide) rfl ?_
        refine w_bipush (q := 83) hm88 ⟨⟨_, _, rfl⟩, rfl⟩ bipush_24 ?_
        refine w_irem (q := 84) hm88 ⟨⟨_, _, rfl⟩, rfl⟩ (by decide) ?_
        refine w_iconst (q := 85) hm88 ⟨⟨_, _, rfl⟩, rfl⟩ iconst_0 ?_
        refine w_call (q := 88) (n := 2) (vs := [.inr (.inr (some 70)), .inl x5, .inl ((m1.1 108 55) - (m1.1 108 55) / (24 : Int32) * (24 : Int32)), .inl (0 : Int32)]) (rest := []) (la := [oR 70, oI x5, oI ((m1.1 108 55) - (m1.1 108 55) / (24 : Int32) * (24 : Int32)), oI (0 : Int32), none, none]) hm88 ⟨⟨_, _, rfl⟩, rfl⟩ rfl rfl rfl rfl hm61 rfl rfl (fun _ => ⟨_, _, rfl, rfl⟩) rfl (Wp.mono h ?_)
        rintro _ m2 ⟨r2, rfl, h⟩
        change Wp _ _ 88 _ [.inl r2] _ _
        refine w_if_eq (q := 91) (X := r2.toInt) hm88 ⟨⟨_, _, rfl⟩, rfl⟩ rfl (fun hc => ?_) (fun hc => ?_)
        · have h := h.1 hc
          refine w_iload (q := 96) hm88 ⟨⟨_, _, rfl⟩, rfl⟩ rfl ?_
          refine w_istore_n (q := 97) (l' := [oR 70, oI x1, oI x2, oI x5, oI x4, oI x5, oI r1]) hm88 ⟨⟨_, _, rfl⟩, rfl⟩ rfl rfl rfl ?_
          refine w_iload (q := 99) hm88 ⟨⟨_, _, rfl⟩, rfl⟩ rfl ?_
          refine w_istore (q := 101) (l' := [oR 70, oI x1, oI x2, oI x5, oI r1, oI x5, oI r1]) hm88 ⟨⟨_, _, rfl⟩, rfl⟩ rfl rfl rfl ?_
          exact Wp.wk [true, true, true, true, true, true, false] h
        · have h := h.2 hc
          refine w_goto (q := 101) hm88 ⟨_, _, rfl⟩ ?_
          exact Wp.wk [true, true, true, true, true, true, false] h
    · have h := h.2 hc
      refine w_goto (q := 101) hm88 ⟨_, _, rfl⟩ ?_
      exact h
theorem v_X12_together_70_101 {d : Nat} {x1 : Int32} {x2 : Int32} {x3 : Int32} {x4 : Int32} {x5 : Int32} {m : dM} {Q : Int32 → dM → Prop} (h : j_X12_together_70_28 (d + 1) x1 x2 x3 x4 (x5 + (1 : Int32)) m Q) : j_X12_together_70_101 (d + 1) x1 x2 x3 x4 x5 m Q := by
  refine w_iinc (q := 104) (l' := [oR 70, oI x1, oI x2, oI x3, oI x4, oI (x5 + (1 : Int32)), none]) hm88 ⟨⟨_, _, rfl⟩, rfl⟩ rfl rfl rfl iconst_1 rfl ?_
  refine w_goto (q := 28) hm88 ⟨_, _, rfl⟩ ?_
  exact h
theorem v_X1_firstStart_61_47 {d : Nat} {x2 : Int32} {m : dM} {Q : Int32 → dM → Prop} (h : ((0 ≤ x2.toInt ∧ x2.toInt < 8) ∧ ((0 ≤ x2.toInt ∧ x2.toInt < 8) ∧ j_X1_firstStart_61_47_28 (d + 1) x2 (((m.1 10 x2.toNatClampNeg) - (m.1 9 x2.toNatClampNeg)) + (1 : Int32)) (0 : Int32) (0 : Int32) m Q))) : c_X1_firstStart_61_47 (d + 1) x2 m Q := by
  refine w_aload_n (q := 1) hm146 ⟨⟨_, _, rfl⟩, rfl⟩ rfl ?_
  refine w_getr (q := 4) hm146 ⟨⟨_, _, rfl⟩, rfl⟩ rfl ?_
  refine w_getr (q := 7) hm146 ⟨⟨_, _, rfl⟩, rfl⟩ rfl ?_
  refine w_iload_n (q := 8) hm146 ⟨⟨_, _, rfl⟩, rfl⟩ rfl ?_
  obtain ⟨hi, h⟩ := h
  refine w_iald (q := 9) (v := (m.1 10 x2.toNatClampNeg)) hm146 ⟨⟨_, _, rfl⟩, rfl⟩ rfl hi rfl rfl ?_
  refine w_aload_n (q := 10) hm146 ⟨⟨_, _, rfl⟩, rfl⟩ rfl ?_
  refine w_getr (q := 13) hm146 ⟨⟨_, _, rfl⟩, rfl⟩ rfl ?_
  refine w_getr (q := 16) hm146 ⟨⟨_, _, rfl⟩, rfl⟩ rfl ?_
  refine w_iload_n (q := 17) hm146 ⟨⟨_, _, rfl⟩, rfl⟩ rfl ?_
  obtain ⟨hi, h⟩ := h
  refine w_iald (q := 18) (v := (m.1 9 x2.toNatClampNeg)) hm146 ⟨⟨_, _, rfl⟩, rfl⟩ rfl hi rfl rfl ?_
  refine w_isub (q := 19) hm146 ⟨⟨_, _, rfl⟩, rfl⟩ ?_
  refine w_iconst (q := 20) hm146 ⟨⟨_, _, rfl⟩, rfl⟩ iconst_1 ?_
  refine w_iadd (q := 21) hm146 ⟨⟨_, _, rfl⟩, rfl⟩ ?_
  refine w_istore_n (q := 22) (l' := [oR 61, oR 47, oI x2, oI (((m.1 10 x2.toNatClampNeg) - (m.1 9 x2.toNatClampNeg)) + (1 : Int32)), none, none]) hm146 ⟨⟨_, _, rfl⟩, rfl⟩ rfl rfl rfl ?_
  refine w_iconst (q := 23) hm146 ⟨⟨_, _, rfl⟩, rfl⟩ iconst_0 ?_
  refine w_istore (q := 25) (l' := [oR 61, oR 47, oI x2, oI (((m.1 10 x2.toNatClampNeg) - (m.1 9 x2.toNatClampNeg)) + (1 : Int32)), oI (0 : Int32), none]) hm146 ⟨⟨_, _, rfl⟩, rfl⟩ rfl rfl rfl ?_
  refine w_iconst (q := 26) hm146 ⟨⟨_, _, rfl⟩, rfl⟩ iconst_0 ?_
  refine w_istore (q := 28) (l' := [oR 61, oR 47, oI x2, oI (((m.1 10 x2.toNatClampNeg) - (m.1 9 x2.toNatClampNeg)) + (1 : Int32)), oI (0 : Int32), oI (0 : Int32)]) hm146 ⟨⟨_, _, rfl⟩, rfl⟩ rfl rfl rfl ?_
  exact h
theorem v_X1_firstStart_61_47_28 {d : Nat} {x2 : Int32} {x3 : Int32} {x4 : Int32} {x5 : Int32} {m : dM} {Q : Int32 → dM → Prop} (h : ((24 ≤ x5.toInt → Q (-2 : Int32) m) ∧ (x5.toInt < 24 → c_X0_usesAt_54_47 d x5 m (fun r1 m1 => c_X0_putOn_54_47 d (r1 ||| ((1 : Int32) <<< (x2 &&& 31))) m1 (fun m2 => c_X0_going_54_47 d x5 (0 : Int32) m2 (fun r3 m3 => ((r3.toInt ≠ 0 → ((0 < x3.toInt → j_X1_firstStart_61_47_28 (d + 1) x2 x3 (0 : Int32) (x5 + (1 : Int32)) m3 Q) ∧ (x3.toInt ≤ 0 → Q ((x5 - x3) + (1 : Int32)) m3))) ∧ (r3.toInt = 0 → (((x4 + (1 : Int32)).toInt < x3.toInt → j_X1_firstStart_61_47_28 (d + 1) x2 x3 (x4 + (1 : Int32)) (x5 + (1 : Int32)) m3 Q) ∧ (x3.toInt ≤ (x4 + (1 : Int32)).toInt → Q ((x5 - x3) + (1 : Int32)) m3)))))))))) : j_X1_firstStart_61_47_28 (d + 1) x2 x3 x4 x5 m Q := by
  refine w_iload (q := 30) hm146 ⟨⟨_, _, rfl⟩, rfl⟩ rfl ?_
  refine w_bipush (q := 32) hm146 ⟨⟨_, _, rfl⟩, rfl⟩ bipush_24 ?_
  refine w_icmp_ge (q := 35) (X := x5.toInt) (Y := 24) hm146 ⟨⟨_, _, rfl⟩, rfl⟩ rfl (by decide) (fun hc => ?_) (fun hc => ?_)
  · have h := h.1 hc
    refine w_bipush (q := 102) hm146 ⟨⟨_, _, rfl⟩, rfl⟩ bipush_m2 ?_
    exact w_reti hm146 ⟨⟨_, _, rfl⟩, rfl⟩ rfl h
  · have h := h.2 hc
    refine w_aload_n (q := 36) hm146 ⟨⟨_, _, rfl⟩, rfl⟩ rfl ?_
    refine w_getr (q := 39) hm146 ⟨⟨_, _, rfl⟩, rfl⟩ rfl ?_
    refine w_aload_n (q := 40) hm146 ⟨⟨_, _, rfl⟩, rfl⟩ rfl ?_
    refine w_aload_n (q := 41) hm146 ⟨⟨_, _, rfl⟩, rfl⟩ rfl ?_
    refine w_getr (q := 44) hm146 ⟨⟨_, _, rfl⟩, rfl⟩ rfl ?_
    refine w_aload_n (q := 45) hm146 ⟨⟨_, _, rfl⟩, rfl⟩ rfl ?_
    refine w_iload (q := 47) hm146 ⟨⟨_, _, rfl⟩, rfl⟩ rfl ?_
    refine w_call (q := 50) (n := 3) (vs := [.inr (.inr (some 54)), .inr (.inr (some 47)), .inl x5]) (rest := [.inr (.inr (some 47)), .inr (.inr (some 54))]) (la := [oR 54, oR 47, oI x5, none, none, none]) hm146 ⟨⟨_, _, rfl⟩, rfl⟩ rfl rfl rfl rfl hm118 rfl rfl (fun _ => ⟨_, _, rfl, rfl⟩) rfl (Wp.mono h ?_)
    rintro _ m1 ⟨r1, rfl, h⟩
    change Wp _ _ 50 _ [.inl r1, .inr (.inr (some 47)), .inr (.inr (some 54))] _ _
    refine w_iconst (q := 51) hm146 ⟨⟨_, _, rfl⟩, rfl⟩ iconst_1 ?_
    refine w_iload_n (q := 52) hm146 ⟨⟨_, _, rfl⟩, rfl⟩ rfl ?_
    refine w_ishl (q := 53) hm146 ⟨⟨_, _, rfl⟩, rfl⟩ ?_
    refine w_ior (q := 54) hm146 ⟨⟨_, _, rfl⟩, rfl⟩ ?_
    refine w_call (q := 57) (n := 3) (vs := [.inr (.inr (some 54)), .inr (.inr (some 47)), .inl (r1 ||| ((1 : Int32) <<< (x2 &&& 31)))]) (rest := []) (la := [oR 54, oR 47, oI (r1 ||| ((1 : Int32) <<< (x2 &&& 31))), none, none, none]) hm146 ⟨⟨_, _, rfl⟩, rfl⟩ rfl rfl rfl rfl hm120 rfl rfl (fun _ => ⟨_, _, rfl, rfl⟩) rfl (Wp.mono h ?_)
    rintro _ m2 ⟨rfl, h⟩
    change Wp _ _ 57 _ [] _ _
    refine w_aload_n (q := 58) hm146 ⟨⟨_, _, rfl⟩, rfl⟩ rfl ?_
    refine w_getr (q := 61) hm146 ⟨⟨_, _, rfl⟩, rfl⟩ rfl ?_
    refine w_aload_n (q := 62) hm146 ⟨⟨_, _, rfl⟩, rfl⟩ rfl ?_
    refine w_iload (q := 64) hm146 ⟨⟨_, _, rfl⟩, rfl⟩ rfl ?_
    refine w_iconst (q := 65) hm146 ⟨⟨_, _, rfl⟩, rfl⟩ iconst_0 ?_
    refine w_call (q := 68) (n := 2) (vs := [.inr (.inr (some 54)), .inr (.inr (some 47)), .inl x5, .inl (0 : Int32)]) (rest := []) (la := [oR 54, oR 47, oI x5, oI (0 : Int32), none, none]) hm146 ⟨⟨_, _, rfl⟩, rfl⟩ rfl rfl rfl rfl hm124 rfl rfl (fun _ => ⟨_, _, rfl, rfl⟩) rfl (Wp.mono h ?_)
    rintro _ m3 ⟨r3, rfl, h⟩
    change Wp _ _ 68 _ [.inl r3] _ _
    refine w_if_ne (q := 71) (X := r3.toInt) hm146 ⟨⟨_, _, rfl⟩, rfl⟩ rfl (fun hc => ?_) (fun hc => ?_)
    · have h := h.1 hc
      refine w_iconst (q := 79) hm146 ⟨⟨_, _, rfl⟩, rfl⟩ iconst_0 ?_
      refine w_istore (q := 81) (l' := [oR 61, oR 47, oI x2, oI x3, oI (0 : Int32), oI x5]) hm146 ⟨⟨_, _, rfl⟩, rfl⟩ rfl rfl rfl ?_
      refine w_iload (q := 83) hm146 ⟨⟨_, _, rfl⟩, rfl⟩ rfl ?_
      refine w_iload_n (q := 84) hm146 ⟨⟨_, _, rfl⟩, rfl⟩ rfl ?_
      refine w_icmp_lt (q := 87) (X := 0) (Y := x3.toInt) hm146 ⟨⟨_, _, rfl⟩, rfl⟩ (by decide) rfl (fun hc => ?_) (fun hc => ?_)
      · have h := h.1 hc
        refine w_iinc (q := 97) (l' := [oR 61, oR 47, oI x2, oI x3, oI (0 : Int32), oI (x5 + (1 : Int32))]) hm146 ⟨⟨_, _, rfl⟩, rfl⟩ rfl rfl rfl iconst_1 rfl ?_
        refine w_goto (q := 28) hm146 ⟨_, _, rfl⟩ ?_
        exact h
      · have h := h.2 hc
        refine w_iload (q := 89) hm146 ⟨⟨_, _, rfl⟩, rfl⟩ rfl ?_
        refine w_iload_n (q := 90) hm146 ⟨⟨_, _, rfl⟩, rfl⟩ rfl ?_
        refine w_isub (q := 91) hm146 ⟨⟨_, _, rfl⟩, rfl⟩ ?_
        refine w_iconst (q := 92) hm146 ⟨⟨_, _, rfl⟩, rfl⟩ iconst_1 ?_
        refine w_iadd (q := 93) hm146 ⟨⟨_, _, rfl⟩, rfl⟩ ?_
        exact w_reti hm146 ⟨⟨_, _, rfl⟩, rfl⟩ rfl h
    · have h := h.2 hc
      refine w_iload (q := 73) hm146 ⟨⟨_, _, rfl⟩, rfl⟩ rfl ?_
      refine w_iconst (q := 74) hm146 ⟨⟨_, _, rfl⟩, rfl⟩ iconst_1 ?_
      refine w_iadd (q := 75) hm146 ⟨⟨_, _, rfl⟩, rfl⟩ ?_
      refine w_goto (q := 79) hm146 ⟨_, _, rfl⟩ ?_
      refine w_istore (q := 81) (l' := [oR 61, oR 47, oI x2, oI x3, oI (x4 + (1 : Int32)), oI x5]) hm146 ⟨⟨_, _, rfl⟩, rfl⟩ rfl rfl rfl ?_
      refine w_iload (q := 83) hm146 ⟨⟨_, _, rfl⟩, rfl⟩ rfl ?_
      refine w_iload_n (q := 84) hm146 ⟨⟨_, _, rfl⟩, rfl⟩ rfl ?_
      refine w_icmp_lt (q := 87) (X := (x4 + (1 : Int32)).toInt) (Y := x3.toInt) hm146 ⟨⟨_, _, rfl⟩, rfl⟩ rfl rfl (fun hc => ?_) (fun hc => ?_)
      · have h := h.1 hc
        refine w_iinc (q := 97) (l' := [oR 61, oR 47, oI x2, oI x3, oI (x4 + (1 : Int32)), oI (x5 + (1 : Int32))]) hm146 ⟨⟨_, _, rfl⟩, rfl⟩ rfl rfl rfl iconst_1 rfl ?_
        refine w_goto (q := 28) hm146 ⟨_, _, rfl⟩ ?_
        exact h
      · have h := h.2 hc
        refine w_iload (q := 89) hm146 ⟨⟨_, _, rfl⟩, rfl⟩ rfl ?_
        refine w_iload_n (q := 90) hm146 ⟨⟨_, _, rfl⟩, rfl⟩ rfl ?_
        refine w_isub (q := 91) hm146 ⟨⟨_, _, rfl⟩, rfl⟩ ?_
        refine w_iconst (q := 92) hm146 ⟨⟨_, _, rfl⟩, rfl⟩ iconst_1 ?_
        refine w_iadd (q := 93) hm146 ⟨⟨_, _, rfl⟩, rfl⟩ ?_
        exact w_reti hm146 ⟨⟨_, _, rfl⟩, rfl⟩ rfl h
theorem v_X11_when_0 {d : Nat} {x1 : Int32} {m : dM} {Q : Int32 → dM → Prop} (h : c_X11_isUse_0 d x1 m (fun r1 m1 => ((r1.toInt = 0 → Q (-1 : Int32) m1) ∧ (r1.toInt ≠ 0 → c_X1_firstStart_61_47 d x1 m1 (fun r2 m2 => Q r2 m2))))) : c_X11_when_0 (d + 1) x1 m Q := by
  refine w_aload_n (q := 1) hm264 ⟨⟨_, _, rfl⟩, rfl⟩ rfl ?_
  refine w_iload_n (q := 2) hm264 ⟨⟨_, _, rfl⟩, rfl⟩ rfl ?_
  refine w_call (q := 5) (n := 0) (vs := [.inr (.inr (some 0)), .inl x1]) (rest := []) (la := [oR 0, oI x1]) hm264 ⟨⟨_, _, rfl⟩, rfl⟩ rfl rfl rfl rfl hm250 rfl rfl (fun _ => ⟨_, _, rfl, rfl⟩) rfl (Wp.mono h ?_)
  rintro _ m1 ⟨r1, rfl, h⟩
  change Wp _ _ 5 _ [.inl r1] _ _
  refine w_if_eq (q := 8) (X := r1.toInt) hm264 ⟨⟨_, _, rfl⟩, rfl⟩ rfl (fun hc => ?_) (fun hc => ?_)
  · have h := h.1 hc
    refine w_iconst (q := 24) hm264 ⟨⟨_, _, rfl⟩, rfl⟩ iconst_m1 ?_
    exact w_reti hm264 ⟨⟨_, _, rfl⟩, rfl⟩ rfl h
  · have h := h.2 hc
    refine w_aload_n (q := 9) hm264 ⟨⟨_, _, rfl⟩, rfl⟩ rfl ?_
    refine w_getr (q := 12) hm264 ⟨⟨_, _, rfl⟩, rfl⟩ rfl ?_
    refine w_aload_n (q := 13) hm264 ⟨⟨_, _, rfl⟩, rfl⟩ rfl ?_
    refine w_getr (q := 16) hm264 ⟨⟨_, _, rfl⟩, rfl⟩ rfl ?_
    refine w_iload_n (q := 17) hm264 ⟨⟨_, _, rfl⟩, rfl⟩ rfl ?_
    refine w_call (q := 20) (n := 3) (vs := [.inr (.inr (some 61)), .inr (.inr (some 47)), .inl x1]) (rest := []) (la := [oR 61, oR 47, oI x1, none, none, none]) hm264 ⟨⟨_, _, rfl⟩, rfl⟩ rfl rfl rfl rfl hm146 rfl rfl (fun _ => ⟨_, _, rfl, rfl⟩) rfl (Wp.mono h ?_)
    rintro _ m2 ⟨r2, rfl, h⟩
    change Wp _ _ 20 _ [.inl r2] _ _
    refine w_goto (q := 24) hm264 ⟨_, _, rfl⟩ ?_
    exact w_reti hm264 ⟨⟨_, _, rfl⟩, rfl⟩ rfl h
theorem v_X12_canBegin_70 {d : Nat} {x1 : Int32} {x2 : Int32} {m : dM} {Q : Int32 → dM → Prop} (h : ((0 ≤ (((8 : Int32) * (m.1 70 18)) + x1).toInt ∧ (((8 : Int32) * (m.1 70 18)) + x1).toInt < 16) ∧ ((0 ≤ (((8 : Int32) * (m.1 70 18)) + x1).toInt ∧ (((8 : Int32) * (m.1 70 18)) + x1).toInt < 16) ∧ j_X12_canBegin_70_33 (d + 1) x1 x2 ((m.1 90 (((8 : Int32) * (m.1 70 18)) + x1).toNatClampNeg) - (m.1 89 (((8 : Int32) * (m.1 70 18)) + x1).toNatClampNeg)) x2 m Q))) : c_X12_canBegin_70 (d + 1) x1 x2 m Q := by
  refine w_aload_n (q := 1) hm89 ⟨⟨_, _, rfl⟩, rfl⟩ rfl ?_
  refine w_getr (q := 4) hm89 ⟨⟨_, _, rfl⟩, rfl⟩ rfl ?_
  refine w_bipush (q := 6) hm89 ⟨⟨_, _, rfl⟩, rfl⟩ bipush_8 ?_
  refine w_aload_n (q := 7) hm89 ⟨⟨_, _, rfl⟩, rfl⟩ rfl ?_
  refine w_getf (q := 10) (v := (m.1 70 18)) hm89 ⟨⟨_, _, rfl⟩, rfl⟩ rfl rfl ?_
  refine w_imul (q := 11) hm89 ⟨⟨_, _, rfl⟩, rfl⟩ ?_
  refine w_iload_n (q := 12) hm89 ⟨⟨_, _, rfl⟩, rfl⟩ rfl ?_
  refine w_iadd (q := 13) hm89 ⟨⟨_, _, rfl⟩, rfl⟩ ?_
  obtain ⟨hi, h⟩ := h
  refine w_iald (q := 14) (v := (m.1 90 (((8 : Int32) * (m.1 70 18)) + x1).toNatClampNeg)) hm89 ⟨⟨_, _, rfl⟩, rfl⟩ rfl hi rfl rfl ?_
  refine w_aload_n (q := 15) hm89 ⟨⟨_, _, rfl⟩, rfl⟩ rfl ?_
  refine w_getr (q := 18) hm89 ⟨⟨_, _, rfl⟩, rfl⟩ rfl ?_
  refine w_bipush (q := 20) hm89 ⟨⟨_, _, rfl⟩, rfl⟩ bipush_8 ?_
  refine w_aload_n (q := 21) hm89 ⟨⟨_, _, rfl⟩, rfl⟩ rfl ?_
  refine w_getf (q := 24) (v := (m.1 70 18)) hm89 ⟨⟨_, _, rfl⟩, rfl⟩ rfl rfl ?_
  refine w_imul (q := 25) hm89 ⟨⟨_, _, rfl⟩, rfl⟩ ?_
  refine w_iload_n (q := 26) hm89 ⟨⟨_, _, rfl⟩, rfl⟩ rfl ?_
  refine w_iadd (q := 27) hm89 ⟨⟨_, _, rfl⟩, rfl⟩ ?_
  obtain ⟨hi, h⟩ := h
  refine w_iald (q := 28) (v := (m.1 89 (((8 : Int32) * (m.1 70 18)) + x1).toNatClampNeg)) hm89 ⟨⟨_, _, rfl⟩, rfl⟩ rfl hi rfl rfl ?_
  refine w_isub (q := 29) hm89 ⟨⟨_, _, rfl⟩, rfl⟩ ?_
  refine w_istore_n (q := 30) (l' := [oR 70, oI x1, oI x2, oI ((m.1 90 (((8 : Int32) * (m.1 70 18)) + x1).toNatClampNeg) - (m.1 89 (((8 : Int32) * (m.1 70 18)) + x1).toNatClampNeg)), none, none]) hm89 ⟨⟨_, _, rfl⟩, rfl⟩ rfl rfl rfl ?_
  refine w_iload_n (q := 31) hm89 ⟨⟨_, _, rfl⟩, rfl⟩ rfl ?_
  refine w_istore (q := 33) (l' := [oR 70, oI x1, oI x2, oI ((m.1 90 (((8 : Int32) * (m.1 70 18)) + x1).toNatClampNeg) - (m.1 89 (((8 : Int32) * (m.1 70 18)) + x1).toNatClampNeg)), oI x2, none]) hm89 ⟨⟨_, _, rfl⟩, rfl⟩ rfl rfl rfl ?_
  exact h
theorem v_X12_canBegin_70_33 {d : Nat} {x1 : Int32} {x2 : Int32} {x3 : Int32} {x4 : Int32} {m : dM} {Q : Int32 → dM → Prop} (h : (((x2 + x3).toInt < x4.toInt → Q (1 : Int32) m) ∧ (x4.toInt ≤ (x2 + x3).toInt → c_X12_onAt_70 d x4 m (fun r1 m1 => c_X12_flatAt_70 d x1 m1 (fun r2 m2 => c_X12_isLit_70 d r2 m2 (fun r3 m3 => ((r3.toInt = 0 → j_X12_canBegin_70_75 (d + 1) x1 x2 x3 x4 (r1 &&& (((1 : Int32) <<< (x1 &&& 31)) ^^^ (-1 : Int32))) m3 Q) ∧ (r3.toInt ≠ 0 → j_X12_canBegin_70_75 (d + 1) x1 x2 x3 x4 ((r1 &&& (((1 : Int32) <<< (x1 &&& 31)) ^^^ (-1 : Int32))) ||| ((1 : Int32) <<< (x1 &&& 31))) m3 Q)))))))) : j_X12_canBegin_70_33 (d + 1) x1 x2 x3 x4 m Q := by
  refine w_iload (q := 35) hm89 ⟨⟨_, _, rfl⟩, rfl⟩ rfl ?_
  refine w_iload_n (q := 36) hm89 ⟨⟨_, _, rfl⟩, rfl⟩ rfl ?_
  refine w_iload_n (q := 37) hm89 ⟨⟨_, _, rfl⟩, rfl⟩ rfl ?_
  refine w_iadd (q := 38) hm89 ⟨⟨_, _, rfl⟩, rfl⟩ ?_
  refine w_icmp_gt (q := 41) (X := x4.toInt) (Y := (x2 + x3).toInt) hm89 ⟨⟨_, _, rfl⟩, rfl⟩ rfl rfl (fun hc => ?_) (fun hc => ?_)
  · have h := h.1 hc
    refine w_iconst (q := 96) hm89 ⟨⟨_, _, rfl⟩, rfl⟩ iconst_1 ?_
    exact w_retz hm89 ⟨⟨_, _, rfl⟩, rfl⟩ rfl (by decide) h
  · have h := h.2 hc
    refine w_aload_n (q := 42) hm89 ⟨⟨_, _, rfl⟩, rfl⟩ rfl ?_
    refine w_iload (q := 44) hm89 ⟨⟨_, _, rfl⟩, rfl⟩ rfl ?_
    refine w_call (q := 47) (n := 2) (vs := [.inr (.inr (some 70)), .inl x4]) (rest := []) (la := [oR 70, oI x4, none, none]) hm89 ⟨⟨_, _, rfl⟩, rfl⟩ rfl rfl rfl rfl hm55 rfl rfl (fun _ => ⟨_, _, rfl, rfl⟩) rfl (Wp.mono h ?_)
    rintro _ m1 ⟨r1, rfl, h⟩
    change Wp _ _ 47 _ [.inl r1] _ _
    refine w_iconst (q := 48) hm89 ⟨⟨_, _, rfl⟩, rfl⟩ iconst_1 ?_
    refine w_iload_n (q := 49) hm89 ⟨⟨_, _, rfl⟩, rfl⟩ rfl ?_
    refine w_ishl (q := 50) hm89 ⟨⟨_, _, rfl⟩, rfl⟩ ?_
    refine w_iconst (q := 51) hm89 ⟨⟨_, _, rfl⟩, rfl⟩ iconst_m1 ?_
    refine w_ixor (q := 52) hm89 ⟨⟨_, _, rfl⟩, rfl⟩ ?_
    refine w_iand (q := 53) hm89 ⟨⟨_, _, rfl⟩, rfl⟩ ?_
    refine w_istore (q := 55) (l' := [oR 70, oI x1, oI x2, oI x3, oI x4, oI (r1 &&& (((1 : Int32) <<< (x1 &&& 31)) ^^^ (-1 : Int32)))]) hm89 ⟨⟨_, _, rfl⟩, rfl⟩ rfl rfl rfl ?_
    refine w_aload_n (q := 56) hm89 ⟨⟨_, _, rfl⟩, rfl⟩ rfl ?_
    refine w_aload_n (q := 57) hm89 ⟨⟨_, _, rfl⟩, rfl⟩ rfl ?_
    refine w_iload_n (q := 58) hm89 ⟨⟨_, _, rfl⟩, rfl⟩ rfl ?_
    refine w_call (q := 61) (n := 0) (vs := [.inr (.inr (some 70)), .inl x1]) (rest := [.inr (.inr (some 70))]) (la := [oR 70, oI x1]) hm89 ⟨⟨_, _, rfl⟩, rfl⟩ rfl rfl rfl rfl hm53 rfl rfl (fun _ => ⟨_, _, rfl, rfl⟩) rfl (Wp.mono h ?_)
    rintro _ m2 ⟨r2, rfl, h⟩
    change Wp _ _ 61 _ [.inl r2, .inr (.inr (some 70))] _ _
    refine w_call (q := 64) (n := 0) (vs := [.inr (.inr (some 70)), .inl r2]) (rest := []) (la := [oR 70, oI r2]) hm89 ⟨⟨_, _, rfl⟩, rfl⟩ rfl rfl rfl rfl hm51 rfl rfl (fun _ => ⟨_, _, rfl, rfl⟩) rfl (Wp.mono h ?_)
    rintro _ m3 ⟨r3, rfl, h⟩
    change Wp _ _ 64 _ [.inl r3] _ _
    refine w_if_eq (q := 67) (X := r3.toInt) hm89 ⟨⟨_, _, rfl⟩, rfl⟩ rfl (fun hc => ?_) (fun hc => ?_)
    · have h := h.1 hc
      exact h
    · have h := h.2 hc
      refine w_iload (q := 69) hm89 ⟨⟨_, _, rfl⟩, rfl⟩ rfl ?_
      refine w_iconst (q := 70) hm89 ⟨⟨_, _, rfl⟩, rfl⟩ iconst_1 ?_
      refine w_iload_n (q := 71) hm89 ⟨⟨_, _, rfl⟩, rfl⟩ rfl ?_
      refine w_ishl (q := 72) hm89 ⟨⟨_, _, rfl⟩, rfl⟩ ?_
      refine w_ior (q := 73) hm89 ⟨⟨_, _, rfl⟩, rfl⟩ ?_
      refine w_istore (q := 75) (l' := [oR 70, oI x1, oI x2, oI x3, oI x4, oI ((r1 &&& (((1 : Int32) <<< (x1 &&& 31)) ^^^ (-1 : Int32))) ||| ((1 : Int32) <<< (x1 &&& 31)))]) hm89 ⟨⟨_, _, rfl⟩, rfl⟩ rfl rfl rfl ?_
      exact h
theorem v_X12_canBegin_70_75 {d : Nat} {x1 : Int32} {x2 : Int32} {x3 : Int32} {x4 : Int32} {x5 : Int32} {m : dM} {Q : Int32 → dM → Prop} (h : c_X12_goingBits_70 d x5 x4 (0 : Int32) m (fun r1 m1 => ((r1.toInt = 0 → j_X12_canBegin_70_33 (d + 1) x1 x2 x3 (x4 + (1 : Int32)) m1 Q) ∧ (r1.toInt ≠ 0 → Q (0 : Int32) m1)))) : j_X12_canBegin_70_75 (d + 1) x1 x2 x3 x4 x5 m Q := by
  refine w_aload_n (q := 76) hm89 ⟨⟨_, _, rfl⟩, rfl⟩ rfl ?_
  refine w_iload (q := 78) hm89 ⟨⟨_, _, rfl⟩, rfl⟩ rfl ?_
  refine w_iload (q := 80) hm89 ⟨⟨_, _, rfl⟩, rfl⟩ rfl ?_
  refine w_iconst (q := 81) hm89 ⟨⟨_, _, rfl⟩, rfl⟩ iconst_0 ?_
  refine w_call (q := 84) (n := 2) (vs := [.inr (.inr (some 70)), .inl x5, .inl x4, .inl (0 : Int32)]) (rest := []) (la := [oR 70, oI x5, oI x4, oI (0 : Int32), none, none]) hm89 ⟨⟨_, _, rfl⟩, rfl⟩ rfl rfl rfl rfl hm61 rfl rfl (fun _ => ⟨_, _, rfl, rfl⟩) rfl (Wp.mono h ?_)
  rintro _ m1 ⟨r1, rfl, h⟩
  change Wp _ _ 84 _ [.inl r1] _ _
  refine w_if_eq (q := 87) (X := r1.toInt) hm89 ⟨⟨_, _, rfl⟩, rfl⟩ rfl (fun hc => ?_) (fun hc => ?_)
  · have h := h.1 hc
    refine w_iinc (q := 92) (l' := [oR 70, oI x1, oI x2, oI x3, oI (x4 + (1 : Int32)), oI x5]) hm89 ⟨⟨_, _, rfl⟩, rfl⟩ rfl rfl rfl iconst_1 rfl ?_
    refine w_goto (q := 33) hm89 ⟨_, _, rfl⟩ ?_
    exact Wp.wk [true, true, true, true, true, false] h
  · have h := h.2 hc
    refine w_iconst (q := 88) hm89 ⟨⟨_, _, rfl⟩, rfl⟩ iconst_0 ?_
    exact w_retz hm89 ⟨⟨_, _, rfl⟩, rfl⟩ rfl (by decide) h
theorem v_X12_when_70 {d : Nat} {x1 : Int32} {m : dM} {Q : Int32 → dM → Prop} (h : c_X12_isUse_70 d x1 m (fun r1 m1 => ((r1.toInt ≠ 0 → c_X12_copies_70 d m1 (fun m2 => ((0 ≤ (((8 : Int32) * (m2.1 70 18)) + x1).toInt ∧ (((8 : Int32) * (m2.1 70 18)) + x1).toInt < 16) ∧ ((0 ≤ (((8 : Int32) * (m2.1 70 18)) + x1).toInt ∧ (((8 : Int32) * (m2.1 70 18)) + x1).toInt < 16) ∧ j_X12_when_70_46 (d + 1) x1 ((m2.1 90 (((8 : Int32) * (m2.1 70 18)) + x1).toNatClampNeg) - (m2.1 89 (((8 : Int32) * (m2.1 70 18)) + x1).toNatClampNeg)) (0 : Int32) m2 Q)))) ∧ (r1.toInt = 0 → Q (-1 : Int32) m1)))) : c_X12_when_70 (d + 1) x1 m Q := by
  refine w_aload_n (q := 1) hm90 ⟨⟨_, _, rfl⟩, rfl⟩ rfl ?_
  refine w_iload_n (q := 2) hm90 ⟨⟨_, _, rfl⟩, rfl⟩ rfl ?_
  refine w_call (q := 5) (n := 0) (vs := [.inr (.inr (some 70)), .inl x1]) (rest := []) (la := [oR 70, oI x1]) hm90 ⟨⟨_, _, rfl⟩, rfl⟩ rfl rfl rfl rfl hm41 rfl rfl (fun _ => ⟨_, _, rfl, rfl⟩) rfl (Wp.mono h ?_)
  rintro _ m1 ⟨r1, rfl, h⟩
  change Wp _ _ 5 _ [.inl r1] _ _
  refine w_if_ne (q := 8) (X := r1.toInt) hm90 ⟨⟨_, _, rfl⟩, rfl⟩ rfl (fun hc => ?_) (fun hc => ?_)
  · have h := h.1 hc
    refine w_aload_n (q := 11) hm90 ⟨⟨_, _, rfl⟩, rfl⟩ rfl ?_
    refine w_call (q := 14) (n := 1) (vs := [.inr (.inr (some 70))]) (rest := []) (la := [oR 70, none]) hm90 ⟨⟨_, _, rfl⟩, rfl⟩ rfl rfl rfl rfl hm44 rfl rfl (fun _ => ⟨_, _, rfl, rfl⟩) rfl (Wp.mono h ?_)
    rintro _ m2 ⟨rfl, h⟩
    change Wp _ _ 14 _ [] _ _
    refine w_aload_n (q := 15) hm90 ⟨⟨_, _, rfl⟩, rfl⟩ rfl ?_
    refine w_getr (q := 18) hm90 ⟨⟨_, _, rfl⟩, rfl⟩ rfl ?_
    refine w_bipush (q := 20) hm90 ⟨⟨_, _, rfl⟩, rfl⟩ bipush_8 ?_
    refine w_aload_n (q := 21) hm90 ⟨⟨_, _, rfl⟩, rfl⟩ rfl ?_
    refine w_getf (q := 24) (v := (m2.1 70 18)) hm90 ⟨⟨_, _, rfl⟩, rfl⟩ rfl rfl ?_
    refine w_imul (q := 25) hm90 ⟨⟨_, _, rfl⟩, rfl⟩ ?_
    refine w_iload_n (q := 26) hm90 ⟨⟨_, _, rfl⟩, rfl⟩ rfl ?_
    refine w_iadd (q := 27) hm90 ⟨⟨_, _, rfl⟩, rfl⟩ ?_
    obtain ⟨hi, h⟩ := h
    refine w_iald (q := 28) (v := (m2.1 90 (((8 : Int32) * (m2.1 70 18)) + x1).toNatClampNeg)) hm90 ⟨⟨_, _, rfl⟩, rfl⟩ rfl hi rfl rfl ?_
    refine w_aload_n (q := 29) hm90 ⟨⟨_, _, rfl⟩, rfl⟩ rfl ?_
    refine w_getr (q := 32) hm90 ⟨⟨_, _, rfl⟩, rfl⟩ rfl ?_
    refine w_bipush (q := 34) hm90 ⟨⟨_, _, rfl⟩, rfl⟩ bipush_8 ?_
    refine w_aload_n (q := 35) hm90 ⟨⟨_, _, rfl⟩, rfl⟩ rfl ?_
    refine w_getf (q := 38) (v := (m2.1 70 18)) hm90 ⟨⟨_, _, rfl⟩, rfl⟩ rfl rfl ?_
    refine w_imul (q := 39) hm90 ⟨⟨_, _, rfl⟩, rfl⟩ ?_
    refine w_iload_n (q := 40) hm90 ⟨⟨_, _, rfl⟩, rfl⟩ rfl ?_
    refine w_iadd (q := 41) hm90 ⟨⟨_, _, rfl⟩, rfl⟩ ?_
    obtain ⟨hi, h⟩ := h
    refine w_iald (q := 42) (v := (m2.1 89 (((8 : Int32) * (m2.1 70 18)) + x1).toNatClampNeg)) hm90 ⟨⟨_, _, rfl⟩, rfl⟩ rfl hi rfl rfl ?_
    refine w_isub (q := 43) hm90 ⟨⟨_, _, rfl⟩, rfl⟩ ?_
    refine w_istore_n (q := 44) (l' := [oR 70, oI x1, oI ((m2.1 90 (((8 : Int32) * (m2.1 70 18)) + x1).toNatClampNeg) - (m2.1 89 (((8 : Int32) * (m2.1 70 18)) + x1).toNatClampNeg)), none]) hm90 ⟨⟨_, _, rfl⟩, rfl⟩ rfl rfl rfl ?_
    refine w_iconst (q := 45) hm90 ⟨⟨_, _, rfl⟩, rfl⟩ iconst_0 ?_
    refine w_istore_n (q := 46) (l' := [oR 70, oI x1, oI ((m2.1 90 (((8 : Int32) * (m2.1 70 18)) + x1).toNatClampNeg) - (m2.1 89 (((8 : Int32) * (m2.1 70 18)) + x1).toNatClampNeg)), oI (0 : Int32)]) hm90 ⟨⟨_, _, rfl⟩, rfl⟩ rfl rfl rfl ?_
    exact h
  · have h := h.2 hc
    refine w_iconst (q := 9) hm90 ⟨⟨_, _, rfl⟩, rfl⟩ iconst_m1 ?_
    exact w_reti hm90 ⟨⟨_, _, rfl⟩, rfl⟩ rfl h
theorem v_X12_when_70_46 {d : Nat} {x1 : Int32} {x2 : Int32} {x3 : Int32} {m : dM} {Q : Int32 → dM → Prop} (h : ((23 < (x3 + x2).toInt → Q (-2 : Int32) m) ∧ ((x3 + x2).toInt ≤ 23 → c_X12_canBegin_70 d x1 x3 m (fun r1 m1 => ((r1.toInt = 0 → j_X12_when_70_46 (d + 1) x1 x2 (x3 + (1 : Int32)) m1 Q) ∧ (r1.toInt ≠ 0 → Q x3 m1)))))) : j_X12_when_70_46 (d + 1) x1 x2 x3 m Q := by
  refine w_iload_n (q := 47) hm90 ⟨⟨_, _, rfl⟩, rfl⟩ rfl ?_
  refine w_iload_n (q := 48) hm90 ⟨⟨_, _, rfl⟩, rfl⟩ rfl ?_
  refine w_iadd (q := 49) hm90 ⟨⟨_, _, rfl⟩, rfl⟩ ?_
  refine w_bipush (q := 51) hm90 ⟨⟨_, _, rfl⟩, rfl⟩ bipush_23 ?_
  refine w_icmp_gt (q := 54) (X := (x3 + x2).toInt) (Y := 23) hm90 ⟨⟨_, _, rfl⟩, rfl⟩ rfl (by decide) (fun hc => ?_) (fun hc => ?_)
  · have h := h.1 hc
    refine w_bipush (q := 73) hm90 ⟨⟨_, _, rfl⟩, rfl⟩ bipush_m2 ?_
    exact w_reti hm90 ⟨⟨_, _, rfl⟩, rfl⟩ rfl h
  · have h := h.2 hc
    refine w_aload_n (q := 55) hm90 ⟨⟨_, _, rfl⟩, rfl⟩ rfl ?_
    refine w_iload_n (q := 56) hm90 ⟨⟨_, _, rfl⟩, rfl⟩ rfl ?_
    refine w_iload_n (q := 57) hm90 ⟨⟨_, _, rfl⟩, rfl⟩ rfl ?_
    refine w_call (q := 60) (n := 3) (vs := [.inr (.inr (some 70)), .inl x1, .inl x3]) (rest := []) (la := [oR 70, oI x1, oI x3, none, none, none]) hm90 ⟨⟨_, _, rfl⟩, rfl⟩ rfl rfl rfl rfl hm89 rfl rfl (fun _ => ⟨_, _, rfl, rfl⟩) rfl (Wp.mono h ?_)
    rintro _ m1 ⟨r1, rfl, h⟩
    change Wp _ _ 60 _ [.inl r1] _ _
    refine w_if_eq (q := 63) (X := r1.toInt) hm90 ⟨⟨_, _, rfl⟩, rfl⟩ rfl (fun hc => ?_) (fun hc => ?_)
    · have h := h.1 hc
      refine w_iinc (q := 68) (l' := [oR 70, oI x1, oI x2, oI (x3 + (1 : Int32))]) hm90 ⟨⟨_, _, rfl⟩, rfl⟩ rfl rfl rfl iconst_1 rfl ?_
      refine w_goto (q := 46) hm90 ⟨_, _, rfl⟩ ?_
      exact h
    · have h := h.2 hc
      refine w_iload_n (q := 64) hm90 ⟨⟨_, _, rfl⟩, rfl⟩ rfl ?_
      exact w_reti hm90 ⟨⟨_, _, rfl⟩, rfl⟩ rfl h
theorem v_X1_bestThicker_61_47 {d : Nat} {x2 : Int32} {m : dM} {Q : Int32 → dM → Prop} (h : c_X7_copy_62_47 d m (fun m1 => c_X1_trialTillGone_61 d m1 (fun r2 m2 => j_X1_bestThicker_61_47_20 (d + 1) x2 r2 (-2 : Int32) (0 : Int32) m2 Q))) : c_X1_bestThicker_61_47 (d + 1) x2 m Q := by
  refine w_aload_n (q := 1) hm143 ⟨⟨_, _, rfl⟩, rfl⟩ rfl ?_
  refine w_getr (q := 4) hm143 ⟨⟨_, _, rfl⟩, rfl⟩ rfl ?_
  refine w_aload_n (q := 5) hm143 ⟨⟨_, _, rfl⟩, rfl⟩ rfl ?_
  refine w_call (q := 8) (n := 0) (vs := [.inr (.inr (some 62)), .inr (.inr (some 47))]) (rest := []) (la := [oR 62, oR 47]) hm143 ⟨⟨_, _, rfl⟩, rfl⟩ rfl rfl rfl rfl hm209 rfl rfl (fun _ => ⟨_, _, rfl, rfl⟩) rfl (Wp.mono h ?_)
  rintro _ m1 ⟨rfl, h⟩
  change Wp _ _ 8 _ [] _ _
  refine w_aload_n (q := 9) hm143 ⟨⟨_, _, rfl⟩, rfl⟩ rfl ?_
  refine w_call (q := 12) (n := 1) (vs := [.inr (.inr (some 61))]) (rest := []) (la := [oR 61, none]) hm143 ⟨⟨_, _, rfl⟩, rfl⟩ rfl rfl rfl rfl hm142 rfl rfl (fun _ => ⟨_, _, rfl, rfl⟩) rfl (Wp.mono h ?_)
  rintro _ m2 ⟨r2, rfl, h⟩
  change Wp _ _ 12 _ [.inl r2] _ _
  refine w_istore_n (q := 13) (l' := [oR 61, oR 47, oI x2, oI r2, none, none, none]) hm143 ⟨⟨_, _, rfl⟩, rfl⟩ rfl rfl rfl ?_
  refine w_bipush (q := 15) hm143 ⟨⟨_, _, rfl⟩, rfl⟩ bipush_m2 ?_
  refine w_istore (q := 17) (l' := [oR 61, oR 47, oI x2, oI r2, oI (-2 : Int32), none, none]) hm143 ⟨⟨_, _, rfl⟩, rfl⟩ rfl rfl rfl ?_
  refine w_iconst (q := 18) hm143 ⟨⟨_, _, rfl⟩, rfl⟩ iconst_0 ?_
  refine w_istore (q := 20) (l' := [oR 61, oR 47, oI x2, oI r2, oI (-2 : Int32), oI (0 : Int32), none]) hm143 ⟨⟨_, _, rfl⟩, rfl⟩ rfl rfl rfl ?_
  exact h
theorem v_X1_bestThicker_61_47_20 {d : Nat} {x2 : Int32} {x3 : Int32} {x4 : Int32} {x5 : Int32} {m : dM} {Q : Int32 → dM → Prop} (h : (((m.1 2 1).toInt ≤ x5.toInt → j_X1_bestThicker_61_47_111 (d + 1) x4 m Q) ∧ (x5.toInt < (m.1 2 1).toInt → ((200 < x3.toInt → j_X1_bestThicker_61_47_111 (d + 1) x4 m Q) ∧ (x3.toInt ≤ 200 → c_X11_has d (m.1 47 3) x5 m (fun r1 m1 => ((r1.toInt ≠ 0 → j_X1_bestThicker_61_47_105 (d + 1) x2 x3 x4 x5 m1 Q) ∧ (r1.toInt = 0 → c_X7_copy_62_47 d m1 (fun m2 => ((0 ≤ x5.toInt ∧ x5.toInt < 10) ∧ ((0 ≤ x5.toInt ∧ x5.toInt < 10) ∧ c_X1_trialTillGone_61 d (dSet m2 63 x5.toNatClampNeg (if ((m2.1 63 x5.toNatClampNeg) + x2) < (99 : Int32) then ((m2.1 63 x5.toNatClampNeg) + x2) else (99 : Int32))) (fun r3 m3 => ((r3.toInt ≤ x3.toInt → j_X1_bestThicker_61_47_105 (d + 1) x2 x3 x4 x5 m3 Q) ∧ (x3.toInt < r3.toInt → j_X1_bestThicker_61_47_105 (d + 1) x2 r3 x5 x5 m3 Q)))))))))))))) : j_X1_bestThicker_61_47_20 (d + 1) x2 x3 x4 x5 m Q := by
  refine w_iload (q := 22) hm143 ⟨⟨_, _, rfl⟩, rfl⟩ rfl ?_
  refine w_aload_n (q := 23) hm143 ⟨⟨_, _, rfl⟩, rfl⟩ rfl ?_
  refine w_getr (q := 26) hm143 ⟨⟨_, _, rfl⟩, rfl⟩ rfl ?_
  refine w_getf (q := 29) (v := (m.1 2 1)) hm143 ⟨⟨_, _, rfl⟩, rfl⟩ rfl rfl ?_
  refine w_icmp_ge (q := 32) (X := x5.toInt) (Y := (m.1 2 1).toInt) hm143 ⟨⟨_, _, rfl⟩, rfl⟩ rfl rfl (fun hc => ?_) (fun hc => ?_)
  · have h := h.1 hc
    exact Wp.wk [false, false, false, false, true, false, false] h
  · have h := h.2 hc
    refine w_iload_n (q := 33) hm143 ⟨⟨_, _, rfl⟩, rfl⟩ rfl ?_
    refine w_sipush (q := 36) hm143 ⟨⟨_, _, rfl⟩, rfl⟩ sipush_200 ?_
    refine w_icmp_gt (q := 39) (X := x3.toInt) (Y := 200) hm143 ⟨⟨_, _, rfl⟩, rfl⟩ rfl (by decide) (fun hc => ?_) (fun hc => ?_)
    · have h := h.1 hc
      exact Wp.wk [false, false, false, false, true, false, false] h
    · have h := h.2 hc
      refine w_aload_n (q := 40) hm143 ⟨⟨_, _, rfl⟩, rfl⟩ rfl ?_
      refine w_getf (q := 43) (v := (m.1 47 3)) hm143 ⟨⟨_, _, rfl⟩, rfl⟩ rfl rfl ?_
      refine w_iload (q := 45) hm143 ⟨⟨_, _, rfl⟩, rfl⟩ rfl ?_
      refine w_call (q := 48) (n := 0) (vs := [.inl (m.1 47 3), .inl x5]) (rest := []) (la := [oI (m.1 47 3), oI x5]) hm143 ⟨⟨_, _, rfl⟩, rfl⟩ rfl rfl rfl rfl hm283 rfl rfl (fun hz => absurd hz (by decide)) rfl (Wp.mono h ?_)
      rintro _ m1 ⟨r1, rfl, h⟩
      change Wp _ _ 48 _ [.inl r1] _ _
      refine w_if_ne (q := 51) (X := r1.toInt) hm143 ⟨⟨_, _, rfl⟩, rfl⟩ rfl (fun hc => ?_) (fun hc => ?_)
      · have h := h.1 hc
        exact h
      · have h := h.2 hc
        refine w_aload_n (q := 52) hm143 ⟨⟨_, _, rfl⟩, rfl⟩ rfl ?_
        refine w_getr (q := 55) hm143 ⟨⟨_, _, rfl⟩, rfl⟩ rfl ?_
        refine w_aload_n (q := 56) hm143 ⟨⟨_, _, rfl⟩, rfl⟩ rfl ?_
        refine w_call (q := 59) (n := 0) (vs := [.inr (.inr (some 62)), .inr (.inr (some 47))]) (rest := []) (la := [oR 62, oR 47]) hm143 ⟨⟨_, _, rfl⟩, rfl⟩ rfl rfl rfl rfl hm209 rfl rfl (fun _ => ⟨_, _, rfl, rfl⟩) rfl (Wp.mono h ?_)
        rintro _ m2 ⟨rfl, h⟩
        change Wp _ _ 59 _ [] _ _
        refine w_aload_n (q := 60) hm143 ⟨⟨_, _, rfl⟩, rfl⟩ rfl ?_
        refine w_getr (q := 63) hm143 ⟨⟨_, _, rfl⟩, rfl⟩ rfl ?_
        refine w_getr (q := 66) hm143 ⟨⟨_, _, rfl⟩, rfl⟩ rfl ?_
        refine w_iload (q := 68) hm143 ⟨⟨_, _, rfl⟩, rfl⟩ rfl ?_
        refine w_bipush (q := 70) hm143 ⟨⟨_, _, rfl⟩, rfl⟩ bipush_99 ?_
        refine w_aload_n (q := 71) hm143 ⟨⟨_, _, rfl⟩, rfl⟩ rfl ?_
        refine w_getr (q := 74) hm143 ⟨⟨_, _, rfl⟩, rfl⟩ rfl ?_
        refine w_getr (q := 77) hm143 ⟨⟨_, _, rfl⟩, rfl⟩ rfl ?_
        refine w_iload (q := 79) hm143 ⟨⟨_, _, rfl⟩, rfl⟩ rfl ?_
        obtain ⟨hi, h⟩ := h
        refine w_iald (q := 80) (v := (m2.1 63 x5.toNatClampNeg)) hm143 ⟨⟨_, _, rfl⟩, rfl⟩ rfl hi rfl rfl ?_
        refine w_iload_n (q := 81) hm143 ⟨⟨_, _, rfl⟩, rfl⟩ rfl ?_
        refine w_iadd (q := 82) hm143 ⟨⟨_, _, rfl⟩, rfl⟩ ?_
        refine w_min (q := 85) hm143 ⟨⟨_, _, rfl⟩, rfl⟩ rfl rfl ?_
        obtain ⟨hi, h⟩ := h
        refine w_iast (q := 86) hm143 ⟨⟨_, _, rfl⟩, rfl⟩ rfl hi rfl rfl ?_
        refine w_aload_n (q := 87) hm143 ⟨⟨_, _, rfl⟩, rfl⟩ rfl ?_
        refine w_call (q := 90) (n := 1) (vs := [.inr (.inr (some 61))]) (rest := []) (la := [oR 61, none]) hm143 ⟨⟨_, _, rfl⟩, rfl⟩ rfl rfl rfl rfl hm142 rfl rfl (fun _ => ⟨_, _, rfl, rfl⟩) rfl (Wp.mono h ?_)
        rintro _ m3 ⟨r3, rfl, h⟩
        change Wp _ _ 90 _ [.inl r3] _ _
        refine w_istore (q := 92) (l' := [oR 61, oR 47, oI x2, oI x3, oI x4, oI x5, oI r3]) hm143 ⟨⟨_, _, rfl⟩, rfl⟩ rfl rfl rfl ?_
        refine w_iload (q := 94) hm143 ⟨⟨_, _, rfl⟩, rfl⟩ rfl ?_
        refine w_iload_n (q := 95) hm143 ⟨⟨_, _, rfl⟩, rfl⟩ rfl ?_
        refine w_icmp_le (q := 98) (X := r3.toInt) (Y := x3.toInt) hm143 ⟨⟨_, _, rfl⟩, rfl⟩ rfl rfl (fun hc => ?_) (fun hc => ?_)
        · have h := h.1 hc
          exact Wp.wk [true, true, true, true, true, true, false] h
        · have h := h.2 hc
          refine w_iload (q := 100) hm143 ⟨⟨_, _, rfl⟩, rfl⟩ rfl ?_
          refine w_istore_n (q := 101) (l' := [oR 61, oR 47, oI x2, oI r3, oI x4, oI x5, oI r3]) hm143 ⟨⟨_, _, rfl⟩, rfl⟩ rfl rfl rfl ?_
          refine w_iload (q := 103) hm143 ⟨⟨_, _, rfl⟩, rfl⟩ rfl ?_
          refine w_istore (q := 105) (l' := [oR 61, oR 47, oI x2, oI r3, oI x5, oI x5, oI r3]) hm143 ⟨⟨_, _, rfl⟩, rfl⟩ rfl rfl rfl ?_
          exact Wp.wk [true, true, true, true, true, true, false] h
theorem v_X1_bestThicker_61_47_105 {d : Nat} {x2 : Int32} {x3 : Int32} {x4 : Int32} {x5 : Int32} {m : dM} {Q : Int32 → dM → Prop} (h : j_X1_bestThicker_61_47_20 (d + 1) x2 x3 x4 (x5 + (1 : Int32)) m Q) : j_X1_bestThicker_61_47_105 (d + 1) x2 x3 x4 x5 m Q := by
  refine w_iinc (q := 108) (l' := [oR 61, oR 47, oI x2, oI x3, oI x4, oI (x5 + (1 : Int32)), none]) hm143 ⟨⟨_, _, rfl⟩, rfl⟩ rfl rfl rfl iconst_1 rfl ?_
  refine w_goto (q := 20) hm143 ⟨_, _, rfl⟩ ?_
  exact h
theorem v_X1_bestThicker_61_47_111 {d : Nat} {x4 : Int32} {m : dM} {Q : Int32 → dM → Prop} (h : Q x4 m) : j_X1_bestThicker_61_47_111 (d + 1) x4 m Q := by
  refine w_iload (q := 113) hm143 ⟨⟨_, _, rfl⟩, rfl⟩ rfl ?_
  exact w_reti hm143 ⟨⟨_, _, rfl⟩, rfl⟩ rfl h
theorem v_X11_thick_0 {d : Nat} {x1 : Int32} {m : dM} {Q : Int32 → dM → Prop} (h : ((x1.toInt < 1 → j_X11_thick_0_11 (d + 1) m Q) ∧ (1 ≤ x1.toInt → ((x1.toInt ≤ 20 → c_X1_bestThicker_61_47 d x1 m (fun r1 m1 => Q r1 m1)) ∧ (20 < x1.toInt → j_X11_thick_0_11 (d + 1) m Q))))) : c_X11_thick_0 (d + 1) x1 m Q := by
  refine w_iload_n (q := 1) hm265 ⟨⟨_, _, rfl⟩, rfl⟩ rfl ?_
  refine w_iconst (q := 2) hm265 ⟨⟨_, _, rfl⟩, rfl⟩ iconst_1 ?_
  refine w_icmp_lt (q := 5) (X := x1.toInt) (Y := 1) hm265 ⟨⟨_, _, rfl⟩, rfl⟩ rfl (by decide) (fun hc => ?_) (fun hc => ?_)
  · have h := h.1 hc
    exact Wp.wk [false, false] h
  · have h := h.2 hc
    refine w_iload_n (q := 6) hm265 ⟨⟨_, _, rfl⟩, rfl⟩ rfl ?_
    refine w_bipush (q := 8) hm265 ⟨⟨_, _, rfl⟩, rfl⟩ bipush_20 ?_
    refine w_icmp_le (q := 11) (X := x1.toInt) (Y := 20) hm265 ⟨⟨_, _, rfl⟩, rfl⟩ rfl (by decide) (fun hc => ?_) (fun hc => ?_)
    · have h := h.1 hc
      refine w_aload_n (q := 16) hm265 ⟨⟨_, _, rfl⟩, rfl⟩ rfl ?_
      refine w_getr (q := 19) hm265 ⟨⟨_, _, rfl⟩, rfl⟩ rfl ?_
      refine w_aload_n (q := 20) hm265 ⟨⟨_, _, rfl⟩, rfl⟩ rfl ?_
      refine w_getr (q := 23) hm265 ⟨⟨_, _, rfl⟩, rfl⟩ rfl ?_
      refine w_iload_n (q := 24) hm265 ⟨⟨_, _, rfl⟩, rfl⟩ rfl ?_
      refine w_call (q := 27) (n := 4) (vs := [.inr (.inr (some 61)), .inr (.inr (some 47)), .inl x1]) (rest := []) (la := [oR 61, oR 47, oI x1, none, none, none, none]) hm265 ⟨⟨_, _, rfl⟩, rfl⟩ rfl rfl rfl rfl hm143 rfl rfl (fun _ => ⟨_, _, rfl, rfl⟩) rfl (Wp.mono h ?_)
      rintro _ m1 ⟨r1, rfl, h⟩
      change Wp _ _ 27 _ [.inl r1] _ _
      exact w_reti hm265 ⟨⟨_, _, rfl⟩, rfl⟩ rfl h
    · have h := h.2 hc
      exact Wp.wk [false, false] h
theorem v_X11_thick_0_11 {d : Nat} {m : dM} {Q : Int32 → dM → Prop} (h : Q (-1 : Int32) m) : j_X11_thick_0_11 (d + 1) m Q := by
  refine w_iconst (q := 12) hm265 ⟨⟨_, _, rfl⟩, rfl⟩ iconst_m1 ?_
  refine w_goto (q := 27) hm265 ⟨_, _, rfl⟩ ?_
  exact w_reti hm265 ⟨⟨_, _, rfl⟩, rfl⟩ rfl h
theorem v_X12_thick_70 {d : Nat} {x1 : Int32} {m : dM} {Q : Int32 → dM → Prop} (h : c_X12_in d x1 (1 : Int32) (20 : Int32) m (fun r1 m1 => ((r1.toInt ≠ 0 → c_X12_copiesStill_70 d m1 (fun m2 => c_X12_firstGoing_70 d m2 (fun r3 m3 => j_X12_thick_70_27 (d + 1) x1 r3 (-2 : Int32) (0 : Int32) m3 Q))) ∧ (r1.toInt = 0 → Q (-1 : Int32) m1)))) : c_X12_thick_70 (d + 1) x1 m Q := by
  refine w_iload_n (q := 1) hm91 ⟨⟨_, _, rfl⟩, rfl⟩ rfl ?_
  refine w_iconst (q := 2) hm91 ⟨⟨_, _, rfl⟩, rfl⟩ iconst_1 ?_
  refine w_bipush (q := 4) hm91 ⟨⟨_, _, rfl⟩, rfl⟩ bipush_20 ?_
  refine w_call (q := 7) (n := 0) (vs := [.inl x1, .inl (1 : Int32), .inl (20 : Int32)]) (rest := []) (la := [oI x1, oI (1 : Int32), oI (20 : Int32)]) hm91 ⟨⟨_, _, rfl⟩, rfl⟩ rfl rfl rfl rfl hm36 rfl rfl (fun hz => absurd hz (by decide)) rfl (Wp.mono h ?_)
  rintro _ m1 ⟨r1, rfl, h⟩
  change Wp _ _ 7 _ [.inl r1] _ _
  refine w_if_ne (q := 10) (X := r1.toInt) hm91 ⟨⟨_, _, rfl⟩, rfl⟩ rfl (fun hc => ?_) (fun hc => ?_)
  · have h := h.1 hc
    refine w_aload_n (q := 13) hm91 ⟨⟨_, _, rfl⟩, rfl⟩ rfl ?_
    refine w_call (q := 16) (n := 0) (vs := [.inr (.inr (some 70))]) (rest := []) (la := [oR 70]) hm91 ⟨⟨_, _, rfl⟩, rfl⟩ rfl rfl rfl rfl hm82 rfl rfl (fun _ => ⟨_, _, rfl, rfl⟩) rfl (Wp.mono h ?_)
    rintro _ m2 ⟨rfl, h⟩
    change Wp _ _ 16 _ [] _ _
    refine w_aload_n (q := 17) hm91 ⟨⟨_, _, rfl⟩, rfl⟩ rfl ?_
    refine w_call (q := 20) (n := 1) (vs := [.inr (.inr (some 70))]) (rest := []) (la := [oR 70, none]) hm91 ⟨⟨_, _, rfl⟩, rfl⟩ rfl rfl rfl rfl hm84 rfl rfl (fun _ => ⟨_, _, rfl, rfl⟩) rfl (Wp.mono h ?_)
    rintro _ m3 ⟨r3, rfl, h⟩
    change Wp _ _ 20 _ [.inl r3] _ _
    refine w_istore_n (q := 21) (l' := [oR 70, oI x1, oI r3, none, none, none]) hm91 ⟨⟨_, _, rfl⟩, rfl⟩ rfl rfl rfl ?_
    refine w_bipush (q := 23) hm91 ⟨⟨_, _, rfl⟩, rfl⟩ bipush_m2 ?_
    refine w_istore_n (q := 24) (l' := [oR 70, oI x1, oI r3, oI (-2 : Int32), none, none]) hm91 ⟨⟨_, _, rfl⟩, rfl⟩ rfl rfl rfl ?_
    refine w_iconst (q := 25) hm91 ⟨⟨_, _, rfl⟩, rfl⟩ iconst_0 ?_
    refine w_istore (q := 27) (l' := [oR 70, oI x1, oI r3, oI (-2 : Int32), oI (0 : Int32), none]) hm91 ⟨⟨_, _, rfl⟩, rfl⟩ rfl rfl rfl ?_
    exact h
  · have h := h.2 hc
    refine w_iconst (q := 11) hm91 ⟨⟨_, _, rfl⟩, rfl⟩ iconst_m1 ?_
    exact w_reti hm91 ⟨⟨_, _, rfl⟩, rfl⟩ rfl h
theorem v_X12_thick_70_27 {d : Nat} {x1 : Int32} {x2 : Int32} {x3 : Int32} {x4 : Int32} {m : dM} {Q : Int32 → dM → Prop} (h : ((0 ≤ (m.1 70 18).toInt ∧ (m.1 70 18).toInt < 2) ∧ (((m.1 82 (m.1 70 18).toNatClampNeg).toInt ≤ x4.toInt → Q x3 m) ∧ (x4.toInt < (m.1 82 (m.1 70 18).toNatClampNeg).toInt → ((0 ≤ ((10 : Int32) + x4).toInt ∧ ((10 : Int32) + x4).toInt < 58) ∧ (((m.1 107 ((10 : Int32) + x4).toNatClampNeg).toInt ≠ 1 → c_X12_copiesStill_70 d m (fun m1 => ((0 ≤ x4.toInt ∧ x4.toInt < 58) ∧ c_X12_within d ((m1.1 108 x4.toNatClampNeg) + x1) (1 : Int32) (99 : Int32) m1 (fun r2 m2 => ((0 ≤ x4.toInt ∧ x4.toInt < 58) ∧ c_X12_firstGoing_70 d (dSet m2 108 x4.toNatClampNeg r2) (fun r3 m3 => ((x2.toInt < r3.toInt → j_X12_thick_70_105 (d + 1) x1 r3 x4 x4 m3 Q) ∧ (r3.toInt ≤ x2.toInt → j_X12_thick_70_105 (d + 1) x1 x2 x3 x4 m3 Q)))))))) ∧ ((m.1 107 ((10 : Int32) + x4).toNatClampNeg).toInt = 1 → j_X12_thick_70_105 (d + 1) x1 x2 x3 x4 m Q))))))) : j_X12_thick_70_27 (d + 1) x1 x2 x3 x4 m Q := by
  refine w_iload (q := 29) hm91 ⟨⟨_, _, rfl⟩, rfl⟩ rfl ?_
  refine w_aload_n (q := 30) hm91 ⟨⟨_, _, rfl⟩, rfl⟩ rfl ?_
  refine w_getr (q := 33) hm91 ⟨⟨_, _, rfl⟩, rfl⟩ rfl ?_
  refine w_aload_n (q := 34) hm91 ⟨⟨_, _, rfl⟩, rfl⟩ rfl ?_
  refine w_getf (q := 37) (v := (m.1 70 18)) hm91 ⟨⟨_, _, rfl⟩, rfl⟩ rfl rfl ?_
  obtain ⟨hi, h⟩ := h
  refine w_iald (q := 38) (v := (m.1 82 (m.1 70 18).toNatClampNeg)) hm91 ⟨⟨_, _, rfl⟩, rfl⟩ rfl hi rfl rfl ?_
  refine w_icmp_ge (q := 41) (X := x4.toInt) (Y := (m.1 82 (m.1 70 18).toNatClampNeg).toInt) hm91 ⟨⟨_, _, rfl⟩, rfl⟩ rfl rfl (fun hc => ?_) (fun hc => ?_)
  · have h := h.1 hc
    refine w_iload_n (q := 112) hm91 ⟨⟨_, _, rfl⟩, rfl⟩ rfl ?_
    exact w_reti hm91 ⟨⟨_, _, rfl⟩, rfl⟩ rfl h
  · have h := h.2 hc
    refine w_aload_n (q := 42) hm91 ⟨⟨_, _, rfl⟩, rfl⟩ rfl ?_
    refine w_getr (q := 45) hm91 ⟨⟨_, _, rfl⟩, rfl⟩ rfl ?_
    refine w_bipush (q := 47) hm91 ⟨⟨_, _, rfl⟩, rfl⟩ bipush_10 ?_
    refine w_iload (q := 49) hm91 ⟨⟨_, _, rfl⟩, rfl⟩ rfl ?_
    refine w_iadd (q := 50) hm91 ⟨⟨_, _, rfl⟩, rfl⟩ ?_
    obtain ⟨hi, h⟩ := h
    refine w_iald (q := 51) (v := (m.1 107 ((10 : Int32) + x4).toNatClampNeg)) hm91 ⟨⟨_, _, rfl⟩, rfl⟩ rfl hi rfl rfl ?_
    refine w_iconst (q := 52) hm91 ⟨⟨_, _, rfl⟩, rfl⟩ iconst_1 ?_
    refine w_icmp_ne (q := 55) (X := (m.1 107 ((10 : Int32) + x4).toNatClampNeg).toInt) (Y := 1) hm91 ⟨⟨_, _, rfl⟩, rfl⟩ rfl (by decide) (fun hc => ?_) (fun hc => ?_)
    · have h := h.1 hc
      refine w_aload_n (q := 59) hm91 ⟨⟨_, _, rfl⟩, rfl⟩ rfl ?_
      refine w_call (q := 62) (n := 0) (vs := [.inr (.inr (some 70))]) (rest := []) (la := [oR 70]) hm91 ⟨⟨_, _, rfl⟩, rfl⟩ rfl rfl rfl rfl hm82 rfl rfl (fun _ => ⟨_, _, rfl, rfl⟩) rfl (Wp.mono h ?_)
      rintro _ m1 ⟨rfl, h⟩
      change Wp _ _ 62 _ [] _ _
      refine w_aload_n (q := 63) hm91 ⟨⟨_, _, rfl⟩, rfl⟩ rfl ?_
      refine w_getr (q := 66) hm91 ⟨⟨_, _, rfl⟩, rfl⟩ rfl ?_
      refine w_iload (q := 68) hm91 ⟨⟨_, _, rfl⟩, rfl⟩ rfl ?_
      refine w_aload_n (q := 69) hm91 ⟨⟨_, _, rfl⟩, rfl⟩ rfl ?_
      refine w_getr (q := 72) hm91 ⟨⟨_, _, rfl⟩, rfl⟩ rfl ?_
      refine w_iload (q := 74) hm91 ⟨⟨_, _, rfl⟩, rfl⟩ rfl ?_
      obtain ⟨hi, h⟩ := h
      refine w_iald (q := 75) (v := (m1.1 108 x4.toNatClampNeg)) hm91 ⟨⟨_, _, rfl⟩, rfl⟩ rfl hi rfl rfl ?_
      refine w_iload_n (q := 76) hm91 ⟨⟨_, _, rfl⟩, rfl⟩ rfl ?_
      refine w_iadd (q := 77) hm91 ⟨⟨_, _, rfl⟩, rfl⟩ ?_
      refine w_iconst (q := 78) hm91 ⟨⟨_, _, rfl⟩, rfl⟩ iconst_1 ?_
      refine w_bipush (q := 80) hm91 ⟨⟨_, _, rfl⟩, rfl⟩ bipush_99 ?_
      refine w_call (q := 83) (n := 0) (vs := [.inl ((m1.1 108 x4.toNatClampNeg) + x1), .inl (1 : Int32), .inl (99 : Int32)]) (rest := [.inl x4, .inr (.inr (some 108))]) (la := [oI ((m1.1 108 x4.toNatClampNeg) + x1), oI (1 : Int32), oI (99 : Int32)]) hm91 ⟨⟨_, _, rfl⟩, rfl⟩ rfl rfl rfl rfl hm37 rfl rfl (fun hz => absurd hz (by decide)) rfl (Wp.mono h ?_)
      rintro _ m2 ⟨r2, rfl, h⟩
      change Wp _ _ 83 _ [.inl r2, .inl x4, .inr (.inr (some 108))] _ _
      obtain ⟨hi, h⟩ := h
      refine w_iast (q := 84) hm91 ⟨⟨_, _, rfl⟩, rfl⟩ rfl hi rfl rfl ?_
      refine w_aload_n (q := 85) hm91 ⟨⟨_, _, rfl⟩, rfl⟩ rfl ?_
      refine w_call (q := 88) (n := 1) (vs := [.inr (.inr (some 70))]) (rest := []) (la := [oR 70, none]) hm91 ⟨⟨_, _, rfl⟩, rfl⟩ rfl rfl rfl rfl hm84 rfl rfl (fun _ => ⟨_, _, rfl, rfl⟩) rfl (Wp.mono h ?_)
      rintro _ m3 ⟨r3, rfl, h⟩
      change Wp _ _ 88 _ [.inl r3] _ _
      refine w_istore (q := 90) (l' := [oR 70, oI x1, oI x2, oI x3, oI x4, oI r3]) hm91 ⟨⟨_, _, rfl⟩, rfl⟩ rfl rfl rfl ?_
      refine w_iload (q := 92) hm91 ⟨⟨_, _, rfl⟩, rfl⟩ rfl ?_
      refine w_iload_n (q := 93) hm91 ⟨⟨_, _, rfl⟩, rfl⟩ rfl ?_
      refine w_icmp_gt (q := 96) (X := r3.toInt) (Y := x2.toInt) hm91 ⟨⟨_, _, rfl⟩, rfl⟩ rfl rfl (fun hc => ?_) (fun hc => ?_)
      · have h := h.1 hc
        refine w_iload (q := 101) hm91 ⟨⟨_, _, rfl⟩, rfl⟩ rfl ?_
        refine w_istore_n (q := 102) (l' := [oR 70, oI x1, oI x2, oI x4, oI x4, oI r3]) hm91 ⟨⟨_, _, rfl⟩, rfl⟩ rfl rfl rfl ?_
        refine w_iload (q := 104) hm91 ⟨⟨_, _, rfl⟩, rfl⟩ rfl ?_
        refine w_istore_n (q := 105) (l' := [oR 70, oI x1, oI r3, oI x4, oI x4, oI r3]) hm91 ⟨⟨_, _, rfl⟩, rfl⟩ rfl rfl rfl ?_
        exact Wp.wk [true, true, true, true, true, false] h
      · have h := h.2 hc
        refine w_goto (q := 105) hm91 ⟨_, _, rfl⟩ ?_
        exact Wp.wk [true, true, true, true, true, false] h
    · have h := h.2 hc
      refine w_goto (q := 105) hm91 ⟨_, _, rfl⟩ ?_
      exact h
theorem v_X12_thick_70_105 {d : Nat} {x1 : Int32} {x2 : Int32} {x3 : Int32} {x4 : Int32} {m : dM} {Q : Int32 → dM → Prop} (h : j_X12_thick_70_27 (d + 1) x1 x2 x3 (x4 + (1 : Int32)) m Q) : j_X12_thick_70_105 (d + 1) x1 x2 x3 x4 m Q := by
  refine w_iinc (q := 108) (l' := [oR 70, oI x1, oI x2, oI x3, oI (x4 + (1 : Int32)), none]) hm91 ⟨⟨_, _, rfl⟩, rfl⟩ rfl rfl rfl iconst_1 rfl ?_
  refine w_goto (q := 27) hm91 ⟨_, _, rfl⟩ ?_
  exact h
theorem v_X3_endsOf_2 {d : Nat} {x1 : Int32} {m : dM} {Q : Int32 → dM → Prop} (h : ((0 ≤ x1.toInt ∧ x1.toInt < 10) ∧ ((0 ≤ x1.toInt ∧ x1.toInt < 10) ∧ Q (((1 : Int32) <<< ((m.1 4 x1.toNatClampNeg) &&& 31)) ||| ((1 : Int32) <<< ((m.1 5 x1.toNatClampNeg) &&& 31))) m))) : c_X3_endsOf_2 (d + 1) x1 m Q := by
  refine w_iconst (q := 1) hm172 ⟨⟨_, _, rfl⟩, rfl⟩ iconst_1 ?_
  refine w_aload_n (q := 2) hm172 ⟨⟨_, _, rfl⟩, rfl⟩ rfl ?_
  refine w_getr (q := 5) hm172 ⟨⟨_, _, rfl⟩, rfl⟩ rfl ?_
  refine w_iload_n (q := 6) hm172 ⟨⟨_, _, rfl⟩, rfl⟩ rfl ?_
  obtain ⟨hi, h⟩ := h
  refine w_iald (q := 7) (v := (m.1 4 x1.toNatClampNeg)) hm172 ⟨⟨_, _, rfl⟩, rfl⟩ rfl hi rfl rfl ?_
  refine w_ishl (q := 8) hm172 ⟨⟨_, _, rfl⟩, rfl⟩ ?_
  refine w_iconst (q := 9) hm172 ⟨⟨_, _, rfl⟩, rfl⟩ iconst_1 ?_
  refine w_aload_n (q := 10) hm172 ⟨⟨_, _, rfl⟩, rfl⟩ rfl ?_
  refine w_getr (q := 13) hm172 ⟨⟨_, _, rfl⟩, rfl⟩ rfl ?_
  refine w_iload_n (q := 14) hm172 ⟨⟨_, _, rfl⟩, rfl⟩ rfl ?_
  obtain ⟨hi, h⟩ := h
  refine w_iald (q := 15) (v := (m.1 5 x1.toNatClampNeg)) hm172 ⟨⟨_, _, rfl⟩, rfl⟩ rfl hi rfl rfl ?_
  refine w_ishl (q := 16) hm172 ⟨⟨_, _, rfl⟩, rfl⟩ ?_
  refine w_ior (q := 17) hm172 ⟨⟨_, _, rfl⟩, rfl⟩ ?_
  exact w_reti hm172 ⟨⟨_, _, rfl⟩, rfl⟩ rfl h
theorem v_X3_litWithout_2 {d : Nat} {x1 : Int32} {m : dM} {Q : Int32 → dM → Prop} (h : (((m.1 2 0).toInt ≤ 0 → j_X3_litWithout_2_15 (d + 1) x1 (0 : Int32) (1 : Int32) m Q) ∧ (0 < (m.1 2 0).toInt → j_X3_litWithout_2_15 (d + 1) x1 (1 : Int32) (1 : Int32) m Q))) : c_X3_litWithout_2 (d + 1) x1 m Q := by
  refine w_aload_n (q := 1) hm174 ⟨⟨_, _, rfl⟩, rfl⟩ rfl ?_
  refine w_getf (q := 4) (v := (m.1 2 0)) hm174 ⟨⟨_, _, rfl⟩, rfl⟩ rfl rfl ?_
  refine w_if_le (q := 7) (X := (m.1 2 0).toInt) hm174 ⟨⟨_, _, rfl⟩, rfl⟩ rfl (fun hc => ?_) (fun hc => ?_)
  · have h := h.1 hc
    refine w_iconst (q := 12) hm174 ⟨⟨_, _, rfl⟩, rfl⟩ iconst_0 ?_
    refine w_istore_n (q := 13) (l' := [oR 2, oI x1, oI (0 : Int32), none, none, none, none]) hm174 ⟨⟨_, _, rfl⟩, rfl⟩ rfl rfl rfl ?_
    refine w_iconst (q := 14) hm174 ⟨⟨_, _, rfl⟩, rfl⟩ iconst_1 ?_
    refine w_istore_n (q := 15) (l' := [oR 2, oI x1, oI (0 : Int32), oI (1 : Int32), none, none, none]) hm174 ⟨⟨_, _, rfl⟩, rfl⟩ rfl rfl rfl ?_
    exact h
  · have h := h.2 hc
    refine w_iconst (q := 8) hm174 ⟨⟨_, _, rfl⟩, rfl⟩ iconst_1 ?_
    refine w_goto (q := 12) hm174 ⟨_, _, rfl⟩ ?_
    refine w_istore_n (q := 13) (l' := [oR 2, oI x1, oI (1 : Int32), none, none, none, none]) hm174 ⟨⟨_, _, rfl⟩, rfl⟩ rfl rfl rfl ?_
    refine w_iconst (q := 14) hm174 ⟨⟨_, _, rfl⟩, rfl⟩ iconst_1 ?_
    refine w_istore_n (q := 15) (l' := [oR 2, oI x1, oI (1 : Int32), oI (1 : Int32), none, none, none]) hm174 ⟨⟨_, _, rfl⟩, rfl⟩ rfl rfl rfl ?_
    exact h
theorem v_X3_litWithout_2_15 {d : Nat} {x1 : Int32} {x2 : Int32} {x3 : Int32} {m : dM} {Q : Int32 → dM → Prop} (h : (((m.1 2 0).toInt ≤ x3.toInt → j_X3_litWithout_2_88 (d + 1) x2 m Q) ∧ (x3.toInt < (m.1 2 0).toInt → j_X3_litWithout_2_29 (d + 1) x1 x2 x3 x2 (0 : Int32) m Q))) : j_X3_litWithout_2_15 (d + 1) x1 x2 x3 m Q := by
  refine w_iload_n (q := 16) hm174 ⟨⟨_, _, rfl⟩, rfl⟩ rfl ?_
  refine w_aload_n (q := 17) hm174 ⟨⟨_, _, rfl⟩, rfl⟩ rfl ?_
  refine w_getf (q := 20) (v := (m.1 2 0)) hm174 ⟨⟨_, _, rfl⟩, rfl⟩ rfl rfl ?_
  refine w_icmp_ge (q := 23) (X := x3.toInt) (Y := (m.1 2 0).toInt) hm174 ⟨⟨_, _, rfl⟩, rfl⟩ rfl rfl (fun hc => ?_) (fun hc => ?_)
  · have h := h.1 hc
    exact Wp.wk [false, false, true, false, false, false, false] h
  · have h := h.2 hc
    refine w_iload_n (q := 24) hm174 ⟨⟨_, _, rfl⟩, rfl⟩ rfl ?_
    refine w_istore (q := 26) (l' := [oR 2, oI x1, oI x2, oI x3, oI x2, none, none]) hm174 ⟨⟨_, _, rfl⟩, rfl⟩ rfl rfl rfl ?_
    refine w_iconst (q := 27) hm174 ⟨⟨_, _, rfl⟩, rfl⟩ iconst_0 ?_
    refine w_istore (q := 29) (l' := [oR 2, oI x1, oI x2, oI x3, oI x2, oI (0 : Int32), none]) hm174 ⟨⟨_, _, rfl⟩, rfl⟩ rfl rfl rfl ?_
    exact h
theorem v_X3_litWithout_2_29 {d : Nat} {x1 : Int32} {x2 : Int32} {x3 : Int32} {x4 : Int32} {x5 : Int32} {m : dM} {Q : Int32 → dM → Prop} (h : (((m.1 2 1).toInt ≤ x5.toInt → ((x2.toInt ≠ x4.toInt → j_X3_litWithout_2_15 (d + 1) x1 x2 (x3 + (1 : Int32)) m Q) ∧ (x2.toInt = x4.toInt → j_X3_litWithout_2_88 (d + 1) x2 m Q))) ∧ (x5.toInt < (m.1 2 1).toInt → c_X3_endsOf_2 d x5 m (fun r1 m1 => c_X11_has d x1 x5 m1 (fun r2 m2 => ((r2.toInt ≠ 0 → j_X3_litWithout_2_67 (d + 1) x1 x2 x3 x4 x5 m2 Q) ∧ (r2.toInt = 0 → (((r1 &&& x2).toInt = 0 → j_X3_litWithout_2_67 (d + 1) x1 x2 x3 x4 x5 m2 Q) ∧ ((r1 &&& x2).toInt ≠ 0 → j_X3_litWithout_2_67 (d + 1) x1 (x2 ||| r1) x3 x4 x5 m2 Q))))))))) : j_X3_litWithout_2_29 (d + 1) x1 x2 x3 x4 x5 m Q := by
  refine w_iload (q := 31) hm174 ⟨⟨_, _, rfl⟩, rfl⟩ rfl ?_
  refine w_aload_n (q := 32) hm174 ⟨⟨_, _, rfl⟩, rfl⟩ rfl ?_
  refine w_getf (q := 35) (v := (m.1 2 1)) hm174 ⟨⟨_, _, rfl⟩, rfl⟩ rfl rfl ?_
  refine w_icmp_ge (q := 38) (X := x5.toInt) (Y := (m.1 2 1).toInt) hm174 ⟨⟨_, _, rfl⟩, rfl⟩ rfl rfl (fun hc => ?_) (fun hc => ?_)
  · have h := h.1 hc
    refine w_iload_n (q := 74) hm174 ⟨⟨_, _, rfl⟩, rfl⟩ rfl ?_
    refine w_iload (q := 76) hm174 ⟨⟨_, _, rfl⟩, rfl⟩ rfl ?_
    refine w_icmp_ne (q := 79) (X := x2.toInt) (Y := x4.toInt) hm174 ⟨⟨_, _, rfl⟩, rfl⟩ rfl rfl (fun hc => ?_) (fun hc => ?_)
    · have h := h.1 hc
      refine w_iinc (q := 85) (l' := [oR 2, oI x1, oI x2, oI (x3 + (1 : Int32)), oI x4, oI x5, none]) hm174 ⟨⟨_, _, rfl⟩, rfl⟩ rfl rfl rfl iconst_1 rfl ?_
      refine w_goto (q := 15) hm174 ⟨_, _, rfl⟩ ?_
      exact Wp.wk [true, true, true, true, false, false, false] h
    · have h := h.2 hc
      refine w_goto (q := 88) hm174 ⟨_, _, rfl⟩ ?_
      exact Wp.wk [false, false, true, false, false, false, false] h
  · have h := h.2 hc
    refine w_aload_n (q := 39) hm174 ⟨⟨_, _, rfl⟩, rfl⟩ rfl ?_
    refine w_iload (q := 41) hm174 ⟨⟨_, _, rfl⟩, rfl⟩ rfl ?_
    refine w_call (q := 44) (n := 0) (vs := [.inr (.inr (some 2)), .inl x5]) (rest := []) (la := [oR 2, oI x5]) hm174 ⟨⟨_, _, rfl⟩, rfl⟩ rfl rfl rfl rfl hm172 rfl rfl (fun _ => ⟨_, _, rfl, rfl⟩) rfl (Wp.mono h ?_)
    rintro _ m1 ⟨r1, rfl, h⟩
    change Wp _ _ 44 _ [.inl r1] _ _
    refine w_istore (q := 46) (l' := [oR 2, oI x1, oI x2, oI x3, oI x4, oI x5, oI r1]) hm174 ⟨⟨_, _, rfl⟩, rfl⟩ rfl rfl rfl ?_
    refine w_iload_n (q := 47) hm174 ⟨⟨_, _, rfl⟩, rfl⟩ rfl ?_
    refine w_iload (q := 49) hm174 ⟨⟨_, _, rfl⟩, rfl⟩ rfl ?_
    refine w_call (q := 52) (n := 0) (vs := [.inl x1, .inl x5]) (rest := []) (la := [oI x1, oI x5]) hm174 ⟨⟨_, _, rfl⟩, rfl⟩ rfl rfl rfl rfl hm283 rfl rfl (fun hz => absurd hz (by decide)) rfl (Wp.mono h ?_)
    rintro _ m2 ⟨r2, rfl, h⟩
    change Wp _ _ 52 _ [.inl r2] _ _
    refine w_if_ne (q := 55) (X := r2.toInt) hm174 ⟨⟨_, _, rfl⟩, rfl⟩ rfl (fun hc => ?_) (fun hc => ?_)
    · have h := h.1 hc
      exact Wp.wk [true, true, true, true, true, true, false] h
    · have h := h.2 hc
      refine w_iload (q := 57) hm174 ⟨⟨_, _, rfl⟩, rfl⟩ rfl ?_
      refine w_iload_n (q := 58) hm174 ⟨⟨_, _, rfl⟩, rfl⟩ rfl ?_
      refine w_iand (q := 59) hm174 ⟨⟨_, _, rfl⟩, rfl⟩ ?_
      refine w_if_eq (q := 62) (X := (r1 &&& x2).toInt) hm174 ⟨⟨_, _, rfl⟩, rfl⟩ rfl (fun hc => ?_) (fun hc => ?_)
      · have h := h.1 hc
        exact Wp.wk [true, true, true, true, true, true, false] h
      · have h := h.2 hc
        refine w_iload_n (q := 63) hm174 ⟨⟨_, _, rfl⟩, rfl⟩ rfl ?_
        refine w_iload (q := 65) hm174 ⟨⟨_, _, rfl⟩, rfl⟩ rfl ?_
        refine w_ior (q := 66) hm174 ⟨⟨_, _, rfl⟩, rfl⟩ ?_
        refine w_istore_n (q := 67) (l' := [oR 2, oI x1, oI (x2 ||| r1), oI x3, oI x4, oI x5, oI r1]) hm174 ⟨⟨_, _, rfl⟩, rfl⟩ rfl rfl rfl ?_
        exact Wp.wk [true, true, true, true, true, true, false] h
theorem v_X3_litWithout_2_67 {d : Nat} {x1 : Int32} {x2 : Int32} {x3 : Int32} {x4 : Int32} {x5 : Int32} {m : dM} {Q : Int32 → dM → Prop} (h : j_X3_litWithout_2_29 (d + 1) x1 x2 x3 x4 (x5 + (1 : Int32)) m Q) : j_X3_litWithout_2_67 (d + 1) x1 x2 x3 x4 x5 m Q := by
  refine w_iinc (q := 70) (l' := [oR 2, oI x1, oI x2, oI x3, oI x4, oI (x5 + (1 : Int32)), none]) hm174 ⟨⟨_, _, rfl⟩, rfl⟩ rfl rfl rfl iconst_1 rfl ?_
  refine w_goto (q := 29) hm174 ⟨_, _, rfl⟩ ?_
  exact h
theorem v_X3_litWithout_2_88 {d : Nat} {x2 : Int32} {m : dM} {Q : Int32 → dM → Prop} (h : Q x2 m) : j_X3_litWithout_2_88 (d + 1) x2 m Q := by
  refine w_iload_n (q := 89) hm174 ⟨⟨_, _, rfl⟩, rfl⟩ rfl ?_
  exact w_reti hm174 ⟨⟨_, _, rfl⟩, rfl⟩ rfl h
theorem v_X1_cutBy_2 {d : Nat} {x1 : Int32} {x2 : Int32} {x3 : Int32} {x4 : Int32} {m : dM} {Q : Int32 → dM → Prop} (h : ((0 < x4.toInt → j_X1_cutBy_2_26 (d + 1) x1 x2 x4 x3 m Q) ∧ (x4.toInt ≤ 0 → c_X3_litWithout_2 d x2 m (fun r1 m1 => c_X11_has d r1 x1 m1 (fun r2 m2 => ((r2.toInt = 0 → Q (0 : Int32) m2) ∧ (r2.toInt ≠ 0 → Q (-1 : Int32) m2))))))) : c_X1_cutBy_2 (d + 1) x1 x2 x3 x4 m Q := by
  refine w_iload (q := 2) hm148 ⟨⟨_, _, rfl⟩, rfl⟩ rfl ?_
  refine w_if_gt (q := 5) (X := x4.toInt) hm148 ⟨⟨_, _, rfl⟩, rfl⟩ rfl (fun hc => ?_) (fun hc => ?_)
  · have h := h.1 hc
    refine w_iload_n (q := 24) hm148 ⟨⟨_, _, rfl⟩, rfl⟩ rfl ?_
    refine w_istore (q := 26) (l' := [oR 2, oI x1, oI x2, oI x3, oI x4, oI x3, none]) hm148 ⟨⟨_, _, rfl⟩, rfl⟩ rfl rfl rfl ?_
    exact Wp.wk [true, true, true, false, true, true, false] h
  · have h := h.2 hc
    refine w_aload_n (q := 6) hm148 ⟨⟨_, _, rfl⟩, rfl⟩ rfl ?_
    refine w_iload_n (q := 7) hm148 ⟨⟨_, _, rfl⟩, rfl⟩ rfl ?_
    refine w_call (q := 10) (n := 5) (vs := [.inr (.inr (some 2)), .inl x2]) (rest := []) (la := [oR 2, oI x2, none, none, none, none, none]) hm148 ⟨⟨_, _, rfl⟩, rfl⟩ rfl rfl rfl rfl hm174 rfl rfl (fun _ => ⟨_, _, rfl, rfl⟩) rfl (Wp.mono h ?_)
    rintro _ m1 ⟨r1, rfl, h⟩
    change Wp _ _ 10 _ [.inl r1] _ _
    refine w_iload_n (q := 11) hm148 ⟨⟨_, _, rfl⟩, rfl⟩ rfl ?_
    refine w_call (q := 14) (n := 0) (vs := [.inl r1, .inl x1]) (rest := []) (la := [oI r1, oI x1]) hm148 ⟨⟨_, _, rfl⟩, rfl⟩ rfl rfl rfl rfl hm283 rfl rfl (fun hz => absurd hz (by decide)) rfl (Wp.mono h ?_)
    rintro _ m2 ⟨r2, rfl, h⟩
    change Wp _ _ 14 _ [.inl r2] _ _
    refine w_if_eq (q := 17) (X := r2.toInt) hm148 ⟨⟨_, _, rfl⟩, rfl⟩ rfl (fun hc => ?_) (fun hc => ?_)
    · have h := h.1 hc
      refine w_iconst (q := 22) hm148 ⟨⟨_, _, rfl⟩, rfl⟩ iconst_0 ?_
      exact w_reti hm148 ⟨⟨_, _, rfl⟩, rfl⟩ rfl h
    · have h := h.2 hc
      refine w_iconst (q := 18) hm148 ⟨⟨_, _, rfl⟩, rfl⟩ iconst_m1 ?_
      refine w_goto (q := 22) hm148 ⟨_, _, rfl⟩ ?_
      exact w_reti hm148 ⟨⟨_, _, rfl⟩, rfl⟩ rfl h
theorem v_X1_cutBy_2_26 {d : Nat} {x1 : Int32} {x2 : Int32} {x4 : Int32} {x5 : Int32} {m : dM} {Q : Int32 → dM → Prop} (h : (((m.1 2 1).toInt ≤ x5.toInt → Q (-1 : Int32) m) ∧ (x5.toInt < (m.1 2 1).toInt → c_X11_has d x2 x5 m (fun r1 m1 => ((r1.toInt ≠ 0 → j_X1_cutBy_2_79 (d + 1) x1 x2 x4 x5 m1 Q) ∧ (r1.toInt = 0 → c_X1_cutBy_2 d x1 (x2 ||| ((1 : Int32) <<< (x5 &&& 31))) (x5 + (1 : Int32)) (x4 - (1 : Int32)) m1 (fun r2 m2 => ((r2.toInt = (-1) → j_X1_cutBy_2_79 (d + 1) x1 x2 x4 x5 m2 Q) ∧ (r2.toInt ≠ (-1) → Q (r2 ||| ((1 : Int32) <<< (x5 &&& 31))) m2))))))))) : j_X1_cutBy_2_26 (d + 1) x1 x2 x4 x5 m Q := by
  refine w_iload (q := 28) hm148 ⟨⟨_, _, rfl⟩, rfl⟩ rfl ?_
  refine w_aload_n (q := 29) hm148 ⟨⟨_, _, rfl⟩, rfl⟩ rfl ?_
  refine w_getf (q := 32) (v := (m.1 2 1)) hm148 ⟨⟨_, _, rfl⟩, rfl⟩ rfl rfl ?_
  refine w_icmp_ge (q := 35) (X := x5.toInt) (Y := (m.1 2 1).toInt) hm148 ⟨⟨_, _, rfl⟩, rfl⟩ rfl rfl (fun hc => ?_) (fun hc => ?_)
  · have h := h.1 hc
    refine w_iconst (q := 86) hm148 ⟨⟨_, _, rfl⟩, rfl⟩ iconst_m1 ?_
    exact w_reti hm148 ⟨⟨_, _, rfl⟩, rfl⟩ rfl h
  · have h := h.2 hc
    refine w_iload_n (q := 36) hm148 ⟨⟨_, _, rfl⟩, rfl⟩ rfl ?_
    refine w_iload (q := 38) hm148 ⟨⟨_, _, rfl⟩, rfl⟩ rfl ?_
    refine w_call (q := 41) (n := 0) (vs := [.inl x2, .inl x5]) (rest := []) (la := [oI x2, oI x5]) hm148 ⟨⟨_, _, rfl⟩, rfl⟩ rfl rfl rfl rfl hm283 rfl rfl (fun hz => absurd hz (by decide)) rfl (Wp.mono h ?_)
    rintro _ m1 ⟨r1, rfl, h⟩
    change Wp _ _ 41 _ [.inl r1] _ _
    refine w_if_ne (q := 44) (X := r1.toInt) hm148 ⟨⟨_, _, rfl⟩, rfl⟩ rfl (fun hc => ?_) (fun hc => ?_)
    · have h := h.1 hc
      exact h
    · have h := h.2 hc
      refine w_aload_n (q := 45) hm148 ⟨⟨_, _, rfl⟩, rfl⟩ rfl ?_
      refine w_iload_n (q := 46) hm148 ⟨⟨_, _, rfl⟩, rfl⟩ rfl ?_
      refine w_iload_n (q := 47) hm148 ⟨⟨_, _, rfl⟩, rfl⟩ rfl ?_
      refine w_iconst (q := 48) hm148 ⟨⟨_, _, rfl⟩, rfl⟩ iconst_1 ?_
      refine w_iload (q := 50) hm148 ⟨⟨_, _, rfl⟩, rfl⟩ rfl ?_
      refine w_ishl (q := 51) hm148 ⟨⟨_, _, rfl⟩, rfl⟩ ?_
      refine w_ior (q := 52) hm148 ⟨⟨_, _, rfl⟩, rfl⟩ ?_
      refine w_iload (q := 54) hm148 ⟨⟨_, _, rfl⟩, rfl⟩ rfl ?_
      refine w_iconst (q := 55) hm148 ⟨⟨_, _, rfl⟩, rfl⟩ iconst_1 ?_
      refine w_iadd (q := 56) hm148 ⟨⟨_, _, rfl⟩, rfl⟩ ?_
      refine w_iload (q := 58) hm148 ⟨⟨_, _, rfl⟩, rfl⟩ rfl ?_
      refine w_iconst (q := 59) hm148 ⟨⟨_, _, rfl⟩, rfl⟩ iconst_1 ?_
      refine w_isub (q := 60) hm148 ⟨⟨_, _, rfl⟩, rfl⟩ ?_
      refine w_call (q := 63) (n := 2) (vs := [.inr (.inr (some 2)), .inl x1, .inl (x2 ||| ((1 : Int32) <<< (x5 &&& 31))), .inl (x5 + (1 : Int32)), .inl (x4 - (1 : Int32))]) (rest := []) (la := [oR 2, oI x1, oI (x2 ||| ((1 : Int32) <<< (x5 &&& 31))), oI (x5 + (1 : Int32)), oI (x4 - (1 : Int32)), none, none]) hm148 ⟨⟨_, _, rfl⟩, rfl⟩ rfl rfl rfl rfl hm148 rfl rfl (fun hz => absurd hz (by decide)) rfl (Wp.mono h ?_)
      rintro _ m2 ⟨r2, rfl, h⟩
      change Wp _ _ 63 _ [.inl r2] _ _
      refine w_istore (q := 65) (l' := [oR 2, oI x1, oI x2, none, oI x4, oI x5, oI r2]) hm148 ⟨⟨_, _, rfl⟩, rfl⟩ rfl rfl rfl ?_
      refine w_iload (q := 67) hm148 ⟨⟨_, _, rfl⟩, rfl⟩ rfl ?_
      refine w_iconst (q := 68) hm148 ⟨⟨_, _, rfl⟩, rfl⟩ iconst_m1 ?_
      refine w_icmp_eq (q := 71) (X := r2.toInt) (Y := (-1)) hm148 ⟨⟨_, _, rfl⟩, rfl⟩ rfl (by decide) (fun hc => ?_) (fun hc => ?_)
      · have h := h.1 hc
        exact Wp.wk [true, true, true, false, true, true, false] h
      · have h := h.2 hc
        refine w_iload (q := 73) hm148 ⟨⟨_, _, rfl⟩, rfl⟩ rfl ?_
        refine w_iconst (q := 74) hm148 ⟨⟨_, _, rfl⟩, rfl⟩ iconst_1 ?_
        refine w_iload (q := 76) hm148 ⟨⟨_, _, rfl⟩, rfl⟩ rfl ?_
        refine w_ishl (q := 77) hm148 ⟨⟨_, _, rfl⟩, rfl⟩ ?_
        refine w_ior (q := 78) hm148 ⟨⟨_, _, rfl⟩, rfl⟩ ?_
        exact w_reti hm148 ⟨⟨_, _, rfl⟩, rfl⟩ rfl h
theorem v_X1_cutBy_2_79 {d : Nat} {x1 : Int32} {x2 : Int32} {x4 : Int32} {x5 : Int32} {m : dM} {Q : Int32 → dM → Prop} (h : j_X1_cutBy_2_26 (d + 1) x1 x2 x4 (x5 + (1 : Int32)) m Q) : j_X1_cutBy_2_79 (d + 1) x1 x2 x4 x5 m Q := by
  refine w_iinc (q := 82) (l' := [oR 2, oI x1, oI x2, none, oI x4, oI (x5 + (1 : Int32)), none]) hm148 ⟨⟨_, _, rfl⟩, rfl⟩ rfl rfl rfl iconst_1 rfl ?_
  refine w_goto (q := 26) hm148 ⟨_, _, rfl⟩ ?_
  exact h
theorem v_X1_leastCut_61_47 {d : Nat} {x2 : Int32} {m : dM} {Q : Int32 → dM → Prop} (h : j_X1_leastCut_61_47_2 (d + 1) x2 (0 : Int32) m Q) : c_X1_leastCut_61_47 (d + 1) x2 m Q := by
  refine w_iconst (q := 1) hm147 ⟨⟨_, _, rfl⟩, rfl⟩ iconst_0 ?_
  refine w_istore_n (q := 2) (l' := [oR 61, oR 47, oI x2, oI (0 : Int32), none]) hm147 ⟨⟨_, _, rfl⟩, rfl⟩ rfl rfl rfl ?_
  exact h
theorem v_X1_leastCut_61_47_2 {d : Nat} {x2 : Int32} {x3 : Int32} {m : dM} {Q : Int32 → dM → Prop} (h : ((3 < x3.toInt → Q (-1 : Int32) m) ∧ (x3.toInt ≤ 3 → c_X1_cutBy_2 d x2 (m.1 47 3) (0 : Int32) x3 m (fun r1 m1 => ((r1.toInt = (-1) → j_X1_leastCut_61_47_2 (d + 1) x2 (x3 + (1 : Int32)) m1 Q) ∧ (r1.toInt ≠ (-1) → Q r1 m1)))))) : j_X1_leastCut_61_47_2 (d + 1) x2 x3 m Q := by
  refine w_iload_n (q := 3) hm147 ⟨⟨_, _, rfl⟩, rfl⟩ rfl ?_
  refine w_iconst (q := 4) hm147 ⟨⟨_, _, rfl⟩, rfl⟩ iconst_3 ?_
  refine w_icmp_gt (q := 7) (X := x3.toInt) (Y := 3) hm147 ⟨⟨_, _, rfl⟩, rfl⟩ rfl (by decide) (fun hc => ?_) (fun hc => ?_)
  · have h := h.1 hc
    refine w_iconst (q := 39) hm147 ⟨⟨_, _, rfl⟩, rfl⟩ iconst_m1 ?_
    exact w_reti hm147 ⟨⟨_, _, rfl⟩, rfl⟩ rfl h
  · have h := h.2 hc
    refine w_aload_n (q := 8) hm147 ⟨⟨_, _, rfl⟩, rfl⟩ rfl ?_
    refine w_getr (q := 11) hm147 ⟨⟨_, _, rfl⟩, rfl⟩ rfl ?_
    refine w_iload_n (q := 12) hm147 ⟨⟨_, _, rfl⟩, rfl⟩ rfl ?_
    refine w_aload_n (q := 13) hm147 ⟨⟨_, _, rfl⟩, rfl⟩ rfl ?_
    refine w_getf (q := 16) (v := (m.1 47 3)) hm147 ⟨⟨_, _, rfl⟩, rfl⟩ rfl rfl ?_
    refine w_iconst (q := 17) hm147 ⟨⟨_, _, rfl⟩, rfl⟩ iconst_0 ?_
    refine w_iload_n (q := 18) hm147 ⟨⟨_, _, rfl⟩, rfl⟩ rfl ?_
    refine w_call (q := 21) (n := 2) (vs := [.inr (.inr (some 2)), .inl x2, .inl (m.1 47 3), .inl (0 : Int32), .inl x3]) (rest := []) (la := [oR 2, oI x2, oI (m.1 47 3), oI (0 : Int32), oI x3, none, none]) hm147 ⟨⟨_, _, rfl⟩, rfl⟩ rfl rfl rfl rfl hm148 rfl rfl (fun hz => absurd hz (by decide)) rfl (Wp.mono h ?_)
    rintro _ m1 ⟨r1, rfl, h⟩
    change Wp _ _ 21 _ [.inl r1] _ _
    refine w_istore (q := 23) (l' := [oR 61, oR 47, oI x2, oI x3, oI r1]) hm147 ⟨⟨_, _, rfl⟩, rfl⟩ rfl rfl rfl ?_
    refine w_iload (q := 25) hm147 ⟨⟨_, _, rfl⟩, rfl⟩ rfl ?_
    refine w_iconst (q := 26) hm147 ⟨⟨_, _, rfl⟩, rfl⟩ iconst_m1 ?_
    refine w_icmp_eq (q := 29) (X := r1.toInt) (Y := (-1)) hm147 ⟨⟨_, _, rfl⟩, rfl⟩ rfl (by decide) (fun hc => ?_) (fun hc => ?_)
    · have h := h.1 hc
      refine w_iinc (q := 35) (l' := [oR 61, oR 47, oI x2, oI (x3 + (1 : Int32)), oI r1]) hm147 ⟨⟨_, _, rfl⟩, rfl⟩ rfl rfl rfl iconst_1 rfl ?_
      refine w_goto (q := 2) hm147 ⟨_, _, rfl⟩ ?_
      exact Wp.wk [true, true, true, true, false] h
    · have h := h.2 hc
      refine w_iload (q := 31) hm147 ⟨⟨_, _, rfl⟩, rfl⟩ rfl ?_
      exact w_reti hm147 ⟨⟨_, _, rfl⟩, rfl⟩ rfl h
theorem v_J6_bitCount {d : Nat} {x0 : Int32} {m : dM} {Q : Int32 → dM → Prop} (h : Q ((((((((x0 - ((x0.toUInt32 >>> ((1 : Int32).toUInt32 &&& Int32.toUInt32 31)).toInt32 &&& (1431655765 : Int32))) &&& (858993459 : Int32)) + (((x0 - ((x0.toUInt32 >>> ((1 : Int32).toUInt32 &&& Int32.toUInt32 31)).toInt32 &&& (1431655765 : Int32))).toUInt32 >>> ((2 : Int32).toUInt32 &&& Int32.toUInt32 31)).toInt32 &&& (858993459 : Int32))) + ((((x0 - ((x0.toUInt32 >>> ((1 : Int32).toUInt32 &&& Int32.toUInt32 31)).toInt32 &&& (1431655765 : Int32))) &&& (858993459 : Int32)) + (((x0 - ((x0.toUInt32 >>> ((1 : Int32).toUInt32 &&& Int32.toUInt32 31)).toInt32 &&& (1431655765 : Int32))).toUInt32 >>> ((2 : Int32).toUInt32 &&& Int32.toUInt32 31)).toInt32 &&& (858993459 : Int32))).toUInt32 >>> ((4 : Int32).toUInt32 &&& Int32.toUInt32 31)).toInt32) &&& (252645135 : Int32)) + ((((((x0 - ((x0.toUInt32 >>> ((1 : Int32).toUInt32 &&& Int32.toUInt32 31)).toInt32 &&& (1431655765 : Int32))) &&& (858993459 : Int32)) + (((x0 - ((x0.toUInt32 >>> ((1 : Int32).toUInt32 &&& Int32.toUInt32 31)).toInt32 &&& (1431655765 : Int32))).toUInt32 >>> ((2 : Int32).toUInt32 &&& Int32.toUInt32 31)).toInt32 &&& (858993459 : Int32))) + ((((x0 - ((x0.toUInt32 >>> ((1 : Int32).toUInt32 &&& Int32.toUInt32 31)).toInt32 &&& (1431655765 : Int32))) &&& (858993459 : Int32)) + (((x0 - ((x0.toUInt32 >>> ((1 : Int32).toUInt32 &&& Int32.toUInt32 31)).toInt32 &&& (1431655765 : Int32))).toUInt32 >>> ((2 : Int32).toUInt32 &&& Int32.toUInt32 31)).toInt32 &&& (858993459 : Int32))).toUInt32 >>> ((4 : Int32).toUInt32 &&& Int32.toUInt32 31)).toInt32) &&& (252645135 : Int32)).toUInt32 >>> ((8 : Int32).toUInt32 &&& Int32.toUInt32 31)).toInt32) + (((((((x0 - ((x0.toUInt32 >>> ((1 : Int32).toUInt32 &&& Int32.toUInt32 31)).toInt32 &&& (1431655765 : Int32))) &&& (858993459 : Int32)) + (((x0 - ((x0.toUInt32 >>> ((1 : Int32).toUInt32 &&& Int32.toUInt32 31)).toInt32 &&& (1431655765 : Int32))).toUInt32 >>> ((2 : Int32).toUInt32 &&& Int32.toUInt32 31)).toInt32 &&& (858993459 : Int32))) + ((((x0 - ((x0.toUInt32 >>> ((1 : Int32).toUInt32 &&& Int32.toUInt32 31)).toInt32 &&& (1431655765 : Int32))) &&& (858993459 : Int32)) + (((x0 - ((x0.toUInt32 >>> ((1 : Int32).toUInt32 &&& Int32.toUInt32 31)).toInt32 &&& (1431655765 : Int32))).toUInt32 >>> ((2 : Int32).toUInt32 &&& Int32.toUInt32 31)).toInt32 &&& (858993459 : Int32))).toUInt32 >>> ((4 : Int32).toUInt32 &&& Int32.toUInt32 31)).toInt32) &&& (252645135 : Int32)) + ((((((x0 - ((x0.toUInt32 >>> ((1 : Int32).toUInt32 &&& Int32.toUInt32 31)).toInt32 &&& (1431655765 : Int32))) &&& (858993459 : Int32)) + (((x0 - ((x0.toUInt32 >>> ((1 : Int32).toUInt32 &&& Int32.toUInt32 31)).toInt32 &&& (1431655765 : Int32))).toUInt32 >>> ((2 : Int32).toUInt32 &&& Int32.toUInt32 31)).toInt32 &&& (858993459 : Int32))) + ((((x0 - ((x0.toUInt32 >>> ((1 : Int32).toUInt32 &&& Int32.toUInt32 31)).toInt32 &&& (1431655765 : Int32))) &&& (858993459 : Int32)) + (((x0 - ((x0.toUInt32 >>> ((1 : Int32).toUInt32 &&& Int32.toUInt32 31)).toInt32 &&& (1431655765 : Int32))).toUInt32 >>> ((2 : Int32).toUInt32 &&& Int32.toUInt32 31)).toInt32 &&& (858993459 : Int32))).toUInt32 >>> ((4 : Int32).toUInt32 &&& Int32.toUInt32 31)).toInt32) &&& (252645135 : Int32)).toUInt32 >>> ((8 : Int32).toUInt32 &&& Int32.toUInt32 31)).toInt32).toUInt32 >>> ((16 : Int32).toUInt32 &&& Int32.toUInt32 31)).toInt32) &&& (63 : Int32)) m) : c_J6_bitCount (d + 1) x0 m Q := by
  refine w_iload_n (q := 1) hm285 ⟨⟨_, _, rfl⟩, rfl⟩ rfl ?_
  refine w_iload_n (q := 2) hm285 ⟨⟨_, _, rfl⟩, rfl⟩ rfl ?_
  refine w_iconst (q := 3) hm285 ⟨⟨_, _, rfl⟩, rfl⟩ iconst_1 ?_
  refine w_iushr (q := 4) hm285 ⟨⟨_, _, rfl⟩, rfl⟩ ?_
  refine w_ldc_w (q := 7) hm285 ⟨⟨_, _, rfl⟩, rfl⟩ ldc_1431655765 ?_
  refine w_iand (q := 8) hm285 ⟨⟨_, _, rfl⟩, rfl⟩ ?_
  refine w_isub (q := 9) hm285 ⟨⟨_, _, rfl⟩, rfl⟩ ?_
  refine w_istore_n (q := 10) (l' := [oI (x0 - ((x0.toUInt32 >>> ((1 : Int32).toUInt32 &&& Int32.toUInt32 31)).toInt32 &&& (1431655765 : Int32)))]) hm285 ⟨⟨_, _, rfl⟩, rfl⟩ rfl rfl rfl ?_
  refine w_iload_n (q := 11) hm285 ⟨⟨_, _, rfl⟩, rfl⟩ rfl ?_
  refine w_ldc_w (q := 14) hm285 ⟨⟨_, _, rfl⟩, rfl⟩ ldc_858993459 ?_
  refine w_iand (q := 15) hm285 ⟨⟨_, _, rfl⟩, rfl⟩ ?_
  refine w_iload_n (q := 16) hm285 ⟨⟨_, _, rfl⟩, rfl⟩ rfl ?_
  refine w_iconst (q := 17) hm285 ⟨⟨_, _, rfl⟩, rfl⟩ iconst_2 ?_
  refine w_iushr (q := 18) hm285 ⟨⟨_, _, rfl⟩, rfl⟩ ?_
  refine w_ldc_w (q := 21) hm285 ⟨⟨_, _, rfl⟩, rfl⟩ ldc_858993459 ?_
  refine w_iand (q := 22) hm285 ⟨⟨_, _, rfl⟩, rfl⟩ ?_
  refine w_iadd (q := 23) hm285 ⟨⟨_, _, rfl⟩, rfl⟩ ?_
  refine w_istore_n (q := 24) (l' := [oI (((x0 - ((x0.toUInt32 >>> ((1 : Int32).toUInt32 &&& Int32.toUInt32 31)).toInt32 &&& (1431655765 : Int32))) &&& (858993459 : Int32)) + (((x0 - ((x0.toUInt32 >>> ((1 : Int32).toUInt32 &&& Int32.toUInt32 31)).toInt32 &&& (1431655765 : Int32))).toUInt32 >>> ((2 : Int32).toUInt32 &&& Int32.toUInt32 31)).toInt32 &&& (858993459 : Int32)))]) hm285 ⟨⟨_, _, rfl⟩, rfl⟩ rfl rfl rfl ?_
  refine w_iload_n (q := 25) hm285 ⟨⟨_, _, rfl⟩, rfl⟩ rfl ?_
  refine w_iload_n (q := 26) hm285 ⟨⟨_, _, rfl⟩, rfl⟩ rfl ?_
  refine w_iconst (q := 27) hm285 ⟨⟨_, _, rfl⟩, rfl⟩ iconst_4 ?_
  refine w_iushr (q := 28) hm285 ⟨⟨_, _, rfl⟩, rfl⟩ ?_
  refine w_iadd (q := 29) hm285 ⟨⟨_, _, rfl⟩, rfl⟩ ?_
  refine w_ldc_w (q := 32) hm285 ⟨⟨_, _, rfl⟩, rfl⟩ ldc_252645135 ?_
  refine w_iand (q := 33) hm285 ⟨⟨_, _, rfl⟩, rfl⟩ ?_
  refine w_istore_n (q := 34) (l' := [oI (((((x0 - ((x0.toUInt32 >>> ((1 : Int32).toUInt32 &&& Int32.toUInt32 31)).toInt32 &&& (1431655765 : Int32))) &&& (858993459 : Int32)) + (((x0 - ((x0.toUInt32 >>> ((1 : Int32).toUInt32 &&& Int32.toUInt32 31)).toInt32 &&& (1431655765 : Int32))).toUInt32 >>> ((2 : Int32).toUInt32 &&& Int32.toUInt32 31)).toInt32 &&& (858993459 : Int32))) + ((((x0 - ((x0.toUInt32 >>> ((1 : Int32).toUInt32 &&& Int32.toUInt32 31)).toInt32 &&& (1431655765 : Int32))) &&& (858993459 : Int32)) + (((x0 - ((x0.toUInt32 >>> ((1 : Int32).toUInt32 &&& Int32.toUInt32 31)).toInt32 &&& (1431655765 : Int32))).toUInt32 >>> ((2 : Int32).toUInt32 &&& Int32.toUInt32 31)).toInt32 &&& (858993459 : Int32))).toUInt32 >>> ((4 : Int32).toUInt32 &&& Int32.toUInt32 31)).toInt32) &&& (252645135 : Int32))]) hm285 ⟨⟨_, _, rfl⟩, rfl⟩ rfl rfl rfl ?_
  refine w_iload_n (q := 35) hm285 ⟨⟨_, _, rfl⟩, rfl⟩ rfl ?_
  refine w_iload_n (q := 36) hm285 ⟨⟨_, _, rfl⟩, rfl⟩ rfl ?_
  refine w_bipush (q := 38) hm285 ⟨⟨_, _, rfl⟩, rfl⟩ bipush_8 ?_
  refine w_iushr (q := 39) hm285 ⟨⟨_, _, rfl⟩, rfl⟩ ?_
  refine w_iadd (q := 40) hm285 ⟨⟨_, _, rfl⟩, rfl⟩ ?_
  refine w_istore_n (q := 41) (l' := [oI ((((((x0 - ((x0.toUInt32 >>> ((1 : Int32).toUInt32 &&& Int32.toUInt32 31)).toInt32 &&& (1431655765 : Int32))) &&& (858993459 : Int32)) + (((x0 - ((x0.toUInt32 >>> ((1 : Int32).toUInt32 &&& Int32.toUInt32 31)).toInt32 &&& (1431655765 : Int32))).toUInt32 >>> ((2 : Int32).toUInt32 &&& Int32.toUInt32 31)).toInt32 &&& (858993459 : Int32))) + ((((x0 - ((x0.toUInt32 >>> ((1 : Int32).toUInt32 &&& Int32.toUInt32 31)).toInt32 &&& (1431655765 : Int32))) &&& (858993459 : Int32)) + (((x0 - ((x0.toUInt32 >>> ((1 : Int32).toUInt32 &&& Int32.toUInt32 31)).toInt32 &&& (1431655765 : Int32))).toUInt32 >>> ((2 : Int32).toUInt32 &&& Int32.toUInt32 31)).toInt32 &&& (858993459 : Int32))).toUInt32 >>> ((4 : Int32).toUInt32 &&& Int32.toUInt32 31)).toInt32) &&& (252645135 : Int32)) + ((((((x0 - ((x0.toUInt32 >>> ((1 : Int32).toUInt32 &&& Int32.toUInt32 31)).toInt32 &&& (1431655765 : Int32))) &&& (858993459 : Int32)) + (((x0 - ((x0.toUInt32 >>> ((1 : Int32).toUInt32 &&& Int32.toUInt32 31)).toInt32 &&& (1431655765 : Int32))).toUInt32 >>> ((2 : Int32).toUInt32 &&& Int32.toUInt32 31)).toInt32 &&& (858993459 : Int32))) + ((((x0 - ((x0.toUInt32 >>> ((1 : Int32).toUInt32 &&& Int32.toUInt32 31)).toInt32 &&& (1431655765 : Int32))) &&& (858993459 : Int32)) + (((x0 - ((x0.toUInt32 >>> ((1 : Int32).toUInt32 &&& Int32.toUInt32 31)).toInt32 &&& (1431655765 : Int32))).toUInt32 >>> ((2 : Int32).toUInt32 &&& Int32.toUInt32 31)).toInt32 &&& (858993459 : Int32))).toUInt32 >>> ((4 : Int32).toUInt32 &&& Int32.toUInt32 31)).toInt32) &&& (252645135 : Int32)).toUInt32 >>> ((8 : Int32).toUInt32 &&& Int32.toUInt32 31)).toInt32)]) hm285 ⟨⟨_, _, rfl⟩, rfl⟩ rfl rfl rfl ?_
  refine w_iload_n (q := 42) hm285 ⟨⟨_, _, rfl⟩, rfl⟩ rfl ?_
  refine w_iload_n (q := 43) hm285 ⟨⟨_, _, rfl⟩, rfl⟩ rfl ?_
  refine w_bipush (q := 45) hm285 ⟨⟨_, _, rfl⟩, rfl⟩ bipush_16 ?_
  refine w_iushr (q := 46) hm285 ⟨⟨_, _, rfl⟩, rfl⟩ ?_
  refine w_iadd (q := 47) hm285 ⟨⟨_, _, rfl⟩, rfl⟩ ?_
  refine w_istore_n (q := 48) (l' := [oI (((((((x0 - ((x0.toUInt32 >>> ((1 : Int32).toUInt32 &&& Int32.toUInt32 31)).toInt32 &&& (1431655765 : Int32))) &&& (858993459 : Int32)) + (((x0 - ((x0.toUInt32 >>> ((1 : Int32).toUInt32 &&& Int32.toUInt32 31)).toInt32 &&& (1431655765 : Int32))).toUInt32 >>> ((2 : Int32).toUInt32 &&& Int32.toUInt32 31)).toInt32 &&& (858993459 : Int32))) + ((((x0 - ((x0.toUInt32 >>> ((1 : Int32).toUInt32 &&& Int32.toUInt32 31)).toInt32 &&& (1431655765 : Int32))) &&& (858993459 : Int32)) + (((x0 - ((x0.toUInt32 >>> ((1 : Int32).toUInt32 &&& Int32.toUInt32 31)).toInt32 &&& (1431655765 : Int32))).toUInt32 >>> ((2 : Int32).toUInt32 &&& Int32.toUInt32 31)).toInt32 &&& (858993459 : Int32))).toUInt32 >>> ((4 : Int32).toUInt32 &&& Int32.toUInt32 31)).toInt32) &&& (252645135 : Int32)) + ((((((x0 - ((x0.toUInt32 >>> ((1 : Int32).toUInt32 &&& Int32.toUInt32 31)).toInt32 &&& (1431655765 : Int32))) &&& (858993459 : Int32)) + (((x0 - ((x0.toUInt32 >>> ((1 : Int32).toUInt32 &&& Int32.toUInt32 31)).toInt32 &&& (1431655765 : Int32))).toUInt32 >>> ((2 : Int32).toUInt32 &&& Int32.toUInt32 31)).toInt32 &&& (858993459 : Int32))) + ((((x0 - ((x0.toUInt32 >>> ((1 : Int32).toUInt32 &&& Int32.toUInt32 31)).toInt32 &&& (1431655765 : Int32))) &&& (858993459 : Int32)) + (((x0 - ((x0.toUInt32 >>> ((1 : Int32).toUInt32 &&& Int32.toUInt32 31)).toInt32 &&& (1431655765 : Int32))).toUInt32 >>> ((2 : Int32).toUInt32 &&& Int32.toUInt32 31)).toInt32 &&& (858993459 : Int32))).toUInt32 >>> ((4 : Int32).toUInt32 &&& Int32.toUInt32 31)).toInt32) &&& (252645135 : Int32)).toUInt32 >>> ((8 : Int32).toUInt32 &&& Int32.toUInt32 31)).toInt32) + (((((((x0 - ((x0.toUInt32 >>> ((1 : Int32).toUInt32 &&& Int32.toUInt32 31)).toInt32 &&& (1431655765 : Int32))) &&& (858993459 : Int32)) + (((x0 - ((x0.toUInt32 >>> ((1 : Int32).toUInt32 &&& Int32.toUInt32 31)).toInt32 &&& (1431655765 : Int32))).toUInt32 >>> ((2 : Int32).toUInt32 &&& Int32.toUInt32 31)).toInt32 &&& (858993459 : Int32))) + ((((x0 - ((x0.toUInt32 >>> ((1 : Int32).toUInt32 &&& Int32.toUInt32 31)).toInt32 &&& (1431655765 : Int32))) &&& (858993459 : Int32)) + (((x0 - ((x0.toUInt32 >>> ((1 : Int32).toUInt32 &&& Int32.toUInt32 31)).toInt32 &&& (1431655765 : Int32))).toUInt32 >>> ((2 : Int32).toUInt32 &&& Int32.toUInt32 31)).toInt32 &&& (858993459 : Int32))).toUInt32 >>> ((4 : Int32).toUInt32 &&& Int32.toUInt32 31)).toInt32) &&& (252645135 : Int32)) + ((((((x0 - ((x0.toUInt32 >>> ((1 : Int32).toUInt32 &&& Int32.toUInt32 31)).toInt32 &&& (1431655765 : Int32))) &&& (858993459 : Int32)) + (((x0 - ((x0.toUInt32 >>> ((1 : Int32).toUInt32 &&& Int32.toUInt32 31)).toInt32 &&& (1431655765 : Int32))).toUInt32 >>> ((2 : Int32).toUInt32 &&& Int32.toUInt32 31)).toInt32 &&& (858993459 : Int32))) + ((((x0 - ((x0.toUInt32 >>> ((1 : Int32).toUInt32 &&& Int32.toUInt32 31)).toInt32 &&& (1431655765 : Int32))) &&& (858993459 : Int32)) + (((x0 - ((x0.toUInt32 >>> ((1 : Int32).toUInt32 &&& Int32.toUInt32 31)).toInt32 &&& (1431655765 : Int32))).toUInt32 >>> ((2 : Int32).toUInt32 &&& Int32.toUInt32 31)).toInt32 &&& (858993459 : Int32))).toUInt32 >>> ((4 : Int32).toUInt32 &&& Int32.toUInt32 31)).toInt32) &&& (252645135 : Int32)).toUInt32 >>> ((8 : Int32).toUInt32 &&& Int32.toUInt32 31)).toInt32).toUInt32 >>> ((16 : Int32).toUInt32 &&& Int32.toUInt32 31)).toInt32)]) hm285 ⟨⟨_, _, rfl⟩, rfl⟩ rfl rfl rfl ?_
  refine w_iload_n (q := 49) hm285 ⟨⟨_, _, rfl⟩, rfl⟩ rfl ?_
  refine w_bipush (q := 51) hm285 ⟨⟨_, _, rfl⟩, rfl⟩ bipush_63 ?_
  refine w_iand (q := 52) hm285 ⟨⟨_, _, rfl⟩, rfl⟩ ?_
  exact w_reti hm285 ⟨⟨_, _, rfl⟩, rfl⟩ rfl h
