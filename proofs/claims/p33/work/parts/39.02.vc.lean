theorem v_X2_checkCounted_43 {d : Nat} {x1 : Int32} {x2 : Int32} {x3 : Int32} {x4 : Int32} {m : dM} {Q : dM → Prop} (h : ((x1.toInt ≤ x2.toInt → c_X2_checkRow_43 d x3 x4 m (fun m1 => j_X2_checkCounted_43_20 (d + 1) m1 Q)) ∧ (x2.toInt < x1.toInt → j_X2_checkCounted_43_20 (d + 1) (dSet m 43 3 (2 : Int32)) Q))) : c_X2_checkCounted_43 (d + 1) x1 x2 x3 x4 m Q := by
  refine w_iload_n (q := 1) hm162 ⟨⟨_, _, rfl⟩, rfl⟩ rfl ?_
  refine w_iload_n (q := 2) hm162 ⟨⟨_, _, rfl⟩, rfl⟩ rfl ?_
  refine w_icmp_le (q := 5) (X := x1.toInt) (Y := x2.toInt) hm162 ⟨⟨_, _, rfl⟩, rfl⟩ rfl rfl (fun hc => ?_) (fun hc => ?_)
  · have h := h.1 hc
    refine w_aload_n (q := 14) hm162 ⟨⟨_, _, rfl⟩, rfl⟩ rfl ?_
    refine w_iload_n (q := 15) hm162 ⟨⟨_, _, rfl⟩, rfl⟩ rfl ?_
    refine w_iload (q := 17) hm162 ⟨⟨_, _, rfl⟩, rfl⟩ rfl ?_
    refine w_call (q := 20) (n := 2) (vs := [.inr (.inr (some 43)), .inl x3, .inl x4]) (rest := []) (la := [oR 43, oI x3, oI x4, none, none]) hm162 ⟨⟨_, _, rfl⟩, rfl⟩ rfl rfl rfl rfl hm161 rfl rfl (fun _ => ⟨_, _, rfl, rfl⟩) rfl (Wp.mono h ?_)
    rintro _ m1 ⟨rfl, h⟩
    change Wp _ _ 20 _ [] _ _
    exact Wp.wk [false, false, false, false, false] h
  · have h := h.2 hc
    refine w_aload_n (q := 6) hm162 ⟨⟨_, _, rfl⟩, rfl⟩ rfl ?_
    refine w_iconst (q := 7) hm162 ⟨⟨_, _, rfl⟩, rfl⟩ iconst_2 ?_
    refine w_putf (q := 10) hm162 ⟨⟨_, _, rfl⟩, rfl⟩ rfl rfl rfl ?_
    refine w_goto (q := 20) hm162 ⟨_, _, rfl⟩ ?_
    exact Wp.wk [false, false, false, false, false] h
theorem v_X2_checkCounted_43_20 {d : Nat} {m : dM} {Q : dM → Prop} (h : Q m) : j_X2_checkCounted_43_20 (d + 1) m Q := by
  exact w_retv hm162 ⟨⟨_, _, rfl⟩, rfl⟩ rfl h
theorem v_X8_nameAt_38 {d : Nat} {x1 : Int32} {m : dM} {Q : Int64 → dM → Prop} (h : ((x1.toInt < 0 → j_X8_nameAt_38_20 (d + 1) m Q) ∧ (0 ≤ x1.toInt → ((400 < x1.toInt → j_X8_nameAt_38_20 (d + 1) m Q) ∧ (x1.toInt ≤ 400 → ((0 ≤ x1.toInt ∧ x1.toInt < 401) ∧ Q (m.2.1 41 x1.toNatClampNeg) m)))))) : c_X8_nameAt_38 (d + 1) x1 m Q := by
  refine w_iload_n (q := 1) hm219 ⟨⟨_, _, rfl⟩, rfl⟩ rfl ?_
  refine w_if_lt (q := 4) (X := x1.toInt) hm219 ⟨⟨_, _, rfl⟩, rfl⟩ rfl (fun hc => ?_) (fun hc => ?_)
  · have h := h.1 hc
    exact Wp.wk [false, false] h
  · have h := h.2 hc
    refine w_iload_n (q := 5) hm219 ⟨⟨_, _, rfl⟩, rfl⟩ rfl ?_
    refine w_sipush (q := 8) hm219 ⟨⟨_, _, rfl⟩, rfl⟩ sipush_400 ?_
    refine w_icmp_gt (q := 11) (X := x1.toInt) (Y := 400) hm219 ⟨⟨_, _, rfl⟩, rfl⟩ rfl (by decide) (fun hc => ?_) (fun hc => ?_)
    · have h := h.1 hc
      exact Wp.wk [false, false] h
    · have h := h.2 hc
      refine w_aload_n (q := 12) hm219 ⟨⟨_, _, rfl⟩, rfl⟩ rfl ?_
      refine w_getr (q := 15) hm219 ⟨⟨_, _, rfl⟩, rfl⟩ rfl ?_
      refine w_iload_n (q := 16) hm219 ⟨⟨_, _, rfl⟩, rfl⟩ rfl ?_
      obtain ⟨hi, h⟩ := h
      refine w_lald (q := 17) (v := (m.2.1 41 x1.toNatClampNeg)) hm219 ⟨⟨_, _, rfl⟩, rfl⟩ rfl hi rfl rfl ?_
      refine w_goto (q := 21) hm219 ⟨_, _, rfl⟩ ?_
      exact w_retl hm219 ⟨⟨_, _, rfl⟩, rfl⟩ rfl h
theorem v_X8_nameAt_38_20 {d : Nat} {m : dM} {Q : Int64 → dM → Prop} (h : Q (0 : Int64) m) : j_X8_nameAt_38_20 (d + 1) m Q := by
  refine w_lconst (q := 21) hm219 ⟨⟨_, _, rfl⟩, rfl⟩ lconst_0 ?_
  exact w_retl hm219 ⟨⟨_, _, rfl⟩, rfl⟩ rfl h
theorem v_X8_numberAt_38 {d : Nat} {x1 : Int32} {m : dM} {Q : Int32 → dM → Prop} (h : c_X8_nameAt_38 d x1 m (fun r1 m1 => Q r1.toInt32 m1)) : c_X8_numberAt_38 (d + 1) x1 m Q := by
  refine w_aload_n (q := 1) hm218 ⟨⟨_, _, rfl⟩, rfl⟩ rfl ?_
  refine w_iload_n (q := 2) hm218 ⟨⟨_, _, rfl⟩, rfl⟩ rfl ?_
  refine w_call (q := 5) (n := 0) (vs := [.inr (.inr (some 38)), .inl x1]) (rest := []) (la := [oR 38, oI x1]) hm218 ⟨⟨_, _, rfl⟩, rfl⟩ rfl rfl rfl rfl hm219 rfl rfl (fun _ => ⟨_, _, rfl, rfl⟩) rfl (Wp.mono h ?_)
  rintro _ m1 ⟨r1, rfl, h⟩
  change Wp _ _ 5 _ [.inr (.inl r1)] _ _
  refine w_l2i (q := 6) hm218 ⟨⟨_, _, rfl⟩, rfl⟩ ?_
  exact w_reti hm218 ⟨⟨_, _, rfl⟩, rfl⟩ rfl h
theorem v_X2_unit_43 {d : Nat} {x1 : Int32} {m : dM} {Q : Int32 → dM → Prop} (h : c_X2_kind_43 d m (fun r1 m1 => ((r1.toInt ≠ 23 → ((r1.toInt < 13 → j_X2_unit_43_67 (d + 1) x1 r1 m1 Q) ∧ (13 ≤ r1.toInt → ((21 < r1.toInt → j_X2_unit_43_67 (d + 1) x1 r1 m1 Q) ∧ (r1.toInt ≤ 21 → c_X4_put_29 d (((4 : Int32) + r1) - (13 : Int32)) m1 (fun m2 => c_X2_step_43 d m2 (fun r3 m3 => (r3 = 0 ∨ r3 = 1) ∧ Q r3 m3))))))) ∧ (r1.toInt = 23 → c_X8_numberAt_38 d (m1.1 43 2) m1 (fun r4 m4 => c_X4_put_29 d ((13 : Int32) + r4) m4 (fun m5 => c_X2_step_43 d m5 (fun r6 m6 => (r6 = 0 ∨ r6 = 1) ∧ Q r6 m6))))))) : c_X2_unit_43 (d + 1) x1 m Q := by
  refine w_aload_n (q := 1) hm167 ⟨⟨_, _, rfl⟩, rfl⟩ rfl ?_
  refine w_call (q := 4) (n := 0) (vs := [.inr (.inr (some 43))]) (rest := []) (la := [oR 43]) hm167 ⟨⟨_, _, rfl⟩, rfl⟩ rfl rfl rfl rfl hm157 rfl rfl (fun _ => ⟨_, _, rfl, rfl⟩) rfl (Wp.mono h ?_)
  rintro _ m1 ⟨r1, rfl, h⟩
  change Wp _ _ 4 _ [.inl r1] _ _
  refine w_istore_n (q := 5) (l' := [oR 43, oI x1, oI r1]) hm167 ⟨⟨_, _, rfl⟩, rfl⟩ rfl rfl rfl ?_
  refine w_iload_n (q := 6) hm167 ⟨⟨_, _, rfl⟩, rfl⟩ rfl ?_
  refine w_bipush (q := 8) hm167 ⟨⟨_, _, rfl⟩, rfl⟩ bipush_23 ?_
  refine w_icmp_ne (q := 11) (X := r1.toInt) (Y := 23) hm167 ⟨⟨_, _, rfl⟩, rfl⟩ rfl (by decide) (fun hc => ?_) (fun hc => ?_)
  · have h := h.1 hc
    refine w_iload_n (q := 38) hm167 ⟨⟨_, _, rfl⟩, rfl⟩ rfl ?_
    refine w_bipush (q := 40) hm167 ⟨⟨_, _, rfl⟩, rfl⟩ bipush_13 ?_
    refine w_icmp_lt (q := 43) (X := r1.toInt) (Y := 13) hm167 ⟨⟨_, _, rfl⟩, rfl⟩ rfl (by decide) (fun hc => ?_) (fun hc => ?_)
    · have h := h.1 hc
      exact h
    · have h := h.2 hc
      refine w_iload_n (q := 44) hm167 ⟨⟨_, _, rfl⟩, rfl⟩ rfl ?_
      refine w_bipush (q := 46) hm167 ⟨⟨_, _, rfl⟩, rfl⟩ bipush_21 ?_
      refine w_icmp_gt (q := 49) (X := r1.toInt) (Y := 21) hm167 ⟨⟨_, _, rfl⟩, rfl⟩ rfl (by decide) (fun hc => ?_) (fun hc => ?_)
      · have h := h.1 hc
        exact h
      · have h := h.2 hc
        refine w_aload_n (q := 50) hm167 ⟨⟨_, _, rfl⟩, rfl⟩ rfl ?_
        refine w_getr (q := 53) hm167 ⟨⟨_, _, rfl⟩, rfl⟩ rfl ?_
        refine w_iconst (q := 54) hm167 ⟨⟨_, _, rfl⟩, rfl⟩ iconst_4 ?_
        refine w_iload_n (q := 55) hm167 ⟨⟨_, _, rfl⟩, rfl⟩ rfl ?_
        refine w_iadd (q := 56) hm167 ⟨⟨_, _, rfl⟩, rfl⟩ ?_
        refine w_bipush (q := 58) hm167 ⟨⟨_, _, rfl⟩, rfl⟩ bipush_13 ?_
        refine w_isub (q := 59) hm167 ⟨⟨_, _, rfl⟩, rfl⟩ ?_
        refine w_call (q := 62) (n := 0) (vs := [.inr (.inr (some 29)), .inl (((4 : Int32) + r1) - (13 : Int32))]) (rest := []) (la := [oR 29, oI (((4 : Int32) + r1) - (13 : Int32))]) hm167 ⟨⟨_, _, rfl⟩, rfl⟩ rfl rfl rfl rfl hm179 rfl rfl (fun _ => ⟨_, _, rfl, rfl⟩) rfl (Wp.mono h ?_)
        rintro _ m2 ⟨rfl, h⟩
        change Wp _ _ 62 _ [] _ _
        refine w_aload_n (q := 63) hm167 ⟨⟨_, _, rfl⟩, rfl⟩ rfl ?_
        refine w_call (q := 66) (n := 0) (vs := [.inr (.inr (some 43))]) (rest := []) (la := [oR 43]) hm167 ⟨⟨_, _, rfl⟩, rfl⟩ rfl rfl rfl rfl hm159 rfl rfl (fun _ => ⟨_, _, rfl, rfl⟩) rfl (Wp.mono h ?_)
        rintro _ m3 ⟨r3, rfl, h⟩
        change Wp _ _ 66 _ [.inl r3] _ _
        exact w_retz hm167 ⟨⟨_, _, rfl⟩, rfl⟩ rfl h.1 h.2
  · have h := h.2 hc
    refine w_aload_n (q := 12) hm167 ⟨⟨_, _, rfl⟩, rfl⟩ rfl ?_
    refine w_getr (q := 15) hm167 ⟨⟨_, _, rfl⟩, rfl⟩ rfl ?_
    refine w_bipush (q := 17) hm167 ⟨⟨_, _, rfl⟩, rfl⟩ bipush_13 ?_
    refine w_aload_n (q := 18) hm167 ⟨⟨_, _, rfl⟩, rfl⟩ rfl ?_
    refine w_getr (q := 21) hm167 ⟨⟨_, _, rfl⟩, rfl⟩ rfl ?_
    refine w_aload_n (q := 22) hm167 ⟨⟨_, _, rfl⟩, rfl⟩ rfl ?_
    refine w_getf (q := 25) (v := (m1.1 43 2)) hm167 ⟨⟨_, _, rfl⟩, rfl⟩ rfl rfl ?_
    refine w_call (q := 28) (n := 0) (vs := [.inr (.inr (some 38)), .inl (m1.1 43 2)]) (rest := [.inl (13 : Int32), .inr (.inr (some 29))]) (la := [oR 38, oI (m1.1 43 2)]) hm167 ⟨⟨_, _, rfl⟩, rfl⟩ rfl rfl rfl rfl hm218 rfl rfl (fun _ => ⟨_, _, rfl, rfl⟩) rfl (Wp.mono h ?_)
    rintro _ m4 ⟨r4, rfl, h⟩
    change Wp _ _ 28 _ [.inl r4, .inl (13 : Int32), .inr (.inr (some 29))] _ _
    refine w_iadd (q := 29) hm167 ⟨⟨_, _, rfl⟩, rfl⟩ ?_
    refine w_call (q := 32) (n := 0) (vs := [.inr (.inr (some 29)), .inl ((13 : Int32) + r4)]) (rest := []) (la := [oR 29, oI ((13 : Int32) + r4)]) hm167 ⟨⟨_, _, rfl⟩, rfl⟩ rfl rfl rfl rfl hm179 rfl rfl (fun _ => ⟨_, _, rfl, rfl⟩) rfl (Wp.mono h ?_)
    rintro _ m5 ⟨rfl, h⟩
    change Wp _ _ 32 _ [] _ _
    refine w_aload_n (q := 33) hm167 ⟨⟨_, _, rfl⟩, rfl⟩ rfl ?_
    refine w_call (q := 36) (n := 0) (vs := [.inr (.inr (some 43))]) (rest := []) (la := [oR 43]) hm167 ⟨⟨_, _, rfl⟩, rfl⟩ rfl rfl rfl rfl hm159 rfl rfl (fun _ => ⟨_, _, rfl, rfl⟩) rfl (Wp.mono h ?_)
    rintro _ m6 ⟨r6, rfl, h⟩
    change Wp _ _ 36 _ [.inl r6] _ _
    exact w_retz hm167 ⟨⟨_, _, rfl⟩, rfl⟩ rfl h.1 h.2
theorem v_X2_unit_43_67 {d : Nat} {x1 : Int32} {x2 : Int32} {m : dM} {Q : Int32 → dM → Prop} (h : ((x2.toInt = 40 → ((x1.toInt < 6 → c_X2_step_43 d m (fun r1 m1 => ((r1.toInt = 0 → j_X2_unit_43_123 (d + 1) m1 Q) ∧ (r1.toInt ≠ 0 → c_X2_sum_43 d (x1 + (1 : Int32)) m1 (fun r2 m2 => ((r2.toInt = 0 → j_X2_unit_43_123 (d + 1) m2 Q) ∧ (r2.toInt ≠ 0 → c_X2_need_43 d (41 : Int32) m2 (fun r3 m3 => ((r3.toInt = 0 → j_X2_unit_43_123 (d + 1) m3 Q) ∧ (r3.toInt ≠ 0 → Q (1 : Int32) m3)))))))))) ∧ (6 ≤ x1.toInt → c_X2_fail_43 d (2 : Int32) m (fun r4 m4 => (r4 = 0 ∨ r4 = 1) ∧ Q r4 m4)))) ∧ (x2.toInt ≠ 40 → c_X2_fail_43 d (1 : Int32) m (fun r5 m5 => (r5 = 0 ∨ r5 = 1) ∧ Q r5 m5)))) : j_X2_unit_43_67 (d + 1) x1 x2 m Q := by
  refine w_iload_n (q := 68) hm167 ⟨⟨_, _, rfl⟩, rfl⟩ rfl ?_
  refine w_bipush (q := 70) hm167 ⟨⟨_, _, rfl⟩, rfl⟩ bipush_40 ?_
  refine w_icmp_eq (q := 73) (X := x2.toInt) (Y := 40) hm167 ⟨⟨_, _, rfl⟩, rfl⟩ rfl (by decide) (fun hc => ?_) (fun hc => ?_)
  · have h := h.1 hc
    refine w_iload_n (q := 80) hm167 ⟨⟨_, _, rfl⟩, rfl⟩ rfl ?_
    refine w_bipush (q := 82) hm167 ⟨⟨_, _, rfl⟩, rfl⟩ bipush_6 ?_
    refine w_icmp_lt (q := 85) (X := x1.toInt) (Y := 6) hm167 ⟨⟨_, _, rfl⟩, rfl⟩ rfl (by decide) (fun hc => ?_) (fun hc => ?_)
    · have h := h.1 hc
      refine w_aload_n (q := 94) hm167 ⟨⟨_, _, rfl⟩, rfl⟩ rfl ?_
      refine w_call (q := 97) (n := 0) (vs := [.inr (.inr (some 43))]) (rest := []) (la := [oR 43]) hm167 ⟨⟨_, _, rfl⟩, rfl⟩ rfl rfl rfl rfl hm159 rfl rfl (fun _ => ⟨_, _, rfl, rfl⟩) rfl (Wp.mono h ?_)
      rintro _ m1 ⟨r1, rfl, h⟩
      change Wp _ _ 97 _ [.inl r1] _ _
      refine w_if_eq (q := 100) (X := r1.toInt) hm167 ⟨⟨_, _, rfl⟩, rfl⟩ rfl (fun hc => ?_) (fun hc => ?_)
      · have h := h.1 hc
        exact Wp.wk [false, false, false] h
      · have h := h.2 hc
        refine w_aload_n (q := 101) hm167 ⟨⟨_, _, rfl⟩, rfl⟩ rfl ?_
        refine w_iload_n (q := 102) hm167 ⟨⟨_, _, rfl⟩, rfl⟩ rfl ?_
        refine w_iconst (q := 103) hm167 ⟨⟨_, _, rfl⟩, rfl⟩ iconst_1 ?_
        refine w_iadd (q := 104) hm167 ⟨⟨_, _, rfl⟩, rfl⟩ ?_
        refine w_call (q := 107) (n := 2) (vs := [.inr (.inr (some 43)), .inl (x1 + (1 : Int32))]) (rest := []) (la := [oR 43, oI (x1 + (1 : Int32)), none, none]) hm167 ⟨⟨_, _, rfl⟩, rfl⟩ rfl rfl rfl rfl hm165 rfl rfl (fun _ => ⟨_, _, rfl, rfl⟩) rfl (Wp.mono h ?_)
        rintro _ m2 ⟨r2, rfl, h⟩
        change Wp _ _ 107 _ [.inl r2] _ _
        refine w_if_eq (q := 110) (X := r2.toInt) hm167 ⟨⟨_, _, rfl⟩, rfl⟩ rfl (fun hc => ?_) (fun hc => ?_)
        · have h := h.1 hc
          exact Wp.wk [false, false, false] h
        · have h := h.2 hc
          refine w_aload_n (q := 111) hm167 ⟨⟨_, _, rfl⟩, rfl⟩ rfl ?_
          refine w_bipush (q := 113) hm167 ⟨⟨_, _, rfl⟩, rfl⟩ bipush_41 ?_
          refine w_call (q := 116) (n := 0) (vs := [.inr (.inr (some 43)), .inl (41 : Int32)]) (rest := []) (la := [oR 43, oI (41 : Int32)]) hm167 ⟨⟨_, _, rfl⟩, rfl⟩ rfl rfl rfl rfl hm160 rfl rfl (fun _ => ⟨_, _, rfl, rfl⟩) rfl (Wp.mono h ?_)
          rintro _ m3 ⟨r3, rfl, h⟩
          change Wp _ _ 116 _ [.inl r3] _ _
          refine w_if_eq (q := 119) (X := r3.toInt) hm167 ⟨⟨_, _, rfl⟩, rfl⟩ rfl (fun hc => ?_) (fun hc => ?_)
          · have h := h.1 hc
            exact Wp.wk [false, false, false] h
          · have h := h.2 hc
            refine w_iconst (q := 120) hm167 ⟨⟨_, _, rfl⟩, rfl⟩ iconst_1 ?_
            refine w_goto (q := 124) hm167 ⟨_, _, rfl⟩ ?_
            exact w_retz hm167 ⟨⟨_, _, rfl⟩, rfl⟩ rfl (by decide) h
    · have h := h.2 hc
      refine w_aload_n (q := 86) hm167 ⟨⟨_, _, rfl⟩, rfl⟩ rfl ?_
      refine w_iconst (q := 87) hm167 ⟨⟨_, _, rfl⟩, rfl⟩ iconst_2 ?_
      refine w_call (q := 90) (n := 0) (vs := [.inr (.inr (some 43)), .inl (2 : Int32)]) (rest := []) (la := [oR 43, oI (2 : Int32)]) hm167 ⟨⟨_, _, rfl⟩, rfl⟩ rfl rfl rfl rfl hm158 rfl rfl (fun _ => ⟨_, _, rfl, rfl⟩) rfl (Wp.mono h ?_)
      rintro _ m4 ⟨r4, rfl, h⟩
      change Wp _ _ 90 _ [.inl r4] _ _
      refine w_goto (q := 124) hm167 ⟨_, _, rfl⟩ ?_
      exact w_retz hm167 ⟨⟨_, _, rfl⟩, rfl⟩ rfl h.1 h.2
  · have h := h.2 hc
    refine w_aload_n (q := 74) hm167 ⟨⟨_, _, rfl⟩, rfl⟩ rfl ?_
    refine w_iconst (q := 75) hm167 ⟨⟨_, _, rfl⟩, rfl⟩ iconst_1 ?_
    refine w_call (q := 78) (n := 0) (vs := [.inr (.inr (some 43)), .inl (1 : Int32)]) (rest := []) (la := [oR 43, oI (1 : Int32)]) hm167 ⟨⟨_, _, rfl⟩, rfl⟩ rfl rfl rfl rfl hm158 rfl rfl (fun _ => ⟨_, _, rfl, rfl⟩) rfl (Wp.mono h ?_)
    rintro _ m5 ⟨r5, rfl, h⟩
    change Wp _ _ 78 _ [.inl r5] _ _
    exact w_retz hm167 ⟨⟨_, _, rfl⟩, rfl⟩ rfl h.1 h.2
theorem v_X2_unit_43_123 {d : Nat} {m : dM} {Q : Int32 → dM → Prop} (h : Q (0 : Int32) m) : j_X2_unit_43_123 (d + 1) m Q := by
  refine w_iconst (q := 124) hm167 ⟨⟨_, _, rfl⟩, rfl⟩ iconst_0 ?_
  exact w_retz hm167 ⟨⟨_, _, rfl⟩, rfl⟩ rfl (by decide) h
theorem v_X2_product_43 {d : Nat} {x1 : Int32} {m : dM} {Q : Int32 → dM → Prop} (h : c_X2_unit_43 d x1 m (fun r1 m1 => ((r1.toInt ≠ 0 → j_X2_product_43_12 (d + 1) x1 (0 : Int32) m1 Q) ∧ (r1.toInt = 0 → Q (0 : Int32) m1)))) : c_X2_product_43 (d + 1) x1 m Q := by
  refine w_aload_n (q := 1) hm166 ⟨⟨_, _, rfl⟩, rfl⟩ rfl ?_
  refine w_iload_n (q := 2) hm166 ⟨⟨_, _, rfl⟩, rfl⟩ rfl ?_
  refine w_call (q := 5) (n := 1) (vs := [.inr (.inr (some 43)), .inl x1]) (rest := []) (la := [oR 43, oI x1, none]) hm166 ⟨⟨_, _, rfl⟩, rfl⟩ rfl rfl rfl rfl hm167 rfl rfl (fun _ => ⟨_, _, rfl, rfl⟩) rfl (Wp.mono h ?_)
  rintro _ m1 ⟨r1, rfl, h⟩
  change Wp _ _ 5 _ [.inl r1] _ _
  refine w_if_ne (q := 8) (X := r1.toInt) hm166 ⟨⟨_, _, rfl⟩, rfl⟩ rfl (fun hc => ?_) (fun hc => ?_)
  · have h := h.1 hc
    refine w_iconst (q := 11) hm166 ⟨⟨_, _, rfl⟩, rfl⟩ iconst_0 ?_
    refine w_istore_n (q := 12) (l' := [oR 43, oI x1, oI (0 : Int32), none]) hm166 ⟨⟨_, _, rfl⟩, rfl⟩ rfl rfl rfl ?_
    exact h
  · have h := h.2 hc
    refine w_iconst (q := 9) hm166 ⟨⟨_, _, rfl⟩, rfl⟩ iconst_0 ?_
    exact w_retz hm166 ⟨⟨_, _, rfl⟩, rfl⟩ rfl (by decide) h
theorem v_X2_product_43_12 {d : Nat} {x1 : Int32} {x2 : Int32} {m : dM} {Q : Int32 → dM → Prop} (h : ((400 ≤ x2.toInt → j_X2_product_43_83 (d + 1) m Q) ∧ (x2.toInt < 400 → c_X2_kind_43 d m (fun r1 m1 => ((r1.toInt = 42 → j_X2_product_43_37 (d + 1) x1 x2 m1 Q) ∧ (r1.toInt ≠ 42 → c_X2_kind_43 d m1 (fun r2 m2 => ((r2.toInt ≠ 47 → j_X2_product_43_83 (d + 1) m2 Q) ∧ (r2.toInt = 47 → j_X2_product_43_37 (d + 1) x1 x2 m2 Q))))))))) : j_X2_product_43_12 (d + 1) x1 x2 m Q := by
  refine w_iload_n (q := 13) hm166 ⟨⟨_, _, rfl⟩, rfl⟩ rfl ?_
  refine w_sipush (q := 16) hm166 ⟨⟨_, _, rfl⟩, rfl⟩ sipush_400 ?_
  refine w_icmp_ge (q := 19) (X := x2.toInt) (Y := 400) hm166 ⟨⟨_, _, rfl⟩, rfl⟩ rfl (by decide) (fun hc => ?_) (fun hc => ?_)
  · have h := h.1 hc
    exact Wp.wk [false, false, false, false] h
  · have h := h.2 hc
    refine w_aload_n (q := 20) hm166 ⟨⟨_, _, rfl⟩, rfl⟩ rfl ?_
    refine w_call (q := 23) (n := 0) (vs := [.inr (.inr (some 43))]) (rest := []) (la := [oR 43]) hm166 ⟨⟨_, _, rfl⟩, rfl⟩ rfl rfl rfl rfl hm157 rfl rfl (fun _ => ⟨_, _, rfl, rfl⟩) rfl (Wp.mono h ?_)
    rintro _ m1 ⟨r1, rfl, h⟩
    change Wp _ _ 23 _ [.inl r1] _ _
    refine w_bipush (q := 25) hm166 ⟨⟨_, _, rfl⟩, rfl⟩ bipush_42 ?_
    refine w_icmp_eq (q := 28) (X := r1.toInt) (Y := 42) hm166 ⟨⟨_, _, rfl⟩, rfl⟩ rfl (by decide) (fun hc => ?_) (fun hc => ?_)
    · have h := h.1 hc
      exact h
    · have h := h.2 hc
      refine w_aload_n (q := 29) hm166 ⟨⟨_, _, rfl⟩, rfl⟩ rfl ?_
      refine w_call (q := 32) (n := 0) (vs := [.inr (.inr (some 43))]) (rest := []) (la := [oR 43]) hm166 ⟨⟨_, _, rfl⟩, rfl⟩ rfl rfl rfl rfl hm157 rfl rfl (fun _ => ⟨_, _, rfl, rfl⟩) rfl (Wp.mono h ?_)
      rintro _ m2 ⟨r2, rfl, h⟩
      change Wp _ _ 32 _ [.inl r2] _ _
      refine w_bipush (q := 34) hm166 ⟨⟨_, _, rfl⟩, rfl⟩ bipush_47 ?_
      refine w_icmp_ne (q := 37) (X := r2.toInt) (Y := 47) hm166 ⟨⟨_, _, rfl⟩, rfl⟩ rfl (by decide) (fun hc => ?_) (fun hc => ?_)
      · have h := h.1 hc
        exact Wp.wk [false, false, false, false] h
      · have h := h.2 hc
        exact h
theorem v_X2_product_43_37 {d : Nat} {x1 : Int32} {x2 : Int32} {m : dM} {Q : Int32 → dM → Prop} (h : c_X2_kind_43 d m (fun r1 m1 => ((r1.toInt ≠ 42 → c_X2_step_43 d m1 (fun r2 m2 => ((r2.toInt = 0 → j_X2_product_43_67 (d + 1) m2 Q) ∧ (r2.toInt ≠ 0 → c_X2_unit_43 d x1 m2 (fun r3 m3 => ((r3.toInt ≠ 0 → c_X4_put_29 d (3 : Int32) m3 (fun m4 => j_X2_product_43_12 (d + 1) x1 (x2 + (1 : Int32)) m4 Q)) ∧ (r3.toInt = 0 → j_X2_product_43_67 (d + 1) m3 Q))))))) ∧ (r1.toInt = 42 → c_X2_step_43 d m1 (fun r5 m5 => ((r5.toInt = 0 → j_X2_product_43_67 (d + 1) m5 Q) ∧ (r5.toInt ≠ 0 → c_X2_unit_43 d x1 m5 (fun r6 m6 => ((r6.toInt ≠ 0 → c_X4_put_29 d (2 : Int32) m6 (fun m7 => j_X2_product_43_12 (d + 1) x1 (x2 + (1 : Int32)) m7 Q)) ∧ (r6.toInt = 0 → j_X2_product_43_67 (d + 1) m6 Q)))))))))) : j_X2_product_43_37 (d + 1) x1 x2 m Q := by
  refine w_aload_n (q := 38) hm166 ⟨⟨_, _, rfl⟩, rfl⟩ rfl ?_
  refine w_call (q := 41) (n := 0) (vs := [.inr (.inr (some 43))]) (rest := []) (la := [oR 43]) hm166 ⟨⟨_, _, rfl⟩, rfl⟩ rfl rfl rfl rfl hm157 rfl rfl (fun _ => ⟨_, _, rfl, rfl⟩) rfl (Wp.mono h ?_)
  rintro _ m1 ⟨r1, rfl, h⟩
  change Wp _ _ 41 _ [.inl r1] _ _
  refine w_bipush (q := 43) hm166 ⟨⟨_, _, rfl⟩, rfl⟩ bipush_42 ?_
  refine w_icmp_ne (q := 46) (X := r1.toInt) (Y := 42) hm166 ⟨⟨_, _, rfl⟩, rfl⟩ rfl (by decide) (fun hc => ?_) (fun hc => ?_)
  · have h := h.1 hc
    refine w_iconst (q := 51) hm166 ⟨⟨_, _, rfl⟩, rfl⟩ iconst_3 ?_
    refine w_istore_n (q := 52) (l' := [oR 43, oI x1, oI x2, oI (3 : Int32)]) hm166 ⟨⟨_, _, rfl⟩, rfl⟩ rfl rfl rfl ?_
    refine w_aload_n (q := 53) hm166 ⟨⟨_, _, rfl⟩, rfl⟩ rfl ?_
    refine w_call (q := 56) (n := 0) (vs := [.inr (.inr (some 43))]) (rest := []) (la := [oR 43]) hm166 ⟨⟨_, _, rfl⟩, rfl⟩ rfl rfl rfl rfl hm159 rfl rfl (fun _ => ⟨_, _, rfl, rfl⟩) rfl (Wp.mono h ?_)
    rintro _ m2 ⟨r2, rfl, h⟩
    change Wp _ _ 56 _ [.inl r2] _ _
    refine w_if_eq (q := 59) (X := r2.toInt) hm166 ⟨⟨_, _, rfl⟩, rfl⟩ rfl (fun hc => ?_) (fun hc => ?_)
    · have h := h.1 hc
      exact Wp.wk [false, false, false, false] h
    · have h := h.2 hc
      refine w_aload_n (q := 60) hm166 ⟨⟨_, _, rfl⟩, rfl⟩ rfl ?_
      refine w_iload_n (q := 61) hm166 ⟨⟨_, _, rfl⟩, rfl⟩ rfl ?_
      refine w_call (q := 64) (n := 1) (vs := [.inr (.inr (some 43)), .inl x1]) (rest := []) (la := [oR 43, oI x1, none]) hm166 ⟨⟨_, _, rfl⟩, rfl⟩ rfl rfl rfl rfl hm167 rfl rfl (fun _ => ⟨_, _, rfl, rfl⟩) rfl (Wp.mono h ?_)
      rintro _ m3 ⟨r3, rfl, h⟩
      change Wp _ _ 64 _ [.inl r3] _ _
      refine w_if_ne (q := 67) (X := r3.toInt) hm166 ⟨⟨_, _, rfl⟩, rfl⟩ rfl (fun hc => ?_) (fun hc => ?_)
      · have h := h.1 hc
        refine w_aload_n (q := 70) hm166 ⟨⟨_, _, rfl⟩, rfl⟩ rfl ?_
        refine w_getr (q := 73) hm166 ⟨⟨_, _, rfl⟩, rfl⟩ rfl ?_
        refine w_iload_n (q := 74) hm166 ⟨⟨_, _, rfl⟩, rfl⟩ rfl ?_
        refine w_call (q := 77) (n := 0) (vs := [.inr (.inr (some 29)), .inl (3 : Int32)]) (rest := []) (la := [oR 29, oI (3 : Int32)]) hm166 ⟨⟨_, _, rfl⟩, rfl⟩ rfl rfl rfl rfl hm179 rfl rfl (fun _ => ⟨_, _, rfl, rfl⟩) rfl (Wp.mono h ?_)
        rintro _ m4 ⟨rfl, h⟩
        change Wp _ _ 77 _ [] _ _
        refine w_iinc (q := 80) (l' := [oR 43, oI x1, oI (x2 + (1 : Int32)), oI (3 : Int32)]) hm166 ⟨⟨_, _, rfl⟩, rfl⟩ rfl rfl rfl iconst_1 rfl ?_
        refine w_goto (q := 12) hm166 ⟨_, _, rfl⟩ ?_
        exact Wp.wk [true, true, true, false] h
      · have h := h.2 hc
        exact Wp.wk [false, false, false, false] h
  · have h := h.2 hc
    refine w_iconst (q := 47) hm166 ⟨⟨_, _, rfl⟩, rfl⟩ iconst_2 ?_
    refine w_goto (q := 51) hm166 ⟨_, _, rfl⟩ ?_
    refine w_istore_n (q := 52) (l' := [oR 43, oI x1, oI x2, oI (2 : Int32)]) hm166 ⟨⟨_, _, rfl⟩, rfl⟩ rfl rfl rfl ?_
    refine w_aload_n (q := 53) hm166 ⟨⟨_, _, rfl⟩, rfl⟩ rfl ?_
    refine w_call (q := 56) (n := 0) (vs := [.inr (.inr (some 43))]) (rest := []) (la := [oR 43]) hm166 ⟨⟨_, _, rfl⟩, rfl⟩ rfl rfl rfl rfl hm159 rfl rfl (fun _ => ⟨_, _, rfl, rfl⟩) rfl (Wp.mono h ?_)
    rintro _ m5 ⟨r5, rfl, h⟩
    change Wp _ _ 56 _ [.inl r5] _ _
    refine w_if_eq (q := 59) (X := r5.toInt) hm166 ⟨⟨_, _, rfl⟩, rfl⟩ rfl (fun hc => ?_) (fun hc => ?_)
    · have h := h.1 hc
      exact Wp.wk [false, false, false, false] h
    · have h := h.2 hc
      refine w_aload_n (q := 60) hm166 ⟨⟨_, _, rfl⟩, rfl⟩ rfl ?_
      refine w_iload_n (q := 61) hm166 ⟨⟨_, _, rfl⟩, rfl⟩ rfl ?_
      refine w_call (q := 64) (n := 1) (vs := [.inr (.inr (some 43)), .inl x1]) (rest := []) (la := [oR 43, oI x1, none]) hm166 ⟨⟨_, _, rfl⟩, rfl⟩ rfl rfl rfl rfl hm167 rfl rfl (fun _ => ⟨_, _, rfl, rfl⟩) rfl (Wp.mono h ?_)
      rintro _ m6 ⟨r6, rfl, h⟩
      change Wp _ _ 64 _ [.inl r6] _ _
      refine w_if_ne (q := 67) (X := r6.toInt) hm166 ⟨⟨_, _, rfl⟩, rfl⟩ rfl (fun hc => ?_) (fun hc => ?_)
      · have h := h.1 hc
        refine w_aload_n (q := 70) hm166 ⟨⟨_, _, rfl⟩, rfl⟩ rfl ?_
        refine w_getr (q := 73) hm166 ⟨⟨_, _, rfl⟩, rfl⟩ rfl ?_
        refine w_iload_n (q := 74) hm166 ⟨⟨_, _, rfl⟩, rfl⟩ rfl ?_
        refine w_call (q := 77) (n := 0) (vs := [.inr (.inr (some 29)), .inl (2 : Int32)]) (rest := []) (la := [oR 29, oI (2 : Int32)]) hm166 ⟨⟨_, _, rfl⟩, rfl⟩ rfl rfl rfl rfl hm179 rfl rfl (fun _ => ⟨_, _, rfl, rfl⟩) rfl (Wp.mono h ?_)
        rintro _ m7 ⟨rfl, h⟩
        change Wp _ _ 77 _ [] _ _
        refine w_iinc (q := 80) (l' := [oR 43, oI x1, oI (x2 + (1 : Int32)), oI (2 : Int32)]) hm166 ⟨⟨_, _, rfl⟩, rfl⟩ rfl rfl rfl iconst_1 rfl ?_
        refine w_goto (q := 12) hm166 ⟨_, _, rfl⟩ ?_
        exact Wp.wk [true, true, true, false] h
      · have h := h.2 hc
        exact Wp.wk [false, false, false, false] h
theorem v_X2_product_43_67 {d : Nat} {m : dM} {Q : Int32 → dM → Prop} (h : Q (0 : Int32) m) : j_X2_product_43_67 (d + 1) m Q := by
  refine w_iconst (q := 68) hm166 ⟨⟨_, _, rfl⟩, rfl⟩ iconst_0 ?_
  exact w_retz hm166 ⟨⟨_, _, rfl⟩, rfl⟩ rfl (by decide) h
theorem v_X2_product_43_83 {d : Nat} {m : dM} {Q : Int32 → dM → Prop} (h : Q (1 : Int32) m) : j_X2_product_43_83 (d + 1) m Q := by
  refine w_iconst (q := 84) hm166 ⟨⟨_, _, rfl⟩, rfl⟩ iconst_1 ?_
  exact w_retz hm166 ⟨⟨_, _, rfl⟩, rfl⟩ rfl (by decide) h
theorem v_X2_sum_43 {d : Nat} {x1 : Int32} {m : dM} {Q : Int32 → dM → Prop} (h : c_X2_product_43 d x1 m (fun r1 m1 => ((r1.toInt ≠ 0 → j_X2_sum_43_12 (d + 1) x1 (0 : Int32) m1 Q) ∧ (r1.toInt = 0 → Q (0 : Int32) m1)))) : c_X2_sum_43 (d + 1) x1 m Q := by
  refine w_aload_n (q := 1) hm165 ⟨⟨_, _, rfl⟩, rfl⟩ rfl ?_
  refine w_iload_n (q := 2) hm165 ⟨⟨_, _, rfl⟩, rfl⟩ rfl ?_
  refine w_call (q := 5) (n := 2) (vs := [.inr (.inr (some 43)), .inl x1]) (rest := []) (la := [oR 43, oI x1, none, none]) hm165 ⟨⟨_, _, rfl⟩, rfl⟩ rfl rfl rfl rfl hm166 rfl rfl (fun _ => ⟨_, _, rfl, rfl⟩) rfl (Wp.mono h ?_)
  rintro _ m1 ⟨r1, rfl, h⟩
  change Wp _ _ 5 _ [.inl r1] _ _
  refine w_if_ne (q := 8) (X := r1.toInt) hm165 ⟨⟨_, _, rfl⟩, rfl⟩ rfl (fun hc => ?_) (fun hc => ?_)
  · have h := h.1 hc
    refine w_iconst (q := 11) hm165 ⟨⟨_, _, rfl⟩, rfl⟩ iconst_0 ?_
    refine w_istore_n (q := 12) (l' := [oR 43, oI x1, oI (0 : Int32), none]) hm165 ⟨⟨_, _, rfl⟩, rfl⟩ rfl rfl rfl ?_
    exact h
  · have h := h.2 hc
    refine w_iconst (q := 9) hm165 ⟨⟨_, _, rfl⟩, rfl⟩ iconst_0 ?_
    exact w_retz hm165 ⟨⟨_, _, rfl⟩, rfl⟩ rfl (by decide) h
theorem v_X2_sum_43_12 {d : Nat} {x1 : Int32} {x2 : Int32} {m : dM} {Q : Int32 → dM → Prop} (h : ((400 ≤ x2.toInt → j_X2_sum_43_83 (d + 1) m Q) ∧ (x2.toInt < 400 → c_X2_kind_43 d m (fun r1 m1 => ((r1.toInt = 43 → j_X2_sum_43_37 (d + 1) x1 x2 m1 Q) ∧ (r1.toInt ≠ 43 → c_X2_kind_43 d m1 (fun r2 m2 => ((r2.toInt ≠ 45 → j_X2_sum_43_83 (d + 1) m2 Q) ∧ (r2.toInt = 45 → j_X2_sum_43_37 (d + 1) x1 x2 m2 Q))))))))) : j_X2_sum_43_12 (d + 1) x1 x2 m Q := by
  refine w_iload_n (q := 13) hm165 ⟨⟨_, _, rfl⟩, rfl⟩ rfl ?_
  refine w_sipush (q := 16) hm165 ⟨⟨_, _, rfl⟩, rfl⟩ sipush_400 ?_
  refine w_icmp_ge (q := 19) (X := x2.toInt) (Y := 400) hm165 ⟨⟨_, _, rfl⟩, rfl⟩ rfl (by decide) (fun hc => ?_) (fun hc => ?_)
  · have h := h.1 hc
    exact Wp.wk [false, false, false, false] h
  · have h := h.2 hc
    refine w_aload_n (q := 20) hm165 ⟨⟨_, _, rfl⟩, rfl⟩ rfl ?_
    refine w_call (q := 23) (n := 0) (vs := [.inr (.inr (some 43))]) (rest := []) (la := [oR 43]) hm165 ⟨⟨_, _, rfl⟩, rfl⟩ rfl rfl rfl rfl hm157 rfl rfl (fun _ => ⟨_, _, rfl, rfl⟩) rfl (Wp.mono h ?_)
    rintro _ m1 ⟨r1, rfl, h⟩
    change Wp _ _ 23 _ [.inl r1] _ _
    refine w_bipush (q := 25) hm165 ⟨⟨_, _, rfl⟩, rfl⟩ bipush_43 ?_
    refine w_icmp_eq (q := 28) (X := r1.toInt) (Y := 43) hm165 ⟨⟨_, _, rfl⟩, rfl⟩ rfl (by decide) (fun hc => ?_) (fun hc => ?_)
    · have h := h.1 hc
      exact h
    · have h := h.2 hc
      refine w_aload_n (q := 29) hm165 ⟨⟨_, _, rfl⟩, rfl⟩ rfl ?_
      refine w_call (q := 32) (n := 0) (vs := [.inr (.inr (some 43))]) (rest := []) (la := [oR 43]) hm165 ⟨⟨_, _, rfl⟩, rfl⟩ rfl rfl rfl rfl hm157 rfl rfl (fun _ => ⟨_, _, rfl, rfl⟩) rfl (Wp.mono h ?_)
      rintro _ m2 ⟨r2, rfl, h⟩
      change Wp _ _ 32 _ [.inl r2] _ _
      refine w_bipush (q := 34) hm165 ⟨⟨_, _, rfl⟩, rfl⟩ bipush_45 ?_
      refine w_icmp_ne (q := 37) (X := r2.toInt) (Y := 45) hm165 ⟨⟨_, _, rfl⟩, rfl⟩ rfl (by decide) (fun hc => ?_) (fun hc => ?_)
      · have h := h.1 hc
        exact Wp.wk [false, false, false, false] h
      · have h := h.2 hc
        exact h
theorem v_X2_sum_43_37 {d : Nat} {x1 : Int32} {x2 : Int32} {m : dM} {Q : Int32 → dM → Prop} (h : c_X2_kind_43 d m (fun r1 m1 => ((r1.toInt ≠ 43 → c_X2_step_43 d m1 (fun r2 m2 => ((r2.toInt = 0 → j_X2_sum_43_67 (d + 1) m2 Q) ∧ (r2.toInt ≠ 0 → c_X2_product_43 d x1 m2 (fun r3 m3 => ((r3.toInt ≠ 0 → c_X4_put_29 d (1 : Int32) m3 (fun m4 => j_X2_sum_43_12 (d + 1) x1 (x2 + (1 : Int32)) m4 Q)) ∧ (r3.toInt = 0 → j_X2_sum_43_67 (d + 1) m3 Q))))))) ∧ (r1.toInt = 43 → c_X2_step_43 d m1 (fun r5 m5 => ((r5.toInt = 0 → j_X2_sum_43_67 (d + 1) m5 Q) ∧ (r5.toInt ≠ 0 → c_X2_product_43 d x1 m5 (fun r6 m6 => ((r6.toInt ≠ 0 → c_X4_put_29 d (0 : Int32) m6 (fun m7 => j_X2_sum_43_12 (d + 1) x1 (x2 + (1 : Int32)) m7 Q)) ∧ (r6.toInt = 0 → j_X2_sum_43_67 (d + 1) m6 Q)))))))))) : j_X2_sum_43_37 (d + 1) x1 x2 m Q := by
  refine w_aload_n (q := 38) hm165 ⟨⟨_, _, rfl⟩, rfl⟩ rfl ?_
  refine w_call (q := 41) (n := 0) (vs := [.inr (.inr (some 43))]) (rest := []) (la := [oR 43]) hm165 ⟨⟨_, _, rfl⟩, rfl⟩ rfl rfl rfl rfl hm157 rfl rfl (fun _ => ⟨_, _, rfl, rfl⟩) rfl (Wp.mono h ?_)
  rintro _ m1 ⟨r1, rfl, h⟩
  change Wp _ _ 41 _ [.inl r1] _ _
  refine w_bipush (q := 43) hm165 ⟨⟨_, _, rfl⟩, rfl⟩ bipush_43 ?_
  refine w_icmp_ne (q := 46) (X := r1.toInt) (Y := 43) hm165 ⟨⟨_, _, rfl⟩, rfl⟩ rfl (by decide) (fun hc => ?_) (fun hc => ?_)
  · have h := h.1 hc
    refine w_iconst (q := 51) hm165 ⟨⟨_, _, rfl⟩, rfl⟩ iconst_1 ?_
    refine w_istore_n (q := 52) (l' := [oR 43, oI x1, oI x2, oI (1 : Int32)]) hm165 ⟨⟨_, _, rfl⟩, rfl⟩ rfl rfl rfl ?_
    refine w_aload_n (q := 53) hm165 ⟨⟨_, _, rfl⟩, rfl⟩ rfl ?_
    refine w_call (q := 56) (n := 0) (vs := [.inr (.inr (some 43))]) (rest := []) (la := [oR 43]) hm165 ⟨⟨_, _, rfl⟩, rfl⟩ rfl rfl rfl rfl hm159 rfl rfl (fun _ => ⟨_, _, rfl, rfl⟩) rfl (Wp.mono h ?_)
    rintro _ m2 ⟨r2, rfl, h⟩
    change Wp _ _ 56 _ [.inl r2] _ _
    refine w_if_eq (q := 59) (X := r2.toInt) hm165 ⟨⟨_, _, rfl⟩, rfl⟩ rfl (fun hc => ?_) (fun hc => ?_)
    · have h := h.1 hc
      exact Wp.wk [false, false, false, false] h
    · have h := h.2 hc
      refine w_aload_n (q := 60) hm165 ⟨⟨_, _, rfl⟩, rfl⟩ rfl ?_
      refine w_iload_n (q := 61) hm165 ⟨⟨_, _, rfl⟩, rfl⟩ rfl ?_
      refine w_call (q := 64) (n := 2) (vs := [.inr (.inr (some 43)), .inl x1]) (rest := []) (la := [oR 43, oI x1, none, none]) hm165 ⟨⟨_, _, rfl⟩, rfl⟩ rfl rfl rfl rfl hm166 rfl rfl (fun _ => ⟨_, _, rfl, rfl⟩) rfl (Wp.mono h ?_)
      rintro _ m3 ⟨r3, rfl, h⟩
      change Wp _ _ 64 _ [.inl r3] _ _
      refine w_if_ne (q := 67) (X := r3.toInt) hm165 ⟨⟨_, _, rfl⟩, rfl⟩ rfl (fun hc => ?_) (fun hc => ?_)
      · have h := h.1 hc
        refine w_aload_n (q := 70) hm165 ⟨⟨_, _, rfl⟩, rfl⟩ rfl ?_
        refine w_getr (q := 73) hm165 ⟨⟨_, _, rfl⟩, rfl⟩ rfl ?_
        refine w_iload_n (q := 74) hm165 ⟨⟨_, _, rfl⟩, rfl⟩ rfl ?_
        refine w_call (q := 77) (n := 0) (vs := [.inr (.inr (some 29)), .inl (1 : Int32)]) (rest := []) (la := [oR 29, oI (1 : Int32)]) hm165 ⟨⟨_, _, rfl⟩, rfl⟩ rfl rfl rfl rfl hm179 rfl rfl (fun _ => ⟨_, _, rfl, rfl⟩) rfl (Wp.mono h ?_)
        rintro _ m4 ⟨rfl, h⟩
        change Wp _ _ 77 _ [] _ _
        refine w_iinc (q := 80) (l' := [oR 43, oI x1, oI (x2 + (1 : Int32)), oI (1 : Int32)]) hm165 ⟨⟨_, _, rfl⟩, rfl⟩ rfl rfl rfl iconst_1 rfl ?_
        refine w_goto (q := 12) hm165 ⟨_, _, rfl⟩ ?_
        exact Wp.wk [true, true, true, false] h
      · have h := h.2 hc
        exact Wp.wk [false, false, false, false] h
  · have h := h.2 hc
    refine w_iconst (q := 47) hm165 ⟨⟨_, _, rfl⟩, rfl⟩ iconst_0 ?_
    refine w_goto (q := 51) hm165 ⟨_, _, rfl⟩ ?_
    refine w_istore_n (q := 52) (l' := [oR 43, oI x1, oI x2, oI (0 : Int32)]) hm165 ⟨⟨_, _, rfl⟩, rfl⟩ rfl rfl rfl ?_
    refine w_aload_n (q := 53) hm165 ⟨⟨_, _, rfl⟩, rfl⟩ rfl ?_
    refine w_call (q := 56) (n := 0) (vs := [.inr (.inr (some 43))]) (rest := []) (la := [oR 43]) hm165 ⟨⟨_, _, rfl⟩, rfl⟩ rfl rfl rfl rfl hm159 rfl rfl (fun _ => ⟨_, _, rfl, rfl⟩) rfl (Wp.mono h ?_)
    rintro _ m5 ⟨r5, rfl, h⟩
    change Wp _ _ 56 _ [.inl r5] _ _
    refine w_if_eq (q := 59) (X := r5.toInt) hm165 ⟨⟨_, _, rfl⟩, rfl⟩ rfl (fun hc => ?_) (fun hc => ?_)
    · have h := h.1 hc
      exact Wp.wk [false, false, false, false] h
    · have h := h.2 hc
      refine w_aload_n (q := 60) hm165 ⟨⟨_, _, rfl⟩, rfl⟩ rfl ?_
      refine w_iload_n (q := 61) hm165 ⟨⟨_, _, rfl⟩, rfl⟩ rfl ?_
      refine w_call (q := 64) (n := 2) (vs := [.inr (.inr (some 43)), .inl x1]) (rest := []) (la := [oR 43, oI x1, none, none]) hm165 ⟨⟨_, _, rfl⟩, rfl⟩ rfl rfl rfl rfl hm166 rfl rfl (fun _ => ⟨_, _, rfl, rfl⟩) rfl (Wp.mono h ?_)
      rintro _ m6 ⟨r6, rfl, h⟩
      change Wp _ _ 64 _ [.inl r6] _ _
      refine w_if_ne (q := 67) (X := r6.toInt) hm165 ⟨⟨_, _, rfl⟩, rfl⟩ rfl (fun hc => ?_) (fun hc => ?_)
      · have h := h.1 hc
        refine w_aload_n (q := 70) hm165 ⟨⟨_, _, rfl⟩, rfl⟩ rfl ?_
        refine w_getr (q := 73) hm165 ⟨⟨_, _, rfl⟩, rfl⟩ rfl ?_
        refine w_iload_n (q := 74) hm165 ⟨⟨_, _, rfl⟩, rfl⟩ rfl ?_
        refine w_call (q := 77) (n := 0) (vs := [.inr (.inr (some 29)), .inl (0 : Int32)]) (rest := []) (la := [oR 29, oI (0 : Int32)]) hm165 ⟨⟨_, _, rfl⟩, rfl⟩ rfl rfl rfl rfl hm179 rfl rfl (fun _ => ⟨_, _, rfl, rfl⟩) rfl (Wp.mono h ?_)
        rintro _ m7 ⟨rfl, h⟩
        change Wp _ _ 77 _ [] _ _
        refine w_iinc (q := 80) (l' := [oR 43, oI x1, oI (x2 + (1 : Int32)), oI (0 : Int32)]) hm165 ⟨⟨_, _, rfl⟩, rfl⟩ rfl rfl rfl iconst_1 rfl ?_
        refine w_goto (q := 12) hm165 ⟨_, _, rfl⟩ ?_
        exact Wp.wk [true, true, true, false] h
      · have h := h.2 hc
        exact Wp.wk [false, false, false, false] h
theorem v_X2_sum_43_67 {d : Nat} {m : dM} {Q : Int32 → dM → Prop} (h : Q (0 : Int32) m) : j_X2_sum_43_67 (d + 1) m Q := by
  refine w_iconst (q := 68) hm165 ⟨⟨_, _, rfl⟩, rfl⟩ iconst_0 ?_
  exact w_retz hm165 ⟨⟨_, _, rfl⟩, rfl⟩ rfl (by decide) h
theorem v_X2_sum_43_83 {d : Nat} {m : dM} {Q : Int32 → dM → Prop} (h : Q (1 : Int32) m) : j_X2_sum_43_83 (d + 1) m Q := by
  refine w_iconst (q := 84) hm165 ⟨⟨_, _, rfl⟩, rfl⟩ iconst_1 ?_
  exact w_retz hm165 ⟨⟨_, _, rfl⟩, rfl⟩ rfl (by decide) h
theorem v_X2_endPiece_43 {d : Nat} {x1 : Int32} {x2 : Int32} {m : dM} {Q : Int32 → dM → Prop} (h : c_X4_endPiece_29 d x1 m (fun m1 => c_X2_need_43 d x2 m1 (fun r2 m2 => (r2 = 0 ∨ r2 = 1) ∧ Q r2 m2))) : c_X2_endPiece_43 (d + 1) x1 x2 m Q := by
  refine w_aload_n (q := 1) hm164 ⟨⟨_, _, rfl⟩, rfl⟩ rfl ?_
  refine w_getr (q := 4) hm164 ⟨⟨_, _, rfl⟩, rfl⟩ rfl ?_
  refine w_iload_n (q := 5) hm164 ⟨⟨_, _, rfl⟩, rfl⟩ rfl ?_
  refine w_call (q := 8) (n := 0) (vs := [.inr (.inr (some 29)), .inl x1]) (rest := []) (la := [oR 29, oI x1]) hm164 ⟨⟨_, _, rfl⟩, rfl⟩ rfl rfl rfl rfl hm180 rfl rfl (fun _ => ⟨_, _, rfl, rfl⟩) rfl (Wp.mono h ?_)
  rintro _ m1 ⟨rfl, h⟩
  change Wp _ _ 8 _ [] _ _
  refine w_aload_n (q := 9) hm164 ⟨⟨_, _, rfl⟩, rfl⟩ rfl ?_
  refine w_iload_n (q := 10) hm164 ⟨⟨_, _, rfl⟩, rfl⟩ rfl ?_
  refine w_call (q := 13) (n := 0) (vs := [.inr (.inr (some 43)), .inl x2]) (rest := []) (la := [oR 43, oI x2]) hm164 ⟨⟨_, _, rfl⟩, rfl⟩ rfl rfl rfl rfl hm160 rfl rfl (fun _ => ⟨_, _, rfl, rfl⟩) rfl (Wp.mono h ?_)
  rintro _ m2 ⟨r2, rfl, h⟩
  change Wp _ _ 13 _ [.inl r2] _ _
  exact w_retz hm164 ⟨⟨_, _, rfl⟩, rfl⟩ rfl h.1 h.2
theorem v_X2_checkLaw_43 {d : Nat} {x1 : Int32} {m : dM} {Q : Int32 → dM → Prop} (h : c_X4_begin_29 d x1 m (fun m1 => c_X2_step_43 d m1 (fun r2 m2 => ((r2.toInt = 0 → j_X2_checkLaw_43_24 (d + 1) m2 Q) ∧ (r2.toInt ≠ 0 → c_X2_need_43 d (61 : Int32) m2 (fun r3 m3 => ((r3.toInt ≠ 0 → j_X2_checkLaw_43_28 (d + 1) x1 (0 : Int32) m3 Q) ∧ (r3.toInt = 0 → j_X2_checkLaw_43_24 (d + 1) m3 Q)))))))) : c_X2_checkLaw_43 (d + 1) x1 m Q := by
  refine w_aload_n (q := 1) hm163 ⟨⟨_, _, rfl⟩, rfl⟩ rfl ?_
  refine w_getr (q := 4) hm163 ⟨⟨_, _, rfl⟩, rfl⟩ rfl ?_
  refine w_iload_n (q := 5) hm163 ⟨⟨_, _, rfl⟩, rfl⟩ rfl ?_
  refine w_call (q := 8) (n := 0) (vs := [.inr (.inr (some 29)), .inl x1]) (rest := []) (la := [oR 29, oI x1]) hm163 ⟨⟨_, _, rfl⟩, rfl⟩ rfl rfl rfl rfl hm178 rfl rfl (fun _ => ⟨_, _, rfl, rfl⟩) rfl (Wp.mono h ?_)
  rintro _ m1 ⟨rfl, h⟩
  change Wp _ _ 8 _ [] _ _
  refine w_aload_n (q := 9) hm163 ⟨⟨_, _, rfl⟩, rfl⟩ rfl ?_
  refine w_call (q := 12) (n := 0) (vs := [.inr (.inr (some 43))]) (rest := []) (la := [oR 43]) hm163 ⟨⟨_, _, rfl⟩, rfl⟩ rfl rfl rfl rfl hm159 rfl rfl (fun _ => ⟨_, _, rfl, rfl⟩) rfl (Wp.mono h ?_)
  rintro _ m2 ⟨r2, rfl, h⟩
  change Wp _ _ 12 _ [.inl r2] _ _
  refine w_if_eq (q := 15) (X := r2.toInt) hm163 ⟨⟨_, _, rfl⟩, rfl⟩ rfl (fun hc => ?_) (fun hc => ?_)
  · have h := h.1 hc
    exact Wp.wk [false, false, false] h
  · have h := h.2 hc
    refine w_aload_n (q := 16) hm163 ⟨⟨_, _, rfl⟩, rfl⟩ rfl ?_
    refine w_bipush (q := 18) hm163 ⟨⟨_, _, rfl⟩, rfl⟩ bipush_61 ?_
    refine w_call (q := 21) (n := 0) (vs := [.inr (.inr (some 43)), .inl (61 : Int32)]) (rest := []) (la := [oR 43, oI (61 : Int32)]) hm163 ⟨⟨_, _, rfl⟩, rfl⟩ rfl rfl rfl rfl hm160 rfl rfl (fun _ => ⟨_, _, rfl, rfl⟩) rfl (Wp.mono h ?_)
    rintro _ m3 ⟨r3, rfl, h⟩
    change Wp _ _ 21 _ [.inl r3] _ _
    refine w_if_ne (q := 24) (X := r3.toInt) hm163 ⟨⟨_, _, rfl⟩, rfl⟩ rfl (fun hc => ?_) (fun hc => ?_)
    · have h := h.1 hc
      refine w_iconst (q := 27) hm163 ⟨⟨_, _, rfl⟩, rfl⟩ iconst_0 ?_
      refine w_istore_n (q := 28) (l' := [oR 43, oI x1, oI (0 : Int32)]) hm163 ⟨⟨_, _, rfl⟩, rfl⟩ rfl rfl rfl ?_
      exact h
    · have h := h.2 hc
      exact Wp.wk [false, false, false] h
theorem v_X2_checkLaw_43_24 {d : Nat} {m : dM} {Q : Int32 → dM → Prop} (h : Q (0 : Int32) m) : j_X2_checkLaw_43_24 (d + 1) m Q := by
  refine w_iconst (q := 25) hm163 ⟨⟨_, _, rfl⟩, rfl⟩ iconst_0 ?_
  exact w_retz hm163 ⟨⟨_, _, rfl⟩, rfl⟩ rfl (by decide) h
theorem v_X2_checkLaw_43_28 {d : Nat} {x1 : Int32} {x2 : Int32} {m : dM} {Q : Int32 → dM → Prop} (h : ((4 < x2.toInt → j_X2_checkLaw_43_122 (d + 1) x1 m Q) ∧ (x2.toInt ≤ 4 → c_X2_kind_43 d m (fun r1 m1 => ((r1.toInt ≠ 10 → j_X2_checkLaw_43_122 (d + 1) x1 m1 Q) ∧ (r1.toInt = 10 → ((x2.toInt ≠ 4 → c_X2_step_43 d m1 (fun r2 m2 => ((r2.toInt = 0 → j_X2_checkLaw_43_114 (d + 1) m2 Q) ∧ (r2.toInt ≠ 0 → c_X2_sum_43 d (0 : Int32) m2 (fun r3 m3 => ((r3.toInt = 0 → j_X2_checkLaw_43_114 (d + 1) m3 Q) ∧ (r3.toInt ≠ 0 → c_X2_endPiece_43 d x1 (60 : Int32) m3 (fun r4 m4 => ((r4.toInt = 0 → j_X2_checkLaw_43_114 (d + 1) m4 Q) ∧ (r4.toInt ≠ 0 → c_X2_sum_43 d (0 : Int32) m4 (fun r5 m5 => ((r5.toInt = 0 → j_X2_checkLaw_43_114 (d + 1) m5 Q) ∧ (r5.toInt ≠ 0 → c_X2_endPiece_43 d x1 (11 : Int32) m5 (fun r6 m6 => ((r6.toInt = 0 → j_X2_checkLaw_43_114 (d + 1) m6 Q) ∧ (r6.toInt ≠ 0 → c_X2_sum_43 d (0 : Int32) m6 (fun r7 m7 => ((r7.toInt = 0 → j_X2_checkLaw_43_114 (d + 1) m7 Q) ∧ (r7.toInt ≠ 0 → c_X2_endPiece_43 d x1 (12 : Int32) m7 (fun r8 m8 => ((r8.toInt ≠ 0 → j_X2_checkLaw_43_28 (d + 1) x1 (x2 + (1 : Int32)) m8 Q) ∧ (r8.toInt = 0 → j_X2_checkLaw_43_114 (d + 1) m8 Q)))))))))))))))))))))) ∧ (x2.toInt = 4 → c_X2_fail_43 d (2 : Int32) m1 (fun r9 m9 => (r9 = 0 ∨ r9 = 1) ∧ Q r9 m9))))))))) : j_X2_checkLaw_43_28 (d + 1) x1 x2 m Q := by
  refine w_iload_n (q := 29) hm163 ⟨⟨_, _, rfl⟩, rfl⟩ rfl ?_
  refine w_iconst (q := 30) hm163 ⟨⟨_, _, rfl⟩, rfl⟩ iconst_4 ?_
  refine w_icmp_gt (q := 33) (X := x2.toInt) (Y := 4) hm163 ⟨⟨_, _, rfl⟩, rfl⟩ rfl (by decide) (fun hc => ?_) (fun hc => ?_)
  · have h := h.1 hc
    exact Wp.wk [true, true, false] h
  · have h := h.2 hc
    refine w_aload_n (q := 34) hm163 ⟨⟨_, _, rfl⟩, rfl⟩ rfl ?_
    refine w_call (q := 37) (n := 0) (vs := [.inr (.inr (some 43))]) (rest := []) (la := [oR 43]) hm163 ⟨⟨_, _, rfl⟩, rfl⟩ rfl rfl rfl rfl hm157 rfl rfl (fun _ => ⟨_, _, rfl, rfl⟩) rfl (Wp.mono h ?_)
    rintro _ m1 ⟨r1, rfl, h⟩
    change Wp _ _ 37 _ [.inl r1] _ _
    refine w_bipush (q := 39) hm163 ⟨⟨_, _, rfl⟩, rfl⟩ bipush_10 ?_
    refine w_icmp_ne (q := 42) (X := r1.toInt) (Y := 10) hm163 ⟨⟨_, _, rfl⟩, rfl⟩ rfl (by decide) (fun hc => ?_) (fun hc => ?_)
    · have h := h.1 hc
      exact Wp.wk [true, true, false] h
    · have h := h.2 hc
      refine w_iload_n (q := 43) hm163 ⟨⟨_, _, rfl⟩, rfl⟩ rfl ?_
      refine w_iconst (q := 44) hm163 ⟨⟨_, _, rfl⟩, rfl⟩ iconst_4 ?_
      refine w_icmp_ne (q := 47) (X := x2.toInt) (Y := 4) hm163 ⟨⟨_, _, rfl⟩, rfl⟩ rfl (by decide) (fun hc => ?_) (fun hc => ?_)
      · have h := h.1 hc
        refine w_aload_n (q := 54) hm163 ⟨⟨_, _, rfl⟩, rfl⟩ rfl ?_
        refine w_call (q := 57) (n := 0) (vs := [.inr (.inr (some 43))]) (rest := []) (la := [oR 43]) hm163 ⟨⟨_, _, rfl⟩, rfl⟩ rfl rfl rfl rfl hm159 rfl rfl (fun _ => ⟨_, _, rfl, rfl⟩) rfl (Wp.mono h ?_)
        rintro _ m2 ⟨r2, rfl, h⟩
        change Wp _ _ 57 _ [.inl r2] _ _
        refine w_if_eq (q := 60) (X := r2.toInt) hm163 ⟨⟨_, _, rfl⟩, rfl⟩ rfl (fun hc => ?_) (fun hc => ?_)
        · have h := h.1 hc
          exact Wp.wk [false, false, false] h
        · have h := h.2 hc
          refine w_aload_n (q := 61) hm163 ⟨⟨_, _, rfl⟩, rfl⟩ rfl ?_
          refine w_iconst (q := 62) hm163 ⟨⟨_, _, rfl⟩, rfl⟩ iconst_0 ?_
          refine w_call (q := 65) (n := 2) (vs := [.inr (.inr (some 43)), .inl (0 : Int32)]) (rest := []) (la := [oR 43, oI (0 : Int32), none, none]) hm163 ⟨⟨_, _, rfl⟩, rfl⟩ rfl rfl rfl rfl hm165 rfl rfl (fun _ => ⟨_, _, rfl, rfl⟩) rfl (Wp.mono h ?_)
          rintro _ m3 ⟨r3, rfl, h⟩
          change Wp _ _ 65 _ [.inl r3] _ _
          refine w_if_eq (q := 68) (X := r3.toInt) hm163 ⟨⟨_, _, rfl⟩, rfl⟩ rfl (fun hc => ?_) (fun hc => ?_)
          · have h := h.1 hc
            exact Wp.wk [false, false, false] h
          · have h := h.2 hc
            refine w_aload_n (q := 69) hm163 ⟨⟨_, _, rfl⟩, rfl⟩ rfl ?_
            refine w_iload_n (q := 70) hm163 ⟨⟨_, _, rfl⟩, rfl⟩ rfl ?_
            refine w_bipush (q := 72) hm163 ⟨⟨_, _, rfl⟩, rfl⟩ bipush_60 ?_
            refine w_call (q := 75) (n := 0) (vs := [.inr (.inr (some 43)), .inl x1, .inl (60 : Int32)]) (rest := []) (la := [oR 43, oI x1, oI (60 : Int32)]) hm163 ⟨⟨_, _, rfl⟩, rfl⟩ rfl rfl rfl rfl hm164 rfl rfl (fun _ => ⟨_, _, rfl, rfl⟩) rfl (Wp.mono h ?_)
            rintro _ m4 ⟨r4, rfl, h⟩
            change Wp _ _ 75 _ [.inl r4] _ _
            refine w_if_eq (q := 78) (X := r4.toInt) hm163 ⟨⟨_, _, rfl⟩, rfl⟩ rfl (fun hc => ?_) (fun hc => ?_)
            · have h := h.1 hc
              exact Wp.wk [false, false, false] h
            · have h := h.2 hc
              refine w_aload_n (q := 79) hm163 ⟨⟨_, _, rfl⟩, rfl⟩ rfl ?_
              refine w_iconst (q := 80) hm163 ⟨⟨_, _, rfl⟩, rfl⟩ iconst_0 ?_
              refine w_call (q := 83) (n := 2) (vs := [.inr (.inr (some 43)), .inl (0 : Int32)]) (rest := []) (la := [oR 43, oI (0 : Int32), none, none]) hm163 ⟨⟨_, _, rfl⟩, rfl⟩ rfl rfl rfl rfl hm165 rfl rfl (fun _ => ⟨_, _, rfl, rfl⟩) rfl (Wp.mono h ?_)
              rintro _ m5 ⟨r5, rfl, h⟩
              change Wp _ _ 83 _ [.inl r5] _ _
              refine w_if_eq (q := 86) (X := r5.toInt) hm163 ⟨⟨_, _, rfl⟩, rfl⟩ rfl (fun hc => ?_) (fun hc => ?_)
              · have h := h.1 hc
                exact Wp.wk [false, false, false] h
              · have h := h.2 hc
                refine w_aload_n (q := 87) hm163 ⟨⟨_, _, rfl⟩, rfl⟩ rfl ?_
                refine w_iload_n (q := 88) hm163 ⟨⟨_, _, rfl⟩, rfl⟩ rfl ?_
                refine w_bipush (q := 90) hm163 ⟨⟨_, _, rfl⟩, rfl⟩ bipush_11 ?_
                refine w_call (q := 93) (n := 0) (vs := [.inr (.inr (some 43)), .inl x1, .inl (11 : Int32)]) (rest := []) (la := [oR 43, oI x1, oI (11 : Int32)]) hm163 ⟨⟨_, _, rfl⟩, rfl⟩ rfl rfl rfl rfl hm164 rfl rfl (fun _ => ⟨_, _, rfl, rfl⟩) rfl (Wp.mono h ?_)
                rintro _ m6 ⟨r6, rfl, h⟩
                change Wp _ _ 93 _ [.inl r6] _ _
                refine w_if_eq (q := 96) (X := r6.toInt) hm163 ⟨⟨_, _, rfl⟩, rfl⟩ rfl (fun hc => ?_) (fun hc => ?_)
                · have h := h.1 hc
                  exact Wp.wk [false, false, false] h
                · have h := h.2 hc
                  refine w_aload_n (q := 97) hm163 ⟨⟨_, _, rfl⟩, rfl⟩ rfl ?_
                  refine w_iconst (q := 98) hm163 ⟨⟨_, _, rfl⟩, rfl⟩ iconst_0 ?_
                  refine w_call (q := 101) (n := 2) (vs := [.inr (.inr (some 43)), .inl (0 : Int32)]) (rest := []) (la := [oR 43, oI (0 : Int32), none, none]) hm163 ⟨⟨_, _, rfl⟩, rfl⟩ rfl rfl rfl rfl hm165 rfl rfl (fun _ => ⟨_, _, rfl, rfl⟩) rfl (Wp.mono h ?_)
                  rintro _ m7 ⟨r7, rfl, h⟩
                  change Wp _ _ 101 _ [.inl r7] _ _
                  refine w_if_eq (q := 104) (X := r7.toInt) hm163 ⟨⟨_, _, rfl⟩, rfl⟩ rfl (fun hc => ?_) (fun hc => ?_)
                  · have h := h.1 hc
                    exact Wp.wk [false, false, false] h
                  · have h := h.2 hc
                    refine w_aload_n (q := 105) hm163 ⟨⟨_, _, rfl⟩, rfl⟩ rfl ?_
                    refine w_iload_n (q := 106) hm163 ⟨⟨_, _, rfl⟩, rfl⟩ rfl ?_
                    refine w_bipush (q := 108) hm163 ⟨⟨_, _, rfl⟩, rfl⟩ bipush_12 ?_
                    refine w_call (q := 111) (n := 0) (vs := [.inr (.inr (some 43)), .inl x1, .inl (12 : Int32)]) (rest := []) (la := [oR 43, oI x1, oI (12 : Int32)]) hm163 ⟨⟨_, _, rfl⟩, rfl⟩ rfl rfl rfl rfl hm164 rfl rfl (fun _ => ⟨_, _, rfl, rfl⟩) rfl (Wp.mono h ?_)
                    rintro _ m8 ⟨r8, rfl, h⟩
                    change Wp _ _ 111 _ [.inl r8] _ _
                    refine w_if_ne (q := 114) (X := r8.toInt) hm163 ⟨⟨_, _, rfl⟩, rfl⟩ rfl (fun hc => ?_) (fun hc => ?_)
                    · have h := h.1 hc
                      refine w_iinc (q := 119) (l' := [oR 43, oI x1, oI (x2 + (1 : Int32))]) hm163 ⟨⟨_, _, rfl⟩, rfl⟩ rfl rfl rfl iconst_1 rfl ?_
                      refine w_goto (q := 28) hm163 ⟨_, _, rfl⟩ ?_
                      exact h
                    · have h := h.2 hc
                      exact Wp.wk [false, false, false] h
      · have h := h.2 hc
        refine w_aload_n (q := 48) hm163 ⟨⟨_, _, rfl⟩, rfl⟩ rfl ?_
        refine w_iconst (q := 49) hm163 ⟨⟨_, _, rfl⟩, rfl⟩ iconst_2 ?_
        refine w_call (q := 52) (n := 0) (vs := [.inr (.inr (some 43)), .inl (2 : Int32)]) (rest := []) (la := [oR 43, oI (2 : Int32)]) hm163 ⟨⟨_, _, rfl⟩, rfl⟩ rfl rfl rfl rfl hm158 rfl rfl (fun _ => ⟨_, _, rfl, rfl⟩) rfl (Wp.mono h ?_)
        rintro _ m9 ⟨r9, rfl, h⟩
        change Wp _ _ 52 _ [.inl r9] _ _
        exact w_retz hm163 ⟨⟨_, _, rfl⟩, rfl⟩ rfl h.1 h.2
theorem v_X2_checkLaw_43_114 {d : Nat} {m : dM} {Q : Int32 → dM → Prop} (h : Q (0 : Int32) m) : j_X2_checkLaw_43_114 (d + 1) m Q := by
  refine w_iconst (q := 115) hm163 ⟨⟨_, _, rfl⟩, rfl⟩ iconst_0 ?_
  exact w_retz hm163 ⟨⟨_, _, rfl⟩, rfl⟩ rfl (by decide) h
theorem v_X2_checkLaw_43_122 {d : Nat} {x1 : Int32} {m : dM} {Q : Int32 → dM → Prop} (h : c_X2_sum_43 d (0 : Int32) m (fun r1 m1 => ((r1.toInt = 0 → j_X2_checkLaw_43_144 (d + 1) m1 Q) ∧ (r1.toInt ≠ 0 → c_X2_endPiece_43 d x1 (59 : Int32) m1 (fun r2 m2 => ((r2.toInt = 0 → j_X2_checkLaw_43_144 (d + 1) m2 Q) ∧ (r2.toInt ≠ 0 → Q (1 : Int32) m2))))))) : j_X2_checkLaw_43_122 (d + 1) x1 m Q := by
  refine w_aload_n (q := 123) hm163 ⟨⟨_, _, rfl⟩, rfl⟩ rfl ?_
  refine w_iconst (q := 124) hm163 ⟨⟨_, _, rfl⟩, rfl⟩ iconst_0 ?_
  refine w_call (q := 127) (n := 2) (vs := [.inr (.inr (some 43)), .inl (0 : Int32)]) (rest := []) (la := [oR 43, oI (0 : Int32), none, none]) hm163 ⟨⟨_, _, rfl⟩, rfl⟩ rfl rfl rfl rfl hm165 rfl rfl (fun _ => ⟨_, _, rfl, rfl⟩) rfl (Wp.mono h ?_)
  rintro _ m1 ⟨r1, rfl, h⟩
  change Wp _ _ 127 _ [.inl r1] _ _
  refine w_if_eq (q := 130) (X := r1.toInt) hm163 ⟨⟨_, _, rfl⟩, rfl⟩ rfl (fun hc => ?_) (fun hc => ?_)
  · have h := h.1 hc
    exact Wp.wk [false, false, false] h
  · have h := h.2 hc
    refine w_aload_n (q := 131) hm163 ⟨⟨_, _, rfl⟩, rfl⟩ rfl ?_
    refine w_iload_n (q := 132) hm163 ⟨⟨_, _, rfl⟩, rfl⟩ rfl ?_
    refine w_bipush (q := 134) hm163 ⟨⟨_, _, rfl⟩, rfl⟩ bipush_59 ?_
    refine w_call (q := 137) (n := 0) (vs := [.inr (.inr (some 43)), .inl x1, .inl (59 : Int32)]) (rest := []) (la := [oR 43, oI x1, oI (59 : Int32)]) hm163 ⟨⟨_, _, rfl⟩, rfl⟩ rfl rfl rfl rfl hm164 rfl rfl (fun _ => ⟨_, _, rfl, rfl⟩) rfl (Wp.mono h ?_)
    rintro _ m2 ⟨r2, rfl, h⟩
    change Wp _ _ 137 _ [.inl r2] _ _
    refine w_if_eq (q := 140) (X := r2.toInt) hm163 ⟨⟨_, _, rfl⟩, rfl⟩ rfl (fun hc => ?_) (fun hc => ?_)
    · have h := h.1 hc
      exact Wp.wk [false, false, false] h
    · have h := h.2 hc
      refine w_iconst (q := 141) hm163 ⟨⟨_, _, rfl⟩, rfl⟩ iconst_1 ?_
      refine w_goto (q := 145) hm163 ⟨_, _, rfl⟩ ?_
      exact w_retz hm163 ⟨⟨_, _, rfl⟩, rfl⟩ rfl (by decide) h
theorem v_X2_checkLaw_43_144 {d : Nat} {m : dM} {Q : Int32 → dM → Prop} (h : Q (0 : Int32) m) : j_X2_checkLaw_43_144 (d + 1) m Q := by
  refine w_iconst (q := 145) hm163 ⟨⟨_, _, rfl⟩, rfl⟩ iconst_0 ?_
  exact w_retz hm163 ⟨⟨_, _, rfl⟩, rfl⟩ rfl (by decide) h
theorem v_X2_checkTold_43 {d : Nat} {x1 : Int32} {m : dM} {Q : dM → Prop} (h : ((x1.toInt = 0 → c_X2_checkCounted_43 d ((m.1 43 4) + (1 : Int32)) (7 : Int32) (1 : Int32) (1 : Int32) (dSet m 43 4 ((m.1 43 4) + (1 : Int32))) (fun m1 => j_X2_checkTold_43_165 (d + 1) m1 Q)) ∧ (x1.toInt = 1 → c_X2_checkCounted_43 d ((m.1 43 5) + (1 : Int32)) (10 : Int32) (2 : Int32) (1 : Int32) (dSet m 43 5 ((m.1 43 5) + (1 : Int32))) (fun m2 => j_X2_checkTold_43_165 (d + 1) m2 Q)) ∧ (x1.toInt = 2 → c_X2_checkCounted_43 d ((m.1 43 6) + (1 : Int32)) (8 : Int32) (2 : Int32) (3 : Int32) (dSet m 43 6 ((m.1 43 6) + (1 : Int32))) (fun m3 => j_X2_checkTold_43_165 (d + 1) m3 Q)) ∧ (x1.toInt = 3 → c_X2_checkLaw_43 d (x1 - (3 : Int32)) m (fun r4 m4 => j_X2_checkTold_43_165 (d + 1) m4 Q)) ∧ (x1.toInt = 4 → c_X2_checkLaw_43 d (x1 - (3 : Int32)) m (fun r5 m5 => j_X2_checkTold_43_165 (d + 1) m5 Q)) ∧ (x1.toInt = 5 → c_X2_checkLaw_43 d (x1 - (3 : Int32)) m (fun r6 m6 => j_X2_checkTold_43_165 (d + 1) m6 Q)) ∧ (x1.toInt = 6 → c_X2_checkLaw_43 d (x1 - (3 : Int32)) m (fun r7 m7 => j_X2_checkTold_43_165 (d + 1) m7 Q)) ∧ (x1.toInt = 7 → c_X2_checkRow_43 d (0 : Int32) (2 : Int32) m (fun m8 => j_X2_checkTold_43_165 (d + 1) m8 Q)) ∧ (x1.toInt = 8 → c_X2_checkRow_43 d (0 : Int32) (1 : Int32) m (fun m9 => j_X2_checkTold_43_165 (d + 1) m9 Q)) ∧ (x1.toInt = 9 → c_X2_checkRow_43 d (0 : Int32) (1 : Int32) m (fun m10 => j_X2_checkTold_43_165 (d + 1) m10 Q)) ∧ (x1.toInt < 0 ∨ 9 < x1.toInt → j_X2_checkTold_43_165 (d + 1) (dSet m 43 3 (1 : Int32)) Q))) : c_X2_checkTold_43 (d + 1) x1 m Q := by
  refine w_iload_n (q := 1) hm155 ⟨⟨_, _, rfl⟩, rfl⟩ rfl ?_
  refine w_tsw (X := x1.toInt) hm155 ⟨_, _, rfl⟩ (by decide) (by decide) rfl ((And.intro (fun hc => ?_) (And.intro (fun hc => ?_) (And.intro (fun hc => ?_) (And.intro (fun hc => ?_) (And.intro (fun hc => ?_) (And.intro (fun hc => ?_) (And.intro (fun hc => ?_) (And.intro (fun hc => ?_) (And.intro (fun hc => ?_) (And.intro (fun hc => ?_) trivial))))))))))) (fun hc => ?_)
  · have h := (h.1) hc
    change Wp _ _ 56 _ _ _ _
    refine w_aload_n (q := 57) hm155 ⟨⟨_, _, rfl⟩, rfl⟩ rfl ?_
    refine w_dup (q := 58) hm155 ⟨⟨_, _, rfl⟩, rfl⟩ rfl ?_
    refine w_getf (q := 61) (v := (m.1 43 4)) hm155 ⟨⟨_, _, rfl⟩, rfl⟩ rfl rfl ?_
    refine w_iconst (q := 62) hm155 ⟨⟨_, _, rfl⟩, rfl⟩ iconst_1 ?_
    refine w_iadd (q := 63) hm155 ⟨⟨_, _, rfl⟩, rfl⟩ ?_
    refine w_putf (q := 66) hm155 ⟨⟨_, _, rfl⟩, rfl⟩ rfl rfl rfl ?_
    refine w_aload_n (q := 67) hm155 ⟨⟨_, _, rfl⟩, rfl⟩ rfl ?_
    refine w_aload_n (q := 68) hm155 ⟨⟨_, _, rfl⟩, rfl⟩ rfl ?_
    refine w_getf (q := 71) (v := ((m.1 43 4) + (1 : Int32))) hm155 ⟨⟨_, _, rfl⟩, rfl⟩ rfl rfl ?_
    refine w_bipush (q := 73) hm155 ⟨⟨_, _, rfl⟩, rfl⟩ bipush_7 ?_
    refine w_iconst (q := 74) hm155 ⟨⟨_, _, rfl⟩, rfl⟩ iconst_1 ?_
    refine w_iconst (q := 75) hm155 ⟨⟨_, _, rfl⟩, rfl⟩ iconst_1 ?_
    refine w_call (q := 78) (n := 0) (vs := [.inr (.inr (some 43)), .inl ((m.1 43 4) + (1 : Int32)), .inl (7 : Int32), .inl (1 : Int32), .inl (1 : Int32)]) (rest := []) (la := [oR 43, oI ((m.1 43 4) + (1 : Int32)), oI (7 : Int32), oI (1 : Int32), oI (1 : Int32)]) hm155 ⟨⟨_, _, rfl⟩, rfl⟩ rfl rfl rfl rfl hm162 rfl rfl (fun _ => ⟨_, _, rfl, rfl⟩) rfl (Wp.mono h ?_)
    rintro _ m1 ⟨rfl, h⟩
    change Wp _ _ 78 _ [] _ _
    refine w_goto (q := 165) hm155 ⟨_, _, rfl⟩ ?_
    exact Wp.wk [false, false] h
  · have h := (h.2.1) hc
    change Wp _ _ 81 _ _ _ _
    refine w_aload_n (q := 82) hm155 ⟨⟨_, _, rfl⟩, rfl⟩ rfl ?_
    refine w_dup (q := 83) hm155 ⟨⟨_, _, rfl⟩, rfl⟩ rfl ?_
    refine w_getf (q := 86) (v := (m.1 43 5)) hm155 ⟨⟨_, _, rfl⟩, rfl⟩ rfl rfl ?_
    refine w_iconst (q := 87) hm155 ⟨⟨_, _, rfl⟩, rfl⟩ iconst_1 ?_
    refine w_iadd (q := 88) hm155 ⟨⟨_, _, rfl⟩, rfl⟩ ?_
    refine w_putf (q := 91) hm155 ⟨⟨_, _, rfl⟩, rfl⟩ rfl rfl rfl ?_
    refine w_aload_n (q := 92) hm155 ⟨⟨_, _, rfl⟩, rfl⟩ rfl ?_
    refine w_aload_n (q := 93) hm155 ⟨⟨_, _, rfl⟩, rfl⟩ rfl ?_
    refine w_getf (q := 96) (v := ((m.1 43 5) + (1 : Int32))) hm155 ⟨⟨_, _, rfl⟩, rfl⟩ rfl rfl ?_
    refine w_bipush (q := 98) hm155 ⟨⟨_, _, rfl⟩, rfl⟩ bipush_10 ?_
    refine w_iconst (q := 99) hm155 ⟨⟨_, _, rfl⟩, rfl⟩ iconst_2 ?_
    refine w_iconst (q := 100) hm155 ⟨⟨_, _, rfl⟩, rfl⟩ iconst_1 ?_
    refine w_call (q := 103) (n := 0) (vs := [.inr (.inr (some 43)), .inl ((m.1 43 5) + (1 : Int32)), .inl (10 : Int32), .inl (2 : Int32), .inl (1 : Int32)]) (rest := []) (la := [oR 43, oI ((m.1 43 5) + (1 : Int32)), oI (10 : Int32), oI (2 : Int32), oI (1 : Int32)]) hm155 ⟨⟨_, _, rfl⟩, rfl⟩ rfl rfl rfl rfl hm162 rfl rfl (fun _ => ⟨_, _, rfl, rfl⟩) rfl (Wp.mono h ?_)
    rintro _ m2 ⟨rfl, h⟩
    change Wp _ _ 103 _ [] _ _
    refine w_goto (q := 165) hm155 ⟨_, _, rfl⟩ ?_
    exact Wp.wk [false, false] h
  · have h := (h.2.2.1) hc
    change Wp _ _ 106 _ _ _ _
    refine w_aload_n (q := 107) hm155 ⟨⟨_, _, rfl⟩, rfl⟩ rfl ?_
    refine w_dup (q := 108) hm155 ⟨⟨_, _, rfl⟩, rfl⟩ rfl ?_
    refine w_getf (q := 111) (v := (m.1 43 6)) hm155 ⟨⟨_, _, rfl⟩, rfl⟩ rfl rfl ?_
    refine w_iconst (q := 112) hm155 ⟨⟨_, _, rfl⟩, rfl⟩ iconst_1 ?_
    refine w_iadd (q := 113) hm155 ⟨⟨_, _, rfl⟩, rfl⟩ ?_
    refine w_putf (q := 116) hm155 ⟨⟨_, _, rfl⟩, rfl⟩ rfl rfl rfl ?_
    refine w_aload_n (q := 117) hm155 ⟨⟨_, _, rfl⟩, rfl⟩ rfl ?_
    refine w_aload_n (q := 118) hm155 ⟨⟨_, _, rfl⟩, rfl⟩ rfl ?_
    refine w_getf (q := 121) (v := ((m.1 43 6) + (1 : Int32))) hm155 ⟨⟨_, _, rfl⟩, rfl⟩ rfl rfl ?_
    refine w_bipush (q := 123) hm155 ⟨⟨_, _, rfl⟩, rfl⟩ bipush_8 ?_
    refine w_iconst (q := 124) hm155 ⟨⟨_, _, rfl⟩, rfl⟩ iconst_2 ?_
    refine w_iconst (q := 125) hm155 ⟨⟨_, _, rfl⟩, rfl⟩ iconst_3 ?_
    refine w_call (q := 128) (n := 0) (vs := [.inr (.inr (some 43)), .inl ((m.1 43 6) + (1 : Int32)), .inl (8 : Int32), .inl (2 : Int32), .inl (3 : Int32)]) (rest := []) (la := [oR 43, oI ((m.1 43 6) + (1 : Int32)), oI (8 : Int32), oI (2 : Int32), oI (3 : Int32)]) hm155 ⟨⟨_, _, rfl⟩, rfl⟩ rfl rfl rfl rfl hm162 rfl rfl (fun _ => ⟨_, _, rfl, rfl⟩) rfl (Wp.mono h ?_)
    rintro _ m3 ⟨rfl, h⟩
    change Wp _ _ 128 _ [] _ _
    refine w_goto (q := 165) hm155 ⟨_, _, rfl⟩ ?_
    exact Wp.wk [false, false] h
  · have h := (h.2.2.2.1) hc
    change Wp _ _ 131 _ _ _ _
    refine w_aload_n (q := 132) hm155 ⟨⟨_, _, rfl⟩, rfl⟩ rfl ?_
    refine w_iload_n (q := 133) hm155 ⟨⟨_, _, rfl⟩, rfl⟩ rfl ?_
    refine w_iconst (q := 134) hm155 ⟨⟨_, _, rfl⟩, rfl⟩ iconst_3 ?_
    refine w_isub (q := 135) hm155 ⟨⟨_, _, rfl⟩, rfl⟩ ?_
    refine w_call (q := 138) (n := 1) (vs := [.inr (.inr (some 43)), .inl (x1 - (3 : Int32))]) (rest := []) (la := [oR 43, oI (x1 - (3 : Int32)), none]) hm155 ⟨⟨_, _, rfl⟩, rfl⟩ rfl rfl rfl rfl hm163 rfl rfl (fun _ => ⟨_, _, rfl, rfl⟩) rfl (Wp.mono h ?_)
    rintro _ m4 ⟨r4, rfl, h⟩
    change Wp _ _ 138 _ [.inl r4] _ _
    refine w_pop (q := 139) hm155 ⟨⟨_, _, rfl⟩, rfl⟩ rfl ?_
    refine w_goto (q := 165) hm155 ⟨_, _, rfl⟩ ?_
    exact Wp.wk [false, false] h
  · have h := (h.2.2.2.2.1) hc
    change Wp _ _ 131 _ _ _ _
    refine w_aload_n (q := 132) hm155 ⟨⟨_, _, rfl⟩, rfl⟩ rfl ?_
    refine w_iload_n (q := 133) hm155 ⟨⟨_, _, rfl⟩, rfl⟩ rfl ?_
    refine w_iconst (q := 134) hm155 ⟨⟨_, _, rfl⟩, rfl⟩ iconst_3 ?_
    refine w_isub (q := 135) hm155 ⟨⟨_, _, rfl⟩, rfl⟩ ?_
    refine w_call (q := 138) (n := 1) (vs := [.inr (.inr (some 43)), .inl (x1 - (3 : Int32))]) (rest := []) (la := [oR 43, oI (x1 - (3 : Int32)), none]) hm155 ⟨⟨_, _, rfl⟩, rfl⟩ rfl rfl rfl rfl hm163 rfl rfl (fun _ => ⟨_, _, rfl, rfl⟩) rfl (Wp.mono h ?_)
    rintro _ m5 ⟨r5, rfl, h⟩
    change Wp _ _ 138 _ [.inl r5] _ _
    refine w_pop (q := 139) hm155 ⟨⟨_, _, rfl⟩, rfl⟩ rfl ?_
    refine w_goto (q := 165) hm155 ⟨_, _, rfl⟩ ?_
    exact Wp.wk [false, false] h
  · have h := (h.2.2.2.2.2.1) hc
    change Wp _ _ 131 _ _ _ _
    refine w_aload_n (q := 132) hm155 ⟨⟨_, _, rfl⟩, rfl⟩ rfl ?_
    refine w_iload_n (q := 133) hm155 ⟨⟨_, _, rfl⟩, rfl⟩ rfl ?_
    refine w_iconst (q := 134) hm155 ⟨⟨_, _, rfl⟩, rfl⟩ iconst_3 ?_
    refine w_isub (q := 135) hm155 ⟨⟨_, _, rfl⟩, rfl⟩ ?_
    refine w_call (q := 138) (n := 1) (vs := [.inr (.inr (some 43)), .inl (x1 - (3 : Int32))]) (rest := []) (la := [oR 43, oI (x1 - (3 : Int32)), none]) hm155 ⟨⟨_, _, rfl⟩, rfl⟩ rfl rfl rfl rfl hm163 rfl rfl (fun _ => ⟨_, _, rfl, rfl⟩) rfl (Wp.mono h ?_)
    rintro _ m6 ⟨r6, rfl, h⟩
    change Wp _ _ 138 _ [.inl r6] _ _
    refine w_pop (q := 139) hm155 ⟨⟨_, _, rfl⟩, rfl⟩ rfl ?_
    refine w_goto (q := 165) hm155 ⟨_, _, rfl⟩ ?_
    exact Wp.wk [false, false] h
  · have h := (h.2.2.2.2.2.2.1) hc
    change Wp _ _ 131 _ _ _ _
    refine w_aload_n (q := 132) hm155 ⟨⟨_, _, rfl⟩, rfl⟩ rfl ?_
    refine w_iload_n (q := 133) hm155 ⟨⟨_, _, rfl⟩, rfl⟩ rfl ?_
    refine w_iconst (q := 134) hm155 ⟨⟨_, _, rfl⟩, rfl⟩ iconst_3 ?_
    refine w_isub (q := 135) hm155 ⟨⟨_, _, rfl⟩, rfl⟩ ?_
    refine w_call (q := 138) (n := 1) (vs := [.inr (.inr (some 43)), .inl (x1 - (3 : Int32))]) (rest := []) (la := [oR 43, oI (x1 - (3 : Int32)), none]) hm155 ⟨⟨_, _, rfl⟩, rfl⟩ rfl rfl rfl rfl hm163 rfl rfl (fun _ => ⟨_, _, rfl, rfl⟩) rfl (Wp.mono h ?_)
    rintro _ m7 ⟨r7, rfl, h⟩
    change Wp _ _ 138 _ [.inl r7] _ _
    refine w_pop (q := 139) hm155 ⟨⟨_, _, rfl⟩, rfl⟩ rfl ?_
    refine w_goto (q := 165) hm155 ⟨_, _, rfl⟩ ?_
    exact Wp.wk [false, false] h
  · have h := (h.2.2.2.2.2.2.2.1) hc
    change Wp _ _ 142 _ _ _ _
    refine w_aload_n (q := 143) hm155 ⟨⟨_, _, rfl⟩, rfl⟩ rfl ?_
    refine w_iconst (q := 144) hm155 ⟨⟨_, _, rfl⟩, rfl⟩ iconst_0 ?_
    refine w_iconst (q := 145) hm155 ⟨⟨_, _, rfl⟩, rfl⟩ iconst_2 ?_
    refine w_call (q := 148) (n := 2) (vs := [.inr (.inr (some 43)), .inl (0 : Int32), .inl (2 : Int32)]) (rest := []) (la := [oR 43, oI (0 : Int32), oI (2 : Int32), none, none]) hm155 ⟨⟨_, _, rfl⟩, rfl⟩ rfl rfl rfl rfl hm161 rfl rfl (fun _ => ⟨_, _, rfl, rfl⟩) rfl (Wp.mono h ?_)
    rintro _ m8 ⟨rfl, h⟩
    change Wp _ _ 148 _ [] _ _
    refine w_goto (q := 165) hm155 ⟨_, _, rfl⟩ ?_
    exact Wp.wk [false, false] h
  · have h := (h.2.2.2.2.2.2.2.2.1) hc
    change Wp _ _ 151 _ _ _ _
    refine w_aload_n (q := 152) hm155 ⟨⟨_, _, rfl⟩, rfl⟩ rfl ?_
    refine w_iconst (q := 153) hm155 ⟨⟨_, _, rfl⟩, rfl⟩ iconst_0 ?_
    refine w_iconst (q := 154) hm155 ⟨⟨_, _, rfl⟩, rfl⟩ iconst_1 ?_
    refine w_call (q := 157) (n := 2) (vs := [.inr (.inr (some 43)), .inl (0 : Int32), .inl (1 : Int32)]) (rest := []) (la := [oR 43, oI (0 : Int32), oI (1 : Int32), none, none]) hm155 ⟨⟨_, _, rfl⟩, rfl⟩ rfl rfl rfl rfl hm161 rfl rfl (fun _ => ⟨_, _, rfl, rfl⟩) rfl (Wp.mono h ?_)
    rintro _ m9 ⟨rfl, h⟩
    change Wp _ _ 157 _ [] _ _
    refine w_goto (q := 165) hm155 ⟨_, _, rfl⟩ ?_
    exact Wp.wk [false, false] h
  · have h := (h.2.2.2.2.2.2.2.2.2.1) hc
    change Wp _ _ 151 _ _ _ _
    refine w_aload_n (q := 152) hm155 ⟨⟨_, _, rfl⟩, rfl⟩ rfl ?_
    refine w_iconst (q := 153) hm155 ⟨⟨_, _, rfl⟩, rfl⟩ iconst_0 ?_
    refine w_iconst (q := 154) hm155 ⟨⟨_, _, rfl⟩, rfl⟩ iconst_1 ?_
    refine w_call (q := 157) (n := 2) (vs := [.inr (.inr (some 43)), .inl (0 : Int32), .inl (1 : Int32)]) (rest := []) (la := [oR 43, oI (0 : Int32), oI (1 : Int32), none, none]) hm155 ⟨⟨_, _, rfl⟩, rfl⟩ rfl rfl rfl rfl hm161 rfl rfl (fun _ => ⟨_, _, rfl, rfl⟩) rfl (Wp.mono h ?_)
    rintro _ m10 ⟨rfl, h⟩
    change Wp _ _ 157 _ [] _ _
    refine w_goto (q := 165) hm155 ⟨_, _, rfl⟩ ?_
    exact Wp.wk [false, false] h
  · have h := (h.2.2.2.2.2.2.2.2.2.2) hc
    change Wp _ _ 160 _ _ _ _
    refine w_aload_n (q := 161) hm155 ⟨⟨_, _, rfl⟩, rfl⟩ rfl ?_
    refine w_iconst (q := 162) hm155 ⟨⟨_, _, rfl⟩, rfl⟩ iconst_1 ?_
    refine w_putf (q := 165) hm155 ⟨⟨_, _, rfl⟩, rfl⟩ rfl rfl rfl ?_
    exact Wp.wk [false, false] h
theorem v_X2_checkTold_43_165 {d : Nat} {m : dM} {Q : dM → Prop} (h : Q m) : j_X2_checkTold_43_165 (d + 1) m Q := by
  exact w_retv hm155 ⟨⟨_, _, rfl⟩, rfl⟩ rfl h
theorem v_X2_check_43 {d : Nat} {m : dM} {Q : Int32 → dM → Prop} (h : j_X2_check_43_27 (d + 1) (0 : Int32) (dSet (dSet (dSet (dSet (dSet m 43 2 (0 : Int32)) 43 3 (0 : Int32)) 43 4 (0 : Int32)) 43 5 (0 : Int32)) 43 6 (0 : Int32)) Q) : c_X2_check_43 (d + 1) m Q := by
  refine w_aload_n (q := 1) hm154 ⟨⟨_, _, rfl⟩, rfl⟩ rfl ?_
  refine w_iconst (q := 2) hm154 ⟨⟨_, _, rfl⟩, rfl⟩ iconst_0 ?_
  refine w_putf (q := 5) hm154 ⟨⟨_, _, rfl⟩, rfl⟩ rfl rfl rfl ?_
  refine w_aload_n (q := 6) hm154 ⟨⟨_, _, rfl⟩, rfl⟩ rfl ?_
  refine w_iconst (q := 7) hm154 ⟨⟨_, _, rfl⟩, rfl⟩ iconst_0 ?_
  refine w_putf (q := 10) hm154 ⟨⟨_, _, rfl⟩, rfl⟩ rfl rfl rfl ?_
  refine w_aload_n (q := 11) hm154 ⟨⟨_, _, rfl⟩, rfl⟩ rfl ?_
  refine w_iconst (q := 12) hm154 ⟨⟨_, _, rfl⟩, rfl⟩ iconst_0 ?_
  refine w_putf (q := 15) hm154 ⟨⟨_, _, rfl⟩, rfl⟩ rfl rfl rfl ?_
  refine w_aload_n (q := 16) hm154 ⟨⟨_, _, rfl⟩, rfl⟩ rfl ?_
  refine w_iconst (q := 17) hm154 ⟨⟨_, _, rfl⟩, rfl⟩ iconst_0 ?_
  refine w_putf (q := 20) hm154 ⟨⟨_, _, rfl⟩, rfl⟩ rfl rfl rfl ?_
  refine w_aload_n (q := 21) hm154 ⟨⟨_, _, rfl⟩, rfl⟩ rfl ?_
  refine w_iconst (q := 22) hm154 ⟨⟨_, _, rfl⟩, rfl⟩ iconst_0 ?_
  refine w_putf (q := 25) hm154 ⟨⟨_, _, rfl⟩, rfl⟩ rfl rfl rfl ?_
  refine w_iconst (q := 26) hm154 ⟨⟨_, _, rfl⟩, rfl⟩ iconst_0 ?_
  refine w_istore_n (q := 27) (l' := [oR 43, oI (0 : Int32)]) hm154 ⟨⟨_, _, rfl⟩, rfl⟩ rfl rfl rfl ?_
  exact h
theorem v_X2_check_43_27 {d : Nat} {x1 : Int32} {m : dM} {Q : Int32 → dM → Prop} (h : ((400 < x1.toInt → j_X2_check_43_64 (d + 1) m Q) ∧ (x1.toInt ≤ 400 → (((m.1 43 3).toInt ≠ 0 → j_X2_check_43_64 (d + 1) m Q) ∧ ((m.1 43 3).toInt = 0 → c_X2_kind_43 d m (fun r1 m1 => ((r1.toInt = 24 → j_X2_check_43_64 (d + 1) m1 Q) ∧ (r1.toInt ≠ 24 → c_X2_kind_43 d m1 (fun r2 m2 => c_X2_checkTold_43 d r2 m2 (fun m3 => j_X2_check_43_27 (d + 1) (x1 + (1 : Int32)) m3 Q)))))))))) : j_X2_check_43_27 (d + 1) x1 m Q := by
  refine w_iload_n (q := 28) hm154 ⟨⟨_, _, rfl⟩, rfl⟩ rfl ?_
  refine w_sipush (q := 31) hm154 ⟨⟨_, _, rfl⟩, rfl⟩ sipush_400 ?_
  refine w_icmp_gt (q := 34) (X := x1.toInt) (Y := 400) hm154 ⟨⟨_, _, rfl⟩, rfl⟩ rfl (by decide) (fun hc => ?_) (fun hc => ?_)
  · have h := h.1 hc
    exact Wp.wk [true, false] h
  · have h := h.2 hc
    refine w_aload_n (q := 35) hm154 ⟨⟨_, _, rfl⟩, rfl⟩ rfl ?_
    refine w_getf (q := 38) (v := (m.1 43 3)) hm154 ⟨⟨_, _, rfl⟩, rfl⟩ rfl rfl ?_
    refine w_if_ne (q := 41) (X := (m.1 43 3).toInt) hm154 ⟨⟨_, _, rfl⟩, rfl⟩ rfl (fun hc => ?_) (fun hc => ?_)
    · have h := h.1 hc
      exact Wp.wk [true, false] h
    · have h := h.2 hc
      refine w_aload_n (q := 42) hm154 ⟨⟨_, _, rfl⟩, rfl⟩ rfl ?_
      refine w_call (q := 45) (n := 0) (vs := [.inr (.inr (some 43))]) (rest := []) (la := [oR 43]) hm154 ⟨⟨_, _, rfl⟩, rfl⟩ rfl rfl rfl rfl hm157 rfl rfl (fun _ => ⟨_, _, rfl, rfl⟩) rfl (Wp.mono h ?_)
      rintro _ m1 ⟨r1, rfl, h⟩
      change Wp _ _ 45 _ [.inl r1] _ _
      refine w_bipush (q := 47) hm154 ⟨⟨_, _, rfl⟩, rfl⟩ bipush_24 ?_
      refine w_icmp_eq (q := 50) (X := r1.toInt) (Y := 24) hm154 ⟨⟨_, _, rfl⟩, rfl⟩ rfl (by decide) (fun hc => ?_) (fun hc => ?_)
      · have h := h.1 hc
        exact Wp.wk [true, false] h
      · have h := h.2 hc
        refine w_aload_n (q := 51) hm154 ⟨⟨_, _, rfl⟩, rfl⟩ rfl ?_
        refine w_aload_n (q := 52) hm154 ⟨⟨_, _, rfl⟩, rfl⟩ rfl ?_
        refine w_call (q := 55) (n := 0) (vs := [.inr (.inr (some 43))]) (rest := [.inr (.inr (some 43))]) (la := [oR 43]) hm154 ⟨⟨_, _, rfl⟩, rfl⟩ rfl rfl rfl rfl hm157 rfl rfl (fun _ => ⟨_, _, rfl, rfl⟩) rfl (Wp.mono h ?_)
        rintro _ m2 ⟨r2, rfl, h⟩
        change Wp _ _ 55 _ [.inl r2, .inr (.inr (some 43))] _ _
        refine w_call (q := 58) (n := 0) (vs := [.inr (.inr (some 43)), .inl r2]) (rest := []) (la := [oR 43, oI r2]) hm154 ⟨⟨_, _, rfl⟩, rfl⟩ rfl rfl rfl rfl hm155 rfl rfl (fun _ => ⟨_, _, rfl, rfl⟩) rfl (Wp.mono h ?_)
        rintro _ m3 ⟨rfl, h⟩
        change Wp _ _ 58 _ [] _ _
        refine w_iinc (q := 61) (l' := [oR 43, oI (x1 + (1 : Int32))]) hm154 ⟨⟨_, _, rfl⟩, rfl⟩ rfl rfl rfl iconst_1 rfl ?_
        refine w_goto (q := 27) hm154 ⟨_, _, rfl⟩ ?_
        exact h
theorem v_X2_check_43_64 {d : Nat} {m : dM} {Q : Int32 → dM → Prop} (h : Q (m.1 43 3) m) : j_X2_check_43_64 (d + 1) m Q := by
  refine w_aload_n (q := 65) hm154 ⟨⟨_, _, rfl⟩, rfl⟩ rfl ?_
  refine w_getf (q := 68) (v := (m.1 43 3)) hm154 ⟨⟨_, _, rfl⟩, rfl⟩ rfl rfl ?_
  exact w_reti hm154 ⟨⟨_, _, rfl⟩, rfl⟩ rfl h
theorem v_X8_placeAt_38 {d : Nat} {x1 : Int32} {m : dM} {Q : Int32 → dM → Prop} (h : ((x1.toInt < 0 → j_X8_placeAt_38_20 (d + 1) m Q) ∧ (0 ≤ x1.toInt → ((400 < x1.toInt → j_X8_placeAt_38_20 (d + 1) m Q) ∧ (x1.toInt ≤ 400 → ((0 ≤ x1.toInt ∧ x1.toInt < 401) ∧ Q (m.1 40 x1.toNatClampNeg) m)))))) : c_X8_placeAt_38 (d + 1) x1 m Q := by
  refine w_iload_n (q := 1) hm217 ⟨⟨_, _, rfl⟩, rfl⟩ rfl ?_
  refine w_if_lt (q := 4) (X := x1.toInt) hm217 ⟨⟨_, _, rfl⟩, rfl⟩ rfl (fun hc => ?_) (fun hc => ?_)
  · have h := h.1 hc
    exact Wp.wk [true, false] h
  · have h := h.2 hc
    refine w_iload_n (q := 5) hm217 ⟨⟨_, _, rfl⟩, rfl⟩ rfl ?_
    refine w_sipush (q := 8) hm217 ⟨⟨_, _, rfl⟩, rfl⟩ sipush_400 ?_
    refine w_icmp_gt (q := 11) (X := x1.toInt) (Y := 400) hm217 ⟨⟨_, _, rfl⟩, rfl⟩ rfl (by decide) (fun hc => ?_) (fun hc => ?_)
    · have h := h.1 hc
      exact Wp.wk [true, false] h
    · have h := h.2 hc
      refine w_aload_n (q := 12) hm217 ⟨⟨_, _, rfl⟩, rfl⟩ rfl ?_
      refine w_getr (q := 15) hm217 ⟨⟨_, _, rfl⟩, rfl⟩ rfl ?_
      refine w_iload_n (q := 16) hm217 ⟨⟨_, _, rfl⟩, rfl⟩ rfl ?_
      obtain ⟨hi, h⟩ := h
      refine w_iald (q := 17) (v := (m.1 40 x1.toNatClampNeg)) hm217 ⟨⟨_, _, rfl⟩, rfl⟩ rfl hi rfl rfl ?_
      refine w_goto (q := 24) hm217 ⟨_, _, rfl⟩ ?_
      exact w_reti hm217 ⟨⟨_, _, rfl⟩, rfl⟩ rfl h
theorem v_X8_placeAt_38_20 {d : Nat} {m : dM} {Q : Int32 → dM → Prop} (h : Q (m.1 38 5) m) : j_X8_placeAt_38_20 (d + 1) m Q := by
  refine w_aload_n (q := 21) hm217 ⟨⟨_, _, rfl⟩, rfl⟩ rfl ?_
  refine w_getf (q := 24) (v := (m.1 38 5)) hm217 ⟨⟨_, _, rfl⟩, rfl⟩ rfl rfl ?_
  exact w_reti hm217 ⟨⟨_, _, rfl⟩, rfl⟩ rfl h
theorem v_X2_faultAt_43 {d : Nat} {m : dM} {Q : Int32 → dM → Prop} (h : (((m.1 43 3).toInt ≠ 0 → c_X8_placeAt_38 d (m.1 43 2) m (fun r1 m1 => Q r1 m1)) ∧ ((m.1 43 3).toInt = 0 → Q (-1 : Int32) m))) : c_X2_faultAt_43 (d + 1) m Q := by
  refine w_aload_n (q := 1) hm156 ⟨⟨_, _, rfl⟩, rfl⟩ rfl ?_
  refine w_getf (q := 4) (v := (m.1 43 3)) hm156 ⟨⟨_, _, rfl⟩, rfl⟩ rfl rfl ?_
  refine w_if_ne (q := 7) (X := (m.1 43 3).toInt) hm156 ⟨⟨_, _, rfl⟩, rfl⟩ rfl (fun hc => ?_) (fun hc => ?_)
  · have h := h.1 hc
    refine w_aload_n (q := 12) hm156 ⟨⟨_, _, rfl⟩, rfl⟩ rfl ?_
    refine w_getr (q := 15) hm156 ⟨⟨_, _, rfl⟩, rfl⟩ rfl ?_
    refine w_aload_n (q := 16) hm156 ⟨⟨_, _, rfl⟩, rfl⟩ rfl ?_
    refine w_getf (q := 19) (v := (m.1 43 2)) hm156 ⟨⟨_, _, rfl⟩, rfl⟩ rfl rfl ?_
    refine w_call (q := 22) (n := 0) (vs := [.inr (.inr (some 38)), .inl (m.1 43 2)]) (rest := []) (la := [oR 38, oI (m.1 43 2)]) hm156 ⟨⟨_, _, rfl⟩, rfl⟩ rfl rfl rfl rfl hm217 rfl rfl (fun _ => ⟨_, _, rfl, rfl⟩) rfl (Wp.mono h ?_)
    rintro _ m1 ⟨r1, rfl, h⟩
    change Wp _ _ 22 _ [.inl r1] _ _
    exact w_reti hm156 ⟨⟨_, _, rfl⟩, rfl⟩ rfl h
  · have h := h.2 hc
    refine w_iconst (q := 8) hm156 ⟨⟨_, _, rfl⟩, rfl⟩ iconst_m1 ?_
    refine w_goto (q := 22) hm156 ⟨_, _, rfl⟩ ?_
    exact w_reti hm156 ⟨⟨_, _, rfl⟩, rfl⟩ rfl h
theorem v_X8_kindAt_38 {d : Nat} {x1 : Int32} {m : dM} {Q : Int32 → dM → Prop} (h : ((x1.toInt < 0 → j_X8_kindAt_38_20 (d + 1) m Q) ∧ (0 ≤ x1.toInt → ((400 < x1.toInt → j_X8_kindAt_38_20 (d + 1) m Q) ∧ (x1.toInt ≤ 400 → ((0 ≤ x1.toInt ∧ x1.toInt < 401) ∧ Q (m.1 39 x1.toNatClampNeg) m)))))) : c_X8_kindAt_38 (d + 1) x1 m Q := by
  refine w_iload_n (q := 1) hm216 ⟨⟨_, _, rfl⟩, rfl⟩ rfl ?_
  refine w_if_lt (q := 4) (X := x1.toInt) hm216 ⟨⟨_, _, rfl⟩, rfl⟩ rfl (fun hc => ?_) (fun hc => ?_)
  · have h := h.1 hc
    exact Wp.wk [false, false] h
  · have h := h.2 hc
    refine w_iload_n (q := 5) hm216 ⟨⟨_, _, rfl⟩, rfl⟩ rfl ?_
    refine w_sipush (q := 8) hm216 ⟨⟨_, _, rfl⟩, rfl⟩ sipush_400 ?_
    refine w_icmp_gt (q := 11) (X := x1.toInt) (Y := 400) hm216 ⟨⟨_, _, rfl⟩, rfl⟩ rfl (by decide) (fun hc => ?_) (fun hc => ?_)
    · have h := h.1 hc
      exact Wp.wk [false, false] h
    · have h := h.2 hc
      refine w_aload_n (q := 12) hm216 ⟨⟨_, _, rfl⟩, rfl⟩ rfl ?_
      refine w_getr (q := 15) hm216 ⟨⟨_, _, rfl⟩, rfl⟩ rfl ?_
      refine w_iload_n (q := 16) hm216 ⟨⟨_, _, rfl⟩, rfl⟩ rfl ?_
      obtain ⟨hi, h⟩ := h
      refine w_iald (q := 17) (v := (m.1 39 x1.toNatClampNeg)) hm216 ⟨⟨_, _, rfl⟩, rfl⟩ rfl hi rfl rfl ?_
      refine w_goto (q := 22) hm216 ⟨_, _, rfl⟩ ?_
      exact w_reti hm216 ⟨⟨_, _, rfl⟩, rfl⟩ rfl h
theorem v_X8_kindAt_38_20 {d : Nat} {m : dM} {Q : Int32 → dM → Prop} (h : Q (24 : Int32) m) : j_X8_kindAt_38_20 (d + 1) m Q := by
  refine w_bipush (q := 22) hm216 ⟨⟨_, _, rfl⟩, rfl⟩ bipush_24 ?_
  exact w_reti hm216 ⟨⟨_, _, rfl⟩, rfl⟩ rfl h
theorem v_X5_indexOf_45 {d : Nat} {x1 : Int32} {y2 : Int64} {m : dM} {Q : Int32 → dM → Prop} (h : j_X5_indexOf_45_3 (d + 1) x1 y2 (0 : Int32) m Q) : c_X5_indexOf_45 (d + 1) x1 y2 m Q := by
  refine w_iconst (q := 1) hm199 ⟨⟨_, _, rfl⟩, rfl⟩ iconst_0 ?_
  refine w_istore (q := 3) (l' := [oR 45, oI x1, oL y2, none, oI (0 : Int32)]) hm199 ⟨⟨_, _, rfl⟩, rfl⟩ rfl rfl rfl ?_
  exact h
theorem v_X5_indexOf_45_3 {d : Nat} {x1 : Int32} {y2 : Int64} {x4 : Int32} {m : dM} {Q : Int32 → dM → Prop} (h : ((x1.toInt ≤ x4.toInt → j_X5_indexOf_45_34 (d + 1) m Q) ∧ (x4.toInt < x1.toInt → ((7 ≤ x4.toInt → j_X5_indexOf_45_34 (d + 1) m Q) ∧ (x4.toInt < 7 → ((0 ≤ x4.toInt ∧ x4.toInt < 7) ∧ (((lg_cmp (m.2.1 45 x4.toNatClampNeg) y2).toInt ≠ 0 → j_X5_indexOf_45_3 (d + 1) x1 y2 (x4 + (1 : Int32)) m Q) ∧ ((lg_cmp (m.2.1 45 x4.toNatClampNeg) y2).toInt = 0 → Q x4 m)))))))) : j_X5_indexOf_45_3 (d + 1) x1 y2 x4 m Q := by
  refine w_iload (q := 5) hm199 ⟨⟨_, _, rfl⟩, rfl⟩ rfl ?_
  refine w_iload_n (q := 6) hm199 ⟨⟨_, _, rfl⟩, rfl⟩ rfl ?_
  refine w_icmp_ge (q := 9) (X := x4.toInt) (Y := x1.toInt) hm199 ⟨⟨_, _, rfl⟩, rfl⟩ rfl rfl (fun hc => ?_) (fun hc => ?_)
  · have h := h.1 hc
    exact Wp.wk [false, false, false, false, false] h
  · have h := h.2 hc
    refine w_iload (q := 11) hm199 ⟨⟨_, _, rfl⟩, rfl⟩ rfl ?_
    refine w_aload_n (q := 12) hm199 ⟨⟨_, _, rfl⟩, rfl⟩ rfl ?_
    refine w_alenL (q := 13) hm199 ⟨⟨_, _, rfl⟩, rfl⟩ rfl alen_7 ?_
    refine w_icmp_ge (q := 16) (X := x4.toInt) (Y := 7) hm199 ⟨⟨_, _, rfl⟩, rfl⟩ rfl (by decide) (fun hc => ?_) (fun hc => ?_)
    · have h := h.1 hc
      exact Wp.wk [false, false, false, false, false] h
    · have h := h.2 hc
      refine w_aload_n (q := 17) hm199 ⟨⟨_, _, rfl⟩, rfl⟩ rfl ?_
      refine w_iload (q := 19) hm199 ⟨⟨_, _, rfl⟩, rfl⟩ rfl ?_
      obtain ⟨hi, h⟩ := h
      refine w_lald (q := 20) (v := (m.2.1 45 x4.toNatClampNeg)) hm199 ⟨⟨_, _, rfl⟩, rfl⟩ rfl hi rfl rfl ?_
      refine w_lload_n (q := 21) hm199 ⟨⟨_, _, rfl⟩, rfl⟩ rfl ?_
      refine w_lcmp (q := 22) hm199 ⟨⟨_, _, rfl⟩, rfl⟩ ?_
      refine w_if_ne (q := 25) (X := (lg_cmp (m.2.1 45 x4.toNatClampNeg) y2).toInt) hm199 ⟨⟨_, _, rfl⟩, rfl⟩ rfl (fun hc => ?_) (fun hc => ?_)
      · have h := h.1 hc
        refine w_iinc (q := 31) (l' := [oR 45, oI x1, oL y2, none, oI (x4 + (1 : Int32))]) hm199 ⟨⟨_, _, rfl⟩, rfl⟩ rfl rfl rfl iconst_1 rfl ?_
        refine w_goto (q := 3) hm199 ⟨_, _, rfl⟩ ?_
        exact h
      · have h := h.2 hc
        refine w_iload (q := 27) hm199 ⟨⟨_, _, rfl⟩, rfl⟩ rfl ?_
        exact w_reti hm199 ⟨⟨_, _, rfl⟩, rfl⟩ rfl h
theorem v_X5_indexOf_45_34 {d : Nat} {m : dM} {Q : Int32 → dM → Prop} (h : Q (-1 : Int32) m) : j_X5_indexOf_45_34 (d + 1) m Q := by
  refine w_iconst (q := 35) hm199 ⟨⟨_, _, rfl⟩, rfl⟩ iconst_m1 ?_
  exact w_reti hm199 ⟨⟨_, _, rfl⟩, rfl⟩ rfl h
theorem v_X5_indexOf_46 {d : Nat} {x1 : Int32} {y2 : Int64} {m : dM} {Q : Int32 → dM → Prop} (h : j_X5_indexOf_46_3 (d + 1) x1 y2 (0 : Int32) m Q) : c_X5_indexOf_46 (d + 1) x1 y2 m Q := by
  refine w_iconst (q := 1) hm199 ⟨⟨_, _, rfl⟩, rfl⟩ iconst_0 ?_
  refine w_istore (q := 3) (l' := [oR 46, oI x1, oL y2, none, oI (0 : Int32)]) hm199 ⟨⟨_, _, rfl⟩, rfl⟩ rfl rfl rfl ?_
  exact h
theorem v_X5_indexOf_46_3 {d : Nat} {x1 : Int32} {y2 : Int64} {x4 : Int32} {m : dM} {Q : Int32 → dM → Prop} (h : ((x1.toInt ≤ x4.toInt → j_X5_indexOf_46_34 (d + 1) m Q) ∧ (x4.toInt < x1.toInt → ((8 ≤ x4.toInt → j_X5_indexOf_46_34 (d + 1) m Q) ∧ (x4.toInt < 8 → ((0 ≤ x4.toInt ∧ x4.toInt < 8) ∧ (((lg_cmp (m.2.1 46 x4.toNatClampNeg) y2).toInt ≠ 0 → j_X5_indexOf_46_3 (d + 1) x1 y2 (x4 + (1 : Int32)) m Q) ∧ ((lg_cmp (m.2.1 46 x4.toNatClampNeg) y2).toInt = 0 → Q x4 m)))))))) : j_X5_indexOf_46_3 (d + 1) x1 y2 x4 m Q := by
  refine w_iload (q := 5) hm199 ⟨⟨_, _, rfl⟩, rfl⟩ rfl ?_
  refine w_iload_n (q := 6) hm199 ⟨⟨_, _, rfl⟩, rfl⟩ rfl ?_
  refine w_icmp_ge (q := 9) (X := x4.toInt) (Y := x1.toInt) hm199 ⟨⟨_, _, rfl⟩, rfl⟩ rfl rfl (fun hc => ?_) (fun hc => ?_)
  · have h := h.1 hc
    exact Wp.wk [false, false, false, false, false] h
  · have h := h.2 hc
    refine w_iload (q := 11) hm199 ⟨⟨_, _, rfl⟩, rfl⟩ rfl ?_
    refine w_aload_n (q := 12) hm199 ⟨⟨_, _, rfl⟩, rfl⟩ rfl ?_
    refine w_alenL (q := 13) hm199 ⟨⟨_, _, rfl⟩, rfl⟩ rfl alen_8 ?_
    refine w_icmp_ge (q := 16) (X := x4.toInt) (Y := 8) hm199 ⟨⟨_, _, rfl⟩, rfl⟩ rfl (by decide) (fun hc => ?_) (fun hc => ?_)
    · have h := h.1 hc
      exact Wp.wk [false, false, false, false, false] h
    · have h := h.2 hc
      refine w_aload_n (q := 17) hm199 ⟨⟨_, _, rfl⟩, rfl⟩ rfl ?_
      refine w_iload (q := 19) hm199 ⟨⟨_, _, rfl⟩, rfl⟩ rfl ?_
      obtain ⟨hi, h⟩ := h
      refine w_lald (q := 20) (v := (m.2.1 46 x4.toNatClampNeg)) hm199 ⟨⟨_, _, rfl⟩, rfl⟩ rfl hi rfl rfl ?_
      refine w_lload_n (q := 21) hm199 ⟨⟨_, _, rfl⟩, rfl⟩ rfl ?_
      refine w_lcmp (q := 22) hm199 ⟨⟨_, _, rfl⟩, rfl⟩ ?_
      refine w_if_ne (q := 25) (X := (lg_cmp (m.2.1 46 x4.toNatClampNeg) y2).toInt) hm199 ⟨⟨_, _, rfl⟩, rfl⟩ rfl (fun hc => ?_) (fun hc => ?_)
      · have h := h.1 hc
        refine w_iinc (q := 31) (l' := [oR 46, oI x1, oL y2, none, oI (x4 + (1 : Int32))]) hm199 ⟨⟨_, _, rfl⟩, rfl⟩ rfl rfl rfl iconst_1 rfl ?_
        refine w_goto (q := 3) hm199 ⟨_, _, rfl⟩ ?_
        exact h
      · have h := h.2 hc
        refine w_iload (q := 27) hm199 ⟨⟨_, _, rfl⟩, rfl⟩ rfl ?_
        exact w_reti hm199 ⟨⟨_, _, rfl⟩, rfl⟩ rfl h
theorem v_X5_indexOf_46_34 {d : Nat} {m : dM} {Q : Int32 → dM → Prop} (h : Q (-1 : Int32) m) : j_X5_indexOf_46_34 (d + 1) m Q := by
  refine w_iconst (q := 35) hm199 ⟨⟨_, _, rfl⟩, rfl⟩ iconst_m1 ?_
  exact w_reti hm199 ⟨⟨_, _, rfl⟩, rfl⟩ rfl h
theorem v_X5_fail_44 {d : Nat} {x1 : Int32} {m : dM} {Q : Int32 → dM → Prop} (h : Q (0 : Int32) (dSet m 44 5 x1)) : c_X5_fail_44 (d + 1) x1 m Q := by
  refine w_aload_n (q := 1) hm188 ⟨⟨_, _, rfl⟩, rfl⟩ rfl ?_
  refine w_iload_n (q := 2) hm188 ⟨⟨_, _, rfl⟩, rfl⟩ rfl ?_
  refine w_putf (q := 5) hm188 ⟨⟨_, _, rfl⟩, rfl⟩ rfl rfl rfl ?_
  refine w_iconst (q := 6) hm188 ⟨⟨_, _, rfl⟩, rfl⟩ iconst_0 ?_
  exact w_retz hm188 ⟨⟨_, _, rfl⟩, rfl⟩ rfl (by decide) h
theorem v_X5_isNewName_44 {d : Nat} {m : dM} {Q : Int32 → dM → Prop} (h : c_X8_nameAt_38 d (m.1 44 4) m (fun r1 m1 => c_X5_indexOf_45 d (m1.1 20 0) r1 m1 (fun r2 m2 => ((r2.toInt ≠ (-1) → j_X5_isNewName_44_50 (d + 1) m2 Q) ∧ (r2.toInt = (-1) → c_X5_indexOf_46 d (m2.1 20 2) r1 m2 (fun r3 m3 => ((r3.toInt = (-1) → Q (1 : Int32) m3) ∧ (r3.toInt ≠ (-1) → j_X5_isNewName_44_50 (d + 1) m3 Q)))))))) : c_X5_isNewName_44 (d + 1) m Q := by
  refine w_aload_n (q := 1) hm197 ⟨⟨_, _, rfl⟩, rfl⟩ rfl ?_
  refine w_getr (q := 4) hm197 ⟨⟨_, _, rfl⟩, rfl⟩ rfl ?_
  refine w_aload_n (q := 5) hm197 ⟨⟨_, _, rfl⟩, rfl⟩ rfl ?_
  refine w_getf (q := 8) (v := (m.1 44 4)) hm197 ⟨⟨_, _, rfl⟩, rfl⟩ rfl rfl ?_
  refine w_call (q := 11) (n := 0) (vs := [.inr (.inr (some 38)), .inl (m.1 44 4)]) (rest := []) (la := [oR 38, oI (m.1 44 4)]) hm197 ⟨⟨_, _, rfl⟩, rfl⟩ rfl rfl rfl rfl hm219 rfl rfl (fun _ => ⟨_, _, rfl, rfl⟩) rfl (Wp.mono h ?_)
  rintro _ m1 ⟨r1, rfl, h⟩
  change Wp _ _ 11 _ [.inr (.inl r1)] _ _
  refine w_lstore_n (q := 12) (l' := [oR 44, oL r1, none, none]) hm197 ⟨⟨_, _, rfl⟩, rfl⟩ rfl rfl rfl ?_
  refine w_aload_n (q := 13) hm197 ⟨⟨_, _, rfl⟩, rfl⟩ rfl ?_
  refine w_getr (q := 16) hm197 ⟨⟨_, _, rfl⟩, rfl⟩ rfl ?_
  refine w_aload_n (q := 17) hm197 ⟨⟨_, _, rfl⟩, rfl⟩ rfl ?_
  refine w_getr (q := 20) hm197 ⟨⟨_, _, rfl⟩, rfl⟩ rfl ?_
  refine w_getf (q := 23) (v := (m1.1 20 0)) hm197 ⟨⟨_, _, rfl⟩, rfl⟩ rfl rfl ?_
  refine w_lload_n (q := 24) hm197 ⟨⟨_, _, rfl⟩, rfl⟩ rfl ?_
  refine w_call (q := 27) (n := 1) (vs := [.inr (.inr (some 45)), .inl (m1.1 20 0), .inr (.inl r1)]) (rest := []) (la := [oR 45, oI (m1.1 20 0), oL r1, none, none]) hm197 ⟨⟨_, _, rfl⟩, rfl⟩ rfl rfl rfl rfl hm199 rfl rfl (fun hz => absurd hz (by decide)) rfl (Wp.mono h ?_)
  rintro _ m2 ⟨r2, rfl, h⟩
  change Wp _ _ 27 _ [.inl r2] _ _
  refine w_iconst (q := 28) hm197 ⟨⟨_, _, rfl⟩, rfl⟩ iconst_m1 ?_
  refine w_icmp_ne (q := 31) (X := r2.toInt) (Y := (-1)) hm197 ⟨⟨_, _, rfl⟩, rfl⟩ rfl (by decide) (fun hc => ?_) (fun hc => ?_)
  · have h := h.1 hc
    exact Wp.wk [true, false, false, false] h
  · have h := h.2 hc
    refine w_aload_n (q := 32) hm197 ⟨⟨_, _, rfl⟩, rfl⟩ rfl ?_
    refine w_getr (q := 35) hm197 ⟨⟨_, _, rfl⟩, rfl⟩ rfl ?_
    refine w_aload_n (q := 36) hm197 ⟨⟨_, _, rfl⟩, rfl⟩ rfl ?_
    refine w_getr (q := 39) hm197 ⟨⟨_, _, rfl⟩, rfl⟩ rfl ?_
    refine w_getf (q := 42) (v := (m2.1 20 2)) hm197 ⟨⟨_, _, rfl⟩, rfl⟩ rfl rfl ?_
    refine w_lload_n (q := 43) hm197 ⟨⟨_, _, rfl⟩, rfl⟩ rfl ?_
    refine w_call (q := 46) (n := 1) (vs := [.inr (.inr (some 46)), .inl (m2.1 20 2), .inr (.inl r1)]) (rest := []) (la := [oR 46, oI (m2.1 20 2), oL r1, none, none]) hm197 ⟨⟨_, _, rfl⟩, rfl⟩ rfl rfl rfl rfl hm199 rfl rfl (fun hz => absurd hz (by decide)) rfl (Wp.mono h ?_)
    rintro _ m3 ⟨r3, rfl, h⟩
    change Wp _ _ 46 _ [.inl r3] _ _
    refine w_iconst (q := 47) hm197 ⟨⟨_, _, rfl⟩, rfl⟩ iconst_m1 ?_
    refine w_icmp_eq (q := 50) (X := r3.toInt) (Y := (-1)) hm197 ⟨⟨_, _, rfl⟩, rfl⟩ rfl (by decide) (fun hc => ?_) (fun hc => ?_)
    · have h := h.1 hc
      refine w_iconst (q := 55) hm197 ⟨⟨_, _, rfl⟩, rfl⟩ iconst_0 ?_
      refine w_istore_n (q := 56) (l' := [oR 44, oL r1, none, oI (0 : Int32)]) hm197 ⟨⟨_, _, rfl⟩, rfl⟩ rfl rfl rfl ?_
      refine w_iload_n (q := 57) hm197 ⟨⟨_, _, rfl⟩, rfl⟩ rfl ?_
      refine w_if_eq (q := 60) (X := 0) hm197 ⟨⟨_, _, rfl⟩, rfl⟩ (by decide) (fun _ => ?_) (fun hc => absurd hc (by decide))
      refine w_iconst (q := 69) hm197 ⟨⟨_, _, rfl⟩, rfl⟩ iconst_1 ?_
      exact w_retz hm197 ⟨⟨_, _, rfl⟩, rfl⟩ rfl (by decide) h
    · have h := h.2 hc
      exact Wp.wk [true, false, false, false] h
theorem v_X5_isNewName_44_50 {d : Nat} {m : dM} {Q : Int32 → dM → Prop} (h : c_X5_fail_44 d (3 : Int32) m (fun r1 m1 => (r1 = 0 ∨ r1 = 1) ∧ Q r1 m1)) : j_X5_isNewName_44_50 (d + 1) m Q := by
  refine w_iconst (q := 51) hm197 ⟨⟨_, _, rfl⟩, rfl⟩ iconst_1 ?_
  refine w_goto (q := 55) hm197 ⟨_, _, rfl⟩ ?_
  refine w_istore_n (q := 56) (l' := [oR 44, none, none, oI (1 : Int32)]) hm197 ⟨⟨_, _, rfl⟩, rfl⟩ rfl rfl rfl ?_
  refine w_iload_n (q := 57) hm197 ⟨⟨_, _, rfl⟩, rfl⟩ rfl ?_
  refine w_if_eq (q := 60) (X := 1) hm197 ⟨⟨_, _, rfl⟩, rfl⟩ (by decide) (fun hc => absurd hc (by decide)) (fun _ => ?_)
  refine w_aload_n (q := 61) hm197 ⟨⟨_, _, rfl⟩, rfl⟩ rfl ?_
  refine w_iconst (q := 62) hm197 ⟨⟨_, _, rfl⟩, rfl⟩ iconst_3 ?_
  refine w_call (q := 65) (n := 0) (vs := [.inr (.inr (some 44)), .inl (3 : Int32)]) (rest := []) (la := [oR 44, oI (3 : Int32)]) hm197 ⟨⟨_, _, rfl⟩, rfl⟩ rfl rfl rfl rfl hm188 rfl rfl (fun _ => ⟨_, _, rfl, rfl⟩) rfl (Wp.mono h ?_)
  rintro _ m1 ⟨r1, rfl, h⟩
  change Wp _ _ 65 _ [.inl r1] _ _
  refine w_goto (q := 69) hm197 ⟨_, _, rfl⟩ ?_
  exact w_retz hm197 ⟨⟨_, _, rfl⟩, rfl⟩ rfl h.1 h.2
theorem v_X5_isWithin_44 {d : Nat} {x1 : Int32} {x2 : Int32} {m : dM} {Q : Int32 → dM → Prop} (h : c_X8_numberAt_38 d (m.1 44 4) m (fun r1 m1 => ((r1.toInt < x1.toInt → j_X5_isWithin_44_22 (d + 1) m1 Q) ∧ (x1.toInt ≤ r1.toInt → ((r1.toInt ≤ x2.toInt → Q (1 : Int32) (dSet m1 44 4 ((m1.1 44 4) + (1 : Int32)))) ∧ (x2.toInt < r1.toInt → j_X5_isWithin_44_22 (d + 1) m1 Q)))))) : c_X5_isWithin_44 (d + 1) x1 x2 m Q := by
  refine w_aload_n (q := 1) hm196 ⟨⟨_, _, rfl⟩, rfl⟩ rfl ?_
  refine w_getr (q := 4) hm196 ⟨⟨_, _, rfl⟩, rfl⟩ rfl ?_
  refine w_aload_n (q := 5) hm196 ⟨⟨_, _, rfl⟩, rfl⟩ rfl ?_
  refine w_getf (q := 8) (v := (m.1 44 4)) hm196 ⟨⟨_, _, rfl⟩, rfl⟩ rfl rfl ?_
  refine w_call (q := 11) (n := 0) (vs := [.inr (.inr (some 38)), .inl (m.1 44 4)]) (rest := []) (la := [oR 38, oI (m.1 44 4)]) hm196 ⟨⟨_, _, rfl⟩, rfl⟩ rfl rfl rfl rfl hm218 rfl rfl (fun _ => ⟨_, _, rfl, rfl⟩) rfl (Wp.mono h ?_)
  rintro _ m1 ⟨r1, rfl, h⟩
  change Wp _ _ 11 _ [.inl r1] _ _
  refine w_istore_n (q := 12) (l' := [oR 44, oI x1, oI x2, oI r1]) hm196 ⟨⟨_, _, rfl⟩, rfl⟩ rfl rfl rfl ?_
  refine w_iload_n (q := 13) hm196 ⟨⟨_, _, rfl⟩, rfl⟩ rfl ?_
  refine w_iload_n (q := 14) hm196 ⟨⟨_, _, rfl⟩, rfl⟩ rfl ?_
  refine w_icmp_lt (q := 17) (X := r1.toInt) (Y := x1.toInt) hm196 ⟨⟨_, _, rfl⟩, rfl⟩ rfl rfl (fun hc => ?_) (fun hc => ?_)
  · have h := h.1 hc
    exact Wp.wk [true, false, false, false] h
  · have h := h.2 hc
    refine w_iload_n (q := 18) hm196 ⟨⟨_, _, rfl⟩, rfl⟩ rfl ?_
    refine w_iload_n (q := 19) hm196 ⟨⟨_, _, rfl⟩, rfl⟩ rfl ?_
    refine w_icmp_le (q := 22) (X := r1.toInt) (Y := x2.toInt) hm196 ⟨⟨_, _, rfl⟩, rfl⟩ rfl rfl (fun hc => ?_) (fun hc => ?_)
    · have h := h.1 hc
      refine w_aload_n (q := 29) hm196 ⟨⟨_, _, rfl⟩, rfl⟩ rfl ?_
      refine w_dup (q := 30) hm196 ⟨⟨_, _, rfl⟩, rfl⟩ rfl ?_
      refine w_getf (q := 33) (v := (m1.1 44 4)) hm196 ⟨⟨_, _, rfl⟩, rfl⟩ rfl rfl ?_
      refine w_iconst (q := 34) hm196 ⟨⟨_, _, rfl⟩, rfl⟩ iconst_1 ?_
      refine w_iadd (q := 35) hm196 ⟨⟨_, _, rfl⟩, rfl⟩ ?_
      refine w_putf (q := 38) hm196 ⟨⟨_, _, rfl⟩, rfl⟩ rfl rfl rfl ?_
      refine w_iconst (q := 39) hm196 ⟨⟨_, _, rfl⟩, rfl⟩ iconst_1 ?_
      exact w_retz hm196 ⟨⟨_, _, rfl⟩, rfl⟩ rfl (by decide) h
    · have h := h.2 hc
      exact Wp.wk [true, false, false, false] h
theorem v_X5_isWithin_44_22 {d : Nat} {m : dM} {Q : Int32 → dM → Prop} (h : c_X5_fail_44 d (5 : Int32) m (fun r1 m1 => (r1 = 0 ∨ r1 = 1) ∧ Q r1 m1)) : j_X5_isWithin_44_22 (d + 1) m Q := by
  refine w_aload_n (q := 23) hm196 ⟨⟨_, _, rfl⟩, rfl⟩ rfl ?_
  refine w_iconst (q := 24) hm196 ⟨⟨_, _, rfl⟩, rfl⟩ iconst_5 ?_
  refine w_call (q := 27) (n := 0) (vs := [.inr (.inr (some 44)), .inl (5 : Int32)]) (rest := []) (la := [oR 44, oI (5 : Int32)]) hm196 ⟨⟨_, _, rfl⟩, rfl⟩ rfl rfl rfl rfl hm188 rfl rfl (fun _ => ⟨_, _, rfl, rfl⟩) rfl (Wp.mono h ?_)
  rintro _ m1 ⟨r1, rfl, h⟩
  change Wp _ _ 27 _ [.inl r1] _ _
  exact w_retz hm196 ⟨⟨_, _, rfl⟩, rfl⟩ rfl h.1 h.2
theorem v_X5_takeFlat_44 {d : Nat} {m : dM} {Q : Int32 → dM → Prop} (h : (((m.1 20 0).toInt < 7 → c_X5_isNewName_44 d m (fun r1 m1 => ((r1.toInt ≠ 0 → c_X8_nameAt_38 d (m1.1 44 4) m1 (fun r2 m2 => ((0 ≤ (m.1 20 0).toInt ∧ (m.1 20 0).toInt < 7) ∧ c_X8_numberAt_38 d ((m2.1 44 4) + (1 : Int32)) (dSet (dSetL m2 45 (m.1 20 0).toNatClampNeg r2) 44 4 ((m2.1 44 4) + (1 : Int32))) (fun r3 m3 => ((0 ≤ (m.1 20 0).toInt ∧ (m.1 20 0).toInt < 7) ∧ c_X5_isWithin_44 d (0 : Int32) (9 : Int32) (dSet (dSet m3 21 (m.1 20 0).toNatClampNeg r3) 20 0 ((m3.1 20 0) + (1 : Int32))) (fun r4 m4 => (r4 = 0 ∨ r4 = 1) ∧ Q r4 m4)))))) ∧ (r1.toInt = 0 → Q (0 : Int32) m1)))) ∧ (7 ≤ (m.1 20 0).toInt → c_X5_fail_44 d (2 : Int32) m (fun r5 m5 => (r5 = 0 ∨ r5 = 1) ∧ Q r5 m5)))) : c_X5_takeFlat_44 (d + 1) m Q := by
  refine w_aload_n (q := 1) hm190 ⟨⟨_, _, rfl⟩, rfl⟩ rfl ?_
  refine w_getr (q := 4) hm190 ⟨⟨_, _, rfl⟩, rfl⟩ rfl ?_
  refine w_getf (q := 7) (v := (m.1 20 0)) hm190 ⟨⟨_, _, rfl⟩, rfl⟩ rfl rfl ?_
  refine w_istore_n (q := 8) (l' := [oR 44, oI (m.1 20 0)]) hm190 ⟨⟨_, _, rfl⟩, rfl⟩ rfl rfl rfl ?_
  refine w_iload_n (q := 9) hm190 ⟨⟨_, _, rfl⟩, rfl⟩ rfl ?_
  refine w_bipush (q := 11) hm190 ⟨⟨_, _, rfl⟩, rfl⟩ bipush_7 ?_
  refine w_icmp_lt (q := 14) (X := (m.1 20 0).toInt) (Y := 7) hm190 ⟨⟨_, _, rfl⟩, rfl⟩ rfl (by decide) (fun hc => ?_) (fun hc => ?_)
  · have h := h.1 hc
    refine w_aload_n (q := 21) hm190 ⟨⟨_, _, rfl⟩, rfl⟩ rfl ?_
    refine w_call (q := 24) (n := 3) (vs := [.inr (.inr (some 44))]) (rest := []) (la := [oR 44, none, none, none]) hm190 ⟨⟨_, _, rfl⟩, rfl⟩ rfl rfl rfl rfl hm197 rfl rfl (fun _ => ⟨_, _, rfl, rfl⟩) rfl (Wp.mono h ?_)
    rintro _ m1 ⟨r1, rfl, h⟩
    change Wp _ _ 24 _ [.inl r1] _ _
    refine w_if_ne (q := 27) (X := r1.toInt) hm190 ⟨⟨_, _, rfl⟩, rfl⟩ rfl (fun hc => ?_) (fun hc => ?_)
    · have h := h.1 hc
      refine w_aload_n (q := 30) hm190 ⟨⟨_, _, rfl⟩, rfl⟩ rfl ?_
      refine w_getr (q := 33) hm190 ⟨⟨_, _, rfl⟩, rfl⟩ rfl ?_
      refine w_iload_n (q := 34) hm190 ⟨⟨_, _, rfl⟩, rfl⟩ rfl ?_
      refine w_aload_n (q := 35) hm190 ⟨⟨_, _, rfl⟩, rfl⟩ rfl ?_
      refine w_getr (q := 38) hm190 ⟨⟨_, _, rfl⟩, rfl⟩ rfl ?_
      refine w_aload_n (q := 39) hm190 ⟨⟨_, _, rfl⟩, rfl⟩ rfl ?_
      refine w_getf (q := 42) (v := (m1.1 44 4)) hm190 ⟨⟨_, _, rfl⟩, rfl⟩ rfl rfl ?_
      refine w_call (q := 45) (n := 0) (vs := [.inr (.inr (some 38)), .inl (m1.1 44 4)]) (rest := [.inl (m.1 20 0), .inr (.inr (some 45))]) (la := [oR 38, oI (m1.1 44 4)]) hm190 ⟨⟨_, _, rfl⟩, rfl⟩ rfl rfl rfl rfl hm219 rfl rfl (fun _ => ⟨_, _, rfl, rfl⟩) rfl (Wp.mono h ?_)
      rintro _ m2 ⟨r2, rfl, h⟩
      change Wp _ _ 45 _ [.inr (.inl r2), .inl (m.1 20 0), .inr (.inr (some 45))] _ _
      obtain ⟨hi, h⟩ := h
      refine w_last (q := 46) hm190 ⟨⟨_, _, rfl⟩, rfl⟩ rfl hi rfl rfl ?_
      refine w_aload_n (q := 47) hm190 ⟨⟨_, _, rfl⟩, rfl⟩ rfl ?_
      refine w_dup (q := 48) hm190 ⟨⟨_, _, rfl⟩, rfl⟩ rfl ?_
      refine w_getf (q := 51) (v := (m2.1 44 4)) hm190 ⟨⟨_, _, rfl⟩, rfl⟩ rfl rfl ?_
      refine w_iconst (q := 52) hm190 ⟨⟨_, _, rfl⟩, rfl⟩ iconst_1 ?_
      refine w_iadd (q := 53) hm190 ⟨⟨_, _, rfl⟩, rfl⟩ ?_
      refine w_putf (q := 56) hm190 ⟨⟨_, _, rfl⟩, rfl⟩ rfl rfl rfl ?_
      refine w_aload_n (q := 57) hm190 ⟨⟨_, _, rfl⟩, rfl⟩ rfl ?_
      refine w_getr (q := 60) hm190 ⟨⟨_, _, rfl⟩, rfl⟩ rfl ?_
      refine w_getr (q := 63) hm190 ⟨⟨_, _, rfl⟩, rfl⟩ rfl ?_
      refine w_iload_n (q := 64) hm190 ⟨⟨_, _, rfl⟩, rfl⟩ rfl ?_
      refine w_aload_n (q := 65) hm190 ⟨⟨_, _, rfl⟩, rfl⟩ rfl ?_
      refine w_getr (q := 68) hm190 ⟨⟨_, _, rfl⟩, rfl⟩ rfl ?_
      refine w_aload_n (q := 69) hm190 ⟨⟨_, _, rfl⟩, rfl⟩ rfl ?_
      refine w_getf (q := 72) (v := ((m2.1 44 4) + (1 : Int32))) hm190 ⟨⟨_, _, rfl⟩, rfl⟩ rfl rfl ?_
      refine w_call (q := 75) (n := 0) (vs := [.inr (.inr (some 38)), .inl ((m2.1 44 4) + (1 : Int32))]) (rest := [.inl (m.1 20 0), .inr (.inr (some 21))]) (la := [oR 38, oI ((m2.1 44 4) + (1 : Int32))]) hm190 ⟨⟨_, _, rfl⟩, rfl⟩ rfl rfl rfl rfl hm218 rfl rfl (fun _ => ⟨_, _, rfl, rfl⟩) rfl (Wp.mono h ?_)
      rintro _ m3 ⟨r3, rfl, h⟩
      change Wp _ _ 75 _ [.inl r3, .inl (m.1 20 0), .inr (.inr (some 21))] _ _
      obtain ⟨hi, h⟩ := h
      refine w_iast (q := 76) hm190 ⟨⟨_, _, rfl⟩, rfl⟩ rfl hi rfl rfl ?_
      refine w_aload_n (q := 77) hm190 ⟨⟨_, _, rfl⟩, rfl⟩ rfl ?_
      refine w_getr (q := 80) hm190 ⟨⟨_, _, rfl⟩, rfl⟩ rfl ?_
      refine w_dup (q := 81) hm190 ⟨⟨_, _, rfl⟩, rfl⟩ rfl ?_
      refine w_getf (q := 84) (v := (m3.1 20 0)) hm190 ⟨⟨_, _, rfl⟩, rfl⟩ rfl rfl ?_
      refine w_iconst (q := 85) hm190 ⟨⟨_, _, rfl⟩, rfl⟩ iconst_1 ?_
      refine w_iadd (q := 86) hm190 ⟨⟨_, _, rfl⟩, rfl⟩ ?_
      refine w_putf (q := 89) hm190 ⟨⟨_, _, rfl⟩, rfl⟩ rfl rfl rfl ?_
      refine w_aload_n (q := 90) hm190 ⟨⟨_, _, rfl⟩, rfl⟩ rfl ?_
      refine w_iconst (q := 91) hm190 ⟨⟨_, _, rfl⟩, rfl⟩ iconst_0 ?_
      refine w_bipush (q := 93) hm190 ⟨⟨_, _, rfl⟩, rfl⟩ bipush_9 ?_
      refine w_call (q := 96) (n := 1) (vs := [.inr (.inr (some 44)), .inl (0 : Int32), .inl (9 : Int32)]) (rest := []) (la := [oR 44, oI (0 : Int32), oI (9 : Int32), none]) hm190 ⟨⟨_, _, rfl⟩, rfl⟩ rfl rfl rfl rfl hm196 rfl rfl (fun _ => ⟨_, _, rfl, rfl⟩) rfl (Wp.mono h ?_)
      rintro _ m4 ⟨r4, rfl, h⟩
      change Wp _ _ 96 _ [.inl r4] _ _
      exact w_retz hm190 ⟨⟨_, _, rfl⟩, rfl⟩ rfl h.1 h.2
    · have h := h.2 hc
      refine w_iconst (q := 28) hm190 ⟨⟨_, _, rfl⟩, rfl⟩ iconst_0 ?_
      exact w_retz hm190 ⟨⟨_, _, rfl⟩, rfl⟩ rfl (by decide) h
  · have h := h.2 hc
    refine w_aload_n (q := 15) hm190 ⟨⟨_, _, rfl⟩, rfl⟩ rfl ?_
    refine w_iconst (q := 16) hm190 ⟨⟨_, _, rfl⟩, rfl⟩ iconst_2 ?_
    refine w_call (q := 19) (n := 0) (vs := [.inr (.inr (some 44)), .inl (2 : Int32)]) (rest := []) (la := [oR 44, oI (2 : Int32)]) hm190 ⟨⟨_, _, rfl⟩, rfl⟩ rfl rfl rfl rfl hm188 rfl rfl (fun _ => ⟨_, _, rfl, rfl⟩) rfl (Wp.mono h ?_)
    rintro _ m5 ⟨r5, rfl, h⟩
    change Wp _ _ 19 _ [.inl r5] _ _
    exact w_retz hm190 ⟨⟨_, _, rfl⟩, rfl⟩ rfl h.1 h.2
theorem v_X5_flatNamed_44 {d : Nat} {m : dM} {Q : Int32 → dM → Prop} (h : c_X8_nameAt_38 d (m.1 44 4) m (fun r1 m1 => c_X5_indexOf_45 d (m.1 20 0) r1 m1 (fun r2 m2 => ((r2.toInt ≠ (-1) → j_X5_flatNamed_44_36 (d + 1) r2 m2 Q) ∧ (r2.toInt = (-1) → j_X5_flatNamed_44_36 (d + 1) r2 (dSet m2 44 5 (4 : Int32)) Q))))) : c_X5_flatNamed_44 (d + 1) m Q := by
  refine w_aload_n (q := 1) hm198 ⟨⟨_, _, rfl⟩, rfl⟩ rfl ?_
  refine w_getr (q := 4) hm198 ⟨⟨_, _, rfl⟩, rfl⟩ rfl ?_
  refine w_aload_n (q := 5) hm198 ⟨⟨_, _, rfl⟩, rfl⟩ rfl ?_
  refine w_getr (q := 8) hm198 ⟨⟨_, _, rfl⟩, rfl⟩ rfl ?_
  refine w_getf (q := 11) (v := (m.1 20 0)) hm198 ⟨⟨_, _, rfl⟩, rfl⟩ rfl rfl ?_
  refine w_aload_n (q := 12) hm198 ⟨⟨_, _, rfl⟩, rfl⟩ rfl ?_
  refine w_getr (q := 15) hm198 ⟨⟨_, _, rfl⟩, rfl⟩ rfl ?_
  refine w_aload_n (q := 16) hm198 ⟨⟨_, _, rfl⟩, rfl⟩ rfl ?_
  refine w_getf (q := 19) (v := (m.1 44 4)) hm198 ⟨⟨_, _, rfl⟩, rfl⟩ rfl rfl ?_
  refine w_call (q := 22) (n := 0) (vs := [.inr (.inr (some 38)), .inl (m.1 44 4)]) (rest := [.inl (m.1 20 0), .inr (.inr (some 45))]) (la := [oR 38, oI (m.1 44 4)]) hm198 ⟨⟨_, _, rfl⟩, rfl⟩ rfl rfl rfl rfl hm219 rfl rfl (fun _ => ⟨_, _, rfl, rfl⟩) rfl (Wp.mono h ?_)
  rintro _ m1 ⟨r1, rfl, h⟩
  change Wp _ _ 22 _ [.inr (.inl r1), .inl (m.1 20 0), .inr (.inr (some 45))] _ _
  refine w_call (q := 25) (n := 1) (vs := [.inr (.inr (some 45)), .inl (m.1 20 0), .inr (.inl r1)]) (rest := []) (la := [oR 45, oI (m.1 20 0), oL r1, none, none]) hm198 ⟨⟨_, _, rfl⟩, rfl⟩ rfl rfl rfl rfl hm199 rfl rfl (fun hz => absurd hz (by decide)) rfl (Wp.mono h ?_)
  rintro _ m2 ⟨r2, rfl, h⟩
  change Wp _ _ 25 _ [.inl r2] _ _
  refine w_istore_n (q := 26) (l' := [oR 44, oI r2]) hm198 ⟨⟨_, _, rfl⟩, rfl⟩ rfl rfl rfl ?_
  refine w_iload_n (q := 27) hm198 ⟨⟨_, _, rfl⟩, rfl⟩ rfl ?_
  refine w_iconst (q := 28) hm198 ⟨⟨_, _, rfl⟩, rfl⟩ iconst_m1 ?_
  refine w_icmp_ne (q := 31) (X := r2.toInt) (Y := (-1)) hm198 ⟨⟨_, _, rfl⟩, rfl⟩ rfl (by decide) (fun hc => ?_) (fun hc => ?_)
  · have h := h.1 hc
    exact Wp.wk [false, true] h
  · have h := h.2 hc
    refine w_aload_n (q := 32) hm198 ⟨⟨_, _, rfl⟩, rfl⟩ rfl ?_
    refine w_iconst (q := 33) hm198 ⟨⟨_, _, rfl⟩, rfl⟩ iconst_4 ?_
    refine w_putf (q := 36) hm198 ⟨⟨_, _, rfl⟩, rfl⟩ rfl rfl rfl ?_
    exact Wp.wk [false, true] h
theorem v_X5_flatNamed_44_36 {d : Nat} {x1 : Int32} {m : dM} {Q : Int32 → dM → Prop} (h : Q x1 m) : j_X5_flatNamed_44_36 (d + 1) x1 m Q := by
  refine w_iload_n (q := 37) hm198 ⟨⟨_, _, rfl⟩, rfl⟩ rfl ?_
  exact w_reti hm198 ⟨⟨_, _, rfl⟩, rfl⟩ rfl h
theorem v_X3_endsOf_20 {d : Nat} {x1 : Int32} {m : dM} {Q : Int32 → dM → Prop} (h : ((0 ≤ x1.toInt ∧ x1.toInt < 10) ∧ ((0 ≤ x1.toInt ∧ x1.toInt < 10) ∧ Q (((1 : Int32) <<< ((m.1 22 x1.toNatClampNeg) &&& 31)) ||| ((1 : Int32) <<< ((m.1 23 x1.toNatClampNeg) &&& 31))) m))) : c_X3_endsOf_20 (d + 1) x1 m Q := by
  refine w_iconst (q := 1) hm172 ⟨⟨_, _, rfl⟩, rfl⟩ iconst_1 ?_
  refine w_aload_n (q := 2) hm172 ⟨⟨_, _, rfl⟩, rfl⟩ rfl ?_
  refine w_getr (q := 5) hm172 ⟨⟨_, _, rfl⟩, rfl⟩ rfl ?_
  refine w_iload_n (q := 6) hm172 ⟨⟨_, _, rfl⟩, rfl⟩ rfl ?_
  obtain ⟨hi, h⟩ := h
  refine w_iald (q := 7) (v := (m.1 22 x1.toNatClampNeg)) hm172 ⟨⟨_, _, rfl⟩, rfl⟩ rfl hi rfl rfl ?_
  refine w_ishl (q := 8) hm172 ⟨⟨_, _, rfl⟩, rfl⟩ ?_
  refine w_iconst (q := 9) hm172 ⟨⟨_, _, rfl⟩, rfl⟩ iconst_1 ?_
  refine w_aload_n (q := 10) hm172 ⟨⟨_, _, rfl⟩, rfl⟩ rfl ?_
  refine w_getr (q := 13) hm172 ⟨⟨_, _, rfl⟩, rfl⟩ rfl ?_
  refine w_iload_n (q := 14) hm172 ⟨⟨_, _, rfl⟩, rfl⟩ rfl ?_
  obtain ⟨hi, h⟩ := h
  refine w_iald (q := 15) (v := (m.1 23 x1.toNatClampNeg)) hm172 ⟨⟨_, _, rfl⟩, rfl⟩ rfl hi rfl rfl ?_
  refine w_ishl (q := 16) hm172 ⟨⟨_, _, rfl⟩, rfl⟩ ?_
  refine w_ior (q := 17) hm172 ⟨⟨_, _, rfl⟩, rfl⟩ ?_
  exact w_reti hm172 ⟨⟨_, _, rfl⟩, rfl⟩ rfl h
