section
theorem v_X2_checkCounted_43 {d : Nat} {x1 : Int32} {x2 : Int32} {x3 : Int32} {x4 : Int32} {m : dM} {Q : dM → Prop} (h : ((x1.toInt ≤ x2.toInt → c_X2_checkRow_43 d x3 x4 m (fun m1 => j_X2_checkCounted_43_20 (d + 1) m1 Q)) ∧ (x2.toInt < x1.toInt → j_X2_checkCounted_43_20 (d + 1) (dSet m 43 3 (2 : Int32)) Q))) : c_X2_checkCounted_43 (d + 1) x1 x2 x3 x4 m Q := by
  refine w_iload_n (q := 1) hm162 ⟨⟨_, _, rfl⟩, rfl⟩ rfl ?_
  refine w_iload_n (q := 2) hm162 ⟨⟨_, _, rfl⟩, rfl⟩ rfl ?_
  refine w_icmp_le (q := 5) (X := x1.toInt) (Y := x2.toInt) hm162 ⟨⟨_, _, rfl⟩, rfl⟩ rfl rfl (fun hc => ?_) (fun hc => ?_)
  · have h := h.1 hc
    refine w_aload_n (q := 14) hm162 ⟨⟨_, _, rfl⟩, rfl⟩ rfl ?_
    refine w_iload_n (q := 15) hm162 ⟨⟨_, _, rfl⟩, rfl⟩ rfl ?_
    refine w_iload (q := 17) hm162 ⟨⟨_, _, rfl⟩, rfl⟩ rfl ?_
    refine w_call (q := 20) (n := 2) (vs := [.inr (.inr (some 43)), .inl x3, .inl x4]) (rest := []) (la := [oR 43, oI x3, oI x4, none, none]) hm162 ⟨⟨_, _, rfl⟩, rfl⟩ rfl rfl rfl rfl hm161 rfl rfl (fun _ => ⟨_, _, rfl, rfl⟩) rfl (Wp.mono h ?_)
    rintro _ m1 ⟨rfl, h⟩
    change Wp _ _ 20 _ [] _ _
    exact Wp.wk [false, false, false, false, false] h
  · have h := h.2 hc
    refine w_aload_n (q := 6) hm162 ⟨⟨_, _, rfl⟩, rfl⟩ rfl ?_
    refine w_iconst (q := 7) hm162 ⟨⟨_, _, rfl⟩, rfl⟩ iconst_2 ?_
    refine w_putf (q := 10) hm162 ⟨⟨_, _, rfl⟩, rfl⟩ rfl rfl rfl ?_
    refine w_goto (q := 20) hm162 ⟨_, _, rfl⟩ ?_
    exact Wp.wk [false, false, false, false, false] h
theorem v_X2_checkCounted_43_20 {d : Nat} {m : dM} {Q : dM → Prop} (h : Q m) : j_X2_checkCounted_43_20 (d + 1) m Q := by
  exact w_retv hm162 ⟨⟨_, _, rfl⟩, rfl⟩ rfl h
theorem v_X8_nameAt_38 {d : Nat} {x1 : Int32} {m : dM} {Q : Int64 → dM → Prop} (h : ((x1.toInt < 0 → j_X8_nameAt_38_20 (d + 1) m Q) ∧ (0 ≤ x1.toInt → ((400 < x1.toInt → j_X8_nameAt_38_20 (d + 1) m Q) ∧ (x1.toInt ≤ 400 → ((0 ≤ x1.toInt ∧ x1.toInt < 401) ∧ Q (m.2.1 41 x1.toNatClampNeg) m)))))) : c_X8_nameAt_38 (d + 1) x1 m Q := by
  refine w_iload_n (q := 1) hm219 ⟨⟨_, _, rfl⟩, rfl⟩ rfl ?_
  refine w_if_lt (q := 4) (X := x1.toInt) hm219 ⟨⟨_, _, rfl⟩, rfl⟩ rfl (fun hc => ?_) (fun hc => ?_)
  · have h := h.1 hc
    exact Wp.wk [false, false] h
  · have h := h.2 hc
    refine w_iload_n (q := 5) hm219 ⟨⟨_, _, rfl⟩, rfl⟩ rfl ?_
    refine w_sipush (q := 8) hm219 ⟨⟨_, _, rfl⟩, rfl⟩ sipush_400 ?_
    refine w_icmp_gt (q := 11) (X := x1.toInt) (Y := 400) hm219 ⟨⟨_, _, rfl⟩, rfl⟩ rfl (by decide) (fun hc => ?_) (fun hc => ?_)
    · have h := h.1 hc
      exact Wp.wk [false, false] h
    · have h := h.2 hc
      refine w_aload_n (q := 12) hm219 ⟨⟨_, _, rfl⟩, rfl⟩ rfl ?_
      refine w_getr (q := 15) hm219 ⟨⟨_, _, rfl⟩, rfl⟩ rfl ?_
      refine w_iload_n (q := 16) hm219 ⟨⟨_, _, rfl⟩, rfl⟩ rfl ?_
      obtain ⟨hi, h⟩ := h
      refine w_lald (q := 17) (v := (m.2.1 41 x1.toNatClampNeg)) hm219 ⟨⟨_, _, rfl⟩, rfl⟩ rfl hi rfl rfl ?_
      refine w_goto (q := 21) hm219 ⟨_, _, rfl⟩ ?_
      exact w_retl hm219 ⟨⟨_, _, rfl⟩, rfl⟩ rfl h
theorem v_X8_nameAt_38_20 {d : Nat} {m : dM} {Q : Int64 → dM → Prop} (h : Q (0 : Int64) m) : j_X8_nameAt_38_20 (d + 1) m Q := by
  refine w_lconst (q := 21) hm219 ⟨⟨_, _, rfl⟩, rfl⟩ lconst_0 ?_
  exact w_retl hm219 ⟨⟨_, _, rfl⟩, rfl⟩ rfl h
theorem v_X8_numberAt_38 {d : Nat} {x1 : Int32} {m : dM} {Q : Int32 → dM → Prop} (h : c_X8_nameAt_38 d x1 m (fun r1 m1 => Q r1.toInt32 m1)) : c_X8_numberAt_38 (d + 1) x1 m Q := by
  refine w_aload_n (q := 1) hm218 ⟨⟨_, _, rfl⟩, rfl⟩ rfl ?_
  refine w_iload_n (q := 2) hm218 ⟨⟨_, _, rfl⟩, rfl⟩ rfl ?_
  refine w_call (q := 5) (n := 0) (vs := [.inr (.inr (some 38)), .inl x1]) (rest := []) (la := [oR 38, oI x1]) hm218 ⟨⟨_, _, rfl⟩, rfl⟩ rfl rfl rfl rfl hm219 rfl rfl (fun _ => ⟨_, _, rfl, rfl⟩) rfl (Wp.mono h ?_)
  rintro _ m1 ⟨r1, rfl, h⟩
  change Wp _ _ 5 _ [.inr (.inl r1)] _ _
  refine w_l2i (q := 6) hm218 ⟨⟨_, _, rfl⟩, rfl⟩ ?_
  exact w_reti hm218 ⟨⟨_, _, rfl⟩, rfl⟩ rfl h
theorem v_X2_unit_43 {d : Nat} {x1 : Int32} {m : dM} {Q : Int32 → dM → Prop} (h : c_X2_kind_43 d m (fun r1 m1 => ((r1.toInt ≠ 23 → ((r1.toInt < 13 → j_X2_unit_43_67 (d + 1) x1 r1 m1 Q) ∧ (13 ≤ r1.toInt → ((21 < r1.toInt → j_X2_unit_43_67 (d + 1) x1 r1 m1 Q) ∧ (r1.toInt ≤ 21 → c_X4_put_29 d (((4 : Int32) + r1) - (13 : Int32)) m1 (fun m2 => c_X2_step_43 d m2 (fun r3 m3 => (r3 = 0 ∨ r3 = 1) ∧ Q r3 m3))))))) ∧ (r1.toInt = 23 → c_X8_numberAt_38 d (m1.1 43 2) m1 (fun r4 m4 => c_X4_put_29 d ((13 : Int32) + r4) m4 (fun m5 => c_X2_step_43 d m5 (fun r6 m6 => (r6 = 0 ∨ r6 = 1) ∧ Q r6 m6))))))) : c_X2_unit_43 (d + 1) x1 m Q := by
  refine w_aload_n (q := 1) hm167 ⟨⟨_, _, rfl⟩, rfl⟩ rfl ?_
  refine w_call (q := 4) (n := 0) (vs := [.inr (.inr (some 43))]) (rest := []) (la := [oR 43]) hm167 ⟨⟨_, _, rfl⟩, rfl⟩ rfl rfl rfl rfl hm157 rfl rfl (fun _ => ⟨_, _, rfl, rfl⟩) rfl (Wp.mono h ?_)
  rintro _ m1 ⟨r1, rfl, h⟩
  change Wp _ _ 4 _ [.inl r1] _ _
  refine w_istore_n (q := 5) (l' := [oR 43, oI x1, oI r1]) hm167 ⟨⟨_, _, rfl⟩, rfl⟩ rfl rfl rfl ?_
  refine w_iload_n (q := 6) hm167 ⟨⟨_, _, rfl⟩, rfl⟩ rfl ?_
  refine w_bipush (q := 8) hm167 ⟨⟨_, _, rfl⟩, rfl⟩ bipush_23 ?_
  refine w_icmp_ne (q := 11) (X := r1.toInt) (Y := 23) hm167 ⟨⟨_, _, rfl⟩, rfl⟩ rfl (by decide) (fun hc => ?_) (fun hc => ?_)
  · have h := h.1 hc
    refine w_iload_n (q := 38) hm167 ⟨⟨_, _, rfl⟩, rfl⟩ rfl ?_
    refine w_bipush (q := 40) hm167 ⟨⟨_, _, rfl⟩, rfl⟩ bipush_13 ?_
    refine w_icmp_lt (q := 43) (X := r1.toInt) (Y := 13) hm167 ⟨⟨_, _, rfl⟩, rfl⟩ rfl (by decide) (fun hc => ?_) (fun hc => ?_)
    · have h := h.1 hc
      exact h
    · have h := h.2 hc
      refine w_iload_n (q := 44) hm167 ⟨⟨_, _, rfl⟩, rfl⟩ rfl ?_
      refine w_bipush (q := 46) hm167 ⟨⟨_, _, rfl⟩, rfl⟩ bipush_21 ?_
      refine w_icmp_gt (q := 49) (X := r1.toInt) (Y := 21) hm167 ⟨⟨_, _, rfl⟩, rfl⟩ rfl (by decide) (fun hc => ?_) (fun hc => ?_)
      · have h := h.1 hc
        exact h
      · have h := h.2 hc
        refine w_aload_n (q := 50) hm167 ⟨⟨_, _, rfl⟩, rfl⟩ rfl ?_
        refine w_getr (q := 53) hm167 ⟨⟨_, _, rfl⟩, rfl⟩ rfl ?_
        refine w_iconst (q := 54) hm167 ⟨⟨_, _, rfl⟩, rfl⟩ iconst_4 ?_
        refine w_iload_n (q := 55) hm167 ⟨⟨_, _, rfl⟩, rfl⟩ rfl ?_
        refine w_iadd (q := 56) hm167 ⟨⟨_, _, rfl⟩, rfl⟩ ?_
        refine w_bipush (q := 58) hm167 ⟨⟨_, _, rfl⟩, rfl⟩ bipush_13 ?_
        refine w_isub (q := 59) hm167 ⟨⟨_, _, rfl⟩, rfl⟩ ?_
        refine w_call (q := 62) (n := 0) (vs := [.inr (.inr (some 29)), .inl (((4 : Int32) + r1) - (13 : Int32))]) (rest := []) (la := [oR 29, oI (((4 : Int32) + r1) - (13 : Int32))]) hm167 ⟨⟨_, _, rfl⟩, rfl⟩ rfl rfl rfl rfl hm179 rfl rfl (fun _ => ⟨_, _, rfl, rfl⟩) rfl (Wp.mono h ?_)
        rintro _ m2 ⟨rfl, h⟩
        change Wp _ _ 62 _ [] _ _
        refine w_aload_n (q := 63) hm167 ⟨⟨_, _, rfl⟩, rfl⟩ rfl ?_
        refine w_call (q := 66) (n := 0) (vs := [.inr (.inr (some 43))]) (rest := []) (la := [oR 43]) hm167 ⟨⟨_, _, rfl⟩, rfl⟩ rfl rfl rfl rfl hm159 rfl rfl (fun _ => ⟨_, _, rfl, rfl⟩) rfl (Wp.mono h ?_)
        rintro _ m3 ⟨r3, rfl, h⟩
        change Wp _ _ 66 _ [.inl r3] _ _
        exact w_retz hm167 ⟨⟨_, _, rfl⟩, rfl⟩ rfl h.1 h.2
  · have h := h.2 hc
    refine w_aload_n (q := 12) hm167 ⟨⟨_, _, rfl⟩, rfl⟩ rfl ?_
    refine w_getr (q := 15) hm167 ⟨⟨_, _, rfl⟩, rfl⟩ rfl ?_
    refine w_bipush (q := 17) hm167 ⟨⟨_, _, rfl⟩, rfl⟩ bipush_13 ?_
    refine w_aload_n (q := 18) hm167 ⟨⟨_, _, rfl⟩, rfl⟩ rfl ?_
    refine w_getr (q := 21) hm167 ⟨⟨_, _, rfl⟩, rfl⟩ rfl ?_
    refine w_aload_n (q := 22) hm167 ⟨⟨_, _, rfl⟩, rfl⟩ rfl ?_
    refine w_getf (q := 25) (v := (m1.1 43 2)) hm167 ⟨⟨_, _, rfl⟩, rfl⟩ rfl rfl ?_
    refine w_call (q := 28) (n := 0) (vs := [.inr (.inr (some 38)), .inl (m1.1 43 2)]) (rest := [.inl (13 : Int32), .inr (.inr (some 29))]) (la := [oR 38, oI (m1.1 43 2)]) hm167 ⟨⟨_, _, rfl⟩, rfl⟩ rfl rfl rfl rfl hm218 rfl rfl (fun _ => ⟨_, _, rfl, rfl⟩) rfl (Wp.mono h ?_)
    rintro _ m4 ⟨r4, rfl, h⟩
    change Wp _ _ 28 _ [.inl r4, .inl (13 : Int32), .inr (.inr (some 29))] _ _
    refine w_iadd (q := 29) hm167 ⟨⟨_, _, rfl⟩, rfl⟩ ?_
    refine w_call (q := 32) (n := 0) (vs := [.inr (.inr (some 29)), .inl ((13 : Int32) + r4)]) (rest := []) (la := [oR 29, oI ((13 : Int32) + r4)]) hm167 ⟨⟨_, _, rfl⟩, rfl⟩ rfl rfl rfl rfl hm179 rfl rfl (fun _ => ⟨_, _, rfl, rfl⟩) rfl (Wp.mono h ?_)
    rintro _ m5 ⟨rfl, h⟩
    change Wp _ _ 32 _ [] _ _
    refine w_aload_n (q := 33) hm167 ⟨⟨_, _, rfl⟩, rfl⟩ rfl ?_
    refine w_call (q := 36) (n := 0) (vs := [.inr (.inr (some 43))]) (rest := []) (la := [oR 43]) hm167 ⟨⟨_, _, rfl⟩, rfl⟩ rfl rfl rfl rfl hm159 rfl rfl (fun _ => ⟨_, _, rfl, rfl⟩) rfl (Wp.mono h ?_)
    rintro _ m6 ⟨r6, rfl, h⟩
    change Wp _ _ 36 _ [.inl r6] _ _
    exact w_retz hm167 ⟨⟨_, _, rfl⟩, rfl⟩ rfl h.1 h.2
theorem v_X2_unit_43_67 {d : Nat} {x1 : Int32} {x2 : Int32} {m : dM} {Q : Int32 → dM → Prop} (h : ((x2.toInt = 40 → ((x1.toInt < 6 → c_X2_step_43 d m (fun r1 m1 => ((r1.toInt = 0 → j_X2_unit_43_123 (d + 1) m1 Q) ∧ (r1.toInt ≠ 0 → c_X2_sum_43 d (x1 + (1 : Int32)) m1 (fun r2 m2 => ((r2.toInt = 0 → j_X2_unit_43_123 (d + 1) m2 Q) ∧ (r2.toInt ≠ 0 → c_X2_need_43 d (41 : Int32) m2 (fun r3 m3 => ((r3.toInt = 0 → j_X2_unit_43_123 (d + 1) m3 Q) ∧ (r3.toInt ≠ 0 → Q (1 : Int32) m3)))))))))) ∧ (6 ≤ x1.toInt → c_X2_fail_43 d (2 : Int32) m (fun r4 m4 => (r4 = 0 ∨ r4 = 1) ∧ Q r4 m4)))) ∧ (x2.toInt ≠ 40 → c_X2_fail_43 d (1 : Int32) m (fun r5 m5 => (r5 = 0 ∨ r5 = 1) ∧ Q r5 m5)))) : j_X2_unit_43_67 (d + 1) x1 x2 m Q := by
  refine w_iload_n (q := 68) hm167 ⟨⟨_, _, rfl⟩, rfl⟩ rfl ?_
  refine w_bipush (q := 70) hm167 ⟨⟨_, _, rfl⟩, rfl⟩ bipush_40 ?_
  refine w_icmp_eq (q := 73) (X := x2.toInt) (Y := 40) hm167 ⟨⟨_, _, rfl⟩, rfl⟩ rfl (by decide) (fun hc => ?_) (fun hc => ?_)
  · have h := h.1 hc
    refine w_iload_n (q := 80) hm167 ⟨⟨_, _, rfl⟩, rfl⟩ rfl ?_
    refine w_bipush (q := 82) hm167 ⟨⟨_, _, rfl⟩, rfl⟩ bipush_6 ?_
    refine w_icmp_lt (q := 85) (X := x1.toInt) (Y := 6) hm167 ⟨⟨_, _, rfl⟩, rfl⟩ rfl (by decide) (fun hc => ?_) (fun hc => ?_)
    · have h := h.1 hc
      refine w_aload_n (q := 94) hm167 ⟨⟨_, _, rfl⟩, rfl⟩ rfl ?_
      refine w_call (q := 97) (n := 0) (vs := [.inr (.inr (some 43))]) (rest := []) (la := [oR 43]) hm167 ⟨⟨_, _, rfl⟩, rfl⟩ rfl rfl rfl rfl hm159 rfl rfl (fun _ => ⟨_, _, rfl, rfl⟩) rfl (Wp.mono h ?_)
      rintro _ m1 ⟨r1, rfl, h⟩
      change Wp _ _ 97 _ [.inl r1] _ _
      refine w_if_eq (q := 100) (X := r1.toInt) hm167 ⟨⟨_, _, rfl⟩, rfl⟩ rfl (fun hc => ?_) (fun hc => ?_)
      · have h := h.1 hc
        exact Wp.wk [false, false, false] h
      · have h := h.2 hc
        refine w_aload_n (q := 101) hm167 ⟨⟨_, _, rfl⟩, rfl⟩ rfl ?_
        refine w_iload_n (q := 102) hm167 ⟨⟨_, _, rfl⟩, rfl⟩ rfl ?_
        refine w_iconst (q := 103) hm167 ⟨⟨_, _, rfl⟩, rfl⟩ iconst_1 ?_
        refine w_iadd (q := 104) hm167 ⟨⟨_, _, rfl⟩, rfl⟩ ?_
        refine w_call (q := 107) (n := 2) (vs := [.inr (.inr (some 43)), .inl (x1 + (1 : Int32))]) (rest := []) (la := [oR 43, oI (x1 + (1 : Int32)), none, none]) hm167 ⟨⟨_, _, rfl⟩, rfl⟩ rfl rfl rfl rfl hm165 rfl rfl (fun _ => ⟨_, _, rfl, rfl⟩) rfl (Wp.mono h ?_)
        rintro _ m2 ⟨r2, rfl, h⟩
        change Wp _ _ 107 _ [.inl r2] _ _
        refine w_if_eq (q := 110) (X := r2.toInt) hm167 ⟨⟨_, _, rfl⟩, rfl⟩ rfl (fun hc => ?_) (fun hc => ?_)
        · have h := h.1 hc
          exact Wp.wk [false, false, false] h
        · have h := h.2 hc
          refine w_aload_n (q := 111) hm167 ⟨⟨_, _, rfl⟩, rfl⟩ rfl ?_
          refine w_bipush (q := 113) hm167 ⟨⟨_, _, rfl⟩, rfl⟩ bipush_41 ?_
          refine w_call (q := 116) (n := 0) (vs := [.inr (.inr (some 43)), .inl (41 : Int32)]) (rest := []) (la := [oR 43, oI (41 : Int32)]) hm167 ⟨⟨_, _, rfl⟩, rfl⟩ rfl rfl rfl rfl hm160 rfl rfl (fun _ => ⟨_, _, rfl, rfl⟩) rfl (Wp.mono h ?_)
          rintro _ m3 ⟨r3, rfl, h⟩
          change Wp _ _ 116 _ [.inl r3] _ _
          refine w_if_eq (q := 119) (X := r3.toInt) hm167 ⟨⟨_, _, rfl⟩, rfl⟩ rfl (fun hc => ?_) (fun hc => ?_)
          · have h := h.1 hc
            exact Wp.wk [false, false, false] h
          · have h := h.2 hc
            refine w_iconst (q := 120) hm167 ⟨⟨_, _, rfl⟩, rfl⟩ iconst_1 ?_
            refine w_goto (q := 124) hm167 ⟨_, _, rfl⟩ ?_
            exact w_retz hm167 ⟨⟨_, _, rfl⟩, rfl⟩ rfl (by decide) h
    · have h := h.2 hc
      refine w_aload_n (q := 86) hm167 ⟨⟨_, _, rfl⟩, rfl⟩ rfl ?_
      refine w_iconst (q := 87) hm167 ⟨⟨_, _, rfl⟩, rfl⟩ iconst_2 ?_
      refine w_call (q := 90) (n := 0) (vs := [.inr (.inr (some 43)), .inl (2 : Int32)]) (rest := []) (la := [oR 43, oI (2 : Int32)]) hm167 ⟨⟨_, _, rfl⟩, rfl⟩ rfl rfl rfl rfl hm158 rfl rfl (fun _ => ⟨_, _, rfl, rfl⟩) rfl (Wp.mono h ?_)
      rintro _ m4 ⟨r4, rfl, h⟩
      change Wp _ _ 90 _ [.inl r4] _ _
      refine w_goto (q := 124) hm167 ⟨_, _, rfl⟩ ?_
      exact w_retz hm167 ⟨⟨_, _, rfl⟩, rfl⟩ rfl h.1 h.2
  · have h := h.2 hc
    refine w_aload_n (q := 74) hm167 ⟨⟨_, _, rfl⟩, rfl⟩ rfl ?_
    refine w_iconst (q := 75) hm167 ⟨⟨_, _, rfl⟩, rfl⟩ iconst_1 ?_
    refine w_call (q := 78) (n := 0) (vs := [.inr (.inr (some 43)), .inl (1 : Int32)]) (rest := []) (la := [oR 43, oI (1 : Int32)]) hm167 ⟨⟨_, _, rfl⟩, rfl⟩ rfl rfl rfl rfl hm158 rfl rfl (fun _ => ⟨_, _, rfl, rfl⟩) rfl (Wp.mono h ?_)
    rintro _ m5 ⟨r5, rfl, h⟩
    change Wp _ _ 78 _ [.inl r5] _ _
    exact w_retz hm167 ⟨⟨_, _, rfl⟩, rfl⟩ rfl h.1 h.2
theorem v_X2_unit_43_123 {d : Nat} {m : dM} {Q : Int32 → dM → Prop} (h : Q (0 : Int32) m) : j_X2_unit_43_123 (d + 1) m Q := by
  refine w_iconst (q := 124) hm167 ⟨⟨_, _, rfl⟩, rfl⟩ iconst_0 ?_
  exact w_retz hm167 ⟨⟨_, _, rfl⟩, rfl⟩ rfl (by decide) h
theorem v_X2_product_43 {d : Nat} {x1 : Int32} {m : dM} {Q : Int32 → dM → Prop} (h : c_X2_unit_43 d x1 m (fun r1 m1 => ((r1.toInt ≠ 0 → j_X2_product_43_12 (d + 1) x1 (0 : Int32) m1 Q) ∧ (r1.toInt = 0 → Q (0 : Int32) m1)))) : c_X2_product_43 (d + 1) x1 m Q := by
  refine w_aload_n (q := 1) hm166 ⟨⟨_, _, rfl⟩, rfl⟩ rfl ?_
  refine w_iload_n (q := 2) hm166 ⟨⟨_, _, rfl⟩, rfl⟩ rfl ?_
  refine w_call (q := 5) (n := 1) (vs := [.inr (.inr (some 43)), .inl x1]) (rest := []) (la := [oR 43, oI x1, none]) hm166 ⟨⟨_, _, rfl⟩, rfl⟩ rfl rfl rfl rfl hm167 rfl rfl (fun _ => ⟨_, _, rfl, rfl⟩) rfl (Wp.mono h ?_)
  rintro _ m1 ⟨r1, rfl, h⟩
  change Wp _ _ 5 _ [.inl r1] _ _
  refine w_if_ne (q := 8) (X := r1.toInt) hm166 ⟨⟨_, _, rfl⟩, rfl⟩ rfl (fun hc => ?_) (fun hc => ?_)
  · have h := h.1 hc
    refine w_iconst (q := 11) hm166 ⟨⟨_, _, rfl⟩, rfl⟩ iconst_0 ?_
    refine w_istore_n (q := 12) (l' := [oR 43, oI x1, oI (0 : Int32), none]) hm166 ⟨⟨_, _, rfl⟩, rfl⟩ rfl rfl rfl ?_
    exact h
  · have h := h.2 hc
    refine w_iconst (q := 9) hm166 ⟨⟨_, _, rfl⟩, rfl⟩ iconst_0 ?_
    exact w_retz hm166 ⟨⟨_, _, rfl⟩, rfl⟩ rfl (by decide) h
theorem v_X2_product_43_12 {d : Nat} {x1 : Int32} {x2 : Int32} {m : dM} {Q : Int32 → dM → Prop} (h : ((400 ≤ x2.toInt → j_X2_product_43_83 (d + 1) m Q) ∧ (x2.toInt < 400 → c_X2_kind_43 d m (fun r1 m1 => ((r1.toInt = 42 → j_X2_product_43_37 (d + 1) x1 x2 m1 Q) ∧ (r1.toInt ≠ 42 → c_X2_kind_43 d m1 (fun r2 m2 => ((r2.toInt ≠ 47 → j_X2_product_43_83 (d + 1) m2 Q) ∧ (r2.toInt = 47 → j_X2_product_43_37 (d + 1) x1 x2 m2 Q))))))))) : j_X2_product_43_12 (d + 1) x1 x2 m Q := by
  refine w_iload_n (q := 13) hm166 ⟨⟨_, _, rfl⟩, rfl⟩ rfl ?_
  refine w_sipush (q := 16) hm166 ⟨⟨_, _, rfl⟩, rfl⟩ sipush_400 ?_
  refine w_icmp_ge (q := 19) (X := x2.toInt) (Y := 400) hm166 ⟨⟨_, _, rfl⟩, rfl⟩ rfl (by decide) (fun hc => ?_) (fun hc => ?_)
  · have h := h.1 hc
    exact Wp.wk [false, false, false, false] h
  · have h := h.2 hc
    refine w_aload_n (q := 20) hm166 ⟨⟨_, _, rfl⟩, rfl⟩ rfl ?_
    refine w_call (q := 23) (n := 0) (vs := [.inr (.inr (some 43))]) (rest := []) (la := [oR 43]) hm166 ⟨⟨_, _, rfl⟩, rfl⟩ rfl rfl rfl rfl hm157 rfl rfl (fun _ => ⟨_, _, rfl, rfl⟩) rfl (Wp.mono h ?_)
    rintro _ m1 ⟨r1, rfl, h⟩
    change Wp _ _ 23 _ [.inl r1] _ _
    refine w_bipush (q := 25) hm166 ⟨⟨_, _, rfl⟩, rfl⟩ bipush_42 ?_
    refine w_icmp_eq (q := 28) (X := r1.toInt) (Y := 42) hm166 ⟨⟨_, _, rfl⟩, rfl⟩ rfl (by decide) (fun hc => ?_) (fun hc => ?_)
    · have h := h.1 hc
      exact h
    · have h := h.2 hc
      refine w_aload_n (q := 29) hm166 ⟨⟨_, _, rfl⟩, rfl⟩ rfl ?_
      refine w_call (q := 32) (n := 0) (vs := [.inr (.inr (some 43))]) (rest := []) (la := [oR 43]) hm166 ⟨⟨_, _, rfl⟩, rfl⟩ rfl rfl rfl rfl hm157 rfl rfl (fun _ => ⟨_, _, rfl, rfl⟩) rfl (Wp.mono h ?_)
      rintro _ m2 ⟨r2, rfl, h⟩
      change Wp _ _ 32 _ [.inl r2] _ _
      refine w_bipush (q := 34) hm166 ⟨⟨_, _, rfl⟩, rfl⟩ bipush_47 ?_
      refine w_icmp_ne (q := 37) (X := r2.toInt) (Y := 47) hm166 ⟨⟨_, _, rfl⟩, rfl⟩ rfl (by decide) (fun hc => ?_) (fun hc => ?_)
      · have h := h.1 hc
        exact Wp.wk [false, false, false, false] h
      · have h := h.2 hc
        exact h
theorem v_X2_product_43_37 {d : Nat} {x1 : Int32} {x2 : Int32} {m : dM} {Q : Int32 → dM → Prop} (h : c_X2_kind_43 d m (fun r1 m1 => ((r1.toInt ≠ 42 → c_X2_step_43 d m1 (fun r2 m2 => ((r2.toInt = 0 → j_X2_product_43_67 (d + 1) m2 Q) ∧ (r2.toInt ≠ 0 → c_X2_unit_43 d x1 m2 (fun r3 m3 => ((r3.toInt ≠ 0 → c_X4_put_29 d (3 : Int32) m3 (fun m4 => j_X2_product_43_12 (d + 1) x1 (x2 + (1 : Int32)) m4 Q)) ∧ (r3.toInt = 0 → j_X2_product_43_67 (d + 1) m3 Q))))))) ∧ (r1.toInt = 42 → c_X2_step_43 d m1 (fun r5 m5 => ((r5.toInt = 0 → j_X2_product_43_67 (d + 1) m5 Q) ∧ (r5.toInt ≠ 0 → c_X2_unit_43 d x1 m5 (fun r6 m6 => ((r6.toInt ≠ 0 → c_X4_put_29 d (2 : Int32) m6 (fun m7 => j_X2_product_43_12 (d + 1) x1 (x2 + (1 : Int32)) m7 Q)) ∧ (r6.toInt = 0 → j_X2_product_43_67 (d + 1) m6 Q)))))))))) : j_X2_product_43_37 (d + 1) x1 x2 m Q := by
  refine w_aload_n (q := 38) hm166 ⟨⟨_, _, rfl⟩, rfl⟩ rfl ?_
  refine w_call (q := 41) (n := 0) (vs := [.inr (.inr (some 43))]) (rest := []) (la := [oR 43]) hm166 ⟨⟨_, _, rfl⟩, rfl⟩ rfl rfl rfl rfl hm157 rfl rfl (fun _ => ⟨_, _, rfl, rfl⟩) rfl (Wp.mono h ?_)
  rintro _ m1 ⟨r1, rfl, h⟩
  change Wp _ _ 41 _ [.inl r1] _ _
  refine w_bipush (q := 43) hm166 ⟨⟨_, _, rfl⟩, rfl⟩ bipush_42 ?_
  refine w_icmp_ne (q := 46) (X := r1.toInt) (Y := 42) hm166 ⟨⟨_, _, rfl⟩, rfl⟩ rfl (by decide) (fun hc => ?_) (fun hc => ?_)
  · have h := h.1 hc
    refine w_iconst (q := 51) hm166 ⟨⟨_, _, rfl⟩, rfl⟩ iconst_3 ?_
    refine w_istore_n (q := 52) (l' := [oR 43, oI x1, oI x2, oI (3 : Int32)]) hm166 ⟨⟨_, _, rfl⟩, rfl⟩ rfl rfl rfl ?_
    refine w_aload_n (q := 53) hm166 ⟨⟨_, _, rfl⟩, rfl⟩ rfl ?_
    refine w_call (q := 56) (n := 0) (vs := [.inr (.inr (some 43))]) (rest := []) (la := [oR 43]) hm166 ⟨⟨_, _, rfl⟩, rfl⟩ rfl rfl rfl rfl hm159 rfl rfl (fun _ => ⟨_, _, rfl, rfl⟩) rfl (Wp.mono h ?_)
    rintro _ m2 ⟨r2, rfl, h⟩
    change Wp _ _ 56 _ [.inl r2] _ _
    refine w_if_eq (q := 59) (X := r2.toInt) hm166 ⟨⟨_, _, rfl⟩, rfl⟩ rfl (fun hc => ?_) (fun hc => ?_)
    · have h := h.1 hc
      exact Wp.wk [false, false, false, false] h
    · have h := h.2 hc
      refine w_aload_n (q := 60) hm166 ⟨⟨_, _, rfl⟩, rfl⟩ rfl ?_
      refine w_iload_n (q := 61) hm166 ⟨⟨_, _, rfl⟩, rfl⟩ rfl ?_
      refine w_call (q := 64) (n := 1) (vs := [.inr (.inr (some 43)), .inl x1]) (rest := []) (la := [oR 43, oI x1, none]) hm166 ⟨⟨_, _, rfl⟩, rfl⟩ rfl rfl rfl rfl hm167 rfl rfl (fun _ => ⟨_, _, rfl, rfl⟩) rfl (Wp.mono h ?_)
      rintro _ m3 ⟨r3, rfl, h⟩
      change Wp _ _ 64 _ [.inl r3] _ _
      refine w_if_ne (q := 67) (X := r3.toInt) hm166 ⟨⟨_, _, rfl⟩, rfl⟩ rfl (fun hc => ?_) (fun hc => ?_)
      · have h := h.1 hc
        refine w_aload_n (q := 70) hm166 ⟨⟨_, _, rfl⟩, rfl⟩ rfl ?_
        refine w_getr (q := 73) hm166 ⟨⟨_, _, rfl⟩, rfl⟩ rfl ?_
        refine w_iload_n (q := 74) hm166 ⟨⟨_, _, rfl⟩, rfl⟩ rfl ?_
        refine w_call (q := 77) (n := 0) (vs := [.inr (.inr (some 29)), .inl (3 : Int32)]) (rest := []) (la := [oR 29, oI (3 : Int32)]) hm166 ⟨⟨_, _, rfl⟩, rfl⟩ rfl rfl rfl rfl hm179 rfl rfl (fun _ => ⟨_, _, rfl, rfl⟩) rfl (Wp.mono h ?_)
        rintro _ m4 ⟨rfl, h⟩
        change Wp _ _ 77 _ [] _ _
        refine w_iinc (q := 80) (l' := [oR 43, oI x1, oI (x2 + (1 : Int32)), oI (3 : Int32)]) hm166 ⟨⟨_, _, rfl⟩, rfl⟩ rfl rfl rfl iconst_1 rfl ?_
        refine w_goto (q := 12) hm166 ⟨_, _, rfl⟩ ?_
        exact Wp.wk [true, true, true, false] h
      · have h := h.2 hc
        exact Wp.wk [false, false, false, false] h
  · have h := h.2 hc
    refine w_iconst (q := 47) hm166 ⟨⟨_, _, rfl⟩, rfl⟩ iconst_2 ?_
    refine w_goto (q := 51) hm166 ⟨_, _, rfl⟩ ?_
    refine w_istore_n (q := 52) (l' := [oR 43, oI x1, oI x2, oI (2 : Int32)]) hm166 ⟨⟨_, _, rfl⟩, rfl⟩ rfl rfl rfl ?_
    refine w_aload_n (q := 53) hm166 ⟨⟨_, _, rfl⟩, rfl⟩ rfl ?_
    refine w_call (q := 56) (n := 0) (vs := [.inr (.inr (some 43))]) (rest := []) (la := [oR 43]) hm166 ⟨⟨_, _, rfl⟩, rfl⟩ rfl rfl rfl rfl hm159 rfl rfl (fun _ => ⟨_, _, rfl, rfl⟩) rfl (Wp.mono h ?_)
    rintro _ m5 ⟨r5, rfl, h⟩
    change Wp _ _ 56 _ [.inl r5] _ _
    refine w_if_eq (q := 59) (X := r5.toInt) hm166 ⟨⟨_, _, rfl⟩, rfl⟩ rfl (fun hc => ?_) (fun hc => ?_)
    · have h := h.1 hc
      exact Wp.wk [false, false, false, false] h
    · have h := h.2 hc
      refine w_aload_n (q := 60) hm166 ⟨⟨_, _, rfl⟩, rfl⟩ rfl ?_
      refine w_iload_n (q := 61) hm166 ⟨⟨_, _, rfl⟩, rfl⟩ rfl ?_
      refine w_call (q := 64) (n := 1) (vs := [.inr (.inr (some 43)), .inl x1]) (rest := []) (la := [oR 43, oI x1, none]) hm166 ⟨⟨_, _, rfl⟩, rfl⟩ rfl rfl rfl rfl hm167 rfl rfl (fun _ => ⟨_, _, rfl, rfl⟩) rfl (Wp.mono h ?_)
      rintro _ m6 ⟨r6, rfl, h⟩
      change Wp _ _ 64 _ [.inl r6] _ _
      refine w_if_ne (q := 67) (X := r6.toInt) hm166 ⟨⟨_, _, rfl⟩, rfl⟩ rfl (fun hc => ?_) (fun hc => ?_)
      · have h := h.1 hc
        refine w_aload_n (q := 70) hm166 ⟨⟨_, _, rfl⟩, rfl⟩ rfl ?_
        refine w_getr (q := 73) hm166 ⟨⟨_, _, rfl⟩, rfl⟩ rfl ?_
        refine w_iload_n (q := 74) hm166 ⟨⟨_, _, rfl⟩, rfl⟩ rfl ?_
        refine w_call (q := 77) (n := 0) (vs := [.inr (.inr (some 29)), .inl (2 : Int32)]) (rest := []) (la := [oR 29, oI (2 : Int32)]) hm166 ⟨⟨_, _, rfl⟩, rfl⟩ rfl rfl rfl rfl hm179 rfl rfl (fun _ => ⟨_, _, rfl, rfl⟩) rfl (Wp.mono h ?_)
        rintro _ m7 ⟨rfl, h⟩
        change Wp _ _ 77 _ [] _ _
        refine w_iinc (q := 80) (l' := [oR 43, oI x1, oI (x2 + (1 : Int32)), oI (2 : Int32)]) hm166 ⟨⟨_, _, rfl⟩, rfl⟩ rfl rfl rfl iconst_1 rfl ?_
        refine w_goto (q := 12) hm166 ⟨_, _, rfl⟩ ?_
        exact Wp.wk [true, true, true, false] h
      · have h := h.2 hc
        exact Wp.wk [false, false, false, false] h
theorem v_X2_product_43_67 {d : Nat} {m : dM} {Q : Int32 → dM → Prop} (h : Q (0 : Int32) m) : j_X2_product_43_67 (d + 1) m Q := by
  refine w_iconst (q := 68) hm166 ⟨⟨_, _, rfl⟩, rfl⟩ iconst_0 ?_
  exact w_retz hm166 ⟨⟨_, _, rfl⟩, rfl⟩ rfl (by decide) h
theorem v_X2_product_43_83 {d : Nat} {m : dM} {Q : Int32 → dM → Prop} (h : Q (1 : Int32) m) : j_X2_product_43_83 (d + 1) m Q := by
  refine w_iconst (q := 84) hm166 ⟨⟨_, _, rfl⟩, rfl⟩ iconst_1 ?_
  exact w_retz hm166 ⟨⟨_, _, rfl⟩, rfl⟩ rfl (by decide) h
theorem v_X2_sum_43 {d : Nat} {x1 : Int32} {m : dM} {Q : Int32 → dM → Prop} (h : c_X2_product_43 d x1 m (fun r1 m1 => ((r1.toInt ≠ 0 → j_X2_sum_43_12 (d + 1) x1 (0 : Int32) m1 Q) ∧ (r1.toInt = 0 → Q (0 : Int32) m1)))) : c_X2_sum_43 (d + 1) x1 m Q := by
  refine w_aload_n (q := 1) hm165 ⟨⟨_, _, rfl⟩, rfl⟩ rfl ?_
  refine w_iload_n (q := 2) hm165 ⟨⟨_, _, rfl⟩, rfl⟩ rfl ?_
  refine w_call (q := 5) (n := 2) (vs := [.inr (.inr (some 43)), .inl x1]) (rest := []) (la := [oR 43, oI x1, none, none]) hm165 ⟨⟨_, _, rfl⟩, rfl⟩ rfl rfl rfl rfl hm166 rfl rfl (fun _ => ⟨_, _, rfl, rfl⟩) rfl (Wp.mono h ?_)
  rintro _ m1 ⟨r1, rfl, h⟩
  change Wp _ _ 5 _ [.inl r1] _ _
  refine w_if_ne (q := 8) (X := r1.toInt) hm165 ⟨⟨_, _, rfl⟩, rfl⟩ rfl (fun hc => ?_) (fun hc => ?_)
  · have h := h.1 hc
    refine w_iconst (q := 11) hm165 ⟨⟨_, _, rfl⟩, rfl⟩ iconst_0 ?_
    refine w_istore_n (q := 12) (l' := [oR 43, oI x1, oI (0 : Int32), none]) hm165 ⟨⟨_, _, rfl⟩, rfl⟩ rfl rfl rfl ?_
    exact h
  · have h := h.2 hc
    refine w_iconst (q := 9) hm165 ⟨⟨_, _, rfl⟩, rfl⟩ iconst_0 ?_
    exact w_retz hm165 ⟨⟨_, _, rfl⟩, rfl⟩ rfl (by decide) h
theorem v_X2_sum_43_12 {d : Nat} {x1 : Int32} {x2 : Int32} {m : dM} {Q : Int32 → dM → Prop} (h : ((400 ≤ x2.toInt → j_X2_sum_43_83 (d + 1) m Q) ∧ (x2.toInt < 400 → c_X2_kind_43 d m (fun r1 m1 => ((r1.toInt = 43 → j_X2_sum_43_37 (d + 1) x1 x2 m1 Q) ∧ (r1.toInt ≠ 43 → c_X2_kind_43 d m1 (fun r2 m2 => ((r2.toInt ≠ 45 → j_X2_sum_43_83 (d + 1) m2 Q) ∧ (r2.toInt = 45 → j_X2_sum_43_37 (d + 1) x1 x2 m2 Q))))))))) : j_X2_sum_43_12 (d + 1) x1 x2 m Q := by
  refine w_iload_n (q := 13) hm165 ⟨⟨_, _, rfl⟩, rfl⟩ rfl ?_
  refine w_sipush (q := 16) hm165 ⟨⟨_, _, rfl⟩, rfl⟩ sipush_400 ?_
  refine w_icmp_ge (q := 19) (X := x2.toInt) (Y := 400) hm165 ⟨⟨_, _, rfl⟩, rfl⟩ rfl (by decide) (fun hc => ?_) (fun hc => ?_)
  · have h := h.1 hc
    exact Wp.wk [false, false, false, false] h
  · have h := h.2 hc
    refine w_aload_n (q := 20) hm165 ⟨⟨_, _, rfl⟩, rfl⟩ rfl ?_
    refine w_call (q := 23) (n := 0) (vs := [.inr (.inr (some 43))]) (rest := []) (la := [oR 43]) hm165 ⟨⟨_, _, rfl⟩, rfl⟩ rfl rfl rfl rfl hm157 rfl rfl (fun _ => ⟨_, _, rfl, rfl⟩) rfl (Wp.mono h ?_)
    rintro _ m1 ⟨r1, rfl, h⟩
    change Wp _ _ 23 _ [.inl r1] _ _
    refine w_bipush (q := 25) hm165 ⟨⟨_, _, rfl⟩, rfl⟩ bipush_43 ?_
    refine w_icmp_eq (q := 28) (X := r1.toInt) (Y := 43) hm165 ⟨⟨_, _, rfl⟩, rfl⟩ rfl (by decide) (fun hc => ?_) (fun hc => ?_)
    · have h := h.1 hc
      exact h
    · have h := h.2 hc
      refine w_aload_n (q := 29) hm165 ⟨⟨_, _, rfl⟩, rfl⟩ rfl ?_
      refine w_call (q := 32) (n := 0) (vs := [.inr (.inr (some 43))]) (rest := []) (la := [oR 43]) hm165 ⟨⟨_, _, rfl⟩, rfl⟩ rfl rfl rfl rfl hm157 rfl rfl (fun _ => ⟨_, _, rfl, rfl⟩) rfl (Wp.mono h ?_)
      rintro _ m2 ⟨r2, rfl, h⟩
      change Wp _ _ 32 _ [.inl r2] _ _
      refine w_bipush (q := 34) hm165 ⟨⟨_, _, rfl⟩, rfl⟩ bipush_45 ?_
      refine w_icmp_ne (q := 37) (X := r2.toInt) (Y := 45) hm165 ⟨⟨_, _, rfl⟩, rfl⟩ rfl (by decide) (fun hc => ?_) (fun hc => ?_)
      · have h := h.1 hc
        exact Wp.wk [false, false, false, false] h
      · have h := h.2 hc
        exact h
theorem v_X2_sum_43_37 {d : Nat} {x1 : Int32} {x2 : Int32} {m : dM} {Q : Int32 → dM → Prop} (h : c_X2_kind_43 d m (fun r1 m1 => ((r1.toInt ≠ 43 → c_X2_step_43 d m1 (fun r2 m2 => ((r2.toInt = 0 → j_X2_sum_43_67 (d + 1) m2 Q) ∧ (r2.toInt ≠ 0 → c_X2_product_43 d x1 m2 (fun r3 m3 => ((r3.toInt ≠ 0 → c_X4_put_29 d (1 : Int32) m3 (fun m4 => j_X2_sum_43_12 (d + 1) x1 (x2 + (1 : Int32)) m4 Q)) ∧ (r3.toInt = 0 → j_X2_sum_43_67 (d + 1) m3 Q))))))) ∧ (r1.toInt = 43 → c_X2_step_43 d m1 (fun r5 m5 => ((r5.toInt = 0 → j_X2_sum_43_67 (d + 1) m5 Q) ∧ (r5.toInt ≠ 0 → c_X2_product_43 d x1 m5 (fun r6 m6 => ((r6.toInt ≠ 0 → c_X4_put_29 d (0 : Int32) m6 (fun m7 => j_X2_sum_43_12 (d + 1) x1 (x2 + (1 : Int32)) m7 Q)) ∧ (r6.toInt = 0 → j_X2_sum_43_67 (d + 1) m6 Q)))))))))) : j_X2_sum_43_37 (d + 1) x1 x2 m Q := by
  refine w_aload_n (q := 38) hm165 ⟨⟨_, _, rfl⟩, rfl⟩ rfl ?_
  refine w_call (q := 41) (n := 0) (vs := [.inr (.inr (some 43))]) (rest := []) (la := [oR 43]) hm165 ⟨⟨_, _, rfl⟩, rfl⟩ rfl rfl rfl rfl hm157 rfl rfl (fun _ => ⟨_, _, rfl, rfl⟩) rfl (Wp.mono h ?_)
  rintro _ m1 ⟨r1, rfl, h⟩
  change Wp _ _ 41 _ [.inl r1] _ _
  refine w_bipush (q := 43) hm165 ⟨⟨_, _, rfl⟩, rfl⟩ bipush_43 ?_
  refine w_icmp_ne (q := 46) (X := r1.toInt) (Y := 43) hm165 ⟨⟨_, _, rfl⟩, rfl⟩ rfl (by decide) (fun hc => ?_) (fun hc => ?_)
  · have h := h.1 hc
    refine w_iconst (q := 51) hm165 ⟨⟨_, _, rfl⟩, rfl⟩ iconst_1 ?_
    refine w_istore_n (q := 52) (l' := [oR 43, oI x1, oI x2, oI (1 : Int32)]) hm165 ⟨⟨_, _, rfl⟩, rfl⟩ rfl rfl rfl ?_
    refine w_aload_n (q := 53) hm165 ⟨⟨_, _, rfl⟩, rfl⟩ rfl ?_
    refine w_call (q := 56) (n := 0) (vs := [.inr (.inr (some 43))]) (rest := []) (la := [oR 43]) hm165 ⟨⟨_, _, rfl⟩, rfl⟩ rfl rfl rfl rfl hm159 rfl rfl (fun _ => ⟨_, _, rfl, rfl⟩) rfl (Wp.mono h ?_)
    rintro _ m2 ⟨r2, rfl, h⟩
    change Wp _ _ 56 _ [.inl r2] _ _
    refine w_if_eq (q := 59) (X := r2.toInt) hm165 ⟨⟨_, _, rfl⟩, rfl⟩ rfl (fun hc => ?_) (fun hc => ?_)
    · have h := h.1 hc
      exact Wp.wk [false, false, false, false] h
    · have h := h.2 hc
      refine w_aload_n (q := 60) hm165 ⟨⟨_, _, rfl⟩, rfl⟩ rfl ?_
      refine w_iload_n (q := 61) hm165 ⟨⟨_, _, rfl⟩, rfl⟩ rfl ?_
      refine w_call (q := 64) (n := 2) (vs := [.inr (.inr (some 43)), .inl x1]) (rest := []) (la := [oR 43, oI x1, none, none]) hm165 ⟨⟨_, _, rfl⟩, rfl⟩ rfl rfl rfl rfl hm166 rfl rfl (fun _ => ⟨_, _, rfl, rfl⟩) rfl (Wp.mono h ?_)
      rintro _ m3 ⟨r3, rfl, h⟩
      change Wp _ _ 64 _ [.inl r3] _ _
      refine w_if_ne (q := 67) (X := r3.toInt) hm165 ⟨⟨_, _, rfl⟩, rfl⟩ rfl (fun hc => ?_) (fun hc => ?_)
      · have h := h.1 hc
        refine w_aload_n (q := 70) hm165 ⟨⟨_, _, rfl⟩, rfl⟩ rfl ?_
        refine w_getr (q := 73) hm165 ⟨⟨_, _, rfl⟩, rfl⟩ rfl ?_
        refine w_iload_n (q := 74) hm165 ⟨⟨_, _, rfl⟩, rfl⟩ rfl ?_
        refine w_call (q := 77) (n := 0) (vs := [.inr (.inr (some 29)), .inl (1 : Int32)]) (rest := []) (la := [oR 29, oI (1 : Int32)]) hm165 ⟨⟨_, _, rfl⟩, rfl⟩ rfl rfl rfl rfl hm179 rfl rfl (fun _ => ⟨_, _, rfl, rfl⟩) rfl (Wp.mono h ?_)
        rintro _ m4 ⟨rfl, h⟩
        change Wp _ _ 77 _ [] _ _
        refine w_iinc (q := 80) (l' := [oR 43, oI x1, oI (x2 + (1 : Int32)), oI (1 : Int32)]) hm165 ⟨⟨_, _, rfl⟩, rfl⟩ rfl rfl rfl iconst_1 rfl ?_
        refine w_goto (q := 12) hm165 ⟨_, _, rfl⟩ ?_
        exact Wp.wk [true, true, true, false] h
      · have h := h.2 hc
        exact Wp.wk [false, false, false, false] h
  · have h := h.2 hc
    refine w_iconst (q := 47) hm165 ⟨⟨_, _, rfl⟩, rfl⟩ iconst_0 ?_
    refine w_goto (q := 51) hm165 ⟨_, _, rfl⟩ ?_
    refine w_istore_n (q := 52) (l' := [oR 43, oI x1, oI x2, oI (0 : Int32)]) hm165 ⟨⟨_, _, rfl⟩, rfl⟩ rfl rfl rfl ?_
    refine w_aload_n (q := 53) hm165 ⟨⟨_, _, rfl⟩, rfl⟩ rfl ?_
    refine w_call (q := 56) (n := 0) (vs := [.inr (.inr (some 43))]) (rest := []) (la := [oR 43]) hm165 ⟨⟨_, _, rfl⟩, rfl⟩ rfl rfl rfl rfl hm159 rfl rfl (fun _ => ⟨_, _, rfl, rfl⟩) rfl (Wp.mono h ?_)
    rintro _ m5 ⟨r5, rfl, h⟩
    change Wp _ _ 56 _ [.inl r5] _ _
    refine w_if_eq (q := 59) (X := r5.toInt) hm165 ⟨⟨_, _, rfl⟩, rfl⟩ rfl (fun hc => ?_) (fun hc => ?_)
    · have h := h.1 hc
      exact Wp.wk [false, false, false, false] h
    · have h := h.2 hc
      refine w_aload_n (q := 60) hm165 ⟨⟨_, _, rfl⟩, rfl⟩ rfl ?_
      refine w_iload_n (q := 61) hm165 ⟨⟨_, _, rfl⟩, rfl⟩ rfl ?_
      refine w_call (q := 64) (n := 2) (vs := [.inr (.inr (some 43)), .inl x1]) (rest := []) (la := [oR 43, oI x1, none, none]) hm165 ⟨⟨_, _, rfl⟩, rfl⟩ rfl rfl rfl rfl hm166 rfl rfl (fun _ => ⟨_, _, rfl, rfl⟩) rfl (Wp.mono h ?_)
      rintro _ m6 ⟨r6, rfl, h⟩
      change Wp _ _ 64 _ [.inl r6] _ _
      refine w_if_ne (q := 67) (X := r6.toInt) hm165 ⟨⟨_, _, rfl⟩, rfl⟩ rfl (fun hc => ?_) (fun hc => ?_)
      · have h := h.1 hc
        refine w_aload_n (q := 70) hm165 ⟨⟨_, _, rfl⟩, rfl⟩ rfl ?_
        refine w_getr (q := 73) hm165 ⟨⟨_, _, rfl⟩, rfl⟩ rfl ?_
        refine w_iload_n (q := 74) hm165 ⟨⟨_, _, rfl⟩, rfl⟩ rfl ?_
        refine w_call (q := 77) (n := 0) (vs := [.inr (.inr (some 29)), .inl (0 : Int32)]) (rest := []) (la := [oR 29, oI (0 : Int32)]) hm165 ⟨⟨_, _, rfl⟩, rfl⟩ rfl rfl rfl rfl hm179 rfl rfl (fun _ => ⟨_, _, rfl, rfl⟩) rfl (Wp.mono h ?_)
        rintro _ m7 ⟨rfl, h⟩
        change Wp _ _ 77 _ [] _ _
        refine w_iinc (q := 80) (l' := [oR 43, oI x1, oI (x2 + (1 : Int32)), oI (0 : Int32)]) hm165 ⟨⟨_, _, rfl⟩, rfl⟩ rfl rfl rfl iconst_1 rfl ?_
        refine w_goto (q := 12) hm165 ⟨_, _, rfl⟩ ?_
        exact Wp.wk [true, true, true, false] h
      · have h := h.2 hc
        exact Wp.wk [false, false, false, false] h
theorem v_X2_sum_43_67 {d : Nat} {m : dM} {Q : Int32 → dM → Prop} (h : Q (0 : Int32) m) : j_X2_sum_43_67 (d + 1) m Q := by
  refine w_iconst (q := 68) hm165 ⟨⟨_, _, rfl⟩, rfl⟩ iconst_0 ?_
  exact w_retz hm165 ⟨⟨_, _, rfl⟩, rfl⟩ rfl (by decide) h
theorem v_X2_sum_43_83 {d : Nat} {m : dM} {Q : Int32 → dM → Prop} (h : Q (1 : Int32) m) : j_X2_sum_43_83 (d + 1) m Q := by
  refine w_iconst (q := 84) hm165 ⟨⟨_, _, rfl⟩, rfl⟩ iconst_1 ?_
  exact w_retz hm165 ⟨⟨_, _, rfl⟩, rfl⟩ rfl (by decide) h
theorem v_X2_endPiece_43 {d : Nat} {x1 : Int32} {x2 : Int32} {m : dM} {Q : Int32 → dM → Prop} (h : c_X4_endPiece_29 d x1 m (fun m1 => c_X2_need_43 d x2 m1 (fun r2 m2 => (r2 = 0 ∨ r2 = 1) ∧ Q r2 m2))) : c_X2_endPiece_43 (d + 1) x1 x2 m Q := by
  refine w_aload_n (q := 1) hm164 ⟨⟨_, _, rfl⟩, rfl⟩ rfl ?_
  refine w_getr (q := 4) hm164 ⟨⟨_, _, rfl⟩, rfl⟩ rfl ?_
  refine w_iload_n (q := 5) hm164 ⟨⟨_, _, rfl⟩, rfl⟩ rfl ?_
  refine w_call (q := 8) (n := 0) (vs := [.inr (.inr (some 29)), .inl x1]) (rest := []) (la := [oR 29, oI x1]) hm164 ⟨⟨_, _, rfl⟩, rfl⟩ rfl rfl rfl rfl hm180 rfl rfl (fun _ => ⟨_, _, rfl, rfl⟩) rfl (Wp.mono h ?_)
  rintro _ m1 ⟨rfl, h⟩
  change Wp _ _ 8 _ [] _ _
  refine w_aload_n (q := 9) hm164 ⟨⟨_, _, rfl⟩, rfl⟩ rfl ?_
  refine w_iload_n (q := 10) hm164 ⟨⟨_, _, rfl⟩, rfl⟩ rfl ?_
  refine w_call (q := 13) (n := 0) (vs := [.inr (.inr (some 43)), .inl x2]) (rest := []) (la := [oR 43, oI x2]) hm164 ⟨⟨_, _, rfl⟩, rfl⟩ rfl rfl rfl rfl hm160 rfl rfl (fun _ => ⟨_, _, rfl, rfl⟩) rfl (Wp.mono h ?_)
  rintro _ m2 ⟨r2, rfl, h⟩
  change Wp _ _ 13 _ [.inl r2] _ _
  exact w_retz hm164 ⟨⟨_, _, rfl⟩, rfl⟩ rfl h.1 h.2
theorem v_X2_checkLaw_43 {d : Nat} {x1 : Int32} {m : dM} {Q : Int32 → dM → Prop} (h : c_X4_begin_29 d x1 m (fun m1 => c_X2_step_43 d m1 (fun r2 m2 => ((r2.toInt = 0 → j_X2_checkLaw_43_24 (d + 1) m2 Q) ∧ (r2.toInt ≠ 0 → c_X2_need_43 d (61 : Int32) m2 (fun r3 m3 => ((r3.toInt ≠ 0 → j_X2_checkLaw_43_28 (d + 1) x1 (0 : Int32) m3 Q) ∧ (r3.toInt = 0 → j_X2_checkLaw_43_24 (d + 1) m3 Q)))))))) : c_X2_checkLaw_43 (d + 1) x1 m Q := by
  refine w_aload_n (q := 1) hm163 ⟨⟨_, _, rfl⟩, rfl⟩ rfl ?_
  refine w_getr (q := 4) hm163 ⟨⟨_, _, rfl⟩, rfl⟩ rfl ?_
  refine w_iload_n (q := 5) hm163 ⟨⟨_, _, rfl⟩, rfl⟩ rfl ?_
  refine w_call (q := 8) (n := 0) (vs := [.inr (.inr (some 29)), .inl x1]) (rest := []) (la := [oR 29, oI x1]) hm163 ⟨⟨_, _, rfl⟩, rfl⟩ rfl rfl rfl rfl hm178 rfl rfl (fun _ => ⟨_, _, rfl, rfl⟩) rfl (Wp.mono h ?_)
  rintro _ m1 ⟨rfl, h⟩
  change Wp _ _ 8 _ [] _ _
  refine w_aload_n (q := 9) hm163 ⟨⟨_, _, rfl⟩, rfl⟩ rfl ?_
  refine w_call (q := 12) (n := 0) (vs := [.inr (.inr (some 43))]) (rest := []) (la := [oR 43]) hm163 ⟨⟨_, _, rfl⟩, rfl⟩ rfl rfl rfl rfl hm159 rfl rfl (fun _ => ⟨_, _, rfl, rfl⟩) rfl (Wp.mono h ?_)
  rintro _ m2 ⟨r2, rfl, h⟩
  change Wp _ _ 12 _ [.inl r2] _ _
  refine w_if_eq (q := 15) (X := r2.toInt) hm163 ⟨⟨_, _, rfl⟩, rfl⟩ rfl (fun hc => ?_) (fun hc => ?_)
  · have h := h.1 hc
    exact Wp.wk [false, false, false] h
  · have h := h.2 hc
    refine w_aload_n (q := 16) hm163 ⟨⟨_, _, rfl⟩, rfl⟩ rfl ?_
    refine w_bipush (q := 18) hm163 ⟨⟨_, _, rfl⟩, rfl⟩ bipush_61 ?_
    refine w_call (q := 21) (n := 0) (vs := [.inr (.inr (some 43)), .inl (61 : Int32)]) (rest := []) (la := [oR 43, oI (61 : Int32)]) hm163 ⟨⟨_, _, rfl⟩, rfl⟩ rfl rfl rfl rfl hm160 rfl rfl (fun _ => ⟨_, _, rfl, rfl⟩) rfl (Wp.mono h ?_)
    rintro _ m3 ⟨r3, rfl, h⟩
    change Wp _ _ 21 _ [.inl r3] _ _
    refine w_if_ne (q := 24) (X := r3.toInt) hm163 ⟨⟨_, _, rfl⟩, rfl⟩ rfl (fun hc => ?_) (fun hc => ?_)
    · have h := h.1 hc
      refine w_iconst (q := 27) hm163 ⟨⟨_, _, rfl⟩, rfl⟩ iconst_0 ?_
      refine w_istore_n (q := 28) (l' := [oR 43, oI x1, oI (0 : Int32)]) hm163 ⟨⟨_, _, rfl⟩, rfl⟩ rfl rfl rfl ?_
      exact h
    · have h := h.2 hc
      exact Wp.wk [false, false, false] h
theorem v_X2_checkLaw_43_24 {d : Nat} {m : dM} {Q : Int32 → dM → Prop} (h : Q (0 : Int32) m) : j_X2_checkLaw_43_24 (d + 1) m Q := by
  refine w_iconst (q := 25) hm163 ⟨⟨_, _, rfl⟩, rfl⟩ iconst_0 ?_
  exact w_retz hm163 ⟨⟨_, _, rfl⟩, rfl⟩ rfl (by decide) h
theorem v_X2_checkLaw_43_28 {d : Nat} {x1 : Int32} {x2 : Int32} {m : dM} {Q : Int32 → dM → Prop} (h : ((4 < x2.toInt → j_X2_checkLaw_43_122 (d + 1) x1 m Q) ∧ (x2.toInt ≤ 4 → c_X2_kind_43 d m (fun r1 m1 => ((r1.toInt ≠ 10 → j_X2_checkLaw_43_122 (d + 1) x1 m1 Q) ∧ (r1.toInt = 10 → ((x2.toInt ≠ 4 → c_X2_step_43 d m1 (fun r2 m2 => ((r2.toInt = 0 → j_X2_checkLaw_43_114 (d + 1) m2 Q) ∧ (r2.toInt ≠ 0 → c_X2_sum_43 d (0 : Int32) m2 (fun r3 m3 => ((r3.toInt = 0 → j_X2_checkLaw_43_114 (d + 1) m3 Q) ∧ (r3.toInt ≠ 0 → c_X2_endPiece_43 d x1 (60 : Int32) m3 (fun r4 m4 => ((r4.toInt = 0 → j_X2_checkLaw_43_114 (d + 1) m4 Q) ∧ (r4.toInt ≠ 0 → c_X2_sum_43 d (0 : Int32) m4 (fun r5 m5 => ((r5.toInt = 0 → j_X2_checkLaw_43_114 (d + 1) m5 Q) ∧ (r5.toInt ≠ 0 → c_X2_endPiece_43 d x1 (11 : Int32) m5 (fun r6 m6 => ((r6.toInt = 0 → j_X2_checkLaw_43_114 (d + 1) m6 Q) ∧ (r6.toInt ≠ 0 → c_X2_sum_43 d (0 : Int32) m6 (fun r7 m7 => ((r7.toInt = 0 → j_X2_checkLaw_43_114 (d + 1) m7 Q) ∧ (r7.toInt ≠ 0 → c_X2_endPiece_43 d x1 (12 : Int32) m7 (fun r8 m8 => ((r8.toInt ≠ 0 → j_X2_checkLaw_43_28 (d + 1) x1 (x2 + (1 : Int32)) m8 Q) ∧ (r8.toInt = 0 → j_X2_checkLaw_43_114 (d + 1) m8 Q)))))))))))))))))))))) ∧ (x2.toInt = 4 → c_X2_fail_43 d (2 : Int32) m1 (fun r9 m9 => (r9 = 0 ∨ r9 = 1) ∧ Q r9 m9))))))))) : j_X2_checkLaw_43_28 (d + 1) x1 x2 m Q := by
  refine w_iload_n (q := 29) hm163 ⟨⟨_, _, rfl⟩, rfl⟩ rfl ?_
  refine w_iconst (q := 30) hm163 ⟨⟨_, _, rfl⟩, rfl⟩ iconst_4 ?_
  refine w_icmp_gt (q := 33) (X := x2.toInt) (Y := 4) hm163 ⟨⟨_, _, rfl⟩, rfl⟩ rfl (by decide) (fun hc => ?_) (fun hc => ?_)
  · have h := h.1 hc
    exact Wp.wk [true, true, false] h
  · have h := h.2 hc
    refine w_aload_n (q := 34) hm163 ⟨⟨_, _, rfl⟩, rfl⟩ rfl ?_
    refine w_call (q := 37) (n := 0) (vs := [.inr (.inr (some 43))]) (rest := []) (la := [oR 43]) hm163 ⟨⟨_, _, rfl⟩, rfl⟩ rfl rfl rfl rfl hm157 rfl rfl (fun _ => ⟨_, _, rfl, rfl⟩) rfl (Wp.mono h ?_)
    rintro _ m1 ⟨r1, rfl, h⟩
    change Wp _ _ 37 _ [.inl r1] _ _
    refine w_bipush (q := 39) hm163 ⟨⟨_, _, rfl⟩, rfl⟩ bipush_10 ?_
    refine w_icmp_ne (q := 42) (X := r1.toInt) (Y := 10) hm163 ⟨⟨_, _, rfl⟩, rfl⟩ rfl (by decide) (fun hc => ?_) (fun hc => ?_)
    · have h := h.1 hc
      exact Wp.wk [true, true, false] h
    · have h := h.2 hc
      refine w_iload_n (q := 43) hm163 ⟨⟨_, _, rfl⟩, rfl⟩ rfl ?_
      refine w_iconst (q := 44) hm163 ⟨⟨_, _, rfl⟩, rfl⟩ iconst_4 ?_
      refine w_icmp_ne (q := 47) (X := x2.toInt) (Y := 4) hm163 ⟨⟨_, _, rfl⟩, rfl⟩ rfl (by decide) (fun hc => ?_) (fun hc => ?_)
      · have h := h.1 hc
        refine w_aload_n (q := 54) hm163 ⟨⟨_, _, rfl⟩, rfl⟩ rfl ?_
        refine w_call (q := 57) (n := 0) (vs := [.inr (.inr (some 43))]) (rest := []) (la := [oR 43]) hm163 ⟨⟨_, _, rfl⟩, rfl⟩ rfl rfl rfl rfl hm159 rfl rfl (fun _ => ⟨_, _, rfl, rfl⟩) rfl (Wp.mono h ?_)
        rintro _ m2 ⟨r2, rfl, h⟩
        change Wp _ _ 57 _ [.inl r2] _ _
        refine w_if_eq (q := 60) (X := r2.toInt) hm163 ⟨⟨_, _, rfl⟩, rfl⟩ rfl (fun hc => ?_) (fun hc => ?_)
        · have h := h.1 hc
          exact Wp.wk [false, false, false] h
        · have h := h.2 hc
          refine w_aload_n (q := 61) hm163 ⟨⟨_, _, rfl⟩, rfl⟩ rfl ?_
          refine w_iconst (q := 62) hm163 ⟨⟨_, _, rfl⟩, rfl⟩ iconst_0 ?_
          refine w_call (q := 65) (n := 2) (vs := [.inr (.inr (some 43)), .inl (0 : Int32)]) (rest := []) (la := [oR 43, oI (0 : Int32), none, none]) hm163 ⟨⟨_, _, rfl⟩, rfl⟩ rfl rfl rfl rfl hm165 rfl rfl (fun _ => ⟨_, _, rfl, rfl⟩) rfl (Wp.mono h ?_)
          rintro _ m3 ⟨r3, rfl, h⟩
          change Wp _ _ 65 _ [.inl r3] _ _
          refine w_if_eq (q := 68) (X := r3.toInt) hm163 ⟨⟨_, _, rfl⟩, rfl⟩ rfl (fun hc => ?_) (fun hc => ?_)
          · have h := h.1 hc
            exact Wp.wk [false, false, false] h
          · have h := h.2 hc
            refine w_aload_n (q := 69) hm163 ⟨⟨_, _, rfl⟩, rfl⟩ rfl ?_
            refine w_iload_n (q := 70) hm163 ⟨⟨_, _, rfl⟩, rfl⟩ rfl ?_
            refine w_bipush (q := 72) hm163 ⟨⟨_, _, rfl⟩, rfl⟩ bipush_60 ?_
            refine w_call (q := 75) (n := 0) (vs := [.inr (.inr (some 43)), .inl x1, .inl (60 : Int32)]) (rest := []) (la := [oR 43, oI x1, oI (60 : Int32)]) hm163 ⟨⟨_, _, rfl⟩, rfl⟩ rfl rfl rfl rfl hm164 rfl rfl (fun _ => ⟨_, _, rfl, rfl⟩) rfl (Wp.mono h ?_)
            rintro _ m4 ⟨r4, rfl, h⟩
            change Wp _ _ 75 _ [.inl r4] _ _
            refine w_if_eq (q := 78) (X := r4.toInt) hm163 ⟨⟨_, _, rfl⟩, rfl⟩ rfl (fun hc => ?_) (fun hc => ?_)
            · have h := h.1 hc
              exact Wp.wk [false, false, false] h
            · have h := h.2 hc
              refine w_aload_n (q := 79) hm163 ⟨⟨_, _, rfl⟩, rfl⟩ rfl ?_
              refine w_iconst (q := 80) hm163 ⟨⟨_, _, rfl⟩, rfl⟩ iconst_0 ?_
              refine w_call (q := 83) (n := 2) (vs := [.inr (.inr (some 43)), .inl (0 : Int32)]) (rest := []) (la := [oR 43, oI (0 : Int32), none, none]) hm163 ⟨⟨_, _, rfl⟩, rfl⟩ rfl rfl rfl rfl hm165 rfl rfl (fun _ => ⟨_, _, rfl, rfl⟩) rfl (Wp.mono h ?_)
              rintro _ m5 ⟨r5, rfl, h⟩
              change Wp _ _ 83 _ [.inl r5] _ _
              refine w_if_eq (q := 86) (X := r5.toInt) hm163 ⟨⟨_, _, rfl⟩, rfl⟩ rfl (fun hc => ?_) (fun hc => ?_)
              · have h := h.1 hc
                exact Wp.wk [false, false, false] h
              · have h := h.2 hc
                refine w_aload_n (q := 87) hm163 ⟨⟨_, _, rfl⟩, rfl⟩ rfl ?_
                refine w_iload_n (q := 88) hm163 ⟨⟨_, _, rfl⟩, rfl⟩ rfl ?_
                refine w_bipush (q := 90) hm163 ⟨⟨_, _, rfl⟩, rfl⟩ bipush_11 ?_
                refine w_call (q := 93) (n := 0) (vs := [.inr (.inr (some 43)), .inl x1, .inl (11 : Int32)]) (rest := []) (la := [oR 43, oI x1, oI (11 : Int32)]) hm163 ⟨⟨_, _, rfl⟩, rfl⟩ rfl rfl rfl rfl hm164 rfl rfl (fun _ => ⟨_, _, rfl, rfl⟩) rfl (Wp.mono h ?_)
                rintro _ m6 ⟨r6, rfl, h⟩
                change Wp _ _ 93 _ [.inl r6] _ _
                refine w_if_eq (q := 96) (X := r6.toInt) hm163 ⟨⟨_, _, rfl⟩, rfl⟩ rfl (fun hc => ?_) (fun hc => ?_)
                · have h := h.1 hc
                  exact Wp.wk [false, false, false] h
                · have h := h.2 hc
                  refine w_aload_n (q := 97) hm163 ⟨⟨_, _, rfl⟩, rfl⟩ rfl ?_
                  refine w_iconst (q := 98) hm163 ⟨⟨_, _, rfl⟩, rfl⟩ iconst_0 ?_
                  refine w_call (q := 101) (n := 2) (vs := [.inr (.inr (some 43)), .inl (0 : Int32)]) (rest := []) (la := [oR 43, oI (0 : Int32), none, none]) hm163 ⟨⟨_, _, rfl⟩, rfl⟩ rfl rfl rfl rfl hm165 rfl rfl (fun _ => ⟨_, _, rfl, rfl⟩) rfl (Wp.mono h ?_)
                  rintro _ m7 ⟨r7, rfl, h⟩
                  change Wp _ _ 101 _ [.inl r7] _ _
                  refine w_if_eq (q := 104) (X := r7.toInt) hm163 ⟨⟨_, _, rfl⟩, rfl⟩ rfl (fun hc => ?_) (fun hc => ?_)
                  · have h := h.1 hc
                    exact Wp.wk [false, false, false] h
                  · have h := h.2 hc
                    refine w_aload_n (q := 105) hm163 ⟨⟨_, _, rfl⟩, rfl⟩ rfl ?_
                    refine w_iload_n (q := 106) hm163 ⟨⟨_, _, rfl⟩, rfl⟩ rfl ?_
                    refine w_bipush (q := 108) hm163 ⟨⟨_, _, rfl⟩, rfl⟩ bipush_12 ?_
                    refine w_call (q := 111) (n := 0) (vs := [.inr (.inr (some 43)), .inl x1, .inl (12 : Int32)]) (rest := []) (la := [oR 43, oI x1, oI (12 : Int32)]) hm163 ⟨⟨_, _, rfl⟩, rfl⟩ rfl rfl rfl rfl hm164 rfl rfl (fun _ => ⟨_, _, rfl, rfl⟩) rfl (Wp.mono h ?_)
                    rintro _ m8 ⟨r8, rfl, h⟩
                    change Wp _ _ 111 _ [.inl r8] _ _
                    refine w_if_ne (q := 114) (X := r8.toInt) hm163 ⟨⟨_, _, rfl⟩, rfl⟩ rfl (fun hc => ?_) (fun hc => ?_)
                    · have h := h.1 hc
                      refine w_iinc (q := 119) (l' := [oR 43, oI x1, oI (x2 + (1 : Int32))]) hm163 ⟨⟨_, _, rfl⟩, rfl⟩ rfl rfl rfl iconst_1 rfl ?_
                      refine w_goto (q := 28) hm163 ⟨_, _, rfl⟩ ?_
                      exact h
                    · have h := h.2 hc
                      exact Wp.wk [false, false, false] h
      · have h := h.2 hc
        refine w_aload_n (q := 48) hm163 ⟨⟨_, _, rfl⟩, rfl⟩ rfl ?_
        refine w_iconst (q := 49) hm163 ⟨⟨_, _, rfl⟩, rfl⟩ iconst_2 ?_
        refine w_call (q := 52) (n := 0) (vs := [.inr (.inr (some 43)), .inl (2 : Int32)]) (rest := []) (la := [oR 43, oI (2 : Int32)]) hm163 ⟨⟨_, _, rfl⟩, rfl⟩ rfl rfl rfl rfl hm158 rfl rfl (fun _ => ⟨_, _, rfl, rfl⟩) rfl (Wp.mono h ?_)
        rintro _ m9 ⟨r9, rfl, h⟩
        change Wp _ _ 52 _ [.inl r9] _ _
        exact w_retz hm163 ⟨⟨_, _, rfl⟩, rfl⟩ rfl h.1 h.2
theorem v_X2_checkLaw_43_114 {d : Nat} {m : dM} {Q : Int32 → dM → Prop} (h : Q (0 : Int32) m) : j_X2_checkLaw_43_114 (d + 1) m Q := by
  refine w_iconst (q := 115) hm163 ⟨⟨_, _, rfl⟩, rfl⟩ iconst_0 ?_
  exact w_retz hm163 ⟨⟨_, _, rfl⟩, rfl⟩ rfl (by decide) h
theorem v_X2_checkLaw_43_122 {d : Nat} {x1 : Int32} {m : dM} {Q : Int32 → dM → Prop} (h : c_X2_sum_43 d (0 : Int32) m (fun r1 m1 => ((r1.toInt = 0 → j_X2_checkLaw_43_144 (d + 1) m1 Q) ∧ (r1.toInt ≠ 0 → c_X2_endPiece_43 d x1 (59 : Int32) m1 (fun r2 m2 => ((r2.toInt = 0 → j_X2_checkLaw_43_144 (d + 1) m2 Q) ∧ (r2.toInt ≠ 0 → Q (1 : Int32) m2))))))) : j_X2_checkLaw_43_122 (d + 1) x1 m Q := by
  refine w_aload_n (q := 123) hm163 ⟨⟨_, _, rfl⟩, rfl⟩ rfl ?_
  refine w_iconst (q := 124) hm163 ⟨⟨_, _, rfl⟩, rfl⟩ iconst_0 ?_
  refine w_call (q := 127) (n := 2) (vs := [.inr (.inr (some 43)), .inl (0 : Int32)]) (rest := []) (la := [oR 43, oI (0 : Int32), none, none]) hm163 ⟨⟨_, _, rfl⟩, rfl⟩ rfl rfl rfl rfl hm165 rfl rfl (fun _ => ⟨_, _, rfl, rfl⟩) rfl (Wp.mono h ?_)
  rintro _ m1 ⟨r1, rfl, h⟩
  change Wp _ _ 127 _ [.inl r1] _ _
  refine w_if_eq (q := 130) (X := r1.toInt) hm163 ⟨⟨_, _, rfl⟩, rfl⟩ rfl (fun hc => ?_) (fun hc => ?_)
  · have h := h.1 hc
    exact Wp.wk [false, false, false] h
  · have h := h.2 hc
    refine w_aload_n (q := 131) hm163 ⟨⟨_, _, rfl⟩, rfl⟩ rfl ?_
    refine w_iload_n (q := 132) hm163 ⟨⟨_, _, rfl⟩, rfl⟩ rfl ?_
    refine w_bipush (q := 134) hm163 ⟨⟨_, _, rfl⟩, rfl⟩ bipush_59 ?_
    refine w_call (q := 137) (n := 0) (vs := [.inr (.inr (some 43)), .inl x1, .inl (59 : Int32)]) (rest := []) (la := [oR 43, oI x1, oI (59 : Int32)]) hm163 ⟨⟨_, _, rfl⟩, rfl⟩ rfl rfl rfl rfl hm164 rfl rfl (fun _ => ⟨_, _, rfl, rfl⟩) rfl (Wp.mono h ?_)
    rintro _ m2 ⟨r2, rfl, h⟩
    change Wp _ _ 137 _ [.inl r2] _ _
    refine w_if_eq (q := 140) (X := r2.toInt) hm163 ⟨⟨_, _, rfl⟩, rfl⟩ rfl (fun hc => ?_) (fun hc => ?_)
    · have h := h.1 hc
      exact Wp.wk [false, false, false] h
    · have h := h.2 hc
      refine w_iconst (q := 141) hm163 ⟨⟨_, _, rfl⟩, rfl⟩ iconst_1 ?_
      refine w_goto (q := 145) hm163 ⟨_, _, rfl⟩ ?_
      exact w_retz hm163 ⟨⟨_, _, rfl⟩, rfl⟩ rfl (by decide) h
theorem v_X2_checkLaw_43_144 {d : Nat} {m : dM} {Q : Int32 → dM → Prop} (h : Q (0 : Int32) m) : j_X2_checkLaw_43_144 (d + 1) m Q := by
  refine w_iconst (q := 145) hm163 ⟨⟨_, _, rfl⟩, rfl⟩ iconst_0 ?_
  exact w_retz hm163 ⟨⟨_, _, rfl⟩, rfl⟩ rfl (by decide) h
theorem v_X2_checkTold_43 {d : Nat} {x1 : Int32} {m : dM} {Q : dM → Prop} (h : ((x1.toInt = 0 → c_X2_checkCounted_43 d ((m.1 43 4) + (1 : Int32)) (7 : Int32) (1 : Int32) (1 : Int32) (dSet m 43 4 ((m.1 43 4) + (1 : Int32))) (fun m1 => j_X2_checkTold_43_165 (d + 1) m1 Q)) ∧ (x1.toInt = 1 → c_X2_checkCounted_43 d ((m.1 43 5) + (1 : Int32)) (10 : Int32) (2 : Int32) (1 : Int32) (dSet m 43 5 ((m.1 43 5) + (1 : Int32))) (fun m2 => j_X2_checkTold_43_165 (d + 1) m2 Q)) ∧ (x1.toInt = 2 → c_X2_checkCounted_43 d ((m.1 43 6) + (1 : Int32)) (8 : Int32) (2 : Int32) (3 : Int32) (dSet m 43 6 ((m.1 43 6) + (1 : Int32))) (fun m3 => j_X2_checkTold_43_165 (d + 1) m3 Q)) ∧ (x1.toInt = 3 → c_X2_checkLaw_43 d (x1 - (3 : Int32)) m (fun r4 m4 => j_X2_checkTold_43_165 (d + 1) m4 Q)) ∧ (x1.toInt = 4 → c_X2_checkLaw_43 d (x1 - (3 : Int32)) m (fun r5 m5 => j_X2_checkTold_43_165 (d + 1) m5 Q)) ∧ (x1.toInt = 5 → c_X2_checkLaw_43 d (x1 - (3 : Int32)) m (fun r6 m6 => j_X2_checkTold_43_165 (d + 1) m6 Q)) ∧ (x1.toInt = 6 → c_X2_checkLaw_43 d (x1 - (3 : Int32)) m (fun r7 m7 => j_X2_checkTold_43_165 (d + 1) m7 Q)) ∧ (x1.toInt = 7 → c_X2_checkRow_43 d (0 : Int32) (2 : Int32) m (fun m8 => j_X2_checkTold_43_165 (d + 1) m8 Q)) ∧ (x1.toInt = 8 → c_X2_checkRow_43 d (0 : Int32) (1 : Int32) m (fun m9 => j_X2_checkTold_43_165 (d + 1) m9 Q)) ∧ (x1.toInt = 9 → c_X2_checkRow_43 d (0 : Int32) (1 : Int32) m (fun m10 => j_X2_checkTold_43_165 (d + 1) m10 Q)) ∧ (x1.toInt < 0 ∨ 9 < x1.toInt → j_X2_checkTold_43_165 (d + 1) (dSet m 43 3 (1 : Int32)) Q))) : c_X2_checkTold_43 (d + 1) x1 m Q := by
  refine w_iload_n (q := 1) hm155 ⟨⟨_, _, rfl⟩, rfl⟩ rfl ?_
  refine w_tsw (X := x1.toInt) hm155 ⟨_, _, rfl⟩ (by decide) (by decide) rfl ((And.intro (fun hc => ?_) (And.intro (fun hc => ?_) (And.intro (fun hc => ?_) (And.intro (fun hc => ?_) (And.intro (fun hc => ?_) (And.intro (fun hc => ?_) (And.intro (fun hc => ?_) (And.intro (fun hc => ?_) (And.intro (fun hc => ?_) (And.intro (fun hc => ?_) trivial))))))))))) (fun hc => ?_)
  · have h := (h.1) hc
    change Wp _ _ 56 _ _ _ _
    refine w_aload_n (q := 57) hm155 ⟨⟨_, _, rfl⟩, rfl⟩ rfl ?_
    refine w_dup (q := 58) hm155 ⟨⟨_, _, rfl⟩, rfl⟩ rfl ?_
    refine w_getf (q := 61) (v := (m.1 43 4)) hm155 ⟨⟨_, _, rfl⟩, rfl⟩ rfl rfl ?_
    refine w_iconst (q := 62) hm155 ⟨⟨_, _, rfl⟩, rfl⟩ iconst_1 ?_
    refine w_iadd (q := 63) hm155 ⟨⟨_, _, rfl⟩, rfl⟩ ?_
    refine w_putf (q := 66) hm155 ⟨⟨_, _, rfl⟩, rfl⟩ rfl rfl rfl ?_
    refine w_aload_n (q := 67) hm155 ⟨⟨_, _, rfl⟩, rfl⟩ rfl ?_
    refine w_aload_n (q := 68) hm155 ⟨⟨_, _, rfl⟩, rfl⟩ rfl ?_
    refine w_getf (q := 71) (v := ((m.1 43 4) + (1 : Int32))) hm155 ⟨⟨_, _, rfl⟩, rfl⟩ rfl rfl ?_
    refine w_bipush (q := 73) hm155 ⟨⟨_, _, rfl⟩, rfl⟩ bipush_7 ?_
    refine w_iconst (q := 74) hm155 ⟨⟨_, _, rfl⟩, rfl⟩ iconst_1 ?_
    refine w_iconst (q := 75) hm155 ⟨⟨_, _, rfl⟩, rfl⟩ iconst_1 ?_
    refine w_call (q := 78) (n := 0) (vs := [.inr (.inr (some 43)), .inl ((m.1 43 4) + (1 : Int32)), .inl (7 : Int32), .inl (1 : Int32), .inl (1 : Int32)]) (rest := []) (la := [oR 43, oI ((m.1 43 4) + (1 : Int32)), oI (7 : Int32), oI (1 : Int32), oI (1 : Int32)]) hm155 ⟨⟨_, _, rfl⟩, rfl⟩ rfl rfl rfl rfl hm162 rfl rfl (fun _ => ⟨_, _, rfl, rfl⟩) rfl (Wp.mono h ?_)
    rintro _ m1 ⟨rfl, h⟩
    change Wp _ _ 78 _ [] _ _
    refine w_goto (q := 165) hm155 ⟨_, _, rfl⟩ ?_
    exact Wp.wk [false, false] h
  · have h := (h.2.1) hc
    change Wp _ _ 81 _ _ _ _
    refine w_aload_n (q := 82) hm155 ⟨⟨_, _, rfl⟩, rfl⟩ rfl ?_
    refine w_dup (q := 83) hm155 ⟨⟨_, _, rfl⟩, rfl⟩ rfl ?_
    refine w_getf (q := 86) (v := (m.1 43 5)) hm155 ⟨⟨_, _, rfl⟩, rfl⟩ rfl rfl ?_
    refine w_iconst (q := 87) hm155 ⟨⟨_, _, rfl⟩, rfl⟩ iconst_1 ?_
    refine w_iadd (q := 88) hm155 ⟨⟨_, _, rfl⟩, rfl⟩ ?_
    refine w_putf (q := 91) hm155 ⟨⟨_, _, rfl⟩, rfl⟩ rfl rfl rfl ?_
    refine w_aload_n (q := 92) hm155 ⟨⟨_, _, rfl⟩, rfl⟩ rfl ?_
    refine w_aload_n (q := 93) hm155 ⟨⟨_, _, rfl⟩, rfl⟩ rfl ?_
    refine w_getf (q := 96) (v := ((m.1 43 5) + (1 : Int32))) hm155 ⟨⟨_, _, rfl⟩, rfl⟩ rfl rfl ?_
    refine w_bipush (q := 98) hm155 ⟨⟨_, _, rfl⟩, rfl⟩ bipush_10 ?_
    refine w_iconst (q := 99) hm155 ⟨⟨_, _, rfl⟩, rfl⟩ iconst_2 ?_
    refine w_iconst (q := 100) hm155 ⟨⟨_, _, rfl⟩, rfl⟩ iconst_1 ?_
    refine w_call (q := 103) (n := 0) (vs := [.inr (.inr (some 43)), .inl ((m.1 43 5) + (1 : Int32)), .inl (10 : Int32), .inl (2 : Int32), .inl (1 : Int32)]) (rest := []) (la := [oR 43, oI ((m.1 43 5) + (1 : Int32)), oI (10 : Int32), oI (2 : Int32), oI (1 : Int32)]) hm155 ⟨⟨_, _, rfl⟩, rfl⟩ rfl rfl rfl rfl hm162 rfl rfl (fun _ => ⟨_, _, rfl, rfl⟩) rfl (Wp.mono h ?_)
    rintro _ m2 ⟨rfl, h⟩
    change Wp _ _ 103 _ [] _ _
    refine w_goto (q := 165) hm155 ⟨_, _, rfl⟩ ?_
    exact Wp.wk [false, false] h
  · have h := (h.2.2.1) hc
    change Wp _ _ 106 _ _ _ _
    refine w_aload_n (q := 107) hm155 ⟨⟨_, _, rfl⟩, rfl⟩ rfl ?_
    refine w_dup (q := 108) hm155 ⟨⟨_, _, rfl⟩, rfl⟩ rfl ?_
    refine w_getf (q := 111) (v := (m.1 43 6)) hm155 ⟨⟨_, _, rfl⟩, rfl⟩ rfl rfl ?_
    refine w_iconst (q := 112) hm155 ⟨⟨_, _, rfl⟩, rfl⟩ iconst_1 ?_
    refine w_iadd (q := 113) hm155 ⟨⟨_, _, rfl⟩, rfl⟩ ?_
    refine w_putf (q := 116) hm155 ⟨⟨_, _, rfl⟩, rfl⟩ rfl rfl rfl ?_
    refine w_aload_n (q := 117) hm155 ⟨⟨_, _, rfl⟩, rfl⟩ rfl ?_
    refine w_aload_n (q := 118) hm155 ⟨⟨_, _, rfl⟩, rfl⟩ rfl ?_
    refine w_getf (q := 121) (v := ((m.1 43 6) + (1 : Int32))) hm155 ⟨⟨_, _, rfl⟩, rfl⟩ rfl rfl ?_
    refine w_bipush (q := 123) hm155 ⟨⟨_, _, rfl⟩, rfl⟩ bipush_8 ?_
    refine w_iconst (q := 124) hm155 ⟨⟨_, _, rfl⟩, rfl⟩ iconst_2 ?_
    refine w_iconst (q := 125) hm155 ⟨⟨_, _, rfl⟩, rfl⟩ iconst_3 ?_
    refine w_call (q := 128) (n := 0) (vs := [.inr (.inr (some 43)), .inl ((m.1 43 6) + (1 : Int32)), .inl (8 : Int32), .inl (2 : Int32), .inl (3 : Int32)]) (rest := []) (la := [oR 43, oI ((m.1 43 6) + (1 : Int32)), oI (8 : Int32), oI (2 : Int32), oI (3 : Int32)]) hm155 ⟨⟨_, _, rfl⟩, rfl⟩ rfl rfl rfl rfl hm162 rfl rfl (fun _ => ⟨_, _, rfl, rfl⟩) rfl (Wp.mono h ?_)
    rintro _ m3 ⟨rfl, h⟩
    change Wp _ _ 128 _ [] _ _
    refine w_goto (q := 165) hm155 ⟨_, _, rfl⟩ ?_
    exact Wp.wk [false, false] h
  · have h := (h.2.2.2.1) hc
    change Wp _ _ 131 _ _ _ _
    refine w_aload_n (q := 132) hm155 ⟨⟨_, _, rfl⟩, rfl⟩ rfl ?_
    refine w_iload_n (q := 133) hm155 ⟨⟨_, _, rfl⟩, rfl⟩ rfl ?_
    refine w_iconst (q := 134) hm155 ⟨⟨_, _, rfl⟩, rfl⟩ iconst_3 ?_
    refine w_isub (q := 135) hm155 ⟨⟨_, _, rfl⟩, rfl⟩ ?_
    refine w_call (q := 138) (n := 1) (vs := [.inr (.inr (some 43)), .inl (x1 - (3 : Int32))]) (rest := []) (la := [oR 43, oI (x1 - (3 : Int32)), none]) hm155 ⟨⟨_, _, rfl⟩, rfl⟩ rfl rfl rfl rfl hm163 rfl rfl (fun _ => ⟨_, _, rfl, rfl⟩) rfl (Wp.mono h ?_)
    rintro _ m4 ⟨r4, rfl, h⟩
    change Wp _ _ 138 _ [.inl r4] _ _
    refine w_pop (q := 139) hm155 ⟨⟨_, _, rfl⟩, rfl⟩ rfl ?_
    refine w_goto (q := 165) hm155 ⟨_, _, rfl⟩ ?_
    exact Wp.wk [false, false] h
  · have h := (h.2.2.2.2.1) hc
    change Wp _ _ 131 _ _ _ _
    refine w_aload_n (q := 132) hm155 ⟨⟨_, _, rfl⟩, rfl⟩ rfl ?_
    refine w_iload_n (q := 133) hm155 ⟨⟨_, _, rfl⟩, rfl⟩ rfl ?_
    refine w_iconst (q := 134) hm155 ⟨⟨_, _, rfl⟩, rfl⟩ iconst_3 ?_
    refine w_isub (q := 135) hm155 ⟨⟨_, _, rfl⟩, rfl⟩ ?_
    refine w_call (q := 138) (n := 1) (vs := [.inr (.inr (some 43)), .inl (x1 - (3 : Int32))]) (rest := []) (la := [oR 43, oI (x1 - (3 : Int32)), none]) hm155 ⟨⟨_, _, rfl⟩, rfl⟩ rfl rfl rfl rfl hm163 rfl rfl (fun _ => ⟨_, _, rfl, rfl⟩) rfl (Wp.mono h ?_)
    rintro _ m5 ⟨r5, rfl, h⟩
    change Wp _ _ 138 _ [.inl r5] _ _
    refine w_pop (q := 139) hm155 ⟨⟨_, _, rfl⟩, rfl⟩ rfl ?_
    refine w_goto (q := 165) hm155 ⟨_, _, rfl⟩ ?_
    exact Wp.wk [false, false] h
  · have h := (h.2.2.2.2.2.1) hc
    change Wp _ _ 131 _ _ _ _
    refine w_aload_n (q := 132) hm155 ⟨⟨_, _, rfl⟩, rfl⟩ rfl ?_
    refine w_iload_n (q := 133) hm155 ⟨⟨_, _, rfl⟩, rfl⟩ rfl ?_
    refine w_iconst (q := 134) hm155 ⟨⟨_, _, rfl⟩, rfl⟩ iconst_3 ?_
    refine w_isub (q := 135) hm155 ⟨⟨_, _, rfl⟩, rfl⟩ ?_
    refine w_call (q := 138) (n := 1) (vs := [.inr (.inr (some 43)), .inl (x1 - (3 : Int32))]) (rest := []) (la := [oR 43, oI (x1 - (3 : Int32)), none]) hm155 ⟨⟨_, _, rfl⟩, rfl⟩ rfl rfl rfl rfl hm163 rfl rfl (fun _ => ⟨_, _, rfl, rfl⟩) rfl (Wp.mono h ?_)
    rintro _ m6 ⟨r6, rfl, h⟩
    change Wp _ _ 138 _ [.inl r6] _ _
    refine w_pop (q := 139) hm155 ⟨⟨_, _, rfl⟩, rfl⟩ rfl ?_
    refine w_goto (q := 165) hm155 ⟨_, _, rfl⟩ ?_
    exact Wp.wk [false, false] h
  · have h := (h.2.2.2.2.2.2.1) hc
    change Wp _ _ 131 _ _ _ _
    refine w_aload_n (q := 132) hm155 ⟨⟨_, _, rfl⟩, rfl⟩ rfl ?_
    refine w_iload_n (q := 133) hm155 ⟨⟨_, _, rfl⟩, rfl⟩ rfl ?_
    refine w_iconst (q := 134) hm155 ⟨⟨_, _, rfl⟩, rfl⟩ iconst_3 ?_
    refine w_isub (q := 135) hm155 ⟨⟨_, _, rfl⟩, rfl⟩ ?_
    refine w_call (q := 138) (n := 1) (vs := [.inr (.inr (some 43)), .inl (x1 - (3 : Int32))]) (rest := []) (la := [oR 43, oI (x1 - (3 : Int32)), none]) hm155 ⟨⟨_, _, rfl⟩, rfl⟩ rfl rfl rfl rfl hm163 rfl rfl (fun _ => ⟨_, _, rfl, rfl⟩) rfl (Wp.mono h ?_)
    rintro _ m7 ⟨r7, rfl, h⟩
    change Wp _ _ 138 _ [.inl r7] _ _
    refine w_pop (q := 139) hm155 ⟨⟨_, _, rfl⟩, rfl⟩ rfl ?_
    refine w_goto (q := 165) hm155 ⟨_, _, rfl⟩ ?_
    exact Wp.wk [false, false] h
  · have h := (h.2.2.2.2.2.2.2.1) hc
    change Wp _ _ 142 _ _ _ _
    refine w_aload_n (q := 143) hm155 ⟨⟨_, _, rfl⟩, rfl⟩ rfl ?_
    refine w_iconst (q := 144) hm155 ⟨⟨_, _, rfl⟩, rfl⟩ iconst_0 ?_
    refine w_iconst (q := 145) hm155 ⟨⟨_, _, rfl⟩, rfl⟩ iconst_2 ?_
    refine w_call (q := 148) (n := 2) (vs := [.inr (.inr (some 43)), .inl (0 : Int32), .inl (2 : Int32)]) (rest := []) (la := [oR 43, oI (0 : Int32), oI (2 : Int32), none, none]) hm155 ⟨⟨_, _, rfl⟩, rfl⟩ rfl rfl rfl rfl hm161 rfl rfl (fun _ => ⟨_, _, rfl, rfl⟩) rfl (Wp.mono h ?_)
    rintro _ m8 ⟨rfl, h⟩
    change Wp _ _ 148 _ [] _ _
    refine w_goto (q := 165) hm155 ⟨_, _, rfl⟩ ?_
    exact Wp.wk [false, false] h
  · have h := (h.2.2.2.2.2.2.2.2.1) hc
    change Wp _ _ 151 _ _ _ _
    refine w_aload_n (q := 152) hm155 ⟨⟨_, _, rfl⟩, rfl⟩ rfl ?_
    refine w_iconst (q := 153) hm155 ⟨⟨_, _, rfl⟩, rfl⟩ iconst_0 ?_
    refine w_iconst (q := 154) hm155 ⟨⟨_, _, rfl⟩, rfl⟩ iconst_1 ?_
    refine w_call (q := 157) (n := 2) (vs := [.inr (.inr (some 43)), .inl (0 : Int32), .inl (1 : Int32)]) (rest := []) (la := [oR 43, oI (0 : Int32), oI (1 : Int32), none, none]) hm155 ⟨⟨_, _, rfl⟩, rfl⟩ rfl rfl rfl rfl hm161 rfl rfl (fun _ => ⟨_, _, rfl, rfl⟩) rfl (Wp.mono h ?_)
    rintro _ m9 ⟨rfl, h⟩
    change Wp _ _ 157 _ [] _ _
    refine w_goto (q := 165) hm155 ⟨_, _, rfl⟩ ?_
    exact Wp.wk [false, false] h
  · have h := (h.2.2.2.2.2.2.2.2.2.1) hc
    change Wp _ _ 151 _ _ _ _
    refine w_aload_n (q := 152) hm155 ⟨⟨_, _, rfl⟩, rfl⟩ rfl ?_
    refine w_iconst (q := 153) hm155 ⟨⟨_, _, rfl⟩, rfl⟩ iconst_0 ?_
    refine w_iconst (q := 154) hm155 ⟨⟨_, _, rfl⟩, rfl⟩ iconst_1 ?_
    refine w_call (q := 157) (n := 2) (vs := [.inr (.inr (some 43)), .inl (0 : Int32), .inl (1 : Int32)]) (rest := []) (la := [oR 43, oI (0 : Int32), oI (1 : Int32), none, none]) hm155 ⟨⟨_, _, rfl⟩, rfl⟩ rfl rfl rfl rfl hm161 rfl rfl (fun _ => ⟨_, _, rfl, rfl⟩) rfl (Wp.mono h ?_)
    rintro _ m10 ⟨rfl, h⟩
    change Wp _ _ 157 _ [] _ _
    refine w_goto (q := 165) hm155 ⟨_, _, rfl⟩ ?_
    exact Wp.wk [false, false] h
  · have h := (h.2.2.2.2.2.2.2.2.2.2) hc
    change Wp _ _ 160 _ _ _ _
    refine w_aload_n (q := 161) hm155 ⟨⟨_, _, rfl⟩, rfl⟩ rfl ?_
    refine w_iconst (q := 162) hm155 ⟨⟨_, _, rfl⟩, rfl⟩ iconst_1 ?_
    refine w_putf (q := 165) hm155 ⟨⟨_, _, rfl⟩, rfl⟩ rfl rfl rfl ?_
    exact Wp.wk [false, false] h
theorem v_X2_checkTold_43_165 {d : Nat} {m : dM} {Q : dM → Prop} (h : Q m) : j_X2_checkTold_43_165 (d + 1) m Q := by
  exact w_retv hm155 ⟨⟨_, _, rfl⟩, rfl⟩ rfl h
theorem v_X2_check_43 {d : Nat} {m : dM} {Q : Int32 → dM → Prop} (h : j_X2_check_43_27 (d + 1) (0 : Int32) (dSet (dSet (dSet (dSet (dSet m 43 2 (0 : Int32)) 43 3 (0 : Int32)) 43 4 (0 : Int32)) 43 5 (0 : Int32)) 43 6 (0 : Int32)) Q) : c_X2_check_43 (d + 1) m Q := by
  refine w_aload_n (q := 1) hm154 ⟨⟨_, _, rfl⟩, rfl⟩ rfl ?_
  refine w_iconst (q := 2) hm154 ⟨⟨_, _, rfl⟩, rfl⟩ iconst_0 ?_
  refine w_putf (q := 5) hm154 ⟨⟨_, _, rfl⟩, rfl⟩ rfl rfl rfl ?_
  refine w_aload_n (q := 6) hm154 ⟨⟨_, _, rfl⟩, rfl⟩ rfl ?_
  refine w_iconst (q := 7) hm154 ⟨⟨_, _, rfl⟩, rfl⟩ iconst_0 ?_
  refine w_putf (q := 10) hm154 ⟨⟨_, _, rfl⟩, rfl⟩ rfl rfl rfl ?_
  refine w_aload_n (q := 11) hm154 ⟨⟨_, _, rfl⟩, rfl⟩ rfl ?_
  refine w_iconst (q := 12) hm154 ⟨⟨_, _, rfl⟩, rfl⟩ iconst_0 ?_
  refine w_putf (q := 15) hm154 ⟨⟨_, _, rfl⟩, rfl⟩ rfl rfl rfl ?_
  refine w_aload_n (q := 16) hm154 ⟨⟨_, _, rfl⟩, rfl⟩ rfl ?_
  refine w_iconst (q := 17) hm154 ⟨⟨_, _, rfl⟩, rfl⟩ iconst_0 ?_
  refine w_putf (q := 20) hm154 ⟨⟨_, _, rfl⟩, rfl⟩ rfl rfl rfl ?_
  refine w_aload_n (q := 21) hm154 ⟨⟨_, _, rfl⟩, rfl⟩ rfl ?_
  refine w_iconst (q := 22) hm154 ⟨⟨_, _, rfl⟩, rfl⟩ iconst_0 ?_
  refine w_putf (q := 25) hm154 ⟨⟨_, _, rfl⟩, rfl⟩ rfl rfl rfl ?_
  refine w_iconst (q := 26) hm154 ⟨⟨_, _, rfl⟩, rfl⟩ iconst_0 ?_
  refine w_istore_n (q := 27) (l' := [oR 43, oI (0 : Int32)]) hm154 ⟨⟨_, _, rfl⟩, rfl⟩ rfl rfl rfl ?_
  exact h
theorem v_X2_check_43_27 {d : Nat} {x1 : Int32} {m : dM} {Q : Int32 → dM → Prop} (h : ((400 < x1.toInt → j_X2_check_43_64 (d + 1) m Q) ∧ (x1.toInt ≤ 400 → (((m.1 43 3).toInt ≠ 0 → j_X2_check_43_64 (d + 1) m Q) ∧ ((m.1 43 3).toInt = 0 → c_X2_kind_43 d m (fun r1 m1 => ((r1.toInt = 24 → j_X2_check_43_64 (d + 1) m1 Q) ∧ (r1.toInt ≠ 24 → c_X2_kind_43 d m1 (fun r2 m2 => c_X2_checkTold_43 d r2 m2 (fun m3 => j_X2_check_43_27 (d + 1) (x1 + (1 : Int32)) m3 Q)))))))))) : j_X2_check_43_27 (d + 1) x1 m Q := by
  refine w_iload_n (q := 28) hm154 ⟨⟨_, _, rfl⟩, rfl⟩ rfl ?_
  refine w_sipush (q := 31) hm154 ⟨⟨_, _, rfl⟩, rfl⟩ sipush_400 ?_
  refine w_icmp_gt (q := 34) (X := x1.toInt) (Y := 400) hm154 ⟨⟨_, _, rfl⟩, rfl⟩ rfl (by decide) (fun hc => ?_) (fun hc => ?_)
  · have h := h.1 hc
    exact Wp.wk [true, false] h
  · have h := h.2 hc
    refine w_aload_n (q := 35) hm154 ⟨⟨_, _, rfl⟩, rfl⟩ rfl ?_
    refine w_getf (q := 38) (v := (m.1 43 3)) hm154 ⟨⟨_, _, rfl⟩, rfl⟩ rfl rfl ?_
    refine w_if_ne (q := 41) (X := (m.1 43 3).toInt) hm154 ⟨⟨_, _, rfl⟩, rfl⟩ rfl (fun hc => ?_) (fun hc => ?_)
    · have h := h.1 hc
      exact Wp.wk [true, false] h
    · have h := h.2 hc
      refine w_aload_n (q := 42) hm154 ⟨⟨_, _, rfl⟩, rfl⟩ rfl ?_
      refine w_call (q := 45) (n := 0) (vs := [.inr (.inr (some 43))]) (rest := []) (la := [oR 43]) hm154 ⟨⟨_, _, rfl⟩, rfl⟩ rfl rfl rfl rfl hm157 rfl rfl (fun _ => ⟨_, _, rfl, rfl⟩) rfl (Wp.mono h ?_)
      rintro _ m1 ⟨r1, rfl, h⟩
      change Wp _ _ 45 _ [.inl r1] _ _
      refine w_bipush (q := 47) hm154 ⟨⟨_, _, rfl⟩, rfl⟩ bipush_24 ?_
      refine w_icmp_eq (q := 50) (X := r1.toInt) (Y := 24) hm154 ⟨⟨_, _, rfl⟩, rfl⟩ rfl (by decide) (fun hc => ?_) (fun hc => ?_)
      · have h := h.1 hc
        exact Wp.wk [true, false] h
      · have h := h.2 hc
        refine w_aload_n (q := 51) hm154 ⟨⟨_, _, rfl⟩, rfl⟩ rfl ?_
        refine w_aload_n (q := 52) hm154 ⟨⟨_, _, rfl⟩, rfl⟩ rfl ?_
        refine w_call (q := 55) (n := 0) (vs := [.inr (.inr (some 43))]) (rest := [.inr (.inr (some 43))]) (la := [oR 43]) hm154 ⟨⟨_, _, rfl⟩, rfl⟩ rfl rfl rfl rfl hm157 rfl rfl (fun _ => ⟨_, _, rfl, rfl⟩) rfl (Wp.mono h ?_)
        rintro _ m2 ⟨r2, rfl, h⟩
        change Wp _ _ 55 _ [.inl r2, .inr (.inr (some 43))] _ _
        refine w_call (q := 58) (n := 0) (vs := [.inr (.inr (some 43)), .inl r2]) (rest := []) (la := [oR 43, oI r2]) hm154 ⟨⟨_, _, rfl⟩, rfl⟩ rfl rfl rfl rfl hm155 rfl rfl (fun _ => ⟨_, _, rfl, rfl⟩) rfl (Wp.mono h ?_)
        rintro _ m3 ⟨rfl, h⟩
        change Wp _ _ 58 _ [] _ _
        refine w_iinc (q := 61) (l' := [oR 43, oI (x1 + (1 : Int32))]) hm154 ⟨⟨_, _, rfl⟩, rfl⟩ rfl rfl rfl iconst_1 rfl ?_
        refine w_goto (q := 27) hm154 ⟨_, _, rfl⟩ ?_
        exact h
theorem v_X2_check_43_64 {d : Nat} {m : dM} {Q : Int32 → dM → Prop} (h : Q (m.1 43 3) m) : j_X2_check_43_64 (d + 1) m Q := by
  refine w_aload_n (q := 65) hm154 ⟨⟨_, _, rfl⟩, rfl⟩ rfl ?_
  refine w_getf (q := 68) (v := (m.1 43 3)) hm154 ⟨⟨_, _, rfl⟩, rfl⟩ rfl rfl ?_
  exact w_reti hm154 ⟨⟨_, _, rfl⟩, rfl⟩ rfl h
theorem v_X8_placeAt_38 {d : Nat} {x1 : Int32} {m : dM} {Q : Int32 → dM → Prop} (h : ((x1.toInt < 0 → j_X8_placeAt_38_20 (d + 1) m Q) ∧ (0 ≤ x1.toInt → ((400 < x1.toInt → j_X8_placeAt_38_20 (d + 1) m Q) ∧ (x1.toInt ≤ 400 → ((0 ≤ x1.toInt ∧ x1.toInt < 401) ∧ Q (m.1 40 x1.toNatClampNeg) m)))))) : c_X8_placeAt_38 (d + 1) x1 m Q := by
  refine w_iload_n (q := 1) hm217 ⟨⟨_, _, rfl⟩, rfl⟩ rfl ?_
  refine w_if_lt (q := 4) (X := x1.toInt) hm217 ⟨⟨_, _, rfl⟩, rfl⟩ rfl (fun hc => ?_) (fun hc => ?_)
  · have h := h.1 hc
    exact Wp.wk [true, false] h
  · have h := h.2 hc
    refine w_iload_n (q := 5) hm217 ⟨⟨_, _, rfl⟩, rfl⟩ rfl ?_
    refine w_sipush (q := 8) hm217 ⟨⟨_, _, rfl⟩, rfl⟩ sipush_400 ?_
    refine w_icmp_gt (q := 11) (X := x1.toInt) (Y := 400) hm217 ⟨⟨_, _, rfl⟩, rfl⟩ rfl (by decide) (fun hc => ?_) (fun hc => ?_)
    · have h := h.1 hc
      exact Wp.wk [true, false] h
    · have h := h.2 hc
      refine w_aload_n (q := 12) hm217 ⟨⟨_, _, rfl⟩, rfl⟩ rfl ?_
      refine w_getr (q := 15) hm217 ⟨⟨_, _, rfl⟩, rfl⟩ rfl ?_
      refine w_iload_n (q := 16) hm217 ⟨⟨_, _, rfl⟩, rfl⟩ rfl ?_
      obtain ⟨hi, h⟩ := h
      refine w_iald (q := 17) (v := (m.1 40 x1.toNatClampNeg)) hm217 ⟨⟨_, _, rfl⟩, rfl⟩ rfl hi rfl rfl ?_
      refine w_goto (q := 24) hm217 ⟨_, _, rfl⟩ ?_
      exact w_reti hm217 ⟨⟨_, _, rfl⟩, rfl⟩ rfl h
theorem v_X8_placeAt_38_20 {d : Nat} {m : dM} {Q : Int32 → dM → Prop} (h : Q (m.1 38 5) m) : j_X8_placeAt_38_20 (d + 1) m Q := by
  refine w_aload_n (q := 21) hm217 ⟨⟨_, _, rfl⟩, rfl⟩ rfl ?_
  refine w_getf (q := 24) (v := (m.1 38 5)) hm217 ⟨⟨_, _, rfl⟩, rfl⟩ rfl rfl ?_
  exact w_reti hm217 ⟨⟨_, _, rfl⟩, rfl⟩ rfl h
theorem v_X2_faultAt_43 {d : Nat} {m : dM} {Q : Int32 → dM → Prop} (h : (((m.1 43 3).toInt ≠ 0 → c_X8_placeAt_38 d (m.1 43 2) m (fun r1 m1 => Q r1 m1)) ∧ ((m.1 43 3).toInt = 0 → Q (-1 : Int32) m))) : c_X2_faultAt_43 (d + 1) m Q := by
  refine w_aload_n (q := 1) hm156 ⟨⟨_, _, rfl⟩, rfl⟩ rfl ?_
  refine w_getf (q := 4) (v := (m.1 43 3)) hm156 ⟨⟨_, _, rfl⟩, rfl⟩ rfl rfl ?_
  refine w_if_ne (q := 7) (X := (m.1 43 3).toInt) hm156 ⟨⟨_, _, rfl⟩, rfl⟩ rfl (fun hc => ?_) (fun hc => ?_)
  · have h := h.1 hc
    refine w_aload_n (q := 12) hm156 ⟨⟨_, _, rfl⟩, rfl⟩ rfl ?_
    refine w_getr (q := 15) hm156 ⟨⟨_, _, rfl⟩, rfl⟩ rfl ?_
    refine w_aload_n (q := 16) hm156 ⟨⟨_, _, rfl⟩, rfl⟩ rfl ?_
    refine w_getf (q := 19) (v := (m.1 43 2)) hm156 ⟨⟨_, _, rfl⟩, rfl⟩ rfl rfl ?_
    refine w_call (q := 22) (n := 0) (vs := [.inr (.inr (some 38)), .inl (m.1 43 2)]) (rest := []) (la := [oR 38, oI (m.1 43 2)]) hm156 ⟨⟨_, _, rfl⟩, rfl⟩ rfl rfl rfl rfl hm217 rfl rfl (fun _ => ⟨_, _, rfl, rfl⟩) rfl (Wp.mono h ?_)
    rintro _ m1 ⟨r1, rfl, h⟩
    change Wp _ _ 22 _ [.inl r1] _ _
    exact w_reti hm156 ⟨⟨_, _, rfl⟩, rfl⟩ rfl h
  · have h := h.2 hc
    refine w_iconst (q := 8) hm156 ⟨⟨_, _, rfl⟩, rfl⟩ iconst_m1 ?_
    refine w_goto (q := 22) hm156 ⟨_, _, rfl⟩ ?_
    exact w_reti hm156 ⟨⟨_, _, rfl⟩, rfl⟩ rfl h
theorem v_X8_kindAt_38 {d : Nat} {x1 : Int32} {m : dM} {Q : Int32 → dM → Prop} (h : ((x1.toInt < 0 → j_X8_kindAt_38_20 (d + 1) m Q) ∧ (0 ≤ x1.toInt → ((400 < x1.toInt → j_X8_kindAt_38_20 (d + 1) m Q) ∧ (x1.toInt ≤ 400 → ((0 ≤ x1.toInt ∧ x1.toInt < 401) ∧ Q (m.1 39 x1.toNatClampNeg) m)))))) : c_X8_kindAt_38 (d + 1) x1 m Q := by
  refine w_iload_n (q := 1) hm216 ⟨⟨_, _, rfl⟩, rfl⟩ rfl ?_
  refine w_if_lt (q := 4) (X := x1.toInt) hm216 ⟨⟨_, _, rfl⟩, rfl⟩ rfl (fun hc => ?_) (fun hc => ?_)
  · have h := h.1 hc
    exact Wp.wk [false, false] h
  · have h := h.2 hc
    refine w_iload_n (q := 5) hm216 ⟨⟨_, _, rfl⟩, rfl⟩ rfl ?_
    refine w_sipush (q := 8) hm216 ⟨⟨_, _, rfl⟩, rfl⟩ sipush_400 ?_
    refine w_icmp_gt (q := 11) (X := x1.toInt) (Y := 400) hm216 ⟨⟨_, _, rfl⟩, rfl⟩ rfl (by decide) (fun hc => ?_) (fun hc => ?_)
    · have h := h.1 hc
      exact Wp.wk [false, false] h
    · have h := h.2 hc
      refine w_aload_n (q := 12) hm216 ⟨⟨_, _, rfl⟩, rfl⟩ rfl ?_
      refine w_getr (q := 15) hm216 ⟨⟨_, _, rfl⟩, rfl⟩ rfl ?_
      refine w_iload_n (q := 16) hm216 ⟨⟨_, _, rfl⟩, rfl⟩ rfl ?_
      obtain ⟨hi, h⟩ := h
      refine w_iald (q := 17) (v := (m.1 39 x1.toNatClampNeg)) hm216 ⟨⟨_, _, rfl⟩, rfl⟩ rfl hi rfl rfl ?_
      refine w_goto (q := 22) hm216 ⟨_, _, rfl⟩ ?_
      exact w_reti hm216 ⟨⟨_, _, rfl⟩, rfl⟩ rfl h
theorem v_X8_kindAt_38_20 {d : Nat} {m : dM} {Q : Int32 → dM → Prop} (h : Q (24 : Int32) m) : j_X8_kindAt_38_20 (d + 1) m Q := by
  refine w_bipush (q := 22) hm216 ⟨⟨_, _, rfl⟩, rfl⟩ bipush_24 ?_
  exact w_reti hm216 ⟨⟨_, _, rfl⟩, rfl⟩ rfl h
theorem v_X5_indexOf_45 {d : Nat} {x1 : Int32} {y2 : Int64} {m : dM} {Q : Int32 → dM → Prop} (h : j_X5_indexOf_45_3 (d + 1) x1 y2 (0 : Int32) m Q) : c_X5_indexOf_45 (d + 1) x1 y2 m Q := by
  refine w_iconst (q := 1) hm199 ⟨⟨_, _, rfl⟩, rfl⟩ iconst_0 ?_
  refine w_istore (q := 3) (l' := [oR 45, oI x1, oL y2, none, oI (0 : Int32)]) hm199 ⟨⟨_, _, rfl⟩, rfl⟩ rfl rfl rfl ?_
  exact h
theorem v_X5_indexOf_45_3 {d : Nat} {x1 : Int32} {y2 : Int64} {x4 : Int32} {m : dM} {Q : Int32 → dM → Prop} (h : ((x1.toInt ≤ x4.toInt → j_X5_indexOf_45_34 (d + 1) m Q) ∧ (x4.toInt < x1.toInt → ((7 ≤ x4.toInt → j_X5_indexOf_45_34 (d + 1) m Q) ∧ (x4.toInt < 7 → ((0 ≤ x4.toInt ∧ x4.toInt < 7) ∧ (((lg_cmp (m.2.1 45 x4.toNatClampNeg) y2).toInt ≠ 0 → j_X5_indexOf_45_3 (d + 1) x1 y2 (x4 + (1 : Int32)) m Q) ∧ ((lg_cmp (m.2.1 45 x4.toNatClampNeg) y2).toInt = 0 → Q x4 m)))))))) : j_X5_indexOf_45_3 (d + 1) x1 y2 x4 m Q := by
  refine w_iload (q := 5) hm199 ⟨⟨_, _, rfl⟩, rfl⟩ rfl ?_
  refine w_iload_n (q := 6) hm199 ⟨⟨_, _, rfl⟩, rfl⟩ rfl ?_
  refine w_icmp_ge (q := 9) (X := x4.toInt) (Y := x1.toInt) hm199 ⟨⟨_, _, rfl⟩, rfl⟩ rfl rfl (fun hc => ?_) (fun hc => ?_)
  · have h := h.1 hc
    exact Wp.wk [false, false, false, false, false] h
  · have h := h.2 hc
    refine w_iload (q := 11) hm199 ⟨⟨_, _, rfl⟩, rfl⟩ rfl ?_
    refine w_aload_n (q := 12) hm199 ⟨⟨_, _, rfl⟩, rfl⟩ rfl ?_
    refine w_alenL (q := 13) hm199 ⟨⟨_, _, rfl⟩, rfl⟩ rfl alen_7 ?_
    refine w_icmp_ge (q := 16) (X := x4.toInt) (Y := 7) hm199 ⟨⟨_, _, rfl⟩, rfl⟩ rfl (by decide) (fun hc => ?_) (fun hc => ?_)
    · have h := h.1 hc
      exact Wp.wk [false, false, false, false, false] h
    · have h := h.2 hc
      refine w_aload_n (q := 17) hm199 ⟨⟨_, _, rfl⟩, rfl⟩ rfl ?_
      refine w_iload (q := 19) hm199 ⟨⟨_, _, rfl⟩, rfl⟩ rfl ?_
      obtain ⟨hi, h⟩ := h
      refine w_lald (q := 20) (v := (m.2.1 45 x4.toNatClampNeg)) hm199 ⟨⟨_, _, rfl⟩, rfl⟩ rfl hi rfl rfl ?_
      refine w_lload_n (q := 21) hm199 ⟨⟨_, _, rfl⟩, rfl⟩ rfl ?_
      refine w_lcmp (q := 22) hm199 ⟨⟨_, _, rfl⟩, rfl⟩ ?_
      refine w_if_ne (q := 25) (X := (lg_cmp (m.2.1 45 x4.toNatClampNeg) y2).toInt) hm199 ⟨⟨_, _, rfl⟩, rfl⟩ rfl (fun hc => ?_) (fun hc => ?_)
      · have h := h.1 hc
        refine w_iinc (q := 31) (l' := [oR 45, oI x1, oL y2, none, oI (x4 + (1 : Int32))]) hm199 ⟨⟨_, _, rfl⟩, rfl⟩ rfl rfl rfl iconst_1 rfl ?_
        refine w_goto (q := 3) hm199 ⟨_, _, rfl⟩ ?_
        exact h
      · have h := h.2 hc
        refine w_iload (q := 27) hm199 ⟨⟨_, _, rfl⟩, rfl⟩ rfl ?_
        exact w_reti hm199 ⟨⟨_, _, rfl⟩, rfl⟩ rfl h
theorem v_X5_indexOf_45_34 {d : Nat} {m : dM} {Q : Int32 → dM → Prop} (h : Q (-1 : Int32) m) : j_X5_indexOf_45_34 (d + 1) m Q := by
  refine w_iconst (q := 35) hm199 ⟨⟨_, _, rfl⟩, rfl⟩ iconst_m1 ?_
  exact w_reti hm199 ⟨⟨_, _, rfl⟩, rfl⟩ rfl h
theorem v_X5_indexOf_46 {d : Nat} {x1 : Int32} {y2 : Int64} {m : dM} {Q : Int32 → dM → Prop} (h : j_X5_indexOf_46_3 (d + 1) x1 y2 (0 : Int32) m Q) : c_X5_indexOf_46 (d + 1) x1 y2 m Q := by
  refine w_iconst (q := 1) hm199 ⟨⟨_, _, rfl⟩, rfl⟩ iconst_0 ?_
  refine w_istore (q := 3) (l' := [oR 46, oI x1, oL y2, none, oI (0 : Int32)]) hm199 ⟨⟨_, _, rfl⟩, rfl⟩ rfl rfl rfl ?_
  exact h
theorem v_X5_indexOf_46_3 {d : Nat} {x1 : Int32} {y2 : Int64} {x4 : Int32} {m : dM} {Q : Int32 → dM → Prop} (h : ((x1.toInt ≤ x4.toInt → j_X5_indexOf_46_34 (d + 1) m Q) ∧ (x4.toInt < x1.toInt → ((8 ≤ x4.toInt → j_X5_indexOf_46_34 (d + 1) m Q) ∧ (x4.toInt < 8 → ((0 ≤ x4.toInt ∧ x4.toInt < 8) ∧ (((lg_cmp (m.2.1 46 x4.toNatClampNeg) y2).toInt ≠ 0 → j_X5_indexOf_46_3 (d + 1) x1 y2 (x4 + (1 : Int32)) m Q) ∧ ((lg_cmp (m.2.1 46 x4.toNatClampNeg) y2).toInt = 0 → Q x4 m)))))))) : j_X5_indexOf_46_3 (d + 1) x1 y2 x4 m Q := by
  refine w_iload (q := 5) hm199 ⟨⟨_, _, rfl⟩, rfl⟩ rfl ?_
  refine w_iload_n (q := 6) hm199 ⟨⟨_, _, rfl⟩, rfl⟩ rfl ?_
  refine w_icmp_ge (q := 9) (X := x4.toInt) (Y := x1.toInt) hm199 ⟨⟨_, _, rfl⟩, rfl⟩ rfl rfl (fun hc => ?_) (fun hc => ?_)
  · have h := h.1 hc
    exact Wp.wk [false, false, false, false, false] h
  · have h := h.2 hc
    refine w_iload (q := 11) hm199 ⟨⟨_, _, rfl⟩, rfl⟩ rfl ?_
    refine w_aload_n (q := 12) hm199 ⟨⟨_, _, rfl⟩, rfl⟩ rfl ?_
    refine w_alenL (q := 13) hm199 ⟨⟨_, _, rfl⟩, rfl⟩ rfl alen_8 ?_
    refine w_icmp_ge (q := 16) (X := x4.toInt) (Y := 8) hm199 ⟨⟨_, _, rfl⟩, rfl⟩ rfl (by decide) (fun hc => ?_) (fun hc => ?_)
    · have h := h.1 hc
      exact Wp.wk [false, false, false, false, false] h
    · have h := h.2 hc
      refine w_aload_n (q := 17) hm199 ⟨⟨_, _, rfl⟩, rfl⟩ rfl ?_
      refine w_iload (q := 19) hm199 ⟨⟨_, _, rfl⟩, rfl⟩ rfl ?_
      obtain ⟨hi, h⟩ := h
      refine w_lald (q := 20) (v := (m.2.1 46 x4.toNatClampNeg)) hm199 ⟨⟨_, _, rfl⟩, rfl⟩ rfl hi rfl rfl ?_
      refine w_lload_n (q := 21) hm199 ⟨⟨_, _, rfl⟩, rfl⟩ rfl ?_
      refine w_lcmp (q := 22) hm199 ⟨⟨_, _, rfl⟩, rfl⟩ ?_
      refine w_if_ne (q := 25) (X := (lg_cmp (m.2.1 46 x4.toNatClampNeg) y2).toInt) hm199 ⟨⟨_, _, rfl⟩, rfl⟩ rfl (fun hc => ?_) (fun hc => ?_)
      · have h := h.1 hc
        refine w_iinc (q := 31) (l' := [oR 46, oI x1, oL y2, none, oI (x4 + (1 : Int32))]) hm199 ⟨⟨_, _, rfl⟩, rfl⟩ rfl rfl rfl iconst_1 rfl ?_
        refine w_goto (q := 3) hm199 ⟨_, _, rfl⟩ ?_
        exact h
      · have h := h.2 hc
        refine w_iload (q := 27) hm199 ⟨⟨_, _, rfl⟩, rfl⟩ rfl ?_
        exact w_reti hm199 ⟨⟨_, _, rfl⟩, rfl⟩ rfl h
theorem v_X5_indexOf_46_34 {d : Nat} {m : dM} {Q : Int32 → dM → Prop} (h : Q (-1 : Int32) m) : j_X5_indexOf_46_34 (d + 1) m Q := by
  refine w_iconst (q := 35) hm199 ⟨⟨_, _, rfl⟩, rfl⟩ iconst_m1 ?_
  exact w_reti hm199 ⟨⟨_, _, rfl⟩, rfl⟩ rfl h
theorem v_X5_fail_44 {d : Nat} {x1 : Int32} {m : dM} {Q : Int32 → dM → Prop} (h : Q (0 : Int32) (dSet m 44 5 x1)) : c_X5_fail_44 (d + 1) x1 m Q := by
  refine w_aload_n (q := 1) hm188 ⟨⟨_, _, rfl⟩, rfl⟩ rfl ?_
  refine w_iload_n (q := 2) hm188 ⟨⟨_, _, rfl⟩, rfl⟩ rfl ?_
  refine w_putf (q := 5) hm188 ⟨⟨_, _, rfl⟩, rfl⟩ rfl rfl rfl ?_
  refine w_iconst (q := 6) hm188 ⟨⟨_, _, rfl⟩, rfl⟩ iconst_0 ?_
  exact w_retz hm188 ⟨⟨_, _, rfl⟩, rfl⟩ rfl (by decide) h
theorem v_X5_isNewName_44 {d : Nat} {m : dM} {Q : Int32 → dM → Prop} (h : c_X8_nameAt_38 d (m.1 44 4) m (fun r1 m1 => c_X5_indexOf_45 d (m1.1 20 0) r1 m1 (fun r2 m2 => ((r2.toInt ≠ (-1) → j_X5_isNewName_44_50 (d + 1) m2 Q) ∧ (r2.toInt = (-1) → c_X5_indexOf_46 d (m2.1 20 2) r1 m2 (fun r3 m3 => ((r3.toInt = (-1) → Q (1 : Int32) m3) ∧ (r3.toInt ≠ (-1) → j_X5_isNewName_44_50 (d + 1) m3 Q)))))))) : c_X5_isNewName_44 (d + 1) m Q := by
  refine w_aload_n (q := 1) hm197 ⟨⟨_, _, rfl⟩, rfl⟩ rfl ?_
  refine w_getr (q := 4) hm197 ⟨⟨_, _, rfl⟩, rfl⟩ rfl ?_
  refine w_aload_n (q := 5) hm197 ⟨⟨_, _, rfl⟩, rfl⟩ rfl ?_
  refine w_getf (q := 8) (v := (m.1 44 4)) hm197 ⟨⟨_, _, rfl⟩, rfl⟩ rfl rfl ?_
  refine w_call (q := 11) (n := 0) (vs := [.inr (.inr (some 38)), .inl (m.1 44 4)]) (rest := []) (la := [oR 38, oI (m.1 44 4)]) hm197 ⟨⟨_, _, rfl⟩, rfl⟩ rfl rfl rfl rfl hm219 rfl rfl (fun _ => ⟨_, _, rfl, rfl⟩) rfl (Wp.mono h ?_)
  rintro _ m1 ⟨r1, rfl, h⟩
  change Wp _ _ 11 _ [.inr (.inl r1)] _ _
  refine w_lstore_n (q := 12) (l' := [oR 44, oL r1, none, none]) hm197 ⟨⟨_, _, rfl⟩, rfl⟩ rfl rfl rfl ?_
  refine w_aload_n (q := 13) hm197 ⟨⟨_, _, rfl⟩, rfl⟩ rfl ?_
  refine w_getr (q := 16) hm197 ⟨⟨_, _, rfl⟩, rfl⟩ rfl ?_
  refine w_aload_n (q := 17) hm197 ⟨⟨_, _, rfl⟩, rfl⟩ rfl ?_
  refine w_getr (q := 20) hm197 ⟨⟨_, _, rfl⟩, rfl⟩ rfl ?_
  refine w_getf (q := 23) (v := (m1.1 20 0)) hm197 ⟨⟨_, _, rfl⟩, rfl⟩ rfl rfl ?_
  refine w_lload_n (q := 24) hm197 ⟨⟨_, _, rfl⟩, rfl⟩ rfl ?_
  refine w_call (q := 27) (n := 1) (vs := [.inr (.inr (some 45)), .inl (m1.1 20 0), .inr (.inl r1)]) (rest := []) (la := [oR 45, oI (m1.1 20 0), oL r1, none, none]) hm197 ⟨⟨_, _, rfl⟩, rfl⟩ rfl rfl rfl rfl hm199 rfl rfl (fun hz => absurd hz (by decide)) rfl (Wp.mono h ?_)
  rintro _ m2 ⟨r2, rfl, h⟩
  change Wp _ _ 27 _ [.inl r2] _ _
  refine w_iconst (q := 28) hm197 ⟨⟨_, _, rfl⟩, rfl⟩ iconst_m1 ?_
  refine w_icmp_ne (q := 31) (X := r2.toInt) (Y := (-1)) hm197 ⟨⟨_, _, rfl⟩, rfl⟩ rfl (by decide) (fun hc => ?_) (fun hc => ?_)
  · have h := h.1 hc
    exact Wp.wk [true, false, false, false] h
  · have h := h.2 hc
    refine w_aload_n (q := 32) hm197 ⟨⟨_, _, rfl⟩, rfl⟩ rfl ?_
    refine w_getr (q := 35) hm197 ⟨⟨_, _, rfl⟩, rfl⟩ rfl ?_
    refine w_aload_n (q := 36) hm197 ⟨⟨_, _, rfl⟩, rfl⟩ rfl ?_
    refine w_getr (q := 39) hm197 ⟨⟨_, _, rfl⟩, rfl⟩ rfl ?_
    refine w_getf (q := 42) (v := (m2.1 20 2)) hm197 ⟨⟨_, _, rfl⟩, rfl⟩ rfl rfl ?_
    refine w_lload_n (q := 43) hm197 ⟨⟨_, _, rfl⟩, rfl⟩ rfl ?_
    refine w_call (q := 46) (n := 1) (vs := [.inr (.inr (some 46)), .inl (m2.1 20 2), .inr (.inl r1)]) (rest := []) (la := [oR 46, oI (m2.1 20 2), oL r1, none, none]) hm197 ⟨⟨_, _, rfl⟩, rfl⟩ rfl rfl rfl rfl hm199 rfl rfl (fun hz => absurd hz (by decide)) rfl (Wp.mono h ?_)
    rintro _ m3 ⟨r3, rfl, h⟩
    change Wp _ _ 46 _ [.inl r3] _ _
    refine w_iconst (q := 47) hm197 ⟨⟨_, _, rfl⟩, rfl⟩ iconst_m1 ?_
    refine w_icmp_eq (q := 50) (X := r3.toInt) (Y := (-1)) hm197 ⟨⟨_, _, rfl⟩, rfl⟩ rfl (by decide) (fun hc => ?_) (fun hc => ?_)
    · have h := h.1 hc
      refine w_iconst (q := 55) hm197 ⟨⟨_, _, rfl⟩, rfl⟩ iconst_0 ?_
      refine w_istore_n (q := 56) (l' := [oR 44, oL r1, none, oI (0 : Int32)]) hm197 ⟨⟨_, _, rfl⟩, rfl⟩ rfl rfl rfl ?_
      refine w_iload_n (q := 57) hm197 ⟨⟨_, _, rfl⟩, rfl⟩ rfl ?_
      refine w_if_eq (q := 60) (X := 0) hm197 ⟨⟨_, _, rfl⟩, rfl⟩ (by decide) (fun _ => ?_) (fun hc => absurd hc (by decide))
      refine w_iconst (q := 69) hm197 ⟨⟨_, _, rfl⟩, rfl⟩ iconst_1 ?_
      exact w_retz hm197 ⟨⟨_, _, rfl⟩, rfl⟩ rfl (by decide) h
    · have h := h.2 hc
      exact Wp.wk [true, false, false, false] h
theorem v_X5_isNewName_44_50 {d : Nat} {m : dM} {Q : Int32 → dM → Prop} (h : c_X5_fail_44 d (3 : Int32) m (fun r1 m1 => (r1 = 0 ∨ r1 = 1) ∧ Q r1 m1)) : j_X5_isNewName_44_50 (d + 1) m Q := by
  refine w_iconst (q := 51) hm197 ⟨⟨_, _, rfl⟩, rfl⟩ iconst_1 ?_
  refine w_goto (q := 55) hm197 ⟨_, _, rfl⟩ ?_
  refine w_istore_n (q := 56) (l' := [oR 44, none, none, oI (1 : Int32)]) hm197 ⟨⟨_, _, rfl⟩, rfl⟩ rfl rfl rfl ?_
  refine w_iload_n (q := 57) hm197 ⟨⟨_, _, rfl⟩, rfl⟩ rfl ?_
  refine w_if_eq (q := 60) (X := 1) hm197 ⟨⟨_, _, rfl⟩, rfl⟩ (by decide) (fun hc => absurd hc (by decide)) (fun _ => ?_)
  refine w_aload_n (q := 61) hm197 ⟨⟨_, _, rfl⟩, rfl⟩ rfl ?_
  refine w_iconst (q := 62) hm197 ⟨⟨_, _, rfl⟩, rfl⟩ iconst_3 ?_
  refine w_call (q := 65) (n := 0) (vs := [.inr (.inr (some 44)), .inl (3 : Int32)]) (rest := []) (la := [oR 44, oI (3 : Int32)]) hm197 ⟨⟨_, _, rfl⟩, rfl⟩ rfl rfl rfl rfl hm188 rfl rfl (fun _ => ⟨_, _, rfl, rfl⟩) rfl (Wp.mono h ?_)
  rintro _ m1 ⟨r1, rfl, h⟩
  change Wp _ _ 65 _ [.inl r1] _ _
  refine w_goto (q := 69) hm197 ⟨_, _, rfl⟩ ?_
  exact w_retz hm197 ⟨⟨_, _, rfl⟩, rfl⟩ rfl h.1 h.2
theorem v_X5_isWithin_44 {d : Nat} {x1 : Int32} {x2 : Int32} {m : dM} {Q : Int32 → dM → Prop} (h : c_X8_numberAt_38 d (m.1 44 4) m (fun r1 m1 => ((r1.toInt < x1.toInt → j_X5_isWithin_44_22 (d + 1) m1 Q) ∧ (x1.toInt ≤ r1.toInt → ((r1.toInt ≤ x2.toInt → Q (1 : Int32) (dSet m1 44 4 ((m1.1 44 4) + (1 : Int32)))) ∧ (x2.toInt < r1.toInt → j_X5_isWithin_44_22 (d + 1) m1 Q)))))) : c_X5_isWithin_44 (d + 1) x1 x2 m Q := by
  refine w_aload_n (q := 1) hm196 ⟨⟨_, _, rfl⟩, rfl⟩ rfl ?_
  refine w_getr (q := 4) hm196 ⟨⟨_, _, rfl⟩, rfl⟩ rfl ?_
  refine w_aload_n (q := 5) hm196 ⟨⟨_, _, rfl⟩, rfl⟩ rfl ?_
  refine w_getf (q := 8) (v := (m.1 44 4)) hm196 ⟨⟨_, _, rfl⟩, rfl⟩ rfl rfl ?_
  refine w_call (q := 11) (n := 0) (vs := [.inr (.inr (some 38)), .inl (m.1 44 4)]) (rest := []) (la := [oR 38, oI (m.1 44 4)]) hm196 ⟨⟨_, _, rfl⟩, rfl⟩ rfl rfl rfl rfl hm218 rfl rfl (fun _ => ⟨_, _, rfl, rfl⟩) rfl (Wp.mono h ?_)
  rintro _ m1 ⟨r1, rfl, h⟩
  change Wp _ _ 11 _ [.inl r1] _ _
  refine w_istore_n (q := 12) (l' := [oR 44, oI x1, oI x2, oI r1]) hm196 ⟨⟨_, _, rfl⟩, rfl⟩ rfl rfl rfl ?_
  refine w_iload_n (q := 13) hm196 ⟨⟨_, _, rfl⟩, rfl⟩ rfl ?_
  refine w_iload_n (q := 14) hm196 ⟨⟨_, _, rfl⟩, rfl⟩ rfl ?_
  refine w_icmp_lt (q := 17) (X := r1.toInt) (Y := x1.toInt) hm196 ⟨⟨_, _, rfl⟩, rfl⟩ rfl rfl (fun hc => ?_) (fun hc => ?_)
  · have h := h.1 hc
    exact Wp.wk [true, false, false, false] h
  · have h := h.2 hc
    refine w_iload_n (q := 18) hm196 ⟨⟨_, _, rfl⟩, rfl⟩ rfl ?_
    refine w_iload_n (q := 19) hm196 ⟨⟨_, _, rfl⟩, rfl⟩ rfl ?_
    refine w_icmp_le (q := 22) (X := r1.toInt) (Y := x2.toInt) hm196 ⟨⟨_, _, rfl⟩, rfl⟩ rfl rfl (fun hc => ?_) (fun hc => ?_)
    · have h := h.1 hc
      refine w_aload_n (q := 29) hm196 ⟨⟨_, _, rfl⟩, rfl⟩ rfl ?_
      refine w_dup (q := 30) hm196 ⟨⟨_, _, rfl⟩, rfl⟩ rfl ?_
      refine w_getf (q := 33) (v := (m1.1 44 4)) hm196 ⟨⟨_, _, rfl⟩, rfl⟩ rfl rfl ?_
      refine w_iconst (q := 34) hm196 ⟨⟨_, _, rfl⟩, rfl⟩ iconst_1 ?_
      refine w_iadd (q := 35) hm196 ⟨⟨_, _, rfl⟩, rfl⟩ ?_
      refine w_putf (q := 38) hm196 ⟨⟨_, _, rfl⟩, rfl⟩ rfl rfl rfl ?_
      refine w_iconst (q := 39) hm196 ⟨⟨_, _, rfl⟩, rfl⟩ iconst_1 ?_
      exact w_retz hm196 ⟨⟨_, _, rfl⟩, rfl⟩ rfl (by decide) h
    · have h := h.2 hc
      exact Wp.wk [true, false, false, false] h
theorem v_X5_isWithin_44_22 {d : Nat} {m : dM} {Q : Int32 → dM → Prop} (h : c_X5_fail_44 d (5 : Int32) m (fun r1 m1 => (r1 = 0 ∨ r1 = 1) ∧ Q r1 m1)) : j_X5_isWithin_44_22 (d + 1) m Q := by
  refine w_aload_n (q := 23) hm196 ⟨⟨_, _, rfl⟩, rfl⟩ rfl ?_
  refine w_iconst (q := 24) hm196 ⟨⟨_, _, rfl⟩, rfl⟩ iconst_5 ?_
  refine w_call (q := 27) (n := 0) (vs := [.inr (.inr (some 44)), .inl (5 : Int32)]) (rest := []) (la := [oR 44, oI (5 : Int32)]) hm196 ⟨⟨_, _, rfl⟩, rfl⟩ rfl rfl rfl rfl hm188 rfl rfl (fun _ => ⟨_, _, rfl, rfl⟩) rfl (Wp.mono h ?_)
  rintro _ m1 ⟨r1, rfl, h⟩
  change Wp _ _ 27 _ [.inl r1] _ _
  exact w_retz hm196 ⟨⟨_, _, rfl⟩, rfl⟩ rfl h.1 h.2
theorem v_X5_takeFlat_44 {d : Nat} {m : dM} {Q : Int32 → dM → Prop} (h : (((m.1 20 0).toInt < 7 → c_X5_isNewName_44 d m (fun r1 m1 => ((r1.toInt ≠ 0 → c_X8_nameAt_38 d (m1.1 44 4) m1 (fun r2 m2 => ((0 ≤ (m.1 20 0).toInt ∧ (m.1 20 0).toInt < 7) ∧ c_X8_numberAt_38 d ((m2.1 44 4) + (1 : Int32)) (dSet (dSetL m2 45 (m.1 20 0).toNatClampNeg r2) 44 4 ((m2.1 44 4) + (1 : Int32))) (fun r3 m3 => ((0 ≤ (m.1 20 0).toInt ∧ (m.1 20 0).toInt < 7) ∧ c_X5_isWithin_44 d (0 : Int32) (9 : Int32) (dSet (dSet m3 21 (m.1 20 0).toNatClampNeg r3) 20 0 ((m3.1 20 0) + (1 : Int32))) (fun r4 m4 => (r4 = 0 ∨ r4 = 1) ∧ Q r4 m4)))))) ∧ (r1.toInt = 0 → Q (0 : Int32) m1)))) ∧ (7 ≤ (m.1 20 0).toInt → c_X5_fail_44 d (2 : Int32) m (fun r5 m5 => (r5 = 0 ∨ r5 = 1) ∧ Q r5 m5)))) : c_X5_takeFlat_44 (d + 1) m Q := by
  refine w_aload_n (q := 1) hm190 ⟨⟨_, _, rfl⟩, rfl⟩ rfl ?_
  refine w_getr (q := 4) hm190 ⟨⟨_, _, rfl⟩, rfl⟩ rfl ?_
  refine w_getf (q := 7) (v := (m.1 20 0)) hm190 ⟨⟨_, _, rfl⟩, rfl⟩ rfl rfl ?_
  refine w_istore_n (q := 8) (l' := [oR 44, oI (m.1 20 0)]) hm190 ⟨⟨_, _, rfl⟩, rfl⟩ rfl rfl rfl ?_
  refine w_iload_n (q := 9) hm190 ⟨⟨_, _, rfl⟩, rfl⟩ rfl ?_
  refine w_bipush (q := 11) hm190 ⟨⟨_, _, rfl⟩, rfl⟩ bipush_7 ?_
  refine w_icmp_lt (q := 14) (X := (m.1 20 0).toInt) (Y := 7) hm190 ⟨⟨_, _, rfl⟩, rfl⟩ rfl (by decide) (fun hc => ?_) (fun hc => ?_)
  · have h := h.1 hc
    refine w_aload_n (q := 21) hm190 ⟨⟨_, _, rfl⟩, rfl⟩ rfl ?_
    refine w_call (q := 24) (n := 3) (vs := [.inr (.inr (some 44))]) (rest := []) (la := [oR 44, none, none, none]) hm190 ⟨⟨_, _, rfl⟩, rfl⟩ rfl rfl rfl rfl hm197 rfl rfl (fun _ => ⟨_, _, rfl, rfl⟩) rfl (Wp.mono h ?_)
    rintro _ m1 ⟨r1, rfl, h⟩
    change Wp _ _ 24 _ [.inl r1] _ _
    refine w_if_ne (q := 27) (X := r1.toInt) hm190 ⟨⟨_, _, rfl⟩, rfl⟩ rfl (fun hc => ?_) (fun hc => ?_)
    · have h := h.1 hc
      refine w_aload_n (q := 30) hm190 ⟨⟨_, _, rfl⟩, rfl⟩ rfl ?_
      refine w_getr (q := 33) hm190 ⟨⟨_, _, rfl⟩, rfl⟩ rfl ?_
      refine w_iload_n (q := 34) hm190 ⟨⟨_, _, rfl⟩, rfl⟩ rfl ?_
      refine w_aload_n (q := 35) hm190 ⟨⟨_, _, rfl⟩, rfl⟩ rfl ?_
      refine w_getr (q := 38) hm190 ⟨⟨_, _, rfl⟩, rfl⟩ rfl ?_
      refine w_aload_n (q := 39) hm190 ⟨⟨_, _, rfl⟩, rfl⟩ rfl ?_
      refine w_getf (q := 42) (v := (m1.1 44 4)) hm190 ⟨⟨_, _, rfl⟩, rfl⟩ rfl rfl ?_
      refine w_call (q := 45) (n := 0) (vs := [.inr (.inr (some 38)), .inl (m1.1 44 4)]) (rest := [.inl (m.1 20 0), .inr (.inr (some 45))]) (la := [oR 38, oI (m1.1 44 4)]) hm190 ⟨⟨_, _, rfl⟩, rfl⟩ rfl rfl rfl rfl hm219 rfl rfl (fun _ => ⟨_, _, rfl, rfl⟩) rfl (Wp.mono h ?_)
      rintro _ m2 ⟨r2, rfl, h⟩
      change Wp _ _ 45 _ [.inr (.inl r2), .inl (m.1 20 0), .inr (.inr (some 45))] _ _
      obtain ⟨hi, h⟩ := h
      refine w_last (q := 46) hm190 ⟨⟨_, _, rfl⟩, rfl⟩ rfl hi rfl rfl ?_
      refine w_aload_n (q := 47) hm190 ⟨⟨_, _, rfl⟩, rfl⟩ rfl ?_
      refine w_dup (q := 48) hm190 ⟨⟨_, _, rfl⟩, rfl⟩ rfl ?_
      refine w_getf (q := 51) (v := (m2.1 44 4)) hm190 ⟨⟨_, _, rfl⟩, rfl⟩ rfl rfl ?_
      refine w_iconst (q := 52) hm190 ⟨⟨_, _, rfl⟩, rfl⟩ iconst_1 ?_
      refine w_iadd (q := 53) hm190 ⟨⟨_, _, rfl⟩, rfl⟩ ?_
      refine w_putf (q := 56) hm190 ⟨⟨_, _, rfl⟩, rfl⟩ rfl rfl rfl ?_
      refine w_aload_n (q := 57) hm190 ⟨⟨_, _, rfl⟩, rfl⟩ rfl ?_
      refine w_getr (q := 60) hm190 ⟨⟨_, _, rfl⟩, rfl⟩ rfl ?_
      refine w_getr (q := 63) hm190 ⟨⟨_, _, rfl⟩, rfl⟩ rfl ?_
      refine w_iload_n (q := 64) hm190 ⟨⟨_, _, rfl⟩, rfl⟩ rfl ?_
      refine w_aload_n (q := 65) hm190 ⟨⟨_, _, rfl⟩, rfl⟩ rfl ?_
      refine w_getr (q := 68) hm190 ⟨⟨_, _, rfl⟩, rfl⟩ rfl ?_
      refine w_aload_n (q := 69) hm190 ⟨⟨_, _, rfl⟩, rfl⟩ rfl ?_
      refine w_getf (q := 72) (v := ((m2.1 44 4) + (1 : Int32))) hm190 ⟨⟨_, _, rfl⟩, rfl⟩ rfl rfl ?_
      refine w_call (q := 75) (n := 0) (vs := [.inr (.inr (some 38)), .inl ((m2.1 44 4) + (1 : Int32))]) (rest := [.inl (m.1 20 0), .inr (.inr (some 21))]) (la := [oR 38, oI ((m2.1 44 4) + (1 : Int32))]) hm190 ⟨⟨_, _, rfl⟩, rfl⟩ rfl rfl rfl rfl hm218 rfl rfl (fun _ => ⟨_, _, rfl, rfl⟩) rfl (Wp.mono h ?_)
      rintro _ m3 ⟨r3, rfl, h⟩
      change Wp _ _ 75 _ [.inl r3, .inl (m.1 20 0), .inr (.inr (some 21))] _ _
      obtain ⟨hi, h⟩ := h
      refine w_iast (q := 76) hm190 ⟨⟨_, _, rfl⟩, rfl⟩ rfl hi rfl rfl ?_
      refine w_aload_n (q := 77) hm190 ⟨⟨_, _, rfl⟩, rfl⟩ rfl ?_
      refine w_getr (q := 80) hm190 ⟨⟨_, _, rfl⟩, rfl⟩ rfl ?_
      refine w_dup (q := 81) hm190 ⟨⟨_, _, rfl⟩, rfl⟩ rfl ?_
      refine w_getf (q := 84) (v := (m3.1 20 0)) hm190 ⟨⟨_, _, rfl⟩, rfl⟩ rfl rfl ?_
      refine w_iconst (q := 85) hm190 ⟨⟨_, _, rfl⟩, rfl⟩ iconst_1 ?_
      refine w_iadd (q := 86) hm190 ⟨⟨_, _, rfl⟩, rfl⟩ ?_
      refine w_putf (q := 89) hm190 ⟨⟨_, _, rfl⟩, rfl⟩ rfl rfl rfl ?_
      refine w_aload_n (q := 90) hm190 ⟨⟨_, _, rfl⟩, rfl⟩ rfl ?_
      refine w_iconst (q := 91) hm190 ⟨⟨_, _, rfl⟩, rfl⟩ iconst_0 ?_
      refine w_bipush (q := 93) hm190 ⟨⟨_, _, rfl⟩, rfl⟩ bipush_9 ?_
      refine w_call (q := 96) (n := 1) (vs := [.inr (.inr (some 44)), .inl (0 : Int32), .inl (9 : Int32)]) (rest := []) (la := [oR 44, oI (0 : Int32), oI (9 : Int32), none]) hm190 ⟨⟨_, _, rfl⟩, rfl⟩ rfl rfl rfl rfl hm196 rfl rfl (fun _ => ⟨_, _, rfl, rfl⟩) rfl (Wp.mono h ?_)
      rintro _ m4 ⟨r4, rfl, h⟩
      change Wp _ _ 96 _ [.inl r4] _ _
      exact w_retz hm190 ⟨⟨_, _, rfl⟩, rfl⟩ rfl h.1 h.2
    · have h := h.2 hc
      refine w_iconst (q := 28) hm190 ⟨⟨_, _, rfl⟩, rfl⟩ iconst_0 ?_
      exact w_retz hm190 ⟨⟨_, _, rfl⟩, rfl⟩ rfl (by decide) h
  · have h := h.2 hc
    refine w_aload_n (q := 15) hm190 ⟨⟨_, _, rfl⟩, rfl⟩ rfl ?_
    refine w_iconst (q := 16) hm190 ⟨⟨_, _, rfl⟩, rfl⟩ iconst_2 ?_
    refine w_call (q := 19) (n := 0) (vs := [.inr (.inr (some 44)), .inl (2 : Int32)]) (rest := []) (la := [oR 44, oI (2 : Int32)]) hm190 ⟨⟨_, _, rfl⟩, rfl⟩ rfl rfl rfl rfl hm188 rfl rfl (fun _ => ⟨_, _, rfl, rfl⟩) rfl (Wp.mono h ?_)
    rintro _ m5 ⟨r5, rfl, h⟩
    change Wp _ _ 19 _ [.inl r5] _ _
    exact w_retz hm190 ⟨⟨_, _, rfl⟩, rfl⟩ rfl h.1 h.2
theorem v_X5_flatNamed_44 {d : Nat} {m : dM} {Q : Int32 → dM → Prop} (h : c_X8_nameAt_38 d (m.1 44 4) m (fun r1 m1 => c_X5_indexOf_45 d (m.1 20 0) r1 m1 (fun r2 m2 => ((r2.toInt ≠ (-1) → j_X5_flatNamed_44_36 (d + 1) r2 m2 Q) ∧ (r2.toInt = (-1) → j_X5_flatNamed_44_36 (d + 1) r2 (dSet m2 44 5 (4 : Int32)) Q))))) : c_X5_flatNamed_44 (d + 1) m Q := by
  refine w_aload_n (q := 1) hm198 ⟨⟨_, _, rfl⟩, rfl⟩ rfl ?_
  refine w_getr (q := 4) hm198 ⟨⟨_, _, rfl⟩, rfl⟩ rfl ?_
  refine w_aload_n (q := 5) hm198 ⟨⟨_, _, rfl⟩, rfl⟩ rfl ?_
  refine w_getr (q := 8) hm198 ⟨⟨_, _, rfl⟩, rfl⟩ rfl ?_
  refine w_getf (q := 11) (v := (m.1 20 0)) hm198 ⟨⟨_, _, rfl⟩, rfl⟩ rfl rfl ?_
  refine w_aload_n (q := 12) hm198 ⟨⟨_, _, rfl⟩, rfl⟩ rfl ?_
  refine w_getr (q := 15) hm198 ⟨⟨_, _, rfl⟩, rfl⟩ rfl ?_
  refine w_aload_n (q := 16) hm198 ⟨⟨_, _, rfl⟩, rfl⟩ rfl ?_
  refine w_getf (q := 19) (v := (m.1 44 4)) hm198 ⟨⟨_, _, rfl⟩, rfl⟩ rfl rfl ?_
  refine w_call (q := 22) (n := 0) (vs := [.inr (.inr (some 38)), .inl (m.1 44 4)]) (rest := [.inl (m.1 20 0), .inr (.inr (some 45))]) (la := [oR 38, oI (m.1 44 4)]) hm198 ⟨⟨_, _, rfl⟩, rfl⟩ rfl rfl rfl rfl hm219 rfl rfl (fun _ => ⟨_, _, rfl, rfl⟩) rfl (Wp.mono h ?_)
  rintro _ m1 ⟨r1, rfl, h⟩
  change Wp _ _ 22 _ [.inr (.inl r1), .inl (m.1 20 0), .inr (.inr (some 45))] _ _
  refine w_call (q := 25) (n := 1) (vs := [.inr (.inr (some 45)), .inl (m.1 20 0), .inr (.inl r1)]) (rest := []) (la := [oR 45, oI (m.1 20 0), oL r1, none, none]) hm198 ⟨⟨_, _, rfl⟩, rfl⟩ rfl rfl rfl rfl hm199 rfl rfl (fun hz => absurd hz (by decide)) rfl (Wp.mono h ?_)
  rintro _ m2 ⟨r2, rfl, h⟩
  change Wp _ _ 25 _ [.inl r2] _ _
  refine w_istore_n (q := 26) (l' := [oR 44, oI r2]) hm198 ⟨⟨_, _, rfl⟩, rfl⟩ rfl rfl rfl ?_
  refine w_iload_n (q := 27) hm198 ⟨⟨_, _, rfl⟩, rfl⟩ rfl ?_
  refine w_iconst (q := 28) hm198 ⟨⟨_, _, rfl⟩, rfl⟩ iconst_m1 ?_
  refine w_icmp_ne (q := 31) (X := r2.toInt) (Y := (-1)) hm198 ⟨⟨_, _, rfl⟩, rfl⟩ rfl (by decide) (fun hc => ?_) (fun hc => ?_)
  · have h := h.1 hc
    exact Wp.wk [false, true] h
  · have h := h.2 hc
    refine w_aload_n (q := 32) hm198 ⟨⟨_, _, rfl⟩, rfl⟩ rfl ?_
    refine w_iconst (q := 33) hm198 ⟨⟨_, _, rfl⟩, rfl⟩ iconst_4 ?_
    refine w_putf (q := 36) hm198 ⟨⟨_, _, rfl⟩, rfl⟩ rfl rfl rfl ?_
    exact Wp.wk [false, true] h
theorem v_X5_flatNamed_44_36 {d : Nat} {x1 : Int32} {m : dM} {Q : Int32 → dM → Prop} (h : Q x1 m) : j_X5_flatNamed_44_36 (d + 1) x1 m Q := by
  refine w_iload_n (q := 37) hm198 ⟨⟨_, _, rfl⟩, rfl⟩ rfl ?_
  exact w_reti hm198 ⟨⟨_, _, rfl⟩, rfl⟩ rfl h
theorem v_X3_endsOf_20 {d : Nat} {x1 : Int32} {m : dM} {Q : Int32 → dM → Prop} (h : ((0 ≤ x1.toInt ∧ x1.toInt < 10) ∧ ((0 ≤ x1.toInt ∧ x1.toInt < 10) ∧ Q (((1 : Int32) <<< ((m.1 22 x1.toNatClampNeg) &&& 31)) ||| ((1 : Int32) <<< ((m.1 23 x1.toNatClampNeg) &&& 31))) m))) : c_X3_endsOf_20 (d + 1) x1 m Q := by
  refine w_iconst (q := 1) hm172 ⟨⟨_, _, rfl⟩, rfl⟩ iconst_1 ?_
  refine w_aload_n (q := 2) hm172 ⟨⟨_, _, rfl⟩, rfl⟩ rfl ?_
  refine w_getr (q := 5) hm172 ⟨⟨_, _, rfl⟩, rfl⟩ rfl ?_
  refine w_iload_n (q := 6) hm172 ⟨⟨_, _, rfl⟩, rfl⟩ rfl ?_
  obtain ⟨hi, h⟩ := h
  refine w_iald (q := 7) (v := (m.1 22 x1.toNatClampNeg)) hm172 ⟨⟨_, _, rfl⟩, rfl⟩ rfl hi rfl rfl ?_
  refine w_ishl (q := 8) hm172 ⟨⟨_, _, rfl⟩, rfl⟩ ?_
  refine w_iconst (q := 9) hm172 ⟨⟨_, _, rfl⟩, rfl⟩ iconst_1 ?_
  refine w_aload_n (q := 10) hm172 ⟨⟨_, _, rfl⟩, rfl⟩ rfl ?_
  refine w_getr (q := 13) hm172 ⟨⟨_, _, rfl⟩, rfl⟩ rfl ?_
  refine w_iload_n (q := 14) hm172 ⟨⟨_, _, rfl⟩, rfl⟩ rfl ?_
  obtain ⟨hi, h⟩ := h
  refine w_iald (q := 15) (v := (m.1 23 x1.toNatClampNeg)) hm172 ⟨⟨_, _, rfl⟩, rfl⟩ rfl hi rfl rfl ?_
  refine w_ishl (q := 16) hm172 ⟨⟨_, _, rfl⟩, rfl⟩ ?_
  refine w_ior (q := 17) hm172 ⟨⟨_, _, rfl⟩, rfl⟩ ?_
  exact w_reti hm172 ⟨⟨_, _, rfl⟩, rfl⟩ rfl h
end
section
theorem v_X3_isWired_20 {d : Nat} {x1 : Int32} {x2 : Int32} {m : dM} {Q : Int32 → dM → Prop} (h : j_X3_isWired_20_11 (d + 1) (((1 : Int32) <<< (x1 &&& 31)) ||| ((1 : Int32) <<< (x2 &&& 31))) (0 : Int32) m Q) : c_X3_isWired_20 (d + 1) x1 x2 m Q := by
  refine w_iconst (q := 1) hm171 ⟨⟨_, _, rfl⟩, rfl⟩ iconst_1 ?_
  refine w_iload_n (q := 2) hm171 ⟨⟨_, _, rfl⟩, rfl⟩ rfl ?_
  refine w_ishl (q := 3) hm171 ⟨⟨_, _, rfl⟩, rfl⟩ ?_
  refine w_iconst (q := 4) hm171 ⟨⟨_, _, rfl⟩, rfl⟩ iconst_1 ?_
  refine w_iload_n (q := 5) hm171 ⟨⟨_, _, rfl⟩, rfl⟩ rfl ?_
  refine w_ishl (q := 6) hm171 ⟨⟨_, _, rfl⟩, rfl⟩ ?_
  refine w_ior (q := 7) hm171 ⟨⟨_, _, rfl⟩, rfl⟩ ?_
  refine w_istore_n (q := 8) (l' := [oR 20, oI x1, oI x2, oI (((1 : Int32) <<< (x1 &&& 31)) ||| ((1 : Int32) <<< (x2 &&& 31))), none]) hm171 ⟨⟨_, _, rfl⟩, rfl⟩ rfl rfl rfl ?_
  refine w_iconst (q := 9) hm171 ⟨⟨_, _, rfl⟩, rfl⟩ iconst_0 ?_
  refine w_istore (q := 11) (l' := [oR 20, oI x1, oI x2, oI (((1 : Int32) <<< (x1 &&& 31)) ||| ((1 : Int32) <<< (x2 &&& 31))), oI (0 : Int32)]) hm171 ⟨⟨_, _, rfl⟩, rfl⟩ rfl rfl rfl ?_
  exact Wp.wk [true, false, false, true, true] h
theorem v_X3_isWired_20_11 {d : Nat} {x3 : Int32} {x4 : Int32} {m : dM} {Q : Int32 → dM → Prop} (h : (((m.1 20 1).toInt ≤ x4.toInt → Q (0 : Int32) m) ∧ (x4.toInt < (m.1 20 1).toInt → c_X3_endsOf_20 d x4 m (fun r1 m1 => ((r1.toInt ≠ x3.toInt → j_X3_isWired_20_11 (d + 1) x3 (x4 + (1 : Int32)) m1 Q) ∧ (r1.toInt = x3.toInt → Q (1 : Int32) m1)))))) : j_X3_isWired_20_11 (d + 1) x3 x4 m Q := by
  refine w_iload (q := 13) hm171 ⟨⟨_, _, rfl⟩, rfl⟩ rfl ?_
  refine w_aload_n (q := 14) hm171 ⟨⟨_, _, rfl⟩, rfl⟩ rfl ?_
  refine w_getf (q := 17) (v := (m.1 20 1)) hm171 ⟨⟨_, _, rfl⟩, rfl⟩ rfl rfl ?_
  refine w_icmp_ge (q := 20) (X := x4.toInt) (Y := (m.1 20 1).toInt) hm171 ⟨⟨_, _, rfl⟩, rfl⟩ rfl rfl (fun hc => ?_) (fun hc => ?_)
  · have h := h.1 hc
    refine w_iconst (q := 39) hm171 ⟨⟨_, _, rfl⟩, rfl⟩ iconst_0 ?_
    exact w_retz hm171 ⟨⟨_, _, rfl⟩, rfl⟩ rfl (by decide) h
  · have h := h.2 hc
    refine w_aload_n (q := 21) hm171 ⟨⟨_, _, rfl⟩, rfl⟩ rfl ?_
    refine w_iload (q := 23) hm171 ⟨⟨_, _, rfl⟩, rfl⟩ rfl ?_
    refine w_call (q := 26) (n := 0) (vs := [.inr (.inr (some 20)), .inl x4]) (rest := []) (la := [oR 20, oI x4]) hm171 ⟨⟨_, _, rfl⟩, rfl⟩ rfl rfl rfl rfl hm172 rfl rfl (fun _ => ⟨_, _, rfl, rfl⟩) rfl (Wp.mono h ?_)
    rintro _ m1 ⟨r1, rfl, h⟩
    change Wp _ _ 26 _ [.inl r1] _ _
    refine w_iload_n (q := 27) hm171 ⟨⟨_, _, rfl⟩, rfl⟩ rfl ?_
    refine w_icmp_ne (q := 30) (X := r1.toInt) (Y := x3.toInt) hm171 ⟨⟨_, _, rfl⟩, rfl⟩ rfl rfl (fun hc => ?_) (fun hc => ?_)
    · have h := h.1 hc
      refine w_iinc (q := 35) (l' := [oR 20, none, none, oI x3, oI (x4 + (1 : Int32))]) hm171 ⟨⟨_, _, rfl⟩, rfl⟩ rfl rfl rfl iconst_1 rfl ?_
      refine w_goto (q := 11) hm171 ⟨_, _, rfl⟩ ?_
      exact h
    · have h := h.2 hc
      refine w_iconst (q := 31) hm171 ⟨⟨_, _, rfl⟩, rfl⟩ iconst_1 ?_
      exact w_retz hm171 ⟨⟨_, _, rfl⟩, rfl⟩ rfl (by decide) h
theorem v_X5_takeWire_44 {d : Nat} {m : dM} {Q : Int32 → dM → Prop} (h : (((m.1 20 1).toInt < 10 → c_X5_flatNamed_44 d m (fun r1 m1 => ((r1.toInt ≠ (-1) → c_X5_flatNamed_44 d (dSet m1 44 4 ((m1.1 44 4) + (1 : Int32))) (fun r2 m2 => ((r2.toInt ≠ (-1) → ((r1.toInt = r2.toInt → j_X5_takeWire_44_71 (d + 1) m2 Q) ∧ (r1.toInt ≠ r2.toInt → c_X3_isWired_20 d r1 r2 m2 (fun r3 m3 => ((r3.toInt = 0 → ((0 ≤ (m.1 20 1).toInt ∧ (m.1 20 1).toInt < 10) ∧ ((0 ≤ (m.1 20 1).toInt ∧ (m.1 20 1).toInt < 10) ∧ c_X8_numberAt_38 d ((m3.1 44 4) + (1 : Int32)) (dSet (dSet (dSet m3 44 4 ((m3.1 44 4) + (1 : Int32))) 22 (m.1 20 1).toNatClampNeg r1) 23 (m.1 20 1).toNatClampNeg r2) (fun r4 m4 => ((0 ≤ (m.1 20 1).toInt ∧ (m.1 20 1).toInt < 10) ∧ c_X5_isWithin_44 d (1 : Int32) (99 : Int32) (dSet (dSet m4 24 (m.1 20 1).toNatClampNeg r4) 20 1 ((m4.1 20 1) + (1 : Int32))) (fun r5 m5 => (r5 = 0 ∨ r5 = 1) ∧ Q r5 m5)))))) ∧ (r3.toInt ≠ 0 → j_X5_takeWire_44_71 (d + 1) m3 Q)))))) ∧ (r2.toInt = (-1) → Q (0 : Int32) m2)))) ∧ (r1.toInt = (-1) → Q (0 : Int32) m1)))) ∧ (10 ≤ (m.1 20 1).toInt → c_X5_fail_44 d (2 : Int32) m (fun r6 m6 => (r6 = 0 ∨ r6 = 1) ∧ Q r6 m6)))) : c_X5_takeWire_44 (d + 1) m Q := by
  refine w_aload_n (q := 1) hm191 ⟨⟨_, _, rfl⟩, rfl⟩ rfl ?_
  refine w_getr (q := 4) hm191 ⟨⟨_, _, rfl⟩, rfl⟩ rfl ?_
  refine w_getf (q := 7) (v := (m.1 20 1)) hm191 ⟨⟨_, _, rfl⟩, rfl⟩ rfl rfl ?_
  refine w_istore_n (q := 8) (l' := [oR 44, oI (m.1 20 1), none, none]) hm191 ⟨⟨_, _, rfl⟩, rfl⟩ rfl rfl rfl ?_
  refine w_iload_n (q := 9) hm191 ⟨⟨_, _, rfl⟩, rfl⟩ rfl ?_
  refine w_bipush (q := 11) hm191 ⟨⟨_, _, rfl⟩, rfl⟩ bipush_10 ?_
  refine w_icmp_lt (q := 14) (X := (m.1 20 1).toInt) (Y := 10) hm191 ⟨⟨_, _, rfl⟩, rfl⟩ rfl (by decide) (fun hc => ?_) (fun hc => ?_)
  · have h := h.1 hc
    refine w_aload_n (q := 21) hm191 ⟨⟨_, _, rfl⟩, rfl⟩ rfl ?_
    refine w_call (q := 24) (n := 1) (vs := [.inr (.inr (some 44))]) (rest := []) (la := [oR 44, none]) hm191 ⟨⟨_, _, rfl⟩, rfl⟩ rfl rfl rfl rfl hm198 rfl rfl (fun _ => ⟨_, _, rfl, rfl⟩) rfl (Wp.mono h ?_)
    rintro _ m1 ⟨r1, rfl, h⟩
    change Wp _ _ 24 _ [.inl r1] _ _
    refine w_istore_n (q := 25) (l' := [oR 44, oI (m.1 20 1), oI r1, none]) hm191 ⟨⟨_, _, rfl⟩, rfl⟩ rfl rfl rfl ?_
    refine w_iload_n (q := 26) hm191 ⟨⟨_, _, rfl⟩, rfl⟩ rfl ?_
    refine w_iconst (q := 27) hm191 ⟨⟨_, _, rfl⟩, rfl⟩ iconst_m1 ?_
    refine w_icmp_ne (q := 30) (X := r1.toInt) (Y := (-1)) hm191 ⟨⟨_, _, rfl⟩, rfl⟩ rfl (by decide) (fun hc => ?_) (fun hc => ?_)
    · have h := h.1 hc
      refine w_aload_n (q := 33) hm191 ⟨⟨_, _, rfl⟩, rfl⟩ rfl ?_
      refine w_dup (q := 34) hm191 ⟨⟨_, _, rfl⟩, rfl⟩ rfl ?_
      refine w_getf (q := 37) (v := (m1.1 44 4)) hm191 ⟨⟨_, _, rfl⟩, rfl⟩ rfl rfl ?_
      refine w_iconst (q := 38) hm191 ⟨⟨_, _, rfl⟩, rfl⟩ iconst_1 ?_
      refine w_iadd (q := 39) hm191 ⟨⟨_, _, rfl⟩, rfl⟩ ?_
      refine w_putf (q := 42) hm191 ⟨⟨_, _, rfl⟩, rfl⟩ rfl rfl rfl ?_
      refine w_aload_n (q := 43) hm191 ⟨⟨_, _, rfl⟩, rfl⟩ rfl ?_
      refine w_call (q := 46) (n := 1) (vs := [.inr (.inr (some 44))]) (rest := []) (la := [oR 44, none]) hm191 ⟨⟨_, _, rfl⟩, rfl⟩ rfl rfl rfl rfl hm198 rfl rfl (fun _ => ⟨_, _, rfl, rfl⟩) rfl (Wp.mono h ?_)
      rintro _ m2 ⟨r2, rfl, h⟩
      change Wp _ _ 46 _ [.inl r2] _ _
      refine w_istore_n (q := 47) (l' := [oR 44, oI (m.1 20 1), oI r1, oI r2]) hm191 ⟨⟨_, _, rfl⟩, rfl⟩ rfl rfl rfl ?_
      refine w_iload_n (q := 48) hm191 ⟨⟨_, _, rfl⟩, rfl⟩ rfl ?_
      refine w_iconst (q := 49) hm191 ⟨⟨_, _, rfl⟩, rfl⟩ iconst_m1 ?_
      refine w_icmp_ne (q := 52) (X := r2.toInt) (Y := (-1)) hm191 ⟨⟨_, _, rfl⟩, rfl⟩ rfl (by decide) (fun hc => ?_) (fun hc => ?_)
      · have h := h.1 hc
        refine w_iload_n (q := 55) hm191 ⟨⟨_, _, rfl⟩, rfl⟩ rfl ?_
        refine w_iload_n (q := 56) hm191 ⟨⟨_, _, rfl⟩, rfl⟩ rfl ?_
        refine w_icmp_eq (q := 59) (X := r1.toInt) (Y := r2.toInt) hm191 ⟨⟨_, _, rfl⟩, rfl⟩ rfl rfl (fun hc => ?_) (fun hc => ?_)
        · have h := h.1 hc
          exact Wp.wk [true, false, false, false] h
        · have h := h.2 hc
          refine w_aload_n (q := 60) hm191 ⟨⟨_, _, rfl⟩, rfl⟩ rfl ?_
          refine w_getr (q := 63) hm191 ⟨⟨_, _, rfl⟩, rfl⟩ rfl ?_
          refine w_iload_n (q := 64) hm191 ⟨⟨_, _, rfl⟩, rfl⟩ rfl ?_
          refine w_iload_n (q := 65) hm191 ⟨⟨_, _, rfl⟩, rfl⟩ rfl ?_
          refine w_call (q := 68) (n := 2) (vs := [.inr (.inr (some 20)), .inl r1, .inl r2]) (rest := []) (la := [oR 20, oI r1, oI r2, none, none]) hm191 ⟨⟨_, _, rfl⟩, rfl⟩ rfl rfl rfl rfl hm171 rfl rfl (fun _ => ⟨_, _, rfl, rfl⟩) rfl (Wp.mono h ?_)
          rintro _ m3 ⟨r3, rfl, h⟩
          change Wp _ _ 68 _ [.inl r3] _ _
          refine w_if_eq (q := 71) (X := r3.toInt) hm191 ⟨⟨_, _, rfl⟩, rfl⟩ rfl (fun hc => ?_) (fun hc => ?_)
          · have h := h.1 hc
            refine w_aload_n (q := 78) hm191 ⟨⟨_, _, rfl⟩, rfl⟩ rfl ?_
            refine w_dup (q := 79) hm191 ⟨⟨_, _, rfl⟩, rfl⟩ rfl ?_
            refine w_getf (q := 82) (v := (m3.1 44 4)) hm191 ⟨⟨_, _, rfl⟩, rfl⟩ rfl rfl ?_
            refine w_iconst (q := 83) hm191 ⟨⟨_, _, rfl⟩, rfl⟩ iconst_1 ?_
            refine w_iadd (q := 84) hm191 ⟨⟨_, _, rfl⟩, rfl⟩ ?_
            refine w_putf (q := 87) hm191 ⟨⟨_, _, rfl⟩, rfl⟩ rfl rfl rfl ?_
            refine w_aload_n (q := 88) hm191 ⟨⟨_, _, rfl⟩, rfl⟩ rfl ?_
            refine w_getr (q := 91) hm191 ⟨⟨_, _, rfl⟩, rfl⟩ rfl ?_
            refine w_getr (q := 94) hm191 ⟨⟨_, _, rfl⟩, rfl⟩ rfl ?_
            refine w_iload_n (q := 95) hm191 ⟨⟨_, _, rfl⟩, rfl⟩ rfl ?_
            refine w_iload_n (q := 96) hm191 ⟨⟨_, _, rfl⟩, rfl⟩ rfl ?_
            obtain ⟨hi, h⟩ := h
            refine w_iast (q := 97) hm191 ⟨⟨_, _, rfl⟩, rfl⟩ rfl hi rfl rfl ?_
            refine w_aload_n (q := 98) hm191 ⟨⟨_, _, rfl⟩, rfl⟩ rfl ?_
            refine w_getr (q := 101) hm191 ⟨⟨_, _, rfl⟩, rfl⟩ rfl ?_
            refine w_getr (q := 104) hm191 ⟨⟨_, _, rfl⟩, rfl⟩ rfl ?_
            refine w_iload_n (q := 105) hm191 ⟨⟨_, _, rfl⟩, rfl⟩ rfl ?_
            refine w_iload_n (q := 106) hm191 ⟨⟨_, _, rfl⟩, rfl⟩ rfl ?_
            obtain ⟨hi, h⟩ := h
            refine w_iast (q := 107) hm191 ⟨⟨_, _, rfl⟩, rfl⟩ rfl hi rfl rfl ?_
            refine w_aload_n (q := 108) hm191 ⟨⟨_, _, rfl⟩, rfl⟩ rfl ?_
            refine w_getr (q := 111) hm191 ⟨⟨_, _, rfl⟩, rfl⟩ rfl ?_
            refine w_getr (q := 114) hm191 ⟨⟨_, _, rfl⟩, rfl⟩ rfl ?_
            refine w_iload_n (q := 115) hm191 ⟨⟨_, _, rfl⟩, rfl⟩ rfl ?_
            refine w_aload_n (q := 116) hm191 ⟨⟨_, _, rfl⟩, rfl⟩ rfl ?_
            refine w_getr (q := 119) hm191 ⟨⟨_, _, rfl⟩, rfl⟩ rfl ?_
            refine w_aload_n (q := 120) hm191 ⟨⟨_, _, rfl⟩, rfl⟩ rfl ?_
            refine w_getf (q := 123) (v := ((m3.1 44 4) + (1 : Int32))) hm191 ⟨⟨_, _, rfl⟩, rfl⟩ rfl rfl ?_
            refine w_call (q := 126) (n := 0) (vs := [.inr (.inr (some 38)), .inl ((m3.1 44 4) + (1 : Int32))]) (rest := [.inl (m.1 20 1), .inr (.inr (some 24))]) (la := [oR 38, oI ((m3.1 44 4) + (1 : Int32))]) hm191 ⟨⟨_, _, rfl⟩, rfl⟩ rfl rfl rfl rfl hm218 rfl rfl (fun _ => ⟨_, _, rfl, rfl⟩) rfl (Wp.mono h ?_)
            rintro _ m4 ⟨r4, rfl, h⟩
            change Wp _ _ 126 _ [.inl r4, .inl (m.1 20 1), .inr (.inr (some 24))] _ _
            obtain ⟨hi, h⟩ := h
            refine w_iast (q := 127) hm191 ⟨⟨_, _, rfl⟩, rfl⟩ rfl hi rfl rfl ?_
            refine w_aload_n (q := 128) hm191 ⟨⟨_, _, rfl⟩, rfl⟩ rfl ?_
            refine w_getr (q := 131) hm191 ⟨⟨_, _, rfl⟩, rfl⟩ rfl ?_
            refine w_dup (q := 132) hm191 ⟨⟨_, _, rfl⟩, rfl⟩ rfl ?_
            refine w_getf (q := 135) (v := (m4.1 20 1)) hm191 ⟨⟨_, _, rfl⟩, rfl⟩ rfl rfl ?_
            refine w_iconst (q := 136) hm191 ⟨⟨_, _, rfl⟩, rfl⟩ iconst_1 ?_
            refine w_iadd (q := 137) hm191 ⟨⟨_, _, rfl⟩, rfl⟩ ?_
            refine w_putf (q := 140) hm191 ⟨⟨_, _, rfl⟩, rfl⟩ rfl rfl rfl ?_
            refine w_aload_n (q := 141) hm191 ⟨⟨_, _, rfl⟩, rfl⟩ rfl ?_
            refine w_iconst (q := 142) hm191 ⟨⟨_, _, rfl⟩, rfl⟩ iconst_1 ?_
            refine w_bipush (q := 144) hm191 ⟨⟨_, _, rfl⟩, rfl⟩ bipush_99 ?_
            refine w_call (q := 147) (n := 1) (vs := [.inr (.inr (some 44)), .inl (1 : Int32), .inl (99 : Int32)]) (rest := []) (la := [oR 44, oI (1 : Int32), oI (99 : Int32), none]) hm191 ⟨⟨_, _, rfl⟩, rfl⟩ rfl rfl rfl rfl hm196 rfl rfl (fun _ => ⟨_, _, rfl, rfl⟩) rfl (Wp.mono h ?_)
            rintro _ m5 ⟨r5, rfl, h⟩
            change Wp _ _ 147 _ [.inl r5] _ _
            exact w_retz hm191 ⟨⟨_, _, rfl⟩, rfl⟩ rfl h.1 h.2
          · have h := h.2 hc
            exact Wp.wk [true, false, false, false] h
      · have h := h.2 hc
        refine w_iconst (q := 53) hm191 ⟨⟨_, _, rfl⟩, rfl⟩ iconst_0 ?_
        exact w_retz hm191 ⟨⟨_, _, rfl⟩, rfl⟩ rfl (by decide) h
    · have h := h.2 hc
      refine w_iconst (q := 31) hm191 ⟨⟨_, _, rfl⟩, rfl⟩ iconst_0 ?_
      exact w_retz hm191 ⟨⟨_, _, rfl⟩, rfl⟩ rfl (by decide) h
  · have h := h.2 hc
    refine w_aload_n (q := 15) hm191 ⟨⟨_, _, rfl⟩, rfl⟩ rfl ?_
    refine w_iconst (q := 16) hm191 ⟨⟨_, _, rfl⟩, rfl⟩ iconst_2 ?_
    refine w_call (q := 19) (n := 0) (vs := [.inr (.inr (some 44)), .inl (2 : Int32)]) (rest := []) (la := [oR 44, oI (2 : Int32)]) hm191 ⟨⟨_, _, rfl⟩, rfl⟩ rfl rfl rfl rfl hm188 rfl rfl (fun _ => ⟨_, _, rfl, rfl⟩) rfl (Wp.mono h ?_)
    rintro _ m6 ⟨r6, rfl, h⟩
    change Wp _ _ 19 _ [.inl r6] _ _
    exact w_retz hm191 ⟨⟨_, _, rfl⟩, rfl⟩ rfl h.1 h.2
theorem v_X5_takeWire_44_71 {d : Nat} {m : dM} {Q : Int32 → dM → Prop} (h : c_X5_fail_44 d (3 : Int32) m (fun r1 m1 => (r1 = 0 ∨ r1 = 1) ∧ Q r1 m1)) : j_X5_takeWire_44_71 (d + 1) m Q := by
  refine w_aload_n (q := 72) hm191 ⟨⟨_, _, rfl⟩, rfl⟩ rfl ?_
  refine w_iconst (q := 73) hm191 ⟨⟨_, _, rfl⟩, rfl⟩ iconst_3 ?_
  refine w_call (q := 76) (n := 0) (vs := [.inr (.inr (some 44)), .inl (3 : Int32)]) (rest := []) (la := [oR 44, oI (3 : Int32)]) hm191 ⟨⟨_, _, rfl⟩, rfl⟩ rfl rfl rfl rfl hm188 rfl rfl (fun _ => ⟨_, _, rfl, rfl⟩) rfl (Wp.mono h ?_)
  rintro _ m1 ⟨r1, rfl, h⟩
  change Wp _ _ 76 _ [.inl r1] _ _
  exact w_retz hm191 ⟨⟨_, _, rfl⟩, rfl⟩ rfl h.1 h.2
theorem v_X5_takeUse_44 {d : Nat} {m : dM} {Q : Int32 → dM → Prop} (h : (((m.1 20 2).toInt < 8 → c_X5_isNewName_44 d m (fun r1 m1 => ((r1.toInt ≠ 0 → c_X8_nameAt_38 d (m1.1 44 4) m1 (fun r2 m2 => ((0 ≤ (m.1 20 2).toInt ∧ (m.1 20 2).toInt < 8) ∧ c_X5_flatNamed_44 d (dSet (dSet (dSetL m2 46 (m.1 20 2).toNatClampNeg r2) 20 2 ((m2.1 20 2) + (1 : Int32))) 44 4 ((m2.1 44 4) + (1 : Int32))) (fun r3 m3 => ((0 ≤ (m.1 20 2).toInt ∧ (m.1 20 2).toInt < 8) ∧ ((0 ≤ (m.1 20 2).toInt ∧ (m.1 20 2).toInt < 8) ∧ ((r3.toInt ≠ (-1) → c_X8_numberAt_38 d ((m3.1 44 4) + (1 : Int32)) (dSet (dSet m3 25 (m.1 20 2).toNatClampNeg r3) 44 4 ((m3.1 44 4) + (1 : Int32))) (fun r4 m4 => ((0 ≤ (m.1 20 2).toInt ∧ (m.1 20 2).toInt < 8) ∧ c_X8_numberAt_38 d ((m4.1 44 4) + (1 : Int32)) (dSet m4 26 (m.1 20 2).toNatClampNeg r4) (fun r5 m5 => ((0 ≤ (m.1 20 2).toInt ∧ (m.1 20 2).toInt < 8) ∧ c_X8_numberAt_38 d ((m5.1 44 4) + (2 : Int32)) (dSet m5 27 (m.1 20 2).toNatClampNeg r5) (fun r6 m6 => ((0 ≤ (m.1 20 2).toInt ∧ (m.1 20 2).toInt < 8) ∧ c_X5_isWithin_44 d (1 : Int32) (19 : Int32) (dSet m6 28 (m.1 20 2).toNatClampNeg r6) (fun r7 m7 => ((r7.toInt = 0 → j_X5_takeUse_44_213 (d + 1) m7 Q) ∧ (r7.toInt ≠ 0 → c_X5_isWithin_44 d (0 : Int32) (23 : Int32) m7 (fun r8 m8 => ((r8.toInt = 0 → j_X5_takeUse_44_213 (d + 1) m8 Q) ∧ (r8.toInt ≠ 0 → ((0 ≤ (m.1 20 2).toInt ∧ (m.1 20 2).toInt < 8) ∧ c_X5_isWithin_44 d (m8.1 27 (m.1 20 2).toNatClampNeg) (23 : Int32) m8 (fun r9 m9 => ((r9.toInt = 0 → j_X5_takeUse_44_213 (d + 1) m9 Q) ∧ (r9.toInt ≠ 0 → Q (1 : Int32) m9))))))))))))))))) ∧ (r3.toInt = (-1) → Q (0 : Int32) (dSet m3 25 (m.1 20 2).toNatClampNeg r3))))))))) ∧ (r1.toInt = 0 → Q (0 : Int32) m1)))) ∧ (8 ≤ (m.1 20 2).toInt → c_X5_fail_44 d (2 : Int32) m (fun r10 m10 => (r10 = 0 ∨ r10 = 1) ∧ Q r10 m10)))) : c_X5_takeUse_44 (d + 1) m Q := by
  refine w_aload_n (q := 1) hm192 ⟨⟨_, _, rfl⟩, rfl⟩ rfl ?_
  refine w_getr (q := 4) hm192 ⟨⟨_, _, rfl⟩, rfl⟩ rfl ?_
  refine w_getf (q := 7) (v := (m.1 20 2)) hm192 ⟨⟨_, _, rfl⟩, rfl⟩ rfl rfl ?_
  refine w_istore_n (q := 8) (l' := [oR 44, oI (m.1 20 2)]) hm192 ⟨⟨_, _, rfl⟩, rfl⟩ rfl rfl rfl ?_
  refine w_iload_n (q := 9) hm192 ⟨⟨_, _, rfl⟩, rfl⟩ rfl ?_
  refine w_bipush (q := 11) hm192 ⟨⟨_, _, rfl⟩, rfl⟩ bipush_8 ?_
  refine w_icmp_lt (q := 14) (X := (m.1 20 2).toInt) (Y := 8) hm192 ⟨⟨_, _, rfl⟩, rfl⟩ rfl (by decide) (fun hc => ?_) (fun hc => ?_)
  · have h := h.1 hc
    refine w_aload_n (q := 21) hm192 ⟨⟨_, _, rfl⟩, rfl⟩ rfl ?_
    refine w_call (q := 24) (n := 3) (vs := [.inr (.inr (some 44))]) (rest := []) (la := [oR 44, none, none, none]) hm192 ⟨⟨_, _, rfl⟩, rfl⟩ rfl rfl rfl rfl hm197 rfl rfl (fun _ => ⟨_, _, rfl, rfl⟩) rfl (Wp.mono h ?_)
    rintro _ m1 ⟨r1, rfl, h⟩
    change Wp _ _ 24 _ [.inl r1] _ _
    refine w_if_ne (q := 27) (X := r1.toInt) hm192 ⟨⟨_, _, rfl⟩, rfl⟩ rfl (fun hc => ?_) (fun hc => ?_)
    · have h := h.1 hc
      refine w_aload_n (q := 30) hm192 ⟨⟨_, _, rfl⟩, rfl⟩ rfl ?_
      refine w_getr (q := 33) hm192 ⟨⟨_, _, rfl⟩, rfl⟩ rfl ?_
      refine w_iload_n (q := 34) hm192 ⟨⟨_, _, rfl⟩, rfl⟩ rfl ?_
      refine w_aload_n (q := 35) hm192 ⟨⟨_, _, rfl⟩, rfl⟩ rfl ?_
      refine w_getr (q := 38) hm192 ⟨⟨_, _, rfl⟩, rfl⟩ rfl ?_
      refine w_aload_n (q := 39) hm192 ⟨⟨_, _, rfl⟩, rfl⟩ rfl ?_
      refine w_getf (q := 42) (v := (m1.1 44 4)) hm192 ⟨⟨_, _, rfl⟩, rfl⟩ rfl rfl ?_
      refine w_call (q := 45) (n := 0) (vs := [.inr (.inr (some 38)), .inl (m1.1 44 4)]) (rest := [.inl (m.1 20 2), .inr (.inr (some 46))]) (la := [oR 38, oI (m1.1 44 4)]) hm192 ⟨⟨_, _, rfl⟩, rfl⟩ rfl rfl rfl rfl hm219 rfl rfl (fun _ => ⟨_, _, rfl, rfl⟩) rfl (Wp.mono h ?_)
      rintro _ m2 ⟨r2, rfl, h⟩
      change Wp _ _ 45 _ [.inr (.inl r2), .inl (m.1 20 2), .inr (.inr (some 46))] _ _
      obtain ⟨hi, h⟩ := h
      refine w_last (q := 46) hm192 ⟨⟨_, _, rfl⟩, rfl⟩ rfl hi rfl rfl ?_
      refine w_aload_n (q := 47) hm192 ⟨⟨_, _, rfl⟩, rfl⟩ rfl ?_
      refine w_getr (q := 50) hm192 ⟨⟨_, _, rfl⟩, rfl⟩ rfl ?_
      refine w_dup (q := 51) hm192 ⟨⟨_, _, rfl⟩, rfl⟩ rfl ?_
      refine w_getf (q := 54) (v := (m2.1 20 2)) hm192 ⟨⟨_, _, rfl⟩, rfl⟩ rfl rfl ?_
      refine w_iconst (q := 55) hm192 ⟨⟨_, _, rfl⟩, rfl⟩ iconst_1 ?_
      refine w_iadd (q := 56) hm192 ⟨⟨_, _, rfl⟩, rfl⟩ ?_
      refine w_putf (q := 59) hm192 ⟨⟨_, _, rfl⟩, rfl⟩ rfl rfl rfl ?_
      refine w_aload_n (q := 60) hm192 ⟨⟨_, _, rfl⟩, rfl⟩ rfl ?_
      refine w_dup (q := 61) hm192 ⟨⟨_, _, rfl⟩, rfl⟩ rfl ?_
      refine w_getf (q := 64) (v := (m2.1 44 4)) hm192 ⟨⟨_, _, rfl⟩, rfl⟩ rfl rfl ?_
      refine w_iconst (q := 65) hm192 ⟨⟨_, _, rfl⟩, rfl⟩ iconst_1 ?_
      refine w_iadd (q := 66) hm192 ⟨⟨_, _, rfl⟩, rfl⟩ ?_
      refine w_putf (q := 69) hm192 ⟨⟨_, _, rfl⟩, rfl⟩ rfl rfl rfl ?_
      refine w_aload_n (q := 70) hm192 ⟨⟨_, _, rfl⟩, rfl⟩ rfl ?_
      refine w_getr (q := 73) hm192 ⟨⟨_, _, rfl⟩, rfl⟩ rfl ?_
      refine w_getr (q := 76) hm192 ⟨⟨_, _, rfl⟩, rfl⟩ rfl ?_
      refine w_iload_n (q := 77) hm192 ⟨⟨_, _, rfl⟩, rfl⟩ rfl ?_
      refine w_aload_n (q := 78) hm192 ⟨⟨_, _, rfl⟩, rfl⟩ rfl ?_
      refine w_call (q := 81) (n := 1) (vs := [.inr (.inr (some 44))]) (rest := [.inl (m.1 20 2), .inr (.inr (some 25))]) (la := [oR 44, none]) hm192 ⟨⟨_, _, rfl⟩, rfl⟩ rfl rfl rfl rfl hm198 rfl rfl (fun _ => ⟨_, _, rfl, rfl⟩) rfl (Wp.mono h ?_)
      rintro _ m3 ⟨r3, rfl, h⟩
      change Wp _ _ 81 _ [.inl r3, .inl (m.1 20 2), .inr (.inr (some 25))] _ _
      obtain ⟨hi, h⟩ := h
      refine w_iast (q := 82) hm192 ⟨⟨_, _, rfl⟩, rfl⟩ rfl hi rfl rfl ?_
      refine w_aload_n (q := 83) hm192 ⟨⟨_, _, rfl⟩, rfl⟩ rfl ?_
      refine w_getr (q := 86) hm192 ⟨⟨_, _, rfl⟩, rfl⟩ rfl ?_
      refine w_getr (q := 89) hm192 ⟨⟨_, _, rfl⟩, rfl⟩ rfl ?_
      refine w_iload_n (q := 90) hm192 ⟨⟨_, _, rfl⟩, rfl⟩ rfl ?_
      obtain ⟨hi, h⟩ := h
      refine w_iald (q := 91) (v := r3) hm192 ⟨⟨_, _, rfl⟩, rfl⟩ rfl hi rfl (dSet_s m3 25 (m.1 20 2).toNatClampNeg r3) ?_
      refine w_iconst (q := 92) hm192 ⟨⟨_, _, rfl⟩, rfl⟩ iconst_m1 ?_
      refine w_icmp_ne (q := 95) (X := r3.toInt) (Y := (-1)) hm192 ⟨⟨_, _, rfl⟩, rfl⟩ rfl (by decide) (fun hc => ?_) (fun hc => ?_)
      · have h := h.1 hc
        refine w_aload_n (q := 98) hm192 ⟨⟨_, _, rfl⟩, rfl⟩ rfl ?_
        refine w_dup (q := 99) hm192 ⟨⟨_, _, rfl⟩, rfl⟩ rfl ?_
        refine w_getf (q := 102) (v := (m3.1 44 4)) hm192 ⟨⟨_, _, rfl⟩, rfl⟩ rfl rfl ?_
        refine w_iconst (q := 103) hm192 ⟨⟨_, _, rfl⟩, rfl⟩ iconst_1 ?_
        refine w_iadd (q := 104) hm192 ⟨⟨_, _, rfl⟩, rfl⟩ ?_
        refine w_putf (q := 107) hm192 ⟨⟨_, _, rfl⟩, rfl⟩ rfl rfl rfl ?_
        refine w_aload_n (q := 108) hm192 ⟨⟨_, _, rfl⟩, rfl⟩ rfl ?_
        refine w_getr (q := 111) hm192 ⟨⟨_, _, rfl⟩, rfl⟩ rfl ?_
        refine w_getr (q := 114) hm192 ⟨⟨_, _, rfl⟩, rfl⟩ rfl ?_
        refine w_iload_n (q := 115) hm192 ⟨⟨_, _, rfl⟩, rfl⟩ rfl ?_
        refine w_aload_n (q := 116) hm192 ⟨⟨_, _, rfl⟩, rfl⟩ rfl ?_
        refine w_getr (q := 119) hm192 ⟨⟨_, _, rfl⟩, rfl⟩ rfl ?_
        refine w_aload_n (q := 120) hm192 ⟨⟨_, _, rfl⟩, rfl⟩ rfl ?_
        refine w_getf (q := 123) (v := ((m3.1 44 4) + (1 : Int32))) hm192 ⟨⟨_, _, rfl⟩, rfl⟩ rfl rfl ?_
        refine w_call (q := 126) (n := 0) (vs := [.inr (.inr (some 38)), .inl ((m3.1 44 4) + (1 : Int32))]) (rest := [.inl (m.1 20 2), .inr (.inr (some 26))]) (la := [oR 38, oI ((m3.1 44 4) + (1 : Int32))]) hm192 ⟨⟨_, _, rfl⟩, rfl⟩ rfl rfl rfl rfl hm218 rfl rfl (fun _ => ⟨_, _, rfl, rfl⟩) rfl (Wp.mono h ?_)
        rintro _ m4 ⟨r4, rfl, h⟩
        change Wp _ _ 126 _ [.inl r4, .inl (m.1 20 2), .inr (.inr (some 26))] _ _
        obtain ⟨hi, h⟩ := h
        refine w_iast (q := 127) hm192 ⟨⟨_, _, rfl⟩, rfl⟩ rfl hi rfl rfl ?_
        refine w_aload_n (q := 128) hm192 ⟨⟨_, _, rfl⟩, rfl⟩ rfl ?_
        refine w_getr (q := 131) hm192 ⟨⟨_, _, rfl⟩, rfl⟩ rfl ?_
        refine w_getr (q := 134) hm192 ⟨⟨_, _, rfl⟩, rfl⟩ rfl ?_
        refine w_iload_n (q := 135) hm192 ⟨⟨_, _, rfl⟩, rfl⟩ rfl ?_
        refine w_aload_n (q := 136) hm192 ⟨⟨_, _, rfl⟩, rfl⟩ rfl ?_
        refine w_getr (q := 139) hm192 ⟨⟨_, _, rfl⟩, rfl⟩ rfl ?_
        refine w_aload_n (q := 140) hm192 ⟨⟨_, _, rfl⟩, rfl⟩ rfl ?_
        refine w_getf (q := 143) (v := (m4.1 44 4)) hm192 ⟨⟨_, _, rfl⟩, rfl⟩ rfl rfl ?_
        refine w_iconst (q := 144) hm192 ⟨⟨_, _, rfl⟩, rfl⟩ iconst_1 ?_
        refine w_iadd (q := 145) hm192 ⟨⟨_, _, rfl⟩, rfl⟩ ?_
        refine w_call (q := 148) (n := 0) (vs := [.inr (.inr (some 38)), .inl ((m4.1 44 4) + (1 : Int32))]) (rest := [.inl (m.1 20 2), .inr (.inr (some 27))]) (la := [oR 38, oI ((m4.1 44 4) + (1 : Int32))]) hm192 ⟨⟨_, _, rfl⟩, rfl⟩ rfl rfl rfl rfl hm218 rfl rfl (fun _ => ⟨_, _, rfl, rfl⟩) rfl (Wp.mono h ?_)
        rintro _ m5 ⟨r5, rfl, h⟩
        change Wp _ _ 148 _ [.inl r5, .inl (m.1 20 2), .inr (.inr (some 27))] _ _
        obtain ⟨hi, h⟩ := h
        refine w_iast (q := 149) hm192 ⟨⟨_, _, rfl⟩, rfl⟩ rfl hi rfl rfl ?_
        refine w_aload_n (q := 150) hm192 ⟨⟨_, _, rfl⟩, rfl⟩ rfl ?_
        refine w_getr (q := 153) hm192 ⟨⟨_, _, rfl⟩, rfl⟩ rfl ?_
        refine w_getr (q := 156) hm192 ⟨⟨_, _, rfl⟩, rfl⟩ rfl ?_
        refine w_iload_n (q := 157) hm192 ⟨⟨_, _, rfl⟩, rfl⟩ rfl ?_
        refine w_aload_n (q := 158) hm192 ⟨⟨_, _, rfl⟩, rfl⟩ rfl ?_
        refine w_getr (q := 161) hm192 ⟨⟨_, _, rfl⟩, rfl⟩ rfl ?_
        refine w_aload_n (q := 162) hm192 ⟨⟨_, _, rfl⟩, rfl⟩ rfl ?_
        refine w_getf (q := 165) (v := (m5.1 44 4)) hm192 ⟨⟨_, _, rfl⟩, rfl⟩ rfl rfl ?_
        refine w_iconst (q := 166) hm192 ⟨⟨_, _, rfl⟩, rfl⟩ iconst_2 ?_
        refine w_iadd (q := 167) hm192 ⟨⟨_, _, rfl⟩, rfl⟩ ?_
        refine w_call (q := 170) (n := 0) (vs := [.inr (.inr (some 38)), .inl ((m5.1 44 4) + (2 : Int32))]) (rest := [.inl (m.1 20 2), .inr (.inr (some 28))]) (la := [oR 38, oI ((m5.1 44 4) + (2 : Int32))]) hm192 ⟨⟨_, _, rfl⟩, rfl⟩ rfl rfl rfl rfl hm218 rfl rfl (fun _ => ⟨_, _, rfl, rfl⟩) rfl (Wp.mono h ?_)
        rintro _ m6 ⟨r6, rfl, h⟩
        change Wp _ _ 170 _ [.inl r6, .inl (m.1 20 2), .inr (.inr (some 28))] _ _
        obtain ⟨hi, h⟩ := h
        refine w_iast (q := 171) hm192 ⟨⟨_, _, rfl⟩, rfl⟩ rfl hi rfl rfl ?_
        refine w_aload_n (q := 172) hm192 ⟨⟨_, _, rfl⟩, rfl⟩ rfl ?_
        refine w_iconst (q := 173) hm192 ⟨⟨_, _, rfl⟩, rfl⟩ iconst_1 ?_
        refine w_bipush (q := 175) hm192 ⟨⟨_, _, rfl⟩, rfl⟩ bipush_19 ?_
        refine w_call (q := 178) (n := 1) (vs := [.inr (.inr (some 44)), .inl (1 : Int32), .inl (19 : Int32)]) (rest := []) (la := [oR 44, oI (1 : Int32), oI (19 : Int32), none]) hm192 ⟨⟨_, _, rfl⟩, rfl⟩ rfl rfl rfl rfl hm196 rfl rfl (fun _ => ⟨_, _, rfl, rfl⟩) rfl (Wp.mono h ?_)
        rintro _ m7 ⟨r7, rfl, h⟩
        change Wp _ _ 178 _ [.inl r7] _ _
        refine w_if_eq (q := 181) (X := r7.toInt) hm192 ⟨⟨_, _, rfl⟩, rfl⟩ rfl (fun hc => ?_) (fun hc => ?_)
        · have h := h.1 hc
          exact Wp.wk [false, false] h
        · have h := h.2 hc
          refine w_aload_n (q := 182) hm192 ⟨⟨_, _, rfl⟩, rfl⟩ rfl ?_
          refine w_iconst (q := 183) hm192 ⟨⟨_, _, rfl⟩, rfl⟩ iconst_0 ?_
          refine w_bipush (q := 185) hm192 ⟨⟨_, _, rfl⟩, rfl⟩ bipush_23 ?_
          refine w_call (q := 188) (n := 1) (vs := [.inr (.inr (some 44)), .inl (0 : Int32), .inl (23 : Int32)]) (rest := []) (la := [oR 44, oI (0 : Int32), oI (23 : Int32), none]) hm192 ⟨⟨_, _, rfl⟩, rfl⟩ rfl rfl rfl rfl hm196 rfl rfl (fun _ => ⟨_, _, rfl, rfl⟩) rfl (Wp.mono h ?_)
          rintro _ m8 ⟨r8, rfl, h⟩
          change Wp _ _ 188 _ [.inl r8] _ _
          refine w_if_eq (q := 191) (X := r8.toInt) hm192 ⟨⟨_, _, rfl⟩, rfl⟩ rfl (fun hc => ?_) (fun hc => ?_)
          · have h := h.1 hc
            exact Wp.wk [false, false] h
          · have h := h.2 hc
            refine w_aload_n (q := 192) hm192 ⟨⟨_, _, rfl⟩, rfl⟩ rfl ?_
            refine w_aload_n (q := 193) hm192 ⟨⟨_, _, rfl⟩, rfl⟩ rfl ?_
            refine w_getr (q := 196) hm192 ⟨⟨_, _, rfl⟩, rfl⟩ rfl ?_
            refine w_getr (q := 199) hm192 ⟨⟨_, _, rfl⟩, rfl⟩ rfl ?_
            refine w_iload_n (q := 200) hm192 ⟨⟨_, _, rfl⟩, rfl⟩ rfl ?_
            obtain ⟨hi, h⟩ := h
            refine w_iald (q := 201) (v := (m8.1 27 (m.1 20 2).toNatClampNeg)) hm192 ⟨⟨_, _, rfl⟩, rfl⟩ rfl hi rfl rfl ?_
            refine w_bipush (q := 203) hm192 ⟨⟨_, _, rfl⟩, rfl⟩ bipush_23 ?_
            refine w_call (q := 206) (n := 1) (vs := [.inr (.inr (some 44)), .inl (m8.1 27 (m.1 20 2).toNatClampNeg), .inl (23 : Int32)]) (rest := []) (la := [oR 44, oI (m8.1 27 (m.1 20 2).toNatClampNeg), oI (23 : Int32), none]) hm192 ⟨⟨_, _, rfl⟩, rfl⟩ rfl rfl rfl rfl hm196 rfl rfl (fun _ => ⟨_, _, rfl, rfl⟩) rfl (Wp.mono h ?_)
            rintro _ m9 ⟨r9, rfl, h⟩
            change Wp _ _ 206 _ [.inl r9] _ _
            refine w_if_eq (q := 209) (X := r9.toInt) hm192 ⟨⟨_, _, rfl⟩, rfl⟩ rfl (fun hc => ?_) (fun hc => ?_)
            · have h := h.1 hc
              exact Wp.wk [false, false] h
            · have h := h.2 hc
              refine w_iconst (q := 210) hm192 ⟨⟨_, _, rfl⟩, rfl⟩ iconst_1 ?_
              refine w_goto (q := 214) hm192 ⟨_, _, rfl⟩ ?_
              exact w_retz hm192 ⟨⟨_, _, rfl⟩, rfl⟩ rfl (by decide) h
      · have h := h.2 hc
        refine w_iconst (q := 96) hm192 ⟨⟨_, _, rfl⟩, rfl⟩ iconst_0 ?_
        exact w_retz hm192 ⟨⟨_, _, rfl⟩, rfl⟩ rfl (by decide) h
    · have h := h.2 hc
      refine w_iconst (q := 28) hm192 ⟨⟨_, _, rfl⟩, rfl⟩ iconst_0 ?_
      exact w_retz hm192 ⟨⟨_, _, rfl⟩, rfl⟩ rfl (by decide) h
  · have h := h.2 hc
    refine w_aload_n (q := 15) hm192 ⟨⟨_, _, rfl⟩, rfl⟩ rfl ?_
    refine w_iconst (q := 16) hm192 ⟨⟨_, _, rfl⟩, rfl⟩ iconst_2 ?_
    refine w_call (q := 19) (n := 0) (vs := [.inr (.inr (some 44)), .inl (2 : Int32)]) (rest := []) (la := [oR 44, oI (2 : Int32)]) hm192 ⟨⟨_, _, rfl⟩, rfl⟩ rfl rfl rfl rfl hm188 rfl rfl (fun _ => ⟨_, _, rfl, rfl⟩) rfl (Wp.mono h ?_)
    rintro _ m10 ⟨r10, rfl, h⟩
    change Wp _ _ 19 _ [.inl r10] _ _
    exact w_retz hm192 ⟨⟨_, _, rfl⟩, rfl⟩ rfl h.1 h.2
theorem v_X5_takeUse_44_213 {d : Nat} {m : dM} {Q : Int32 → dM → Prop} (h : Q (0 : Int32) m) : j_X5_takeUse_44_213 (d + 1) m Q := by
  refine w_iconst (q := 214) hm192 ⟨⟨_, _, rfl⟩, rfl⟩ iconst_0 ?_
  exact w_retz hm192 ⟨⟨_, _, rfl⟩, rfl⟩ rfl (by decide) h
theorem v_X5_takeSurge_44 {d : Nat} {m : dM} {Q : Int32 → dM → Prop} (h : c_X8_numberAt_38 d (m.1 44 4) m (fun r1 m1 => c_X8_numberAt_38 d ((m1.1 44 4) + (1 : Int32)) (dSet m1 20 3 r1) (fun r2 m2 => c_X5_isWithin_44 d (0 : Int32) (100 : Int32) (dSet m2 20 4 r2) (fun r3 m3 => ((r3.toInt = 0 → j_X5_takeSurge_44_62 (d + 1) m3 Q) ∧ (r3.toInt ≠ 0 → c_X5_isWithin_44 d (0 : Int32) (19 : Int32) m3 (fun r4 m4 => ((r4.toInt = 0 → j_X5_takeSurge_44_62 (d + 1) m4 Q) ∧ (r4.toInt ≠ 0 → Q (1 : Int32) m4))))))))) : c_X5_takeSurge_44 (d + 1) m Q := by
  refine w_aload_n (q := 1) hm193 ⟨⟨_, _, rfl⟩, rfl⟩ rfl ?_
  refine w_getr (q := 4) hm193 ⟨⟨_, _, rfl⟩, rfl⟩ rfl ?_
  refine w_aload_n (q := 5) hm193 ⟨⟨_, _, rfl⟩, rfl⟩ rfl ?_
  refine w_getr (q := 8) hm193 ⟨⟨_, _, rfl⟩, rfl⟩ rfl ?_
  refine w_aload_n (q := 9) hm193 ⟨⟨_, _, rfl⟩, rfl⟩ rfl ?_
  refine w_getf (q := 12) (v := (m.1 44 4)) hm193 ⟨⟨_, _, rfl⟩, rfl⟩ rfl rfl ?_
  refine w_call (q := 15) (n := 0) (vs := [.inr (.inr (some 38)), .inl (m.1 44 4)]) (rest := [.inr (.inr (some 20))]) (la := [oR 38, oI (m.1 44 4)]) hm193 ⟨⟨_, _, rfl⟩, rfl⟩ rfl rfl rfl rfl hm218 rfl rfl (fun _ => ⟨_, _, rfl, rfl⟩) rfl (Wp.mono h ?_)
  rintro _ m1 ⟨r1, rfl, h⟩
  change Wp _ _ 15 _ [.inl r1, .inr (.inr (some 20))] _ _
  refine w_putf (q := 18) hm193 ⟨⟨_, _, rfl⟩, rfl⟩ rfl rfl rfl ?_
  refine w_aload_n (q := 19) hm193 ⟨⟨_, _, rfl⟩, rfl⟩ rfl ?_
  refine w_getr (q := 22) hm193 ⟨⟨_, _, rfl⟩, rfl⟩ rfl ?_
  refine w_aload_n (q := 23) hm193 ⟨⟨_, _, rfl⟩, rfl⟩ rfl ?_
  refine w_getr (q := 26) hm193 ⟨⟨_, _, rfl⟩, rfl⟩ rfl ?_
  refine w_aload_n (q := 27) hm193 ⟨⟨_, _, rfl⟩, rfl⟩ rfl ?_
  refine w_getf (q := 30) (v := (m1.1 44 4)) hm193 ⟨⟨_, _, rfl⟩, rfl⟩ rfl rfl ?_
  refine w_iconst (q := 31) hm193 ⟨⟨_, _, rfl⟩, rfl⟩ iconst_1 ?_
  refine w_iadd (q := 32) hm193 ⟨⟨_, _, rfl⟩, rfl⟩ ?_
  refine w_call (q := 35) (n := 0) (vs := [.inr (.inr (some 38)), .inl ((m1.1 44 4) + (1 : Int32))]) (rest := [.inr (.inr (some 20))]) (la := [oR 38, oI ((m1.1 44 4) + (1 : Int32))]) hm193 ⟨⟨_, _, rfl⟩, rfl⟩ rfl rfl rfl rfl hm218 rfl rfl (fun _ => ⟨_, _, rfl, rfl⟩) rfl (Wp.mono h ?_)
  rintro _ m2 ⟨r2, rfl, h⟩
  change Wp _ _ 35 _ [.inl r2, .inr (.inr (some 20))] _ _
  refine w_putf (q := 38) hm193 ⟨⟨_, _, rfl⟩, rfl⟩ rfl rfl rfl ?_
  refine w_aload_n (q := 39) hm193 ⟨⟨_, _, rfl⟩, rfl⟩ rfl ?_
  refine w_iconst (q := 40) hm193 ⟨⟨_, _, rfl⟩, rfl⟩ iconst_0 ?_
  refine w_bipush (q := 42) hm193 ⟨⟨_, _, rfl⟩, rfl⟩ bipush_100 ?_
  refine w_call (q := 45) (n := 1) (vs := [.inr (.inr (some 44)), .inl (0 : Int32), .inl (100 : Int32)]) (rest := []) (la := [oR 44, oI (0 : Int32), oI (100 : Int32), none]) hm193 ⟨⟨_, _, rfl⟩, rfl⟩ rfl rfl rfl rfl hm196 rfl rfl (fun _ => ⟨_, _, rfl, rfl⟩) rfl (Wp.mono h ?_)
  rintro _ m3 ⟨r3, rfl, h⟩
  change Wp _ _ 45 _ [.inl r3] _ _
  refine w_if_eq (q := 48) (X := r3.toInt) hm193 ⟨⟨_, _, rfl⟩, rfl⟩ rfl (fun hc => ?_) (fun hc => ?_)
  · have h := h.1 hc
    exact Wp.wk [false] h
  · have h := h.2 hc
    refine w_aload_n (q := 49) hm193 ⟨⟨_, _, rfl⟩, rfl⟩ rfl ?_
    refine w_iconst (q := 50) hm193 ⟨⟨_, _, rfl⟩, rfl⟩ iconst_0 ?_
    refine w_bipush (q := 52) hm193 ⟨⟨_, _, rfl⟩, rfl⟩ bipush_19 ?_
    refine w_call (q := 55) (n := 1) (vs := [.inr (.inr (some 44)), .inl (0 : Int32), .inl (19 : Int32)]) (rest := []) (la := [oR 44, oI (0 : Int32), oI (19 : Int32), none]) hm193 ⟨⟨_, _, rfl⟩, rfl⟩ rfl rfl rfl rfl hm196 rfl rfl (fun _ => ⟨_, _, rfl, rfl⟩) rfl (Wp.mono h ?_)
    rintro _ m4 ⟨r4, rfl, h⟩
    change Wp _ _ 55 _ [.inl r4] _ _
    refine w_if_eq (q := 58) (X := r4.toInt) hm193 ⟨⟨_, _, rfl⟩, rfl⟩ rfl (fun hc => ?_) (fun hc => ?_)
    · have h := h.1 hc
      exact Wp.wk [false] h
    · have h := h.2 hc
      refine w_iconst (q := 59) hm193 ⟨⟨_, _, rfl⟩, rfl⟩ iconst_1 ?_
      refine w_goto (q := 63) hm193 ⟨_, _, rfl⟩ ?_
      exact w_retz hm193 ⟨⟨_, _, rfl⟩, rfl⟩ rfl (by decide) h
theorem v_X5_takeSurge_44_62 {d : Nat} {m : dM} {Q : Int32 → dM → Prop} (h : Q (0 : Int32) m) : j_X5_takeSurge_44_62 (d + 1) m Q := by
  refine w_iconst (q := 63) hm193 ⟨⟨_, _, rfl⟩, rfl⟩ iconst_0 ?_
  exact w_retz hm193 ⟨⟨_, _, rfl⟩, rfl⟩ rfl (by decide) h
theorem v_X5_takeCoins_44 {d : Nat} {m : dM} {Q : Int32 → dM → Prop} (h : c_X8_numberAt_38 d (m.1 44 4) m (fun r1 m1 => c_X5_isWithin_44 d (0 : Int32) (999 : Int32) (dSet m1 20 5 r1) (fun r2 m2 => (r2 = 0 ∨ r2 = 1) ∧ Q r2 m2))) : c_X5_takeCoins_44 (d + 1) m Q := by
  refine w_aload_n (q := 1) hm194 ⟨⟨_, _, rfl⟩, rfl⟩ rfl ?_
  refine w_getr (q := 4) hm194 ⟨⟨_, _, rfl⟩, rfl⟩ rfl ?_
  refine w_aload_n (q := 5) hm194 ⟨⟨_, _, rfl⟩, rfl⟩ rfl ?_
  refine w_getr (q := 8) hm194 ⟨⟨_, _, rfl⟩, rfl⟩ rfl ?_
  refine w_aload_n (q := 9) hm194 ⟨⟨_, _, rfl⟩, rfl⟩ rfl ?_
  refine w_getf (q := 12) (v := (m.1 44 4)) hm194 ⟨⟨_, _, rfl⟩, rfl⟩ rfl rfl ?_
  refine w_call (q := 15) (n := 0) (vs := [.inr (.inr (some 38)), .inl (m.1 44 4)]) (rest := [.inr (.inr (some 20))]) (la := [oR 38, oI (m.1 44 4)]) hm194 ⟨⟨_, _, rfl⟩, rfl⟩ rfl rfl rfl rfl hm218 rfl rfl (fun _ => ⟨_, _, rfl, rfl⟩) rfl (Wp.mono h ?_)
  rintro _ m1 ⟨r1, rfl, h⟩
  change Wp _ _ 15 _ [.inl r1, .inr (.inr (some 20))] _ _
  refine w_putf (q := 18) hm194 ⟨⟨_, _, rfl⟩, rfl⟩ rfl rfl rfl ?_
  refine w_aload_n (q := 19) hm194 ⟨⟨_, _, rfl⟩, rfl⟩ rfl ?_
  refine w_iconst (q := 20) hm194 ⟨⟨_, _, rfl⟩, rfl⟩ iconst_0 ?_
  refine w_sipush (q := 23) hm194 ⟨⟨_, _, rfl⟩, rfl⟩ sipush_999 ?_
  refine w_call (q := 26) (n := 1) (vs := [.inr (.inr (some 44)), .inl (0 : Int32), .inl (999 : Int32)]) (rest := []) (la := [oR 44, oI (0 : Int32), oI (999 : Int32), none]) hm194 ⟨⟨_, _, rfl⟩, rfl⟩ rfl rfl rfl rfl hm196 rfl rfl (fun _ => ⟨_, _, rfl, rfl⟩) rfl (Wp.mono h ?_)
  rintro _ m2 ⟨r2, rfl, h⟩
  change Wp _ _ 26 _ [.inl r2] _ _
  exact w_retz hm194 ⟨⟨_, _, rfl⟩, rfl⟩ rfl h.1 h.2
theorem v_X5_takeSeed_44 {d : Nat} {m : dM} {Q : Int32 → dM → Prop} (h : c_X8_numberAt_38 d (m.1 44 4) m (fun r1 m1 => c_X5_isWithin_44 d (0 : Int32) (9999 : Int32) (dSet m1 20 6 r1) (fun r2 m2 => (r2 = 0 ∨ r2 = 1) ∧ Q r2 m2))) : c_X5_takeSeed_44 (d + 1) m Q := by
  refine w_aload_n (q := 1) hm195 ⟨⟨_, _, rfl⟩, rfl⟩ rfl ?_
  refine w_getr (q := 4) hm195 ⟨⟨_, _, rfl⟩, rfl⟩ rfl ?_
  refine w_aload_n (q := 5) hm195 ⟨⟨_, _, rfl⟩, rfl⟩ rfl ?_
  refine w_getr (q := 8) hm195 ⟨⟨_, _, rfl⟩, rfl⟩ rfl ?_
  refine w_aload_n (q := 9) hm195 ⟨⟨_, _, rfl⟩, rfl⟩ rfl ?_
  refine w_getf (q := 12) (v := (m.1 44 4)) hm195 ⟨⟨_, _, rfl⟩, rfl⟩ rfl rfl ?_
  refine w_call (q := 15) (n := 0) (vs := [.inr (.inr (some 38)), .inl (m.1 44 4)]) (rest := [.inr (.inr (some 20))]) (la := [oR 38, oI (m.1 44 4)]) hm195 ⟨⟨_, _, rfl⟩, rfl⟩ rfl rfl rfl rfl hm218 rfl rfl (fun _ => ⟨_, _, rfl, rfl⟩) rfl (Wp.mono h ?_)
  rintro _ m1 ⟨r1, rfl, h⟩
  change Wp _ _ 15 _ [.inl r1, .inr (.inr (some 20))] _ _
  refine w_putf (q := 18) hm195 ⟨⟨_, _, rfl⟩, rfl⟩ rfl rfl rfl ?_
  refine w_aload_n (q := 19) hm195 ⟨⟨_, _, rfl⟩, rfl⟩ rfl ?_
  refine w_iconst (q := 20) hm195 ⟨⟨_, _, rfl⟩, rfl⟩ iconst_0 ?_
  refine w_sipush (q := 23) hm195 ⟨⟨_, _, rfl⟩, rfl⟩ sipush_9999 ?_
  refine w_call (q := 26) (n := 1) (vs := [.inr (.inr (some 44)), .inl (0 : Int32), .inl (9999 : Int32)]) (rest := []) (la := [oR 44, oI (0 : Int32), oI (9999 : Int32), none]) hm195 ⟨⟨_, _, rfl⟩, rfl⟩ rfl rfl rfl rfl hm196 rfl rfl (fun _ => ⟨_, _, rfl, rfl⟩) rfl (Wp.mono h ?_)
  rintro _ m2 ⟨r2, rfl, h⟩
  change Wp _ _ 26 _ [.inl r2] _ _
  exact w_retz hm195 ⟨⟨_, _, rfl⟩, rfl⟩ rfl h.1 h.2
theorem v_X5_takeTold_44 {d : Nat} {x1 : Int32} {m : dM} {Q : Int32 → dM → Prop} (h : ((x1.toInt = 0 → c_X5_takeFlat_44 d m (fun r1 m1 => (r1 = 0 ∨ r1 = 1) ∧ Q r1 m1)) ∧ (x1.toInt = 1 → c_X5_takeWire_44 d m (fun r2 m2 => (r2 = 0 ∨ r2 = 1) ∧ Q r2 m2)) ∧ (x1.toInt = 2 → c_X5_takeUse_44 d m (fun r3 m3 => (r3 = 0 ∨ r3 = 1) ∧ Q r3 m3)) ∧ (x1.toInt = 3 → Q (1 : Int32) m) ∧ (x1.toInt = 4 → Q (1 : Int32) m) ∧ (x1.toInt = 5 → Q (1 : Int32) m) ∧ (x1.toInt = 6 → Q (1 : Int32) m) ∧ (x1.toInt = 7 → c_X5_takeSurge_44 d m (fun r4 m4 => (r4 = 0 ∨ r4 = 1) ∧ Q r4 m4)) ∧ (x1.toInt = 8 → c_X5_takeCoins_44 d m (fun r5 m5 => (r5 = 0 ∨ r5 = 1) ∧ Q r5 m5)) ∧ (x1.toInt = 9 → c_X5_takeSeed_44 d m (fun r6 m6 => (r6 = 0 ∨ r6 = 1) ∧ Q r6 m6)) ∧ (x1.toInt < 0 ∨ 9 < x1.toInt → Q (1 : Int32) m))) : c_X5_takeTold_44 (d + 1) x1 m Q := by
  refine w_iload_n (q := 1) hm189 ⟨⟨_, _, rfl⟩, rfl⟩ rfl ?_
  refine w_tsw (X := x1.toInt) hm189 ⟨_, _, rfl⟩ (by decide) (by decide) rfl ((And.intro (fun hc => ?_) (And.intro (fun hc => ?_) (And.intro (fun hc => ?_) (And.intro (fun hc => ?_) (And.intro (fun hc => ?_) (And.intro (fun hc => ?_) (And.intro (fun hc => ?_) (And.intro (fun hc => ?_) (And.intro (fun hc => ?_) (And.intro (fun hc => ?_) trivial))))))))))) (fun hc => ?_)
  · have h := (h.1) hc
    change Wp _ _ 56 _ _ _ _
    refine w_aload_n (q := 57) hm189 ⟨⟨_, _, rfl⟩, rfl⟩ rfl ?_
    refine w_call (q := 60) (n := 1) (vs := [.inr (.inr (some 44))]) (rest := []) (la := [oR 44, none]) hm189 ⟨⟨_, _, rfl⟩, rfl⟩ rfl rfl rfl rfl hm190 rfl rfl (fun _ => ⟨_, _, rfl, rfl⟩) rfl (Wp.mono h ?_)
    rintro _ m1 ⟨r1, rfl, h⟩
    change Wp _ _ 60 _ [.inl r1] _ _
    exact w_retz hm189 ⟨⟨_, _, rfl⟩, rfl⟩ rfl h.1 h.2
  · have h := (h.2.1) hc
    change Wp _ _ 61 _ _ _ _
    refine w_aload_n (q := 62) hm189 ⟨⟨_, _, rfl⟩, rfl⟩ rfl ?_
    refine w_call (q := 65) (n := 3) (vs := [.inr (.inr (some 44))]) (rest := []) (la := [oR 44, none, none, none]) hm189 ⟨⟨_, _, rfl⟩, rfl⟩ rfl rfl rfl rfl hm191 rfl rfl (fun _ => ⟨_, _, rfl, rfl⟩) rfl (Wp.mono h ?_)
    rintro _ m2 ⟨r2, rfl, h⟩
    change Wp _ _ 65 _ [.inl r2] _ _
    exact w_retz hm189 ⟨⟨_, _, rfl⟩, rfl⟩ rfl h.1 h.2
  · have h := (h.2.2.1) hc
    change Wp _ _ 66 _ _ _ _
    refine w_aload_n (q := 67) hm189 ⟨⟨_, _, rfl⟩, rfl⟩ rfl ?_
    refine w_call (q := 70) (n := 1) (vs := [.inr (.inr (some 44))]) (rest := []) (la := [oR 44, none]) hm189 ⟨⟨_, _, rfl⟩, rfl⟩ rfl rfl rfl rfl hm192 rfl rfl (fun _ => ⟨_, _, rfl, rfl⟩) rfl (Wp.mono h ?_)
    rintro _ m3 ⟨r3, rfl, h⟩
    change Wp _ _ 70 _ [.inl r3] _ _
    exact w_retz hm189 ⟨⟨_, _, rfl⟩, rfl⟩ rfl h.1 h.2
  · have h := (h.2.2.2.1) hc
    change Wp _ _ 86 _ _ _ _
    refine w_iconst (q := 87) hm189 ⟨⟨_, _, rfl⟩, rfl⟩ iconst_1 ?_
    exact w_retz hm189 ⟨⟨_, _, rfl⟩, rfl⟩ rfl (by decide) h
  · have h := (h.2.2.2.2.1) hc
    change Wp _ _ 86 _ _ _ _
    refine w_iconst (q := 87) hm189 ⟨⟨_, _, rfl⟩, rfl⟩ iconst_1 ?_
    exact w_retz hm189 ⟨⟨_, _, rfl⟩, rfl⟩ rfl (by decide) h
  · have h := (h.2.2.2.2.2.1) hc
    change Wp _ _ 86 _ _ _ _
    refine w_iconst (q := 87) hm189 ⟨⟨_, _, rfl⟩, rfl⟩ iconst_1 ?_
    exact w_retz hm189 ⟨⟨_, _, rfl⟩, rfl⟩ rfl (by decide) h
  · have h := (h.2.2.2.2.2.2.1) hc
    change Wp _ _ 86 _ _ _ _
    refine w_iconst (q := 87) hm189 ⟨⟨_, _, rfl⟩, rfl⟩ iconst_1 ?_
    exact w_retz hm189 ⟨⟨_, _, rfl⟩, rfl⟩ rfl (by decide) h
  · have h := (h.2.2.2.2.2.2.2.1) hc
    change Wp _ _ 71 _ _ _ _
    refine w_aload_n (q := 72) hm189 ⟨⟨_, _, rfl⟩, rfl⟩ rfl ?_
    refine w_call (q := 75) (n := 0) (vs := [.inr (.inr (some 44))]) (rest := []) (la := [oR 44]) hm189 ⟨⟨_, _, rfl⟩, rfl⟩ rfl rfl rfl rfl hm193 rfl rfl (fun _ => ⟨_, _, rfl, rfl⟩) rfl (Wp.mono h ?_)
    rintro _ m4 ⟨r4, rfl, h⟩
    change Wp _ _ 75 _ [.inl r4] _ _
    exact w_retz hm189 ⟨⟨_, _, rfl⟩, rfl⟩ rfl h.1 h.2
  · have h := (h.2.2.2.2.2.2.2.2.1) hc
    change Wp _ _ 76 _ _ _ _
    refine w_aload_n (q := 77) hm189 ⟨⟨_, _, rfl⟩, rfl⟩ rfl ?_
    refine w_call (q := 80) (n := 0) (vs := [.inr (.inr (some 44))]) (rest := []) (la := [oR 44]) hm189 ⟨⟨_, _, rfl⟩, rfl⟩ rfl rfl rfl rfl hm194 rfl rfl (fun _ => ⟨_, _, rfl, rfl⟩) rfl (Wp.mono h ?_)
    rintro _ m5 ⟨r5, rfl, h⟩
    change Wp _ _ 80 _ [.inl r5] _ _
    exact w_retz hm189 ⟨⟨_, _, rfl⟩, rfl⟩ rfl h.1 h.2
  · have h := (h.2.2.2.2.2.2.2.2.2.1) hc
    change Wp _ _ 81 _ _ _ _
    refine w_aload_n (q := 82) hm189 ⟨⟨_, _, rfl⟩, rfl⟩ rfl ?_
    refine w_call (q := 85) (n := 0) (vs := [.inr (.inr (some 44))]) (rest := []) (la := [oR 44]) hm189 ⟨⟨_, _, rfl⟩, rfl⟩ rfl rfl rfl rfl hm195 rfl rfl (fun _ => ⟨_, _, rfl, rfl⟩) rfl (Wp.mono h ?_)
    rintro _ m6 ⟨r6, rfl, h⟩
    change Wp _ _ 85 _ [.inl r6] _ _
    exact w_retz hm189 ⟨⟨_, _, rfl⟩, rfl⟩ rfl h.1 h.2
  · have h := (h.2.2.2.2.2.2.2.2.2.2) hc
    change Wp _ _ 86 _ _ _ _
    refine w_iconst (q := 87) hm189 ⟨⟨_, _, rfl⟩, rfl⟩ iconst_1 ?_
    exact w_retz hm189 ⟨⟨_, _, rfl⟩, rfl⟩ rfl (by decide) h
theorem v_X5_skipEnd_44 {d : Nat} {m : dM} {Q : dM → Prop} (h : ((400 ≤ (m.1 44 4).toInt → j_X5_skipEnd_44_39 (d + 1) m Q) ∧ ((m.1 44 4).toInt < 400 → c_X8_kindAt_38 d (m.1 44 4) m (fun r1 m1 => ((r1.toInt = 59 → j_X5_skipEnd_44_39 (d + 1) m1 Q) ∧ (r1.toInt ≠ 59 → j_X5_skipEnd_44_0 (d + 1) (dSet m1 44 4 ((m1.1 44 4) + (1 : Int32))) Q)))))) : c_X5_skipEnd_44 (d + 1) m Q := by
  refine w_aload_n (q := 1) hm187 ⟨⟨_, _, rfl⟩, rfl⟩ rfl ?_
  refine w_getf (q := 4) (v := (m.1 44 4)) hm187 ⟨⟨_, _, rfl⟩, rfl⟩ rfl rfl ?_
  refine w_sipush (q := 7) hm187 ⟨⟨_, _, rfl⟩, rfl⟩ sipush_400 ?_
  refine w_icmp_ge (q := 10) (X := (m.1 44 4).toInt) (Y := 400) hm187 ⟨⟨_, _, rfl⟩, rfl⟩ rfl (by decide) (fun hc => ?_) (fun hc => ?_)
  · have h := h.1 hc
    exact h
  · have h := h.2 hc
    refine w_aload_n (q := 11) hm187 ⟨⟨_, _, rfl⟩, rfl⟩ rfl ?_
    refine w_getr (q := 14) hm187 ⟨⟨_, _, rfl⟩, rfl⟩ rfl ?_
    refine w_aload_n (q := 15) hm187 ⟨⟨_, _, rfl⟩, rfl⟩ rfl ?_
    refine w_getf (q := 18) (v := (m.1 44 4)) hm187 ⟨⟨_, _, rfl⟩, rfl⟩ rfl rfl ?_
    refine w_call (q := 21) (n := 0) (vs := [.inr (.inr (some 38)), .inl (m.1 44 4)]) (rest := []) (la := [oR 38, oI (m.1 44 4)]) hm187 ⟨⟨_, _, rfl⟩, rfl⟩ rfl rfl rfl rfl hm216 rfl rfl (fun _ => ⟨_, _, rfl, rfl⟩) rfl (Wp.mono h ?_)
    rintro _ m1 ⟨r1, rfl, h⟩
    change Wp _ _ 21 _ [.inl r1] _ _
    refine w_bipush (q := 23) hm187 ⟨⟨_, _, rfl⟩, rfl⟩ bipush_59 ?_
    refine w_icmp_eq (q := 26) (X := r1.toInt) (Y := 59) hm187 ⟨⟨_, _, rfl⟩, rfl⟩ rfl (by decide) (fun hc => ?_) (fun hc => ?_)
    · have h := h.1 hc
      exact h
    · have h := h.2 hc
      refine w_aload_n (q := 27) hm187 ⟨⟨_, _, rfl⟩, rfl⟩ rfl ?_
      refine w_dup (q := 28) hm187 ⟨⟨_, _, rfl⟩, rfl⟩ rfl ?_
      refine w_getf (q := 31) (v := (m1.1 44 4)) hm187 ⟨⟨_, _, rfl⟩, rfl⟩ rfl rfl ?_
      refine w_iconst (q := 32) hm187 ⟨⟨_, _, rfl⟩, rfl⟩ iconst_1 ?_
      refine w_iadd (q := 33) hm187 ⟨⟨_, _, rfl⟩, rfl⟩ ?_
      refine w_putf (q := 36) hm187 ⟨⟨_, _, rfl⟩, rfl⟩ rfl rfl rfl ?_
      refine w_goto (q := 0) hm187 ⟨_, _, rfl⟩ ?_
      exact h
theorem v_X5_skipEnd_44_0 {d : Nat} {m : dM} {Q : dM → Prop} (h : ((400 ≤ (m.1 44 4).toInt → j_X5_skipEnd_44_39 (d + 1) m Q) ∧ ((m.1 44 4).toInt < 400 → c_X8_kindAt_38 d (m.1 44 4) m (fun r1 m1 => ((r1.toInt = 59 → j_X5_skipEnd_44_39 (d + 1) m1 Q) ∧ (r1.toInt ≠ 59 → j_X5_skipEnd_44_0 (d + 1) (dSet m1 44 4 ((m1.1 44 4) + (1 : Int32))) Q)))))) : j_X5_skipEnd_44_0 (d + 1) m Q := by
  refine w_aload_n (q := 1) hm187 ⟨⟨_, _, rfl⟩, rfl⟩ rfl ?_
  refine w_getf (q := 4) (v := (m.1 44 4)) hm187 ⟨⟨_, _, rfl⟩, rfl⟩ rfl rfl ?_
  refine w_sipush (q := 7) hm187 ⟨⟨_, _, rfl⟩, rfl⟩ sipush_400 ?_
  refine w_icmp_ge (q := 10) (X := (m.1 44 4).toInt) (Y := 400) hm187 ⟨⟨_, _, rfl⟩, rfl⟩ rfl (by decide) (fun hc => ?_) (fun hc => ?_)
  · have h := h.1 hc
    exact h
  · have h := h.2 hc
    refine w_aload_n (q := 11) hm187 ⟨⟨_, _, rfl⟩, rfl⟩ rfl ?_
    refine w_getr (q := 14) hm187 ⟨⟨_, _, rfl⟩, rfl⟩ rfl ?_
    refine w_aload_n (q := 15) hm187 ⟨⟨_, _, rfl⟩, rfl⟩ rfl ?_
    refine w_getf (q := 18) (v := (m.1 44 4)) hm187 ⟨⟨_, _, rfl⟩, rfl⟩ rfl rfl ?_
    refine w_call (q := 21) (n := 0) (vs := [.inr (.inr (some 38)), .inl (m.1 44 4)]) (rest := []) (la := [oR 38, oI (m.1 44 4)]) hm187 ⟨⟨_, _, rfl⟩, rfl⟩ rfl rfl rfl rfl hm216 rfl rfl (fun _ => ⟨_, _, rfl, rfl⟩) rfl (Wp.mono h ?_)
    rintro _ m1 ⟨r1, rfl, h⟩
    change Wp _ _ 21 _ [.inl r1] _ _
    refine w_bipush (q := 23) hm187 ⟨⟨_, _, rfl⟩, rfl⟩ bipush_59 ?_
    refine w_icmp_eq (q := 26) (X := r1.toInt) (Y := 59) hm187 ⟨⟨_, _, rfl⟩, rfl⟩ rfl (by decide) (fun hc => ?_) (fun hc => ?_)
    · have h := h.1 hc
      exact h
    · have h := h.2 hc
      refine w_aload_n (q := 27) hm187 ⟨⟨_, _, rfl⟩, rfl⟩ rfl ?_
      refine w_dup (q := 28) hm187 ⟨⟨_, _, rfl⟩, rfl⟩ rfl ?_
      refine w_getf (q := 31) (v := (m1.1 44 4)) hm187 ⟨⟨_, _, rfl⟩, rfl⟩ rfl rfl ?_
      refine w_iconst (q := 32) hm187 ⟨⟨_, _, rfl⟩, rfl⟩ iconst_1 ?_
      refine w_iadd (q := 33) hm187 ⟨⟨_, _, rfl⟩, rfl⟩ ?_
      refine w_putf (q := 36) hm187 ⟨⟨_, _, rfl⟩, rfl⟩ rfl rfl rfl ?_
      refine w_goto (q := 0) hm187 ⟨_, _, rfl⟩ ?_
      exact h
theorem v_X5_skipEnd_44_39 {d : Nat} {m : dM} {Q : dM → Prop} (h : Q (dSet m 44 4 ((m.1 44 4) + (1 : Int32)))) : j_X5_skipEnd_44_39 (d + 1) m Q := by
  refine w_aload_n (q := 40) hm187 ⟨⟨_, _, rfl⟩, rfl⟩ rfl ?_
  refine w_dup (q := 41) hm187 ⟨⟨_, _, rfl⟩, rfl⟩ rfl ?_
  refine w_getf (q := 44) (v := (m.1 44 4)) hm187 ⟨⟨_, _, rfl⟩, rfl⟩ rfl rfl ?_
  refine w_iconst (q := 45) hm187 ⟨⟨_, _, rfl⟩, rfl⟩ iconst_1 ?_
  refine w_iadd (q := 46) hm187 ⟨⟨_, _, rfl⟩, rfl⟩ ?_
  refine w_putf (q := 49) hm187 ⟨⟨_, _, rfl⟩, rfl⟩ rfl rfl rfl ?_
  exact w_retv hm187 ⟨⟨_, _, rfl⟩, rfl⟩ rfl h
theorem v_X5_check_44 {d : Nat} {m : dM} {Q : Int32 → dM → Prop} (h : j_X5_check_44_12 (d + 1) (0 : Int32) (dSet (dSet m 44 4 (0 : Int32)) 44 5 (0 : Int32)) Q) : c_X5_check_44 (d + 1) m Q := by
  refine w_aload_n (q := 1) hm185 ⟨⟨_, _, rfl⟩, rfl⟩ rfl ?_
  refine w_iconst (q := 2) hm185 ⟨⟨_, _, rfl⟩, rfl⟩ iconst_0 ?_
  refine w_putf (q := 5) hm185 ⟨⟨_, _, rfl⟩, rfl⟩ rfl rfl rfl ?_
  refine w_aload_n (q := 6) hm185 ⟨⟨_, _, rfl⟩, rfl⟩ rfl ?_
  refine w_iconst (q := 7) hm185 ⟨⟨_, _, rfl⟩, rfl⟩ iconst_0 ?_
  refine w_putf (q := 10) hm185 ⟨⟨_, _, rfl⟩, rfl⟩ rfl rfl rfl ?_
  refine w_iconst (q := 11) hm185 ⟨⟨_, _, rfl⟩, rfl⟩ iconst_0 ?_
  refine w_istore_n (q := 12) (l' := [oR 44, oI (0 : Int32), none]) hm185 ⟨⟨_, _, rfl⟩, rfl⟩ rfl rfl rfl ?_
  exact h
theorem v_X5_check_44_12 {d : Nat} {x1 : Int32} {m : dM} {Q : Int32 → dM → Prop} (h : ((400 < x1.toInt → j_X5_check_44_82 (d + 1) m Q) ∧ (x1.toInt ≤ 400 → (((m.1 44 5).toInt ≠ 0 → j_X5_check_44_82 (d + 1) m Q) ∧ ((m.1 44 5).toInt = 0 → c_X8_kindAt_38 d (m.1 44 4) m (fun r1 m1 => ((r1.toInt = 24 → j_X5_check_44_82 (d + 1) m1 Q) ∧ (r1.toInt ≠ 24 → c_X8_kindAt_38 d (m1.1 44 4) m1 (fun r2 m2 => c_X5_takeTold_44 d r2 (dSet m2 44 4 ((m2.1 44 4) + (1 : Int32))) (fun r3 m3 => ((r3.toInt = 0 → j_X5_check_44_76 (d + 1) x1 m3 Q) ∧ (r3.toInt ≠ 0 → c_X5_skipEnd_44 d m3 (fun m4 => j_X5_check_44_76 (d + 1) x1 m4 Q))))))))))))) : j_X5_check_44_12 (d + 1) x1 m Q := by
  refine w_iload_n (q := 13) hm185 ⟨⟨_, _, rfl⟩, rfl⟩ rfl ?_
  refine w_sipush (q := 16) hm185 ⟨⟨_, _, rfl⟩, rfl⟩ sipush_400 ?_
  refine w_icmp_gt (q := 19) (X := x1.toInt) (Y := 400) hm185 ⟨⟨_, _, rfl⟩, rfl⟩ rfl (by decide) (fun hc => ?_) (fun hc => ?_)
  · have h := h.1 hc
    exact Wp.wk [true, false, false] h
  · have h := h.2 hc
    refine w_aload_n (q := 20) hm185 ⟨⟨_, _, rfl⟩, rfl⟩ rfl ?_
    refine w_getf (q := 23) (v := (m.1 44 5)) hm185 ⟨⟨_, _, rfl⟩, rfl⟩ rfl rfl ?_
    refine w_if_ne (q := 26) (X := (m.1 44 5).toInt) hm185 ⟨⟨_, _, rfl⟩, rfl⟩ rfl (fun hc => ?_) (fun hc => ?_)
    · have h := h.1 hc
      exact Wp.wk [true, false, false] h
    · have h := h.2 hc
      refine w_aload_n (q := 27) hm185 ⟨⟨_, _, rfl⟩, rfl⟩ rfl ?_
      refine w_getr (q := 30) hm185 ⟨⟨_, _, rfl⟩, rfl⟩ rfl ?_
      refine w_aload_n (q := 31) hm185 ⟨⟨_, _, rfl⟩, rfl⟩ rfl ?_
      refine w_getf (q := 34) (v := (m.1 44 4)) hm185 ⟨⟨_, _, rfl⟩, rfl⟩ rfl rfl ?_
      refine w_call (q := 37) (n := 0) (vs := [.inr (.inr (some 38)), .inl (m.1 44 4)]) (rest := []) (la := [oR 38, oI (m.1 44 4)]) hm185 ⟨⟨_, _, rfl⟩, rfl⟩ rfl rfl rfl rfl hm216 rfl rfl (fun _ => ⟨_, _, rfl, rfl⟩) rfl (Wp.mono h ?_)
      rintro _ m1 ⟨r1, rfl, h⟩
      change Wp _ _ 37 _ [.inl r1] _ _
      refine w_bipush (q := 39) hm185 ⟨⟨_, _, rfl⟩, rfl⟩ bipush_24 ?_
      refine w_icmp_eq (q := 42) (X := r1.toInt) (Y := 24) hm185 ⟨⟨_, _, rfl⟩, rfl⟩ rfl (by decide) (fun hc => ?_) (fun hc => ?_)
      · have h := h.1 hc
        exact Wp.wk [true, false, false] h
      · have h := h.2 hc
        refine w_aload_n (q := 43) hm185 ⟨⟨_, _, rfl⟩, rfl⟩ rfl ?_
        refine w_getr (q := 46) hm185 ⟨⟨_, _, rfl⟩, rfl⟩ rfl ?_
        refine w_aload_n (q := 47) hm185 ⟨⟨_, _, rfl⟩, rfl⟩ rfl ?_
        refine w_getf (q := 50) (v := (m1.1 44 4)) hm185 ⟨⟨_, _, rfl⟩, rfl⟩ rfl rfl ?_
        refine w_call (q := 53) (n := 0) (vs := [.inr (.inr (some 38)), .inl (m1.1 44 4)]) (rest := []) (la := [oR 38, oI (m1.1 44 4)]) hm185 ⟨⟨_, _, rfl⟩, rfl⟩ rfl rfl rfl rfl hm216 rfl rfl (fun _ => ⟨_, _, rfl, rfl⟩) rfl (Wp.mono h ?_)
        rintro _ m2 ⟨r2, rfl, h⟩
        change Wp _ _ 53 _ [.inl r2] _ _
        refine w_istore_n (q := 54) (l' := [oR 44, oI x1, oI r2]) hm185 ⟨⟨_, _, rfl⟩, rfl⟩ rfl rfl rfl ?_
        refine w_aload_n (q := 55) hm185 ⟨⟨_, _, rfl⟩, rfl⟩ rfl ?_
        refine w_dup (q := 56) hm185 ⟨⟨_, _, rfl⟩, rfl⟩ rfl ?_
        refine w_getf (q := 59) (v := (m2.1 44 4)) hm185 ⟨⟨_, _, rfl⟩, rfl⟩ rfl rfl ?_
        refine w_iconst (q := 60) hm185 ⟨⟨_, _, rfl⟩, rfl⟩ iconst_1 ?_
        refine w_iadd (q := 61) hm185 ⟨⟨_, _, rfl⟩, rfl⟩ ?_
        refine w_putf (q := 64) hm185 ⟨⟨_, _, rfl⟩, rfl⟩ rfl rfl rfl ?_
        refine w_aload_n (q := 65) hm185 ⟨⟨_, _, rfl⟩, rfl⟩ rfl ?_
        refine w_iload_n (q := 66) hm185 ⟨⟨_, _, rfl⟩, rfl⟩ rfl ?_
        refine w_call (q := 69) (n := 0) (vs := [.inr (.inr (some 44)), .inl r2]) (rest := []) (la := [oR 44, oI r2]) hm185 ⟨⟨_, _, rfl⟩, rfl⟩ rfl rfl rfl rfl hm189 rfl rfl (fun _ => ⟨_, _, rfl, rfl⟩) rfl (Wp.mono h ?_)
        rintro _ m3 ⟨r3, rfl, h⟩
        change Wp _ _ 69 _ [.inl r3] _ _
        refine w_if_eq (q := 72) (X := r3.toInt) hm185 ⟨⟨_, _, rfl⟩, rfl⟩ rfl (fun hc => ?_) (fun hc => ?_)
        · have h := h.1 hc
          exact Wp.wk [true, true, false] h
        · have h := h.2 hc
          refine w_aload_n (q := 73) hm185 ⟨⟨_, _, rfl⟩, rfl⟩ rfl ?_
          refine w_call (q := 76) (n := 0) (vs := [.inr (.inr (some 44))]) (rest := []) (la := [oR 44]) hm185 ⟨⟨_, _, rfl⟩, rfl⟩ rfl rfl rfl rfl hm187 rfl rfl (fun _ => ⟨_, _, rfl, rfl⟩) rfl (Wp.mono h ?_)
          rintro _ m4 ⟨rfl, h⟩
          change Wp _ _ 76 _ [] _ _
          exact Wp.wk [true, true, false] h
theorem v_X5_check_44_76 {d : Nat} {x1 : Int32} {m : dM} {Q : Int32 → dM → Prop} (h : j_X5_check_44_12 (d + 1) (x1 + (1 : Int32)) m Q) : j_X5_check_44_76 (d + 1) x1 m Q := by
  refine w_iinc (q := 79) (l' := [oR 44, oI (x1 + (1 : Int32)), none]) hm185 ⟨⟨_, _, rfl⟩, rfl⟩ rfl rfl rfl iconst_1 rfl ?_
  refine w_goto (q := 12) hm185 ⟨_, _, rfl⟩ ?_
  exact h
theorem v_X5_check_44_82 {d : Nat} {m : dM} {Q : Int32 → dM → Prop} (h : Q (m.1 44 5) m) : j_X5_check_44_82 (d + 1) m Q := by
  refine w_aload_n (q := 83) hm185 ⟨⟨_, _, rfl⟩, rfl⟩ rfl ?_
  refine w_getf (q := 86) (v := (m.1 44 5)) hm185 ⟨⟨_, _, rfl⟩, rfl⟩ rfl rfl ?_
  exact w_reti hm185 ⟨⟨_, _, rfl⟩, rfl⟩ rfl h
theorem v_X5_faultAt_44 {d : Nat} {m : dM} {Q : Int32 → dM → Prop} (h : (((m.1 44 5).toInt ≠ 0 → c_X8_placeAt_38 d (m.1 44 4) m (fun r1 m1 => Q r1 m1)) ∧ ((m.1 44 5).toInt = 0 → Q (-1 : Int32) m))) : c_X5_faultAt_44 (d + 1) m Q := by
  refine w_aload_n (q := 1) hm186 ⟨⟨_, _, rfl⟩, rfl⟩ rfl ?_
  refine w_getf (q := 4) (v := (m.1 44 5)) hm186 ⟨⟨_, _, rfl⟩, rfl⟩ rfl rfl ?_
  refine w_if_ne (q := 7) (X := (m.1 44 5).toInt) hm186 ⟨⟨_, _, rfl⟩, rfl⟩ rfl (fun hc => ?_) (fun hc => ?_)
  · have h := h.1 hc
    refine w_aload_n (q := 12) hm186 ⟨⟨_, _, rfl⟩, rfl⟩ rfl ?_
    refine w_getr (q := 15) hm186 ⟨⟨_, _, rfl⟩, rfl⟩ rfl ?_
    refine w_aload_n (q := 16) hm186 ⟨⟨_, _, rfl⟩, rfl⟩ rfl ?_
    refine w_getf (q := 19) (v := (m.1 44 4)) hm186 ⟨⟨_, _, rfl⟩, rfl⟩ rfl rfl ?_
    refine w_call (q := 22) (n := 0) (vs := [.inr (.inr (some 38)), .inl (m.1 44 4)]) (rest := []) (la := [oR 38, oI (m.1 44 4)]) hm186 ⟨⟨_, _, rfl⟩, rfl⟩ rfl rfl rfl rfl hm217 rfl rfl (fun _ => ⟨_, _, rfl, rfl⟩) rfl (Wp.mono h ?_)
    rintro _ m1 ⟨r1, rfl, h⟩
    change Wp _ _ 22 _ [.inl r1] _ _
    exact w_reti hm186 ⟨⟨_, _, rfl⟩, rfl⟩ rfl h
  · have h := h.2 hc
    refine w_iconst (q := 8) hm186 ⟨⟨_, _, rfl⟩, rfl⟩ iconst_m1 ?_
    refine w_goto (q := 22) hm186 ⟨_, _, rfl⟩ ?_
    exact w_reti hm186 ⟨⟨_, _, rfl⟩, rfl⟩ rfl h
theorem v_X4_copy_11_29 {d : Nat} {m : dM} {Q : dM → Prop} (h : ((0 ≤ (m.1 29 1).toInt ∧ 0 ≤ (0 : Int) ∧ 0 ≤ (0 : Int) ∧ (0 : Int) + (m.1 29 1).toInt ≤ 406 ∧ (0 : Int) + (m.1 29 1).toInt ≤ 406) ∧ j_X4_copy_11_29_27 (d + 1) (0 : Int32) (dSet (dCpy m 30 (0 : Int).toNat 12 (0 : Int).toNat ((m.1 29 1).toInt).toNat) 11 1 (m.1 29 1)) Q)) : c_X4_copy_11_29 (d + 1) m Q := by
  refine w_aload_n (q := 1) hm177 ⟨⟨_, _, rfl⟩, rfl⟩ rfl ?_
  refine w_getr (q := 4) hm177 ⟨⟨_, _, rfl⟩, rfl⟩ rfl ?_
  refine w_iconst (q := 5) hm177 ⟨⟨_, _, rfl⟩, rfl⟩ iconst_0 ?_
  refine w_aload_n (q := 6) hm177 ⟨⟨_, _, rfl⟩, rfl⟩ rfl ?_
  refine w_getr (q := 9) hm177 ⟨⟨_, _, rfl⟩, rfl⟩ rfl ?_
  refine w_iconst (q := 10) hm177 ⟨⟨_, _, rfl⟩, rfl⟩ iconst_0 ?_
  refine w_aload_n (q := 11) hm177 ⟨⟨_, _, rfl⟩, rfl⟩ rfl ?_
  refine w_getf (q := 14) (v := (m.1 29 1)) hm177 ⟨⟨_, _, rfl⟩, rfl⟩ rfl rfl ?_
  obtain ⟨hi, h⟩ := h
  refine w_copy (q := 17) (N := (m.1 29 1).toInt) (D := 0) (S := 0) hm177 ⟨⟨_, _, rfl⟩, rfl⟩ rfl rfl rfl rfl rfl rfl (by decide) (by decide) hi ?_
  refine w_aload_n (q := 18) hm177 ⟨⟨_, _, rfl⟩, rfl⟩ rfl ?_
  refine w_aload_n (q := 19) hm177 ⟨⟨_, _, rfl⟩, rfl⟩ rfl ?_
  refine w_getf (q := 22) (v := (m.1 29 1)) hm177 ⟨⟨_, _, rfl⟩, rfl⟩ rfl rfl ?_
  refine w_putf (q := 25) hm177 ⟨⟨_, _, rfl⟩, rfl⟩ rfl rfl rfl ?_
  refine w_iconst (q := 26) hm177 ⟨⟨_, _, rfl⟩, rfl⟩ iconst_0 ?_
  refine w_istore_n (q := 27) (l' := [oR 11, oR 29, oI (0 : Int32)]) hm177 ⟨⟨_, _, rfl⟩, rfl⟩ rfl rfl rfl ?_
  exact h
theorem v_X4_copy_11_29_27 {d : Nat} {x2 : Int32} {m : dM} {Q : dM → Prop} (h : ((4 ≤ x2.toInt → Q m) ∧ (x2.toInt < 4 → ((0 ≤ x2.toInt ∧ x2.toInt < 4) ∧ ((0 ≤ x2.toInt ∧ x2.toInt < 4) ∧ ((0 ≤ x2.toInt ∧ x2.toInt < 4) ∧ (x2.toInt = 0 → ((0 ≤ x2.toInt ∧ x2.toInt < 4) ∧ (x2.toInt = 0 → j_X4_copy_11_29_27 (d + 1) (x2 + (1 : Int32)) (dCpy (dSet m 18 x2.toNatClampNeg (m.1 36 x2.toNatClampNeg)) 32 (0 : Int).toNat 14 (0 : Int).toNat (14 : Int).toNat) Q) ∧ (x2.toInt = 1 → j_X4_copy_11_29_27 (d + 1) (x2 + (1 : Int32)) (dCpy (dSet m 18 x2.toNatClampNeg (m.1 36 x2.toNatClampNeg)) 32 (0 : Int).toNat 15 (0 : Int).toNat (14 : Int).toNat) Q) ∧ (x2.toInt = 2 → j_X4_copy_11_29_27 (d + 1) (x2 + (1 : Int32)) (dCpy (dSet m 18 x2.toNatClampNeg (m.1 36 x2.toNatClampNeg)) 32 (0 : Int).toNat 16 (0 : Int).toNat (14 : Int).toNat) Q) ∧ (x2.toInt = 3 → j_X4_copy_11_29_27 (d + 1) (x2 + (1 : Int32)) (dCpy (dSet m 18 x2.toNatClampNeg (m.1 36 x2.toNatClampNeg)) 32 (0 : Int).toNat 17 (0 : Int).toNat (14 : Int).toNat) Q))) ∧ (x2.toInt = 1 → ((0 ≤ x2.toInt ∧ x2.toInt < 4) ∧ (x2.toInt = 0 → j_X4_copy_11_29_27 (d + 1) (x2 + (1 : Int32)) (dCpy (dSet m 18 x2.toNatClampNeg (m.1 36 x2.toNatClampNeg)) 33 (0 : Int).toNat 14 (0 : Int).toNat (14 : Int).toNat) Q) ∧ (x2.toInt = 1 → j_X4_copy_11_29_27 (d + 1) (x2 + (1 : Int32)) (dCpy (dSet m 18 x2.toNatClampNeg (m.1 36 x2.toNatClampNeg)) 33 (0 : Int).toNat 15 (0 : Int).toNat (14 : Int).toNat) Q) ∧ (x2.toInt = 2 → j_X4_copy_11_29_27 (d + 1) (x2 + (1 : Int32)) (dCpy (dSet m 18 x2.toNatClampNeg (m.1 36 x2.toNatClampNeg)) 33 (0 : Int).toNat 16 (0 : Int).toNat (14 : Int).toNat) Q) ∧ (x2.toInt = 3 → j_X4_copy_11_29_27 (d + 1) (x2 + (1 : Int32)) (dCpy (dSet m 18 x2.toNatClampNeg (m.1 36 x2.toNatClampNeg)) 33 (0 : Int).toNat 17 (0 : Int).toNat (14 : Int).toNat) Q))) ∧ (x2.toInt = 2 → ((0 ≤ x2.toInt ∧ x2.toInt < 4) ∧ (x2.toInt = 0 → j_X4_copy_11_29_27 (d + 1) (x2 + (1 : Int32)) (dCpy (dSet m 18 x2.toNatClampNeg (m.1 36 x2.toNatClampNeg)) 34 (0 : Int).toNat 14 (0 : Int).toNat (14 : Int).toNat) Q) ∧ (x2.toInt = 1 → j_X4_copy_11_29_27 (d + 1) (x2 + (1 : Int32)) (dCpy (dSet m 18 x2.toNatClampNeg (m.1 36 x2.toNatClampNeg)) 34 (0 : Int).toNat 15 (0 : Int).toNat (14 : Int).toNat) Q) ∧ (x2.toInt = 2 → j_X4_copy_11_29_27 (d + 1) (x2 + (1 : Int32)) (dCpy (dSet m 18 x2.toNatClampNeg (m.1 36 x2.toNatClampNeg)) 34 (0 : Int).toNat 16 (0 : Int).toNat (14 : Int).toNat) Q) ∧ (x2.toInt = 3 → j_X4_copy_11_29_27 (d + 1) (x2 + (1 : Int32)) (dCpy (dSet m 18 x2.toNatClampNeg (m.1 36 x2.toNatClampNeg)) 34 (0 : Int).toNat 17 (0 : Int).toNat (14 : Int).toNat) Q))) ∧ (x2.toInt = 3 → ((0 ≤ x2.toInt ∧ x2.toInt < 4) ∧ (x2.toInt = 0 → j_X4_copy_11_29_27 (d + 1) (x2 + (1 : Int32)) (dCpy (dSet m 18 x2.toNatClampNeg (m.1 36 x2.toNatClampNeg)) 35 (0 : Int).toNat 14 (0 : Int).toNat (14 : Int).toNat) Q) ∧ (x2.toInt = 1 → j_X4_copy_11_29_27 (d + 1) (x2 + (1 : Int32)) (dCpy (dSet m 18 x2.toNatClampNeg (m.1 36 x2.toNatClampNeg)) 35 (0 : Int).toNat 15 (0 : Int).toNat (14 : Int).toNat) Q) ∧ (x2.toInt = 2 → j_X4_copy_11_29_27 (d + 1) (x2 + (1 : Int32)) (dCpy (dSet m 18 x2.toNatClampNeg (m.1 36 x2.toNatClampNeg)) 35 (0 : Int).toNat 16 (0 : Int).toNat (14 : Int).toNat) Q) ∧ (x2.toInt = 3 → j_X4_copy_11_29_27 (d + 1) (x2 + (1 : Int32)) (dCpy (dSet m 18 x2.toNatClampNeg (m.1 36 x2.toNatClampNeg)) 35 (0 : Int).toNat 17 (0 : Int).toNat (14 : Int).toNat) Q))))))))) : j_X4_copy_11_29_27 (d + 1) x2 m Q := by
  refine w_iload_n (q := 28) hm177 ⟨⟨_, _, rfl⟩, rfl⟩ rfl ?_
  refine w_iconst (q := 29) hm177 ⟨⟨_, _, rfl⟩, rfl⟩ iconst_4 ?_
  refine w_icmp_ge (q := 32) (X := x2.toInt) (Y := 4) hm177 ⟨⟨_, _, rfl⟩, rfl⟩ rfl (by decide) (fun hc => ?_) (fun hc => ?_)
  · have h := h.1 hc
    exact w_retv hm177 ⟨⟨_, _, rfl⟩, rfl⟩ rfl h
  · have h := h.2 hc
    refine w_aload_n (q := 33) hm177 ⟨⟨_, _, rfl⟩, rfl⟩ rfl ?_
    refine w_getr (q := 36) hm177 ⟨⟨_, _, rfl⟩, rfl⟩ rfl ?_
    refine w_iload_n (q := 37) hm177 ⟨⟨_, _, rfl⟩, rfl⟩ rfl ?_
    refine w_aload_n (q := 38) hm177 ⟨⟨_, _, rfl⟩, rfl⟩ rfl ?_
    refine w_getr (q := 41) hm177 ⟨⟨_, _, rfl⟩, rfl⟩ rfl ?_
    refine w_iload_n (q := 42) hm177 ⟨⟨_, _, rfl⟩, rfl⟩ rfl ?_
    obtain ⟨hi, h⟩ := h
    refine w_iald (q := 43) (v := (m.1 36 x2.toNatClampNeg)) hm177 ⟨⟨_, _, rfl⟩, rfl⟩ rfl hi rfl rfl ?_
    obtain ⟨hi, h⟩ := h
    refine w_iast (q := 44) hm177 ⟨⟨_, _, rfl⟩, rfl⟩ rfl hi rfl rfl ?_
    refine w_aload_n (q := 45) hm177 ⟨⟨_, _, rfl⟩, rfl⟩ rfl ?_
    refine w_getr (q := 48) hm177 ⟨⟨_, _, rfl⟩, rfl⟩ rfl ?_
    refine w_iload_n (q := 49) hm177 ⟨⟨_, _, rfl⟩, rfl⟩ rfl ?_
    obtain ⟨hi, h⟩ := h
    refine w_aald (q := 50) hm177 ⟨⟨_, _, rfl⟩, rfl⟩ rfl rfl hi ((And.intro (fun hc => ?_) (And.intro (fun hc => ?_) (And.intro (fun hc => ?_) (And.intro (fun hc => ?_) trivial)))))
    · have h := (h.1) hc
      refine w_iconst (q := 51) hm177 ⟨⟨_, _, rfl⟩, rfl⟩ iconst_0 ?_
      refine w_aload_n (q := 52) hm177 ⟨⟨_, _, rfl⟩, rfl⟩ rfl ?_
      refine w_getr (q := 55) hm177 ⟨⟨_, _, rfl⟩, rfl⟩ rfl ?_
      refine w_iload_n (q := 56) hm177 ⟨⟨_, _, rfl⟩, rfl⟩ rfl ?_
      obtain ⟨hi, h⟩ := h
      refine w_aald (q := 57) hm177 ⟨⟨_, _, rfl⟩, rfl⟩ rfl rfl hi ((And.intro (fun hc => ?_) (And.intro (fun hc => ?_) (And.intro (fun hc => ?_) (And.intro (fun hc => ?_) trivial)))))
      · have h := (h.1) hc
        refine w_iconst (q := 58) hm177 ⟨⟨_, _, rfl⟩, rfl⟩ iconst_0 ?_
        refine w_bipush (q := 60) hm177 ⟨⟨_, _, rfl⟩, rfl⟩ bipush_14 ?_
        refine w_copy (q := 63) (N := 14) (D := 0) (S := 0) hm177 ⟨⟨_, _, rfl⟩, rfl⟩ rfl rfl rfl rfl rfl (by decide) (by decide) (by decide) (by decide) ?_
        refine w_iinc (q := 66) (l' := [oR 11, oR 29, oI (x2 + (1 : Int32))]) hm177 ⟨⟨_, _, rfl⟩, rfl⟩ rfl rfl rfl iconst_1 rfl ?_
        refine w_goto (q := 27) hm177 ⟨_, _, rfl⟩ ?_
        exact h
      · have h := (h.2.1) hc
        refine w_iconst (q := 58) hm177 ⟨⟨_, _, rfl⟩, rfl⟩ iconst_0 ?_
        refine w_bipush (q := 60) hm177 ⟨⟨_, _, rfl⟩, rfl⟩ bipush_14 ?_
        refine w_copy (q := 63) (N := 14) (D := 0) (S := 0) hm177 ⟨⟨_, _, rfl⟩, rfl⟩ rfl rfl rfl rfl rfl (by decide) (by decide) (by decide) (by decide) ?_
        refine w_iinc (q := 66) (l' := [oR 11, oR 29, oI (x2 + (1 : Int32))]) hm177 ⟨⟨_, _, rfl⟩, rfl⟩ rfl rfl rfl iconst_1 rfl ?_
        refine w_goto (q := 27) hm177 ⟨_, _, rfl⟩ ?_
        exact h
      · have h := (h.2.2.1) hc
        refine w_iconst (q := 58) hm177 ⟨⟨_, _, rfl⟩, rfl⟩ iconst_0 ?_
        refine w_bipush (q := 60) hm177 ⟨⟨_, _, rfl⟩, rfl⟩ bipush_14 ?_
        refine w_copy (q := 63) (N := 14) (D := 0) (S := 0) hm177 ⟨⟨_, _, rfl⟩, rfl⟩ rfl rfl rfl rfl rfl (by decide) (by decide) (by decide) (by decide) ?_
        refine w_iinc (q := 66) (l' := [oR 11, oR 29, oI (x2 + (1 : Int32))]) hm177 ⟨⟨_, _, rfl⟩, rfl⟩ rfl rfl rfl iconst_1 rfl ?_
        refine w_goto (q := 27) hm177 ⟨_, _, rfl⟩ ?_
        exact h
      · have h := (h.2.2.2) hc
        refine w_iconst (q := 58) hm177 ⟨⟨_, _, rfl⟩, rfl⟩ iconst_0 ?_
        refine w_bipush (q := 60) hm177 ⟨⟨_, _, rfl⟩, rfl⟩ bipush_14 ?_
        refine w_copy (q := 63) (N := 14) (D := 0) (S := 0) hm177 ⟨⟨_, _, rfl⟩, rfl⟩ rfl rfl rfl rfl rfl (by decide) (by decide) (by decide) (by decide) ?_
        refine w_iinc (q := 66) (l' := [oR 11, oR 29, oI (x2 + (1 : Int32))]) hm177 ⟨⟨_, _, rfl⟩, rfl⟩ rfl rfl rfl iconst_1 rfl ?_
        refine w_goto (q := 27) hm177 ⟨_, _, rfl⟩ ?_
        exact h
    · have h := (h.2.1) hc
      refine w_iconst (q := 51) hm177 ⟨⟨_, _, rfl⟩, rfl⟩ iconst_0 ?_
      refine w_aload_n (q := 52) hm177 ⟨⟨_, _, rfl⟩, rfl⟩ rfl ?_
      refine w_getr (q := 55) hm177 ⟨⟨_, _, rfl⟩, rfl⟩ rfl ?_
      refine w_iload_n (q := 56) hm177 ⟨⟨_, _, rfl⟩, rfl⟩ rfl ?_
      obtain ⟨hi, h⟩ := h
      refine w_aald (q := 57) hm177 ⟨⟨_, _, rfl⟩, rfl⟩ rfl rfl hi ((And.intro (fun hc => ?_) (And.intro (fun hc => ?_) (And.intro (fun hc => ?_) (And.intro (fun hc => ?_) trivial)))))
      · have h := (h.1) hc
        refine w_iconst (q := 58) hm177 ⟨⟨_, _, rfl⟩, rfl⟩ iconst_0 ?_
        refine w_bipush (q := 60) hm177 ⟨⟨_, _, rfl⟩, rfl⟩ bipush_14 ?_
        refine w_copy (q := 63) (N := 14) (D := 0) (S := 0) hm177 ⟨⟨_, _, rfl⟩, rfl⟩ rfl rfl rfl rfl rfl (by decide) (by decide) (by decide) (by decide) ?_
        refine w_iinc (q := 66) (l' := [oR 11, oR 29, oI (x2 + (1 : Int32))]) hm177 ⟨⟨_, _, rfl⟩, rfl⟩ rfl rfl rfl iconst_1 rfl ?_
        refine w_goto (q := 27) hm177 ⟨_, _, rfl⟩ ?_
        exact h
      · have h := (h.2.1) hc
        refine w_iconst (q := 58) hm177 ⟨⟨_, _, rfl⟩, rfl⟩ iconst_0 ?_
        refine w_bipush (q := 60) hm177 ⟨⟨_, _, rfl⟩, rfl⟩ bipush_14 ?_
        refine w_copy (q := 63) (N := 14) (D := 0) (S := 0) hm177 ⟨⟨_, _, rfl⟩, rfl⟩ rfl rfl rfl rfl rfl (by decide) (by decide) (by decide) (by decide) ?_
        refine w_iinc (q := 66) (l' := [oR 11, oR 29, oI (x2 + (1 : Int32))]) hm177 ⟨⟨_, _, rfl⟩, rfl⟩ rfl rfl rfl iconst_1 rfl ?_
        refine w_goto (q := 27) hm177 ⟨_, _, rfl⟩ ?_
        exact h
      · have h := (h.2.2.1) hc
        refine w_iconst (q := 58) hm177 ⟨⟨_, _, rfl⟩, rfl⟩ iconst_0 ?_
        refine w_bipush (q := 60) hm177 ⟨⟨_, _, rfl⟩, rfl⟩ bipush_14 ?_
        refine w_copy (q := 63) (N := 14) (D := 0) (S := 0) hm177 ⟨⟨_, _, rfl⟩, rfl⟩ rfl rfl rfl rfl rfl (by decide) (by decide) (by decide) (by decide) ?_
        refine w_iinc (q := 66) (l' := [oR 11, oR 29, oI (x2 + (1 : Int32))]) hm177 ⟨⟨_, _, rfl⟩, rfl⟩ rfl rfl rfl iconst_1 rfl ?_
        refine w_goto (q := 27) hm177 ⟨_, _, rfl⟩ ?_
        exact h
      · have h := (h.2.2.2) hc
        refine w_iconst (q := 58) hm177 ⟨⟨_, _, rfl⟩, rfl⟩ iconst_0 ?_
        refine w_bipush (q := 60) hm177 ⟨⟨_, _, rfl⟩, rfl⟩ bipush_14 ?_
        refine w_copy (q := 63) (N := 14) (D := 0) (S := 0) hm177 ⟨⟨_, _, rfl⟩, rfl⟩ rfl rfl rfl rfl rfl (by decide) (by decide) (by decide) (by decide) ?_
        refine w_iinc (q := 66) (l' := [oR 11, oR 29, oI (x2 + (1 : Int32))]) hm177 ⟨⟨_, _, rfl⟩, rfl⟩ rfl rfl rfl iconst_1 rfl ?_
        refine w_goto (q := 27) hm177 ⟨_, _, rfl⟩ ?_
        exact h
    · have h := (h.2.2.1) hc
      refine w_iconst (q := 51) hm177 ⟨⟨_, _, rfl⟩, rfl⟩ iconst_0 ?_
      refine w_aload_n (q := 52) hm177 ⟨⟨_, _, rfl⟩, rfl⟩ rfl ?_
      refine w_getr (q := 55) hm177 ⟨⟨_, _, rfl⟩, rfl⟩ rfl ?_
      refine w_iload_n (q := 56) hm177 ⟨⟨_, _, rfl⟩, rfl⟩ rfl ?_
      obtain ⟨hi, h⟩ := h
      refine w_aald (q := 57) hm177 ⟨⟨_, _, rfl⟩, rfl⟩ rfl rfl hi ((And.intro (fun hc => ?_) (And.intro (fun hc => ?_) (And.intro (fun hc => ?_) (And.intro (fun hc => ?_) trivial)))))
      · have h := (h.1) hc
        refine w_iconst (q := 58) hm177 ⟨⟨_, _, rfl⟩, rfl⟩ iconst_0 ?_
        refine w_bipush (q := 60) hm177 ⟨⟨_, _, rfl⟩, rfl⟩ bipush_14 ?_
        refine w_copy (q := 63) (N := 14) (D := 0) (S := 0) hm177 ⟨⟨_, _, rfl⟩, rfl⟩ rfl rfl rfl rfl rfl (by decide) (by decide) (by decide) (by decide) ?_
        refine w_iinc (q := 66) (l' := [oR 11, oR 29, oI (x2 + (1 : Int32))]) hm177 ⟨⟨_, _, rfl⟩, rfl⟩ rfl rfl rfl iconst_1 rfl ?_
        refine w_goto (q := 27) hm177 ⟨_, _, rfl⟩ ?_
        exact h
      · have h := (h.2.1) hc
        refine w_iconst (q := 58) hm177 ⟨⟨_, _, rfl⟩, rfl⟩ iconst_0 ?_
        refine w_bipush (q := 60) hm177 ⟨⟨_, _, rfl⟩, rfl⟩ bipush_14 ?_
        refine w_copy (q := 63) (N := 14) (D := 0) (S := 0) hm177 ⟨⟨_, _, rfl⟩, rfl⟩ rfl rfl rfl rfl rfl (by decide) (by decide) (by decide) (by decide) ?_
        refine w_iinc (q := 66) (l' := [oR 11, oR 29, oI (x2 + (1 : Int32))]) hm177 ⟨⟨_, _, rfl⟩, rfl⟩ rfl rfl rfl iconst_1 rfl ?_
        refine w_goto (q := 27) hm177 ⟨_, _, rfl⟩ ?_
        exact h
      · have h := (h.2.2.1) hc
        refine w_iconst (q := 58) hm177 ⟨⟨_, _, rfl⟩, rfl⟩ iconst_0 ?_
        refine w_bipush (q := 60) hm177 ⟨⟨_, _, rfl⟩, rfl⟩ bipush_14 ?_
        refine w_copy (q := 63) (N := 14) (D := 0) (S := 0) hm177 ⟨⟨_, _, rfl⟩, rfl⟩ rfl rfl rfl rfl rfl (by decide) (by decide) (by decide) (by decide) ?_
        refine w_iinc (q := 66) (l' := [oR 11, oR 29, oI (x2 + (1 : Int32))]) hm177 ⟨⟨_, _, rfl⟩, rfl⟩ rfl rfl rfl iconst_1 rfl ?_
        refine w_goto (q := 27) hm177 ⟨_, _, rfl⟩ ?_
        exact h
      · have h := (h.2.2.2) hc
        refine w_iconst (q := 58) hm177 ⟨⟨_, _, rfl⟩, rfl⟩ iconst_0 ?_
        refine w_bipush (q := 60) hm177 ⟨⟨_, _, rfl⟩, rfl⟩ bipush_14 ?_
        refine w_copy (q := 63) (N := 14) (D := 0) (S := 0) hm177 ⟨⟨_, _, rfl⟩, rfl⟩ rfl rfl rfl rfl rfl (by decide) (by decide) (by decide) (by decide) ?_
        refine w_iinc (q := 66) (l' := [oR 11, oR 29, oI (x2 + (1 : Int32))]) hm177 ⟨⟨_, _, rfl⟩, rfl⟩ rfl rfl rfl iconst_1 rfl ?_
        refine w_goto (q := 27) hm177 ⟨_, _, rfl⟩ ?_
        exact h
    · have h := (h.2.2.2) hc
      refine w_iconst (q := 51) hm177 ⟨⟨_, _, rfl⟩, rfl⟩ iconst_0 ?_
      refine w_aload_n (q := 52) hm177 ⟨⟨_, _, rfl⟩, rfl⟩ rfl ?_
      refine w_getr (q := 55) hm177 ⟨⟨_, _, rfl⟩, rfl⟩ rfl ?_
      refine w_iload_n (q := 56) hm177 ⟨⟨_, _, rfl⟩, rfl⟩ rfl ?_
      obtain ⟨hi, h⟩ := h
      refine w_aald (q := 57) hm177 ⟨⟨_, _, rfl⟩, rfl⟩ rfl rfl hi ((And.intro (fun hc => ?_) (And.intro (fun hc => ?_) (And.intro (fun hc => ?_) (And.intro (fun hc => ?_) trivial)))))
      · have h := (h.1) hc
        refine w_iconst (q := 58) hm177 ⟨⟨_, _, rfl⟩, rfl⟩ iconst_0 ?_
        refine w_bipush (q := 60) hm177 ⟨⟨_, _, rfl⟩, rfl⟩ bipush_14 ?_
        refine w_copy (q := 63) (N := 14) (D := 0) (S := 0) hm177 ⟨⟨_, _, rfl⟩, rfl⟩ rfl rfl rfl rfl rfl (by decide) (by decide) (by decide) (by decide) ?_
        refine w_iinc (q := 66) (l' := [oR 11, oR 29, oI (x2 + (1 : Int32))]) hm177 ⟨⟨_, _, rfl⟩, rfl⟩ rfl rfl rfl iconst_1 rfl ?_
        refine w_goto (q := 27) hm177 ⟨_, _, rfl⟩ ?_
        exact h
      · have h := (h.2.1) hc
        refine w_iconst (q := 58) hm177 ⟨⟨_, _, rfl⟩, rfl⟩ iconst_0 ?_
        refine w_bipush (q := 60) hm177 ⟨⟨_, _, rfl⟩, rfl⟩ bipush_14 ?_
        refine w_copy (q := 63) (N := 14) (D := 0) (S := 0) hm177 ⟨⟨_, _, rfl⟩, rfl⟩ rfl rfl rfl rfl rfl (by decide) (by decide) (by decide) (by decide) ?_
        refine w_iinc (q := 66) (l' := [oR 11, oR 29, oI (x2 + (1 : Int32))]) hm177 ⟨⟨_, _, rfl⟩, rfl⟩ rfl rfl rfl iconst_1 rfl ?_
        refine w_goto (q := 27) hm177 ⟨_, _, rfl⟩ ?_
        exact h
      · have h := (h.2.2.1) hc
        refine w_iconst (q := 58) hm177 ⟨⟨_, _, rfl⟩, rfl⟩ iconst_0 ?_
        refine w_bipush (q := 60) hm177 ⟨⟨_, _, rfl⟩, rfl⟩ bipush_14 ?_
        refine w_copy (q := 63) (N := 14) (D := 0) (S := 0) hm177 ⟨⟨_, _, rfl⟩, rfl⟩ rfl rfl rfl rfl rfl (by decide) (by decide) (by decide) (by decide) ?_
        refine w_iinc (q := 66) (l' := [oR 11, oR 29, oI (x2 + (1 : Int32))]) hm177 ⟨⟨_, _, rfl⟩, rfl⟩ rfl rfl rfl iconst_1 rfl ?_
        refine w_goto (q := 27) hm177 ⟨_, _, rfl⟩ ?_
        exact h
      · have h := (h.2.2.2) hc
        refine w_iconst (q := 58) hm177 ⟨⟨_, _, rfl⟩, rfl⟩ iconst_0 ?_
        refine w_bipush (q := 60) hm177 ⟨⟨_, _, rfl⟩, rfl⟩ bipush_14 ?_
        refine w_copy (q := 63) (N := 14) (D := 0) (S := 0) hm177 ⟨⟨_, _, rfl⟩, rfl⟩ rfl rfl rfl rfl rfl (by decide) (by decide) (by decide) (by decide) ?_
        refine w_iinc (q := 66) (l' := [oR 11, oR 29, oI (x2 + (1 : Int32))]) hm177 ⟨⟨_, _, rfl⟩, rfl⟩ rfl rfl rfl iconst_1 rfl ?_
        refine w_goto (q := 27) hm177 ⟨_, _, rfl⟩ ?_
        exact h
theorem v_X3_copy_2_20 {d : Nat} {m : dM} {Q : dM → Prop} (h : c_X4_copy_11_29 d (dCpy (dCpy (dCpy (dCpy (dCpy (dCpy (dCpy (dCpy (dSet (dSet (dSet (dSet (dSet (dSet (dSet m 2 0 (m.1 20 0)) 2 1 (m.1 20 1)) 2 2 (m.1 20 2)) 2 3 (m.1 20 3)) 2 4 (m.1 20 4)) 2 5 (m.1 20 5)) 2 6 (m.1 20 6)) 21 (0 : Int).toNat 3 (0 : Int).toNat (7 : Int).toNat) 22 (0 : Int).toNat 4 (0 : Int).toNat (10 : Int).toNat) 23 (0 : Int).toNat 5 (0 : Int).toNat (10 : Int).toNat) 24 (0 : Int).toNat 6 (0 : Int).toNat (10 : Int).toNat) 25 (0 : Int).toNat 7 (0 : Int).toNat (8 : Int).toNat) 26 (0 : Int).toNat 8 (0 : Int).toNat (8 : Int).toNat) 27 (0 : Int).toNat 9 (0 : Int).toNat (8 : Int).toNat) 28 (0 : Int).toNat 10 (0 : Int).toNat (8 : Int).toNat) (fun m1 => Q m1)) : c_X3_copy_2_20 (d + 1) m Q := by
  refine w_aload_n (q := 1) hm170 ⟨⟨_, _, rfl⟩, rfl⟩ rfl ?_
  refine w_aload_n (q := 2) hm170 ⟨⟨_, _, rfl⟩, rfl⟩ rfl ?_
  refine w_getf (q := 5) (v := (m.1 20 0)) hm170 ⟨⟨_, _, rfl⟩, rfl⟩ rfl rfl ?_
  refine w_putf (q := 8) hm170 ⟨⟨_, _, rfl⟩, rfl⟩ rfl rfl rfl ?_
  refine w_aload_n (q := 9) hm170 ⟨⟨_, _, rfl⟩, rfl⟩ rfl ?_
  refine w_aload_n (q := 10) hm170 ⟨⟨_, _, rfl⟩, rfl⟩ rfl ?_
  refine w_getf (q := 13) (v := (m.1 20 1)) hm170 ⟨⟨_, _, rfl⟩, rfl⟩ rfl rfl ?_
  refine w_putf (q := 16) hm170 ⟨⟨_, _, rfl⟩, rfl⟩ rfl rfl rfl ?_
  refine w_aload_n (q := 17) hm170 ⟨⟨_, _, rfl⟩, rfl⟩ rfl ?_
  refine w_aload_n (q := 18) hm170 ⟨⟨_, _, rfl⟩, rfl⟩ rfl ?_
  refine w_getf (q := 21) (v := (m.1 20 2)) hm170 ⟨⟨_, _, rfl⟩, rfl⟩ rfl rfl ?_
  refine w_putf (q := 24) hm170 ⟨⟨_, _, rfl⟩, rfl⟩ rfl rfl rfl ?_
  refine w_aload_n (q := 25) hm170 ⟨⟨_, _, rfl⟩, rfl⟩ rfl ?_
  refine w_aload_n (q := 26) hm170 ⟨⟨_, _, rfl⟩, rfl⟩ rfl ?_
  refine w_getf (q := 29) (v := (m.1 20 3)) hm170 ⟨⟨_, _, rfl⟩, rfl⟩ rfl rfl ?_
  refine w_putf (q := 32) hm170 ⟨⟨_, _, rfl⟩, rfl⟩ rfl rfl rfl ?_
  refine w_aload_n (q := 33) hm170 ⟨⟨_, _, rfl⟩, rfl⟩ rfl ?_
  refine w_aload_n (q := 34) hm170 ⟨⟨_, _, rfl⟩, rfl⟩ rfl ?_
  refine w_getf (q := 37) (v := (m.1 20 4)) hm170 ⟨⟨_, _, rfl⟩, rfl⟩ rfl rfl ?_
  refine w_putf (q := 40) hm170 ⟨⟨_, _, rfl⟩, rfl⟩ rfl rfl rfl ?_
  refine w_aload_n (q := 41) hm170 ⟨⟨_, _, rfl⟩, rfl⟩ rfl ?_
  refine w_aload_n (q := 42) hm170 ⟨⟨_, _, rfl⟩, rfl⟩ rfl ?_
  refine w_getf (q := 45) (v := (m.1 20 5)) hm170 ⟨⟨_, _, rfl⟩, rfl⟩ rfl rfl ?_
  refine w_putf (q := 48) hm170 ⟨⟨_, _, rfl⟩, rfl⟩ rfl rfl rfl ?_
  refine w_aload_n (q := 49) hm170 ⟨⟨_, _, rfl⟩, rfl⟩ rfl ?_
  refine w_aload_n (q := 50) hm170 ⟨⟨_, _, rfl⟩, rfl⟩ rfl ?_
  refine w_getf (q := 53) (v := (m.1 20 6)) hm170 ⟨⟨_, _, rfl⟩, rfl⟩ rfl rfl ?_
  refine w_putf (q := 56) hm170 ⟨⟨_, _, rfl⟩, rfl⟩ rfl rfl rfl ?_
  refine w_aload_n (q := 57) hm170 ⟨⟨_, _, rfl⟩, rfl⟩ rfl ?_
  refine w_getr (q := 60) hm170 ⟨⟨_, _, rfl⟩, rfl⟩ rfl ?_
  refine w_iconst (q := 61) hm170 ⟨⟨_, _, rfl⟩, rfl⟩ iconst_0 ?_
  refine w_aload_n (q := 62) hm170 ⟨⟨_, _, rfl⟩, rfl⟩ rfl ?_
  refine w_getr (q := 65) hm170 ⟨⟨_, _, rfl⟩, rfl⟩ rfl ?_
  refine w_iconst (q := 66) hm170 ⟨⟨_, _, rfl⟩, rfl⟩ iconst_0 ?_
  refine w_bipush (q := 68) hm170 ⟨⟨_, _, rfl⟩, rfl⟩ bipush_7 ?_
  refine w_copy (q := 71) (N := 7) (D := 0) (S := 0) hm170 ⟨⟨_, _, rfl⟩, rfl⟩ rfl rfl rfl rfl rfl (by decide) (by decide) (by decide) (by decide) ?_
  refine w_aload_n (q := 72) hm170 ⟨⟨_, _, rfl⟩, rfl⟩ rfl ?_
  refine w_getr (q := 75) hm170 ⟨⟨_, _, rfl⟩, rfl⟩ rfl ?_
  refine w_iconst (q := 76) hm170 ⟨⟨_, _, rfl⟩, rfl⟩ iconst_0 ?_
  refine w_aload_n (q := 77) hm170 ⟨⟨_, _, rfl⟩, rfl⟩ rfl ?_
  refine w_getr (q := 80) hm170 ⟨⟨_, _, rfl⟩, rfl⟩ rfl ?_
  refine w_iconst (q := 81) hm170 ⟨⟨_, _, rfl⟩, rfl⟩ iconst_0 ?_
  refine w_bipush (q := 83) hm170 ⟨⟨_, _, rfl⟩, rfl⟩ bipush_10 ?_
  refine w_copy (q := 86) (N := 10) (D := 0) (S := 0) hm170 ⟨⟨_, _, rfl⟩, rfl⟩ rfl rfl rfl rfl rfl (by decide) (by decide) (by decide) (by decide) ?_
  refine w_aload_n (q := 87) hm170 ⟨⟨_, _, rfl⟩, rfl⟩ rfl ?_
  refine w_getr (q := 90) hm170 ⟨⟨_, _, rfl⟩, rfl⟩ rfl ?_
  refine w_iconst (q := 91) hm170 ⟨⟨_, _, rfl⟩, rfl⟩ iconst_0 ?_
  refine w_aload_n (q := 92) hm170 ⟨⟨_, _, rfl⟩, rfl⟩ rfl ?_
  refine w_getr (q := 95) hm170 ⟨⟨_, _, rfl⟩, rfl⟩ rfl ?_
  refine w_iconst (q := 96) hm170 ⟨⟨_, _, rfl⟩, rfl⟩ iconst_0 ?_
  refine w_bipush (q := 98) hm170 ⟨⟨_, _, rfl⟩, rfl⟩ bipush_10 ?_
  refine w_copy (q := 101) (N := 10) (D := 0) (S := 0) hm170 ⟨⟨_, _, rfl⟩, rfl⟩ rfl rfl rfl rfl rfl (by decide) (by decide) (by decide) (by decide) ?_
  refine w_aload_n (q := 102) hm170 ⟨⟨_, _, rfl⟩, rfl⟩ rfl ?_
  refine w_getr (q := 105) hm170 ⟨⟨_, _, rfl⟩, rfl⟩ rfl ?_
  refine w_iconst (q := 106) hm170 ⟨⟨_, _, rfl⟩, rfl⟩ iconst_0 ?_
  refine w_aload_n (q := 107) hm170 ⟨⟨_, _, rfl⟩, rfl⟩ rfl ?_
  refine w_getr (q := 110) hm170 ⟨⟨_, _, rfl⟩, rfl⟩ rfl ?_
  refine w_iconst (q := 111) hm170 ⟨⟨_, _, rfl⟩, rfl⟩ iconst_0 ?_
  refine w_bipush (q := 113) hm170 ⟨⟨_, _, rfl⟩, rfl⟩ bipush_10 ?_
  refine w_copy (q := 116) (N := 10) (D := 0) (S := 0) hm170 ⟨⟨_, _, rfl⟩, rfl⟩ rfl rfl rfl rfl rfl (by decide) (by decide) (by decide) (by decide) ?_
  refine w_aload_n (q := 117) hm170 ⟨⟨_, _, rfl⟩, rfl⟩ rfl ?_
  refine w_getr (q := 120) hm170 ⟨⟨_, _, rfl⟩, rfl⟩ rfl ?_
  refine w_iconst (q := 121) hm170 ⟨⟨_, _, rfl⟩, rfl⟩ iconst_0 ?_
  refine w_aload_n (q := 122) hm170 ⟨⟨_, _, rfl⟩, rfl⟩ rfl ?_
  refine w_getr (q := 125) hm170 ⟨⟨_, _, rfl⟩, rfl⟩ rfl ?_
  refine w_iconst (q := 126) hm170 ⟨⟨_, _, rfl⟩, rfl⟩ iconst_0 ?_
  refine w_bipush (q := 128) hm170 ⟨⟨_, _, rfl⟩, rfl⟩ bipush_8 ?_
  refine w_copy (q := 131) (N := 8) (D := 0) (S := 0) hm170 ⟨⟨_, _, rfl⟩, rfl⟩ rfl rfl rfl rfl rfl (by decide) (by decide) (by decide) (by decide) ?_
  refine w_aload_n (q := 132) hm170 ⟨⟨_, _, rfl⟩, rfl⟩ rfl ?_
  refine w_getr (q := 135) hm170 ⟨⟨_, _, rfl⟩, rfl⟩ rfl ?_
  refine w_iconst (q := 136) hm170 ⟨⟨_, _, rfl⟩, rfl⟩ iconst_0 ?_
  refine w_aload_n (q := 137) hm170 ⟨⟨_, _, rfl⟩, rfl⟩ rfl ?_
  refine w_getr (q := 140) hm170 ⟨⟨_, _, rfl⟩, rfl⟩ rfl ?_
  refine w_iconst (q := 141) hm170 ⟨⟨_, _, rfl⟩, rfl⟩ iconst_0 ?_
  refine w_bipush (q := 143) hm170 ⟨⟨_, _, rfl⟩, rfl⟩ bipush_8 ?_
  refine w_copy (q := 146) (N := 8) (D := 0) (S := 0) hm170 ⟨⟨_, _, rfl⟩, rfl⟩ rfl rfl rfl rfl rfl (by decide) (by decide) (by decide) (by decide) ?_
  refine w_aload_n (q := 147) hm170 ⟨⟨_, _, rfl⟩, rfl⟩ rfl ?_
  refine w_getr (q := 150) hm170 ⟨⟨_, _, rfl⟩, rfl⟩ rfl ?_
  refine w_iconst (q := 151) hm170 ⟨⟨_, _, rfl⟩, rfl⟩ iconst_0 ?_
  refine w_aload_n (q := 152) hm170 ⟨⟨_, _, rfl⟩, rfl⟩ rfl ?_
  refine w_getr (q := 155) hm170 ⟨⟨_, _, rfl⟩, rfl⟩ rfl ?_
  refine w_iconst (q := 156) hm170 ⟨⟨_, _, rfl⟩, rfl⟩ iconst_0 ?_
  refine w_bipush (q := 158) hm170 ⟨⟨_, _, rfl⟩, rfl⟩ bipush_8 ?_
  refine w_copy (q := 161) (N := 8) (D := 0) (S := 0) hm170 ⟨⟨_, _, rfl⟩, rfl⟩ rfl rfl rfl rfl rfl (by decide) (by decide) (by decide) (by decide) ?_
  refine w_aload_n (q := 162) hm170 ⟨⟨_, _, rfl⟩, rfl⟩ rfl ?_
  refine w_getr (q := 165) hm170 ⟨⟨_, _, rfl⟩, rfl⟩ rfl ?_
  refine w_iconst (q := 166) hm170 ⟨⟨_, _, rfl⟩, rfl⟩ iconst_0 ?_
  refine w_aload_n (q := 167) hm170 ⟨⟨_, _, rfl⟩, rfl⟩ rfl ?_
  refine w_getr (q := 170) hm170 ⟨⟨_, _, rfl⟩, rfl⟩ rfl ?_
  refine w_iconst (q := 171) hm170 ⟨⟨_, _, rfl⟩, rfl⟩ iconst_0 ?_
  refine w_bipush (q := 173) hm170 ⟨⟨_, _, rfl⟩, rfl⟩ bipush_8 ?_
  refine w_copy (q := 176) (N := 8) (D := 0) (S := 0) hm170 ⟨⟨_, _, rfl⟩, rfl⟩ rfl rfl rfl rfl rfl (by decide) (by decide) (by decide) (by decide) ?_
  refine w_aload_n (q := 177) hm170 ⟨⟨_, _, rfl⟩, rfl⟩ rfl ?_
  refine w_getr (q := 180) hm170 ⟨⟨_, _, rfl⟩, rfl⟩ rfl ?_
  refine w_aload_n (q := 181) hm170 ⟨⟨_, _, rfl⟩, rfl⟩ rfl ?_
  refine w_getr (q := 184) hm170 ⟨⟨_, _, rfl⟩, rfl⟩ rfl ?_
  refine w_call (q := 187) (n := 1) (vs := [.inr (.inr (some 11)), .inr (.inr (some 29))]) (rest := []) (la := [oR 11, oR 29, none]) hm170 ⟨⟨_, _, rfl⟩, rfl⟩ rfl rfl rfl rfl hm177 rfl rfl (fun _ => ⟨_, _, rfl, rfl⟩) rfl (Wp.mono h ?_)
  rintro _ m1 ⟨rfl, h⟩
  change Wp _ _ 187 _ [] _ _
  exact w_retv hm170 ⟨⟨_, _, rfl⟩, rfl⟩ rfl h
theorem v_X10_houseIsNew_57 {d : Nat} {m : dM} {Q : dM → Prop} (h : Q (dSet m 57 1 (-1 : Int32))) : c_X10_houseIsNew_57 (d + 1) m Q := by
  refine w_aload_n (q := 1) hm238 ⟨⟨_, _, rfl⟩, rfl⟩ rfl ?_
  refine w_iconst (q := 2) hm238 ⟨⟨_, _, rfl⟩, rfl⟩ iconst_m1 ?_
  refine w_putf (q := 5) hm238 ⟨⟨_, _, rfl⟩, rfl⟩ rfl rfl rfl ?_
  exact w_retv hm238 ⟨⟨_, _, rfl⟩, rfl⟩ rfl h
theorem v_X0_houseIsNew_54 {d : Nat} {m : dM} {Q : dM → Prop} (h : c_X10_houseIsNew_57 d m (fun m1 => Q m1)) : c_X0_houseIsNew_54 (d + 1) m Q := by
  refine w_aload_n (q := 1) hm115 ⟨⟨_, _, rfl⟩, rfl⟩ rfl ?_
  refine w_getr (q := 4) hm115 ⟨⟨_, _, rfl⟩, rfl⟩ rfl ?_
  refine w_call (q := 7) (n := 0) (vs := [.inr (.inr (some 57))]) (rest := []) (la := [oR 57]) hm115 ⟨⟨_, _, rfl⟩, rfl⟩ rfl rfl rfl rfl hm238 rfl rfl (fun _ => ⟨_, _, rfl, rfl⟩) rfl (Wp.mono h ?_)
  rintro _ m1 ⟨rfl, h⟩
  change Wp _ _ 7 _ [] _ _
  exact w_retv hm115 ⟨⟨_, _, rfl⟩, rfl⟩ rfl h
theorem v_J7_fill_49 {d : Nat} {x1 : Int32} {m : dM} {Q : dM → Prop} (h : j_J7_fill_49_5 (d + 1) x1 (0 : Int32) (10 : Int32) m Q) : c_J7_fill_49 (d + 1) x1 m Q := by
  refine w_iconst (q := 1) hm286 ⟨⟨_, _, rfl⟩, rfl⟩ iconst_0 ?_
  refine w_istore_n (q := 2) (l' := [oR 49, oI x1, oI (0 : Int32), none]) hm286 ⟨⟨_, _, rfl⟩, rfl⟩ rfl rfl rfl ?_
  refine w_aload_n (q := 3) hm286 ⟨⟨_, _, rfl⟩, rfl⟩ rfl ?_
  refine w_alen (q := 4) hm286 ⟨⟨_, _, rfl⟩, rfl⟩ rfl alen_10 ?_
  refine w_istore_n (q := 5) (l' := [oR 49, oI x1, oI (0 : Int32), oI (10 : Int32)]) hm286 ⟨⟨_, _, rfl⟩, rfl⟩ rfl rfl rfl ?_
  exact h
theorem v_J7_fill_49_5 {d : Nat} {x1 : Int32} {x2 : Int32} {x3 : Int32} {m : dM} {Q : dM → Prop} (h : ((x3.toInt ≤ x2.toInt → Q m) ∧ (x2.toInt < x3.toInt → ((0 ≤ x2.toInt ∧ x2.toInt < 10) ∧ j_J7_fill_49_5 (d + 1) x1 (x2 + (1 : Int32)) x3 (dSet m 49 x2.toNatClampNeg x1) Q)))) : j_J7_fill_49_5 (d + 1) x1 x2 x3 m Q := by
  refine w_iload_n (q := 6) hm286 ⟨⟨_, _, rfl⟩, rfl⟩ rfl ?_
  refine w_iload_n (q := 7) hm286 ⟨⟨_, _, rfl⟩, rfl⟩ rfl ?_
  refine w_icmp_ge (q := 10) (X := x2.toInt) (Y := x3.toInt) hm286 ⟨⟨_, _, rfl⟩, rfl⟩ rfl rfl (fun hc => ?_) (fun hc => ?_)
  · have h := h.1 hc
    exact w_retv hm286 ⟨⟨_, _, rfl⟩, rfl⟩ rfl h
  · have h := h.2 hc
    refine w_aload_n (q := 11) hm286 ⟨⟨_, _, rfl⟩, rfl⟩ rfl ?_
    refine w_iload_n (q := 12) hm286 ⟨⟨_, _, rfl⟩, rfl⟩ rfl ?_
    refine w_iload_n (q := 13) hm286 ⟨⟨_, _, rfl⟩, rfl⟩ rfl ?_
    obtain ⟨hi, h⟩ := h
    refine w_iast (q := 14) hm286 ⟨⟨_, _, rfl⟩, rfl⟩ rfl hi rfl rfl ?_
    refine w_iinc (q := 17) (l' := [oR 49, oI x1, oI (x2 + (1 : Int32)), oI x3]) hm286 ⟨⟨_, _, rfl⟩, rfl⟩ rfl rfl rfl iconst_1 rfl ?_
    refine w_goto (q := 5) hm286 ⟨_, _, rfl⟩ ?_
    exact h
theorem v_J7_fill_50 {d : Nat} {x1 : Int32} {m : dM} {Q : dM → Prop} (h : j_J7_fill_50_5 (d + 1) x1 (0 : Int32) (7 : Int32) m Q) : c_J7_fill_50 (d + 1) x1 m Q := by
  refine w_iconst (q := 1) hm286 ⟨⟨_, _, rfl⟩, rfl⟩ iconst_0 ?_
  refine w_istore_n (q := 2) (l' := [oR 50, oI x1, oI (0 : Int32), none]) hm286 ⟨⟨_, _, rfl⟩, rfl⟩ rfl rfl rfl ?_
  refine w_aload_n (q := 3) hm286 ⟨⟨_, _, rfl⟩, rfl⟩ rfl ?_
  refine w_alen (q := 4) hm286 ⟨⟨_, _, rfl⟩, rfl⟩ rfl alen_7 ?_
  refine w_istore_n (q := 5) (l' := [oR 50, oI x1, oI (0 : Int32), oI (7 : Int32)]) hm286 ⟨⟨_, _, rfl⟩, rfl⟩ rfl rfl rfl ?_
  exact h
theorem v_J7_fill_50_5 {d : Nat} {x1 : Int32} {x2 : Int32} {x3 : Int32} {m : dM} {Q : dM → Prop} (h : ((x3.toInt ≤ x2.toInt → Q m) ∧ (x2.toInt < x3.toInt → ((0 ≤ x2.toInt ∧ x2.toInt < 7) ∧ j_J7_fill_50_5 (d + 1) x1 (x2 + (1 : Int32)) x3 (dSet m 50 x2.toNatClampNeg x1) Q)))) : j_J7_fill_50_5 (d + 1) x1 x2 x3 m Q := by
  refine w_iload_n (q := 6) hm286 ⟨⟨_, _, rfl⟩, rfl⟩ rfl ?_
  refine w_iload_n (q := 7) hm286 ⟨⟨_, _, rfl⟩, rfl⟩ rfl ?_
  refine w_icmp_ge (q := 10) (X := x2.toInt) (Y := x3.toInt) hm286 ⟨⟨_, _, rfl⟩, rfl⟩ rfl rfl (fun hc => ?_) (fun hc => ?_)
  · have h := h.1 hc
    exact w_retv hm286 ⟨⟨_, _, rfl⟩, rfl⟩ rfl h
  · have h := h.2 hc
    refine w_aload_n (q := 11) hm286 ⟨⟨_, _, rfl⟩, rfl⟩ rfl ?_
    refine w_iload_n (q := 12) hm286 ⟨⟨_, _, rfl⟩, rfl⟩ rfl ?_
    refine w_iload_n (q := 13) hm286 ⟨⟨_, _, rfl⟩, rfl⟩ rfl ?_
    obtain ⟨hi, h⟩ := h
    refine w_iast (q := 14) hm286 ⟨⟨_, _, rfl⟩, rfl⟩ rfl hi rfl rfl ?_
    refine w_iinc (q := 17) (l' := [oR 50, oI x1, oI (x2 + (1 : Int32)), oI x3]) hm286 ⟨⟨_, _, rfl⟩, rfl⟩ rfl rfl rfl iconst_1 rfl ?_
    refine w_goto (q := 5) hm286 ⟨_, _, rfl⟩ ?_
    exact h
theorem v_X7_begin_47_2 {d : Nat} {m : dM} {Q : dM → Prop} (h : c_J7_fill_49 d (0 : Int32) (dCpy (dSet (dSet (dSet (dSet (dSet (dSet m 47 0 (0 : Int32)) 47 1 (m.1 2 5)) 47 2 (0 : Int32)) 47 3 (0 : Int32)) 47 4 (0 : Int32)) 47 5 (((1 : Int32) <<< ((m.1 2 2) &&& 31)) - (1 : Int32))) 6 (0 : Int).toNat 48 (0 : Int).toNat (10 : Int).toNat) (fun m1 => c_J7_fill_50 d (0 : Int32) m1 (fun m2 => Q m2))) : c_X7_begin_47_2 (d + 1) m Q := by
  refine w_aload_n (q := 1) hm208 ⟨⟨_, _, rfl⟩, rfl⟩ rfl ?_
  refine w_iconst (q := 2) hm208 ⟨⟨_, _, rfl⟩, rfl⟩ iconst_0 ?_
  refine w_putf (q := 5) hm208 ⟨⟨_, _, rfl⟩, rfl⟩ rfl rfl rfl ?_
  refine w_aload_n (q := 6) hm208 ⟨⟨_, _, rfl⟩, rfl⟩ rfl ?_
  refine w_aload_n (q := 7) hm208 ⟨⟨_, _, rfl⟩, rfl⟩ rfl ?_
  refine w_getf (q := 10) (v := (m.1 2 5)) hm208 ⟨⟨_, _, rfl⟩, rfl⟩ rfl rfl ?_
  refine w_putf (q := 13) hm208 ⟨⟨_, _, rfl⟩, rfl⟩ rfl rfl rfl ?_
  refine w_aload_n (q := 14) hm208 ⟨⟨_, _, rfl⟩, rfl⟩ rfl ?_
  refine w_iconst (q := 15) hm208 ⟨⟨_, _, rfl⟩, rfl⟩ iconst_0 ?_
  refine w_putf (q := 18) hm208 ⟨⟨_, _, rfl⟩, rfl⟩ rfl rfl rfl ?_
  refine w_aload_n (q := 19) hm208 ⟨⟨_, _, rfl⟩, rfl⟩ rfl ?_
  refine w_iconst (q := 20) hm208 ⟨⟨_, _, rfl⟩, rfl⟩ iconst_0 ?_
  refine w_putf (q := 23) hm208 ⟨⟨_, _, rfl⟩, rfl⟩ rfl rfl rfl ?_
  refine w_aload_n (q := 24) hm208 ⟨⟨_, _, rfl⟩, rfl⟩ rfl ?_
  refine w_iconst (q := 25) hm208 ⟨⟨_, _, rfl⟩, rfl⟩ iconst_0 ?_
  refine w_putf (q := 28) hm208 ⟨⟨_, _, rfl⟩, rfl⟩ rfl rfl rfl ?_
  refine w_aload_n (q := 29) hm208 ⟨⟨_, _, rfl⟩, rfl⟩ rfl ?_
  refine w_iconst (q := 30) hm208 ⟨⟨_, _, rfl⟩, rfl⟩ iconst_1 ?_
  refine w_aload_n (q := 31) hm208 ⟨⟨_, _, rfl⟩, rfl⟩ rfl ?_
  refine w_getf (q := 34) (v := (m.1 2 2)) hm208 ⟨⟨_, _, rfl⟩, rfl⟩ rfl rfl ?_
  refine w_ishl (q := 35) hm208 ⟨⟨_, _, rfl⟩, rfl⟩ ?_
  refine w_iconst (q := 36) hm208 ⟨⟨_, _, rfl⟩, rfl⟩ iconst_1 ?_
  refine w_isub (q := 37) hm208 ⟨⟨_, _, rfl⟩, rfl⟩ ?_
  refine w_putf (q := 40) hm208 ⟨⟨_, _, rfl⟩, rfl⟩ rfl rfl rfl ?_
  refine w_aload_n (q := 41) hm208 ⟨⟨_, _, rfl⟩, rfl⟩ rfl ?_
  refine w_getr (q := 44) hm208 ⟨⟨_, _, rfl⟩, rfl⟩ rfl ?_
  refine w_iconst (q := 45) hm208 ⟨⟨_, _, rfl⟩, rfl⟩ iconst_0 ?_
  refine w_aload_n (q := 46) hm208 ⟨⟨_, _, rfl⟩, rfl⟩ rfl ?_
  refine w_getr (q := 49) hm208 ⟨⟨_, _, rfl⟩, rfl⟩ rfl ?_
  refine w_iconst (q := 50) hm208 ⟨⟨_, _, rfl⟩, rfl⟩ iconst_0 ?_
  refine w_bipush (q := 52) hm208 ⟨⟨_, _, rfl⟩, rfl⟩ bipush_10 ?_
  refine w_copy (q := 55) (N := 10) (D := 0) (S := 0) hm208 ⟨⟨_, _, rfl⟩, rfl⟩ rfl rfl rfl rfl rfl (by decide) (by decide) (by decide) (by decide) ?_
  refine w_aload_n (q := 56) hm208 ⟨⟨_, _, rfl⟩, rfl⟩ rfl ?_
  refine w_getr (q := 59) hm208 ⟨⟨_, _, rfl⟩, rfl⟩ rfl ?_
  refine w_iconst (q := 60) hm208 ⟨⟨_, _, rfl⟩, rfl⟩ iconst_0 ?_
  refine w_call (q := 63) (n := 2) (vs := [.inr (.inr (some 49)), .inl (0 : Int32)]) (rest := []) (la := [oR 49, oI (0 : Int32), none, none]) hm208 ⟨⟨_, _, rfl⟩, rfl⟩ rfl rfl rfl rfl hm286 rfl rfl (fun hz => absurd hz (by decide)) rfl (Wp.mono h ?_)
  rintro _ m1 ⟨rfl, h⟩
  change Wp _ _ 63 _ [] _ _
  refine w_aload_n (q := 64) hm208 ⟨⟨_, _, rfl⟩, rfl⟩ rfl ?_
  refine w_getr (q := 67) hm208 ⟨⟨_, _, rfl⟩, rfl⟩ rfl ?_
  refine w_iconst (q := 68) hm208 ⟨⟨_, _, rfl⟩, rfl⟩ iconst_0 ?_
  refine w_call (q := 71) (n := 2) (vs := [.inr (.inr (some 50)), .inl (0 : Int32)]) (rest := []) (la := [oR 50, oI (0 : Int32), none, none]) hm208 ⟨⟨_, _, rfl⟩, rfl⟩ rfl rfl rfl rfl hm286 rfl rfl (fun hz => absurd hz (by decide)) rfl (Wp.mono h ?_)
  rintro _ m2 ⟨rfl, h⟩
  change Wp _ _ 71 _ [] _ _
  exact w_retv hm208 ⟨⟨_, _, rfl⟩, rfl⟩ rfl h
theorem v_X6_clear_51 {d : Nat} {m : dM} {Q : dM → Prop} (h : Q (dSet (dSet m 51 2 (0 : Int32)) 51 3 (0 : Int32))) : c_X6_clear_51 (d + 1) m Q := by
  refine w_aload_n (q := 1) hm201 ⟨⟨_, _, rfl⟩, rfl⟩ rfl ?_
  refine w_iconst (q := 2) hm201 ⟨⟨_, _, rfl⟩, rfl⟩ iconst_0 ?_
  refine w_putf (q := 5) hm201 ⟨⟨_, _, rfl⟩, rfl⟩ rfl rfl rfl ?_
  refine w_aload_n (q := 6) hm201 ⟨⟨_, _, rfl⟩, rfl⟩ rfl ?_
  refine w_iconst (q := 7) hm201 ⟨⟨_, _, rfl⟩, rfl⟩ iconst_0 ?_
  refine w_putf (q := 10) hm201 ⟨⟨_, _, rfl⟩, rfl⟩ rfl rfl rfl ?_
  exact w_retv hm201 ⟨⟨_, _, rfl⟩, rfl⟩ rfl h
theorem v_X6_clearSlots_51 {d : Nat} {m : dM} {Q : dM → Prop} (h : Q (dSet m 51 4 (0 : Int32))) : c_X6_clearSlots_51 (d + 1) m Q := by
  refine w_aload_n (q := 1) hm202 ⟨⟨_, _, rfl⟩, rfl⟩ rfl ?_
  refine w_iconst (q := 2) hm202 ⟨⟨_, _, rfl⟩, rfl⟩ iconst_0 ?_
  refine w_putf (q := 5) hm202 ⟨⟨_, _, rfl⟩, rfl⟩ rfl rfl rfl ?_
  exact w_retv hm202 ⟨⟨_, _, rfl⟩, rfl⟩ rfl h
theorem v_X9_clear_67 {d : Nat} {m : dM} {Q : dM → Prop} (h : Q (dSet m 67 3 (0 : Int32))) : c_X9_clear_67 (d + 1) m Q := by
  refine w_aload_n (q := 1) hm231 ⟨⟨_, _, rfl⟩, rfl⟩ rfl ?_
  refine w_iconst (q := 2) hm231 ⟨⟨_, _, rfl⟩, rfl⟩ iconst_0 ?_
  refine w_putf (q := 5) hm231 ⟨⟨_, _, rfl⟩, rfl⟩ rfl rfl rfl ?_
  exact w_retv hm231 ⟨⟨_, _, rfl⟩, rfl⟩ rfl h
theorem v_X11_read_0 {d : Nat} {m : dM} {Q : Int32 → dM → Prop} (h : c_X8_scan_38_1 d (m.1 0 1) m (fun m1 => c_X3_clear_20 d (dSet m1 0 1 (0 : Int32)) (fun m2 => c_X2_check_43 d m2 (fun r3 m3 => c_X2_faultAt_43 d m3 (fun r4 m4 => ((r3.toInt ≠ 0 → j_X11_read_0_69 (d + 1) r3 (dSet m4 0 2 r4) Q) ∧ (r3.toInt = 0 → c_X5_check_44 d (dSet m4 0 2 r4) (fun r5 m5 => c_X5_faultAt_44 d m5 (fun r6 m6 => j_X11_read_0_69 (d + 1) r5 (dSet m6 0 2 r6) Q))))))))) : c_X11_read_0 (d + 1) m Q := by
  refine w_aload_n (q := 1) hm246 ⟨⟨_, _, rfl⟩, rfl⟩ rfl ?_
  refine w_getr (q := 4) hm246 ⟨⟨_, _, rfl⟩, rfl⟩ rfl ?_
  refine w_aload_n (q := 5) hm246 ⟨⟨_, _, rfl⟩, rfl⟩ rfl ?_
  refine w_getr (q := 8) hm246 ⟨⟨_, _, rfl⟩, rfl⟩ rfl ?_
  refine w_aload_n (q := 9) hm246 ⟨⟨_, _, rfl⟩, rfl⟩ rfl ?_
  refine w_getf (q := 12) (v := (m.1 0 1)) hm246 ⟨⟨_, _, rfl⟩, rfl⟩ rfl rfl ?_
  refine w_call (q := 15) (n := 2) (vs := [.inr (.inr (some 38)), .inr (.inr (some 1)), .inl (m.1 0 1)]) (rest := []) (la := [oR 38, oR 1, oI (m.1 0 1), none, none]) hm246 ⟨⟨_, _, rfl⟩, rfl⟩ rfl rfl rfl rfl hm215 rfl rfl (fun _ => ⟨_, _, rfl, rfl⟩) rfl (Wp.mono h ?_)
  rintro _ m1 ⟨rfl, h⟩
  change Wp _ _ 15 _ [] _ _
  refine w_aload_n (q := 16) hm246 ⟨⟨_, _, rfl⟩, rfl⟩ rfl ?_
  refine w_iconst (q := 17) hm246 ⟨⟨_, _, rfl⟩, rfl⟩ iconst_0 ?_
  refine w_putf (q := 20) hm246 ⟨⟨_, _, rfl⟩, rfl⟩ rfl rfl rfl ?_
  refine w_aload_n (q := 21) hm246 ⟨⟨_, _, rfl⟩, rfl⟩ rfl ?_
  refine w_getr (q := 24) hm246 ⟨⟨_, _, rfl⟩, rfl⟩ rfl ?_
  refine w_call (q := 27) (n := 0) (vs := [.inr (.inr (some 20))]) (rest := []) (la := [oR 20]) hm246 ⟨⟨_, _, rfl⟩, rfl⟩ rfl rfl rfl rfl hm169 rfl rfl (fun _ => ⟨_, _, rfl, rfl⟩) rfl (Wp.mono h ?_)
  rintro _ m2 ⟨rfl, h⟩
  change Wp _ _ 27 _ [] _ _
  refine w_aload_n (q := 28) hm246 ⟨⟨_, _, rfl⟩, rfl⟩ rfl ?_
  refine w_getr (q := 31) hm246 ⟨⟨_, _, rfl⟩, rfl⟩ rfl ?_
  refine w_call (q := 34) (n := 1) (vs := [.inr (.inr (some 43))]) (rest := []) (la := [oR 43, none]) hm246 ⟨⟨_, _, rfl⟩, rfl⟩ rfl rfl rfl rfl hm154 rfl rfl (fun _ => ⟨_, _, rfl, rfl⟩) rfl (Wp.mono h ?_)
  rintro _ m3 ⟨r3, rfl, h⟩
  change Wp _ _ 34 _ [.inl r3] _ _
  refine w_istore_n (q := 35) (l' := [oR 0, oI r3]) hm246 ⟨⟨_, _, rfl⟩, rfl⟩ rfl rfl rfl ?_
  refine w_aload_n (q := 36) hm246 ⟨⟨_, _, rfl⟩, rfl⟩ rfl ?_
  refine w_aload_n (q := 37) hm246 ⟨⟨_, _, rfl⟩, rfl⟩ rfl ?_
  refine w_getr (q := 40) hm246 ⟨⟨_, _, rfl⟩, rfl⟩ rfl ?_
  refine w_call (q := 43) (n := 0) (vs := [.inr (.inr (some 43))]) (rest := [.inr (.inr (some 0))]) (la := [oR 43]) hm246 ⟨⟨_, _, rfl⟩, rfl⟩ rfl rfl rfl rfl hm156 rfl rfl (fun _ => ⟨_, _, rfl, rfl⟩) rfl (Wp.mono h ?_)
  rintro _ m4 ⟨r4, rfl, h⟩
  change Wp _ _ 43 _ [.inl r4, .inr (.inr (some 0))] _ _
  refine w_putf (q := 46) hm246 ⟨⟨_, _, rfl⟩, rfl⟩ rfl rfl rfl ?_
  refine w_iload_n (q := 47) hm246 ⟨⟨_, _, rfl⟩, rfl⟩ rfl ?_
  refine w_if_ne (q := 50) (X := r3.toInt) hm246 ⟨⟨_, _, rfl⟩, rfl⟩ rfl (fun hc => ?_) (fun hc => ?_)
  · have h := h.1 hc
    exact h
  · have h := h.2 hc
    refine w_aload_n (q := 51) hm246 ⟨⟨_, _, rfl⟩, rfl⟩ rfl ?_
    refine w_getr (q := 54) hm246 ⟨⟨_, _, rfl⟩, rfl⟩ rfl ?_
    refine w_call (q := 57) (n := 2) (vs := [.inr (.inr (some 44))]) (rest := []) (la := [oR 44, none, none]) hm246 ⟨⟨_, _, rfl⟩, rfl⟩ rfl rfl rfl rfl hm185 rfl rfl (fun _ => ⟨_, _, rfl, rfl⟩) rfl (Wp.mono h ?_)
    rintro _ m5 ⟨r5, rfl, h⟩
    change Wp _ _ 57 _ [.inl r5] _ _
    refine w_istore_n (q := 58) (l' := [oR 0, oI r5]) hm246 ⟨⟨_, _, rfl⟩, rfl⟩ rfl rfl rfl ?_
    refine w_aload_n (q := 59) hm246 ⟨⟨_, _, rfl⟩, rfl⟩ rfl ?_
    refine w_aload_n (q := 60) hm246 ⟨⟨_, _, rfl⟩, rfl⟩ rfl ?_
    refine w_getr (q := 63) hm246 ⟨⟨_, _, rfl⟩, rfl⟩ rfl ?_
    refine w_call (q := 66) (n := 0) (vs := [.inr (.inr (some 44))]) (rest := [.inr (.inr (some 0))]) (la := [oR 44]) hm246 ⟨⟨_, _, rfl⟩, rfl⟩ rfl rfl rfl rfl hm186 rfl rfl (fun _ => ⟨_, _, rfl, rfl⟩) rfl (Wp.mono h ?_)
    rintro _ m6 ⟨r6, rfl, h⟩
    change Wp _ _ 66 _ [.inl r6, .inr (.inr (some 0))] _ _
    refine w_putf (q := 69) hm246 ⟨⟨_, _, rfl⟩, rfl⟩ rfl rfl rfl ?_
    exact h
theorem v_X11_read_0_69 {d : Nat} {x1 : Int32} {m : dM} {Q : Int32 → dM → Prop} (h : ((x1.toInt ≠ 0 → j_X11_read_0_123 (d + 1) x1 m Q) ∧ (x1.toInt = 0 → c_X3_copy_2_20 d m (fun m1 => c_X0_houseIsNew_54 d m1 (fun m2 => c_X7_begin_47_2 d m2 (fun m3 => c_X6_clear_51 d m3 (fun m4 => c_X6_clearSlots_51 d m4 (fun m5 => c_X9_clear_67 d m5 (fun m6 => j_X11_read_0_123 (d + 1) x1 m6 Q))))))))) : j_X11_read_0_69 (d + 1) x1 m Q := by
  refine w_iload_n (q := 70) hm246 ⟨⟨_, _, rfl⟩, rfl⟩ rfl ?_
  refine w_if_ne (q := 73) (X := x1.toInt) hm246 ⟨⟨_, _, rfl⟩, rfl⟩ rfl (fun hc => ?_) (fun hc => ?_)
  · have h := h.1 hc
    exact Wp.wk [false, true] h
  · have h := h.2 hc
    refine w_aload_n (q := 74) hm246 ⟨⟨_, _, rfl⟩, rfl⟩ rfl ?_
    refine w_getr (q := 77) hm246 ⟨⟨_, _, rfl⟩, rfl⟩ rfl ?_
    refine w_aload_n (q := 78) hm246 ⟨⟨_, _, rfl⟩, rfl⟩ rfl ?_
    refine w_getr (q := 81) hm246 ⟨⟨_, _, rfl⟩, rfl⟩ rfl ?_
    refine w_call (q := 84) (n := 0) (vs := [.inr (.inr (some 2)), .inr (.inr (some 20))]) (rest := []) (la := [oR 2, oR 20]) hm246 ⟨⟨_, _, rfl⟩, rfl⟩ rfl rfl rfl rfl hm170 rfl rfl (fun _ => ⟨_, _, rfl, rfl⟩) rfl (Wp.mono h ?_)
    rintro _ m1 ⟨rfl, h⟩
    change Wp _ _ 84 _ [] _ _
    refine w_aload_n (q := 85) hm246 ⟨⟨_, _, rfl⟩, rfl⟩ rfl ?_
    refine w_getr (q := 88) hm246 ⟨⟨_, _, rfl⟩, rfl⟩ rfl ?_
    refine w_call (q := 91) (n := 0) (vs := [.inr (.inr (some 54))]) (rest := []) (la := [oR 54]) hm246 ⟨⟨_, _, rfl⟩, rfl⟩ rfl rfl rfl rfl hm115 rfl rfl (fun _ => ⟨_, _, rfl, rfl⟩) rfl (Wp.mono h ?_)
    rintro _ m2 ⟨rfl, h⟩
    change Wp _ _ 91 _ [] _ _
    refine w_aload_n (q := 92) hm246 ⟨⟨_, _, rfl⟩, rfl⟩ rfl ?_
    refine w_getr (q := 95) hm246 ⟨⟨_, _, rfl⟩, rfl⟩ rfl ?_
    refine w_aload_n (q := 96) hm246 ⟨⟨_, _, rfl⟩, rfl⟩ rfl ?_
    refine w_getr (q := 99) hm246 ⟨⟨_, _, rfl⟩, rfl⟩ rfl ?_
    refine w_call (q := 102) (n := 0) (vs := [.inr (.inr (some 47)), .inr (.inr (some 2))]) (rest := []) (la := [oR 47, oR 2]) hm246 ⟨⟨_, _, rfl⟩, rfl⟩ rfl rfl rfl rfl hm208 rfl rfl (fun _ => ⟨_, _, rfl, rfl⟩) rfl (Wp.mono h ?_)
    rintro _ m3 ⟨rfl, h⟩
    change Wp _ _ 102 _ [] _ _
    refine w_aload_n (q := 103) hm246 ⟨⟨_, _, rfl⟩, rfl⟩ rfl ?_
    refine w_getr (q := 106) hm246 ⟨⟨_, _, rfl⟩, rfl⟩ rfl ?_
    refine w_call (q := 109) (n := 0) (vs := [.inr (.inr (some 51))]) (rest := []) (la := [oR 51]) hm246 ⟨⟨_, _, rfl⟩, rfl⟩ rfl rfl rfl rfl hm201 rfl rfl (fun _ => ⟨_, _, rfl, rfl⟩) rfl (Wp.mono h ?_)
    rintro _ m4 ⟨rfl, h⟩
    change Wp _ _ 109 _ [] _ _
    refine w_aload_n (q := 110) hm246 ⟨⟨_, _, rfl⟩, rfl⟩ rfl ?_
    refine w_getr (q := 113) hm246 ⟨⟨_, _, rfl⟩, rfl⟩ rfl ?_
    refine w_call (q := 116) (n := 0) (vs := [.inr (.inr (some 51))]) (rest := []) (la := [oR 51]) hm246 ⟨⟨_, _, rfl⟩, rfl⟩ rfl rfl rfl rfl hm202 rfl rfl (fun _ => ⟨_, _, rfl, rfl⟩) rfl (Wp.mono h ?_)
    rintro _ m5 ⟨rfl, h⟩
    change Wp _ _ 116 _ [] _ _
    refine w_aload_n (q := 117) hm246 ⟨⟨_, _, rfl⟩, rfl⟩ rfl ?_
    refine w_getr (q := 120) hm246 ⟨⟨_, _, rfl⟩, rfl⟩ rfl ?_
    refine w_call (q := 123) (n := 0) (vs := [.inr (.inr (some 67))]) (rest := []) (la := [oR 67]) hm246 ⟨⟨_, _, rfl⟩, rfl⟩ rfl rfl rfl rfl hm231 rfl rfl (fun _ => ⟨_, _, rfl, rfl⟩) rfl (Wp.mono h ?_)
    rintro _ m6 ⟨rfl, h⟩
    change Wp _ _ 123 _ [] _ _
    exact Wp.wk [false, true] h
theorem v_X11_read_0_123 {d : Nat} {x1 : Int32} {m : dM} {Q : Int32 → dM → Prop} (h : Q x1 m) : j_X11_read_0_123 (d + 1) x1 m Q := by
  refine w_iload_n (q := 124) hm246 ⟨⟨_, _, rfl⟩, rfl⟩ rfl ?_
  exact w_reti hm246 ⟨⟨_, _, rfl⟩, rfl⟩ rfl h
end
section
theorem v_X12_byteAt_70 {d : Nat} {x1 : Int32} {m : dM} {Q : Int32 → dM → Prop} (h : (((m.1 70 4).toInt ≤ x1.toInt → Q (0 : Int32) m) ∧ (x1.toInt < (m.1 70 4).toInt → ((0 ≤ x1.toInt ∧ x1.toInt < 2000) ∧ Q ((m.1 72 x1.toNatClampNeg) &&& (255 : Int32)) m)))) : c_X12_byteAt_70 (d + 1) x1 m Q := by
  refine w_iload_n (q := 1) hm4 ⟨⟨_, _, rfl⟩, rfl⟩ rfl ?_
  refine w_aload_n (q := 2) hm4 ⟨⟨_, _, rfl⟩, rfl⟩ rfl ?_
  refine w_getf (q := 5) (v := (m.1 70 4)) hm4 ⟨⟨_, _, rfl⟩, rfl⟩ rfl rfl ?_
  refine w_icmp_ge (q := 8) (X := x1.toInt) (Y := (m.1 70 4).toInt) hm4 ⟨⟨_, _, rfl⟩, rfl⟩ rfl rfl (fun hc => ?_) (fun hc => ?_)
  · have h := h.1 hc
    refine w_iconst (q := 22) hm4 ⟨⟨_, _, rfl⟩, rfl⟩ iconst_0 ?_
    exact w_reti hm4 ⟨⟨_, _, rfl⟩, rfl⟩ rfl h
  · have h := h.2 hc
    refine w_aload_n (q := 9) hm4 ⟨⟨_, _, rfl⟩, rfl⟩ rfl ?_
    refine w_getr (q := 12) hm4 ⟨⟨_, _, rfl⟩, rfl⟩ rfl ?_
    refine w_iload_n (q := 13) hm4 ⟨⟨_, _, rfl⟩, rfl⟩ rfl ?_
    obtain ⟨hi, h⟩ := h
    refine w_bald (q := 14) (v := (m.1 72 x1.toNatClampNeg)) hm4 ⟨⟨_, _, rfl⟩, rfl⟩ rfl hi rfl rfl ?_
    refine w_sipush (q := 17) hm4 ⟨⟨_, _, rfl⟩, rfl⟩ sipush_255 ?_
    refine w_iand (q := 18) hm4 ⟨⟨_, _, rfl⟩, rfl⟩ ?_
    refine w_goto (q := 22) hm4 ⟨_, _, rfl⟩ ?_
    exact w_reti hm4 ⟨⟨_, _, rfl⟩, rfl⟩ rfl h
theorem v_X12_isLetter {d : Nat} {x0 : Int32} {m : dM} {Q : Int32 → dM → Prop} (h : ((x0.toInt < 97 → j_X12_isLetter_16 (d + 1) m Q) ∧ (97 ≤ x0.toInt → ((122 < x0.toInt → j_X12_isLetter_16 (d + 1) m Q) ∧ (x0.toInt ≤ 122 → Q (1 : Int32) m))))) : c_X12_isLetter (d + 1) x0 m Q := by
  refine w_iload_n (q := 1) hm6 ⟨⟨_, _, rfl⟩, rfl⟩ rfl ?_
  refine w_bipush (q := 3) hm6 ⟨⟨_, _, rfl⟩, rfl⟩ bipush_97 ?_
  refine w_icmp_lt (q := 6) (X := x0.toInt) (Y := 97) hm6 ⟨⟨_, _, rfl⟩, rfl⟩ rfl (by decide) (fun hc => ?_) (fun hc => ?_)
  · have h := h.1 hc
    exact Wp.wk [false] h
  · have h := h.2 hc
    refine w_iload_n (q := 7) hm6 ⟨⟨_, _, rfl⟩, rfl⟩ rfl ?_
    refine w_bipush (q := 9) hm6 ⟨⟨_, _, rfl⟩, rfl⟩ bipush_122 ?_
    refine w_icmp_gt (q := 12) (X := x0.toInt) (Y := 122) hm6 ⟨⟨_, _, rfl⟩, rfl⟩ rfl (by decide) (fun hc => ?_) (fun hc => ?_)
    · have h := h.1 hc
      exact Wp.wk [false] h
    · have h := h.2 hc
      refine w_iconst (q := 13) hm6 ⟨⟨_, _, rfl⟩, rfl⟩ iconst_1 ?_
      refine w_goto (q := 17) hm6 ⟨_, _, rfl⟩ ?_
      exact w_retz hm6 ⟨⟨_, _, rfl⟩, rfl⟩ rfl (by decide) h
theorem v_X12_isLetter_16 {d : Nat} {m : dM} {Q : Int32 → dM → Prop} (h : Q (0 : Int32) m) : j_X12_isLetter_16 (d + 1) m Q := by
  refine w_iconst (q := 17) hm6 ⟨⟨_, _, rfl⟩, rfl⟩ iconst_0 ?_
  exact w_retz hm6 ⟨⟨_, _, rfl⟩, rfl⟩ rfl (by decide) h
theorem v_X12_isDigit {d : Nat} {x0 : Int32} {m : dM} {Q : Int32 → dM → Prop} (h : ((x0.toInt < 48 → j_X12_isDigit_16 (d + 1) m Q) ∧ (48 ≤ x0.toInt → ((57 < x0.toInt → j_X12_isDigit_16 (d + 1) m Q) ∧ (x0.toInt ≤ 57 → Q (1 : Int32) m))))) : c_X12_isDigit (d + 1) x0 m Q := by
  refine w_iload_n (q := 1) hm5 ⟨⟨_, _, rfl⟩, rfl⟩ rfl ?_
  refine w_bipush (q := 3) hm5 ⟨⟨_, _, rfl⟩, rfl⟩ bipush_48 ?_
  refine w_icmp_lt (q := 6) (X := x0.toInt) (Y := 48) hm5 ⟨⟨_, _, rfl⟩, rfl⟩ rfl (by decide) (fun hc => ?_) (fun hc => ?_)
  · have h := h.1 hc
    exact Wp.wk [false] h
  · have h := h.2 hc
    refine w_iload_n (q := 7) hm5 ⟨⟨_, _, rfl⟩, rfl⟩ rfl ?_
    refine w_bipush (q := 9) hm5 ⟨⟨_, _, rfl⟩, rfl⟩ bipush_57 ?_
    refine w_icmp_gt (q := 12) (X := x0.toInt) (Y := 57) hm5 ⟨⟨_, _, rfl⟩, rfl⟩ rfl (by decide) (fun hc => ?_) (fun hc => ?_)
    · have h := h.1 hc
      exact Wp.wk [false] h
    · have h := h.2 hc
      refine w_iconst (q := 13) hm5 ⟨⟨_, _, rfl⟩, rfl⟩ iconst_1 ?_
      refine w_goto (q := 17) hm5 ⟨_, _, rfl⟩ ?_
      exact w_retz hm5 ⟨⟨_, _, rfl⟩, rfl⟩ rfl (by decide) h
theorem v_X12_isDigit_16 {d : Nat} {m : dM} {Q : Int32 → dM → Prop} (h : Q (0 : Int32) m) : j_X12_isDigit_16 (d + 1) m Q := by
  refine w_iconst (q := 17) hm5 ⟨⟨_, _, rfl⟩, rfl⟩ iconst_0 ?_
  exact w_retz hm5 ⟨⟨_, _, rfl⟩, rfl⟩ rfl (by decide) h
theorem v_X12_token_70 {d : Nat} {x1 : Int32} {x2 : Int32} {x3 : Int32} {y4 : Int64} {m : dM} {Q : dM → Prop} (h : ((0 ≤ (m.1 70 10).toInt ∧ (m.1 70 10).toInt < 403) ∧ ((0 ≤ (m.1 70 10).toInt ∧ (m.1 70 10).toInt < 403) ∧ ((0 ≤ (m.1 70 10).toInt ∧ (m.1 70 10).toInt < 403) ∧ ((0 ≤ (m.1 70 10).toInt ∧ (m.1 70 10).toInt < 403) ∧ Q (dSet (dSetL (dSet (dSet (dSet m 73 (m.1 70 10).toNatClampNeg x1) 74 (m.1 70 10).toNatClampNeg x2) 75 (m.1 70 10).toNatClampNeg x3) 76 (m.1 70 10).toNatClampNeg y4) 70 10 ((m.1 70 10) + (1 : Int32)))))))) : c_X12_token_70 (d + 1) x1 x2 x3 y4 m Q := by
  refine w_aload_n (q := 1) hm9 ⟨⟨_, _, rfl⟩, rfl⟩ rfl ?_
  refine w_getr (q := 4) hm9 ⟨⟨_, _, rfl⟩, rfl⟩ rfl ?_
  refine w_aload_n (q := 5) hm9 ⟨⟨_, _, rfl⟩, rfl⟩ rfl ?_
  refine w_getf (q := 8) (v := (m.1 70 10)) hm9 ⟨⟨_, _, rfl⟩, rfl⟩ rfl rfl ?_
  refine w_iload_n (q := 9) hm9 ⟨⟨_, _, rfl⟩, rfl⟩ rfl ?_
  obtain ⟨hi, h⟩ := h
  refine w_iast (q := 10) hm9 ⟨⟨_, _, rfl⟩, rfl⟩ rfl hi rfl rfl ?_
  refine w_aload_n (q := 11) hm9 ⟨⟨_, _, rfl⟩, rfl⟩ rfl ?_
  refine w_getr (q := 14) hm9 ⟨⟨_, _, rfl⟩, rfl⟩ rfl ?_
  refine w_aload_n (q := 15) hm9 ⟨⟨_, _, rfl⟩, rfl⟩ rfl ?_
  refine w_getf (q := 18) (v := (m.1 70 10)) hm9 ⟨⟨_, _, rfl⟩, rfl⟩ rfl rfl ?_
  refine w_iload_n (q := 19) hm9 ⟨⟨_, _, rfl⟩, rfl⟩ rfl ?_
  obtain ⟨hi, h⟩ := h
  refine w_iast (q := 20) hm9 ⟨⟨_, _, rfl⟩, rfl⟩ rfl hi rfl rfl ?_
  refine w_aload_n (q := 21) hm9 ⟨⟨_, _, rfl⟩, rfl⟩ rfl ?_
  refine w_getr (q := 24) hm9 ⟨⟨_, _, rfl⟩, rfl⟩ rfl ?_
  refine w_aload_n (q := 25) hm9 ⟨⟨_, _, rfl⟩, rfl⟩ rfl ?_
  refine w_getf (q := 28) (v := (m.1 70 10)) hm9 ⟨⟨_, _, rfl⟩, rfl⟩ rfl rfl ?_
  refine w_iload_n (q := 29) hm9 ⟨⟨_, _, rfl⟩, rfl⟩ rfl ?_
  obtain ⟨hi, h⟩ := h
  refine w_iast (q := 30) hm9 ⟨⟨_, _, rfl⟩, rfl⟩ rfl hi rfl rfl ?_
  refine w_aload_n (q := 31) hm9 ⟨⟨_, _, rfl⟩, rfl⟩ rfl ?_
  refine w_getr (q := 34) hm9 ⟨⟨_, _, rfl⟩, rfl⟩ rfl ?_
  refine w_aload_n (q := 35) hm9 ⟨⟨_, _, rfl⟩, rfl⟩ rfl ?_
  refine w_getf (q := 38) (v := (m.1 70 10)) hm9 ⟨⟨_, _, rfl⟩, rfl⟩ rfl rfl ?_
  refine w_lload (q := 40) hm9 ⟨⟨_, _, rfl⟩, rfl⟩ rfl ?_
  obtain ⟨hi, h⟩ := h
  refine w_last (q := 41) hm9 ⟨⟨_, _, rfl⟩, rfl⟩ rfl hi rfl rfl ?_
  refine w_aload_n (q := 42) hm9 ⟨⟨_, _, rfl⟩, rfl⟩ rfl ?_
  refine w_dup (q := 43) hm9 ⟨⟨_, _, rfl⟩, rfl⟩ rfl ?_
  refine w_getf (q := 46) (v := (m.1 70 10)) hm9 ⟨⟨_, _, rfl⟩, rfl⟩ rfl rfl ?_
  refine w_iconst (q := 47) hm9 ⟨⟨_, _, rfl⟩, rfl⟩ iconst_1 ?_
  refine w_iadd (q := 48) hm9 ⟨⟨_, _, rfl⟩, rfl⟩ ?_
  refine w_putf (q := 51) hm9 ⟨⟨_, _, rfl⟩, rfl⟩ rfl rfl rfl ?_
  exact w_retv hm9 ⟨⟨_, _, rfl⟩, rfl⟩ rfl h
theorem v_X12_sign_70 {d : Nat} {x1 : Int32} {x2 : Int32} {x3 : Int32} {m : dM} {Q : Int32 → dM → Prop} (h : ((x2.toInt ≠ 59 → ((x2.toInt ≠ 61 → ((x2.toInt ≠ 40 → ((x2.toInt ≠ 41 → ((x2.toInt ≠ 43 → j_X12_sign_70_55 (d + 1) x1 x2 (3 : Int32) m Q) ∧ (x2.toInt = 43 → j_X12_sign_70_55 (d + 1) x1 x2 (8 : Int32) m Q))) ∧ (x2.toInt = 41 → ((x2.toInt ≠ 43 → j_X12_sign_70_55 (d + 1) x1 x2 (7 : Int32) m Q) ∧ (x2.toInt = 43 → j_X12_sign_70_55 (d + 1) x1 x2 (8 : Int32) m Q))))) ∧ (x2.toInt = 40 → ((x2.toInt ≠ 43 → j_X12_sign_70_55 (d + 1) x1 x2 (6 : Int32) m Q) ∧ (x2.toInt = 43 → j_X12_sign_70_55 (d + 1) x1 x2 (8 : Int32) m Q))))) ∧ (x2.toInt = 61 → ((x2.toInt ≠ 43 → j_X12_sign_70_55 (d + 1) x1 x2 (5 : Int32) m Q) ∧ (x2.toInt = 43 → j_X12_sign_70_55 (d + 1) x1 x2 (8 : Int32) m Q))))) ∧ (x2.toInt = 59 → ((x2.toInt ≠ 43 → j_X12_sign_70_55 (d + 1) x1 x2 (4 : Int32) m Q) ∧ (x2.toInt = 43 → j_X12_sign_70_55 (d + 1) x1 x2 (8 : Int32) m Q))))) : c_X12_sign_70 (d + 1) x1 x2 x3 m Q := by
  refine w_iload_n (q := 1) hm11 ⟨⟨_, _, rfl⟩, rfl⟩ rfl ?_
  refine w_bipush (q := 3) hm11 ⟨⟨_, _, rfl⟩, rfl⟩ bipush_59 ?_
  refine w_icmp_ne (q := 6) (X := x2.toInt) (Y := 59) hm11 ⟨⟨_, _, rfl⟩, rfl⟩ rfl (by decide) (fun hc => ?_) (fun hc => ?_)
  · have h := h.1 hc
    refine w_iload_n (q := 11) hm11 ⟨⟨_, _, rfl⟩, rfl⟩ rfl ?_
    refine w_bipush (q := 13) hm11 ⟨⟨_, _, rfl⟩, rfl⟩ bipush_61 ?_
    refine w_icmp_ne (q := 16) (X := x2.toInt) (Y := 61) hm11 ⟨⟨_, _, rfl⟩, rfl⟩ rfl (by decide) (fun hc => ?_) (fun hc => ?_)
    · have h := h.1 hc
      refine w_iload_n (q := 21) hm11 ⟨⟨_, _, rfl⟩, rfl⟩ rfl ?_
      refine w_bipush (q := 23) hm11 ⟨⟨_, _, rfl⟩, rfl⟩ bipush_40 ?_
      refine w_icmp_ne (q := 26) (X := x2.toInt) (Y := 40) hm11 ⟨⟨_, _, rfl⟩, rfl⟩ rfl (by decide) (fun hc => ?_) (fun hc => ?_)
      · have h := h.1 hc
        refine w_iload_n (q := 32) hm11 ⟨⟨_, _, rfl⟩, rfl⟩ rfl ?_
        refine w_bipush (q := 34) hm11 ⟨⟨_, _, rfl⟩, rfl⟩ bipush_41 ?_
        refine w_icmp_ne (q := 37) (X := x2.toInt) (Y := 41) hm11 ⟨⟨_, _, rfl⟩, rfl⟩ rfl (by decide) (fun hc => ?_) (fun hc => ?_)
        · have h := h.1 hc
          refine w_iconst (q := 43) hm11 ⟨⟨_, _, rfl⟩, rfl⟩ iconst_3 ?_
          refine w_istore (q := 45) (l' := [oR 70, oI x1, oI x2, oI x3, oI (3 : Int32)]) hm11 ⟨⟨_, _, rfl⟩, rfl⟩ rfl rfl rfl ?_
          refine w_iload_n (q := 46) hm11 ⟨⟨_, _, rfl⟩, rfl⟩ rfl ?_
          refine w_bipush (q := 48) hm11 ⟨⟨_, _, rfl⟩, rfl⟩ bipush_43 ?_
          refine w_icmp_ne (q := 51) (X := x2.toInt) (Y := 43) hm11 ⟨⟨_, _, rfl⟩, rfl⟩ rfl (by decide) (fun hc => ?_) (fun hc => ?_)
          · have h := h.1 hc
            exact Wp.wk [true, true, true, false, true] h
          · have h := h.2 hc
            refine w_bipush (q := 53) hm11 ⟨⟨_, _, rfl⟩, rfl⟩ bipush_8 ?_
            refine w_istore (q := 55) (l' := [oR 70, oI x1, oI x2, oI x3, oI (8 : Int32)]) hm11 ⟨⟨_, _, rfl⟩, rfl⟩ rfl rfl rfl ?_
            exact Wp.wk [true, true, true, false, true] h
        · have h := h.2 hc
          refine w_bipush (q := 39) hm11 ⟨⟨_, _, rfl⟩, rfl⟩ bipush_7 ?_
          refine w_goto (q := 43) hm11 ⟨_, _, rfl⟩ ?_
          refine w_istore (q := 45) (l' := [oR 70, oI x1, oI x2, oI x3, oI (7 : Int32)]) hm11 ⟨⟨_, _, rfl⟩, rfl⟩ rfl rfl rfl ?_
          refine w_iload_n (q := 46) hm11 ⟨⟨_, _, rfl⟩, rfl⟩ rfl ?_
          refine w_bipush (q := 48) hm11 ⟨⟨_, _, rfl⟩, rfl⟩ bipush_43 ?_
          refine w_icmp_ne (q := 51) (X := x2.toInt) (Y := 43) hm11 ⟨⟨_, _, rfl⟩, rfl⟩ rfl (by decide) (fun hc => ?_) (fun hc => ?_)
          · have h := h.1 hc
            exact Wp.wk [true, true, true, false, true] h
          · have h := h.2 hc
            refine w_bipush (q := 53) hm11 ⟨⟨_, _, rfl⟩, rfl⟩ bipush_8 ?_
            refine w_istore (q := 55) (l' := [oR 70, oI x1, oI x2, oI x3, oI (8 : Int32)]) hm11 ⟨⟨_, _, rfl⟩, rfl⟩ rfl rfl rfl ?_
            exact Wp.wk [true, true, true, false, true] h
      · have h := h.2 hc
        refine w_bipush (q := 28) hm11 ⟨⟨_, _, rfl⟩, rfl⟩ bipush_6 ?_
        refine w_goto (q := 43) hm11 ⟨_, _, rfl⟩ ?_
        refine w_istore (q := 45) (l' := [oR 70, oI x1, oI x2, oI x3, oI (6 : Int32)]) hm11 ⟨⟨_, _, rfl⟩, rfl⟩ rfl rfl rfl ?_
        refine w_iload_n (q := 46) hm11 ⟨⟨_, _, rfl⟩, rfl⟩ rfl ?_
        refine w_bipush (q := 48) hm11 ⟨⟨_, _, rfl⟩, rfl⟩ bipush_43 ?_
        refine w_icmp_ne (q := 51) (X := x2.toInt) (Y := 43) hm11 ⟨⟨_, _, rfl⟩, rfl⟩ rfl (by decide) (fun hc => ?_) (fun hc => ?_)
        · have h := h.1 hc
          exact Wp.wk [true, true, true, false, true] h
        · have h := h.2 hc
          refine w_bipush (q := 53) hm11 ⟨⟨_, _, rfl⟩, rfl⟩ bipush_8 ?_
          refine w_istore (q := 55) (l' := [oR 70, oI x1, oI x2, oI x3, oI (8 : Int32)]) hm11 ⟨⟨_, _, rfl⟩, rfl⟩ rfl rfl rfl ?_
          exact Wp.wk [true, true, true, false, true] h
    · have h := h.2 hc
      refine w_iconst (q := 17) hm11 ⟨⟨_, _, rfl⟩, rfl⟩ iconst_5 ?_
      refine w_goto (q := 43) hm11 ⟨_, _, rfl⟩ ?_
      refine w_istore (q := 45) (l' := [oR 70, oI x1, oI x2, oI x3, oI (5 : Int32)]) hm11 ⟨⟨_, _, rfl⟩, rfl⟩ rfl rfl rfl ?_
      refine w_iload_n (q := 46) hm11 ⟨⟨_, _, rfl⟩, rfl⟩ rfl ?_
      refine w_bipush (q := 48) hm11 ⟨⟨_, _, rfl⟩, rfl⟩ bipush_43 ?_
      refine w_icmp_ne (q := 51) (X := x2.toInt) (Y := 43) hm11 ⟨⟨_, _, rfl⟩, rfl⟩ rfl (by decide) (fun hc => ?_) (fun hc => ?_)
      · have h := h.1 hc
        exact Wp.wk [true, true, true, false, true] h
      · have h := h.2 hc
        refine w_bipush (q := 53) hm11 ⟨⟨_, _, rfl⟩, rfl⟩ bipush_8 ?_
        refine w_istore (q := 55) (l' := [oR 70, oI x1, oI x2, oI x3, oI (8 : Int32)]) hm11 ⟨⟨_, _, rfl⟩, rfl⟩ rfl rfl rfl ?_
        exact Wp.wk [true, true, true, false, true] h
  · have h := h.2 hc
    refine w_iconst (q := 7) hm11 ⟨⟨_, _, rfl⟩, rfl⟩ iconst_4 ?_
    refine w_goto (q := 43) hm11 ⟨_, _, rfl⟩ ?_
    refine w_istore (q := 45) (l' := [oR 70, oI x1, oI x2, oI x3, oI (4 : Int32)]) hm11 ⟨⟨_, _, rfl⟩, rfl⟩ rfl rfl rfl ?_
    refine w_iload_n (q := 46) hm11 ⟨⟨_, _, rfl⟩, rfl⟩ rfl ?_
    refine w_bipush (q := 48) hm11 ⟨⟨_, _, rfl⟩, rfl⟩ bipush_43 ?_
    refine w_icmp_ne (q := 51) (X := x2.toInt) (Y := 43) hm11 ⟨⟨_, _, rfl⟩, rfl⟩ rfl (by decide) (fun hc => ?_) (fun hc => ?_)
    · have h := h.1 hc
      exact Wp.wk [true, true, true, false, true] h
    · have h := h.2 hc
      refine w_bipush (q := 53) hm11 ⟨⟨_, _, rfl⟩, rfl⟩ bipush_8 ?_
      refine w_istore (q := 55) (l' := [oR 70, oI x1, oI x2, oI x3, oI (8 : Int32)]) hm11 ⟨⟨_, _, rfl⟩, rfl⟩ rfl rfl rfl ?_
      exact Wp.wk [true, true, true, false, true] h
theorem v_X12_sign_70_55 {d : Nat} {x1 : Int32} {x2 : Int32} {x4 : Int32} {m : dM} {Q : Int32 → dM → Prop} (h : ((x2.toInt ≠ 45 → j_X12_sign_70_65 (d + 1) x1 x2 x4 m Q) ∧ (x2.toInt = 45 → j_X12_sign_70_65 (d + 1) x1 x2 (9 : Int32) m Q))) : j_X12_sign_70_55 (d + 1) x1 x2 x4 m Q := by
  refine w_iload_n (q := 56) hm11 ⟨⟨_, _, rfl⟩, rfl⟩ rfl ?_
  refine w_bipush (q := 58) hm11 ⟨⟨_, _, rfl⟩, rfl⟩ bipush_45 ?_
  refine w_icmp_ne (q := 61) (X := x2.toInt) (Y := 45) hm11 ⟨⟨_, _, rfl⟩, rfl⟩ rfl (by decide) (fun hc => ?_) (fun hc => ?_)
  · have h := h.1 hc
    exact h
  · have h := h.2 hc
    refine w_bipush (q := 63) hm11 ⟨⟨_, _, rfl⟩, rfl⟩ bipush_9 ?_
    refine w_istore (q := 65) (l' := [oR 70, oI x1, oI x2, none, oI (9 : Int32)]) hm11 ⟨⟨_, _, rfl⟩, rfl⟩ rfl rfl rfl ?_
    exact h
theorem v_X12_sign_70_65 {d : Nat} {x1 : Int32} {x2 : Int32} {x4 : Int32} {m : dM} {Q : Int32 → dM → Prop} (h : ((x2.toInt ≠ 42 → j_X12_sign_70_75 (d + 1) x1 x2 x4 m Q) ∧ (x2.toInt = 42 → j_X12_sign_70_75 (d + 1) x1 x2 (10 : Int32) m Q))) : j_X12_sign_70_65 (d + 1) x1 x2 x4 m Q := by
  refine w_iload_n (q := 66) hm11 ⟨⟨_, _, rfl⟩, rfl⟩ rfl ?_
  refine w_bipush (q := 68) hm11 ⟨⟨_, _, rfl⟩, rfl⟩ bipush_42 ?_
  refine w_icmp_ne (q := 71) (X := x2.toInt) (Y := 42) hm11 ⟨⟨_, _, rfl⟩, rfl⟩ rfl (by decide) (fun hc => ?_) (fun hc => ?_)
  · have h := h.1 hc
    exact h
  · have h := h.2 hc
    refine w_bipush (q := 73) hm11 ⟨⟨_, _, rfl⟩, rfl⟩ bipush_10 ?_
    refine w_istore (q := 75) (l' := [oR 70, oI x1, oI x2, none, oI (10 : Int32)]) hm11 ⟨⟨_, _, rfl⟩, rfl⟩ rfl rfl rfl ?_
    exact h
theorem v_X12_sign_70_75 {d : Nat} {x1 : Int32} {x2 : Int32} {x4 : Int32} {m : dM} {Q : Int32 → dM → Prop} (h : ((x2.toInt ≠ 47 → j_X12_sign_70_85 (d + 1) x1 x2 x4 m Q) ∧ (x2.toInt = 47 → j_X12_sign_70_85 (d + 1) x1 x2 (15 : Int32) m Q))) : j_X12_sign_70_75 (d + 1) x1 x2 x4 m Q := by
  refine w_iload_n (q := 76) hm11 ⟨⟨_, _, rfl⟩, rfl⟩ rfl ?_
  refine w_bipush (q := 78) hm11 ⟨⟨_, _, rfl⟩, rfl⟩ bipush_47 ?_
  refine w_icmp_ne (q := 81) (X := x2.toInt) (Y := 47) hm11 ⟨⟨_, _, rfl⟩, rfl⟩ rfl (by decide) (fun hc => ?_) (fun hc => ?_)
  · have h := h.1 hc
    exact h
  · have h := h.2 hc
    refine w_bipush (q := 83) hm11 ⟨⟨_, _, rfl⟩, rfl⟩ bipush_15 ?_
    refine w_istore (q := 85) (l' := [oR 70, oI x1, oI x2, none, oI (15 : Int32)]) hm11 ⟨⟨_, _, rfl⟩, rfl⟩ rfl rfl rfl ?_
    exact h
theorem v_X12_sign_70_85 {d : Nat} {x1 : Int32} {x2 : Int32} {x4 : Int32} {m : dM} {Q : Int32 → dM → Prop} (h : ((x2.toInt ≠ 60 → j_X12_sign_70_95 (d + 1) x1 x4 m Q) ∧ (x2.toInt = 60 → j_X12_sign_70_95 (d + 1) x1 (13 : Int32) m Q))) : j_X12_sign_70_85 (d + 1) x1 x2 x4 m Q := by
  refine w_iload_n (q := 86) hm11 ⟨⟨_, _, rfl⟩, rfl⟩ rfl ?_
  refine w_bipush (q := 88) hm11 ⟨⟨_, _, rfl⟩, rfl⟩ bipush_60 ?_
  refine w_icmp_ne (q := 91) (X := x2.toInt) (Y := 60) hm11 ⟨⟨_, _, rfl⟩, rfl⟩ rfl (by decide) (fun hc => ?_) (fun hc => ?_)
  · have h := h.1 hc
    exact Wp.wk [true, true, false, false, true] h
  · have h := h.2 hc
    refine w_bipush (q := 93) hm11 ⟨⟨_, _, rfl⟩, rfl⟩ bipush_13 ?_
    refine w_istore (q := 95) (l' := [oR 70, oI x1, oI x2, none, oI (13 : Int32)]) hm11 ⟨⟨_, _, rfl⟩, rfl⟩ rfl rfl rfl ?_
    exact Wp.wk [true, true, false, false, true] h
theorem v_X12_sign_70_95 {d : Nat} {x1 : Int32} {x4 : Int32} {m : dM} {Q : Int32 → dM → Prop} (h : c_X12_token_70 d x4 x1 (0 : Int32) (0 : Int64) m (fun m1 => Q (1 : Int32) m1)) : j_X12_sign_70_95 (d + 1) x1 x4 m Q := by
  refine w_aload_n (q := 96) hm11 ⟨⟨_, _, rfl⟩, rfl⟩ rfl ?_
  refine w_iload (q := 98) hm11 ⟨⟨_, _, rfl⟩, rfl⟩ rfl ?_
  refine w_iload_n (q := 99) hm11 ⟨⟨_, _, rfl⟩, rfl⟩ rfl ?_
  refine w_iconst (q := 100) hm11 ⟨⟨_, _, rfl⟩, rfl⟩ iconst_0 ?_
  refine w_lconst (q := 101) hm11 ⟨⟨_, _, rfl⟩, rfl⟩ lconst_0 ?_
  refine w_call (q := 104) (n := 0) (vs := [.inr (.inr (some 70)), .inl x4, .inl x1, .inl (0 : Int32), .inr (.inl (0 : Int64))]) (rest := []) (la := [oR 70, oI x4, oI x1, oI (0 : Int32), oL (0 : Int64), none]) hm11 ⟨⟨_, _, rfl⟩, rfl⟩ rfl rfl rfl rfl hm9 rfl rfl (fun _ => ⟨_, _, rfl, rfl⟩) rfl (Wp.mono h ?_)
  rintro _ m1 ⟨rfl, h⟩
  change Wp _ _ 104 _ [] _ _
  refine w_iconst (q := 105) hm11 ⟨⟨_, _, rfl⟩, rfl⟩ iconst_1 ?_
  exact w_reti hm11 ⟨⟨_, _, rfl⟩, rfl⟩ rfl h
theorem v_X12_appends {d : Nat} {y0 : Int64} {x2 : Int32} {m : dM} {Q : Int64 → dM → Prop} (h : ((x2.toInt ≠ 0 → Q (((27 : Int64) * y0) + ((x2 - (97 : Int32)) + (1 : Int32)).toInt64) m) ∧ (x2.toInt = 0 → Q y0 m))) : c_X12_appends (d + 1) y0 x2 m Q := by
  refine w_iload_n (q := 1) hm7 ⟨⟨_, _, rfl⟩, rfl⟩ rfl ?_
  refine w_if_ne (q := 4) (X := x2.toInt) hm7 ⟨⟨_, _, rfl⟩, rfl⟩ rfl (fun hc => ?_) (fun hc => ?_)
  · have h := h.1 hc
    refine w_ldc2_w (q := 11) hm7 ⟨⟨_, _, rfl⟩, rfl⟩ ldc2_27 ?_
    refine w_lload_n (q := 12) hm7 ⟨⟨_, _, rfl⟩, rfl⟩ rfl ?_
    refine w_lmul (q := 13) hm7 ⟨⟨_, _, rfl⟩, rfl⟩ ?_
    refine w_iload_n (q := 14) hm7 ⟨⟨_, _, rfl⟩, rfl⟩ rfl ?_
    refine w_bipush (q := 16) hm7 ⟨⟨_, _, rfl⟩, rfl⟩ bipush_97 ?_
    refine w_isub (q := 17) hm7 ⟨⟨_, _, rfl⟩, rfl⟩ ?_
    refine w_iconst (q := 18) hm7 ⟨⟨_, _, rfl⟩, rfl⟩ iconst_1 ?_
    refine w_iadd (q := 19) hm7 ⟨⟨_, _, rfl⟩, rfl⟩ ?_
    refine w_i2l (q := 20) hm7 ⟨⟨_, _, rfl⟩, rfl⟩ ?_
    refine w_ladd (q := 21) hm7 ⟨⟨_, _, rfl⟩, rfl⟩ ?_
    exact w_retl hm7 ⟨⟨_, _, rfl⟩, rfl⟩ rfl h
  · have h := h.2 hc
    refine w_lload_n (q := 5) hm7 ⟨⟨_, _, rfl⟩, rfl⟩ rfl ?_
    refine w_goto (q := 21) hm7 ⟨_, _, rfl⟩ ?_
    exact w_retl hm7 ⟨⟨_, _, rfl⟩, rfl⟩ rfl h
theorem v_X12_cutsUp_70 {d : Nat} {m : dM} {Q : dM → Prop} (h : j_X12_cutsUp_70_7 (d + 1) (0 : Int32) (dSet m 70 10 (0 : Int32)) Q) : c_X12_cutsUp_70 (d + 1) m Q := by
  refine w_aload_n (q := 1) hm10 ⟨⟨_, _, rfl⟩, rfl⟩ rfl ?_
  refine w_iconst (q := 2) hm10 ⟨⟨_, _, rfl⟩, rfl⟩ iconst_0 ?_
  refine w_putf (q := 5) hm10 ⟨⟨_, _, rfl⟩, rfl⟩ rfl rfl rfl ?_
  refine w_iconst (q := 6) hm10 ⟨⟨_, _, rfl⟩, rfl⟩ iconst_0 ?_
  refine w_istore_n (q := 7) (l' := [oR 70, oI (0 : Int32), none, none, none, none, none, none]) hm10 ⟨⟨_, _, rfl⟩, rfl⟩ rfl rfl rfl ?_
  exact h
theorem v_X12_cutsUp_70_7 {d : Nat} {x1 : Int32} {m : dM} {Q : dM → Prop} (h : ((400 < (m.1 70 10).toInt → Q m) ∧ ((m.1 70 10).toInt ≤ 400 → c_X12_byteAt_70 d x1 m (fun r1 m1 => ((x1.toInt < (m1.1 70 4).toInt → ((r1.toInt = 9 → j_X12_cutsUp_70_67 (d + 1) x1 m1 Q) ∧ (r1.toInt ≠ 9 → ((r1.toInt = 10 → j_X12_cutsUp_70_67 (d + 1) x1 m1 Q) ∧ (r1.toInt ≠ 10 → ((r1.toInt = 13 → j_X12_cutsUp_70_67 (d + 1) x1 m1 Q) ∧ (r1.toInt ≠ 13 → ((r1.toInt ≠ 32 → c_X12_isLetter d r1 m1 (fun r2 m2 => ((r2.toInt = 0 → c_X12_isDigit d r1 m2 (fun r3 m3 => ((r3.toInt = 0 → c_X12_byteAt_70 d (x1 + (1 : Int32)) m3 (fun r4 m4 => c_X12_sign_70 d x1 r1 r4 m4 (fun r5 m5 => j_X12_cutsUp_70_291 (d + 1) (x1 + r5) m5 Q))) ∧ (r3.toInt ≠ 0 → j_X12_cutsUp_70_208 (d + 1) x1 (0 : Int32) (0 : Int32) m3 Q)))) ∧ (r2.toInt ≠ 0 → j_X12_cutsUp_70_85 (d + 1) x1 (0 : Int32) (0 : Int64) m2 Q)))) ∧ (r1.toInt = 32 → j_X12_cutsUp_70_67 (d + 1) x1 m1 Q))))))))) ∧ ((m1.1 70 4).toInt ≤ x1.toInt → c_X12_token_70 d (0 : Int32) (m1.1 70 4) (0 : Int32) (0 : Int64) m1 (fun m6 => Q m6))))))) : j_X12_cutsUp_70_7 (d + 1) x1 m Q := by
  refine w_aload_n (q := 8) hm10 ⟨⟨_, _, rfl⟩, rfl⟩ rfl ?_
  refine w_getf (q := 11) (v := (m.1 70 10)) hm10 ⟨⟨_, _, rfl⟩, rfl⟩ rfl rfl ?_
  refine w_sipush (q := 14) hm10 ⟨⟨_, _, rfl⟩, rfl⟩ sipush_400 ?_
  refine w_icmp_gt (q := 17) (X := (m.1 70 10).toInt) (Y := 400) hm10 ⟨⟨_, _, rfl⟩, rfl⟩ rfl (by decide) (fun hc => ?_) (fun hc => ?_)
  · have h := h.1 hc
    exact w_retv hm10 ⟨⟨_, _, rfl⟩, rfl⟩ rfl h
  · have h := h.2 hc
    refine w_aload_n (q := 18) hm10 ⟨⟨_, _, rfl⟩, rfl⟩ rfl ?_
    refine w_iload_n (q := 19) hm10 ⟨⟨_, _, rfl⟩, rfl⟩ rfl ?_
    refine w_call (q := 22) (n := 0) (vs := [.inr (.inr (some 70)), .inl x1]) (rest := []) (la := [oR 70, oI x1]) hm10 ⟨⟨_, _, rfl⟩, rfl⟩ rfl rfl rfl rfl hm4 rfl rfl (fun _ => ⟨_, _, rfl, rfl⟩) rfl (Wp.mono h ?_)
    rintro _ m1 ⟨r1, rfl, h⟩
    change Wp _ _ 22 _ [.inl r1] _ _
    refine w_istore_n (q := 23) (l' := [oR 70, oI x1, oI r1, none, none, none, none, none]) hm10 ⟨⟨_, _, rfl⟩, rfl⟩ rfl rfl rfl ?_
    refine w_iload_n (q := 24) hm10 ⟨⟨_, _, rfl⟩, rfl⟩ rfl ?_
    refine w_aload_n (q := 25) hm10 ⟨⟨_, _, rfl⟩, rfl⟩ rfl ?_
    refine w_getf (q := 28) (v := (m1.1 70 4)) hm10 ⟨⟨_, _, rfl⟩, rfl⟩ rfl rfl ?_
    refine w_icmp_lt (q := 31) (X := x1.toInt) (Y := (m1.1 70 4).toInt) hm10 ⟨⟨_, _, rfl⟩, rfl⟩ rfl rfl (fun hc => ?_) (fun hc => ?_)
    · have h := h.1 hc
      refine w_iload_n (q := 44) hm10 ⟨⟨_, _, rfl⟩, rfl⟩ rfl ?_
      refine w_bipush (q := 46) hm10 ⟨⟨_, _, rfl⟩, rfl⟩ bipush_9 ?_
      refine w_icmp_eq (q := 49) (X := r1.toInt) (Y := 9) hm10 ⟨⟨_, _, rfl⟩, rfl⟩ rfl (by decide) (fun hc => ?_) (fun hc => ?_)
      · have h := h.1 hc
        exact Wp.wk [true, true, false, false, false, false, false, false] h
      · have h := h.2 hc
        refine w_iload_n (q := 50) hm10 ⟨⟨_, _, rfl⟩, rfl⟩ rfl ?_
        refine w_bipush (q := 52) hm10 ⟨⟨_, _, rfl⟩, rfl⟩ bipush_10 ?_
        refine w_icmp_eq (q := 55) (X := r1.toInt) (Y := 10) hm10 ⟨⟨_, _, rfl⟩, rfl⟩ rfl (by decide) (fun hc => ?_) (fun hc => ?_)
        · have h := h.1 hc
          exact Wp.wk [true, true, false, false, false, false, false, false] h
        · have h := h.2 hc
          refine w_iload_n (q := 56) hm10 ⟨⟨_, _, rfl⟩, rfl⟩ rfl ?_
          refine w_bipush (q := 58) hm10 ⟨⟨_, _, rfl⟩, rfl⟩ bipush_13 ?_
          refine w_icmp_eq (q := 61) (X := r1.toInt) (Y := 13) hm10 ⟨⟨_, _, rfl⟩, rfl⟩ rfl (by decide) (fun hc => ?_) (fun hc => ?_)
          · have h := h.1 hc
            exact Wp.wk [true, true, false, false, false, false, false, false] h
          · have h := h.2 hc
            refine w_iload_n (q := 62) hm10 ⟨⟨_, _, rfl⟩, rfl⟩ rfl ?_
            refine w_bipush (q := 64) hm10 ⟨⟨_, _, rfl⟩, rfl⟩ bipush_32 ?_
            refine w_icmp_ne (q := 67) (X := r1.toInt) (Y := 32) hm10 ⟨⟨_, _, rfl⟩, rfl⟩ rfl (by decide) (fun hc => ?_) (fun hc => ?_)
            · have h := h.1 hc
              refine w_iload_n (q := 74) hm10 ⟨⟨_, _, rfl⟩, rfl⟩ rfl ?_
              refine w_call (q := 77) (n := 0) (vs := [.inl r1]) (rest := []) (la := [oI r1]) hm10 ⟨⟨_, _, rfl⟩, rfl⟩ rfl rfl rfl rfl hm6 rfl rfl (fun hz => absurd hz (by decide)) rfl (Wp.mono h ?_)
              rintro _ m2 ⟨r2, rfl, h⟩
              change Wp _ _ 77 _ [.inl r2] _ _
              refine w_if_eq (q := 80) (X := r2.toInt) hm10 ⟨⟨_, _, rfl⟩, rfl⟩ rfl (fun hc => ?_) (fun hc => ?_)
              · have h := h.1 hc
                refine w_iload_n (q := 197) hm10 ⟨⟨_, _, rfl⟩, rfl⟩ rfl ?_
                refine w_call (q := 200) (n := 0) (vs := [.inl r1]) (rest := []) (la := [oI r1]) hm10 ⟨⟨_, _, rfl⟩, rfl⟩ rfl rfl rfl rfl hm5 rfl rfl (fun hz => absurd hz (by decide)) rfl (Wp.mono h ?_)
                rintro _ m3 ⟨r3, rfl, h⟩
                change Wp _ _ 200 _ [.inl r3] _ _
                refine w_if_eq (q := 203) (X := r3.toInt) hm10 ⟨⟨_, _, rfl⟩, rfl⟩ rfl (fun hc => ?_) (fun hc => ?_)
                · have h := h.1 hc
                  refine w_iload_n (q := 276) hm10 ⟨⟨_, _, rfl⟩, rfl⟩ rfl ?_
                  refine w_aload_n (q := 277) hm10 ⟨⟨_, _, rfl⟩, rfl⟩ rfl ?_
                  refine w_iload_n (q := 278) hm10 ⟨⟨_, _, rfl⟩, rfl⟩ rfl ?_
                  refine w_iload_n (q := 279) hm10 ⟨⟨_, _, rfl⟩, rfl⟩ rfl ?_
                  refine w_aload_n (q := 280) hm10 ⟨⟨_, _, rfl⟩, rfl⟩ rfl ?_
                  refine w_iload_n (q := 281) hm10 ⟨⟨_, _, rfl⟩, rfl⟩ rfl ?_
                  refine w_iconst (q := 282) hm10 ⟨⟨_, _, rfl⟩, rfl⟩ iconst_1 ?_
                  refine w_iadd (q := 283) hm10 ⟨⟨_, _, rfl⟩, rfl⟩ ?_
                  refine w_call (q := 286) (n := 0) (vs := [.inr (.inr (some 70)), .inl (x1 + (1 : Int32))]) (rest := [.inl r1, .inl x1, .inr (.inr (some 70)), .inl x1]) (la := [oR 70, oI (x1 + (1 : Int32))]) hm10 ⟨⟨_, _, rfl⟩, rfl⟩ rfl rfl rfl rfl hm4 rfl rfl (fun _ => ⟨_, _, rfl, rfl⟩) rfl (Wp.mono h ?_)
                  rintro _ m4 ⟨r4, rfl, h⟩
                  change Wp _ _ 286 _ [.inl r4, .inl r1, .inl x1, .inr (.inr (some 70)), .inl x1] _ _
                  refine w_call (q := 289) (n := 1) (vs := [.inr (.inr (some 70)), .inl x1, .inl r1, .inl r4]) (rest := [.inl x1]) (la := [oR 70, oI x1, oI r1, oI r4, none]) hm10 ⟨⟨_, _, rfl⟩, rfl⟩ rfl rfl rfl rfl hm11 rfl rfl (fun _ => ⟨_, _, rfl, rfl⟩) rfl (Wp.mono h ?_)
                  rintro _ m5 ⟨r5, rfl, h⟩
                  change Wp _ _ 289 _ [.inl r5, .inl x1] _ _
                  refine w_iadd (q := 290) hm10 ⟨⟨_, _, rfl⟩, rfl⟩ ?_
                  refine w_istore_n (q := 291) (l' := [oR 70, oI (x1 + r5), oI r1, none, none, none, none, none]) hm10 ⟨⟨_, _, rfl⟩, rfl⟩ rfl rfl rfl ?_
                  exact Wp.wk [true, true, false, false, false, false, false, false] h
                · have h := h.2 hc
                  refine w_iconst (q := 204) hm10 ⟨⟨_, _, rfl⟩, rfl⟩ iconst_0 ?_
                  refine w_istore_n (q := 205) (l' := [oR 70, oI x1, oI r1, oI (0 : Int32), none, none, none, none]) hm10 ⟨⟨_, _, rfl⟩, rfl⟩ rfl rfl rfl ?_
                  refine w_iconst (q := 206) hm10 ⟨⟨_, _, rfl⟩, rfl⟩ iconst_0 ?_
                  refine w_istore (q := 208) (l' := [oR 70, oI x1, oI r1, oI (0 : Int32), oI (0 : Int32), none, none, none]) hm10 ⟨⟨_, _, rfl⟩, rfl⟩ rfl rfl rfl ?_
                  exact Wp.wk [true, true, false, true, true, false, false, false] h
              · have h := h.2 hc
                refine w_iconst (q := 81) hm10 ⟨⟨_, _, rfl⟩, rfl⟩ iconst_0 ?_
                refine w_istore_n (q := 82) (l' := [oR 70, oI x1, oI r1, oI (0 : Int32), none, none, none, none]) hm10 ⟨⟨_, _, rfl⟩, rfl⟩ rfl rfl rfl ?_
                refine w_lconst (q := 83) hm10 ⟨⟨_, _, rfl⟩, rfl⟩ lconst_0 ?_
                refine w_lstore (q := 85) (l' := [oR 70, oI x1, oI r1, oI (0 : Int32), oL (0 : Int64), none, none, none]) hm10 ⟨⟨_, _, rfl⟩, rfl⟩ rfl rfl rfl ?_
                exact Wp.wk [true, true, false, true, true, false, false, false] h
            · have h := h.2 hc
              exact Wp.wk [true, true, false, false, false, false, false, false] h
    · have h := h.2 hc
      refine w_aload_n (q := 32) hm10 ⟨⟨_, _, rfl⟩, rfl⟩ rfl ?_
      refine w_iconst (q := 33) hm10 ⟨⟨_, _, rfl⟩, rfl⟩ iconst_0 ?_
      refine w_aload_n (q := 34) hm10 ⟨⟨_, _, rfl⟩, rfl⟩ rfl ?_
      refine w_getf (q := 37) (v := (m1.1 70 4)) hm10 ⟨⟨_, _, rfl⟩, rfl⟩ rfl rfl ?_
      refine w_iconst (q := 38) hm10 ⟨⟨_, _, rfl⟩, rfl⟩ iconst_0 ?_
      refine w_lconst (q := 39) hm10 ⟨⟨_, _, rfl⟩, rfl⟩ lconst_0 ?_
      refine w_call (q := 42) (n := 0) (vs := [.inr (.inr (some 70)), .inl (0 : Int32), .inl (m1.1 70 4), .inl (0 : Int32), .inr (.inl (0 : Int64))]) (rest := []) (la := [oR 70, oI (0 : Int32), oI (m1.1 70 4), oI (0 : Int32), oL (0 : Int64), none]) hm10 ⟨⟨_, _, rfl⟩, rfl⟩ rfl rfl rfl rfl hm9 rfl rfl (fun _ => ⟨_, _, rfl, rfl⟩) rfl (Wp.mono h ?_)
      rintro _ m6 ⟨rfl, h⟩
      change Wp _ _ 42 _ [] _ _
      exact w_retv hm10 ⟨⟨_, _, rfl⟩, rfl⟩ rfl h
theorem v_X12_cutsUp_70_67 {d : Nat} {x1 : Int32} {m : dM} {Q : dM → Prop} (h : j_X12_cutsUp_70_291 (d + 1) (x1 + (1 : Int32)) m Q) : j_X12_cutsUp_70_67 (d + 1) x1 m Q := by
  refine w_iinc (q := 70) (l' := [oR 70, oI (x1 + (1 : Int32)), none, none, none, none, none, none]) hm10 ⟨⟨_, _, rfl⟩, rfl⟩ rfl rfl rfl iconst_1 rfl ?_
  refine w_goto (q := 291) hm10 ⟨_, _, rfl⟩ ?_
  exact h
theorem v_X12_cutsUp_70_85 {d : Nat} {x1 : Int32} {x3 : Int32} {y4 : Int64} {m : dM} {Q : dM → Prop} (h : c_X12_byteAt_70 d (x1 + x3) m (fun r1 m1 => c_X12_isLetter d r1 m1 (fun r2 m2 => ((r2.toInt = 0 → ((x3.toInt ≤ 8 → ((8 < x3.toInt → j_X12_cutsUp_70_179 (d + 1) x1 x3 y4 (1 : Int32) m2 Q) ∧ (x3.toInt ≤ 8 → j_X12_cutsUp_70_146 (d + 1) x1 x3 y4 (1 : Int32) (0 : Int32) m2 Q))) ∧ (8 < x3.toInt → ((8 < x3.toInt → j_X12_cutsUp_70_179 (d + 1) x1 x3 y4 (3 : Int32) m2 Q) ∧ (x3.toInt ≤ 8 → j_X12_cutsUp_70_146 (d + 1) x1 x3 y4 (3 : Int32) (0 : Int32) m2 Q))))) ∧ (r2.toInt ≠ 0 → ((8 ≤ x3.toInt → j_X12_cutsUp_70_118 (d + 1) x1 x3 y4 m2 Q) ∧ (x3.toInt < 8 → c_X12_byteAt_70 d (x1 + x3) m2 (fun r3 m3 => c_X12_appends d y4 r3 m3 (fun r4 m4 => j_X12_cutsUp_70_118 (d + 1) x1 x3 r4 m4 Q))))))))) : j_X12_cutsUp_70_85 (d + 1) x1 x3 y4 m Q := by
  refine w_aload_n (q := 86) hm10 ⟨⟨_, _, rfl⟩, rfl⟩ rfl ?_
  refine w_iload_n (q := 87) hm10 ⟨⟨_, _, rfl⟩, rfl⟩ rfl ?_
  refine w_iload_n (q := 88) hm10 ⟨⟨_, _, rfl⟩, rfl⟩ rfl ?_
  refine w_iadd (q := 89) hm10 ⟨⟨_, _, rfl⟩, rfl⟩ ?_
  refine w_call (q := 92) (n := 0) (vs := [.inr (.inr (some 70)), .inl (x1 + x3)]) (rest := []) (la := [oR 70, oI (x1 + x3)]) hm10 ⟨⟨_, _, rfl⟩, rfl⟩ rfl rfl rfl rfl hm4 rfl rfl (fun _ => ⟨_, _, rfl, rfl⟩) rfl (Wp.mono h ?_)
  rintro _ m1 ⟨r1, rfl, h⟩
  change Wp _ _ 92 _ [.inl r1] _ _
  refine w_call (q := 95) (n := 0) (vs := [.inl r1]) (rest := []) (la := [oI r1]) hm10 ⟨⟨_, _, rfl⟩, rfl⟩ rfl rfl rfl rfl hm6 rfl rfl (fun hz => absurd hz (by decide)) rfl (Wp.mono h ?_)
  rintro _ m2 ⟨r2, rfl, h⟩
  change Wp _ _ 95 _ [.inl r2] _ _
  refine w_if_eq (q := 98) (X := r2.toInt) hm10 ⟨⟨_, _, rfl⟩, rfl⟩ rfl (fun hc => ?_) (fun hc => ?_)
  · have h := h.1 hc
    refine w_iload_n (q := 125) hm10 ⟨⟨_, _, rfl⟩, rfl⟩ rfl ?_
    refine w_bipush (q := 127) hm10 ⟨⟨_, _, rfl⟩, rfl⟩ bipush_8 ?_
    refine w_icmp_le (q := 130) (X := x3.toInt) (Y := 8) hm10 ⟨⟨_, _, rfl⟩, rfl⟩ rfl (by decide) (fun hc => ?_) (fun hc => ?_)
    · have h := h.1 hc
      refine w_iconst (q := 135) hm10 ⟨⟨_, _, rfl⟩, rfl⟩ iconst_1 ?_
      refine w_istore (q := 137) (l' := [oR 70, oI x1, none, oI x3, oL y4, none, oI (1 : Int32), none]) hm10 ⟨⟨_, _, rfl⟩, rfl⟩ rfl rfl rfl ?_
      refine w_iload_n (q := 138) hm10 ⟨⟨_, _, rfl⟩, rfl⟩ rfl ?_
      refine w_bipush (q := 140) hm10 ⟨⟨_, _, rfl⟩, rfl⟩ bipush_8 ?_
      refine w_icmp_gt (q := 143) (X := x3.toInt) (Y := 8) hm10 ⟨⟨_, _, rfl⟩, rfl⟩ rfl (by decide) (fun hc => ?_) (fun hc => ?_)
      · have h := h.1 hc
        exact h
      · have h := h.2 hc
        refine w_iconst (q := 144) hm10 ⟨⟨_, _, rfl⟩, rfl⟩ iconst_0 ?_
        refine w_istore (q := 146) (l' := [oR 70, oI x1, none, oI x3, oL y4, none, oI (1 : Int32), oI (0 : Int32)]) hm10 ⟨⟨_, _, rfl⟩, rfl⟩ rfl rfl rfl ?_
        exact h
    · have h := h.2 hc
      refine w_iconst (q := 131) hm10 ⟨⟨_, _, rfl⟩, rfl⟩ iconst_3 ?_
      refine w_goto (q := 135) hm10 ⟨_, _, rfl⟩ ?_
      refine w_istore (q := 137) (l' := [oR 70, oI x1, none, oI x3, oL y4, none, oI (3 : Int32), none]) hm10 ⟨⟨_, _, rfl⟩, rfl⟩ rfl rfl rfl ?_
      refine w_iload_n (q := 138) hm10 ⟨⟨_, _, rfl⟩, rfl⟩ rfl ?_
      refine w_bipush (q := 140) hm10 ⟨⟨_, _, rfl⟩, rfl⟩ bipush_8 ?_
      refine w_icmp_gt (q := 143) (X := x3.toInt) (Y := 8) hm10 ⟨⟨_, _, rfl⟩, rfl⟩ rfl (by decide) (fun hc => ?_) (fun hc => ?_)
      · have h := h.1 hc
        exact h
      · have h := h.2 hc
        refine w_iconst (q := 144) hm10 ⟨⟨_, _, rfl⟩, rfl⟩ iconst_0 ?_
        refine w_istore (q := 146) (l' := [oR 70, oI x1, none, oI x3, oL y4, none, oI (3 : Int32), oI (0 : Int32)]) hm10 ⟨⟨_, _, rfl⟩, rfl⟩ rfl rfl rfl ?_
        exact h
  · have h := h.2 hc
    refine w_iload_n (q := 99) hm10 ⟨⟨_, _, rfl⟩, rfl⟩ rfl ?_
    refine w_bipush (q := 101) hm10 ⟨⟨_, _, rfl⟩, rfl⟩ bipush_8 ?_
    refine w_icmp_ge (q := 104) (X := x3.toInt) (Y := 8) hm10 ⟨⟨_, _, rfl⟩, rfl⟩ rfl (by decide) (fun hc => ?_) (fun hc => ?_)
    · have h := h.1 hc
      exact h
    · have h := h.2 hc
      refine w_lload (q := 106) hm10 ⟨⟨_, _, rfl⟩, rfl⟩ rfl ?_
      refine w_aload_n (q := 107) hm10 ⟨⟨_, _, rfl⟩, rfl⟩ rfl ?_
      refine w_iload_n (q := 108) hm10 ⟨⟨_, _, rfl⟩, rfl⟩ rfl ?_
      refine w_iload_n (q := 109) hm10 ⟨⟨_, _, rfl⟩, rfl⟩ rfl ?_
      refine w_iadd (q := 110) hm10 ⟨⟨_, _, rfl⟩, rfl⟩ ?_
      refine w_call (q := 113) (n := 0) (vs := [.inr (.inr (some 70)), .inl (x1 + x3)]) (rest := [.inr (.inl y4)]) (la := [oR 70, oI (x1 + x3)]) hm10 ⟨⟨_, _, rfl⟩, rfl⟩ rfl rfl rfl rfl hm4 rfl rfl (fun _ => ⟨_, _, rfl, rfl⟩) rfl (Wp.mono h ?_)
      rintro _ m3 ⟨r3, rfl, h⟩
      change Wp _ _ 113 _ [.inl r3, .inr (.inl y4)] _ _
      refine w_call (q := 116) (n := 0) (vs := [.inr (.inl y4), .inl r3]) (rest := []) (la := [oL y4, none, oI r3]) hm10 ⟨⟨_, _, rfl⟩, rfl⟩ rfl rfl rfl rfl hm7 rfl rfl (fun hz => absurd hz (by decide)) rfl (Wp.mono h ?_)
      rintro _ m4 ⟨r4, rfl, h⟩
      change Wp _ _ 116 _ [.inr (.inl r4)] _ _
      refine w_lstore (q := 118) (l' := [oR 70, oI x1, none, oI x3, oL r4, none, none, none]) hm10 ⟨⟨_, _, rfl⟩, rfl⟩ rfl rfl rfl ?_
      exact h
theorem v_X12_cutsUp_70_118 {d : Nat} {x1 : Int32} {x3 : Int32} {y4 : Int64} {m : dM} {Q : dM → Prop} (h : j_X12_cutsUp_70_85 (d + 1) x1 (x3 + (1 : Int32)) y4 m Q) : j_X12_cutsUp_70_118 (d + 1) x1 x3 y4 m Q := by
  refine w_iinc (q := 121) (l' := [oR 70, oI x1, none, oI (x3 + (1 : Int32)), oL y4, none, none, none]) hm10 ⟨⟨_, _, rfl⟩, rfl⟩ rfl rfl rfl iconst_1 rfl ?_
  refine w_goto (q := 85) hm10 ⟨_, _, rfl⟩ ?_
  exact h
theorem v_X12_cutsUp_70_146 {d : Nat} {x1 : Int32} {x3 : Int32} {y4 : Int64} {x6 : Int32} {x7 : Int32} {m : dM} {Q : dM → Prop} (h : ((22 ≤ x7.toInt → j_X12_cutsUp_70_179 (d + 1) x1 x3 y4 x6 m Q) ∧ (x7.toInt < 22 → ((0 ≤ x7.toInt ∧ x7.toInt < 22) ∧ (((lg_cmp (tKv x7.toNatClampNeg) y4).toInt ≠ 0 → j_X12_cutsUp_70_173 (d + 1) x1 x3 y4 x6 x7 m Q) ∧ ((lg_cmp (tKv x7.toNatClampNeg) y4).toInt = 0 → j_X12_cutsUp_70_173 (d + 1) x1 x3 y4 ((20 : Int32) + x7) x7 m Q)))))) : j_X12_cutsUp_70_146 (d + 1) x1 x3 y4 x6 x7 m Q := by
  refine w_iload (q := 148) hm10 ⟨⟨_, _, rfl⟩, rfl⟩ rfl ?_
  refine w_bipush (q := 150) hm10 ⟨⟨_, _, rfl⟩, rfl⟩ bipush_22 ?_
  refine w_icmp_ge (q := 153) (X := x7.toInt) (Y := 22) hm10 ⟨⟨_, _, rfl⟩, rfl⟩ rfl (by decide) (fun hc => ?_) (fun hc => ?_)
  · have h := h.1 hc
    exact Wp.wk [true, true, false, true, true, false, true, false] h
  · have h := h.2 hc
    refine w_aload_n (q := 154) hm10 ⟨⟨_, _, rfl⟩, rfl⟩ rfl ?_
    refine w_getr (q := 157) hm10 ⟨⟨_, _, rfl⟩, rfl⟩ rfl ?_
    refine w_iload (q := 159) hm10 ⟨⟨_, _, rfl⟩, rfl⟩ rfl ?_
    obtain ⟨hi, h⟩ := h
    refine w_lald (q := 160) (v := (tKv x7.toNatClampNeg)) hm10 ⟨⟨_, _, rfl⟩, rfl⟩ rfl hi rfl rfl ?_
    refine w_lload (q := 162) hm10 ⟨⟨_, _, rfl⟩, rfl⟩ rfl ?_
    refine w_lcmp (q := 163) hm10 ⟨⟨_, _, rfl⟩, rfl⟩ ?_
    refine w_if_ne (q := 166) (X := (lg_cmp (tKv x7.toNatClampNeg) y4).toInt) hm10 ⟨⟨_, _, rfl⟩, rfl⟩ rfl (fun hc => ?_) (fun hc => ?_)
    · have h := h.1 hc
      exact h
    · have h := h.2 hc
      refine w_bipush (q := 168) hm10 ⟨⟨_, _, rfl⟩, rfl⟩ bipush_20 ?_
      refine w_iload (q := 170) hm10 ⟨⟨_, _, rfl⟩, rfl⟩ rfl ?_
      refine w_iadd (q := 171) hm10 ⟨⟨_, _, rfl⟩, rfl⟩ ?_
      refine w_istore (q := 173) (l' := [oR 70, oI x1, none, oI x3, oL y4, none, oI ((20 : Int32) + x7), oI x7]) hm10 ⟨⟨_, _, rfl⟩, rfl⟩ rfl rfl rfl ?_
      exact h
theorem v_X12_cutsUp_70_173 {d : Nat} {x1 : Int32} {x3 : Int32} {y4 : Int64} {x6 : Int32} {x7 : Int32} {m : dM} {Q : dM → Prop} (h : j_X12_cutsUp_70_146 (d + 1) x1 x3 y4 x6 (x7 + (1 : Int32)) m Q) : j_X12_cutsUp_70_173 (d + 1) x1 x3 y4 x6 x7 m Q := by
  refine w_iinc (q := 176) (l' := [oR 70, oI x1, none, oI x3, oL y4, none, oI x6, oI (x7 + (1 : Int32))]) hm10 ⟨⟨_, _, rfl⟩, rfl⟩ rfl rfl rfl iconst_1 rfl ?_
  refine w_goto (q := 146) hm10 ⟨_, _, rfl⟩ ?_
  exact h
theorem v_X12_cutsUp_70_179 {d : Nat} {x1 : Int32} {x3 : Int32} {y4 : Int64} {x6 : Int32} {m : dM} {Q : dM → Prop} (h : c_X12_token_70 d x6 x1 (0 : Int32) y4 m (fun m1 => j_X12_cutsUp_70_291 (d + 1) (x1 + x3) m1 Q)) : j_X12_cutsUp_70_179 (d + 1) x1 x3 y4 x6 m Q := by
  refine w_aload_n (q := 180) hm10 ⟨⟨_, _, rfl⟩, rfl⟩ rfl ?_
  refine w_iload (q := 182) hm10 ⟨⟨_, _, rfl⟩, rfl⟩ rfl ?_
  refine w_iload_n (q := 183) hm10 ⟨⟨_, _, rfl⟩, rfl⟩ rfl ?_
  refine w_iconst (q := 184) hm10 ⟨⟨_, _, rfl⟩, rfl⟩ iconst_0 ?_
  refine w_lload (q := 186) hm10 ⟨⟨_, _, rfl⟩, rfl⟩ rfl ?_
  refine w_call (q := 189) (n := 0) (vs := [.inr (.inr (some 70)), .inl x6, .inl x1, .inl (0 : Int32), .inr (.inl y4)]) (rest := []) (la := [oR 70, oI x6, oI x1, oI (0 : Int32), oL y4, none]) hm10 ⟨⟨_, _, rfl⟩, rfl⟩ rfl rfl rfl rfl hm9 rfl rfl (fun _ => ⟨_, _, rfl, rfl⟩) rfl (Wp.mono h ?_)
  rintro _ m1 ⟨rfl, h⟩
  change Wp _ _ 189 _ [] _ _
  refine w_iload_n (q := 190) hm10 ⟨⟨_, _, rfl⟩, rfl⟩ rfl ?_
  refine w_iload_n (q := 191) hm10 ⟨⟨_, _, rfl⟩, rfl⟩ rfl ?_
  refine w_iadd (q := 192) hm10 ⟨⟨_, _, rfl⟩, rfl⟩ ?_
  refine w_istore_n (q := 193) (l' := [oR 70, oI (x1 + x3), none, oI x3, oL y4, none, oI x6, none]) hm10 ⟨⟨_, _, rfl⟩, rfl⟩ rfl rfl rfl ?_
  refine w_goto (q := 291) hm10 ⟨_, _, rfl⟩ ?_
  exact Wp.wk [true, true, false, false, false, false, false, false] h
theorem v_X12_cutsUp_70_208 {d : Nat} {x1 : Int32} {x3 : Int32} {x4 : Int32} {m : dM} {Q : dM → Prop} (h : c_X12_byteAt_70 d (x1 + x3) m (fun r1 m1 => c_X12_isDigit d r1 m1 (fun r2 m2 => ((r2.toInt = 0 → ((x3.toInt ≤ 4 → c_X12_token_70 d (2 : Int32) x1 x4 (0 : Int64) m2 (fun m3 => j_X12_cutsUp_70_291 (d + 1) (x1 + x3) m3 Q)) ∧ (4 < x3.toInt → c_X12_token_70 d (3 : Int32) x1 x4 (0 : Int64) m2 (fun m4 => j_X12_cutsUp_70_291 (d + 1) (x1 + x3) m4 Q)))) ∧ (r2.toInt ≠ 0 → ((4 ≤ x3.toInt → j_X12_cutsUp_70_244 (d + 1) x1 x3 x4 m2 Q) ∧ (x3.toInt < 4 → c_X12_byteAt_70 d (x1 + x3) m2 (fun r5 m5 => j_X12_cutsUp_70_244 (d + 1) x1 x3 ((((10 : Int32) * x4) + r5) - (48 : Int32)) m5 Q)))))))) : j_X12_cutsUp_70_208 (d + 1) x1 x3 x4 m Q := by
  refine w_aload_n (q := 209) hm10 ⟨⟨_, _, rfl⟩, rfl⟩ rfl ?_
  refine w_iload_n (q := 210) hm10 ⟨⟨_, _, rfl⟩, rfl⟩ rfl ?_
  refine w_iload_n (q := 211) hm10 ⟨⟨_, _, rfl⟩, rfl⟩ rfl ?_
  refine w_iadd (q := 212) hm10 ⟨⟨_, _, rfl⟩, rfl⟩ ?_
  refine w_call (q := 215) (n := 0) (vs := [.inr (.inr (some 70)), .inl (x1 + x3)]) (rest := []) (la := [oR 70, oI (x1 + x3)]) hm10 ⟨⟨_, _, rfl⟩, rfl⟩ rfl rfl rfl rfl hm4 rfl rfl (fun _ => ⟨_, _, rfl, rfl⟩) rfl (Wp.mono h ?_)
  rintro _ m1 ⟨r1, rfl, h⟩
  change Wp _ _ 215 _ [.inl r1] _ _
  refine w_call (q := 218) (n := 0) (vs := [.inl r1]) (rest := []) (la := [oI r1]) hm10 ⟨⟨_, _, rfl⟩, rfl⟩ rfl rfl rfl rfl hm5 rfl rfl (fun hz => absurd hz (by decide)) rfl (Wp.mono h ?_)
  rintro _ m2 ⟨r2, rfl, h⟩
  change Wp _ _ 218 _ [.inl r2] _ _
  refine w_if_eq (q := 221) (X := r2.toInt) hm10 ⟨⟨_, _, rfl⟩, rfl⟩ rfl (fun hc => ?_) (fun hc => ?_)
  · have h := h.1 hc
    refine w_aload_n (q := 251) hm10 ⟨⟨_, _, rfl⟩, rfl⟩ rfl ?_
    refine w_iload_n (q := 252) hm10 ⟨⟨_, _, rfl⟩, rfl⟩ rfl ?_
    refine w_iconst (q := 253) hm10 ⟨⟨_, _, rfl⟩, rfl⟩ iconst_4 ?_
    refine w_icmp_le (q := 256) (X := x3.toInt) (Y := 4) hm10 ⟨⟨_, _, rfl⟩, rfl⟩ rfl (by decide) (fun hc => ?_) (fun hc => ?_)
    · have h := h.1 hc
      refine w_iconst (q := 261) hm10 ⟨⟨_, _, rfl⟩, rfl⟩ iconst_2 ?_
      refine w_iload_n (q := 262) hm10 ⟨⟨_, _, rfl⟩, rfl⟩ rfl ?_
      refine w_iload (q := 264) hm10 ⟨⟨_, _, rfl⟩, rfl⟩ rfl ?_
      refine w_lconst (q := 265) hm10 ⟨⟨_, _, rfl⟩, rfl⟩ lconst_0 ?_
      refine w_call (q := 268) (n := 0) (vs := [.inr (.inr (some 70)), .inl (2 : Int32), .inl x1, .inl x4, .inr (.inl (0 : Int64))]) (rest := []) (la := [oR 70, oI (2 : Int32), oI x1, oI x4, oL (0 : Int64), none]) hm10 ⟨⟨_, _, rfl⟩, rfl⟩ rfl rfl rfl rfl hm9 rfl rfl (fun _ => ⟨_, _, rfl, rfl⟩) rfl (Wp.mono h ?_)
      rintro _ m3 ⟨rfl, h⟩
      change Wp _ _ 268 _ [] _ _
      refine w_iload_n (q := 269) hm10 ⟨⟨_, _, rfl⟩, rfl⟩ rfl ?_
      refine w_iload_n (q := 270) hm10 ⟨⟨_, _, rfl⟩, rfl⟩ rfl ?_
      refine w_iadd (q := 271) hm10 ⟨⟨_, _, rfl⟩, rfl⟩ ?_
      refine w_istore_n (q := 272) (l' := [oR 70, oI (x1 + x3), none, oI x3, oI x4, none, none, none]) hm10 ⟨⟨_, _, rfl⟩, rfl⟩ rfl rfl rfl ?_
      refine w_goto (q := 291) hm10 ⟨_, _, rfl⟩ ?_
      exact Wp.wk [true, true, false, false, false, false, false, false] h
    · have h := h.2 hc
      refine w_iconst (q := 257) hm10 ⟨⟨_, _, rfl⟩, rfl⟩ iconst_3 ?_
      refine w_goto (q := 261) hm10 ⟨_, _, rfl⟩ ?_
      refine w_iload_n (q := 262) hm10 ⟨⟨_, _, rfl⟩, rfl⟩ rfl ?_
      refine w_iload (q := 264) hm10 ⟨⟨_, _, rfl⟩, rfl⟩ rfl ?_
      refine w_lconst (q := 265) hm10 ⟨⟨_, _, rfl⟩, rfl⟩ lconst_0 ?_
      refine w_call (q := 268) (n := 0) (vs := [.inr (.inr (some 70)), .inl (3 : Int32), .inl x1, .inl x4, .inr (.inl (0 : Int64))]) (rest := []) (la := [oR 70, oI (3 : Int32), oI x1, oI x4, oL (0 : Int64), none]) hm10 ⟨⟨_, _, rfl⟩, rfl⟩ rfl rfl rfl rfl hm9 rfl rfl (fun _ => ⟨_, _, rfl, rfl⟩) rfl (Wp.mono h ?_)
      rintro _ m4 ⟨rfl, h⟩
      change Wp _ _ 268 _ [] _ _
      refine w_iload_n (q := 269) hm10 ⟨⟨_, _, rfl⟩, rfl⟩ rfl ?_
      refine w_iload_n (q := 270) hm10 ⟨⟨_, _, rfl⟩, rfl⟩ rfl ?_
      refine w_iadd (q := 271) hm10 ⟨⟨_, _, rfl⟩, rfl⟩ ?_
      refine w_istore_n (q := 272) (l' := [oR 70, oI (x1 + x3), none, oI x3, oI x4, none, none, none]) hm10 ⟨⟨_, _, rfl⟩, rfl⟩ rfl rfl rfl ?_
      refine w_goto (q := 291) hm10 ⟨_, _, rfl⟩ ?_
      exact Wp.wk [true, true, false, false, false, false, false, false] h
  · have h := h.2 hc
    refine w_iload_n (q := 222) hm10 ⟨⟨_, _, rfl⟩, rfl⟩ rfl ?_
    refine w_iconst (q := 223) hm10 ⟨⟨_, _, rfl⟩, rfl⟩ iconst_4 ?_
    refine w_icmp_ge (q := 226) (X := x3.toInt) (Y := 4) hm10 ⟨⟨_, _, rfl⟩, rfl⟩ rfl (by decide) (fun hc => ?_) (fun hc => ?_)
    · have h := h.1 hc
      exact h
    · have h := h.2 hc
      refine w_bipush (q := 228) hm10 ⟨⟨_, _, rfl⟩, rfl⟩ bipush_10 ?_
      refine w_iload (q := 230) hm10 ⟨⟨_, _, rfl⟩, rfl⟩ rfl ?_
      refine w_imul (q := 231) hm10 ⟨⟨_, _, rfl⟩, rfl⟩ ?_
      refine w_aload_n (q := 232) hm10 ⟨⟨_, _, rfl⟩, rfl⟩ rfl ?_
      refine w_iload_n (q := 233) hm10 ⟨⟨_, _, rfl⟩, rfl⟩ rfl ?_
      refine w_iload_n (q := 234) hm10 ⟨⟨_, _, rfl⟩, rfl⟩ rfl ?_
      refine w_iadd (q := 235) hm10 ⟨⟨_, _, rfl⟩, rfl⟩ ?_
      refine w_call (q := 238) (n := 0) (vs := [.inr (.inr (some 70)), .inl (x1 + x3)]) (rest := [.inl ((10 : Int32) * x4)]) (la := [oR 70, oI (x1 + x3)]) hm10 ⟨⟨_, _, rfl⟩, rfl⟩ rfl rfl rfl rfl hm4 rfl rfl (fun _ => ⟨_, _, rfl, rfl⟩) rfl (Wp.mono h ?_)
      rintro _ m5 ⟨r5, rfl, h⟩
      change Wp _ _ 238 _ [.inl r5, .inl ((10 : Int32) * x4)] _ _
      refine w_iadd (q := 239) hm10 ⟨⟨_, _, rfl⟩, rfl⟩ ?_
      refine w_bipush (q := 241) hm10 ⟨⟨_, _, rfl⟩, rfl⟩ bipush_48 ?_
      refine w_isub (q := 242) hm10 ⟨⟨_, _, rfl⟩, rfl⟩ ?_
      refine w_istore (q := 244) (l' := [oR 70, oI x1, none, oI x3, oI ((((10 : Int32) * x4) + r5) - (48 : Int32)), none, none, none]) hm10 ⟨⟨_, _, rfl⟩, rfl⟩ rfl rfl rfl ?_
      exact h
theorem v_X12_cutsUp_70_244 {d : Nat} {x1 : Int32} {x3 : Int32} {x4 : Int32} {m : dM} {Q : dM → Prop} (h : j_X12_cutsUp_70_208 (d + 1) x1 (x3 + (1 : Int32)) x4 m Q) : j_X12_cutsUp_70_244 (d + 1) x1 x3 x4 m Q := by
  refine w_iinc (q := 247) (l' := [oR 70, oI x1, none, oI (x3 + (1 : Int32)), oI x4, none, none, none]) hm10 ⟨⟨_, _, rfl⟩, rfl⟩ rfl rfl rfl iconst_1 rfl ?_
  refine w_goto (q := 208) hm10 ⟨_, _, rfl⟩ ?_
  exact h
theorem v_X12_cutsUp_70_291 {d : Nat} {x1 : Int32} {m : dM} {Q : dM → Prop} (h : j_X12_cutsUp_70_7 (d + 1) x1 m Q) : j_X12_cutsUp_70_291 (d + 1) x1 m Q := by
  refine w_goto (q := 7) hm10 ⟨_, _, rfl⟩ ?_
  exact h
theorem v_X12_plain_70 {d : Nat} {x1 : Int32} {m : dM} {Q : dM → Prop} (h : ((0 ≤ x1.toInt ∧ x1.toInt < 2) ∧ ((0 ≤ x1.toInt ∧ x1.toInt < 2) ∧ ((0 ≤ x1.toInt ∧ x1.toInt < 2) ∧ ((0 ≤ x1.toInt ∧ x1.toInt < 2) ∧ ((0 ≤ x1.toInt ∧ x1.toInt < 2) ∧ ((0 ≤ x1.toInt ∧ x1.toInt < 2) ∧ ((0 ≤ x1.toInt ∧ x1.toInt < 2) ∧ j_X12_plain_70_52 (d + 1) x1 (0 : Int32) (dSet (dSet (dSet (dSet (dSet (dSet (dSet m 80 x1.toNatClampNeg (0 : Int32)) 82 x1.toNatClampNeg (0 : Int32)) 86 x1.toNatClampNeg (0 : Int32)) 91 x1.toNatClampNeg (0 : Int32)) 92 x1.toNatClampNeg (0 : Int32)) 93 x1.toNatClampNeg (100 : Int32)) 94 x1.toNatClampNeg (0 : Int32)) Q)))))))) : c_X12_plain_70 (d + 1) x1 m Q := by
  refine w_aload_n (q := 1) hm17 ⟨⟨_, _, rfl⟩, rfl⟩ rfl ?_
  refine w_getr (q := 4) hm17 ⟨⟨_, _, rfl⟩, rfl⟩ rfl ?_
  refine w_iload_n (q := 5) hm17 ⟨⟨_, _, rfl⟩, rfl⟩ rfl ?_
  refine w_iconst (q := 6) hm17 ⟨⟨_, _, rfl⟩, rfl⟩ iconst_0 ?_
  obtain ⟨hi, h⟩ := h
  refine w_iast (q := 7) hm17 ⟨⟨_, _, rfl⟩, rfl⟩ rfl hi rfl rfl ?_
  refine w_aload_n (q := 8) hm17 ⟨⟨_, _, rfl⟩, rfl⟩ rfl ?_
  refine w_getr (q := 11) hm17 ⟨⟨_, _, rfl⟩, rfl⟩ rfl ?_
  refine w_iload_n (q := 12) hm17 ⟨⟨_, _, rfl⟩, rfl⟩ rfl ?_
  refine w_iconst (q := 13) hm17 ⟨⟨_, _, rfl⟩, rfl⟩ iconst_0 ?_
  obtain ⟨hi, h⟩ := h
  refine w_iast (q := 14) hm17 ⟨⟨_, _, rfl⟩, rfl⟩ rfl hi rfl rfl ?_
  refine w_aload_n (q := 15) hm17 ⟨⟨_, _, rfl⟩, rfl⟩ rfl ?_
  refine w_getr (q := 18) hm17 ⟨⟨_, _, rfl⟩, rfl⟩ rfl ?_
  refine w_iload_n (q := 19) hm17 ⟨⟨_, _, rfl⟩, rfl⟩ rfl ?_
  refine w_iconst (q := 20) hm17 ⟨⟨_, _, rfl⟩, rfl⟩ iconst_0 ?_
  obtain ⟨hi, h⟩ := h
  refine w_iast (q := 21) hm17 ⟨⟨_, _, rfl⟩, rfl⟩ rfl hi rfl rfl ?_
  refine w_aload_n (q := 22) hm17 ⟨⟨_, _, rfl⟩, rfl⟩ rfl ?_
  refine w_getr (q := 25) hm17 ⟨⟨_, _, rfl⟩, rfl⟩ rfl ?_
  refine w_iload_n (q := 26) hm17 ⟨⟨_, _, rfl⟩, rfl⟩ rfl ?_
  refine w_iconst (q := 27) hm17 ⟨⟨_, _, rfl⟩, rfl⟩ iconst_0 ?_
  obtain ⟨hi, h⟩ := h
  refine w_iast (q := 28) hm17 ⟨⟨_, _, rfl⟩, rfl⟩ rfl hi rfl rfl ?_
  refine w_aload_n (q := 29) hm17 ⟨⟨_, _, rfl⟩, rfl⟩ rfl ?_
  refine w_getr (q := 32) hm17 ⟨⟨_, _, rfl⟩, rfl⟩ rfl ?_
  refine w_iload_n (q := 33) hm17 ⟨⟨_, _, rfl⟩, rfl⟩ rfl ?_
  refine w_iconst (q := 34) hm17 ⟨⟨_, _, rfl⟩, rfl⟩ iconst_0 ?_
  obtain ⟨hi, h⟩ := h
  refine w_iast (q := 35) hm17 ⟨⟨_, _, rfl⟩, rfl⟩ rfl hi rfl rfl ?_
  refine w_aload_n (q := 36) hm17 ⟨⟨_, _, rfl⟩, rfl⟩ rfl ?_
  refine w_getr (q := 39) hm17 ⟨⟨_, _, rfl⟩, rfl⟩ rfl ?_
  refine w_iload_n (q := 40) hm17 ⟨⟨_, _, rfl⟩, rfl⟩ rfl ?_
  refine w_bipush (q := 42) hm17 ⟨⟨_, _, rfl⟩, rfl⟩ bipush_100 ?_
  obtain ⟨hi, h⟩ := h
  refine w_iast (q := 43) hm17 ⟨⟨_, _, rfl⟩, rfl⟩ rfl hi rfl rfl ?_
  refine w_aload_n (q := 44) hm17 ⟨⟨_, _, rfl⟩, rfl⟩ rfl ?_
  refine w_getr (q := 47) hm17 ⟨⟨_, _, rfl⟩, rfl⟩ rfl ?_
  refine w_iload_n (q := 48) hm17 ⟨⟨_, _, rfl⟩, rfl⟩ rfl ?_
  refine w_iconst (q := 49) hm17 ⟨⟨_, _, rfl⟩, rfl⟩ iconst_0 ?_
  obtain ⟨hi, h⟩ := h
  refine w_iast (q := 50) hm17 ⟨⟨_, _, rfl⟩, rfl⟩ rfl hi rfl rfl ?_
  refine w_iconst (q := 51) hm17 ⟨⟨_, _, rfl⟩, rfl⟩ iconst_0 ?_
  refine w_istore_n (q := 52) (l' := [oR 70, oI x1, oI (0 : Int32)]) hm17 ⟨⟨_, _, rfl⟩, rfl⟩ rfl rfl rfl ?_
  exact h
theorem v_X12_plain_70_52 {d : Nat} {x1 : Int32} {x2 : Int32} {m : dM} {Q : dM → Prop} (h : ((4 ≤ x2.toInt → Q m) ∧ (x2.toInt < 4 → ((0 ≤ (((4 : Int32) * x1) + x2).toInt ∧ (((4 : Int32) * x1) + x2).toInt < 8) ∧ ((0 ≤ (((4 : Int32) * x1) + x2).toInt ∧ (((4 : Int32) * x1) + x2).toInt < 8) ∧ j_X12_plain_70_52 (d + 1) x1 (x2 + (1 : Int32)) (dSet (dSet m 95 (((4 : Int32) * x1) + x2).toNatClampNeg (0 : Int32)) 96 (((4 : Int32) * x1) + x2).toNatClampNeg (0 : Int32)) Q))))) : j_X12_plain_70_52 (d + 1) x1 x2 m Q := by
  refine w_iload_n (q := 53) hm17 ⟨⟨_, _, rfl⟩, rfl⟩ rfl ?_
  refine w_iconst (q := 54) hm17 ⟨⟨_, _, rfl⟩, rfl⟩ iconst_4 ?_
  refine w_icmp_ge (q := 57) (X := x2.toInt) (Y := 4) hm17 ⟨⟨_, _, rfl⟩, rfl⟩ rfl (by decide) (fun hc => ?_) (fun hc => ?_)
  · have h := h.1 hc
    exact w_retv hm17 ⟨⟨_, _, rfl⟩, rfl⟩ rfl h
  · have h := h.2 hc
    refine w_aload_n (q := 58) hm17 ⟨⟨_, _, rfl⟩, rfl⟩ rfl ?_
    refine w_getr (q := 61) hm17 ⟨⟨_, _, rfl⟩, rfl⟩ rfl ?_
    refine w_iconst (q := 62) hm17 ⟨⟨_, _, rfl⟩, rfl⟩ iconst_4 ?_
    refine w_iload_n (q := 63) hm17 ⟨⟨_, _, rfl⟩, rfl⟩ rfl ?_
    refine w_imul (q := 64) hm17 ⟨⟨_, _, rfl⟩, rfl⟩ ?_
    refine w_iload_n (q := 65) hm17 ⟨⟨_, _, rfl⟩, rfl⟩ rfl ?_
    refine w_iadd (q := 66) hm17 ⟨⟨_, _, rfl⟩, rfl⟩ ?_
    refine w_iconst (q := 67) hm17 ⟨⟨_, _, rfl⟩, rfl⟩ iconst_0 ?_
    obtain ⟨hi, h⟩ := h
    refine w_iast (q := 68) hm17 ⟨⟨_, _, rfl⟩, rfl⟩ rfl hi rfl rfl ?_
    refine w_aload_n (q := 69) hm17 ⟨⟨_, _, rfl⟩, rfl⟩ rfl ?_
    refine w_getr (q := 72) hm17 ⟨⟨_, _, rfl⟩, rfl⟩ rfl ?_
    refine w_iconst (q := 73) hm17 ⟨⟨_, _, rfl⟩, rfl⟩ iconst_4 ?_
    refine w_iload_n (q := 74) hm17 ⟨⟨_, _, rfl⟩, rfl⟩ rfl ?_
    refine w_imul (q := 75) hm17 ⟨⟨_, _, rfl⟩, rfl⟩ ?_
    refine w_iload_n (q := 76) hm17 ⟨⟨_, _, rfl⟩, rfl⟩ rfl ?_
    refine w_iadd (q := 77) hm17 ⟨⟨_, _, rfl⟩, rfl⟩ ?_
    refine w_iconst (q := 78) hm17 ⟨⟨_, _, rfl⟩, rfl⟩ iconst_0 ?_
    obtain ⟨hi, h⟩ := h
    refine w_iast (q := 79) hm17 ⟨⟨_, _, rfl⟩, rfl⟩ rfl hi rfl rfl ?_
    refine w_iinc (q := 82) (l' := [oR 70, oI x1, oI (x2 + (1 : Int32))]) hm17 ⟨⟨_, _, rfl⟩, rfl⟩ rfl rfl rfl iconst_1 rfl ?_
    refine w_goto (q := 52) hm17 ⟨_, _, rfl⟩ ?_
    exact h
theorem v_X12_is_70 {d : Nat} {x1 : Int32} {m : dM} {Q : Int32 → dM → Prop} (h : (((m.1 70 13).toInt ≠ 0 → j_X12_is_70_24 (d + 1) m Q) ∧ ((m.1 70 13).toInt = 0 → ((0 ≤ (m.1 70 11).toInt ∧ (m.1 70 11).toInt < 403) ∧ (((m.1 73 (m.1 70 11).toNatClampNeg).toInt ≠ x1.toInt → j_X12_is_70_24 (d + 1) m Q) ∧ ((m.1 73 (m.1 70 11).toNatClampNeg).toInt = x1.toInt → Q (1 : Int32) m)))))) : c_X12_is_70 (d + 1) x1 m Q := by
  refine w_aload_n (q := 1) hm12 ⟨⟨_, _, rfl⟩, rfl⟩ rfl ?_
  refine w_getf (q := 4) (v := (m.1 70 13)) hm12 ⟨⟨_, _, rfl⟩, rfl⟩ rfl rfl ?_
  refine w_if_ne (q := 7) (X := (m.1 70 13).toInt) hm12 ⟨⟨_, _, rfl⟩, rfl⟩ rfl (fun hc => ?_) (fun hc => ?_)
  · have h := h.1 hc
    exact Wp.wk [false, false] h
  · have h := h.2 hc
    refine w_aload_n (q := 8) hm12 ⟨⟨_, _, rfl⟩, rfl⟩ rfl ?_
    refine w_getr (q := 11) hm12 ⟨⟨_, _, rfl⟩, rfl⟩ rfl ?_
    refine w_aload_n (q := 12) hm12 ⟨⟨_, _, rfl⟩, rfl⟩ rfl ?_
    refine w_getf (q := 15) (v := (m.1 70 11)) hm12 ⟨⟨_, _, rfl⟩, rfl⟩ rfl rfl ?_
    obtain ⟨hi, h⟩ := h
    refine w_iald (q := 16) (v := (m.1 73 (m.1 70 11).toNatClampNeg)) hm12 ⟨⟨_, _, rfl⟩, rfl⟩ rfl hi rfl rfl ?_
    refine w_iload_n (q := 17) hm12 ⟨⟨_, _, rfl⟩, rfl⟩ rfl ?_
    refine w_icmp_ne (q := 20) (X := (m.1 73 (m.1 70 11).toNatClampNeg).toInt) (Y := x1.toInt) hm12 ⟨⟨_, _, rfl⟩, rfl⟩ rfl rfl (fun hc => ?_) (fun hc => ?_)
    · have h := h.1 hc
      exact Wp.wk [false, false] h
    · have h := h.2 hc
      refine w_iconst (q := 21) hm12 ⟨⟨_, _, rfl⟩, rfl⟩ iconst_1 ?_
      refine w_goto (q := 25) hm12 ⟨_, _, rfl⟩ ?_
      exact w_retz hm12 ⟨⟨_, _, rfl⟩, rfl⟩ rfl (by decide) h
theorem v_X12_is_70_24 {d : Nat} {m : dM} {Q : Int32 → dM → Prop} (h : Q (0 : Int32) m) : j_X12_is_70_24 (d + 1) m Q := by
  refine w_iconst (q := 25) hm12 ⟨⟨_, _, rfl⟩, rfl⟩ iconst_0 ?_
  exact w_retz hm12 ⟨⟨_, _, rfl⟩, rfl⟩ rfl (by decide) h
theorem v_X12_fail_70 {d : Nat} {x1 : Int32} {m : dM} {Q : dM → Prop} (h : (((m.1 70 13).toInt ≤ 0 → ((0 ≤ (m.1 70 11).toInt ∧ (m.1 70 11).toInt < 403) ∧ Q (dSet (dSet m 70 13 x1) 70 14 (m.1 74 (m.1 70 11).toNatClampNeg)))) ∧ (0 < (m.1 70 13).toInt → Q m))) : c_X12_fail_70 (d + 1) x1 m Q := by
  refine w_aload_n (q := 1) hm13 ⟨⟨_, _, rfl⟩, rfl⟩ rfl ?_
  refine w_getf (q := 4) (v := (m.1 70 13)) hm13 ⟨⟨_, _, rfl⟩, rfl⟩ rfl rfl ?_
  refine w_if_le (q := 7) (X := (m.1 70 13).toInt) hm13 ⟨⟨_, _, rfl⟩, rfl⟩ rfl (fun hc => ?_) (fun hc => ?_)
  · have h := h.1 hc
    refine w_aload_n (q := 9) hm13 ⟨⟨_, _, rfl⟩, rfl⟩ rfl ?_
    refine w_iload_n (q := 10) hm13 ⟨⟨_, _, rfl⟩, rfl⟩ rfl ?_
    refine w_putf (q := 13) hm13 ⟨⟨_, _, rfl⟩, rfl⟩ rfl rfl rfl ?_
    refine w_aload_n (q := 14) hm13 ⟨⟨_, _, rfl⟩, rfl⟩ rfl ?_
    refine w_aload_n (q := 15) hm13 ⟨⟨_, _, rfl⟩, rfl⟩ rfl ?_
    refine w_getr (q := 18) hm13 ⟨⟨_, _, rfl⟩, rfl⟩ rfl ?_
    refine w_aload_n (q := 19) hm13 ⟨⟨_, _, rfl⟩, rfl⟩ rfl ?_
    refine w_getf (q := 22) (v := (m.1 70 11)) hm13 ⟨⟨_, _, rfl⟩, rfl⟩ rfl rfl ?_
    obtain ⟨hi, h⟩ := h
    refine w_iald (q := 23) (v := (m.1 74 (m.1 70 11).toNatClampNeg)) hm13 ⟨⟨_, _, rfl⟩, rfl⟩ rfl hi rfl rfl ?_
    refine w_putf (q := 26) hm13 ⟨⟨_, _, rfl⟩, rfl⟩ rfl rfl rfl ?_
    exact w_retv hm13 ⟨⟨_, _, rfl⟩, rfl⟩ rfl h
  · have h := h.2 hc
    exact w_retv hm13 ⟨⟨_, _, rfl⟩, rfl⟩ rfl h
theorem v_X12_goesOn_70 {d : Nat} {m : dM} {Q : dM → Prop} (h : (((m.1 70 11).toInt ≠ 400 → j_X12_goesOn_70_28 (d + 1) (dSet m 70 11 ((m.1 70 11) + (1 : Int32))) Q) ∧ ((m.1 70 11).toInt = 400 → c_X12_fail_70 d (2 : Int32) m (fun m1 => j_X12_goesOn_70_28 (d + 1) m1 Q)))) : c_X12_goesOn_70 (d + 1) m Q := by
  refine w_aload_n (q := 1) hm15 ⟨⟨_, _, rfl⟩, rfl⟩ rfl ?_
  refine w_getf (q := 4) (v := (m.1 70 11)) hm15 ⟨⟨_, _, rfl⟩, rfl⟩ rfl rfl ?_
  refine w_sipush (q := 7) hm15 ⟨⟨_, _, rfl⟩, rfl⟩ sipush_400 ?_
  refine w_icmp_ne (q := 10) (X := (m.1 70 11).toInt) (Y := 400) hm15 ⟨⟨_, _, rfl⟩, rfl⟩ rfl (by decide) (fun hc => ?_) (fun hc => ?_)
  · have h := h.1 hc
    refine w_aload_n (q := 19) hm15 ⟨⟨_, _, rfl⟩, rfl⟩ rfl ?_
    refine w_dup (q := 20) hm15 ⟨⟨_, _, rfl⟩, rfl⟩ rfl ?_
    refine w_getf (q := 23) (v := (m.1 70 11)) hm15 ⟨⟨_, _, rfl⟩, rfl⟩ rfl rfl ?_
    refine w_iconst (q := 24) hm15 ⟨⟨_, _, rfl⟩, rfl⟩ iconst_1 ?_
    refine w_iadd (q := 25) hm15 ⟨⟨_, _, rfl⟩, rfl⟩ ?_
    refine w_putf (q := 28) hm15 ⟨⟨_, _, rfl⟩, rfl⟩ rfl rfl rfl ?_
    exact Wp.wk [false] h
  · have h := h.2 hc
    refine w_aload_n (q := 11) hm15 ⟨⟨_, _, rfl⟩, rfl⟩ rfl ?_
    refine w_iconst (q := 12) hm15 ⟨⟨_, _, rfl⟩, rfl⟩ iconst_2 ?_
    refine w_call (q := 15) (n := 0) (vs := [.inr (.inr (some 70)), .inl (2 : Int32)]) (rest := []) (la := [oR 70, oI (2 : Int32)]) hm15 ⟨⟨_, _, rfl⟩, rfl⟩ rfl rfl rfl rfl hm13 rfl rfl (fun _ => ⟨_, _, rfl, rfl⟩) rfl (Wp.mono h ?_)
    rintro _ m1 ⟨rfl, h⟩
    change Wp _ _ 15 _ [] _ _
    refine w_goto (q := 28) hm15 ⟨_, _, rfl⟩ ?_
    exact Wp.wk [false] h
theorem v_X12_goesOn_70_28 {d : Nat} {m : dM} {Q : dM → Prop} (h : Q m) : j_X12_goesOn_70_28 (d + 1) m Q := by
  exact w_retv hm15 ⟨⟨_, _, rfl⟩, rfl⟩ rfl h
theorem v_X12_roomFor_70 {d : Nat} {x1 : Int32} {x2 : Int32} {m : dM} {Q : dM → Prop} (h : ((x1.toInt ≠ x2.toInt → j_X12_roomFor_70_10 (d + 1) m Q) ∧ (x1.toInt = x2.toInt → c_X12_fail_70 d (2 : Int32) m (fun m1 => j_X12_roomFor_70_10 (d + 1) m1 Q)))) : c_X12_roomFor_70 (d + 1) x1 x2 m Q := by
  refine w_iload_n (q := 1) hm20 ⟨⟨_, _, rfl⟩, rfl⟩ rfl ?_
  refine w_iload_n (q := 2) hm20 ⟨⟨_, _, rfl⟩, rfl⟩ rfl ?_
  refine w_icmp_ne (q := 5) (X := x1.toInt) (Y := x2.toInt) hm20 ⟨⟨_, _, rfl⟩, rfl⟩ rfl rfl (fun hc => ?_) (fun hc => ?_)
  · have h := h.1 hc
    exact Wp.wk [true, false, false] h
  · have h := h.2 hc
    refine w_aload_n (q := 6) hm20 ⟨⟨_, _, rfl⟩, rfl⟩ rfl ?_
    refine w_iconst (q := 7) hm20 ⟨⟨_, _, rfl⟩, rfl⟩ iconst_2 ?_
    refine w_call (q := 10) (n := 0) (vs := [.inr (.inr (some 70)), .inl (2 : Int32)]) (rest := []) (la := [oR 70, oI (2 : Int32)]) hm20 ⟨⟨_, _, rfl⟩, rfl⟩ rfl rfl rfl rfl hm13 rfl rfl (fun _ => ⟨_, _, rfl, rfl⟩) rfl (Wp.mono h ?_)
    rintro _ m1 ⟨rfl, h⟩
    change Wp _ _ 10 _ [] _ _
    exact Wp.wk [true, false, false] h
theorem v_X12_roomFor_70_10 {d : Nat} {m : dM} {Q : dM → Prop} (h : (((m.1 70 13).toInt ≠ 0 → j_X12_roomFor_70_21 (d + 1) m Q) ∧ ((m.1 70 13).toInt = 0 → c_X12_goesOn_70 d m (fun m1 => j_X12_roomFor_70_21 (d + 1) m1 Q)))) : j_X12_roomFor_70_10 (d + 1) m Q := by
  refine w_aload_n (q := 11) hm20 ⟨⟨_, _, rfl⟩, rfl⟩ rfl ?_
  refine w_getf (q := 14) (v := (m.1 70 13)) hm20 ⟨⟨_, _, rfl⟩, rfl⟩ rfl rfl ?_
  refine w_if_ne (q := 17) (X := (m.1 70 13).toInt) hm20 ⟨⟨_, _, rfl⟩, rfl⟩ rfl (fun hc => ?_) (fun hc => ?_)
  · have h := h.1 hc
    exact Wp.wk [false, false, false] h
  · have h := h.2 hc
    refine w_aload_n (q := 18) hm20 ⟨⟨_, _, rfl⟩, rfl⟩ rfl ?_
    refine w_call (q := 21) (n := 0) (vs := [.inr (.inr (some 70))]) (rest := []) (la := [oR 70]) hm20 ⟨⟨_, _, rfl⟩, rfl⟩ rfl rfl rfl rfl hm15 rfl rfl (fun _ => ⟨_, _, rfl, rfl⟩) rfl (Wp.mono h ?_)
    rintro _ m1 ⟨rfl, h⟩
    change Wp _ _ 21 _ [] _ _
    exact Wp.wk [false, false, false] h
theorem v_X12_roomFor_70_21 {d : Nat} {m : dM} {Q : dM → Prop} (h : Q m) : j_X12_roomFor_70_21 (d + 1) m Q := by
  exact w_retv hm20 ⟨⟨_, _, rfl⟩, rfl⟩ rfl h
theorem v_X12_must_70 {d : Nat} {x1 : Int32} {m : dM} {Q : dM → Prop} (h : c_X12_is_70 d x1 m (fun r1 m1 => ((r1.toInt = 0 → c_X12_fail_70 d (1 : Int32) m1 (fun m2 => j_X12_must_70_20 (d + 1) m2 Q)) ∧ (r1.toInt ≠ 0 → c_X12_goesOn_70 d m1 (fun m3 => j_X12_must_70_20 (d + 1) m3 Q))))) : c_X12_must_70 (d + 1) x1 m Q := by
  refine w_aload_n (q := 1) hm16 ⟨⟨_, _, rfl⟩, rfl⟩ rfl ?_
  refine w_iload_n (q := 2) hm16 ⟨⟨_, _, rfl⟩, rfl⟩ rfl ?_
  refine w_call (q := 5) (n := 0) (vs := [.inr (.inr (some 70)), .inl x1]) (rest := []) (la := [oR 70, oI x1]) hm16 ⟨⟨_, _, rfl⟩, rfl⟩ rfl rfl rfl rfl hm12 rfl rfl (fun _ => ⟨_, _, rfl, rfl⟩) rfl (Wp.mono h ?_)
  rintro _ m1 ⟨r1, rfl, h⟩
  change Wp _ _ 5 _ [.inl r1] _ _
  refine w_if_eq (q := 8) (X := r1.toInt) hm16 ⟨⟨_, _, rfl⟩, rfl⟩ rfl (fun hc => ?_) (fun hc => ?_)
  · have h := h.1 hc
    refine w_aload_n (q := 16) hm16 ⟨⟨_, _, rfl⟩, rfl⟩ rfl ?_
    refine w_iconst (q := 17) hm16 ⟨⟨_, _, rfl⟩, rfl⟩ iconst_1 ?_
    refine w_call (q := 20) (n := 0) (vs := [.inr (.inr (some 70)), .inl (1 : Int32)]) (rest := []) (la := [oR 70, oI (1 : Int32)]) hm16 ⟨⟨_, _, rfl⟩, rfl⟩ rfl rfl rfl rfl hm13 rfl rfl (fun _ => ⟨_, _, rfl, rfl⟩) rfl (Wp.mono h ?_)
    rintro _ m2 ⟨rfl, h⟩
    change Wp _ _ 20 _ [] _ _
    exact Wp.wk [false, false] h
  · have h := h.2 hc
    refine w_aload_n (q := 9) hm16 ⟨⟨_, _, rfl⟩, rfl⟩ rfl ?_
    refine w_call (q := 12) (n := 0) (vs := [.inr (.inr (some 70))]) (rest := []) (la := [oR 70]) hm16 ⟨⟨_, _, rfl⟩, rfl⟩ rfl rfl rfl rfl hm15 rfl rfl (fun _ => ⟨_, _, rfl, rfl⟩) rfl (Wp.mono h ?_)
    rintro _ m3 ⟨rfl, h⟩
    change Wp _ _ 12 _ [] _ _
    refine w_goto (q := 20) hm16 ⟨_, _, rfl⟩ ?_
    exact Wp.wk [false, false] h
theorem v_X12_must_70_20 {d : Nat} {m : dM} {Q : dM → Prop} (h : Q m) : j_X12_must_70_20 (d + 1) m Q := by
  exact w_retv hm16 ⟨⟨_, _, rfl⟩, rfl⟩ rfl h
theorem v_X12_wrong_70 {d : Nat} {x1 : Int32} {x2 : Int32} {m : dM} {Q : dM → Prop} (h : ((0 ≤ x2.toInt ∧ x2.toInt < 403) ∧ ((0 < (m.1 70 13).toInt → j_X12_wrong_70_45 (d + 1) m Q) ∧ ((m.1 70 13).toInt ≤ 0 → (((m.1 70 15).toInt = 0 → j_X12_wrong_70_46 (d + 1) x1 (m.1 74 x2.toNatClampNeg) m Q) ∧ ((m.1 70 15).toInt ≠ 0 → (((m.1 70 16).toInt < (m.1 74 x2.toNatClampNeg).toInt → j_X12_wrong_70_45 (d + 1) m Q) ∧ ((m.1 74 x2.toNatClampNeg).toInt ≤ (m.1 70 16).toInt → (((m.1 74 x2.toNatClampNeg).toInt ≠ (m.1 70 16).toInt → j_X12_wrong_70_46 (d + 1) x1 (m.1 74 x2.toNatClampNeg) m Q) ∧ ((m.1 74 x2.toNatClampNeg).toInt = (m.1 70 16).toInt → ((x1.toInt < (m.1 70 15).toInt → j_X12_wrong_70_46 (d + 1) x1 (m.1 74 x2.toNatClampNeg) m Q) ∧ ((m.1 70 15).toInt ≤ x1.toInt → j_X12_wrong_70_45 (d + 1) m Q)))))))))))) : c_X12_wrong_70 (d + 1) x1 x2 m Q := by
  refine w_aload_n (q := 1) hm14 ⟨⟨_, _, rfl⟩, rfl⟩ rfl ?_
  refine w_getr (q := 4) hm14 ⟨⟨_, _, rfl⟩, rfl⟩ rfl ?_
  refine w_iload_n (q := 5) hm14 ⟨⟨_, _, rfl⟩, rfl⟩ rfl ?_
  obtain ⟨hi, h⟩ := h
  refine w_iald (q := 6) (v := (m.1 74 x2.toNatClampNeg)) hm14 ⟨⟨_, _, rfl⟩, rfl⟩ rfl hi rfl rfl ?_
  refine w_istore_n (q := 7) (l' := [oR 70, oI x1, oI x2, oI (m.1 74 x2.toNatClampNeg)]) hm14 ⟨⟨_, _, rfl⟩, rfl⟩ rfl rfl rfl ?_
  refine w_aload_n (q := 8) hm14 ⟨⟨_, _, rfl⟩, rfl⟩ rfl ?_
  refine w_getf (q := 11) (v := (m.1 70 13)) hm14 ⟨⟨_, _, rfl⟩, rfl⟩ rfl rfl ?_
  refine w_if_gt (q := 14) (X := (m.1 70 13).toInt) hm14 ⟨⟨_, _, rfl⟩, rfl⟩ rfl (fun hc => ?_) (fun hc => ?_)
  · have h := h.1 hc
    exact Wp.wk [false, false, false, false] h
  · have h := h.2 hc
    refine w_aload_n (q := 15) hm14 ⟨⟨_, _, rfl⟩, rfl⟩ rfl ?_
    refine w_getf (q := 18) (v := (m.1 70 15)) hm14 ⟨⟨_, _, rfl⟩, rfl⟩ rfl rfl ?_
    refine w_if_eq (q := 21) (X := (m.1 70 15).toInt) hm14 ⟨⟨_, _, rfl⟩, rfl⟩ rfl (fun hc => ?_) (fun hc => ?_)
    · have h := h.1 hc
      exact Wp.wk [true, true, false, true] h
    · have h := h.2 hc
      refine w_iload_n (q := 22) hm14 ⟨⟨_, _, rfl⟩, rfl⟩ rfl ?_
      refine w_aload_n (q := 23) hm14 ⟨⟨_, _, rfl⟩, rfl⟩ rfl ?_
      refine w_getf (q := 26) (v := (m.1 70 16)) hm14 ⟨⟨_, _, rfl⟩, rfl⟩ rfl rfl ?_
      refine w_icmp_gt (q := 29) (X := (m.1 74 x2.toNatClampNeg).toInt) (Y := (m.1 70 16).toInt) hm14 ⟨⟨_, _, rfl⟩, rfl⟩ rfl rfl (fun hc => ?_) (fun hc => ?_)
      · have h := h.1 hc
        exact Wp.wk [false, false, false, false] h
      · have h := h.2 hc
        refine w_iload_n (q := 30) hm14 ⟨⟨_, _, rfl⟩, rfl⟩ rfl ?_
        refine w_aload_n (q := 31) hm14 ⟨⟨_, _, rfl⟩, rfl⟩ rfl ?_
        refine w_getf (q := 34) (v := (m.1 70 16)) hm14 ⟨⟨_, _, rfl⟩, rfl⟩ rfl rfl ?_
        refine w_icmp_ne (q := 37) (X := (m.1 74 x2.toNatClampNeg).toInt) (Y := (m.1 70 16).toInt) hm14 ⟨⟨_, _, rfl⟩, rfl⟩ rfl rfl (fun hc => ?_) (fun hc => ?_)
        · have h := h.1 hc
          exact Wp.wk [true, true, false, true] h
        · have h := h.2 hc
          refine w_iload_n (q := 38) hm14 ⟨⟨_, _, rfl⟩, rfl⟩ rfl ?_
          refine w_aload_n (q := 39) hm14 ⟨⟨_, _, rfl⟩, rfl⟩ rfl ?_
          refine w_getf (q := 42) (v := (m.1 70 15)) hm14 ⟨⟨_, _, rfl⟩, rfl⟩ rfl rfl ?_
          refine w_icmp_lt (q := 45) (X := x1.toInt) (Y := (m.1 70 15).toInt) hm14 ⟨⟨_, _, rfl⟩, rfl⟩ rfl rfl (fun hc => ?_) (fun hc => ?_)
          · have h := h.1 hc
            exact Wp.wk [true, true, false, true] h
          · have h := h.2 hc
            exact Wp.wk [false, false, false, false] h
theorem v_X12_wrong_70_45 {d : Nat} {m : dM} {Q : dM → Prop} (h : Q m) : j_X12_wrong_70_45 (d + 1) m Q := by
  exact w_retv hm14 ⟨⟨_, _, rfl⟩, rfl⟩ rfl h
theorem v_X12_wrong_70_46 {d : Nat} {x1 : Int32} {x3 : Int32} {m : dM} {Q : dM → Prop} (h : Q (dSet (dSet m 70 15 x1) 70 16 x3)) : j_X12_wrong_70_46 (d + 1) x1 x3 m Q := by
  refine w_aload_n (q := 47) hm14 ⟨⟨_, _, rfl⟩, rfl⟩ rfl ?_
  refine w_iload_n (q := 48) hm14 ⟨⟨_, _, rfl⟩, rfl⟩ rfl ?_
  refine w_putf (q := 51) hm14 ⟨⟨_, _, rfl⟩, rfl⟩ rfl rfl rfl ?_
  refine w_aload_n (q := 52) hm14 ⟨⟨_, _, rfl⟩, rfl⟩ rfl ?_
  refine w_iload_n (q := 53) hm14 ⟨⟨_, _, rfl⟩, rfl⟩ rfl ?_
  refine w_putf (q := 56) hm14 ⟨⟨_, _, rfl⟩, rfl⟩ rfl rfl rfl ?_
  exact w_retv hm14 ⟨⟨_, _, rfl⟩, rfl⟩ rfl h
theorem v_X12_named_70 {d : Nat} {m : dM} {Q : Int32 → dM → Prop} (h : c_X12_must_70 d (1 : Int32) m (fun m1 => j_X12_named_70_12 (d + 1) (m.1 70 11) (0 : Int32) m1 Q)) : c_X12_named_70 (d + 1) m Q := by
  refine w_aload_n (q := 1) hm22 ⟨⟨_, _, rfl⟩, rfl⟩ rfl ?_
  refine w_getf (q := 4) (v := (m.1 70 11)) hm22 ⟨⟨_, _, rfl⟩, rfl⟩ rfl rfl ?_
  refine w_istore_n (q := 5) (l' := [oR 70, oI (m.1 70 11), none]) hm22 ⟨⟨_, _, rfl⟩, rfl⟩ rfl rfl rfl ?_
  refine w_aload_n (q := 6) hm22 ⟨⟨_, _, rfl⟩, rfl⟩ rfl ?_
  refine w_iconst (q := 7) hm22 ⟨⟨_, _, rfl⟩, rfl⟩ iconst_1 ?_
  refine w_call (q := 10) (n := 0) (vs := [.inr (.inr (some 70)), .inl (1 : Int32)]) (rest := []) (la := [oR 70, oI (1 : Int32)]) hm22 ⟨⟨_, _, rfl⟩, rfl⟩ rfl rfl rfl rfl hm16 rfl rfl (fun _ => ⟨_, _, rfl, rfl⟩) rfl (Wp.mono h ?_)
  rintro _ m1 ⟨rfl, h⟩
  change Wp _ _ 10 _ [] _ _
  refine w_iconst (q := 11) hm22 ⟨⟨_, _, rfl⟩, rfl⟩ iconst_0 ?_
  refine w_istore_n (q := 12) (l' := [oR 70, oI (m.1 70 11), oI (0 : Int32)]) hm22 ⟨⟨_, _, rfl⟩, rfl⟩ rfl rfl rfl ?_
  exact h
theorem v_X12_named_70_12 {d : Nat} {x1 : Int32} {x2 : Int32} {m : dM} {Q : Int32 → dM → Prop} (h : (((m.1 70 20).toInt ≤ x2.toInt → j_X12_named_70_55 (d + 1) x1 m Q) ∧ (x2.toInt < (m.1 70 20).toInt → (((m.1 70 13).toInt ≠ 0 → j_X12_named_70_55 (d + 1) x1 m Q) ∧ ((m.1 70 13).toInt = 0 → ((0 ≤ x2.toInt ∧ x2.toInt < 15) ∧ ((0 ≤ x1.toInt ∧ x1.toInt < 403) ∧ (((lg_cmp (m.2.1 78 x2.toNatClampNeg) (m.2.1 76 x1.toNatClampNeg)).toInt ≠ 0 → j_X12_named_70_49 (d + 1) x1 x2 m Q) ∧ ((lg_cmp (m.2.1 78 x2.toNatClampNeg) (m.2.1 76 x1.toNatClampNeg)).toInt = 0 → c_X12_wrong_70 d (3 : Int32) x1 m (fun m1 => j_X12_named_70_49 (d + 1) x1 x2 m1 Q)))))))))) : j_X12_named_70_12 (d + 1) x1 x2 m Q := by
  refine w_iload_n (q := 13) hm22 ⟨⟨_, _, rfl⟩, rfl⟩ rfl ?_
  refine w_aload_n (q := 14) hm22 ⟨⟨_, _, rfl⟩, rfl⟩ rfl ?_
  refine w_getf (q := 17) (v := (m.1 70 20)) hm22 ⟨⟨_, _, rfl⟩, rfl⟩ rfl rfl ?_
  refine w_icmp_ge (q := 20) (X := x2.toInt) (Y := (m.1 70 20).toInt) hm22 ⟨⟨_, _, rfl⟩, rfl⟩ rfl rfl (fun hc => ?_) (fun hc => ?_)
  · have h := h.1 hc
    exact Wp.wk [false, true, false] h
  · have h := h.2 hc
    refine w_aload_n (q := 21) hm22 ⟨⟨_, _, rfl⟩, rfl⟩ rfl ?_
    refine w_getf (q := 24) (v := (m.1 70 13)) hm22 ⟨⟨_, _, rfl⟩, rfl⟩ rfl rfl ?_
    refine w_if_ne (q := 27) (X := (m.1 70 13).toInt) hm22 ⟨⟨_, _, rfl⟩, rfl⟩ rfl (fun hc => ?_) (fun hc => ?_)
    · have h := h.1 hc
      exact Wp.wk [false, true, false] h
    · have h := h.2 hc
      refine w_aload_n (q := 28) hm22 ⟨⟨_, _, rfl⟩, rfl⟩ rfl ?_
      refine w_getr (q := 31) hm22 ⟨⟨_, _, rfl⟩, rfl⟩ rfl ?_
      refine w_iload_n (q := 32) hm22 ⟨⟨_, _, rfl⟩, rfl⟩ rfl ?_
      obtain ⟨hi, h⟩ := h
      refine w_lald (q := 33) (v := (m.2.1 78 x2.toNatClampNeg)) hm22 ⟨⟨_, _, rfl⟩, rfl⟩ rfl hi rfl rfl ?_
      refine w_aload_n (q := 34) hm22 ⟨⟨_, _, rfl⟩, rfl⟩ rfl ?_
      refine w_getr (q := 37) hm22 ⟨⟨_, _, rfl⟩, rfl⟩ rfl ?_
      refine w_iload_n (q := 38) hm22 ⟨⟨_, _, rfl⟩, rfl⟩ rfl ?_
      obtain ⟨hi, h⟩ := h
      refine w_lald (q := 39) (v := (m.2.1 76 x1.toNatClampNeg)) hm22 ⟨⟨_, _, rfl⟩, rfl⟩ rfl hi rfl rfl ?_
      refine w_lcmp (q := 40) hm22 ⟨⟨_, _, rfl⟩, rfl⟩ ?_
      refine w_if_ne (q := 43) (X := (lg_cmp (m.2.1 78 x2.toNatClampNeg) (m.2.1 76 x1.toNatClampNeg)).toInt) hm22 ⟨⟨_, _, rfl⟩, rfl⟩ rfl (fun hc => ?_) (fun hc => ?_)
      · have h := h.1 hc
        exact h
      · have h := h.2 hc
        refine w_aload_n (q := 44) hm22 ⟨⟨_, _, rfl⟩, rfl⟩ rfl ?_
        refine w_iconst (q := 45) hm22 ⟨⟨_, _, rfl⟩, rfl⟩ iconst_3 ?_
        refine w_iload_n (q := 46) hm22 ⟨⟨_, _, rfl⟩, rfl⟩ rfl ?_
        refine w_call (q := 49) (n := 1) (vs := [.inr (.inr (some 70)), .inl (3 : Int32), .inl x1]) (rest := []) (la := [oR 70, oI (3 : Int32), oI x1, none]) hm22 ⟨⟨_, _, rfl⟩, rfl⟩ rfl rfl rfl rfl hm14 rfl rfl (fun _ => ⟨_, _, rfl, rfl⟩) rfl (Wp.mono h ?_)
        rintro _ m1 ⟨rfl, h⟩
        change Wp _ _ 49 _ [] _ _
        exact h
theorem v_X12_named_70_49 {d : Nat} {x1 : Int32} {x2 : Int32} {m : dM} {Q : Int32 → dM → Prop} (h : j_X12_named_70_12 (d + 1) x1 (x2 + (1 : Int32)) m Q) : j_X12_named_70_49 (d + 1) x1 x2 m Q := by
  refine w_iinc (q := 52) (l' := [oR 70, oI x1, oI (x2 + (1 : Int32))]) hm22 ⟨⟨_, _, rfl⟩, rfl⟩ rfl rfl rfl iconst_1 rfl ?_
  refine w_goto (q := 12) hm22 ⟨_, _, rfl⟩ ?_
  exact h
theorem v_X12_named_70_55 {d : Nat} {x1 : Int32} {m : dM} {Q : Int32 → dM → Prop} (h : Q x1 m) : j_X12_named_70_55 (d + 1) x1 m Q := by
  refine w_iload_n (q := 56) hm22 ⟨⟨_, _, rfl⟩, rfl⟩ rfl ?_
  exact w_reti hm22 ⟨⟨_, _, rfl⟩, rfl⟩ rfl h
theorem v_X12_bounded_70 {d : Nat} {x1 : Int32} {x2 : Int32} {m : dM} {Q : Int32 → dM → Prop} (h : ((0 < (m.1 70 13).toInt → j_X12_bounded_70_15 (d + 1) x1 m Q) ∧ ((m.1 70 13).toInt ≤ 0 → c_X12_is_70 d (2 : Int32) m (fun r1 m1 => ((r1.toInt ≠ 0 → ((0 ≤ (m1.1 70 11).toInt ∧ (m1.1 70 11).toInt < 403) ∧ (((m1.1 75 (m1.1 70 11).toNatClampNeg).toInt < x1.toInt → j_X12_bounded_70_42 (d + 1) (m1.1 75 (m1.1 70 11).toNatClampNeg) m1 Q) ∧ (x1.toInt ≤ (m1.1 75 (m1.1 70 11).toNatClampNeg).toInt → (((m1.1 75 (m1.1 70 11).toNatClampNeg).toInt ≤ x2.toInt → j_X12_bounded_70_51 (d + 1) (m1.1 75 (m1.1 70 11).toNatClampNeg) m1 Q) ∧ (x2.toInt < (m1.1 75 (m1.1 70 11).toNatClampNeg).toInt → j_X12_bounded_70_42 (d + 1) (m1.1 75 (m1.1 70 11).toNatClampNeg) m1 Q)))))) ∧ (r1.toInt = 0 → j_X12_bounded_70_15 (d + 1) x1 m1 Q)))))) : c_X12_bounded_70 (d + 1) x1 x2 m Q := by
  refine w_aload_n (q := 1) hm25 ⟨⟨_, _, rfl⟩, rfl⟩ rfl ?_
  refine w_getf (q := 4) (v := (m.1 70 13)) hm25 ⟨⟨_, _, rfl⟩, rfl⟩ rfl rfl ?_
  refine w_if_gt (q := 7) (X := (m.1 70 13).toInt) hm25 ⟨⟨_, _, rfl⟩, rfl⟩ rfl (fun hc => ?_) (fun hc => ?_)
  · have h := h.1 hc
    exact Wp.wk [true, true, false, false] h
  · have h := h.2 hc
    refine w_aload_n (q := 8) hm25 ⟨⟨_, _, rfl⟩, rfl⟩ rfl ?_
    refine w_iconst (q := 9) hm25 ⟨⟨_, _, rfl⟩, rfl⟩ iconst_2 ?_
    refine w_call (q := 12) (n := 0) (vs := [.inr (.inr (some 70)), .inl (2 : Int32)]) (rest := []) (la := [oR 70, oI (2 : Int32)]) hm25 ⟨⟨_, _, rfl⟩, rfl⟩ rfl rfl rfl rfl hm12 rfl rfl (fun _ => ⟨_, _, rfl, rfl⟩) rfl (Wp.mono h ?_)
    rintro _ m1 ⟨r1, rfl, h⟩
    change Wp _ _ 12 _ [.inl r1] _ _
    refine w_if_ne (q := 15) (X := r1.toInt) hm25 ⟨⟨_, _, rfl⟩, rfl⟩ rfl (fun hc => ?_) (fun hc => ?_)
    · have h := h.1 hc
      refine w_aload_n (q := 23) hm25 ⟨⟨_, _, rfl⟩, rfl⟩ rfl ?_
      refine w_getr (q := 26) hm25 ⟨⟨_, _, rfl⟩, rfl⟩ rfl ?_
      refine w_aload_n (q := 27) hm25 ⟨⟨_, _, rfl⟩, rfl⟩ rfl ?_
      refine w_getf (q := 30) (v := (m1.1 70 11)) hm25 ⟨⟨_, _, rfl⟩, rfl⟩ rfl rfl ?_
      obtain ⟨hi, h⟩ := h
      refine w_iald (q := 31) (v := (m1.1 75 (m1.1 70 11).toNatClampNeg)) hm25 ⟨⟨_, _, rfl⟩, rfl⟩ rfl hi rfl rfl ?_
      refine w_istore_n (q := 32) (l' := [oR 70, oI x1, oI x2, oI (m1.1 75 (m1.1 70 11).toNatClampNeg)]) hm25 ⟨⟨_, _, rfl⟩, rfl⟩ rfl rfl rfl ?_
      refine w_iload_n (q := 33) hm25 ⟨⟨_, _, rfl⟩, rfl⟩ rfl ?_
      refine w_iload_n (q := 34) hm25 ⟨⟨_, _, rfl⟩, rfl⟩ rfl ?_
      refine w_icmp_lt (q := 37) (X := (m1.1 75 (m1.1 70 11).toNatClampNeg).toInt) (Y := x1.toInt) hm25 ⟨⟨_, _, rfl⟩, rfl⟩ rfl rfl (fun hc => ?_) (fun hc => ?_)
      · have h := h.1 hc
        exact Wp.wk [true, false, false, true] h
      · have h := h.2 hc
        refine w_iload_n (q := 38) hm25 ⟨⟨_, _, rfl⟩, rfl⟩ rfl ?_
        refine w_iload_n (q := 39) hm25 ⟨⟨_, _, rfl⟩, rfl⟩ rfl ?_
        refine w_icmp_le (q := 42) (X := (m1.1 75 (m1.1 70 11).toNatClampNeg).toInt) (Y := x2.toInt) hm25 ⟨⟨_, _, rfl⟩, rfl⟩ rfl rfl (fun hc => ?_) (fun hc => ?_)
        · have h := h.1 hc
          exact Wp.wk [true, false, false, true] h
        · have h := h.2 hc
          exact Wp.wk [true, false, false, true] h
    · have h := h.2 hc
      exact Wp.wk [true, true, false, false] h
theorem v_X12_bounded_70_15 {d : Nat} {x1 : Int32} {m : dM} {Q : Int32 → dM → Prop} (h : c_X12_fail_70 d (1 : Int32) m (fun m1 => Q x1 m1)) : j_X12_bounded_70_15 (d + 1) x1 m Q := by
  refine w_aload_n (q := 16) hm25 ⟨⟨_, _, rfl⟩, rfl⟩ rfl ?_
  refine w_iconst (q := 17) hm25 ⟨⟨_, _, rfl⟩, rfl⟩ iconst_1 ?_
  refine w_call (q := 20) (n := 0) (vs := [.inr (.inr (some 70)), .inl (1 : Int32)]) (rest := []) (la := [oR 70, oI (1 : Int32)]) hm25 ⟨⟨_, _, rfl⟩, rfl⟩ rfl rfl rfl rfl hm13 rfl rfl (fun _ => ⟨_, _, rfl, rfl⟩) rfl (Wp.mono h ?_)
  rintro _ m1 ⟨rfl, h⟩
  change Wp _ _ 20 _ [] _ _
  refine w_iload_n (q := 21) hm25 ⟨⟨_, _, rfl⟩, rfl⟩ rfl ?_
  exact w_reti hm25 ⟨⟨_, _, rfl⟩, rfl⟩ rfl h
theorem v_X12_bounded_70_42 {d : Nat} {x3 : Int32} {m : dM} {Q : Int32 → dM → Prop} (h : c_X12_wrong_70 d (5 : Int32) (m.1 70 11) m (fun m1 => j_X12_bounded_70_51 (d + 1) x3 m1 Q)) : j_X12_bounded_70_42 (d + 1) x3 m Q := by
  refine w_aload_n (q := 43) hm25 ⟨⟨_, _, rfl⟩, rfl⟩ rfl ?_
  refine w_iconst (q := 44) hm25 ⟨⟨_, _, rfl⟩, rfl⟩ iconst_5 ?_
  refine w_aload_n (q := 45) hm25 ⟨⟨_, _, rfl⟩, rfl⟩ rfl ?_
  refine w_getf (q := 48) (v := (m.1 70 11)) hm25 ⟨⟨_, _, rfl⟩, rfl⟩ rfl rfl ?_
  refine w_call (q := 51) (n := 1) (vs := [.inr (.inr (some 70)), .inl (5 : Int32), .inl (m.1 70 11)]) (rest := []) (la := [oR 70, oI (5 : Int32), oI (m.1 70 11), none]) hm25 ⟨⟨_, _, rfl⟩, rfl⟩ rfl rfl rfl rfl hm14 rfl rfl (fun _ => ⟨_, _, rfl, rfl⟩) rfl (Wp.mono h ?_)
  rintro _ m1 ⟨rfl, h⟩
  change Wp _ _ 51 _ [] _ _
  exact h
theorem v_X12_bounded_70_51 {d : Nat} {x3 : Int32} {m : dM} {Q : Int32 → dM → Prop} (h : c_X12_goesOn_70 d m (fun m1 => Q x3 m1)) : j_X12_bounded_70_51 (d + 1) x3 m Q := by
  refine w_aload_n (q := 52) hm25 ⟨⟨_, _, rfl⟩, rfl⟩ rfl ?_
  refine w_call (q := 55) (n := 0) (vs := [.inr (.inr (some 70))]) (rest := []) (la := [oR 70]) hm25 ⟨⟨_, _, rfl⟩, rfl⟩ rfl rfl rfl rfl hm15 rfl rfl (fun _ => ⟨_, _, rfl, rfl⟩) rfl (Wp.mono h ?_)
  rintro _ m1 ⟨rfl, h⟩
  change Wp _ _ 55 _ [] _ _
  refine w_iload_n (q := 56) hm25 ⟨⟨_, _, rfl⟩, rfl⟩ rfl ?_
  exact w_reti hm25 ⟨⟨_, _, rfl⟩, rfl⟩ rfl h
theorem v_X12_endsName_70 {d : Nat} {x1 : Int32} {x2 : Int32} {m : dM} {Q : dM → Prop} (h : c_X12_must_70 d (4 : Int32) m (fun m1 => (((m1.1 70 13).toInt ≤ 0 → ((0 ≤ x1.toInt ∧ x1.toInt < 403) ∧ ((0 ≤ (m1.1 70 20).toInt ∧ (m1.1 70 20).toInt < 15) ∧ ((0 ≤ (m1.1 70 20).toInt ∧ (m1.1 70 20).toInt < 15) ∧ Q (dSet (dSet (dSetL m1 78 (m1.1 70 20).toNatClampNeg (m1.2.1 76 x1.toNatClampNeg)) 79 (m1.1 70 20).toNatClampNeg x2) 70 20 ((m1.1 70 20) + (1 : Int32))))))) ∧ (0 < (m1.1 70 13).toInt → Q m1)))) : c_X12_endsName_70 (d + 1) x1 x2 m Q := by
  refine w_aload_n (q := 1) hm23 ⟨⟨_, _, rfl⟩, rfl⟩ rfl ?_
  refine w_iconst (q := 2) hm23 ⟨⟨_, _, rfl⟩, rfl⟩ iconst_4 ?_
  refine w_call (q := 5) (n := 0) (vs := [.inr (.inr (some 70)), .inl (4 : Int32)]) (rest := []) (la := [oR 70, oI (4 : Int32)]) hm23 ⟨⟨_, _, rfl⟩, rfl⟩ rfl rfl rfl rfl hm16 rfl rfl (fun _ => ⟨_, _, rfl, rfl⟩) rfl (Wp.mono h ?_)
  rintro _ m1 ⟨rfl, h⟩
  change Wp _ _ 5 _ [] _ _
  refine w_aload_n (q := 6) hm23 ⟨⟨_, _, rfl⟩, rfl⟩ rfl ?_
  refine w_getf (q := 9) (v := (m1.1 70 13)) hm23 ⟨⟨_, _, rfl⟩, rfl⟩ rfl rfl ?_
  refine w_if_le (q := 12) (X := (m1.1 70 13).toInt) hm23 ⟨⟨_, _, rfl⟩, rfl⟩ rfl (fun hc => ?_) (fun hc => ?_)
  · have h := h.1 hc
    refine w_aload_n (q := 14) hm23 ⟨⟨_, _, rfl⟩, rfl⟩ rfl ?_
    refine w_getr (q := 17) hm23 ⟨⟨_, _, rfl⟩, rfl⟩ rfl ?_
    refine w_aload_n (q := 18) hm23 ⟨⟨_, _, rfl⟩, rfl⟩ rfl ?_
    refine w_getf (q := 21) (v := (m1.1 70 20)) hm23 ⟨⟨_, _, rfl⟩, rfl⟩ rfl rfl ?_
    refine w_aload_n (q := 22) hm23 ⟨⟨_, _, rfl⟩, rfl⟩ rfl ?_
    refine w_getr (q := 25) hm23 ⟨⟨_, _, rfl⟩, rfl⟩ rfl ?_
    refine w_iload_n (q := 26) hm23 ⟨⟨_, _, rfl⟩, rfl⟩ rfl ?_
    obtain ⟨hi, h⟩ := h
    refine w_lald (q := 27) (v := (m1.2.1 76 x1.toNatClampNeg)) hm23 ⟨⟨_, _, rfl⟩, rfl⟩ rfl hi rfl rfl ?_
    obtain ⟨hi, h⟩ := h
    refine w_last (q := 28) hm23 ⟨⟨_, _, rfl⟩, rfl⟩ rfl hi rfl rfl ?_
    refine w_aload_n (q := 29) hm23 ⟨⟨_, _, rfl⟩, rfl⟩ rfl ?_
    refine w_getr (q := 32) hm23 ⟨⟨_, _, rfl⟩, rfl⟩ rfl ?_
    refine w_aload_n (q := 33) hm23 ⟨⟨_, _, rfl⟩, rfl⟩ rfl ?_
    refine w_getf (q := 36) (v := (m1.1 70 20)) hm23 ⟨⟨_, _, rfl⟩, rfl⟩ rfl rfl ?_
    refine w_iload_n (q := 37) hm23 ⟨⟨_, _, rfl⟩, rfl⟩ rfl ?_
    obtain ⟨hi, h⟩ := h
    refine w_iast (q := 38) hm23 ⟨⟨_, _, rfl⟩, rfl⟩ rfl hi rfl rfl ?_
    refine w_aload_n (q := 39) hm23 ⟨⟨_, _, rfl⟩, rfl⟩ rfl ?_
    refine w_dup (q := 40) hm23 ⟨⟨_, _, rfl⟩, rfl⟩ rfl ?_
    refine w_getf (q := 43) (v := (m1.1 70 20)) hm23 ⟨⟨_, _, rfl⟩, rfl⟩ rfl rfl ?_
    refine w_iconst (q := 44) hm23 ⟨⟨_, _, rfl⟩, rfl⟩ iconst_1 ?_
    refine w_iadd (q := 45) hm23 ⟨⟨_, _, rfl⟩, rfl⟩ ?_
    refine w_putf (q := 48) hm23 ⟨⟨_, _, rfl⟩, rfl⟩ rfl rfl rfl ?_
    exact w_retv hm23 ⟨⟨_, _, rfl⟩, rfl⟩ rfl h
  · have h := h.2 hc
    exact w_retv hm23 ⟨⟨_, _, rfl⟩, rfl⟩ rfl h
theorem v_X12_knownFlat_70 {d : Nat} {m : dM} {Q : Int32 → dM → Prop} (h : c_X12_must_70 d (1 : Int32) m (fun m1 => (((m1.1 70 13).toInt ≤ 0 → j_X12_knownFlat_70_21 (d + 1) (m.1 70 11) (0 : Int32) m1 Q) ∧ (0 < (m1.1 70 13).toInt → Q (-1 : Int32) m1)))) : c_X12_knownFlat_70 (d + 1) m Q := by
  refine w_aload_n (q := 1) hm24 ⟨⟨_, _, rfl⟩, rfl⟩ rfl ?_
  refine w_getf (q := 4) (v := (m.1 70 11)) hm24 ⟨⟨_, _, rfl⟩, rfl⟩ rfl rfl ?_
  refine w_istore_n (q := 5) (l' := [oR 70, oI (m.1 70 11), none]) hm24 ⟨⟨_, _, rfl⟩, rfl⟩ rfl rfl rfl ?_
  refine w_aload_n (q := 6) hm24 ⟨⟨_, _, rfl⟩, rfl⟩ rfl ?_
  refine w_iconst (q := 7) hm24 ⟨⟨_, _, rfl⟩, rfl⟩ iconst_1 ?_
  refine w_call (q := 10) (n := 0) (vs := [.inr (.inr (some 70)), .inl (1 : Int32)]) (rest := []) (la := [oR 70, oI (1 : Int32)]) hm24 ⟨⟨_, _, rfl⟩, rfl⟩ rfl rfl rfl rfl hm16 rfl rfl (fun _ => ⟨_, _, rfl, rfl⟩) rfl (Wp.mono h ?_)
  rintro _ m1 ⟨rfl, h⟩
  change Wp _ _ 10 _ [] _ _
  refine w_aload_n (q := 11) hm24 ⟨⟨_, _, rfl⟩, rfl⟩ rfl ?_
  refine w_getf (q := 14) (v := (m1.1 70 13)) hm24 ⟨⟨_, _, rfl⟩, rfl⟩ rfl rfl ?_
  refine w_if_le (q := 17) (X := (m1.1 70 13).toInt) hm24 ⟨⟨_, _, rfl⟩, rfl⟩ rfl (fun hc => ?_) (fun hc => ?_)
  · have h := h.1 hc
    refine w_iconst (q := 20) hm24 ⟨⟨_, _, rfl⟩, rfl⟩ iconst_0 ?_
    refine w_istore_n (q := 21) (l' := [oR 70, oI (m.1 70 11), oI (0 : Int32)]) hm24 ⟨⟨_, _, rfl⟩, rfl⟩ rfl rfl rfl ?_
    exact h
  · have h := h.2 hc
    refine w_iconst (q := 18) hm24 ⟨⟨_, _, rfl⟩, rfl⟩ iconst_m1 ?_
    exact w_reti hm24 ⟨⟨_, _, rfl⟩, rfl⟩ rfl h
theorem v_X12_knownFlat_70_21 {d : Nat} {x1 : Int32} {x2 : Int32} {m : dM} {Q : Int32 → dM → Prop} (h : (((m.1 70 20).toInt ≤ x2.toInt → c_X12_wrong_70 d (4 : Int32) x1 m (fun m1 => Q (-1 : Int32) m1)) ∧ (x2.toInt < (m.1 70 20).toInt → ((0 ≤ x2.toInt ∧ x2.toInt < 15) ∧ ((0 ≤ x1.toInt ∧ x1.toInt < 403) ∧ (((lg_cmp (m.2.1 78 x2.toNatClampNeg) (m.2.1 76 x1.toNatClampNeg)).toInt ≠ 0 → j_X12_knownFlat_70_61 (d + 1) x1 x2 m Q) ∧ ((lg_cmp (m.2.1 78 x2.toNatClampNeg) (m.2.1 76 x1.toNatClampNeg)).toInt = 0 → ((0 ≤ x2.toInt ∧ x2.toInt < 15) ∧ (((m.1 79 x2.toNatClampNeg).toInt < 0 → j_X12_knownFlat_70_61 (d + 1) x1 x2 m Q) ∧ (0 ≤ (m.1 79 x2.toNatClampNeg).toInt → ((0 ≤ x2.toInt ∧ x2.toInt < 15) ∧ Q (m.1 79 x2.toNatClampNeg) m))))))))))) : j_X12_knownFlat_70_21 (d + 1) x1 x2 m Q := by
  refine w_iload_n (q := 22) hm24 ⟨⟨_, _, rfl⟩, rfl⟩ rfl ?_
  refine w_aload_n (q := 23) hm24 ⟨⟨_, _, rfl⟩, rfl⟩ rfl ?_
  refine w_getf (q := 26) (v := (m.1 70 20)) hm24 ⟨⟨_, _, rfl⟩, rfl⟩ rfl rfl ?_
  refine w_icmp_ge (q := 29) (X := x2.toInt) (Y := (m.1 70 20).toInt) hm24 ⟨⟨_, _, rfl⟩, rfl⟩ rfl rfl (fun hc => ?_) (fun hc => ?_)
  · have h := h.1 hc
    refine w_aload_n (q := 68) hm24 ⟨⟨_, _, rfl⟩, rfl⟩ rfl ?_
    refine w_iconst (q := 69) hm24 ⟨⟨_, _, rfl⟩, rfl⟩ iconst_4 ?_
    refine w_iload_n (q := 70) hm24 ⟨⟨_, _, rfl⟩, rfl⟩ rfl ?_
    refine w_call (q := 73) (n := 1) (vs := [.inr (.inr (some 70)), .inl (4 : Int32), .inl x1]) (rest := []) (la := [oR 70, oI (4 : Int32), oI x1, none]) hm24 ⟨⟨_, _, rfl⟩, rfl⟩ rfl rfl rfl rfl hm14 rfl rfl (fun _ => ⟨_, _, rfl, rfl⟩) rfl (Wp.mono h ?_)
    rintro _ m1 ⟨rfl, h⟩
    change Wp _ _ 73 _ [] _ _
    refine w_iconst (q := 74) hm24 ⟨⟨_, _, rfl⟩, rfl⟩ iconst_m1 ?_
    exact w_reti hm24 ⟨⟨_, _, rfl⟩, rfl⟩ rfl h
  · have h := h.2 hc
    refine w_aload_n (q := 30) hm24 ⟨⟨_, _, rfl⟩, rfl⟩ rfl ?_
    refine w_getr (q := 33) hm24 ⟨⟨_, _, rfl⟩, rfl⟩ rfl ?_
    refine w_iload_n (q := 34) hm24 ⟨⟨_, _, rfl⟩, rfl⟩ rfl ?_
    obtain ⟨hi, h⟩ := h
    refine w_lald (q := 35) (v := (m.2.1 78 x2.toNatClampNeg)) hm24 ⟨⟨_, _, rfl⟩, rfl⟩ rfl hi rfl rfl ?_
    refine w_aload_n (q := 36) hm24 ⟨⟨_, _, rfl⟩, rfl⟩ rfl ?_
    refine w_getr (q := 39) hm24 ⟨⟨_, _, rfl⟩, rfl⟩ rfl ?_
    refine w_iload_n (q := 40) hm24 ⟨⟨_, _, rfl⟩, rfl⟩ rfl ?_
    obtain ⟨hi, h⟩ := h
    refine w_lald (q := 41) (v := (m.2.1 76 x1.toNatClampNeg)) hm24 ⟨⟨_, _, rfl⟩, rfl⟩ rfl hi rfl rfl ?_
    refine w_lcmp (q := 42) hm24 ⟨⟨_, _, rfl⟩, rfl⟩ ?_
    refine w_if_ne (q := 45) (X := (lg_cmp (m.2.1 78 x2.toNatClampNeg) (m.2.1 76 x1.toNatClampNeg)).toInt) hm24 ⟨⟨_, _, rfl⟩, rfl⟩ rfl (fun hc => ?_) (fun hc => ?_)
    · have h := h.1 hc
      exact h
    · have h := h.2 hc
      refine w_aload_n (q := 46) hm24 ⟨⟨_, _, rfl⟩, rfl⟩ rfl ?_
      refine w_getr (q := 49) hm24 ⟨⟨_, _, rfl⟩, rfl⟩ rfl ?_
      refine w_iload_n (q := 50) hm24 ⟨⟨_, _, rfl⟩, rfl⟩ rfl ?_
      obtain ⟨hi, h⟩ := h
      refine w_iald (q := 51) (v := (m.1 79 x2.toNatClampNeg)) hm24 ⟨⟨_, _, rfl⟩, rfl⟩ rfl hi rfl rfl ?_
      refine w_if_lt (q := 54) (X := (m.1 79 x2.toNatClampNeg).toInt) hm24 ⟨⟨_, _, rfl⟩, rfl⟩ rfl (fun hc => ?_) (fun hc => ?_)
      · have h := h.1 hc
        exact h
      · have h := h.2 hc
        refine w_aload_n (q := 55) hm24 ⟨⟨_, _, rfl⟩, rfl⟩ rfl ?_
        refine w_getr (q := 58) hm24 ⟨⟨_, _, rfl⟩, rfl⟩ rfl ?_
        refine w_iload_n (q := 59) hm24 ⟨⟨_, _, rfl⟩, rfl⟩ rfl ?_
        obtain ⟨hi, h⟩ := h
        refine w_iald (q := 60) (v := (m.1 79 x2.toNatClampNeg)) hm24 ⟨⟨_, _, rfl⟩, rfl⟩ rfl hi rfl rfl ?_
        exact w_reti hm24 ⟨⟨_, _, rfl⟩, rfl⟩ rfl h
theorem v_X12_knownFlat_70_61 {d : Nat} {x1 : Int32} {x2 : Int32} {m : dM} {Q : Int32 → dM → Prop} (h : j_X12_knownFlat_70_21 (d + 1) x1 (x2 + (1 : Int32)) m Q) : j_X12_knownFlat_70_61 (d + 1) x1 x2 m Q := by
  refine w_iinc (q := 64) (l' := [oR 70, oI x1, oI (x2 + (1 : Int32))]) hm24 ⟨⟨_, _, rfl⟩, rfl⟩ rfl rfl rfl iconst_1 rfl ?_
  refine w_goto (q := 21) hm24 ⟨_, _, rfl⟩ ?_
  exact h
theorem v_X12_areWired_70 {d : Nat} {x1 : Int32} {x2 : Int32} {m : dM} {Q : Int32 → dM → Prop} (h : j_X12_areWired_70_8 (d + 1) x1 x2 ((10 : Int32) * (m.1 70 19)) m Q) : c_X12_areWired_70 (d + 1) x1 x2 m Q := by
  refine w_bipush (q := 2) hm26 ⟨⟨_, _, rfl⟩, rfl⟩ bipush_10 ?_
  refine w_aload_n (q := 3) hm26 ⟨⟨_, _, rfl⟩, rfl⟩ rfl ?_
  refine w_getf (q := 6) (v := (m.1 70 19)) hm26 ⟨⟨_, _, rfl⟩, rfl⟩ rfl rfl ?_
  refine w_imul (q := 7) hm26 ⟨⟨_, _, rfl⟩, rfl⟩ ?_
  refine w_istore_n (q := 8) (l' := [oR 70, oI x1, oI x2, oI ((10 : Int32) * (m.1 70 19))]) hm26 ⟨⟨_, _, rfl⟩, rfl⟩ rfl rfl rfl ?_
  exact h
theorem v_X12_areWired_70_8 {d : Nat} {x1 : Int32} {x2 : Int32} {x3 : Int32} {m : dM} {Q : Int32 → dM → Prop} (h : ((0 ≤ (m.1 70 19).toInt ∧ (m.1 70 19).toInt < 2) ∧ (((((10 : Int32) * (m.1 70 19)) + (m.1 82 (m.1 70 19).toNatClampNeg)).toInt ≤ x3.toInt → Q (0 : Int32) m) ∧ (x3.toInt < (((10 : Int32) * (m.1 70 19)) + (m.1 82 (m.1 70 19).toNatClampNeg)).toInt → ((0 ≤ x3.toInt ∧ x3.toInt < 20) ∧ (((m.1 83 x3.toNatClampNeg).toInt ≠ x1.toInt → j_X12_areWired_70_49 (d + 1) x1 x2 x3 m Q) ∧ ((m.1 83 x3.toNatClampNeg).toInt = x1.toInt → ((0 ≤ x3.toInt ∧ x3.toInt < 20) ∧ (((m.1 84 x3.toNatClampNeg).toInt = x2.toInt → j_X12_areWired_70_69 (d + 1) m Q) ∧ ((m.1 84 x3.toNatClampNeg).toInt ≠ x2.toInt → j_X12_areWired_70_49 (d + 1) x1 x2 x3 m Q)))))))))) : j_X12_areWired_70_8 (d + 1) x1 x2 x3 m Q := by
  refine w_iload_n (q := 9) hm26 ⟨⟨_, _, rfl⟩, rfl⟩ rfl ?_
  refine w_bipush (q := 11) hm26 ⟨⟨_, _, rfl⟩, rfl⟩ bipush_10 ?_
  refine w_aload_n (q := 12) hm26 ⟨⟨_, _, rfl⟩, rfl⟩ rfl ?_
  refine w_getf (q := 15) (v := (m.1 70 19)) hm26 ⟨⟨_, _, rfl⟩, rfl⟩ rfl rfl ?_
  refine w_imul (q := 16) hm26 ⟨⟨_, _, rfl⟩, rfl⟩ ?_
  refine w_aload_n (q := 17) hm26 ⟨⟨_, _, rfl⟩, rfl⟩ rfl ?_
  refine w_getr (q := 20) hm26 ⟨⟨_, _, rfl⟩, rfl⟩ rfl ?_
  refine w_aload_n (q := 21) hm26 ⟨⟨_, _, rfl⟩, rfl⟩ rfl ?_
  refine w_getf (q := 24) (v := (m.1 70 19)) hm26 ⟨⟨_, _, rfl⟩, rfl⟩ rfl rfl ?_
  obtain ⟨hi, h⟩ := h
  refine w_iald (q := 25) (v := (m.1 82 (m.1 70 19).toNatClampNeg)) hm26 ⟨⟨_, _, rfl⟩, rfl⟩ rfl hi rfl rfl ?_
  refine w_iadd (q := 26) hm26 ⟨⟨_, _, rfl⟩, rfl⟩ ?_
  refine w_icmp_ge (q := 29) (X := x3.toInt) (Y := (((10 : Int32) * (m.1 70 19)) + (m.1 82 (m.1 70 19).toNatClampNeg)).toInt) hm26 ⟨⟨_, _, rfl⟩, rfl⟩ rfl rfl (fun hc => ?_) (fun hc => ?_)
  · have h := h.1 hc
    refine w_iconst (q := 78) hm26 ⟨⟨_, _, rfl⟩, rfl⟩ iconst_0 ?_
    exact w_retz hm26 ⟨⟨_, _, rfl⟩, rfl⟩ rfl (by decide) h
  · have h := h.2 hc
    refine w_aload_n (q := 30) hm26 ⟨⟨_, _, rfl⟩, rfl⟩ rfl ?_
    refine w_getr (q := 33) hm26 ⟨⟨_, _, rfl⟩, rfl⟩ rfl ?_
    refine w_iload_n (q := 34) hm26 ⟨⟨_, _, rfl⟩, rfl⟩ rfl ?_
    obtain ⟨hi, h⟩ := h
    refine w_iald (q := 35) (v := (m.1 83 x3.toNatClampNeg)) hm26 ⟨⟨_, _, rfl⟩, rfl⟩ rfl hi rfl rfl ?_
    refine w_iload_n (q := 36) hm26 ⟨⟨_, _, rfl⟩, rfl⟩ rfl ?_
    refine w_icmp_ne (q := 39) (X := (m.1 83 x3.toNatClampNeg).toInt) (Y := x1.toInt) hm26 ⟨⟨_, _, rfl⟩, rfl⟩ rfl rfl (fun hc => ?_) (fun hc => ?_)
    · have h := h.1 hc
      exact h
    · have h := h.2 hc
      refine w_aload_n (q := 40) hm26 ⟨⟨_, _, rfl⟩, rfl⟩ rfl ?_
      refine w_getr (q := 43) hm26 ⟨⟨_, _, rfl⟩, rfl⟩ rfl ?_
      refine w_iload_n (q := 44) hm26 ⟨⟨_, _, rfl⟩, rfl⟩ rfl ?_
      obtain ⟨hi, h⟩ := h
      refine w_iald (q := 45) (v := (m.1 84 x3.toNatClampNeg)) hm26 ⟨⟨_, _, rfl⟩, rfl⟩ rfl hi rfl rfl ?_
      refine w_iload_n (q := 46) hm26 ⟨⟨_, _, rfl⟩, rfl⟩ rfl ?_
      refine w_icmp_eq (q := 49) (X := (m.1 84 x3.toNatClampNeg).toInt) (Y := x2.toInt) hm26 ⟨⟨_, _, rfl⟩, rfl⟩ rfl rfl (fun hc => ?_) (fun hc => ?_)
      · have h := h.1 hc
        exact Wp.wk [false, false, false, false] h
      · have h := h.2 hc
        exact h
theorem v_X12_areWired_70_49 {d : Nat} {x1 : Int32} {x2 : Int32} {x3 : Int32} {m : dM} {Q : Int32 → dM → Prop} (h : ((0 ≤ x3.toInt ∧ x3.toInt < 20) ∧ (((m.1 83 x3.toNatClampNeg).toInt ≠ x2.toInt → j_X12_areWired_70_71 (d + 1) x1 x2 x3 m Q) ∧ ((m.1 83 x3.toNatClampNeg).toInt = x2.toInt → ((0 ≤ x3.toInt ∧ x3.toInt < 20) ∧ (((m.1 84 x3.toNatClampNeg).toInt ≠ x1.toInt → j_X12_areWired_70_71 (d + 1) x1 x2 x3 m Q) ∧ ((m.1 84 x3.toNatClampNeg).toInt = x1.toInt → j_X12_areWired_70_69 (d + 1) m Q))))))) : j_X12_areWired_70_49 (d + 1) x1 x2 x3 m Q := by
  refine w_aload_n (q := 50) hm26 ⟨⟨_, _, rfl⟩, rfl⟩ rfl ?_
  refine w_getr (q := 53) hm26 ⟨⟨_, _, rfl⟩, rfl⟩ rfl ?_
  refine w_iload_n (q := 54) hm26 ⟨⟨_, _, rfl⟩, rfl⟩ rfl ?_
  obtain ⟨hi, h⟩ := h
  refine w_iald (q := 55) (v := (m.1 83 x3.toNatClampNeg)) hm26 ⟨⟨_, _, rfl⟩, rfl⟩ rfl hi rfl rfl ?_
  refine w_iload_n (q := 56) hm26 ⟨⟨_, _, rfl⟩, rfl⟩ rfl ?_
  refine w_icmp_ne (q := 59) (X := (m.1 83 x3.toNatClampNeg).toInt) (Y := x2.toInt) hm26 ⟨⟨_, _, rfl⟩, rfl⟩ rfl rfl (fun hc => ?_) (fun hc => ?_)
  · have h := h.1 hc
    exact h
  · have h := h.2 hc
    refine w_aload_n (q := 60) hm26 ⟨⟨_, _, rfl⟩, rfl⟩ rfl ?_
    refine w_getr (q := 63) hm26 ⟨⟨_, _, rfl⟩, rfl⟩ rfl ?_
    refine w_iload_n (q := 64) hm26 ⟨⟨_, _, rfl⟩, rfl⟩ rfl ?_
    obtain ⟨hi, h⟩ := h
    refine w_iald (q := 65) (v := (m.1 84 x3.toNatClampNeg)) hm26 ⟨⟨_, _, rfl⟩, rfl⟩ rfl hi rfl rfl ?_
    refine w_iload_n (q := 66) hm26 ⟨⟨_, _, rfl⟩, rfl⟩ rfl ?_
    refine w_icmp_ne (q := 69) (X := (m.1 84 x3.toNatClampNeg).toInt) (Y := x1.toInt) hm26 ⟨⟨_, _, rfl⟩, rfl⟩ rfl rfl (fun hc => ?_) (fun hc => ?_)
    · have h := h.1 hc
      exact h
    · have h := h.2 hc
      exact Wp.wk [false, false, false, false] h
theorem v_X12_areWired_70_69 {d : Nat} {m : dM} {Q : Int32 → dM → Prop} (h : Q (1 : Int32) m) : j_X12_areWired_70_69 (d + 1) m Q := by
  refine w_iconst (q := 70) hm26 ⟨⟨_, _, rfl⟩, rfl⟩ iconst_1 ?_
  exact w_retz hm26 ⟨⟨_, _, rfl⟩, rfl⟩ rfl (by decide) h
theorem v_X12_areWired_70_71 {d : Nat} {x1 : Int32} {x2 : Int32} {x3 : Int32} {m : dM} {Q : Int32 → dM → Prop} (h : j_X12_areWired_70_8 (d + 1) x1 x2 (x3 + (1 : Int32)) m Q) : j_X12_areWired_70_71 (d + 1) x1 x2 x3 m Q := by
  refine w_iinc (q := 74) (l' := [oR 70, oI x1, oI x2, oI (x3 + (1 : Int32))]) hm26 ⟨⟨_, _, rfl⟩, rfl⟩ rfl rfl rfl iconst_1 rfl ?_
  refine w_goto (q := 8) hm26 ⟨_, _, rfl⟩ ?_
  exact h
theorem v_X12_tellWire_70 {d : Nat} {m : dM} {Q : dM → Prop} (h : ((0 ≤ (m.1 70 19).toInt ∧ (m.1 70 19).toInt < 2) ∧ c_X12_knownFlat_70 d m (fun r1 m1 => c_X12_knownFlat_70 d m1 (fun r2 m2 => (((m2.1 70 13).toInt ≠ 0 → j_X12_tellWire_70_72 (d + 1) (((10 : Int32) * (m.1 70 19)) + (m.1 82 (m.1 70 19).toNatClampNeg)) r1 r2 m2 Q) ∧ ((m2.1 70 13).toInt = 0 → ((r1.toInt < 0 → j_X12_tellWire_70_72 (d + 1) (((10 : Int32) * (m.1 70 19)) + (m.1 82 (m.1 70 19).toNatClampNeg)) r1 r2 m2 Q) ∧ (0 ≤ r1.toInt → ((r2.toInt < 0 → j_X12_tellWire_70_72 (d + 1) (((10 : Int32) * (m.1 70 19)) + (m.1 82 (m.1 70 19).toNatClampNeg)) r1 r2 m2 Q) ∧ (0 ≤ r2.toInt → ((r1.toInt = r2.toInt → j_X12_tellWire_70_66 (d + 1) (((10 : Int32) * (m.1 70 19)) + (m.1 82 (m.1 70 19).toNatClampNeg)) r1 (m1.1 70 11) r2 m2 Q) ∧ (r1.toInt ≠ r2.toInt → c_X12_areWired_70 d r1 r2 m2 (fun r3 m3 => ((r3.toInt = 0 → j_X12_tellWire_70_72 (d + 1) (((10 : Int32) * (m.1 70 19)) + (m.1 82 (m.1 70 19).toNatClampNeg)) r1 r2 m3 Q) ∧ (r3.toInt ≠ 0 → j_X12_tellWire_70_66 (d + 1) (((10 : Int32) * (m.1 70 19)) + (m.1 82 (m.1 70 19).toNatClampNeg)) r1 (m1.1 70 11) r2 m3 Q))))))))))))))) : c_X12_tellWire_70 (d + 1) m Q := by
  refine w_bipush (q := 2) hm27 ⟨⟨_, _, rfl⟩, rfl⟩ bipush_10 ?_
  refine w_aload_n (q := 3) hm27 ⟨⟨_, _, rfl⟩, rfl⟩ rfl ?_
  refine w_getf (q := 6) (v := (m.1 70 19)) hm27 ⟨⟨_, _, rfl⟩, rfl⟩ rfl rfl ?_
  refine w_imul (q := 7) hm27 ⟨⟨_, _, rfl⟩, rfl⟩ ?_
  refine w_aload_n (q := 8) hm27 ⟨⟨_, _, rfl⟩, rfl⟩ rfl ?_
  refine w_getr (q := 11) hm27 ⟨⟨_, _, rfl⟩, rfl⟩ rfl ?_
  refine w_aload_n (q := 12) hm27 ⟨⟨_, _, rfl⟩, rfl⟩ rfl ?_
  refine w_getf (q := 15) (v := (m.1 70 19)) hm27 ⟨⟨_, _, rfl⟩, rfl⟩ rfl rfl ?_
  obtain ⟨hi, h⟩ := h
  refine w_iald (q := 16) (v := (m.1 82 (m.1 70 19).toNatClampNeg)) hm27 ⟨⟨_, _, rfl⟩, rfl⟩ rfl hi rfl rfl ?_
  refine w_iadd (q := 17) hm27 ⟨⟨_, _, rfl⟩, rfl⟩ ?_
  refine w_istore_n (q := 18) (l' := [oR 70, oI (((10 : Int32) * (m.1 70 19)) + (m.1 82 (m.1 70 19).toNatClampNeg)), none, none, none]) hm27 ⟨⟨_, _, rfl⟩, rfl⟩ rfl rfl rfl ?_
  refine w_aload_n (q := 19) hm27 ⟨⟨_, _, rfl⟩, rfl⟩ rfl ?_
  refine w_call (q := 22) (n := 2) (vs := [.inr (.inr (some 70))]) (rest := []) (la := [oR 70, none, none]) hm27 ⟨⟨_, _, rfl⟩, rfl⟩ rfl rfl rfl rfl hm24 rfl rfl (fun _ => ⟨_, _, rfl, rfl⟩) rfl (Wp.mono h ?_)
  rintro _ m1 ⟨r1, rfl, h⟩
  change Wp _ _ 22 _ [.inl r1] _ _
  refine w_istore_n (q := 23) (l' := [oR 70, oI (((10 : Int32) * (m.1 70 19)) + (m.1 82 (m.1 70 19).toNatClampNeg)), oI r1, none, none]) hm27 ⟨⟨_, _, rfl⟩, rfl⟩ rfl rfl rfl ?_
  refine w_aload_n (q := 24) hm27 ⟨⟨_, _, rfl⟩, rfl⟩ rfl ?_
  refine w_getf (q := 27) (v := (m1.1 70 11)) hm27 ⟨⟨_, _, rfl⟩, rfl⟩ rfl rfl ?_
  refine w_istore_n (q := 28) (l' := [oR 70, oI (((10 : Int32) * (m.1 70 19)) + (m.1 82 (m.1 70 19).toNatClampNeg)), oI r1, oI (m1.1 70 11), none]) hm27 ⟨⟨_, _, rfl⟩, rfl⟩ rfl rfl rfl ?_
  refine w_aload_n (q := 29) hm27 ⟨⟨_, _, rfl⟩, rfl⟩ rfl ?_
  refine w_call (q := 32) (n := 2) (vs := [.inr (.inr (some 70))]) (rest := []) (la := [oR 70, none, none]) hm27 ⟨⟨_, _, rfl⟩, rfl⟩ rfl rfl rfl rfl hm24 rfl rfl (fun _ => ⟨_, _, rfl, rfl⟩) rfl (Wp.mono h ?_)
  rintro _ m2 ⟨r2, rfl, h⟩
  change Wp _ _ 32 _ [.inl r2] _ _
  refine w_istore (q := 34) (l' := [oR 70, oI (((10 : Int32) * (m.1 70 19)) + (m.1 82 (m.1 70 19).toNatClampNeg)), oI r1, oI (m1.1 70 11), oI r2]) hm27 ⟨⟨_, _, rfl⟩, rfl⟩ rfl rfl rfl ?_
  refine w_aload_n (q := 35) hm27 ⟨⟨_, _, rfl⟩, rfl⟩ rfl ?_
  refine w_getf (q := 38) (v := (m2.1 70 13)) hm27 ⟨⟨_, _, rfl⟩, rfl⟩ rfl rfl ?_
  refine w_if_ne (q := 41) (X := (m2.1 70 13).toInt) hm27 ⟨⟨_, _, rfl⟩, rfl⟩ rfl (fun hc => ?_) (fun hc => ?_)
  · have h := h.1 hc
    exact Wp.wk [true, true, true, false, true] h
  · have h := h.2 hc
    refine w_iload_n (q := 42) hm27 ⟨⟨_, _, rfl⟩, rfl⟩ rfl ?_
    refine w_if_lt (q := 45) (X := r1.toInt) hm27 ⟨⟨_, _, rfl⟩, rfl⟩ rfl (fun hc => ?_) (fun hc => ?_)
    · have h := h.1 hc
      exact Wp.wk [true, true, true, false, true] h
    · have h := h.2 hc
      refine w_iload (q := 47) hm27 ⟨⟨_, _, rfl⟩, rfl⟩ rfl ?_
      refine w_if_lt (q := 50) (X := r2.toInt) hm27 ⟨⟨_, _, rfl⟩, rfl⟩ rfl (fun hc => ?_) (fun hc => ?_)
      · have h := h.1 hc
        exact Wp.wk [true, true, true, false, true] h
      · have h := h.2 hc
        refine w_iload_n (q := 51) hm27 ⟨⟨_, _, rfl⟩, rfl⟩ rfl ?_
        refine w_iload (q := 53) hm27 ⟨⟨_, _, rfl⟩, rfl⟩ rfl ?_
        refine w_icmp_eq (q := 56) (X := r1.toInt) (Y := r2.toInt) hm27 ⟨⟨_, _, rfl⟩, rfl⟩ rfl rfl (fun hc => ?_) (fun hc => ?_)
        · have h := h.1 hc
          exact h
        · have h := h.2 hc
          refine w_aload_n (q := 57) hm27 ⟨⟨_, _, rfl⟩, rfl⟩ rfl ?_
          refine w_iload_n (q := 58) hm27 ⟨⟨_, _, rfl⟩, rfl⟩ rfl ?_
          refine w_iload (q := 60) hm27 ⟨⟨_, _, rfl⟩, rfl⟩ rfl ?_
          refine w_call (q := 63) (n := 1) (vs := [.inr (.inr (some 70)), .inl r1, .inl r2]) (rest := []) (la := [oR 70, oI r1, oI r2, none]) hm27 ⟨⟨_, _, rfl⟩, rfl⟩ rfl rfl rfl rfl hm26 rfl rfl (fun _ => ⟨_, _, rfl, rfl⟩) rfl (Wp.mono h ?_)
          rintro _ m3 ⟨r3, rfl, h⟩
          change Wp _ _ 63 _ [.inl r3] _ _
          refine w_if_eq (q := 66) (X := r3.toInt) hm27 ⟨⟨_, _, rfl⟩, rfl⟩ rfl (fun hc => ?_) (fun hc => ?_)
          · have h := h.1 hc
            exact Wp.wk [true, true, true, false, true] h
          · have h := h.2 hc
            exact h
theorem v_X12_tellWire_70_66 {d : Nat} {x1 : Int32} {x2 : Int32} {x3 : Int32} {x4 : Int32} {m : dM} {Q : dM → Prop} (h : c_X12_wrong_70 d (3 : Int32) x3 m (fun m1 => j_X12_tellWire_70_72 (d + 1) x1 x2 x4 m1 Q)) : j_X12_tellWire_70_66 (d + 1) x1 x2 x3 x4 m Q := by
  refine w_aload_n (q := 67) hm27 ⟨⟨_, _, rfl⟩, rfl⟩ rfl ?_
  refine w_iconst (q := 68) hm27 ⟨⟨_, _, rfl⟩, rfl⟩ iconst_3 ?_
  refine w_iload_n (q := 69) hm27 ⟨⟨_, _, rfl⟩, rfl⟩ rfl ?_
  refine w_call (q := 72) (n := 1) (vs := [.inr (.inr (some 70)), .inl (3 : Int32), .inl x3]) (rest := []) (la := [oR 70, oI (3 : Int32), oI x3, none]) hm27 ⟨⟨_, _, rfl⟩, rfl⟩ rfl rfl rfl rfl hm14 rfl rfl (fun _ => ⟨_, _, rfl, rfl⟩) rfl (Wp.mono h ?_)
  rintro _ m1 ⟨rfl, h⟩
  change Wp _ _ 72 _ [] _ _
  exact Wp.wk [true, true, true, false, true] h
theorem v_X12_tellWire_70_72 {d : Nat} {x1 : Int32} {x2 : Int32} {x4 : Int32} {m : dM} {Q : dM → Prop} (h : ((0 ≤ x1.toInt ∧ x1.toInt < 20) ∧ ((0 ≤ x1.toInt ∧ x1.toInt < 20) ∧ c_X12_bounded_70 d (1 : Int32) (99 : Int32) (dSet (dSet m 83 x1.toNatClampNeg x2) 84 x1.toNatClampNeg x4) (fun r1 m1 => ((0 ≤ x1.toInt ∧ x1.toInt < 20) ∧ c_X12_must_70 d (4 : Int32) (dSet m1 85 x1.toNatClampNeg r1) (fun m2 => (((m2.1 70 13).toInt ≠ 0 → j_X12_tellWire_70_125 (d + 1) m2 Q) ∧ ((m2.1 70 13).toInt = 0 → ((0 ≤ (m2.1 70 19).toInt ∧ (m2.1 70 19).toInt < 2) ∧ ((0 ≤ (m2.1 70 19).toInt ∧ (m2.1 70 19).toInt < 2) ∧ j_X12_tellWire_70_125 (d + 1) (dSet m2 82 (m2.1 70 19).toNatClampNeg ((m2.1 82 (m2.1 70 19).toNatClampNeg) + (1 : Int32))) Q)))))))))) : j_X12_tellWire_70_72 (d + 1) x1 x2 x4 m Q := by
  refine w_aload_n (q := 73) hm27 ⟨⟨_, _, rfl⟩, rfl⟩ rfl ?_
  refine w_getr (q := 76) hm27 ⟨⟨_, _, rfl⟩, rfl⟩ rfl ?_
  refine w_iload_n (q := 77) hm27 ⟨⟨_, _, rfl⟩, rfl⟩ rfl ?_
  refine w_iload_n (q := 78) hm27 ⟨⟨_, _, rfl⟩, rfl⟩ rfl ?_
  obtain ⟨hi, h⟩ := h
  refine w_iast (q := 79) hm27 ⟨⟨_, _, rfl⟩, rfl⟩ rfl hi rfl rfl ?_
  refine w_aload_n (q := 80) hm27 ⟨⟨_, _, rfl⟩, rfl⟩ rfl ?_
  refine w_getr (q := 83) hm27 ⟨⟨_, _, rfl⟩, rfl⟩ rfl ?_
  refine w_iload_n (q := 84) hm27 ⟨⟨_, _, rfl⟩, rfl⟩ rfl ?_
  refine w_iload (q := 86) hm27 ⟨⟨_, _, rfl⟩, rfl⟩ rfl ?_
  obtain ⟨hi, h⟩ := h
  refine w_iast (q := 87) hm27 ⟨⟨_, _, rfl⟩, rfl⟩ rfl hi rfl rfl ?_
  refine w_aload_n (q := 88) hm27 ⟨⟨_, _, rfl⟩, rfl⟩ rfl ?_
  refine w_getr (q := 91) hm27 ⟨⟨_, _, rfl⟩, rfl⟩ rfl ?_
  refine w_iload_n (q := 92) hm27 ⟨⟨_, _, rfl⟩, rfl⟩ rfl ?_
  refine w_aload_n (q := 93) hm27 ⟨⟨_, _, rfl⟩, rfl⟩ rfl ?_
  refine w_iconst (q := 94) hm27 ⟨⟨_, _, rfl⟩, rfl⟩ iconst_1 ?_
  refine w_bipush (q := 96) hm27 ⟨⟨_, _, rfl⟩, rfl⟩ bipush_99 ?_
  refine w_call (q := 99) (n := 1) (vs := [.inr (.inr (some 70)), .inl (1 : Int32), .inl (99 : Int32)]) (rest := [.inl x1, .inr (.inr (some 85))]) (la := [oR 70, oI (1 : Int32), oI (99 : Int32), none]) hm27 ⟨⟨_, _, rfl⟩, rfl⟩ rfl rfl rfl rfl hm25 rfl rfl (fun _ => ⟨_, _, rfl, rfl⟩) rfl (Wp.mono h ?_)
  rintro _ m1 ⟨r1, rfl, h⟩
  change Wp _ _ 99 _ [.inl r1, .inl x1, .inr (.inr (some 85))] _ _
  obtain ⟨hi, h⟩ := h
  refine w_iast (q := 100) hm27 ⟨⟨_, _, rfl⟩, rfl⟩ rfl hi rfl rfl ?_
  refine w_aload_n (q := 101) hm27 ⟨⟨_, _, rfl⟩, rfl⟩ rfl ?_
  refine w_iconst (q := 102) hm27 ⟨⟨_, _, rfl⟩, rfl⟩ iconst_4 ?_
  refine w_call (q := 105) (n := 0) (vs := [.inr (.inr (some 70)), .inl (4 : Int32)]) (rest := []) (la := [oR 70, oI (4 : Int32)]) hm27 ⟨⟨_, _, rfl⟩, rfl⟩ rfl rfl rfl rfl hm16 rfl rfl (fun _ => ⟨_, _, rfl, rfl⟩) rfl (Wp.mono h ?_)
  rintro _ m2 ⟨rfl, h⟩
  change Wp _ _ 105 _ [] _ _
  refine w_aload_n (q := 106) hm27 ⟨⟨_, _, rfl⟩, rfl⟩ rfl ?_
  refine w_getf (q := 109) (v := (m2.1 70 13)) hm27 ⟨⟨_, _, rfl⟩, rfl⟩ rfl rfl ?_
  refine w_if_ne (q := 112) (X := (m2.1 70 13).toInt) hm27 ⟨⟨_, _, rfl⟩, rfl⟩ rfl (fun hc => ?_) (fun hc => ?_)
  · have h := h.1 hc
    exact Wp.wk [false, false, false, false, false] h
  · have h := h.2 hc
    refine w_aload_n (q := 113) hm27 ⟨⟨_, _, rfl⟩, rfl⟩ rfl ?_
    refine w_getr (q := 116) hm27 ⟨⟨_, _, rfl⟩, rfl⟩ rfl ?_
    refine w_aload_n (q := 117) hm27 ⟨⟨_, _, rfl⟩, rfl⟩ rfl ?_
    refine w_getf (q := 120) (v := (m2.1 70 19)) hm27 ⟨⟨_, _, rfl⟩, rfl⟩ rfl rfl ?_
    refine w_dup2 (q := 121) hm27 ⟨⟨_, _, rfl⟩, rfl⟩ rfl ?_
    obtain ⟨hi, h⟩ := h
    refine w_iald (q := 122) (v := (m2.1 82 (m2.1 70 19).toNatClampNeg)) hm27 ⟨⟨_, _, rfl⟩, rfl⟩ rfl hi rfl rfl ?_
    refine w_iconst (q := 123) hm27 ⟨⟨_, _, rfl⟩, rfl⟩ iconst_1 ?_
    refine w_iadd (q := 124) hm27 ⟨⟨_, _, rfl⟩, rfl⟩ ?_
    obtain ⟨hi, h⟩ := h
    refine w_iast (q := 125) hm27 ⟨⟨_, _, rfl⟩, rfl⟩ rfl hi rfl rfl ?_
    exact Wp.wk [false, false, false, false, false] h
theorem v_X12_tellWire_70_125 {d : Nat} {m : dM} {Q : dM → Prop} (h : Q m) : j_X12_tellWire_70_125 (d + 1) m Q := by
  exact w_retv hm27 ⟨⟨_, _, rfl⟩, rfl⟩ rfl h
end
section
theorem v_X12_tellUse_70 {d : Nat} {m : dM} {Q : dM → Prop} (h : ((0 ≤ (m.1 70 19).toInt ∧ (m.1 70 19).toInt < 2) ∧ c_X12_named_70 d m (fun r1 m1 => c_X12_knownFlat_70 d m1 (fun r2 m2 => ((0 ≤ (((8 : Int32) * (m.1 70 19)) + (m.1 86 (m.1 70 19).toNatClampNeg)).toInt ∧ (((8 : Int32) * (m.1 70 19)) + (m.1 86 (m.1 70 19).toNatClampNeg)).toInt < 16) ∧ c_X12_bounded_70 d (1 : Int32) (19 : Int32) (dSet m2 87 (((8 : Int32) * (m.1 70 19)) + (m.1 86 (m.1 70 19).toNatClampNeg)).toNatClampNeg r2) (fun r3 m3 => ((0 ≤ (((8 : Int32) * (m.1 70 19)) + (m.1 86 (m.1 70 19).toNatClampNeg)).toInt ∧ (((8 : Int32) * (m.1 70 19)) + (m.1 86 (m.1 70 19).toNatClampNeg)).toInt < 16) ∧ c_X12_bounded_70 d (0 : Int32) (23 : Int32) (dSet m3 88 (((8 : Int32) * (m.1 70 19)) + (m.1 86 (m.1 70 19).toNatClampNeg)).toNatClampNeg r3) (fun r4 m4 => ((0 ≤ (((8 : Int32) * (m.1 70 19)) + (m.1 86 (m.1 70 19).toNatClampNeg)).toInt ∧ (((8 : Int32) * (m.1 70 19)) + (m.1 86 (m.1 70 19).toNatClampNeg)).toInt < 16) ∧ ((0 ≤ (((8 : Int32) * (m.1 70 19)) + (m.1 86 (m.1 70 19).toNatClampNeg)).toInt ∧ (((8 : Int32) * (m.1 70 19)) + (m.1 86 (m.1 70 19).toNatClampNeg)).toInt < 16) ∧ ((r4.toInt ≤ 23 → ((0 ≤ (((8 : Int32) * (m.1 70 19)) + (m.1 86 (m.1 70 19).toNatClampNeg)).toInt ∧ (((8 : Int32) * (m.1 70 19)) + (m.1 86 (m.1 70 19).toNatClampNeg)).toInt < 16) ∧ c_X12_bounded_70 d r4 (23 : Int32) (dSet m4 89 (((8 : Int32) * (m.1 70 19)) + (m.1 86 (m.1 70 19).toNatClampNeg)).toNatClampNeg r4) (fun r5 m5 => ((0 ≤ (((8 : Int32) * (m.1 70 19)) + (m.1 86 (m.1 70 19).toNatClampNeg)).toInt ∧ (((8 : Int32) * (m.1 70 19)) + (m.1 86 (m.1 70 19).toNatClampNeg)).toInt < 16) ∧ c_X12_endsName_70 d r1 (-1 : Int32) (dSet m5 90 (((8 : Int32) * (m.1 70 19)) + (m.1 86 (m.1 70 19).toNatClampNeg)).toNatClampNeg r5) (fun m6 => (((m6.1 70 13).toInt ≠ 0 → j_X12_tellUse_70_118 (d + 1) m6 Q) ∧ ((m6.1 70 13).toInt = 0 → ((0 ≤ (m6.1 70 19).toInt ∧ (m6.1 70 19).toInt < 2) ∧ ((0 ≤ (m6.1 70 19).toInt ∧ (m6.1 70 19).toInt < 2) ∧ j_X12_tellUse_70_118 (d + 1) (dSet m6 86 (m6.1 70 19).toNatClampNeg ((m6.1 86 (m6.1 70 19).toNatClampNeg) + (1 : Int32))) Q))))))))) ∧ (23 < r4.toInt → c_X12_bounded_70 d (0 : Int32) (23 : Int32) (dSet m4 89 (((8 : Int32) * (m.1 70 19)) + (m.1 86 (m.1 70 19).toNatClampNeg)).toNatClampNeg r4) (fun r7 m7 => ((0 ≤ (((8 : Int32) * (m.1 70 19)) + (m.1 86 (m.1 70 19).toNatClampNeg)).toInt ∧ (((8 : Int32) * (m.1 70 19)) + (m.1 86 (m.1 70 19).toNatClampNeg)).toInt < 16) ∧ c_X12_endsName_70 d r1 (-1 : Int32) (dSet m7 90 (((8 : Int32) * (m.1 70 19)) + (m.1 86 (m.1 70 19).toNatClampNeg)).toNatClampNeg r7) (fun m8 => (((m8.1 70 13).toInt ≠ 0 → j_X12_tellUse_70_118 (d + 1) m8 Q) ∧ ((m8.1 70 13).toInt = 0 → ((0 ≤ (m8.1 70 19).toInt ∧ (m8.1 70 19).toInt < 2) ∧ ((0 ≤ (m8.1 70 19).toInt ∧ (m8.1 70 19).toInt < 2) ∧ j_X12_tellUse_70_118 (d + 1) (dSet m8 86 (m8.1 70 19).toNatClampNeg ((m8.1 86 (m8.1 70 19).toNatClampNeg) + (1 : Int32))) Q))))))))))))))))))) : c_X12_tellUse_70 (d + 1) m Q := by
  refine w_bipush (q := 2) hm28 ⟨⟨_, _, rfl⟩, rfl⟩ bipush_8 ?_
  refine w_aload_n (q := 3) hm28 ⟨⟨_, _, rfl⟩, rfl⟩ rfl ?_
  refine w_getf (q := 6) (v := (m.1 70 19)) hm28 ⟨⟨_, _, rfl⟩, rfl⟩ rfl rfl ?_
  refine w_imul (q := 7) hm28 ⟨⟨_, _, rfl⟩, rfl⟩ ?_
  refine w_aload_n (q := 8) hm28 ⟨⟨_, _, rfl⟩, rfl⟩ rfl ?_
  refine w_getr (q := 11) hm28 ⟨⟨_, _, rfl⟩, rfl⟩ rfl ?_
  refine w_aload_n (q := 12) hm28 ⟨⟨_, _, rfl⟩, rfl⟩ rfl ?_
  refine w_getf (q := 15) (v := (m.1 70 19)) hm28 ⟨⟨_, _, rfl⟩, rfl⟩ rfl rfl ?_
  obtain ⟨hi, h⟩ := h
  refine w_iald (q := 16) (v := (m.1 86 (m.1 70 19).toNatClampNeg)) hm28 ⟨⟨_, _, rfl⟩, rfl⟩ rfl hi rfl rfl ?_
  refine w_iadd (q := 17) hm28 ⟨⟨_, _, rfl⟩, rfl⟩ ?_
  refine w_istore_n (q := 18) (l' := [oR 70, oI (((8 : Int32) * (m.1 70 19)) + (m.1 86 (m.1 70 19).toNatClampNeg)), none]) hm28 ⟨⟨_, _, rfl⟩, rfl⟩ rfl rfl rfl ?_
  refine w_aload_n (q := 19) hm28 ⟨⟨_, _, rfl⟩, rfl⟩ rfl ?_
  refine w_call (q := 22) (n := 2) (vs := [.inr (.inr (some 70))]) (rest := []) (la := [oR 70, none, none]) hm28 ⟨⟨_, _, rfl⟩, rfl⟩ rfl rfl rfl rfl hm22 rfl rfl (fun _ => ⟨_, _, rfl, rfl⟩) rfl (Wp.mono h ?_)
  rintro _ m1 ⟨r1, rfl, h⟩
  change Wp _ _ 22 _ [.inl r1] _ _
  refine w_istore_n (q := 23) (l' := [oR 70, oI (((8 : Int32) * (m.1 70 19)) + (m.1 86 (m.1 70 19).toNatClampNeg)), oI r1]) hm28 ⟨⟨_, _, rfl⟩, rfl⟩ rfl rfl rfl ?_
  refine w_aload_n (q := 24) hm28 ⟨⟨_, _, rfl⟩, rfl⟩ rfl ?_
  refine w_getr (q := 27) hm28 ⟨⟨_, _, rfl⟩, rfl⟩ rfl ?_
  refine w_iload_n (q := 28) hm28 ⟨⟨_, _, rfl⟩, rfl⟩ rfl ?_
  refine w_aload_n (q := 29) hm28 ⟨⟨_, _, rfl⟩, rfl⟩ rfl ?_
  refine w_call (q := 32) (n := 2) (vs := [.inr (.inr (some 70))]) (rest := [.inl (((8 : Int32) * (m.1 70 19)) + (m.1 86 (m.1 70 19).toNatClampNeg)), .inr (.inr (some 87))]) (la := [oR 70, none, none]) hm28 ⟨⟨_, _, rfl⟩, rfl⟩ rfl rfl rfl rfl hm24 rfl rfl (fun _ => ⟨_, _, rfl, rfl⟩) rfl (Wp.mono h ?_)
  rintro _ m2 ⟨r2, rfl, h⟩
  change Wp _ _ 32 _ [.inl r2, .inl (((8 : Int32) * (m.1 70 19)) + (m.1 86 (m.1 70 19).toNatClampNeg)), .inr (.inr (some 87))] _ _
  obtain ⟨hi, h⟩ := h
  refine w_iast (q := 33) hm28 ⟨⟨_, _, rfl⟩, rfl⟩ rfl hi rfl rfl ?_
  refine w_aload_n (q := 34) hm28 ⟨⟨_, _, rfl⟩, rfl⟩ rfl ?_
  refine w_getr (q := 37) hm28 ⟨⟨_, _, rfl⟩, rfl⟩ rfl ?_
  refine w_iload_n (q := 38) hm28 ⟨⟨_, _, rfl⟩, rfl⟩ rfl ?_
  refine w_aload_n (q := 39) hm28 ⟨⟨_, _, rfl⟩, rfl⟩ rfl ?_
  refine w_iconst (q := 40) hm28 ⟨⟨_, _, rfl⟩, rfl⟩ iconst_1 ?_
  refine w_bipush (q := 42) hm28 ⟨⟨_, _, rfl⟩, rfl⟩ bipush_19 ?_
  refine w_call (q := 45) (n := 1) (vs := [.inr (.inr (some 70)), .inl (1 : Int32), .inl (19 : Int32)]) (rest := [.inl (((8 : Int32) * (m.1 70 19)) + (m.1 86 (m.1 70 19).toNatClampNeg)), .inr (.inr (some 88))]) (la := [oR 70, oI (1 : Int32), oI (19 : Int32), none]) hm28 ⟨⟨_, _, rfl⟩, rfl⟩ rfl rfl rfl rfl hm25 rfl rfl (fun _ => ⟨_, _, rfl, rfl⟩) rfl (Wp.mono h ?_)
  rintro _ m3 ⟨r3, rfl, h⟩
  change Wp _ _ 45 _ [.inl r3, .inl (((8 : Int32) * (m.1 70 19)) + (m.1 86 (m.1 70 19).toNatClampNeg)), .inr (.inr (some 88))] _ _
  obtain ⟨hi, h⟩ := h
  refine w_iast (q := 46) hm28 ⟨⟨_, _, rfl⟩, rfl⟩ rfl hi rfl rfl ?_
  refine w_aload_n (q := 47) hm28 ⟨⟨_, _, rfl⟩, rfl⟩ rfl ?_
  refine w_getr (q := 50) hm28 ⟨⟨_, _, rfl⟩, rfl⟩ rfl ?_
  refine w_iload_n (q := 51) hm28 ⟨⟨_, _, rfl⟩, rfl⟩ rfl ?_
  refine w_aload_n (q := 52) hm28 ⟨⟨_, _, rfl⟩, rfl⟩ rfl ?_
  refine w_iconst (q := 53) hm28 ⟨⟨_, _, rfl⟩, rfl⟩ iconst_0 ?_
  refine w_bipush (q := 55) hm28 ⟨⟨_, _, rfl⟩, rfl⟩ bipush_23 ?_
  refine w_call (q := 58) (n := 1) (vs := [.inr (.inr (some 70)), .inl (0 : Int32), .inl (23 : Int32)]) (rest := [.inl (((8 : Int32) * (m.1 70 19)) + (m.1 86 (m.1 70 19).toNatClampNeg)), .inr (.inr (some 89))]) (la := [oR 70, oI (0 : Int32), oI (23 : Int32), none]) hm28 ⟨⟨_, _, rfl⟩, rfl⟩ rfl rfl rfl rfl hm25 rfl rfl (fun _ => ⟨_, _, rfl, rfl⟩) rfl (Wp.mono h ?_)
  rintro _ m4 ⟨r4, rfl, h⟩
  change Wp _ _ 58 _ [.inl r4, .inl (((8 : Int32) * (m.1 70 19)) + (m.1 86 (m.1 70 19).toNatClampNeg)), .inr (.inr (some 89))] _ _
  obtain ⟨hi, h⟩ := h
  refine w_iast (q := 59) hm28 ⟨⟨_, _, rfl⟩, rfl⟩ rfl hi rfl rfl ?_
  refine w_aload_n (q := 60) hm28 ⟨⟨_, _, rfl⟩, rfl⟩ rfl ?_
  refine w_getr (q := 63) hm28 ⟨⟨_, _, rfl⟩, rfl⟩ rfl ?_
  refine w_iload_n (q := 64) hm28 ⟨⟨_, _, rfl⟩, rfl⟩ rfl ?_
  refine w_aload_n (q := 65) hm28 ⟨⟨_, _, rfl⟩, rfl⟩ rfl ?_
  refine w_aload_n (q := 66) hm28 ⟨⟨_, _, rfl⟩, rfl⟩ rfl ?_
  refine w_getr (q := 69) hm28 ⟨⟨_, _, rfl⟩, rfl⟩ rfl ?_
  refine w_iload_n (q := 70) hm28 ⟨⟨_, _, rfl⟩, rfl⟩ rfl ?_
  obtain ⟨hi, h⟩ := h
  refine w_iald (q := 71) (v := r4) hm28 ⟨⟨_, _, rfl⟩, rfl⟩ rfl hi rfl (dSet_s m4 89 (((8 : Int32) * (m.1 70 19)) + (m.1 86 (m.1 70 19).toNatClampNeg)).toNatClampNeg r4) ?_
  refine w_bipush (q := 73) hm28 ⟨⟨_, _, rfl⟩, rfl⟩ bipush_23 ?_
  refine w_icmp_le (q := 76) (X := r4.toInt) (Y := 23) hm28 ⟨⟨_, _, rfl⟩, rfl⟩ rfl (by decide) (fun hc => ?_) (fun hc => ?_)
  · have h := h.1 hc
    refine w_aload_n (q := 81) hm28 ⟨⟨_, _, rfl⟩, rfl⟩ rfl ?_
    refine w_getr (q := 84) hm28 ⟨⟨_, _, rfl⟩, rfl⟩ rfl ?_
    refine w_iload_n (q := 85) hm28 ⟨⟨_, _, rfl⟩, rfl⟩ rfl ?_
    obtain ⟨hi, h⟩ := h
    refine w_iald (q := 86) (v := r4) hm28 ⟨⟨_, _, rfl⟩, rfl⟩ rfl hi rfl (dSet_s m4 89 (((8 : Int32) * (m.1 70 19)) + (m.1 86 (m.1 70 19).toNatClampNeg)).toNatClampNeg r4) ?_
    refine w_bipush (q := 88) hm28 ⟨⟨_, _, rfl⟩, rfl⟩ bipush_23 ?_
    refine w_call (q := 91) (n := 1) (vs := [.inr (.inr (some 70)), .inl r4, .inl (23 : Int32)]) (rest := [.inl (((8 : Int32) * (m.1 70 19)) + (m.1 86 (m.1 70 19).toNatClampNeg)), .inr (.inr (some 90))]) (la := [oR 70, oI r4, oI (23 : Int32), none]) hm28 ⟨⟨_, _, rfl⟩, rfl⟩ rfl rfl rfl rfl hm25 rfl rfl (fun _ => ⟨_, _, rfl, rfl⟩) rfl (Wp.mono h ?_)
    rintro _ m5 ⟨r5, rfl, h⟩
    change Wp _ _ 91 _ [.inl r5, .inl (((8 : Int32) * (m.1 70 19)) + (m.1 86 (m.1 70 19).toNatClampNeg)), .inr (.inr (some 90))] _ _
    obtain ⟨hi, h⟩ := h
    refine w_iast (q := 92) hm28 ⟨⟨_, _, rfl⟩, rfl⟩ rfl hi rfl rfl ?_
    refine w_aload_n (q := 93) hm28 ⟨⟨_, _, rfl⟩, rfl⟩ rfl ?_
    refine w_iload_n (q := 94) hm28 ⟨⟨_, _, rfl⟩, rfl⟩ rfl ?_
    refine w_iconst (q := 95) hm28 ⟨⟨_, _, rfl⟩, rfl⟩ iconst_m1 ?_
    refine w_call (q := 98) (n := 0) (vs := [.inr (.inr (some 70)), .inl r1, .inl (-1 : Int32)]) (rest := []) (la := [oR 70, oI r1, oI (-1 : Int32)]) hm28 ⟨⟨_, _, rfl⟩, rfl⟩ rfl rfl rfl rfl hm23 rfl rfl (fun _ => ⟨_, _, rfl, rfl⟩) rfl (Wp.mono h ?_)
    rintro _ m6 ⟨rfl, h⟩
    change Wp _ _ 98 _ [] _ _
    refine w_aload_n (q := 99) hm28 ⟨⟨_, _, rfl⟩, rfl⟩ rfl ?_
    refine w_getf (q := 102) (v := (m6.1 70 13)) hm28 ⟨⟨_, _, rfl⟩, rfl⟩ rfl rfl ?_
    refine w_if_ne (q := 105) (X := (m6.1 70 13).toInt) hm28 ⟨⟨_, _, rfl⟩, rfl⟩ rfl (fun hc => ?_) (fun hc => ?_)
    · have h := h.1 hc
      exact Wp.wk [false, false, false] h
    · have h := h.2 hc
      refine w_aload_n (q := 106) hm28 ⟨⟨_, _, rfl⟩, rfl⟩ rfl ?_
      refine w_getr (q := 109) hm28 ⟨⟨_, _, rfl⟩, rfl⟩ rfl ?_
      refine w_aload_n (q := 110) hm28 ⟨⟨_, _, rfl⟩, rfl⟩ rfl ?_
      refine w_getf (q := 113) (v := (m6.1 70 19)) hm28 ⟨⟨_, _, rfl⟩, rfl⟩ rfl rfl ?_
      refine w_dup2 (q := 114) hm28 ⟨⟨_, _, rfl⟩, rfl⟩ rfl ?_
      obtain ⟨hi, h⟩ := h
      refine w_iald (q := 115) (v := (m6.1 86 (m6.1 70 19).toNatClampNeg)) hm28 ⟨⟨_, _, rfl⟩, rfl⟩ rfl hi rfl rfl ?_
      refine w_iconst (q := 116) hm28 ⟨⟨_, _, rfl⟩, rfl⟩ iconst_1 ?_
      refine w_iadd (q := 117) hm28 ⟨⟨_, _, rfl⟩, rfl⟩ ?_
      obtain ⟨hi, h⟩ := h
      refine w_iast (q := 118) hm28 ⟨⟨_, _, rfl⟩, rfl⟩ rfl hi rfl rfl ?_
      exact Wp.wk [false, false, false] h
  · have h := h.2 hc
    refine w_iconst (q := 77) hm28 ⟨⟨_, _, rfl⟩, rfl⟩ iconst_0 ?_
    refine w_goto (q := 86) hm28 ⟨_, _, rfl⟩ ?_
    refine w_bipush (q := 88) hm28 ⟨⟨_, _, rfl⟩, rfl⟩ bipush_23 ?_
    refine w_call (q := 91) (n := 1) (vs := [.inr (.inr (some 70)), .inl (0 : Int32), .inl (23 : Int32)]) (rest := [.inl (((8 : Int32) * (m.1 70 19)) + (m.1 86 (m.1 70 19).toNatClampNeg)), .inr (.inr (some 90))]) (la := [oR 70, oI (0 : Int32), oI (23 : Int32), none]) hm28 ⟨⟨_, _, rfl⟩, rfl⟩ rfl rfl rfl rfl hm25 rfl rfl (fun _ => ⟨_, _, rfl, rfl⟩) rfl (Wp.mono h ?_)
    rintro _ m7 ⟨r7, rfl, h⟩
    change Wp _ _ 91 _ [.inl r7, .inl (((8 : Int32) * (m.1 70 19)) + (m.1 86 (m.1 70 19).toNatClampNeg)), .inr (.inr (some 90))] _ _
    obtain ⟨hi, h⟩ := h
    refine w_iast (q := 92) hm28 ⟨⟨_, _, rfl⟩, rfl⟩ rfl hi rfl rfl ?_
    refine w_aload_n (q := 93) hm28 ⟨⟨_, _, rfl⟩, rfl⟩ rfl ?_
    refine w_iload_n (q := 94) hm28 ⟨⟨_, _, rfl⟩, rfl⟩ rfl ?_
    refine w_iconst (q := 95) hm28 ⟨⟨_, _, rfl⟩, rfl⟩ iconst_m1 ?_
    refine w_call (q := 98) (n := 0) (vs := [.inr (.inr (some 70)), .inl r1, .inl (-1 : Int32)]) (rest := []) (la := [oR 70, oI r1, oI (-1 : Int32)]) hm28 ⟨⟨_, _, rfl⟩, rfl⟩ rfl rfl rfl rfl hm23 rfl rfl (fun _ => ⟨_, _, rfl, rfl⟩) rfl (Wp.mono h ?_)
    rintro _ m8 ⟨rfl, h⟩
    change Wp _ _ 98 _ [] _ _
    refine w_aload_n (q := 99) hm28 ⟨⟨_, _, rfl⟩, rfl⟩ rfl ?_
    refine w_getf (q := 102) (v := (m8.1 70 13)) hm28 ⟨⟨_, _, rfl⟩, rfl⟩ rfl rfl ?_
    refine w_if_ne (q := 105) (X := (m8.1 70 13).toInt) hm28 ⟨⟨_, _, rfl⟩, rfl⟩ rfl (fun hc => ?_) (fun hc => ?_)
    · have h := h.1 hc
      exact Wp.wk [false, false, false] h
    · have h := h.2 hc
      refine w_aload_n (q := 106) hm28 ⟨⟨_, _, rfl⟩, rfl⟩ rfl ?_
      refine w_getr (q := 109) hm28 ⟨⟨_, _, rfl⟩, rfl⟩ rfl ?_
      refine w_aload_n (q := 110) hm28 ⟨⟨_, _, rfl⟩, rfl⟩ rfl ?_
      refine w_getf (q := 113) (v := (m8.1 70 19)) hm28 ⟨⟨_, _, rfl⟩, rfl⟩ rfl rfl ?_
      refine w_dup2 (q := 114) hm28 ⟨⟨_, _, rfl⟩, rfl⟩ rfl ?_
      obtain ⟨hi, h⟩ := h
      refine w_iald (q := 115) (v := (m8.1 86 (m8.1 70 19).toNatClampNeg)) hm28 ⟨⟨_, _, rfl⟩, rfl⟩ rfl hi rfl rfl ?_
      refine w_iconst (q := 116) hm28 ⟨⟨_, _, rfl⟩, rfl⟩ iconst_1 ?_
      refine w_iadd (q := 117) hm28 ⟨⟨_, _, rfl⟩, rfl⟩ ?_
      obtain ⟨hi, h⟩ := h
      refine w_iast (q := 118) hm28 ⟨⟨_, _, rfl⟩, rfl⟩ rfl hi rfl rfl ?_
      exact Wp.wk [false, false, false] h
theorem v_X12_tellUse_70_118 {d : Nat} {m : dM} {Q : dM → Prop} (h : Q m) : j_X12_tellUse_70_118 (d + 1) m Q := by
  exact w_retv hm28 ⟨⟨_, _, rfl⟩, rfl⟩ rfl h
theorem v_X12_emit_70 {d : Nat} {x1 : Int32} {x2 : Int32} {m : dM} {Q : dM → Prop} (h : ((0 ≤ (m.1 70 46).toInt ∧ (m.1 70 46).toInt < 840) ∧ ((0 ≤ (m.1 70 46).toInt ∧ (m.1 70 46).toInt < 840) ∧ Q (dSet (dSet (dSet m 102 (m.1 70 46).toNatClampNeg x1) 103 (m.1 70 46).toNatClampNeg x2) 70 46 ((m.1 70 46) + (1 : Int32)))))) : c_X12_emit_70 (d + 1) x1 x2 m Q := by
  refine w_aload_n (q := 1) hm31 ⟨⟨_, _, rfl⟩, rfl⟩ rfl ?_
  refine w_getr (q := 4) hm31 ⟨⟨_, _, rfl⟩, rfl⟩ rfl ?_
  refine w_aload_n (q := 5) hm31 ⟨⟨_, _, rfl⟩, rfl⟩ rfl ?_
  refine w_getf (q := 8) (v := (m.1 70 46)) hm31 ⟨⟨_, _, rfl⟩, rfl⟩ rfl rfl ?_
  refine w_iload_n (q := 9) hm31 ⟨⟨_, _, rfl⟩, rfl⟩ rfl ?_
  obtain ⟨hi, h⟩ := h
  refine w_iast (q := 10) hm31 ⟨⟨_, _, rfl⟩, rfl⟩ rfl hi rfl rfl ?_
  refine w_aload_n (q := 11) hm31 ⟨⟨_, _, rfl⟩, rfl⟩ rfl ?_
  refine w_getr (q := 14) hm31 ⟨⟨_, _, rfl⟩, rfl⟩ rfl ?_
  refine w_aload_n (q := 15) hm31 ⟨⟨_, _, rfl⟩, rfl⟩ rfl ?_
  refine w_getf (q := 18) (v := (m.1 70 46)) hm31 ⟨⟨_, _, rfl⟩, rfl⟩ rfl rfl ?_
  refine w_iload_n (q := 19) hm31 ⟨⟨_, _, rfl⟩, rfl⟩ rfl ?_
  obtain ⟨hi, h⟩ := h
  refine w_iast (q := 20) hm31 ⟨⟨_, _, rfl⟩, rfl⟩ rfl hi rfl rfl ?_
  refine w_aload_n (q := 21) hm31 ⟨⟨_, _, rfl⟩, rfl⟩ rfl ?_
  refine w_dup (q := 22) hm31 ⟨⟨_, _, rfl⟩, rfl⟩ rfl ?_
  refine w_getf (q := 25) (v := (m.1 70 46)) hm31 ⟨⟨_, _, rfl⟩, rfl⟩ rfl rfl ?_
  refine w_iconst (q := 26) hm31 ⟨⟨_, _, rfl⟩, rfl⟩ iconst_1 ?_
  refine w_iadd (q := 27) hm31 ⟨⟨_, _, rfl⟩, rfl⟩ ?_
  refine w_putf (q := 30) hm31 ⟨⟨_, _, rfl⟩, rfl⟩ rfl rfl rfl ?_
  exact w_retv hm31 ⟨⟨_, _, rfl⟩, rfl⟩ rfl h
theorem v_X12_unit_70 {d : Nat} {m : dM} {Q : dM → Prop} (h : c_X12_is_70 d (2 : Int32) m (fun r1 m1 => ((r1.toInt = 0 → (((m1.1 70 13).toInt ≠ 0 → j_X12_unit_70_88 (d + 1) m1 Q) ∧ ((m1.1 70 13).toInt = 0 → ((0 ≤ (m1.1 70 11).toInt ∧ (m1.1 70 11).toInt < 403) ∧ (((m1.1 73 (m1.1 70 11).toNatClampNeg).toInt < 33 → j_X12_unit_70_88 (d + 1) m1 Q) ∧ (33 ≤ (m1.1 73 (m1.1 70 11).toNatClampNeg).toInt → ((0 ≤ (m1.1 70 11).toInt ∧ (m1.1 70 11).toInt < 403) ∧ ((41 < (m1.1 73 (m1.1 70 11).toNatClampNeg).toInt → j_X12_unit_70_88 (d + 1) m1 Q) ∧ ((m1.1 73 (m1.1 70 11).toNatClampNeg).toInt ≤ 41 → ((0 ≤ (m1.1 70 11).toInt ∧ (m1.1 70 11).toInt < 403) ∧ c_X12_emit_70 d (1 : Int32) ((m1.1 73 (m1.1 70 11).toNatClampNeg) - (33 : Int32)) m1 (fun m2 => c_X12_goesOn_70 d m2 (fun m3 => j_X12_unit_70_93 (d + 1) m3 Q)))))))))))) ∧ (r1.toInt ≠ 0 → ((0 ≤ (m1.1 70 11).toInt ∧ (m1.1 70 11).toInt < 403) ∧ c_X12_emit_70 d (0 : Int32) (m1.1 75 (m1.1 70 11).toNatClampNeg) m1 (fun m4 => c_X12_goesOn_70 d m4 (fun m5 => j_X12_unit_70_93 (d + 1) m5 Q))))))) : c_X12_unit_70 (d + 1) m Q := by
  refine w_aload_n (q := 1) hm34 ⟨⟨_, _, rfl⟩, rfl⟩ rfl ?_
  refine w_iconst (q := 2) hm34 ⟨⟨_, _, rfl⟩, rfl⟩ iconst_2 ?_
  refine w_call (q := 5) (n := 0) (vs := [.inr (.inr (some 70)), .inl (2 : Int32)]) (rest := []) (la := [oR 70, oI (2 : Int32)]) hm34 ⟨⟨_, _, rfl⟩, rfl⟩ rfl rfl rfl rfl hm12 rfl rfl (fun _ => ⟨_, _, rfl, rfl⟩) rfl (Wp.mono h ?_)
  rintro _ m1 ⟨r1, rfl, h⟩
  change Wp _ _ 5 _ [.inl r1] _ _
  refine w_if_eq (q := 8) (X := r1.toInt) hm34 ⟨⟨_, _, rfl⟩, rfl⟩ rfl (fun hc => ?_) (fun hc => ?_)
  · have h := h.1 hc
    refine w_aload_n (q := 30) hm34 ⟨⟨_, _, rfl⟩, rfl⟩ rfl ?_
    refine w_getf (q := 33) (v := (m1.1 70 13)) hm34 ⟨⟨_, _, rfl⟩, rfl⟩ rfl rfl ?_
    refine w_if_ne (q := 36) (X := (m1.1 70 13).toInt) hm34 ⟨⟨_, _, rfl⟩, rfl⟩ rfl (fun hc => ?_) (fun hc => ?_)
    · have h := h.1 hc
      exact h
    · have h := h.2 hc
      refine w_aload_n (q := 37) hm34 ⟨⟨_, _, rfl⟩, rfl⟩ rfl ?_
      refine w_getr (q := 40) hm34 ⟨⟨_, _, rfl⟩, rfl⟩ rfl ?_
      refine w_aload_n (q := 41) hm34 ⟨⟨_, _, rfl⟩, rfl⟩ rfl ?_
      refine w_getf (q := 44) (v := (m1.1 70 11)) hm34 ⟨⟨_, _, rfl⟩, rfl⟩ rfl rfl ?_
      obtain ⟨hi, h⟩ := h
      refine w_iald (q := 45) (v := (m1.1 73 (m1.1 70 11).toNatClampNeg)) hm34 ⟨⟨_, _, rfl⟩, rfl⟩ rfl hi rfl rfl ?_
      refine w_bipush (q := 47) hm34 ⟨⟨_, _, rfl⟩, rfl⟩ bipush_33 ?_
      refine w_icmp_lt (q := 50) (X := (m1.1 73 (m1.1 70 11).toNatClampNeg).toInt) (Y := 33) hm34 ⟨⟨_, _, rfl⟩, rfl⟩ rfl (by decide) (fun hc => ?_) (fun hc => ?_)
      · have h := h.1 hc
        exact h
      · have h := h.2 hc
        refine w_aload_n (q := 51) hm34 ⟨⟨_, _, rfl⟩, rfl⟩ rfl ?_
        refine w_getr (q := 54) hm34 ⟨⟨_, _, rfl⟩, rfl⟩ rfl ?_
        refine w_aload_n (q := 55) hm34 ⟨⟨_, _, rfl⟩, rfl⟩ rfl ?_
        refine w_getf (q := 58) (v := (m1.1 70 11)) hm34 ⟨⟨_, _, rfl⟩, rfl⟩ rfl rfl ?_
        obtain ⟨hi, h⟩ := h
        refine w_iald (q := 59) (v := (m1.1 73 (m1.1 70 11).toNatClampNeg)) hm34 ⟨⟨_, _, rfl⟩, rfl⟩ rfl hi rfl rfl ?_
        refine w_bipush (q := 61) hm34 ⟨⟨_, _, rfl⟩, rfl⟩ bipush_41 ?_
        refine w_icmp_gt (q := 64) (X := (m1.1 73 (m1.1 70 11).toNatClampNeg).toInt) (Y := 41) hm34 ⟨⟨_, _, rfl⟩, rfl⟩ rfl (by decide) (fun hc => ?_) (fun hc => ?_)
        · have h := h.1 hc
          exact h
        · have h := h.2 hc
          refine w_aload_n (q := 65) hm34 ⟨⟨_, _, rfl⟩, rfl⟩ rfl ?_
          refine w_iconst (q := 66) hm34 ⟨⟨_, _, rfl⟩, rfl⟩ iconst_1 ?_
          refine w_aload_n (q := 67) hm34 ⟨⟨_, _, rfl⟩, rfl⟩ rfl ?_
          refine w_getr (q := 70) hm34 ⟨⟨_, _, rfl⟩, rfl⟩ rfl ?_
          refine w_aload_n (q := 71) hm34 ⟨⟨_, _, rfl⟩, rfl⟩ rfl ?_
          refine w_getf (q := 74) (v := (m1.1 70 11)) hm34 ⟨⟨_, _, rfl⟩, rfl⟩ rfl rfl ?_
          obtain ⟨hi, h⟩ := h
          refine w_iald (q := 75) (v := (m1.1 73 (m1.1 70 11).toNatClampNeg)) hm34 ⟨⟨_, _, rfl⟩, rfl⟩ rfl hi rfl rfl ?_
          refine w_bipush (q := 77) hm34 ⟨⟨_, _, rfl⟩, rfl⟩ bipush_33 ?_
          refine w_isub (q := 78) hm34 ⟨⟨_, _, rfl⟩, rfl⟩ ?_
          refine w_call (q := 81) (n := 0) (vs := [.inr (.inr (some 70)), .inl (1 : Int32), .inl ((m1.1 73 (m1.1 70 11).toNatClampNeg) - (33 : Int32))]) (rest := []) (la := [oR 70, oI (1 : Int32), oI ((m1.1 73 (m1.1 70 11).toNatClampNeg) - (33 : Int32))]) hm34 ⟨⟨_, _, rfl⟩, rfl⟩ rfl rfl rfl rfl hm31 rfl rfl (fun _ => ⟨_, _, rfl, rfl⟩) rfl (Wp.mono h ?_)
          rintro _ m2 ⟨rfl, h⟩
          change Wp _ _ 81 _ [] _ _
          refine w_aload_n (q := 82) hm34 ⟨⟨_, _, rfl⟩, rfl⟩ rfl ?_
          refine w_call (q := 85) (n := 0) (vs := [.inr (.inr (some 70))]) (rest := []) (la := [oR 70]) hm34 ⟨⟨_, _, rfl⟩, rfl⟩ rfl rfl rfl rfl hm15 rfl rfl (fun _ => ⟨_, _, rfl, rfl⟩) rfl (Wp.mono h ?_)
          rintro _ m3 ⟨rfl, h⟩
          change Wp _ _ 85 _ [] _ _
          refine w_goto (q := 93) hm34 ⟨_, _, rfl⟩ ?_
          exact Wp.wk [false] h
  · have h := h.2 hc
    refine w_aload_n (q := 9) hm34 ⟨⟨_, _, rfl⟩, rfl⟩ rfl ?_
    refine w_iconst (q := 10) hm34 ⟨⟨_, _, rfl⟩, rfl⟩ iconst_0 ?_
    refine w_aload_n (q := 11) hm34 ⟨⟨_, _, rfl⟩, rfl⟩ rfl ?_
    refine w_getr (q := 14) hm34 ⟨⟨_, _, rfl⟩, rfl⟩ rfl ?_
    refine w_aload_n (q := 15) hm34 ⟨⟨_, _, rfl⟩, rfl⟩ rfl ?_
    refine w_getf (q := 18) (v := (m1.1 70 11)) hm34 ⟨⟨_, _, rfl⟩, rfl⟩ rfl rfl ?_
    obtain ⟨hi, h⟩ := h
    refine w_iald (q := 19) (v := (m1.1 75 (m1.1 70 11).toNatClampNeg)) hm34 ⟨⟨_, _, rfl⟩, rfl⟩ rfl hi rfl rfl ?_
    refine w_call (q := 22) (n := 0) (vs := [.inr (.inr (some 70)), .inl (0 : Int32), .inl (m1.1 75 (m1.1 70 11).toNatClampNeg)]) (rest := []) (la := [oR 70, oI (0 : Int32), oI (m1.1 75 (m1.1 70 11).toNatClampNeg)]) hm34 ⟨⟨_, _, rfl⟩, rfl⟩ rfl rfl rfl rfl hm31 rfl rfl (fun _ => ⟨_, _, rfl, rfl⟩) rfl (Wp.mono h ?_)
    rintro _ m4 ⟨rfl, h⟩
    change Wp _ _ 22 _ [] _ _
    refine w_aload_n (q := 23) hm34 ⟨⟨_, _, rfl⟩, rfl⟩ rfl ?_
    refine w_call (q := 26) (n := 0) (vs := [.inr (.inr (some 70))]) (rest := []) (la := [oR 70]) hm34 ⟨⟨_, _, rfl⟩, rfl⟩ rfl rfl rfl rfl hm15 rfl rfl (fun _ => ⟨_, _, rfl, rfl⟩) rfl (Wp.mono h ?_)
    rintro _ m5 ⟨rfl, h⟩
    change Wp _ _ 26 _ [] _ _
    refine w_goto (q := 93) hm34 ⟨_, _, rfl⟩ ?_
    exact Wp.wk [false] h
theorem v_X12_unit_70_88 {d : Nat} {m : dM} {Q : dM → Prop} (h : c_X12_fail_70 d (1 : Int32) m (fun m1 => j_X12_unit_70_93 (d + 1) m1 Q)) : j_X12_unit_70_88 (d + 1) m Q := by
  refine w_aload_n (q := 89) hm34 ⟨⟨_, _, rfl⟩, rfl⟩ rfl ?_
  refine w_iconst (q := 90) hm34 ⟨⟨_, _, rfl⟩, rfl⟩ iconst_1 ?_
  refine w_call (q := 93) (n := 0) (vs := [.inr (.inr (some 70)), .inl (1 : Int32)]) (rest := []) (la := [oR 70, oI (1 : Int32)]) hm34 ⟨⟨_, _, rfl⟩, rfl⟩ rfl rfl rfl rfl hm13 rfl rfl (fun _ => ⟨_, _, rfl, rfl⟩) rfl (Wp.mono h ?_)
  rintro _ m1 ⟨rfl, h⟩
  change Wp _ _ 93 _ [] _ _
  exact Wp.wk [false] h
theorem v_X12_unit_70_93 {d : Nat} {m : dM} {Q : dM → Prop} (h : Q m) : j_X12_unit_70_93 (d + 1) m Q := by
  exact w_retv hm34 ⟨⟨_, _, rfl⟩, rfl⟩ rfl h
theorem v_X12_comesOut_70 {d : Nat} {x1 : Int32} {m : dM} {Q : dM → Prop} (h : (((m.1 70 50).toInt ≤ 0 → Q m) ∧ (0 < (m.1 70 50).toInt → ((0 ≤ ((m.1 70 50) - (1 : Int32)).toInt ∧ ((m.1 70 50) - (1 : Int32)).toInt < 64) ∧ (((m.1 104 ((m.1 70 50) - (1 : Int32)).toNatClampNeg).toInt = 6 → j_X12_comesOut_70_41 (d + 1) m Q) ∧ ((m.1 104 ((m.1 70 50) - (1 : Int32)).toNatClampNeg).toInt ≠ 6 → ((x1.toInt = 0 → j_X12_comesOut_70_42 (d + 1) x1 (m.1 104 ((m.1 70 50) - (1 : Int32)).toNatClampNeg) m Q) ∧ (x1.toInt ≠ 0 → (((m.1 104 ((m.1 70 50) - (1 : Int32)).toNatClampNeg).toInt = 8 → j_X12_comesOut_70_41 (d + 1) m Q) ∧ ((m.1 104 ((m.1 70 50) - (1 : Int32)).toNatClampNeg).toInt ≠ 8 → (((m.1 104 ((m.1 70 50) - (1 : Int32)).toNatClampNeg).toInt ≠ 9 → j_X12_comesOut_70_42 (d + 1) x1 (m.1 104 ((m.1 70 50) - (1 : Int32)).toNatClampNeg) m Q) ∧ ((m.1 104 ((m.1 70 50) - (1 : Int32)).toNatClampNeg).toInt = 9 → j_X12_comesOut_70_41 (d + 1) m Q)))))))))))) : c_X12_comesOut_70 (d + 1) x1 m Q := by
  refine w_aload_n (q := 1) hm32 ⟨⟨_, _, rfl⟩, rfl⟩ rfl ?_
  refine w_getf (q := 4) (v := (m.1 70 50)) hm32 ⟨⟨_, _, rfl⟩, rfl⟩ rfl rfl ?_
  refine w_if_le (q := 7) (X := (m.1 70 50).toInt) hm32 ⟨⟨_, _, rfl⟩, rfl⟩ rfl (fun hc => ?_) (fun hc => ?_)
  · have h := h.1 hc
    exact w_retv hm32 ⟨⟨_, _, rfl⟩, rfl⟩ rfl h
  · have h := h.2 hc
    refine w_aload_n (q := 8) hm32 ⟨⟨_, _, rfl⟩, rfl⟩ rfl ?_
    refine w_getr (q := 11) hm32 ⟨⟨_, _, rfl⟩, rfl⟩ rfl ?_
    refine w_aload_n (q := 12) hm32 ⟨⟨_, _, rfl⟩, rfl⟩ rfl ?_
    refine w_getf (q := 15) (v := (m.1 70 50)) hm32 ⟨⟨_, _, rfl⟩, rfl⟩ rfl rfl ?_
    refine w_iconst (q := 16) hm32 ⟨⟨_, _, rfl⟩, rfl⟩ iconst_1 ?_
    refine w_isub (q := 17) hm32 ⟨⟨_, _, rfl⟩, rfl⟩ ?_
    obtain ⟨hi, h⟩ := h
    refine w_iald (q := 18) (v := (m.1 104 ((m.1 70 50) - (1 : Int32)).toNatClampNeg)) hm32 ⟨⟨_, _, rfl⟩, rfl⟩ rfl hi rfl rfl ?_
    refine w_istore_n (q := 19) (l' := [oR 70, oI x1, oI (m.1 104 ((m.1 70 50) - (1 : Int32)).toNatClampNeg)]) hm32 ⟨⟨_, _, rfl⟩, rfl⟩ rfl rfl rfl ?_
    refine w_iload_n (q := 20) hm32 ⟨⟨_, _, rfl⟩, rfl⟩ rfl ?_
    refine w_bipush (q := 22) hm32 ⟨⟨_, _, rfl⟩, rfl⟩ bipush_6 ?_
    refine w_icmp_eq (q := 25) (X := (m.1 104 ((m.1 70 50) - (1 : Int32)).toNatClampNeg).toInt) (Y := 6) hm32 ⟨⟨_, _, rfl⟩, rfl⟩ rfl (by decide) (fun hc => ?_) (fun hc => ?_)
    · have h := h.1 hc
      exact Wp.wk [false, false, false] h
    · have h := h.2 hc
      refine w_iload_n (q := 26) hm32 ⟨⟨_, _, rfl⟩, rfl⟩ rfl ?_
      refine w_if_eq (q := 29) (X := x1.toInt) hm32 ⟨⟨_, _, rfl⟩, rfl⟩ rfl (fun hc => ?_) (fun hc => ?_)
      · have h := h.1 hc
        exact h
      · have h := h.2 hc
        refine w_iload_n (q := 30) hm32 ⟨⟨_, _, rfl⟩, rfl⟩ rfl ?_
        refine w_bipush (q := 32) hm32 ⟨⟨_, _, rfl⟩, rfl⟩ bipush_8 ?_
        refine w_icmp_eq (q := 35) (X := (m.1 104 ((m.1 70 50) - (1 : Int32)).toNatClampNeg).toInt) (Y := 8) hm32 ⟨⟨_, _, rfl⟩, rfl⟩ rfl (by decide) (fun hc => ?_) (fun hc => ?_)
        · have h := h.1 hc
          exact Wp.wk [false, false, false] h
        · have h := h.2 hc
          refine w_iload_n (q := 36) hm32 ⟨⟨_, _, rfl⟩, rfl⟩ rfl ?_
          refine w_bipush (q := 38) hm32 ⟨⟨_, _, rfl⟩, rfl⟩ bipush_9 ?_
          refine w_icmp_ne (q := 41) (X := (m.1 104 ((m.1 70 50) - (1 : Int32)).toNatClampNeg).toInt) (Y := 9) hm32 ⟨⟨_, _, rfl⟩, rfl⟩ rfl (by decide) (fun hc => ?_) (fun hc => ?_)
          · have h := h.1 hc
            exact h
          · have h := h.2 hc
            exact Wp.wk [false, false, false] h
theorem v_X12_comesOut_70_0 {d : Nat} {x1 : Int32} {m : dM} {Q : dM → Prop} (h : (((m.1 70 50).toInt ≤ 0 → Q m) ∧ (0 < (m.1 70 50).toInt → ((0 ≤ ((m.1 70 50) - (1 : Int32)).toInt ∧ ((m.1 70 50) - (1 : Int32)).toInt < 64) ∧ (((m.1 104 ((m.1 70 50) - (1 : Int32)).toNatClampNeg).toInt = 6 → j_X12_comesOut_70_41 (d + 1) m Q) ∧ ((m.1 104 ((m.1 70 50) - (1 : Int32)).toNatClampNeg).toInt ≠ 6 → ((x1.toInt = 0 → j_X12_comesOut_70_42 (d + 1) x1 (m.1 104 ((m.1 70 50) - (1 : Int32)).toNatClampNeg) m Q) ∧ (x1.toInt ≠ 0 → (((m.1 104 ((m.1 70 50) - (1 : Int32)).toNatClampNeg).toInt = 8 → j_X12_comesOut_70_41 (d + 1) m Q) ∧ ((m.1 104 ((m.1 70 50) - (1 : Int32)).toNatClampNeg).toInt ≠ 8 → (((m.1 104 ((m.1 70 50) - (1 : Int32)).toNatClampNeg).toInt ≠ 9 → j_X12_comesOut_70_42 (d + 1) x1 (m.1 104 ((m.1 70 50) - (1 : Int32)).toNatClampNeg) m Q) ∧ ((m.1 104 ((m.1 70 50) - (1 : Int32)).toNatClampNeg).toInt = 9 → j_X12_comesOut_70_41 (d + 1) m Q)))))))))))) : j_X12_comesOut_70_0 (d + 1) x1 m Q := by
  refine w_aload_n (q := 1) hm32 ⟨⟨_, _, rfl⟩, rfl⟩ rfl ?_
  refine w_getf (q := 4) (v := (m.1 70 50)) hm32 ⟨⟨_, _, rfl⟩, rfl⟩ rfl rfl ?_
  refine w_if_le (q := 7) (X := (m.1 70 50).toInt) hm32 ⟨⟨_, _, rfl⟩, rfl⟩ rfl (fun hc => ?_) (fun hc => ?_)
  · have h := h.1 hc
    exact w_retv hm32 ⟨⟨_, _, rfl⟩, rfl⟩ rfl h
  · have h := h.2 hc
    refine w_aload_n (q := 8) hm32 ⟨⟨_, _, rfl⟩, rfl⟩ rfl ?_
    refine w_getr (q := 11) hm32 ⟨⟨_, _, rfl⟩, rfl⟩ rfl ?_
    refine w_aload_n (q := 12) hm32 ⟨⟨_, _, rfl⟩, rfl⟩ rfl ?_
    refine w_getf (q := 15) (v := (m.1 70 50)) hm32 ⟨⟨_, _, rfl⟩, rfl⟩ rfl rfl ?_
    refine w_iconst (q := 16) hm32 ⟨⟨_, _, rfl⟩, rfl⟩ iconst_1 ?_
    refine w_isub (q := 17) hm32 ⟨⟨_, _, rfl⟩, rfl⟩ ?_
    obtain ⟨hi, h⟩ := h
    refine w_iald (q := 18) (v := (m.1 104 ((m.1 70 50) - (1 : Int32)).toNatClampNeg)) hm32 ⟨⟨_, _, rfl⟩, rfl⟩ rfl hi rfl rfl ?_
    refine w_istore_n (q := 19) (l' := [oR 70, oI x1, oI (m.1 104 ((m.1 70 50) - (1 : Int32)).toNatClampNeg)]) hm32 ⟨⟨_, _, rfl⟩, rfl⟩ rfl rfl rfl ?_
    refine w_iload_n (q := 20) hm32 ⟨⟨_, _, rfl⟩, rfl⟩ rfl ?_
    refine w_bipush (q := 22) hm32 ⟨⟨_, _, rfl⟩, rfl⟩ bipush_6 ?_
    refine w_icmp_eq (q := 25) (X := (m.1 104 ((m.1 70 50) - (1 : Int32)).toNatClampNeg).toInt) (Y := 6) hm32 ⟨⟨_, _, rfl⟩, rfl⟩ rfl (by decide) (fun hc => ?_) (fun hc => ?_)
    · have h := h.1 hc
      exact Wp.wk [false, false, false] h
    · have h := h.2 hc
      refine w_iload_n (q := 26) hm32 ⟨⟨_, _, rfl⟩, rfl⟩ rfl ?_
      refine w_if_eq (q := 29) (X := x1.toInt) hm32 ⟨⟨_, _, rfl⟩, rfl⟩ rfl (fun hc => ?_) (fun hc => ?_)
      · have h := h.1 hc
        exact h
      · have h := h.2 hc
        refine w_iload_n (q := 30) hm32 ⟨⟨_, _, rfl⟩, rfl⟩ rfl ?_
        refine w_bipush (q := 32) hm32 ⟨⟨_, _, rfl⟩, rfl⟩ bipush_8 ?_
        refine w_icmp_eq (q := 35) (X := (m.1 104 ((m.1 70 50) - (1 : Int32)).toNatClampNeg).toInt) (Y := 8) hm32 ⟨⟨_, _, rfl⟩, rfl⟩ rfl (by decide) (fun hc => ?_) (fun hc => ?_)
        · have h := h.1 hc
          exact Wp.wk [false, false, false] h
        · have h := h.2 hc
          refine w_iload_n (q := 36) hm32 ⟨⟨_, _, rfl⟩, rfl⟩ rfl ?_
          refine w_bipush (q := 38) hm32 ⟨⟨_, _, rfl⟩, rfl⟩ bipush_9 ?_
          refine w_icmp_ne (q := 41) (X := (m.1 104 ((m.1 70 50) - (1 : Int32)).toNatClampNeg).toInt) (Y := 9) hm32 ⟨⟨_, _, rfl⟩, rfl⟩ rfl (by decide) (fun hc => ?_) (fun hc => ?_)
          · have h := h.1 hc
            exact h
          · have h := h.2 hc
            exact Wp.wk [false, false, false] h
theorem v_X12_comesOut_70_41 {d : Nat} {m : dM} {Q : dM → Prop} (h : Q m) : j_X12_comesOut_70_41 (d + 1) m Q := by
  exact w_retv hm32 ⟨⟨_, _, rfl⟩, rfl⟩ rfl h
theorem v_X12_comesOut_70_42 {d : Nat} {x1 : Int32} {x2 : Int32} {m : dM} {Q : dM → Prop} (h : ((x2.toInt ≠ 8 → ((x2.toInt ≠ 9 → ((x2.toInt ≠ 10 → c_X12_emit_70 d (5 : Int32) (0 : Int32) (dSet m 70 50 ((m.1 70 50) - (1 : Int32))) (fun m1 => j_X12_comesOut_70_0 (d + 1) x1 m1 Q)) ∧ (x2.toInt = 10 → c_X12_emit_70 d (4 : Int32) (0 : Int32) (dSet m 70 50 ((m.1 70 50) - (1 : Int32))) (fun m2 => j_X12_comesOut_70_0 (d + 1) x1 m2 Q)))) ∧ (x2.toInt = 9 → c_X12_emit_70 d (3 : Int32) (0 : Int32) (dSet m 70 50 ((m.1 70 50) - (1 : Int32))) (fun m3 => j_X12_comesOut_70_0 (d + 1) x1 m3 Q)))) ∧ (x2.toInt = 8 → c_X12_emit_70 d (2 : Int32) (0 : Int32) (dSet m 70 50 ((m.1 70 50) - (1 : Int32))) (fun m4 => j_X12_comesOut_70_0 (d + 1) x1 m4 Q)))) : j_X12_comesOut_70_42 (d + 1) x1 x2 m Q := by
  refine w_aload_n (q := 43) hm32 ⟨⟨_, _, rfl⟩, rfl⟩ rfl ?_
  refine w_dup (q := 44) hm32 ⟨⟨_, _, rfl⟩, rfl⟩ rfl ?_
  refine w_getf (q := 47) (v := (m.1 70 50)) hm32 ⟨⟨_, _, rfl⟩, rfl⟩ rfl rfl ?_
  refine w_iconst (q := 48) hm32 ⟨⟨_, _, rfl⟩, rfl⟩ iconst_1 ?_
  refine w_isub (q := 49) hm32 ⟨⟨_, _, rfl⟩, rfl⟩ ?_
  refine w_putf (q := 52) hm32 ⟨⟨_, _, rfl⟩, rfl⟩ rfl rfl rfl ?_
  refine w_aload_n (q := 53) hm32 ⟨⟨_, _, rfl⟩, rfl⟩ rfl ?_
  refine w_iload_n (q := 54) hm32 ⟨⟨_, _, rfl⟩, rfl⟩ rfl ?_
  refine w_bipush (q := 56) hm32 ⟨⟨_, _, rfl⟩, rfl⟩ bipush_8 ?_
  refine w_icmp_ne (q := 59) (X := x2.toInt) (Y := 8) hm32 ⟨⟨_, _, rfl⟩, rfl⟩ rfl (by decide) (fun hc => ?_) (fun hc => ?_)
  · have h := h.1 hc
    refine w_iload_n (q := 64) hm32 ⟨⟨_, _, rfl⟩, rfl⟩ rfl ?_
    refine w_bipush (q := 66) hm32 ⟨⟨_, _, rfl⟩, rfl⟩ bipush_9 ?_
    refine w_icmp_ne (q := 69) (X := x2.toInt) (Y := 9) hm32 ⟨⟨_, _, rfl⟩, rfl⟩ rfl (by decide) (fun hc => ?_) (fun hc => ?_)
    · have h := h.1 hc
      refine w_iload_n (q := 74) hm32 ⟨⟨_, _, rfl⟩, rfl⟩ rfl ?_
      refine w_bipush (q := 76) hm32 ⟨⟨_, _, rfl⟩, rfl⟩ bipush_10 ?_
      refine w_icmp_ne (q := 79) (X := x2.toInt) (Y := 10) hm32 ⟨⟨_, _, rfl⟩, rfl⟩ rfl (by decide) (fun hc => ?_) (fun hc => ?_)
      · have h := h.1 hc
        refine w_iconst (q := 84) hm32 ⟨⟨_, _, rfl⟩, rfl⟩ iconst_5 ?_
        refine w_iconst (q := 85) hm32 ⟨⟨_, _, rfl⟩, rfl⟩ iconst_0 ?_
        refine w_call (q := 88) (n := 0) (vs := [.inr (.inr (some 70)), .inl (5 : Int32), .inl (0 : Int32)]) (rest := []) (la := [oR 70, oI (5 : Int32), oI (0 : Int32)]) hm32 ⟨⟨_, _, rfl⟩, rfl⟩ rfl rfl rfl rfl hm31 rfl rfl (fun _ => ⟨_, _, rfl, rfl⟩) rfl (Wp.mono h ?_)
        rintro _ m1 ⟨rfl, h⟩
        change Wp _ _ 88 _ [] _ _
        refine w_goto (q := 0) hm32 ⟨_, _, rfl⟩ ?_
        exact Wp.wk [true, true, false] h
      · have h := h.2 hc
        refine w_iconst (q := 80) hm32 ⟨⟨_, _, rfl⟩, rfl⟩ iconst_4 ?_
        refine w_goto (q := 84) hm32 ⟨_, _, rfl⟩ ?_
        refine w_iconst (q := 85) hm32 ⟨⟨_, _, rfl⟩, rfl⟩ iconst_0 ?_
        refine w_call (q := 88) (n := 0) (vs := [.inr (.inr (some 70)), .inl (4 : Int32), .inl (0 : Int32)]) (rest := []) (la := [oR 70, oI (4 : Int32), oI (0 : Int32)]) hm32 ⟨⟨_, _, rfl⟩, rfl⟩ rfl rfl rfl rfl hm31 rfl rfl (fun _ => ⟨_, _, rfl, rfl⟩) rfl (Wp.mono h ?_)
        rintro _ m2 ⟨rfl, h⟩
        change Wp _ _ 88 _ [] _ _
        refine w_goto (q := 0) hm32 ⟨_, _, rfl⟩ ?_
        exact Wp.wk [true, true, false] h
    · have h := h.2 hc
      refine w_iconst (q := 70) hm32 ⟨⟨_, _, rfl⟩, rfl⟩ iconst_3 ?_
      refine w_goto (q := 84) hm32 ⟨_, _, rfl⟩ ?_
      refine w_iconst (q := 85) hm32 ⟨⟨_, _, rfl⟩, rfl⟩ iconst_0 ?_
      refine w_call (q := 88) (n := 0) (vs := [.inr (.inr (some 70)), .inl (3 : Int32), .inl (0 : Int32)]) (rest := []) (la := [oR 70, oI (3 : Int32), oI (0 : Int32)]) hm32 ⟨⟨_, _, rfl⟩, rfl⟩ rfl rfl rfl rfl hm31 rfl rfl (fun _ => ⟨_, _, rfl, rfl⟩) rfl (Wp.mono h ?_)
      rintro _ m3 ⟨rfl, h⟩
      change Wp _ _ 88 _ [] _ _
      refine w_goto (q := 0) hm32 ⟨_, _, rfl⟩ ?_
      exact Wp.wk [true, true, false] h
  · have h := h.2 hc
    refine w_iconst (q := 60) hm32 ⟨⟨_, _, rfl⟩, rfl⟩ iconst_2 ?_
    refine w_goto (q := 84) hm32 ⟨_, _, rfl⟩ ?_
    refine w_iconst (q := 85) hm32 ⟨⟨_, _, rfl⟩, rfl⟩ iconst_0 ?_
    refine w_call (q := 88) (n := 0) (vs := [.inr (.inr (some 70)), .inl (2 : Int32), .inl (0 : Int32)]) (rest := []) (la := [oR 70, oI (2 : Int32), oI (0 : Int32)]) hm32 ⟨⟨_, _, rfl⟩, rfl⟩ rfl rfl rfl rfl hm31 rfl rfl (fun _ => ⟨_, _, rfl, rfl⟩) rfl (Wp.mono h ?_)
    rintro _ m4 ⟨rfl, h⟩
    change Wp _ _ 88 _ [] _ _
    refine w_goto (q := 0) hm32 ⟨_, _, rfl⟩ ?_
    exact Wp.wk [true, true, false] h
theorem v_X12_expression_70 {d : Nat} {m : dM} {Q : dM → Prop} (h : j_X12_expression_70_12 (d + 1) (m.1 70 12) (1 : Int32) (dSet m 70 50 (0 : Int32)) Q) : c_X12_expression_70 (d + 1) m Q := by
  refine w_aload_n (q := 1) hm33 ⟨⟨_, _, rfl⟩, rfl⟩ rfl ?_
  refine w_iconst (q := 2) hm33 ⟨⟨_, _, rfl⟩, rfl⟩ iconst_0 ?_
  refine w_putf (q := 5) hm33 ⟨⟨_, _, rfl⟩, rfl⟩ rfl rfl rfl ?_
  refine w_aload_n (q := 6) hm33 ⟨⟨_, _, rfl⟩, rfl⟩ rfl ?_
  refine w_getf (q := 9) (v := (m.1 70 12)) hm33 ⟨⟨_, _, rfl⟩, rfl⟩ rfl rfl ?_
  refine w_istore_n (q := 10) (l' := [oR 70, oI (m.1 70 12), none]) hm33 ⟨⟨_, _, rfl⟩, rfl⟩ rfl rfl rfl ?_
  refine w_iconst (q := 11) hm33 ⟨⟨_, _, rfl⟩, rfl⟩ iconst_1 ?_
  refine w_istore_n (q := 12) (l' := [oR 70, oI (m.1 70 12), oI (1 : Int32)]) hm33 ⟨⟨_, _, rfl⟩, rfl⟩ rfl rfl rfl ?_
  exact h
theorem v_X12_expression_70_12 {d : Nat} {x1 : Int32} {x2 : Int32} {m : dM} {Q : dM → Prop} (h : ((x2.toInt = 0 → j_X12_expression_70_272 (d + 1) m Q) ∧ (x2.toInt ≠ 0 → (((m.1 70 13).toInt ≠ 0 → j_X12_expression_70_272 (d + 1) m Q) ∧ ((m.1 70 13).toInt = 0 → j_X12_expression_70_23 (d + 1) x1 m Q))))) : j_X12_expression_70_12 (d + 1) x1 x2 m Q := by
  refine w_iload_n (q := 13) hm33 ⟨⟨_, _, rfl⟩, rfl⟩ rfl ?_
  refine w_if_eq (q := 16) (X := x2.toInt) hm33 ⟨⟨_, _, rfl⟩, rfl⟩ rfl (fun hc => ?_) (fun hc => ?_)
  · have h := h.1 hc
    exact Wp.wk [false, false, false] h
  · have h := h.2 hc
    refine w_aload_n (q := 17) hm33 ⟨⟨_, _, rfl⟩, rfl⟩ rfl ?_
    refine w_getf (q := 20) (v := (m.1 70 13)) hm33 ⟨⟨_, _, rfl⟩, rfl⟩ rfl rfl ?_
    refine w_if_ne (q := 23) (X := (m.1 70 13).toInt) hm33 ⟨⟨_, _, rfl⟩, rfl⟩ rfl (fun hc => ?_) (fun hc => ?_)
    · have h := h.1 hc
      exact Wp.wk [false, false, false] h
    · have h := h.2 hc
      exact Wp.wk [true, true, false] h
theorem v_X12_expression_70_23 {d : Nat} {x1 : Int32} {m : dM} {Q : dM → Prop} (h : c_X12_is_70 d (6 : Int32) m (fun r1 m1 => ((r1.toInt = 0 → c_X12_unit_70 d m1 (fun m2 => (((m2.1 70 13).toInt ≤ 0 → j_X12_expression_70_96 (d + 1) x1 m2 Q) ∧ (0 < (m2.1 70 13).toInt → Q m2)))) ∧ (r1.toInt ≠ 0 → (((m1.1 70 12).toInt ≠ 6 → j_X12_expression_70_46 (d + 1) x1 m1 Q) ∧ ((m1.1 70 12).toInt = 6 → c_X12_fail_70 d (2 : Int32) m1 (fun m3 => j_X12_expression_70_46 (d + 1) x1 m3 Q))))))) : j_X12_expression_70_23 (d + 1) x1 m Q := by
  refine w_aload_n (q := 24) hm33 ⟨⟨_, _, rfl⟩, rfl⟩ rfl ?_
  refine w_bipush (q := 26) hm33 ⟨⟨_, _, rfl⟩, rfl⟩ bipush_6 ?_
  refine w_call (q := 29) (n := 0) (vs := [.inr (.inr (some 70)), .inl (6 : Int32)]) (rest := []) (la := [oR 70, oI (6 : Int32)]) hm33 ⟨⟨_, _, rfl⟩, rfl⟩ rfl rfl rfl rfl hm12 rfl rfl (fun _ => ⟨_, _, rfl, rfl⟩) rfl (Wp.mono h ?_)
  rintro _ m1 ⟨r1, rfl, h⟩
  change Wp _ _ 29 _ [.inl r1] _ _
  refine w_if_eq (q := 32) (X := r1.toInt) hm33 ⟨⟨_, _, rfl⟩, rfl⟩ rfl (fun hc => ?_) (fun hc => ?_)
  · have h := h.1 hc
    refine w_aload_n (q := 85) hm33 ⟨⟨_, _, rfl⟩, rfl⟩ rfl ?_
    refine w_call (q := 88) (n := 0) (vs := [.inr (.inr (some 70))]) (rest := []) (la := [oR 70]) hm33 ⟨⟨_, _, rfl⟩, rfl⟩ rfl rfl rfl rfl hm34 rfl rfl (fun _ => ⟨_, _, rfl, rfl⟩) rfl (Wp.mono h ?_)
    rintro _ m2 ⟨rfl, h⟩
    change Wp _ _ 88 _ [] _ _
    refine w_aload_n (q := 89) hm33 ⟨⟨_, _, rfl⟩, rfl⟩ rfl ?_
    refine w_getf (q := 92) (v := (m2.1 70 13)) hm33 ⟨⟨_, _, rfl⟩, rfl⟩ rfl rfl ?_
    refine w_if_le (q := 95) (X := (m2.1 70 13).toInt) hm33 ⟨⟨_, _, rfl⟩, rfl⟩ rfl (fun hc => ?_) (fun hc => ?_)
    · have h := h.1 hc
      exact h
    · have h := h.2 hc
      exact w_retv hm33 ⟨⟨_, _, rfl⟩, rfl⟩ rfl h
  · have h := h.2 hc
    refine w_aload_n (q := 33) hm33 ⟨⟨_, _, rfl⟩, rfl⟩ rfl ?_
    refine w_getf (q := 36) (v := (m1.1 70 12)) hm33 ⟨⟨_, _, rfl⟩, rfl⟩ rfl rfl ?_
    refine w_bipush (q := 38) hm33 ⟨⟨_, _, rfl⟩, rfl⟩ bipush_6 ?_
    refine w_icmp_ne (q := 41) (X := (m1.1 70 12).toInt) (Y := 6) hm33 ⟨⟨_, _, rfl⟩, rfl⟩ rfl (by decide) (fun hc => ?_) (fun hc => ?_)
    · have h := h.1 hc
      exact h
    · have h := h.2 hc
      refine w_aload_n (q := 42) hm33 ⟨⟨_, _, rfl⟩, rfl⟩ rfl ?_
      refine w_iconst (q := 43) hm33 ⟨⟨_, _, rfl⟩, rfl⟩ iconst_2 ?_
      refine w_call (q := 46) (n := 0) (vs := [.inr (.inr (some 70)), .inl (2 : Int32)]) (rest := []) (la := [oR 70, oI (2 : Int32)]) hm33 ⟨⟨_, _, rfl⟩, rfl⟩ rfl rfl rfl rfl hm13 rfl rfl (fun _ => ⟨_, _, rfl, rfl⟩) rfl (Wp.mono h ?_)
      rintro _ m3 ⟨rfl, h⟩
      change Wp _ _ 46 _ [] _ _
      exact h
theorem v_X12_expression_70_46 {d : Nat} {x1 : Int32} {m : dM} {Q : dM → Prop} (h : c_X12_goesOn_70 d (dSet m 70 12 ((m.1 70 12) + (1 : Int32))) (fun m1 => ((0 ≤ (m1.1 70 50).toInt ∧ (m1.1 70 50).toInt < 64) ∧ j_X12_expression_70_23 (d + 1) x1 (dSet (dSet m1 104 (m1.1 70 50).toNatClampNeg (6 : Int32)) 70 50 ((m1.1 70 50) + (1 : Int32))) Q))) : j_X12_expression_70_46 (d + 1) x1 m Q := by
  refine w_aload_n (q := 47) hm33 ⟨⟨_, _, rfl⟩, rfl⟩ rfl ?_
  refine w_dup (q := 48) hm33 ⟨⟨_, _, rfl⟩, rfl⟩ rfl ?_
  refine w_getf (q := 51) (v := (m.1 70 12)) hm33 ⟨⟨_, _, rfl⟩, rfl⟩ rfl rfl ?_
  refine w_iconst (q := 52) hm33 ⟨⟨_, _, rfl⟩, rfl⟩ iconst_1 ?_
  refine w_iadd (q := 53) hm33 ⟨⟨_, _, rfl⟩, rfl⟩ ?_
  refine w_putf (q := 56) hm33 ⟨⟨_, _, rfl⟩, rfl⟩ rfl rfl rfl ?_
  refine w_aload_n (q := 57) hm33 ⟨⟨_, _, rfl⟩, rfl⟩ rfl ?_
  refine w_call (q := 60) (n := 0) (vs := [.inr (.inr (some 70))]) (rest := []) (la := [oR 70]) hm33 ⟨⟨_, _, rfl⟩, rfl⟩ rfl rfl rfl rfl hm15 rfl rfl (fun _ => ⟨_, _, rfl, rfl⟩) rfl (Wp.mono h ?_)
  rintro _ m1 ⟨rfl, h⟩
  change Wp _ _ 60 _ [] _ _
  refine w_aload_n (q := 61) hm33 ⟨⟨_, _, rfl⟩, rfl⟩ rfl ?_
  refine w_getr (q := 64) hm33 ⟨⟨_, _, rfl⟩, rfl⟩ rfl ?_
  refine w_aload_n (q := 65) hm33 ⟨⟨_, _, rfl⟩, rfl⟩ rfl ?_
  refine w_getf (q := 68) (v := (m1.1 70 50)) hm33 ⟨⟨_, _, rfl⟩, rfl⟩ rfl rfl ?_
  refine w_bipush (q := 70) hm33 ⟨⟨_, _, rfl⟩, rfl⟩ bipush_6 ?_
  obtain ⟨hi, h⟩ := h
  refine w_iast (q := 71) hm33 ⟨⟨_, _, rfl⟩, rfl⟩ rfl hi rfl rfl ?_
  refine w_aload_n (q := 72) hm33 ⟨⟨_, _, rfl⟩, rfl⟩ rfl ?_
  refine w_dup (q := 73) hm33 ⟨⟨_, _, rfl⟩, rfl⟩ rfl ?_
  refine w_getf (q := 76) (v := (m1.1 70 50)) hm33 ⟨⟨_, _, rfl⟩, rfl⟩ rfl rfl ?_
  refine w_iconst (q := 77) hm33 ⟨⟨_, _, rfl⟩, rfl⟩ iconst_1 ?_
  refine w_iadd (q := 78) hm33 ⟨⟨_, _, rfl⟩, rfl⟩ ?_
  refine w_putf (q := 81) hm33 ⟨⟨_, _, rfl⟩, rfl⟩ rfl rfl rfl ?_
  refine w_goto (q := 23) hm33 ⟨_, _, rfl⟩ ?_
  exact h
theorem v_X12_expression_70_96 {d : Nat} {x1 : Int32} {m : dM} {Q : dM → Prop} (h : c_X12_is_70 d (7 : Int32) m (fun r1 m1 => ((r1.toInt = 0 → j_X12_expression_70_145 (d + 1) x1 m1 Q) ∧ (r1.toInt ≠ 0 → (((m1.1 70 12).toInt ≤ x1.toInt → j_X12_expression_70_145 (d + 1) x1 m1 Q) ∧ (x1.toInt < (m1.1 70 12).toInt → c_X12_comesOut_70 d (0 : Int32) m1 (fun m2 => c_X12_goesOn_70 d (dSet (dSet m2 70 50 ((m2.1 70 50) - (1 : Int32))) 70 12 ((m2.1 70 12) - (1 : Int32))) (fun m3 => j_X12_expression_70_96 (d + 1) x1 m3 Q)))))))) : j_X12_expression_70_96 (d + 1) x1 m Q := by
  refine w_aload_n (q := 97) hm33 ⟨⟨_, _, rfl⟩, rfl⟩ rfl ?_
  refine w_bipush (q := 99) hm33 ⟨⟨_, _, rfl⟩, rfl⟩ bipush_7 ?_
  refine w_call (q := 102) (n := 0) (vs := [.inr (.inr (some 70)), .inl (7 : Int32)]) (rest := []) (la := [oR 70, oI (7 : Int32)]) hm33 ⟨⟨_, _, rfl⟩, rfl⟩ rfl rfl rfl rfl hm12 rfl rfl (fun _ => ⟨_, _, rfl, rfl⟩) rfl (Wp.mono h ?_)
  rintro _ m1 ⟨r1, rfl, h⟩
  change Wp _ _ 102 _ [.inl r1] _ _
  refine w_if_eq (q := 105) (X := r1.toInt) hm33 ⟨⟨_, _, rfl⟩, rfl⟩ rfl (fun hc => ?_) (fun hc => ?_)
  · have h := h.1 hc
    exact h
  · have h := h.2 hc
    refine w_aload_n (q := 106) hm33 ⟨⟨_, _, rfl⟩, rfl⟩ rfl ?_
    refine w_getf (q := 109) (v := (m1.1 70 12)) hm33 ⟨⟨_, _, rfl⟩, rfl⟩ rfl rfl ?_
    refine w_iload_n (q := 110) hm33 ⟨⟨_, _, rfl⟩, rfl⟩ rfl ?_
    refine w_icmp_le (q := 113) (X := (m1.1 70 12).toInt) (Y := x1.toInt) hm33 ⟨⟨_, _, rfl⟩, rfl⟩ rfl rfl (fun hc => ?_) (fun hc => ?_)
    · have h := h.1 hc
      exact h
    · have h := h.2 hc
      refine w_aload_n (q := 114) hm33 ⟨⟨_, _, rfl⟩, rfl⟩ rfl ?_
      refine w_iconst (q := 115) hm33 ⟨⟨_, _, rfl⟩, rfl⟩ iconst_0 ?_
      refine w_call (q := 118) (n := 1) (vs := [.inr (.inr (some 70)), .inl (0 : Int32)]) (rest := []) (la := [oR 70, oI (0 : Int32), none]) hm33 ⟨⟨_, _, rfl⟩, rfl⟩ rfl rfl rfl rfl hm32 rfl rfl (fun _ => ⟨_, _, rfl, rfl⟩) rfl (Wp.mono h ?_)
      rintro _ m2 ⟨rfl, h⟩
      change Wp _ _ 118 _ [] _ _
      refine w_aload_n (q := 119) hm33 ⟨⟨_, _, rfl⟩, rfl⟩ rfl ?_
      refine w_dup (q := 120) hm33 ⟨⟨_, _, rfl⟩, rfl⟩ rfl ?_
      refine w_getf (q := 123) (v := (m2.1 70 50)) hm33 ⟨⟨_, _, rfl⟩, rfl⟩ rfl rfl ?_
      refine w_iconst (q := 124) hm33 ⟨⟨_, _, rfl⟩, rfl⟩ iconst_1 ?_
      refine w_isub (q := 125) hm33 ⟨⟨_, _, rfl⟩, rfl⟩ ?_
      refine w_putf (q := 128) hm33 ⟨⟨_, _, rfl⟩, rfl⟩ rfl rfl rfl ?_
      refine w_aload_n (q := 129) hm33 ⟨⟨_, _, rfl⟩, rfl⟩ rfl ?_
      refine w_dup (q := 130) hm33 ⟨⟨_, _, rfl⟩, rfl⟩ rfl ?_
      refine w_getf (q := 133) (v := (m2.1 70 12)) hm33 ⟨⟨_, _, rfl⟩, rfl⟩ rfl rfl ?_
      refine w_iconst (q := 134) hm33 ⟨⟨_, _, rfl⟩, rfl⟩ iconst_1 ?_
      refine w_isub (q := 135) hm33 ⟨⟨_, _, rfl⟩, rfl⟩ ?_
      refine w_putf (q := 138) hm33 ⟨⟨_, _, rfl⟩, rfl⟩ rfl rfl rfl ?_
      refine w_aload_n (q := 139) hm33 ⟨⟨_, _, rfl⟩, rfl⟩ rfl ?_
      refine w_call (q := 142) (n := 0) (vs := [.inr (.inr (some 70))]) (rest := []) (la := [oR 70]) hm33 ⟨⟨_, _, rfl⟩, rfl⟩ rfl rfl rfl rfl hm15 rfl rfl (fun _ => ⟨_, _, rfl, rfl⟩) rfl (Wp.mono h ?_)
      rintro _ m3 ⟨rfl, h⟩
      change Wp _ _ 142 _ [] _ _
      refine w_goto (q := 96) hm33 ⟨_, _, rfl⟩ ?_
      exact h
theorem v_X12_expression_70_145 {d : Nat} {x1 : Int32} {m : dM} {Q : dM → Prop} (h : c_X12_is_70 d (8 : Int32) m (fun r1 m1 => ((r1.toInt ≠ 0 → j_X12_expression_70_181 (d + 1) x1 m1 Q) ∧ (r1.toInt = 0 → c_X12_is_70 d (9 : Int32) m1 (fun r2 m2 => ((r2.toInt ≠ 0 → j_X12_expression_70_181 (d + 1) x1 m2 Q) ∧ (r2.toInt = 0 → c_X12_is_70 d (10 : Int32) m2 (fun r3 m3 => ((r3.toInt ≠ 0 → j_X12_expression_70_181 (d + 1) x1 m3 Q) ∧ (r3.toInt = 0 → c_X12_is_70 d (15 : Int32) m3 (fun r4 m4 => ((r4.toInt = 0 → (((m4.1 70 12).toInt ≤ x1.toInt → j_X12_expression_70_204 (d + 1) m4 Q) ∧ (x1.toInt < (m4.1 70 12).toInt → c_X12_fail_70 d (1 : Int32) m4 (fun m5 => j_X12_expression_70_204 (d + 1) m5 Q)))) ∧ (r4.toInt ≠ 0 → j_X12_expression_70_181 (d + 1) x1 m4 Q))))))))))))) : j_X12_expression_70_145 (d + 1) x1 m Q := by
  refine w_aload_n (q := 146) hm33 ⟨⟨_, _, rfl⟩, rfl⟩ rfl ?_
  refine w_bipush (q := 148) hm33 ⟨⟨_, _, rfl⟩, rfl⟩ bipush_8 ?_
  refine w_call (q := 151) (n := 0) (vs := [.inr (.inr (some 70)), .inl (8 : Int32)]) (rest := []) (la := [oR 70, oI (8 : Int32)]) hm33 ⟨⟨_, _, rfl⟩, rfl⟩ rfl rfl rfl rfl hm12 rfl rfl (fun _ => ⟨_, _, rfl, rfl⟩) rfl (Wp.mono h ?_)
  rintro _ m1 ⟨r1, rfl, h⟩
  change Wp _ _ 151 _ [.inl r1] _ _
  refine w_if_ne (q := 154) (X := r1.toInt) hm33 ⟨⟨_, _, rfl⟩, rfl⟩ rfl (fun hc => ?_) (fun hc => ?_)
  · have h := h.1 hc
    exact h
  · have h := h.2 hc
    refine w_aload_n (q := 155) hm33 ⟨⟨_, _, rfl⟩, rfl⟩ rfl ?_
    refine w_bipush (q := 157) hm33 ⟨⟨_, _, rfl⟩, rfl⟩ bipush_9 ?_
    refine w_call (q := 160) (n := 0) (vs := [.inr (.inr (some 70)), .inl (9 : Int32)]) (rest := []) (la := [oR 70, oI (9 : Int32)]) hm33 ⟨⟨_, _, rfl⟩, rfl⟩ rfl rfl rfl rfl hm12 rfl rfl (fun _ => ⟨_, _, rfl, rfl⟩) rfl (Wp.mono h ?_)
    rintro _ m2 ⟨r2, rfl, h⟩
    change Wp _ _ 160 _ [.inl r2] _ _
    refine w_if_ne (q := 163) (X := r2.toInt) hm33 ⟨⟨_, _, rfl⟩, rfl⟩ rfl (fun hc => ?_) (fun hc => ?_)
    · have h := h.1 hc
      exact h
    · have h := h.2 hc
      refine w_aload_n (q := 164) hm33 ⟨⟨_, _, rfl⟩, rfl⟩ rfl ?_
      refine w_bipush (q := 166) hm33 ⟨⟨_, _, rfl⟩, rfl⟩ bipush_10 ?_
      refine w_call (q := 169) (n := 0) (vs := [.inr (.inr (some 70)), .inl (10 : Int32)]) (rest := []) (la := [oR 70, oI (10 : Int32)]) hm33 ⟨⟨_, _, rfl⟩, rfl⟩ rfl rfl rfl rfl hm12 rfl rfl (fun _ => ⟨_, _, rfl, rfl⟩) rfl (Wp.mono h ?_)
      rintro _ m3 ⟨r3, rfl, h⟩
      change Wp _ _ 169 _ [.inl r3] _ _
      refine w_if_ne (q := 172) (X := r3.toInt) hm33 ⟨⟨_, _, rfl⟩, rfl⟩ rfl (fun hc => ?_) (fun hc => ?_)
      · have h := h.1 hc
        exact h
      · have h := h.2 hc
        refine w_aload_n (q := 173) hm33 ⟨⟨_, _, rfl⟩, rfl⟩ rfl ?_
        refine w_bipush (q := 175) hm33 ⟨⟨_, _, rfl⟩, rfl⟩ bipush_15 ?_
        refine w_call (q := 178) (n := 0) (vs := [.inr (.inr (some 70)), .inl (15 : Int32)]) (rest := []) (la := [oR 70, oI (15 : Int32)]) hm33 ⟨⟨_, _, rfl⟩, rfl⟩ rfl rfl rfl rfl hm12 rfl rfl (fun _ => ⟨_, _, rfl, rfl⟩) rfl (Wp.mono h ?_)
        rintro _ m4 ⟨r4, rfl, h⟩
        change Wp _ _ 178 _ [.inl r4] _ _
        refine w_if_eq (q := 181) (X := r4.toInt) hm33 ⟨⟨_, _, rfl⟩, rfl⟩ rfl (fun hc => ?_) (fun hc => ?_)
        · have h := h.1 hc
          refine w_iconst (q := 186) hm33 ⟨⟨_, _, rfl⟩, rfl⟩ iconst_0 ?_
          refine w_istore_n (q := 187) (l' := [oR 70, oI x1, oI (0 : Int32)]) hm33 ⟨⟨_, _, rfl⟩, rfl⟩ rfl rfl rfl ?_
          refine w_iload_n (q := 188) hm33 ⟨⟨_, _, rfl⟩, rfl⟩ rfl ?_
          refine w_if_ne (q := 191) (X := 0) hm33 ⟨⟨_, _, rfl⟩, rfl⟩ (by decide) (fun hc => absurd hc (by decide)) (fun _ => ?_)
          refine w_aload_n (q := 192) hm33 ⟨⟨_, _, rfl⟩, rfl⟩ rfl ?_
          refine w_getf (q := 195) (v := (m4.1 70 12)) hm33 ⟨⟨_, _, rfl⟩, rfl⟩ rfl rfl ?_
          refine w_iload_n (q := 196) hm33 ⟨⟨_, _, rfl⟩, rfl⟩ rfl ?_
          refine w_icmp_le (q := 199) (X := (m4.1 70 12).toInt) (Y := x1.toInt) hm33 ⟨⟨_, _, rfl⟩, rfl⟩ rfl rfl (fun hc => ?_) (fun hc => ?_)
          · have h := h.1 hc
            exact Wp.wk [true, false, false] h
          · have h := h.2 hc
            refine w_aload_n (q := 200) hm33 ⟨⟨_, _, rfl⟩, rfl⟩ rfl ?_
            refine w_iconst (q := 201) hm33 ⟨⟨_, _, rfl⟩, rfl⟩ iconst_1 ?_
            refine w_call (q := 204) (n := 0) (vs := [.inr (.inr (some 70)), .inl (1 : Int32)]) (rest := []) (la := [oR 70, oI (1 : Int32)]) hm33 ⟨⟨_, _, rfl⟩, rfl⟩ rfl rfl rfl rfl hm13 rfl rfl (fun _ => ⟨_, _, rfl, rfl⟩) rfl (Wp.mono h ?_)
            rintro _ m5 ⟨rfl, h⟩
            change Wp _ _ 204 _ [] _ _
            exact Wp.wk [true, false, false] h
        · have h := h.2 hc
          exact h
theorem v_X12_expression_70_181 {d : Nat} {x1 : Int32} {m : dM} {Q : dM → Prop} (h : c_X12_is_70 d (10 : Int32) m (fun r1 m1 => ((r1.toInt ≠ 0 → c_X12_comesOut_70 d (1 : Int32) m1 (fun m2 => ((0 ≤ (m2.1 70 11).toInt ∧ (m2.1 70 11).toInt < 403) ∧ ((0 ≤ (m2.1 70 50).toInt ∧ (m2.1 70 50).toInt < 64) ∧ c_X12_goesOn_70 d (dSet (dSet m2 104 (m2.1 70 50).toNatClampNeg (m2.1 73 (m2.1 70 11).toNatClampNeg)) 70 50 ((m2.1 70 50) + (1 : Int32))) (fun m3 => j_X12_expression_70_12 (d + 1) x1 (1 : Int32) m3 Q))))) ∧ (r1.toInt = 0 → c_X12_is_70 d (15 : Int32) m1 (fun r4 m4 => ((r4.toInt = 0 → c_X12_comesOut_70 d (0 : Int32) m4 (fun m5 => ((0 ≤ (m5.1 70 11).toInt ∧ (m5.1 70 11).toInt < 403) ∧ ((0 ≤ (m5.1 70 50).toInt ∧ (m5.1 70 50).toInt < 64) ∧ c_X12_goesOn_70 d (dSet (dSet m5 104 (m5.1 70 50).toNatClampNeg (m5.1 73 (m5.1 70 11).toNatClampNeg)) 70 50 ((m5.1 70 50) + (1 : Int32))) (fun m6 => j_X12_expression_70_12 (d + 1) x1 (1 : Int32) m6 Q))))) ∧ (r4.toInt ≠ 0 → c_X12_comesOut_70 d (1 : Int32) m4 (fun m7 => ((0 ≤ (m7.1 70 11).toInt ∧ (m7.1 70 11).toInt < 403) ∧ ((0 ≤ (m7.1 70 50).toInt ∧ (m7.1 70 50).toInt < 64) ∧ c_X12_goesOn_70 d (dSet (dSet m7 104 (m7.1 70 50).toNatClampNeg (m7.1 73 (m7.1 70 11).toNatClampNeg)) 70 50 ((m7.1 70 50) + (1 : Int32))) (fun m8 => j_X12_expression_70_12 (d + 1) x1 (1 : Int32) m8 Q))))))))))) : j_X12_expression_70_181 (d + 1) x1 m Q := by
  refine w_iconst (q := 182) hm33 ⟨⟨_, _, rfl⟩, rfl⟩ iconst_1 ?_
  refine w_goto (q := 186) hm33 ⟨_, _, rfl⟩ ?_
  refine w_istore_n (q := 187) (l' := [oR 70, oI x1, oI (1 : Int32)]) hm33 ⟨⟨_, _, rfl⟩, rfl⟩ rfl rfl rfl ?_
  refine w_iload_n (q := 188) hm33 ⟨⟨_, _, rfl⟩, rfl⟩ rfl ?_
  refine w_if_ne (q := 191) (X := 1) hm33 ⟨⟨_, _, rfl⟩, rfl⟩ (by decide) (fun _ => ?_) (fun hc => absurd hc (by decide))
  refine w_aload_n (q := 211) hm33 ⟨⟨_, _, rfl⟩, rfl⟩ rfl ?_
  refine w_aload_n (q := 212) hm33 ⟨⟨_, _, rfl⟩, rfl⟩ rfl ?_
  refine w_bipush (q := 214) hm33 ⟨⟨_, _, rfl⟩, rfl⟩ bipush_10 ?_
  refine w_call (q := 217) (n := 0) (vs := [.inr (.inr (some 70)), .inl (10 : Int32)]) (rest := [.inr (.inr (some 70))]) (la := [oR 70, oI (10 : Int32)]) hm33 ⟨⟨_, _, rfl⟩, rfl⟩ rfl rfl rfl rfl hm12 rfl rfl (fun _ => ⟨_, _, rfl, rfl⟩) rfl (Wp.mono h ?_)
  rintro _ m1 ⟨r1, rfl, h⟩
  change Wp _ _ 217 _ [.inl r1, .inr (.inr (some 70))] _ _
  refine w_if_ne (q := 220) (X := r1.toInt) hm33 ⟨⟨_, _, rfl⟩, rfl⟩ rfl (fun hc => ?_) (fun hc => ?_)
  · have h := h.1 hc
    refine w_iconst (q := 230) hm33 ⟨⟨_, _, rfl⟩, rfl⟩ iconst_1 ?_
    refine w_goto (q := 234) hm33 ⟨_, _, rfl⟩ ?_
    refine w_call (q := 237) (n := 1) (vs := [.inr (.inr (some 70)), .inl (1 : Int32)]) (rest := []) (la := [oR 70, oI (1 : Int32), none]) hm33 ⟨⟨_, _, rfl⟩, rfl⟩ rfl rfl rfl rfl hm32 rfl rfl (fun _ => ⟨_, _, rfl, rfl⟩) rfl (Wp.mono h ?_)
    rintro _ m2 ⟨rfl, h⟩
    change Wp _ _ 237 _ [] _ _
    refine w_aload_n (q := 238) hm33 ⟨⟨_, _, rfl⟩, rfl⟩ rfl ?_
    refine w_getr (q := 241) hm33 ⟨⟨_, _, rfl⟩, rfl⟩ rfl ?_
    refine w_aload_n (q := 242) hm33 ⟨⟨_, _, rfl⟩, rfl⟩ rfl ?_
    refine w_getf (q := 245) (v := (m2.1 70 50)) hm33 ⟨⟨_, _, rfl⟩, rfl⟩ rfl rfl ?_
    refine w_aload_n (q := 246) hm33 ⟨⟨_, _, rfl⟩, rfl⟩ rfl ?_
    refine w_getr (q := 249) hm33 ⟨⟨_, _, rfl⟩, rfl⟩ rfl ?_
    refine w_aload_n (q := 250) hm33 ⟨⟨_, _, rfl⟩, rfl⟩ rfl ?_
    refine w_getf (q := 253) (v := (m2.1 70 11)) hm33 ⟨⟨_, _, rfl⟩, rfl⟩ rfl rfl ?_
    obtain ⟨hi, h⟩ := h
    refine w_iald (q := 254) (v := (m2.1 73 (m2.1 70 11).toNatClampNeg)) hm33 ⟨⟨_, _, rfl⟩, rfl⟩ rfl hi rfl rfl ?_
    obtain ⟨hi, h⟩ := h
    refine w_iast (q := 255) hm33 ⟨⟨_, _, rfl⟩, rfl⟩ rfl hi rfl rfl ?_
    refine w_aload_n (q := 256) hm33 ⟨⟨_, _, rfl⟩, rfl⟩ rfl ?_
    refine w_dup (q := 257) hm33 ⟨⟨_, _, rfl⟩, rfl⟩ rfl ?_
    refine w_getf (q := 260) (v := (m2.1 70 50)) hm33 ⟨⟨_, _, rfl⟩, rfl⟩ rfl rfl ?_
    refine w_iconst (q := 261) hm33 ⟨⟨_, _, rfl⟩, rfl⟩ iconst_1 ?_
    refine w_iadd (q := 262) hm33 ⟨⟨_, _, rfl⟩, rfl⟩ ?_
    refine w_putf (q := 265) hm33 ⟨⟨_, _, rfl⟩, rfl⟩ rfl rfl rfl ?_
    refine w_aload_n (q := 266) hm33 ⟨⟨_, _, rfl⟩, rfl⟩ rfl ?_
    refine w_call (q := 269) (n := 0) (vs := [.inr (.inr (some 70))]) (rest := []) (la := [oR 70]) hm33 ⟨⟨_, _, rfl⟩, rfl⟩ rfl rfl rfl rfl hm15 rfl rfl (fun _ => ⟨_, _, rfl, rfl⟩) rfl (Wp.mono h ?_)
    rintro _ m3 ⟨rfl, h⟩
    change Wp _ _ 269 _ [] _ _
    refine w_goto (q := 12) hm33 ⟨_, _, rfl⟩ ?_
    exact h
  · have h := h.2 hc
    refine w_aload_n (q := 221) hm33 ⟨⟨_, _, rfl⟩, rfl⟩ rfl ?_
    refine w_bipush (q := 223) hm33 ⟨⟨_, _, rfl⟩, rfl⟩ bipush_15 ?_
    refine w_call (q := 226) (n := 0) (vs := [.inr (.inr (some 70)), .inl (15 : Int32)]) (rest := [.inr (.inr (some 70))]) (la := [oR 70, oI (15 : Int32)]) hm33 ⟨⟨_, _, rfl⟩, rfl⟩ rfl rfl rfl rfl hm12 rfl rfl (fun _ => ⟨_, _, rfl, rfl⟩) rfl (Wp.mono h ?_)
    rintro _ m4 ⟨r4, rfl, h⟩
    change Wp _ _ 226 _ [.inl r4, .inr (.inr (some 70))] _ _
    refine w_if_eq (q := 229) (X := r4.toInt) hm33 ⟨⟨_, _, rfl⟩, rfl⟩ rfl (fun hc => ?_) (fun hc => ?_)
    · have h := h.1 hc
      refine w_iconst (q := 234) hm33 ⟨⟨_, _, rfl⟩, rfl⟩ iconst_0 ?_
      refine w_call (q := 237) (n := 1) (vs := [.inr (.inr (some 70)), .inl (0 : Int32)]) (rest := []) (la := [oR 70, oI (0 : Int32), none]) hm33 ⟨⟨_, _, rfl⟩, rfl⟩ rfl rfl rfl rfl hm32 rfl rfl (fun _ => ⟨_, _, rfl, rfl⟩) rfl (Wp.mono h ?_)
      rintro _ m5 ⟨rfl, h⟩
      change Wp _ _ 237 _ [] _ _
      refine w_aload_n (q := 238) hm33 ⟨⟨_, _, rfl⟩, rfl⟩ rfl ?_
      refine w_getr (q := 241) hm33 ⟨⟨_, _, rfl⟩, rfl⟩ rfl ?_
      refine w_aload_n (q := 242) hm33 ⟨⟨_, _, rfl⟩, rfl⟩ rfl ?_
      refine w_getf (q := 245) (v := (m5.1 70 50)) hm33 ⟨⟨_, _, rfl⟩, rfl⟩ rfl rfl ?_
      refine w_aload_n (q := 246) hm33 ⟨⟨_, _, rfl⟩, rfl⟩ rfl ?_
      refine w_getr (q := 249) hm33 ⟨⟨_, _, rfl⟩, rfl⟩ rfl ?_
      refine w_aload_n (q := 250) hm33 ⟨⟨_, _, rfl⟩, rfl⟩ rfl ?_
      refine w_getf (q := 253) (v := (m5.1 70 11)) hm33 ⟨⟨_, _, rfl⟩, rfl⟩ rfl rfl ?_
      obtain ⟨hi, h⟩ := h
      refine w_iald (q := 254) (v := (m5.1 73 (m5.1 70 11).toNatClampNeg)) hm33 ⟨⟨_, _, rfl⟩, rfl⟩ rfl hi rfl rfl ?_
      obtain ⟨hi, h⟩ := h
      refine w_iast (q := 255) hm33 ⟨⟨_, _, rfl⟩, rfl⟩ rfl hi rfl rfl ?_
      refine w_aload_n (q := 256) hm33 ⟨⟨_, _, rfl⟩, rfl⟩ rfl ?_
      refine w_dup (q := 257) hm33 ⟨⟨_, _, rfl⟩, rfl⟩ rfl ?_
      refine w_getf (q := 260) (v := (m5.1 70 50)) hm33 ⟨⟨_, _, rfl⟩, rfl⟩ rfl rfl ?_
      refine w_iconst (q := 261) hm33 ⟨⟨_, _, rfl⟩, rfl⟩ iconst_1 ?_
      refine w_iadd (q := 262) hm33 ⟨⟨_, _, rfl⟩, rfl⟩ ?_
      refine w_putf (q := 265) hm33 ⟨⟨_, _, rfl⟩, rfl⟩ rfl rfl rfl ?_
      refine w_aload_n (q := 266) hm33 ⟨⟨_, _, rfl⟩, rfl⟩ rfl ?_
      refine w_call (q := 269) (n := 0) (vs := [.inr (.inr (some 70))]) (rest := []) (la := [oR 70]) hm33 ⟨⟨_, _, rfl⟩, rfl⟩ rfl rfl rfl rfl hm15 rfl rfl (fun _ => ⟨_, _, rfl, rfl⟩) rfl (Wp.mono h ?_)
      rintro _ m6 ⟨rfl, h⟩
      change Wp _ _ 269 _ [] _ _
      refine w_goto (q := 12) hm33 ⟨_, _, rfl⟩ ?_
      exact h
    · have h := h.2 hc
      refine w_iconst (q := 230) hm33 ⟨⟨_, _, rfl⟩, rfl⟩ iconst_1 ?_
      refine w_goto (q := 234) hm33 ⟨_, _, rfl⟩ ?_
      refine w_call (q := 237) (n := 1) (vs := [.inr (.inr (some 70)), .inl (1 : Int32)]) (rest := []) (la := [oR 70, oI (1 : Int32), none]) hm33 ⟨⟨_, _, rfl⟩, rfl⟩ rfl rfl rfl rfl hm32 rfl rfl (fun _ => ⟨_, _, rfl, rfl⟩) rfl (Wp.mono h ?_)
      rintro _ m7 ⟨rfl, h⟩
      change Wp _ _ 237 _ [] _ _
      refine w_aload_n (q := 238) hm33 ⟨⟨_, _, rfl⟩, rfl⟩ rfl ?_
      refine w_getr (q := 241) hm33 ⟨⟨_, _, rfl⟩, rfl⟩ rfl ?_
      refine w_aload_n (q := 242) hm33 ⟨⟨_, _, rfl⟩, rfl⟩ rfl ?_
      refine w_getf (q := 245) (v := (m7.1 70 50)) hm33 ⟨⟨_, _, rfl⟩, rfl⟩ rfl rfl ?_
      refine w_aload_n (q := 246) hm33 ⟨⟨_, _, rfl⟩, rfl⟩ rfl ?_
      refine w_getr (q := 249) hm33 ⟨⟨_, _, rfl⟩, rfl⟩ rfl ?_
      refine w_aload_n (q := 250) hm33 ⟨⟨_, _, rfl⟩, rfl⟩ rfl ?_
      refine w_getf (q := 253) (v := (m7.1 70 11)) hm33 ⟨⟨_, _, rfl⟩, rfl⟩ rfl rfl ?_
      obtain ⟨hi, h⟩ := h
      refine w_iald (q := 254) (v := (m7.1 73 (m7.1 70 11).toNatClampNeg)) hm33 ⟨⟨_, _, rfl⟩, rfl⟩ rfl hi rfl rfl ?_
      obtain ⟨hi, h⟩ := h
      refine w_iast (q := 255) hm33 ⟨⟨_, _, rfl⟩, rfl⟩ rfl hi rfl rfl ?_
      refine w_aload_n (q := 256) hm33 ⟨⟨_, _, rfl⟩, rfl⟩ rfl ?_
      refine w_dup (q := 257) hm33 ⟨⟨_, _, rfl⟩, rfl⟩ rfl ?_
      refine w_getf (q := 260) (v := (m7.1 70 50)) hm33 ⟨⟨_, _, rfl⟩, rfl⟩ rfl rfl ?_
      refine w_iconst (q := 261) hm33 ⟨⟨_, _, rfl⟩, rfl⟩ iconst_1 ?_
      refine w_iadd (q := 262) hm33 ⟨⟨_, _, rfl⟩, rfl⟩ ?_
      refine w_putf (q := 265) hm33 ⟨⟨_, _, rfl⟩, rfl⟩ rfl rfl rfl ?_
      refine w_aload_n (q := 266) hm33 ⟨⟨_, _, rfl⟩, rfl⟩ rfl ?_
      refine w_call (q := 269) (n := 0) (vs := [.inr (.inr (some 70))]) (rest := []) (la := [oR 70]) hm33 ⟨⟨_, _, rfl⟩, rfl⟩ rfl rfl rfl rfl hm15 rfl rfl (fun _ => ⟨_, _, rfl, rfl⟩) rfl (Wp.mono h ?_)
      rintro _ m8 ⟨rfl, h⟩
      change Wp _ _ 269 _ [] _ _
      refine w_goto (q := 12) hm33 ⟨_, _, rfl⟩ ?_
      exact h
theorem v_X12_expression_70_204 {d : Nat} {m : dM} {Q : dM → Prop} (h : c_X12_comesOut_70 d (0 : Int32) m (fun m1 => Q m1)) : j_X12_expression_70_204 (d + 1) m Q := by
  refine w_aload_n (q := 205) hm33 ⟨⟨_, _, rfl⟩, rfl⟩ rfl ?_
  refine w_iconst (q := 206) hm33 ⟨⟨_, _, rfl⟩, rfl⟩ iconst_0 ?_
  refine w_call (q := 209) (n := 1) (vs := [.inr (.inr (some 70)), .inl (0 : Int32)]) (rest := []) (la := [oR 70, oI (0 : Int32), none]) hm33 ⟨⟨_, _, rfl⟩, rfl⟩ rfl rfl rfl rfl hm32 rfl rfl (fun _ => ⟨_, _, rfl, rfl⟩) rfl (Wp.mono h ?_)
  rintro _ m1 ⟨rfl, h⟩
  change Wp _ _ 209 _ [] _ _
  exact w_retv hm33 ⟨⟨_, _, rfl⟩, rfl⟩ rfl h
theorem v_X12_expression_70_272 {d : Nat} {m : dM} {Q : dM → Prop} (h : Q m) : j_X12_expression_70_272 (d + 1) m Q := by
  exact w_retv hm33 ⟨⟨_, _, rfl⟩, rfl⟩ rfl h
theorem v_X12_term_70 {d : Nat} {m : dM} {Q : dM → Prop} (h : ((0 ≤ (m.1 70 40).toInt ∧ (m.1 70 40).toInt < 260) ∧ (((m.1 70 13).toInt ≠ 0 → j_X12_term_70_24 (d + 1) (dSet m 100 (m.1 70 40).toNatClampNeg (m.1 70 46)) Q) ∧ ((m.1 70 13).toInt = 0 → c_X12_expression_70 d (dSet m 100 (m.1 70 40).toNatClampNeg (m.1 70 46)) (fun m1 => j_X12_term_70_24 (d + 1) m1 Q))))) : c_X12_term_70 (d + 1) m Q := by
  refine w_aload_n (q := 1) hm30 ⟨⟨_, _, rfl⟩, rfl⟩ rfl ?_
  refine w_getr (q := 4) hm30 ⟨⟨_, _, rfl⟩, rfl⟩ rfl ?_
  refine w_aload_n (q := 5) hm30 ⟨⟨_, _, rfl⟩, rfl⟩ rfl ?_
  refine w_getf (q := 8) (v := (m.1 70 40)) hm30 ⟨⟨_, _, rfl⟩, rfl⟩ rfl rfl ?_
  refine w_aload_n (q := 9) hm30 ⟨⟨_, _, rfl⟩, rfl⟩ rfl ?_
  refine w_getf (q := 12) (v := (m.1 70 46)) hm30 ⟨⟨_, _, rfl⟩, rfl⟩ rfl rfl ?_
  obtain ⟨hi, h⟩ := h
  refine w_iast (q := 13) hm30 ⟨⟨_, _, rfl⟩, rfl⟩ rfl hi rfl rfl ?_
  refine w_aload_n (q := 14) hm30 ⟨⟨_, _, rfl⟩, rfl⟩ rfl ?_
  refine w_getf (q := 17) (v := (m.1 70 13)) hm30 ⟨⟨_, _, rfl⟩, rfl⟩ rfl rfl ?_
  refine w_if_ne (q := 20) (X := (m.1 70 13).toInt) hm30 ⟨⟨_, _, rfl⟩, rfl⟩ rfl (fun hc => ?_) (fun hc => ?_)
  · have h := h.1 hc
    exact h
  · have h := h.2 hc
    refine w_aload_n (q := 21) hm30 ⟨⟨_, _, rfl⟩, rfl⟩ rfl ?_
    refine w_call (q := 24) (n := 2) (vs := [.inr (.inr (some 70))]) (rest := []) (la := [oR 70, none, none]) hm30 ⟨⟨_, _, rfl⟩, rfl⟩ rfl rfl rfl rfl hm33 rfl rfl (fun _ => ⟨_, _, rfl, rfl⟩) rfl (Wp.mono h ?_)
    rintro _ m1 ⟨rfl, h⟩
    change Wp _ _ 24 _ [] _ _
    exact h
theorem v_X12_term_70_24 {d : Nat} {m : dM} {Q : dM → Prop} (h : ((0 ≤ (m.1 70 40).toInt ∧ (m.1 70 40).toInt < 260) ∧ Q (dSet (dSet m 101 (m.1 70 40).toNatClampNeg (m.1 70 46)) 70 40 ((m.1 70 40) + (1 : Int32))))) : j_X12_term_70_24 (d + 1) m Q := by
  refine w_aload_n (q := 25) hm30 ⟨⟨_, _, rfl⟩, rfl⟩ rfl ?_
  refine w_getr (q := 28) hm30 ⟨⟨_, _, rfl⟩, rfl⟩ rfl ?_
  refine w_aload_n (q := 29) hm30 ⟨⟨_, _, rfl⟩, rfl⟩ rfl ?_
  refine w_getf (q := 32) (v := (m.1 70 40)) hm30 ⟨⟨_, _, rfl⟩, rfl⟩ rfl rfl ?_
  refine w_aload_n (q := 33) hm30 ⟨⟨_, _, rfl⟩, rfl⟩ rfl ?_
  refine w_getf (q := 36) (v := (m.1 70 46)) hm30 ⟨⟨_, _, rfl⟩, rfl⟩ rfl rfl ?_
  obtain ⟨hi, h⟩ := h
  refine w_iast (q := 37) hm30 ⟨⟨_, _, rfl⟩, rfl⟩ rfl hi rfl rfl ?_
  refine w_aload_n (q := 38) hm30 ⟨⟨_, _, rfl⟩, rfl⟩ rfl ?_
  refine w_dup (q := 39) hm30 ⟨⟨_, _, rfl⟩, rfl⟩ rfl ?_
  refine w_getf (q := 42) (v := (m.1 70 40)) hm30 ⟨⟨_, _, rfl⟩, rfl⟩ rfl rfl ?_
  refine w_iconst (q := 43) hm30 ⟨⟨_, _, rfl⟩, rfl⟩ iconst_1 ?_
  refine w_iadd (q := 44) hm30 ⟨⟨_, _, rfl⟩, rfl⟩ ?_
  refine w_putf (q := 47) hm30 ⟨⟨_, _, rfl⟩, rfl⟩ rfl rfl rfl ?_
  exact w_retv hm30 ⟨⟨_, _, rfl⟩, rfl⟩ rfl h
theorem v_X12_tellLaw_70 {d : Nat} {x1 : Int32} {m : dM} {Q : dM → Prop} (h : c_X12_must_70 d (5 : Int32) m (fun m1 => j_X12_tellLaw_70_12 (d + 1) x1 (m1.1 70 40) (0 : Int32) m1 Q)) : c_X12_tellLaw_70 (d + 1) x1 m Q := by
  refine w_aload_n (q := 1) hm29 ⟨⟨_, _, rfl⟩, rfl⟩ rfl ?_
  refine w_iconst (q := 2) hm29 ⟨⟨_, _, rfl⟩, rfl⟩ iconst_5 ?_
  refine w_call (q := 5) (n := 0) (vs := [.inr (.inr (some 70)), .inl (5 : Int32)]) (rest := []) (la := [oR 70, oI (5 : Int32)]) hm29 ⟨⟨_, _, rfl⟩, rfl⟩ rfl rfl rfl rfl hm16 rfl rfl (fun _ => ⟨_, _, rfl, rfl⟩) rfl (Wp.mono h ?_)
  rintro _ m1 ⟨rfl, h⟩
  change Wp _ _ 5 _ [] _ _
  refine w_aload_n (q := 6) hm29 ⟨⟨_, _, rfl⟩, rfl⟩ rfl ?_
  refine w_getf (q := 9) (v := (m1.1 70 40)) hm29 ⟨⟨_, _, rfl⟩, rfl⟩ rfl rfl ?_
  refine w_istore_n (q := 10) (l' := [oR 70, oI x1, oI (m1.1 70 40), none]) hm29 ⟨⟨_, _, rfl⟩, rfl⟩ rfl rfl rfl ?_
  refine w_iconst (q := 11) hm29 ⟨⟨_, _, rfl⟩, rfl⟩ iconst_0 ?_
  refine w_istore_n (q := 12) (l' := [oR 70, oI x1, oI (m1.1 70 40), oI (0 : Int32)]) hm29 ⟨⟨_, _, rfl⟩, rfl⟩ rfl rfl rfl ?_
  exact h
theorem v_X12_tellLaw_70_12 {d : Nat} {x1 : Int32} {x2 : Int32} {x3 : Int32} {m : dM} {Q : dM → Prop} (h : (((m.1 70 13).toInt ≠ 0 → j_X12_tellLaw_70_129 (d + 1) x1 x2 m Q) ∧ ((m.1 70 13).toInt = 0 → c_X12_is_70 d (30 : Int32) m (fun r1 m1 => ((r1.toInt = 0 → j_X12_tellLaw_70_129 (d + 1) x1 x2 m1 Q) ∧ (r1.toInt ≠ 0 → ((x3.toInt ≠ 4 → j_X12_tellLaw_70_38 (d + 1) x1 x2 x3 m1 Q) ∧ (x3.toInt = 4 → c_X12_fail_70 d (2 : Int32) m1 (fun m2 => j_X12_tellLaw_70_38 (d + 1) x1 x2 x3 m2 Q))))))))) : j_X12_tellLaw_70_12 (d + 1) x1 x2 x3 m Q := by
  refine w_aload_n (q := 13) hm29 ⟨⟨_, _, rfl⟩, rfl⟩ rfl ?_
  refine w_getf (q := 16) (v := (m.1 70 13)) hm29 ⟨⟨_, _, rfl⟩, rfl⟩ rfl rfl ?_
  refine w_if_ne (q := 19) (X := (m.1 70 13).toInt) hm29 ⟨⟨_, _, rfl⟩, rfl⟩ rfl (fun hc => ?_) (fun hc => ?_)
  · have h := h.1 hc
    exact Wp.wk [true, true, true, false] h
  · have h := h.2 hc
    refine w_aload_n (q := 20) hm29 ⟨⟨_, _, rfl⟩, rfl⟩ rfl ?_
    refine w_bipush (q := 22) hm29 ⟨⟨_, _, rfl⟩, rfl⟩ bipush_30 ?_
    refine w_call (q := 25) (n := 0) (vs := [.inr (.inr (some 70)), .inl (30 : Int32)]) (rest := []) (la := [oR 70, oI (30 : Int32)]) hm29 ⟨⟨_, _, rfl⟩, rfl⟩ rfl rfl rfl rfl hm12 rfl rfl (fun _ => ⟨_, _, rfl, rfl⟩) rfl (Wp.mono h ?_)
    rintro _ m1 ⟨r1, rfl, h⟩
    change Wp _ _ 25 _ [.inl r1] _ _
    refine w_if_eq (q := 28) (X := r1.toInt) hm29 ⟨⟨_, _, rfl⟩, rfl⟩ rfl (fun hc => ?_) (fun hc => ?_)
    · have h := h.1 hc
      exact Wp.wk [true, true, true, false] h
    · have h := h.2 hc
      refine w_iload_n (q := 29) hm29 ⟨⟨_, _, rfl⟩, rfl⟩ rfl ?_
      refine w_iconst (q := 30) hm29 ⟨⟨_, _, rfl⟩, rfl⟩ iconst_4 ?_
      refine w_icmp_ne (q := 33) (X := x3.toInt) (Y := 4) hm29 ⟨⟨_, _, rfl⟩, rfl⟩ rfl (by decide) (fun hc => ?_) (fun hc => ?_)
      · have h := h.1 hc
        exact h
      · have h := h.2 hc
        refine w_aload_n (q := 34) hm29 ⟨⟨_, _, rfl⟩, rfl⟩ rfl ?_
        refine w_iconst (q := 35) hm29 ⟨⟨_, _, rfl⟩, rfl⟩ iconst_2 ?_
        refine w_call (q := 38) (n := 0) (vs := [.inr (.inr (some 70)), .inl (2 : Int32)]) (rest := []) (la := [oR 70, oI (2 : Int32)]) hm29 ⟨⟨_, _, rfl⟩, rfl⟩ rfl rfl rfl rfl hm13 rfl rfl (fun _ => ⟨_, _, rfl, rfl⟩) rfl (Wp.mono h ?_)
        rintro _ m2 ⟨rfl, h⟩
        change Wp _ _ 38 _ [] _ _
        exact h
theorem v_X12_tellLaw_70_38 {d : Nat} {x1 : Int32} {x2 : Int32} {x3 : Int32} {m : dM} {Q : dM → Prop} (h : (((m.1 70 13).toInt ≤ 0 → c_X12_goesOn_70 d m (fun m1 => ((0 ≤ (m1.1 70 40).toInt ∧ (m1.1 70 40).toInt < 260) ∧ ((0 ≤ (m1.1 70 40).toInt ∧ (m1.1 70 40).toInt < 260) ∧ c_X12_expression_70 d (dSet (dSet m1 97 (m1.1 70 40).toNatClampNeg (1 : Int32)) 98 (m1.1 70 40).toNatClampNeg (m1.1 70 46)) (fun m2 => c_X12_must_70 d (13 : Int32) m2 (fun m3 => ((0 ≤ (m3.1 70 40).toInt ∧ (m3.1 70 40).toInt < 260) ∧ (((m3.1 70 13).toInt ≠ 0 → j_X12_tellLaw_70_110 (d + 1) x1 x2 (x3 + (1 : Int32)) (dSet m3 99 (m3.1 70 40).toNatClampNeg (m3.1 70 46)) Q) ∧ ((m3.1 70 13).toInt = 0 → c_X12_expression_70 d (dSet m3 99 (m3.1 70 40).toNatClampNeg (m3.1 70 46)) (fun m4 => j_X12_tellLaw_70_110 (d + 1) x1 x2 (x3 + (1 : Int32)) m4 Q)))))))))) ∧ (0 < (m.1 70 13).toInt → Q m))) : j_X12_tellLaw_70_38 (d + 1) x1 x2 x3 m Q := by
  refine w_aload_n (q := 39) hm29 ⟨⟨_, _, rfl⟩, rfl⟩ rfl ?_
  refine w_getf (q := 42) (v := (m.1 70 13)) hm29 ⟨⟨_, _, rfl⟩, rfl⟩ rfl rfl ?_
  refine w_if_le (q := 45) (X := (m.1 70 13).toInt) hm29 ⟨⟨_, _, rfl⟩, rfl⟩ rfl (fun hc => ?_) (fun hc => ?_)
  · have h := h.1 hc
    refine w_iinc (q := 49) (l' := [oR 70, oI x1, oI x2, oI (x3 + (1 : Int32))]) hm29 ⟨⟨_, _, rfl⟩, rfl⟩ rfl rfl rfl iconst_1 rfl ?_
    refine w_aload_n (q := 50) hm29 ⟨⟨_, _, rfl⟩, rfl⟩ rfl ?_
    refine w_call (q := 53) (n := 0) (vs := [.inr (.inr (some 70))]) (rest := []) (la := [oR 70]) hm29 ⟨⟨_, _, rfl⟩, rfl⟩ rfl rfl rfl rfl hm15 rfl rfl (fun _ => ⟨_, _, rfl, rfl⟩) rfl (Wp.mono h ?_)
    rintro _ m1 ⟨rfl, h⟩
    change Wp _ _ 53 _ [] _ _
    refine w_aload_n (q := 54) hm29 ⟨⟨_, _, rfl⟩, rfl⟩ rfl ?_
    refine w_getr (q := 57) hm29 ⟨⟨_, _, rfl⟩, rfl⟩ rfl ?_
    refine w_aload_n (q := 58) hm29 ⟨⟨_, _, rfl⟩, rfl⟩ rfl ?_
    refine w_getf (q := 61) (v := (m1.1 70 40)) hm29 ⟨⟨_, _, rfl⟩, rfl⟩ rfl rfl ?_
    refine w_iconst (q := 62) hm29 ⟨⟨_, _, rfl⟩, rfl⟩ iconst_1 ?_
    obtain ⟨hi, h⟩ := h
    refine w_zast (q := 63) hm29 ⟨⟨_, _, rfl⟩, rfl⟩ rfl (by decide) hi rfl rfl ?_
    refine w_aload_n (q := 64) hm29 ⟨⟨_, _, rfl⟩, rfl⟩ rfl ?_
    refine w_getr (q := 67) hm29 ⟨⟨_, _, rfl⟩, rfl⟩ rfl ?_
    refine w_aload_n (q := 68) hm29 ⟨⟨_, _, rfl⟩, rfl⟩ rfl ?_
    refine w_getf (q := 71) (v := (m1.1 70 40)) hm29 ⟨⟨_, _, rfl⟩, rfl⟩ rfl rfl ?_
    refine w_aload_n (q := 72) hm29 ⟨⟨_, _, rfl⟩, rfl⟩ rfl ?_
    refine w_getf (q := 75) (v := (m1.1 70 46)) hm29 ⟨⟨_, _, rfl⟩, rfl⟩ rfl rfl ?_
    obtain ⟨hi, h⟩ := h
    refine w_iast (q := 76) hm29 ⟨⟨_, _, rfl⟩, rfl⟩ rfl hi rfl rfl ?_
    refine w_aload_n (q := 77) hm29 ⟨⟨_, _, rfl⟩, rfl⟩ rfl ?_
    refine w_call (q := 80) (n := 2) (vs := [.inr (.inr (some 70))]) (rest := []) (la := [oR 70, none, none]) hm29 ⟨⟨_, _, rfl⟩, rfl⟩ rfl rfl rfl rfl hm33 rfl rfl (fun _ => ⟨_, _, rfl, rfl⟩) rfl (Wp.mono h ?_)
    rintro _ m2 ⟨rfl, h⟩
    change Wp _ _ 80 _ [] _ _
    refine w_aload_n (q := 81) hm29 ⟨⟨_, _, rfl⟩, rfl⟩ rfl ?_
    refine w_bipush (q := 83) hm29 ⟨⟨_, _, rfl⟩, rfl⟩ bipush_13 ?_
    refine w_call (q := 86) (n := 0) (vs := [.inr (.inr (some 70)), .inl (13 : Int32)]) (rest := []) (la := [oR 70, oI (13 : Int32)]) hm29 ⟨⟨_, _, rfl⟩, rfl⟩ rfl rfl rfl rfl hm16 rfl rfl (fun _ => ⟨_, _, rfl, rfl⟩) rfl (Wp.mono h ?_)
    rintro _ m3 ⟨rfl, h⟩
    change Wp _ _ 86 _ [] _ _
    refine w_aload_n (q := 87) hm29 ⟨⟨_, _, rfl⟩, rfl⟩ rfl ?_
    refine w_getr (q := 90) hm29 ⟨⟨_, _, rfl⟩, rfl⟩ rfl ?_
    refine w_aload_n (q := 91) hm29 ⟨⟨_, _, rfl⟩, rfl⟩ rfl ?_
    refine w_getf (q := 94) (v := (m3.1 70 40)) hm29 ⟨⟨_, _, rfl⟩, rfl⟩ rfl rfl ?_
    refine w_aload_n (q := 95) hm29 ⟨⟨_, _, rfl⟩, rfl⟩ rfl ?_
    refine w_getf (q := 98) (v := (m3.1 70 46)) hm29 ⟨⟨_, _, rfl⟩, rfl⟩ rfl rfl ?_
    obtain ⟨hi, h⟩ := h
    refine w_iast (q := 99) hm29 ⟨⟨_, _, rfl⟩, rfl⟩ rfl hi rfl rfl ?_
    refine w_aload_n (q := 100) hm29 ⟨⟨_, _, rfl⟩, rfl⟩ rfl ?_
    refine w_getf (q := 103) (v := (m3.1 70 13)) hm29 ⟨⟨_, _, rfl⟩, rfl⟩ rfl rfl ?_
    refine w_if_ne (q := 106) (X := (m3.1 70 13).toInt) hm29 ⟨⟨_, _, rfl⟩, rfl⟩ rfl (fun hc => ?_) (fun hc => ?_)
    · have h := h.1 hc
      exact h
    · have h := h.2 hc
      refine w_aload_n (q := 107) hm29 ⟨⟨_, _, rfl⟩, rfl⟩ rfl ?_
      refine w_call (q := 110) (n := 2) (vs := [.inr (.inr (some 70))]) (rest := []) (la := [oR 70, none, none]) hm29 ⟨⟨_, _, rfl⟩, rfl⟩ rfl rfl rfl rfl hm33 rfl rfl (fun _ => ⟨_, _, rfl, rfl⟩) rfl (Wp.mono h ?_)
      rintro _ m4 ⟨rfl, h⟩
      change Wp _ _ 110 _ [] _ _
      exact h
  · have h := h.2 hc
    exact w_retv hm29 ⟨⟨_, _, rfl⟩, rfl⟩ rfl h
theorem v_X12_tellLaw_70_110 {d : Nat} {x1 : Int32} {x2 : Int32} {x3 : Int32} {m : dM} {Q : dM → Prop} (h : c_X12_must_70 d (31 : Int32) m (fun m1 => c_X12_term_70 d m1 (fun m2 => c_X12_must_70 d (32 : Int32) m2 (fun m3 => j_X12_tellLaw_70_12 (d + 1) x1 x2 x3 m3 Q)))) : j_X12_tellLaw_70_110 (d + 1) x1 x2 x3 m Q := by
  refine w_aload_n (q := 111) hm29 ⟨⟨_, _, rfl⟩, rfl⟩ rfl ?_
  refine w_bipush (q := 113) hm29 ⟨⟨_, _, rfl⟩, rfl⟩ bipush_31 ?_
  refine w_call (q := 116) (n := 0) (vs := [.inr (.inr (some 70)), .inl (31 : Int32)]) (rest := []) (la := [oR 70, oI (31 : Int32)]) hm29 ⟨⟨_, _, rfl⟩, rfl⟩ rfl rfl rfl rfl hm16 rfl rfl (fun _ => ⟨_, _, rfl, rfl⟩) rfl (Wp.mono h ?_)
  rintro _ m1 ⟨rfl, h⟩
  change Wp _ _ 116 _ [] _ _
  refine w_aload_n (q := 117) hm29 ⟨⟨_, _, rfl⟩, rfl⟩ rfl ?_
  refine w_call (q := 120) (n := 0) (vs := [.inr (.inr (some 70))]) (rest := []) (la := [oR 70]) hm29 ⟨⟨_, _, rfl⟩, rfl⟩ rfl rfl rfl rfl hm30 rfl rfl (fun _ => ⟨_, _, rfl, rfl⟩) rfl (Wp.mono h ?_)
  rintro _ m2 ⟨rfl, h⟩
  change Wp _ _ 120 _ [] _ _
  refine w_aload_n (q := 121) hm29 ⟨⟨_, _, rfl⟩, rfl⟩ rfl ?_
  refine w_bipush (q := 123) hm29 ⟨⟨_, _, rfl⟩, rfl⟩ bipush_32 ?_
  refine w_call (q := 126) (n := 0) (vs := [.inr (.inr (some 70)), .inl (32 : Int32)]) (rest := []) (la := [oR 70, oI (32 : Int32)]) hm29 ⟨⟨_, _, rfl⟩, rfl⟩ rfl rfl rfl rfl hm16 rfl rfl (fun _ => ⟨_, _, rfl, rfl⟩) rfl (Wp.mono h ?_)
  rintro _ m3 ⟨rfl, h⟩
  change Wp _ _ 126 _ [] _ _
  refine w_goto (q := 12) hm29 ⟨_, _, rfl⟩ ?_
  exact h
theorem v_X12_tellLaw_70_129 {d : Nat} {x1 : Int32} {x2 : Int32} {m : dM} {Q : dM → Prop} (h : ((0 ≤ (m.1 70 40).toInt ∧ (m.1 70 40).toInt < 260) ∧ c_X12_term_70 d (dSet m 97 (m.1 70 40).toNatClampNeg (0 : Int32)) (fun m1 => c_X12_must_70 d (4 : Int32) m1 (fun m2 => (((m2.1 70 13).toInt ≤ 0 → ((0 ≤ (((4 : Int32) * (m2.1 70 19)) + x1).toInt ∧ (((4 : Int32) * (m2.1 70 19)) + x1).toInt < 8) ∧ ((0 ≤ (((4 : Int32) * (m2.1 70 19)) + x1).toInt ∧ (((4 : Int32) * (m2.1 70 19)) + x1).toInt < 8) ∧ Q (dSet (dSet m2 95 (((4 : Int32) * (m2.1 70 19)) + x1).toNatClampNeg x2) 96 (((4 : Int32) * (m2.1 70 19)) + x1).toNatClampNeg (m2.1 70 40))))) ∧ (0 < (m2.1 70 13).toInt → Q m2)))))) : j_X12_tellLaw_70_129 (d + 1) x1 x2 m Q := by
  refine w_aload_n (q := 130) hm29 ⟨⟨_, _, rfl⟩, rfl⟩ rfl ?_
  refine w_getr (q := 133) hm29 ⟨⟨_, _, rfl⟩, rfl⟩ rfl ?_
  refine w_aload_n (q := 134) hm29 ⟨⟨_, _, rfl⟩, rfl⟩ rfl ?_
  refine w_getf (q := 137) (v := (m.1 70 40)) hm29 ⟨⟨_, _, rfl⟩, rfl⟩ rfl rfl ?_
  refine w_iconst (q := 138) hm29 ⟨⟨_, _, rfl⟩, rfl⟩ iconst_0 ?_
  obtain ⟨hi, h⟩ := h
  refine w_zast (q := 139) hm29 ⟨⟨_, _, rfl⟩, rfl⟩ rfl (by decide) hi rfl rfl ?_
  refine w_aload_n (q := 140) hm29 ⟨⟨_, _, rfl⟩, rfl⟩ rfl ?_
  refine w_call (q := 143) (n := 0) (vs := [.inr (.inr (some 70))]) (rest := []) (la := [oR 70]) hm29 ⟨⟨_, _, rfl⟩, rfl⟩ rfl rfl rfl rfl hm30 rfl rfl (fun _ => ⟨_, _, rfl, rfl⟩) rfl (Wp.mono h ?_)
  rintro _ m1 ⟨rfl, h⟩
  change Wp _ _ 143 _ [] _ _
  refine w_aload_n (q := 144) hm29 ⟨⟨_, _, rfl⟩, rfl⟩ rfl ?_
  refine w_iconst (q := 145) hm29 ⟨⟨_, _, rfl⟩, rfl⟩ iconst_4 ?_
  refine w_call (q := 148) (n := 0) (vs := [.inr (.inr (some 70)), .inl (4 : Int32)]) (rest := []) (la := [oR 70, oI (4 : Int32)]) hm29 ⟨⟨_, _, rfl⟩, rfl⟩ rfl rfl rfl rfl hm16 rfl rfl (fun _ => ⟨_, _, rfl, rfl⟩) rfl (Wp.mono h ?_)
  rintro _ m2 ⟨rfl, h⟩
  change Wp _ _ 148 _ [] _ _
  refine w_aload_n (q := 149) hm29 ⟨⟨_, _, rfl⟩, rfl⟩ rfl ?_
  refine w_getf (q := 152) (v := (m2.1 70 13)) hm29 ⟨⟨_, _, rfl⟩, rfl⟩ rfl rfl ?_
  refine w_if_le (q := 155) (X := (m2.1 70 13).toInt) hm29 ⟨⟨_, _, rfl⟩, rfl⟩ rfl (fun hc => ?_) (fun hc => ?_)
  · have h := h.1 hc
    refine w_aload_n (q := 157) hm29 ⟨⟨_, _, rfl⟩, rfl⟩ rfl ?_
    refine w_getr (q := 160) hm29 ⟨⟨_, _, rfl⟩, rfl⟩ rfl ?_
    refine w_iconst (q := 161) hm29 ⟨⟨_, _, rfl⟩, rfl⟩ iconst_4 ?_
    refine w_aload_n (q := 162) hm29 ⟨⟨_, _, rfl⟩, rfl⟩ rfl ?_
    refine w_getf (q := 165) (v := (m2.1 70 19)) hm29 ⟨⟨_, _, rfl⟩, rfl⟩ rfl rfl ?_
    refine w_imul (q := 166) hm29 ⟨⟨_, _, rfl⟩, rfl⟩ ?_
    refine w_iload_n (q := 167) hm29 ⟨⟨_, _, rfl⟩, rfl⟩ rfl ?_
    refine w_iadd (q := 168) hm29 ⟨⟨_, _, rfl⟩, rfl⟩ ?_
    refine w_iload_n (q := 169) hm29 ⟨⟨_, _, rfl⟩, rfl⟩ rfl ?_
    obtain ⟨hi, h⟩ := h
    refine w_iast (q := 170) hm29 ⟨⟨_, _, rfl⟩, rfl⟩ rfl hi rfl rfl ?_
    refine w_aload_n (q := 171) hm29 ⟨⟨_, _, rfl⟩, rfl⟩ rfl ?_
    refine w_getr (q := 174) hm29 ⟨⟨_, _, rfl⟩, rfl⟩ rfl ?_
    refine w_iconst (q := 175) hm29 ⟨⟨_, _, rfl⟩, rfl⟩ iconst_4 ?_
    refine w_aload_n (q := 176) hm29 ⟨⟨_, _, rfl⟩, rfl⟩ rfl ?_
    refine w_getf (q := 179) (v := (m2.1 70 19)) hm29 ⟨⟨_, _, rfl⟩, rfl⟩ rfl rfl ?_
    refine w_imul (q := 180) hm29 ⟨⟨_, _, rfl⟩, rfl⟩ ?_
    refine w_iload_n (q := 181) hm29 ⟨⟨_, _, rfl⟩, rfl⟩ rfl ?_
    refine w_iadd (q := 182) hm29 ⟨⟨_, _, rfl⟩, rfl⟩ ?_
    refine w_aload_n (q := 183) hm29 ⟨⟨_, _, rfl⟩, rfl⟩ rfl ?_
    refine w_getf (q := 186) (v := (m2.1 70 40)) hm29 ⟨⟨_, _, rfl⟩, rfl⟩ rfl rfl ?_
    obtain ⟨hi, h⟩ := h
    refine w_iast (q := 187) hm29 ⟨⟨_, _, rfl⟩, rfl⟩ rfl hi rfl rfl ?_
    exact w_retv hm29 ⟨⟨_, _, rfl⟩, rfl⟩ rfl h
  · have h := h.2 hc
    exact w_retv hm29 ⟨⟨_, _, rfl⟩, rfl⟩ rfl h
theorem v_X12_tellOne_70 {d : Nat} {m : dM} {Q : dM → Prop} (h : ((0 ≤ (m.1 70 11).toInt ∧ (m.1 70 11).toInt < 403) ∧ (((m.1 73 (m.1 70 11).toNatClampNeg).toInt = 20 → ((0 ≤ (m.1 70 19).toInt ∧ (m.1 70 19).toInt < 2) ∧ c_X12_roomFor_70 d (m.1 80 (m.1 70 19).toNatClampNeg) (7 : Int32) m (fun m1 => (((m1.1 70 13).toInt ≤ 0 → c_X12_named_70 d m1 (fun r2 m2 => ((0 ≤ (m2.1 70 19).toInt ∧ (m2.1 70 19).toInt < 2) ∧ c_X12_bounded_70 d (0 : Int32) (9 : Int32) m2 (fun r3 m3 => ((0 ≤ (((7 : Int32) * (m2.1 70 19)) + (m2.1 80 (m2.1 70 19).toNatClampNeg)).toInt ∧ (((7 : Int32) * (m2.1 70 19)) + (m2.1 80 (m2.1 70 19).toNatClampNeg)).toInt < 14) ∧ ((0 ≤ (m3.1 70 19).toInt ∧ (m3.1 70 19).toInt < 2) ∧ c_X12_endsName_70 d r2 (m3.1 80 (m3.1 70 19).toNatClampNeg) (dSet m3 81 (((7 : Int32) * (m2.1 70 19)) + (m2.1 80 (m2.1 70 19).toNatClampNeg)).toNatClampNeg r3) (fun m4 => (((m4.1 70 13).toInt ≠ 0 → j_X12_tellOne_70_371 (d + 1) m4 Q) ∧ ((m4.1 70 13).toInt = 0 → ((0 ≤ (m4.1 70 19).toInt ∧ (m4.1 70 19).toInt < 2) ∧ ((0 ≤ (m4.1 70 19).toInt ∧ (m4.1 70 19).toInt < 2) ∧ j_X12_tellOne_70_371 (d + 1) (dSet m4 80 (m4.1 70 19).toNatClampNeg ((m4.1 80 (m4.1 70 19).toNatClampNeg) + (1 : Int32))) Q))))))))))) ∧ (0 < (m1.1 70 13).toInt → Q m1))))) ∧ ((m.1 73 (m.1 70 11).toNatClampNeg).toInt = 21 → ((0 ≤ (m.1 70 19).toInt ∧ (m.1 70 19).toInt < 2) ∧ c_X12_roomFor_70 d (m.1 82 (m.1 70 19).toNatClampNeg) (10 : Int32) m (fun m5 => (((m5.1 70 13).toInt ≠ 0 → j_X12_tellOne_70_371 (d + 1) m5 Q) ∧ ((m5.1 70 13).toInt = 0 → c_X12_tellWire_70 d m5 (fun m6 => j_X12_tellOne_70_371 (d + 1) m6 Q)))))) ∧ ((m.1 73 (m.1 70 11).toNatClampNeg).toInt = 22 → ((0 ≤ (m.1 70 19).toInt ∧ (m.1 70 19).toInt < 2) ∧ c_X12_roomFor_70 d (m.1 86 (m.1 70 19).toNatClampNeg) (8 : Int32) m (fun m7 => (((m7.1 70 13).toInt ≠ 0 → j_X12_tellOne_70_371 (d + 1) m7 Q) ∧ ((m7.1 70 13).toInt = 0 → c_X12_tellUse_70 d m7 (fun m8 => j_X12_tellOne_70_371 (d + 1) m8 Q)))))) ∧ ((m.1 73 (m.1 70 11).toNatClampNeg).toInt = 23 → ((0 ≤ (m.1 70 11).toInt ∧ (m.1 70 11).toInt < 403) ∧ ((((m.1 73 (m.1 70 11).toNatClampNeg) - (23 : Int32)).toInt < 0 → j_X12_tellOne_70_349 (d + 1) ((m.1 73 (m.1 70 11).toNatClampNeg) - (23 : Int32)) m Q) ∧ (0 ≤ ((m.1 73 (m.1 70 11).toNatClampNeg) - (23 : Int32)).toInt → ((0 ≤ (m.1 70 11).toInt ∧ (m.1 70 11).toInt < 403) ∧ (((m.1 73 (m.1 70 11).toNatClampNeg).toInt ≤ 26 → j_X12_tellOne_70_354 (d + 1) ((m.1 73 (m.1 70 11).toNatClampNeg) - (23 : Int32)) m Q) ∧ (26 < (m.1 73 (m.1 70 11).toNatClampNeg).toInt → j_X12_tellOne_70_349 (d + 1) ((m.1 73 (m.1 70 11).toNatClampNeg) - (23 : Int32)) m Q))))))) ∧ ((m.1 73 (m.1 70 11).toNatClampNeg).toInt = 24 → ((0 ≤ (m.1 70 11).toInt ∧ (m.1 70 11).toInt < 403) ∧ ((((m.1 73 (m.1 70 11).toNatClampNeg) - (23 : Int32)).toInt < 0 → j_X12_tellOne_70_349 (d + 1) ((m.1 73 (m.1 70 11).toNatClampNeg) - (23 : Int32)) m Q) ∧ (0 ≤ ((m.1 73 (m.1 70 11).toNatClampNeg) - (23 : Int32)).toInt → ((0 ≤ (m.1 70 11).toInt ∧ (m.1 70 11).toInt < 403) ∧ (((m.1 73 (m.1 70 11).toNatClampNeg).toInt ≤ 26 → j_X12_tellOne_70_354 (d + 1) ((m.1 73 (m.1 70 11).toNatClampNeg) - (23 : Int32)) m Q) ∧ (26 < (m.1 73 (m.1 70 11).toNatClampNeg).toInt → j_X12_tellOne_70_349 (d + 1) ((m.1 73 (m.1 70 11).toNatClampNeg) - (23 : Int32)) m Q))))))) ∧ ((m.1 73 (m.1 70 11).toNatClampNeg).toInt = 25 → ((0 ≤ (m.1 70 11).toInt ∧ (m.1 70 11).toInt < 403) ∧ ((((m.1 73 (m.1 70 11).toNatClampNeg) - (23 : Int32)).toInt < 0 → j_X12_tellOne_70_349 (d + 1) ((m.1 73 (m.1 70 11).toNatClampNeg) - (23 : Int32)) m Q) ∧ (0 ≤ ((m.1 73 (m.1 70 11).toNatClampNeg) - (23 : Int32)).toInt → ((0 ≤ (m.1 70 11).toInt ∧ (m.1 70 11).toInt < 403) ∧ (((m.1 73 (m.1 70 11).toNatClampNeg).toInt ≤ 26 → j_X12_tellOne_70_354 (d + 1) ((m.1 73 (m.1 70 11).toNatClampNeg) - (23 : Int32)) m Q) ∧ (26 < (m.1 73 (m.1 70 11).toNatClampNeg).toInt → j_X12_tellOne_70_349 (d + 1) ((m.1 73 (m.1 70 11).toNatClampNeg) - (23 : Int32)) m Q))))))) ∧ ((m.1 73 (m.1 70 11).toNatClampNeg).toInt = 26 → ((0 ≤ (m.1 70 11).toInt ∧ (m.1 70 11).toInt < 403) ∧ ((((m.1 73 (m.1 70 11).toNatClampNeg) - (23 : Int32)).toInt < 0 → j_X12_tellOne_70_349 (d + 1) ((m.1 73 (m.1 70 11).toNatClampNeg) - (23 : Int32)) m Q) ∧ (0 ≤ ((m.1 73 (m.1 70 11).toNatClampNeg) - (23 : Int32)).toInt → ((0 ≤ (m.1 70 11).toInt ∧ (m.1 70 11).toInt < 403) ∧ (((m.1 73 (m.1 70 11).toNatClampNeg).toInt ≤ 26 → j_X12_tellOne_70_354 (d + 1) ((m.1 73 (m.1 70 11).toNatClampNeg) - (23 : Int32)) m Q) ∧ (26 < (m.1 73 (m.1 70 11).toNatClampNeg).toInt → j_X12_tellOne_70_349 (d + 1) ((m.1 73 (m.1 70 11).toNatClampNeg) - (23 : Int32)) m Q))))))) ∧ ((m.1 73 (m.1 70 11).toNatClampNeg).toInt = 27 → c_X12_goesOn_70 d m (fun m9 => c_X12_bounded_70 d (0 : Int32) (100 : Int32) m9 (fun r10 m10 => ((0 ≤ (m9.1 70 19).toInt ∧ (m9.1 70 19).toInt < 2) ∧ c_X12_bounded_70 d (0 : Int32) (19 : Int32) (dSet m10 91 (m9.1 70 19).toNatClampNeg r10) (fun r11 m11 => ((0 ≤ (m10.1 70 19).toInt ∧ (m10.1 70 19).toInt < 2) ∧ c_X12_must_70 d (4 : Int32) (dSet m11 92 (m10.1 70 19).toNatClampNeg r11) (fun m12 => j_X12_tellOne_70_371 (d + 1) m12 Q))))))) ∧ ((m.1 73 (m.1 70 11).toNatClampNeg).toInt = 28 → c_X12_goesOn_70 d m (fun m13 => c_X12_bounded_70 d (0 : Int32) (999 : Int32) m13 (fun r14 m14 => ((0 ≤ (m13.1 70 19).toInt ∧ (m13.1 70 19).toInt < 2) ∧ c_X12_must_70 d (4 : Int32) (dSet m14 93 (m13.1 70 19).toNatClampNeg r14) (fun m15 => j_X12_tellOne_70_371 (d + 1) m15 Q))))) ∧ ((m.1 73 (m.1 70 11).toNatClampNeg).toInt = 29 → c_X12_goesOn_70 d m (fun m16 => c_X12_bounded_70 d (0 : Int32) (9999 : Int32) m16 (fun r17 m17 => ((0 ≤ (m16.1 70 19).toInt ∧ (m16.1 70 19).toInt < 2) ∧ c_X12_must_70 d (4 : Int32) (dSet m17 94 (m16.1 70 19).toNatClampNeg r17) (fun m18 => j_X12_tellOne_70_371 (d + 1) m18 Q))))) ∧ ((m.1 73 (m.1 70 11).toNatClampNeg).toInt < 20 ∨ 29 < (m.1 73 (m.1 70 11).toNatClampNeg).toInt → ((0 ≤ (m.1 70 11).toInt ∧ (m.1 70 11).toInt < 403) ∧ ((((m.1 73 (m.1 70 11).toNatClampNeg) - (23 : Int32)).toInt < 0 → j_X12_tellOne_70_349 (d + 1) ((m.1 73 (m.1 70 11).toNatClampNeg) - (23 : Int32)) m Q) ∧ (0 ≤ ((m.1 73 (m.1 70 11).toNatClampNeg) - (23 : Int32)).toInt → ((0 ≤ (m.1 70 11).toInt ∧ (m.1 70 11).toInt < 403) ∧ (((m.1 73 (m.1 70 11).toNatClampNeg).toInt ≤ 26 → j_X12_tellOne_70_354 (d + 1) ((m.1 73 (m.1 70 11).toNatClampNeg) - (23 : Int32)) m Q) ∧ (26 < (m.1 73 (m.1 70 11).toNatClampNeg).toInt → j_X12_tellOne_70_349 (d + 1) ((m.1 73 (m.1 70 11).toNatClampNeg) - (23 : Int32)) m Q)))))))))) : c_X12_tellOne_70 (d + 1) m Q := by
  refine w_aload_n (q := 1) hm21 ⟨⟨_, _, rfl⟩, rfl⟩ rfl ?_
  refine w_getr (q := 4) hm21 ⟨⟨_, _, rfl⟩, rfl⟩ rfl ?_
  refine w_aload_n (q := 5) hm21 ⟨⟨_, _, rfl⟩, rfl⟩ rfl ?_
  refine w_getf (q := 8) (v := (m.1 70 11)) hm21 ⟨⟨_, _, rfl⟩, rfl⟩ rfl rfl ?_
  obtain ⟨hi, h⟩ := h
  refine w_iald (q := 9) (v := (m.1 73 (m.1 70 11).toNatClampNeg)) hm21 ⟨⟨_, _, rfl⟩, rfl⟩ rfl hi rfl rfl ?_
  refine w_tsw (X := (m.1 73 (m.1 70 11).toNatClampNeg).toInt) hm21 ⟨_, _, rfl⟩ (by decide) (by decide) rfl ((And.intro (fun hc => ?_) (And.intro (fun hc => ?_) (And.intro (fun hc => ?_) (And.intro (fun hc => ?_) (And.intro (fun hc => ?_) (And.intro (fun hc => ?_) (And.intro (fun hc => ?_) (And.intro (fun hc => ?_) (And.intro (fun hc => ?_) (And.intro (fun hc => ?_) trivial))))))))))) (fun hc => ?_)
  · have h := (h.1) hc
    change Wp _ _ 64 _ _ _ _
    refine w_aload_n (q := 65) hm21 ⟨⟨_, _, rfl⟩, rfl⟩ rfl ?_
    refine w_aload_n (q := 66) hm21 ⟨⟨_, _, rfl⟩, rfl⟩ rfl ?_
    refine w_getr (q := 69) hm21 ⟨⟨_, _, rfl⟩, rfl⟩ rfl ?_
    refine w_aload_n (q := 70) hm21 ⟨⟨_, _, rfl⟩, rfl⟩ rfl ?_
    refine w_getf (q := 73) (v := (m.1 70 19)) hm21 ⟨⟨_, _, rfl⟩, rfl⟩ rfl rfl ?_
    obtain ⟨hi, h⟩ := h
    refine w_iald (q := 74) (v := (m.1 80 (m.1 70 19).toNatClampNeg)) hm21 ⟨⟨_, _, rfl⟩, rfl⟩ rfl hi rfl rfl ?_
    refine w_bipush (q := 76) hm21 ⟨⟨_, _, rfl⟩, rfl⟩ bipush_7 ?_
    refine w_call (q := 79) (n := 0) (vs := [.inr (.inr (some 70)), .inl (m.1 80 (m.1 70 19).toNatClampNeg), .inl (7 : Int32)]) (rest := []) (la := [oR 70, oI (m.1 80 (m.1 70 19).toNatClampNeg), oI (7 : Int32)]) hm21 ⟨⟨_, _, rfl⟩, rfl⟩ rfl rfl rfl rfl hm20 rfl rfl (fun _ => ⟨_, _, rfl, rfl⟩) rfl (Wp.mono h ?_)
    rintro _ m1 ⟨rfl, h⟩
    change Wp _ _ 79 _ [] _ _
    refine w_aload_n (q := 80) hm21 ⟨⟨_, _, rfl⟩, rfl⟩ rfl ?_
    refine w_getf (q := 83) (v := (m1.1 70 13)) hm21 ⟨⟨_, _, rfl⟩, rfl⟩ rfl rfl ?_
    refine w_if_le (q := 86) (X := (m1.1 70 13).toInt) hm21 ⟨⟨_, _, rfl⟩, rfl⟩ rfl (fun hc => ?_) (fun hc => ?_)
    · have h := h.1 hc
      refine w_aload_n (q := 88) hm21 ⟨⟨_, _, rfl⟩, rfl⟩ rfl ?_
      refine w_call (q := 91) (n := 2) (vs := [.inr (.inr (some 70))]) (rest := []) (la := [oR 70, none, none]) hm21 ⟨⟨_, _, rfl⟩, rfl⟩ rfl rfl rfl rfl hm22 rfl rfl (fun _ => ⟨_, _, rfl, rfl⟩) rfl (Wp.mono h ?_)
      rintro _ m2 ⟨r2, rfl, h⟩
      change Wp _ _ 91 _ [.inl r2] _ _
      refine w_istore_n (q := 92) (l' := [oR 70, oI r2]) hm21 ⟨⟨_, _, rfl⟩, rfl⟩ rfl rfl rfl ?_
      refine w_aload_n (q := 93) hm21 ⟨⟨_, _, rfl⟩, rfl⟩ rfl ?_
      refine w_getr (q := 96) hm21 ⟨⟨_, _, rfl⟩, rfl⟩ rfl ?_
      refine w_bipush (q := 98) hm21 ⟨⟨_, _, rfl⟩, rfl⟩ bipush_7 ?_
      refine w_aload_n (q := 99) hm21 ⟨⟨_, _, rfl⟩, rfl⟩ rfl ?_
      refine w_getf (q := 102) (v := (m2.1 70 19)) hm21 ⟨⟨_, _, rfl⟩, rfl⟩ rfl rfl ?_
      refine w_imul (q := 103) hm21 ⟨⟨_, _, rfl⟩, rfl⟩ ?_
      refine w_aload_n (q := 104) hm21 ⟨⟨_, _, rfl⟩, rfl⟩ rfl ?_
      refine w_getr (q := 107) hm21 ⟨⟨_, _, rfl⟩, rfl⟩ rfl ?_
      refine w_aload_n (q := 108) hm21 ⟨⟨_, _, rfl⟩, rfl⟩ rfl ?_
      refine w_getf (q := 111) (v := (m2.1 70 19)) hm21 ⟨⟨_, _, rfl⟩, rfl⟩ rfl rfl ?_
      obtain ⟨hi, h⟩ := h
      refine w_iald (q := 112) (v := (m2.1 80 (m2.1 70 19).toNatClampNeg)) hm21 ⟨⟨_, _, rfl⟩, rfl⟩ rfl hi rfl rfl ?_
      refine w_iadd (q := 113) hm21 ⟨⟨_, _, rfl⟩, rfl⟩ ?_
      refine w_aload_n (q := 114) hm21 ⟨⟨_, _, rfl⟩, rfl⟩ rfl ?_
      refine w_iconst (q := 115) hm21 ⟨⟨_, _, rfl⟩, rfl⟩ iconst_0 ?_
      refine w_bipush (q := 117) hm21 ⟨⟨_, _, rfl⟩, rfl⟩ bipush_9 ?_
      refine w_call (q := 120) (n := 1) (vs := [.inr (.inr (some 70)), .inl (0 : Int32), .inl (9 : Int32)]) (rest := [.inl (((7 : Int32) * (m2.1 70 19)) + (m2.1 80 (m2.1 70 19).toNatClampNeg)), .inr (.inr (some 81))]) (la := [oR 70, oI (0 : Int32), oI (9 : Int32), none]) hm21 ⟨⟨_, _, rfl⟩, rfl⟩ rfl rfl rfl rfl hm25 rfl rfl (fun _ => ⟨_, _, rfl, rfl⟩) rfl (Wp.mono h ?_)
      rintro _ m3 ⟨r3, rfl, h⟩
      change Wp _ _ 120 _ [.inl r3, .inl (((7 : Int32) * (m2.1 70 19)) + (m2.1 80 (m2.1 70 19).toNatClampNeg)), .inr (.inr (some 81))] _ _
      obtain ⟨hi, h⟩ := h
      refine w_iast (q := 121) hm21 ⟨⟨_, _, rfl⟩, rfl⟩ rfl hi rfl rfl ?_
      refine w_aload_n (q := 122) hm21 ⟨⟨_, _, rfl⟩, rfl⟩ rfl ?_
      refine w_iload_n (q := 123) hm21 ⟨⟨_, _, rfl⟩, rfl⟩ rfl ?_
      refine w_aload_n (q := 124) hm21 ⟨⟨_, _, rfl⟩, rfl⟩ rfl ?_
      refine w_getr (q := 127) hm21 ⟨⟨_, _, rfl⟩, rfl⟩ rfl ?_
      refine w_aload_n (q := 128) hm21 ⟨⟨_, _, rfl⟩, rfl⟩ rfl ?_
      refine w_getf (q := 131) (v := (m3.1 70 19)) hm21 ⟨⟨_, _, rfl⟩, rfl⟩ rfl rfl ?_
      obtain ⟨hi, h⟩ := h
      refine w_iald (q := 132) (v := (m3.1 80 (m3.1 70 19).toNatClampNeg)) hm21 ⟨⟨_, _, rfl⟩, rfl⟩ rfl hi rfl rfl ?_
      refine w_call (q := 135) (n := 0) (vs := [.inr (.inr (some 70)), .inl r2, .inl (m3.1 80 (m3.1 70 19).toNatClampNeg)]) (rest := []) (la := [oR 70, oI r2, oI (m3.1 80 (m3.1 70 19).toNatClampNeg)]) hm21 ⟨⟨_, _, rfl⟩, rfl⟩ rfl rfl rfl rfl hm23 rfl rfl (fun _ => ⟨_, _, rfl, rfl⟩) rfl (Wp.mono h ?_)
      rintro _ m4 ⟨rfl, h⟩
      change Wp _ _ 135 _ [] _ _
      refine w_aload_n (q := 136) hm21 ⟨⟨_, _, rfl⟩, rfl⟩ rfl ?_
      refine w_getf (q := 139) (v := (m4.1 70 13)) hm21 ⟨⟨_, _, rfl⟩, rfl⟩ rfl rfl ?_
      refine w_if_ne (q := 142) (X := (m4.1 70 13).toInt) hm21 ⟨⟨_, _, rfl⟩, rfl⟩ rfl (fun hc => ?_) (fun hc => ?_)
      · have h := h.1 hc
        exact Wp.wk [false, false] h
      · have h := h.2 hc
        refine w_aload_n (q := 143) hm21 ⟨⟨_, _, rfl⟩, rfl⟩ rfl ?_
        refine w_getr (q := 146) hm21 ⟨⟨_, _, rfl⟩, rfl⟩ rfl ?_
        refine w_aload_n (q := 147) hm21 ⟨⟨_, _, rfl⟩, rfl⟩ rfl ?_
        refine w_getf (q := 150) (v := (m4.1 70 19)) hm21 ⟨⟨_, _, rfl⟩, rfl⟩ rfl rfl ?_
        refine w_dup2 (q := 151) hm21 ⟨⟨_, _, rfl⟩, rfl⟩ rfl ?_
        obtain ⟨hi, h⟩ := h
        refine w_iald (q := 152) (v := (m4.1 80 (m4.1 70 19).toNatClampNeg)) hm21 ⟨⟨_, _, rfl⟩, rfl⟩ rfl hi rfl rfl ?_
        refine w_iconst (q := 153) hm21 ⟨⟨_, _, rfl⟩, rfl⟩ iconst_1 ?_
        refine w_iadd (q := 154) hm21 ⟨⟨_, _, rfl⟩, rfl⟩ ?_
        obtain ⟨hi, h⟩ := h
        refine w_iast (q := 155) hm21 ⟨⟨_, _, rfl⟩, rfl⟩ rfl hi rfl rfl ?_
        refine w_goto (q := 371) hm21 ⟨_, _, rfl⟩ ?_
        exact Wp.wk [false, false] h
    · have h := h.2 hc
      exact w_retv hm21 ⟨⟨_, _, rfl⟩, rfl⟩ rfl h
  · have h := (h.2.1) hc
    change Wp _ _ 158 _ _ _ _
    refine w_aload_n (q := 159) hm21 ⟨⟨_, _, rfl⟩, rfl⟩ rfl ?_
    refine w_aload_n (q := 160) hm21 ⟨⟨_, _, rfl⟩, rfl⟩ rfl ?_
    refine w_getr (q := 163) hm21 ⟨⟨_, _, rfl⟩, rfl⟩ rfl ?_
    refine w_aload_n (q := 164) hm21 ⟨⟨_, _, rfl⟩, rfl⟩ rfl ?_
    refine w_getf (q := 167) (v := (m.1 70 19)) hm21 ⟨⟨_, _, rfl⟩, rfl⟩ rfl rfl ?_
    obtain ⟨hi, h⟩ := h
    refine w_iald (q := 168) (v := (m.1 82 (m.1 70 19).toNatClampNeg)) hm21 ⟨⟨_, _, rfl⟩, rfl⟩ rfl hi rfl rfl ?_
    refine w_bipush (q := 170) hm21 ⟨⟨_, _, rfl⟩, rfl⟩ bipush_10 ?_
    refine w_call (q := 173) (n := 0) (vs := [.inr (.inr (some 70)), .inl (m.1 82 (m.1 70 19).toNatClampNeg), .inl (10 : Int32)]) (rest := []) (la := [oR 70, oI (m.1 82 (m.1 70 19).toNatClampNeg), oI (10 : Int32)]) hm21 ⟨⟨_, _, rfl⟩, rfl⟩ rfl rfl rfl rfl hm20 rfl rfl (fun _ => ⟨_, _, rfl, rfl⟩) rfl (Wp.mono h ?_)
    rintro _ m5 ⟨rfl, h⟩
    change Wp _ _ 173 _ [] _ _
    refine w_aload_n (q := 174) hm21 ⟨⟨_, _, rfl⟩, rfl⟩ rfl ?_
    refine w_getf (q := 177) (v := (m5.1 70 13)) hm21 ⟨⟨_, _, rfl⟩, rfl⟩ rfl rfl ?_
    refine w_if_ne (q := 180) (X := (m5.1 70 13).toInt) hm21 ⟨⟨_, _, rfl⟩, rfl⟩ rfl (fun hc => ?_) (fun hc => ?_)
    · have h := h.1 hc
      exact Wp.wk [false, false] h
    · have h := h.2 hc
      refine w_aload_n (q := 181) hm21 ⟨⟨_, _, rfl⟩, rfl⟩ rfl ?_
      refine w_call (q := 184) (n := 4) (vs := [.inr (.inr (some 70))]) (rest := []) (la := [oR 70, none, none, none, none]) hm21 ⟨⟨_, _, rfl⟩, rfl⟩ rfl rfl rfl rfl hm27 rfl rfl (fun _ => ⟨_, _, rfl, rfl⟩) rfl (Wp.mono h ?_)
      rintro _ m6 ⟨rfl, h⟩
      change Wp _ _ 184 _ [] _ _
      refine w_goto (q := 371) hm21 ⟨_, _, rfl⟩ ?_
      exact Wp.wk [false, false] h
  · have h := (h.2.2.1) hc
    change Wp _ _ 187 _ _ _ _
    refine w_aload_n (q := 188) hm21 ⟨⟨_, _, rfl⟩, rfl⟩ rfl ?_
    refine w_aload_n (q := 189) hm21 ⟨⟨_, _, rfl⟩, rfl⟩ rfl ?_
    refine w_getr (q := 192) hm21 ⟨⟨_, _, rfl⟩, rfl⟩ rfl ?_
    refine w_aload_n (q := 193) hm21 ⟨⟨_, _, rfl⟩, rfl⟩ rfl ?_
    refine w_getf (q := 196) (v := (m.1 70 19)) hm21 ⟨⟨_, _, rfl⟩, rfl⟩ rfl rfl ?_
    obtain ⟨hi, h⟩ := h
    refine w_iald (q := 197) (v := (m.1 86 (m.1 70 19).toNatClampNeg)) hm21 ⟨⟨_, _, rfl⟩, rfl⟩ rfl hi rfl rfl ?_
    refine w_bipush (q := 199) hm21 ⟨⟨_, _, rfl⟩, rfl⟩ bipush_8 ?_
    refine w_call (q := 202) (n := 0) (vs := [.inr (.inr (some 70)), .inl (m.1 86 (m.1 70 19).toNatClampNeg), .inl (8 : Int32)]) (rest := []) (la := [oR 70, oI (m.1 86 (m.1 70 19).toNatClampNeg), oI (8 : Int32)]) hm21 ⟨⟨_, _, rfl⟩, rfl⟩ rfl rfl rfl rfl hm20 rfl rfl (fun _ => ⟨_, _, rfl, rfl⟩) rfl (Wp.mono h ?_)
    rintro _ m7 ⟨rfl, h⟩
    change Wp _ _ 202 _ [] _ _
    refine w_aload_n (q := 203) hm21 ⟨⟨_, _, rfl⟩, rfl⟩ rfl ?_
    refine w_getf (q := 206) (v := (m7.1 70 13)) hm21 ⟨⟨_, _, rfl⟩, rfl⟩ rfl rfl ?_
    refine w_if_ne (q := 209) (X := (m7.1 70 13).toInt) hm21 ⟨⟨_, _, rfl⟩, rfl⟩ rfl (fun hc => ?_) (fun hc => ?_)
    · have h := h.1 hc
      exact Wp.wk [false, false] h
    · have h := h.2 hc
      refine w_aload_n (q := 210) hm21 ⟨⟨_, _, rfl⟩, rfl⟩ rfl ?_
      refine w_call (q := 213) (n := 2) (vs := [.inr (.inr (some 70))]) (rest := []) (la := [oR 70, none, none]) hm21 ⟨⟨_, _, rfl⟩, rfl⟩ rfl rfl rfl rfl hm28 rfl rfl (fun _ => ⟨_, _, rfl, rfl⟩) rfl (Wp.mono h ?_)
      rintro _ m8 ⟨rfl, h⟩
      change Wp _ _ 213 _ [] _ _
      refine w_goto (q := 371) hm21 ⟨_, _, rfl⟩ ?_
      exact Wp.wk [false, false] h
  · have h := (h.2.2.2.1) hc
    change Wp _ _ 318 _ _ _ _
    refine w_aload_n (q := 319) hm21 ⟨⟨_, _, rfl⟩, rfl⟩ rfl ?_
    refine w_getr (q := 322) hm21 ⟨⟨_, _, rfl⟩, rfl⟩ rfl ?_
    refine w_aload_n (q := 323) hm21 ⟨⟨_, _, rfl⟩, rfl⟩ rfl ?_
    refine w_getf (q := 326) (v := (m.1 70 11)) hm21 ⟨⟨_, _, rfl⟩, rfl⟩ rfl rfl ?_
    obtain ⟨hi, h⟩ := h
    refine w_iald (q := 327) (v := (m.1 73 (m.1 70 11).toNatClampNeg)) hm21 ⟨⟨_, _, rfl⟩, rfl⟩ rfl hi rfl rfl ?_
    refine w_bipush (q := 329) hm21 ⟨⟨_, _, rfl⟩, rfl⟩ bipush_23 ?_
    refine w_isub (q := 330) hm21 ⟨⟨_, _, rfl⟩, rfl⟩ ?_
    refine w_istore_n (q := 331) (l' := [oR 70, oI ((m.1 73 (m.1 70 11).toNatClampNeg) - (23 : Int32))]) hm21 ⟨⟨_, _, rfl⟩, rfl⟩ rfl rfl rfl ?_
    refine w_iload_n (q := 332) hm21 ⟨⟨_, _, rfl⟩, rfl⟩ rfl ?_
    refine w_if_lt (q := 335) (X := ((m.1 73 (m.1 70 11).toNatClampNeg) - (23 : Int32)).toInt) hm21 ⟨⟨_, _, rfl⟩, rfl⟩ rfl (fun hc => ?_) (fun hc => ?_)
    · have h := h.1 hc
      exact h
    · have h := h.2 hc
      refine w_aload_n (q := 336) hm21 ⟨⟨_, _, rfl⟩, rfl⟩ rfl ?_
      refine w_getr (q := 339) hm21 ⟨⟨_, _, rfl⟩, rfl⟩ rfl ?_
      refine w_aload_n (q := 340) hm21 ⟨⟨_, _, rfl⟩, rfl⟩ rfl ?_
      refine w_getf (q := 343) (v := (m.1 70 11)) hm21 ⟨⟨_, _, rfl⟩, rfl⟩ rfl rfl ?_
      obtain ⟨hi, h⟩ := h
      refine w_iald (q := 344) (v := (m.1 73 (m.1 70 11).toNatClampNeg)) hm21 ⟨⟨_, _, rfl⟩, rfl⟩ rfl hi rfl rfl ?_
      refine w_bipush (q := 346) hm21 ⟨⟨_, _, rfl⟩, rfl⟩ bipush_26 ?_
      refine w_icmp_le (q := 349) (X := (m.1 73 (m.1 70 11).toNatClampNeg).toInt) (Y := 26) hm21 ⟨⟨_, _, rfl⟩, rfl⟩ rfl (by decide) (fun hc => ?_) (fun hc => ?_)
      · have h := h.1 hc
        exact h
      · have h := h.2 hc
        exact h
  · have h := (h.2.2.2.2.1) hc
    change Wp _ _ 318 _ _ _ _
    refine w_aload_n (q := 319) hm21 ⟨⟨_, _, rfl⟩, rfl⟩ rfl ?_
    refine w_getr (q := 322) hm21 ⟨⟨_, _, rfl⟩, rfl⟩ rfl ?_
    refine w_aload_n (q := 323) hm21 ⟨⟨_, _, rfl⟩, rfl⟩ rfl ?_
    refine w_getf (q := 326) (v := (m.1 70 11)) hm21 ⟨⟨_, _, rfl⟩, rfl⟩ rfl rfl ?_
    obtain ⟨hi, h⟩ := h
    refine w_iald (q := 327) (v := (m.1 73 (m.1 70 11).toNatClampNeg)) hm21 ⟨⟨_, _, rfl⟩, rfl⟩ rfl hi rfl rfl ?_
    refine w_bipush (q := 329) hm21 ⟨⟨_, _, rfl⟩, rfl⟩ bipush_23 ?_
    refine w_isub (q := 330) hm21 ⟨⟨_, _, rfl⟩, rfl⟩ ?_
    refine w_istore_n (q := 331) (l' := [oR 70, oI ((m.1 73 (m.1 70 11).toNatClampNeg) - (23 : Int32))]) hm21 ⟨⟨_, _, rfl⟩, rfl⟩ rfl rfl rfl ?_
    refine w_iload_n (q := 332) hm21 ⟨⟨_, _, rfl⟩, rfl⟩ rfl ?_
    refine w_if_lt (q := 335) (X := ((m.1 73 (m.1 70 11).toNatClampNeg) - (23 : Int32)).toInt) hm21 ⟨⟨_, _, rfl⟩, rfl⟩ rfl (fun hc => ?_) (fun hc => ?_)
    · have h := h.1 hc
      exact h
    · have h := h.2 hc
      refine w_aload_n (q := 336) hm21 ⟨⟨_, _, rfl⟩, rfl⟩ rfl ?_
      refine w_getr (q := 339) hm21 ⟨⟨_, _, rfl⟩, rfl⟩ rfl ?_
      refine w_aload_n (q := 340) hm21 ⟨⟨_, _, rfl⟩, rfl⟩ rfl ?_
      refine w_getf (q := 343) (v := (m.1 70 11)) hm21 ⟨⟨_, _, rfl⟩, rfl⟩ rfl rfl ?_
      obtain ⟨hi, h⟩ := h
      refine w_iald (q := 344) (v := (m.1 73 (m.1 70 11).toNatClampNeg)) hm21 ⟨⟨_, _, rfl⟩, rfl⟩ rfl hi rfl rfl ?_
      refine w_bipush (q := 346) hm21 ⟨⟨_, _, rfl⟩, rfl⟩ bipush_26 ?_
      refine w_icmp_le (q := 349) (X := (m.1 73 (m.1 70 11).toNatClampNeg).toInt) (Y := 26) hm21 ⟨⟨_, _, rfl⟩, rfl⟩ rfl (by decide) (fun hc => ?_) (fun hc => ?_)
      · have h := h.1 hc
        exact h
      · have h := h.2 hc
        exact h
  · have h := (h.2.2.2.2.2.1) hc
    change Wp _ _ 318 _ _ _ _
    refine w_aload_n (q := 319) hm21 ⟨⟨_, _, rfl⟩, rfl⟩ rfl ?_
    refine w_getr (q := 322) hm21 ⟨⟨_, _, rfl⟩, rfl⟩ rfl ?_
    refine w_aload_n (q := 323) hm21 ⟨⟨_, _, rfl⟩, rfl⟩ rfl ?_
    refine w_getf (q := 326) (v := (m.1 70 11)) hm21 ⟨⟨_, _, rfl⟩, rfl⟩ rfl rfl ?_
    obtain ⟨hi, h⟩ := h
    refine w_iald (q := 327) (v := (m.1 73 (m.1 70 11).toNatClampNeg)) hm21 ⟨⟨_, _, rfl⟩, rfl⟩ rfl hi rfl rfl ?_
    refine w_bipush (q := 329) hm21 ⟨⟨_, _, rfl⟩, rfl⟩ bipush_23 ?_
    refine w_isub (q := 330) hm21 ⟨⟨_, _, rfl⟩, rfl⟩ ?_
    refine w_istore_n (q := 331) (l' := [oR 70, oI ((m.1 73 (m.1 70 11).toNatClampNeg) - (23 : Int32))]) hm21 ⟨⟨_, _, rfl⟩, rfl⟩ rfl rfl rfl ?_
    refine w_iload_n (q := 332) hm21 ⟨⟨_, _, rfl⟩, rfl⟩ rfl ?_
    refine w_if_lt (q := 335) (X := ((m.1 73 (m.1 70 11).toNatClampNeg) - (23 : Int32)).toInt) hm21 ⟨⟨_, _, rfl⟩, rfl⟩ rfl (fun hc => ?_) (fun hc => ?_)
    · have h := h.1 hc
      exact h
    · have h := h.2 hc
      refine w_aload_n (q := 336) hm21 ⟨⟨_, _, rfl⟩, rfl⟩ rfl ?_
      refine w_getr (q := 339) hm21 ⟨⟨_, _, rfl⟩, rfl⟩ rfl ?_
      refine w_aload_n (q := 340) hm21 ⟨⟨_, _, rfl⟩, rfl⟩ rfl ?_
      refine w_getf (q := 343) (v := (m.1 70 11)) hm21 ⟨⟨_, _, rfl⟩, rfl⟩ rfl rfl ?_
      obtain ⟨hi, h⟩ := h
      refine w_iald (q := 344) (v := (m.1 73 (m.1 70 11).toNatClampNeg)) hm21 ⟨⟨_, _, rfl⟩, rfl⟩ rfl hi rfl rfl ?_
      refine w_bipush (q := 346) hm21 ⟨⟨_, _, rfl⟩, rfl⟩ bipush_26 ?_
      refine w_icmp_le (q := 349) (X := (m.1 73 (m.1 70 11).toNatClampNeg).toInt) (Y := 26) hm21 ⟨⟨_, _, rfl⟩, rfl⟩ rfl (by decide) (fun hc => ?_) (fun hc => ?_)
      · have h := h.1 hc
        exact h
      · have h := h.2 hc
        exact h
  · have h := (h.2.2.2.2.2.2.1) hc
    change Wp _ _ 318 _ _ _ _
    refine w_aload_n (q := 319) hm21 ⟨⟨_, _, rfl⟩, rfl⟩ rfl ?_
    refine w_getr (q := 322) hm21 ⟨⟨_, _, rfl⟩, rfl⟩ rfl ?_
    refine w_aload_n (q := 323) hm21 ⟨⟨_, _, rfl⟩, rfl⟩ rfl ?_
    refine w_getf (q := 326) (v := (m.1 70 11)) hm21 ⟨⟨_, _, rfl⟩, rfl⟩ rfl rfl ?_
    obtain ⟨hi, h⟩ := h
    refine w_iald (q := 327) (v := (m.1 73 (m.1 70 11).toNatClampNeg)) hm21 ⟨⟨_, _, rfl⟩, rfl⟩ rfl hi rfl rfl ?_
    refine w_bipush (q := 329) hm21 ⟨⟨_, _, rfl⟩, rfl⟩ bipush_23 ?_
    refine w_isub (q := 330) hm21 ⟨⟨_, _, rfl⟩, rfl⟩ ?_
    refine w_istore_n (q := 331) (l' := [oR 70, oI ((m.1 73 (m.1 70 11).toNatClampNeg) - (23 : Int32))]) hm21 ⟨⟨_, _, rfl⟩, rfl⟩ rfl rfl rfl ?_
    refine w_iload_n (q := 332) hm21 ⟨⟨_, _, rfl⟩, rfl⟩ rfl ?_
    refine w_if_lt (q := 335) (X := ((m.1 73 (m.1 70 11).toNatClampNeg) - (23 : Int32)).toInt) hm21 ⟨⟨_, _, rfl⟩, rfl⟩ rfl (fun hc => ?_) (fun hc => ?_)
    · have h := h.1 hc
      exact h
    · have h := h.2 hc
      refine w_aload_n (q := 336) hm21 ⟨⟨_, _, rfl⟩, rfl⟩ rfl ?_
      refine w_getr (q := 339) hm21 ⟨⟨_, _, rfl⟩, rfl⟩ rfl ?_
      refine w_aload_n (q := 340) hm21 ⟨⟨_, _, rfl⟩, rfl⟩ rfl ?_
      refine w_getf (q := 343) (v := (m.1 70 11)) hm21 ⟨⟨_, _, rfl⟩, rfl⟩ rfl rfl ?_
      obtain ⟨hi, h⟩ := h
      refine w_iald (q := 344) (v := (m.1 73 (m.1 70 11).toNatClampNeg)) hm21 ⟨⟨_, _, rfl⟩, rfl⟩ rfl hi rfl rfl ?_
      refine w_bipush (q := 346) hm21 ⟨⟨_, _, rfl⟩, rfl⟩ bipush_26 ?_
      refine w_icmp_le (q := 349) (X := (m.1 73 (m.1 70 11).toNatClampNeg).toInt) (Y := 26) hm21 ⟨⟨_, _, rfl⟩, rfl⟩ rfl (by decide) (fun hc => ?_) (fun hc => ?_)
      · have h := h.1 hc
        exact h
      · have h := h.2 hc
        exact h
  · have h := (h.2.2.2.2.2.2.2.1) hc
    change Wp _ _ 216 _ _ _ _
    refine w_aload_n (q := 217) hm21 ⟨⟨_, _, rfl⟩, rfl⟩ rfl ?_
    refine w_call (q := 220) (n := 0) (vs := [.inr (.inr (some 70))]) (rest := []) (la := [oR 70]) hm21 ⟨⟨_, _, rfl⟩, rfl⟩ rfl rfl rfl rfl hm15 rfl rfl (fun _ => ⟨_, _, rfl, rfl⟩) rfl (Wp.mono h ?_)
    rintro _ m9 ⟨rfl, h⟩
    change Wp _ _ 220 _ [] _ _
    refine w_aload_n (q := 221) hm21 ⟨⟨_, _, rfl⟩, rfl⟩ rfl ?_
    refine w_getr (q := 224) hm21 ⟨⟨_, _, rfl⟩, rfl⟩ rfl ?_
    refine w_aload_n (q := 225) hm21 ⟨⟨_, _, rfl⟩, rfl⟩ rfl ?_
    refine w_getf (q := 228) (v := (m9.1 70 19)) hm21 ⟨⟨_, _, rfl⟩, rfl⟩ rfl rfl ?_
    refine w_aload_n (q := 229) hm21 ⟨⟨_, _, rfl⟩, rfl⟩ rfl ?_
    refine w_iconst (q := 230) hm21 ⟨⟨_, _, rfl⟩, rfl⟩ iconst_0 ?_
    refine w_bipush (q := 232) hm21 ⟨⟨_, _, rfl⟩, rfl⟩ bipush_100 ?_
    refine w_call (q := 235) (n := 1) (vs := [.inr (.inr (some 70)), .inl (0 : Int32), .inl (100 : Int32)]) (rest := [.inl (m9.1 70 19), .inr (.inr (some 91))]) (la := [oR 70, oI (0 : Int32), oI (100 : Int32), none]) hm21 ⟨⟨_, _, rfl⟩, rfl⟩ rfl rfl rfl rfl hm25 rfl rfl (fun _ => ⟨_, _, rfl, rfl⟩) rfl (Wp.mono h ?_)
    rintro _ m10 ⟨r10, rfl, h⟩
    change Wp _ _ 235 _ [.inl r10, .inl (m9.1 70 19), .inr (.inr (some 91))] _ _
    obtain ⟨hi, h⟩ := h
    refine w_iast (q := 236) hm21 ⟨⟨_, _, rfl⟩, rfl⟩ rfl hi rfl rfl ?_
    refine w_aload_n (q := 237) hm21 ⟨⟨_, _, rfl⟩, rfl⟩ rfl ?_
    refine w_getr (q := 240) hm21 ⟨⟨_, _, rfl⟩, rfl⟩ rfl ?_
    refine w_aload_n (q := 241) hm21 ⟨⟨_, _, rfl⟩, rfl⟩ rfl ?_
    refine w_getf (q := 244) (v := (m10.1 70 19)) hm21 ⟨⟨_, _, rfl⟩, rfl⟩ rfl rfl ?_
    refine w_aload_n (q := 245) hm21 ⟨⟨_, _, rfl⟩, rfl⟩ rfl ?_
    refine w_iconst (q := 246) hm21 ⟨⟨_, _, rfl⟩, rfl⟩ iconst_0 ?_
    refine w_bipush (q := 248) hm21 ⟨⟨_, _, rfl⟩, rfl⟩ bipush_19 ?_
    refine w_call (q := 251) (n := 1) (vs := [.inr (.inr (some 70)), .inl (0 : Int32), .inl (19 : Int32)]) (rest := [.inl (m10.1 70 19), .inr (.inr (some 92))]) (la := [oR 70, oI (0 : Int32), oI (19 : Int32), none]) hm21 ⟨⟨_, _, rfl⟩, rfl⟩ rfl rfl rfl rfl hm25 rfl rfl (fun _ => ⟨_, _, rfl, rfl⟩) rfl (Wp.mono h ?_)
    rintro _ m11 ⟨r11, rfl, h⟩
    change Wp _ _ 251 _ [.inl r11, .inl (m10.1 70 19), .inr (.inr (some 92))] _ _
    obtain ⟨hi, h⟩ := h
    refine w_iast (q := 252) hm21 ⟨⟨_, _, rfl⟩, rfl⟩ rfl hi rfl rfl ?_
    refine w_aload_n (q := 253) hm21 ⟨⟨_, _, rfl⟩, rfl⟩ rfl ?_
    refine w_iconst (q := 254) hm21 ⟨⟨_, _, rfl⟩, rfl⟩ iconst_4 ?_
    refine w_call (q := 257) (n := 0) (vs := [.inr (.inr (some 70)), .inl (4 : Int32)]) (rest := []) (la := [oR 70, oI (4 : Int32)]) hm21 ⟨⟨_, _, rfl⟩, rfl⟩ rfl rfl rfl rfl hm16 rfl rfl (fun _ => ⟨_, _, rfl, rfl⟩) rfl (Wp.mono h ?_)
    rintro _ m12 ⟨rfl, h⟩
    change Wp _ _ 257 _ [] _ _
    refine w_goto (q := 371) hm21 ⟨_, _, rfl⟩ ?_
    exact Wp.wk [false, false] h
  · have h := (h.2.2.2.2.2.2.2.2.1) hc
    change Wp _ _ 260 _ _ _ _
    refine w_aload_n (q := 261) hm21 ⟨⟨_, _, rfl⟩, rfl⟩ rfl ?_
    refine w_call (q := 264) (n := 0) (vs := [.inr (.inr (some 70))]) (rest := []) (la := [oR 70]) hm21 ⟨⟨_, _, rfl⟩, rfl⟩ rfl rfl rfl rfl hm15 rfl rfl (fun _ => ⟨_, _, rfl, rfl⟩) rfl (Wp.mono h ?_)
    rintro _ m13 ⟨rfl, h⟩
    change Wp _ _ 264 _ [] _ _
    refine w_aload_n (q := 265) hm21 ⟨⟨_, _, rfl⟩, rfl⟩ rfl ?_
    refine w_getr (q := 268) hm21 ⟨⟨_, _, rfl⟩, rfl⟩ rfl ?_
    refine w_aload_n (q := 269) hm21 ⟨⟨_, _, rfl⟩, rfl⟩ rfl ?_
    refine w_getf (q := 272) (v := (m13.1 70 19)) hm21 ⟨⟨_, _, rfl⟩, rfl⟩ rfl rfl ?_
    refine w_aload_n (q := 273) hm21 ⟨⟨_, _, rfl⟩, rfl⟩ rfl ?_
    refine w_iconst (q := 274) hm21 ⟨⟨_, _, rfl⟩, rfl⟩ iconst_0 ?_
    refine w_sipush (q := 277) hm21 ⟨⟨_, _, rfl⟩, rfl⟩ sipush_999 ?_
    refine w_call (q := 280) (n := 1) (vs := [.inr (.inr (some 70)), .inl (0 : Int32), .inl (999 : Int32)]) (rest := [.inl (m13.1 70 19), .inr (.inr (some 93))]) (la := [oR 70, oI (0 : Int32), oI (999 : Int32), none]) hm21 ⟨⟨_, _, rfl⟩, rfl⟩ rfl rfl rfl rfl hm25 rfl rfl (fun _ => ⟨_, _, rfl, rfl⟩) rfl (Wp.mono h ?_)
    rintro _ m14 ⟨r14, rfl, h⟩
    change Wp _ _ 280 _ [.inl r14, .inl (m13.1 70 19), .inr (.inr (some 93))] _ _
    obtain ⟨hi, h⟩ := h
    refine w_iast (q := 281) hm21 ⟨⟨_, _, rfl⟩, rfl⟩ rfl hi rfl rfl ?_
    refine w_aload_n (q := 282) hm21 ⟨⟨_, _, rfl⟩, rfl⟩ rfl ?_
    refine w_iconst (q := 283) hm21 ⟨⟨_, _, rfl⟩, rfl⟩ iconst_4 ?_
    refine w_call (q := 286) (n := 0) (vs := [.inr (.inr (some 70)), .inl (4 : Int32)]) (rest := []) (la := [oR 70, oI (4 : Int32)]) hm21 ⟨⟨_, _, rfl⟩, rfl⟩ rfl rfl rfl rfl hm16 rfl rfl (fun _ => ⟨_, _, rfl, rfl⟩) rfl (Wp.mono h ?_)
    rintro _ m15 ⟨rfl, h⟩
    change Wp _ _ 286 _ [] _ _
    refine w_goto (q := 371) hm21 ⟨_, _, rfl⟩ ?_
    exact Wp.wk [false, false] h
  · have h := (h.2.2.2.2.2.2.2.2.2.1) hc
    change Wp _ _ 289 _ _ _ _
    refine w_aload_n (q := 290) hm21 ⟨⟨_, _, rfl⟩, rfl⟩ rfl ?_
    refine w_call (q := 293) (n := 0) (vs := [.inr (.inr (some 70))]) (rest := []) (la := [oR 70]) hm21 ⟨⟨_, _, rfl⟩, rfl⟩ rfl rfl rfl rfl hm15 rfl rfl (fun _ => ⟨_, _, rfl, rfl⟩) rfl (Wp.mono h ?_)
    rintro _ m16 ⟨rfl, h⟩
    change Wp _ _ 293 _ [] _ _
    refine w_aload_n (q := 294) hm21 ⟨⟨_, _, rfl⟩, rfl⟩ rfl ?_
    refine w_getr (q := 297) hm21 ⟨⟨_, _, rfl⟩, rfl⟩ rfl ?_
    refine w_aload_n (q := 298) hm21 ⟨⟨_, _, rfl⟩, rfl⟩ rfl ?_
    refine w_getf (q := 301) (v := (m16.1 70 19)) hm21 ⟨⟨_, _, rfl⟩, rfl⟩ rfl rfl ?_
    refine w_aload_n (q := 302) hm21 ⟨⟨_, _, rfl⟩, rfl⟩ rfl ?_
    refine w_iconst (q := 303) hm21 ⟨⟨_, _, rfl⟩, rfl⟩ iconst_0 ?_
    refine w_sipush (q := 306) hm21 ⟨⟨_, _, rfl⟩, rfl⟩ sipush_9999 ?_
    refine w_call (q := 309) (n := 1) (vs := [.inr (.inr (some 70)), .inl (0 : Int32), .inl (9999 : Int32)]) (rest := [.inl (m16.1 70 19), .inr (.inr (some 94))]) (la := [oR 70, oI (0 : Int32), oI (9999 : Int32), none]) hm21 ⟨⟨_, _, rfl⟩, rfl⟩ rfl rfl rfl rfl hm25 rfl rfl (fun _ => ⟨_, _, rfl, rfl⟩) rfl (Wp.mono h ?_)
    rintro _ m17 ⟨r17, rfl, h⟩
    change Wp _ _ 309 _ [.inl r17, .inl (m16.1 70 19), .inr (.inr (some 94))] _ _
    obtain ⟨hi, h⟩ := h
    refine w_iast (q := 310) hm21 ⟨⟨_, _, rfl⟩, rfl⟩ rfl hi rfl rfl ?_
    refine w_aload_n (q := 311) hm21 ⟨⟨_, _, rfl⟩, rfl⟩ rfl ?_
    refine w_iconst (q := 312) hm21 ⟨⟨_, _, rfl⟩, rfl⟩ iconst_4 ?_
    refine w_call (q := 315) (n := 0) (vs := [.inr (.inr (some 70)), .inl (4 : Int32)]) (rest := []) (la := [oR 70, oI (4 : Int32)]) hm21 ⟨⟨_, _, rfl⟩, rfl⟩ rfl rfl rfl rfl hm16 rfl rfl (fun _ => ⟨_, _, rfl, rfl⟩) rfl (Wp.mono h ?_)
    rintro _ m18 ⟨rfl, h⟩
    change Wp _ _ 315 _ [] _ _
    refine w_goto (q := 371) hm21 ⟨_, _, rfl⟩ ?_
    exact Wp.wk [false, false] h
  · have h := (h.2.2.2.2.2.2.2.2.2.2) hc
    change Wp _ _ 318 _ _ _ _
    refine w_aload_n (q := 319) hm21 ⟨⟨_, _, rfl⟩, rfl⟩ rfl ?_
    refine w_getr (q := 322) hm21 ⟨⟨_, _, rfl⟩, rfl⟩ rfl ?_
    refine w_aload_n (q := 323) hm21 ⟨⟨_, _, rfl⟩, rfl⟩ rfl ?_
    refine w_getf (q := 326) (v := (m.1 70 11)) hm21 ⟨⟨_, _, rfl⟩, rfl⟩ rfl rfl ?_
    obtain ⟨hi, h⟩ := h
    refine w_iald (q := 327) (v := (m.1 73 (m.1 70 11).toNatClampNeg)) hm21 ⟨⟨_, _, rfl⟩, rfl⟩ rfl hi rfl rfl ?_
    refine w_bipush (q := 329) hm21 ⟨⟨_, _, rfl⟩, rfl⟩ bipush_23 ?_
    refine w_isub (q := 330) hm21 ⟨⟨_, _, rfl⟩, rfl⟩ ?_
    refine w_istore_n (q := 331) (l' := [oR 70, oI ((m.1 73 (m.1 70 11).toNatClampNeg) - (23 : Int32))]) hm21 ⟨⟨_, _, rfl⟩, rfl⟩ rfl rfl rfl ?_
    refine w_iload_n (q := 332) hm21 ⟨⟨_, _, rfl⟩, rfl⟩ rfl ?_
    refine w_if_lt (q := 335) (X := ((m.1 73 (m.1 70 11).toNatClampNeg) - (23 : Int32)).toInt) hm21 ⟨⟨_, _, rfl⟩, rfl⟩ rfl (fun hc => ?_) (fun hc => ?_)
    · have h := h.1 hc
      exact h
    · have h := h.2 hc
      refine w_aload_n (q := 336) hm21 ⟨⟨_, _, rfl⟩, rfl⟩ rfl ?_
      refine w_getr (q := 339) hm21 ⟨⟨_, _, rfl⟩, rfl⟩ rfl ?_
      refine w_aload_n (q := 340) hm21 ⟨⟨_, _, rfl⟩, rfl⟩ rfl ?_
      refine w_getf (q := 343) (v := (m.1 70 11)) hm21 ⟨⟨_, _, rfl⟩, rfl⟩ rfl rfl ?_
      obtain ⟨hi, h⟩ := h
      refine w_iald (q := 344) (v := (m.1 73 (m.1 70 11).toNatClampNeg)) hm21 ⟨⟨_, _, rfl⟩, rfl⟩ rfl hi rfl rfl ?_
      refine w_bipush (q := 346) hm21 ⟨⟨_, _, rfl⟩, rfl⟩ bipush_26 ?_
      refine w_icmp_le (q := 349) (X := (m.1 73 (m.1 70 11).toNatClampNeg).toInt) (Y := 26) hm21 ⟨⟨_, _, rfl⟩, rfl⟩ rfl (by decide) (fun hc => ?_) (fun hc => ?_)
      · have h := h.1 hc
        exact h
      · have h := h.2 hc
        exact h
theorem v_X12_tellOne_70_349 {d : Nat} {x1 : Int32} {m : dM} {Q : dM → Prop} (h : c_X12_fail_70 d (1 : Int32) m (fun m1 => j_X12_tellOne_70_354 (d + 1) x1 m1 Q)) : j_X12_tellOne_70_349 (d + 1) x1 m Q := by
  refine w_aload_n (q := 350) hm21 ⟨⟨_, _, rfl⟩, rfl⟩ rfl ?_
  refine w_iconst (q := 351) hm21 ⟨⟨_, _, rfl⟩, rfl⟩ iconst_1 ?_
  refine w_call (q := 354) (n := 0) (vs := [.inr (.inr (some 70)), .inl (1 : Int32)]) (rest := []) (la := [oR 70, oI (1 : Int32)]) hm21 ⟨⟨_, _, rfl⟩, rfl⟩ rfl rfl rfl rfl hm13 rfl rfl (fun _ => ⟨_, _, rfl, rfl⟩) rfl (Wp.mono h ?_)
  rintro _ m1 ⟨rfl, h⟩
  change Wp _ _ 354 _ [] _ _
  exact h
theorem v_X12_tellOne_70_354 {d : Nat} {x1 : Int32} {m : dM} {Q : dM → Prop} (h : (((m.1 70 13).toInt ≤ 0 → c_X12_goesOn_70 d m (fun m1 => c_X12_tellLaw_70 d x1 m1 (fun m2 => j_X12_tellOne_70_371 (d + 1) m2 Q))) ∧ (0 < (m.1 70 13).toInt → Q m))) : j_X12_tellOne_70_354 (d + 1) x1 m Q := by
  refine w_aload_n (q := 355) hm21 ⟨⟨_, _, rfl⟩, rfl⟩ rfl ?_
  refine w_getf (q := 358) (v := (m.1 70 13)) hm21 ⟨⟨_, _, rfl⟩, rfl⟩ rfl rfl ?_
  refine w_if_le (q := 361) (X := (m.1 70 13).toInt) hm21 ⟨⟨_, _, rfl⟩, rfl⟩ rfl (fun hc => ?_) (fun hc => ?_)
  · have h := h.1 hc
    refine w_aload_n (q := 363) hm21 ⟨⟨_, _, rfl⟩, rfl⟩ rfl ?_
    refine w_call (q := 366) (n := 0) (vs := [.inr (.inr (some 70))]) (rest := []) (la := [oR 70]) hm21 ⟨⟨_, _, rfl⟩, rfl⟩ rfl rfl rfl rfl hm15 rfl rfl (fun _ => ⟨_, _, rfl, rfl⟩) rfl (Wp.mono h ?_)
    rintro _ m1 ⟨rfl, h⟩
    change Wp _ _ 366 _ [] _ _
    refine w_aload_n (q := 367) hm21 ⟨⟨_, _, rfl⟩, rfl⟩ rfl ?_
    refine w_iload_n (q := 368) hm21 ⟨⟨_, _, rfl⟩, rfl⟩ rfl ?_
    refine w_call (q := 371) (n := 2) (vs := [.inr (.inr (some 70)), .inl x1]) (rest := []) (la := [oR 70, oI x1, none, none]) hm21 ⟨⟨_, _, rfl⟩, rfl⟩ rfl rfl rfl rfl hm29 rfl rfl (fun _ => ⟨_, _, rfl, rfl⟩) rfl (Wp.mono h ?_)
    rintro _ m2 ⟨rfl, h⟩
    change Wp _ _ 371 _ [] _ _
    exact Wp.wk [false, false] h
  · have h := h.2 hc
    exact w_retv hm21 ⟨⟨_, _, rfl⟩, rfl⟩ rfl h
theorem v_X12_tellOne_70_371 {d : Nat} {m : dM} {Q : dM → Prop} (h : Q m) : j_X12_tellOne_70_371 (d + 1) m Q := by
  exact w_retv hm21 ⟨⟨_, _, rfl⟩, rfl⟩ rfl h
end
section
theorem v_X12_begins_70 {d : Nat} {m : dM} {Q : dM → Prop} (h : j_X12_begins_70_2 (d + 1) (0 : Int32) m Q) : c_X12_begins_70 (d + 1) m Q := by
  refine w_iconst (q := 1) hm42 ⟨⟨_, _, rfl⟩, rfl⟩ iconst_0 ?_
  refine w_istore_n (q := 2) (l' := [oR 70, oI (0 : Int32)]) hm42 ⟨⟨_, _, rfl⟩, rfl⟩ rfl rfl rfl ?_
  exact h
theorem v_X12_begins_70_2 {d : Nat} {x1 : Int32} {m : dM} {Q : dM → Prop} (h : ((58 ≤ x1.toInt → j_X12_begins_70_23 (d + 1) (0 : Int32) m Q) ∧ (x1.toInt < 58 → ((0 ≤ x1.toInt ∧ x1.toInt < 58) ∧ j_X12_begins_70_2 (d + 1) (x1 + (1 : Int32)) (dSet m 108 x1.toNatClampNeg (0 : Int32)) Q)))) : j_X12_begins_70_2 (d + 1) x1 m Q := by
  refine w_iload_n (q := 3) hm42 ⟨⟨_, _, rfl⟩, rfl⟩ rfl ?_
  refine w_bipush (q := 5) hm42 ⟨⟨_, _, rfl⟩, rfl⟩ bipush_58 ?_
  refine w_icmp_ge (q := 8) (X := x1.toInt) (Y := 58) hm42 ⟨⟨_, _, rfl⟩, rfl⟩ rfl (by decide) (fun hc => ?_) (fun hc => ?_)
  · have h := h.1 hc
    refine w_iconst (q := 22) hm42 ⟨⟨_, _, rfl⟩, rfl⟩ iconst_0 ?_
    refine w_istore_n (q := 23) (l' := [oR 70, oI (0 : Int32)]) hm42 ⟨⟨_, _, rfl⟩, rfl⟩ rfl rfl rfl ?_
    exact h
  · have h := h.2 hc
    refine w_aload_n (q := 9) hm42 ⟨⟨_, _, rfl⟩, rfl⟩ rfl ?_
    refine w_getr (q := 12) hm42 ⟨⟨_, _, rfl⟩, rfl⟩ rfl ?_
    refine w_iload_n (q := 13) hm42 ⟨⟨_, _, rfl⟩, rfl⟩ rfl ?_
    refine w_iconst (q := 14) hm42 ⟨⟨_, _, rfl⟩, rfl⟩ iconst_0 ?_
    obtain ⟨hi, h⟩ := h
    refine w_iast (q := 15) hm42 ⟨⟨_, _, rfl⟩, rfl⟩ rfl hi rfl rfl ?_
    refine w_iinc (q := 18) (l' := [oR 70, oI (x1 + (1 : Int32))]) hm42 ⟨⟨_, _, rfl⟩, rfl⟩ rfl rfl rfl iconst_1 rfl ?_
    refine w_goto (q := 2) hm42 ⟨_, _, rfl⟩ ?_
    exact h
theorem v_X12_begins_70_23 {d : Nat} {x1 : Int32} {m : dM} {Q : dM → Prop} (h : ((0 ≤ (m.1 70 18).toInt ∧ (m.1 70 18).toInt < 2) ∧ (((m.1 82 (m.1 70 18).toNatClampNeg).toInt ≤ x1.toInt → j_X12_begins_70_64 (d + 1) (0 : Int32) m Q) ∧ (x1.toInt < (m.1 82 (m.1 70 18).toNatClampNeg).toInt → ((0 ≤ (((10 : Int32) * (m.1 70 18)) + x1).toInt ∧ (((10 : Int32) * (m.1 70 18)) + x1).toInt < 20) ∧ ((0 ≤ x1.toInt ∧ x1.toInt < 58) ∧ j_X12_begins_70_23 (d + 1) (x1 + (1 : Int32)) (dSet m 108 x1.toNatClampNeg (m.1 85 (((10 : Int32) * (m.1 70 18)) + x1).toNatClampNeg)) Q)))))) : j_X12_begins_70_23 (d + 1) x1 m Q := by
  refine w_iload_n (q := 24) hm42 ⟨⟨_, _, rfl⟩, rfl⟩ rfl ?_
  refine w_aload_n (q := 25) hm42 ⟨⟨_, _, rfl⟩, rfl⟩ rfl ?_
  refine w_getr (q := 28) hm42 ⟨⟨_, _, rfl⟩, rfl⟩ rfl ?_
  refine w_aload_n (q := 29) hm42 ⟨⟨_, _, rfl⟩, rfl⟩ rfl ?_
  refine w_getf (q := 32) (v := (m.1 70 18)) hm42 ⟨⟨_, _, rfl⟩, rfl⟩ rfl rfl ?_
  obtain ⟨hi, h⟩ := h
  refine w_iald (q := 33) (v := (m.1 82 (m.1 70 18).toNatClampNeg)) hm42 ⟨⟨_, _, rfl⟩, rfl⟩ rfl hi rfl rfl ?_
  refine w_icmp_ge (q := 36) (X := x1.toInt) (Y := (m.1 82 (m.1 70 18).toNatClampNeg).toInt) hm42 ⟨⟨_, _, rfl⟩, rfl⟩ rfl rfl (fun hc => ?_) (fun hc => ?_)
  · have h := h.1 hc
    refine w_iconst (q := 63) hm42 ⟨⟨_, _, rfl⟩, rfl⟩ iconst_0 ?_
    refine w_istore_n (q := 64) (l' := [oR 70, oI (0 : Int32)]) hm42 ⟨⟨_, _, rfl⟩, rfl⟩ rfl rfl rfl ?_
    exact h
  · have h := h.2 hc
    refine w_aload_n (q := 37) hm42 ⟨⟨_, _, rfl⟩, rfl⟩ rfl ?_
    refine w_getr (q := 40) hm42 ⟨⟨_, _, rfl⟩, rfl⟩ rfl ?_
    refine w_iload_n (q := 41) hm42 ⟨⟨_, _, rfl⟩, rfl⟩ rfl ?_
    refine w_aload_n (q := 42) hm42 ⟨⟨_, _, rfl⟩, rfl⟩ rfl ?_
    refine w_getr (q := 45) hm42 ⟨⟨_, _, rfl⟩, rfl⟩ rfl ?_
    refine w_bipush (q := 47) hm42 ⟨⟨_, _, rfl⟩, rfl⟩ bipush_10 ?_
    refine w_aload_n (q := 48) hm42 ⟨⟨_, _, rfl⟩, rfl⟩ rfl ?_
    refine w_getf (q := 51) (v := (m.1 70 18)) hm42 ⟨⟨_, _, rfl⟩, rfl⟩ rfl rfl ?_
    refine w_imul (q := 52) hm42 ⟨⟨_, _, rfl⟩, rfl⟩ ?_
    refine w_iload_n (q := 53) hm42 ⟨⟨_, _, rfl⟩, rfl⟩ rfl ?_
    refine w_iadd (q := 54) hm42 ⟨⟨_, _, rfl⟩, rfl⟩ ?_
    obtain ⟨hi, h⟩ := h
    refine w_iald (q := 55) (v := (m.1 85 (((10 : Int32) * (m.1 70 18)) + x1).toNatClampNeg)) hm42 ⟨⟨_, _, rfl⟩, rfl⟩ rfl hi rfl rfl ?_
    obtain ⟨hi, h⟩ := h
    refine w_iast (q := 56) hm42 ⟨⟨_, _, rfl⟩, rfl⟩ rfl hi rfl rfl ?_
    refine w_iinc (q := 59) (l' := [oR 70, oI (x1 + (1 : Int32))]) hm42 ⟨⟨_, _, rfl⟩, rfl⟩ rfl rfl rfl iconst_1 rfl ?_
    refine w_goto (q := 23) hm42 ⟨_, _, rfl⟩ ?_
    exact h
theorem v_X12_begins_70_64 {d : Nat} {x1 : Int32} {m : dM} {Q : dM → Prop} (h : ((0 ≤ (m.1 70 18).toInt ∧ (m.1 70 18).toInt < 2) ∧ (((m.1 86 (m.1 70 18).toNatClampNeg).toInt ≤ x1.toInt → ((0 ≤ (m.1 70 18).toInt ∧ (m.1 70 18).toInt < 2) ∧ ((0 ≤ (m.1 70 18).toInt ∧ (m.1 70 18).toInt < 2) ∧ Q (dSet (dSet (dSet m 108 56 (m.1 93 (m.1 70 18).toNatClampNeg)) 70 56 (m.1 94 (m.1 70 18).toNatClampNeg)) 70 57 (0 : Int32))))) ∧ (x1.toInt < (m.1 86 (m.1 70 18).toNatClampNeg).toInt → ((0 ≤ ((47 : Int32) + x1).toInt ∧ ((47 : Int32) + x1).toInt < 58) ∧ j_X12_begins_70_64 (d + 1) (x1 + (1 : Int32)) (dSet m 108 ((47 : Int32) + x1).toNatClampNeg (1 : Int32)) Q))))) : j_X12_begins_70_64 (d + 1) x1 m Q := by
  refine w_iload_n (q := 65) hm42 ⟨⟨_, _, rfl⟩, rfl⟩ rfl ?_
  refine w_aload_n (q := 66) hm42 ⟨⟨_, _, rfl⟩, rfl⟩ rfl ?_
  refine w_getr (q := 69) hm42 ⟨⟨_, _, rfl⟩, rfl⟩ rfl ?_
  refine w_aload_n (q := 70) hm42 ⟨⟨_, _, rfl⟩, rfl⟩ rfl ?_
  refine w_getf (q := 73) (v := (m.1 70 18)) hm42 ⟨⟨_, _, rfl⟩, rfl⟩ rfl rfl ?_
  obtain ⟨hi, h⟩ := h
  refine w_iald (q := 74) (v := (m.1 86 (m.1 70 18).toNatClampNeg)) hm42 ⟨⟨_, _, rfl⟩, rfl⟩ rfl hi rfl rfl ?_
  refine w_icmp_ge (q := 77) (X := x1.toInt) (Y := (m.1 86 (m.1 70 18).toNatClampNeg).toInt) hm42 ⟨⟨_, _, rfl⟩, rfl⟩ rfl rfl (fun hc => ?_) (fun hc => ?_)
  · have h := h.1 hc
    refine w_aload_n (q := 94) hm42 ⟨⟨_, _, rfl⟩, rfl⟩ rfl ?_
    refine w_getr (q := 97) hm42 ⟨⟨_, _, rfl⟩, rfl⟩ rfl ?_
    refine w_bipush (q := 99) hm42 ⟨⟨_, _, rfl⟩, rfl⟩ bipush_56 ?_
    refine w_aload_n (q := 100) hm42 ⟨⟨_, _, rfl⟩, rfl⟩ rfl ?_
    refine w_getr (q := 103) hm42 ⟨⟨_, _, rfl⟩, rfl⟩ rfl ?_
    refine w_aload_n (q := 104) hm42 ⟨⟨_, _, rfl⟩, rfl⟩ rfl ?_
    refine w_getf (q := 107) (v := (m.1 70 18)) hm42 ⟨⟨_, _, rfl⟩, rfl⟩ rfl rfl ?_
    obtain ⟨hi, h⟩ := h
    refine w_iald (q := 108) (v := (m.1 93 (m.1 70 18).toNatClampNeg)) hm42 ⟨⟨_, _, rfl⟩, rfl⟩ rfl hi rfl rfl ?_
    refine w_iast (q := 109) (j := 56) hm42 ⟨⟨_, _, rfl⟩, rfl⟩ rfl (by decide) (by decide) rfl ?_
    refine w_aload_n (q := 110) hm42 ⟨⟨_, _, rfl⟩, rfl⟩ rfl ?_
    refine w_aload_n (q := 111) hm42 ⟨⟨_, _, rfl⟩, rfl⟩ rfl ?_
    refine w_getr (q := 114) hm42 ⟨⟨_, _, rfl⟩, rfl⟩ rfl ?_
    refine w_aload_n (q := 115) hm42 ⟨⟨_, _, rfl⟩, rfl⟩ rfl ?_
    refine w_getf (q := 118) (v := (m.1 70 18)) hm42 ⟨⟨_, _, rfl⟩, rfl⟩ rfl rfl ?_
    obtain ⟨hi, h⟩ := h
    refine w_iald (q := 119) (v := (m.1 94 (m.1 70 18).toNatClampNeg)) hm42 ⟨⟨_, _, rfl⟩, rfl⟩ rfl hi rfl rfl ?_
    refine w_putf (q := 122) hm42 ⟨⟨_, _, rfl⟩, rfl⟩ rfl rfl rfl ?_
    refine w_aload_n (q := 123) hm42 ⟨⟨_, _, rfl⟩, rfl⟩ rfl ?_
    refine w_iconst (q := 124) hm42 ⟨⟨_, _, rfl⟩, rfl⟩ iconst_0 ?_
    refine w_putz (q := 127) hm42 ⟨⟨_, _, rfl⟩, rfl⟩ rfl rfl (by decide) rfl ?_
    exact w_retv hm42 ⟨⟨_, _, rfl⟩, rfl⟩ rfl h
  · have h := h.2 hc
    refine w_aload_n (q := 78) hm42 ⟨⟨_, _, rfl⟩, rfl⟩ rfl ?_
    refine w_getr (q := 81) hm42 ⟨⟨_, _, rfl⟩, rfl⟩ rfl ?_
    refine w_bipush (q := 83) hm42 ⟨⟨_, _, rfl⟩, rfl⟩ bipush_47 ?_
    refine w_iload_n (q := 84) hm42 ⟨⟨_, _, rfl⟩, rfl⟩ rfl ?_
    refine w_iadd (q := 85) hm42 ⟨⟨_, _, rfl⟩, rfl⟩ ?_
    refine w_iconst (q := 86) hm42 ⟨⟨_, _, rfl⟩, rfl⟩ iconst_1 ?_
    obtain ⟨hi, h⟩ := h
    refine w_iast (q := 87) hm42 ⟨⟨_, _, rfl⟩, rfl⟩ rfl hi rfl rfl ?_
    refine w_iinc (q := 90) (l' := [oR 70, oI (x1 + (1 : Int32))]) hm42 ⟨⟨_, _, rfl⟩, rfl⟩ rfl rfl rfl iconst_1 rfl ?_
    refine w_goto (q := 64) hm42 ⟨_, _, rfl⟩ ?_
    exact h
theorem v_X12_keepsRow_70 {d : Nat} {m : dM} {Q : dM → Prop} (h : j_X12_keepsRow_70_2 (d + 1) (0 : Int32) m Q) : c_X12_keepsRow_70 (d + 1) m Q := by
  refine w_iconst (q := 1) hm43 ⟨⟨_, _, rfl⟩, rfl⟩ iconst_0 ?_
  refine w_istore_n (q := 2) (l' := [oR 70, oI (0 : Int32)]) hm43 ⟨⟨_, _, rfl⟩, rfl⟩ rfl rfl rfl ?_
  exact h
theorem v_X12_keepsRow_70_2 {d : Nat} {x1 : Int32} {m : dM} {Q : dM → Prop} (h : ((58 ≤ x1.toInt → Q m) ∧ (x1.toInt < 58 → ((0 ≤ x1.toInt ∧ x1.toInt < 58) ∧ ((0 ≤ x1.toInt ∧ x1.toInt < 58) ∧ j_X12_keepsRow_70_2 (d + 1) (x1 + (1 : Int32)) (dSet m 107 x1.toNatClampNeg (m.1 108 x1.toNatClampNeg)) Q))))) : j_X12_keepsRow_70_2 (d + 1) x1 m Q := by
  refine w_iload_n (q := 3) hm43 ⟨⟨_, _, rfl⟩, rfl⟩ rfl ?_
  refine w_bipush (q := 5) hm43 ⟨⟨_, _, rfl⟩, rfl⟩ bipush_58 ?_
  refine w_icmp_ge (q := 8) (X := x1.toInt) (Y := 58) hm43 ⟨⟨_, _, rfl⟩, rfl⟩ rfl (by decide) (fun hc => ?_) (fun hc => ?_)
  · have h := h.1 hc
    exact w_retv hm43 ⟨⟨_, _, rfl⟩, rfl⟩ rfl h
  · have h := h.2 hc
    refine w_aload_n (q := 9) hm43 ⟨⟨_, _, rfl⟩, rfl⟩ rfl ?_
    refine w_getr (q := 12) hm43 ⟨⟨_, _, rfl⟩, rfl⟩ rfl ?_
    refine w_iload_n (q := 13) hm43 ⟨⟨_, _, rfl⟩, rfl⟩ rfl ?_
    refine w_aload_n (q := 14) hm43 ⟨⟨_, _, rfl⟩, rfl⟩ rfl ?_
    refine w_getr (q := 17) hm43 ⟨⟨_, _, rfl⟩, rfl⟩ rfl ?_
    refine w_iload_n (q := 18) hm43 ⟨⟨_, _, rfl⟩, rfl⟩ rfl ?_
    obtain ⟨hi, h⟩ := h
    refine w_iald (q := 19) (v := (m.1 108 x1.toNatClampNeg)) hm43 ⟨⟨_, _, rfl⟩, rfl⟩ rfl hi rfl rfl ?_
    obtain ⟨hi, h⟩ := h
    refine w_iast (q := 20) hm43 ⟨⟨_, _, rfl⟩, rfl⟩ rfl hi rfl rfl ?_
    refine w_iinc (q := 23) (l' := [oR 70, oI (x1 + (1 : Int32))]) hm43 ⟨⟨_, _, rfl⟩, rfl⟩ rfl rfl rfl iconst_1 rfl ?_
    refine w_goto (q := 2) hm43 ⟨_, _, rfl⟩ ?_
    exact h
theorem v_X12_read_70 {d : Nat} {m : dM} {Q : Int32 → dM → Prop} (h : j_X12_read_70_10 (d + 1) (0 : Int32) (dSet m 70 4 (m.1 70 2)) Q) : c_X12_read_70 (d + 1) m Q := by
  refine w_aload_n (q := 1) hm18 ⟨⟨_, _, rfl⟩, rfl⟩ rfl ?_
  refine w_aload_n (q := 2) hm18 ⟨⟨_, _, rfl⟩, rfl⟩ rfl ?_
  refine w_getf (q := 5) (v := (m.1 70 2)) hm18 ⟨⟨_, _, rfl⟩, rfl⟩ rfl rfl ?_
  refine w_putf (q := 8) hm18 ⟨⟨_, _, rfl⟩, rfl⟩ rfl rfl rfl ?_
  refine w_iconst (q := 9) hm18 ⟨⟨_, _, rfl⟩, rfl⟩ iconst_0 ?_
  refine w_istore_n (q := 10) (l' := [oR 70, oI (0 : Int32)]) hm18 ⟨⟨_, _, rfl⟩, rfl⟩ rfl rfl rfl ?_
  exact h
theorem v_X12_read_70_10 {d : Nat} {x1 : Int32} {m : dM} {Q : Int32 → dM → Prop} (h : (((m.1 70 4).toInt ≤ x1.toInt → c_X12_cutsUp_70 d (dSet m 70 2 (0 : Int32)) (fun m1 => c_X12_plain_70 d ((1 : Int32) - (m1.1 70 18)) (dSet (dSet (dSet (dSet (dSet (dSet m1 70 11 (0 : Int32)) 70 12 (0 : Int32)) 70 13 (0 : Int32)) 70 15 (0 : Int32)) 70 19 ((1 : Int32) - (m1.1 70 18))) 70 20 (0 : Int32)) (fun m2 => j_X12_read_70_112 (d + 1) (dSet (dSet m2 70 40 ((130 : Int32) * (m2.1 70 19))) 70 46 ((420 : Int32) * (m2.1 70 19))) Q))) ∧ (x1.toInt < (m.1 70 4).toInt → ((0 ≤ x1.toInt ∧ x1.toInt < 2000) ∧ ((0 ≤ x1.toInt ∧ x1.toInt < 2000) ∧ j_X12_read_70_10 (d + 1) (x1 + (1 : Int32)) (dSet m 72 x1.toNatClampNeg (m.1 71 x1.toNatClampNeg).toInt8.toInt32) Q))))) : j_X12_read_70_10 (d + 1) x1 m Q := by
  refine w_iload_n (q := 11) hm18 ⟨⟨_, _, rfl⟩, rfl⟩ rfl ?_
  refine w_aload_n (q := 12) hm18 ⟨⟨_, _, rfl⟩, rfl⟩ rfl ?_
  refine w_getf (q := 15) (v := (m.1 70 4)) hm18 ⟨⟨_, _, rfl⟩, rfl⟩ rfl rfl ?_
  refine w_icmp_ge (q := 18) (X := x1.toInt) (Y := (m.1 70 4).toInt) hm18 ⟨⟨_, _, rfl⟩, rfl⟩ rfl rfl (fun hc => ?_) (fun hc => ?_)
  · have h := h.1 hc
    refine w_aload_n (q := 37) hm18 ⟨⟨_, _, rfl⟩, rfl⟩ rfl ?_
    refine w_iconst (q := 38) hm18 ⟨⟨_, _, rfl⟩, rfl⟩ iconst_0 ?_
    refine w_putf (q := 41) hm18 ⟨⟨_, _, rfl⟩, rfl⟩ rfl rfl rfl ?_
    refine w_aload_n (q := 42) hm18 ⟨⟨_, _, rfl⟩, rfl⟩ rfl ?_
    refine w_call (q := 45) (n := 7) (vs := [.inr (.inr (some 70))]) (rest := []) (la := [oR 70, none, none, none, none, none, none, none]) hm18 ⟨⟨_, _, rfl⟩, rfl⟩ rfl rfl rfl rfl hm10 rfl rfl (fun _ => ⟨_, _, rfl, rfl⟩) rfl (Wp.mono h ?_)
    rintro _ m1 ⟨rfl, h⟩
    change Wp _ _ 45 _ [] _ _
    refine w_aload_n (q := 46) hm18 ⟨⟨_, _, rfl⟩, rfl⟩ rfl ?_
    refine w_iconst (q := 47) hm18 ⟨⟨_, _, rfl⟩, rfl⟩ iconst_0 ?_
    refine w_putf (q := 50) hm18 ⟨⟨_, _, rfl⟩, rfl⟩ rfl rfl rfl ?_
    refine w_aload_n (q := 51) hm18 ⟨⟨_, _, rfl⟩, rfl⟩ rfl ?_
    refine w_iconst (q := 52) hm18 ⟨⟨_, _, rfl⟩, rfl⟩ iconst_0 ?_
    refine w_putf (q := 55) hm18 ⟨⟨_, _, rfl⟩, rfl⟩ rfl rfl rfl ?_
    refine w_aload_n (q := 56) hm18 ⟨⟨_, _, rfl⟩, rfl⟩ rfl ?_
    refine w_iconst (q := 57) hm18 ⟨⟨_, _, rfl⟩, rfl⟩ iconst_0 ?_
    refine w_putf (q := 60) hm18 ⟨⟨_, _, rfl⟩, rfl⟩ rfl rfl rfl ?_
    refine w_aload_n (q := 61) hm18 ⟨⟨_, _, rfl⟩, rfl⟩ rfl ?_
    refine w_iconst (q := 62) hm18 ⟨⟨_, _, rfl⟩, rfl⟩ iconst_0 ?_
    refine w_putf (q := 65) hm18 ⟨⟨_, _, rfl⟩, rfl⟩ rfl rfl rfl ?_
    refine w_aload_n (q := 66) hm18 ⟨⟨_, _, rfl⟩, rfl⟩ rfl ?_
    refine w_iconst (q := 67) hm18 ⟨⟨_, _, rfl⟩, rfl⟩ iconst_1 ?_
    refine w_aload_n (q := 68) hm18 ⟨⟨_, _, rfl⟩, rfl⟩ rfl ?_
    refine w_getf (q := 71) (v := (m1.1 70 18)) hm18 ⟨⟨_, _, rfl⟩, rfl⟩ rfl rfl ?_
    refine w_isub (q := 72) hm18 ⟨⟨_, _, rfl⟩, rfl⟩ ?_
    refine w_putf (q := 75) hm18 ⟨⟨_, _, rfl⟩, rfl⟩ rfl rfl rfl ?_
    refine w_aload_n (q := 76) hm18 ⟨⟨_, _, rfl⟩, rfl⟩ rfl ?_
    refine w_iconst (q := 77) hm18 ⟨⟨_, _, rfl⟩, rfl⟩ iconst_0 ?_
    refine w_putf (q := 80) hm18 ⟨⟨_, _, rfl⟩, rfl⟩ rfl rfl rfl ?_
    refine w_aload_n (q := 81) hm18 ⟨⟨_, _, rfl⟩, rfl⟩ rfl ?_
    refine w_aload_n (q := 82) hm18 ⟨⟨_, _, rfl⟩, rfl⟩ rfl ?_
    refine w_getf (q := 85) (v := ((1 : Int32) - (m1.1 70 18))) hm18 ⟨⟨_, _, rfl⟩, rfl⟩ rfl rfl ?_
    refine w_call (q := 88) (n := 1) (vs := [.inr (.inr (some 70)), .inl ((1 : Int32) - (m1.1 70 18))]) (rest := []) (la := [oR 70, oI ((1 : Int32) - (m1.1 70 18)), none]) hm18 ⟨⟨_, _, rfl⟩, rfl⟩ rfl rfl rfl rfl hm17 rfl rfl (fun _ => ⟨_, _, rfl, rfl⟩) rfl (Wp.mono h ?_)
    rintro _ m2 ⟨rfl, h⟩
    change Wp _ _ 88 _ [] _ _
    refine w_aload_n (q := 89) hm18 ⟨⟨_, _, rfl⟩, rfl⟩ rfl ?_
    refine w_sipush (q := 92) hm18 ⟨⟨_, _, rfl⟩, rfl⟩ sipush_130 ?_
    refine w_aload_n (q := 93) hm18 ⟨⟨_, _, rfl⟩, rfl⟩ rfl ?_
    refine w_getf (q := 96) (v := (m2.1 70 19)) hm18 ⟨⟨_, _, rfl⟩, rfl⟩ rfl rfl ?_
    refine w_imul (q := 97) hm18 ⟨⟨_, _, rfl⟩, rfl⟩ ?_
    refine w_putf (q := 100) hm18 ⟨⟨_, _, rfl⟩, rfl⟩ rfl rfl rfl ?_
    refine w_aload_n (q := 101) hm18 ⟨⟨_, _, rfl⟩, rfl⟩ rfl ?_
    refine w_sipush (q := 104) hm18 ⟨⟨_, _, rfl⟩, rfl⟩ sipush_420 ?_
    refine w_aload_n (q := 105) hm18 ⟨⟨_, _, rfl⟩, rfl⟩ rfl ?_
    refine w_getf (q := 108) (v := (m2.1 70 19)) hm18 ⟨⟨_, _, rfl⟩, rfl⟩ rfl rfl ?_
    refine w_imul (q := 109) hm18 ⟨⟨_, _, rfl⟩, rfl⟩ ?_
    refine w_putf (q := 112) hm18 ⟨⟨_, _, rfl⟩, rfl⟩ rfl rfl rfl ?_
    exact Wp.wk [true, false] h
  · have h := h.2 hc
    refine w_aload_n (q := 19) hm18 ⟨⟨_, _, rfl⟩, rfl⟩ rfl ?_
    refine w_getr (q := 22) hm18 ⟨⟨_, _, rfl⟩, rfl⟩ rfl ?_
    refine w_iload_n (q := 23) hm18 ⟨⟨_, _, rfl⟩, rfl⟩ rfl ?_
    refine w_aload_n (q := 24) hm18 ⟨⟨_, _, rfl⟩, rfl⟩ rfl ?_
    refine w_getr (q := 27) hm18 ⟨⟨_, _, rfl⟩, rfl⟩ rfl ?_
    refine w_iload_n (q := 28) hm18 ⟨⟨_, _, rfl⟩, rfl⟩ rfl ?_
    obtain ⟨hi, h⟩ := h
    refine w_bald (q := 29) (v := (m.1 71 x1.toNatClampNeg)) hm18 ⟨⟨_, _, rfl⟩, rfl⟩ rfl hi rfl rfl ?_
    obtain ⟨hi, h⟩ := h
    refine w_bast (q := 30) hm18 ⟨⟨_, _, rfl⟩, rfl⟩ rfl hi rfl rfl ?_
    refine w_iinc (q := 33) (l' := [oR 70, oI (x1 + (1 : Int32))]) hm18 ⟨⟨_, _, rfl⟩, rfl⟩ rfl rfl rfl iconst_1 rfl ?_
    refine w_goto (q := 10) hm18 ⟨_, _, rfl⟩ ?_
    exact h
theorem v_X12_read_70_112 {d : Nat} {m : dM} {Q : Int32 → dM → Prop} (h : (((m.1 70 13).toInt ≠ 0 → j_X12_read_70_134 (d + 1) m Q) ∧ ((m.1 70 13).toInt = 0 → c_X12_is_70 d (0 : Int32) m (fun r1 m1 => ((r1.toInt ≠ 0 → j_X12_read_70_134 (d + 1) m1 Q) ∧ (r1.toInt = 0 → c_X12_tellOne_70 d m1 (fun m2 => j_X12_read_70_112 (d + 1) m2 Q))))))) : j_X12_read_70_112 (d + 1) m Q := by
  refine w_aload_n (q := 113) hm18 ⟨⟨_, _, rfl⟩, rfl⟩ rfl ?_
  refine w_getf (q := 116) (v := (m.1 70 13)) hm18 ⟨⟨_, _, rfl⟩, rfl⟩ rfl rfl ?_
  refine w_if_ne (q := 119) (X := (m.1 70 13).toInt) hm18 ⟨⟨_, _, rfl⟩, rfl⟩ rfl (fun hc => ?_) (fun hc => ?_)
  · have h := h.1 hc
    exact h
  · have h := h.2 hc
    refine w_aload_n (q := 120) hm18 ⟨⟨_, _, rfl⟩, rfl⟩ rfl ?_
    refine w_iconst (q := 121) hm18 ⟨⟨_, _, rfl⟩, rfl⟩ iconst_0 ?_
    refine w_call (q := 124) (n := 0) (vs := [.inr (.inr (some 70)), .inl (0 : Int32)]) (rest := []) (la := [oR 70, oI (0 : Int32)]) hm18 ⟨⟨_, _, rfl⟩, rfl⟩ rfl rfl rfl rfl hm12 rfl rfl (fun _ => ⟨_, _, rfl, rfl⟩) rfl (Wp.mono h ?_)
    rintro _ m1 ⟨r1, rfl, h⟩
    change Wp _ _ 124 _ [.inl r1] _ _
    refine w_if_ne (q := 127) (X := r1.toInt) hm18 ⟨⟨_, _, rfl⟩, rfl⟩ rfl (fun hc => ?_) (fun hc => ?_)
    · have h := h.1 hc
      exact h
    · have h := h.2 hc
      refine w_aload_n (q := 128) hm18 ⟨⟨_, _, rfl⟩, rfl⟩ rfl ?_
      refine w_call (q := 131) (n := 1) (vs := [.inr (.inr (some 70))]) (rest := []) (la := [oR 70, none]) hm18 ⟨⟨_, _, rfl⟩, rfl⟩ rfl rfl rfl rfl hm21 rfl rfl (fun _ => ⟨_, _, rfl, rfl⟩) rfl (Wp.mono h ?_)
      rintro _ m2 ⟨rfl, h⟩
      change Wp _ _ 131 _ [] _ _
      refine w_goto (q := 112) hm18 ⟨_, _, rfl⟩ ?_
      exact h
theorem v_X12_read_70_134 {d : Nat} {m : dM} {Q : Int32 → dM → Prop} (h : (((m.1 70 13).toInt ≤ 0 → (((m.1 70 15).toInt ≤ 0 → (((m.1 70 13).toInt ≤ 0 → (((m.1 70 15).toInt ≤ 0 → c_X12_begins_70 d (dSet (dSet m 70 17 (-1 : Int32)) 70 18 (m.1 70 19)) (fun m1 => c_X12_keepsRow_70 d m1 (fun m2 => j_X12_read_70_219 (d + 1) (0 : Int32) (dSet (dSet m2 70 61 (0 : Int32)) 70 63 (0 : Int32)) Q))) ∧ (0 < (m.1 70 15).toInt → Q (m.1 70 15) (dSet m 70 17 (-1 : Int32))))) ∧ (0 < (m.1 70 13).toInt → Q (m.1 70 13) (dSet m 70 17 (-1 : Int32))))) ∧ (0 < (m.1 70 15).toInt → (((m.1 70 13).toInt ≤ 0 → (((m.1 70 15).toInt ≤ 0 → c_X12_begins_70 d (dSet (dSet m 70 17 (m.1 70 16)) 70 18 (m.1 70 19)) (fun m3 => c_X12_keepsRow_70 d m3 (fun m4 => j_X12_read_70_219 (d + 1) (0 : Int32) (dSet (dSet m4 70 61 (0 : Int32)) 70 63 (0 : Int32)) Q))) ∧ (0 < (m.1 70 15).toInt → Q (m.1 70 15) (dSet m 70 17 (m.1 70 16))))) ∧ (0 < (m.1 70 13).toInt → Q (m.1 70 13) (dSet m 70 17 (m.1 70 16))))))) ∧ (0 < (m.1 70 13).toInt → (((m.1 70 13).toInt ≤ 0 → (((m.1 70 15).toInt ≤ 0 → c_X12_begins_70 d (dSet (dSet m 70 17 (m.1 70 14)) 70 18 (m.1 70 19)) (fun m5 => c_X12_keepsRow_70 d m5 (fun m6 => j_X12_read_70_219 (d + 1) (0 : Int32) (dSet (dSet m6 70 61 (0 : Int32)) 70 63 (0 : Int32)) Q))) ∧ (0 < (m.1 70 15).toInt → Q (m.1 70 15) (dSet m 70 17 (m.1 70 14))))) ∧ (0 < (m.1 70 13).toInt → Q (m.1 70 13) (dSet m 70 17 (m.1 70 14))))))) : j_X12_read_70_134 (d + 1) m Q := by
  refine w_aload_n (q := 135) hm18 ⟨⟨_, _, rfl⟩, rfl⟩ rfl ?_
  refine w_aload_n (q := 136) hm18 ⟨⟨_, _, rfl⟩, rfl⟩ rfl ?_
  refine w_getf (q := 139) (v := (m.1 70 13)) hm18 ⟨⟨_, _, rfl⟩, rfl⟩ rfl rfl ?_
  refine w_if_le (q := 142) (X := (m.1 70 13).toInt) hm18 ⟨⟨_, _, rfl⟩, rfl⟩ rfl (fun hc => ?_) (fun hc => ?_)
  · have h := h.1 hc
    refine w_aload_n (q := 150) hm18 ⟨⟨_, _, rfl⟩, rfl⟩ rfl ?_
    refine w_getf (q := 153) (v := (m.1 70 15)) hm18 ⟨⟨_, _, rfl⟩, rfl⟩ rfl rfl ?_
    refine w_if_le (q := 156) (X := (m.1 70 15).toInt) hm18 ⟨⟨_, _, rfl⟩, rfl⟩ rfl (fun hc => ?_) (fun hc => ?_)
    · have h := h.1 hc
      refine w_iconst (q := 164) hm18 ⟨⟨_, _, rfl⟩, rfl⟩ iconst_m1 ?_
      refine w_putf (q := 167) hm18 ⟨⟨_, _, rfl⟩, rfl⟩ rfl rfl rfl ?_
      refine w_aload_n (q := 168) hm18 ⟨⟨_, _, rfl⟩, rfl⟩ rfl ?_
      refine w_getf (q := 171) (v := (m.1 70 13)) hm18 ⟨⟨_, _, rfl⟩, rfl⟩ rfl rfl ?_
      refine w_if_le (q := 174) (X := (m.1 70 13).toInt) hm18 ⟨⟨_, _, rfl⟩, rfl⟩ rfl (fun hc => ?_) (fun hc => ?_)
      · have h := h.1 hc
        refine w_aload_n (q := 180) hm18 ⟨⟨_, _, rfl⟩, rfl⟩ rfl ?_
        refine w_getf (q := 183) (v := (m.1 70 15)) hm18 ⟨⟨_, _, rfl⟩, rfl⟩ rfl rfl ?_
        refine w_if_le (q := 186) (X := (m.1 70 15).toInt) hm18 ⟨⟨_, _, rfl⟩, rfl⟩ rfl (fun hc => ?_) (fun hc => ?_)
        · have h := h.1 hc
          refine w_aload_n (q := 192) hm18 ⟨⟨_, _, rfl⟩, rfl⟩ rfl ?_
          refine w_aload_n (q := 193) hm18 ⟨⟨_, _, rfl⟩, rfl⟩ rfl ?_
          refine w_getf (q := 196) (v := (m.1 70 19)) hm18 ⟨⟨_, _, rfl⟩, rfl⟩ rfl rfl ?_
          refine w_putf (q := 199) hm18 ⟨⟨_, _, rfl⟩, rfl⟩ rfl rfl rfl ?_
          refine w_aload_n (q := 200) hm18 ⟨⟨_, _, rfl⟩, rfl⟩ rfl ?_
          refine w_call (q := 203) (n := 1) (vs := [.inr (.inr (some 70))]) (rest := []) (la := [oR 70, none]) hm18 ⟨⟨_, _, rfl⟩, rfl⟩ rfl rfl rfl rfl hm42 rfl rfl (fun _ => ⟨_, _, rfl, rfl⟩) rfl (Wp.mono h ?_)
          rintro _ m1 ⟨rfl, h⟩
          change Wp _ _ 203 _ [] _ _
          refine w_aload_n (q := 204) hm18 ⟨⟨_, _, rfl⟩, rfl⟩ rfl ?_
          refine w_call (q := 207) (n := 1) (vs := [.inr (.inr (some 70))]) (rest := []) (la := [oR 70, none]) hm18 ⟨⟨_, _, rfl⟩, rfl⟩ rfl rfl rfl rfl hm43 rfl rfl (fun _ => ⟨_, _, rfl, rfl⟩) rfl (Wp.mono h ?_)
          rintro _ m2 ⟨rfl, h⟩
          change Wp _ _ 207 _ [] _ _
          refine w_aload_n (q := 208) hm18 ⟨⟨_, _, rfl⟩, rfl⟩ rfl ?_
          refine w_iconst (q := 209) hm18 ⟨⟨_, _, rfl⟩, rfl⟩ iconst_0 ?_
          refine w_putf (q := 212) hm18 ⟨⟨_, _, rfl⟩, rfl⟩ rfl rfl rfl ?_
          refine w_aload_n (q := 213) hm18 ⟨⟨_, _, rfl⟩, rfl⟩ rfl ?_
          refine w_iconst (q := 214) hm18 ⟨⟨_, _, rfl⟩, rfl⟩ iconst_0 ?_
          refine w_putf (q := 217) hm18 ⟨⟨_, _, rfl⟩, rfl⟩ rfl rfl rfl ?_
          refine w_iconst (q := 218) hm18 ⟨⟨_, _, rfl⟩, rfl⟩ iconst_0 ?_
          refine w_istore_n (q := 219) (l' := [oR 70, oI (0 : Int32)]) hm18 ⟨⟨_, _, rfl⟩, rfl⟩ rfl rfl rfl ?_
          exact h
        · have h := h.2 hc
          refine w_aload_n (q := 187) hm18 ⟨⟨_, _, rfl⟩, rfl⟩ rfl ?_
          refine w_getf (q := 190) (v := (m.1 70 15)) hm18 ⟨⟨_, _, rfl⟩, rfl⟩ rfl rfl ?_
          exact w_reti hm18 ⟨⟨_, _, rfl⟩, rfl⟩ rfl h
      · have h := h.2 hc
        refine w_aload_n (q := 175) hm18 ⟨⟨_, _, rfl⟩, rfl⟩ rfl ?_
        refine w_getf (q := 178) (v := (m.1 70 13)) hm18 ⟨⟨_, _, rfl⟩, rfl⟩ rfl rfl ?_
        exact w_reti hm18 ⟨⟨_, _, rfl⟩, rfl⟩ rfl h
    · have h := h.2 hc
      refine w_aload_n (q := 157) hm18 ⟨⟨_, _, rfl⟩, rfl⟩ rfl ?_
      refine w_getf (q := 160) (v := (m.1 70 16)) hm18 ⟨⟨_, _, rfl⟩, rfl⟩ rfl rfl ?_
      refine w_goto (q := 164) hm18 ⟨_, _, rfl⟩ ?_
      refine w_putf (q := 167) hm18 ⟨⟨_, _, rfl⟩, rfl⟩ rfl rfl rfl ?_
      refine w_aload_n (q := 168) hm18 ⟨⟨_, _, rfl⟩, rfl⟩ rfl ?_
      refine w_getf (q := 171) (v := (m.1 70 13)) hm18 ⟨⟨_, _, rfl⟩, rfl⟩ rfl rfl ?_
      refine w_if_le (q := 174) (X := (m.1 70 13).toInt) hm18 ⟨⟨_, _, rfl⟩, rfl⟩ rfl (fun hc => ?_) (fun hc => ?_)
      · have h := h.1 hc
        refine w_aload_n (q := 180) hm18 ⟨⟨_, _, rfl⟩, rfl⟩ rfl ?_
        refine w_getf (q := 183) (v := (m.1 70 15)) hm18 ⟨⟨_, _, rfl⟩, rfl⟩ rfl rfl ?_
        refine w_if_le (q := 186) (X := (m.1 70 15).toInt) hm18 ⟨⟨_, _, rfl⟩, rfl⟩ rfl (fun hc => ?_) (fun hc => ?_)
        · have h := h.1 hc
          refine w_aload_n (q := 192) hm18 ⟨⟨_, _, rfl⟩, rfl⟩ rfl ?_
          refine w_aload_n (q := 193) hm18 ⟨⟨_, _, rfl⟩, rfl⟩ rfl ?_
          refine w_getf (q := 196) (v := (m.1 70 19)) hm18 ⟨⟨_, _, rfl⟩, rfl⟩ rfl rfl ?_
          refine w_putf (q := 199) hm18 ⟨⟨_, _, rfl⟩, rfl⟩ rfl rfl rfl ?_
          refine w_aload_n (q := 200) hm18 ⟨⟨_, _, rfl⟩, rfl⟩ rfl ?_
          refine w_call (q := 203) (n := 1) (vs := [.inr (.inr (some 70))]) (rest := []) (la := [oR 70, none]) hm18 ⟨⟨_, _, rfl⟩, rfl⟩ rfl rfl rfl rfl hm42 rfl rfl (fun _ => ⟨_, _, rfl, rfl⟩) rfl (Wp.mono h ?_)
          rintro _ m3 ⟨rfl, h⟩
          change Wp _ _ 203 _ [] _ _
          refine w_aload_n (q := 204) hm18 ⟨⟨_, _, rfl⟩, rfl⟩ rfl ?_
          refine w_call (q := 207) (n := 1) (vs := [.inr (.inr (some 70))]) (rest := []) (la := [oR 70, none]) hm18 ⟨⟨_, _, rfl⟩, rfl⟩ rfl rfl rfl rfl hm43 rfl rfl (fun _ => ⟨_, _, rfl, rfl⟩) rfl (Wp.mono h ?_)
          rintro _ m4 ⟨rfl, h⟩
          change Wp _ _ 207 _ [] _ _
          refine w_aload_n (q := 208) hm18 ⟨⟨_, _, rfl⟩, rfl⟩ rfl ?_
          refine w_iconst (q := 209) hm18 ⟨⟨_, _, rfl⟩, rfl⟩ iconst_0 ?_
          refine w_putf (q := 212) hm18 ⟨⟨_, _, rfl⟩, rfl⟩ rfl rfl rfl ?_
          refine w_aload_n (q := 213) hm18 ⟨⟨_, _, rfl⟩, rfl⟩ rfl ?_
          refine w_iconst (q := 214) hm18 ⟨⟨_, _, rfl⟩, rfl⟩ iconst_0 ?_
          refine w_putf (q := 217) hm18 ⟨⟨_, _, rfl⟩, rfl⟩ rfl rfl rfl ?_
          refine w_iconst (q := 218) hm18 ⟨⟨_, _, rfl⟩, rfl⟩ iconst_0 ?_
          refine w_istore_n (q := 219) (l' := [oR 70, oI (0 : Int32)]) hm18 ⟨⟨_, _, rfl⟩, rfl⟩ rfl rfl rfl ?_
          exact h
        · have h := h.2 hc
          refine w_aload_n (q := 187) hm18 ⟨⟨_, _, rfl⟩, rfl⟩ rfl ?_
          refine w_getf (q := 190) (v := (m.1 70 15)) hm18 ⟨⟨_, _, rfl⟩, rfl⟩ rfl rfl ?_
          exact w_reti hm18 ⟨⟨_, _, rfl⟩, rfl⟩ rfl h
      · have h := h.2 hc
        refine w_aload_n (q := 175) hm18 ⟨⟨_, _, rfl⟩, rfl⟩ rfl ?_
        refine w_getf (q := 178) (v := (m.1 70 13)) hm18 ⟨⟨_, _, rfl⟩, rfl⟩ rfl rfl ?_
        exact w_reti hm18 ⟨⟨_, _, rfl⟩, rfl⟩ rfl h
  · have h := h.2 hc
    refine w_aload_n (q := 143) hm18 ⟨⟨_, _, rfl⟩, rfl⟩ rfl ?_
    refine w_getf (q := 146) (v := (m.1 70 14)) hm18 ⟨⟨_, _, rfl⟩, rfl⟩ rfl rfl ?_
    refine w_goto (q := 164) hm18 ⟨_, _, rfl⟩ ?_
    refine w_putf (q := 167) hm18 ⟨⟨_, _, rfl⟩, rfl⟩ rfl rfl rfl ?_
    refine w_aload_n (q := 168) hm18 ⟨⟨_, _, rfl⟩, rfl⟩ rfl ?_
    refine w_getf (q := 171) (v := (m.1 70 13)) hm18 ⟨⟨_, _, rfl⟩, rfl⟩ rfl rfl ?_
    refine w_if_le (q := 174) (X := (m.1 70 13).toInt) hm18 ⟨⟨_, _, rfl⟩, rfl⟩ rfl (fun hc => ?_) (fun hc => ?_)
    · have h := h.1 hc
      refine w_aload_n (q := 180) hm18 ⟨⟨_, _, rfl⟩, rfl⟩ rfl ?_
      refine w_getf (q := 183) (v := (m.1 70 15)) hm18 ⟨⟨_, _, rfl⟩, rfl⟩ rfl rfl ?_
      refine w_if_le (q := 186) (X := (m.1 70 15).toInt) hm18 ⟨⟨_, _, rfl⟩, rfl⟩ rfl (fun hc => ?_) (fun hc => ?_)
      · have h := h.1 hc
        refine w_aload_n (q := 192) hm18 ⟨⟨_, _, rfl⟩, rfl⟩ rfl ?_
        refine w_aload_n (q := 193) hm18 ⟨⟨_, _, rfl⟩, rfl⟩ rfl ?_
        refine w_getf (q := 196) (v := (m.1 70 19)) hm18 ⟨⟨_, _, rfl⟩, rfl⟩ rfl rfl ?_
        refine w_putf (q := 199) hm18 ⟨⟨_, _, rfl⟩, rfl⟩ rfl rfl rfl ?_
        refine w_aload_n (q := 200) hm18 ⟨⟨_, _, rfl⟩, rfl⟩ rfl ?_
        refine w_call (q := 203) (n := 1) (vs := [.inr (.inr (some 70))]) (rest := []) (la := [oR 70, none]) hm18 ⟨⟨_, _, rfl⟩, rfl⟩ rfl rfl rfl rfl hm42 rfl rfl (fun _ => ⟨_, _, rfl, rfl⟩) rfl (Wp.mono h ?_)
        rintro _ m5 ⟨rfl, h⟩
        change Wp _ _ 203 _ [] _ _
        refine w_aload_n (q := 204) hm18 ⟨⟨_, _, rfl⟩, rfl⟩ rfl ?_
        refine w_call (q := 207) (n := 1) (vs := [.inr (.inr (some 70))]) (rest := []) (la := [oR 70, none]) hm18 ⟨⟨_, _, rfl⟩, rfl⟩ rfl rfl rfl rfl hm43 rfl rfl (fun _ => ⟨_, _, rfl, rfl⟩) rfl (Wp.mono h ?_)
        rintro _ m6 ⟨rfl, h⟩
        change Wp _ _ 207 _ [] _ _
        refine w_aload_n (q := 208) hm18 ⟨⟨_, _, rfl⟩, rfl⟩ rfl ?_
        refine w_iconst (q := 209) hm18 ⟨⟨_, _, rfl⟩, rfl⟩ iconst_0 ?_
        refine w_putf (q := 212) hm18 ⟨⟨_, _, rfl⟩, rfl⟩ rfl rfl rfl ?_
        refine w_aload_n (q := 213) hm18 ⟨⟨_, _, rfl⟩, rfl⟩ rfl ?_
        refine w_iconst (q := 214) hm18 ⟨⟨_, _, rfl⟩, rfl⟩ iconst_0 ?_
        refine w_putf (q := 217) hm18 ⟨⟨_, _, rfl⟩, rfl⟩ rfl rfl rfl ?_
        refine w_iconst (q := 218) hm18 ⟨⟨_, _, rfl⟩, rfl⟩ iconst_0 ?_
        refine w_istore_n (q := 219) (l' := [oR 70, oI (0 : Int32)]) hm18 ⟨⟨_, _, rfl⟩, rfl⟩ rfl rfl rfl ?_
        exact h
      · have h := h.2 hc
        refine w_aload_n (q := 187) hm18 ⟨⟨_, _, rfl⟩, rfl⟩ rfl ?_
        refine w_getf (q := 190) (v := (m.1 70 15)) hm18 ⟨⟨_, _, rfl⟩, rfl⟩ rfl rfl ?_
        exact w_reti hm18 ⟨⟨_, _, rfl⟩, rfl⟩ rfl h
    · have h := h.2 hc
      refine w_aload_n (q := 175) hm18 ⟨⟨_, _, rfl⟩, rfl⟩ rfl ?_
      refine w_getf (q := 178) (v := (m.1 70 13)) hm18 ⟨⟨_, _, rfl⟩, rfl⟩ rfl rfl ?_
      exact w_reti hm18 ⟨⟨_, _, rfl⟩, rfl⟩ rfl h
theorem v_X12_read_70_219 {d : Nat} {x1 : Int32} {m : dM} {Q : Int32 → dM → Prop} (h : ((3 ≤ x1.toInt → Q (0 : Int32) m) ∧ (x1.toInt < 3 → ((0 ≤ x1.toInt ∧ x1.toInt < 3) ∧ j_X12_read_70_219 (d + 1) (x1 + (1 : Int32)) (dSet m 115 x1.toNatClampNeg (0 : Int32)) Q)))) : j_X12_read_70_219 (d + 1) x1 m Q := by
  refine w_iload_n (q := 220) hm18 ⟨⟨_, _, rfl⟩, rfl⟩ rfl ?_
  refine w_iconst (q := 221) hm18 ⟨⟨_, _, rfl⟩, rfl⟩ iconst_3 ?_
  refine w_icmp_ge (q := 224) (X := x1.toInt) (Y := 3) hm18 ⟨⟨_, _, rfl⟩, rfl⟩ rfl (by decide) (fun hc => ?_) (fun hc => ?_)
  · have h := h.1 hc
    refine w_iconst (q := 238) hm18 ⟨⟨_, _, rfl⟩, rfl⟩ iconst_0 ?_
    exact w_reti hm18 ⟨⟨_, _, rfl⟩, rfl⟩ rfl h
  · have h := h.2 hc
    refine w_aload_n (q := 225) hm18 ⟨⟨_, _, rfl⟩, rfl⟩ rfl ?_
    refine w_getr (q := 228) hm18 ⟨⟨_, _, rfl⟩, rfl⟩ rfl ?_
    refine w_iload_n (q := 229) hm18 ⟨⟨_, _, rfl⟩, rfl⟩ rfl ?_
    refine w_iconst (q := 230) hm18 ⟨⟨_, _, rfl⟩, rfl⟩ iconst_0 ?_
    obtain ⟨hi, h⟩ := h
    refine w_zast (q := 231) hm18 ⟨⟨_, _, rfl⟩, rfl⟩ rfl (by decide) hi rfl rfl ?_
    refine w_iinc (q := 234) (l' := [oR 70, oI (x1 + (1 : Int32))]) hm18 ⟨⟨_, _, rfl⟩, rfl⟩ rfl rfl rfl iconst_1 rfl ?_
    refine w_goto (q := 219) hm18 ⟨_, _, rfl⟩ ?_
    exact h
theorem v_X11_place_0 {d : Nat} {m : dM} {Q : Int32 → dM → Prop} (h : Q (m.1 0 2) m) : c_X11_place_0 (d + 1) m Q := by
  refine w_aload_n (q := 1) hm247 ⟨⟨_, _, rfl⟩, rfl⟩ rfl ?_
  refine w_getf (q := 4) (v := (m.1 0 2)) hm247 ⟨⟨_, _, rfl⟩, rfl⟩ rfl rfl ?_
  exact w_reti hm247 ⟨⟨_, _, rfl⟩, rfl⟩ rfl h
theorem v_X12_place_70 {d : Nat} {m : dM} {Q : Int32 → dM → Prop} (h : Q (m.1 70 17) m) : c_X12_place_70 (d + 1) m Q := by
  refine w_aload_n (q := 1) hm19 ⟨⟨_, _, rfl⟩, rfl⟩ rfl ?_
  refine w_getf (q := 4) (v := (m.1 70 17)) hm19 ⟨⟨_, _, rfl⟩, rfl⟩ rfl rfl ?_
  exact w_reti hm19 ⟨⟨_, _, rfl⟩, rfl⟩ rfl h
theorem v_X11_isFlat_0 {d : Nat} {x1 : Int32} {m : dM} {Q : Int32 → dM → Prop} (h : ((x1.toInt < 0 → j_X11_isFlat_0_19 (d + 1) m Q) ∧ (0 ≤ x1.toInt → (((m.1 2 0).toInt ≤ x1.toInt → j_X11_isFlat_0_19 (d + 1) m Q) ∧ (x1.toInt < (m.1 2 0).toInt → Q (1 : Int32) m))))) : c_X11_isFlat_0 (d + 1) x1 m Q := by
  refine w_iload_n (q := 1) hm248 ⟨⟨_, _, rfl⟩, rfl⟩ rfl ?_
  refine w_if_lt (q := 4) (X := x1.toInt) hm248 ⟨⟨_, _, rfl⟩, rfl⟩ rfl (fun hc => ?_) (fun hc => ?_)
  · have h := h.1 hc
    exact Wp.wk [false, false] h
  · have h := h.2 hc
    refine w_iload_n (q := 5) hm248 ⟨⟨_, _, rfl⟩, rfl⟩ rfl ?_
    refine w_aload_n (q := 6) hm248 ⟨⟨_, _, rfl⟩, rfl⟩ rfl ?_
    refine w_getr (q := 9) hm248 ⟨⟨_, _, rfl⟩, rfl⟩ rfl ?_
    refine w_getf (q := 12) (v := (m.1 2 0)) hm248 ⟨⟨_, _, rfl⟩, rfl⟩ rfl rfl ?_
    refine w_icmp_ge (q := 15) (X := x1.toInt) (Y := (m.1 2 0).toInt) hm248 ⟨⟨_, _, rfl⟩, rfl⟩ rfl rfl (fun hc => ?_) (fun hc => ?_)
    · have h := h.1 hc
      exact Wp.wk [false, false] h
    · have h := h.2 hc
      refine w_iconst (q := 16) hm248 ⟨⟨_, _, rfl⟩, rfl⟩ iconst_1 ?_
      refine w_goto (q := 20) hm248 ⟨_, _, rfl⟩ ?_
      exact w_retz hm248 ⟨⟨_, _, rfl⟩, rfl⟩ rfl (by decide) h
theorem v_X11_isFlat_0_19 {d : Nat} {m : dM} {Q : Int32 → dM → Prop} (h : Q (0 : Int32) m) : j_X11_isFlat_0_19 (d + 1) m Q := by
  refine w_iconst (q := 20) hm248 ⟨⟨_, _, rfl⟩, rfl⟩ iconst_0 ?_
  exact w_retz hm248 ⟨⟨_, _, rfl⟩, rfl⟩ rfl (by decide) h
theorem v_J7_fill_59 {d : Nat} {x1 : Int32} {m : dM} {Q : dM → Prop} (h : j_J7_fill_59_5 (d + 1) x1 (0 : Int32) (7 : Int32) m Q) : c_J7_fill_59 (d + 1) x1 m Q := by
  refine w_iconst (q := 1) hm286 ⟨⟨_, _, rfl⟩, rfl⟩ iconst_0 ?_
  refine w_istore_n (q := 2) (l' := [oR 59, oI x1, oI (0 : Int32), none]) hm286 ⟨⟨_, _, rfl⟩, rfl⟩ rfl rfl rfl ?_
  refine w_aload_n (q := 3) hm286 ⟨⟨_, _, rfl⟩, rfl⟩ rfl ?_
  refine w_alen (q := 4) hm286 ⟨⟨_, _, rfl⟩, rfl⟩ rfl alen_7 ?_
  refine w_istore_n (q := 5) (l' := [oR 59, oI x1, oI (0 : Int32), oI (7 : Int32)]) hm286 ⟨⟨_, _, rfl⟩, rfl⟩ rfl rfl rfl ?_
  exact h
theorem v_J7_fill_59_5 {d : Nat} {x1 : Int32} {x2 : Int32} {x3 : Int32} {m : dM} {Q : dM → Prop} (h : ((x3.toInt ≤ x2.toInt → Q m) ∧ (x2.toInt < x3.toInt → ((0 ≤ x2.toInt ∧ x2.toInt < 7) ∧ j_J7_fill_59_5 (d + 1) x1 (x2 + (1 : Int32)) x3 (dSet m 59 x2.toNatClampNeg x1) Q)))) : j_J7_fill_59_5 (d + 1) x1 x2 x3 m Q := by
  refine w_iload_n (q := 6) hm286 ⟨⟨_, _, rfl⟩, rfl⟩ rfl ?_
  refine w_iload_n (q := 7) hm286 ⟨⟨_, _, rfl⟩, rfl⟩ rfl ?_
  refine w_icmp_ge (q := 10) (X := x2.toInt) (Y := x3.toInt) hm286 ⟨⟨_, _, rfl⟩, rfl⟩ rfl rfl (fun hc => ?_) (fun hc => ?_)
  · have h := h.1 hc
    exact w_retv hm286 ⟨⟨_, _, rfl⟩, rfl⟩ rfl h
  · have h := h.2 hc
    refine w_aload_n (q := 11) hm286 ⟨⟨_, _, rfl⟩, rfl⟩ rfl ?_
    refine w_iload_n (q := 12) hm286 ⟨⟨_, _, rfl⟩, rfl⟩ rfl ?_
    refine w_iload_n (q := 13) hm286 ⟨⟨_, _, rfl⟩, rfl⟩ rfl ?_
    obtain ⟨hi, h⟩ := h
    refine w_iast (q := 14) hm286 ⟨⟨_, _, rfl⟩, rfl⟩ rfl hi rfl rfl ?_
    refine w_iinc (q := 17) (l' := [oR 59, oI x1, oI (x2 + (1 : Int32)), oI x3]) hm286 ⟨⟨_, _, rfl⟩, rfl⟩ rfl rfl rfl iconst_1 rfl ?_
    refine w_goto (q := 5) hm286 ⟨_, _, rfl⟩ ?_
    exact h
theorem v_J7_fill_60 {d : Nat} {x1 : Int32} {m : dM} {Q : dM → Prop} (h : j_J7_fill_60_5 (d + 1) x1 (0 : Int32) (7 : Int32) m Q) : c_J7_fill_60 (d + 1) x1 m Q := by
  refine w_iconst (q := 1) hm286 ⟨⟨_, _, rfl⟩, rfl⟩ iconst_0 ?_
  refine w_istore_n (q := 2) (l' := [oR 60, oI x1, oI (0 : Int32), none]) hm286 ⟨⟨_, _, rfl⟩, rfl⟩ rfl rfl rfl ?_
  refine w_aload_n (q := 3) hm286 ⟨⟨_, _, rfl⟩, rfl⟩ rfl ?_
  refine w_alen (q := 4) hm286 ⟨⟨_, _, rfl⟩, rfl⟩ rfl alen_7 ?_
  refine w_istore_n (q := 5) (l' := [oR 60, oI x1, oI (0 : Int32), oI (7 : Int32)]) hm286 ⟨⟨_, _, rfl⟩, rfl⟩ rfl rfl rfl ?_
  exact h
theorem v_J7_fill_60_5 {d : Nat} {x1 : Int32} {x2 : Int32} {x3 : Int32} {m : dM} {Q : dM → Prop} (h : ((x3.toInt ≤ x2.toInt → Q m) ∧ (x2.toInt < x3.toInt → ((0 ≤ x2.toInt ∧ x2.toInt < 7) ∧ j_J7_fill_60_5 (d + 1) x1 (x2 + (1 : Int32)) x3 (dSet m 60 x2.toNatClampNeg x1) Q)))) : j_J7_fill_60_5 (d + 1) x1 x2 x3 m Q := by
  refine w_iload_n (q := 6) hm286 ⟨⟨_, _, rfl⟩, rfl⟩ rfl ?_
  refine w_iload_n (q := 7) hm286 ⟨⟨_, _, rfl⟩, rfl⟩ rfl ?_
  refine w_icmp_ge (q := 10) (X := x2.toInt) (Y := x3.toInt) hm286 ⟨⟨_, _, rfl⟩, rfl⟩ rfl rfl (fun hc => ?_) (fun hc => ?_)
  · have h := h.1 hc
    exact w_retv hm286 ⟨⟨_, _, rfl⟩, rfl⟩ rfl h
  · have h := h.2 hc
    refine w_aload_n (q := 11) hm286 ⟨⟨_, _, rfl⟩, rfl⟩ rfl ?_
    refine w_iload_n (q := 12) hm286 ⟨⟨_, _, rfl⟩, rfl⟩ rfl ?_
    refine w_iload_n (q := 13) hm286 ⟨⟨_, _, rfl⟩, rfl⟩ rfl ?_
    obtain ⟨hi, h⟩ := h
    refine w_iast (q := 14) hm286 ⟨⟨_, _, rfl⟩, rfl⟩ rfl hi rfl rfl ?_
    refine w_iinc (q := 17) (l' := [oR 60, oI x1, oI (x2 + (1 : Int32)), oI x3]) hm286 ⟨⟨_, _, rfl⟩, rfl⟩ rfl rfl rfl iconst_1 rfl ?_
    refine w_goto (q := 5) hm286 ⟨_, _, rfl⟩ ?_
    exact h
theorem v_X11_has {d : Nat} {x0 : Int32} {x1 : Int32} {m : dM} {Q : Int32 → dM → Prop} (h : ((((x0.toUInt32 >>> (x1.toUInt32 &&& Int32.toUInt32 31)).toInt32 &&& (1 : Int32)).toInt = 0 → Q (0 : Int32) m) ∧ (((x0.toUInt32 >>> (x1.toUInt32 &&& Int32.toUInt32 31)).toInt32 &&& (1 : Int32)).toInt ≠ 0 → Q (1 : Int32) m))) : c_X11_has (d + 1) x0 x1 m Q := by
  refine w_iload_n (q := 1) hm283 ⟨⟨_, _, rfl⟩, rfl⟩ rfl ?_
  refine w_iload_n (q := 2) hm283 ⟨⟨_, _, rfl⟩, rfl⟩ rfl ?_
  refine w_iushr (q := 3) hm283 ⟨⟨_, _, rfl⟩, rfl⟩ ?_
  refine w_iconst (q := 4) hm283 ⟨⟨_, _, rfl⟩, rfl⟩ iconst_1 ?_
  refine w_iand (q := 5) hm283 ⟨⟨_, _, rfl⟩, rfl⟩ ?_
  refine w_if_eq (q := 8) (X := ((x0.toUInt32 >>> (x1.toUInt32 &&& Int32.toUInt32 31)).toInt32 &&& (1 : Int32)).toInt) hm283 ⟨⟨_, _, rfl⟩, rfl⟩ rfl (fun hc => ?_) (fun hc => ?_)
  · have h := h.1 hc
    refine w_iconst (q := 13) hm283 ⟨⟨_, _, rfl⟩, rfl⟩ iconst_0 ?_
    exact w_retz hm283 ⟨⟨_, _, rfl⟩, rfl⟩ rfl (by decide) h
  · have h := h.2 hc
    refine w_iconst (q := 9) hm283 ⟨⟨_, _, rfl⟩, rfl⟩ iconst_1 ?_
    refine w_goto (q := 13) hm283 ⟨_, _, rfl⟩ ?_
    exact w_retz hm283 ⟨⟨_, _, rfl⟩, rfl⟩ rfl (by decide) h
theorem v_X10_reachBy_57 {d : Nat} {x1 : Int32} {x2 : Int32} {m : dM} {Q : dM → Prop} (h : ((0 ≤ x1.toInt ∧ x1.toInt < 10) ∧ ((0 ≤ (m.1 4 x1.toNatClampNeg).toInt ∧ (m.1 4 x1.toNatClampNeg).toInt < 7) ∧ (((m.1 59 (m.1 4 x1.toNatClampNeg).toNatClampNeg).toInt ≠ (x2 - (1 : Int32)).toInt → ((0 ≤ x1.toInt ∧ x1.toInt < 10) ∧ ((0 ≤ x1.toInt ∧ x1.toInt < 10) ∧ ((0 ≤ (m.1 4 x1.toNatClampNeg).toInt ∧ (m.1 4 x1.toNatClampNeg).toInt < 7) ∧ (((m.1 59 (m.1 4 x1.toNatClampNeg).toNatClampNeg).toInt ≠ (-1) → j_X10_reachBy_57_151 (d + 1) m Q) ∧ ((m.1 59 (m.1 4 x1.toNatClampNeg).toNatClampNeg).toInt = (-1) → ((0 ≤ (m.1 5 x1.toNatClampNeg).toInt ∧ (m.1 5 x1.toNatClampNeg).toInt < 7) ∧ (((m.1 59 (m.1 5 x1.toNatClampNeg).toNatClampNeg).toInt ≠ (x2 - (1 : Int32)).toInt → j_X10_reachBy_57_151 (d + 1) m Q) ∧ ((m.1 59 (m.1 5 x1.toNatClampNeg).toNatClampNeg).toInt = (x2 - (1 : Int32)).toInt → ((0 ≤ (m.1 4 x1.toNatClampNeg).toInt ∧ (m.1 4 x1.toNatClampNeg).toInt < 7) ∧ ((0 ≤ (m.1 4 x1.toNatClampNeg).toInt ∧ (m.1 4 x1.toNatClampNeg).toInt < 7) ∧ ((0 ≤ (m.1 5 x1.toNatClampNeg).toInt ∧ (m.1 5 x1.toNatClampNeg).toInt < 7) ∧ ((0 ≤ (m.1 4 x1.toNatClampNeg).toInt ∧ (m.1 4 x1.toNatClampNeg).toInt < 7) ∧ j_X10_reachBy_57_151 (d + 1) (dSet (dSet (dSet (dSet m 59 (m.1 4 x1.toNatClampNeg).toNatClampNeg x2) 58 (m.1 4 x1.toNatClampNeg).toNatClampNeg x1) 60 (m.1 4 x1.toNatClampNeg).toNatClampNeg ((m.1 60 (m.1 5 x1.toNatClampNeg).toNatClampNeg) ||| ((1 : Int32) <<< (x1 &&& 31)))) 57 5 ((m.1 57 5) ||| ((1 : Int32) <<< ((m.1 4 x1.toNatClampNeg) &&& 31)))) Q))))))))))))) ∧ ((m.1 59 (m.1 4 x1.toNatClampNeg).toNatClampNeg).toInt = (x2 - (1 : Int32)).toInt → ((0 ≤ x1.toInt ∧ x1.toInt < 10) ∧ ((0 ≤ x1.toInt ∧ x1.toInt < 10) ∧ ((0 ≤ (m.1 5 x1.toNatClampNeg).toInt ∧ (m.1 5 x1.toNatClampNeg).toInt < 7) ∧ (((m.1 59 (m.1 5 x1.toNatClampNeg).toNatClampNeg).toInt ≠ (-1) → j_X10_reachBy_57_151 (d + 1) m Q) ∧ ((m.1 59 (m.1 5 x1.toNatClampNeg).toNatClampNeg).toInt = (-1) → ((0 ≤ (m.1 4 x1.toNatClampNeg).toInt ∧ (m.1 4 x1.toNatClampNeg).toInt < 7) ∧ (((m.1 59 (m.1 4 x1.toNatClampNeg).toNatClampNeg).toInt ≠ (x2 - (1 : Int32)).toInt → j_X10_reachBy_57_151 (d + 1) m Q) ∧ ((m.1 59 (m.1 4 x1.toNatClampNeg).toNatClampNeg).toInt = (x2 - (1 : Int32)).toInt → ((0 ≤ (m.1 5 x1.toNatClampNeg).toInt ∧ (m.1 5 x1.toNatClampNeg).toInt < 7) ∧ ((0 ≤ (m.1 5 x1.toNatClampNeg).toInt ∧ (m.1 5 x1.toNatClampNeg).toInt < 7) ∧ ((0 ≤ (m.1 4 x1.toNatClampNeg).toInt ∧ (m.1 4 x1.toNatClampNeg).toInt < 7) ∧ ((0 ≤ (m.1 5 x1.toNatClampNeg).toInt ∧ (m.1 5 x1.toNatClampNeg).toInt < 7) ∧ j_X10_reachBy_57_151 (d + 1) (dSet (dSet (dSet (dSet m 59 (m.1 5 x1.toNatClampNeg).toNatClampNeg x2) 58 (m.1 5 x1.toNatClampNeg).toNatClampNeg x1) 60 (m.1 5 x1.toNatClampNeg).toNatClampNeg ((m.1 60 (m.1 4 x1.toNatClampNeg).toNatClampNeg) ||| ((1 : Int32) <<< (x1 &&& 31)))) 57 5 ((m.1 57 5) ||| ((1 : Int32) <<< ((m.1 5 x1.toNatClampNeg) &&& 31)))) Q))))))))))))))))) : c_X10_reachBy_57 (d + 1) x1 x2 m Q := by
  refine w_aload_n (q := 1) hm240 ⟨⟨_, _, rfl⟩, rfl⟩ rfl ?_
  refine w_getr (q := 4) hm240 ⟨⟨_, _, rfl⟩, rfl⟩ rfl ?_
  refine w_aload_n (q := 5) hm240 ⟨⟨_, _, rfl⟩, rfl⟩ rfl ?_
  refine w_getr (q := 8) hm240 ⟨⟨_, _, rfl⟩, rfl⟩ rfl ?_
  refine w_getr (q := 11) hm240 ⟨⟨_, _, rfl⟩, rfl⟩ rfl ?_
  refine w_iload_n (q := 12) hm240 ⟨⟨_, _, rfl⟩, rfl⟩ rfl ?_
  obtain ⟨hi, h⟩ := h
  refine w_iald (q := 13) (v := (m.1 4 x1.toNatClampNeg)) hm240 ⟨⟨_, _, rfl⟩, rfl⟩ rfl hi rfl rfl ?_
  obtain ⟨hi, h⟩ := h
  refine w_iald (q := 14) (v := (m.1 59 (m.1 4 x1.toNatClampNeg).toNatClampNeg)) hm240 ⟨⟨_, _, rfl⟩, rfl⟩ rfl hi rfl rfl ?_
  refine w_iload_n (q := 15) hm240 ⟨⟨_, _, rfl⟩, rfl⟩ rfl ?_
  refine w_iconst (q := 16) hm240 ⟨⟨_, _, rfl⟩, rfl⟩ iconst_1 ?_
  refine w_isub (q := 17) hm240 ⟨⟨_, _, rfl⟩, rfl⟩ ?_
  refine w_icmp_ne (q := 20) (X := (m.1 59 (m.1 4 x1.toNatClampNeg).toNatClampNeg).toInt) (Y := (x2 - (1 : Int32)).toInt) hm240 ⟨⟨_, _, rfl⟩, rfl⟩ rfl rfl (fun hc => ?_) (fun hc => ?_)
  · have h := h.1 hc
    refine w_iconst (q := 25) hm240 ⟨⟨_, _, rfl⟩, rfl⟩ iconst_0 ?_
    refine w_istore_n (q := 26) (l' := [oR 57, oI x1, oI x2, oI (0 : Int32), none, none]) hm240 ⟨⟨_, _, rfl⟩, rfl⟩ rfl rfl rfl ?_
    refine w_iload_n (q := 27) hm240 ⟨⟨_, _, rfl⟩, rfl⟩ rfl ?_
    refine w_if_eq (q := 30) (X := 0) hm240 ⟨⟨_, _, rfl⟩, rfl⟩ (by decide) (fun _ => ?_) (fun hc => absurd hc (by decide))
    refine w_aload_n (q := 43) hm240 ⟨⟨_, _, rfl⟩, rfl⟩ rfl ?_
    refine w_getr (q := 46) hm240 ⟨⟨_, _, rfl⟩, rfl⟩ rfl ?_
    refine w_getr (q := 49) hm240 ⟨⟨_, _, rfl⟩, rfl⟩ rfl ?_
    refine w_iload_n (q := 50) hm240 ⟨⟨_, _, rfl⟩, rfl⟩ rfl ?_
    obtain ⟨hi, h⟩ := h
    refine w_iald (q := 51) (v := (m.1 5 x1.toNatClampNeg)) hm240 ⟨⟨_, _, rfl⟩, rfl⟩ rfl hi rfl rfl ?_
    refine w_istore (q := 53) (l' := [oR 57, oI x1, oI x2, oI (0 : Int32), oI (m.1 5 x1.toNatClampNeg), none]) hm240 ⟨⟨_, _, rfl⟩, rfl⟩ rfl rfl rfl ?_
    refine w_iload_n (q := 54) hm240 ⟨⟨_, _, rfl⟩, rfl⟩ rfl ?_
    refine w_if_eq (q := 57) (X := 0) hm240 ⟨⟨_, _, rfl⟩, rfl⟩ (by decide) (fun _ => ?_) (fun hc => absurd hc (by decide))
    refine w_aload_n (q := 70) hm240 ⟨⟨_, _, rfl⟩, rfl⟩ rfl ?_
    refine w_getr (q := 73) hm240 ⟨⟨_, _, rfl⟩, rfl⟩ rfl ?_
    refine w_getr (q := 76) hm240 ⟨⟨_, _, rfl⟩, rfl⟩ rfl ?_
    refine w_iload_n (q := 77) hm240 ⟨⟨_, _, rfl⟩, rfl⟩ rfl ?_
    obtain ⟨hi, h⟩ := h
    refine w_iald (q := 78) (v := (m.1 4 x1.toNatClampNeg)) hm240 ⟨⟨_, _, rfl⟩, rfl⟩ rfl hi rfl rfl ?_
    refine w_istore (q := 80) (l' := [oR 57, oI x1, oI x2, oI (0 : Int32), oI (m.1 5 x1.toNatClampNeg), oI (m.1 4 x1.toNatClampNeg)]) hm240 ⟨⟨_, _, rfl⟩, rfl⟩ rfl rfl rfl ?_
    refine w_aload_n (q := 81) hm240 ⟨⟨_, _, rfl⟩, rfl⟩ rfl ?_
    refine w_getr (q := 84) hm240 ⟨⟨_, _, rfl⟩, rfl⟩ rfl ?_
    refine w_iload (q := 86) hm240 ⟨⟨_, _, rfl⟩, rfl⟩ rfl ?_
    obtain ⟨hi, h⟩ := h
    refine w_iald (q := 87) (v := (m.1 59 (m.1 4 x1.toNatClampNeg).toNatClampNeg)) hm240 ⟨⟨_, _, rfl⟩, rfl⟩ rfl hi rfl rfl ?_
    refine w_iconst (q := 88) hm240 ⟨⟨_, _, rfl⟩, rfl⟩ iconst_m1 ?_
    refine w_icmp_ne (q := 91) (X := (m.1 59 (m.1 4 x1.toNatClampNeg).toNatClampNeg).toInt) (Y := (-1)) hm240 ⟨⟨_, _, rfl⟩, rfl⟩ rfl (by decide) (fun hc => ?_) (fun hc => ?_)
    · have h := h.1 hc
      exact Wp.wk [false, false, false, false, false, false] h
    · have h := h.2 hc
      refine w_aload_n (q := 92) hm240 ⟨⟨_, _, rfl⟩, rfl⟩ rfl ?_
      refine w_getr (q := 95) hm240 ⟨⟨_, _, rfl⟩, rfl⟩ rfl ?_
      refine w_iload (q := 97) hm240 ⟨⟨_, _, rfl⟩, rfl⟩ rfl ?_
      obtain ⟨hi, h⟩ := h
      refine w_iald (q := 98) (v := (m.1 59 (m.1 5 x1.toNatClampNeg).toNatClampNeg)) hm240 ⟨⟨_, _, rfl⟩, rfl⟩ rfl hi rfl rfl ?_
      refine w_iload_n (q := 99) hm240 ⟨⟨_, _, rfl⟩, rfl⟩ rfl ?_
      refine w_iconst (q := 100) hm240 ⟨⟨_, _, rfl⟩, rfl⟩ iconst_1 ?_
      refine w_isub (q := 101) hm240 ⟨⟨_, _, rfl⟩, rfl⟩ ?_
      refine w_icmp_ne (q := 104) (X := (m.1 59 (m.1 5 x1.toNatClampNeg).toNatClampNeg).toInt) (Y := (x2 - (1 : Int32)).toInt) hm240 ⟨⟨_, _, rfl⟩, rfl⟩ rfl rfl (fun hc => ?_) (fun hc => ?_)
      · have h := h.1 hc
        exact Wp.wk [false, false, false, false, false, false] h
      · have h := h.2 hc
        refine w_aload_n (q := 105) hm240 ⟨⟨_, _, rfl⟩, rfl⟩ rfl ?_
        refine w_getr (q := 108) hm240 ⟨⟨_, _, rfl⟩, rfl⟩ rfl ?_
        refine w_iload (q := 110) hm240 ⟨⟨_, _, rfl⟩, rfl⟩ rfl ?_
        refine w_iload_n (q := 111) hm240 ⟨⟨_, _, rfl⟩, rfl⟩ rfl ?_
        obtain ⟨hi, h⟩ := h
        refine w_iast (q := 112) hm240 ⟨⟨_, _, rfl⟩, rfl⟩ rfl hi rfl rfl ?_
        refine w_aload_n (q := 113) hm240 ⟨⟨_, _, rfl⟩, rfl⟩ rfl ?_
        refine w_getr (q := 116) hm240 ⟨⟨_, _, rfl⟩, rfl⟩ rfl ?_
        refine w_iload (q := 118) hm240 ⟨⟨_, _, rfl⟩, rfl⟩ rfl ?_
        refine w_iload_n (q := 119) hm240 ⟨⟨_, _, rfl⟩, rfl⟩ rfl ?_
        obtain ⟨hi, h⟩ := h
        refine w_iast (q := 120) hm240 ⟨⟨_, _, rfl⟩, rfl⟩ rfl hi rfl rfl ?_
        refine w_aload_n (q := 121) hm240 ⟨⟨_, _, rfl⟩, rfl⟩ rfl ?_
        refine w_getr (q := 124) hm240 ⟨⟨_, _, rfl⟩, rfl⟩ rfl ?_
        refine w_iload (q := 126) hm240 ⟨⟨_, _, rfl⟩, rfl⟩ rfl ?_
        refine w_aload_n (q := 127) hm240 ⟨⟨_, _, rfl⟩, rfl⟩ rfl ?_
        refine w_getr (q := 130) hm240 ⟨⟨_, _, rfl⟩, rfl⟩ rfl ?_
        refine w_iload (q := 132) hm240 ⟨⟨_, _, rfl⟩, rfl⟩ rfl ?_
        obtain ⟨hi, h⟩ := h
        refine w_iald (q := 133) (v := (m.1 60 (m.1 5 x1.toNatClampNeg).toNatClampNeg)) hm240 ⟨⟨_, _, rfl⟩, rfl⟩ rfl hi rfl rfl ?_
        refine w_iconst (q := 134) hm240 ⟨⟨_, _, rfl⟩, rfl⟩ iconst_1 ?_
        refine w_iload_n (q := 135) hm240 ⟨⟨_, _, rfl⟩, rfl⟩ rfl ?_
        refine w_ishl (q := 136) hm240 ⟨⟨_, _, rfl⟩, rfl⟩ ?_
        refine w_ior (q := 137) hm240 ⟨⟨_, _, rfl⟩, rfl⟩ ?_
        obtain ⟨hi, h⟩ := h
        refine w_iast (q := 138) hm240 ⟨⟨_, _, rfl⟩, rfl⟩ rfl hi rfl rfl ?_
        refine w_aload_n (q := 139) hm240 ⟨⟨_, _, rfl⟩, rfl⟩ rfl ?_
        refine w_dup (q := 140) hm240 ⟨⟨_, _, rfl⟩, rfl⟩ rfl ?_
        refine w_getf (q := 143) (v := (m.1 57 5)) hm240 ⟨⟨_, _, rfl⟩, rfl⟩ rfl rfl ?_
        refine w_iconst (q := 144) hm240 ⟨⟨_, _, rfl⟩, rfl⟩ iconst_1 ?_
        refine w_iload (q := 146) hm240 ⟨⟨_, _, rfl⟩, rfl⟩ rfl ?_
        refine w_ishl (q := 147) hm240 ⟨⟨_, _, rfl⟩, rfl⟩ ?_
        refine w_ior (q := 148) hm240 ⟨⟨_, _, rfl⟩, rfl⟩ ?_
        refine w_putf (q := 151) hm240 ⟨⟨_, _, rfl⟩, rfl⟩ rfl rfl rfl ?_
        exact Wp.wk [false, false, false, false, false, false] h
  · have h := h.2 hc
    refine w_iconst (q := 21) hm240 ⟨⟨_, _, rfl⟩, rfl⟩ iconst_1 ?_
    refine w_goto (q := 25) hm240 ⟨_, _, rfl⟩ ?_
    refine w_istore_n (q := 26) (l' := [oR 57, oI x1, oI x2, oI (1 : Int32), none, none]) hm240 ⟨⟨_, _, rfl⟩, rfl⟩ rfl rfl rfl ?_
    refine w_iload_n (q := 27) hm240 ⟨⟨_, _, rfl⟩, rfl⟩ rfl ?_
    refine w_if_eq (q := 30) (X := 1) hm240 ⟨⟨_, _, rfl⟩, rfl⟩ (by decide) (fun hc => absurd hc (by decide)) (fun _ => ?_)
    refine w_aload_n (q := 31) hm240 ⟨⟨_, _, rfl⟩, rfl⟩ rfl ?_
    refine w_getr (q := 34) hm240 ⟨⟨_, _, rfl⟩, rfl⟩ rfl ?_
    refine w_getr (q := 37) hm240 ⟨⟨_, _, rfl⟩, rfl⟩ rfl ?_
    refine w_iload_n (q := 38) hm240 ⟨⟨_, _, rfl⟩, rfl⟩ rfl ?_
    obtain ⟨hi, h⟩ := h
    refine w_iald (q := 39) (v := (m.1 4 x1.toNatClampNeg)) hm240 ⟨⟨_, _, rfl⟩, rfl⟩ rfl hi rfl rfl ?_
    refine w_goto (q := 51) hm240 ⟨_, _, rfl⟩ ?_
    refine w_istore (q := 53) (l' := [oR 57, oI x1, oI x2, oI (1 : Int32), oI (m.1 4 x1.toNatClampNeg), none]) hm240 ⟨⟨_, _, rfl⟩, rfl⟩ rfl rfl rfl ?_
    refine w_iload_n (q := 54) hm240 ⟨⟨_, _, rfl⟩, rfl⟩ rfl ?_
    refine w_if_eq (q := 57) (X := 1) hm240 ⟨⟨_, _, rfl⟩, rfl⟩ (by decide) (fun hc => absurd hc (by decide)) (fun _ => ?_)
    refine w_aload_n (q := 58) hm240 ⟨⟨_, _, rfl⟩, rfl⟩ rfl ?_
    refine w_getr (q := 61) hm240 ⟨⟨_, _, rfl⟩, rfl⟩ rfl ?_
    refine w_getr (q := 64) hm240 ⟨⟨_, _, rfl⟩, rfl⟩ rfl ?_
    refine w_iload_n (q := 65) hm240 ⟨⟨_, _, rfl⟩, rfl⟩ rfl ?_
    obtain ⟨hi, h⟩ := h
    refine w_iald (q := 66) (v := (m.1 5 x1.toNatClampNeg)) hm240 ⟨⟨_, _, rfl⟩, rfl⟩ rfl hi rfl rfl ?_
    refine w_goto (q := 78) hm240 ⟨_, _, rfl⟩ ?_
    refine w_istore (q := 80) (l' := [oR 57, oI x1, oI x2, oI (1 : Int32), oI (m.1 4 x1.toNatClampNeg), oI (m.1 5 x1.toNatClampNeg)]) hm240 ⟨⟨_, _, rfl⟩, rfl⟩ rfl rfl rfl ?_
    refine w_aload_n (q := 81) hm240 ⟨⟨_, _, rfl⟩, rfl⟩ rfl ?_
    refine w_getr (q := 84) hm240 ⟨⟨_, _, rfl⟩, rfl⟩ rfl ?_
    refine w_iload (q := 86) hm240 ⟨⟨_, _, rfl⟩, rfl⟩ rfl ?_
    obtain ⟨hi, h⟩ := h
    refine w_iald (q := 87) (v := (m.1 59 (m.1 5 x1.toNatClampNeg).toNatClampNeg)) hm240 ⟨⟨_, _, rfl⟩, rfl⟩ rfl hi rfl rfl ?_
    refine w_iconst (q := 88) hm240 ⟨⟨_, _, rfl⟩, rfl⟩ iconst_m1 ?_
    refine w_icmp_ne (q := 91) (X := (m.1 59 (m.1 5 x1.toNatClampNeg).toNatClampNeg).toInt) (Y := (-1)) hm240 ⟨⟨_, _, rfl⟩, rfl⟩ rfl (by decide) (fun hc => ?_) (fun hc => ?_)
    · have h := h.1 hc
      exact Wp.wk [false, false, false, false, false, false] h
    · have h := h.2 hc
      refine w_aload_n (q := 92) hm240 ⟨⟨_, _, rfl⟩, rfl⟩ rfl ?_
      refine w_getr (q := 95) hm240 ⟨⟨_, _, rfl⟩, rfl⟩ rfl ?_
      refine w_iload (q := 97) hm240 ⟨⟨_, _, rfl⟩, rfl⟩ rfl ?_
      obtain ⟨hi, h⟩ := h
      refine w_iald (q := 98) (v := (m.1 59 (m.1 4 x1.toNatClampNeg).toNatClampNeg)) hm240 ⟨⟨_, _, rfl⟩, rfl⟩ rfl hi rfl rfl ?_
      refine w_iload_n (q := 99) hm240 ⟨⟨_, _, rfl⟩, rfl⟩ rfl ?_
      refine w_iconst (q := 100) hm240 ⟨⟨_, _, rfl⟩, rfl⟩ iconst_1 ?_
      refine w_isub (q := 101) hm240 ⟨⟨_, _, rfl⟩, rfl⟩ ?_
      refine w_icmp_ne (q := 104) (X := (m.1 59 (m.1 4 x1.toNatClampNeg).toNatClampNeg).toInt) (Y := (x2 - (1 : Int32)).toInt) hm240 ⟨⟨_, _, rfl⟩, rfl⟩ rfl rfl (fun hc => ?_) (fun hc => ?_)
      · have h := h.1 hc
        exact Wp.wk [false, false, false, false, false, false] h
      · have h := h.2 hc
        refine w_aload_n (q := 105) hm240 ⟨⟨_, _, rfl⟩, rfl⟩ rfl ?_
        refine w_getr (q := 108) hm240 ⟨⟨_, _, rfl⟩, rfl⟩ rfl ?_
        refine w_iload (q := 110) hm240 ⟨⟨_, _, rfl⟩, rfl⟩ rfl ?_
        refine w_iload_n (q := 111) hm240 ⟨⟨_, _, rfl⟩, rfl⟩ rfl ?_
        obtain ⟨hi, h⟩ := h
        refine w_iast (q := 112) hm240 ⟨⟨_, _, rfl⟩, rfl⟩ rfl hi rfl rfl ?_
        refine w_aload_n (q := 113) hm240 ⟨⟨_, _, rfl⟩, rfl⟩ rfl ?_
        refine w_getr (q := 116) hm240 ⟨⟨_, _, rfl⟩, rfl⟩ rfl ?_
        refine w_iload (q := 118) hm240 ⟨⟨_, _, rfl⟩, rfl⟩ rfl ?_
        refine w_iload_n (q := 119) hm240 ⟨⟨_, _, rfl⟩, rfl⟩ rfl ?_
        obtain ⟨hi, h⟩ := h
        refine w_iast (q := 120) hm240 ⟨⟨_, _, rfl⟩, rfl⟩ rfl hi rfl rfl ?_
        refine w_aload_n (q := 121) hm240 ⟨⟨_, _, rfl⟩, rfl⟩ rfl ?_
        refine w_getr (q := 124) hm240 ⟨⟨_, _, rfl⟩, rfl⟩ rfl ?_
        refine w_iload (q := 126) hm240 ⟨⟨_, _, rfl⟩, rfl⟩ rfl ?_
        refine w_aload_n (q := 127) hm240 ⟨⟨_, _, rfl⟩, rfl⟩ rfl ?_
        refine w_getr (q := 130) hm240 ⟨⟨_, _, rfl⟩, rfl⟩ rfl ?_
        refine w_iload (q := 132) hm240 ⟨⟨_, _, rfl⟩, rfl⟩ rfl ?_
        obtain ⟨hi, h⟩ := h
        refine w_iald (q := 133) (v := (m.1 60 (m.1 4 x1.toNatClampNeg).toNatClampNeg)) hm240 ⟨⟨_, _, rfl⟩, rfl⟩ rfl hi rfl rfl ?_
        refine w_iconst (q := 134) hm240 ⟨⟨_, _, rfl⟩, rfl⟩ iconst_1 ?_
        refine w_iload_n (q := 135) hm240 ⟨⟨_, _, rfl⟩, rfl⟩ rfl ?_
        refine w_ishl (q := 136) hm240 ⟨⟨_, _, rfl⟩, rfl⟩ ?_
        refine w_ior (q := 137) hm240 ⟨⟨_, _, rfl⟩, rfl⟩ ?_
        obtain ⟨hi, h⟩ := h
        refine w_iast (q := 138) hm240 ⟨⟨_, _, rfl⟩, rfl⟩ rfl hi rfl rfl ?_
        refine w_aload_n (q := 139) hm240 ⟨⟨_, _, rfl⟩, rfl⟩ rfl ?_
        refine w_dup (q := 140) hm240 ⟨⟨_, _, rfl⟩, rfl⟩ rfl ?_
        refine w_getf (q := 143) (v := (m.1 57 5)) hm240 ⟨⟨_, _, rfl⟩, rfl⟩ rfl rfl ?_
        refine w_iconst (q := 144) hm240 ⟨⟨_, _, rfl⟩, rfl⟩ iconst_1 ?_
        refine w_iload (q := 146) hm240 ⟨⟨_, _, rfl⟩, rfl⟩ rfl ?_
        refine w_ishl (q := 147) hm240 ⟨⟨_, _, rfl⟩, rfl⟩ ?_
        refine w_ior (q := 148) hm240 ⟨⟨_, _, rfl⟩, rfl⟩ ?_
        refine w_putf (q := 151) hm240 ⟨⟨_, _, rfl⟩, rfl⟩ rfl rfl rfl ?_
        exact Wp.wk [false, false, false, false, false, false] h
theorem v_X10_reachBy_57_151 {d : Nat} {m : dM} {Q : dM → Prop} (h : Q m) : j_X10_reachBy_57_151 (d + 1) m Q := by
  exact w_retv hm240 ⟨⟨_, _, rfl⟩, rfl⟩ rfl h
theorem v_X10_lay_57 {d : Nat} {x1 : Int32} {m : dM} {Q : dM → Prop} (h : ((x1.toInt ≠ (m.1 57 1).toInt → (((m.1 2 0).toInt ≤ 0 → c_J7_fill_59 d (-1 : Int32) (dSet (dSet m 57 1 x1) 57 5 (0 : Int32)) (fun m1 => c_J7_fill_60 d (0 : Int32) m1 (fun m2 => j_X10_lay_57_58 (d + 1) x1 (1 : Int32) (dSet m2 59 0 (0 : Int32)) Q))) ∧ (0 < (m.1 2 0).toInt → c_J7_fill_59 d (-1 : Int32) (dSet (dSet m 57 1 x1) 57 5 (1 : Int32)) (fun m3 => c_J7_fill_60 d (0 : Int32) m3 (fun m4 => j_X10_lay_57_58 (d + 1) x1 (1 : Int32) (dSet m4 59 0 (0 : Int32)) Q))))) ∧ (x1.toInt = (m.1 57 1).toInt → Q m))) : c_X10_lay_57 (d + 1) x1 m Q := by
  refine w_iload_n (q := 1) hm239 ⟨⟨_, _, rfl⟩, rfl⟩ rfl ?_
  refine w_aload_n (q := 2) hm239 ⟨⟨_, _, rfl⟩, rfl⟩ rfl ?_
  refine w_getf (q := 5) (v := (m.1 57 1)) hm239 ⟨⟨_, _, rfl⟩, rfl⟩ rfl rfl ?_
  refine w_icmp_ne (q := 8) (X := x1.toInt) (Y := (m.1 57 1).toInt) hm239 ⟨⟨_, _, rfl⟩, rfl⟩ rfl rfl (fun hc => ?_) (fun hc => ?_)
  · have h := h.1 hc
    refine w_aload_n (q := 10) hm239 ⟨⟨_, _, rfl⟩, rfl⟩ rfl ?_
    refine w_iload_n (q := 11) hm239 ⟨⟨_, _, rfl⟩, rfl⟩ rfl ?_
    refine w_putf (q := 14) hm239 ⟨⟨_, _, rfl⟩, rfl⟩ rfl rfl rfl ?_
    refine w_aload_n (q := 15) hm239 ⟨⟨_, _, rfl⟩, rfl⟩ rfl ?_
    refine w_aload_n (q := 16) hm239 ⟨⟨_, _, rfl⟩, rfl⟩ rfl ?_
    refine w_getr (q := 19) hm239 ⟨⟨_, _, rfl⟩, rfl⟩ rfl ?_
    refine w_getf (q := 22) (v := (m.1 2 0)) hm239 ⟨⟨_, _, rfl⟩, rfl⟩ rfl rfl ?_
    refine w_if_le (q := 25) (X := (m.1 2 0).toInt) hm239 ⟨⟨_, _, rfl⟩, rfl⟩ rfl (fun hc => ?_) (fun hc => ?_)
    · have h := h.1 hc
      refine w_iconst (q := 30) hm239 ⟨⟨_, _, rfl⟩, rfl⟩ iconst_0 ?_
      refine w_putf (q := 33) hm239 ⟨⟨_, _, rfl⟩, rfl⟩ rfl rfl rfl ?_
      refine w_aload_n (q := 34) hm239 ⟨⟨_, _, rfl⟩, rfl⟩ rfl ?_
      refine w_getr (q := 37) hm239 ⟨⟨_, _, rfl⟩, rfl⟩ rfl ?_
      refine w_iconst (q := 38) hm239 ⟨⟨_, _, rfl⟩, rfl⟩ iconst_m1 ?_
      refine w_call (q := 41) (n := 2) (vs := [.inr (.inr (some 59)), .inl (-1 : Int32)]) (rest := []) (la := [oR 59, oI (-1 : Int32), none, none]) hm239 ⟨⟨_, _, rfl⟩, rfl⟩ rfl rfl rfl rfl hm286 rfl rfl (fun hz => absurd hz (by decide)) rfl (Wp.mono h ?_)
      rintro _ m1 ⟨rfl, h⟩
      change Wp _ _ 41 _ [] _ _
      refine w_aload_n (q := 42) hm239 ⟨⟨_, _, rfl⟩, rfl⟩ rfl ?_
      refine w_getr (q := 45) hm239 ⟨⟨_, _, rfl⟩, rfl⟩ rfl ?_
      refine w_iconst (q := 46) hm239 ⟨⟨_, _, rfl⟩, rfl⟩ iconst_0 ?_
      refine w_call (q := 49) (n := 2) (vs := [.inr (.inr (some 60)), .inl (0 : Int32)]) (rest := []) (la := [oR 60, oI (0 : Int32), none, none]) hm239 ⟨⟨_, _, rfl⟩, rfl⟩ rfl rfl rfl rfl hm286 rfl rfl (fun hz => absurd hz (by decide)) rfl (Wp.mono h ?_)
      rintro _ m2 ⟨rfl, h⟩
      change Wp _ _ 49 _ [] _ _
      refine w_aload_n (q := 50) hm239 ⟨⟨_, _, rfl⟩, rfl⟩ rfl ?_
      refine w_getr (q := 53) hm239 ⟨⟨_, _, rfl⟩, rfl⟩ rfl ?_
      refine w_iconst (q := 54) hm239 ⟨⟨_, _, rfl⟩, rfl⟩ iconst_0 ?_
      refine w_iconst (q := 55) hm239 ⟨⟨_, _, rfl⟩, rfl⟩ iconst_0 ?_
      refine w_iast (q := 56) (j := 0) hm239 ⟨⟨_, _, rfl⟩, rfl⟩ rfl (by decide) (by decide) rfl ?_
      refine w_iconst (q := 57) hm239 ⟨⟨_, _, rfl⟩, rfl⟩ iconst_1 ?_
      refine w_istore_n (q := 58) (l' := [oR 57, oI x1, oI (1 : Int32), none, none]) hm239 ⟨⟨_, _, rfl⟩, rfl⟩ rfl rfl rfl ?_
      exact h
    · have h := h.2 hc
      refine w_iconst (q := 26) hm239 ⟨⟨_, _, rfl⟩, rfl⟩ iconst_1 ?_
      refine w_goto (q := 30) hm239 ⟨_, _, rfl⟩ ?_
      refine w_putf (q := 33) hm239 ⟨⟨_, _, rfl⟩, rfl⟩ rfl rfl rfl ?_
      refine w_aload_n (q := 34) hm239 ⟨⟨_, _, rfl⟩, rfl⟩ rfl ?_
      refine w_getr (q := 37) hm239 ⟨⟨_, _, rfl⟩, rfl⟩ rfl ?_
      refine w_iconst (q := 38) hm239 ⟨⟨_, _, rfl⟩, rfl⟩ iconst_m1 ?_
      refine w_call (q := 41) (n := 2) (vs := [.inr (.inr (some 59)), .inl (-1 : Int32)]) (rest := []) (la := [oR 59, oI (-1 : Int32), none, none]) hm239 ⟨⟨_, _, rfl⟩, rfl⟩ rfl rfl rfl rfl hm286 rfl rfl (fun hz => absurd hz (by decide)) rfl (Wp.mono h ?_)
      rintro _ m3 ⟨rfl, h⟩
      change Wp _ _ 41 _ [] _ _
      refine w_aload_n (q := 42) hm239 ⟨⟨_, _, rfl⟩, rfl⟩ rfl ?_
      refine w_getr (q := 45) hm239 ⟨⟨_, _, rfl⟩, rfl⟩ rfl ?_
      refine w_iconst (q := 46) hm239 ⟨⟨_, _, rfl⟩, rfl⟩ iconst_0 ?_
      refine w_call (q := 49) (n := 2) (vs := [.inr (.inr (some 60)), .inl (0 : Int32)]) (rest := []) (la := [oR 60, oI (0 : Int32), none, none]) hm239 ⟨⟨_, _, rfl⟩, rfl⟩ rfl rfl rfl rfl hm286 rfl rfl (fun hz => absurd hz (by decide)) rfl (Wp.mono h ?_)
      rintro _ m4 ⟨rfl, h⟩
      change Wp _ _ 49 _ [] _ _
      refine w_aload_n (q := 50) hm239 ⟨⟨_, _, rfl⟩, rfl⟩ rfl ?_
      refine w_getr (q := 53) hm239 ⟨⟨_, _, rfl⟩, rfl⟩ rfl ?_
      refine w_iconst (q := 54) hm239 ⟨⟨_, _, rfl⟩, rfl⟩ iconst_0 ?_
      refine w_iconst (q := 55) hm239 ⟨⟨_, _, rfl⟩, rfl⟩ iconst_0 ?_
      refine w_iast (q := 56) (j := 0) hm239 ⟨⟨_, _, rfl⟩, rfl⟩ rfl (by decide) (by decide) rfl ?_
      refine w_iconst (q := 57) hm239 ⟨⟨_, _, rfl⟩, rfl⟩ iconst_1 ?_
      refine w_istore_n (q := 58) (l' := [oR 57, oI x1, oI (1 : Int32), none, none]) hm239 ⟨⟨_, _, rfl⟩, rfl⟩ rfl rfl rfl ?_
      exact h
  · have h := h.2 hc
    exact w_retv hm239 ⟨⟨_, _, rfl⟩, rfl⟩ rfl h
theorem v_X10_lay_57_58 {d : Nat} {x1 : Int32} {x2 : Int32} {m : dM} {Q : dM → Prop} (h : (((m.1 2 0).toInt ≤ x2.toInt → j_X10_lay_57_128 (d + 1) m Q) ∧ (x2.toInt < (m.1 2 0).toInt → j_X10_lay_57_77 (d + 1) x1 x2 (m.1 57 5) (0 : Int32) m Q))) : j_X10_lay_57_58 (d + 1) x1 x2 m Q := by
  refine w_iload_n (q := 59) hm239 ⟨⟨_, _, rfl⟩, rfl⟩ rfl ?_
  refine w_aload_n (q := 60) hm239 ⟨⟨_, _, rfl⟩, rfl⟩ rfl ?_
  refine w_getr (q := 63) hm239 ⟨⟨_, _, rfl⟩, rfl⟩ rfl ?_
  refine w_getf (q := 66) (v := (m.1 2 0)) hm239 ⟨⟨_, _, rfl⟩, rfl⟩ rfl rfl ?_
  refine w_icmp_ge (q := 69) (X := x2.toInt) (Y := (m.1 2 0).toInt) hm239 ⟨⟨_, _, rfl⟩, rfl⟩ rfl rfl (fun hc => ?_) (fun hc => ?_)
  · have h := h.1 hc
    exact Wp.wk [false, false, false, false, false] h
  · have h := h.2 hc
    refine w_aload_n (q := 70) hm239 ⟨⟨_, _, rfl⟩, rfl⟩ rfl ?_
    refine w_getf (q := 73) (v := (m.1 57 5)) hm239 ⟨⟨_, _, rfl⟩, rfl⟩ rfl rfl ?_
    refine w_istore_n (q := 74) (l' := [oR 57, oI x1, oI x2, oI (m.1 57 5), none]) hm239 ⟨⟨_, _, rfl⟩, rfl⟩ rfl rfl rfl ?_
    refine w_iconst (q := 75) hm239 ⟨⟨_, _, rfl⟩, rfl⟩ iconst_0 ?_
    refine w_istore (q := 77) (l' := [oR 57, oI x1, oI x2, oI (m.1 57 5), oI (0 : Int32)]) hm239 ⟨⟨_, _, rfl⟩, rfl⟩ rfl rfl rfl ?_
    exact h
theorem v_X10_lay_57_77 {d : Nat} {x1 : Int32} {x2 : Int32} {x3 : Int32} {x4 : Int32} {m : dM} {Q : dM → Prop} (h : (((m.1 2 1).toInt ≤ x4.toInt → (((m.1 57 5).toInt ≠ x3.toInt → j_X10_lay_57_58 (d + 1) x1 (x2 + (1 : Int32)) m Q) ∧ ((m.1 57 5).toInt = x3.toInt → j_X10_lay_57_128 (d + 1) m Q))) ∧ (x4.toInt < (m.1 2 1).toInt → c_X11_has d x1 x4 m (fun r1 m1 => ((r1.toInt ≠ 0 → j_X10_lay_57_105 (d + 1) x1 x2 x3 x4 m1 Q) ∧ (r1.toInt = 0 → c_X10_reachBy_57 d x4 x2 m1 (fun m2 => j_X10_lay_57_105 (d + 1) x1 x2 x3 x4 m2 Q))))))) : j_X10_lay_57_77 (d + 1) x1 x2 x3 x4 m Q := by
  refine w_iload (q := 79) hm239 ⟨⟨_, _, rfl⟩, rfl⟩ rfl ?_
  refine w_aload_n (q := 80) hm239 ⟨⟨_, _, rfl⟩, rfl⟩ rfl ?_
  refine w_getr (q := 83) hm239 ⟨⟨_, _, rfl⟩, rfl⟩ rfl ?_
  refine w_getf (q := 86) (v := (m.1 2 1)) hm239 ⟨⟨_, _, rfl⟩, rfl⟩ rfl rfl ?_
  refine w_icmp_ge (q := 89) (X := x4.toInt) (Y := (m.1 2 1).toInt) hm239 ⟨⟨_, _, rfl⟩, rfl⟩ rfl rfl (fun hc => ?_) (fun hc => ?_)
  · have h := h.1 hc
    refine w_aload_n (q := 112) hm239 ⟨⟨_, _, rfl⟩, rfl⟩ rfl ?_
    refine w_getf (q := 115) (v := (m.1 57 5)) hm239 ⟨⟨_, _, rfl⟩, rfl⟩ rfl rfl ?_
    refine w_iload_n (q := 116) hm239 ⟨⟨_, _, rfl⟩, rfl⟩ rfl ?_
    refine w_icmp_ne (q := 119) (X := (m.1 57 5).toInt) (Y := x3.toInt) hm239 ⟨⟨_, _, rfl⟩, rfl⟩ rfl rfl (fun hc => ?_) (fun hc => ?_)
    · have h := h.1 hc
      refine w_iinc (q := 125) (l' := [oR 57, oI x1, oI (x2 + (1 : Int32)), oI x3, oI x4]) hm239 ⟨⟨_, _, rfl⟩, rfl⟩ rfl rfl rfl iconst_1 rfl ?_
      refine w_goto (q := 58) hm239 ⟨_, _, rfl⟩ ?_
      exact Wp.wk [true, true, true, false, false] h
    · have h := h.2 hc
      refine w_goto (q := 128) hm239 ⟨_, _, rfl⟩ ?_
      exact Wp.wk [false, false, false, false, false] h
  · have h := h.2 hc
    refine w_iload_n (q := 90) hm239 ⟨⟨_, _, rfl⟩, rfl⟩ rfl ?_
    refine w_iload (q := 92) hm239 ⟨⟨_, _, rfl⟩, rfl⟩ rfl ?_
    refine w_call (q := 95) (n := 0) (vs := [.inl x1, .inl x4]) (rest := []) (la := [oI x1, oI x4]) hm239 ⟨⟨_, _, rfl⟩, rfl⟩ rfl rfl rfl rfl hm283 rfl rfl (fun hz => absurd hz (by decide)) rfl (Wp.mono h ?_)
    rintro _ m1 ⟨r1, rfl, h⟩
    change Wp _ _ 95 _ [.inl r1] _ _
    refine w_if_ne (q := 98) (X := r1.toInt) hm239 ⟨⟨_, _, rfl⟩, rfl⟩ rfl (fun hc => ?_) (fun hc => ?_)
    · have h := h.1 hc
      exact h
    · have h := h.2 hc
      refine w_aload_n (q := 99) hm239 ⟨⟨_, _, rfl⟩, rfl⟩ rfl ?_
      refine w_iload (q := 101) hm239 ⟨⟨_, _, rfl⟩, rfl⟩ rfl ?_
      refine w_iload_n (q := 102) hm239 ⟨⟨_, _, rfl⟩, rfl⟩ rfl ?_
      refine w_call (q := 105) (n := 3) (vs := [.inr (.inr (some 57)), .inl x4, .inl x2]) (rest := []) (la := [oR 57, oI x4, oI x2, none, none, none]) hm239 ⟨⟨_, _, rfl⟩, rfl⟩ rfl rfl rfl rfl hm240 rfl rfl (fun _ => ⟨_, _, rfl, rfl⟩) rfl (Wp.mono h ?_)
      rintro _ m2 ⟨rfl, h⟩
      change Wp _ _ 105 _ [] _ _
      exact h
theorem v_X10_lay_57_105 {d : Nat} {x1 : Int32} {x2 : Int32} {x3 : Int32} {x4 : Int32} {m : dM} {Q : dM → Prop} (h : j_X10_lay_57_77 (d + 1) x1 x2 x3 (x4 + (1 : Int32)) m Q) : j_X10_lay_57_105 (d + 1) x1 x2 x3 x4 m Q := by
  refine w_iinc (q := 108) (l' := [oR 57, oI x1, oI x2, oI x3, oI (x4 + (1 : Int32))]) hm239 ⟨⟨_, _, rfl⟩, rfl⟩ rfl rfl rfl iconst_1 rfl ?_
  refine w_goto (q := 77) hm239 ⟨_, _, rfl⟩ ?_
  exact h
theorem v_X10_lay_57_128 {d : Nat} {m : dM} {Q : dM → Prop} (h : Q m) : j_X10_lay_57_128 (d + 1) m Q := by
  exact w_retv hm239 ⟨⟨_, _, rfl⟩, rfl⟩ rfl h
theorem v_X0_waysNow_54_47 {d : Nat} {m : dM} {Q : dM → Prop} (h : c_X10_lay_57 d (m.1 47 3) m (fun m1 => Q m1)) : c_X0_waysNow_54_47 (d + 1) m Q := by
  refine w_aload_n (q := 1) hm116 ⟨⟨_, _, rfl⟩, rfl⟩ rfl ?_
  refine w_getr (q := 4) hm116 ⟨⟨_, _, rfl⟩, rfl⟩ rfl ?_
  refine w_aload_n (q := 5) hm116 ⟨⟨_, _, rfl⟩, rfl⟩ rfl ?_
  refine w_getf (q := 8) (v := (m.1 47 3)) hm116 ⟨⟨_, _, rfl⟩, rfl⟩ rfl rfl ?_
  refine w_call (q := 11) (n := 3) (vs := [.inr (.inr (some 57)), .inl (m.1 47 3)]) (rest := []) (la := [oR 57, oI (m.1 47 3), none, none, none]) hm116 ⟨⟨_, _, rfl⟩, rfl⟩ rfl rfl rfl rfl hm239 rfl rfl (fun _ => ⟨_, _, rfl, rfl⟩) rfl (Wp.mono h ?_)
  rintro _ m1 ⟨rfl, h⟩
  change Wp _ _ 11 _ [] _ _
  refine w_aload_n (q := 12) hm116 ⟨⟨_, _, rfl⟩, rfl⟩ rfl ?_
  refine w_getr (q := 15) hm116 ⟨⟨_, _, rfl⟩, rfl⟩ rfl ?_
  exact w_reta hm116 ⟨⟨_, _, rfl⟩, rfl⟩ rfl h
theorem v_X7_hourOfDay_47 {d : Nat} {m : dM} {Q : Int32 → dM → Prop} (h : Q ((m.1 47 0) - (m.1 47 0) / (24 : Int32) * (24 : Int32)) m) : c_X7_hourOfDay_47 (d + 1) m Q := by
  refine w_aload_n (q := 1) hm212 ⟨⟨_, _, rfl⟩, rfl⟩ rfl ?_
  refine w_getf (q := 4) (v := (m.1 47 0)) hm212 ⟨⟨_, _, rfl⟩, rfl⟩ rfl rfl ?_
  refine w_bipush (q := 6) hm212 ⟨⟨_, _, rfl⟩, rfl⟩ bipush_24 ?_
  refine w_irem (q := 7) hm212 ⟨⟨_, _, rfl⟩, rfl⟩ (by decide) ?_
  exact w_reti hm212 ⟨⟨_, _, rfl⟩, rfl⟩ rfl h
theorem v_X7_day_47 {d : Nat} {m : dM} {Q : Int32 → dM → Prop} (h : Q ((m.1 47 0) / (24 : Int32)) m) : c_X7_day_47 (d + 1) m Q := by
  refine w_aload_n (q := 1) hm213 ⟨⟨_, _, rfl⟩, rfl⟩ rfl ?_
  refine w_getf (q := 4) (v := (m.1 47 0)) hm213 ⟨⟨_, _, rfl⟩, rfl⟩ rfl rfl ?_
  refine w_bipush (q := 6) hm213 ⟨⟨_, _, rfl⟩, rfl⟩ bipush_24 ?_
  refine w_idiv (q := 7) hm213 ⟨⟨_, _, rfl⟩, rfl⟩ (by decide) ?_
  exact w_reti hm213 ⟨⟨_, _, rfl⟩, rfl⟩ rfl h
theorem v_J7_fill_55 {d : Nat} {x1 : Int32} {m : dM} {Q : dM → Prop} (h : j_J7_fill_55_5 (d + 1) x1 (0 : Int32) (9 : Int32) m Q) : c_J7_fill_55 (d + 1) x1 m Q := by
  refine w_iconst (q := 1) hm286 ⟨⟨_, _, rfl⟩, rfl⟩ iconst_0 ?_
  refine w_istore_n (q := 2) (l' := [oR 55, oI x1, oI (0 : Int32), none]) hm286 ⟨⟨_, _, rfl⟩, rfl⟩ rfl rfl rfl ?_
  refine w_aload_n (q := 3) hm286 ⟨⟨_, _, rfl⟩, rfl⟩ rfl ?_
  refine w_alen (q := 4) hm286 ⟨⟨_, _, rfl⟩, rfl⟩ rfl alen_9 ?_
  refine w_istore_n (q := 5) (l' := [oR 55, oI x1, oI (0 : Int32), oI (9 : Int32)]) hm286 ⟨⟨_, _, rfl⟩, rfl⟩ rfl rfl rfl ?_
  exact h
theorem v_J7_fill_55_5 {d : Nat} {x1 : Int32} {x2 : Int32} {x3 : Int32} {m : dM} {Q : dM → Prop} (h : ((x3.toInt ≤ x2.toInt → Q m) ∧ (x2.toInt < x3.toInt → ((0 ≤ x2.toInt ∧ x2.toInt < 9) ∧ j_J7_fill_55_5 (d + 1) x1 (x2 + (1 : Int32)) x3 (dSet m 55 x2.toNatClampNeg x1) Q)))) : j_J7_fill_55_5 (d + 1) x1 x2 x3 m Q := by
  refine w_iload_n (q := 6) hm286 ⟨⟨_, _, rfl⟩, rfl⟩ rfl ?_
  refine w_iload_n (q := 7) hm286 ⟨⟨_, _, rfl⟩, rfl⟩ rfl ?_
  refine w_icmp_ge (q := 10) (X := x2.toInt) (Y := x3.toInt) hm286 ⟨⟨_, _, rfl⟩, rfl⟩ rfl rfl (fun hc => ?_) (fun hc => ?_)
  · have h := h.1 hc
    exact w_retv hm286 ⟨⟨_, _, rfl⟩, rfl⟩ rfl h
  · have h := h.2 hc
    refine w_aload_n (q := 11) hm286 ⟨⟨_, _, rfl⟩, rfl⟩ rfl ?_
    refine w_iload_n (q := 12) hm286 ⟨⟨_, _, rfl⟩, rfl⟩ rfl ?_
    refine w_iload_n (q := 13) hm286 ⟨⟨_, _, rfl⟩, rfl⟩ rfl ?_
    obtain ⟨hi, h⟩ := h
    refine w_iast (q := 14) hm286 ⟨⟨_, _, rfl⟩, rfl⟩ rfl hi rfl rfl ?_
    refine w_iinc (q := 17) (l' := [oR 55, oI x1, oI (x2 + (1 : Int32)), oI x3]) hm286 ⟨⟨_, _, rfl⟩, rfl⟩ rfl rfl rfl iconst_1 rfl ?_
    refine w_goto (q := 5) hm286 ⟨_, _, rfl⟩ ?_
    exact h
theorem v_X0_setVars_54 {d : Nat} {x1 : Int32} {x2 : Int32} {x3 : Int32} {m : dM} {Q : dM → Prop} (h : c_J7_fill_55 d (0 : Int32) m (fun m1 => Q (dSet (dSet (dSet m1 55 3 x1) 55 4 x2) 55 8 x3))) : c_X0_setVars_54 (d + 1) x1 x2 x3 m Q := by
  refine w_aload_n (q := 1) hm125 ⟨⟨_, _, rfl⟩, rfl⟩ rfl ?_
  refine w_getr (q := 4) hm125 ⟨⟨_, _, rfl⟩, rfl⟩ rfl ?_
  refine w_iconst (q := 5) hm125 ⟨⟨_, _, rfl⟩, rfl⟩ iconst_0 ?_
  refine w_call (q := 8) (n := 2) (vs := [.inr (.inr (some 55)), .inl (0 : Int32)]) (rest := []) (la := [oR 55, oI (0 : Int32), none, none]) hm125 ⟨⟨_, _, rfl⟩, rfl⟩ rfl rfl rfl rfl hm286 rfl rfl (fun hz => absurd hz (by decide)) rfl (Wp.mono h ?_)
  rintro _ m1 ⟨rfl, h⟩
  change Wp _ _ 8 _ [] _ _
  refine w_aload_n (q := 9) hm125 ⟨⟨_, _, rfl⟩, rfl⟩ rfl ?_
  refine w_getr (q := 12) hm125 ⟨⟨_, _, rfl⟩, rfl⟩ rfl ?_
  refine w_iconst (q := 13) hm125 ⟨⟨_, _, rfl⟩, rfl⟩ iconst_3 ?_
  refine w_iload_n (q := 14) hm125 ⟨⟨_, _, rfl⟩, rfl⟩ rfl ?_
  refine w_iast (q := 15) (j := 3) hm125 ⟨⟨_, _, rfl⟩, rfl⟩ rfl (by decide) (by decide) rfl ?_
  refine w_aload_n (q := 16) hm125 ⟨⟨_, _, rfl⟩, rfl⟩ rfl ?_
  refine w_getr (q := 19) hm125 ⟨⟨_, _, rfl⟩, rfl⟩ rfl ?_
  refine w_iconst (q := 20) hm125 ⟨⟨_, _, rfl⟩, rfl⟩ iconst_4 ?_
  refine w_iload_n (q := 21) hm125 ⟨⟨_, _, rfl⟩, rfl⟩ rfl ?_
  refine w_iast (q := 22) (j := 4) hm125 ⟨⟨_, _, rfl⟩, rfl⟩ rfl (by decide) (by decide) rfl ?_
  refine w_aload_n (q := 23) hm125 ⟨⟨_, _, rfl⟩, rfl⟩ rfl ?_
  refine w_getr (q := 26) hm125 ⟨⟨_, _, rfl⟩, rfl⟩ rfl ?_
  refine w_bipush (q := 28) hm125 ⟨⟨_, _, rfl⟩, rfl⟩ bipush_8 ?_
  refine w_iload_n (q := 29) hm125 ⟨⟨_, _, rfl⟩, rfl⟩ rfl ?_
  refine w_iast (q := 30) (j := 8) hm125 ⟨⟨_, _, rfl⟩, rfl⟩ rfl (by decide) (by decide) rfl ?_
  exact w_retv hm125 ⟨⟨_, _, rfl⟩, rfl⟩ rfl h
theorem v_X4_worked_11 {d : Nat} {x1 : Int32} {x2 : Int32} {x3 : Int32} {m : dM} {Q : Int32 → dM → Prop} (h : ((x1.toInt = 0 → Q (x2 + x3) m) ∧ (x1.toInt = 1 → Q (x2 - x3) m) ∧ (x1.toInt = 2 → Q (x2 * x3) m) ∧ (x1.toInt < 0 ∨ 2 < x1.toInt → ((x3.toInt ≠ 0 → (x3 ≠ 0 ∧ Q (x2 / x3) m)) ∧ (x3.toInt = 0 → Q (0 : Int32) (dSet m 11 5 (1 : Int32))))))) : c_X4_worked_11 (d + 1) x1 x2 x3 m Q := by
  refine w_iload_n (q := 1) hm183 ⟨⟨_, _, rfl⟩, rfl⟩ rfl ?_
  refine w_tsw (X := x1.toInt) hm183 ⟨_, _, rfl⟩ (by decide) (by decide) rfl ((And.intro (fun hc => ?_) (And.intro (fun hc => ?_) (And.intro (fun hc => ?_) trivial)))) (fun hc => ?_)
  · have h := (h.1) hc
    change Wp _ _ 28 _ _ _ _
    refine w_iload_n (q := 29) hm183 ⟨⟨_, _, rfl⟩, rfl⟩ rfl ?_
    refine w_iload_n (q := 30) hm183 ⟨⟨_, _, rfl⟩, rfl⟩ rfl ?_
    refine w_iadd (q := 31) hm183 ⟨⟨_, _, rfl⟩, rfl⟩ ?_
    exact w_reti hm183 ⟨⟨_, _, rfl⟩, rfl⟩ rfl h
  · have h := (h.2.1) hc
    change Wp _ _ 32 _ _ _ _
    refine w_iload_n (q := 33) hm183 ⟨⟨_, _, rfl⟩, rfl⟩ rfl ?_
    refine w_iload_n (q := 34) hm183 ⟨⟨_, _, rfl⟩, rfl⟩ rfl ?_
    refine w_isub (q := 35) hm183 ⟨⟨_, _, rfl⟩, rfl⟩ ?_
    exact w_reti hm183 ⟨⟨_, _, rfl⟩, rfl⟩ rfl h
  · have h := (h.2.2.1) hc
    change Wp _ _ 36 _ _ _ _
    refine w_iload_n (q := 37) hm183 ⟨⟨_, _, rfl⟩, rfl⟩ rfl ?_
    refine w_iload_n (q := 38) hm183 ⟨⟨_, _, rfl⟩, rfl⟩ rfl ?_
    refine w_imul (q := 39) hm183 ⟨⟨_, _, rfl⟩, rfl⟩ ?_
    exact w_reti hm183 ⟨⟨_, _, rfl⟩, rfl⟩ rfl h
  · have h := (h.2.2.2) hc
    change Wp _ _ 40 _ _ _ _
    refine w_iload_n (q := 41) hm183 ⟨⟨_, _, rfl⟩, rfl⟩ rfl ?_
    refine w_if_ne (q := 44) (X := x3.toInt) hm183 ⟨⟨_, _, rfl⟩, rfl⟩ rfl (fun hc => ?_) (fun hc => ?_)
    · have h := h.1 hc
      refine w_iload_n (q := 52) hm183 ⟨⟨_, _, rfl⟩, rfl⟩ rfl ?_
      refine w_iload_n (q := 53) hm183 ⟨⟨_, _, rfl⟩, rfl⟩ rfl ?_
      obtain ⟨hz, h⟩ := h
      refine w_idiv (q := 54) hm183 ⟨⟨_, _, rfl⟩, rfl⟩ hz ?_
      exact w_reti hm183 ⟨⟨_, _, rfl⟩, rfl⟩ rfl h
    · have h := h.2 hc
      refine w_aload_n (q := 45) hm183 ⟨⟨_, _, rfl⟩, rfl⟩ rfl ?_
      refine w_iconst (q := 46) hm183 ⟨⟨_, _, rfl⟩, rfl⟩ iconst_1 ?_
      refine w_putz (q := 49) hm183 ⟨⟨_, _, rfl⟩, rfl⟩ rfl rfl (by decide) rfl ?_
      refine w_iconst (q := 50) hm183 ⟨⟨_, _, rfl⟩, rfl⟩ iconst_0 ?_
      exact w_reti hm183 ⟨⟨_, _, rfl⟩, rfl⟩ rfl h
theorem v_X4_pieceTells_11_55 {d : Nat} {x1 : Int32} {x2 : Int32} {m : dM} {Q : Int32 → dM → Prop} (h : ((x2.toInt < 0 → j_X4_pieceTells_11_55_10 (d + 1) m Q) ∧ (0 ≤ x2.toInt → ((x2.toInt < 13 → ((0 ≤ x1.toInt ∧ x1.toInt < 4) ∧ (x1.toInt = 0 → ((0 ≤ (x2 + (1 : Int32)).toInt ∧ (x2 + (1 : Int32)).toInt < 14) ∧ ((0 ≤ x1.toInt ∧ x1.toInt < 4) ∧ (x1.toInt = 0 → ((0 ≤ x2.toInt ∧ x2.toInt < 14) ∧ j_X4_pieceTells_11_55_37 (d + 1) (0 : Int32) (m.1 14 (x2 + (1 : Int32)).toNatClampNeg) (m.1 14 x2.toNatClampNeg) m Q)) ∧ (x1.toInt = 1 → ((0 ≤ x2.toInt ∧ x2.toInt < 14) ∧ j_X4_pieceTells_11_55_37 (d + 1) (0 : Int32) (m.1 14 (x2 + (1 : Int32)).toNatClampNeg) (m.1 15 x2.toNatClampNeg) m Q)) ∧ (x1.toInt = 2 → ((0 ≤ x2.toInt ∧ x2.toInt < 14) ∧ j_X4_pieceTells_11_55_37 (d + 1) (0 : Int32) (m.1 14 (x2 + (1 : Int32)).toNatClampNeg) (m.1 16 x2.toNatClampNeg) m Q)) ∧ (x1.toInt = 3 → ((0 ≤ x2.toInt ∧ x2.toInt < 14) ∧ j_X4_pieceTells_11_55_37 (d + 1) (0 : Int32) (m.1 14 (x2 + (1 : Int32)).toNatClampNeg) (m.1 17 x2.toNatClampNeg) m Q))))) ∧ (x1.toInt = 1 → ((0 ≤ (x2 + (1 : Int32)).toInt ∧ (x2 + (1 : Int32)).toInt < 14) ∧ ((0 ≤ x1.toInt ∧ x1.toInt < 4) ∧ (x1.toInt = 0 → ((0 ≤ x2.toInt ∧ x2.toInt < 14) ∧ j_X4_pieceTells_11_55_37 (d + 1) (0 : Int32) (m.1 15 (x2 + (1 : Int32)).toNatClampNeg) (m.1 14 x2.toNatClampNeg) m Q)) ∧ (x1.toInt = 1 → ((0 ≤ x2.toInt ∧ x2.toInt < 14) ∧ j_X4_pieceTells_11_55_37 (d + 1) (0 : Int32) (m.1 15 (x2 + (1 : Int32)).toNatClampNeg) (m.1 15 x2.toNatClampNeg) m Q)) ∧ (x1.toInt = 2 → ((0 ≤ x2.toInt ∧ x2.toInt < 14) ∧ j_X4_pieceTells_11_55_37 (d + 1) (0 : Int32) (m.1 15 (x2 + (1 : Int32)).toNatClampNeg) (m.1 16 x2.toNatClampNeg) m Q)) ∧ (x1.toInt = 3 → ((0 ≤ x2.toInt ∧ x2.toInt < 14) ∧ j_X4_pieceTells_11_55_37 (d + 1) (0 : Int32) (m.1 15 (x2 + (1 : Int32)).toNatClampNeg) (m.1 17 x2.toNatClampNeg) m Q))))) ∧ (x1.toInt = 2 → ((0 ≤ (x2 + (1 : Int32)).toInt ∧ (x2 + (1 : Int32)).toInt < 14) ∧ ((0 ≤ x1.toInt ∧ x1.toInt < 4) ∧ (x1.toInt = 0 → ((0 ≤ x2.toInt ∧ x2.toInt < 14) ∧ j_X4_pieceTells_11_55_37 (d + 1) (0 : Int32) (m.1 16 (x2 + (1 : Int32)).toNatClampNeg) (m.1 14 x2.toNatClampNeg) m Q)) ∧ (x1.toInt = 1 → ((0 ≤ x2.toInt ∧ x2.toInt < 14) ∧ j_X4_pieceTells_11_55_37 (d + 1) (0 : Int32) (m.1 16 (x2 + (1 : Int32)).toNatClampNeg) (m.1 15 x2.toNatClampNeg) m Q)) ∧ (x1.toInt = 2 → ((0 ≤ x2.toInt ∧ x2.toInt < 14) ∧ j_X4_pieceTells_11_55_37 (d + 1) (0 : Int32) (m.1 16 (x2 + (1 : Int32)).toNatClampNeg) (m.1 16 x2.toNatClampNeg) m Q)) ∧ (x1.toInt = 3 → ((0 ≤ x2.toInt ∧ x2.toInt < 14) ∧ j_X4_pieceTells_11_55_37 (d + 1) (0 : Int32) (m.1 16 (x2 + (1 : Int32)).toNatClampNeg) (m.1 17 x2.toNatClampNeg) m Q))))) ∧ (x1.toInt = 3 → ((0 ≤ (x2 + (1 : Int32)).toInt ∧ (x2 + (1 : Int32)).toInt < 14) ∧ ((0 ≤ x1.toInt ∧ x1.toInt < 4) ∧ (x1.toInt = 0 → ((0 ≤ x2.toInt ∧ x2.toInt < 14) ∧ j_X4_pieceTells_11_55_37 (d + 1) (0 : Int32) (m.1 17 (x2 + (1 : Int32)).toNatClampNeg) (m.1 14 x2.toNatClampNeg) m Q)) ∧ (x1.toInt = 1 → ((0 ≤ x2.toInt ∧ x2.toInt < 14) ∧ j_X4_pieceTells_11_55_37 (d + 1) (0 : Int32) (m.1 17 (x2 + (1 : Int32)).toNatClampNeg) (m.1 15 x2.toNatClampNeg) m Q)) ∧ (x1.toInt = 2 → ((0 ≤ x2.toInt ∧ x2.toInt < 14) ∧ j_X4_pieceTells_11_55_37 (d + 1) (0 : Int32) (m.1 17 (x2 + (1 : Int32)).toNatClampNeg) (m.1 16 x2.toNatClampNeg) m Q)) ∧ (x1.toInt = 3 → ((0 ≤ x2.toInt ∧ x2.toInt < 14) ∧ j_X4_pieceTells_11_55_37 (d + 1) (0 : Int32) (m.1 17 (x2 + (1 : Int32)).toNatClampNeg) (m.1 17 x2.toNatClampNeg) m Q))))))) ∧ (13 ≤ x2.toInt → j_X4_pieceTells_11_55_10 (d + 1) m Q))))) : c_X4_pieceTells_11_55 (d + 1) x1 x2 m Q := by
  refine w_iload_n (q := 1) hm182 ⟨⟨_, _, rfl⟩, rfl⟩ rfl ?_
  refine w_if_lt (q := 4) (X := x2.toInt) hm182 ⟨⟨_, _, rfl⟩, rfl⟩ rfl (fun hc => ?_) (fun hc => ?_)
  · have h := h.1 hc
    exact Wp.wk [false, false, false, false, false, false, false, false] h
  · have h := h.2 hc
    refine w_iload_n (q := 5) hm182 ⟨⟨_, _, rfl⟩, rfl⟩ rfl ?_
    refine w_bipush (q := 7) hm182 ⟨⟨_, _, rfl⟩, rfl⟩ bipush_13 ?_
    refine w_icmp_lt (q := 10) (X := x2.toInt) (Y := 13) hm182 ⟨⟨_, _, rfl⟩, rfl⟩ rfl (by decide) (fun hc => ?_) (fun hc => ?_)
    · have h := h.1 hc
      refine w_iconst (q := 13) hm182 ⟨⟨_, _, rfl⟩, rfl⟩ iconst_0 ?_
      refine w_istore (q := 15) (l' := [oR 11, oI x1, oI x2, oR 55, oI (0 : Int32), none, none, none]) hm182 ⟨⟨_, _, rfl⟩, rfl⟩ rfl rfl rfl ?_
      refine w_aload_n (q := 16) hm182 ⟨⟨_, _, rfl⟩, rfl⟩ rfl ?_
      refine w_getr (q := 19) hm182 ⟨⟨_, _, rfl⟩, rfl⟩ rfl ?_
      refine w_iload_n (q := 20) hm182 ⟨⟨_, _, rfl⟩, rfl⟩ rfl ?_
      obtain ⟨hi, h⟩ := h
      refine w_aald (q := 21) hm182 ⟨⟨_, _, rfl⟩, rfl⟩ rfl rfl hi ((And.intro (fun hc => ?_) (And.intro (fun hc => ?_) (And.intro (fun hc => ?_) (And.intro (fun hc => ?_) trivial)))))
      · have h := (h.1) hc
        refine w_iload_n (q := 22) hm182 ⟨⟨_, _, rfl⟩, rfl⟩ rfl ?_
        refine w_iconst (q := 23) hm182 ⟨⟨_, _, rfl⟩, rfl⟩ iconst_1 ?_
        refine w_iadd (q := 24) hm182 ⟨⟨_, _, rfl⟩, rfl⟩ ?_
        obtain ⟨hi, h⟩ := h
        refine w_iald (q := 25) (v := (m.1 14 (x2 + (1 : Int32)).toNatClampNeg)) hm182 ⟨⟨_, _, rfl⟩, rfl⟩ rfl hi rfl rfl ?_
        refine w_istore (q := 27) (l' := [oR 11, oI x1, oI x2, oR 55, oI (0 : Int32), oI (m.1 14 (x2 + (1 : Int32)).toNatClampNeg), none, none]) hm182 ⟨⟨_, _, rfl⟩, rfl⟩ rfl rfl rfl ?_
        refine w_aload_n (q := 28) hm182 ⟨⟨_, _, rfl⟩, rfl⟩ rfl ?_
        refine w_getr (q := 31) hm182 ⟨⟨_, _, rfl⟩, rfl⟩ rfl ?_
        refine w_iload_n (q := 32) hm182 ⟨⟨_, _, rfl⟩, rfl⟩ rfl ?_
        obtain ⟨hi, h⟩ := h
        refine w_aald (q := 33) hm182 ⟨⟨_, _, rfl⟩, rfl⟩ rfl rfl hi ((And.intro (fun hc => ?_) (And.intro (fun hc => ?_) (And.intro (fun hc => ?_) (And.intro (fun hc => ?_) trivial)))))
        · have h := (h.1) hc
          refine w_iload_n (q := 34) hm182 ⟨⟨_, _, rfl⟩, rfl⟩ rfl ?_
          obtain ⟨hi, h⟩ := h
          refine w_iald (q := 35) (v := (m.1 14 x2.toNatClampNeg)) hm182 ⟨⟨_, _, rfl⟩, rfl⟩ rfl hi rfl rfl ?_
          refine w_istore (q := 37) (l' := [oR 11, oI x1, oI x2, oR 55, oI (0 : Int32), oI (m.1 14 (x2 + (1 : Int32)).toNatClampNeg), oI (m.1 14 x2.toNatClampNeg), none]) hm182 ⟨⟨_, _, rfl⟩, rfl⟩ rfl rfl rfl ?_
          exact Wp.wk [true, false, false, true, true, true, true, false] h
        · have h := (h.2.1) hc
          refine w_iload_n (q := 34) hm182 ⟨⟨_, _, rfl⟩, rfl⟩ rfl ?_
          obtain ⟨hi, h⟩ := h
          refine w_iald (q := 35) (v := (m.1 15 x2.toNatClampNeg)) hm182 ⟨⟨_, _, rfl⟩, rfl⟩ rfl hi rfl rfl ?_
          refine w_istore (q := 37) (l' := [oR 11, oI x1, oI x2, oR 55, oI (0 : Int32), oI (m.1 14 (x2 + (1 : Int32)).toNatClampNeg), oI (m.1 15 x2.toNatClampNeg), none]) hm182 ⟨⟨_, _, rfl⟩, rfl⟩ rfl rfl rfl ?_
          exact Wp.wk [true, false, false, true, true, true, true, false] h
        · have h := (h.2.2.1) hc
          refine w_iload_n (q := 34) hm182 ⟨⟨_, _, rfl⟩, rfl⟩ rfl ?_
          obtain ⟨hi, h⟩ := h
          refine w_iald (q := 35) (v := (m.1 16 x2.toNatClampNeg)) hm182 ⟨⟨_, _, rfl⟩, rfl⟩ rfl hi rfl rfl ?_
          refine w_istore (q := 37) (l' := [oR 11, oI x1, oI x2, oR 55, oI (0 : Int32), oI (m.1 14 (x2 + (1 : Int32)).toNatClampNeg), oI (m.1 16 x2.toNatClampNeg), none]) hm182 ⟨⟨_, _, rfl⟩, rfl⟩ rfl rfl rfl ?_
          exact Wp.wk [true, false, false, true, true, true, true, false] h
        · have h := (h.2.2.2) hc
          refine w_iload_n (q := 34) hm182 ⟨⟨_, _, rfl⟩, rfl⟩ rfl ?_
          obtain ⟨hi, h⟩ := h
          refine w_iald (q := 35) (v := (m.1 17 x2.toNatClampNeg)) hm182 ⟨⟨_, _, rfl⟩, rfl⟩ rfl hi rfl rfl ?_
          refine w_istore (q := 37) (l' := [oR 11, oI x1, oI x2, oR 55, oI (0 : Int32), oI (m.1 14 (x2 + (1 : Int32)).toNatClampNeg), oI (m.1 17 x2.toNatClampNeg), none]) hm182 ⟨⟨_, _, rfl⟩, rfl⟩ rfl rfl rfl ?_
          exact Wp.wk [true, false, false, true, true, true, true, false] h
      · have h := (h.2.1) hc
        refine w_iload_n (q := 22) hm182 ⟨⟨_, _, rfl⟩, rfl⟩ rfl ?_
        refine w_iconst (q := 23) hm182 ⟨⟨_, _, rfl⟩, rfl⟩ iconst_1 ?_
        refine w_iadd (q := 24) hm182 ⟨⟨_, _, rfl⟩, rfl⟩ ?_
        obtain ⟨hi, h⟩ := h
        refine w_iald (q := 25) (v := (m.1 15 (x2 + (1 : Int32)).toNatClampNeg)) hm182 ⟨⟨_, _, rfl⟩, rfl⟩ rfl hi rfl rfl ?_
        refine w_istore (q := 27) (l' := [oR 11, oI x1, oI x2, oR 55, oI (0 : Int32), oI (m.1 15 (x2 + (1 : Int32)).toNatClampNeg), none, none]) hm182 ⟨⟨_, _, rfl⟩, rfl⟩ rfl rfl rfl ?_
        refine w_aload_n (q := 28) hm182 ⟨⟨_, _, rfl⟩, rfl⟩ rfl ?_
        refine w_getr (q := 31) hm182 ⟨⟨_, _, rfl⟩, rfl⟩ rfl ?_
        refine w_iload_n (q := 32) hm182 ⟨⟨_, _, rfl⟩, rfl⟩ rfl ?_
        obtain ⟨hi, h⟩ := h
        refine w_aald (q := 33) hm182 ⟨⟨_, _, rfl⟩, rfl⟩ rfl rfl hi ((And.intro (fun hc => ?_) (And.intro (fun hc => ?_) (And.intro (fun hc => ?_) (And.intro (fun hc => ?_) trivial)))))
        · have h := (h.1) hc
          refine w_iload_n (q := 34) hm182 ⟨⟨_, _, rfl⟩, rfl⟩ rfl ?_
          obtain ⟨hi, h⟩ := h
          refine w_iald (q := 35) (v := (m.1 14 x2.toNatClampNeg)) hm182 ⟨⟨_, _, rfl⟩, rfl⟩ rfl hi rfl rfl ?_
          refine w_istore (q := 37) (l' := [oR 11, oI x1, oI x2, oR 55, oI (0 : Int32), oI (m.1 15 (x2 + (1 : Int32)).toNatClampNeg), oI (m.1 14 x2.toNatClampNeg), none]) hm182 ⟨⟨_, _, rfl⟩, rfl⟩ rfl rfl rfl ?_
          exact Wp.wk [true, false, false, true, true, true, true, false] h
        · have h := (h.2.1) hc
          refine w_iload_n (q := 34) hm182 ⟨⟨_, _, rfl⟩, rfl⟩ rfl ?_
          obtain ⟨hi, h⟩ := h
          refine w_iald (q := 35) (v := (m.1 15 x2.toNatClampNeg)) hm182 ⟨⟨_, _, rfl⟩, rfl⟩ rfl hi rfl rfl ?_
          refine w_istore (q := 37) (l' := [oR 11, oI x1, oI x2, oR 55, oI (0 : Int32), oI (m.1 15 (x2 + (1 : Int32)).toNatClampNeg), oI (m.1 15 x2.toNatClampNeg), none]) hm182 ⟨⟨_, _, rfl⟩, rfl⟩ rfl rfl rfl ?_
          exact Wp.wk [true, false, false, true, true, true, true, false] h
        · have h := (h.2.2.1) hc
          refine w_iload_n (q := 34) hm182 ⟨⟨_, _, rfl⟩, rfl⟩ rfl ?_
          obtain ⟨hi, h⟩ := h
          refine w_iald (q := 35) (v := (m.1 16 x2.toNatClampNeg)) hm182 ⟨⟨_, _, rfl⟩, rfl⟩ rfl hi rfl rfl ?_
          refine w_istore (q := 37) (l' := [oR 11, oI x1, oI x2, oR 55, oI (0 : Int32), oI (m.1 15 (x2 + (1 : Int32)).toNatClampNeg), oI (m.1 16 x2.toNatClampNeg), none]) hm182 ⟨⟨_, _, rfl⟩, rfl⟩ rfl rfl rfl ?_
          exact Wp.wk [true, false, false, true, true, true, true, false] h
        · have h := (h.2.2.2) hc
          refine w_iload_n (q := 34) hm182 ⟨⟨_, _, rfl⟩, rfl⟩ rfl ?_
          obtain ⟨hi, h⟩ := h
          refine w_iald (q := 35) (v := (m.1 17 x2.toNatClampNeg)) hm182 ⟨⟨_, _, rfl⟩, rfl⟩ rfl hi rfl rfl ?_
          refine w_istore (q := 37) (l' := [oR 11, oI x1, oI x2, oR 55, oI (0 : Int32), oI (m.1 15 (x2 + (1 : Int32)).toNatClampNeg), oI (m.1 17 x2.toNatClampNeg), none]) hm182 ⟨⟨_, _, rfl⟩, rfl⟩ rfl rfl rfl ?_
          exact Wp.wk [true, false, false, true, true, true, true, false] h
      · have h := (h.2.2.1) hc
        refine w_iload_n (q := 22) hm182 ⟨⟨_, _, rfl⟩, rfl⟩ rfl ?_
        refine w_iconst (q := 23) hm182 ⟨⟨_, _, rfl⟩, rfl⟩ iconst_1 ?_
        refine w_iadd (q := 24) hm182 ⟨⟨_, _, rfl⟩, rfl⟩ ?_
        obtain ⟨hi, h⟩ := h
        refine w_iald (q := 25) (v := (m.1 16 (x2 + (1 : Int32)).toNatClampNeg)) hm182 ⟨⟨_, _, rfl⟩, rfl⟩ rfl hi rfl rfl ?_
        refine w_istore (q := 27) (l' := [oR 11, oI x1, oI x2, oR 55, oI (0 : Int32), oI (m.1 16 (x2 + (1 : Int32)).toNatClampNeg), none, none]) hm182 ⟨⟨_, _, rfl⟩, rfl⟩ rfl rfl rfl ?_
        refine w_aload_n (q := 28) hm182 ⟨⟨_, _, rfl⟩, rfl⟩ rfl ?_
        refine w_getr (q := 31) hm182 ⟨⟨_, _, rfl⟩, rfl⟩ rfl ?_
        refine w_iload_n (q := 32) hm182 ⟨⟨_, _, rfl⟩, rfl⟩ rfl ?_
        obtain ⟨hi, h⟩ := h
        refine w_aald (q := 33) hm182 ⟨⟨_, _, rfl⟩, rfl⟩ rfl rfl hi ((And.intro (fun hc => ?_) (And.intro (fun hc => ?_) (And.intro (fun hc => ?_) (And.intro (fun hc => ?_) trivial)))))
        · have h := (h.1) hc
          refine w_iload_n (q := 34) hm182 ⟨⟨_, _, rfl⟩, rfl⟩ rfl ?_
          obtain ⟨hi, h⟩ := h
          refine w_iald (q := 35) (v := (m.1 14 x2.toNatClampNeg)) hm182 ⟨⟨_, _, rfl⟩, rfl⟩ rfl hi rfl rfl ?_
          refine w_istore (q := 37) (l' := [oR 11, oI x1, oI x2, oR 55, oI (0 : Int32), oI (m.1 16 (x2 + (1 : Int32)).toNatClampNeg), oI (m.1 14 x2.toNatClampNeg), none]) hm182 ⟨⟨_, _, rfl⟩, rfl⟩ rfl rfl rfl ?_
          exact Wp.wk [true, false, false, true, true, true, true, false] h
        · have h := (h.2.1) hc
          refine w_iload_n (q := 34) hm182 ⟨⟨_, _, rfl⟩, rfl⟩ rfl ?_
          obtain ⟨hi, h⟩ := h
          refine w_iald (q := 35) (v := (m.1 15 x2.toNatClampNeg)) hm182 ⟨⟨_, _, rfl⟩, rfl⟩ rfl hi rfl rfl ?_
          refine w_istore (q := 37) (l' := [oR 11, oI x1, oI x2, oR 55, oI (0 : Int32), oI (m.1 16 (x2 + (1 : Int32)).toNatClampNeg), oI (m.1 15 x2.toNatClampNeg), none]) hm182 ⟨⟨_, _, rfl⟩, rfl⟩ rfl rfl rfl ?_
          exact Wp.wk [true, false, false, true, true, true, true, false] h
        · have h := (h.2.2.1) hc
          refine w_iload_n (q := 34) hm182 ⟨⟨_, _, rfl⟩, rfl⟩ rfl ?_
          obtain ⟨hi, h⟩ := h
          refine w_iald (q := 35) (v := (m.1 16 x2.toNatClampNeg)) hm182 ⟨⟨_, _, rfl⟩, rfl⟩ rfl hi rfl rfl ?_
          refine w_istore (q := 37) (l' := [oR 11, oI x1, oI x2, oR 55, oI (0 : Int32), oI (m.1 16 (x2 + (1 : Int32)).toNatClampNeg), oI (m.1 16 x2.toNatClampNeg), none]) hm182 ⟨⟨_, _, rfl⟩, rfl⟩ rfl rfl rfl ?_
          exact Wp.wk [true, false, false, true, true, true, true, false] h
        · have h := (h.2.2.2) hc
          refine w_iload_n (q := 34) hm182 ⟨⟨_, _, rfl⟩, rfl⟩ rfl ?_
          obtain ⟨hi, h⟩ := h
          refine w_iald (q := 35) (v := (m.1 17 x2.toNatClampNeg)) hm182 ⟨⟨_, _, rfl⟩, rfl⟩ rfl hi rfl rfl ?_
          refine w_istore (q := 37) (l' := [oR 11, oI x1, oI x2, oR 55, oI (0 : Int32), oI (m.1 16 (x2 + (1 : Int32)).toNatClampNeg), oI (m.1 17 x2.toNatClampNeg), none]) hm182 ⟨⟨_, _, rfl⟩, rfl⟩ rfl rfl rfl ?_
          exact Wp.wk [true, false, false, true, true, true, true, false] h
      · have h := (h.2.2.2) hc
        refine w_iload_n (q := 22) hm182 ⟨⟨_, _, rfl⟩, rfl⟩ rfl ?_
        refine w_iconst (q := 23) hm182 ⟨⟨_, _, rfl⟩, rfl⟩ iconst_1 ?_
        refine w_iadd (q := 24) hm182 ⟨⟨_, _, rfl⟩, rfl⟩ ?_
        obtain ⟨hi, h⟩ := h
        refine w_iald (q := 25) (v := (m.1 17 (x2 + (1 : Int32)).toNatClampNeg)) hm182 ⟨⟨_, _, rfl⟩, rfl⟩ rfl hi rfl rfl ?_
        refine w_istore (q := 27) (l' := [oR 11, oI x1, oI x2, oR 55, oI (0 : Int32), oI (m.1 17 (x2 + (1 : Int32)).toNatClampNeg), none, none]) hm182 ⟨⟨_, _, rfl⟩, rfl⟩ rfl rfl rfl ?_
        refine w_aload_n (q := 28) hm182 ⟨⟨_, _, rfl⟩, rfl⟩ rfl ?_
        refine w_getr (q := 31) hm182 ⟨⟨_, _, rfl⟩, rfl⟩ rfl ?_
        refine w_iload_n (q := 32) hm182 ⟨⟨_, _, rfl⟩, rfl⟩ rfl ?_
        obtain ⟨hi, h⟩ := h
        refine w_aald (q := 33) hm182 ⟨⟨_, _, rfl⟩, rfl⟩ rfl rfl hi ((And.intro (fun hc => ?_) (And.intro (fun hc => ?_) (And.intro (fun hc => ?_) (And.intro (fun hc => ?_) trivial)))))
        · have h := (h.1) hc
          refine w_iload_n (q := 34) hm182 ⟨⟨_, _, rfl⟩, rfl⟩ rfl ?_
          obtain ⟨hi, h⟩ := h
          refine w_iald (q := 35) (v := (m.1 14 x2.toNatClampNeg)) hm182 ⟨⟨_, _, rfl⟩, rfl⟩ rfl hi rfl rfl ?_
          refine w_istore (q := 37) (l' := [oR 11, oI x1, oI x2, oR 55, oI (0 : Int32), oI (m.1 17 (x2 + (1 : Int32)).toNatClampNeg), oI (m.1 14 x2.toNatClampNeg), none]) hm182 ⟨⟨_, _, rfl⟩, rfl⟩ rfl rfl rfl ?_
          exact Wp.wk [true, false, false, true, true, true, true, false] h
        · have h := (h.2.1) hc
          refine w_iload_n (q := 34) hm182 ⟨⟨_, _, rfl⟩, rfl⟩ rfl ?_
          obtain ⟨hi, h⟩ := h
          refine w_iald (q := 35) (v := (m.1 15 x2.toNatClampNeg)) hm182 ⟨⟨_, _, rfl⟩, rfl⟩ rfl hi rfl rfl ?_
          refine w_istore (q := 37) (l' := [oR 11, oI x1, oI x2, oR 55, oI (0 : Int32), oI (m.1 17 (x2 + (1 : Int32)).toNatClampNeg), oI (m.1 15 x2.toNatClampNeg), none]) hm182 ⟨⟨_, _, rfl⟩, rfl⟩ rfl rfl rfl ?_
          exact Wp.wk [true, false, false, true, true, true, true, false] h
        · have h := (h.2.2.1) hc
          refine w_iload_n (q := 34) hm182 ⟨⟨_, _, rfl⟩, rfl⟩ rfl ?_
          obtain ⟨hi, h⟩ := h
          refine w_iald (q := 35) (v := (m.1 16 x2.toNatClampNeg)) hm182 ⟨⟨_, _, rfl⟩, rfl⟩ rfl hi rfl rfl ?_
          refine w_istore (q := 37) (l' := [oR 11, oI x1, oI x2, oR 55, oI (0 : Int32), oI (m.1 17 (x2 + (1 : Int32)).toNatClampNeg), oI (m.1 16 x2.toNatClampNeg), none]) hm182 ⟨⟨_, _, rfl⟩, rfl⟩ rfl rfl rfl ?_
          exact Wp.wk [true, false, false, true, true, true, true, false] h
        · have h := (h.2.2.2) hc
          refine w_iload_n (q := 34) hm182 ⟨⟨_, _, rfl⟩, rfl⟩ rfl ?_
          obtain ⟨hi, h⟩ := h
          refine w_iald (q := 35) (v := (m.1 17 x2.toNatClampNeg)) hm182 ⟨⟨_, _, rfl⟩, rfl⟩ rfl hi rfl rfl ?_
          refine w_istore (q := 37) (l' := [oR 11, oI x1, oI x2, oR 55, oI (0 : Int32), oI (m.1 17 (x2 + (1 : Int32)).toNatClampNeg), oI (m.1 17 x2.toNatClampNeg), none]) hm182 ⟨⟨_, _, rfl⟩, rfl⟩ rfl rfl rfl ?_
          exact Wp.wk [true, false, false, true, true, true, true, false] h
    · have h := h.2 hc
      exact Wp.wk [false, false, false, false, false, false, false, false] h
theorem v_X4_pieceTells_11_55_10 {d : Nat} {m : dM} {Q : Int32 → dM → Prop} (h : Q (0 : Int32) m) : j_X4_pieceTells_11_55_10 (d + 1) m Q := by
  refine w_iconst (q := 11) hm182 ⟨⟨_, _, rfl⟩, rfl⟩ iconst_0 ?_
  exact w_reti hm182 ⟨⟨_, _, rfl⟩, rfl⟩ rfl h
theorem v_X4_pieceTells_11_55_37 {d : Nat} {x4 : Int32} {x5 : Int32} {x6 : Int32} {m : dM} {Q : Int32 → dM → Prop} (h : ((x5.toInt ≤ x6.toInt → j_X4_pieceTells_11_55_156 (d + 1) m Q) ∧ (x6.toInt < x5.toInt → ((32 ≤ x4.toInt → j_X4_pieceTells_11_55_156 (d + 1) m Q) ∧ (x4.toInt < 32 → ((0 ≤ x6.toInt ∧ x6.toInt < 406) ∧ (((m.1 12 x6.toNatClampNeg).toInt < 13 → (((m.1 12 x6.toNatClampNeg).toInt < 4 → ((x4.toInt < 2 → j_X4_pieceTells_11_55_150 (d + 1) x4 x5 x6 m Q) ∧ (2 ≤ x4.toInt → ((0 ≤ ((x4 + (-1 : Int32)) - (1 : Int32)).toInt ∧ ((x4 + (-1 : Int32)) - (1 : Int32)).toInt < 32) ∧ ((0 ≤ (x4 + (-1 : Int32)).toInt ∧ (x4 + (-1 : Int32)).toInt < 32) ∧ c_X4_worked_11 d (m.1 12 x6.toNatClampNeg) (m.1 19 ((x4 + (-1 : Int32)) - (1 : Int32)).toNatClampNeg) (m.1 19 (x4 + (-1 : Int32)).toNatClampNeg) m (fun r1 m1 => ((0 ≤ ((x4 + (-1 : Int32)) - (1 : Int32)).toInt ∧ ((x4 + (-1 : Int32)) - (1 : Int32)).toInt < 32) ∧ j_X4_pieceTells_11_55_150 (d + 1) (x4 + (-1 : Int32)) x5 x6 (dSet m1 19 ((x4 + (-1 : Int32)) - (1 : Int32)).toNatClampNeg r1) Q))))))) ∧ (4 ≤ (m.1 12 x6.toNatClampNeg).toInt → ((0 ≤ ((m.1 12 x6.toNatClampNeg) - (4 : Int32)).toInt ∧ ((m.1 12 x6.toNatClampNeg) - (4 : Int32)).toInt < 9) ∧ ((0 ≤ x4.toInt ∧ x4.toInt < 32) ∧ j_X4_pieceTells_11_55_150 (d + 1) (x4 + (1 : Int32)) x5 x6 (dSet m 19 x4.toNatClampNeg (m.1 55 ((m.1 12 x6.toNatClampNeg) - (4 : Int32)).toNatClampNeg)) Q))))) ∧ (13 ≤ (m.1 12 x6.toNatClampNeg).toInt → ((0 ≤ x4.toInt ∧ x4.toInt < 32) ∧ j_X4_pieceTells_11_55_150 (d + 1) (x4 + (1 : Int32)) x5 x6 (dSet m 19 x4.toNatClampNeg ((m.1 12 x6.toNatClampNeg) - (13 : Int32))) Q))))))))) : j_X4_pieceTells_11_55_37 (d + 1) x4 x5 x6 m Q := by
  refine w_iload (q := 39) hm182 ⟨⟨_, _, rfl⟩, rfl⟩ rfl ?_
  refine w_iload (q := 41) hm182 ⟨⟨_, _, rfl⟩, rfl⟩ rfl ?_
  refine w_icmp_ge (q := 44) (X := x6.toInt) (Y := x5.toInt) hm182 ⟨⟨_, _, rfl⟩, rfl⟩ rfl rfl (fun hc => ?_) (fun hc => ?_)
  · have h := h.1 hc
    exact Wp.wk [true, false, false, false, false, false, false, false] h
  · have h := h.2 hc
    refine w_iload (q := 46) hm182 ⟨⟨_, _, rfl⟩, rfl⟩ rfl ?_
    refine w_bipush (q := 48) hm182 ⟨⟨_, _, rfl⟩, rfl⟩ bipush_32 ?_
    refine w_icmp_ge (q := 51) (X := x4.toInt) (Y := 32) hm182 ⟨⟨_, _, rfl⟩, rfl⟩ rfl (by decide) (fun hc => ?_) (fun hc => ?_)
    · have h := h.1 hc
      exact Wp.wk [true, false, false, false, false, false, false, false] h
    · have h := h.2 hc
      refine w_aload_n (q := 52) hm182 ⟨⟨_, _, rfl⟩, rfl⟩ rfl ?_
      refine w_getr (q := 55) hm182 ⟨⟨_, _, rfl⟩, rfl⟩ rfl ?_
      refine w_iload (q := 57) hm182 ⟨⟨_, _, rfl⟩, rfl⟩ rfl ?_
      obtain ⟨hi, h⟩ := h
      refine w_iald (q := 58) (v := (m.1 12 x6.toNatClampNeg)) hm182 ⟨⟨_, _, rfl⟩, rfl⟩ rfl hi rfl rfl ?_
      refine w_istore (q := 60) (l' := [oR 11, none, none, oR 55, oI x4, oI x5, oI x6, oI (m.1 12 x6.toNatClampNeg)]) hm182 ⟨⟨_, _, rfl⟩, rfl⟩ rfl rfl rfl ?_
      refine w_iload (q := 62) hm182 ⟨⟨_, _, rfl⟩, rfl⟩ rfl ?_
      refine w_bipush (q := 64) hm182 ⟨⟨_, _, rfl⟩, rfl⟩ bipush_13 ?_
      refine w_icmp_lt (q := 67) (X := (m.1 12 x6.toNatClampNeg).toInt) (Y := 13) hm182 ⟨⟨_, _, rfl⟩, rfl⟩ rfl (by decide) (fun hc => ?_) (fun hc => ?_)
      · have h := h.1 hc
        refine w_iload (q := 87) hm182 ⟨⟨_, _, rfl⟩, rfl⟩ rfl ?_
        refine w_iconst (q := 88) hm182 ⟨⟨_, _, rfl⟩, rfl⟩ iconst_4 ?_
        refine w_icmp_lt (q := 91) (X := (m.1 12 x6.toNatClampNeg).toInt) (Y := 4) hm182 ⟨⟨_, _, rfl⟩, rfl⟩ rfl (by decide) (fun hc => ?_) (fun hc => ?_)
        · have h := h.1 hc
          refine w_iload (q := 112) hm182 ⟨⟨_, _, rfl⟩, rfl⟩ rfl ?_
          refine w_iconst (q := 113) hm182 ⟨⟨_, _, rfl⟩, rfl⟩ iconst_2 ?_
          refine w_icmp_lt (q := 116) (X := x4.toInt) (Y := 2) hm182 ⟨⟨_, _, rfl⟩, rfl⟩ rfl (by decide) (fun hc => ?_) (fun hc => ?_)
          · have h := h.1 hc
            exact Wp.wk [true, false, false, true, true, true, true, false] h
          · have h := h.2 hc
            refine w_iinc (q := 119) (l' := [oR 11, none, none, oR 55, oI (x4 + (-1 : Int32)), oI x5, oI x6, oI (m.1 12 x6.toNatClampNeg)]) hm182 ⟨⟨_, _, rfl⟩, rfl⟩ rfl rfl rfl iconst_m1 rfl ?_
            refine w_aload_n (q := 120) hm182 ⟨⟨_, _, rfl⟩, rfl⟩ rfl ?_
            refine w_getr (q := 123) hm182 ⟨⟨_, _, rfl⟩, rfl⟩ rfl ?_
            refine w_iload (q := 125) hm182 ⟨⟨_, _, rfl⟩, rfl⟩ rfl ?_
            refine w_iconst (q := 126) hm182 ⟨⟨_, _, rfl⟩, rfl⟩ iconst_1 ?_
            refine w_isub (q := 127) hm182 ⟨⟨_, _, rfl⟩, rfl⟩ ?_
            refine w_aload_n (q := 128) hm182 ⟨⟨_, _, rfl⟩, rfl⟩ rfl ?_
            refine w_iload (q := 130) hm182 ⟨⟨_, _, rfl⟩, rfl⟩ rfl ?_
            refine w_aload_n (q := 131) hm182 ⟨⟨_, _, rfl⟩, rfl⟩ rfl ?_
            refine w_getr (q := 134) hm182 ⟨⟨_, _, rfl⟩, rfl⟩ rfl ?_
            refine w_iload (q := 136) hm182 ⟨⟨_, _, rfl⟩, rfl⟩ rfl ?_
            refine w_iconst (q := 137) hm182 ⟨⟨_, _, rfl⟩, rfl⟩ iconst_1 ?_
            refine w_isub (q := 138) hm182 ⟨⟨_, _, rfl⟩, rfl⟩ ?_
            obtain ⟨hi, h⟩ := h
            refine w_iald (q := 139) (v := (m.1 19 ((x4 + (-1 : Int32)) - (1 : Int32)).toNatClampNeg)) hm182 ⟨⟨_, _, rfl⟩, rfl⟩ rfl hi rfl rfl ?_
            refine w_aload_n (q := 140) hm182 ⟨⟨_, _, rfl⟩, rfl⟩ rfl ?_
            refine w_getr (q := 143) hm182 ⟨⟨_, _, rfl⟩, rfl⟩ rfl ?_
            refine w_iload (q := 145) hm182 ⟨⟨_, _, rfl⟩, rfl⟩ rfl ?_
            obtain ⟨hi, h⟩ := h
            refine w_iald (q := 146) (v := (m.1 19 (x4 + (-1 : Int32)).toNatClampNeg)) hm182 ⟨⟨_, _, rfl⟩, rfl⟩ rfl hi rfl rfl ?_
            refine w_call (q := 149) (n := 0) (vs := [.inr (.inr (some 11)), .inl (m.1 12 x6.toNatClampNeg), .inl (m.1 19 ((x4 + (-1 : Int32)) - (1 : Int32)).toNatClampNeg), .inl (m.1 19 (x4 + (-1 : Int32)).toNatClampNeg)]) (rest := [.inl ((x4 + (-1 : Int32)) - (1 : Int32)), .inr (.inr (some 19))]) (la := [oR 11, oI (m.1 12 x6.toNatClampNeg), oI (m.1 19 ((x4 + (-1 : Int32)) - (1 : Int32)).toNatClampNeg), oI (m.1 19 (x4 + (-1 : Int32)).toNatClampNeg)]) hm182 ⟨⟨_, _, rfl⟩, rfl⟩ rfl rfl rfl rfl hm183 rfl rfl (fun _ => ⟨_, _, rfl, rfl⟩) rfl (Wp.mono h ?_)
            rintro _ m1 ⟨r1, rfl, h⟩
            change Wp _ _ 149 _ [.inl r1, .inl ((x4 + (-1 : Int32)) - (1 : Int32)), .inr (.inr (some 19))] _ _
            obtain ⟨hi, h⟩ := h
            refine w_iast (q := 150) hm182 ⟨⟨_, _, rfl⟩, rfl⟩ rfl hi rfl rfl ?_
            exact Wp.wk [true, false, false, true, true, true, true, false] h
        · have h := h.2 hc
          refine w_aload_n (q := 92) hm182 ⟨⟨_, _, rfl⟩, rfl⟩ rfl ?_
          refine w_getr (q := 95) hm182 ⟨⟨_, _, rfl⟩, rfl⟩ rfl ?_
          refine w_iload (q := 97) hm182 ⟨⟨_, _, rfl⟩, rfl⟩ rfl ?_
          refine w_aload_n (q := 98) hm182 ⟨⟨_, _, rfl⟩, rfl⟩ rfl ?_
          refine w_iload (q := 100) hm182 ⟨⟨_, _, rfl⟩, rfl⟩ rfl ?_
          refine w_iconst (q := 101) hm182 ⟨⟨_, _, rfl⟩, rfl⟩ iconst_4 ?_
          refine w_isub (q := 102) hm182 ⟨⟨_, _, rfl⟩, rfl⟩ ?_
          obtain ⟨hi, h⟩ := h
          refine w_iald (q := 103) (v := (m.1 55 ((m.1 12 x6.toNatClampNeg) - (4 : Int32)).toNatClampNeg)) hm182 ⟨⟨_, _, rfl⟩, rfl⟩ rfl hi rfl rfl ?_
          obtain ⟨hi, h⟩ := h
          refine w_iast (q := 104) hm182 ⟨⟨_, _, rfl⟩, rfl⟩ rfl hi rfl rfl ?_
          refine w_iinc (q := 107) (l' := [oR 11, none, none, oR 55, oI (x4 + (1 : Int32)), oI x5, oI x6, oI (m.1 12 x6.toNatClampNeg)]) hm182 ⟨⟨_, _, rfl⟩, rfl⟩ rfl rfl rfl iconst_1 rfl ?_
          refine w_goto (q := 150) hm182 ⟨_, _, rfl⟩ ?_
          exact Wp.wk [true, false, false, true, true, true, true, false] h
      · have h := h.2 hc
        refine w_aload_n (q := 68) hm182 ⟨⟨_, _, rfl⟩, rfl⟩ rfl ?_
        refine w_getr (q := 71) hm182 ⟨⟨_, _, rfl⟩, rfl⟩ rfl ?_
        refine w_iload (q := 73) hm182 ⟨⟨_, _, rfl⟩, rfl⟩ rfl ?_
        refine w_iload (q := 75) hm182 ⟨⟨_, _, rfl⟩, rfl⟩ rfl ?_
        refine w_bipush (q := 77) hm182 ⟨⟨_, _, rfl⟩, rfl⟩ bipush_13 ?_
        refine w_isub (q := 78) hm182 ⟨⟨_, _, rfl⟩, rfl⟩ ?_
        obtain ⟨hi, h⟩ := h
        refine w_iast (q := 79) hm182 ⟨⟨_, _, rfl⟩, rfl⟩ rfl hi rfl rfl ?_
        refine w_iinc (q := 82) (l' := [oR 11, none, none, oR 55, oI (x4 + (1 : Int32)), oI x5, oI x6, oI (m.1 12 x6.toNatClampNeg)]) hm182 ⟨⟨_, _, rfl⟩, rfl⟩ rfl rfl rfl iconst_1 rfl ?_
        refine w_goto (q := 150) hm182 ⟨_, _, rfl⟩ ?_
        exact Wp.wk [true, false, false, true, true, true, true, false] h
theorem v_X4_pieceTells_11_55_150 {d : Nat} {x4 : Int32} {x5 : Int32} {x6 : Int32} {m : dM} {Q : Int32 → dM → Prop} (h : j_X4_pieceTells_11_55_37 (d + 1) x4 x5 (x6 + (1 : Int32)) m Q) : j_X4_pieceTells_11_55_150 (d + 1) x4 x5 x6 m Q := by
  refine w_iinc (q := 153) (l' := [oR 11, none, none, oR 55, oI x4, oI x5, oI (x6 + (1 : Int32)), none]) hm182 ⟨⟨_, _, rfl⟩, rfl⟩ rfl rfl rfl iconst_1 rfl ?_
  refine w_goto (q := 37) hm182 ⟨_, _, rfl⟩ ?_
  exact h
theorem v_X4_pieceTells_11_55_156 {d : Nat} {m : dM} {Q : Int32 → dM → Prop} (h : Q (m.1 19 0) m) : j_X4_pieceTells_11_55_156 (d + 1) m Q := by
  refine w_aload_n (q := 157) hm182 ⟨⟨_, _, rfl⟩, rfl⟩ rfl ?_
  refine w_getr (q := 160) hm182 ⟨⟨_, _, rfl⟩, rfl⟩ rfl ?_
  refine w_iconst (q := 161) hm182 ⟨⟨_, _, rfl⟩, rfl⟩ iconst_0 ?_
  refine w_iald (q := 162) (j := 0) (v := (m.1 19 0)) hm182 ⟨⟨_, _, rfl⟩, rfl⟩ rfl (by decide) (by decide) rfl ?_
  exact w_reti hm182 ⟨⟨_, _, rfl⟩, rfl⟩ rfl h
end
