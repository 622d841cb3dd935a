theorem v_X0_payOf_54_62 {d : Nat} {x2 : Int32} {m : dM} {Q : Int32 → dM → Prop} (h : c_X7_hourOfDay_62 d m (fun r1 m1 => c_X7_day_62 d m1 (fun r2 m2 => c_X0_setVars_54 d r1 r2 x2 m2 (fun m3 => ((0 ≤ x2.toInt ∧ x2.toInt < 8) ∧ c_X4_tells_11_55 d (3 : Int32) (dSet m3 55 5 (m3.1 8 x2.toNatClampNeg)) (fun r4 m4 => c_X0_held d r4 m4 (fun r5 m5 => Q r5 m5))))))) : c_X0_payOf_54_62 (d + 1) x2 m Q := by
  refine w_aload_n (q := 1) hm129 ⟨⟨_, _, rfl⟩, rfl⟩ rfl ?_
  refine w_aload_n (q := 2) hm129 ⟨⟨_, _, rfl⟩, rfl⟩ rfl ?_
  refine w_call (q := 5) (n := 0) (vs := [.inr (.inr (some 62))]) (rest := [.inr (.inr (some 54))]) (la := [oR 62]) hm129 ⟨⟨_, _, rfl⟩, rfl⟩ rfl rfl rfl rfl hm212 rfl rfl (fun _ => ⟨_, _, rfl, rfl⟩) rfl (Wp.mono h ?_)
  rintro _ m1 ⟨r1, rfl, h⟩
  change Wp _ _ 5 _ [.inl r1, .inr (.inr (some 54))] _ _
  refine w_aload_n (q := 6) hm129 ⟨⟨_, _, rfl⟩, rfl⟩ rfl ?_
  refine w_call (q := 9) (n := 0) (vs := [.inr (.inr (some 62))]) (rest := [.inl r1, .inr (.inr (some 54))]) (la := [oR 62]) hm129 ⟨⟨_, _, rfl⟩, rfl⟩ rfl rfl rfl rfl hm213 rfl rfl (fun _ => ⟨_, _, rfl, rfl⟩) rfl (Wp.mono h ?_)
  rintro _ m2 ⟨r2, rfl, h⟩
  change Wp _ _ 9 _ [.inl r2, .inl r1, .inr (.inr (some 54))] _ _
  refine w_iload_n (q := 10) hm129 ⟨⟨_, _, rfl⟩, rfl⟩ rfl ?_
  refine w_call (q := 13) (n := 0) (vs := [.inr (.inr (some 54)), .inl r1, .inl r2, .inl x2]) (rest := []) (la := [oR 54, oI r1, oI r2, oI x2]) hm129 ⟨⟨_, _, rfl⟩, rfl⟩ rfl rfl rfl rfl hm125 rfl rfl (fun _ => ⟨_, _, rfl, rfl⟩) rfl (Wp.mono h ?_)
  rintro _ m3 ⟨rfl, h⟩
  change Wp _ _ 13 _ [] _ _
  refine w_aload_n (q := 14) hm129 ⟨⟨_, _, rfl⟩, rfl⟩ rfl ?_
  refine w_getr (q := 17) hm129 ⟨⟨_, _, rfl⟩, rfl⟩ rfl ?_
  refine w_iconst (q := 18) hm129 ⟨⟨_, _, rfl⟩, rfl⟩ iconst_5 ?_
  refine w_aload_n (q := 19) hm129 ⟨⟨_, _, rfl⟩, rfl⟩ rfl ?_
  refine w_getr (q := 22) hm129 ⟨⟨_, _, rfl⟩, rfl⟩ rfl ?_
  refine w_getr (q := 25) hm129 ⟨⟨_, _, rfl⟩, rfl⟩ rfl ?_
  refine w_iload_n (q := 26) hm129 ⟨⟨_, _, rfl⟩, rfl⟩ rfl ?_
  obtain ⟨hi, h⟩ := h
  refine w_iald (q := 27) (v := (m3.1 8 x2.toNatClampNeg)) hm129 ⟨⟨_, _, rfl⟩, rfl⟩ rfl hi rfl rfl ?_
  refine w_iast (q := 28) (j := 5) hm129 ⟨⟨_, _, rfl⟩, rfl⟩ rfl (by decide) (by decide) rfl ?_
  refine w_aload_n (q := 29) hm129 ⟨⟨_, _, rfl⟩, rfl⟩ rfl ?_
  refine w_getr (q := 32) hm129 ⟨⟨_, _, rfl⟩, rfl⟩ rfl ?_
  refine w_getr (q := 35) hm129 ⟨⟨_, _, rfl⟩, rfl⟩ rfl ?_
  refine w_iconst (q := 36) hm129 ⟨⟨_, _, rfl⟩, rfl⟩ iconst_3 ?_
  refine w_aload_n (q := 37) hm129 ⟨⟨_, _, rfl⟩, rfl⟩ rfl ?_
  refine w_getr (q := 40) hm129 ⟨⟨_, _, rfl⟩, rfl⟩ rfl ?_
  refine w_call (q := 43) (n := 4) (vs := [.inr (.inr (some 11)), .inl (3 : Int32), .inr (.inr (some 55))]) (rest := []) (la := [oR 11, oI (3 : Int32), oR 55, none, none, none, none]) hm129 ⟨⟨_, _, rfl⟩, rfl⟩ rfl rfl rfl rfl hm181 rfl rfl (fun _ => ⟨_, _, rfl, rfl⟩) rfl (Wp.mono h ?_)
  rintro _ m4 ⟨r4, rfl, h⟩
  change Wp _ _ 43 _ [.inl r4] _ _
  refine w_call (q := 46) (n := 0) (vs := [.inl r4]) (rest := []) (la := [oI r4]) hm129 ⟨⟨_, _, rfl⟩, rfl⟩ rfl rfl rfl rfl hm126 rfl rfl (fun hz => absurd hz (by decide)) rfl (Wp.mono h ?_)
  rintro _ m5 ⟨r5, rfl, h⟩
  change Wp _ _ 46 _ [.inl r5] _ _
  exact w_reti hm129 ⟨⟨_, _, rfl⟩, rfl⟩ rfl h
theorem v_X0_takePay_54_62 {d : Nat} {m : dM} {Q : dM → Prop} (h : c_X7_hourOfDay_62 d m (fun r1 m1 => c_X0_usesAt_54_62 d r1 m1 (fun r2 m2 => j_X0_takePay_54_62_12 (d + 1) r2 (0 : Int32) m2 Q))) : c_X0_takePay_54_62 (d + 1) m Q := by
  refine w_aload_n (q := 1) hm135 ⟨⟨_, _, rfl⟩, rfl⟩ rfl ?_
  refine w_aload_n (q := 2) hm135 ⟨⟨_, _, rfl⟩, rfl⟩ rfl ?_
  refine w_aload_n (q := 3) hm135 ⟨⟨_, _, rfl⟩, rfl⟩ rfl ?_
  refine w_call (q := 6) (n := 0) (vs := [.inr (.inr (some 62))]) (rest := [.inr (.inr (some 62)), .inr (.inr (some 54))]) (la := [oR 62]) hm135 ⟨⟨_, _, rfl⟩, rfl⟩ rfl rfl rfl rfl hm212 rfl rfl (fun _ => ⟨_, _, rfl, rfl⟩) rfl (Wp.mono h ?_)
  rintro _ m1 ⟨r1, rfl, h⟩
  change Wp _ _ 6 _ [.inl r1, .inr (.inr (some 62)), .inr (.inr (some 54))] _ _
  refine w_call (q := 9) (n := 3) (vs := [.inr (.inr (some 54)), .inr (.inr (some 62)), .inl r1]) (rest := []) (la := [oR 54, oR 62, oI r1, none, none, none]) hm135 ⟨⟨_, _, rfl⟩, rfl⟩ rfl rfl rfl rfl hm118 rfl rfl (fun _ => ⟨_, _, rfl, rfl⟩) rfl (Wp.mono h ?_)
  rintro _ m2 ⟨r2, rfl, h⟩
  change Wp _ _ 9 _ [.inl r2] _ _
  refine w_istore_n (q := 10) (l' := [oR 54, oR 62, oI r2, none]) hm135 ⟨⟨_, _, rfl⟩, rfl⟩ rfl rfl rfl ?_
  refine w_iconst (q := 11) hm135 ⟨⟨_, _, rfl⟩, rfl⟩ iconst_0 ?_
  refine w_istore_n (q := 12) (l' := [oR 54, oR 62, oI r2, oI (0 : Int32)]) hm135 ⟨⟨_, _, rfl⟩, rfl⟩ rfl rfl rfl ?_
  exact h
theorem v_X0_takePay_54_62_12 {d : Nat} {x2 : Int32} {x3 : Int32} {m : dM} {Q : dM → Prop} (h : (((m.1 2 2).toInt ≤ x3.toInt → Q m) ∧ (x3.toInt < (m.1 2 2).toInt → c_X11_has d x2 x3 m (fun r1 m1 => ((r1.toInt = 0 → j_X0_takePay_54_62_51 (d + 1) x2 x3 m1 Q) ∧ (r1.toInt ≠ 0 → c_X0_payOf_54_62 d x3 m1 (fun r2 m2 => j_X0_takePay_54_62_51 (d + 1) x2 x3 (dSet m2 62 1 (if ((m1.1 62 1) + r2) < (99999 : Int32) then ((m1.1 62 1) + r2) else (99999 : Int32))) Q))))))) : j_X0_takePay_54_62_12 (d + 1) x2 x3 m Q := by
  refine w_iload_n (q := 13) hm135 ⟨⟨_, _, rfl⟩, rfl⟩ rfl ?_
  refine w_aload_n (q := 14) hm135 ⟨⟨_, _, rfl⟩, rfl⟩ rfl ?_
  refine w_getr (q := 17) hm135 ⟨⟨_, _, rfl⟩, rfl⟩ rfl ?_
  refine w_getf (q := 20) (v := (m.1 2 2)) hm135 ⟨⟨_, _, rfl⟩, rfl⟩ rfl rfl ?_
  refine w_icmp_ge (q := 23) (X := x3.toInt) (Y := (m.1 2 2).toInt) hm135 ⟨⟨_, _, rfl⟩, rfl⟩ rfl rfl (fun hc => ?_) (fun hc => ?_)
  · have h := h.1 hc
    exact w_retv hm135 ⟨⟨_, _, rfl⟩, rfl⟩ rfl h
  · have h := h.2 hc
    refine w_iload_n (q := 24) hm135 ⟨⟨_, _, rfl⟩, rfl⟩ rfl ?_
    refine w_iload_n (q := 25) hm135 ⟨⟨_, _, rfl⟩, rfl⟩ rfl ?_
    refine w_call (q := 28) (n := 0) (vs := [.inl x2, .inl x3]) (rest := []) (la := [oI x2, oI x3]) hm135 ⟨⟨_, _, rfl⟩, rfl⟩ rfl rfl rfl rfl hm283 rfl rfl (fun hz => absurd hz (by decide)) rfl (Wp.mono h ?_)
    rintro _ m1 ⟨r1, rfl, h⟩
    change Wp _ _ 28 _ [.inl r1] _ _
    refine w_if_eq (q := 31) (X := r1.toInt) hm135 ⟨⟨_, _, rfl⟩, rfl⟩ rfl (fun hc => ?_) (fun hc => ?_)
    · have h := h.1 hc
      exact h
    · have h := h.2 hc
      refine w_aload_n (q := 32) hm135 ⟨⟨_, _, rfl⟩, rfl⟩ rfl ?_
      refine w_ldc (q := 34) hm135 ⟨⟨_, _, rfl⟩, rfl⟩ ldc_99999 ?_
      refine w_aload_n (q := 35) hm135 ⟨⟨_, _, rfl⟩, rfl⟩ rfl ?_
      refine w_getf (q := 38) (v := (m1.1 62 1)) hm135 ⟨⟨_, _, rfl⟩, rfl⟩ rfl rfl ?_
      refine w_aload_n (q := 39) hm135 ⟨⟨_, _, rfl⟩, rfl⟩ rfl ?_
      refine w_aload_n (q := 40) hm135 ⟨⟨_, _, rfl⟩, rfl⟩ rfl ?_
      refine w_iload_n (q := 41) hm135 ⟨⟨_, _, rfl⟩, rfl⟩ rfl ?_
      refine w_call (q := 44) (n := 0) (vs := [.inr (.inr (some 54)), .inr (.inr (some 62)), .inl x3]) (rest := [.inl (m1.1 62 1), .inl (99999 : Int32), .inr (.inr (some 62))]) (la := [oR 54, oR 62, oI x3]) hm135 ⟨⟨_, _, rfl⟩, rfl⟩ rfl rfl rfl rfl hm129 rfl rfl (fun _ => ⟨_, _, rfl, rfl⟩) rfl (Wp.mono h ?_)
      rintro _ m2 ⟨r2, rfl, h⟩
      change Wp _ _ 44 _ [.inl r2, .inl (m1.1 62 1), .inl (99999 : Int32), .inr (.inr (some 62))] _ _
      refine w_iadd (q := 45) hm135 ⟨⟨_, _, rfl⟩, rfl⟩ ?_
      refine w_min (q := 48) hm135 ⟨⟨_, _, rfl⟩, rfl⟩ rfl rfl ?_
      refine w_putf (q := 51) hm135 ⟨⟨_, _, rfl⟩, rfl⟩ rfl rfl rfl ?_
      exact h
theorem v_X0_takePay_54_62_51 {d : Nat} {x2 : Int32} {x3 : Int32} {m : dM} {Q : dM → Prop} (h : j_X0_takePay_54_62_12 (d + 1) x2 (x3 + (1 : Int32)) m Q) : j_X0_takePay_54_62_51 (d + 1) x2 x3 m Q := by
  refine w_iinc (q := 54) (l' := [oR 54, oR 62, oI x2, oI (x3 + (1 : Int32))]) hm135 ⟨⟨_, _, rfl⟩, rfl⟩ rfl rfl rfl iconst_1 rfl ?_
  refine w_goto (q := 12) hm135 ⟨_, _, rfl⟩ ?_
  exact h
theorem v_X0_quarrelOf_54_62 {d : Nat} {x2 : Int32} {m : dM} {Q : Int32 → dM → Prop} (h : c_X7_hourOfDay_62 d m (fun r1 m1 => c_X7_day_62 d m1 (fun r2 m2 => c_X0_setVars_54 d r1 r2 x2 m2 (fun m3 => ((0 ≤ x2.toInt ∧ x2.toInt < 7) ∧ ((0 ≤ x2.toInt ∧ x2.toInt < 7) ∧ c_X4_tells_11_55 d (1 : Int32) (dSet (dSet m3 55 6 (m3.1 3 x2.toNatClampNeg)) 55 7 (m3.1 65 x2.toNatClampNeg)) (fun r4 m4 => c_X0_held d r4 m4 (fun r5 m5 => Q r5 m5)))))))) : c_X0_quarrelOf_54_62 (d + 1) x2 m Q := by
  refine w_aload_n (q := 1) hm127 ⟨⟨_, _, rfl⟩, rfl⟩ rfl ?_
  refine w_aload_n (q := 2) hm127 ⟨⟨_, _, rfl⟩, rfl⟩ rfl ?_
  refine w_call (q := 5) (n := 0) (vs := [.inr (.inr (some 62))]) (rest := [.inr (.inr (some 54))]) (la := [oR 62]) hm127 ⟨⟨_, _, rfl⟩, rfl⟩ rfl rfl rfl rfl hm212 rfl rfl (fun _ => ⟨_, _, rfl, rfl⟩) rfl (Wp.mono h ?_)
  rintro _ m1 ⟨r1, rfl, h⟩
  change Wp _ _ 5 _ [.inl r1, .inr (.inr (some 54))] _ _
  refine w_aload_n (q := 6) hm127 ⟨⟨_, _, rfl⟩, rfl⟩ rfl ?_
  refine w_call (q := 9) (n := 0) (vs := [.inr (.inr (some 62))]) (rest := [.inl r1, .inr (.inr (some 54))]) (la := [oR 62]) hm127 ⟨⟨_, _, rfl⟩, rfl⟩ rfl rfl rfl rfl hm213 rfl rfl (fun _ => ⟨_, _, rfl, rfl⟩) rfl (Wp.mono h ?_)
  rintro _ m2 ⟨r2, rfl, h⟩
  change Wp _ _ 9 _ [.inl r2, .inl r1, .inr (.inr (some 54))] _ _
  refine w_iload_n (q := 10) hm127 ⟨⟨_, _, rfl⟩, rfl⟩ rfl ?_
  refine w_call (q := 13) (n := 0) (vs := [.inr (.inr (some 54)), .inl r1, .inl r2, .inl x2]) (rest := []) (la := [oR 54, oI r1, oI r2, oI x2]) hm127 ⟨⟨_, _, rfl⟩, rfl⟩ rfl rfl rfl rfl hm125 rfl rfl (fun _ => ⟨_, _, rfl, rfl⟩) rfl (Wp.mono h ?_)
  rintro _ m3 ⟨rfl, h⟩
  change Wp _ _ 13 _ [] _ _
  refine w_aload_n (q := 14) hm127 ⟨⟨_, _, rfl⟩, rfl⟩ rfl ?_
  refine w_getr (q := 17) hm127 ⟨⟨_, _, rfl⟩, rfl⟩ rfl ?_
  refine w_bipush (q := 19) hm127 ⟨⟨_, _, rfl⟩, rfl⟩ bipush_6 ?_
  refine w_aload_n (q := 20) hm127 ⟨⟨_, _, rfl⟩, rfl⟩ rfl ?_
  refine w_getr (q := 23) hm127 ⟨⟨_, _, rfl⟩, rfl⟩ rfl ?_
  refine w_getr (q := 26) hm127 ⟨⟨_, _, rfl⟩, rfl⟩ rfl ?_
  refine w_iload_n (q := 27) hm127 ⟨⟨_, _, rfl⟩, rfl⟩ rfl ?_
  obtain ⟨hi, h⟩ := h
  refine w_iald (q := 28) (v := (m3.1 3 x2.toNatClampNeg)) hm127 ⟨⟨_, _, rfl⟩, rfl⟩ rfl hi rfl rfl ?_
  refine w_iast (q := 29) (j := 6) hm127 ⟨⟨_, _, rfl⟩, rfl⟩ rfl (by decide) (by decide) rfl ?_
  refine w_aload_n (q := 30) hm127 ⟨⟨_, _, rfl⟩, rfl⟩ rfl ?_
  refine w_getr (q := 33) hm127 ⟨⟨_, _, rfl⟩, rfl⟩ rfl ?_
  refine w_bipush (q := 35) hm127 ⟨⟨_, _, rfl⟩, rfl⟩ bipush_7 ?_
  refine w_aload_n (q := 36) hm127 ⟨⟨_, _, rfl⟩, rfl⟩ rfl ?_
  refine w_getr (q := 39) hm127 ⟨⟨_, _, rfl⟩, rfl⟩ rfl ?_
  refine w_iload_n (q := 40) hm127 ⟨⟨_, _, rfl⟩, rfl⟩ rfl ?_
  obtain ⟨hi, h⟩ := h
  refine w_iald (q := 41) (v := (m3.1 65 x2.toNatClampNeg)) hm127 ⟨⟨_, _, rfl⟩, rfl⟩ rfl hi rfl rfl ?_
  refine w_iast (q := 42) (j := 7) hm127 ⟨⟨_, _, rfl⟩, rfl⟩ rfl (by decide) (by decide) rfl ?_
  refine w_aload_n (q := 43) hm127 ⟨⟨_, _, rfl⟩, rfl⟩ rfl ?_
  refine w_getr (q := 46) hm127 ⟨⟨_, _, rfl⟩, rfl⟩ rfl ?_
  refine w_getr (q := 49) hm127 ⟨⟨_, _, rfl⟩, rfl⟩ rfl ?_
  refine w_iconst (q := 50) hm127 ⟨⟨_, _, rfl⟩, rfl⟩ iconst_1 ?_
  refine w_aload_n (q := 51) hm127 ⟨⟨_, _, rfl⟩, rfl⟩ rfl ?_
  refine w_getr (q := 54) hm127 ⟨⟨_, _, rfl⟩, rfl⟩ rfl ?_
  refine w_call (q := 57) (n := 4) (vs := [.inr (.inr (some 11)), .inl (1 : Int32), .inr (.inr (some 55))]) (rest := []) (la := [oR 11, oI (1 : Int32), oR 55, none, none, none, none]) hm127 ⟨⟨_, _, rfl⟩, rfl⟩ rfl rfl rfl rfl hm181 rfl rfl (fun _ => ⟨_, _, rfl, rfl⟩) rfl (Wp.mono h ?_)
  rintro _ m4 ⟨r4, rfl, h⟩
  change Wp _ _ 57 _ [.inl r4] _ _
  refine w_call (q := 60) (n := 0) (vs := [.inl r4]) (rest := []) (la := [oI r4]) hm127 ⟨⟨_, _, rfl⟩, rfl⟩ rfl rfl rfl rfl hm126 rfl rfl (fun hz => absurd hz (by decide)) rfl (Wp.mono h ?_)
  rintro _ m5 ⟨r5, rfl, h⟩
  change Wp _ _ 60 _ [.inl r5] _ _
  exact w_reti hm127 ⟨⟨_, _, rfl⟩, rfl⟩ rfl h
theorem v_X0_countQuarrels_54_62 {d : Nat} {m : dM} {Q : dM → Prop} (h : c_X10_lay_57 d (m.1 62 3) m (fun m1 => j_X0_countQuarrels_54_62_13 (d + 1) (0 : Int32) m1 Q)) : c_X0_countQuarrels_54_62 (d + 1) m Q := by
  refine w_aload_n (q := 1) hm136 ⟨⟨_, _, rfl⟩, rfl⟩ rfl ?_
  refine w_getr (q := 4) hm136 ⟨⟨_, _, rfl⟩, rfl⟩ rfl ?_
  refine w_aload_n (q := 5) hm136 ⟨⟨_, _, rfl⟩, rfl⟩ rfl ?_
  refine w_getf (q := 8) (v := (m.1 62 3)) hm136 ⟨⟨_, _, rfl⟩, rfl⟩ rfl rfl ?_
  refine w_call (q := 11) (n := 3) (vs := [.inr (.inr (some 57)), .inl (m.1 62 3)]) (rest := []) (la := [oR 57, oI (m.1 62 3), none, none, none]) hm136 ⟨⟨_, _, rfl⟩, rfl⟩ rfl rfl rfl rfl hm239 rfl rfl (fun _ => ⟨_, _, rfl, rfl⟩) rfl (Wp.mono h ?_)
  rintro _ m1 ⟨rfl, h⟩
  change Wp _ _ 11 _ [] _ _
  refine w_iconst (q := 12) hm136 ⟨⟨_, _, rfl⟩, rfl⟩ iconst_0 ?_
  refine w_istore_n (q := 13) (l' := [oR 54, oR 62, oI (0 : Int32)]) hm136 ⟨⟨_, _, rfl⟩, rfl⟩ rfl rfl rfl ?_
  exact h
theorem v_X0_countQuarrels_54_62_13 {d : Nat} {x2 : Int32} {m : dM} {Q : dM → Prop} (h : (((m.1 2 0).toInt ≤ x2.toInt → Q m) ∧ (x2.toInt < (m.1 2 0).toInt → c_X11_has d (m.1 57 5) x2 m (fun r1 m1 => ((r1.toInt = 0 → c_X0_quarrelOf_54_62 d x2 m1 (fun r2 m2 => ((0 ≤ x2.toInt ∧ x2.toInt < 7) ∧ ((0 ≤ x2.toInt ∧ x2.toInt < 7) ∧ j_X0_countQuarrels_54_62_78 (d + 1) x2 (dSet (dSet m2 62 2 (if ((m1.1 62 2) + r2) < (999999 : Int32) then ((m1.1 62 2) + r2) else (999999 : Int32))) 65 x2.toNatClampNeg ((m2.1 65 x2.toNatClampNeg) + (1 : Int32))) Q)))) ∧ (r1.toInt ≠ 0 → ((0 ≤ x2.toInt ∧ x2.toInt < 7) ∧ j_X0_countQuarrels_54_62_78 (d + 1) x2 (dSet m1 65 x2.toNatClampNeg (0 : Int32)) Q))))))) : j_X0_countQuarrels_54_62_13 (d + 1) x2 m Q := by
  refine w_iload_n (q := 14) hm136 ⟨⟨_, _, rfl⟩, rfl⟩ rfl ?_
  refine w_aload_n (q := 15) hm136 ⟨⟨_, _, rfl⟩, rfl⟩ rfl ?_
  refine w_getr (q := 18) hm136 ⟨⟨_, _, rfl⟩, rfl⟩ rfl ?_
  refine w_getf (q := 21) (v := (m.1 2 0)) hm136 ⟨⟨_, _, rfl⟩, rfl⟩ rfl rfl ?_
  refine w_icmp_ge (q := 24) (X := x2.toInt) (Y := (m.1 2 0).toInt) hm136 ⟨⟨_, _, rfl⟩, rfl⟩ rfl rfl (fun hc => ?_) (fun hc => ?_)
  · have h := h.1 hc
    exact w_retv hm136 ⟨⟨_, _, rfl⟩, rfl⟩ rfl h
  · have h := h.2 hc
    refine w_aload_n (q := 25) hm136 ⟨⟨_, _, rfl⟩, rfl⟩ rfl ?_
    refine w_getr (q := 28) hm136 ⟨⟨_, _, rfl⟩, rfl⟩ rfl ?_
    refine w_getf (q := 31) (v := (m.1 57 5)) hm136 ⟨⟨_, _, rfl⟩, rfl⟩ rfl rfl ?_
    refine w_iload_n (q := 32) hm136 ⟨⟨_, _, rfl⟩, rfl⟩ rfl ?_
    refine w_call (q := 35) (n := 0) (vs := [.inl (m.1 57 5), .inl x2]) (rest := []) (la := [oI (m.1 57 5), oI x2]) hm136 ⟨⟨_, _, rfl⟩, rfl⟩ rfl rfl rfl rfl hm283 rfl rfl (fun hz => absurd hz (by decide)) rfl (Wp.mono h ?_)
    rintro _ m1 ⟨r1, rfl, h⟩
    change Wp _ _ 35 _ [.inl r1] _ _
    refine w_if_eq (q := 38) (X := r1.toInt) hm136 ⟨⟨_, _, rfl⟩, rfl⟩ rfl (fun hc => ?_) (fun hc => ?_)
    · have h := h.1 hc
      refine w_aload_n (q := 49) hm136 ⟨⟨_, _, rfl⟩, rfl⟩ rfl ?_
      refine w_ldc (q := 51) hm136 ⟨⟨_, _, rfl⟩, rfl⟩ ldc_999999 ?_
      refine w_aload_n (q := 52) hm136 ⟨⟨_, _, rfl⟩, rfl⟩ rfl ?_
      refine w_getf (q := 55) (v := (m1.1 62 2)) hm136 ⟨⟨_, _, rfl⟩, rfl⟩ rfl rfl ?_
      refine w_aload_n (q := 56) hm136 ⟨⟨_, _, rfl⟩, rfl⟩ rfl ?_
      refine w_aload_n (q := 57) hm136 ⟨⟨_, _, rfl⟩, rfl⟩ rfl ?_
      refine w_iload_n (q := 58) hm136 ⟨⟨_, _, rfl⟩, rfl⟩ rfl ?_
      refine w_call (q := 61) (n := 0) (vs := [.inr (.inr (some 54)), .inr (.inr (some 62)), .inl x2]) (rest := [.inl (m1.1 62 2), .inl (999999 : Int32), .inr (.inr (some 62))]) (la := [oR 54, oR 62, oI x2]) hm136 ⟨⟨_, _, rfl⟩, rfl⟩ rfl rfl rfl rfl hm127 rfl rfl (fun _ => ⟨_, _, rfl, rfl⟩) rfl (Wp.mono h ?_)
      rintro _ m2 ⟨r2, rfl, h⟩
      change Wp _ _ 61 _ [.inl r2, .inl (m1.1 62 2), .inl (999999 : Int32), .inr (.inr (some 62))] _ _
      refine w_iadd (q := 62) hm136 ⟨⟨_, _, rfl⟩, rfl⟩ ?_
      refine w_min (q := 65) hm136 ⟨⟨_, _, rfl⟩, rfl⟩ rfl rfl ?_
      refine w_putf (q := 68) hm136 ⟨⟨_, _, rfl⟩, rfl⟩ rfl rfl rfl ?_
      refine w_aload_n (q := 69) hm136 ⟨⟨_, _, rfl⟩, rfl⟩ rfl ?_
      refine w_getr (q := 72) hm136 ⟨⟨_, _, rfl⟩, rfl⟩ rfl ?_
      refine w_iload_n (q := 73) hm136 ⟨⟨_, _, rfl⟩, rfl⟩ rfl ?_
      refine w_dup2 (q := 74) hm136 ⟨⟨_, _, rfl⟩, rfl⟩ rfl ?_
      obtain ⟨hi, h⟩ := h
      refine w_iald (q := 75) (v := (m2.1 65 x2.toNatClampNeg)) hm136 ⟨⟨_, _, rfl⟩, rfl⟩ rfl hi rfl rfl ?_
      refine w_iconst (q := 76) hm136 ⟨⟨_, _, rfl⟩, rfl⟩ iconst_1 ?_
      refine w_iadd (q := 77) hm136 ⟨⟨_, _, rfl⟩, rfl⟩ ?_
      obtain ⟨hi, h⟩ := h
      refine w_iast (q := 78) hm136 ⟨⟨_, _, rfl⟩, rfl⟩ rfl hi rfl rfl ?_
      exact h
    · have h := h.2 hc
      refine w_aload_n (q := 39) hm136 ⟨⟨_, _, rfl⟩, rfl⟩ rfl ?_
      refine w_getr (q := 42) hm136 ⟨⟨_, _, rfl⟩, rfl⟩ rfl ?_
      refine w_iload_n (q := 43) hm136 ⟨⟨_, _, rfl⟩, rfl⟩ rfl ?_
      refine w_iconst (q := 44) hm136 ⟨⟨_, _, rfl⟩, rfl⟩ iconst_0 ?_
      obtain ⟨hi, h⟩ := h
      refine w_iast (q := 45) hm136 ⟨⟨_, _, rfl⟩, rfl⟩ rfl hi rfl rfl ?_
      refine w_goto (q := 78) hm136 ⟨_, _, rfl⟩ ?_
      exact h
theorem v_X0_countQuarrels_54_62_78 {d : Nat} {x2 : Int32} {m : dM} {Q : dM → Prop} (h : j_X0_countQuarrels_54_62_13 (d + 1) (x2 + (1 : Int32)) m Q) : j_X0_countQuarrels_54_62_78 (d + 1) x2 m Q := by
  refine w_iinc (q := 81) (l' := [oR 54, oR 62, oI (x2 + (1 : Int32))]) hm136 ⟨⟨_, _, rfl⟩, rfl⟩ rfl rfl rfl iconst_1 rfl ?_
  refine w_goto (q := 13) hm136 ⟨_, _, rfl⟩ ?_
  exact h
theorem v_X0_passHour_54_62 {d : Nat} {m : dM} {Q : dM → Prop} (h : c_X0_takePay_54_62 d m (fun m1 => c_X0_countQuarrels_54_62 d m1 (fun m2 => c_X0_surgeOf_54 d (m2.1 2 6) (m2.1 62 0) m2 (fun r3 m3 => c_X0_passWires_54_62 d r3 m3 (fun r4 m4 => Q m4))))) : c_X0_passHour_54_62 (d + 1) m Q := by
  refine w_aload_n (q := 1) hm134 ⟨⟨_, _, rfl⟩, rfl⟩ rfl ?_
  refine w_aload_n (q := 2) hm134 ⟨⟨_, _, rfl⟩, rfl⟩ rfl ?_
  refine w_call (q := 5) (n := 2) (vs := [.inr (.inr (some 54)), .inr (.inr (some 62))]) (rest := []) (la := [oR 54, oR 62, none, none]) hm134 ⟨⟨_, _, rfl⟩, rfl⟩ rfl rfl rfl rfl hm135 rfl rfl (fun _ => ⟨_, _, rfl, rfl⟩) rfl (Wp.mono h ?_)
  rintro _ m1 ⟨rfl, h⟩
  change Wp _ _ 5 _ [] _ _
  refine w_aload_n (q := 6) hm134 ⟨⟨_, _, rfl⟩, rfl⟩ rfl ?_
  refine w_aload_n (q := 7) hm134 ⟨⟨_, _, rfl⟩, rfl⟩ rfl ?_
  refine w_call (q := 10) (n := 1) (vs := [.inr (.inr (some 54)), .inr (.inr (some 62))]) (rest := []) (la := [oR 54, oR 62, none]) hm134 ⟨⟨_, _, rfl⟩, rfl⟩ rfl rfl rfl rfl hm136 rfl rfl (fun _ => ⟨_, _, rfl, rfl⟩) rfl (Wp.mono h ?_)
  rintro _ m2 ⟨rfl, h⟩
  change Wp _ _ 10 _ [] _ _
  refine w_aload_n (q := 11) hm134 ⟨⟨_, _, rfl⟩, rfl⟩ rfl ?_
  refine w_aload_n (q := 12) hm134 ⟨⟨_, _, rfl⟩, rfl⟩ rfl ?_
  refine w_aload_n (q := 13) hm134 ⟨⟨_, _, rfl⟩, rfl⟩ rfl ?_
  refine w_aload_n (q := 14) hm134 ⟨⟨_, _, rfl⟩, rfl⟩ rfl ?_
  refine w_getr (q := 17) hm134 ⟨⟨_, _, rfl⟩, rfl⟩ rfl ?_
  refine w_getf (q := 20) (v := (m2.1 2 6)) hm134 ⟨⟨_, _, rfl⟩, rfl⟩ rfl rfl ?_
  refine w_aload_n (q := 21) hm134 ⟨⟨_, _, rfl⟩, rfl⟩ rfl ?_
  refine w_getf (q := 24) (v := (m2.1 62 0)) hm134 ⟨⟨_, _, rfl⟩, rfl⟩ rfl rfl ?_
  refine w_call (q := 27) (n := 0) (vs := [.inr (.inr (some 54)), .inl (m2.1 2 6), .inl (m2.1 62 0)]) (rest := [.inr (.inr (some 62)), .inr (.inr (some 54))]) (la := [oR 54, oI (m2.1 2 6), oI (m2.1 62 0)]) hm134 ⟨⟨_, _, rfl⟩, rfl⟩ rfl rfl rfl rfl hm131 rfl rfl (fun _ => ⟨_, _, rfl, rfl⟩) rfl (Wp.mono h ?_)
  rintro _ m3 ⟨r3, rfl, h⟩
  change Wp _ _ 27 _ [.inl r3, .inr (.inr (some 62)), .inr (.inr (some 54))] _ _
  refine w_call (q := 30) (n := 2) (vs := [.inr (.inr (some 54)), .inr (.inr (some 62)), .inl r3]) (rest := []) (la := [oR 54, oR 62, oI r3, none, none]) hm134 ⟨⟨_, _, rfl⟩, rfl⟩ rfl rfl rfl rfl hm137 rfl rfl (fun _ => ⟨_, _, rfl, rfl⟩) rfl (Wp.mono h ?_)
  rintro _ m4 ⟨r4, rfl, h⟩
  change Wp _ _ 30 _ [.inl r4] _ _
  refine w_pop (q := 31) hm134 ⟨⟨_, _, rfl⟩, rfl⟩ rfl ?_
  exact w_retv hm134 ⟨⟨_, _, rfl⟩, rfl⟩ rfl h
theorem v_X1_after_61_47 {d : Nat} {x2 : Int32} {m : dM} {Q : dM → Prop} (h : c_X7_copy_62_47 d m (fun m1 => j_X1_after_61_47_10 (d + 1) x2 (0 : Int32) m1 Q)) : c_X1_after_61_47 (d + 1) x2 m Q := by
  refine w_aload_n (q := 1) hm150 ⟨⟨_, _, rfl⟩, rfl⟩ rfl ?_
  refine w_getr (q := 4) hm150 ⟨⟨_, _, rfl⟩, rfl⟩ rfl ?_
  refine w_aload_n (q := 5) hm150 ⟨⟨_, _, rfl⟩, rfl⟩ rfl ?_
  refine w_call (q := 8) (n := 0) (vs := [.inr (.inr (some 62)), .inr (.inr (some 47))]) (rest := []) (la := [oR 62, oR 47]) hm150 ⟨⟨_, _, rfl⟩, rfl⟩ rfl rfl rfl rfl hm209 rfl rfl (fun _ => ⟨_, _, rfl, rfl⟩) rfl (Wp.mono h ?_)
  rintro _ m1 ⟨rfl, h⟩
  change Wp _ _ 8 _ [] _ _
  refine w_iconst (q := 9) hm150 ⟨⟨_, _, rfl⟩, rfl⟩ iconst_0 ?_
  refine w_istore_n (q := 10) (l' := [oR 61, oR 47, oI x2, oI (0 : Int32)]) hm150 ⟨⟨_, _, rfl⟩, rfl⟩ rfl rfl rfl ?_
  exact Wp.wk [true, false, true, true] h
theorem v_X1_after_61_47_10 {d : Nat} {x2 : Int32} {x3 : Int32} {m : dM} {Q : dM → Prop} (h : ((x2.toInt ≤ x3.toInt → Q m) ∧ (x3.toInt < x2.toInt → c_X0_passHour_54_62 d m (fun m1 => j_X1_after_61_47_10 (d + 1) x2 (x3 + (1 : Int32)) m1 Q)))) : j_X1_after_61_47_10 (d + 1) x2 x3 m Q := by
  refine w_iload_n (q := 11) hm150 ⟨⟨_, _, rfl⟩, rfl⟩ rfl ?_
  refine w_iload_n (q := 12) hm150 ⟨⟨_, _, rfl⟩, rfl⟩ rfl ?_
  refine w_icmp_ge (q := 15) (X := x3.toInt) (Y := x2.toInt) hm150 ⟨⟨_, _, rfl⟩, rfl⟩ rfl rfl (fun hc => ?_) (fun hc => ?_)
  · have h := h.1 hc
    refine w_aload_n (q := 33) hm150 ⟨⟨_, _, rfl⟩, rfl⟩ rfl ?_
    refine w_getr (q := 36) hm150 ⟨⟨_, _, rfl⟩, rfl⟩ rfl ?_
    exact w_reta hm150 ⟨⟨_, _, rfl⟩, rfl⟩ rfl h
  · have h := h.2 hc
    refine w_aload_n (q := 16) hm150 ⟨⟨_, _, rfl⟩, rfl⟩ rfl ?_
    refine w_getr (q := 19) hm150 ⟨⟨_, _, rfl⟩, rfl⟩ rfl ?_
    refine w_aload_n (q := 20) hm150 ⟨⟨_, _, rfl⟩, rfl⟩ rfl ?_
    refine w_getr (q := 23) hm150 ⟨⟨_, _, rfl⟩, rfl⟩ rfl ?_
    refine w_call (q := 26) (n := 0) (vs := [.inr (.inr (some 54)), .inr (.inr (some 62))]) (rest := []) (la := [oR 54, oR 62]) hm150 ⟨⟨_, _, rfl⟩, rfl⟩ rfl rfl rfl rfl hm134 rfl rfl (fun _ => ⟨_, _, rfl, rfl⟩) rfl (Wp.mono h ?_)
    rintro _ m1 ⟨rfl, h⟩
    change Wp _ _ 26 _ [] _ _
    refine w_iinc (q := 29) (l' := [oR 61, none, oI x2, oI (x3 + (1 : Int32))]) hm150 ⟨⟨_, _, rfl⟩, rfl⟩ rfl rfl rfl iconst_1 rfl ?_
    refine w_goto (q := 10) hm150 ⟨_, _, rfl⟩ ?_
    exact h
theorem v_X11_then_0 {d : Nat} {x1 : Int32} {x2 : Int32} {m : dM} {Q : Int32 → dM → Prop} (h : ((x1.toInt < 0 → j_X11_then_0_19 (d + 1) m Q) ∧ (0 ≤ x1.toInt → ((72 < x1.toInt → j_X11_then_0_19 (d + 1) m Q) ∧ (x1.toInt ≤ 72 → ((x2.toInt < 0 → j_X11_then_0_19 (d + 1) m Q) ∧ (0 ≤ x2.toInt → ((x2.toInt ≤ 2 → c_X1_after_61_47 d x1 m (fun m1 => ((x2.toInt ≠ 0 → ((x2.toInt ≠ 1 → c_J6_bitCount d (m1.1 62 3) m1 (fun r2 m2 => Q r2 m2)) ∧ (x2.toInt = 1 → Q ((m1.1 62 2) - (m1.1 47 2)) m1))) ∧ (x2.toInt = 0 → Q ((m1.1 62 1) - (m1.1 47 1)) m1)))) ∧ (2 < x2.toInt → j_X11_then_0_19 (d + 1) m Q))))))))) : c_X11_then_0 (d + 1) x1 x2 m Q := by
  refine w_iload_n (q := 1) hm272 ⟨⟨_, _, rfl⟩, rfl⟩ rfl ?_
  refine w_if_lt (q := 4) (X := x1.toInt) hm272 ⟨⟨_, _, rfl⟩, rfl⟩ rfl (fun hc => ?_) (fun hc => ?_)
  · have h := h.1 hc
    exact Wp.wk [false, false, false, false] h
  · have h := h.2 hc
    refine w_iload_n (q := 5) hm272 ⟨⟨_, _, rfl⟩, rfl⟩ rfl ?_
    refine w_bipush (q := 7) hm272 ⟨⟨_, _, rfl⟩, rfl⟩ bipush_72 ?_
    refine w_icmp_gt (q := 10) (X := x1.toInt) (Y := 72) hm272 ⟨⟨_, _, rfl⟩, rfl⟩ rfl (by decide) (fun hc => ?_) (fun hc => ?_)
    · have h := h.1 hc
      exact Wp.wk [false, false, false, false] h
    · have h := h.2 hc
      refine w_iload_n (q := 11) hm272 ⟨⟨_, _, rfl⟩, rfl⟩ rfl ?_
      refine w_if_lt (q := 14) (X := x2.toInt) hm272 ⟨⟨_, _, rfl⟩, rfl⟩ rfl (fun hc => ?_) (fun hc => ?_)
      · have h := h.1 hc
        exact Wp.wk [false, false, false, false] h
      · have h := h.2 hc
        refine w_iload_n (q := 15) hm272 ⟨⟨_, _, rfl⟩, rfl⟩ rfl ?_
        refine w_iconst (q := 16) hm272 ⟨⟨_, _, rfl⟩, rfl⟩ iconst_2 ?_
        refine w_icmp_le (q := 19) (X := x2.toInt) (Y := 2) hm272 ⟨⟨_, _, rfl⟩, rfl⟩ rfl (by decide) (fun hc => ?_) (fun hc => ?_)
        · have h := h.1 hc
          refine w_aload_n (q := 22) hm272 ⟨⟨_, _, rfl⟩, rfl⟩ rfl ?_
          refine w_getr (q := 25) hm272 ⟨⟨_, _, rfl⟩, rfl⟩ rfl ?_
          refine w_aload_n (q := 26) hm272 ⟨⟨_, _, rfl⟩, rfl⟩ rfl ?_
          refine w_getr (q := 29) hm272 ⟨⟨_, _, rfl⟩, rfl⟩ rfl ?_
          refine w_iload_n (q := 30) hm272 ⟨⟨_, _, rfl⟩, rfl⟩ rfl ?_
          refine w_call (q := 33) (n := 1) (vs := [.inr (.inr (some 61)), .inr (.inr (some 47)), .inl x1]) (rest := []) (la := [oR 61, oR 47, oI x1, none]) hm272 ⟨⟨_, _, rfl⟩, rfl⟩ rfl rfl rfl rfl hm150 rfl rfl (fun _ => ⟨_, _, rfl, rfl⟩) rfl (Wp.mono h ?_)
          rintro _ m1 ⟨rfl, h⟩
          change Wp _ _ 33 _ [.inr (.inr (some 62))] _ _
          refine w_astore_n (q := 34) (l' := [oR 0, oI x1, oI x2, oR 62]) hm272 ⟨⟨_, _, rfl⟩, rfl⟩ rfl rfl rfl ?_
          refine w_iload_n (q := 35) hm272 ⟨⟨_, _, rfl⟩, rfl⟩ rfl ?_
          refine w_if_ne (q := 38) (X := x2.toInt) hm272 ⟨⟨_, _, rfl⟩, rfl⟩ rfl (fun hc => ?_) (fun hc => ?_)
          · have h := h.1 hc
            refine w_iload_n (q := 52) hm272 ⟨⟨_, _, rfl⟩, rfl⟩ rfl ?_
            refine w_iconst (q := 53) hm272 ⟨⟨_, _, rfl⟩, rfl⟩ iconst_1 ?_
            refine w_icmp_ne (q := 56) (X := x2.toInt) (Y := 1) hm272 ⟨⟨_, _, rfl⟩, rfl⟩ rfl (by decide) (fun hc => ?_) (fun hc => ?_)
            · have h := h.1 hc
              refine w_aload_n (q := 72) hm272 ⟨⟨_, _, rfl⟩, rfl⟩ rfl ?_
              refine w_getf (q := 75) (v := (m1.1 62 3)) hm272 ⟨⟨_, _, rfl⟩, rfl⟩ rfl rfl ?_
              refine w_call (q := 78) (n := 0) (vs := [.inl (m1.1 62 3)]) (rest := []) (la := [oI (m1.1 62 3)]) hm272 ⟨⟨_, _, rfl⟩, rfl⟩ rfl rfl rfl rfl hm285 rfl rfl (fun hz => absurd hz (by decide)) rfl (Wp.mono h ?_)
              rintro _ m2 ⟨r2, rfl, h⟩
              change Wp _ _ 78 _ [.inl r2] _ _
              exact w_reti hm272 ⟨⟨_, _, rfl⟩, rfl⟩ rfl h
            · have h := h.2 hc
              refine w_aload_n (q := 57) hm272 ⟨⟨_, _, rfl⟩, rfl⟩ rfl ?_
              refine w_getf (q := 60) (v := (m1.1 62 2)) hm272 ⟨⟨_, _, rfl⟩, rfl⟩ rfl rfl ?_
              refine w_aload_n (q := 61) hm272 ⟨⟨_, _, rfl⟩, rfl⟩ rfl ?_
              refine w_getr (q := 64) hm272 ⟨⟨_, _, rfl⟩, rfl⟩ rfl ?_
              refine w_getf (q := 67) (v := (m1.1 47 2)) hm272 ⟨⟨_, _, rfl⟩, rfl⟩ rfl rfl ?_
              refine w_isub (q := 68) hm272 ⟨⟨_, _, rfl⟩, rfl⟩ ?_
              refine w_goto (q := 78) hm272 ⟨_, _, rfl⟩ ?_
              exact w_reti hm272 ⟨⟨_, _, rfl⟩, rfl⟩ rfl h
          · have h := h.2 hc
            refine w_aload_n (q := 39) hm272 ⟨⟨_, _, rfl⟩, rfl⟩ rfl ?_
            refine w_getf (q := 42) (v := (m1.1 62 1)) hm272 ⟨⟨_, _, rfl⟩, rfl⟩ rfl rfl ?_
            refine w_aload_n (q := 43) hm272 ⟨⟨_, _, rfl⟩, rfl⟩ rfl ?_
            refine w_getr (q := 46) hm272 ⟨⟨_, _, rfl⟩, rfl⟩ rfl ?_
            refine w_getf (q := 49) (v := (m1.1 47 1)) hm272 ⟨⟨_, _, rfl⟩, rfl⟩ rfl rfl ?_
            refine w_isub (q := 50) hm272 ⟨⟨_, _, rfl⟩, rfl⟩ ?_
            exact w_reti hm272 ⟨⟨_, _, rfl⟩, rfl⟩ rfl h
        · have h := h.2 hc
          exact Wp.wk [false, false, false, false] h
theorem v_X11_then_0_19 {d : Nat} {m : dM} {Q : Int32 → dM → Prop} (h : Q (-1 : Int32) m) : j_X11_then_0_19 (d + 1) m Q := by
  refine w_iconst (q := 20) hm272 ⟨⟨_, _, rfl⟩, rfl⟩ iconst_m1 ?_
  exact w_reti hm272 ⟨⟨_, _, rfl⟩, rfl⟩ rfl h
theorem v_X12_then_70 {d : Nat} {x1 : Int32} {x2 : Int32} {m : dM} {Q : Int32 → dM → Prop} (h : c_X12_isLong d x1 m (fun r1 m1 => ((r1.toInt = 0 → j_X12_then_70_16 (d + 1) m1 Q) ∧ (r1.toInt ≠ 0 → c_X12_in d x2 (0 : Int32) (2 : Int32) m1 (fun r2 m2 => ((r2.toInt ≠ 0 → c_X12_copies_70 d m2 (fun m3 => c_X12_goes_70 d x1 m3 (fun m4 => ((2 ≤ x2.toInt → j_X12_then_70_57 (d + 1) (0 : Int32) (0 : Int32) m4 Q) ∧ (x2.toInt < 2 → ((0 ≤ ((56 : Int32) + x2).toInt ∧ ((56 : Int32) + x2).toInt < 58) ∧ ((0 ≤ ((56 : Int32) + x2).toInt ∧ ((56 : Int32) + x2).toInt < 58) ∧ Q ((m4.1 108 ((56 : Int32) + x2).toNatClampNeg) - (m4.1 107 ((56 : Int32) + x2).toNatClampNeg)) m4))))))) ∧ (r2.toInt = 0 → j_X12_then_70_16 (d + 1) m2 Q))))))) : c_X12_then_70 (d + 1) x1 x2 m Q := by
  refine w_iload_n (q := 1) hm103 ⟨⟨_, _, rfl⟩, rfl⟩ rfl ?_
  refine w_call (q := 4) (n := 0) (vs := [.inl x1]) (rest := []) (la := [oI x1]) hm103 ⟨⟨_, _, rfl⟩, rfl⟩ rfl rfl rfl rfl hm78 rfl rfl (fun hz => absurd hz (by decide)) rfl (Wp.mono h ?_)
  rintro _ m1 ⟨r1, rfl, h⟩
  change Wp _ _ 4 _ [.inl r1] _ _
  refine w_if_eq (q := 7) (X := r1.toInt) hm103 ⟨⟨_, _, rfl⟩, rfl⟩ rfl (fun hc => ?_) (fun hc => ?_)
  · have h := h.1 hc
    exact Wp.wk [false, false, false, false, false] h
  · have h := h.2 hc
    refine w_iload_n (q := 8) hm103 ⟨⟨_, _, rfl⟩, rfl⟩ rfl ?_
    refine w_iconst (q := 9) hm103 ⟨⟨_, _, rfl⟩, rfl⟩ iconst_0 ?_
    refine w_iconst (q := 10) hm103 ⟨⟨_, _, rfl⟩, rfl⟩ iconst_2 ?_
    refine w_call (q := 13) (n := 0) (vs := [.inl x2, .inl (0 : Int32), .inl (2 : Int32)]) (rest := []) (la := [oI x2, oI (0 : Int32), oI (2 : Int32)]) hm103 ⟨⟨_, _, rfl⟩, rfl⟩ rfl rfl rfl rfl hm36 rfl rfl (fun hz => absurd hz (by decide)) rfl (Wp.mono h ?_)
    rintro _ m2 ⟨r2, rfl, h⟩
    change Wp _ _ 13 _ [.inl r2] _ _
    refine w_if_ne (q := 16) (X := r2.toInt) hm103 ⟨⟨_, _, rfl⟩, rfl⟩ rfl (fun hc => ?_) (fun hc => ?_)
    · have h := h.1 hc
      refine w_aload_n (q := 19) hm103 ⟨⟨_, _, rfl⟩, rfl⟩ rfl ?_
      refine w_call (q := 22) (n := 1) (vs := [.inr (.inr (some 70))]) (rest := []) (la := [oR 70, none]) hm103 ⟨⟨_, _, rfl⟩, rfl⟩ rfl rfl rfl rfl hm44 rfl rfl (fun _ => ⟨_, _, rfl, rfl⟩) rfl (Wp.mono h ?_)
      rintro _ m3 ⟨rfl, h⟩
      change Wp _ _ 22 _ [] _ _
      refine w_aload_n (q := 23) hm103 ⟨⟨_, _, rfl⟩, rfl⟩ rfl ?_
      refine w_iload_n (q := 24) hm103 ⟨⟨_, _, rfl⟩, rfl⟩ rfl ?_
      refine w_call (q := 27) (n := 1) (vs := [.inr (.inr (some 70)), .inl x1]) (rest := []) (la := [oR 70, oI x1, none]) hm103 ⟨⟨_, _, rfl⟩, rfl⟩ rfl rfl rfl rfl hm68 rfl rfl (fun _ => ⟨_, _, rfl, rfl⟩) rfl (Wp.mono h ?_)
      rintro _ m4 ⟨rfl, h⟩
      change Wp _ _ 27 _ [] _ _
      refine w_iload_n (q := 28) hm103 ⟨⟨_, _, rfl⟩, rfl⟩ rfl ?_
      refine w_iconst (q := 29) hm103 ⟨⟨_, _, rfl⟩, rfl⟩ iconst_2 ?_
      refine w_icmp_ge (q := 32) (X := x2.toInt) (Y := 2) hm103 ⟨⟨_, _, rfl⟩, rfl⟩ rfl (by decide) (fun hc => ?_) (fun hc => ?_)
      · have h := h.1 hc
        refine w_iconst (q := 53) hm103 ⟨⟨_, _, rfl⟩, rfl⟩ iconst_0 ?_
        refine w_istore_n (q := 54) (l' := [oR 70, oI x1, oI x2, oI (0 : Int32), none]) hm103 ⟨⟨_, _, rfl⟩, rfl⟩ rfl rfl rfl ?_
        refine w_iconst (q := 55) hm103 ⟨⟨_, _, rfl⟩, rfl⟩ iconst_0 ?_
        refine w_istore (q := 57) (l' := [oR 70, oI x1, oI x2, oI (0 : Int32), oI (0 : Int32)]) hm103 ⟨⟨_, _, rfl⟩, rfl⟩ rfl rfl rfl ?_
        exact Wp.wk [true, false, false, true, true] h
      · have h := h.2 hc
        refine w_aload_n (q := 33) hm103 ⟨⟨_, _, rfl⟩, rfl⟩ rfl ?_
        refine w_getr (q := 36) hm103 ⟨⟨_, _, rfl⟩, rfl⟩ rfl ?_
        refine w_bipush (q := 38) hm103 ⟨⟨_, _, rfl⟩, rfl⟩ bipush_56 ?_
        refine w_iload_n (q := 39) hm103 ⟨⟨_, _, rfl⟩, rfl⟩ rfl ?_
        refine w_iadd (q := 40) hm103 ⟨⟨_, _, rfl⟩, rfl⟩ ?_
        obtain ⟨hi, h⟩ := h
        refine w_iald (q := 41) (v := (m4.1 108 ((56 : Int32) + x2).toNatClampNeg)) hm103 ⟨⟨_, _, rfl⟩, rfl⟩ rfl hi rfl rfl ?_
        refine w_aload_n (q := 42) hm103 ⟨⟨_, _, rfl⟩, rfl⟩ rfl ?_
        refine w_getr (q := 45) hm103 ⟨⟨_, _, rfl⟩, rfl⟩ rfl ?_
        refine w_bipush (q := 47) hm103 ⟨⟨_, _, rfl⟩, rfl⟩ bipush_56 ?_
        refine w_iload_n (q := 48) hm103 ⟨⟨_, _, rfl⟩, rfl⟩ rfl ?_
        refine w_iadd (q := 49) hm103 ⟨⟨_, _, rfl⟩, rfl⟩ ?_
        obtain ⟨hi, h⟩ := h
        refine w_iald (q := 50) (v := (m4.1 107 ((56 : Int32) + x2).toNatClampNeg)) hm103 ⟨⟨_, _, rfl⟩, rfl⟩ rfl hi rfl rfl ?_
        refine w_isub (q := 51) hm103 ⟨⟨_, _, rfl⟩, rfl⟩ ?_
        exact w_reti hm103 ⟨⟨_, _, rfl⟩, rfl⟩ rfl h
    · have h := h.2 hc
      exact Wp.wk [false, false, false, false, false] h
theorem v_X12_then_70_16 {d : Nat} {m : dM} {Q : Int32 → dM → Prop} (h : Q (-1 : Int32) m) : j_X12_then_70_16 (d + 1) m Q := by
  refine w_iconst (q := 17) hm103 ⟨⟨_, _, rfl⟩, rfl⟩ iconst_m1 ?_
  exact w_reti hm103 ⟨⟨_, _, rfl⟩, rfl⟩ rfl h
theorem v_X12_then_70_57 {d : Nat} {x3 : Int32} {x4 : Int32} {m : dM} {Q : Int32 → dM → Prop} (h : ((0 ≤ (m.1 70 18).toInt ∧ (m.1 70 18).toInt < 2) ∧ (((m.1 82 (m.1 70 18).toNatClampNeg).toInt ≤ x4.toInt → Q x3 m) ∧ (x4.toInt < (m.1 82 (m.1 70 18).toNatClampNeg).toInt → ((0 ≤ ((10 : Int32) + x4).toInt ∧ ((10 : Int32) + x4).toInt < 58) ∧ j_X12_then_70_57 (d + 1) (x3 + (m.1 108 ((10 : Int32) + x4).toNatClampNeg)) (x4 + (1 : Int32)) m Q))))) : j_X12_then_70_57 (d + 1) x3 x4 m Q := by
  refine w_iload (q := 59) hm103 ⟨⟨_, _, rfl⟩, rfl⟩ rfl ?_
  refine w_aload_n (q := 60) hm103 ⟨⟨_, _, rfl⟩, rfl⟩ rfl ?_
  refine w_getr (q := 63) hm103 ⟨⟨_, _, rfl⟩, rfl⟩ rfl ?_
  refine w_aload_n (q := 64) hm103 ⟨⟨_, _, rfl⟩, rfl⟩ rfl ?_
  refine w_getf (q := 67) (v := (m.1 70 18)) hm103 ⟨⟨_, _, rfl⟩, rfl⟩ rfl rfl ?_
  obtain ⟨hi, h⟩ := h
  refine w_iald (q := 68) (v := (m.1 82 (m.1 70 18).toNatClampNeg)) hm103 ⟨⟨_, _, rfl⟩, rfl⟩ rfl hi rfl rfl ?_
  refine w_icmp_ge (q := 71) (X := x4.toInt) (Y := (m.1 82 (m.1 70 18).toNatClampNeg).toInt) hm103 ⟨⟨_, _, rfl⟩, rfl⟩ rfl rfl (fun hc => ?_) (fun hc => ?_)
  · have h := h.1 hc
    refine w_iload_n (q := 91) hm103 ⟨⟨_, _, rfl⟩, rfl⟩ rfl ?_
    exact w_reti hm103 ⟨⟨_, _, rfl⟩, rfl⟩ rfl h
  · have h := h.2 hc
    refine w_iload_n (q := 72) hm103 ⟨⟨_, _, rfl⟩, rfl⟩ rfl ?_
    refine w_aload_n (q := 73) hm103 ⟨⟨_, _, rfl⟩, rfl⟩ rfl ?_
    refine w_getr (q := 76) hm103 ⟨⟨_, _, rfl⟩, rfl⟩ rfl ?_
    refine w_bipush (q := 78) hm103 ⟨⟨_, _, rfl⟩, rfl⟩ bipush_10 ?_
    refine w_iload (q := 80) hm103 ⟨⟨_, _, rfl⟩, rfl⟩ rfl ?_
    refine w_iadd (q := 81) hm103 ⟨⟨_, _, rfl⟩, rfl⟩ ?_
    obtain ⟨hi, h⟩ := h
    refine w_iald (q := 82) (v := (m.1 108 ((10 : Int32) + x4).toNatClampNeg)) hm103 ⟨⟨_, _, rfl⟩, rfl⟩ rfl hi rfl rfl ?_
    refine w_iadd (q := 83) hm103 ⟨⟨_, _, rfl⟩, rfl⟩ ?_
    refine w_istore_n (q := 84) (l' := [oR 70, none, none, oI (x3 + (m.1 108 ((10 : Int32) + x4).toNatClampNeg)), oI x4]) hm103 ⟨⟨_, _, rfl⟩, rfl⟩ rfl rfl rfl ?_
    refine w_iinc (q := 87) (l' := [oR 70, none, none, oI (x3 + (m.1 108 ((10 : Int32) + x4).toNatClampNeg)), oI (x4 + (1 : Int32))]) hm103 ⟨⟨_, _, rfl⟩, rfl⟩ rfl rfl rfl iconst_1 rfl ?_
    refine w_goto (q := 57) hm103 ⟨_, _, rfl⟩ ?_
    exact h
theorem v_X11_litIn_0 {d : Nat} {x1 : Int32} {x2 : Int32} {m : dM} {Q : Int32 → dM → Prop} (h : c_X11_isFlat_0 d x1 m (fun r1 m1 => ((r1.toInt = 0 → j_X11_litIn_0_18 (d + 1) m1 Q) ∧ (r1.toInt ≠ 0 → ((x2.toInt < 0 → j_X11_litIn_0_18 (d + 1) m1 Q) ∧ (0 ≤ x2.toInt → ((x2.toInt ≤ 72 → c_X1_after_61_47 d x2 m1 (fun m2 => c_X3_litWithout_2 d (m2.1 62 3) m2 (fun r3 m3 => c_X11_has d r3 x1 m3 (fun r4 m4 => ((r4.toInt = 0 → Q (0 : Int32) m4) ∧ (r4.toInt ≠ 0 → Q (1 : Int32) m4)))))) ∧ (72 < x2.toInt → j_X11_litIn_0_18 (d + 1) m1 Q)))))))) : c_X11_litIn_0 (d + 1) x1 x2 m Q := by
  refine w_aload_n (q := 1) hm273 ⟨⟨_, _, rfl⟩, rfl⟩ rfl ?_
  refine w_iload_n (q := 2) hm273 ⟨⟨_, _, rfl⟩, rfl⟩ rfl ?_
  refine w_call (q := 5) (n := 0) (vs := [.inr (.inr (some 0)), .inl x1]) (rest := []) (la := [oR 0, oI x1]) hm273 ⟨⟨_, _, rfl⟩, rfl⟩ rfl rfl rfl rfl hm248 rfl rfl (fun _ => ⟨_, _, rfl, rfl⟩) rfl (Wp.mono h ?_)
  rintro _ m1 ⟨r1, rfl, h⟩
  change Wp _ _ 5 _ [.inl r1] _ _
  refine w_if_eq (q := 8) (X := r1.toInt) hm273 ⟨⟨_, _, rfl⟩, rfl⟩ rfl (fun hc => ?_) (fun hc => ?_)
  · have h := h.1 hc
    exact Wp.wk [false, false, false] h
  · have h := h.2 hc
    refine w_iload_n (q := 9) hm273 ⟨⟨_, _, rfl⟩, rfl⟩ rfl ?_
    refine w_if_lt (q := 12) (X := x2.toInt) hm273 ⟨⟨_, _, rfl⟩, rfl⟩ rfl (fun hc => ?_) (fun hc => ?_)
    · have h := h.1 hc
      exact Wp.wk [false, false, false] h
    · have h := h.2 hc
      refine w_iload_n (q := 13) hm273 ⟨⟨_, _, rfl⟩, rfl⟩ rfl ?_
      refine w_bipush (q := 15) hm273 ⟨⟨_, _, rfl⟩, rfl⟩ bipush_72 ?_
      refine w_icmp_le (q := 18) (X := x2.toInt) (Y := 72) hm273 ⟨⟨_, _, rfl⟩, rfl⟩ rfl (by decide) (fun hc => ?_) (fun hc => ?_)
      · have h := h.1 hc
        refine w_aload_n (q := 21) hm273 ⟨⟨_, _, rfl⟩, rfl⟩ rfl ?_
        refine w_getr (q := 24) hm273 ⟨⟨_, _, rfl⟩, rfl⟩ rfl ?_
        refine w_aload_n (q := 25) hm273 ⟨⟨_, _, rfl⟩, rfl⟩ rfl ?_
        refine w_getr (q := 28) hm273 ⟨⟨_, _, rfl⟩, rfl⟩ rfl ?_
        refine w_aload_n (q := 29) hm273 ⟨⟨_, _, rfl⟩, rfl⟩ rfl ?_
        refine w_getr (q := 32) hm273 ⟨⟨_, _, rfl⟩, rfl⟩ rfl ?_
        refine w_iload_n (q := 33) hm273 ⟨⟨_, _, rfl⟩, rfl⟩ rfl ?_
        refine w_call (q := 36) (n := 1) (vs := [.inr (.inr (some 61)), .inr (.inr (some 47)), .inl x2]) (rest := [.inr (.inr (some 2))]) (la := [oR 61, oR 47, oI x2, none]) hm273 ⟨⟨_, _, rfl⟩, rfl⟩ rfl rfl rfl rfl hm150 rfl rfl (fun _ => ⟨_, _, rfl, rfl⟩) rfl (Wp.mono h ?_)
        rintro _ m2 ⟨rfl, h⟩
        change Wp _ _ 36 _ [.inr (.inr (some 62)), .inr (.inr (some 2))] _ _
        refine w_getf (q := 39) (v := (m2.1 62 3)) hm273 ⟨⟨_, _, rfl⟩, rfl⟩ rfl rfl ?_
        refine w_call (q := 42) (n := 5) (vs := [.inr (.inr (some 2)), .inl (m2.1 62 3)]) (rest := []) (la := [oR 2, oI (m2.1 62 3), none, none, none, none, none]) hm273 ⟨⟨_, _, rfl⟩, rfl⟩ rfl rfl rfl rfl hm174 rfl rfl (fun _ => ⟨_, _, rfl, rfl⟩) rfl (Wp.mono h ?_)
        rintro _ m3 ⟨r3, rfl, h⟩
        change Wp _ _ 42 _ [.inl r3] _ _
        refine w_iload_n (q := 43) hm273 ⟨⟨_, _, rfl⟩, rfl⟩ rfl ?_
        refine w_call (q := 46) (n := 0) (vs := [.inl r3, .inl x1]) (rest := []) (la := [oI r3, oI x1]) hm273 ⟨⟨_, _, rfl⟩, rfl⟩ rfl rfl rfl rfl hm283 rfl rfl (fun hz => absurd hz (by decide)) rfl (Wp.mono h ?_)
        rintro _ m4 ⟨r4, rfl, h⟩
        change Wp _ _ 46 _ [.inl r4] _ _
        refine w_if_eq (q := 49) (X := r4.toInt) hm273 ⟨⟨_, _, rfl⟩, rfl⟩ rfl (fun hc => ?_) (fun hc => ?_)
        · have h := h.1 hc
          refine w_iconst (q := 54) hm273 ⟨⟨_, _, rfl⟩, rfl⟩ iconst_0 ?_
          exact w_reti hm273 ⟨⟨_, _, rfl⟩, rfl⟩ rfl h
        · have h := h.2 hc
          refine w_iconst (q := 50) hm273 ⟨⟨_, _, rfl⟩, rfl⟩ iconst_1 ?_
          refine w_goto (q := 54) hm273 ⟨_, _, rfl⟩ ?_
          exact w_reti hm273 ⟨⟨_, _, rfl⟩, rfl⟩ rfl h
      · have h := h.2 hc
        exact Wp.wk [false, false, false] h
theorem v_X11_litIn_0_18 {d : Nat} {m : dM} {Q : Int32 → dM → Prop} (h : Q (-1 : Int32) m) : j_X11_litIn_0_18 (d + 1) m Q := by
  refine w_iconst (q := 19) hm273 ⟨⟨_, _, rfl⟩, rfl⟩ iconst_m1 ?_
  exact w_reti hm273 ⟨⟨_, _, rfl⟩, rfl⟩ rfl h
theorem v_X12_litIn_70 {d : Nat} {x1 : Int32} {x2 : Int32} {m : dM} {Q : Int32 → dM → Prop} (h : c_X12_isFlat_70 d x1 m (fun r1 m1 => ((r1.toInt = 0 → j_X12_litIn_70_15 (d + 1) m1 Q) ∧ (r1.toInt ≠ 0 → c_X12_isLong d x2 m1 (fun r2 m2 => ((r2.toInt ≠ 0 → c_X12_copies_70 d m2 (fun m3 => c_X12_goes_70 d x2 m3 (fun m4 => c_X12_isLit_70 d x1 m4 (fun r5 m5 => ((r5.toInt = 0 → Q (0 : Int32) m5) ∧ (r5.toInt ≠ 0 → Q (1 : Int32) m5)))))) ∧ (r2.toInt = 0 → j_X12_litIn_70_15 (d + 1) m2 Q))))))) : c_X12_litIn_70 (d + 1) x1 x2 m Q := by
  refine w_aload_n (q := 1) hm104 ⟨⟨_, _, rfl⟩, rfl⟩ rfl ?_
  refine w_iload_n (q := 2) hm104 ⟨⟨_, _, rfl⟩, rfl⟩ rfl ?_
  refine w_call (q := 5) (n := 0) (vs := [.inr (.inr (some 70)), .inl x1]) (rest := []) (la := [oR 70, oI x1]) hm104 ⟨⟨_, _, rfl⟩, rfl⟩ rfl rfl rfl rfl hm39 rfl rfl (fun _ => ⟨_, _, rfl, rfl⟩) rfl (Wp.mono h ?_)
  rintro _ m1 ⟨r1, rfl, h⟩
  change Wp _ _ 5 _ [.inl r1] _ _
  refine w_if_eq (q := 8) (X := r1.toInt) hm104 ⟨⟨_, _, rfl⟩, rfl⟩ rfl (fun hc => ?_) (fun hc => ?_)
  · have h := h.1 hc
    exact Wp.wk [false, false, false] h
  · have h := h.2 hc
    refine w_iload_n (q := 9) hm104 ⟨⟨_, _, rfl⟩, rfl⟩ rfl ?_
    refine w_call (q := 12) (n := 0) (vs := [.inl x2]) (rest := []) (la := [oI x2]) hm104 ⟨⟨_, _, rfl⟩, rfl⟩ rfl rfl rfl rfl hm78 rfl rfl (fun hz => absurd hz (by decide)) rfl (Wp.mono h ?_)
    rintro _ m2 ⟨r2, rfl, h⟩
    change Wp _ _ 12 _ [.inl r2] _ _
    refine w_if_ne (q := 15) (X := r2.toInt) hm104 ⟨⟨_, _, rfl⟩, rfl⟩ rfl (fun hc => ?_) (fun hc => ?_)
    · have h := h.1 hc
      refine w_aload_n (q := 18) hm104 ⟨⟨_, _, rfl⟩, rfl⟩ rfl ?_
      refine w_call (q := 21) (n := 1) (vs := [.inr (.inr (some 70))]) (rest := []) (la := [oR 70, none]) hm104 ⟨⟨_, _, rfl⟩, rfl⟩ rfl rfl rfl rfl hm44 rfl rfl (fun _ => ⟨_, _, rfl, rfl⟩) rfl (Wp.mono h ?_)
      rintro _ m3 ⟨rfl, h⟩
      change Wp _ _ 21 _ [] _ _
      refine w_aload_n (q := 22) hm104 ⟨⟨_, _, rfl⟩, rfl⟩ rfl ?_
      refine w_iload_n (q := 23) hm104 ⟨⟨_, _, rfl⟩, rfl⟩ rfl ?_
      refine w_call (q := 26) (n := 1) (vs := [.inr (.inr (some 70)), .inl x2]) (rest := []) (la := [oR 70, oI x2, none]) hm104 ⟨⟨_, _, rfl⟩, rfl⟩ rfl rfl rfl rfl hm68 rfl rfl (fun _ => ⟨_, _, rfl, rfl⟩) rfl (Wp.mono h ?_)
      rintro _ m4 ⟨rfl, h⟩
      change Wp _ _ 26 _ [] _ _
      refine w_aload_n (q := 27) hm104 ⟨⟨_, _, rfl⟩, rfl⟩ rfl ?_
      refine w_iload_n (q := 28) hm104 ⟨⟨_, _, rfl⟩, rfl⟩ rfl ?_
      refine w_call (q := 31) (n := 0) (vs := [.inr (.inr (some 70)), .inl x1]) (rest := []) (la := [oR 70, oI x1]) hm104 ⟨⟨_, _, rfl⟩, rfl⟩ rfl rfl rfl rfl hm51 rfl rfl (fun _ => ⟨_, _, rfl, rfl⟩) rfl (Wp.mono h ?_)
      rintro _ m5 ⟨r5, rfl, h⟩
      change Wp _ _ 31 _ [.inl r5] _ _
      refine w_if_eq (q := 34) (X := r5.toInt) hm104 ⟨⟨_, _, rfl⟩, rfl⟩ rfl (fun hc => ?_) (fun hc => ?_)
      · have h := h.1 hc
        refine w_iconst (q := 39) hm104 ⟨⟨_, _, rfl⟩, rfl⟩ iconst_0 ?_
        exact w_reti hm104 ⟨⟨_, _, rfl⟩, rfl⟩ rfl h
      · have h := h.2 hc
        refine w_iconst (q := 35) hm104 ⟨⟨_, _, rfl⟩, rfl⟩ iconst_1 ?_
        refine w_goto (q := 39) hm104 ⟨_, _, rfl⟩ ?_
        exact w_reti hm104 ⟨⟨_, _, rfl⟩, rfl⟩ rfl h
    · have h := h.2 hc
      exact Wp.wk [false, false, false] h
theorem v_X12_litIn_70_15 {d : Nat} {m : dM} {Q : Int32 → dM → Prop} (h : Q (-1 : Int32) m) : j_X12_litIn_70_15 (d + 1) m Q := by
  refine w_iconst (q := 16) hm104 ⟨⟨_, _, rfl⟩, rfl⟩ iconst_m1 ?_
  exact w_reti hm104 ⟨⟨_, _, rfl⟩, rfl⟩ rfl h
theorem v_X1_isCalm_61_47 {d : Nat} {x2 : Int32} {x3 : Int32} {m : dM} {Q : Int32 → dM → Prop} (h : c_X7_copy_62_47 d m (fun m1 => j_X1_isCalm_61_47_11 (d + 1) x2 x3 (0 : Int32) m1 Q)) : c_X1_isCalm_61_47 (d + 1) x2 x3 m Q := by
  refine w_aload_n (q := 1) hm152 ⟨⟨_, _, rfl⟩, rfl⟩ rfl ?_
  refine w_getr (q := 4) hm152 ⟨⟨_, _, rfl⟩, rfl⟩ rfl ?_
  refine w_aload_n (q := 5) hm152 ⟨⟨_, _, rfl⟩, rfl⟩ rfl ?_
  refine w_call (q := 8) (n := 0) (vs := [.inr (.inr (some 62)), .inr (.inr (some 47))]) (rest := []) (la := [oR 62, oR 47]) hm152 ⟨⟨_, _, rfl⟩, rfl⟩ rfl rfl rfl rfl hm209 rfl rfl (fun _ => ⟨_, _, rfl, rfl⟩) rfl (Wp.mono h ?_)
  rintro _ m1 ⟨rfl, h⟩
  change Wp _ _ 8 _ [] _ _
  refine w_iconst (q := 9) hm152 ⟨⟨_, _, rfl⟩, rfl⟩ iconst_0 ?_
  refine w_istore (q := 11) (l' := [oR 61, oR 47, oI x2, oI x3, oI (0 : Int32)]) hm152 ⟨⟨_, _, rfl⟩, rfl⟩ rfl rfl rfl ?_
  exact Wp.wk [true, false, true, true, true] h
theorem v_X1_isCalm_61_47_11 {d : Nat} {x2 : Int32} {x3 : Int32} {x4 : Int32} {m : dM} {Q : Int32 → dM → Prop} (h : ((x2.toInt ≤ x4.toInt → Q (1 : Int32) m) ∧ (x4.toInt < x2.toInt → c_X0_surgeOf_54 d x3 (m.1 62 0) m (fun r1 m1 => c_X0_passWires_54_62 d r1 m1 (fun r2 m2 => ((r2.toInt = 0 → j_X1_isCalm_61_47_11 (d + 1) x2 x3 (x4 + (1 : Int32)) m2 Q) ∧ (r2.toInt ≠ 0 → Q (0 : Int32) m2))))))) : j_X1_isCalm_61_47_11 (d + 1) x2 x3 x4 m Q := by
  refine w_iload (q := 13) hm152 ⟨⟨_, _, rfl⟩, rfl⟩ rfl ?_
  refine w_iload_n (q := 14) hm152 ⟨⟨_, _, rfl⟩, rfl⟩ rfl ?_
  refine w_icmp_ge (q := 17) (X := x4.toInt) (Y := x2.toInt) hm152 ⟨⟨_, _, rfl⟩, rfl⟩ rfl rfl (fun hc => ?_) (fun hc => ?_)
  · have h := h.1 hc
    refine w_iconst (q := 55) hm152 ⟨⟨_, _, rfl⟩, rfl⟩ iconst_1 ?_
    exact w_retz hm152 ⟨⟨_, _, rfl⟩, rfl⟩ rfl (by decide) h
  · have h := h.2 hc
    refine w_aload_n (q := 18) hm152 ⟨⟨_, _, rfl⟩, rfl⟩ rfl ?_
    refine w_getr (q := 21) hm152 ⟨⟨_, _, rfl⟩, rfl⟩ rfl ?_
    refine w_aload_n (q := 22) hm152 ⟨⟨_, _, rfl⟩, rfl⟩ rfl ?_
    refine w_getr (q := 25) hm152 ⟨⟨_, _, rfl⟩, rfl⟩ rfl ?_
    refine w_aload_n (q := 26) hm152 ⟨⟨_, _, rfl⟩, rfl⟩ rfl ?_
    refine w_getr (q := 29) hm152 ⟨⟨_, _, rfl⟩, rfl⟩ rfl ?_
    refine w_iload_n (q := 30) hm152 ⟨⟨_, _, rfl⟩, rfl⟩ rfl ?_
    refine w_aload_n (q := 31) hm152 ⟨⟨_, _, rfl⟩, rfl⟩ rfl ?_
    refine w_getr (q := 34) hm152 ⟨⟨_, _, rfl⟩, rfl⟩ rfl ?_
    refine w_getf (q := 37) (v := (m.1 62 0)) hm152 ⟨⟨_, _, rfl⟩, rfl⟩ rfl rfl ?_
    refine w_call (q := 40) (n := 0) (vs := [.inr (.inr (some 54)), .inl x3, .inl (m.1 62 0)]) (rest := [.inr (.inr (some 62)), .inr (.inr (some 54))]) (la := [oR 54, oI x3, oI (m.1 62 0)]) hm152 ⟨⟨_, _, rfl⟩, rfl⟩ rfl rfl rfl rfl hm131 rfl rfl (fun _ => ⟨_, _, rfl, rfl⟩) rfl (Wp.mono h ?_)
    rintro _ m1 ⟨r1, rfl, h⟩
    change Wp _ _ 40 _ [.inl r1, .inr (.inr (some 62)), .inr (.inr (some 54))] _ _
    refine w_call (q := 43) (n := 2) (vs := [.inr (.inr (some 54)), .inr (.inr (some 62)), .inl r1]) (rest := []) (la := [oR 54, oR 62, oI r1, none, none]) hm152 ⟨⟨_, _, rfl⟩, rfl⟩ rfl rfl rfl rfl hm137 rfl rfl (fun _ => ⟨_, _, rfl, rfl⟩) rfl (Wp.mono h ?_)
    rintro _ m2 ⟨r2, rfl, h⟩
    change Wp _ _ 43 _ [.inl r2] _ _
    refine w_if_eq (q := 46) (X := r2.toInt) hm152 ⟨⟨_, _, rfl⟩, rfl⟩ rfl (fun hc => ?_) (fun hc => ?_)
    · have h := h.1 hc
      refine w_iinc (q := 51) (l' := [oR 61, none, oI x2, oI x3, oI (x4 + (1 : Int32))]) hm152 ⟨⟨_, _, rfl⟩, rfl⟩ rfl rfl rfl iconst_1 rfl ?_
      refine w_goto (q := 11) hm152 ⟨_, _, rfl⟩ ?_
      exact h
    · have h := h.2 hc
      refine w_iconst (q := 47) hm152 ⟨⟨_, _, rfl⟩, rfl⟩ iconst_0 ?_
      exact w_retz hm152 ⟨⟨_, _, rfl⟩, rfl⟩ rfl (by decide) h
theorem v_X1_calmSeeds_61_47 {d : Nat} {x2 : Int32} {x3 : Int32} {m : dM} {Q : Int32 → dM → Prop} (h : j_X1_calmSeeds_61_47_6 (d + 1) x2 x3 (0 : Int32) (0 : Int32) m Q) : c_X1_calmSeeds_61_47 (d + 1) x2 x3 m Q := by
  refine w_iconst (q := 1) hm151 ⟨⟨_, _, rfl⟩, rfl⟩ iconst_0 ?_
  refine w_istore (q := 3) (l' := [oR 61, oR 47, oI x2, oI x3, oI (0 : Int32), none]) hm151 ⟨⟨_, _, rfl⟩, rfl⟩ rfl rfl rfl ?_
  refine w_iconst (q := 4) hm151 ⟨⟨_, _, rfl⟩, rfl⟩ iconst_0 ?_
  refine w_istore (q := 6) (l' := [oR 61, oR 47, oI x2, oI x3, oI (0 : Int32), oI (0 : Int32)]) hm151 ⟨⟨_, _, rfl⟩, rfl⟩ rfl rfl rfl ?_
  exact h
theorem v_X1_calmSeeds_61_47_6 {d : Nat} {x2 : Int32} {x3 : Int32} {x4 : Int32} {x5 : Int32} {m : dM} {Q : Int32 → dM → Prop} (h : ((x3.toInt ≤ x5.toInt → Q x4 m) ∧ (x5.toInt < x3.toInt → c_X1_isCalm_61_47 d x2 ((m.1 2 6) + x5) m (fun r1 m1 => ((r1.toInt = 0 → j_X1_calmSeeds_61_47_6 (d + 1) x2 x3 (x4 + (0 : Int32)) (x5 + (1 : Int32)) m1 Q) ∧ (r1.toInt ≠ 0 → j_X1_calmSeeds_61_47_6 (d + 1) x2 x3 (x4 + (1 : Int32)) (x5 + (1 : Int32)) m1 Q)))))) : j_X1_calmSeeds_61_47_6 (d + 1) x2 x3 x4 x5 m Q := by
  refine w_iload (q := 8) hm151 ⟨⟨_, _, rfl⟩, rfl⟩ rfl ?_
  refine w_iload_n (q := 9) hm151 ⟨⟨_, _, rfl⟩, rfl⟩ rfl ?_
  refine w_icmp_ge (q := 12) (X := x5.toInt) (Y := x3.toInt) hm151 ⟨⟨_, _, rfl⟩, rfl⟩ rfl rfl (fun hc => ?_) (fun hc => ?_)
  · have h := h.1 hc
    refine w_iload (q := 49) hm151 ⟨⟨_, _, rfl⟩, rfl⟩ rfl ?_
    exact w_reti hm151 ⟨⟨_, _, rfl⟩, rfl⟩ rfl h
  · have h := h.2 hc
    refine w_iload (q := 14) hm151 ⟨⟨_, _, rfl⟩, rfl⟩ rfl ?_
    refine w_aload_n (q := 15) hm151 ⟨⟨_, _, rfl⟩, rfl⟩ rfl ?_
    refine w_aload_n (q := 16) hm151 ⟨⟨_, _, rfl⟩, rfl⟩ rfl ?_
    refine w_iload_n (q := 17) hm151 ⟨⟨_, _, rfl⟩, rfl⟩ rfl ?_
    refine w_aload_n (q := 18) hm151 ⟨⟨_, _, rfl⟩, rfl⟩ rfl ?_
    refine w_getr (q := 21) hm151 ⟨⟨_, _, rfl⟩, rfl⟩ rfl ?_
    refine w_getf (q := 24) (v := (m.1 2 6)) hm151 ⟨⟨_, _, rfl⟩, rfl⟩ rfl rfl ?_
    refine w_iload (q := 26) hm151 ⟨⟨_, _, rfl⟩, rfl⟩ rfl ?_
    refine w_iadd (q := 27) hm151 ⟨⟨_, _, rfl⟩, rfl⟩ ?_
    refine w_call (q := 30) (n := 1) (vs := [.inr (.inr (some 61)), .inr (.inr (some 47)), .inl x2, .inl ((m.1 2 6) + x5)]) (rest := [.inl x4]) (la := [oR 61, oR 47, oI x2, oI ((m.1 2 6) + x5), none]) hm151 ⟨⟨_, _, rfl⟩, rfl⟩ rfl rfl rfl rfl hm152 rfl rfl (fun _ => ⟨_, _, rfl, rfl⟩) rfl (Wp.mono h ?_)
    rintro _ m1 ⟨r1, rfl, h⟩
    change Wp _ _ 30 _ [.inl r1, .inl x4] _ _
    refine w_if_eq (q := 33) (X := r1.toInt) hm151 ⟨⟨_, _, rfl⟩, rfl⟩ rfl (fun hc => ?_) (fun hc => ?_)
    · have h := h.1 hc
      refine w_iconst (q := 38) hm151 ⟨⟨_, _, rfl⟩, rfl⟩ iconst_0 ?_
      refine w_iadd (q := 39) hm151 ⟨⟨_, _, rfl⟩, rfl⟩ ?_
      refine w_istore (q := 41) (l' := [oR 61, oR 47, oI x2, oI x3, oI (x4 + (0 : Int32)), oI x5]) hm151 ⟨⟨_, _, rfl⟩, rfl⟩ rfl rfl rfl ?_
      refine w_iinc (q := 44) (l' := [oR 61, oR 47, oI x2, oI x3, oI (x4 + (0 : Int32)), oI (x5 + (1 : Int32))]) hm151 ⟨⟨_, _, rfl⟩, rfl⟩ rfl rfl rfl iconst_1 rfl ?_
      refine w_goto (q := 6) hm151 ⟨_, _, rfl⟩ ?_
      exact h
    · have h := h.2 hc
      refine w_iconst (q := 34) hm151 ⟨⟨_, _, rfl⟩, rfl⟩ iconst_1 ?_
      refine w_goto (q := 38) hm151 ⟨_, _, rfl⟩ ?_
      refine w_iadd (q := 39) hm151 ⟨⟨_, _, rfl⟩, rfl⟩ ?_
      refine w_istore (q := 41) (l' := [oR 61, oR 47, oI x2, oI x3, oI (x4 + (1 : Int32)), oI x5]) hm151 ⟨⟨_, _, rfl⟩, rfl⟩ rfl rfl rfl ?_
      refine w_iinc (q := 44) (l' := [oR 61, oR 47, oI x2, oI x3, oI (x4 + (1 : Int32)), oI (x5 + (1 : Int32))]) hm151 ⟨⟨_, _, rfl⟩, rfl⟩ rfl rfl rfl iconst_1 rfl ?_
      refine w_goto (q := 6) hm151 ⟨_, _, rfl⟩ ?_
      exact h
theorem v_X11_year_0 {d : Nat} {x1 : Int32} {x2 : Int32} {m : dM} {Q : Int32 → dM → Prop} (h : ((x1.toInt < 0 → j_X11_year_0_21 (d + 1) m Q) ∧ (0 ≤ x1.toInt → ((72 < x1.toInt → j_X11_year_0_21 (d + 1) m Q) ∧ (x1.toInt ≤ 72 → ((x2.toInt < 1 → j_X11_year_0_21 (d + 1) m Q) ∧ (1 ≤ x2.toInt → ((x2.toInt ≤ 20 → c_X1_calmSeeds_61_47 d x1 x2 m (fun r1 m1 => Q r1 m1)) ∧ (20 < x2.toInt → j_X11_year_0_21 (d + 1) m Q))))))))) : c_X11_year_0 (d + 1) x1 x2 m Q := by
  refine w_iload_n (q := 1) hm274 ⟨⟨_, _, rfl⟩, rfl⟩ rfl ?_
  refine w_if_lt (q := 4) (X := x1.toInt) hm274 ⟨⟨_, _, rfl⟩, rfl⟩ rfl (fun hc => ?_) (fun hc => ?_)
  · have h := h.1 hc
    exact Wp.wk [false, false, false] h
  · have h := h.2 hc
    refine w_iload_n (q := 5) hm274 ⟨⟨_, _, rfl⟩, rfl⟩ rfl ?_
    refine w_bipush (q := 7) hm274 ⟨⟨_, _, rfl⟩, rfl⟩ bipush_72 ?_
    refine w_icmp_gt (q := 10) (X := x1.toInt) (Y := 72) hm274 ⟨⟨_, _, rfl⟩, rfl⟩ rfl (by decide) (fun hc => ?_) (fun hc => ?_)
    · have h := h.1 hc
      exact Wp.wk [false, false, false] h
    · have h := h.2 hc
      refine w_iload_n (q := 11) hm274 ⟨⟨_, _, rfl⟩, rfl⟩ rfl ?_
      refine w_iconst (q := 12) hm274 ⟨⟨_, _, rfl⟩, rfl⟩ iconst_1 ?_
      refine w_icmp_lt (q := 15) (X := x2.toInt) (Y := 1) hm274 ⟨⟨_, _, rfl⟩, rfl⟩ rfl (by decide) (fun hc => ?_) (fun hc => ?_)
      · have h := h.1 hc
        exact Wp.wk [false, false, false] h
      · have h := h.2 hc
        refine w_iload_n (q := 16) hm274 ⟨⟨_, _, rfl⟩, rfl⟩ rfl ?_
        refine w_bipush (q := 18) hm274 ⟨⟨_, _, rfl⟩, rfl⟩ bipush_20 ?_
        refine w_icmp_le (q := 21) (X := x2.toInt) (Y := 20) hm274 ⟨⟨_, _, rfl⟩, rfl⟩ rfl (by decide) (fun hc => ?_) (fun hc => ?_)
        · have h := h.1 hc
          refine w_aload_n (q := 26) hm274 ⟨⟨_, _, rfl⟩, rfl⟩ rfl ?_
          refine w_getr (q := 29) hm274 ⟨⟨_, _, rfl⟩, rfl⟩ rfl ?_
          refine w_aload_n (q := 30) hm274 ⟨⟨_, _, rfl⟩, rfl⟩ rfl ?_
          refine w_getr (q := 33) hm274 ⟨⟨_, _, rfl⟩, rfl⟩ rfl ?_
          refine w_iload_n (q := 34) hm274 ⟨⟨_, _, rfl⟩, rfl⟩ rfl ?_
          refine w_iload_n (q := 35) hm274 ⟨⟨_, _, rfl⟩, rfl⟩ rfl ?_
          refine w_call (q := 38) (n := 2) (vs := [.inr (.inr (some 61)), .inr (.inr (some 47)), .inl x1, .inl x2]) (rest := []) (la := [oR 61, oR 47, oI x1, oI x2, none, none]) hm274 ⟨⟨_, _, rfl⟩, rfl⟩ rfl rfl rfl rfl hm151 rfl rfl (fun _ => ⟨_, _, rfl, rfl⟩) rfl (Wp.mono h ?_)
          rintro _ m1 ⟨r1, rfl, h⟩
          change Wp _ _ 38 _ [.inl r1] _ _
          exact w_reti hm274 ⟨⟨_, _, rfl⟩, rfl⟩ rfl h
        · have h := h.2 hc
          exact Wp.wk [false, false, false] h
theorem v_X11_year_0_21 {d : Nat} {m : dM} {Q : Int32 → dM → Prop} (h : Q (-1 : Int32) m) : j_X11_year_0_21 (d + 1) m Q := by
  refine w_iconst (q := 22) hm274 ⟨⟨_, _, rfl⟩, rfl⟩ iconst_m1 ?_
  refine w_goto (q := 38) hm274 ⟨_, _, rfl⟩ ?_
  exact w_reti hm274 ⟨⟨_, _, rfl⟩, rfl⟩ rfl h
theorem v_X12_year_70 {d : Nat} {x1 : Int32} {x2 : Int32} {m : dM} {Q : Int32 → dM → Prop} (h : c_X12_isLong d x1 m (fun r1 m1 => ((r1.toInt = 0 → j_X12_year_70_17 (d + 1) m1 Q) ∧ (r1.toInt ≠ 0 → c_X12_in d x2 (1 : Int32) (20 : Int32) m1 (fun r2 m2 => ((r2.toInt ≠ 0 → j_X12_year_70_24 (d + 1) x1 x2 (0 : Int32) (0 : Int32) m2 Q) ∧ (r2.toInt = 0 → j_X12_year_70_17 (d + 1) m2 Q))))))) : c_X12_year_70 (d + 1) x1 x2 m Q := by
  refine w_iload_n (q := 1) hm105 ⟨⟨_, _, rfl⟩, rfl⟩ rfl ?_
  refine w_call (q := 4) (n := 0) (vs := [.inl x1]) (rest := []) (la := [oI x1]) hm105 ⟨⟨_, _, rfl⟩, rfl⟩ rfl rfl rfl rfl hm78 rfl rfl (fun hz => absurd hz (by decide)) rfl (Wp.mono h ?_)
  rintro _ m1 ⟨r1, rfl, h⟩
  change Wp _ _ 4 _ [.inl r1] _ _
  refine w_if_eq (q := 7) (X := r1.toInt) hm105 ⟨⟨_, _, rfl⟩, rfl⟩ rfl (fun hc => ?_) (fun hc => ?_)
  · have h := h.1 hc
    exact Wp.wk [false, false, false, false, false, false, false] h
  · have h := h.2 hc
    refine w_iload_n (q := 8) hm105 ⟨⟨_, _, rfl⟩, rfl⟩ rfl ?_
    refine w_iconst (q := 9) hm105 ⟨⟨_, _, rfl⟩, rfl⟩ iconst_1 ?_
    refine w_bipush (q := 11) hm105 ⟨⟨_, _, rfl⟩, rfl⟩ bipush_20 ?_
    refine w_call (q := 14) (n := 0) (vs := [.inl x2, .inl (1 : Int32), .inl (20 : Int32)]) (rest := []) (la := [oI x2, oI (1 : Int32), oI (20 : Int32)]) hm105 ⟨⟨_, _, rfl⟩, rfl⟩ rfl rfl rfl rfl hm36 rfl rfl (fun hz => absurd hz (by decide)) rfl (Wp.mono h ?_)
    rintro _ m2 ⟨r2, rfl, h⟩
    change Wp _ _ 14 _ [.inl r2] _ _
    refine w_if_ne (q := 17) (X := r2.toInt) hm105 ⟨⟨_, _, rfl⟩, rfl⟩ rfl (fun hc => ?_) (fun hc => ?_)
    · have h := h.1 hc
      refine w_iconst (q := 20) hm105 ⟨⟨_, _, rfl⟩, rfl⟩ iconst_0 ?_
      refine w_istore_n (q := 21) (l' := [oR 70, oI x1, oI x2, oI (0 : Int32), none, none, none]) hm105 ⟨⟨_, _, rfl⟩, rfl⟩ rfl rfl rfl ?_
      refine w_iconst (q := 22) hm105 ⟨⟨_, _, rfl⟩, rfl⟩ iconst_0 ?_
      refine w_istore (q := 24) (l' := [oR 70, oI x1, oI x2, oI (0 : Int32), oI (0 : Int32), none, none]) hm105 ⟨⟨_, _, rfl⟩, rfl⟩ rfl rfl rfl ?_
      exact h
    · have h := h.2 hc
      exact Wp.wk [false, false, false, false, false, false, false] h
theorem v_X12_year_70_17 {d : Nat} {m : dM} {Q : Int32 → dM → Prop} (h : Q (-1 : Int32) m) : j_X12_year_70_17 (d + 1) m Q := by
  refine w_iconst (q := 18) hm105 ⟨⟨_, _, rfl⟩, rfl⟩ iconst_m1 ?_
  exact w_reti hm105 ⟨⟨_, _, rfl⟩, rfl⟩ rfl h
theorem v_X12_year_70_24 {d : Nat} {x1 : Int32} {x2 : Int32} {x3 : Int32} {x4 : Int32} {m : dM} {Q : Int32 → dM → Prop} (h : ((x2.toInt ≤ x4.toInt → Q x3 m) ∧ (x4.toInt < x2.toInt → c_X12_copies_70 d m (fun m1 => j_X12_year_70_51 (d + 1) x1 x2 x3 x4 (1 : Int32) (0 : Int32) (dSet m1 70 56 ((m1.1 70 56) + x4)) Q)))) : j_X12_year_70_24 (d + 1) x1 x2 x3 x4 m Q := by
  refine w_iload (q := 26) hm105 ⟨⟨_, _, rfl⟩, rfl⟩ rfl ?_
  refine w_iload_n (q := 27) hm105 ⟨⟨_, _, rfl⟩, rfl⟩ rfl ?_
  refine w_icmp_ge (q := 30) (X := x4.toInt) (Y := x2.toInt) hm105 ⟨⟨_, _, rfl⟩, rfl⟩ rfl rfl (fun hc => ?_) (fun hc => ?_)
  · have h := h.1 hc
    refine w_iload_n (q := 92) hm105 ⟨⟨_, _, rfl⟩, rfl⟩ rfl ?_
    exact w_reti hm105 ⟨⟨_, _, rfl⟩, rfl⟩ rfl h
  · have h := h.2 hc
    refine w_aload_n (q := 31) hm105 ⟨⟨_, _, rfl⟩, rfl⟩ rfl ?_
    refine w_call (q := 34) (n := 1) (vs := [.inr (.inr (some 70))]) (rest := []) (la := [oR 70, none]) hm105 ⟨⟨_, _, rfl⟩, rfl⟩ rfl rfl rfl rfl hm44 rfl rfl (fun _ => ⟨_, _, rfl, rfl⟩) rfl (Wp.mono h ?_)
    rintro _ m1 ⟨rfl, h⟩
    change Wp _ _ 34 _ [] _ _
    refine w_aload_n (q := 35) hm105 ⟨⟨_, _, rfl⟩, rfl⟩ rfl ?_
    refine w_dup (q := 36) hm105 ⟨⟨_, _, rfl⟩, rfl⟩ rfl ?_
    refine w_getf (q := 39) (v := (m1.1 70 56)) hm105 ⟨⟨_, _, rfl⟩, rfl⟩ rfl rfl ?_
    refine w_iload (q := 41) hm105 ⟨⟨_, _, rfl⟩, rfl⟩ rfl ?_
    refine w_iadd (q := 42) hm105 ⟨⟨_, _, rfl⟩, rfl⟩ ?_
    refine w_putf (q := 45) hm105 ⟨⟨_, _, rfl⟩, rfl⟩ rfl rfl rfl ?_
    refine w_iconst (q := 46) hm105 ⟨⟨_, _, rfl⟩, rfl⟩ iconst_1 ?_
    refine w_istore (q := 48) (l' := [oR 70, oI x1, oI x2, oI x3, oI x4, oI (1 : Int32), none]) hm105 ⟨⟨_, _, rfl⟩, rfl⟩ rfl rfl rfl ?_
    refine w_iconst (q := 49) hm105 ⟨⟨_, _, rfl⟩, rfl⟩ iconst_0 ?_
    refine w_istore (q := 51) (l' := [oR 70, oI x1, oI x2, oI x3, oI x4, oI (1 : Int32), oI (0 : Int32)]) hm105 ⟨⟨_, _, rfl⟩, rfl⟩ rfl rfl rfl ?_
    exact h
theorem v_X12_year_70_51 {d : Nat} {x1 : Int32} {x2 : Int32} {x3 : Int32} {x4 : Int32} {x5 : Int32} {x6 : Int32} {m : dM} {Q : Int32 → dM → Prop} (h : ((x1.toInt ≤ x6.toInt → ((x5.toInt = 0 → j_X12_year_70_85 (d + 1) x1 x2 x3 x4 m Q) ∧ (x5.toInt ≠ 0 → j_X12_year_70_85 (d + 1) x1 x2 (x3 + (1 : Int32)) x4 m Q))) ∧ (x6.toInt < x1.toInt → c_X12_hourGoes_70 d m (fun m1 => (((m1.1 70 60).toInt = 0 → j_X12_year_70_71 (d + 1) x1 x2 x3 x4 x5 x6 m1 Q) ∧ ((m1.1 70 60).toInt ≠ 0 → j_X12_year_70_71 (d + 1) x1 x2 x3 x4 (0 : Int32) x6 m1 Q)))))) : j_X12_year_70_51 (d + 1) x1 x2 x3 x4 x5 x6 m Q := by
  refine w_iload (q := 53) hm105 ⟨⟨_, _, rfl⟩, rfl⟩ rfl ?_
  refine w_iload_n (q := 54) hm105 ⟨⟨_, _, rfl⟩, rfl⟩ rfl ?_
  refine w_icmp_ge (q := 57) (X := x6.toInt) (Y := x1.toInt) hm105 ⟨⟨_, _, rfl⟩, rfl⟩ rfl rfl (fun hc => ?_) (fun hc => ?_)
  · have h := h.1 hc
    refine w_iload (q := 79) hm105 ⟨⟨_, _, rfl⟩, rfl⟩ rfl ?_
    refine w_if_eq (q := 82) (X := x5.toInt) hm105 ⟨⟨_, _, rfl⟩, rfl⟩ rfl (fun hc => ?_) (fun hc => ?_)
    · have h := h.1 hc
      exact Wp.wk [true, true, true, true, true, false, false] h
    · have h := h.2 hc
      refine w_iinc (q := 85) (l' := [oR 70, oI x1, oI x2, oI (x3 + (1 : Int32)), oI x4, oI x5, oI x6]) hm105 ⟨⟨_, _, rfl⟩, rfl⟩ rfl rfl rfl iconst_1 rfl ?_
      exact Wp.wk [true, true, true, true, true, false, false] h
  · have h := h.2 hc
    refine w_aload_n (q := 58) hm105 ⟨⟨_, _, rfl⟩, rfl⟩ rfl ?_
    refine w_call (q := 61) (n := 4) (vs := [.inr (.inr (some 70))]) (rest := []) (la := [oR 70, none, none, none, none]) hm105 ⟨⟨_, _, rfl⟩, rfl⟩ rfl rfl rfl rfl hm67 rfl rfl (fun _ => ⟨_, _, rfl, rfl⟩) rfl (Wp.mono h ?_)
    rintro _ m1 ⟨rfl, h⟩
    change Wp _ _ 61 _ [] _ _
    refine w_aload_n (q := 62) hm105 ⟨⟨_, _, rfl⟩, rfl⟩ rfl ?_
    refine w_getf (q := 65) (v := (m1.1 70 60)) hm105 ⟨⟨_, _, rfl⟩, rfl⟩ rfl rfl ?_
    refine w_if_eq (q := 68) (X := (m1.1 70 60).toInt) hm105 ⟨⟨_, _, rfl⟩, rfl⟩ rfl (fun hc => ?_) (fun hc => ?_)
    · have h := h.1 hc
      exact h
    · have h := h.2 hc
      refine w_iconst (q := 69) hm105 ⟨⟨_, _, rfl⟩, rfl⟩ iconst_0 ?_
      refine w_istore (q := 71) (l' := [oR 70, oI x1, oI x2, oI x3, oI x4, oI (0 : Int32), oI x6]) hm105 ⟨⟨_, _, rfl⟩, rfl⟩ rfl rfl rfl ?_
      exact h
theorem v_X12_year_70_71 {d : Nat} {x1 : Int32} {x2 : Int32} {x3 : Int32} {x4 : Int32} {x5 : Int32} {x6 : Int32} {m : dM} {Q : Int32 → dM → Prop} (h : j_X12_year_70_51 (d + 1) x1 x2 x3 x4 x5 (x6 + (1 : Int32)) m Q) : j_X12_year_70_71 (d + 1) x1 x2 x3 x4 x5 x6 m Q := by
  refine w_iinc (q := 74) (l' := [oR 70, oI x1, oI x2, oI x3, oI x4, oI x5, oI (x6 + (1 : Int32))]) hm105 ⟨⟨_, _, rfl⟩, rfl⟩ rfl rfl rfl iconst_1 rfl ?_
  refine w_goto (q := 51) hm105 ⟨_, _, rfl⟩ ?_
  exact h
theorem v_X12_year_70_85 {d : Nat} {x1 : Int32} {x2 : Int32} {x3 : Int32} {x4 : Int32} {m : dM} {Q : Int32 → dM → Prop} (h : j_X12_year_70_24 (d + 1) x1 x2 x3 (x4 + (1 : Int32)) m Q) : j_X12_year_70_85 (d + 1) x1 x2 x3 x4 m Q := by
  refine w_iinc (q := 88) (l' := [oR 70, oI x1, oI x2, oI x3, oI (x4 + (1 : Int32)), none, none]) hm105 ⟨⟨_, _, rfl⟩, rfl⟩ rfl rfl rfl iconst_1 rfl ?_
  refine w_goto (q := 24) hm105 ⟨_, _, rfl⟩ ?_
  exact h
theorem v_X9_add_67 {d : Nat} {x1 : Int32} {x2 : Int32} {m : dM} {Q : Int32 → dM → Prop} (h : (((m.1 67 3).toInt < 20 → ((0 ≤ (m.1 67 3).toInt ∧ (m.1 67 3).toInt < 20) ∧ ((x2 = 0 ∨ x2 = 1) ∧ ((0 ≤ (m.1 67 3).toInt ∧ (m.1 67 3).toInt < 20) ∧ Q (((m.1 67 3) + (1 : Int32)) - (1 : Int32)) (dSet (dSet (dSet m 68 (m.1 67 3).toNatClampNeg x1) 69 (m.1 67 3).toNatClampNeg x2) 67 3 ((m.1 67 3) + (1 : Int32))))))) ∧ (20 ≤ (m.1 67 3).toInt → Q (-1 : Int32) m))) : c_X9_add_67 (d + 1) x1 x2 m Q := by
  refine w_aload_n (q := 1) hm232 ⟨⟨_, _, rfl⟩, rfl⟩ rfl ?_
  refine w_getf (q := 4) (v := (m.1 67 3)) hm232 ⟨⟨_, _, rfl⟩, rfl⟩ rfl rfl ?_
  refine w_bipush (q := 6) hm232 ⟨⟨_, _, rfl⟩, rfl⟩ bipush_20 ?_
  refine w_icmp_lt (q := 9) (X := (m.1 67 3).toInt) (Y := 20) hm232 ⟨⟨_, _, rfl⟩, rfl⟩ rfl (by decide) (fun hc => ?_) (fun hc => ?_)
  · have h := h.1 hc
    refine w_aload_n (q := 12) hm232 ⟨⟨_, _, rfl⟩, rfl⟩ rfl ?_
    refine w_getr (q := 15) hm232 ⟨⟨_, _, rfl⟩, rfl⟩ rfl ?_
    refine w_aload_n (q := 16) hm232 ⟨⟨_, _, rfl⟩, rfl⟩ rfl ?_
    refine w_getf (q := 19) (v := (m.1 67 3)) hm232 ⟨⟨_, _, rfl⟩, rfl⟩ rfl rfl ?_
    refine w_iload_n (q := 20) hm232 ⟨⟨_, _, rfl⟩, rfl⟩ rfl ?_
    obtain ⟨hi, h⟩ := h
    refine w_iast (q := 21) hm232 ⟨⟨_, _, rfl⟩, rfl⟩ rfl hi rfl rfl ?_
    refine w_aload_n (q := 22) hm232 ⟨⟨_, _, rfl⟩, rfl⟩ rfl ?_
    refine w_getr (q := 25) hm232 ⟨⟨_, _, rfl⟩, rfl⟩ rfl ?_
    refine w_aload_n (q := 26) hm232 ⟨⟨_, _, rfl⟩, rfl⟩ rfl ?_
    refine w_getf (q := 29) (v := (m.1 67 3)) hm232 ⟨⟨_, _, rfl⟩, rfl⟩ rfl rfl ?_
    refine w_iload_n (q := 30) hm232 ⟨⟨_, _, rfl⟩, rfl⟩ rfl ?_
    obtain ⟨hz, h⟩ := h
    obtain ⟨hi, h⟩ := h
    refine w_zast (q := 31) hm232 ⟨⟨_, _, rfl⟩, rfl⟩ rfl hz hi rfl rfl ?_
    refine w_aload_n (q := 32) hm232 ⟨⟨_, _, rfl⟩, rfl⟩ rfl ?_
    refine w_dup (q := 33) hm232 ⟨⟨_, _, rfl⟩, rfl⟩ rfl ?_
    refine w_getf (q := 36) (v := (m.1 67 3)) hm232 ⟨⟨_, _, rfl⟩, rfl⟩ rfl rfl ?_
    refine w_iconst (q := 37) hm232 ⟨⟨_, _, rfl⟩, rfl⟩ iconst_1 ?_
    refine w_iadd (q := 38) hm232 ⟨⟨_, _, rfl⟩, rfl⟩ ?_
    refine w_putf (q := 41) hm232 ⟨⟨_, _, rfl⟩, rfl⟩ rfl rfl rfl ?_
    refine w_aload_n (q := 42) hm232 ⟨⟨_, _, rfl⟩, rfl⟩ rfl ?_
    refine w_getf (q := 45) (v := ((m.1 67 3) + (1 : Int32))) hm232 ⟨⟨_, _, rfl⟩, rfl⟩ rfl rfl ?_
    refine w_iconst (q := 46) hm232 ⟨⟨_, _, rfl⟩, rfl⟩ iconst_1 ?_
    refine w_isub (q := 47) hm232 ⟨⟨_, _, rfl⟩, rfl⟩ ?_
    exact w_reti hm232 ⟨⟨_, _, rfl⟩, rfl⟩ rfl h
  · have h := h.2 hc
    refine w_iconst (q := 10) hm232 ⟨⟨_, _, rfl⟩, rfl⟩ iconst_m1 ?_
    exact w_reti hm232 ⟨⟨_, _, rfl⟩, rfl⟩ rfl h
theorem v_X11_tell_0 {d : Nat} {x1 : Int32} {x2 : Int32} {m : dM} {Q : Int32 → dM → Prop} (h : c_X11_isFlat_0 d x1 m (fun r1 m1 => ((r1.toInt = 0 → Q (-1 : Int32) m1) ∧ (r1.toInt ≠ 0 → c_X9_add_67 d x1 x2 m1 (fun r2 m2 => Q r2 m2))))) : c_X11_tell_0 (d + 1) x1 x2 m Q := by
  refine w_aload_n (q := 1) hm275 ⟨⟨_, _, rfl⟩, rfl⟩ rfl ?_
  refine w_iload_n (q := 2) hm275 ⟨⟨_, _, rfl⟩, rfl⟩ rfl ?_
  refine w_call (q := 5) (n := 0) (vs := [.inr (.inr (some 0)), .inl x1]) (rest := []) (la := [oR 0, oI x1]) hm275 ⟨⟨_, _, rfl⟩, rfl⟩ rfl rfl rfl rfl hm248 rfl rfl (fun _ => ⟨_, _, rfl, rfl⟩) rfl (Wp.mono h ?_)
  rintro _ m1 ⟨r1, rfl, h⟩
  change Wp _ _ 5 _ [.inl r1] _ _
  refine w_if_eq (q := 8) (X := r1.toInt) hm275 ⟨⟨_, _, rfl⟩, rfl⟩ rfl (fun hc => ?_) (fun hc => ?_)
  · have h := h.1 hc
    refine w_iconst (q := 21) hm275 ⟨⟨_, _, rfl⟩, rfl⟩ iconst_m1 ?_
    exact w_reti hm275 ⟨⟨_, _, rfl⟩, rfl⟩ rfl h
  · have h := h.2 hc
    refine w_aload_n (q := 9) hm275 ⟨⟨_, _, rfl⟩, rfl⟩ rfl ?_
    refine w_getr (q := 12) hm275 ⟨⟨_, _, rfl⟩, rfl⟩ rfl ?_
    refine w_iload_n (q := 13) hm275 ⟨⟨_, _, rfl⟩, rfl⟩ rfl ?_
    refine w_iload_n (q := 14) hm275 ⟨⟨_, _, rfl⟩, rfl⟩ rfl ?_
    refine w_call (q := 17) (n := 0) (vs := [.inr (.inr (some 67)), .inl x1, .inl x2]) (rest := []) (la := [oR 67, oI x1, oI x2]) hm275 ⟨⟨_, _, rfl⟩, rfl⟩ rfl rfl rfl rfl hm232 rfl rfl (fun _ => ⟨_, _, rfl, rfl⟩) rfl (Wp.mono h ?_)
    rintro _ m2 ⟨r2, rfl, h⟩
    change Wp _ _ 17 _ [.inl r2] _ _
    refine w_goto (q := 21) hm275 ⟨_, _, rfl⟩ ?_
    exact w_reti hm275 ⟨⟨_, _, rfl⟩, rfl⟩ rfl h
theorem v_X12_tell_70 {d : Nat} {x1 : Int32} {x2 : Int32} {m : dM} {Q : Int32 → dM → Prop} (h : (((m.1 70 63).toInt = 20 → j_X12_tell_70_17 (d + 1) m Q) ∧ ((m.1 70 63).toInt ≠ 20 → c_X12_isFlat_70 d x1 m (fun r1 m1 => ((r1.toInt ≠ 0 → ((0 ≤ (m1.1 70 63).toInt ∧ (m1.1 70 63).toInt < 20) ∧ ((x2.toInt = 0 → ((0 ≤ (m1.1 70 63).toInt ∧ (m1.1 70 63).toInt < 20) ∧ Q (((m1.1 70 63) + (1 : Int32)) - (1 : Int32)) (dSet (dSet (dSet m1 112 (m1.1 70 63).toNatClampNeg x1) 113 (m1.1 70 63).toNatClampNeg (0 : Int32)) 70 63 ((m1.1 70 63) + (1 : Int32))))) ∧ (x2.toInt ≠ 0 → ((0 ≤ (m1.1 70 63).toInt ∧ (m1.1 70 63).toInt < 20) ∧ Q (((m1.1 70 63) + (1 : Int32)) - (1 : Int32)) (dSet (dSet (dSet m1 112 (m1.1 70 63).toNatClampNeg x1) 113 (m1.1 70 63).toNatClampNeg (1 : Int32)) 70 63 ((m1.1 70 63) + (1 : Int32)))))))) ∧ (r1.toInt = 0 → j_X12_tell_70_17 (d + 1) m1 Q)))))) : c_X12_tell_70 (d + 1) x1 x2 m Q := by
  refine w_aload_n (q := 1) hm106 ⟨⟨_, _, rfl⟩, rfl⟩ rfl ?_
  refine w_getf (q := 4) (v := (m.1 70 63)) hm106 ⟨⟨_, _, rfl⟩, rfl⟩ rfl rfl ?_
  refine w_bipush (q := 6) hm106 ⟨⟨_, _, rfl⟩, rfl⟩ bipush_20 ?_
  refine w_icmp_eq (q := 9) (X := (m.1 70 63).toInt) (Y := 20) hm106 ⟨⟨_, _, rfl⟩, rfl⟩ rfl (by decide) (fun hc => ?_) (fun hc => ?_)
  · have h := h.1 hc
    exact Wp.wk [false, false, false] h
  · have h := h.2 hc
    refine w_aload_n (q := 10) hm106 ⟨⟨_, _, rfl⟩, rfl⟩ rfl ?_
    refine w_iload_n (q := 11) hm106 ⟨⟨_, _, rfl⟩, rfl⟩ rfl ?_
    refine w_call (q := 14) (n := 0) (vs := [.inr (.inr (some 70)), .inl x1]) (rest := []) (la := [oR 70, oI x1]) hm106 ⟨⟨_, _, rfl⟩, rfl⟩ rfl rfl rfl rfl hm39 rfl rfl (fun _ => ⟨_, _, rfl, rfl⟩) rfl (Wp.mono h ?_)
    rintro _ m1 ⟨r1, rfl, h⟩
    change Wp _ _ 14 _ [.inl r1] _ _
    refine w_if_ne (q := 17) (X := r1.toInt) hm106 ⟨⟨_, _, rfl⟩, rfl⟩ rfl (fun hc => ?_) (fun hc => ?_)
    · have h := h.1 hc
      refine w_aload_n (q := 20) hm106 ⟨⟨_, _, rfl⟩, rfl⟩ rfl ?_
      refine w_getr (q := 23) hm106 ⟨⟨_, _, rfl⟩, rfl⟩ rfl ?_
      refine w_aload_n (q := 24) hm106 ⟨⟨_, _, rfl⟩, rfl⟩ rfl ?_
      refine w_getf (q := 27) (v := (m1.1 70 63)) hm106 ⟨⟨_, _, rfl⟩, rfl⟩ rfl rfl ?_
      refine w_iload_n (q := 28) hm106 ⟨⟨_, _, rfl⟩, rfl⟩ rfl ?_
      obtain ⟨hi, h⟩ := h
      refine w_iast (q := 29) hm106 ⟨⟨_, _, rfl⟩, rfl⟩ rfl hi rfl rfl ?_
      refine w_aload_n (q := 30) hm106 ⟨⟨_, _, rfl⟩, rfl⟩ rfl ?_
      refine w_getr (q := 33) hm106 ⟨⟨_, _, rfl⟩, rfl⟩ rfl ?_
      refine w_aload_n (q := 34) hm106 ⟨⟨_, _, rfl⟩, rfl⟩ rfl ?_
      refine w_getf (q := 37) (v := (m1.1 70 63)) hm106 ⟨⟨_, _, rfl⟩, rfl⟩ rfl rfl ?_
      refine w_iload_n (q := 38) hm106 ⟨⟨_, _, rfl⟩, rfl⟩ rfl ?_
      refine w_if_eq (q := 41) (X := x2.toInt) hm106 ⟨⟨_, _, rfl⟩, rfl⟩ rfl (fun hc => ?_) (fun hc => ?_)
      · have h := h.1 hc
        refine w_iconst (q := 46) hm106 ⟨⟨_, _, rfl⟩, rfl⟩ iconst_0 ?_
        obtain ⟨hi, h⟩ := h
        refine w_iast (q := 47) hm106 ⟨⟨_, _, rfl⟩, rfl⟩ rfl hi rfl rfl ?_
        refine w_aload_n (q := 48) hm106 ⟨⟨_, _, rfl⟩, rfl⟩ rfl ?_
        refine w_dup (q := 49) hm106 ⟨⟨_, _, rfl⟩, rfl⟩ rfl ?_
        refine w_getf (q := 52) (v := (m1.1 70 63)) hm106 ⟨⟨_, _, rfl⟩, rfl⟩ rfl rfl ?_
        refine w_iconst (q := 53) hm106 ⟨⟨_, _, rfl⟩, rfl⟩ iconst_1 ?_
        refine w_iadd (q := 54) hm106 ⟨⟨_, _, rfl⟩, rfl⟩ ?_
        refine w_putf (q := 57) hm106 ⟨⟨_, _, rfl⟩, rfl⟩ rfl rfl rfl ?_
        refine w_aload_n (q := 58) hm106 ⟨⟨_, _, rfl⟩, rfl⟩ rfl ?_
        refine w_getf (q := 61) (v := ((m1.1 70 63) + (1 : Int32))) hm106 ⟨⟨_, _, rfl⟩, rfl⟩ rfl rfl ?_
        refine w_iconst (q := 62) hm106 ⟨⟨_, _, rfl⟩, rfl⟩ iconst_1 ?_
        refine w_isub (q := 63) hm106 ⟨⟨_, _, rfl⟩, rfl⟩ ?_
        exact w_reti hm106 ⟨⟨_, _, rfl⟩, rfl⟩ rfl h
      · have h := h.2 hc
        refine w_iconst (q := 42) hm106 ⟨⟨_, _, rfl⟩, rfl⟩ iconst_1 ?_
        refine w_goto (q := 46) hm106 ⟨_, _, rfl⟩ ?_
        obtain ⟨hi, h⟩ := h
        refine w_iast (q := 47) hm106 ⟨⟨_, _, rfl⟩, rfl⟩ rfl hi rfl rfl ?_
        refine w_aload_n (q := 48) hm106 ⟨⟨_, _, rfl⟩, rfl⟩ rfl ?_
        refine w_dup (q := 49) hm106 ⟨⟨_, _, rfl⟩, rfl⟩ rfl ?_
        refine w_getf (q := 52) (v := (m1.1 70 63)) hm106 ⟨⟨_, _, rfl⟩, rfl⟩ rfl rfl ?_
        refine w_iconst (q := 53) hm106 ⟨⟨_, _, rfl⟩, rfl⟩ iconst_1 ?_
        refine w_iadd (q := 54) hm106 ⟨⟨_, _, rfl⟩, rfl⟩ ?_
        refine w_putf (q := 57) hm106 ⟨⟨_, _, rfl⟩, rfl⟩ rfl rfl rfl ?_
        refine w_aload_n (q := 58) hm106 ⟨⟨_, _, rfl⟩, rfl⟩ rfl ?_
        refine w_getf (q := 61) (v := ((m1.1 70 63) + (1 : Int32))) hm106 ⟨⟨_, _, rfl⟩, rfl⟩ rfl rfl ?_
        refine w_iconst (q := 62) hm106 ⟨⟨_, _, rfl⟩, rfl⟩ iconst_1 ?_
        refine w_isub (q := 63) hm106 ⟨⟨_, _, rfl⟩, rfl⟩ ?_
        exact w_reti hm106 ⟨⟨_, _, rfl⟩, rfl⟩ rfl h
    · have h := h.2 hc
      exact Wp.wk [false, false, false] h
theorem v_X12_tell_70_17 {d : Nat} {m : dM} {Q : Int32 → dM → Prop} (h : Q (-1 : Int32) m) : j_X12_tell_70_17 (d + 1) m Q := by
  refine w_iconst (q := 18) hm106 ⟨⟨_, _, rfl⟩, rfl⟩ iconst_m1 ?_
  exact w_reti hm106 ⟨⟨_, _, rfl⟩, rfl⟩ rfl h
theorem v_X11_forget_0 {d : Nat} {m : dM} {Q : Int32 → dM → Prop} (h : c_X9_clear_67 d m (fun m1 => Q (m.1 67 3) m1)) : c_X11_forget_0 (d + 1) m Q := by
  refine w_aload_n (q := 1) hm276 ⟨⟨_, _, rfl⟩, rfl⟩ rfl ?_
  refine w_getr (q := 4) hm276 ⟨⟨_, _, rfl⟩, rfl⟩ rfl ?_
  refine w_getf (q := 7) (v := (m.1 67 3)) hm276 ⟨⟨_, _, rfl⟩, rfl⟩ rfl rfl ?_
  refine w_istore_n (q := 8) (l' := [oR 0, oI (m.1 67 3)]) hm276 ⟨⟨_, _, rfl⟩, rfl⟩ rfl rfl rfl ?_
  refine w_aload_n (q := 9) hm276 ⟨⟨_, _, rfl⟩, rfl⟩ rfl ?_
  refine w_getr (q := 12) hm276 ⟨⟨_, _, rfl⟩, rfl⟩ rfl ?_
  refine w_call (q := 15) (n := 0) (vs := [.inr (.inr (some 67))]) (rest := []) (la := [oR 67]) hm276 ⟨⟨_, _, rfl⟩, rfl⟩ rfl rfl rfl rfl hm231 rfl rfl (fun _ => ⟨_, _, rfl, rfl⟩) rfl (Wp.mono h ?_)
  rintro _ m1 ⟨rfl, h⟩
  change Wp _ _ 15 _ [] _ _
  refine w_iload_n (q := 16) hm276 ⟨⟨_, _, rfl⟩, rfl⟩ rfl ?_
  exact w_reti hm276 ⟨⟨_, _, rfl⟩, rfl⟩ rfl h
theorem v_X12_forget_70 {d : Nat} {m : dM} {Q : Int32 → dM → Prop} (h : Q (m.1 70 63) (dSet m 70 63 (0 : Int32))) : c_X12_forget_70 (d + 1) m Q := by
  refine w_aload_n (q := 1) hm107 ⟨⟨_, _, rfl⟩, rfl⟩ rfl ?_
  refine w_getf (q := 4) (v := (m.1 70 63)) hm107 ⟨⟨_, _, rfl⟩, rfl⟩ rfl rfl ?_
  refine w_istore_n (q := 5) (l' := [oR 70, oI (m.1 70 63)]) hm107 ⟨⟨_, _, rfl⟩, rfl⟩ rfl rfl rfl ?_
  refine w_aload_n (q := 6) hm107 ⟨⟨_, _, rfl⟩, rfl⟩ rfl ?_
  refine w_iconst (q := 7) hm107 ⟨⟨_, _, rfl⟩, rfl⟩ iconst_0 ?_
  refine w_putf (q := 10) hm107 ⟨⟨_, _, rfl⟩, rfl⟩ rfl rfl rfl ?_
  refine w_iload_n (q := 11) hm107 ⟨⟨_, _, rfl⟩, rfl⟩ rfl ?_
  exact w_reti hm107 ⟨⟨_, _, rfl⟩, rfl⟩ rfl h
theorem v_X9_isSo_67 {d : Nat} {x1 : Int32} {x2 : Int32} {m : dM} {Q : Int32 → dM → Prop} (h : j_X9_isSo_67_2 (d + 1) x1 x2 (0 : Int32) m Q) : c_X9_isSo_67 (d + 1) x1 x2 m Q := by
  refine w_iconst (q := 1) hm234 ⟨⟨_, _, rfl⟩, rfl⟩ iconst_0 ?_
  refine w_istore_n (q := 2) (l' := [oR 67, oI x1, oI x2, oI (0 : Int32)]) hm234 ⟨⟨_, _, rfl⟩, rfl⟩ rfl rfl rfl ?_
  exact h
theorem v_X9_isSo_67_2 {d : Nat} {x1 : Int32} {x2 : Int32} {x3 : Int32} {m : dM} {Q : Int32 → dM → Prop} (h : ((x2.toInt ≤ x3.toInt → j_X9_isSo_67_42 (d + 1) m Q) ∧ (x3.toInt < x2.toInt → (((m.1 67 3).toInt ≤ x3.toInt → j_X9_isSo_67_42 (d + 1) m Q) ∧ (x3.toInt < (m.1 67 3).toInt → ((0 ≤ x3.toInt ∧ x3.toInt < 20) ∧ c_X11_has d x1 (m.1 68 x3.toNatClampNeg) m (fun r1 m1 => ((0 ≤ x3.toInt ∧ x3.toInt < 20) ∧ ((r1.toInt = (m1.1 69 x3.toNatClampNeg).toInt → j_X9_isSo_67_2 (d + 1) x1 x2 (x3 + (1 : Int32)) m1 Q) ∧ (r1.toInt ≠ (m1.1 69 x3.toNatClampNeg).toInt → Q (0 : Int32) m1)))))))))) : j_X9_isSo_67_2 (d + 1) x1 x2 x3 m Q := by
  refine w_iload_n (q := 3) hm234 ⟨⟨_, _, rfl⟩, rfl⟩ rfl ?_
  refine w_iload_n (q := 4) hm234 ⟨⟨_, _, rfl⟩, rfl⟩ rfl ?_
  refine w_icmp_ge (q := 7) (X := x3.toInt) (Y := x2.toInt) hm234 ⟨⟨_, _, rfl⟩, rfl⟩ rfl rfl (fun hc => ?_) (fun hc => ?_)
  · have h := h.1 hc
    exact Wp.wk [false, false, false, false] h
  · have h := h.2 hc
    refine w_iload_n (q := 8) hm234 ⟨⟨_, _, rfl⟩, rfl⟩ rfl ?_
    refine w_aload_n (q := 9) hm234 ⟨⟨_, _, rfl⟩, rfl⟩ rfl ?_
    refine w_getf (q := 12) (v := (m.1 67 3)) hm234 ⟨⟨_, _, rfl⟩, rfl⟩ rfl rfl ?_
    refine w_icmp_ge (q := 15) (X := x3.toInt) (Y := (m.1 67 3).toInt) hm234 ⟨⟨_, _, rfl⟩, rfl⟩ rfl rfl (fun hc => ?_) (fun hc => ?_)
    · have h := h.1 hc
      exact Wp.wk [false, false, false, false] h
    · have h := h.2 hc
      refine w_iload_n (q := 16) hm234 ⟨⟨_, _, rfl⟩, rfl⟩ rfl ?_
      refine w_aload_n (q := 17) hm234 ⟨⟨_, _, rfl⟩, rfl⟩ rfl ?_
      refine w_getr (q := 20) hm234 ⟨⟨_, _, rfl⟩, rfl⟩ rfl ?_
      refine w_iload_n (q := 21) hm234 ⟨⟨_, _, rfl⟩, rfl⟩ rfl ?_
      obtain ⟨hi, h⟩ := h
      refine w_iald (q := 22) (v := (m.1 68 x3.toNatClampNeg)) hm234 ⟨⟨_, _, rfl⟩, rfl⟩ rfl hi rfl rfl ?_
      refine w_call (q := 25) (n := 0) (vs := [.inl x1, .inl (m.1 68 x3.toNatClampNeg)]) (rest := []) (la := [oI x1, oI (m.1 68 x3.toNatClampNeg)]) hm234 ⟨⟨_, _, rfl⟩, rfl⟩ rfl rfl rfl rfl hm283 rfl rfl (fun hz => absurd hz (by decide)) rfl (Wp.mono h ?_)
      rintro _ m1 ⟨r1, rfl, h⟩
      change Wp _ _ 25 _ [.inl r1] _ _
      refine w_aload_n (q := 26) hm234 ⟨⟨_, _, rfl⟩, rfl⟩ rfl ?_
      refine w_getr (q := 29) hm234 ⟨⟨_, _, rfl⟩, rfl⟩ rfl ?_
      refine w_iload_n (q := 30) hm234 ⟨⟨_, _, rfl⟩, rfl⟩ rfl ?_
      obtain ⟨hi, h⟩ := h
      refine w_zald (q := 31) (v := (m1.1 69 x3.toNatClampNeg)) hm234 ⟨⟨_, _, rfl⟩, rfl⟩ rfl hi rfl rfl ?_
      refine w_icmp_eq (q := 34) (X := r1.toInt) (Y := (m1.1 69 x3.toNatClampNeg).toInt) hm234 ⟨⟨_, _, rfl⟩, rfl⟩ rfl rfl (fun hc => ?_) (fun hc => ?_)
      · have h := h.1 hc
        refine w_iinc (q := 39) (l' := [oR 67, oI x1, oI x2, oI (x3 + (1 : Int32))]) hm234 ⟨⟨_, _, rfl⟩, rfl⟩ rfl rfl rfl iconst_1 rfl ?_
        refine w_goto (q := 2) hm234 ⟨_, _, rfl⟩ ?_
        exact h
      · have h := h.2 hc
        refine w_iconst (q := 35) hm234 ⟨⟨_, _, rfl⟩, rfl⟩ iconst_0 ?_
        exact w_retz hm234 ⟨⟨_, _, rfl⟩, rfl⟩ rfl (by decide) h
theorem v_X9_isSo_67_42 {d : Nat} {m : dM} {Q : Int32 → dM → Prop} (h : Q (1 : Int32) m) : j_X9_isSo_67_42 (d + 1) m Q := by
  refine w_iconst (q := 43) hm234 ⟨⟨_, _, rfl⟩, rfl⟩ iconst_1 ?_
  exact w_retz hm234 ⟨⟨_, _, rfl⟩, rfl⟩ rfl (by decide) h
theorem v_X9_suspects_67 {d : Nat} {x1 : Int32} {x2 : Int32} {m : dM} {Q : Int32 → dM → Prop} (h : j_X9_suspects_67_5 (d + 1) x1 x2 (0 : Int32) (0 : Int32) m Q) : c_X9_suspects_67 (d + 1) x1 x2 m Q := by
  refine w_iconst (q := 1) hm233 ⟨⟨_, _, rfl⟩, rfl⟩ iconst_0 ?_
  refine w_istore_n (q := 2) (l' := [oR 67, oI x1, oI x2, oI (0 : Int32), none]) hm233 ⟨⟨_, _, rfl⟩, rfl⟩ rfl rfl rfl ?_
  refine w_iconst (q := 3) hm233 ⟨⟨_, _, rfl⟩, rfl⟩ iconst_0 ?_
  refine w_istore (q := 5) (l' := [oR 67, oI x1, oI x2, oI (0 : Int32), oI (0 : Int32)]) hm233 ⟨⟨_, _, rfl⟩, rfl⟩ rfl rfl rfl ?_
  exact h
theorem v_X9_suspects_67_5 {d : Nat} {x1 : Int32} {x2 : Int32} {x3 : Int32} {x4 : Int32} {m : dM} {Q : Int32 → dM → Prop} (h : (((m.1 2 1).toInt ≤ x4.toInt → Q x3 m) ∧ (x4.toInt < (m.1 2 1).toInt → c_X11_has d x1 x4 m (fun r1 m1 => ((r1.toInt ≠ 0 → j_X9_suspects_67_54 (d + 1) x1 x2 x3 x4 m1 Q) ∧ (r1.toInt = 0 → c_X3_litWithout_2 d (x1 ||| ((1 : Int32) <<< (x4 &&& 31))) m1 (fun r2 m2 => c_X9_isSo_67 d r2 x2 m2 (fun r3 m3 => ((r3.toInt = 0 → j_X9_suspects_67_54 (d + 1) x1 x2 x3 x4 m3 Q) ∧ (r3.toInt ≠ 0 → j_X9_suspects_67_54 (d + 1) x1 x2 (x3 ||| ((1 : Int32) <<< (x4 &&& 31))) x4 m3 Q)))))))))) : j_X9_suspects_67_5 (d + 1) x1 x2 x3 x4 m Q := by
  refine w_iload (q := 7) hm233 ⟨⟨_, _, rfl⟩, rfl⟩ rfl ?_
  refine w_aload_n (q := 8) hm233 ⟨⟨_, _, rfl⟩, rfl⟩ rfl ?_
  refine w_getr (q := 11) hm233 ⟨⟨_, _, rfl⟩, rfl⟩ rfl ?_
  refine w_getf (q := 14) (v := (m.1 2 1)) hm233 ⟨⟨_, _, rfl⟩, rfl⟩ rfl rfl ?_
  refine w_icmp_ge (q := 17) (X := x4.toInt) (Y := (m.1 2 1).toInt) hm233 ⟨⟨_, _, rfl⟩, rfl⟩ rfl rfl (fun hc => ?_) (fun hc => ?_)
  · have h := h.1 hc
    refine w_iload_n (q := 61) hm233 ⟨⟨_, _, rfl⟩, rfl⟩ rfl ?_
    exact w_reti hm233 ⟨⟨_, _, rfl⟩, rfl⟩ rfl h
  · have h := h.2 hc
    refine w_iload_n (q := 18) hm233 ⟨⟨_, _, rfl⟩, rfl⟩ rfl ?_
    refine w_iload (q := 20) hm233 ⟨⟨_, _, rfl⟩, rfl⟩ rfl ?_
    refine w_call (q := 23) (n := 0) (vs := [.inl x1, .inl x4]) (rest := []) (la := [oI x1, oI x4]) hm233 ⟨⟨_, _, rfl⟩, rfl⟩ rfl rfl rfl rfl hm283 rfl rfl (fun hz => absurd hz (by decide)) rfl (Wp.mono h ?_)
    rintro _ m1 ⟨r1, rfl, h⟩
    change Wp _ _ 23 _ [.inl r1] _ _
    refine w_if_ne (q := 26) (X := r1.toInt) hm233 ⟨⟨_, _, rfl⟩, rfl⟩ rfl (fun hc => ?_) (fun hc => ?_)
    · have h := h.1 hc
      exact h
    · have h := h.2 hc
      refine w_aload_n (q := 27) hm233 ⟨⟨_, _, rfl⟩, rfl⟩ rfl ?_
      refine w_aload_n (q := 28) hm233 ⟨⟨_, _, rfl⟩, rfl⟩ rfl ?_
      refine w_getr (q := 31) hm233 ⟨⟨_, _, rfl⟩, rfl⟩ rfl ?_
      refine w_iload_n (q := 32) hm233 ⟨⟨_, _, rfl⟩, rfl⟩ rfl ?_
      refine w_iconst (q := 33) hm233 ⟨⟨_, _, rfl⟩, rfl⟩ iconst_1 ?_
      refine w_iload (q := 35) hm233 ⟨⟨_, _, rfl⟩, rfl⟩ rfl ?_
      refine w_ishl (q := 36) hm233 ⟨⟨_, _, rfl⟩, rfl⟩ ?_
      refine w_ior (q := 37) hm233 ⟨⟨_, _, rfl⟩, rfl⟩ ?_
      refine w_call (q := 40) (n := 5) (vs := [.inr (.inr (some 2)), .inl (x1 ||| ((1 : Int32) <<< (x4 &&& 31)))]) (rest := [.inr (.inr (some 67))]) (la := [oR 2, oI (x1 ||| ((1 : Int32) <<< (x4 &&& 31))), none, none, none, none, none]) hm233 ⟨⟨_, _, rfl⟩, rfl⟩ rfl rfl rfl rfl hm174 rfl rfl (fun _ => ⟨_, _, rfl, rfl⟩) rfl (Wp.mono h ?_)
      rintro _ m2 ⟨r2, rfl, h⟩
      change Wp _ _ 40 _ [.inl r2, .inr (.inr (some 67))] _ _
      refine w_iload_n (q := 41) hm233 ⟨⟨_, _, rfl⟩, rfl⟩ rfl ?_
      refine w_call (q := 44) (n := 1) (vs := [.inr (.inr (some 67)), .inl r2, .inl x2]) (rest := []) (la := [oR 67, oI r2, oI x2, none]) hm233 ⟨⟨_, _, rfl⟩, rfl⟩ rfl rfl rfl rfl hm234 rfl rfl (fun _ => ⟨_, _, rfl, rfl⟩) rfl (Wp.mono h ?_)
      rintro _ m3 ⟨r3, rfl, h⟩
      change Wp _ _ 44 _ [.inl r3] _ _
      refine w_if_eq (q := 47) (X := r3.toInt) hm233 ⟨⟨_, _, rfl⟩, rfl⟩ rfl (fun hc => ?_) (fun hc => ?_)
      · have h := h.1 hc
        exact h
      · have h := h.2 hc
        refine w_iload_n (q := 48) hm233 ⟨⟨_, _, rfl⟩, rfl⟩ rfl ?_
        refine w_iconst (q := 49) hm233 ⟨⟨_, _, rfl⟩, rfl⟩ iconst_1 ?_
        refine w_iload (q := 51) hm233 ⟨⟨_, _, rfl⟩, rfl⟩ rfl ?_
        refine w_ishl (q := 52) hm233 ⟨⟨_, _, rfl⟩, rfl⟩ ?_
        refine w_ior (q := 53) hm233 ⟨⟨_, _, rfl⟩, rfl⟩ ?_
        refine w_istore_n (q := 54) (l' := [oR 67, oI x1, oI x2, oI (x3 ||| ((1 : Int32) <<< (x4 &&& 31))), oI x4]) hm233 ⟨⟨_, _, rfl⟩, rfl⟩ rfl rfl rfl ?_
        exact h
theorem v_X9_suspects_67_54 {d : Nat} {x1 : Int32} {x2 : Int32} {x3 : Int32} {x4 : Int32} {m : dM} {Q : Int32 → dM → Prop} (h : j_X9_suspects_67_5 (d + 1) x1 x2 x3 (x4 + (1 : Int32)) m Q) : j_X9_suspects_67_54 (d + 1) x1 x2 x3 x4 m Q := by
  refine w_iinc (q := 57) (l' := [oR 67, oI x1, oI x2, oI x3, oI (x4 + (1 : Int32))]) hm233 ⟨⟨_, _, rfl⟩, rfl⟩ rfl rfl rfl iconst_1 rfl ?_
  refine w_goto (q := 5) hm233 ⟨_, _, rfl⟩ ?_
  exact h
theorem v_X11_went_0 {d : Nat} {x1 : Int32} {x2 : Int32} {m : dM} {Q : Int32 → dM → Prop} (h : ((x1.toInt < 0 → j_X11_went_0_24 (d + 1) m Q) ∧ (0 ≤ x1.toInt → (((m.1 67 3).toInt < x1.toInt → j_X11_went_0_24 (d + 1) m Q) ∧ (x1.toInt ≤ (m.1 67 3).toInt → ((x2.toInt < 0 → j_X11_went_0_24 (d + 1) m Q) ∧ (0 ≤ x2.toInt → ((x2.toInt ≤ 1 → c_X9_suspects_67 d (m.1 47 3) x1 m (fun r1 m1 => ((x2.toInt ≠ 0 → Q r1 m1) ∧ (x2.toInt = 0 → c_J6_bitCount d r1 m1 (fun r2 m2 => Q r2 m2))))) ∧ (1 < x2.toInt → j_X11_went_0_24 (d + 1) m Q))))))))) : c_X11_went_0 (d + 1) x1 x2 m Q := by
  refine w_iload_n (q := 1) hm277 ⟨⟨_, _, rfl⟩, rfl⟩ rfl ?_
  refine w_if_lt (q := 4) (X := x1.toInt) hm277 ⟨⟨_, _, rfl⟩, rfl⟩ rfl (fun hc => ?_) (fun hc => ?_)
  · have h := h.1 hc
    exact Wp.wk [false, false, false, false] h
  · have h := h.2 hc
    refine w_iload_n (q := 5) hm277 ⟨⟨_, _, rfl⟩, rfl⟩ rfl ?_
    refine w_aload_n (q := 6) hm277 ⟨⟨_, _, rfl⟩, rfl⟩ rfl ?_
    refine w_getr (q := 9) hm277 ⟨⟨_, _, rfl⟩, rfl⟩ rfl ?_
    refine w_getf (q := 12) (v := (m.1 67 3)) hm277 ⟨⟨_, _, rfl⟩, rfl⟩ rfl rfl ?_
    refine w_icmp_gt (q := 15) (X := x1.toInt) (Y := (m.1 67 3).toInt) hm277 ⟨⟨_, _, rfl⟩, rfl⟩ rfl rfl (fun hc => ?_) (fun hc => ?_)
    · have h := h.1 hc
      exact Wp.wk [false, false, false, false] h
    · have h := h.2 hc
      refine w_iload_n (q := 16) hm277 ⟨⟨_, _, rfl⟩, rfl⟩ rfl ?_
      refine w_if_lt (q := 19) (X := x2.toInt) hm277 ⟨⟨_, _, rfl⟩, rfl⟩ rfl (fun hc => ?_) (fun hc => ?_)
      · have h := h.1 hc
        exact Wp.wk [false, false, false, false] h
      · have h := h.2 hc
        refine w_iload_n (q := 20) hm277 ⟨⟨_, _, rfl⟩, rfl⟩ rfl ?_
        refine w_iconst (q := 21) hm277 ⟨⟨_, _, rfl⟩, rfl⟩ iconst_1 ?_
        refine w_icmp_le (q := 24) (X := x2.toInt) (Y := 1) hm277 ⟨⟨_, _, rfl⟩, rfl⟩ rfl (by decide) (fun hc => ?_) (fun hc => ?_)
        · have h := h.1 hc
          refine w_aload_n (q := 27) hm277 ⟨⟨_, _, rfl⟩, rfl⟩ rfl ?_
          refine w_getr (q := 30) hm277 ⟨⟨_, _, rfl⟩, rfl⟩ rfl ?_
          refine w_aload_n (q := 31) hm277 ⟨⟨_, _, rfl⟩, rfl⟩ rfl ?_
          refine w_getr (q := 34) hm277 ⟨⟨_, _, rfl⟩, rfl⟩ rfl ?_
          refine w_getf (q := 37) (v := (m.1 47 3)) hm277 ⟨⟨_, _, rfl⟩, rfl⟩ rfl rfl ?_
          refine w_iload_n (q := 38) hm277 ⟨⟨_, _, rfl⟩, rfl⟩ rfl ?_
          refine w_call (q := 41) (n := 2) (vs := [.inr (.inr (some 67)), .inl (m.1 47 3), .inl x1]) (rest := []) (la := [oR 67, oI (m.1 47 3), oI x1, none, none]) hm277 ⟨⟨_, _, rfl⟩, rfl⟩ rfl rfl rfl rfl hm233 rfl rfl (fun _ => ⟨_, _, rfl, rfl⟩) rfl (Wp.mono h ?_)
          rintro _ m1 ⟨r1, rfl, h⟩
          change Wp _ _ 41 _ [.inl r1] _ _
          refine w_istore_n (q := 42) (l' := [oR 0, oI x1, oI x2, oI r1]) hm277 ⟨⟨_, _, rfl⟩, rfl⟩ rfl rfl rfl ?_
          refine w_iload_n (q := 43) hm277 ⟨⟨_, _, rfl⟩, rfl⟩ rfl ?_
          refine w_if_ne (q := 46) (X := x2.toInt) hm277 ⟨⟨_, _, rfl⟩, rfl⟩ rfl (fun hc => ?_) (fun hc => ?_)
          · have h := h.1 hc
            refine w_iload_n (q := 54) hm277 ⟨⟨_, _, rfl⟩, rfl⟩ rfl ?_
            exact w_reti hm277 ⟨⟨_, _, rfl⟩, rfl⟩ rfl h
          · have h := h.2 hc
            refine w_iload_n (q := 47) hm277 ⟨⟨_, _, rfl⟩, rfl⟩ rfl ?_
            refine w_call (q := 50) (n := 0) (vs := [.inl r1]) (rest := []) (la := [oI r1]) hm277 ⟨⟨_, _, rfl⟩, rfl⟩ rfl rfl rfl rfl hm285 rfl rfl (fun hz => absurd hz (by decide)) rfl (Wp.mono h ?_)
            rintro _ m2 ⟨r2, rfl, h⟩
            change Wp _ _ 50 _ [.inl r2] _ _
            refine w_goto (q := 54) hm277 ⟨_, _, rfl⟩ ?_
            exact w_reti hm277 ⟨⟨_, _, rfl⟩, rfl⟩ rfl h
        · have h := h.2 hc
          exact Wp.wk [false, false, false, false] h
theorem v_X11_went_0_24 {d : Nat} {m : dM} {Q : Int32 → dM → Prop} (h : Q (-1 : Int32) m) : j_X11_went_0_24 (d + 1) m Q := by
  refine w_iconst (q := 25) hm277 ⟨⟨_, _, rfl⟩, rfl⟩ iconst_m1 ?_
  exact w_reti hm277 ⟨⟨_, _, rfl⟩, rfl⟩ rfl h
theorem v_X12_wentBits_70 {d : Nat} {x1 : Int32} {m : dM} {Q : Int32 → dM → Prop} (h : j_X12_wentBits_70_4 (d + 1) x1 (0 : Int32) (0 : Int32) m Q) : c_X12_wentBits_70 (d + 1) x1 m Q := by
  refine w_iconst (q := 1) hm108 ⟨⟨_, _, rfl⟩, rfl⟩ iconst_0 ?_
  refine w_istore_n (q := 2) (l' := [oR 70, oI x1, oI (0 : Int32), none, none, none]) hm108 ⟨⟨_, _, rfl⟩, rfl⟩ rfl rfl rfl ?_
  refine w_iconst (q := 3) hm108 ⟨⟨_, _, rfl⟩, rfl⟩ iconst_0 ?_
  refine w_istore_n (q := 4) (l' := [oR 70, oI x1, oI (0 : Int32), oI (0 : Int32), none, none]) hm108 ⟨⟨_, _, rfl⟩, rfl⟩ rfl rfl rfl ?_
  exact h
theorem v_X12_wentBits_70_4 {d : Nat} {x1 : Int32} {x2 : Int32} {x3 : Int32} {m : dM} {Q : Int32 → dM → Prop} (h : ((0 ≤ (m.1 70 18).toInt ∧ (m.1 70 18).toInt < 2) ∧ (((m.1 82 (m.1 70 18).toNatClampNeg).toInt ≤ x3.toInt → Q x2 m) ∧ (x3.toInt < (m.1 82 (m.1 70 18).toNatClampNeg).toInt → ((0 ≤ ((10 : Int32) + x3).toInt ∧ ((10 : Int32) + x3).toInt < 58) ∧ (((m.1 107 ((10 : Int32) + x3).toNatClampNeg).toInt ≠ 1 → c_X12_loses_70 d ((1 : Int32) <<< (x3 &&& 31)) m (fun m1 => c_X12_litBits_70 d m1 (fun r2 m2 => ((0 ≤ x3.toInt ∧ x3.toInt < 10) ∧ j_X12_wentBits_70_56 (d + 1) x1 x2 x3 (1 : Int32) (0 : Int32) (dSet m2 114 x3.toNatClampNeg r2) Q)))) ∧ ((m.1 107 ((10 : Int32) + x3).toNatClampNeg).toInt = 1 → j_X12_wentBits_70_108 (d + 1) x1 x2 x3 m Q))))))) : j_X12_wentBits_70_4 (d + 1) x1 x2 x3 m Q := by
  refine w_iload_n (q := 5) hm108 ⟨⟨_, _, rfl⟩, rfl⟩ rfl ?_
  refine w_aload_n (q := 6) hm108 ⟨⟨_, _, rfl⟩, rfl⟩ rfl ?_
  refine w_getr (q := 9) hm108 ⟨⟨_, _, rfl⟩, rfl⟩ rfl ?_
  refine w_aload_n (q := 10) hm108 ⟨⟨_, _, rfl⟩, rfl⟩ rfl ?_
  refine w_getf (q := 13) (v := (m.1 70 18)) hm108 ⟨⟨_, _, rfl⟩, rfl⟩ rfl rfl ?_
  obtain ⟨hi, h⟩ := h
  refine w_iald (q := 14) (v := (m.1 82 (m.1 70 18).toNatClampNeg)) hm108 ⟨⟨_, _, rfl⟩, rfl⟩ rfl hi rfl rfl ?_
  refine w_icmp_ge (q := 17) (X := x3.toInt) (Y := (m.1 82 (m.1 70 18).toNatClampNeg).toInt) hm108 ⟨⟨_, _, rfl⟩, rfl⟩ rfl rfl (fun hc => ?_) (fun hc => ?_)
  · have h := h.1 hc
    refine w_iload_n (q := 115) hm108 ⟨⟨_, _, rfl⟩, rfl⟩ rfl ?_
    exact w_reti hm108 ⟨⟨_, _, rfl⟩, rfl⟩ rfl h
  · have h := h.2 hc
    refine w_aload_n (q := 18) hm108 ⟨⟨_, _, rfl⟩, rfl⟩ rfl ?_
    refine w_getr (q := 21) hm108 ⟨⟨_, _, rfl⟩, rfl⟩ rfl ?_
    refine w_bipush (q := 23) hm108 ⟨⟨_, _, rfl⟩, rfl⟩ bipush_10 ?_
    refine w_iload_n (q := 24) hm108 ⟨⟨_, _, rfl⟩, rfl⟩ rfl ?_
    refine w_iadd (q := 25) hm108 ⟨⟨_, _, rfl⟩, rfl⟩ ?_
    obtain ⟨hi, h⟩ := h
    refine w_iald (q := 26) (v := (m.1 107 ((10 : Int32) + x3).toNatClampNeg)) hm108 ⟨⟨_, _, rfl⟩, rfl⟩ rfl hi rfl rfl ?_
    refine w_iconst (q := 27) hm108 ⟨⟨_, _, rfl⟩, rfl⟩ iconst_1 ?_
    refine w_icmp_ne (q := 30) (X := (m.1 107 ((10 : Int32) + x3).toNatClampNeg).toInt) (Y := 1) hm108 ⟨⟨_, _, rfl⟩, rfl⟩ rfl (by decide) (fun hc => ?_) (fun hc => ?_)
    · have h := h.1 hc
      refine w_aload_n (q := 34) hm108 ⟨⟨_, _, rfl⟩, rfl⟩ rfl ?_
      refine w_iconst (q := 35) hm108 ⟨⟨_, _, rfl⟩, rfl⟩ iconst_1 ?_
      refine w_iload_n (q := 36) hm108 ⟨⟨_, _, rfl⟩, rfl⟩ rfl ?_
      refine w_ishl (q := 37) hm108 ⟨⟨_, _, rfl⟩, rfl⟩ ?_
      refine w_call (q := 40) (n := 1) (vs := [.inr (.inr (some 70)), .inl ((1 : Int32) <<< (x3 &&& 31))]) (rest := []) (la := [oR 70, oI ((1 : Int32) <<< (x3 &&& 31)), none]) hm108 ⟨⟨_, _, rfl⟩, rfl⟩ rfl rfl rfl rfl hm92 rfl rfl (fun _ => ⟨_, _, rfl, rfl⟩) rfl (Wp.mono h ?_)
      rintro _ m1 ⟨rfl, h⟩
      change Wp _ _ 40 _ [] _ _
      refine w_aload_n (q := 41) hm108 ⟨⟨_, _, rfl⟩, rfl⟩ rfl ?_
      refine w_getr (q := 44) hm108 ⟨⟨_, _, rfl⟩, rfl⟩ rfl ?_
      refine w_iload_n (q := 45) hm108 ⟨⟨_, _, rfl⟩, rfl⟩ rfl ?_
      refine w_aload_n (q := 46) hm108 ⟨⟨_, _, rfl⟩, rfl⟩ rfl ?_
      refine w_call (q := 49) (n := 2) (vs := [.inr (.inr (some 70))]) (rest := [.inl x3, .inr (.inr (some 114))]) (la := [oR 70, none, none]) hm108 ⟨⟨_, _, rfl⟩, rfl⟩ rfl rfl rfl rfl hm52 rfl rfl (fun _ => ⟨_, _, rfl, rfl⟩) rfl (Wp.mono h ?_)
      rintro _ m2 ⟨r2, rfl, h⟩
      change Wp _ _ 49 _ [.inl r2, .inl x3, .inr (.inr (some 114))] _ _
      obtain ⟨hi, h⟩ := h
      refine w_iast (q := 50) hm108 ⟨⟨_, _, rfl⟩, rfl⟩ rfl hi rfl rfl ?_
      refine w_iconst (q := 51) hm108 ⟨⟨_, _, rfl⟩, rfl⟩ iconst_1 ?_
      refine w_istore (q := 53) (l' := [oR 70, oI x1, oI x2, oI x3, oI (1 : Int32), none]) hm108 ⟨⟨_, _, rfl⟩, rfl⟩ rfl rfl rfl ?_
      refine w_iconst (q := 54) hm108 ⟨⟨_, _, rfl⟩, rfl⟩ iconst_0 ?_
      refine w_istore (q := 56) (l' := [oR 70, oI x1, oI x2, oI x3, oI (1 : Int32), oI (0 : Int32)]) hm108 ⟨⟨_, _, rfl⟩, rfl⟩ rfl rfl rfl ?_
      exact h
    · have h := h.2 hc
      refine w_goto (q := 108) hm108 ⟨_, _, rfl⟩ ?_
      exact h
theorem v_X12_wentBits_70_56 {d : Nat} {x1 : Int32} {x2 : Int32} {x3 : Int32} {x4 : Int32} {x5 : Int32} {m : dM} {Q : Int32 → dM → Prop} (h : ((x1.toInt ≤ x5.toInt → ((x4.toInt = 0 → j_X12_wentBits_70_108 (d + 1) x1 x2 x3 m Q) ∧ (x4.toInt ≠ 0 → j_X12_wentBits_70_108 (d + 1) x1 (x2 ||| ((1 : Int32) <<< (x3 &&& 31))) x3 m Q))) ∧ (x5.toInt < x1.toInt → ((0 ≤ x3.toInt ∧ x3.toInt < 10) ∧ ((0 ≤ x5.toInt ∧ x5.toInt < 20) ∧ ((0 ≤ x5.toInt ∧ x5.toInt < 20) ∧ (((((m.1 114 x3.toNatClampNeg) >>> ((m.1 112 x5.toNatClampNeg) &&& 31)) &&& (1 : Int32)).toInt = (m.1 113 x5.toNatClampNeg).toInt → j_X12_wentBits_70_91 (d + 1) x1 x2 x3 x4 x5 m Q) ∧ ((((m.1 114 x3.toNatClampNeg) >>> ((m.1 112 x5.toNatClampNeg) &&& 31)) &&& (1 : Int32)).toInt ≠ (m.1 113 x5.toNatClampNeg).toInt → j_X12_wentBits_70_91 (d + 1) x1 x2 x3 (0 : Int32) x5 m Q)))))))) : j_X12_wentBits_70_56 (d + 1) x1 x2 x3 x4 x5 m Q := by
  refine w_iload (q := 58) hm108 ⟨⟨_, _, rfl⟩, rfl⟩ rfl ?_
  refine w_iload_n (q := 59) hm108 ⟨⟨_, _, rfl⟩, rfl⟩ rfl ?_
  refine w_icmp_ge (q := 62) (X := x5.toInt) (Y := x1.toInt) hm108 ⟨⟨_, _, rfl⟩, rfl⟩ rfl rfl (fun hc => ?_) (fun hc => ?_)
  · have h := h.1 hc
    refine w_iload (q := 99) hm108 ⟨⟨_, _, rfl⟩, rfl⟩ rfl ?_
    refine w_if_eq (q := 102) (X := x4.toInt) hm108 ⟨⟨_, _, rfl⟩, rfl⟩ rfl (fun hc => ?_) (fun hc => ?_)
    · have h := h.1 hc
      exact Wp.wk [true, true, true, true, false, false] h
    · have h := h.2 hc
      refine w_iload_n (q := 103) hm108 ⟨⟨_, _, rfl⟩, rfl⟩ rfl ?_
      refine w_iconst (q := 104) hm108 ⟨⟨_, _, rfl⟩, rfl⟩ iconst_1 ?_
      refine w_iload_n (q := 105) hm108 ⟨⟨_, _, rfl⟩, rfl⟩ rfl ?_
      refine w_ishl (q := 106) hm108 ⟨⟨_, _, rfl⟩, rfl⟩ ?_
      refine w_ior (q := 107) hm108 ⟨⟨_, _, rfl⟩, rfl⟩ ?_
      refine w_istore_n (q := 108) (l' := [oR 70, oI x1, oI (x2 ||| ((1 : Int32) <<< (x3 &&& 31))), oI x3, oI x4, oI x5]) hm108 ⟨⟨_, _, rfl⟩, rfl⟩ rfl rfl rfl ?_
      exact Wp.wk [true, true, true, true, false, false] h
  · have h := h.2 hc
    refine w_aload_n (q := 63) hm108 ⟨⟨_, _, rfl⟩, rfl⟩ rfl ?_
    refine w_getr (q := 66) hm108 ⟨⟨_, _, rfl⟩, rfl⟩ rfl ?_
    refine w_iload_n (q := 67) hm108 ⟨⟨_, _, rfl⟩, rfl⟩ rfl ?_
    obtain ⟨hi, h⟩ := h
    refine w_iald (q := 68) (v := (m.1 114 x3.toNatClampNeg)) hm108 ⟨⟨_, _, rfl⟩, rfl⟩ rfl hi rfl rfl ?_
    refine w_aload_n (q := 69) hm108 ⟨⟨_, _, rfl⟩, rfl⟩ rfl ?_
    refine w_getr (q := 72) hm108 ⟨⟨_, _, rfl⟩, rfl⟩ rfl ?_
    refine w_iload (q := 74) hm108 ⟨⟨_, _, rfl⟩, rfl⟩ rfl ?_
    obtain ⟨hi, h⟩ := h
    refine w_iald (q := 75) (v := (m.1 112 x5.toNatClampNeg)) hm108 ⟨⟨_, _, rfl⟩, rfl⟩ rfl hi rfl rfl ?_
    refine w_ishr (q := 76) hm108 ⟨⟨_, _, rfl⟩, rfl⟩ ?_
    refine w_iconst (q := 77) hm108 ⟨⟨_, _, rfl⟩, rfl⟩ iconst_1 ?_
    refine w_iand (q := 78) hm108 ⟨⟨_, _, rfl⟩, rfl⟩ ?_
    refine w_aload_n (q := 79) hm108 ⟨⟨_, _, rfl⟩, rfl⟩ rfl ?_
    refine w_getr (q := 82) hm108 ⟨⟨_, _, rfl⟩, rfl⟩ rfl ?_
    refine w_iload (q := 84) hm108 ⟨⟨_, _, rfl⟩, rfl⟩ rfl ?_
    obtain ⟨hi, h⟩ := h
    refine w_iald (q := 85) (v := (m.1 113 x5.toNatClampNeg)) hm108 ⟨⟨_, _, rfl⟩, rfl⟩ rfl hi rfl rfl ?_
    refine w_icmp_eq (q := 88) (X := (((m.1 114 x3.toNatClampNeg) >>> ((m.1 112 x5.toNatClampNeg) &&& 31)) &&& (1 : Int32)).toInt) (Y := (m.1 113 x5.toNatClampNeg).toInt) hm108 ⟨⟨_, _, rfl⟩, rfl⟩ rfl rfl (fun hc => ?_) (fun hc => ?_)
    · have h := h.1 hc
      exact h
    · have h := h.2 hc
      refine w_iconst (q := 89) hm108 ⟨⟨_, _, rfl⟩, rfl⟩ iconst_0 ?_
      refine w_istore (q := 91) (l' := [oR 70, oI x1, oI x2, oI x3, oI (0 : Int32), oI x5]) hm108 ⟨⟨_, _, rfl⟩, rfl⟩ rfl rfl rfl ?_
      exact h
theorem v_X12_wentBits_70_91 {d : Nat} {x1 : Int32} {x2 : Int32} {x3 : Int32} {x4 : Int32} {x5 : Int32} {m : dM} {Q : Int32 → dM → Prop} (h : j_X12_wentBits_70_56 (d + 1) x1 x2 x3 x4 (x5 + (1 : Int32)) m Q) : j_X12_wentBits_70_91 (d + 1) x1 x2 x3 x4 x5 m Q := by
  refine w_iinc (q := 94) (l' := [oR 70, oI x1, oI x2, oI x3, oI x4, oI (x5 + (1 : Int32))]) hm108 ⟨⟨_, _, rfl⟩, rfl⟩ rfl rfl rfl iconst_1 rfl ?_
  refine w_goto (q := 56) hm108 ⟨_, _, rfl⟩ ?_
  exact h
theorem v_X12_wentBits_70_108 {d : Nat} {x1 : Int32} {x2 : Int32} {x3 : Int32} {m : dM} {Q : Int32 → dM → Prop} (h : j_X12_wentBits_70_4 (d + 1) x1 x2 (x3 + (1 : Int32)) m Q) : j_X12_wentBits_70_108 (d + 1) x1 x2 x3 m Q := by
  refine w_iinc (q := 111) (l' := [oR 70, oI x1, oI x2, oI (x3 + (1 : Int32)), none, none]) hm108 ⟨⟨_, _, rfl⟩, rfl⟩ rfl rfl rfl iconst_1 rfl ?_
  refine w_goto (q := 4) hm108 ⟨_, _, rfl⟩ ?_
  exact h
theorem v_X12_went_70 {d : Nat} {x1 : Int32} {x2 : Int32} {m : dM} {Q : Int32 → dM → Prop} (h : c_X12_in d x1 (0 : Int32) (m.1 70 63) m (fun r1 m1 => ((r1.toInt = 0 → j_X12_went_70_21 (d + 1) m1 Q) ∧ (r1.toInt ≠ 0 → c_X12_in d x2 (0 : Int32) (1 : Int32) m1 (fun r2 m2 => ((r2.toInt ≠ 0 → c_X12_wentBits_70 d x1 m2 (fun r3 m3 => ((x2.toInt ≠ 0 → Q r3 m3) ∧ (x2.toInt = 0 → c_X12_bits d r3 m3 (fun r4 m4 => Q r4 m4))))) ∧ (r2.toInt = 0 → j_X12_went_70_21 (d + 1) m2 Q))))))) : c_X12_went_70 (d + 1) x1 x2 m Q := by
  refine w_iload_n (q := 1) hm109 ⟨⟨_, _, rfl⟩, rfl⟩ rfl ?_
  refine w_iconst (q := 2) hm109 ⟨⟨_, _, rfl⟩, rfl⟩ iconst_0 ?_
  refine w_aload_n (q := 3) hm109 ⟨⟨_, _, rfl⟩, rfl⟩ rfl ?_
  refine w_getf (q := 6) (v := (m.1 70 63)) hm109 ⟨⟨_, _, rfl⟩, rfl⟩ rfl rfl ?_
  refine w_call (q := 9) (n := 0) (vs := [.inl x1, .inl (0 : Int32), .inl (m.1 70 63)]) (rest := []) (la := [oI x1, oI (0 : Int32), oI (m.1 70 63)]) hm109 ⟨⟨_, _, rfl⟩, rfl⟩ rfl rfl rfl rfl hm36 rfl rfl (fun hz => absurd hz (by decide)) rfl (Wp.mono h ?_)
  rintro _ m1 ⟨r1, rfl, h⟩
  change Wp _ _ 9 _ [.inl r1] _ _
  refine w_if_eq (q := 12) (X := r1.toInt) hm109 ⟨⟨_, _, rfl⟩, rfl⟩ rfl (fun hc => ?_) (fun hc => ?_)
  · have h := h.1 hc
    exact Wp.wk [false, false, false, false] h
  · have h := h.2 hc
    refine w_iload_n (q := 13) hm109 ⟨⟨_, _, rfl⟩, rfl⟩ rfl ?_
    refine w_iconst (q := 14) hm109 ⟨⟨_, _, rfl⟩, rfl⟩ iconst_0 ?_
    refine w_iconst (q := 15) hm109 ⟨⟨_, _, rfl⟩, rfl⟩ iconst_1 ?_
    refine w_call (q := 18) (n := 0) (vs := [.inl x2, .inl (0 : Int32), .inl (1 : Int32)]) (rest := []) (la := [oI x2, oI (0 : Int32), oI (1 : Int32)]) hm109 ⟨⟨_, _, rfl⟩, rfl⟩ rfl rfl rfl rfl hm36 rfl rfl (fun hz => absurd hz (by decide)) rfl (Wp.mono h ?_)
    rintro _ m2 ⟨r2, rfl, h⟩
    change Wp _ _ 18 _ [.inl r2] _ _
    refine w_if_ne (q := 21) (X := r2.toInt) hm109 ⟨⟨_, _, rfl⟩, rfl⟩ rfl (fun hc => ?_) (fun hc => ?_)
    · have h := h.1 hc
      refine w_aload_n (q := 24) hm109 ⟨⟨_, _, rfl⟩, rfl⟩ rfl ?_
      refine w_iload_n (q := 25) hm109 ⟨⟨_, _, rfl⟩, rfl⟩ rfl ?_
      refine w_call (q := 28) (n := 4) (vs := [.inr (.inr (some 70)), .inl x1]) (rest := []) (la := [oR 70, oI x1, none, none, none, none]) hm109 ⟨⟨_, _, rfl⟩, rfl⟩ rfl rfl rfl rfl hm108 rfl rfl (fun _ => ⟨_, _, rfl, rfl⟩) rfl (Wp.mono h ?_)
      rintro _ m3 ⟨r3, rfl, h⟩
      change Wp _ _ 28 _ [.inl r3] _ _
      refine w_istore_n (q := 29) (l' := [oR 70, oI x1, oI x2, oI r3]) hm109 ⟨⟨_, _, rfl⟩, rfl⟩ rfl rfl rfl ?_
      refine w_iload_n (q := 30) hm109 ⟨⟨_, _, rfl⟩, rfl⟩ rfl ?_
      refine w_if_ne (q := 33) (X := x2.toInt) hm109 ⟨⟨_, _, rfl⟩, rfl⟩ rfl (fun hc => ?_) (fun hc => ?_)
      · have h := h.1 hc
        refine w_iload_n (q := 41) hm109 ⟨⟨_, _, rfl⟩, rfl⟩ rfl ?_
        exact w_reti hm109 ⟨⟨_, _, rfl⟩, rfl⟩ rfl h
      · have h := h.2 hc
        refine w_iload_n (q := 34) hm109 ⟨⟨_, _, rfl⟩, rfl⟩ rfl ?_
        refine w_call (q := 37) (n := 2) (vs := [.inl r3]) (rest := []) (la := [oI r3, none, none]) hm109 ⟨⟨_, _, rfl⟩, rfl⟩ rfl rfl rfl rfl hm38 rfl rfl (fun hz => absurd hz (by decide)) rfl (Wp.mono h ?_)
        rintro _ m4 ⟨r4, rfl, h⟩
        change Wp _ _ 37 _ [.inl r4] _ _
        refine w_goto (q := 41) hm109 ⟨_, _, rfl⟩ ?_
        exact w_reti hm109 ⟨⟨_, _, rfl⟩, rfl⟩ rfl h
    · have h := h.2 hc
      exact Wp.wk [false, false, false, false] h
theorem v_X12_went_70_21 {d : Nat} {m : dM} {Q : Int32 → dM → Prop} (h : Q (-1 : Int32) m) : j_X12_went_70_21 (d + 1) m Q := by
  refine w_iconst (q := 22) hm109 ⟨⟨_, _, rfl⟩, rfl⟩ iconst_m1 ?_
  exact w_reti hm109 ⟨⟨_, _, rfl⟩, rfl⟩ rfl h
