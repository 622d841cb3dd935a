theorem v_X12_tellUse_70 {d : Nat} {m : dM} {Q : dM → Prop} (h : ((0 ≤ (m.1 70 19).toInt ∧ (m.1 70 19).toInt < 2) ∧ c_X12_named_70 d m (fun r1 m1 => c_X12_knownFlat_70 d m1 (fun r2 m2 => ((0 ≤ (((8 : Int32) * (m.1 70 19)) + (m.1 86 (m.1 70 19).toNatClampNeg)).toInt ∧ (((8 : Int32) * (m.1 70 19)) + (m.1 86 (m.1 70 19).toNatClampNeg)).toInt < 16) ∧ c_X12_bounded_70 d (1 : Int32) (19 : Int32) (dSet m2 87 (((8 : Int32) * (m.1 70 19)) + (m.1 86 (m.1 70 19).toNatClampNeg)).toNatClampNeg r2) (fun r3 m3 => ((0 ≤ (((8 : Int32) * (m.1 70 19)) + (m.1 86 (m.1 70 19).toNatClampNeg)).toInt ∧ (((8 : Int32) * (m.1 70 19)) + (m.1 86 (m.1 70 19).toNatClampNeg)).toInt < 16) ∧ c_X12_bounded_70 d (0 : Int32) (23 : Int32) (dSet m3 88 (((8 : Int32) * (m.1 70 19)) + (m.1 86 (m.1 70 19).toNatClampNeg)).toNatClampNeg r3) (fun r4 m4 => ((0 ≤ (((8 : Int32) * (m.1 70 19)) + (m.1 86 (m.1 70 19).toNatClampNeg)).toInt ∧ (((8 : Int32) * (m.1 70 19)) + (m.1 86 (m.1 70 19).toNatClampNeg)).toInt < 16) ∧ ((0 ≤ (((8 : Int32) * (m.1 70 19)) + (m.1 86 (m.1 70 19).toNatClampNeg)).toInt ∧ (((8 : Int32) * (m.1 70 19)) + (m.1 86 (m.1 70 19).toNatClampNeg)).toInt < 16) ∧ ((r4.toInt ≤ 23 → ((0 ≤ (((8 : Int32) * (m.1 70 19)) + (m.1 86 (m.1 70 19).toNatClampNeg)).toInt ∧ (((8 : Int32) * (m.1 70 19)) + (m.1 86 (m.1 70 19).toNatClampNeg)).toInt < 16) ∧ c_X12_bounded_70 d r4 (23 : Int32) (dSet m4 89 (((8 : Int32) * (m.1 70 19)) + (m.1 86 (m.1 70 19).toNatClampNeg)).toNatClampNeg r4) (fun r5 m5 => ((0 ≤ (((8 : Int32) * (m.1 70 19)) + (m.1 86 (m.1 70 19).toNatClampNeg)).toInt ∧ (((8 : Int32) * (m.1 70 19)) + (m.1 86 (m.1 70 19).toNatClampNeg)).toInt < 16) ∧ c_X12_endsName_70 d r1 (-1 : Int32) (dSet m5 90 (((8 : Int32) * (m.1 70 19)) + (m.1 86 (m.1 70 19).toNatClampNeg)).toNatClampNeg r5) (fun m6 => (((m6.1 70 13).toInt ≠ 0 → j_X12_tellUse_70_118 (d + 1) m6 Q) ∧ ((m6.1 70 13).toInt = 0 → ((0 ≤ (m6.1 70 19).toInt ∧ (m6.1 70 19).toInt < 2) ∧ ((0 ≤ (m6.1 70 19).toInt ∧ (m6.1 70 19).toInt < 2) ∧ j_X12_tellUse_70_118 (d + 1) (dSet m6 86 (m6.1 70 19).toNatClampNeg ((m6.1 86 (m6.1 70 19).toNatClampNeg) + (1 : Int32))) Q))))))))) ∧ (23 < r4.toInt → c_X12_bounded_70 d (0 : Int32) (23 : Int32) (dSet m4 89 (((8 : Int32) * (m.1 70 19)) + (m.1 86 (m.1 70 19).toNatClampNeg)).toNatClampNeg r4) (fun r7 m7 => ((0 ≤ (((8 : Int32) * (m.1 70 19)) + (m.1 86 (m.1 70 19).toNatClampNeg)).toInt ∧ (((8 : Int32) * (m.1 70 19)) + (m.1 86 (m.1 70 19).toNatClampNeg)).toInt < 16) ∧ c_X12_endsName_70 d r1 (-1 : Int32) (dSet m7 90 (((8 : Int32) * (m.1 70 19)) + (m.1 86 (m.1 70 19).toNatClampNeg)).toNatClampNeg r7) (fun m8 => (((m8.1 70 13).toInt ≠ 0 → j_X12_tellUse_70_118 (d + 1) m8 Q) ∧ ((m8.1 70 13).toInt = 0 → ((0 ≤ (m8.1 70 19).toInt ∧ (m8.1 70 19).toInt < 2) ∧ ((0 ≤ (m8.1 70 19).toInt ∧ (m8.1 70 19).toInt < 2) ∧ j_X12_tellUse_70_118 (d + 1) (dSet m8 86 (m8.1 70 19).toNatClampNeg ((m8.1 86 (m8.1 70 19).toNatClampNeg) + (1 : Int32))) Q))))))))))))))))))) : c_X12_tellUse_70 (d + 1) m Q := by
  refine w_bipush (q := 2) hm28 ⟨⟨_, _, rfl⟩, rfl⟩ bipush_8 ?_
  refine w_aload_n (q := 3) hm28 ⟨⟨_, _, rfl⟩, rfl⟩ rfl ?_
  refine w_getf (q := 6) (v := (m.1 70 19)) hm28 ⟨⟨_, _, rfl⟩, rfl⟩ rfl rfl ?_
  refine w_imul (q := 7) hm28 ⟨⟨_, _, rfl⟩, rfl⟩ ?_
  refine w_aload_n (q := 8) hm28 ⟨⟨_, _, rfl⟩, rfl⟩ rfl ?_
  refine w_getr (q := 11) hm28 ⟨⟨_, _, rfl⟩, rfl⟩ rfl ?_
  refine w_aload_n (q := 12) hm28 ⟨⟨_, _, rfl⟩, rfl⟩ rfl ?_
  refine w_getf (q := 15) (v := (m.1 70 19)) hm28 ⟨⟨_, _, rfl⟩, rfl⟩ rfl rfl ?_
  obtain ⟨hi, h⟩ := h
  refine w_iald (q := 16) (v := (m.1 86 (m.1 70 19).toNatClampNeg)) hm28 ⟨⟨_, _, rfl⟩, rfl⟩ rfl hi rfl rfl ?_
  refine w_iadd (q := 17) hm28 ⟨⟨_, _, rfl⟩, rfl⟩ ?_
  refine w_istore_n (q := 18) (l' := [oR 70, oI (((8 : Int32) * (m.1 70 19)) + (m.1 86 (m.1 70 19).toNatClampNeg)), none]) hm28 ⟨⟨_, _, rfl⟩, rfl⟩ rfl rfl rfl ?_
  refine w_aload_n (q := 19) hm28 ⟨⟨_, _, rfl⟩, rfl⟩ rfl ?_
  refine w_call (q := 22) (n := 2) (vs := [.inr (.inr (some 70))]) (rest := []) (la := [oR 70, none, none]) hm28 ⟨⟨_, _, rfl⟩, rfl⟩ rfl rfl rfl rfl hm22 rfl rfl (fun _ => ⟨_, _, rfl, rfl⟩) rfl (Wp.mono h ?_)
  rintro _ m1 ⟨r1, rfl, h⟩
  change Wp _ _ 22 _ [.inl r1] _ _
  refine w_istore_n (q := 23) (l' := [oR 70, oI (((8 : Int32) * (m.1 70 19)) + (m.1 86 (m.1 70 19).toNatClampNeg)), oI r1]) hm28 ⟨⟨_, _, rfl⟩, rfl⟩ rfl rfl rfl ?_
  refine w_aload_n (q := 24) hm28 ⟨⟨_, _, rfl⟩, rfl⟩ rfl ?_
  refine w_getr (q := 27) hm28 ⟨⟨_, _, rfl⟩, rfl⟩ rfl ?_
  refine w_iload_n (q := 28) hm28 ⟨⟨_, _, rfl⟩, rfl⟩ rfl ?_
  refine w_aload_n (q := 29) hm28 ⟨⟨_, _, rfl⟩, rfl⟩ rfl ?_
  refine w_call (q := 32) (n := 2) (vs := [.inr (.inr (some 70))]) (rest := [.inl (((8 : Int32) * (m.1 70 19)) + (m.1 86 (m.1 70 19).toNatClampNeg)), .inr (.inr (some 87))]) (la := [oR 70, none, none]) hm28 ⟨⟨_, _, rfl⟩, rfl⟩ rfl rfl rfl rfl hm24 rfl rfl (fun _ => ⟨_, _, rfl, rfl⟩) rfl (Wp.mono h ?_)
  rintro _ m2 ⟨r2, rfl, h⟩
  change Wp _ _ 32 _ [.inl r2, .inl (((8 : Int32) * (m.1 70 19)) + (m.1 86 (m.1 70 19).toNatClampNeg)), .inr (.inr (some 87))] _ _
  obtain ⟨hi, h⟩ := h
  refine w_iast (q := 33) hm28 ⟨⟨_, _, rfl⟩, rfl⟩ rfl hi rfl rfl ?_
  refine w_aload_n (q := 34) hm28 ⟨⟨_, _, rfl⟩, rfl⟩ rfl ?_
  refine w_getr (q := 37) hm28 ⟨⟨_, _, rfl⟩, rfl⟩ rfl ?_
  refine w_iload_n (q := 38) hm28 ⟨⟨_, _, rfl⟩, rfl⟩ rfl ?_
  refine w_aload_n (q := 39) hm28 ⟨⟨_, _, rfl⟩, rfl⟩ rfl ?_
  refine w_iconst (q := 40) hm28 ⟨⟨_, _, rfl⟩, rfl⟩ iconst_1 ?_
  refine w_bipush (q := 42) hm28 ⟨⟨_, _, rfl⟩, rfl⟩ bipush_19 ?_
  refine w_call (q := 45) (n := 1) (vs := [.inr (.inr (some 70)), .inl (1 : Int32), .inl (19 : Int32)]) (rest := [.inl (((8 : Int32) * (m.1 70 19)) + (m.1 86 (m.1 70 19).toNatClampNeg)), .inr (.inr (some 88))]) (la := [oR 70, oI (1 : Int32), oI (19 : Int32), none]) hm28 ⟨⟨_, _, rfl⟩, rfl⟩ rfl rfl rfl rfl hm25 rfl rfl (fun _ => ⟨_, _, rfl, rfl⟩) rfl (Wp.mono h ?_)
  rintro _ m3 ⟨r3, rfl, h⟩
  change Wp _ _ 45 _ [.inl r3, .inl (((8 : Int32) * (m.1 70 19)) + (m.1 86 (m.1 70 19).toNatClampNeg)), .inr (.inr (some 88))] _ _
  obtain ⟨hi, h⟩ := h
  refine w_iast (q := 46) hm28 ⟨⟨_, _, rfl⟩, rfl⟩ rfl hi rfl rfl ?_
  refine w_aload_n (q := 47) hm28 ⟨⟨_, _, rfl⟩, rfl⟩ rfl ?_
  refine w_getr (q := 50) hm28 ⟨⟨_, _, rfl⟩, rfl⟩ rfl ?_
  refine w_iload_n (q := 51) hm28 ⟨⟨_, _, rfl⟩, rfl⟩ rfl ?_
  refine w_aload_n (q := 52) hm28 ⟨⟨_, _, rfl⟩, rfl⟩ rfl ?_
  refine w_iconst (q := 53) hm28 ⟨⟨_, _, rfl⟩, rfl⟩ iconst_0 ?_
  refine w_bipush (q := 55) hm28 ⟨⟨_, _, rfl⟩, rfl⟩ bipush_23 ?_
  refine w_call (q := 58) (n := 1) (vs := [.inr (.inr (some 70)), .inl (0 : Int32), .inl (23 : Int32)]) (rest := [.inl (((8 : Int32) * (m.1 70 19)) + (m.1 86 (m.1 70 19).toNatClampNeg)), .inr (.inr (some 89))]) (la := [oR 70, oI (0 : Int32), oI (23 : Int32), none]) hm28 ⟨⟨_, _, rfl⟩, rfl⟩ rfl rfl rfl rfl hm25 rfl rfl (fun _ => ⟨_, _, rfl, rfl⟩) rfl (Wp.mono h ?_)
  rintro _ m4 ⟨r4, rfl, h⟩
  change Wp _ _ 58 _ [.inl r4, .inl (((8 : Int32) * (m.1 70 19)) + (m.1 86 (m.1 70 19).toNatClampNeg)), .inr (.inr (some 89))] _ _
  obtain ⟨hi, h⟩ := h
  refine w_iast (q := 59) hm28 ⟨⟨_, _, rfl⟩, rfl⟩ rfl hi rfl rfl ?_
  refine w_aload_n (q := 60) hm28 ⟨⟨_, _, rfl⟩, rfl⟩ rfl ?_
  refine w_getr (q := 63) hm28 ⟨⟨_, _, rfl⟩, rfl⟩ rfl ?_
  refine w_iload_n (q := 64) hm28 ⟨⟨_, _, rfl⟩, rfl⟩ rfl ?_
  refine w_aload_n (q := 65) hm28 ⟨⟨_, _, rfl⟩, rfl⟩ rfl ?_
  refine w_aload_n (q := 66) hm28 ⟨⟨_, _, rfl⟩, rfl⟩ rfl ?_
  refine w_getr (q := 69) hm28 ⟨⟨_, _, rfl⟩, rfl⟩ rfl ?_
  refine w_iload_n (q := 70) hm28 ⟨⟨_, _, rfl⟩, rfl⟩ rfl ?_
  obtain ⟨hi, h⟩ := h
  refine w_iald (q := 71) (v := r4) hm28 ⟨⟨_, _, rfl⟩, rfl⟩ rfl hi rfl (dSet_s m4 89 (((8 : Int32) * (m.1 70 19)) + (m.1 86 (m.1 70 19).toNatClampNeg)).toNatClampNeg r4) ?_
  refine w_bipush (q := 73) hm28 ⟨⟨_, _, rfl⟩, rfl⟩ bipush_23 ?_
  refine w_icmp_le (q := 76) (X := r4.toInt) (Y := 23) hm28 ⟨⟨_, _, rfl⟩, rfl⟩ rfl (by decide) (fun hc => ?_) (fun hc => ?_)
  · have h := h.1 hc
    refine w_aload_n (q := 81) hm28 ⟨⟨_, _, rfl⟩, rfl⟩ rfl ?_
    refine w_getr (q := 84) hm28 ⟨⟨_, _, rfl⟩, rfl⟩ rfl ?_
    refine w_iload_n (q := 85) hm28 ⟨⟨_, _, rfl⟩, rfl⟩ rfl ?_
    obtain ⟨hi, h⟩ := h
    refine w_iald (q := 86) (v := r4) hm28 ⟨⟨_, _, rfl⟩, rfl⟩ rfl hi rfl (dSet_s m4 89 (((8 : Int32) * (m.1 70 19)) + (m.1 86 (m.1 70 19).toNatClampNeg)).toNatClampNeg r4) ?_
    refine w_bipush (q := 88) hm28 ⟨⟨_, _, rfl⟩, rfl⟩ bipush_23 ?_
    refine w_call (q := 91) (n := 1) (vs := [.inr (.inr (some 70)), .inl r4, .inl (23 : Int32)]) (rest := [.inl (((8 : Int32) * (m.1 70 19)) + (m.1 86 (m.1 70 19).toNatClampNeg)), .inr (.inr (some 90))]) (la := [oR 70, oI r4, oI (23 : Int32), none]) hm28 ⟨⟨_, _, rfl⟩, rfl⟩ rfl rfl rfl rfl hm25 rfl rfl (fun _ => ⟨_, _, rfl, rfl⟩) rfl (Wp.mono h ?_)
    rintro _ m5 ⟨r5, rfl, h⟩
    change Wp _ _ 91 _ [.inl r5, .inl (((8 : Int32) * (m.1 70 19)) + (m.1 86 (m.1 70 19).toNatClampNeg)), .inr (.inr (some 90))] _ _
    obtain ⟨hi, h⟩ := h
    refine w_iast (q := 92) hm28 ⟨⟨_, _, rfl⟩, rfl⟩ rfl hi rfl rfl ?_
    refine w_aload_n (q := 93) hm28 ⟨⟨_, _, rfl⟩, rfl⟩ rfl ?_
    refine w_iload_n (q := 94) hm28 ⟨⟨_, _, rfl⟩, rfl⟩ rfl ?_
    refine w_iconst (q := 95) hm28 ⟨⟨_, _, rfl⟩, rfl⟩ iconst_m1 ?_
    refine w_call (q := 98) (n := 0) (vs := [.inr (.inr (some 70)), .inl r1, .inl (-1 : Int32)]) (rest := []) (la := [oR 70, oI r1, oI (-1 : Int32)]) hm28 ⟨⟨_, _, rfl⟩, rfl⟩ rfl rfl rfl rfl hm23 rfl rfl (fun _ => ⟨_, _, rfl, rfl⟩) rfl (Wp.mono h ?_)
    rintro _ m6 ⟨rfl, h⟩
    change Wp _ _ 98 _ [] _ _
    refine w_aload_n (q := 99) hm28 ⟨⟨_, _, rfl⟩, rfl⟩ rfl ?_
    refine w_getf (q := 102) (v := (m6.1 70 13)) hm28 ⟨⟨_, _, rfl⟩, rfl⟩ rfl rfl ?_
    refine w_if_ne (q := 105) (X := (m6.1 70 13).toInt) hm28 ⟨⟨_, _, rfl⟩, rfl⟩ rfl (fun hc => ?_) (fun hc => ?_)
    · have h := h.1 hc
      exact Wp.wk [false, false, false] h
    · have h := h.2 hc
      refine w_aload_n (q := 106) hm28 ⟨⟨_, _, rfl⟩, rfl⟩ rfl ?_
      refine w_getr (q := 109) hm28 ⟨⟨_, _, rfl⟩, rfl⟩ rfl ?_
      refine w_aload_n (q := 110) hm28 ⟨⟨_, _, rfl⟩, rfl⟩ rfl ?_
      refine w_getf (q := 113) (v := (m6.1 70 19)) hm28 ⟨⟨_, _, rfl⟩, rfl⟩ rfl rfl ?_
      refine w_dup2 (q := 114) hm28 ⟨⟨_, _, rfl⟩, rfl⟩ rfl ?_
      obtain ⟨hi, h⟩ := h
      refine w_iald (q := 115) (v := (m6.1 86 (m6.1 70 19).toNatClampNeg)) hm28 ⟨⟨_, _, rfl⟩, rfl⟩ rfl hi rfl rfl ?_
      refine w_iconst (q := 116) hm28 ⟨⟨_, _, rfl⟩, rfl⟩ iconst_1 ?_
      refine w_iadd (q := 117) hm28 ⟨⟨_, _, rfl⟩, rfl⟩ ?_
      obtain ⟨hi, h⟩ := h
      refine w_iast (q := 118) hm28 ⟨⟨_, _, rfl⟩, rfl⟩ rfl hi rfl rfl ?_
      exact Wp.wk [false, false, false] h
  · have h := h.2 hc
    refine w_iconst (q := 77) hm28 ⟨⟨_, _, rfl⟩, rfl⟩ iconst_0 ?_
    refine w_goto (q := 86) hm28 ⟨_, _, rfl⟩ ?_
    refine w_bipush (q := 88) hm28 ⟨⟨_, _, rfl⟩, rfl⟩ bipush_23 ?_
    refine w_call (q := 91) (n := 1) (vs := [.inr (.inr (some 70)), .inl (0 : Int32), .inl (23 : Int32)]) (rest := [.inl (((8 : Int32) * (m.1 70 19)) + (m.1 86 (m.1 70 19).toNatClampNeg)), .inr (.inr (some 90))]) (la := [oR 70, oI (0 : Int32), oI (23 : Int32), none]) hm28 ⟨⟨_, _, rfl⟩, rfl⟩ rfl rfl rfl rfl hm25 rfl rfl (fun _ => ⟨_, _, rfl, rfl⟩) rfl (Wp.mono h ?_)
    rintro _ m7 ⟨r7, rfl, h⟩
    change Wp _ _ 91 _ [.inl r7, .inl (((8 : Int32) * (m.1 70 19)) + (m.1 86 (m.1 70 19).toNatClampNeg)), .inr (.inr (some 90))] _ _
    obtain ⟨hi, h⟩ := h
    refine w_iast (q := 92) hm28 ⟨⟨_, _, rfl⟩, rfl⟩ rfl hi rfl rfl ?_
    refine w_aload_n (q := 93) hm28 ⟨⟨_, _, rfl⟩, rfl⟩ rfl ?_
    refine w_iload_n (q := 94) hm28 ⟨⟨_, _, rfl⟩, rfl⟩ rfl ?_
    refine w_iconst (q := 95) hm28 ⟨⟨_, _, rfl⟩, rfl⟩ iconst_m1 ?_
    refine w_call (q := 98) (n := 0) (vs := [.inr (.inr (some 70)), .inl r1, .inl (-1 : Int32)]) (rest := []) (la := [oR 70, oI r1, oI (-1 : Int32)]) hm28 ⟨⟨_, _, rfl⟩, rfl⟩ rfl rfl rfl rfl hm23 rfl rfl (fun _ => ⟨_, _, rfl, rfl⟩) rfl (Wp.mono h ?_)
    rintro _ m8 ⟨rfl, h⟩
    change Wp _ _ 98 _ [] _ _
    refine w_aload_n (q := 99) hm28 ⟨⟨_, _, rfl⟩, rfl⟩ rfl ?_
    refine w_getf (q := 102) (v := (m8.1 70 13)) hm28 ⟨⟨_, _, rfl⟩, rfl⟩ rfl rfl ?_
    refine w_if_ne (q := 105) (X := (m8.1 70 13).toInt) hm28 ⟨⟨_, _, rfl⟩, rfl⟩ rfl (fun hc => ?_) (fun hc => ?_)
    · have h := h.1 hc
      exact Wp.wk [false, false, false] h
    · have h := h.2 hc
      refine w_aload_n (q := 106) hm28 ⟨⟨_, _, rfl⟩, rfl⟩ rfl ?_
      refine w_getr (q := 109) hm28 ⟨⟨_, _, rfl⟩, rfl⟩ rfl ?_
      refine w_aload_n (q := 110) hm28 ⟨⟨_, _, rfl⟩, rfl⟩ rfl ?_
      refine w_getf (q := 113) (v := (m8.1 70 19)) hm28 ⟨⟨_, _, rfl⟩, rfl⟩ rfl rfl ?_
      refine w_dup2 (q := 114) hm28 ⟨⟨_, _, rfl⟩, rfl⟩ rfl ?_
      obtain ⟨hi, h⟩ := h
      refine w_iald (q := 115) (v := (m8.1 86 (m8.1 70 19).toNatClampNeg)) hm28 ⟨⟨_, _, rfl⟩, rfl⟩ rfl hi rfl rfl ?_
      refine w_iconst (q := 116) hm28 ⟨⟨_, _, rfl⟩, rfl⟩ iconst_1 ?_
      refine w_iadd (q := 117) hm28 ⟨⟨_, _, rfl⟩, rfl⟩ ?_
      obtain ⟨hi, h⟩ := h
      refine w_iast (q := 118) hm28 ⟨⟨_, _, rfl⟩, rfl⟩ rfl hi rfl rfl ?_
      exact Wp.wk [false, false, false] h
theorem v_X12_tellUse_70_118 {d : Nat} {m : dM} {Q : dM → Prop} (h : Q m) : j_X12_tellUse_70_118 (d + 1) m Q := by
  exact w_retv hm28 ⟨⟨_, _, rfl⟩, rfl⟩ rfl h
theorem v_X12_emit_70 {d : Nat} {x1 : Int32} {x2 : Int32} {m : dM} {Q : dM → Prop} (h : ((0 ≤ (m.1 70 46).toInt ∧ (m.1 70 46).toInt < 840) ∧ ((0 ≤ (m.1 70 46).toInt ∧ (m.1 70 46).toInt < 840) ∧ Q (dSet (dSet (dSet m 102 (m.1 70 46).toNatClampNeg x1) 103 (m.1 70 46).toNatClampNeg x2) 70 46 ((m.1 70 46) + (1 : Int32)))))) : c_X12_emit_70 (d + 1) x1 x2 m Q := by
  refine w_aload_n (q := 1) hm31 ⟨⟨_, _, rfl⟩, rfl⟩ rfl ?_
  refine w_getr (q := 4) hm31 ⟨⟨_, _, rfl⟩, rfl⟩ rfl ?_
  refine w_aload_n (q := 5) hm31 ⟨⟨_, _, rfl⟩, rfl⟩ rfl ?_
  refine w_getf (q := 8) (v := (m.1 70 46)) hm31 ⟨⟨_, _, rfl⟩, rfl⟩ rfl rfl ?_
  refine w_iload_n (q := 9) hm31 ⟨⟨_, _, rfl⟩, rfl⟩ rfl ?_
  obtain ⟨hi, h⟩ := h
  refine w_iast (q := 10) hm31 ⟨⟨_, _, rfl⟩, rfl⟩ rfl hi rfl rfl ?_
  refine w_aload_n (q := 11) hm31 ⟨⟨_, _, rfl⟩, rfl⟩ rfl ?_
  refine w_getr (q := 14) hm31 ⟨⟨_, _, rfl⟩, rfl⟩ rfl ?_
  refine w_aload_n (q := 15) hm31 ⟨⟨_, _, rfl⟩, rfl⟩ rfl ?_
  refine w_getf (q := 18) (v := (m.1 70 46)) hm31 ⟨⟨_, _, rfl⟩, rfl⟩ rfl rfl ?_
  refine w_iload_n (q := 19) hm31 ⟨⟨_, _, rfl⟩, rfl⟩ rfl ?_
  obtain ⟨hi, h⟩ := h
  refine w_iast (q := 20) hm31 ⟨⟨_, _, rfl⟩, rfl⟩ rfl hi rfl rfl ?_
  refine w_aload_n (q := 21) hm31 ⟨⟨_, _, rfl⟩, rfl⟩ rfl ?_
  refine w_dup (q := 22) hm31 ⟨⟨_, _, rfl⟩, rfl⟩ rfl ?_
  refine w_getf (q := 25) (v := (m.1 70 46)) hm31 ⟨⟨_, _, rfl⟩, rfl⟩ rfl rfl ?_
  refine w_iconst (q := 26) hm31 ⟨⟨_, _, rfl⟩, rfl⟩ iconst_1 ?_
  refine w_iadd (q := 27) hm31 ⟨⟨_, _, rfl⟩, rfl⟩ ?_
  refine w_putf (q := 30) hm31 ⟨⟨_, _, rfl⟩, rfl⟩ rfl rfl rfl ?_
  exact w_retv hm31 ⟨⟨_, _, rfl⟩, rfl⟩ rfl h
theorem v_X12_unit_70 {d : Nat} {m : dM} {Q : dM → Prop} (h : c_X12_is_70 d (2 : Int32) m (fun r1 m1 => ((r1.toInt = 0 → (((m1.1 70 13).toInt ≠ 0 → j_X12_unit_70_88 (d + 1) m1 Q) ∧ ((m1.1 70 13).toInt = 0 → ((0 ≤ (m1.1 70 11).toInt ∧ (m1.1 70 11).toInt < 403) ∧ (((m1.1 73 (m1.1 70 11).toNatClampNeg).toInt < 33 → j_X12_unit_70_88 (d + 1) m1 Q) ∧ (33 ≤ (m1.1 73 (m1.1 70 11).toNatClampNeg).toInt → ((0 ≤ (m1.1 70 11).toInt ∧ (m1.1 70 11).toInt < 403) ∧ ((41 < (m1.1 73 (m1.1 70 11).toNatClampNeg).toInt → j_X12_unit_70_88 (d + 1) m1 Q) ∧ ((m1.1 73 (m1.1 70 11).toNatClampNeg).toInt ≤ 41 → ((0 ≤ (m1.1 70 11).toInt ∧ (m1.1 70 11).toInt < 403) ∧ c_X12_emit_70 d (1 : Int32) ((m1.1 73 (m1.1 70 11).toNatClampNeg) - (33 : Int32)) m1 (fun m2 => c_X12_goesOn_70 d m2 (fun m3 => j_X12_unit_70_93 (d + 1) m3 Q)))))))))))) ∧ (r1.toInt ≠ 0 → ((0 ≤ (m1.1 70 11).toInt ∧ (m1.1 70 11).toInt < 403) ∧ c_X12_emit_70 d (0 : Int32) (m1.1 75 (m1.1 70 11).toNatClampNeg) m1 (fun m4 => c_X12_goesOn_70 d m4 (fun m5 => j_X12_unit_70_93 (d + 1) m5 Q))))))) : c_X12_unit_70 (d + 1) m Q := by
  refine w_aload_n (q := 1) hm34 ⟨⟨_, _, rfl⟩, rfl⟩ rfl ?_
  refine w_iconst (q := 2) hm34 ⟨⟨_, _, rfl⟩, rfl⟩ iconst_2 ?_
  refine w_call (q := 5) (n := 0) (vs := [.inr (.inr (some 70)), .inl (2 : Int32)]) (rest := []) (la := [oR 70, oI (2 : Int32)]) hm34 ⟨⟨_, _, rfl⟩, rfl⟩ rfl rfl rfl rfl hm12 rfl rfl (fun _ => ⟨_, _, rfl, rfl⟩) rfl (Wp.mono h ?_)
  rintro _ m1 ⟨r1, rfl, h⟩
  change Wp _ _ 5 _ [.inl r1] _ _
  refine w_if_eq (q := 8) (X := r1.toInt) hm34 ⟨⟨_, _, rfl⟩, rfl⟩ rfl (fun hc => ?_) (fun hc => ?_)
  · have h := h.1 hc
    refine w_aload_n (q := 30) hm34 ⟨⟨_, _, rfl⟩, rfl⟩ rfl ?_
    refine w_getf (q := 33) (v := (m1.1 70 13)) hm34 ⟨⟨_, _, rfl⟩, rfl⟩ rfl rfl ?_
    refine w_if_ne (q := 36) (X := (m1.1 70 13).toInt) hm34 ⟨⟨_, _, rfl⟩, rfl⟩ rfl (fun hc => ?_) (fun hc => ?_)
    · have h := h.1 hc
      exact h
    · have h := h.2 hc
      refine w_aload_n (q := 37) hm34 ⟨⟨_, _, rfl⟩, rfl⟩ rfl ?_
      refine w_getr (q := 40) hm34 ⟨⟨_, _, rfl⟩, rfl⟩ rfl ?_
      refine w_aload_n (q := 41) hm34 ⟨⟨_, _, rfl⟩, rfl⟩ rfl ?_
      refine w_getf (q := 44) (v := (m1.1 70 11)) hm34 ⟨⟨_, _, rfl⟩, rfl⟩ rfl rfl ?_
      obtain ⟨hi, h⟩ := h
      refine w_iald (q := 45) (v := (m1.1 73 (m1.1 70 11).toNatClampNeg)) hm34 ⟨⟨_, _, rfl⟩, rfl⟩ rfl hi rfl rfl ?_
      refine w_bipush (q := 47) hm34 ⟨⟨_, _, rfl⟩, rfl⟩ bipush_33 ?_
      refine w_icmp_lt (q := 50) (X := (m1.1 73 (m1.1 70 11).toNatClampNeg).toInt) (Y := 33) hm34 ⟨⟨_, _, rfl⟩, rfl⟩ rfl (by decide) (fun hc => ?_) (fun hc => ?_)
      · have h := h.1 hc
        exact h
      · have h := h.2 hc
        refine w_aload_n (q := 51) hm34 ⟨⟨_, _, rfl⟩, rfl⟩ rfl ?_
        refine w_getr (q := 54) hm34 ⟨⟨_, _, rfl⟩, rfl⟩ rfl ?_
        refine w_aload_n (q := 55) hm34 ⟨⟨_, _, rfl⟩, rfl⟩ rfl ?_
        refine w_getf (q := 58) (v := (m1.1 70 11)) hm34 ⟨⟨_, _, rfl⟩, rfl⟩ rfl rfl ?_
        obtain ⟨hi, h⟩ := h
        refine w_iald (q := 59) (v := (m1.1 73 (m1.1 70 11).toNatClampNeg)) hm34 ⟨⟨_, _, rfl⟩, rfl⟩ rfl hi rfl rfl ?_
        refine w_bipush (q := 61) hm34 ⟨⟨_, _, rfl⟩, rfl⟩ bipush_41 ?_
        refine w_icmp_gt (q := 64) (X := (m1.1 73 (m1.1 70 11).toNatClampNeg).toInt) (Y := 41) hm34 ⟨⟨_, _, rfl⟩, rfl⟩ rfl (by decide) (fun hc => ?_) (fun hc => ?_)
        · have h := h.1 hc
          exact h
        · have h := h.2 hc
          refine w_aload_n (q := 65) hm34 ⟨⟨_, _, rfl⟩, rfl⟩ rfl ?_
          refine w_iconst (q := 66) hm34 ⟨⟨_, _, rfl⟩, rfl⟩ iconst_1 ?_
          refine w_aload_n (q := 67) hm34 ⟨⟨_, _, rfl⟩, rfl⟩ rfl ?_
          refine w_getr (q := 70) hm34 ⟨⟨_, _, rfl⟩, rfl⟩ rfl ?_
          refine w_aload_n (q := 71) hm34 ⟨⟨_, _, rfl⟩, rfl⟩ rfl ?_
          refine w_getf (q := 74) (v := (m1.1 70 11)) hm34 ⟨⟨_, _, rfl⟩, rfl⟩ rfl rfl ?_
          obtain ⟨hi, h⟩ := h
          refine w_iald (q := 75) (v := (m1.1 73 (m1.1 70 11).toNatClampNeg)) hm34 ⟨⟨_, _, rfl⟩, rfl⟩ rfl hi rfl rfl ?_
          refine w_bipush (q := 77) hm34 ⟨⟨_, _, rfl⟩, rfl⟩ bipush_33 ?_
          refine w_isub (q := 78) hm34 ⟨⟨_, _, rfl⟩, rfl⟩ ?_
          refine w_call (q := 81) (n := 0) (vs := [.inr (.inr (some 70)), .inl (1 : Int32), .inl ((m1.1 73 (m1.1 70 11).toNatClampNeg) - (33 : Int32))]) (rest := []) (la := [oR 70, oI (1 : Int32), oI ((m1.1 73 (m1.1 70 11).toNatClampNeg) - (33 : Int32))]) hm34 ⟨⟨_, _, rfl⟩, rfl⟩ rfl rfl rfl rfl hm31 rfl rfl (fun _ => ⟨_, _, rfl, rfl⟩) rfl (Wp.mono h ?_)
          rintro _ m2 ⟨rfl, h⟩
          change Wp _ _ 81 _ [] _ _
          refine w_aload_n (q := 82) hm34 ⟨⟨_, _, rfl⟩, rfl⟩ rfl ?_
          refine w_call (q := 85) (n := 0) (vs := [.inr (.inr (some 70))]) (rest := []) (la := [oR 70]) hm34 ⟨⟨_, _, rfl⟩, rfl⟩ rfl rfl rfl rfl hm15 rfl rfl (fun _ => ⟨_, _, rfl, rfl⟩) rfl (Wp.mono h ?_)
          rintro _ m3 ⟨rfl, h⟩
          change Wp _ _ 85 _ [] _ _
          refine w_goto (q := 93) hm34 ⟨_, _, rfl⟩ ?_
          exact Wp.wk [false] h
  · have h := h.2 hc
    refine w_aload_n (q := 9) hm34 ⟨⟨_, _, rfl⟩, rfl⟩ rfl ?_
    refine w_iconst (q := 10) hm34 ⟨⟨_, _, rfl⟩, rfl⟩ iconst_0 ?_
    refine w_aload_n (q := 11) hm34 ⟨⟨_, _, rfl⟩, rfl⟩ rfl ?_
    refine w_getr (q := 14) hm34 ⟨⟨_, _, rfl⟩, rfl⟩ rfl ?_
    refine w_aload_n (q := 15) hm34 ⟨⟨_, _, rfl⟩, rfl⟩ rfl ?_
    refine w_getf (q := 18) (v := (m1.1 70 11)) hm34 ⟨⟨_, _, rfl⟩, rfl⟩ rfl rfl ?_
    obtain ⟨hi, h⟩ := h
    refine w_iald (q := 19) (v := (m1.1 75 (m1.1 70 11).toNatClampNeg)) hm34 ⟨⟨_, _, rfl⟩, rfl⟩ rfl hi rfl rfl ?_
    refine w_call (q := 22) (n := 0) (vs := [.inr (.inr (some 70)), .inl (0 : Int32), .inl (m1.1 75 (m1.1 70 11).toNatClampNeg)]) (rest := []) (la := [oR 70, oI (0 : Int32), oI (m1.1 75 (m1.1 70 11).toNatClampNeg)]) hm34 ⟨⟨_, _, rfl⟩, rfl⟩ rfl rfl rfl rfl hm31 rfl rfl (fun _ => ⟨_, _, rfl, rfl⟩) rfl (Wp.mono h ?_)
    rintro _ m4 ⟨rfl, h⟩
    change Wp _ _ 22 _ [] _ _
    refine w_aload_n (q := 23) hm34 ⟨⟨_, _, rfl⟩, rfl⟩ rfl ?_
    refine w_call (q := 26) (n := 0) (vs := [.inr (.inr (some 70))]) (rest := []) (la := [oR 70]) hm34 ⟨⟨_, _, rfl⟩, rfl⟩ rfl rfl rfl rfl hm15 rfl rfl (fun _ => ⟨_, _, rfl, rfl⟩) rfl (Wp.mono h ?_)
    rintro _ m5 ⟨rfl, h⟩
    change Wp _ _ 26 _ [] _ _
    refine w_goto (q := 93) hm34 ⟨_, _, rfl⟩ ?_
    exact Wp.wk [false] h
theorem v_X12_unit_70_88 {d : Nat} {m : dM} {Q : dM → Prop} (h : c_X12_fail_70 d (1 : Int32) m (fun m1 => j_X12_unit_70_93 (d + 1) m1 Q)) : j_X12_unit_70_88 (d + 1) m Q := by
  refine w_aload_n (q := 89) hm34 ⟨⟨_, _, rfl⟩, rfl⟩ rfl ?_
  refine w_iconst (q := 90) hm34 ⟨⟨_, _, rfl⟩, rfl⟩ iconst_1 ?_
  refine w_call (q := 93) (n := 0) (vs := [.inr (.inr (some 70)), .inl (1 : Int32)]) (rest := []) (la := [oR 70, oI (1 : Int32)]) hm34 ⟨⟨_, _, rfl⟩, rfl⟩ rfl rfl rfl rfl hm13 rfl rfl (fun _ => ⟨_, _, rfl, rfl⟩) rfl (Wp.mono h ?_)
  rintro _ m1 ⟨rfl, h⟩
  change Wp _ _ 93 _ [] _ _
  exact Wp.wk [false] h
theorem v_X12_unit_70_93 {d : Nat} {m : dM} {Q : dM → Prop} (h : Q m) : j_X12_unit_70_93 (d + 1) m Q := by
  exact w_retv hm34 ⟨⟨_, _, rfl⟩, rfl⟩ rfl h
theorem v_X12_comesOut_70 {d : Nat} {x1 : Int32} {m : dM} {Q : dM → Prop} (h : (((m.1 70 50).toInt ≤ 0 → Q m) ∧ (0 < (m.1 70 50).toInt → ((0 ≤ ((m.1 70 50) - (1 : Int32)).toInt ∧ ((m.1 70 50) - (1 : Int32)).toInt < 64) ∧ (((m.1 104 ((m.1 70 50) - (1 : Int32)).toNatClampNeg).toInt = 6 → j_X12_comesOut_70_41 (d + 1) m Q) ∧ ((m.1 104 ((m.1 70 50) - (1 : Int32)).toNatClampNeg).toInt ≠ 6 → ((x1.toInt = 0 → j_X12_comesOut_70_42 (d + 1) x1 (m.1 104 ((m.1 70 50) - (1 : Int32)).toNatClampNeg) m Q) ∧ (x1.toInt ≠ 0 → (((m.1 104 ((m.1 70 50) - (1 : Int32)).toNatClampNeg).toInt = 8 → j_X12_comesOut_70_41 (d + 1) m Q) ∧ ((m.1 104 ((m.1 70 50) - (1 : Int32)).toNatClampNeg).toInt ≠ 8 → (((m.1 104 ((m.1 70 50) - (1 : Int32)).toNatClampNeg).toInt ≠ 9 → j_X12_comesOut_70_42 (d + 1) x1 (m.1 104 ((m.1 70 50) - (1 : Int32)).toNatClampNeg) m Q) ∧ ((m.1 104 ((m.1 70 50) - (1 : Int32)).toNatClampNeg).toInt = 9 → j_X12_comesOut_70_41 (d + 1) m Q)))))))))))) : c_X12_comesOut_70 (d + 1) x1 m Q := by
  refine w_aload_n (q := 1) hm32 ⟨⟨_, _, rfl⟩, rfl⟩ rfl ?_
  refine w_getf (q := 4) (v := (m.1 70 50)) hm32 ⟨⟨_, _, rfl⟩, rfl⟩ rfl rfl ?_
  refine w_if_le (q := 7) (X := (m.1 70 50).toInt) hm32 ⟨⟨_, _, rfl⟩, rfl⟩ rfl (fun hc => ?_) (fun hc => ?_)
  · have h := h.1 hc
    exact w_retv hm32 ⟨⟨_, _, rfl⟩, rfl⟩ rfl h
  · have h := h.2 hc
    refine w_aload_n (q := 8) hm32 ⟨⟨_, _, rfl⟩, rfl⟩ rfl ?_
    refine w_getr (q := 11) hm32 ⟨⟨_, _, rfl⟩, rfl⟩ rfl ?_
    refine w_aload_n (q := 12) hm32 ⟨⟨_, _, rfl⟩, rfl⟩ rfl ?_
    refine w_getf (q := 15) (v := (m.1 70 50)) hm32 ⟨⟨_, _, rfl⟩, rfl⟩ rfl rfl ?_
    refine w_iconst (q := 16) hm32 ⟨⟨_, _, rfl⟩, rfl⟩ iconst_1 ?_
    refine w_isub (q := 17) hm32 ⟨⟨_, _, rfl⟩, rfl⟩ ?_
    obtain ⟨hi, h⟩ := h
    refine w_iald (q := 18) (v := (m.1 104 ((m.1 70 50) - (1 : Int32)).toNatClampNeg)) hm32 ⟨⟨_, _, rfl⟩, rfl⟩ rfl hi rfl rfl ?_
    refine w_istore_n (q := 19) (l' := [oR 70, oI x1, oI (m.1 104 ((m.1 70 50) - (1 : Int32)).toNatClampNeg)]) hm32 ⟨⟨_, _, rfl⟩, rfl⟩ rfl rfl rfl ?_
    refine w_iload_n (q := 20) hm32 ⟨⟨_, _, rfl⟩, rfl⟩ rfl ?_
    refine w_bipush (q := 22) hm32 ⟨⟨_, _, rfl⟩, rfl⟩ bipush_6 ?_
    refine w_icmp_eq (q := 25) (X := (m.1 104 ((m.1 70 50) - (1 : Int32)).toNatClampNeg).toInt) (Y := 6) hm32 ⟨⟨_, _, rfl⟩, rfl⟩ rfl (by decide) (fun hc => ?_) (fun hc => ?_)
    · have h := h.1 hc
      exact Wp.wk [false, false, false] h
    · have h := h.2 hc
      refine w_iload_n (q := 26) hm32 ⟨⟨_, _, rfl⟩, rfl⟩ rfl ?_
      refine w_if_eq (q := 29) (X := x1.toInt) hm32 ⟨⟨_, _, rfl⟩, rfl⟩ rfl (fun hc => ?_) (fun hc => ?_)
      · have h := h.1 hc
        exact h
      · have h := h.2 hc
        refine w_iload_n (q := 30) hm32 ⟨⟨_, _, rfl⟩, rfl⟩ rfl ?_
        refine w_bipush (q := 32) hm32 ⟨⟨_, _, rfl⟩, rfl⟩ bipush_8 ?_
        refine w_icmp_eq (q := 35) (X := (m.1 104 ((m.1 70 50) - (1 : Int32)).toNatClampNeg).toInt) (Y := 8) hm32 ⟨⟨_, _, rfl⟩, rfl⟩ rfl (by decide) (fun hc => ?_) (fun hc => ?_)
        · have h := h.1 hc
          exact Wp.wk [false, false, false] h
        · have h := h.2 hc
          refine w_iload_n (q := 36) hm32 ⟨⟨_, _, rfl⟩, rfl⟩ rfl ?_
          refine w_bipush (q := 38) hm32 ⟨⟨_, _, rfl⟩, rfl⟩ bipush_9 ?_
          refine w_icmp_ne (q := 41) (X := (m.1 104 ((m.1 70 50) - (1 : Int32)).toNatClampNeg).toInt) (Y := 9) hm32 ⟨⟨_, _, rfl⟩, rfl⟩ rfl (by decide) (fun hc => ?_) (fun hc => ?_)
          · have h := h.1 hc
            exact h
          · have h := h.2 hc
            exact Wp.wk [false, false, false] h
theorem v_X12_comesOut_70_0 {d : Nat} {x1 : Int32} {m : dM} {Q : dM → Prop} (h : (((m.1 70 50).toInt ≤ 0 → Q m) ∧ (0 < (m.1 70 50).toInt → ((0 ≤ ((m.1 70 50) - (1 : Int32)).toInt ∧ ((m.1 70 50) - (1 : Int32)).toInt < 64) ∧ (((m.1 104 ((m.1 70 50) - (1 : Int32)).toNatClampNeg).toInt = 6 → j_X12_comesOut_70_41 (d + 1) m Q) ∧ ((m.1 104 ((m.1 70 50) - (1 : Int32)).toNatClampNeg).toInt ≠ 6 → ((x1.toInt = 0 → j_X12_comesOut_70_42 (d + 1) x1 (m.1 104 ((m.1 70 50) - (1 : Int32)).toNatClampNeg) m Q) ∧ (x1.toInt ≠ 0 → (((m.1 104 ((m.1 70 50) - (1 : Int32)).toNatClampNeg).toInt = 8 → j_X12_comesOut_70_41 (d + 1) m Q) ∧ ((m.1 104 ((m.1 70 50) - (1 : Int32)).toNatClampNeg).toInt ≠ 8 → (((m.1 104 ((m.1 70 50) - (1 : Int32)).toNatClampNeg).toInt ≠ 9 → j_X12_comesOut_70_42 (d + 1) x1 (m.1 104 ((m.1 70 50) - (1 : Int32)).toNatClampNeg) m Q) ∧ ((m.1 104 ((m.1 70 50) - (1 : Int32)).toNatClampNeg).toInt = 9 → j_X12_comesOut_70_41 (d + 1) m Q)))))))))))) : j_X12_comesOut_70_0 (d + 1) x1 m Q := by
  refine w_aload_n (q := 1) hm32 ⟨⟨_, _, rfl⟩, rfl⟩ rfl ?_
  refine w_getf (q := 4) (v := (m.1 70 50)) hm32 ⟨⟨_, _, rfl⟩, rfl⟩ rfl rfl ?_
  refine w_if_le (q := 7) (X := (m.1 70 50).toInt) hm32 ⟨⟨_, _, rfl⟩, rfl⟩ rfl (fun hc => ?_) (fun hc => ?_)
  · have h := h.1 hc
    exact w_retv hm32 ⟨⟨_, _, rfl⟩, rfl⟩ rfl h
  · have h := h.2 hc
    refine w_aload_n (q := 8) hm32 ⟨⟨_, _, rfl⟩, rfl⟩ rfl ?_
    refine w_getr (q := 11) hm32 ⟨⟨_, _, rfl⟩, rfl⟩ rfl ?_
    refine w_aload_n (q := 12) hm32 ⟨⟨_, _, rfl⟩, rfl⟩ rfl ?_
    refine w_getf (q := 15) (v := (m.1 70 50)) hm32 ⟨⟨_, _, rfl⟩, rfl⟩ rfl rfl ?_
    refine w_iconst (q := 16) hm32 ⟨⟨_, _, rfl⟩, rfl⟩ iconst_1 ?_
    refine w_isub (q := 17) hm32 ⟨⟨_, _, rfl⟩, rfl⟩ ?_
    obtain ⟨hi, h⟩ := h
    refine w_iald (q := 18) (v := (m.1 104 ((m.1 70 50) - (1 : Int32)).toNatClampNeg)) hm32 ⟨⟨_, _, rfl⟩, rfl⟩ rfl hi rfl rfl ?_
    refine w_istore_n (q := 19) (l' := [oR 70, oI x1, oI (m.1 104 ((m.1 70 50) - (1 : Int32)).toNatClampNeg)]) hm32 ⟨⟨_, _, rfl⟩, rfl⟩ rfl rfl rfl ?_
    refine w_iload_n (q := 20) hm32 ⟨⟨_, _, rfl⟩, rfl⟩ rfl ?_
    refine w_bipush (q := 22) hm32 ⟨⟨_, _, rfl⟩, rfl⟩ bipush_6 ?_
    refine w_icmp_eq (q := 25) (X := (m.1 104 ((m.1 70 50) - (1 : Int32)).toNatClampNeg).toInt) (Y := 6) hm32 ⟨⟨_, _, rfl⟩, rfl⟩ rfl (by decide) (fun hc => ?_) (fun hc => ?_)
    · have h := h.1 hc
      exact Wp.wk [false, false, false] h
    · have h := h.2 hc
      refine w_iload_n (q := 26) hm32 ⟨⟨_, _, rfl⟩, rfl⟩ rfl ?_
      refine w_if_eq (q := 29) (X := x1.toInt) hm32 ⟨⟨_, _, rfl⟩, rfl⟩ rfl (fun hc => ?_) (fun hc => ?_)
      · have h := h.1 hc
        exact h
      · have h := h.2 hc
        refine w_iload_n (q := 30) hm32 ⟨⟨_, _, rfl⟩, rfl⟩ rfl ?_
        refine w_bipush (q := 32) hm32 ⟨⟨_, _, rfl⟩, rfl⟩ bipush_8 ?_
        refine w_icmp_eq (q := 35) (X := (m.1 104 ((m.1 70 50) - (1 : Int32)).toNatClampNeg).toInt) (Y := 8) hm32 ⟨⟨_, _, rfl⟩, rfl⟩ rfl (by decide) (fun hc => ?_) (fun hc => ?_)
        · have h := h.1 hc
          exact Wp.wk [false, false, false] h
        · have h := h.2 hc
          refine w_iload_n (q := 36) hm32 ⟨⟨_, _, rfl⟩, rfl⟩ rfl ?_
          refine w_bipush (q := 38) hm32 ⟨⟨_, _, rfl⟩, rfl⟩ bipush_9 ?_
          refine w_icmp_ne (q := 41) (X := (m.1 104 ((m.1 70 50) - (1 : Int32)).toNatClampNeg).toInt) (Y := 9) hm32 ⟨⟨_, _, rfl⟩, rfl⟩ rfl (by decide) (fun hc => ?_) (fun hc => ?_)
          · have h := h.1 hc
            exact h
          · have h := h.2 hc
            exact Wp.wk [false, false, false] h
theorem v_X12_comesOut_70_41 {d : Nat} {m : dM} {Q : dM → Prop} (h : Q m) : j_X12_comesOut_70_41 (d + 1) m Q := by
  exact w_retv hm32 ⟨⟨_, _, rfl⟩, rfl⟩ rfl h
theorem v_X12_comesOut_70_42 {d : Nat} {x1 : Int32} {x2 : Int32} {m : dM} {Q : dM → Prop} (h : ((x2.toInt ≠ 8 → ((x2.toInt ≠ 9 → ((x2.toInt ≠ 10 → c_X12_emit_70 d (5 : Int32) (0 : Int32) (dSet m 70 50 ((m.1 70 50) - (1 : Int32))) (fun m1 => j_X12_comesOut_70_0 (d + 1) x1 m1 Q)) ∧ (x2.toInt = 10 → c_X12_emit_70 d (4 : Int32) (0 : Int32) (dSet m 70 50 ((m.1 70 50) - (1 : Int32))) (fun m2 => j_X12_comesOut_70_0 (d + 1) x1 m2 Q)))) ∧ (x2.toInt = 9 → c_X12_emit_70 d (3 : Int32) (0 : Int32) (dSet m 70 50 ((m.1 70 50) - (1 : Int32))) (fun m3 => j_X12_comesOut_70_0 (d + 1) x1 m3 Q)))) ∧ (x2.toInt = 8 → c_X12_emit_70 d (2 : Int32) (0 : Int32) (dSet m 70 50 ((m.1 70 50) - (1 : Int32))) (fun m4 => j_X12_comesOut_70_0 (d + 1) x1 m4 Q)))) : j_X12_comesOut_70_42 (d + 1) x1 x2 m Q := by
  refine w_aload_n (q := 43) hm32 ⟨⟨_, _, rfl⟩, rfl⟩ rfl ?_
  refine w_dup (q := 44) hm32 ⟨⟨_, _, rfl⟩, rfl⟩ rfl ?_
  refine w_getf (q := 47) (v := (m.1 70 50)) hm32 ⟨⟨_, _, rfl⟩, rfl⟩ rfl rfl ?_
  refine w_iconst (q := 48) hm32 ⟨⟨_, _, rfl⟩, rfl⟩ iconst_1 ?_
  refine w_isub (q := 49) hm32 ⟨⟨_, _, rfl⟩, rfl⟩ ?_
  refine w_putf (q := 52) hm32 ⟨⟨_, _, rfl⟩, rfl⟩ rfl rfl rfl ?_
  refine w_aload_n (q := 53) hm32 ⟨⟨_, _, rfl⟩, rfl⟩ rfl ?_
  refine w_iload_n (q := 54) hm32 ⟨⟨_, _, rfl⟩, rfl⟩ rfl ?_
  refine w_bipush (q := 56) hm32 ⟨⟨_, _, rfl⟩, rfl⟩ bipush_8 ?_
  refine w_icmp_ne (q := 59) (X := x2.toInt) (Y := 8) hm32 ⟨⟨_, _, rfl⟩, rfl⟩ rfl (by decide) (fun hc => ?_) (fun hc => ?_)
  · have h := h.1 hc
    refine w_iload_n (q := 64) hm32 ⟨⟨_, _, rfl⟩, rfl⟩ rfl ?_
    refine w_bipush (q := 66) hm32 ⟨⟨_, _, rfl⟩, rfl⟩ bipush_9 ?_
    refine w_icmp_ne (q := 69) (X := x2.toInt) (Y := 9) hm32 ⟨⟨_, _, rfl⟩, rfl⟩ rfl (by decide) (fun hc => ?_) (fun hc => ?_)
    · have h := h.1 hc
      refine w_iload_n (q := 74) hm32 ⟨⟨_, _, rfl⟩, rfl⟩ rfl ?_
      refine w_bipush (q := 76) hm32 ⟨⟨_, _, rfl⟩, rfl⟩ bipush_10 ?_
      refine w_icmp_ne (q := 79) (X := x2.toInt) (Y := 10) hm32 ⟨⟨_, _, rfl⟩, rfl⟩ rfl (by decide) (fun hc => ?_) (fun hc => ?_)
      · have h := h.1 hc
        refine w_iconst (q := 84) hm32 ⟨⟨_, _, rfl⟩, rfl⟩ iconst_5 ?_
        refine w_iconst (q := 85) hm32 ⟨⟨_, _, rfl⟩, rfl⟩ iconst_0 ?_
        refine w_call (q := 88) (n := 0) (vs := [.inr (.inr (some 70)), .inl (5 : Int32), .inl (0 : Int32)]) (rest := []) (la := [oR 70, oI (5 : Int32), oI (0 : Int32)]) hm32 ⟨⟨_, _, rfl⟩, rfl⟩ rfl rfl rfl rfl hm31 rfl rfl (fun _ => ⟨_, _, rfl, rfl⟩) rfl (Wp.mono h ?_)
        rintro _ m1 ⟨rfl, h⟩
        change Wp _ _ 88 _ [] _ _
        refine w_goto (q := 0) hm32 ⟨_, _, rfl⟩ ?_
        exact Wp.wk [true, true, false] h
      · have h := h.2 hc
        refine w_iconst (q := 80) hm32 ⟨⟨_, _, rfl⟩, rfl⟩ iconst_4 ?_
        refine w_goto (q := 84) hm32 ⟨_, _, rfl⟩ ?_
        refine w_iconst (q := 85) hm32 ⟨⟨_, _, rfl⟩, rfl⟩ iconst_0 ?_
        refine w_call (q := 88) (n := 0) (vs := [.inr (.inr (some 70)), .inl (4 : Int32), .inl (0 : Int32)]) (rest := []) (la := [oR 70, oI (4 : Int32), oI (0 : Int32)]) hm32 ⟨⟨_, _, rfl⟩, rfl⟩ rfl rfl rfl rfl hm31 rfl rfl (fun _ => ⟨_, _, rfl, rfl⟩) rfl (Wp.mono h ?_)
        rintro _ m2 ⟨rfl, h⟩
        change Wp _ _ 88 _ [] _ _
        refine w_goto (q := 0) hm32 ⟨_, _, rfl⟩ ?_
        exact Wp.wk [true, true, false] h
    · have h := h.2 hc
      refine w_iconst (q := 70) hm32 ⟨⟨_, _, rfl⟩, rfl⟩ iconst_3 ?_
      refine w_goto (q := 84) hm32 ⟨_, _, rfl⟩ ?_
      refine w_iconst (q := 85) hm32 ⟨⟨_, _, rfl⟩, rfl⟩ iconst_0 ?_
      refine w_call (q := 88) (n := 0) (vs := [.inr (.inr (some 70)), .inl (3 : Int32), .inl (0 : Int32)]) (rest := []) (la := [oR 70, oI (3 : Int32), oI (0 : Int32)]) hm32 ⟨⟨_, _, rfl⟩, rfl⟩ rfl rfl rfl rfl hm31 rfl rfl (fun _ => ⟨_, _, rfl, rfl⟩) rfl (Wp.mono h ?_)
      rintro _ m3 ⟨rfl, h⟩
      change Wp _ _ 88 _ [] _ _
      refine w_goto (q := 0) hm32 ⟨_, _, rfl⟩ ?_
      exact Wp.wk [true, true, false] h
  · have h := h.2 hc
    refine w_iconst (q := 60) hm32 ⟨⟨_, _, rfl⟩, rfl⟩ iconst_2 ?_
    refine w_goto (q := 84) hm32 ⟨_, _, rfl⟩ ?_
    refine w_iconst (q := 85) hm32 ⟨⟨_, _, rfl⟩, rfl⟩ iconst_0 ?_
    refine w_call (q := 88) (n := 0) (vs := [.inr (.inr (some 70)), .inl (2 : Int32), .inl (0 : Int32)]) (rest := []) (la := [oR 70, oI (2 : Int32), oI (0 : Int32)]) hm32 ⟨⟨_, _, rfl⟩, rfl⟩ rfl rfl rfl rfl hm31 rfl rfl (fun _ => ⟨_, _, rfl, rfl⟩) rfl (Wp.mono h ?_)
    rintro _ m4 ⟨rfl, h⟩
    change Wp _ _ 88 _ [] _ _
    refine w_goto (q := 0) hm32 ⟨_, _, rfl⟩ ?_
    exact Wp.wk [true, true, false] h
theorem v_X12_expression_70 {d : Nat} {m : dM} {Q : dM → Prop} (h : j_X12_expression_70_12 (d + 1) (m.1 70 12) (1 : Int32) (dSet m 70 50 (0 : Int32)) Q) : c_X12_expression_70 (d + 1) m Q := by
  refine w_aload_n (q := 1) hm33 ⟨⟨_, _, rfl⟩, rfl⟩ rfl ?_
  refine w_iconst (q := 2) hm33 ⟨⟨_, _, rfl⟩, rfl⟩ iconst_0 ?_
  refine w_putf (q := 5) hm33 ⟨⟨_, _, rfl⟩, rfl⟩ rfl rfl rfl ?_
  refine w_aload_n (q := 6) hm33 ⟨⟨_, _, rfl⟩, rfl⟩ rfl ?_
  refine w_getf (q := 9) (v := (m.1 70 12)) hm33 ⟨⟨_, _, rfl⟩, rfl⟩ rfl rfl ?_
  refine w_istore_n (q := 10) (l' := [oR 70, oI (m.1 70 12), none]) hm33 ⟨⟨_, _, rfl⟩, rfl⟩ rfl rfl rfl ?_
  refine w_iconst (q := 11) hm33 ⟨⟨_, _, rfl⟩, rfl⟩ iconst_1 ?_
  refine w_istore_n (q := 12) (l' := [oR 70, oI (m.1 70 12), oI (1 : Int32)]) hm33 ⟨⟨_, _, rfl⟩, rfl⟩ rfl rfl rfl ?_
  exact h
theorem v_X12_expression_70_12 {d : Nat} {x1 : Int32} {x2 : Int32} {m : dM} {Q : dM → Prop} (h : ((x2.toInt = 0 → j_X12_expression_70_272 (d + 1) m Q) ∧ (x2.toInt ≠ 0 → (((m.1 70 13).toInt ≠ 0 → j_X12_expression_70_272 (d + 1) m Q) ∧ ((m.1 70 13).toInt = 0 → j_X12_expression_70_23 (d + 1) x1 m Q))))) : j_X12_expression_70_12 (d + 1) x1 x2 m Q := by
  refine w_iload_n (q := 13) hm33 ⟨⟨_, _, rfl⟩, rfl⟩ rfl ?_
  refine w_if_eq (q := 16) (X := x2.toInt) hm33 ⟨⟨_, _, rfl⟩, rfl⟩ rfl (fun hc => ?_) (fun hc => ?_)
  · have h := h.1 hc
    exact Wp.wk [false, false, false] h
  · have h := h.2 hc
    refine w_aload_n (q := 17) hm33 ⟨⟨_, _, rfl⟩, rfl⟩ rfl ?_
    refine w_getf (q := 20) (v := (m.1 70 13)) hm33 ⟨⟨_, _, rfl⟩, rfl⟩ rfl rfl ?_
    refine w_if_ne (q := 23) (X := (m.1 70 13).toInt) hm33 ⟨⟨_, _, rfl⟩, rfl⟩ rfl (fun hc => ?_) (fun hc => ?_)
    · have h := h.1 hc
      exact Wp.wk [false, false, false] h
    · have h := h.2 hc
      exact Wp.wk [true, true, false] h
theorem v_X12_expression_70_23 {d : Nat} {x1 : Int32} {m : dM} {Q : dM → Prop} (h : c_X12_is_70 d (6 : Int32) m (fun r1 m1 => ((r1.toInt = 0 → c_X12_unit_70 d m1 (fun m2 => (((m2.1 70 13).toInt ≤ 0 → j_X12_expression_70_96 (d + 1) x1 m2 Q) ∧ (0 < (m2.1 70 13).toInt → Q m2)))) ∧ (r1.toInt ≠ 0 → (((m1.1 70 12).toInt ≠ 6 → j_X12_expression_70_46 (d + 1) x1 m1 Q) ∧ ((m1.1 70 12).toInt = 6 → c_X12_fail_70 d (2 : Int32) m1 (fun m3 => j_X12_expression_70_46 (d + 1) x1 m3 Q))))))) : j_X12_expression_70_23 (d + 1) x1 m Q := by
  refine w_aload_n (q := 24) hm33 ⟨⟨_, _, rfl⟩, rfl⟩ rfl ?_
  refine w_bipush (q := 26) hm33 ⟨⟨_, _, rfl⟩, rfl⟩ bipush_6 ?_
  refine w_call (q := 29) (n := 0) (vs := [.inr (.inr (some 70)), .inl (6 : Int32)]) (rest := []) (la := [oR 70, oI (6 : Int32)]) hm33 ⟨⟨_, _, rfl⟩, rfl⟩ rfl rfl rfl rfl hm12 rfl rfl (fun _ => ⟨_, _, rfl, rfl⟩) rfl (Wp.mono h ?_)
  rintro _ m1 ⟨r1, rfl, h⟩
  change Wp _ _ 29 _ [.inl r1] _ _
  refine w_if_eq (q := 32) (X := r1.toInt) hm33 ⟨⟨_, _, rfl⟩, rfl⟩ rfl (fun hc => ?_) (fun hc => ?_)
  · have h := h.1 hc
    refine w_aload_n (q := 85) hm33 ⟨⟨_, _, rfl⟩, rfl⟩ rfl ?_
    refine w_call (q := 88) (n := 0) (vs := [.inr (.inr (some 70))]) (rest := []) (la := [oR 70]) hm33 ⟨⟨_, _, rfl⟩, rfl⟩ rfl rfl rfl rfl hm34 rfl rfl (fun _ => ⟨_, _, rfl, rfl⟩) rfl (Wp.mono h ?_)
    rintro _ m2 ⟨rfl, h⟩
    change Wp _ _ 88 _ [] _ _
    refine w_aload_n (q := 89) hm33 ⟨⟨_, _, rfl⟩, rfl⟩ rfl ?_
    refine w_getf (q := 92) (v := (m2.1 70 13)) hm33 ⟨⟨_, _, rfl⟩, rfl⟩ rfl rfl ?_
    refine w_if_le (q := 95) (X := (m2.1 70 13).toInt) hm33 ⟨⟨_, _, rfl⟩, rfl⟩ rfl (fun hc => ?_) (fun hc => ?_)
    · have h := h.1 hc
      exact h
    · have h := h.2 hc
      exact w_retv hm33 ⟨⟨_, _, rfl⟩, rfl⟩ rfl h
  · have h := h.2 hc
    refine w_aload_n (q := 33) hm33 ⟨⟨_, _, rfl⟩, rfl⟩ rfl ?_
    refine w_getf (q := 36) (v := (m1.1 70 12)) hm33 ⟨⟨_, _, rfl⟩, rfl⟩ rfl rfl ?_
    refine w_bipush (q := 38) hm33 ⟨⟨_, _, rfl⟩, rfl⟩ bipush_6 ?_
    refine w_icmp_ne (q := 41) (X := (m1.1 70 12).toInt) (Y := 6) hm33 ⟨⟨_, _, rfl⟩, rfl⟩ rfl (by decide) (fun hc => ?_) (fun hc => ?_)
    · have h := h.1 hc
      exact h
    · have h := h.2 hc
      refine w_aload_n (q := 42) hm33 ⟨⟨_, _, rfl⟩, rfl⟩ rfl ?_
      refine w_iconst (q := 43) hm33 ⟨⟨_, _, rfl⟩, rfl⟩ iconst_2 ?_
      refine w_call (q := 46) (n := 0) (vs := [.inr (.inr (some 70)), .inl (2 : Int32)]) (rest := []) (la := [oR 70, oI (2 : Int32)]) hm33 ⟨⟨_, _, rfl⟩, rfl⟩ rfl rfl rfl rfl hm13 rfl rfl (fun _ => ⟨_, _, rfl, rfl⟩) rfl (Wp.mono h ?_)
      rintro _ m3 ⟨rfl, h⟩
      change Wp _ _ 46 _ [] _ _
      exact h
theorem v_X12_expression_70_46 {d : Nat} {x1 : Int32} {m : dM} {Q : dM → Prop} (h : c_X12_goesOn_70 d (dSet m 70 12 ((m.1 70 12) + (1 : Int32))) (fun m1 => ((0 ≤ (m1.1 70 50).toInt ∧ (m1.1 70 50).toInt < 64) ∧ j_X12_expression_70_23 (d + 1) x1 (dSet (dSet m1 104 (m1.1 70 50).toNatClampNeg (6 : Int32)) 70 50 ((m1.1 70 50) + (1 : Int32))) Q))) : j_X12_expression_70_46 (d + 1) x1 m Q := by
  refine w_aload_n (q := 47) hm33 ⟨⟨_, _, rfl⟩, rfl⟩ rfl ?_
  refine w_dup (q := 48) hm33 ⟨⟨_, _, rfl⟩, rfl⟩ rfl ?_
  refine w_getf (q := 51) (v := (m.1 70 12)) hm33 ⟨⟨_, _, rfl⟩, rfl⟩ rfl rfl ?_
  refine w_iconst (q := 52) hm33 ⟨⟨_, _, rfl⟩, rfl⟩ iconst_1 ?_
  refine w_iadd (q := 53) hm33 ⟨⟨_, _, rfl⟩, rfl⟩ ?_
  refine w_putf (q := 56) hm33 ⟨⟨_, _, rfl⟩, rfl⟩ rfl rfl rfl ?_
  refine w_aload_n (q := 57) hm33 ⟨⟨_, _, rfl⟩, rfl⟩ rfl ?_
  refine w_call (q := 60) (n := 0) (vs := [.inr (.inr (some 70))]) (rest := []) (la := [oR 70]) hm33 ⟨⟨_, _, rfl⟩, rfl⟩ rfl rfl rfl rfl hm15 rfl rfl (fun _ => ⟨_, _, rfl, rfl⟩) rfl (Wp.mono h ?_)
  rintro _ m1 ⟨rfl, h⟩
  change Wp _ _ 60 _ [] _ _
  refine w_aload_n (q := 61) hm33 ⟨⟨_, _, rfl⟩, rfl⟩ rfl ?_
  refine w_getr (q := 64) hm33 ⟨⟨_, _, rfl⟩, rfl⟩ rfl ?_
  refine w_aload_n (q := 65) hm33 ⟨⟨_, _, rfl⟩, rfl⟩ rfl ?_
  refine w_getf (q := 68) (v := (m1.1 70 50)) hm33 ⟨⟨_, _, rfl⟩, rfl⟩ rfl rfl ?_
  refine w_bipush (q := 70) hm33 ⟨⟨_, _, rfl⟩, rfl⟩ bipush_6 ?_
  obtain ⟨hi, h⟩ := h
  refine w_iast (q := 71) hm33 ⟨⟨_, _, rfl⟩, rfl⟩ rfl hi rfl rfl ?_
  refine w_aload_n (q := 72) hm33 ⟨⟨_, _, rfl⟩, rfl⟩ rfl ?_
  refine w_dup (q := 73) hm33 ⟨⟨_, _, rfl⟩, rfl⟩ rfl ?_
  refine w_getf (q := 76) (v := (m1.1 70 50)) hm33 ⟨⟨_, _, rfl⟩, rfl⟩ rfl rfl ?_
  refine w_iconst (q := 77) hm33 ⟨⟨_, _, rfl⟩, rfl⟩ iconst_1 ?_
  refine w_iadd (q := 78) hm33 ⟨⟨_, _, rfl⟩, rfl⟩ ?_
  refine w_putf (q := 81) hm33 ⟨⟨_, _, rfl⟩, rfl⟩ rfl rfl rfl ?_
  refine w_goto (q := 23) hm33 ⟨_, _, rfl⟩ ?_
  exact h
theorem v_X12_expression_70_96 {d : Nat} {x1 : Int32} {m : dM} {Q : dM → Prop} (h : c_X12_is_70 d (7 : Int32) m (fun r1 m1 => ((r1.toInt = 0 → j_X12_expression_70_145 (d + 1) x1 m1 Q) ∧ (r1.toInt ≠ 0 → (((m1.1 70 12).toInt ≤ x1.toInt → j_X12_expression_70_145 (d + 1) x1 m1 Q) ∧ (x1.toInt < (m1.1 70 12).toInt → c_X12_comesOut_70 d (0 : Int32) m1 (fun m2 => c_X12_goesOn_70 d (dSet (dSet m2 70 50 ((m2.1 70 50) - (1 : Int32))) 70 12 ((m2.1 70 12) - (1 : Int32))) (fun m3 => j_X12_expression_70_96 (d + 1) x1 m3 Q)))))))) : j_X12_expression_70_96 (d + 1) x1 m Q := by
  refine w_aload_n (q := 97) hm33 ⟨⟨_, _, rfl⟩, rfl⟩ rfl ?_
  refine w_bipush (q := 99) hm33 ⟨⟨_, _, rfl⟩, rfl⟩ bipush_7 ?_
  refine w_call (q := 102) (n := 0) (vs := [.inr (.inr (some 70)), .inl (7 : Int32)]) (rest := []) (la := [oR 70, oI (7 : Int32)]) hm33 ⟨⟨_, _, rfl⟩, rfl⟩ rfl rfl rfl rfl hm12 rfl rfl (fun _ => ⟨_, _, rfl, rfl⟩) rfl (Wp.mono h ?_)
  rintro _ m1 ⟨r1, rfl, h⟩
  change Wp _ _ 102 _ [.inl r1] _ _
  refine w_if_eq (q := 105) (X := r1.toInt) hm33 ⟨⟨_, _, rfl⟩, rfl⟩ rfl (fun hc => ?_) (fun hc => ?_)
  · have h := h.1 hc
    exact h
  · have h := h.2 hc
    refine w_aload_n (q := 106) hm33 ⟨⟨_, _, rfl⟩, rfl⟩ rfl ?_
    refine w_getf (q := 109) (v := (m1.1 70 12)) hm33 ⟨⟨_, _, rfl⟩, rfl⟩ rfl rfl ?_
    refine w_iload_n (q := 110) hm33 ⟨⟨_, _, rfl⟩, rfl⟩ rfl ?_
    refine w_icmp_le (q := 113) (X := (m1.1 70 12).toInt) (Y := x1.toInt) hm33 ⟨⟨_, _, rfl⟩, rfl⟩ rfl rfl (fun hc => ?_) (fun hc => ?_)
    · have h := h.1 hc
      exact h
    · have h := h.2 hc
      refine w_aload_n (q := 114) hm33 ⟨⟨_, _, rfl⟩, rfl⟩ rfl ?_
      refine w_iconst (q := 115) hm33 ⟨⟨_, _, rfl⟩, rfl⟩ iconst_0 ?_
      refine w_call (q := 118) (n := 1) (vs := [.inr (.inr (some 70)), .inl (0 : Int32)]) (rest := []) (la := [oR 70, oI (0 : Int32), none]) hm33 ⟨⟨_, _, rfl⟩, rfl⟩ rfl rfl rfl rfl hm32 rfl rfl (fun _ => ⟨_, _, rfl, rfl⟩) rfl (Wp.mono h ?_)
      rintro _ m2 ⟨rfl, h⟩
      change Wp _ _ 118 _ [] _ _
      refine w_aload_n (q := 119) hm33 ⟨⟨_, _, rfl⟩, rfl⟩ rfl ?_
      refine w_dup (q := 120) hm33 ⟨⟨_, _, rfl⟩, rfl⟩ rfl ?_
      refine w_getf (q := 123) (v := (m2.1 70 50)) hm33 ⟨⟨_, _, rfl⟩, rfl⟩ rfl rfl ?_
      refine w_iconst (q := 124) hm33 ⟨⟨_, _, rfl⟩, rfl⟩ iconst_1 ?_
      refine w_isub (q := 125) hm33 ⟨⟨_, _, rfl⟩, rfl⟩ ?_
      refine w_putf (q := 128) hm33 ⟨⟨_, _, rfl⟩, rfl⟩ rfl rfl rfl ?_
      refine w_aload_n (q := 129) hm33 ⟨⟨_, _, rfl⟩, rfl⟩ rfl ?_
      refine w_dup (q := 130) hm33 ⟨⟨_, _, rfl⟩, rfl⟩ rfl ?_
      refine w_getf (q := 133) (v := (m2.1 70 12)) hm33 ⟨⟨_, _, rfl⟩, rfl⟩ rfl rfl ?_
      refine w_iconst (q := 134) hm33 ⟨⟨_, _, rfl⟩, rfl⟩ iconst_1 ?_
      refine w_isub (q := 135) hm33 ⟨⟨_, _, rfl⟩, rfl⟩ ?_
      refine w_putf (q := 138) hm33 ⟨⟨_, _, rfl⟩, rfl⟩ rfl rfl rfl ?_
      refine w_aload_n (q := 139) hm33 ⟨⟨_, _, rfl⟩, rfl⟩ rfl ?_
      refine w_call (q := 142) (n := 0) (vs := [.inr (.inr (some 70))]) (rest := []) (la := [oR 70]) hm33 ⟨⟨_, _, rfl⟩, rfl⟩ rfl rfl rfl rfl hm15 rfl rfl (fun _ => ⟨_, _, rfl, rfl⟩) rfl (Wp.mono h ?_)
      rintro _ m3 ⟨rfl, h⟩
      change Wp _ _ 142 _ [] _ _
      refine w_goto (q := 96) hm33 ⟨_, _, rfl⟩ ?_
      exact h
theorem v_X12_expression_70_145 {d : Nat} {x1 : Int32} {m : dM} {Q : dM → Prop} (h : c_X12_is_70 d (8 : Int32) m (fun r1 m1 => ((r1.toInt ≠ 0 → j_X12_expression_70_181 (d + 1) x1 m1 Q) ∧ (r1.toInt = 0 → c_X12_is_70 d (9 : Int32) m1 (fun r2 m2 => ((r2.toInt ≠ 0 → j_X12_expression_70_181 (d + 1) x1 m2 Q) ∧ (r2.toInt = 0 → c_X12_is_70 d (10 : Int32) m2 (fun r3 m3 => ((r3.toInt ≠ 0 → j_X12_expression_70_181 (d + 1) x1 m3 Q) ∧ (r3.toInt = 0 → c_X12_is_70 d (15 : Int32) m3 (fun r4 m4 => ((r4.toInt = 0 → (((m4.1 70 12).toInt ≤ x1.toInt → j_X12_expression_70_204 (d + 1) m4 Q) ∧ (x1.toInt < (m4.1 70 12).toInt → c_X12_fail_70 d (1 : Int32) m4 (fun m5 => j_X12_expression_70_204 (d + 1) m5 Q)))) ∧ (r4.toInt ≠ 0 → j_X12_expression_70_181 (d + 1) x1 m4 Q))))))))))))) : j_X12_expression_70_145 (d + 1) x1 m Q := by
  refine w_aload_n (q := 146) hm33 ⟨⟨_, _, rfl⟩, rfl⟩ rfl ?_
  refine w_bipush (q := 148) hm33 ⟨⟨_, _, rfl⟩, rfl⟩ bipush_8 ?_
  refine w_call (q := 151) (n := 0) (vs := [.inr (.inr (some 70)), .inl (8 : Int32)]) (rest := []) (la := [oR 70, oI (8 : Int32)]) hm33 ⟨⟨_, _, rfl⟩, rfl⟩ rfl rfl rfl rfl hm12 rfl rfl (fun _ => ⟨_, _, rfl, rfl⟩) rfl (Wp.mono h ?_)
  rintro _ m1 ⟨r1, rfl, h⟩
  change Wp _ _ 151 _ [.inl r1] _ _
  refine w_if_ne (q := 154) (X := r1.toInt) hm33 ⟨⟨_, _, rfl⟩, rfl⟩ rfl (fun hc => ?_) (fun hc => ?_)
  · have h := h.1 hc
    exact h
  · have h := h.2 hc
    refine w_aload_n (q := 155) hm33 ⟨⟨_, _, rfl⟩, rfl⟩ rfl ?_
    refine w_bipush (q := 157) hm33 ⟨⟨_, _, rfl⟩, rfl⟩ bipush_9 ?_
    refine w_call (q := 160) (n := 0) (vs := [.inr (.inr (some 70)), .inl (9 : Int32)]) (rest := []) (la := [oR 70, oI (9 : Int32)]) hm33 ⟨⟨_, _, rfl⟩, rfl⟩ rfl rfl rfl rfl hm12 rfl rfl (fun _ => ⟨_, _, rfl, rfl⟩) rfl (Wp.mono h ?_)
    rintro _ m2 ⟨r2, rfl, h⟩
    change Wp _ _ 160 _ [.inl r2] _ _
    refine w_if_ne (q := 163) (X := r2.toInt) hm33 ⟨⟨_, _, rfl⟩, rfl⟩ rfl (fun hc => ?_) (fun hc => ?_)
    · have h := h.1 hc
      exact h
    · have h := h.2 hc
      refine w_aload_n (q := 164) hm33 ⟨⟨_, _, rfl⟩, rfl⟩ rfl ?_
      refine w_bipush (q := 166) hm33 ⟨⟨_, _, rfl⟩, rfl⟩ bipush_10 ?_
      refine w_call (q := 169) (n := 0) (vs := [.inr (.inr (some 70)), .inl (10 : Int32)]) (rest := []) (la := [oR 70, oI (10 : Int32)]) hm33 ⟨⟨_, _, rfl⟩, rfl⟩ rfl rfl rfl rfl hm12 rfl rfl (fun _ => ⟨_, _, rfl, rfl⟩) rfl (Wp.mono h ?_)
      rintro _ m3 ⟨r3, rfl, h⟩
      change Wp _ _ 169 _ [.inl r3] _ _
      refine w_if_ne (q := 172) (X := r3.toInt) hm33 ⟨⟨_, _, rfl⟩, rfl⟩ rfl (fun hc => ?_) (fun hc => ?_)
      · have h := h.1 hc
        exact h
      · have h := h.2 hc
        refine w_aload_n (q := 173) hm33 ⟨⟨_, _, rfl⟩, rfl⟩ rfl ?_
        refine w_bipush (q := 175) hm33 ⟨⟨_, _, rfl⟩, rfl⟩ bipush_15 ?_
        refine w_call (q := 178) (n := 0) (vs := [.inr (.inr (some 70)), .inl (15 : Int32)]) (rest := []) (la := [oR 70, oI (15 : Int32)]) hm33 ⟨⟨_, _, rfl⟩, rfl⟩ rfl rfl rfl rfl hm12 rfl rfl (fun _ => ⟨_, _, rfl, rfl⟩) rfl (Wp.mono h ?_)
        rintro _ m4 ⟨r4, rfl, h⟩
        change Wp _ _ 178 _ [.inl r4] _ _
        refine w_if_eq (q := 181) (X := r4.toInt) hm33 ⟨⟨_, _, rfl⟩, rfl⟩ rfl (fun hc => ?_) (fun hc => ?_)
        · have h := h.1 hc
          refine w_iconst (q := 186) hm33 ⟨⟨_, _, rfl⟩, rfl⟩ iconst_0 ?_
          refine w_istore_n (q := 187) (l' := [oR 70, oI x1, oI (0 : Int32)]) hm33 ⟨⟨_, _, rfl⟩, rfl⟩ rfl rfl rfl ?_
          refine w_iload_n (q := 188) hm33 ⟨⟨_, _, rfl⟩, rfl⟩ rfl ?_
          refine w_if_ne (q := 191) (X := 0) hm33 ⟨⟨_, _, rfl⟩, rfl⟩ (by decide) (fun hc => absurd hc (by decide)) (fun _ => ?_)
          refine w_aload_n (q := 192) hm33 ⟨⟨_, _, rfl⟩, rfl⟩ rfl ?_
          refine w_getf (q := 195) (v := (m4.1 70 12)) hm33 ⟨⟨_, _, rfl⟩, rfl⟩ rfl rfl ?_
          refine w_iload_n (q := 196) hm33 ⟨⟨_, _, rfl⟩, rfl⟩ rfl ?_
          refine w_icmp_le (q := 199) (X := (m4.1 70 12).toInt) (Y := x1.toInt) hm33 ⟨⟨_, _, rfl⟩, rfl⟩ rfl rfl (fun hc => ?_) (fun hc => ?_)
          · have h := h.1 hc
            exact Wp.wk [true, false, false] h
          · have h := h.2 hc
            refine w_aload_n (q := 200) hm33 ⟨⟨_, _, rfl⟩, rfl⟩ rfl ?_
            refine w_iconst (q := 201) hm33 ⟨⟨_, _, rfl⟩, rfl⟩ iconst_1 ?_
            refine w_call (q := 204) (n := 0) (vs := [.inr (.inr (some 70)), .inl (1 : Int32)]) (rest := []) (la := [oR 70, oI (1 : Int32)]) hm33 ⟨⟨_, _, rfl⟩, rfl⟩ rfl rfl rfl rfl hm13 rfl rfl (fun _ => ⟨_, _, rfl, rfl⟩) rfl (Wp.mono h ?_)
            rintro _ m5 ⟨rfl, h⟩
            change Wp _ _ 204 _ [] _ _
            exact Wp.wk [true, false, false] h
        · have h := h.2 hc
          exact h
theorem v_X12_expression_70_181 {d : Nat} {x1 : Int32} {m : dM} {Q : dM → Prop} (h : c_X12_is_70 d (10 : Int32) m (fun r1 m1 => ((r1.toInt ≠ 0 → c_X12_comesOut_70 d (1 : Int32) m1 (fun m2 => ((0 ≤ (m2.1 70 11).toInt ∧ (m2.1 70 11).toInt < 403) ∧ ((0 ≤ (m2.1 70 50).toInt ∧ (m2.1 70 50).toInt < 64) ∧ c_X12_goesOn_70 d (dSet (dSet m2 104 (m2.1 70 50).toNatClampNeg (m2.1 73 (m2.1 70 11).toNatClampNeg)) 70 50 ((m2.1 70 50) + (1 : Int32))) (fun m3 => j_X12_expression_70_12 (d + 1) x1 (1 : Int32) m3 Q))))) ∧ (r1.toInt = 0 → c_X12_is_70 d (15 : Int32) m1 (fun r4 m4 => ((r4.toInt = 0 → c_X12_comesOut_70 d (0 : Int32) m4 (fun m5 => ((0 ≤ (m5.1 70 11).toInt ∧ (m5.1 70 11).toInt < 403) ∧ ((0 ≤ (m5.1 70 50).toInt ∧ (m5.1 70 50).toInt < 64) ∧ c_X12_goesOn_70 d (dSet (dSet m5 104 (m5.1 70 50).toNatClampNeg (m5.1 73 (m5.1 70 11).toNatClampNeg)) 70 50 ((m5.1 70 50) + (1 : Int32))) (fun m6 => j_X12_expression_70_12 (d + 1) x1 (1 : Int32) m6 Q))))) ∧ (r4.toInt ≠ 0 → c_X12_comesOut_70 d (1 : Int32) m4 (fun m7 => ((0 ≤ (m7.1 70 11).toInt ∧ (m7.1 70 11).toInt < 403) ∧ ((0 ≤ (m7.1 70 50).toInt ∧ (m7.1 70 50).toInt < 64) ∧ c_X12_goesOn_70 d (dSet (dSet m7 104 (m7.1 70 50).toNatClampNeg (m7.1 73 (m7.1 70 11).toNatClampNeg)) 70 50 ((m7.1 70 50) + (1 : Int32))) (fun m8 => j_X12_expression_70_12 (d + 1) x1 (1 : Int32) m8 Q))))))))))) : j_X12_expression_70_181 (d + 1) x1 m Q := by
  refine w_iconst (q := 182) hm33 ⟨⟨_, _, rfl⟩, rfl⟩ iconst_1 ?_
  refine w_goto (q := 186) hm33 ⟨_, _, rfl⟩ ?_
  refine w_istore_n (q := 187) (l' := [oR 70, oI x1, oI (1 : Int32)]) hm33 ⟨⟨_, _, rfl⟩, rfl⟩ rfl rfl rfl ?_
  refine w_iload_n (q := 188) hm33 ⟨⟨_, _, rfl⟩, rfl⟩ rfl ?_
  refine w_if_ne (q := 191) (X := 1) hm33 ⟨⟨_, _, rfl⟩, rfl⟩ (by decide) (fun _ => ?_) (fun hc => absurd hc (by decide))
  refine w_aload_n (q := 211) hm33 ⟨⟨_, _, rfl⟩, rfl⟩ rfl ?_
  refine w_aload_n (q := 212) hm33 ⟨⟨_, _, rfl⟩, rfl⟩ rfl ?_
  refine w_bipush (q := 214) hm33 ⟨⟨_, _, rfl⟩, rfl⟩ bipush_10 ?_
  refine w_call (q := 217) (n := 0) (vs := [.inr (.inr (some 70)), .inl (10 : Int32)]) (rest := [.inr (.inr (some 70))]) (la := [oR 70, oI (10 : Int32)]) hm33 ⟨⟨_, _, rfl⟩, rfl⟩ rfl rfl rfl rfl hm12 rfl rfl (fun _ => ⟨_, _, rfl, rfl⟩) rfl (Wp.mono h ?_)
  rintro _ m1 ⟨r1, rfl, h⟩
  change Wp _ _ 217 _ [.inl r1, .inr (.inr (some 70))] _ _
  refine w_if_ne (q := 220) (X := r1.toInt) hm33 ⟨⟨_, _, rfl⟩, rfl⟩ rfl (fun hc => ?_) (fun hc => ?_)
  · have h := h.1 hc
    refine w_iconst (q := 230) hm33 ⟨⟨_, _, rfl⟩, rfl⟩ iconst_1 ?_
    refine w_goto (q := 234) hm33 ⟨_, _, rfl⟩ ?_
    refine w_call (q := 237) (n := 1) (vs := [.inr (.inr (some 70)), .inl (1 : Int32)]) (rest := []) (la := [oR 70, oI (1 : Int32), none]) hm33 ⟨⟨_, _, rfl⟩, rfl⟩ rfl rfl rfl rfl hm32 rfl rfl (fun _ => ⟨_, _, rfl, rfl⟩) rfl (Wp.mono h ?_)
    rintro _ m2 ⟨rfl, h⟩
    change Wp _ _ 237 _ [] _ _
    refine w_aload_n (q := 238) hm33 ⟨⟨_, _, rfl⟩, rfl⟩ rfl ?_
    refine w_getr (q := 241) hm33 ⟨⟨_, _, rfl⟩, rfl⟩ rfl ?_
    refine w_aload_n (q := 242) hm33 ⟨⟨_, _, rfl⟩, rfl⟩ rfl ?_
    refine w_getf (q := 245) (v := (m2.1 70 50)) hm33 ⟨⟨_, _, rfl⟩, rfl⟩ rfl rfl ?_
    refine w_aload_n (q := 246) hm33 ⟨⟨_, _, rfl⟩, rfl⟩ rfl ?_
    refine w_getr (q := 249) hm33 ⟨⟨_, _, rfl⟩, rfl⟩ rfl ?_
    refine w_aload_n (q := 250) hm33 ⟨⟨_, _, rfl⟩, rfl⟩ rfl ?_
    refine w_getf (q := 253) (v := (m2.1 70 11)) hm33 ⟨⟨_, _, rfl⟩, rfl⟩ rfl rfl ?_
    obtain ⟨hi, h⟩ := h
    refine w_iald (q := 254) (v := (m2.1 73 (m2.1 70 11).toNatClampNeg)) hm33 ⟨⟨_, _, rfl⟩, rfl⟩ rfl hi rfl rfl ?_
    obtain ⟨hi, h⟩ := h
    refine w_iast (q := 255) hm33 ⟨⟨_, _, rfl⟩, rfl⟩ rfl hi rfl rfl ?_
    refine w_aload_n (q := 256) hm33 ⟨⟨_, _, rfl⟩, rfl⟩ rfl ?_
    refine w_dup (q := 257) hm33 ⟨⟨_, _, rfl⟩, rfl⟩ rfl ?_
    refine w_getf (q := 260) (v := (m2.1 70 50)) hm33 ⟨⟨_, _, rfl⟩, rfl⟩ rfl rfl ?_
    refine w_iconst (q := 261) hm33 ⟨⟨_, _, rfl⟩, rfl⟩ iconst_1 ?_
    refine w_iadd (q := 262) hm33 ⟨⟨_, _, rfl⟩, rfl⟩ ?_
    refine w_putf (q := 265) hm33 ⟨⟨_, _, rfl⟩, rfl⟩ rfl rfl rfl ?_
    refine w_aload_n (q := 266) hm33 ⟨⟨_, _, rfl⟩, rfl⟩ rfl ?_
    refine w_call (q := 269) (n := 0) (vs := [.inr (.inr (some 70))]) (rest := []) (la := [oR 70]) hm33 ⟨⟨_, _, rfl⟩, rfl⟩ rfl rfl rfl rfl hm15 rfl rfl (fun _ => ⟨_, _, rfl, rfl⟩) rfl (Wp.mono h ?_)
    rintro _ m3 ⟨rfl, h⟩
    change Wp _ _ 269 _ [] _ _
    refine w_goto (q := 12) hm33 ⟨_, _, rfl⟩ ?_
    exact h
  · have h := h.2 hc
    refine w_aload_n (q := 221) hm33 ⟨⟨_, _, rfl⟩, rfl⟩ rfl ?_
    refine w_bipush (q := 223) hm33 ⟨⟨_, _, rfl⟩, rfl⟩ bipush_15 ?_
    refine w_call (q := 226) (n := 0) (vs := [.inr (.inr (some 70)), .inl (15 : Int32)]) (rest := [.inr (.inr (some 70))]) (la := [oR 70, oI (15 : Int32)]) hm33 ⟨⟨_, _, rfl⟩, rfl⟩ rfl rfl rfl rfl hm12 rfl rfl (fun _ => ⟨_, _, rfl, rfl⟩) rfl (Wp.mono h ?_)
    rintro _ m4 ⟨r4, rfl, h⟩
    change Wp _ _ 226 _ [.inl r4, .inr (.inr (some 70))] _ _
    refine w_if_eq (q := 229) (X := r4.toInt) hm33 ⟨⟨_, _, rfl⟩, rfl⟩ rfl (fun hc => ?_) (fun hc => ?_)
    · have h := h.1 hc
      refine w_iconst (q := 234) hm33 ⟨⟨_, _, rfl⟩, rfl⟩ iconst_0 ?_
      refine w_call (q := 237) (n := 1) (vs := [.inr (.inr (some 70)), .inl (0 : Int32)]) (rest := []) (la := [oR 70, oI (0 : Int32), none]) hm33 ⟨⟨_, _, rfl⟩, rfl⟩ rfl rfl rfl rfl hm32 rfl rfl (fun _ => ⟨_, _, rfl, rfl⟩) rfl (Wp.mono h ?_)
      rintro _ m5 ⟨rfl, h⟩
      change Wp _ _ 237 _ [] _ _
      refine w_aload_n (q := 238) hm33 ⟨⟨_, _, rfl⟩, rfl⟩ rfl ?_
      refine w_getr (q := 241) hm33 ⟨⟨_, _, rfl⟩, rfl⟩ rfl ?_
      refine w_aload_n (q := 242) hm33 ⟨⟨_, _, rfl⟩, rfl⟩ rfl ?_
      refine w_getf (q := 245) (v := (m5.1 70 50)) hm33 ⟨⟨_, _, rfl⟩, rfl⟩ rfl rfl ?_
      refine w_aload_n (q := 246) hm33 ⟨⟨_, _, rfl⟩, rfl⟩ rfl ?_
      refine w_getr (q := 249) hm33 ⟨⟨_, _, rfl⟩, rfl⟩ rfl ?_
      refine w_aload_n (q := 250) hm33 ⟨⟨_, _, rfl⟩, rfl⟩ rfl ?_
      refine w_getf (q := 253) (v := (m5.1 70 11)) hm33 ⟨⟨_, _, rfl⟩, rfl⟩ rfl rfl ?_
      obtain ⟨hi, h⟩ := h
      refine w_iald (q := 254) (v := (m5.1 73 (m5.1 70 11).toNatClampNeg)) hm33 ⟨⟨_, _, rfl⟩, rfl⟩ rfl hi rfl rfl ?_
      obtain ⟨hi, h⟩ := h
      refine w_iast (q := 255) hm33 ⟨⟨_, _, rfl⟩, rfl⟩ rfl hi rfl rfl ?_
      refine w_aload_n (q := 256) hm33 ⟨⟨_, _, rfl⟩, rfl⟩ rfl ?_
      refine w_dup (q := 257) hm33 ⟨⟨_, _, rfl⟩, rfl⟩ rfl ?_
      refine w_getf (q := 260) (v := (m5.1 70 50)) hm33 ⟨⟨_, _, rfl⟩, rfl⟩ rfl rfl ?_
      refine w_iconst (q := 261) hm33 ⟨⟨_, _, rfl⟩, rfl⟩ iconst_1 ?_
      refine w_iadd (q := 262) hm33 ⟨⟨_, _, rfl⟩, rfl⟩ ?_
      refine w_putf (q := 265) hm33 ⟨⟨_, _, rfl⟩, rfl⟩ rfl rfl rfl ?_
      refine w_aload_n (q := 266) hm33 ⟨⟨_, _, rfl⟩, rfl⟩ rfl ?_
      refine w_call (q := 269) (n := 0) (vs := [.inr (.inr (some 70))]) (rest := []) (la := [oR 70]) hm33 ⟨⟨_, _, rfl⟩, rfl⟩ rfl rfl rfl rfl hm15 rfl rfl (fun _ => ⟨_, _, rfl, rfl⟩) rfl (Wp.mono h ?_)
      rintro _ m6 ⟨rfl, h⟩
      change Wp _ _ 269 _ [] _ _
      refine w_goto (q := 12) hm33 ⟨_, _, rfl⟩ ?_
      exact h
    · have h := h.2 hc
      refine w_iconst (q := 230) hm33 ⟨⟨_, _, rfl⟩, rfl⟩ iconst_1 ?_
      refine w_goto (q := 234) hm33 ⟨_, _, rfl⟩ ?_
      refine w_call (q := 237) (n := 1) (vs := [.inr (.inr (some 70)), .inl (1 : Int32)]) (rest := []) (la := [oR 70, oI (1 : Int32), none]) hm33 ⟨⟨_, _, rfl⟩, rfl⟩ rfl rfl rfl rfl hm32 rfl rfl (fun _ => ⟨_, _, rfl, rfl⟩) rfl (Wp.mono h ?_)
      rintro _ m7 ⟨rfl, h⟩
      change Wp _ _ 237 _ [] _ _
      refine w_aload_n (q := 238) hm33 ⟨⟨_, _, rfl⟩, rfl⟩ rfl ?_
      refine w_getr (q := 241) hm33 ⟨⟨_, _, rfl⟩, rfl⟩ rfl ?_
      refine w_aload_n (q := 242) hm33 ⟨⟨_, _, rfl⟩, rfl⟩ rfl ?_
      refine w_getf (q := 245) (v := (m7.1 70 50)) hm33 ⟨⟨_, _, rfl⟩, rfl⟩ rfl rfl ?_
      refine w_aload_n (q := 246) hm33 ⟨⟨_, _, rfl⟩, rfl⟩ rfl ?_
      refine w_getr (q := 249) hm33 ⟨⟨_, _, rfl⟩, rfl⟩ rfl ?_
      refine w_aload_n (q := 250) hm33 ⟨⟨_, _, rfl⟩, rfl⟩ rfl ?_
      refine w_getf (q := 253) (v := (m7.1 70 11)) hm33 ⟨⟨_, _, rfl⟩, rfl⟩ rfl rfl ?_
      obtain ⟨hi, h⟩ := h
      refine w_iald (q := 254) (v := (m7.1 73 (m7.1 70 11).toNatClampNeg)) hm33 ⟨⟨_, _, rfl⟩, rfl⟩ rfl hi rfl rfl ?_
      obtain ⟨hi, h⟩ := h
      refine w_iast (q := 255) hm33 ⟨⟨_, _, rfl⟩, rfl⟩ rfl hi rfl rfl ?_
      refine w_aload_n (q := 256) hm33 ⟨⟨_, _, rfl⟩, rfl⟩ rfl ?_
      refine w_dup (q := 257) hm33 ⟨⟨_, _, rfl⟩, rfl⟩ rfl ?_
      refine w_getf (q := 260) (v := (m7.1 70 50)) hm33 ⟨⟨_, _, rfl⟩, rfl⟩ rfl rfl ?_
      refine w_iconst (q := 261) hm33 ⟨⟨_, _, rfl⟩, rfl⟩ iconst_1 ?_
      refine w_iadd (q := 262) hm33 ⟨⟨_, _, rfl⟩, rfl⟩ ?_
      refine w_putf (q := 265) hm33 ⟨⟨_, _, rfl⟩, rfl⟩ rfl rfl rfl ?_
      refine w_aload_n (q := 266) hm33 ⟨⟨_, _, rfl⟩, rfl⟩ rfl ?_
      refine w_call (q := 269) (n := 0) (vs := [.inr (.inr (some 70))]) (rest := []) (la := [oR 70]) hm33 ⟨⟨_, _, rfl⟩, rfl⟩ rfl rfl rfl rfl hm15 rfl rfl (fun _ => ⟨_, _, rfl, rfl⟩) rfl (Wp.mono h ?_)
      rintro _ m8 ⟨rfl, h⟩
      change Wp _ _ 269 _ [] _ _
      refine w_goto (q := 12) hm33 ⟨_, _, rfl⟩ ?_
      exact h
theorem v_X12_expression_70_204 {d : Nat} {m : dM} {Q : dM → Prop} (h : c_X12_comesOut_70 d (0 : Int32) m (fun m1 => Q m1)) : j_X12_expression_70_204 (d + 1) m Q := by
  refine w_aload_n (q := 205) hm33 ⟨⟨_, _, rfl⟩, rfl⟩ rfl ?_
  refine w_iconst (q := 206) hm33 ⟨⟨_, _, rfl⟩, rfl⟩ iconst_0 ?_
  refine w_call (q := 209) (n := 1) (vs := [.inr (.inr (some 70)), .inl (0 : Int32)]) (rest := []) (la := [oR 70, oI (0 : Int32), none]) hm33 ⟨⟨_, _, rfl⟩, rfl⟩ rfl rfl rfl rfl hm32 rfl rfl (fun _ => ⟨_, _, rfl, rfl⟩) rfl (Wp.mono h ?_)
  rintro _ m1 ⟨rfl, h⟩
  change Wp _ _ 209 _ [] _ _
  exact w_retv hm33 ⟨⟨_, _, rfl⟩, rfl⟩ rfl h
theorem v_X12_expression_70_272 {d : Nat} {m : dM} {Q : dM → Prop} (h : Q m) : j_X12_expression_70_272 (d + 1) m Q := by
  exact w_retv hm33 ⟨⟨_, _, rfl⟩, rfl⟩ rfl h
theorem v_X12_term_70 {d : Nat} {m : dM} {Q : dM → Prop} (h : ((0 ≤ (m.1 70 40).toInt ∧ (m.1 70 40).toInt < 260) ∧ (((m.1 70 13).toInt ≠ 0 → j_X12_term_70_24 (d + 1) (dSet m 100 (m.1 70 40).toNatClampNeg (m.1 70 46)) Q) ∧ ((m.1 70 13).toInt = 0 → c_X12_expression_70 d (dSet m 100 (m.1 70 40).toNatClampNeg (m.1 70 46)) (fun m1 => j_X12_term_70_24 (d + 1) m1 Q))))) : c_X12_term_70 (d + 1) m Q := by
  refine w_aload_n (q := 1) hm30 ⟨⟨_, _, rfl⟩, rfl⟩ rfl ?_
  refine w_getr (q := 4) hm30 ⟨⟨_, _, rfl⟩, rfl⟩ rfl ?_
  refine w_aload_n (q := 5) hm30 ⟨⟨_, _, rfl⟩, rfl⟩ rfl ?_
  refine w_getf (q := 8) (v := (m.1 70 40)) hm30 ⟨⟨_, _, rfl⟩, rfl⟩ rfl rfl ?_
  refine w_aload_n (q := 9) hm30 ⟨⟨_, _, rfl⟩, rfl⟩ rfl ?_
  refine w_getf (q := 12) (v := (m.1 70 46)) hm30 ⟨⟨_, _, rfl⟩, rfl⟩ rfl rfl ?_
  obtain ⟨hi, h⟩ := h
  refine w_iast (q := 13) hm30 ⟨⟨_, _, rfl⟩, rfl⟩ rfl hi rfl rfl ?_
  refine w_aload_n (q := 14) hm30 ⟨⟨_, _, rfl⟩, rfl⟩ rfl ?_
  refine w_getf (q := 17) (v := (m.1 70 13)) hm30 ⟨⟨_, _, rfl⟩, rfl⟩ rfl rfl ?_
  refine w_if_ne (q := 20) (X := (m.1 70 13).toInt) hm30 ⟨⟨_, _, rfl⟩, rfl⟩ rfl (fun hc => ?_) (fun hc => ?_)
  · have h := h.1 hc
    exact h
  · have h := h.2 hc
    refine w_aload_n (q := 21) hm30 ⟨⟨_, _, rfl⟩, rfl⟩ rfl ?_
    refine w_call (q := 24) (n := 2) (vs := [.inr (.inr (some 70))]) (rest := []) (la := [oR 70, none, none]) hm30 ⟨⟨_, _, rfl⟩, rfl⟩ rfl rfl rfl rfl hm33 rfl rfl (fun _ => ⟨_, _, rfl, rfl⟩) rfl (Wp.mono h ?_)
    rintro _ m1 ⟨rfl, h⟩
    change Wp _ _ 24 _ [] _ _
    exact h
theorem v_X12_term_70_24 {d : Nat} {m : dM} {Q : dM → Prop} (h : ((0 ≤ (m.1 70 40).toInt ∧ (m.1 70 40).toInt < 260) ∧ Q (dSet (dSet m 101 (m.1 70 40).toNatClampNeg (m.1 70 46)) 70 40 ((m.1 70 40) + (1 : Int32))))) : j_X12_term_70_24 (d + 1) m Q := by
  refine w_aload_n (q := 25) hm30 ⟨⟨_, _, rfl⟩, rfl⟩ rfl ?_
  refine w_getr (q := 28) hm30 ⟨⟨_, _, rfl⟩, rfl⟩ rfl ?_
  refine w_aload_n (q := 29) hm30 ⟨⟨_, _, rfl⟩, rfl⟩ rfl ?_
  refine w_getf (q := 32) (v := (m.1 70 40)) hm30 ⟨⟨_, _, rfl⟩, rfl⟩ rfl rfl ?_
  refine w_aload_n (q := 33) hm30 ⟨⟨_, _, rfl⟩, rfl⟩ rfl ?_
  refine w_getf (q := 36) (v := (m.1 70 46)) hm30 ⟨⟨_, _, rfl⟩, rfl⟩ rfl rfl ?_
  obtain ⟨hi, h⟩ := h
  refine w_iast (q := 37) hm30 ⟨⟨_, _, rfl⟩, rfl⟩ rfl hi rfl rfl ?_
  refine w_aload_n (q := 38) hm30 ⟨⟨_, _, rfl⟩, rfl⟩ rfl ?_
  refine w_dup (q := 39) hm30 ⟨⟨_, _, rfl⟩, rfl⟩ rfl ?_
  refine w_getf (q := 42) (v := (m.1 70 40)) hm30 ⟨⟨_, _, rfl⟩, rfl⟩ rfl rfl ?_
  refine w_iconst (q := 43) hm30 ⟨⟨_, _, rfl⟩, rfl⟩ iconst_1 ?_
  refine w_iadd (q := 44) hm30 ⟨⟨_, _, rfl⟩, rfl⟩ ?_
  refine w_putf (q := 47) hm30 ⟨⟨_, _, rfl⟩, rfl⟩ rfl rfl rfl ?_
  exact w_retv hm30 ⟨⟨_, _, rfl⟩, rfl⟩ rfl h
theorem v_X12_tellLaw_70 {d : Nat} {x1 : Int32} {m : dM} {Q : dM → Prop} (h : c_X12_must_70 d (5 : Int32) m (fun m1 => j_X12_tellLaw_70_12 (d + 1) x1 (m1.1 70 40) (0 : Int32) m1 Q)) : c_X12_tellLaw_70 (d + 1) x1 m Q := by
  refine w_aload_n (q := 1) hm29 ⟨⟨_, _, rfl⟩, rfl⟩ rfl ?_
  refine w_iconst (q := 2) hm29 ⟨⟨_, _, rfl⟩, rfl⟩ iconst_5 ?_
  refine w_call (q := 5) (n := 0) (vs := [.inr (.inr (some 70)), .inl (5 : Int32)]) (rest := []) (la := [oR 70, oI (5 : Int32)]) hm29 ⟨⟨_, _, rfl⟩, rfl⟩ rfl rfl rfl rfl hm16 rfl rfl (fun _ => ⟨_, _, rfl, rfl⟩) rfl (Wp.mono h ?_)
  rintro _ m1 ⟨rfl, h⟩
  change Wp _ _ 5 _ [] _ _
  refine w_aload_n (q := 6) hm29 ⟨⟨_, _, rfl⟩, rfl⟩ rfl ?_
  refine w_getf (q := 9) (v := (m1.1 70 40)) hm29 ⟨⟨_, _, rfl⟩, rfl⟩ rfl rfl ?_
  refine w_istore_n (q := 10) (l' := [oR 70, oI x1, oI (m1.1 70 40), none]) hm29 ⟨⟨_, _, rfl⟩, rfl⟩ rfl rfl rfl ?_
  refine w_iconst (q := 11) hm29 ⟨⟨_, _, rfl⟩, rfl⟩ iconst_0 ?_
  refine w_istore_n (q := 12) (l' := [oR 70, oI x1, oI (m1.1 70 40), oI (0 : Int32)]) hm29 ⟨⟨_, _, rfl⟩, rfl⟩ rfl rfl rfl ?_
  exact h
theorem v_X12_tellLaw_70_12 {d : Nat} {x1 : Int32} {x2 : Int32} {x3 : Int32} {m : dM} {Q : dM → Prop} (h : (((m.1 70 13).toInt ≠ 0 → j_X12_tellLaw_70_129 (d + 1) x1 x2 m Q) ∧ ((m.1 70 13).toInt = 0 → c_X12_is_70 d (30 : Int32) m (fun r1 m1 => ((r1.toInt = 0 → j_X12_tellLaw_70_129 (d + 1) x1 x2 m1 Q) ∧ (r1.toInt ≠ 0 → ((x3.toInt ≠ 4 → j_X12_tellLaw_70_38 (d + 1) x1 x2 x3 m1 Q) ∧ (x3.toInt = 4 → c_X12_fail_70 d (2 : Int32) m1 (fun m2 => j_X12_tellLaw_70_38 (d + 1) x1 x2 x3 m2 Q))))))))) : j_X12_tellLaw_70_12 (d + 1) x1 x2 x3 m Q := by
  refine w_aload_n (q := 13) hm29 ⟨⟨_, _, rfl⟩, rfl⟩ rfl ?_
  refine w_getf (q := 16) (v := (m.1 70 13)) hm29 ⟨⟨_, _, rfl⟩, rfl⟩ rfl rfl ?_
  refine w_if_ne (q := 19) (X := (m.1 70 13).toInt) hm29 ⟨⟨_, _, rfl⟩, rfl⟩ rfl (fun hc => ?_) (fun hc => ?_)
  · have h := h.1 hc
    exact Wp.wk [true, true, true, false] h
  · have h := h.2 hc
    refine w_aload_n (q := 20) hm29 ⟨⟨_, _, rfl⟩, rfl⟩ rfl ?_
    refine w_bipush (q := 22) hm29 ⟨⟨_, _, rfl⟩, rfl⟩ bipush_30 ?_
    refine w_call (q := 25) (n := 0) (vs := [.inr (.inr (some 70)), .inl (30 : Int32)]) (rest := []) (la := [oR 70, oI (30 : Int32)]) hm29 ⟨⟨_, _, rfl⟩, rfl⟩ rfl rfl rfl rfl hm12 rfl rfl (fun _ => ⟨_, _, rfl, rfl⟩) rfl (Wp.mono h ?_)
    rintro _ m1 ⟨r1, rfl, h⟩
    change Wp _ _ 25 _ [.inl r1] _ _
    refine w_if_eq (q := 28) (X := r1.toInt) hm29 ⟨⟨_, _, rfl⟩, rfl⟩ rfl (fun hc => ?_) (fun hc => ?_)
    · have h := h.1 hc
      exact Wp.wk [true, true, true, false] h
    · have h := h.2 hc
      refine w_iload_n (q := 29) hm29 ⟨⟨_, _, rfl⟩, rfl⟩ rfl ?_
      refine w_iconst (q := 30) hm29 ⟨⟨_, _, rfl⟩, rfl⟩ iconst_4 ?_
      refine w_icmp_ne (q := 33) (X := x3.toInt) (Y := 4) hm29 ⟨⟨_, _, rfl⟩, rfl⟩ rfl (by decide) (fun hc => ?_) (fun hc => ?_)
      · have h := h.1 hc
        exact h
      · have h := h.2 hc
        refine w_aload_n (q := 34) hm29 ⟨⟨_, _, rfl⟩, rfl⟩ rfl ?_
        refine w_iconst (q := 35) hm29 ⟨⟨_, _, rfl⟩, rfl⟩ iconst_2 ?_
        refine w_call (q := 38) (n := 0) (vs := [.inr (.inr (some 70)), .inl (2 : Int32)]) (rest := []) (la := [oR 70, oI (2 : Int32)]) hm29 ⟨⟨_, _, rfl⟩, rfl⟩ rfl rfl rfl rfl hm13 rfl rfl (fun _ => ⟨_, _, rfl, rfl⟩) rfl (Wp.mono h ?_)
        rintro _ m2 ⟨rfl, h⟩
        change Wp _ _ 38 _ [] _ _
        exact h
theorem v_X12_tellLaw_70_38 {d : Nat} {x1 : Int32} {x2 : Int32} {x3 : Int32} {m : dM} {Q : dM → Prop} (h : (((m.1 70 13).toInt ≤ 0 → c_X12_goesOn_70 d m (fun m1 => ((0 ≤ (m1.1 70 40).toInt ∧ (m1.1 70 40).toInt < 260) ∧ ((0 ≤ (m1.1 70 40).toInt ∧ (m1.1 70 40).toInt < 260) ∧ c_X12_expression_70 d (dSet (dSet m1 97 (m1.1 70 40).toNatClampNeg (1 : Int32)) 98 (m1.1 70 40).toNatClampNeg (m1.1 70 46)) (fun m2 => c_X12_must_70 d (13 : Int32) m2 (fun m3 => ((0 ≤ (m3.1 70 40).toInt ∧ (m3.1 70 40).toInt < 260) ∧ (((m3.1 70 13).toInt ≠ 0 → j_X12_tellLaw_70_110 (d + 1) x1 x2 (x3 + (1 : Int32)) (dSet m3 99 (m3.1 70 40).toNatClampNeg (m3.1 70 46)) Q) ∧ ((m3.1 70 13).toInt = 0 → c_X12_expression_70 d (dSet m3 99 (m3.1 70 40).toNatClampNeg (m3.1 70 46)) (fun m4 => j_X12_tellLaw_70_110 (d + 1) x1 x2 (x3 + (1 : Int32)) m4 Q)))))))))) ∧ (0 < (m.1 70 13).toInt → Q m))) : j_X12_tellLaw_70_38 (d + 1) x1 x2 x3 m Q := by
  refine w_aload_n (q := 39) hm29 ⟨⟨_, _, rfl⟩, rfl⟩ rfl ?_
  refine w_getf (q := 42) (v := (m.1 70 13)) hm29 ⟨⟨_, _, rfl⟩, rfl⟩ rfl rfl ?_
  refine w_if_le (q := 45) (X := (m.1 70 13).toInt) hm29 ⟨⟨_, _, rfl⟩, rfl⟩ rfl (fun hc => ?_) (fun hc => ?_)
  · have h := h.1 hc
    refine w_iinc (q := 49) (l' := [oR 70, oI x1, oI x2, oI (x3 + (1 : Int32))]) hm29 ⟨⟨_, _, rfl⟩, rfl⟩ rfl rfl rfl iconst_1 rfl ?_
    refine w_aload_n (q := 50) hm29 ⟨⟨_, _, rfl⟩, rfl⟩ rfl ?_
    refine w_call (q := 53) (n := 0) (vs := [.inr (.inr (some 70))]) (rest := []) (la := [oR 70]) hm29 ⟨⟨_, _, rfl⟩, rfl⟩ rfl rfl rfl rfl hm15 rfl rfl (fun _ => ⟨_, _, rfl, rfl⟩) rfl (Wp.mono h ?_)
    rintro _ m1 ⟨rfl, h⟩
    change Wp _ _ 53 _ [] _ _
    refine w_aload_n (q := 54) hm29 ⟨⟨_, _, rfl⟩, rfl⟩ rfl ?_
    refine w_getr (q := 57) hm29 ⟨⟨_, _, rfl⟩, rfl⟩ rfl ?_
    refine w_aload_n (q := 58) hm29 ⟨⟨_, _, rfl⟩, rfl⟩ rfl ?_
    refine w_getf (q := 61) (v := (m1.1 70 40)) hm29 ⟨⟨_, _, rfl⟩, rfl⟩ rfl rfl ?_
    refine w_iconst (q := 62) hm29 ⟨⟨_, _, rfl⟩, rfl⟩ iconst_1 ?_
    obtain ⟨hi, h⟩ := h
    refine w_zast (q := 63) hm29 ⟨⟨_, _, rfl⟩, rfl⟩ rfl (by decide) hi rfl rfl ?_
    refine w_aload_n (q := 64) hm29 ⟨⟨_, _, rfl⟩, rfl⟩ rfl ?_
    refine w_getr (q := 67) hm29 ⟨⟨_, _, rfl⟩, rfl⟩ rfl ?_
    refine w_aload_n (q := 68) hm29 ⟨⟨_, _, rfl⟩, rfl⟩ rfl ?_
    refine w_getf (q := 71) (v := (m1.1 70 40)) hm29 ⟨⟨_, _, rfl⟩, rfl⟩ rfl rfl ?_
    refine w_aload_n (q := 72) hm29 ⟨⟨_, _, rfl⟩, rfl⟩ rfl ?_
    refine w_getf (q := 75) (v := (m1.1 70 46)) hm29 ⟨⟨_, _, rfl⟩, rfl⟩ rfl rfl ?_
    obtain ⟨hi, h⟩ := h
    refine w_iast (q := 76) hm29 ⟨⟨_, _, rfl⟩, rfl⟩ rfl hi rfl rfl ?_
    refine w_aload_n (q := 77) hm29 ⟨⟨_, _, rfl⟩, rfl⟩ rfl ?_
    refine w_call (q := 80) (n := 2) (vs := [.inr (.inr (some 70))]) (rest := []) (la := [oR 70, none, none]) hm29 ⟨⟨_, _, rfl⟩, rfl⟩ rfl rfl rfl rfl hm33 rfl rfl (fun _ => ⟨_, _, rfl, rfl⟩) rfl (Wp.mono h ?_)
    rintro _ m2 ⟨rfl, h⟩
    change Wp _ _ 80 _ [] _ _
    refine w_aload_n (q := 81) hm29 ⟨⟨_, _, rfl⟩, rfl⟩ rfl ?_
    refine w_bipush (q := 83) hm29 ⟨⟨_, _, rfl⟩, rfl⟩ bipush_13 ?_
    refine w_call (q := 86) (n := 0) (vs := [.inr (.inr (some 70)), .inl (13 : Int32)]) (rest := []) (la := [oR 70, oI (13 : Int32)]) hm29 ⟨⟨_, _, rfl⟩, rfl⟩ rfl rfl rfl rfl hm16 rfl rfl (fun _ => ⟨_, _, rfl, rfl⟩) rfl (Wp.mono h ?_)
    rintro _ m3 ⟨rfl, h⟩
    change Wp _ _ 86 _ [] _ _
    refine w_aload_n (q := 87) hm29 ⟨⟨_, _, rfl⟩, rfl⟩ rfl ?_
    refine w_getr (q := 90) hm29 ⟨⟨_, _, rfl⟩, rfl⟩ rfl ?_
    refine w_aload_n (q := 91) hm29 ⟨⟨_, _, rfl⟩, rfl⟩ rfl ?_
    refine w_getf (q := 94) (v := (m3.1 70 40)) hm29 ⟨⟨_, _, rfl⟩, rfl⟩ rfl rfl ?_
    refine w_aload_n (q := 95) hm29 ⟨⟨_, _, rfl⟩, rfl⟩ rfl ?_
    refine w_getf (q := 98) (v := (m3.1 70 46)) hm29 ⟨⟨_, _, rfl⟩, rfl⟩ rfl rfl ?_
    obtain ⟨hi, h⟩ := h
    refine w_iast (q := 99) hm29 ⟨⟨_, _, rfl⟩, rfl⟩ rfl hi rfl rfl ?_
    refine w_aload_n (q := 100) hm29 ⟨⟨_, _, rfl⟩, rfl⟩ rfl ?_
    refine w_getf (q := 103) (v := (m3.1 70 13)) hm29 ⟨⟨_, _, rfl⟩, rfl⟩ rfl rfl ?_
    refine w_if_ne (q := 106) (X := (m3.1 70 13).toInt) hm29 ⟨⟨_, _, rfl⟩, rfl⟩ rfl (fun hc => ?_) (fun hc => ?_)
    · have h := h.1 hc
      exact h
    · have h := h.2 hc
      refine w_aload_n (q := 107) hm29 ⟨⟨_, _, rfl⟩, rfl⟩ rfl ?_
      refine w_call (q := 110) (n := 2) (vs := [.inr (.inr (some 70))]) (rest := []) (la := [oR 70, none, none]) hm29 ⟨⟨_, _, rfl⟩, rfl⟩ rfl rfl rfl rfl hm33 rfl rfl (fun _ => ⟨_, _, rfl, rfl⟩) rfl (Wp.mono h ?_)
      rintro _ m4 ⟨rfl, h⟩
      change Wp _ _ 110 _ [] _ _
      exact h
  · have h := h.2 hc
    exact w_retv hm29 ⟨⟨_, _, rfl⟩, rfl⟩ rfl h
theorem v_X12_tellLaw_70_110 {d : Nat} {x1 : Int32} {x2 : Int32} {x3 : Int32} {m : dM} {Q : dM → Prop} (h : c_X12_must_70 d (31 : Int32) m (fun m1 => c_X12_term_70 d m1 (fun m2 => c_X12_must_70 d (32 : Int32) m2 (fun m3 => j_X12_tellLaw_70_12 (d + 1) x1 x2 x3 m3 Q)))) : j_X12_tellLaw_70_110 (d + 1) x1 x2 x3 m Q := by
  refine w_aload_n (q := 111) hm29 ⟨⟨_, _, rfl⟩, rfl⟩ rfl ?_
  refine w_bipush (q := 113) hm29 ⟨⟨_, _, rfl⟩, rfl⟩ bipush_31 ?_
  refine w_call (q := 116) (n := 0) (vs := [.inr (.inr (some 70)), .inl (31 : Int32)]) (rest := []) (la := [oR 70, oI (31 : Int32)]) hm29 ⟨⟨_, _, rfl⟩, rfl⟩ rfl rfl rfl rfl hm16 rfl rfl (fun _ => ⟨_, _, rfl, rfl⟩) rfl (Wp.mono h ?_)
  rintro _ m1 ⟨rfl, h⟩
  change Wp _ _ 116 _ [] _ _
  refine w_aload_n (q := 117) hm29 ⟨⟨_, _, rfl⟩, rfl⟩ rfl ?_
  refine w_call (q := 120) (n := 0) (vs := [.inr (.inr (some 70))]) (rest := []) (la := [oR 70]) hm29 ⟨⟨_, _, rfl⟩, rfl⟩ rfl rfl rfl rfl hm30 rfl rfl (fun _ => ⟨_, _, rfl, rfl⟩) rfl (Wp.mono h ?_)
  rintro _ m2 ⟨rfl, h⟩
  change Wp _ _ 120 _ [] _ _
  refine w_aload_n (q := 121) hm29 ⟨⟨_, _, rfl⟩, rfl⟩ rfl ?_
  refine w_bipush (q := 123) hm29 ⟨⟨_, _, rfl⟩, rfl⟩ bipush_32 ?_
  refine w_call (q := 126) (n := 0) (vs := [.inr (.inr (some 70)), .inl (32 : Int32)]) (rest := []) (la := [oR 70, oI (32 : Int32)]) hm29 ⟨⟨_, _, rfl⟩, rfl⟩ rfl rfl rfl rfl hm16 rfl rfl (fun _ => ⟨_, _, rfl, rfl⟩) rfl (Wp.mono h ?_)
  rintro _ m3 ⟨rfl, h⟩
  change Wp _ _ 126 _ [] _ _
  refine w_goto (q := 12) hm29 ⟨_, _, rfl⟩ ?_
  exact h
theorem v_X12_tellLaw_70_129 {d : Nat} {x1 : Int32} {x2 : Int32} {m : dM} {Q : dM → Prop} (h : ((0 ≤ (m.1 70 40).toInt ∧ (m.1 70 40).toInt < 260) ∧ c_X12_term_70 d (dSet m 97 (m.1 70 40).toNatClampNeg (0 : Int32)) (fun m1 => c_X12_must_70 d (4 : Int32) m1 (fun m2 => (((m2.1 70 13).toInt ≤ 0 → ((0 ≤ (((4 : Int32) * (m2.1 70 19)) + x1).toInt ∧ (((4 : Int32) * (m2.1 70 19)) + x1).toInt < 8) ∧ ((0 ≤ (((4 : Int32) * (m2.1 70 19)) + x1).toInt ∧ (((4 : Int32) * (m2.1 70 19)) + x1).toInt < 8) ∧ Q (dSet (dSet m2 95 (((4 : Int32) * (m2.1 70 19)) + x1).toNatClampNeg x2) 96 (((4 : Int32) * (m2.1 70 19)) + x1).toNatClampNeg (m2.1 70 40))))) ∧ (0 < (m2.1 70 13).toInt → Q m2)))))) : j_X12_tellLaw_70_129 (d + 1) x1 x2 m Q := by
  refine w_aload_n (q := 130) hm29 ⟨⟨_, _, rfl⟩, rfl⟩ rfl ?_
  refine w_getr (q := 133) hm29 ⟨⟨_, _, rfl⟩, rfl⟩ rfl ?_
  refine w_aload_n (q := 134) hm29 ⟨⟨_, _, rfl⟩, rfl⟩ rfl ?_
  refine w_getf (q := 137) (v := (m.1 70 40)) hm29 ⟨⟨_, _, rfl⟩, rfl⟩ rfl rfl ?_
  refine w_iconst (q := 138) hm29 ⟨⟨_, _, rfl⟩, rfl⟩ iconst_0 ?_
  obtain ⟨hi, h⟩ := h
  refine w_zast (q := 139) hm29 ⟨⟨_, _, rfl⟩, rfl⟩ rfl (by decide) hi rfl rfl ?_
  refine w_aload_n (q := 140) hm29 ⟨⟨_, _, rfl⟩, rfl⟩ rfl ?_
  refine w_call (q := 143) (n := 0) (vs := [.inr (.inr (some 70))]) (rest := []) (la := [oR 70]) hm29 ⟨⟨_, _, rfl⟩, rfl⟩ rfl rfl rfl rfl hm30 rfl rfl (fun _ => ⟨_, _, rfl, rfl⟩) rfl (Wp.mono h ?_)
  rintro _ m1 ⟨rfl, h⟩
  change Wp _ _ 143 _ [] _ _
  refine w_aload_n (q := 144) hm29 ⟨⟨_, _, rfl⟩, rfl⟩ rfl ?_
  refine w_iconst (q := 145) hm29 ⟨⟨_, _, rfl⟩, rfl⟩ iconst_4 ?_
  refine w_call (q := 148) (n := 0) (vs := [.inr (.inr (some 70)), .inl (4 : Int32)]) (rest := []) (la := [oR 70, oI (4 : Int32)]) hm29 ⟨⟨_, _, rfl⟩, rfl⟩ rfl rfl rfl rfl hm16 rfl rfl (fun _ => ⟨_, _, rfl, rfl⟩) rfl (Wp.mono h ?_)
  rintro _ m2 ⟨rfl, h⟩
  change Wp _ _ 148 _ [] _ _
  refine w_aload_n (q := 149) hm29 ⟨⟨_, _, rfl⟩, rfl⟩ rfl ?_
  refine w_getf (q := 152) (v := (m2.1 70 13)) hm29 ⟨⟨_, _, rfl⟩, rfl⟩ rfl rfl ?_
  refine w_if_le (q := 155) (X := (m2.1 70 13).toInt) hm29 ⟨⟨_, _, rfl⟩, rfl⟩ rfl (fun hc => ?_) (fun hc => ?_)
  · have h := h.1 hc
    refine w_aload_n (q := 157) hm29 ⟨⟨_, _, rfl⟩, rfl⟩ rfl ?_
    refine w_getr (q := 160) hm29 ⟨⟨_, _, rfl⟩, rfl⟩ rfl ?_
    refine w_iconst (q := 161) hm29 ⟨⟨_, _, rfl⟩, rfl⟩ iconst_4 ?_
    refine w_aload_n (q := 162) hm29 ⟨⟨_, _, rfl⟩, rfl⟩ rfl ?_
    refine w_getf (q := 165) (v := (m2.1 70 19)) hm29 ⟨⟨_, _, rfl⟩, rfl⟩ rfl rfl ?_
    refine w_imul (q := 166) hm29 ⟨⟨_, _, rfl⟩, rfl⟩ ?_
    refine w_iload_n (q := 167) hm29 ⟨⟨_, _, rfl⟩, rfl⟩ rfl ?_
    refine w_iadd (q := 168) hm29 ⟨⟨_, _, rfl⟩, rfl⟩ ?_
    refine w_iload_n (q := 169) hm29 ⟨⟨_, _, rfl⟩, rfl⟩ rfl ?_
    obtain ⟨hi, h⟩ := h
    refine w_iast (q := 170) hm29 ⟨⟨_, _, rfl⟩, rfl⟩ rfl hi rfl rfl ?_
    refine w_aload_n (q := 171) hm29 ⟨⟨_, _, rfl⟩, rfl⟩ rfl ?_
    refine w_getr (q := 174) hm29 ⟨⟨_, _, rfl⟩, rfl⟩ rfl ?_
    refine w_iconst (q := 175) hm29 ⟨⟨_, _, rfl⟩, rfl⟩ iconst_4 ?_
    refine w_aload_n (q := 176) hm29 ⟨⟨_, _, rfl⟩, rfl⟩ rfl ?_
    refine w_getf (q := 179) (v := (m2.1 70 19)) hm29 ⟨⟨_, _, rfl⟩, rfl⟩ rfl rfl ?_
    refine w_imul (q := 180) hm29 ⟨⟨_, _, rfl⟩, rfl⟩ ?_
    refine w_iload_n (q := 181) hm29 ⟨⟨_, _, rfl⟩, rfl⟩ rfl ?_
    refine w_iadd (q := 182) hm29 ⟨⟨_, _, rfl⟩, rfl⟩ ?_
    refine w_aload_n (q := 183) hm29 ⟨⟨_, _, rfl⟩, rfl⟩ rfl ?_
    refine w_getf (q := 186) (v := (m2.1 70 40)) hm29 ⟨⟨_, _, rfl⟩, rfl⟩ rfl rfl ?_
    obtain ⟨hi, h⟩ := h
    refine w_iast (q := 187) hm29 ⟨⟨_, _, rfl⟩, rfl⟩ rfl hi rfl rfl ?_
    exact w_retv hm29 ⟨⟨_, _, rfl⟩, rfl⟩ rfl h
  · have h := h.2 hc
    exact w_retv hm29 ⟨⟨_, _, rfl⟩, rfl⟩ rfl h
theorem v_X12_tellOne_70 {d : Nat} {m : dM} {Q : dM → Prop} (h : ((0 ≤ (m.1 70 11).toInt ∧ (m.1 70 11).toInt < 403) ∧ (((m.1 73 (m.1 70 11).toNatClampNeg).toInt = 20 → ((0 ≤ (m.1 70 19).toInt ∧ (m.1 70 19).toInt < 2) ∧ c_X12_roomFor_70 d (m.1 80 (m.1 70 19).toNatClampNeg) (7 : Int32) m (fun m1 => (((m1.1 70 13).toInt ≤ 0 → c_X12_named_70 d m1 (fun r2 m2 => ((0 ≤ (m2.1 70 19).toInt ∧ (m2.1 70 19).toInt < 2) ∧ c_X12_bounded_70 d (0 : Int32) (9 : Int32) m2 (fun r3 m3 => ((0 ≤ (((7 : Int32) * (m2.1 70 19)) + (m2.1 80 (m2.1 70 19).toNatClampNeg)).toInt ∧ (((7 : Int32) * (m2.1 70 19)) + (m2.1 80 (m2.1 70 19).toNatClampNeg)).toInt < 14) ∧ ((0 ≤ (m3.1 70 19).toInt ∧ (m3.1 70 19).toInt < 2) ∧ c_X12_endsName_70 d r2 (m3.1 80 (m3.1 70 19).toNatClampNeg) (dSet m3 81 (((7 : Int32) * (m2.1 70 19)) + (m2.1 80 (m2.1 70 19).toNatClampNeg)).toNatClampNeg r3) (fun m4 => (((m4.1 70 13).toInt ≠ 0 → j_X12_tellOne_70_371 (d + 1) m4 Q) ∧ ((m4.1 70 13).toInt = 0 → ((0 ≤ (m4.1 70 19).toInt ∧ (m4.1 70 19).toInt < 2) ∧ ((0 ≤ (m4.1 70 19).toInt ∧ (m4.1 70 19).toInt < 2) ∧ j_X12_tellOne_70_371 (d + 1) (dSet m4 80 (m4.1 70 19).toNatClampNeg ((m4.1 80 (m4.1 70 19).toNatClampNeg) + (1 : Int32))) Q))))))))))) ∧ (0 < (m1.1 70 13).toInt → Q m1))))) ∧ ((m.1 73 (m.1 70 11).toNatClampNeg).toInt = 21 → ((0 ≤ (m.1 70 19).toInt ∧ (m.1 70 19).toInt < 2) ∧ c_X12_roomFor_70 d (m.1 82 (m.1 70 19).toNatClampNeg) (10 : Int32) m (fun m5 => (((m5.1 70 13).toInt ≠ 0 → j_X12_tellOne_70_371 (d + 1) m5 Q) ∧ ((m5.1 70 13).toInt = 0 → c_X12_tellWire_70 d m5 (fun m6 => j_X12_tellOne_70_371 (d + 1) m6 Q)))))) ∧ ((m.1 73 (m.1 70 11).toNatClampNeg).toInt = 22 → ((0 ≤ (m.1 70 19).toInt ∧ (m.1 70 19).toInt < 2) ∧ c_X12_roomFor_70 d (m.1 86 (m.1 70 19).toNatClampNeg) (8 : Int32) m (fun m7 => (((m7.1 70 13).toInt ≠ 0 → j_X12_tellOne_70_371 (d + 1) m7 Q) ∧ ((m7.1 70 13).toInt = 0 → c_X12_tellUse_70 d m7 (fun m8 => j_X12_tellOne_70_371 (d + 1) m8 Q)))))) ∧ ((m.1 73 (m.1 70 11).toNatClampNeg).toInt = 23 → ((0 ≤ (m.1 70 11).toInt ∧ (m.1 70 11).toInt < 403) ∧ ((((m.1 73 (m.1 70 11).toNatClampNeg) - (23 : Int32)).toInt < 0 → j_X12_tellOne_70_349 (d + 1) ((m.1 73 (m.1 70 11).toNatClampNeg) - (23 : Int32)) m Q) ∧ (0 ≤ ((m.1 73 (m.1 70 11).toNatClampNeg) - (23 : Int32)).toInt → ((0 ≤ (m.1 70 11).toInt ∧ (m.1 70 11).toInt < 403) ∧ (((m.1 73 (m.1 70 11).toNatClampNeg).toInt ≤ 26 → j_X12_tellOne_70_354 (d + 1) ((m.1 73 (m.1 70 11).toNatClampNeg) - (23 : Int32)) m Q) ∧ (26 < (m.1 73 (m.1 70 11).toNatClampNeg).toInt → j_X12_tellOne_70_349 (d + 1) ((m.1 73 (m.1 70 11).toNatClampNeg) - (23 : Int32)) m Q))))))) ∧ ((m.1 73 (m.1 70 11).toNatClampNeg).toInt = 24 → ((0 ≤ (m.1 70 11).toInt ∧ (m.1 70 11).toInt < 403) ∧ ((((m.1 73 (m.1 70 11).toNatClampNeg) - (23 : Int32)).toInt < 0 → j_X12_tellOne_70_349 (d + 1) ((m.1 73 (m.1 70 11).toNatClampNeg) - (23 : Int32)) m Q) ∧ (0 ≤ ((m.1 73 (m.1 70 11).toNatClampNeg) - (23 : Int32)).toInt → ((0 ≤ (m.1 70 11).toInt ∧ (m.1 70 11).toInt < 403) ∧ (((m.1 73 (m.1 70 11).toNatClampNeg).toInt ≤ 26 → j_X12_tellOne_70_354 (d + 1) ((m.1 73 (m.1 70 11).toNatClampNeg) - (23 : Int32)) m Q) ∧ (26 < (m.1 73 (m.1 70 11).toNatClampNeg).toInt → j_X12_tellOne_70_349 (d + 1) ((m.1 73 (m.1 70 11).toNatClampNeg) - (23 : Int32)) m Q))))))) ∧ ((m.1 73 (m.1 70 11).toNatClampNeg).toInt = 25 → ((0 ≤ (m.1 70 11).toInt ∧ (m.1 70 11).toInt < 403) ∧ ((((m.1 73 (m.1 70 11).toNatClampNeg) - (23 : Int32)).toInt < 0 → j_X12_tellOne_70_349 (d + 1) ((m.1 73 (m.1 70 11).toNatClampNeg) - (23 : Int32)) m Q) ∧ (0 ≤ ((m.1 73 (m.1 70 11).toNatClampNeg) - (23 : Int32)).toInt → ((0 ≤ (m.1 70 11).toInt ∧ (m.1 70 11).toInt < 403) ∧ (((m.1 73 (m.1 70 11).toNatClampNeg).toInt ≤ 26 → j_X12_tellOne_70_354 (d + 1) ((m.1 73 (m.1 70 11).toNatClampNeg) - (23 : Int32)) m Q) ∧ (26 < (m.1 73 (m.1 70 11).toNatClampNeg).toInt → j_X12_tellOne_70_349 (d + 1) ((m.1 73 (m.1 70 11).toNatClampNeg) - (23 : Int32)) m Q))))))) ∧ ((m.1 73 (m.1 70 11).toNatClampNeg).toInt = 26 → ((0 ≤ (m.1 70 11).toInt ∧ (m.1 70 11).toInt < 403) ∧ ((((m.1 73 (m.1 70 11).toNatClampNeg) - (23 : Int32)).toInt < 0 → j_X12_tellOne_70_349 (d + 1) ((m.1 73 (m.1 70 11).toNatClampNeg) - (23 : Int32)) m Q) ∧ (0 ≤ ((m.1 73 (m.1 70 11).toNatClampNeg) - (23 : Int32)).toInt → ((0 ≤ (m.1 70 11).toInt ∧ (m.1 70 11).toInt < 403) ∧ (((m.1 73 (m.1 70 11).toNatClampNeg).toInt ≤ 26 → j_X12_tellOne_70_354 (d + 1) ((m.1 73 (m.1 70 11).toNatClampNeg) - (23 : Int32)) m Q) ∧ (26 < (m.1 73 (m.1 70 11).toNatClampNeg).toInt → j_X12_tellOne_70_349 (d + 1) ((m.1 73 (m.1 70 11).toNatClampNeg) - (23 : Int32)) m Q))))))) ∧ ((m.1 73 (m.1 70 11).toNatClampNeg).toInt = 27 → c_X12_goesOn_70 d m (fun m9 => c_X12_bounded_70 d (0 : Int32) (100 : Int32) m9 (fun r10 m10 => ((0 ≤ (m9.1 70 19).toInt ∧ (m9.1 70 19).toInt < 2) ∧ c_X12_bounded_70 d (0 : Int32) (19 : Int32) (dSet m10 91 (m9.1 70 19).toNatClampNeg r10) (fun r11 m11 => ((0 ≤ (m10.1 70 19).toInt ∧ (m10.1 70 19).toInt < 2) ∧ c_X12_must_70 d (4 : Int32) (dSet m11 92 (m10.1 70 19).toNatClampNeg r11) (fun m12 => j_X12_tellOne_70_371 (d + 1) m12 Q))))))) ∧ ((m.1 73 (m.1 70 11).toNatClampNeg).toInt = 28 → c_X12_goesOn_70 d m (fun m13 => c_X12_bounded_70 d (0 : Int32) (999 : Int32) m13 (fun r14 m14 => ((0 ≤ (m13.1 70 19).toInt ∧ (m13.1 70 19).toInt < 2) ∧ c_X12_must_70 d (4 : Int32) (dSet m14 93 (m13.1 70 19).toNatClampNeg r14) (fun m15 => j_X12_tellOne_70_371 (d + 1) m15 Q))))) ∧ ((m.1 73 (m.1 70 11).toNatClampNeg).toInt = 29 → c_X12_goesOn_70 d m (fun m16 => c_X12_bounded_70 d (0 : Int32) (9999 : Int32) m16 (fun r17 m17 => ((0 ≤ (m16.1 70 19).toInt ∧ (m16.1 70 19).toInt < 2) ∧ c_X12_must_70 d (4 : Int32) (dSet m17 94 (m16.1 70 19).toNatClampNeg r17) (fun m18 => j_X12_tellOne_70_371 (d + 1) m18 Q))))) ∧ ((m.1 73 (m.1 70 11).toNatClampNeg).toInt < 20 ∨ 29 < (m.1 73 (m.1 70 11).toNatClampNeg).toInt → ((0 ≤ (m.1 70 11).toInt ∧ (m.1 70 11).toInt < 403) ∧ ((((m.1 73 (m.1 70 11).toNatClampNeg) - (23 : Int32)).toInt < 0 → j_X12_tellOne_70_349 (d + 1) ((m.1 73 (m.1 70 11).toNatClampNeg) - (23 : Int32)) m Q) ∧ (0 ≤ ((m.1 73 (m.1 70 11).toNatClampNeg) - (23 : Int32)).toInt → ((0 ≤ (m.1 70 11).toInt ∧ (m.1 70 11).toInt < 403) ∧ (((m.1 73 (m.1 70 11).toNatClampNeg).toInt ≤ 26 → j_X12_tellOne_70_354 (d + 1) ((m.1 73 (m.1 70 11).toNatClampNeg) - (23 : Int32)) m Q) ∧ (26 < (m.1 73 (m.1 70 11).toNatClampNeg).toInt → j_X12_tellOne_70_349 (d + 1) ((m.1 73 (m.1 70 11).toNatClampNeg) - (23 : Int32)) m Q)))))))))) : c_X12_tellOne_70 (d + 1) m Q := by
  refine w_aload_n (q := 1) hm21 ⟨⟨_, _, rfl⟩, rfl⟩ rfl ?_
  refine w_getr (q := 4) hm21 ⟨⟨_, _, rfl⟩, rfl⟩ rfl ?_
  refine w_aload_n (q := 5) hm21 ⟨⟨_, _, rfl⟩, rfl⟩ rfl ?_
  refine w_getf (q := 8) (v := (m.1 70 11)) hm21 ⟨⟨_, _, rfl⟩, rfl⟩ rfl rfl ?_
  obtain ⟨hi, h⟩ := h
  refine w_iald (q := 9) (v := (m.1 73 (m.1 70 11).toNatClampNeg)) hm21 ⟨⟨_, _, rfl⟩, rfl⟩ rfl hi rfl rfl ?_
  refine w_tsw (X := (m.1 73 (m.1 70 11).toNatClampNeg).toInt) hm21 ⟨_, _, rfl⟩ (by decide) (by decide) rfl ((And.intro (fun hc => ?_) (And.intro (fun hc => ?_) (And.intro (fun hc => ?_) (And.intro (fun hc => ?_) (And.intro (fun hc => ?_) (And.intro (fun hc => ?_) (And.intro (fun hc => ?_) (And.intro (fun hc => ?_) (And.intro (fun hc => ?_) (And.intro (fun hc => ?_) trivial))))))))))) (fun hc => ?_)
  · have h := (h.1) hc
    change Wp _ _ 64 _ _ _ _
    refine w_aload_n (q := 65) hm21 ⟨⟨_, _, rfl⟩, rfl⟩ rfl ?_
    refine w_aload_n (q := 66) hm21 ⟨⟨_, _, rfl⟩, rfl⟩ rfl ?_
    refine w_getr (q := 69) hm21 ⟨⟨_, _, rfl⟩, rfl⟩ rfl ?_
    refine w_aload_n (q := 70) hm21 ⟨⟨_, _, rfl⟩, rfl⟩ rfl ?_
    refine w_getf (q := 73) (v := (m.1 70 19)) hm21 ⟨⟨_, _, rfl⟩, rfl⟩ rfl rfl ?_
    obtain ⟨hi, h⟩ := h
    refine w_iald (q := 74) (v := (m.1 80 (m.1 70 19).toNatClampNeg)) hm21 ⟨⟨_, _, rfl⟩, rfl⟩ rfl hi rfl rfl ?_
    refine w_bipush (q := 76) hm21 ⟨⟨_, _, rfl⟩, rfl⟩ bipush_7 ?_
    refine w_call (q := 79) (n := 0) (vs := [.inr (.inr (some 70)), .inl (m.1 80 (m.1 70 19).toNatClampNeg), .inl (7 : Int32)]) (rest := []) (la := [oR 70, oI (m.1 80 (m.1 70 19).toNatClampNeg), oI (7 : Int32)]) hm21 ⟨⟨_, _, rfl⟩, rfl⟩ rfl rfl rfl rfl hm20 rfl rfl (fun _ => ⟨_, _, rfl, rfl⟩) rfl (Wp.mono h ?_)
    rintro _ m1 ⟨rfl, h⟩
    change Wp _ _ 79 _ [] _ _
    refine w_aload_n (q := 80) hm21 ⟨⟨_, _, rfl⟩, rfl⟩ rfl ?_
    refine w_getf (q := 83) (v := (m1.1 70 13)) hm21 ⟨⟨_, _, rfl⟩, rfl⟩ rfl rfl ?_
    refine w_if_le (q := 86) (X := (m1.1 70 13).toInt) hm21 ⟨⟨_, _, rfl⟩, rfl⟩ rfl (fun hc => ?_) (fun hc => ?_)
    · have h := h.1 hc
      refine w_aload_n (q := 88) hm21 ⟨⟨_, _, rfl⟩, rfl⟩ rfl ?_
      refine w_call (q := 91) (n := 2) (vs := [.inr (.inr (some 70))]) (rest := []) (la := [oR 70, none, none]) hm21 ⟨⟨_, _, rfl⟩, rfl⟩ rfl rfl rfl rfl hm22 rfl rfl (fun _ => ⟨_, _, rfl, rfl⟩) rfl (Wp.mono h ?_)
      rintro _ m2 ⟨r2, rfl, h⟩
      change Wp _ _ 91 _ [.inl r2] _ _
      refine w_istore_n (q := 92) (l' := [oR 70, oI r2]) hm21 ⟨⟨_, _, rfl⟩, rfl⟩ rfl rfl rfl ?_
      refine w_aload_n (q := 93) hm21 ⟨⟨_, _, rfl⟩, rfl⟩ rfl ?_
      refine w_getr (q := 96) hm21 ⟨⟨_, _, rfl⟩, rfl⟩ rfl ?_
      refine w_bipush (q := 98) hm21 ⟨⟨_, _, rfl⟩, rfl⟩ bipush_7 ?_
      refine w_aload_n (q := 99) hm21 ⟨⟨_, _, rfl⟩, rfl⟩ rfl ?_
      refine w_getf (q := 102) (v := (m2.1 70 19)) hm21 ⟨⟨_, _, rfl⟩, rfl⟩ rfl rfl ?_
      refine w_imul (q := 103) hm21 ⟨⟨_, _, rfl⟩, rfl⟩ ?_
      refine w_aload_n (q := 104) hm21 ⟨⟨_, _, rfl⟩, rfl⟩ rfl ?_
      refine w_getr (q := 107) hm21 ⟨⟨_, _, rfl⟩, rfl⟩ rfl ?_
      refine w_aload_n (q := 108) hm21 ⟨⟨_, _, rfl⟩, rfl⟩ rfl ?_
      refine w_getf (q := 111) (v := (m2.1 70 19)) hm21 ⟨⟨_, _, rfl⟩, rfl⟩ rfl rfl ?_
      obtain ⟨hi, h⟩ := h
      refine w_iald (q := 112) (v := (m2.1 80 (m2.1 70 19).toNatClampNeg)) hm21 ⟨⟨_, _, rfl⟩, rfl⟩ rfl hi rfl rfl ?_
      refine w_iadd (q := 113) hm21 ⟨⟨_, _, rfl⟩, rfl⟩ ?_
      refine w_aload_n (q := 114) hm21 ⟨⟨_, _, rfl⟩, rfl⟩ rfl ?_
      refine w_iconst (q := 115) hm21 ⟨⟨_, _, rfl⟩, rfl⟩ iconst_0 ?_
      refine w_bipush (q := 117) hm21 ⟨⟨_, _, rfl⟩, rfl⟩ bipush_9 ?_
      refine w_call (q := 120) (n := 1) (vs := [.inr (.inr (some 70)), .inl (0 : Int32), .inl (9 : Int32)]) (rest := [.inl (((7 : Int32) * (m2.1 70 19)) + (m2.1 80 (m2.1 70 19).toNatClampNeg)), .inr (.inr (some 81))]) (la := [oR 70, oI (0 : Int32), oI (9 : Int32), none]) hm21 ⟨⟨_, _, rfl⟩, rfl⟩ rfl rfl rfl rfl hm25 rfl rfl (fun _ => ⟨_, _, rfl, rfl⟩) rfl (Wp.mono h ?_)
      rintro _ m3 ⟨r3, rfl, h⟩
      change Wp _ _ 120 _ [.inl r3, .inl (((7 : Int32) * (m2.1 70 19)) + (m2.1 80 (m2.1 70 19).toNatClampNeg)), .inr (.inr (some 81))] _ _
      obtain ⟨hi, h⟩ := h
      refine w_iast (q := 121) hm21 ⟨⟨_, _, rfl⟩, rfl⟩ rfl hi rfl rfl ?_
      refine w_aload_n (q := 122) hm21 ⟨⟨_, _, rfl⟩, rfl⟩ rfl ?_
      refine w_iload_n (q := 123) hm21 ⟨⟨_, _, rfl⟩, rfl⟩ rfl ?_
      refine w_aload_n (q := 124) hm21 ⟨⟨_, _, rfl⟩, rfl⟩ rfl ?_
      refine w_getr (q := 127) hm21 ⟨⟨_, _, rfl⟩, rfl⟩ rfl ?_
      refine w_aload_n (q := 128) hm21 ⟨⟨_, _, rfl⟩, rfl⟩ rfl ?_
      refine w_getf (q := 131) (v := (m3.1 70 19)) hm21 ⟨⟨_, _, rfl⟩, rfl⟩ rfl rfl ?_
      obtain ⟨hi, h⟩ := h
      refine w_iald (q := 132) (v := (m3.1 80 (m3.1 70 19).toNatClampNeg)) hm21 ⟨⟨_, _, rfl⟩, rfl⟩ rfl hi rfl rfl ?_
      refine w_call (q := 135) (n := 0) (vs := [.inr (.inr (some 70)), .inl r2, .inl (m3.1 80 (m3.1 70 19).toNatClampNeg)]) (rest := []) (la := [oR 70, oI r2, oI (m3.1 80 (m3.1 70 19).toNatClampNeg)]) hm21 ⟨⟨_, _, rfl⟩, rfl⟩ rfl rfl rfl rfl hm23 rfl rfl (fun _ => ⟨_, _, rfl, rfl⟩) rfl (Wp.mono h ?_)
      rintro _ m4 ⟨rfl, h⟩
      change Wp _ _ 135 _ [] _ _
      refine w_aload_n (q := 136) hm21 ⟨⟨_, _, rfl⟩, rfl⟩ rfl ?_
      refine w_getf (q := 139) (v := (m4.1 70 13)) hm21 ⟨⟨_, _, rfl⟩, rfl⟩ rfl rfl ?_
      refine w_if_ne (q := 142) (X := (m4.1 70 13).toInt) hm21 ⟨⟨_, _, rfl⟩, rfl⟩ rfl (fun hc => ?_) (fun hc => ?_)
      · have h := h.1 hc
        exact Wp.wk [false, false] h
      · have h := h.2 hc
        refine w_aload_n (q := 143) hm21 ⟨⟨_, _, rfl⟩, rfl⟩ rfl ?_
        refine w_getr (q := 146) hm21 ⟨⟨_, _, rfl⟩, rfl⟩ rfl ?_
        refine w_aload_n (q := 147) hm21 ⟨⟨_, _, rfl⟩, rfl⟩ rfl ?_
        refine w_getf (q := 150) (v := (m4.1 70 19)) hm21 ⟨⟨_, _, rfl⟩, rfl⟩ rfl rfl ?_
        refine w_dup2 (q := 151) hm21 ⟨⟨_, _, rfl⟩, rfl⟩ rfl ?_
        obtain ⟨hi, h⟩ := h
        refine w_iald (q := 152) (v := (m4.1 80 (m4.1 70 19).toNatClampNeg)) hm21 ⟨⟨_, _, rfl⟩, rfl⟩ rfl hi rfl rfl ?_
        refine w_iconst (q := 153) hm21 ⟨⟨_, _, rfl⟩, rfl⟩ iconst_1 ?_
        refine w_iadd (q := 154) hm21 ⟨⟨_, _, rfl⟩, rfl⟩ ?_
        obtain ⟨hi, h⟩ := h
        refine w_iast (q := 155) hm21 ⟨⟨_, _, rfl⟩, rfl⟩ rfl hi rfl rfl ?_
        refine w_goto (q := 371) hm21 ⟨_, _, rfl⟩ ?_
        exact Wp.wk [false, false] h
    · have h := h.2 hc
      exact w_retv hm21 ⟨⟨_, _, rfl⟩, rfl⟩ rfl h
  · have h := (h.2.1) hc
    change Wp _ _ 158 _ _ _ _
    refine w_aload_n (q := 159) hm21 ⟨⟨_, _, rfl⟩, rfl⟩ rfl ?_
    refine w_aload_n (q := 160) hm21 ⟨⟨_, _, rfl⟩, rfl⟩ rfl ?_
    refine w_getr (q := 163) hm21 ⟨⟨_, _, rfl⟩, rfl⟩ rfl ?_
    refine w_aload_n (q := 164) hm21 ⟨⟨_, _, rfl⟩, rfl⟩ rfl ?_
    refine w_getf (q := 167) (v := (m.1 70 19)) hm21 ⟨⟨_, _, rfl⟩, rfl⟩ rfl rfl ?_
    obtain ⟨hi, h⟩ := h
    refine w_iald (q := 168) (v := (m.1 82 (m.1 70 19).toNatClampNeg)) hm21 ⟨⟨_, _, rfl⟩, rfl⟩ rfl hi rfl rfl ?_
    refine w_bipush (q := 170) hm21 ⟨⟨_, _, rfl⟩, rfl⟩ bipush_10 ?_
    refine w_call (q := 173) (n := 0) (vs := [.inr (.inr (some 70)), .inl (m.1 82 (m.1 70 19).toNatClampNeg), .inl (10 : Int32)]) (rest := []) (la := [oR 70, oI (m.1 82 (m.1 70 19).toNatClampNeg), oI (10 : Int32)]) hm21 ⟨⟨_, _, rfl⟩, rfl⟩ rfl rfl rfl rfl hm20 rfl rfl (fun _ => ⟨_, _, rfl, rfl⟩) rfl (Wp.mono h ?_)
    rintro _ m5 ⟨rfl, h⟩
    change Wp _ _ 173 _ [] _ _
    refine w_aload_n (q := 174) hm21 ⟨⟨_, _, rfl⟩, rfl⟩ rfl ?_
    refine w_getf (q := 177) (v := (m5.1 70 13)) hm21 ⟨⟨_, _, rfl⟩, rfl⟩ rfl rfl ?_
    refine w_if_ne (q := 180) (X := (m5.1 70 13).toInt) hm21 ⟨⟨_, _, rfl⟩, rfl⟩ rfl (fun hc => ?_) (fun hc => ?_)
    · have h := h.1 hc
      exact Wp.wk [false, false] h
    · have h := h.2 hc
      refine w_aload_n (q := 181) hm21 ⟨⟨_, _, rfl⟩, rfl⟩ rfl ?_
      refine w_call (q := 184) (n := 4) (vs := [.inr (.inr (some 70))]) (rest := []) (la := [oR 70, none, none, none, none]) hm21 ⟨⟨_, _, rfl⟩, rfl⟩ rfl rfl rfl rfl hm27 rfl rfl (fun _ => ⟨_, _, rfl, rfl⟩) rfl (Wp.mono h ?_)
      rintro _ m6 ⟨rfl, h⟩
      change Wp _ _ 184 _ [] _ _
      refine w_goto (q := 371) hm21 ⟨_, _, rfl⟩ ?_
      exact Wp.wk [false, false] h
  · have h := (h.2.2.1) hc
    change Wp _ _ 187 _ _ _ _
    refine w_aload_n (q := 188) hm21 ⟨⟨_, _, rfl⟩, rfl⟩ rfl ?_
    refine w_aload_n (q := 189) hm21 ⟨⟨_, _, rfl⟩, rfl⟩ rfl ?_
    refine w_getr (q := 192) hm21 ⟨⟨_, _, rfl⟩, rfl⟩ rfl ?_
    refine w_aload_n (q := 193) hm21 ⟨⟨_, _, rfl⟩, rfl⟩ rfl ?_
    refine w_getf (q := 196) (v := (m.1 70 19)) hm21 ⟨⟨_, _, rfl⟩, rfl⟩ rfl rfl ?_
    obtain ⟨hi, h⟩ := h
    refine w_iald (q := 197) (v := (m.1 86 (m.1 70 19).toNatClampNeg)) hm21 ⟨⟨_, _, rfl⟩, rfl⟩ rfl hi rfl rfl ?_
    refine w_bipush (q := 199) hm21 ⟨⟨_, _, rfl⟩, rfl⟩ bipush_8 ?_
    refine w_call (q := 202) (n := 0) (vs := [.inr (.inr (some 70)), .inl (m.1 86 (m.1 70 19).toNatClampNeg), .inl (8 : Int32)]) (rest := []) (la := [oR 70, oI (m.1 86 (m.1 70 19).toNatClampNeg), oI (8 : Int32)]) hm21 ⟨⟨_, _, rfl⟩, rfl⟩ rfl rfl rfl rfl hm20 rfl rfl (fun _ => ⟨_, _, rfl, rfl⟩) rfl (Wp.mono h ?_)
    rintro _ m7 ⟨rfl, h⟩
    change Wp _ _ 202 _ [] _ _
    refine w_aload_n (q := 203) hm21 ⟨⟨_, _, rfl⟩, rfl⟩ rfl ?_
    refine w_getf (q := 206) (v := (m7.1 70 13)) hm21 ⟨⟨_, _, rfl⟩, rfl⟩ rfl rfl ?_
    refine w_if_ne (q := 209) (X := (m7.1 70 13).toInt) hm21 ⟨⟨_, _, rfl⟩, rfl⟩ rfl (fun hc => ?_) (fun hc => ?_)
    · have h := h.1 hc
      exact Wp.wk [false, false] h
    · have h := h.2 hc
      refine w_aload_n (q := 210) hm21 ⟨⟨_, _, rfl⟩, rfl⟩ rfl ?_
      refine w_call (q := 213) (n := 2) (vs := [.inr (.inr (some 70))]) (rest := []) (la := [oR 70, none, none]) hm21 ⟨⟨_, _, rfl⟩, rfl⟩ rfl rfl rfl rfl hm28 rfl rfl (fun _ => ⟨_, _, rfl, rfl⟩) rfl (Wp.mono h ?_)
      rintro _ m8 ⟨rfl, h⟩
      change Wp _ _ 213 _ [] _ _
      refine w_goto (q := 371) hm21 ⟨_, _, rfl⟩ ?_
      exact Wp.wk [false, false] h
  · have h := (h.2.2.2.1) hc
    change Wp _ _ 318 _ _ _ _
    refine w_aload_n (q := 319) hm21 ⟨⟨_, _, rfl⟩, rfl⟩ rfl ?_
    refine w_getr (q := 322) hm21 ⟨⟨_, _, rfl⟩, rfl⟩ rfl ?_
    refine w_aload_n (q := 323) hm21 ⟨⟨_, _, rfl⟩, rfl⟩ rfl ?_
    refine w_getf (q := 326) (v := (m.1 70 11)) hm21 ⟨⟨_, _, rfl⟩, rfl⟩ rfl rfl ?_
    obtain ⟨hi, h⟩ := h
    refine w_iald (q := 327) (v := (m.1 73 (m.1 70 11).toNatClampNeg)) hm21 ⟨⟨_, _, rfl⟩, rfl⟩ rfl hi rfl rfl ?_
    refine w_bipush (q := 329) hm21 ⟨⟨_, _, rfl⟩, rfl⟩ bipush_23 ?_
    refine w_isub (q := 330) hm21 ⟨⟨_, _, rfl⟩, rfl⟩ ?_
    refine w_istore_n (q := 331) (l' := [oR 70, oI ((m.1 73 (m.1 70 11).toNatClampNeg) - (23 : Int32))]) hm21 ⟨⟨_, _, rfl⟩, rfl⟩ rfl rfl rfl ?_
    refine w_iload_n (q := 332) hm21 ⟨⟨_, _, rfl⟩, rfl⟩ rfl ?_
    refine w_if_lt (q := 335) (X := ((m.1 73 (m.1 70 11).toNatClampNeg) - (23 : Int32)).toInt) hm21 ⟨⟨_, _, rfl⟩, rfl⟩ rfl (fun hc => ?_) (fun hc => ?_)
    · have h := h.1 hc
      exact h
    · have h := h.2 hc
      refine w_aload_n (q := 336) hm21 ⟨⟨_, _, rfl⟩, rfl⟩ rfl ?_
      refine w_getr (q := 339) hm21 ⟨⟨_, _, rfl⟩, rfl⟩ rfl ?_
      refine w_aload_n (q := 340) hm21 ⟨⟨_, _, rfl⟩, rfl⟩ rfl ?_
      refine w_getf (q := 343) (v := (m.1 70 11)) hm21 ⟨⟨_, _, rfl⟩, rfl⟩ rfl rfl ?_
      obtain ⟨hi, h⟩ := h
      refine w_iald (q := 344) (v := (m.1 73 (m.1 70 11).toNatClampNeg)) hm21 ⟨⟨_, _, rfl⟩, rfl⟩ rfl hi rfl rfl ?_
      refine w_bipush (q := 346) hm21 ⟨⟨_, _, rfl⟩, rfl⟩ bipush_26 ?_
      refine w_icmp_le (q := 349) (X := (m.1 73 (m.1 70 11).toNatClampNeg).toInt) (Y := 26) hm21 ⟨⟨_, _, rfl⟩, rfl⟩ rfl (by decide) (fun hc => ?_) (fun hc => ?_)
      · have h := h.1 hc
        exact h
      · have h := h.2 hc
        exact h
  · have h := (h.2.2.2.2.1) hc
    change Wp _ _ 318 _ _ _ _
    refine w_aload_n (q := 319) hm21 ⟨⟨_, _, rfl⟩, rfl⟩ rfl ?_
    refine w_getr (q := 322) hm21 ⟨⟨_, _, rfl⟩, rfl⟩ rfl ?_
    refine w_aload_n (q := 323) hm21 ⟨⟨_, _, rfl⟩, rfl⟩ rfl ?_
    refine w_getf (q := 326) (v := (m.1 70 11)) hm21 ⟨⟨_, _, rfl⟩, rfl⟩ rfl rfl ?_
    obtain ⟨hi, h⟩ := h
    refine w_iald (q := 327) (v := (m.1 73 (m.1 70 11).toNatClampNeg)) hm21 ⟨⟨_, _, rfl⟩, rfl⟩ rfl hi rfl rfl ?_
    refine w_bipush (q := 329) hm21 ⟨⟨_, _, rfl⟩, rfl⟩ bipush_23 ?_
    refine w_isub (q := 330) hm21 ⟨⟨_, _, rfl⟩, rfl⟩ ?_
    refine w_istore_n (q := 331) (l' := [oR 70, oI ((m.1 73 (m.1 70 11).toNatClampNeg) - (23 : Int32))]) hm21 ⟨⟨_, _, rfl⟩, rfl⟩ rfl rfl rfl ?_
    refine w_iload_n (q := 332) hm21 ⟨⟨_, _, rfl⟩, rfl⟩ rfl ?_
    refine w_if_lt (q := 335) (X := ((m.1 73 (m.1 70 11).toNatClampNeg) - (23 : Int32)).toInt) hm21 ⟨⟨_, _, rfl⟩, rfl⟩ rfl (fun hc => ?_) (fun hc => ?_)
    · have h := h.1 hc
      exact h
    · have h := h.2 hc
      refine w_aload_n (q := 336) hm21 ⟨⟨_, _, rfl⟩, rfl⟩ rfl ?_
      refine w_getr (q := 339) hm21 ⟨⟨_, _, rfl⟩, rfl⟩ rfl ?_
      refine w_aload_n (q := 340) hm21 ⟨⟨_, _, rfl⟩, rfl⟩ rfl ?_
      refine w_getf (q := 343) (v := (m.1 70 11)) hm21 ⟨⟨_, _, rfl⟩, rfl⟩ rfl rfl ?_
      obtain ⟨hi, h⟩ := h
      refine w_iald (q := 344) (v := (m.1 73 (m.1 70 11).toNatClampNeg)) hm21 ⟨⟨_, _, rfl⟩, rfl⟩ rfl hi rfl rfl ?_
      refine w_bipush (q := 346) hm21 ⟨⟨_, _, rfl⟩, rfl⟩ bipush_26 ?_
      refine w_icmp_le (q := 349) (X := (m.1 73 (m.1 70 11).toNatClampNeg).toInt) (Y := 26) hm21 ⟨⟨_, _, rfl⟩, rfl⟩ rfl (by decide) (fun hc => ?_) (fun hc => ?_)
      · have h := h.1 hc
        exact h
      · have h := h.2 hc
        exact h
  · have h := (h.2.2.2.2.2.1) hc
    change Wp _ _ 318 _ _ _ _
    refine w_aload_n (q := 319) hm21 ⟨⟨_, _, rfl⟩, rfl⟩ rfl ?_
    refine w_getr (q := 322) hm21 ⟨⟨_, _, rfl⟩, rfl⟩ rfl ?_
    refine w_aload_n (q := 323) hm21 ⟨⟨_, _, rfl⟩, rfl⟩ rfl ?_
    refine w_getf (q := 326) (v := (m.1 70 11)) hm21 ⟨⟨_, _, rfl⟩, rfl⟩ rfl rfl ?_
    obtain ⟨hi, h⟩ := h
    refine w_iald (q := 327) (v := (m.1 73 (m.1 70 11).toNatClampNeg)) hm21 ⟨⟨_, _, rfl⟩, rfl⟩ rfl hi rfl rfl ?_
    refine w_bipush (q := 329) hm21 ⟨⟨_, _, rfl⟩, rfl⟩ bipush_23 ?_
    refine w_isub (q := 330) hm21 ⟨⟨_, _, rfl⟩, rfl⟩ ?_
    refine w_istore_n (q := 331) (l' := [oR 70, oI ((m.1 73 (m.1 70 11).toNatClampNeg) - (23 : Int32))]) hm21 ⟨⟨_, _, rfl⟩, rfl⟩ rfl rfl rfl ?_
    refine w_iload_n (q := 332) hm21 ⟨⟨_, _, rfl⟩, rfl⟩ rfl ?_
    refine w_if_lt (q := 335) (X := ((m.1 73 (m.1 70 11).toNatClampNeg) - (23 : Int32)).toInt) hm21 ⟨⟨_, _, rfl⟩, rfl⟩ rfl (fun hc => ?_) (fun hc => ?_)
    · have h := h.1 hc
      exact h
    · have h := h.2 hc
      refine w_aload_n (q := 336) hm21 ⟨⟨_, _, rfl⟩, rfl⟩ rfl ?_
      refine w_getr (q := 339) hm21 ⟨⟨_, _, rfl⟩, rfl⟩ rfl ?_
      refine w_aload_n (q := 340) hm21 ⟨⟨_, _, rfl⟩, rfl⟩ rfl ?_
      refine w_getf (q := 343) (v := (m.1 70 11)) hm21 ⟨⟨_, _, rfl⟩, rfl⟩ rfl rfl ?_
      obtain ⟨hi, h⟩ := h
      refine w_iald (q := 344) (v := (m.1 73 (m.1 70 11).toNatClampNeg)) hm21 ⟨⟨_, _, rfl⟩, rfl⟩ rfl hi rfl rfl ?_
      refine w_bipush (q := 346) hm21 ⟨⟨_, _, rfl⟩, rfl⟩ bipush_26 ?_
      refine w_icmp_le (q := 349) (X := (m.1 73 (m.1 70 11).toNatClampNeg).toInt) (Y := 26) hm21 ⟨⟨_, _, rfl⟩, rfl⟩ rfl (by decide) (fun hc => ?_) (fun hc => ?_)
      · have h := h.1 hc
        exact h
      · have h := h.2 hc
        exact h
  · have h := (h.2.2.2.2.2.2.1) hc
    change Wp _ _ 318 _ _ _ _
    refine w_aload_n (q := 319) hm21 ⟨⟨_, _, rfl⟩, rfl⟩ rfl ?_
    refine w_getr (q := 322) hm21 ⟨⟨_, _, rfl⟩, rfl⟩ rfl ?_
    refine w_aload_n (q := 323) hm21 ⟨⟨_, _, rfl⟩, rfl⟩ rfl ?_
    refine w_getf (q := 326) (v := (m.1 70 11)) hm21 ⟨⟨_, _, rfl⟩, rfl⟩ rfl rfl ?_
    obtain ⟨hi, h⟩ := h
    refine w_iald (q := 327) (v := (m.1 73 (m.1 70 11).toNatClampNeg)) hm21 ⟨⟨_, _, rfl⟩, rfl⟩ rfl hi rfl rfl ?_
    refine w_bipush (q := 329) hm21 ⟨⟨_, _, rfl⟩, rfl⟩ bipush_23 ?_
    refine w_isub (q := 330) hm21 ⟨⟨_, _, rfl⟩, rfl⟩ ?_
    refine w_istore_n (q := 331) (l' := [oR 70, oI ((m.1 73 (m.1 70 11).toNatClampNeg) - (23 : Int32))]) hm21 ⟨⟨_, _, rfl⟩, rfl⟩ rfl rfl rfl ?_
    refine w_iload_n (q := 332) hm21 ⟨⟨_, _, rfl⟩, rfl⟩ rfl ?_
    refine w_if_lt (q := 335) (X := ((m.1 73 (m.1 70 11).toNatClampNeg) - (23 : Int32)).toInt) hm21 ⟨⟨_, _, rfl⟩, rfl⟩ rfl (fun hc => ?_) (fun hc => ?_)
    · have h := h.1 hc
      exact h
    · have h := h.2 hc
      refine w_aload_n (q := 336) hm21 ⟨⟨_, _, rfl⟩, rfl⟩ rfl ?_
      refine w_getr (q := 339) hm21 ⟨⟨_, _, rfl⟩, rfl⟩ rfl ?_
      refine w_aload_n (q := 340) hm21 ⟨⟨_, _, rfl⟩, rfl⟩ rfl ?_
      refine w_getf (q := 343) (v := (m.1 70 11)) hm21 ⟨⟨_, _, rfl⟩, rfl⟩ rfl rfl ?_
      obtain ⟨hi, h⟩ := h
      refine w_iald (q := 344) (v := (m.1 73 (m.1 70 11).toNatClampNeg)) hm21 ⟨⟨_, _, rfl⟩, rfl⟩ rfl hi rfl rfl ?_
      refine w_bipush (q := 346) hm21 ⟨⟨_, _, rfl⟩, rfl⟩ bipush_26 ?_
      refine w_icmp_le (q := 349) (X := (m.1 73 (m.1 70 11).toNatClampNeg).toInt) (Y := 26) hm21 ⟨⟨_, _, rfl⟩, rfl⟩ rfl (by decide) (fun hc => ?_) (fun hc => ?_)
      · have h := h.1 hc
        exact h
      · have h := h.2 hc
        exact h
  · have h := (h.2.2.2.2.2.2.2.1) hc
    change Wp _ _ 216 _ _ _ _
    refine w_aload_n (q := 217) hm21 ⟨⟨_, _, rfl⟩, rfl⟩ rfl ?_
    refine w_call (q := 220) (n := 0) (vs := [.inr (.inr (some 70))]) (rest := []) (la := [oR 70]) hm21 ⟨⟨_, _, rfl⟩, rfl⟩ rfl rfl rfl rfl hm15 rfl rfl (fun _ => ⟨_, _, rfl, rfl⟩) rfl (Wp.mono h ?_)
    rintro _ m9 ⟨rfl, h⟩
    change Wp _ _ 220 _ [] _ _
    refine w_aload_n (q := 221) hm21 ⟨⟨_, _, rfl⟩, rfl⟩ rfl ?_
    refine w_getr (q := 224) hm21 ⟨⟨_, _, rfl⟩, rfl⟩ rfl ?_
    refine w_aload_n (q := 225) hm21 ⟨⟨_, _, rfl⟩, rfl⟩ rfl ?_
    refine w_getf (q := 228) (v := (m9.1 70 19)) hm21 ⟨⟨_, _, rfl⟩, rfl⟩ rfl rfl ?_
    refine w_aload_n (q := 229) hm21 ⟨⟨_, _, rfl⟩, rfl⟩ rfl ?_
    refine w_iconst (q := 230) hm21 ⟨⟨_, _, rfl⟩, rfl⟩ iconst_0 ?_
    refine w_bipush (q := 232) hm21 ⟨⟨_, _, rfl⟩, rfl⟩ bipush_100 ?_
    refine w_call (q := 235) (n := 1) (vs := [.inr (.inr (some 70)), .inl (0 : Int32), .inl (100 : Int32)]) (rest := [.inl (m9.1 70 19), .inr (.inr (some 91))]) (la := [oR 70, oI (0 : Int32), oI (100 : Int32), none]) hm21 ⟨⟨_, _, rfl⟩, rfl⟩ rfl rfl rfl rfl hm25 rfl rfl (fun _ => ⟨_, _, rfl, rfl⟩) rfl (Wp.mono h ?_)
    rintro _ m10 ⟨r10, rfl, h⟩
    change Wp _ _ 235 _ [.inl r10, .inl (m9.1 70 19), .inr (.inr (some 91))] _ _
    obtain ⟨hi, h⟩ := h
    refine w_iast (q := 236) hm21 ⟨⟨_, _, rfl⟩, rfl⟩ rfl hi rfl rfl ?_
    refine w_aload_n (q := 237) hm21 ⟨⟨_, _, rfl⟩, rfl⟩ rfl ?_
    refine w_getr (q := 240) hm21 ⟨⟨_, _, rfl⟩, rfl⟩ rfl ?_
    refine w_aload_n (q := 241) hm21 ⟨⟨_, _, rfl⟩, rfl⟩ rfl ?_
    refine w_getf (q := 244) (v := (m10.1 70 19)) hm21 ⟨⟨_, _, rfl⟩, rfl⟩ rfl rfl ?_
    refine w_aload_n (q := 245) hm21 ⟨⟨_, _, rfl⟩, rfl⟩ rfl ?_
    refine w_iconst (q := 246) hm21 ⟨⟨_, _, rfl⟩, rfl⟩ iconst_0 ?_
    refine w_bipush (q := 248) hm21 ⟨⟨_, _, rfl⟩, rfl⟩ bipush_19 ?_
    refine w_call (q := 251) (n := 1) (vs := [.inr (.inr (some 70)), .inl (0 : Int32), .inl (19 : Int32)]) (rest := [.inl (m10.1 70 19), .inr (.inr (some 92))]) (la := [oR 70, oI (0 : Int32), oI (19 : Int32), none]) hm21 ⟨⟨_, _, rfl⟩, rfl⟩ rfl rfl rfl rfl hm25 rfl rfl (fun _ => ⟨_, _, rfl, rfl⟩) rfl (Wp.mono h ?_)
    rintro _ m11 ⟨r11, rfl, h⟩
    change Wp _ _ 251 _ [.inl r11, .inl (m10.1 70 19), .inr (.inr (some 92))] _ _
    obtain ⟨hi, h⟩ := h
    refine w_iast (q := 252) hm21 ⟨⟨_, _, rfl⟩, rfl⟩ rfl hi rfl rfl ?_
    refine w_aload_n (q := 253) hm21 ⟨⟨_, _, rfl⟩, rfl⟩ rfl ?_
    refine w_iconst (q := 254) hm21 ⟨⟨_, _, rfl⟩, rfl⟩ iconst_4 ?_
    refine w_call (q := 257) (n := 0) (vs := [.inr (.inr (some 70)), .inl (4 : Int32)]) (rest := []) (la := [oR 70, oI (4 : Int32)]) hm21 ⟨⟨_, _, rfl⟩, rfl⟩ rfl rfl rfl rfl hm16 rfl rfl (fun _ => ⟨_, _, rfl, rfl⟩) rfl (Wp.mono h ?_)
    rintro _ m12 ⟨rfl, h⟩
    change Wp _ _ 257 _ [] _ _
    refine w_goto (q := 371) hm21 ⟨_, _, rfl⟩ ?_
    exact Wp.wk [false, false] h
  · have h := (h.2.2.2.2.2.2.2.2.1) hc
    change Wp _ _ 260 _ _ _ _
    refine w_aload_n (q := 261) hm21 ⟨⟨_, _, rfl⟩, rfl⟩ rfl ?_
    refine w_call (q := 264) (n := 0) (vs := [.inr (.inr (some 70))]) (rest := []) (la := [oR 70]) hm21 ⟨⟨_, _, rfl⟩, rfl⟩ rfl rfl rfl rfl hm15 rfl rfl (fun _ => ⟨_, _, rfl, rfl⟩) rfl (Wp.mono h ?_)
    rintro _ m13 ⟨rfl, h⟩
    change Wp _ _ 264 _ [] _ _
    refine w_aload_n (q := 265) hm21 ⟨⟨_, _, rfl⟩, rfl⟩ rfl ?_
    refine w_getr (q := 268) hm21 ⟨⟨_, _, rfl⟩, rfl⟩ rfl ?_
    refine w_aload_n (q := 269) hm21 ⟨⟨_, _, rfl⟩, rfl⟩ rfl ?_
    refine w_getf (q := 272) (v := (m13.1 70 19)) hm21 ⟨⟨_, _, rfl⟩, rfl⟩ rfl rfl ?_
    refine w_aload_n (q := 273) hm21 ⟨⟨_, _, rfl⟩, rfl⟩ rfl ?_
    refine w_iconst (q := 274) hm21 ⟨⟨_, _, rfl⟩, rfl⟩ iconst_0 ?_
    refine w_sipush (q := 277) hm21 ⟨⟨_, _, rfl⟩, rfl⟩ sipush_999 ?_
    refine w_call (q := 280) (n := 1) (vs := [.inr (.inr (some 70)), .inl (0 : Int32), .inl (999 : Int32)]) (rest := [.inl (m13.1 70 19), .inr (.inr (some 93))]) (la := [oR 70, oI (0 : Int32), oI (999 : Int32), none]) hm21 ⟨⟨_, _, rfl⟩, rfl⟩ rfl rfl rfl rfl hm25 rfl rfl (fun _ => ⟨_, _, rfl, rfl⟩) rfl (Wp.mono h ?_)
    rintro _ m14 ⟨r14, rfl, h⟩
    change Wp _ _ 280 _ [.inl r14, .inl (m13.1 70 19), .inr (.inr (some 93))] _ _
    obtain ⟨hi, h⟩ := h
    refine w_iast (q := 281) hm21 ⟨⟨_, _, rfl⟩, rfl⟩ rfl hi rfl rfl ?_
    refine w_aload_n (q := 282) hm21 ⟨⟨_, _, rfl⟩, rfl⟩ rfl ?_
    refine w_iconst (q := 283) hm21 ⟨⟨_, _, rfl⟩, rfl⟩ iconst_4 ?_
    refine w_call (q := 286) (n := 0) (vs := [.inr (.inr (some 70)), .inl (4 : Int32)]) (rest := []) (la := [oR 70, oI (4 : Int32)]) hm21 ⟨⟨_, _, rfl⟩, rfl⟩ rfl rfl rfl rfl hm16 rfl rfl (fun _ => ⟨_, _, rfl, rfl⟩) rfl (Wp.mono h ?_)
    rintro _ m15 ⟨rfl, h⟩
    change Wp _ _ 286 _ [] _ _
    refine w_goto (q := 371) hm21 ⟨_, _, rfl⟩ ?_
    exact Wp.wk [false, false] h
  · have h := (h.2.2.2.2.2.2.2.2.2.1) hc
    change Wp _ _ 289 _ _ _ _
    refine w_aload_n (q := 290) hm21 ⟨⟨_, _, rfl⟩, rfl⟩ rfl ?_
    refine w_call (q := 293) (n := 0) (vs := [.inr (.inr (some 70))]) (rest := []) (la := [oR 70]) hm21 ⟨⟨_, _, rfl⟩, rfl⟩ rfl rfl rfl rfl hm15 rfl rfl (fun _ => ⟨_, _, rfl, rfl⟩) rfl (Wp.mono h ?_)
    rintro _ m16 ⟨rfl, h⟩
    change Wp _ _ 293 _ [] _ _
    refine w_aload_n (q := 294) hm21 ⟨⟨_, _, rfl⟩, rfl⟩ rfl ?_
    refine w_getr (q := 297) hm21 ⟨⟨_, _, rfl⟩, rfl⟩ rfl ?_
    refine w_aload_n (q := 298) hm21 ⟨⟨_, _, rfl⟩, rfl⟩ rfl ?_
    refine w_getf (q := 301) (v := (m16.1 70 19)) hm21 ⟨⟨_, _, rfl⟩, rfl⟩ rfl rfl ?_
    refine w_aload_n (q := 302) hm21 ⟨⟨_, _, rfl⟩, rfl⟩ rfl ?_
    refine w_iconst (q := 303) hm21 ⟨⟨_, _, rfl⟩, rfl⟩ iconst_0 ?_
    refine w_sipush (q := 306) hm21 ⟨⟨_, _, rfl⟩, rfl⟩ sipush_9999 ?_
    refine w_call (q := 309) (n := 1) (vs := [.inr (.inr (some 70)), .inl (0 : Int32), .inl (9999 : Int32)]) (rest := [.inl (m16.1 70 19), .inr (.inr (some 94))]) (la := [oR 70, oI (0 : Int32), oI (9999 : Int32), none]) hm21 ⟨⟨_, _, rfl⟩, rfl⟩ rfl rfl rfl rfl hm25 rfl rfl (fun _ => ⟨_, _, rfl, rfl⟩) rfl (Wp.mono h ?_)
    rintro _ m17 ⟨r17, rfl, h⟩
    change Wp _ _ 309 _ [.inl r17, .inl (m16.1 70 19), .inr (.inr (some 94))] _ _
    obtain ⟨hi, h⟩ := h
    refine w_iast (q := 310) hm21 ⟨⟨_, _, rfl⟩, rfl⟩ rfl hi rfl rfl ?_
    refine w_aload_n (q := 311) hm21 ⟨⟨_, _, rfl⟩, rfl⟩ rfl ?_
    refine w_iconst (q := 312) hm21 ⟨⟨_, _, rfl⟩, rfl⟩ iconst_4 ?_
    refine w_call (q := 315) (n := 0) (vs := [.inr (.inr (some 70)), .inl (4 : Int32)]) (rest := []) (la := [oR 70, oI (4 : Int32)]) hm21 ⟨⟨_, _, rfl⟩, rfl⟩ rfl rfl rfl rfl hm16 rfl rfl (fun _ => ⟨_, _, rfl, rfl⟩) rfl (Wp.mono h ?_)
    rintro _ m18 ⟨rfl, h⟩
    change Wp _ _ 315 _ [] _ _
    refine w_goto (q := 371) hm21 ⟨_, _, rfl⟩ ?_
    exact Wp.wk [false, false] h
  · have h := (h.2.2.2.2.2.2.2.2.2.2) hc
    change Wp _ _ 318 _ _ _ _
    refine w_aload_n (q := 319) hm21 ⟨⟨_, _, rfl⟩, rfl⟩ rfl ?_
    refine w_getr (q := 322) hm21 ⟨⟨_, _, rfl⟩, rfl⟩ rfl ?_
    refine w_aload_n (q := 323) hm21 ⟨⟨_, _, rfl⟩, rfl⟩ rfl ?_
    refine w_getf (q := 326) (v := (m.1 70 11)) hm21 ⟨⟨_, _, rfl⟩, rfl⟩ rfl rfl ?_
    obtain ⟨hi, h⟩ := h
    refine w_iald (q := 327) (v := (m.1 73 (m.1 70 11).toNatClampNeg)) hm21 ⟨⟨_, _, rfl⟩, rfl⟩ rfl hi rfl rfl ?_
    refine w_bipush (q := 329) hm21 ⟨⟨_, _, rfl⟩, rfl⟩ bipush_23 ?_
    refine w_isub (q := 330) hm21 ⟨⟨_, _, rfl⟩, rfl⟩ ?_
    refine w_istore_n (q := 331) (l' := [oR 70, oI ((m.1 73 (m.1 70 11).toNatClampNeg) - (23 : Int32))]) hm21 ⟨⟨_, _, rfl⟩, rfl⟩ rfl rfl rfl ?_
    refine w_iload_n (q := 332) hm21 ⟨⟨_, _, rfl⟩, rfl⟩ rfl ?_
    refine w_if_lt (q := 335) (X := ((m.1 73 (m.1 70 11).toNatClampNeg) - (23 : Int32)).toInt) hm21 ⟨⟨_, _, rfl⟩, rfl⟩ rfl (fun hc => ?_) (fun hc => ?_)
    · have h := h.1 hc
      exact h
    · have h := h.2 hc
      refine w_aload_n (q := 336) hm21 ⟨⟨_, _, rfl⟩, rfl⟩ rfl ?_
      refine w_getr (q := 339) hm21 ⟨⟨_, _, rfl⟩, rfl⟩ rfl ?_
      refine w_aload_n (q := 340) hm21 ⟨⟨_, _, rfl⟩, rfl⟩ rfl ?_
      refine w_getf (q := 343) (v := (m.1 70 11)) hm21 ⟨⟨_, _, rfl⟩, rfl⟩ rfl rfl ?_
      obtain ⟨hi, h⟩ := h
      refine w_iald (q := 344) (v := (m.1 73 (m.1 70 11).toNatClampNeg)) hm21 ⟨⟨_, _, rfl⟩, rfl⟩ rfl hi rfl rfl ?_
      refine w_bipush (q := 346) hm21 ⟨⟨_, _, rfl⟩, rfl⟩ bipush_26 ?_
      refine w_icmp_le (q := 349) (X := (m.1 73 (m.1 70 11).toNatClampNeg).toInt) (Y := 26) hm21 ⟨⟨_, _, rfl⟩, rfl⟩ rfl (by decide) (fun hc => ?_) (fun hc => ?_)
      · have h := h.1 hc
        exact h
      · have h := h.2 hc
        exact h
theorem v_X12_tellOne_70_349 {d : Nat} {x1 : Int32} {m : dM} {Q : dM → Prop} (h : c_X12_fail_70 d (1 : Int32) m (fun m1 => j_X12_tellOne_70_354 (d + 1) x1 m1 Q)) : j_X12_tellOne_70_349 (d + 1) x1 m Q := by
  refine w_aload_n (q := 350) hm21 ⟨⟨_, _, rfl⟩, rfl⟩ rfl ?_
  refine w_iconst (q := 351) hm21 ⟨⟨_, _, rfl⟩, rfl⟩ iconst_1 ?_
  refine w_call (q := 354) (n := 0) (vs := [.inr (.inr (some 70)), .inl (1 : Int32)]) (rest := []) (la := [oR 70, oI (1 : Int32)]) hm21 ⟨⟨_, _, rfl⟩, rfl⟩ rfl rfl rfl rfl hm13 rfl rfl (fun _ => ⟨_, _, rfl, rfl⟩) rfl (Wp.mono h ?_)
  rintro _ m1 ⟨rfl, h⟩
  change Wp _ _ 354 _ [] _ _
  exact h
theorem v_X12_tellOne_70_354 {d : Nat} {x1 : Int32} {m : dM} {Q : dM → Prop} (h : (((m.1 70 13).toInt ≤ 0 → c_X12_goesOn_70 d m (fun m1 => c_X12_tellLaw_70 d x1 m1 (fun m2 => j_X12_tellOne_70_371 (d + 1) m2 Q))) ∧ (0 < (m.1 70 13).toInt → Q m))) : j_X12_tellOne_70_354 (d + 1) x1 m Q := by
  refine w_aload_n (q := 355) hm21 ⟨⟨_, _, rfl⟩, rfl⟩ rfl ?_
  refine w_getf (q := 358) (v := (m.1 70 13)) hm21 ⟨⟨_, _, rfl⟩, rfl⟩ rfl rfl ?_
  refine w_if_le (q := 361) (X := (m.1 70 13).toInt) hm21 ⟨⟨_, _, rfl⟩, rfl⟩ rfl (fun hc => ?_) (fun hc => ?_)
  · have h := h.1 hc
    refine w_aload_n (q := 363) hm21 ⟨⟨_, _, rfl⟩, rfl⟩ rfl ?_
    refine w_call (q := 366) (n := 0) (vs := [.inr (.inr (some 70))]) (rest := []) (la := [oR 70]) hm21 ⟨⟨_, _, rfl⟩, rfl⟩ rfl rfl rfl rfl hm15 rfl rfl (fun _ => ⟨_, _, rfl, rfl⟩) rfl (Wp.mono h ?_)
    rintro _ m1 ⟨rfl, h⟩
    change Wp _ _ 366 _ [] _ _
    refine w_aload_n (q := 367) hm21 ⟨⟨_, _, rfl⟩, rfl⟩ rfl ?_
    refine w_iload_n (q := 368) hm21 ⟨⟨_, _, rfl⟩, rfl⟩ rfl ?_
    refine w_call (q := 371) (n := 2) (vs := [.inr (.inr (some 70)), .inl x1]) (rest := []) (la := [oR 70, oI x1, none, none]) hm21 ⟨⟨_, _, rfl⟩, rfl⟩ rfl rfl rfl rfl hm29 rfl rfl (fun _ => ⟨_, _, rfl, rfl⟩) rfl (Wp.mono h ?_)
    rintro _ m2 ⟨rfl, h⟩
    change Wp _ _ 371 _ [] _ _
    exact Wp.wk [false, false] h
  · have h := h.2 hc
    exact w_retv hm21 ⟨⟨_, _, rfl⟩, rfl⟩ rfl h
theorem v_X12_tellOne_70_371 {d : Nat} {m : dM} {Q : dM → Prop} (h : Q m) : j_X12_tellOne_70_371 (d + 1) m Q := by
  exact w_retv hm21 ⟨⟨_, _, rfl⟩, rfl⟩ rfl h
