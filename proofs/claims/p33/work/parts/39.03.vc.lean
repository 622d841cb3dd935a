theorem v_X3_isWired_20 {d : Nat} {x1 : Int32} {x2 : Int32} {m : dM} {Q : Int32 → dM → Prop} (h : j_X3_isWired_20_11 (d + 1) (((1 : Int32) <<< (x1 &&& 31)) ||| ((1 : Int32) <<< (x2 &&& 31))) (0 : Int32) m Q) : c_X3_isWired_20 (d + 1) x1 x2 m Q := by
  refine w_iconst (q := 1) hm171 ⟨⟨_, _, rfl⟩, rfl⟩ iconst_1 ?_
  refine w_iload_n (q := 2) hm171 ⟨⟨_, _, rfl⟩, rfl⟩ rfl ?_
  refine w_ishl (q := 3) hm171 ⟨⟨_, _, rfl⟩, rfl⟩ ?_
  refine w_iconst (q := 4) hm171 ⟨⟨_, _, rfl⟩, rfl⟩ iconst_1 ?_
  refine w_iload_n (q := 5) hm171 ⟨⟨_, _, rfl⟩, rfl⟩ rfl ?_
  refine w_ishl (q := 6) hm171 ⟨⟨_, _, rfl⟩, rfl⟩ ?_
  refine w_ior (q := 7) hm171 ⟨⟨_, _, rfl⟩, rfl⟩ ?_
  refine w_istore_n (q := 8) (l' := [oR 20, oI x1, oI x2, oI (((1 : Int32) <<< (x1 &&& 31)) ||| ((1 : Int32) <<< (x2 &&& 31))), none]) hm171 ⟨⟨_, _, rfl⟩, rfl⟩ rfl rfl rfl ?_
  refine w_iconst (q := 9) hm171 ⟨⟨_, _, rfl⟩, rfl⟩ iconst_0 ?_
  refine w_istore (q := 11) (l' := [oR 20, oI x1, oI x2, oI (((1 : Int32) <<< (x1 &&& 31)) ||| ((1 : Int32) <<< (x2 &&& 31))), oI (0 : Int32)]) hm171 ⟨⟨_, _, rfl⟩, rfl⟩ rfl rfl rfl ?_
  exact Wp.wk [true, false, false, true, true] h
theorem v_X3_isWired_20_11 {d : Nat} {x3 : Int32} {x4 : Int32} {m : dM} {Q : Int32 → dM → Prop} (h : (((m.1 20 1).toInt ≤ x4.toInt → Q (0 : Int32) m) ∧ (x4.toInt < (m.1 20 1).toInt → c_X3_endsOf_20 d x4 m (fun r1 m1 => ((r1.toInt ≠ x3.toInt → j_X3_isWired_20_11 (d + 1) x3 (x4 + (1 : Int32)) m1 Q) ∧ (r1.toInt = x3.toInt → Q (1 : Int32) m1)))))) : j_X3_isWired_20_11 (d + 1) x3 x4 m Q := by
  refine w_iload (q := 13) hm171 ⟨⟨_, _, rfl⟩, rfl⟩ rfl ?_
  refine w_aload_n (q := 14) hm171 ⟨⟨_, _, rfl⟩, rfl⟩ rfl ?_
  refine w_getf (q := 17) (v := (m.1 20 1)) hm171 ⟨⟨_, _, rfl⟩, rfl⟩ rfl rfl ?_
  refine w_icmp_ge (q := 20) (X := x4.toInt) (Y := (m.1 20 1).toInt) hm171 ⟨⟨_, _, rfl⟩, rfl⟩ rfl rfl (fun hc => ?_) (fun hc => ?_)
  · have h := h.1 hc
    refine w_iconst (q := 39) hm171 ⟨⟨_, _, rfl⟩, rfl⟩ iconst_0 ?_
    exact w_retz hm171 ⟨⟨_, _, rfl⟩, rfl⟩ rfl (by decide) h
  · have h := h.2 hc
    refine w_aload_n (q := 21) hm171 ⟨⟨_, _, rfl⟩, rfl⟩ rfl ?_
    refine w_iload (q := 23) hm171 ⟨⟨_, _, rfl⟩, rfl⟩ rfl ?_
    refine w_call (q := 26) (n := 0) (vs := [.inr (.inr (some 20)), .inl x4]) (rest := []) (la := [oR 20, oI x4]) hm171 ⟨⟨_, _, rfl⟩, rfl⟩ rfl rfl rfl rfl hm172 rfl rfl (fun _ => ⟨_, _, rfl, rfl⟩) rfl (Wp.mono h ?_)
    rintro _ m1 ⟨r1, rfl, h⟩
    change Wp _ _ 26 _ [.inl r1] _ _
    refine w_iload_n (q := 27) hm171 ⟨⟨_, _, rfl⟩, rfl⟩ rfl ?_
    refine w_icmp_ne (q := 30) (X := r1.toInt) (Y := x3.toInt) hm171 ⟨⟨_, _, rfl⟩, rfl⟩ rfl rfl (fun hc => ?_) (fun hc => ?_)
    · have h := h.1 hc
      refine w_iinc (q := 35) (l' := [oR 20, none, none, oI x3, oI (x4 + (1 : Int32))]) hm171 ⟨⟨_, _, rfl⟩, rfl⟩ rfl rfl rfl iconst_1 rfl ?_
      refine w_goto (q := 11) hm171 ⟨_, _, rfl⟩ ?_
      exact h
    · have h := h.2 hc
      refine w_iconst (q := 31) hm171 ⟨⟨_, _, rfl⟩, rfl⟩ iconst_1 ?_
      exact w_retz hm171 ⟨⟨_, _, rfl⟩, rfl⟩ rfl (by decide) h
theorem v_X5_takeWire_44 {d : Nat} {m : dM} {Q : Int32 → dM → Prop} (h : (((m.1 20 1).toInt < 10 → c_X5_flatNamed_44 d m (fun r1 m1 => ((r1.toInt ≠ (-1) → c_X5_flatNamed_44 d (dSet m1 44 4 ((m1.1 44 4) + (1 : Int32))) (fun r2 m2 => ((r2.toInt ≠ (-1) → ((r1.toInt = r2.toInt → j_X5_takeWire_44_71 (d + 1) m2 Q) ∧ (r1.toInt ≠ r2.toInt → c_X3_isWired_20 d r1 r2 m2 (fun r3 m3 => ((r3.toInt = 0 → ((0 ≤ (m.1 20 1).toInt ∧ (m.1 20 1).toInt < 10) ∧ ((0 ≤ (m.1 20 1).toInt ∧ (m.1 20 1).toInt < 10) ∧ c_X8_numberAt_38 d ((m3.1 44 4) + (1 : Int32)) (dSet (dSet (dSet m3 44 4 ((m3.1 44 4) + (1 : Int32))) 22 (m.1 20 1).toNatClampNeg r1) 23 (m.1 20 1).toNatClampNeg r2) (fun r4 m4 => ((0 ≤ (m.1 20 1).toInt ∧ (m.1 20 1).toInt < 10) ∧ c_X5_isWithin_44 d (1 : Int32) (99 : Int32) (dSet (dSet m4 24 (m.1 20 1).toNatClampNeg r4) 20 1 ((m4.1 20 1) + (1 : Int32))) (fun r5 m5 => (r5 = 0 ∨ r5 = 1) ∧ Q r5 m5)))))) ∧ (r3.toInt ≠ 0 → j_X5_takeWire_44_71 (d + 1) m3 Q)))))) ∧ (r2.toInt = (-1) → Q (0 : Int32) m2)))) ∧ (r1.toInt = (-1) → Q (0 : Int32) m1)))) ∧ (10 ≤ (m.1 20 1).toInt → c_X5_fail_44 d (2 : Int32) m (fun r6 m6 => (r6 = 0 ∨ r6 = 1) ∧ Q r6 m6)))) : c_X5_takeWire_44 (d + 1) m Q := by
  refine w_aload_n (q := 1) hm191 ⟨⟨_, _, rfl⟩, rfl⟩ rfl ?_
  refine w_getr (q := 4) hm191 ⟨⟨_, _, rfl⟩, rfl⟩ rfl ?_
  refine w_getf (q := 7) (v := (m.1 20 1)) hm191 ⟨⟨_, _, rfl⟩, rfl⟩ rfl rfl ?_
  refine w_istore_n (q := 8) (l' := [oR 44, oI (m.1 20 1), none, none]) hm191 ⟨⟨_, _, rfl⟩, rfl⟩ rfl rfl rfl ?_
  refine w_iload_n (q := 9) hm191 ⟨⟨_, _, rfl⟩, rfl⟩ rfl ?_
  refine w_bipush (q := 11) hm191 ⟨⟨_, _, rfl⟩, rfl⟩ bipush_10 ?_
  refine w_icmp_lt (q := 14) (X := (m.1 20 1).toInt) (Y := 10) hm191 ⟨⟨_, _, rfl⟩, rfl⟩ rfl (by decide) (fun hc => ?_) (fun hc => ?_)
  · have h := h.1 hc
    refine w_aload_n (q := 21) hm191 ⟨⟨_, _, rfl⟩, rfl⟩ rfl ?_
    refine w_call (q := 24) (n := 1) (vs := [.inr (.inr (some 44))]) (rest := []) (la := [oR 44, none]) hm191 ⟨⟨_, _, rfl⟩, rfl⟩ rfl rfl rfl rfl hm198 rfl rfl (fun _ => ⟨_, _, rfl, rfl⟩) rfl (Wp.mono h ?_)
    rintro _ m1 ⟨r1, rfl, h⟩
    change Wp _ _ 24 _ [.inl r1] _ _
    refine w_istore_n (q := 25) (l' := [oR 44, oI (m.1 20 1), oI r1, none]) hm191 ⟨⟨_, _, rfl⟩, rfl⟩ rfl rfl rfl ?_
    refine w_iload_n (q := 26) hm191 ⟨⟨_, _, rfl⟩, rfl⟩ rfl ?_
    refine w_iconst (q := 27) hm191 ⟨⟨_, _, rfl⟩, rfl⟩ iconst_m1 ?_
    refine w_icmp_ne (q := 30) (X := r1.toInt) (Y := (-1)) hm191 ⟨⟨_, _, rfl⟩, rfl⟩ rfl (by decide) (fun hc => ?_) (fun hc => ?_)
    · have h := h.1 hc
      refine w_aload_n (q := 33) hm191 ⟨⟨_, _, rfl⟩, rfl⟩ rfl ?_
      refine w_dup (q := 34) hm191 ⟨⟨_, _, rfl⟩, rfl⟩ rfl ?_
      refine w_getf (q := 37) (v := (m1.1 44 4)) hm191 ⟨⟨_, _, rfl⟩, rfl⟩ rfl rfl ?_
      refine w_iconst (q := 38) hm191 ⟨⟨_, _, rfl⟩, rfl⟩ iconst_1 ?_
      refine w_iadd (q := 39) hm191 ⟨⟨_, _, rfl⟩, rfl⟩ ?_
      refine w_putf (q := 42) hm191 ⟨⟨_, _, rfl⟩, rfl⟩ rfl rfl rfl ?_
      refine w_aload_n (q := 43) hm191 ⟨⟨_, _, rfl⟩, rfl⟩ rfl ?_
      refine w_call (q := 46) (n := 1) (vs := [.inr (.inr (some 44))]) (rest := []) (la := [oR 44, none]) hm191 ⟨⟨_, _, rfl⟩, rfl⟩ rfl rfl rfl rfl hm198 rfl rfl (fun _ => ⟨_, _, rfl, rfl⟩) rfl (Wp.mono h ?_)
      rintro _ m2 ⟨r2, rfl, h⟩
      change Wp _ _ 46 _ [.inl r2] _ _
      refine w_istore_n (q := 47) (l' := [oR 44, oI (m.1 20 1), oI r1, oI r2]) hm191 ⟨⟨_, _, rfl⟩, rfl⟩ rfl rfl rfl ?_
      refine w_iload_n (q := 48) hm191 ⟨⟨_, _, rfl⟩, rfl⟩ rfl ?_
      refine w_iconst (q := 49) hm191 ⟨⟨_, _, rfl⟩, rfl⟩ iconst_m1 ?_
      refine w_icmp_ne (q := 52) (X := r2.toInt) (Y := (-1)) hm191 ⟨⟨_, _, rfl⟩, rfl⟩ rfl (by decide) (fun hc => ?_) (fun hc => ?_)
      · have h := h.1 hc
        refine w_iload_n (q := 55) hm191 ⟨⟨_, _, rfl⟩, rfl⟩ rfl ?_
        refine w_iload_n (q := 56) hm191 ⟨⟨_, _, rfl⟩, rfl⟩ rfl ?_
        refine w_icmp_eq (q := 59) (X := r1.toInt) (Y := r2.toInt) hm191 ⟨⟨_, _, rfl⟩, rfl⟩ rfl rfl (fun hc => ?_) (fun hc => ?_)
        · have h := h.1 hc
          exact Wp.wk [true, false, false, false] h
        · have h := h.2 hc
          refine w_aload_n (q := 60) hm191 ⟨⟨_, _, rfl⟩, rfl⟩ rfl ?_
          refine w_getr (q := 63) hm191 ⟨⟨_, _, rfl⟩, rfl⟩ rfl ?_
          refine w_iload_n (q := 64) hm191 ⟨⟨_, _, rfl⟩, rfl⟩ rfl ?_
          refine w_iload_n (q := 65) hm191 ⟨⟨_, _, rfl⟩, rfl⟩ rfl ?_
          refine w_call (q := 68) (n := 2) (vs := [.inr (.inr (some 20)), .inl r1, .inl r2]) (rest := []) (la := [oR 20, oI r1, oI r2, none, none]) hm191 ⟨⟨_, _, rfl⟩, rfl⟩ rfl rfl rfl rfl hm171 rfl rfl (fun _ => ⟨_, _, rfl, rfl⟩) rfl (Wp.mono h ?_)
          rintro _ m3 ⟨r3, rfl, h⟩
          change Wp _ _ 68 _ [.inl r3] _ _
          refine w_if_eq (q := 71) (X := r3.toInt) hm191 ⟨⟨_, _, rfl⟩, rfl⟩ rfl (fun hc => ?_) (fun hc => ?_)
          · have h := h.1 hc
            refine w_aload_n (q := 78) hm191 ⟨⟨_, _, rfl⟩, rfl⟩ rfl ?_
            refine w_dup (q := 79) hm191 ⟨⟨_, _, rfl⟩, rfl⟩ rfl ?_
            refine w_getf (q := 82) (v := (m3.1 44 4)) hm191 ⟨⟨_, _, rfl⟩, rfl⟩ rfl rfl ?_
            refine w_iconst (q := 83) hm191 ⟨⟨_, _, rfl⟩, rfl⟩ iconst_1 ?_
            refine w_iadd (q := 84) hm191 ⟨⟨_, _, rfl⟩, rfl⟩ ?_
            refine w_putf (q := 87) hm191 ⟨⟨_, _, rfl⟩, rfl⟩ rfl rfl rfl ?_
            refine w_aload_n (q := 88) hm191 ⟨⟨_, _, rfl⟩, rfl⟩ rfl ?_
            refine w_getr (q := 91) hm191 ⟨⟨_, _, rfl⟩, rfl⟩ rfl ?_
            refine w_getr (q := 94) hm191 ⟨⟨_, _, rfl⟩, rfl⟩ rfl ?_
            refine w_iload_n (q := 95) hm191 ⟨⟨_, _, rfl⟩, rfl⟩ rfl ?_
            refine w_iload_n (q := 96) hm191 ⟨⟨_, _, rfl⟩, rfl⟩ rfl ?_
            obtain ⟨hi, h⟩ := h
            refine w_iast (q := 97) hm191 ⟨⟨_, _, rfl⟩, rfl⟩ rfl hi rfl rfl ?_
            refine w_aload_n (q := 98) hm191 ⟨⟨_, _, rfl⟩, rfl⟩ rfl ?_
            refine w_getr (q := 101) hm191 ⟨⟨_, _, rfl⟩, rfl⟩ rfl ?_
            refine w_getr (q := 104) hm191 ⟨⟨_, _, rfl⟩, rfl⟩ rfl ?_
            refine w_iload_n (q := 105) hm191 ⟨⟨_, _, rfl⟩, rfl⟩ rfl ?_
            refine w_iload_n (q := 106) hm191 ⟨⟨_, _, rfl⟩, rfl⟩ rfl ?_
            obtain ⟨hi, h⟩ := h
            refine w_iast (q := 107) hm191 ⟨⟨_, _, rfl⟩, rfl⟩ rfl hi rfl rfl ?_
            refine w_aload_n (q := 108) hm191 ⟨⟨_, _, rfl⟩, rfl⟩ rfl ?_
            refine w_getr (q := 111) hm191 ⟨⟨_, _, rfl⟩, rfl⟩ rfl ?_
            refine w_getr (q := 114) hm191 ⟨⟨_, _, rfl⟩, rfl⟩ rfl ?_
            refine w_iload_n (q := 115) hm191 ⟨⟨_, _, rfl⟩, rfl⟩ rfl ?_
            refine w_aload_n (q := 116) hm191 ⟨⟨_, _, rfl⟩, rfl⟩ rfl ?_
            refine w_getr (q := 119) hm191 ⟨⟨_, _, rfl⟩, rfl⟩ rfl ?_
            refine w_aload_n (q := 120) hm191 ⟨⟨_, _, rfl⟩, rfl⟩ rfl ?_
            refine w_getf (q := 123) (v := ((m3.1 44 4) + (1 : Int32))) hm191 ⟨⟨_, _, rfl⟩, rfl⟩ rfl rfl ?_
            refine w_call (q := 126) (n := 0) (vs := [.inr (.inr (some 38)), .inl ((m3.1 44 4) + (1 : Int32))]) (rest := [.inl (m.1 20 1), .inr (.inr (some 24))]) (la := [oR 38, oI ((m3.1 44 4) + (1 : Int32))]) hm191 ⟨⟨_, _, rfl⟩, rfl⟩ rfl rfl rfl rfl hm218 rfl rfl (fun _ => ⟨_, _, rfl, rfl⟩) rfl (Wp.mono h ?_)
            rintro _ m4 ⟨r4, rfl, h⟩
            change Wp _ _ 126 _ [.inl r4, .inl (m.1 20 1), .inr (.inr (some 24))] _ _
            obtain ⟨hi, h⟩ := h
            refine w_iast (q := 127) hm191 ⟨⟨_, _, rfl⟩, rfl⟩ rfl hi rfl rfl ?_
            refine w_aload_n (q := 128) hm191 ⟨⟨_, _, rfl⟩, rfl⟩ rfl ?_
            refine w_getr (q := 131) hm191 ⟨⟨_, _, rfl⟩, rfl⟩ rfl ?_
            refine w_dup (q := 132) hm191 ⟨⟨_, _, rfl⟩, rfl⟩ rfl ?_
            refine w_getf (q := 135) (v := (m4.1 20 1)) hm191 ⟨⟨_, _, rfl⟩, rfl⟩ rfl rfl ?_
            refine w_iconst (q := 136) hm191 ⟨⟨_, _, rfl⟩, rfl⟩ iconst_1 ?_
            refine w_iadd (q := 137) hm191 ⟨⟨_, _, rfl⟩, rfl⟩ ?_
            refine w_putf (q := 140) hm191 ⟨⟨_, _, rfl⟩, rfl⟩ rfl rfl rfl ?_
            refine w_aload_n (q := 141) hm191 ⟨⟨_, _, rfl⟩, rfl⟩ rfl ?_
            refine w_iconst (q := 142) hm191 ⟨⟨_, _, rfl⟩, rfl⟩ iconst_1 ?_
            refine w_bipush (q := 144) hm191 ⟨⟨_, _, rfl⟩, rfl⟩ bipush_99 ?_
            refine w_call (q := 147) (n := 1) (vs := [.inr (.inr (some 44)), .inl (1 : Int32), .inl (99 : Int32)]) (rest := []) (la := [oR 44, oI (1 : Int32), oI (99 : Int32), none]) hm191 ⟨⟨_, _, rfl⟩, rfl⟩ rfl rfl rfl rfl hm196 rfl rfl (fun _ => ⟨_, _, rfl, rfl⟩) rfl (Wp.mono h ?_)
            rintro _ m5 ⟨r5, rfl, h⟩
            change Wp _ _ 147 _ [.inl r5] _ _
            exact w_retz hm191 ⟨⟨_, _, rfl⟩, rfl⟩ rfl h.1 h.2
          · have h := h.2 hc
            exact Wp.wk [true, false, false, false] h
      · have h := h.2 hc
        refine w_iconst (q := 53) hm191 ⟨⟨_, _, rfl⟩, rfl⟩ iconst_0 ?_
        exact w_retz hm191 ⟨⟨_, _, rfl⟩, rfl⟩ rfl (by decide) h
    · have h := h.2 hc
      refine w_iconst (q := 31) hm191 ⟨⟨_, _, rfl⟩, rfl⟩ iconst_0 ?_
      exact w_retz hm191 ⟨⟨_, _, rfl⟩, rfl⟩ rfl (by decide) h
  · have h := h.2 hc
    refine w_aload_n (q := 15) hm191 ⟨⟨_, _, rfl⟩, rfl⟩ rfl ?_
    refine w_iconst (q := 16) hm191 ⟨⟨_, _, rfl⟩, rfl⟩ iconst_2 ?_
    refine w_call (q := 19) (n := 0) (vs := [.inr (.inr (some 44)), .inl (2 : Int32)]) (rest := []) (la := [oR 44, oI (2 : Int32)]) hm191 ⟨⟨_, _, rfl⟩, rfl⟩ rfl rfl rfl rfl hm188 rfl rfl (fun _ => ⟨_, _, rfl, rfl⟩) rfl (Wp.mono h ?_)
    rintro _ m6 ⟨r6, rfl, h⟩
    change Wp _ _ 19 _ [.inl r6] _ _
    exact w_retz hm191 ⟨⟨_, _, rfl⟩, rfl⟩ rfl h.1 h.2
theorem v_X5_takeWire_44_71 {d : Nat} {m : dM} {Q : Int32 → dM → Prop} (h : c_X5_fail_44 d (3 : Int32) m (fun r1 m1 => (r1 = 0 ∨ r1 = 1) ∧ Q r1 m1)) : j_X5_takeWire_44_71 (d + 1) m Q := by
  refine w_aload_n (q := 72) hm191 ⟨⟨_, _, rfl⟩, rfl⟩ rfl ?_
  refine w_iconst (q := 73) hm191 ⟨⟨_, _, rfl⟩, rfl⟩ iconst_3 ?_
  refine w_call (q := 76) (n := 0) (vs := [.inr (.inr (some 44)), .inl (3 : Int32)]) (rest := []) (la := [oR 44, oI (3 : Int32)]) hm191 ⟨⟨_, _, rfl⟩, rfl⟩ rfl rfl rfl rfl hm188 rfl rfl (fun _ => ⟨_, _, rfl, rfl⟩) rfl (Wp.mono h ?_)
  rintro _ m1 ⟨r1, rfl, h⟩
  change Wp _ _ 76 _ [.inl r1] _ _
  exact w_retz hm191 ⟨⟨_, _, rfl⟩, rfl⟩ rfl h.1 h.2
theorem v_X5_takeUse_44 {d : Nat} {m : dM} {Q : Int32 → dM → Prop} (h : (((m.1 20 2).toInt < 8 → c_X5_isNewName_44 d m (fun r1 m1 => ((r1.toInt ≠ 0 → c_X8_nameAt_38 d (m1.1 44 4) m1 (fun r2 m2 => ((0 ≤ (m.1 20 2).toInt ∧ (m.1 20 2).toInt < 8) ∧ c_X5_flatNamed_44 d (dSet (dSet (dSetL m2 46 (m.1 20 2).toNatClampNeg r2) 20 2 ((m2.1 20 2) + (1 : Int32))) 44 4 ((m2.1 44 4) + (1 : Int32))) (fun r3 m3 => ((0 ≤ (m.1 20 2).toInt ∧ (m.1 20 2).toInt < 8) ∧ ((0 ≤ (m.1 20 2).toInt ∧ (m.1 20 2).toInt < 8) ∧ ((r3.toInt ≠ (-1) → c_X8_numberAt_38 d ((m3.1 44 4) + (1 : Int32)) (dSet (dSet m3 25 (m.1 20 2).toNatClampNeg r3) 44 4 ((m3.1 44 4) + (1 : Int32))) (fun r4 m4 => ((0 ≤ (m.1 20 2).toInt ∧ (m.1 20 2).toInt < 8) ∧ c_X8_numberAt_38 d ((m4.1 44 4) + (1 : Int32)) (dSet m4 26 (m.1 20 2).toNatClampNeg r4) (fun r5 m5 => ((0 ≤ (m.1 20 2).toInt ∧ (m.1 20 2).toInt < 8) ∧ c_X8_numberAt_38 d ((m5.1 44 4) + (2 : Int32)) (dSet m5 27 (m.1 20 2).toNatClampNeg r5) (fun r6 m6 => ((0 ≤ (m.1 20 2).toInt ∧ (m.1 20 2).toInt < 8) ∧ c_X5_isWithin_44 d (1 : Int32) (19 : Int32) (dSet m6 28 (m.1 20 2).toNatClampNeg r6) (fun r7 m7 => ((r7.toInt = 0 → j_X5_takeUse_44_213 (d + 1) m7 Q) ∧ (r7.toInt ≠ 0 → c_X5_isWithin_44 d (0 : Int32) (23 : Int32) m7 (fun r8 m8 => ((r8.toInt = 0 → j_X5_takeUse_44_213 (d + 1) m8 Q) ∧ (r8.toInt ≠ 0 → ((0 ≤ (m.1 20 2).toInt ∧ (m.1 20 2).toInt < 8) ∧ c_X5_isWithin_44 d (m8.1 27 (m.1 20 2).toNatClampNeg) (23 : Int32) m8 (fun r9 m9 => ((r9.toInt = 0 → j_X5_takeUse_44_213 (d + 1) m9 Q) ∧ (r9.toInt ≠ 0 → Q (1 : Int32) m9))))))))))))))))) ∧ (r3.toInt = (-1) → Q (0 : Int32) (dSet m3 25 (m.1 20 2).toNatClampNeg r3))))))))) ∧ (r1.toInt = 0 → Q (0 : Int32) m1)))) ∧ (8 ≤ (m.1 20 2).toInt → c_X5_fail_44 d (2 : Int32) m (fun r10 m10 => (r10 = 0 ∨ r10 = 1) ∧ Q r10 m10)))) : c_X5_takeUse_44 (d + 1) m Q := by
  refine w_aload_n (q := 1) hm192 ⟨⟨_, _, rfl⟩, rfl⟩ rfl ?_
  refine w_getr (q := 4) hm192 ⟨⟨_, _, rfl⟩, rfl⟩ rfl ?_
  refine w_getf (q := 7) (v := (m.1 20 2)) hm192 ⟨⟨_, _, rfl⟩, rfl⟩ rfl rfl ?_
  refine w_istore_n (q := 8) (l' := [oR 44, oI (m.1 20 2)]) hm192 ⟨⟨_, _, rfl⟩, rfl⟩ rfl rfl rfl ?_
  refine w_iload_n (q := 9) hm192 ⟨⟨_, _, rfl⟩, rfl⟩ rfl ?_
  refine w_bipush (q := 11) hm192 ⟨⟨_, _, rfl⟩, rfl⟩ bipush_8 ?_
  refine w_icmp_lt (q := 14) (X := (m.1 20 2).toInt) (Y := 8) hm192 ⟨⟨_, _, rfl⟩, rfl⟩ rfl (by decide) (fun hc => ?_) (fun hc => ?_)
  · have h := h.1 hc
    refine w_aload_n (q := 21) hm192 ⟨⟨_, _, rfl⟩, rfl⟩ rfl ?_
    refine w_call (q := 24) (n := 3) (vs := [.inr (.inr (some 44))]) (rest := []) (la := [oR 44, none, none, none]) hm192 ⟨⟨_, _, rfl⟩, rfl⟩ rfl rfl rfl rfl hm197 rfl rfl (fun _ => ⟨_, _, rfl, rfl⟩) rfl (Wp.mono h ?_)
    rintro _ m1 ⟨r1, rfl, h⟩
    change Wp _ _ 24 _ [.inl r1] _ _
    refine w_if_ne (q := 27) (X := r1.toInt) hm192 ⟨⟨_, _, rfl⟩, rfl⟩ rfl (fun hc => ?_) (fun hc => ?_)
    · have h := h.1 hc
      refine w_aload_n (q := 30) hm192 ⟨⟨_, _, rfl⟩, rfl⟩ rfl ?_
      refine w_getr (q := 33) hm192 ⟨⟨_, _, rfl⟩, rfl⟩ rfl ?_
      refine w_iload_n (q := 34) hm192 ⟨⟨_, _, rfl⟩, rfl⟩ rfl ?_
      refine w_aload_n (q := 35) hm192 ⟨⟨_, _, rfl⟩, rfl⟩ rfl ?_
      refine w_getr (q := 38) hm192 ⟨⟨_, _, rfl⟩, rfl⟩ rfl ?_
      refine w_aload_n (q := 39) hm192 ⟨⟨_, _, rfl⟩, rfl⟩ rfl ?_
      refine w_getf (q := 42) (v := (m1.1 44 4)) hm192 ⟨⟨_, _, rfl⟩, rfl⟩ rfl rfl ?_
      refine w_call (q := 45) (n := 0) (vs := [.inr (.inr (some 38)), .inl (m1.1 44 4)]) (rest := [.inl (m.1 20 2), .inr (.inr (some 46))]) (la := [oR 38, oI (m1.1 44 4)]) hm192 ⟨⟨_, _, rfl⟩, rfl⟩ rfl rfl rfl rfl hm219 rfl rfl (fun _ => ⟨_, _, rfl, rfl⟩) rfl (Wp.mono h ?_)
      rintro _ m2 ⟨r2, rfl, h⟩
      change Wp _ _ 45 _ [.inr (.inl r2), .inl (m.1 20 2), .inr (.inr (some 46))] _ _
      obtain ⟨hi, h⟩ := h
      refine w_last (q := 46) hm192 ⟨⟨_, _, rfl⟩, rfl⟩ rfl hi rfl rfl ?_
      refine w_aload_n (q := 47) hm192 ⟨⟨_, _, rfl⟩, rfl⟩ rfl ?_
      refine w_getr (q := 50) hm192 ⟨⟨_, _, rfl⟩, rfl⟩ rfl ?_
      refine w_dup (q := 51) hm192 ⟨⟨_, _, rfl⟩, rfl⟩ rfl ?_
      refine w_getf (q := 54) (v := (m2.1 20 2)) hm192 ⟨⟨_, _, rfl⟩, rfl⟩ rfl rfl ?_
      refine w_iconst (q := 55) hm192 ⟨⟨_, _, rfl⟩, rfl⟩ iconst_1 ?_
      refine w_iadd (q := 56) hm192 ⟨⟨_, _, rfl⟩, rfl⟩ ?_
      refine w_putf (q := 59) hm192 ⟨⟨_, _, rfl⟩, rfl⟩ rfl rfl rfl ?_
      refine w_aload_n (q := 60) hm192 ⟨⟨_, _, rfl⟩, rfl⟩ rfl ?_
      refine w_dup (q := 61) hm192 ⟨⟨_, _, rfl⟩, rfl⟩ rfl ?_
      refine w_getf (q := 64) (v := (m2.1 44 4)) hm192 ⟨⟨_, _, rfl⟩, rfl⟩ rfl rfl ?_
      refine w_iconst (q := 65) hm192 ⟨⟨_, _, rfl⟩, rfl⟩ iconst_1 ?_
      refine w_iadd (q := 66) hm192 ⟨⟨_, _, rfl⟩, rfl⟩ ?_
      refine w_putf (q := 69) hm192 ⟨⟨_, _, rfl⟩, rfl⟩ rfl rfl rfl ?_
      refine w_aload_n (q := 70) hm192 ⟨⟨_, _, rfl⟩, rfl⟩ rfl ?_
      refine w_getr (q := 73) hm192 ⟨⟨_, _, rfl⟩, rfl⟩ rfl ?_
      refine w_getr (q := 76) hm192 ⟨⟨_, _, rfl⟩, rfl⟩ rfl ?_
      refine w_iload_n (q := 77) hm192 ⟨⟨_, _, rfl⟩, rfl⟩ rfl ?_
      refine w_aload_n (q := 78) hm192 ⟨⟨_, _, rfl⟩, rfl⟩ rfl ?_
      refine w_call (q := 81) (n := 1) (vs := [.inr (.inr (some 44))]) (rest := [.inl (m.1 20 2), .inr (.inr (some 25))]) (la := [oR 44, none]) hm192 ⟨⟨_, _, rfl⟩, rfl⟩ rfl rfl rfl rfl hm198 rfl rfl (fun _ => ⟨_, _, rfl, rfl⟩) rfl (Wp.mono h ?_)
      rintro _ m3 ⟨r3, rfl, h⟩
      change Wp _ _ 81 _ [.inl r3, .inl (m.1 20 2), .inr (.inr (some 25))] _ _
      obtain ⟨hi, h⟩ := h
      refine w_iast (q := 82) hm192 ⟨⟨_, _, rfl⟩, rfl⟩ rfl hi rfl rfl ?_
      refine w_aload_n (q := 83) hm192 ⟨⟨_, _, rfl⟩, rfl⟩ rfl ?_
      refine w_getr (q := 86) hm192 ⟨⟨_, _, rfl⟩, rfl⟩ rfl ?_
      refine w_getr (q := 89) hm192 ⟨⟨_, _, rfl⟩, rfl⟩ rfl ?_
      refine w_iload_n (q := 90) hm192 ⟨⟨_, _, rfl⟩, rfl⟩ rfl ?_
      obtain ⟨hi, h⟩ := h
      refine w_iald (q := 91) (v := r3) hm192 ⟨⟨_, _, rfl⟩, rfl⟩ rfl hi rfl (dSet_s m3 25 (m.1 20 2).toNatClampNeg r3) ?_
      refine w_iconst (q := 92) hm192 ⟨⟨_, _, rfl⟩, rfl⟩ iconst_m1 ?_
      refine w_icmp_ne (q := 95) (X := r3.toInt) (Y := (-1)) hm192 ⟨⟨_, _, rfl⟩, rfl⟩ rfl (by decide) (fun hc => ?_) (fun hc => ?_)
      · have h := h.1 hc
        refine w_aload_n (q := 98) hm192 ⟨⟨_, _, rfl⟩, rfl⟩ rfl ?_
        refine w_dup (q := 99) hm192 ⟨⟨_, _, rfl⟩, rfl⟩ rfl ?_
        refine w_getf (q := 102) (v := (m3.1 44 4)) hm192 ⟨⟨_, _, rfl⟩, rfl⟩ rfl rfl ?_
        refine w_iconst (q := 103) hm192 ⟨⟨_, _, rfl⟩, rfl⟩ iconst_1 ?_
        refine w_iadd (q := 104) hm192 ⟨⟨_, _, rfl⟩, rfl⟩ ?_
        refine w_putf (q := 107) hm192 ⟨⟨_, _, rfl⟩, rfl⟩ rfl rfl rfl ?_
        refine w_aload_n (q := 108) hm192 ⟨⟨_, _, rfl⟩, rfl⟩ rfl ?_
        refine w_getr (q := 111) hm192 ⟨⟨_, _, rfl⟩, rfl⟩ rfl ?_
        refine w_getr (q := 114) hm192 ⟨⟨_, _, rfl⟩, rfl⟩ rfl ?_
        refine w_iload_n (q := 115) hm192 ⟨⟨_, _, rfl⟩, rfl⟩ rfl ?_
        refine w_aload_n (q := 116) hm192 ⟨⟨_, _, rfl⟩, rfl⟩ rfl ?_
        refine w_getr (q := 119) hm192 ⟨⟨_, _, rfl⟩, rfl⟩ rfl ?_
        refine w_aload_n (q := 120) hm192 ⟨⟨_, _, rfl⟩, rfl⟩ rfl ?_
        refine w_getf (q := 123) (v := ((m3.1 44 4) + (1 : Int32))) hm192 ⟨⟨_, _, rfl⟩, rfl⟩ rfl rfl ?_
        refine w_call (q := 126) (n := 0) (vs := [.inr (.inr (some 38)), .inl ((m3.1 44 4) + (1 : Int32))]) (rest := [.inl (m.1 20 2), .inr (.inr (some 26))]) (la := [oR 38, oI ((m3.1 44 4) + (1 : Int32))]) hm192 ⟨⟨_, _, rfl⟩, rfl⟩ rfl rfl rfl rfl hm218 rfl rfl (fun _ => ⟨_, _, rfl, rfl⟩) rfl (Wp.mono h ?_)
        rintro _ m4 ⟨r4, rfl, h⟩
        change Wp _ _ 126 _ [.inl r4, .inl (m.1 20 2), .inr (.inr (some 26))] _ _
        obtain ⟨hi, h⟩ := h
        refine w_iast (q := 127) hm192 ⟨⟨_, _, rfl⟩, rfl⟩ rfl hi rfl rfl ?_
        refine w_aload_n (q := 128) hm192 ⟨⟨_, _, rfl⟩, rfl⟩ rfl ?_
        refine w_getr (q := 131) hm192 ⟨⟨_, _, rfl⟩, rfl⟩ rfl ?_
        refine w_getr (q := 134) hm192 ⟨⟨_, _, rfl⟩, rfl⟩ rfl ?_
        refine w_iload_n (q := 135) hm192 ⟨⟨_, _, rfl⟩, rfl⟩ rfl ?_
        refine w_aload_n (q := 136) hm192 ⟨⟨_, _, rfl⟩, rfl⟩ rfl ?_
        refine w_getr (q := 139) hm192 ⟨⟨_, _, rfl⟩, rfl⟩ rfl ?_
        refine w_aload_n (q := 140) hm192 ⟨⟨_, _, rfl⟩, rfl⟩ rfl ?_
        refine w_getf (q := 143) (v := (m4.1 44 4)) hm192 ⟨⟨_, _, rfl⟩, rfl⟩ rfl rfl ?_
        refine w_iconst (q := 144) hm192 ⟨⟨_, _, rfl⟩, rfl⟩ iconst_1 ?_
        refine w_iadd (q := 145) hm192 ⟨⟨_, _, rfl⟩, rfl⟩ ?_
        refine w_call (q := 148) (n := 0) (vs := [.inr (.inr (some 38)), .inl ((m4.1 44 4) + (1 : Int32))]) (rest := [.inl (m.1 20 2), .inr (.inr (some 27))]) (la := [oR 38, oI ((m4.1 44 4) + (1 : Int32))]) hm192 ⟨⟨_, _, rfl⟩, rfl⟩ rfl rfl rfl rfl hm218 rfl rfl (fun _ => ⟨_, _, rfl, rfl⟩) rfl (Wp.mono h ?_)
        rintro _ m5 ⟨r5, rfl, h⟩
        change Wp _ _ 148 _ [.inl r5, .inl (m.1 20 2), .inr (.inr (some 27))] _ _
        obtain ⟨hi, h⟩ := h
        refine w_iast (q := 149) hm192 ⟨⟨_, _, rfl⟩, rfl⟩ rfl hi rfl rfl ?_
        refine w_aload_n (q := 150) hm192 ⟨⟨_, _, rfl⟩, rfl⟩ rfl ?_
        refine w_getr (q := 153) hm192 ⟨⟨_, _, rfl⟩, rfl⟩ rfl ?_
        refine w_getr (q := 156) hm192 ⟨⟨_, _, rfl⟩, rfl⟩ rfl ?_
        refine w_iload_n (q := 157) hm192 ⟨⟨_, _, rfl⟩, rfl⟩ rfl ?_
        refine w_aload_n (q := 158) hm192 ⟨⟨_, _, rfl⟩, rfl⟩ rfl ?_
        refine w_getr (q := 161) hm192 ⟨⟨_, _, rfl⟩, rfl⟩ rfl ?_
        refine w_aload_n (q := 162) hm192 ⟨⟨_, _, rfl⟩, rfl⟩ rfl ?_
        refine w_getf (q := 165) (v := (m5.1 44 4)) hm192 ⟨⟨_, _, rfl⟩, rfl⟩ rfl rfl ?_
        refine w_iconst (q := 166) hm192 ⟨⟨_, _, rfl⟩, rfl⟩ iconst_2 ?_
        refine w_iadd (q := 167) hm192 ⟨⟨_, _, rfl⟩, rfl⟩ ?_
        refine w_call (q := 170) (n := 0) (vs := [.inr (.inr (some 38)), .inl ((m5.1 44 4) + (2 : Int32))]) (rest := [.inl (m.1 20 2), .inr (.inr (some 28))]) (la := [oR 38, oI ((m5.1 44 4) + (2 : Int32))]) hm192 ⟨⟨_, _, rfl⟩, rfl⟩ rfl rfl rfl rfl hm218 rfl rfl (fun _ => ⟨_, _, rfl, rfl⟩) rfl (Wp.mono h ?_)
        rintro _ m6 ⟨r6, rfl, h⟩
        change Wp _ _ 170 _ [.inl r6, .inl (m.1 20 2), .inr (.inr (some 28))] _ _
        obtain ⟨hi, h⟩ := h
        refine w_iast (q := 171) hm192 ⟨⟨_, _, rfl⟩, rfl⟩ rfl hi rfl rfl ?_
        refine w_aload_n (q := 172) hm192 ⟨⟨_, _, rfl⟩, rfl⟩ rfl ?_
        refine w_iconst (q := 173) hm192 ⟨⟨_, _, rfl⟩, rfl⟩ iconst_1 ?_
        refine w_bipush (q := 175) hm192 ⟨⟨_, _, rfl⟩, rfl⟩ bipush_19 ?_
        refine w_call (q := 178) (n := 1) (vs := [.inr (.inr (some 44)), .inl (1 : Int32), .inl (19 : Int32)]) (rest := []) (la := [oR 44, oI (1 : Int32), oI (19 : Int32), none]) hm192 ⟨⟨_, _, rfl⟩, rfl⟩ rfl rfl rfl rfl hm196 rfl rfl (fun _ => ⟨_, _, rfl, rfl⟩) rfl (Wp.mono h ?_)
        rintro _ m7 ⟨r7, rfl, h⟩
        change Wp _ _ 178 _ [.inl r7] _ _
        refine w_if_eq (q := 181) (X := r7.toInt) hm192 ⟨⟨_, _, rfl⟩, rfl⟩ rfl (fun hc => ?_) (fun hc => ?_)
        · have h := h.1 hc
          exact Wp.wk [false, false] h
        · have h := h.2 hc
          refine w_aload_n (q := 182) hm192 ⟨⟨_, _, rfl⟩, rfl⟩ rfl ?_
          refine w_iconst (q := 183) hm192 ⟨⟨_, _, rfl⟩, rfl⟩ iconst_0 ?_
          refine w_bipush (q := 185) hm192 ⟨⟨_, _, rfl⟩, rfl⟩ bipush_23 ?_
          refine w_call (q := 188) (n := 1) (vs := [.inr (.inr (some 44)), .inl (0 : Int32), .inl (23 : Int32)]) (rest := []) (la := [oR 44, oI (0 : Int32), oI (23 : Int32), none]) hm192 ⟨⟨_, _, rfl⟩, rfl⟩ rfl rfl rfl rfl hm196 rfl rfl (fun _ => ⟨_, _, rfl, rfl⟩) rfl (Wp.mono h ?_)
          rintro _ m8 ⟨r8, rfl, h⟩
          change Wp _ _ 188 _ [.inl r8] _ _
          refine w_if_eq (q := 191) (X := r8.toInt) hm192 ⟨⟨_, _, rfl⟩, rfl⟩ rfl (fun hc => ?_) (fun hc => ?_)
          · have h := h.1 hc
            exact Wp.wk [false, false] h
          · have h := h.2 hc
            refine w_aload_n (q := 192) hm192 ⟨⟨_, _, rfl⟩, rfl⟩ rfl ?_
            refine w_aload_n (q := 193) hm192 ⟨⟨_, _, rfl⟩, rfl⟩ rfl ?_
            refine w_getr (q := 196) hm192 ⟨⟨_, _, rfl⟩, rfl⟩ rfl ?_
            refine w_getr (q := 199) hm192 ⟨⟨_, _, rfl⟩, rfl⟩ rfl ?_
            refine w_iload_n (q := 200) hm192 ⟨⟨_, _, rfl⟩, rfl⟩ rfl ?_
            obtain ⟨hi, h⟩ := h
            refine w_iald (q := 201) (v := (m8.1 27 (m.1 20 2).toNatClampNeg)) hm192 ⟨⟨_, _, rfl⟩, rfl⟩ rfl hi rfl rfl ?_
            refine w_bipush (q := 203) hm192 ⟨⟨_, _, rfl⟩, rfl⟩ bipush_23 ?_
            refine w_call (q := 206) (n := 1) (vs := [.inr (.inr (some 44)), .inl (m8.1 27 (m.1 20 2).toNatClampNeg), .inl (23 : Int32)]) (rest := []) (la := [oR 44, oI (m8.1 27 (m.1 20 2).toNatClampNeg), oI (23 : Int32), none]) hm192 ⟨⟨_, _, rfl⟩, rfl⟩ rfl rfl rfl rfl hm196 rfl rfl (fun _ => ⟨_, _, rfl, rfl⟩) rfl (Wp.mono h ?_)
            rintro _ m9 ⟨r9, rfl, h⟩
            change Wp _ _ 206 _ [.inl r9] _ _
            refine w_if_eq (q := 209) (X := r9.toInt) hm192 ⟨⟨_, _, rfl⟩, rfl⟩ rfl (fun hc => ?_) (fun hc => ?_)
            · have h := h.1 hc
              exact Wp.wk [false, false] h
            · have h := h.2 hc
              refine w_iconst (q := 210) hm192 ⟨⟨_, _, rfl⟩, rfl⟩ iconst_1 ?_
              refine w_goto (q := 214) hm192 ⟨_, _, rfl⟩ ?_
              exact w_retz hm192 ⟨⟨_, _, rfl⟩, rfl⟩ rfl (by decide) h
      · have h := h.2 hc
        refine w_iconst (q := 96) hm192 ⟨⟨_, _, rfl⟩, rfl⟩ iconst_0 ?_
        exact w_retz hm192 ⟨⟨_, _, rfl⟩, rfl⟩ rfl (by decide) h
    · have h := h.2 hc
      refine w_iconst (q := 28) hm192 ⟨⟨_, _, rfl⟩, rfl⟩ iconst_0 ?_
      exact w_retz hm192 ⟨⟨_, _, rfl⟩, rfl⟩ rfl (by decide) h
  · have h := h.2 hc
    refine w_aload_n (q := 15) hm192 ⟨⟨_, _, rfl⟩, rfl⟩ rfl ?_
    refine w_iconst (q := 16) hm192 ⟨⟨_, _, rfl⟩, rfl⟩ iconst_2 ?_
    refine w_call (q := 19) (n := 0) (vs := [.inr (.inr (some 44)), .inl (2 : Int32)]) (rest := []) (la := [oR 44, oI (2 : Int32)]) hm192 ⟨⟨_, _, rfl⟩, rfl⟩ rfl rfl rfl rfl hm188 rfl rfl (fun _ => ⟨_, _, rfl, rfl⟩) rfl (Wp.mono h ?_)
    rintro _ m10 ⟨r10, rfl, h⟩
    change Wp _ _ 19 _ [.inl r10] _ _
    exact w_retz hm192 ⟨⟨_, _, rfl⟩, rfl⟩ rfl h.1 h.2
theorem v_X5_takeUse_44_213 {d : Nat} {m : dM} {Q : Int32 → dM → Prop} (h : Q (0 : Int32) m) : j_X5_takeUse_44_213 (d + 1) m Q := by
  refine w_iconst (q := 214) hm192 ⟨⟨_, _, rfl⟩, rfl⟩ iconst_0 ?_
  exact w_retz hm192 ⟨⟨_, _, rfl⟩, rfl⟩ rfl (by decide) h
theorem v_X5_takeSurge_44 {d : Nat} {m : dM} {Q : Int32 → dM → Prop} (h : c_X8_numberAt_38 d (m.1 44 4) m (fun r1 m1 => c_X8_numberAt_38 d ((m1.1 44 4) + (1 : Int32)) (dSet m1 20 3 r1) (fun r2 m2 => c_X5_isWithin_44 d (0 : Int32) (100 : Int32) (dSet m2 20 4 r2) (fun r3 m3 => ((r3.toInt = 0 → j_X5_takeSurge_44_62 (d + 1) m3 Q) ∧ (r3.toInt ≠ 0 → c_X5_isWithin_44 d (0 : Int32) (19 : Int32) m3 (fun r4 m4 => ((r4.toInt = 0 → j_X5_takeSurge_44_62 (d + 1) m4 Q) ∧ (r4.toInt ≠ 0 → Q (1 : Int32) m4))))))))) : c_X5_takeSurge_44 (d + 1) m Q := by
  refine w_aload_n (q := 1) hm193 ⟨⟨_, _, rfl⟩, rfl⟩ rfl ?_
  refine w_getr (q := 4) hm193 ⟨⟨_, _, rfl⟩, rfl⟩ rfl ?_
  refine w_aload_n (q := 5) hm193 ⟨⟨_, _, rfl⟩, rfl⟩ rfl ?_
  refine w_getr (q := 8) hm193 ⟨⟨_, _, rfl⟩, rfl⟩ rfl ?_
  refine w_aload_n (q := 9) hm193 ⟨⟨_, _, rfl⟩, rfl⟩ rfl ?_
  refine w_getf (q := 12) (v := (m.1 44 4)) hm193 ⟨⟨_, _, rfl⟩, rfl⟩ rfl rfl ?_
  refine w_call (q := 15) (n := 0) (vs := [.inr (.inr (some 38)), .inl (m.1 44 4)]) (rest := [.inr (.inr (some 20))]) (la := [oR 38, oI (m.1 44 4)]) hm193 ⟨⟨_, _, rfl⟩, rfl⟩ rfl rfl rfl rfl hm218 rfl rfl (fun _ => ⟨_, _, rfl, rfl⟩) rfl (Wp.mono h ?_)
  rintro _ m1 ⟨r1, rfl, h⟩
  change Wp _ _ 15 _ [.inl r1, .inr (.inr (some 20))] _ _
  refine w_putf (q := 18) hm193 ⟨⟨_, _, rfl⟩, rfl⟩ rfl rfl rfl ?_
  refine w_aload_n (q := 19) hm193 ⟨⟨_, _, rfl⟩, rfl⟩ rfl ?_
  refine w_getr (q := 22) hm193 ⟨⟨_, _, rfl⟩, rfl⟩ rfl ?_
  refine w_aload_n (q := 23) hm193 ⟨⟨_, _, rfl⟩, rfl⟩ rfl ?_
  refine w_getr (q := 26) hm193 ⟨⟨_, _, rfl⟩, rfl⟩ rfl ?_
  refine w_aload_n (q := 27) hm193 ⟨⟨_, _, rfl⟩, rfl⟩ rfl ?_
  refine w_getf (q := 30) (v := (m1.1 44 4)) hm193 ⟨⟨_, _, rfl⟩, rfl⟩ rfl rfl ?_
  refine w_iconst (q := 31) hm193 ⟨⟨_, _, rfl⟩, rfl⟩ iconst_1 ?_
  refine w_iadd (q := 32) hm193 ⟨⟨_, _, rfl⟩, rfl⟩ ?_
  refine w_call (q := 35) (n := 0) (vs := [.inr (.inr (some 38)), .inl ((m1.1 44 4) + (1 : Int32))]) (rest := [.inr (.inr (some 20))]) (la := [oR 38, oI ((m1.1 44 4) + (1 : Int32))]) hm193 ⟨⟨_, _, rfl⟩, rfl⟩ rfl rfl rfl rfl hm218 rfl rfl (fun _ => ⟨_, _, rfl, rfl⟩) rfl (Wp.mono h ?_)
  rintro _ m2 ⟨r2, rfl, h⟩
  change Wp _ _ 35 _ [.inl r2, .inr (.inr (some 20))] _ _
  refine w_putf (q := 38) hm193 ⟨⟨_, _, rfl⟩, rfl⟩ rfl rfl rfl ?_
  refine w_aload_n (q := 39) hm193 ⟨⟨_, _, rfl⟩, rfl⟩ rfl ?_
  refine w_iconst (q := 40) hm193 ⟨⟨_, _, rfl⟩, rfl⟩ iconst_0 ?_
  refine w_bipush (q := 42) hm193 ⟨⟨_, _, rfl⟩, rfl⟩ bipush_100 ?_
  refine w_call (q := 45) (n := 1) (vs := [.inr (.inr (some 44)), .inl (0 : Int32), .inl (100 : Int32)]) (rest := []) (la := [oR 44, oI (0 : Int32), oI (100 : Int32), none]) hm193 ⟨⟨_, _, rfl⟩, rfl⟩ rfl rfl rfl rfl hm196 rfl rfl (fun _ => ⟨_, _, rfl, rfl⟩) rfl (Wp.mono h ?_)
  rintro _ m3 ⟨r3, rfl, h⟩
  change Wp _ _ 45 _ [.inl r3] _ _
  refine w_if_eq (q := 48) (X := r3.toInt) hm193 ⟨⟨_, _, rfl⟩, rfl⟩ rfl (fun hc => ?_) (fun hc => ?_)
  · have h := h.1 hc
    exact Wp.wk [false] h
  · have h := h.2 hc
    refine w_aload_n (q := 49) hm193 ⟨⟨_, _, rfl⟩, rfl⟩ rfl ?_
    refine w_iconst (q := 50) hm193 ⟨⟨_, _, rfl⟩, rfl⟩ iconst_0 ?_
    refine w_bipush (q := 52) hm193 ⟨⟨_, _, rfl⟩, rfl⟩ bipush_19 ?_
    refine w_call (q := 55) (n := 1) (vs := [.inr (.inr (some 44)), .inl (0 : Int32), .inl (19 : Int32)]) (rest := []) (la := [oR 44, oI (0 : Int32), oI (19 : Int32), none]) hm193 ⟨⟨_, _, rfl⟩, rfl⟩ rfl rfl rfl rfl hm196 rfl rfl (fun _ => ⟨_, _, rfl, rfl⟩) rfl (Wp.mono h ?_)
    rintro _ m4 ⟨r4, rfl, h⟩
    change Wp _ _ 55 _ [.inl r4] _ _
    refine w_if_eq (q := 58) (X := r4.toInt) hm193 ⟨⟨_, _, rfl⟩, rfl⟩ rfl (fun hc => ?_) (fun hc => ?_)
    · have h := h.1 hc
      exact Wp.wk [false] h
    · have h := h.2 hc
      refine w_iconst (q := 59) hm193 ⟨⟨_, _, rfl⟩, rfl⟩ iconst_1 ?_
      refine w_goto (q := 63) hm193 ⟨_, _, rfl⟩ ?_
      exact w_retz hm193 ⟨⟨_, _, rfl⟩, rfl⟩ rfl (by decide) h
theorem v_X5_takeSurge_44_62 {d : Nat} {m : dM} {Q : Int32 → dM → Prop} (h : Q (0 : Int32) m) : j_X5_takeSurge_44_62 (d + 1) m Q := by
  refine w_iconst (q := 63) hm193 ⟨⟨_, _, rfl⟩, rfl⟩ iconst_0 ?_
  exact w_retz hm193 ⟨⟨_, _, rfl⟩, rfl⟩ rfl (by decide) h
theorem v_X5_takeCoins_44 {d : Nat} {m : dM} {Q : Int32 → dM → Prop} (h : c_X8_numberAt_38 d (m.1 44 4) m (fun r1 m1 => c_X5_isWithin_44 d (0 : Int32) (999 : Int32) (dSet m1 20 5 r1) (fun r2 m2 => (r2 = 0 ∨ r2 = 1) ∧ Q r2 m2))) : c_X5_takeCoins_44 (d + 1) m Q := by
  refine w_aload_n (q := 1) hm194 ⟨⟨_, _, rfl⟩, rfl⟩ rfl ?_
  refine w_getr (q := 4) hm194 ⟨⟨_, _, rfl⟩, rfl⟩ rfl ?_
  refine w_aload_n (q := 5) hm194 ⟨⟨_, _, rfl⟩, rfl⟩ rfl ?_
  refine w_getr (q := 8) hm194 ⟨⟨_, _, rfl⟩, rfl⟩ rfl ?_
  refine w_aload_n (q := 9) hm194 ⟨⟨_, _, rfl⟩, rfl⟩ rfl ?_
  refine w_getf (q := 12) (v := (m.1 44 4)) hm194 ⟨⟨_, _, rfl⟩, rfl⟩ rfl rfl ?_
  refine w_call (q := 15) (n := 0) (vs := [.inr (.inr (some 38)), .inl (m.1 44 4)]) (rest := [.inr (.inr (some 20))]) (la := [oR 38, oI (m.1 44 4)]) hm194 ⟨⟨_, _, rfl⟩, rfl⟩ rfl rfl rfl rfl hm218 rfl rfl (fun _ => ⟨_, _, rfl, rfl⟩) rfl (Wp.mono h ?_)
  rintro _ m1 ⟨r1, rfl, h⟩
  change Wp _ _ 15 _ [.inl r1, .inr (.inr (some 20))] _ _
  refine w_putf (q := 18) hm194 ⟨⟨_, _, rfl⟩, rfl⟩ rfl rfl rfl ?_
  refine w_aload_n (q := 19) hm194 ⟨⟨_, _, rfl⟩, rfl⟩ rfl ?_
  refine w_iconst (q := 20) hm194 ⟨⟨_, _, rfl⟩, rfl⟩ iconst_0 ?_
  refine w_sipush (q := 23) hm194 ⟨⟨_, _, rfl⟩, rfl⟩ sipush_999 ?_
  refine w_call (q := 26) (n := 1) (vs := [.inr (.inr (some 44)), .inl (0 : Int32), .inl (999 : Int32)]) (rest := []) (la := [oR 44, oI (0 : Int32), oI (999 : Int32), none]) hm194 ⟨⟨_, _, rfl⟩, rfl⟩ rfl rfl rfl rfl hm196 rfl rfl (fun _ => ⟨_, _, rfl, rfl⟩) rfl (Wp.mono h ?_)
  rintro _ m2 ⟨r2, rfl, h⟩
  change Wp _ _ 26 _ [.inl r2] _ _
  exact w_retz hm194 ⟨⟨_, _, rfl⟩, rfl⟩ rfl h.1 h.2
theorem v_X5_takeSeed_44 {d : Nat} {m : dM} {Q : Int32 → dM → Prop} (h : c_X8_numberAt_38 d (m.1 44 4) m (fun r1 m1 => c_X5_isWithin_44 d (0 : Int32) (9999 : Int32) (dSet m1 20 6 r1) (fun r2 m2 => (r2 = 0 ∨ r2 = 1) ∧ Q r2 m2))) : c_X5_takeSeed_44 (d + 1) m Q := by
  refine w_aload_n (q := 1) hm195 ⟨⟨_, _, rfl⟩, rfl⟩ rfl ?_
  refine w_getr (q := 4) hm195 ⟨⟨_, _, rfl⟩, rfl⟩ rfl ?_
  refine w_aload_n (q := 5) hm195 ⟨⟨_, _, rfl⟩, rfl⟩ rfl ?_
  refine w_getr (q := 8) hm195 ⟨⟨_, _, rfl⟩, rfl⟩ rfl ?_
  refine w_aload_n (q := 9) hm195 ⟨⟨_, _, rfl⟩, rfl⟩ rfl ?_
  refine w_getf (q := 12) (v := (m.1 44 4)) hm195 ⟨⟨_, _, rfl⟩, rfl⟩ rfl rfl ?_
  refine w_call (q := 15) (n := 0) (vs := [.inr (.inr (some 38)), .inl (m.1 44 4)]) (rest := [.inr (.inr (some 20))]) (la := [oR 38, oI (m.1 44 4)]) hm195 ⟨⟨_, _, rfl⟩, rfl⟩ rfl rfl rfl rfl hm218 rfl rfl (fun _ => ⟨_, _, rfl, rfl⟩) rfl (Wp.mono h ?_)
  rintro _ m1 ⟨r1, rfl, h⟩
  change Wp _ _ 15 _ [.inl r1, .inr (.inr (some 20))] _ _
  refine w_putf (q := 18) hm195 ⟨⟨_, _, rfl⟩, rfl⟩ rfl rfl rfl ?_
  refine w_aload_n (q := 19) hm195 ⟨⟨_, _, rfl⟩, rfl⟩ rfl ?_
  refine w_iconst (q := 20) hm195 ⟨⟨_, _, rfl⟩, rfl⟩ iconst_0 ?_
  refine w_sipush (q := 23) hm195 ⟨⟨_, _, rfl⟩, rfl⟩ sipush_9999 ?_
  refine w_call (q := 26) (n := 1) (vs := [.inr (.inr (some 44)), .inl (0 : Int32), .inl (9999 : Int32)]) (rest := []) (la := [oR 44, oI (0 : Int32), oI (9999 : Int32), none]) hm195 ⟨⟨_, _, rfl⟩, rfl⟩ rfl rfl rfl rfl hm196 rfl rfl (fun _ => ⟨_, _, rfl, rfl⟩) rfl (Wp.mono h ?_)
  rintro _ m2 ⟨r2, rfl, h⟩
  change Wp _ _ 26 _ [.inl r2] _ _
  exact w_retz hm195 ⟨⟨_, _, rfl⟩, rfl⟩ rfl h.1 h.2
theorem v_X5_takeTold_44 {d : Nat} {x1 : Int32} {m : dM} {Q : Int32 → dM → Prop} (h : ((x1.toInt = 0 → c_X5_takeFlat_44 d m (fun r1 m1 => (r1 = 0 ∨ r1 = 1) ∧ Q r1 m1)) ∧ (x1.toInt = 1 → c_X5_takeWire_44 d m (fun r2 m2 => (r2 = 0 ∨ r2 = 1) ∧ Q r2 m2)) ∧ (x1.toInt = 2 → c_X5_takeUse_44 d m (fun r3 m3 => (r3 = 0 ∨ r3 = 1) ∧ Q r3 m3)) ∧ (x1.toInt = 3 → Q (1 : Int32) m) ∧ (x1.toInt = 4 → Q (1 : Int32) m) ∧ (x1.toInt = 5 → Q (1 : Int32) m) ∧ (x1.toInt = 6 → Q (1 : Int32) m) ∧ (x1.toInt = 7 → c_X5_takeSurge_44 d m (fun r4 m4 => (r4 = 0 ∨ r4 = 1) ∧ Q r4 m4)) ∧ (x1.toInt = 8 → c_X5_takeCoins_44 d m (fun r5 m5 => (r5 = 0 ∨ r5 = 1) ∧ Q r5 m5)) ∧ (x1.toInt = 9 → c_X5_takeSeed_44 d m (fun r6 m6 => (r6 = 0 ∨ r6 = 1) ∧ Q r6 m6)) ∧ (x1.toInt < 0 ∨ 9 < x1.toInt → Q (1 : Int32) m))) : c_X5_takeTold_44 (d + 1) x1 m Q := by
  refine w_iload_n (q := 1) hm189 ⟨⟨_, _, rfl⟩, rfl⟩ rfl ?_
  refine w_tsw (X := x1.toInt) hm189 ⟨_, _, rfl⟩ (by decide) (by decide) rfl ((And.intro (fun hc => ?_) (And.intro (fun hc => ?_) (And.intro (fun hc => ?_) (And.intro (fun hc => ?_) (And.intro (fun hc => ?_) (And.intro (fun hc => ?_) (And.intro (fun hc => ?_) (And.intro (fun hc => ?_) (And.intro (fun hc => ?_) (And.intro (fun hc => ?_) trivial))))))))))) (fun hc => ?_)
  · have h := (h.1) hc
    change Wp _ _ 56 _ _ _ _
    refine w_aload_n (q := 57) hm189 ⟨⟨_, _, rfl⟩, rfl⟩ rfl ?_
    refine w_call (q := 60) (n := 1) (vs := [.inr (.inr (some 44))]) (rest := []) (la := [oR 44, none]) hm189 ⟨⟨_, _, rfl⟩, rfl⟩ rfl rfl rfl rfl hm190 rfl rfl (fun _ => ⟨_, _, rfl, rfl⟩) rfl (Wp.mono h ?_)
    rintro _ m1 ⟨r1, rfl, h⟩
    change Wp _ _ 60 _ [.inl r1] _ _
    exact w_retz hm189 ⟨⟨_, _, rfl⟩, rfl⟩ rfl h.1 h.2
  · have h := (h.2.1) hc
    change Wp _ _ 61 _ _ _ _
    refine w_aload_n (q := 62) hm189 ⟨⟨_, _, rfl⟩, rfl⟩ rfl ?_
    refine w_call (q := 65) (n := 3) (vs := [.inr (.inr (some 44))]) (rest := []) (la := [oR 44, none, none, none]) hm189 ⟨⟨_, _, rfl⟩, rfl⟩ rfl rfl rfl rfl hm191 rfl rfl (fun _ => ⟨_, _, rfl, rfl⟩) rfl (Wp.mono h ?_)
    rintro _ m2 ⟨r2, rfl, h⟩
    change Wp _ _ 65 _ [.inl r2] _ _
    exact w_retz hm189 ⟨⟨_, _, rfl⟩, rfl⟩ rfl h.1 h.2
  · have h := (h.2.2.1) hc
    change Wp _ _ 66 _ _ _ _
    refine w_aload_n (q := 67) hm189 ⟨⟨_, _, rfl⟩, rfl⟩ rfl ?_
    refine w_call (q := 70) (n := 1) (vs := [.inr (.inr (some 44))]) (rest := []) (la := [oR 44, none]) hm189 ⟨⟨_, _, rfl⟩, rfl⟩ rfl rfl rfl rfl hm192 rfl rfl (fun _ => ⟨_, _, rfl, rfl⟩) rfl (Wp.mono h ?_)
    rintro _ m3 ⟨r3, rfl, h⟩
    change Wp _ _ 70 _ [.inl r3] _ _
    exact w_retz hm189 ⟨⟨_, _, rfl⟩, rfl⟩ rfl h.1 h.2
  · have h := (h.2.2.2.1) hc
    change Wp _ _ 86 _ _ _ _
    refine w_iconst (q := 87) hm189 ⟨⟨_, _, rfl⟩, rfl⟩ iconst_1 ?_
    exact w_retz hm189 ⟨⟨_, _, rfl⟩, rfl⟩ rfl (by decide) h
  · have h := (h.2.2.2.2.1) hc
    change Wp _ _ 86 _ _ _ _
    refine w_iconst (q := 87) hm189 ⟨⟨_, _, rfl⟩, rfl⟩ iconst_1 ?_
    exact w_retz hm189 ⟨⟨_, _, rfl⟩, rfl⟩ rfl (by decide) h
  · have h := (h.2.2.2.2.2.1) hc
    change Wp _ _ 86 _ _ _ _
    refine w_iconst (q := 87) hm189 ⟨⟨_, _, rfl⟩, rfl⟩ iconst_1 ?_
    exact w_retz hm189 ⟨⟨_, _, rfl⟩, rfl⟩ rfl (by decide) h
  · have h := (h.2.2.2.2.2.2.1) hc
    change Wp _ _ 86 _ _ _ _
    refine w_iconst (q := 87) hm189 ⟨⟨_, _, rfl⟩, rfl⟩ iconst_1 ?_
    exact w_retz hm189 ⟨⟨_, _, rfl⟩, rfl⟩ rfl (by decide) h
  · have h := (h.2.2.2.2.2.2.2.1) hc
    change Wp _ _ 71 _ _ _ _
    refine w_aload_n (q := 72) hm189 ⟨⟨_, _, rfl⟩, rfl⟩ rfl ?_
    refine w_call (q := 75) (n := 0) (vs := [.inr (.inr (some 44))]) (rest := []) (la := [oR 44]) hm189 ⟨⟨_, _, rfl⟩, rfl⟩ rfl rfl rfl rfl hm193 rfl rfl (fun _ => ⟨_, _, rfl, rfl⟩) rfl (Wp.mono h ?_)
    rintro _ m4 ⟨r4, rfl, h⟩
    change Wp _ _ 75 _ [.inl r4] _ _
    exact w_retz hm189 ⟨⟨_, _, rfl⟩, rfl⟩ rfl h.1 h.2
  · have h := (h.2.2.2.2.2.2.2.2.1) hc
    change Wp _ _ 76 _ _ _ _
    refine w_aload_n (q := 77) hm189 ⟨⟨_, _, rfl⟩, rfl⟩ rfl ?_
    refine w_call (q := 80) (n := 0) (vs := [.inr (.inr (some 44))]) (rest := []) (la := [oR 44]) hm189 ⟨⟨_, _, rfl⟩, rfl⟩ rfl rfl rfl rfl hm194 rfl rfl (fun _ => ⟨_, _, rfl, rfl⟩) rfl (Wp.mono h ?_)
    rintro _ m5 ⟨r5, rfl, h⟩
    change Wp _ _ 80 _ [.inl r5] _ _
    exact w_retz hm189 ⟨⟨_, _, rfl⟩, rfl⟩ rfl h.1 h.2
  · have h := (h.2.2.2.2.2.2.2.2.2.1) hc
    change Wp _ _ 81 _ _ _ _
    refine w_aload_n (q := 82) hm189 ⟨⟨_, _, rfl⟩, rfl⟩ rfl ?_
    refine w_call (q := 85) (n := 0) (vs := [.inr (.inr (some 44))]) (rest := []) (la := [oR 44]) hm189 ⟨⟨_, _, rfl⟩, rfl⟩ rfl rfl rfl rfl hm195 rfl rfl (fun _ => ⟨_, _, rfl, rfl⟩) rfl (Wp.mono h ?_)
    rintro _ m6 ⟨r6, rfl, h⟩
    change Wp _ _ 85 _ [.inl r6] _ _
    exact w_retz hm189 ⟨⟨_, _, rfl⟩, rfl⟩ rfl h.1 h.2
  · have h := (h.2.2.2.2.2.2.2.2.2.2) hc
    change Wp _ _ 86 _ _ _ _
    refine w_iconst (q := 87) hm189 ⟨⟨_, _, rfl⟩, rfl⟩ iconst_1 ?_
    exact w_retz hm189 ⟨⟨_, _, rfl⟩, rfl⟩ rfl (by decide) h
theorem v_X5_skipEnd_44 {d : Nat} {m : dM} {Q : dM → Prop} (h : ((400 ≤ (m.1 44 4).toInt → j_X5_skipEnd_44_39 (d + 1) m Q) ∧ ((m.1 44 4).toInt < 400 → c_X8_kindAt_38 d (m.1 44 4) m (fun r1 m1 => ((r1.toInt = 59 → j_X5_skipEnd_44_39 (d + 1) m1 Q) ∧ (r1.toInt ≠ 59 → j_X5_skipEnd_44_0 (d + 1) (dSet m1 44 4 ((m1.1 44 4) + (1 : Int32))) Q)))))) : c_X5_skipEnd_44 (d + 1) m Q := by
  refine w_aload_n (q := 1) hm187 ⟨⟨_, _, rfl⟩, rfl⟩ rfl ?_
  refine w_getf (q := 4) (v := (m.1 44 4)) hm187 ⟨⟨_, _, rfl⟩, rfl⟩ rfl rfl ?_
  refine w_sipush (q := 7) hm187 ⟨⟨_, _, rfl⟩, rfl⟩ sipush_400 ?_
  refine w_icmp_ge (q := 10) (X := (m.1 44 4).toInt) (Y := 400) hm187 ⟨⟨_, _, rfl⟩, rfl⟩ rfl (by decide) (fun hc => ?_) (fun hc => ?_)
  · have h := h.1 hc
    exact h
  · have h := h.2 hc
    refine w_aload_n (q := 11) hm187 ⟨⟨_, _, rfl⟩, rfl⟩ rfl ?_
    refine w_getr (q := 14) hm187 ⟨⟨_, _, rfl⟩, rfl⟩ rfl ?_
    refine w_aload_n (q := 15) hm187 ⟨⟨_, _, rfl⟩, rfl⟩ rfl ?_
    refine w_getf (q := 18) (v := (m.1 44 4)) hm187 ⟨⟨_, _, rfl⟩, rfl⟩ rfl rfl ?_
    refine w_call (q := 21) (n := 0) (vs := [.inr (.inr (some 38)), .inl (m.1 44 4)]) (rest := []) (la := [oR 38, oI (m.1 44 4)]) hm187 ⟨⟨_, _, rfl⟩, rfl⟩ rfl rfl rfl rfl hm216 rfl rfl (fun _ => ⟨_, _, rfl, rfl⟩) rfl (Wp.mono h ?_)
    rintro _ m1 ⟨r1, rfl, h⟩
    change Wp _ _ 21 _ [.inl r1] _ _
    refine w_bipush (q := 23) hm187 ⟨⟨_, _, rfl⟩, rfl⟩ bipush_59 ?_
    refine w_icmp_eq (q := 26) (X := r1.toInt) (Y := 59) hm187 ⟨⟨_, _, rfl⟩, rfl⟩ rfl (by decide) (fun hc => ?_) (fun hc => ?_)
    · have h := h.1 hc
      exact h
    · have h := h.2 hc
      refine w_aload_n (q := 27) hm187 ⟨⟨_, _, rfl⟩, rfl⟩ rfl ?_
      refine w_dup (q := 28) hm187 ⟨⟨_, _, rfl⟩, rfl⟩ rfl ?_
      refine w_getf (q := 31) (v := (m1.1 44 4)) hm187 ⟨⟨_, _, rfl⟩, rfl⟩ rfl rfl ?_
      refine w_iconst (q := 32) hm187 ⟨⟨_, _, rfl⟩, rfl⟩ iconst_1 ?_
      refine w_iadd (q := 33) hm187 ⟨⟨_, _, rfl⟩, rfl⟩ ?_
      refine w_putf (q := 36) hm187 ⟨⟨_, _, rfl⟩, rfl⟩ rfl rfl rfl ?_
      refine w_goto (q := 0) hm187 ⟨_, _, rfl⟩ ?_
      exact h
theorem v_X5_skipEnd_44_0 {d : Nat} {m : dM} {Q : dM → Prop} (h : ((400 ≤ (m.1 44 4).toInt → j_X5_skipEnd_44_39 (d + 1) m Q) ∧ ((m.1 44 4).toInt < 400 → c_X8_kindAt_38 d (m.1 44 4) m (fun r1 m1 => ((r1.toInt = 59 → j_X5_skipEnd_44_39 (d + 1) m1 Q) ∧ (r1.toInt ≠ 59 → j_X5_skipEnd_44_0 (d + 1) (dSet m1 44 4 ((m1.1 44 4) + (1 : Int32))) Q)))))) : j_X5_skipEnd_44_0 (d + 1) m Q := by
  refine w_aload_n (q := 1) hm187 ⟨⟨_, _, rfl⟩, rfl⟩ rfl ?_
  refine w_getf (q := 4) (v := (m.1 44 4)) hm187 ⟨⟨_, _, rfl⟩, rfl⟩ rfl rfl ?_
  refine w_sipush (q := 7) hm187 ⟨⟨_, _, rfl⟩, rfl⟩ sipush_400 ?_
  refine w_icmp_ge (q := 10) (X := (m.1 44 4).toInt) (Y := 400) hm187 ⟨⟨_, _, rfl⟩, rfl⟩ rfl (by decide) (fun hc => ?_) (fun hc => ?_)
  · have h := h.1 hc
    exact h
  · have h := h.2 hc
    refine w_aload_n (q := 11) hm187 ⟨⟨_, _, rfl⟩, rfl⟩ rfl ?_
    refine w_getr (q := 14) hm187 ⟨⟨_, _, rfl⟩, rfl⟩ rfl ?_
    refine w_aload_n (q := 15) hm187 ⟨⟨_, _, rfl⟩, rfl⟩ rfl ?_
    refine w_getf (q := 18) (v := (m.1 44 4)) hm187 ⟨⟨_, _, rfl⟩, rfl⟩ rfl rfl ?_
    refine w_call (q := 21) (n := 0) (vs := [.inr (.inr (some 38)), .inl (m.1 44 4)]) (rest := []) (la := [oR 38, oI (m.1 44 4)]) hm187 ⟨⟨_, _, rfl⟩, rfl⟩ rfl rfl rfl rfl hm216 rfl rfl (fun _ => ⟨_, _, rfl, rfl⟩) rfl (Wp.mono h ?_)
    rintro _ m1 ⟨r1, rfl, h⟩
    change Wp _ _ 21 _ [.inl r1] _ _
    refine w_bipush (q := 23) hm187 ⟨⟨_, _, rfl⟩, rfl⟩ bipush_59 ?_
    refine w_icmp_eq (q := 26) (X := r1.toInt) (Y := 59) hm187 ⟨⟨_, _, rfl⟩, rfl⟩ rfl (by decide) (fun hc => ?_) (fun hc => ?_)
    · have h := h.1 hc
      exact h
    · have h := h.2 hc
      refine w_aload_n (q := 27) hm187 ⟨⟨_, _, rfl⟩, rfl⟩ rfl ?_
      refine w_dup (q := 28) hm187 ⟨⟨_, _, rfl⟩, rfl⟩ rfl ?_
      refine w_getf (q := 31) (v := (m1.1 44 4)) hm187 ⟨⟨_, _, rfl⟩, rfl⟩ rfl rfl ?_
      refine w_iconst (q := 32) hm187 ⟨⟨_, _, rfl⟩, rfl⟩ iconst_1 ?_
      refine w_iadd (q := 33) hm187 ⟨⟨_, _, rfl⟩, rfl⟩ ?_
      refine w_putf (q := 36) hm187 ⟨⟨_, _, rfl⟩, rfl⟩ rfl rfl rfl ?_
      refine w_goto (q := 0) hm187 ⟨_, _, rfl⟩ ?_
      exact h
theorem v_X5_skipEnd_44_39 {d : Nat} {m : dM} {Q : dM → Prop} (h : Q (dSet m 44 4 ((m.1 44 4) + (1 : Int32)))) : j_X5_skipEnd_44_39 (d + 1) m Q := by
  refine w_aload_n (q := 40) hm187 ⟨⟨_, _, rfl⟩, rfl⟩ rfl ?_
  refine w_dup (q := 41) hm187 ⟨⟨_, _, rfl⟩, rfl⟩ rfl ?_
  refine w_getf (q := 44) (v := (m.1 44 4)) hm187 ⟨⟨_, _, rfl⟩, rfl⟩ rfl rfl ?_
  refine w_iconst (q := 45) hm187 ⟨⟨_, _, rfl⟩, rfl⟩ iconst_1 ?_
  refine w_iadd (q := 46) hm187 ⟨⟨_, _, rfl⟩, rfl⟩ ?_
  refine w_putf (q := 49) hm187 ⟨⟨_, _, rfl⟩, rfl⟩ rfl rfl rfl ?_
  exact w_retv hm187 ⟨⟨_, _, rfl⟩, rfl⟩ rfl h
theorem v_X5_check_44 {d : Nat} {m : dM} {Q : Int32 → dM → Prop} (h : j_X5_check_44_12 (d + 1) (0 : Int32) (dSet (dSet m 44 4 (0 : Int32)) 44 5 (0 : Int32)) Q) : c_X5_check_44 (d + 1) m Q := by
  refine w_aload_n (q := 1) hm185 ⟨⟨_, _, rfl⟩, rfl⟩ rfl ?_
  refine w_iconst (q := 2) hm185 ⟨⟨_, _, rfl⟩, rfl⟩ iconst_0 ?_
  refine w_putf (q := 5) hm185 ⟨⟨_, _, rfl⟩, rfl⟩ rfl rfl rfl ?_
  refine w_aload_n (q := 6) hm185 ⟨⟨_, _, rfl⟩, rfl⟩ rfl ?_
  refine w_iconst (q := 7) hm185 ⟨⟨_, _, rfl⟩, rfl⟩ iconst_0 ?_
  refine w_putf (q := 10) hm185 ⟨⟨_, _, rfl⟩, rfl⟩ rfl rfl rfl ?_
  refine w_iconst (q := 11) hm185 ⟨⟨_, _, rfl⟩, rfl⟩ iconst_0 ?_
  refine w_istore_n (q := 12) (l' := [oR 44, oI (0 : Int32), none]) hm185 ⟨⟨_, _, rfl⟩, rfl⟩ rfl rfl rfl ?_
  exact h
theorem v_X5_check_44_12 {d : Nat} {x1 : Int32} {m : dM} {Q : Int32 → dM → Prop} (h : ((400 < x1.toInt → j_X5_check_44_82 (d + 1) m Q) ∧ (x1.toInt ≤ 400 → (((m.1 44 5).toInt ≠ 0 → j_X5_check_44_82 (d + 1) m Q) ∧ ((m.1 44 5).toInt = 0 → c_X8_kindAt_38 d (m.1 44 4) m (fun r1 m1 => ((r1.toInt = 24 → j_X5_check_44_82 (d + 1) m1 Q) ∧ (r1.toInt ≠ 24 → c_X8_kindAt_38 d (m1.1 44 4) m1 (fun r2 m2 => c_X5_takeTold_44 d r2 (dSet m2 44 4 ((m2.1 44 4) + (1 : Int32))) (fun r3 m3 => ((r3.toInt = 0 → j_X5_check_44_76 (d + 1) x1 m3 Q) ∧ (r3.toInt ≠ 0 → c_X5_skipEnd_44 d m3 (fun m4 => j_X5_check_44_76 (d + 1) x1 m4 Q))))))))))))) : j_X5_check_44_12 (d + 1) x1 m Q := by
  refine w_iload_n (q := 13) hm185 ⟨⟨_, _, rfl⟩, rfl⟩ rfl ?_
  refine w_sipush (q := 16) hm185 ⟨⟨_, _, rfl⟩, rfl⟩ sipush_400 ?_
  refine w_icmp_gt (q := 19) (X := x1.toInt) (Y := 400) hm185 ⟨⟨_, _, rfl⟩, rfl⟩ rfl (by decide) (fun hc => ?_) (fun hc => ?_)
  · have h := h.1 hc
    exact Wp.wk [true, false, false] h
  · have h := h.2 hc
    refine w_aload_n (q := 20) hm185 ⟨⟨_, _, rfl⟩, rfl⟩ rfl ?_
    refine w_getf (q := 23) (v := (m.1 44 5)) hm185 ⟨⟨_, _, rfl⟩, rfl⟩ rfl rfl ?_
    refine w_if_ne (q := 26) (X := (m.1 44 5).toInt) hm185 ⟨⟨_, _, rfl⟩, rfl⟩ rfl (fun hc => ?_) (fun hc => ?_)
    · have h := h.1 hc
      exact Wp.wk [true, false, false] h
    · have h := h.2 hc
      refine w_aload_n (q := 27) hm185 ⟨⟨_, _, rfl⟩, rfl⟩ rfl ?_
      refine w_getr (q := 30) hm185 ⟨⟨_, _, rfl⟩, rfl⟩ rfl ?_
      refine w_aload_n (q := 31) hm185 ⟨⟨_, _, rfl⟩, rfl⟩ rfl ?_
      refine w_getf (q := 34) (v := (m.1 44 4)) hm185 ⟨⟨_, _, rfl⟩, rfl⟩ rfl rfl ?_
      refine w_call (q := 37) (n := 0) (vs := [.inr (.inr (some 38)), .inl (m.1 44 4)]) (rest := []) (la := [oR 38, oI (m.1 44 4)]) hm185 ⟨⟨_, _, rfl⟩, rfl⟩ rfl rfl rfl rfl hm216 rfl rfl (fun _ => ⟨_, _, rfl, rfl⟩) rfl (Wp.mono h ?_)
      rintro _ m1 ⟨r1, rfl, h⟩
      change Wp _ _ 37 _ [.inl r1] _ _
      refine w_bipush (q := 39) hm185 ⟨⟨_, _, rfl⟩, rfl⟩ bipush_24 ?_
      refine w_icmp_eq (q := 42) (X := r1.toInt) (Y := 24) hm185 ⟨⟨_, _, rfl⟩, rfl⟩ rfl (by decide) (fun hc => ?_) (fun hc => ?_)
      · have h := h.1 hc
        exact Wp.wk [true, false, false] h
      · have h := h.2 hc
        refine w_aload_n (q := 43) hm185 ⟨⟨_, _, rfl⟩, rfl⟩ rfl ?_
        refine w_getr (q := 46) hm185 ⟨⟨_, _, rfl⟩, rfl⟩ rfl ?_
        refine w_aload_n (q := 47) hm185 ⟨⟨_, _, rfl⟩, rfl⟩ rfl ?_
        refine w_getf (q := 50) (v := (m1.1 44 4)) hm185 ⟨⟨_, _, rfl⟩, rfl⟩ rfl rfl ?_
        refine w_call (q := 53) (n := 0) (vs := [.inr (.inr (some 38)), .inl (m1.1 44 4)]) (rest := []) (la := [oR 38, oI (m1.1 44 4)]) hm185 ⟨⟨_, _, rfl⟩, rfl⟩ rfl rfl rfl rfl hm216 rfl rfl (fun _ => ⟨_, _, rfl, rfl⟩) rfl (Wp.mono h ?_)
        rintro _ m2 ⟨r2, rfl, h⟩
        change Wp _ _ 53 _ [.inl r2] _ _
        refine w_istore_n (q := 54) (l' := [oR 44, oI x1, oI r2]) hm185 ⟨⟨_, _, rfl⟩, rfl⟩ rfl rfl rfl ?_
        refine w_aload_n (q := 55) hm185 ⟨⟨_, _, rfl⟩, rfl⟩ rfl ?_
        refine w_dup (q := 56) hm185 ⟨⟨_, _, rfl⟩, rfl⟩ rfl ?_
        refine w_getf (q := 59) (v := (m2.1 44 4)) hm185 ⟨⟨_, _, rfl⟩, rfl⟩ rfl rfl ?_
        refine w_iconst (q := 60) hm185 ⟨⟨_, _, rfl⟩, rfl⟩ iconst_1 ?_
        refine w_iadd (q := 61) hm185 ⟨⟨_, _, rfl⟩, rfl⟩ ?_
        refine w_putf (q := 64) hm185 ⟨⟨_, _, rfl⟩, rfl⟩ rfl rfl rfl ?_
        refine w_aload_n (q := 65) hm185 ⟨⟨_, _, rfl⟩, rfl⟩ rfl ?_
        refine w_iload_n (q := 66) hm185 ⟨⟨_, _, rfl⟩, rfl⟩ rfl ?_
        refine w_call (q := 69) (n := 0) (vs := [.inr (.inr (some 44)), .inl r2]) (rest := []) (la := [oR 44, oI r2]) hm185 ⟨⟨_, _, rfl⟩, rfl⟩ rfl rfl rfl rfl hm189 rfl rfl (fun _ => ⟨_, _, rfl, rfl⟩) rfl (Wp.mono h ?_)
        rintro _ m3 ⟨r3, rfl, h⟩
        change Wp _ _ 69 _ [.inl r3] _ _
        refine w_if_eq (q := 72) (X := r3.toInt) hm185 ⟨⟨_, _, rfl⟩, rfl⟩ rfl (fun hc => ?_) (fun hc => ?_)
        · have h := h.1 hc
          exact Wp.wk [true, true, false] h
        · have h := h.2 hc
          refine w_aload_n (q := 73) hm185 ⟨⟨_, _, rfl⟩, rfl⟩ rfl ?_
          refine w_call (q := 76) (n := 0) (vs := [.inr (.inr (some 44))]) (rest := []) (la := [oR 44]) hm185 ⟨⟨_, _, rfl⟩, rfl⟩ rfl rfl rfl rfl hm187 rfl rfl (fun _ => ⟨_, _, rfl, rfl⟩) rfl (Wp.mono h ?_)
          rintro _ m4 ⟨rfl, h⟩
          change Wp _ _ 76 _ [] _ _
          exact Wp.wk [true, true, false] h
theorem v_X5_check_44_76 {d : Nat} {x1 : Int32} {m : dM} {Q : Int32 → dM → Prop} (h : j_X5_check_44_12 (d + 1) (x1 + (1 : Int32)) m Q) : j_X5_check_44_76 (d + 1) x1 m Q := by
  refine w_iinc (q := 79) (l' := [oR 44, oI (x1 + (1 : Int32)), none]) hm185 ⟨⟨_, _, rfl⟩, rfl⟩ rfl rfl rfl iconst_1 rfl ?_
  refine w_goto (q := 12) hm185 ⟨_, _, rfl⟩ ?_
  exact h
theorem v_X5_check_44_82 {d : Nat} {m : dM} {Q : Int32 → dM → Prop} (h : Q (m.1 44 5) m) : j_X5_check_44_82 (d + 1) m Q := by
  refine w_aload_n (q := 83) hm185 ⟨⟨_, _, rfl⟩, rfl⟩ rfl ?_
  refine w_getf (q := 86) (v := (m.1 44 5)) hm185 ⟨⟨_, _, rfl⟩, rfl⟩ rfl rfl ?_
  exact w_reti hm185 ⟨⟨_, _, rfl⟩, rfl⟩ rfl h
theorem v_X5_faultAt_44 {d : Nat} {m : dM} {Q : Int32 → dM → Prop} (h : (((m.1 44 5).toInt ≠ 0 → c_X8_placeAt_38 d (m.1 44 4) m (fun r1 m1 => Q r1 m1)) ∧ ((m.1 44 5).toInt = 0 → Q (-1 : Int32) m))) : c_X5_faultAt_44 (d + 1) m Q := by
  refine w_aload_n (q := 1) hm186 ⟨⟨_, _, rfl⟩, rfl⟩ rfl ?_
  refine w_getf (q := 4) (v := (m.1 44 5)) hm186 ⟨⟨_, _, rfl⟩, rfl⟩ rfl rfl ?_
  refine w_if_ne (q := 7) (X := (m.1 44 5).toInt) hm186 ⟨⟨_, _, rfl⟩, rfl⟩ rfl (fun hc => ?_) (fun hc => ?_)
  · have h := h.1 hc
    refine w_aload_n (q := 12) hm186 ⟨⟨_, _, rfl⟩, rfl⟩ rfl ?_
    refine w_getr (q := 15) hm186 ⟨⟨_, _, rfl⟩, rfl⟩ rfl ?_
    refine w_aload_n (q := 16) hm186 ⟨⟨_, _, rfl⟩, rfl⟩ rfl ?_
    refine w_getf (q := 19) (v := (m.1 44 4)) hm186 ⟨⟨_, _, rfl⟩, rfl⟩ rfl rfl ?_
    refine w_call (q := 22) (n := 0) (vs := [.inr (.inr (some 38)), .inl (m.1 44 4)]) (rest := []) (la := [oR 38, oI (m.1 44 4)]) hm186 ⟨⟨_, _, rfl⟩, rfl⟩ rfl rfl rfl rfl hm217 rfl rfl (fun _ => ⟨_, _, rfl, rfl⟩) rfl (Wp.mono h ?_)
    rintro _ m1 ⟨r1, rfl, h⟩
    change Wp _ _ 22 _ [.inl r1] _ _
    exact w_reti hm186 ⟨⟨_, _, rfl⟩, rfl⟩ rfl h
  · have h := h.2 hc
    refine w_iconst (q := 8) hm186 ⟨⟨_, _, rfl⟩, rfl⟩ iconst_m1 ?_
    refine w_goto (q := 22) hm186 ⟨_, _, rfl⟩ ?_
    exact w_reti hm186 ⟨⟨_, _, rfl⟩, rfl⟩ rfl h
theorem v_X4_copy_11_29 {d : Nat} {m : dM} {Q : dM → Prop} (h : ((0 ≤ (m.1 29 1).toInt ∧ 0 ≤ (0 : Int) ∧ 0 ≤ (0 : Int) ∧ (0 : Int) + (m.1 29 1).toInt ≤ 406 ∧ (0 : Int) + (m.1 29 1).toInt ≤ 406) ∧ j_X4_copy_11_29_27 (d + 1) (0 : Int32) (dSet (dCpy m 30 (0 : Int).toNat 12 (0 : Int).toNat ((m.1 29 1).toInt).toNat) 11 1 (m.1 29 1)) Q)) : c_X4_copy_11_29 (d + 1) m Q := by
  refine w_aload_n (q := 1) hm177 ⟨⟨_, _, rfl⟩, rfl⟩ rfl ?_
  refine w_getr (q := 4) hm177 ⟨⟨_, _, rfl⟩, rfl⟩ rfl ?_
  refine w_iconst (q := 5) hm177 ⟨⟨_, _, rfl⟩, rfl⟩ iconst_0 ?_
  refine w_aload_n (q := 6) hm177 ⟨⟨_, _, rfl⟩, rfl⟩ rfl ?_
  refine w_getr (q := 9) hm177 ⟨⟨_, _, rfl⟩, rfl⟩ rfl ?_
  refine w_iconst (q := 10) hm177 ⟨⟨_, _, rfl⟩, rfl⟩ iconst_0 ?_
  refine w_aload_n (q := 11) hm177 ⟨⟨_, _, rfl⟩, rfl⟩ rfl ?_
  refine w_getf (q := 14) (v := (m.1 29 1)) hm177 ⟨⟨_, _, rfl⟩, rfl⟩ rfl rfl ?_
  obtain ⟨hi, h⟩ := h
  refine w_copy (q := 17) (N := (m.1 29 1).toInt) (D := 0) (S := 0) hm177 ⟨⟨_, _, rfl⟩, rfl⟩ rfl rfl rfl rfl rfl rfl (by decide) (by decide) hi ?_
  refine w_aload_n (q := 18) hm177 ⟨⟨_, _, rfl⟩, rfl⟩ rfl ?_
  refine w_aload_n (q := 19) hm177 ⟨⟨_, _, rfl⟩, rfl⟩ rfl ?_
  refine w_getf (q := 22) (v := (m.1 29 1)) hm177 ⟨⟨_, _, rfl⟩, rfl⟩ rfl rfl ?_
  refine w_putf (q := 25) hm177 ⟨⟨_, _, rfl⟩, rfl⟩ rfl rfl rfl ?_
  refine w_iconst (q := 26) hm177 ⟨⟨_, _, rfl⟩, rfl⟩ iconst_0 ?_
  refine w_istore_n (q := 27) (l' := [oR 11, oR 29, oI (0 : Int32)]) hm177 ⟨⟨_, _, rfl⟩, rfl⟩ rfl rfl rfl ?_
  exact h
theorem v_X4_copy_11_29_27 {d : Nat} {x2 : Int32} {m : dM} {Q : dM → Prop} (h : ((4 ≤ x2.toInt → Q m) ∧ (x2.toInt < 4 → ((0 ≤ x2.toInt ∧ x2.toInt < 4) ∧ ((0 ≤ x2.toInt ∧ x2.toInt < 4) ∧ ((0 ≤ x2.toInt ∧ x2.toInt < 4) ∧ (x2.toInt = 0 → ((0 ≤ x2.toInt ∧ x2.toInt < 4) ∧ (x2.toInt = 0 → j_X4_copy_11_29_27 (d + 1) (x2 + (1 : Int32)) (dCpy (dSet m 18 x2.toNatClampNeg (m.1 36 x2.toNatClampNeg)) 32 (0 : Int).toNat 14 (0 : Int).toNat (14 : Int).toNat) Q) ∧ (x2.toInt = 1 → j_X4_copy_11_29_27 (d + 1) (x2 + (1 : Int32)) (dCpy (dSet m 18 x2.toNatClampNeg (m.1 36 x2.toNatClampNeg)) 32 (0 : Int).toNat 15 (0 : Int).toNat (14 : Int).toNat) Q) ∧ (x2.toInt = 2 → j_X4_copy_11_29_27 (d + 1) (x2 + (1 : Int32)) (dCpy (dSet m 18 x2.toNatClampNeg (m.1 36 x2.toNatClampNeg)) 32 (0 : Int).toNat 16 (0 : Int).toNat (14 : Int).toNat) Q) ∧ (x2.toInt = 3 → j_X4_copy_11_29_27 (d + 1) (x2 + (1 : Int32)) (dCpy (dSet m 18 x2.toNatClampNeg (m.1 36 x2.toNatClampNeg)) 32 (0 : Int).toNat 17 (0 : Int).toNat (14 : Int).toNat) Q))) ∧ (x2.toInt = 1 → ((0 ≤ x2.toInt ∧ x2.toInt < 4) ∧ (x2.toInt = 0 → j_X4_copy_11_29_27 (d + 1) (x2 + (1 : Int32)) (dCpy (dSet m 18 x2.toNatClampNeg (m.1 36 x2.toNatClampNeg)) 33 (0 : Int).toNat 14 (0 : Int).toNat (14 : Int).toNat) Q) ∧ (x2.toInt = 1 → j_X4_copy_11_29_27 (d + 1) (x2 + (1 : Int32)) (dCpy (dSet m 18 x2.toNatClampNeg (m.1 36 x2.toNatClampNeg)) 33 (0 : Int).toNat 15 (0 : Int).toNat (14 : Int).toNat) Q) ∧ (x2.toInt = 2 → j_X4_copy_11_29_27 (d + 1) (x2 + (1 : Int32)) (dCpy (dSet m 18 x2.toNatClampNeg (m.1 36 x2.toNatClampNeg)) 33 (0 : Int).toNat 16 (0 : Int).toNat (14 : Int).toNat) Q) ∧ (x2.toInt = 3 → j_X4_copy_11_29_27 (d + 1) (x2 + (1 : Int32)) (dCpy (dSet m 18 x2.toNatClampNeg (m.1 36 x2.toNatClampNeg)) 33 (0 : Int).toNat 17 (0 : Int).toNat (14 : Int).toNat) Q))) ∧ (x2.toInt = 2 → ((0 ≤ x2.toInt ∧ x2.toInt < 4) ∧ (x2.toInt = 0 → j_X4_copy_11_29_27 (d + 1) (x2 + (1 : Int32)) (dCpy (dSet m 18 x2.toNatClampNeg (m.1 36 x2.toNatClampNeg)) 34 (0 : Int).toNat 14 (0 : Int).toNat (14 : Int).toNat) Q) ∧ (x2.toInt = 1 → j_X4_copy_11_29_27 (d + 1) (x2 + (1 : Int32)) (dCpy (dSet m 18 x2.toNatClampNeg (m.1 36 x2.toNatClampNeg)) 34 (0 : Int).toNat 15 (0 : Int).toNat (14 : Int).toNat) Q) ∧ (x2.toInt = 2 → j_X4_copy_11_29_27 (d + 1) (x2 + (1 : Int32)) (dCpy (dSet m 18 x2.toNatClampNeg (m.1 36 x2.toNatClampNeg)) 34 (0 : Int).toNat 16 (0 : Int).toNat (14 : Int).toNat) Q) ∧ (x2.toInt = 3 → j_X4_copy_11_29_27 (d + 1) (x2 + (1 : Int32)) (dCpy (dSet m 18 x2.toNatClampNeg (m.1 36 x2.toNatClampNeg)) 34 (0 : Int).toNat 17 (0 : Int).toNat (14 : Int).toNat) Q))) ∧ (x2.toInt = 3 → ((0 ≤ x2.toInt ∧ x2.toInt < 4) ∧ (x2.toInt = 0 → j_X4_copy_11_29_27 (d + 1) (x2 + (1 : Int32)) (dCpy (dSet m 18 x2.toNatClampNeg (m.1 36 x2.toNatClampNeg)) 35 (0 : Int).toNat 14 (0 : Int).toNat (14 : Int).toNat) Q) ∧ (x2.toInt = 1 → j_X4_copy_11_29_27 (d + 1) (x2 + (1 : Int32)) (dCpy (dSet m 18 x2.toNatClampNeg (m.1 36 x2.toNatClampNeg)) 35 (0 : Int).toNat 15 (0 : Int).toNat (14 : Int).toNat) Q) ∧ (x2.toInt = 2 → j_X4_copy_11_29_27 (d + 1) (x2 + (1 : Int32)) (dCpy (dSet m 18 x2.toNatClampNeg (m.1 36 x2.toNatClampNeg)) 35 (0 : Int).toNat 16 (0 : Int).toNat (14 : Int).toNat) Q) ∧ (x2.toInt = 3 → j_X4_copy_11_29_27 (d + 1) (x2 + (1 : Int32)) (dCpy (dSet m 18 x2.toNatClampNeg (m.1 36 x2.toNatClampNeg)) 35 (0 : Int).toNat 17 (0 : Int).toNat (14 : Int).toNat) Q))))))))) : j_X4_copy_11_29_27 (d + 1) x2 m Q := by
  refine w_iload_n (q := 28) hm177 ⟨⟨_, _, rfl⟩, rfl⟩ rfl ?_
  refine w_iconst (q := 29) hm177 ⟨⟨_, _, rfl⟩, rfl⟩ iconst_4 ?_
  refine w_icmp_ge (q := 32) (X := x2.toInt) (Y := 4) hm177 ⟨⟨_, _, rfl⟩, rfl⟩ rfl (by decide) (fun hc => ?_) (fun hc => ?_)
  · have h := h.1 hc
    exact w_retv hm177 ⟨⟨_, _, rfl⟩, rfl⟩ rfl h
  · have h := h.2 hc
    refine w_aload_n (q := 33) hm177 ⟨⟨_, _, rfl⟩, rfl⟩ rfl ?_
    refine w_getr (q := 36) hm177 ⟨⟨_, _, rfl⟩, rfl⟩ rfl ?_
    refine w_iload_n (q := 37) hm177 ⟨⟨_, _, rfl⟩, rfl⟩ rfl ?_
    refine w_aload_n (q := 38) hm177 ⟨⟨_, _, rfl⟩, rfl⟩ rfl ?_
    refine w_getr (q := 41) hm177 ⟨⟨_, _, rfl⟩, rfl⟩ rfl ?_
    refine w_iload_n (q := 42) hm177 ⟨⟨_, _, rfl⟩, rfl⟩ rfl ?_
    obtain ⟨hi, h⟩ := h
    refine w_iald (q := 43) (v := (m.1 36 x2.toNatClampNeg)) hm177 ⟨⟨_, _, rfl⟩, rfl⟩ rfl hi rfl rfl ?_
    obtain ⟨hi, h⟩ := h
    refine w_iast (q := 44) hm177 ⟨⟨_, _, rfl⟩, rfl⟩ rfl hi rfl rfl ?_
    refine w_aload_n (q := 45) hm177 ⟨⟨_, _, rfl⟩, rfl⟩ rfl ?_
    refine w_getr (q := 48) hm177 ⟨⟨_, _, rfl⟩, rfl⟩ rfl ?_
    refine w_iload_n (q := 49) hm177 ⟨⟨_, _, rfl⟩, rfl⟩ rfl ?_
    obtain ⟨hi, h⟩ := h
    refine w_aald (q := 50) hm177 ⟨⟨_, _, rfl⟩, rfl⟩ rfl rfl hi ((And.intro (fun hc => ?_) (And.intro (fun hc => ?_) (And.intro (fun hc => ?_) (And.intro (fun hc => ?_) trivial)))))
    · have h := (h.1) hc
      refine w_iconst (q := 51) hm177 ⟨⟨_, _, rfl⟩, rfl⟩ iconst_0 ?_
      refine w_aload_n (q := 52) hm177 ⟨⟨_, _, rfl⟩, rfl⟩ rfl ?_
      refine w_getr (q := 55) hm177 ⟨⟨_, _, rfl⟩, rfl⟩ rfl ?_
      refine w_iload_n (q := 56) hm177 ⟨⟨_, _, rfl⟩, rfl⟩ rfl ?_
      obtain ⟨hi, h⟩ := h
      refine w_aald (q := 57) hm177 ⟨⟨_, _, rfl⟩, rfl⟩ rfl rfl hi ((And.intro (fun hc => ?_) (And.intro (fun hc => ?_) (And.intro (fun hc => ?_) (And.intro (fun hc => ?_) trivial)))))
      · have h := (h.1) hc
        refine w_iconst (q := 58) hm177 ⟨⟨_, _, rfl⟩, rfl⟩ iconst_0 ?_
        refine w_bipush (q := 60) hm177 ⟨⟨_, _, rfl⟩, rfl⟩ bipush_14 ?_
        refine w_copy (q := 63) (N := 14) (D := 0) (S := 0) hm177 ⟨⟨_, _, rfl⟩, rfl⟩ rfl rfl rfl rfl rfl (by decide) (by decide) (by decide) (by decide) ?_
        refine w_iinc (q := 66) (l' := [oR 11, oR 29, oI (x2 + (1 : Int32))]) hm177 ⟨⟨_, _, rfl⟩, rfl⟩ rfl rfl rfl iconst_1 rfl ?_
        refine w_goto (q := 27) hm177 ⟨_, _, rfl⟩ ?_
        exact h
      · have h := (h.2.1) hc
        refine w_iconst (q := 58) hm177 ⟨⟨_, _, rfl⟩, rfl⟩ iconst_0 ?_
        refine w_bipush (q := 60) hm177 ⟨⟨_, _, rfl⟩, rfl⟩ bipush_14 ?_
        refine w_copy (q := 63) (N := 14) (D := 0) (S := 0) hm177 ⟨⟨_, _, rfl⟩, rfl⟩ rfl rfl rfl rfl rfl (by decide) (by decide) (by decide) (by decide) ?_
        refine w_iinc (q := 66) (l' := [oR 11, oR 29, oI (x2 + (1 : Int32))]) hm177 ⟨⟨_, _, rfl⟩, rfl⟩ rfl rfl rfl iconst_1 rfl ?_
        refine w_goto (q := 27) hm177 ⟨_, _, rfl⟩ ?_
        exact h
      · have h := (h.2.2.1) hc
        refine w_iconst (q := 58) hm177 ⟨⟨_, _, rfl⟩, rfl⟩ iconst_0 ?_
        refine w_bipush (q := 60) hm177 ⟨⟨_, _, rfl⟩, rfl⟩ bipush_14 ?_
        refine w_copy (q := 63) (N := 14) (D := 0) (S := 0) hm177 ⟨⟨_, _, rfl⟩, rfl⟩ rfl rfl rfl rfl rfl (by decide) (by decide) (by decide) (by decide) ?_
        refine w_iinc (q := 66) (l' := [oR 11, oR 29, oI (x2 + (1 : Int32))]) hm177 ⟨⟨_, _, rfl⟩, rfl⟩ rfl rfl rfl iconst_1 rfl ?_
        refine w_goto (q := 27) hm177 ⟨_, _, rfl⟩ ?_
        exact h
      · have h := (h.2.2.2) hc
        refine w_iconst (q := 58) hm177 ⟨⟨_, _, rfl⟩, rfl⟩ iconst_0 ?_
        refine w_bipush (q := 60) hm177 ⟨⟨_, _, rfl⟩, rfl⟩ bipush_14 ?_
        refine w_copy (q := 63) (N := 14) (D := 0) (S := 0) hm177 ⟨⟨_, _, rfl⟩, rfl⟩ rfl rfl rfl rfl rfl (by decide) (by decide) (by decide) (by decide) ?_
        refine w_iinc (q := 66) (l' := [oR 11, oR 29, oI (x2 + (1 : Int32))]) hm177 ⟨⟨_, _, rfl⟩, rfl⟩ rfl rfl rfl iconst_1 rfl ?_
        refine w_goto (q := 27) hm177 ⟨_, _, rfl⟩ ?_
        exact h
    · have h := (h.2.1) hc
      refine w_iconst (q := 51) hm177 ⟨⟨_, _, rfl⟩, rfl⟩ iconst_0 ?_
      refine w_aload_n (q := 52) hm177 ⟨⟨_, _, rfl⟩, rfl⟩ rfl ?_
      refine w_getr (q := 55) hm177 ⟨⟨_, _, rfl⟩, rfl⟩ rfl ?_
      refine w_iload_n (q := 56) hm177 ⟨⟨_, _, rfl⟩, rfl⟩ rfl ?_
      obtain ⟨hi, h⟩ := h
      refine w_aald (q := 57) hm177 ⟨⟨_, _, rfl⟩, rfl⟩ rfl rfl hi ((And.intro (fun hc => ?_) (And.intro (fun hc => ?_) (And.intro (fun hc => ?_) (And.intro (fun hc => ?_) trivial)))))
      · have h := (h.1) hc
        refine w_iconst (q := 58) hm177 ⟨⟨_, _, rfl⟩, rfl⟩ iconst_0 ?_
        refine w_bipush (q := 60) hm177 ⟨⟨_, _, rfl⟩, rfl⟩ bipush_14 ?_
        refine w_copy (q := 63) (N := 14) (D := 0) (S := 0) hm177 ⟨⟨_, _, rfl⟩, rfl⟩ rfl rfl rfl rfl rfl (by decide) (by decide) (by decide) (by decide) ?_
        refine w_iinc (q := 66) (l' := [oR 11, oR 29, oI (x2 + (1 : Int32))]) hm177 ⟨⟨_, _, rfl⟩, rfl⟩ rfl rfl rfl iconst_1 rfl ?_
        refine w_goto (q := 27) hm177 ⟨_, _, rfl⟩ ?_
        exact h
      · have h := (h.2.1) hc
        refine w_iconst (q := 58) hm177 ⟨⟨_, _, rfl⟩, rfl⟩ iconst_0 ?_
        refine w_bipush (q := 60) hm177 ⟨⟨_, _, rfl⟩, rfl⟩ bipush_14 ?_
        refine w_copy (q := 63) (N := 14) (D := 0) (S := 0) hm177 ⟨⟨_, _, rfl⟩, rfl⟩ rfl rfl rfl rfl rfl (by decide) (by decide) (by decide) (by decide) ?_
        refine w_iinc (q := 66) (l' := [oR 11, oR 29, oI (x2 + (1 : Int32))]) hm177 ⟨⟨_, _, rfl⟩, rfl⟩ rfl rfl rfl iconst_1 rfl ?_
        refine w_goto (q := 27) hm177 ⟨_, _, rfl⟩ ?_
        exact h
      · have h := (h.2.2.1) hc
        refine w_iconst (q := 58) hm177 ⟨⟨_, _, rfl⟩, rfl⟩ iconst_0 ?_
        refine w_bipush (q := 60) hm177 ⟨⟨_, _, rfl⟩, rfl⟩ bipush_14 ?_
        refine w_copy (q := 63) (N := 14) (D := 0) (S := 0) hm177 ⟨⟨_, _, rfl⟩, rfl⟩ rfl rfl rfl rfl rfl (by decide) (by decide) (by decide) (by decide) ?_
        refine w_iinc (q := 66) (l' := [oR 11, oR 29, oI (x2 + (1 : Int32))]) hm177 ⟨⟨_, _, rfl⟩, rfl⟩ rfl rfl rfl iconst_1 rfl ?_
        refine w_goto (q := 27) hm177 ⟨_, _, rfl⟩ ?_
        exact h
      · have h := (h.2.2.2) hc
        refine w_iconst (q := 58) hm177 ⟨⟨_, _, rfl⟩, rfl⟩ iconst_0 ?_
        refine w_bipush (q := 60) hm177 ⟨⟨_, _, rfl⟩, rfl⟩ bipush_14 ?_
        refine w_copy (q := 63) (N := 14) (D := 0) (S := 0) hm177 ⟨⟨_, _, rfl⟩, rfl⟩ rfl rfl rfl rfl rfl (by decide) (by decide) (by decide) (by decide) ?_
        refine w_iinc (q := 66) (l' := [oR 11, oR 29, oI (x2 + (1 : Int32))]) hm177 ⟨⟨_, _, rfl⟩, rfl⟩ rfl rfl rfl iconst_1 rfl ?_
        refine w_goto (q := 27) hm177 ⟨_, _, rfl⟩ ?_
        exact h
    · have h := (h.2.2.1) hc
      refine w_iconst (q := 51) hm177 ⟨⟨_, _, rfl⟩, rfl⟩ iconst_0 ?_
      refine w_aload_n (q := 52) hm177 ⟨⟨_, _, rfl⟩, rfl⟩ rfl ?_
      refine w_getr (q := 55) hm177 ⟨⟨_, _, rfl⟩, rfl⟩ rfl ?_
      refine w_iload_n (q := 56) hm177 ⟨⟨_, _, rfl⟩, rfl⟩ rfl ?_
      obtain ⟨hi, h⟩ := h
      refine w_aald (q := 57) hm177 ⟨⟨_, _, rfl⟩, rfl⟩ rfl rfl hi ((And.intro (fun hc => ?_) (And.intro (fun hc => ?_) (And.intro (fun hc => ?_) (And.intro (fun hc => ?_) trivial)))))
      · have h := (h.1) hc
        refine w_iconst (q := 58) hm177 ⟨⟨_, _, rfl⟩, rfl⟩ iconst_0 ?_
        refine w_bipush (q := 60) hm177 ⟨⟨_, _, rfl⟩, rfl⟩ bipush_14 ?_
        refine w_copy (q := 63) (N := 14) (D := 0) (S := 0) hm177 ⟨⟨_, _, rfl⟩, rfl⟩ rfl rfl rfl rfl rfl (by decide) (by decide) (by decide) (by decide) ?_
        refine w_iinc (q := 66) (l' := [oR 11, oR 29, oI (x2 + (1 : Int32))]) hm177 ⟨⟨_, _, rfl⟩, rfl⟩ rfl rfl rfl iconst_1 rfl ?_
        refine w_goto (q := 27) hm177 ⟨_, _, rfl⟩ ?_
        exact h
      · have h := (h.2.1) hc
        refine w_iconst (q := 58) hm177 ⟨⟨_, _, rfl⟩, rfl⟩ iconst_0 ?_
        refine w_bipush (q := 60) hm177 ⟨⟨_, _, rfl⟩, rfl⟩ bipush_14 ?_
        refine w_copy (q := 63) (N := 14) (D := 0) (S := 0) hm177 ⟨⟨_, _, rfl⟩, rfl⟩ rfl rfl rfl rfl rfl (by decide) (by decide) (by decide) (by decide) ?_
        refine w_iinc (q := 66) (l' := [oR 11, oR 29, oI (x2 + (1 : Int32))]) hm177 ⟨⟨_, _, rfl⟩, rfl⟩ rfl rfl rfl iconst_1 rfl ?_
        refine w_goto (q := 27) hm177 ⟨_, _, rfl⟩ ?_
        exact h
      · have h := (h.2.2.1) hc
        refine w_iconst (q := 58) hm177 ⟨⟨_, _, rfl⟩, rfl⟩ iconst_0 ?_
        refine w_bipush (q := 60) hm177 ⟨⟨_, _, rfl⟩, rfl⟩ bipush_14 ?_
        refine w_copy (q := 63) (N := 14) (D := 0) (S := 0) hm177 ⟨⟨_, _, rfl⟩, rfl⟩ rfl rfl rfl rfl rfl (by decide) (by decide) (by decide) (by decide) ?_
        refine w_iinc (q := 66) (l' := [oR 11, oR 29, oI (x2 + (1 : Int32))]) hm177 ⟨⟨_, _, rfl⟩, rfl⟩ rfl rfl rfl iconst_1 rfl ?_
        refine w_goto (q := 27) hm177 ⟨_, _, rfl⟩ ?_
        exact h
      · have h := (h.2.2.2) hc
        refine w_iconst (q := 58) hm177 ⟨⟨_, _, rfl⟩, rfl⟩ iconst_0 ?_
        refine w_bipush (q := 60) hm177 ⟨⟨_, _, rfl⟩, rfl⟩ bipush_14 ?_
        refine w_copy (q := 63) (N := 14) (D := 0) (S := 0) hm177 ⟨⟨_, _, rfl⟩, rfl⟩ rfl rfl rfl rfl rfl (by decide) (by decide) (by decide) (by decide) ?_
        refine w_iinc (q := 66) (l' := [oR 11, oR 29, oI (x2 + (1 : Int32))]) hm177 ⟨⟨_, _, rfl⟩, rfl⟩ rfl rfl rfl iconst_1 rfl ?_
        refine w_goto (q := 27) hm177 ⟨_, _, rfl⟩ ?_
        exact h
    · have h := (h.2.2.2) hc
      refine w_iconst (q := 51) hm177 ⟨⟨_, _, rfl⟩, rfl⟩ iconst_0 ?_
      refine w_aload_n (q := 52) hm177 ⟨⟨_, _, rfl⟩, rfl⟩ rfl ?_
      refine w_getr (q := 55) hm177 ⟨⟨_, _, rfl⟩, rfl⟩ rfl ?_
      refine w_iload_n (q := 56) hm177 ⟨⟨_, _, rfl⟩, rfl⟩ rfl ?_
      obtain ⟨hi, h⟩ := h
      refine w_aald (q := 57) hm177 ⟨⟨_, _, rfl⟩, rfl⟩ rfl rfl hi ((And.intro (fun hc => ?_) (And.intro (fun hc => ?_) (And.intro (fun hc => ?_) (And.intro (fun hc => ?_) trivial)))))
      · have h := (h.1) hc
        refine w_iconst (q := 58) hm177 ⟨⟨_, _, rfl⟩, rfl⟩ iconst_0 ?_
        refine w_bipush (q := 60) hm177 ⟨⟨_, _, rfl⟩, rfl⟩ bipush_14 ?_
        refine w_copy (q := 63) (N := 14) (D := 0) (S := 0) hm177 ⟨⟨_, _, rfl⟩, rfl⟩ rfl rfl rfl rfl rfl (by decide) (by decide) (by decide) (by decide) ?_
        refine w_iinc (q := 66) (l' := [oR 11, oR 29, oI (x2 + (1 : Int32))]) hm177 ⟨⟨_, _, rfl⟩, rfl⟩ rfl rfl rfl iconst_1 rfl ?_
        refine w_goto (q := 27) hm177 ⟨_, _, rfl⟩ ?_
        exact h
      · have h := (h.2.1) hc
        refine w_iconst (q := 58) hm177 ⟨⟨_, _, rfl⟩, rfl⟩ iconst_0 ?_
        refine w_bipush (q := 60) hm177 ⟨⟨_, _, rfl⟩, rfl⟩ bipush_14 ?_
        refine w_copy (q := 63) (N := 14) (D := 0) (S := 0) hm177 ⟨⟨_, _, rfl⟩, rfl⟩ rfl rfl rfl rfl rfl (by decide) (by decide) (by decide) (by decide) ?_
        refine w_iinc (q := 66) (l' := [oR 11, oR 29, oI (x2 + (1 : Int32))]) hm177 ⟨⟨_, _, rfl⟩, rfl⟩ rfl rfl rfl iconst_1 rfl ?_
        refine w_goto (q := 27) hm177 ⟨_, _, rfl⟩ ?_
        exact h
      · have h := (h.2.2.1) hc
        refine w_iconst (q := 58) hm177 ⟨⟨_, _, rfl⟩, rfl⟩ iconst_0 ?_
        refine w_bipush (q := 60) hm177 ⟨⟨_, _, rfl⟩, rfl⟩ bipush_14 ?_
        refine w_copy (q := 63) (N := 14) (D := 0) (S := 0) hm177 ⟨⟨_, _, rfl⟩, rfl⟩ rfl rfl rfl rfl rfl (by decide) (by decide) (by decide) (by decide) ?_
        refine w_iinc (q := 66) (l' := [oR 11, oR 29, oI (x2 + (1 : Int32))]) hm177 ⟨⟨_, _, rfl⟩, rfl⟩ rfl rfl rfl iconst_1 rfl ?_
        refine w_goto (q := 27) hm177 ⟨_, _, rfl⟩ ?_
        exact h
      · have h := (h.2.2.2) hc
        refine w_iconst (q := 58) hm177 ⟨⟨_, _, rfl⟩, rfl⟩ iconst_0 ?_
        refine w_bipush (q := 60) hm177 ⟨⟨_, _, rfl⟩, rfl⟩ bipush_14 ?_
        refine w_copy (q := 63) (N := 14) (D := 0) (S := 0) hm177 ⟨⟨_, _, rfl⟩, rfl⟩ rfl rfl rfl rfl rfl (by decide) (by decide) (by decide) (by decide) ?_
        refine w_iinc (q := 66) (l' := [oR 11, oR 29, oI (x2 + (1 : Int32))]) hm177 ⟨⟨_, _, rfl⟩, rfl⟩ rfl rfl rfl iconst_1 rfl ?_
        refine w_goto (q := 27) hm177 ⟨_, _, rfl⟩ ?_
        exact h
theorem v_X3_copy_2_20 {d : Nat} {m : dM} {Q : dM → Prop} (h : c_X4_copy_11_29 d (dCpy (dCpy (dCpy (dCpy (dCpy (dCpy (dCpy (dCpy (dSet (dSet (dSet (dSet (dSet (dSet (dSet m 2 0 (m.1 20 0)) 2 1 (m.1 20 1)) 2 2 (m.1 20 2)) 2 3 (m.1 20 3)) 2 4 (m.1 20 4)) 2 5 (m.1 20 5)) 2 6 (m.1 20 6)) 21 (0 : Int).toNat 3 (0 : Int).toNat (7 : Int).toNat) 22 (0 : Int).toNat 4 (0 : Int).toNat (10 : Int).toNat) 23 (0 : Int).toNat 5 (0 : Int).toNat (10 : Int).toNat) 24 (0 : Int).toNat 6 (0 : Int).toNat (10 : Int).toNat) 25 (0 : Int).toNat 7 (0 : Int).toNat (8 : Int).toNat) 26 (0 : Int).toNat 8 (0 : Int).toNat (8 : Int).toNat) 27 (0 : Int).toNat 9 (0 : Int).toNat (8 : Int).toNat) 28 (0 : Int).toNat 10 (0 : Int).toNat (8 : Int).toNat) (fun m1 => Q m1)) : c_X3_copy_2_20 (d + 1) m Q := by
  refine w_aload_n (q := 1) hm170 ⟨⟨_, _, rfl⟩, rfl⟩ rfl ?_
  refine w_aload_n (q := 2) hm170 ⟨⟨_, _, rfl⟩, rfl⟩ rfl ?_
  refine w_getf (q := 5) (v := (m.1 20 0)) hm170 ⟨⟨_, _, rfl⟩, rfl⟩ rfl rfl ?_
  refine w_putf (q := 8) hm170 ⟨⟨_, _, rfl⟩, rfl⟩ rfl rfl rfl ?_
  refine w_aload_n (q := 9) hm170 ⟨⟨_, _, rfl⟩, rfl⟩ rfl ?_
  refine w_aload_n (q := 10) hm170 ⟨⟨_, _, rfl⟩, rfl⟩ rfl ?_
  refine w_getf (q := 13) (v := (m.1 20 1)) hm170 ⟨⟨_, _, rfl⟩, rfl⟩ rfl rfl ?_
  refine w_putf (q := 16) hm170 ⟨⟨_, _, rfl⟩, rfl⟩ rfl rfl rfl ?_
  refine w_aload_n (q := 17) hm170 ⟨⟨_, _, rfl⟩, rfl⟩ rfl ?_
  refine w_aload_n (q := 18) hm170 ⟨⟨_, _, rfl⟩, rfl⟩ rfl ?_
  refine w_getf (q := 21) (v := (m.1 20 2)) hm170 ⟨⟨_, _, rfl⟩, rfl⟩ rfl rfl ?_
  refine w_putf (q := 24) hm170 ⟨⟨_, _, rfl⟩, rfl⟩ rfl rfl rfl ?_
  refine w_aload_n (q := 25) hm170 ⟨⟨_, _, rfl⟩, rfl⟩ rfl ?_
  refine w_aload_n (q := 26) hm170 ⟨⟨_, _, rfl⟩, rfl⟩ rfl ?_
  refine w_getf (q := 29) (v := (m.1 20 3)) hm170 ⟨⟨_, _, rfl⟩, rfl⟩ rfl rfl ?_
  refine w_putf (q := 32) hm170 ⟨⟨_, _, rfl⟩, rfl⟩ rfl rfl rfl ?_
  refine w_aload_n (q := 33) hm170 ⟨⟨_, _, rfl⟩, rfl⟩ rfl ?_
  refine w_aload_n (q := 34) hm170 ⟨⟨_, _, rfl⟩, rfl⟩ rfl ?_
  refine w_getf (q := 37) (v := (m.1 20 4)) hm170 ⟨⟨_, _, rfl⟩, rfl⟩ rfl rfl ?_
  refine w_putf (q := 40) hm170 ⟨⟨_, _, rfl⟩, rfl⟩ rfl rfl rfl ?_
  refine w_aload_n (q := 41) hm170 ⟨⟨_, _, rfl⟩, rfl⟩ rfl ?_
  refine w_aload_n (q := 42) hm170 ⟨⟨_, _, rfl⟩, rfl⟩ rfl ?_
  refine w_getf (q := 45) (v := (m.1 20 5)) hm170 ⟨⟨_, _, rfl⟩, rfl⟩ rfl rfl ?_
  refine w_putf (q := 48) hm170 ⟨⟨_, _, rfl⟩, rfl⟩ rfl rfl rfl ?_
  refine w_aload_n (q := 49) hm170 ⟨⟨_, _, rfl⟩, rfl⟩ rfl ?_
  refine w_aload_n (q := 50) hm170 ⟨⟨_, _, rfl⟩, rfl⟩ rfl ?_
  refine w_getf (q := 53) (v := (m.1 20 6)) hm170 ⟨⟨_, _, rfl⟩, rfl⟩ rfl rfl ?_
  refine w_putf (q := 56) hm170 ⟨⟨_, _, rfl⟩, rfl⟩ rfl rfl rfl ?_
  refine w_aload_n (q := 57) hm170 ⟨⟨_, _, rfl⟩, rfl⟩ rfl ?_
  refine w_getr (q := 60) hm170 ⟨⟨_, _, rfl⟩, rfl⟩ rfl ?_
  refine w_iconst (q := 61) hm170 ⟨⟨_, _, rfl⟩, rfl⟩ iconst_0 ?_
  refine w_aload_n (q := 62) hm170 ⟨⟨_, _, rfl⟩, rfl⟩ rfl ?_
  refine w_getr (q := 65) hm170 ⟨⟨_, _, rfl⟩, rfl⟩ rfl ?_
  refine w_iconst (q := 66) hm170 ⟨⟨_, _, rfl⟩, rfl⟩ iconst_0 ?_
  refine w_bipush (q := 68) hm170 ⟨⟨_, _, rfl⟩, rfl⟩ bipush_7 ?_
  refine w_copy (q := 71) (N := 7) (D := 0) (S := 0) hm170 ⟨⟨_, _, rfl⟩, rfl⟩ rfl rfl rfl rfl rfl (by decide) (by decide) (by decide) (by decide) ?_
  refine w_aload_n (q := 72) hm170 ⟨⟨_, _, rfl⟩, rfl⟩ rfl ?_
  refine w_getr (q := 75) hm170 ⟨⟨_, _, rfl⟩, rfl⟩ rfl ?_
  refine w_iconst (q := 76) hm170 ⟨⟨_, _, rfl⟩, rfl⟩ iconst_0 ?_
  refine w_aload_n (q := 77) hm170 ⟨⟨_, _, rfl⟩, rfl⟩ rfl ?_
  refine w_getr (q := 80) hm170 ⟨⟨_, _, rfl⟩, rfl⟩ rfl ?_
  refine w_iconst (q := 81) hm170 ⟨⟨_, _, rfl⟩, rfl⟩ iconst_0 ?_
  refine w_bipush (q := 83) hm170 ⟨⟨_, _, rfl⟩, rfl⟩ bipush_10 ?_
  refine w_copy (q := 86) (N := 10) (D := 0) (S := 0) hm170 ⟨⟨_, _, rfl⟩, rfl⟩ rfl rfl rfl rfl rfl (by decide) (by decide) (by decide) (by decide) ?_
  refine w_aload_n (q := 87) hm170 ⟨⟨_, _, rfl⟩, rfl⟩ rfl ?_
  refine w_getr (q := 90) hm170 ⟨⟨_, _, rfl⟩, rfl⟩ rfl ?_
  refine w_iconst (q := 91) hm170 ⟨⟨_, _, rfl⟩, rfl⟩ iconst_0 ?_
  refine w_aload_n (q := 92) hm170 ⟨⟨_, _, rfl⟩, rfl⟩ rfl ?_
  refine w_getr (q := 95) hm170 ⟨⟨_, _, rfl⟩, rfl⟩ rfl ?_
  refine w_iconst (q := 96) hm170 ⟨⟨_, _, rfl⟩, rfl⟩ iconst_0 ?_
  refine w_bipush (q := 98) hm170 ⟨⟨_, _, rfl⟩, rfl⟩ bipush_10 ?_
  refine w_copy (q := 101) (N := 10) (D := 0) (S := 0) hm170 ⟨⟨_, _, rfl⟩, rfl⟩ rfl rfl rfl rfl rfl (by decide) (by decide) (by decide) (by decide) ?_
  refine w_aload_n (q := 102) hm170 ⟨⟨_, _, rfl⟩, rfl⟩ rfl ?_
  refine w_getr (q := 105) hm170 ⟨⟨_, _, rfl⟩, rfl⟩ rfl ?_
  refine w_iconst (q := 106) hm170 ⟨⟨_, _, rfl⟩, rfl⟩ iconst_0 ?_
  refine w_aload_n (q := 107) hm170 ⟨⟨_, _, rfl⟩, rfl⟩ rfl ?_
  refine w_getr (q := 110) hm170 ⟨⟨_, _, rfl⟩, rfl⟩ rfl ?_
  refine w_iconst (q := 111) hm170 ⟨⟨_, _, rfl⟩, rfl⟩ iconst_0 ?_
  refine w_bipush (q := 113) hm170 ⟨⟨_, _, rfl⟩, rfl⟩ bipush_10 ?_
  refine w_copy (q := 116) (N := 10) (D := 0) (S := 0) hm170 ⟨⟨_, _, rfl⟩, rfl⟩ rfl rfl rfl rfl rfl (by decide) (by decide) (by decide) (by decide) ?_
  refine w_aload_n (q := 117) hm170 ⟨⟨_, _, rfl⟩, rfl⟩ rfl ?_
  refine w_getr (q := 120) hm170 ⟨⟨_, _, rfl⟩, rfl⟩ rfl ?_
  refine w_iconst (q := 121) hm170 ⟨⟨_, _, rfl⟩, rfl⟩ iconst_0 ?_
  refine w_aload_n (q := 122) hm170 ⟨⟨_, _, rfl⟩, rfl⟩ rfl ?_
  refine w_getr (q := 125) hm170 ⟨⟨_, _, rfl⟩, rfl⟩ rfl ?_
  refine w_iconst (q := 126) hm170 ⟨⟨_, _, rfl⟩, rfl⟩ iconst_0 ?_
  refine w_bipush (q := 128) hm170 ⟨⟨_, _, rfl⟩, rfl⟩ bipush_8 ?_
  refine w_copy (q := 131) (N := 8) (D := 0) (S := 0) hm170 ⟨⟨_, _, rfl⟩, rfl⟩ rfl rfl rfl rfl rfl (by decide) (by decide) (by decide) (by decide) ?_
  refine w_aload_n (q := 132) hm170 ⟨⟨_, _, rfl⟩, rfl⟩ rfl ?_
  refine w_getr (q := 135) hm170 ⟨⟨_, _, rfl⟩, rfl⟩ rfl ?_
  refine w_iconst (q := 136) hm170 ⟨⟨_, _, rfl⟩, rfl⟩ iconst_0 ?_
  refine w_aload_n (q := 137) hm170 ⟨⟨_, _, rfl⟩, rfl⟩ rfl ?_
  refine w_getr (q := 140) hm170 ⟨⟨_, _, rfl⟩, rfl⟩ rfl ?_
  refine w_iconst (q := 141) hm170 ⟨⟨_, _, rfl⟩, rfl⟩ iconst_0 ?_
  refine w_bipush (q := 143) hm170 ⟨⟨_, _, rfl⟩, rfl⟩ bipush_8 ?_
  refine w_copy (q := 146) (N := 8) (D := 0) (S := 0) hm170 ⟨⟨_, _, rfl⟩, rfl⟩ rfl rfl rfl rfl rfl (by decide) (by decide) (by decide) (by decide) ?_
  refine w_aload_n (q := 147) hm170 ⟨⟨_, _, rfl⟩, rfl⟩ rfl ?_
  refine w_getr (q := 150) hm170 ⟨⟨_, _, rfl⟩, rfl⟩ rfl ?_
  refine w_iconst (q := 151) hm170 ⟨⟨_, _, rfl⟩, rfl⟩ iconst_0 ?_
  refine w_aload_n (q := 152) hm170 ⟨⟨_, _, rfl⟩, rfl⟩ rfl ?_
  refine w_getr (q := 155) hm170 ⟨⟨_, _, rfl⟩, rfl⟩ rfl ?_
  refine w_iconst (q := 156) hm170 ⟨⟨_, _, rfl⟩, rfl⟩ iconst_0 ?_
  refine w_bipush (q := 158) hm170 ⟨⟨_, _, rfl⟩, rfl⟩ bipush_8 ?_
  refine w_copy (q := 161) (N := 8) (D := 0) (S := 0) hm170 ⟨⟨_, _, rfl⟩, rfl⟩ rfl rfl rfl rfl rfl (by decide) (by decide) (by decide) (by decide) ?_
  refine w_aload_n (q := 162) hm170 ⟨⟨_, _, rfl⟩, rfl⟩ rfl ?_
  refine w_getr (q := 165) hm170 ⟨⟨_, _, rfl⟩, rfl⟩ rfl ?_
  refine w_iconst (q := 166) hm170 ⟨⟨_, _, rfl⟩, rfl⟩ iconst_0 ?_
  refine w_aload_n (q := 167) hm170 ⟨⟨_, _, rfl⟩, rfl⟩ rfl ?_
  refine w_getr (q := 170) hm170 ⟨⟨_, _, rfl⟩, rfl⟩ rfl ?_
  refine w_iconst (q := 171) hm170 ⟨⟨_, _, rfl⟩, rfl⟩ iconst_0 ?_
  refine w_bipush (q := 173) hm170 ⟨⟨_, _, rfl⟩, rfl⟩ bipush_8 ?_
  refine w_copy (q := 176) (N := 8) (D := 0) (S := 0) hm170 ⟨⟨_, _, rfl⟩, rfl⟩ rfl rfl rfl rfl rfl (by decide) (by decide) (by decide) (by decide) ?_
  refine w_aload_n (q := 177) hm170 ⟨⟨_, _, rfl⟩, rfl⟩ rfl ?_
  refine w_getr (q := 180) hm170 ⟨⟨_, _, rfl⟩, rfl⟩ rfl ?_
  refine w_aload_n (q := 181) hm170 ⟨⟨_, _, rfl⟩, rfl⟩ rfl ?_
  refine w_getr (q := 184) hm170 ⟨⟨_, _, rfl⟩, rfl⟩ rfl ?_
  refine w_call (q := 187) (n := 1) (vs := [.inr (.inr (some 11)), .inr (.inr (some 29))]) (rest := []) (la := [oR 11, oR 29, none]) hm170 ⟨⟨_, _, rfl⟩, rfl⟩ rfl rfl rfl rfl hm177 rfl rfl (fun _ => ⟨_, _, rfl, rfl⟩) rfl (Wp.mono h ?_)
  rintro _ m1 ⟨rfl, h⟩
  change Wp _ _ 187 _ [] _ _
  exact w_retv hm170 ⟨⟨_, _, rfl⟩, rfl⟩ rfl h
theorem v_X10_houseIsNew_57 {d : Nat} {m : dM} {Q : dM → Prop} (h : Q (dSet m 57 1 (-1 : Int32))) : c_X10_houseIsNew_57 (d + 1) m Q := by
  refine w_aload_n (q := 1) hm238 ⟨⟨_, _, rfl⟩, rfl⟩ rfl ?_
  refine w_iconst (q := 2) hm238 ⟨⟨_, _, rfl⟩, rfl⟩ iconst_m1 ?_
  refine w_putf (q := 5) hm238 ⟨⟨_, _, rfl⟩, rfl⟩ rfl rfl rfl ?_
  exact w_retv hm238 ⟨⟨_, _, rfl⟩, rfl⟩ rfl h
theorem v_X0_houseIsNew_54 {d : Nat} {m : dM} {Q : dM → Prop} (h : c_X10_houseIsNew_57 d m (fun m1 => Q m1)) : c_X0_houseIsNew_54 (d + 1) m Q := by
  refine w_aload_n (q := 1) hm115 ⟨⟨_, _, rfl⟩, rfl⟩ rfl ?_
  refine w_getr (q := 4) hm115 ⟨⟨_, _, rfl⟩, rfl⟩ rfl ?_
  refine w_call (q := 7) (n := 0) (vs := [.inr (.inr (some 57))]) (rest := []) (la := [oR 57]) hm115 ⟨⟨_, _, rfl⟩, rfl⟩ rfl rfl rfl rfl hm238 rfl rfl (fun _ => ⟨_, _, rfl, rfl⟩) rfl (Wp.mono h ?_)
  rintro _ m1 ⟨rfl, h⟩
  change Wp _ _ 7 _ [] _ _
  exact w_retv hm115 ⟨⟨_, _, rfl⟩, rfl⟩ rfl h
theorem v_J7_fill_49 {d : Nat} {x1 : Int32} {m : dM} {Q : dM → Prop} (h : j_J7_fill_49_5 (d + 1) x1 (0 : Int32) (10 : Int32) m Q) : c_J7_fill_49 (d + 1) x1 m Q := by
  refine w_iconst (q := 1) hm286 ⟨⟨_, _, rfl⟩, rfl⟩ iconst_0 ?_
  refine w_istore_n (q := 2) (l' := [oR 49, oI x1, oI (0 : Int32), none]) hm286 ⟨⟨_, _, rfl⟩, rfl⟩ rfl rfl rfl ?_
  refine w_aload_n (q := 3) hm286 ⟨⟨_, _, rfl⟩, rfl⟩ rfl ?_
  refine w_alen (q := 4) hm286 ⟨⟨_, _, rfl⟩, rfl⟩ rfl alen_10 ?_
  refine w_istore_n (q := 5) (l' := [oR 49, oI x1, oI (0 : Int32), oI (10 : Int32)]) hm286 ⟨⟨_, _, rfl⟩, rfl⟩ rfl rfl rfl ?_
  exact h
theorem v_J7_fill_49_5 {d : Nat} {x1 : Int32} {x2 : Int32} {x3 : Int32} {m : dM} {Q : dM → Prop} (h : ((x3.toInt ≤ x2.toInt → Q m) ∧ (x2.toInt < x3.toInt → ((0 ≤ x2.toInt ∧ x2.toInt < 10) ∧ j_J7_fill_49_5 (d + 1) x1 (x2 + (1 : Int32)) x3 (dSet m 49 x2.toNatClampNeg x1) Q)))) : j_J7_fill_49_5 (d + 1) x1 x2 x3 m Q := by
  refine w_iload_n (q := 6) hm286 ⟨⟨_, _, rfl⟩, rfl⟩ rfl ?_
  refine w_iload_n (q := 7) hm286 ⟨⟨_, _, rfl⟩, rfl⟩ rfl ?_
  refine w_icmp_ge (q := 10) (X := x2.toInt) (Y := x3.toInt) hm286 ⟨⟨_, _, rfl⟩, rfl⟩ rfl rfl (fun hc => ?_) (fun hc => ?_)
  · have h := h.1 hc
    exact w_retv hm286 ⟨⟨_, _, rfl⟩, rfl⟩ rfl h
  · have h := h.2 hc
    refine w_aload_n (q := 11) hm286 ⟨⟨_, _, rfl⟩, rfl⟩ rfl ?_
    refine w_iload_n (q := 12) hm286 ⟨⟨_, _, rfl⟩, rfl⟩ rfl ?_
    refine w_iload_n (q := 13) hm286 ⟨⟨_, _, rfl⟩, rfl⟩ rfl ?_
    obtain ⟨hi, h⟩ := h
    refine w_iast (q := 14) hm286 ⟨⟨_, _, rfl⟩, rfl⟩ rfl hi rfl rfl ?_
    refine w_iinc (q := 17) (l' := [oR 49, oI x1, oI (x2 + (1 : Int32)), oI x3]) hm286 ⟨⟨_, _, rfl⟩, rfl⟩ rfl rfl rfl iconst_1 rfl ?_
    refine w_goto (q := 5) hm286 ⟨_, _, rfl⟩ ?_
    exact h
theorem v_J7_fill_50 {d : Nat} {x1 : Int32} {m : dM} {Q : dM → Prop} (h : j_J7_fill_50_5 (d + 1) x1 (0 : Int32) (7 : Int32) m Q) : c_J7_fill_50 (d + 1) x1 m Q := by
  refine w_iconst (q := 1) hm286 ⟨⟨_, _, rfl⟩, rfl⟩ iconst_0 ?_
  refine w_istore_n (q := 2) (l' := [oR 50, oI x1, oI (0 : Int32), none]) hm286 ⟨⟨_, _, rfl⟩, rfl⟩ rfl rfl rfl ?_
  refine w_aload_n (q := 3) hm286 ⟨⟨_, _, rfl⟩, rfl⟩ rfl ?_
  refine w_alen (q := 4) hm286 ⟨⟨_, _, rfl⟩, rfl⟩ rfl alen_7 ?_
  refine w_istore_n (q := 5) (l' := [oR 50, oI x1, oI (0 : Int32), oI (7 : Int32)]) hm286 ⟨⟨_, _, rfl⟩, rfl⟩ rfl rfl rfl ?_
  exact h
theorem v_J7_fill_50_5 {d : Nat} {x1 : Int32} {x2 : Int32} {x3 : Int32} {m : dM} {Q : dM → Prop} (h : ((x3.toInt ≤ x2.toInt → Q m) ∧ (x2.toInt < x3.toInt → ((0 ≤ x2.toInt ∧ x2.toInt < 7) ∧ j_J7_fill_50_5 (d + 1) x1 (x2 + (1 : Int32)) x3 (dSet m 50 x2.toNatClampNeg x1) Q)))) : j_J7_fill_50_5 (d + 1) x1 x2 x3 m Q := by
  refine w_iload_n (q := 6) hm286 ⟨⟨_, _, rfl⟩, rfl⟩ rfl ?_
  refine w_iload_n (q := 7) hm286 ⟨⟨_, _, rfl⟩, rfl⟩ rfl ?_
  refine w_icmp_ge (q := 10) (X := x2.toInt) (Y := x3.toInt) hm286 ⟨⟨_, _, rfl⟩, rfl⟩ rfl rfl (fun hc => ?_) (fun hc => ?_)
  · have h := h.1 hc
    exact w_retv hm286 ⟨⟨_, _, rfl⟩, rfl⟩ rfl h
  · have h := h.2 hc
    refine w_aload_n (q := 11) hm286 ⟨⟨_, _, rfl⟩, rfl⟩ rfl ?_
    refine w_iload_n (q := 12) hm286 ⟨⟨_, _, rfl⟩, rfl⟩ rfl ?_
    refine w_iload_n (q := 13) hm286 ⟨⟨_, _, rfl⟩, rfl⟩ rfl ?_
    obtain ⟨hi, h⟩ := h
    refine w_iast (q := 14) hm286 ⟨⟨_, _, rfl⟩, rfl⟩ rfl hi rfl rfl ?_
    refine w_iinc (q := 17) (l' := [oR 50, oI x1, oI (x2 + (1 : Int32)), oI x3]) hm286 ⟨⟨_, _, rfl⟩, rfl⟩ rfl rfl rfl iconst_1 rfl ?_
    refine w_goto (q := 5) hm286 ⟨_, _, rfl⟩ ?_
    exact h
theorem v_X7_begin_47_2 {d : Nat} {m : dM} {Q : dM → Prop} (h : c_J7_fill_49 d (0 : Int32) (dCpy (dSet (dSet (dSet (dSet (dSet (dSet m 47 0 (0 : Int32)) 47 1 (m.1 2 5)) 47 2 (0 : Int32)) 47 3 (0 : Int32)) 47 4 (0 : Int32)) 47 5 (((1 : Int32) <<< ((m.1 2 2) &&& 31)) - (1 : Int32))) 6 (0 : Int).toNat 48 (0 : Int).toNat (10 : Int).toNat) (fun m1 => c_J7_fill_50 d (0 : Int32) m1 (fun m2 => Q m2))) : c_X7_begin_47_2 (d + 1) m Q := by
  refine w_aload_n (q := 1) hm208 ⟨⟨_, _, rfl⟩, rfl⟩ rfl ?_
  refine w_iconst (q := 2) hm208 ⟨⟨_, _, rfl⟩, rfl⟩ iconst_0 ?_
  refine w_putf (q := 5) hm208 ⟨⟨_, _, rfl⟩, rfl⟩ rfl rfl rfl ?_
  refine w_aload_n (q := 6) hm208 ⟨⟨_, _, rfl⟩, rfl⟩ rfl ?_
  refine w_aload_n (q := 7) hm208 ⟨⟨_, _, rfl⟩, rfl⟩ rfl ?_
  refine w_getf (q := 10) (v := (m.1 2 5)) hm208 ⟨⟨_, _, rfl⟩, rfl⟩ rfl rfl ?_
  refine w_putf (q := 13) hm208 ⟨⟨_, _, rfl⟩, rfl⟩ rfl rfl rfl ?_
  refine w_aload_n (q := 14) hm208 ⟨⟨_, _, rfl⟩, rfl⟩ rfl ?_
  refine w_iconst (q := 15) hm208 ⟨⟨_, _, rfl⟩, rfl⟩ iconst_0 ?_
  refine w_putf (q := 18) hm208 ⟨⟨_, _, rfl⟩, rfl⟩ rfl rfl rfl ?_
  refine w_aload_n (q := 19) hm208 ⟨⟨_, _, rfl⟩, rfl⟩ rfl ?_
  refine w_iconst (q := 20) hm208 ⟨⟨_, _, rfl⟩, rfl⟩ iconst_0 ?_
  refine w_putf (q := 23) hm208 ⟨⟨_, _, rfl⟩, rfl⟩ rfl rfl rfl ?_
  refine w_aload_n (q := 24) hm208 ⟨⟨_, _, rfl⟩, rfl⟩ rfl ?_
  refine w_iconst (q := 25) hm208 ⟨⟨_, _, rfl⟩, rfl⟩ iconst_0 ?_
  refine w_putf (q := 28) hm208 ⟨⟨_, _, rfl⟩, rfl⟩ rfl rfl rfl ?_
  refine w_aload_n (q := 29) hm208 ⟨⟨_, _, rfl⟩, rfl⟩ rfl ?_
  refine w_iconst (q := 30) hm208 ⟨⟨_, _, rfl⟩, rfl⟩ iconst_1 ?_
  refine w_aload_n (q := 31) hm208 ⟨⟨_, _, rfl⟩, rfl⟩ rfl ?_
  refine w_getf (q := 34) (v := (m.1 2 2)) hm208 ⟨⟨_, _, rfl⟩, rfl⟩ rfl rfl ?_
  refine w_ishl (q := 35) hm208 ⟨⟨_, _, rfl⟩, rfl⟩ ?_
  refine w_iconst (q := 36) hm208 ⟨⟨_, _, rfl⟩, rfl⟩ iconst_1 ?_
  refine w_isub (q := 37) hm208 ⟨⟨_, _, rfl⟩, rfl⟩ ?_
  refine w_putf (q := 40) hm208 ⟨⟨_, _, rfl⟩, rfl⟩ rfl rfl rfl ?_
  refine w_aload_n (q := 41) hm208 ⟨⟨_, _, rfl⟩, rfl⟩ rfl ?_
  refine w_getr (q := 44) hm208 ⟨⟨_, _, rfl⟩, rfl⟩ rfl ?_
  refine w_iconst (q := 45) hm208 ⟨⟨_, _, rfl⟩, rfl⟩ iconst_0 ?_
  refine w_aload_n (q := 46) hm208 ⟨⟨_, _, rfl⟩, rfl⟩ rfl ?_
  refine w_getr (q := 49) hm208 ⟨⟨_, _, rfl⟩, rfl⟩ rfl ?_
  refine w_iconst (q := 50) hm208 ⟨⟨_, _, rfl⟩, rfl⟩ iconst_0 ?_
  refine w_bipush (q := 52) hm208 ⟨⟨_, _, rfl⟩, rfl⟩ bipush_10 ?_
  refine w_copy (q := 55) (N := 10) (D := 0) (S := 0) hm208 ⟨⟨_, _, rfl⟩, rfl⟩ rfl rfl rfl rfl rfl (by decide) (by decide) (by decide) (by decide) ?_
  refine w_aload_n (q := 56) hm208 ⟨⟨_, _, rfl⟩, rfl⟩ rfl ?_
  refine w_getr (q := 59) hm208 ⟨⟨_, _, rfl⟩, rfl⟩ rfl ?_
  refine w_iconst (q := 60) hm208 ⟨⟨_, _, rfl⟩, rfl⟩ iconst_0 ?_
  refine w_call (q := 63) (n := 2) (vs := [.inr (.inr (some 49)), .inl (0 : Int32)]) (rest := []) (la := [oR 49, oI (0 : Int32), none, none]) hm208 ⟨⟨_, _, rfl⟩, rfl⟩ rfl rfl rfl rfl hm286 rfl rfl (fun hz => absurd hz (by decide)) rfl (Wp.mono h ?_)
  rintro _ m1 ⟨rfl, h⟩
  change Wp _ _ 63 _ [] _ _
  refine w_aload_n (q := 64) hm208 ⟨⟨_, _, rfl⟩, rfl⟩ rfl ?_
  refine w_getr (q := 67) hm208 ⟨⟨_, _, rfl⟩, rfl⟩ rfl ?_
  refine w_iconst (q := 68) hm208 ⟨⟨_, _, rfl⟩, rfl⟩ iconst_0 ?_
  refine w_call (q := 71) (n := 2) (vs := [.inr (.inr (some 50)), .inl (0 : Int32)]) (rest := []) (la := [oR 50, oI (0 : Int32), none, none]) hm208 ⟨⟨_, _, rfl⟩, rfl⟩ rfl rfl rfl rfl hm286 rfl rfl (fun hz => absurd hz (by decide)) rfl (Wp.mono h ?_)
  rintro _ m2 ⟨rfl, h⟩
  change Wp _ _ 71 _ [] _ _
  exact w_retv hm208 ⟨⟨_, _, rfl⟩, rfl⟩ rfl h
theorem v_X6_clear_51 {d : Nat} {m : dM} {Q : dM → Prop} (h : Q (dSet (dSet m 51 2 (0 : Int32)) 51 3 (0 : Int32))) : c_X6_clear_51 (d + 1) m Q := by
  refine w_aload_n (q := 1) hm201 ⟨⟨_, _, rfl⟩, rfl⟩ rfl ?_
  refine w_iconst (q := 2) hm201 ⟨⟨_, _, rfl⟩, rfl⟩ iconst_0 ?_
  refine w_putf (q := 5) hm201 ⟨⟨_, _, rfl⟩, rfl⟩ rfl rfl rfl ?_
  refine w_aload_n (q := 6) hm201 ⟨⟨_, _, rfl⟩, rfl⟩ rfl ?_
  refine w_iconst (q := 7) hm201 ⟨⟨_, _, rfl⟩, rfl⟩ iconst_0 ?_
  refine w_putf (q := 10) hm201 ⟨⟨_, _, rfl⟩, rfl⟩ rfl rfl rfl ?_
  exact w_retv hm201 ⟨⟨_, _, rfl⟩, rfl⟩ rfl h
theorem v_X6_clearSlots_51 {d : Nat} {m : dM} {Q : dM → Prop} (h : Q (dSet m 51 4 (0 : Int32))) : c_X6_clearSlots_51 (d + 1) m Q := by
  refine w_aload_n (q := 1) hm202 ⟨⟨_, _, rfl⟩, rfl⟩ rfl ?_
  refine w_iconst (q := 2) hm202 ⟨⟨_, _, rfl⟩, rfl⟩ iconst_0 ?_
  refine w_putf (q := 5) hm202 ⟨⟨_, _, rfl⟩, rfl⟩ rfl rfl rfl ?_
  exact w_retv hm202 ⟨⟨_, _, rfl⟩, rfl⟩ rfl h
theorem v_X9_clear_67 {d : Nat} {m : dM} {Q : dM → Prop} (h : Q (dSet m 67 3 (0 : Int32))) : c_X9_clear_67 (d + 1) m Q := by
  refine w_aload_n (q := 1) hm231 ⟨⟨_, _, rfl⟩, rfl⟩ rfl ?_
  refine w_iconst (q := 2) hm231 ⟨⟨_, _, rfl⟩, rfl⟩ iconst_0 ?_
  refine w_putf (q := 5) hm231 ⟨⟨_, _, rfl⟩, rfl⟩ rfl rfl rfl ?_
  exact w_retv hm231 ⟨⟨_, _, rfl⟩, rfl⟩ rfl h
theorem v_X11_read_0 {d : Nat} {m : dM} {Q : Int32 → dM → Prop} (h : c_X8_scan_38_1 d (m.1 0 1) m (fun m1 => c_X3_clear_20 d (dSet m1 0 1 (0 : Int32)) (fun m2 => c_X2_check_43 d m2 (fun r3 m3 => c_X2_faultAt_43 d m3 (fun r4 m4 => ((r3.toInt ≠ 0 → j_X11_read_0_69 (d + 1) r3 (dSet m4 0 2 r4) Q) ∧ (r3.toInt = 0 → c_X5_check_44 d (dSet m4 0 2 r4) (fun r5 m5 => c_X5_faultAt_44 d m5 (fun r6 m6 => j_X11_read_0_69 (d + 1) r5 (dSet m6 0 2 r6) Q))))))))) : c_X11_read_0 (d + 1) m Q := by
  refine w_aload_n (q := 1) hm246 ⟨⟨_, _, rfl⟩, rfl⟩ rfl ?_
  refine w_getr (q := 4) hm246 ⟨⟨_, _, rfl⟩, rfl⟩ rfl ?_
  refine w_aload_n (q := 5) hm246 ⟨⟨_, _, rfl⟩, rfl⟩ rfl ?_
  refine w_getr (q := 8) hm246 ⟨⟨_, _, rfl⟩, rfl⟩ rfl ?_
  refine w_aload_n (q := 9) hm246 ⟨⟨_, _, rfl⟩, rfl⟩ rfl ?_
  refine w_getf (q := 12) (v := (m.1 0 1)) hm246 ⟨⟨_, _, rfl⟩, rfl⟩ rfl rfl ?_
  refine w_call (q := 15) (n := 2) (vs := [.inr (.inr (some 38)), .inr (.inr (some 1)), .inl (m.1 0 1)]) (rest := []) (la := [oR 38, oR 1, oI (m.1 0 1), none, none]) hm246 ⟨⟨_, _, rfl⟩, rfl⟩ rfl rfl rfl rfl hm215 rfl rfl (fun _ => ⟨_, _, rfl, rfl⟩) rfl (Wp.mono h ?_)
  rintro _ m1 ⟨rfl, h⟩
  change Wp _ _ 15 _ [] _ _
  refine w_aload_n (q := 16) hm246 ⟨⟨_, _, rfl⟩, rfl⟩ rfl ?_
  refine w_iconst (q := 17) hm246 ⟨⟨_, _, rfl⟩, rfl⟩ iconst_0 ?_
  refine w_putf (q := 20) hm246 ⟨⟨_, _, rfl⟩, rfl⟩ rfl rfl rfl ?_
  refine w_aload_n (q := 21) hm246 ⟨⟨_, _, rfl⟩, rfl⟩ rfl ?_
  refine w_getr (q := 24) hm246 ⟨⟨_, _, rfl⟩, rfl⟩ rfl ?_
  refine w_call (q := 27) (n := 0) (vs := [.inr (.inr (some 20))]) (rest := []) (la := [oR 20]) hm246 ⟨⟨_, _, rfl⟩, rfl⟩ rfl rfl rfl rfl hm169 rfl rfl (fun _ => ⟨_, _, rfl, rfl⟩) rfl (Wp.mono h ?_)
  rintro _ m2 ⟨rfl, h⟩
  change Wp _ _ 27 _ [] _ _
  refine w_aload_n (q := 28) hm246 ⟨⟨_, _, rfl⟩, rfl⟩ rfl ?_
  refine w_getr (q := 31) hm246 ⟨⟨_, _, rfl⟩, rfl⟩ rfl ?_
  refine w_call (q := 34) (n := 1) (vs := [.inr (.inr (some 43))]) (rest := []) (la := [oR 43, none]) hm246 ⟨⟨_, _, rfl⟩, rfl⟩ rfl rfl rfl rfl hm154 rfl rfl (fun _ => ⟨_, _, rfl, rfl⟩) rfl (Wp.mono h ?_)
  rintro _ m3 ⟨r3, rfl, h⟩
  change Wp _ _ 34 _ [.inl r3] _ _
  refine w_istore_n (q := 35) (l' := [oR 0, oI r3]) hm246 ⟨⟨_, _, rfl⟩, rfl⟩ rfl rfl rfl ?_
  refine w_aload_n (q := 36) hm246 ⟨⟨_, _, rfl⟩, rfl⟩ rfl ?_
  refine w_aload_n (q := 37) hm246 ⟨⟨_, _, rfl⟩, rfl⟩ rfl ?_
  refine w_getr (q := 40) hm246 ⟨⟨_, _, rfl⟩, rfl⟩ rfl ?_
  refine w_call (q := 43) (n := 0) (vs := [.inr (.inr (some 43))]) (rest := [.inr (.inr (some 0))]) (la := [oR 43]) hm246 ⟨⟨_, _, rfl⟩, rfl⟩ rfl rfl rfl rfl hm156 rfl rfl (fun _ => ⟨_, _, rfl, rfl⟩) rfl (Wp.mono h ?_)
  rintro _ m4 ⟨r4, rfl, h⟩
  change Wp _ _ 43 _ [.inl r4, .inr (.inr (some 0))] _ _
  refine w_putf (q := 46) hm246 ⟨⟨_, _, rfl⟩, rfl⟩ rfl rfl rfl ?_
  refine w_iload_n (q := 47) hm246 ⟨⟨_, _, rfl⟩, rfl⟩ rfl ?_
  refine w_if_ne (q := 50) (X := r3.toInt) hm246 ⟨⟨_, _, rfl⟩, rfl⟩ rfl (fun hc => ?_) (fun hc => ?_)
  · have h := h.1 hc
    exact h
  · have h := h.2 hc
    refine w_aload_n (q := 51) hm246 ⟨⟨_, _, rfl⟩, rfl⟩ rfl ?_
    refine w_getr (q := 54) hm246 ⟨⟨_, _, rfl⟩, rfl⟩ rfl ?_
    refine w_call (q := 57) (n := 2) (vs := [.inr (.inr (some 44))]) (rest := []) (la := [oR 44, none, none]) hm246 ⟨⟨_, _, rfl⟩, rfl⟩ rfl rfl rfl rfl hm185 rfl rfl (fun _ => ⟨_, _, rfl, rfl⟩) rfl (Wp.mono h ?_)
    rintro _ m5 ⟨r5, rfl, h⟩
    change Wp _ _ 57 _ [.inl r5] _ _
    refine w_istore_n (q := 58) (l' := [oR 0, oI r5]) hm246 ⟨⟨_, _, rfl⟩, rfl⟩ rfl rfl rfl ?_
    refine w_aload_n (q := 59) hm246 ⟨⟨_, _, rfl⟩, rfl⟩ rfl ?_
    refine w_aload_n (q := 60) hm246 ⟨⟨_, _, rfl⟩, rfl⟩ rfl ?_
    refine w_getr (q := 63) hm246 ⟨⟨_, _, rfl⟩, rfl⟩ rfl ?_
    refine w_call (q := 66) (n := 0) (vs := [.inr (.inr (some 44))]) (rest := [.inr (.inr (some 0))]) (la := [oR 44]) hm246 ⟨⟨_, _, rfl⟩, rfl⟩ rfl rfl rfl rfl hm186 rfl rfl (fun _ => ⟨_, _, rfl, rfl⟩) rfl (Wp.mono h ?_)
    rintro _ m6 ⟨r6, rfl, h⟩
    change Wp _ _ 66 _ [.inl r6, .inr (.inr (some 0))] _ _
    refine w_putf (q := 69) hm246 ⟨⟨_, _, rfl⟩, rfl⟩ rfl rfl rfl ?_
    exact h
theorem v_X11_read_0_69 {d : Nat} {x1 : Int32} {m : dM} {Q : Int32 → dM → Prop} (h : ((x1.toInt ≠ 0 → j_X11_read_0_123 (d + 1) x1 m Q) ∧ (x1.toInt = 0 → c_X3_copy_2_20 d m (fun m1 => c_X0_houseIsNew_54 d m1 (fun m2 => c_X7_begin_47_2 d m2 (fun m3 => c_X6_clear_51 d m3 (fun m4 => c_X6_clearSlots_51 d m4 (fun m5 => c_X9_clear_67 d m5 (fun m6 => j_X11_read_0_123 (d + 1) x1 m6 Q))))))))) : j_X11_read_0_69 (d + 1) x1 m Q := by
  refine w_iload_n (q := 70) hm246 ⟨⟨_, _, rfl⟩, rfl⟩ rfl ?_
  refine w_if_ne (q := 73) (X := x1.toInt) hm246 ⟨⟨_, _, rfl⟩, rfl⟩ rfl (fun hc => ?_) (fun hc => ?_)
  · have h := h.1 hc
    exact Wp.wk [false, true] h
  · have h := h.2 hc
    refine w_aload_n (q := 74) hm246 ⟨⟨_, _, rfl⟩, rfl⟩ rfl ?_
    refine w_getr (q := 77) hm246 ⟨⟨_, _, rfl⟩, rfl⟩ rfl ?_
    refine w_aload_n (q := 78) hm246 ⟨⟨_, _, rfl⟩, rfl⟩ rfl ?_
    refine w_getr (q := 81) hm246 ⟨⟨_, _, rfl⟩, rfl⟩ rfl ?_
    refine w_call (q := 84) (n := 0) (vs := [.inr (.inr (some 2)), .inr (.inr (some 20))]) (rest := []) (la := [oR 2, oR 20]) hm246 ⟨⟨_, _, rfl⟩, rfl⟩ rfl rfl rfl rfl hm170 rfl rfl (fun _ => ⟨_, _, rfl, rfl⟩) rfl (Wp.mono h ?_)
    rintro _ m1 ⟨rfl, h⟩
    change Wp _ _ 84 _ [] _ _
    refine w_aload_n (q := 85) hm246 ⟨⟨_, _, rfl⟩, rfl⟩ rfl ?_
    refine w_getr (q := 88) hm246 ⟨⟨_, _, rfl⟩, rfl⟩ rfl ?_
    refine w_call (q := 91) (n := 0) (vs := [.inr (.inr (some 54))]) (rest := []) (la := [oR 54]) hm246 ⟨⟨_, _, rfl⟩, rfl⟩ rfl rfl rfl rfl hm115 rfl rfl (fun _ => ⟨_, _, rfl, rfl⟩) rfl (Wp.mono h ?_)
    rintro _ m2 ⟨rfl, h⟩
    change Wp _ _ 91 _ [] _ _
    refine w_aload_n (q := 92) hm246 ⟨⟨_, _, rfl⟩, rfl⟩ rfl ?_
    refine w_getr (q := 95) hm246 ⟨⟨_, _, rfl⟩, rfl⟩ rfl ?_
    refine w_aload_n (q := 96) hm246 ⟨⟨_, _, rfl⟩, rfl⟩ rfl ?_
    refine w_getr (q := 99) hm246 ⟨⟨_, _, rfl⟩, rfl⟩ rfl ?_
    refine w_call (q := 102) (n := 0) (vs := [.inr (.inr (some 47)), .inr (.inr (some 2))]) (rest := []) (la := [oR 47, oR 2]) hm246 ⟨⟨_, _, rfl⟩, rfl⟩ rfl rfl rfl rfl hm208 rfl rfl (fun _ => ⟨_, _, rfl, rfl⟩) rfl (Wp.mono h ?_)
    rintro _ m3 ⟨rfl, h⟩
    change Wp _ _ 102 _ [] _ _
    refine w_aload_n (q := 103) hm246 ⟨⟨_, _, rfl⟩, rfl⟩ rfl ?_
    refine w_getr (q := 106) hm246 ⟨⟨_, _, rfl⟩, rfl⟩ rfl ?_
    refine w_call (q := 109) (n := 0) (vs := [.inr (.inr (some 51))]) (rest := []) (la := [oR 51]) hm246 ⟨⟨_, _, rfl⟩, rfl⟩ rfl rfl rfl rfl hm201 rfl rfl (fun _ => ⟨_, _, rfl, rfl⟩) rfl (Wp.mono h ?_)
    rintro _ m4 ⟨rfl, h⟩
    change Wp _ _ 109 _ [] _ _
    refine w_aload_n (q := 110) hm246 ⟨⟨_, _, rfl⟩, rfl⟩ rfl ?_
    refine w_getr (q := 113) hm246 ⟨⟨_, _, rfl⟩, rfl⟩ rfl ?_
    refine w_call (q := 116) (n := 0) (vs := [.inr (.inr (some 51))]) (rest := []) (la := [oR 51]) hm246 ⟨⟨_, _, rfl⟩, rfl⟩ rfl rfl rfl rfl hm202 rfl rfl (fun _ => ⟨_, _, rfl, rfl⟩) rfl (Wp.mono h ?_)
    rintro _ m5 ⟨rfl, h⟩
    change Wp _ _ 116 _ [] _ _
    refine w_aload_n (q := 117) hm246 ⟨⟨_, _, rfl⟩, rfl⟩ rfl ?_
    refine w_getr (q := 120) hm246 ⟨⟨_, _, rfl⟩, rfl⟩ rfl ?_
    refine w_call (q := 123) (n := 0) (vs := [.inr (.inr (some 67))]) (rest := []) (la := [oR 67]) hm246 ⟨⟨_, _, rfl⟩, rfl⟩ rfl rfl rfl rfl hm231 rfl rfl (fun _ => ⟨_, _, rfl, rfl⟩) rfl (Wp.mono h ?_)
    rintro _ m6 ⟨rfl, h⟩
    change Wp _ _ 123 _ [] _ _
    exact Wp.wk [false, true] h
theorem v_X11_read_0_123 {d : Nat} {x1 : Int32} {m : dM} {Q : Int32 → dM → Prop} (h : Q x1 m) : j_X11_read_0_123 (d + 1) x1 m Q := by
  refine w_iload_n (q := 124) hm246 ⟨⟨_, _, rfl⟩, rfl⟩ rfl ?_
  exact w_reti hm246 ⟨⟨_, _, rfl⟩, rfl⟩ rfl h
