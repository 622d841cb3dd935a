theorem v_X4_tells_11_55 {d : Nat} {x1 : Int32} {m : dM} {Q : Int32 → dM → Prop} (h : ((0 ≤ x1.toInt ∧ x1.toInt < 4) ∧ j_X4_tells_11_55_17 (d + 1) x1 ((m.1 18 x1.toNatClampNeg) - (1 : Int32)) (0 : Int32) (dSet m 11 5 (0 : Int32)) Q)) : c_X4_tells_11_55 (d + 1) x1 m Q := by
  refine w_aload_n (q := 1) hm181 ⟨⟨_, _, rfl⟩, rfl⟩ rfl ?_
  refine w_iconst (q := 2) hm181 ⟨⟨_, _, rfl⟩, rfl⟩ iconst_0 ?_
  refine w_putz (q := 5) hm181 ⟨⟨_, _, rfl⟩, rfl⟩ rfl rfl (by decide) rfl ?_
  refine w_aload_n (q := 6) hm181 ⟨⟨_, _, rfl⟩, rfl⟩ rfl ?_
  refine w_getr (q := 9) hm181 ⟨⟨_, _, rfl⟩, rfl⟩ rfl ?_
  refine w_iload_n (q := 10) hm181 ⟨⟨_, _, rfl⟩, rfl⟩ rfl ?_
  obtain ⟨hi, h⟩ := h
  refine w_iald (q := 11) (v := (m.1 18 x1.toNatClampNeg)) hm181 ⟨⟨_, _, rfl⟩, rfl⟩ rfl hi rfl rfl ?_
  refine w_iconst (q := 12) hm181 ⟨⟨_, _, rfl⟩, rfl⟩ iconst_1 ?_
  refine w_isub (q := 13) hm181 ⟨⟨_, _, rfl⟩, rfl⟩ ?_
  refine w_istore_n (q := 14) (l' := [oR 11, oI x1, oR 55, oI ((m.1 18 x1.toNatClampNeg) - (1 : Int32)), none, none, none]) hm181 ⟨⟨_, _, rfl⟩, rfl⟩ rfl rfl rfl ?_
  refine w_iconst (q := 15) hm181 ⟨⟨_, _, rfl⟩, rfl⟩ iconst_0 ?_
  refine w_istore (q := 17) (l' := [oR 11, oI x1, oR 55, oI ((m.1 18 x1.toNatClampNeg) - (1 : Int32)), oI (0 : Int32), none, none]) hm181 ⟨⟨_, _, rfl⟩, rfl⟩ rfl rfl rfl ?_
  exact h
theorem v_X4_tells_11_55_17 {d : Nat} {x1 : Int32} {x3 : Int32} {x4 : Int32} {m : dM} {Q : Int32 → dM → Prop} (h : ((0 ≤ x1.toInt ∧ x1.toInt < 4) ∧ (((m.1 18 x1.toNatClampNeg).toInt ≤ (x4 + (2 : Int32)).toInt → j_X4_tells_11_55_93 (d + 1) x1 x3 m Q) ∧ ((x4 + (2 : Int32)).toInt < (m.1 18 x1.toNatClampNeg).toInt → c_X4_pieceTells_11_55 d x1 x4 m (fun r1 m1 => (((m1.1 11 5).toInt = 0 → c_X4_pieceTells_11_55 d x1 (x4 + (1 : Int32)) m1 (fun r2 m2 => (((m2.1 11 5).toInt = 0 → ((r2.toInt ≤ r1.toInt → j_X4_tells_11_55_17 (d + 1) x1 x3 (x4 + (3 : Int32)) m2 Q) ∧ (r1.toInt < r2.toInt → j_X4_tells_11_55_93 (d + 1) x1 (x4 + (2 : Int32)) m2 Q))) ∧ ((m2.1 11 5).toInt ≠ 0 → Q (0 : Int32) m2)))) ∧ ((m1.1 11 5).toInt ≠ 0 → (((m1.1 11 5).toInt = 0 → ((0 ≤ r1.toInt → j_X4_tells_11_55_17 (d + 1) x1 x3 (x4 + (3 : Int32)) m1 Q) ∧ (r1.toInt < 0 → j_X4_tells_11_55_93 (d + 1) x1 (x4 + (2 : Int32)) m1 Q))) ∧ ((m1.1 11 5).toInt ≠ 0 → Q (0 : Int32) m1))))))))) : j_X4_tells_11_55_17 (d + 1) x1 x3 x4 m Q := by
  refine w_iload (q := 19) hm181 ⟨⟨_, _, rfl⟩, rfl⟩ rfl ?_
  refine w_iconst (q := 20) hm181 ⟨⟨_, _, rfl⟩, rfl⟩ iconst_2 ?_
  refine w_iadd (q := 21) hm181 ⟨⟨_, _, rfl⟩, rfl⟩ ?_
  refine w_aload_n (q := 22) hm181 ⟨⟨_, _, rfl⟩, rfl⟩ rfl ?_
  refine w_getr (q := 25) hm181 ⟨⟨_, _, rfl⟩, rfl⟩ rfl ?_
  refine w_iload_n (q := 26) hm181 ⟨⟨_, _, rfl⟩, rfl⟩ rfl ?_
  obtain ⟨hi, h⟩ := h
  refine w_iald (q := 27) (v := (m.1 18 x1.toNatClampNeg)) hm181 ⟨⟨_, _, rfl⟩, rfl⟩ rfl hi rfl rfl ?_
  refine w_icmp_ge (q := 30) (X := (x4 + (2 : Int32)).toInt) (Y := (m.1 18 x1.toNatClampNeg).toInt) hm181 ⟨⟨_, _, rfl⟩, rfl⟩ rfl rfl (fun hc => ?_) (fun hc => ?_)
  · have h := h.1 hc
    exact Wp.wk [true, true, true, true, false, false, false] h
  · have h := h.2 hc
    refine w_aload_n (q := 31) hm181 ⟨⟨_, _, rfl⟩, rfl⟩ rfl ?_
    refine w_iload_n (q := 32) hm181 ⟨⟨_, _, rfl⟩, rfl⟩ rfl ?_
    refine w_iload (q := 34) hm181 ⟨⟨_, _, rfl⟩, rfl⟩ rfl ?_
    refine w_aload_n (q := 35) hm181 ⟨⟨_, _, rfl⟩, rfl⟩ rfl ?_
    refine w_call (q := 38) (n := 4) (vs := [.inr (.inr (some 11)), .inl x1, .inl x4, .inr (.inr (some 55))]) (rest := []) (la := [oR 11, oI x1, oI x4, oR 55, none, none, none, none]) hm181 ⟨⟨_, _, rfl⟩, rfl⟩ rfl rfl rfl rfl hm182 rfl rfl (fun _ => ⟨_, _, rfl, rfl⟩) rfl (Wp.mono h ?_)
    rintro _ m1 ⟨r1, rfl, h⟩
    change Wp _ _ 38 _ [.inl r1] _ _
    refine w_istore (q := 40) (l' := [oR 11, oI x1, oR 55, oI x3, oI x4, oI r1, none]) hm181 ⟨⟨_, _, rfl⟩, rfl⟩ rfl rfl rfl ?_
    refine w_aload_n (q := 41) hm181 ⟨⟨_, _, rfl⟩, rfl⟩ rfl ?_
    refine w_getf (q := 44) (v := (m1.1 11 5)) hm181 ⟨⟨_, _, rfl⟩, rfl⟩ rfl rfl ?_
    refine w_if_eq (q := 47) (X := (m1.1 11 5).toInt) hm181 ⟨⟨_, _, rfl⟩, rfl⟩ rfl (fun hc => ?_) (fun hc => ?_)
    · have h := h.1 hc
      refine w_aload_n (q := 52) hm181 ⟨⟨_, _, rfl⟩, rfl⟩ rfl ?_
      refine w_iload_n (q := 53) hm181 ⟨⟨_, _, rfl⟩, rfl⟩ rfl ?_
      refine w_iload (q := 55) hm181 ⟨⟨_, _, rfl⟩, rfl⟩ rfl ?_
      refine w_iconst (q := 56) hm181 ⟨⟨_, _, rfl⟩, rfl⟩ iconst_1 ?_
      refine w_iadd (q := 57) hm181 ⟨⟨_, _, rfl⟩, rfl⟩ ?_
      refine w_aload_n (q := 58) hm181 ⟨⟨_, _, rfl⟩, rfl⟩ rfl ?_
      refine w_call (q := 61) (n := 4) (vs := [.inr (.inr (some 11)), .inl x1, .inl (x4 + (1 : Int32)), .inr (.inr (some 55))]) (rest := []) (la := [oR 11, oI x1, oI (x4 + (1 : Int32)), oR 55, none, none, none, none]) hm181 ⟨⟨_, _, rfl⟩, rfl⟩ rfl rfl rfl rfl hm182 rfl rfl (fun _ => ⟨_, _, rfl, rfl⟩) rfl (Wp.mono h ?_)
      rintro _ m2 ⟨r2, rfl, h⟩
      change Wp _ _ 61 _ [.inl r2] _ _
      refine w_istore (q := 63) (l' := [oR 11, oI x1, oR 55, oI x3, oI x4, oI r1, oI r2]) hm181 ⟨⟨_, _, rfl⟩, rfl⟩ rfl rfl rfl ?_
      refine w_aload_n (q := 64) hm181 ⟨⟨_, _, rfl⟩, rfl⟩ rfl ?_
      refine w_getf (q := 67) (v := (m2.1 11 5)) hm181 ⟨⟨_, _, rfl⟩, rfl⟩ rfl rfl ?_
      refine w_if_eq (q := 70) (X := (m2.1 11 5).toInt) hm181 ⟨⟨_, _, rfl⟩, rfl⟩ rfl (fun hc => ?_) (fun hc => ?_)
      · have h := h.1 hc
        refine w_iload (q := 74) hm181 ⟨⟨_, _, rfl⟩, rfl⟩ rfl ?_
        refine w_iload (q := 76) hm181 ⟨⟨_, _, rfl⟩, rfl⟩ rfl ?_
        refine w_icmp_ge (q := 79) (X := r1.toInt) (Y := r2.toInt) hm181 ⟨⟨_, _, rfl⟩, rfl⟩ rfl rfl (fun hc => ?_) (fun hc => ?_)
        · have h := h.1 hc
          refine w_iinc (q := 90) (l' := [oR 11, oI x1, oR 55, oI x3, oI (x4 + (3 : Int32)), oI r1, oI r2]) hm181 ⟨⟨_, _, rfl⟩, rfl⟩ rfl rfl rfl iconst_3 rfl ?_
          refine w_goto (q := 17) hm181 ⟨_, _, rfl⟩ ?_
          exact Wp.wk [true, true, true, true, true, false, false] h
        · have h := h.2 hc
          refine w_iload (q := 81) hm181 ⟨⟨_, _, rfl⟩, rfl⟩ rfl ?_
          refine w_iconst (q := 82) hm181 ⟨⟨_, _, rfl⟩, rfl⟩ iconst_2 ?_
          refine w_iadd (q := 83) hm181 ⟨⟨_, _, rfl⟩, rfl⟩ ?_
          refine w_istore_n (q := 84) (l' := [oR 11, oI x1, oR 55, oI (x4 + (2 : Int32)), oI x4, oI r1, oI r2]) hm181 ⟨⟨_, _, rfl⟩, rfl⟩ rfl rfl rfl ?_
          refine w_goto (q := 93) hm181 ⟨_, _, rfl⟩ ?_
          exact Wp.wk [true, true, true, true, false, false, false] h
      · have h := h.2 hc
        refine w_iconst (q := 71) hm181 ⟨⟨_, _, rfl⟩, rfl⟩ iconst_0 ?_
        exact w_reti hm181 ⟨⟨_, _, rfl⟩, rfl⟩ rfl h
    · have h := h.2 hc
      refine w_iconst (q := 48) hm181 ⟨⟨_, _, rfl⟩, rfl⟩ iconst_0 ?_
      refine w_goto (q := 61) hm181 ⟨_, _, rfl⟩ ?_
      refine w_istore (q := 63) (l' := [oR 11, oI x1, oR 55, oI x3, oI x4, oI r1, oI (0 : Int32)]) hm181 ⟨⟨_, _, rfl⟩, rfl⟩ rfl rfl rfl ?_
      refine w_aload_n (q := 64) hm181 ⟨⟨_, _, rfl⟩, rfl⟩ rfl ?_
      refine w_getf (q := 67) (v := (m1.1 11 5)) hm181 ⟨⟨_, _, rfl⟩, rfl⟩ rfl rfl ?_
      refine w_if_eq (q := 70) (X := (m1.1 11 5).toInt) hm181 ⟨⟨_, _, rfl⟩, rfl⟩ rfl (fun hc => ?_) (fun hc => ?_)
      · have h := h.1 hc
        refine w_iload (q := 74) hm181 ⟨⟨_, _, rfl⟩, rfl⟩ rfl ?_
        refine w_iload (q := 76) hm181 ⟨⟨_, _, rfl⟩, rfl⟩ rfl ?_
        refine w_icmp_ge (q := 79) (X := r1.toInt) (Y := 0) hm181 ⟨⟨_, _, rfl⟩, rfl⟩ rfl (by decide) (fun hc => ?_) (fun hc => ?_)
        · have h := h.1 hc
          refine w_iinc (q := 90) (l' := [oR 11, oI x1, oR 55, oI x3, oI (x4 + (3 : Int32)), oI r1, oI (0 : Int32)]) hm181 ⟨⟨_, _, rfl⟩, rfl⟩ rfl rfl rfl iconst_3 rfl ?_
          refine w_goto (q := 17) hm181 ⟨_, _, rfl⟩ ?_
          exact Wp.wk [true, true, true, true, true, false, false] h
        · have h := h.2 hc
          refine w_iload (q := 81) hm181 ⟨⟨_, _, rfl⟩, rfl⟩ rfl ?_
          refine w_iconst (q := 82) hm181 ⟨⟨_, _, rfl⟩, rfl⟩ iconst_2 ?_
          refine w_iadd (q := 83) hm181 ⟨⟨_, _, rfl⟩, rfl⟩ ?_
          refine w_istore_n (q := 84) (l' := [oR 11, oI x1, oR 55, oI (x4 + (2 : Int32)), oI x4, oI r1, oI (0 : Int32)]) hm181 ⟨⟨_, _, rfl⟩, rfl⟩ rfl rfl rfl ?_
          refine w_goto (q := 93) hm181 ⟨_, _, rfl⟩ ?_
          exact Wp.wk [true, true, true, true, false, false, false] h
      · have h := h.2 hc
        refine w_iconst (q := 71) hm181 ⟨⟨_, _, rfl⟩, rfl⟩ iconst_0 ?_
        exact w_reti hm181 ⟨⟨_, _, rfl⟩, rfl⟩ rfl h
theorem v_X4_tells_11_55_93 {d : Nat} {x1 : Int32} {x3 : Int32} {m : dM} {Q : Int32 → dM → Prop} (h : c_X4_pieceTells_11_55 d x1 x3 m (fun r1 m1 => (((m1.1 11 5).toInt = 0 → Q r1 m1) ∧ ((m1.1 11 5).toInt ≠ 0 → Q (0 : Int32) m1)))) : j_X4_tells_11_55_93 (d + 1) x1 x3 m Q := by
  refine w_aload_n (q := 94) hm181 ⟨⟨_, _, rfl⟩, rfl⟩ rfl ?_
  refine w_iload_n (q := 95) hm181 ⟨⟨_, _, rfl⟩, rfl⟩ rfl ?_
  refine w_iload_n (q := 96) hm181 ⟨⟨_, _, rfl⟩, rfl⟩ rfl ?_
  refine w_aload_n (q := 97) hm181 ⟨⟨_, _, rfl⟩, rfl⟩ rfl ?_
  refine w_call (q := 100) (n := 4) (vs := [.inr (.inr (some 11)), .inl x1, .inl x3, .inr (.inr (some 55))]) (rest := []) (la := [oR 11, oI x1, oI x3, oR 55, none, none, none, none]) hm181 ⟨⟨_, _, rfl⟩, rfl⟩ rfl rfl rfl rfl hm182 rfl rfl (fun _ => ⟨_, _, rfl, rfl⟩) rfl (Wp.mono h ?_)
  rintro _ m1 ⟨r1, rfl, h⟩
  change Wp _ _ 100 _ [.inl r1] _ _
  refine w_istore (q := 102) (l' := [oR 11, oI x1, oR 55, oI x3, oI r1, none, none]) hm181 ⟨⟨_, _, rfl⟩, rfl⟩ rfl rfl rfl ?_
  refine w_aload_n (q := 103) hm181 ⟨⟨_, _, rfl⟩, rfl⟩ rfl ?_
  refine w_getf (q := 106) (v := (m1.1 11 5)) hm181 ⟨⟨_, _, rfl⟩, rfl⟩ rfl rfl ?_
  refine w_if_eq (q := 109) (X := (m1.1 11 5).toInt) hm181 ⟨⟨_, _, rfl⟩, rfl⟩ rfl (fun hc => ?_) (fun hc => ?_)
  · have h := h.1 hc
    refine w_iload (q := 115) hm181 ⟨⟨_, _, rfl⟩, rfl⟩ rfl ?_
    exact w_reti hm181 ⟨⟨_, _, rfl⟩, rfl⟩ rfl h
  · have h := h.2 hc
    refine w_iconst (q := 110) hm181 ⟨⟨_, _, rfl⟩, rfl⟩ iconst_0 ?_
    refine w_goto (q := 115) hm181 ⟨_, _, rfl⟩ ?_
    exact w_reti hm181 ⟨⟨_, _, rfl⟩, rfl⟩ rfl h
theorem v_X0_held {d : Nat} {x0 : Int32} {m : dM} {Q : Int32 → dM → Prop} (h : Q (if (0 : Int32) < (if x0 < (99 : Int32) then x0 else (99 : Int32)) then (if x0 < (99 : Int32) then x0 else (99 : Int32)) else (0 : Int32)) m) : c_X0_held (d + 1) x0 m Q := by
  refine w_iconst (q := 1) hm126 ⟨⟨_, _, rfl⟩, rfl⟩ iconst_0 ?_
  refine w_bipush (q := 3) hm126 ⟨⟨_, _, rfl⟩, rfl⟩ bipush_99 ?_
  refine w_iload_n (q := 4) hm126 ⟨⟨_, _, rfl⟩, rfl⟩ rfl ?_
  refine w_min (q := 7) hm126 ⟨⟨_, _, rfl⟩, rfl⟩ rfl rfl ?_
  refine w_max (q := 10) hm126 ⟨⟨_, _, rfl⟩, rfl⟩ rfl rfl ?_
  exact w_reti hm126 ⟨⟨_, _, rfl⟩, rfl⟩ rfl h
theorem v_X0_quarrelOf_54_47 {d : Nat} {x2 : Int32} {m : dM} {Q : Int32 → dM → Prop} (h : c_X7_hourOfDay_47 d m (fun r1 m1 => c_X7_day_47 d m1 (fun r2 m2 => c_X0_setVars_54 d r1 r2 x2 m2 (fun m3 => ((0 ≤ x2.toInt ∧ x2.toInt < 7) ∧ ((0 ≤ x2.toInt ∧ x2.toInt < 7) ∧ c_X4_tells_11_55 d (1 : Int32) (dSet (dSet m3 55 6 (m3.1 3 x2.toNatClampNeg)) 55 7 (m3.1 50 x2.toNatClampNeg)) (fun r4 m4 => c_X0_held d r4 m4 (fun r5 m5 => Q r5 m5)))))))) : c_X0_quarrelOf_54_47 (d + 1) x2 m Q := by
  refine w_aload_n (q := 1) hm127 ⟨⟨_, _, rfl⟩, rfl⟩ rfl ?_
  refine w_aload_n (q := 2) hm127 ⟨⟨_, _, rfl⟩, rfl⟩ rfl ?_
  refine w_call (q := 5) (n := 0) (vs := [.inr (.inr (some 47))]) (rest := [.inr (.inr (some 54))]) (la := [oR 47]) hm127 ⟨⟨_, _, rfl⟩, rfl⟩ rfl rfl rfl rfl hm212 rfl rfl (fun _ => ⟨_, _, rfl, rfl⟩) rfl (Wp.mono h ?_)
  rintro _ m1 ⟨r1, rfl, h⟩
  change Wp _ _ 5 _ [.inl r1, .inr (.inr (some 54))] _ _
  refine w_aload_n (q := 6) hm127 ⟨⟨_, _, rfl⟩, rfl⟩ rfl ?_
  refine w_call (q := 9) (n := 0) (vs := [.inr (.inr (some 47))]) (rest := [.inl r1, .inr (.inr (some 54))]) (la := [oR 47]) hm127 ⟨⟨_, _, rfl⟩, rfl⟩ rfl rfl rfl rfl hm213 rfl rfl (fun _ => ⟨_, _, rfl, rfl⟩) rfl (Wp.mono h ?_)
  rintro _ m2 ⟨r2, rfl, h⟩
  change Wp _ _ 9 _ [.inl r2, .inl r1, .inr (.inr (some 54))] _ _
  refine w_iload_n (q := 10) hm127 ⟨⟨_, _, rfl⟩, rfl⟩ rfl ?_
  refine w_call (q := 13) (n := 0) (vs := [.inr (.inr (some 54)), .inl r1, .inl r2, .inl x2]) (rest := []) (la := [oR 54, oI r1, oI r2, oI x2]) hm127 ⟨⟨_, _, rfl⟩, rfl⟩ rfl rfl rfl rfl hm125 rfl rfl (fun _ => ⟨_, _, rfl, rfl⟩) rfl (Wp.mono h ?_)
  rintro _ m3 ⟨rfl, h⟩
  change Wp _ _ 13 _ [] _ _
  refine w_aload_n (q := 14) hm127 ⟨⟨_, _, rfl⟩, rfl⟩ rfl ?_
  refine w_getr (q := 17) hm127 ⟨⟨_, _, rfl⟩, rfl⟩ rfl ?_
  refine w_bipush (q := 19) hm127 ⟨⟨_, _, rfl⟩, rfl⟩ bipush_6 ?_
  refine w_aload_n (q := 20) hm127 ⟨⟨_, _, rfl⟩, rfl⟩ rfl ?_
  refine w_getr (q := 23) hm127 ⟨⟨_, _, rfl⟩, rfl⟩ rfl ?_
  refine w_getr (q := 26) hm127 ⟨⟨_, _, rfl⟩, rfl⟩ rfl ?_
  refine w_iload_n (q := 27) hm127 ⟨⟨_, _, rfl⟩, rfl⟩ rfl ?_
  obtain ⟨hi, h⟩ := h
  refine w_iald (q := 28) (v := (m3.1 3 x2.toNatClampNeg)) hm127 ⟨⟨_, _, rfl⟩, rfl⟩ rfl hi rfl rfl ?_
  refine w_iast (q := 29) (j := 6) hm127 ⟨⟨_, _, rfl⟩, rfl⟩ rfl (by decide) (by decide) rfl ?_
  refine w_aload_n (q := 30) hm127 ⟨⟨_, _, rfl⟩, rfl⟩ rfl ?_
  refine w_getr (q := 33) hm127 ⟨⟨_, _, rfl⟩, rfl⟩ rfl ?_
  refine w_bipush (q := 35) hm127 ⟨⟨_, _, rfl⟩, rfl⟩ bipush_7 ?_
  refine w_aload_n (q := 36) hm127 ⟨⟨_, _, rfl⟩, rfl⟩ rfl ?_
  refine w_getr (q := 39) hm127 ⟨⟨_, _, rfl⟩, rfl⟩ rfl ?_
  refine w_iload_n (q := 40) hm127 ⟨⟨_, _, rfl⟩, rfl⟩ rfl ?_
  obtain ⟨hi, h⟩ := h
  refine w_iald (q := 41) (v := (m3.1 50 x2.toNatClampNeg)) hm127 ⟨⟨_, _, rfl⟩, rfl⟩ rfl hi rfl rfl ?_
  refine w_iast (q := 42) (j := 7) hm127 ⟨⟨_, _, rfl⟩, rfl⟩ rfl (by decide) (by decide) rfl ?_
  refine w_aload_n (q := 43) hm127 ⟨⟨_, _, rfl⟩, rfl⟩ rfl ?_
  refine w_getr (q := 46) hm127 ⟨⟨_, _, rfl⟩, rfl⟩ rfl ?_
  refine w_getr (q := 49) hm127 ⟨⟨_, _, rfl⟩, rfl⟩ rfl ?_
  refine w_iconst (q := 50) hm127 ⟨⟨_, _, rfl⟩, rfl⟩ iconst_1 ?_
  refine w_aload_n (q := 51) hm127 ⟨⟨_, _, rfl⟩, rfl⟩ rfl ?_
  refine w_getr (q := 54) hm127 ⟨⟨_, _, rfl⟩, rfl⟩ rfl ?_
  refine w_call (q := 57) (n := 4) (vs := [.inr (.inr (some 11)), .inl (1 : Int32), .inr (.inr (some 55))]) (rest := []) (la := [oR 11, oI (1 : Int32), oR 55, none, none, none, none]) hm127 ⟨⟨_, _, rfl⟩, rfl⟩ rfl rfl rfl rfl hm181 rfl rfl (fun _ => ⟨_, _, rfl, rfl⟩) rfl (Wp.mono h ?_)
  rintro _ m4 ⟨r4, rfl, h⟩
  change Wp _ _ 57 _ [.inl r4] _ _
  refine w_call (q := 60) (n := 0) (vs := [.inl r4]) (rest := []) (la := [oI r4]) hm127 ⟨⟨_, _, rfl⟩, rfl⟩ rfl rfl rfl rfl hm126 rfl rfl (fun hz => absurd hz (by decide)) rfl (Wp.mono h ?_)
  rintro _ m5 ⟨r5, rfl, h⟩
  change Wp _ _ 60 _ [.inl r5] _ _
  exact w_reti hm127 ⟨⟨_, _, rfl⟩, rfl⟩ rfl h
theorem v_X0_usesAt_54_47 {d : Nat} {x2 : Int32} {m : dM} {Q : Int32 → dM → Prop} (h : c_X10_lay_57 d (m.1 47 3) m (fun m1 => j_X0_usesAt_54_47_16 (d + 1) x2 (0 : Int32) (0 : Int32) m1 Q)) : c_X0_usesAt_54_47 (d + 1) x2 m Q := by
  refine w_aload_n (q := 1) hm118 ⟨⟨_, _, rfl⟩, rfl⟩ rfl ?_
  refine w_getr (q := 4) hm118 ⟨⟨_, _, rfl⟩, rfl⟩ rfl ?_
  refine w_aload_n (q := 5) hm118 ⟨⟨_, _, rfl⟩, rfl⟩ rfl ?_
  refine w_getf (q := 8) (v := (m.1 47 3)) hm118 ⟨⟨_, _, rfl⟩, rfl⟩ rfl rfl ?_
  refine w_call (q := 11) (n := 3) (vs := [.inr (.inr (some 57)), .inl (m.1 47 3)]) (rest := []) (la := [oR 57, oI (m.1 47 3), none, none, none]) hm118 ⟨⟨_, _, rfl⟩, rfl⟩ rfl rfl rfl rfl hm239 rfl rfl (fun _ => ⟨_, _, rfl, rfl⟩) rfl (Wp.mono h ?_)
  rintro _ m1 ⟨rfl, h⟩
  change Wp _ _ 11 _ [] _ _
  refine w_iconst (q := 12) hm118 ⟨⟨_, _, rfl⟩, rfl⟩ iconst_0 ?_
  refine w_istore_n (q := 13) (l' := [oR 54, oR 47, oI x2, oI (0 : Int32), none, none]) hm118 ⟨⟨_, _, rfl⟩, rfl⟩ rfl rfl rfl ?_
  refine w_iconst (q := 14) hm118 ⟨⟨_, _, rfl⟩, rfl⟩ iconst_0 ?_
  refine w_istore (q := 16) (l' := [oR 54, oR 47, oI x2, oI (0 : Int32), oI (0 : Int32), none]) hm118 ⟨⟨_, _, rfl⟩, rfl⟩ rfl rfl rfl ?_
  exact h
theorem v_X0_usesAt_54_47_16 {d : Nat} {x2 : Int32} {x3 : Int32} {x4 : Int32} {m : dM} {Q : Int32 → dM → Prop} (h : (((m.1 2 2).toInt ≤ x4.toInt → Q x3 m) ∧ (x4.toInt < (m.1 2 2).toInt → ((0 ≤ x4.toInt ∧ x4.toInt < 8) ∧ ((x2.toInt < (m.1 9 x4.toNatClampNeg).toInt → j_X0_usesAt_54_47_60 (d + 1) x2 x3 x4 m Q) ∧ ((m.1 9 x4.toNatClampNeg).toInt ≤ x2.toInt → ((0 ≤ x4.toInt ∧ x4.toInt < 8) ∧ (((m.1 10 x4.toNatClampNeg).toInt < x2.toInt → j_X0_usesAt_54_47_60 (d + 1) x2 x3 x4 m Q) ∧ (x2.toInt ≤ (m.1 10 x4.toNatClampNeg).toInt → c_X11_has d (m.1 47 5) x4 m (fun r1 m1 => ((r1.toInt = 0 → j_X0_usesAt_54_47_110 (d + 1) x2 x3 x4 m1 Q) ∧ (r1.toInt ≠ 0 → ((0 ≤ x4.toInt ∧ x4.toInt < 8) ∧ c_X11_has d (m1.1 57 5) (m1.1 7 x4.toNatClampNeg) m1 (fun r2 m2 => ((r2.toInt = 0 → j_X0_usesAt_54_47_110 (d + 1) x2 x3 x4 m2 Q) ∧ (r2.toInt ≠ 0 → j_X0_usesAt_54_47_110 (d + 1) x2 (x3 ||| ((1 : Int32) <<< (x4 &&& 31))) x4 m2 Q)))))))))))))))) : j_X0_usesAt_54_47_16 (d + 1) x2 x3 x4 m Q := by
  refine w_iload (q := 18) hm118 ⟨⟨_, _, rfl⟩, rfl⟩ rfl ?_
  refine w_aload_n (q := 19) hm118 ⟨⟨_, _, rfl⟩, rfl⟩ rfl ?_
  refine w_getr (q := 22) hm118 ⟨⟨_, _, rfl⟩, rfl⟩ rfl ?_
  refine w_getf (q := 25) (v := (m.1 2 2)) hm118 ⟨⟨_, _, rfl⟩, rfl⟩ rfl rfl ?_
  refine w_icmp_ge (q := 28) (X := x4.toInt) (Y := (m.1 2 2).toInt) hm118 ⟨⟨_, _, rfl⟩, rfl⟩ rfl rfl (fun hc => ?_) (fun hc => ?_)
  · have h := h.1 hc
    refine w_iload_n (q := 117) hm118 ⟨⟨_, _, rfl⟩, rfl⟩ rfl ?_
    exact w_reti hm118 ⟨⟨_, _, rfl⟩, rfl⟩ rfl h
  · have h := h.2 hc
    refine w_aload_n (q := 29) hm118 ⟨⟨_, _, rfl⟩, rfl⟩ rfl ?_
    refine w_getr (q := 32) hm118 ⟨⟨_, _, rfl⟩, rfl⟩ rfl ?_
    refine w_getr (q := 35) hm118 ⟨⟨_, _, rfl⟩, rfl⟩ rfl ?_
    refine w_iload (q := 37) hm118 ⟨⟨_, _, rfl⟩, rfl⟩ rfl ?_
    obtain ⟨hi, h⟩ := h
    refine w_iald (q := 38) (v := (m.1 9 x4.toNatClampNeg)) hm118 ⟨⟨_, _, rfl⟩, rfl⟩ rfl hi rfl rfl ?_
    refine w_iload_n (q := 39) hm118 ⟨⟨_, _, rfl⟩, rfl⟩ rfl ?_
    refine w_icmp_gt (q := 42) (X := (m.1 9 x4.toNatClampNeg).toInt) (Y := x2.toInt) hm118 ⟨⟨_, _, rfl⟩, rfl⟩ rfl rfl (fun hc => ?_) (fun hc => ?_)
    · have h := h.1 hc
      exact h
    · have h := h.2 hc
      refine w_iload_n (q := 43) hm118 ⟨⟨_, _, rfl⟩, rfl⟩ rfl ?_
      refine w_aload_n (q := 44) hm118 ⟨⟨_, _, rfl⟩, rfl⟩ rfl ?_
      refine w_getr (q := 47) hm118 ⟨⟨_, _, rfl⟩, rfl⟩ rfl ?_
      refine w_getr (q := 50) hm118 ⟨⟨_, _, rfl⟩, rfl⟩ rfl ?_
      refine w_iload (q := 52) hm118 ⟨⟨_, _, rfl⟩, rfl⟩ rfl ?_
      obtain ⟨hi, h⟩ := h
      refine w_iald (q := 53) (v := (m.1 10 x4.toNatClampNeg)) hm118 ⟨⟨_, _, rfl⟩, rfl⟩ rfl hi rfl rfl ?_
      refine w_icmp_gt (q := 56) (X := x2.toInt) (Y := (m.1 10 x4.toNatClampNeg).toInt) hm118 ⟨⟨_, _, rfl⟩, rfl⟩ rfl rfl (fun hc => ?_) (fun hc => ?_)
      · have h := h.1 hc
        exact h
      · have h := h.2 hc
        refine w_iconst (q := 57) hm118 ⟨⟨_, _, rfl⟩, rfl⟩ iconst_1 ?_
        refine w_goto (q := 61) hm118 ⟨_, _, rfl⟩ ?_
        refine w_istore (q := 63) (l' := [oR 54, oR 47, oI x2, oI x3, oI x4, oI (1 : Int32)]) hm118 ⟨⟨_, _, rfl⟩, rfl⟩ rfl rfl rfl ?_
        refine w_iload (q := 65) hm118 ⟨⟨_, _, rfl⟩, rfl⟩ rfl ?_
        refine w_if_eq (q := 68) (X := 1) hm118 ⟨⟨_, _, rfl⟩, rfl⟩ (by decide) (fun hc => absurd hc (by decide)) (fun _ => ?_)
        refine w_aload_n (q := 69) hm118 ⟨⟨_, _, rfl⟩, rfl⟩ rfl ?_
        refine w_getf (q := 72) (v := (m.1 47 5)) hm118 ⟨⟨_, _, rfl⟩, rfl⟩ rfl rfl ?_
        refine w_iload (q := 74) hm118 ⟨⟨_, _, rfl⟩, rfl⟩ rfl ?_
        refine w_call (q := 77) (n := 0) (vs := [.inl (m.1 47 5), .inl x4]) (rest := []) (la := [oI (m.1 47 5), oI x4]) hm118 ⟨⟨_, _, rfl⟩, rfl⟩ rfl rfl rfl rfl hm283 rfl rfl (fun hz => absurd hz (by decide)) rfl (Wp.mono h ?_)
        rintro _ m1 ⟨r1, rfl, h⟩
        change Wp _ _ 77 _ [.inl r1] _ _
        refine w_if_eq (q := 80) (X := r1.toInt) hm118 ⟨⟨_, _, rfl⟩, rfl⟩ rfl (fun hc => ?_) (fun hc => ?_)
        · have h := h.1 hc
          exact Wp.wk [true, true, true, true, true, false] h
        · have h := h.2 hc
          refine w_aload_n (q := 81) hm118 ⟨⟨_, _, rfl⟩, rfl⟩ rfl ?_
          refine w_getr (q := 84) hm118 ⟨⟨_, _, rfl⟩, rfl⟩ rfl ?_
          refine w_getf (q := 87) (v := (m1.1 57 5)) hm118 ⟨⟨_, _, rfl⟩, rfl⟩ rfl rfl ?_
          refine w_aload_n (q := 88) hm118 ⟨⟨_, _, rfl⟩, rfl⟩ rfl ?_
          refine w_getr (q := 91) hm118 ⟨⟨_, _, rfl⟩, rfl⟩ rfl ?_
          refine w_getr (q := 94) hm118 ⟨⟨_, _, rfl⟩, rfl⟩ rfl ?_
          refine w_iload (q := 96) hm118 ⟨⟨_, _, rfl⟩, rfl⟩ rfl ?_
          obtain ⟨hi, h⟩ := h
          refine w_iald (q := 97) (v := (m1.1 7 x4.toNatClampNeg)) hm118 ⟨⟨_, _, rfl⟩, rfl⟩ rfl hi rfl rfl ?_
          refine w_call (q := 100) (n := 0) (vs := [.inl (m1.1 57 5), .inl (m1.1 7 x4.toNatClampNeg)]) (rest := []) (la := [oI (m1.1 57 5), oI (m1.1 7 x4.toNatClampNeg)]) hm118 ⟨⟨_, _, rfl⟩, rfl⟩ rfl rfl rfl rfl hm283 rfl rfl (fun hz => absurd hz (by decide)) rfl (Wp.mono h ?_)
          rintro _ m2 ⟨r2, rfl, h⟩
          change Wp _ _ 100 _ [.inl r2] _ _
          refine w_if_eq (q := 103) (X := r2.toInt) hm118 ⟨⟨_, _, rfl⟩, rfl⟩ rfl (fun hc => ?_) (fun hc => ?_)
          · have h := h.1 hc
            exact Wp.wk [true, true, true, true, true, false] h
          · have h := h.2 hc
            refine w_iload_n (q := 104) hm118 ⟨⟨_, _, rfl⟩, rfl⟩ rfl ?_
            refine w_iconst (q := 105) hm118 ⟨⟨_, _, rfl⟩, rfl⟩ iconst_1 ?_
            refine w_iload (q := 107) hm118 ⟨⟨_, _, rfl⟩, rfl⟩ rfl ?_
            refine w_ishl (q := 108) hm118 ⟨⟨_, _, rfl⟩, rfl⟩ ?_
            refine w_ior (q := 109) hm118 ⟨⟨_, _, rfl⟩, rfl⟩ ?_
            refine w_istore_n (q := 110) (l' := [oR 54, oR 47, oI x2, oI (x3 ||| ((1 : Int32) <<< (x4 &&& 31))), oI x4, oI (1 : Int32)]) hm118 ⟨⟨_, _, rfl⟩, rfl⟩ rfl rfl rfl ?_
            exact Wp.wk [true, true, true, true, true, false] h
theorem v_X0_usesAt_54_47_60 {d : Nat} {x2 : Int32} {x3 : Int32} {x4 : Int32} {m : dM} {Q : Int32 → dM → Prop} (h : j_X0_usesAt_54_47_110 (d + 1) x2 x3 x4 m Q) : j_X0_usesAt_54_47_60 (d + 1) x2 x3 x4 m Q := by
  refine w_iconst (q := 61) hm118 ⟨⟨_, _, rfl⟩, rfl⟩ iconst_0 ?_
  refine w_istore (q := 63) (l' := [oR 54, oR 47, oI x2, oI x3, oI x4, oI (0 : Int32)]) hm118 ⟨⟨_, _, rfl⟩, rfl⟩ rfl rfl rfl ?_
  refine w_iload (q := 65) hm118 ⟨⟨_, _, rfl⟩, rfl⟩ rfl ?_
  refine w_if_eq (q := 68) (X := 0) hm118 ⟨⟨_, _, rfl⟩, rfl⟩ (by decide) (fun _ => ?_) (fun hc => absurd hc (by decide))
  exact Wp.wk [true, true, true, true, true, false] h
theorem v_X0_usesAt_54_47_110 {d : Nat} {x2 : Int32} {x3 : Int32} {x4 : Int32} {m : dM} {Q : Int32 → dM → Prop} (h : j_X0_usesAt_54_47_16 (d + 1) x2 x3 (x4 + (1 : Int32)) m Q) : j_X0_usesAt_54_47_110 (d + 1) x2 x3 x4 m Q := by
  refine w_iinc (q := 113) (l' := [oR 54, oR 47, oI x2, oI x3, oI (x4 + (1 : Int32)), none]) hm118 ⟨⟨_, _, rfl⟩, rfl⟩ rfl rfl rfl iconst_1 rfl ?_
  refine w_goto (q := 16) hm118 ⟨_, _, rfl⟩ ?_
  exact h
theorem v_X0_usesNow_54_47 {d : Nat} {m : dM} {Q : Int32 → dM → Prop} (h : c_X7_hourOfDay_47 d m (fun r1 m1 => c_X0_usesAt_54_47 d r1 m1 (fun r2 m2 => Q r2 m2))) : c_X0_usesNow_54_47 (d + 1) m Q := by
  refine w_aload_n (q := 1) hm117 ⟨⟨_, _, rfl⟩, rfl⟩ rfl ?_
  refine w_aload_n (q := 2) hm117 ⟨⟨_, _, rfl⟩, rfl⟩ rfl ?_
  refine w_aload_n (q := 3) hm117 ⟨⟨_, _, rfl⟩, rfl⟩ rfl ?_
  refine w_call (q := 6) (n := 0) (vs := [.inr (.inr (some 47))]) (rest := [.inr (.inr (some 47)), .inr (.inr (some 54))]) (la := [oR 47]) hm117 ⟨⟨_, _, rfl⟩, rfl⟩ rfl rfl rfl rfl hm212 rfl rfl (fun _ => ⟨_, _, rfl, rfl⟩) rfl (Wp.mono h ?_)
  rintro _ m1 ⟨r1, rfl, h⟩
  change Wp _ _ 6 _ [.inl r1, .inr (.inr (some 47)), .inr (.inr (some 54))] _ _
  refine w_call (q := 9) (n := 3) (vs := [.inr (.inr (some 54)), .inr (.inr (some 47)), .inl r1]) (rest := []) (la := [oR 54, oR 47, oI r1, none, none, none]) hm117 ⟨⟨_, _, rfl⟩, rfl⟩ rfl rfl rfl rfl hm118 rfl rfl (fun _ => ⟨_, _, rfl, rfl⟩) rfl (Wp.mono h ?_)
  rintro _ m2 ⟨r2, rfl, h⟩
  change Wp _ _ 9 _ [.inl r2] _ _
  exact w_reti hm117 ⟨⟨_, _, rfl⟩, rfl⟩ rfl h
theorem v_X0_ampsOf_54 {d : Nat} {x1 : Int32} {x2 : Int32} {m : dM} {Q : Int32 → dM → Prop} (h : j_X0_ampsOf_54_5 (d + 1) x1 x2 (0 : Int32) (0 : Int32) m Q) : c_X0_ampsOf_54 (d + 1) x1 x2 m Q := by
  refine w_iconst (q := 1) hm119 ⟨⟨_, _, rfl⟩, rfl⟩ iconst_0 ?_
  refine w_istore_n (q := 2) (l' := [oR 54, oI x1, oI x2, oI (0 : Int32), none]) hm119 ⟨⟨_, _, rfl⟩, rfl⟩ rfl rfl rfl ?_
  refine w_iconst (q := 3) hm119 ⟨⟨_, _, rfl⟩, rfl⟩ iconst_0 ?_
  refine w_istore (q := 5) (l' := [oR 54, oI x1, oI x2, oI (0 : Int32), oI (0 : Int32)]) hm119 ⟨⟨_, _, rfl⟩, rfl⟩ rfl rfl rfl ?_
  exact h
theorem v_X0_ampsOf_54_5 {d : Nat} {x1 : Int32} {x2 : Int32} {x3 : Int32} {x4 : Int32} {m : dM} {Q : Int32 → dM → Prop} (h : (((m.1 2 2).toInt ≤ x4.toInt → Q x3 m) ∧ (x4.toInt < (m.1 2 2).toInt → c_X11_has d x1 x4 m (fun r1 m1 => ((r1.toInt = 0 → j_X0_ampsOf_54_5 (d + 1) x1 x2 (x3 + (0 : Int32)) (x4 + (1 : Int32)) m1 Q) ∧ (r1.toInt ≠ 0 → ((0 ≤ x4.toInt ∧ x4.toInt < 8) ∧ (((m1.1 7 x4.toNatClampNeg).toInt ≠ x2.toInt → j_X0_ampsOf_54_5 (d + 1) x1 x2 (x3 + (0 : Int32)) (x4 + (1 : Int32)) m1 Q) ∧ ((m1.1 7 x4.toNatClampNeg).toInt = x2.toInt → ((0 ≤ x4.toInt ∧ x4.toInt < 8) ∧ j_X0_ampsOf_54_5 (d + 1) x1 x2 (x3 + (m1.1 8 x4.toNatClampNeg)) (x4 + (1 : Int32)) m1 Q)))))))))) : j_X0_ampsOf_54_5 (d + 1) x1 x2 x3 x4 m Q := by
  refine w_iload (q := 7) hm119 ⟨⟨_, _, rfl⟩, rfl⟩ rfl ?_
  refine w_aload_n (q := 8) hm119 ⟨⟨_, _, rfl⟩, rfl⟩ rfl ?_
  refine w_getr (q := 11) hm119 ⟨⟨_, _, rfl⟩, rfl⟩ rfl ?_
  refine w_getf (q := 14) (v := (m.1 2 2)) hm119 ⟨⟨_, _, rfl⟩, rfl⟩ rfl rfl ?_
  refine w_icmp_ge (q := 17) (X := x4.toInt) (Y := (m.1 2 2).toInt) hm119 ⟨⟨_, _, rfl⟩, rfl⟩ rfl rfl (fun hc => ?_) (fun hc => ?_)
  · have h := h.1 hc
    refine w_iload_n (q := 64) hm119 ⟨⟨_, _, rfl⟩, rfl⟩ rfl ?_
    exact w_reti hm119 ⟨⟨_, _, rfl⟩, rfl⟩ rfl h
  · have h := h.2 hc
    refine w_iload_n (q := 18) hm119 ⟨⟨_, _, rfl⟩, rfl⟩ rfl ?_
    refine w_iload_n (q := 19) hm119 ⟨⟨_, _, rfl⟩, rfl⟩ rfl ?_
    refine w_iload (q := 21) hm119 ⟨⟨_, _, rfl⟩, rfl⟩ rfl ?_
    refine w_call (q := 24) (n := 0) (vs := [.inl x1, .inl x4]) (rest := [.inl x3]) (la := [oI x1, oI x4]) hm119 ⟨⟨_, _, rfl⟩, rfl⟩ rfl rfl rfl rfl hm283 rfl rfl (fun hz => absurd hz (by decide)) rfl (Wp.mono h ?_)
    rintro _ m1 ⟨r1, rfl, h⟩
    change Wp _ _ 24 _ [.inl r1, .inl x3] _ _
    refine w_if_eq (q := 27) (X := r1.toInt) hm119 ⟨⟨_, _, rfl⟩, rfl⟩ rfl (fun hc => ?_) (fun hc => ?_)
    · have h := h.1 hc
      refine w_iconst (q := 55) hm119 ⟨⟨_, _, rfl⟩, rfl⟩ iconst_0 ?_
      refine w_iadd (q := 56) hm119 ⟨⟨_, _, rfl⟩, rfl⟩ ?_
      refine w_istore_n (q := 57) (l' := [oR 54, oI x1, oI x2, oI (x3 + (0 : Int32)), oI x4]) hm119 ⟨⟨_, _, rfl⟩, rfl⟩ rfl rfl rfl ?_
      refine w_iinc (q := 60) (l' := [oR 54, oI x1, oI x2, oI (x3 + (0 : Int32)), oI (x4 + (1 : Int32))]) hm119 ⟨⟨_, _, rfl⟩, rfl⟩ rfl rfl rfl iconst_1 rfl ?_
      refine w_goto (q := 5) hm119 ⟨_, _, rfl⟩ ?_
      exact h
    · have h := h.2 hc
      refine w_aload_n (q := 28) hm119 ⟨⟨_, _, rfl⟩, rfl⟩ rfl ?_
      refine w_getr (q := 31) hm119 ⟨⟨_, _, rfl⟩, rfl⟩ rfl ?_
      refine w_getr (q := 34) hm119 ⟨⟨_, _, rfl⟩, rfl⟩ rfl ?_
      refine w_iload (q := 36) hm119 ⟨⟨_, _, rfl⟩, rfl⟩ rfl ?_
      obtain ⟨hi, h⟩ := h
      refine w_iald (q := 37) (v := (m1.1 7 x4.toNatClampNeg)) hm119 ⟨⟨_, _, rfl⟩, rfl⟩ rfl hi rfl rfl ?_
      refine w_iload_n (q := 38) hm119 ⟨⟨_, _, rfl⟩, rfl⟩ rfl ?_
      refine w_icmp_ne (q := 41) (X := (m1.1 7 x4.toNatClampNeg).toInt) (Y := x2.toInt) hm119 ⟨⟨_, _, rfl⟩, rfl⟩ rfl rfl (fun hc => ?_) (fun hc => ?_)
      · have h := h.1 hc
        refine w_iconst (q := 55) hm119 ⟨⟨_, _, rfl⟩, rfl⟩ iconst_0 ?_
        refine w_iadd (q := 56) hm119 ⟨⟨_, _, rfl⟩, rfl⟩ ?_
        refine w_istore_n (q := 57) (l' := [oR 54, oI x1, oI x2, oI (x3 + (0 : Int32)), oI x4]) hm119 ⟨⟨_, _, rfl⟩, rfl⟩ rfl rfl rfl ?_
        refine w_iinc (q := 60) (l' := [oR 54, oI x1, oI x2, oI (x3 + (0 : Int32)), oI (x4 + (1 : Int32))]) hm119 ⟨⟨_, _, rfl⟩, rfl⟩ rfl rfl rfl iconst_1 rfl ?_
        refine w_goto (q := 5) hm119 ⟨_, _, rfl⟩ ?_
        exact h
      · have h := h.2 hc
        refine w_aload_n (q := 42) hm119 ⟨⟨_, _, rfl⟩, rfl⟩ rfl ?_
        refine w_getr (q := 45) hm119 ⟨⟨_, _, rfl⟩, rfl⟩ rfl ?_
        refine w_getr (q := 48) hm119 ⟨⟨_, _, rfl⟩, rfl⟩ rfl ?_
        refine w_iload (q := 50) hm119 ⟨⟨_, _, rfl⟩, rfl⟩ rfl ?_
        obtain ⟨hi, h⟩ := h
        refine w_iald (q := 51) (v := (m1.1 8 x4.toNatClampNeg)) hm119 ⟨⟨_, _, rfl⟩, rfl⟩ rfl hi rfl rfl ?_
        refine w_goto (q := 55) hm119 ⟨_, _, rfl⟩ ?_
        refine w_iadd (q := 56) hm119 ⟨⟨_, _, rfl⟩, rfl⟩ ?_
        refine w_istore_n (q := 57) (l' := [oR 54, oI x1, oI x2, oI (x3 + (m1.1 8 x4.toNatClampNeg)), oI x4]) hm119 ⟨⟨_, _, rfl⟩, rfl⟩ rfl rfl rfl ?_
        refine w_iinc (q := 60) (l' := [oR 54, oI x1, oI x2, oI (x3 + (m1.1 8 x4.toNatClampNeg)), oI (x4 + (1 : Int32))]) hm119 ⟨⟨_, _, rfl⟩, rfl⟩ rfl rfl rfl iconst_1 rfl ?_
        refine w_goto (q := 5) hm119 ⟨_, _, rfl⟩ ?_
        exact h
theorem v_X11_flat_0 {d : Nat} {x1 : Int32} {x2 : Int32} {m : dM} {Q : Int32 → dM → Prop} (h : c_X11_isFlat_0 d x1 m (fun r1 m1 => ((r1.toInt ≠ 0 → c_X0_waysNow_54_47 d m1 (fun m2 => ((x2.toInt = 0 → ((0 ≤ x1.toInt ∧ x1.toInt < 7) ∧ Q (m2.1 3 x1.toNatClampNeg) m2)) ∧ (x2.toInt = 1 → c_X11_has d (m2.1 57 5) x1 m2 (fun r3 m3 => ((r3.toInt = 0 → Q (0 : Int32) m3) ∧ (r3.toInt ≠ 0 → Q (1 : Int32) m3)))) ∧ (x2.toInt = 2 → ((0 ≤ x1.toInt ∧ x1.toInt < 7) ∧ Q (m2.1 50 x1.toNatClampNeg) m2)) ∧ (x2.toInt = 3 → c_X11_has d (m2.1 57 5) x1 m2 (fun r4 m4 => ((r4.toInt = 0 → Q (-2 : Int32) m4) ∧ (r4.toInt ≠ 0 → ((0 ≤ x1.toInt ∧ x1.toInt < 7) ∧ Q (m4.1 59 x1.toNatClampNeg) m4))))) ∧ (x2.toInt = 4 → c_X0_quarrelOf_54_47 d x1 m2 (fun r5 m5 => Q r5 m5)) ∧ (x2.toInt = 5 → c_X0_usesNow_54_47 d m2 (fun r6 m6 => c_X0_ampsOf_54 d r6 x1 m6 (fun r7 m7 => Q r7 m7))) ∧ (x2.toInt < 0 ∨ 5 < x2.toInt → Q (-1 : Int32) m2)))) ∧ (r1.toInt = 0 → Q (-1 : Int32) m1)))) : c_X11_flat_0 (d + 1) x1 x2 m Q := by
  refine w_aload_n (q := 1) hm251 ⟨⟨_, _, rfl⟩, rfl⟩ rfl ?_
  refine w_iload_n (q := 2) hm251 ⟨⟨_, _, rfl⟩, rfl⟩ rfl ?_
  refine w_call (q := 5) (n := 0) (vs := [.inr (.inr (some 0)), .inl x1]) (rest := []) (la := [oR 0, oI x1]) hm251 ⟨⟨_, _, rfl⟩, rfl⟩ rfl rfl rfl rfl hm248 rfl rfl (fun _ => ⟨_, _, rfl, rfl⟩) rfl (Wp.mono h ?_)
  rintro _ m1 ⟨r1, rfl, h⟩
  change Wp _ _ 5 _ [.inl r1] _ _
  refine w_if_ne (q := 8) (X := r1.toInt) hm251 ⟨⟨_, _, rfl⟩, rfl⟩ rfl (fun hc => ?_) (fun hc => ?_)
  · have h := h.1 hc
    refine w_aload_n (q := 11) hm251 ⟨⟨_, _, rfl⟩, rfl⟩ rfl ?_
    refine w_getr (q := 14) hm251 ⟨⟨_, _, rfl⟩, rfl⟩ rfl ?_
    refine w_aload_n (q := 15) hm251 ⟨⟨_, _, rfl⟩, rfl⟩ rfl ?_
    refine w_getr (q := 18) hm251 ⟨⟨_, _, rfl⟩, rfl⟩ rfl ?_
    refine w_call (q := 21) (n := 0) (vs := [.inr (.inr (some 54)), .inr (.inr (some 47))]) (rest := []) (la := [oR 54, oR 47]) hm251 ⟨⟨_, _, rfl⟩, rfl⟩ rfl rfl rfl rfl hm116 rfl rfl (fun _ => ⟨_, _, rfl, rfl⟩) rfl (Wp.mono h ?_)
    rintro _ m2 ⟨rfl, h⟩
    change Wp _ _ 21 _ [.inr (.inr (some 57))] _ _
    refine w_astore_n (q := 22) (l' := [oR 0, oI x1, oI x2, oR 57]) hm251 ⟨⟨_, _, rfl⟩, rfl⟩ rfl rfl rfl ?_
    refine w_iload_n (q := 23) hm251 ⟨⟨_, _, rfl⟩, rfl⟩ rfl ?_
    refine w_tsw (X := x2.toInt) hm251 ⟨_, _, rfl⟩ (by decide) (by decide) rfl ((And.intro (fun hc => ?_) (And.intro (fun hc => ?_) (And.intro (fun hc => ?_) (And.intro (fun hc => ?_) (And.intro (fun hc => ?_) (And.intro (fun hc => ?_) trivial))))))) (fun hc => ?_)
    · have h := (h.1) hc
      change Wp _ _ 60 _ _ _ _
      refine w_aload_n (q := 61) hm251 ⟨⟨_, _, rfl⟩, rfl⟩ rfl ?_
      refine w_getr (q := 64) hm251 ⟨⟨_, _, rfl⟩, rfl⟩ rfl ?_
      refine w_getr (q := 67) hm251 ⟨⟨_, _, rfl⟩, rfl⟩ rfl ?_
      refine w_iload_n (q := 68) hm251 ⟨⟨_, _, rfl⟩, rfl⟩ rfl ?_
      obtain ⟨hi, h⟩ := h
      refine w_iald (q := 69) (v := (m2.1 3 x1.toNatClampNeg)) hm251 ⟨⟨_, _, rfl⟩, rfl⟩ rfl hi rfl rfl ?_
      exact w_reti hm251 ⟨⟨_, _, rfl⟩, rfl⟩ rfl h
    · have h := (h.2.1) hc
      change Wp _ _ 70 _ _ _ _
      refine w_aload_n (q := 71) hm251 ⟨⟨_, _, rfl⟩, rfl⟩ rfl ?_
      refine w_getf (q := 74) (v := (m2.1 57 5)) hm251 ⟨⟨_, _, rfl⟩, rfl⟩ rfl rfl ?_
      refine w_iload_n (q := 75) hm251 ⟨⟨_, _, rfl⟩, rfl⟩ rfl ?_
      refine w_call (q := 78) (n := 0) (vs := [.inl (m2.1 57 5), .inl x1]) (rest := []) (la := [oI (m2.1 57 5), oI x1]) hm251 ⟨⟨_, _, rfl⟩, rfl⟩ rfl rfl rfl rfl hm283 rfl rfl (fun hz => absurd hz (by decide)) rfl (Wp.mono h ?_)
      rintro _ m3 ⟨r3, rfl, h⟩
      change Wp _ _ 78 _ [.inl r3] _ _
      refine w_if_eq (q := 81) (X := r3.toInt) hm251 ⟨⟨_, _, rfl⟩, rfl⟩ rfl (fun hc => ?_) (fun hc => ?_)
      · have h := h.1 hc
        refine w_iconst (q := 86) hm251 ⟨⟨_, _, rfl⟩, rfl⟩ iconst_0 ?_
        exact w_reti hm251 ⟨⟨_, _, rfl⟩, rfl⟩ rfl h
      · have h := h.2 hc
        refine w_iconst (q := 82) hm251 ⟨⟨_, _, rfl⟩, rfl⟩ iconst_1 ?_
        refine w_goto (q := 86) hm251 ⟨_, _, rfl⟩ ?_
        exact w_reti hm251 ⟨⟨_, _, rfl⟩, rfl⟩ rfl h
    · have h := (h.2.2.1) hc
      change Wp _ _ 87 _ _ _ _
      refine w_aload_n (q := 88) hm251 ⟨⟨_, _, rfl⟩, rfl⟩ rfl ?_
      refine w_getr (q := 91) hm251 ⟨⟨_, _, rfl⟩, rfl⟩ rfl ?_
      refine w_getr (q := 94) hm251 ⟨⟨_, _, rfl⟩, rfl⟩ rfl ?_
      refine w_iload_n (q := 95) hm251 ⟨⟨_, _, rfl⟩, rfl⟩ rfl ?_
      obtain ⟨hi, h⟩ := h
      refine w_iald (q := 96) (v := (m2.1 50 x1.toNatClampNeg)) hm251 ⟨⟨_, _, rfl⟩, rfl⟩ rfl hi rfl rfl ?_
      exact w_reti hm251 ⟨⟨_, _, rfl⟩, rfl⟩ rfl h
    · have h := (h.2.2.2.1) hc
      change Wp _ _ 97 _ _ _ _
      refine w_aload_n (q := 98) hm251 ⟨⟨_, _, rfl⟩, rfl⟩ rfl ?_
      refine w_getf (q := 101) (v := (m2.1 57 5)) hm251 ⟨⟨_, _, rfl⟩, rfl⟩ rfl rfl ?_
      refine w_iload_n (q := 102) hm251 ⟨⟨_, _, rfl⟩, rfl⟩ rfl ?_
      refine w_call (q := 105) (n := 0) (vs := [.inl (m2.1 57 5), .inl x1]) (rest := []) (la := [oI (m2.1 57 5), oI x1]) hm251 ⟨⟨_, _, rfl⟩, rfl⟩ rfl rfl rfl rfl hm283 rfl rfl (fun hz => absurd hz (by decide)) rfl (Wp.mono h ?_)
      rintro _ m4 ⟨r4, rfl, h⟩
      change Wp _ _ 105 _ [.inl r4] _ _
      refine w_if_eq (q := 108) (X := r4.toInt) hm251 ⟨⟨_, _, rfl⟩, rfl⟩ rfl (fun hc => ?_) (fun hc => ?_)
      · have h := h.1 hc
        refine w_bipush (q := 119) hm251 ⟨⟨_, _, rfl⟩, rfl⟩ bipush_m2 ?_
        exact w_reti hm251 ⟨⟨_, _, rfl⟩, rfl⟩ rfl h
      · have h := h.2 hc
        refine w_aload_n (q := 109) hm251 ⟨⟨_, _, rfl⟩, rfl⟩ rfl ?_
        refine w_getr (q := 112) hm251 ⟨⟨_, _, rfl⟩, rfl⟩ rfl ?_
        refine w_iload_n (q := 113) hm251 ⟨⟨_, _, rfl⟩, rfl⟩ rfl ?_
        obtain ⟨hi, h⟩ := h
        refine w_iald (q := 114) (v := (m4.1 59 x1.toNatClampNeg)) hm251 ⟨⟨_, _, rfl⟩, rfl⟩ rfl hi rfl rfl ?_
        refine w_goto (q := 119) hm251 ⟨_, _, rfl⟩ ?_
        exact w_reti hm251 ⟨⟨_, _, rfl⟩, rfl⟩ rfl h
    · have h := (h.2.2.2.2.1) hc
      change Wp _ _ 120 _ _ _ _
      refine w_aload_n (q := 121) hm251 ⟨⟨_, _, rfl⟩, rfl⟩ rfl ?_
      refine w_getr (q := 124) hm251 ⟨⟨_, _, rfl⟩, rfl⟩ rfl ?_
      refine w_aload_n (q := 125) hm251 ⟨⟨_, _, rfl⟩, rfl⟩ rfl ?_
      refine w_getr (q := 128) hm251 ⟨⟨_, _, rfl⟩, rfl⟩ rfl ?_
      refine w_iload_n (q := 129) hm251 ⟨⟨_, _, rfl⟩, rfl⟩ rfl ?_
      refine w_call (q := 132) (n := 0) (vs := [.inr (.inr (some 54)), .inr (.inr (some 47)), .inl x1]) (rest := []) (la := [oR 54, oR 47, oI x1]) hm251 ⟨⟨_, _, rfl⟩, rfl⟩ rfl rfl rfl rfl hm127 rfl rfl (fun _ => ⟨_, _, rfl, rfl⟩) rfl (Wp.mono h ?_)
      rintro _ m5 ⟨r5, rfl, h⟩
      change Wp _ _ 132 _ [.inl r5] _ _
      exact w_reti hm251 ⟨⟨_, _, rfl⟩, rfl⟩ rfl h
    · have h := (h.2.2.2.2.2.1) hc
      change Wp _ _ 133 _ _ _ _
      refine w_aload_n (q := 134) hm251 ⟨⟨_, _, rfl⟩, rfl⟩ rfl ?_
      refine w_getr (q := 137) hm251 ⟨⟨_, _, rfl⟩, rfl⟩ rfl ?_
      refine w_aload_n (q := 138) hm251 ⟨⟨_, _, rfl⟩, rfl⟩ rfl ?_
      refine w_getr (q := 141) hm251 ⟨⟨_, _, rfl⟩, rfl⟩ rfl ?_
      refine w_aload_n (q := 142) hm251 ⟨⟨_, _, rfl⟩, rfl⟩ rfl ?_
      refine w_getr (q := 145) hm251 ⟨⟨_, _, rfl⟩, rfl⟩ rfl ?_
      refine w_call (q := 148) (n := 0) (vs := [.inr (.inr (some 54)), .inr (.inr (some 47))]) (rest := [.inr (.inr (some 54))]) (la := [oR 54, oR 47]) hm251 ⟨⟨_, _, rfl⟩, rfl⟩ rfl rfl rfl rfl hm117 rfl rfl (fun _ => ⟨_, _, rfl, rfl⟩) rfl (Wp.mono h ?_)
      rintro _ m6 ⟨r6, rfl, h⟩
      change Wp _ _ 148 _ [.inl r6, .inr (.inr (some 54))] _ _
      refine w_iload_n (q := 149) hm251 ⟨⟨_, _, rfl⟩, rfl⟩ rfl ?_
      refine w_call (q := 152) (n := 2) (vs := [.inr (.inr (some 54)), .inl r6, .inl x1]) (rest := []) (la := [oR 54, oI r6, oI x1, none, none]) hm251 ⟨⟨_, _, rfl⟩, rfl⟩ rfl rfl rfl rfl hm119 rfl rfl (fun _ => ⟨_, _, rfl, rfl⟩) rfl (Wp.mono h ?_)
      rintro _ m7 ⟨r7, rfl, h⟩
      change Wp _ _ 152 _ [.inl r7] _ _
      exact w_reti hm251 ⟨⟨_, _, rfl⟩, rfl⟩ rfl h
    · have h := (h.2.2.2.2.2.2) hc
      change Wp _ _ 153 _ _ _ _
      refine w_iconst (q := 154) hm251 ⟨⟨_, _, rfl⟩, rfl⟩ iconst_m1 ?_
      exact w_reti hm251 ⟨⟨_, _, rfl⟩, rfl⟩ rfl h
  · have h := h.2 hc
    refine w_iconst (q := 9) hm251 ⟨⟨_, _, rfl⟩, rfl⟩ iconst_m1 ?_
    exact w_reti hm251 ⟨⟨_, _, rfl⟩, rfl⟩ rfl h
theorem v_X12_in {d : Nat} {x0 : Int32} {x1 : Int32} {x2 : Int32} {m : dM} {Q : Int32 → dM → Prop} (h : ((x0.toInt < x1.toInt → j_X12_in_14 (d + 1) m Q) ∧ (x1.toInt ≤ x0.toInt → ((x2.toInt < x0.toInt → j_X12_in_14 (d + 1) m Q) ∧ (x0.toInt ≤ x2.toInt → Q (1 : Int32) m))))) : c_X12_in (d + 1) x0 x1 x2 m Q := by
  refine w_iload_n (q := 1) hm36 ⟨⟨_, _, rfl⟩, rfl⟩ rfl ?_
  refine w_iload_n (q := 2) hm36 ⟨⟨_, _, rfl⟩, rfl⟩ rfl ?_
  refine w_icmp_lt (q := 5) (X := x0.toInt) (Y := x1.toInt) hm36 ⟨⟨_, _, rfl⟩, rfl⟩ rfl rfl (fun hc => ?_) (fun hc => ?_)
  · have h := h.1 hc
    exact Wp.wk [false, false, false] h
  · have h := h.2 hc
    refine w_iload_n (q := 6) hm36 ⟨⟨_, _, rfl⟩, rfl⟩ rfl ?_
    refine w_iload_n (q := 7) hm36 ⟨⟨_, _, rfl⟩, rfl⟩ rfl ?_
    refine w_icmp_gt (q := 10) (X := x0.toInt) (Y := x2.toInt) hm36 ⟨⟨_, _, rfl⟩, rfl⟩ rfl rfl (fun hc => ?_) (fun hc => ?_)
    · have h := h.1 hc
      exact Wp.wk [false, false, false] h
    · have h := h.2 hc
      refine w_iconst (q := 11) hm36 ⟨⟨_, _, rfl⟩, rfl⟩ iconst_1 ?_
      refine w_goto (q := 15) hm36 ⟨_, _, rfl⟩ ?_
      exact w_retz hm36 ⟨⟨_, _, rfl⟩, rfl⟩ rfl (by decide) h
theorem v_X12_in_14 {d : Nat} {m : dM} {Q : Int32 → dM → Prop} (h : Q (0 : Int32) m) : j_X12_in_14 (d + 1) m Q := by
  refine w_iconst (q := 15) hm36 ⟨⟨_, _, rfl⟩, rfl⟩ iconst_0 ?_
  exact w_retz hm36 ⟨⟨_, _, rfl⟩, rfl⟩ rfl (by decide) h
theorem v_X12_isFlat_70 {d : Nat} {x1 : Int32} {m : dM} {Q : Int32 → dM → Prop} (h : ((0 ≤ (m.1 70 18).toInt ∧ (m.1 70 18).toInt < 2) ∧ c_X12_in d x1 (0 : Int32) ((m.1 80 (m.1 70 18).toNatClampNeg) - (1 : Int32)) m (fun r1 m1 => (r1 = 0 ∨ r1 = 1) ∧ Q r1 m1))) : c_X12_isFlat_70 (d + 1) x1 m Q := by
  refine w_iload_n (q := 1) hm39 ⟨⟨_, _, rfl⟩, rfl⟩ rfl ?_
  refine w_iconst (q := 2) hm39 ⟨⟨_, _, rfl⟩, rfl⟩ iconst_0 ?_
  refine w_aload_n (q := 3) hm39 ⟨⟨_, _, rfl⟩, rfl⟩ rfl ?_
  refine w_getr (q := 6) hm39 ⟨⟨_, _, rfl⟩, rfl⟩ rfl ?_
  refine w_aload_n (q := 7) hm39 ⟨⟨_, _, rfl⟩, rfl⟩ rfl ?_
  refine w_getf (q := 10) (v := (m.1 70 18)) hm39 ⟨⟨_, _, rfl⟩, rfl⟩ rfl rfl ?_
  obtain ⟨hi, h⟩ := h
  refine w_iald (q := 11) (v := (m.1 80 (m.1 70 18).toNatClampNeg)) hm39 ⟨⟨_, _, rfl⟩, rfl⟩ rfl hi rfl rfl ?_
  refine w_iconst (q := 12) hm39 ⟨⟨_, _, rfl⟩, rfl⟩ iconst_1 ?_
  refine w_isub (q := 13) hm39 ⟨⟨_, _, rfl⟩, rfl⟩ ?_
  refine w_call (q := 16) (n := 0) (vs := [.inl x1, .inl (0 : Int32), .inl ((m.1 80 (m.1 70 18).toNatClampNeg) - (1 : Int32))]) (rest := []) (la := [oI x1, oI (0 : Int32), oI ((m.1 80 (m.1 70 18).toNatClampNeg) - (1 : Int32))]) hm39 ⟨⟨_, _, rfl⟩, rfl⟩ rfl rfl rfl rfl hm36 rfl rfl (fun hz => absurd hz (by decide)) rfl (Wp.mono h ?_)
  rintro _ m1 ⟨r1, rfl, h⟩
  change Wp _ _ 16 _ [.inl r1] _ _
  exact w_retz hm39 ⟨⟨_, _, rfl⟩, rfl⟩ rfl h.1 h.2
theorem v_X12_isWire_70 {d : Nat} {x1 : Int32} {m : dM} {Q : Int32 → dM → Prop} (h : ((0 ≤ (m.1 70 18).toInt ∧ (m.1 70 18).toInt < 2) ∧ c_X12_in d x1 (0 : Int32) ((m.1 82 (m.1 70 18).toNatClampNeg) - (1 : Int32)) m (fun r1 m1 => (r1 = 0 ∨ r1 = 1) ∧ Q r1 m1))) : c_X12_isWire_70 (d + 1) x1 m Q := by
  refine w_iload_n (q := 1) hm40 ⟨⟨_, _, rfl⟩, rfl⟩ rfl ?_
  refine w_iconst (q := 2) hm40 ⟨⟨_, _, rfl⟩, rfl⟩ iconst_0 ?_
  refine w_aload_n (q := 3) hm40 ⟨⟨_, _, rfl⟩, rfl⟩ rfl ?_
  refine w_getr (q := 6) hm40 ⟨⟨_, _, rfl⟩, rfl⟩ rfl ?_
  refine w_aload_n (q := 7) hm40 ⟨⟨_, _, rfl⟩, rfl⟩ rfl ?_
  refine w_getf (q := 10) (v := (m.1 70 18)) hm40 ⟨⟨_, _, rfl⟩, rfl⟩ rfl rfl ?_
  obtain ⟨hi, h⟩ := h
  refine w_iald (q := 11) (v := (m.1 82 (m.1 70 18).toNatClampNeg)) hm40 ⟨⟨_, _, rfl⟩, rfl⟩ rfl hi rfl rfl ?_
  refine w_iconst (q := 12) hm40 ⟨⟨_, _, rfl⟩, rfl⟩ iconst_1 ?_
  refine w_isub (q := 13) hm40 ⟨⟨_, _, rfl⟩, rfl⟩ ?_
  refine w_call (q := 16) (n := 0) (vs := [.inl x1, .inl (0 : Int32), .inl ((m.1 82 (m.1 70 18).toNatClampNeg) - (1 : Int32))]) (rest := []) (la := [oI x1, oI (0 : Int32), oI ((m.1 82 (m.1 70 18).toNatClampNeg) - (1 : Int32))]) hm40 ⟨⟨_, _, rfl⟩, rfl⟩ rfl rfl rfl rfl hm36 rfl rfl (fun hz => absurd hz (by decide)) rfl (Wp.mono h ?_)
  rintro _ m1 ⟨r1, rfl, h⟩
  change Wp _ _ 16 _ [.inl r1] _ _
  exact w_retz hm40 ⟨⟨_, _, rfl⟩, rfl⟩ rfl h.1 h.2
theorem v_X12_isWhole_70 {d : Nat} {x1 : Int32} {m : dM} {Q : Int32 → dM → Prop} (h : c_X12_isWire_70 d x1 m (fun r1 m1 => ((r1.toInt = 0 → j_X12_isWhole_70_24 (d + 1) m1 Q) ∧ (r1.toInt ≠ 0 → ((0 ≤ ((10 : Int32) + x1).toInt ∧ ((10 : Int32) + x1).toInt < 58) ∧ (((m1.1 108 ((10 : Int32) + x1).toNatClampNeg).toInt ≠ 0 → j_X12_isWhole_70_24 (d + 1) m1 Q) ∧ ((m1.1 108 ((10 : Int32) + x1).toNatClampNeg).toInt = 0 → Q (1 : Int32) m1))))))) : c_X12_isWhole_70 (d + 1) x1 m Q := by
  refine w_aload_n (q := 1) hm47 ⟨⟨_, _, rfl⟩, rfl⟩ rfl ?_
  refine w_iload_n (q := 2) hm47 ⟨⟨_, _, rfl⟩, rfl⟩ rfl ?_
  refine w_call (q := 5) (n := 0) (vs := [.inr (.inr (some 70)), .inl x1]) (rest := []) (la := [oR 70, oI x1]) hm47 ⟨⟨_, _, rfl⟩, rfl⟩ rfl rfl rfl rfl hm40 rfl rfl (fun _ => ⟨_, _, rfl, rfl⟩) rfl (Wp.mono h ?_)
  rintro _ m1 ⟨r1, rfl, h⟩
  change Wp _ _ 5 _ [.inl r1] _ _
  refine w_if_eq (q := 8) (X := r1.toInt) hm47 ⟨⟨_, _, rfl⟩, rfl⟩ rfl (fun hc => ?_) (fun hc => ?_)
  · have h := h.1 hc
    exact Wp.wk [false, false] h
  · have h := h.2 hc
    refine w_aload_n (q := 9) hm47 ⟨⟨_, _, rfl⟩, rfl⟩ rfl ?_
    refine w_getr (q := 12) hm47 ⟨⟨_, _, rfl⟩, rfl⟩ rfl ?_
    refine w_bipush (q := 14) hm47 ⟨⟨_, _, rfl⟩, rfl⟩ bipush_10 ?_
    refine w_iload_n (q := 15) hm47 ⟨⟨_, _, rfl⟩, rfl⟩ rfl ?_
    refine w_iadd (q := 16) hm47 ⟨⟨_, _, rfl⟩, rfl⟩ ?_
    obtain ⟨hi, h⟩ := h
    refine w_iald (q := 17) (v := (m1.1 108 ((10 : Int32) + x1).toNatClampNeg)) hm47 ⟨⟨_, _, rfl⟩, rfl⟩ rfl hi rfl rfl ?_
    refine w_if_ne (q := 20) (X := (m1.1 108 ((10 : Int32) + x1).toNatClampNeg).toInt) hm47 ⟨⟨_, _, rfl⟩, rfl⟩ rfl (fun hc => ?_) (fun hc => ?_)
    · have h := h.1 hc
      exact Wp.wk [false, false] h
    · have h := h.2 hc
      refine w_iconst (q := 21) hm47 ⟨⟨_, _, rfl⟩, rfl⟩ iconst_1 ?_
      refine w_goto (q := 25) hm47 ⟨_, _, rfl⟩ ?_
      exact w_retz hm47 ⟨⟨_, _, rfl⟩, rfl⟩ rfl (by decide) h
theorem v_X12_isWhole_70_24 {d : Nat} {m : dM} {Q : Int32 → dM → Prop} (h : Q (0 : Int32) m) : j_X12_isWhole_70_24 (d + 1) m Q := by
  refine w_iconst (q := 25) hm47 ⟨⟨_, _, rfl⟩, rfl⟩ iconst_0 ?_
  exact w_retz hm47 ⟨⟨_, _, rfl⟩, rfl⟩ rfl (by decide) h
theorem v_X12_otherEnd_70 {d : Nat} {x1 : Int32} {x2 : Int32} {m : dM} {Q : Int32 → dM → Prop} (h : ((0 ≤ (((10 : Int32) * (m.1 70 18)) + x1).toInt ∧ (((10 : Int32) * (m.1 70 18)) + x1).toInt < 20) ∧ (((m.1 83 (((10 : Int32) * (m.1 70 18)) + x1).toNatClampNeg).toInt ≠ x2.toInt → ((0 ≤ (((10 : Int32) * (m.1 70 18)) + x1).toInt ∧ (((10 : Int32) * (m.1 70 18)) + x1).toInt < 20) ∧ (((m.1 84 (((10 : Int32) * (m.1 70 18)) + x1).toNatClampNeg).toInt ≠ x2.toInt → Q (-1 : Int32) m) ∧ ((m.1 84 (((10 : Int32) * (m.1 70 18)) + x1).toNatClampNeg).toInt = x2.toInt → ((0 ≤ (((10 : Int32) * (m.1 70 18)) + x1).toInt ∧ (((10 : Int32) * (m.1 70 18)) + x1).toInt < 20) ∧ Q (m.1 83 (((10 : Int32) * (m.1 70 18)) + x1).toNatClampNeg) m))))) ∧ ((m.1 83 (((10 : Int32) * (m.1 70 18)) + x1).toNatClampNeg).toInt = x2.toInt → ((0 ≤ (((10 : Int32) * (m.1 70 18)) + x1).toInt ∧ (((10 : Int32) * (m.1 70 18)) + x1).toInt < 20) ∧ Q (m.1 84 (((10 : Int32) * (m.1 70 18)) + x1).toNatClampNeg) m))))) : c_X12_otherEnd_70 (d + 1) x1 x2 m Q := by
  refine w_bipush (q := 2) hm48 ⟨⟨_, _, rfl⟩, rfl⟩ bipush_10 ?_
  refine w_aload_n (q := 3) hm48 ⟨⟨_, _, rfl⟩, rfl⟩ rfl ?_
  refine w_getf (q := 6) (v := (m.1 70 18)) hm48 ⟨⟨_, _, rfl⟩, rfl⟩ rfl rfl ?_
  refine w_imul (q := 7) hm48 ⟨⟨_, _, rfl⟩, rfl⟩ ?_
  refine w_iload_n (q := 8) hm48 ⟨⟨_, _, rfl⟩, rfl⟩ rfl ?_
  refine w_iadd (q := 9) hm48 ⟨⟨_, _, rfl⟩, rfl⟩ ?_
  refine w_istore_n (q := 10) (l' := [oR 70, oI x1, oI x2, oI (((10 : Int32) * (m.1 70 18)) + x1)]) hm48 ⟨⟨_, _, rfl⟩, rfl⟩ rfl rfl rfl ?_
  refine w_aload_n (q := 11) hm48 ⟨⟨_, _, rfl⟩, rfl⟩ rfl ?_
  refine w_getr (q := 14) hm48 ⟨⟨_, _, rfl⟩, rfl⟩ rfl ?_
  refine w_iload_n (q := 15) hm48 ⟨⟨_, _, rfl⟩, rfl⟩ rfl ?_
  obtain ⟨hi, h⟩ := h
  refine w_iald (q := 16) (v := (m.1 83 (((10 : Int32) * (m.1 70 18)) + x1).toNatClampNeg)) hm48 ⟨⟨_, _, rfl⟩, rfl⟩ rfl hi rfl rfl ?_
  refine w_iload_n (q := 17) hm48 ⟨⟨_, _, rfl⟩, rfl⟩ rfl ?_
  refine w_icmp_ne (q := 20) (X := (m.1 83 (((10 : Int32) * (m.1 70 18)) + x1).toNatClampNeg).toInt) (Y := x2.toInt) hm48 ⟨⟨_, _, rfl⟩, rfl⟩ rfl rfl (fun hc => ?_) (fun hc => ?_)
  · have h := h.1 hc
    refine w_aload_n (q := 30) hm48 ⟨⟨_, _, rfl⟩, rfl⟩ rfl ?_
    refine w_getr (q := 33) hm48 ⟨⟨_, _, rfl⟩, rfl⟩ rfl ?_
    refine w_iload_n (q := 34) hm48 ⟨⟨_, _, rfl⟩, rfl⟩ rfl ?_
    obtain ⟨hi, h⟩ := h
    refine w_iald (q := 35) (v := (m.1 84 (((10 : Int32) * (m.1 70 18)) + x1).toNatClampNeg)) hm48 ⟨⟨_, _, rfl⟩, rfl⟩ rfl hi rfl rfl ?_
    refine w_iload_n (q := 36) hm48 ⟨⟨_, _, rfl⟩, rfl⟩ rfl ?_
    refine w_icmp_ne (q := 39) (X := (m.1 84 (((10 : Int32) * (m.1 70 18)) + x1).toNatClampNeg).toInt) (Y := x2.toInt) hm48 ⟨⟨_, _, rfl⟩, rfl⟩ rfl rfl (fun hc => ?_) (fun hc => ?_)
    · have h := h.1 hc
      refine w_iconst (q := 49) hm48 ⟨⟨_, _, rfl⟩, rfl⟩ iconst_m1 ?_
      exact w_reti hm48 ⟨⟨_, _, rfl⟩, rfl⟩ rfl h
    · have h := h.2 hc
      refine w_aload_n (q := 40) hm48 ⟨⟨_, _, rfl⟩, rfl⟩ rfl ?_
      refine w_getr (q := 43) hm48 ⟨⟨_, _, rfl⟩, rfl⟩ rfl ?_
      refine w_iload_n (q := 44) hm48 ⟨⟨_, _, rfl⟩, rfl⟩ rfl ?_
      obtain ⟨hi, h⟩ := h
      refine w_iald (q := 45) (v := (m.1 83 (((10 : Int32) * (m.1 70 18)) + x1).toNatClampNeg)) hm48 ⟨⟨_, _, rfl⟩, rfl⟩ rfl hi rfl rfl ?_
      refine w_goto (q := 49) hm48 ⟨_, _, rfl⟩ ?_
      exact w_reti hm48 ⟨⟨_, _, rfl⟩, rfl⟩ rfl h
  · have h := h.2 hc
    refine w_aload_n (q := 21) hm48 ⟨⟨_, _, rfl⟩, rfl⟩ rfl ?_
    refine w_getr (q := 24) hm48 ⟨⟨_, _, rfl⟩, rfl⟩ rfl ?_
    refine w_iload_n (q := 25) hm48 ⟨⟨_, _, rfl⟩, rfl⟩ rfl ?_
    obtain ⟨hi, h⟩ := h
    refine w_iald (q := 26) (v := (m.1 84 (((10 : Int32) * (m.1 70 18)) + x1).toNatClampNeg)) hm48 ⟨⟨_, _, rfl⟩, rfl⟩ rfl hi rfl rfl ?_
    refine w_goto (q := 49) hm48 ⟨_, _, rfl⟩ ?_
    exact w_reti hm48 ⟨⟨_, _, rfl⟩, rfl⟩ rfl h
theorem v_X12_wireFrom_70 {d : Nat} {x1 : Int32} {m : dM} {Q : Int32 → dM → Prop} (h : j_X12_wireFrom_70_2 (d + 1) x1 (0 : Int32) m Q) : c_X12_wireFrom_70 (d + 1) x1 m Q := by
  refine w_iconst (q := 1) hm49 ⟨⟨_, _, rfl⟩, rfl⟩ iconst_0 ?_
  refine w_istore_n (q := 2) (l' := [oR 70, oI x1, oI (0 : Int32), none]) hm49 ⟨⟨_, _, rfl⟩, rfl⟩ rfl rfl rfl ?_
  exact h
theorem v_X12_wireFrom_70_2 {d : Nat} {x1 : Int32} {x2 : Int32} {m : dM} {Q : Int32 → dM → Prop} (h : ((0 ≤ (m.1 70 18).toInt ∧ (m.1 70 18).toInt < 2) ∧ (((m.1 82 (m.1 70 18).toNatClampNeg).toInt ≤ x2.toInt → Q (-1 : Int32) m) ∧ (x2.toInt < (m.1 82 (m.1 70 18).toNatClampNeg).toInt → c_X12_isWhole_70 d x2 m (fun r1 m1 => ((r1.toInt ≠ 0 → c_X12_otherEnd_70 d x2 x1 m1 (fun r2 m2 => ((r2.toInt < 0 → j_X12_wireFrom_70_56 (d + 1) x1 x2 m2 Q) ∧ (0 ≤ r2.toInt → ((0 ≤ r2.toInt ∧ r2.toInt < 7) ∧ ((0 ≤ x1.toInt ∧ x1.toInt < 7) ∧ (((m2.1 109 r2.toNatClampNeg).toInt ≠ ((m2.1 109 x1.toNatClampNeg) - (1 : Int32)).toInt → j_X12_wireFrom_70_56 (d + 1) x1 x2 m2 Q) ∧ ((m2.1 109 r2.toNatClampNeg).toInt = ((m2.1 109 x1.toNatClampNeg) - (1 : Int32)).toInt → Q x2 m2)))))))) ∧ (r1.toInt = 0 → j_X12_wireFrom_70_56 (d + 1) x1 x2 m1 Q))))))) : j_X12_wireFrom_70_2 (d + 1) x1 x2 m Q := by
  refine w_iload_n (q := 3) hm49 ⟨⟨_, _, rfl⟩, rfl⟩ rfl ?_
  refine w_aload_n (q := 4) hm49 ⟨⟨_, _, rfl⟩, rfl⟩ rfl ?_
  refine w_getr (q := 7) hm49 ⟨⟨_, _, rfl⟩, rfl⟩ rfl ?_
  refine w_aload_n (q := 8) hm49 ⟨⟨_, _, rfl⟩, rfl⟩ rfl ?_
  refine w_getf (q := 11) (v := (m.1 70 18)) hm49 ⟨⟨_, _, rfl⟩, rfl⟩ rfl rfl ?_
  obtain ⟨hi, h⟩ := h
  refine w_iald (q := 12) (v := (m.1 82 (m.1 70 18).toNatClampNeg)) hm49 ⟨⟨_, _, rfl⟩, rfl⟩ rfl hi rfl rfl ?_
  refine w_icmp_ge (q := 15) (X := x2.toInt) (Y := (m.1 82 (m.1 70 18).toNatClampNeg).toInt) hm49 ⟨⟨_, _, rfl⟩, rfl⟩ rfl rfl (fun hc => ?_) (fun hc => ?_)
  · have h := h.1 hc
    refine w_iconst (q := 63) hm49 ⟨⟨_, _, rfl⟩, rfl⟩ iconst_m1 ?_
    exact w_reti hm49 ⟨⟨_, _, rfl⟩, rfl⟩ rfl h
  · have h := h.2 hc
    refine w_aload_n (q := 16) hm49 ⟨⟨_, _, rfl⟩, rfl⟩ rfl ?_
    refine w_iload_n (q := 17) hm49 ⟨⟨_, _, rfl⟩, rfl⟩ rfl ?_
    refine w_call (q := 20) (n := 0) (vs := [.inr (.inr (some 70)), .inl x2]) (rest := []) (la := [oR 70, oI x2]) hm49 ⟨⟨_, _, rfl⟩, rfl⟩ rfl rfl rfl rfl hm47 rfl rfl (fun _ => ⟨_, _, rfl, rfl⟩) rfl (Wp.mono h ?_)
    rintro _ m1 ⟨r1, rfl, h⟩
    change Wp _ _ 20 _ [.inl r1] _ _
    refine w_if_ne (q := 23) (X := r1.toInt) hm49 ⟨⟨_, _, rfl⟩, rfl⟩ rfl (fun hc => ?_) (fun hc => ?_)
    · have h := h.1 hc
      refine w_aload_n (q := 27) hm49 ⟨⟨_, _, rfl⟩, rfl⟩ rfl ?_
      refine w_iload_n (q := 28) hm49 ⟨⟨_, _, rfl⟩, rfl⟩ rfl ?_
      refine w_iload_n (q := 29) hm49 ⟨⟨_, _, rfl⟩, rfl⟩ rfl ?_
      refine w_call (q := 32) (n := 1) (vs := [.inr (.inr (some 70)), .inl x2, .inl x1]) (rest := []) (la := [oR 70, oI x2, oI x1, none]) hm49 ⟨⟨_, _, rfl⟩, rfl⟩ rfl rfl rfl rfl hm48 rfl rfl (fun _ => ⟨_, _, rfl, rfl⟩) rfl (Wp.mono h ?_)
      rintro _ m2 ⟨r2, rfl, h⟩
      change Wp _ _ 32 _ [.inl r2] _ _
      refine w_istore_n (q := 33) (l' := [oR 70, oI x1, oI x2, oI r2]) hm49 ⟨⟨_, _, rfl⟩, rfl⟩ rfl rfl rfl ?_
      refine w_iload_n (q := 34) hm49 ⟨⟨_, _, rfl⟩, rfl⟩ rfl ?_
      refine w_if_lt (q := 37) (X := r2.toInt) hm49 ⟨⟨_, _, rfl⟩, rfl⟩ rfl (fun hc => ?_) (fun hc => ?_)
      · have h := h.1 hc
        exact Wp.wk [true, true, true, false] h
      · have h := h.2 hc
        refine w_aload_n (q := 38) hm49 ⟨⟨_, _, rfl⟩, rfl⟩ rfl ?_
        refine w_getr (q := 41) hm49 ⟨⟨_, _, rfl⟩, rfl⟩ rfl ?_
        refine w_iload_n (q := 42) hm49 ⟨⟨_, _, rfl⟩, rfl⟩ rfl ?_
        obtain ⟨hi, h⟩ := h
        refine w_iald (q := 43) (v := (m2.1 109 r2.toNatClampNeg)) hm49 ⟨⟨_, _, rfl⟩, rfl⟩ rfl hi rfl rfl ?_
        refine w_aload_n (q := 44) hm49 ⟨⟨_, _, rfl⟩, rfl⟩ rfl ?_
        refine w_getr (q := 47) hm49 ⟨⟨_, _, rfl⟩, rfl⟩ rfl ?_
        refine w_iload_n (q := 48) hm49 ⟨⟨_, _, rfl⟩, rfl⟩ rfl ?_
        obtain ⟨hi, h⟩ := h
        refine w_iald (q := 49) (v := (m2.1 109 x1.toNatClampNeg)) hm49 ⟨⟨_, _, rfl⟩, rfl⟩ rfl hi rfl rfl ?_
        refine w_iconst (q := 50) hm49 ⟨⟨_, _, rfl⟩, rfl⟩ iconst_1 ?_
        refine w_isub (q := 51) hm49 ⟨⟨_, _, rfl⟩, rfl⟩ ?_
        refine w_icmp_ne (q := 54) (X := (m2.1 109 r2.toNatClampNeg).toInt) (Y := ((m2.1 109 x1.toNatClampNeg) - (1 : Int32)).toInt) hm49 ⟨⟨_, _, rfl⟩, rfl⟩ rfl rfl (fun hc => ?_) (fun hc => ?_)
        · have h := h.1 hc
          exact Wp.wk [true, true, true, false] h
        · have h := h.2 hc
          refine w_iload_n (q := 55) hm49 ⟨⟨_, _, rfl⟩, rfl⟩ rfl ?_
          exact w_reti hm49 ⟨⟨_, _, rfl⟩, rfl⟩ rfl h
    · have h := h.2 hc
      refine w_goto (q := 56) hm49 ⟨_, _, rfl⟩ ?_
      exact h
theorem v_X12_wireFrom_70_56 {d : Nat} {x1 : Int32} {x2 : Int32} {m : dM} {Q : Int32 → dM → Prop} (h : j_X12_wireFrom_70_2 (d + 1) x1 (x2 + (1 : Int32)) m Q) : j_X12_wireFrom_70_56 (d + 1) x1 x2 m Q := by
  refine w_iinc (q := 59) (l' := [oR 70, oI x1, oI (x2 + (1 : Int32)), none]) hm49 ⟨⟨_, _, rfl⟩, rfl⟩ rfl rfl rfl iconst_1 rfl ?_
  refine w_goto (q := 2) hm49 ⟨_, _, rfl⟩ ?_
  exact h
theorem v_X12_fillsWays_70 {d : Nat} {m : dM} {Q : dM → Prop} (h : j_X12_fillsWays_70_2 (d + 1) (0 : Int32) m Q) : c_X12_fillsWays_70 (d + 1) m Q := by
  refine w_iconst (q := 1) hm50 ⟨⟨_, _, rfl⟩, rfl⟩ iconst_0 ?_
  refine w_istore_n (q := 2) (l' := [oR 70, oI (0 : Int32), none, none, none]) hm50 ⟨⟨_, _, rfl⟩, rfl⟩ rfl rfl rfl ?_
  exact h
theorem v_X12_fillsWays_70_2 {d : Nat} {x1 : Int32} {m : dM} {Q : dM → Prop} (h : ((7 ≤ x1.toInt → j_X12_fillsWays_70_51 (d + 1) (1 : Int32) m Q) ∧ (x1.toInt < 7 → ((x1.toInt ≠ 0 → ((0 ≤ x1.toInt ∧ x1.toInt < 7) ∧ ((0 ≤ x1.toInt ∧ x1.toInt < 7) ∧ j_X12_fillsWays_70_2 (d + 1) (x1 + (1 : Int32)) (dSet (dSet m 109 x1.toNatClampNeg (99 : Int32)) 110 x1.toNatClampNeg (0 : Int32)) Q))) ∧ (x1.toInt = 0 → ((0 ≤ (m.1 70 18).toInt ∧ (m.1 70 18).toInt < 2) ∧ (((m.1 80 (m.1 70 18).toNatClampNeg).toInt ≤ 0 → ((0 ≤ x1.toInt ∧ x1.toInt < 7) ∧ ((0 ≤ x1.toInt ∧ x1.toInt < 7) ∧ j_X12_fillsWays_70_2 (d + 1) (x1 + (1 : Int32)) (dSet (dSet m 109 x1.toNatClampNeg (99 : Int32)) 110 x1.toNatClampNeg (0 : Int32)) Q))) ∧ (0 < (m.1 80 (m.1 70 18).toNatClampNeg).toInt → ((0 ≤ x1.toInt ∧ x1.toInt < 7) ∧ ((0 ≤ x1.toInt ∧ x1.toInt < 7) ∧ j_X12_fillsWays_70_2 (d + 1) (x1 + (1 : Int32)) (dSet (dSet m 109 x1.toNatClampNeg (0 : Int32)) 110 x1.toNatClampNeg (0 : Int32)) Q)))))))))) : j_X12_fillsWays_70_2 (d + 1) x1 m Q := by
  refine w_iload_n (q := 3) hm50 ⟨⟨_, _, rfl⟩, rfl⟩ rfl ?_
  refine w_bipush (q := 5) hm50 ⟨⟨_, _, rfl⟩, rfl⟩ bipush_7 ?_
  refine w_icmp_ge (q := 8) (X := x1.toInt) (Y := 7) hm50 ⟨⟨_, _, rfl⟩, rfl⟩ rfl (by decide) (fun hc => ?_) (fun hc => ?_)
  · have h := h.1 hc
    refine w_iconst (q := 50) hm50 ⟨⟨_, _, rfl⟩, rfl⟩ iconst_1 ?_
    refine w_istore_n (q := 51) (l' := [oR 70, oI (1 : Int32), none, none, none]) hm50 ⟨⟨_, _, rfl⟩, rfl⟩ rfl rfl rfl ?_
    exact h
  · have h := h.2 hc
    refine w_aload_n (q := 9) hm50 ⟨⟨_, _, rfl⟩, rfl⟩ rfl ?_
    refine w_getr (q := 12) hm50 ⟨⟨_, _, rfl⟩, rfl⟩ rfl ?_
    refine w_iload_n (q := 13) hm50 ⟨⟨_, _, rfl⟩, rfl⟩ rfl ?_
    refine w_iload_n (q := 14) hm50 ⟨⟨_, _, rfl⟩, rfl⟩ rfl ?_
    refine w_if_ne (q := 17) (X := x1.toInt) hm50 ⟨⟨_, _, rfl⟩, rfl⟩ rfl (fun hc => ?_) (fun hc => ?_)
    · have h := h.1 hc
      refine w_bipush (q := 35) hm50 ⟨⟨_, _, rfl⟩, rfl⟩ bipush_99 ?_
      obtain ⟨hi, h⟩ := h
      refine w_iast (q := 36) hm50 ⟨⟨_, _, rfl⟩, rfl⟩ rfl hi rfl rfl ?_
      refine w_aload_n (q := 37) hm50 ⟨⟨_, _, rfl⟩, rfl⟩ rfl ?_
      refine w_getr (q := 40) hm50 ⟨⟨_, _, rfl⟩, rfl⟩ rfl ?_
      refine w_iload_n (q := 41) hm50 ⟨⟨_, _, rfl⟩, rfl⟩ rfl ?_
      refine w_iconst (q := 42) hm50 ⟨⟨_, _, rfl⟩, rfl⟩ iconst_0 ?_
      obtain ⟨hi, h⟩ := h
      refine w_iast (q := 43) hm50 ⟨⟨_, _, rfl⟩, rfl⟩ rfl hi rfl rfl ?_
      refine w_iinc (q := 46) (l' := [oR 70, oI (x1 + (1 : Int32)), none, none, none]) hm50 ⟨⟨_, _, rfl⟩, rfl⟩ rfl rfl rfl iconst_1 rfl ?_
      refine w_goto (q := 2) hm50 ⟨_, _, rfl⟩ ?_
      exact h
    · have h := h.2 hc
      refine w_aload_n (q := 18) hm50 ⟨⟨_, _, rfl⟩, rfl⟩ rfl ?_
      refine w_getr (q := 21) hm50 ⟨⟨_, _, rfl⟩, rfl⟩ rfl ?_
      refine w_aload_n (q := 22) hm50 ⟨⟨_, _, rfl⟩, rfl⟩ rfl ?_
      refine w_getf (q := 25) (v := (m.1 70 18)) hm50 ⟨⟨_, _, rfl⟩, rfl⟩ rfl rfl ?_
      obtain ⟨hi, h⟩ := h
      refine w_iald (q := 26) (v := (m.1 80 (m.1 70 18).toNatClampNeg)) hm50 ⟨⟨_, _, rfl⟩, rfl⟩ rfl hi rfl rfl ?_
      refine w_if_le (q := 29) (X := (m.1 80 (m.1 70 18).toNatClampNeg).toInt) hm50 ⟨⟨_, _, rfl⟩, rfl⟩ rfl (fun hc => ?_) (fun hc => ?_)
      · have h := h.1 hc
        refine w_bipush (q := 35) hm50 ⟨⟨_, _, rfl⟩, rfl⟩ bipush_99 ?_
        obtain ⟨hi, h⟩ := h
        refine w_iast (q := 36) hm50 ⟨⟨_, _, rfl⟩, rfl⟩ rfl hi rfl rfl ?_
        refine w_aload_n (q := 37) hm50 ⟨⟨_, _, rfl⟩, rfl⟩ rfl ?_
        refine w_getr (q := 40) hm50 ⟨⟨_, _, rfl⟩, rfl⟩ rfl ?_
        refine w_iload_n (q := 41) hm50 ⟨⟨_, _, rfl⟩, rfl⟩ rfl ?_
        refine w_iconst (q := 42) hm50 ⟨⟨_, _, rfl⟩, rfl⟩ iconst_0 ?_
        obtain ⟨hi, h⟩ := h
        refine w_iast (q := 43) hm50 ⟨⟨_, _, rfl⟩, rfl⟩ rfl hi rfl rfl ?_
        refine w_iinc (q := 46) (l' := [oR 70, oI (x1 + (1 : Int32)), none, none, none]) hm50 ⟨⟨_, _, rfl⟩, rfl⟩ rfl rfl rfl iconst_1 rfl ?_
        refine w_goto (q := 2) hm50 ⟨_, _, rfl⟩ ?_
        exact h
      · have h := h.2 hc
        refine w_iconst (q := 30) hm50 ⟨⟨_, _, rfl⟩, rfl⟩ iconst_0 ?_
        refine w_goto (q := 35) hm50 ⟨_, _, rfl⟩ ?_
        obtain ⟨hi, h⟩ := h
        refine w_iast (q := 36) hm50 ⟨⟨_, _, rfl⟩, rfl⟩ rfl hi rfl rfl ?_
        refine w_aload_n (q := 37) hm50 ⟨⟨_, _, rfl⟩, rfl⟩ rfl ?_
        refine w_getr (q := 40) hm50 ⟨⟨_, _, rfl⟩, rfl⟩ rfl ?_
        refine w_iload_n (q := 41) hm50 ⟨⟨_, _, rfl⟩, rfl⟩ rfl ?_
        refine w_iconst (q := 42) hm50 ⟨⟨_, _, rfl⟩, rfl⟩ iconst_0 ?_
        obtain ⟨hi, h⟩ := h
        refine w_iast (q := 43) hm50 ⟨⟨_, _, rfl⟩, rfl⟩ rfl hi rfl rfl ?_
        refine w_iinc (q := 46) (l' := [oR 70, oI (x1 + (1 : Int32)), none, none, none]) hm50 ⟨⟨_, _, rfl⟩, rfl⟩ rfl rfl rfl iconst_1 rfl ?_
        refine w_goto (q := 2) hm50 ⟨_, _, rfl⟩ ?_
        exact h
theorem v_X12_fillsWays_70_51 {d : Nat} {x1 : Int32} {m : dM} {Q : dM → Prop} (h : ((7 ≤ x1.toInt → j_X12_fillsWays_70_191 (d + 1) (1 : Int32) m Q) ∧ (x1.toInt < 7 → j_X12_fillsWays_70_59 (d + 1) x1 (0 : Int32) m Q))) : j_X12_fillsWays_70_51 (d + 1) x1 m Q := by
  refine w_iload_n (q := 52) hm50 ⟨⟨_, _, rfl⟩, rfl⟩ rfl ?_
  refine w_bipush (q := 54) hm50 ⟨⟨_, _, rfl⟩, rfl⟩ bipush_7 ?_
  refine w_icmp_ge (q := 57) (X := x1.toInt) (Y := 7) hm50 ⟨⟨_, _, rfl⟩, rfl⟩ rfl (by decide) (fun hc => ?_) (fun hc => ?_)
  · have h := h.1 hc
    refine w_iconst (q := 190) hm50 ⟨⟨_, _, rfl⟩, rfl⟩ iconst_1 ?_
    refine w_istore_n (q := 191) (l' := [oR 70, oI (1 : Int32), none, none, none]) hm50 ⟨⟨_, _, rfl⟩, rfl⟩ rfl rfl rfl ?_
    exact h
  · have h := h.2 hc
    refine w_iconst (q := 58) hm50 ⟨⟨_, _, rfl⟩, rfl⟩ iconst_0 ?_
    refine w_istore_n (q := 59) (l' := [oR 70, oI x1, oI (0 : Int32), none, none]) hm50 ⟨⟨_, _, rfl⟩, rfl⟩ rfl rfl rfl ?_
    exact h
theorem v_X12_fillsWays_70_59 {d : Nat} {x1 : Int32} {x2 : Int32} {m : dM} {Q : dM → Prop} (h : ((0 ≤ (m.1 70 18).toInt ∧ (m.1 70 18).toInt < 2) ∧ (((m.1 82 (m.1 70 18).toNatClampNeg).toInt ≤ x2.toInt → j_X12_fillsWays_70_51 (d + 1) (x1 + (1 : Int32)) m Q) ∧ (x2.toInt < (m.1 82 (m.1 70 18).toNatClampNeg).toInt → c_X12_isWhole_70 d x2 m (fun r1 m1 => ((r1.toInt ≠ 0 → ((0 ≤ (((10 : Int32) * (m1.1 70 18)) + x2).toInt ∧ (((10 : Int32) * (m1.1 70 18)) + x2).toInt < 20) ∧ ((0 ≤ (((10 : Int32) * (m1.1 70 18)) + x2).toInt ∧ (((10 : Int32) * (m1.1 70 18)) + x2).toInt < 20) ∧ ((0 ≤ (m1.1 83 (((10 : Int32) * (m1.1 70 18)) + x2).toNatClampNeg).toInt ∧ (m1.1 83 (((10 : Int32) * (m1.1 70 18)) + x2).toNatClampNeg).toInt < 7) ∧ (((m1.1 109 (m1.1 83 (((10 : Int32) * (m1.1 70 18)) + x2).toNatClampNeg).toNatClampNeg).toInt ≠ (x1 - (1 : Int32)).toInt → j_X12_fillsWays_70_146 (d + 1) x1 x2 (m1.1 83 (((10 : Int32) * (m1.1 70 18)) + x2).toNatClampNeg) (m1.1 84 (((10 : Int32) * (m1.1 70 18)) + x2).toNatClampNeg) m1 Q) ∧ ((m1.1 109 (m1.1 83 (((10 : Int32) * (m1.1 70 18)) + x2).toNatClampNeg).toNatClampNeg).toInt = (x1 - (1 : Int32)).toInt → ((0 ≤ (m1.1 84 (((10 : Int32) * (m1.1 70 18)) + x2).toNatClampNeg).toInt ∧ (m1.1 84 (((10 : Int32) * (m1.1 70 18)) + x2).toNatClampNeg).toInt < 7) ∧ (((m1.1 109 (m1.1 84 (((10 : Int32) * (m1.1 70 18)) + x2).toNatClampNeg).toNatClampNeg).toInt ≠ 99 → j_X12_fillsWays_70_146 (d + 1) x1 x2 (m1.1 83 (((10 : Int32) * (m1.1 70 18)) + x2).toNatClampNeg) (m1.1 84 (((10 : Int32) * (m1.1 70 18)) + x2).toNatClampNeg) m1 Q) ∧ ((m1.1 109 (m1.1 84 (((10 : Int32) * (m1.1 70 18)) + x2).toNatClampNeg).toNatClampNeg).toInt = 99 → ((0 ≤ (m1.1 84 (((10 : Int32) * (m1.1 70 18)) + x2).toNatClampNeg).toInt ∧ (m1.1 84 (((10 : Int32) * (m1.1 70 18)) + x2).toNatClampNeg).toInt < 7) ∧ j_X12_fillsWays_70_146 (d + 1) x1 x2 (m1.1 83 (((10 : Int32) * (m1.1 70 18)) + x2).toNatClampNeg) (m1.1 84 (((10 : Int32) * (m1.1 70 18)) + x2).toNatClampNeg) (dSet m1 109 (m1.1 84 (((10 : Int32) * (m1.1 70 18)) + x2).toNatClampNeg).toNatClampNeg x1) Q)))))))))) ∧ (r1.toInt = 0 → j_X12_fillsWays_70_177 (d + 1) x1 x2 m1 Q))))))) : j_X12_fillsWays_70_59 (d + 1) x1 x2 m Q := by
  refine w_iload_n (q := 60) hm50 ⟨⟨_, _, rfl⟩, rfl⟩ rfl ?_
  refine w_aload_n (q := 61) hm50 ⟨⟨_, _, rfl⟩, rfl⟩ rfl ?_
  refine w_getr (q := 64) hm50 ⟨⟨_, _, rfl⟩, rfl⟩ rfl ?_
  refine w_aload_n (q := 65) hm50 ⟨⟨_, _, rfl⟩, rfl⟩ rfl ?_
  refine w_getf (q := 68) (v := (m.1 70 18)) hm50 ⟨⟨_, _, rfl⟩, rfl⟩ rfl rfl ?_
  obtain ⟨hi, h⟩ := h
  refine w_iald (q := 69) (v := (m.1 82 (m.1 70 18).toNatClampNeg)) hm50 ⟨⟨_, _, rfl⟩, rfl⟩ rfl hi rfl rfl ?_
  refine w_icmp_ge (q := 72) (X := x2.toInt) (Y := (m.1 82 (m.1 70 18).toNatClampNeg).toInt) hm50 ⟨⟨_, _, rfl⟩, rfl⟩ rfl rfl (fun hc => ?_) (fun hc => ?_)
  · have h := h.1 hc
    refine w_iinc (q := 186) (l' := [oR 70, oI (x1 + (1 : Int32)), oI x2, none, none]) hm50 ⟨⟨_, _, rfl⟩, rfl⟩ rfl rfl rfl iconst_1 rfl ?_
    refine w_goto (q := 51) hm50 ⟨_, _, rfl⟩ ?_
    exact Wp.wk [true, true, false, false, false] h
  · have h := h.2 hc
    refine w_aload_n (q := 73) hm50 ⟨⟨_, _, rfl⟩, rfl⟩ rfl ?_
    refine w_iload_n (q := 74) hm50 ⟨⟨_, _, rfl⟩, rfl⟩ rfl ?_
    refine w_call (q := 77) (n := 0) (vs := [.inr (.inr (some 70)), .inl x2]) (rest := []) (la := [oR 70, oI x2]) hm50 ⟨⟨_, _, rfl⟩, rfl⟩ rfl rfl rfl rfl hm47 rfl rfl (fun _ => ⟨_, _, rfl, rfl⟩) rfl (Wp.mono h ?_)
    rintro _ m1 ⟨r1, rfl, h⟩
    change Wp _ _ 77 _ [.inl r1] _ _
    refine w_if_ne (q := 80) (X := r1.toInt) hm50 ⟨⟨_, _, rfl⟩, rfl⟩ rfl (fun hc => ?_) (fun hc => ?_)
    · have h := h.1 hc
      refine w_aload_n (q := 84) hm50 ⟨⟨_, _, rfl⟩, rfl⟩ rfl ?_
      refine w_getr (q := 87) hm50 ⟨⟨_, _, rfl⟩, rfl⟩ rfl ?_
      refine w_bipush (q := 89) hm50 ⟨⟨_, _, rfl⟩, rfl⟩ bipush_10 ?_
      refine w_aload_n (q := 90) hm50 ⟨⟨_, _, rfl⟩, rfl⟩ rfl ?_
      refine w_getf (q := 93) (v := (m1.1 70 18)) hm50 ⟨⟨_, _, rfl⟩, rfl⟩ rfl rfl ?_
      refine w_imul (q := 94) hm50 ⟨⟨_, _, rfl⟩, rfl⟩ ?_
      refine w_iload_n (q := 95) hm50 ⟨⟨_, _, rfl⟩, rfl⟩ rfl ?_
      refine w_iadd (q := 96) hm50 ⟨⟨_, _, rfl⟩, rfl⟩ ?_
      obtain ⟨hi, h⟩ := h
      refine w_iald (q := 97) (v := (m1.1 83 (((10 : Int32) * (m1.1 70 18)) + x2).toNatClampNeg)) hm50 ⟨⟨_, _, rfl⟩, rfl⟩ rfl hi rfl rfl ?_
      refine w_istore_n (q := 98) (l' := [oR 70, oI x1, oI x2, oI (m1.1 83 (((10 : Int32) * (m1.1 70 18)) + x2).toNatClampNeg), none]) hm50 ⟨⟨_, _, rfl⟩, rfl⟩ rfl rfl rfl ?_
      refine w_aload_n (q := 99) hm50 ⟨⟨_, _, rfl⟩, rfl⟩ rfl ?_
      refine w_getr (q := 102) hm50 ⟨⟨_, _, rfl⟩, rfl⟩ rfl ?_
      refine w_bipush (q := 104) hm50 ⟨⟨_, _, rfl⟩, rfl⟩ bipush_10 ?_
      refine w_aload_n (q := 105) hm50 ⟨⟨_, _, rfl⟩, rfl⟩ rfl ?_
      refine w_getf (q := 108) (v := (m1.1 70 18)) hm50 ⟨⟨_, _, rfl⟩, rfl⟩ rfl rfl ?_
      refine w_imul (q := 109) hm50 ⟨⟨_, _, rfl⟩, rfl⟩ ?_
      refine w_iload_n (q := 110) hm50 ⟨⟨_, _, rfl⟩, rfl⟩ rfl ?_
      refine w_iadd (q := 111) hm50 ⟨⟨_, _, rfl⟩, rfl⟩ ?_
      obtain ⟨hi, h⟩ := h
      refine w_iald (q := 112) (v := (m1.1 84 (((10 : Int32) * (m1.1 70 18)) + x2).toNatClampNeg)) hm50 ⟨⟨_, _, rfl⟩, rfl⟩ rfl hi rfl rfl ?_
      refine w_istore (q := 114) (l' := [oR 70, oI x1, oI x2, oI (m1.1 83 (((10 : Int32) * (m1.1 70 18)) + x2).toNatClampNeg), oI (m1.1 84 (((10 : Int32) * (m1.1 70 18)) + x2).toNatClampNeg)]) hm50 ⟨⟨_, _, rfl⟩, rfl⟩ rfl rfl rfl ?_
      refine w_aload_n (q := 115) hm50 ⟨⟨_, _, rfl⟩, rfl⟩ rfl ?_
      refine w_getr (q := 118) hm50 ⟨⟨_, _, rfl⟩, rfl⟩ rfl ?_
      refine w_iload_n (q := 119) hm50 ⟨⟨_, _, rfl⟩, rfl⟩ rfl ?_
      obtain ⟨hi, h⟩ := h
      refine w_iald (q := 120) (v := (m1.1 109 (m1.1 83 (((10 : Int32) * (m1.1 70 18)) + x2).toNatClampNeg).toNatClampNeg)) hm50 ⟨⟨_, _, rfl⟩, rfl⟩ rfl hi rfl rfl ?_
      refine w_iload_n (q := 121) hm50 ⟨⟨_, _, rfl⟩, rfl⟩ rfl ?_
      refine w_iconst (q := 122) hm50 ⟨⟨_, _, rfl⟩, rfl⟩ iconst_1 ?_
      refine w_isub (q := 123) hm50 ⟨⟨_, _, rfl⟩, rfl⟩ ?_
      refine w_icmp_ne (q := 126) (X := (m1.1 109 (m1.1 83 (((10 : Int32) * (m1.1 70 18)) + x2).toNatClampNeg).toNatClampNeg).toInt) (Y := (x1 - (1 : Int32)).toInt) hm50 ⟨⟨_, _, rfl⟩, rfl⟩ rfl rfl (fun hc => ?_) (fun hc => ?_)
      · have h := h.1 hc
        exact h
      · have h := h.2 hc
        refine w_aload_n (q := 127) hm50 ⟨⟨_, _, rfl⟩, rfl⟩ rfl ?_
        refine w_getr (q := 130) hm50 ⟨⟨_, _, rfl⟩, rfl⟩ rfl ?_
        refine w_iload (q := 132) hm50 ⟨⟨_, _, rfl⟩, rfl⟩ rfl ?_
        obtain ⟨hi, h⟩ := h
        refine w_iald (q := 133) (v := (m1.1 109 (m1.1 84 (((10 : Int32) * (m1.1 70 18)) + x2).toNatClampNeg).toNatClampNeg)) hm50 ⟨⟨_, _, rfl⟩, rfl⟩ rfl hi rfl rfl ?_
        refine w_bipush (q := 135) hm50 ⟨⟨_, _, rfl⟩, rfl⟩ bipush_99 ?_
        refine w_icmp_ne (q := 138) (X := (m1.1 109 (m1.1 84 (((10 : Int32) * (m1.1 70 18)) + x2).toNatClampNeg).toNatClampNeg).toInt) (Y := 99) hm50 ⟨⟨_, _, rfl⟩, rfl⟩ rfl (by decide) (fun hc => ?_) (fun hc => ?_)
        · have h := h.1 hc
          exact h
        · have h := h.2 hc
          refine w_aload_n (q := 139) hm50 ⟨⟨_, _, rfl⟩, rfl⟩ rfl ?_
          refine w_getr (q := 142) hm50 ⟨⟨_, _, rfl⟩, rfl⟩ rfl ?_
          refine w_iload (q := 144) hm50 ⟨⟨_, _, rfl⟩, rfl⟩ rfl ?_
          refine w_iload_n (q := 145) hm50 ⟨⟨_, _, rfl⟩, rfl⟩ rfl ?_
          obtain ⟨hi, h⟩ := h
          refine w_iast (q := 146) hm50 ⟨⟨_, _, rfl⟩, rfl⟩ rfl hi rfl rfl ?_
          exact h
    · have h := h.2 hc
      refine w_goto (q := 177) hm50 ⟨_, _, rfl⟩ ?_
      exact h
theorem v_X12_fillsWays_70_146 {d : Nat} {x1 : Int32} {x2 : Int32} {x3 : Int32} {x4 : Int32} {m : dM} {Q : dM → Prop} (h : ((0 ≤ x4.toInt ∧ x4.toInt < 7) ∧ (((m.1 109 x4.toNatClampNeg).toInt ≠ (x1 - (1 : Int32)).toInt → j_X12_fillsWays_70_177 (d + 1) x1 x2 m Q) ∧ ((m.1 109 x4.toNatClampNeg).toInt = (x1 - (1 : Int32)).toInt → ((0 ≤ x3.toInt ∧ x3.toInt < 7) ∧ (((m.1 109 x3.toNatClampNeg).toInt ≠ 99 → j_X12_fillsWays_70_177 (d + 1) x1 x2 m Q) ∧ ((m.1 109 x3.toNatClampNeg).toInt = 99 → ((0 ≤ x3.toInt ∧ x3.toInt < 7) ∧ j_X12_fillsWays_70_177 (d + 1) x1 x2 (dSet m 109 x3.toNatClampNeg x1) Q)))))))) : j_X12_fillsWays_70_146 (d + 1) x1 x2 x3 x4 m Q := by
  refine w_aload_n (q := 147) hm50 ⟨⟨_, _, rfl⟩, rfl⟩ rfl ?_
  refine w_getr (q := 150) hm50 ⟨⟨_, _, rfl⟩, rfl⟩ rfl ?_
  refine w_iload (q := 152) hm50 ⟨⟨_, _, rfl⟩, rfl⟩ rfl ?_
  obtain ⟨hi, h⟩ := h
  refine w_iald (q := 153) (v := (m.1 109 x4.toNatClampNeg)) hm50 ⟨⟨_, _, rfl⟩, rfl⟩ rfl hi rfl rfl ?_
  refine w_iload_n (q := 154) hm50 ⟨⟨_, _, rfl⟩, rfl⟩ rfl ?_
  refine w_iconst (q := 155) hm50 ⟨⟨_, _, rfl⟩, rfl⟩ iconst_1 ?_
  refine w_isub (q := 156) hm50 ⟨⟨_, _, rfl⟩, rfl⟩ ?_
  refine w_icmp_ne (q := 159) (X := (m.1 109 x4.toNatClampNeg).toInt) (Y := (x1 - (1 : Int32)).toInt) hm50 ⟨⟨_, _, rfl⟩, rfl⟩ rfl rfl (fun hc => ?_) (fun hc => ?_)
  · have h := h.1 hc
    exact Wp.wk [true, true, true, false, false] h
  · have h := h.2 hc
    refine w_aload_n (q := 160) hm50 ⟨⟨_, _, rfl⟩, rfl⟩ rfl ?_
    refine w_getr (q := 163) hm50 ⟨⟨_, _, rfl⟩, rfl⟩ rfl ?_
    refine w_iload_n (q := 164) hm50 ⟨⟨_, _, rfl⟩, rfl⟩ rfl ?_
    obtain ⟨hi, h⟩ := h
    refine w_iald (q := 165) (v := (m.1 109 x3.toNatClampNeg)) hm50 ⟨⟨_, _, rfl⟩, rfl⟩ rfl hi rfl rfl ?_
    refine w_bipush (q := 167) hm50 ⟨⟨_, _, rfl⟩, rfl⟩ bipush_99 ?_
    refine w_icmp_ne (q := 170) (X := (m.1 109 x3.toNatClampNeg).toInt) (Y := 99) hm50 ⟨⟨_, _, rfl⟩, rfl⟩ rfl (by decide) (fun hc => ?_) (fun hc => ?_)
    · have h := h.1 hc
      exact Wp.wk [true, true, true, false, false] h
    · have h := h.2 hc
      refine w_aload_n (q := 171) hm50 ⟨⟨_, _, rfl⟩, rfl⟩ rfl ?_
      refine w_getr (q := 174) hm50 ⟨⟨_, _, rfl⟩, rfl⟩ rfl ?_
      refine w_iload_n (q := 175) hm50 ⟨⟨_, _, rfl⟩, rfl⟩ rfl ?_
      refine w_iload_n (q := 176) hm50 ⟨⟨_, _, rfl⟩, rfl⟩ rfl ?_
      obtain ⟨hi, h⟩ := h
      refine w_iast (q := 177) hm50 ⟨⟨_, _, rfl⟩, rfl⟩ rfl hi rfl rfl ?_
      exact Wp.wk [true, true, true, false, false] h
theorem v_X12_fillsWays_70_177 {d : Nat} {x1 : Int32} {x2 : Int32} {m : dM} {Q : dM → Prop} (h : j_X12_fillsWays_70_59 (d + 1) x1 (x2 + (1 : Int32)) m Q) : j_X12_fillsWays_70_177 (d + 1) x1 x2 m Q := by
  refine w_iinc (q := 180) (l' := [oR 70, oI x1, oI (x2 + (1 : Int32)), none, none]) hm50 ⟨⟨_, _, rfl⟩, rfl⟩ rfl rfl rfl iconst_1 rfl ?_
  refine w_goto (q := 59) hm50 ⟨_, _, rfl⟩ ?_
  exact h
theorem v_X12_fillsWays_70_191 {d : Nat} {x1 : Int32} {m : dM} {Q : dM → Prop} (h : ((7 ≤ x1.toInt → Q m) ∧ (x1.toInt < 7 → j_X12_fillsWays_70_199 (d + 1) x1 (0 : Int32) m Q))) : j_X12_fillsWays_70_191 (d + 1) x1 m Q := by
  refine w_iload_n (q := 192) hm50 ⟨⟨_, _, rfl⟩, rfl⟩ rfl ?_
  refine w_bipush (q := 194) hm50 ⟨⟨_, _, rfl⟩, rfl⟩ bipush_7 ?_
  refine w_icmp_ge (q := 197) (X := x1.toInt) (Y := 7) hm50 ⟨⟨_, _, rfl⟩, rfl⟩ rfl (by decide) (fun hc => ?_) (fun hc => ?_)
  · have h := h.1 hc
    exact w_retv hm50 ⟨⟨_, _, rfl⟩, rfl⟩ rfl h
  · have h := h.2 hc
    refine w_iconst (q := 198) hm50 ⟨⟨_, _, rfl⟩, rfl⟩ iconst_0 ?_
    refine w_istore_n (q := 199) (l' := [oR 70, oI x1, oI (0 : Int32), none, none]) hm50 ⟨⟨_, _, rfl⟩, rfl⟩ rfl rfl rfl ?_
    exact h
theorem v_X12_fillsWays_70_199 {d : Nat} {x1 : Int32} {x2 : Int32} {m : dM} {Q : dM → Prop} (h : ((7 ≤ x2.toInt → j_X12_fillsWays_70_191 (d + 1) (x1 + (1 : Int32)) m Q) ∧ (x2.toInt < 7 → ((0 ≤ x2.toInt ∧ x2.toInt < 7) ∧ (((m.1 109 x2.toNatClampNeg).toInt = x1.toInt → c_X12_wireFrom_70 d x2 m (fun r1 m1 => c_X12_otherEnd_70 d r1 x2 m1 (fun r2 m2 => ((0 ≤ r2.toInt ∧ r2.toInt < 7) ∧ ((0 ≤ x2.toInt ∧ x2.toInt < 7) ∧ j_X12_fillsWays_70_245 (d + 1) x1 x2 (dSet m2 110 x2.toNatClampNeg (((1 : Int32) <<< (r1 &&& 31)) ||| (m2.1 110 r2.toNatClampNeg))) Q))))) ∧ ((m.1 109 x2.toNatClampNeg).toInt ≠ x1.toInt → j_X12_fillsWays_70_245 (d + 1) x1 x2 m Q)))))) : j_X12_fillsWays_70_199 (d + 1) x1 x2 m Q := by
  refine w_iload_n (q := 200) hm50 ⟨⟨_, _, rfl⟩, rfl⟩ rfl ?_
  refine w_bipush (q := 202) hm50 ⟨⟨_, _, rfl⟩, rfl⟩ bipush_7 ?_
  refine w_icmp_ge (q := 205) (X := x2.toInt) (Y := 7) hm50 ⟨⟨_, _, rfl⟩, rfl⟩ rfl (by decide) (fun hc => ?_) (fun hc => ?_)
  · have h := h.1 hc
    refine w_iinc (q := 254) (l' := [oR 70, oI (x1 + (1 : Int32)), oI x2, none, none]) hm50 ⟨⟨_, _, rfl⟩, rfl⟩ rfl rfl rfl iconst_1 rfl ?_
    refine w_goto (q := 191) hm50 ⟨_, _, rfl⟩ ?_
    exact Wp.wk [true, true, false, false, false] h
  · have h := h.2 hc
    refine w_aload_n (q := 206) hm50 ⟨⟨_, _, rfl⟩, rfl⟩ rfl ?_
    refine w_getr (q := 209) hm50 ⟨⟨_, _, rfl⟩, rfl⟩ rfl ?_
    refine w_iload_n (q := 210) hm50 ⟨⟨_, _, rfl⟩, rfl⟩ rfl ?_
    obtain ⟨hi, h⟩ := h
    refine w_iald (q := 211) (v := (m.1 109 x2.toNatClampNeg)) hm50 ⟨⟨_, _, rfl⟩, rfl⟩ rfl hi rfl rfl ?_
    refine w_iload_n (q := 212) hm50 ⟨⟨_, _, rfl⟩, rfl⟩ rfl ?_
    refine w_icmp_eq (q := 215) (X := (m.1 109 x2.toNatClampNeg).toInt) (Y := x1.toInt) hm50 ⟨⟨_, _, rfl⟩, rfl⟩ rfl rfl (fun hc => ?_) (fun hc => ?_)
    · have h := h.1 hc
      refine w_aload_n (q := 219) hm50 ⟨⟨_, _, rfl⟩, rfl⟩ rfl ?_
      refine w_iload_n (q := 220) hm50 ⟨⟨_, _, rfl⟩, rfl⟩ rfl ?_
      refine w_call (q := 223) (n := 2) (vs := [.inr (.inr (some 70)), .inl x2]) (rest := []) (la := [oR 70, oI x2, none, none]) hm50 ⟨⟨_, _, rfl⟩, rfl⟩ rfl rfl rfl rfl hm49 rfl rfl (fun _ => ⟨_, _, rfl, rfl⟩) rfl (Wp.mono h ?_)
      rintro _ m1 ⟨r1, rfl, h⟩
      change Wp _ _ 223 _ [.inl r1] _ _
      refine w_istore_n (q := 224) (l' := [oR 70, oI x1, oI x2, oI r1, none]) hm50 ⟨⟨_, _, rfl⟩, rfl⟩ rfl rfl rfl ?_
      refine w_aload_n (q := 225) hm50 ⟨⟨_, _, rfl⟩, rfl⟩ rfl ?_
      refine w_getr (q := 228) hm50 ⟨⟨_, _, rfl⟩, rfl⟩ rfl ?_
      refine w_iload_n (q := 229) hm50 ⟨⟨_, _, rfl⟩, rfl⟩ rfl ?_
      refine w_iconst (q := 230) hm50 ⟨⟨_, _, rfl⟩, rfl⟩ iconst_1 ?_
      refine w_iload_n (q := 231) hm50 ⟨⟨_, _, rfl⟩, rfl⟩ rfl ?_
      refine w_ishl (q := 232) hm50 ⟨⟨_, _, rfl⟩, rfl⟩ ?_
      refine w_aload_n (q := 233) hm50 ⟨⟨_, _, rfl⟩, rfl⟩ rfl ?_
      refine w_getr (q := 236) hm50 ⟨⟨_, _, rfl⟩, rfl⟩ rfl ?_
      refine w_aload_n (q := 237) hm50 ⟨⟨_, _, rfl⟩, rfl⟩ rfl ?_
      refine w_iload_n (q := 238) hm50 ⟨⟨_, _, rfl⟩, rfl⟩ rfl ?_
      refine w_iload_n (q := 239) hm50 ⟨⟨_, _, rfl⟩, rfl⟩ rfl ?_
      refine w_call (q := 242) (n := 1) (vs := [.inr (.inr (some 70)), .inl r1, .inl x2]) (rest := [.inr (.inr (some 110)), .inl ((1 : Int32) <<< (r1 &&& 31)), .inl x2, .inr (.inr (some 110))]) (la := [oR 70, oI r1, oI x2, none]) hm50 ⟨⟨_, _, rfl⟩, rfl⟩ rfl rfl rfl rfl hm48 rfl rfl (fun _ => ⟨_, _, rfl, rfl⟩) rfl (Wp.mono h ?_)
      rintro _ m2 ⟨r2, rfl, h⟩
      change Wp _ _ 242 _ [.inl r2, .inr (.inr (some 110)), .inl ((1 : Int32) <<< (r1 &&& 31)), .inl x2, .inr (.inr (some 110))] _ _
      obtain ⟨hi, h⟩ := h
      refine w_iald (q := 243) (v := (m2.1 110 r2.toNatClampNeg)) hm50 ⟨⟨_, _, rfl⟩, rfl⟩ rfl hi rfl rfl ?_
      refine w_ior (q := 244) hm50 ⟨⟨_, _, rfl⟩, rfl⟩ ?_
      obtain ⟨hi, h⟩ := h
      refine w_iast (q := 245) hm50 ⟨⟨_, _, rfl⟩, rfl⟩ rfl hi rfl rfl ?_
      exact Wp.wk [true, true, true, false, false] h
    · have h := h.2 hc
      refine w_goto (q := 245) hm50 ⟨_, _, rfl⟩ ?_
      exact h
theorem v_X12_fillsWays_70_245 {d : Nat} {x1 : Int32} {x2 : Int32} {m : dM} {Q : dM → Prop} (h : j_X12_fillsWays_70_199 (d + 1) x1 (x2 + (1 : Int32)) m Q) : j_X12_fillsWays_70_245 (d + 1) x1 x2 m Q := by
  refine w_iinc (q := 248) (l' := [oR 70, oI x1, oI (x2 + (1 : Int32)), none, none]) hm50 ⟨⟨_, _, rfl⟩, rfl⟩ rfl rfl rfl iconst_1 rfl ?_
  refine w_goto (q := 199) hm50 ⟨_, _, rfl⟩ ?_
  exact h
theorem v_X12_copies_70 {d : Nat} {m : dM} {Q : dM → Prop} (h : j_X12_copies_70_2 (d + 1) (0 : Int32) m Q) : c_X12_copies_70 (d + 1) m Q := by
  refine w_iconst (q := 1) hm44 ⟨⟨_, _, rfl⟩, rfl⟩ iconst_0 ?_
  refine w_istore_n (q := 2) (l' := [oR 70, oI (0 : Int32)]) hm44 ⟨⟨_, _, rfl⟩, rfl⟩ rfl rfl rfl ?_
  exact h
theorem v_X12_copies_70_2 {d : Nat} {x1 : Int32} {m : dM} {Q : dM → Prop} (h : ((58 ≤ x1.toInt → ((0 ≤ (m.1 70 18).toInt ∧ (m.1 70 18).toInt < 2) ∧ c_X12_fillsWays_70 d (dSet (dSet m 70 56 (m.1 94 (m.1 70 18).toNatClampNeg)) 70 57 (0 : Int32)) (fun m1 => Q m1))) ∧ (x1.toInt < 58 → ((0 ≤ x1.toInt ∧ x1.toInt < 58) ∧ ((0 ≤ x1.toInt ∧ x1.toInt < 58) ∧ j_X12_copies_70_2 (d + 1) (x1 + (1 : Int32)) (dSet m 108 x1.toNatClampNeg (m.1 107 x1.toNatClampNeg)) Q))))) : j_X12_copies_70_2 (d + 1) x1 m Q := by
  refine w_iload_n (q := 3) hm44 ⟨⟨_, _, rfl⟩, rfl⟩ rfl ?_
  refine w_bipush (q := 5) hm44 ⟨⟨_, _, rfl⟩, rfl⟩ bipush_58 ?_
  refine w_icmp_ge (q := 8) (X := x1.toInt) (Y := 58) hm44 ⟨⟨_, _, rfl⟩, rfl⟩ rfl (by decide) (fun hc => ?_) (fun hc => ?_)
  · have h := h.1 hc
    refine w_aload_n (q := 27) hm44 ⟨⟨_, _, rfl⟩, rfl⟩ rfl ?_
    refine w_aload_n (q := 28) hm44 ⟨⟨_, _, rfl⟩, rfl⟩ rfl ?_
    refine w_getr (q := 31) hm44 ⟨⟨_, _, rfl⟩, rfl⟩ rfl ?_
    refine w_aload_n (q := 32) hm44 ⟨⟨_, _, rfl⟩, rfl⟩ rfl ?_
    refine w_getf (q := 35) (v := (m.1 70 18)) hm44 ⟨⟨_, _, rfl⟩, rfl⟩ rfl rfl ?_
    obtain ⟨hi, h⟩ := h
    refine w_iald (q := 36) (v := (m.1 94 (m.1 70 18).toNatClampNeg)) hm44 ⟨⟨_, _, rfl⟩, rfl⟩ rfl hi rfl rfl ?_
    refine w_putf (q := 39) hm44 ⟨⟨_, _, rfl⟩, rfl⟩ rfl rfl rfl ?_
    refine w_aload_n (q := 40) hm44 ⟨⟨_, _, rfl⟩, rfl⟩ rfl ?_
    refine w_iconst (q := 41) hm44 ⟨⟨_, _, rfl⟩, rfl⟩ iconst_0 ?_
    refine w_putz (q := 44) hm44 ⟨⟨_, _, rfl⟩, rfl⟩ rfl rfl (by decide) rfl ?_
    refine w_aload_n (q := 45) hm44 ⟨⟨_, _, rfl⟩, rfl⟩ rfl ?_
    refine w_call (q := 48) (n := 4) (vs := [.inr (.inr (some 70))]) (rest := []) (la := [oR 70, none, none, none, none]) hm44 ⟨⟨_, _, rfl⟩, rfl⟩ rfl rfl rfl rfl hm50 rfl rfl (fun _ => ⟨_, _, rfl, rfl⟩) rfl (Wp.mono h ?_)
    rintro _ m1 ⟨rfl, h⟩
    change Wp _ _ 48 _ [] _ _
    exact w_retv hm44 ⟨⟨_, _, rfl⟩, rfl⟩ rfl h
  · have h := h.2 hc
    refine w_aload_n (q := 9) hm44 ⟨⟨_, _, rfl⟩, rfl⟩ rfl ?_
    refine w_getr (q := 12) hm44 ⟨⟨_, _, rfl⟩, rfl⟩ rfl ?_
    refine w_iload_n (q := 13) hm44 ⟨⟨_, _, rfl⟩, rfl⟩ rfl ?_
    refine w_aload_n (q := 14) hm44 ⟨⟨_, _, rfl⟩, rfl⟩ rfl ?_
    refine w_getr (q := 17) hm44 ⟨⟨_, _, rfl⟩, rfl⟩ rfl ?_
    refine w_iload_n (q := 18) hm44 ⟨⟨_, _, rfl⟩, rfl⟩ rfl ?_
    obtain ⟨hi, h⟩ := h
    refine w_iald (q := 19) (v := (m.1 107 x1.toNatClampNeg)) hm44 ⟨⟨_, _, rfl⟩, rfl⟩ rfl hi rfl rfl ?_
    obtain ⟨hi, h⟩ := h
    refine w_iast (q := 20) hm44 ⟨⟨_, _, rfl⟩, rfl⟩ rfl hi rfl rfl ?_
    refine w_iinc (q := 23) (l' := [oR 70, oI (x1 + (1 : Int32))]) hm44 ⟨⟨_, _, rfl⟩, rfl⟩ rfl rfl rfl iconst_1 rfl ?_
    refine w_goto (q := 2) hm44 ⟨_, _, rfl⟩ ?_
    exact h
theorem v_X12_isLit_70 {d : Nat} {x1 : Int32} {m : dM} {Q : Int32 → dM → Prop} (h : ((0 ≤ x1.toInt ∧ x1.toInt < 7) ∧ ((99 ≤ (m.1 109 x1.toNatClampNeg).toInt → Q (0 : Int32) m) ∧ ((m.1 109 x1.toNatClampNeg).toInt < 99 → Q (1 : Int32) m)))) : c_X12_isLit_70 (d + 1) x1 m Q := by
  refine w_aload_n (q := 1) hm51 ⟨⟨_, _, rfl⟩, rfl⟩ rfl ?_
  refine w_getr (q := 4) hm51 ⟨⟨_, _, rfl⟩, rfl⟩ rfl ?_
  refine w_iload_n (q := 5) hm51 ⟨⟨_, _, rfl⟩, rfl⟩ rfl ?_
  obtain ⟨hi, h⟩ := h
  refine w_iald (q := 6) (v := (m.1 109 x1.toNatClampNeg)) hm51 ⟨⟨_, _, rfl⟩, rfl⟩ rfl hi rfl rfl ?_
  refine w_bipush (q := 8) hm51 ⟨⟨_, _, rfl⟩, rfl⟩ bipush_99 ?_
  refine w_icmp_ge (q := 11) (X := (m.1 109 x1.toNatClampNeg).toInt) (Y := 99) hm51 ⟨⟨_, _, rfl⟩, rfl⟩ rfl (by decide) (fun hc => ?_) (fun hc => ?_)
  · have h := h.1 hc
    refine w_iconst (q := 16) hm51 ⟨⟨_, _, rfl⟩, rfl⟩ iconst_0 ?_
    exact w_retz hm51 ⟨⟨_, _, rfl⟩, rfl⟩ rfl (by decide) h
  · have h := h.2 hc
    refine w_iconst (q := 12) hm51 ⟨⟨_, _, rfl⟩, rfl⟩ iconst_1 ?_
    refine w_goto (q := 16) hm51 ⟨_, _, rfl⟩ ?_
    exact w_retz hm51 ⟨⟨_, _, rfl⟩, rfl⟩ rfl (by decide) h
theorem v_X12_looks_70 {d : Nat} {x1 : Int32} {x2 : Int32} {m : dM} {Q : dM → Prop} (h : j_X12_looks_70_2 (d + 1) x1 x2 (0 : Int32) m Q) : c_X12_looks_70 (d + 1) x1 x2 m Q := by
  refine w_iconst (q := 1) hm58 ⟨⟨_, _, rfl⟩, rfl⟩ iconst_0 ?_
  refine w_istore_n (q := 2) (l' := [oR 70, oI x1, oI x2, oI (0 : Int32)]) hm58 ⟨⟨_, _, rfl⟩, rfl⟩ rfl rfl rfl ?_
  exact h
theorem v_X12_looks_70_2 {d : Nat} {x1 : Int32} {x2 : Int32} {x3 : Int32} {m : dM} {Q : dM → Prop} (h : ((9 ≤ x3.toInt → Q (dSet (dSet (dSet m 105 3 x1) 105 4 ((m.1 108 55) / (24 : Int32))) 105 8 x2)) ∧ (x3.toInt < 9 → ((0 ≤ x3.toInt ∧ x3.toInt < 9) ∧ j_X12_looks_70_2 (d + 1) x1 x2 (x3 + (1 : Int32)) (dSet m 105 x3.toNatClampNeg (0 : Int32)) Q)))) : j_X12_looks_70_2 (d + 1) x1 x2 x3 m Q := by
  refine w_iload_n (q := 3) hm58 ⟨⟨_, _, rfl⟩, rfl⟩ rfl ?_
  refine w_bipush (q := 5) hm58 ⟨⟨_, _, rfl⟩, rfl⟩ bipush_9 ?_
  refine w_icmp_ge (q := 8) (X := x3.toInt) (Y := 9) hm58 ⟨⟨_, _, rfl⟩, rfl⟩ rfl (by decide) (fun hc => ?_) (fun hc => ?_)
  · have h := h.1 hc
    refine w_aload_n (q := 22) hm58 ⟨⟨_, _, rfl⟩, rfl⟩ rfl ?_
    refine w_getr (q := 25) hm58 ⟨⟨_, _, rfl⟩, rfl⟩ rfl ?_
    refine w_iconst (q := 26) hm58 ⟨⟨_, _, rfl⟩, rfl⟩ iconst_3 ?_
    refine w_iload_n (q := 27) hm58 ⟨⟨_, _, rfl⟩, rfl⟩ rfl ?_
    refine w_iast (q := 28) (j := 3) hm58 ⟨⟨_, _, rfl⟩, rfl⟩ rfl (by decide) (by decide) rfl ?_
    refine w_aload_n (q := 29) hm58 ⟨⟨_, _, rfl⟩, rfl⟩ rfl ?_
    refine w_getr (q := 32) hm58 ⟨⟨_, _, rfl⟩, rfl⟩ rfl ?_
    refine w_iconst (q := 33) hm58 ⟨⟨_, _, rfl⟩, rfl⟩ iconst_4 ?_
    refine w_aload_n (q := 34) hm58 ⟨⟨_, _, rfl⟩, rfl⟩ rfl ?_
    refine w_getr (q := 37) hm58 ⟨⟨_, _, rfl⟩, rfl⟩ rfl ?_
    refine w_bipush (q := 39) hm58 ⟨⟨_, _, rfl⟩, rfl⟩ bipush_55 ?_
    refine w_iald (q := 40) (j := 55) (v := (m.1 108 55)) hm58 ⟨⟨_, _, rfl⟩, rfl⟩ rfl (by decide) (by decide) rfl ?_
    refine w_bipush (q := 42) hm58 ⟨⟨_, _, rfl⟩, rfl⟩ bipush_24 ?_
    refine w_idiv (q := 43) hm58 ⟨⟨_, _, rfl⟩, rfl⟩ (by decide) ?_
    refine w_iast (q := 44) (j := 4) hm58 ⟨⟨_, _, rfl⟩, rfl⟩ rfl (by decide) (by decide) rfl ?_
    refine w_aload_n (q := 45) hm58 ⟨⟨_, _, rfl⟩, rfl⟩ rfl ?_
    refine w_getr (q := 48) hm58 ⟨⟨_, _, rfl⟩, rfl⟩ rfl ?_
    refine w_bipush (q := 50) hm58 ⟨⟨_, _, rfl⟩, rfl⟩ bipush_8 ?_
    refine w_iload_n (q := 51) hm58 ⟨⟨_, _, rfl⟩, rfl⟩ rfl ?_
    refine w_iast (q := 52) (j := 8) hm58 ⟨⟨_, _, rfl⟩, rfl⟩ rfl (by decide) (by decide) rfl ?_
    exact w_retv hm58 ⟨⟨_, _, rfl⟩, rfl⟩ rfl h
  · have h := h.2 hc
    refine w_aload_n (q := 9) hm58 ⟨⟨_, _, rfl⟩, rfl⟩ rfl ?_
    refine w_getr (q := 12) hm58 ⟨⟨_, _, rfl⟩, rfl⟩ rfl ?_
    refine w_iload_n (q := 13) hm58 ⟨⟨_, _, rfl⟩, rfl⟩ rfl ?_
    refine w_iconst (q := 14) hm58 ⟨⟨_, _, rfl⟩, rfl⟩ iconst_0 ?_
    obtain ⟨hi, h⟩ := h
    refine w_iast (q := 15) hm58 ⟨⟨_, _, rfl⟩, rfl⟩ rfl hi rfl rfl ?_
    refine w_iinc (q := 18) (l' := [oR 70, oI x1, oI x2, oI (x3 + (1 : Int32))]) hm58 ⟨⟨_, _, rfl⟩, rfl⟩ rfl rfl rfl iconst_1 rfl ?_
    refine w_goto (q := 2) hm58 ⟨_, _, rfl⟩ ?_
    exact h
theorem v_X12_termOf_70 {d : Nat} {x1 : Int32} {x2 : Int32} {m : dM} {Q : Int32 → dM → Prop} (h : j_X12_termOf_70_5 (d + 1) x2 (0 : Int32) x1 m Q) : c_X12_termOf_70 (d + 1) x1 x2 m Q := by
  refine w_iconst (q := 1) hm35 ⟨⟨_, _, rfl⟩, rfl⟩ iconst_0 ?_
  refine w_istore_n (q := 2) (l' := [oR 70, oI x1, oI x2, oI (0 : Int32), none, none, none, none]) hm35 ⟨⟨_, _, rfl⟩, rfl⟩ rfl rfl rfl ?_
  refine w_iload_n (q := 3) hm35 ⟨⟨_, _, rfl⟩, rfl⟩ rfl ?_
  refine w_istore (q := 5) (l' := [oR 70, oI x1, oI x2, oI (0 : Int32), oI x1, none, none, none]) hm35 ⟨⟨_, _, rfl⟩, rfl⟩ rfl rfl rfl ?_
  exact Wp.wk [true, false, true, true, true, false, false, false] h
theorem v_X12_termOf_70_5 {d : Nat} {x2 : Int32} {x3 : Int32} {x4 : Int32} {m : dM} {Q : Int32 → dM → Prop} (h : ((x2.toInt ≤ x4.toInt → Q (m.1 106 0) m) ∧ (x4.toInt < x2.toInt → ((0 ≤ x4.toInt ∧ x4.toInt < 840) ∧ ((2 ≤ (m.1 102 x4.toNatClampNeg).toInt → ((0 ≤ ((x3 + (-1 : Int32)) - (1 : Int32)).toInt ∧ ((x3 + (-1 : Int32)) - (1 : Int32)).toInt < 400) ∧ ((0 ≤ (x3 + (-1 : Int32)).toInt ∧ (x3 + (-1 : Int32)).toInt < 400) ∧ (((m.1 102 x4.toNatClampNeg).toInt ≠ 5 → j_X12_termOf_70_104 (d + 1) x2 (x3 + (-1 : Int32)) x4 (m.1 102 x4.toNatClampNeg) (m.1 106 ((x3 + (-1 : Int32)) - (1 : Int32)).toNatClampNeg) (m.1 106 (x3 + (-1 : Int32)).toNatClampNeg) m Q) ∧ ((m.1 102 x4.toNatClampNeg).toInt = 5 → (((m.1 106 (x3 + (-1 : Int32)).toNatClampNeg).toInt ≠ 0 → j_X12_termOf_70_104 (d + 1) x2 (x3 + (-1 : Int32)) x4 (m.1 102 x4.toNatClampNeg) (m.1 106 ((x3 + (-1 : Int32)) - (1 : Int32)).toNatClampNeg) (m.1 106 (x3 + (-1 : Int32)).toNatClampNeg) m Q) ∧ ((m.1 106 (x3 + (-1 : Int32)).toNatClampNeg).toInt = 0 → Q (0 : Int32) (dSet m 70 53 (1 : Int32))))))))) ∧ ((m.1 102 x4.toNatClampNeg).toInt < 2 → (((m.1 102 x4.toNatClampNeg).toInt ≠ 0 → ((0 ≤ x4.toInt ∧ x4.toInt < 840) ∧ ((0 ≤ (m.1 103 x4.toNatClampNeg).toInt ∧ (m.1 103 x4.toNatClampNeg).toInt < 9) ∧ ((0 ≤ x3.toInt ∧ x3.toInt < 400) ∧ j_X12_termOf_70_159 (d + 1) x2 (x3 + (1 : Int32)) x4 (dSet m 106 x3.toNatClampNeg (m.1 105 (m.1 103 x4.toNatClampNeg).toNatClampNeg)) Q)))) ∧ ((m.1 102 x4.toNatClampNeg).toInt = 0 → ((0 ≤ x4.toInt ∧ x4.toInt < 840) ∧ ((0 ≤ x3.toInt ∧ x3.toInt < 400) ∧ j_X12_termOf_70_159 (d + 1) x2 (x3 + (1 : Int32)) x4 (dSet m 106 x3.toNatClampNeg (m.1 103 x4.toNatClampNeg)) Q)))))))))) : j_X12_termOf_70_5 (d + 1) x2 x3 x4 m Q := by
  refine w_iload (q := 7) hm35 ⟨⟨_, _, rfl⟩, rfl⟩ rfl ?_
  refine w_iload_n (q := 8) hm35 ⟨⟨_, _, rfl⟩, rfl⟩ rfl ?_
  refine w_icmp_ge (q := 11) (X := x4.toInt) (Y := x2.toInt) hm35 ⟨⟨_, _, rfl⟩, rfl⟩ rfl rfl (fun hc => ?_) (fun hc => ?_)
  · have h := h.1 hc
    refine w_aload_n (q := 166) hm35 ⟨⟨_, _, rfl⟩, rfl⟩ rfl ?_
    refine w_getr (q := 169) hm35 ⟨⟨_, _, rfl⟩, rfl⟩ rfl ?_
    refine w_iconst (q := 170) hm35 ⟨⟨_, _, rfl⟩, rfl⟩ iconst_0 ?_
    refine w_iald (q := 171) (j := 0) (v := (m.1 106 0)) hm35 ⟨⟨_, _, rfl⟩, rfl⟩ rfl (by decide) (by decide) rfl ?_
    exact w_reti hm35 ⟨⟨_, _, rfl⟩, rfl⟩ rfl h
  · have h := h.2 hc
    refine w_aload_n (q := 12) hm35 ⟨⟨_, _, rfl⟩, rfl⟩ rfl ?_
    refine w_getr (q := 15) hm35 ⟨⟨_, _, rfl⟩, rfl⟩ rfl ?_
    refine w_iload (q := 17) hm35 ⟨⟨_, _, rfl⟩, rfl⟩ rfl ?_
    obtain ⟨hi, h⟩ := h
    refine w_iald (q := 18) (v := (m.1 102 x4.toNatClampNeg)) hm35 ⟨⟨_, _, rfl⟩, rfl⟩ rfl hi rfl rfl ?_
    refine w_istore (q := 20) (l' := [oR 70, none, oI x2, oI x3, oI x4, oI (m.1 102 x4.toNatClampNeg), none, none]) hm35 ⟨⟨_, _, rfl⟩, rfl⟩ rfl rfl rfl ?_
    refine w_iload (q := 22) hm35 ⟨⟨_, _, rfl⟩, rfl⟩ rfl ?_
    refine w_iconst (q := 23) hm35 ⟨⟨_, _, rfl⟩, rfl⟩ iconst_2 ?_
    refine w_icmp_ge (q := 26) (X := (m.1 102 x4.toNatClampNeg).toInt) (Y := 2) hm35 ⟨⟨_, _, rfl⟩, rfl⟩ rfl (by decide) (fun hc => ?_) (fun hc => ?_)
    · have h := h.1 hc
      refine w_iinc (q := 68) (l' := [oR 70, none, oI x2, oI (x3 + (-1 : Int32)), oI x4, oI (m.1 102 x4.toNatClampNeg), none, none]) hm35 ⟨⟨_, _, rfl⟩, rfl⟩ rfl rfl rfl iconst_m1 rfl ?_
      refine w_aload_n (q := 69) hm35 ⟨⟨_, _, rfl⟩, rfl⟩ rfl ?_
      refine w_getr (q := 72) hm35 ⟨⟨_, _, rfl⟩, rfl⟩ rfl ?_
      refine w_iload_n (q := 73) hm35 ⟨⟨_, _, rfl⟩, rfl⟩ rfl ?_
      refine w_iconst (q := 74) hm35 ⟨⟨_, _, rfl⟩, rfl⟩ iconst_1 ?_
      refine w_isub (q := 75) hm35 ⟨⟨_, _, rfl⟩, rfl⟩ ?_
      obtain ⟨hi, h⟩ := h
      refine w_iald (q := 76) (v := (m.1 106 ((x3 + (-1 : Int32)) - (1 : Int32)).toNatClampNeg)) hm35 ⟨⟨_, _, rfl⟩, rfl⟩ rfl hi rfl rfl ?_
      refine w_istore (q := 78) (l' := [oR 70, none, oI x2, oI (x3 + (-1 : Int32)), oI x4, oI (m.1 102 x4.toNatClampNeg), oI (m.1 106 ((x3 + (-1 : Int32)) - (1 : Int32)).toNatClampNeg), none]) hm35 ⟨⟨_, _, rfl⟩, rfl⟩ rfl rfl rfl ?_
      refine w_aload_n (q := 79) hm35 ⟨⟨_, _, rfl⟩, rfl⟩ rfl ?_
      refine w_getr (q := 82) hm35 ⟨⟨_, _, rfl⟩, rfl⟩ rfl ?_
      refine w_iload_n (q := 83) hm35 ⟨⟨_, _, rfl⟩, rfl⟩ rfl ?_
      obtain ⟨hi, h⟩ := h
      refine w_iald (q := 84) (v := (m.1 106 (x3 + (-1 : Int32)).toNatClampNeg)) hm35 ⟨⟨_, _, rfl⟩, rfl⟩ rfl hi rfl rfl ?_
      refine w_istore (q := 86) (l' := [oR 70, none, oI x2, oI (x3 + (-1 : Int32)), oI x4, oI (m.1 102 x4.toNatClampNeg), oI (m.1 106 ((x3 + (-1 : Int32)) - (1 : Int32)).toNatClampNeg), oI (m.1 106 (x3 + (-1 : Int32)).toNatClampNeg)]) hm35 ⟨⟨_, _, rfl⟩, rfl⟩ rfl rfl rfl ?_
      refine w_iload (q := 88) hm35 ⟨⟨_, _, rfl⟩, rfl⟩ rfl ?_
      refine w_iconst (q := 89) hm35 ⟨⟨_, _, rfl⟩, rfl⟩ iconst_5 ?_
      refine w_icmp_ne (q := 92) (X := (m.1 102 x4.toNatClampNeg).toInt) (Y := 5) hm35 ⟨⟨_, _, rfl⟩, rfl⟩ rfl (by decide) (fun hc => ?_) (fun hc => ?_)
      · have h := h.1 hc
        exact h
      · have h := h.2 hc
        refine w_iload (q := 94) hm35 ⟨⟨_, _, rfl⟩, rfl⟩ rfl ?_
        refine w_if_ne (q := 97) (X := (m.1 106 (x3 + (-1 : Int32)).toNatClampNeg).toInt) hm35 ⟨⟨_, _, rfl⟩, rfl⟩ rfl (fun hc => ?_) (fun hc => ?_)
        · have h := h.1 hc
          exact h
        · have h := h.2 hc
          refine w_aload_n (q := 98) hm35 ⟨⟨_, _, rfl⟩, rfl⟩ rfl ?_
          refine w_iconst (q := 99) hm35 ⟨⟨_, _, rfl⟩, rfl⟩ iconst_1 ?_
          refine w_putz (q := 102) hm35 ⟨⟨_, _, rfl⟩, rfl⟩ rfl rfl (by decide) rfl ?_
          refine w_iconst (q := 103) hm35 ⟨⟨_, _, rfl⟩, rfl⟩ iconst_0 ?_
          exact w_reti hm35 ⟨⟨_, _, rfl⟩, rfl⟩ rfl h
    · have h := h.2 hc
      refine w_aload_n (q := 27) hm35 ⟨⟨_, _, rfl⟩, rfl⟩ rfl ?_
      refine w_getr (q := 30) hm35 ⟨⟨_, _, rfl⟩, rfl⟩ rfl ?_
      refine w_iload_n (q := 31) hm35 ⟨⟨_, _, rfl⟩, rfl⟩ rfl ?_
      refine w_iload (q := 33) hm35 ⟨⟨_, _, rfl⟩, rfl⟩ rfl ?_
      refine w_if_ne (q := 36) (X := (m.1 102 x4.toNatClampNeg).toInt) hm35 ⟨⟨_, _, rfl⟩, rfl⟩ rfl (fun hc => ?_) (fun hc => ?_)
      · have h := h.1 hc
        refine w_aload_n (q := 47) hm35 ⟨⟨_, _, rfl⟩, rfl⟩ rfl ?_
        refine w_getr (q := 50) hm35 ⟨⟨_, _, rfl⟩, rfl⟩ rfl ?_
        refine w_aload_n (q := 51) hm35 ⟨⟨_, _, rfl⟩, rfl⟩ rfl ?_
        refine w_getr (q := 54) hm35 ⟨⟨_, _, rfl⟩, rfl⟩ rfl ?_
        refine w_iload (q := 56) hm35 ⟨⟨_, _, rfl⟩, rfl⟩ rfl ?_
        obtain ⟨hi, h⟩ := h
        refine w_iald (q := 57) (v := (m.1 103 x4.toNatClampNeg)) hm35 ⟨⟨_, _, rfl⟩, rfl⟩ rfl hi rfl rfl ?_
        obtain ⟨hi, h⟩ := h
        refine w_iald (q := 58) (v := (m.1 105 (m.1 103 x4.toNatClampNeg).toNatClampNeg)) hm35 ⟨⟨_, _, rfl⟩, rfl⟩ rfl hi rfl rfl ?_
        obtain ⟨hi, h⟩ := h
        refine w_iast (q := 59) hm35 ⟨⟨_, _, rfl⟩, rfl⟩ rfl hi rfl rfl ?_
        refine w_iinc (q := 62) (l' := [oR 70, none, oI x2, oI (x3 + (1 : Int32)), oI x4, oI (m.1 102 x4.toNatClampNeg), none, none]) hm35 ⟨⟨_, _, rfl⟩, rfl⟩ rfl rfl rfl iconst_1 rfl ?_
        refine w_goto (q := 159) hm35 ⟨_, _, rfl⟩ ?_
        exact Wp.wk [true, false, true, true, true, false, false, false] h
      · have h := h.2 hc
        refine w_aload_n (q := 37) hm35 ⟨⟨_, _, rfl⟩, rfl⟩ rfl ?_
        refine w_getr (q := 40) hm35 ⟨⟨_, _, rfl⟩, rfl⟩ rfl ?_
        refine w_iload (q := 42) hm35 ⟨⟨_, _, rfl⟩, rfl⟩ rfl ?_
        obtain ⟨hi, h⟩ := h
        refine w_iald (q := 43) (v := (m.1 103 x4.toNatClampNeg)) hm35 ⟨⟨_, _, rfl⟩, rfl⟩ rfl hi rfl rfl ?_
        refine w_goto (q := 58) hm35 ⟨_, _, rfl⟩ ?_
        obtain ⟨hi, h⟩ := h
        refine w_iast (q := 59) hm35 ⟨⟨_, _, rfl⟩, rfl⟩ rfl hi rfl rfl ?_
        refine w_iinc (q := 62) (l' := [oR 70, none, oI x2, oI (x3 + (1 : Int32)), oI x4, oI (m.1 102 x4.toNatClampNeg), none, none]) hm35 ⟨⟨_, _, rfl⟩, rfl⟩ rfl rfl rfl iconst_1 rfl ?_
        refine w_goto (q := 159) hm35 ⟨_, _, rfl⟩ ?_
        exact Wp.wk [true, false, true, true, true, false, false, false] h
theorem v_X12_termOf_70_104 {d : Nat} {x2 : Int32} {x3 : Int32} {x4 : Int32} {x5 : Int32} {x6 : Int32} {x7 : Int32} {m : dM} {Q : Int32 → dM → Prop} (h : ((x5.toInt ≠ 2 → ((x5.toInt ≠ 3 → ((x5.toInt ≠ 4 → (x7 ≠ 0 ∧ ((0 ≤ (x3 - (1 : Int32)).toInt ∧ (x3 - (1 : Int32)).toInt < 400) ∧ j_X12_termOf_70_159 (d + 1) x2 x3 x4 (dSet m 106 (x3 - (1 : Int32)).toNatClampNeg (x6 / x7)) Q))) ∧ (x5.toInt = 4 → ((0 ≤ (x3 - (1 : Int32)).toInt ∧ (x3 - (1 : Int32)).toInt < 400) ∧ j_X12_termOf_70_159 (d + 1) x2 x3 x4 (dSet m 106 (x3 - (1 : Int32)).toNatClampNeg (x6 * x7)) Q)))) ∧ (x5.toInt = 3 → ((0 ≤ (x3 - (1 : Int32)).toInt ∧ (x3 - (1 : Int32)).toInt < 400) ∧ j_X12_termOf_70_159 (d + 1) x2 x3 x4 (dSet m 106 (x3 - (1 : Int32)).toNatClampNeg (x6 - x7)) Q)))) ∧ (x5.toInt = 2 → ((0 ≤ (x3 - (1 : Int32)).toInt ∧ (x3 - (1 : Int32)).toInt < 400) ∧ j_X12_termOf_70_159 (d + 1) x2 x3 x4 (dSet m 106 (x3 - (1 : Int32)).toNatClampNeg (x6 + x7)) Q)))) : j_X12_termOf_70_104 (d + 1) x2 x3 x4 x5 x6 x7 m Q := by
  refine w_aload_n (q := 105) hm35 ⟨⟨_, _, rfl⟩, rfl⟩ rfl ?_
  refine w_getr (q := 108) hm35 ⟨⟨_, _, rfl⟩, rfl⟩ rfl ?_
  refine w_iload_n (q := 109) hm35 ⟨⟨_, _, rfl⟩, rfl⟩ rfl ?_
  refine w_iconst (q := 110) hm35 ⟨⟨_, _, rfl⟩, rfl⟩ iconst_1 ?_
  refine w_isub (q := 111) hm35 ⟨⟨_, _, rfl⟩, rfl⟩ ?_
  refine w_iload (q := 113) hm35 ⟨⟨_, _, rfl⟩, rfl⟩ rfl ?_
  refine w_iconst (q := 114) hm35 ⟨⟨_, _, rfl⟩, rfl⟩ iconst_2 ?_
  refine w_icmp_ne (q := 117) (X := x5.toInt) (Y := 2) hm35 ⟨⟨_, _, rfl⟩, rfl⟩ rfl (by decide) (fun hc => ?_) (fun hc => ?_)
  · have h := h.1 hc
    refine w_iload (q := 127) hm35 ⟨⟨_, _, rfl⟩, rfl⟩ rfl ?_
    refine w_iconst (q := 128) hm35 ⟨⟨_, _, rfl⟩, rfl⟩ iconst_3 ?_
    refine w_icmp_ne (q := 131) (X := x5.toInt) (Y := 3) hm35 ⟨⟨_, _, rfl⟩, rfl⟩ rfl (by decide) (fun hc => ?_) (fun hc => ?_)
    · have h := h.1 hc
      refine w_iload (q := 141) hm35 ⟨⟨_, _, rfl⟩, rfl⟩ rfl ?_
      refine w_iconst (q := 142) hm35 ⟨⟨_, _, rfl⟩, rfl⟩ iconst_4 ?_
      refine w_icmp_ne (q := 145) (X := x5.toInt) (Y := 4) hm35 ⟨⟨_, _, rfl⟩, rfl⟩ rfl (by decide) (fun hc => ?_) (fun hc => ?_)
      · have h := h.1 hc
        refine w_iload (q := 155) hm35 ⟨⟨_, _, rfl⟩, rfl⟩ rfl ?_
        refine w_iload (q := 157) hm35 ⟨⟨_, _, rfl⟩, rfl⟩ rfl ?_
        obtain ⟨hz, h⟩ := h
        refine w_idiv (q := 158) hm35 ⟨⟨_, _, rfl⟩, rfl⟩ hz ?_
        obtain ⟨hi, h⟩ := h
        refine w_iast (q := 159) hm35 ⟨⟨_, _, rfl⟩, rfl⟩ rfl hi rfl rfl ?_
        exact Wp.wk [true, false, true, true, true, false, false, false] h
      · have h := h.2 hc
        refine w_iload (q := 147) hm35 ⟨⟨_, _, rfl⟩, rfl⟩ rfl ?_
        refine w_iload (q := 149) hm35 ⟨⟨_, _, rfl⟩, rfl⟩ rfl ?_
        refine w_imul (q := 150) hm35 ⟨⟨_, _, rfl⟩, rfl⟩ ?_
        refine w_goto (q := 158) hm35 ⟨_, _, rfl⟩ ?_
        obtain ⟨hi, h⟩ := h
        refine w_iast (q := 159) hm35 ⟨⟨_, _, rfl⟩, rfl⟩ rfl hi rfl rfl ?_
        exact Wp.wk [true, false, true, true, true, false, false, false] h
    · have h := h.2 hc
      refine w_iload (q := 133) hm35 ⟨⟨_, _, rfl⟩, rfl⟩ rfl ?_
      refine w_iload (q := 135) hm35 ⟨⟨_, _, rfl⟩, rfl⟩ rfl ?_
      refine w_isub (q := 136) hm35 ⟨⟨_, _, rfl⟩, rfl⟩ ?_
      refine w_goto (q := 158) hm35 ⟨_, _, rfl⟩ ?_
      obtain ⟨hi, h⟩ := h
      refine w_iast (q := 159) hm35 ⟨⟨_, _, rfl⟩, rfl⟩ rfl hi rfl rfl ?_
      exact Wp.wk [true, false, true, true, true, false, false, false] h
  · have h := h.2 hc
    refine w_iload (q := 119) hm35 ⟨⟨_, _, rfl⟩, rfl⟩ rfl ?_
    refine w_iload (q := 121) hm35 ⟨⟨_, _, rfl⟩, rfl⟩ rfl ?_
    refine w_iadd (q := 122) hm35 ⟨⟨_, _, rfl⟩, rfl⟩ ?_
    refine w_goto (q := 158) hm35 ⟨_, _, rfl⟩ ?_
    obtain ⟨hi, h⟩ := h
    refine w_iast (q := 159) hm35 ⟨⟨_, _, rfl⟩, rfl⟩ rfl hi rfl rfl ?_
    exact Wp.wk [true, false, true, true, true, false, false, false] h
theorem v_X12_termOf_70_159 {d : Nat} {x2 : Int32} {x3 : Int32} {x4 : Int32} {m : dM} {Q : Int32 → dM → Prop} (h : j_X12_termOf_70_5 (d + 1) x2 x3 (x4 + (1 : Int32)) m Q) : j_X12_termOf_70_159 (d + 1) x2 x3 x4 m Q := by
  refine w_iinc (q := 162) (l' := [oR 70, none, oI x2, oI x3, oI (x4 + (1 : Int32)), none, none, none]) hm35 ⟨⟨_, _, rfl⟩, rfl⟩ rfl rfl rfl iconst_1 rfl ?_
  refine w_goto (q := 5) hm35 ⟨_, _, rfl⟩ ?_
  exact h
