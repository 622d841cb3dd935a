section
theorem v_X4_tells_11_55 {d : Nat} {x1 : Int32} {m : dM} {Q : Int32 → dM → Prop} (h : ((0 ≤ x1.toInt ∧ x1.toInt < 4) ∧ j_X4_tells_11_55_17 (d + 1) x1 ((m.1 18 x1.toNatClampNeg) - (1 : Int32)) (0 : Int32) (dSet m 11 5 (0 : Int32)) Q)) : c_X4_tells_11_55 (d + 1) x1 m Q := by
  refine w_aload_n (q := 1) hm181 ⟨⟨_, _, rfl⟩, rfl⟩ rfl ?_
  refine w_iconst (q := 2) hm181 ⟨⟨_, _, rfl⟩, rfl⟩ iconst_0 ?_
  refine w_putz (q := 5) hm181 ⟨⟨_, _, rfl⟩, rfl⟩ rfl rfl (by decide) rfl ?_
  refine w_aload_n (q := 6) hm181 ⟨⟨_, _, rfl⟩, rfl⟩ rfl ?_
  refine w_getr (q := 9) hm181 ⟨⟨_, _, rfl⟩, rfl⟩ rfl ?_
  refine w_iload_n (q := 10) hm181 ⟨⟨_, _, rfl⟩, rfl⟩ rfl ?_
  obtain ⟨hi, h⟩ := h
  refine w_iald (q := 11) (v := (m.1 18 x1.toNatClampNeg)) hm181 ⟨⟨_, _, rfl⟩, rfl⟩ rfl hi rfl rfl ?_
  refine w_iconst (q := 12) hm181 ⟨⟨_, _, rfl⟩, rfl⟩ iconst_1 ?_
  refine w_isub (q := 13) hm181 ⟨⟨_, _, rfl⟩, rfl⟩ ?_
  refine w_istore_n (q := 14) (l' := [oR 11, oI x1, oR 55, oI ((m.1 18 x1.toNatClampNeg) - (1 : Int32)), none, none, none]) hm181 ⟨⟨_, _, rfl⟩, rfl⟩ rfl rfl rfl ?_
  refine w_iconst (q := 15) hm181 ⟨⟨_, _, rfl⟩, rfl⟩ iconst_0 ?_
  refine w_istore (q := 17) (l' := [oR 11, oI x1, oR 55, oI ((m.1 18 x1.toNatClampNeg) - (1 : Int32)), oI (0 : Int32), none, none]) hm181 ⟨⟨_, _, rfl⟩, rfl⟩ rfl rfl rfl ?_
  exact h
theorem v_X4_tells_11_55_17 {d : Nat} {x1 : Int32} {x3 : Int32} {x4 : Int32} {m : dM} {Q : Int32 → dM → Prop} (h : ((0 ≤ x1.toInt ∧ x1.toInt < 4) ∧ (((m.1 18 x1.toNatClampNeg).toInt ≤ (x4 + (2 : Int32)).toInt → j_X4_tells_11_55_93 (d + 1) x1 x3 m Q) ∧ ((x4 + (2 : Int32)).toInt < (m.1 18 x1.toNatClampNeg).toInt → c_X4_pieceTells_11_55 d x1 x4 m (fun r1 m1 => (((m1.1 11 5).toInt = 0 → c_X4_pieceTells_11_55 d x1 (x4 + (1 : Int32)) m1 (fun r2 m2 => (((m2.1 11 5).toInt = 0 → ((r2.toInt ≤ r1.toInt → j_X4_tells_11_55_17 (d + 1) x1 x3 (x4 + (3 : Int32)) m2 Q) ∧ (r1.toInt < r2.toInt → j_X4_tells_11_55_93 (d + 1) x1 (x4 + (2 : Int32)) m2 Q))) ∧ ((m2.1 11 5).toInt ≠ 0 → Q (0 : Int32) m2)))) ∧ ((m1.1 11 5).toInt ≠ 0 → (((m1.1 11 5).toInt = 0 → ((0 ≤ r1.toInt → j_X4_tells_11_55_17 (d + 1) x1 x3 (x4 + (3 : Int32)) m1 Q) ∧ (r1.toInt < 0 → j_X4_tells_11_55_93 (d + 1) x1 (x4 + (2 : Int32)) m1 Q))) ∧ ((m1.1 11 5).toInt ≠ 0 → Q (0 : Int32) m1))))))))) : j_X4_tells_11_55_17 (d + 1) x1 x3 x4 m Q := by
  refine w_iload (q := 19) hm181 ⟨⟨_, _, rfl⟩, rfl⟩ rfl ?_
  refine w_iconst (q := 20) hm181 ⟨⟨_, _, rfl⟩, rfl⟩ iconst_2 ?_
  refine w_iadd (q := 21) hm181 ⟨⟨_, _, rfl⟩, rfl⟩ ?_
  refine w_aload_n (q := 22) hm181 ⟨⟨_, _, rfl⟩, rfl⟩ rfl ?_
  refine w_getr (q := 25) hm181 ⟨⟨_, _, rfl⟩, rfl⟩ rfl ?_
  refine w_iload_n (q := 26) hm181 ⟨⟨_, _, rfl⟩, rfl⟩ rfl ?_
  obtain ⟨hi, h⟩ := h
  refine w_iald (q := 27) (v := (m.1 18 x1.toNatClampNeg)) hm181 ⟨⟨_, _, rfl⟩, rfl⟩ rfl hi rfl rfl ?_
  refine w_icmp_ge (q := 30) (X := (x4 + (2 : Int32)).toInt) (Y := (m.1 18 x1.toNatClampNeg).toInt) hm181 ⟨⟨_, _, rfl⟩, rfl⟩ rfl rfl (fun hc => ?_) (fun hc => ?_)
  · have h := h.1 hc
    exact Wp.wk [true, true, true, true, false, false, false] h
  · have h := h.2 hc
    refine w_aload_n (q := 31) hm181 ⟨⟨_, _, rfl⟩, rfl⟩ rfl ?_
    refine w_iload_n (q := 32) hm181 ⟨⟨_, _, rfl⟩, rfl⟩ rfl ?_
    refine w_iload (q := 34) hm181 ⟨⟨_, _, rfl⟩, rfl⟩ rfl ?_
    refine w_aload_n (q := 35) hm181 ⟨⟨_, _, rfl⟩, rfl⟩ rfl ?_
    refine w_call (q := 38) (n := 4) (vs := [.inr (.inr (some 11)), .inl x1, .inl x4, .inr (.inr (some 55))]) (rest := []) (la := [oR 11, oI x1, oI x4, oR 55, none, none, none, none]) hm181 ⟨⟨_, _, rfl⟩, rfl⟩ rfl rfl rfl rfl hm182 rfl rfl (fun _ => ⟨_, _, rfl, rfl⟩) rfl (Wp.mono h ?_)
    rintro _ m1 ⟨r1, rfl, h⟩
    change Wp _ _ 38 _ [.inl r1] _ _
    refine w_istore (q := 40) (l' := [oR 11, oI x1, oR 55, oI x3, oI x4, oI r1, none]) hm181 ⟨⟨_, _, rfl⟩, rfl⟩ rfl rfl rfl ?_
    refine w_aload_n (q := 41) hm181 ⟨⟨_, _, rfl⟩, rfl⟩ rfl ?_
    refine w_getf (q := 44) (v := (m1.1 11 5)) hm181 ⟨⟨_, _, rfl⟩, rfl⟩ rfl rfl ?_
    refine w_if_eq (q := 47) (X := (m1.1 11 5).toInt) hm181 ⟨⟨_, _, rfl⟩, rfl⟩ rfl (fun hc => ?_) (fun hc => ?_)
    · have h := h.1 hc
      refine w_aload_n (q := 52) hm181 ⟨⟨_, _, rfl⟩, rfl⟩ rfl ?_
      refine w_iload_n (q := 53) hm181 ⟨⟨_, _, rfl⟩, rfl⟩ rfl ?_
      refine w_iload (q := 55) hm181 ⟨⟨_, _, rfl⟩, rfl⟩ rfl ?_
      refine w_iconst (q := 56) hm181 ⟨⟨_, _, rfl⟩, rfl⟩ iconst_1 ?_
      refine w_iadd (q := 57) hm181 ⟨⟨_, _, rfl⟩, rfl⟩ ?_
      refine w_aload_n (q := 58) hm181 ⟨⟨_, _, rfl⟩, rfl⟩ rfl ?_
      refine w_call (q := 61) (n := 4) (vs := [.inr (.inr (some 11)), .inl x1, .inl (x4 + (1 : Int32)), .inr (.inr (some 55))]) (rest := []) (la := [oR 11, oI x1, oI (x4 + (1 : Int32)), oR 55, none, none, none, none]) hm181 ⟨⟨_, _, rfl⟩, rfl⟩ rfl rfl rfl rfl hm182 rfl rfl (fun _ => ⟨_, _, rfl, rfl⟩) rfl (Wp.mono h ?_)
      rintro _ m2 ⟨r2, rfl, h⟩
      change Wp _ _ 61 _ [.inl r2] _ _
      refine w_istore (q := 63) (l' := [oR 11, oI x1, oR 55, oI x3, oI x4, oI r1, oI r2]) hm181 ⟨⟨_, _, rfl⟩, rfl⟩ rfl rfl rfl ?_
      refine w_aload_n (q := 64) hm181 ⟨⟨_, _, rfl⟩, rfl⟩ rfl ?_
      refine w_getf (q := 67) (v := (m2.1 11 5)) hm181 ⟨⟨_, _, rfl⟩, rfl⟩ rfl rfl ?_
      refine w_if_eq (q := 70) (X := (m2.1 11 5).toInt) hm181 ⟨⟨_, _, rfl⟩, rfl⟩ rfl (fun hc => ?_) (fun hc => ?_)
      · have h := h.1 hc
        refine w_iload (q := 74) hm181 ⟨⟨_, _, rfl⟩, rfl⟩ rfl ?_
        refine w_iload (q := 76) hm181 ⟨⟨_, _, rfl⟩, rfl⟩ rfl ?_
        refine w_icmp_ge (q := 79) (X := r1.toInt) (Y := r2.toInt) hm181 ⟨⟨_, _, rfl⟩, rfl⟩ rfl rfl (fun hc => ?_) (fun hc => ?_)
        · have h := h.1 hc
          refine w_iinc (q := 90) (l' := [oR 11, oI x1, oR 55, oI x3, oI (x4 + (3 : Int32)), oI r1, oI r2]) hm181 ⟨⟨_, _, rfl⟩, rfl⟩ rfl rfl rfl iconst_3 rfl ?_
          refine w_goto (q := 17) hm181 ⟨_, _, rfl⟩ ?_
          exact Wp.wk [true, true, true, true, true, false, false] h
        · have h := h.2 hc
          refine w_iload (q := 81) hm181 ⟨⟨_, _, rfl⟩, rfl⟩ rfl ?_
          refine w_iconst (q := 82) hm181 ⟨⟨_, _, rfl⟩, rfl⟩ iconst_2 ?_
          refine w_iadd (q := 83) hm181 ⟨⟨_, _, rfl⟩, rfl⟩ ?_
          refine w_istore_n (q := 84) (l' := [oR 11, oI x1, oR 55, oI (x4 + (2 : Int32)), oI x4, oI r1, oI r2]) hm181 ⟨⟨_, _, rfl⟩, rfl⟩ rfl rfl rfl ?_
          refine w_goto (q := 93) hm181 ⟨_, _, rfl⟩ ?_
          exact Wp.wk [true, true, true, true, false, false, false] h
      · have h := h.2 hc
        refine w_iconst (q := 71) hm181 ⟨⟨_, _, rfl⟩, rfl⟩ iconst_0 ?_
        exact w_reti hm181 ⟨⟨_, _, rfl⟩, rfl⟩ rfl h
    · have h := h.2 hc
      refine w_iconst (q := 48) hm181 ⟨⟨_, _, rfl⟩, rfl⟩ iconst_0 ?_
      refine w_goto (q := 61) hm181 ⟨_, _, rfl⟩ ?_
      refine w_istore (q := 63) (l' := [oR 11, oI x1, oR 55, oI x3, oI x4, oI r1, oI (0 : Int32)]) hm181 ⟨⟨_, _, rfl⟩, rfl⟩ rfl rfl rfl ?_
      refine w_aload_n (q := 64) hm181 ⟨⟨_, _, rfl⟩, rfl⟩ rfl ?_
      refine w_getf (q := 67) (v := (m1.1 11 5)) hm181 ⟨⟨_, _, rfl⟩, rfl⟩ rfl rfl ?_
      refine w_if_eq (q := 70) (X := (m1.1 11 5).toInt) hm181 ⟨⟨_, _, rfl⟩, rfl⟩ rfl (fun hc => ?_) (fun hc => ?_)
      · have h := h.1 hc
        refine w_iload (q := 74) hm181 ⟨⟨_, _, rfl⟩, rfl⟩ rfl ?_
        refine w_iload (q := 76) hm181 ⟨⟨_, _, rfl⟩, rfl⟩ rfl ?_
        refine w_icmp_ge (q := 79) (X := r1.toInt) (Y := 0) hm181 ⟨⟨_, _, rfl⟩, rfl⟩ rfl (by decide) (fun hc => ?_) (fun hc => ?_)
        · have h := h.1 hc
          refine w_iinc (q := 90) (l' := [oR 11, oI x1, oR 55, oI x3, oI (x4 + (3 : Int32)), oI r1, oI (0 : Int32)]) hm181 ⟨⟨_, _, rfl⟩, rfl⟩ rfl rfl rfl iconst_3 rfl ?_
          refine w_goto (q := 17) hm181 ⟨_, _, rfl⟩ ?_
          exact Wp.wk [true, true, true, true, true, false, false] h
        · have h := h.2 hc
          refine w_iload (q := 81) hm181 ⟨⟨_, _, rfl⟩, rfl⟩ rfl ?_
          refine w_iconst (q := 82) hm181 ⟨⟨_, _, rfl⟩, rfl⟩ iconst_2 ?_
          refine w_iadd (q := 83) hm181 ⟨⟨_, _, rfl⟩, rfl⟩ ?_
          refine w_istore_n (q := 84) (l' := [oR 11, oI x1, oR 55, oI (x4 + (2 : Int32)), oI x4, oI r1, oI (0 : Int32)]) hm181 ⟨⟨_, _, rfl⟩, rfl⟩ rfl rfl rfl ?_
          refine w_goto (q := 93) hm181 ⟨_, _, rfl⟩ ?_
          exact Wp.wk [true, true, true, true, false, false, false] h
      · have h := h.2 hc
        refine w_iconst (q := 71) hm181 ⟨⟨_, _, rfl⟩, rfl⟩ iconst_0 ?_
        exact w_reti hm181 ⟨⟨_, _, rfl⟩, rfl⟩ rfl h
theorem v_X4_tells_11_55_93 {d : Nat} {x1 : Int32} {x3 : Int32} {m : dM} {Q : Int32 → dM → Prop} (h : c_X4_pieceTells_11_55 d x1 x3 m (fun r1 m1 => (((m1.1 11 5).toInt = 0 → Q r1 m1) ∧ ((m1.1 11 5).toInt ≠ 0 → Q (0 : Int32) m1)))) : j_X4_tells_11_55_93 (d + 1) x1 x3 m Q := by
  refine w_aload_n (q := 94) hm181 ⟨⟨_, _, rfl⟩, rfl⟩ rfl ?_
  refine w_iload_n (q := 95) hm181 ⟨⟨_, _, rfl⟩, rfl⟩ rfl ?_
  refine w_iload_n (q := 96) hm181 ⟨⟨_, _, rfl⟩, rfl⟩ rfl ?_
  refine w_aload_n (q := 97) hm181 ⟨⟨_, _, rfl⟩, rfl⟩ rfl ?_
  refine w_call (q := 100) (n := 4) (vs := [.inr (.inr (some 11)), .inl x1, .inl x3, .inr (.inr (some 55))]) (rest := []) (la := [oR 11, oI x1, oI x3, oR 55, none, none, none, none]) hm181 ⟨⟨_, _, rfl⟩, rfl⟩ rfl rfl rfl rfl hm182 rfl rfl (fun _ => ⟨_, _, rfl, rfl⟩) rfl (Wp.mono h ?_)
  rintro _ m1 ⟨r1, rfl, h⟩
  change Wp _ _ 100 _ [.inl r1] _ _
  refine w_istore (q := 102) (l' := [oR 11, oI x1, oR 55, oI x3, oI r1, none, none]) hm181 ⟨⟨_, _, rfl⟩, rfl⟩ rfl rfl rfl ?_
  refine w_aload_n (q := 103) hm181 ⟨⟨_, _, rfl⟩, rfl⟩ rfl ?_
  refine w_getf (q := 106) (v := (m1.1 11 5)) hm181 ⟨⟨_, _, rfl⟩, rfl⟩ rfl rfl ?_
  refine w_if_eq (q := 109) (X := (m1.1 11 5).toInt) hm181 ⟨⟨_, _, rfl⟩, rfl⟩ rfl (fun hc => ?_) (fun hc => ?_)
  · have h := h.1 hc
    refine w_iload (q := 115) hm181 ⟨⟨_, _, rfl⟩, rfl⟩ rfl ?_
    exact w_reti hm181 ⟨⟨_, _, rfl⟩, rfl⟩ rfl h
  · have h := h.2 hc
    refine w_iconst (q := 110) hm181 ⟨⟨_, _, rfl⟩, rfl⟩ iconst_0 ?_
    refine w_goto (q := 115) hm181 ⟨_, _, rfl⟩ ?_
    exact w_reti hm181 ⟨⟨_, _, rfl⟩, rfl⟩ rfl h
theorem v_X0_held {d : Nat} {x0 : Int32} {m : dM} {Q : Int32 → dM → Prop} (h : Q (if (0 : Int32) < (if x0 < (99 : Int32) then x0 else (99 : Int32)) then (if x0 < (99 : Int32) then x0 else (99 : Int32)) else (0 : Int32)) m) : c_X0_held (d + 1) x0 m Q := by
  refine w_iconst (q := 1) hm126 ⟨⟨_, _, rfl⟩, rfl⟩ iconst_0 ?_
  refine w_bipush (q := 3) hm126 ⟨⟨_, _, rfl⟩, rfl⟩ bipush_99 ?_
  refine w_iload_n (q := 4) hm126 ⟨⟨_, _, rfl⟩, rfl⟩ rfl ?_
  refine w_min (q := 7) hm126 ⟨⟨_, _, rfl⟩, rfl⟩ rfl rfl ?_
  refine w_max (q := 10) hm126 ⟨⟨_, _, rfl⟩, rfl⟩ rfl rfl ?_
  exact w_reti hm126 ⟨⟨_, _, rfl⟩, rfl⟩ rfl h
theorem v_X0_quarrelOf_54_47 {d : Nat} {x2 : Int32} {m : dM} {Q : Int32 → dM → Prop} (h : c_X7_hourOfDay_47 d m (fun r1 m1 => c_X7_day_47 d m1 (fun r2 m2 => c_X0_setVars_54 d r1 r2 x2 m2 (fun m3 => ((0 ≤ x2.toInt ∧ x2.toInt < 7) ∧ ((0 ≤ x2.toInt ∧ x2.toInt < 7) ∧ c_X4_tells_11_55 d (1 : Int32) (dSet (dSet m3 55 6 (m3.1 3 x2.toNatClampNeg)) 55 7 (m3.1 50 x2.toNatClampNeg)) (fun r4 m4 => c_X0_held d r4 m4 (fun r5 m5 => Q r5 m5)))))))) : c_X0_quarrelOf_54_47 (d + 1) x2 m Q := by
  refine w_aload_n (q := 1) hm127 ⟨⟨_, _, rfl⟩, rfl⟩ rfl ?_
  refine w_aload_n (q := 2) hm127 ⟨⟨_, _, rfl⟩, rfl⟩ rfl ?_
  refine w_call (q := 5) (n := 0) (vs := [.inr (.inr (some 47))]) (rest := [.inr (.inr (some 54))]) (la := [oR 47]) hm127 ⟨⟨_, _, rfl⟩, rfl⟩ rfl rfl rfl rfl hm212 rfl rfl (fun _ => ⟨_, _, rfl, rfl⟩) rfl (Wp.mono h ?_)
  rintro _ m1 ⟨r1, rfl, h⟩
  change Wp _ _ 5 _ [.inl r1, .inr (.inr (some 54))] _ _
  refine w_aload_n (q := 6) hm127 ⟨⟨_, _, rfl⟩, rfl⟩ rfl ?_
  refine w_call (q := 9) (n := 0) (vs := [.inr (.inr (some 47))]) (rest := [.inl r1, .inr (.inr (some 54))]) (la := [oR 47]) hm127 ⟨⟨_, _, rfl⟩, rfl⟩ rfl rfl rfl rfl hm213 rfl rfl (fun _ => ⟨_, _, rfl, rfl⟩) rfl (Wp.mono h ?_)
  rintro _ m2 ⟨r2, rfl, h⟩
  change Wp _ _ 9 _ [.inl r2, .inl r1, .inr (.inr (some 54))] _ _
  refine w_iload_n (q := 10) hm127 ⟨⟨_, _, rfl⟩, rfl⟩ rfl ?_
  refine w_call (q := 13) (n := 0) (vs := [.inr (.inr (some 54)), .inl r1, .inl r2, .inl x2]) (rest := []) (la := [oR 54, oI r1, oI r2, oI x2]) hm127 ⟨⟨_, _, rfl⟩, rfl⟩ rfl rfl rfl rfl hm125 rfl rfl (fun _ => ⟨_, _, rfl, rfl⟩) rfl (Wp.mono h ?_)
  rintro _ m3 ⟨rfl, h⟩
  change Wp _ _ 13 _ [] _ _
  refine w_aload_n (q := 14) hm127 ⟨⟨_, _, rfl⟩, rfl⟩ rfl ?_
  refine w_getr (q := 17) hm127 ⟨⟨_, _, rfl⟩, rfl⟩ rfl ?_
  refine w_bipush (q := 19) hm127 ⟨⟨_, _, rfl⟩, rfl⟩ bipush_6 ?_
  refine w_aload_n (q := 20) hm127 ⟨⟨_, _, rfl⟩, rfl⟩ rfl ?_
  refine w_getr (q := 23) hm127 ⟨⟨_, _, rfl⟩, rfl⟩ rfl ?_
  refine w_getr (q := 26) hm127 ⟨⟨_, _, rfl⟩, rfl⟩ rfl ?_
  refine w_iload_n (q := 27) hm127 ⟨⟨_, _, rfl⟩, rfl⟩ rfl ?_
  obtain ⟨hi, h⟩ := h
  refine w_iald (q := 28) (v := (m3.1 3 x2.toNatClampNeg)) hm127 ⟨⟨_, _, rfl⟩, rfl⟩ rfl hi rfl rfl ?_
  refine w_iast (q := 29) (j := 6) hm127 ⟨⟨_, _, rfl⟩, rfl⟩ rfl (by decide) (by decide) rfl ?_
  refine w_aload_n (q := 30) hm127 ⟨⟨_, _, rfl⟩, rfl⟩ rfl ?_
  refine w_getr (q := 33) hm127 ⟨⟨_, _, rfl⟩, rfl⟩ rfl ?_
  refine w_bipush (q := 35) hm127 ⟨⟨_, _, rfl⟩, rfl⟩ bipush_7 ?_
  refine w_aload_n (q := 36) hm127 ⟨⟨_, _, rfl⟩, rfl⟩ rfl ?_
  refine w_getr (q := 39) hm127 ⟨⟨_, _, rfl⟩, rfl⟩ rfl ?_
  refine w_iload_n (q := 40) hm127 ⟨⟨_, _, rfl⟩, rfl⟩ rfl ?_
  obtain ⟨hi, h⟩ := h
  refine w_iald (q := 41) (v := (m3.1 50 x2.toNatClampNeg)) hm127 ⟨⟨_, _, rfl⟩, rfl⟩ rfl hi rfl rfl ?_
  refine w_iast (q := 42) (j := 7) hm127 ⟨⟨_, _, rfl⟩, rfl⟩ rfl (by decide) (by decide) rfl ?_
  refine w_aload_n (q := 43) hm127 ⟨⟨_, _, rfl⟩, rfl⟩ rfl ?_
  refine w_getr (q := 46) hm127 ⟨⟨_, _, rfl⟩, rfl⟩ rfl ?_
  refine w_getr (q := 49) hm127 ⟨⟨_, _, rfl⟩, rfl⟩ rfl ?_
  refine w_iconst (q := 50) hm127 ⟨⟨_, _, rfl⟩, rfl⟩ iconst_1 ?_
  refine w_aload_n (q := 51) hm127 ⟨⟨_, _, rfl⟩, rfl⟩ rfl ?_
  refine w_getr (q := 54) hm127 ⟨⟨_, _, rfl⟩, rfl⟩ rfl ?_
  refine w_call (q := 57) (n := 4) (vs := [.inr (.inr (some 11)), .inl (1 : Int32), .inr (.inr (some 55))]) (rest := []) (la := [oR 11, oI (1 : Int32), oR 55, none, none, none, none]) hm127 ⟨⟨_, _, rfl⟩, rfl⟩ rfl rfl rfl rfl hm181 rfl rfl (fun _ => ⟨_, _, rfl, rfl⟩) rfl (Wp.mono h ?_)
  rintro _ m4 ⟨r4, rfl, h⟩
  change Wp _ _ 57 _ [.inl r4] _ _
  refine w_call (q := 60) (n := 0) (vs := [.inl r4]) (rest := []) (la := [oI r4]) hm127 ⟨⟨_, _, rfl⟩, rfl⟩ rfl rfl rfl rfl hm126 rfl rfl (fun hz => absurd hz (by decide)) rfl (Wp.mono h ?_)
  rintro _ m5 ⟨r5, rfl, h⟩
  change Wp _ _ 60 _ [.inl r5] _ _
  exact w_reti hm127 ⟨⟨_, _, rfl⟩, rfl⟩ rfl h
theorem v_X0_usesAt_54_47 {d : Nat} {x2 : Int32} {m : dM} {Q : Int32 → dM → Prop} (h : c_X10_lay_57 d (m.1 47 3) m (fun m1 => j_X0_usesAt_54_47_16 (d + 1) x2 (0 : Int32) (0 : Int32) m1 Q)) : c_X0_usesAt_54_47 (d + 1) x2 m Q := by
  refine w_aload_n (q := 1) hm118 ⟨⟨_, _, rfl⟩, rfl⟩ rfl ?_
  refine w_getr (q := 4) hm118 ⟨⟨_, _, rfl⟩, rfl⟩ rfl ?_
  refine w_aload_n (q := 5) hm118 ⟨⟨_, _, rfl⟩, rfl⟩ rfl ?_
  refine w_getf (q := 8) (v := (m.1 47 3)) hm118 ⟨⟨_, _, rfl⟩, rfl⟩ rfl rfl ?_
  refine w_call (q := 11) (n := 3) (vs := [.inr (.inr (some 57)), .inl (m.1 47 3)]) (rest := []) (la := [oR 57, oI (m.1 47 3), none, none, none]) hm118 ⟨⟨_, _, rfl⟩, rfl⟩ rfl rfl rfl rfl hm239 rfl rfl (fun _ => ⟨_, _, rfl, rfl⟩) rfl (Wp.mono h ?_)
  rintro _ m1 ⟨rfl, h⟩
  change Wp _ _ 11 _ [] _ _
  refine w_iconst (q := 12) hm118 ⟨⟨_, _, rfl⟩, rfl⟩ iconst_0 ?_
  refine w_istore_n (q := 13) (l' := [oR 54, oR 47, oI x2, oI (0 : Int32), none, none]) hm118 ⟨⟨_, _, rfl⟩, rfl⟩ rfl rfl rfl ?_
  refine w_iconst (q := 14) hm118 ⟨⟨_, _, rfl⟩, rfl⟩ iconst_0 ?_
  refine w_istore (q := 16) (l' := [oR 54, oR 47, oI x2, oI (0 : Int32), oI (0 : Int32), none]) hm118 ⟨⟨_, _, rfl⟩, rfl⟩ rfl rfl rfl ?_
  exact h
theorem v_X0_usesAt_54_47_16 {d : Nat} {x2 : Int32} {x3 : Int32} {x4 : Int32} {m : dM} {Q : Int32 → dM → Prop} (h : (((m.1 2 2).toInt ≤ x4.toInt → Q x3 m) ∧ (x4.toInt < (m.1 2 2).toInt → ((0 ≤ x4.toInt ∧ x4.toInt < 8) ∧ ((x2.toInt < (m.1 9 x4.toNatClampNeg).toInt → j_X0_usesAt_54_47_60 (d + 1) x2 x3 x4 m Q) ∧ ((m.1 9 x4.toNatClampNeg).toInt ≤ x2.toInt → ((0 ≤ x4.toInt ∧ x4.toInt < 8) ∧ (((m.1 10 x4.toNatClampNeg).toInt < x2.toInt → j_X0_usesAt_54_47_60 (d + 1) x2 x3 x4 m Q) ∧ (x2.toInt ≤ (m.1 10 x4.toNatClampNeg).toInt → c_X11_has d (m.1 47 5) x4 m (fun r1 m1 => ((r1.toInt = 0 → j_X0_usesAt_54_47_110 (d + 1) x2 x3 x4 m1 Q) ∧ (r1.toInt ≠ 0 → ((0 ≤ x4.toInt ∧ x4.toInt < 8) ∧ c_X11_has d (m1.1 57 5) (m1.1 7 x4.toNatClampNeg) m1 (fun r2 m2 => ((r2.toInt = 0 → j_X0_usesAt_54_47_110 (d + 1) x2 x3 x4 m2 Q) ∧ (r2.toInt ≠ 0 → j_X0_usesAt_54_47_110 (d + 1) x2 (x3 ||| ((1 : Int32) <<< (x4 &&& 31))) x4 m2 Q)))))))))))))))) : j_X0_usesAt_54_47_16 (d + 1) x2 x3 x4 m Q := by
  refine w_iload (q := 18) hm118 ⟨⟨_, _, rfl⟩, rfl⟩ rfl ?_
  refine w_aload_n (q := 19) hm118 ⟨⟨_, _, rfl⟩, rfl⟩ rfl ?_
  refine w_getr (q := 22) hm118 ⟨⟨_, _, rfl⟩, rfl⟩ rfl ?_
  refine w_getf (q := 25) (v := (m.1 2 2)) hm118 ⟨⟨_, _, rfl⟩, rfl⟩ rfl rfl ?_
  refine w_icmp_ge (q := 28) (X := x4.toInt) (Y := (m.1 2 2).toInt) hm118 ⟨⟨_, _, rfl⟩, rfl⟩ rfl rfl (fun hc => ?_) (fun hc => ?_)
  · have h := h.1 hc
    refine w_iload_n (q := 117) hm118 ⟨⟨_, _, rfl⟩, rfl⟩ rfl ?_
    exact w_reti hm118 ⟨⟨_, _, rfl⟩, rfl⟩ rfl h
  · have h := h.2 hc
    refine w_aload_n (q := 29) hm118 ⟨⟨_, _, rfl⟩, rfl⟩ rfl ?_
    refine w_getr (q := 32) hm118 ⟨⟨_, _, rfl⟩, rfl⟩ rfl ?_
    refine w_getr (q := 35) hm118 ⟨⟨_, _, rfl⟩, rfl⟩ rfl ?_
    refine w_iload (q := 37) hm118 ⟨⟨_, _, rfl⟩, rfl⟩ rfl ?_
    obtain ⟨hi, h⟩ := h
    refine w_iald (q := 38) (v := (m.1 9 x4.toNatClampNeg)) hm118 ⟨⟨_, _, rfl⟩, rfl⟩ rfl hi rfl rfl ?_
    refine w_iload_n (q := 39) hm118 ⟨⟨_, _, rfl⟩, rfl⟩ rfl ?_
    refine w_icmp_gt (q := 42) (X := (m.1 9 x4.toNatClampNeg).toInt) (Y := x2.toInt) hm118 ⟨⟨_, _, rfl⟩, rfl⟩ rfl rfl (fun hc => ?_) (fun hc => ?_)
    · have h := h.1 hc
      exact h
    · have h := h.2 hc
      refine w_iload_n (q := 43) hm118 ⟨⟨_, _, rfl⟩, rfl⟩ rfl ?_
      refine w_aload_n (q := 44) hm118 ⟨⟨_, _, rfl⟩, rfl⟩ rfl ?_
      refine w_getr (q := 47) hm118 ⟨⟨_, _, rfl⟩, rfl⟩ rfl ?_
      refine w_getr (q := 50) hm118 ⟨⟨_, _, rfl⟩, rfl⟩ rfl ?_
      refine w_iload (q := 52) hm118 ⟨⟨_, _, rfl⟩, rfl⟩ rfl ?_
      obtain ⟨hi, h⟩ := h
      refine w_iald (q := 53) (v := (m.1 10 x4.toNatClampNeg)) hm118 ⟨⟨_, _, rfl⟩, rfl⟩ rfl hi rfl rfl ?_
      refine w_icmp_gt (q := 56) (X := x2.toInt) (Y := (m.1 10 x4.toNatClampNeg).toInt) hm118 ⟨⟨_, _, rfl⟩, rfl⟩ rfl rfl (fun hc => ?_) (fun hc => ?_)
      · have h := h.1 hc
        exact h
      · have h := h.2 hc
        refine w_iconst (q := 57) hm118 ⟨⟨_, _, rfl⟩, rfl⟩ iconst_1 ?_
        refine w_goto (q := 61) hm118 ⟨_, _, rfl⟩ ?_
        refine w_istore (q := 63) (l' := [oR 54, oR 47, oI x2, oI x3, oI x4, oI (1 : Int32)]) hm118 ⟨⟨_, _, rfl⟩, rfl⟩ rfl rfl rfl ?_
        refine w_iload (q := 65) hm118 ⟨⟨_, _, rfl⟩, rfl⟩ rfl ?_
        refine w_if_eq (q := 68) (X := 1) hm118 ⟨⟨_, _, rfl⟩, rfl⟩ (by decide) (fun hc => absurd hc (by decide)) (fun _ => ?_)
        refine w_aload_n (q := 69) hm118 ⟨⟨_, _, rfl⟩, rfl⟩ rfl ?_
        refine w_getf (q := 72) (v := (m.1 47 5)) hm118 ⟨⟨_, _, rfl⟩, rfl⟩ rfl rfl ?_
        refine w_iload (q := 74) hm118 ⟨⟨_, _, rfl⟩, rfl⟩ rfl ?_
        refine w_call (q := 77) (n := 0) (vs := [.inl (m.1 47 5), .inl x4]) (rest := []) (la := [oI (m.1 47 5), oI x4]) hm118 ⟨⟨_, _, rfl⟩, rfl⟩ rfl rfl rfl rfl hm283 rfl rfl (fun hz => absurd hz (by decide)) rfl (Wp.mono h ?_)
        rintro _ m1 ⟨r1, rfl, h⟩
        change Wp _ _ 77 _ [.inl r1] _ _
        refine w_if_eq (q := 80) (X := r1.toInt) hm118 ⟨⟨_, _, rfl⟩, rfl⟩ rfl (fun hc => ?_) (fun hc => ?_)
        · have h := h.1 hc
          exact Wp.wk [true, true, true, true, true, false] h
        · have h := h.2 hc
          refine w_aload_n (q := 81) hm118 ⟨⟨_, _, rfl⟩, rfl⟩ rfl ?_
          refine w_getr (q := 84) hm118 ⟨⟨_, _, rfl⟩, rfl⟩ rfl ?_
          refine w_getf (q := 87) (v := (m1.1 57 5)) hm118 ⟨⟨_, _, rfl⟩, rfl⟩ rfl rfl ?_
          refine w_aload_n (q := 88) hm118 ⟨⟨_, _, rfl⟩, rfl⟩ rfl ?_
          refine w_getr (q := 91) hm118 ⟨⟨_, _, rfl⟩, rfl⟩ rfl ?_
          refine w_getr (q := 94) hm118 ⟨⟨_, _, rfl⟩, rfl⟩ rfl ?_
          refine w_iload (q := 96) hm118 ⟨⟨_, _, rfl⟩, rfl⟩ rfl ?_
          obtain ⟨hi, h⟩ := h
          refine w_iald (q := 97) (v := (m1.1 7 x4.toNatClampNeg)) hm118 ⟨⟨_, _, rfl⟩, rfl⟩ rfl hi rfl rfl ?_
          refine w_call (q := 100) (n := 0) (vs := [.inl (m1.1 57 5), .inl (m1.1 7 x4.toNatClampNeg)]) (rest := []) (la := [oI (m1.1 57 5), oI (m1.1 7 x4.toNatClampNeg)]) hm118 ⟨⟨_, _, rfl⟩, rfl⟩ rfl rfl rfl rfl hm283 rfl rfl (fun hz => absurd hz (by decide)) rfl (Wp.mono h ?_)
          rintro _ m2 ⟨r2, rfl, h⟩
          change Wp _ _ 100 _ [.inl r2] _ _
          refine w_if_eq (q := 103) (X := r2.toInt) hm118 ⟨⟨_, _, rfl⟩, rfl⟩ rfl (fun hc => ?_) (fun hc => ?_)
          · have h := h.1 hc
            exact Wp.wk [true, true, true, true, true, false] h
          · have h := h.2 hc
            refine w_iload_n (q := 104) hm118 ⟨⟨_, _, rfl⟩, rfl⟩ rfl ?_
            refine w_iconst (q := 105) hm118 ⟨⟨_, _, rfl⟩, rfl⟩ iconst_1 ?_
            refine w_iload (q := 107) hm118 ⟨⟨_, _, rfl⟩, rfl⟩ rfl ?_
            refine w_ishl (q := 108) hm118 ⟨⟨_, _, rfl⟩, rfl⟩ ?_
            refine w_ior (q := 109) hm118 ⟨⟨_, _, rfl⟩, rfl⟩ ?_
            refine w_istore_n (q := 110) (l' := [oR 54, oR 47, oI x2, oI (x3 ||| ((1 : Int32) <<< (x4 &&& 31))), oI x4, oI (1 : Int32)]) hm118 ⟨⟨_, _, rfl⟩, rfl⟩ rfl rfl rfl ?_
            exact Wp.wk [true, true, true, true, true, false] h
theorem v_X0_usesAt_54_47_60 {d : Nat} {x2 : Int32} {x3 : Int32} {x4 : Int32} {m : dM} {Q : Int32 → dM → Prop} (h : j_X0_usesAt_54_47_110 (d + 1) x2 x3 x4 m Q) : j_X0_usesAt_54_47_60 (d + 1) x2 x3 x4 m Q := by
  refine w_iconst (q := 61) hm118 ⟨⟨_, _, rfl⟩, rfl⟩ iconst_0 ?_
  refine w_istore (q := 63) (l' := [oR 54, oR 47, oI x2, oI x3, oI x4, oI (0 : Int32)]) hm118 ⟨⟨_, _, rfl⟩, rfl⟩ rfl rfl rfl ?_
  refine w_iload (q := 65) hm118 ⟨⟨_, _, rfl⟩, rfl⟩ rfl ?_
  refine w_if_eq (q := 68) (X := 0) hm118 ⟨⟨_, _, rfl⟩, rfl⟩ (by decide) (fun _ => ?_) (fun hc => absurd hc (by decide))
  exact Wp.wk [true, true, true, true, true, false] h
theorem v_X0_usesAt_54_47_110 {d : Nat} {x2 : Int32} {x3 : Int32} {x4 : Int32} {m : dM} {Q : Int32 → dM → Prop} (h : j_X0_usesAt_54_47_16 (d + 1) x2 x3 (x4 + (1 : Int32)) m Q) : j_X0_usesAt_54_47_110 (d + 1) x2 x3 x4 m Q := by
  refine w_iinc (q := 113) (l' := [oR 54, oR 47, oI x2, oI x3, oI (x4 + (1 : Int32)), none]) hm118 ⟨⟨_, _, rfl⟩, rfl⟩ rfl rfl rfl iconst_1 rfl ?_
  refine w_goto (q := 16) hm118 ⟨_, _, rfl⟩ ?_
  exact h
theorem v_X0_usesNow_54_47 {d : Nat} {m : dM} {Q : Int32 → dM → Prop} (h : c_X7_hourOfDay_47 d m (fun r1 m1 => c_X0_usesAt_54_47 d r1 m1 (fun r2 m2 => Q r2 m2))) : c_X0_usesNow_54_47 (d + 1) m Q := by
  refine w_aload_n (q := 1) hm117 ⟨⟨_, _, rfl⟩, rfl⟩ rfl ?_
  refine w_aload_n (q := 2) hm117 ⟨⟨_, _, rfl⟩, rfl⟩ rfl ?_
  refine w_aload_n (q := 3) hm117 ⟨⟨_, _, rfl⟩, rfl⟩ rfl ?_
  refine w_call (q := 6) (n := 0) (vs := [.inr (.inr (some 47))]) (rest := [.inr (.inr (some 47)), .inr (.inr (some 54))]) (la := [oR 47]) hm117 ⟨⟨_, _, rfl⟩, rfl⟩ rfl rfl rfl rfl hm212 rfl rfl (fun _ => ⟨_, _, rfl, rfl⟩) rfl (Wp.mono h ?_)
  rintro _ m1 ⟨r1, rfl, h⟩
  change Wp _ _ 6 _ [.inl r1, .inr (.inr (some 47)), .inr (.inr (some 54))] _ _
  refine w_call (q := 9) (n := 3) (vs := [.inr (.inr (some 54)), .inr (.inr (some 47)), .inl r1]) (rest := []) (la := [oR 54, oR 47, oI r1, none, none, none]) hm117 ⟨⟨_, _, rfl⟩, rfl⟩ rfl rfl rfl rfl hm118 rfl rfl (fun _ => ⟨_, _, rfl, rfl⟩) rfl (Wp.mono h ?_)
  rintro _ m2 ⟨r2, rfl, h⟩
  change Wp _ _ 9 _ [.inl r2] _ _
  exact w_reti hm117 ⟨⟨_, _, rfl⟩, rfl⟩ rfl h
theorem v_X0_ampsOf_54 {d : Nat} {x1 : Int32} {x2 : Int32} {m : dM} {Q : Int32 → dM → Prop} (h : j_X0_ampsOf_54_5 (d + 1) x1 x2 (0 : Int32) (0 : Int32) m Q) : c_X0_ampsOf_54 (d + 1) x1 x2 m Q := by
  refine w_iconst (q := 1) hm119 ⟨⟨_, _, rfl⟩, rfl⟩ iconst_0 ?_
  refine w_istore_n (q := 2) (l' := [oR 54, oI x1, oI x2, oI (0 : Int32), none]) hm119 ⟨⟨_, _, rfl⟩, rfl⟩ rfl rfl rfl ?_
  refine w_iconst (q := 3) hm119 ⟨⟨_, _, rfl⟩, rfl⟩ iconst_0 ?_
  refine w_istore (q := 5) (l' := [oR 54, oI x1, oI x2, oI (0 : Int32), oI (0 : Int32)]) hm119 ⟨⟨_, _, rfl⟩, rfl⟩ rfl rfl rfl ?_
  exact h
theorem v_X0_ampsOf_54_5 {d : Nat} {x1 : Int32} {x2 : Int32} {x3 : Int32} {x4 : Int32} {m : dM} {Q : Int32 → dM → Prop} (h : (((m.1 2 2).toInt ≤ x4.toInt → Q x3 m) ∧ (x4.toInt < (m.1 2 2).toInt → c_X11_has d x1 x4 m (fun r1 m1 => ((r1.toInt = 0 → j_X0_ampsOf_54_5 (d + 1) x1 x2 (x3 + (0 : Int32)) (x4 + (1 : Int32)) m1 Q) ∧ (r1.toInt ≠ 0 → ((0 ≤ x4.toInt ∧ x4.toInt < 8) ∧ (((m1.1 7 x4.toNatClampNeg).toInt ≠ x2.toInt → j_X0_ampsOf_54_5 (d + 1) x1 x2 (x3 + (0 : Int32)) (x4 + (1 : Int32)) m1 Q) ∧ ((m1.1 7 x4.toNatClampNeg).toInt = x2.toInt → ((0 ≤ x4.toInt ∧ x4.toInt < 8) ∧ j_X0_ampsOf_54_5 (d + 1) x1 x2 (x3 + (m1.1 8 x4.toNatClampNeg)) (x4 + (1 : Int32)) m1 Q)))))))))) : j_X0_ampsOf_54_5 (d + 1) x1 x2 x3 x4 m Q := by
  refine w_iload (q := 7) hm119 ⟨⟨_, _, rfl⟩, rfl⟩ rfl ?_
  refine w_aload_n (q := 8) hm119 ⟨⟨_, _, rfl⟩, rfl⟩ rfl ?_
  refine w_getr (q := 11) hm119 ⟨⟨_, _, rfl⟩, rfl⟩ rfl ?_
  refine w_getf (q := 14) (v := (m.1 2 2)) hm119 ⟨⟨_, _, rfl⟩, rfl⟩ rfl rfl ?_
  refine w_icmp_ge (q := 17) (X := x4.toInt) (Y := (m.1 2 2).toInt) hm119 ⟨⟨_, _, rfl⟩, rfl⟩ rfl rfl (fun hc => ?_) (fun hc => ?_)
  · have h := h.1 hc
    refine w_iload_n (q := 64) hm119 ⟨⟨_, _, rfl⟩, rfl⟩ rfl ?_
    exact w_reti hm119 ⟨⟨_, _, rfl⟩, rfl⟩ rfl h
  · have h := h.2 hc
    refine w_iload_n (q := 18) hm119 ⟨⟨_, _, rfl⟩, rfl⟩ rfl ?_
    refine w_iload_n (q := 19) hm119 ⟨⟨_, _, rfl⟩, rfl⟩ rfl ?_
    refine w_iload (q := 21) hm119 ⟨⟨_, _, rfl⟩, rfl⟩ rfl ?_
    refine w_call (q := 24) (n := 0) (vs := [.inl x1, .inl x4]) (rest := [.inl x3]) (la := [oI x1, oI x4]) hm119 ⟨⟨_, _, rfl⟩, rfl⟩ rfl rfl rfl rfl hm283 rfl rfl (fun hz => absurd hz (by decide)) rfl (Wp.mono h ?_)
    rintro _ m1 ⟨r1, rfl, h⟩
    change Wp _ _ 24 _ [.inl r1, .inl x3] _ _
    refine w_if_eq (q := 27) (X := r1.toInt) hm119 ⟨⟨_, _, rfl⟩, rfl⟩ rfl (fun hc => ?_) (fun hc => ?_)
    · have h := h.1 hc
      refine w_iconst (q := 55) hm119 ⟨⟨_, _, rfl⟩, rfl⟩ iconst_0 ?_
      refine w_iadd (q := 56) hm119 ⟨⟨_, _, rfl⟩, rfl⟩ ?_
      refine w_istore_n (q := 57) (l' := [oR 54, oI x1, oI x2, oI (x3 + (0 : Int32)), oI x4]) hm119 ⟨⟨_, _, rfl⟩, rfl⟩ rfl rfl rfl ?_
      refine w_iinc (q := 60) (l' := [oR 54, oI x1, oI x2, oI (x3 + (0 : Int32)), oI (x4 + (1 : Int32))]) hm119 ⟨⟨_, _, rfl⟩, rfl⟩ rfl rfl rfl iconst_1 rfl ?_
      refine w_goto (q := 5) hm119 ⟨_, _, rfl⟩ ?_
      exact h
    · have h := h.2 hc
      refine w_aload_n (q := 28) hm119 ⟨⟨_, _, rfl⟩, rfl⟩ rfl ?_
      refine w_getr (q := 31) hm119 ⟨⟨_, _, rfl⟩, rfl⟩ rfl ?_
      refine w_getr (q := 34) hm119 ⟨⟨_, _, rfl⟩, rfl⟩ rfl ?_
      refine w_iload (q := 36) hm119 ⟨⟨_, _, rfl⟩, rfl⟩ rfl ?_
      obtain ⟨hi, h⟩ := h
      refine w_iald (q := 37) (v := (m1.1 7 x4.toNatClampNeg)) hm119 ⟨⟨_, _, rfl⟩, rfl⟩ rfl hi rfl rfl ?_
      refine w_iload_n (q := 38) hm119 ⟨⟨_, _, rfl⟩, rfl⟩ rfl ?_
      refine w_icmp_ne (q := 41) (X := (m1.1 7 x4.toNatClampNeg).toInt) (Y := x2.toInt) hm119 ⟨⟨_, _, rfl⟩, rfl⟩ rfl rfl (fun hc => ?_) (fun hc => ?_)
      · have h := h.1 hc
        refine w_iconst (q := 55) hm119 ⟨⟨_, _, rfl⟩, rfl⟩ iconst_0 ?_
        refine w_iadd (q := 56) hm119 ⟨⟨_, _, rfl⟩, rfl⟩ ?_
        refine w_istore_n (q := 57) (l' := [oR 54, oI x1, oI x2, oI (x3 + (0 : Int32)), oI x4]) hm119 ⟨⟨_, _, rfl⟩, rfl⟩ rfl rfl rfl ?_
        refine w_iinc (q := 60) (l' := [oR 54, oI x1, oI x2, oI (x3 + (0 : Int32)), oI (x4 + (1 : Int32))]) hm119 ⟨⟨_, _, rfl⟩, rfl⟩ rfl rfl rfl iconst_1 rfl ?_
        refine w_goto (q := 5) hm119 ⟨_, _, rfl⟩ ?_
        exact h
      · have h := h.2 hc
        refine w_aload_n (q := 42) hm119 ⟨⟨_, _, rfl⟩, rfl⟩ rfl ?_
        refine w_getr (q := 45) hm119 ⟨⟨_, _, rfl⟩, rfl⟩ rfl ?_
        refine w_getr (q := 48) hm119 ⟨⟨_, _, rfl⟩, rfl⟩ rfl ?_
        refine w_iload (q := 50) hm119 ⟨⟨_, _, rfl⟩, rfl⟩ rfl ?_
        obtain ⟨hi, h⟩ := h
        refine w_iald (q := 51) (v := (m1.1 8 x4.toNatClampNeg)) hm119 ⟨⟨_, _, rfl⟩, rfl⟩ rfl hi rfl rfl ?_
        refine w_goto (q := 55) hm119 ⟨_, _, rfl⟩ ?_
        refine w_iadd (q := 56) hm119 ⟨⟨_, _, rfl⟩, rfl⟩ ?_
        refine w_istore_n (q := 57) (l' := [oR 54, oI x1, oI x2, oI (x3 + (m1.1 8 x4.toNatClampNeg)), oI x4]) hm119 ⟨⟨_, _, rfl⟩, rfl⟩ rfl rfl rfl ?_
        refine w_iinc (q := 60) (l' := [oR 54, oI x1, oI x2, oI (x3 + (m1.1 8 x4.toNatClampNeg)), oI (x4 + (1 : Int32))]) hm119 ⟨⟨_, _, rfl⟩, rfl⟩ rfl rfl rfl iconst_1 rfl ?_
        refine w_goto (q := 5) hm119 ⟨_, _, rfl⟩ ?_
        exact h
theorem v_X11_flat_0 {d : Nat} {x1 : Int32} {x2 : Int32} {m : dM} {Q : Int32 → dM → Prop} (h : c_X11_isFlat_0 d x1 m (fun r1 m1 => ((r1.toInt ≠ 0 → c_X0_waysNow_54_47 d m1 (fun m2 => ((x2.toInt = 0 → ((0 ≤ x1.toInt ∧ x1.toInt < 7) ∧ Q (m2.1 3 x1.toNatClampNeg) m2)) ∧ (x2.toInt = 1 → c_X11_has d (m2.1 57 5) x1 m2 (fun r3 m3 => ((r3.toInt = 0 → Q (0 : Int32) m3) ∧ (r3.toInt ≠ 0 → Q (1 : Int32) m3)))) ∧ (x2.toInt = 2 → ((0 ≤ x1.toInt ∧ x1.toInt < 7) ∧ Q (m2.1 50 x1.toNatClampNeg) m2)) ∧ (x2.toInt = 3 → c_X11_has d (m2.1 57 5) x1 m2 (fun r4 m4 => ((r4.toInt = 0 → Q (-2 : Int32) m4) ∧ (r4.toInt ≠ 0 → ((0 ≤ x1.toInt ∧ x1.toInt < 7) ∧ Q (m4.1 59 x1.toNatClampNeg) m4))))) ∧ (x2.toInt = 4 → c_X0_quarrelOf_54_47 d x1 m2 (fun r5 m5 => Q r5 m5)) ∧ (x2.toInt = 5 → c_X0_usesNow_54_47 d m2 (fun r6 m6 => c_X0_ampsOf_54 d r6 x1 m6 (fun r7 m7 => Q r7 m7))) ∧ (x2.toInt < 0 ∨ 5 < x2.toInt → Q (-1 : Int32) m2)))) ∧ (r1.toInt = 0 → Q (-1 : Int32) m1)))) : c_X11_flat_0 (d + 1) x1 x2 m Q := by
  refine w_aload_n (q := 1) hm251 ⟨⟨_, _, rfl⟩, rfl⟩ rfl ?_
  refine w_iload_n (q := 2) hm251 ⟨⟨_, _, rfl⟩, rfl⟩ rfl ?_
  refine w_call (q := 5) (n := 0) (vs := [.inr (.inr (some 0)), .inl x1]) (rest := []) (la := [oR 0, oI x1]) hm251 ⟨⟨_, _, rfl⟩, rfl⟩ rfl rfl rfl rfl hm248 rfl rfl (fun _ => ⟨_, _, rfl, rfl⟩) rfl (Wp.mono h ?_)
  rintro _ m1 ⟨r1, rfl, h⟩
  change Wp _ _ 5 _ [.inl r1] _ _
  refine w_if_ne (q := 8) (X := r1.toInt) hm251 ⟨⟨_, _, rfl⟩, rfl⟩ rfl (fun hc => ?_) (fun hc => ?_)
  · have h := h.1 hc
    refine w_aload_n (q := 11) hm251 ⟨⟨_, _, rfl⟩, rfl⟩ rfl ?_
    refine w_getr (q := 14) hm251 ⟨⟨_, _, rfl⟩, rfl⟩ rfl ?_
    refine w_aload_n (q := 15) hm251 ⟨⟨_, _, rfl⟩, rfl⟩ rfl ?_
    refine w_getr (q := 18) hm251 ⟨⟨_, _, rfl⟩, rfl⟩ rfl ?_
    refine w_call (q := 21) (n := 0) (vs := [.inr (.inr (some 54)), .inr (.inr (some 47))]) (rest := []) (la := [oR 54, oR 47]) hm251 ⟨⟨_, _, rfl⟩, rfl⟩ rfl rfl rfl rfl hm116 rfl rfl (fun _ => ⟨_, _, rfl, rfl⟩) rfl (Wp.mono h ?_)
    rintro _ m2 ⟨rfl, h⟩
    change Wp _ _ 21 _ [.inr (.inr (some 57))] _ _
    refine w_astore_n (q := 22) (l' := [oR 0, oI x1, oI x2, oR 57]) hm251 ⟨⟨_, _, rfl⟩, rfl⟩ rfl rfl rfl ?_
    refine w_iload_n (q := 23) hm251 ⟨⟨_, _, rfl⟩, rfl⟩ rfl ?_
    refine w_tsw (X := x2.toInt) hm251 ⟨_, _, rfl⟩ (by decide) (by decide) rfl ((And.intro (fun hc => ?_) (And.intro (fun hc => ?_) (And.intro (fun hc => ?_) (And.intro (fun hc => ?_) (And.intro (fun hc => ?_) (And.intro (fun hc => ?_) trivial))))))) (fun hc => ?_)
    · have h := (h.1) hc
      change Wp _ _ 60 _ _ _ _
      refine w_aload_n (q := 61) hm251 ⟨⟨_, _, rfl⟩, rfl⟩ rfl ?_
      refine w_getr (q := 64) hm251 ⟨⟨_, _, rfl⟩, rfl⟩ rfl ?_
      refine w_getr (q := 67) hm251 ⟨⟨_, _, rfl⟩, rfl⟩ rfl ?_
      refine w_iload_n (q := 68) hm251 ⟨⟨_, _, rfl⟩, rfl⟩ rfl ?_
      obtain ⟨hi, h⟩ := h
      refine w_iald (q := 69) (v := (m2.1 3 x1.toNatClampNeg)) hm251 ⟨⟨_, _, rfl⟩, rfl⟩ rfl hi rfl rfl ?_
      exact w_reti hm251 ⟨⟨_, _, rfl⟩, rfl⟩ rfl h
    · have h := (h.2.1) hc
      change Wp _ _ 70 _ _ _ _
      refine w_aload_n (q := 71) hm251 ⟨⟨_, _, rfl⟩, rfl⟩ rfl ?_
      refine w_getf (q := 74) (v := (m2.1 57 5)) hm251 ⟨⟨_, _, rfl⟩, rfl⟩ rfl rfl ?_
      refine w_iload_n (q := 75) hm251 ⟨⟨_, _, rfl⟩, rfl⟩ rfl ?_
      refine w_call (q := 78) (n := 0) (vs := [.inl (m2.1 57 5), .inl x1]) (rest := []) (la := [oI (m2.1 57 5), oI x1]) hm251 ⟨⟨_, _, rfl⟩, rfl⟩ rfl rfl rfl rfl hm283 rfl rfl (fun hz => absurd hz (by decide)) rfl (Wp.mono h ?_)
      rintro _ m3 ⟨r3, rfl, h⟩
      change Wp _ _ 78 _ [.inl r3] _ _
      refine w_if_eq (q := 81) (X := r3.toInt) hm251 ⟨⟨_, _, rfl⟩, rfl⟩ rfl (fun hc => ?_) (fun hc => ?_)
      · have h := h.1 hc
        refine w_iconst (q := 86) hm251 ⟨⟨_, _, rfl⟩, rfl⟩ iconst_0 ?_
        exact w_reti hm251 ⟨⟨_, _, rfl⟩, rfl⟩ rfl h
      · have h := h.2 hc
        refine w_iconst (q := 82) hm251 ⟨⟨_, _, rfl⟩, rfl⟩ iconst_1 ?_
        refine w_goto (q := 86) hm251 ⟨_, _, rfl⟩ ?_
        exact w_reti hm251 ⟨⟨_, _, rfl⟩, rfl⟩ rfl h
    · have h := (h.2.2.1) hc
      change Wp _ _ 87 _ _ _ _
      refine w_aload_n (q := 88) hm251 ⟨⟨_, _, rfl⟩, rfl⟩ rfl ?_
      refine w_getr (q := 91) hm251 ⟨⟨_, _, rfl⟩, rfl⟩ rfl ?_
      refine w_getr (q := 94) hm251 ⟨⟨_, _, rfl⟩, rfl⟩ rfl ?_
      refine w_iload_n (q := 95) hm251 ⟨⟨_, _, rfl⟩, rfl⟩ rfl ?_
      obtain ⟨hi, h⟩ := h
      refine w_iald (q := 96) (v := (m2.1 50 x1.toNatClampNeg)) hm251 ⟨⟨_, _, rfl⟩, rfl⟩ rfl hi rfl rfl ?_
      exact w_reti hm251 ⟨⟨_, _, rfl⟩, rfl⟩ rfl h
    · have h := (h.2.2.2.1) hc
      change Wp _ _ 97 _ _ _ _
      refine w_aload_n (q := 98) hm251 ⟨⟨_, _, rfl⟩, rfl⟩ rfl ?_
      refine w_getf (q := 101) (v := (m2.1 57 5)) hm251 ⟨⟨_, _, rfl⟩, rfl⟩ rfl rfl ?_
      refine w_iload_n (q := 102) hm251 ⟨⟨_, _, rfl⟩, rfl⟩ rfl ?_
      refine w_call (q := 105) (n := 0) (vs := [.inl (m2.1 57 5), .inl x1]) (rest := []) (la := [oI (m2.1 57 5), oI x1]) hm251 ⟨⟨_, _, rfl⟩, rfl⟩ rfl rfl rfl rfl hm283 rfl rfl (fun hz => absurd hz (by decide)) rfl (Wp.mono h ?_)
      rintro _ m4 ⟨r4, rfl, h⟩
      change Wp _ _ 105 _ [.inl r4] _ _
      refine w_if_eq (q := 108) (X := r4.toInt) hm251 ⟨⟨_, _, rfl⟩, rfl⟩ rfl (fun hc => ?_) (fun hc => ?_)
      · have h := h.1 hc
        refine w_bipush (q := 119) hm251 ⟨⟨_, _, rfl⟩, rfl⟩ bipush_m2 ?_
        exact w_reti hm251 ⟨⟨_, _, rfl⟩, rfl⟩ rfl h
      · have h := h.2 hc
        refine w_aload_n (q := 109) hm251 ⟨⟨_, _, rfl⟩, rfl⟩ rfl ?_
        refine w_getr (q := 112) hm251 ⟨⟨_, _, rfl⟩, rfl⟩ rfl ?_
        refine w_iload_n (q := 113) hm251 ⟨⟨_, _, rfl⟩, rfl⟩ rfl ?_
        obtain ⟨hi, h⟩ := h
        refine w_iald (q := 114) (v := (m4.1 59 x1.toNatClampNeg)) hm251 ⟨⟨_, _, rfl⟩, rfl⟩ rfl hi rfl rfl ?_
        refine w_goto (q := 119) hm251 ⟨_, _, rfl⟩ ?_
        exact w_reti hm251 ⟨⟨_, _, rfl⟩, rfl⟩ rfl h
    · have h := (h.2.2.2.2.1) hc
      change Wp _ _ 120 _ _ _ _
      refine w_aload_n (q := 121) hm251 ⟨⟨_, _, rfl⟩, rfl⟩ rfl ?_
      refine w_getr (q := 124) hm251 ⟨⟨_, _, rfl⟩, rfl⟩ rfl ?_
      refine w_aload_n (q := 125) hm251 ⟨⟨_, _, rfl⟩, rfl⟩ rfl ?_
      refine w_getr (q := 128) hm251 ⟨⟨_, _, rfl⟩, rfl⟩ rfl ?_
      refine w_iload_n (q := 129) hm251 ⟨⟨_, _, rfl⟩, rfl⟩ rfl ?_
      refine w_call (q := 132) (n := 0) (vs := [.inr (.inr (some 54)), .inr (.inr (some 47)), .inl x1]) (rest := []) (la := [oR 54, oR 47, oI x1]) hm251 ⟨⟨_, _, rfl⟩, rfl⟩ rfl rfl rfl rfl hm127 rfl rfl (fun _ => ⟨_, _, rfl, rfl⟩) rfl (Wp.mono h ?_)
      rintro _ m5 ⟨r5, rfl, h⟩
      change Wp _ _ 132 _ [.inl r5] _ _
      exact w_reti hm251 ⟨⟨_, _, rfl⟩, rfl⟩ rfl h
    · have h := (h.2.2.2.2.2.1) hc
      change Wp _ _ 133 _ _ _ _
      refine w_aload_n (q := 134) hm251 ⟨⟨_, _, rfl⟩, rfl⟩ rfl ?_
      refine w_getr (q := 137) hm251 ⟨⟨_, _, rfl⟩, rfl⟩ rfl ?_
      refine w_aload_n (q := 138) hm251 ⟨⟨_, _, rfl⟩, rfl⟩ rfl ?_
      refine w_getr (q := 141) hm251 ⟨⟨_, _, rfl⟩, rfl⟩ rfl ?_
      refine w_aload_n (q := 142) hm251 ⟨⟨_, _, rfl⟩, rfl⟩ rfl ?_
      refine w_getr (q := 145) hm251 ⟨⟨_, _, rfl⟩, rfl⟩ rfl ?_
      refine w_call (q := 148) (n := 0) (vs := [.inr (.inr (some 54)), .inr (.inr (some 47))]) (rest := [.inr (.inr (some 54))]) (la := [oR 54, oR 47]) hm251 ⟨⟨_, _, rfl⟩, rfl⟩ rfl rfl rfl rfl hm117 rfl rfl (fun _ => ⟨_, _, rfl, rfl⟩) rfl (Wp.mono h ?_)
      rintro _ m6 ⟨r6, rfl, h⟩
      change Wp _ _ 148 _ [.inl r6, .inr (.inr (some 54))] _ _
      refine w_iload_n (q := 149) hm251 ⟨⟨_, _, rfl⟩, rfl⟩ rfl ?_
      refine w_call (q := 152) (n := 2) (vs := [.inr (.inr (some 54)), .inl r6, .inl x1]) (rest := []) (la := [oR 54, oI r6, oI x1, none, none]) hm251 ⟨⟨_, _, rfl⟩, rfl⟩ rfl rfl rfl rfl hm119 rfl rfl (fun _ => ⟨_, _, rfl, rfl⟩) rfl (Wp.mono h ?_)
      rintro _ m7 ⟨r7, rfl, h⟩
      change Wp _ _ 152 _ [.inl r7] _ _
      exact w_reti hm251 ⟨⟨_, _, rfl⟩, rfl⟩ rfl h
    · have h := (h.2.2.2.2.2.2) hc
      change Wp _ _ 153 _ _ _ _
      refine w_iconst (q := 154) hm251 ⟨⟨_, _, rfl⟩, rfl⟩ iconst_m1 ?_
      exact w_reti hm251 ⟨⟨_, _, rfl⟩, rfl⟩ rfl h
  · have h := h.2 hc
    refine w_iconst (q := 9) hm251 ⟨⟨_, _, rfl⟩, rfl⟩ iconst_m1 ?_
    exact w_reti hm251 ⟨⟨_, _, rfl⟩, rfl⟩ rfl h
theorem v_X12_in {d : Nat} {x0 : Int32} {x1 : Int32} {x2 : Int32} {m : dM} {Q : Int32 → dM → Prop} (h : ((x0.toInt < x1.toInt → j_X12_in_14 (d + 1) m Q) ∧ (x1.toInt ≤ x0.toInt → ((x2.toInt < x0.toInt → j_X12_in_14 (d + 1) m Q) ∧ (x0.toInt ≤ x2.toInt → Q (1 : Int32) m))))) : c_X12_in (d + 1) x0 x1 x2 m Q := by
  refine w_iload_n (q := 1) hm36 ⟨⟨_, _, rfl⟩, rfl⟩ rfl ?_
  refine w_iload_n (q := 2) hm36 ⟨⟨_, _, rfl⟩, rfl⟩ rfl ?_
  refine w_icmp_lt (q := 5) (X := x0.toInt) (Y := x1.toInt) hm36 ⟨⟨_, _, rfl⟩, rfl⟩ rfl rfl (fun hc => ?_) (fun hc => ?_)
  · have h := h.1 hc
    exact Wp.wk [false, false, false] h
  · have h := h.2 hc
    refine w_iload_n (q := 6) hm36 ⟨⟨_, _, rfl⟩, rfl⟩ rfl ?_
    refine w_iload_n (q := 7) hm36 ⟨⟨_, _, rfl⟩, rfl⟩ rfl ?_
    refine w_icmp_gt (q := 10) (X := x0.toInt) (Y := x2.toInt) hm36 ⟨⟨_, _, rfl⟩, rfl⟩ rfl rfl (fun hc => ?_) (fun hc => ?_)
    · have h := h.1 hc
      exact Wp.wk [false, false, false] h
    · have h := h.2 hc
      refine w_iconst (q := 11) hm36 ⟨⟨_, _, rfl⟩, rfl⟩ iconst_1 ?_
      refine w_goto (q := 15) hm36 ⟨_, _, rfl⟩ ?_
      exact w_retz hm36 ⟨⟨_, _, rfl⟩, rfl⟩ rfl (by decide) h
theorem v_X12_in_14 {d : Nat} {m : dM} {Q : Int32 → dM → Prop} (h : Q (0 : Int32) m) : j_X12_in_14 (d + 1) m Q := by
  refine w_iconst (q := 15) hm36 ⟨⟨_, _, rfl⟩, rfl⟩ iconst_0 ?_
  exact w_retz hm36 ⟨⟨_, _, rfl⟩, rfl⟩ rfl (by decide) h
theorem v_X12_isFlat_70 {d : Nat} {x1 : Int32} {m : dM} {Q : Int32 → dM → Prop} (h : ((0 ≤ (m.1 70 18).toInt ∧ (m.1 70 18).toInt < 2) ∧ c_X12_in d x1 (0 : Int32) ((m.1 80 (m.1 70 18).toNatClampNeg) - (1 : Int32)) m (fun r1 m1 => (r1 = 0 ∨ r1 = 1) ∧ Q r1 m1))) : c_X12_isFlat_70 (d + 1) x1 m Q := by
  refine w_iload_n (q := 1) hm39 ⟨⟨_, _, rfl⟩, rfl⟩ rfl ?_
  refine w_iconst (q := 2) hm39 ⟨⟨_, _, rfl⟩, rfl⟩ iconst_0 ?_
  refine w_aload_n (q := 3) hm39 ⟨⟨_, _, rfl⟩, rfl⟩ rfl ?_
  refine w_getr (q := 6) hm39 ⟨⟨_, _, rfl⟩, rfl⟩ rfl ?_
  refine w_aload_n (q := 7) hm39 ⟨⟨_, _, rfl⟩, rfl⟩ rfl ?_
  refine w_getf (q := 10) (v := (m.1 70 18)) hm39 ⟨⟨_, _, rfl⟩, rfl⟩ rfl rfl ?_
  obtain ⟨hi, h⟩ := h
  refine w_iald (q := 11) (v := (m.1 80 (m.1 70 18).toNatClampNeg)) hm39 ⟨⟨_, _, rfl⟩, rfl⟩ rfl hi rfl rfl ?_
  refine w_iconst (q := 12) hm39 ⟨⟨_, _, rfl⟩, rfl⟩ iconst_1 ?_
  refine w_isub (q := 13) hm39 ⟨⟨_, _, rfl⟩, rfl⟩ ?_
  refine w_call (q := 16) (n := 0) (vs := [.inl x1, .inl (0 : Int32), .inl ((m.1 80 (m.1 70 18).toNatClampNeg) - (1 : Int32))]) (rest := []) (la := [oI x1, oI (0 : Int32), oI ((m.1 80 (m.1 70 18).toNatClampNeg) - (1 : Int32))]) hm39 ⟨⟨_, _, rfl⟩, rfl⟩ rfl rfl rfl rfl hm36 rfl rfl (fun hz => absurd hz (by decide)) rfl (Wp.mono h ?_)
  rintro _ m1 ⟨r1, rfl, h⟩
  change Wp _ _ 16 _ [.inl r1] _ _
  exact w_retz hm39 ⟨⟨_, _, rfl⟩, rfl⟩ rfl h.1 h.2
theorem v_X12_isWire_70 {d : Nat} {x1 : Int32} {m : dM} {Q : Int32 → dM → Prop} (h : ((0 ≤ (m.1 70 18).toInt ∧ (m.1 70 18).toInt < 2) ∧ c_X12_in d x1 (0 : Int32) ((m.1 82 (m.1 70 18).toNatClampNeg) - (1 : Int32)) m (fun r1 m1 => (r1 = 0 ∨ r1 = 1) ∧ Q r1 m1))) : c_X12_isWire_70 (d + 1) x1 m Q := by
  refine w_iload_n (q := 1) hm40 ⟨⟨_, _, rfl⟩, rfl⟩ rfl ?_
  refine w_iconst (q := 2) hm40 ⟨⟨_, _, rfl⟩, rfl⟩ iconst_0 ?_
  refine w_aload_n (q := 3) hm40 ⟨⟨_, _, rfl⟩, rfl⟩ rfl ?_
  refine w_getr (q := 6) hm40 ⟨⟨_, _, rfl⟩, rfl⟩ rfl ?_
  refine w_aload_n (q := 7) hm40 ⟨⟨_, _, rfl⟩, rfl⟩ rfl ?_
  refine w_getf (q := 10) (v := (m.1 70 18)) hm40 ⟨⟨_, _, rfl⟩, rfl⟩ rfl rfl ?_
  obtain ⟨hi, h⟩ := h
  refine w_iald (q := 11) (v := (m.1 82 (m.1 70 18).toNatClampNeg)) hm40 ⟨⟨_, _, rfl⟩, rfl⟩ rfl hi rfl rfl ?_
  refine w_iconst (q := 12) hm40 ⟨⟨_, _, rfl⟩, rfl⟩ iconst_1 ?_
  refine w_isub (q := 13) hm40 ⟨⟨_, _, rfl⟩, rfl⟩ ?_
  refine w_call (q := 16) (n := 0) (vs := [.inl x1, .inl (0 : Int32), .inl ((m.1 82 (m.1 70 18).toNatClampNeg) - (1 : Int32))]) (rest := []) (la := [oI x1, oI (0 : Int32), oI ((m.1 82 (m.1 70 18).toNatClampNeg) - (1 : Int32))]) hm40 ⟨⟨_, _, rfl⟩, rfl⟩ rfl rfl rfl rfl hm36 rfl rfl (fun hz => absurd hz (by decide)) rfl (Wp.mono h ?_)
  rintro _ m1 ⟨r1, rfl, h⟩
  change Wp _ _ 16 _ [.inl r1] _ _
  exact w_retz hm40 ⟨⟨_, _, rfl⟩, rfl⟩ rfl h.1 h.2
theorem v_X12_isWhole_70 {d : Nat} {x1 : Int32} {m : dM} {Q : Int32 → dM → Prop} (h : c_X12_isWire_70 d x1 m (fun r1 m1 => ((r1.toInt = 0 → j_X12_isWhole_70_24 (d + 1) m1 Q) ∧ (r1.toInt ≠ 0 → ((0 ≤ ((10 : Int32) + x1).toInt ∧ ((10 : Int32) + x1).toInt < 58) ∧ (((m1.1 108 ((10 : Int32) + x1).toNatClampNeg).toInt ≠ 0 → j_X12_isWhole_70_24 (d + 1) m1 Q) ∧ ((m1.1 108 ((10 : Int32) + x1).toNatClampNeg).toInt = 0 → Q (1 : Int32) m1))))))) : c_X12_isWhole_70 (d + 1) x1 m Q := by
  refine w_aload_n (q := 1) hm47 ⟨⟨_, _, rfl⟩, rfl⟩ rfl ?_
  refine w_iload_n (q := 2) hm47 ⟨⟨_, _, rfl⟩, rfl⟩ rfl ?_
  refine w_call (q := 5) (n := 0) (vs := [.inr (.inr (some 70)), .inl x1]) (rest := []) (la := [oR 70, oI x1]) hm47 ⟨⟨_, _, rfl⟩, rfl⟩ rfl rfl rfl rfl hm40 rfl rfl (fun _ => ⟨_, _, rfl, rfl⟩) rfl (Wp.mono h ?_)
  rintro _ m1 ⟨r1, rfl, h⟩
  change Wp _ _ 5 _ [.inl r1] _ _
  refine w_if_eq (q := 8) (X := r1.toInt) hm47 ⟨⟨_, _, rfl⟩, rfl⟩ rfl (fun hc => ?_) (fun hc => ?_)
  · have h := h.1 hc
    exact Wp.wk [false, false] h
  · have h := h.2 hc
    refine w_aload_n (q := 9) hm47 ⟨⟨_, _, rfl⟩, rfl⟩ rfl ?_
    refine w_getr (q := 12) hm47 ⟨⟨_, _, rfl⟩, rfl⟩ rfl ?_
    refine w_bipush (q := 14) hm47 ⟨⟨_, _, rfl⟩, rfl⟩ bipush_10 ?_
    refine w_iload_n (q := 15) hm47 ⟨⟨_, _, rfl⟩, rfl⟩ rfl ?_
    refine w_iadd (q := 16) hm47 ⟨⟨_, _, rfl⟩, rfl⟩ ?_
    obtain ⟨hi, h⟩ := h
    refine w_iald (q := 17) (v := (m1.1 108 ((10 : Int32) + x1).toNatClampNeg)) hm47 ⟨⟨_, _, rfl⟩, rfl⟩ rfl hi rfl rfl ?_
    refine w_if_ne (q := 20) (X := (m1.1 108 ((10 : Int32) + x1).toNatClampNeg).toInt) hm47 ⟨⟨_, _, rfl⟩, rfl⟩ rfl (fun hc => ?_) (fun hc => ?_)
    · have h := h.1 hc
      exact Wp.wk [false, false] h
    · have h := h.2 hc
      refine w_iconst (q := 21) hm47 ⟨⟨_, _, rfl⟩, rfl⟩ iconst_1 ?_
      refine w_goto (q := 25) hm47 ⟨_, _, rfl⟩ ?_
      exact w_retz hm47 ⟨⟨_, _, rfl⟩, rfl⟩ rfl (by decide) h
theorem v_X12_isWhole_70_24 {d : Nat} {m : dM} {Q : Int32 → dM → Prop} (h : Q (0 : Int32) m) : j_X12_isWhole_70_24 (d + 1) m Q := by
  refine w_iconst (q := 25) hm47 ⟨⟨_, _, rfl⟩, rfl⟩ iconst_0 ?_
  exact w_retz hm47 ⟨⟨_, _, rfl⟩, rfl⟩ rfl (by decide) h
theorem v_X12_otherEnd_70 {d : Nat} {x1 : Int32} {x2 : Int32} {m : dM} {Q : Int32 → dM → Prop} (h : ((0 ≤ (((10 : Int32) * (m.1 70 18)) + x1).toInt ∧ (((10 : Int32) * (m.1 70 18)) + x1).toInt < 20) ∧ (((m.1 83 (((10 : Int32) * (m.1 70 18)) + x1).toNatClampNeg).toInt ≠ x2.toInt → ((0 ≤ (((10 : Int32) * (m.1 70 18)) + x1).toInt ∧ (((10 : Int32) * (m.1 70 18)) + x1).toInt < 20) ∧ (((m.1 84 (((10 : Int32) * (m.1 70 18)) + x1).toNatClampNeg).toInt ≠ x2.toInt → Q (-1 : Int32) m) ∧ ((m.1 84 (((10 : Int32) * (m.1 70 18)) + x1).toNatClampNeg).toInt = x2.toInt → ((0 ≤ (((10 : Int32) * (m.1 70 18)) + x1).toInt ∧ (((10 : Int32) * (m.1 70 18)) + x1).toInt < 20) ∧ Q (m.1 83 (((10 : Int32) * (m.1 70 18)) + x1).toNatClampNeg) m))))) ∧ ((m.1 83 (((10 : Int32) * (m.1 70 18)) + x1).toNatClampNeg).toInt = x2.toInt → ((0 ≤ (((10 : Int32) * (m.1 70 18)) + x1).toInt ∧ (((10 : Int32) * (m.1 70 18)) + x1).toInt < 20) ∧ Q (m.1 84 (((10 : Int32) * (m.1 70 18)) + x1).toNatClampNeg) m))))) : c_X12_otherEnd_70 (d + 1) x1 x2 m Q := by
  refine w_bipush (q := 2) hm48 ⟨⟨_, _, rfl⟩, rfl⟩ bipush_10 ?_
  refine w_aload_n (q := 3) hm48 ⟨⟨_, _, rfl⟩, rfl⟩ rfl ?_
  refine w_getf (q := 6) (v := (m.1 70 18)) hm48 ⟨⟨_, _, rfl⟩, rfl⟩ rfl rfl ?_
  refine w_imul (q := 7) hm48 ⟨⟨_, _, rfl⟩, rfl⟩ ?_
  refine w_iload_n (q := 8) hm48 ⟨⟨_, _, rfl⟩, rfl⟩ rfl ?_
  refine w_iadd (q := 9) hm48 ⟨⟨_, _, rfl⟩, rfl⟩ ?_
  refine w_istore_n (q := 10) (l' := [oR 70, oI x1, oI x2, oI (((10 : Int32) * (m.1 70 18)) + x1)]) hm48 ⟨⟨_, _, rfl⟩, rfl⟩ rfl rfl rfl ?_
  refine w_aload_n (q := 11) hm48 ⟨⟨_, _, rfl⟩, rfl⟩ rfl ?_
  refine w_getr (q := 14) hm48 ⟨⟨_, _, rfl⟩, rfl⟩ rfl ?_
  refine w_iload_n (q := 15) hm48 ⟨⟨_, _, rfl⟩, rfl⟩ rfl ?_
  obtain ⟨hi, h⟩ := h
  refine w_iald (q := 16) (v := (m.1 83 (((10 : Int32) * (m.1 70 18)) + x1).toNatClampNeg)) hm48 ⟨⟨_, _, rfl⟩, rfl⟩ rfl hi rfl rfl ?_
  refine w_iload_n (q := 17) hm48 ⟨⟨_, _, rfl⟩, rfl⟩ rfl ?_
  refine w_icmp_ne (q := 20) (X := (m.1 83 (((10 : Int32) * (m.1 70 18)) + x1).toNatClampNeg).toInt) (Y := x2.toInt) hm48 ⟨⟨_, _, rfl⟩, rfl⟩ rfl rfl (fun hc => ?_) (fun hc => ?_)
  · have h := h.1 hc
    refine w_aload_n (q := 30) hm48 ⟨⟨_, _, rfl⟩, rfl⟩ rfl ?_
    refine w_getr (q := 33) hm48 ⟨⟨_, _, rfl⟩, rfl⟩ rfl ?_
    refine w_iload_n (q := 34) hm48 ⟨⟨_, _, rfl⟩, rfl⟩ rfl ?_
    obtain ⟨hi, h⟩ := h
    refine w_iald (q := 35) (v := (m.1 84 (((10 : Int32) * (m.1 70 18)) + x1).toNatClampNeg)) hm48 ⟨⟨_, _, rfl⟩, rfl⟩ rfl hi rfl rfl ?_
    refine w_iload_n (q := 36) hm48 ⟨⟨_, _, rfl⟩, rfl⟩ rfl ?_
    refine w_icmp_ne (q := 39) (X := (m.1 84 (((10 : Int32) * (m.1 70 18)) + x1).toNatClampNeg).toInt) (Y := x2.toInt) hm48 ⟨⟨_, _, rfl⟩, rfl⟩ rfl rfl (fun hc => ?_) (fun hc => ?_)
    · have h := h.1 hc
      refine w_iconst (q := 49) hm48 ⟨⟨_, _, rfl⟩, rfl⟩ iconst_m1 ?_
      exact w_reti hm48 ⟨⟨_, _, rfl⟩, rfl⟩ rfl h
    · have h := h.2 hc
      refine w_aload_n (q := 40) hm48 ⟨⟨_, _, rfl⟩, rfl⟩ rfl ?_
      refine w_getr (q := 43) hm48 ⟨⟨_, _, rfl⟩, rfl⟩ rfl ?_
      refine w_iload_n (q := 44) hm48 ⟨⟨_, _, rfl⟩, rfl⟩ rfl ?_
      obtain ⟨hi, h⟩ := h
      refine w_iald (q := 45) (v := (m.1 83 (((10 : Int32) * (m.1 70 18)) + x1).toNatClampNeg)) hm48 ⟨⟨_, _, rfl⟩, rfl⟩ rfl hi rfl rfl ?_
      refine w_goto (q := 49) hm48 ⟨_, _, rfl⟩ ?_
      exact w_reti hm48 ⟨⟨_, _, rfl⟩, rfl⟩ rfl h
  · have h := h.2 hc
    refine w_aload_n (q := 21) hm48 ⟨⟨_, _, rfl⟩, rfl⟩ rfl ?_
    refine w_getr (q := 24) hm48 ⟨⟨_, _, rfl⟩, rfl⟩ rfl ?_
    refine w_iload_n (q := 25) hm48 ⟨⟨_, _, rfl⟩, rfl⟩ rfl ?_
    obtain ⟨hi, h⟩ := h
    refine w_iald (q := 26) (v := (m.1 84 (((10 : Int32) * (m.1 70 18)) + x1).toNatClampNeg)) hm48 ⟨⟨_, _, rfl⟩, rfl⟩ rfl hi rfl rfl ?_
    refine w_goto (q := 49) hm48 ⟨_, _, rfl⟩ ?_
    exact w_reti hm48 ⟨⟨_, _, rfl⟩, rfl⟩ rfl h
theorem v_X12_wireFrom_70 {d : Nat} {x1 : Int32} {m : dM} {Q : Int32 → dM → Prop} (h : j_X12_wireFrom_70_2 (d + 1) x1 (0 : Int32) m Q) : c_X12_wireFrom_70 (d + 1) x1 m Q := by
  refine w_iconst (q := 1) hm49 ⟨⟨_, _, rfl⟩, rfl⟩ iconst_0 ?_
  refine w_istore_n (q := 2) (l' := [oR 70, oI x1, oI (0 : Int32), none]) hm49 ⟨⟨_, _, rfl⟩, rfl⟩ rfl rfl rfl ?_
  exact h
theorem v_X12_wireFrom_70_2 {d : Nat} {x1 : Int32} {x2 : Int32} {m : dM} {Q : Int32 → dM → Prop} (h : ((0 ≤ (m.1 70 18).toInt ∧ (m.1 70 18).toInt < 2) ∧ (((m.1 82 (m.1 70 18).toNatClampNeg).toInt ≤ x2.toInt → Q (-1 : Int32) m) ∧ (x2.toInt < (m.1 82 (m.1 70 18).toNatClampNeg).toInt → c_X12_isWhole_70 d x2 m (fun r1 m1 => ((r1.toInt ≠ 0 → c_X12_otherEnd_70 d x2 x1 m1 (fun r2 m2 => ((r2.toInt < 0 → j_X12_wireFrom_70_56 (d + 1) x1 x2 m2 Q) ∧ (0 ≤ r2.toInt → ((0 ≤ r2.toInt ∧ r2.toInt < 7) ∧ ((0 ≤ x1.toInt ∧ x1.toInt < 7) ∧ (((m2.1 109 r2.toNatClampNeg).toInt ≠ ((m2.1 109 x1.toNatClampNeg) - (1 : Int32)).toInt → j_X12_wireFrom_70_56 (d + 1) x1 x2 m2 Q) ∧ ((m2.1 109 r2.toNatClampNeg).toInt = ((m2.1 109 x1.toNatClampNeg) - (1 : Int32)).toInt → Q x2 m2)))))))) ∧ (r1.toInt = 0 → j_X12_wireFrom_70_56 (d + 1) x1 x2 m1 Q))))))) : j_X12_wireFrom_70_2 (d + 1) x1 x2 m Q := by
  refine w_iload_n (q := 3) hm49 ⟨⟨_, _, rfl⟩, rfl⟩ rfl ?_
  refine w_aload_n (q := 4) hm49 ⟨⟨_, _, rfl⟩, rfl⟩ rfl ?_
  refine w_getr (q := 7) hm49 ⟨⟨_, _, rfl⟩, rfl⟩ rfl ?_
  refine w_aload_n (q := 8) hm49 ⟨⟨_, _, rfl⟩, rfl⟩ rfl ?_
  refine w_getf (q := 11) (v := (m.1 70 18)) hm49 ⟨⟨_, _, rfl⟩, rfl⟩ rfl rfl ?_
  obtain ⟨hi, h⟩ := h
  refine w_iald (q := 12) (v := (m.1 82 (m.1 70 18).toNatClampNeg)) hm49 ⟨⟨_, _, rfl⟩, rfl⟩ rfl hi rfl rfl ?_
  refine w_icmp_ge (q := 15) (X := x2.toInt) (Y := (m.1 82 (m.1 70 18).toNatClampNeg).toInt) hm49 ⟨⟨_, _, rfl⟩, rfl⟩ rfl rfl (fun hc => ?_) (fun hc => ?_)
  · have h := h.1 hc
    refine w_iconst (q := 63) hm49 ⟨⟨_, _, rfl⟩, rfl⟩ iconst_m1 ?_
    exact w_reti hm49 ⟨⟨_, _, rfl⟩, rfl⟩ rfl h
  · have h := h.2 hc
    refine w_aload_n (q := 16) hm49 ⟨⟨_, _, rfl⟩, rfl⟩ rfl ?_
    refine w_iload_n (q := 17) hm49 ⟨⟨_, _, rfl⟩, rfl⟩ rfl ?_
    refine w_call (q := 20) (n := 0) (vs := [.inr (.inr (some 70)), .inl x2]) (rest := []) (la := [oR 70, oI x2]) hm49 ⟨⟨_, _, rfl⟩, rfl⟩ rfl rfl rfl rfl hm47 rfl rfl (fun _ => ⟨_, _, rfl, rfl⟩) rfl (Wp.mono h ?_)
    rintro _ m1 ⟨r1, rfl, h⟩
    change Wp _ _ 20 _ [.inl r1] _ _
    refine w_if_ne (q := 23) (X := r1.toInt) hm49 ⟨⟨_, _, rfl⟩, rfl⟩ rfl (fun hc => ?_) (fun hc => ?_)
    · have h := h.1 hc
      refine w_aload_n (q := 27) hm49 ⟨⟨_, _, rfl⟩, rfl⟩ rfl ?_
      refine w_iload_n (q := 28) hm49 ⟨⟨_, _, rfl⟩, rfl⟩ rfl ?_
      refine w_iload_n (q := 29) hm49 ⟨⟨_, _, rfl⟩, rfl⟩ rfl ?_
      refine w_call (q := 32) (n := 1) (vs := [.inr (.inr (some 70)), .inl x2, .inl x1]) (rest := []) (la := [oR 70, oI x2, oI x1, none]) hm49 ⟨⟨_, _, rfl⟩, rfl⟩ rfl rfl rfl rfl hm48 rfl rfl (fun _ => ⟨_, _, rfl, rfl⟩) rfl (Wp.mono h ?_)
      rintro _ m2 ⟨r2, rfl, h⟩
      change Wp _ _ 32 _ [.inl r2] _ _
      refine w_istore_n (q := 33) (l' := [oR 70, oI x1, oI x2, oI r2]) hm49 ⟨⟨_, _, rfl⟩, rfl⟩ rfl rfl rfl ?_
      refine w_iload_n (q := 34) hm49 ⟨⟨_, _, rfl⟩, rfl⟩ rfl ?_
      refine w_if_lt (q := 37) (X := r2.toInt) hm49 ⟨⟨_, _, rfl⟩, rfl⟩ rfl (fun hc => ?_) (fun hc => ?_)
      · have h := h.1 hc
        exact Wp.wk [true, true, true, false] h
      · have h := h.2 hc
        refine w_aload_n (q := 38) hm49 ⟨⟨_, _, rfl⟩, rfl⟩ rfl ?_
        refine w_getr (q := 41) hm49 ⟨⟨_, _, rfl⟩, rfl⟩ rfl ?_
        refine w_iload_n (q := 42) hm49 ⟨⟨_, _, rfl⟩, rfl⟩ rfl ?_
        obtain ⟨hi, h⟩ := h
        refine w_iald (q := 43) (v := (m2.1 109 r2.toNatClampNeg)) hm49 ⟨⟨_, _, rfl⟩, rfl⟩ rfl hi rfl rfl ?_
        refine w_aload_n (q := 44) hm49 ⟨⟨_, _, rfl⟩, rfl⟩ rfl ?_
        refine w_getr (q := 47) hm49 ⟨⟨_, _, rfl⟩, rfl⟩ rfl ?_
        refine w_iload_n (q := 48) hm49 ⟨⟨_, _, rfl⟩, rfl⟩ rfl ?_
        obtain ⟨hi, h⟩ := h
        refine w_iald (q := 49) (v := (m2.1 109 x1.toNatClampNeg)) hm49 ⟨⟨_, _, rfl⟩, rfl⟩ rfl hi rfl rfl ?_
        refine w_iconst (q := 50) hm49 ⟨⟨_, _, rfl⟩, rfl⟩ iconst_1 ?_
        refine w_isub (q := 51) hm49 ⟨⟨_, _, rfl⟩, rfl⟩ ?_
        refine w_icmp_ne (q := 54) (X := (m2.1 109 r2.toNatClampNeg).toInt) (Y := ((m2.1 109 x1.toNatClampNeg) - (1 : Int32)).toInt) hm49 ⟨⟨_, _, rfl⟩, rfl⟩ rfl rfl (fun hc => ?_) (fun hc => ?_)
        · have h := h.1 hc
          exact Wp.wk [true, true, true, false] h
        · have h := h.2 hc
          refine w_iload_n (q := 55) hm49 ⟨⟨_, _, rfl⟩, rfl⟩ rfl ?_
          exact w_reti hm49 ⟨⟨_, _, rfl⟩, rfl⟩ rfl h
    · have h := h.2 hc
      refine w_goto (q := 56) hm49 ⟨_, _, rfl⟩ ?_
      exact h
theorem v_X12_wireFrom_70_56 {d : Nat} {x1 : Int32} {x2 : Int32} {m : dM} {Q : Int32 → dM → Prop} (h : j_X12_wireFrom_70_2 (d + 1) x1 (x2 + (1 : Int32)) m Q) : j_X12_wireFrom_70_56 (d + 1) x1 x2 m Q := by
  refine w_iinc (q := 59) (l' := [oR 70, oI x1, oI (x2 + (1 : Int32)), none]) hm49 ⟨⟨_, _, rfl⟩, rfl⟩ rfl rfl rfl iconst_1 rfl ?_
  refine w_goto (q := 2) hm49 ⟨_, _, rfl⟩ ?_
  exact h
theorem v_X12_fillsWays_70 {d : Nat} {m : dM} {Q : dM → Prop} (h : j_X12_fillsWays_70_2 (d + 1) (0 : Int32) m Q) : c_X12_fillsWays_70 (d + 1) m Q := by
  refine w_iconst (q := 1) hm50 ⟨⟨_, _, rfl⟩, rfl⟩ iconst_0 ?_
  refine w_istore_n (q := 2) (l' := [oR 70, oI (0 : Int32), none, none, none]) hm50 ⟨⟨_, _, rfl⟩, rfl⟩ rfl rfl rfl ?_
  exact h
theorem v_X12_fillsWays_70_2 {d : Nat} {x1 : Int32} {m : dM} {Q : dM → Prop} (h : ((7 ≤ x1.toInt → j_X12_fillsWays_70_51 (d + 1) (1 : Int32) m Q) ∧ (x1.toInt < 7 → ((x1.toInt ≠ 0 → ((0 ≤ x1.toInt ∧ x1.toInt < 7) ∧ ((0 ≤ x1.toInt ∧ x1.toInt < 7) ∧ j_X12_fillsWays_70_2 (d + 1) (x1 + (1 : Int32)) (dSet (dSet m 109 x1.toNatClampNeg (99 : Int32)) 110 x1.toNatClampNeg (0 : Int32)) Q))) ∧ (x1.toInt = 0 → ((0 ≤ (m.1 70 18).toInt ∧ (m.1 70 18).toInt < 2) ∧ (((m.1 80 (m.1 70 18).toNatClampNeg).toInt ≤ 0 → ((0 ≤ x1.toInt ∧ x1.toInt < 7) ∧ ((0 ≤ x1.toInt ∧ x1.toInt < 7) ∧ j_X12_fillsWays_70_2 (d + 1) (x1 + (1 : Int32)) (dSet (dSet m 109 x1.toNatClampNeg (99 : Int32)) 110 x1.toNatClampNeg (0 : Int32)) Q))) ∧ (0 < (m.1 80 (m.1 70 18).toNatClampNeg).toInt → ((0 ≤ x1.toInt ∧ x1.toInt < 7) ∧ ((0 ≤ x1.toInt ∧ x1.toInt < 7) ∧ j_X12_fillsWays_70_2 (d + 1) (x1 + (1 : Int32)) (dSet (dSet m 109 x1.toNatClampNeg (0 : Int32)) 110 x1.toNatClampNeg (0 : Int32)) Q)))))))))) : j_X12_fillsWays_70_2 (d + 1) x1 m Q := by
  refine w_iload_n (q := 3) hm50 ⟨⟨_, _, rfl⟩, rfl⟩ rfl ?_
  refine w_bipush (q := 5) hm50 ⟨⟨_, _, rfl⟩, rfl⟩ bipush_7 ?_
  refine w_icmp_ge (q := 8) (X := x1.toInt) (Y := 7) hm50 ⟨⟨_, _, rfl⟩, rfl⟩ rfl (by decide) (fun hc => ?_) (fun hc => ?_)
  · have h := h.1 hc
    refine w_iconst (q := 50) hm50 ⟨⟨_, _, rfl⟩, rfl⟩ iconst_1 ?_
    refine w_istore_n (q := 51) (l' := [oR 70, oI (1 : Int32), none, none, none]) hm50 ⟨⟨_, _, rfl⟩, rfl⟩ rfl rfl rfl ?_
    exact h
  · have h := h.2 hc
    refine w_aload_n (q := 9) hm50 ⟨⟨_, _, rfl⟩, rfl⟩ rfl ?_
    refine w_getr (q := 12) hm50 ⟨⟨_, _, rfl⟩, rfl⟩ rfl ?_
    refine w_iload_n (q := 13) hm50 ⟨⟨_, _, rfl⟩, rfl⟩ rfl ?_
    refine w_iload_n (q := 14) hm50 ⟨⟨_, _, rfl⟩, rfl⟩ rfl ?_
    refine w_if_ne (q := 17) (X := x1.toInt) hm50 ⟨⟨_, _, rfl⟩, rfl⟩ rfl (fun hc => ?_) (fun hc => ?_)
    · have h := h.1 hc
      refine w_bipush (q := 35) hm50 ⟨⟨_, _, rfl⟩, rfl⟩ bipush_99 ?_
      obtain ⟨hi, h⟩ := h
      refine w_iast (q := 36) hm50 ⟨⟨_, _, rfl⟩, rfl⟩ rfl hi rfl rfl ?_
      refine w_aload_n (q := 37) hm50 ⟨⟨_, _, rfl⟩, rfl⟩ rfl ?_
      refine w_getr (q := 40) hm50 ⟨⟨_, _, rfl⟩, rfl⟩ rfl ?_
      refine w_iload_n (q := 41) hm50 ⟨⟨_, _, rfl⟩, rfl⟩ rfl ?_
      refine w_iconst (q := 42) hm50 ⟨⟨_, _, rfl⟩, rfl⟩ iconst_0 ?_
      obtain ⟨hi, h⟩ := h
      refine w_iast (q := 43) hm50 ⟨⟨_, _, rfl⟩, rfl⟩ rfl hi rfl rfl ?_
      refine w_iinc (q := 46) (l' := [oR 70, oI (x1 + (1 : Int32)), none, none, none]) hm50 ⟨⟨_, _, rfl⟩, rfl⟩ rfl rfl rfl iconst_1 rfl ?_
      refine w_goto (q := 2) hm50 ⟨_, _, rfl⟩ ?_
      exact h
    · have h := h.2 hc
      refine w_aload_n (q := 18) hm50 ⟨⟨_, _, rfl⟩, rfl⟩ rfl ?_
      refine w_getr (q := 21) hm50 ⟨⟨_, _, rfl⟩, rfl⟩ rfl ?_
      refine w_aload_n (q := 22) hm50 ⟨⟨_, _, rfl⟩, rfl⟩ rfl ?_
      refine w_getf (q := 25) (v := (m.1 70 18)) hm50 ⟨⟨_, _, rfl⟩, rfl⟩ rfl rfl ?_
      obtain ⟨hi, h⟩ := h
      refine w_iald (q := 26) (v := (m.1 80 (m.1 70 18).toNatClampNeg)) hm50 ⟨⟨_, _, rfl⟩, rfl⟩ rfl hi rfl rfl ?_
      refine w_if_le (q := 29) (X := (m.1 80 (m.1 70 18).toNatClampNeg).toInt) hm50 ⟨⟨_, _, rfl⟩, rfl⟩ rfl (fun hc => ?_) (fun hc => ?_)
      · have h := h.1 hc
        refine w_bipush (q := 35) hm50 ⟨⟨_, _, rfl⟩, rfl⟩ bipush_99 ?_
        obtain ⟨hi, h⟩ := h
        refine w_iast (q := 36) hm50 ⟨⟨_, _, rfl⟩, rfl⟩ rfl hi rfl rfl ?_
        refine w_aload_n (q := 37) hm50 ⟨⟨_, _, rfl⟩, rfl⟩ rfl ?_
        refine w_getr (q := 40) hm50 ⟨⟨_, _, rfl⟩, rfl⟩ rfl ?_
        refine w_iload_n (q := 41) hm50 ⟨⟨_, _, rfl⟩, rfl⟩ rfl ?_
        refine w_iconst (q := 42) hm50 ⟨⟨_, _, rfl⟩, rfl⟩ iconst_0 ?_
        obtain ⟨hi, h⟩ := h
        refine w_iast (q := 43) hm50 ⟨⟨_, _, rfl⟩, rfl⟩ rfl hi rfl rfl ?_
        refine w_iinc (q := 46) (l' := [oR 70, oI (x1 + (1 : Int32)), none, none, none]) hm50 ⟨⟨_, _, rfl⟩, rfl⟩ rfl rfl rfl iconst_1 rfl ?_
        refine w_goto (q := 2) hm50 ⟨_, _, rfl⟩ ?_
        exact h
      · have h := h.2 hc
        refine w_iconst (q := 30) hm50 ⟨⟨_, _, rfl⟩, rfl⟩ iconst_0 ?_
        refine w_goto (q := 35) hm50 ⟨_, _, rfl⟩ ?_
        obtain ⟨hi, h⟩ := h
        refine w_iast (q := 36) hm50 ⟨⟨_, _, rfl⟩, rfl⟩ rfl hi rfl rfl ?_
        refine w_aload_n (q := 37) hm50 ⟨⟨_, _, rfl⟩, rfl⟩ rfl ?_
        refine w_getr (q := 40) hm50 ⟨⟨_, _, rfl⟩, rfl⟩ rfl ?_
        refine w_iload_n (q := 41) hm50 ⟨⟨_, _, rfl⟩, rfl⟩ rfl ?_
        refine w_iconst (q := 42) hm50 ⟨⟨_, _, rfl⟩, rfl⟩ iconst_0 ?_
        obtain ⟨hi, h⟩ := h
        refine w_iast (q := 43) hm50 ⟨⟨_, _, rfl⟩, rfl⟩ rfl hi rfl rfl ?_
        refine w_iinc (q := 46) (l' := [oR 70, oI (x1 + (1 : Int32)), none, none, none]) hm50 ⟨⟨_, _, rfl⟩, rfl⟩ rfl rfl rfl iconst_1 rfl ?_
        refine w_goto (q := 2) hm50 ⟨_, _, rfl⟩ ?_
        exact h
theorem v_X12_fillsWays_70_51 {d : Nat} {x1 : Int32} {m : dM} {Q : dM → Prop} (h : ((7 ≤ x1.toInt → j_X12_fillsWays_70_191 (d + 1) (1 : Int32) m Q) ∧ (x1.toInt < 7 → j_X12_fillsWays_70_59 (d + 1) x1 (0 : Int32) m Q))) : j_X12_fillsWays_70_51 (d + 1) x1 m Q := by
  refine w_iload_n (q := 52) hm50 ⟨⟨_, _, rfl⟩, rfl⟩ rfl ?_
  refine w_bipush (q := 54) hm50 ⟨⟨_, _, rfl⟩, rfl⟩ bipush_7 ?_
  refine w_icmp_ge (q := 57) (X := x1.toInt) (Y := 7) hm50 ⟨⟨_, _, rfl⟩, rfl⟩ rfl (by decide) (fun hc => ?_) (fun hc => ?_)
  · have h := h.1 hc
    refine w_iconst (q := 190) hm50 ⟨⟨_, _, rfl⟩, rfl⟩ iconst_1 ?_
    refine w_istore_n (q := 191) (l' := [oR 70, oI (1 : Int32), none, none, none]) hm50 ⟨⟨_, _, rfl⟩, rfl⟩ rfl rfl rfl ?_
    exact h
  · have h := h.2 hc
    refine w_iconst (q := 58) hm50 ⟨⟨_, _, rfl⟩, rfl⟩ iconst_0 ?_
    refine w_istore_n (q := 59) (l' := [oR 70, oI x1, oI (0 : Int32), none, none]) hm50 ⟨⟨_, _, rfl⟩, rfl⟩ rfl rfl rfl ?_
    exact h
theorem v_X12_fillsWays_70_59 {d : Nat} {x1 : Int32} {x2 : Int32} {m : dM} {Q : dM → Prop} (h : ((0 ≤ (m.1 70 18).toInt ∧ (m.1 70 18).toInt < 2) ∧ (((m.1 82 (m.1 70 18).toNatClampNeg).toInt ≤ x2.toInt → j_X12_fillsWays_70_51 (d + 1) (x1 + (1 : Int32)) m Q) ∧ (x2.toInt < (m.1 82 (m.1 70 18).toNatClampNeg).toInt → c_X12_isWhole_70 d x2 m (fun r1 m1 => ((r1.toInt ≠ 0 → ((0 ≤ (((10 : Int32) * (m1.1 70 18)) + x2).toInt ∧ (((10 : Int32) * (m1.1 70 18)) + x2).toInt < 20) ∧ ((0 ≤ (((10 : Int32) * (m1.1 70 18)) + x2).toInt ∧ (((10 : Int32) * (m1.1 70 18)) + x2).toInt < 20) ∧ ((0 ≤ (m1.1 83 (((10 : Int32) * (m1.1 70 18)) + x2).toNatClampNeg).toInt ∧ (m1.1 83 (((10 : Int32) * (m1.1 70 18)) + x2).toNatClampNeg).toInt < 7) ∧ (((m1.1 109 (m1.1 83 (((10 : Int32) * (m1.1 70 18)) + x2).toNatClampNeg).toNatClampNeg).toInt ≠ (x1 - (1 : Int32)).toInt → j_X12_fillsWays_70_146 (d + 1) x1 x2 (m1.1 83 (((10 : Int32) * (m1.1 70 18)) + x2).toNatClampNeg) (m1.1 84 (((10 : Int32) * (m1.1 70 18)) + x2).toNatClampNeg) m1 Q) ∧ ((m1.1 109 (m1.1 83 (((10 : Int32) * (m1.1 70 18)) + x2).toNatClampNeg).toNatClampNeg).toInt = (x1 - (1 : Int32)).toInt → ((0 ≤ (m1.1 84 (((10 : Int32) * (m1.1 70 18)) + x2).toNatClampNeg).toInt ∧ (m1.1 84 (((10 : Int32) * (m1.1 70 18)) + x2).toNatClampNeg).toInt < 7) ∧ (((m1.1 109 (m1.1 84 (((10 : Int32) * (m1.1 70 18)) + x2).toNatClampNeg).toNatClampNeg).toInt ≠ 99 → j_X12_fillsWays_70_146 (d + 1) x1 x2 (m1.1 83 (((10 : Int32) * (m1.1 70 18)) + x2).toNatClampNeg) (m1.1 84 (((10 : Int32) * (m1.1 70 18)) + x2).toNatClampNeg) m1 Q) ∧ ((m1.1 109 (m1.1 84 (((10 : Int32) * (m1.1 70 18)) + x2).toNatClampNeg).toNatClampNeg).toInt = 99 → ((0 ≤ (m1.1 84 (((10 : Int32) * (m1.1 70 18)) + x2).toNatClampNeg).toInt ∧ (m1.1 84 (((10 : Int32) * (m1.1 70 18)) + x2).toNatClampNeg).toInt < 7) ∧ j_X12_fillsWays_70_146 (d + 1) x1 x2 (m1.1 83 (((10 : Int32) * (m1.1 70 18)) + x2).toNatClampNeg) (m1.1 84 (((10 : Int32) * (m1.1 70 18)) + x2).toNatClampNeg) (dSet m1 109 (m1.1 84 (((10 : Int32) * (m1.1 70 18)) + x2).toNatClampNeg).toNatClampNeg x1) Q)))))))))) ∧ (r1.toInt = 0 → j_X12_fillsWays_70_177 (d + 1) x1 x2 m1 Q))))))) : j_X12_fillsWays_70_59 (d + 1) x1 x2 m Q := by
  refine w_iload_n (q := 60) hm50 ⟨⟨_, _, rfl⟩, rfl⟩ rfl ?_
  refine w_aload_n (q := 61) hm50 ⟨⟨_, _, rfl⟩, rfl⟩ rfl ?_
  refine w_getr (q := 64) hm50 ⟨⟨_, _, rfl⟩, rfl⟩ rfl ?_
  refine w_aload_n (q := 65) hm50 ⟨⟨_, _, rfl⟩, rfl⟩ rfl ?_
  refine w_getf (q := 68) (v := (m.1 70 18)) hm50 ⟨⟨_, _, rfl⟩, rfl⟩ rfl rfl ?_
  obtain ⟨hi, h⟩ := h
  refine w_iald (q := 69) (v := (m.1 82 (m.1 70 18).toNatClampNeg)) hm50 ⟨⟨_, _, rfl⟩, rfl⟩ rfl hi rfl rfl ?_
  refine w_icmp_ge (q := 72) (X := x2.toInt) (Y := (m.1 82 (m.1 70 18).toNatClampNeg).toInt) hm50 ⟨⟨_, _, rfl⟩, rfl⟩ rfl rfl (fun hc => ?_) (fun hc => ?_)
  · have h := h.1 hc
    refine w_iinc (q := 186) (l' := [oR 70, oI (x1 + (1 : Int32)), oI x2, none, none]) hm50 ⟨⟨_, _, rfl⟩, rfl⟩ rfl rfl rfl iconst_1 rfl ?_
    refine w_goto (q := 51) hm50 ⟨_, _, rfl⟩ ?_
    exact Wp.wk [true, true, false, false, false] h
  · have h := h.2 hc
    refine w_aload_n (q := 73) hm50 ⟨⟨_, _, rfl⟩, rfl⟩ rfl ?_
    refine w_iload_n (q := 74) hm50 ⟨⟨_, _, rfl⟩, rfl⟩ rfl ?_
    refine w_call (q := 77) (n := 0) (vs := [.inr (.inr (some 70)), .inl x2]) (rest := []) (la := [oR 70, oI x2]) hm50 ⟨⟨_, _, rfl⟩, rfl⟩ rfl rfl rfl rfl hm47 rfl rfl (fun _ => ⟨_, _, rfl, rfl⟩) rfl (Wp.mono h ?_)
    rintro _ m1 ⟨r1, rfl, h⟩
    change Wp _ _ 77 _ [.inl r1] _ _
    refine w_if_ne (q := 80) (X := r1.toInt) hm50 ⟨⟨_, _, rfl⟩, rfl⟩ rfl (fun hc => ?_) (fun hc => ?_)
    · have h := h.1 hc
      refine w_aload_n (q := 84) hm50 ⟨⟨_, _, rfl⟩, rfl⟩ rfl ?_
      refine w_getr (q := 87) hm50 ⟨⟨_, _, rfl⟩, rfl⟩ rfl ?_
      refine w_bipush (q := 89) hm50 ⟨⟨_, _, rfl⟩, rfl⟩ bipush_10 ?_
      refine w_aload_n (q := 90) hm50 ⟨⟨_, _, rfl⟩, rfl⟩ rfl ?_
      refine w_getf (q := 93) (v := (m1.1 70 18)) hm50 ⟨⟨_, _, rfl⟩, rfl⟩ rfl rfl ?_
      refine w_imul (q := 94) hm50 ⟨⟨_, _, rfl⟩, rfl⟩ ?_
      refine w_iload_n (q := 95) hm50 ⟨⟨_, _, rfl⟩, rfl⟩ rfl ?_
      refine w_iadd (q := 96) hm50 ⟨⟨_, _, rfl⟩, rfl⟩ ?_
      obtain ⟨hi, h⟩ := h
      refine w_iald (q := 97) (v := (m1.1 83 (((10 : Int32) * (m1.1 70 18)) + x2).toNatClampNeg)) hm50 ⟨⟨_, _, rfl⟩, rfl⟩ rfl hi rfl rfl ?_
      refine w_istore_n (q := 98) (l' := [oR 70, oI x1, oI x2, oI (m1.1 83 (((10 : Int32) * (m1.1 70 18)) + x2).toNatClampNeg), none]) hm50 ⟨⟨_, _, rfl⟩, rfl⟩ rfl rfl rfl ?_
      refine w_aload_n (q := 99) hm50 ⟨⟨_, _, rfl⟩, rfl⟩ rfl ?_
      refine w_getr (q := 102) hm50 ⟨⟨_, _, rfl⟩, rfl⟩ rfl ?_
      refine w_bipush (q := 104) hm50 ⟨⟨_, _, rfl⟩, rfl⟩ bipush_10 ?_
      refine w_aload_n (q := 105) hm50 ⟨⟨_, _, rfl⟩, rfl⟩ rfl ?_
      refine w_getf (q := 108) (v := (m1.1 70 18)) hm50 ⟨⟨_, _, rfl⟩, rfl⟩ rfl rfl ?_
      refine w_imul (q := 109) hm50 ⟨⟨_, _, rfl⟩, rfl⟩ ?_
      refine w_iload_n (q := 110) hm50 ⟨⟨_, _, rfl⟩, rfl⟩ rfl ?_
      refine w_iadd (q := 111) hm50 ⟨⟨_, _, rfl⟩, rfl⟩ ?_
      obtain ⟨hi, h⟩ := h
      refine w_iald (q := 112) (v := (m1.1 84 (((10 : Int32) * (m1.1 70 18)) + x2).toNatClampNeg)) hm50 ⟨⟨_, _, rfl⟩, rfl⟩ rfl hi rfl rfl ?_
      refine w_istore (q := 114) (l' := [oR 70, oI x1, oI x2, oI (m1.1 83 (((10 : Int32) * (m1.1 70 18)) + x2).toNatClampNeg), oI (m1.1 84 (((10 : Int32) * (m1.1 70 18)) + x2).toNatClampNeg)]) hm50 ⟨⟨_, _, rfl⟩, rfl⟩ rfl rfl rfl ?_
      refine w_aload_n (q := 115) hm50 ⟨⟨_, _, rfl⟩, rfl⟩ rfl ?_
      refine w_getr (q := 118) hm50 ⟨⟨_, _, rfl⟩, rfl⟩ rfl ?_
      refine w_iload_n (q := 119) hm50 ⟨⟨_, _, rfl⟩, rfl⟩ rfl ?_
      obtain ⟨hi, h⟩ := h
      refine w_iald (q := 120) (v := (m1.1 109 (m1.1 83 (((10 : Int32) * (m1.1 70 18)) + x2).toNatClampNeg).toNatClampNeg)) hm50 ⟨⟨_, _, rfl⟩, rfl⟩ rfl hi rfl rfl ?_
      refine w_iload_n (q := 121) hm50 ⟨⟨_, _, rfl⟩, rfl⟩ rfl ?_
      refine w_iconst (q := 122) hm50 ⟨⟨_, _, rfl⟩, rfl⟩ iconst_1 ?_
      refine w_isub (q := 123) hm50 ⟨⟨_, _, rfl⟩, rfl⟩ ?_
      refine w_icmp_ne (q := 126) (X := (m1.1 109 (m1.1 83 (((10 : Int32) * (m1.1 70 18)) + x2).toNatClampNeg).toNatClampNeg).toInt) (Y := (x1 - (1 : Int32)).toInt) hm50 ⟨⟨_, _, rfl⟩, rfl⟩ rfl rfl (fun hc => ?_) (fun hc => ?_)
      · have h := h.1 hc
        exact h
      · have h := h.2 hc
        refine w_aload_n (q := 127) hm50 ⟨⟨_, _, rfl⟩, rfl⟩ rfl ?_
        refine w_getr (q := 130) hm50 ⟨⟨_, _, rfl⟩, rfl⟩ rfl ?_
        refine w_iload (q := 132) hm50 ⟨⟨_, _, rfl⟩, rfl⟩ rfl ?_
        obtain ⟨hi, h⟩ := h
        refine w_iald (q := 133) (v := (m1.1 109 (m1.1 84 (((10 : Int32) * (m1.1 70 18)) + x2).toNatClampNeg).toNatClampNeg)) hm50 ⟨⟨_, _, rfl⟩, rfl⟩ rfl hi rfl rfl ?_
        refine w_bipush (q := 135) hm50 ⟨⟨_, _, rfl⟩, rfl⟩ bipush_99 ?_
        refine w_icmp_ne (q := 138) (X := (m1.1 109 (m1.1 84 (((10 : Int32) * (m1.1 70 18)) + x2).toNatClampNeg).toNatClampNeg).toInt) (Y := 99) hm50 ⟨⟨_, _, rfl⟩, rfl⟩ rfl (by decide) (fun hc => ?_) (fun hc => ?_)
        · have h := h.1 hc
          exact h
        · have h := h.2 hc
          refine w_aload_n (q := 139) hm50 ⟨⟨_, _, rfl⟩, rfl⟩ rfl ?_
          refine w_getr (q := 142) hm50 ⟨⟨_, _, rfl⟩, rfl⟩ rfl ?_
          refine w_iload (q := 144) hm50 ⟨⟨_, _, rfl⟩, rfl⟩ rfl ?_
          refine w_iload_n (q := 145) hm50 ⟨⟨_, _, rfl⟩, rfl⟩ rfl ?_
          obtain ⟨hi, h⟩ := h
          refine w_iast (q := 146) hm50 ⟨⟨_, _, rfl⟩, rfl⟩ rfl hi rfl rfl ?_
          exact h
    · have h := h.2 hc
      refine w_goto (q := 177) hm50 ⟨_, _, rfl⟩ ?_
      exact h
theorem v_X12_fillsWays_70_146 {d : Nat} {x1 : Int32} {x2 : Int32} {x3 : Int32} {x4 : Int32} {m : dM} {Q : dM → Prop} (h : ((0 ≤ x4.toInt ∧ x4.toInt < 7) ∧ (((m.1 109 x4.toNatClampNeg).toInt ≠ (x1 - (1 : Int32)).toInt → j_X12_fillsWays_70_177 (d + 1) x1 x2 m Q) ∧ ((m.1 109 x4.toNatClampNeg).toInt = (x1 - (1 : Int32)).toInt → ((0 ≤ x3.toInt ∧ x3.toInt < 7) ∧ (((m.1 109 x3.toNatClampNeg).toInt ≠ 99 → j_X12_fillsWays_70_177 (d + 1) x1 x2 m Q) ∧ ((m.1 109 x3.toNatClampNeg).toInt = 99 → ((0 ≤ x3.toInt ∧ x3.toInt < 7) ∧ j_X12_fillsWays_70_177 (d + 1) x1 x2 (dSet m 109 x3.toNatClampNeg x1) Q)))))))) : j_X12_fillsWays_70_146 (d + 1) x1 x2 x3 x4 m Q := by
  refine w_aload_n (q := 147) hm50 ⟨⟨_, _, rfl⟩, rfl⟩ rfl ?_
  refine w_getr (q := 150) hm50 ⟨⟨_, _, rfl⟩, rfl⟩ rfl ?_
  refine w_iload (q := 152) hm50 ⟨⟨_, _, rfl⟩, rfl⟩ rfl ?_
  obtain ⟨hi, h⟩ := h
  refine w_iald (q := 153) (v := (m.1 109 x4.toNatClampNeg)) hm50 ⟨⟨_, _, rfl⟩, rfl⟩ rfl hi rfl rfl ?_
  refine w_iload_n (q := 154) hm50 ⟨⟨_, _, rfl⟩, rfl⟩ rfl ?_
  refine w_iconst (q := 155) hm50 ⟨⟨_, _, rfl⟩, rfl⟩ iconst_1 ?_
  refine w_isub (q := 156) hm50 ⟨⟨_, _, rfl⟩, rfl⟩ ?_
  refine w_icmp_ne (q := 159) (X := (m.1 109 x4.toNatClampNeg).toInt) (Y := (x1 - (1 : Int32)).toInt) hm50 ⟨⟨_, _, rfl⟩, rfl⟩ rfl rfl (fun hc => ?_) (fun hc => ?_)
  · have h := h.1 hc
    exact Wp.wk [true, true, true, false, false] h
  · have h := h.2 hc
    refine w_aload_n (q := 160) hm50 ⟨⟨_, _, rfl⟩, rfl⟩ rfl ?_
    refine w_getr (q := 163) hm50 ⟨⟨_, _, rfl⟩, rfl⟩ rfl ?_
    refine w_iload_n (q := 164) hm50 ⟨⟨_, _, rfl⟩, rfl⟩ rfl ?_
    obtain ⟨hi, h⟩ := h
    refine w_iald (q := 165) (v := (m.1 109 x3.toNatClampNeg)) hm50 ⟨⟨_, _, rfl⟩, rfl⟩ rfl hi rfl rfl ?_
    refine w_bipush (q := 167) hm50 ⟨⟨_, _, rfl⟩, rfl⟩ bipush_99 ?_
    refine w_icmp_ne (q := 170) (X := (m.1 109 x3.toNatClampNeg).toInt) (Y := 99) hm50 ⟨⟨_, _, rfl⟩, rfl⟩ rfl (by decide) (fun hc => ?_) (fun hc => ?_)
    · have h := h.1 hc
      exact Wp.wk [true, true, true, false, false] h
    · have h := h.2 hc
      refine w_aload_n (q := 171) hm50 ⟨⟨_, _, rfl⟩, rfl⟩ rfl ?_
      refine w_getr (q := 174) hm50 ⟨⟨_, _, rfl⟩, rfl⟩ rfl ?_
      refine w_iload_n (q := 175) hm50 ⟨⟨_, _, rfl⟩, rfl⟩ rfl ?_
      refine w_iload_n (q := 176) hm50 ⟨⟨_, _, rfl⟩, rfl⟩ rfl ?_
      obtain ⟨hi, h⟩ := h
      refine w_iast (q := 177) hm50 ⟨⟨_, _, rfl⟩, rfl⟩ rfl hi rfl rfl ?_
      exact Wp.wk [true, true, true, false, false] h
theorem v_X12_fillsWays_70_177 {d : Nat} {x1 : Int32} {x2 : Int32} {m : dM} {Q : dM → Prop} (h : j_X12_fillsWays_70_59 (d + 1) x1 (x2 + (1 : Int32)) m Q) : j_X12_fillsWays_70_177 (d + 1) x1 x2 m Q := by
  refine w_iinc (q := 180) (l' := [oR 70, oI x1, oI (x2 + (1 : Int32)), none, none]) hm50 ⟨⟨_, _, rfl⟩, rfl⟩ rfl rfl rfl iconst_1 rfl ?_
  refine w_goto (q := 59) hm50 ⟨_, _, rfl⟩ ?_
  exact h
theorem v_X12_fillsWays_70_191 {d : Nat} {x1 : Int32} {m : dM} {Q : dM → Prop} (h : ((7 ≤ x1.toInt → Q m) ∧ (x1.toInt < 7 → j_X12_fillsWays_70_199 (d + 1) x1 (0 : Int32) m Q))) : j_X12_fillsWays_70_191 (d + 1) x1 m Q := by
  refine w_iload_n (q := 192) hm50 ⟨⟨_, _, rfl⟩, rfl⟩ rfl ?_
  refine w_bipush (q := 194) hm50 ⟨⟨_, _, rfl⟩, rfl⟩ bipush_7 ?_
  refine w_icmp_ge (q := 197) (X := x1.toInt) (Y := 7) hm50 ⟨⟨_, _, rfl⟩, rfl⟩ rfl (by decide) (fun hc => ?_) (fun hc => ?_)
  · have h := h.1 hc
    exact w_retv hm50 ⟨⟨_, _, rfl⟩, rfl⟩ rfl h
  · have h := h.2 hc
    refine w_iconst (q := 198) hm50 ⟨⟨_, _, rfl⟩, rfl⟩ iconst_0 ?_
    refine w_istore_n (q := 199) (l' := [oR 70, oI x1, oI (0 : Int32), none, none]) hm50 ⟨⟨_, _, rfl⟩, rfl⟩ rfl rfl rfl ?_
    exact h
theorem v_X12_fillsWays_70_199 {d : Nat} {x1 : Int32} {x2 : Int32} {m : dM} {Q : dM → Prop} (h : ((7 ≤ x2.toInt → j_X12_fillsWays_70_191 (d + 1) (x1 + (1 : Int32)) m Q) ∧ (x2.toInt < 7 → ((0 ≤ x2.toInt ∧ x2.toInt < 7) ∧ (((m.1 109 x2.toNatClampNeg).toInt = x1.toInt → c_X12_wireFrom_70 d x2 m (fun r1 m1 => c_X12_otherEnd_70 d r1 x2 m1 (fun r2 m2 => ((0 ≤ r2.toInt ∧ r2.toInt < 7) ∧ ((0 ≤ x2.toInt ∧ x2.toInt < 7) ∧ j_X12_fillsWays_70_245 (d + 1) x1 x2 (dSet m2 110 x2.toNatClampNeg (((1 : Int32) <<< (r1 &&& 31)) ||| (m2.1 110 r2.toNatClampNeg))) Q))))) ∧ ((m.1 109 x2.toNatClampNeg).toInt ≠ x1.toInt → j_X12_fillsWays_70_245 (d + 1) x1 x2 m Q)))))) : j_X12_fillsWays_70_199 (d + 1) x1 x2 m Q := by
  refine w_iload_n (q := 200) hm50 ⟨⟨_, _, rfl⟩, rfl⟩ rfl ?_
  refine w_bipush (q := 202) hm50 ⟨⟨_, _, rfl⟩, rfl⟩ bipush_7 ?_
  refine w_icmp_ge (q := 205) (X := x2.toInt) (Y := 7) hm50 ⟨⟨_, _, rfl⟩, rfl⟩ rfl (by decide) (fun hc => ?_) (fun hc => ?_)
  · have h := h.1 hc
    refine w_iinc (q := 254) (l' := [oR 70, oI (x1 + (1 : Int32)), oI x2, none, none]) hm50 ⟨⟨_, _, rfl⟩, rfl⟩ rfl rfl rfl iconst_1 rfl ?_
    refine w_goto (q := 191) hm50 ⟨_, _, rfl⟩ ?_
    exact Wp.wk [true, true, false, false, false] h
  · have h := h.2 hc
    refine w_aload_n (q := 206) hm50 ⟨⟨_, _, rfl⟩, rfl⟩ rfl ?_
    refine w_getr (q := 209) hm50 ⟨⟨_, _, rfl⟩, rfl⟩ rfl ?_
    refine w_iload_n (q := 210) hm50 ⟨⟨_, _, rfl⟩, rfl⟩ rfl ?_
    obtain ⟨hi, h⟩ := h
    refine w_iald (q := 211) (v := (m.1 109 x2.toNatClampNeg)) hm50 ⟨⟨_, _, rfl⟩, rfl⟩ rfl hi rfl rfl ?_
    refine w_iload_n (q := 212) hm50 ⟨⟨_, _, rfl⟩, rfl⟩ rfl ?_
    refine w_icmp_eq (q := 215) (X := (m.1 109 x2.toNatClampNeg).toInt) (Y := x1.toInt) hm50 ⟨⟨_, _, rfl⟩, rfl⟩ rfl rfl (fun hc => ?_) (fun hc => ?_)
    · have h := h.1 hc
      refine w_aload_n (q := 219) hm50 ⟨⟨_, _, rfl⟩, rfl⟩ rfl ?_
      refine w_iload_n (q := 220) hm50 ⟨⟨_, _, rfl⟩, rfl⟩ rfl ?_
      refine w_call (q := 223) (n := 2) (vs := [.inr (.inr (some 70)), .inl x2]) (rest := []) (la := [oR 70, oI x2, none, none]) hm50 ⟨⟨_, _, rfl⟩, rfl⟩ rfl rfl rfl rfl hm49 rfl rfl (fun _ => ⟨_, _, rfl, rfl⟩) rfl (Wp.mono h ?_)
      rintro _ m1 ⟨r1, rfl, h⟩
      change Wp _ _ 223 _ [.inl r1] _ _
      refine w_istore_n (q := 224) (l' := [oR 70, oI x1, oI x2, oI r1, none]) hm50 ⟨⟨_, _, rfl⟩, rfl⟩ rfl rfl rfl ?_
      refine w_aload_n (q := 225) hm50 ⟨⟨_, _, rfl⟩, rfl⟩ rfl ?_
      refine w_getr (q := 228) hm50 ⟨⟨_, _, rfl⟩, rfl⟩ rfl ?_
      refine w_iload_n (q := 229) hm50 ⟨⟨_, _, rfl⟩, rfl⟩ rfl ?_
      refine w_iconst (q := 230) hm50 ⟨⟨_, _, rfl⟩, rfl⟩ iconst_1 ?_
      refine w_iload_n (q := 231) hm50 ⟨⟨_, _, rfl⟩, rfl⟩ rfl ?_
      refine w_ishl (q := 232) hm50 ⟨⟨_, _, rfl⟩, rfl⟩ ?_
      refine w_aload_n (q := 233) hm50 ⟨⟨_, _, rfl⟩, rfl⟩ rfl ?_
      refine w_getr (q := 236) hm50 ⟨⟨_, _, rfl⟩, rfl⟩ rfl ?_
      refine w_aload_n (q := 237) hm50 ⟨⟨_, _, rfl⟩, rfl⟩ rfl ?_
      refine w_iload_n (q := 238) hm50 ⟨⟨_, _, rfl⟩, rfl⟩ rfl ?_
      refine w_iload_n (q := 239) hm50 ⟨⟨_, _, rfl⟩, rfl⟩ rfl ?_
      refine w_call (q := 242) (n := 1) (vs := [.inr (.inr (some 70)), .inl r1, .inl x2]) (rest := [.inr (.inr (some 110)), .inl ((1 : Int32) <<< (r1 &&& 31)), .inl x2, .inr (.inr (some 110))]) (la := [oR 70, oI r1, oI x2, none]) hm50 ⟨⟨_, _, rfl⟩, rfl⟩ rfl rfl rfl rfl hm48 rfl rfl (fun _ => ⟨_, _, rfl, rfl⟩) rfl (Wp.mono h ?_)
      rintro _ m2 ⟨r2, rfl, h⟩
      change Wp _ _ 242 _ [.inl r2, .inr (.inr (some 110)), .inl ((1 : Int32) <<< (r1 &&& 31)), .inl x2, .inr (.inr (some 110))] _ _
      obtain ⟨hi, h⟩ := h
      refine w_iald (q := 243) (v := (m2.1 110 r2.toNatClampNeg)) hm50 ⟨⟨_, _, rfl⟩, rfl⟩ rfl hi rfl rfl ?_
      refine w_ior (q := 244) hm50 ⟨⟨_, _, rfl⟩, rfl⟩ ?_
      obtain ⟨hi, h⟩ := h
      refine w_iast (q := 245) hm50 ⟨⟨_, _, rfl⟩, rfl⟩ rfl hi rfl rfl ?_
      exact Wp.wk [true, true, true, false, false] h
    · have h := h.2 hc
      refine w_goto (q := 245) hm50 ⟨_, _, rfl⟩ ?_
      exact h
theorem v_X12_fillsWays_70_245 {d : Nat} {x1 : Int32} {x2 : Int32} {m : dM} {Q : dM → Prop} (h : j_X12_fillsWays_70_199 (d + 1) x1 (x2 + (1 : Int32)) m Q) : j_X12_fillsWays_70_245 (d + 1) x1 x2 m Q := by
  refine w_iinc (q := 248) (l' := [oR 70, oI x1, oI (x2 + (1 : Int32)), none, none]) hm50 ⟨⟨_, _, rfl⟩, rfl⟩ rfl rfl rfl iconst_1 rfl ?_
  refine w_goto (q := 199) hm50 ⟨_, _, rfl⟩ ?_
  exact h
theorem v_X12_copies_70 {d : Nat} {m : dM} {Q : dM → Prop} (h : j_X12_copies_70_2 (d + 1) (0 : Int32) m Q) : c_X12_copies_70 (d + 1) m Q := by
  refine w_iconst (q := 1) hm44 ⟨⟨_, _, rfl⟩, rfl⟩ iconst_0 ?_
  refine w_istore_n (q := 2) (l' := [oR 70, oI (0 : Int32)]) hm44 ⟨⟨_, _, rfl⟩, rfl⟩ rfl rfl rfl ?_
  exact h
theorem v_X12_copies_70_2 {d : Nat} {x1 : Int32} {m : dM} {Q : dM → Prop} (h : ((58 ≤ x1.toInt → ((0 ≤ (m.1 70 18).toInt ∧ (m.1 70 18).toInt < 2) ∧ c_X12_fillsWays_70 d (dSet (dSet m 70 56 (m.1 94 (m.1 70 18).toNatClampNeg)) 70 57 (0 : Int32)) (fun m1 => Q m1))) ∧ (x1.toInt < 58 → ((0 ≤ x1.toInt ∧ x1.toInt < 58) ∧ ((0 ≤ x1.toInt ∧ x1.toInt < 58) ∧ j_X12_copies_70_2 (d + 1) (x1 + (1 : Int32)) (dSet m 108 x1.toNatClampNeg (m.1 107 x1.toNatClampNeg)) Q))))) : j_X12_copies_70_2 (d + 1) x1 m Q := by
  refine w_iload_n (q := 3) hm44 ⟨⟨_, _, rfl⟩, rfl⟩ rfl ?_
  refine w_bipush (q := 5) hm44 ⟨⟨_, _, rfl⟩, rfl⟩ bipush_58 ?_
  refine w_icmp_ge (q := 8) (X := x1.toInt) (Y := 58) hm44 ⟨⟨_, _, rfl⟩, rfl⟩ rfl (by decide) (fun hc => ?_) (fun hc => ?_)
  · have h := h.1 hc
    refine w_aload_n (q := 27) hm44 ⟨⟨_, _, rfl⟩, rfl⟩ rfl ?_
    refine w_aload_n (q := 28) hm44 ⟨⟨_, _, rfl⟩, rfl⟩ rfl ?_
    refine w_getr (q := 31) hm44 ⟨⟨_, _, rfl⟩, rfl⟩ rfl ?_
    refine w_aload_n (q := 32) hm44 ⟨⟨_, _, rfl⟩, rfl⟩ rfl ?_
    refine w_getf (q := 35) (v := (m.1 70 18)) hm44 ⟨⟨_, _, rfl⟩, rfl⟩ rfl rfl ?_
    obtain ⟨hi, h⟩ := h
    refine w_iald (q := 36) (v := (m.1 94 (m.1 70 18).toNatClampNeg)) hm44 ⟨⟨_, _, rfl⟩, rfl⟩ rfl hi rfl rfl ?_
    refine w_putf (q := 39) hm44 ⟨⟨_, _, rfl⟩, rfl⟩ rfl rfl rfl ?_
    refine w_aload_n (q := 40) hm44 ⟨⟨_, _, rfl⟩, rfl⟩ rfl ?_
    refine w_iconst (q := 41) hm44 ⟨⟨_, _, rfl⟩, rfl⟩ iconst_0 ?_
    refine w_putz (q := 44) hm44 ⟨⟨_, _, rfl⟩, rfl⟩ rfl rfl (by decide) rfl ?_
    refine w_aload_n (q := 45) hm44 ⟨⟨_, _, rfl⟩, rfl⟩ rfl ?_
    refine w_call (q := 48) (n := 4) (vs := [.inr (.inr (some 70))]) (rest := []) (la := [oR 70, none, none, none, none]) hm44 ⟨⟨_, _, rfl⟩, rfl⟩ rfl rfl rfl rfl hm50 rfl rfl (fun _ => ⟨_, _, rfl, rfl⟩) rfl (Wp.mono h ?_)
    rintro _ m1 ⟨rfl, h⟩
    change Wp _ _ 48 _ [] _ _
    exact w_retv hm44 ⟨⟨_, _, rfl⟩, rfl⟩ rfl h
  · have h := h.2 hc
    refine w_aload_n (q := 9) hm44 ⟨⟨_, _, rfl⟩, rfl⟩ rfl ?_
    refine w_getr (q := 12) hm44 ⟨⟨_, _, rfl⟩, rfl⟩ rfl ?_
    refine w_iload_n (q := 13) hm44 ⟨⟨_, _, rfl⟩, rfl⟩ rfl ?_
    refine w_aload_n (q := 14) hm44 ⟨⟨_, _, rfl⟩, rfl⟩ rfl ?_
    refine w_getr (q := 17) hm44 ⟨⟨_, _, rfl⟩, rfl⟩ rfl ?_
    refine w_iload_n (q := 18) hm44 ⟨⟨_, _, rfl⟩, rfl⟩ rfl ?_
    obtain ⟨hi, h⟩ := h
    refine w_iald (q := 19) (v := (m.1 107 x1.toNatClampNeg)) hm44 ⟨⟨_, _, rfl⟩, rfl⟩ rfl hi rfl rfl ?_
    obtain ⟨hi, h⟩ := h
    refine w_iast (q := 20) hm44 ⟨⟨_, _, rfl⟩, rfl⟩ rfl hi rfl rfl ?_
    refine w_iinc (q := 23) (l' := [oR 70, oI (x1 + (1 : Int32))]) hm44 ⟨⟨_, _, rfl⟩, rfl⟩ rfl rfl rfl iconst_1 rfl ?_
    refine w_goto (q := 2) hm44 ⟨_, _, rfl⟩ ?_
    exact h
theorem v_X12_isLit_70 {d : Nat} {x1 : Int32} {m : dM} {Q : Int32 → dM → Prop} (h : ((0 ≤ x1.toInt ∧ x1.toInt < 7) ∧ ((99 ≤ (m.1 109 x1.toNatClampNeg).toInt → Q (0 : Int32) m) ∧ ((m.1 109 x1.toNatClampNeg).toInt < 99 → Q (1 : Int32) m)))) : c_X12_isLit_70 (d + 1) x1 m Q := by
  refine w_aload_n (q := 1) hm51 ⟨⟨_, _, rfl⟩, rfl⟩ rfl ?_
  refine w_getr (q := 4) hm51 ⟨⟨_, _, rfl⟩, rfl⟩ rfl ?_
  refine w_iload_n (q := 5) hm51 ⟨⟨_, _, rfl⟩, rfl⟩ rfl ?_
  obtain ⟨hi, h⟩ := h
  refine w_iald (q := 6) (v := (m.1 109 x1.toNatClampNeg)) hm51 ⟨⟨_, _, rfl⟩, rfl⟩ rfl hi rfl rfl ?_
  refine w_bipush (q := 8) hm51 ⟨⟨_, _, rfl⟩, rfl⟩ bipush_99 ?_
  refine w_icmp_ge (q := 11) (X := (m.1 109 x1.toNatClampNeg).toInt) (Y := 99) hm51 ⟨⟨_, _, rfl⟩, rfl⟩ rfl (by decide) (fun hc => ?_) (fun hc => ?_)
  · have h := h.1 hc
    refine w_iconst (q := 16) hm51 ⟨⟨_, _, rfl⟩, rfl⟩ iconst_0 ?_
    exact w_retz hm51 ⟨⟨_, _, rfl⟩, rfl⟩ rfl (by decide) h
  · have h := h.2 hc
    refine w_iconst (q := 12) hm51 ⟨⟨_, _, rfl⟩, rfl⟩ iconst_1 ?_
    refine w_goto (q := 16) hm51 ⟨_, _, rfl⟩ ?_
    exact w_retz hm51 ⟨⟨_, _, rfl⟩, rfl⟩ rfl (by decide) h
theorem v_X12_looks_70 {d : Nat} {x1 : Int32} {x2 : Int32} {m : dM} {Q : dM → Prop} (h : j_X12_looks_70_2 (d + 1) x1 x2 (0 : Int32) m Q) : c_X12_looks_70 (d + 1) x1 x2 m Q := by
  refine w_iconst (q := 1) hm58 ⟨⟨_, _, rfl⟩, rfl⟩ iconst_0 ?_
  refine w_istore_n (q := 2) (l' := [oR 70, oI x1, oI x2, oI (0 : Int32)]) hm58 ⟨⟨_, _, rfl⟩, rfl⟩ rfl rfl rfl ?_
  exact h
theorem v_X12_looks_70_2 {d : Nat} {x1 : Int32} {x2 : Int32} {x3 : Int32} {m : dM} {Q : dM → Prop} (h : ((9 ≤ x3.toInt → Q (dSet (dSet (dSet m 105 3 x1) 105 4 ((m.1 108 55) / (24 : Int32))) 105 8 x2)) ∧ (x3.toInt < 9 → ((0 ≤ x3.toInt ∧ x3.toInt < 9) ∧ j_X12_looks_70_2 (d + 1) x1 x2 (x3 + (1 : Int32)) (dSet m 105 x3.toNatClampNeg (0 : Int32)) Q)))) : j_X12_looks_70_2 (d + 1) x1 x2 x3 m Q := by
  refine w_iload_n (q := 3) hm58 ⟨⟨_, _, rfl⟩, rfl⟩ rfl ?_
  refine w_bipush (q := 5) hm58 ⟨⟨_, _, rfl⟩, rfl⟩ bipush_9 ?_
  refine w_icmp_ge (q := 8) (X := x3.toInt) (Y := 9) hm58 ⟨⟨_, _, rfl⟩, rfl⟩ rfl (by decide) (fun hc => ?_) (fun hc => ?_)
  · have h := h.1 hc
    refine w_aload_n (q := 22) hm58 ⟨⟨_, _, rfl⟩, rfl⟩ rfl ?_
    refine w_getr (q := 25) hm58 ⟨⟨_, _, rfl⟩, rfl⟩ rfl ?_
    refine w_iconst (q := 26) hm58 ⟨⟨_, _, rfl⟩, rfl⟩ iconst_3 ?_
    refine w_iload_n (q := 27) hm58 ⟨⟨_, _, rfl⟩, rfl⟩ rfl ?_
    refine w_iast (q := 28) (j := 3) hm58 ⟨⟨_, _, rfl⟩, rfl⟩ rfl (by decide) (by decide) rfl ?_
    refine w_aload_n (q := 29) hm58 ⟨⟨_, _, rfl⟩, rfl⟩ rfl ?_
    refine w_getr (q := 32) hm58 ⟨⟨_, _, rfl⟩, rfl⟩ rfl ?_
    refine w_iconst (q := 33) hm58 ⟨⟨_, _, rfl⟩, rfl⟩ iconst_4 ?_
    refine w_aload_n (q := 34) hm58 ⟨⟨_, _, rfl⟩, rfl⟩ rfl ?_
    refine w_getr (q := 37) hm58 ⟨⟨_, _, rfl⟩, rfl⟩ rfl ?_
    refine w_bipush (q := 39) hm58 ⟨⟨_, _, rfl⟩, rfl⟩ bipush_55 ?_
    refine w_iald (q := 40) (j := 55) (v := (m.1 108 55)) hm58 ⟨⟨_, _, rfl⟩, rfl⟩ rfl (by decide) (by decide) rfl ?_
    refine w_bipush (q := 42) hm58 ⟨⟨_, _, rfl⟩, rfl⟩ bipush_24 ?_
    refine w_idiv (q := 43) hm58 ⟨⟨_, _, rfl⟩, rfl⟩ (by decide) ?_
    refine w_iast (q := 44) (j := 4) hm58 ⟨⟨_, _, rfl⟩, rfl⟩ rfl (by decide) (by decide) rfl ?_
    refine w_aload_n (q := 45) hm58 ⟨⟨_, _, rfl⟩, rfl⟩ rfl ?_
    refine w_getr (q := 48) hm58 ⟨⟨_, _, rfl⟩, rfl⟩ rfl ?_
    refine w_bipush (q := 50) hm58 ⟨⟨_, _, rfl⟩, rfl⟩ bipush_8 ?_
    refine w_iload_n (q := 51) hm58 ⟨⟨_, _, rfl⟩, rfl⟩ rfl ?_
    refine w_iast (q := 52) (j := 8) hm58 ⟨⟨_, _, rfl⟩, rfl⟩ rfl (by decide) (by decide) rfl ?_
    exact w_retv hm58 ⟨⟨_, _, rfl⟩, rfl⟩ rfl h
  · have h := h.2 hc
    refine w_aload_n (q := 9) hm58 ⟨⟨_, _, rfl⟩, rfl⟩ rfl ?_
    refine w_getr (q := 12) hm58 ⟨⟨_, _, rfl⟩, rfl⟩ rfl ?_
    refine w_iload_n (q := 13) hm58 ⟨⟨_, _, rfl⟩, rfl⟩ rfl ?_
    refine w_iconst (q := 14) hm58 ⟨⟨_, _, rfl⟩, rfl⟩ iconst_0 ?_
    obtain ⟨hi, h⟩ := h
    refine w_iast (q := 15) hm58 ⟨⟨_, _, rfl⟩, rfl⟩ rfl hi rfl rfl ?_
    refine w_iinc (q := 18) (l' := [oR 70, oI x1, oI x2, oI (x3 + (1 : Int32))]) hm58 ⟨⟨_, _, rfl⟩, rfl⟩ rfl rfl rfl iconst_1 rfl ?_
    refine w_goto (q := 2) hm58 ⟨_, _, rfl⟩ ?_
    exact h
theorem v_X12_termOf_70 {d : Nat} {x1 : Int32} {x2 : Int32} {m : dM} {Q : Int32 → dM → Prop} (h : j_X12_termOf_70_5 (d + 1) x2 (0 : Int32) x1 m Q) : c_X12_termOf_70 (d + 1) x1 x2 m Q := by
  refine w_iconst (q := 1) hm35 ⟨⟨_, _, rfl⟩, rfl⟩ iconst_0 ?_
  refine w_istore_n (q := 2) (l' := [oR 70, oI x1, oI x2, oI (0 : Int32), none, none, none, none]) hm35 ⟨⟨_, _, rfl⟩, rfl⟩ rfl rfl rfl ?_
  refine w_iload_n (q := 3) hm35 ⟨⟨_, _, rfl⟩, rfl⟩ rfl ?_
  refine w_istore (q := 5) (l' := [oR 70, oI x1, oI x2, oI (0 : Int32), oI x1, none, none, none]) hm35 ⟨⟨_, _, rfl⟩, rfl⟩ rfl rfl rfl ?_
  exact Wp.wk [true, false, true, true, true, false, false, false] h
theorem v_X12_termOf_70_5 {d : Nat} {x2 : Int32} {x3 : Int32} {x4 : Int32} {m : dM} {Q : Int32 → dM → Prop} (h : ((x2.toInt ≤ x4.toInt → Q (m.1 106 0) m) ∧ (x4.toInt < x2.toInt → ((0 ≤ x4.toInt ∧ x4.toInt < 840) ∧ ((2 ≤ (m.1 102 x4.toNatClampNeg).toInt → ((0 ≤ ((x3 + (-1 : Int32)) - (1 : Int32)).toInt ∧ ((x3 + (-1 : Int32)) - (1 : Int32)).toInt < 400) ∧ ((0 ≤ (x3 + (-1 : Int32)).toInt ∧ (x3 + (-1 : Int32)).toInt < 400) ∧ (((m.1 102 x4.toNatClampNeg).toInt ≠ 5 → j_X12_termOf_70_104 (d + 1) x2 (x3 + (-1 : Int32)) x4 (m.1 102 x4.toNatClampNeg) (m.1 106 ((x3 + (-1 : Int32)) - (1 : Int32)).toNatClampNeg) (m.1 106 (x3 + (-1 : Int32)).toNatClampNeg) m Q) ∧ ((m.1 102 x4.toNatClampNeg).toInt = 5 → (((m.1 106 (x3 + (-1 : Int32)).toNatClampNeg).toInt ≠ 0 → j_X12_termOf_70_104 (d + 1) x2 (x3 + (-1 : Int32)) x4 (m.1 102 x4.toNatClampNeg) (m.1 106 ((x3 + (-1 : Int32)) - (1 : Int32)).toNatClampNeg) (m.1 106 (x3 + (-1 : Int32)).toNatClampNeg) m Q) ∧ ((m.1 106 (x3 + (-1 : Int32)).toNatClampNeg).toInt = 0 → Q (0 : Int32) (dSet m 70 53 (1 : Int32))))))))) ∧ ((m.1 102 x4.toNatClampNeg).toInt < 2 → (((m.1 102 x4.toNatClampNeg).toInt ≠ 0 → ((0 ≤ x4.toInt ∧ x4.toInt < 840) ∧ ((0 ≤ (m.1 103 x4.toNatClampNeg).toInt ∧ (m.1 103 x4.toNatClampNeg).toInt < 9) ∧ ((0 ≤ x3.toInt ∧ x3.toInt < 400) ∧ j_X12_termOf_70_159 (d + 1) x2 (x3 + (1 : Int32)) x4 (dSet m 106 x3.toNatClampNeg (m.1 105 (m.1 103 x4.toNatClampNeg).toNatClampNeg)) Q)))) ∧ ((m.1 102 x4.toNatClampNeg).toInt = 0 → ((0 ≤ x4.toInt ∧ x4.toInt < 840) ∧ ((0 ≤ x3.toInt ∧ x3.toInt < 400) ∧ j_X12_termOf_70_159 (d + 1) x2 (x3 + (1 : Int32)) x4 (dSet m 106 x3.toNatClampNeg (m.1 103 x4.toNatClampNeg)) Q)))))))))) : j_X12_termOf_70_5 (d + 1) x2 x3 x4 m Q := by
  refine w_iload (q := 7) hm35 ⟨⟨_, _, rfl⟩, rfl⟩ rfl ?_
  refine w_iload_n (q := 8) hm35 ⟨⟨_, _, rfl⟩, rfl⟩ rfl ?_
  refine w_icmp_ge (q := 11) (X := x4.toInt) (Y := x2.toInt) hm35 ⟨⟨_, _, rfl⟩, rfl⟩ rfl rfl (fun hc => ?_) (fun hc => ?_)
  · have h := h.1 hc
    refine w_aload_n (q := 166) hm35 ⟨⟨_, _, rfl⟩, rfl⟩ rfl ?_
    refine w_getr (q := 169) hm35 ⟨⟨_, _, rfl⟩, rfl⟩ rfl ?_
    refine w_iconst (q := 170) hm35 ⟨⟨_, _, rfl⟩, rfl⟩ iconst_0 ?_
    refine w_iald (q := 171) (j := 0) (v := (m.1 106 0)) hm35 ⟨⟨_, _, rfl⟩, rfl⟩ rfl (by decide) (by decide) rfl ?_
    exact w_reti hm35 ⟨⟨_, _, rfl⟩, rfl⟩ rfl h
  · have h := h.2 hc
    refine w_aload_n (q := 12) hm35 ⟨⟨_, _, rfl⟩, rfl⟩ rfl ?_
    refine w_getr (q := 15) hm35 ⟨⟨_, _, rfl⟩, rfl⟩ rfl ?_
    refine w_iload (q := 17) hm35 ⟨⟨_, _, rfl⟩, rfl⟩ rfl ?_
    obtain ⟨hi, h⟩ := h
    refine w_iald (q := 18) (v := (m.1 102 x4.toNatClampNeg)) hm35 ⟨⟨_, _, rfl⟩, rfl⟩ rfl hi rfl rfl ?_
    refine w_istore (q := 20) (l' := [oR 70, none, oI x2, oI x3, oI x4, oI (m.1 102 x4.toNatClampNeg), none, none]) hm35 ⟨⟨_, _, rfl⟩, rfl⟩ rfl rfl rfl ?_
    refine w_iload (q := 22) hm35 ⟨⟨_, _, rfl⟩, rfl⟩ rfl ?_
    refine w_iconst (q := 23) hm35 ⟨⟨_, _, rfl⟩, rfl⟩ iconst_2 ?_
    refine w_icmp_ge (q := 26) (X := (m.1 102 x4.toNatClampNeg).toInt) (Y := 2) hm35 ⟨⟨_, _, rfl⟩, rfl⟩ rfl (by decide) (fun hc => ?_) (fun hc => ?_)
    · have h := h.1 hc
      refine w_iinc (q := 68) (l' := [oR 70, none, oI x2, oI (x3 + (-1 : Int32)), oI x4, oI (m.1 102 x4.toNatClampNeg), none, none]) hm35 ⟨⟨_, _, rfl⟩, rfl⟩ rfl rfl rfl iconst_m1 rfl ?_
      refine w_aload_n (q := 69) hm35 ⟨⟨_, _, rfl⟩, rfl⟩ rfl ?_
      refine w_getr (q := 72) hm35 ⟨⟨_, _, rfl⟩, rfl⟩ rfl ?_
      refine w_iload_n (q := 73) hm35 ⟨⟨_, _, rfl⟩, rfl⟩ rfl ?_
      refine w_iconst (q := 74) hm35 ⟨⟨_, _, rfl⟩, rfl⟩ iconst_1 ?_
      refine w_isub (q := 75) hm35 ⟨⟨_, _, rfl⟩, rfl⟩ ?_
      obtain ⟨hi, h⟩ := h
      refine w_iald (q := 76) (v := (m.1 106 ((x3 + (-1 : Int32)) - (1 : Int32)).toNatClampNeg)) hm35 ⟨⟨_, _, rfl⟩, rfl⟩ rfl hi rfl rfl ?_
      refine w_istore (q := 78) (l' := [oR 70, none, oI x2, oI (x3 + (-1 : Int32)), oI x4, oI (m.1 102 x4.toNatClampNeg), oI (m.1 106 ((x3 + (-1 : Int32)) - (1 : Int32)).toNatClampNeg), none]) hm35 ⟨⟨_, _, rfl⟩, rfl⟩ rfl rfl rfl ?_
      refine w_aload_n (q := 79) hm35 ⟨⟨_, _, rfl⟩, rfl⟩ rfl ?_
      refine w_getr (q := 82) hm35 ⟨⟨_, _, rfl⟩, rfl⟩ rfl ?_
      refine w_iload_n (q := 83) hm35 ⟨⟨_, _, rfl⟩, rfl⟩ rfl ?_
      obtain ⟨hi, h⟩ := h
      refine w_iald (q := 84) (v := (m.1 106 (x3 + (-1 : Int32)).toNatClampNeg)) hm35 ⟨⟨_, _, rfl⟩, rfl⟩ rfl hi rfl rfl ?_
      refine w_istore (q := 86) (l' := [oR 70, none, oI x2, oI (x3 + (-1 : Int32)), oI x4, oI (m.1 102 x4.toNatClampNeg), oI (m.1 106 ((x3 + (-1 : Int32)) - (1 : Int32)).toNatClampNeg), oI (m.1 106 (x3 + (-1 : Int32)).toNatClampNeg)]) hm35 ⟨⟨_, _, rfl⟩, rfl⟩ rfl rfl rfl ?_
      refine w_iload (q := 88) hm35 ⟨⟨_, _, rfl⟩, rfl⟩ rfl ?_
      refine w_iconst (q := 89) hm35 ⟨⟨_, _, rfl⟩, rfl⟩ iconst_5 ?_
      refine w_icmp_ne (q := 92) (X := (m.1 102 x4.toNatClampNeg).toInt) (Y := 5) hm35 ⟨⟨_, _, rfl⟩, rfl⟩ rfl (by decide) (fun hc => ?_) (fun hc => ?_)
      · have h := h.1 hc
        exact h
      · have h := h.2 hc
        refine w_iload (q := 94) hm35 ⟨⟨_, _, rfl⟩, rfl⟩ rfl ?_
        refine w_if_ne (q := 97) (X := (m.1 106 (x3 + (-1 : Int32)).toNatClampNeg).toInt) hm35 ⟨⟨_, _, rfl⟩, rfl⟩ rfl (fun hc => ?_) (fun hc => ?_)
        · have h := h.1 hc
          exact h
        · have h := h.2 hc
          refine w_aload_n (q := 98) hm35 ⟨⟨_, _, rfl⟩, rfl⟩ rfl ?_
          refine w_iconst (q := 99) hm35 ⟨⟨_, _, rfl⟩, rfl⟩ iconst_1 ?_
          refine w_putz (q := 102) hm35 ⟨⟨_, _, rfl⟩, rfl⟩ rfl rfl (by decide) rfl ?_
          refine w_iconst (q := 103) hm35 ⟨⟨_, _, rfl⟩, rfl⟩ iconst_0 ?_
          exact w_reti hm35 ⟨⟨_, _, rfl⟩, rfl⟩ rfl h
    · have h := h.2 hc
      refine w_aload_n (q := 27) hm35 ⟨⟨_, _, rfl⟩, rfl⟩ rfl ?_
      refine w_getr (q := 30) hm35 ⟨⟨_, _, rfl⟩, rfl⟩ rfl ?_
      refine w_iload_n (q := 31) hm35 ⟨⟨_, _, rfl⟩, rfl⟩ rfl ?_
      refine w_iload (q := 33) hm35 ⟨⟨_, _, rfl⟩, rfl⟩ rfl ?_
      refine w_if_ne (q := 36) (X := (m.1 102 x4.toNatClampNeg).toInt) hm35 ⟨⟨_, _, rfl⟩, rfl⟩ rfl (fun hc => ?_) (fun hc => ?_)
      · have h := h.1 hc
        refine w_aload_n (q := 47) hm35 ⟨⟨_, _, rfl⟩, rfl⟩ rfl ?_
        refine w_getr (q := 50) hm35 ⟨⟨_, _, rfl⟩, rfl⟩ rfl ?_
        refine w_aload_n (q := 51) hm35 ⟨⟨_, _, rfl⟩, rfl⟩ rfl ?_
        refine w_getr (q := 54) hm35 ⟨⟨_, _, rfl⟩, rfl⟩ rfl ?_
        refine w_iload (q := 56) hm35 ⟨⟨_, _, rfl⟩, rfl⟩ rfl ?_
        obtain ⟨hi, h⟩ := h
        refine w_iald (q := 57) (v := (m.1 103 x4.toNatClampNeg)) hm35 ⟨⟨_, _, rfl⟩, rfl⟩ rfl hi rfl rfl ?_
        obtain ⟨hi, h⟩ := h
        refine w_iald (q := 58) (v := (m.1 105 (m.1 103 x4.toNatClampNeg).toNatClampNeg)) hm35 ⟨⟨_, _, rfl⟩, rfl⟩ rfl hi rfl rfl ?_
        obtain ⟨hi, h⟩ := h
        refine w_iast (q := 59) hm35 ⟨⟨_, _, rfl⟩, rfl⟩ rfl hi rfl rfl ?_
        refine w_iinc (q := 62) (l' := [oR 70, none, oI x2, oI (x3 + (1 : Int32)), oI x4, oI (m.1 102 x4.toNatClampNeg), none, none]) hm35 ⟨⟨_, _, rfl⟩, rfl⟩ rfl rfl rfl iconst_1 rfl ?_
        refine w_goto (q := 159) hm35 ⟨_, _, rfl⟩ ?_
        exact Wp.wk [true, false, true, true, true, false, false, false] h
      · have h := h.2 hc
        refine w_aload_n (q := 37) hm35 ⟨⟨_, _, rfl⟩, rfl⟩ rfl ?_
        refine w_getr (q := 40) hm35 ⟨⟨_, _, rfl⟩, rfl⟩ rfl ?_
        refine w_iload (q := 42) hm35 ⟨⟨_, _, rfl⟩, rfl⟩ rfl ?_
        obtain ⟨hi, h⟩ := h
        refine w_iald (q := 43) (v := (m.1 103 x4.toNatClampNeg)) hm35 ⟨⟨_, _, rfl⟩, rfl⟩ rfl hi rfl rfl ?_
        refine w_goto (q := 58) hm35 ⟨_, _, rfl⟩ ?_
        obtain ⟨hi, h⟩ := h
        refine w_iast (q := 59) hm35 ⟨⟨_, _, rfl⟩, rfl⟩ rfl hi rfl rfl ?_
        refine w_iinc (q := 62) (l' := [oR 70, none, oI x2, oI (x3 + (1 : Int32)), oI x4, oI (m.1 102 x4.toNatClampNeg), none, none]) hm35 ⟨⟨_, _, rfl⟩, rfl⟩ rfl rfl rfl iconst_1 rfl ?_
        refine w_goto (q := 159) hm35 ⟨_, _, rfl⟩ ?_
        exact Wp.wk [true, false, true, true, true, false, false, false] h
theorem v_X12_termOf_70_104 {d : Nat} {x2 : Int32} {x3 : Int32} {x4 : Int32} {x5 : Int32} {x6 : Int32} {x7 : Int32} {m : dM} {Q : Int32 → dM → Prop} (h : ((x5.toInt ≠ 2 → ((x5.toInt ≠ 3 → ((x5.toInt ≠ 4 → (x7 ≠ 0 ∧ ((0 ≤ (x3 - (1 : Int32)).toInt ∧ (x3 - (1 : Int32)).toInt < 400) ∧ j_X12_termOf_70_159 (d + 1) x2 x3 x4 (dSet m 106 (x3 - (1 : Int32)).toNatClampNeg (x6 / x7)) Q))) ∧ (x5.toInt = 4 → ((0 ≤ (x3 - (1 : Int32)).toInt ∧ (x3 - (1 : Int32)).toInt < 400) ∧ j_X12_termOf_70_159 (d + 1) x2 x3 x4 (dSet m 106 (x3 - (1 : Int32)).toNatClampNeg (x6 * x7)) Q)))) ∧ (x5.toInt = 3 → ((0 ≤ (x3 - (1 : Int32)).toInt ∧ (x3 - (1 : Int32)).toInt < 400) ∧ j_X12_termOf_70_159 (d + 1) x2 x3 x4 (dSet m 106 (x3 - (1 : Int32)).toNatClampNeg (x6 - x7)) Q)))) ∧ (x5.toInt = 2 → ((0 ≤ (x3 - (1 : Int32)).toInt ∧ (x3 - (1 : Int32)).toInt < 400) ∧ j_X12_termOf_70_159 (d + 1) x2 x3 x4 (dSet m 106 (x3 - (1 : Int32)).toNatClampNeg (x6 + x7)) Q)))) : j_X12_termOf_70_104 (d + 1) x2 x3 x4 x5 x6 x7 m Q := by
  refine w_aload_n (q := 105) hm35 ⟨⟨_, _, rfl⟩, rfl⟩ rfl ?_
  refine w_getr (q := 108) hm35 ⟨⟨_, _, rfl⟩, rfl⟩ rfl ?_
  refine w_iload_n (q := 109) hm35 ⟨⟨_, _, rfl⟩, rfl⟩ rfl ?_
  refine w_iconst (q := 110) hm35 ⟨⟨_, _, rfl⟩, rfl⟩ iconst_1 ?_
  refine w_isub (q := 111) hm35 ⟨⟨_, _, rfl⟩, rfl⟩ ?_
  refine w_iload (q := 113) hm35 ⟨⟨_, _, rfl⟩, rfl⟩ rfl ?_
  refine w_iconst (q := 114) hm35 ⟨⟨_, _, rfl⟩, rfl⟩ iconst_2 ?_
  refine w_icmp_ne (q := 117) (X := x5.toInt) (Y := 2) hm35 ⟨⟨_, _, rfl⟩, rfl⟩ rfl (by decide) (fun hc => ?_) (fun hc => ?_)
  · have h := h.1 hc
    refine w_iload (q := 127) hm35 ⟨⟨_, _, rfl⟩, rfl⟩ rfl ?_
    refine w_iconst (q := 128) hm35 ⟨⟨_, _, rfl⟩, rfl⟩ iconst_3 ?_
    refine w_icmp_ne (q := 131) (X := x5.toInt) (Y := 3) hm35 ⟨⟨_, _, rfl⟩, rfl⟩ rfl (by decide) (fun hc => ?_) (fun hc => ?_)
    · have h := h.1 hc
      refine w_iload (q := 141) hm35 ⟨⟨_, _, rfl⟩, rfl⟩ rfl ?_
      refine w_iconst (q := 142) hm35 ⟨⟨_, _, rfl⟩, rfl⟩ iconst_4 ?_
      refine w_icmp_ne (q := 145) (X := x5.toInt) (Y := 4) hm35 ⟨⟨_, _, rfl⟩, rfl⟩ rfl (by decide) (fun hc => ?_) (fun hc => ?_)
      · have h := h.1 hc
        refine w_iload (q := 155) hm35 ⟨⟨_, _, rfl⟩, rfl⟩ rfl ?_
        refine w_iload (q := 157) hm35 ⟨⟨_, _, rfl⟩, rfl⟩ rfl ?_
        obtain ⟨hz, h⟩ := h
        refine w_idiv (q := 158) hm35 ⟨⟨_, _, rfl⟩, rfl⟩ hz ?_
        obtain ⟨hi, h⟩ := h
        refine w_iast (q := 159) hm35 ⟨⟨_, _, rfl⟩, rfl⟩ rfl hi rfl rfl ?_
        exact Wp.wk [true, false, true, true, true, false, false, false] h
      · have h := h.2 hc
        refine w_iload (q := 147) hm35 ⟨⟨_, _, rfl⟩, rfl⟩ rfl ?_
        refine w_iload (q := 149) hm35 ⟨⟨_, _, rfl⟩, rfl⟩ rfl ?_
        refine w_imul (q := 150) hm35 ⟨⟨_, _, rfl⟩, rfl⟩ ?_
        refine w_goto (q := 158) hm35 ⟨_, _, rfl⟩ ?_
        obtain ⟨hi, h⟩ := h
        refine w_iast (q := 159) hm35 ⟨⟨_, _, rfl⟩, rfl⟩ rfl hi rfl rfl ?_
        exact Wp.wk [true, false, true, true, true, false, false, false] h
    · have h := h.2 hc
      refine w_iload (q := 133) hm35 ⟨⟨_, _, rfl⟩, rfl⟩ rfl ?_
      refine w_iload (q := 135) hm35 ⟨⟨_, _, rfl⟩, rfl⟩ rfl ?_
      refine w_isub (q := 136) hm35 ⟨⟨_, _, rfl⟩, rfl⟩ ?_
      refine w_goto (q := 158) hm35 ⟨_, _, rfl⟩ ?_
      obtain ⟨hi, h⟩ := h
      refine w_iast (q := 159) hm35 ⟨⟨_, _, rfl⟩, rfl⟩ rfl hi rfl rfl ?_
      exact Wp.wk [true, false, true, true, true, false, false, false] h
  · have h := h.2 hc
    refine w_iload (q := 119) hm35 ⟨⟨_, _, rfl⟩, rfl⟩ rfl ?_
    refine w_iload (q := 121) hm35 ⟨⟨_, _, rfl⟩, rfl⟩ rfl ?_
    refine w_iadd (q := 122) hm35 ⟨⟨_, _, rfl⟩, rfl⟩ ?_
    refine w_goto (q := 158) hm35 ⟨_, _, rfl⟩ ?_
    obtain ⟨hi, h⟩ := h
    refine w_iast (q := 159) hm35 ⟨⟨_, _, rfl⟩, rfl⟩ rfl hi rfl rfl ?_
    exact Wp.wk [true, false, true, true, true, false, false, false] h
theorem v_X12_termOf_70_159 {d : Nat} {x2 : Int32} {x3 : Int32} {x4 : Int32} {m : dM} {Q : Int32 → dM → Prop} (h : j_X12_termOf_70_5 (d + 1) x2 x3 (x4 + (1 : Int32)) m Q) : j_X12_termOf_70_159 (d + 1) x2 x3 x4 m Q := by
  refine w_iinc (q := 162) (l' := [oR 70, none, oI x2, oI x3, oI (x4 + (1 : Int32)), none, none, none]) hm35 ⟨⟨_, _, rfl⟩, rfl⟩ rfl rfl rfl iconst_1 rfl ?_
  refine w_goto (q := 5) hm35 ⟨_, _, rfl⟩ ?_
  exact h
end
section
theorem v_X12_lawTells_70 {d : Nat} {x1 : Int32} {x2 : Int32} {m : dM} {Q : Int32 → dM → Prop} (h : ((0 ≤ (((4 : Int32) * (m.1 70 18)) + x1).toInt ∧ (((4 : Int32) * (m.1 70 18)) + x1).toInt < 8) ∧ ((0 ≤ (((4 : Int32) * (m.1 70 18)) + x1).toInt ∧ (((4 : Int32) * (m.1 70 18)) + x1).toInt < 8) ∧ (((m.1 95 (((4 : Int32) * (m.1 70 18)) + x1).toNatClampNeg).toInt ≠ (m.1 96 (((4 : Int32) * (m.1 70 18)) + x1).toNatClampNeg).toInt → ((0 ≤ (((4 : Int32) * (m.1 70 18)) + x1).toInt ∧ (((4 : Int32) * (m.1 70 18)) + x1).toInt < 8) ∧ j_X12_lawTells_70_39 (d + 1) (((4 : Int32) * (m.1 70 18)) + x1) (m.1 95 (((4 : Int32) * (m.1 70 18)) + x1).toNatClampNeg) (dSet m 70 53 (0 : Int32)) Q)) ∧ ((m.1 95 (((4 : Int32) * (m.1 70 18)) + x1).toNatClampNeg).toInt = (m.1 96 (((4 : Int32) * (m.1 70 18)) + x1).toNatClampNeg).toInt → Q x2 m))))) : c_X12_lawTells_70 (d + 1) x1 x2 m Q := by
  refine w_iconst (q := 1) hm59 ⟨⟨_, _, rfl⟩, rfl⟩ iconst_4 ?_
  refine w_aload_n (q := 2) hm59 ⟨⟨_, _, rfl⟩, rfl⟩ rfl ?_
  refine w_getf (q := 5) (v := (m.1 70 18)) hm59 ⟨⟨_, _, rfl⟩, rfl⟩ rfl rfl ?_
  refine w_imul (q := 6) hm59 ⟨⟨_, _, rfl⟩, rfl⟩ ?_
  refine w_iload_n (q := 7) hm59 ⟨⟨_, _, rfl⟩, rfl⟩ rfl ?_
  refine w_iadd (q := 8) hm59 ⟨⟨_, _, rfl⟩, rfl⟩ ?_
  refine w_istore_n (q := 9) (l' := [oR 70, oI x1, oI x2, oI (((4 : Int32) * (m.1 70 18)) + x1), none, none, none]) hm59 ⟨⟨_, _, rfl⟩, rfl⟩ rfl rfl rfl ?_
  refine w_aload_n (q := 10) hm59 ⟨⟨_, _, rfl⟩, rfl⟩ rfl ?_
  refine w_getr (q := 13) hm59 ⟨⟨_, _, rfl⟩, rfl⟩ rfl ?_
  refine w_iload_n (q := 14) hm59 ⟨⟨_, _, rfl⟩, rfl⟩ rfl ?_
  obtain ⟨hi, h⟩ := h
  refine w_iald (q := 15) (v := (m.1 95 (((4 : Int32) * (m.1 70 18)) + x1).toNatClampNeg)) hm59 ⟨⟨_, _, rfl⟩, rfl⟩ rfl hi rfl rfl ?_
  refine w_aload_n (q := 16) hm59 ⟨⟨_, _, rfl⟩, rfl⟩ rfl ?_
  refine w_getr (q := 19) hm59 ⟨⟨_, _, rfl⟩, rfl⟩ rfl ?_
  refine w_iload_n (q := 20) hm59 ⟨⟨_, _, rfl⟩, rfl⟩ rfl ?_
  obtain ⟨hi, h⟩ := h
  refine w_iald (q := 21) (v := (m.1 96 (((4 : Int32) * (m.1 70 18)) + x1).toNatClampNeg)) hm59 ⟨⟨_, _, rfl⟩, rfl⟩ rfl hi rfl rfl ?_
  refine w_icmp_ne (q := 24) (X := (m.1 95 (((4 : Int32) * (m.1 70 18)) + x1).toNatClampNeg).toInt) (Y := (m.1 96 (((4 : Int32) * (m.1 70 18)) + x1).toNatClampNeg).toInt) hm59 ⟨⟨_, _, rfl⟩, rfl⟩ rfl rfl (fun hc => ?_) (fun hc => ?_)
  · have h := h.1 hc
    refine w_aload_n (q := 27) hm59 ⟨⟨_, _, rfl⟩, rfl⟩ rfl ?_
    refine w_iconst (q := 28) hm59 ⟨⟨_, _, rfl⟩, rfl⟩ iconst_0 ?_
    refine w_putz (q := 31) hm59 ⟨⟨_, _, rfl⟩, rfl⟩ rfl rfl (by decide) rfl ?_
    refine w_aload_n (q := 32) hm59 ⟨⟨_, _, rfl⟩, rfl⟩ rfl ?_
    refine w_getr (q := 35) hm59 ⟨⟨_, _, rfl⟩, rfl⟩ rfl ?_
    refine w_iload_n (q := 36) hm59 ⟨⟨_, _, rfl⟩, rfl⟩ rfl ?_
    obtain ⟨hi, h⟩ := h
    refine w_iald (q := 37) (v := (m.1 95 (((4 : Int32) * (m.1 70 18)) + x1).toNatClampNeg)) hm59 ⟨⟨_, _, rfl⟩, rfl⟩ rfl hi rfl rfl ?_
    refine w_istore (q := 39) (l' := [oR 70, oI x1, oI x2, oI (((4 : Int32) * (m.1 70 18)) + x1), oI (m.1 95 (((4 : Int32) * (m.1 70 18)) + x1).toNatClampNeg), none, none]) hm59 ⟨⟨_, _, rfl⟩, rfl⟩ rfl rfl rfl ?_
    exact Wp.wk [true, false, false, true, true, false, false] h
  · have h := h.2 hc
    refine w_iload_n (q := 25) hm59 ⟨⟨_, _, rfl⟩, rfl⟩ rfl ?_
    exact w_reti hm59 ⟨⟨_, _, rfl⟩, rfl⟩ rfl h
theorem v_X12_lawTells_70_39 {d : Nat} {x3 : Int32} {x4 : Int32} {m : dM} {Q : Int32 → dM → Prop} (h : ((0 ≤ x3.toInt ∧ x3.toInt < 8) ∧ (((m.1 96 x3.toNatClampNeg).toInt ≤ x4.toInt → Q (0 : Int32) m) ∧ (x4.toInt < (m.1 96 x3.toNatClampNeg).toInt → ((0 ≤ x4.toInt ∧ x4.toInt < 260) ∧ (((m.1 97 x4.toNatClampNeg).toInt = 0 → j_X12_lawTells_70_119 (d + 1) x4 m Q) ∧ ((m.1 97 x4.toNatClampNeg).toInt ≠ 0 → ((0 ≤ x4.toInt ∧ x4.toInt < 260) ∧ ((0 ≤ x4.toInt ∧ x4.toInt < 260) ∧ c_X12_termOf_70 d (m.1 98 x4.toNatClampNeg) (m.1 99 x4.toNatClampNeg) m (fun r1 m1 => ((0 ≤ x4.toInt ∧ x4.toInt < 260) ∧ ((0 ≤ x4.toInt ∧ x4.toInt < 260) ∧ c_X12_termOf_70 d (m1.1 99 x4.toNatClampNeg) (m1.1 100 x4.toNatClampNeg) m1 (fun r2 m2 => (((m2.1 70 53).toInt = 0 → ((r1.toInt < r2.toInt → j_X12_lawTells_70_119 (d + 1) x4 m2 Q) ∧ (r2.toInt ≤ r1.toInt → j_X12_lawTells_70_39 (d + 1) x3 (x4 + (1 : Int32)) m2 Q))) ∧ ((m2.1 70 53).toInt ≠ 0 → Q (0 : Int32) m2))))))))))))))) : j_X12_lawTells_70_39 (d + 1) x3 x4 m Q := by
  refine w_iload (q := 41) hm59 ⟨⟨_, _, rfl⟩, rfl⟩ rfl ?_
  refine w_aload_n (q := 42) hm59 ⟨⟨_, _, rfl⟩, rfl⟩ rfl ?_
  refine w_getr (q := 45) hm59 ⟨⟨_, _, rfl⟩, rfl⟩ rfl ?_
  refine w_iload_n (q := 46) hm59 ⟨⟨_, _, rfl⟩, rfl⟩ rfl ?_
  obtain ⟨hi, h⟩ := h
  refine w_iald (q := 47) (v := (m.1 96 x3.toNatClampNeg)) hm59 ⟨⟨_, _, rfl⟩, rfl⟩ rfl hi rfl rfl ?_
  refine w_icmp_ge (q := 50) (X := x4.toInt) (Y := (m.1 96 x3.toNatClampNeg).toInt) hm59 ⟨⟨_, _, rfl⟩, rfl⟩ rfl rfl (fun hc => ?_) (fun hc => ?_)
  · have h := h.1 hc
    refine w_iconst (q := 160) hm59 ⟨⟨_, _, rfl⟩, rfl⟩ iconst_0 ?_
    exact w_reti hm59 ⟨⟨_, _, rfl⟩, rfl⟩ rfl h
  · have h := h.2 hc
    refine w_aload_n (q := 51) hm59 ⟨⟨_, _, rfl⟩, rfl⟩ rfl ?_
    refine w_getr (q := 54) hm59 ⟨⟨_, _, rfl⟩, rfl⟩ rfl ?_
    refine w_iload (q := 56) hm59 ⟨⟨_, _, rfl⟩, rfl⟩ rfl ?_
    obtain ⟨hi, h⟩ := h
    refine w_zald (q := 57) (v := (m.1 97 x4.toNatClampNeg)) hm59 ⟨⟨_, _, rfl⟩, rfl⟩ rfl hi rfl rfl ?_
    refine w_if_eq (q := 60) (X := (m.1 97 x4.toNatClampNeg).toInt) hm59 ⟨⟨_, _, rfl⟩, rfl⟩ rfl (fun hc => ?_) (fun hc => ?_)
    · have h := h.1 hc
      exact Wp.wk [true, false, false, false, true, false, false] h
    · have h := h.2 hc
      refine w_aload_n (q := 61) hm59 ⟨⟨_, _, rfl⟩, rfl⟩ rfl ?_
      refine w_aload_n (q := 62) hm59 ⟨⟨_, _, rfl⟩, rfl⟩ rfl ?_
      refine w_getr (q := 65) hm59 ⟨⟨_, _, rfl⟩, rfl⟩ rfl ?_
      refine w_iload (q := 67) hm59 ⟨⟨_, _, rfl⟩, rfl⟩ rfl ?_
      obtain ⟨hi, h⟩ := h
      refine w_iald (q := 68) (v := (m.1 98 x4.toNatClampNeg)) hm59 ⟨⟨_, _, rfl⟩, rfl⟩ rfl hi rfl rfl ?_
      refine w_aload_n (q := 69) hm59 ⟨⟨_, _, rfl⟩, rfl⟩ rfl ?_
      refine w_getr (q := 72) hm59 ⟨⟨_, _, rfl⟩, rfl⟩ rfl ?_
      refine w_iload (q := 74) hm59 ⟨⟨_, _, rfl⟩, rfl⟩ rfl ?_
      obtain ⟨hi, h⟩ := h
      refine w_iald (q := 75) (v := (m.1 99 x4.toNatClampNeg)) hm59 ⟨⟨_, _, rfl⟩, rfl⟩ rfl hi rfl rfl ?_
      refine w_call (q := 78) (n := 5) (vs := [.inr (.inr (some 70)), .inl (m.1 98 x4.toNatClampNeg), .inl (m.1 99 x4.toNatClampNeg)]) (rest := []) (la := [oR 70, oI (m.1 98 x4.toNatClampNeg), oI (m.1 99 x4.toNatClampNeg), none, none, none, none, none]) hm59 ⟨⟨_, _, rfl⟩, rfl⟩ rfl rfl rfl rfl hm35 rfl rfl (fun _ => ⟨_, _, rfl, rfl⟩) rfl (Wp.mono h ?_)
      rintro _ m1 ⟨r1, rfl, h⟩
      change Wp _ _ 78 _ [.inl r1] _ _
      refine w_istore (q := 80) (l' := [oR 70, none, none, oI x3, oI x4, oI r1, none]) hm59 ⟨⟨_, _, rfl⟩, rfl⟩ rfl rfl rfl ?_
      refine w_aload_n (q := 81) hm59 ⟨⟨_, _, rfl⟩, rfl⟩ rfl ?_
      refine w_aload_n (q := 82) hm59 ⟨⟨_, _, rfl⟩, rfl⟩ rfl ?_
      refine w_getr (q := 85) hm59 ⟨⟨_, _, rfl⟩, rfl⟩ rfl ?_
      refine w_iload (q := 87) hm59 ⟨⟨_, _, rfl⟩, rfl⟩ rfl ?_
      obtain ⟨hi, h⟩ := h
      refine w_iald (q := 88) (v := (m1.1 99 x4.toNatClampNeg)) hm59 ⟨⟨_, _, rfl⟩, rfl⟩ rfl hi rfl rfl ?_
      refine w_aload_n (q := 89) hm59 ⟨⟨_, _, rfl⟩, rfl⟩ rfl ?_
      refine w_getr (q := 92) hm59 ⟨⟨_, _, rfl⟩, rfl⟩ rfl ?_
      refine w_iload (q := 94) hm59 ⟨⟨_, _, rfl⟩, rfl⟩ rfl ?_
      obtain ⟨hi, h⟩ := h
      refine w_iald (q := 95) (v := (m1.1 100 x4.toNatClampNeg)) hm59 ⟨⟨_, _, rfl⟩, rfl⟩ rfl hi rfl rfl ?_
      refine w_call (q := 98) (n := 5) (vs := [.inr (.inr (some 70)), .inl (m1.1 99 x4.toNatClampNeg), .inl (m1.1 100 x4.toNatClampNeg)]) (rest := []) (la := [oR 70, oI (m1.1 99 x4.toNatClampNeg), oI (m1.1 100 x4.toNatClampNeg), none, none, none, none, none]) hm59 ⟨⟨_, _, rfl⟩, rfl⟩ rfl rfl rfl rfl hm35 rfl rfl (fun _ => ⟨_, _, rfl, rfl⟩) rfl (Wp.mono h ?_)
      rintro _ m2 ⟨r2, rfl, h⟩
      change Wp _ _ 98 _ [.inl r2] _ _
      refine w_istore (q := 100) (l' := [oR 70, none, none, oI x3, oI x4, oI r1, oI r2]) hm59 ⟨⟨_, _, rfl⟩, rfl⟩ rfl rfl rfl ?_
      refine w_aload_n (q := 101) hm59 ⟨⟨_, _, rfl⟩, rfl⟩ rfl ?_
      refine w_getf (q := 104) (v := (m2.1 70 53)) hm59 ⟨⟨_, _, rfl⟩, rfl⟩ rfl rfl ?_
      refine w_if_eq (q := 107) (X := (m2.1 70 53).toInt) hm59 ⟨⟨_, _, rfl⟩, rfl⟩ rfl (fun hc => ?_) (fun hc => ?_)
      · have h := h.1 hc
        refine w_iload (q := 111) hm59 ⟨⟨_, _, rfl⟩, rfl⟩ rfl ?_
        refine w_iload (q := 113) hm59 ⟨⟨_, _, rfl⟩, rfl⟩ rfl ?_
        refine w_icmp_lt (q := 116) (X := r1.toInt) (Y := r2.toInt) hm59 ⟨⟨_, _, rfl⟩, rfl⟩ rfl rfl (fun hc => ?_) (fun hc => ?_)
        · have h := h.1 hc
          exact Wp.wk [true, false, false, false, true, false, false] h
        · have h := h.2 hc
          refine w_goto (q := 153) hm59 ⟨_, _, rfl⟩ ?_
          refine w_iinc (q := 156) (l' := [oR 70, none, none, oI x3, oI (x4 + (1 : Int32)), oI r1, oI r2]) hm59 ⟨⟨_, _, rfl⟩, rfl⟩ rfl rfl rfl iconst_1 rfl ?_
          refine w_goto (q := 39) hm59 ⟨_, _, rfl⟩ ?_
          exact Wp.wk [true, false, false, true, true, false, false] h
      · have h := h.2 hc
        refine w_iconst (q := 108) hm59 ⟨⟨_, _, rfl⟩, rfl⟩ iconst_0 ?_
        exact w_reti hm59 ⟨⟨_, _, rfl⟩, rfl⟩ rfl h
theorem v_X12_lawTells_70_119 {d : Nat} {x4 : Int32} {m : dM} {Q : Int32 → dM → Prop} (h : ((0 ≤ x4.toInt ∧ x4.toInt < 260) ∧ ((0 ≤ x4.toInt ∧ x4.toInt < 260) ∧ c_X12_termOf_70 d (m.1 100 x4.toNatClampNeg) (m.1 101 x4.toNatClampNeg) m (fun r1 m1 => (((m1.1 70 53).toInt = 0 → Q r1 m1) ∧ ((m1.1 70 53).toInt ≠ 0 → Q (0 : Int32) m1)))))) : j_X12_lawTells_70_119 (d + 1) x4 m Q := by
  refine w_aload_n (q := 120) hm59 ⟨⟨_, _, rfl⟩, rfl⟩ rfl ?_
  refine w_aload_n (q := 121) hm59 ⟨⟨_, _, rfl⟩, rfl⟩ rfl ?_
  refine w_getr (q := 124) hm59 ⟨⟨_, _, rfl⟩, rfl⟩ rfl ?_
  refine w_iload (q := 126) hm59 ⟨⟨_, _, rfl⟩, rfl⟩ rfl ?_
  obtain ⟨hi, h⟩ := h
  refine w_iald (q := 127) (v := (m.1 100 x4.toNatClampNeg)) hm59 ⟨⟨_, _, rfl⟩, rfl⟩ rfl hi rfl rfl ?_
  refine w_aload_n (q := 128) hm59 ⟨⟨_, _, rfl⟩, rfl⟩ rfl ?_
  refine w_getr (q := 131) hm59 ⟨⟨_, _, rfl⟩, rfl⟩ rfl ?_
  refine w_iload (q := 133) hm59 ⟨⟨_, _, rfl⟩, rfl⟩ rfl ?_
  obtain ⟨hi, h⟩ := h
  refine w_iald (q := 134) (v := (m.1 101 x4.toNatClampNeg)) hm59 ⟨⟨_, _, rfl⟩, rfl⟩ rfl hi rfl rfl ?_
  refine w_call (q := 137) (n := 5) (vs := [.inr (.inr (some 70)), .inl (m.1 100 x4.toNatClampNeg), .inl (m.1 101 x4.toNatClampNeg)]) (rest := []) (la := [oR 70, oI (m.1 100 x4.toNatClampNeg), oI (m.1 101 x4.toNatClampNeg), none, none, none, none, none]) hm59 ⟨⟨_, _, rfl⟩, rfl⟩ rfl rfl rfl rfl hm35 rfl rfl (fun _ => ⟨_, _, rfl, rfl⟩) rfl (Wp.mono h ?_)
  rintro _ m1 ⟨r1, rfl, h⟩
  change Wp _ _ 137 _ [.inl r1] _ _
  refine w_istore (q := 139) (l' := [oR 70, none, none, none, oI x4, oI r1, none]) hm59 ⟨⟨_, _, rfl⟩, rfl⟩ rfl rfl rfl ?_
  refine w_aload_n (q := 140) hm59 ⟨⟨_, _, rfl⟩, rfl⟩ rfl ?_
  refine w_getf (q := 143) (v := (m1.1 70 53)) hm59 ⟨⟨_, _, rfl⟩, rfl⟩ rfl rfl ?_
  refine w_if_eq (q := 146) (X := (m1.1 70 53).toInt) hm59 ⟨⟨_, _, rfl⟩, rfl⟩ rfl (fun hc => ?_) (fun hc => ?_)
  · have h := h.1 hc
    refine w_iload (q := 152) hm59 ⟨⟨_, _, rfl⟩, rfl⟩ rfl ?_
    exact w_reti hm59 ⟨⟨_, _, rfl⟩, rfl⟩ rfl h
  · have h := h.2 hc
    refine w_iconst (q := 147) hm59 ⟨⟨_, _, rfl⟩, rfl⟩ iconst_0 ?_
    refine w_goto (q := 152) hm59 ⟨_, _, rfl⟩ ?_
    exact w_reti hm59 ⟨⟨_, _, rfl⟩, rfl⟩ rfl h
theorem v_X12_within {d : Nat} {x0 : Int32} {x1 : Int32} {x2 : Int32} {m : dM} {Q : Int32 → dM → Prop} (h : ((x1.toInt ≤ x0.toInt → ((x0.toInt ≤ x2.toInt → Q x0 m) ∧ (x2.toInt < x0.toInt → Q x2 m))) ∧ (x0.toInt < x1.toInt → Q x1 m))) : c_X12_within (d + 1) x0 x1 x2 m Q := by
  refine w_iload_n (q := 1) hm37 ⟨⟨_, _, rfl⟩, rfl⟩ rfl ?_
  refine w_iload_n (q := 2) hm37 ⟨⟨_, _, rfl⟩, rfl⟩ rfl ?_
  refine w_icmp_ge (q := 5) (X := x0.toInt) (Y := x1.toInt) hm37 ⟨⟨_, _, rfl⟩, rfl⟩ rfl rfl (fun hc => ?_) (fun hc => ?_)
  · have h := h.1 hc
    refine w_iload_n (q := 10) hm37 ⟨⟨_, _, rfl⟩, rfl⟩ rfl ?_
    refine w_iload_n (q := 11) hm37 ⟨⟨_, _, rfl⟩, rfl⟩ rfl ?_
    refine w_icmp_le (q := 14) (X := x0.toInt) (Y := x2.toInt) hm37 ⟨⟨_, _, rfl⟩, rfl⟩ rfl rfl (fun hc => ?_) (fun hc => ?_)
    · have h := h.1 hc
      refine w_iload_n (q := 19) hm37 ⟨⟨_, _, rfl⟩, rfl⟩ rfl ?_
      exact w_reti hm37 ⟨⟨_, _, rfl⟩, rfl⟩ rfl h
    · have h := h.2 hc
      refine w_iload_n (q := 15) hm37 ⟨⟨_, _, rfl⟩, rfl⟩ rfl ?_
      refine w_goto (q := 19) hm37 ⟨_, _, rfl⟩ ?_
      exact w_reti hm37 ⟨⟨_, _, rfl⟩, rfl⟩ rfl h
  · have h := h.2 hc
    refine w_iload_n (q := 6) hm37 ⟨⟨_, _, rfl⟩, rfl⟩ rfl ?_
    refine w_goto (q := 19) hm37 ⟨_, _, rfl⟩ ?_
    exact w_reti hm37 ⟨⟨_, _, rfl⟩, rfl⟩ rfl h
theorem v_X12_quarrelOf_70 {d : Nat} {x1 : Int32} {m : dM} {Q : Int32 → dM → Prop} (h : c_X12_looks_70 d ((m.1 108 55) - (m.1 108 55) / (24 : Int32) * (24 : Int32)) x1 m (fun m1 => ((0 ≤ (((7 : Int32) * (m1.1 70 18)) + x1).toInt ∧ (((7 : Int32) * (m1.1 70 18)) + x1).toInt < 14) ∧ ((0 ≤ ((40 : Int32) + x1).toInt ∧ ((40 : Int32) + x1).toInt < 58) ∧ c_X12_lawTells_70 d (1 : Int32) (0 : Int32) (dSet (dSet m1 105 6 (m1.1 81 (((7 : Int32) * (m1.1 70 18)) + x1).toNatClampNeg)) 105 7 (m1.1 108 ((40 : Int32) + x1).toNatClampNeg)) (fun r2 m2 => c_X12_within d r2 (0 : Int32) (99 : Int32) m2 (fun r3 m3 => Q r3 m3)))))) : c_X12_quarrelOf_70 (d + 1) x1 m Q := by
  refine w_aload_n (q := 1) hm62 ⟨⟨_, _, rfl⟩, rfl⟩ rfl ?_
  refine w_aload_n (q := 2) hm62 ⟨⟨_, _, rfl⟩, rfl⟩ rfl ?_
  refine w_getr (q := 5) hm62 ⟨⟨_, _, rfl⟩, rfl⟩ rfl ?_
  refine w_bipush (q := 7) hm62 ⟨⟨_, _, rfl⟩, rfl⟩ bipush_55 ?_
  refine w_iald (q := 8) (j := 55) (v := (m.1 108 55)) hm62 ⟨⟨_, _, rfl⟩, rfl⟩ rfl (by decide) (by decide) rfl ?_
  refine w_bipush (q := 10) hm62 ⟨⟨_, _, rfl⟩, rfl⟩ bipush_24 ?_
  refine w_irem (q := 11) hm62 ⟨⟨_, _, rfl⟩, rfl⟩ (by decide) ?_
  refine w_iload_n (q := 12) hm62 ⟨⟨_, _, rfl⟩, rfl⟩ rfl ?_
  refine w_call (q := 15) (n := 1) (vs := [.inr (.inr (some 70)), .inl ((m.1 108 55) - (m.1 108 55) / (24 : Int32) * (24 : Int32)), .inl x1]) (rest := []) (la := [oR 70, oI ((m.1 108 55) - (m.1 108 55) / (24 : Int32) * (24 : Int32)), oI x1, none]) hm62 ⟨⟨_, _, rfl⟩, rfl⟩ rfl rfl rfl rfl hm58 rfl rfl (fun _ => ⟨_, _, rfl, rfl⟩) rfl (Wp.mono h ?_)
  rintro _ m1 ⟨rfl, h⟩
  change Wp _ _ 15 _ [] _ _
  refine w_aload_n (q := 16) hm62 ⟨⟨_, _, rfl⟩, rfl⟩ rfl ?_
  refine w_getr (q := 19) hm62 ⟨⟨_, _, rfl⟩, rfl⟩ rfl ?_
  refine w_bipush (q := 21) hm62 ⟨⟨_, _, rfl⟩, rfl⟩ bipush_6 ?_
  refine w_aload_n (q := 22) hm62 ⟨⟨_, _, rfl⟩, rfl⟩ rfl ?_
  refine w_getr (q := 25) hm62 ⟨⟨_, _, rfl⟩, rfl⟩ rfl ?_
  refine w_bipush (q := 27) hm62 ⟨⟨_, _, rfl⟩, rfl⟩ bipush_7 ?_
  refine w_aload_n (q := 28) hm62 ⟨⟨_, _, rfl⟩, rfl⟩ rfl ?_
  refine w_getf (q := 31) (v := (m1.1 70 18)) hm62 ⟨⟨_, _, rfl⟩, rfl⟩ rfl rfl ?_
  refine w_imul (q := 32) hm62 ⟨⟨_, _, rfl⟩, rfl⟩ ?_
  refine w_iload_n (q := 33) hm62 ⟨⟨_, _, rfl⟩, rfl⟩ rfl ?_
  refine w_iadd (q := 34) hm62 ⟨⟨_, _, rfl⟩, rfl⟩ ?_
  obtain ⟨hi, h⟩ := h
  refine w_iald (q := 35) (v := (m1.1 81 (((7 : Int32) * (m1.1 70 18)) + x1).toNatClampNeg)) hm62 ⟨⟨_, _, rfl⟩, rfl⟩ rfl hi rfl rfl ?_
  refine w_iast (q := 36) (j := 6) hm62 ⟨⟨_, _, rfl⟩, rfl⟩ rfl (by decide) (by decide) rfl ?_
  refine w_aload_n (q := 37) hm62 ⟨⟨_, _, rfl⟩, rfl⟩ rfl ?_
  refine w_getr (q := 40) hm62 ⟨⟨_, _, rfl⟩, rfl⟩ rfl ?_
  refine w_bipush (q := 42) hm62 ⟨⟨_, _, rfl⟩, rfl⟩ bipush_7 ?_
  refine w_aload_n (q := 43) hm62 ⟨⟨_, _, rfl⟩, rfl⟩ rfl ?_
  refine w_getr (q := 46) hm62 ⟨⟨_, _, rfl⟩, rfl⟩ rfl ?_
  refine w_bipush (q := 48) hm62 ⟨⟨_, _, rfl⟩, rfl⟩ bipush_40 ?_
  refine w_iload_n (q := 49) hm62 ⟨⟨_, _, rfl⟩, rfl⟩ rfl ?_
  refine w_iadd (q := 50) hm62 ⟨⟨_, _, rfl⟩, rfl⟩ ?_
  obtain ⟨hi, h⟩ := h
  refine w_iald (q := 51) (v := (m1.1 108 ((40 : Int32) + x1).toNatClampNeg)) hm62 ⟨⟨_, _, rfl⟩, rfl⟩ rfl hi rfl rfl ?_
  refine w_iast (q := 52) (j := 7) hm62 ⟨⟨_, _, rfl⟩, rfl⟩ rfl (by decide) (by decide) rfl ?_
  refine w_aload_n (q := 53) hm62 ⟨⟨_, _, rfl⟩, rfl⟩ rfl ?_
  refine w_iconst (q := 54) hm62 ⟨⟨_, _, rfl⟩, rfl⟩ iconst_1 ?_
  refine w_iconst (q := 55) hm62 ⟨⟨_, _, rfl⟩, rfl⟩ iconst_0 ?_
  refine w_call (q := 58) (n := 4) (vs := [.inr (.inr (some 70)), .inl (1 : Int32), .inl (0 : Int32)]) (rest := []) (la := [oR 70, oI (1 : Int32), oI (0 : Int32), none, none, none, none]) hm62 ⟨⟨_, _, rfl⟩, rfl⟩ rfl rfl rfl rfl hm59 rfl rfl (fun _ => ⟨_, _, rfl, rfl⟩) rfl (Wp.mono h ?_)
  rintro _ m2 ⟨r2, rfl, h⟩
  change Wp _ _ 58 _ [.inl r2] _ _
  refine w_iconst (q := 59) hm62 ⟨⟨_, _, rfl⟩, rfl⟩ iconst_0 ?_
  refine w_bipush (q := 61) hm62 ⟨⟨_, _, rfl⟩, rfl⟩ bipush_99 ?_
  refine w_call (q := 64) (n := 0) (vs := [.inl r2, .inl (0 : Int32), .inl (99 : Int32)]) (rest := []) (la := [oI r2, oI (0 : Int32), oI (99 : Int32)]) hm62 ⟨⟨_, _, rfl⟩, rfl⟩ rfl rfl rfl rfl hm37 rfl rfl (fun hz => absurd hz (by decide)) rfl (Wp.mono h ?_)
  rintro _ m3 ⟨r3, rfl, h⟩
  change Wp _ _ 64 _ [.inl r3] _ _
  exact w_reti hm62 ⟨⟨_, _, rfl⟩, rfl⟩ rfl h
theorem v_X12_flatAt_70 {d : Nat} {x1 : Int32} {m : dM} {Q : Int32 → dM → Prop} (h : ((0 ≤ (((8 : Int32) * (m.1 70 18)) + x1).toInt ∧ (((8 : Int32) * (m.1 70 18)) + x1).toInt < 16) ∧ Q (m.1 87 (((8 : Int32) * (m.1 70 18)) + x1).toNatClampNeg) m)) : c_X12_flatAt_70 (d + 1) x1 m Q := by
  refine w_aload_n (q := 1) hm53 ⟨⟨_, _, rfl⟩, rfl⟩ rfl ?_
  refine w_getr (q := 4) hm53 ⟨⟨_, _, rfl⟩, rfl⟩ rfl ?_
  refine w_bipush (q := 6) hm53 ⟨⟨_, _, rfl⟩, rfl⟩ bipush_8 ?_
  refine w_aload_n (q := 7) hm53 ⟨⟨_, _, rfl⟩, rfl⟩ rfl ?_
  refine w_getf (q := 10) (v := (m.1 70 18)) hm53 ⟨⟨_, _, rfl⟩, rfl⟩ rfl rfl ?_
  refine w_imul (q := 11) hm53 ⟨⟨_, _, rfl⟩, rfl⟩ ?_
  refine w_iload_n (q := 12) hm53 ⟨⟨_, _, rfl⟩, rfl⟩ rfl ?_
  refine w_iadd (q := 13) hm53 ⟨⟨_, _, rfl⟩, rfl⟩ ?_
  obtain ⟨hi, h⟩ := h
  refine w_iald (q := 14) (v := (m.1 87 (((8 : Int32) * (m.1 70 18)) + x1).toNatClampNeg)) hm53 ⟨⟨_, _, rfl⟩, rfl⟩ rfl hi rfl rfl ?_
  exact w_reti hm53 ⟨⟨_, _, rfl⟩, rfl⟩ rfl h
theorem v_X12_onAt_70 {d : Nat} {x1 : Int32} {m : dM} {Q : Int32 → dM → Prop} (h : j_X12_onAt_70_4 (d + 1) x1 (0 : Int32) (0 : Int32) m Q) : c_X12_onAt_70 (d + 1) x1 m Q := by
  refine w_iconst (q := 1) hm55 ⟨⟨_, _, rfl⟩, rfl⟩ iconst_0 ?_
  refine w_istore_n (q := 2) (l' := [oR 70, oI x1, oI (0 : Int32), none]) hm55 ⟨⟨_, _, rfl⟩, rfl⟩ rfl rfl rfl ?_
  refine w_iconst (q := 3) hm55 ⟨⟨_, _, rfl⟩, rfl⟩ iconst_0 ?_
  refine w_istore_n (q := 4) (l' := [oR 70, oI x1, oI (0 : Int32), oI (0 : Int32)]) hm55 ⟨⟨_, _, rfl⟩, rfl⟩ rfl rfl rfl ?_
  exact h
theorem v_X12_onAt_70_4 {d : Nat} {x1 : Int32} {x2 : Int32} {x3 : Int32} {m : dM} {Q : Int32 → dM → Prop} (h : ((0 ≤ (m.1 70 18).toInt ∧ (m.1 70 18).toInt < 2) ∧ (((m.1 86 (m.1 70 18).toNatClampNeg).toInt ≤ x3.toInt → Q x2 m) ∧ (x3.toInt < (m.1 86 (m.1 70 18).toNatClampNeg).toInt → ((0 ≤ ((47 : Int32) + x3).toInt ∧ ((47 : Int32) + x3).toInt < 58) ∧ (((m.1 108 ((47 : Int32) + x3).toNatClampNeg).toInt ≠ 1 → j_X12_onAt_70_83 (d + 1) x1 x2 x3 m Q) ∧ ((m.1 108 ((47 : Int32) + x3).toNatClampNeg).toInt = 1 → ((0 ≤ (((8 : Int32) * (m.1 70 18)) + x3).toInt ∧ (((8 : Int32) * (m.1 70 18)) + x3).toInt < 16) ∧ ((0 ≤ (((8 : Int32) * (m.1 70 18)) + x3).toInt ∧ (((8 : Int32) * (m.1 70 18)) + x3).toInt < 16) ∧ c_X12_in d x1 (m.1 89 (((8 : Int32) * (m.1 70 18)) + x3).toNatClampNeg) (m.1 90 (((8 : Int32) * (m.1 70 18)) + x3).toNatClampNeg) m (fun r1 m1 => ((r1.toInt = 0 → j_X12_onAt_70_83 (d + 1) x1 x2 x3 m1 Q) ∧ (r1.toInt ≠ 0 → c_X12_flatAt_70 d x3 m1 (fun r2 m2 => c_X12_isLit_70 d r2 m2 (fun r3 m3 => ((r3.toInt = 0 → j_X12_onAt_70_83 (d + 1) x1 x2 x3 m3 Q) ∧ (r3.toInt ≠ 0 → j_X12_onAt_70_83 (d + 1) x1 (x2 ||| ((1 : Int32) <<< (x3 &&& 31))) x3 m3 Q)))))))))))))))) : j_X12_onAt_70_4 (d + 1) x1 x2 x3 m Q := by
  refine w_iload_n (q := 5) hm55 ⟨⟨_, _, rfl⟩, rfl⟩ rfl ?_
  refine w_aload_n (q := 6) hm55 ⟨⟨_, _, rfl⟩, rfl⟩ rfl ?_
  refine w_getr (q := 9) hm55 ⟨⟨_, _, rfl⟩, rfl⟩ rfl ?_
  refine w_aload_n (q := 10) hm55 ⟨⟨_, _, rfl⟩, rfl⟩ rfl ?_
  refine w_getf (q := 13) (v := (m.1 70 18)) hm55 ⟨⟨_, _, rfl⟩, rfl⟩ rfl rfl ?_
  obtain ⟨hi, h⟩ := h
  refine w_iald (q := 14) (v := (m.1 86 (m.1 70 18).toNatClampNeg)) hm55 ⟨⟨_, _, rfl⟩, rfl⟩ rfl hi rfl rfl ?_
  refine w_icmp_ge (q := 17) (X := x3.toInt) (Y := (m.1 86 (m.1 70 18).toNatClampNeg).toInt) hm55 ⟨⟨_, _, rfl⟩, rfl⟩ rfl rfl (fun hc => ?_) (fun hc => ?_)
  · have h := h.1 hc
    refine w_iload_n (q := 90) hm55 ⟨⟨_, _, rfl⟩, rfl⟩ rfl ?_
    exact w_reti hm55 ⟨⟨_, _, rfl⟩, rfl⟩ rfl h
  · have h := h.2 hc
    refine w_aload_n (q := 18) hm55 ⟨⟨_, _, rfl⟩, rfl⟩ rfl ?_
    refine w_getr (q := 21) hm55 ⟨⟨_, _, rfl⟩, rfl⟩ rfl ?_
    refine w_bipush (q := 23) hm55 ⟨⟨_, _, rfl⟩, rfl⟩ bipush_47 ?_
    refine w_iload_n (q := 24) hm55 ⟨⟨_, _, rfl⟩, rfl⟩ rfl ?_
    refine w_iadd (q := 25) hm55 ⟨⟨_, _, rfl⟩, rfl⟩ ?_
    obtain ⟨hi, h⟩ := h
    refine w_iald (q := 26) (v := (m.1 108 ((47 : Int32) + x3).toNatClampNeg)) hm55 ⟨⟨_, _, rfl⟩, rfl⟩ rfl hi rfl rfl ?_
    refine w_iconst (q := 27) hm55 ⟨⟨_, _, rfl⟩, rfl⟩ iconst_1 ?_
    refine w_icmp_ne (q := 30) (X := (m.1 108 ((47 : Int32) + x3).toNatClampNeg).toInt) (Y := 1) hm55 ⟨⟨_, _, rfl⟩, rfl⟩ rfl (by decide) (fun hc => ?_) (fun hc => ?_)
    · have h := h.1 hc
      exact h
    · have h := h.2 hc
      refine w_iload_n (q := 31) hm55 ⟨⟨_, _, rfl⟩, rfl⟩ rfl ?_
      refine w_aload_n (q := 32) hm55 ⟨⟨_, _, rfl⟩, rfl⟩ rfl ?_
      refine w_getr (q := 35) hm55 ⟨⟨_, _, rfl⟩, rfl⟩ rfl ?_
      refine w_bipush (q := 37) hm55 ⟨⟨_, _, rfl⟩, rfl⟩ bipush_8 ?_
      refine w_aload_n (q := 38) hm55 ⟨⟨_, _, rfl⟩, rfl⟩ rfl ?_
      refine w_getf (q := 41) (v := (m.1 70 18)) hm55 ⟨⟨_, _, rfl⟩, rfl⟩ rfl rfl ?_
      refine w_imul (q := 42) hm55 ⟨⟨_, _, rfl⟩, rfl⟩ ?_
      refine w_iload_n (q := 43) hm55 ⟨⟨_, _, rfl⟩, rfl⟩ rfl ?_
      refine w_iadd (q := 44) hm55 ⟨⟨_, _, rfl⟩, rfl⟩ ?_
      obtain ⟨hi, h⟩ := h
      refine w_iald (q := 45) (v := (m.1 89 (((8 : Int32) * (m.1 70 18)) + x3).toNatClampNeg)) hm55 ⟨⟨_, _, rfl⟩, rfl⟩ rfl hi rfl rfl ?_
      refine w_aload_n (q := 46) hm55 ⟨⟨_, _, rfl⟩, rfl⟩ rfl ?_
      refine w_getr (q := 49) hm55 ⟨⟨_, _, rfl⟩, rfl⟩ rfl ?_
      refine w_bipush (q := 51) hm55 ⟨⟨_, _, rfl⟩, rfl⟩ bipush_8 ?_
      refine w_aload_n (q := 52) hm55 ⟨⟨_, _, rfl⟩, rfl⟩ rfl ?_
      refine w_getf (q := 55) (v := (m.1 70 18)) hm55 ⟨⟨_, _, rfl⟩, rfl⟩ rfl rfl ?_
      refine w_imul (q := 56) hm55 ⟨⟨_, _, rfl⟩, rfl⟩ ?_
      refine w_iload_n (q := 57) hm55 ⟨⟨_, _, rfl⟩, rfl⟩ rfl ?_
      refine w_iadd (q := 58) hm55 ⟨⟨_, _, rfl⟩, rfl⟩ ?_
      obtain ⟨hi, h⟩ := h
      refine w_iald (q := 59) (v := (m.1 90 (((8 : Int32) * (m.1 70 18)) + x3).toNatClampNeg)) hm55 ⟨⟨_, _, rfl⟩, rfl⟩ rfl hi rfl rfl ?_
      refine w_call (q := 62) (n := 0) (vs := [.inl x1, .inl (m.1 89 (((8 : Int32) * (m.1 70 18)) + x3).toNatClampNeg), .inl (m.1 90 (((8 : Int32) * (m.1 70 18)) + x3).toNatClampNeg)]) (rest := []) (la := [oI x1, oI (m.1 89 (((8 : Int32) * (m.1 70 18)) + x3).toNatClampNeg), oI (m.1 90 (((8 : Int32) * (m.1 70 18)) + x3).toNatClampNeg)]) hm55 ⟨⟨_, _, rfl⟩, rfl⟩ rfl rfl rfl rfl hm36 rfl rfl (fun hz => absurd hz (by decide)) rfl (Wp.mono h ?_)
      rintro _ m1 ⟨r1, rfl, h⟩
      change Wp _ _ 62 _ [.inl r1] _ _
      refine w_if_eq (q := 65) (X := r1.toInt) hm55 ⟨⟨_, _, rfl⟩, rfl⟩ rfl (fun hc => ?_) (fun hc => ?_)
      · have h := h.1 hc
        exact h
      · have h := h.2 hc
        refine w_aload_n (q := 66) hm55 ⟨⟨_, _, rfl⟩, rfl⟩ rfl ?_
        refine w_aload_n (q := 67) hm55 ⟨⟨_, _, rfl⟩, rfl⟩ rfl ?_
        refine w_iload_n (q := 68) hm55 ⟨⟨_, _, rfl⟩, rfl⟩ rfl ?_
        refine w_call (q := 71) (n := 0) (vs := [.inr (.inr (some 70)), .inl x3]) (rest := [.inr (.inr (some 70))]) (la := [oR 70, oI x3]) hm55 ⟨⟨_, _, rfl⟩, rfl⟩ rfl rfl rfl rfl hm53 rfl rfl (fun _ => ⟨_, _, rfl, rfl⟩) rfl (Wp.mono h ?_)
        rintro _ m2 ⟨r2, rfl, h⟩
        change Wp _ _ 71 _ [.inl r2, .inr (.inr (some 70))] _ _
        refine w_call (q := 74) (n := 0) (vs := [.inr (.inr (some 70)), .inl r2]) (rest := []) (la := [oR 70, oI r2]) hm55 ⟨⟨_, _, rfl⟩, rfl⟩ rfl rfl rfl rfl hm51 rfl rfl (fun _ => ⟨_, _, rfl, rfl⟩) rfl (Wp.mono h ?_)
        rintro _ m3 ⟨r3, rfl, h⟩
        change Wp _ _ 74 _ [.inl r3] _ _
        refine w_if_eq (q := 77) (X := r3.toInt) hm55 ⟨⟨_, _, rfl⟩, rfl⟩ rfl (fun hc => ?_) (fun hc => ?_)
        · have h := h.1 hc
          exact h
        · have h := h.2 hc
          refine w_iload_n (q := 78) hm55 ⟨⟨_, _, rfl⟩, rfl⟩ rfl ?_
          refine w_iconst (q := 79) hm55 ⟨⟨_, _, rfl⟩, rfl⟩ iconst_1 ?_
          refine w_iload_n (q := 80) hm55 ⟨⟨_, _, rfl⟩, rfl⟩ rfl ?_
          refine w_ishl (q := 81) hm55 ⟨⟨_, _, rfl⟩, rfl⟩ ?_
          refine w_ior (q := 82) hm55 ⟨⟨_, _, rfl⟩, rfl⟩ ?_
          refine w_istore_n (q := 83) (l' := [oR 70, oI x1, oI (x2 ||| ((1 : Int32) <<< (x3 &&& 31))), oI x3]) hm55 ⟨⟨_, _, rfl⟩, rfl⟩ rfl rfl rfl ?_
          exact h
theorem v_X12_onAt_70_83 {d : Nat} {x1 : Int32} {x2 : Int32} {x3 : Int32} {m : dM} {Q : Int32 → dM → Prop} (h : j_X12_onAt_70_4 (d + 1) x1 x2 (x3 + (1 : Int32)) m Q) : j_X12_onAt_70_83 (d + 1) x1 x2 x3 m Q := by
  refine w_iinc (q := 86) (l' := [oR 70, oI x1, oI x2, oI (x3 + (1 : Int32))]) hm55 ⟨⟨_, _, rfl⟩, rfl⟩ rfl rfl rfl iconst_1 rfl ?_
  refine w_goto (q := 4) hm55 ⟨_, _, rfl⟩ ?_
  exact h
theorem v_X12_onNow_70 {d : Nat} {m : dM} {Q : Int32 → dM → Prop} (h : c_X12_onAt_70 d ((m.1 108 55) - (m.1 108 55) / (24 : Int32) * (24 : Int32)) m (fun r1 m1 => Q r1 m1)) : c_X12_onNow_70 (d + 1) m Q := by
  refine w_aload_n (q := 1) hm56 ⟨⟨_, _, rfl⟩, rfl⟩ rfl ?_
  refine w_aload_n (q := 2) hm56 ⟨⟨_, _, rfl⟩, rfl⟩ rfl ?_
  refine w_getr (q := 5) hm56 ⟨⟨_, _, rfl⟩, rfl⟩ rfl ?_
  refine w_bipush (q := 7) hm56 ⟨⟨_, _, rfl⟩, rfl⟩ bipush_55 ?_
  refine w_iald (q := 8) (j := 55) (v := (m.1 108 55)) hm56 ⟨⟨_, _, rfl⟩, rfl⟩ rfl (by decide) (by decide) rfl ?_
  refine w_bipush (q := 10) hm56 ⟨⟨_, _, rfl⟩, rfl⟩ bipush_24 ?_
  refine w_irem (q := 11) hm56 ⟨⟨_, _, rfl⟩, rfl⟩ (by decide) ?_
  refine w_call (q := 14) (n := 2) (vs := [.inr (.inr (some 70)), .inl ((m.1 108 55) - (m.1 108 55) / (24 : Int32) * (24 : Int32))]) (rest := []) (la := [oR 70, oI ((m.1 108 55) - (m.1 108 55) / (24 : Int32) * (24 : Int32)), none, none]) hm56 ⟨⟨_, _, rfl⟩, rfl⟩ rfl rfl rfl rfl hm55 rfl rfl (fun _ => ⟨_, _, rfl, rfl⟩) rfl (Wp.mono h ?_)
  rintro _ m1 ⟨r1, rfl, h⟩
  change Wp _ _ 14 _ [.inl r1] _ _
  exact w_reti hm56 ⟨⟨_, _, rfl⟩, rfl⟩ rfl h
theorem v_X12_ampsAt_70 {d : Nat} {x1 : Int32} {m : dM} {Q : Int32 → dM → Prop} (h : ((0 ≤ (((8 : Int32) * (m.1 70 18)) + x1).toInt ∧ (((8 : Int32) * (m.1 70 18)) + x1).toInt < 16) ∧ Q (m.1 88 (((8 : Int32) * (m.1 70 18)) + x1).toNatClampNeg) m)) : c_X12_ampsAt_70 (d + 1) x1 m Q := by
  refine w_aload_n (q := 1) hm54 ⟨⟨_, _, rfl⟩, rfl⟩ rfl ?_
  refine w_getr (q := 4) hm54 ⟨⟨_, _, rfl⟩, rfl⟩ rfl ?_
  refine w_bipush (q := 6) hm54 ⟨⟨_, _, rfl⟩, rfl⟩ bipush_8 ?_
  refine w_aload_n (q := 7) hm54 ⟨⟨_, _, rfl⟩, rfl⟩ rfl ?_
  refine w_getf (q := 10) (v := (m.1 70 18)) hm54 ⟨⟨_, _, rfl⟩, rfl⟩ rfl rfl ?_
  refine w_imul (q := 11) hm54 ⟨⟨_, _, rfl⟩, rfl⟩ ?_
  refine w_iload_n (q := 12) hm54 ⟨⟨_, _, rfl⟩, rfl⟩ rfl ?_
  refine w_iadd (q := 13) hm54 ⟨⟨_, _, rfl⟩, rfl⟩ ?_
  obtain ⟨hi, h⟩ := h
  refine w_iald (q := 14) (v := (m.1 88 (((8 : Int32) * (m.1 70 18)) + x1).toNatClampNeg)) hm54 ⟨⟨_, _, rfl⟩, rfl⟩ rfl hi rfl rfl ?_
  exact w_reti hm54 ⟨⟨_, _, rfl⟩, rfl⟩ rfl h
theorem v_X12_ampsOn_70 {d : Nat} {x1 : Int32} {m : dM} {Q : Int32 → dM → Prop} (h : c_X12_onNow_70 d m (fun r1 m1 => j_X12_ampsOn_70_10 (d + 1) x1 r1 (0 : Int32) (0 : Int32) m1 Q)) : c_X12_ampsOn_70 (d + 1) x1 m Q := by
  refine w_aload_n (q := 1) hm70 ⟨⟨_, _, rfl⟩, rfl⟩ rfl ?_
  refine w_call (q := 4) (n := 0) (vs := [.inr (.inr (some 70))]) (rest := []) (la := [oR 70]) hm70 ⟨⟨_, _, rfl⟩, rfl⟩ rfl rfl rfl rfl hm56 rfl rfl (fun _ => ⟨_, _, rfl, rfl⟩) rfl (Wp.mono h ?_)
  rintro _ m1 ⟨r1, rfl, h⟩
  change Wp _ _ 4 _ [.inl r1] _ _
  refine w_istore_n (q := 5) (l' := [oR 70, oI x1, oI r1, none, none]) hm70 ⟨⟨_, _, rfl⟩, rfl⟩ rfl rfl rfl ?_
  refine w_iconst (q := 6) hm70 ⟨⟨_, _, rfl⟩, rfl⟩ iconst_0 ?_
  refine w_istore_n (q := 7) (l' := [oR 70, oI x1, oI r1, oI (0 : Int32), none]) hm70 ⟨⟨_, _, rfl⟩, rfl⟩ rfl rfl rfl ?_
  refine w_iconst (q := 8) hm70 ⟨⟨_, _, rfl⟩, rfl⟩ iconst_0 ?_
  refine w_istore (q := 10) (l' := [oR 70, oI x1, oI r1, oI (0 : Int32), oI (0 : Int32)]) hm70 ⟨⟨_, _, rfl⟩, rfl⟩ rfl rfl rfl ?_
  exact h
theorem v_X12_ampsOn_70_10 {d : Nat} {x1 : Int32} {x2 : Int32} {x3 : Int32} {x4 : Int32} {m : dM} {Q : Int32 → dM → Prop} (h : ((0 ≤ (m.1 70 18).toInt ∧ (m.1 70 18).toInt < 2) ∧ (((m.1 86 (m.1 70 18).toNatClampNeg).toInt ≤ x4.toInt → Q x3 m) ∧ (x4.toInt < (m.1 86 (m.1 70 18).toNatClampNeg).toInt → ((((x2 >>> (x4 &&& 31)) &&& (1 : Int32)).toInt ≠ 1 → j_X12_ampsOn_70_53 (d + 1) x1 x2 x3 x4 m Q) ∧ (((x2 >>> (x4 &&& 31)) &&& (1 : Int32)).toInt = 1 → c_X12_flatAt_70 d x4 m (fun r1 m1 => ((r1.toInt ≠ x1.toInt → j_X12_ampsOn_70_53 (d + 1) x1 x2 x3 x4 m1 Q) ∧ (r1.toInt = x1.toInt → c_X12_ampsAt_70 d x4 m1 (fun r2 m2 => j_X12_ampsOn_70_53 (d + 1) x1 x2 (x3 + r2) x4 m2 Q)))))))))) : j_X12_ampsOn_70_10 (d + 1) x1 x2 x3 x4 m Q := by
  refine w_iload (q := 12) hm70 ⟨⟨_, _, rfl⟩, rfl⟩ rfl ?_
  refine w_aload_n (q := 13) hm70 ⟨⟨_, _, rfl⟩, rfl⟩ rfl ?_
  refine w_getr (q := 16) hm70 ⟨⟨_, _, rfl⟩, rfl⟩ rfl ?_
  refine w_aload_n (q := 17) hm70 ⟨⟨_, _, rfl⟩, rfl⟩ rfl ?_
  refine w_getf (q := 20) (v := (m.1 70 18)) hm70 ⟨⟨_, _, rfl⟩, rfl⟩ rfl rfl ?_
  obtain ⟨hi, h⟩ := h
  refine w_iald (q := 21) (v := (m.1 86 (m.1 70 18).toNatClampNeg)) hm70 ⟨⟨_, _, rfl⟩, rfl⟩ rfl hi rfl rfl ?_
  refine w_icmp_ge (q := 24) (X := x4.toInt) (Y := (m.1 86 (m.1 70 18).toNatClampNeg).toInt) hm70 ⟨⟨_, _, rfl⟩, rfl⟩ rfl rfl (fun hc => ?_) (fun hc => ?_)
  · have h := h.1 hc
    refine w_iload_n (q := 60) hm70 ⟨⟨_, _, rfl⟩, rfl⟩ rfl ?_
    exact w_reti hm70 ⟨⟨_, _, rfl⟩, rfl⟩ rfl h
  · have h := h.2 hc
    refine w_iload_n (q := 25) hm70 ⟨⟨_, _, rfl⟩, rfl⟩ rfl ?_
    refine w_iload (q := 27) hm70 ⟨⟨_, _, rfl⟩, rfl⟩ rfl ?_
    refine w_ishr (q := 28) hm70 ⟨⟨_, _, rfl⟩, rfl⟩ ?_
    refine w_iconst (q := 29) hm70 ⟨⟨_, _, rfl⟩, rfl⟩ iconst_1 ?_
    refine w_iand (q := 30) hm70 ⟨⟨_, _, rfl⟩, rfl⟩ ?_
    refine w_iconst (q := 31) hm70 ⟨⟨_, _, rfl⟩, rfl⟩ iconst_1 ?_
    refine w_icmp_ne (q := 34) (X := ((x2 >>> (x4 &&& 31)) &&& (1 : Int32)).toInt) (Y := 1) hm70 ⟨⟨_, _, rfl⟩, rfl⟩ rfl (by decide) (fun hc => ?_) (fun hc => ?_)
    · have h := h.1 hc
      exact h
    · have h := h.2 hc
      refine w_aload_n (q := 35) hm70 ⟨⟨_, _, rfl⟩, rfl⟩ rfl ?_
      refine w_iload (q := 37) hm70 ⟨⟨_, _, rfl⟩, rfl⟩ rfl ?_
      refine w_call (q := 40) (n := 0) (vs := [.inr (.inr (some 70)), .inl x4]) (rest := []) (la := [oR 70, oI x4]) hm70 ⟨⟨_, _, rfl⟩, rfl⟩ rfl rfl rfl rfl hm53 rfl rfl (fun _ => ⟨_, _, rfl, rfl⟩) rfl (Wp.mono h ?_)
      rintro _ m1 ⟨r1, rfl, h⟩
      change Wp _ _ 40 _ [.inl r1] _ _
      refine w_iload_n (q := 41) hm70 ⟨⟨_, _, rfl⟩, rfl⟩ rfl ?_
      refine w_icmp_ne (q := 44) (X := r1.toInt) (Y := x1.toInt) hm70 ⟨⟨_, _, rfl⟩, rfl⟩ rfl rfl (fun hc => ?_) (fun hc => ?_)
      · have h := h.1 hc
        exact h
      · have h := h.2 hc
        refine w_iload_n (q := 45) hm70 ⟨⟨_, _, rfl⟩, rfl⟩ rfl ?_
        refine w_aload_n (q := 46) hm70 ⟨⟨_, _, rfl⟩, rfl⟩ rfl ?_
        refine w_iload (q := 48) hm70 ⟨⟨_, _, rfl⟩, rfl⟩ rfl ?_
        refine w_call (q := 51) (n := 0) (vs := [.inr (.inr (some 70)), .inl x4]) (rest := [.inl x3]) (la := [oR 70, oI x4]) hm70 ⟨⟨_, _, rfl⟩, rfl⟩ rfl rfl rfl rfl hm54 rfl rfl (fun _ => ⟨_, _, rfl, rfl⟩) rfl (Wp.mono h ?_)
        rintro _ m2 ⟨r2, rfl, h⟩
        change Wp _ _ 51 _ [.inl r2, .inl x3] _ _
        refine w_iadd (q := 52) hm70 ⟨⟨_, _, rfl⟩, rfl⟩ ?_
        refine w_istore_n (q := 53) (l' := [oR 70, oI x1, oI x2, oI (x3 + r2), oI x4]) hm70 ⟨⟨_, _, rfl⟩, rfl⟩ rfl rfl rfl ?_
        exact h
theorem v_X12_ampsOn_70_53 {d : Nat} {x1 : Int32} {x2 : Int32} {x3 : Int32} {x4 : Int32} {m : dM} {Q : Int32 → dM → Prop} (h : j_X12_ampsOn_70_10 (d + 1) x1 x2 x3 (x4 + (1 : Int32)) m Q) : j_X12_ampsOn_70_53 (d + 1) x1 x2 x3 x4 m Q := by
  refine w_iinc (q := 56) (l' := [oR 70, oI x1, oI x2, oI x3, oI (x4 + (1 : Int32))]) hm70 ⟨⟨_, _, rfl⟩, rfl⟩ rfl rfl rfl iconst_1 rfl ?_
  refine w_goto (q := 10) hm70 ⟨_, _, rfl⟩ ?_
  exact h
theorem v_X12_flat_70 {d : Nat} {x1 : Int32} {x2 : Int32} {m : dM} {Q : Int32 → dM → Prop} (h : c_X12_isFlat_70 d x1 m (fun r1 m1 => ((r1.toInt ≠ 0 → c_X12_copies_70 d m1 (fun m2 => ((x2.toInt = 0 → ((0 ≤ (((7 : Int32) * (m2.1 70 18)) + x1).toInt ∧ (((7 : Int32) * (m2.1 70 18)) + x1).toInt < 14) ∧ Q (m2.1 81 (((7 : Int32) * (m2.1 70 18)) + x1).toNatClampNeg) m2)) ∧ (x2.toInt = 1 → c_X12_isLit_70 d x1 m2 (fun r3 m3 => ((r3.toInt = 0 → Q (0 : Int32) m3) ∧ (r3.toInt ≠ 0 → Q (1 : Int32) m3)))) ∧ (x2.toInt = 2 → ((0 ≤ ((40 : Int32) + x1).toInt ∧ ((40 : Int32) + x1).toInt < 58) ∧ Q (m2.1 108 ((40 : Int32) + x1).toNatClampNeg) m2)) ∧ (x2.toInt = 3 → c_X12_isLit_70 d x1 m2 (fun r4 m4 => ((r4.toInt = 0 → Q (-2 : Int32) m4) ∧ (r4.toInt ≠ 0 → ((0 ≤ x1.toInt ∧ x1.toInt < 7) ∧ Q (m4.1 109 x1.toNatClampNeg) m4))))) ∧ (x2.toInt = 4 → c_X12_quarrelOf_70 d x1 m2 (fun r5 m5 => Q r5 m5)) ∧ (x2.toInt = 5 → c_X12_ampsOn_70 d x1 m2 (fun r6 m6 => Q r6 m6)) ∧ (x2.toInt < 0 ∨ 5 < x2.toInt → Q (-1 : Int32) m2)))) ∧ (r1.toInt = 0 → Q (-1 : Int32) m1)))) : c_X12_flat_70 (d + 1) x1 x2 m Q := by
  refine w_aload_n (q := 1) hm69 ⟨⟨_, _, rfl⟩, rfl⟩ rfl ?_
  refine w_iload_n (q := 2) hm69 ⟨⟨_, _, rfl⟩, rfl⟩ rfl ?_
  refine w_call (q := 5) (n := 0) (vs := [.inr (.inr (some 70)), .inl x1]) (rest := []) (la := [oR 70, oI x1]) hm69 ⟨⟨_, _, rfl⟩, rfl⟩ rfl rfl rfl rfl hm39 rfl rfl (fun _ => ⟨_, _, rfl, rfl⟩) rfl (Wp.mono h ?_)
  rintro _ m1 ⟨r1, rfl, h⟩
  change Wp _ _ 5 _ [.inl r1] _ _
  refine w_if_ne (q := 8) (X := r1.toInt) hm69 ⟨⟨_, _, rfl⟩, rfl⟩ rfl (fun hc => ?_) (fun hc => ?_)
  · have h := h.1 hc
    refine w_aload_n (q := 11) hm69 ⟨⟨_, _, rfl⟩, rfl⟩ rfl ?_
    refine w_call (q := 14) (n := 1) (vs := [.inr (.inr (some 70))]) (rest := []) (la := [oR 70, none]) hm69 ⟨⟨_, _, rfl⟩, rfl⟩ rfl rfl rfl rfl hm44 rfl rfl (fun _ => ⟨_, _, rfl, rfl⟩) rfl (Wp.mono h ?_)
    rintro _ m2 ⟨rfl, h⟩
    change Wp _ _ 14 _ [] _ _
    refine w_iload_n (q := 15) hm69 ⟨⟨_, _, rfl⟩, rfl⟩ rfl ?_
    refine w_tsw (X := x2.toInt) hm69 ⟨_, _, rfl⟩ (by decide) (by decide) rfl ((And.intro (fun hc => ?_) (And.intro (fun hc => ?_) (And.intro (fun hc => ?_) (And.intro (fun hc => ?_) (And.intro (fun hc => ?_) (And.intro (fun hc => ?_) trivial))))))) (fun hc => ?_)
    · have h := (h.1) hc
      change Wp _ _ 52 _ _ _ _
      refine w_aload_n (q := 53) hm69 ⟨⟨_, _, rfl⟩, rfl⟩ rfl ?_
      refine w_getr (q := 56) hm69 ⟨⟨_, _, rfl⟩, rfl⟩ rfl ?_
      refine w_bipush (q := 58) hm69 ⟨⟨_, _, rfl⟩, rfl⟩ bipush_7 ?_
      refine w_aload_n (q := 59) hm69 ⟨⟨_, _, rfl⟩, rfl⟩ rfl ?_
      refine w_getf (q := 62) (v := (m2.1 70 18)) hm69 ⟨⟨_, _, rfl⟩, rfl⟩ rfl rfl ?_
      refine w_imul (q := 63) hm69 ⟨⟨_, _, rfl⟩, rfl⟩ ?_
      refine w_iload_n (q := 64) hm69 ⟨⟨_, _, rfl⟩, rfl⟩ rfl ?_
      refine w_iadd (q := 65) hm69 ⟨⟨_, _, rfl⟩, rfl⟩ ?_
      obtain ⟨hi, h⟩ := h
      refine w_iald (q := 66) (v := (m2.1 81 (((7 : Int32) * (m2.1 70 18)) + x1).toNatClampNeg)) hm69 ⟨⟨_, _, rfl⟩, rfl⟩ rfl hi rfl rfl ?_
      exact w_reti hm69 ⟨⟨_, _, rfl⟩, rfl⟩ rfl h
    · have h := (h.2.1) hc
      change Wp _ _ 67 _ _ _ _
      refine w_aload_n (q := 68) hm69 ⟨⟨_, _, rfl⟩, rfl⟩ rfl ?_
      refine w_iload_n (q := 69) hm69 ⟨⟨_, _, rfl⟩, rfl⟩ rfl ?_
      refine w_call (q := 72) (n := 0) (vs := [.inr (.inr (some 70)), .inl x1]) (rest := []) (la := [oR 70, oI x1]) hm69 ⟨⟨_, _, rfl⟩, rfl⟩ rfl rfl rfl rfl hm51 rfl rfl (fun _ => ⟨_, _, rfl, rfl⟩) rfl (Wp.mono h ?_)
      rintro _ m3 ⟨r3, rfl, h⟩
      change Wp _ _ 72 _ [.inl r3] _ _
      refine w_if_eq (q := 75) (X := r3.toInt) hm69 ⟨⟨_, _, rfl⟩, rfl⟩ rfl (fun hc => ?_) (fun hc => ?_)
      · have h := h.1 hc
        refine w_iconst (q := 80) hm69 ⟨⟨_, _, rfl⟩, rfl⟩ iconst_0 ?_
        exact w_reti hm69 ⟨⟨_, _, rfl⟩, rfl⟩ rfl h
      · have h := h.2 hc
        refine w_iconst (q := 76) hm69 ⟨⟨_, _, rfl⟩, rfl⟩ iconst_1 ?_
        refine w_goto (q := 80) hm69 ⟨_, _, rfl⟩ ?_
        exact w_reti hm69 ⟨⟨_, _, rfl⟩, rfl⟩ rfl h
    · have h := (h.2.2.1) hc
      change Wp _ _ 81 _ _ _ _
      refine w_aload_n (q := 82) hm69 ⟨⟨_, _, rfl⟩, rfl⟩ rfl ?_
      refine w_getr (q := 85) hm69 ⟨⟨_, _, rfl⟩, rfl⟩ rfl ?_
      refine w_bipush (q := 87) hm69 ⟨⟨_, _, rfl⟩, rfl⟩ bipush_40 ?_
      refine w_iload_n (q := 88) hm69 ⟨⟨_, _, rfl⟩, rfl⟩ rfl ?_
      refine w_iadd (q := 89) hm69 ⟨⟨_, _, rfl⟩, rfl⟩ ?_
      obtain ⟨hi, h⟩ := h
      refine w_iald (q := 90) (v := (m2.1 108 ((40 : Int32) + x1).toNatClampNeg)) hm69 ⟨⟨_, _, rfl⟩, rfl⟩ rfl hi rfl rfl ?_
      exact w_reti hm69 ⟨⟨_, _, rfl⟩, rfl⟩ rfl h
    · have h := (h.2.2.2.1) hc
      change Wp _ _ 91 _ _ _ _
      refine w_aload_n (q := 92) hm69 ⟨⟨_, _, rfl⟩, rfl⟩ rfl ?_
      refine w_iload_n (q := 93) hm69 ⟨⟨_, _, rfl⟩, rfl⟩ rfl ?_
      refine w_call (q := 96) (n := 0) (vs := [.inr (.inr (some 70)), .inl x1]) (rest := []) (la := [oR 70, oI x1]) hm69 ⟨⟨_, _, rfl⟩, rfl⟩ rfl rfl rfl rfl hm51 rfl rfl (fun _ => ⟨_, _, rfl, rfl⟩) rfl (Wp.mono h ?_)
      rintro _ m4 ⟨r4, rfl, h⟩
      change Wp _ _ 96 _ [.inl r4] _ _
      refine w_if_eq (q := 99) (X := r4.toInt) hm69 ⟨⟨_, _, rfl⟩, rfl⟩ rfl (fun hc => ?_) (fun hc => ?_)
      · have h := h.1 hc
        refine w_bipush (q := 110) hm69 ⟨⟨_, _, rfl⟩, rfl⟩ bipush_m2 ?_
        exact w_reti hm69 ⟨⟨_, _, rfl⟩, rfl⟩ rfl h
      · have h := h.2 hc
        refine w_aload_n (q := 100) hm69 ⟨⟨_, _, rfl⟩, rfl⟩ rfl ?_
        refine w_getr (q := 103) hm69 ⟨⟨_, _, rfl⟩, rfl⟩ rfl ?_
        refine w_iload_n (q := 104) hm69 ⟨⟨_, _, rfl⟩, rfl⟩ rfl ?_
        obtain ⟨hi, h⟩ := h
        refine w_iald (q := 105) (v := (m4.1 109 x1.toNatClampNeg)) hm69 ⟨⟨_, _, rfl⟩, rfl⟩ rfl hi rfl rfl ?_
        refine w_goto (q := 110) hm69 ⟨_, _, rfl⟩ ?_
        exact w_reti hm69 ⟨⟨_, _, rfl⟩, rfl⟩ rfl h
    · have h := (h.2.2.2.2.1) hc
      change Wp _ _ 111 _ _ _ _
      refine w_aload_n (q := 112) hm69 ⟨⟨_, _, rfl⟩, rfl⟩ rfl ?_
      refine w_iload_n (q := 113) hm69 ⟨⟨_, _, rfl⟩, rfl⟩ rfl ?_
      refine w_call (q := 116) (n := 0) (vs := [.inr (.inr (some 70)), .inl x1]) (rest := []) (la := [oR 70, oI x1]) hm69 ⟨⟨_, _, rfl⟩, rfl⟩ rfl rfl rfl rfl hm62 rfl rfl (fun _ => ⟨_, _, rfl, rfl⟩) rfl (Wp.mono h ?_)
      rintro _ m5 ⟨r5, rfl, h⟩
      change Wp _ _ 116 _ [.inl r5] _ _
      exact w_reti hm69 ⟨⟨_, _, rfl⟩, rfl⟩ rfl h
    · have h := (h.2.2.2.2.2.1) hc
      change Wp _ _ 117 _ _ _ _
      refine w_aload_n (q := 118) hm69 ⟨⟨_, _, rfl⟩, rfl⟩ rfl ?_
      refine w_iload_n (q := 119) hm69 ⟨⟨_, _, rfl⟩, rfl⟩ rfl ?_
      refine w_call (q := 122) (n := 3) (vs := [.inr (.inr (some 70)), .inl x1]) (rest := []) (la := [oR 70, oI x1, none, none, none]) hm69 ⟨⟨_, _, rfl⟩, rfl⟩ rfl rfl rfl rfl hm70 rfl rfl (fun _ => ⟨_, _, rfl, rfl⟩) rfl (Wp.mono h ?_)
      rintro _ m6 ⟨r6, rfl, h⟩
      change Wp _ _ 122 _ [.inl r6] _ _
      exact w_reti hm69 ⟨⟨_, _, rfl⟩, rfl⟩ rfl h
    · have h := (h.2.2.2.2.2.2) hc
      change Wp _ _ 123 _ _ _ _
      refine w_iconst (q := 124) hm69 ⟨⟨_, _, rfl⟩, rfl⟩ iconst_m1 ?_
      exact w_reti hm69 ⟨⟨_, _, rfl⟩, rfl⟩ rfl h
  · have h := h.2 hc
    refine w_iconst (q := 9) hm69 ⟨⟨_, _, rfl⟩, rfl⟩ iconst_m1 ?_
    exact w_reti hm69 ⟨⟨_, _, rfl⟩, rfl⟩ rfl h
theorem v_X11_isWire_0 {d : Nat} {x1 : Int32} {m : dM} {Q : Int32 → dM → Prop} (h : ((x1.toInt < 0 → j_X11_isWire_0_19 (d + 1) m Q) ∧ (0 ≤ x1.toInt → (((m.1 2 1).toInt ≤ x1.toInt → j_X11_isWire_0_19 (d + 1) m Q) ∧ (x1.toInt < (m.1 2 1).toInt → Q (1 : Int32) m))))) : c_X11_isWire_0 (d + 1) x1 m Q := by
  refine w_iload_n (q := 1) hm249 ⟨⟨_, _, rfl⟩, rfl⟩ rfl ?_
  refine w_if_lt (q := 4) (X := x1.toInt) hm249 ⟨⟨_, _, rfl⟩, rfl⟩ rfl (fun hc => ?_) (fun hc => ?_)
  · have h := h.1 hc
    exact Wp.wk [false, false] h
  · have h := h.2 hc
    refine w_iload_n (q := 5) hm249 ⟨⟨_, _, rfl⟩, rfl⟩ rfl ?_
    refine w_aload_n (q := 6) hm249 ⟨⟨_, _, rfl⟩, rfl⟩ rfl ?_
    refine w_getr (q := 9) hm249 ⟨⟨_, _, rfl⟩, rfl⟩ rfl ?_
    refine w_getf (q := 12) (v := (m.1 2 1)) hm249 ⟨⟨_, _, rfl⟩, rfl⟩ rfl rfl ?_
    refine w_icmp_ge (q := 15) (X := x1.toInt) (Y := (m.1 2 1).toInt) hm249 ⟨⟨_, _, rfl⟩, rfl⟩ rfl rfl (fun hc => ?_) (fun hc => ?_)
    · have h := h.1 hc
      exact Wp.wk [false, false] h
    · have h := h.2 hc
      refine w_iconst (q := 16) hm249 ⟨⟨_, _, rfl⟩, rfl⟩ iconst_1 ?_
      refine w_goto (q := 20) hm249 ⟨_, _, rfl⟩ ?_
      exact w_retz hm249 ⟨⟨_, _, rfl⟩, rfl⟩ rfl (by decide) h
theorem v_X11_isWire_0_19 {d : Nat} {m : dM} {Q : Int32 → dM → Prop} (h : Q (0 : Int32) m) : j_X11_isWire_0_19 (d + 1) m Q := by
  refine w_iconst (q := 20) hm249 ⟨⟨_, _, rfl⟩, rfl⟩ iconst_0 ?_
  exact w_retz hm249 ⟨⟨_, _, rfl⟩, rfl⟩ rfl (by decide) h
theorem v_J7_fill_56 {d : Nat} {x1 : Int32} {m : dM} {Q : dM → Prop} (h : j_J7_fill_56_5 (d + 1) x1 (0 : Int32) (10 : Int32) m Q) : c_J7_fill_56 (d + 1) x1 m Q := by
  refine w_iconst (q := 1) hm286 ⟨⟨_, _, rfl⟩, rfl⟩ iconst_0 ?_
  refine w_istore_n (q := 2) (l' := [oR 56, oI x1, oI (0 : Int32), none]) hm286 ⟨⟨_, _, rfl⟩, rfl⟩ rfl rfl rfl ?_
  refine w_aload_n (q := 3) hm286 ⟨⟨_, _, rfl⟩, rfl⟩ rfl ?_
  refine w_alen (q := 4) hm286 ⟨⟨_, _, rfl⟩, rfl⟩ rfl alen_10 ?_
  refine w_istore_n (q := 5) (l' := [oR 56, oI x1, oI (0 : Int32), oI (10 : Int32)]) hm286 ⟨⟨_, _, rfl⟩, rfl⟩ rfl rfl rfl ?_
  exact h
theorem v_J7_fill_56_5 {d : Nat} {x1 : Int32} {x2 : Int32} {x3 : Int32} {m : dM} {Q : dM → Prop} (h : ((x3.toInt ≤ x2.toInt → Q m) ∧ (x2.toInt < x3.toInt → ((0 ≤ x2.toInt ∧ x2.toInt < 10) ∧ j_J7_fill_56_5 (d + 1) x1 (x2 + (1 : Int32)) x3 (dSet m 56 x2.toNatClampNeg x1) Q)))) : j_J7_fill_56_5 (d + 1) x1 x2 x3 m Q := by
  refine w_iload_n (q := 6) hm286 ⟨⟨_, _, rfl⟩, rfl⟩ rfl ?_
  refine w_iload_n (q := 7) hm286 ⟨⟨_, _, rfl⟩, rfl⟩ rfl ?_
  refine w_icmp_ge (q := 10) (X := x2.toInt) (Y := x3.toInt) hm286 ⟨⟨_, _, rfl⟩, rfl⟩ rfl rfl (fun hc => ?_) (fun hc => ?_)
  · have h := h.1 hc
    exact w_retv hm286 ⟨⟨_, _, rfl⟩, rfl⟩ rfl h
  · have h := h.2 hc
    refine w_aload_n (q := 11) hm286 ⟨⟨_, _, rfl⟩, rfl⟩ rfl ?_
    refine w_iload_n (q := 12) hm286 ⟨⟨_, _, rfl⟩, rfl⟩ rfl ?_
    refine w_iload_n (q := 13) hm286 ⟨⟨_, _, rfl⟩, rfl⟩ rfl ?_
    obtain ⟨hi, h⟩ := h
    refine w_iast (q := 14) hm286 ⟨⟨_, _, rfl⟩, rfl⟩ rfl hi rfl rfl ?_
    refine w_iinc (q := 17) (l' := [oR 56, oI x1, oI (x2 + (1 : Int32)), oI x3]) hm286 ⟨⟨_, _, rfl⟩, rfl⟩ rfl rfl rfl iconst_1 rfl ?_
    refine w_goto (q := 5) hm286 ⟨_, _, rfl⟩ ?_
    exact h
theorem v_X0_putOn_54_47 {d : Nat} {x2 : Int32} {m : dM} {Q : dM → Prop} (h : c_X10_lay_57 d (m.1 47 3) m (fun m1 => c_J7_fill_56 d (0 : Int32) m1 (fun m2 => j_X0_putOn_54_47_21 (d + 1) x2 (0 : Int32) m2 Q))) : c_X0_putOn_54_47 (d + 1) x2 m Q := by
  refine w_aload_n (q := 1) hm120 ⟨⟨_, _, rfl⟩, rfl⟩ rfl ?_
  refine w_getr (q := 4) hm120 ⟨⟨_, _, rfl⟩, rfl⟩ rfl ?_
  refine w_aload_n (q := 5) hm120 ⟨⟨_, _, rfl⟩, rfl⟩ rfl ?_
  refine w_getf (q := 8) (v := (m.1 47 3)) hm120 ⟨⟨_, _, rfl⟩, rfl⟩ rfl rfl ?_
  refine w_call (q := 11) (n := 3) (vs := [.inr (.inr (some 57)), .inl (m.1 47 3)]) (rest := []) (la := [oR 57, oI (m.1 47 3), none, none, none]) hm120 ⟨⟨_, _, rfl⟩, rfl⟩ rfl rfl rfl rfl hm239 rfl rfl (fun _ => ⟨_, _, rfl, rfl⟩) rfl (Wp.mono h ?_)
  rintro _ m1 ⟨rfl, h⟩
  change Wp _ _ 11 _ [] _ _
  refine w_aload_n (q := 12) hm120 ⟨⟨_, _, rfl⟩, rfl⟩ rfl ?_
  refine w_getr (q := 15) hm120 ⟨⟨_, _, rfl⟩, rfl⟩ rfl ?_
  refine w_iconst (q := 16) hm120 ⟨⟨_, _, rfl⟩, rfl⟩ iconst_0 ?_
  refine w_call (q := 19) (n := 2) (vs := [.inr (.inr (some 56)), .inl (0 : Int32)]) (rest := []) (la := [oR 56, oI (0 : Int32), none, none]) hm120 ⟨⟨_, _, rfl⟩, rfl⟩ rfl rfl rfl rfl hm286 rfl rfl (fun hz => absurd hz (by decide)) rfl (Wp.mono h ?_)
  rintro _ m2 ⟨rfl, h⟩
  change Wp _ _ 19 _ [] _ _
  refine w_iconst (q := 20) hm120 ⟨⟨_, _, rfl⟩, rfl⟩ iconst_0 ?_
  refine w_istore_n (q := 21) (l' := [oR 54, oR 47, oI x2, oI (0 : Int32), none, none]) hm120 ⟨⟨_, _, rfl⟩, rfl⟩ rfl rfl rfl ?_
  exact Wp.wk [true, false, true, true, false, false] h
theorem v_X0_putOn_54_47_21 {d : Nat} {x2 : Int32} {x3 : Int32} {m : dM} {Q : dM → Prop} (h : (((m.1 2 2).toInt ≤ x3.toInt → Q m) ∧ (x3.toInt < (m.1 2 2).toInt → c_X11_has d x2 x3 m (fun r1 m1 => ((r1.toInt = 0 → j_X0_putOn_54_47_66 (d + 1) x2 x3 (0 : Int32) (0 : Int32) m1 Q) ∧ (r1.toInt ≠ 0 → ((0 ≤ x3.toInt ∧ x3.toInt < 8) ∧ ((0 ≤ (m1.1 7 x3.toNatClampNeg).toInt ∧ (m1.1 7 x3.toNatClampNeg).toInt < 7) ∧ j_X0_putOn_54_47_66 (d + 1) x2 x3 (m1.1 60 (m1.1 7 x3.toNatClampNeg).toNatClampNeg) (0 : Int32) m1 Q)))))))) : j_X0_putOn_54_47_21 (d + 1) x2 x3 m Q := by
  refine w_iload_n (q := 22) hm120 ⟨⟨_, _, rfl⟩, rfl⟩ rfl ?_
  refine w_aload_n (q := 23) hm120 ⟨⟨_, _, rfl⟩, rfl⟩ rfl ?_
  refine w_getr (q := 26) hm120 ⟨⟨_, _, rfl⟩, rfl⟩ rfl ?_
  refine w_getf (q := 29) (v := (m.1 2 2)) hm120 ⟨⟨_, _, rfl⟩, rfl⟩ rfl rfl ?_
  refine w_icmp_ge (q := 32) (X := x3.toInt) (Y := (m.1 2 2).toInt) hm120 ⟨⟨_, _, rfl⟩, rfl⟩ rfl rfl (fun hc => ?_) (fun hc => ?_)
  · have h := h.1 hc
    exact w_retv hm120 ⟨⟨_, _, rfl⟩, rfl⟩ rfl h
  · have h := h.2 hc
    refine w_iload_n (q := 33) hm120 ⟨⟨_, _, rfl⟩, rfl⟩ rfl ?_
    refine w_iload_n (q := 34) hm120 ⟨⟨_, _, rfl⟩, rfl⟩ rfl ?_
    refine w_call (q := 37) (n := 0) (vs := [.inl x2, .inl x3]) (rest := []) (la := [oI x2, oI x3]) hm120 ⟨⟨_, _, rfl⟩, rfl⟩ rfl rfl rfl rfl hm283 rfl rfl (fun hz => absurd hz (by decide)) rfl (Wp.mono h ?_)
    rintro _ m1 ⟨r1, rfl, h⟩
    change Wp _ _ 37 _ [.inl r1] _ _
    refine w_if_eq (q := 40) (X := r1.toInt) hm120 ⟨⟨_, _, rfl⟩, rfl⟩ rfl (fun hc => ?_) (fun hc => ?_)
    · have h := h.1 hc
      refine w_iconst (q := 61) hm120 ⟨⟨_, _, rfl⟩, rfl⟩ iconst_0 ?_
      refine w_istore (q := 63) (l' := [oR 54, none, oI x2, oI x3, oI (0 : Int32), none]) hm120 ⟨⟨_, _, rfl⟩, rfl⟩ rfl rfl rfl ?_
      refine w_iconst (q := 64) hm120 ⟨⟨_, _, rfl⟩, rfl⟩ iconst_0 ?_
      refine w_istore (q := 66) (l' := [oR 54, none, oI x2, oI x3, oI (0 : Int32), oI (0 : Int32)]) hm120 ⟨⟨_, _, rfl⟩, rfl⟩ rfl rfl rfl ?_
      exact h
    · have h := h.2 hc
      refine w_aload_n (q := 41) hm120 ⟨⟨_, _, rfl⟩, rfl⟩ rfl ?_
      refine w_getr (q := 44) hm120 ⟨⟨_, _, rfl⟩, rfl⟩ rfl ?_
      refine w_getr (q := 47) hm120 ⟨⟨_, _, rfl⟩, rfl⟩ rfl ?_
      refine w_aload_n (q := 48) hm120 ⟨⟨_, _, rfl⟩, rfl⟩ rfl ?_
      refine w_getr (q := 51) hm120 ⟨⟨_, _, rfl⟩, rfl⟩ rfl ?_
      refine w_getr (q := 54) hm120 ⟨⟨_, _, rfl⟩, rfl⟩ rfl ?_
      refine w_iload_n (q := 55) hm120 ⟨⟨_, _, rfl⟩, rfl⟩ rfl ?_
      obtain ⟨hi, h⟩ := h
      refine w_iald (q := 56) (v := (m1.1 7 x3.toNatClampNeg)) hm120 ⟨⟨_, _, rfl⟩, rfl⟩ rfl hi rfl rfl ?_
      obtain ⟨hi, h⟩ := h
      refine w_iald (q := 57) (v := (m1.1 60 (m1.1 7 x3.toNatClampNeg).toNatClampNeg)) hm120 ⟨⟨_, _, rfl⟩, rfl⟩ rfl hi rfl rfl ?_
      refine w_goto (q := 61) hm120 ⟨_, _, rfl⟩ ?_
      refine w_istore (q := 63) (l' := [oR 54, none, oI x2, oI x3, oI (m1.1 60 (m1.1 7 x3.toNatClampNeg).toNatClampNeg), none]) hm120 ⟨⟨_, _, rfl⟩, rfl⟩ rfl rfl rfl ?_
      refine w_iconst (q := 64) hm120 ⟨⟨_, _, rfl⟩, rfl⟩ iconst_0 ?_
      refine w_istore (q := 66) (l' := [oR 54, none, oI x2, oI x3, oI (m1.1 60 (m1.1 7 x3.toNatClampNeg).toNatClampNeg), oI (0 : Int32)]) hm120 ⟨⟨_, _, rfl⟩, rfl⟩ rfl rfl rfl ?_
      exact h
theorem v_X0_putOn_54_47_66 {d : Nat} {x2 : Int32} {x3 : Int32} {x4 : Int32} {x5 : Int32} {m : dM} {Q : dM → Prop} (h : (((x4.toUInt32 >>> (x5.toUInt32 &&& Int32.toUInt32 31)).toInt32.toInt = 0 → j_X0_putOn_54_47_125 (d + 1) x2 x3 m Q) ∧ ((x4.toUInt32 >>> (x5.toUInt32 &&& Int32.toUInt32 31)).toInt32.toInt ≠ 0 → (((m.1 2 1).toInt ≤ x5.toInt → j_X0_putOn_54_47_125 (d + 1) x2 x3 m Q) ∧ (x5.toInt < (m.1 2 1).toInt → ((0 ≤ x5.toInt ∧ x5.toInt < 10) ∧ c_X11_has d x4 x5 m (fun r1 m1 => ((r1.toInt = 0 → ((0 ≤ x5.toInt ∧ x5.toInt < 10) ∧ j_X0_putOn_54_47_66 (d + 1) x2 x3 x4 (x5 + (1 : Int32)) (dSet m1 56 x5.toNatClampNeg ((m.1 56 x5.toNatClampNeg) + (0 : Int32))) Q)) ∧ (r1.toInt ≠ 0 → ((0 ≤ x3.toInt ∧ x3.toInt < 8) ∧ ((0 ≤ x5.toInt ∧ x5.toInt < 10) ∧ j_X0_putOn_54_47_66 (d + 1) x2 x3 x4 (x5 + (1 : Int32)) (dSet m1 56 x5.toNatClampNeg ((m.1 56 x5.toNatClampNeg) + (m1.1 8 x3.toNatClampNeg))) Q))))))))))) : j_X0_putOn_54_47_66 (d + 1) x2 x3 x4 x5 m Q := by
  refine w_iload (q := 68) hm120 ⟨⟨_, _, rfl⟩, rfl⟩ rfl ?_
  refine w_iload (q := 70) hm120 ⟨⟨_, _, rfl⟩, rfl⟩ rfl ?_
  refine w_iushr (q := 71) hm120 ⟨⟨_, _, rfl⟩, rfl⟩ ?_
  refine w_if_eq (q := 74) (X := (x4.toUInt32 >>> (x5.toUInt32 &&& Int32.toUInt32 31)).toInt32.toInt) hm120 ⟨⟨_, _, rfl⟩, rfl⟩ rfl (fun hc => ?_) (fun hc => ?_)
  · have h := h.1 hc
    exact Wp.wk [true, false, true, true, false, false] h
  · have h := h.2 hc
    refine w_iload (q := 76) hm120 ⟨⟨_, _, rfl⟩, rfl⟩ rfl ?_
    refine w_aload_n (q := 77) hm120 ⟨⟨_, _, rfl⟩, rfl⟩ rfl ?_
    refine w_getr (q := 80) hm120 ⟨⟨_, _, rfl⟩, rfl⟩ rfl ?_
    refine w_getf (q := 83) (v := (m.1 2 1)) hm120 ⟨⟨_, _, rfl⟩, rfl⟩ rfl rfl ?_
    refine w_icmp_ge (q := 86) (X := x5.toInt) (Y := (m.1 2 1).toInt) hm120 ⟨⟨_, _, rfl⟩, rfl⟩ rfl rfl (fun hc => ?_) (fun hc => ?_)
    · have h := h.1 hc
      exact Wp.wk [true, false, true, true, false, false] h
    · have h := h.2 hc
      refine w_aload_n (q := 87) hm120 ⟨⟨_, _, rfl⟩, rfl⟩ rfl ?_
      refine w_getr (q := 90) hm120 ⟨⟨_, _, rfl⟩, rfl⟩ rfl ?_
      refine w_iload (q := 92) hm120 ⟨⟨_, _, rfl⟩, rfl⟩ rfl ?_
      refine w_dup2 (q := 93) hm120 ⟨⟨_, _, rfl⟩, rfl⟩ rfl ?_
      obtain ⟨hi, h⟩ := h
      refine w_iald (q := 94) (v := (m.1 56 x5.toNatClampNeg)) hm120 ⟨⟨_, _, rfl⟩, rfl⟩ rfl hi rfl rfl ?_
      refine w_iload (q := 96) hm120 ⟨⟨_, _, rfl⟩, rfl⟩ rfl ?_
      refine w_iload (q := 98) hm120 ⟨⟨_, _, rfl⟩, rfl⟩ rfl ?_
      refine w_call (q := 101) (n := 0) (vs := [.inl x4, .inl x5]) (rest := [.inl (m.1 56 x5.toNatClampNeg), .inl x5, .inr (.inr (some 56))]) (la := [oI x4, oI x5]) hm120 ⟨⟨_, _, rfl⟩, rfl⟩ rfl rfl rfl rfl hm283 rfl rfl (fun hz => absurd hz (by decide)) rfl (Wp.mono h ?_)
      rintro _ m1 ⟨r1, rfl, h⟩
      change Wp _ _ 101 _ [.inl r1, .inl (m.1 56 x5.toNatClampNeg), .inl x5, .inr (.inr (some 56))] _ _
      refine w_if_eq (q := 104) (X := r1.toInt) hm120 ⟨⟨_, _, rfl⟩, rfl⟩ rfl (fun hc => ?_) (fun hc => ?_)
      · have h := h.1 hc
        refine w_iconst (q := 117) hm120 ⟨⟨_, _, rfl⟩, rfl⟩ iconst_0 ?_
        refine w_iadd (q := 118) hm120 ⟨⟨_, _, rfl⟩, rfl⟩ ?_
        obtain ⟨hi, h⟩ := h
        refine w_iast (q := 119) hm120 ⟨⟨_, _, rfl⟩, rfl⟩ rfl hi rfl rfl ?_
        refine w_iinc (q := 122) (l' := [oR 54, none, oI x2, oI x3, oI x4, oI (x5 + (1 : Int32))]) hm120 ⟨⟨_, _, rfl⟩, rfl⟩ rfl rfl rfl iconst_1 rfl ?_
        refine w_goto (q := 66) hm120 ⟨_, _, rfl⟩ ?_
        exact h
      · have h := h.2 hc
        refine w_aload_n (q := 105) hm120 ⟨⟨_, _, rfl⟩, rfl⟩ rfl ?_
        refine w_getr (q := 108) hm120 ⟨⟨_, _, rfl⟩, rfl⟩ rfl ?_
        refine w_getr (q := 111) hm120 ⟨⟨_, _, rfl⟩, rfl⟩ rfl ?_
        refine w_iload_n (q := 112) hm120 ⟨⟨_, _, rfl⟩, rfl⟩ rfl ?_
        obtain ⟨hi, h⟩ := h
        refine w_iald (q := 113) (v := (m1.1 8 x3.toNatClampNeg)) hm120 ⟨⟨_, _, rfl⟩, rfl⟩ rfl hi rfl rfl ?_
        refine w_goto (q := 117) hm120 ⟨_, _, rfl⟩ ?_
        refine w_iadd (q := 118) hm120 ⟨⟨_, _, rfl⟩, rfl⟩ ?_
        obtain ⟨hi, h⟩ := h
        refine w_iast (q := 119) hm120 ⟨⟨_, _, rfl⟩, rfl⟩ rfl hi rfl rfl ?_
        refine w_iinc (q := 122) (l' := [oR 54, none, oI x2, oI x3, oI x4, oI (x5 + (1 : Int32))]) hm120 ⟨⟨_, _, rfl⟩, rfl⟩ rfl rfl rfl iconst_1 rfl ?_
        refine w_goto (q := 66) hm120 ⟨_, _, rfl⟩ ?_
        exact h
theorem v_X0_putOn_54_47_125 {d : Nat} {x2 : Int32} {x3 : Int32} {m : dM} {Q : dM → Prop} (h : j_X0_putOn_54_47_21 (d + 1) x2 (x3 + (1 : Int32)) m Q) : j_X0_putOn_54_47_125 (d + 1) x2 x3 m Q := by
  refine w_iinc (q := 128) (l' := [oR 54, none, oI x2, oI (x3 + (1 : Int32)), none, none]) hm120 ⟨⟨_, _, rfl⟩, rfl⟩ rfl rfl rfl iconst_1 rfl ?_
  refine w_goto (q := 21) hm120 ⟨_, _, rfl⟩ ?_
  exact h
theorem v_X0_loadNow_54_47 {d : Nat} {x2 : Int32} {m : dM} {Q : Int32 → dM → Prop} (h : c_X0_usesNow_54_47 d m (fun r1 m1 => c_X0_putOn_54_47 d r1 m1 (fun m2 => ((0 ≤ x2.toInt ∧ x2.toInt < 10) ∧ Q (m2.1 56 x2.toNatClampNeg) m2)))) : c_X0_loadNow_54_47 (d + 1) x2 m Q := by
  refine w_aload_n (q := 1) hm121 ⟨⟨_, _, rfl⟩, rfl⟩ rfl ?_
  refine w_aload_n (q := 2) hm121 ⟨⟨_, _, rfl⟩, rfl⟩ rfl ?_
  refine w_aload_n (q := 3) hm121 ⟨⟨_, _, rfl⟩, rfl⟩ rfl ?_
  refine w_aload_n (q := 4) hm121 ⟨⟨_, _, rfl⟩, rfl⟩ rfl ?_
  refine w_call (q := 7) (n := 0) (vs := [.inr (.inr (some 54)), .inr (.inr (some 47))]) (rest := [.inr (.inr (some 47)), .inr (.inr (some 54))]) (la := [oR 54, oR 47]) hm121 ⟨⟨_, _, rfl⟩, rfl⟩ rfl rfl rfl rfl hm117 rfl rfl (fun _ => ⟨_, _, rfl, rfl⟩) rfl (Wp.mono h ?_)
  rintro _ m1 ⟨r1, rfl, h⟩
  change Wp _ _ 7 _ [.inl r1, .inr (.inr (some 47)), .inr (.inr (some 54))] _ _
  refine w_call (q := 10) (n := 3) (vs := [.inr (.inr (some 54)), .inr (.inr (some 47)), .inl r1]) (rest := []) (la := [oR 54, oR 47, oI r1, none, none, none]) hm121 ⟨⟨_, _, rfl⟩, rfl⟩ rfl rfl rfl rfl hm120 rfl rfl (fun _ => ⟨_, _, rfl, rfl⟩) rfl (Wp.mono h ?_)
  rintro _ m2 ⟨rfl, h⟩
  change Wp _ _ 10 _ [] _ _
  refine w_aload_n (q := 11) hm121 ⟨⟨_, _, rfl⟩, rfl⟩ rfl ?_
  refine w_getr (q := 14) hm121 ⟨⟨_, _, rfl⟩, rfl⟩ rfl ?_
  refine w_iload_n (q := 15) hm121 ⟨⟨_, _, rfl⟩, rfl⟩ rfl ?_
  obtain ⟨hi, h⟩ := h
  refine w_iald (q := 16) (v := (m2.1 56 x2.toNatClampNeg)) hm121 ⟨⟨_, _, rfl⟩, rfl⟩ rfl hi rfl rfl ?_
  exact w_reti hm121 ⟨⟨_, _, rfl⟩, rfl⟩ rfl h
theorem v_X0_costOf_54_47 {d : Nat} {x2 : Int32} {m : dM} {Q : Int32 → dM → Prop} (h : c_X7_hourOfDay_47 d m (fun r1 m1 => c_X7_day_47 d m1 (fun r2 m2 => c_X0_setVars_54 d r1 r2 x2 m2 (fun m3 => ((0 ≤ x2.toInt ∧ x2.toInt < 10) ∧ ((0 ≤ x2.toInt ∧ x2.toInt < 10) ∧ c_X4_tells_11_55 d (2 : Int32) (dSet (dSet m3 55 1 (m3.1 48 x2.toNatClampNeg)) 55 2 (m3.1 49 x2.toNatClampNeg)) (fun r4 m4 => c_X0_held d r4 m4 (fun r5 m5 => Q r5 m5)))))))) : c_X0_costOf_54_47 (d + 1) x2 m Q := by
  refine w_aload_n (q := 1) hm128 ⟨⟨_, _, rfl⟩, rfl⟩ rfl ?_
  refine w_aload_n (q := 2) hm128 ⟨⟨_, _, rfl⟩, rfl⟩ rfl ?_
  refine w_call (q := 5) (n := 0) (vs := [.inr (.inr (some 47))]) (rest := [.inr (.inr (some 54))]) (la := [oR 47]) hm128 ⟨⟨_, _, rfl⟩, rfl⟩ rfl rfl rfl rfl hm212 rfl rfl (fun _ => ⟨_, _, rfl, rfl⟩) rfl (Wp.mono h ?_)
  rintro _ m1 ⟨r1, rfl, h⟩
  change Wp _ _ 5 _ [.inl r1, .inr (.inr (some 54))] _ _
  refine w_aload_n (q := 6) hm128 ⟨⟨_, _, rfl⟩, rfl⟩ rfl ?_
  refine w_call (q := 9) (n := 0) (vs := [.inr (.inr (some 47))]) (rest := [.inl r1, .inr (.inr (some 54))]) (la := [oR 47]) hm128 ⟨⟨_, _, rfl⟩, rfl⟩ rfl rfl rfl rfl hm213 rfl rfl (fun _ => ⟨_, _, rfl, rfl⟩) rfl (Wp.mono h ?_)
  rintro _ m2 ⟨r2, rfl, h⟩
  change Wp _ _ 9 _ [.inl r2, .inl r1, .inr (.inr (some 54))] _ _
  refine w_iload_n (q := 10) hm128 ⟨⟨_, _, rfl⟩, rfl⟩ rfl ?_
  refine w_call (q := 13) (n := 0) (vs := [.inr (.inr (some 54)), .inl r1, .inl r2, .inl x2]) (rest := []) (la := [oR 54, oI r1, oI r2, oI x2]) hm128 ⟨⟨_, _, rfl⟩, rfl⟩ rfl rfl rfl rfl hm125 rfl rfl (fun _ => ⟨_, _, rfl, rfl⟩) rfl (Wp.mono h ?_)
  rintro _ m3 ⟨rfl, h⟩
  change Wp _ _ 13 _ [] _ _
  refine w_aload_n (q := 14) hm128 ⟨⟨_, _, rfl⟩, rfl⟩ rfl ?_
  refine w_getr (q := 17) hm128 ⟨⟨_, _, rfl⟩, rfl⟩ rfl ?_
  refine w_iconst (q := 18) hm128 ⟨⟨_, _, rfl⟩, rfl⟩ iconst_1 ?_
  refine w_aload_n (q := 19) hm128 ⟨⟨_, _, rfl⟩, rfl⟩ rfl ?_
  refine w_getr (q := 22) hm128 ⟨⟨_, _, rfl⟩, rfl⟩ rfl ?_
  refine w_iload_n (q := 23) hm128 ⟨⟨_, _, rfl⟩, rfl⟩ rfl ?_
  obtain ⟨hi, h⟩ := h
  refine w_iald (q := 24) (v := (m3.1 48 x2.toNatClampNeg)) hm128 ⟨⟨_, _, rfl⟩, rfl⟩ rfl hi rfl rfl ?_
  refine w_iast (q := 25) (j := 1) hm128 ⟨⟨_, _, rfl⟩, rfl⟩ rfl (by decide) (by decide) rfl ?_
  refine w_aload_n (q := 26) hm128 ⟨⟨_, _, rfl⟩, rfl⟩ rfl ?_
  refine w_getr (q := 29) hm128 ⟨⟨_, _, rfl⟩, rfl⟩ rfl ?_
  refine w_iconst (q := 30) hm128 ⟨⟨_, _, rfl⟩, rfl⟩ iconst_2 ?_
  refine w_aload_n (q := 31) hm128 ⟨⟨_, _, rfl⟩, rfl⟩ rfl ?_
  refine w_getr (q := 34) hm128 ⟨⟨_, _, rfl⟩, rfl⟩ rfl ?_
  refine w_iload_n (q := 35) hm128 ⟨⟨_, _, rfl⟩, rfl⟩ rfl ?_
  obtain ⟨hi, h⟩ := h
  refine w_iald (q := 36) (v := (m3.1 49 x2.toNatClampNeg)) hm128 ⟨⟨_, _, rfl⟩, rfl⟩ rfl hi rfl rfl ?_
  refine w_iast (q := 37) (j := 2) hm128 ⟨⟨_, _, rfl⟩, rfl⟩ rfl (by decide) (by decide) rfl ?_
  refine w_aload_n (q := 38) hm128 ⟨⟨_, _, rfl⟩, rfl⟩ rfl ?_
  refine w_getr (q := 41) hm128 ⟨⟨_, _, rfl⟩, rfl⟩ rfl ?_
  refine w_getr (q := 44) hm128 ⟨⟨_, _, rfl⟩, rfl⟩ rfl ?_
  refine w_iconst (q := 45) hm128 ⟨⟨_, _, rfl⟩, rfl⟩ iconst_2 ?_
  refine w_aload_n (q := 46) hm128 ⟨⟨_, _, rfl⟩, rfl⟩ rfl ?_
  refine w_getr (q := 49) hm128 ⟨⟨_, _, rfl⟩, rfl⟩ rfl ?_
  refine w_call (q := 52) (n := 4) (vs := [.inr (.inr (some 11)), .inl (2 : Int32), .inr (.inr (some 55))]) (rest := []) (la := [oR 11, oI (2 : Int32), oR 55, none, none, none, none]) hm128 ⟨⟨_, _, rfl⟩, rfl⟩ rfl rfl rfl rfl hm181 rfl rfl (fun _ => ⟨_, _, rfl, rfl⟩) rfl (Wp.mono h ?_)
  rintro _ m4 ⟨r4, rfl, h⟩
  change Wp _ _ 52 _ [.inl r4] _ _
  refine w_call (q := 55) (n := 0) (vs := [.inl r4]) (rest := []) (la := [oI r4]) hm128 ⟨⟨_, _, rfl⟩, rfl⟩ rfl rfl rfl rfl hm126 rfl rfl (fun hz => absurd hz (by decide)) rfl (Wp.mono h ?_)
  rintro _ m5 ⟨r5, rfl, h⟩
  change Wp _ _ 55 _ [.inl r5] _ _
  exact w_reti hm128 ⟨⟨_, _, rfl⟩, rfl⟩ rfl h
theorem v_X0_going_54_47 {d : Nat} {x2 : Int32} {x3 : Int32} {m : dM} {Q : Int32 → dM → Prop} (h : j_X0_going_54_47_6 (d + 1) x2 x3 (0 : Int32) (0 : Int32) m Q) : c_X0_going_54_47 (d + 1) x2 x3 m Q := by
  refine w_iconst (q := 1) hm124 ⟨⟨_, _, rfl⟩, rfl⟩ iconst_0 ?_
  refine w_istore (q := 3) (l' := [oR 54, oR 47, oI x2, oI x3, oI (0 : Int32), none]) hm124 ⟨⟨_, _, rfl⟩, rfl⟩ rfl rfl rfl ?_
  refine w_iconst (q := 4) hm124 ⟨⟨_, _, rfl⟩, rfl⟩ iconst_0 ?_
  refine w_istore (q := 6) (l' := [oR 54, oR 47, oI x2, oI x3, oI (0 : Int32), oI (0 : Int32)]) hm124 ⟨⟨_, _, rfl⟩, rfl⟩ rfl rfl rfl ?_
  exact h
theorem v_X0_going_54_47_6 {d : Nat} {x2 : Int32} {x3 : Int32} {x4 : Int32} {x5 : Int32} {m : dM} {Q : Int32 → dM → Prop} (h : (((m.1 2 1).toInt ≤ x5.toInt → Q x4 m) ∧ (x5.toInt < (m.1 2 1).toInt → ((0 ≤ x5.toInt ∧ x5.toInt < 10) ∧ (((m.1 56 x5.toNatClampNeg).toInt ≤ 0 → j_X0_going_54_47_119 (d + 1) x2 x3 x4 x5 m Q) ∧ (0 < (m.1 56 x5.toNatClampNeg).toInt → c_X11_has d (m.1 47 4) x5 m (fun r1 m1 => ((r1.toInt ≠ 0 → j_X0_going_54_47_119 (d + 1) x2 x3 x4 x5 m1 Q) ∧ (r1.toInt = 0 → c_X7_day_47 d m1 (fun r2 m2 => c_X0_setVars_54 d x2 r2 x5 m2 (fun m3 => ((0 ≤ x5.toInt ∧ x5.toInt < 10) ∧ ((0 ≤ x5.toInt ∧ x5.toInt < 10) ∧ ((0 ≤ x5.toInt ∧ x5.toInt < 10) ∧ c_X4_tells_11_55 d (0 : Int32) (dSet (dSet (dSet m3 55 0 ((m3.1 56 x5.toNatClampNeg) + x3)) 55 1 (m3.1 48 x5.toNatClampNeg)) 55 2 (m3.1 49 x5.toNatClampNeg)) (fun r4 m4 => ((r4.toInt ≤ 0 → j_X0_going_54_47_119 (d + 1) x2 x3 x4 x5 m4 Q) ∧ (0 < r4.toInt → j_X0_going_54_47_119 (d + 1) x2 x3 (x4 ||| ((1 : Int32) <<< (x5 &&& 31))) x5 m4 Q))))))))))))))))) : j_X0_going_54_47_6 (d + 1) x2 x3 x4 x5 m Q := by
  refine w_iload (q := 8) hm124 ⟨⟨_, _, rfl⟩, rfl⟩ rfl ?_
  refine w_aload_n (q := 9) hm124 ⟨⟨_, _, rfl⟩, rfl⟩ rfl ?_
  refine w_getr (q := 12) hm124 ⟨⟨_, _, rfl⟩, rfl⟩ rfl ?_
  refine w_getf (q := 15) (v := (m.1 2 1)) hm124 ⟨⟨_, _, rfl⟩, rfl⟩ rfl rfl ?_
  refine w_icmp_ge (q := 18) (X := x5.toInt) (Y := (m.1 2 1).toInt) hm124 ⟨⟨_, _, rfl⟩, rfl⟩ rfl rfl (fun hc => ?_) (fun hc => ?_)
  · have h := h.1 hc
    refine w_iload (q := 127) hm124 ⟨⟨_, _, rfl⟩, rfl⟩ rfl ?_
    exact w_reti hm124 ⟨⟨_, _, rfl⟩, rfl⟩ rfl h
  · have h := h.2 hc
    refine w_aload_n (q := 19) hm124 ⟨⟨_, _, rfl⟩, rfl⟩ rfl ?_
    refine w_getr (q := 22) hm124 ⟨⟨_, _, rfl⟩, rfl⟩ rfl ?_
    refine w_iload (q := 24) hm124 ⟨⟨_, _, rfl⟩, rfl⟩ rfl ?_
    obtain ⟨hi, h⟩ := h
    refine w_iald (q := 25) (v := (m.1 56 x5.toNatClampNeg)) hm124 ⟨⟨_, _, rfl⟩, rfl⟩ rfl hi rfl rfl ?_
    refine w_if_le (q := 28) (X := (m.1 56 x5.toNatClampNeg).toInt) hm124 ⟨⟨_, _, rfl⟩, rfl⟩ rfl (fun hc => ?_) (fun hc => ?_)
    · have h := h.1 hc
      exact h
    · have h := h.2 hc
      refine w_aload_n (q := 29) hm124 ⟨⟨_, _, rfl⟩, rfl⟩ rfl ?_
      refine w_getf (q := 32) (v := (m.1 47 4)) hm124 ⟨⟨_, _, rfl⟩, rfl⟩ rfl rfl ?_
      refine w_iload (q := 34) hm124 ⟨⟨_, _, rfl⟩, rfl⟩ rfl ?_
      refine w_call (q := 37) (n := 0) (vs := [.inl (m.1 47 4), .inl x5]) (rest := []) (la := [oI (m.1 47 4), oI x5]) hm124 ⟨⟨_, _, rfl⟩, rfl⟩ rfl rfl rfl rfl hm283 rfl rfl (fun hz => absurd hz (by decide)) rfl (Wp.mono h ?_)
      rintro _ m1 ⟨r1, rfl, h⟩
      change Wp _ _ 37 _ [.inl r1] _ _
      refine w_if_ne (q := 40) (X := r1.toInt) hm124 ⟨⟨_, _, rfl⟩, rfl⟩ rfl (fun hc => ?_) (fun hc => ?_)
      · have h := h.1 hc
        exact h
      · have h := h.2 hc
        refine w_aload_n (q := 41) hm124 ⟨⟨_, _, rfl⟩, rfl⟩ rfl ?_
        refine w_iload_n (q := 42) hm124 ⟨⟨_, _, rfl⟩, rfl⟩ rfl ?_
        refine w_aload_n (q := 43) hm124 ⟨⟨_, _, rfl⟩, rfl⟩ rfl ?_
        refine w_call (q := 46) (n := 0) (vs := [.inr (.inr (some 47))]) (rest := [.inl x2, .inr (.inr (some 54))]) (la := [oR 47]) hm124 ⟨⟨_, _, rfl⟩, rfl⟩ rfl rfl rfl rfl hm213 rfl rfl (fun _ => ⟨_, _, rfl, rfl⟩) rfl (Wp.mono h ?_)
        rintro _ m2 ⟨r2, rfl, h⟩
        change Wp _ _ 46 _ [.inl r2, .inl x2, .inr (.inr (some 54))] _ _
        refine w_iload (q := 48) hm124 ⟨⟨_, _, rfl⟩, rfl⟩ rfl ?_
        refine w_call (q := 51) (n := 0) (vs := [.inr (.inr (some 54)), .inl x2, .inl r2, .inl x5]) (rest := []) (la := [oR 54, oI x2, oI r2, oI x5]) hm124 ⟨⟨_, _, rfl⟩, rfl⟩ rfl rfl rfl rfl hm125 rfl rfl (fun _ => ⟨_, _, rfl, rfl⟩) rfl (Wp.mono h ?_)
        rintro _ m3 ⟨rfl, h⟩
        change Wp _ _ 51 _ [] _ _
        refine w_aload_n (q := 52) hm124 ⟨⟨_, _, rfl⟩, rfl⟩ rfl ?_
        refine w_getr (q := 55) hm124 ⟨⟨_, _, rfl⟩, rfl⟩ rfl ?_
        refine w_iconst (q := 56) hm124 ⟨⟨_, _, rfl⟩, rfl⟩ iconst_0 ?_
        refine w_aload_n (q := 57) hm124 ⟨⟨_, _, rfl⟩, rfl⟩ rfl ?_
        refine w_getr (q := 60) hm124 ⟨⟨_, _, rfl⟩, rfl⟩ rfl ?_
        refine w_iload (q := 62) hm124 ⟨⟨_, _, rfl⟩, rfl⟩ rfl ?_
        obtain ⟨hi, h⟩ := h
        refine w_iald (q := 63) (v := (m3.1 56 x5.toNatClampNeg)) hm124 ⟨⟨_, _, rfl⟩, rfl⟩ rfl hi rfl rfl ?_
        refine w_iload_n (q := 64) hm124 ⟨⟨_, _, rfl⟩, rfl⟩ rfl ?_
        refine w_iadd (q := 65) hm124 ⟨⟨_, _, rfl⟩, rfl⟩ ?_
        refine w_iast (q := 66) (j := 0) hm124 ⟨⟨_, _, rfl⟩, rfl⟩ rfl (by decide) (by decide) rfl ?_
        refine w_aload_n (q := 67) hm124 ⟨⟨_, _, rfl⟩, rfl⟩ rfl ?_
        refine w_getr (q := 70) hm124 ⟨⟨_, _, rfl⟩, rfl⟩ rfl ?_
        refine w_iconst (q := 71) hm124 ⟨⟨_, _, rfl⟩, rfl⟩ iconst_1 ?_
        refine w_aload_n (q := 72) hm124 ⟨⟨_, _, rfl⟩, rfl⟩ rfl ?_
        refine w_getr (q := 75) hm124 ⟨⟨_, _, rfl⟩, rfl⟩ rfl ?_
        refine w_iload (q := 77) hm124 ⟨⟨_, _, rfl⟩, rfl⟩ rfl ?_
        obtain ⟨hi, h⟩ := h
        refine w_iald (q := 78) (v := (m3.1 48 x5.toNatClampNeg)) hm124 ⟨⟨_, _, rfl⟩, rfl⟩ rfl hi rfl rfl ?_
        refine w_iast (q := 79) (j := 1) hm124 ⟨⟨_, _, rfl⟩, rfl⟩ rfl (by decide) (by decide) rfl ?_
        refine w_aload_n (q := 80) hm124 ⟨⟨_, _, rfl⟩, rfl⟩ rfl ?_
        refine w_getr (q := 83) hm124 ⟨⟨_, _, rfl⟩, rfl⟩ rfl ?_
        refine w_iconst (q := 84) hm124 ⟨⟨_, _, rfl⟩, rfl⟩ iconst_2 ?_
        refine w_aload_n (q := 85) hm124 ⟨⟨_, _, rfl⟩, rfl⟩ rfl ?_
        refine w_getr (q := 88) hm124 ⟨⟨_, _, rfl⟩, rfl⟩ rfl ?_
        refine w_iload (q := 90) hm124 ⟨⟨_, _, rfl⟩, rfl⟩ rfl ?_
        obtain ⟨hi, h⟩ := h
        refine w_iald (q := 91) (v := (m3.1 49 x5.toNatClampNeg)) hm124 ⟨⟨_, _, rfl⟩, rfl⟩ rfl hi rfl rfl ?_
        refine w_iast (q := 92) (j := 2) hm124 ⟨⟨_, _, rfl⟩, rfl⟩ rfl (by decide) (by decide) rfl ?_
        refine w_aload_n (q := 93) hm124 ⟨⟨_, _, rfl⟩, rfl⟩ rfl ?_
        refine w_getr (q := 96) hm124 ⟨⟨_, _, rfl⟩, rfl⟩ rfl ?_
        refine w_getr (q := 99) hm124 ⟨⟨_, _, rfl⟩, rfl⟩ rfl ?_
        refine w_iconst (q := 100) hm124 ⟨⟨_, _, rfl⟩, rfl⟩ iconst_0 ?_
        refine w_aload_n (q := 101) hm124 ⟨⟨_, _, rfl⟩, rfl⟩ rfl ?_
        refine w_getr (q := 104) hm124 ⟨⟨_, _, rfl⟩, rfl⟩ rfl ?_
        refine w_call (q := 107) (n := 4) (vs := [.inr (.inr (some 11)), .inl (0 : Int32), .inr (.inr (some 55))]) (rest := []) (la := [oR 11, oI (0 : Int32), oR 55, none, none, none, none]) hm124 ⟨⟨_, _, rfl⟩, rfl⟩ rfl rfl rfl rfl hm181 rfl rfl (fun _ => ⟨_, _, rfl, rfl⟩) rfl (Wp.mono h ?_)
        rintro _ m4 ⟨r4, rfl, h⟩
        change Wp _ _ 107 _ [.inl r4] _ _
        refine w_if_le (q := 110) (X := r4.toInt) hm124 ⟨⟨_, _, rfl⟩, rfl⟩ rfl (fun hc => ?_) (fun hc => ?_)
        · have h := h.1 hc
          exact h
        · have h := h.2 hc
          refine w_iload (q := 112) hm124 ⟨⟨_, _, rfl⟩, rfl⟩ rfl ?_
          refine w_iconst (q := 113) hm124 ⟨⟨_, _, rfl⟩, rfl⟩ iconst_1 ?_
          refine w_iload (q := 115) hm124 ⟨⟨_, _, rfl⟩, rfl⟩ rfl ?_
          refine w_ishl (q := 116) hm124 ⟨⟨_, _, rfl⟩, rfl⟩ ?_
          refine w_ior (q := 117) hm124 ⟨⟨_, _, rfl⟩, rfl⟩ ?_
          refine w_istore (q := 119) (l' := [oR 54, oR 47, oI x2, oI x3, oI (x4 ||| ((1 : Int32) <<< (x5 &&& 31))), oI x5]) hm124 ⟨⟨_, _, rfl⟩, rfl⟩ rfl rfl rfl ?_
          exact h
theorem v_X0_going_54_47_119 {d : Nat} {x2 : Int32} {x3 : Int32} {x4 : Int32} {x5 : Int32} {m : dM} {Q : Int32 → dM → Prop} (h : j_X0_going_54_47_6 (d + 1) x2 x3 x4 (x5 + (1 : Int32)) m Q) : j_X0_going_54_47_119 (d + 1) x2 x3 x4 x5 m Q := by
  refine w_iinc (q := 122) (l' := [oR 54, oR 47, oI x2, oI x3, oI x4, oI (x5 + (1 : Int32))]) hm124 ⟨⟨_, _, rfl⟩, rfl⟩ rfl rfl rfl iconst_1 rfl ?_
  refine w_goto (q := 6) hm124 ⟨_, _, rfl⟩ ?_
  exact h
theorem v_X0_goingWith_54_47 {d : Nat} {x2 : Int32} {m : dM} {Q : Int32 → dM → Prop} (h : c_X0_putOn_54_47 d x2 m (fun m1 => c_X7_hourOfDay_47 d m1 (fun r2 m2 => c_X0_going_54_47 d r2 (0 : Int32) m2 (fun r3 m3 => Q r3 m3)))) : c_X0_goingWith_54_47 (d + 1) x2 m Q := by
  refine w_aload_n (q := 1) hm123 ⟨⟨_, _, rfl⟩, rfl⟩ rfl ?_
  refine w_aload_n (q := 2) hm123 ⟨⟨_, _, rfl⟩, rfl⟩ rfl ?_
  refine w_iload_n (q := 3) hm123 ⟨⟨_, _, rfl⟩, rfl⟩ rfl ?_
  refine w_call (q := 6) (n := 3) (vs := [.inr (.inr (some 54)), .inr (.inr (some 47)), .inl x2]) (rest := []) (la := [oR 54, oR 47, oI x2, none, none, none]) hm123 ⟨⟨_, _, rfl⟩, rfl⟩ rfl rfl rfl rfl hm120 rfl rfl (fun _ => ⟨_, _, rfl, rfl⟩) rfl (Wp.mono h ?_)
  rintro _ m1 ⟨rfl, h⟩
  change Wp _ _ 6 _ [] _ _
  refine w_aload_n (q := 7) hm123 ⟨⟨_, _, rfl⟩, rfl⟩ rfl ?_
  refine w_aload_n (q := 8) hm123 ⟨⟨_, _, rfl⟩, rfl⟩ rfl ?_
  refine w_aload_n (q := 9) hm123 ⟨⟨_, _, rfl⟩, rfl⟩ rfl ?_
  refine w_call (q := 12) (n := 0) (vs := [.inr (.inr (some 47))]) (rest := [.inr (.inr (some 47)), .inr (.inr (some 54))]) (la := [oR 47]) hm123 ⟨⟨_, _, rfl⟩, rfl⟩ rfl rfl rfl rfl hm212 rfl rfl (fun _ => ⟨_, _, rfl, rfl⟩) rfl (Wp.mono h ?_)
  rintro _ m2 ⟨r2, rfl, h⟩
  change Wp _ _ 12 _ [.inl r2, .inr (.inr (some 47)), .inr (.inr (some 54))] _ _
  refine w_iconst (q := 13) hm123 ⟨⟨_, _, rfl⟩, rfl⟩ iconst_0 ?_
  refine w_call (q := 16) (n := 2) (vs := [.inr (.inr (some 54)), .inr (.inr (some 47)), .inl r2, .inl (0 : Int32)]) (rest := []) (la := [oR 54, oR 47, oI r2, oI (0 : Int32), none, none]) hm123 ⟨⟨_, _, rfl⟩, rfl⟩ rfl rfl rfl rfl hm124 rfl rfl (fun _ => ⟨_, _, rfl, rfl⟩) rfl (Wp.mono h ?_)
  rintro _ m3 ⟨r3, rfl, h⟩
  change Wp _ _ 16 _ [.inl r3] _ _
  exact w_reti hm123 ⟨⟨_, _, rfl⟩, rfl⟩ rfl h
theorem v_X0_goingNow_54_47 {d : Nat} {m : dM} {Q : Int32 → dM → Prop} (h : c_X0_usesNow_54_47 d m (fun r1 m1 => c_X0_goingWith_54_47 d r1 m1 (fun r2 m2 => Q r2 m2))) : c_X0_goingNow_54_47 (d + 1) m Q := by
  refine w_aload_n (q := 1) hm122 ⟨⟨_, _, rfl⟩, rfl⟩ rfl ?_
  refine w_aload_n (q := 2) hm122 ⟨⟨_, _, rfl⟩, rfl⟩ rfl ?_
  refine w_aload_n (q := 3) hm122 ⟨⟨_, _, rfl⟩, rfl⟩ rfl ?_
  refine w_aload_n (q := 4) hm122 ⟨⟨_, _, rfl⟩, rfl⟩ rfl ?_
  refine w_call (q := 7) (n := 0) (vs := [.inr (.inr (some 54)), .inr (.inr (some 47))]) (rest := [.inr (.inr (some 47)), .inr (.inr (some 54))]) (la := [oR 54, oR 47]) hm122 ⟨⟨_, _, rfl⟩, rfl⟩ rfl rfl rfl rfl hm117 rfl rfl (fun _ => ⟨_, _, rfl, rfl⟩) rfl (Wp.mono h ?_)
  rintro _ m1 ⟨r1, rfl, h⟩
  change Wp _ _ 7 _ [.inl r1, .inr (.inr (some 47)), .inr (.inr (some 54))] _ _
  refine w_call (q := 10) (n := 0) (vs := [.inr (.inr (some 54)), .inr (.inr (some 47)), .inl r1]) (rest := []) (la := [oR 54, oR 47, oI r1]) hm122 ⟨⟨_, _, rfl⟩, rfl⟩ rfl rfl rfl rfl hm123 rfl rfl (fun _ => ⟨_, _, rfl, rfl⟩) rfl (Wp.mono h ?_)
  rintro _ m2 ⟨r2, rfl, h⟩
  change Wp _ _ 10 _ [.inl r2] _ _
  exact w_reti hm122 ⟨⟨_, _, rfl⟩, rfl⟩ rfl h
theorem v_X11_wire_0 {d : Nat} {x1 : Int32} {x2 : Int32} {m : dM} {Q : Int32 → dM → Prop} (h : c_X11_isWire_0 d x1 m (fun r1 m1 => ((r1.toInt ≠ 0 → ((x2.toInt = 0 → ((0 ≤ x1.toInt ∧ x1.toInt < 10) ∧ Q (m1.1 4 x1.toNatClampNeg) m1)) ∧ (x2.toInt = 1 → ((0 ≤ x1.toInt ∧ x1.toInt < 10) ∧ Q (m1.1 5 x1.toNatClampNeg) m1)) ∧ (x2.toInt = 2 → ((0 ≤ x1.toInt ∧ x1.toInt < 10) ∧ Q (m1.1 48 x1.toNatClampNeg) m1)) ∧ (x2.toInt = 3 → c_X11_has d (m1.1 47 3) x1 m1 (fun r2 m2 => ((r2.toInt = 0 → Q (1 : Int32) m2) ∧ (r2.toInt ≠ 0 → Q (0 : Int32) m2)))) ∧ (x2.toInt = 4 → ((0 ≤ x1.toInt ∧ x1.toInt < 10) ∧ Q (m1.1 49 x1.toNatClampNeg) m1)) ∧ (x2.toInt = 5 → c_X11_has d (m1.1 47 4) x1 m1 (fun r3 m3 => ((r3.toInt = 0 → Q (0 : Int32) m3) ∧ (r3.toInt ≠ 0 → Q (1 : Int32) m3)))) ∧ (x2.toInt = 6 → c_X0_loadNow_54_47 d x1 m1 (fun r4 m4 => Q r4 m4)) ∧ (x2.toInt = 7 → c_X0_costOf_54_47 d x1 m1 (fun r5 m5 => Q r5 m5)) ∧ (x2.toInt = 8 → c_X0_goingNow_54_47 d m1 (fun r6 m6 => c_X11_has d r6 x1 m6 (fun r7 m7 => ((r7.toInt = 0 → Q (0 : Int32) m7) ∧ (r7.toInt ≠ 0 → Q (1 : Int32) m7))))) ∧ (x2.toInt < 0 ∨ 8 < x2.toInt → Q (-1 : Int32) m1))) ∧ (r1.toInt = 0 → Q (-1 : Int32) m1)))) : c_X11_wire_0 (d + 1) x1 x2 m Q := by
  refine w_aload_n (q := 1) hm252 ⟨⟨_, _, rfl⟩, rfl⟩ rfl ?_
  refine w_iload_n (q := 2) hm252 ⟨⟨_, _, rfl⟩, rfl⟩ rfl ?_
  refine w_call (q := 5) (n := 0) (vs := [.inr (.inr (some 0)), .inl x1]) (rest := []) (la := [oR 0, oI x1]) hm252 ⟨⟨_, _, rfl⟩, rfl⟩ rfl rfl rfl rfl hm249 rfl rfl (fun _ => ⟨_, _, rfl, rfl⟩) rfl (Wp.mono h ?_)
  rintro _ m1 ⟨r1, rfl, h⟩
  change Wp _ _ 5 _ [.inl r1] _ _
  refine w_if_ne (q := 8) (X := r1.toInt) hm252 ⟨⟨_, _, rfl⟩, rfl⟩ rfl (fun hc => ?_) (fun hc => ?_)
  · have h := h.1 hc
    refine w_iload_n (q := 11) hm252 ⟨⟨_, _, rfl⟩, rfl⟩ rfl ?_
    refine w_tsw (X := x2.toInt) hm252 ⟨_, _, rfl⟩ (by decide) (by decide) rfl ((And.intro (fun hc => ?_) (And.intro (fun hc => ?_) (And.intro (fun hc => ?_) (And.intro (fun hc => ?_) (And.intro (fun hc => ?_) (And.intro (fun hc => ?_) (And.intro (fun hc => ?_) (And.intro (fun hc => ?_) (And.intro (fun hc => ?_) trivial)))))))))) (fun hc => ?_)
    · have h := (h.1) hc
      change Wp _ _ 60 _ _ _ _
      refine w_aload_n (q := 61) hm252 ⟨⟨_, _, rfl⟩, rfl⟩ rfl ?_
      refine w_getr (q := 64) hm252 ⟨⟨_, _, rfl⟩, rfl⟩ rfl ?_
      refine w_getr (q := 67) hm252 ⟨⟨_, _, rfl⟩, rfl⟩ rfl ?_
      refine w_iload_n (q := 68) hm252 ⟨⟨_, _, rfl⟩, rfl⟩ rfl ?_
      obtain ⟨hi, h⟩ := h
      refine w_iald (q := 69) (v := (m1.1 4 x1.toNatClampNeg)) hm252 ⟨⟨_, _, rfl⟩, rfl⟩ rfl hi rfl rfl ?_
      exact w_reti hm252 ⟨⟨_, _, rfl⟩, rfl⟩ rfl h
    · have h := (h.2.1) hc
      change Wp _ _ 70 _ _ _ _
      refine w_aload_n (q := 71) hm252 ⟨⟨_, _, rfl⟩, rfl⟩ rfl ?_
      refine w_getr (q := 74) hm252 ⟨⟨_, _, rfl⟩, rfl⟩ rfl ?_
      refine w_getr (q := 77) hm252 ⟨⟨_, _, rfl⟩, rfl⟩ rfl ?_
      refine w_iload_n (q := 78) hm252 ⟨⟨_, _, rfl⟩, rfl⟩ rfl ?_
      obtain ⟨hi, h⟩ := h
      refine w_iald (q := 79) (v := (m1.1 5 x1.toNatClampNeg)) hm252 ⟨⟨_, _, rfl⟩, rfl⟩ rfl hi rfl rfl ?_
      exact w_reti hm252 ⟨⟨_, _, rfl⟩, rfl⟩ rfl h
    · have h := (h.2.2.1) hc
      change Wp _ _ 80 _ _ _ _
      refine w_aload_n (q := 81) hm252 ⟨⟨_, _, rfl⟩, rfl⟩ rfl ?_
      refine w_getr (q := 84) hm252 ⟨⟨_, _, rfl⟩, rfl⟩ rfl ?_
      refine w_getr (q := 87) hm252 ⟨⟨_, _, rfl⟩, rfl⟩ rfl ?_
      refine w_iload_n (q := 88) hm252 ⟨⟨_, _, rfl⟩, rfl⟩ rfl ?_
      obtain ⟨hi, h⟩ := h
      refine w_iald (q := 89) (v := (m1.1 48 x1.toNatClampNeg)) hm252 ⟨⟨_, _, rfl⟩, rfl⟩ rfl hi rfl rfl ?_
      exact w_reti hm252 ⟨⟨_, _, rfl⟩, rfl⟩ rfl h
    · have h := (h.2.2.2.1) hc
      change Wp _ _ 90 _ _ _ _
      refine w_aload_n (q := 91) hm252 ⟨⟨_, _, rfl⟩, rfl⟩ rfl ?_
      refine w_getr (q := 94) hm252 ⟨⟨_, _, rfl⟩, rfl⟩ rfl ?_
      refine w_getf (q := 97) (v := (m1.1 47 3)) hm252 ⟨⟨_, _, rfl⟩, rfl⟩ rfl rfl ?_
      refine w_iload_n (q := 98) hm252 ⟨⟨_, _, rfl⟩, rfl⟩ rfl ?_
      refine w_call (q := 101) (n := 0) (vs := [.inl (m1.1 47 3), .inl x1]) (rest := []) (la := [oI (m1.1 47 3), oI x1]) hm252 ⟨⟨_, _, rfl⟩, rfl⟩ rfl rfl rfl rfl hm283 rfl rfl (fun hz => absurd hz (by decide)) rfl (Wp.mono h ?_)
      rintro _ m2 ⟨r2, rfl, h⟩
      change Wp _ _ 101 _ [.inl r2] _ _
      refine w_if_eq (q := 104) (X := r2.toInt) hm252 ⟨⟨_, _, rfl⟩, rfl⟩ rfl (fun hc => ?_) (fun hc => ?_)
      · have h := h.1 hc
        refine w_iconst (q := 109) hm252 ⟨⟨_, _, rfl⟩, rfl⟩ iconst_1 ?_
        exact w_reti hm252 ⟨⟨_, _, rfl⟩, rfl⟩ rfl h
      · have h := h.2 hc
        refine w_iconst (q := 105) hm252 ⟨⟨_, _, rfl⟩, rfl⟩ iconst_0 ?_
        refine w_goto (q := 109) hm252 ⟨_, _, rfl⟩ ?_
        exact w_reti hm252 ⟨⟨_, _, rfl⟩, rfl⟩ rfl h
    · have h := (h.2.2.2.2.1) hc
      change Wp _ _ 110 _ _ _ _
      refine w_aload_n (q := 111) hm252 ⟨⟨_, _, rfl⟩, rfl⟩ rfl ?_
      refine w_getr (q := 114) hm252 ⟨⟨_, _, rfl⟩, rfl⟩ rfl ?_
      refine w_getr (q := 117) hm252 ⟨⟨_, _, rfl⟩, rfl⟩ rfl ?_
      refine w_iload_n (q := 118) hm252 ⟨⟨_, _, rfl⟩, rfl⟩ rfl ?_
      obtain ⟨hi, h⟩ := h
      refine w_iald (q := 119) (v := (m1.1 49 x1.toNatClampNeg)) hm252 ⟨⟨_, _, rfl⟩, rfl⟩ rfl hi rfl rfl ?_
      exact w_reti hm252 ⟨⟨_, _, rfl⟩, rfl⟩ rfl h
    · have h := (h.2.2.2.2.2.1) hc
      change Wp _ _ 120 _ _ _ _
      refine w_aload_n (q := 121) hm252 ⟨⟨_, _, rfl⟩, rfl⟩ rfl ?_
      refine w_getr (q := 124) hm252 ⟨⟨_, _, rfl⟩, rfl⟩ rfl ?_
      refine w_getf (q := 127) (v := (m1.1 47 4)) hm252 ⟨⟨_, _, rfl⟩, rfl⟩ rfl rfl ?_
      refine w_iload_n (q := 128) hm252 ⟨⟨_, _, rfl⟩, rfl⟩ rfl ?_
      refine w_call (q := 131) (n := 0) (vs := [.inl (m1.1 47 4), .inl x1]) (rest := []) (la := [oI (m1.1 47 4), oI x1]) hm252 ⟨⟨_, _, rfl⟩, rfl⟩ rfl rfl rfl rfl hm283 rfl rfl (fun hz => absurd hz (by decide)) rfl (Wp.mono h ?_)
      rintro _ m3 ⟨r3, rfl, h⟩
      change Wp _ _ 131 _ [.inl r3] _ _
      refine w_if_eq (q := 134) (X := r3.toInt) hm252 ⟨⟨_, _, rfl⟩, rfl⟩ rfl (fun hc => ?_) (fun hc => ?_)
      · have h := h.1 hc
        refine w_iconst (q := 139) hm252 ⟨⟨_, _, rfl⟩, rfl⟩ iconst_0 ?_
        exact w_reti hm252 ⟨⟨_, _, rfl⟩, rfl⟩ rfl h
      · have h := h.2 hc
        refine w_iconst (q := 135) hm252 ⟨⟨_, _, rfl⟩, rfl⟩ iconst_1 ?_
        refine w_goto (q := 139) hm252 ⟨_, _, rfl⟩ ?_
        exact w_reti hm252 ⟨⟨_, _, rfl⟩, rfl⟩ rfl h
    · have h := (h.2.2.2.2.2.2.1) hc
      change Wp _ _ 140 _ _ _ _
      refine w_aload_n (q := 141) hm252 ⟨⟨_, _, rfl⟩, rfl⟩ rfl ?_
      refine w_getr (q := 144) hm252 ⟨⟨_, _, rfl⟩, rfl⟩ rfl ?_
      refine w_aload_n (q := 145) hm252 ⟨⟨_, _, rfl⟩, rfl⟩ rfl ?_
      refine w_getr (q := 148) hm252 ⟨⟨_, _, rfl⟩, rfl⟩ rfl ?_
      refine w_iload_n (q := 149) hm252 ⟨⟨_, _, rfl⟩, rfl⟩ rfl ?_
      refine w_call (q := 152) (n := 0) (vs := [.inr (.inr (some 54)), .inr (.inr (some 47)), .inl x1]) (rest := []) (la := [oR 54, oR 47, oI x1]) hm252 ⟨⟨_, _, rfl⟩, rfl⟩ rfl rfl rfl rfl hm121 rfl rfl (fun _ => ⟨_, _, rfl, rfl⟩) rfl (Wp.mono h ?_)
      rintro _ m4 ⟨r4, rfl, h⟩
      change Wp _ _ 152 _ [.inl r4] _ _
      exact w_reti hm252 ⟨⟨_, _, rfl⟩, rfl⟩ rfl h
    · have h := (h.2.2.2.2.2.2.2.1) hc
      change Wp _ _ 153 _ _ _ _
      refine w_aload_n (q := 154) hm252 ⟨⟨_, _, rfl⟩, rfl⟩ rfl ?_
      refine w_getr (q := 157) hm252 ⟨⟨_, _, rfl⟩, rfl⟩ rfl ?_
      refine w_aload_n (q := 158) hm252 ⟨⟨_, _, rfl⟩, rfl⟩ rfl ?_
      refine w_getr (q := 161) hm252 ⟨⟨_, _, rfl⟩, rfl⟩ rfl ?_
      refine w_iload_n (q := 162) hm252 ⟨⟨_, _, rfl⟩, rfl⟩ rfl ?_
      refine w_call (q := 165) (n := 0) (vs := [.inr (.inr (some 54)), .inr (.inr (some 47)), .inl x1]) (rest := []) (la := [oR 54, oR 47, oI x1]) hm252 ⟨⟨_, _, rfl⟩, rfl⟩ rfl rfl rfl rfl hm128 rfl rfl (fun _ => ⟨_, _, rfl, rfl⟩) rfl (Wp.mono h ?_)
      rintro _ m5 ⟨r5, rfl, h⟩
      change Wp _ _ 165 _ [.inl r5] _ _
      exact w_reti hm252 ⟨⟨_, _, rfl⟩, rfl⟩ rfl h
    · have h := (h.2.2.2.2.2.2.2.2.1) hc
      change Wp _ _ 166 _ _ _ _
      refine w_aload_n (q := 167) hm252 ⟨⟨_, _, rfl⟩, rfl⟩ rfl ?_
      refine w_getr (q := 170) hm252 ⟨⟨_, _, rfl⟩, rfl⟩ rfl ?_
      refine w_aload_n (q := 171) hm252 ⟨⟨_, _, rfl⟩, rfl⟩ rfl ?_
      refine w_getr (q := 174) hm252 ⟨⟨_, _, rfl⟩, rfl⟩ rfl ?_
      refine w_call (q := 177) (n := 0) (vs := [.inr (.inr (some 54)), .inr (.inr (some 47))]) (rest := []) (la := [oR 54, oR 47]) hm252 ⟨⟨_, _, rfl⟩, rfl⟩ rfl rfl rfl rfl hm122 rfl rfl (fun _ => ⟨_, _, rfl, rfl⟩) rfl (Wp.mono h ?_)
      rintro _ m6 ⟨r6, rfl, h⟩
      change Wp _ _ 177 _ [.inl r6] _ _
      refine w_iload_n (q := 178) hm252 ⟨⟨_, _, rfl⟩, rfl⟩ rfl ?_
      refine w_call (q := 181) (n := 0) (vs := [.inl r6, .inl x1]) (rest := []) (la := [oI r6, oI x1]) hm252 ⟨⟨_, _, rfl⟩, rfl⟩ rfl rfl rfl rfl hm283 rfl rfl (fun hz => absurd hz (by decide)) rfl (Wp.mono h ?_)
      rintro _ m7 ⟨r7, rfl, h⟩
      change Wp _ _ 181 _ [.inl r7] _ _
      refine w_if_eq (q := 184) (X := r7.toInt) hm252 ⟨⟨_, _, rfl⟩, rfl⟩ rfl (fun hc => ?_) (fun hc => ?_)
      · have h := h.1 hc
        refine w_iconst (q := 189) hm252 ⟨⟨_, _, rfl⟩, rfl⟩ iconst_0 ?_
        exact w_reti hm252 ⟨⟨_, _, rfl⟩, rfl⟩ rfl h
      · have h := h.2 hc
        refine w_iconst (q := 185) hm252 ⟨⟨_, _, rfl⟩, rfl⟩ iconst_1 ?_
        refine w_goto (q := 189) hm252 ⟨_, _, rfl⟩ ?_
        exact w_reti hm252 ⟨⟨_, _, rfl⟩, rfl⟩ rfl h
    · have h := (h.2.2.2.2.2.2.2.2.2) hc
      change Wp _ _ 190 _ _ _ _
      refine w_iconst (q := 191) hm252 ⟨⟨_, _, rfl⟩, rfl⟩ iconst_m1 ?_
      exact w_reti hm252 ⟨⟨_, _, rfl⟩, rfl⟩ rfl h
  · have h := h.2 hc
    refine w_iconst (q := 9) hm252 ⟨⟨_, _, rfl⟩, rfl⟩ iconst_m1 ?_
    exact w_reti hm252 ⟨⟨_, _, rfl⟩, rfl⟩ rfl h
theorem v_X12_loadBy_70 {d : Nat} {x1 : Int32} {x2 : Int32} {m : dM} {Q : Int32 → dM → Prop} (h : j_X12_loadBy_70_5 (d + 1) x1 x2 (0 : Int32) (0 : Int32) m Q) : c_X12_loadBy_70 (d + 1) x1 x2 m Q := by
  refine w_iconst (q := 1) hm57 ⟨⟨_, _, rfl⟩, rfl⟩ iconst_0 ?_
  refine w_istore_n (q := 2) (l' := [oR 70, oI x1, oI x2, oI (0 : Int32), none]) hm57 ⟨⟨_, _, rfl⟩, rfl⟩ rfl rfl rfl ?_
  refine w_iconst (q := 3) hm57 ⟨⟨_, _, rfl⟩, rfl⟩ iconst_0 ?_
  refine w_istore (q := 5) (l' := [oR 70, oI x1, oI x2, oI (0 : Int32), oI (0 : Int32)]) hm57 ⟨⟨_, _, rfl⟩, rfl⟩ rfl rfl rfl ?_
  exact h
theorem v_X12_loadBy_70_5 {d : Nat} {x1 : Int32} {x2 : Int32} {x3 : Int32} {x4 : Int32} {m : dM} {Q : Int32 → dM → Prop} (h : ((0 ≤ (m.1 70 18).toInt ∧ (m.1 70 18).toInt < 2) ∧ (((m.1 86 (m.1 70 18).toNatClampNeg).toInt ≤ x4.toInt → Q x3 m) ∧ (x4.toInt < (m.1 86 (m.1 70 18).toNatClampNeg).toInt → ((((x2 >>> (x4 &&& 31)) &&& (1 : Int32)).toInt ≠ 1 → j_X12_loadBy_70_57 (d + 1) x1 x2 x3 x4 m Q) ∧ (((x2 >>> (x4 &&& 31)) &&& (1 : Int32)).toInt = 1 → c_X12_flatAt_70 d x4 m (fun r1 m1 => ((0 ≤ r1.toInt ∧ r1.toInt < 7) ∧ (((((m1.1 110 r1.toNatClampNeg) >>> (x1 &&& 31)) &&& (1 : Int32)).toInt ≠ 1 → j_X12_loadBy_70_57 (d + 1) x1 x2 x3 x4 m1 Q) ∧ ((((m1.1 110 r1.toNatClampNeg) >>> (x1 &&& 31)) &&& (1 : Int32)).toInt = 1 → c_X12_ampsAt_70 d x4 m1 (fun r2 m2 => j_X12_loadBy_70_57 (d + 1) x1 x2 (x3 + r2) x4 m2 Q))))))))))) : j_X12_loadBy_70_5 (d + 1) x1 x2 x3 x4 m Q := by
  refine w_iload (q := 7) hm57 ⟨⟨_, _, rfl⟩, rfl⟩ rfl ?_
  refine w_aload_n (q := 8) hm57 ⟨⟨_, _, rfl⟩, rfl⟩ rfl ?_
  refine w_getr (q := 11) hm57 ⟨⟨_, _, rfl⟩, rfl⟩ rfl ?_
  refine w_aload_n (q := 12) hm57 ⟨⟨_, _, rfl⟩, rfl⟩ rfl ?_
  refine w_getf (q := 15) (v := (m.1 70 18)) hm57 ⟨⟨_, _, rfl⟩, rfl⟩ rfl rfl ?_
  obtain ⟨hi, h⟩ := h
  refine w_iald (q := 16) (v := (m.1 86 (m.1 70 18).toNatClampNeg)) hm57 ⟨⟨_, _, rfl⟩, rfl⟩ rfl hi rfl rfl ?_
  refine w_icmp_ge (q := 19) (X := x4.toInt) (Y := (m.1 86 (m.1 70 18).toNatClampNeg).toInt) hm57 ⟨⟨_, _, rfl⟩, rfl⟩ rfl rfl (fun hc => ?_) (fun hc => ?_)
  · have h := h.1 hc
    refine w_iload_n (q := 64) hm57 ⟨⟨_, _, rfl⟩, rfl⟩ rfl ?_
    exact w_reti hm57 ⟨⟨_, _, rfl⟩, rfl⟩ rfl h
  · have h := h.2 hc
    refine w_iload_n (q := 20) hm57 ⟨⟨_, _, rfl⟩, rfl⟩ rfl ?_
    refine w_iload (q := 22) hm57 ⟨⟨_, _, rfl⟩, rfl⟩ rfl ?_
    refine w_ishr (q := 23) hm57 ⟨⟨_, _, rfl⟩, rfl⟩ ?_
    refine w_iconst (q := 24) hm57 ⟨⟨_, _, rfl⟩, rfl⟩ iconst_1 ?_
    refine w_iand (q := 25) hm57 ⟨⟨_, _, rfl⟩, rfl⟩ ?_
    refine w_iconst (q := 26) hm57 ⟨⟨_, _, rfl⟩, rfl⟩ iconst_1 ?_
    refine w_icmp_ne (q := 29) (X := ((x2 >>> (x4 &&& 31)) &&& (1 : Int32)).toInt) (Y := 1) hm57 ⟨⟨_, _, rfl⟩, rfl⟩ rfl (by decide) (fun hc => ?_) (fun hc => ?_)
    · have h := h.1 hc
      exact h
    · have h := h.2 hc
      refine w_aload_n (q := 30) hm57 ⟨⟨_, _, rfl⟩, rfl⟩ rfl ?_
      refine w_getr (q := 33) hm57 ⟨⟨_, _, rfl⟩, rfl⟩ rfl ?_
      refine w_aload_n (q := 34) hm57 ⟨⟨_, _, rfl⟩, rfl⟩ rfl ?_
      refine w_iload (q := 36) hm57 ⟨⟨_, _, rfl⟩, rfl⟩ rfl ?_
      refine w_call (q := 39) (n := 0) (vs := [.inr (.inr (some 70)), .inl x4]) (rest := [.inr (.inr (some 110))]) (la := [oR 70, oI x4]) hm57 ⟨⟨_, _, rfl⟩, rfl⟩ rfl rfl rfl rfl hm53 rfl rfl (fun _ => ⟨_, _, rfl, rfl⟩) rfl (Wp.mono h ?_)
      rintro _ m1 ⟨r1, rfl, h⟩
      change Wp _ _ 39 _ [.inl r1, .inr (.inr (some 110))] _ _
      obtain ⟨hi, h⟩ := h
      refine w_iald (q := 40) (v := (m1.1 110 r1.toNatClampNeg)) hm57 ⟨⟨_, _, rfl⟩, rfl⟩ rfl hi rfl rfl ?_
      refine w_iload_n (q := 41) hm57 ⟨⟨_, _, rfl⟩, rfl⟩ rfl ?_
      refine w_ishr (q := 42) hm57 ⟨⟨_, _, rfl⟩, rfl⟩ ?_
      refine w_iconst (q := 43) hm57 ⟨⟨_, _, rfl⟩, rfl⟩ iconst_1 ?_
      refine w_iand (q := 44) hm57 ⟨⟨_, _, rfl⟩, rfl⟩ ?_
      refine w_iconst (q := 45) hm57 ⟨⟨_, _, rfl⟩, rfl⟩ iconst_1 ?_
      refine w_icmp_ne (q := 48) (X := (((m1.1 110 r1.toNatClampNeg) >>> (x1 &&& 31)) &&& (1 : Int32)).toInt) (Y := 1) hm57 ⟨⟨_, _, rfl⟩, rfl⟩ rfl (by decide) (fun hc => ?_) (fun hc => ?_)
      · have h := h.1 hc
        exact h
      · have h := h.2 hc
        refine w_iload_n (q := 49) hm57 ⟨⟨_, _, rfl⟩, rfl⟩ rfl ?_
        refine w_aload_n (q := 50) hm57 ⟨⟨_, _, rfl⟩, rfl⟩ rfl ?_
        refine w_iload (q := 52) hm57 ⟨⟨_, _, rfl⟩, rfl⟩ rfl ?_
        refine w_call (q := 55) (n := 0) (vs := [.inr (.inr (some 70)), .inl x4]) (rest := [.inl x3]) (la := [oR 70, oI x4]) hm57 ⟨⟨_, _, rfl⟩, rfl⟩ rfl rfl rfl rfl hm54 rfl rfl (fun _ => ⟨_, _, rfl, rfl⟩) rfl (Wp.mono h ?_)
        rintro _ m2 ⟨r2, rfl, h⟩
        change Wp _ _ 55 _ [.inl r2, .inl x3] _ _
        refine w_iadd (q := 56) hm57 ⟨⟨_, _, rfl⟩, rfl⟩ ?_
        refine w_istore_n (q := 57) (l' := [oR 70, oI x1, oI x2, oI (x3 + r2), oI x4]) hm57 ⟨⟨_, _, rfl⟩, rfl⟩ rfl rfl rfl ?_
        exact h
theorem v_X12_loadBy_70_57 {d : Nat} {x1 : Int32} {x2 : Int32} {x3 : Int32} {x4 : Int32} {m : dM} {Q : Int32 → dM → Prop} (h : j_X12_loadBy_70_5 (d + 1) x1 x2 x3 (x4 + (1 : Int32)) m Q) : j_X12_loadBy_70_57 (d + 1) x1 x2 x3 x4 m Q := by
  refine w_iinc (q := 60) (l' := [oR 70, oI x1, oI x2, oI x3, oI (x4 + (1 : Int32))]) hm57 ⟨⟨_, _, rfl⟩, rfl⟩ rfl rfl rfl iconst_1 rfl ?_
  refine w_goto (q := 5) hm57 ⟨_, _, rfl⟩ ?_
  exact h
theorem v_X12_costsOf_70 {d : Nat} {x1 : Int32} {m : dM} {Q : Int32 → dM → Prop} (h : c_X12_looks_70 d ((m.1 108 55) - (m.1 108 55) / (24 : Int32) * (24 : Int32)) x1 m (fun m1 => ((0 ≤ x1.toInt ∧ x1.toInt < 58) ∧ ((0 ≤ ((20 : Int32) + x1).toInt ∧ ((20 : Int32) + x1).toInt < 58) ∧ c_X12_lawTells_70 d (2 : Int32) (m1.1 108 x1.toNatClampNeg) (dSet (dSet m1 105 1 (m1.1 108 x1.toNatClampNeg)) 105 2 (m1.1 108 ((20 : Int32) + x1).toNatClampNeg)) (fun r2 m2 => c_X12_within d r2 (0 : Int32) (99 : Int32) m2 (fun r3 m3 => Q r3 m3)))))) : c_X12_costsOf_70 (d + 1) x1 m Q := by
  refine w_aload_n (q := 1) hm63 ⟨⟨_, _, rfl⟩, rfl⟩ rfl ?_
  refine w_aload_n (q := 2) hm63 ⟨⟨_, _, rfl⟩, rfl⟩ rfl ?_
  refine w_getr (q := 5) hm63 ⟨⟨_, _, rfl⟩, rfl⟩ rfl ?_
  refine w_bipush (q := 7) hm63 ⟨⟨_, _, rfl⟩, rfl⟩ bipush_55 ?_
  refine w_iald (q := 8) (j := 55) (v := (m.1 108 55)) hm63 ⟨⟨_, _, rfl⟩, rfl⟩ rfl (by decide) (by decide) rfl ?_
  refine w_bipush (q := 10) hm63 ⟨⟨_, _, rfl⟩, rfl⟩ bipush_24 ?_
  refine w_irem (q := 11) hm63 ⟨⟨_, _, rfl⟩, rfl⟩ (by decide) ?_
  refine w_iload_n (q := 12) hm63 ⟨⟨_, _, rfl⟩, rfl⟩ rfl ?_
  refine w_call (q := 15) (n := 1) (vs := [.inr (.inr (some 70)), .inl ((m.1 108 55) - (m.1 108 55) / (24 : Int32) * (24 : Int32)), .inl x1]) (rest := []) (la := [oR 70, oI ((m.1 108 55) - (m.1 108 55) / (24 : Int32) * (24 : Int32)), oI x1, none]) hm63 ⟨⟨_, _, rfl⟩, rfl⟩ rfl rfl rfl rfl hm58 rfl rfl (fun _ => ⟨_, _, rfl, rfl⟩) rfl (Wp.mono h ?_)
  rintro _ m1 ⟨rfl, h⟩
  change Wp _ _ 15 _ [] _ _
  refine w_aload_n (q := 16) hm63 ⟨⟨_, _, rfl⟩, rfl⟩ rfl ?_
  refine w_getr (q := 19) hm63 ⟨⟨_, _, rfl⟩, rfl⟩ rfl ?_
  refine w_iconst (q := 20) hm63 ⟨⟨_, _, rfl⟩, rfl⟩ iconst_1 ?_
  refine w_aload_n (q := 21) hm63 ⟨⟨_, _, rfl⟩, rfl⟩ rfl ?_
  refine w_getr (q := 24) hm63 ⟨⟨_, _, rfl⟩, rfl⟩ rfl ?_
  refine w_iload_n (q := 25) hm63 ⟨⟨_, _, rfl⟩, rfl⟩ rfl ?_
  obtain ⟨hi, h⟩ := h
  refine w_iald (q := 26) (v := (m1.1 108 x1.toNatClampNeg)) hm63 ⟨⟨_, _, rfl⟩, rfl⟩ rfl hi rfl rfl ?_
  refine w_iast (q := 27) (j := 1) hm63 ⟨⟨_, _, rfl⟩, rfl⟩ rfl (by decide) (by decide) rfl ?_
  refine w_aload_n (q := 28) hm63 ⟨⟨_, _, rfl⟩, rfl⟩ rfl ?_
  refine w_getr (q := 31) hm63 ⟨⟨_, _, rfl⟩, rfl⟩ rfl ?_
  refine w_iconst (q := 32) hm63 ⟨⟨_, _, rfl⟩, rfl⟩ iconst_2 ?_
  refine w_aload_n (q := 33) hm63 ⟨⟨_, _, rfl⟩, rfl⟩ rfl ?_
  refine w_getr (q := 36) hm63 ⟨⟨_, _, rfl⟩, rfl⟩ rfl ?_
  refine w_bipush (q := 38) hm63 ⟨⟨_, _, rfl⟩, rfl⟩ bipush_20 ?_
  refine w_iload_n (q := 39) hm63 ⟨⟨_, _, rfl⟩, rfl⟩ rfl ?_
  refine w_iadd (q := 40) hm63 ⟨⟨_, _, rfl⟩, rfl⟩ ?_
  obtain ⟨hi, h⟩ := h
  refine w_iald (q := 41) (v := (m1.1 108 ((20 : Int32) + x1).toNatClampNeg)) hm63 ⟨⟨_, _, rfl⟩, rfl⟩ rfl hi rfl rfl ?_
  refine w_iast (q := 42) (j := 2) hm63 ⟨⟨_, _, rfl⟩, rfl⟩ rfl (by decide) (by decide) rfl ?_
  refine w_aload_n (q := 43) hm63 ⟨⟨_, _, rfl⟩, rfl⟩ rfl ?_
  refine w_iconst (q := 44) hm63 ⟨⟨_, _, rfl⟩, rfl⟩ iconst_2 ?_
  refine w_aload_n (q := 45) hm63 ⟨⟨_, _, rfl⟩, rfl⟩ rfl ?_
  refine w_getr (q := 48) hm63 ⟨⟨_, _, rfl⟩, rfl⟩ rfl ?_
  refine w_iconst (q := 49) hm63 ⟨⟨_, _, rfl⟩, rfl⟩ iconst_1 ?_
  refine w_iald (q := 50) (j := 1) (v := (m1.1 108 x1.toNatClampNeg)) hm63 ⟨⟨_, _, rfl⟩, rfl⟩ rfl (by decide) (by decide) rfl ?_
  refine w_call (q := 53) (n := 4) (vs := [.inr (.inr (some 70)), .inl (2 : Int32), .inl (m1.1 108 x1.toNatClampNeg)]) (rest := []) (la := [oR 70, oI (2 : Int32), oI (m1.1 108 x1.toNatClampNeg), none, none, none, none]) hm63 ⟨⟨_, _, rfl⟩, rfl⟩ rfl rfl rfl rfl hm59 rfl rfl (fun _ => ⟨_, _, rfl, rfl⟩) rfl (Wp.mono h ?_)
  rintro _ m2 ⟨r2, rfl, h⟩
  change Wp _ _ 53 _ [.inl r2] _ _
  refine w_iconst (q := 54) hm63 ⟨⟨_, _, rfl⟩, rfl⟩ iconst_0 ?_
  refine w_bipush (q := 56) hm63 ⟨⟨_, _, rfl⟩, rfl⟩ bipush_99 ?_
  refine w_call (q := 59) (n := 0) (vs := [.inl r2, .inl (0 : Int32), .inl (99 : Int32)]) (rest := []) (la := [oI r2, oI (0 : Int32), oI (99 : Int32)]) hm63 ⟨⟨_, _, rfl⟩, rfl⟩ rfl rfl rfl rfl hm37 rfl rfl (fun hz => absurd hz (by decide)) rfl (Wp.mono h ?_)
  rintro _ m3 ⟨r3, rfl, h⟩
  change Wp _ _ 59 _ [.inl r3] _ _
  exact w_reti hm63 ⟨⟨_, _, rfl⟩, rfl⟩ rfl h
theorem v_X12_doesGo_70 {d : Nat} {x1 : Int32} {x2 : Int32} {x3 : Int32} {x4 : Int32} {m : dM} {Q : Int32 → dM → Prop} (h : c_X12_isWhole_70 d x1 m (fun r1 m1 => ((r1.toInt = 0 → j_X12_doesGo_70_21 (d + 1) m1 Q) ∧ (r1.toInt ≠ 0 → ((0 ≤ ((30 : Int32) + x1).toInt ∧ ((30 : Int32) + x1).toInt < 58) ∧ (((m1.1 108 ((30 : Int32) + x1).toNatClampNeg).toInt ≠ 1 → c_X12_loadBy_70 d x1 x2 m1 (fun r2 m2 => ((r2.toInt ≠ 0 → c_X12_looks_70 d x3 x1 m2 (fun m3 => ((0 ≤ x1.toInt ∧ x1.toInt < 58) ∧ ((0 ≤ ((20 : Int32) + x1).toInt ∧ ((20 : Int32) + x1).toInt < 58) ∧ c_X12_lawTells_70 d (0 : Int32) ((r2 + x4) - (m3.1 108 x1.toNatClampNeg)) (dSet (dSet (dSet m3 105 0 (r2 + x4)) 105 1 (m3.1 108 x1.toNatClampNeg)) 105 2 (m3.1 108 ((20 : Int32) + x1).toNatClampNeg)) (fun r4 m4 => ((r4.toInt ≤ 0 → Q (0 : Int32) m4) ∧ (0 < r4.toInt → Q (1 : Int32) m4))))))) ∧ (r2.toInt = 0 → Q (0 : Int32) m2)))) ∧ ((m1.1 108 ((30 : Int32) + x1).toNatClampNeg).toInt = 1 → j_X12_doesGo_70_21 (d + 1) m1 Q))))))) : c_X12_doesGo_70 (d + 1) x1 x2 x3 x4 m Q := by
  refine w_aload_n (q := 1) hm60 ⟨⟨_, _, rfl⟩, rfl⟩ rfl ?_
  refine w_iload_n (q := 2) hm60 ⟨⟨_, _, rfl⟩, rfl⟩ rfl ?_
  refine w_call (q := 5) (n := 0) (vs := [.inr (.inr (some 70)), .inl x1]) (rest := []) (la := [oR 70, oI x1]) hm60 ⟨⟨_, _, rfl⟩, rfl⟩ rfl rfl rfl rfl hm47 rfl rfl (fun _ => ⟨_, _, rfl, rfl⟩) rfl (Wp.mono h ?_)
  rintro _ m1 ⟨r1, rfl, h⟩
  change Wp _ _ 5 _ [.inl r1] _ _
  refine w_if_eq (q := 8) (X := r1.toInt) hm60 ⟨⟨_, _, rfl⟩, rfl⟩ rfl (fun hc => ?_) (fun hc => ?_)
  · have h := h.1 hc
    exact Wp.wk [false, false, false, false, false, false] h
  · have h := h.2 hc
    refine w_aload_n (q := 9) hm60 ⟨⟨_, _, rfl⟩, rfl⟩ rfl ?_
    refine w_getr (q := 12) hm60 ⟨⟨_, _, rfl⟩, rfl⟩ rfl ?_
    refine w_bipush (q := 14) hm60 ⟨⟨_, _, rfl⟩, rfl⟩ bipush_30 ?_
    refine w_iload_n (q := 15) hm60 ⟨⟨_, _, rfl⟩, rfl⟩ rfl ?_
    refine w_iadd (q := 16) hm60 ⟨⟨_, _, rfl⟩, rfl⟩ ?_
    obtain ⟨hi, h⟩ := h
    refine w_iald (q := 17) (v := (m1.1 108 ((30 : Int32) + x1).toNatClampNeg)) hm60 ⟨⟨_, _, rfl⟩, rfl⟩ rfl hi rfl rfl ?_
    refine w_iconst (q := 18) hm60 ⟨⟨_, _, rfl⟩, rfl⟩ iconst_1 ?_
    refine w_icmp_ne (q := 21) (X := (m1.1 108 ((30 : Int32) + x1).toNatClampNeg).toInt) (Y := 1) hm60 ⟨⟨_, _, rfl⟩, rfl⟩ rfl (by decide) (fun hc => ?_) (fun hc => ?_)
    · have h := h.1 hc
      refine w_aload_n (q := 24) hm60 ⟨⟨_, _, rfl⟩, rfl⟩ rfl ?_
      refine w_iload_n (q := 25) hm60 ⟨⟨_, _, rfl⟩, rfl⟩ rfl ?_
      refine w_iload_n (q := 26) hm60 ⟨⟨_, _, rfl⟩, rfl⟩ rfl ?_
      refine w_call (q := 29) (n := 2) (vs := [.inr (.inr (some 70)), .inl x1, .inl x2]) (rest := []) (la := [oR 70, oI x1, oI x2, none, none]) hm60 ⟨⟨_, _, rfl⟩, rfl⟩ rfl rfl rfl rfl hm57 rfl rfl (fun _ => ⟨_, _, rfl, rfl⟩) rfl (Wp.mono h ?_)
      rintro _ m2 ⟨r2, rfl, h⟩
      change Wp _ _ 29 _ [.inl r2] _ _
      refine w_istore (q := 31) (l' := [oR 70, oI x1, oI x2, oI x3, oI x4, oI r2]) hm60 ⟨⟨_, _, rfl⟩, rfl⟩ rfl rfl rfl ?_
      refine w_iload (q := 33) hm60 ⟨⟨_, _, rfl⟩, rfl⟩ rfl ?_
      refine w_if_ne (q := 36) (X := r2.toInt) hm60 ⟨⟨_, _, rfl⟩, rfl⟩ rfl (fun hc => ?_) (fun hc => ?_)
      · have h := h.1 hc
        refine w_aload_n (q := 39) hm60 ⟨⟨_, _, rfl⟩, rfl⟩ rfl ?_
        refine w_iload_n (q := 40) hm60 ⟨⟨_, _, rfl⟩, rfl⟩ rfl ?_
        refine w_iload_n (q := 41) hm60 ⟨⟨_, _, rfl⟩, rfl⟩ rfl ?_
        refine w_call (q := 44) (n := 1) (vs := [.inr (.inr (some 70)), .inl x3, .inl x1]) (rest := []) (la := [oR 70, oI x3, oI x1, none]) hm60 ⟨⟨_, _, rfl⟩, rfl⟩ rfl rfl rfl rfl hm58 rfl rfl (fun _ => ⟨_, _, rfl, rfl⟩) rfl (Wp.mono h ?_)
        rintro _ m3 ⟨rfl, h⟩
        change Wp _ _ 44 _ [] _ _
        refine w_aload_n (q := 45) hm60 ⟨⟨_, _, rfl⟩, rfl⟩ rfl ?_
        refine w_getr (q := 48) hm60 ⟨⟨_, _, rfl⟩, rfl⟩ rfl ?_
        refine w_iconst (q := 49) hm60 ⟨⟨_, _, rfl⟩, rfl⟩ iconst_0 ?_
        refine w_iload (q := 51) hm60 ⟨⟨_, _, rfl⟩, rfl⟩ rfl ?_
        refine w_iload (q := 53) hm60 ⟨⟨_, _, rfl⟩, rfl⟩ rfl ?_
        refine w_iadd (q := 54) hm60 ⟨⟨_, _, rfl⟩, rfl⟩ ?_
        refine w_iast (q := 55) (j := 0) hm60 ⟨⟨_, _, rfl⟩, rfl⟩ rfl (by decide) (by decide) rfl ?_
        refine w_aload_n (q := 56) hm60 ⟨⟨_, _, rfl⟩, rfl⟩ rfl ?_
        refine w_getr (q := 59) hm60 ⟨⟨_, _, rfl⟩, rfl⟩ rfl ?_
        refine w_iconst (q := 60) hm60 ⟨⟨_, _, rfl⟩, rfl⟩ iconst_1 ?_
        refine w_aload_n (q := 61) hm60 ⟨⟨_, _, rfl⟩, rfl⟩ rfl ?_
        refine w_getr (q := 64) hm60 ⟨⟨_, _, rfl⟩, rfl⟩ rfl ?_
        refine w_iload_n (q := 65) hm60 ⟨⟨_, _, rfl⟩, rfl⟩ rfl ?_
        obtain ⟨hi, h⟩ := h
        refine w_iald (q := 66) (v := (m3.1 108 x1.toNatClampNeg)) hm60 ⟨⟨_, _, rfl⟩, rfl⟩ rfl hi rfl rfl ?_
        refine w_iast (q := 67) (j := 1) hm60 ⟨⟨_, _, rfl⟩, rfl⟩ rfl (by decide) (by decide) rfl ?_
        refine w_aload_n (q := 68) hm60 ⟨⟨_, _, rfl⟩, rfl⟩ rfl ?_
        refine w_getr (q := 71) hm60 ⟨⟨_, _, rfl⟩, rfl⟩ rfl ?_
        refine w_iconst (q := 72) hm60 ⟨⟨_, _, rfl⟩, rfl⟩ iconst_2 ?_
        refine w_aload_n (q := 73) hm60 ⟨⟨_, _, rfl⟩, rfl⟩ rfl ?_
        refine w_getr (q := 76) hm60 ⟨⟨_, _, rfl⟩, rfl⟩ rfl ?_
        refine w_bipush (q := 78) hm60 ⟨⟨_, _, rfl⟩, rfl⟩ bipush_20 ?_
        refine w_iload_n (q := 79) hm60 ⟨⟨_, _, rfl⟩, rfl⟩ rfl ?_
        refine w_iadd (q := 80) hm60 ⟨⟨_, _, rfl⟩, rfl⟩ ?_
        obtain ⟨hi, h⟩ := h
        refine w_iald (q := 81) (v := (m3.1 108 ((20 : Int32) + x1).toNatClampNeg)) hm60 ⟨⟨_, _, rfl⟩, rfl⟩ rfl hi rfl rfl ?_
        refine w_iast (q := 82) (j := 2) hm60 ⟨⟨_, _, rfl⟩, rfl⟩ rfl (by decide) (by decide) rfl ?_
        refine w_aload_n (q := 83) hm60 ⟨⟨_, _, rfl⟩, rfl⟩ rfl ?_
        refine w_iconst (q := 84) hm60 ⟨⟨_, _, rfl⟩, rfl⟩ iconst_0 ?_
        refine w_aload_n (q := 85) hm60 ⟨⟨_, _, rfl⟩, rfl⟩ rfl ?_
        refine w_getr (q := 88) hm60 ⟨⟨_, _, rfl⟩, rfl⟩ rfl ?_
        refine w_iconst (q := 89) hm60 ⟨⟨_, _, rfl⟩, rfl⟩ iconst_0 ?_
        refine w_iald (q := 90) (j := 0) (v := (r2 + x4)) hm60 ⟨⟨_, _, rfl⟩, rfl⟩ rfl (by decide) (by decide) rfl ?_
        refine w_aload_n (q := 91) hm60 ⟨⟨_, _, rfl⟩, rfl⟩ rfl ?_
        refine w_getr (q := 94) hm60 ⟨⟨_, _, rfl⟩, rfl⟩ rfl ?_
        refine w_iconst (q := 95) hm60 ⟨⟨_, _, rfl⟩, rfl⟩ iconst_1 ?_
        refine w_iald (q := 96) (j := 1) (v := (m3.1 108 x1.toNatClampNeg)) hm60 ⟨⟨_, _, rfl⟩, rfl⟩ rfl (by decide) (by decide) rfl ?_
        refine w_isub (q := 97) hm60 ⟨⟨_, _, rfl⟩, rfl⟩ ?_
        refine w_call (q := 100) (n := 4) (vs := [.inr (.inr (some 70)), .inl (0 : Int32), .inl ((r2 + x4) - (m3.1 108 x1.toNatClampNeg))]) (rest := []) (la := [oR 70, oI (0 : Int32), oI ((r2 + x4) - (m3.1 108 x1.toNatClampNeg)), none, none, none, none]) hm60 ⟨⟨_, _, rfl⟩, rfl⟩ rfl rfl rfl rfl hm59 rfl rfl (fun _ => ⟨_, _, rfl, rfl⟩) rfl (Wp.mono h ?_)
        rintro _ m4 ⟨r4, rfl, h⟩
        change Wp _ _ 100 _ [.inl r4] _ _
        refine w_if_le (q := 103) (X := r4.toInt) hm60 ⟨⟨_, _, rfl⟩, rfl⟩ rfl (fun hc => ?_) (fun hc => ?_)
        · have h := h.1 hc
          refine w_iconst (q := 108) hm60 ⟨⟨_, _, rfl⟩, rfl⟩ iconst_0 ?_
          exact w_retz hm60 ⟨⟨_, _, rfl⟩, rfl⟩ rfl (by decide) h
        · have h := h.2 hc
          refine w_iconst (q := 104) hm60 ⟨⟨_, _, rfl⟩, rfl⟩ iconst_1 ?_
          refine w_goto (q := 108) hm60 ⟨_, _, rfl⟩ ?_
          exact w_retz hm60 ⟨⟨_, _, rfl⟩, rfl⟩ rfl (by decide) h
      · have h := h.2 hc
        refine w_iconst (q := 37) hm60 ⟨⟨_, _, rfl⟩, rfl⟩ iconst_0 ?_
        exact w_retz hm60 ⟨⟨_, _, rfl⟩, rfl⟩ rfl (by decide) h
    · have h := h.2 hc
      exact Wp.wk [false, false, false, false, false, false] h
theorem v_X12_doesGo_70_21 {d : Nat} {m : dM} {Q : Int32 → dM → Prop} (h : Q (0 : Int32) m) : j_X12_doesGo_70_21 (d + 1) m Q := by
  refine w_iconst (q := 22) hm60 ⟨⟨_, _, rfl⟩, rfl⟩ iconst_0 ?_
  exact w_retz hm60 ⟨⟨_, _, rfl⟩, rfl⟩ rfl (by decide) h
end
section
theorem v_X12_wire_70 {d : Nat} {x1 : Int32} {x2 : Int32} {m : dM} {Q : Int32 → dM → Prop} (h : c_X12_isWire_70 d x1 m (fun r1 m1 => ((r1.toInt ≠ 0 → c_X12_copies_70 d m1 (fun m2 => ((x2.toInt = 0 → ((0 ≤ (((10 : Int32) * (m2.1 70 18)) + x1).toInt ∧ (((10 : Int32) * (m2.1 70 18)) + x1).toInt < 20) ∧ Q (m2.1 83 (((10 : Int32) * (m2.1 70 18)) + x1).toNatClampNeg) m2)) ∧ (x2.toInt = 1 → ((0 ≤ (((10 : Int32) * (m2.1 70 18)) + x1).toInt ∧ (((10 : Int32) * (m2.1 70 18)) + x1).toInt < 20) ∧ Q (m2.1 84 (((10 : Int32) * (m2.1 70 18)) + x1).toNatClampNeg) m2)) ∧ (x2.toInt = 2 → ((0 ≤ x1.toInt ∧ x1.toInt < 58) ∧ Q (m2.1 108 x1.toNatClampNeg) m2)) ∧ (x2.toInt = 3 → ((0 ≤ ((10 : Int32) + x1).toInt ∧ ((10 : Int32) + x1).toInt < 58) ∧ Q ((1 : Int32) - (m2.1 108 ((10 : Int32) + x1).toNatClampNeg)) m2)) ∧ (x2.toInt = 4 → ((0 ≤ ((20 : Int32) + x1).toInt ∧ ((20 : Int32) + x1).toInt < 58) ∧ Q (m2.1 108 ((20 : Int32) + x1).toNatClampNeg) m2)) ∧ (x2.toInt = 5 → ((0 ≤ ((30 : Int32) + x1).toInt ∧ ((30 : Int32) + x1).toInt < 58) ∧ Q (m2.1 108 ((30 : Int32) + x1).toNatClampNeg) m2)) ∧ (x2.toInt = 6 → c_X12_onNow_70 d m2 (fun r3 m3 => c_X12_loadBy_70 d x1 r3 m3 (fun r4 m4 => Q r4 m4))) ∧ (x2.toInt = 7 → c_X12_costsOf_70 d x1 m2 (fun r5 m5 => Q r5 m5)) ∧ (x2.toInt = 8 → c_X12_onNow_70 d m2 (fun r6 m6 => c_X12_doesGo_70 d x1 r6 ((m6.1 108 55) - (m6.1 108 55) / (24 : Int32) * (24 : Int32)) (0 : Int32) m6 (fun r7 m7 => ((r7.toInt = 0 → Q (0 : Int32) m7) ∧ (r7.toInt ≠ 0 → Q (1 : Int32) m7))))) ∧ (x2.toInt < 0 ∨ 8 < x2.toInt → Q (-1 : Int32) m2)))) ∧ (r1.toInt = 0 → Q (-1 : Int32) m1)))) : c_X12_wire_70 (d + 1) x1 x2 m Q := by
  refine w_aload_n (q := 1) hm71 ⟨⟨_, _, rfl⟩, rfl⟩ rfl ?_
  refine w_iload_n (q := 2) hm71 ⟨⟨_, _, rfl⟩, rfl⟩ rfl ?_
  refine w_call (q := 5) (n := 0) (vs := [.inr (.inr (some 70)), .inl x1]) (rest := []) (la := [oR 70, oI x1]) hm71 ⟨⟨_, _, rfl⟩, rfl⟩ rfl rfl rfl rfl hm40 rfl rfl (fun _ => ⟨_, _, rfl, rfl⟩) rfl (Wp.mono h ?_)
  rintro _ m1 ⟨r1, rfl, h⟩
  change Wp _ _ 5 _ [.inl r1] _ _
  refine w_if_ne (q := 8) (X := r1.toInt) hm71 ⟨⟨_, _, rfl⟩, rfl⟩ rfl (fun hc => ?_) (fun hc => ?_)
  · have h := h.1 hc
    refine w_aload_n (q := 11) hm71 ⟨⟨_, _, rfl⟩, rfl⟩ rfl ?_
    refine w_call (q := 14) (n := 1) (vs := [.inr (.inr (some 70))]) (rest := []) (la := [oR 70, none]) hm71 ⟨⟨_, _, rfl⟩, rfl⟩ rfl rfl rfl rfl hm44 rfl rfl (fun _ => ⟨_, _, rfl, rfl⟩) rfl (Wp.mono h ?_)
    rintro _ m2 ⟨rfl, h⟩
    change Wp _ _ 14 _ [] _ _
    refine w_iload_n (q := 15) hm71 ⟨⟨_, _, rfl⟩, rfl⟩ rfl ?_
    refine w_tsw (X := x2.toInt) hm71 ⟨_, _, rfl⟩ (by decide) (by decide) rfl ((And.intro (fun hc => ?_) (And.intro (fun hc => ?_) (And.intro (fun hc => ?_) (And.intro (fun hc => ?_) (And.intro (fun hc => ?_) (And.intro (fun hc => ?_) (And.intro (fun hc => ?_) (And.intro (fun hc => ?_) (And.intro (fun hc => ?_) trivial)))))))))) (fun hc => ?_)
    · have h := (h.1) hc
      change Wp _ _ 64 _ _ _ _
      refine w_aload_n (q := 65) hm71 ⟨⟨_, _, rfl⟩, rfl⟩ rfl ?_
      refine w_getr (q := 68) hm71 ⟨⟨_, _, rfl⟩, rfl⟩ rfl ?_
      refine w_bipush (q := 70) hm71 ⟨⟨_, _, rfl⟩, rfl⟩ bipush_10 ?_
      refine w_aload_n (q := 71) hm71 ⟨⟨_, _, rfl⟩, rfl⟩ rfl ?_
      refine w_getf (q := 74) (v := (m2.1 70 18)) hm71 ⟨⟨_, _, rfl⟩, rfl⟩ rfl rfl ?_
      refine w_imul (q := 75) hm71 ⟨⟨_, _, rfl⟩, rfl⟩ ?_
      refine w_iload_n (q := 76) hm71 ⟨⟨_, _, rfl⟩, rfl⟩ rfl ?_
      refine w_iadd (q := 77) hm71 ⟨⟨_, _, rfl⟩, rfl⟩ ?_
      obtain ⟨hi, h⟩ := h
      refine w_iald (q := 78) (v := (m2.1 83 (((10 : Int32) * (m2.1 70 18)) + x1).toNatClampNeg)) hm71 ⟨⟨_, _, rfl⟩, rfl⟩ rfl hi rfl rfl ?_
      exact w_reti hm71 ⟨⟨_, _, rfl⟩, rfl⟩ rfl h
    · have h := (h.2.1) hc
      change Wp _ _ 79 _ _ _ _
      refine w_aload_n (q := 80) hm71 ⟨⟨_, _, rfl⟩, rfl⟩ rfl ?_
      refine w_getr (q := 83) hm71 ⟨⟨_, _, rfl⟩, rfl⟩ rfl ?_
      refine w_bipush (q := 85) hm71 ⟨⟨_, _, rfl⟩, rfl⟩ bipush_10 ?_
      refine w_aload_n (q := 86) hm71 ⟨⟨_, _, rfl⟩, rfl⟩ rfl ?_
      refine w_getf (q := 89) (v := (m2.1 70 18)) hm71 ⟨⟨_, _, rfl⟩, rfl⟩ rfl rfl ?_
      refine w_imul (q := 90) hm71 ⟨⟨_, _, rfl⟩, rfl⟩ ?_
      refine w_iload_n (q := 91) hm71 ⟨⟨_, _, rfl⟩, rfl⟩ rfl ?_
      refine w_iadd (q := 92) hm71 ⟨⟨_, _, rfl⟩, rfl⟩ ?_
      obtain ⟨hi, h⟩ := h
      refine w_iald (q := 93) (v := (m2.1 84 (((10 : Int32) * (m2.1 70 18)) + x1).toNatClampNeg)) hm71 ⟨⟨_, _, rfl⟩, rfl⟩ rfl hi rfl rfl ?_
      exact w_reti hm71 ⟨⟨_, _, rfl⟩, rfl⟩ rfl h
    · have h := (h.2.2.1) hc
      change Wp _ _ 94 _ _ _ _
      refine w_aload_n (q := 95) hm71 ⟨⟨_, _, rfl⟩, rfl⟩ rfl ?_
      refine w_getr (q := 98) hm71 ⟨⟨_, _, rfl⟩, rfl⟩ rfl ?_
      refine w_iload_n (q := 99) hm71 ⟨⟨_, _, rfl⟩, rfl⟩ rfl ?_
      obtain ⟨hi, h⟩ := h
      refine w_iald (q := 100) (v := (m2.1 108 x1.toNatClampNeg)) hm71 ⟨⟨_, _, rfl⟩, rfl⟩ rfl hi rfl rfl ?_
      exact w_reti hm71 ⟨⟨_, _, rfl⟩, rfl⟩ rfl h
    · have h := (h.2.2.2.1) hc
      change Wp _ _ 101 _ _ _ _
      refine w_iconst (q := 102) hm71 ⟨⟨_, _, rfl⟩, rfl⟩ iconst_1 ?_
      refine w_aload_n (q := 103) hm71 ⟨⟨_, _, rfl⟩, rfl⟩ rfl ?_
      refine w_getr (q := 106) hm71 ⟨⟨_, _, rfl⟩, rfl⟩ rfl ?_
      refine w_bipush (q := 108) hm71 ⟨⟨_, _, rfl⟩, rfl⟩ bipush_10 ?_
      refine w_iload_n (q := 109) hm71 ⟨⟨_, _, rfl⟩, rfl⟩ rfl ?_
      refine w_iadd (q := 110) hm71 ⟨⟨_, _, rfl⟩, rfl⟩ ?_
      obtain ⟨hi, h⟩ := h
      refine w_iald (q := 111) (v := (m2.1 108 ((10 : Int32) + x1).toNatClampNeg)) hm71 ⟨⟨_, _, rfl⟩, rfl⟩ rfl hi rfl rfl ?_
      refine w_isub (q := 112) hm71 ⟨⟨_, _, rfl⟩, rfl⟩ ?_
      exact w_reti hm71 ⟨⟨_, _, rfl⟩, rfl⟩ rfl h
    · have h := (h.2.2.2.2.1) hc
      change Wp _ _ 113 _ _ _ _
      refine w_aload_n (q := 114) hm71 ⟨⟨_, _, rfl⟩, rfl⟩ rfl ?_
      refine w_getr (q := 117) hm71 ⟨⟨_, _, rfl⟩, rfl⟩ rfl ?_
      refine w_bipush (q := 119) hm71 ⟨⟨_, _, rfl⟩, rfl⟩ bipush_20 ?_
      refine w_iload_n (q := 120) hm71 ⟨⟨_, _, rfl⟩, rfl⟩ rfl ?_
      refine w_iadd (q := 121) hm71 ⟨⟨_, _, rfl⟩, rfl⟩ ?_
      obtain ⟨hi, h⟩ := h
      refine w_iald (q := 122) (v := (m2.1 108 ((20 : Int32) + x1).toNatClampNeg)) hm71 ⟨⟨_, _, rfl⟩, rfl⟩ rfl hi rfl rfl ?_
      exact w_reti hm71 ⟨⟨_, _, rfl⟩, rfl⟩ rfl h
    · have h := (h.2.2.2.2.2.1) hc
      change Wp _ _ 123 _ _ _ _
      refine w_aload_n (q := 124) hm71 ⟨⟨_, _, rfl⟩, rfl⟩ rfl ?_
      refine w_getr (q := 127) hm71 ⟨⟨_, _, rfl⟩, rfl⟩ rfl ?_
      refine w_bipush (q := 129) hm71 ⟨⟨_, _, rfl⟩, rfl⟩ bipush_30 ?_
      refine w_iload_n (q := 130) hm71 ⟨⟨_, _, rfl⟩, rfl⟩ rfl ?_
      refine w_iadd (q := 131) hm71 ⟨⟨_, _, rfl⟩, rfl⟩ ?_
      obtain ⟨hi, h⟩ := h
      refine w_iald (q := 132) (v := (m2.1 108 ((30 : Int32) + x1).toNatClampNeg)) hm71 ⟨⟨_, _, rfl⟩, rfl⟩ rfl hi rfl rfl ?_
      exact w_reti hm71 ⟨⟨_, _, rfl⟩, rfl⟩ rfl h
    · have h := (h.2.2.2.2.2.2.1) hc
      change Wp _ _ 133 _ _ _ _
      refine w_aload_n (q := 134) hm71 ⟨⟨_, _, rfl⟩, rfl⟩ rfl ?_
      refine w_iload_n (q := 135) hm71 ⟨⟨_, _, rfl⟩, rfl⟩ rfl ?_
      refine w_aload_n (q := 136) hm71 ⟨⟨_, _, rfl⟩, rfl⟩ rfl ?_
      refine w_call (q := 139) (n := 0) (vs := [.inr (.inr (some 70))]) (rest := [.inl x1, .inr (.inr (some 70))]) (la := [oR 70]) hm71 ⟨⟨_, _, rfl⟩, rfl⟩ rfl rfl rfl rfl hm56 rfl rfl (fun _ => ⟨_, _, rfl, rfl⟩) rfl (Wp.mono h ?_)
      rintro _ m3 ⟨r3, rfl, h⟩
      change Wp _ _ 139 _ [.inl r3, .inl x1, .inr (.inr (some 70))] _ _
      refine w_call (q := 142) (n := 2) (vs := [.inr (.inr (some 70)), .inl x1, .inl r3]) (rest := []) (la := [oR 70, oI x1, oI r3, none, none]) hm71 ⟨⟨_, _, rfl⟩, rfl⟩ rfl rfl rfl rfl hm57 rfl rfl (fun _ => ⟨_, _, rfl, rfl⟩) rfl (Wp.mono h ?_)
      rintro _ m4 ⟨r4, rfl, h⟩
      change Wp _ _ 142 _ [.inl r4] _ _
      exact w_reti hm71 ⟨⟨_, _, rfl⟩, rfl⟩ rfl h
    · have h := (h.2.2.2.2.2.2.2.1) hc
      change Wp _ _ 143 _ _ _ _
      refine w_aload_n (q := 144) hm71 ⟨⟨_, _, rfl⟩, rfl⟩ rfl ?_
      refine w_iload_n (q := 145) hm71 ⟨⟨_, _, rfl⟩, rfl⟩ rfl ?_
      refine w_call (q := 148) (n := 0) (vs := [.inr (.inr (some 70)), .inl x1]) (rest := []) (la := [oR 70, oI x1]) hm71 ⟨⟨_, _, rfl⟩, rfl⟩ rfl rfl rfl rfl hm63 rfl rfl (fun _ => ⟨_, _, rfl, rfl⟩) rfl (Wp.mono h ?_)
      rintro _ m5 ⟨r5, rfl, h⟩
      change Wp _ _ 148 _ [.inl r5] _ _
      exact w_reti hm71 ⟨⟨_, _, rfl⟩, rfl⟩ rfl h
    · have h := (h.2.2.2.2.2.2.2.2.1) hc
      change Wp _ _ 149 _ _ _ _
      refine w_aload_n (q := 150) hm71 ⟨⟨_, _, rfl⟩, rfl⟩ rfl ?_
      refine w_iload_n (q := 151) hm71 ⟨⟨_, _, rfl⟩, rfl⟩ rfl ?_
      refine w_aload_n (q := 152) hm71 ⟨⟨_, _, rfl⟩, rfl⟩ rfl ?_
      refine w_call (q := 155) (n := 0) (vs := [.inr (.inr (some 70))]) (rest := [.inl x1, .inr (.inr (some 70))]) (la := [oR 70]) hm71 ⟨⟨_, _, rfl⟩, rfl⟩ rfl rfl rfl rfl hm56 rfl rfl (fun _ => ⟨_, _, rfl, rfl⟩) rfl (Wp.mono h ?_)
      rintro _ m6 ⟨r6, rfl, h⟩
      change Wp _ _ 155 _ [.inl r6, .inl x1, .inr (.inr (some 70))] _ _
      refine w_aload_n (q := 156) hm71 ⟨⟨_, _, rfl⟩, rfl⟩ rfl ?_
      refine w_getr (q := 159) hm71 ⟨⟨_, _, rfl⟩, rfl⟩ rfl ?_
      refine w_bipush (q := 161) hm71 ⟨⟨_, _, rfl⟩, rfl⟩ bipush_55 ?_
      refine w_iald (q := 162) (j := 55) (v := (m6.1 108 55)) hm71 ⟨⟨_, _, rfl⟩, rfl⟩ rfl (by decide) (by decide) rfl ?_
      refine w_bipush (q := 164) hm71 ⟨⟨_, _, rfl⟩, rfl⟩ bipush_24 ?_
      refine w_irem (q := 165) hm71 ⟨⟨_, _, rfl⟩, rfl⟩ (by decide) ?_
      refine w_iconst (q := 166) hm71 ⟨⟨_, _, rfl⟩, rfl⟩ iconst_0 ?_
      refine w_call (q := 169) (n := 1) (vs := [.inr (.inr (some 70)), .inl x1, .inl r6, .inl ((m6.1 108 55) - (m6.1 108 55) / (24 : Int32) * (24 : Int32)), .inl (0 : Int32)]) (rest := []) (la := [oR 70, oI x1, oI r6, oI ((m6.1 108 55) - (m6.1 108 55) / (24 : Int32) * (24 : Int32)), oI (0 : Int32), none]) hm71 ⟨⟨_, _, rfl⟩, rfl⟩ rfl rfl rfl rfl hm60 rfl rfl (fun _ => ⟨_, _, rfl, rfl⟩) rfl (Wp.mono h ?_)
      rintro _ m7 ⟨r7, rfl, h⟩
      change Wp _ _ 169 _ [.inl r7] _ _
      refine w_if_eq (q := 172) (X := r7.toInt) hm71 ⟨⟨_, _, rfl⟩, rfl⟩ rfl (fun hc => ?_) (fun hc => ?_)
      · have h := h.1 hc
        refine w_iconst (q := 177) hm71 ⟨⟨_, _, rfl⟩, rfl⟩ iconst_0 ?_
        exact w_reti hm71 ⟨⟨_, _, rfl⟩, rfl⟩ rfl h
      · have h := h.2 hc
        refine w_iconst (q := 173) hm71 ⟨⟨_, _, rfl⟩, rfl⟩ iconst_1 ?_
        refine w_goto (q := 177) hm71 ⟨_, _, rfl⟩ ?_
        exact w_reti hm71 ⟨⟨_, _, rfl⟩, rfl⟩ rfl h
    · have h := (h.2.2.2.2.2.2.2.2.2) hc
      change Wp _ _ 178 _ _ _ _
      refine w_iconst (q := 179) hm71 ⟨⟨_, _, rfl⟩, rfl⟩ iconst_m1 ?_
      exact w_reti hm71 ⟨⟨_, _, rfl⟩, rfl⟩ rfl h
  · have h := h.2 hc
    refine w_iconst (q := 9) hm71 ⟨⟨_, _, rfl⟩, rfl⟩ iconst_m1 ?_
    exact w_reti hm71 ⟨⟨_, _, rfl⟩, rfl⟩ rfl h
theorem v_X11_isUse_0 {d : Nat} {x1 : Int32} {m : dM} {Q : Int32 → dM → Prop} (h : ((x1.toInt < 0 → j_X11_isUse_0_19 (d + 1) m Q) ∧ (0 ≤ x1.toInt → (((m.1 2 2).toInt ≤ x1.toInt → j_X11_isUse_0_19 (d + 1) m Q) ∧ (x1.toInt < (m.1 2 2).toInt → Q (1 : Int32) m))))) : c_X11_isUse_0 (d + 1) x1 m Q := by
  refine w_iload_n (q := 1) hm250 ⟨⟨_, _, rfl⟩, rfl⟩ rfl ?_
  refine w_if_lt (q := 4) (X := x1.toInt) hm250 ⟨⟨_, _, rfl⟩, rfl⟩ rfl (fun hc => ?_) (fun hc => ?_)
  · have h := h.1 hc
    exact Wp.wk [false, false] h
  · have h := h.2 hc
    refine w_iload_n (q := 5) hm250 ⟨⟨_, _, rfl⟩, rfl⟩ rfl ?_
    refine w_aload_n (q := 6) hm250 ⟨⟨_, _, rfl⟩, rfl⟩ rfl ?_
    refine w_getr (q := 9) hm250 ⟨⟨_, _, rfl⟩, rfl⟩ rfl ?_
    refine w_getf (q := 12) (v := (m.1 2 2)) hm250 ⟨⟨_, _, rfl⟩, rfl⟩ rfl rfl ?_
    refine w_icmp_ge (q := 15) (X := x1.toInt) (Y := (m.1 2 2).toInt) hm250 ⟨⟨_, _, rfl⟩, rfl⟩ rfl rfl (fun hc => ?_) (fun hc => ?_)
    · have h := h.1 hc
      exact Wp.wk [false, false] h
    · have h := h.2 hc
      refine w_iconst (q := 16) hm250 ⟨⟨_, _, rfl⟩, rfl⟩ iconst_1 ?_
      refine w_goto (q := 20) hm250 ⟨_, _, rfl⟩ ?_
      exact w_retz hm250 ⟨⟨_, _, rfl⟩, rfl⟩ rfl (by decide) h
theorem v_X11_isUse_0_19 {d : Nat} {m : dM} {Q : Int32 → dM → Prop} (h : Q (0 : Int32) m) : j_X11_isUse_0_19 (d + 1) m Q := by
  refine w_iconst (q := 20) hm250 ⟨⟨_, _, rfl⟩, rfl⟩ iconst_0 ?_
  exact w_retz hm250 ⟨⟨_, _, rfl⟩, rfl⟩ rfl (by decide) h
theorem v_X0_payOf_54_47 {d : Nat} {x2 : Int32} {m : dM} {Q : Int32 → dM → Prop} (h : c_X7_hourOfDay_47 d m (fun r1 m1 => c_X7_day_47 d m1 (fun r2 m2 => c_X0_setVars_54 d r1 r2 x2 m2 (fun m3 => ((0 ≤ x2.toInt ∧ x2.toInt < 8) ∧ c_X4_tells_11_55 d (3 : Int32) (dSet m3 55 5 (m3.1 8 x2.toNatClampNeg)) (fun r4 m4 => c_X0_held d r4 m4 (fun r5 m5 => Q r5 m5))))))) : c_X0_payOf_54_47 (d + 1) x2 m Q := by
  refine w_aload_n (q := 1) hm129 ⟨⟨_, _, rfl⟩, rfl⟩ rfl ?_
  refine w_aload_n (q := 2) hm129 ⟨⟨_, _, rfl⟩, rfl⟩ rfl ?_
  refine w_call (q := 5) (n := 0) (vs := [.inr (.inr (some 47))]) (rest := [.inr (.inr (some 54))]) (la := [oR 47]) hm129 ⟨⟨_, _, rfl⟩, rfl⟩ rfl rfl rfl rfl hm212 rfl rfl (fun _ => ⟨_, _, rfl, rfl⟩) rfl (Wp.mono h ?_)
  rintro _ m1 ⟨r1, rfl, h⟩
  change Wp _ _ 5 _ [.inl r1, .inr (.inr (some 54))] _ _
  refine w_aload_n (q := 6) hm129 ⟨⟨_, _, rfl⟩, rfl⟩ rfl ?_
  refine w_call (q := 9) (n := 0) (vs := [.inr (.inr (some 47))]) (rest := [.inl r1, .inr (.inr (some 54))]) (la := [oR 47]) hm129 ⟨⟨_, _, rfl⟩, rfl⟩ rfl rfl rfl rfl hm213 rfl rfl (fun _ => ⟨_, _, rfl, rfl⟩) rfl (Wp.mono h ?_)
  rintro _ m2 ⟨r2, rfl, h⟩
  change Wp _ _ 9 _ [.inl r2, .inl r1, .inr (.inr (some 54))] _ _
  refine w_iload_n (q := 10) hm129 ⟨⟨_, _, rfl⟩, rfl⟩ rfl ?_
  refine w_call (q := 13) (n := 0) (vs := [.inr (.inr (some 54)), .inl r1, .inl r2, .inl x2]) (rest := []) (la := [oR 54, oI r1, oI r2, oI x2]) hm129 ⟨⟨_, _, rfl⟩, rfl⟩ rfl rfl rfl rfl hm125 rfl rfl (fun _ => ⟨_, _, rfl, rfl⟩) rfl (Wp.mono h ?_)
  rintro _ m3 ⟨rfl, h⟩
  change Wp _ _ 13 _ [] _ _
  refine w_aload_n (q := 14) hm129 ⟨⟨_, _, rfl⟩, rfl⟩ rfl ?_
  refine w_getr (q := 17) hm129 ⟨⟨_, _, rfl⟩, rfl⟩ rfl ?_
  refine w_iconst (q := 18) hm129 ⟨⟨_, _, rfl⟩, rfl⟩ iconst_5 ?_
  refine w_aload_n (q := 19) hm129 ⟨⟨_, _, rfl⟩, rfl⟩ rfl ?_
  refine w_getr (q := 22) hm129 ⟨⟨_, _, rfl⟩, rfl⟩ rfl ?_
  refine w_getr (q := 25) hm129 ⟨⟨_, _, rfl⟩, rfl⟩ rfl ?_
  refine w_iload_n (q := 26) hm129 ⟨⟨_, _, rfl⟩, rfl⟩ rfl ?_
  obtain ⟨hi, h⟩ := h
  refine w_iald (q := 27) (v := (m3.1 8 x2.toNatClampNeg)) hm129 ⟨⟨_, _, rfl⟩, rfl⟩ rfl hi rfl rfl ?_
  refine w_iast (q := 28) (j := 5) hm129 ⟨⟨_, _, rfl⟩, rfl⟩ rfl (by decide) (by decide) rfl ?_
  refine w_aload_n (q := 29) hm129 ⟨⟨_, _, rfl⟩, rfl⟩ rfl ?_
  refine w_getr (q := 32) hm129 ⟨⟨_, _, rfl⟩, rfl⟩ rfl ?_
  refine w_getr (q := 35) hm129 ⟨⟨_, _, rfl⟩, rfl⟩ rfl ?_
  refine w_iconst (q := 36) hm129 ⟨⟨_, _, rfl⟩, rfl⟩ iconst_3 ?_
  refine w_aload_n (q := 37) hm129 ⟨⟨_, _, rfl⟩, rfl⟩ rfl ?_
  refine w_getr (q := 40) hm129 ⟨⟨_, _, rfl⟩, rfl⟩ rfl ?_
  refine w_call (q := 43) (n := 4) (vs := [.inr (.inr (some 11)), .inl (3 : Int32), .inr (.inr (some 55))]) (rest := []) (la := [oR 11, oI (3 : Int32), oR 55, none, none, none, none]) hm129 ⟨⟨_, _, rfl⟩, rfl⟩ rfl rfl rfl rfl hm181 rfl rfl (fun _ => ⟨_, _, rfl, rfl⟩) rfl (Wp.mono h ?_)
  rintro _ m4 ⟨r4, rfl, h⟩
  change Wp _ _ 43 _ [.inl r4] _ _
  refine w_call (q := 46) (n := 0) (vs := [.inl r4]) (rest := []) (la := [oI r4]) hm129 ⟨⟨_, _, rfl⟩, rfl⟩ rfl rfl rfl rfl hm126 rfl rfl (fun hz => absurd hz (by decide)) rfl (Wp.mono h ?_)
  rintro _ m5 ⟨r5, rfl, h⟩
  change Wp _ _ 46 _ [.inl r5] _ _
  exact w_reti hm129 ⟨⟨_, _, rfl⟩, rfl⟩ rfl h
theorem v_X11_use_0 {d : Nat} {x1 : Int32} {x2 : Int32} {m : dM} {Q : Int32 → dM → Prop} (h : c_X11_isUse_0 d x1 m (fun r1 m1 => ((r1.toInt ≠ 0 → c_X0_usesNow_54_47 d m1 (fun r2 m2 => c_X11_has d r2 x1 m2 (fun r3 m3 => ((x2.toInt = 0 → ((0 ≤ x1.toInt ∧ x1.toInt < 8) ∧ Q (m3.1 7 x1.toNatClampNeg) m3)) ∧ (x2.toInt = 1 → ((0 ≤ x1.toInt ∧ x1.toInt < 8) ∧ Q (m3.1 8 x1.toNatClampNeg) m3)) ∧ (x2.toInt = 2 → ((0 ≤ x1.toInt ∧ x1.toInt < 8) ∧ Q (m3.1 9 x1.toNatClampNeg) m3)) ∧ (x2.toInt = 3 → ((0 ≤ x1.toInt ∧ x1.toInt < 8) ∧ Q (m3.1 10 x1.toNatClampNeg) m3)) ∧ (x2.toInt = 4 → c_X11_has d (m3.1 47 5) x1 m3 (fun r4 m4 => ((r4.toInt = 0 → Q (0 : Int32) m4) ∧ (r4.toInt ≠ 0 → Q (1 : Int32) m4)))) ∧ (x2.toInt = 5 → ((r3.toInt = 0 → Q (0 : Int32) m3) ∧ (r3.toInt ≠ 0 → Q (1 : Int32) m3))) ∧ (x2.toInt = 6 → ((r3.toInt = 0 → Q (0 : Int32) m3) ∧ (r3.toInt ≠ 0 → c_X0_payOf_54_47 d x1 m3 (fun r5 m5 => Q r5 m5)))) ∧ (x2.toInt < 0 ∨ 6 < x2.toInt → Q (-1 : Int32) m3))))) ∧ (r1.toInt = 0 → Q (-1 : Int32) m1)))) : c_X11_use_0 (d + 1) x1 x2 m Q := by
  refine w_aload_n (q := 1) hm253 ⟨⟨_, _, rfl⟩, rfl⟩ rfl ?_
  refine w_iload_n (q := 2) hm253 ⟨⟨_, _, rfl⟩, rfl⟩ rfl ?_
  refine w_call (q := 5) (n := 0) (vs := [.inr (.inr (some 0)), .inl x1]) (rest := []) (la := [oR 0, oI x1]) hm253 ⟨⟨_, _, rfl⟩, rfl⟩ rfl rfl rfl rfl hm250 rfl rfl (fun _ => ⟨_, _, rfl, rfl⟩) rfl (Wp.mono h ?_)
  rintro _ m1 ⟨r1, rfl, h⟩
  change Wp _ _ 5 _ [.inl r1] _ _
  refine w_if_ne (q := 8) (X := r1.toInt) hm253 ⟨⟨_, _, rfl⟩, rfl⟩ rfl (fun hc => ?_) (fun hc => ?_)
  · have h := h.1 hc
    refine w_aload_n (q := 11) hm253 ⟨⟨_, _, rfl⟩, rfl⟩ rfl ?_
    refine w_getr (q := 14) hm253 ⟨⟨_, _, rfl⟩, rfl⟩ rfl ?_
    refine w_aload_n (q := 15) hm253 ⟨⟨_, _, rfl⟩, rfl⟩ rfl ?_
    refine w_getr (q := 18) hm253 ⟨⟨_, _, rfl⟩, rfl⟩ rfl ?_
    refine w_call (q := 21) (n := 0) (vs := [.inr (.inr (some 54)), .inr (.inr (some 47))]) (rest := []) (la := [oR 54, oR 47]) hm253 ⟨⟨_, _, rfl⟩, rfl⟩ rfl rfl rfl rfl hm117 rfl rfl (fun _ => ⟨_, _, rfl, rfl⟩) rfl (Wp.mono h ?_)
    rintro _ m2 ⟨r2, rfl, h⟩
    change Wp _ _ 21 _ [.inl r2] _ _
    refine w_iload_n (q := 22) hm253 ⟨⟨_, _, rfl⟩, rfl⟩ rfl ?_
    refine w_call (q := 25) (n := 0) (vs := [.inl r2, .inl x1]) (rest := []) (la := [oI r2, oI x1]) hm253 ⟨⟨_, _, rfl⟩, rfl⟩ rfl rfl rfl rfl hm283 rfl rfl (fun hz => absurd hz (by decide)) rfl (Wp.mono h ?_)
    rintro _ m3 ⟨r3, rfl, h⟩
    change Wp _ _ 25 _ [.inl r3] _ _
    refine w_istore_n (q := 26) (l' := [oR 0, oI x1, oI x2, oI r3]) hm253 ⟨⟨_, _, rfl⟩, rfl⟩ rfl rfl rfl ?_
    refine w_iload_n (q := 27) hm253 ⟨⟨_, _, rfl⟩, rfl⟩ rfl ?_
    refine w_tsw (X := x2.toInt) hm253 ⟨_, _, rfl⟩ (by decide) (by decide) rfl ((And.intro (fun hc => ?_) (And.intro (fun hc => ?_) (And.intro (fun hc => ?_) (And.intro (fun hc => ?_) (And.intro (fun hc => ?_) (And.intro (fun hc => ?_) (And.intro (fun hc => ?_) trivial)))))))) (fun hc => ?_)
    · have h := (h.1) hc
      change Wp _ _ 68 _ _ _ _
      refine w_aload_n (q := 69) hm253 ⟨⟨_, _, rfl⟩, rfl⟩ rfl ?_
      refine w_getr (q := 72) hm253 ⟨⟨_, _, rfl⟩, rfl⟩ rfl ?_
      refine w_getr (q := 75) hm253 ⟨⟨_, _, rfl⟩, rfl⟩ rfl ?_
      refine w_iload_n (q := 76) hm253 ⟨⟨_, _, rfl⟩, rfl⟩ rfl ?_
      obtain ⟨hi, h⟩ := h
      refine w_iald (q := 77) (v := (m3.1 7 x1.toNatClampNeg)) hm253 ⟨⟨_, _, rfl⟩, rfl⟩ rfl hi rfl rfl ?_
      exact w_reti hm253 ⟨⟨_, _, rfl⟩, rfl⟩ rfl h
    · have h := (h.2.1) hc
      change Wp _ _ 78 _ _ _ _
      refine w_aload_n (q := 79) hm253 ⟨⟨_, _, rfl⟩, rfl⟩ rfl ?_
      refine w_getr (q := 82) hm253 ⟨⟨_, _, rfl⟩, rfl⟩ rfl ?_
      refine w_getr (q := 85) hm253 ⟨⟨_, _, rfl⟩, rfl⟩ rfl ?_
      refine w_iload_n (q := 86) hm253 ⟨⟨_, _, rfl⟩, rfl⟩ rfl ?_
      obtain ⟨hi, h⟩ := h
      refine w_iald (q := 87) (v := (m3.1 8 x1.toNatClampNeg)) hm253 ⟨⟨_, _, rfl⟩, rfl⟩ rfl hi rfl rfl ?_
      exact w_reti hm253 ⟨⟨_, _, rfl⟩, rfl⟩ rfl h
    · have h := (h.2.2.1) hc
      change Wp _ _ 88 _ _ _ _
      refine w_aload_n (q := 89) hm253 ⟨⟨_, _, rfl⟩, rfl⟩ rfl ?_
      refine w_getr (q := 92) hm253 ⟨⟨_, _, rfl⟩, rfl⟩ rfl ?_
      refine w_getr (q := 95) hm253 ⟨⟨_, _, rfl⟩, rfl⟩ rfl ?_
      refine w_iload_n (q := 96) hm253 ⟨⟨_, _, rfl⟩, rfl⟩ rfl ?_
      obtain ⟨hi, h⟩ := h
      refine w_iald (q := 97) (v := (m3.1 9 x1.toNatClampNeg)) hm253 ⟨⟨_, _, rfl⟩, rfl⟩ rfl hi rfl rfl ?_
      exact w_reti hm253 ⟨⟨_, _, rfl⟩, rfl⟩ rfl h
    · have h := (h.2.2.2.1) hc
      change Wp _ _ 98 _ _ _ _
      refine w_aload_n (q := 99) hm253 ⟨⟨_, _, rfl⟩, rfl⟩ rfl ?_
      refine w_getr (q := 102) hm253 ⟨⟨_, _, rfl⟩, rfl⟩ rfl ?_
      refine w_getr (q := 105) hm253 ⟨⟨_, _, rfl⟩, rfl⟩ rfl ?_
      refine w_iload_n (q := 106) hm253 ⟨⟨_, _, rfl⟩, rfl⟩ rfl ?_
      obtain ⟨hi, h⟩ := h
      refine w_iald (q := 107) (v := (m3.1 10 x1.toNatClampNeg)) hm253 ⟨⟨_, _, rfl⟩, rfl⟩ rfl hi rfl rfl ?_
      exact w_reti hm253 ⟨⟨_, _, rfl⟩, rfl⟩ rfl h
    · have h := (h.2.2.2.2.1) hc
      change Wp _ _ 108 _ _ _ _
      refine w_aload_n (q := 109) hm253 ⟨⟨_, _, rfl⟩, rfl⟩ rfl ?_
      refine w_getr (q := 112) hm253 ⟨⟨_, _, rfl⟩, rfl⟩ rfl ?_
      refine w_getf (q := 115) (v := (m3.1 47 5)) hm253 ⟨⟨_, _, rfl⟩, rfl⟩ rfl rfl ?_
      refine w_iload_n (q := 116) hm253 ⟨⟨_, _, rfl⟩, rfl⟩ rfl ?_
      refine w_call (q := 119) (n := 0) (vs := [.inl (m3.1 47 5), .inl x1]) (rest := []) (la := [oI (m3.1 47 5), oI x1]) hm253 ⟨⟨_, _, rfl⟩, rfl⟩ rfl rfl rfl rfl hm283 rfl rfl (fun hz => absurd hz (by decide)) rfl (Wp.mono h ?_)
      rintro _ m4 ⟨r4, rfl, h⟩
      change Wp _ _ 119 _ [.inl r4] _ _
      refine w_if_eq (q := 122) (X := r4.toInt) hm253 ⟨⟨_, _, rfl⟩, rfl⟩ rfl (fun hc => ?_) (fun hc => ?_)
      · have h := h.1 hc
        refine w_iconst (q := 127) hm253 ⟨⟨_, _, rfl⟩, rfl⟩ iconst_0 ?_
        exact w_reti hm253 ⟨⟨_, _, rfl⟩, rfl⟩ rfl h
      · have h := h.2 hc
        refine w_iconst (q := 123) hm253 ⟨⟨_, _, rfl⟩, rfl⟩ iconst_1 ?_
        refine w_goto (q := 127) hm253 ⟨_, _, rfl⟩ ?_
        exact w_reti hm253 ⟨⟨_, _, rfl⟩, rfl⟩ rfl h
    · have h := (h.2.2.2.2.2.1) hc
      change Wp _ _ 128 _ _ _ _
      refine w_iload_n (q := 129) hm253 ⟨⟨_, _, rfl⟩, rfl⟩ rfl ?_
      refine w_if_eq (q := 132) (X := r3.toInt) hm253 ⟨⟨_, _, rfl⟩, rfl⟩ rfl (fun hc => ?_) (fun hc => ?_)
      · have h := h.1 hc
        refine w_iconst (q := 137) hm253 ⟨⟨_, _, rfl⟩, rfl⟩ iconst_0 ?_
        exact w_reti hm253 ⟨⟨_, _, rfl⟩, rfl⟩ rfl h
      · have h := h.2 hc
        refine w_iconst (q := 133) hm253 ⟨⟨_, _, rfl⟩, rfl⟩ iconst_1 ?_
        refine w_goto (q := 137) hm253 ⟨_, _, rfl⟩ ?_
        exact w_reti hm253 ⟨⟨_, _, rfl⟩, rfl⟩ rfl h
    · have h := (h.2.2.2.2.2.2.1) hc
      change Wp _ _ 138 _ _ _ _
      refine w_iload_n (q := 139) hm253 ⟨⟨_, _, rfl⟩, rfl⟩ rfl ?_
      refine w_if_eq (q := 142) (X := r3.toInt) hm253 ⟨⟨_, _, rfl⟩, rfl⟩ rfl (fun hc => ?_) (fun hc => ?_)
      · have h := h.1 hc
        refine w_iconst (q := 158) hm253 ⟨⟨_, _, rfl⟩, rfl⟩ iconst_0 ?_
        exact w_reti hm253 ⟨⟨_, _, rfl⟩, rfl⟩ rfl h
      · have h := h.2 hc
        refine w_aload_n (q := 143) hm253 ⟨⟨_, _, rfl⟩, rfl⟩ rfl ?_
        refine w_getr (q := 146) hm253 ⟨⟨_, _, rfl⟩, rfl⟩ rfl ?_
        refine w_aload_n (q := 147) hm253 ⟨⟨_, _, rfl⟩, rfl⟩ rfl ?_
        refine w_getr (q := 150) hm253 ⟨⟨_, _, rfl⟩, rfl⟩ rfl ?_
        refine w_iload_n (q := 151) hm253 ⟨⟨_, _, rfl⟩, rfl⟩ rfl ?_
        refine w_call (q := 154) (n := 0) (vs := [.inr (.inr (some 54)), .inr (.inr (some 47)), .inl x1]) (rest := []) (la := [oR 54, oR 47, oI x1]) hm253 ⟨⟨_, _, rfl⟩, rfl⟩ rfl rfl rfl rfl hm129 rfl rfl (fun _ => ⟨_, _, rfl, rfl⟩) rfl (Wp.mono h ?_)
        rintro _ m5 ⟨r5, rfl, h⟩
        change Wp _ _ 154 _ [.inl r5] _ _
        refine w_goto (q := 158) hm253 ⟨_, _, rfl⟩ ?_
        exact w_reti hm253 ⟨⟨_, _, rfl⟩, rfl⟩ rfl h
    · have h := (h.2.2.2.2.2.2.2) hc
      change Wp _ _ 159 _ _ _ _
      refine w_iconst (q := 160) hm253 ⟨⟨_, _, rfl⟩, rfl⟩ iconst_m1 ?_
      exact w_reti hm253 ⟨⟨_, _, rfl⟩, rfl⟩ rfl h
  · have h := h.2 hc
    refine w_iconst (q := 9) hm253 ⟨⟨_, _, rfl⟩, rfl⟩ iconst_m1 ?_
    exact w_reti hm253 ⟨⟨_, _, rfl⟩, rfl⟩ rfl h
theorem v_X12_isUse_70 {d : Nat} {x1 : Int32} {m : dM} {Q : Int32 → dM → Prop} (h : ((0 ≤ (m.1 70 18).toInt ∧ (m.1 70 18).toInt < 2) ∧ c_X12_in d x1 (0 : Int32) ((m.1 86 (m.1 70 18).toNatClampNeg) - (1 : Int32)) m (fun r1 m1 => (r1 = 0 ∨ r1 = 1) ∧ Q r1 m1))) : c_X12_isUse_70 (d + 1) x1 m Q := by
  refine w_iload_n (q := 1) hm41 ⟨⟨_, _, rfl⟩, rfl⟩ rfl ?_
  refine w_iconst (q := 2) hm41 ⟨⟨_, _, rfl⟩, rfl⟩ iconst_0 ?_
  refine w_aload_n (q := 3) hm41 ⟨⟨_, _, rfl⟩, rfl⟩ rfl ?_
  refine w_getr (q := 6) hm41 ⟨⟨_, _, rfl⟩, rfl⟩ rfl ?_
  refine w_aload_n (q := 7) hm41 ⟨⟨_, _, rfl⟩, rfl⟩ rfl ?_
  refine w_getf (q := 10) (v := (m.1 70 18)) hm41 ⟨⟨_, _, rfl⟩, rfl⟩ rfl rfl ?_
  obtain ⟨hi, h⟩ := h
  refine w_iald (q := 11) (v := (m.1 86 (m.1 70 18).toNatClampNeg)) hm41 ⟨⟨_, _, rfl⟩, rfl⟩ rfl hi rfl rfl ?_
  refine w_iconst (q := 12) hm41 ⟨⟨_, _, rfl⟩, rfl⟩ iconst_1 ?_
  refine w_isub (q := 13) hm41 ⟨⟨_, _, rfl⟩, rfl⟩ ?_
  refine w_call (q := 16) (n := 0) (vs := [.inl x1, .inl (0 : Int32), .inl ((m.1 86 (m.1 70 18).toNatClampNeg) - (1 : Int32))]) (rest := []) (la := [oI x1, oI (0 : Int32), oI ((m.1 86 (m.1 70 18).toNatClampNeg) - (1 : Int32))]) hm41 ⟨⟨_, _, rfl⟩, rfl⟩ rfl rfl rfl rfl hm36 rfl rfl (fun hz => absurd hz (by decide)) rfl (Wp.mono h ?_)
  rintro _ m1 ⟨r1, rfl, h⟩
  change Wp _ _ 16 _ [.inl r1] _ _
  exact w_retz hm41 ⟨⟨_, _, rfl⟩, rfl⟩ rfl h.1 h.2
theorem v_X12_paysOf_70 {d : Nat} {x1 : Int32} {m : dM} {Q : Int32 → dM → Prop} (h : c_X12_looks_70 d ((m.1 108 55) - (m.1 108 55) / (24 : Int32) * (24 : Int32)) x1 m (fun m1 => c_X12_ampsAt_70 d x1 m1 (fun r2 m2 => c_X12_lawTells_70 d (3 : Int32) r2 (dSet m2 105 5 r2) (fun r3 m3 => c_X12_within d r3 (0 : Int32) (99 : Int32) m3 (fun r4 m4 => Q r4 m4))))) : c_X12_paysOf_70 (d + 1) x1 m Q := by
  refine w_aload_n (q := 1) hm64 ⟨⟨_, _, rfl⟩, rfl⟩ rfl ?_
  refine w_aload_n (q := 2) hm64 ⟨⟨_, _, rfl⟩, rfl⟩ rfl ?_
  refine w_getr (q := 5) hm64 ⟨⟨_, _, rfl⟩, rfl⟩ rfl ?_
  refine w_bipush (q := 7) hm64 ⟨⟨_, _, rfl⟩, rfl⟩ bipush_55 ?_
  refine w_iald (q := 8) (j := 55) (v := (m.1 108 55)) hm64 ⟨⟨_, _, rfl⟩, rfl⟩ rfl (by decide) (by decide) rfl ?_
  refine w_bipush (q := 10) hm64 ⟨⟨_, _, rfl⟩, rfl⟩ bipush_24 ?_
  refine w_irem (q := 11) hm64 ⟨⟨_, _, rfl⟩, rfl⟩ (by decide) ?_
  refine w_iload_n (q := 12) hm64 ⟨⟨_, _, rfl⟩, rfl⟩ rfl ?_
  refine w_call (q := 15) (n := 1) (vs := [.inr (.inr (some 70)), .inl ((m.1 108 55) - (m.1 108 55) / (24 : Int32) * (24 : Int32)), .inl x1]) (rest := []) (la := [oR 70, oI ((m.1 108 55) - (m.1 108 55) / (24 : Int32) * (24 : Int32)), oI x1, none]) hm64 ⟨⟨_, _, rfl⟩, rfl⟩ rfl rfl rfl rfl hm58 rfl rfl (fun _ => ⟨_, _, rfl, rfl⟩) rfl (Wp.mono h ?_)
  rintro _ m1 ⟨rfl, h⟩
  change Wp _ _ 15 _ [] _ _
  refine w_aload_n (q := 16) hm64 ⟨⟨_, _, rfl⟩, rfl⟩ rfl ?_
  refine w_getr (q := 19) hm64 ⟨⟨_, _, rfl⟩, rfl⟩ rfl ?_
  refine w_iconst (q := 20) hm64 ⟨⟨_, _, rfl⟩, rfl⟩ iconst_5 ?_
  refine w_aload_n (q := 21) hm64 ⟨⟨_, _, rfl⟩, rfl⟩ rfl ?_
  refine w_iload_n (q := 22) hm64 ⟨⟨_, _, rfl⟩, rfl⟩ rfl ?_
  refine w_call (q := 25) (n := 0) (vs := [.inr (.inr (some 70)), .inl x1]) (rest := [.inl (5 : Int32), .inr (.inr (some 105))]) (la := [oR 70, oI x1]) hm64 ⟨⟨_, _, rfl⟩, rfl⟩ rfl rfl rfl rfl hm54 rfl rfl (fun _ => ⟨_, _, rfl, rfl⟩) rfl (Wp.mono h ?_)
  rintro _ m2 ⟨r2, rfl, h⟩
  change Wp _ _ 25 _ [.inl r2, .inl (5 : Int32), .inr (.inr (some 105))] _ _
  refine w_iast (q := 26) (j := 5) hm64 ⟨⟨_, _, rfl⟩, rfl⟩ rfl (by decide) (by decide) rfl ?_
  refine w_aload_n (q := 27) hm64 ⟨⟨_, _, rfl⟩, rfl⟩ rfl ?_
  refine w_iconst (q := 28) hm64 ⟨⟨_, _, rfl⟩, rfl⟩ iconst_3 ?_
  refine w_aload_n (q := 29) hm64 ⟨⟨_, _, rfl⟩, rfl⟩ rfl ?_
  refine w_getr (q := 32) hm64 ⟨⟨_, _, rfl⟩, rfl⟩ rfl ?_
  refine w_iconst (q := 33) hm64 ⟨⟨_, _, rfl⟩, rfl⟩ iconst_5 ?_
  refine w_iald (q := 34) (j := 5) (v := r2) hm64 ⟨⟨_, _, rfl⟩, rfl⟩ rfl (by decide) (by decide) rfl ?_
  refine w_call (q := 37) (n := 4) (vs := [.inr (.inr (some 70)), .inl (3 : Int32), .inl r2]) (rest := []) (la := [oR 70, oI (3 : Int32), oI r2, none, none, none, none]) hm64 ⟨⟨_, _, rfl⟩, rfl⟩ rfl rfl rfl rfl hm59 rfl rfl (fun _ => ⟨_, _, rfl, rfl⟩) rfl (Wp.mono h ?_)
  rintro _ m3 ⟨r3, rfl, h⟩
  change Wp _ _ 37 _ [.inl r3] _ _
  refine w_iconst (q := 38) hm64 ⟨⟨_, _, rfl⟩, rfl⟩ iconst_0 ?_
  refine w_bipush (q := 40) hm64 ⟨⟨_, _, rfl⟩, rfl⟩ bipush_99 ?_
  refine w_call (q := 43) (n := 0) (vs := [.inl r3, .inl (0 : Int32), .inl (99 : Int32)]) (rest := []) (la := [oI r3, oI (0 : Int32), oI (99 : Int32)]) hm64 ⟨⟨_, _, rfl⟩, rfl⟩ rfl rfl rfl rfl hm37 rfl rfl (fun hz => absurd hz (by decide)) rfl (Wp.mono h ?_)
  rintro _ m4 ⟨r4, rfl, h⟩
  change Wp _ _ 43 _ [.inl r4] _ _
  exact w_reti hm64 ⟨⟨_, _, rfl⟩, rfl⟩ rfl h
theorem v_X12_use_70 {d : Nat} {x1 : Int32} {x2 : Int32} {m : dM} {Q : Int32 → dM → Prop} (h : c_X12_isUse_70 d x1 m (fun r1 m1 => ((r1.toInt ≠ 0 → c_X12_copies_70 d m1 (fun m2 => ((x2.toInt = 0 → c_X12_flatAt_70 d x1 m2 (fun r3 m3 => Q r3 m3)) ∧ (x2.toInt = 1 → c_X12_ampsAt_70 d x1 m2 (fun r4 m4 => Q r4 m4)) ∧ (x2.toInt = 2 → ((0 ≤ (((8 : Int32) * (m2.1 70 18)) + x1).toInt ∧ (((8 : Int32) * (m2.1 70 18)) + x1).toInt < 16) ∧ Q (m2.1 89 (((8 : Int32) * (m2.1 70 18)) + x1).toNatClampNeg) m2)) ∧ (x2.toInt = 3 → ((0 ≤ (((8 : Int32) * (m2.1 70 18)) + x1).toInt ∧ (((8 : Int32) * (m2.1 70 18)) + x1).toInt < 16) ∧ Q (m2.1 90 (((8 : Int32) * (m2.1 70 18)) + x1).toNatClampNeg) m2)) ∧ (x2.toInt = 4 → ((0 ≤ ((47 : Int32) + x1).toInt ∧ ((47 : Int32) + x1).toInt < 58) ∧ Q (m2.1 108 ((47 : Int32) + x1).toNatClampNeg) m2)) ∧ (x2.toInt = 5 → c_X12_onNow_70 d m2 (fun r5 m5 => Q ((r5 >>> (x1 &&& 31)) &&& (1 : Int32)) m5)) ∧ (x2.toInt = 6 → c_X12_paysOf_70 d x1 m2 (fun r6 m6 => Q r6 m6)) ∧ (x2.toInt < 0 ∨ 6 < x2.toInt → Q (-1 : Int32) m2)))) ∧ (r1.toInt = 0 → Q (-1 : Int32) m1)))) : c_X12_use_70 (d + 1) x1 x2 m Q := by
  refine w_aload_n (q := 1) hm72 ⟨⟨_, _, rfl⟩, rfl⟩ rfl ?_
  refine w_iload_n (q := 2) hm72 ⟨⟨_, _, rfl⟩, rfl⟩ rfl ?_
  refine w_call (q := 5) (n := 0) (vs := [.inr (.inr (some 70)), .inl x1]) (rest := []) (la := [oR 70, oI x1]) hm72 ⟨⟨_, _, rfl⟩, rfl⟩ rfl rfl rfl rfl hm41 rfl rfl (fun _ => ⟨_, _, rfl, rfl⟩) rfl (Wp.mono h ?_)
  rintro _ m1 ⟨r1, rfl, h⟩
  change Wp _ _ 5 _ [.inl r1] _ _
  refine w_if_ne (q := 8) (X := r1.toInt) hm72 ⟨⟨_, _, rfl⟩, rfl⟩ rfl (fun hc => ?_) (fun hc => ?_)
  · have h := h.1 hc
    refine w_aload_n (q := 11) hm72 ⟨⟨_, _, rfl⟩, rfl⟩ rfl ?_
    refine w_call (q := 14) (n := 1) (vs := [.inr (.inr (some 70))]) (rest := []) (la := [oR 70, none]) hm72 ⟨⟨_, _, rfl⟩, rfl⟩ rfl rfl rfl rfl hm44 rfl rfl (fun _ => ⟨_, _, rfl, rfl⟩) rfl (Wp.mono h ?_)
    rintro _ m2 ⟨rfl, h⟩
    change Wp _ _ 14 _ [] _ _
    refine w_iload_n (q := 15) hm72 ⟨⟨_, _, rfl⟩, rfl⟩ rfl ?_
    refine w_tsw (X := x2.toInt) hm72 ⟨_, _, rfl⟩ (by decide) (by decide) rfl ((And.intro (fun hc => ?_) (And.intro (fun hc => ?_) (And.intro (fun hc => ?_) (And.intro (fun hc => ?_) (And.intro (fun hc => ?_) (And.intro (fun hc => ?_) (And.intro (fun hc => ?_) trivial)))))))) (fun hc => ?_)
    · have h := (h.1) hc
      change Wp _ _ 56 _ _ _ _
      refine w_aload_n (q := 57) hm72 ⟨⟨_, _, rfl⟩, rfl⟩ rfl ?_
      refine w_iload_n (q := 58) hm72 ⟨⟨_, _, rfl⟩, rfl⟩ rfl ?_
      refine w_call (q := 61) (n := 0) (vs := [.inr (.inr (some 70)), .inl x1]) (rest := []) (la := [oR 70, oI x1]) hm72 ⟨⟨_, _, rfl⟩, rfl⟩ rfl rfl rfl rfl hm53 rfl rfl (fun _ => ⟨_, _, rfl, rfl⟩) rfl (Wp.mono h ?_)
      rintro _ m3 ⟨r3, rfl, h⟩
      change Wp _ _ 61 _ [.inl r3] _ _
      exact w_reti hm72 ⟨⟨_, _, rfl⟩, rfl⟩ rfl h
    · have h := (h.2.1) hc
      change Wp _ _ 62 _ _ _ _
      refine w_aload_n (q := 63) hm72 ⟨⟨_, _, rfl⟩, rfl⟩ rfl ?_
      refine w_iload_n (q := 64) hm72 ⟨⟨_, _, rfl⟩, rfl⟩ rfl ?_
      refine w_call (q := 67) (n := 0) (vs := [.inr (.inr (some 70)), .inl x1]) (rest := []) (la := [oR 70, oI x1]) hm72 ⟨⟨_, _, rfl⟩, rfl⟩ rfl rfl rfl rfl hm54 rfl rfl (fun _ => ⟨_, _, rfl, rfl⟩) rfl (Wp.mono h ?_)
      rintro _ m4 ⟨r4, rfl, h⟩
      change Wp _ _ 67 _ [.inl r4] _ _
      exact w_reti hm72 ⟨⟨_, _, rfl⟩, rfl⟩ rfl h
    · have h := (h.2.2.1) hc
      change Wp _ _ 68 _ _ _ _
      refine w_aload_n (q := 69) hm72 ⟨⟨_, _, rfl⟩, rfl⟩ rfl ?_
      refine w_getr (q := 72) hm72 ⟨⟨_, _, rfl⟩, rfl⟩ rfl ?_
      refine w_bipush (q := 74) hm72 ⟨⟨_, _, rfl⟩, rfl⟩ bipush_8 ?_
      refine w_aload_n (q := 75) hm72 ⟨⟨_, _, rfl⟩, rfl⟩ rfl ?_
      refine w_getf (q := 78) (v := (m2.1 70 18)) hm72 ⟨⟨_, _, rfl⟩, rfl⟩ rfl rfl ?_
      refine w_imul (q := 79) hm72 ⟨⟨_, _, rfl⟩, rfl⟩ ?_
      refine w_iload_n (q := 80) hm72 ⟨⟨_, _, rfl⟩, rfl⟩ rfl ?_
      refine w_iadd (q := 81) hm72 ⟨⟨_, _, rfl⟩, rfl⟩ ?_
      obtain ⟨hi, h⟩ := h
      refine w_iald (q := 82) (v := (m2.1 89 (((8 : Int32) * (m2.1 70 18)) + x1).toNatClampNeg)) hm72 ⟨⟨_, _, rfl⟩, rfl⟩ rfl hi rfl rfl ?_
      exact w_reti hm72 ⟨⟨_, _, rfl⟩, rfl⟩ rfl h
    · have h := (h.2.2.2.1) hc
      change Wp _ _ 83 _ _ _ _
      refine w_aload_n (q := 84) hm72 ⟨⟨_, _, rfl⟩, rfl⟩ rfl ?_
      refine w_getr (q := 87) hm72 ⟨⟨_, _, rfl⟩, rfl⟩ rfl ?_
      refine w_bipush (q := 89) hm72 ⟨⟨_, _, rfl⟩, rfl⟩ bipush_8 ?_
      refine w_aload_n (q := 90) hm72 ⟨⟨_, _, rfl⟩, rfl⟩ rfl ?_
      refine w_getf (q := 93) (v := (m2.1 70 18)) hm72 ⟨⟨_, _, rfl⟩, rfl⟩ rfl rfl ?_
      refine w_imul (q := 94) hm72 ⟨⟨_, _, rfl⟩, rfl⟩ ?_
      refine w_iload_n (q := 95) hm72 ⟨⟨_, _, rfl⟩, rfl⟩ rfl ?_
      refine w_iadd (q := 96) hm72 ⟨⟨_, _, rfl⟩, rfl⟩ ?_
      obtain ⟨hi, h⟩ := h
      refine w_iald (q := 97) (v := (m2.1 90 (((8 : Int32) * (m2.1 70 18)) + x1).toNatClampNeg)) hm72 ⟨⟨_, _, rfl⟩, rfl⟩ rfl hi rfl rfl ?_
      exact w_reti hm72 ⟨⟨_, _, rfl⟩, rfl⟩ rfl h
    · have h := (h.2.2.2.2.1) hc
      change Wp _ _ 98 _ _ _ _
      refine w_aload_n (q := 99) hm72 ⟨⟨_, _, rfl⟩, rfl⟩ rfl ?_
      refine w_getr (q := 102) hm72 ⟨⟨_, _, rfl⟩, rfl⟩ rfl ?_
      refine w_bipush (q := 104) hm72 ⟨⟨_, _, rfl⟩, rfl⟩ bipush_47 ?_
      refine w_iload_n (q := 105) hm72 ⟨⟨_, _, rfl⟩, rfl⟩ rfl ?_
      refine w_iadd (q := 106) hm72 ⟨⟨_, _, rfl⟩, rfl⟩ ?_
      obtain ⟨hi, h⟩ := h
      refine w_iald (q := 107) (v := (m2.1 108 ((47 : Int32) + x1).toNatClampNeg)) hm72 ⟨⟨_, _, rfl⟩, rfl⟩ rfl hi rfl rfl ?_
      exact w_reti hm72 ⟨⟨_, _, rfl⟩, rfl⟩ rfl h
    · have h := (h.2.2.2.2.2.1) hc
      change Wp _ _ 108 _ _ _ _
      refine w_aload_n (q := 109) hm72 ⟨⟨_, _, rfl⟩, rfl⟩ rfl ?_
      refine w_call (q := 112) (n := 0) (vs := [.inr (.inr (some 70))]) (rest := []) (la := [oR 70]) hm72 ⟨⟨_, _, rfl⟩, rfl⟩ rfl rfl rfl rfl hm56 rfl rfl (fun _ => ⟨_, _, rfl, rfl⟩) rfl (Wp.mono h ?_)
      rintro _ m5 ⟨r5, rfl, h⟩
      change Wp _ _ 112 _ [.inl r5] _ _
      refine w_iload_n (q := 113) hm72 ⟨⟨_, _, rfl⟩, rfl⟩ rfl ?_
      refine w_ishr (q := 114) hm72 ⟨⟨_, _, rfl⟩, rfl⟩ ?_
      refine w_iconst (q := 115) hm72 ⟨⟨_, _, rfl⟩, rfl⟩ iconst_1 ?_
      refine w_iand (q := 116) hm72 ⟨⟨_, _, rfl⟩, rfl⟩ ?_
      exact w_reti hm72 ⟨⟨_, _, rfl⟩, rfl⟩ rfl h
    · have h := (h.2.2.2.2.2.2.1) hc
      change Wp _ _ 117 _ _ _ _
      refine w_aload_n (q := 118) hm72 ⟨⟨_, _, rfl⟩, rfl⟩ rfl ?_
      refine w_iload_n (q := 119) hm72 ⟨⟨_, _, rfl⟩, rfl⟩ rfl ?_
      refine w_call (q := 122) (n := 0) (vs := [.inr (.inr (some 70)), .inl x1]) (rest := []) (la := [oR 70, oI x1]) hm72 ⟨⟨_, _, rfl⟩, rfl⟩ rfl rfl rfl rfl hm64 rfl rfl (fun _ => ⟨_, _, rfl, rfl⟩) rfl (Wp.mono h ?_)
      rintro _ m6 ⟨r6, rfl, h⟩
      change Wp _ _ 122 _ [.inl r6] _ _
      exact w_reti hm72 ⟨⟨_, _, rfl⟩, rfl⟩ rfl h
    · have h := (h.2.2.2.2.2.2.2) hc
      change Wp _ _ 123 _ _ _ _
      refine w_iconst (q := 124) hm72 ⟨⟨_, _, rfl⟩, rfl⟩ iconst_m1 ?_
      exact w_reti hm72 ⟨⟨_, _, rfl⟩, rfl⟩ rfl h
  · have h := h.2 hc
    refine w_iconst (q := 9) hm72 ⟨⟨_, _, rfl⟩, rfl⟩ iconst_m1 ?_
    exact w_reti hm72 ⟨⟨_, _, rfl⟩, rfl⟩ rfl h
theorem v_X7_writeTo_47_52 {d : Nat} {x2 : Int32} {m : dM} {Q : dM → Prop} (h : ((x2.toInt < 0 → j_X7_writeTo_47_52_13 (d + 1) m Q) ∧ (0 ≤ x2.toInt → ((x2.toInt ≤ ((1320 : Int32) - (33 : Int32)).toInt → ((0 ≤ x2.toInt ∧ x2.toInt < 1320) ∧ ((0 ≤ (x2 + (1 : Int32)).toInt ∧ (x2 + (1 : Int32)).toInt < 1320) ∧ ((0 ≤ (x2 + (2 : Int32)).toInt ∧ (x2 + (2 : Int32)).toInt < 1320) ∧ ((0 ≤ (x2 + (3 : Int32)).toInt ∧ (x2 + (3 : Int32)).toInt < 1320) ∧ ((0 ≤ (x2 + (4 : Int32)).toInt ∧ (x2 + (4 : Int32)).toInt < 1320) ∧ ((0 ≤ (x2 + (5 : Int32)).toInt ∧ (x2 + (5 : Int32)).toInt < 1320) ∧ ((0 ≤ (10 : Int) ∧ 0 ≤ (x2 + (6 : Int32)).toInt ∧ 0 ≤ (0 : Int) ∧ (0 : Int) + (10 : Int) ≤ 10 ∧ (x2 + (6 : Int32)).toInt + (10 : Int) ≤ 1320) ∧ ((0 ≤ (10 : Int) ∧ 0 ≤ ((x2 + (6 : Int32)) + (10 : Int32)).toInt ∧ 0 ≤ (0 : Int) ∧ (0 : Int) + (10 : Int) ≤ 10 ∧ ((x2 + (6 : Int32)) + (10 : Int32)).toInt + (10 : Int) ≤ 1320) ∧ ((0 ≤ (7 : Int) ∧ 0 ≤ ((x2 + (6 : Int32)) + (20 : Int32)).toInt ∧ 0 ≤ (0 : Int) ∧ (0 : Int) + (7 : Int) ≤ 7 ∧ ((x2 + (6 : Int32)) + (20 : Int32)).toInt + (7 : Int) ≤ 1320) ∧ Q (dCpy (dCpy (dCpy (dSet (dSet (dSet (dSet (dSet (dSet m 52 x2.toNatClampNeg (m.1 47 0)) 52 (x2 + (1 : Int32)).toNatClampNeg (m.1 47 1)) 52 (x2 + (2 : Int32)).toNatClampNeg (m.1 47 2)) 52 (x2 + (3 : Int32)).toNatClampNeg (m.1 47 3)) 52 (x2 + (4 : Int32)).toNatClampNeg (m.1 47 4)) 52 (x2 + (5 : Int32)).toNatClampNeg (m.1 47 5)) 48 (0 : Int).toNat 52 ((x2 + (6 : Int32)).toInt).toNat (10 : Int).toNat) 49 (0 : Int).toNat 52 (((x2 + (6 : Int32)) + (10 : Int32)).toInt).toNat (10 : Int).toNat) 50 (0 : Int).toNat 52 (((x2 + (6 : Int32)) + (20 : Int32)).toInt).toNat (7 : Int).toNat))))))))))) ∧ (((1320 : Int32) - (33 : Int32)).toInt < x2.toInt → j_X7_writeTo_47_52_13 (d + 1) m Q))))) : c_X7_writeTo_47_52 (d + 1) x2 m Q := by
  refine w_iload_n (q := 1) hm210 ⟨⟨_, _, rfl⟩, rfl⟩ rfl ?_
  refine w_if_lt (q := 4) (X := x2.toInt) hm210 ⟨⟨_, _, rfl⟩, rfl⟩ rfl (fun hc => ?_) (fun hc => ?_)
  · have h := h.1 hc
    exact Wp.wk [false, false, false] h
  · have h := h.2 hc
    refine w_iload_n (q := 5) hm210 ⟨⟨_, _, rfl⟩, rfl⟩ rfl ?_
    refine w_aload_n (q := 6) hm210 ⟨⟨_, _, rfl⟩, rfl⟩ rfl ?_
    refine w_alen (q := 7) hm210 ⟨⟨_, _, rfl⟩, rfl⟩ rfl alen_1320 ?_
    refine w_bipush (q := 9) hm210 ⟨⟨_, _, rfl⟩, rfl⟩ bipush_33 ?_
    refine w_isub (q := 10) hm210 ⟨⟨_, _, rfl⟩, rfl⟩ ?_
    refine w_icmp_le (q := 13) (X := x2.toInt) (Y := ((1320 : Int32) - (33 : Int32)).toInt) hm210 ⟨⟨_, _, rfl⟩, rfl⟩ rfl rfl (fun hc => ?_) (fun hc => ?_)
    · have h := h.1 hc
      refine w_aload_n (q := 15) hm210 ⟨⟨_, _, rfl⟩, rfl⟩ rfl ?_
      refine w_iload_n (q := 16) hm210 ⟨⟨_, _, rfl⟩, rfl⟩ rfl ?_
      refine w_aload_n (q := 17) hm210 ⟨⟨_, _, rfl⟩, rfl⟩ rfl ?_
      refine w_getf (q := 20) (v := (m.1 47 0)) hm210 ⟨⟨_, _, rfl⟩, rfl⟩ rfl rfl ?_
      obtain ⟨hi, h⟩ := h
      refine w_iast (q := 21) hm210 ⟨⟨_, _, rfl⟩, rfl⟩ rfl hi rfl rfl ?_
      refine w_aload_n (q := 22) hm210 ⟨⟨_, _, rfl⟩, rfl⟩ rfl ?_
      refine w_iload_n (q := 23) hm210 ⟨⟨_, _, rfl⟩, rfl⟩ rfl ?_
      refine w_iconst (q := 24) hm210 ⟨⟨_, _, rfl⟩, rfl⟩ iconst_1 ?_
      refine w_iadd (q := 25) hm210 ⟨⟨_, _, rfl⟩, rfl⟩ ?_
      refine w_aload_n (q := 26) hm210 ⟨⟨_, _, rfl⟩, rfl⟩ rfl ?_
      refine w_getf (q := 29) (v := (m.1 47 1)) hm210 ⟨⟨_, _, rfl⟩, rfl⟩ rfl rfl ?_
      obtain ⟨hi, h⟩ := h
      refine w_iast (q := 30) hm210 ⟨⟨_, _, rfl⟩, rfl⟩ rfl hi rfl rfl ?_
      refine w_aload_n (q := 31) hm210 ⟨⟨_, _, rfl⟩, rfl⟩ rfl ?_
      refine w_iload_n (q := 32) hm210 ⟨⟨_, _, rfl⟩, rfl⟩ rfl ?_
      refine w_iconst (q := 33) hm210 ⟨⟨_, _, rfl⟩, rfl⟩ iconst_2 ?_
      refine w_iadd (q := 34) hm210 ⟨⟨_, _, rfl⟩, rfl⟩ ?_
      refine w_aload_n (q := 35) hm210 ⟨⟨_, _, rfl⟩, rfl⟩ rfl ?_
      refine w_getf (q := 38) (v := (m.1 47 2)) hm210 ⟨⟨_, _, rfl⟩, rfl⟩ rfl rfl ?_
      obtain ⟨hi, h⟩ := h
      refine w_iast (q := 39) hm210 ⟨⟨_, _, rfl⟩, rfl⟩ rfl hi rfl rfl ?_
      refine w_aload_n (q := 40) hm210 ⟨⟨_, _, rfl⟩, rfl⟩ rfl ?_
      refine w_iload_n (q := 41) hm210 ⟨⟨_, _, rfl⟩, rfl⟩ rfl ?_
      refine w_iconst (q := 42) hm210 ⟨⟨_, _, rfl⟩, rfl⟩ iconst_3 ?_
      refine w_iadd (q := 43) hm210 ⟨⟨_, _, rfl⟩, rfl⟩ ?_
      refine w_aload_n (q := 44) hm210 ⟨⟨_, _, rfl⟩, rfl⟩ rfl ?_
      refine w_getf (q := 47) (v := (m.1 47 3)) hm210 ⟨⟨_, _, rfl⟩, rfl⟩ rfl rfl ?_
      obtain ⟨hi, h⟩ := h
      refine w_iast (q := 48) hm210 ⟨⟨_, _, rfl⟩, rfl⟩ rfl hi rfl rfl ?_
      refine w_aload_n (q := 49) hm210 ⟨⟨_, _, rfl⟩, rfl⟩ rfl ?_
      refine w_iload_n (q := 50) hm210 ⟨⟨_, _, rfl⟩, rfl⟩ rfl ?_
      refine w_iconst (q := 51) hm210 ⟨⟨_, _, rfl⟩, rfl⟩ iconst_4 ?_
      refine w_iadd (q := 52) hm210 ⟨⟨_, _, rfl⟩, rfl⟩ ?_
      refine w_aload_n (q := 53) hm210 ⟨⟨_, _, rfl⟩, rfl⟩ rfl ?_
      refine w_getf (q := 56) (v := (m.1 47 4)) hm210 ⟨⟨_, _, rfl⟩, rfl⟩ rfl rfl ?_
      obtain ⟨hi, h⟩ := h
      refine w_iast (q := 57) hm210 ⟨⟨_, _, rfl⟩, rfl⟩ rfl hi rfl rfl ?_
      refine w_aload_n (q := 58) hm210 ⟨⟨_, _, rfl⟩, rfl⟩ rfl ?_
      refine w_iload_n (q := 59) hm210 ⟨⟨_, _, rfl⟩, rfl⟩ rfl ?_
      refine w_iconst (q := 60) hm210 ⟨⟨_, _, rfl⟩, rfl⟩ iconst_5 ?_
      refine w_iadd (q := 61) hm210 ⟨⟨_, _, rfl⟩, rfl⟩ ?_
      refine w_aload_n (q := 62) hm210 ⟨⟨_, _, rfl⟩, rfl⟩ rfl ?_
      refine w_getf (q := 65) (v := (m.1 47 5)) hm210 ⟨⟨_, _, rfl⟩, rfl⟩ rfl rfl ?_
      obtain ⟨hi, h⟩ := h
      refine w_iast (q := 66) hm210 ⟨⟨_, _, rfl⟩, rfl⟩ rfl hi rfl rfl ?_
      refine w_aload_n (q := 67) hm210 ⟨⟨_, _, rfl⟩, rfl⟩ rfl ?_
      refine w_getr (q := 70) hm210 ⟨⟨_, _, rfl⟩, rfl⟩ rfl ?_
      refine w_iconst (q := 71) hm210 ⟨⟨_, _, rfl⟩, rfl⟩ iconst_0 ?_
      refine w_aload_n (q := 72) hm210 ⟨⟨_, _, rfl⟩, rfl⟩ rfl ?_
      refine w_iload_n (q := 73) hm210 ⟨⟨_, _, rfl⟩, rfl⟩ rfl ?_
      refine w_bipush (q := 75) hm210 ⟨⟨_, _, rfl⟩, rfl⟩ bipush_6 ?_
      refine w_iadd (q := 76) hm210 ⟨⟨_, _, rfl⟩, rfl⟩ ?_
      refine w_bipush (q := 78) hm210 ⟨⟨_, _, rfl⟩, rfl⟩ bipush_10 ?_
      obtain ⟨hi, h⟩ := h
      refine w_copy (q := 81) (N := 10) (D := (x2 + (6 : Int32)).toInt) (S := 0) hm210 ⟨⟨_, _, rfl⟩, rfl⟩ rfl rfl rfl rfl rfl (by decide) rfl (by decide) hi ?_
      refine w_aload_n (q := 82) hm210 ⟨⟨_, _, rfl⟩, rfl⟩ rfl ?_
      refine w_getr (q := 85) hm210 ⟨⟨_, _, rfl⟩, rfl⟩ rfl ?_
      refine w_iconst (q := 86) hm210 ⟨⟨_, _, rfl⟩, rfl⟩ iconst_0 ?_
      refine w_aload_n (q := 87) hm210 ⟨⟨_, _, rfl⟩, rfl⟩ rfl ?_
      refine w_iload_n (q := 88) hm210 ⟨⟨_, _, rfl⟩, rfl⟩ rfl ?_
      refine w_bipush (q := 90) hm210 ⟨⟨_, _, rfl⟩, rfl⟩ bipush_6 ?_
      refine w_iadd (q := 91) hm210 ⟨⟨_, _, rfl⟩, rfl⟩ ?_
      refine w_bipush (q := 93) hm210 ⟨⟨_, _, rfl⟩, rfl⟩ bipush_10 ?_
      refine w_iadd (q := 94) hm210 ⟨⟨_, _, rfl⟩, rfl⟩ ?_
      refine w_bipush (q := 96) hm210 ⟨⟨_, _, rfl⟩, rfl⟩ bipush_10 ?_
      obtain ⟨hi, h⟩ := h
      refine w_copy (q := 99) (N := 10) (D := ((x2 + (6 : Int32)) + (10 : Int32)).toInt) (S := 0) hm210 ⟨⟨_, _, rfl⟩, rfl⟩ rfl rfl rfl rfl rfl (by decide) rfl (by decide) hi ?_
      refine w_aload_n (q := 100) hm210 ⟨⟨_, _, rfl⟩, rfl⟩ rfl ?_
      refine w_getr (q := 103) hm210 ⟨⟨_, _, rfl⟩, rfl⟩ rfl ?_
      refine w_iconst (q := 104) hm210 ⟨⟨_, _, rfl⟩, rfl⟩ iconst_0 ?_
      refine w_aload_n (q := 105) hm210 ⟨⟨_, _, rfl⟩, rfl⟩ rfl ?_
      refine w_iload_n (q := 106) hm210 ⟨⟨_, _, rfl⟩, rfl⟩ rfl ?_
      refine w_bipush (q := 108) hm210 ⟨⟨_, _, rfl⟩, rfl⟩ bipush_6 ?_
      refine w_iadd (q := 109) hm210 ⟨⟨_, _, rfl⟩, rfl⟩ ?_
      refine w_bipush (q := 111) hm210 ⟨⟨_, _, rfl⟩, rfl⟩ bipush_20 ?_
      refine w_iadd (q := 112) hm210 ⟨⟨_, _, rfl⟩, rfl⟩ ?_
      refine w_bipush (q := 114) hm210 ⟨⟨_, _, rfl⟩, rfl⟩ bipush_7 ?_
      obtain ⟨hi, h⟩ := h
      refine w_copy (q := 117) (N := 7) (D := ((x2 + (6 : Int32)) + (20 : Int32)).toInt) (S := 0) hm210 ⟨⟨_, _, rfl⟩, rfl⟩ rfl rfl rfl rfl rfl (by decide) rfl (by decide) hi ?_
      exact w_retv hm210 ⟨⟨_, _, rfl⟩, rfl⟩ rfl h
    · have h := h.2 hc
      exact Wp.wk [false, false, false] h
theorem v_X7_writeTo_47_52_13 {d : Nat} {m : dM} {Q : dM → Prop} (h : Q m) : j_X7_writeTo_47_52_13 (d + 1) m Q := by
  exact w_retv hm210 ⟨⟨_, _, rfl⟩, rfl⟩ rfl h
theorem v_X6_keep_51_47 {d : Nat} {m : dM} {Q : dM → Prop} (h : c_X7_writeTo_47_52 d ((m.1 51 2) * (33 : Int32)) m (fun m1 => Q (dSet (dSet m1 51 2 (((m1.1 51 2) + (1 : Int32)) - ((m1.1 51 2) + (1 : Int32)) / (40 : Int32) * (40 : Int32))) 51 3 (if (40 : Int32) < ((m1.1 51 3) + (1 : Int32)) then (40 : Int32) else ((m1.1 51 3) + (1 : Int32)))))) : c_X6_keep_51_47 (d + 1) m Q := by
  refine w_aload_n (q := 1) hm203 ⟨⟨_, _, rfl⟩, rfl⟩ rfl ?_
  refine w_aload_n (q := 2) hm203 ⟨⟨_, _, rfl⟩, rfl⟩ rfl ?_
  refine w_getr (q := 5) hm203 ⟨⟨_, _, rfl⟩, rfl⟩ rfl ?_
  refine w_aload_n (q := 6) hm203 ⟨⟨_, _, rfl⟩, rfl⟩ rfl ?_
  refine w_getf (q := 9) (v := (m.1 51 2)) hm203 ⟨⟨_, _, rfl⟩, rfl⟩ rfl rfl ?_
  refine w_bipush (q := 11) hm203 ⟨⟨_, _, rfl⟩, rfl⟩ bipush_33 ?_
  refine w_imul (q := 12) hm203 ⟨⟨_, _, rfl⟩, rfl⟩ ?_
  refine w_call (q := 15) (n := 0) (vs := [.inr (.inr (some 47)), .inr (.inr (some 52)), .inl ((m.1 51 2) * (33 : Int32))]) (rest := []) (la := [oR 47, oR 52, oI ((m.1 51 2) * (33 : Int32))]) hm203 ⟨⟨_, _, rfl⟩, rfl⟩ rfl rfl rfl rfl hm210 rfl rfl (fun _ => ⟨_, _, rfl, rfl⟩) rfl (Wp.mono h ?_)
  rintro _ m1 ⟨rfl, h⟩
  change Wp _ _ 15 _ [] _ _
  refine w_aload_n (q := 16) hm203 ⟨⟨_, _, rfl⟩, rfl⟩ rfl ?_
  refine w_aload_n (q := 17) hm203 ⟨⟨_, _, rfl⟩, rfl⟩ rfl ?_
  refine w_getf (q := 20) (v := (m1.1 51 2)) hm203 ⟨⟨_, _, rfl⟩, rfl⟩ rfl rfl ?_
  refine w_iconst (q := 21) hm203 ⟨⟨_, _, rfl⟩, rfl⟩ iconst_1 ?_
  refine w_iadd (q := 22) hm203 ⟨⟨_, _, rfl⟩, rfl⟩ ?_
  refine w_bipush (q := 24) hm203 ⟨⟨_, _, rfl⟩, rfl⟩ bipush_40 ?_
  refine w_irem (q := 25) hm203 ⟨⟨_, _, rfl⟩, rfl⟩ (by decide) ?_
  refine w_putf (q := 28) hm203 ⟨⟨_, _, rfl⟩, rfl⟩ rfl rfl rfl ?_
  refine w_aload_n (q := 29) hm203 ⟨⟨_, _, rfl⟩, rfl⟩ rfl ?_
  refine w_aload_n (q := 30) hm203 ⟨⟨_, _, rfl⟩, rfl⟩ rfl ?_
  refine w_getf (q := 33) (v := (m1.1 51 3)) hm203 ⟨⟨_, _, rfl⟩, rfl⟩ rfl rfl ?_
  refine w_iconst (q := 34) hm203 ⟨⟨_, _, rfl⟩, rfl⟩ iconst_1 ?_
  refine w_iadd (q := 35) hm203 ⟨⟨_, _, rfl⟩, rfl⟩ ?_
  refine w_bipush (q := 37) hm203 ⟨⟨_, _, rfl⟩, rfl⟩ bipush_40 ?_
  refine w_min (q := 40) hm203 ⟨⟨_, _, rfl⟩, rfl⟩ rfl rfl ?_
  refine w_putf (q := 43) hm203 ⟨⟨_, _, rfl⟩, rfl⟩ rfl rfl rfl ?_
  exact w_retv hm203 ⟨⟨_, _, rfl⟩, rfl⟩ rfl h
theorem v_X11_agree_0 {d : Nat} {x1 : Int32} {x2 : Int32} {m : dM} {Q : Int32 → dM → Prop} (h : c_X11_isUse_0 d x1 m (fun r1 m1 => ((r1.toInt = 0 → j_X11_agree_0_23 (d + 1) m1 Q) ∧ (r1.toInt ≠ 0 → c_X11_has d (m1.1 47 5) x1 m1 (fun r2 m2 => ((r2.toInt ≠ x2.toInt → c_X6_keep_51_47 d m2 (fun m3 => Q (1 : Int32) (dSet m3 47 5 ((m3.1 47 5) ^^^ ((1 : Int32) <<< (x1 &&& 31)))))) ∧ (r2.toInt = x2.toInt → j_X11_agree_0_23 (d + 1) m2 Q))))))) : c_X11_agree_0 (d + 1) x1 x2 m Q := by
  refine w_aload_n (q := 1) hm254 ⟨⟨_, _, rfl⟩, rfl⟩ rfl ?_
  refine w_iload_n (q := 2) hm254 ⟨⟨_, _, rfl⟩, rfl⟩ rfl ?_
  refine w_call (q := 5) (n := 0) (vs := [.inr (.inr (some 0)), .inl x1]) (rest := []) (la := [oR 0, oI x1]) hm254 ⟨⟨_, _, rfl⟩, rfl⟩ rfl rfl rfl rfl hm250 rfl rfl (fun _ => ⟨_, _, rfl, rfl⟩) rfl (Wp.mono h ?_)
  rintro _ m1 ⟨r1, rfl, h⟩
  change Wp _ _ 5 _ [.inl r1] _ _
  refine w_if_eq (q := 8) (X := r1.toInt) hm254 ⟨⟨_, _, rfl⟩, rfl⟩ rfl (fun hc => ?_) (fun hc => ?_)
  · have h := h.1 hc
    exact Wp.wk [false, false, false] h
  · have h := h.2 hc
    refine w_aload_n (q := 9) hm254 ⟨⟨_, _, rfl⟩, rfl⟩ rfl ?_
    refine w_getr (q := 12) hm254 ⟨⟨_, _, rfl⟩, rfl⟩ rfl ?_
    refine w_getf (q := 15) (v := (m1.1 47 5)) hm254 ⟨⟨_, _, rfl⟩, rfl⟩ rfl rfl ?_
    refine w_iload_n (q := 16) hm254 ⟨⟨_, _, rfl⟩, rfl⟩ rfl ?_
    refine w_call (q := 19) (n := 0) (vs := [.inl (m1.1 47 5), .inl x1]) (rest := []) (la := [oI (m1.1 47 5), oI x1]) hm254 ⟨⟨_, _, rfl⟩, rfl⟩ rfl rfl rfl rfl hm283 rfl rfl (fun hz => absurd hz (by decide)) rfl (Wp.mono h ?_)
    rintro _ m2 ⟨r2, rfl, h⟩
    change Wp _ _ 19 _ [.inl r2] _ _
    refine w_iload_n (q := 20) hm254 ⟨⟨_, _, rfl⟩, rfl⟩ rfl ?_
    refine w_icmp_ne (q := 23) (X := r2.toInt) (Y := x2.toInt) hm254 ⟨⟨_, _, rfl⟩, rfl⟩ rfl rfl (fun hc => ?_) (fun hc => ?_)
    · have h := h.1 hc
      refine w_aload_n (q := 26) hm254 ⟨⟨_, _, rfl⟩, rfl⟩ rfl ?_
      refine w_getr (q := 29) hm254 ⟨⟨_, _, rfl⟩, rfl⟩ rfl ?_
      refine w_aload_n (q := 30) hm254 ⟨⟨_, _, rfl⟩, rfl⟩ rfl ?_
      refine w_getr (q := 33) hm254 ⟨⟨_, _, rfl⟩, rfl⟩ rfl ?_
      refine w_call (q := 36) (n := 0) (vs := [.inr (.inr (some 51)), .inr (.inr (some 47))]) (rest := []) (la := [oR 51, oR 47]) hm254 ⟨⟨_, _, rfl⟩, rfl⟩ rfl rfl rfl rfl hm203 rfl rfl (fun _ => ⟨_, _, rfl, rfl⟩) rfl (Wp.mono h ?_)
      rintro _ m3 ⟨rfl, h⟩
      change Wp _ _ 36 _ [] _ _
      refine w_aload_n (q := 37) hm254 ⟨⟨_, _, rfl⟩, rfl⟩ rfl ?_
      refine w_getr (q := 40) hm254 ⟨⟨_, _, rfl⟩, rfl⟩ rfl ?_
      refine w_dup (q := 41) hm254 ⟨⟨_, _, rfl⟩, rfl⟩ rfl ?_
      refine w_getf (q := 44) (v := (m3.1 47 5)) hm254 ⟨⟨_, _, rfl⟩, rfl⟩ rfl rfl ?_
      refine w_iconst (q := 45) hm254 ⟨⟨_, _, rfl⟩, rfl⟩ iconst_1 ?_
      refine w_iload_n (q := 46) hm254 ⟨⟨_, _, rfl⟩, rfl⟩ rfl ?_
      refine w_ishl (q := 47) hm254 ⟨⟨_, _, rfl⟩, rfl⟩ ?_
      refine w_ixor (q := 48) hm254 ⟨⟨_, _, rfl⟩, rfl⟩ ?_
      refine w_putf (q := 51) hm254 ⟨⟨_, _, rfl⟩, rfl⟩ rfl rfl rfl ?_
      refine w_iconst (q := 52) hm254 ⟨⟨_, _, rfl⟩, rfl⟩ iconst_1 ?_
      exact w_retz hm254 ⟨⟨_, _, rfl⟩, rfl⟩ rfl (by decide) h
    · have h := h.2 hc
      exact Wp.wk [false, false, false] h
theorem v_X11_agree_0_23 {d : Nat} {m : dM} {Q : Int32 → dM → Prop} (h : Q (0 : Int32) m) : j_X11_agree_0_23 (d + 1) m Q := by
  refine w_iconst (q := 24) hm254 ⟨⟨_, _, rfl⟩, rfl⟩ iconst_0 ?_
  exact w_retz hm254 ⟨⟨_, _, rfl⟩, rfl⟩ rfl (by decide) h
theorem v_X12_records_70 {d : Nat} {m : dM} {Q : dM → Prop} (h : (((m.1 70 61).toInt ≠ 40 → j_X12_records_70_49 (d + 1) m Q) ∧ ((m.1 70 61).toInt = 40 → j_X12_records_70_11 (d + 1) (0 : Int32) m Q))) : c_X12_records_70 (d + 1) m Q := by
  refine w_aload_n (q := 1) hm73 ⟨⟨_, _, rfl⟩, rfl⟩ rfl ?_
  refine w_getf (q := 4) (v := (m.1 70 61)) hm73 ⟨⟨_, _, rfl⟩, rfl⟩ rfl rfl ?_
  refine w_bipush (q := 6) hm73 ⟨⟨_, _, rfl⟩, rfl⟩ bipush_40 ?_
  refine w_icmp_ne (q := 9) (X := (m.1 70 61).toInt) (Y := 40) hm73 ⟨⟨_, _, rfl⟩, rfl⟩ rfl (by decide) (fun hc => ?_) (fun hc => ?_)
  · have h := h.1 hc
    exact h
  · have h := h.2 hc
    refine w_iconst (q := 10) hm73 ⟨⟨_, _, rfl⟩, rfl⟩ iconst_0 ?_
    refine w_istore_n (q := 11) (l' := [oR 70, oI (0 : Int32)]) hm73 ⟨⟨_, _, rfl⟩, rfl⟩ rfl rfl rfl ?_
    exact h
theorem v_X12_records_70_11 {d : Nat} {x1 : Int32} {m : dM} {Q : dM → Prop} (h : ((2262 ≤ x1.toInt → j_X12_records_70_49 (d + 1) (dSet m 70 61 ((m.1 70 61) - (1 : Int32))) Q) ∧ (x1.toInt < 2262 → ((0 ≤ (x1 + (58 : Int32)).toInt ∧ (x1 + (58 : Int32)).toInt < 2320) ∧ ((0 ≤ x1.toInt ∧ x1.toInt < 2320) ∧ j_X12_records_70_11 (d + 1) (x1 + (1 : Int32)) (dSet m 111 x1.toNatClampNeg (m.1 111 (x1 + (58 : Int32)).toNatClampNeg)) Q))))) : j_X12_records_70_11 (d + 1) x1 m Q := by
  refine w_iload_n (q := 12) hm73 ⟨⟨_, _, rfl⟩, rfl⟩ rfl ?_
  refine w_sipush (q := 15) hm73 ⟨⟨_, _, rfl⟩, rfl⟩ sipush_2262 ?_
  refine w_icmp_ge (q := 18) (X := x1.toInt) (Y := 2262) hm73 ⟨⟨_, _, rfl⟩, rfl⟩ rfl (by decide) (fun hc => ?_) (fun hc => ?_)
  · have h := h.1 hc
    refine w_aload_n (q := 40) hm73 ⟨⟨_, _, rfl⟩, rfl⟩ rfl ?_
    refine w_dup (q := 41) hm73 ⟨⟨_, _, rfl⟩, rfl⟩ rfl ?_
    refine w_getf (q := 44) (v := (m.1 70 61)) hm73 ⟨⟨_, _, rfl⟩, rfl⟩ rfl rfl ?_
    refine w_iconst (q := 45) hm73 ⟨⟨_, _, rfl⟩, rfl⟩ iconst_1 ?_
    refine w_isub (q := 46) hm73 ⟨⟨_, _, rfl⟩, rfl⟩ ?_
    refine w_putf (q := 49) hm73 ⟨⟨_, _, rfl⟩, rfl⟩ rfl rfl rfl ?_
    exact Wp.wk [true, false] h
  · have h := h.2 hc
    refine w_aload_n (q := 19) hm73 ⟨⟨_, _, rfl⟩, rfl⟩ rfl ?_
    refine w_getr (q := 22) hm73 ⟨⟨_, _, rfl⟩, rfl⟩ rfl ?_
    refine w_iload_n (q := 23) hm73 ⟨⟨_, _, rfl⟩, rfl⟩ rfl ?_
    refine w_aload_n (q := 24) hm73 ⟨⟨_, _, rfl⟩, rfl⟩ rfl ?_
    refine w_getr (q := 27) hm73 ⟨⟨_, _, rfl⟩, rfl⟩ rfl ?_
    refine w_iload_n (q := 28) hm73 ⟨⟨_, _, rfl⟩, rfl⟩ rfl ?_
    refine w_bipush (q := 30) hm73 ⟨⟨_, _, rfl⟩, rfl⟩ bipush_58 ?_
    refine w_iadd (q := 31) hm73 ⟨⟨_, _, rfl⟩, rfl⟩ ?_
    obtain ⟨hi, h⟩ := h
    refine w_iald (q := 32) (v := (m.1 111 (x1 + (58 : Int32)).toNatClampNeg)) hm73 ⟨⟨_, _, rfl⟩, rfl⟩ rfl hi rfl rfl ?_
    obtain ⟨hi, h⟩ := h
    refine w_iast (q := 33) hm73 ⟨⟨_, _, rfl⟩, rfl⟩ rfl hi rfl rfl ?_
    refine w_iinc (q := 36) (l' := [oR 70, oI (x1 + (1 : Int32))]) hm73 ⟨⟨_, _, rfl⟩, rfl⟩ rfl rfl rfl iconst_1 rfl ?_
    refine w_goto (q := 11) hm73 ⟨_, _, rfl⟩ ?_
    exact h
theorem v_X12_records_70_49 {d : Nat} {m : dM} {Q : dM → Prop} (h : j_X12_records_70_51 (d + 1) (0 : Int32) m Q) : j_X12_records_70_49 (d + 1) m Q := by
  refine w_iconst (q := 50) hm73 ⟨⟨_, _, rfl⟩, rfl⟩ iconst_0 ?_
  refine w_istore_n (q := 51) (l' := [oR 70, oI (0 : Int32)]) hm73 ⟨⟨_, _, rfl⟩, rfl⟩ rfl rfl rfl ?_
  exact h
theorem v_X12_records_70_51 {d : Nat} {x1 : Int32} {m : dM} {Q : dM → Prop} (h : ((58 ≤ x1.toInt → c_X12_keepsRow_70 d (dSet m 70 61 ((m.1 70 61) + (1 : Int32))) (fun m1 => Q m1)) ∧ (x1.toInt < 58 → ((0 ≤ x1.toInt ∧ x1.toInt < 58) ∧ ((0 ≤ (((58 : Int32) * (m.1 70 61)) + x1).toInt ∧ (((58 : Int32) * (m.1 70 61)) + x1).toInt < 2320) ∧ j_X12_records_70_51 (d + 1) (x1 + (1 : Int32)) (dSet m 111 (((58 : Int32) * (m.1 70 61)) + x1).toNatClampNeg (m.1 107 x1.toNatClampNeg)) Q))))) : j_X12_records_70_51 (d + 1) x1 m Q := by
  refine w_iload_n (q := 52) hm73 ⟨⟨_, _, rfl⟩, rfl⟩ rfl ?_
  refine w_bipush (q := 54) hm73 ⟨⟨_, _, rfl⟩, rfl⟩ bipush_58 ?_
  refine w_icmp_ge (q := 57) (X := x1.toInt) (Y := 58) hm73 ⟨⟨_, _, rfl⟩, rfl⟩ rfl (by decide) (fun hc => ?_) (fun hc => ?_)
  · have h := h.1 hc
    refine w_aload_n (q := 84) hm73 ⟨⟨_, _, rfl⟩, rfl⟩ rfl ?_
    refine w_dup (q := 85) hm73 ⟨⟨_, _, rfl⟩, rfl⟩ rfl ?_
    refine w_getf (q := 88) (v := (m.1 70 61)) hm73 ⟨⟨_, _, rfl⟩, rfl⟩ rfl rfl ?_
    refine w_iconst (q := 89) hm73 ⟨⟨_, _, rfl⟩, rfl⟩ iconst_1 ?_
    refine w_iadd (q := 90) hm73 ⟨⟨_, _, rfl⟩, rfl⟩ ?_
    refine w_putf (q := 93) hm73 ⟨⟨_, _, rfl⟩, rfl⟩ rfl rfl rfl ?_
    refine w_aload_n (q := 94) hm73 ⟨⟨_, _, rfl⟩, rfl⟩ rfl ?_
    refine w_call (q := 97) (n := 1) (vs := [.inr (.inr (some 70))]) (rest := []) (la := [oR 70, none]) hm73 ⟨⟨_, _, rfl⟩, rfl⟩ rfl rfl rfl rfl hm43 rfl rfl (fun _ => ⟨_, _, rfl, rfl⟩) rfl (Wp.mono h ?_)
    rintro _ m1 ⟨rfl, h⟩
    change Wp _ _ 97 _ [] _ _
    exact w_retv hm73 ⟨⟨_, _, rfl⟩, rfl⟩ rfl h
  · have h := h.2 hc
    refine w_aload_n (q := 58) hm73 ⟨⟨_, _, rfl⟩, rfl⟩ rfl ?_
    refine w_getr (q := 61) hm73 ⟨⟨_, _, rfl⟩, rfl⟩ rfl ?_
    refine w_bipush (q := 63) hm73 ⟨⟨_, _, rfl⟩, rfl⟩ bipush_58 ?_
    refine w_aload_n (q := 64) hm73 ⟨⟨_, _, rfl⟩, rfl⟩ rfl ?_
    refine w_getf (q := 67) (v := (m.1 70 61)) hm73 ⟨⟨_, _, rfl⟩, rfl⟩ rfl rfl ?_
    refine w_imul (q := 68) hm73 ⟨⟨_, _, rfl⟩, rfl⟩ ?_
    refine w_iload_n (q := 69) hm73 ⟨⟨_, _, rfl⟩, rfl⟩ rfl ?_
    refine w_iadd (q := 70) hm73 ⟨⟨_, _, rfl⟩, rfl⟩ ?_
    refine w_aload_n (q := 71) hm73 ⟨⟨_, _, rfl⟩, rfl⟩ rfl ?_
    refine w_getr (q := 74) hm73 ⟨⟨_, _, rfl⟩, rfl⟩ rfl ?_
    refine w_iload_n (q := 75) hm73 ⟨⟨_, _, rfl⟩, rfl⟩ rfl ?_
    obtain ⟨hi, h⟩ := h
    refine w_iald (q := 76) (v := (m.1 107 x1.toNatClampNeg)) hm73 ⟨⟨_, _, rfl⟩, rfl⟩ rfl hi rfl rfl ?_
    obtain ⟨hi, h⟩ := h
    refine w_iast (q := 77) hm73 ⟨⟨_, _, rfl⟩, rfl⟩ rfl hi rfl rfl ?_
    refine w_iinc (q := 80) (l' := [oR 70, oI (x1 + (1 : Int32))]) hm73 ⟨⟨_, _, rfl⟩, rfl⟩ rfl rfl rfl iconst_1 rfl ?_
    refine w_goto (q := 51) hm73 ⟨_, _, rfl⟩ ?_
    exact h
theorem v_X12_agree_70 {d : Nat} {x1 : Int32} {x2 : Int32} {m : dM} {Q : Int32 → dM → Prop} (h : c_X12_isUse_70 d x1 m (fun r1 m1 => ((r1.toInt = 0 → j_X12_agree_70_30 (d + 1) m1 Q) ∧ (r1.toInt ≠ 0 → ((0 ≤ ((47 : Int32) + x1).toInt ∧ ((47 : Int32) + x1).toInt < 58) ∧ (((m1.1 107 ((47 : Int32) + x1).toNatClampNeg).toInt ≠ 1 → ((0 ≠ x2.toInt → c_X12_copies_70 d m1 (fun m2 => ((x2.toInt = 0 → ((0 ≤ ((47 : Int32) + x1).toInt ∧ ((47 : Int32) + x1).toInt < 58) ∧ c_X12_records_70 d (dSet m2 108 ((47 : Int32) + x1).toNatClampNeg (0 : Int32)) (fun m3 => Q (1 : Int32) m3))) ∧ (x2.toInt ≠ 0 → ((0 ≤ ((47 : Int32) + x1).toInt ∧ ((47 : Int32) + x1).toInt < 58) ∧ c_X12_records_70 d (dSet m2 108 ((47 : Int32) + x1).toNatClampNeg (1 : Int32)) (fun m4 => Q (1 : Int32) m4)))))) ∧ (0 = x2.toInt → j_X12_agree_70_30 (d + 1) m1 Q))) ∧ ((m1.1 107 ((47 : Int32) + x1).toNatClampNeg).toInt = 1 → ((1 ≠ x2.toInt → c_X12_copies_70 d m1 (fun m5 => ((x2.toInt = 0 → ((0 ≤ ((47 : Int32) + x1).toInt ∧ ((47 : Int32) + x1).toInt < 58) ∧ c_X12_records_70 d (dSet m5 108 ((47 : Int32) + x1).toNatClampNeg (0 : Int32)) (fun m6 => Q (1 : Int32) m6))) ∧ (x2.toInt ≠ 0 → ((0 ≤ ((47 : Int32) + x1).toInt ∧ ((47 : Int32) + x1).toInt < 58) ∧ c_X12_records_70 d (dSet m5 108 ((47 : Int32) + x1).toNatClampNeg (1 : Int32)) (fun m7 => Q (1 : Int32) m7)))))) ∧ (1 = x2.toInt → j_X12_agree_70_30 (d + 1) m1 Q))))))))) : c_X12_agree_70 (d + 1) x1 x2 m Q := by
  refine w_aload_n (q := 1) hm74 ⟨⟨_, _, rfl⟩, rfl⟩ rfl ?_
  refine w_iload_n (q := 2) hm74 ⟨⟨_, _, rfl⟩, rfl⟩ rfl ?_
  refine w_call (q := 5) (n := 0) (vs := [.inr (.inr (some 70)), .inl x1]) (rest := []) (la := [oR 70, oI x1]) hm74 ⟨⟨_, _, rfl⟩, rfl⟩ rfl rfl rfl rfl hm41 rfl rfl (fun _ => ⟨_, _, rfl, rfl⟩) rfl (Wp.mono h ?_)
  rintro _ m1 ⟨r1, rfl, h⟩
  change Wp _ _ 5 _ [.inl r1] _ _
  refine w_if_eq (q := 8) (X := r1.toInt) hm74 ⟨⟨_, _, rfl⟩, rfl⟩ rfl (fun hc => ?_) (fun hc => ?_)
  · have h := h.1 hc
    exact Wp.wk [false, false, false] h
  · have h := h.2 hc
    refine w_aload_n (q := 9) hm74 ⟨⟨_, _, rfl⟩, rfl⟩ rfl ?_
    refine w_getr (q := 12) hm74 ⟨⟨_, _, rfl⟩, rfl⟩ rfl ?_
    refine w_bipush (q := 14) hm74 ⟨⟨_, _, rfl⟩, rfl⟩ bipush_47 ?_
    refine w_iload_n (q := 15) hm74 ⟨⟨_, _, rfl⟩, rfl⟩ rfl ?_
    refine w_iadd (q := 16) hm74 ⟨⟨_, _, rfl⟩, rfl⟩ ?_
    obtain ⟨hi, h⟩ := h
    refine w_iald (q := 17) (v := (m1.1 107 ((47 : Int32) + x1).toNatClampNeg)) hm74 ⟨⟨_, _, rfl⟩, rfl⟩ rfl hi rfl rfl ?_
    refine w_iconst (q := 18) hm74 ⟨⟨_, _, rfl⟩, rfl⟩ iconst_1 ?_
    refine w_icmp_ne (q := 21) (X := (m1.1 107 ((47 : Int32) + x1).toNatClampNeg).toInt) (Y := 1) hm74 ⟨⟨_, _, rfl⟩, rfl⟩ rfl (by decide) (fun hc => ?_) (fun hc => ?_)
    · have h := h.1 hc
      refine w_iconst (q := 26) hm74 ⟨⟨_, _, rfl⟩, rfl⟩ iconst_0 ?_
      refine w_iload_n (q := 27) hm74 ⟨⟨_, _, rfl⟩, rfl⟩ rfl ?_
      refine w_icmp_ne (q := 30) (X := 0) (Y := x2.toInt) hm74 ⟨⟨_, _, rfl⟩, rfl⟩ (by decide) rfl (fun hc => ?_) (fun hc => ?_)
      · have h := h.1 hc
        refine w_aload_n (q := 33) hm74 ⟨⟨_, _, rfl⟩, rfl⟩ rfl ?_
        refine w_call (q := 36) (n := 1) (vs := [.inr (.inr (some 70))]) (rest := []) (la := [oR 70, none]) hm74 ⟨⟨_, _, rfl⟩, rfl⟩ rfl rfl rfl rfl hm44 rfl rfl (fun _ => ⟨_, _, rfl, rfl⟩) rfl (Wp.mono h ?_)
        rintro _ m2 ⟨rfl, h⟩
        change Wp _ _ 36 _ [] _ _
        refine w_aload_n (q := 37) hm74 ⟨⟨_, _, rfl⟩, rfl⟩ rfl ?_
        refine w_getr (q := 40) hm74 ⟨⟨_, _, rfl⟩, rfl⟩ rfl ?_
        refine w_bipush (q := 42) hm74 ⟨⟨_, _, rfl⟩, rfl⟩ bipush_47 ?_
        refine w_iload_n (q := 43) hm74 ⟨⟨_, _, rfl⟩, rfl⟩ rfl ?_
        refine w_iadd (q := 44) hm74 ⟨⟨_, _, rfl⟩, rfl⟩ ?_
        refine w_iload_n (q := 45) hm74 ⟨⟨_, _, rfl⟩, rfl⟩ rfl ?_
        refine w_if_eq (q := 48) (X := x2.toInt) hm74 ⟨⟨_, _, rfl⟩, rfl⟩ rfl (fun hc => ?_) (fun hc => ?_)
        · have h := h.1 hc
          refine w_iconst (q := 53) hm74 ⟨⟨_, _, rfl⟩, rfl⟩ iconst_0 ?_
          obtain ⟨hi, h⟩ := h
          refine w_iast (q := 54) hm74 ⟨⟨_, _, rfl⟩, rfl⟩ rfl hi rfl rfl ?_
          refine w_aload_n (q := 55) hm74 ⟨⟨_, _, rfl⟩, rfl⟩ rfl ?_
          refine w_call (q := 58) (n := 1) (vs := [.inr (.inr (some 70))]) (rest := []) (la := [oR 70, none]) hm74 ⟨⟨_, _, rfl⟩, rfl⟩ rfl rfl rfl rfl hm73 rfl rfl (fun _ => ⟨_, _, rfl, rfl⟩) rfl (Wp.mono h ?_)
          rintro _ m3 ⟨rfl, h⟩
          change Wp _ _ 58 _ [] _ _
          refine w_iconst (q := 59) hm74 ⟨⟨_, _, rfl⟩, rfl⟩ iconst_1 ?_
          exact w_retz hm74 ⟨⟨_, _, rfl⟩, rfl⟩ rfl (by decide) h
        · have h := h.2 hc
          refine w_iconst (q := 49) hm74 ⟨⟨_, _, rfl⟩, rfl⟩ iconst_1 ?_
          refine w_goto (q := 53) hm74 ⟨_, _, rfl⟩ ?_
          obtain ⟨hi, h⟩ := h
          refine w_iast (q := 54) hm74 ⟨⟨_, _, rfl⟩, rfl⟩ rfl hi rfl rfl ?_
          refine w_aload_n (q := 55) hm74 ⟨⟨_, _, rfl⟩, rfl⟩ rfl ?_
          refine w_call (q := 58) (n := 1) (vs := [.inr (.inr (some 70))]) (rest := []) (la := [oR 70, none]) hm74 ⟨⟨_, _, rfl⟩, rfl⟩ rfl rfl rfl rfl hm73 rfl rfl (fun _ => ⟨_, _, rfl, rfl⟩) rfl (Wp.mono h ?_)
          rintro _ m4 ⟨rfl, h⟩
          change Wp _ _ 58 _ [] _ _
          refine w_iconst (q := 59) hm74 ⟨⟨_, _, rfl⟩, rfl⟩ iconst_1 ?_
          exact w_retz hm74 ⟨⟨_, _, rfl⟩, rfl⟩ rfl (by decide) h
      · have h := h.2 hc
        exact Wp.wk [false, false, false] h
    · have h := h.2 hc
      refine w_iconst (q := 22) hm74 ⟨⟨_, _, rfl⟩, rfl⟩ iconst_1 ?_
      refine w_goto (q := 26) hm74 ⟨_, _, rfl⟩ ?_
      refine w_iload_n (q := 27) hm74 ⟨⟨_, _, rfl⟩, rfl⟩ rfl ?_
      refine w_icmp_ne (q := 30) (X := 1) (Y := x2.toInt) hm74 ⟨⟨_, _, rfl⟩, rfl⟩ (by decide) rfl (fun hc => ?_) (fun hc => ?_)
      · have h := h.1 hc
        refine w_aload_n (q := 33) hm74 ⟨⟨_, _, rfl⟩, rfl⟩ rfl ?_
        refine w_call (q := 36) (n := 1) (vs := [.inr (.inr (some 70))]) (rest := []) (la := [oR 70, none]) hm74 ⟨⟨_, _, rfl⟩, rfl⟩ rfl rfl rfl rfl hm44 rfl rfl (fun _ => ⟨_, _, rfl, rfl⟩) rfl (Wp.mono h ?_)
        rintro _ m5 ⟨rfl, h⟩
        change Wp _ _ 36 _ [] _ _
        refine w_aload_n (q := 37) hm74 ⟨⟨_, _, rfl⟩, rfl⟩ rfl ?_
        refine w_getr (q := 40) hm74 ⟨⟨_, _, rfl⟩, rfl⟩ rfl ?_
        refine w_bipush (q := 42) hm74 ⟨⟨_, _, rfl⟩, rfl⟩ bipush_47 ?_
        refine w_iload_n (q := 43) hm74 ⟨⟨_, _, rfl⟩, rfl⟩ rfl ?_
        refine w_iadd (q := 44) hm74 ⟨⟨_, _, rfl⟩, rfl⟩ ?_
        refine w_iload_n (q := 45) hm74 ⟨⟨_, _, rfl⟩, rfl⟩ rfl ?_
        refine w_if_eq (q := 48) (X := x2.toInt) hm74 ⟨⟨_, _, rfl⟩, rfl⟩ rfl (fun hc => ?_) (fun hc => ?_)
        · have h := h.1 hc
          refine w_iconst (q := 53) hm74 ⟨⟨_, _, rfl⟩, rfl⟩ iconst_0 ?_
          obtain ⟨hi, h⟩ := h
          refine w_iast (q := 54) hm74 ⟨⟨_, _, rfl⟩, rfl⟩ rfl hi rfl rfl ?_
          refine w_aload_n (q := 55) hm74 ⟨⟨_, _, rfl⟩, rfl⟩ rfl ?_
          refine w_call (q := 58) (n := 1) (vs := [.inr (.inr (some 70))]) (rest := []) (la := [oR 70, none]) hm74 ⟨⟨_, _, rfl⟩, rfl⟩ rfl rfl rfl rfl hm73 rfl rfl (fun _ => ⟨_, _, rfl, rfl⟩) rfl (Wp.mono h ?_)
          rintro _ m6 ⟨rfl, h⟩
          change Wp _ _ 58 _ [] _ _
          refine w_iconst (q := 59) hm74 ⟨⟨_, _, rfl⟩, rfl⟩ iconst_1 ?_
          exact w_retz hm74 ⟨⟨_, _, rfl⟩, rfl⟩ rfl (by decide) h
        · have h := h.2 hc
          refine w_iconst (q := 49) hm74 ⟨⟨_, _, rfl⟩, rfl⟩ iconst_1 ?_
          refine w_goto (q := 53) hm74 ⟨_, _, rfl⟩ ?_
          obtain ⟨hi, h⟩ := h
          refine w_iast (q := 54) hm74 ⟨⟨_, _, rfl⟩, rfl⟩ rfl hi rfl rfl ?_
          refine w_aload_n (q := 55) hm74 ⟨⟨_, _, rfl⟩, rfl⟩ rfl ?_
          refine w_call (q := 58) (n := 1) (vs := [.inr (.inr (some 70))]) (rest := []) (la := [oR 70, none]) hm74 ⟨⟨_, _, rfl⟩, rfl⟩ rfl rfl rfl rfl hm73 rfl rfl (fun _ => ⟨_, _, rfl, rfl⟩) rfl (Wp.mono h ?_)
          rintro _ m7 ⟨rfl, h⟩
          change Wp _ _ 58 _ [] _ _
          refine w_iconst (q := 59) hm74 ⟨⟨_, _, rfl⟩, rfl⟩ iconst_1 ?_
          exact w_retz hm74 ⟨⟨_, _, rfl⟩, rfl⟩ rfl (by decide) h
      · have h := h.2 hc
        exact Wp.wk [false, false, false] h
theorem v_X12_agree_70_30 {d : Nat} {m : dM} {Q : Int32 → dM → Prop} (h : Q (0 : Int32) m) : j_X12_agree_70_30 (d + 1) m Q := by
  refine w_iconst (q := 31) hm74 ⟨⟨_, _, rfl⟩, rfl⟩ iconst_0 ?_
  exact w_retz hm74 ⟨⟨_, _, rfl⟩, rfl⟩ rfl (by decide) h
theorem v_X11_mend_0 {d : Nat} {x1 : Int32} {m : dM} {Q : Int32 → dM → Prop} (h : c_X11_isWire_0 d x1 m (fun r1 m1 => ((r1.toInt ≠ 0 → c_X0_costOf_54_47 d x1 m1 (fun r2 m2 => c_X11_has d (m2.1 47 3) x1 m2 (fun r3 m3 => ((r3.toInt = 0 → j_X11_mend_0_48 (d + 1) m3 Q) ∧ (r3.toInt ≠ 0 → ((r2.toInt ≤ (m3.1 47 1).toInt → c_X6_keep_51_47 d m3 (fun m4 => ((0 ≤ x1.toInt ∧ x1.toInt < 10) ∧ Q ((m4.1 47 1) - r2) (dSet (dSet (dSet (dSet m4 47 1 ((m4.1 47 1) - r2)) 47 3 ((m4.1 47 3) &&& (((1 : Int32) <<< (x1 &&& 31)) ^^^ (-1 : Int32)))) 47 4 ((m4.1 47 4) &&& (((1 : Int32) <<< (x1 &&& 31)) ^^^ (-1 : Int32)))) 49 x1.toNatClampNeg (0 : Int32))))) ∧ ((m3.1 47 1).toInt < r2.toInt → j_X11_mend_0_48 (d + 1) m3 Q))))))) ∧ (r1.toInt = 0 → Q (-1 : Int32) m1)))) : c_X11_mend_0 (d + 1) x1 m Q := by
  refine w_aload_n (q := 1) hm255 ⟨⟨_, _, rfl⟩, rfl⟩ rfl ?_
  refine w_iload_n (q := 2) hm255 ⟨⟨_, _, rfl⟩, rfl⟩ rfl ?_
  refine w_call (q := 5) (n := 0) (vs := [.inr (.inr (some 0)), .inl x1]) (rest := []) (la := [oR 0, oI x1]) hm255 ⟨⟨_, _, rfl⟩, rfl⟩ rfl rfl rfl rfl hm249 rfl rfl (fun _ => ⟨_, _, rfl, rfl⟩) rfl (Wp.mono h ?_)
  rintro _ m1 ⟨r1, rfl, h⟩
  change Wp _ _ 5 _ [.inl r1] _ _
  refine w_if_ne (q := 8) (X := r1.toInt) hm255 ⟨⟨_, _, rfl⟩, rfl⟩ rfl (fun hc => ?_) (fun hc => ?_)
  · have h := h.1 hc
    refine w_aload_n (q := 11) hm255 ⟨⟨_, _, rfl⟩, rfl⟩ rfl ?_
    refine w_getr (q := 14) hm255 ⟨⟨_, _, rfl⟩, rfl⟩ rfl ?_
    refine w_aload_n (q := 15) hm255 ⟨⟨_, _, rfl⟩, rfl⟩ rfl ?_
    refine w_getr (q := 18) hm255 ⟨⟨_, _, rfl⟩, rfl⟩ rfl ?_
    refine w_iload_n (q := 19) hm255 ⟨⟨_, _, rfl⟩, rfl⟩ rfl ?_
    refine w_call (q := 22) (n := 0) (vs := [.inr (.inr (some 54)), .inr (.inr (some 47)), .inl x1]) (rest := []) (la := [oR 54, oR 47, oI x1]) hm255 ⟨⟨_, _, rfl⟩, rfl⟩ rfl rfl rfl rfl hm128 rfl rfl (fun _ => ⟨_, _, rfl, rfl⟩) rfl (Wp.mono h ?_)
    rintro _ m2 ⟨r2, rfl, h⟩
    change Wp _ _ 22 _ [.inl r2] _ _
    refine w_istore_n (q := 23) (l' := [oR 0, oI x1, oI r2]) hm255 ⟨⟨_, _, rfl⟩, rfl⟩ rfl rfl rfl ?_
    refine w_aload_n (q := 24) hm255 ⟨⟨_, _, rfl⟩, rfl⟩ rfl ?_
    refine w_getr (q := 27) hm255 ⟨⟨_, _, rfl⟩, rfl⟩ rfl ?_
    refine w_getf (q := 30) (v := (m2.1 47 3)) hm255 ⟨⟨_, _, rfl⟩, rfl⟩ rfl rfl ?_
    refine w_iload_n (q := 31) hm255 ⟨⟨_, _, rfl⟩, rfl⟩ rfl ?_
    refine w_call (q := 34) (n := 0) (vs := [.inl (m2.1 47 3), .inl x1]) (rest := []) (la := [oI (m2.1 47 3), oI x1]) hm255 ⟨⟨_, _, rfl⟩, rfl⟩ rfl rfl rfl rfl hm283 rfl rfl (fun hz => absurd hz (by decide)) rfl (Wp.mono h ?_)
    rintro _ m3 ⟨r3, rfl, h⟩
    change Wp _ _ 34 _ [.inl r3] _ _
    refine w_if_eq (q := 37) (X := r3.toInt) hm255 ⟨⟨_, _, rfl⟩, rfl⟩ rfl (fun hc => ?_) (fun hc => ?_)
    · have h := h.1 hc
      exact Wp.wk [false, false, false] h
    · have h := h.2 hc
      refine w_iload_n (q := 38) hm255 ⟨⟨_, _, rfl⟩, rfl⟩ rfl ?_
      refine w_aload_n (q := 39) hm255 ⟨⟨_, _, rfl⟩, rfl⟩ rfl ?_
      refine w_getr (q := 42) hm255 ⟨⟨_, _, rfl⟩, rfl⟩ rfl ?_
      refine w_getf (q := 45) (v := (m3.1 47 1)) hm255 ⟨⟨_, _, rfl⟩, rfl⟩ rfl rfl ?_
      refine w_icmp_le (q := 48) (X := r2.toInt) (Y := (m3.1 47 1).toInt) hm255 ⟨⟨_, _, rfl⟩, rfl⟩ rfl rfl (fun hc => ?_) (fun hc => ?_)
      · have h := h.1 hc
        refine w_aload_n (q := 52) hm255 ⟨⟨_, _, rfl⟩, rfl⟩ rfl ?_
        refine w_getr (q := 55) hm255 ⟨⟨_, _, rfl⟩, rfl⟩ rfl ?_
        refine w_aload_n (q := 56) hm255 ⟨⟨_, _, rfl⟩, rfl⟩ rfl ?_
        refine w_getr (q := 59) hm255 ⟨⟨_, _, rfl⟩, rfl⟩ rfl ?_
        refine w_call (q := 62) (n := 0) (vs := [.inr (.inr (some 51)), .inr (.inr (some 47))]) (rest := []) (la := [oR 51, oR 47]) hm255 ⟨⟨_, _, rfl⟩, rfl⟩ rfl rfl rfl rfl hm203 rfl rfl (fun _ => ⟨_, _, rfl, rfl⟩) rfl (Wp.mono h ?_)
        rintro _ m4 ⟨rfl, h⟩
        change Wp _ _ 62 _ [] _ _
        refine w_aload_n (q := 63) hm255 ⟨⟨_, _, rfl⟩, rfl⟩ rfl ?_
        refine w_getr (q := 66) hm255 ⟨⟨_, _, rfl⟩, rfl⟩ rfl ?_
        refine w_dup (q := 67) hm255 ⟨⟨_, _, rfl⟩, rfl⟩ rfl ?_
        refine w_getf (q := 70) (v := (m4.1 47 1)) hm255 ⟨⟨_, _, rfl⟩, rfl⟩ rfl rfl ?_
        refine w_iload_n (q := 71) hm255 ⟨⟨_, _, rfl⟩, rfl⟩ rfl ?_
        refine w_isub (q := 72) hm255 ⟨⟨_, _, rfl⟩, rfl⟩ ?_
        refine w_putf (q := 75) hm255 ⟨⟨_, _, rfl⟩, rfl⟩ rfl rfl rfl ?_
        refine w_aload_n (q := 76) hm255 ⟨⟨_, _, rfl⟩, rfl⟩ rfl ?_
        refine w_getr (q := 79) hm255 ⟨⟨_, _, rfl⟩, rfl⟩ rfl ?_
        refine w_dup (q := 80) hm255 ⟨⟨_, _, rfl⟩, rfl⟩ rfl ?_
        refine w_getf (q := 83) (v := (m4.1 47 3)) hm255 ⟨⟨_, _, rfl⟩, rfl⟩ rfl rfl ?_
        refine w_iconst (q := 84) hm255 ⟨⟨_, _, rfl⟩, rfl⟩ iconst_1 ?_
        refine w_iload_n (q := 85) hm255 ⟨⟨_, _, rfl⟩, rfl⟩ rfl ?_
        refine w_ishl (q := 86) hm255 ⟨⟨_, _, rfl⟩, rfl⟩ ?_
        refine w_iconst (q := 87) hm255 ⟨⟨_, _, rfl⟩, rfl⟩ iconst_m1 ?_
        refine w_ixor (q := 88) hm255 ⟨⟨_, _, rfl⟩, rfl⟩ ?_
        refine w_iand (q := 89) hm255 ⟨⟨_, _, rfl⟩, rfl⟩ ?_
        refine w_putf (q := 92) hm255 ⟨⟨_, _, rfl⟩, rfl⟩ rfl rfl rfl ?_
        refine w_aload_n (q := 93) hm255 ⟨⟨_, _, rfl⟩, rfl⟩ rfl ?_
        refine w_getr (q := 96) hm255 ⟨⟨_, _, rfl⟩, rfl⟩ rfl ?_
        refine w_dup (q := 97) hm255 ⟨⟨_, _, rfl⟩, rfl⟩ rfl ?_
        refine w_getf (q := 100) (v := (m4.1 47 4)) hm255 ⟨⟨_, _, rfl⟩, rfl⟩ rfl rfl ?_
        refine w_iconst (q := 101) hm255 ⟨⟨_, _, rfl⟩, rfl⟩ iconst_1 ?_
        refine w_iload_n (q := 102) hm255 ⟨⟨_, _, rfl⟩, rfl⟩ rfl ?_
        refine w_ishl (q := 103) hm255 ⟨⟨_, _, rfl⟩, rfl⟩ ?_
        refine w_iconst (q := 104) hm255 ⟨⟨_, _, rfl⟩, rfl⟩ iconst_m1 ?_
        refine w_ixor (q := 105) hm255 ⟨⟨_, _, rfl⟩, rfl⟩ ?_
        refine w_iand (q := 106) hm255 ⟨⟨_, _, rfl⟩, rfl⟩ ?_
        refine w_putf (q := 109) hm255 ⟨⟨_, _, rfl⟩, rfl⟩ rfl rfl rfl ?_
        refine w_aload_n (q := 110) hm255 ⟨⟨_, _, rfl⟩, rfl⟩ rfl ?_
        refine w_getr (q := 113) hm255 ⟨⟨_, _, rfl⟩, rfl⟩ rfl ?_
        refine w_getr (q := 116) hm255 ⟨⟨_, _, rfl⟩, rfl⟩ rfl ?_
        refine w_iload_n (q := 117) hm255 ⟨⟨_, _, rfl⟩, rfl⟩ rfl ?_
        refine w_iconst (q := 118) hm255 ⟨⟨_, _, rfl⟩, rfl⟩ iconst_0 ?_
        obtain ⟨hi, h⟩ := h
        refine w_iast (q := 119) hm255 ⟨⟨_, _, rfl⟩, rfl⟩ rfl hi rfl rfl ?_
        refine w_aload_n (q := 120) hm255 ⟨⟨_, _, rfl⟩, rfl⟩ rfl ?_
        refine w_getr (q := 123) hm255 ⟨⟨_, _, rfl⟩, rfl⟩ rfl ?_
        refine w_getf (q := 126) (v := ((m4.1 47 1) - r2)) hm255 ⟨⟨_, _, rfl⟩, rfl⟩ rfl rfl ?_
        exact w_reti hm255 ⟨⟨_, _, rfl⟩, rfl⟩ rfl h
      · have h := h.2 hc
        exact Wp.wk [false, false, false] h
  · have h := h.2 hc
    refine w_iconst (q := 9) hm255 ⟨⟨_, _, rfl⟩, rfl⟩ iconst_m1 ?_
    exact w_reti hm255 ⟨⟨_, _, rfl⟩, rfl⟩ rfl h
theorem v_X11_mend_0_48 {d : Nat} {m : dM} {Q : Int32 → dM → Prop} (h : Q (-2 : Int32) m) : j_X11_mend_0_48 (d + 1) m Q := by
  refine w_bipush (q := 50) hm255 ⟨⟨_, _, rfl⟩, rfl⟩ bipush_m2 ?_
  exact w_reti hm255 ⟨⟨_, _, rfl⟩, rfl⟩ rfl h
theorem v_X12_mend_70 {d : Nat} {x1 : Int32} {m : dM} {Q : Int32 → dM → Prop} (h : c_X12_isWire_70 d x1 m (fun r1 m1 => ((r1.toInt ≠ 0 → c_X12_copies_70 d m1 (fun m2 => ((0 ≤ ((10 : Int32) + x1).toInt ∧ ((10 : Int32) + x1).toInt < 58) ∧ (((m2.1 108 ((10 : Int32) + x1).toNatClampNeg).toInt = 0 → j_X12_mend_70_41 (d + 1) m2 Q) ∧ ((m2.1 108 ((10 : Int32) + x1).toNatClampNeg).toInt ≠ 0 → c_X12_costsOf_70 d x1 m2 (fun r3 m3 => ((r3.toInt ≤ (m3.1 108 56).toInt → c_X12_costsOf_70 d x1 m3 (fun r4 m4 => ((0 ≤ ((10 : Int32) + x1).toInt ∧ ((10 : Int32) + x1).toInt < 58) ∧ ((0 ≤ ((20 : Int32) + x1).toInt ∧ ((20 : Int32) + x1).toInt < 58) ∧ ((0 ≤ ((30 : Int32) + x1).toInt ∧ ((30 : Int32) + x1).toInt < 58) ∧ c_X12_records_70 d (dSet (dSet (dSet (dSet m4 108 56 ((m3.1 108 56) - r4)) 108 ((10 : Int32) + x1).toNatClampNeg (0 : Int32)) 108 ((20 : Int32) + x1).toNatClampNeg (0 : Int32)) 108 ((30 : Int32) + x1).toNatClampNeg (0 : Int32)) (fun m5 => Q (m5.1 107 56) m5)))))) ∧ ((m3.1 108 56).toInt < r3.toInt → j_X12_mend_70_41 (d + 1) m3 Q)))))))) ∧ (r1.toInt = 0 → Q (-1 : Int32) m1)))) : c_X12_mend_70 (d + 1) x1 m Q := by
  refine w_aload_n (q := 1) hm75 ⟨⟨_, _, rfl⟩, rfl⟩ rfl ?_
  refine w_iload_n (q := 2) hm75 ⟨⟨_, _, rfl⟩, rfl⟩ rfl ?_
  refine w_call (q := 5) (n := 0) (vs := [.inr (.inr (some 70)), .inl x1]) (rest := []) (la := [oR 70, oI x1]) hm75 ⟨⟨_, _, rfl⟩, rfl⟩ rfl rfl rfl rfl hm40 rfl rfl (fun _ => ⟨_, _, rfl, rfl⟩) rfl (Wp.mono h ?_)
  rintro _ m1 ⟨r1, rfl, h⟩
  change Wp _ _ 5 _ [.inl r1] _ _
  refine w_if_ne (q := 8) (X := r1.toInt) hm75 ⟨⟨_, _, rfl⟩, rfl⟩ rfl (fun hc => ?_) (fun hc => ?_)
  · have h := h.1 hc
    refine w_aload_n (q := 11) hm75 ⟨⟨_, _, rfl⟩, rfl⟩ rfl ?_
    refine w_call (q := 14) (n := 1) (vs := [.inr (.inr (some 70))]) (rest := []) (la := [oR 70, none]) hm75 ⟨⟨_, _, rfl⟩, rfl⟩ rfl rfl rfl rfl hm44 rfl rfl (fun _ => ⟨_, _, rfl, rfl⟩) rfl (Wp.mono h ?_)
    rintro _ m2 ⟨rfl, h⟩
    change Wp _ _ 14 _ [] _ _
    refine w_aload_n (q := 15) hm75 ⟨⟨_, _, rfl⟩, rfl⟩ rfl ?_
    refine w_getr (q := 18) hm75 ⟨⟨_, _, rfl⟩, rfl⟩ rfl ?_
    refine w_bipush (q := 20) hm75 ⟨⟨_, _, rfl⟩, rfl⟩ bipush_10 ?_
    refine w_iload_n (q := 21) hm75 ⟨⟨_, _, rfl⟩, rfl⟩ rfl ?_
    refine w_iadd (q := 22) hm75 ⟨⟨_, _, rfl⟩, rfl⟩ ?_
    obtain ⟨hi, h⟩ := h
    refine w_iald (q := 23) (v := (m2.1 108 ((10 : Int32) + x1).toNatClampNeg)) hm75 ⟨⟨_, _, rfl⟩, rfl⟩ rfl hi rfl rfl ?_
    refine w_if_eq (q := 26) (X := (m2.1 108 ((10 : Int32) + x1).toNatClampNeg).toInt) hm75 ⟨⟨_, _, rfl⟩, rfl⟩ rfl (fun hc => ?_) (fun hc => ?_)
    · have h := h.1 hc
      exact Wp.wk [false, false] h
    · have h := h.2 hc
      refine w_aload_n (q := 27) hm75 ⟨⟨_, _, rfl⟩, rfl⟩ rfl ?_
      refine w_iload_n (q := 28) hm75 ⟨⟨_, _, rfl⟩, rfl⟩ rfl ?_
      refine w_call (q := 31) (n := 0) (vs := [.inr (.inr (some 70)), .inl x1]) (rest := []) (la := [oR 70, oI x1]) hm75 ⟨⟨_, _, rfl⟩, rfl⟩ rfl rfl rfl rfl hm63 rfl rfl (fun _ => ⟨_, _, rfl, rfl⟩) rfl (Wp.mono h ?_)
      rintro _ m3 ⟨r3, rfl, h⟩
      change Wp _ _ 31 _ [.inl r3] _ _
      refine w_aload_n (q := 32) hm75 ⟨⟨_, _, rfl⟩, rfl⟩ rfl ?_
      refine w_getr (q := 35) hm75 ⟨⟨_, _, rfl⟩, rfl⟩ rfl ?_
      refine w_bipush (q := 37) hm75 ⟨⟨_, _, rfl⟩, rfl⟩ bipush_56 ?_
      refine w_iald (q := 38) (j := 56) (v := (m3.1 108 56)) hm75 ⟨⟨_, _, rfl⟩, rfl⟩ rfl (by decide) (by decide) rfl ?_
      refine w_icmp_le (q := 41) (X := r3.toInt) (Y := (m3.1 108 56).toInt) hm75 ⟨⟨_, _, rfl⟩, rfl⟩ rfl rfl (fun hc => ?_) (fun hc => ?_)
      · have h := h.1 hc
        refine w_aload_n (q := 45) hm75 ⟨⟨_, _, rfl⟩, rfl⟩ rfl ?_
        refine w_getr (q := 48) hm75 ⟨⟨_, _, rfl⟩, rfl⟩ rfl ?_
        refine w_bipush (q := 50) hm75 ⟨⟨_, _, rfl⟩, rfl⟩ bipush_56 ?_
        refine w_dup2 (q := 51) hm75 ⟨⟨_, _, rfl⟩, rfl⟩ rfl ?_
        refine w_iald (q := 52) (j := 56) (v := (m3.1 108 56)) hm75 ⟨⟨_, _, rfl⟩, rfl⟩ rfl (by decide) (by decide) rfl ?_
        refine w_aload_n (q := 53) hm75 ⟨⟨_, _, rfl⟩, rfl⟩ rfl ?_
        refine w_iload_n (q := 54) hm75 ⟨⟨_, _, rfl⟩, rfl⟩ rfl ?_
        refine w_call (q := 57) (n := 0) (vs := [.inr (.inr (some 70)), .inl x1]) (rest := [.inl (m3.1 108 56), .inl (56 : Int32), .inr (.inr (some 108))]) (la := [oR 70, oI x1]) hm75 ⟨⟨_, _, rfl⟩, rfl⟩ rfl rfl rfl rfl hm63 rfl rfl (fun _ => ⟨_, _, rfl, rfl⟩) rfl (Wp.mono h ?_)
        rintro _ m4 ⟨r4, rfl, h⟩
        change Wp _ _ 57 _ [.inl r4, .inl (m3.1 108 56), .inl (56 : Int32), .inr (.inr (some 108))] _ _
        refine w_isub (q := 58) hm75 ⟨⟨_, _, rfl⟩, rfl⟩ ?_
        refine w_iast (q := 59) (j := 56) hm75 ⟨⟨_, _, rfl⟩, rfl⟩ rfl (by decide) (by decide) rfl ?_
        refine w_aload_n (q := 60) hm75 ⟨⟨_, _, rfl⟩, rfl⟩ rfl ?_
        refine w_getr (q := 63) hm75 ⟨⟨_, _, rfl⟩, rfl⟩ rfl ?_
        refine w_bipush (q := 65) hm75 ⟨⟨_, _, rfl⟩, rfl⟩ bipush_10 ?_
        refine w_iload_n (q := 66) hm75 ⟨⟨_, _, rfl⟩, rfl⟩ rfl ?_
        refine w_iadd (q := 67) hm75 ⟨⟨_, _, rfl⟩, rfl⟩ ?_
        refine w_iconst (q := 68) hm75 ⟨⟨_, _, rfl⟩, rfl⟩ iconst_0 ?_
        obtain ⟨hi, h⟩ := h
        refine w_iast (q := 69) hm75 ⟨⟨_, _, rfl⟩, rfl⟩ rfl hi rfl rfl ?_
        refine w_aload_n (q := 70) hm75 ⟨⟨_, _, rfl⟩, rfl⟩ rfl ?_
        refine w_getr (q := 73) hm75 ⟨⟨_, _, rfl⟩, rfl⟩ rfl ?_
        refine w_bipush (q := 75) hm75 ⟨⟨_, _, rfl⟩, rfl⟩ bipush_20 ?_
        refine w_iload_n (q := 76) hm75 ⟨⟨_, _, rfl⟩, rfl⟩ rfl ?_
        refine w_iadd (q := 77) hm75 ⟨⟨_, _, rfl⟩, rfl⟩ ?_
        refine w_iconst (q := 78) hm75 ⟨⟨_, _, rfl⟩, rfl⟩ iconst_0 ?_
        obtain ⟨hi, h⟩ := h
        refine w_iast (q := 79) hm75 ⟨⟨_, _, rfl⟩, rfl⟩ rfl hi rfl rfl ?_
        refine w_aload_n (q := 80) hm75 ⟨⟨_, _, rfl⟩, rfl⟩ rfl ?_
        refine w_getr (q := 83) hm75 ⟨⟨_, _, rfl⟩, rfl⟩ rfl ?_
        refine w_bipush (q := 85) hm75 ⟨⟨_, _, rfl⟩, rfl⟩ bipush_30 ?_
        refine w_iload_n (q := 86) hm75 ⟨⟨_, _, rfl⟩, rfl⟩ rfl ?_
        refine w_iadd (q := 87) hm75 ⟨⟨_, _, rfl⟩, rfl⟩ ?_
        refine w_iconst (q := 88) hm75 ⟨⟨_, _, rfl⟩, rfl⟩ iconst_0 ?_
        obtain ⟨hi, h⟩ := h
        refine w_iast (q := 89) hm75 ⟨⟨_, _, rfl⟩, rfl⟩ rfl hi rfl rfl ?_
        refine w_aload_n (q := 90) hm75 ⟨⟨_, _, rfl⟩, rfl⟩ rfl ?_
        refine w_call (q := 93) (n := 1) (vs := [.inr (.inr (some 70))]) (rest := []) (la := [oR 70, none]) hm75 ⟨⟨_, _, rfl⟩, rfl⟩ rfl rfl rfl rfl hm73 rfl rfl (fun _ => ⟨_, _, rfl, rfl⟩) rfl (Wp.mono h ?_)
        rintro _ m5 ⟨rfl, h⟩
        change Wp _ _ 93 _ [] _ _
        refine w_aload_n (q := 94) hm75 ⟨⟨_, _, rfl⟩, rfl⟩ rfl ?_
        refine w_getr (q := 97) hm75 ⟨⟨_, _, rfl⟩, rfl⟩ rfl ?_
        refine w_bipush (q := 99) hm75 ⟨⟨_, _, rfl⟩, rfl⟩ bipush_56 ?_
        refine w_iald (q := 100) (j := 56) (v := (m5.1 107 56)) hm75 ⟨⟨_, _, rfl⟩, rfl⟩ rfl (by decide) (by decide) rfl ?_
        exact w_reti hm75 ⟨⟨_, _, rfl⟩, rfl⟩ rfl h
      · have h := h.2 hc
        exact Wp.wk [false, false] h
  · have h := h.2 hc
    refine w_iconst (q := 9) hm75 ⟨⟨_, _, rfl⟩, rfl⟩ iconst_m1 ?_
    exact w_reti hm75 ⟨⟨_, _, rfl⟩, rfl⟩ rfl h
theorem v_X12_mend_70_41 {d : Nat} {m : dM} {Q : Int32 → dM → Prop} (h : Q (-2 : Int32) m) : j_X12_mend_70_41 (d + 1) m Q := by
  refine w_bipush (q := 43) hm75 ⟨⟨_, _, rfl⟩, rfl⟩ bipush_m2 ?_
  exact w_reti hm75 ⟨⟨_, _, rfl⟩, rfl⟩ rfl h
theorem v_X11_thicken_0 {d : Nat} {x1 : Int32} {m : dM} {Q : Int32 → dM → Prop} (h : c_X11_isWire_0 d x1 m (fun r1 m1 => ((r1.toInt ≠ 0 → c_X0_costOf_54_47 d x1 m1 (fun r2 m2 => c_X11_has d (m2.1 47 3) x1 m2 (fun r3 m3 => ((r3.toInt ≠ 0 → j_X11_thicken_0_62 (d + 1) m3 Q) ∧ (r3.toInt = 0 → ((0 ≤ x1.toInt ∧ x1.toInt < 10) ∧ ((99 ≤ (m3.1 48 x1.toNatClampNeg).toInt → j_X11_thicken_0_62 (d + 1) m3 Q) ∧ ((m3.1 48 x1.toNatClampNeg).toInt < 99 → ((r2.toInt ≤ (m3.1 47 1).toInt → c_X6_keep_51_47 d m3 (fun m4 => ((0 ≤ x1.toInt ∧ x1.toInt < 10) ∧ ((0 ≤ x1.toInt ∧ x1.toInt < 10) ∧ Q ((m4.1 47 1) - r2) (dSet (dSet m4 47 1 ((m4.1 47 1) - r2)) 48 x1.toNatClampNeg ((m4.1 48 x1.toNatClampNeg) + (1 : Int32))))))) ∧ ((m3.1 47 1).toInt < r2.toInt → j_X11_thicken_0_62 (d + 1) m3 Q)))))))))) ∧ (r1.toInt = 0 → Q (-1 : Int32) m1)))) : c_X11_thicken_0 (d + 1) x1 m Q := by
  refine w_aload_n (q := 1) hm256 ⟨⟨_, _, rfl⟩, rfl⟩ rfl ?_
  refine w_iload_n (q := 2) hm256 ⟨⟨_, _, rfl⟩, rfl⟩ rfl ?_
  refine w_call (q := 5) (n := 0) (vs := [.inr (.inr (some 0)), .inl x1]) (rest := []) (la := [oR 0, oI x1]) hm256 ⟨⟨_, _, rfl⟩, rfl⟩ rfl rfl rfl rfl hm249 rfl rfl (fun _ => ⟨_, _, rfl, rfl⟩) rfl (Wp.mono h ?_)
  rintro _ m1 ⟨r1, rfl, h⟩
  change Wp _ _ 5 _ [.inl r1] _ _
  refine w_if_ne (q := 8) (X := r1.toInt) hm256 ⟨⟨_, _, rfl⟩, rfl⟩ rfl (fun hc => ?_) (fun hc => ?_)
  · have h := h.1 hc
    refine w_aload_n (q := 11) hm256 ⟨⟨_, _, rfl⟩, rfl⟩ rfl ?_
    refine w_getr (q := 14) hm256 ⟨⟨_, _, rfl⟩, rfl⟩ rfl ?_
    refine w_aload_n (q := 15) hm256 ⟨⟨_, _, rfl⟩, rfl⟩ rfl ?_
    refine w_getr (q := 18) hm256 ⟨⟨_, _, rfl⟩, rfl⟩ rfl ?_
    refine w_iload_n (q := 19) hm256 ⟨⟨_, _, rfl⟩, rfl⟩ rfl ?_
    refine w_call (q := 22) (n := 0) (vs := [.inr (.inr (some 54)), .inr (.inr (some 47)), .inl x1]) (rest := []) (la := [oR 54, oR 47, oI x1]) hm256 ⟨⟨_, _, rfl⟩, rfl⟩ rfl rfl rfl rfl hm128 rfl rfl (fun _ => ⟨_, _, rfl, rfl⟩) rfl (Wp.mono h ?_)
    rintro _ m2 ⟨r2, rfl, h⟩
    change Wp _ _ 22 _ [.inl r2] _ _
    refine w_istore_n (q := 23) (l' := [oR 0, oI x1, oI r2]) hm256 ⟨⟨_, _, rfl⟩, rfl⟩ rfl rfl rfl ?_
    refine w_aload_n (q := 24) hm256 ⟨⟨_, _, rfl⟩, rfl⟩ rfl ?_
    refine w_getr (q := 27) hm256 ⟨⟨_, _, rfl⟩, rfl⟩ rfl ?_
    refine w_getf (q := 30) (v := (m2.1 47 3)) hm256 ⟨⟨_, _, rfl⟩, rfl⟩ rfl rfl ?_
    refine w_iload_n (q := 31) hm256 ⟨⟨_, _, rfl⟩, rfl⟩ rfl ?_
    refine w_call (q := 34) (n := 0) (vs := [.inl (m2.1 47 3), .inl x1]) (rest := []) (la := [oI (m2.1 47 3), oI x1]) hm256 ⟨⟨_, _, rfl⟩, rfl⟩ rfl rfl rfl rfl hm283 rfl rfl (fun hz => absurd hz (by decide)) rfl (Wp.mono h ?_)
    rintro _ m3 ⟨r3, rfl, h⟩
    change Wp _ _ 34 _ [.inl r3] _ _
    refine w_if_ne (q := 37) (X := r3.toInt) hm256 ⟨⟨_, _, rfl⟩, rfl⟩ rfl (fun hc => ?_) (fun hc => ?_)
    · have h := h.1 hc
      exact Wp.wk [false, false, false] h
    · have h := h.2 hc
      refine w_aload_n (q := 38) hm256 ⟨⟨_, _, rfl⟩, rfl⟩ rfl ?_
      refine w_getr (q := 41) hm256 ⟨⟨_, _, rfl⟩, rfl⟩ rfl ?_
      refine w_getr (q := 44) hm256 ⟨⟨_, _, rfl⟩, rfl⟩ rfl ?_
      refine w_iload_n (q := 45) hm256 ⟨⟨_, _, rfl⟩, rfl⟩ rfl ?_
      obtain ⟨hi, h⟩ := h
      refine w_iald (q := 46) (v := (m3.1 48 x1.toNatClampNeg)) hm256 ⟨⟨_, _, rfl⟩, rfl⟩ rfl hi rfl rfl ?_
      refine w_bipush (q := 48) hm256 ⟨⟨_, _, rfl⟩, rfl⟩ bipush_99 ?_
      refine w_icmp_ge (q := 51) (X := (m3.1 48 x1.toNatClampNeg).toInt) (Y := 99) hm256 ⟨⟨_, _, rfl⟩, rfl⟩ rfl (by decide) (fun hc => ?_) (fun hc => ?_)
      · have h := h.1 hc
        exact Wp.wk [false, false, false] h
      · have h := h.2 hc
        refine w_iload_n (q := 52) hm256 ⟨⟨_, _, rfl⟩, rfl⟩ rfl ?_
        refine w_aload_n (q := 53) hm256 ⟨⟨_, _, rfl⟩, rfl⟩ rfl ?_
        refine w_getr (q := 56) hm256 ⟨⟨_, _, rfl⟩, rfl⟩ rfl ?_
        refine w_getf (q := 59) (v := (m3.1 47 1)) hm256 ⟨⟨_, _, rfl⟩, rfl⟩ rfl rfl ?_
        refine w_icmp_le (q := 62) (X := r2.toInt) (Y := (m3.1 47 1).toInt) hm256 ⟨⟨_, _, rfl⟩, rfl⟩ rfl rfl (fun hc => ?_) (fun hc => ?_)
        · have h := h.1 hc
          refine w_aload_n (q := 66) hm256 ⟨⟨_, _, rfl⟩, rfl⟩ rfl ?_
          refine w_getr (q := 69) hm256 ⟨⟨_, _, rfl⟩, rfl⟩ rfl ?_
          refine w_aload_n (q := 70) hm256 ⟨⟨_, _, rfl⟩, rfl⟩ rfl ?_
          refine w_getr (q := 73) hm256 ⟨⟨_, _, rfl⟩, rfl⟩ rfl ?_
          refine w_call (q := 76) (n := 0) (vs := [.inr (.inr (some 51)), .inr (.inr (some 47))]) (rest := []) (la := [oR 51, oR 47]) hm256 ⟨⟨_, _, rfl⟩, rfl⟩ rfl rfl rfl rfl hm203 rfl rfl (fun _ => ⟨_, _, rfl, rfl⟩) rfl (Wp.mono h ?_)
          rintro _ m4 ⟨rfl, h⟩
          change Wp _ _ 76 _ [] _ _
          refine w_aload_n (q := 77) hm256 ⟨⟨_, _, rfl⟩, rfl⟩ rfl ?_
          refine w_getr (q := 80) hm256 ⟨⟨_, _, rfl⟩, rfl⟩ rfl ?_
          refine w_dup (q := 81) hm256 ⟨⟨_, _, rfl⟩, rfl⟩ rfl ?_
          refine w_getf (q := 84) (v := (m4.1 47 1)) hm256 ⟨⟨_, _, rfl⟩, rfl⟩ rfl rfl ?_
          refine w_iload_n (q := 85) hm256 ⟨⟨_, _, rfl⟩, rfl⟩ rfl ?_
          refine w_isub (q := 86) hm256 ⟨⟨_, _, rfl⟩, rfl⟩ ?_
          refine w_putf (q := 89) hm256 ⟨⟨_, _, rfl⟩, rfl⟩ rfl rfl rfl ?_
          refine w_aload_n (q := 90) hm256 ⟨⟨_, _, rfl⟩, rfl⟩ rfl ?_
          refine w_getr (q := 93) hm256 ⟨⟨_, _, rfl⟩, rfl⟩ rfl ?_
          refine w_getr (q := 96) hm256 ⟨⟨_, _, rfl⟩, rfl⟩ rfl ?_
          refine w_iload_n (q := 97) hm256 ⟨⟨_, _, rfl⟩, rfl⟩ rfl ?_
          refine w_dup2 (q := 98) hm256 ⟨⟨_, _, rfl⟩, rfl⟩ rfl ?_
          obtain ⟨hi, h⟩ := h
          refine w_iald (q := 99) (v := (m4.1 48 x1.toNatClampNeg)) hm256 ⟨⟨_, _, rfl⟩, rfl⟩ rfl hi rfl rfl ?_
          refine w_iconst (q := 100) hm256 ⟨⟨_, _, rfl⟩, rfl⟩ iconst_1 ?_
          refine w_iadd (q := 101) hm256 ⟨⟨_, _, rfl⟩, rfl⟩ ?_
          obtain ⟨hi, h⟩ := h
          refine w_iast (q := 102) hm256 ⟨⟨_, _, rfl⟩, rfl⟩ rfl hi rfl rfl ?_
          refine w_aload_n (q := 103) hm256 ⟨⟨_, _, rfl⟩, rfl⟩ rfl ?_
          refine w_getr (q := 106) hm256 ⟨⟨_, _, rfl⟩, rfl⟩ rfl ?_
          refine w_getf (q := 109) (v := ((m4.1 47 1) - r2)) hm256 ⟨⟨_, _, rfl⟩, rfl⟩ rfl rfl ?_
          exact w_reti hm256 ⟨⟨_, _, rfl⟩, rfl⟩ rfl h
        · have h := h.2 hc
          exact Wp.wk [false, false, false] h
  · have h := h.2 hc
    refine w_iconst (q := 9) hm256 ⟨⟨_, _, rfl⟩, rfl⟩ iconst_m1 ?_
    exact w_reti hm256 ⟨⟨_, _, rfl⟩, rfl⟩ rfl h
theorem v_X11_thicken_0_62 {d : Nat} {m : dM} {Q : Int32 → dM → Prop} (h : Q (-2 : Int32) m) : j_X11_thicken_0_62 (d + 1) m Q := by
  refine w_bipush (q := 64) hm256 ⟨⟨_, _, rfl⟩, rfl⟩ bipush_m2 ?_
  exact w_reti hm256 ⟨⟨_, _, rfl⟩, rfl⟩ rfl h
theorem v_X12_thicken_70 {d : Nat} {x1 : Int32} {m : dM} {Q : Int32 → dM → Prop} (h : c_X12_isWire_70 d x1 m (fun r1 m1 => ((r1.toInt ≠ 0 → c_X12_copies_70 d m1 (fun m2 => ((0 ≤ ((10 : Int32) + x1).toInt ∧ ((10 : Int32) + x1).toInt < 58) ∧ (((m2.1 108 ((10 : Int32) + x1).toNatClampNeg).toInt = 1 → j_X12_thicken_70_53 (d + 1) m2 Q) ∧ ((m2.1 108 ((10 : Int32) + x1).toNatClampNeg).toInt ≠ 1 → ((0 ≤ x1.toInt ∧ x1.toInt < 58) ∧ (((m2.1 108 x1.toNatClampNeg).toInt = 99 → j_X12_thicken_70_53 (d + 1) m2 Q) ∧ ((m2.1 108 x1.toNatClampNeg).toInt ≠ 99 → c_X12_costsOf_70 d x1 m2 (fun r3 m3 => ((r3.toInt ≤ (m3.1 108 56).toInt → c_X12_costsOf_70 d x1 m3 (fun r4 m4 => ((0 ≤ x1.toInt ∧ x1.toInt < 58) ∧ ((0 ≤ x1.toInt ∧ x1.toInt < 58) ∧ c_X12_records_70 d (dSet (dSet m4 108 56 ((m3.1 108 56) - r4)) 108 x1.toNatClampNeg (((dSet m4 108 56 ((m3.1 108 56) - r4)).1 108 x1.toNatClampNeg) + (1 : Int32))) (fun m5 => Q (m5.1 107 56) m5))))) ∧ ((m3.1 108 56).toInt < r3.toInt → j_X12_thicken_70_53 (d + 1) m3 Q))))))))))) ∧ (r1.toInt = 0 → Q (-1 : Int32) m1)))) : c_X12_thicken_70 (d + 1) x1 m Q := by
  refine w_aload_n (q := 1) hm76 ⟨⟨_, _, rfl⟩, rfl⟩ rfl ?_
  refine w_iload_n (q := 2) hm76 ⟨⟨_, _, rfl⟩, rfl⟩ rfl ?_
  refine w_call (q := 5) (n := 0) (vs := [.inr (.inr (some 70)), .inl x1]) (rest := []) (la := [oR 70, oI x1]) hm76 ⟨⟨_, _, rfl⟩, rfl⟩ rfl rfl rfl rfl hm40 rfl rfl (fun _ => ⟨_, _, rfl, rfl⟩) rfl (Wp.mono h ?_)
  rintro _ m1 ⟨r1, rfl, h⟩
  change Wp _ _ 5 _ [.inl r1] _ _
  refine w_if_ne (q := 8) (X := r1.toInt) hm76 ⟨⟨_, _, rfl⟩, rfl⟩ rfl (fun hc => ?_) (fun hc => ?_)
  · have h := h.1 hc
    refine w_aload_n (q := 11) hm76 ⟨⟨_, _, rfl⟩, rfl⟩ rfl ?_
    refine w_call (q := 14) (n := 1) (vs := [.inr (.inr (some 70))]) (rest := []) (la := [oR 70, none]) hm76 ⟨⟨_, _, rfl⟩, rfl⟩ rfl rfl rfl rfl hm44 rfl rfl (fun _ => ⟨_, _, rfl, rfl⟩) rfl (Wp.mono h ?_)
    rintro _ m2 ⟨rfl, h⟩
    change Wp _ _ 14 _ [] _ _
    refine w_aload_n (q := 15) hm76 ⟨⟨_, _, rfl⟩, rfl⟩ rfl ?_
    refine w_getr (q := 18) hm76 ⟨⟨_, _, rfl⟩, rfl⟩ rfl ?_
    refine w_bipush (q := 20) hm76 ⟨⟨_, _, rfl⟩, rfl⟩ bipush_10 ?_
    refine w_iload_n (q := 21) hm76 ⟨⟨_, _, rfl⟩, rfl⟩ rfl ?_
    refine w_iadd (q := 22) hm76 ⟨⟨_, _, rfl⟩, rfl⟩ ?_
    obtain ⟨hi, h⟩ := h
    refine w_iald (q := 23) (v := (m2.1 108 ((10 : Int32) + x1).toNatClampNeg)) hm76 ⟨⟨_, _, rfl⟩, rfl⟩ rfl hi rfl rfl ?_
    refine w_iconst (q := 24) hm76 ⟨⟨_, _, rfl⟩, rfl⟩ iconst_1 ?_
    refine w_icmp_eq (q := 27) (X := (m2.1 108 ((10 : Int32) + x1).toNatClampNeg).toInt) (Y := 1) hm76 ⟨⟨_, _, rfl⟩, rfl⟩ rfl (by decide) (fun hc => ?_) (fun hc => ?_)
    · have h := h.1 hc
      exact Wp.wk [false, false] h
    · have h := h.2 hc
      refine w_aload_n (q := 28) hm76 ⟨⟨_, _, rfl⟩, rfl⟩ rfl ?_
      refine w_getr (q := 31) hm76 ⟨⟨_, _, rfl⟩, rfl⟩ rfl ?_
      refine w_iload_n (q := 32) hm76 ⟨⟨_, _, rfl⟩, rfl⟩ rfl ?_
      obtain ⟨hi, h⟩ := h
      refine w_iald (q := 33) (v := (m2.1 108 x1.toNatClampNeg)) hm76 ⟨⟨_, _, rfl⟩, rfl⟩ rfl hi rfl rfl ?_
      refine w_bipush (q := 35) hm76 ⟨⟨_, _, rfl⟩, rfl⟩ bipush_99 ?_
      refine w_icmp_eq (q := 38) (X := (m2.1 108 x1.toNatClampNeg).toInt) (Y := 99) hm76 ⟨⟨_, _, rfl⟩, rfl⟩ rfl (by decide) (fun hc => ?_) (fun hc => ?_)
      · have h := h.1 hc
        exact Wp.wk [false, false] h
      · have h := h.2 hc
        refine w_aload_n (q := 39) hm76 ⟨⟨_, _, rfl⟩, rfl⟩ rfl ?_
        refine w_iload_n (q := 40) hm76 ⟨⟨_, _, rfl⟩, rfl⟩ rfl ?_
        refine w_call (q := 43) (n := 0) (vs := [.inr (.inr (some 70)), .inl x1]) (rest := []) (la := [oR 70, oI x1]) hm76 ⟨⟨_, _, rfl⟩, rfl⟩ rfl rfl rfl rfl hm63 rfl rfl (fun _ => ⟨_, _, rfl, rfl⟩) rfl (Wp.mono h ?_)
        rintro _ m3 ⟨r3, rfl, h⟩
        change Wp _ _ 43 _ [.inl r3] _ _
        refine w_aload_n (q := 44) hm76 ⟨⟨_, _, rfl⟩, rfl⟩ rfl ?_
        refine w_getr (q := 47) hm76 ⟨⟨_, _, rfl⟩, rfl⟩ rfl ?_
        refine w_bipush (q := 49) hm76 ⟨⟨_, _, rfl⟩, rfl⟩ bipush_56 ?_
        refine w_iald (q := 50) (j := 56) (v := (m3.1 108 56)) hm76 ⟨⟨_, _, rfl⟩, rfl⟩ rfl (by decide) (by decide) rfl ?_
        refine w_icmp_le (q := 53) (X := r3.toInt) (Y := (m3.1 108 56).toInt) hm76 ⟨⟨_, _, rfl⟩, rfl⟩ rfl rfl (fun hc => ?_) (fun hc => ?_)
        · have h := h.1 hc
          refine w_aload_n (q := 57) hm76 ⟨⟨_, _, rfl⟩, rfl⟩ rfl ?_
          refine w_getr (q := 60) hm76 ⟨⟨_, _, rfl⟩, rfl⟩ rfl ?_
          refine w_bipush (q := 62) hm76 ⟨⟨_, _, rfl⟩, rfl⟩ bipush_56 ?_
          refine w_dup2 (q := 63) hm76 ⟨⟨_, _, rfl⟩, rfl⟩ rfl ?_
          refine w_iald (q := 64) (j := 56) (v := (m3.1 108 56)) hm76 ⟨⟨_, _, rfl⟩, rfl⟩ rfl (by decide) (by decide) rfl ?_
          refine w_aload_n (q := 65) hm76 ⟨⟨_, _, rfl⟩, rfl⟩ rfl ?_
          refine w_iload_n (q := 66) hm76 ⟨⟨_, _, rfl⟩, rfl⟩ rfl ?_
          refine w_call (q := 69) (n := 0) (vs := [.inr (.inr (some 70)), .inl x1]) (rest := [.inl (m3.1 108 56), .inl (56 : Int32), .inr (.inr (some 108))]) (la := [oR 70, oI x1]) hm76 ⟨⟨_, _, rfl⟩, rfl⟩ rfl rfl rfl rfl hm63 rfl rfl (fun _ => ⟨_, _, rfl, rfl⟩) rfl (Wp.mono h ?_)
          rintro _ m4 ⟨r4, rfl, h⟩
          change Wp _ _ 69 _ [.inl r4, .inl (m3.1 108 56), .inl (56 : Int32), .inr (.inr (some 108))] _ _
          refine w_isub (q := 70) hm76 ⟨⟨_, _, rfl⟩, rfl⟩ ?_
          refine w_iast (q := 71) (j := 56) hm76 ⟨⟨_, _, rfl⟩, rfl⟩ rfl (by decide) (by decide) rfl ?_
          refine w_aload_n (q := 72) hm76 ⟨⟨_, _, rfl⟩, rfl⟩ rfl ?_
          refine w_getr (q := 75) hm76 ⟨⟨_, _, rfl⟩, rfl⟩ rfl ?_
          refine w_iload_n (q := 76) hm76 ⟨⟨_, _, rfl⟩, rfl⟩ rfl ?_
          refine w_dup2 (q := 77) hm76 ⟨⟨_, _, rfl⟩, rfl⟩ rfl ?_
          obtain ⟨hi, h⟩ := h
          refine w_iald (q := 78) (v := ((dSet m4 108 56 ((m3.1 108 56) - r4)).1 108 x1.toNatClampNeg)) hm76 ⟨⟨_, _, rfl⟩, rfl⟩ rfl hi rfl rfl ?_
          refine w_iconst (q := 79) hm76 ⟨⟨_, _, rfl⟩, rfl⟩ iconst_1 ?_
          refine w_iadd (q := 80) hm76 ⟨⟨_, _, rfl⟩, rfl⟩ ?_
          obtain ⟨hi, h⟩ := h
          refine w_iast (q := 81) hm76 ⟨⟨_, _, rfl⟩, rfl⟩ rfl hi rfl rfl ?_
          refine w_aload_n (q := 82) hm76 ⟨⟨_, _, rfl⟩, rfl⟩ rfl ?_
          refine w_call (q := 85) (n := 1) (vs := [.inr (.inr (some 70))]) (rest := []) (la := [oR 70, none]) hm76 ⟨⟨_, _, rfl⟩, rfl⟩ rfl rfl rfl rfl hm73 rfl rfl (fun _ => ⟨_, _, rfl, rfl⟩) rfl (Wp.mono h ?_)
          rintro _ m5 ⟨rfl, h⟩
          change Wp _ _ 85 _ [] _ _
          refine w_aload_n (q := 86) hm76 ⟨⟨_, _, rfl⟩, rfl⟩ rfl ?_
          refine w_getr (q := 89) hm76 ⟨⟨_, _, rfl⟩, rfl⟩ rfl ?_
          refine w_bipush (q := 91) hm76 ⟨⟨_, _, rfl⟩, rfl⟩ bipush_56 ?_
          refine w_iald (q := 92) (j := 56) (v := (m5.1 107 56)) hm76 ⟨⟨_, _, rfl⟩, rfl⟩ rfl (by decide) (by decide) rfl ?_
          exact w_reti hm76 ⟨⟨_, _, rfl⟩, rfl⟩ rfl h
        · have h := h.2 hc
          exact Wp.wk [false, false] h
  · have h := h.2 hc
    refine w_iconst (q := 9) hm76 ⟨⟨_, _, rfl⟩, rfl⟩ iconst_m1 ?_
    exact w_reti hm76 ⟨⟨_, _, rfl⟩, rfl⟩ rfl h
theorem v_X12_thicken_70_53 {d : Nat} {m : dM} {Q : Int32 → dM → Prop} (h : Q (-2 : Int32) m) : j_X12_thicken_70_53 (d + 1) m Q := by
  refine w_bipush (q := 55) hm76 ⟨⟨_, _, rfl⟩, rfl⟩ bipush_m2 ?_
  exact w_reti hm76 ⟨⟨_, _, rfl⟩, rfl⟩ rfl h
end
section
theorem v_X11_pin_0 {d : Nat} {x1 : Int32} {x2 : Int32} {m : dM} {Q : Int32 → dM → Prop} (h : c_X11_isWire_0 d x1 m (fun r1 m1 => ((r1.toInt = 0 → j_X11_pin_0_37 (d + 1) m1 Q) ∧ (r1.toInt ≠ 0 → c_X11_has d (m1.1 47 3) x1 m1 (fun r2 m2 => ((r2.toInt ≠ 0 → j_X11_pin_0_37 (d + 1) m2 Q) ∧ (r2.toInt = 0 → c_X11_has d (m2.1 47 4) x1 m2 (fun r3 m3 => ((r3.toInt ≠ x2.toInt → c_X6_keep_51_47 d m3 (fun m4 => Q (1 : Int32) (dSet m4 47 4 ((m4.1 47 4) ^^^ ((1 : Int32) <<< (x1 &&& 31)))))) ∧ (r3.toInt = x2.toInt → j_X11_pin_0_37 (d + 1) m3 Q)))))))))) : c_X11_pin_0 (d + 1) x1 x2 m Q := by
  refine w_aload_n (q := 1) hm257 ⟨⟨_, _, rfl⟩, rfl⟩ rfl ?_
  refine w_iload_n (q := 2) hm257 ⟨⟨_, _, rfl⟩, rfl⟩ rfl ?_
  refine w_call (q := 5) (n := 0) (vs := [.inr (.inr (some 0)), .inl x1]) (rest := []) (la := [oR 0, oI x1]) hm257 ⟨⟨_, _, rfl⟩, rfl⟩ rfl rfl rfl rfl hm249 rfl rfl (fun _ => ⟨_, _, rfl, rfl⟩) rfl (Wp.mono h ?_)
  rintro _ m1 ⟨r1, rfl, h⟩
  change Wp _ _ 5 _ [.inl r1] _ _
  refine w_if_eq (q := 8) (X := r1.toInt) hm257 ⟨⟨_, _, rfl⟩, rfl⟩ rfl (fun hc => ?_) (fun hc => ?_)
  · have h := h.1 hc
    exact Wp.wk [false, false, false] h
  · have h := h.2 hc
    refine w_aload_n (q := 9) hm257 ⟨⟨_, _, rfl⟩, rfl⟩ rfl ?_
    refine w_getr (q := 12) hm257 ⟨⟨_, _, rfl⟩, rfl⟩ rfl ?_
    refine w_getf (q := 15) (v := (m1.1 47 3)) hm257 ⟨⟨_, _, rfl⟩, rfl⟩ rfl rfl ?_
    refine w_iload_n (q := 16) hm257 ⟨⟨_, _, rfl⟩, rfl⟩ rfl ?_
    refine w_call (q := 19) (n := 0) (vs := [.inl (m1.1 47 3), .inl x1]) (rest := []) (la := [oI (m1.1 47 3), oI x1]) hm257 ⟨⟨_, _, rfl⟩, rfl⟩ rfl rfl rfl rfl hm283 rfl rfl (fun hz => absurd hz (by decide)) rfl (Wp.mono h ?_)
    rintro _ m2 ⟨r2, rfl, h⟩
    change Wp _ _ 19 _ [.inl r2] _ _
    refine w_if_ne (q := 22) (X := r2.toInt) hm257 ⟨⟨_, _, rfl⟩, rfl⟩ rfl (fun hc => ?_) (fun hc => ?_)
    · have h := h.1 hc
      exact Wp.wk [false, false, false] h
    · have h := h.2 hc
      refine w_aload_n (q := 23) hm257 ⟨⟨_, _, rfl⟩, rfl⟩ rfl ?_
      refine w_getr (q := 26) hm257 ⟨⟨_, _, rfl⟩, rfl⟩ rfl ?_
      refine w_getf (q := 29) (v := (m2.1 47 4)) hm257 ⟨⟨_, _, rfl⟩, rfl⟩ rfl rfl ?_
      refine w_iload_n (q := 30) hm257 ⟨⟨_, _, rfl⟩, rfl⟩ rfl ?_
      refine w_call (q := 33) (n := 0) (vs := [.inl (m2.1 47 4), .inl x1]) (rest := []) (la := [oI (m2.1 47 4), oI x1]) hm257 ⟨⟨_, _, rfl⟩, rfl⟩ rfl rfl rfl rfl hm283 rfl rfl (fun hz => absurd hz (by decide)) rfl (Wp.mono h ?_)
      rintro _ m3 ⟨r3, rfl, h⟩
      change Wp _ _ 33 _ [.inl r3] _ _
      refine w_iload_n (q := 34) hm257 ⟨⟨_, _, rfl⟩, rfl⟩ rfl ?_
      refine w_icmp_ne (q := 37) (X := r3.toInt) (Y := x2.toInt) hm257 ⟨⟨_, _, rfl⟩, rfl⟩ rfl rfl (fun hc => ?_) (fun hc => ?_)
      · have h := h.1 hc
        refine w_aload_n (q := 40) hm257 ⟨⟨_, _, rfl⟩, rfl⟩ rfl ?_
        refine w_getr (q := 43) hm257 ⟨⟨_, _, rfl⟩, rfl⟩ rfl ?_
        refine w_aload_n (q := 44) hm257 ⟨⟨_, _, rfl⟩, rfl⟩ rfl ?_
        refine w_getr (q := 47) hm257 ⟨⟨_, _, rfl⟩, rfl⟩ rfl ?_
        refine w_call (q := 50) (n := 0) (vs := [.inr (.inr (some 51)), .inr (.inr (some 47))]) (rest := []) (la := [oR 51, oR 47]) hm257 ⟨⟨_, _, rfl⟩, rfl⟩ rfl rfl rfl rfl hm203 rfl rfl (fun _ => ⟨_, _, rfl, rfl⟩) rfl (Wp.mono h ?_)
        rintro _ m4 ⟨rfl, h⟩
        change Wp _ _ 50 _ [] _ _
        refine w_aload_n (q := 51) hm257 ⟨⟨_, _, rfl⟩, rfl⟩ rfl ?_
        refine w_getr (q := 54) hm257 ⟨⟨_, _, rfl⟩, rfl⟩ rfl ?_
        refine w_dup (q := 55) hm257 ⟨⟨_, _, rfl⟩, rfl⟩ rfl ?_
        refine w_getf (q := 58) (v := (m4.1 47 4)) hm257 ⟨⟨_, _, rfl⟩, rfl⟩ rfl rfl ?_
        refine w_iconst (q := 59) hm257 ⟨⟨_, _, rfl⟩, rfl⟩ iconst_1 ?_
        refine w_iload_n (q := 60) hm257 ⟨⟨_, _, rfl⟩, rfl⟩ rfl ?_
        refine w_ishl (q := 61) hm257 ⟨⟨_, _, rfl⟩, rfl⟩ ?_
        refine w_ixor (q := 62) hm257 ⟨⟨_, _, rfl⟩, rfl⟩ ?_
        refine w_putf (q := 65) hm257 ⟨⟨_, _, rfl⟩, rfl⟩ rfl rfl rfl ?_
        refine w_iconst (q := 66) hm257 ⟨⟨_, _, rfl⟩, rfl⟩ iconst_1 ?_
        exact w_retz hm257 ⟨⟨_, _, rfl⟩, rfl⟩ rfl (by decide) h
      · have h := h.2 hc
        exact Wp.wk [false, false, false] h
theorem v_X11_pin_0_37 {d : Nat} {m : dM} {Q : Int32 → dM → Prop} (h : Q (0 : Int32) m) : j_X11_pin_0_37 (d + 1) m Q := by
  refine w_iconst (q := 38) hm257 ⟨⟨_, _, rfl⟩, rfl⟩ iconst_0 ?_
  exact w_retz hm257 ⟨⟨_, _, rfl⟩, rfl⟩ rfl (by decide) h
theorem v_X12_pin_70 {d : Nat} {x1 : Int32} {x2 : Int32} {m : dM} {Q : Int32 → dM → Prop} (h : c_X12_isWire_70 d x1 m (fun r1 m1 => ((r1.toInt = 0 → j_X12_pin_70_43 (d + 1) m1 Q) ∧ (r1.toInt ≠ 0 → ((0 ≤ ((10 : Int32) + x1).toInt ∧ ((10 : Int32) + x1).toInt < 58) ∧ (((m1.1 107 ((10 : Int32) + x1).toNatClampNeg).toInt = 1 → j_X12_pin_70_43 (d + 1) m1 Q) ∧ ((m1.1 107 ((10 : Int32) + x1).toNatClampNeg).toInt ≠ 1 → ((0 ≤ ((30 : Int32) + x1).toInt ∧ ((30 : Int32) + x1).toInt < 58) ∧ (((m1.1 107 ((30 : Int32) + x1).toNatClampNeg).toInt ≠ 1 → ((0 ≠ x2.toInt → c_X12_copies_70 d m1 (fun m2 => ((x2.toInt = 0 → ((0 ≤ ((30 : Int32) + x1).toInt ∧ ((30 : Int32) + x1).toInt < 58) ∧ c_X12_records_70 d (dSet m2 108 ((30 : Int32) + x1).toNatClampNeg (0 : Int32)) (fun m3 => Q (1 : Int32) m3))) ∧ (x2.toInt ≠ 0 → ((0 ≤ ((30 : Int32) + x1).toInt ∧ ((30 : Int32) + x1).toInt < 58) ∧ c_X12_records_70 d (dSet m2 108 ((30 : Int32) + x1).toNatClampNeg (1 : Int32)) (fun m4 => Q (1 : Int32) m4)))))) ∧ (0 = x2.toInt → j_X12_pin_70_43 (d + 1) m1 Q))) ∧ ((m1.1 107 ((30 : Int32) + x1).toNatClampNeg).toInt = 1 → ((1 ≠ x2.toInt → c_X12_copies_70 d m1 (fun m5 => ((x2.toInt = 0 → ((0 ≤ ((30 : Int32) + x1).toInt ∧ ((30 : Int32) + x1).toInt < 58) ∧ c_X12_records_70 d (dSet m5 108 ((30 : Int32) + x1).toNatClampNeg (0 : Int32)) (fun m6 => Q (1 : Int32) m6))) ∧ (x2.toInt ≠ 0 → ((0 ≤ ((30 : Int32) + x1).toInt ∧ ((30 : Int32) + x1).toInt < 58) ∧ c_X12_records_70 d (dSet m5 108 ((30 : Int32) + x1).toNatClampNeg (1 : Int32)) (fun m7 => Q (1 : Int32) m7)))))) ∧ (1 = x2.toInt → j_X12_pin_70_43 (d + 1) m1 Q)))))))))))) : c_X12_pin_70 (d + 1) x1 x2 m Q := by
  refine w_aload_n (q := 1) hm77 ⟨⟨_, _, rfl⟩, rfl⟩ rfl ?_
  refine w_iload_n (q := 2) hm77 ⟨⟨_, _, rfl⟩, rfl⟩ rfl ?_
  refine w_call (q := 5) (n := 0) (vs := [.inr (.inr (some 70)), .inl x1]) (rest := []) (la := [oR 70, oI x1]) hm77 ⟨⟨_, _, rfl⟩, rfl⟩ rfl rfl rfl rfl hm40 rfl rfl (fun _ => ⟨_, _, rfl, rfl⟩) rfl (Wp.mono h ?_)
  rintro _ m1 ⟨r1, rfl, h⟩
  change Wp _ _ 5 _ [.inl r1] _ _
  refine w_if_eq (q := 8) (X := r1.toInt) hm77 ⟨⟨_, _, rfl⟩, rfl⟩ rfl (fun hc => ?_) (fun hc => ?_)
  · have h := h.1 hc
    exact Wp.wk [false, false, false] h
  · have h := h.2 hc
    refine w_aload_n (q := 9) hm77 ⟨⟨_, _, rfl⟩, rfl⟩ rfl ?_
    refine w_getr (q := 12) hm77 ⟨⟨_, _, rfl⟩, rfl⟩ rfl ?_
    refine w_bipush (q := 14) hm77 ⟨⟨_, _, rfl⟩, rfl⟩ bipush_10 ?_
    refine w_iload_n (q := 15) hm77 ⟨⟨_, _, rfl⟩, rfl⟩ rfl ?_
    refine w_iadd (q := 16) hm77 ⟨⟨_, _, rfl⟩, rfl⟩ ?_
    obtain ⟨hi, h⟩ := h
    refine w_iald (q := 17) (v := (m1.1 107 ((10 : Int32) + x1).toNatClampNeg)) hm77 ⟨⟨_, _, rfl⟩, rfl⟩ rfl hi rfl rfl ?_
    refine w_iconst (q := 18) hm77 ⟨⟨_, _, rfl⟩, rfl⟩ iconst_1 ?_
    refine w_icmp_eq (q := 21) (X := (m1.1 107 ((10 : Int32) + x1).toNatClampNeg).toInt) (Y := 1) hm77 ⟨⟨_, _, rfl⟩, rfl⟩ rfl (by decide) (fun hc => ?_) (fun hc => ?_)
    · have h := h.1 hc
      exact Wp.wk [false, false, false] h
    · have h := h.2 hc
      refine w_aload_n (q := 22) hm77 ⟨⟨_, _, rfl⟩, rfl⟩ rfl ?_
      refine w_getr (q := 25) hm77 ⟨⟨_, _, rfl⟩, rfl⟩ rfl ?_
      refine w_bipush (q := 27) hm77 ⟨⟨_, _, rfl⟩, rfl⟩ bipush_30 ?_
      refine w_iload_n (q := 28) hm77 ⟨⟨_, _, rfl⟩, rfl⟩ rfl ?_
      refine w_iadd (q := 29) hm77 ⟨⟨_, _, rfl⟩, rfl⟩ ?_
      obtain ⟨hi, h⟩ := h
      refine w_iald (q := 30) (v := (m1.1 107 ((30 : Int32) + x1).toNatClampNeg)) hm77 ⟨⟨_, _, rfl⟩, rfl⟩ rfl hi rfl rfl ?_
      refine w_iconst (q := 31) hm77 ⟨⟨_, _, rfl⟩, rfl⟩ iconst_1 ?_
      refine w_icmp_ne (q := 34) (X := (m1.1 107 ((30 : Int32) + x1).toNatClampNeg).toInt) (Y := 1) hm77 ⟨⟨_, _, rfl⟩, rfl⟩ rfl (by decide) (fun hc => ?_) (fun hc => ?_)
      · have h := h.1 hc
        refine w_iconst (q := 39) hm77 ⟨⟨_, _, rfl⟩, rfl⟩ iconst_0 ?_
        refine w_iload_n (q := 40) hm77 ⟨⟨_, _, rfl⟩, rfl⟩ rfl ?_
        refine w_icmp_ne (q := 43) (X := 0) (Y := x2.toInt) hm77 ⟨⟨_, _, rfl⟩, rfl⟩ (by decide) rfl (fun hc => ?_) (fun hc => ?_)
        · have h := h.1 hc
          refine w_aload_n (q := 46) hm77 ⟨⟨_, _, rfl⟩, rfl⟩ rfl ?_
          refine w_call (q := 49) (n := 1) (vs := [.inr (.inr (some 70))]) (rest := []) (la := [oR 70, none]) hm77 ⟨⟨_, _, rfl⟩, rfl⟩ rfl rfl rfl rfl hm44 rfl rfl (fun _ => ⟨_, _, rfl, rfl⟩) rfl (Wp.mono h ?_)
          rintro _ m2 ⟨rfl, h⟩
          change Wp _ _ 49 _ [] _ _
          refine w_aload_n (q := 50) hm77 ⟨⟨_, _, rfl⟩, rfl⟩ rfl ?_
          refine w_getr (q := 53) hm77 ⟨⟨_, _, rfl⟩, rfl⟩ rfl ?_
          refine w_bipush (q := 55) hm77 ⟨⟨_, _, rfl⟩, rfl⟩ bipush_30 ?_
          refine w_iload_n (q := 56) hm77 ⟨⟨_, _, rfl⟩, rfl⟩ rfl ?_
          refine w_iadd (q := 57) hm77 ⟨⟨_, _, rfl⟩, rfl⟩ ?_
          refine w_iload_n (q := 58) hm77 ⟨⟨_, _, rfl⟩, rfl⟩ rfl ?_
          refine w_if_eq (q := 61) (X := x2.toInt) hm77 ⟨⟨_, _, rfl⟩, rfl⟩ rfl (fun hc => ?_) (fun hc => ?_)
          · have h := h.1 hc
            refine w_iconst (q := 66) hm77 ⟨⟨_, _, rfl⟩, rfl⟩ iconst_0 ?_
            obtain ⟨hi, h⟩ := h
            refine w_iast (q := 67) hm77 ⟨⟨_, _, rfl⟩, rfl⟩ rfl hi rfl rfl ?_
            refine w_aload_n (q := 68) hm77 ⟨⟨_, _, rfl⟩, rfl⟩ rfl ?_
            refine w_call (q := 71) (n := 1) (vs := [.inr (.inr (some 70))]) (rest := []) (la := [oR 70, none]) hm77 ⟨⟨_, _, rfl⟩, rfl⟩ rfl rfl rfl rfl hm73 rfl rfl (fun _ => ⟨_, _, rfl, rfl⟩) rfl (Wp.mono h ?_)
            rintro _ m3 ⟨rfl, h⟩
            change Wp _ _ 71 _ [] _ _
            refine w_iconst (q := 72) hm77 ⟨⟨_, _, rfl⟩, rfl⟩ iconst_1 ?_
            exact w_retz hm77 ⟨⟨_, _, rfl⟩, rfl⟩ rfl (by decide) h
          · have h := h.2 hc
            refine w_iconst (q := 62) hm77 ⟨⟨_, _, rfl⟩, rfl⟩ iconst_1 ?_
            refine w_goto (q := 66) hm77 ⟨_, _, rfl⟩ ?_
            obtain ⟨hi, h⟩ := h
            refine w_iast (q := 67) hm77 ⟨⟨_, _, rfl⟩, rfl⟩ rfl hi rfl rfl ?_
            refine w_aload_n (q := 68) hm77 ⟨⟨_, _, rfl⟩, rfl⟩ rfl ?_
            refine w_call (q := 71) (n := 1) (vs := [.inr (.inr (some 70))]) (rest := []) (la := [oR 70, none]) hm77 ⟨⟨_, _, rfl⟩, rfl⟩ rfl rfl rfl rfl hm73 rfl rfl (fun _ => ⟨_, _, rfl, rfl⟩) rfl (Wp.mono h ?_)
            rintro _ m4 ⟨rfl, h⟩
            change Wp _ _ 71 _ [] _ _
            refine w_iconst (q := 72) hm77 ⟨⟨_, _, rfl⟩, rfl⟩ iconst_1 ?_
            exact w_retz hm77 ⟨⟨_, _, rfl⟩, rfl⟩ rfl (by decide) h
        · have h := h.2 hc
          exact Wp.wk [false, false, false] h
      · have h := h.2 hc
        refine w_iconst (q := 35) hm77 ⟨⟨_, _, rfl⟩, rfl⟩ iconst_1 ?_
        refine w_goto (q := 39) hm77 ⟨_, _, rfl⟩ ?_
        refine w_iload_n (q := 40) hm77 ⟨⟨_, _, rfl⟩, rfl⟩ rfl ?_
        refine w_icmp_ne (q := 43) (X := 1) (Y := x2.toInt) hm77 ⟨⟨_, _, rfl⟩, rfl⟩ (by decide) rfl (fun hc => ?_) (fun hc => ?_)
        · have h := h.1 hc
          refine w_aload_n (q := 46) hm77 ⟨⟨_, _, rfl⟩, rfl⟩ rfl ?_
          refine w_call (q := 49) (n := 1) (vs := [.inr (.inr (some 70))]) (rest := []) (la := [oR 70, none]) hm77 ⟨⟨_, _, rfl⟩, rfl⟩ rfl rfl rfl rfl hm44 rfl rfl (fun _ => ⟨_, _, rfl, rfl⟩) rfl (Wp.mono h ?_)
          rintro _ m5 ⟨rfl, h⟩
          change Wp _ _ 49 _ [] _ _
          refine w_aload_n (q := 50) hm77 ⟨⟨_, _, rfl⟩, rfl⟩ rfl ?_
          refine w_getr (q := 53) hm77 ⟨⟨_, _, rfl⟩, rfl⟩ rfl ?_
          refine w_bipush (q := 55) hm77 ⟨⟨_, _, rfl⟩, rfl⟩ bipush_30 ?_
          refine w_iload_n (q := 56) hm77 ⟨⟨_, _, rfl⟩, rfl⟩ rfl ?_
          refine w_iadd (q := 57) hm77 ⟨⟨_, _, rfl⟩, rfl⟩ ?_
          refine w_iload_n (q := 58) hm77 ⟨⟨_, _, rfl⟩, rfl⟩ rfl ?_
          refine w_if_eq (q := 61) (X := x2.toInt) hm77 ⟨⟨_, _, rfl⟩, rfl⟩ rfl (fun hc => ?_) (fun hc => ?_)
          · have h := h.1 hc
            refine w_iconst (q := 66) hm77 ⟨⟨_, _, rfl⟩, rfl⟩ iconst_0 ?_
            obtain ⟨hi, h⟩ := h
            refine w_iast (q := 67) hm77 ⟨⟨_, _, rfl⟩, rfl⟩ rfl hi rfl rfl ?_
            refine w_aload_n (q := 68) hm77 ⟨⟨_, _, rfl⟩, rfl⟩ rfl ?_
            refine w_call (q := 71) (n := 1) (vs := [.inr (.inr (some 70))]) (rest := []) (la := [oR 70, none]) hm77 ⟨⟨_, _, rfl⟩, rfl⟩ rfl rfl rfl rfl hm73 rfl rfl (fun _ => ⟨_, _, rfl, rfl⟩) rfl (Wp.mono h ?_)
            rintro _ m6 ⟨rfl, h⟩
            change Wp _ _ 71 _ [] _ _
            refine w_iconst (q := 72) hm77 ⟨⟨_, _, rfl⟩, rfl⟩ iconst_1 ?_
            exact w_retz hm77 ⟨⟨_, _, rfl⟩, rfl⟩ rfl (by decide) h
          · have h := h.2 hc
            refine w_iconst (q := 62) hm77 ⟨⟨_, _, rfl⟩, rfl⟩ iconst_1 ?_
            refine w_goto (q := 66) hm77 ⟨_, _, rfl⟩ ?_
            obtain ⟨hi, h⟩ := h
            refine w_iast (q := 67) hm77 ⟨⟨_, _, rfl⟩, rfl⟩ rfl hi rfl rfl ?_
            refine w_aload_n (q := 68) hm77 ⟨⟨_, _, rfl⟩, rfl⟩ rfl ?_
            refine w_call (q := 71) (n := 1) (vs := [.inr (.inr (some 70))]) (rest := []) (la := [oR 70, none]) hm77 ⟨⟨_, _, rfl⟩, rfl⟩ rfl rfl rfl rfl hm73 rfl rfl (fun _ => ⟨_, _, rfl, rfl⟩) rfl (Wp.mono h ?_)
            rintro _ m7 ⟨rfl, h⟩
            change Wp _ _ 71 _ [] _ _
            refine w_iconst (q := 72) hm77 ⟨⟨_, _, rfl⟩, rfl⟩ iconst_1 ?_
            exact w_retz hm77 ⟨⟨_, _, rfl⟩, rfl⟩ rfl (by decide) h
        · have h := h.2 hc
          exact Wp.wk [false, false, false] h
theorem v_X12_pin_70_43 {d : Nat} {m : dM} {Q : Int32 → dM → Prop} (h : Q (0 : Int32) m) : j_X12_pin_70_43 (d + 1) m Q := by
  refine w_iconst (q := 44) hm77 ⟨⟨_, _, rfl⟩, rfl⟩ iconst_0 ?_
  exact w_retz hm77 ⟨⟨_, _, rfl⟩, rfl⟩ rfl (by decide) h
theorem v_X0_takePay_54_47 {d : Nat} {m : dM} {Q : dM → Prop} (h : c_X7_hourOfDay_47 d m (fun r1 m1 => c_X0_usesAt_54_47 d r1 m1 (fun r2 m2 => j_X0_takePay_54_47_12 (d + 1) r2 (0 : Int32) m2 Q))) : c_X0_takePay_54_47 (d + 1) m Q := by
  refine w_aload_n (q := 1) hm135 ⟨⟨_, _, rfl⟩, rfl⟩ rfl ?_
  refine w_aload_n (q := 2) hm135 ⟨⟨_, _, rfl⟩, rfl⟩ rfl ?_
  refine w_aload_n (q := 3) hm135 ⟨⟨_, _, rfl⟩, rfl⟩ rfl ?_
  refine w_call (q := 6) (n := 0) (vs := [.inr (.inr (some 47))]) (rest := [.inr (.inr (some 47)), .inr (.inr (some 54))]) (la := [oR 47]) hm135 ⟨⟨_, _, rfl⟩, rfl⟩ rfl rfl rfl rfl hm212 rfl rfl (fun _ => ⟨_, _, rfl, rfl⟩) rfl (Wp.mono h ?_)
  rintro _ m1 ⟨r1, rfl, h⟩
  change Wp _ _ 6 _ [.inl r1, .inr (.inr (some 47)), .inr (.inr (some 54))] _ _
  refine w_call (q := 9) (n := 3) (vs := [.inr (.inr (some 54)), .inr (.inr (some 47)), .inl r1]) (rest := []) (la := [oR 54, oR 47, oI r1, none, none, none]) hm135 ⟨⟨_, _, rfl⟩, rfl⟩ rfl rfl rfl rfl hm118 rfl rfl (fun _ => ⟨_, _, rfl, rfl⟩) rfl (Wp.mono h ?_)
  rintro _ m2 ⟨r2, rfl, h⟩
  change Wp _ _ 9 _ [.inl r2] _ _
  refine w_istore_n (q := 10) (l' := [oR 54, oR 47, oI r2, none]) hm135 ⟨⟨_, _, rfl⟩, rfl⟩ rfl rfl rfl ?_
  refine w_iconst (q := 11) hm135 ⟨⟨_, _, rfl⟩, rfl⟩ iconst_0 ?_
  refine w_istore_n (q := 12) (l' := [oR 54, oR 47, oI r2, oI (0 : Int32)]) hm135 ⟨⟨_, _, rfl⟩, rfl⟩ rfl rfl rfl ?_
  exact h
theorem v_X0_takePay_54_47_12 {d : Nat} {x2 : Int32} {x3 : Int32} {m : dM} {Q : dM → Prop} (h : (((m.1 2 2).toInt ≤ x3.toInt → Q m) ∧ (x3.toInt < (m.1 2 2).toInt → c_X11_has d x2 x3 m (fun r1 m1 => ((r1.toInt = 0 → j_X0_takePay_54_47_51 (d + 1) x2 x3 m1 Q) ∧ (r1.toInt ≠ 0 → c_X0_payOf_54_47 d x3 m1 (fun r2 m2 => j_X0_takePay_54_47_51 (d + 1) x2 x3 (dSet m2 47 1 (if ((m1.1 47 1) + r2) < (99999 : Int32) then ((m1.1 47 1) + r2) else (99999 : Int32))) Q))))))) : j_X0_takePay_54_47_12 (d + 1) x2 x3 m Q := by
  refine w_iload_n (q := 13) hm135 ⟨⟨_, _, rfl⟩, rfl⟩ rfl ?_
  refine w_aload_n (q := 14) hm135 ⟨⟨_, _, rfl⟩, rfl⟩ rfl ?_
  refine w_getr (q := 17) hm135 ⟨⟨_, _, rfl⟩, rfl⟩ rfl ?_
  refine w_getf (q := 20) (v := (m.1 2 2)) hm135 ⟨⟨_, _, rfl⟩, rfl⟩ rfl rfl ?_
  refine w_icmp_ge (q := 23) (X := x3.toInt) (Y := (m.1 2 2).toInt) hm135 ⟨⟨_, _, rfl⟩, rfl⟩ rfl rfl (fun hc => ?_) (fun hc => ?_)
  · have h := h.1 hc
    exact w_retv hm135 ⟨⟨_, _, rfl⟩, rfl⟩ rfl h
  · have h := h.2 hc
    refine w_iload_n (q := 24) hm135 ⟨⟨_, _, rfl⟩, rfl⟩ rfl ?_
    refine w_iload_n (q := 25) hm135 ⟨⟨_, _, rfl⟩, rfl⟩ rfl ?_
    refine w_call (q := 28) (n := 0) (vs := [.inl x2, .inl x3]) (rest := []) (la := [oI x2, oI x3]) hm135 ⟨⟨_, _, rfl⟩, rfl⟩ rfl rfl rfl rfl hm283 rfl rfl (fun hz => absurd hz (by decide)) rfl (Wp.mono h ?_)
    rintro _ m1 ⟨r1, rfl, h⟩
    change Wp _ _ 28 _ [.inl r1] _ _
    refine w_if_eq (q := 31) (X := r1.toInt) hm135 ⟨⟨_, _, rfl⟩, rfl⟩ rfl (fun hc => ?_) (fun hc => ?_)
    · have h := h.1 hc
      exact h
    · have h := h.2 hc
      refine w_aload_n (q := 32) hm135 ⟨⟨_, _, rfl⟩, rfl⟩ rfl ?_
      refine w_ldc (q := 34) hm135 ⟨⟨_, _, rfl⟩, rfl⟩ ldc_99999 ?_
      refine w_aload_n (q := 35) hm135 ⟨⟨_, _, rfl⟩, rfl⟩ rfl ?_
      refine w_getf (q := 38) (v := (m1.1 47 1)) hm135 ⟨⟨_, _, rfl⟩, rfl⟩ rfl rfl ?_
      refine w_aload_n (q := 39) hm135 ⟨⟨_, _, rfl⟩, rfl⟩ rfl ?_
      refine w_aload_n (q := 40) hm135 ⟨⟨_, _, rfl⟩, rfl⟩ rfl ?_
      refine w_iload_n (q := 41) hm135 ⟨⟨_, _, rfl⟩, rfl⟩ rfl ?_
      refine w_call (q := 44) (n := 0) (vs := [.inr (.inr (some 54)), .inr (.inr (some 47)), .inl x3]) (rest := [.inl (m1.1 47 1), .inl (99999 : Int32), .inr (.inr (some 47))]) (la := [oR 54, oR 47, oI x3]) hm135 ⟨⟨_, _, rfl⟩, rfl⟩ rfl rfl rfl rfl hm129 rfl rfl (fun _ => ⟨_, _, rfl, rfl⟩) rfl (Wp.mono h ?_)
      rintro _ m2 ⟨r2, rfl, h⟩
      change Wp _ _ 44 _ [.inl r2, .inl (m1.1 47 1), .inl (99999 : Int32), .inr (.inr (some 47))] _ _
      refine w_iadd (q := 45) hm135 ⟨⟨_, _, rfl⟩, rfl⟩ ?_
      refine w_min (q := 48) hm135 ⟨⟨_, _, rfl⟩, rfl⟩ rfl rfl ?_
      refine w_putf (q := 51) hm135 ⟨⟨_, _, rfl⟩, rfl⟩ rfl rfl rfl ?_
      exact h
theorem v_X0_takePay_54_47_51 {d : Nat} {x2 : Int32} {x3 : Int32} {m : dM} {Q : dM → Prop} (h : j_X0_takePay_54_47_12 (d + 1) x2 (x3 + (1 : Int32)) m Q) : j_X0_takePay_54_47_51 (d + 1) x2 x3 m Q := by
  refine w_iinc (q := 54) (l' := [oR 54, oR 47, oI x2, oI (x3 + (1 : Int32))]) hm135 ⟨⟨_, _, rfl⟩, rfl⟩ rfl rfl rfl iconst_1 rfl ?_
  refine w_goto (q := 12) hm135 ⟨_, _, rfl⟩ ?_
  exact h
theorem v_X0_countQuarrels_54_47 {d : Nat} {m : dM} {Q : dM → Prop} (h : c_X10_lay_57 d (m.1 47 3) m (fun m1 => j_X0_countQuarrels_54_47_13 (d + 1) (0 : Int32) m1 Q)) : c_X0_countQuarrels_54_47 (d + 1) m Q := by
  refine w_aload_n (q := 1) hm136 ⟨⟨_, _, rfl⟩, rfl⟩ rfl ?_
  refine w_getr (q := 4) hm136 ⟨⟨_, _, rfl⟩, rfl⟩ rfl ?_
  refine w_aload_n (q := 5) hm136 ⟨⟨_, _, rfl⟩, rfl⟩ rfl ?_
  refine w_getf (q := 8) (v := (m.1 47 3)) hm136 ⟨⟨_, _, rfl⟩, rfl⟩ rfl rfl ?_
  refine w_call (q := 11) (n := 3) (vs := [.inr (.inr (some 57)), .inl (m.1 47 3)]) (rest := []) (la := [oR 57, oI (m.1 47 3), none, none, none]) hm136 ⟨⟨_, _, rfl⟩, rfl⟩ rfl rfl rfl rfl hm239 rfl rfl (fun _ => ⟨_, _, rfl, rfl⟩) rfl (Wp.mono h ?_)
  rintro _ m1 ⟨rfl, h⟩
  change Wp _ _ 11 _ [] _ _
  refine w_iconst (q := 12) hm136 ⟨⟨_, _, rfl⟩, rfl⟩ iconst_0 ?_
  refine w_istore_n (q := 13) (l' := [oR 54, oR 47, oI (0 : Int32)]) hm136 ⟨⟨_, _, rfl⟩, rfl⟩ rfl rfl rfl ?_
  exact h
theorem v_X0_countQuarrels_54_47_13 {d : Nat} {x2 : Int32} {m : dM} {Q : dM → Prop} (h : (((m.1 2 0).toInt ≤ x2.toInt → Q m) ∧ (x2.toInt < (m.1 2 0).toInt → c_X11_has d (m.1 57 5) x2 m (fun r1 m1 => ((r1.toInt = 0 → c_X0_quarrelOf_54_47 d x2 m1 (fun r2 m2 => ((0 ≤ x2.toInt ∧ x2.toInt < 7) ∧ ((0 ≤ x2.toInt ∧ x2.toInt < 7) ∧ j_X0_countQuarrels_54_47_78 (d + 1) x2 (dSet (dSet m2 47 2 (if ((m1.1 47 2) + r2) < (999999 : Int32) then ((m1.1 47 2) + r2) else (999999 : Int32))) 50 x2.toNatClampNeg ((m2.1 50 x2.toNatClampNeg) + (1 : Int32))) Q)))) ∧ (r1.toInt ≠ 0 → ((0 ≤ x2.toInt ∧ x2.toInt < 7) ∧ j_X0_countQuarrels_54_47_78 (d + 1) x2 (dSet m1 50 x2.toNatClampNeg (0 : Int32)) Q))))))) : j_X0_countQuarrels_54_47_13 (d + 1) x2 m Q := by
  refine w_iload_n (q := 14) hm136 ⟨⟨_, _, rfl⟩, rfl⟩ rfl ?_
  refine w_aload_n (q := 15) hm136 ⟨⟨_, _, rfl⟩, rfl⟩ rfl ?_
  refine w_getr (q := 18) hm136 ⟨⟨_, _, rfl⟩, rfl⟩ rfl ?_
  refine w_getf (q := 21) (v := (m.1 2 0)) hm136 ⟨⟨_, _, rfl⟩, rfl⟩ rfl rfl ?_
  refine w_icmp_ge (q := 24) (X := x2.toInt) (Y := (m.1 2 0).toInt) hm136 ⟨⟨_, _, rfl⟩, rfl⟩ rfl rfl (fun hc => ?_) (fun hc => ?_)
  · have h := h.1 hc
    exact w_retv hm136 ⟨⟨_, _, rfl⟩, rfl⟩ rfl h
  · have h := h.2 hc
    refine w_aload_n (q := 25) hm136 ⟨⟨_, _, rfl⟩, rfl⟩ rfl ?_
    refine w_getr (q := 28) hm136 ⟨⟨_, _, rfl⟩, rfl⟩ rfl ?_
    refine w_getf (q := 31) (v := (m.1 57 5)) hm136 ⟨⟨_, _, rfl⟩, rfl⟩ rfl rfl ?_
    refine w_iload_n (q := 32) hm136 ⟨⟨_, _, rfl⟩, rfl⟩ rfl ?_
    refine w_call (q := 35) (n := 0) (vs := [.inl (m.1 57 5), .inl x2]) (rest := []) (la := [oI (m.1 57 5), oI x2]) hm136 ⟨⟨_, _, rfl⟩, rfl⟩ rfl rfl rfl rfl hm283 rfl rfl (fun hz => absurd hz (by decide)) rfl (Wp.mono h ?_)
    rintro _ m1 ⟨r1, rfl, h⟩
    change Wp _ _ 35 _ [.inl r1] _ _
    refine w_if_eq (q := 38) (X := r1.toInt) hm136 ⟨⟨_, _, rfl⟩, rfl⟩ rfl (fun hc => ?_) (fun hc => ?_)
    · have h := h.1 hc
      refine w_aload_n (q := 49) hm136 ⟨⟨_, _, rfl⟩, rfl⟩ rfl ?_
      refine w_ldc (q := 51) hm136 ⟨⟨_, _, rfl⟩, rfl⟩ ldc_999999 ?_
      refine w_aload_n (q := 52) hm136 ⟨⟨_, _, rfl⟩, rfl⟩ rfl ?_
      refine w_getf (q := 55) (v := (m1.1 47 2)) hm136 ⟨⟨_, _, rfl⟩, rfl⟩ rfl rfl ?_
      refine w_aload_n (q := 56) hm136 ⟨⟨_, _, rfl⟩, rfl⟩ rfl ?_
      refine w_aload_n (q := 57) hm136 ⟨⟨_, _, rfl⟩, rfl⟩ rfl ?_
      refine w_iload_n (q := 58) hm136 ⟨⟨_, _, rfl⟩, rfl⟩ rfl ?_
      refine w_call (q := 61) (n := 0) (vs := [.inr (.inr (some 54)), .inr (.inr (some 47)), .inl x2]) (rest := [.inl (m1.1 47 2), .inl (999999 : Int32), .inr (.inr (some 47))]) (la := [oR 54, oR 47, oI x2]) hm136 ⟨⟨_, _, rfl⟩, rfl⟩ rfl rfl rfl rfl hm127 rfl rfl (fun _ => ⟨_, _, rfl, rfl⟩) rfl (Wp.mono h ?_)
      rintro _ m2 ⟨r2, rfl, h⟩
      change Wp _ _ 61 _ [.inl r2, .inl (m1.1 47 2), .inl (999999 : Int32), .inr (.inr (some 47))] _ _
      refine w_iadd (q := 62) hm136 ⟨⟨_, _, rfl⟩, rfl⟩ ?_
      refine w_min (q := 65) hm136 ⟨⟨_, _, rfl⟩, rfl⟩ rfl rfl ?_
      refine w_putf (q := 68) hm136 ⟨⟨_, _, rfl⟩, rfl⟩ rfl rfl rfl ?_
      refine w_aload_n (q := 69) hm136 ⟨⟨_, _, rfl⟩, rfl⟩ rfl ?_
      refine w_getr (q := 72) hm136 ⟨⟨_, _, rfl⟩, rfl⟩ rfl ?_
      refine w_iload_n (q := 73) hm136 ⟨⟨_, _, rfl⟩, rfl⟩ rfl ?_
      refine w_dup2 (q := 74) hm136 ⟨⟨_, _, rfl⟩, rfl⟩ rfl ?_
      obtain ⟨hi, h⟩ := h
      refine w_iald (q := 75) (v := (m2.1 50 x2.toNatClampNeg)) hm136 ⟨⟨_, _, rfl⟩, rfl⟩ rfl hi rfl rfl ?_
      refine w_iconst (q := 76) hm136 ⟨⟨_, _, rfl⟩, rfl⟩ iconst_1 ?_
      refine w_iadd (q := 77) hm136 ⟨⟨_, _, rfl⟩, rfl⟩ ?_
      obtain ⟨hi, h⟩ := h
      refine w_iast (q := 78) hm136 ⟨⟨_, _, rfl⟩, rfl⟩ rfl hi rfl rfl ?_
      exact h
    · have h := h.2 hc
      refine w_aload_n (q := 39) hm136 ⟨⟨_, _, rfl⟩, rfl⟩ rfl ?_
      refine w_getr (q := 42) hm136 ⟨⟨_, _, rfl⟩, rfl⟩ rfl ?_
      refine w_iload_n (q := 43) hm136 ⟨⟨_, _, rfl⟩, rfl⟩ rfl ?_
      refine w_iconst (q := 44) hm136 ⟨⟨_, _, rfl⟩, rfl⟩ iconst_0 ?_
      obtain ⟨hi, h⟩ := h
      refine w_iast (q := 45) hm136 ⟨⟨_, _, rfl⟩, rfl⟩ rfl hi rfl rfl ?_
      refine w_goto (q := 78) hm136 ⟨_, _, rfl⟩ ?_
      exact h
theorem v_X0_countQuarrels_54_47_78 {d : Nat} {x2 : Int32} {m : dM} {Q : dM → Prop} (h : j_X0_countQuarrels_54_47_13 (d + 1) (x2 + (1 : Int32)) m Q) : j_X0_countQuarrels_54_47_78 (d + 1) x2 m Q := by
  refine w_iinc (q := 81) (l' := [oR 54, oR 47, oI (x2 + (1 : Int32))]) hm136 ⟨⟨_, _, rfl⟩, rfl⟩ rfl rfl rfl iconst_1 rfl ?_
  refine w_goto (q := 13) hm136 ⟨_, _, rfl⟩ ?_
  exact h
theorem v_X0_stirred {d : Nat} {x0 : Int32} {x1 : Int32} {m : dM} {Q : Int32 → dM → Prop} (h : Q ((((x0 ^^^ x1) * (1103515245 : Int32)) + (12345 : Int32)) ^^^ ((((x0 ^^^ x1) * (1103515245 : Int32)) + (12345 : Int32)).toUInt32 >>> ((15 : Int32).toUInt32 &&& Int32.toUInt32 31)).toInt32) m) : c_X0_stirred (d + 1) x0 x1 m Q := by
  refine w_iload_n (q := 1) hm133 ⟨⟨_, _, rfl⟩, rfl⟩ rfl ?_
  refine w_iload_n (q := 2) hm133 ⟨⟨_, _, rfl⟩, rfl⟩ rfl ?_
  refine w_ixor (q := 3) hm133 ⟨⟨_, _, rfl⟩, rfl⟩ ?_
  refine w_ldc (q := 5) hm133 ⟨⟨_, _, rfl⟩, rfl⟩ ldc_1103515245 ?_
  refine w_imul (q := 6) hm133 ⟨⟨_, _, rfl⟩, rfl⟩ ?_
  refine w_sipush (q := 9) hm133 ⟨⟨_, _, rfl⟩, rfl⟩ sipush_12345 ?_
  refine w_iadd (q := 10) hm133 ⟨⟨_, _, rfl⟩, rfl⟩ ?_
  refine w_istore_n (q := 11) (l' := [oI x0, oI x1, oI (((x0 ^^^ x1) * (1103515245 : Int32)) + (12345 : Int32))]) hm133 ⟨⟨_, _, rfl⟩, rfl⟩ rfl rfl rfl ?_
  refine w_iload_n (q := 12) hm133 ⟨⟨_, _, rfl⟩, rfl⟩ rfl ?_
  refine w_iload_n (q := 13) hm133 ⟨⟨_, _, rfl⟩, rfl⟩ rfl ?_
  refine w_bipush (q := 15) hm133 ⟨⟨_, _, rfl⟩, rfl⟩ bipush_15 ?_
  refine w_iushr (q := 16) hm133 ⟨⟨_, _, rfl⟩, rfl⟩ ?_
  refine w_ixor (q := 17) hm133 ⟨⟨_, _, rfl⟩, rfl⟩ ?_
  exact w_reti hm133 ⟨⟨_, _, rfl⟩, rfl⟩ rfl h
theorem v_X0_lot {d : Nat} {x0 : Int32} {x1 : Int32} {x2 : Int32} {m : dM} {Q : Int32 → dM → Prop} (h : c_X0_stirred d x1 (129 : Int32) m (fun r1 m1 => c_X0_stirred d r1 x2 m1 (fun r2 m2 => ((x0.toInt ≤ 0 → Q (0 : Int32) m2) ∧ (0 < x0.toInt → (x0 ≠ 0 ∧ Q ((r2.toUInt32 >>> ((1 : Int32).toUInt32 &&& Int32.toUInt32 31)).toInt32 - (r2.toUInt32 >>> ((1 : Int32).toUInt32 &&& Int32.toUInt32 31)).toInt32 / x0 * x0) m2)))))) : c_X0_lot (d + 1) x0 x1 x2 m Q := by
  refine w_iload_n (q := 1) hm132 ⟨⟨_, _, rfl⟩, rfl⟩ rfl ?_
  refine w_sipush (q := 4) hm132 ⟨⟨_, _, rfl⟩, rfl⟩ sipush_129 ?_
  refine w_call (q := 7) (n := 1) (vs := [.inl x1, .inl (129 : Int32)]) (rest := []) (la := [oI x1, oI (129 : Int32), none]) hm132 ⟨⟨_, _, rfl⟩, rfl⟩ rfl rfl rfl rfl hm133 rfl rfl (fun hz => absurd hz (by decide)) rfl (Wp.mono h ?_)
  rintro _ m1 ⟨r1, rfl, h⟩
  change Wp _ _ 7 _ [.inl r1] _ _
  refine w_iload_n (q := 8) hm132 ⟨⟨_, _, rfl⟩, rfl⟩ rfl ?_
  refine w_call (q := 11) (n := 1) (vs := [.inl r1, .inl x2]) (rest := []) (la := [oI r1, oI x2, none]) hm132 ⟨⟨_, _, rfl⟩, rfl⟩ rfl rfl rfl rfl hm133 rfl rfl (fun hz => absurd hz (by decide)) rfl (Wp.mono h ?_)
  rintro _ m2 ⟨r2, rfl, h⟩
  change Wp _ _ 11 _ [.inl r2] _ _
  refine w_istore_n (q := 12) (l' := [oI x0, oI x1, oI x2, oI r2]) hm132 ⟨⟨_, _, rfl⟩, rfl⟩ rfl rfl rfl ?_
  refine w_iload_n (q := 13) hm132 ⟨⟨_, _, rfl⟩, rfl⟩ rfl ?_
  refine w_if_le (q := 16) (X := x0.toInt) hm132 ⟨⟨_, _, rfl⟩, rfl⟩ rfl (fun hc => ?_) (fun hc => ?_)
  · have h := h.1 hc
    refine w_iconst (q := 25) hm132 ⟨⟨_, _, rfl⟩, rfl⟩ iconst_0 ?_
    exact w_reti hm132 ⟨⟨_, _, rfl⟩, rfl⟩ rfl h
  · have h := h.2 hc
    refine w_iload_n (q := 17) hm132 ⟨⟨_, _, rfl⟩, rfl⟩ rfl ?_
    refine w_iconst (q := 18) hm132 ⟨⟨_, _, rfl⟩, rfl⟩ iconst_1 ?_
    refine w_iushr (q := 19) hm132 ⟨⟨_, _, rfl⟩, rfl⟩ ?_
    refine w_iload_n (q := 20) hm132 ⟨⟨_, _, rfl⟩, rfl⟩ rfl ?_
    obtain ⟨hz, h⟩ := h
    refine w_irem (q := 21) hm132 ⟨⟨_, _, rfl⟩, rfl⟩ hz ?_
    refine w_goto (q := 25) hm132 ⟨_, _, rfl⟩ ?_
    exact w_reti hm132 ⟨⟨_, _, rfl⟩, rfl⟩ rfl h
theorem v_X0_isSurge_54 {d : Nat} {x1 : Int32} {x2 : Int32} {m : dM} {Q : Int32 → dM → Prop} (h : c_X0_lot d (100 : Int32) x1 ((4 : Int32) * x2) m (fun r1 m1 => (((m1.1 2 3).toInt ≤ r1.toInt → Q (0 : Int32) m1) ∧ (r1.toInt < (m1.1 2 3).toInt → Q (1 : Int32) m1)))) : c_X0_isSurge_54 (d + 1) x1 x2 m Q := by
  refine w_bipush (q := 2) hm130 ⟨⟨_, _, rfl⟩, rfl⟩ bipush_100 ?_
  refine w_iload_n (q := 3) hm130 ⟨⟨_, _, rfl⟩, rfl⟩ rfl ?_
  refine w_iconst (q := 4) hm130 ⟨⟨_, _, rfl⟩, rfl⟩ iconst_4 ?_
  refine w_iload_n (q := 5) hm130 ⟨⟨_, _, rfl⟩, rfl⟩ rfl ?_
  refine w_imul (q := 6) hm130 ⟨⟨_, _, rfl⟩, rfl⟩ ?_
  refine w_call (q := 9) (n := 1) (vs := [.inl (100 : Int32), .inl x1, .inl ((4 : Int32) * x2)]) (rest := []) (la := [oI (100 : Int32), oI x1, oI ((4 : Int32) * x2), none]) hm130 ⟨⟨_, _, rfl⟩, rfl⟩ rfl rfl rfl rfl hm132 rfl rfl (fun hz => absurd hz (by decide)) rfl (Wp.mono h ?_)
  rintro _ m1 ⟨r1, rfl, h⟩
  change Wp _ _ 9 _ [.inl r1] _ _
  refine w_aload_n (q := 10) hm130 ⟨⟨_, _, rfl⟩, rfl⟩ rfl ?_
  refine w_getr (q := 13) hm130 ⟨⟨_, _, rfl⟩, rfl⟩ rfl ?_
  refine w_getf (q := 16) (v := (m1.1 2 3)) hm130 ⟨⟨_, _, rfl⟩, rfl⟩ rfl rfl ?_
  refine w_icmp_ge (q := 19) (X := r1.toInt) (Y := (m1.1 2 3).toInt) hm130 ⟨⟨_, _, rfl⟩, rfl⟩ rfl rfl (fun hc => ?_) (fun hc => ?_)
  · have h := h.1 hc
    refine w_iconst (q := 24) hm130 ⟨⟨_, _, rfl⟩, rfl⟩ iconst_0 ?_
    exact w_retz hm130 ⟨⟨_, _, rfl⟩, rfl⟩ rfl (by decide) h
  · have h := h.2 hc
    refine w_iconst (q := 20) hm130 ⟨⟨_, _, rfl⟩, rfl⟩ iconst_1 ?_
    refine w_goto (q := 24) hm130 ⟨_, _, rfl⟩ ?_
    exact w_retz hm130 ⟨⟨_, _, rfl⟩, rfl⟩ rfl (by decide) h
theorem v_X0_surgeOf_54 {d : Nat} {x1 : Int32} {x2 : Int32} {m : dM} {Q : Int32 → dM → Prop} (h : c_X0_isSurge_54 d x1 x2 m (fun r1 m1 => ((r1.toInt = 0 → Q (0 : Int32) m1) ∧ (r1.toInt ≠ 0 → Q (m1.1 2 4) m1)))) : c_X0_surgeOf_54 (d + 1) x1 x2 m Q := by
  refine w_aload_n (q := 1) hm131 ⟨⟨_, _, rfl⟩, rfl⟩ rfl ?_
  refine w_iload_n (q := 2) hm131 ⟨⟨_, _, rfl⟩, rfl⟩ rfl ?_
  refine w_iload_n (q := 3) hm131 ⟨⟨_, _, rfl⟩, rfl⟩ rfl ?_
  refine w_call (q := 6) (n := 0) (vs := [.inr (.inr (some 54)), .inl x1, .inl x2]) (rest := []) (la := [oR 54, oI x1, oI x2]) hm131 ⟨⟨_, _, rfl⟩, rfl⟩ rfl rfl rfl rfl hm130 rfl rfl (fun _ => ⟨_, _, rfl, rfl⟩) rfl (Wp.mono h ?_)
  rintro _ m1 ⟨r1, rfl, h⟩
  change Wp _ _ 6 _ [.inl r1] _ _
  refine w_if_eq (q := 9) (X := r1.toInt) hm131 ⟨⟨_, _, rfl⟩, rfl⟩ rfl (fun hc => ?_) (fun hc => ?_)
  · have h := h.1 hc
    refine w_iconst (q := 20) hm131 ⟨⟨_, _, rfl⟩, rfl⟩ iconst_0 ?_
    exact w_reti hm131 ⟨⟨_, _, rfl⟩, rfl⟩ rfl h
  · have h := h.2 hc
    refine w_aload_n (q := 10) hm131 ⟨⟨_, _, rfl⟩, rfl⟩ rfl ?_
    refine w_getr (q := 13) hm131 ⟨⟨_, _, rfl⟩, rfl⟩ rfl ?_
    refine w_getf (q := 16) (v := (m1.1 2 4)) hm131 ⟨⟨_, _, rfl⟩, rfl⟩ rfl rfl ?_
    refine w_goto (q := 20) hm131 ⟨_, _, rfl⟩ ?_
    exact w_reti hm131 ⟨⟨_, _, rfl⟩, rfl⟩ rfl h
theorem v_X0_passWires_54_47 {d : Nat} {x2 : Int32} {m : dM} {Q : Int32 → dM → Prop} (h : c_X7_hourOfDay_47 d m (fun r1 m1 => c_X0_usesAt_54_47 d r1 m1 (fun r2 m2 => c_X0_putOn_54_47 d r2 m2 (fun m3 => c_X7_hourOfDay_47 d m3 (fun r4 m4 => c_X0_going_54_47 d r4 x2 m4 (fun r5 m5 => j_X0_passWires_54_47_38 (d + 1) r5 (0 : Int32) (dSet m5 47 3 ((m5.1 47 3) ||| r5)) Q)))))) : c_X0_passWires_54_47 (d + 1) x2 m Q := by
  refine w_aload_n (q := 1) hm137 ⟨⟨_, _, rfl⟩, rfl⟩ rfl ?_
  refine w_aload_n (q := 2) hm137 ⟨⟨_, _, rfl⟩, rfl⟩ rfl ?_
  refine w_aload_n (q := 3) hm137 ⟨⟨_, _, rfl⟩, rfl⟩ rfl ?_
  refine w_aload_n (q := 4) hm137 ⟨⟨_, _, rfl⟩, rfl⟩ rfl ?_
  refine w_aload_n (q := 5) hm137 ⟨⟨_, _, rfl⟩, rfl⟩ rfl ?_
  refine w_call (q := 8) (n := 0) (vs := [.inr (.inr (some 47))]) (rest := [.inr (.inr (some 47)), .inr (.inr (some 54)), .inr (.inr (some 47)), .inr (.inr (some 54))]) (la := [oR 47]) hm137 ⟨⟨_, _, rfl⟩, rfl⟩ rfl rfl rfl rfl hm212 rfl rfl (fun _ => ⟨_, _, rfl, rfl⟩) rfl (Wp.mono h ?_)
  rintro _ m1 ⟨r1, rfl, h⟩
  change Wp _ _ 8 _ [.inl r1, .inr (.inr (some 47)), .inr (.inr (some 54)), .inr (.inr (some 47)), .inr (.inr (some 54))] _ _
  refine w_call (q := 11) (n := 3) (vs := [.inr (.inr (some 54)), .inr (.inr (some 47)), .inl r1]) (rest := [.inr (.inr (some 47)), .inr (.inr (some 54))]) (la := [oR 54, oR 47, oI r1, none, none, none]) hm137 ⟨⟨_, _, rfl⟩, rfl⟩ rfl rfl rfl rfl hm118 rfl rfl (fun _ => ⟨_, _, rfl, rfl⟩) rfl (Wp.mono h ?_)
  rintro _ m2 ⟨r2, rfl, h⟩
  change Wp _ _ 11 _ [.inl r2, .inr (.inr (some 47)), .inr (.inr (some 54))] _ _
  refine w_call (q := 14) (n := 3) (vs := [.inr (.inr (some 54)), .inr (.inr (some 47)), .inl r2]) (rest := []) (la := [oR 54, oR 47, oI r2, none, none, none]) hm137 ⟨⟨_, _, rfl⟩, rfl⟩ rfl rfl rfl rfl hm120 rfl rfl (fun _ => ⟨_, _, rfl, rfl⟩) rfl (Wp.mono h ?_)
  rintro _ m3 ⟨rfl, h⟩
  change Wp _ _ 14 _ [] _ _
  refine w_aload_n (q := 15) hm137 ⟨⟨_, _, rfl⟩, rfl⟩ rfl ?_
  refine w_aload_n (q := 16) hm137 ⟨⟨_, _, rfl⟩, rfl⟩ rfl ?_
  refine w_aload_n (q := 17) hm137 ⟨⟨_, _, rfl⟩, rfl⟩ rfl ?_
  refine w_call (q := 20) (n := 0) (vs := [.inr (.inr (some 47))]) (rest := [.inr (.inr (some 47)), .inr (.inr (some 54))]) (la := [oR 47]) hm137 ⟨⟨_, _, rfl⟩, rfl⟩ rfl rfl rfl rfl hm212 rfl rfl (fun _ => ⟨_, _, rfl, rfl⟩) rfl (Wp.mono h ?_)
  rintro _ m4 ⟨r4, rfl, h⟩
  change Wp _ _ 20 _ [.inl r4, .inr (.inr (some 47)), .inr (.inr (some 54))] _ _
  refine w_iload_n (q := 21) hm137 ⟨⟨_, _, rfl⟩, rfl⟩ rfl ?_
  refine w_call (q := 24) (n := 2) (vs := [.inr (.inr (some 54)), .inr (.inr (some 47)), .inl r4, .inl x2]) (rest := []) (la := [oR 54, oR 47, oI r4, oI x2, none, none]) hm137 ⟨⟨_, _, rfl⟩, rfl⟩ rfl rfl rfl rfl hm124 rfl rfl (fun _ => ⟨_, _, rfl, rfl⟩) rfl (Wp.mono h ?_)
  rintro _ m5 ⟨r5, rfl, h⟩
  change Wp _ _ 24 _ [.inl r5] _ _
  refine w_istore_n (q := 25) (l' := [oR 54, oR 47, oI x2, oI r5, none]) hm137 ⟨⟨_, _, rfl⟩, rfl⟩ rfl rfl rfl ?_
  refine w_aload_n (q := 26) hm137 ⟨⟨_, _, rfl⟩, rfl⟩ rfl ?_
  refine w_dup (q := 27) hm137 ⟨⟨_, _, rfl⟩, rfl⟩ rfl ?_
  refine w_getf (q := 30) (v := (m5.1 47 3)) hm137 ⟨⟨_, _, rfl⟩, rfl⟩ rfl rfl ?_
  refine w_iload_n (q := 31) hm137 ⟨⟨_, _, rfl⟩, rfl⟩ rfl ?_
  refine w_ior (q := 32) hm137 ⟨⟨_, _, rfl⟩, rfl⟩ ?_
  refine w_putf (q := 35) hm137 ⟨⟨_, _, rfl⟩, rfl⟩ rfl rfl rfl ?_
  refine w_iconst (q := 36) hm137 ⟨⟨_, _, rfl⟩, rfl⟩ iconst_0 ?_
  refine w_istore (q := 38) (l' := [oR 54, oR 47, oI x2, oI r5, oI (0 : Int32)]) hm137 ⟨⟨_, _, rfl⟩, rfl⟩ rfl rfl rfl ?_
  exact Wp.wk [true, true, false, true, true] h
theorem v_X0_passWires_54_47_38 {d : Nat} {x3 : Int32} {x4 : Int32} {m : dM} {Q : Int32 → dM → Prop} (h : (((m.1 2 1).toInt ≤ x4.toInt → Q x3 (dSet m 47 0 ((m.1 47 0) + (1 : Int32)))) ∧ (x4.toInt < (m.1 2 1).toInt → c_X11_has d (m.1 47 3) x4 m (fun r1 m1 => ((r1.toInt ≠ 0 → j_X0_passWires_54_47_84 (d + 1) x3 x4 m1 Q) ∧ (r1.toInt = 0 → ((0 ≤ x4.toInt ∧ x4.toInt < 10) ∧ ((0 ≤ x4.toInt ∧ x4.toInt < 10) ∧ j_X0_passWires_54_47_84 (d + 1) x3 x4 (dSet m1 49 x4.toNatClampNeg (if ((m1.1 49 x4.toNatClampNeg) + (1 : Int32)) < (999 : Int32) then ((m1.1 49 x4.toNatClampNeg) + (1 : Int32)) else (999 : Int32))) Q)))))))) : j_X0_passWires_54_47_38 (d + 1) x3 x4 m Q := by
  refine w_iload (q := 40) hm137 ⟨⟨_, _, rfl⟩, rfl⟩ rfl ?_
  refine w_aload_n (q := 41) hm137 ⟨⟨_, _, rfl⟩, rfl⟩ rfl ?_
  refine w_getr (q := 44) hm137 ⟨⟨_, _, rfl⟩, rfl⟩ rfl ?_
  refine w_getf (q := 47) (v := (m.1 2 1)) hm137 ⟨⟨_, _, rfl⟩, rfl⟩ rfl rfl ?_
  refine w_icmp_ge (q := 50) (X := x4.toInt) (Y := (m.1 2 1).toInt) hm137 ⟨⟨_, _, rfl⟩, rfl⟩ rfl rfl (fun hc => ?_) (fun hc => ?_)
  · have h := h.1 hc
    refine w_aload_n (q := 91) hm137 ⟨⟨_, _, rfl⟩, rfl⟩ rfl ?_
    refine w_dup (q := 92) hm137 ⟨⟨_, _, rfl⟩, rfl⟩ rfl ?_
    refine w_getf (q := 95) (v := (m.1 47 0)) hm137 ⟨⟨_, _, rfl⟩, rfl⟩ rfl rfl ?_
    refine w_iconst (q := 96) hm137 ⟨⟨_, _, rfl⟩, rfl⟩ iconst_1 ?_
    refine w_iadd (q := 97) hm137 ⟨⟨_, _, rfl⟩, rfl⟩ ?_
    refine w_putf (q := 100) hm137 ⟨⟨_, _, rfl⟩, rfl⟩ rfl rfl rfl ?_
    refine w_iload_n (q := 101) hm137 ⟨⟨_, _, rfl⟩, rfl⟩ rfl ?_
    exact w_reti hm137 ⟨⟨_, _, rfl⟩, rfl⟩ rfl h
  · have h := h.2 hc
    refine w_aload_n (q := 51) hm137 ⟨⟨_, _, rfl⟩, rfl⟩ rfl ?_
    refine w_getf (q := 54) (v := (m.1 47 3)) hm137 ⟨⟨_, _, rfl⟩, rfl⟩ rfl rfl ?_
    refine w_iload (q := 56) hm137 ⟨⟨_, _, rfl⟩, rfl⟩ rfl ?_
    refine w_call (q := 59) (n := 0) (vs := [.inl (m.1 47 3), .inl x4]) (rest := []) (la := [oI (m.1 47 3), oI x4]) hm137 ⟨⟨_, _, rfl⟩, rfl⟩ rfl rfl rfl rfl hm283 rfl rfl (fun hz => absurd hz (by decide)) rfl (Wp.mono h ?_)
    rintro _ m1 ⟨r1, rfl, h⟩
    change Wp _ _ 59 _ [.inl r1] _ _
    refine w_if_ne (q := 62) (X := r1.toInt) hm137 ⟨⟨_, _, rfl⟩, rfl⟩ rfl (fun hc => ?_) (fun hc => ?_)
    · have h := h.1 hc
      exact h
    · have h := h.2 hc
      refine w_aload_n (q := 63) hm137 ⟨⟨_, _, rfl⟩, rfl⟩ rfl ?_
      refine w_getr (q := 66) hm137 ⟨⟨_, _, rfl⟩, rfl⟩ rfl ?_
      refine w_iload (q := 68) hm137 ⟨⟨_, _, rfl⟩, rfl⟩ rfl ?_
      refine w_sipush (q := 71) hm137 ⟨⟨_, _, rfl⟩, rfl⟩ sipush_999 ?_
      refine w_aload_n (q := 72) hm137 ⟨⟨_, _, rfl⟩, rfl⟩ rfl ?_
      refine w_getr (q := 75) hm137 ⟨⟨_, _, rfl⟩, rfl⟩ rfl ?_
      refine w_iload (q := 77) hm137 ⟨⟨_, _, rfl⟩, rfl⟩ rfl ?_
      obtain ⟨hi, h⟩ := h
      refine w_iald (q := 78) (v := (m1.1 49 x4.toNatClampNeg)) hm137 ⟨⟨_, _, rfl⟩, rfl⟩ rfl hi rfl rfl ?_
      refine w_iconst (q := 79) hm137 ⟨⟨_, _, rfl⟩, rfl⟩ iconst_1 ?_
      refine w_iadd (q := 80) hm137 ⟨⟨_, _, rfl⟩, rfl⟩ ?_
      refine w_min (q := 83) hm137 ⟨⟨_, _, rfl⟩, rfl⟩ rfl rfl ?_
      obtain ⟨hi, h⟩ := h
      refine w_iast (q := 84) hm137 ⟨⟨_, _, rfl⟩, rfl⟩ rfl hi rfl rfl ?_
      exact h
theorem v_X0_passWires_54_47_84 {d : Nat} {x3 : Int32} {x4 : Int32} {m : dM} {Q : Int32 → dM → Prop} (h : j_X0_passWires_54_47_38 (d + 1) x3 (x4 + (1 : Int32)) m Q) : j_X0_passWires_54_47_84 (d + 1) x3 x4 m Q := by
  refine w_iinc (q := 87) (l' := [oR 54, oR 47, none, oI x3, oI (x4 + (1 : Int32))]) hm137 ⟨⟨_, _, rfl⟩, rfl⟩ rfl rfl rfl iconst_1 rfl ?_
  refine w_goto (q := 38) hm137 ⟨_, _, rfl⟩ ?_
  exact h
theorem v_X0_passHour_54_47 {d : Nat} {m : dM} {Q : dM → Prop} (h : c_X0_takePay_54_47 d m (fun m1 => c_X0_countQuarrels_54_47 d m1 (fun m2 => c_X0_surgeOf_54 d (m2.1 2 6) (m2.1 47 0) m2 (fun r3 m3 => c_X0_passWires_54_47 d r3 m3 (fun r4 m4 => Q m4))))) : c_X0_passHour_54_47 (d + 1) m Q := by
  refine w_aload_n (q := 1) hm134 ⟨⟨_, _, rfl⟩, rfl⟩ rfl ?_
  refine w_aload_n (q := 2) hm134 ⟨⟨_, _, rfl⟩, rfl⟩ rfl ?_
  refine w_call (q := 5) (n := 2) (vs := [.inr (.inr (some 54)), .inr (.inr (some 47))]) (rest := []) (la := [oR 54, oR 47, none, none]) hm134 ⟨⟨_, _, rfl⟩, rfl⟩ rfl rfl rfl rfl hm135 rfl rfl (fun _ => ⟨_, _, rfl, rfl⟩) rfl (Wp.mono h ?_)
  rintro _ m1 ⟨rfl, h⟩
  change Wp _ _ 5 _ [] _ _
  refine w_aload_n (q := 6) hm134 ⟨⟨_, _, rfl⟩, rfl⟩ rfl ?_
  refine w_aload_n (q := 7) hm134 ⟨⟨_, _, rfl⟩, rfl⟩ rfl ?_
  refine w_call (q := 10) (n := 1) (vs := [.inr (.inr (some 54)), .inr (.inr (some 47))]) (rest := []) (la := [oR 54, oR 47, none]) hm134 ⟨⟨_, _, rfl⟩, rfl⟩ rfl rfl rfl rfl hm136 rfl rfl (fun _ => ⟨_, _, rfl, rfl⟩) rfl (Wp.mono h ?_)
  rintro _ m2 ⟨rfl, h⟩
  change Wp _ _ 10 _ [] _ _
  refine w_aload_n (q := 11) hm134 ⟨⟨_, _, rfl⟩, rfl⟩ rfl ?_
  refine w_aload_n (q := 12) hm134 ⟨⟨_, _, rfl⟩, rfl⟩ rfl ?_
  refine w_aload_n (q := 13) hm134 ⟨⟨_, _, rfl⟩, rfl⟩ rfl ?_
  refine w_aload_n (q := 14) hm134 ⟨⟨_, _, rfl⟩, rfl⟩ rfl ?_
  refine w_getr (q := 17) hm134 ⟨⟨_, _, rfl⟩, rfl⟩ rfl ?_
  refine w_getf (q := 20) (v := (m2.1 2 6)) hm134 ⟨⟨_, _, rfl⟩, rfl⟩ rfl rfl ?_
  refine w_aload_n (q := 21) hm134 ⟨⟨_, _, rfl⟩, rfl⟩ rfl ?_
  refine w_getf (q := 24) (v := (m2.1 47 0)) hm134 ⟨⟨_, _, rfl⟩, rfl⟩ rfl rfl ?_
  refine w_call (q := 27) (n := 0) (vs := [.inr (.inr (some 54)), .inl (m2.1 2 6), .inl (m2.1 47 0)]) (rest := [.inr (.inr (some 47)), .inr (.inr (some 54))]) (la := [oR 54, oI (m2.1 2 6), oI (m2.1 47 0)]) hm134 ⟨⟨_, _, rfl⟩, rfl⟩ rfl rfl rfl rfl hm131 rfl rfl (fun _ => ⟨_, _, rfl, rfl⟩) rfl (Wp.mono h ?_)
  rintro _ m3 ⟨r3, rfl, h⟩
  change Wp _ _ 27 _ [.inl r3, .inr (.inr (some 47)), .inr (.inr (some 54))] _ _
  refine w_call (q := 30) (n := 2) (vs := [.inr (.inr (some 54)), .inr (.inr (some 47)), .inl r3]) (rest := []) (la := [oR 54, oR 47, oI r3, none, none]) hm134 ⟨⟨_, _, rfl⟩, rfl⟩ rfl rfl rfl rfl hm137 rfl rfl (fun _ => ⟨_, _, rfl, rfl⟩) rfl (Wp.mono h ?_)
  rintro _ m4 ⟨r4, rfl, h⟩
  change Wp _ _ 30 _ [.inl r4] _ _
  refine w_pop (q := 31) hm134 ⟨⟨_, _, rfl⟩, rfl⟩ rfl ?_
  exact w_retv hm134 ⟨⟨_, _, rfl⟩, rfl⟩ rfl h
theorem v_X11_hours_0 {d : Nat} {x1 : Int32} {m : dM} {Q : Int32 → dM → Prop} (h : ((x1.toInt < 0 → j_X11_hours_0_10 (d + 1) m Q) ∧ (0 ≤ x1.toInt → ((x1.toInt ≤ 72 → ((x1.toInt ≤ 0 → j_X11_hours_0_27 (d + 1) x1 m Q) ∧ (0 < x1.toInt → c_X6_keep_51_47 d m (fun m1 => j_X11_hours_0_27 (d + 1) x1 m1 Q)))) ∧ (72 < x1.toInt → j_X11_hours_0_10 (d + 1) m Q))))) : c_X11_hours_0 (d + 1) x1 m Q := by
  refine w_iload_n (q := 1) hm258 ⟨⟨_, _, rfl⟩, rfl⟩ rfl ?_
  refine w_if_lt (q := 4) (X := x1.toInt) hm258 ⟨⟨_, _, rfl⟩, rfl⟩ rfl (fun hc => ?_) (fun hc => ?_)
  · have h := h.1 hc
    exact Wp.wk [false, false, false] h
  · have h := h.2 hc
    refine w_iload_n (q := 5) hm258 ⟨⟨_, _, rfl⟩, rfl⟩ rfl ?_
    refine w_bipush (q := 7) hm258 ⟨⟨_, _, rfl⟩, rfl⟩ bipush_72 ?_
    refine w_icmp_le (q := 10) (X := x1.toInt) (Y := 72) hm258 ⟨⟨_, _, rfl⟩, rfl⟩ rfl (by decide) (fun hc => ?_) (fun hc => ?_)
    · have h := h.1 hc
      refine w_iload_n (q := 13) hm258 ⟨⟨_, _, rfl⟩, rfl⟩ rfl ?_
      refine w_if_le (q := 16) (X := x1.toInt) hm258 ⟨⟨_, _, rfl⟩, rfl⟩ rfl (fun hc => ?_) (fun hc => ?_)
      · have h := h.1 hc
        exact h
      · have h := h.2 hc
        refine w_aload_n (q := 17) hm258 ⟨⟨_, _, rfl⟩, rfl⟩ rfl ?_
        refine w_getr (q := 20) hm258 ⟨⟨_, _, rfl⟩, rfl⟩ rfl ?_
        refine w_aload_n (q := 21) hm258 ⟨⟨_, _, rfl⟩, rfl⟩ rfl ?_
        refine w_getr (q := 24) hm258 ⟨⟨_, _, rfl⟩, rfl⟩ rfl ?_
        refine w_call (q := 27) (n := 0) (vs := [.inr (.inr (some 51)), .inr (.inr (some 47))]) (rest := []) (la := [oR 51, oR 47]) hm258 ⟨⟨_, _, rfl⟩, rfl⟩ rfl rfl rfl rfl hm203 rfl rfl (fun _ => ⟨_, _, rfl, rfl⟩) rfl (Wp.mono h ?_)
        rintro _ m1 ⟨rfl, h⟩
        change Wp _ _ 27 _ [] _ _
        exact h
    · have h := h.2 hc
      exact Wp.wk [false, false, false] h
theorem v_X11_hours_0_10 {d : Nat} {m : dM} {Q : Int32 → dM → Prop} (h : Q (-1 : Int32) m) : j_X11_hours_0_10 (d + 1) m Q := by
  refine w_iconst (q := 11) hm258 ⟨⟨_, _, rfl⟩, rfl⟩ iconst_m1 ?_
  exact w_reti hm258 ⟨⟨_, _, rfl⟩, rfl⟩ rfl h
theorem v_X11_hours_0_27 {d : Nat} {x1 : Int32} {m : dM} {Q : Int32 → dM → Prop} (h : j_X11_hours_0_29 (d + 1) x1 (0 : Int32) m Q) : j_X11_hours_0_27 (d + 1) x1 m Q := by
  refine w_iconst (q := 28) hm258 ⟨⟨_, _, rfl⟩, rfl⟩ iconst_0 ?_
  refine w_istore_n (q := 29) (l' := [oR 0, oI x1, oI (0 : Int32)]) hm258 ⟨⟨_, _, rfl⟩, rfl⟩ rfl rfl rfl ?_
  exact h
theorem v_X11_hours_0_29 {d : Nat} {x1 : Int32} {x2 : Int32} {m : dM} {Q : Int32 → dM → Prop} (h : ((x1.toInt ≤ x2.toInt → Q (m.1 47 0) m) ∧ (x2.toInt < x1.toInt → c_X0_passHour_54_47 d m (fun m1 => j_X11_hours_0_29 (d + 1) x1 (x2 + (1 : Int32)) m1 Q)))) : j_X11_hours_0_29 (d + 1) x1 x2 m Q := by
  refine w_iload_n (q := 30) hm258 ⟨⟨_, _, rfl⟩, rfl⟩ rfl ?_
  refine w_iload_n (q := 31) hm258 ⟨⟨_, _, rfl⟩, rfl⟩ rfl ?_
  refine w_icmp_ge (q := 34) (X := x2.toInt) (Y := x1.toInt) hm258 ⟨⟨_, _, rfl⟩, rfl⟩ rfl rfl (fun hc => ?_) (fun hc => ?_)
  · have h := h.1 hc
    refine w_aload_n (q := 52) hm258 ⟨⟨_, _, rfl⟩, rfl⟩ rfl ?_
    refine w_getr (q := 55) hm258 ⟨⟨_, _, rfl⟩, rfl⟩ rfl ?_
    refine w_getf (q := 58) (v := (m.1 47 0)) hm258 ⟨⟨_, _, rfl⟩, rfl⟩ rfl rfl ?_
    exact w_reti hm258 ⟨⟨_, _, rfl⟩, rfl⟩ rfl h
  · have h := h.2 hc
    refine w_aload_n (q := 35) hm258 ⟨⟨_, _, rfl⟩, rfl⟩ rfl ?_
    refine w_getr (q := 38) hm258 ⟨⟨_, _, rfl⟩, rfl⟩ rfl ?_
    refine w_aload_n (q := 39) hm258 ⟨⟨_, _, rfl⟩, rfl⟩ rfl ?_
    refine w_getr (q := 42) hm258 ⟨⟨_, _, rfl⟩, rfl⟩ rfl ?_
    refine w_call (q := 45) (n := 0) (vs := [.inr (.inr (some 54)), .inr (.inr (some 47))]) (rest := []) (la := [oR 54, oR 47]) hm258 ⟨⟨_, _, rfl⟩, rfl⟩ rfl rfl rfl rfl hm134 rfl rfl (fun _ => ⟨_, _, rfl, rfl⟩) rfl (Wp.mono h ?_)
    rintro _ m1 ⟨rfl, h⟩
    change Wp _ _ 45 _ [] _ _
    refine w_iinc (q := 48) (l' := [oR 0, oI x1, oI (x2 + (1 : Int32))]) hm258 ⟨⟨_, _, rfl⟩, rfl⟩ rfl rfl rfl iconst_1 rfl ?_
    refine w_goto (q := 29) hm258 ⟨_, _, rfl⟩ ?_
    exact h
theorem v_X12_isLong {d : Nat} {x0 : Int32} {m : dM} {Q : Int32 → dM → Prop} (h : c_X12_in d x0 (0 : Int32) (72 : Int32) m (fun r1 m1 => (r1 = 0 ∨ r1 = 1) ∧ Q r1 m1)) : c_X12_isLong (d + 1) x0 m Q := by
  refine w_iload_n (q := 1) hm78 ⟨⟨_, _, rfl⟩, rfl⟩ rfl ?_
  refine w_iconst (q := 2) hm78 ⟨⟨_, _, rfl⟩, rfl⟩ iconst_0 ?_
  refine w_bipush (q := 4) hm78 ⟨⟨_, _, rfl⟩, rfl⟩ bipush_72 ?_
  refine w_call (q := 7) (n := 0) (vs := [.inl x0, .inl (0 : Int32), .inl (72 : Int32)]) (rest := []) (la := [oI x0, oI (0 : Int32), oI (72 : Int32)]) hm78 ⟨⟨_, _, rfl⟩, rfl⟩ rfl rfl rfl rfl hm36 rfl rfl (fun hz => absurd hz (by decide)) rfl (Wp.mono h ?_)
  rintro _ m1 ⟨r1, rfl, h⟩
  change Wp _ _ 7 _ [.inl r1] _ _
  exact w_retz hm78 ⟨⟨_, _, rfl⟩, rfl⟩ rfl h.1 h.2
theorem v_X12_goingBits_70 {d : Nat} {x1 : Int32} {x2 : Int32} {x3 : Int32} {m : dM} {Q : Int32 → dM → Prop} (h : j_X12_goingBits_70_6 (d + 1) x1 x2 x3 (0 : Int32) (0 : Int32) m Q) : c_X12_goingBits_70 (d + 1) x1 x2 x3 m Q := by
  refine w_iconst (q := 1) hm61 ⟨⟨_, _, rfl⟩, rfl⟩ iconst_0 ?_
  refine w_istore (q := 3) (l' := [oR 70, oI x1, oI x2, oI x3, oI (0 : Int32), none]) hm61 ⟨⟨_, _, rfl⟩, rfl⟩ rfl rfl rfl ?_
  refine w_iconst (q := 4) hm61 ⟨⟨_, _, rfl⟩, rfl⟩ iconst_0 ?_
  refine w_istore (q := 6) (l' := [oR 70, oI x1, oI x2, oI x3, oI (0 : Int32), oI (0 : Int32)]) hm61 ⟨⟨_, _, rfl⟩, rfl⟩ rfl rfl rfl ?_
  exact h
theorem v_X12_goingBits_70_6 {d : Nat} {x1 : Int32} {x2 : Int32} {x3 : Int32} {x4 : Int32} {x5 : Int32} {m : dM} {Q : Int32 → dM → Prop} (h : ((0 ≤ (m.1 70 18).toInt ∧ (m.1 70 18).toInt < 2) ∧ (((m.1 82 (m.1 70 18).toNatClampNeg).toInt ≤ x5.toInt → Q x4 m) ∧ (x5.toInt < (m.1 82 (m.1 70 18).toNatClampNeg).toInt → c_X12_doesGo_70 d x5 x1 x2 x3 m (fun r1 m1 => ((r1.toInt = 0 → j_X12_goingBits_70_41 (d + 1) x1 x2 x3 x4 x5 m1 Q) ∧ (r1.toInt ≠ 0 → j_X12_goingBits_70_41 (d + 1) x1 x2 x3 (x4 ||| ((1 : Int32) <<< (x5 &&& 31))) x5 m1 Q))))))) : j_X12_goingBits_70_6 (d + 1) x1 x2 x3 x4 x5 m Q := by
  refine w_iload (q := 8) hm61 ⟨⟨_, _, rfl⟩, rfl⟩ rfl ?_
  refine w_aload_n (q := 9) hm61 ⟨⟨_, _, rfl⟩, rfl⟩ rfl ?_
  refine w_getr (q := 12) hm61 ⟨⟨_, _, rfl⟩, rfl⟩ rfl ?_
  refine w_aload_n (q := 13) hm61 ⟨⟨_, _, rfl⟩, rfl⟩ rfl ?_
  refine w_getf (q := 16) (v := (m.1 70 18)) hm61 ⟨⟨_, _, rfl⟩, rfl⟩ rfl rfl ?_
  obtain ⟨hi, h⟩ := h
  refine w_iald (q := 17) (v := (m.1 82 (m.1 70 18).toNatClampNeg)) hm61 ⟨⟨_, _, rfl⟩, rfl⟩ rfl hi rfl rfl ?_
  refine w_icmp_ge (q := 20) (X := x5.toInt) (Y := (m.1 82 (m.1 70 18).toNatClampNeg).toInt) hm61 ⟨⟨_, _, rfl⟩, rfl⟩ rfl rfl (fun hc => ?_) (fun hc => ?_)
  · have h := h.1 hc
    refine w_iload (q := 49) hm61 ⟨⟨_, _, rfl⟩, rfl⟩ rfl ?_
    exact w_reti hm61 ⟨⟨_, _, rfl⟩, rfl⟩ rfl h
  · have h := h.2 hc
    refine w_aload_n (q := 21) hm61 ⟨⟨_, _, rfl⟩, rfl⟩ rfl ?_
    refine w_iload (q := 23) hm61 ⟨⟨_, _, rfl⟩, rfl⟩ rfl ?_
    refine w_iload_n (q := 24) hm61 ⟨⟨_, _, rfl⟩, rfl⟩ rfl ?_
    refine w_iload_n (q := 25) hm61 ⟨⟨_, _, rfl⟩, rfl⟩ rfl ?_
    refine w_iload_n (q := 26) hm61 ⟨⟨_, _, rfl⟩, rfl⟩ rfl ?_
    refine w_call (q := 29) (n := 1) (vs := [.inr (.inr (some 70)), .inl x5, .inl x1, .inl x2, .inl x3]) (rest := []) (la := [oR 70, oI x5, oI x1, oI x2, oI x3, none]) hm61 ⟨⟨_, _, rfl⟩, rfl⟩ rfl rfl rfl rfl hm60 rfl rfl (fun _ => ⟨_, _, rfl, rfl⟩) rfl (Wp.mono h ?_)
    rintro _ m1 ⟨r1, rfl, h⟩
    change Wp _ _ 29 _ [.inl r1] _ _
    refine w_if_eq (q := 32) (X := r1.toInt) hm61 ⟨⟨_, _, rfl⟩, rfl⟩ rfl (fun hc => ?_) (fun hc => ?_)
    · have h := h.1 hc
      exact h
    · have h := h.2 hc
      refine w_iload (q := 34) hm61 ⟨⟨_, _, rfl⟩, rfl⟩ rfl ?_
      refine w_iconst (q := 35) hm61 ⟨⟨_, _, rfl⟩, rfl⟩ iconst_1 ?_
      refine w_iload (q := 37) hm61 ⟨⟨_, _, rfl⟩, rfl⟩ rfl ?_
      refine w_ishl (q := 38) hm61 ⟨⟨_, _, rfl⟩, rfl⟩ ?_
      refine w_ior (q := 39) hm61 ⟨⟨_, _, rfl⟩, rfl⟩ ?_
      refine w_istore (q := 41) (l' := [oR 70, oI x1, oI x2, oI x3, oI (x4 ||| ((1 : Int32) <<< (x5 &&& 31))), oI x5]) hm61 ⟨⟨_, _, rfl⟩, rfl⟩ rfl rfl rfl ?_
      exact h
theorem v_X12_goingBits_70_41 {d : Nat} {x1 : Int32} {x2 : Int32} {x3 : Int32} {x4 : Int32} {x5 : Int32} {m : dM} {Q : Int32 → dM → Prop} (h : j_X12_goingBits_70_6 (d + 1) x1 x2 x3 x4 (x5 + (1 : Int32)) m Q) : j_X12_goingBits_70_41 (d + 1) x1 x2 x3 x4 x5 m Q := by
  refine w_iinc (q := 44) (l' := [oR 70, oI x1, oI x2, oI x3, oI x4, oI (x5 + (1 : Int32))]) hm61 ⟨⟨_, _, rfl⟩, rfl⟩ rfl rfl rfl iconst_1 rfl ?_
  refine w_goto (q := 6) hm61 ⟨_, _, rfl⟩ ?_
  exact h
theorem v_X12_paysAll_70 {d : Nat} {x1 : Int32} {m : dM} {Q : Int32 → dM → Prop} (h : j_X12_paysAll_70_4 (d + 1) x1 (0 : Int32) (0 : Int32) m Q) : c_X12_paysAll_70 (d + 1) x1 m Q := by
  refine w_iconst (q := 1) hm65 ⟨⟨_, _, rfl⟩, rfl⟩ iconst_0 ?_
  refine w_istore_n (q := 2) (l' := [oR 70, oI x1, oI (0 : Int32), none]) hm65 ⟨⟨_, _, rfl⟩, rfl⟩ rfl rfl rfl ?_
  refine w_iconst (q := 3) hm65 ⟨⟨_, _, rfl⟩, rfl⟩ iconst_0 ?_
  refine w_istore_n (q := 4) (l' := [oR 70, oI x1, oI (0 : Int32), oI (0 : Int32)]) hm65 ⟨⟨_, _, rfl⟩, rfl⟩ rfl rfl rfl ?_
  exact h
theorem v_X12_paysAll_70_4 {d : Nat} {x1 : Int32} {x2 : Int32} {x3 : Int32} {m : dM} {Q : Int32 → dM → Prop} (h : ((0 ≤ (m.1 70 18).toInt ∧ (m.1 70 18).toInt < 2) ∧ (((m.1 86 (m.1 70 18).toNatClampNeg).toInt ≤ x3.toInt → Q x2 m) ∧ (x3.toInt < (m.1 86 (m.1 70 18).toNatClampNeg).toInt → ((((x1 >>> (x3 &&& 31)) &&& (1 : Int32)).toInt ≠ 1 → j_X12_paysAll_70_34 (d + 1) x1 x2 x3 m Q) ∧ (((x1 >>> (x3 &&& 31)) &&& (1 : Int32)).toInt = 1 → c_X12_paysOf_70 d x3 m (fun r1 m1 => j_X12_paysAll_70_34 (d + 1) x1 (x2 + r1) x3 m1 Q))))))) : j_X12_paysAll_70_4 (d + 1) x1 x2 x3 m Q := by
  refine w_iload_n (q := 5) hm65 ⟨⟨_, _, rfl⟩, rfl⟩ rfl ?_
  refine w_aload_n (q := 6) hm65 ⟨⟨_, _, rfl⟩, rfl⟩ rfl ?_
  refine w_getr (q := 9) hm65 ⟨⟨_, _, rfl⟩, rfl⟩ rfl ?_
  refine w_aload_n (q := 10) hm65 ⟨⟨_, _, rfl⟩, rfl⟩ rfl ?_
  refine w_getf (q := 13) (v := (m.1 70 18)) hm65 ⟨⟨_, _, rfl⟩, rfl⟩ rfl rfl ?_
  obtain ⟨hi, h⟩ := h
  refine w_iald (q := 14) (v := (m.1 86 (m.1 70 18).toNatClampNeg)) hm65 ⟨⟨_, _, rfl⟩, rfl⟩ rfl hi rfl rfl ?_
  refine w_icmp_ge (q := 17) (X := x3.toInt) (Y := (m.1 86 (m.1 70 18).toNatClampNeg).toInt) hm65 ⟨⟨_, _, rfl⟩, rfl⟩ rfl rfl (fun hc => ?_) (fun hc => ?_)
  · have h := h.1 hc
    refine w_iload_n (q := 41) hm65 ⟨⟨_, _, rfl⟩, rfl⟩ rfl ?_
    exact w_reti hm65 ⟨⟨_, _, rfl⟩, rfl⟩ rfl h
  · have h := h.2 hc
    refine w_iload_n (q := 18) hm65 ⟨⟨_, _, rfl⟩, rfl⟩ rfl ?_
    refine w_iload_n (q := 19) hm65 ⟨⟨_, _, rfl⟩, rfl⟩ rfl ?_
    refine w_ishr (q := 20) hm65 ⟨⟨_, _, rfl⟩, rfl⟩ ?_
    refine w_iconst (q := 21) hm65 ⟨⟨_, _, rfl⟩, rfl⟩ iconst_1 ?_
    refine w_iand (q := 22) hm65 ⟨⟨_, _, rfl⟩, rfl⟩ ?_
    refine w_iconst (q := 23) hm65 ⟨⟨_, _, rfl⟩, rfl⟩ iconst_1 ?_
    refine w_icmp_ne (q := 26) (X := ((x1 >>> (x3 &&& 31)) &&& (1 : Int32)).toInt) (Y := 1) hm65 ⟨⟨_, _, rfl⟩, rfl⟩ rfl (by decide) (fun hc => ?_) (fun hc => ?_)
    · have h := h.1 hc
      exact h
    · have h := h.2 hc
      refine w_iload_n (q := 27) hm65 ⟨⟨_, _, rfl⟩, rfl⟩ rfl ?_
      refine w_aload_n (q := 28) hm65 ⟨⟨_, _, rfl⟩, rfl⟩ rfl ?_
      refine w_iload_n (q := 29) hm65 ⟨⟨_, _, rfl⟩, rfl⟩ rfl ?_
      refine w_call (q := 32) (n := 0) (vs := [.inr (.inr (some 70)), .inl x3]) (rest := [.inl x2]) (la := [oR 70, oI x3]) hm65 ⟨⟨_, _, rfl⟩, rfl⟩ rfl rfl rfl rfl hm64 rfl rfl (fun _ => ⟨_, _, rfl, rfl⟩) rfl (Wp.mono h ?_)
      rintro _ m1 ⟨r1, rfl, h⟩
      change Wp _ _ 32 _ [.inl r1, .inl x2] _ _
      refine w_iadd (q := 33) hm65 ⟨⟨_, _, rfl⟩, rfl⟩ ?_
      refine w_istore_n (q := 34) (l' := [oR 70, oI x1, oI (x2 + r1), oI x3]) hm65 ⟨⟨_, _, rfl⟩, rfl⟩ rfl rfl rfl ?_
      exact h
theorem v_X12_paysAll_70_34 {d : Nat} {x1 : Int32} {x2 : Int32} {x3 : Int32} {m : dM} {Q : Int32 → dM → Prop} (h : j_X12_paysAll_70_4 (d + 1) x1 x2 (x3 + (1 : Int32)) m Q) : j_X12_paysAll_70_34 (d + 1) x1 x2 x3 m Q := by
  refine w_iinc (q := 37) (l' := [oR 70, oI x1, oI x2, oI (x3 + (1 : Int32))]) hm65 ⟨⟨_, _, rfl⟩, rfl⟩ rfl rfl rfl iconst_1 rfl ?_
  refine w_goto (q := 4) hm65 ⟨_, _, rfl⟩ ?_
  exact h
theorem v_X12_quarrelsAll_70 {d : Nat} {m : dM} {Q : Int32 → dM → Prop} (h : j_X12_quarrelsAll_70_4 (d + 1) (0 : Int32) (0 : Int32) m Q) : c_X12_quarrelsAll_70 (d + 1) m Q := by
  refine w_iconst (q := 1) hm66 ⟨⟨_, _, rfl⟩, rfl⟩ iconst_0 ?_
  refine w_istore_n (q := 2) (l' := [oR 70, oI (0 : Int32), none]) hm66 ⟨⟨_, _, rfl⟩, rfl⟩ rfl rfl rfl ?_
  refine w_iconst (q := 3) hm66 ⟨⟨_, _, rfl⟩, rfl⟩ iconst_0 ?_
  refine w_istore_n (q := 4) (l' := [oR 70, oI (0 : Int32), oI (0 : Int32)]) hm66 ⟨⟨_, _, rfl⟩, rfl⟩ rfl rfl rfl ?_
  exact h
theorem v_X12_quarrelsAll_70_4 {d : Nat} {x1 : Int32} {x2 : Int32} {m : dM} {Q : Int32 → dM → Prop} (h : ((0 ≤ (m.1 70 18).toInt ∧ (m.1 70 18).toInt < 2) ∧ (((m.1 80 (m.1 70 18).toNatClampNeg).toInt ≤ x2.toInt → Q x1 m) ∧ (x2.toInt < (m.1 80 (m.1 70 18).toNatClampNeg).toInt → c_X12_isLit_70 d x2 m (fun r1 m1 => ((r1.toInt ≠ 0 → j_X12_quarrelsAll_70_33 (d + 1) x1 x2 m1 Q) ∧ (r1.toInt = 0 → c_X12_quarrelOf_70 d x2 m1 (fun r2 m2 => j_X12_quarrelsAll_70_33 (d + 1) (x1 + r2) x2 m2 Q)))))))) : j_X12_quarrelsAll_70_4 (d + 1) x1 x2 m Q := by
  refine w_iload_n (q := 5) hm66 ⟨⟨_, _, rfl⟩, rfl⟩ rfl ?_
  refine w_aload_n (q := 6) hm66 ⟨⟨_, _, rfl⟩, rfl⟩ rfl ?_
  refine w_getr (q := 9) hm66 ⟨⟨_, _, rfl⟩, rfl⟩ rfl ?_
  refine w_aload_n (q := 10) hm66 ⟨⟨_, _, rfl⟩, rfl⟩ rfl ?_
  refine w_getf (q := 13) (v := (m.1 70 18)) hm66 ⟨⟨_, _, rfl⟩, rfl⟩ rfl rfl ?_
  obtain ⟨hi, h⟩ := h
  refine w_iald (q := 14) (v := (m.1 80 (m.1 70 18).toNatClampNeg)) hm66 ⟨⟨_, _, rfl⟩, rfl⟩ rfl hi rfl rfl ?_
  refine w_icmp_ge (q := 17) (X := x2.toInt) (Y := (m.1 80 (m.1 70 18).toNatClampNeg).toInt) hm66 ⟨⟨_, _, rfl⟩, rfl⟩ rfl rfl (fun hc => ?_) (fun hc => ?_)
  · have h := h.1 hc
    refine w_iload_n (q := 40) hm66 ⟨⟨_, _, rfl⟩, rfl⟩ rfl ?_
    exact w_reti hm66 ⟨⟨_, _, rfl⟩, rfl⟩ rfl h
  · have h := h.2 hc
    refine w_aload_n (q := 18) hm66 ⟨⟨_, _, rfl⟩, rfl⟩ rfl ?_
    refine w_iload_n (q := 19) hm66 ⟨⟨_, _, rfl⟩, rfl⟩ rfl ?_
    refine w_call (q := 22) (n := 0) (vs := [.inr (.inr (some 70)), .inl x2]) (rest := []) (la := [oR 70, oI x2]) hm66 ⟨⟨_, _, rfl⟩, rfl⟩ rfl rfl rfl rfl hm51 rfl rfl (fun _ => ⟨_, _, rfl, rfl⟩) rfl (Wp.mono h ?_)
    rintro _ m1 ⟨r1, rfl, h⟩
    change Wp _ _ 22 _ [.inl r1] _ _
    refine w_if_ne (q := 25) (X := r1.toInt) hm66 ⟨⟨_, _, rfl⟩, rfl⟩ rfl (fun hc => ?_) (fun hc => ?_)
    · have h := h.1 hc
      exact h
    · have h := h.2 hc
      refine w_iload_n (q := 26) hm66 ⟨⟨_, _, rfl⟩, rfl⟩ rfl ?_
      refine w_aload_n (q := 27) hm66 ⟨⟨_, _, rfl⟩, rfl⟩ rfl ?_
      refine w_iload_n (q := 28) hm66 ⟨⟨_, _, rfl⟩, rfl⟩ rfl ?_
      refine w_call (q := 31) (n := 0) (vs := [.inr (.inr (some 70)), .inl x2]) (rest := [.inl x1]) (la := [oR 70, oI x2]) hm66 ⟨⟨_, _, rfl⟩, rfl⟩ rfl rfl rfl rfl hm62 rfl rfl (fun _ => ⟨_, _, rfl, rfl⟩) rfl (Wp.mono h ?_)
      rintro _ m2 ⟨r2, rfl, h⟩
      change Wp _ _ 31 _ [.inl r2, .inl x1] _ _
      refine w_iadd (q := 32) hm66 ⟨⟨_, _, rfl⟩, rfl⟩ ?_
      refine w_istore_n (q := 33) (l' := [oR 70, oI (x1 + r2), oI x2]) hm66 ⟨⟨_, _, rfl⟩, rfl⟩ rfl rfl rfl ?_
      exact h
theorem v_X12_quarrelsAll_70_33 {d : Nat} {x1 : Int32} {x2 : Int32} {m : dM} {Q : Int32 → dM → Prop} (h : j_X12_quarrelsAll_70_4 (d + 1) x1 (x2 + (1 : Int32)) m Q) : j_X12_quarrelsAll_70_33 (d + 1) x1 x2 m Q := by
  refine w_iinc (q := 36) (l' := [oR 70, oI x1, oI (x2 + (1 : Int32))]) hm66 ⟨⟨_, _, rfl⟩, rfl⟩ rfl rfl rfl iconst_1 rfl ?_
  refine w_goto (q := 4) hm66 ⟨_, _, rfl⟩ ?_
  exact h
theorem v_X12_mixed {d : Nat} {x0 : Int32} {x1 : Int32} {m : dM} {Q : Int32 → dM → Prop} (h : Q ((((x0 ^^^ x1) * (1103515245 : Int32)) + (12345 : Int32)) ^^^ ((((x0 ^^^ x1) * (1103515245 : Int32)) + (12345 : Int32)).toUInt32 >>> ((15 : Int32).toUInt32 &&& Int32.toUInt32 31)).toInt32) m) : c_X12_mixed (d + 1) x0 x1 m Q := by
  refine w_iload_n (q := 1) hm45 ⟨⟨_, _, rfl⟩, rfl⟩ rfl ?_
  refine w_iload_n (q := 2) hm45 ⟨⟨_, _, rfl⟩, rfl⟩ rfl ?_
  refine w_ixor (q := 3) hm45 ⟨⟨_, _, rfl⟩, rfl⟩ ?_
  refine w_ldc_w (q := 6) hm45 ⟨⟨_, _, rfl⟩, rfl⟩ ldc_1103515245 ?_
  refine w_imul (q := 7) hm45 ⟨⟨_, _, rfl⟩, rfl⟩ ?_
  refine w_sipush (q := 10) hm45 ⟨⟨_, _, rfl⟩, rfl⟩ sipush_12345 ?_
  refine w_iadd (q := 11) hm45 ⟨⟨_, _, rfl⟩, rfl⟩ ?_
  refine w_istore_n (q := 12) (l' := [oI x0, oI x1, oI (((x0 ^^^ x1) * (1103515245 : Int32)) + (12345 : Int32))]) hm45 ⟨⟨_, _, rfl⟩, rfl⟩ rfl rfl rfl ?_
  refine w_iload_n (q := 13) hm45 ⟨⟨_, _, rfl⟩, rfl⟩ rfl ?_
  refine w_iload_n (q := 14) hm45 ⟨⟨_, _, rfl⟩, rfl⟩ rfl ?_
  refine w_bipush (q := 16) hm45 ⟨⟨_, _, rfl⟩, rfl⟩ bipush_15 ?_
  refine w_iushr (q := 17) hm45 ⟨⟨_, _, rfl⟩, rfl⟩ ?_
  refine w_ixor (q := 18) hm45 ⟨⟨_, _, rfl⟩, rfl⟩ ?_
  exact w_reti hm45 ⟨⟨_, _, rfl⟩, rfl⟩ rfl h
theorem v_X12_isSurge_70 {d : Nat} {m : dM} {Q : Int32 → dM → Prop} (h : c_X12_mixed d (m.1 70 56) (129 : Int32) m (fun r1 m1 => c_X12_mixed d r1 ((4 : Int32) * (m1.1 108 55)) m1 (fun r2 m2 => ((0 ≤ (m2.1 70 18).toInt ∧ (m2.1 70 18).toInt < 2) ∧ (((m2.1 91 (m2.1 70 18).toNatClampNeg).toInt ≤ ((r2.toUInt32 >>> ((1 : Int32).toUInt32 &&& Int32.toUInt32 31)).toInt32 - (r2.toUInt32 >>> ((1 : Int32).toUInt32 &&& Int32.toUInt32 31)).toInt32 / (100 : Int32) * (100 : Int32)).toInt → Q (0 : Int32) m2) ∧ (((r2.toUInt32 >>> ((1 : Int32).toUInt32 &&& Int32.toUInt32 31)).toInt32 - (r2.toUInt32 >>> ((1 : Int32).toUInt32 &&& Int32.toUInt32 31)).toInt32 / (100 : Int32) * (100 : Int32)).toInt < (m2.1 91 (m2.1 70 18).toNatClampNeg).toInt → Q (1 : Int32) m2)))))) : c_X12_isSurge_70 (d + 1) m Q := by
  refine w_aload_n (q := 1) hm46 ⟨⟨_, _, rfl⟩, rfl⟩ rfl ?_
  refine w_getf (q := 4) (v := (m.1 70 56)) hm46 ⟨⟨_, _, rfl⟩, rfl⟩ rfl rfl ?_
  refine w_sipush (q := 7) hm46 ⟨⟨_, _, rfl⟩, rfl⟩ sipush_129 ?_
  refine w_call (q := 10) (n := 1) (vs := [.inl (m.1 70 56), .inl (129 : Int32)]) (rest := []) (la := [oI (m.1 70 56), oI (129 : Int32), none]) hm46 ⟨⟨_, _, rfl⟩, rfl⟩ rfl rfl rfl rfl hm45 rfl rfl (fun hz => absurd hz (by decide)) rfl (Wp.mono h ?_)
  rintro _ m1 ⟨r1, rfl, h⟩
  change Wp _ _ 10 _ [.inl r1] _ _
  refine w_iconst (q := 11) hm46 ⟨⟨_, _, rfl⟩, rfl⟩ iconst_4 ?_
  refine w_aload_n (q := 12) hm46 ⟨⟨_, _, rfl⟩, rfl⟩ rfl ?_
  refine w_getr (q := 15) hm46 ⟨⟨_, _, rfl⟩, rfl⟩ rfl ?_
  refine w_bipush (q := 17) hm46 ⟨⟨_, _, rfl⟩, rfl⟩ bipush_55 ?_
  refine w_iald (q := 18) (j := 55) (v := (m1.1 108 55)) hm46 ⟨⟨_, _, rfl⟩, rfl⟩ rfl (by decide) (by decide) rfl ?_
  refine w_imul (q := 19) hm46 ⟨⟨_, _, rfl⟩, rfl⟩ ?_
  refine w_call (q := 22) (n := 1) (vs := [.inl r1, .inl ((4 : Int32) * (m1.1 108 55))]) (rest := []) (la := [oI r1, oI ((4 : Int32) * (m1.1 108 55)), none]) hm46 ⟨⟨_, _, rfl⟩, rfl⟩ rfl rfl rfl rfl hm45 rfl rfl (fun hz => absurd hz (by decide)) rfl (Wp.mono h ?_)
  rintro _ m2 ⟨r2, rfl, h⟩
  change Wp _ _ 22 _ [.inl r2] _ _
  refine w_iconst (q := 23) hm46 ⟨⟨_, _, rfl⟩, rfl⟩ iconst_1 ?_
  refine w_iushr (q := 24) hm46 ⟨⟨_, _, rfl⟩, rfl⟩ ?_
  refine w_bipush (q := 26) hm46 ⟨⟨_, _, rfl⟩, rfl⟩ bipush_100 ?_
  refine w_irem (q := 27) hm46 ⟨⟨_, _, rfl⟩, rfl⟩ (by decide) ?_
  refine w_aload_n (q := 28) hm46 ⟨⟨_, _, rfl⟩, rfl⟩ rfl ?_
  refine w_getr (q := 31) hm46 ⟨⟨_, _, rfl⟩, rfl⟩ rfl ?_
  refine w_aload_n (q := 32) hm46 ⟨⟨_, _, rfl⟩, rfl⟩ rfl ?_
  refine w_getf (q := 35) (v := (m2.1 70 18)) hm46 ⟨⟨_, _, rfl⟩, rfl⟩ rfl rfl ?_
  obtain ⟨hi, h⟩ := h
  refine w_iald (q := 36) (v := (m2.1 91 (m2.1 70 18).toNatClampNeg)) hm46 ⟨⟨_, _, rfl⟩, rfl⟩ rfl hi rfl rfl ?_
  refine w_icmp_ge (q := 39) (X := ((r2.toUInt32 >>> ((1 : Int32).toUInt32 &&& Int32.toUInt32 31)).toInt32 - (r2.toUInt32 >>> ((1 : Int32).toUInt32 &&& Int32.toUInt32 31)).toInt32 / (100 : Int32) * (100 : Int32)).toInt) (Y := (m2.1 91 (m2.1 70 18).toNatClampNeg).toInt) hm46 ⟨⟨_, _, rfl⟩, rfl⟩ rfl rfl (fun hc => ?_) (fun hc => ?_)
  · have h := h.1 hc
    refine w_iconst (q := 44) hm46 ⟨⟨_, _, rfl⟩, rfl⟩ iconst_0 ?_
    exact w_retz hm46 ⟨⟨_, _, rfl⟩, rfl⟩ rfl (by decide) h
  · have h := h.2 hc
    refine w_iconst (q := 40) hm46 ⟨⟨_, _, rfl⟩, rfl⟩ iconst_1 ?_
    refine w_goto (q := 44) hm46 ⟨_, _, rfl⟩ ?_
    exact w_retz hm46 ⟨⟨_, _, rfl⟩, rfl⟩ rfl (by decide) h
theorem v_X12_hourGoes_70 {d : Nat} {m : dM} {Q : dM → Prop} (h : c_X12_onNow_70 d m (fun r1 m1 => (((m1.1 70 57).toInt ≠ 0 → c_X12_goingBits_70 d r1 ((m1.1 108 55) - (m1.1 108 55) / (24 : Int32) * (24 : Int32)) (0 : Int32) m1 (fun r2 m2 => c_X12_paysAll_70 d r1 (dSet m2 70 60 r2) (fun r3 m3 => c_X12_quarrelsAll_70 d m3 (fun r4 m4 => c_X12_within d ((m4.1 108 56) + r3) (0 : Int32) (99999 : Int32) m4 (fun r5 m5 => c_X12_within d ((m5.1 108 57) + r4) (0 : Int32) (999999 : Int32) (dSet m5 108 56 r5) (fun r6 m6 => j_X12_hourGoes_70_111 (d + 1) (0 : Int32) (dSet m6 108 57 r6) Q)))))) ∧ ((m1.1 70 57).toInt = 0 → c_X12_isSurge_70 d m1 (fun r7 m7 => ((r7.toInt = 0 → c_X12_goingBits_70 d r1 ((m1.1 108 55) - (m1.1 108 55) / (24 : Int32) * (24 : Int32)) (0 : Int32) m7 (fun r8 m8 => c_X12_paysAll_70 d r1 (dSet m8 70 60 r8) (fun r9 m9 => c_X12_quarrelsAll_70 d m9 (fun r10 m10 => c_X12_within d ((m10.1 108 56) + r9) (0 : Int32) (99999 : Int32) m10 (fun r11 m11 => c_X12_within d ((m11.1 108 57) + r10) (0 : Int32) (999999 : Int32) (dSet m11 108 56 r11) (fun r12 m12 => j_X12_hourGoes_70_111 (d + 1) (0 : Int32) (dSet m12 108 57 r12) Q)))))) ∧ (r7.toInt ≠ 0 → ((0 ≤ (m7.1 70 18).toInt ∧ (m7.1 70 18).toInt < 2) ∧ c_X12_goingBits_70 d r1 ((m1.1 108 55) - (m1.1 108 55) / (24 : Int32) * (24 : Int32)) (m7.1 92 (m7.1 70 18).toNatClampNeg) m7 (fun r13 m13 => c_X12_paysAll_70 d r1 (dSet m13 70 60 r13) (fun r14 m14 => c_X12_quarrelsAll_70 d m14 (fun r15 m15 => c_X12_within d ((m15.1 108 56) + r14) (0 : Int32) (99999 : Int32) m15 (fun r16 m16 => c_X12_within d ((m16.1 108 57) + r15) (0 : Int32) (999999 : Int32) (dSet m16 108 56 r16) (fun r17 m17 => j_X12_hourGoes_70_111 (d + 1) (0 : Int32) (dSet m17 108 57 r17) Q))))))))))))) : c_X12_hourGoes_70 (d + 1) m Q := by
  refine w_aload_n (q := 1) hm67 ⟨⟨_, _, rfl⟩, rfl⟩ rfl ?_
  refine w_call (q := 4) (n := 0) (vs := [.inr (.inr (some 70))]) (rest := []) (la := [oR 70]) hm67 ⟨⟨_, _, rfl⟩, rfl⟩ rfl rfl rfl rfl hm56 rfl rfl (fun _ => ⟨_, _, rfl, rfl⟩) rfl (Wp.mono h ?_)
  rintro _ m1 ⟨r1, rfl, h⟩
  change Wp _ _ 4 _ [.inl r1] _ _
  refine w_istore_n (q := 5) (l' := [oR 70, oI r1, none, none, none]) hm67 ⟨⟨_, _, rfl⟩, rfl⟩ rfl rfl rfl ?_
  refine w_aload_n (q := 6) hm67 ⟨⟨_, _, rfl⟩, rfl⟩ rfl ?_
  refine w_aload_n (q := 7) hm67 ⟨⟨_, _, rfl⟩, rfl⟩ rfl ?_
  refine w_iload_n (q := 8) hm67 ⟨⟨_, _, rfl⟩, rfl⟩ rfl ?_
  refine w_aload_n (q := 9) hm67 ⟨⟨_, _, rfl⟩, rfl⟩ rfl ?_
  refine w_getr (q := 12) hm67 ⟨⟨_, _, rfl⟩, rfl⟩ rfl ?_
  refine w_bipush (q := 14) hm67 ⟨⟨_, _, rfl⟩, rfl⟩ bipush_55 ?_
  refine w_iald (q := 15) (j := 55) (v := (m1.1 108 55)) hm67 ⟨⟨_, _, rfl⟩, rfl⟩ rfl (by decide) (by decide) rfl ?_
  refine w_bipush (q := 17) hm67 ⟨⟨_, _, rfl⟩, rfl⟩ bipush_24 ?_
  refine w_irem (q := 18) hm67 ⟨⟨_, _, rfl⟩, rfl⟩ (by decide) ?_
  refine w_aload_n (q := 19) hm67 ⟨⟨_, _, rfl⟩, rfl⟩ rfl ?_
  refine w_getf (q := 22) (v := (m1.1 70 57)) hm67 ⟨⟨_, _, rfl⟩, rfl⟩ rfl rfl ?_
  refine w_if_ne (q := 25) (X := (m1.1 70 57).toInt) hm67 ⟨⟨_, _, rfl⟩, rfl⟩ rfl (fun hc => ?_) (fun hc => ?_)
  · have h := h.1 hc
    refine w_iconst (q := 45) hm67 ⟨⟨_, _, rfl⟩, rfl⟩ iconst_0 ?_
    refine w_call (q := 48) (n := 2) (vs := [.inr (.inr (some 70)), .inl r1, .inl ((m1.1 108 55) - (m1.1 108 55) / (24 : Int32) * (24 : Int32)), .inl (0 : Int32)]) (rest := [.inr (.inr (some 70))]) (la := [oR 70, oI r1, oI ((m1.1 108 55) - (m1.1 108 55) / (24 : Int32) * (24 : Int32)), oI (0 : Int32), none, none]) hm67 ⟨⟨_, _, rfl⟩, rfl⟩ rfl rfl rfl rfl hm61 rfl rfl (fun _ => ⟨_, _, rfl, rfl⟩) rfl (Wp.mono h ?_)
    rintro _ m2 ⟨r2, rfl, h⟩
    change Wp _ _ 48 _ [.inl r2, .inr (.inr (some 70))] _ _
    refine w_putf (q := 51) hm67 ⟨⟨_, _, rfl⟩, rfl⟩ rfl rfl rfl ?_
    refine w_aload_n (q := 52) hm67 ⟨⟨_, _, rfl⟩, rfl⟩ rfl ?_
    refine w_iload_n (q := 53) hm67 ⟨⟨_, _, rfl⟩, rfl⟩ rfl ?_
    refine w_call (q := 56) (n := 2) (vs := [.inr (.inr (some 70)), .inl r1]) (rest := []) (la := [oR 70, oI r1, none, none]) hm67 ⟨⟨_, _, rfl⟩, rfl⟩ rfl rfl rfl rfl hm65 rfl rfl (fun _ => ⟨_, _, rfl, rfl⟩) rfl (Wp.mono h ?_)
    rintro _ m3 ⟨r3, rfl, h⟩
    change Wp _ _ 56 _ [.inl r3] _ _
    refine w_istore_n (q := 57) (l' := [oR 70, oI r1, oI r3, none, none]) hm67 ⟨⟨_, _, rfl⟩, rfl⟩ rfl rfl rfl ?_
    refine w_aload_n (q := 58) hm67 ⟨⟨_, _, rfl⟩, rfl⟩ rfl ?_
    refine w_call (q := 61) (n := 2) (vs := [.inr (.inr (some 70))]) (rest := []) (la := [oR 70, none, none]) hm67 ⟨⟨_, _, rfl⟩, rfl⟩ rfl rfl rfl rfl hm66 rfl rfl (fun _ => ⟨_, _, rfl, rfl⟩) rfl (Wp.mono h ?_)
    rintro _ m4 ⟨r4, rfl, h⟩
    change Wp _ _ 61 _ [.inl r4] _ _
    refine w_istore_n (q := 62) (l' := [oR 70, oI r1, oI r3, oI r4, none]) hm67 ⟨⟨_, _, rfl⟩, rfl⟩ rfl rfl rfl ?_
    refine w_aload_n (q := 63) hm67 ⟨⟨_, _, rfl⟩, rfl⟩ rfl ?_
    refine w_getr (q := 66) hm67 ⟨⟨_, _, rfl⟩, rfl⟩ rfl ?_
    refine w_bipush (q := 68) hm67 ⟨⟨_, _, rfl⟩, rfl⟩ bipush_56 ?_
    refine w_aload_n (q := 69) hm67 ⟨⟨_, _, rfl⟩, rfl⟩ rfl ?_
    refine w_getr (q := 72) hm67 ⟨⟨_, _, rfl⟩, rfl⟩ rfl ?_
    refine w_bipush (q := 74) hm67 ⟨⟨_, _, rfl⟩, rfl⟩ bipush_56 ?_
    refine w_iald (q := 75) (j := 56) (v := (m4.1 108 56)) hm67 ⟨⟨_, _, rfl⟩, rfl⟩ rfl (by decide) (by decide) rfl ?_
    refine w_iload_n (q := 76) hm67 ⟨⟨_, _, rfl⟩, rfl⟩ rfl ?_
    refine w_iadd (q := 77) hm67 ⟨⟨_, _, rfl⟩, rfl⟩ ?_
    refine w_iconst (q := 78) hm67 ⟨⟨_, _, rfl⟩, rfl⟩ iconst_0 ?_
    refine w_ldc_w (q := 81) hm67 ⟨⟨_, _, rfl⟩, rfl⟩ ldc_99999 ?_
    refine w_call (q := 84) (n := 0) (vs := [.inl ((m4.1 108 56) + r3), .inl (0 : Int32), .inl (99999 : Int32)]) (rest := [.inl (56 : Int32), .inr (.inr (some 108))]) (la := [oI ((m4.1 108 56) + r3), oI (0 : Int32), oI (99999 : Int32)]) hm67 ⟨⟨_, _, rfl⟩, rfl⟩ rfl rfl rfl rfl hm37 rfl rfl (fun hz => absurd hz (by decide)) rfl (Wp.mono h ?_)
    rintro _ m5 ⟨r5, rfl, h⟩
    change Wp _ _ 84 _ [.inl r5, .inl (56 : Int32), .inr (.inr (some 108))] _ _
    refine w_iast (q := 85) (j := 56) hm67 ⟨⟨_, _, rfl⟩, rfl⟩ rfl (by decide) (by decide) rfl ?_
    refine w_aload_n (q := 86) hm67 ⟨⟨_, _, rfl⟩, rfl⟩ rfl ?_
    refine w_getr (q := 89) hm67 ⟨⟨_, _, rfl⟩, rfl⟩ rfl ?_
    refine w_bipush (q := 91) hm67 ⟨⟨_, _, rfl⟩, rfl⟩ bipush_57 ?_
    refine w_aload_n (q := 92) hm67 ⟨⟨_, _, rfl⟩, rfl⟩ rfl ?_
    refine w_getr (q := 95) hm67 ⟨⟨_, _, rfl⟩, rfl⟩ rfl ?_
    refine w_bipush (q := 97) hm67 ⟨⟨_, _, rfl⟩, rfl⟩ bipush_57 ?_
    refine w_iald (q := 98) (j := 57) (v := (m5.1 108 57)) hm67 ⟨⟨_, _, rfl⟩, rfl⟩ rfl (by decide) (by decide) rfl ?_
    refine w_iload_n (q := 99) hm67 ⟨⟨_, _, rfl⟩, rfl⟩ rfl ?_
    refine w_iadd (q := 100) hm67 ⟨⟨_, _, rfl⟩, rfl⟩ ?_
    refine w_iconst (q := 101) hm67 ⟨⟨_, _, rfl⟩, rfl⟩ iconst_0 ?_
    refine w_ldc_w (q := 104) hm67 ⟨⟨_, _, rfl⟩, rfl⟩ ldc_999999 ?_
    refine w_call (q := 107) (n := 0) (vs := [.inl ((m5.1 108 57) + r4), .inl (0 : Int32), .inl (999999 : Int32)]) (rest := [.inl (57 : Int32), .inr (.inr (some 108))]) (la := [oI ((m5.1 108 57) + r4), oI (0 : Int32), oI (999999 : Int32)]) hm67 ⟨⟨_, _, rfl⟩, rfl⟩ rfl rfl rfl rfl hm37 rfl rfl (fun hz => absurd hz (by decide)) rfl (Wp.mono h ?_)
    rintro _ m6 ⟨r6, rfl, h⟩
    change Wp _ _ 107 _ [.inl r6, .inl (57 : Int32), .inr (.inr (some 108))] _ _
    refine w_iast (q := 108) (j := 57) hm67 ⟨⟨_, _, rfl⟩, rfl⟩ rfl (by decide) (by decide) rfl ?_
    refine w_iconst (q := 109) hm67 ⟨⟨_, _, rfl⟩, rfl⟩ iconst_0 ?_
    refine w_istore (q := 111) (l' := [oR 70, oI r1, oI r3, oI r4, oI (0 : Int32)]) hm67 ⟨⟨_, _, rfl⟩, rfl⟩ rfl rfl rfl ?_
    exact Wp.wk [true, false, false, false, true] h
  · have h := h.2 hc
    refine w_aload_n (q := 26) hm67 ⟨⟨_, _, rfl⟩, rfl⟩ rfl ?_
    refine w_call (q := 29) (n := 0) (vs := [.inr (.inr (some 70))]) (rest := [.inl ((m1.1 108 55) - (m1.1 108 55) / (24 : Int32) * (24 : Int32)), .inl r1, .inr (.inr (some 70)), .inr (.inr (some 70))]) (la := [oR 70]) hm67 ⟨⟨_, _, rfl⟩, rfl⟩ rfl rfl rfl rfl hm46 rfl rfl (fun _ => ⟨_, _, rfl, rfl⟩) rfl (Wp.mono h ?_)
    rintro _ m7 ⟨r7, rfl, h⟩
    change Wp _ _ 29 _ [.inl r7, .inl ((m1.1 108 55) - (m1.1 108 55) / (24 : Int32) * (24 : Int32)), .inl r1, .inr (.inr (some 70)), .inr (.inr (some 70))] _ _
    refine w_if_eq (q := 32) (X := r7.toInt) hm67 ⟨⟨_, _, rfl⟩, rfl⟩ rfl (fun hc => ?_) (fun hc => ?_)
    · have h := h.1 hc
      refine w_iconst (q := 45) hm67 ⟨⟨_, _, rfl⟩, rfl⟩ iconst_0 ?_
      refine w_call (q := 48) (n := 2) (vs := [.inr (.inr (some 70)), .inl r1, .inl ((m1.1 108 55) - (m1.1 108 55) / (24 : Int32) * (24 : Int32)), .inl (0 : Int32)]) (rest := [.inr (.inr (some 70))]) (la := [oR 70, oI r1, oI ((m1.1 108 55) - (m1.1 108 55) / (24 : Int32) * (24 : Int32)), oI (0 : Int32), none, none]) hm67 ⟨⟨_, _, rfl⟩, rfl⟩ rfl rfl rfl rfl hm61 rfl rfl (fun _ => ⟨_, _, rfl, rfl⟩) rfl (Wp.mono h ?_)
      rintro _ m8 ⟨r8, rfl, h⟩
      change Wp _ _ 48 _ [.inl r8, .inr (.inr (some 70))] _ _
      refine w_putf (q := 51) hm67 ⟨⟨_, _, rfl⟩, rfl⟩ rfl rfl rfl ?_
      refine w_aload_n (q := 52) hm67 ⟨⟨_, _, rfl⟩, rfl⟩ rfl ?_
      refine w_iload_n (q := 53) hm67 ⟨⟨_, _, rfl⟩, rfl⟩ rfl ?_
      refine w_call (q := 56) (n := 2) (vs := [.inr (.inr (some 70)), .inl r1]) (rest := []) (la := [oR 70, oI r1, none, none]) hm67 ⟨⟨_, _, rfl⟩, rfl⟩ rfl rfl rfl rfl hm65 rfl rfl (fun _ => ⟨_, _, rfl, rfl⟩) rfl (Wp.mono h ?_)
      rintro _ m9 ⟨r9, rfl, h⟩
      change Wp _ _ 56 _ [.inl r9] _ _
      refine w_istore_n (q := 57) (l' := [oR 70, oI r1, oI r9, none, none]) hm67 ⟨⟨_, _, rfl⟩, rfl⟩ rfl rfl rfl ?_
      refine w_aload_n (q := 58) hm67 ⟨⟨_, _, rfl⟩, rfl⟩ rfl ?_
      refine w_call (q := 61) (n := 2) (vs := [.inr (.inr (some 70))]) (rest := []) (la := [oR 70, none, none]) hm67 ⟨⟨_, _, rfl⟩, rfl⟩ rfl rfl rfl rfl hm66 rfl rfl (fun _ => ⟨_, _, rfl, rfl⟩) rfl (Wp.mono h ?_)
      rintro _ m10 ⟨r10, rfl, h⟩
      change Wp _ _ 61 _ [.inl r10] _ _
      refine w_istore_n (q := 62) (l' := [oR 70, oI r1, oI r9, oI r10, none]) hm67 ⟨⟨_, _, rfl⟩, rfl⟩ rfl rfl rfl ?_
      refine w_aload_n (q := 63) hm67 ⟨⟨_, _, rfl⟩, rfl⟩ rfl ?_
      refine w_getr (q := 66) hm67 ⟨⟨_, _, rfl⟩, rfl⟩ rfl ?_
      refine w_bipush (q := 68) hm67 ⟨⟨_, _, rfl⟩, rfl⟩ bipush_56 ?_
      refine w_aload_n (q := 69) hm67 ⟨⟨_, _, rfl⟩, rfl⟩ rfl ?_
      refine w_getr (q := 72) hm67 ⟨⟨_, _, rfl⟩, rfl⟩ rfl ?_
      refine w_bipush (q := 74) hm67 ⟨⟨_, _, rfl⟩, rfl⟩ bipush_56 ?_
      refine w_iald (q := 75) (j := 56) (v := (m10.1 108 56)) hm67 ⟨⟨_, _, rfl⟩, rfl⟩ rfl (by decide) (by decide) rfl ?_
      refine w_iload_n (q := 76) hm67 ⟨⟨_, _, rfl⟩, rfl⟩ rfl ?_
      refine w_iadd (q := 77) hm67 ⟨⟨_, _, rfl⟩, rfl⟩ ?_
      refine w_iconst (q := 78) hm67 ⟨⟨_, _, rfl⟩, rfl⟩ iconst_0 ?_
      refine w_ldc_w (q := 81) hm67 ⟨⟨_, _, rfl⟩, rfl⟩ ldc_99999 ?_
      refine w_call (q := 84) (n := 0) (vs := [.inl ((m10.1 108 56) + r9), .inl (0 : Int32), .inl (99999 : Int32)]) (rest := [.inl (56 : Int32), .inr (.inr (some 108))]) (la := [oI ((m10.1 108 56) + r9), oI (0 : Int32), oI (99999 : Int32)]) hm67 ⟨⟨_, _, rfl⟩, rfl⟩ rfl rfl rfl rfl hm37 rfl rfl (fun hz => absurd hz (by decide)) rfl (Wp.mono h ?_)
      rintro _ m11 ⟨r11, rfl, h⟩
      change Wp _ _ 84 _ [.inl r11, .inl (56 : Int32), .inr (.inr (some 108))] _ _
      refine w_iast (q := 85) (j := 56) hm67 ⟨⟨_, _, rfl⟩, rfl⟩ rfl (by decide) (by decide) rfl ?_
      refine w_aload_n (q := 86) hm67 ⟨⟨_, _, rfl⟩, rfl⟩ rfl ?_
      refine w_getr (q := 89) hm67 ⟨⟨_, _, rfl⟩, rfl⟩ rfl ?_
      refine w_bipush (q := 91) hm67 ⟨⟨_, _, rfl⟩, rfl⟩ bipush_57 ?_
      refine w_aload_n (q := 92) hm67 ⟨⟨_, _, rfl⟩, rfl⟩ rfl ?_
      refine w_getr (q := 95) hm67 ⟨⟨_, _, rfl⟩, rfl⟩ rfl ?_
      refine w_bipush (q := 97) hm67 ⟨⟨_, _, rfl⟩, rfl⟩ bipush_57 ?_
      refine w_iald (q := 98) (j := 57) (v := (m11.1 108 57)) hm67 ⟨⟨_, _, rfl⟩, rfl⟩ rfl (by decide) (by decide) rfl ?_
      refine w_iload_n (q := 99) hm67 ⟨⟨_, _, rfl⟩, rfl⟩ rfl ?_
      refine w_iadd (q := 100) hm67 ⟨⟨_, _, rfl⟩, rfl⟩ ?_
      refine w_iconst (q := 101) hm67 ⟨⟨_, _, rfl⟩, rfl⟩ iconst_0 ?_
      refine w_ldc_w (q := 104) hm67 ⟨⟨_, _, rfl⟩, rfl⟩ ldc_999999 ?_
      refine w_call (q := 107) (n := 0) (vs := [.inl ((m11.1 108 57) + r10), .inl (0 : Int32), .inl (999999 : Int32)]) (rest := [.inl (57 : Int32), .inr (.inr (some 108))]) (la := [oI ((m11.1 108 57) + r10), oI (0 : Int32), oI (999999 : Int32)]) hm67 ⟨⟨_, _, rfl⟩, rfl⟩ rfl rfl rfl rfl hm37 rfl rfl (fun hz => absurd hz (by decide)) rfl (Wp.mono h ?_)
      rintro _ m12 ⟨r12, rfl, h⟩
      change Wp _ _ 107 _ [.inl r12, .inl (57 : Int32), .inr (.inr (some 108))] _ _
      refine w_iast (q := 108) (j := 57) hm67 ⟨⟨_, _, rfl⟩, rfl⟩ rfl (by decide) (by decide) rfl ?_
      refine w_iconst (q := 109) hm67 ⟨⟨_, _, rfl⟩, rfl⟩ iconst_0 ?_
      refine w_istore (q := 111) (l' := [oR 70, oI r1, oI r9, oI r10, oI (0 : Int32)]) hm67 ⟨⟨_, _, rfl⟩, rfl⟩ rfl rfl rfl ?_
      exact Wp.wk [true, false, false, false, true] h
    · have h := h.2 hc
      refine w_aload_n (q := 33) hm67 ⟨⟨_, _, rfl⟩, rfl⟩ rfl ?_
      refine w_getr (q := 36) hm67 ⟨⟨_, _, rfl⟩, rfl⟩ rfl ?_
      refine w_aload_n (q := 37) hm67 ⟨⟨_, _, rfl⟩, rfl⟩ rfl ?_
      refine w_getf (q := 40) (v := (m7.1 70 18)) hm67 ⟨⟨_, _, rfl⟩, rfl⟩ rfl rfl ?_
      obtain ⟨hi, h⟩ := h
      refine w_iald (q := 41) (v := (m7.1 92 (m7.1 70 18).toNatClampNeg)) hm67 ⟨⟨_, _, rfl⟩, rfl⟩ rfl hi rfl rfl ?_
      refine w_goto (q := 45) hm67 ⟨_, _, rfl⟩ ?_
      refine w_call (q := 48) (n := 2) (vs := [.inr (.inr (some 70)), .inl r1, .inl ((m1.1 108 55) - (m1.1 108 55) / (24 : Int32) * (24 : Int32)), .inl (m7.1 92 (m7.1 70 18).toNatClampNeg)]) (rest := [.inr (.inr (some 70))]) (la := [oR 70, oI r1, oI ((m1.1 108 55) - (m1.1 108 55) / (24 : Int32) * (24 : Int32)), oI (m7.1 92 (m7.1 70 18).toNatClampNeg), none, none]) hm67 ⟨⟨_, _, rfl⟩, rfl⟩ rfl rfl rfl rfl hm61 rfl rfl (fun _ => ⟨_, _, rfl, rfl⟩) rfl (Wp.mono h ?_)
      rintro _ m13 ⟨r13, rfl, h⟩
      change Wp _ _ 48 _ [.inl r13, .inr (.inr (some 70))] _ _
      refine w_putf (q := 51) hm67 ⟨⟨_, _, rfl⟩, rfl⟩ rfl rfl rfl ?_
      refine w_aload_n (q := 52) hm67 ⟨⟨_, _, rfl⟩, rfl⟩ rfl ?_
      refine w_iload_n (q := 53) hm67 ⟨⟨_, _, rfl⟩, rfl⟩ rfl ?_
      refine w_call (q := 56) (n := 2) (vs := [.inr (.inr (some 70)), .inl r1]) (rest := []) (la := [oR 70, oI r1, none, none]) hm67 ⟨⟨_, _, rfl⟩, rfl⟩ rfl rfl rfl rfl hm65 rfl rfl (fun _ => ⟨_, _, rfl, rfl⟩) rfl (Wp.mono h ?_)
      rintro _ m14 ⟨r14, rfl, h⟩
      change Wp _ _ 56 _ [.inl r14] _ _
      refine w_istore_n (q := 57) (l' := [oR 70, oI r1, oI r14, none, none]) hm67 ⟨⟨_, _, rfl⟩, rfl⟩ rfl rfl rfl ?_
      refine w_aload_n (q := 58) hm67 ⟨⟨_, _, rfl⟩, rfl⟩ rfl ?_
      refine w_call (q := 61) (n := 2) (vs := [.inr (.inr (some 70))]) (rest := []) (la := [oR 70, none, none]) hm67 ⟨⟨_, _, rfl⟩, rfl⟩ rfl rfl rfl rfl hm66 rfl rfl (fun _ => ⟨_, _, rfl, rfl⟩) rfl (Wp.mono h ?_)
      rintro _ m15 ⟨r15, rfl, h⟩
      change Wp _ _ 61 _ [.inl r15] _ _
      refine w_istore_n (q := 62) (l' := [oR 70, oI r1, oI r14, oI r15, none]) hm67 ⟨⟨_, _, rfl⟩, rfl⟩ rfl rfl rfl ?_
      refine w_aload_n (q := 63) hm67 ⟨⟨_, _, rfl⟩, rfl⟩ rfl ?_
      refine w_getr (q := 66) hm67 ⟨⟨_, _, rfl⟩, rfl⟩ rfl ?_
      refine w_bipush (q := 68) hm67 ⟨⟨_, _, rfl⟩, rfl⟩ bipush_56 ?_
      refine w_aload_n (q := 69) hm67 ⟨⟨_, _, rfl⟩, rfl⟩ rfl ?_
      refine w_getr (q := 72) hm67 ⟨⟨_, _, rfl⟩, rfl⟩ rfl ?_
      refine w_bipush (q := 74) hm67 ⟨⟨_, _, rfl⟩, rfl⟩ bipush_56 ?_
      refine w_iald (q := 75) (j := 56) (v := (m15.1 108 56)) hm67 ⟨⟨_, _, rfl⟩, rfl⟩ rfl (by decide) (by decide) rfl ?_
      refine w_iload_n (q := 76) hm67 ⟨⟨_, _, rfl⟩, rfl⟩ rfl ?_
      refine w_iadd (q := 77) hm67 ⟨⟨_, _, rfl⟩, rfl⟩ ?_
      refine w_iconst (q := 78) hm67 ⟨⟨_, _, rfl⟩, rfl⟩ iconst_0 ?_
      refine w_ldc_w (q := 81) hm67 ⟨⟨_, _, rfl⟩, rfl⟩ ldc_99999 ?_
      refine w_call (q := 84) (n := 0) (vs := [.inl ((m15.1 108 56) + r14), .inl (0 : Int32), .inl (99999 : Int32)]) (rest := [.inl (56 : Int32), .inr (.inr (some 108))]) (la := [oI ((m15.1 108 56) + r14), oI (0 : Int32), oI (99999 : Int32)]) hm67 ⟨⟨_, _, rfl⟩, rfl⟩ rfl rfl rfl rfl hm37 rfl rfl (fun hz => absurd hz (by decide)) rfl (Wp.mono h ?_)
      rintro _ m16 ⟨r16, rfl, h⟩
      change Wp _ _ 84 _ [.inl r16, .inl (56 : Int32), .inr (.inr (some 108))] _ _
      refine w_iast (q := 85) (j := 56) hm67 ⟨⟨_, _, rfl⟩, rfl⟩ rfl (by decide) (by decide) rfl ?_
      refine w_aload_n (q := 86) hm67 ⟨⟨_, _, rfl⟩, rfl⟩ rfl ?_
      refine w_getr (q := 89) hm67 ⟨⟨_, _, rfl⟩, rfl⟩ rfl ?_
      refine w_bipush (q := 91) hm67 ⟨⟨_, _, rfl⟩, rfl⟩ bipush_57 ?_
      refine w_aload_n (q := 92) hm67 ⟨⟨_, _, rfl⟩, rfl⟩ rfl ?_
      refine w_getr (q := 95) hm67 ⟨⟨_, _, rfl⟩, rfl⟩ rfl ?_
      refine w_bipush (q := 97) hm67 ⟨⟨_, _, rfl⟩, rfl⟩ bipush_57 ?_
      refine w_iald (q := 98) (j := 57) (v := (m16.1 108 57)) hm67 ⟨⟨_, _, rfl⟩, rfl⟩ rfl (by decide) (by decide) rfl ?_
      refine w_iload_n (q := 99) hm67 ⟨⟨_, _, rfl⟩, rfl⟩ rfl ?_
      refine w_iadd (q := 100) hm67 ⟨⟨_, _, rfl⟩, rfl⟩ ?_
      refine w_iconst (q := 101) hm67 ⟨⟨_, _, rfl⟩, rfl⟩ iconst_0 ?_
      refine w_ldc_w (q := 104) hm67 ⟨⟨_, _, rfl⟩, rfl⟩ ldc_999999 ?_
      refine w_call (q := 107) (n := 0) (vs := [.inl ((m16.1 108 57) + r15), .inl (0 : Int32), .inl (999999 : Int32)]) (rest := [.inl (57 : Int32), .inr (.inr (some 108))]) (la := [oI ((m16.1 108 57) + r15), oI (0 : Int32), oI (999999 : Int32)]) hm67 ⟨⟨_, _, rfl⟩, rfl⟩ rfl rfl rfl rfl hm37 rfl rfl (fun hz => absurd hz (by decide)) rfl (Wp.mono h ?_)
      rintro _ m17 ⟨r17, rfl, h⟩
      change Wp _ _ 107 _ [.inl r17, .inl (57 : Int32), .inr (.inr (some 108))] _ _
      refine w_iast (q := 108) (j := 57) hm67 ⟨⟨_, _, rfl⟩, rfl⟩ rfl (by decide) (by decide) rfl ?_
      refine w_iconst (q := 109) hm67 ⟨⟨_, _, rfl⟩, rfl⟩ iconst_0 ?_
      refine w_istore (q := 111) (l' := [oR 70, oI r1, oI r14, oI r15, oI (0 : Int32)]) hm67 ⟨⟨_, _, rfl⟩, rfl⟩ rfl rfl rfl ?_
      exact Wp.wk [true, false, false, false, true] h
theorem v_X12_hourGoes_70_111 {d : Nat} {x4 : Int32} {m : dM} {Q : dM → Prop} (h : ((0 ≤ (m.1 70 18).toInt ∧ (m.1 70 18).toInt < 2) ∧ (((m.1 80 (m.1 70 18).toNatClampNeg).toInt ≤ x4.toInt → j_X12_hourGoes_70_169 (d + 1) (0 : Int32) m Q) ∧ (x4.toInt < (m.1 80 (m.1 70 18).toNatClampNeg).toInt → c_X12_isLit_70 d x4 m (fun r1 m1 => ((r1.toInt = 0 → ((0 ≤ ((40 : Int32) + x4).toInt ∧ ((40 : Int32) + x4).toInt < 58) ∧ ((0 ≤ ((40 : Int32) + x4).toInt ∧ ((40 : Int32) + x4).toInt < 58) ∧ j_X12_hourGoes_70_111 (d + 1) (x4 + (1 : Int32)) (dSet m1 108 ((40 : Int32) + x4).toNatClampNeg ((m1.1 108 ((40 : Int32) + x4).toNatClampNeg) + (1 : Int32))) Q))) ∧ (r1.toInt ≠ 0 → ((0 ≤ ((40 : Int32) + x4).toInt ∧ ((40 : Int32) + x4).toInt < 58) ∧ j_X12_hourGoes_70_111 (d + 1) (x4 + (1 : Int32)) (dSet m1 108 ((40 : Int32) + x4).toNatClampNeg (0 : Int32)) Q)))))))) : j_X12_hourGoes_70_111 (d + 1) x4 m Q := by
  refine w_iload (q := 113) hm67 ⟨⟨_, _, rfl⟩, rfl⟩ rfl ?_
  refine w_aload_n (q := 114) hm67 ⟨⟨_, _, rfl⟩, rfl⟩ rfl ?_
  refine w_getr (q := 117) hm67 ⟨⟨_, _, rfl⟩, rfl⟩ rfl ?_
  refine w_aload_n (q := 118) hm67 ⟨⟨_, _, rfl⟩, rfl⟩ rfl ?_
  refine w_getf (q := 121) (v := (m.1 70 18)) hm67 ⟨⟨_, _, rfl⟩, rfl⟩ rfl rfl ?_
  obtain ⟨hi, h⟩ := h
  refine w_iald (q := 122) (v := (m.1 80 (m.1 70 18).toNatClampNeg)) hm67 ⟨⟨_, _, rfl⟩, rfl⟩ rfl hi rfl rfl ?_
  refine w_icmp_ge (q := 125) (X := x4.toInt) (Y := (m.1 80 (m.1 70 18).toNatClampNeg).toInt) hm67 ⟨⟨_, _, rfl⟩, rfl⟩ rfl rfl (fun hc => ?_) (fun hc => ?_)
  · have h := h.1 hc
    refine w_iconst (q := 167) hm67 ⟨⟨_, _, rfl⟩, rfl⟩ iconst_0 ?_
    refine w_istore (q := 169) (l' := [oR 70, none, none, none, oI (0 : Int32)]) hm67 ⟨⟨_, _, rfl⟩, rfl⟩ rfl rfl rfl ?_
    exact h
  · have h := h.2 hc
    refine w_aload_n (q := 126) hm67 ⟨⟨_, _, rfl⟩, rfl⟩ rfl ?_
    refine w_getr (q := 129) hm67 ⟨⟨_, _, rfl⟩, rfl⟩ rfl ?_
    refine w_bipush (q := 131) hm67 ⟨⟨_, _, rfl⟩, rfl⟩ bipush_40 ?_
    refine w_iload (q := 133) hm67 ⟨⟨_, _, rfl⟩, rfl⟩ rfl ?_
    refine w_iadd (q := 134) hm67 ⟨⟨_, _, rfl⟩, rfl⟩ ?_
    refine w_aload_n (q := 135) hm67 ⟨⟨_, _, rfl⟩, rfl⟩ rfl ?_
    refine w_iload (q := 137) hm67 ⟨⟨_, _, rfl⟩, rfl⟩ rfl ?_
    refine w_call (q := 140) (n := 0) (vs := [.inr (.inr (some 70)), .inl x4]) (rest := [.inl ((40 : Int32) + x4), .inr (.inr (some 108))]) (la := [oR 70, oI x4]) hm67 ⟨⟨_, _, rfl⟩, rfl⟩ rfl rfl rfl rfl hm51 rfl rfl (fun _ => ⟨_, _, rfl, rfl⟩) rfl (Wp.mono h ?_)
    rintro _ m1 ⟨r1, rfl, h⟩
    change Wp _ _ 140 _ [.inl r1, .inl ((40 : Int32) + x4), .inr (.inr (some 108))] _ _
    refine w_if_eq (q := 143) (X := r1.toInt) hm67 ⟨⟨_, _, rfl⟩, rfl⟩ rfl (fun hc => ?_) (fun hc => ?_)
    · have h := h.1 hc
      refine w_aload_n (q := 148) hm67 ⟨⟨_, _, rfl⟩, rfl⟩ rfl ?_
      refine w_getr (q := 151) hm67 ⟨⟨_, _, rfl⟩, rfl⟩ rfl ?_
      refine w_bipush (q := 153) hm67 ⟨⟨_, _, rfl⟩, rfl⟩ bipush_40 ?_
      refine w_iload (q := 155) hm67 ⟨⟨_, _, rfl⟩, rfl⟩ rfl ?_
      refine w_iadd (q := 156) hm67 ⟨⟨_, _, rfl⟩, rfl⟩ ?_
      obtain ⟨hi, h⟩ := h
      refine w_iald (q := 157) (v := (m1.1 108 ((40 : Int32) + x4).toNatClampNeg)) hm67 ⟨⟨_, _, rfl⟩, rfl⟩ rfl hi rfl rfl ?_
      refine w_iconst (q := 158) hm67 ⟨⟨_, _, rfl⟩, rfl⟩ iconst_1 ?_
      refine w_iadd (q := 159) hm67 ⟨⟨_, _, rfl⟩, rfl⟩ ?_
      obtain ⟨hi, h⟩ := h
      refine w_iast (q := 160) hm67 ⟨⟨_, _, rfl⟩, rfl⟩ rfl hi rfl rfl ?_
      refine w_iinc (q := 163) (l' := [oR 70, none, none, none, oI (x4 + (1 : Int32))]) hm67 ⟨⟨_, _, rfl⟩, rfl⟩ rfl rfl rfl iconst_1 rfl ?_
      refine w_goto (q := 111) hm67 ⟨_, _, rfl⟩ ?_
      exact h
    · have h := h.2 hc
      refine w_iconst (q := 144) hm67 ⟨⟨_, _, rfl⟩, rfl⟩ iconst_0 ?_
      refine w_goto (q := 159) hm67 ⟨_, _, rfl⟩ ?_
      obtain ⟨hi, h⟩ := h
      refine w_iast (q := 160) hm67 ⟨⟨_, _, rfl⟩, rfl⟩ rfl hi rfl rfl ?_
      refine w_iinc (q := 163) (l' := [oR 70, none, none, none, oI (x4 + (1 : Int32))]) hm67 ⟨⟨_, _, rfl⟩, rfl⟩ rfl rfl rfl iconst_1 rfl ?_
      refine w_goto (q := 111) hm67 ⟨_, _, rfl⟩ ?_
      exact h
theorem v_X12_hourGoes_70_169 {d : Nat} {x4 : Int32} {m : dM} {Q : dM → Prop} (h : ((0 ≤ (m.1 70 18).toInt ∧ (m.1 70 18).toInt < 2) ∧ (((m.1 82 (m.1 70 18).toNatClampNeg).toInt ≤ x4.toInt → (((m.1 70 60).toInt = 0 → j_X12_hourGoes_70_284 (d + 1) (dSet m 108 55 ((m.1 108 55) + (1 : Int32))) Q) ∧ ((m.1 70 60).toInt ≠ 0 → c_X12_fillsWays_70 d (dSet m 108 55 ((m.1 108 55) + (1 : Int32))) (fun m1 => j_X12_hourGoes_70_284 (d + 1) m1 Q)))) ∧ (x4.toInt < (m.1 82 (m.1 70 18).toNatClampNeg).toInt → ((0 ≤ ((10 : Int32) + x4).toInt ∧ ((10 : Int32) + x4).toInt < 58) ∧ (((m.1 108 ((10 : Int32) + x4).toNatClampNeg).toInt ≠ 1 → (((((m.1 70 60) >>> (x4 &&& 31)) &&& (1 : Int32)).toInt ≠ 1 → ((0 ≤ ((20 : Int32) + x4).toInt ∧ ((20 : Int32) + x4).toInt < 58) ∧ c_X12_within d ((m.1 108 ((20 : Int32) + x4).toNatClampNeg) + (1 : Int32)) (0 : Int32) (999 : Int32) m (fun r2 m2 => ((0 ≤ ((20 : Int32) + x4).toInt ∧ ((20 : Int32) + x4).toInt < 58) ∧ j_X12_hourGoes_70_256 (d + 1) x4 (dSet m2 108 ((20 : Int32) + x4).toNatClampNeg r2) Q)))) ∧ ((((m.1 70 60) >>> (x4 &&& 31)) &&& (1 : Int32)).toInt = 1 → ((0 ≤ ((10 : Int32) + x4).toInt ∧ ((10 : Int32) + x4).toInt < 58) ∧ j_X12_hourGoes_70_256 (d + 1) x4 (dSet m 108 ((10 : Int32) + x4).toNatClampNeg (1 : Int32)) Q)))) ∧ ((m.1 108 ((10 : Int32) + x4).toNatClampNeg).toInt = 1 → j_X12_hourGoes_70_256 (d + 1) x4 m Q))))))) : j_X12_hourGoes_70_169 (d + 1) x4 m Q := by
  refine w_iload (q := 171) hm67 ⟨⟨_, _, rfl⟩, rfl⟩ rfl ?_
  refine w_aload_n (q := 172) hm67 ⟨⟨_, _, rfl⟩, rfl⟩ rfl ?_
  refine w_getr (q := 175) hm67 ⟨⟨_, _, rfl⟩, rfl⟩ rfl ?_
  refine w_aload_n (q := 176) hm67 ⟨⟨_, _, rfl⟩, rfl⟩ rfl ?_
  refine w_getf (q := 179) (v := (m.1 70 18)) hm67 ⟨⟨_, _, rfl⟩, rfl⟩ rfl rfl ?_
  obtain ⟨hi, h⟩ := h
  refine w_iald (q := 180) (v := (m.1 82 (m.1 70 18).toNatClampNeg)) hm67 ⟨⟨_, _, rfl⟩, rfl⟩ rfl hi rfl rfl ?_
  refine w_icmp_ge (q := 183) (X := x4.toInt) (Y := (m.1 82 (m.1 70 18).toNatClampNeg).toInt) hm67 ⟨⟨_, _, rfl⟩, rfl⟩ rfl rfl (fun hc => ?_) (fun hc => ?_)
  · have h := h.1 hc
    refine w_aload_n (q := 263) hm67 ⟨⟨_, _, rfl⟩, rfl⟩ rfl ?_
    refine w_getr (q := 266) hm67 ⟨⟨_, _, rfl⟩, rfl⟩ rfl ?_
    refine w_bipush (q := 268) hm67 ⟨⟨_, _, rfl⟩, rfl⟩ bipush_55 ?_
    refine w_dup2 (q := 269) hm67 ⟨⟨_, _, rfl⟩, rfl⟩ rfl ?_
    refine w_iald (q := 270) (j := 55) (v := (m.1 108 55)) hm67 ⟨⟨_, _, rfl⟩, rfl⟩ rfl (by decide) (by decide) rfl ?_
    refine w_iconst (q := 271) hm67 ⟨⟨_, _, rfl⟩, rfl⟩ iconst_1 ?_
    refine w_iadd (q := 272) hm67 ⟨⟨_, _, rfl⟩, rfl⟩ ?_
    refine w_iast (q := 273) (j := 55) hm67 ⟨⟨_, _, rfl⟩, rfl⟩ rfl (by decide) (by decide) rfl ?_
    refine w_aload_n (q := 274) hm67 ⟨⟨_, _, rfl⟩, rfl⟩ rfl ?_
    refine w_getf (q := 277) (v := (m.1 70 60)) hm67 ⟨⟨_, _, rfl⟩, rfl⟩ rfl rfl ?_
    refine w_if_eq (q := 280) (X := (m.1 70 60).toInt) hm67 ⟨⟨_, _, rfl⟩, rfl⟩ rfl (fun hc => ?_) (fun hc => ?_)
    · have h := h.1 hc
      exact Wp.wk [false, false, false, false, false] h
    · have h := h.2 hc
      refine w_aload_n (q := 281) hm67 ⟨⟨_, _, rfl⟩, rfl⟩ rfl ?_
      refine w_call (q := 284) (n := 4) (vs := [.inr (.inr (some 70))]) (rest := []) (la := [oR 70, none, none, none, none]) hm67 ⟨⟨_, _, rfl⟩, rfl⟩ rfl rfl rfl rfl hm50 rfl rfl (fun _ => ⟨_, _, rfl, rfl⟩) rfl (Wp.mono h ?_)
      rintro _ m1 ⟨rfl, h⟩
      change Wp _ _ 284 _ [] _ _
      exact Wp.wk [false, false, false, false, false] h
  · have h := h.2 hc
    refine w_aload_n (q := 184) hm67 ⟨⟨_, _, rfl⟩, rfl⟩ rfl ?_
    refine w_getr (q := 187) hm67 ⟨⟨_, _, rfl⟩, rfl⟩ rfl ?_
    refine w_bipush (q := 189) hm67 ⟨⟨_, _, rfl⟩, rfl⟩ bipush_10 ?_
    refine w_iload (q := 191) hm67 ⟨⟨_, _, rfl⟩, rfl⟩ rfl ?_
    refine w_iadd (q := 192) hm67 ⟨⟨_, _, rfl⟩, rfl⟩ ?_
    obtain ⟨hi, h⟩ := h
    refine w_iald (q := 193) (v := (m.1 108 ((10 : Int32) + x4).toNatClampNeg)) hm67 ⟨⟨_, _, rfl⟩, rfl⟩ rfl hi rfl rfl ?_
    refine w_iconst (q := 194) hm67 ⟨⟨_, _, rfl⟩, rfl⟩ iconst_1 ?_
    refine w_icmp_ne (q := 197) (X := (m.1 108 ((10 : Int32) + x4).toNatClampNeg).toInt) (Y := 1) hm67 ⟨⟨_, _, rfl⟩, rfl⟩ rfl (by decide) (fun hc => ?_) (fun hc => ?_)
    · have h := h.1 hc
      refine w_aload_n (q := 201) hm67 ⟨⟨_, _, rfl⟩, rfl⟩ rfl ?_
      refine w_getf (q := 204) (v := (m.1 70 60)) hm67 ⟨⟨_, _, rfl⟩, rfl⟩ rfl rfl ?_
      refine w_iload (q := 206) hm67 ⟨⟨_, _, rfl⟩, rfl⟩ rfl ?_
      refine w_ishr (q := 207) hm67 ⟨⟨_, _, rfl⟩, rfl⟩ ?_
      refine w_iconst (q := 208) hm67 ⟨⟨_, _, rfl⟩, rfl⟩ iconst_1 ?_
      refine w_iand (q := 209) hm67 ⟨⟨_, _, rfl⟩, rfl⟩ ?_
      refine w_iconst (q := 210) hm67 ⟨⟨_, _, rfl⟩, rfl⟩ iconst_1 ?_
      refine w_icmp_ne (q := 213) (X := (((m.1 70 60) >>> (x4 &&& 31)) &&& (1 : Int32)).toInt) (Y := 1) hm67 ⟨⟨_, _, rfl⟩, rfl⟩ rfl (by decide) (fun hc => ?_) (fun hc => ?_)
      · have h := h.1 hc
        refine w_aload_n (q := 228) hm67 ⟨⟨_, _, rfl⟩, rfl⟩ rfl ?_
        refine w_getr (q := 231) hm67 ⟨⟨_, _, rfl⟩, rfl⟩ rfl ?_
        refine w_bipush (q := 233) hm67 ⟨⟨_, _, rfl⟩, rfl⟩ bipush_20 ?_
        refine w_iload (q := 235) hm67 ⟨⟨_, _, rfl⟩, rfl⟩ rfl ?_
        refine w_iadd (q := 236) hm67 ⟨⟨_, _, rfl⟩, rfl⟩ ?_
        refine w_aload_n (q := 237) hm67 ⟨⟨_, _, rfl⟩, rfl⟩ rfl ?_
        refine w_getr (q := 240) hm67 ⟨⟨_, _, rfl⟩, rfl⟩ rfl ?_
        refine w_bipush (q := 242) hm67 ⟨⟨_, _, rfl⟩, rfl⟩ bipush_20 ?_
        refine w_iload (q := 244) hm67 ⟨⟨_, _, rfl⟩, rfl⟩ rfl ?_
        refine w_iadd (q := 245) hm67 ⟨⟨_, _, rfl⟩, rfl⟩ ?_
        obtain ⟨hi, h⟩ := h
        refine w_iald (q := 246) (v := (m.1 108 ((20 : Int32) + x4).toNatClampNeg)) hm67 ⟨⟨_, _, rfl⟩, rfl⟩ rfl hi rfl rfl ?_
        refine w_iconst (q := 247) hm67 ⟨⟨_, _, rfl⟩, rfl⟩ iconst_1 ?_
        refine w_iadd (q := 248) hm67 ⟨⟨_, _, rfl⟩, rfl⟩ ?_
        refine w_iconst (q := 249) hm67 ⟨⟨_, _, rfl⟩, rfl⟩ iconst_0 ?_
        refine w_sipush (q := 252) hm67 ⟨⟨_, _, rfl⟩, rfl⟩ sipush_999 ?_
        refine w_call (q := 255) (n := 0) (vs := [.inl ((m.1 108 ((20 : Int32) + x4).toNatClampNeg) + (1 : Int32)), .inl (0 : Int32), .inl (999 : Int32)]) (rest := [.inl ((20 : Int32) + x4), .inr (.inr (some 108))]) (la := [oI ((m.1 108 ((20 : Int32) + x4).toNatClampNeg) + (1 : Int32)), oI (0 : Int32), oI (999 : Int32)]) hm67 ⟨⟨_, _, rfl⟩, rfl⟩ rfl rfl rfl rfl hm37 rfl rfl (fun hz => absurd hz (by decide)) rfl (Wp.mono h ?_)
        rintro _ m2 ⟨r2, rfl, h⟩
        change Wp _ _ 255 _ [.inl r2, .inl ((20 : Int32) + x4), .inr (.inr (some 108))] _ _
        obtain ⟨hi, h⟩ := h
        refine w_iast (q := 256) hm67 ⟨⟨_, _, rfl⟩, rfl⟩ rfl hi rfl rfl ?_
        exact h
      · have h := h.2 hc
        refine w_aload_n (q := 214) hm67 ⟨⟨_, _, rfl⟩, rfl⟩ rfl ?_
        refine w_getr (q := 217) hm67 ⟨⟨_, _, rfl⟩, rfl⟩ rfl ?_
        refine w_bipush (q := 219) hm67 ⟨⟨_, _, rfl⟩, rfl⟩ bipush_10 ?_
        refine w_iload (q := 221) hm67 ⟨⟨_, _, rfl⟩, rfl⟩ rfl ?_
        refine w_iadd (q := 222) hm67 ⟨⟨_, _, rfl⟩, rfl⟩ ?_
        refine w_iconst (q := 223) hm67 ⟨⟨_, _, rfl⟩, rfl⟩ iconst_1 ?_
        obtain ⟨hi, h⟩ := h
        refine w_iast (q := 224) hm67 ⟨⟨_, _, rfl⟩, rfl⟩ rfl hi rfl rfl ?_
        refine w_goto (q := 256) hm67 ⟨_, _, rfl⟩ ?_
        exact h
    · have h := h.2 hc
      refine w_goto (q := 256) hm67 ⟨_, _, rfl⟩ ?_
      exact h
theorem v_X12_hourGoes_70_256 {d : Nat} {x4 : Int32} {m : dM} {Q : dM → Prop} (h : j_X12_hourGoes_70_169 (d + 1) (x4 + (1 : Int32)) m Q) : j_X12_hourGoes_70_256 (d + 1) x4 m Q := by
  refine w_iinc (q := 259) (l' := [oR 70, none, none, none, oI (x4 + (1 : Int32))]) hm67 ⟨⟨_, _, rfl⟩, rfl⟩ rfl rfl rfl iconst_1 rfl ?_
  refine w_goto (q := 169) hm67 ⟨_, _, rfl⟩ ?_
  exact h
theorem v_X12_hourGoes_70_284 {d : Nat} {m : dM} {Q : dM → Prop} (h : Q m) : j_X12_hourGoes_70_284 (d + 1) m Q := by
  exact w_retv hm67 ⟨⟨_, _, rfl⟩, rfl⟩ rfl h
theorem v_X12_goes_70 {d : Nat} {x1 : Int32} {m : dM} {Q : dM → Prop} (h : j_X12_goes_70_2 (d + 1) x1 (0 : Int32) m Q) : c_X12_goes_70 (d + 1) x1 m Q := by
  refine w_iconst (q := 1) hm68 ⟨⟨_, _, rfl⟩, rfl⟩ iconst_0 ?_
  refine w_istore_n (q := 2) (l' := [oR 70, oI x1, oI (0 : Int32)]) hm68 ⟨⟨_, _, rfl⟩, rfl⟩ rfl rfl rfl ?_
  exact h
theorem v_X12_goes_70_2 {d : Nat} {x1 : Int32} {x2 : Int32} {m : dM} {Q : dM → Prop} (h : ((x1.toInt ≤ x2.toInt → Q m) ∧ (x2.toInt < x1.toInt → c_X12_hourGoes_70 d m (fun m1 => j_X12_goes_70_2 (d + 1) x1 (x2 + (1 : Int32)) m1 Q)))) : j_X12_goes_70_2 (d + 1) x1 x2 m Q := by
  refine w_iload_n (q := 3) hm68 ⟨⟨_, _, rfl⟩, rfl⟩ rfl ?_
  refine w_iload_n (q := 4) hm68 ⟨⟨_, _, rfl⟩, rfl⟩ rfl ?_
  refine w_icmp_ge (q := 7) (X := x2.toInt) (Y := x1.toInt) hm68 ⟨⟨_, _, rfl⟩, rfl⟩ rfl rfl (fun hc => ?_) (fun hc => ?_)
  · have h := h.1 hc
    exact w_retv hm68 ⟨⟨_, _, rfl⟩, rfl⟩ rfl h
  · have h := h.2 hc
    refine w_aload_n (q := 8) hm68 ⟨⟨_, _, rfl⟩, rfl⟩ rfl ?_
    refine w_call (q := 11) (n := 4) (vs := [.inr (.inr (some 70))]) (rest := []) (la := [oR 70, none, none, none, none]) hm68 ⟨⟨_, _, rfl⟩, rfl⟩ rfl rfl rfl rfl hm67 rfl rfl (fun _ => ⟨_, _, rfl, rfl⟩) rfl (Wp.mono h ?_)
    rintro _ m1 ⟨rfl, h⟩
    change Wp _ _ 11 _ [] _ _
    refine w_iinc (q := 14) (l' := [oR 70, oI x1, oI (x2 + (1 : Int32))]) hm68 ⟨⟨_, _, rfl⟩, rfl⟩ rfl rfl rfl iconst_1 rfl ?_
    refine w_goto (q := 2) hm68 ⟨_, _, rfl⟩ ?_
    exact h
theorem v_X12_hours_70 {d : Nat} {x1 : Int32} {m : dM} {Q : Int32 → dM → Prop} (h : c_X12_isLong d x1 m (fun r1 m1 => ((r1.toInt ≠ 0 → ((x1.toInt ≠ 0 → c_X12_copies_70 d m1 (fun m2 => c_X12_goes_70 d x1 m2 (fun m3 => c_X12_records_70 d m3 (fun m4 => Q (m4.1 107 55) m4)))) ∧ (x1.toInt = 0 → Q (m1.1 107 55) m1))) ∧ (r1.toInt = 0 → Q (-1 : Int32) m1)))) : c_X12_hours_70 (d + 1) x1 m Q := by
  refine w_iload_n (q := 1) hm79 ⟨⟨_, _, rfl⟩, rfl⟩ rfl ?_
  refine w_call (q := 4) (n := 0) (vs := [.inl x1]) (rest := []) (la := [oI x1]) hm79 ⟨⟨_, _, rfl⟩, rfl⟩ rfl rfl rfl rfl hm78 rfl rfl (fun hz => absurd hz (by decide)) rfl (Wp.mono h ?_)
  rintro _ m1 ⟨r1, rfl, h⟩
  change Wp _ _ 4 _ [.inl r1] _ _
  refine w_if_ne (q := 7) (X := r1.toInt) hm79 ⟨⟨_, _, rfl⟩, rfl⟩ rfl (fun hc => ?_) (fun hc => ?_)
  · have h := h.1 hc
    refine w_iload_n (q := 10) hm79 ⟨⟨_, _, rfl⟩, rfl⟩ rfl ?_
    refine w_if_ne (q := 13) (X := x1.toInt) hm79 ⟨⟨_, _, rfl⟩, rfl⟩ rfl (fun hc => ?_) (fun hc => ?_)
    · have h := h.1 hc
      refine w_aload_n (q := 22) hm79 ⟨⟨_, _, rfl⟩, rfl⟩ rfl ?_
      refine w_call (q := 25) (n := 1) (vs := [.inr (.inr (some 70))]) (rest := []) (la := [oR 70, none]) hm79 ⟨⟨_, _, rfl⟩, rfl⟩ rfl rfl rfl rfl hm44 rfl rfl (fun _ => ⟨_, _, rfl, rfl⟩) rfl (Wp.mono h ?_)
      rintro _ m2 ⟨rfl, h⟩
      change Wp _ _ 25 _ [] _ _
      refine w_aload_n (q := 26) hm79 ⟨⟨_, _, rfl⟩, rfl⟩ rfl ?_
      refine w_iload_n (q := 27) hm79 ⟨⟨_, _, rfl⟩, rfl⟩ rfl ?_
      refine w_call (q := 30) (n := 1) (vs := [.inr (.inr (some 70)), .inl x1]) (rest := []) (la := [oR 70, oI x1, none]) hm79 ⟨⟨_, _, rfl⟩, rfl⟩ rfl rfl rfl rfl hm68 rfl rfl (fun _ => ⟨_, _, rfl, rfl⟩) rfl (Wp.mono h ?_)
      rintro _ m3 ⟨rfl, h⟩
      change Wp _ _ 30 _ [] _ _
      refine w_aload_n (q := 31) hm79 ⟨⟨_, _, rfl⟩, rfl⟩ rfl ?_
      refine w_call (q := 34) (n := 1) (vs := [.inr (.inr (some 70))]) (rest := []) (la := [oR 70, none]) hm79 ⟨⟨_, _, rfl⟩, rfl⟩ rfl rfl rfl rfl hm73 rfl rfl (fun _ => ⟨_, _, rfl, rfl⟩) rfl (Wp.mono h ?_)
      rintro _ m4 ⟨rfl, h⟩
      change Wp _ _ 34 _ [] _ _
      refine w_aload_n (q := 35) hm79 ⟨⟨_, _, rfl⟩, rfl⟩ rfl ?_
      refine w_getr (q := 38) hm79 ⟨⟨_, _, rfl⟩, rfl⟩ rfl ?_
      refine w_bipush (q := 40) hm79 ⟨⟨_, _, rfl⟩, rfl⟩ bipush_55 ?_
      refine w_iald (q := 41) (j := 55) (v := (m4.1 107 55)) hm79 ⟨⟨_, _, rfl⟩, rfl⟩ rfl (by decide) (by decide) rfl ?_
      exact w_reti hm79 ⟨⟨_, _, rfl⟩, rfl⟩ rfl h
    · have h := h.2 hc
      refine w_aload_n (q := 14) hm79 ⟨⟨_, _, rfl⟩, rfl⟩ rfl ?_
      refine w_getr (q := 17) hm79 ⟨⟨_, _, rfl⟩, rfl⟩ rfl ?_
      refine w_bipush (q := 19) hm79 ⟨⟨_, _, rfl⟩, rfl⟩ bipush_55 ?_
      refine w_iald (q := 20) (j := 55) (v := (m1.1 107 55)) hm79 ⟨⟨_, _, rfl⟩, rfl⟩ rfl (by decide) (by decide) rfl ?_
      exact w_reti hm79 ⟨⟨_, _, rfl⟩, rfl⟩ rfl h
  · have h := h.2 hc
    refine w_iconst (q := 8) hm79 ⟨⟨_, _, rfl⟩, rfl⟩ iconst_m1 ?_
    exact w_reti hm79 ⟨⟨_, _, rfl⟩, rfl⟩ rfl h
theorem v_X7_readFrom_47_52 {d : Nat} {x2 : Int32} {m : dM} {Q : dM → Prop} (h : ((x2.toInt < 0 → j_X7_readFrom_47_52_13 (d + 1) m Q) ∧ (0 ≤ x2.toInt → ((x2.toInt ≤ ((1320 : Int32) - (33 : Int32)).toInt → ((0 ≤ x2.toInt ∧ x2.toInt < 1320) ∧ ((0 ≤ (x2 + (1 : Int32)).toInt ∧ (x2 + (1 : Int32)).toInt < 1320) ∧ ((0 ≤ (x2 + (2 : Int32)).toInt ∧ (x2 + (2 : Int32)).toInt < 1320) ∧ ((0 ≤ (x2 + (3 : Int32)).toInt ∧ (x2 + (3 : Int32)).toInt < 1320) ∧ ((0 ≤ (x2 + (4 : Int32)).toInt ∧ (x2 + (4 : Int32)).toInt < 1320) ∧ ((0 ≤ (x2 + (5 : Int32)).toInt ∧ (x2 + (5 : Int32)).toInt < 1320) ∧ ((0 ≤ (10 : Int) ∧ 0 ≤ (0 : Int) ∧ 0 ≤ (x2 + (6 : Int32)).toInt ∧ (x2 + (6 : Int32)).toInt + (10 : Int) ≤ 1320 ∧ (0 : Int) + (10 : Int) ≤ 10) ∧ ((0 ≤ (10 : Int) ∧ 0 ≤ (0 : Int) ∧ 0 ≤ ((x2 + (6 : Int32)) + (10 : Int32)).toInt ∧ ((x2 + (6 : Int32)) + (10 : Int32)).toInt + (10 : Int) ≤ 1320 ∧ (0 : Int) + (10 : Int) ≤ 10) ∧ ((0 ≤ (7 : Int) ∧ 0 ≤ (0 : Int) ∧ 0 ≤ ((x2 + (6 : Int32)) + (20 : Int32)).toInt ∧ ((x2 + (6 : Int32)) + (20 : Int32)).toInt + (7 : Int) ≤ 1320 ∧ (0 : Int) + (7 : Int) ≤ 7) ∧ Q (dCpy (dCpy (dCpy (dSet (dSet (dSet (dSet (dSet (dSet m 47 0 (m.1 52 x2.toNatClampNeg)) 47 1 (m.1 52 (x2 + (1 : Int32)).toNatClampNeg)) 47 2 (m.1 52 (x2 + (2 : Int32)).toNatClampNeg)) 47 3 (m.1 52 (x2 + (3 : Int32)).toNatClampNeg)) 47 4 (m.1 52 (x2 + (4 : Int32)).toNatClampNeg)) 47 5 (m.1 52 (x2 + (5 : Int32)).toNatClampNeg)) 52 ((x2 + (6 : Int32)).toInt).toNat 48 (0 : Int).toNat (10 : Int).toNat) 52 (((x2 + (6 : Int32)) + (10 : Int32)).toInt).toNat 49 (0 : Int).toNat (10 : Int).toNat) 52 (((x2 + (6 : Int32)) + (20 : Int32)).toInt).toNat 50 (0 : Int).toNat (7 : Int).toNat))))))))))) ∧ (((1320 : Int32) - (33 : Int32)).toInt < x2.toInt → j_X7_readFrom_47_52_13 (d + 1) m Q))))) : c_X7_readFrom_47_52 (d + 1) x2 m Q := by
  refine w_iload_n (q := 1) hm211 ⟨⟨_, _, rfl⟩, rfl⟩ rfl ?_
  refine w_if_lt (q := 4) (X := x2.toInt) hm211 ⟨⟨_, _, rfl⟩, rfl⟩ rfl (fun hc => ?_) (fun hc => ?_)
  · have h := h.1 hc
    exact Wp.wk [false, false, false] h
  · have h := h.2 hc
    refine w_iload_n (q := 5) hm211 ⟨⟨_, _, rfl⟩, rfl⟩ rfl ?_
    refine w_aload_n (q := 6) hm211 ⟨⟨_, _, rfl⟩, rfl⟩ rfl ?_
    refine w_alen (q := 7) hm211 ⟨⟨_, _, rfl⟩, rfl⟩ rfl alen_1320 ?_
    refine w_bipush (q := 9) hm211 ⟨⟨_, _, rfl⟩, rfl⟩ bipush_33 ?_
    refine w_isub (q := 10) hm211 ⟨⟨_, _, rfl⟩, rfl⟩ ?_
    refine w_icmp_le (q := 13) (X := x2.toInt) (Y := ((1320 : Int32) - (33 : Int32)).toInt) hm211 ⟨⟨_, _, rfl⟩, rfl⟩ rfl rfl (fun hc => ?_) (fun hc => ?_)
    · have h := h.1 hc
      refine w_aload_n (q := 15) hm211 ⟨⟨_, _, rfl⟩, rfl⟩ rfl ?_
      refine w_aload_n (q := 16) hm211 ⟨⟨_, _, rfl⟩, rfl⟩ rfl ?_
      refine w_iload_n (q := 17) hm211 ⟨⟨_, _, rfl⟩, rfl⟩ rfl ?_
      obtain ⟨hi, h⟩ := h
      refine w_iald (q := 18) (v := (m.1 52 x2.toNatClampNeg)) hm211 ⟨⟨_, _, rfl⟩, rfl⟩ rfl hi rfl rfl ?_
      refine w_putf (q := 21) hm211 ⟨⟨_, _, rfl⟩, rfl⟩ rfl rfl rfl ?_
      refine w_aload_n (q := 22) hm211 ⟨⟨_, _, rfl⟩, rfl⟩ rfl ?_
      refine w_aload_n (q := 23) hm211 ⟨⟨_, _, rfl⟩, rfl⟩ rfl ?_
      refine w_iload_n (q := 24) hm211 ⟨⟨_, _, rfl⟩, rfl⟩ rfl ?_
      refine w_iconst (q := 25) hm211 ⟨⟨_, _, rfl⟩, rfl⟩ iconst_1 ?_
      refine w_iadd (q := 26) hm211 ⟨⟨_, _, rfl⟩, rfl⟩ ?_
      obtain ⟨hi, h⟩ := h
      refine w_iald (q := 27) (v := (m.1 52 (x2 + (1 : Int32)).toNatClampNeg)) hm211 ⟨⟨_, _, rfl⟩, rfl⟩ rfl hi rfl rfl ?_
      refine w_putf (q := 30) hm211 ⟨⟨_, _, rfl⟩, rfl⟩ rfl rfl rfl ?_
      refine w_aload_n (q := 31) hm211 ⟨⟨_, _, rfl⟩, rfl⟩ rfl ?_
      refine w_aload_n (q := 32) hm211 ⟨⟨_, _, rfl⟩, rfl⟩ rfl ?_
      refine w_iload_n (q := 33) hm211 ⟨⟨_, _, rfl⟩, rfl⟩ rfl ?_
      refine w_iconst (q := 34) hm211 ⟨⟨_, _, rfl⟩, rfl⟩ iconst_2 ?_
      refine w_iadd (q := 35) hm211 ⟨⟨_, _, rfl⟩, rfl⟩ ?_
      obtain ⟨hi, h⟩ := h
      refine w_iald (q := 36) (v := (m.1 52 (x2 + (2 : Int32)).toNatClampNeg)) hm211 ⟨⟨_, _, rfl⟩, rfl⟩ rfl hi rfl rfl ?_
      refine w_putf (q := 39) hm211 ⟨⟨_, _, rfl⟩, rfl⟩ rfl rfl rfl ?_
      refine w_aload_n (q := 40) hm211 ⟨⟨_, _, rfl⟩, rfl⟩ rfl ?_
      refine w_aload_n (q := 41) hm211 ⟨⟨_, _, rfl⟩, rfl⟩ rfl ?_
      refine w_iload_n (q := 42) hm211 ⟨⟨_, _, rfl⟩, rfl⟩ rfl ?_
      refine w_iconst (q := 43) hm211 ⟨⟨_, _, rfl⟩, rfl⟩ iconst_3 ?_
      refine w_iadd (q := 44) hm211 ⟨⟨_, _, rfl⟩, rfl⟩ ?_
      obtain ⟨hi, h⟩ := h
      refine w_iald (q := 45) (v := (m.1 52 (x2 + (3 : Int32)).toNatClampNeg)) hm211 ⟨⟨_, _, rfl⟩, rfl⟩ rfl hi rfl rfl ?_
      refine w_putf (q := 48) hm211 ⟨⟨_, _, rfl⟩, rfl⟩ rfl rfl rfl ?_
      refine w_aload_n (q := 49) hm211 ⟨⟨_, _, rfl⟩, rfl⟩ rfl ?_
      refine w_aload_n (q := 50) hm211 ⟨⟨_, _, rfl⟩, rfl⟩ rfl ?_
      refine w_iload_n (q := 51) hm211 ⟨⟨_, _, rfl⟩, rfl⟩ rfl ?_
      refine w_iconst (q := 52) hm211 ⟨⟨_, _, rfl⟩, rfl⟩ iconst_4 ?_
      refine w_iadd (q := 53) hm211 ⟨⟨_, _, rfl⟩, rfl⟩ ?_
      obtain ⟨hi, h⟩ := h
      refine w_iald (q := 54) (v := (m.1 52 (x2 + (4 : Int32)).toNatClampNeg)) hm211 ⟨⟨_, _, rfl⟩, rfl⟩ rfl hi rfl rfl ?_
      refine w_putf (q := 57) hm211 ⟨⟨_, _, rfl⟩, rfl⟩ rfl rfl rfl ?_
      refine w_aload_n (q := 58) hm211 ⟨⟨_, _, rfl⟩, rfl⟩ rfl ?_
      refine w_aload_n (q := 59) hm211 ⟨⟨_, _, rfl⟩, rfl⟩ rfl ?_
      refine w_iload_n (q := 60) hm211 ⟨⟨_, _, rfl⟩, rfl⟩ rfl ?_
      refine w_iconst (q := 61) hm211 ⟨⟨_, _, rfl⟩, rfl⟩ iconst_5 ?_
      refine w_iadd (q := 62) hm211 ⟨⟨_, _, rfl⟩, rfl⟩ ?_
      obtain ⟨hi, h⟩ := h
      refine w_iald (q := 63) (v := (m.1 52 (x2 + (5 : Int32)).toNatClampNeg)) hm211 ⟨⟨_, _, rfl⟩, rfl⟩ rfl hi rfl rfl ?_
      refine w_putf (q := 66) hm211 ⟨⟨_, _, rfl⟩, rfl⟩ rfl rfl rfl ?_
      refine w_aload_n (q := 67) hm211 ⟨⟨_, _, rfl⟩, rfl⟩ rfl ?_
      refine w_iload_n (q := 68) hm211 ⟨⟨_, _, rfl⟩, rfl⟩ rfl ?_
      refine w_bipush (q := 70) hm211 ⟨⟨_, _, rfl⟩, rfl⟩ bipush_6 ?_
      refine w_iadd (q := 71) hm211 ⟨⟨_, _, rfl⟩, rfl⟩ ?_
      refine w_aload_n (q := 72) hm211 ⟨⟨_, _, rfl⟩, rfl⟩ rfl ?_
      refine w_getr (q := 75) hm211 ⟨⟨_, _, rfl⟩, rfl⟩ rfl ?_
      refine w_iconst (q := 76) hm211 ⟨⟨_, _, rfl⟩, rfl⟩ iconst_0 ?_
      refine w_bipush (q := 78) hm211 ⟨⟨_, _, rfl⟩, rfl⟩ bipush_10 ?_
      obtain ⟨hi, h⟩ := h
      refine w_copy (q := 81) (N := 10) (D := 0) (S := (x2 + (6 : Int32)).toInt) hm211 ⟨⟨_, _, rfl⟩, rfl⟩ rfl rfl rfl rfl rfl (by decide) (by decide) rfl hi ?_
      refine w_aload_n (q := 82) hm211 ⟨⟨_, _, rfl⟩, rfl⟩ rfl ?_
      refine w_iload_n (q := 83) hm211 ⟨⟨_, _, rfl⟩, rfl⟩ rfl ?_
      refine w_bipush (q := 85) hm211 ⟨⟨_, _, rfl⟩, rfl⟩ bipush_6 ?_
      refine w_iadd (q := 86) hm211 ⟨⟨_, _, rfl⟩, rfl⟩ ?_
      refine w_bipush (q := 88) hm211 ⟨⟨_, _, rfl⟩, rfl⟩ bipush_10 ?_
      refine w_iadd (q := 89) hm211 ⟨⟨_, _, rfl⟩, rfl⟩ ?_
      refine w_aload_n (q := 90) hm211 ⟨⟨_, _, rfl⟩, rfl⟩ rfl ?_
      refine w_getr (q := 93) hm211 ⟨⟨_, _, rfl⟩, rfl⟩ rfl ?_
      refine w_iconst (q := 94) hm211 ⟨⟨_, _, rfl⟩, rfl⟩ iconst_0 ?_
      refine w_bipush (q := 96) hm211 ⟨⟨_, _, rfl⟩, rfl⟩ bipush_10 ?_
      obtain ⟨hi, h⟩ := h
      refine w_copy (q := 99) (N := 10) (D := 0) (S := ((x2 + (6 : Int32)) + (10 : Int32)).toInt) hm211 ⟨⟨_, _, rfl⟩, rfl⟩ rfl rfl rfl rfl rfl (by decide) (by decide) rfl hi ?_
      refine w_aload_n (q := 100) hm211 ⟨⟨_, _, rfl⟩, rfl⟩ rfl ?_
      refine w_iload_n (q := 101) hm211 ⟨⟨_, _, rfl⟩, rfl⟩ rfl ?_
      refine w_bipush (q := 103) hm211 ⟨⟨_, _, rfl⟩, rfl⟩ bipush_6 ?_
      refine w_iadd (q := 104) hm211 ⟨⟨_, _, rfl⟩, rfl⟩ ?_
      refine w_bipush (q := 106) hm211 ⟨⟨_, _, rfl⟩, rfl⟩ bipush_20 ?_
      refine w_iadd (q := 107) hm211 ⟨⟨_, _, rfl⟩, rfl⟩ ?_
      refine w_aload_n (q := 108) hm211 ⟨⟨_, _, rfl⟩, rfl⟩ rfl ?_
      refine w_getr (q := 111) hm211 ⟨⟨_, _, rfl⟩, rfl⟩ rfl ?_
      refine w_iconst (q := 112) hm211 ⟨⟨_, _, rfl⟩, rfl⟩ iconst_0 ?_
      refine w_bipush (q := 114) hm211 ⟨⟨_, _, rfl⟩, rfl⟩ bipush_7 ?_
      obtain ⟨hi, h⟩ := h
      refine w_copy (q := 117) (N := 7) (D := 0) (S := ((x2 + (6 : Int32)) + (20 : Int32)).toInt) hm211 ⟨⟨_, _, rfl⟩, rfl⟩ rfl rfl rfl rfl rfl (by decide) (by decide) rfl hi ?_
      exact w_retv hm211 ⟨⟨_, _, rfl⟩, rfl⟩ rfl h
    · have h := h.2 hc
      exact Wp.wk [false, false, false] h
theorem v_X7_readFrom_47_52_13 {d : Nat} {m : dM} {Q : dM → Prop} (h : Q m) : j_X7_readFrom_47_52_13 (d + 1) m Q := by
  exact w_retv hm211 ⟨⟨_, _, rfl⟩, rfl⟩ rfl h
end
section
theorem v_X6_takeBack_51_47 {d : Nat} {m : dM} {Q : Int32 → dM → Prop} (h : (((m.1 51 3).toInt ≠ 0 → c_X7_readFrom_47_52 d (((((m.1 51 2) + (40 : Int32)) - (1 : Int32)) - (((m.1 51 2) + (40 : Int32)) - (1 : Int32)) / (40 : Int32) * (40 : Int32)) * (33 : Int32)) (dSet (dSet m 51 2 ((((m.1 51 2) + (40 : Int32)) - (1 : Int32)) - (((m.1 51 2) + (40 : Int32)) - (1 : Int32)) / (40 : Int32) * (40 : Int32))) 51 3 ((m.1 51 3) - (1 : Int32))) (fun m1 => Q (1 : Int32) m1)) ∧ ((m.1 51 3).toInt = 0 → Q (0 : Int32) m))) : c_X6_takeBack_51_47 (d + 1) m Q := by
  refine w_aload_n (q := 1) hm204 ⟨⟨_, _, rfl⟩, rfl⟩ rfl ?_
  refine w_getf (q := 4) (v := (m.1 51 3)) hm204 ⟨⟨_, _, rfl⟩, rfl⟩ rfl rfl ?_
  refine w_if_ne (q := 7) (X := (m.1 51 3).toInt) hm204 ⟨⟨_, _, rfl⟩, rfl⟩ rfl (fun hc => ?_) (fun hc => ?_)
  · have h := h.1 hc
    refine w_aload_n (q := 10) hm204 ⟨⟨_, _, rfl⟩, rfl⟩ rfl ?_
    refine w_aload_n (q := 11) hm204 ⟨⟨_, _, rfl⟩, rfl⟩ rfl ?_
    refine w_getf (q := 14) (v := (m.1 51 2)) hm204 ⟨⟨_, _, rfl⟩, rfl⟩ rfl rfl ?_
    refine w_bipush (q := 16) hm204 ⟨⟨_, _, rfl⟩, rfl⟩ bipush_40 ?_
    refine w_iadd (q := 17) hm204 ⟨⟨_, _, rfl⟩, rfl⟩ ?_
    refine w_iconst (q := 18) hm204 ⟨⟨_, _, rfl⟩, rfl⟩ iconst_1 ?_
    refine w_isub (q := 19) hm204 ⟨⟨_, _, rfl⟩, rfl⟩ ?_
    refine w_bipush (q := 21) hm204 ⟨⟨_, _, rfl⟩, rfl⟩ bipush_40 ?_
    refine w_irem (q := 22) hm204 ⟨⟨_, _, rfl⟩, rfl⟩ (by decide) ?_
    refine w_putf (q := 25) hm204 ⟨⟨_, _, rfl⟩, rfl⟩ rfl rfl rfl ?_
    refine w_aload_n (q := 26) hm204 ⟨⟨_, _, rfl⟩, rfl⟩ rfl ?_
    refine w_dup (q := 27) hm204 ⟨⟨_, _, rfl⟩, rfl⟩ rfl ?_
    refine w_getf (q := 30) (v := (m.1 51 3)) hm204 ⟨⟨_, _, rfl⟩, rfl⟩ rfl rfl ?_
    refine w_iconst (q := 31) hm204 ⟨⟨_, _, rfl⟩, rfl⟩ iconst_1 ?_
    refine w_isub (q := 32) hm204 ⟨⟨_, _, rfl⟩, rfl⟩ ?_
    refine w_putf (q := 35) hm204 ⟨⟨_, _, rfl⟩, rfl⟩ rfl rfl rfl ?_
    refine w_aload_n (q := 36) hm204 ⟨⟨_, _, rfl⟩, rfl⟩ rfl ?_
    refine w_aload_n (q := 37) hm204 ⟨⟨_, _, rfl⟩, rfl⟩ rfl ?_
    refine w_getr (q := 40) hm204 ⟨⟨_, _, rfl⟩, rfl⟩ rfl ?_
    refine w_aload_n (q := 41) hm204 ⟨⟨_, _, rfl⟩, rfl⟩ rfl ?_
    refine w_getf (q := 44) (v := ((((m.1 51 2) + (40 : Int32)) - (1 : Int32)) - (((m.1 51 2) + (40 : Int32)) - (1 : Int32)) / (40 : Int32) * (40 : Int32))) hm204 ⟨⟨_, _, rfl⟩, rfl⟩ rfl rfl ?_
    refine w_bipush (q := 46) hm204 ⟨⟨_, _, rfl⟩, rfl⟩ bipush_33 ?_
    refine w_imul (q := 47) hm204 ⟨⟨_, _, rfl⟩, rfl⟩ ?_
    refine w_call (q := 50) (n := 0) (vs := [.inr (.inr (some 47)), .inr (.inr (some 52)), .inl (((((m.1 51 2) + (40 : Int32)) - (1 : Int32)) - (((m.1 51 2) + (40 : Int32)) - (1 : Int32)) / (40 : Int32) * (40 : Int32)) * (33 : Int32))]) (rest := []) (la := [oR 47, oR 52, oI (((((m.1 51 2) + (40 : Int32)) - (1 : Int32)) - (((m.1 51 2) + (40 : Int32)) - (1 : Int32)) / (40 : Int32) * (40 : Int32)) * (33 : Int32))]) hm204 ⟨⟨_, _, rfl⟩, rfl⟩ rfl rfl rfl rfl hm211 rfl rfl (fun _ => ⟨_, _, rfl, rfl⟩) rfl (Wp.mono h ?_)
    rintro _ m1 ⟨rfl, h⟩
    change Wp _ _ 50 _ [] _ _
    refine w_iconst (q := 51) hm204 ⟨⟨_, _, rfl⟩, rfl⟩ iconst_1 ?_
    exact w_retz hm204 ⟨⟨_, _, rfl⟩, rfl⟩ rfl (by decide) h
  · have h := h.2 hc
    refine w_iconst (q := 8) hm204 ⟨⟨_, _, rfl⟩, rfl⟩ iconst_0 ?_
    exact w_retz hm204 ⟨⟨_, _, rfl⟩, rfl⟩ rfl (by decide) h
theorem v_X11_undo_0 {d : Nat} {m : dM} {Q : Int32 → dM → Prop} (h : c_X6_takeBack_51_47 d m (fun r1 m1 => (r1 = 0 ∨ r1 = 1) ∧ Q r1 m1)) : c_X11_undo_0 (d + 1) m Q := by
  refine w_aload_n (q := 1) hm259 ⟨⟨_, _, rfl⟩, rfl⟩ rfl ?_
  refine w_getr (q := 4) hm259 ⟨⟨_, _, rfl⟩, rfl⟩ rfl ?_
  refine w_aload_n (q := 5) hm259 ⟨⟨_, _, rfl⟩, rfl⟩ rfl ?_
  refine w_getr (q := 8) hm259 ⟨⟨_, _, rfl⟩, rfl⟩ rfl ?_
  refine w_call (q := 11) (n := 0) (vs := [.inr (.inr (some 51)), .inr (.inr (some 47))]) (rest := []) (la := [oR 51, oR 47]) hm259 ⟨⟨_, _, rfl⟩, rfl⟩ rfl rfl rfl rfl hm204 rfl rfl (fun _ => ⟨_, _, rfl, rfl⟩) rfl (Wp.mono h ?_)
  rintro _ m1 ⟨r1, rfl, h⟩
  change Wp _ _ 11 _ [.inl r1] _ _
  exact w_retz hm259 ⟨⟨_, _, rfl⟩, rfl⟩ rfl h.1 h.2
theorem v_X12_undo_70 {d : Nat} {m : dM} {Q : Int32 → dM → Prop} (h : (((m.1 70 61).toInt ≠ 0 → j_X12_undo_70_21 (d + 1) (0 : Int32) (dSet m 70 61 ((m.1 70 61) - (1 : Int32))) Q) ∧ ((m.1 70 61).toInt = 0 → Q (0 : Int32) m))) : c_X12_undo_70 (d + 1) m Q := by
  refine w_aload_n (q := 1) hm80 ⟨⟨_, _, rfl⟩, rfl⟩ rfl ?_
  refine w_getf (q := 4) (v := (m.1 70 61)) hm80 ⟨⟨_, _, rfl⟩, rfl⟩ rfl rfl ?_
  refine w_if_ne (q := 7) (X := (m.1 70 61).toInt) hm80 ⟨⟨_, _, rfl⟩, rfl⟩ rfl (fun hc => ?_) (fun hc => ?_)
  · have h := h.1 hc
    refine w_aload_n (q := 10) hm80 ⟨⟨_, _, rfl⟩, rfl⟩ rfl ?_
    refine w_dup (q := 11) hm80 ⟨⟨_, _, rfl⟩, rfl⟩ rfl ?_
    refine w_getf (q := 14) (v := (m.1 70 61)) hm80 ⟨⟨_, _, rfl⟩, rfl⟩ rfl rfl ?_
    refine w_iconst (q := 15) hm80 ⟨⟨_, _, rfl⟩, rfl⟩ iconst_1 ?_
    refine w_isub (q := 16) hm80 ⟨⟨_, _, rfl⟩, rfl⟩ ?_
    refine w_putf (q := 19) hm80 ⟨⟨_, _, rfl⟩, rfl⟩ rfl rfl rfl ?_
    refine w_iconst (q := 20) hm80 ⟨⟨_, _, rfl⟩, rfl⟩ iconst_0 ?_
    refine w_istore_n (q := 21) (l' := [oR 70, oI (0 : Int32)]) hm80 ⟨⟨_, _, rfl⟩, rfl⟩ rfl rfl rfl ?_
    exact h
  · have h := h.2 hc
    refine w_iconst (q := 8) hm80 ⟨⟨_, _, rfl⟩, rfl⟩ iconst_0 ?_
    exact w_retz hm80 ⟨⟨_, _, rfl⟩, rfl⟩ rfl (by decide) h
theorem v_X12_undo_70_21 {d : Nat} {x1 : Int32} {m : dM} {Q : Int32 → dM → Prop} (h : ((58 ≤ x1.toInt → Q (1 : Int32) m) ∧ (x1.toInt < 58 → ((0 ≤ (((58 : Int32) * (m.1 70 61)) + x1).toInt ∧ (((58 : Int32) * (m.1 70 61)) + x1).toInt < 2320) ∧ ((0 ≤ x1.toInt ∧ x1.toInt < 58) ∧ j_X12_undo_70_21 (d + 1) (x1 + (1 : Int32)) (dSet m 107 x1.toNatClampNeg (m.1 111 (((58 : Int32) * (m.1 70 61)) + x1).toNatClampNeg)) Q))))) : j_X12_undo_70_21 (d + 1) x1 m Q := by
  refine w_iload_n (q := 22) hm80 ⟨⟨_, _, rfl⟩, rfl⟩ rfl ?_
  refine w_bipush (q := 24) hm80 ⟨⟨_, _, rfl⟩, rfl⟩ bipush_58 ?_
  refine w_icmp_ge (q := 27) (X := x1.toInt) (Y := 58) hm80 ⟨⟨_, _, rfl⟩, rfl⟩ rfl (by decide) (fun hc => ?_) (fun hc => ?_)
  · have h := h.1 hc
    refine w_iconst (q := 54) hm80 ⟨⟨_, _, rfl⟩, rfl⟩ iconst_1 ?_
    exact w_retz hm80 ⟨⟨_, _, rfl⟩, rfl⟩ rfl (by decide) h
  · have h := h.2 hc
    refine w_aload_n (q := 28) hm80 ⟨⟨_, _, rfl⟩, rfl⟩ rfl ?_
    refine w_getr (q := 31) hm80 ⟨⟨_, _, rfl⟩, rfl⟩ rfl ?_
    refine w_iload_n (q := 32) hm80 ⟨⟨_, _, rfl⟩, rfl⟩ rfl ?_
    refine w_aload_n (q := 33) hm80 ⟨⟨_, _, rfl⟩, rfl⟩ rfl ?_
    refine w_getr (q := 36) hm80 ⟨⟨_, _, rfl⟩, rfl⟩ rfl ?_
    refine w_bipush (q := 38) hm80 ⟨⟨_, _, rfl⟩, rfl⟩ bipush_58 ?_
    refine w_aload_n (q := 39) hm80 ⟨⟨_, _, rfl⟩, rfl⟩ rfl ?_
    refine w_getf (q := 42) (v := (m.1 70 61)) hm80 ⟨⟨_, _, rfl⟩, rfl⟩ rfl rfl ?_
    refine w_imul (q := 43) hm80 ⟨⟨_, _, rfl⟩, rfl⟩ ?_
    refine w_iload_n (q := 44) hm80 ⟨⟨_, _, rfl⟩, rfl⟩ rfl ?_
    refine w_iadd (q := 45) hm80 ⟨⟨_, _, rfl⟩, rfl⟩ ?_
    obtain ⟨hi, h⟩ := h
    refine w_iald (q := 46) (v := (m.1 111 (((58 : Int32) * (m.1 70 61)) + x1).toNatClampNeg)) hm80 ⟨⟨_, _, rfl⟩, rfl⟩ rfl hi rfl rfl ?_
    obtain ⟨hi, h⟩ := h
    refine w_iast (q := 47) hm80 ⟨⟨_, _, rfl⟩, rfl⟩ rfl hi rfl rfl ?_
    refine w_iinc (q := 50) (l' := [oR 70, oI (x1 + (1 : Int32))]) hm80 ⟨⟨_, _, rfl⟩, rfl⟩ rfl rfl rfl iconst_1 rfl ?_
    refine w_goto (q := 21) hm80 ⟨_, _, rfl⟩ ?_
    exact h
theorem v_X10_wireAt_57 {d : Nat} {x1 : Int32} {x2 : Int32} {m : dM} {Q : Int32 → dM → Prop} (h : ((x2.toInt < 0 → j_X10_wireAt_57_14 (d + 1) m Q) ∧ (0 ≤ x2.toInt → ((0 ≤ x1.toInt ∧ x1.toInt < 7) ∧ ((x2.toInt < (m.1 59 x1.toNatClampNeg).toInt → j_X10_wireAt_57_21 (d + 1) x2 x1 (0 : Int32) m Q) ∧ ((m.1 59 x1.toNatClampNeg).toInt ≤ x2.toInt → j_X10_wireAt_57_14 (d + 1) m Q)))))) : c_X10_wireAt_57 (d + 1) x1 x2 m Q := by
  refine w_iload_n (q := 1) hm241 ⟨⟨_, _, rfl⟩, rfl⟩ rfl ?_
  refine w_if_lt (q := 4) (X := x2.toInt) hm241 ⟨⟨_, _, rfl⟩, rfl⟩ rfl (fun hc => ?_) (fun hc => ?_)
  · have h := h.1 hc
    exact Wp.wk [false, false, false, false, false, false] h
  · have h := h.2 hc
    refine w_iload_n (q := 5) hm241 ⟨⟨_, _, rfl⟩, rfl⟩ rfl ?_
    refine w_aload_n (q := 6) hm241 ⟨⟨_, _, rfl⟩, rfl⟩ rfl ?_
    refine w_getr (q := 9) hm241 ⟨⟨_, _, rfl⟩, rfl⟩ rfl ?_
    refine w_iload_n (q := 10) hm241 ⟨⟨_, _, rfl⟩, rfl⟩ rfl ?_
    obtain ⟨hi, h⟩ := h
    refine w_iald (q := 11) (v := (m.1 59 x1.toNatClampNeg)) hm241 ⟨⟨_, _, rfl⟩, rfl⟩ rfl hi rfl rfl ?_
    refine w_icmp_lt (q := 14) (X := x2.toInt) (Y := (m.1 59 x1.toNatClampNeg).toInt) hm241 ⟨⟨_, _, rfl⟩, rfl⟩ rfl rfl (fun hc => ?_) (fun hc => ?_)
    · have h := h.1 hc
      refine w_iload_n (q := 17) hm241 ⟨⟨_, _, rfl⟩, rfl⟩ rfl ?_
      refine w_istore_n (q := 18) (l' := [oR 57, oI x1, oI x2, oI x1, none, none]) hm241 ⟨⟨_, _, rfl⟩, rfl⟩ rfl rfl rfl ?_
      refine w_iconst (q := 19) hm241 ⟨⟨_, _, rfl⟩, rfl⟩ iconst_0 ?_
      refine w_istore (q := 21) (l' := [oR 57, oI x1, oI x2, oI x1, oI (0 : Int32), none]) hm241 ⟨⟨_, _, rfl⟩, rfl⟩ rfl rfl rfl ?_
      exact Wp.wk [true, false, true, true, true, false] h
    · have h := h.2 hc
      exact Wp.wk [false, false, false, false, false, false] h
theorem v_X10_wireAt_57_14 {d : Nat} {m : dM} {Q : Int32 → dM → Prop} (h : Q (-1 : Int32) m) : j_X10_wireAt_57_14 (d + 1) m Q := by
  refine w_iconst (q := 15) hm241 ⟨⟨_, _, rfl⟩, rfl⟩ iconst_m1 ?_
  exact w_reti hm241 ⟨⟨_, _, rfl⟩, rfl⟩ rfl h
theorem v_X10_wireAt_57_21 {d : Nat} {x2 : Int32} {x3 : Int32} {x4 : Int32} {m : dM} {Q : Int32 → dM → Prop} (h : ((x2.toInt ≤ x4.toInt → ((0 ≤ x3.toInt ∧ x3.toInt < 7) ∧ Q (m.1 58 x3.toNatClampNeg) m)) ∧ (x4.toInt < x2.toInt → ((0 ≤ x3.toInt ∧ x3.toInt < 7) ∧ ((0 ≤ (m.1 58 x3.toNatClampNeg).toInt ∧ (m.1 58 x3.toNatClampNeg).toInt < 10) ∧ (((m.1 4 (m.1 58 x3.toNatClampNeg).toNatClampNeg).toInt ≠ x3.toInt → ((0 ≤ (m.1 58 x3.toNatClampNeg).toInt ∧ (m.1 58 x3.toNatClampNeg).toInt < 10) ∧ j_X10_wireAt_57_21 (d + 1) x2 (m.1 4 (m.1 58 x3.toNatClampNeg).toNatClampNeg) (x4 + (1 : Int32)) m Q)) ∧ ((m.1 4 (m.1 58 x3.toNatClampNeg).toNatClampNeg).toInt = x3.toInt → ((0 ≤ (m.1 58 x3.toNatClampNeg).toInt ∧ (m.1 58 x3.toNatClampNeg).toInt < 10) ∧ j_X10_wireAt_57_21 (d + 1) x2 (m.1 5 (m.1 58 x3.toNatClampNeg).toNatClampNeg) (x4 + (1 : Int32)) m Q)))))))) : j_X10_wireAt_57_21 (d + 1) x2 x3 x4 m Q := by
  refine w_iload (q := 23) hm241 ⟨⟨_, _, rfl⟩, rfl⟩ rfl ?_
  refine w_iload_n (q := 24) hm241 ⟨⟨_, _, rfl⟩, rfl⟩ rfl ?_
  refine w_icmp_ge (q := 27) (X := x4.toInt) (Y := x2.toInt) hm241 ⟨⟨_, _, rfl⟩, rfl⟩ rfl rfl (fun hc => ?_) (fun hc => ?_)
  · have h := h.1 hc
    refine w_aload_n (q := 80) hm241 ⟨⟨_, _, rfl⟩, rfl⟩ rfl ?_
    refine w_getr (q := 83) hm241 ⟨⟨_, _, rfl⟩, rfl⟩ rfl ?_
    refine w_iload_n (q := 84) hm241 ⟨⟨_, _, rfl⟩, rfl⟩ rfl ?_
    obtain ⟨hi, h⟩ := h
    refine w_iald (q := 85) (v := (m.1 58 x3.toNatClampNeg)) hm241 ⟨⟨_, _, rfl⟩, rfl⟩ rfl hi rfl rfl ?_
    exact w_reti hm241 ⟨⟨_, _, rfl⟩, rfl⟩ rfl h
  · have h := h.2 hc
    refine w_aload_n (q := 28) hm241 ⟨⟨_, _, rfl⟩, rfl⟩ rfl ?_
    refine w_getr (q := 31) hm241 ⟨⟨_, _, rfl⟩, rfl⟩ rfl ?_
    refine w_iload_n (q := 32) hm241 ⟨⟨_, _, rfl⟩, rfl⟩ rfl ?_
    obtain ⟨hi, h⟩ := h
    refine w_iald (q := 33) (v := (m.1 58 x3.toNatClampNeg)) hm241 ⟨⟨_, _, rfl⟩, rfl⟩ rfl hi rfl rfl ?_
    refine w_istore (q := 35) (l' := [oR 57, none, oI x2, oI x3, oI x4, oI (m.1 58 x3.toNatClampNeg)]) hm241 ⟨⟨_, _, rfl⟩, rfl⟩ rfl rfl rfl ?_
    refine w_aload_n (q := 36) hm241 ⟨⟨_, _, rfl⟩, rfl⟩ rfl ?_
    refine w_getr (q := 39) hm241 ⟨⟨_, _, rfl⟩, rfl⟩ rfl ?_
    refine w_getr (q := 42) hm241 ⟨⟨_, _, rfl⟩, rfl⟩ rfl ?_
    refine w_iload (q := 44) hm241 ⟨⟨_, _, rfl⟩, rfl⟩ rfl ?_
    obtain ⟨hi, h⟩ := h
    refine w_iald (q := 45) (v := (m.1 4 (m.1 58 x3.toNatClampNeg).toNatClampNeg)) hm241 ⟨⟨_, _, rfl⟩, rfl⟩ rfl hi rfl rfl ?_
    refine w_iload_n (q := 46) hm241 ⟨⟨_, _, rfl⟩, rfl⟩ rfl ?_
    refine w_icmp_ne (q := 49) (X := (m.1 4 (m.1 58 x3.toNatClampNeg).toNatClampNeg).toInt) (Y := x3.toInt) hm241 ⟨⟨_, _, rfl⟩, rfl⟩ rfl rfl (fun hc => ?_) (fun hc => ?_)
    · have h := h.1 hc
      refine w_aload_n (q := 63) hm241 ⟨⟨_, _, rfl⟩, rfl⟩ rfl ?_
      refine w_getr (q := 66) hm241 ⟨⟨_, _, rfl⟩, rfl⟩ rfl ?_
      refine w_getr (q := 69) hm241 ⟨⟨_, _, rfl⟩, rfl⟩ rfl ?_
      refine w_iload (q := 71) hm241 ⟨⟨_, _, rfl⟩, rfl⟩ rfl ?_
      obtain ⟨hi, h⟩ := h
      refine w_iald (q := 72) (v := (m.1 4 (m.1 58 x3.toNatClampNeg).toNatClampNeg)) hm241 ⟨⟨_, _, rfl⟩, rfl⟩ rfl hi rfl rfl ?_
      refine w_istore_n (q := 73) (l' := [oR 57, none, oI x2, oI (m.1 4 (m.1 58 x3.toNatClampNeg).toNatClampNeg), oI x4, oI (m.1 58 x3.toNatClampNeg)]) hm241 ⟨⟨_, _, rfl⟩, rfl⟩ rfl rfl rfl ?_
      refine w_iinc (q := 76) (l' := [oR 57, none, oI x2, oI (m.1 4 (m.1 58 x3.toNatClampNeg).toNatClampNeg), oI (x4 + (1 : Int32)), oI (m.1 58 x3.toNatClampNeg)]) hm241 ⟨⟨_, _, rfl⟩, rfl⟩ rfl rfl rfl iconst_1 rfl ?_
      refine w_goto (q := 21) hm241 ⟨_, _, rfl⟩ ?_
      exact Wp.wk [true, false, true, true, true, false] h
    · have h := h.2 hc
      refine w_aload_n (q := 50) hm241 ⟨⟨_, _, rfl⟩, rfl⟩ rfl ?_
      refine w_getr (q := 53) hm241 ⟨⟨_, _, rfl⟩, rfl⟩ rfl ?_
      refine w_getr (q := 56) hm241 ⟨⟨_, _, rfl⟩, rfl⟩ rfl ?_
      refine w_iload (q := 58) hm241 ⟨⟨_, _, rfl⟩, rfl⟩ rfl ?_
      obtain ⟨hi, h⟩ := h
      refine w_iald (q := 59) (v := (m.1 5 (m.1 58 x3.toNatClampNeg).toNatClampNeg)) hm241 ⟨⟨_, _, rfl⟩, rfl⟩ rfl hi rfl rfl ?_
      refine w_goto (q := 72) hm241 ⟨_, _, rfl⟩ ?_
      refine w_istore_n (q := 73) (l' := [oR 57, none, oI x2, oI (m.1 5 (m.1 58 x3.toNatClampNeg).toNatClampNeg), oI x4, oI (m.1 58 x3.toNatClampNeg)]) hm241 ⟨⟨_, _, rfl⟩, rfl⟩ rfl rfl rfl ?_
      refine w_iinc (q := 76) (l' := [oR 57, none, oI x2, oI (m.1 5 (m.1 58 x3.toNatClampNeg).toNatClampNeg), oI (x4 + (1 : Int32)), oI (m.1 58 x3.toNatClampNeg)]) hm241 ⟨⟨_, _, rfl⟩, rfl⟩ rfl rfl rfl iconst_1 rfl ?_
      refine w_goto (q := 21) hm241 ⟨_, _, rfl⟩ ?_
      exact Wp.wk [true, false, true, true, true, false] h
theorem v_X11_way_0 {d : Nat} {x1 : Int32} {x2 : Int32} {m : dM} {Q : Int32 → dM → Prop} (h : c_X11_isFlat_0 d x1 m (fun r1 m1 => ((r1.toInt = 0 → j_X11_way_0_12 (d + 1) m1 Q) ∧ (r1.toInt ≠ 0 → ((0 ≤ x2.toInt → c_X0_waysNow_54_47 d m1 (fun m2 => c_X11_has d (m2.1 57 5) x1 m2 (fun r3 m3 => ((r3.toInt = 0 → Q (-2 : Int32) m3) ∧ (r3.toInt ≠ 0 → c_X10_wireAt_57 d x1 x2 m3 (fun r4 m4 => Q r4 m4)))))) ∧ (x2.toInt < 0 → j_X11_way_0_12 (d + 1) m1 Q)))))) : c_X11_way_0 (d + 1) x1 x2 m Q := by
  refine w_aload_n (q := 1) hm260 ⟨⟨_, _, rfl⟩, rfl⟩ rfl ?_
  refine w_iload_n (q := 2) hm260 ⟨⟨_, _, rfl⟩, rfl⟩ rfl ?_
  refine w_call (q := 5) (n := 0) (vs := [.inr (.inr (some 0)), .inl x1]) (rest := []) (la := [oR 0, oI x1]) hm260 ⟨⟨_, _, rfl⟩, rfl⟩ rfl rfl rfl rfl hm248 rfl rfl (fun _ => ⟨_, _, rfl, rfl⟩) rfl (Wp.mono h ?_)
  rintro _ m1 ⟨r1, rfl, h⟩
  change Wp _ _ 5 _ [.inl r1] _ _
  refine w_if_eq (q := 8) (X := r1.toInt) hm260 ⟨⟨_, _, rfl⟩, rfl⟩ rfl (fun hc => ?_) (fun hc => ?_)
  · have h := h.1 hc
    exact Wp.wk [false, false, false, false] h
  · have h := h.2 hc
    refine w_iload_n (q := 9) hm260 ⟨⟨_, _, rfl⟩, rfl⟩ rfl ?_
    refine w_if_ge (q := 12) (X := x2.toInt) hm260 ⟨⟨_, _, rfl⟩, rfl⟩ rfl (fun hc => ?_) (fun hc => ?_)
    · have h := h.1 hc
      refine w_aload_n (q := 15) hm260 ⟨⟨_, _, rfl⟩, rfl⟩ rfl ?_
      refine w_getr (q := 18) hm260 ⟨⟨_, _, rfl⟩, rfl⟩ rfl ?_
      refine w_aload_n (q := 19) hm260 ⟨⟨_, _, rfl⟩, rfl⟩ rfl ?_
      refine w_getr (q := 22) hm260 ⟨⟨_, _, rfl⟩, rfl⟩ rfl ?_
      refine w_call (q := 25) (n := 0) (vs := [.inr (.inr (some 54)), .inr (.inr (some 47))]) (rest := []) (la := [oR 54, oR 47]) hm260 ⟨⟨_, _, rfl⟩, rfl⟩ rfl rfl rfl rfl hm116 rfl rfl (fun _ => ⟨_, _, rfl, rfl⟩) rfl (Wp.mono h ?_)
      rintro _ m2 ⟨rfl, h⟩
      change Wp _ _ 25 _ [.inr (.inr (some 57))] _ _
      refine w_astore_n (q := 26) (l' := [oR 0, oI x1, oI x2, oR 57]) hm260 ⟨⟨_, _, rfl⟩, rfl⟩ rfl rfl rfl ?_
      refine w_aload_n (q := 27) hm260 ⟨⟨_, _, rfl⟩, rfl⟩ rfl ?_
      refine w_getf (q := 30) (v := (m2.1 57 5)) hm260 ⟨⟨_, _, rfl⟩, rfl⟩ rfl rfl ?_
      refine w_iload_n (q := 31) hm260 ⟨⟨_, _, rfl⟩, rfl⟩ rfl ?_
      refine w_call (q := 34) (n := 0) (vs := [.inl (m2.1 57 5), .inl x1]) (rest := []) (la := [oI (m2.1 57 5), oI x1]) hm260 ⟨⟨_, _, rfl⟩, rfl⟩ rfl rfl rfl rfl hm283 rfl rfl (fun hz => absurd hz (by decide)) rfl (Wp.mono h ?_)
      rintro _ m3 ⟨r3, rfl, h⟩
      change Wp _ _ 34 _ [.inl r3] _ _
      refine w_if_eq (q := 37) (X := r3.toInt) hm260 ⟨⟨_, _, rfl⟩, rfl⟩ rfl (fun hc => ?_) (fun hc => ?_)
      · have h := h.1 hc
        refine w_bipush (q := 48) hm260 ⟨⟨_, _, rfl⟩, rfl⟩ bipush_m2 ?_
        exact w_reti hm260 ⟨⟨_, _, rfl⟩, rfl⟩ rfl h
      · have h := h.2 hc
        refine w_aload_n (q := 38) hm260 ⟨⟨_, _, rfl⟩, rfl⟩ rfl ?_
        refine w_iload_n (q := 39) hm260 ⟨⟨_, _, rfl⟩, rfl⟩ rfl ?_
        refine w_iload_n (q := 40) hm260 ⟨⟨_, _, rfl⟩, rfl⟩ rfl ?_
        refine w_call (q := 43) (n := 3) (vs := [.inr (.inr (some 57)), .inl x1, .inl x2]) (rest := []) (la := [oR 57, oI x1, oI x2, none, none, none]) hm260 ⟨⟨_, _, rfl⟩, rfl⟩ rfl rfl rfl rfl hm241 rfl rfl (fun _ => ⟨_, _, rfl, rfl⟩) rfl (Wp.mono h ?_)
        rintro _ m4 ⟨r4, rfl, h⟩
        change Wp _ _ 43 _ [.inl r4] _ _
        refine w_goto (q := 48) hm260 ⟨_, _, rfl⟩ ?_
        exact w_reti hm260 ⟨⟨_, _, rfl⟩, rfl⟩ rfl h
    · have h := h.2 hc
      exact Wp.wk [false, false, false, false] h
theorem v_X11_way_0_12 {d : Nat} {m : dM} {Q : Int32 → dM → Prop} (h : Q (-1 : Int32) m) : j_X11_way_0_12 (d + 1) m Q := by
  refine w_iconst (q := 13) hm260 ⟨⟨_, _, rfl⟩, rfl⟩ iconst_m1 ?_
  exact w_reti hm260 ⟨⟨_, _, rfl⟩, rfl⟩ rfl h
theorem v_X12_way_70 {d : Nat} {x1 : Int32} {x2 : Int32} {m : dM} {Q : Int32 → dM → Prop} (h : c_X12_isFlat_70 d x1 m (fun r1 m1 => ((r1.toInt = 0 → j_X12_way_70_12 (d + 1) m1 Q) ∧ (r1.toInt ≠ 0 → ((0 ≤ x2.toInt → c_X12_copies_70 d m1 (fun m2 => c_X12_isLit_70 d x1 m2 (fun r3 m3 => ((r3.toInt ≠ 0 → ((0 ≤ x1.toInt ∧ x1.toInt < 7) ∧ ((x2.toInt < (m3.1 109 x1.toNatClampNeg).toInt → j_X12_way_70_46 (d + 1) x2 x1 (0 : Int32) m3 Q) ∧ ((m3.1 109 x1.toNatClampNeg).toInt ≤ x2.toInt → Q (-1 : Int32) m3)))) ∧ (r3.toInt = 0 → Q (-2 : Int32) m3))))) ∧ (x2.toInt < 0 → j_X12_way_70_12 (d + 1) m1 Q)))))) : c_X12_way_70 (d + 1) x1 x2 m Q := by
  refine w_aload_n (q := 1) hm81 ⟨⟨_, _, rfl⟩, rfl⟩ rfl ?_
  refine w_iload_n (q := 2) hm81 ⟨⟨_, _, rfl⟩, rfl⟩ rfl ?_
  refine w_call (q := 5) (n := 0) (vs := [.inr (.inr (some 70)), .inl x1]) (rest := []) (la := [oR 70, oI x1]) hm81 ⟨⟨_, _, rfl⟩, rfl⟩ rfl rfl rfl rfl hm39 rfl rfl (fun _ => ⟨_, _, rfl, rfl⟩) rfl (Wp.mono h ?_)
  rintro _ m1 ⟨r1, rfl, h⟩
  change Wp _ _ 5 _ [.inl r1] _ _
  refine w_if_eq (q := 8) (X := r1.toInt) hm81 ⟨⟨_, _, rfl⟩, rfl⟩ rfl (fun hc => ?_) (fun hc => ?_)
  · have h := h.1 hc
    exact Wp.wk [false, false, false, false, false] h
  · have h := h.2 hc
    refine w_iload_n (q := 9) hm81 ⟨⟨_, _, rfl⟩, rfl⟩ rfl ?_
    refine w_if_ge (q := 12) (X := x2.toInt) hm81 ⟨⟨_, _, rfl⟩, rfl⟩ rfl (fun hc => ?_) (fun hc => ?_)
    · have h := h.1 hc
      refine w_aload_n (q := 15) hm81 ⟨⟨_, _, rfl⟩, rfl⟩ rfl ?_
      refine w_call (q := 18) (n := 1) (vs := [.inr (.inr (some 70))]) (rest := []) (la := [oR 70, none]) hm81 ⟨⟨_, _, rfl⟩, rfl⟩ rfl rfl rfl rfl hm44 rfl rfl (fun _ => ⟨_, _, rfl, rfl⟩) rfl (Wp.mono h ?_)
      rintro _ m2 ⟨rfl, h⟩
      change Wp _ _ 18 _ [] _ _
      refine w_aload_n (q := 19) hm81 ⟨⟨_, _, rfl⟩, rfl⟩ rfl ?_
      refine w_iload_n (q := 20) hm81 ⟨⟨_, _, rfl⟩, rfl⟩ rfl ?_
      refine w_call (q := 23) (n := 0) (vs := [.inr (.inr (some 70)), .inl x1]) (rest := []) (la := [oR 70, oI x1]) hm81 ⟨⟨_, _, rfl⟩, rfl⟩ rfl rfl rfl rfl hm51 rfl rfl (fun _ => ⟨_, _, rfl, rfl⟩) rfl (Wp.mono h ?_)
      rintro _ m3 ⟨r3, rfl, h⟩
      change Wp _ _ 23 _ [.inl r3] _ _
      refine w_if_ne (q := 26) (X := r3.toInt) hm81 ⟨⟨_, _, rfl⟩, rfl⟩ rfl (fun hc => ?_) (fun hc => ?_)
      · have h := h.1 hc
        refine w_iload_n (q := 30) hm81 ⟨⟨_, _, rfl⟩, rfl⟩ rfl ?_
        refine w_aload_n (q := 31) hm81 ⟨⟨_, _, rfl⟩, rfl⟩ rfl ?_
        refine w_getr (q := 34) hm81 ⟨⟨_, _, rfl⟩, rfl⟩ rfl ?_
        refine w_iload_n (q := 35) hm81 ⟨⟨_, _, rfl⟩, rfl⟩ rfl ?_
        obtain ⟨hi, h⟩ := h
        refine w_iald (q := 36) (v := (m3.1 109 x1.toNatClampNeg)) hm81 ⟨⟨_, _, rfl⟩, rfl⟩ rfl hi rfl rfl ?_
        refine w_icmp_lt (q := 39) (X := x2.toInt) (Y := (m3.1 109 x1.toNatClampNeg).toInt) hm81 ⟨⟨_, _, rfl⟩, rfl⟩ rfl rfl (fun hc => ?_) (fun hc => ?_)
        · have h := h.1 hc
          refine w_iload_n (q := 42) hm81 ⟨⟨_, _, rfl⟩, rfl⟩ rfl ?_
          refine w_istore_n (q := 43) (l' := [oR 70, oI x1, oI x2, oI x1, none]) hm81 ⟨⟨_, _, rfl⟩, rfl⟩ rfl rfl rfl ?_
          refine w_iconst (q := 44) hm81 ⟨⟨_, _, rfl⟩, rfl⟩ iconst_0 ?_
          refine w_istore (q := 46) (l' := [oR 70, oI x1, oI x2, oI x1, oI (0 : Int32)]) hm81 ⟨⟨_, _, rfl⟩, rfl⟩ rfl rfl rfl ?_
          exact Wp.wk [true, false, true, true, true] h
        · have h := h.2 hc
          refine w_iconst (q := 40) hm81 ⟨⟨_, _, rfl⟩, rfl⟩ iconst_m1 ?_
          exact w_reti hm81 ⟨⟨_, _, rfl⟩, rfl⟩ rfl h
      · have h := h.2 hc
        refine w_bipush (q := 28) hm81 ⟨⟨_, _, rfl⟩, rfl⟩ bipush_m2 ?_
        exact w_reti hm81 ⟨⟨_, _, rfl⟩, rfl⟩ rfl h
    · have h := h.2 hc
      exact Wp.wk [false, false, false, false, false] h
theorem v_X12_way_70_12 {d : Nat} {m : dM} {Q : Int32 → dM → Prop} (h : Q (-1 : Int32) m) : j_X12_way_70_12 (d + 1) m Q := by
  refine w_iconst (q := 13) hm81 ⟨⟨_, _, rfl⟩, rfl⟩ iconst_m1 ?_
  exact w_reti hm81 ⟨⟨_, _, rfl⟩, rfl⟩ rfl h
theorem v_X12_way_70_46 {d : Nat} {x2 : Int32} {x3 : Int32} {x4 : Int32} {m : dM} {Q : Int32 → dM → Prop} (h : ((x2.toInt ≤ x4.toInt → c_X12_wireFrom_70 d x3 m (fun r1 m1 => Q r1 m1)) ∧ (x4.toInt < x2.toInt → c_X12_wireFrom_70 d x3 m (fun r2 m2 => c_X12_otherEnd_70 d r2 x3 m2 (fun r3 m3 => j_X12_way_70_46 (d + 1) x2 r3 (x4 + (1 : Int32)) m3 Q))))) : j_X12_way_70_46 (d + 1) x2 x3 x4 m Q := by
  refine w_iload (q := 48) hm81 ⟨⟨_, _, rfl⟩, rfl⟩ rfl ?_
  refine w_iload_n (q := 49) hm81 ⟨⟨_, _, rfl⟩, rfl⟩ rfl ?_
  refine w_icmp_ge (q := 52) (X := x4.toInt) (Y := x2.toInt) hm81 ⟨⟨_, _, rfl⟩, rfl⟩ rfl rfl (fun hc => ?_) (fun hc => ?_)
  · have h := h.1 hc
    refine w_aload_n (q := 70) hm81 ⟨⟨_, _, rfl⟩, rfl⟩ rfl ?_
    refine w_iload_n (q := 71) hm81 ⟨⟨_, _, rfl⟩, rfl⟩ rfl ?_
    refine w_call (q := 74) (n := 2) (vs := [.inr (.inr (some 70)), .inl x3]) (rest := []) (la := [oR 70, oI x3, none, none]) hm81 ⟨⟨_, _, rfl⟩, rfl⟩ rfl rfl rfl rfl hm49 rfl rfl (fun _ => ⟨_, _, rfl, rfl⟩) rfl (Wp.mono h ?_)
    rintro _ m1 ⟨r1, rfl, h⟩
    change Wp _ _ 74 _ [.inl r1] _ _
    exact w_reti hm81 ⟨⟨_, _, rfl⟩, rfl⟩ rfl h
  · have h := h.2 hc
    refine w_aload_n (q := 53) hm81 ⟨⟨_, _, rfl⟩, rfl⟩ rfl ?_
    refine w_aload_n (q := 54) hm81 ⟨⟨_, _, rfl⟩, rfl⟩ rfl ?_
    refine w_iload_n (q := 55) hm81 ⟨⟨_, _, rfl⟩, rfl⟩ rfl ?_
    refine w_call (q := 58) (n := 2) (vs := [.inr (.inr (some 70)), .inl x3]) (rest := [.inr (.inr (some 70))]) (la := [oR 70, oI x3, none, none]) hm81 ⟨⟨_, _, rfl⟩, rfl⟩ rfl rfl rfl rfl hm49 rfl rfl (fun _ => ⟨_, _, rfl, rfl⟩) rfl (Wp.mono h ?_)
    rintro _ m2 ⟨r2, rfl, h⟩
    change Wp _ _ 58 _ [.inl r2, .inr (.inr (some 70))] _ _
    refine w_iload_n (q := 59) hm81 ⟨⟨_, _, rfl⟩, rfl⟩ rfl ?_
    refine w_call (q := 62) (n := 1) (vs := [.inr (.inr (some 70)), .inl r2, .inl x3]) (rest := []) (la := [oR 70, oI r2, oI x3, none]) hm81 ⟨⟨_, _, rfl⟩, rfl⟩ rfl rfl rfl rfl hm48 rfl rfl (fun _ => ⟨_, _, rfl, rfl⟩) rfl (Wp.mono h ?_)
    rintro _ m3 ⟨r3, rfl, h⟩
    change Wp _ _ 62 _ [.inl r3] _ _
    refine w_istore_n (q := 63) (l' := [oR 70, none, oI x2, oI r3, oI x4]) hm81 ⟨⟨_, _, rfl⟩, rfl⟩ rfl rfl rfl ?_
    refine w_iinc (q := 66) (l' := [oR 70, none, oI x2, oI r3, oI (x4 + (1 : Int32))]) hm81 ⟨⟨_, _, rfl⟩, rfl⟩ rfl rfl rfl iconst_1 rfl ?_
    refine w_goto (q := 46) hm81 ⟨_, _, rfl⟩ ?_
    exact h
theorem v_X7_copy_62_47 {d : Nat} {m : dM} {Q : dM → Prop} (h : Q (dCpy (dCpy (dCpy (dSet (dSet (dSet (dSet (dSet (dSet m 62 0 (m.1 47 0)) 62 1 (m.1 47 1)) 62 2 (m.1 47 2)) 62 3 (m.1 47 3)) 62 4 (m.1 47 4)) 62 5 (m.1 47 5)) 48 (0 : Int).toNat 63 (0 : Int).toNat (10 : Int).toNat) 49 (0 : Int).toNat 64 (0 : Int).toNat (10 : Int).toNat) 50 (0 : Int).toNat 65 (0 : Int).toNat (7 : Int).toNat)) : c_X7_copy_62_47 (d + 1) m Q := by
  refine w_aload_n (q := 1) hm209 ⟨⟨_, _, rfl⟩, rfl⟩ rfl ?_
  refine w_aload_n (q := 2) hm209 ⟨⟨_, _, rfl⟩, rfl⟩ rfl ?_
  refine w_getf (q := 5) (v := (m.1 47 0)) hm209 ⟨⟨_, _, rfl⟩, rfl⟩ rfl rfl ?_
  refine w_putf (q := 8) hm209 ⟨⟨_, _, rfl⟩, rfl⟩ rfl rfl rfl ?_
  refine w_aload_n (q := 9) hm209 ⟨⟨_, _, rfl⟩, rfl⟩ rfl ?_
  refine w_aload_n (q := 10) hm209 ⟨⟨_, _, rfl⟩, rfl⟩ rfl ?_
  refine w_getf (q := 13) (v := (m.1 47 1)) hm209 ⟨⟨_, _, rfl⟩, rfl⟩ rfl rfl ?_
  refine w_putf (q := 16) hm209 ⟨⟨_, _, rfl⟩, rfl⟩ rfl rfl rfl ?_
  refine w_aload_n (q := 17) hm209 ⟨⟨_, _, rfl⟩, rfl⟩ rfl ?_
  refine w_aload_n (q := 18) hm209 ⟨⟨_, _, rfl⟩, rfl⟩ rfl ?_
  refine w_getf (q := 21) (v := (m.1 47 2)) hm209 ⟨⟨_, _, rfl⟩, rfl⟩ rfl rfl ?_
  refine w_putf (q := 24) hm209 ⟨⟨_, _, rfl⟩, rfl⟩ rfl rfl rfl ?_
  refine w_aload_n (q := 25) hm209 ⟨⟨_, _, rfl⟩, rfl⟩ rfl ?_
  refine w_aload_n (q := 26) hm209 ⟨⟨_, _, rfl⟩, rfl⟩ rfl ?_
  refine w_getf (q := 29) (v := (m.1 47 3)) hm209 ⟨⟨_, _, rfl⟩, rfl⟩ rfl rfl ?_
  refine w_putf (q := 32) hm209 ⟨⟨_, _, rfl⟩, rfl⟩ rfl rfl rfl ?_
  refine w_aload_n (q := 33) hm209 ⟨⟨_, _, rfl⟩, rfl⟩ rfl ?_
  refine w_aload_n (q := 34) hm209 ⟨⟨_, _, rfl⟩, rfl⟩ rfl ?_
  refine w_getf (q := 37) (v := (m.1 47 4)) hm209 ⟨⟨_, _, rfl⟩, rfl⟩ rfl rfl ?_
  refine w_putf (q := 40) hm209 ⟨⟨_, _, rfl⟩, rfl⟩ rfl rfl rfl ?_
  refine w_aload_n (q := 41) hm209 ⟨⟨_, _, rfl⟩, rfl⟩ rfl ?_
  refine w_aload_n (q := 42) hm209 ⟨⟨_, _, rfl⟩, rfl⟩ rfl ?_
  refine w_getf (q := 45) (v := (m.1 47 5)) hm209 ⟨⟨_, _, rfl⟩, rfl⟩ rfl rfl ?_
  refine w_putf (q := 48) hm209 ⟨⟨_, _, rfl⟩, rfl⟩ rfl rfl rfl ?_
  refine w_aload_n (q := 49) hm209 ⟨⟨_, _, rfl⟩, rfl⟩ rfl ?_
  refine w_getr (q := 52) hm209 ⟨⟨_, _, rfl⟩, rfl⟩ rfl ?_
  refine w_iconst (q := 53) hm209 ⟨⟨_, _, rfl⟩, rfl⟩ iconst_0 ?_
  refine w_aload_n (q := 54) hm209 ⟨⟨_, _, rfl⟩, rfl⟩ rfl ?_
  refine w_getr (q := 57) hm209 ⟨⟨_, _, rfl⟩, rfl⟩ rfl ?_
  refine w_iconst (q := 58) hm209 ⟨⟨_, _, rfl⟩, rfl⟩ iconst_0 ?_
  refine w_bipush (q := 60) hm209 ⟨⟨_, _, rfl⟩, rfl⟩ bipush_10 ?_
  refine w_copy (q := 63) (N := 10) (D := 0) (S := 0) hm209 ⟨⟨_, _, rfl⟩, rfl⟩ rfl rfl rfl rfl rfl (by decide) (by decide) (by decide) (by decide) ?_
  refine w_aload_n (q := 64) hm209 ⟨⟨_, _, rfl⟩, rfl⟩ rfl ?_
  refine w_getr (q := 67) hm209 ⟨⟨_, _, rfl⟩, rfl⟩ rfl ?_
  refine w_iconst (q := 68) hm209 ⟨⟨_, _, rfl⟩, rfl⟩ iconst_0 ?_
  refine w_aload_n (q := 69) hm209 ⟨⟨_, _, rfl⟩, rfl⟩ rfl ?_
  refine w_getr (q := 72) hm209 ⟨⟨_, _, rfl⟩, rfl⟩ rfl ?_
  refine w_iconst (q := 73) hm209 ⟨⟨_, _, rfl⟩, rfl⟩ iconst_0 ?_
  refine w_bipush (q := 75) hm209 ⟨⟨_, _, rfl⟩, rfl⟩ bipush_10 ?_
  refine w_copy (q := 78) (N := 10) (D := 0) (S := 0) hm209 ⟨⟨_, _, rfl⟩, rfl⟩ rfl rfl rfl rfl rfl (by decide) (by decide) (by decide) (by decide) ?_
  refine w_aload_n (q := 79) hm209 ⟨⟨_, _, rfl⟩, rfl⟩ rfl ?_
  refine w_getr (q := 82) hm209 ⟨⟨_, _, rfl⟩, rfl⟩ rfl ?_
  refine w_iconst (q := 83) hm209 ⟨⟨_, _, rfl⟩, rfl⟩ iconst_0 ?_
  refine w_aload_n (q := 84) hm209 ⟨⟨_, _, rfl⟩, rfl⟩ rfl ?_
  refine w_getr (q := 87) hm209 ⟨⟨_, _, rfl⟩, rfl⟩ rfl ?_
  refine w_iconst (q := 88) hm209 ⟨⟨_, _, rfl⟩, rfl⟩ iconst_0 ?_
  refine w_bipush (q := 90) hm209 ⟨⟨_, _, rfl⟩, rfl⟩ bipush_7 ?_
  refine w_copy (q := 93) (N := 7) (D := 0) (S := 0) hm209 ⟨⟨_, _, rfl⟩, rfl⟩ rfl rfl rfl rfl rfl (by decide) (by decide) (by decide) (by decide) ?_
  exact w_retv hm209 ⟨⟨_, _, rfl⟩, rfl⟩ rfl h
theorem v_X7_hourOfDay_62 {d : Nat} {m : dM} {Q : Int32 → dM → Prop} (h : Q ((m.1 62 0) - (m.1 62 0) / (24 : Int32) * (24 : Int32)) m) : c_X7_hourOfDay_62 (d + 1) m Q := by
  refine w_aload_n (q := 1) hm212 ⟨⟨_, _, rfl⟩, rfl⟩ rfl ?_
  refine w_getf (q := 4) (v := (m.1 62 0)) hm212 ⟨⟨_, _, rfl⟩, rfl⟩ rfl rfl ?_
  refine w_bipush (q := 6) hm212 ⟨⟨_, _, rfl⟩, rfl⟩ bipush_24 ?_
  refine w_irem (q := 7) hm212 ⟨⟨_, _, rfl⟩, rfl⟩ (by decide) ?_
  exact w_reti hm212 ⟨⟨_, _, rfl⟩, rfl⟩ rfl h
theorem v_X0_usesAt_54_62 {d : Nat} {x2 : Int32} {m : dM} {Q : Int32 → dM → Prop} (h : c_X10_lay_57 d (m.1 62 3) m (fun m1 => j_X0_usesAt_54_62_16 (d + 1) x2 (0 : Int32) (0 : Int32) m1 Q)) : c_X0_usesAt_54_62 (d + 1) x2 m Q := by
  refine w_aload_n (q := 1) hm118 ⟨⟨_, _, rfl⟩, rfl⟩ rfl ?_
  refine w_getr (q := 4) hm118 ⟨⟨_, _, rfl⟩, rfl⟩ rfl ?_
  refine w_aload_n (q := 5) hm118 ⟨⟨_, _, rfl⟩, rfl⟩ rfl ?_
  refine w_getf (q := 8) (v := (m.1 62 3)) hm118 ⟨⟨_, _, rfl⟩, rfl⟩ rfl rfl ?_
  refine w_call (q := 11) (n := 3) (vs := [.inr (.inr (some 57)), .inl (m.1 62 3)]) (rest := []) (la := [oR 57, oI (m.1 62 3), none, none, none]) hm118 ⟨⟨_, _, rfl⟩, rfl⟩ rfl rfl rfl rfl hm239 rfl rfl (fun _ => ⟨_, _, rfl, rfl⟩) rfl (Wp.mono h ?_)
  rintro _ m1 ⟨rfl, h⟩
  change Wp _ _ 11 _ [] _ _
  refine w_iconst (q := 12) hm118 ⟨⟨_, _, rfl⟩, rfl⟩ iconst_0 ?_
  refine w_istore_n (q := 13) (l' := [oR 54, oR 62, oI x2, oI (0 : Int32), none, none]) hm118 ⟨⟨_, _, rfl⟩, rfl⟩ rfl rfl rfl ?_
  refine w_iconst (q := 14) hm118 ⟨⟨_, _, rfl⟩, rfl⟩ iconst_0 ?_
  refine w_istore (q := 16) (l' := [oR 54, oR 62, oI x2, oI (0 : Int32), oI (0 : Int32), none]) hm118 ⟨⟨_, _, rfl⟩, rfl⟩ rfl rfl rfl ?_
  exact h
theorem v_X0_usesAt_54_62_16 {d : Nat} {x2 : Int32} {x3 : Int32} {x4 : Int32} {m : dM} {Q : Int32 → dM → Prop} (h : (((m.1 2 2).toInt ≤ x4.toInt → Q x3 m) ∧ (x4.toInt < (m.1 2 2).toInt → ((0 ≤ x4.toInt ∧ x4.toInt < 8) ∧ ((x2.toInt < (m.1 9 x4.toNatClampNeg).toInt → j_X0_usesAt_54_62_60 (d + 1) x2 x3 x4 m Q) ∧ ((m.1 9 x4.toNatClampNeg).toInt ≤ x2.toInt → ((0 ≤ x4.toInt ∧ x4.toInt < 8) ∧ (((m.1 10 x4.toNatClampNeg).toInt < x2.toInt → j_X0_usesAt_54_62_60 (d + 1) x2 x3 x4 m Q) ∧ (x2.toInt ≤ (m.1 10 x4.toNatClampNeg).toInt → c_X11_has d (m.1 62 5) x4 m (fun r1 m1 => ((r1.toInt = 0 → j_X0_usesAt_54_62_110 (d + 1) x2 x3 x4 m1 Q) ∧ (r1.toInt ≠ 0 → ((0 ≤ x4.toInt ∧ x4.toInt < 8) ∧ c_X11_has d (m1.1 57 5) (m1.1 7 x4.toNatClampNeg) m1 (fun r2 m2 => ((r2.toInt = 0 → j_X0_usesAt_54_62_110 (d + 1) x2 x3 x4 m2 Q) ∧ (r2.toInt ≠ 0 → j_X0_usesAt_54_62_110 (d + 1) x2 (x3 ||| ((1 : Int32) <<< (x4 &&& 31))) x4 m2 Q)))))))))))))))) : j_X0_usesAt_54_62_16 (d + 1) x2 x3 x4 m Q := by
  refine w_iload (q := 18) hm118 ⟨⟨_, _, rfl⟩, rfl⟩ rfl ?_
  refine w_aload_n (q := 19) hm118 ⟨⟨_, _, rfl⟩, rfl⟩ rfl ?_
  refine w_getr (q := 22) hm118 ⟨⟨_, _, rfl⟩, rfl⟩ rfl ?_
  refine w_getf (q := 25) (v := (m.1 2 2)) hm118 ⟨⟨_, _, rfl⟩, rfl⟩ rfl rfl ?_
  refine w_icmp_ge (q := 28) (X := x4.toInt) (Y := (m.1 2 2).toInt) hm118 ⟨⟨_, _, rfl⟩, rfl⟩ rfl rfl (fun hc => ?_) (fun hc => ?_)
  · have h := h.1 hc
    refine w_iload_n (q := 117) hm118 ⟨⟨_, _, rfl⟩, rfl⟩ rfl ?_
    exact w_reti hm118 ⟨⟨_, _, rfl⟩, rfl⟩ rfl h
  · have h := h.2 hc
    refine w_aload_n (q := 29) hm118 ⟨⟨_, _, rfl⟩, rfl⟩ rfl ?_
    refine w_getr (q := 32) hm118 ⟨⟨_, _, rfl⟩, rfl⟩ rfl ?_
    refine w_getr (q := 35) hm118 ⟨⟨_, _, rfl⟩, rfl⟩ rfl ?_
    refine w_iload (q := 37) hm118 ⟨⟨_, _, rfl⟩, rfl⟩ rfl ?_
    obtain ⟨hi, h⟩ := h
    refine w_iald (q := 38) (v := (m.1 9 x4.toNatClampNeg)) hm118 ⟨⟨_, _, rfl⟩, rfl⟩ rfl hi rfl rfl ?_
    refine w_iload_n (q := 39) hm118 ⟨⟨_, _, rfl⟩, rfl⟩ rfl ?_
    refine w_icmp_gt (q := 42) (X := (m.1 9 x4.toNatClampNeg).toInt) (Y := x2.toInt) hm118 ⟨⟨_, _, rfl⟩, rfl⟩ rfl rfl (fun hc => ?_) (fun hc => ?_)
    · have h := h.1 hc
      exact h
    · have h := h.2 hc
      refine w_iload_n (q := 43) hm118 ⟨⟨_, _, rfl⟩, rfl⟩ rfl ?_
      refine w_aload_n (q := 44) hm118 ⟨⟨_, _, rfl⟩, rfl⟩ rfl ?_
      refine w_getr (q := 47) hm118 ⟨⟨_, _, rfl⟩, rfl⟩ rfl ?_
      refine w_getr (q := 50) hm118 ⟨⟨_, _, rfl⟩, rfl⟩ rfl ?_
      refine w_iload (q := 52) hm118 ⟨⟨_, _, rfl⟩, rfl⟩ rfl ?_
      obtain ⟨hi, h⟩ := h
      refine w_iald (q := 53) (v := (m.1 10 x4.toNatClampNeg)) hm118 ⟨⟨_, _, rfl⟩, rfl⟩ rfl hi rfl rfl ?_
      refine w_icmp_gt (q := 56) (X := x2.toInt) (Y := (m.1 10 x4.toNatClampNeg).toInt) hm118 ⟨⟨_, _, rfl⟩, rfl⟩ rfl rfl (fun hc => ?_) (fun hc => ?_)
      · have h := h.1 hc
        exact h
      · have h := h.2 hc
        refine w_iconst (q := 57) hm118 ⟨⟨_, _, rfl⟩, rfl⟩ iconst_1 ?_
        refine w_goto (q := 61) hm118 ⟨_, _, rfl⟩ ?_
        refine w_istore (q := 63) (l' := [oR 54, oR 62, oI x2, oI x3, oI x4, oI (1 : Int32)]) hm118 ⟨⟨_, _, rfl⟩, rfl⟩ rfl rfl rfl ?_
        refine w_iload (q := 65) hm118 ⟨⟨_, _, rfl⟩, rfl⟩ rfl ?_
        refine w_if_eq (q := 68) (X := 1) hm118 ⟨⟨_, _, rfl⟩, rfl⟩ (by decide) (fun hc => absurd hc (by decide)) (fun _ => ?_)
        refine w_aload_n (q := 69) hm118 ⟨⟨_, _, rfl⟩, rfl⟩ rfl ?_
        refine w_getf (q := 72) (v := (m.1 62 5)) hm118 ⟨⟨_, _, rfl⟩, rfl⟩ rfl rfl ?_
        refine w_iload (q := 74) hm118 ⟨⟨_, _, rfl⟩, rfl⟩ rfl ?_
        refine w_call (q := 77) (n := 0) (vs := [.inl (m.1 62 5), .inl x4]) (rest := []) (la := [oI (m.1 62 5), oI x4]) hm118 ⟨⟨_, _, rfl⟩, rfl⟩ rfl rfl rfl rfl hm283 rfl rfl (fun hz => absurd hz (by decide)) rfl (Wp.mono h ?_)
        rintro _ m1 ⟨r1, rfl, h⟩
        change Wp _ _ 77 _ [.inl r1] _ _
        refine w_if_eq (q := 80) (X := r1.toInt) hm118 ⟨⟨_, _, rfl⟩, rfl⟩ rfl (fun hc => ?_) (fun hc => ?_)
        · have h := h.1 hc
          exact Wp.wk [true, true, true, true, true, false] h
        · have h := h.2 hc
          refine w_aload_n (q := 81) hm118 ⟨⟨_, _, rfl⟩, rfl⟩ rfl ?_
          refine w_getr (q := 84) hm118 ⟨⟨_, _, rfl⟩, rfl⟩ rfl ?_
          refine w_getf (q := 87) (v := (m1.1 57 5)) hm118 ⟨⟨_, _, rfl⟩, rfl⟩ rfl rfl ?_
          refine w_aload_n (q := 88) hm118 ⟨⟨_, _, rfl⟩, rfl⟩ rfl ?_
          refine w_getr (q := 91) hm118 ⟨⟨_, _, rfl⟩, rfl⟩ rfl ?_
          refine w_getr (q := 94) hm118 ⟨⟨_, _, rfl⟩, rfl⟩ rfl ?_
          refine w_iload (q := 96) hm118 ⟨⟨_, _, rfl⟩, rfl⟩ rfl ?_
          obtain ⟨hi, h⟩ := h
          refine w_iald (q := 97) (v := (m1.1 7 x4.toNatClampNeg)) hm118 ⟨⟨_, _, rfl⟩, rfl⟩ rfl hi rfl rfl ?_
          refine w_call (q := 100) (n := 0) (vs := [.inl (m1.1 57 5), .inl (m1.1 7 x4.toNatClampNeg)]) (rest := []) (la := [oI (m1.1 57 5), oI (m1.1 7 x4.toNatClampNeg)]) hm118 ⟨⟨_, _, rfl⟩, rfl⟩ rfl rfl rfl rfl hm283 rfl rfl (fun hz => absurd hz (by decide)) rfl (Wp.mono h ?_)
          rintro _ m2 ⟨r2, rfl, h⟩
          change Wp _ _ 100 _ [.inl r2] _ _
          refine w_if_eq (q := 103) (X := r2.toInt) hm118 ⟨⟨_, _, rfl⟩, rfl⟩ rfl (fun hc => ?_) (fun hc => ?_)
          · have h := h.1 hc
            exact Wp.wk [true, true, true, true, true, false] h
          · have h := h.2 hc
            refine w_iload_n (q := 104) hm118 ⟨⟨_, _, rfl⟩, rfl⟩ rfl ?_
            refine w_iconst (q := 105) hm118 ⟨⟨_, _, rfl⟩, rfl⟩ iconst_1 ?_
            refine w_iload (q := 107) hm118 ⟨⟨_, _, rfl⟩, rfl⟩ rfl ?_
            refine w_ishl (q := 108) hm118 ⟨⟨_, _, rfl⟩, rfl⟩ ?_
            refine w_ior (q := 109) hm118 ⟨⟨_, _, rfl⟩, rfl⟩ ?_
            refine w_istore_n (q := 110) (l' := [oR 54, oR 62, oI x2, oI (x3 ||| ((1 : Int32) <<< (x4 &&& 31))), oI x4, oI (1 : Int32)]) hm118 ⟨⟨_, _, rfl⟩, rfl⟩ rfl rfl rfl ?_
            exact Wp.wk [true, true, true, true, true, false] h
theorem v_X0_usesAt_54_62_60 {d : Nat} {x2 : Int32} {x3 : Int32} {x4 : Int32} {m : dM} {Q : Int32 → dM → Prop} (h : j_X0_usesAt_54_62_110 (d + 1) x2 x3 x4 m Q) : j_X0_usesAt_54_62_60 (d + 1) x2 x3 x4 m Q := by
  refine w_iconst (q := 61) hm118 ⟨⟨_, _, rfl⟩, rfl⟩ iconst_0 ?_
  refine w_istore (q := 63) (l' := [oR 54, oR 62, oI x2, oI x3, oI x4, oI (0 : Int32)]) hm118 ⟨⟨_, _, rfl⟩, rfl⟩ rfl rfl rfl ?_
  refine w_iload (q := 65) hm118 ⟨⟨_, _, rfl⟩, rfl⟩ rfl ?_
  refine w_if_eq (q := 68) (X := 0) hm118 ⟨⟨_, _, rfl⟩, rfl⟩ (by decide) (fun _ => ?_) (fun hc => absurd hc (by decide))
  exact Wp.wk [true, true, true, true, true, false] h
theorem v_X0_usesAt_54_62_110 {d : Nat} {x2 : Int32} {x3 : Int32} {x4 : Int32} {m : dM} {Q : Int32 → dM → Prop} (h : j_X0_usesAt_54_62_16 (d + 1) x2 x3 (x4 + (1 : Int32)) m Q) : j_X0_usesAt_54_62_110 (d + 1) x2 x3 x4 m Q := by
  refine w_iinc (q := 113) (l' := [oR 54, oR 62, oI x2, oI x3, oI (x4 + (1 : Int32)), none]) hm118 ⟨⟨_, _, rfl⟩, rfl⟩ rfl rfl rfl iconst_1 rfl ?_
  refine w_goto (q := 16) hm118 ⟨_, _, rfl⟩ ?_
  exact h
theorem v_X0_putOn_54_62 {d : Nat} {x2 : Int32} {m : dM} {Q : dM → Prop} (h : c_X10_lay_57 d (m.1 62 3) m (fun m1 => c_J7_fill_56 d (0 : Int32) m1 (fun m2 => j_X0_putOn_54_62_21 (d + 1) x2 (0 : Int32) m2 Q))) : c_X0_putOn_54_62 (d + 1) x2 m Q := by
  refine w_aload_n (q := 1) hm120 ⟨⟨_, _, rfl⟩, rfl⟩ rfl ?_
  refine w_getr (q := 4) hm120 ⟨⟨_, _, rfl⟩, rfl⟩ rfl ?_
  refine w_aload_n (q := 5) hm120 ⟨⟨_, _, rfl⟩, rfl⟩ rfl ?_
  refine w_getf (q := 8) (v := (m.1 62 3)) hm120 ⟨⟨_, _, rfl⟩, rfl⟩ rfl rfl ?_
  refine w_call (q := 11) (n := 3) (vs := [.inr (.inr (some 57)), .inl (m.1 62 3)]) (rest := []) (la := [oR 57, oI (m.1 62 3), none, none, none]) hm120 ⟨⟨_, _, rfl⟩, rfl⟩ rfl rfl rfl rfl hm239 rfl rfl (fun _ => ⟨_, _, rfl, rfl⟩) rfl (Wp.mono h ?_)
  rintro _ m1 ⟨rfl, h⟩
  change Wp _ _ 11 _ [] _ _
  refine w_aload_n (q := 12) hm120 ⟨⟨_, _, rfl⟩, rfl⟩ rfl ?_
  refine w_getr (q := 15) hm120 ⟨⟨_, _, rfl⟩, rfl⟩ rfl ?_
  refine w_iconst (q := 16) hm120 ⟨⟨_, _, rfl⟩, rfl⟩ iconst_0 ?_
  refine w_call (q := 19) (n := 2) (vs := [.inr (.inr (some 56)), .inl (0 : Int32)]) (rest := []) (la := [oR 56, oI (0 : Int32), none, none]) hm120 ⟨⟨_, _, rfl⟩, rfl⟩ rfl rfl rfl rfl hm286 rfl rfl (fun hz => absurd hz (by decide)) rfl (Wp.mono h ?_)
  rintro _ m2 ⟨rfl, h⟩
  change Wp _ _ 19 _ [] _ _
  refine w_iconst (q := 20) hm120 ⟨⟨_, _, rfl⟩, rfl⟩ iconst_0 ?_
  refine w_istore_n (q := 21) (l' := [oR 54, oR 62, oI x2, oI (0 : Int32), none, none]) hm120 ⟨⟨_, _, rfl⟩, rfl⟩ rfl rfl rfl ?_
  exact Wp.wk [true, false, true, true, false, false] h
theorem v_X0_putOn_54_62_21 {d : Nat} {x2 : Int32} {x3 : Int32} {m : dM} {Q : dM → Prop} (h : (((m.1 2 2).toInt ≤ x3.toInt → Q m) ∧ (x3.toInt < (m.1 2 2).toInt → c_X11_has d x2 x3 m (fun r1 m1 => ((r1.toInt = 0 → j_X0_putOn_54_62_66 (d + 1) x2 x3 (0 : Int32) (0 : Int32) m1 Q) ∧ (r1.toInt ≠ 0 → ((0 ≤ x3.toInt ∧ x3.toInt < 8) ∧ ((0 ≤ (m1.1 7 x3.toNatClampNeg).toInt ∧ (m1.1 7 x3.toNatClampNeg).toInt < 7) ∧ j_X0_putOn_54_62_66 (d + 1) x2 x3 (m1.1 60 (m1.1 7 x3.toNatClampNeg).toNatClampNeg) (0 : Int32) m1 Q)))))))) : j_X0_putOn_54_62_21 (d + 1) x2 x3 m Q := by
  refine w_iload_n (q := 22) hm120 ⟨⟨_, _, rfl⟩, rfl⟩ rfl ?_
  refine w_aload_n (q := 23) hm120 ⟨⟨_, _, rfl⟩, rfl⟩ rfl ?_
  refine w_getr (q := 26) hm120 ⟨⟨_, _, rfl⟩, rfl⟩ rfl ?_
  refine w_getf (q := 29) (v := (m.1 2 2)) hm120 ⟨⟨_, _, rfl⟩, rfl⟩ rfl rfl ?_
  refine w_icmp_ge (q := 32) (X := x3.toInt) (Y := (m.1 2 2).toInt) hm120 ⟨⟨_, _, rfl⟩, rfl⟩ rfl rfl (fun hc => ?_) (fun hc => ?_)
  · have h := h.1 hc
    exact w_retv hm120 ⟨⟨_, _, rfl⟩, rfl⟩ rfl h
  · have h := h.2 hc
    refine w_iload_n (q := 33) hm120 ⟨⟨_, _, rfl⟩, rfl⟩ rfl ?_
    refine w_iload_n (q := 34) hm120 ⟨⟨_, _, rfl⟩, rfl⟩ rfl ?_
    refine w_call (q := 37) (n := 0) (vs := [.inl x2, .inl x3]) (rest := []) (la := [oI x2, oI x3]) hm120 ⟨⟨_, _, rfl⟩, rfl⟩ rfl rfl rfl rfl hm283 rfl rfl (fun hz => absurd hz (by decide)) rfl (Wp.mono h ?_)
    rintro _ m1 ⟨r1, rfl, h⟩
    change Wp _ _ 37 _ [.inl r1] _ _
    refine w_if_eq (q := 40) (X := r1.toInt) hm120 ⟨⟨_, _, rfl⟩, rfl⟩ rfl (fun hc => ?_) (fun hc => ?_)
    · have h := h.1 hc
      refine w_iconst (q := 61) hm120 ⟨⟨_, _, rfl⟩, rfl⟩ iconst_0 ?_
      refine w_istore (q := 63) (l' := [oR 54, none, oI x2, oI x3, oI (0 : Int32), none]) hm120 ⟨⟨_, _, rfl⟩, rfl⟩ rfl rfl rfl ?_
      refine w_iconst (q := 64) hm120 ⟨⟨_, _, rfl⟩, rfl⟩ iconst_0 ?_
      refine w_istore (q := 66) (l' := [oR 54, none, oI x2, oI x3, oI (0 : Int32), oI (0 : Int32)]) hm120 ⟨⟨_, _, rfl⟩, rfl⟩ rfl rfl rfl ?_
      exact h
    · have h := h.2 hc
      refine w_aload_n (q := 41) hm120 ⟨⟨_, _, rfl⟩, rfl⟩ rfl ?_
      refine w_getr (q := 44) hm120 ⟨⟨_, _, rfl⟩, rfl⟩ rfl ?_
      refine w_getr (q := 47) hm120 ⟨⟨_, _, rfl⟩, rfl⟩ rfl ?_
      refine w_aload_n (q := 48) hm120 ⟨⟨_, _, rfl⟩, rfl⟩ rfl ?_
      refine w_getr (q := 51) hm120 ⟨⟨_, _, rfl⟩, rfl⟩ rfl ?_
      refine w_getr (q := 54) hm120 ⟨⟨_, _, rfl⟩, rfl⟩ rfl ?_
      refine w_iload_n (q := 55) hm120 ⟨⟨_, _, rfl⟩, rfl⟩ rfl ?_
      obtain ⟨hi, h⟩ := h
      refine w_iald (q := 56) (v := (m1.1 7 x3.toNatClampNeg)) hm120 ⟨⟨_, _, rfl⟩, rfl⟩ rfl hi rfl rfl ?_
      obtain ⟨hi, h⟩ := h
      refine w_iald (q := 57) (v := (m1.1 60 (m1.1 7 x3.toNatClampNeg).toNatClampNeg)) hm120 ⟨⟨_, _, rfl⟩, rfl⟩ rfl hi rfl rfl ?_
      refine w_goto (q := 61) hm120 ⟨_, _, rfl⟩ ?_
      refine w_istore (q := 63) (l' := [oR 54, none, oI x2, oI x3, oI (m1.1 60 (m1.1 7 x3.toNatClampNeg).toNatClampNeg), none]) hm120 ⟨⟨_, _, rfl⟩, rfl⟩ rfl rfl rfl ?_
      refine w_iconst (q := 64) hm120 ⟨⟨_, _, rfl⟩, rfl⟩ iconst_0 ?_
      refine w_istore (q := 66) (l' := [oR 54, none, oI x2, oI x3, oI (m1.1 60 (m1.1 7 x3.toNatClampNeg).toNatClampNeg), oI (0 : Int32)]) hm120 ⟨⟨_, _, rfl⟩, rfl⟩ rfl rfl rfl ?_
      exact h
theorem v_X0_putOn_54_62_66 {d : Nat} {x2 : Int32} {x3 : Int32} {x4 : Int32} {x5 : Int32} {m : dM} {Q : dM → Prop} (h : (((x4.toUInt32 >>> (x5.toUInt32 &&& Int32.toUInt32 31)).toInt32.toInt = 0 → j_X0_putOn_54_62_125 (d + 1) x2 x3 m Q) ∧ ((x4.toUInt32 >>> (x5.toUInt32 &&& Int32.toUInt32 31)).toInt32.toInt ≠ 0 → (((m.1 2 1).toInt ≤ x5.toInt → j_X0_putOn_54_62_125 (d + 1) x2 x3 m Q) ∧ (x5.toInt < (m.1 2 1).toInt → ((0 ≤ x5.toInt ∧ x5.toInt < 10) ∧ c_X11_has d x4 x5 m (fun r1 m1 => ((r1.toInt = 0 → ((0 ≤ x5.toInt ∧ x5.toInt < 10) ∧ j_X0_putOn_54_62_66 (d + 1) x2 x3 x4 (x5 + (1 : Int32)) (dSet m1 56 x5.toNatClampNeg ((m.1 56 x5.toNatClampNeg) + (0 : Int32))) Q)) ∧ (r1.toInt ≠ 0 → ((0 ≤ x3.toInt ∧ x3.toInt < 8) ∧ ((0 ≤ x5.toInt ∧ x5.toInt < 10) ∧ j_X0_putOn_54_62_66 (d + 1) x2 x3 x4 (x5 + (1 : Int32)) (dSet m1 56 x5.toNatClampNeg ((m.1 56 x5.toNatClampNeg) + (m1.1 8 x3.toNatClampNeg))) Q))))))))))) : j_X0_putOn_54_62_66 (d + 1) x2 x3 x4 x5 m Q := by
  refine w_iload (q := 68) hm120 ⟨⟨_, _, rfl⟩, rfl⟩ rfl ?_
  refine w_iload (q := 70) hm120 ⟨⟨_, _, rfl⟩, rfl⟩ rfl ?_
  refine w_iushr (q := 71) hm120 ⟨⟨_, _, rfl⟩, rfl⟩ ?_
  refine w_if_eq (q := 74) (X := (x4.toUInt32 >>> (x5.toUInt32 &&& Int32.toUInt32 31)).toInt32.toInt) hm120 ⟨⟨_, _, rfl⟩, rfl⟩ rfl (fun hc => ?_) (fun hc => ?_)
  · have h := h.1 hc
    exact Wp.wk [true, false, true, true, false, false] h
  · have h := h.2 hc
    refine w_iload (q := 76) hm120 ⟨⟨_, _, rfl⟩, rfl⟩ rfl ?_
    refine w_aload_n (q := 77) hm120 ⟨⟨_, _, rfl⟩, rfl⟩ rfl ?_
    refine w_getr (q := 80) hm120 ⟨⟨_, _, rfl⟩, rfl⟩ rfl ?_
    refine w_getf (q := 83) (v := (m.1 2 1)) hm120 ⟨⟨_, _, rfl⟩, rfl⟩ rfl rfl ?_
    refine w_icmp_ge (q := 86) (X := x5.toInt) (Y := (m.1 2 1).toInt) hm120 ⟨⟨_, _, rfl⟩, rfl⟩ rfl rfl (fun hc => ?_) (fun hc => ?_)
    · have h := h.1 hc
      exact Wp.wk [true, false, true, true, false, false] h
    · have h := h.2 hc
      refine w_aload_n (q := 87) hm120 ⟨⟨_, _, rfl⟩, rfl⟩ rfl ?_
      refine w_getr (q := 90) hm120 ⟨⟨_, _, rfl⟩, rfl⟩ rfl ?_
      refine w_iload (q := 92) hm120 ⟨⟨_, _, rfl⟩, rfl⟩ rfl ?_
      refine w_dup2 (q := 93) hm120 ⟨⟨_, _, rfl⟩, rfl⟩ rfl ?_
      obtain ⟨hi, h⟩ := h
      refine w_iald (q := 94) (v := (m.1 56 x5.toNatClampNeg)) hm120 ⟨⟨_, _, rfl⟩, rfl⟩ rfl hi rfl rfl ?_
      refine w_iload (q := 96) hm120 ⟨⟨_, _, rfl⟩, rfl⟩ rfl ?_
      refine w_iload (q := 98) hm120 ⟨⟨_, _, rfl⟩, rfl⟩ rfl ?_
      refine w_call (q := 101) (n := 0) (vs := [.inl x4, .inl x5]) (rest := [.inl (m.1 56 x5.toNatClampNeg), .inl x5, .inr (.inr (some 56))]) (la := [oI x4, oI x5]) hm120 ⟨⟨_, _, rfl⟩, rfl⟩ rfl rfl rfl rfl hm283 rfl rfl (fun hz => absurd hz (by decide)) rfl (Wp.mono h ?_)
      rintro _ m1 ⟨r1, rfl, h⟩
      change Wp _ _ 101 _ [.inl r1, .inl (m.1 56 x5.toNatClampNeg), .inl x5, .inr (.inr (some 56))] _ _
      refine w_if_eq (q := 104) (X := r1.toInt) hm120 ⟨⟨_, _, rfl⟩, rfl⟩ rfl (fun hc => ?_) (fun hc => ?_)
      · have h := h.1 hc
        refine w_iconst (q := 117) hm120 ⟨⟨_, _, rfl⟩, rfl⟩ iconst_0 ?_
        refine w_iadd (q := 118) hm120 ⟨⟨_, _, rfl⟩, rfl⟩ ?_
        obtain ⟨hi, h⟩ := h
        refine w_iast (q := 119) hm120 ⟨⟨_, _, rfl⟩, rfl⟩ rfl hi rfl rfl ?_
        refine w_iinc (q := 122) (l' := [oR 54, none, oI x2, oI x3, oI x4, oI (x5 + (1 : Int32))]) hm120 ⟨⟨_, _, rfl⟩, rfl⟩ rfl rfl rfl iconst_1 rfl ?_
        refine w_goto (q := 66) hm120 ⟨_, _, rfl⟩ ?_
        exact h
      · have h := h.2 hc
        refine w_aload_n (q := 105) hm120 ⟨⟨_, _, rfl⟩, rfl⟩ rfl ?_
        refine w_getr (q := 108) hm120 ⟨⟨_, _, rfl⟩, rfl⟩ rfl ?_
        refine w_getr (q := 111) hm120 ⟨⟨_, _, rfl⟩, rfl⟩ rfl ?_
        refine w_iload_n (q := 112) hm120 ⟨⟨_, _, rfl⟩, rfl⟩ rfl ?_
        obtain ⟨hi, h⟩ := h
        refine w_iald (q := 113) (v := (m1.1 8 x3.toNatClampNeg)) hm120 ⟨⟨_, _, rfl⟩, rfl⟩ rfl hi rfl rfl ?_
        refine w_goto (q := 117) hm120 ⟨_, _, rfl⟩ ?_
        refine w_iadd (q := 118) hm120 ⟨⟨_, _, rfl⟩, rfl⟩ ?_
        obtain ⟨hi, h⟩ := h
        refine w_iast (q := 119) hm120 ⟨⟨_, _, rfl⟩, rfl⟩ rfl hi rfl rfl ?_
        refine w_iinc (q := 122) (l' := [oR 54, none, oI x2, oI x3, oI x4, oI (x5 + (1 : Int32))]) hm120 ⟨⟨_, _, rfl⟩, rfl⟩ rfl rfl rfl iconst_1 rfl ?_
        refine w_goto (q := 66) hm120 ⟨_, _, rfl⟩ ?_
        exact h
theorem v_X0_putOn_54_62_125 {d : Nat} {x2 : Int32} {x3 : Int32} {m : dM} {Q : dM → Prop} (h : j_X0_putOn_54_62_21 (d + 1) x2 (x3 + (1 : Int32)) m Q) : j_X0_putOn_54_62_125 (d + 1) x2 x3 m Q := by
  refine w_iinc (q := 128) (l' := [oR 54, none, oI x2, oI (x3 + (1 : Int32)), none, none]) hm120 ⟨⟨_, _, rfl⟩, rfl⟩ rfl rfl rfl iconst_1 rfl ?_
  refine w_goto (q := 21) hm120 ⟨_, _, rfl⟩ ?_
  exact h
theorem v_X7_day_62 {d : Nat} {m : dM} {Q : Int32 → dM → Prop} (h : Q ((m.1 62 0) / (24 : Int32)) m) : c_X7_day_62 (d + 1) m Q := by
  refine w_aload_n (q := 1) hm213 ⟨⟨_, _, rfl⟩, rfl⟩ rfl ?_
  refine w_getf (q := 4) (v := (m.1 62 0)) hm213 ⟨⟨_, _, rfl⟩, rfl⟩ rfl rfl ?_
  refine w_bipush (q := 6) hm213 ⟨⟨_, _, rfl⟩, rfl⟩ bipush_24 ?_
  refine w_idiv (q := 7) hm213 ⟨⟨_, _, rfl⟩, rfl⟩ (by decide) ?_
  exact w_reti hm213 ⟨⟨_, _, rfl⟩, rfl⟩ rfl h
theorem v_X0_going_54_62 {d : Nat} {x2 : Int32} {x3 : Int32} {m : dM} {Q : Int32 → dM → Prop} (h : j_X0_going_54_62_6 (d + 1) x2 x3 (0 : Int32) (0 : Int32) m Q) : c_X0_going_54_62 (d + 1) x2 x3 m Q := by
  refine w_iconst (q := 1) hm124 ⟨⟨_, _, rfl⟩, rfl⟩ iconst_0 ?_
  refine w_istore (q := 3) (l' := [oR 54, oR 62, oI x2, oI x3, oI (0 : Int32), none]) hm124 ⟨⟨_, _, rfl⟩, rfl⟩ rfl rfl rfl ?_
  refine w_iconst (q := 4) hm124 ⟨⟨_, _, rfl⟩, rfl⟩ iconst_0 ?_
  refine w_istore (q := 6) (l' := [oR 54, oR 62, oI x2, oI x3, oI (0 : Int32), oI (0 : Int32)]) hm124 ⟨⟨_, _, rfl⟩, rfl⟩ rfl rfl rfl ?_
  exact h
theorem v_X0_going_54_62_6 {d : Nat} {x2 : Int32} {x3 : Int32} {x4 : Int32} {x5 : Int32} {m : dM} {Q : Int32 → dM → Prop} (h : (((m.1 2 1).toInt ≤ x5.toInt → Q x4 m) ∧ (x5.toInt < (m.1 2 1).toInt → ((0 ≤ x5.toInt ∧ x5.toInt < 10) ∧ (((m.1 56 x5.toNatClampNeg).toInt ≤ 0 → j_X0_going_54_62_119 (d + 1) x2 x3 x4 x5 m Q) ∧ (0 < (m.1 56 x5.toNatClampNeg).toInt → c_X11_has d (m.1 62 4) x5 m (fun r1 m1 => ((r1.toInt ≠ 0 → j_X0_going_54_62_119 (d + 1) x2 x3 x4 x5 m1 Q) ∧ (r1.toInt = 0 → c_X7_day_62 d m1 (fun r2 m2 => c_X0_setVars_54 d x2 r2 x5 m2 (fun m3 => ((0 ≤ x5.toInt ∧ x5.toInt < 10) ∧ ((0 ≤ x5.toInt ∧ x5.toInt < 10) ∧ ((0 ≤ x5.toInt ∧ x5.toInt < 10) ∧ c_X4_tells_11_55 d (0 : Int32) (dSet (dSet (dSet m3 55 0 ((m3.1 56 x5.toNatClampNeg) + x3)) 55 1 (m3.1 63 x5.toNatClampNeg)) 55 2 (m3.1 64 x5.toNatClampNeg)) (fun r4 m4 => ((r4.toInt ≤ 0 → j_X0_going_54_62_119 (d + 1) x2 x3 x4 x5 m4 Q) ∧ (0 < r4.toInt → j_X0_going_54_62_119 (d + 1) x2 x3 (x4 ||| ((1 : Int32) <<< (x5 &&& 31))) x5 m4 Q))))))))))))))))) : j_X0_going_54_62_6 (d + 1) x2 x3 x4 x5 m Q := by
  refine w_iload (q := 8) hm124 ⟨⟨_, _, rfl⟩, rfl⟩ rfl ?_
  refine w_aload_n (q := 9) hm124 ⟨⟨_, _, rfl⟩, rfl⟩ rfl ?_
  refine w_getr (q := 12) hm124 ⟨⟨_, _, rfl⟩, rfl⟩ rfl ?_
  refine w_getf (q := 15) (v := (m.1 2 1)) hm124 ⟨⟨_, _, rfl⟩, rfl⟩ rfl rfl ?_
  refine w_icmp_ge (q := 18) (X := x5.toInt) (Y := (m.1 2 1).toInt) hm124 ⟨⟨_, _, rfl⟩, rfl⟩ rfl rfl (fun hc => ?_) (fun hc => ?_)
  · have h := h.1 hc
    refine w_iload (q := 127) hm124 ⟨⟨_, _, rfl⟩, rfl⟩ rfl ?_
    exact w_reti hm124 ⟨⟨_, _, rfl⟩, rfl⟩ rfl h
  · have h := h.2 hc
    refine w_aload_n (q := 19) hm124 ⟨⟨_, _, rfl⟩, rfl⟩ rfl ?_
    refine w_getr (q := 22) hm124 ⟨⟨_, _, rfl⟩, rfl⟩ rfl ?_
    refine w_iload (q := 24) hm124 ⟨⟨_, _, rfl⟩, rfl⟩ rfl ?_
    obtain ⟨hi, h⟩ := h
    refine w_iald (q := 25) (v := (m.1 56 x5.toNatClampNeg)) hm124 ⟨⟨_, _, rfl⟩, rfl⟩ rfl hi rfl rfl ?_
    refine w_if_le (q := 28) (X := (m.1 56 x5.toNatClampNeg).toInt) hm124 ⟨⟨_, _, rfl⟩, rfl⟩ rfl (fun hc => ?_) (fun hc => ?_)
    · have h := h.1 hc
      exact h
    · have h := h.2 hc
      refine w_aload_n (q := 29) hm124 ⟨⟨_, _, rfl⟩, rfl⟩ rfl ?_
      refine w_getf (q := 32) (v := (m.1 62 4)) hm124 ⟨⟨_, _, rfl⟩, rfl⟩ rfl rfl ?_
      refine w_iload (q := 34) hm124 ⟨⟨_, _, rfl⟩, rfl⟩ rfl ?_
      refine w_call (q := 37) (n := 0) (vs := [.inl (m.1 62 4), .inl x5]) (rest := []) (la := [oI (m.1 62 4), oI x5]) hm124 ⟨⟨_, _, rfl⟩, rfl⟩ rfl rfl rfl rfl hm283 rfl rfl (fun hz => absurd hz (by decide)) rfl (Wp.mono h ?_)
      rintro _ m1 ⟨r1, rfl, h⟩
      change Wp _ _ 37 _ [.inl r1] _ _
      refine w_if_ne (q := 40) (X := r1.toInt) hm124 ⟨⟨_, _, rfl⟩, rfl⟩ rfl (fun hc => ?_) (fun hc => ?_)
      · have h := h.1 hc
        exact h
      · have h := h.2 hc
        refine w_aload_n (q := 41) hm124 ⟨⟨_, _, rfl⟩, rfl⟩ rfl ?_
        refine w_iload_n (q := 42) hm124 ⟨⟨_, _, rfl⟩, rfl⟩ rfl ?_
        refine w_aload_n (q := 43) hm124 ⟨⟨_, _, rfl⟩, rfl⟩ rfl ?_
        refine w_call (q := 46) (n := 0) (vs := [.inr (.inr (some 62))]) (rest := [.inl x2, .inr (.inr (some 54))]) (la := [oR 62]) hm124 ⟨⟨_, _, rfl⟩, rfl⟩ rfl rfl rfl rfl hm213 rfl rfl (fun _ => ⟨_, _, rfl, rfl⟩) rfl (Wp.mono h ?_)
        rintro _ m2 ⟨r2, rfl, h⟩
        change Wp _ _ 46 _ [.inl r2, .inl x2, .inr (.inr (some 54))] _ _
        refine w_iload (q := 48) hm124 ⟨⟨_, _, rfl⟩, rfl⟩ rfl ?_
        refine w_call (q := 51) (n := 0) (vs := [.inr (.inr (some 54)), .inl x2, .inl r2, .inl x5]) (rest := []) (la := [oR 54, oI x2, oI r2, oI x5]) hm124 ⟨⟨_, _, rfl⟩, rfl⟩ rfl rfl rfl rfl hm125 rfl rfl (fun _ => ⟨_, _, rfl, rfl⟩) rfl (Wp.mono h ?_)
        rintro _ m3 ⟨rfl, h⟩
        change Wp _ _ 51 _ [] _ _
        refine w_aload_n (q := 52) hm124 ⟨⟨_, _, rfl⟩, rfl⟩ rfl ?_
        refine w_getr (q := 55) hm124 ⟨⟨_, _, rfl⟩, rfl⟩ rfl ?_
        refine w_iconst (q := 56) hm124 ⟨⟨_, _, rfl⟩, rfl⟩ iconst_0 ?_
        refine w_aload_n (q := 57) hm124 ⟨⟨_, _, rfl⟩, rfl⟩ rfl ?_
        refine w_getr (q := 60) hm124 ⟨⟨_, _, rfl⟩, rfl⟩ rfl ?_
        refine w_iload (q := 62) hm124 ⟨⟨_, _, rfl⟩, rfl⟩ rfl ?_
        obtain ⟨hi, h⟩ := h
        refine w_iald (q := 63) (v := (m3.1 56 x5.toNatClampNeg)) hm124 ⟨⟨_, _, rfl⟩, rfl⟩ rfl hi rfl rfl ?_
        refine w_iload_n (q := 64) hm124 ⟨⟨_, _, rfl⟩, rfl⟩ rfl ?_
        refine w_iadd (q := 65) hm124 ⟨⟨_, _, rfl⟩, rfl⟩ ?_
        refine w_iast (q := 66) (j := 0) hm124 ⟨⟨_, _, rfl⟩, rfl⟩ rfl (by decide) (by decide) rfl ?_
        refine w_aload_n (q := 67) hm124 ⟨⟨_, _, rfl⟩, rfl⟩ rfl ?_
        refine w_getr (q := 70) hm124 ⟨⟨_, _, rfl⟩, rfl⟩ rfl ?_
        refine w_iconst (q := 71) hm124 ⟨⟨_, _, rfl⟩, rfl⟩ iconst_1 ?_
        refine w_aload_n (q := 72) hm124 ⟨⟨_, _, rfl⟩, rfl⟩ rfl ?_
        refine w_getr (q := 75) hm124 ⟨⟨_, _, rfl⟩, rfl⟩ rfl ?_
        refine w_iload (q := 77) hm124 ⟨⟨_, _, rfl⟩, rfl⟩ rfl ?_
        obtain ⟨hi, h⟩ := h
        refine w_iald (q := 78) (v := (m3.1 63 x5.toNatClampNeg)) hm124 ⟨⟨_, _, rfl⟩, rfl⟩ rfl hi rfl rfl ?_
        refine w_iast (q := 79) (j := 1) hm124 ⟨⟨_, _, rfl⟩, rfl⟩ rfl (by decide) (by decide) rfl ?_
        refine w_aload_n (q := 80) hm124 ⟨⟨_, _, rfl⟩, rfl⟩ rfl ?_
        refine w_getr (q := 83) hm124 ⟨⟨_, _, rfl⟩, rfl⟩ rfl ?_
        refine w_iconst (q := 84) hm124 ⟨⟨_, _, rfl⟩, rfl⟩ iconst_2 ?_
        refine w_aload_n (q := 85) hm124 ⟨⟨_, _, rfl⟩, rfl⟩ rfl ?_
        refine w_getr (q := 88) hm124 ⟨⟨_, _, rfl⟩, rfl⟩ rfl ?_
        refine w_iload (q := 90) hm124 ⟨⟨_, _, rfl⟩, rfl⟩ rfl ?_
        obtain ⟨hi, h⟩ := h
        refine w_iald (q := 91) (v := (m3.1 64 x5.toNatClampNeg)) hm124 ⟨⟨_, _, rfl⟩, rfl⟩ rfl hi rfl rfl ?_
        refine w_iast (q := 92) (j := 2) hm124 ⟨⟨_, _, rfl⟩, rfl⟩ rfl (by decide) (by decide) rfl ?_
        refine w_aload_n (q := 93) hm124 ⟨⟨_, _, rfl⟩, rfl⟩ rfl ?_
        refine w_getr (q := 96) hm124 ⟨⟨_, _, rfl⟩, rfl⟩ rfl ?_
        refine w_getr (q := 99) hm124 ⟨⟨_, _, rfl⟩, rfl⟩ rfl ?_
        refine w_iconst (q := 100) hm124 ⟨⟨_, _, rfl⟩, rfl⟩ iconst_0 ?_
        refine w_aload_n (q := 101) hm124 ⟨⟨_, _, rfl⟩, rfl⟩ rfl ?_
        refine w_getr (q := 104) hm124 ⟨⟨_, _, rfl⟩, rfl⟩ rfl ?_
        refine w_call (q := 107) (n := 4) (vs := [.inr (.inr (some 11)), .inl (0 : Int32), .inr (.inr (some 55))]) (rest := []) (la := [oR 11, oI (0 : Int32), oR 55, none, none, none, none]) hm124 ⟨⟨_, _, rfl⟩, rfl⟩ rfl rfl rfl rfl hm181 rfl rfl (fun _ => ⟨_, _, rfl, rfl⟩) rfl (Wp.mono h ?_)
        rintro _ m4 ⟨r4, rfl, h⟩
        change Wp _ _ 107 _ [.inl r4] _ _
        refine w_if_le (q := 110) (X := r4.toInt) hm124 ⟨⟨_, _, rfl⟩, rfl⟩ rfl (fun hc => ?_) (fun hc => ?_)
        · have h := h.1 hc
          exact h
        · have h := h.2 hc
          refine w_iload (q := 112) hm124 ⟨⟨_, _, rfl⟩, rfl⟩ rfl ?_
          refine w_iconst (q := 113) hm124 ⟨⟨_, _, rfl⟩, rfl⟩ iconst_1 ?_
          refine w_iload (q := 115) hm124 ⟨⟨_, _, rfl⟩, rfl⟩ rfl ?_
          refine w_ishl (q := 116) hm124 ⟨⟨_, _, rfl⟩, rfl⟩ ?_
          refine w_ior (q := 117) hm124 ⟨⟨_, _, rfl⟩, rfl⟩ ?_
          refine w_istore (q := 119) (l' := [oR 54, oR 62, oI x2, oI x3, oI (x4 ||| ((1 : Int32) <<< (x5 &&& 31))), oI x5]) hm124 ⟨⟨_, _, rfl⟩, rfl⟩ rfl rfl rfl ?_
          exact h
theorem v_X0_going_54_62_119 {d : Nat} {x2 : Int32} {x3 : Int32} {x4 : Int32} {x5 : Int32} {m : dM} {Q : Int32 → dM → Prop} (h : j_X0_going_54_62_6 (d + 1) x2 x3 x4 (x5 + (1 : Int32)) m Q) : j_X0_going_54_62_119 (d + 1) x2 x3 x4 x5 m Q := by
  refine w_iinc (q := 122) (l' := [oR 54, oR 62, oI x2, oI x3, oI x4, oI (x5 + (1 : Int32))]) hm124 ⟨⟨_, _, rfl⟩, rfl⟩ rfl rfl rfl iconst_1 rfl ?_
  refine w_goto (q := 6) hm124 ⟨_, _, rfl⟩ ?_
  exact h
theorem v_X0_passWires_54_62 {d : Nat} {x2 : Int32} {m : dM} {Q : Int32 → dM → Prop} (h : c_X7_hourOfDay_62 d m (fun r1 m1 => c_X0_usesAt_54_62 d r1 m1 (fun r2 m2 => c_X0_putOn_54_62 d r2 m2 (fun m3 => c_X7_hourOfDay_62 d m3 (fun r4 m4 => c_X0_going_54_62 d r4 x2 m4 (fun r5 m5 => j_X0_passWires_54_62_38 (d + 1) r5 (0 : Int32) (dSet m5 62 3 ((m5.1 62 3) ||| r5)) Q)))))) : c_X0_passWires_54_62 (d + 1) x2 m Q := by
  refine w_aload_n (q := 1) hm137 ⟨⟨_, _, rfl⟩, rfl⟩ rfl ?_
  refine w_aload_n (q := 2) hm137 ⟨⟨_, _, rfl⟩, rfl⟩ rfl ?_
  refine w_aload_n (q := 3) hm137 ⟨⟨_, _, rfl⟩, rfl⟩ rfl ?_
  refine w_aload_n (q := 4) hm137 ⟨⟨_, _, rfl⟩, rfl⟩ rfl ?_
  refine w_aload_n (q := 5) hm137 ⟨⟨_, _, rfl⟩, rfl⟩ rfl ?_
  refine w_call (q := 8) (n := 0) (vs := [.inr (.inr (some 62))]) (rest := [.inr (.inr (some 62)), .inr (.inr (some 54)), .inr (.inr (some 62)), .inr (.inr (some 54))]) (la := [oR 62]) hm137 ⟨⟨_, _, rfl⟩, rfl⟩ rfl rfl rfl rfl hm212 rfl rfl (fun _ => ⟨_, _, rfl, rfl⟩) rfl (Wp.mono h ?_)
  rintro _ m1 ⟨r1, rfl, h⟩
  change Wp _ _ 8 _ [.inl r1, .inr (.inr (some 62)), .inr (.inr (some 54)), .inr (.inr (some 62)), .inr (.inr (some 54))] _ _
  refine w_call (q := 11) (n := 3) (vs := [.inr (.inr (some 54)), .inr (.inr (some 62)), .inl r1]) (rest := [.inr (.inr (some 62)), .inr (.inr (some 54))]) (la := [oR 54, oR 62, oI r1, none, none, none]) hm137 ⟨⟨_, _, rfl⟩, rfl⟩ rfl rfl rfl rfl hm118 rfl rfl (fun _ => ⟨_, _, rfl, rfl⟩) rfl (Wp.mono h ?_)
  rintro _ m2 ⟨r2, rfl, h⟩
  change Wp _ _ 11 _ [.inl r2, .inr (.inr (some 62)), .inr (.inr (some 54))] _ _
  refine w_call (q := 14) (n := 3) (vs := [.inr (.inr (some 54)), .inr (.inr (some 62)), .inl r2]) (rest := []) (la := [oR 54, oR 62, oI r2, none, none, none]) hm137 ⟨⟨_, _, rfl⟩, rfl⟩ rfl rfl rfl rfl hm120 rfl rfl (fun _ => ⟨_, _, rfl, rfl⟩) rfl (Wp.mono h ?_)
  rintro _ m3 ⟨rfl, h⟩
  change Wp _ _ 14 _ [] _ _
  refine w_aload_n (q := 15) hm137 ⟨⟨_, _, rfl⟩, rfl⟩ rfl ?_
  refine w_aload_n (q := 16) hm137 ⟨⟨_, _, rfl⟩, rfl⟩ rfl ?_
  refine w_aload_n (q := 17) hm137 ⟨⟨_, _, rfl⟩, rfl⟩ rfl ?_
  refine w_call (q := 20) (n := 0) (vs := [.inr (.inr (some 62))]) (rest := [.inr (.inr (some 62)), .inr (.inr (some 54))]) (la := [oR 62]) hm137 ⟨⟨_, _, rfl⟩, rfl⟩ rfl rfl rfl rfl hm212 rfl rfl (fun _ => ⟨_, _, rfl, rfl⟩) rfl (Wp.mono h ?_)
  rintro _ m4 ⟨r4, rfl, h⟩
  change Wp _ _ 20 _ [.inl r4, .inr (.inr (some 62)), .inr (.inr (some 54))] _ _
  refine w_iload_n (q := 21) hm137 ⟨⟨_, _, rfl⟩, rfl⟩ rfl ?_
  refine w_call (q := 24) (n := 2) (vs := [.inr (.inr (some 54)), .inr (.inr (some 62)), .inl r4, .inl x2]) (rest := []) (la := [oR 54, oR 62, oI r4, oI x2, none, none]) hm137 ⟨⟨_, _, rfl⟩, rfl⟩ rfl rfl rfl rfl hm124 rfl rfl (fun _ => ⟨_, _, rfl, rfl⟩) rfl (Wp.mono h ?_)
  rintro _ m5 ⟨r5, rfl, h⟩
  change Wp _ _ 24 _ [.inl r5] _ _
  refine w_istore_n (q := 25) (l' := [oR 54, oR 62, oI x2, oI r5, none]) hm137 ⟨⟨_, _, rfl⟩, rfl⟩ rfl rfl rfl ?_
  refine w_aload_n (q := 26) hm137 ⟨⟨_, _, rfl⟩, rfl⟩ rfl ?_
  refine w_dup (q := 27) hm137 ⟨⟨_, _, rfl⟩, rfl⟩ rfl ?_
  refine w_getf (q := 30) (v := (m5.1 62 3)) hm137 ⟨⟨_, _, rfl⟩, rfl⟩ rfl rfl ?_
  refine w_iload_n (q := 31) hm137 ⟨⟨_, _, rfl⟩, rfl⟩ rfl ?_
  refine w_ior (q := 32) hm137 ⟨⟨_, _, rfl⟩, rfl⟩ ?_
  refine w_putf (q := 35) hm137 ⟨⟨_, _, rfl⟩, rfl⟩ rfl rfl rfl ?_
  refine w_iconst (q := 36) hm137 ⟨⟨_, _, rfl⟩, rfl⟩ iconst_0 ?_
  refine w_istore (q := 38) (l' := [oR 54, oR 62, oI x2, oI r5, oI (0 : Int32)]) hm137 ⟨⟨_, _, rfl⟩, rfl⟩ rfl rfl rfl ?_
  exact Wp.wk [true, true, false, true, true] h
theorem v_X0_passWires_54_62_38 {d : Nat} {x3 : Int32} {x4 : Int32} {m : dM} {Q : Int32 → dM → Prop} (h : (((m.1 2 1).toInt ≤ x4.toInt → Q x3 (dSet m 62 0 ((m.1 62 0) + (1 : Int32)))) ∧ (x4.toInt < (m.1 2 1).toInt → c_X11_has d (m.1 62 3) x4 m (fun r1 m1 => ((r1.toInt ≠ 0 → j_X0_passWires_54_62_84 (d + 1) x3 x4 m1 Q) ∧ (r1.toInt = 0 → ((0 ≤ x4.toInt ∧ x4.toInt < 10) ∧ ((0 ≤ x4.toInt ∧ x4.toInt < 10) ∧ j_X0_passWires_54_62_84 (d + 1) x3 x4 (dSet m1 64 x4.toNatClampNeg (if ((m1.1 64 x4.toNatClampNeg) + (1 : Int32)) < (999 : Int32) then ((m1.1 64 x4.toNatClampNeg) + (1 : Int32)) else (999 : Int32))) Q)))))))) : j_X0_passWires_54_62_38 (d + 1) x3 x4 m Q := by
  refine w_iload (q := 40) hm137 ⟨⟨_, _, rfl⟩, rfl⟩ rfl ?_
  refine w_aload_n (q := 41) hm137 ⟨⟨_, _, rfl⟩, rfl⟩ rfl ?_
  refine w_getr (q := 44) hm137 ⟨⟨_, _, rfl⟩, rfl⟩ rfl ?_
  refine w_getf (q := 47) (v := (m.1 2 1)) hm137 ⟨⟨_, _, rfl⟩, rfl⟩ rfl rfl ?_
  refine w_icmp_ge (q := 50) (X := x4.toInt) (Y := (m.1 2 1).toInt) hm137 ⟨⟨_, _, rfl⟩, rfl⟩ rfl rfl (fun hc => ?_) (fun hc => ?_)
  · have h := h.1 hc
    refine w_aload_n (q := 91) hm137 ⟨⟨_, _, rfl⟩, rfl⟩ rfl ?_
    refine w_dup (q := 92) hm137 ⟨⟨_, _, rfl⟩, rfl⟩ rfl ?_
    refine w_getf (q := 95) (v := (m.1 62 0)) hm137 ⟨⟨_, _, rfl⟩, rfl⟩ rfl rfl ?_
    refine w_iconst (q := 96) hm137 ⟨⟨_, _, rfl⟩, rfl⟩ iconst_1 ?_
    refine w_iadd (q := 97) hm137 ⟨⟨_, _, rfl⟩, rfl⟩ ?_
    refine w_putf (q := 100) hm137 ⟨⟨_, _, rfl⟩, rfl⟩ rfl rfl rfl ?_
    refine w_iload_n (q := 101) hm137 ⟨⟨_, _, rfl⟩, rfl⟩ rfl ?_
    exact w_reti hm137 ⟨⟨_, _, rfl⟩, rfl⟩ rfl h
  · have h := h.2 hc
    refine w_aload_n (q := 51) hm137 ⟨⟨_, _, rfl⟩, rfl⟩ rfl ?_
    refine w_getf (q := 54) (v := (m.1 62 3)) hm137 ⟨⟨_, _, rfl⟩, rfl⟩ rfl rfl ?_
    refine w_iload (q := 56) hm137 ⟨⟨_, _, rfl⟩, rfl⟩ rfl ?_
    refine w_call (q := 59) (n := 0) (vs := [.inl (m.1 62 3), .inl x4]) (rest := []) (la := [oI (m.1 62 3), oI x4]) hm137 ⟨⟨_, _, rfl⟩, rfl⟩ rfl rfl rfl rfl hm283 rfl rfl (fun hz => absurd hz (by decide)) rfl (Wp.mono h ?_)
    rintro _ m1 ⟨r1, rfl, h⟩
    change Wp _ _ 59 _ [.inl r1] _ _
    refine w_if_ne (q := 62) (X := r1.toInt) hm137 ⟨⟨_, _, rfl⟩, rfl⟩ rfl (fun hc => ?_) (fun hc => ?_)
    · have h := h.1 hc
      exact h
    · have h := h.2 hc
      refine w_aload_n (q := 63) hm137 ⟨⟨_, _, rfl⟩, rfl⟩ rfl ?_
      refine w_getr (q := 66) hm137 ⟨⟨_, _, rfl⟩, rfl⟩ rfl ?_
      refine w_iload (q := 68) hm137 ⟨⟨_, _, rfl⟩, rfl⟩ rfl ?_
      refine w_sipush (q := 71) hm137 ⟨⟨_, _, rfl⟩, rfl⟩ sipush_999 ?_
      refine w_aload_n (q := 72) hm137 ⟨⟨_, _, rfl⟩, rfl⟩ rfl ?_
      refine w_getr (q := 75) hm137 ⟨⟨_, _, rfl⟩, rfl⟩ rfl ?_
      refine w_iload (q := 77) hm137 ⟨⟨_, _, rfl⟩, rfl⟩ rfl ?_
      obtain ⟨hi, h⟩ := h
      refine w_iald (q := 78) (v := (m1.1 64 x4.toNatClampNeg)) hm137 ⟨⟨_, _, rfl⟩, rfl⟩ rfl hi rfl rfl ?_
      refine w_iconst (q := 79) hm137 ⟨⟨_, _, rfl⟩, rfl⟩ iconst_1 ?_
      refine w_iadd (q := 80) hm137 ⟨⟨_, _, rfl⟩, rfl⟩ ?_
      refine w_min (q := 83) hm137 ⟨⟨_, _, rfl⟩, rfl⟩ rfl rfl ?_
      obtain ⟨hi, h⟩ := h
      refine w_iast (q := 84) hm137 ⟨⟨_, _, rfl⟩, rfl⟩ rfl hi rfl rfl ?_
      exact h
theorem v_X0_passWires_54_62_84 {d : Nat} {x3 : Int32} {x4 : Int32} {m : dM} {Q : Int32 → dM → Prop} (h : j_X0_passWires_54_62_38 (d + 1) x3 (x4 + (1 : Int32)) m Q) : j_X0_passWires_54_62_84 (d + 1) x3 x4 m Q := by
  refine w_iinc (q := 87) (l' := [oR 54, oR 62, none, oI x3, oI (x4 + (1 : Int32))]) hm137 ⟨⟨_, _, rfl⟩, rfl⟩ rfl rfl rfl iconst_1 rfl ?_
  refine w_goto (q := 38) hm137 ⟨_, _, rfl⟩ ?_
  exact h
theorem v_X1_peakOf_61_47 {d : Nat} {x2 : Int32} {x3 : Int32} {x4 : Int32} {m : dM} {Q : Int32 → dM → Prop} (h : c_X7_copy_62_47 d m (fun m1 => j_X1_peakOf_61_47_17 (d + 1) x2 x3 x4 (0 : Int32) (0 : Int32) (0 : Int32) m1 Q)) : c_X1_peakOf_61_47 (d + 1) x2 x3 x4 m Q := by
  refine w_aload_n (q := 1) hm139 ⟨⟨_, _, rfl⟩, rfl⟩ rfl ?_
  refine w_getr (q := 4) hm139 ⟨⟨_, _, rfl⟩, rfl⟩ rfl ?_
  refine w_aload_n (q := 5) hm139 ⟨⟨_, _, rfl⟩, rfl⟩ rfl ?_
  refine w_call (q := 8) (n := 0) (vs := [.inr (.inr (some 62)), .inr (.inr (some 47))]) (rest := []) (la := [oR 62, oR 47]) hm139 ⟨⟨_, _, rfl⟩, rfl⟩ rfl rfl rfl rfl hm209 rfl rfl (fun _ => ⟨_, _, rfl, rfl⟩) rfl (Wp.mono h ?_)
  rintro _ m1 ⟨rfl, h⟩
  change Wp _ _ 8 _ [] _ _
  refine w_iconst (q := 9) hm139 ⟨⟨_, _, rfl⟩, rfl⟩ iconst_0 ?_
  refine w_istore (q := 11) (l' := [oR 61, oR 47, oI x2, oI x3, oI x4, oI (0 : Int32), none, none]) hm139 ⟨⟨_, _, rfl⟩, rfl⟩ rfl rfl rfl ?_
  refine w_iconst (q := 12) hm139 ⟨⟨_, _, rfl⟩, rfl⟩ iconst_0 ?_
  refine w_istore (q := 14) (l' := [oR 61, oR 47, oI x2, oI x3, oI x4, oI (0 : Int32), oI (0 : Int32), none]) hm139 ⟨⟨_, _, rfl⟩, rfl⟩ rfl rfl rfl ?_
  refine w_iconst (q := 15) hm139 ⟨⟨_, _, rfl⟩, rfl⟩ iconst_0 ?_
  refine w_istore (q := 17) (l' := [oR 61, oR 47, oI x2, oI x3, oI x4, oI (0 : Int32), oI (0 : Int32), oI (0 : Int32)]) hm139 ⟨⟨_, _, rfl⟩, rfl⟩ rfl rfl rfl ?_
  exact Wp.wk [true, false, true, true, true, true, true, true] h
theorem v_X1_peakOf_61_47_17 {d : Nat} {x2 : Int32} {x3 : Int32} {x4 : Int32} {x5 : Int32} {x6 : Int32} {x7 : Int32} {m : dM} {Q : Int32 → dM → Prop} (h : ((x3.toInt ≤ x7.toInt → ((x4.toInt = 0 → Q x5 m) ∧ (x4.toInt ≠ 0 → Q x6 m))) ∧ (x7.toInt < x3.toInt → c_X0_passWires_54_62 d (0 : Int32) m (fun r1 m1 => ((0 ≤ x2.toInt ∧ x2.toInt < 10) ∧ (((m1.1 56 x2.toNatClampNeg).toInt ≤ x5.toInt → j_X1_peakOf_61_47_65 (d + 1) x2 x3 x4 x5 x6 x7 m1 Q) ∧ (x5.toInt < (m1.1 56 x2.toNatClampNeg).toInt → ((0 ≤ x2.toInt ∧ x2.toInt < 10) ∧ j_X1_peakOf_61_47_65 (d + 1) x2 x3 x4 (m1.1 56 x2.toNatClampNeg) x7 x7 m1 Q)))))))) : j_X1_peakOf_61_47_17 (d + 1) x2 x3 x4 x5 x6 x7 m Q := by
  refine w_iload (q := 19) hm139 ⟨⟨_, _, rfl⟩, rfl⟩ rfl ?_
  refine w_iload_n (q := 20) hm139 ⟨⟨_, _, rfl⟩, rfl⟩ rfl ?_
  refine w_icmp_ge (q := 23) (X := x7.toInt) (Y := x3.toInt) hm139 ⟨⟨_, _, rfl⟩, rfl⟩ rfl rfl (fun hc => ?_) (fun hc => ?_)
  · have h := h.1 hc
    refine w_iload (q := 73) hm139 ⟨⟨_, _, rfl⟩, rfl⟩ rfl ?_
    refine w_if_eq (q := 76) (X := x4.toInt) hm139 ⟨⟨_, _, rfl⟩, rfl⟩ rfl (fun hc => ?_) (fun hc => ?_)
    · have h := h.1 hc
      refine w_iload (q := 83) hm139 ⟨⟨_, _, rfl⟩, rfl⟩ rfl ?_
      exact w_reti hm139 ⟨⟨_, _, rfl⟩, rfl⟩ rfl h
    · have h := h.2 hc
      refine w_iload (q := 78) hm139 ⟨⟨_, _, rfl⟩, rfl⟩ rfl ?_
      refine w_goto (q := 83) hm139 ⟨_, _, rfl⟩ ?_
      exact w_reti hm139 ⟨⟨_, _, rfl⟩, rfl⟩ rfl h
  · have h := h.2 hc
    refine w_aload_n (q := 24) hm139 ⟨⟨_, _, rfl⟩, rfl⟩ rfl ?_
    refine w_getr (q := 27) hm139 ⟨⟨_, _, rfl⟩, rfl⟩ rfl ?_
    refine w_aload_n (q := 28) hm139 ⟨⟨_, _, rfl⟩, rfl⟩ rfl ?_
    refine w_getr (q := 31) hm139 ⟨⟨_, _, rfl⟩, rfl⟩ rfl ?_
    refine w_iconst (q := 32) hm139 ⟨⟨_, _, rfl⟩, rfl⟩ iconst_0 ?_
    refine w_call (q := 35) (n := 2) (vs := [.inr (.inr (some 54)), .inr (.inr (some 62)), .inl (0 : Int32)]) (rest := []) (la := [oR 54, oR 62, oI (0 : Int32), none, none]) hm139 ⟨⟨_, _, rfl⟩, rfl⟩ rfl rfl rfl rfl hm137 rfl rfl (fun _ => ⟨_, _, rfl, rfl⟩) rfl (Wp.mono h ?_)
    rintro _ m1 ⟨r1, rfl, h⟩
    change Wp _ _ 35 _ [.inl r1] _ _
    refine w_pop (q := 36) hm139 ⟨⟨_, _, rfl⟩, rfl⟩ rfl ?_
    refine w_aload_n (q := 37) hm139 ⟨⟨_, _, rfl⟩, rfl⟩ rfl ?_
    refine w_getr (q := 40) hm139 ⟨⟨_, _, rfl⟩, rfl⟩ rfl ?_
    refine w_getr (q := 43) hm139 ⟨⟨_, _, rfl⟩, rfl⟩ rfl ?_
    refine w_iload_n (q := 44) hm139 ⟨⟨_, _, rfl⟩, rfl⟩ rfl ?_
    obtain ⟨hi, h⟩ := h
    refine w_iald (q := 45) (v := (m1.1 56 x2.toNatClampNeg)) hm139 ⟨⟨_, _, rfl⟩, rfl⟩ rfl hi rfl rfl ?_
    refine w_iload (q := 47) hm139 ⟨⟨_, _, rfl⟩, rfl⟩ rfl ?_
    refine w_icmp_le (q := 50) (X := (m1.1 56 x2.toNatClampNeg).toInt) (Y := x5.toInt) hm139 ⟨⟨_, _, rfl⟩, rfl⟩ rfl rfl (fun hc => ?_) (fun hc => ?_)
    · have h := h.1 hc
      exact h
    · have h := h.2 hc
      refine w_aload_n (q := 51) hm139 ⟨⟨_, _, rfl⟩, rfl⟩ rfl ?_
      refine w_getr (q := 54) hm139 ⟨⟨_, _, rfl⟩, rfl⟩ rfl ?_
      refine w_getr (q := 57) hm139 ⟨⟨_, _, rfl⟩, rfl⟩ rfl ?_
      refine w_iload_n (q := 58) hm139 ⟨⟨_, _, rfl⟩, rfl⟩ rfl ?_
      obtain ⟨hi, h⟩ := h
      refine w_iald (q := 59) (v := (m1.1 56 x2.toNatClampNeg)) hm139 ⟨⟨_, _, rfl⟩, rfl⟩ rfl hi rfl rfl ?_
      refine w_istore (q := 61) (l' := [oR 61, none, oI x2, oI x3, oI x4, oI (m1.1 56 x2.toNatClampNeg), oI x6, oI x7]) hm139 ⟨⟨_, _, rfl⟩, rfl⟩ rfl rfl rfl ?_
      refine w_iload (q := 63) hm139 ⟨⟨_, _, rfl⟩, rfl⟩ rfl ?_
      refine w_istore (q := 65) (l' := [oR 61, none, oI x2, oI x3, oI x4, oI (m1.1 56 x2.toNatClampNeg), oI x7, oI x7]) hm139 ⟨⟨_, _, rfl⟩, rfl⟩ rfl rfl rfl ?_
      exact h
theorem v_X1_peakOf_61_47_65 {d : Nat} {x2 : Int32} {x3 : Int32} {x4 : Int32} {x5 : Int32} {x6 : Int32} {x7 : Int32} {m : dM} {Q : Int32 → dM → Prop} (h : j_X1_peakOf_61_47_17 (d + 1) x2 x3 x4 x5 x6 (x7 + (1 : Int32)) m Q) : j_X1_peakOf_61_47_65 (d + 1) x2 x3 x4 x5 x6 x7 m Q := by
  refine w_iinc (q := 68) (l' := [oR 61, none, oI x2, oI x3, oI x4, oI x5, oI x6, oI (x7 + (1 : Int32))]) hm139 ⟨⟨_, _, rfl⟩, rfl⟩ rfl rfl rfl iconst_1 rfl ?_
  refine w_goto (q := 17) hm139 ⟨_, _, rfl⟩ ?_
  exact h
theorem v_X11_peak_0 {d : Nat} {x1 : Int32} {x2 : Int32} {x3 : Int32} {m : dM} {Q : Int32 → dM → Prop} (h : c_X11_isWire_0 d x1 m (fun r1 m1 => ((r1.toInt = 0 → j_X11_peak_0_28 (d + 1) m1 Q) ∧ (r1.toInt ≠ 0 → ((x2.toInt < 1 → j_X11_peak_0_28 (d + 1) m1 Q) ∧ (1 ≤ x2.toInt → ((48 < x2.toInt → j_X11_peak_0_28 (d + 1) m1 Q) ∧ (x2.toInt ≤ 48 → ((x3.toInt < 0 → j_X11_peak_0_28 (d + 1) m1 Q) ∧ (0 ≤ x3.toInt → ((x3.toInt ≤ 1 → ((x3.toInt ≠ 1 → c_X1_peakOf_61_47 d x1 x2 (0 : Int32) m1 (fun r2 m2 => Q r2 m2)) ∧ (x3.toInt = 1 → c_X1_peakOf_61_47 d x1 x2 (1 : Int32) m1 (fun r3 m3 => Q r3 m3)))) ∧ (1 < x3.toInt → j_X11_peak_0_28 (d + 1) m1 Q)))))))))))) : c_X11_peak_0 (d + 1) x1 x2 x3 m Q := by
  refine w_aload_n (q := 1) hm261 ⟨⟨_, _, rfl⟩, rfl⟩ rfl ?_
  refine w_iload_n (q := 2) hm261 ⟨⟨_, _, rfl⟩, rfl⟩ rfl ?_
  refine w_call (q := 5) (n := 0) (vs := [.inr (.inr (some 0)), .inl x1]) (rest := []) (la := [oR 0, oI x1]) hm261 ⟨⟨_, _, rfl⟩, rfl⟩ rfl rfl rfl rfl hm249 rfl rfl (fun _ => ⟨_, _, rfl, rfl⟩) rfl (Wp.mono h ?_)
  rintro _ m1 ⟨r1, rfl, h⟩
  change Wp _ _ 5 _ [.inl r1] _ _
  refine w_if_eq (q := 8) (X := r1.toInt) hm261 ⟨⟨_, _, rfl⟩, rfl⟩ rfl (fun hc => ?_) (fun hc => ?_)
  · have h := h.1 hc
    exact Wp.wk [false, false, false, false] h
  · have h := h.2 hc
    refine w_iload_n (q := 9) hm261 ⟨⟨_, _, rfl⟩, rfl⟩ rfl ?_
    refine w_iconst (q := 10) hm261 ⟨⟨_, _, rfl⟩, rfl⟩ iconst_1 ?_
    refine w_icmp_lt (q := 13) (X := x2.toInt) (Y := 1) hm261 ⟨⟨_, _, rfl⟩, rfl⟩ rfl (by decide) (fun hc => ?_) (fun hc => ?_)
    · have h := h.1 hc
      exact Wp.wk [false, false, false, false] h
    · have h := h.2 hc
      refine w_iload_n (q := 14) hm261 ⟨⟨_, _, rfl⟩, rfl⟩ rfl ?_
      refine w_bipush (q := 16) hm261 ⟨⟨_, _, rfl⟩, rfl⟩ bipush_48 ?_
      refine w_icmp_gt (q := 19) (X := x2.toInt) (Y := 48) hm261 ⟨⟨_, _, rfl⟩, rfl⟩ rfl (by decide) (fun hc => ?_) (fun hc => ?_)
      · have h := h.1 hc
        exact Wp.wk [false, false, false, false] h
      · have h := h.2 hc
        refine w_iload_n (q := 20) hm261 ⟨⟨_, _, rfl⟩, rfl⟩ rfl ?_
        refine w_if_lt (q := 23) (X := x3.toInt) hm261 ⟨⟨_, _, rfl⟩, rfl⟩ rfl (fun hc => ?_) (fun hc => ?_)
        · have h := h.1 hc
          exact Wp.wk [false, false, false, false] h
        · have h := h.2 hc
          refine w_iload_n (q := 24) hm261 ⟨⟨_, _, rfl⟩, rfl⟩ rfl ?_
          refine w_iconst (q := 25) hm261 ⟨⟨_, _, rfl⟩, rfl⟩ iconst_1 ?_
          refine w_icmp_le (q := 28) (X := x3.toInt) (Y := 1) hm261 ⟨⟨_, _, rfl⟩, rfl⟩ rfl (by decide) (fun hc => ?_) (fun hc => ?_)
          · have h := h.1 hc
            refine w_aload_n (q := 31) hm261 ⟨⟨_, _, rfl⟩, rfl⟩ rfl ?_
            refine w_getr (q := 34) hm261 ⟨⟨_, _, rfl⟩, rfl⟩ rfl ?_
            refine w_aload_n (q := 35) hm261 ⟨⟨_, _, rfl⟩, rfl⟩ rfl ?_
            refine w_getr (q := 38) hm261 ⟨⟨_, _, rfl⟩, rfl⟩ rfl ?_
            refine w_iload_n (q := 39) hm261 ⟨⟨_, _, rfl⟩, rfl⟩ rfl ?_
            refine w_iload_n (q := 40) hm261 ⟨⟨_, _, rfl⟩, rfl⟩ rfl ?_
            refine w_iload_n (q := 41) hm261 ⟨⟨_, _, rfl⟩, rfl⟩ rfl ?_
            refine w_iconst (q := 42) hm261 ⟨⟨_, _, rfl⟩, rfl⟩ iconst_1 ?_
            refine w_icmp_ne (q := 45) (X := x3.toInt) (Y := 1) hm261 ⟨⟨_, _, rfl⟩, rfl⟩ rfl (by decide) (fun hc => ?_) (fun hc => ?_)
            · have h := h.1 hc
              refine w_iconst (q := 50) hm261 ⟨⟨_, _, rfl⟩, rfl⟩ iconst_0 ?_
              refine w_call (q := 53) (n := 3) (vs := [.inr (.inr (some 61)), .inr (.inr (some 47)), .inl x1, .inl x2, .inl (0 : Int32)]) (rest := []) (la := [oR 61, oR 47, oI x1, oI x2, oI (0 : Int32), none, none, none]) hm261 ⟨⟨_, _, rfl⟩, rfl⟩ rfl rfl rfl rfl hm139 rfl rfl (fun _ => ⟨_, _, rfl, rfl⟩) rfl (Wp.mono h ?_)
              rintro _ m2 ⟨r2, rfl, h⟩
              change Wp _ _ 53 _ [.inl r2] _ _
              exact w_reti hm261 ⟨⟨_, _, rfl⟩, rfl⟩ rfl h
            · have h := h.2 hc
              refine w_iconst (q := 46) hm261 ⟨⟨_, _, rfl⟩, rfl⟩ iconst_1 ?_
              refine w_goto (q := 50) hm261 ⟨_, _, rfl⟩ ?_
              refine w_call (q := 53) (n := 3) (vs := [.inr (.inr (some 61)), .inr (.inr (some 47)), .inl x1, .inl x2, .inl (1 : Int32)]) (rest := []) (la := [oR 61, oR 47, oI x1, oI x2, oI (1 : Int32), none, none, none]) hm261 ⟨⟨_, _, rfl⟩, rfl⟩ rfl rfl rfl rfl hm139 rfl rfl (fun _ => ⟨_, _, rfl, rfl⟩) rfl (Wp.mono h ?_)
              rintro _ m3 ⟨r3, rfl, h⟩
              change Wp _ _ 53 _ [.inl r3] _ _
              exact w_reti hm261 ⟨⟨_, _, rfl⟩, rfl⟩ rfl h
          · have h := h.2 hc
            exact Wp.wk [false, false, false, false] h
theorem v_X11_peak_0_28 {d : Nat} {m : dM} {Q : Int32 → dM → Prop} (h : Q (-1 : Int32) m) : j_X11_peak_0_28 (d + 1) m Q := by
  refine w_iconst (q := 29) hm261 ⟨⟨_, _, rfl⟩, rfl⟩ iconst_m1 ?_
  exact w_reti hm261 ⟨⟨_, _, rfl⟩, rfl⟩ rfl h
theorem v_X12_copiesStill_70 {d : Nat} {m : dM} {Q : dM → Prop} (h : c_X12_copies_70 d m (fun m1 => Q (dSet m1 70 57 (1 : Int32)))) : c_X12_copiesStill_70 (d + 1) m Q := by
  refine w_aload_n (q := 1) hm82 ⟨⟨_, _, rfl⟩, rfl⟩ rfl ?_
  refine w_call (q := 4) (n := 1) (vs := [.inr (.inr (some 70))]) (rest := []) (la := [oR 70, none]) hm82 ⟨⟨_, _, rfl⟩, rfl⟩ rfl rfl rfl rfl hm44 rfl rfl (fun _ => ⟨_, _, rfl, rfl⟩) rfl (Wp.mono h ?_)
  rintro _ m1 ⟨rfl, h⟩
  change Wp _ _ 4 _ [] _ _
  refine w_aload_n (q := 5) hm82 ⟨⟨_, _, rfl⟩, rfl⟩ rfl ?_
  refine w_iconst (q := 6) hm82 ⟨⟨_, _, rfl⟩, rfl⟩ iconst_1 ?_
  refine w_putz (q := 9) hm82 ⟨⟨_, _, rfl⟩, rfl⟩ rfl rfl (by decide) rfl ?_
  exact w_retv hm82 ⟨⟨_, _, rfl⟩, rfl⟩ rfl h
theorem v_X12_peak_70 {d : Nat} {x1 : Int32} {x2 : Int32} {x3 : Int32} {m : dM} {Q : Int32 → dM → Prop} (h : c_X12_isWire_70 d x1 m (fun r1 m1 => ((r1.toInt = 0 → j_X12_peak_70_27 (d + 1) m1 Q) ∧ (r1.toInt ≠ 0 → c_X12_in d x2 (1 : Int32) (48 : Int32) m1 (fun r2 m2 => ((r2.toInt = 0 → j_X12_peak_70_27 (d + 1) m2 Q) ∧ (r2.toInt ≠ 0 → c_X12_in d x3 (0 : Int32) (1 : Int32) m2 (fun r3 m3 => ((r3.toInt ≠ 0 → c_X12_copiesStill_70 d m3 (fun m4 => j_X12_peak_70_42 (d + 1) x1 x2 x3 (0 : Int32) (-1 : Int32) (0 : Int32) m4 Q)) ∧ (r3.toInt = 0 → j_X12_peak_70_27 (d + 1) m3 Q)))))))))) : c_X12_peak_70 (d + 1) x1 x2 x3 m Q := by
  refine w_aload_n (q := 1) hm83 ⟨⟨_, _, rfl⟩, rfl⟩ rfl ?_
  refine w_iload_n (q := 2) hm83 ⟨⟨_, _, rfl⟩, rfl⟩ rfl ?_
  refine w_call (q := 5) (n := 0) (vs := [.inr (.inr (some 70)), .inl x1]) (rest := []) (la := [oR 70, oI x1]) hm83 ⟨⟨_, _, rfl⟩, rfl⟩ rfl rfl rfl rfl hm40 rfl rfl (fun _ => ⟨_, _, rfl, rfl⟩) rfl (Wp.mono h ?_)
  rintro _ m1 ⟨r1, rfl, h⟩
  change Wp _ _ 5 _ [.inl r1] _ _
  refine w_if_eq (q := 8) (X := r1.toInt) hm83 ⟨⟨_, _, rfl⟩, rfl⟩ rfl (fun hc => ?_) (fun hc => ?_)
  · have h := h.1 hc
    exact Wp.wk [false, false, false, false, false, false, false, false] h
  · have h := h.2 hc
    refine w_iload_n (q := 9) hm83 ⟨⟨_, _, rfl⟩, rfl⟩ rfl ?_
    refine w_iconst (q := 10) hm83 ⟨⟨_, _, rfl⟩, rfl⟩ iconst_1 ?_
    refine w_bipush (q := 12) hm83 ⟨⟨_, _, rfl⟩, rfl⟩ bipush_48 ?_
    refine w_call (q := 15) (n := 0) (vs := [.inl x2, .inl (1 : Int32), .inl (48 : Int32)]) (rest := []) (la := [oI x2, oI (1 : Int32), oI (48 : Int32)]) hm83 ⟨⟨_, _, rfl⟩, rfl⟩ rfl rfl rfl rfl hm36 rfl rfl (fun hz => absurd hz (by decide)) rfl (Wp.mono h ?_)
    rintro _ m2 ⟨r2, rfl, h⟩
    change Wp _ _ 15 _ [.inl r2] _ _
    refine w_if_eq (q := 18) (X := r2.toInt) hm83 ⟨⟨_, _, rfl⟩, rfl⟩ rfl (fun hc => ?_) (fun hc => ?_)
    · have h := h.1 hc
      exact Wp.wk [false, false, false, false, false, false, false, false] h
    · have h := h.2 hc
      refine w_iload_n (q := 19) hm83 ⟨⟨_, _, rfl⟩, rfl⟩ rfl ?_
      refine w_iconst (q := 20) hm83 ⟨⟨_, _, rfl⟩, rfl⟩ iconst_0 ?_
      refine w_iconst (q := 21) hm83 ⟨⟨_, _, rfl⟩, rfl⟩ iconst_1 ?_
      refine w_call (q := 24) (n := 0) (vs := [.inl x3, .inl (0 : Int32), .inl (1 : Int32)]) (rest := []) (la := [oI x3, oI (0 : Int32), oI (1 : Int32)]) hm83 ⟨⟨_, _, rfl⟩, rfl⟩ rfl rfl rfl rfl hm36 rfl rfl (fun hz => absurd hz (by decide)) rfl (Wp.mono h ?_)
      rintro _ m3 ⟨r3, rfl, h⟩
      change Wp _ _ 24 _ [.inl r3] _ _
      refine w_if_ne (q := 27) (X := r3.toInt) hm83 ⟨⟨_, _, rfl⟩, rfl⟩ rfl (fun hc => ?_) (fun hc => ?_)
      · have h := h.1 hc
        refine w_aload_n (q := 30) hm83 ⟨⟨_, _, rfl⟩, rfl⟩ rfl ?_
        refine w_call (q := 33) (n := 0) (vs := [.inr (.inr (some 70))]) (rest := []) (la := [oR 70]) hm83 ⟨⟨_, _, rfl⟩, rfl⟩ rfl rfl rfl rfl hm82 rfl rfl (fun _ => ⟨_, _, rfl, rfl⟩) rfl (Wp.mono h ?_)
        rintro _ m4 ⟨rfl, h⟩
        change Wp _ _ 33 _ [] _ _
        refine w_iconst (q := 34) hm83 ⟨⟨_, _, rfl⟩, rfl⟩ iconst_0 ?_
        refine w_istore (q := 36) (l' := [oR 70, oI x1, oI x2, oI x3, oI (0 : Int32), none, none, none]) hm83 ⟨⟨_, _, rfl⟩, rfl⟩ rfl rfl rfl ?_
        refine w_iconst (q := 37) hm83 ⟨⟨_, _, rfl⟩, rfl⟩ iconst_m1 ?_
        refine w_istore (q := 39) (l' := [oR 70, oI x1, oI x2, oI x3, oI (0 : Int32), oI (-1 : Int32), none, none]) hm83 ⟨⟨_, _, rfl⟩, rfl⟩ rfl rfl rfl ?_
        refine w_iconst (q := 40) hm83 ⟨⟨_, _, rfl⟩, rfl⟩ iconst_0 ?_
        refine w_istore (q := 42) (l' := [oR 70, oI x1, oI x2, oI x3, oI (0 : Int32), oI (-1 : Int32), oI (0 : Int32), none]) hm83 ⟨⟨_, _, rfl⟩, rfl⟩ rfl rfl rfl ?_
        exact h
      · have h := h.2 hc
        exact Wp.wk [false, false, false, false, false, false, false, false] h
theorem v_X12_peak_70_27 {d : Nat} {m : dM} {Q : Int32 → dM → Prop} (h : Q (-1 : Int32) m) : j_X12_peak_70_27 (d + 1) m Q := by
  refine w_iconst (q := 28) hm83 ⟨⟨_, _, rfl⟩, rfl⟩ iconst_m1 ?_
  exact w_reti hm83 ⟨⟨_, _, rfl⟩, rfl⟩ rfl h
theorem v_X12_peak_70_42 {d : Nat} {x1 : Int32} {x2 : Int32} {x3 : Int32} {x4 : Int32} {x5 : Int32} {x6 : Int32} {m : dM} {Q : Int32 → dM → Prop} (h : ((x2.toInt ≤ x6.toInt → ((x3.toInt ≠ 0 → Q x4 m) ∧ (x3.toInt = 0 → Q x5 m))) ∧ (x6.toInt < x2.toInt → c_X12_isWhole_70 d x1 m (fun r1 m1 => ((r1.toInt = 0 → ((0 ≤ x5.toInt → j_X12_peak_70_86 (d + 1) x1 x2 x3 x4 x5 x6 m1 Q) ∧ (x5.toInt < 0 → j_X12_peak_70_86 (d + 1) x1 x2 x3 x6 (0 : Int32) x6 m1 Q))) ∧ (r1.toInt ≠ 0 → c_X12_onNow_70 d m1 (fun r2 m2 => c_X12_loadBy_70 d x1 r2 m2 (fun r3 m3 => ((r3.toInt ≤ x5.toInt → j_X12_peak_70_86 (d + 1) x1 x2 x3 x4 x5 x6 m3 Q) ∧ (x5.toInt < r3.toInt → j_X12_peak_70_86 (d + 1) x1 x2 x3 x6 r3 x6 m3 Q)))))))))) : j_X12_peak_70_42 (d + 1) x1 x2 x3 x4 x5 x6 m Q := by
  refine w_iload (q := 44) hm83 ⟨⟨_, _, rfl⟩, rfl⟩ rfl ?_
  refine w_iload_n (q := 45) hm83 ⟨⟨_, _, rfl⟩, rfl⟩ rfl ?_
  refine w_icmp_ge (q := 48) (X := x6.toInt) (Y := x2.toInt) hm83 ⟨⟨_, _, rfl⟩, rfl⟩ rfl rfl (fun hc => ?_) (fun hc => ?_)
  · have h := h.1 hc
    refine w_iload_n (q := 97) hm83 ⟨⟨_, _, rfl⟩, rfl⟩ rfl ?_
    refine w_if_ne (q := 100) (X := x3.toInt) hm83 ⟨⟨_, _, rfl⟩, rfl⟩ rfl (fun hc => ?_) (fun hc => ?_)
    · have h := h.1 hc
      refine w_iload (q := 107) hm83 ⟨⟨_, _, rfl⟩, rfl⟩ rfl ?_
      exact w_reti hm83 ⟨⟨_, _, rfl⟩, rfl⟩ rfl h
    · have h := h.2 hc
      refine w_iload (q := 102) hm83 ⟨⟨_, _, rfl⟩, rfl⟩ rfl ?_
      refine w_goto (q := 107) hm83 ⟨_, _, rfl⟩ ?_
      exact w_reti hm83 ⟨⟨_, _, rfl⟩, rfl⟩ rfl h
  · have h := h.2 hc
    refine w_aload_n (q := 49) hm83 ⟨⟨_, _, rfl⟩, rfl⟩ rfl ?_
    refine w_iload_n (q := 50) hm83 ⟨⟨_, _, rfl⟩, rfl⟩ rfl ?_
    refine w_call (q := 53) (n := 0) (vs := [.inr (.inr (some 70)), .inl x1]) (rest := []) (la := [oR 70, oI x1]) hm83 ⟨⟨_, _, rfl⟩, rfl⟩ rfl rfl rfl rfl hm47 rfl rfl (fun _ => ⟨_, _, rfl, rfl⟩) rfl (Wp.mono h ?_)
    rintro _ m1 ⟨r1, rfl, h⟩
    change Wp _ _ 53 _ [.inl r1] _ _
    refine w_if_eq (q := 56) (X := r1.toInt) hm83 ⟨⟨_, _, rfl⟩, rfl⟩ rfl (fun hc => ?_) (fun hc => ?_)
    · have h := h.1 hc
      refine w_iconst (q := 69) hm83 ⟨⟨_, _, rfl⟩, rfl⟩ iconst_0 ?_
      refine w_istore (q := 71) (l' := [oR 70, oI x1, oI x2, oI x3, oI x4, oI x5, oI x6, oI (0 : Int32)]) hm83 ⟨⟨_, _, rfl⟩, rfl⟩ rfl rfl rfl ?_
      refine w_iload (q := 73) hm83 ⟨⟨_, _, rfl⟩, rfl⟩ rfl ?_
      refine w_iload (q := 75) hm83 ⟨⟨_, _, rfl⟩, rfl⟩ rfl ?_
      refine w_icmp_le (q := 78) (X := 0) (Y := x5.toInt) hm83 ⟨⟨_, _, rfl⟩, rfl⟩ (by decide) rfl (fun hc => ?_) (fun hc => ?_)
      · have h := h.1 hc
        exact Wp.wk [true, true, true, true, true, true, true, false] h
      · have h := h.2 hc
        refine w_iload (q := 80) hm83 ⟨⟨_, _, rfl⟩, rfl⟩ rfl ?_
        refine w_istore (q := 82) (l' := [oR 70, oI x1, oI x2, oI x3, oI x6, oI x5, oI x6, oI (0 : Int32)]) hm83 ⟨⟨_, _, rfl⟩, rfl⟩ rfl rfl rfl ?_
        refine w_iload (q := 84) hm83 ⟨⟨_, _, rfl⟩, rfl⟩ rfl ?_
        refine w_istore (q := 86) (l' := [oR 70, oI x1, oI x2, oI x3, oI x6, oI (0 : Int32), oI x6, oI (0 : Int32)]) hm83 ⟨⟨_, _, rfl⟩, rfl⟩ rfl rfl rfl ?_
        exact Wp.wk [true, true, true, true, true, true, true, false] h
    · have h := h.2 hc
      refine w_aload_n (q := 57) hm83 ⟨⟨_, _, rfl⟩, rfl⟩ rfl ?_
      refine w_iload_n (q := 58) hm83 ⟨⟨_, _, rfl⟩, rfl⟩ rfl ?_
      refine w_aload_n (q := 59) hm83 ⟨⟨_, _, rfl⟩, rfl⟩ rfl ?_
      refine w_call (q := 62) (n := 0) (vs := [.inr (.inr (some 70))]) (rest := [.inl x1, .inr (.inr (some 70))]) (la := [oR 70]) hm83 ⟨⟨_, _, rfl⟩, rfl⟩ rfl rfl rfl rfl hm56 rfl rfl (fun _ => ⟨_, _, rfl, rfl⟩) rfl (Wp.mono h ?_)
      rintro _ m2 ⟨r2, rfl, h⟩
      change Wp _ _ 62 _ [.inl r2, .inl x1, .inr (.inr (some 70))] _ _
      refine w_call (q := 65) (n := 2) (vs := [.inr (.inr (some 70)), .inl x1, .inl r2]) (rest := []) (la := [oR 70, oI x1, oI r2, none, none]) hm83 ⟨⟨_, _, rfl⟩, rfl⟩ rfl rfl rfl rfl hm57 rfl rfl (fun _ => ⟨_, _, rfl, rfl⟩) rfl (Wp.mono h ?_)
      rintro _ m3 ⟨r3, rfl, h⟩
      change Wp _ _ 65 _ [.inl r3] _ _
      refine w_goto (q := 69) hm83 ⟨_, _, rfl⟩ ?_
      refine w_istore (q := 71) (l' := [oR 70, oI x1, oI x2, oI x3, oI x4, oI x5, oI x6, oI r3]) hm83 ⟨⟨_, _, rfl⟩, rfl⟩ rfl rfl rfl ?_
      refine w_iload (q := 73) hm83 ⟨⟨_, _, rfl⟩, rfl⟩ rfl ?_
      refine w_iload (q := 75) hm83 ⟨⟨_, _, rfl⟩, rfl⟩ rfl ?_
      refine w_icmp_le (q := 78) (X := r3.toInt) (Y := x5.toInt) hm83 ⟨⟨_, _, rfl⟩, rfl⟩ rfl rfl (fun hc => ?_) (fun hc => ?_)
      · have h := h.1 hc
        exact Wp.wk [true, true, true, true, true, true, true, false] h
      · have h := h.2 hc
        refine w_iload (q := 80) hm83 ⟨⟨_, _, rfl⟩, rfl⟩ rfl ?_
        refine w_istore (q := 82) (l' := [oR 70, oI x1, oI x2, oI x3, oI x6, oI x5, oI x6, oI r3]) hm83 ⟨⟨_, _, rfl⟩, rfl⟩ rfl rfl rfl ?_
        refine w_iload (q := 84) hm83 ⟨⟨_, _, rfl⟩, rfl⟩ rfl ?_
        refine w_istore (q := 86) (l' := [oR 70, oI x1, oI x2, oI x3, oI x6, oI r3, oI x6, oI r3]) hm83 ⟨⟨_, _, rfl⟩, rfl⟩ rfl rfl rfl ?_
        exact Wp.wk [true, true, true, true, true, true, true, false] h
theorem v_X12_peak_70_86 {d : Nat} {x1 : Int32} {x2 : Int32} {x3 : Int32} {x4 : Int32} {x5 : Int32} {x6 : Int32} {m : dM} {Q : Int32 → dM → Prop} (h : c_X12_hourGoes_70 d m (fun m1 => j_X12_peak_70_42 (d + 1) x1 x2 x3 x4 x5 (x6 + (1 : Int32)) m1 Q)) : j_X12_peak_70_86 (d + 1) x1 x2 x3 x4 x5 x6 m Q := by
  refine w_aload_n (q := 87) hm83 ⟨⟨_, _, rfl⟩, rfl⟩ rfl ?_
  refine w_call (q := 90) (n := 4) (vs := [.inr (.inr (some 70))]) (rest := []) (la := [oR 70, none, none, none, none]) hm83 ⟨⟨_, _, rfl⟩, rfl⟩ rfl rfl rfl rfl hm67 rfl rfl (fun _ => ⟨_, _, rfl, rfl⟩) rfl (Wp.mono h ?_)
  rintro _ m1 ⟨rfl, h⟩
  change Wp _ _ 90 _ [] _ _
  refine w_iinc (q := 93) (l' := [oR 70, oI x1, oI x2, oI x3, oI x4, oI x5, oI (x6 + (1 : Int32)), none]) hm83 ⟨⟨_, _, rfl⟩, rfl⟩ rfl rfl rfl iconst_1 rfl ?_
  refine w_goto (q := 42) hm83 ⟨_, _, rfl⟩ ?_
  exact h
theorem v_X1_trialTillGone_61 {d : Nat} {m : dM} {Q : Int32 → dM → Prop} (h : j_X1_trialTillGone_61_7 (d + 1) (1 : Int32) (dSet m 61 4 (0 : Int32)) Q) : c_X1_trialTillGone_61 (d + 1) m Q := by
  refine w_aload_n (q := 1) hm142 ⟨⟨_, _, rfl⟩, rfl⟩ rfl ?_
  refine w_iconst (q := 2) hm142 ⟨⟨_, _, rfl⟩, rfl⟩ iconst_0 ?_
  refine w_putf (q := 5) hm142 ⟨⟨_, _, rfl⟩, rfl⟩ rfl rfl rfl ?_
  refine w_iconst (q := 6) hm142 ⟨⟨_, _, rfl⟩, rfl⟩ iconst_1 ?_
  refine w_istore_n (q := 7) (l' := [oR 61, oI (1 : Int32)]) hm142 ⟨⟨_, _, rfl⟩, rfl⟩ rfl rfl rfl ?_
  exact h
theorem v_X1_trialTillGone_61_7 {d : Nat} {x1 : Int32} {m : dM} {Q : Int32 → dM → Prop} (h : ((200 < x1.toInt → Q (201 : Int32) m) ∧ (x1.toInt ≤ 200 → c_X0_passWires_54_62 d (0 : Int32) m (fun r1 m1 => ((r1.toInt = 0 → j_X1_trialTillGone_61_7 (d + 1) (x1 + (1 : Int32)) (dSet m1 61 4 r1) Q) ∧ (r1.toInt ≠ 0 → Q x1 (dSet m1 61 4 r1))))))) : j_X1_trialTillGone_61_7 (d + 1) x1 m Q := by
  refine w_iload_n (q := 8) hm142 ⟨⟨_, _, rfl⟩, rfl⟩ rfl ?_
  refine w_sipush (q := 11) hm142 ⟨⟨_, _, rfl⟩, rfl⟩ sipush_200 ?_
  refine w_icmp_gt (q := 14) (X := x1.toInt) (Y := 200) hm142 ⟨⟨_, _, rfl⟩, rfl⟩ rfl (by decide) (fun hc => ?_) (fun hc => ?_)
  · have h := h.1 hc
    refine w_sipush (q := 48) hm142 ⟨⟨_, _, rfl⟩, rfl⟩ sipush_201 ?_
    exact w_reti hm142 ⟨⟨_, _, rfl⟩, rfl⟩ rfl h
  · have h := h.2 hc
    refine w_aload_n (q := 15) hm142 ⟨⟨_, _, rfl⟩, rfl⟩ rfl ?_
    refine w_aload_n (q := 16) hm142 ⟨⟨_, _, rfl⟩, rfl⟩ rfl ?_
    refine w_getr (q := 19) hm142 ⟨⟨_, _, rfl⟩, rfl⟩ rfl ?_
    refine w_aload_n (q := 20) hm142 ⟨⟨_, _, rfl⟩, rfl⟩ rfl ?_
    refine w_getr (q := 23) hm142 ⟨⟨_, _, rfl⟩, rfl⟩ rfl ?_
    refine w_iconst (q := 24) hm142 ⟨⟨_, _, rfl⟩, rfl⟩ iconst_0 ?_
    refine w_call (q := 27) (n := 2) (vs := [.inr (.inr (some 54)), .inr (.inr (some 62)), .inl (0 : Int32)]) (rest := [.inr (.inr (some 61))]) (la := [oR 54, oR 62, oI (0 : Int32), none, none]) hm142 ⟨⟨_, _, rfl⟩, rfl⟩ rfl rfl rfl rfl hm137 rfl rfl (fun _ => ⟨_, _, rfl, rfl⟩) rfl (Wp.mono h ?_)
    rintro _ m1 ⟨r1, rfl, h⟩
    change Wp _ _ 27 _ [.inl r1, .inr (.inr (some 61))] _ _
    refine w_putf (q := 30) hm142 ⟨⟨_, _, rfl⟩, rfl⟩ rfl rfl rfl ?_
    refine w_aload_n (q := 31) hm142 ⟨⟨_, _, rfl⟩, rfl⟩ rfl ?_
    refine w_getf (q := 34) (v := r1) hm142 ⟨⟨_, _, rfl⟩, rfl⟩ rfl rfl ?_
    refine w_if_eq (q := 37) (X := r1.toInt) hm142 ⟨⟨_, _, rfl⟩, rfl⟩ rfl (fun hc => ?_) (fun hc => ?_)
    · have h := h.1 hc
      refine w_iinc (q := 42) (l' := [oR 61, oI (x1 + (1 : Int32))]) hm142 ⟨⟨_, _, rfl⟩, rfl⟩ rfl rfl rfl iconst_1 rfl ?_
      refine w_goto (q := 7) hm142 ⟨_, _, rfl⟩ ?_
      exact h
    · have h := h.2 hc
      refine w_iload_n (q := 38) hm142 ⟨⟨_, _, rfl⟩, rfl⟩ rfl ?_
      exact w_reti hm142 ⟨⟨_, _, rfl⟩, rfl⟩ rfl h
theorem v_X1_firstGone_61_47 {d : Nat} {m : dM} {Q : Int32 → dM → Prop} (h : c_X7_copy_62_47 d m (fun m1 => c_X1_trialTillGone_61 d m1 (fun r2 m2 => Q r2 m2))) : c_X1_firstGone_61_47 (d + 1) m Q := by
  refine w_aload_n (q := 1) hm140 ⟨⟨_, _, rfl⟩, rfl⟩ rfl ?_
  refine w_getr (q := 4) hm140 ⟨⟨_, _, rfl⟩, rfl⟩ rfl ?_
  refine w_aload_n (q := 5) hm140 ⟨⟨_, _, rfl⟩, rfl⟩ rfl ?_
  refine w_call (q := 8) (n := 0) (vs := [.inr (.inr (some 62)), .inr (.inr (some 47))]) (rest := []) (la := [oR 62, oR 47]) hm140 ⟨⟨_, _, rfl⟩, rfl⟩ rfl rfl rfl rfl hm209 rfl rfl (fun _ => ⟨_, _, rfl, rfl⟩) rfl (Wp.mono h ?_)
  rintro _ m1 ⟨rfl, h⟩
  change Wp _ _ 8 _ [] _ _
  refine w_aload_n (q := 9) hm140 ⟨⟨_, _, rfl⟩, rfl⟩ rfl ?_
  refine w_call (q := 12) (n := 1) (vs := [.inr (.inr (some 61))]) (rest := []) (la := [oR 61, none]) hm140 ⟨⟨_, _, rfl⟩, rfl⟩ rfl rfl rfl rfl hm142 rfl rfl (fun _ => ⟨_, _, rfl, rfl⟩) rfl (Wp.mono h ?_)
  rintro _ m2 ⟨r2, rfl, h⟩
  change Wp _ _ 12 _ [.inl r2] _ _
  exact w_reti hm140 ⟨⟨_, _, rfl⟩, rfl⟩ rfl h
theorem v_X11_bitAt {d : Nat} {x0 : Int32} {x1 : Int32} {m : dM} {Q : Int32 → dM → Prop} (h : j_X11_bitAt_4 (d + 1) x0 x1 (0 : Int32) (0 : Int32) m Q) : c_X11_bitAt (d + 1) x0 x1 m Q := by
  refine w_iconst (q := 1) hm284 ⟨⟨_, _, rfl⟩, rfl⟩ iconst_0 ?_
  refine w_istore_n (q := 2) (l' := [oI x0, oI x1, oI (0 : Int32), none]) hm284 ⟨⟨_, _, rfl⟩, rfl⟩ rfl rfl rfl ?_
  refine w_iconst (q := 3) hm284 ⟨⟨_, _, rfl⟩, rfl⟩ iconst_0 ?_
  refine w_istore_n (q := 4) (l' := [oI x0, oI x1, oI (0 : Int32), oI (0 : Int32)]) hm284 ⟨⟨_, _, rfl⟩, rfl⟩ rfl rfl rfl ?_
  exact h
theorem v_X11_bitAt_4 {d : Nat} {x0 : Int32} {x1 : Int32} {x2 : Int32} {x3 : Int32} {m : dM} {Q : Int32 → dM → Prop} (h : ((32 ≤ x3.toInt → Q (-1 : Int32) m) ∧ (x3.toInt < 32 → c_X11_has d x0 x3 m (fun r1 m1 => ((r1.toInt = 0 → j_X11_bitAt_28 (d + 1) x0 x1 x2 x3 m1 Q) ∧ (r1.toInt ≠ 0 → ((x2.toInt ≠ x1.toInt → j_X11_bitAt_28 (d + 1) x0 x1 (x2 + (1 : Int32)) x3 m1 Q) ∧ (x2.toInt = x1.toInt → Q x3 m1)))))))) : j_X11_bitAt_4 (d + 1) x0 x1 x2 x3 m Q := by
  refine w_iload_n (q := 5) hm284 ⟨⟨_, _, rfl⟩, rfl⟩ rfl ?_
  refine w_bipush (q := 7) hm284 ⟨⟨_, _, rfl⟩, rfl⟩ bipush_32 ?_
  refine w_icmp_ge (q := 10) (X := x3.toInt) (Y := 32) hm284 ⟨⟨_, _, rfl⟩, rfl⟩ rfl (by decide) (fun hc => ?_) (fun hc => ?_)
  · have h := h.1 hc
    refine w_iconst (q := 35) hm284 ⟨⟨_, _, rfl⟩, rfl⟩ iconst_m1 ?_
    exact w_reti hm284 ⟨⟨_, _, rfl⟩, rfl⟩ rfl h
  · have h := h.2 hc
    refine w_iload_n (q := 11) hm284 ⟨⟨_, _, rfl⟩, rfl⟩ rfl ?_
    refine w_iload_n (q := 12) hm284 ⟨⟨_, _, rfl⟩, rfl⟩ rfl ?_
    refine w_call (q := 15) (n := 0) (vs := [.inl x0, .inl x3]) (rest := []) (la := [oI x0, oI x3]) hm284 ⟨⟨_, _, rfl⟩, rfl⟩ rfl rfl rfl rfl hm283 rfl rfl (fun hz => absurd hz (by decide)) rfl (Wp.mono h ?_)
    rintro _ m1 ⟨r1, rfl, h⟩
    change Wp _ _ 15 _ [.inl r1] _ _
    refine w_if_eq (q := 18) (X := r1.toInt) hm284 ⟨⟨_, _, rfl⟩, rfl⟩ rfl (fun hc => ?_) (fun hc => ?_)
    · have h := h.1 hc
      exact h
    · have h := h.2 hc
      refine w_iload_n (q := 19) hm284 ⟨⟨_, _, rfl⟩, rfl⟩ rfl ?_
      refine w_iload_n (q := 20) hm284 ⟨⟨_, _, rfl⟩, rfl⟩ rfl ?_
      refine w_icmp_ne (q := 23) (X := x2.toInt) (Y := x1.toInt) hm284 ⟨⟨_, _, rfl⟩, rfl⟩ rfl rfl (fun hc => ?_) (fun hc => ?_)
      · have h := h.1 hc
        refine w_iinc (q := 28) (l' := [oI x0, oI x1, oI (x2 + (1 : Int32)), oI x3]) hm284 ⟨⟨_, _, rfl⟩, rfl⟩ rfl rfl rfl iconst_1 rfl ?_
        exact h
      · have h := h.2 hc
        refine w_iload_n (q := 24) hm284 ⟨⟨_, _, rfl⟩, rfl⟩ rfl ?_
        exact w_reti hm284 ⟨⟨_, _, rfl⟩, rfl⟩ rfl h
theorem v_X11_bitAt_28 {d : Nat} {x0 : Int32} {x1 : Int32} {x2 : Int32} {x3 : Int32} {m : dM} {Q : Int32 → dM → Prop} (h : j_X11_bitAt_4 (d + 1) x0 x1 x2 (x3 + (1 : Int32)) m Q) : j_X11_bitAt_28 (d + 1) x0 x1 x2 x3 m Q := by
  refine w_iinc (q := 31) (l' := [oI x0, oI x1, oI x2, oI (x3 + (1 : Int32))]) hm284 ⟨⟨_, _, rfl⟩, rfl⟩ rfl rfl rfl iconst_1 rfl ?_
  refine w_goto (q := 4) hm284 ⟨_, _, rfl⟩ ?_
  exact h
theorem v_X1_firstWire_61 {d : Nat} {m : dM} {Q : Int32 → dM → Prop} (h : c_X11_bitAt d (m.1 61 4) (0 : Int32) m (fun r1 m1 => Q r1 m1)) : c_X1_firstWire_61 (d + 1) m Q := by
  refine w_aload_n (q := 1) hm141 ⟨⟨_, _, rfl⟩, rfl⟩ rfl ?_
  refine w_getf (q := 4) (v := (m.1 61 4)) hm141 ⟨⟨_, _, rfl⟩, rfl⟩ rfl rfl ?_
  refine w_iconst (q := 5) hm141 ⟨⟨_, _, rfl⟩, rfl⟩ iconst_0 ?_
  refine w_call (q := 8) (n := 2) (vs := [.inl (m.1 61 4), .inl (0 : Int32)]) (rest := []) (la := [oI (m.1 61 4), oI (0 : Int32), none, none]) hm141 ⟨⟨_, _, rfl⟩, rfl⟩ rfl rfl rfl rfl hm284 rfl rfl (fun hz => absurd hz (by decide)) rfl (Wp.mono h ?_)
  rintro _ m1 ⟨r1, rfl, h⟩
  change Wp _ _ 8 _ [.inl r1] _ _
  exact w_reti hm141 ⟨⟨_, _, rfl⟩, rfl⟩ rfl h
theorem v_X11_first_0 {d : Nat} {x1 : Int32} {m : dM} {Q : Int32 → dM → Prop} (h : ((x1.toInt < 0 → j_X11_first_0_9 (d + 1) m Q) ∧ (0 ≤ x1.toInt → ((x1.toInt ≤ 1 → c_X1_firstGone_61_47 d m (fun r1 m1 => ((r1.toInt ≤ 200 → ((x1.toInt ≠ 0 → c_X1_firstWire_61 d m1 (fun r2 m2 => Q r2 m2)) ∧ (x1.toInt = 0 → Q r1 m1))) ∧ (200 < r1.toInt → Q (-2 : Int32) m1)))) ∧ (1 < x1.toInt → j_X11_first_0_9 (d + 1) m Q))))) : c_X11_first_0 (d + 1) x1 m Q := by
  refine w_iload_n (q := 1) hm262 ⟨⟨_, _, rfl⟩, rfl⟩ rfl ?_
  refine w_if_lt (q := 4) (X := x1.toInt) hm262 ⟨⟨_, _, rfl⟩, rfl⟩ rfl (fun hc => ?_) (fun hc => ?_)
  · have h := h.1 hc
    exact Wp.wk [false, false, false] h
  · have h := h.2 hc
    refine w_iload_n (q := 5) hm262 ⟨⟨_, _, rfl⟩, rfl⟩ rfl ?_
    refine w_iconst (q := 6) hm262 ⟨⟨_, _, rfl⟩, rfl⟩ iconst_1 ?_
    refine w_icmp_le (q := 9) (X := x1.toInt) (Y := 1) hm262 ⟨⟨_, _, rfl⟩, rfl⟩ rfl (by decide) (fun hc => ?_) (fun hc => ?_)
    · have h := h.1 hc
      refine w_aload_n (q := 12) hm262 ⟨⟨_, _, rfl⟩, rfl⟩ rfl ?_
      refine w_getr (q := 15) hm262 ⟨⟨_, _, rfl⟩, rfl⟩ rfl ?_
      refine w_aload_n (q := 16) hm262 ⟨⟨_, _, rfl⟩, rfl⟩ rfl ?_
      refine w_getr (q := 19) hm262 ⟨⟨_, _, rfl⟩, rfl⟩ rfl ?_
      refine w_call (q := 22) (n := 0) (vs := [.inr (.inr (some 61)), .inr (.inr (some 47))]) (rest := []) (la := [oR 61, oR 47]) hm262 ⟨⟨_, _, rfl⟩, rfl⟩ rfl rfl rfl rfl hm140 rfl rfl (fun _ => ⟨_, _, rfl, rfl⟩) rfl (Wp.mono h ?_)
      rintro _ m1 ⟨r1, rfl, h⟩
      change Wp _ _ 22 _ [.inl r1] _ _
      refine w_istore_n (q := 23) (l' := [oR 0, oI x1, oI r1]) hm262 ⟨⟨_, _, rfl⟩, rfl⟩ rfl rfl rfl ?_
      refine w_iload_n (q := 24) hm262 ⟨⟨_, _, rfl⟩, rfl⟩ rfl ?_
      refine w_sipush (q := 27) hm262 ⟨⟨_, _, rfl⟩, rfl⟩ sipush_200 ?_
      refine w_icmp_le (q := 30) (X := r1.toInt) (Y := 200) hm262 ⟨⟨_, _, rfl⟩, rfl⟩ rfl (by decide) (fun hc => ?_) (fun hc => ?_)
      · have h := h.1 hc
        refine w_iload_n (q := 34) hm262 ⟨⟨_, _, rfl⟩, rfl⟩ rfl ?_
        refine w_if_ne (q := 37) (X := x1.toInt) hm262 ⟨⟨_, _, rfl⟩, rfl⟩ rfl (fun hc => ?_) (fun hc => ?_)
        · have h := h.1 hc
          refine w_aload_n (q := 42) hm262 ⟨⟨_, _, rfl⟩, rfl⟩ rfl ?_
          refine w_getr (q := 45) hm262 ⟨⟨_, _, rfl⟩, rfl⟩ rfl ?_
          refine w_call (q := 48) (n := 0) (vs := [.inr (.inr (some 61))]) (rest := []) (la := [oR 61]) hm262 ⟨⟨_, _, rfl⟩, rfl⟩ rfl rfl rfl rfl hm141 rfl rfl (fun _ => ⟨_, _, rfl, rfl⟩) rfl (Wp.mono h ?_)
          rintro _ m2 ⟨r2, rfl, h⟩
          change Wp _ _ 48 _ [.inl r2] _ _
          exact w_reti hm262 ⟨⟨_, _, rfl⟩, rfl⟩ rfl h
        · have h := h.2 hc
          refine w_iload_n (q := 38) hm262 ⟨⟨_, _, rfl⟩, rfl⟩ rfl ?_
          refine w_goto (q := 48) hm262 ⟨_, _, rfl⟩ ?_
          exact w_reti hm262 ⟨⟨_, _, rfl⟩, rfl⟩ rfl h
      · have h := h.2 hc
        refine w_bipush (q := 32) hm262 ⟨⟨_, _, rfl⟩, rfl⟩ bipush_m2 ?_
        exact w_reti hm262 ⟨⟨_, _, rfl⟩, rfl⟩ rfl h
    · have h := h.2 hc
      exact Wp.wk [false, false, false] h
theorem v_X11_first_0_9 {d : Nat} {m : dM} {Q : Int32 → dM → Prop} (h : Q (-1 : Int32) m) : j_X11_first_0_9 (d + 1) m Q := by
  refine w_iconst (q := 10) hm262 ⟨⟨_, _, rfl⟩, rfl⟩ iconst_m1 ?_
  exact w_reti hm262 ⟨⟨_, _, rfl⟩, rfl⟩ rfl h
theorem v_X12_firstGoing_70 {d : Nat} {m : dM} {Q : Int32 → dM → Prop} (h : j_X12_firstGoing_70_2 (d + 1) (1 : Int32) m Q) : c_X12_firstGoing_70 (d + 1) m Q := by
  refine w_iconst (q := 1) hm84 ⟨⟨_, _, rfl⟩, rfl⟩ iconst_1 ?_
  refine w_istore_n (q := 2) (l' := [oR 70, oI (1 : Int32)]) hm84 ⟨⟨_, _, rfl⟩, rfl⟩ rfl rfl rfl ?_
  exact h
theorem v_X12_firstGoing_70_2 {d : Nat} {x1 : Int32} {m : dM} {Q : Int32 → dM → Prop} (h : ((200 < x1.toInt → Q (201 : Int32) m) ∧ (x1.toInt ≤ 200 → c_X12_hourGoes_70 d m (fun m1 => (((m1.1 70 60).toInt = 0 → j_X12_firstGoing_70_2 (d + 1) (x1 + (1 : Int32)) m1 Q) ∧ ((m1.1 70 60).toInt ≠ 0 → Q x1 m1)))))) : j_X12_firstGoing_70_2 (d + 1) x1 m Q := by
  refine w_iload_n (q := 3) hm84 ⟨⟨_, _, rfl⟩, rfl⟩ rfl ?_
  refine w_sipush (q := 6) hm84 ⟨⟨_, _, rfl⟩, rfl⟩ sipush_200 ?_
  refine w_icmp_gt (q := 9) (X := x1.toInt) (Y := 200) hm84 ⟨⟨_, _, rfl⟩, rfl⟩ rfl (by decide) (fun hc => ?_) (fun hc => ?_)
  · have h := h.1 hc
    refine w_sipush (q := 31) hm84 ⟨⟨_, _, rfl⟩, rfl⟩ sipush_201 ?_
    exact w_reti hm84 ⟨⟨_, _, rfl⟩, rfl⟩ rfl h
  · have h := h.2 hc
    refine w_aload_n (q := 10) hm84 ⟨⟨_, _, rfl⟩, rfl⟩ rfl ?_
    refine w_call (q := 13) (n := 4) (vs := [.inr (.inr (some 70))]) (rest := []) (la := [oR 70, none, none, none, none]) hm84 ⟨⟨_, _, rfl⟩, rfl⟩ rfl rfl rfl rfl hm67 rfl rfl (fun _ => ⟨_, _, rfl, rfl⟩) rfl (Wp.mono h ?_)
    rintro _ m1 ⟨rfl, h⟩
    change Wp _ _ 13 _ [] _ _
    refine w_aload_n (q := 14) hm84 ⟨⟨_, _, rfl⟩, rfl⟩ rfl ?_
    refine w_getf (q := 17) (v := (m1.1 70 60)) hm84 ⟨⟨_, _, rfl⟩, rfl⟩ rfl rfl ?_
    refine w_if_eq (q := 20) (X := (m1.1 70 60).toInt) hm84 ⟨⟨_, _, rfl⟩, rfl⟩ rfl (fun hc => ?_) (fun hc => ?_)
    · have h := h.1 hc
      refine w_iinc (q := 25) (l' := [oR 70, oI (x1 + (1 : Int32))]) hm84 ⟨⟨_, _, rfl⟩, rfl⟩ rfl rfl rfl iconst_1 rfl ?_
      refine w_goto (q := 2) hm84 ⟨_, _, rfl⟩ ?_
      exact h
    · have h := h.2 hc
      refine w_iload_n (q := 21) hm84 ⟨⟨_, _, rfl⟩, rfl⟩ rfl ?_
      exact w_reti hm84 ⟨⟨_, _, rfl⟩, rfl⟩ rfl h
end
