theorem v_X12_byteAt_70 {d : Nat} {x1 : Int32} {m : dM} {Q : Int32 → dM → Prop} (h : (((m.1 70 4).toInt ≤ x1.toInt → Q (0 : Int32) m) ∧ (x1.toInt < (m.1 70 4).toInt → ((0 ≤ x1.toInt ∧ x1.toInt < 2000) ∧ Q ((m.1 72 x1.toNatClampNeg) &&& (255 : Int32)) m)))) : c_X12_byteAt_70 (d + 1) x1 m Q := by
  refine w_iload_n (q := 1) hm4 ⟨⟨_, _, rfl⟩, rfl⟩ rfl ?_
  refine w_aload_n (q := 2) hm4 ⟨⟨_, _, rfl⟩, rfl⟩ rfl ?_
  refine w_getf (q := 5) (v := (m.1 70 4)) hm4 ⟨⟨_, _, rfl⟩, rfl⟩ rfl rfl ?_
  refine w_icmp_ge (q := 8) (X := x1.toInt) (Y := (m.1 70 4).toInt) hm4 ⟨⟨_, _, rfl⟩, rfl⟩ rfl rfl (fun hc => ?_) (fun hc => ?_)
  · have h := h.1 hc
    refine w_iconst (q := 22) hm4 ⟨⟨_, _, rfl⟩, rfl⟩ iconst_0 ?_
    exact w_reti hm4 ⟨⟨_, _, rfl⟩, rfl⟩ rfl h
  · have h := h.2 hc
    refine w_aload_n (q := 9) hm4 ⟨⟨_, _, rfl⟩, rfl⟩ rfl ?_
    refine w_getr (q := 12) hm4 ⟨⟨_, _, rfl⟩, rfl⟩ rfl ?_
    refine w_iload_n (q := 13) hm4 ⟨⟨_, _, rfl⟩, rfl⟩ rfl ?_
    obtain ⟨hi, h⟩ := h
    refine w_bald (q := 14) (v := (m.1 72 x1.toNatClampNeg)) hm4 ⟨⟨_, _, rfl⟩, rfl⟩ rfl hi rfl rfl ?_
    refine w_sipush (q := 17) hm4 ⟨⟨_, _, rfl⟩, rfl⟩ sipush_255 ?_
    refine w_iand (q := 18) hm4 ⟨⟨_, _, rfl⟩, rfl⟩ ?_
    refine w_goto (q := 22) hm4 ⟨_, _, rfl⟩ ?_
    exact w_reti hm4 ⟨⟨_, _, rfl⟩, rfl⟩ rfl h
theorem v_X12_isLetter {d : Nat} {x0 : Int32} {m : dM} {Q : Int32 → dM → Prop} (h : ((x0.toInt < 97 → j_X12_isLetter_16 (d + 1) m Q) ∧ (97 ≤ x0.toInt → ((122 < x0.toInt → j_X12_isLetter_16 (d + 1) m Q) ∧ (x0.toInt ≤ 122 → Q (1 : Int32) m))))) : c_X12_isLetter (d + 1) x0 m Q := by
  refine w_iload_n (q := 1) hm6 ⟨⟨_, _, rfl⟩, rfl⟩ rfl ?_
  refine w_bipush (q := 3) hm6 ⟨⟨_, _, rfl⟩, rfl⟩ bipush_97 ?_
  refine w_icmp_lt (q := 6) (X := x0.toInt) (Y := 97) hm6 ⟨⟨_, _, rfl⟩, rfl⟩ rfl (by decide) (fun hc => ?_) (fun hc => ?_)
  · have h := h.1 hc
    exact Wp.wk [false] h
  · have h := h.2 hc
    refine w_iload_n (q := 7) hm6 ⟨⟨_, _, rfl⟩, rfl⟩ rfl ?_
    refine w_bipush (q := 9) hm6 ⟨⟨_, _, rfl⟩, rfl⟩ bipush_122 ?_
    refine w_icmp_gt (q := 12) (X := x0.toInt) (Y := 122) hm6 ⟨⟨_, _, rfl⟩, rfl⟩ rfl (by decide) (fun hc => ?_) (fun hc => ?_)
    · have h := h.1 hc
      exact Wp.wk [false] h
    · have h := h.2 hc
      refine w_iconst (q := 13) hm6 ⟨⟨_, _, rfl⟩, rfl⟩ iconst_1 ?_
      refine w_goto (q := 17) hm6 ⟨_, _, rfl⟩ ?_
      exact w_retz hm6 ⟨⟨_, _, rfl⟩, rfl⟩ rfl (by decide) h
theorem v_X12_isLetter_16 {d : Nat} {m : dM} {Q : Int32 → dM → Prop} (h : Q (0 : Int32) m) : j_X12_isLetter_16 (d + 1) m Q := by
  refine w_iconst (q := 17) hm6 ⟨⟨_, _, rfl⟩, rfl⟩ iconst_0 ?_
  exact w_retz hm6 ⟨⟨_, _, rfl⟩, rfl⟩ rfl (by decide) h
theorem v_X12_isDigit {d : Nat} {x0 : Int32} {m : dM} {Q : Int32 → dM → Prop} (h : ((x0.toInt < 48 → j_X12_isDigit_16 (d + 1) m Q) ∧ (48 ≤ x0.toInt → ((57 < x0.toInt → j_X12_isDigit_16 (d + 1) m Q) ∧ (x0.toInt ≤ 57 → Q (1 : Int32) m))))) : c_X12_isDigit (d + 1) x0 m Q := by
  refine w_iload_n (q := 1) hm5 ⟨⟨_, _, rfl⟩, rfl⟩ rfl ?_
  refine w_bipush (q := 3) hm5 ⟨⟨_, _, rfl⟩, rfl⟩ bipush_48 ?_
  refine w_icmp_lt (q := 6) (X := x0.toInt) (Y := 48) hm5 ⟨⟨_, _, rfl⟩, rfl⟩ rfl (by decide) (fun hc => ?_) (fun hc => ?_)
  · have h := h.1 hc
    exact Wp.wk [false] h
  · have h := h.2 hc
    refine w_iload_n (q := 7) hm5 ⟨⟨_, _, rfl⟩, rfl⟩ rfl ?_
    refine w_bipush (q := 9) hm5 ⟨⟨_, _, rfl⟩, rfl⟩ bipush_57 ?_
    refine w_icmp_gt (q := 12) (X := x0.toInt) (Y := 57) hm5 ⟨⟨_, _, rfl⟩, rfl⟩ rfl (by decide) (fun hc => ?_) (fun hc => ?_)
    · have h := h.1 hc
      exact Wp.wk [false] h
    · have h := h.2 hc
      refine w_iconst (q := 13) hm5 ⟨⟨_, _, rfl⟩, rfl⟩ iconst_1 ?_
      refine w_goto (q := 17) hm5 ⟨_, _, rfl⟩ ?_
      exact w_retz hm5 ⟨⟨_, _, rfl⟩, rfl⟩ rfl (by decide) h
theorem v_X12_isDigit_16 {d : Nat} {m : dM} {Q : Int32 → dM → Prop} (h : Q (0 : Int32) m) : j_X12_isDigit_16 (d + 1) m Q := by
  refine w_iconst (q := 17) hm5 ⟨⟨_, _, rfl⟩, rfl⟩ iconst_0 ?_
  exact w_retz hm5 ⟨⟨_, _, rfl⟩, rfl⟩ rfl (by decide) h
theorem v_X12_token_70 {d : Nat} {x1 : Int32} {x2 : Int32} {x3 : Int32} {y4 : Int64} {m : dM} {Q : dM → Prop} (h : ((0 ≤ (m.1 70 10).toInt ∧ (m.1 70 10).toInt < 403) ∧ ((0 ≤ (m.1 70 10).toInt ∧ (m.1 70 10).toInt < 403) ∧ ((0 ≤ (m.1 70 10).toInt ∧ (m.1 70 10).toInt < 403) ∧ ((0 ≤ (m.1 70 10).toInt ∧ (m.1 70 10).toInt < 403) ∧ Q (dSet (dSetL (dSet (dSet (dSet m 73 (m.1 70 10).toNatClampNeg x1) 74 (m.1 70 10).toNatClampNeg x2) 75 (m.1 70 10).toNatClampNeg x3) 76 (m.1 70 10).toNatClampNeg y4) 70 10 ((m.1 70 10) + (1 : Int32)))))))) : c_X12_token_70 (d + 1) x1 x2 x3 y4 m Q := by
  refine w_aload_n (q := 1) hm9 ⟨⟨_, _, rfl⟩, rfl⟩ rfl ?_
  refine w_getr (q := 4) hm9 ⟨⟨_, _, rfl⟩, rfl⟩ rfl ?_
  refine w_aload_n (q := 5) hm9 ⟨⟨_, _, rfl⟩, rfl⟩ rfl ?_
  refine w_getf (q := 8) (v := (m.1 70 10)) hm9 ⟨⟨_, _, rfl⟩, rfl⟩ rfl rfl ?_
  refine w_iload_n (q := 9) hm9 ⟨⟨_, _, rfl⟩, rfl⟩ rfl ?_
  obtain ⟨hi, h⟩ := h
  refine w_iast (q := 10) hm9 ⟨⟨_, _, rfl⟩, rfl⟩ rfl hi rfl rfl ?_
  refine w_aload_n (q := 11) hm9 ⟨⟨_, _, rfl⟩, rfl⟩ rfl ?_
  refine w_getr (q := 14) hm9 ⟨⟨_, _, rfl⟩, rfl⟩ rfl ?_
  refine w_aload_n (q := 15) hm9 ⟨⟨_, _, rfl⟩, rfl⟩ rfl ?_
  refine w_getf (q := 18) (v := (m.1 70 10)) hm9 ⟨⟨_, _, rfl⟩, rfl⟩ rfl rfl ?_
  refine w_iload_n (q := 19) hm9 ⟨⟨_, _, rfl⟩, rfl⟩ rfl ?_
  obtain ⟨hi, h⟩ := h
  refine w_iast (q := 20) hm9 ⟨⟨_, _, rfl⟩, rfl⟩ rfl hi rfl rfl ?_
  refine w_aload_n (q := 21) hm9 ⟨⟨_, _, rfl⟩, rfl⟩ rfl ?_
  refine w_getr (q := 24) hm9 ⟨⟨_, _, rfl⟩, rfl⟩ rfl ?_
  refine w_aload_n (q := 25) hm9 ⟨⟨_, _, rfl⟩, rfl⟩ rfl ?_
  refine w_getf (q := 28) (v := (m.1 70 10)) hm9 ⟨⟨_, _, rfl⟩, rfl⟩ rfl rfl ?_
  refine w_iload_n (q := 29) hm9 ⟨⟨_, _, rfl⟩, rfl⟩ rfl ?_
  obtain ⟨hi, h⟩ := h
  refine w_iast (q := 30) hm9 ⟨⟨_, _, rfl⟩, rfl⟩ rfl hi rfl rfl ?_
  refine w_aload_n (q := 31) hm9 ⟨⟨_, _, rfl⟩, rfl⟩ rfl ?_
  refine w_getr (q := 34) hm9 ⟨⟨_, _, rfl⟩, rfl⟩ rfl ?_
  refine w_aload_n (q := 35) hm9 ⟨⟨_, _, rfl⟩, rfl⟩ rfl ?_
  refine w_getf (q := 38) (v := (m.1 70 10)) hm9 ⟨⟨_, _, rfl⟩, rfl⟩ rfl rfl ?_
  refine w_lload (q := 40) hm9 ⟨⟨_, _, rfl⟩, rfl⟩ rfl ?_
  obtain ⟨hi, h⟩ := h
  refine w_last (q := 41) hm9 ⟨⟨_, _, rfl⟩, rfl⟩ rfl hi rfl rfl ?_
  refine w_aload_n (q := 42) hm9 ⟨⟨_, _, rfl⟩, rfl⟩ rfl ?_
  refine w_dup (q := 43) hm9 ⟨⟨_, _, rfl⟩, rfl⟩ rfl ?_
  refine w_getf (q := 46) (v := (m.1 70 10)) hm9 ⟨⟨_, _, rfl⟩, rfl⟩ rfl rfl ?_
  refine w_iconst (q := 47) hm9 ⟨⟨_, _, rfl⟩, rfl⟩ iconst_1 ?_
  refine w_iadd (q := 48) hm9 ⟨⟨_, _, rfl⟩, rfl⟩ ?_
  refine w_putf (q := 51) hm9 ⟨⟨_, _, rfl⟩, rfl⟩ rfl rfl rfl ?_
  exact w_retv hm9 ⟨⟨_, _, rfl⟩, rfl⟩ rfl h
theorem v_X12_sign_70 {d : Nat} {x1 : Int32} {x2 : Int32} {x3 : Int32} {m : dM} {Q : Int32 → dM → Prop} (h : ((x2.toInt ≠ 59 → ((x2.toInt ≠ 61 → ((x2.toInt ≠ 40 → ((x2.toInt ≠ 41 → ((x2.toInt ≠ 43 → j_X12_sign_70_55 (d + 1) x1 x2 (3 : Int32) m Q) ∧ (x2.toInt = 43 → j_X12_sign_70_55 (d + 1) x1 x2 (8 : Int32) m Q))) ∧ (x2.toInt = 41 → ((x2.toInt ≠ 43 → j_X12_sign_70_55 (d + 1) x1 x2 (7 : Int32) m Q) ∧ (x2.toInt = 43 → j_X12_sign_70_55 (d + 1) x1 x2 (8 : Int32) m Q))))) ∧ (x2.toInt = 40 → ((x2.toInt ≠ 43 → j_X12_sign_70_55 (d + 1) x1 x2 (6 : Int32) m Q) ∧ (x2.toInt = 43 → j_X12_sign_70_55 (d + 1) x1 x2 (8 : Int32) m Q))))) ∧ (x2.toInt = 61 → ((x2.toInt ≠ 43 → j_X12_sign_70_55 (d + 1) x1 x2 (5 : Int32) m Q) ∧ (x2.toInt = 43 → j_X12_sign_70_55 (d + 1) x1 x2 (8 : Int32) m Q))))) ∧ (x2.toInt = 59 → ((x2.toInt ≠ 43 → j_X12_sign_70_55 (d + 1) x1 x2 (4 : Int32) m Q) ∧ (x2.toInt = 43 → j_X12_sign_70_55 (d + 1) x1 x2 (8 : Int32) m Q))))) : c_X12_sign_70 (d + 1) x1 x2 x3 m Q := by
  refine w_iload_n (q := 1) hm11 ⟨⟨_, _, rfl⟩, rfl⟩ rfl ?_
  refine w_bipush (q := 3) hm11 ⟨⟨_, _, rfl⟩, rfl⟩ bipush_59 ?_
  refine w_icmp_ne (q := 6) (X := x2.toInt) (Y := 59) hm11 ⟨⟨_, _, rfl⟩, rfl⟩ rfl (by decide) (fun hc => ?_) (fun hc => ?_)
  · have h := h.1 hc
    refine w_iload_n (q := 11) hm11 ⟨⟨_, _, rfl⟩, rfl⟩ rfl ?_
    refine w_bipush (q := 13) hm11 ⟨⟨_, _, rfl⟩, rfl⟩ bipush_61 ?_
    refine w_icmp_ne (q := 16) (X := x2.toInt) (Y := 61) hm11 ⟨⟨_, _, rfl⟩, rfl⟩ rfl (by decide) (fun hc => ?_) (fun hc => ?_)
    · have h := h.1 hc
      refine w_iload_n (q := 21) hm11 ⟨⟨_, _, rfl⟩, rfl⟩ rfl ?_
      refine w_bipush (q := 23) hm11 ⟨⟨_, _, rfl⟩, rfl⟩ bipush_40 ?_
      refine w_icmp_ne (q := 26) (X := x2.toInt) (Y := 40) hm11 ⟨⟨_, _, rfl⟩, rfl⟩ rfl (by decide) (fun hc => ?_) (fun hc => ?_)
      · have h := h.1 hc
        refine w_iload_n (q := 32) hm11 ⟨⟨_, _, rfl⟩, rfl⟩ rfl ?_
        refine w_bipush (q := 34) hm11 ⟨⟨_, _, rfl⟩, rfl⟩ bipush_41 ?_
        refine w_icmp_ne (q := 37) (X := x2.toInt) (Y := 41) hm11 ⟨⟨_, _, rfl⟩, rfl⟩ rfl (by decide) (fun hc => ?_) (fun hc => ?_)
        · have h := h.1 hc
          refine w_iconst (q := 43) hm11 ⟨⟨_, _, rfl⟩, rfl⟩ iconst_3 ?_
          refine w_istore (q := 45) (l' := [oR 70, oI x1, oI x2, oI x3, oI (3 : Int32)]) hm11 ⟨⟨_, _, rfl⟩, rfl⟩ rfl rfl rfl ?_
          refine w_iload_n (q := 46) hm11 ⟨⟨_, _, rfl⟩, rfl⟩ rfl ?_
          refine w_bipush (q := 48) hm11 ⟨⟨_, _, rfl⟩, rfl⟩ bipush_43 ?_
          refine w_icmp_ne (q := 51) (X := x2.toInt) (Y := 43) hm11 ⟨⟨_, _, rfl⟩, rfl⟩ rfl (by decide) (fun hc => ?_) (fun hc => ?_)
          · have h := h.1 hc
            exact Wp.wk [true, true, true, false, true] h
          · have h := h.2 hc
            refine w_bipush (q := 53) hm11 ⟨⟨_, _, rfl⟩, rfl⟩ bipush_8 ?_
            refine w_istore (q := 55) (l' := [oR 70, oI x1, oI x2, oI x3, oI (8 : Int32)]) hm11 ⟨⟨_, _, rfl⟩, rfl⟩ rfl rfl rfl ?_
            exact Wp.wk [true, true, true, false, true] h
        · have h := h.2 hc
          refine w_bipush (q := 39) hm11 ⟨⟨_, _, rfl⟩, rfl⟩ bipush_7 ?_
          refine w_goto (q := 43) hm11 ⟨_, _, rfl⟩ ?_
          refine w_istore (q := 45) (l' := [oR 70, oI x1, oI x2, oI x3, oI (7 : Int32)]) hm11 ⟨⟨_, _, rfl⟩, rfl⟩ rfl rfl rfl ?_
          refine w_iload_n (q := 46) hm11 ⟨⟨_, _, rfl⟩, rfl⟩ rfl ?_
          refine w_bipush (q := 48) hm11 ⟨⟨_, _, rfl⟩, rfl⟩ bipush_43 ?_
          refine w_icmp_ne (q := 51) (X := x2.toInt) (Y := 43) hm11 ⟨⟨_, _, rfl⟩, rfl⟩ rfl (by decide) (fun hc => ?_) (fun hc => ?_)
          · have h := h.1 hc
            exact Wp.wk [true, true, true, false, true] h
          · have h := h.2 hc
            refine w_bipush (q := 53) hm11 ⟨⟨_, _, rfl⟩, rfl⟩ bipush_8 ?_
            refine w_istore (q := 55) (l' := [oR 70, oI x1, oI x2, oI x3, oI (8 : Int32)]) hm11 ⟨⟨_, _, rfl⟩, rfl⟩ rfl rfl rfl ?_
            exact Wp.wk [true, true, true, false, true] h
      · have h := h.2 hc
        refine w_bipush (q := 28) hm11 ⟨⟨_, _, rfl⟩, rfl⟩ bipush_6 ?_
        refine w_goto (q := 43) hm11 ⟨_, _, rfl⟩ ?_
        refine w_istore (q := 45) (l' := [oR 70, oI x1, oI x2, oI x3, oI (6 : Int32)]) hm11 ⟨⟨_, _, rfl⟩, rfl⟩ rfl rfl rfl ?_
        refine w_iload_n (q := 46) hm11 ⟨⟨_, _, rfl⟩, rfl⟩ rfl ?_
        refine w_bipush (q := 48) hm11 ⟨⟨_, _, rfl⟩, rfl⟩ bipush_43 ?_
        refine w_icmp_ne (q := 51) (X := x2.toInt) (Y := 43) hm11 ⟨⟨_, _, rfl⟩, rfl⟩ rfl (by decide) (fun hc => ?_) (fun hc => ?_)
        · have h := h.1 hc
          exact Wp.wk [true, true, true, false, true] h
        · have h := h.2 hc
          refine w_bipush (q := 53) hm11 ⟨⟨_, _, rfl⟩, rfl⟩ bipush_8 ?_
          refine w_istore (q := 55) (l' := [oR 70, oI x1, oI x2, oI x3, oI (8 : Int32)]) hm11 ⟨⟨_, _, rfl⟩, rfl⟩ rfl rfl rfl ?_
          exact Wp.wk [true, true, true, false, true] h
    · have h := h.2 hc
      refine w_iconst (q := 17) hm11 ⟨⟨_, _, rfl⟩, rfl⟩ iconst_5 ?_
      refine w_goto (q := 43) hm11 ⟨_, _, rfl⟩ ?_
      refine w_istore (q := 45) (l' := [oR 70, oI x1, oI x2, oI x3, oI (5 : Int32)]) hm11 ⟨⟨_, _, rfl⟩, rfl⟩ rfl rfl rfl ?_
      refine w_iload_n (q := 46) hm11 ⟨⟨_, _, rfl⟩, rfl⟩ rfl ?_
      refine w_bipush (q := 48) hm11 ⟨⟨_, _, rfl⟩, rfl⟩ bipush_43 ?_
      refine w_icmp_ne (q := 51) (X := x2.toInt) (Y := 43) hm11 ⟨⟨_, _, rfl⟩, rfl⟩ rfl (by decide) (fun hc => ?_) (fun hc => ?_)
      · have h := h.1 hc
        exact Wp.wk [true, true, true, false, true] h
      · have h := h.2 hc
        refine w_bipush (q := 53) hm11 ⟨⟨_, _, rfl⟩, rfl⟩ bipush_8 ?_
        refine w_istore (q := 55) (l' := [oR 70, oI x1, oI x2, oI x3, oI (8 : Int32)]) hm11 ⟨⟨_, _, rfl⟩, rfl⟩ rfl rfl rfl ?_
        exact Wp.wk [true, true, true, false, true] h
  · have h := h.2 hc
    refine w_iconst (q := 7) hm11 ⟨⟨_, _, rfl⟩, rfl⟩ iconst_4 ?_
    refine w_goto (q := 43) hm11 ⟨_, _, rfl⟩ ?_
    refine w_istore (q := 45) (l' := [oR 70, oI x1, oI x2, oI x3, oI (4 : Int32)]) hm11 ⟨⟨_, _, rfl⟩, rfl⟩ rfl rfl rfl ?_
    refine w_iload_n (q := 46) hm11 ⟨⟨_, _, rfl⟩, rfl⟩ rfl ?_
    refine w_bipush (q := 48) hm11 ⟨⟨_, _, rfl⟩, rfl⟩ bipush_43 ?_
    refine w_icmp_ne (q := 51) (X := x2.toInt) (Y := 43) hm11 ⟨⟨_, _, rfl⟩, rfl⟩ rfl (by decide) (fun hc => ?_) (fun hc => ?_)
    · have h := h.1 hc
      exact Wp.wk [true, true, true, false, true] h
    · have h := h.2 hc
      refine w_bipush (q := 53) hm11 ⟨⟨_, _, rfl⟩, rfl⟩ bipush_8 ?_
      refine w_istore (q := 55) (l' := [oR 70, oI x1, oI x2, oI x3, oI (8 : Int32)]) hm11 ⟨⟨_, _, rfl⟩, rfl⟩ rfl rfl rfl ?_
      exact Wp.wk [true, true, true, false, true] h
theorem v_X12_sign_70_55 {d : Nat} {x1 : Int32} {x2 : Int32} {x4 : Int32} {m : dM} {Q : Int32 → dM → Prop} (h : ((x2.toInt ≠ 45 → j_X12_sign_70_65 (d + 1) x1 x2 x4 m Q) ∧ (x2.toInt = 45 → j_X12_sign_70_65 (d + 1) x1 x2 (9 : Int32) m Q))) : j_X12_sign_70_55 (d + 1) x1 x2 x4 m Q := by
  refine w_iload_n (q := 56) hm11 ⟨⟨_, _, rfl⟩, rfl⟩ rfl ?_
  refine w_bipush (q := 58) hm11 ⟨⟨_, _, rfl⟩, rfl⟩ bipush_45 ?_
  refine w_icmp_ne (q := 61) (X := x2.toInt) (Y := 45) hm11 ⟨⟨_, _, rfl⟩, rfl⟩ rfl (by decide) (fun hc => ?_) (fun hc => ?_)
  · have h := h.1 hc
    exact h
  · have h := h.2 hc
    refine w_bipush (q := 63) hm11 ⟨⟨_, _, rfl⟩, rfl⟩ bipush_9 ?_
    refine w_istore (q := 65) (l' := [oR 70, oI x1, oI x2, none, oI (9 : Int32)]) hm11 ⟨⟨_, _, rfl⟩, rfl⟩ rfl rfl rfl ?_
    exact h
theorem v_X12_sign_70_65 {d : Nat} {x1 : Int32} {x2 : Int32} {x4 : Int32} {m : dM} {Q : Int32 → dM → Prop} (h : ((x2.toInt ≠ 42 → j_X12_sign_70_75 (d + 1) x1 x2 x4 m Q) ∧ (x2.toInt = 42 → j_X12_sign_70_75 (d + 1) x1 x2 (10 : Int32) m Q))) : j_X12_sign_70_65 (d + 1) x1 x2 x4 m Q := by
  refine w_iload_n (q := 66) hm11 ⟨⟨_, _, rfl⟩, rfl⟩ rfl ?_
  refine w_bipush (q := 68) hm11 ⟨⟨_, _, rfl⟩, rfl⟩ bipush_42 ?_
  refine w_icmp_ne (q := 71) (X := x2.toInt) (Y := 42) hm11 ⟨⟨_, _, rfl⟩, rfl⟩ rfl (by decide) (fun hc => ?_) (fun hc => ?_)
  · have h := h.1 hc
    exact h
  · have h := h.2 hc
    refine w_bipush (q := 73) hm11 ⟨⟨_, _, rfl⟩, rfl⟩ bipush_10 ?_
    refine w_istore (q := 75) (l' := [oR 70, oI x1, oI x2, none, oI (10 : Int32)]) hm11 ⟨⟨_, _, rfl⟩, rfl⟩ rfl rfl rfl ?_
    exact h
theorem v_X12_sign_70_75 {d : Nat} {x1 : Int32} {x2 : Int32} {x4 : Int32} {m : dM} {Q : Int32 → dM → Prop} (h : ((x2.toInt ≠ 47 → j_X12_sign_70_85 (d + 1) x1 x2 x4 m Q) ∧ (x2.toInt = 47 → j_X12_sign_70_85 (d + 1) x1 x2 (15 : Int32) m Q))) : j_X12_sign_70_75 (d + 1) x1 x2 x4 m Q := by
  refine w_iload_n (q := 76) hm11 ⟨⟨_, _, rfl⟩, rfl⟩ rfl ?_
  refine w_bipush (q := 78) hm11 ⟨⟨_, _, rfl⟩, rfl⟩ bipush_47 ?_
  refine w_icmp_ne (q := 81) (X := x2.toInt) (Y := 47) hm11 ⟨⟨_, _, rfl⟩, rfl⟩ rfl (by decide) (fun hc => ?_) (fun hc => ?_)
  · have h := h.1 hc
    exact h
  · have h := h.2 hc
    refine w_bipush (q := 83) hm11 ⟨⟨_, _, rfl⟩, rfl⟩ bipush_15 ?_
    refine w_istore (q := 85) (l' := [oR 70, oI x1, oI x2, none, oI (15 : Int32)]) hm11 ⟨⟨_, _, rfl⟩, rfl⟩ rfl rfl rfl ?_
    exact h
theorem v_X12_sign_70_85 {d : Nat} {x1 : Int32} {x2 : Int32} {x4 : Int32} {m : dM} {Q : Int32 → dM → Prop} (h : ((x2.toInt ≠ 60 → j_X12_sign_70_95 (d + 1) x1 x4 m Q) ∧ (x2.toInt = 60 → j_X12_sign_70_95 (d + 1) x1 (13 : Int32) m Q))) : j_X12_sign_70_85 (d + 1) x1 x2 x4 m Q := by
  refine w_iload_n (q := 86) hm11 ⟨⟨_, _, rfl⟩, rfl⟩ rfl ?_
  refine w_bipush (q := 88) hm11 ⟨⟨_, _, rfl⟩, rfl⟩ bipush_60 ?_
  refine w_icmp_ne (q := 91) (X := x2.toInt) (Y := 60) hm11 ⟨⟨_, _, rfl⟩, rfl⟩ rfl (by decide) (fun hc => ?_) (fun hc => ?_)
  · have h := h.1 hc
    exact Wp.wk [true, true, false, false, true] h
  · have h := h.2 hc
    refine w_bipush (q := 93) hm11 ⟨⟨_, _, rfl⟩, rfl⟩ bipush_13 ?_
    refine w_istore (q := 95) (l' := [oR 70, oI x1, oI x2, none, oI (13 : Int32)]) hm11 ⟨⟨_, _, rfl⟩, rfl⟩ rfl rfl rfl ?_
    exact Wp.wk [true, true, false, false, true] h
theorem v_X12_sign_70_95 {d : Nat} {x1 : Int32} {x4 : Int32} {m : dM} {Q : Int32 → dM → Prop} (h : c_X12_token_70 d x4 x1 (0 : Int32) (0 : Int64) m (fun m1 => Q (1 : Int32) m1)) : j_X12_sign_70_95 (d + 1) x1 x4 m Q := by
  refine w_aload_n (q := 96) hm11 ⟨⟨_, _, rfl⟩, rfl⟩ rfl ?_
  refine w_iload (q := 98) hm11 ⟨⟨_, _, rfl⟩, rfl⟩ rfl ?_
  refine w_iload_n (q := 99) hm11 ⟨⟨_, _, rfl⟩, rfl⟩ rfl ?_
  refine w_iconst (q := 100) hm11 ⟨⟨_, _, rfl⟩, rfl⟩ iconst_0 ?_
  refine w_lconst (q := 101) hm11 ⟨⟨_, _, rfl⟩, rfl⟩ lconst_0 ?_
  refine w_call (q := 104) (n := 0) (vs := [.inr (.inr (some 70)), .inl x4, .inl x1, .inl (0 : Int32), .inr (.inl (0 : Int64))]) (rest := []) (la := [oR 70, oI x4, oI x1, oI (0 : Int32), oL (0 : Int64), none]) hm11 ⟨⟨_, _, rfl⟩, rfl⟩ rfl rfl rfl rfl hm9 rfl rfl (fun _ => ⟨_, _, rfl, rfl⟩) rfl (Wp.mono h ?_)
  rintro _ m1 ⟨rfl, h⟩
  change Wp _ _ 104 _ [] _ _
  refine w_iconst (q := 105) hm11 ⟨⟨_, _, rfl⟩, rfl⟩ iconst_1 ?_
  exact w_reti hm11 ⟨⟨_, _, rfl⟩, rfl⟩ rfl h
theorem v_X12_appends {d : Nat} {y0 : Int64} {x2 : Int32} {m : dM} {Q : Int64 → dM → Prop} (h : ((x2.toInt ≠ 0 → Q (((27 : Int64) * y0) + ((x2 - (97 : Int32)) + (1 : Int32)).toInt64) m) ∧ (x2.toInt = 0 → Q y0 m))) : c_X12_appends (d + 1) y0 x2 m Q := by
  refine w_iload_n (q := 1) hm7 ⟨⟨_, _, rfl⟩, rfl⟩ rfl ?_
  refine w_if_ne (q := 4) (X := x2.toInt) hm7 ⟨⟨_, _, rfl⟩, rfl⟩ rfl (fun hc => ?_) (fun hc => ?_)
  · have h := h.1 hc
    refine w_ldc2_w (q := 11) hm7 ⟨⟨_, _, rfl⟩, rfl⟩ ldc2_27 ?_
    refine w_lload_n (q := 12) hm7 ⟨⟨_, _, rfl⟩, rfl⟩ rfl ?_
    refine w_lmul (q := 13) hm7 ⟨⟨_, _, rfl⟩, rfl⟩ ?_
    refine w_iload_n (q := 14) hm7 ⟨⟨_, _, rfl⟩, rfl⟩ rfl ?_
    refine w_bipush (q := 16) hm7 ⟨⟨_, _, rfl⟩, rfl⟩ bipush_97 ?_
    refine w_isub (q := 17) hm7 ⟨⟨_, _, rfl⟩, rfl⟩ ?_
    refine w_iconst (q := 18) hm7 ⟨⟨_, _, rfl⟩, rfl⟩ iconst_1 ?_
    refine w_iadd (q := 19) hm7 ⟨⟨_, _, rfl⟩, rfl⟩ ?_
    refine w_i2l (q := 20) hm7 ⟨⟨_, _, rfl⟩, rfl⟩ ?_
    refine w_ladd (q := 21) hm7 ⟨⟨_, _, rfl⟩, rfl⟩ ?_
    exact w_retl hm7 ⟨⟨_, _, rfl⟩, rfl⟩ rfl h
  · have h := h.2 hc
    refine w_lload_n (q := 5) hm7 ⟨⟨_, _, rfl⟩, rfl⟩ rfl ?_
    refine w_goto (q := 21) hm7 ⟨_, _, rfl⟩ ?_
    exact w_retl hm7 ⟨⟨_, _, rfl⟩, rfl⟩ rfl h
theorem v_X12_cutsUp_70 {d : Nat} {m : dM} {Q : dM → Prop} (h : j_X12_cutsUp_70_7 (d + 1) (0 : Int32) (dSet m 70 10 (0 : Int32)) Q) : c_X12_cutsUp_70 (d + 1) m Q := by
  refine w_aload_n (q := 1) hm10 ⟨⟨_, _, rfl⟩, rfl⟩ rfl ?_
  refine w_iconst (q := 2) hm10 ⟨⟨_, _, rfl⟩, rfl⟩ iconst_0 ?_
  refine w_putf (q := 5) hm10 ⟨⟨_, _, rfl⟩, rfl⟩ rfl rfl rfl ?_
  refine w_iconst (q := 6) hm10 ⟨⟨_, _, rfl⟩, rfl⟩ iconst_0 ?_
  refine w_istore_n (q := 7) (l' := [oR 70, oI (0 : Int32), none, none, none, none, none, none]) hm10 ⟨⟨_, _, rfl⟩, rfl⟩ rfl rfl rfl ?_
  exact h
theorem v_X12_cutsUp_70_7 {d : Nat} {x1 : Int32} {m : dM} {Q : dM → Prop} (h : ((400 < (m.1 70 10).toInt → Q m) ∧ ((m.1 70 10).toInt ≤ 400 → c_X12_byteAt_70 d x1 m (fun r1 m1 => ((x1.toInt < (m1.1 70 4).toInt → ((r1.toInt = 9 → j_X12_cutsUp_70_67 (d + 1) x1 m1 Q) ∧ (r1.toInt ≠ 9 → ((r1.toInt = 10 → j_X12_cutsUp_70_67 (d + 1) x1 m1 Q) ∧ (r1.toInt ≠ 10 → ((r1.toInt = 13 → j_X12_cutsUp_70_67 (d + 1) x1 m1 Q) ∧ (r1.toInt ≠ 13 → ((r1.toInt ≠ 32 → c_X12_isLetter d r1 m1 (fun r2 m2 => ((r2.toInt = 0 → c_X12_isDigit d r1 m2 (fun r3 m3 => ((r3.toInt = 0 → c_X12_byteAt_70 d (x1 + (1 : Int32)) m3 (fun r4 m4 => c_X12_sign_70 d x1 r1 r4 m4 (fun r5 m5 => j_X12_cutsUp_70_291 (d + 1) (x1 + r5) m5 Q))) ∧ (r3.toInt ≠ 0 → j_X12_cutsUp_70_208 (d + 1) x1 (0 : Int32) (0 : Int32) m3 Q)))) ∧ (r2.toInt ≠ 0 → j_X12_cutsUp_70_85 (d + 1) x1 (0 : Int32) (0 : Int64) m2 Q)))) ∧ (r1.toInt = 32 → j_X12_cutsUp_70_67 (d + 1) x1 m1 Q))))))))) ∧ ((m1.1 70 4).toInt ≤ x1.toInt → c_X12_token_70 d (0 : Int32) (m1.1 70 4) (0 : Int32) (0 : Int64) m1 (fun m6 => Q m6))))))) : j_X12_cutsUp_70_7 (d + 1) x1 m Q := by
  refine w_aload_n (q := 8) hm10 ⟨⟨_, _, rfl⟩, rfl⟩ rfl ?_
  refine w_getf (q := 11) (v := (m.1 70 10)) hm10 ⟨⟨_, _, rfl⟩, rfl⟩ rfl rfl ?_
  refine w_sipush (q := 14) hm10 ⟨⟨_, _, rfl⟩, rfl⟩ sipush_400 ?_
  refine w_icmp_gt (q := 17) (X := (m.1 70 10).toInt) (Y := 400) hm10 ⟨⟨_, _, rfl⟩, rfl⟩ rfl (by decide) (fun hc => ?_) (fun hc => ?_)
  · have h := h.1 hc
    exact w_retv hm10 ⟨⟨_, _, rfl⟩, rfl⟩ rfl h
  · have h := h.2 hc
    refine w_aload_n (q := 18) hm10 ⟨⟨_, _, rfl⟩, rfl⟩ rfl ?_
    refine w_iload_n (q := 19) hm10 ⟨⟨_, _, rfl⟩, rfl⟩ rfl ?_
    refine w_call (q := 22) (n := 0) (vs := [.inr (.inr (some 70)), .inl x1]) (rest := []) (la := [oR 70, oI x1]) hm10 ⟨⟨_, _, rfl⟩, rfl⟩ rfl rfl rfl rfl hm4 rfl rfl (fun _ => ⟨_, _, rfl, rfl⟩) rfl (Wp.mono h ?_)
    rintro _ m1 ⟨r1, rfl, h⟩
    change Wp _ _ 22 _ [.inl r1] _ _
    refine w_istore_n (q := 23) (l' := [oR 70, oI x1, oI r1, none, none, none, none, none]) hm10 ⟨⟨_, _, rfl⟩, rfl⟩ rfl rfl rfl ?_
    refine w_iload_n (q := 24) hm10 ⟨⟨_, _, rfl⟩, rfl⟩ rfl ?_
    refine w_aload_n (q := 25) hm10 ⟨⟨_, _, rfl⟩, rfl⟩ rfl ?_
    refine w_getf (q := 28) (v := (m1.1 70 4)) hm10 ⟨⟨_, _, rfl⟩, rfl⟩ rfl rfl ?_
    refine w_icmp_lt (q := 31) (X := x1.toInt) (Y := (m1.1 70 4).toInt) hm10 ⟨⟨_, _, rfl⟩, rfl⟩ rfl rfl (fun hc => ?_) (fun hc => ?_)
    · have h := h.1 hc
      refine w_iload_n (q := 44) hm10 ⟨⟨_, _, rfl⟩, rfl⟩ rfl ?_
      refine w_bipush (q := 46) hm10 ⟨⟨_, _, rfl⟩, rfl⟩ bipush_9 ?_
      refine w_icmp_eq (q := 49) (X := r1.toInt) (Y := 9) hm10 ⟨⟨_, _, rfl⟩, rfl⟩ rfl (by decide) (fun hc => ?_) (fun hc => ?_)
      · have h := h.1 hc
        exact Wp.wk [true, true, false, false, false, false, false, false] h
      · have h := h.2 hc
        refine w_iload_n (q := 50) hm10 ⟨⟨_, _, rfl⟩, rfl⟩ rfl ?_
        refine w_bipush (q := 52) hm10 ⟨⟨_, _, rfl⟩, rfl⟩ bipush_10 ?_
        refine w_icmp_eq (q := 55) (X := r1.toInt) (Y := 10) hm10 ⟨⟨_, _, rfl⟩, rfl⟩ rfl (by decide) (fun hc => ?_) (fun hc => ?_)
        · have h := h.1 hc
          exact Wp.wk [true, true, false, false, false, false, false, false] h
        · have h := h.2 hc
          refine w_iload_n (q := 56) hm10 ⟨⟨_, _, rfl⟩, rfl⟩ rfl ?_
          refine w_bipush (q := 58) hm10 ⟨⟨_, _, rfl⟩, rfl⟩ bipush_13 ?_
          refine w_icmp_eq (q := 61) (X := r1.toInt) (Y := 13) hm10 ⟨⟨_, _, rfl⟩, rfl⟩ rfl (by decide) (fun hc => ?_) (fun hc => ?_)
          · have h := h.1 hc
            exact Wp.wk [true, true, false, false, false, false, false, false] h
          · have h := h.2 hc
            refine w_iload_n (q := 62) hm10 ⟨⟨_, _, rfl⟩, rfl⟩ rfl ?_
            refine w_bipush (q := 64) hm10 ⟨⟨_, _, rfl⟩, rfl⟩ bipush_32 ?_
            refine w_icmp_ne (q := 67) (X := r1.toInt) (Y := 32) hm10 ⟨⟨_, _, rfl⟩, rfl⟩ rfl (by decide) (fun hc => ?_) (fun hc => ?_)
            · have h := h.1 hc
              refine w_iload_n (q := 74) hm10 ⟨⟨_, _, rfl⟩, rfl⟩ rfl ?_
              refine w_call (q := 77) (n := 0) (vs := [.inl r1]) (rest := []) (la := [oI r1]) hm10 ⟨⟨_, _, rfl⟩, rfl⟩ rfl rfl rfl rfl hm6 rfl rfl (fun hz => absurd hz (by decide)) rfl (Wp.mono h ?_)
              rintro _ m2 ⟨r2, rfl, h⟩
              change Wp _ _ 77 _ [.inl r2] _ _
              refine w_if_eq (q := 80) (X := r2.toInt) hm10 ⟨⟨_, _, rfl⟩, rfl⟩ rfl (fun hc => ?_) (fun hc => ?_)
              · have h := h.1 hc
                refine w_iload_n (q := 197) hm10 ⟨⟨_, _, rfl⟩, rfl⟩ rfl ?_
                refine w_call (q := 200) (n := 0) (vs := [.inl r1]) (rest := []) (la := [oI r1]) hm10 ⟨⟨_, _, rfl⟩, rfl⟩ rfl rfl rfl rfl hm5 rfl rfl (fun hz => absurd hz (by decide)) rfl (Wp.mono h ?_)
                rintro _ m3 ⟨r3, rfl, h⟩
                change Wp _ _ 200 _ [.inl r3] _ _
                refine w_if_eq (q := 203) (X := r3.toInt) hm10 ⟨⟨_, _, rfl⟩, rfl⟩ rfl (fun hc => ?_) (fun hc => ?_)
                · have h := h.1 hc
                  refine w_iload_n (q := 276) hm10 ⟨⟨_, _, rfl⟩, rfl⟩ rfl ?_
                  refine w_aload_n (q := 277) hm10 ⟨⟨_, _, rfl⟩, rfl⟩ rfl ?_
                  refine w_iload_n (q := 278) hm10 ⟨⟨_, _, rfl⟩, rfl⟩ rfl ?_
                  refine w_iload_n (q := 279) hm10 ⟨⟨_, _, rfl⟩, rfl⟩ rfl ?_
                  refine w_aload_n (q := 280) hm10 ⟨⟨_, _, rfl⟩, rfl⟩ rfl ?_
                  refine w_iload_n (q := 281) hm10 ⟨⟨_, _, rfl⟩, rfl⟩ rfl ?_
                  refine w_iconst (q := 282) hm10 ⟨⟨_, _, rfl⟩, rfl⟩ iconst_1 ?_
                  refine w_iadd (q := 283) hm10 ⟨⟨_, _, rfl⟩, rfl⟩ ?_
                  refine w_call (q := 286) (n := 0) (vs := [.inr (.inr (some 70)), .inl (x1 + (1 : Int32))]) (rest := [.inl r1, .inl x1, .inr (.inr (some 70)), .inl x1]) (la := [oR 70, oI (x1 + (1 : Int32))]) hm10 ⟨⟨_, _, rfl⟩, rfl⟩ rfl rfl rfl rfl hm4 rfl rfl (fun _ => ⟨_, _, rfl, rfl⟩) rfl (Wp.mono h ?_)
                  rintro _ m4 ⟨r4, rfl, h⟩
                  change Wp _ _ 286 _ [.inl r4, .inl r1, .inl x1, .inr (.inr (some 70)), .inl x1] _ _
                  refine w_call (q := 289) (n := 1) (vs := [.inr (.inr (some 70)), .inl x1, .inl r1, .inl r4]) (rest := [.inl x1]) (la := [oR 70, oI x1, oI r1, oI r4, none]) hm10 ⟨⟨_, _, rfl⟩, rfl⟩ rfl rfl rfl rfl hm11 rfl rfl (fun _ => ⟨_, _, rfl, rfl⟩) rfl (Wp.mono h ?_)
                  rintro _ m5 ⟨r5, rfl, h⟩
                  change Wp _ _ 289 _ [.inl r5, .inl x1] _ _
                  refine w_iadd (q := 290) hm10 ⟨⟨_, _, rfl⟩, rfl⟩ ?_
                  refine w_istore_n (q := 291) (l' := [oR 70, oI (x1 + r5), oI r1, none, none, none, none, none]) hm10 ⟨⟨_, _, rfl⟩, rfl⟩ rfl rfl rfl ?_
                  exact Wp.wk [true, true, false, false, false, false, false, false] h
                · have h := h.2 hc
                  refine w_iconst (q := 204) hm10 ⟨⟨_, _, rfl⟩, rfl⟩ iconst_0 ?_
                  refine w_istore_n (q := 205) (l' := [oR 70, oI x1, oI r1, oI (0 : Int32), none, none, none, none]) hm10 ⟨⟨_, _, rfl⟩, rfl⟩ rfl rfl rfl ?_
                  refine w_iconst (q := 206) hm10 ⟨⟨_, _, rfl⟩, rfl⟩ iconst_0 ?_
                  refine w_istore (q := 208) (l' := [oR 70, oI x1, oI r1, oI (0 : Int32), oI (0 : Int32), none, none, none]) hm10 ⟨⟨_, _, rfl⟩, rfl⟩ rfl rfl rfl ?_
                  exact Wp.wk [true, true, false, true, true, false, false, false] h
              · have h := h.2 hc
                refine w_iconst (q := 81) hm10 ⟨⟨_, _, rfl⟩, rfl⟩ iconst_0 ?_
                refine w_istore_n (q := 82) (l' := [oR 70, oI x1, oI r1, oI (0 : Int32), none, none, none, none]) hm10 ⟨⟨_, _, rfl⟩, rfl⟩ rfl rfl rfl ?_
                refine w_lconst (q := 83) hm10 ⟨⟨_, _, rfl⟩, rfl⟩ lconst_0 ?_
                refine w_lstore (q := 85) (l' := [oR 70, oI x1, oI r1, oI (0 : Int32), oL (0 : Int64), none, none, none]) hm10 ⟨⟨_, _, rfl⟩, rfl⟩ rfl rfl rfl ?_
                exact Wp.wk [true, true, false, true, true, false, false, false] h
            · have h := h.2 hc
              exact Wp.wk [true, true, false, false, false, false, false, false] h
    · have h := h.2 hc
      refine w_aload_n (q := 32) hm10 ⟨⟨_, _, rfl⟩, rfl⟩ rfl ?_
      refine w_iconst (q := 33) hm10 ⟨⟨_, _, rfl⟩, rfl⟩ iconst_0 ?_
      refine w_aload_n (q := 34) hm10 ⟨⟨_, _, rfl⟩, rfl⟩ rfl ?_
      refine w_getf (q := 37) (v := (m1.1 70 4)) hm10 ⟨⟨_, _, rfl⟩, rfl⟩ rfl rfl ?_
      refine w_iconst (q := 38) hm10 ⟨⟨_, _, rfl⟩, rfl⟩ iconst_0 ?_
      refine w_lconst (q := 39) hm10 ⟨⟨_, _, rfl⟩, rfl⟩ lconst_0 ?_
      refine w_call (q := 42) (n := 0) (vs := [.inr (.inr (some 70)), .inl (0 : Int32), .inl (m1.1 70 4), .inl (0 : Int32), .inr (.inl (0 : Int64))]) (rest := []) (la := [oR 70, oI (0 : Int32), oI (m1.1 70 4), oI (0 : Int32), oL (0 : Int64), none]) hm10 ⟨⟨_, _, rfl⟩, rfl⟩ rfl rfl rfl rfl hm9 rfl rfl (fun _ => ⟨_, _, rfl, rfl⟩) rfl (Wp.mono h ?_)
      rintro _ m6 ⟨rfl, h⟩
      change Wp _ _ 42 _ [] _ _
      exact w_retv hm10 ⟨⟨_, _, rfl⟩, rfl⟩ rfl h
theorem v_X12_cutsUp_70_67 {d : Nat} {x1 : Int32} {m : dM} {Q : dM → Prop} (h : j_X12_cutsUp_70_291 (d + 1) (x1 + (1 : Int32)) m Q) : j_X12_cutsUp_70_67 (d + 1) x1 m Q := by
  refine w_iinc (q := 70) (l' := [oR 70, oI (x1 + (1 : Int32)), none, none, none, none, none, none]) hm10 ⟨⟨_, _, rfl⟩, rfl⟩ rfl rfl rfl iconst_1 rfl ?_
  refine w_goto (q := 291) hm10 ⟨_, _, rfl⟩ ?_
  exact h
theorem v_X12_cutsUp_70_85 {d : Nat} {x1 : Int32} {x3 : Int32} {y4 : Int64} {m : dM} {Q : dM → Prop} (h : c_X12_byteAt_70 d (x1 + x3) m (fun r1 m1 => c_X12_isLetter d r1 m1 (fun r2 m2 => ((r2.toInt = 0 → ((x3.toInt ≤ 8 → ((8 < x3.toInt → j_X12_cutsUp_70_179 (d + 1) x1 x3 y4 (1 : Int32) m2 Q) ∧ (x3.toInt ≤ 8 → j_X12_cutsUp_70_146 (d + 1) x1 x3 y4 (1 : Int32) (0 : Int32) m2 Q))) ∧ (8 < x3.toInt → ((8 < x3.toInt → j_X12_cutsUp_70_179 (d + 1) x1 x3 y4 (3 : Int32) m2 Q) ∧ (x3.toInt ≤ 8 → j_X12_cutsUp_70_146 (d + 1) x1 x3 y4 (3 : Int32) (0 : Int32) m2 Q))))) ∧ (r2.toInt ≠ 0 → ((8 ≤ x3.toInt → j_X12_cutsUp_70_118 (d + 1) x1 x3 y4 m2 Q) ∧ (x3.toInt < 8 → c_X12_byteAt_70 d (x1 + x3) m2 (fun r3 m3 => c_X12_appends d y4 r3 m3 (fun r4 m4 => j_X12_cutsUp_70_118 (d + 1) x1 x3 r4 m4 Q))))))))) : j_X12_cutsUp_70_85 (d + 1) x1 x3 y4 m Q := by
  refine w_aload_n (q := 86) hm10 ⟨⟨_, _, rfl⟩, rfl⟩ rfl ?_
  refine w_iload_n (q := 87) hm10 ⟨⟨_, _, rfl⟩, rfl⟩ rfl ?_
  refine w_iload_n (q := 88) hm10 ⟨⟨_, _, rfl⟩, rfl⟩ rfl ?_
  refine w_iadd (q := 89) hm10 ⟨⟨_, _, rfl⟩, rfl⟩ ?_
  refine w_call (q := 92) (n := 0) (vs := [.inr (.inr (some 70)), .inl (x1 + x3)]) (rest := []) (la := [oR 70, oI (x1 + x3)]) hm10 ⟨⟨_, _, rfl⟩, rfl⟩ rfl rfl rfl rfl hm4 rfl rfl (fun _ => ⟨_, _, rfl, rfl⟩) rfl (Wp.mono h ?_)
  rintro _ m1 ⟨r1, rfl, h⟩
  change Wp _ _ 92 _ [.inl r1] _ _
  refine w_call (q := 95) (n := 0) (vs := [.inl r1]) (rest := []) (la := [oI r1]) hm10 ⟨⟨_, _, rfl⟩, rfl⟩ rfl rfl rfl rfl hm6 rfl rfl (fun hz => absurd hz (by decide)) rfl (Wp.mono h ?_)
  rintro _ m2 ⟨r2, rfl, h⟩
  change Wp _ _ 95 _ [.inl r2] _ _
  refine w_if_eq (q := 98) (X := r2.toInt) hm10 ⟨⟨_, _, rfl⟩, rfl⟩ rfl (fun hc => ?_) (fun hc => ?_)
  · have h := h.1 hc
    refine w_iload_n (q := 125) hm10 ⟨⟨_, _, rfl⟩, rfl⟩ rfl ?_
    refine w_bipush (q := 127) hm10 ⟨⟨_, _, rfl⟩, rfl⟩ bipush_8 ?_
    refine w_icmp_le (q := 130) (X := x3.toInt) (Y := 8) hm10 ⟨⟨_, _, rfl⟩, rfl⟩ rfl (by decide) (fun hc => ?_) (fun hc => ?_)
    · have h := h.1 hc
      refine w_iconst (q := 135) hm10 ⟨⟨_, _, rfl⟩, rfl⟩ iconst_1 ?_
      refine w_istore (q := 137) (l' := [oR 70, oI x1, none, oI x3, oL y4, none, oI (1 : Int32), none]) hm10 ⟨⟨_, _, rfl⟩, rfl⟩ rfl rfl rfl ?_
      refine w_iload_n (q := 138) hm10 ⟨⟨_, _, rfl⟩, rfl⟩ rfl ?_
      refine w_bipush (q := 140) hm10 ⟨⟨_, _, rfl⟩, rfl⟩ bipush_8 ?_
      refine w_icmp_gt (q := 143) (X := x3.toInt) (Y := 8) hm10 ⟨⟨_, _, rfl⟩, rfl⟩ rfl (by decide) (fun hc => ?_) (fun hc => ?_)
      · have h := h.1 hc
        exact h
      · have h := h.2 hc
        refine w_iconst (q := 144) hm10 ⟨⟨_, _, rfl⟩, rfl⟩ iconst_0 ?_
        refine w_istore (q := 146) (l' := [oR 70, oI x1, none, oI x3, oL y4, none, oI (1 : Int32), oI (0 : Int32)]) hm10 ⟨⟨_, _, rfl⟩, rfl⟩ rfl rfl rfl ?_
        exact h
    · have h := h.2 hc
      refine w_iconst (q := 131) hm10 ⟨⟨_, _, rfl⟩, rfl⟩ iconst_3 ?_
      refine w_goto (q := 135) hm10 ⟨_, _, rfl⟩ ?_
      refine w_istore (q := 137) (l' := [oR 70, oI x1, none, oI x3, oL y4, none, oI (3 : Int32), none]) hm10 ⟨⟨_, _, rfl⟩, rfl⟩ rfl rfl rfl ?_
      refine w_iload_n (q := 138) hm10 ⟨⟨_, _, rfl⟩, rfl⟩ rfl ?_
      refine w_bipush (q := 140) hm10 ⟨⟨_, _, rfl⟩, rfl⟩ bipush_8 ?_
      refine w_icmp_gt (q := 143) (X := x3.toInt) (Y := 8) hm10 ⟨⟨_, _, rfl⟩, rfl⟩ rfl (by decide) (fun hc => ?_) (fun hc => ?_)
      · have h := h.1 hc
        exact h
      · have h := h.2 hc
        refine w_iconst (q := 144) hm10 ⟨⟨_, _, rfl⟩, rfl⟩ iconst_0 ?_
        refine w_istore (q := 146) (l' := [oR 70, oI x1, none, oI x3, oL y4, none, oI (3 : Int32), oI (0 : Int32)]) hm10 ⟨⟨_, _, rfl⟩, rfl⟩ rfl rfl rfl ?_
        exact h
  · have h := h.2 hc
    refine w_iload_n (q := 99) hm10 ⟨⟨_, _, rfl⟩, rfl⟩ rfl ?_
    refine w_bipush (q := 101) hm10 ⟨⟨_, _, rfl⟩, rfl⟩ bipush_8 ?_
    refine w_icmp_ge (q := 104) (X := x3.toInt) (Y := 8) hm10 ⟨⟨_, _, rfl⟩, rfl⟩ rfl (by decide) (fun hc => ?_) (fun hc => ?_)
    · have h := h.1 hc
      exact h
    · have h := h.2 hc
      refine w_lload (q := 106) hm10 ⟨⟨_, _, rfl⟩, rfl⟩ rfl ?_
      refine w_aload_n (q := 107) hm10 ⟨⟨_, _, rfl⟩, rfl⟩ rfl ?_
      refine w_iload_n (q := 108) hm10 ⟨⟨_, _, rfl⟩, rfl⟩ rfl ?_
      refine w_iload_n (q := 109) hm10 ⟨⟨_, _, rfl⟩, rfl⟩ rfl ?_
      refine w_iadd (q := 110) hm10 ⟨⟨_, _, rfl⟩, rfl⟩ ?_
      refine w_call (q := 113) (n := 0) (vs := [.inr (.inr (some 70)), .inl (x1 + x3)]) (rest := [.inr (.inl y4)]) (la := [oR 70, oI (x1 + x3)]) hm10 ⟨⟨_, _, rfl⟩, rfl⟩ rfl rfl rfl rfl hm4 rfl rfl (fun _ => ⟨_, _, rfl, rfl⟩) rfl (Wp.mono h ?_)
      rintro _ m3 ⟨r3, rfl, h⟩
      change Wp _ _ 113 _ [.inl r3, .inr (.inl y4)] _ _
      refine w_call (q := 116) (n := 0) (vs := [.inr (.inl y4), .inl r3]) (rest := []) (la := [oL y4, none, oI r3]) hm10 ⟨⟨_, _, rfl⟩, rfl⟩ rfl rfl rfl rfl hm7 rfl rfl (fun hz => absurd hz (by decide)) rfl (Wp.mono h ?_)
      rintro _ m4 ⟨r4, rfl, h⟩
      change Wp _ _ 116 _ [.inr (.inl r4)] _ _
      refine w_lstore (q := 118) (l' := [oR 70, oI x1, none, oI x3, oL r4, none, none, none]) hm10 ⟨⟨_, _, rfl⟩, rfl⟩ rfl rfl rfl ?_
      exact h
theorem v_X12_cutsUp_70_118 {d : Nat} {x1 : Int32} {x3 : Int32} {y4 : Int64} {m : dM} {Q : dM → Prop} (h : j_X12_cutsUp_70_85 (d + 1) x1 (x3 + (1 : Int32)) y4 m Q) : j_X12_cutsUp_70_118 (d + 1) x1 x3 y4 m Q := by
  refine w_iinc (q := 121) (l' := [oR 70, oI x1, none, oI (x3 + (1 : Int32)), oL y4, none, none, none]) hm10 ⟨⟨_, _, rfl⟩, rfl⟩ rfl rfl rfl iconst_1 rfl ?_
  refine w_goto (q := 85) hm10 ⟨_, _, rfl⟩ ?_
  exact h
theorem v_X12_cutsUp_70_146 {d : Nat} {x1 : Int32} {x3 : Int32} {y4 : Int64} {x6 : Int32} {x7 : Int32} {m : dM} {Q : dM → Prop} (h : ((22 ≤ x7.toInt → j_X12_cutsUp_70_179 (d + 1) x1 x3 y4 x6 m Q) ∧ (x7.toInt < 22 → ((0 ≤ x7.toInt ∧ x7.toInt < 22) ∧ (((lg_cmp (tKv x7.toNatClampNeg) y4).toInt ≠ 0 → j_X12_cutsUp_70_173 (d + 1) x1 x3 y4 x6 x7 m Q) ∧ ((lg_cmp (tKv x7.toNatClampNeg) y4).toInt = 0 → j_X12_cutsUp_70_173 (d + 1) x1 x3 y4 ((20 : Int32) + x7) x7 m Q)))))) : j_X12_cutsUp_70_146 (d + 1) x1 x3 y4 x6 x7 m Q := by
  refine w_iload (q := 148) hm10 ⟨⟨_, _, rfl⟩, rfl⟩ rfl ?_
  refine w_bipush (q := 150) hm10 ⟨⟨_, _, rfl⟩, rfl⟩ bipush_22 ?_
  refine w_icmp_ge (q := 153) (X := x7.toInt) (Y := 22) hm10 ⟨⟨_, _, rfl⟩, rfl⟩ rfl (by decide) (fun hc => ?_) (fun hc => ?_)
  · have h := h.1 hc
    exact Wp.wk [true, true, false, true, true, false, true, false] h
  · have h := h.2 hc
    refine w_aload_n (q := 154) hm10 ⟨⟨_, _, rfl⟩, rfl⟩ rfl ?_
    refine w_getr (q := 157) hm10 ⟨⟨_, _, rfl⟩, rfl⟩ rfl ?_
    refine w_iload (q := 159) hm10 ⟨⟨_, _, rfl⟩, rfl⟩ rfl ?_
    obtain ⟨hi, h⟩ := h
    refine w_lald (q := 160) (v := (tKv x7.toNatClampNeg)) hm10 ⟨⟨_, _, rfl⟩, rfl⟩ rfl hi rfl rfl ?_
    refine w_lload (q := 162) hm10 ⟨⟨_, _, rfl⟩, rfl⟩ rfl ?_
    refine w_lcmp (q := 163) hm10 ⟨⟨_, _, rfl⟩, rfl⟩ ?_
    refine w_if_ne (q := 166) (X := (lg_cmp (tKv x7.toNatClampNeg) y4).toInt) hm10 ⟨⟨_, _, rfl⟩, rfl⟩ rfl (fun hc => ?_) (fun hc => ?_)
    · have h := h.1 hc
      exact h
    · have h := h.2 hc
      refine w_bipush (q := 168) hm10 ⟨⟨_, _, rfl⟩, rfl⟩ bipush_20 ?_
      refine w_iload (q := 170) hm10 ⟨⟨_, _, rfl⟩, rfl⟩ rfl ?_
      refine w_iadd (q := 171) hm10 ⟨⟨_, _, rfl⟩, rfl⟩ ?_
      refine w_istore (q := 173) (l' := [oR 70, oI x1, none, oI x3, oL y4, none, oI ((20 : Int32) + x7), oI x7]) hm10 ⟨⟨_, _, rfl⟩, rfl⟩ rfl rfl rfl ?_
      exact h
theorem v_X12_cutsUp_70_173 {d : Nat} {x1 : Int32} {x3 : Int32} {y4 : Int64} {x6 : Int32} {x7 : Int32} {m : dM} {Q : dM → Prop} (h : j_X12_cutsUp_70_146 (d + 1) x1 x3 y4 x6 (x7 + (1 : Int32)) m Q) : j_X12_cutsUp_70_173 (d + 1) x1 x3 y4 x6 x7 m Q := by
  refine w_iinc (q := 176) (l' := [oR 70, oI x1, none, oI x3, oL y4, none, oI x6, oI (x7 + (1 : Int32))]) hm10 ⟨⟨_, _, rfl⟩, rfl⟩ rfl rfl rfl iconst_1 rfl ?_
  refine w_goto (q := 146) hm10 ⟨_, _, rfl⟩ ?_
  exact h
theorem v_X12_cutsUp_70_179 {d : Nat} {x1 : Int32} {x3 : Int32} {y4 : Int64} {x6 : Int32} {m : dM} {Q : dM → Prop} (h : c_X12_token_70 d x6 x1 (0 : Int32) y4 m (fun m1 => j_X12_cutsUp_70_291 (d + 1) (x1 + x3) m1 Q)) : j_X12_cutsUp_70_179 (d + 1) x1 x3 y4 x6 m Q := by
  refine w_aload_n (q := 180) hm10 ⟨⟨_, _, rfl⟩, rfl⟩ rfl ?_
  refine w_iload (q := 182) hm10 ⟨⟨_, _, rfl⟩, rfl⟩ rfl ?_
  refine w_iload_n (q := 183) hm10 ⟨⟨_, _, rfl⟩, rfl⟩ rfl ?_
  refine w_iconst (q := 184) hm10 ⟨⟨_, _, rfl⟩, rfl⟩ iconst_0 ?_
  refine w_lload (q := 186) hm10 ⟨⟨_, _, rfl⟩, rfl⟩ rfl ?_
  refine w_call (q := 189) (n := 0) (vs := [.inr (.inr (some 70)), .inl x6, .inl x1, .inl (0 : Int32), .inr (.inl y4)]) (rest := []) (la := [oR 70, oI x6, oI x1, oI (0 : Int32), oL y4, none]) hm10 ⟨⟨_, _, rfl⟩, rfl⟩ rfl rfl rfl rfl hm9 rfl rfl (fun _ => ⟨_, _, rfl, rfl⟩) rfl (Wp.mono h ?_)
  rintro _ m1 ⟨rfl, h⟩
  change Wp _ _ 189 _ [] _ _
  refine w_iload_n (q := 190) hm10 ⟨⟨_, _, rfl⟩, rfl⟩ rfl ?_
  refine w_iload_n (q := 191) hm10 ⟨⟨_, _, rfl⟩, rfl⟩ rfl ?_
  refine w_iadd (q := 192) hm10 ⟨⟨_, _, rfl⟩, rfl⟩ ?_
  refine w_istore_n (q := 193) (l' := [oR 70, oI (x1 + x3), none, oI x3, oL y4, none, oI x6, none]) hm10 ⟨⟨_, _, rfl⟩, rfl⟩ rfl rfl rfl ?_
  refine w_goto (q := 291) hm10 ⟨_, _, rfl⟩ ?_
  exact Wp.wk [true, true, false, false, false, false, false, false] h
theorem v_X12_cutsUp_70_208 {d : Nat} {x1 : Int32} {x3 : Int32} {x4 : Int32} {m : dM} {Q : dM → Prop} (h : c_X12_byteAt_70 d (x1 + x3) m (fun r1 m1 => c_X12_isDigit d r1 m1 (fun r2 m2 => ((r2.toInt = 0 → ((x3.toInt ≤ 4 → c_X12_token_70 d (2 : Int32) x1 x4 (0 : Int64) m2 (fun m3 => j_X12_cutsUp_70_291 (d + 1) (x1 + x3) m3 Q)) ∧ (4 < x3.toInt → c_X12_token_70 d (3 : Int32) x1 x4 (0 : Int64) m2 (fun m4 => j_X12_cutsUp_70_291 (d + 1) (x1 + x3) m4 Q)))) ∧ (r2.toInt ≠ 0 → ((4 ≤ x3.toInt → j_X12_cutsUp_70_244 (d + 1) x1 x3 x4 m2 Q) ∧ (x3.toInt < 4 → c_X12_byteAt_70 d (x1 + x3) m2 (fun r5 m5 => j_X12_cutsUp_70_244 (d + 1) x1 x3 ((((10 : Int32) * x4) + r5) - (48 : Int32)) m5 Q)))))))) : j_X12_cutsUp_70_208 (d + 1) x1 x3 x4 m Q := by
  refine w_aload_n (q := 209) hm10 ⟨⟨_, _, rfl⟩, rfl⟩ rfl ?_
  refine w_iload_n (q := 210) hm10 ⟨⟨_, _, rfl⟩, rfl⟩ rfl ?_
  refine w_iload_n (q := 211) hm10 ⟨⟨_, _, rfl⟩, rfl⟩ rfl ?_
  refine w_iadd (q := 212) hm10 ⟨⟨_, _, rfl⟩, rfl⟩ ?_
  refine w_call (q := 215) (n := 0) (vs := [.inr (.inr (some 70)), .inl (x1 + x3)]) (rest := []) (la := [oR 70, oI (x1 + x3)]) hm10 ⟨⟨_, _, rfl⟩, rfl⟩ rfl rfl rfl rfl hm4 rfl rfl (fun _ => ⟨_, _, rfl, rfl⟩) rfl (Wp.mono h ?_)
  rintro _ m1 ⟨r1, rfl, h⟩
  change Wp _ _ 215 _ [.inl r1] _ _
  refine w_call (q := 218) (n := 0) (vs := [.inl r1]) (rest := []) (la := [oI r1]) hm10 ⟨⟨_, _, rfl⟩, rfl⟩ rfl rfl rfl rfl hm5 rfl rfl (fun hz => absurd hz (by decide)) rfl (Wp.mono h ?_)
  rintro _ m2 ⟨r2, rfl, h⟩
  change Wp _ _ 218 _ [.inl r2] _ _
  refine w_if_eq (q := 221) (X := r2.toInt) hm10 ⟨⟨_, _, rfl⟩, rfl⟩ rfl (fun hc => ?_) (fun hc => ?_)
  · have h := h.1 hc
    refine w_aload_n (q := 251) hm10 ⟨⟨_, _, rfl⟩, rfl⟩ rfl ?_
    refine w_iload_n (q := 252) hm10 ⟨⟨_, _, rfl⟩, rfl⟩ rfl ?_
    refine w_iconst (q := 253) hm10 ⟨⟨_, _, rfl⟩, rfl⟩ iconst_4 ?_
    refine w_icmp_le (q := 256) (X := x3.toInt) (Y := 4) hm10 ⟨⟨_, _, rfl⟩, rfl⟩ rfl (by decide) (fun hc => ?_) (fun hc => ?_)
    · have h := h.1 hc
      refine w_iconst (q := 261) hm10 ⟨⟨_, _, rfl⟩, rfl⟩ iconst_2 ?_
      refine w_iload_n (q := 262) hm10 ⟨⟨_, _, rfl⟩, rfl⟩ rfl ?_
      refine w_iload (q := 264) hm10 ⟨⟨_, _, rfl⟩, rfl⟩ rfl ?_
      refine w_lconst (q := 265) hm10 ⟨⟨_, _, rfl⟩, rfl⟩ lconst_0 ?_
      refine w_call (q := 268) (n := 0) (vs := [.inr (.inr (some 70)), .inl (2 : Int32), .inl x1, .inl x4, .inr (.inl (0 : Int64))]) (rest := []) (la := [oR 70, oI (2 : Int32), oI x1, oI x4, oL (0 : Int64), none]) hm10 ⟨⟨_, _, rfl⟩, rfl⟩ rfl rfl rfl rfl hm9 rfl rfl (fun _ => ⟨_, _, rfl, rfl⟩) rfl (Wp.mono h ?_)
      rintro _ m3 ⟨rfl, h⟩
      change Wp _ _ 268 _ [] _ _
      refine w_iload_n (q := 269) hm10 ⟨⟨_, _, rfl⟩, rfl⟩ rfl ?_
      refine w_iload_n (q := 270) hm10 ⟨⟨_, _, rfl⟩, rfl⟩ rfl ?_
      refine w_iadd (q := 271) hm10 ⟨⟨_, _, rfl⟩, rfl⟩ ?_
      refine w_istore_n (q := 272) (l' := [oR 70, oI (x1 + x3), none, oI x3, oI x4, none, none, none]) hm10 ⟨⟨_, _, rfl⟩, rfl⟩ rfl rfl rfl ?_
      refine w_goto (q := 291) hm10 ⟨_, _, rfl⟩ ?_
      exact Wp.wk [true, true, false, false, false, false, false, false] h
    · have h := h.2 hc
      refine w_iconst (q := 257) hm10 ⟨⟨_, _, rfl⟩, rfl⟩ iconst_3 ?_
      refine w_goto (q := 261) hm10 ⟨_, _, rfl⟩ ?_
      refine w_iload_n (q := 262) hm10 ⟨⟨_, _, rfl⟩, rfl⟩ rfl ?_
      refine w_iload (q := 264) hm10 ⟨⟨_, _, rfl⟩, rfl⟩ rfl ?_
      refine w_lconst (q := 265) hm10 ⟨⟨_, _, rfl⟩, rfl⟩ lconst_0 ?_
      refine w_call (q := 268) (n := 0) (vs := [.inr (.inr (some 70)), .inl (3 : Int32), .inl x1, .inl x4, .inr (.inl (0 : Int64))]) (rest := []) (la := [oR 70, oI (3 : Int32), oI x1, oI x4, oL (0 : Int64), none]) hm10 ⟨⟨_, _, rfl⟩, rfl⟩ rfl rfl rfl rfl hm9 rfl rfl (fun _ => ⟨_, _, rfl, rfl⟩) rfl (Wp.mono h ?_)
      rintro _ m4 ⟨rfl, h⟩
      change Wp _ _ 268 _ [] _ _
      refine w_iload_n (q := 269) hm10 ⟨⟨_, _, rfl⟩, rfl⟩ rfl ?_
      refine w_iload_n (q := 270) hm10 ⟨⟨_, _, rfl⟩, rfl⟩ rfl ?_
      refine w_iadd (q := 271) hm10 ⟨⟨_, _, rfl⟩, rfl⟩ ?_
      refine w_istore_n (q := 272) (l' := [oR 70, oI (x1 + x3), none, oI x3, oI x4, none, none, none]) hm10 ⟨⟨_, _, rfl⟩, rfl⟩ rfl rfl rfl ?_
      refine w_goto (q := 291) hm10 ⟨_, _, rfl⟩ ?_
      exact Wp.wk [true, true, false, false, false, false, false, false] h
  · have h := h.2 hc
    refine w_iload_n (q := 222) hm10 ⟨⟨_, _, rfl⟩, rfl⟩ rfl ?_
    refine w_iconst (q := 223) hm10 ⟨⟨_, _, rfl⟩, rfl⟩ iconst_4 ?_
    refine w_icmp_ge (q := 226) (X := x3.toInt) (Y := 4) hm10 ⟨⟨_, _, rfl⟩, rfl⟩ rfl (by decide) (fun hc => ?_) (fun hc => ?_)
    · have h := h.1 hc
      exact h
    · have h := h.2 hc
      refine w_bipush (q := 228) hm10 ⟨⟨_, _, rfl⟩, rfl⟩ bipush_10 ?_
      refine w_iload (q := 230) hm10 ⟨⟨_, _, rfl⟩, rfl⟩ rfl ?_
      refine w_imul (q := 231) hm10 ⟨⟨_, _, rfl⟩, rfl⟩ ?_
      refine w_aload_n (q := 232) hm10 ⟨⟨_, _, rfl⟩, rfl⟩ rfl ?_
      refine w_iload_n (q := 233) hm10 ⟨⟨_, _, rfl⟩, rfl⟩ rfl ?_
      refine w_iload_n (q := 234) hm10 ⟨⟨_, _, rfl⟩, rfl⟩ rfl ?_
      refine w_iadd (q := 235) hm10 ⟨⟨_, _, rfl⟩, rfl⟩ ?_
      refine w_call (q := 238) (n := 0) (vs := [.inr (.inr (some 70)), .inl (x1 + x3)]) (rest := [.inl ((10 : Int32) * x4)]) (la := [oR 70, oI (x1 + x3)]) hm10 ⟨⟨_, _, rfl⟩, rfl⟩ rfl rfl rfl rfl hm4 rfl rfl (fun _ => ⟨_, _, rfl, rfl⟩) rfl (Wp.mono h ?_)
      rintro _ m5 ⟨r5, rfl, h⟩
      change Wp _ _ 238 _ [.inl r5, .inl ((10 : Int32) * x4)] _ _
      refine w_iadd (q := 239) hm10 ⟨⟨_, _, rfl⟩, rfl⟩ ?_
      refine w_bipush (q := 241) hm10 ⟨⟨_, _, rfl⟩, rfl⟩ bipush_48 ?_
      refine w_isub (q := 242) hm10 ⟨⟨_, _, rfl⟩, rfl⟩ ?_
      refine w_istore (q := 244) (l' := [oR 70, oI x1, none, oI x3, oI ((((10 : Int32) * x4) + r5) - (48 : Int32)), none, none, none]) hm10 ⟨⟨_, _, rfl⟩, rfl⟩ rfl rfl rfl ?_
      exact h
theorem v_X12_cutsUp_70_244 {d : Nat} {x1 : Int32} {x3 : Int32} {x4 : Int32} {m : dM} {Q : dM → Prop} (h : j_X12_cutsUp_70_208 (d + 1) x1 (x3 + (1 : Int32)) x4 m Q) : j_X12_cutsUp_70_244 (d + 1) x1 x3 x4 m Q := by
  refine w_iinc (q := 247) (l' := [oR 70, oI x1, none, oI (x3 + (1 : Int32)), oI x4, none, none, none]) hm10 ⟨⟨_, _, rfl⟩, rfl⟩ rfl rfl rfl iconst_1 rfl ?_
  refine w_goto (q := 208) hm10 ⟨_, _, rfl⟩ ?_
  exact h
theorem v_X12_cutsUp_70_291 {d : Nat} {x1 : Int32} {m : dM} {Q : dM → Prop} (h : j_X12_cutsUp_70_7 (d + 1) x1 m Q) : j_X12_cutsUp_70_291 (d + 1) x1 m Q := by
  refine w_goto (q := 7) hm10 ⟨_, _, rfl⟩ ?_
  exact h
theorem v_X12_plain_70 {d : Nat} {x1 : Int32} {m : dM} {Q : dM → Prop} (h : ((0 ≤ x1.toInt ∧ x1.toInt < 2) ∧ ((0 ≤ x1.toInt ∧ x1.toInt < 2) ∧ ((0 ≤ x1.toInt ∧ x1.toInt < 2) ∧ ((0 ≤ x1.toInt ∧ x1.toInt < 2) ∧ ((0 ≤ x1.toInt ∧ x1.toInt < 2) ∧ ((0 ≤ x1.toInt ∧ x1.toInt < 2) ∧ ((0 ≤ x1.toInt ∧ x1.toInt < 2) ∧ j_X12_plain_70_52 (d + 1) x1 (0 : Int32) (dSet (dSet (dSet (dSet (dSet (dSet (dSet m 80 x1.toNatClampNeg (0 : Int32)) 82 x1.toNatClampNeg (0 : Int32)) 86 x1.toNatClampNeg (0 : Int32)) 91 x1.toNatClampNeg (0 : Int32)) 92 x1.toNatClampNeg (0 : Int32)) 93 x1.toNatClampNeg (100 : Int32)) 94 x1.toNatClampNeg (0 : Int32)) Q)))))))) : c_X12_plain_70 (d + 1) x1 m Q := by
  refine w_aload_n (q := 1) hm17 ⟨⟨_, _, rfl⟩, rfl⟩ rfl ?_
  refine w_getr (q := 4) hm17 ⟨⟨_, _, rfl⟩, rfl⟩ rfl ?_
  refine w_iload_n (q := 5) hm17 ⟨⟨_, _, rfl⟩, rfl⟩ rfl ?_
  refine w_iconst (q := 6) hm17 ⟨⟨_, _, rfl⟩, rfl⟩ iconst_0 ?_
  obtain ⟨hi, h⟩ := h
  refine w_iast (q := 7) hm17 ⟨⟨_, _, rfl⟩, rfl⟩ rfl hi rfl rfl ?_
  refine w_aload_n (q := 8) hm17 ⟨⟨_, _, rfl⟩, rfl⟩ rfl ?_
  refine w_getr (q := 11) hm17 ⟨⟨_, _, rfl⟩, rfl⟩ rfl ?_
  refine w_iload_n (q := 12) hm17 ⟨⟨_, _, rfl⟩, rfl⟩ rfl ?_
  refine w_iconst (q := 13) hm17 ⟨⟨_, _, rfl⟩, rfl⟩ iconst_0 ?_
  obtain ⟨hi, h⟩ := h
  refine w_iast (q := 14) hm17 ⟨⟨_, _, rfl⟩, rfl⟩ rfl hi rfl rfl ?_
  refine w_aload_n (q := 15) hm17 ⟨⟨_, _, rfl⟩, rfl⟩ rfl ?_
  refine w_getr (q := 18) hm17 ⟨⟨_, _, rfl⟩, rfl⟩ rfl ?_
  refine w_iload_n (q := 19) hm17 ⟨⟨_, _, rfl⟩, rfl⟩ rfl ?_
  refine w_iconst (q := 20) hm17 ⟨⟨_, _, rfl⟩, rfl⟩ iconst_0 ?_
  obtain ⟨hi, h⟩ := h
  refine w_iast (q := 21) hm17 ⟨⟨_, _, rfl⟩, rfl⟩ rfl hi rfl rfl ?_
  refine w_aload_n (q := 22) hm17 ⟨⟨_, _, rfl⟩, rfl⟩ rfl ?_
  refine w_getr (q := 25) hm17 ⟨⟨_, _, rfl⟩, rfl⟩ rfl ?_
  refine w_iload_n (q := 26) hm17 ⟨⟨_, _, rfl⟩, rfl⟩ rfl ?_
  refine w_iconst (q := 27) hm17 ⟨⟨_, _, rfl⟩, rfl⟩ iconst_0 ?_
  obtain ⟨hi, h⟩ := h
  refine w_iast (q := 28) hm17 ⟨⟨_, _, rfl⟩, rfl⟩ rfl hi rfl rfl ?_
  refine w_aload_n (q := 29) hm17 ⟨⟨_, _, rfl⟩, rfl⟩ rfl ?_
  refine w_getr (q := 32) hm17 ⟨⟨_, _, rfl⟩, rfl⟩ rfl ?_
  refine w_iload_n (q := 33) hm17 ⟨⟨_, _, rfl⟩, rfl⟩ rfl ?_
  refine w_iconst (q := 34) hm17 ⟨⟨_, _, rfl⟩, rfl⟩ iconst_0 ?_
  obtain ⟨hi, h⟩ := h
  refine w_iast (q := 35) hm17 ⟨⟨_, _, rfl⟩, rfl⟩ rfl hi rfl rfl ?_
  refine w_aload_n (q := 36) hm17 ⟨⟨_, _, rfl⟩, rfl⟩ rfl ?_
  refine w_getr (q := 39) hm17 ⟨⟨_, _, rfl⟩, rfl⟩ rfl ?_
  refine w_iload_n (q := 40) hm17 ⟨⟨_, _, rfl⟩, rfl⟩ rfl ?_
  refine w_bipush (q := 42) hm17 ⟨⟨_, _, rfl⟩, rfl⟩ bipush_100 ?_
  obtain ⟨hi, h⟩ := h
  refine w_iast (q := 43) hm17 ⟨⟨_, _, rfl⟩, rfl⟩ rfl hi rfl rfl ?_
  refine w_aload_n (q := 44) hm17 ⟨⟨_, _, rfl⟩, rfl⟩ rfl ?_
  refine w_getr (q := 47) hm17 ⟨⟨_, _, rfl⟩, rfl⟩ rfl ?_
  refine w_iload_n (q := 48) hm17 ⟨⟨_, _, rfl⟩, rfl⟩ rfl ?_
  refine w_iconst (q := 49) hm17 ⟨⟨_, _, rfl⟩, rfl⟩ iconst_0 ?_
  obtain ⟨hi, h⟩ := h
  refine w_iast (q := 50) hm17 ⟨⟨_, _, rfl⟩, rfl⟩ rfl hi rfl rfl ?_
  refine w_iconst (q := 51) hm17 ⟨⟨_, _, rfl⟩, rfl⟩ iconst_0 ?_
  refine w_istore_n (q := 52) (l' := [oR 70, oI x1, oI (0 : Int32)]) hm17 ⟨⟨_, _, rfl⟩, rfl⟩ rfl rfl rfl ?_
  exact h
theorem v_X12_plain_70_52 {d : Nat} {x1 : Int32} {x2 : Int32} {m : dM} {Q : dM → Prop} (h : ((4 ≤ x2.toInt → Q m) ∧ (x2.toInt < 4 → ((0 ≤ (((4 : Int32) * x1) + x2).toInt ∧ (((4 : Int32) * x1) + x2).toInt < 8) ∧ ((0 ≤ (((4 : Int32) * x1) + x2).toInt ∧ (((4 : Int32) * x1) + x2).toInt < 8) ∧ j_X12_plain_70_52 (d + 1) x1 (x2 + (1 : Int32)) (dSet (dSet m 95 (((4 : Int32) * x1) + x2).toNatClampNeg (0 : Int32)) 96 (((4 : Int32) * x1) + x2).toNatClampNeg (0 : Int32)) Q))))) : j_X12_plain_70_52 (d + 1) x1 x2 m Q := by
  refine w_iload_n (q := 53) hm17 ⟨⟨_, _, rfl⟩, rfl⟩ rfl ?_
  refine w_iconst (q := 54) hm17 ⟨⟨_, _, rfl⟩, rfl⟩ iconst_4 ?_
  refine w_icmp_ge (q := 57) (X := x2.toInt) (Y := 4) hm17 ⟨⟨_, _, rfl⟩, rfl⟩ rfl (by decide) (fun hc => ?_) (fun hc => ?_)
  · have h := h.1 hc
    exact w_retv hm17 ⟨⟨_, _, rfl⟩, rfl⟩ rfl h
  · have h := h.2 hc
    refine w_aload_n (q := 58) hm17 ⟨⟨_, _, rfl⟩, rfl⟩ rfl ?_
    refine w_getr (q := 61) hm17 ⟨⟨_, _, rfl⟩, rfl⟩ rfl ?_
    refine w_iconst (q := 62) hm17 ⟨⟨_, _, rfl⟩, rfl⟩ iconst_4 ?_
    refine w_iload_n (q := 63) hm17 ⟨⟨_, _, rfl⟩, rfl⟩ rfl ?_
    refine w_imul (q := 64) hm17 ⟨⟨_, _, rfl⟩, rfl⟩ ?_
    refine w_iload_n (q := 65) hm17 ⟨⟨_, _, rfl⟩, rfl⟩ rfl ?_
    refine w_iadd (q := 66) hm17 ⟨⟨_, _, rfl⟩, rfl⟩ ?_
    refine w_iconst (q := 67) hm17 ⟨⟨_, _, rfl⟩, rfl⟩ iconst_0 ?_
    obtain ⟨hi, h⟩ := h
    refine w_iast (q := 68) hm17 ⟨⟨_, _, rfl⟩, rfl⟩ rfl hi rfl rfl ?_
    refine w_aload_n (q := 69) hm17 ⟨⟨_, _, rfl⟩, rfl⟩ rfl ?_
    refine w_getr (q := 72) hm17 ⟨⟨_, _, rfl⟩, rfl⟩ rfl ?_
    refine w_iconst (q := 73) hm17 ⟨⟨_, _, rfl⟩, rfl⟩ iconst_4 ?_
    refine w_iload_n (q := 74) hm17 ⟨⟨_, _, rfl⟩, rfl⟩ rfl ?_
    refine w_imul (q := 75) hm17 ⟨⟨_, _, rfl⟩, rfl⟩ ?_
    refine w_iload_n (q := 76) hm17 ⟨⟨_, _, rfl⟩, rfl⟩ rfl ?_
    refine w_iadd (q := 77) hm17 ⟨⟨_, _, rfl⟩, rfl⟩ ?_
    refine w_iconst (q := 78) hm17 ⟨⟨_, _, rfl⟩, rfl⟩ iconst_0 ?_
    obtain ⟨hi, h⟩ := h
    refine w_iast (q := 79) hm17 ⟨⟨_, _, rfl⟩, rfl⟩ rfl hi rfl rfl ?_
    refine w_iinc (q := 82) (l' := [oR 70, oI x1, oI (x2 + (1 : Int32))]) hm17 ⟨⟨_, _, rfl⟩, rfl⟩ rfl rfl rfl iconst_1 rfl ?_
    refine w_goto (q := 52) hm17 ⟨_, _, rfl⟩ ?_
    exact h
theorem v_X12_is_70 {d : Nat} {x1 : Int32} {m : dM} {Q : Int32 → dM → Prop} (h : (((m.1 70 13).toInt ≠ 0 → j_X12_is_70_24 (d + 1) m Q) ∧ ((m.1 70 13).toInt = 0 → ((0 ≤ (m.1 70 11).toInt ∧ (m.1 70 11).toInt < 403) ∧ (((m.1 73 (m.1 70 11).toNatClampNeg).toInt ≠ x1.toInt → j_X12_is_70_24 (d + 1) m Q) ∧ ((m.1 73 (m.1 70 11).toNatClampNeg).toInt = x1.toInt → Q (1 : Int32) m)))))) : c_X12_is_70 (d + 1) x1 m Q := by
  refine w_aload_n (q := 1) hm12 ⟨⟨_, _, rfl⟩, rfl⟩ rfl ?_
  refine w_getf (q := 4) (v := (m.1 70 13)) hm12 ⟨⟨_, _, rfl⟩, rfl⟩ rfl rfl ?_
  refine w_if_ne (q := 7) (X := (m.1 70 13).toInt) hm12 ⟨⟨_, _, rfl⟩, rfl⟩ rfl (fun hc => ?_) (fun hc => ?_)
  · have h := h.1 hc
    exact Wp.wk [false, false] h
  · have h := h.2 hc
    refine w_aload_n (q := 8) hm12 ⟨⟨_, _, rfl⟩, rfl⟩ rfl ?_
    refine w_getr (q := 11) hm12 ⟨⟨_, _, rfl⟩, rfl⟩ rfl ?_
    refine w_aload_n (q := 12) hm12 ⟨⟨_, _, rfl⟩, rfl⟩ rfl ?_
    refine w_getf (q := 15) (v := (m.1 70 11)) hm12 ⟨⟨_, _, rfl⟩, rfl⟩ rfl rfl ?_
    obtain ⟨hi, h⟩ := h
    refine w_iald (q := 16) (v := (m.1 73 (m.1 70 11).toNatClampNeg)) hm12 ⟨⟨_, _, rfl⟩, rfl⟩ rfl hi rfl rfl ?_
    refine w_iload_n (q := 17) hm12 ⟨⟨_, _, rfl⟩, rfl⟩ rfl ?_
    refine w_icmp_ne (q := 20) (X := (m.1 73 (m.1 70 11).toNatClampNeg).toInt) (Y := x1.toInt) hm12 ⟨⟨_, _, rfl⟩, rfl⟩ rfl rfl (fun hc => ?_) (fun hc => ?_)
    · have h := h.1 hc
      exact Wp.wk [false, false] h
    · have h := h.2 hc
      refine w_iconst (q := 21) hm12 ⟨⟨_, _, rfl⟩, rfl⟩ iconst_1 ?_
      refine w_goto (q := 25) hm12 ⟨_, _, rfl⟩ ?_
      exact w_retz hm12 ⟨⟨_, _, rfl⟩, rfl⟩ rfl (by decide) h
theorem v_X12_is_70_24 {d : Nat} {m : dM} {Q : Int32 → dM → Prop} (h : Q (0 : Int32) m) : j_X12_is_70_24 (d + 1) m Q := by
  refine w_iconst (q := 25) hm12 ⟨⟨_, _, rfl⟩, rfl⟩ iconst_0 ?_
  exact w_retz hm12 ⟨⟨_, _, rfl⟩, rfl⟩ rfl (by decide) h
theorem v_X12_fail_70 {d : Nat} {x1 : Int32} {m : dM} {Q : dM → Prop} (h : (((m.1 70 13).toInt ≤ 0 → ((0 ≤ (m.1 70 11).toInt ∧ (m.1 70 11).toInt < 403) ∧ Q (dSet (dSet m 70 13 x1) 70 14 (m.1 74 (m.1 70 11).toNatClampNeg)))) ∧ (0 < (m.1 70 13).toInt → Q m))) : c_X12_fail_70 (d + 1) x1 m Q := by
  refine w_aload_n (q := 1) hm13 ⟨⟨_, _, rfl⟩, rfl⟩ rfl ?_
  refine w_getf (q := 4) (v := (m.1 70 13)) hm13 ⟨⟨_, _, rfl⟩, rfl⟩ rfl rfl ?_
  refine w_if_le (q := 7) (X := (m.1 70 13).toInt) hm13 ⟨⟨_, _, rfl⟩, rfl⟩ rfl (fun hc => ?_) (fun hc => ?_)
  · have h := h.1 hc
    refine w_aload_n (q := 9) hm13 ⟨⟨_, _, rfl⟩, rfl⟩ rfl ?_
    refine w_iload_n (q := 10) hm13 ⟨⟨_, _, rfl⟩, rfl⟩ rfl ?_
    refine w_putf (q := 13) hm13 ⟨⟨_, _, rfl⟩, rfl⟩ rfl rfl rfl ?_
    refine w_aload_n (q := 14) hm13 ⟨⟨_, _, rfl⟩, rfl⟩ rfl ?_
    refine w_aload_n (q := 15) hm13 ⟨⟨_, _, rfl⟩, rfl⟩ rfl ?_
    refine w_getr (q := 18) hm13 ⟨⟨_, _, rfl⟩, rfl⟩ rfl ?_
    refine w_aload_n (q := 19) hm13 ⟨⟨_, _, rfl⟩, rfl⟩ rfl ?_
    refine w_getf (q := 22) (v := (m.1 70 11)) hm13 ⟨⟨_, _, rfl⟩, rfl⟩ rfl rfl ?_
    obtain ⟨hi, h⟩ := h
    refine w_iald (q := 23) (v := (m.1 74 (m.1 70 11).toNatClampNeg)) hm13 ⟨⟨_, _, rfl⟩, rfl⟩ rfl hi rfl rfl ?_
    refine w_putf (q := 26) hm13 ⟨⟨_, _, rfl⟩, rfl⟩ rfl rfl rfl ?_
    exact w_retv hm13 ⟨⟨_, _, rfl⟩, rfl⟩ rfl h
  · have h := h.2 hc
    exact w_retv hm13 ⟨⟨_, _, rfl⟩, rfl⟩ rfl h
theorem v_X12_goesOn_70 {d : Nat} {m : dM} {Q : dM → Prop} (h : (((m.1 70 11).toInt ≠ 400 → j_X12_goesOn_70_28 (d + 1) (dSet m 70 11 ((m.1 70 11) + (1 : Int32))) Q) ∧ ((m.1 70 11).toInt = 400 → c_X12_fail_70 d (2 : Int32) m (fun m1 => j_X12_goesOn_70_28 (d + 1) m1 Q)))) : c_X12_goesOn_70 (d + 1) m Q := by
  refine w_aload_n (q := 1) hm15 ⟨⟨_, _, rfl⟩, rfl⟩ rfl ?_
  refine w_getf (q := 4) (v := (m.1 70 11)) hm15 ⟨⟨_, _, rfl⟩, rfl⟩ rfl rfl ?_
  refine w_sipush (q := 7) hm15 ⟨⟨_, _, rfl⟩, rfl⟩ sipush_400 ?_
  refine w_icmp_ne (q := 10) (X := (m.1 70 11).toInt) (Y := 400) hm15 ⟨⟨_, _, rfl⟩, rfl⟩ rfl (by decide) (fun hc => ?_) (fun hc => ?_)
  · have h := h.1 hc
    refine w_aload_n (q := 19) hm15 ⟨⟨_, _, rfl⟩, rfl⟩ rfl ?_
    refine w_dup (q := 20) hm15 ⟨⟨_, _, rfl⟩, rfl⟩ rfl ?_
    refine w_getf (q := 23) (v := (m.1 70 11)) hm15 ⟨⟨_, _, rfl⟩, rfl⟩ rfl rfl ?_
    refine w_iconst (q := 24) hm15 ⟨⟨_, _, rfl⟩, rfl⟩ iconst_1 ?_
    refine w_iadd (q := 25) hm15 ⟨⟨_, _, rfl⟩, rfl⟩ ?_
    refine w_putf (q := 28) hm15 ⟨⟨_, _, rfl⟩, rfl⟩ rfl rfl rfl ?_
    exact Wp.wk [false] h
  · have h := h.2 hc
    refine w_aload_n (q := 11) hm15 ⟨⟨_, _, rfl⟩, rfl⟩ rfl ?_
    refine w_iconst (q := 12) hm15 ⟨⟨_, _, rfl⟩, rfl⟩ iconst_2 ?_
    refine w_call (q := 15) (n := 0) (vs := [.inr (.inr (some 70)), .inl (2 : Int32)]) (rest := []) (la := [oR 70, oI (2 : Int32)]) hm15 ⟨⟨_, _, rfl⟩, rfl⟩ rfl rfl rfl rfl hm13 rfl rfl (fun _ => ⟨_, _, rfl, rfl⟩) rfl (Wp.mono h ?_)
    rintro _ m1 ⟨rfl, h⟩
    change Wp _ _ 15 _ [] _ _
    refine w_goto (q := 28) hm15 ⟨_, _, rfl⟩ ?_
    exact Wp.wk [false] h
theorem v_X12_goesOn_70_28 {d : Nat} {m : dM} {Q : dM → Prop} (h : Q m) : j_X12_goesOn_70_28 (d + 1) m Q := by
  exact w_retv hm15 ⟨⟨_, _, rfl⟩, rfl⟩ rfl h
theorem v_X12_roomFor_70 {d : Nat} {x1 : Int32} {x2 : Int32} {m : dM} {Q : dM → Prop} (h : ((x1.toInt ≠ x2.toInt → j_X12_roomFor_70_10 (d + 1) m Q) ∧ (x1.toInt = x2.toInt → c_X12_fail_70 d (2 : Int32) m (fun m1 => j_X12_roomFor_70_10 (d + 1) m1 Q)))) : c_X12_roomFor_70 (d + 1) x1 x2 m Q := by
  refine w_iload_n (q := 1) hm20 ⟨⟨_, _, rfl⟩, rfl⟩ rfl ?_
  refine w_iload_n (q := 2) hm20 ⟨⟨_, _, rfl⟩, rfl⟩ rfl ?_
  refine w_icmp_ne (q := 5) (X := x1.toInt) (Y := x2.toInt) hm20 ⟨⟨_, _, rfl⟩, rfl⟩ rfl rfl (fun hc => ?_) (fun hc => ?_)
  · have h := h.1 hc
    exact Wp.wk [true, false, false] h
  · have h := h.2 hc
    refine w_aload_n (q := 6) hm20 ⟨⟨_, _, rfl⟩, rfl⟩ rfl ?_
    refine w_iconst (q := 7) hm20 ⟨⟨_, _, rfl⟩, rfl⟩ iconst_2 ?_
    refine w_call (q := 10) (n := 0) (vs := [.inr (.inr (some 70)), .inl (2 : Int32)]) (rest := []) (la := [oR 70, oI (2 : Int32)]) hm20 ⟨⟨_, _, rfl⟩, rfl⟩ rfl rfl rfl rfl hm13 rfl rfl (fun _ => ⟨_, _, rfl, rfl⟩) rfl (Wp.mono h ?_)
    rintro _ m1 ⟨rfl, h⟩
    change Wp _ _ 10 _ [] _ _
    exact Wp.wk [true, false, false] h
theorem v_X12_roomFor_70_10 {d : Nat} {m : dM} {Q : dM → Prop} (h : (((m.1 70 13).toInt ≠ 0 → j_X12_roomFor_70_21 (d + 1) m Q) ∧ ((m.1 70 13).toInt = 0 → c_X12_goesOn_70 d m (fun m1 => j_X12_roomFor_70_21 (d + 1) m1 Q)))) : j_X12_roomFor_70_10 (d + 1) m Q := by
  refine w_aload_n (q := 11) hm20 ⟨⟨_, _, rfl⟩, rfl⟩ rfl ?_
  refine w_getf (q := 14) (v := (m.1 70 13)) hm20 ⟨⟨_, _, rfl⟩, rfl⟩ rfl rfl ?_
  refine w_if_ne (q := 17) (X := (m.1 70 13).toInt) hm20 ⟨⟨_, _, rfl⟩, rfl⟩ rfl (fun hc => ?_) (fun hc => ?_)
  · have h := h.1 hc
    exact Wp.wk [false, false, false] h
  · have h := h.2 hc
    refine w_aload_n (q := 18) hm20 ⟨⟨_, _, rfl⟩, rfl⟩ rfl ?_
    refine w_call (q := 21) (n := 0) (vs := [.inr (.inr (some 70))]) (rest := []) (la := [oR 70]) hm20 ⟨⟨_, _, rfl⟩, rfl⟩ rfl rfl rfl rfl hm15 rfl rfl (fun _ => ⟨_, _, rfl, rfl⟩) rfl (Wp.mono h ?_)
    rintro _ m1 ⟨rfl, h⟩
    change Wp _ _ 21 _ [] _ _
    exact Wp.wk [false, false, false] h
theorem v_X12_roomFor_70_21 {d : Nat} {m : dM} {Q : dM → Prop} (h : Q m) : j_X12_roomFor_70_21 (d + 1) m Q := by
  exact w_retv hm20 ⟨⟨_, _, rfl⟩, rfl⟩ rfl h
theorem v_X12_must_70 {d : Nat} {x1 : Int32} {m : dM} {Q : dM → Prop} (h : c_X12_is_70 d x1 m (fun r1 m1 => ((r1.toInt = 0 → c_X12_fail_70 d (1 : Int32) m1 (fun m2 => j_X12_must_70_20 (d + 1) m2 Q)) ∧ (r1.toInt ≠ 0 → c_X12_goesOn_70 d m1 (fun m3 => j_X12_must_70_20 (d + 1) m3 Q))))) : c_X12_must_70 (d + 1) x1 m Q := by
  refine w_aload_n (q := 1) hm16 ⟨⟨_, _, rfl⟩, rfl⟩ rfl ?_
  refine w_iload_n (q := 2) hm16 ⟨⟨_, _, rfl⟩, rfl⟩ rfl ?_
  refine w_call (q := 5) (n := 0) (vs := [.inr (.inr (some 70)), .inl x1]) (rest := []) (la := [oR 70, oI x1]) hm16 ⟨⟨_, _, rfl⟩, rfl⟩ rfl rfl rfl rfl hm12 rfl rfl (fun _ => ⟨_, _, rfl, rfl⟩) rfl (Wp.mono h ?_)
  rintro _ m1 ⟨r1, rfl, h⟩
  change Wp _ _ 5 _ [.inl r1] _ _
  refine w_if_eq (q := 8) (X := r1.toInt) hm16 ⟨⟨_, _, rfl⟩, rfl⟩ rfl (fun hc => ?_) (fun hc => ?_)
  · have h := h.1 hc
    refine w_aload_n (q := 16) hm16 ⟨⟨_, _, rfl⟩, rfl⟩ rfl ?_
    refine w_iconst (q := 17) hm16 ⟨⟨_, _, rfl⟩, rfl⟩ iconst_1 ?_
    refine w_call (q := 20) (n := 0) (vs := [.inr (.inr (some 70)), .inl (1 : Int32)]) (rest := []) (la := [oR 70, oI (1 : Int32)]) hm16 ⟨⟨_, _, rfl⟩, rfl⟩ rfl rfl rfl rfl hm13 rfl rfl (fun _ => ⟨_, _, rfl, rfl⟩) rfl (Wp.mono h ?_)
    rintro _ m2 ⟨rfl, h⟩
    change Wp _ _ 20 _ [] _ _
    exact Wp.wk [false, false] h
  · have h := h.2 hc
    refine w_aload_n (q := 9) hm16 ⟨⟨_, _, rfl⟩, rfl⟩ rfl ?_
    refine w_call (q := 12) (n := 0) (vs := [.inr (.inr (some 70))]) (rest := []) (la := [oR 70]) hm16 ⟨⟨_, _, rfl⟩, rfl⟩ rfl rfl rfl rfl hm15 rfl rfl (fun _ => ⟨_, _, rfl, rfl⟩) rfl (Wp.mono h ?_)
    rintro _ m3 ⟨rfl, h⟩
    change Wp _ _ 12 _ [] _ _
    refine w_goto (q := 20) hm16 ⟨_, _, rfl⟩ ?_
    exact Wp.wk [false, false] h
theorem v_X12_must_70_20 {d : Nat} {m : dM} {Q : dM → Prop} (h : Q m) : j_X12_must_70_20 (d + 1) m Q := by
  exact w_retv hm16 ⟨⟨_, _, rfl⟩, rfl⟩ rfl h
theorem v_X12_wrong_70 {d : Nat} {x1 : Int32} {x2 : Int32} {m : dM} {Q : dM → Prop} (h : ((0 ≤ x2.toInt ∧ x2.toInt < 403) ∧ ((0 < (m.1 70 13).toInt → j_X12_wrong_70_45 (d + 1) m Q) ∧ ((m.1 70 13).toInt ≤ 0 → (((m.1 70 15).toInt = 0 → j_X12_wrong_70_46 (d + 1) x1 (m.1 74 x2.toNatClampNeg) m Q) ∧ ((m.1 70 15).toInt ≠ 0 → (((m.1 70 16).toInt < (m.1 74 x2.toNatClampNeg).toInt → j_X12_wrong_70_45 (d + 1) m Q) ∧ ((m.1 74 x2.toNatClampNeg).toInt ≤ (m.1 70 16).toInt → (((m.1 74 x2.toNatClampNeg).toInt ≠ (m.1 70 16).toInt → j_X12_wrong_70_46 (d + 1) x1 (m.1 74 x2.toNatClampNeg) m Q) ∧ ((m.1 74 x2.toNatClampNeg).toInt = (m.1 70 16).toInt → ((x1.toInt < (m.1 70 15).toInt → j_X12_wrong_70_46 (d + 1) x1 (m.1 74 x2.toNatClampNeg) m Q) ∧ ((m.1 70 15).toInt ≤ x1.toInt → j_X12_wrong_70_45 (d + 1) m Q)))))))))))) : c_X12_wrong_70 (d + 1) x1 x2 m Q := by
  refine w_aload_n (q := 1) hm14 ⟨⟨_, _, rfl⟩, rfl⟩ rfl ?_
  refine w_getr (q := 4) hm14 ⟨⟨_, _, rfl⟩, rfl⟩ rfl ?_
  refine w_iload_n (q := 5) hm14 ⟨⟨_, _, rfl⟩, rfl⟩ rfl ?_
  obtain ⟨hi, h⟩ := h
  refine w_iald (q := 6) (v := (m.1 74 x2.toNatClampNeg)) hm14 ⟨⟨_, _, rfl⟩, rfl⟩ rfl hi rfl rfl ?_
  refine w_istore_n (q := 7) (l' := [oR 70, oI x1, oI x2, oI (m.1 74 x2.toNatClampNeg)]) hm14 ⟨⟨_, _, rfl⟩, rfl⟩ rfl rfl rfl ?_
  refine w_aload_n (q := 8) hm14 ⟨⟨_, _, rfl⟩, rfl⟩ rfl ?_
  refine w_getf (q := 11) (v := (m.1 70 13)) hm14 ⟨⟨_, _, rfl⟩, rfl⟩ rfl rfl ?_
  refine w_if_gt (q := 14) (X := (m.1 70 13).toInt) hm14 ⟨⟨_, _, rfl⟩, rfl⟩ rfl (fun hc => ?_) (fun hc => ?_)
  · have h := h.1 hc
    exact Wp.wk [false, false, false, false] h
  · have h := h.2 hc
    refine w_aload_n (q := 15) hm14 ⟨⟨_, _, rfl⟩, rfl⟩ rfl ?_
    refine w_getf (q := 18) (v := (m.1 70 15)) hm14 ⟨⟨_, _, rfl⟩, rfl⟩ rfl rfl ?_
    refine w_if_eq (q := 21) (X := (m.1 70 15).toInt) hm14 ⟨⟨_, _, rfl⟩, rfl⟩ rfl (fun hc => ?_) (fun hc => ?_)
    · have h := h.1 hc
      exact Wp.wk [true, true, false, true] h
    · have h := h.2 hc
      refine w_iload_n (q := 22) hm14 ⟨⟨_, _, rfl⟩, rfl⟩ rfl ?_
      refine w_aload_n (q := 23) hm14 ⟨⟨_, _, rfl⟩, rfl⟩ rfl ?_
      refine w_getf (q := 26) (v := (m.1 70 16)) hm14 ⟨⟨_, _, rfl⟩, rfl⟩ rfl rfl ?_
      refine w_icmp_gt (q := 29) (X := (m.1 74 x2.toNatClampNeg).toInt) (Y := (m.1 70 16).toInt) hm14 ⟨⟨_, _, rfl⟩, rfl⟩ rfl rfl (fun hc => ?_) (fun hc => ?_)
      · have h := h.1 hc
        exact Wp.wk [false, false, false, false] h
      · have h := h.2 hc
        refine w_iload_n (q := 30) hm14 ⟨⟨_, _, rfl⟩, rfl⟩ rfl ?_
        refine w_aload_n (q := 31) hm14 ⟨⟨_, _, rfl⟩, rfl⟩ rfl ?_
        refine w_getf (q := 34) (v := (m.1 70 16)) hm14 ⟨⟨_, _, rfl⟩, rfl⟩ rfl rfl ?_
        refine w_icmp_ne (q := 37) (X := (m.1 74 x2.toNatClampNeg).toInt) (Y := (m.1 70 16).toInt) hm14 ⟨⟨_, _, rfl⟩, rfl⟩ rfl rfl (fun hc => ?_) (fun hc => ?_)
        · have h := h.1 hc
          exact Wp.wk [true, true, false, true] h
        · have h := h.2 hc
          refine w_iload_n (q := 38) hm14 ⟨⟨_, _, rfl⟩, rfl⟩ rfl ?_
          refine w_aload_n (q := 39) hm14 ⟨⟨_, _, rfl⟩, rfl⟩ rfl ?_
          refine w_getf (q := 42) (v := (m.1 70 15)) hm14 ⟨⟨_, _, rfl⟩, rfl⟩ rfl rfl ?_
          refine w_icmp_lt (q := 45) (X := x1.toInt) (Y := (m.1 70 15).toInt) hm14 ⟨⟨_, _, rfl⟩, rfl⟩ rfl rfl (fun hc => ?_) (fun hc => ?_)
          · have h := h.1 hc
            exact Wp.wk [true, true, false, true] h
          · have h := h.2 hc
            exact Wp.wk [false, false, false, false] h
theorem v_X12_wrong_70_45 {d : Nat} {m : dM} {Q : dM → Prop} (h : Q m) : j_X12_wrong_70_45 (d + 1) m Q := by
  exact w_retv hm14 ⟨⟨_, _, rfl⟩, rfl⟩ rfl h
theorem v_X12_wrong_70_46 {d : Nat} {x1 : Int32} {x3 : Int32} {m : dM} {Q : dM → Prop} (h : Q (dSet (dSet m 70 15 x1) 70 16 x3)) : j_X12_wrong_70_46 (d + 1) x1 x3 m Q := by
  refine w_aload_n (q := 47) hm14 ⟨⟨_, _, rfl⟩, rfl⟩ rfl ?_
  refine w_iload_n (q := 48) hm14 ⟨⟨_, _, rfl⟩, rfl⟩ rfl ?_
  refine w_putf (q := 51) hm14 ⟨⟨_, _, rfl⟩, rfl⟩ rfl rfl rfl ?_
  refine w_aload_n (q := 52) hm14 ⟨⟨_, _, rfl⟩, rfl⟩ rfl ?_
  refine w_iload_n (q := 53) hm14 ⟨⟨_, _, rfl⟩, rfl⟩ rfl ?_
  refine w_putf (q := 56) hm14 ⟨⟨_, _, rfl⟩, rfl⟩ rfl rfl rfl ?_
  exact w_retv hm14 ⟨⟨_, _, rfl⟩, rfl⟩ rfl h
theorem v_X12_named_70 {d : Nat} {m : dM} {Q : Int32 → dM → Prop} (h : c_X12_must_70 d (1 : Int32) m (fun m1 => j_X12_named_70_12 (d + 1) (m.1 70 11) (0 : Int32) m1 Q)) : c_X12_named_70 (d + 1) m Q := by
  refine w_aload_n (q := 1) hm22 ⟨⟨_, _, rfl⟩, rfl⟩ rfl ?_
  refine w_getf (q := 4) (v := (m.1 70 11)) hm22 ⟨⟨_, _, rfl⟩, rfl⟩ rfl rfl ?_
  refine w_istore_n (q := 5) (l' := [oR 70, oI (m.1 70 11), none]) hm22 ⟨⟨_, _, rfl⟩, rfl⟩ rfl rfl rfl ?_
  refine w_aload_n (q := 6) hm22 ⟨⟨_, _, rfl⟩, rfl⟩ rfl ?_
  refine w_iconst (q := 7) hm22 ⟨⟨_, _, rfl⟩, rfl⟩ iconst_1 ?_
  refine w_call (q := 10) (n := 0) (vs := [.inr (.inr (some 70)), .inl (1 : Int32)]) (rest := []) (la := [oR 70, oI (1 : Int32)]) hm22 ⟨⟨_, _, rfl⟩, rfl⟩ rfl rfl rfl rfl hm16 rfl rfl (fun _ => ⟨_, _, rfl, rfl⟩) rfl (Wp.mono h ?_)
  rintro _ m1 ⟨rfl, h⟩
  change Wp _ _ 10 _ [] _ _
  refine w_iconst (q := 11) hm22 ⟨⟨_, _, rfl⟩, rfl⟩ iconst_0 ?_
  refine w_istore_n (q := 12) (l' := [oR 70, oI (m.1 70 11), oI (0 : Int32)]) hm22 ⟨⟨_, _, rfl⟩, rfl⟩ rfl rfl rfl ?_
  exact h
theorem v_X12_named_70_12 {d : Nat} {x1 : Int32} {x2 : Int32} {m : dM} {Q : Int32 → dM → Prop} (h : (((m.1 70 20).toInt ≤ x2.toInt → j_X12_named_70_55 (d + 1) x1 m Q) ∧ (x2.toInt < (m.1 70 20).toInt → (((m.1 70 13).toInt ≠ 0 → j_X12_named_70_55 (d + 1) x1 m Q) ∧ ((m.1 70 13).toInt = 0 → ((0 ≤ x2.toInt ∧ x2.toInt < 15) ∧ ((0 ≤ x1.toInt ∧ x1.toInt < 403) ∧ (((lg_cmp (m.2.1 78 x2.toNatClampNeg) (m.2.1 76 x1.toNatClampNeg)).toInt ≠ 0 → j_X12_named_70_49 (d + 1) x1 x2 m Q) ∧ ((lg_cmp (m.2.1 78 x2.toNatClampNeg) (m.2.1 76 x1.toNatClampNeg)).toInt = 0 → c_X12_wrong_70 d (3 : Int32) x1 m (fun m1 => j_X12_named_70_49 (d + 1) x1 x2 m1 Q)))))))))) : j_X12_named_70_12 (d + 1) x1 x2 m Q := by
  refine w_iload_n (q := 13) hm22 ⟨⟨_, _, rfl⟩, rfl⟩ rfl ?_
  refine w_aload_n (q := 14) hm22 ⟨⟨_, _, rfl⟩, rfl⟩ rfl ?_
  refine w_getf (q := 17) (v := (m.1 70 20)) hm22 ⟨⟨_, _, rfl⟩, rfl⟩ rfl rfl ?_
  refine w_icmp_ge (q := 20) (X := x2.toInt) (Y := (m.1 70 20).toInt) hm22 ⟨⟨_, _, rfl⟩, rfl⟩ rfl rfl (fun hc => ?_) (fun hc => ?_)
  · have h := h.1 hc
    exact Wp.wk [false, true, false] h
  · have h := h.2 hc
    refine w_aload_n (q := 21) hm22 ⟨⟨_, _, rfl⟩, rfl⟩ rfl ?_
    refine w_getf (q := 24) (v := (m.1 70 13)) hm22 ⟨⟨_, _, rfl⟩, rfl⟩ rfl rfl ?_
    refine w_if_ne (q := 27) (X := (m.1 70 13).toInt) hm22 ⟨⟨_, _, rfl⟩, rfl⟩ rfl (fun hc => ?_) (fun hc => ?_)
    · have h := h.1 hc
      exact Wp.wk [false, true, false] h
    · have h := h.2 hc
      refine w_aload_n (q := 28) hm22 ⟨⟨_, _, rfl⟩, rfl⟩ rfl ?_
      refine w_getr (q := 31) hm22 ⟨⟨_, _, rfl⟩, rfl⟩ rfl ?_
      refine w_iload_n (q := 32) hm22 ⟨⟨_, _, rfl⟩, rfl⟩ rfl ?_
      obtain ⟨hi, h⟩ := h
      refine w_lald (q := 33) (v := (m.2.1 78 x2.toNatClampNeg)) hm22 ⟨⟨_, _, rfl⟩, rfl⟩ rfl hi rfl rfl ?_
      refine w_aload_n (q := 34) hm22 ⟨⟨_, _, rfl⟩, rfl⟩ rfl ?_
      refine w_getr (q := 37) hm22 ⟨⟨_, _, rfl⟩, rfl⟩ rfl ?_
      refine w_iload_n (q := 38) hm22 ⟨⟨_, _, rfl⟩, rfl⟩ rfl ?_
      obtain ⟨hi, h⟩ := h
      refine w_lald (q := 39) (v := (m.2.1 76 x1.toNatClampNeg)) hm22 ⟨⟨_, _, rfl⟩, rfl⟩ rfl hi rfl rfl ?_
      refine w_lcmp (q := 40) hm22 ⟨⟨_, _, rfl⟩, rfl⟩ ?_
      refine w_if_ne (q := 43) (X := (lg_cmp (m.2.1 78 x2.toNatClampNeg) (m.2.1 76 x1.toNatClampNeg)).toInt) hm22 ⟨⟨_, _, rfl⟩, rfl⟩ rfl (fun hc => ?_) (fun hc => ?_)
      · have h := h.1 hc
        exact h
      · have h := h.2 hc
        refine w_aload_n (q := 44) hm22 ⟨⟨_, _, rfl⟩, rfl⟩ rfl ?_
        refine w_iconst (q := 45) hm22 ⟨⟨_, _, rfl⟩, rfl⟩ iconst_3 ?_
        refine w_iload_n (q := 46) hm22 ⟨⟨_, _, rfl⟩, rfl⟩ rfl ?_
        refine w_call (q := 49) (n := 1) (vs := [.inr (.inr (some 70)), .inl (3 : Int32), .inl x1]) (rest := []) (la := [oR 70, oI (3 : Int32), oI x1, none]) hm22 ⟨⟨_, _, rfl⟩, rfl⟩ rfl rfl rfl rfl hm14 rfl rfl (fun _ => ⟨_, _, rfl, rfl⟩) rfl (Wp.mono h ?_)
        rintro _ m1 ⟨rfl, h⟩
        change Wp _ _ 49 _ [] _ _
        exact h
theorem v_X12_named_70_49 {d : Nat} {x1 : Int32} {x2 : Int32} {m : dM} {Q : Int32 → dM → Prop} (h : j_X12_named_70_12 (d + 1) x1 (x2 + (1 : Int32)) m Q) : j_X12_named_70_49 (d + 1) x1 x2 m Q := by
  refine w_iinc (q := 52) (l' := [oR 70, oI x1, oI (x2 + (1 : Int32))]) hm22 ⟨⟨_, _, rfl⟩, rfl⟩ rfl rfl rfl iconst_1 rfl ?_
  refine w_goto (q := 12) hm22 ⟨_, _, rfl⟩ ?_
  exact h
theorem v_X12_named_70_55 {d : Nat} {x1 : Int32} {m : dM} {Q : Int32 → dM → Prop} (h : Q x1 m) : j_X12_named_70_55 (d + 1) x1 m Q := by
  refine w_iload_n (q := 56) hm22 ⟨⟨_, _, rfl⟩, rfl⟩ rfl ?_
  exact w_reti hm22 ⟨⟨_, _, rfl⟩, rfl⟩ rfl h
theorem v_X12_bounded_70 {d : Nat} {x1 : Int32} {x2 : Int32} {m : dM} {Q : Int32 → dM → Prop} (h : ((0 < (m.1 70 13).toInt → j_X12_bounded_70_15 (d + 1) x1 m Q) ∧ ((m.1 70 13).toInt ≤ 0 → c_X12_is_70 d (2 : Int32) m (fun r1 m1 => ((r1.toInt ≠ 0 → ((0 ≤ (m1.1 70 11).toInt ∧ (m1.1 70 11).toInt < 403) ∧ (((m1.1 75 (m1.1 70 11).toNatClampNeg).toInt < x1.toInt → j_X12_bounded_70_42 (d + 1) (m1.1 75 (m1.1 70 11).toNatClampNeg) m1 Q) ∧ (x1.toInt ≤ (m1.1 75 (m1.1 70 11).toNatClampNeg).toInt → (((m1.1 75 (m1.1 70 11).toNatClampNeg).toInt ≤ x2.toInt → j_X12_bounded_70_51 (d + 1) (m1.1 75 (m1.1 70 11).toNatClampNeg) m1 Q) ∧ (x2.toInt < (m1.1 75 (m1.1 70 11).toNatClampNeg).toInt → j_X12_bounded_70_42 (d + 1) (m1.1 75 (m1.1 70 11).toNatClampNeg) m1 Q)))))) ∧ (r1.toInt = 0 → j_X12_bounded_70_15 (d + 1) x1 m1 Q)))))) : c_X12_bounded_70 (d + 1) x1 x2 m Q := by
  refine w_aload_n (q := 1) hm25 ⟨⟨_, _, rfl⟩, rfl⟩ rfl ?_
  refine w_getf (q := 4) (v := (m.1 70 13)) hm25 ⟨⟨_, _, rfl⟩, rfl⟩ rfl rfl ?_
  refine w_if_gt (q := 7) (X := (m.1 70 13).toInt) hm25 ⟨⟨_, _, rfl⟩, rfl⟩ rfl (fun hc => ?_) (fun hc => ?_)
  · have h := h.1 hc
    exact Wp.wk [true, true, false, false] h
  · have h := h.2 hc
    refine w_aload_n (q := 8) hm25 ⟨⟨_, _, rfl⟩, rfl⟩ rfl ?_
    refine w_iconst (q := 9) hm25 ⟨⟨_, _, rfl⟩, rfl⟩ iconst_2 ?_
    refine w_call (q := 12) (n := 0) (vs := [.inr (.inr (some 70)), .inl (2 : Int32)]) (rest := []) (la := [oR 70, oI (2 : Int32)]) hm25 ⟨⟨_, _, rfl⟩, rfl⟩ rfl rfl rfl rfl hm12 rfl rfl (fun _ => ⟨_, _, rfl, rfl⟩) rfl (Wp.mono h ?_)
    rintro _ m1 ⟨r1, rfl, h⟩
    change Wp _ _ 12 _ [.inl r1] _ _
    refine w_if_ne (q := 15) (X := r1.toInt) hm25 ⟨⟨_, _, rfl⟩, rfl⟩ rfl (fun hc => ?_) (fun hc => ?_)
    · have h := h.1 hc
      refine w_aload_n (q := 23) hm25 ⟨⟨_, _, rfl⟩, rfl⟩ rfl ?_
      refine w_getr (q := 26) hm25 ⟨⟨_, _, rfl⟩, rfl⟩ rfl ?_
      refine w_aload_n (q := 27) hm25 ⟨⟨_, _, rfl⟩, rfl⟩ rfl ?_
      refine w_getf (q := 30) (v := (m1.1 70 11)) hm25 ⟨⟨_, _, rfl⟩, rfl⟩ rfl rfl ?_
      obtain ⟨hi, h⟩ := h
      refine w_iald (q := 31) (v := (m1.1 75 (m1.1 70 11).toNatClampNeg)) hm25 ⟨⟨_, _, rfl⟩, rfl⟩ rfl hi rfl rfl ?_
      refine w_istore_n (q := 32) (l' := [oR 70, oI x1, oI x2, oI (m1.1 75 (m1.1 70 11).toNatClampNeg)]) hm25 ⟨⟨_, _, rfl⟩, rfl⟩ rfl rfl rfl ?_
      refine w_iload_n (q := 33) hm25 ⟨⟨_, _, rfl⟩, rfl⟩ rfl ?_
      refine w_iload_n (q := 34) hm25 ⟨⟨_, _, rfl⟩, rfl⟩ rfl ?_
      refine w_icmp_lt (q := 37) (X := (m1.1 75 (m1.1 70 11).toNatClampNeg).toInt) (Y := x1.toInt) hm25 ⟨⟨_, _, rfl⟩, rfl⟩ rfl rfl (fun hc => ?_) (fun hc => ?_)
      · have h := h.1 hc
        exact Wp.wk [true, false, false, true] h
      · have h := h.2 hc
        refine w_iload_n (q := 38) hm25 ⟨⟨_, _, rfl⟩, rfl⟩ rfl ?_
        refine w_iload_n (q := 39) hm25 ⟨⟨_, _, rfl⟩, rfl⟩ rfl ?_
        refine w_icmp_le (q := 42) (X := (m1.1 75 (m1.1 70 11).toNatClampNeg).toInt) (Y := x2.toInt) hm25 ⟨⟨_, _, rfl⟩, rfl⟩ rfl rfl (fun hc => ?_) (fun hc => ?_)
        · have h := h.1 hc
          exact Wp.wk [true, false, false, true] h
        · have h := h.2 hc
          exact Wp.wk [true, false, false, true] h
    · have h := h.2 hc
      exact Wp.wk [true, true, false, false] h
theorem v_X12_bounded_70_15 {d : Nat} {x1 : Int32} {m : dM} {Q : Int32 → dM → Prop} (h : c_X12_fail_70 d (1 : Int32) m (fun m1 => Q x1 m1)) : j_X12_bounded_70_15 (d + 1) x1 m Q := by
  refine w_aload_n (q := 16) hm25 ⟨⟨_, _, rfl⟩, rfl⟩ rfl ?_
  refine w_iconst (q := 17) hm25 ⟨⟨_, _, rfl⟩, rfl⟩ iconst_1 ?_
  refine w_call (q := 20) (n := 0) (vs := [.inr (.inr (some 70)), .inl (1 : Int32)]) (rest := []) (la := [oR 70, oI (1 : Int32)]) hm25 ⟨⟨_, _, rfl⟩, rfl⟩ rfl rfl rfl rfl hm13 rfl rfl (fun _ => ⟨_, _, rfl, rfl⟩) rfl (Wp.mono h ?_)
  rintro _ m1 ⟨rfl, h⟩
  change Wp _ _ 20 _ [] _ _
  refine w_iload_n (q := 21) hm25 ⟨⟨_, _, rfl⟩, rfl⟩ rfl ?_
  exact w_reti hm25 ⟨⟨_, _, rfl⟩, rfl⟩ rfl h
theorem v_X12_bounded_70_42 {d : Nat} {x3 : Int32} {m : dM} {Q : Int32 → dM → Prop} (h : c_X12_wrong_70 d (5 : Int32) (m.1 70 11) m (fun m1 => j_X12_bounded_70_51 (d + 1) x3 m1 Q)) : j_X12_bounded_70_42 (d + 1) x3 m Q := by
  refine w_aload_n (q := 43) hm25 ⟨⟨_, _, rfl⟩, rfl⟩ rfl ?_
  refine w_iconst (q := 44) hm25 ⟨⟨_, _, rfl⟩, rfl⟩ iconst_5 ?_
  refine w_aload_n (q := 45) hm25 ⟨⟨_, _, rfl⟩, rfl⟩ rfl ?_
  refine w_getf (q := 48) (v := (m.1 70 11)) hm25 ⟨⟨_, _, rfl⟩, rfl⟩ rfl rfl ?_
  refine w_call (q := 51) (n := 1) (vs := [.inr (.inr (some 70)), .inl (5 : Int32), .inl (m.1 70 11)]) (rest := []) (la := [oR 70, oI (5 : Int32), oI (m.1 70 11), none]) hm25 ⟨⟨_, _, rfl⟩, rfl⟩ rfl rfl rfl rfl hm14 rfl rfl (fun _ => ⟨_, _, rfl, rfl⟩) rfl (Wp.mono h ?_)
  rintro _ m1 ⟨rfl, h⟩
  change Wp _ _ 51 _ [] _ _
  exact h
theorem v_X12_bounded_70_51 {d : Nat} {x3 : Int32} {m : dM} {Q : Int32 → dM → Prop} (h : c_X12_goesOn_70 d m (fun m1 => Q x3 m1)) : j_X12_bounded_70_51 (d + 1) x3 m Q := by
  refine w_aload_n (q := 52) hm25 ⟨⟨_, _, rfl⟩, rfl⟩ rfl ?_
  refine w_call (q := 55) (n := 0) (vs := [.inr (.inr (some 70))]) (rest := []) (la := [oR 70]) hm25 ⟨⟨_, _, rfl⟩, rfl⟩ rfl rfl rfl rfl hm15 rfl rfl (fun _ => ⟨_, _, rfl, rfl⟩) rfl (Wp.mono h ?_)
  rintro _ m1 ⟨rfl, h⟩
  change Wp _ _ 55 _ [] _ _
  refine w_iload_n (q := 56) hm25 ⟨⟨_, _, rfl⟩, rfl⟩ rfl ?_
  exact w_reti hm25 ⟨⟨_, _, rfl⟩, rfl⟩ rfl h
theorem v_X12_endsName_70 {d : Nat} {x1 : Int32} {x2 : Int32} {m : dM} {Q : dM → Prop} (h : c_X12_must_70 d (4 : Int32) m (fun m1 => (((m1.1 70 13).toInt ≤ 0 → ((0 ≤ x1.toInt ∧ x1.toInt < 403) ∧ ((0 ≤ (m1.1 70 20).toInt ∧ (m1.1 70 20).toInt < 15) ∧ ((0 ≤ (m1.1 70 20).toInt ∧ (m1.1 70 20).toInt < 15) ∧ Q (dSet (dSet (dSetL m1 78 (m1.1 70 20).toNatClampNeg (m1.2.1 76 x1.toNatClampNeg)) 79 (m1.1 70 20).toNatClampNeg x2) 70 20 ((m1.1 70 20) + (1 : Int32))))))) ∧ (0 < (m1.1 70 13).toInt → Q m1)))) : c_X12_endsName_70 (d + 1) x1 x2 m Q := by
  refine w_aload_n (q := 1) hm23 ⟨⟨_, _, rfl⟩, rfl⟩ rfl ?_
  refine w_iconst (q := 2) hm23 ⟨⟨_, _, rfl⟩, rfl⟩ iconst_4 ?_
  refine w_call (q := 5) (n := 0) (vs := [.inr (.inr (some 70)), .inl (4 : Int32)]) (rest := []) (la := [oR 70, oI (4 : Int32)]) hm23 ⟨⟨_, _, rfl⟩, rfl⟩ rfl rfl rfl rfl hm16 rfl rfl (fun _ => ⟨_, _, rfl, rfl⟩) rfl (Wp.mono h ?_)
  rintro _ m1 ⟨rfl, h⟩
  change Wp _ _ 5 _ [] _ _
  refine w_aload_n (q := 6) hm23 ⟨⟨_, _, rfl⟩, rfl⟩ rfl ?_
  refine w_getf (q := 9) (v := (m1.1 70 13)) hm23 ⟨⟨_, _, rfl⟩, rfl⟩ rfl rfl ?_
  refine w_if_le (q := 12) (X := (m1.1 70 13).toInt) hm23 ⟨⟨_, _, rfl⟩, rfl⟩ rfl (fun hc => ?_) (fun hc => ?_)
  · have h := h.1 hc
    refine w_aload_n (q := 14) hm23 ⟨⟨_, _, rfl⟩, rfl⟩ rfl ?_
    refine w_getr (q := 17) hm23 ⟨⟨_, _, rfl⟩, rfl⟩ rfl ?_
    refine w_aload_n (q := 18) hm23 ⟨⟨_, _, rfl⟩, rfl⟩ rfl ?_
    refine w_getf (q := 21) (v := (m1.1 70 20)) hm23 ⟨⟨_, _, rfl⟩, rfl⟩ rfl rfl ?_
    refine w_aload_n (q := 22) hm23 ⟨⟨_, _, rfl⟩, rfl⟩ rfl ?_
    refine w_getr (q := 25) hm23 ⟨⟨_, _, rfl⟩, rfl⟩ rfl ?_
    refine w_iload_n (q := 26) hm23 ⟨⟨_, _, rfl⟩, rfl⟩ rfl ?_
    obtain ⟨hi, h⟩ := h
    refine w_lald (q := 27) (v := (m1.2.1 76 x1.toNatClampNeg)) hm23 ⟨⟨_, _, rfl⟩, rfl⟩ rfl hi rfl rfl ?_
    obtain ⟨hi, h⟩ := h
    refine w_last (q := 28) hm23 ⟨⟨_, _, rfl⟩, rfl⟩ rfl hi rfl rfl ?_
    refine w_aload_n (q := 29) hm23 ⟨⟨_, _, rfl⟩, rfl⟩ rfl ?_
    refine w_getr (q := 32) hm23 ⟨⟨_, _, rfl⟩, rfl⟩ rfl ?_
    refine w_aload_n (q := 33) hm23 ⟨⟨_, _, rfl⟩, rfl⟩ rfl ?_
    refine w_getf (q := 36) (v := (m1.1 70 20)) hm23 ⟨⟨_, _, rfl⟩, rfl⟩ rfl rfl ?_
    refine w_iload_n (q := 37) hm23 ⟨⟨_, _, rfl⟩, rfl⟩ rfl ?_
    obtain ⟨hi, h⟩ := h
    refine w_iast (q := 38) hm23 ⟨⟨_, _, rfl⟩, rfl⟩ rfl hi rfl rfl ?_
    refine w_aload_n (q := 39) hm23 ⟨⟨_, _, rfl⟩, rfl⟩ rfl ?_
    refine w_dup (q := 40) hm23 ⟨⟨_, _, rfl⟩, rfl⟩ rfl ?_
    refine w_getf (q := 43) (v := (m1.1 70 20)) hm23 ⟨⟨_, _, rfl⟩, rfl⟩ rfl rfl ?_
    refine w_iconst (q := 44) hm23 ⟨⟨_, _, rfl⟩, rfl⟩ iconst_1 ?_
    refine w_iadd (q := 45) hm23 ⟨⟨_, _, rfl⟩, rfl⟩ ?_
    refine w_putf (q := 48) hm23 ⟨⟨_, _, rfl⟩, rfl⟩ rfl rfl rfl ?_
    exact w_retv hm23 ⟨⟨_, _, rfl⟩, rfl⟩ rfl h
  · have h := h.2 hc
    exact w_retv hm23 ⟨⟨_, _, rfl⟩, rfl⟩ rfl h
theorem v_X12_knownFlat_70 {d : Nat} {m : dM} {Q : Int32 → dM → Prop} (h : c_X12_must_70 d (1 : Int32) m (fun m1 => (((m1.1 70 13).toInt ≤ 0 → j_X12_knownFlat_70_21 (d + 1) (m.1 70 11) (0 : Int32) m1 Q) ∧ (0 < (m1.1 70 13).toInt → Q (-1 : Int32) m1)))) : c_X12_knownFlat_70 (d + 1) m Q := by
  refine w_aload_n (q := 1) hm24 ⟨⟨_, _, rfl⟩, rfl⟩ rfl ?_
  refine w_getf (q := 4) (v := (m.1 70 11)) hm24 ⟨⟨_, _, rfl⟩, rfl⟩ rfl rfl ?_
  refine w_istore_n (q := 5) (l' := [oR 70, oI (m.1 70 11), none]) hm24 ⟨⟨_, _, rfl⟩, rfl⟩ rfl rfl rfl ?_
  refine w_aload_n (q := 6) hm24 ⟨⟨_, _, rfl⟩, rfl⟩ rfl ?_
  refine w_iconst (q := 7) hm24 ⟨⟨_, _, rfl⟩, rfl⟩ iconst_1 ?_
  refine w_call (q := 10) (n := 0) (vs := [.inr (.inr (some 70)), .inl (1 : Int32)]) (rest := []) (la := [oR 70, oI (1 : Int32)]) hm24 ⟨⟨_, _, rfl⟩, rfl⟩ rfl rfl rfl rfl hm16 rfl rfl (fun _ => ⟨_, _, rfl, rfl⟩) rfl (Wp.mono h ?_)
  rintro _ m1 ⟨rfl, h⟩
  change Wp _ _ 10 _ [] _ _
  refine w_aload_n (q := 11) hm24 ⟨⟨_, _, rfl⟩, rfl⟩ rfl ?_
  refine w_getf (q := 14) (v := (m1.1 70 13)) hm24 ⟨⟨_, _, rfl⟩, rfl⟩ rfl rfl ?_
  refine w_if_le (q := 17) (X := (m1.1 70 13).toInt) hm24 ⟨⟨_, _, rfl⟩, rfl⟩ rfl (fun hc => ?_) (fun hc => ?_)
  · have h := h.1 hc
    refine w_iconst (q := 20) hm24 ⟨⟨_, _, rfl⟩, rfl⟩ iconst_0 ?_
    refine w_istore_n (q := 21) (l' := [oR 70, oI (m.1 70 11), oI (0 : Int32)]) hm24 ⟨⟨_, _, rfl⟩, rfl⟩ rfl rfl rfl ?_
    exact h
  · have h := h.2 hc
    refine w_iconst (q := 18) hm24 ⟨⟨_, _, rfl⟩, rfl⟩ iconst_m1 ?_
    exact w_reti hm24 ⟨⟨_, _, rfl⟩, rfl⟩ rfl h
theorem v_X12_knownFlat_70_21 {d : Nat} {x1 : Int32} {x2 : Int32} {m : dM} {Q : Int32 → dM → Prop} (h : (((m.1 70 20).toInt ≤ x2.toInt → c_X12_wrong_70 d (4 : Int32) x1 m (fun m1 => Q (-1 : Int32) m1)) ∧ (x2.toInt < (m.1 70 20).toInt → ((0 ≤ x2.toInt ∧ x2.toInt < 15) ∧ ((0 ≤ x1.toInt ∧ x1.toInt < 403) ∧ (((lg_cmp (m.2.1 78 x2.toNatClampNeg) (m.2.1 76 x1.toNatClampNeg)).toInt ≠ 0 → j_X12_knownFlat_70_61 (d + 1) x1 x2 m Q) ∧ ((lg_cmp (m.2.1 78 x2.toNatClampNeg) (m.2.1 76 x1.toNatClampNeg)).toInt = 0 → ((0 ≤ x2.toInt ∧ x2.toInt < 15) ∧ (((m.1 79 x2.toNatClampNeg).toInt < 0 → j_X12_knownFlat_70_61 (d + 1) x1 x2 m Q) ∧ (0 ≤ (m.1 79 x2.toNatClampNeg).toInt → ((0 ≤ x2.toInt ∧ x2.toInt < 15) ∧ Q (m.1 79 x2.toNatClampNeg) m))))))))))) : j_X12_knownFlat_70_21 (d + 1) x1 x2 m Q := by
  refine w_iload_n (q := 22) hm24 ⟨⟨_, _, rfl⟩, rfl⟩ rfl ?_
  refine w_aload_n (q := 23) hm24 ⟨⟨_, _, rfl⟩, rfl⟩ rfl ?_
  refine w_getf (q := 26) (v := (m.1 70 20)) hm24 ⟨⟨_, _, rfl⟩, rfl⟩ rfl rfl ?_
  refine w_icmp_ge (q := 29) (X := x2.toInt) (Y := (m.1 70 20).toInt) hm24 ⟨⟨_, _, rfl⟩, rfl⟩ rfl rfl (fun hc => ?_) (fun hc => ?_)
  · have h := h.1 hc
    refine w_aload_n (q := 68) hm24 ⟨⟨_, _, rfl⟩, rfl⟩ rfl ?_
    refine w_iconst (q := 69) hm24 ⟨⟨_, _, rfl⟩, rfl⟩ iconst_4 ?_
    refine w_iload_n (q := 70) hm24 ⟨⟨_, _, rfl⟩, rfl⟩ rfl ?_
    refine w_call (q := 73) (n := 1) (vs := [.inr (.inr (some 70)), .inl (4 : Int32), .inl x1]) (rest := []) (la := [oR 70, oI (4 : Int32), oI x1, none]) hm24 ⟨⟨_, _, rfl⟩, rfl⟩ rfl rfl rfl rfl hm14 rfl rfl (fun _ => ⟨_, _, rfl, rfl⟩) rfl (Wp.mono h ?_)
    rintro _ m1 ⟨rfl, h⟩
    change Wp _ _ 73 _ [] _ _
    refine w_iconst (q := 74) hm24 ⟨⟨_, _, rfl⟩, rfl⟩ iconst_m1 ?_
    exact w_reti hm24 ⟨⟨_, _, rfl⟩, rfl⟩ rfl h
  · have h := h.2 hc
    refine w_aload_n (q := 30) hm24 ⟨⟨_, _, rfl⟩, rfl⟩ rfl ?_
    refine w_getr (q := 33) hm24 ⟨⟨_, _, rfl⟩, rfl⟩ rfl ?_
    refine w_iload_n (q := 34) hm24 ⟨⟨_, _, rfl⟩, rfl⟩ rfl ?_
    obtain ⟨hi, h⟩ := h
    refine w_lald (q := 35) (v := (m.2.1 78 x2.toNatClampNeg)) hm24 ⟨⟨_, _, rfl⟩, rfl⟩ rfl hi rfl rfl ?_
    refine w_aload_n (q := 36) hm24 ⟨⟨_, _, rfl⟩, rfl⟩ rfl ?_
    refine w_getr (q := 39) hm24 ⟨⟨_, _, rfl⟩, rfl⟩ rfl ?_
    refine w_iload_n (q := 40) hm24 ⟨⟨_, _, rfl⟩, rfl⟩ rfl ?_
    obtain ⟨hi, h⟩ := h
    refine w_lald (q := 41) (v := (m.2.1 76 x1.toNatClampNeg)) hm24 ⟨⟨_, _, rfl⟩, rfl⟩ rfl hi rfl rfl ?_
    refine w_lcmp (q := 42) hm24 ⟨⟨_, _, rfl⟩, rfl⟩ ?_
    refine w_if_ne (q := 45) (X := (lg_cmp (m.2.1 78 x2.toNatClampNeg) (m.2.1 76 x1.toNatClampNeg)).toInt) hm24 ⟨⟨_, _, rfl⟩, rfl⟩ rfl (fun hc => ?_) (fun hc => ?_)
    · have h := h.1 hc
      exact h
    · have h := h.2 hc
      refine w_aload_n (q := 46) hm24 ⟨⟨_, _, rfl⟩, rfl⟩ rfl ?_
      refine w_getr (q := 49) hm24 ⟨⟨_, _, rfl⟩, rfl⟩ rfl ?_
      refine w_iload_n (q := 50) hm24 ⟨⟨_, _, rfl⟩, rfl⟩ rfl ?_
      obtain ⟨hi, h⟩ := h
      refine w_iald (q := 51) (v := (m.1 79 x2.toNatClampNeg)) hm24 ⟨⟨_, _, rfl⟩, rfl⟩ rfl hi rfl rfl ?_
      refine w_if_lt (q := 54) (X := (m.1 79 x2.toNatClampNeg).toInt) hm24 ⟨⟨_, _, rfl⟩, rfl⟩ rfl (fun hc => ?_) (fun hc => ?_)
      · have h := h.1 hc
        exact h
      · have h := h.2 hc
        refine w_aload_n (q := 55) hm24 ⟨⟨_, _, rfl⟩, rfl⟩ rfl ?_
        refine w_getr (q := 58) hm24 ⟨⟨_, _, rfl⟩, rfl⟩ rfl ?_
        refine w_iload_n (q := 59) hm24 ⟨⟨_, _, rfl⟩, rfl⟩ rfl ?_
        obtain ⟨hi, h⟩ := h
        refine w_iald (q := 60) (v := (m.1 79 x2.toNatClampNeg)) hm24 ⟨⟨_, _, rfl⟩, rfl⟩ rfl hi rfl rfl ?_
        exact w_reti hm24 ⟨⟨_, _, rfl⟩, rfl⟩ rfl h
theorem v_X12_knownFlat_70_61 {d : Nat} {x1 : Int32} {x2 : Int32} {m : dM} {Q : Int32 → dM → Prop} (h : j_X12_knownFlat_70_21 (d + 1) x1 (x2 + (1 : Int32)) m Q) : j_X12_knownFlat_70_61 (d + 1) x1 x2 m Q := by
  refine w_iinc (q := 64) (l' := [oR 70, oI x1, oI (x2 + (1 : Int32))]) hm24 ⟨⟨_, _, rfl⟩, rfl⟩ rfl rfl rfl iconst_1 rfl ?_
  refine w_goto (q := 21) hm24 ⟨_, _, rfl⟩ ?_
  exact h
theorem v_X12_areWired_70 {d : Nat} {x1 : Int32} {x2 : Int32} {m : dM} {Q : Int32 → dM → Prop} (h : j_X12_areWired_70_8 (d + 1) x1 x2 ((10 : Int32) * (m.1 70 19)) m Q) : c_X12_areWired_70 (d + 1) x1 x2 m Q := by
  refine w_bipush (q := 2) hm26 ⟨⟨_, _, rfl⟩, rfl⟩ bipush_10 ?_
  refine w_aload_n (q := 3) hm26 ⟨⟨_, _, rfl⟩, rfl⟩ rfl ?_
  refine w_getf (q := 6) (v := (m.1 70 19)) hm26 ⟨⟨_, _, rfl⟩, rfl⟩ rfl rfl ?_
  refine w_imul (q := 7) hm26 ⟨⟨_, _, rfl⟩, rfl⟩ ?_
  refine w_istore_n (q := 8) (l' := [oR 70, oI x1, oI x2, oI ((10 : Int32) * (m.1 70 19))]) hm26 ⟨⟨_, _, rfl⟩, rfl⟩ rfl rfl rfl ?_
  exact h
theorem v_X12_areWired_70_8 {d : Nat} {x1 : Int32} {x2 : Int32} {x3 : Int32} {m : dM} {Q : Int32 → dM → Prop} (h : ((0 ≤ (m.1 70 19).toInt ∧ (m.1 70 19).toInt < 2) ∧ (((((10 : Int32) * (m.1 70 19)) + (m.1 82 (m.1 70 19).toNatClampNeg)).toInt ≤ x3.toInt → Q (0 : Int32) m) ∧ (x3.toInt < (((10 : Int32) * (m.1 70 19)) + (m.1 82 (m.1 70 19).toNatClampNeg)).toInt → ((0 ≤ x3.toInt ∧ x3.toInt < 20) ∧ (((m.1 83 x3.toNatClampNeg).toInt ≠ x1.toInt → j_X12_areWired_70_49 (d + 1) x1 x2 x3 m Q) ∧ ((m.1 83 x3.toNatClampNeg).toInt = x1.toInt → ((0 ≤ x3.toInt ∧ x3.toInt < 20) ∧ (((m.1 84 x3.toNatClampNeg).toInt = x2.toInt → j_X12_areWired_70_69 (d + 1) m Q) ∧ ((m.1 84 x3.toNatClampNeg).toInt ≠ x2.toInt → j_X12_areWired_70_49 (d + 1) x1 x2 x3 m Q)))))))))) : j_X12_areWired_70_8 (d + 1) x1 x2 x3 m Q := by
  refine w_iload_n (q := 9) hm26 ⟨⟨_, _, rfl⟩, rfl⟩ rfl ?_
  refine w_bipush (q := 11) hm26 ⟨⟨_, _, rfl⟩, rfl⟩ bipush_10 ?_
  refine w_aload_n (q := 12) hm26 ⟨⟨_, _, rfl⟩, rfl⟩ rfl ?_
  refine w_getf (q := 15) (v := (m.1 70 19)) hm26 ⟨⟨_, _, rfl⟩, rfl⟩ rfl rfl ?_
  refine w_imul (q := 16) hm26 ⟨⟨_, _, rfl⟩, rfl⟩ ?_
  refine w_aload_n (q := 17) hm26 ⟨⟨_, _, rfl⟩, rfl⟩ rfl ?_
  refine w_getr (q := 20) hm26 ⟨⟨_, _, rfl⟩, rfl⟩ rfl ?_
  refine w_aload_n (q := 21) hm26 ⟨⟨_, _, rfl⟩, rfl⟩ rfl ?_
  refine w_getf (q := 24) (v := (m.1 70 19)) hm26 ⟨⟨_, _, rfl⟩, rfl⟩ rfl rfl ?_
  obtain ⟨hi, h⟩ := h
  refine w_iald (q := 25) (v := (m.1 82 (m.1 70 19).toNatClampNeg)) hm26 ⟨⟨_, _, rfl⟩, rfl⟩ rfl hi rfl rfl ?_
  refine w_iadd (q := 26) hm26 ⟨⟨_, _, rfl⟩, rfl⟩ ?_
  refine w_icmp_ge (q := 29) (X := x3.toInt) (Y := (((10 : Int32) * (m.1 70 19)) + (m.1 82 (m.1 70 19).toNatClampNeg)).toInt) hm26 ⟨⟨_, _, rfl⟩, rfl⟩ rfl rfl (fun hc => ?_) (fun hc => ?_)
  · have h := h.1 hc
    refine w_iconst (q := 78) hm26 ⟨⟨_, _, rfl⟩, rfl⟩ iconst_0 ?_
    exact w_retz hm26 ⟨⟨_, _, rfl⟩, rfl⟩ rfl (by decide) h
  · have h := h.2 hc
    refine w_aload_n (q := 30) hm26 ⟨⟨_, _, rfl⟩, rfl⟩ rfl ?_
    refine w_getr (q := 33) hm26 ⟨⟨_, _, rfl⟩, rfl⟩ rfl ?_
    refine w_iload_n (q := 34) hm26 ⟨⟨_, _, rfl⟩, rfl⟩ rfl ?_
    obtain ⟨hi, h⟩ := h
    refine w_iald (q := 35) (v := (m.1 83 x3.toNatClampNeg)) hm26 ⟨⟨_, _, rfl⟩, rfl⟩ rfl hi rfl rfl ?_
    refine w_iload_n (q := 36) hm26 ⟨⟨_, _, rfl⟩, rfl⟩ rfl ?_
    refine w_icmp_ne (q := 39) (X := (m.1 83 x3.toNatClampNeg).toInt) (Y := x1.toInt) hm26 ⟨⟨_, _, rfl⟩, rfl⟩ rfl rfl (fun hc => ?_) (fun hc => ?_)
    · have h := h.1 hc
      exact h
    · have h := h.2 hc
      refine w_aload_n (q := 40) hm26 ⟨⟨_, _, rfl⟩, rfl⟩ rfl ?_
      refine w_getr (q := 43) hm26 ⟨⟨_, _, rfl⟩, rfl⟩ rfl ?_
      refine w_iload_n (q := 44) hm26 ⟨⟨_, _, rfl⟩, rfl⟩ rfl ?_
      obtain ⟨hi, h⟩ := h
      refine w_iald (q := 45) (v := (m.1 84 x3.toNatClampNeg)) hm26 ⟨⟨_, _, rfl⟩, rfl⟩ rfl hi rfl rfl ?_
      refine w_iload_n (q := 46) hm26 ⟨⟨_, _, rfl⟩, rfl⟩ rfl ?_
      refine w_icmp_eq (q := 49) (X := (m.1 84 x3.toNatClampNeg).toInt) (Y := x2.toInt) hm26 ⟨⟨_, _, rfl⟩, rfl⟩ rfl rfl (fun hc => ?_) (fun hc => ?_)
      · have h := h.1 hc
        exact Wp.wk [false, false, false, false] h
      · have h := h.2 hc
        exact h
theorem v_X12_areWired_70_49 {d : Nat} {x1 : Int32} {x2 : Int32} {x3 : Int32} {m : dM} {Q : Int32 → dM → Prop} (h : ((0 ≤ x3.toInt ∧ x3.toInt < 20) ∧ (((m.1 83 x3.toNatClampNeg).toInt ≠ x2.toInt → j_X12_areWired_70_71 (d + 1) x1 x2 x3 m Q) ∧ ((m.1 83 x3.toNatClampNeg).toInt = x2.toInt → ((0 ≤ x3.toInt ∧ x3.toInt < 20) ∧ (((m.1 84 x3.toNatClampNeg).toInt ≠ x1.toInt → j_X12_areWired_70_71 (d + 1) x1 x2 x3 m Q) ∧ ((m.1 84 x3.toNatClampNeg).toInt = x1.toInt → j_X12_areWired_70_69 (d + 1) m Q))))))) : j_X12_areWired_70_49 (d + 1) x1 x2 x3 m Q := by
  refine w_aload_n (q := 50) hm26 ⟨⟨_, _, rfl⟩, rfl⟩ rfl ?_
  refine w_getr (q := 53) hm26 ⟨⟨_, _, rfl⟩, rfl⟩ rfl ?_
  refine w_iload_n (q := 54) hm26 ⟨⟨_, _, rfl⟩, rfl⟩ rfl ?_
  obtain ⟨hi, h⟩ := h
  refine w_iald (q := 55) (v := (m.1 83 x3.toNatClampNeg)) hm26 ⟨⟨_, _, rfl⟩, rfl⟩ rfl hi rfl rfl ?_
  refine w_iload_n (q := 56) hm26 ⟨⟨_, _, rfl⟩, rfl⟩ rfl ?_
  refine w_icmp_ne (q := 59) (X := (m.1 83 x3.toNatClampNeg).toInt) (Y := x2.toInt) hm26 ⟨⟨_, _, rfl⟩, rfl⟩ rfl rfl (fun hc => ?_) (fun hc => ?_)
  · have h := h.1 hc
    exact h
  · have h := h.2 hc
    refine w_aload_n (q := 60) hm26 ⟨⟨_, _, rfl⟩, rfl⟩ rfl ?_
    refine w_getr (q := 63) hm26 ⟨⟨_, _, rfl⟩, rfl⟩ rfl ?_
    refine w_iload_n (q := 64) hm26 ⟨⟨_, _, rfl⟩, rfl⟩ rfl ?_
    obtain ⟨hi, h⟩ := h
    refine w_iald (q := 65) (v := (m.1 84 x3.toNatClampNeg)) hm26 ⟨⟨_, _, rfl⟩, rfl⟩ rfl hi rfl rfl ?_
    refine w_iload_n (q := 66) hm26 ⟨⟨_, _, rfl⟩, rfl⟩ rfl ?_
    refine w_icmp_ne (q := 69) (X := (m.1 84 x3.toNatClampNeg).toInt) (Y := x1.toInt) hm26 ⟨⟨_, _, rfl⟩, rfl⟩ rfl rfl (fun hc => ?_) (fun hc => ?_)
    · have h := h.1 hc
      exact h
    · have h := h.2 hc
      exact Wp.wk [false, false, false, false] h
theorem v_X12_areWired_70_69 {d : Nat} {m : dM} {Q : Int32 → dM → Prop} (h : Q (1 : Int32) m) : j_X12_areWired_70_69 (d + 1) m Q := by
  refine w_iconst (q := 70) hm26 ⟨⟨_, _, rfl⟩, rfl⟩ iconst_1 ?_
  exact w_retz hm26 ⟨⟨_, _, rfl⟩, rfl⟩ rfl (by decide) h
theorem v_X12_areWired_70_71 {d : Nat} {x1 : Int32} {x2 : Int32} {x3 : Int32} {m : dM} {Q : Int32 → dM → Prop} (h : j_X12_areWired_70_8 (d + 1) x1 x2 (x3 + (1 : Int32)) m Q) : j_X12_areWired_70_71 (d + 1) x1 x2 x3 m Q := by
  refine w_iinc (q := 74) (l' := [oR 70, oI x1, oI x2, oI (x3 + (1 : Int32))]) hm26 ⟨⟨_, _, rfl⟩, rfl⟩ rfl rfl rfl iconst_1 rfl ?_
  refine w_goto (q := 8) hm26 ⟨_, _, rfl⟩ ?_
  exact h
theorem v_X12_tellWire_70 {d : Nat} {m : dM} {Q : dM → Prop} (h : ((0 ≤ (m.1 70 19).toInt ∧ (m.1 70 19).toInt < 2) ∧ c_X12_knownFlat_70 d m (fun r1 m1 => c_X12_knownFlat_70 d m1 (fun r2 m2 => (((m2.1 70 13).toInt ≠ 0 → j_X12_tellWire_70_72 (d + 1) (((10 : Int32) * (m.1 70 19)) + (m.1 82 (m.1 70 19).toNatClampNeg)) r1 r2 m2 Q) ∧ ((m2.1 70 13).toInt = 0 → ((r1.toInt < 0 → j_X12_tellWire_70_72 (d + 1) (((10 : Int32) * (m.1 70 19)) + (m.1 82 (m.1 70 19).toNatClampNeg)) r1 r2 m2 Q) ∧ (0 ≤ r1.toInt → ((r2.toInt < 0 → j_X12_tellWire_70_72 (d + 1) (((10 : Int32) * (m.1 70 19)) + (m.1 82 (m.1 70 19).toNatClampNeg)) r1 r2 m2 Q) ∧ (0 ≤ r2.toInt → ((r1.toInt = r2.toInt → j_X12_tellWire_70_66 (d + 1) (((10 : Int32) * (m.1 70 19)) + (m.1 82 (m.1 70 19).toNatClampNeg)) r1 (m1.1 70 11) r2 m2 Q) ∧ (r1.toInt ≠ r2.toInt → c_X12_areWired_70 d r1 r2 m2 (fun r3 m3 => ((r3.toInt = 0 → j_X12_tellWire_70_72 (d + 1) (((10 : Int32) * (m.1 70 19)) + (m.1 82 (m.1 70 19).toNatClampNeg)) r1 r2 m3 Q) ∧ (r3.toInt ≠ 0 → j_X12_tellWire_70_66 (d + 1) (((10 : Int32) * (m.1 70 19)) + (m.1 82 (m.1 70 19).toNatClampNeg)) r1 (m1.1 70 11) r2 m3 Q))))))))))))))) : c_X12_tellWire_70 (d + 1) m Q := by
  refine w_bipush (q := 2) hm27 ⟨⟨_, _, rfl⟩, rfl⟩ bipush_10 ?_
  refine w_aload_n (q := 3) hm27 ⟨⟨_, _, rfl⟩, rfl⟩ rfl ?_
  refine w_getf (q := 6) (v := (m.1 70 19)) hm27 ⟨⟨_, _, rfl⟩, rfl⟩ rfl rfl ?_
  refine w_imul (q := 7) hm27 ⟨⟨_, _, rfl⟩, rfl⟩ ?_
  refine w_aload_n (q := 8) hm27 ⟨⟨_, _, rfl⟩, rfl⟩ rfl ?_
  refine w_getr (q := 11) hm27 ⟨⟨_, _, rfl⟩, rfl⟩ rfl ?_
  refine w_aload_n (q := 12) hm27 ⟨⟨_, _, rfl⟩, rfl⟩ rfl ?_
  refine w_getf (q := 15) (v := (m.1 70 19)) hm27 ⟨⟨_, _, rfl⟩, rfl⟩ rfl rfl ?_
  obtain ⟨hi, h⟩ := h
  refine w_iald (q := 16) (v := (m.1 82 (m.1 70 19).toNatClampNeg)) hm27 ⟨⟨_, _, rfl⟩, rfl⟩ rfl hi rfl rfl ?_
  refine w_iadd (q := 17) hm27 ⟨⟨_, _, rfl⟩, rfl⟩ ?_
  refine w_istore_n (q := 18) (l' := [oR 70, oI (((10 : Int32) * (m.1 70 19)) + (m.1 82 (m.1 70 19).toNatClampNeg)), none, none, none]) hm27 ⟨⟨_, _, rfl⟩, rfl⟩ rfl rfl rfl ?_
  refine w_aload_n (q := 19) hm27 ⟨⟨_, _, rfl⟩, rfl⟩ rfl ?_
  refine w_call (q := 22) (n := 2) (vs := [.inr (.inr (some 70))]) (rest := []) (la := [oR 70, none, none]) hm27 ⟨⟨_, _, rfl⟩, rfl⟩ rfl rfl rfl rfl hm24 rfl rfl (fun _ => ⟨_, _, rfl, rfl⟩) rfl (Wp.mono h ?_)
  rintro _ m1 ⟨r1, rfl, h⟩
  change Wp _ _ 22 _ [.inl r1] _ _
  refine w_istore_n (q := 23) (l' := [oR 70, oI (((10 : Int32) * (m.1 70 19)) + (m.1 82 (m.1 70 19).toNatClampNeg)), oI r1, none, none]) hm27 ⟨⟨_, _, rfl⟩, rfl⟩ rfl rfl rfl ?_
  refine w_aload_n (q := 24) hm27 ⟨⟨_, _, rfl⟩, rfl⟩ rfl ?_
  refine w_getf (q := 27) (v := (m1.1 70 11)) hm27 ⟨⟨_, _, rfl⟩, rfl⟩ rfl rfl ?_
  refine w_istore_n (q := 28) (l' := [oR 70, oI (((10 : Int32) * (m.1 70 19)) + (m.1 82 (m.1 70 19).toNatClampNeg)), oI r1, oI (m1.1 70 11), none]) hm27 ⟨⟨_, _, rfl⟩, rfl⟩ rfl rfl rfl ?_
  refine w_aload_n (q := 29) hm27 ⟨⟨_, _, rfl⟩, rfl⟩ rfl ?_
  refine w_call (q := 32) (n := 2) (vs := [.inr (.inr (some 70))]) (rest := []) (la := [oR 70, none, none]) hm27 ⟨⟨_, _, rfl⟩, rfl⟩ rfl rfl rfl rfl hm24 rfl rfl (fun _ => ⟨_, _, rfl, rfl⟩) rfl (Wp.mono h ?_)
  rintro _ m2 ⟨r2, rfl, h⟩
  change Wp _ _ 32 _ [.inl r2] _ _
  refine w_istore (q := 34) (l' := [oR 70, oI (((10 : Int32) * (m.1 70 19)) + (m.1 82 (m.1 70 19).toNatClampNeg)), oI r1, oI (m1.1 70 11), oI r2]) hm27 ⟨⟨_, _, rfl⟩, rfl⟩ rfl rfl rfl ?_
  refine w_aload_n (q := 35) hm27 ⟨⟨_, _, rfl⟩, rfl⟩ rfl ?_
  refine w_getf (q := 38) (v := (m2.1 70 13)) hm27 ⟨⟨_, _, rfl⟩, rfl⟩ rfl rfl ?_
  refine w_if_ne (q := 41) (X := (m2.1 70 13).toInt) hm27 ⟨⟨_, _, rfl⟩, rfl⟩ rfl (fun hc => ?_) (fun hc => ?_)
  · have h := h.1 hc
    exact Wp.wk [true, true, true, false, true] h
  · have h := h.2 hc
    refine w_iload_n (q := 42) hm27 ⟨⟨_, _, rfl⟩, rfl⟩ rfl ?_
    refine w_if_lt (q := 45) (X := r1.toInt) hm27 ⟨⟨_, _, rfl⟩, rfl⟩ rfl (fun hc => ?_) (fun hc => ?_)
    · have h := h.1 hc
      exact Wp.wk [true, true, true, false, true] h
    · have h := h.2 hc
      refine w_iload (q := 47) hm27 ⟨⟨_, _, rfl⟩, rfl⟩ rfl ?_
      refine w_if_lt (q := 50) (X := r2.toInt) hm27 ⟨⟨_, _, rfl⟩, rfl⟩ rfl (fun hc => ?_) (fun hc => ?_)
      · have h := h.1 hc
        exact Wp.wk [true, true, true, false, true] h
      · have h := h.2 hc
        refine w_iload_n (q := 51) hm27 ⟨⟨_, _, rfl⟩, rfl⟩ rfl ?_
        refine w_iload (q := 53) hm27 ⟨⟨_, _, rfl⟩, rfl⟩ rfl ?_
        refine w_icmp_eq (q := 56) (X := r1.toInt) (Y := r2.toInt) hm27 ⟨⟨_, _, rfl⟩, rfl⟩ rfl rfl (fun hc => ?_) (fun hc => ?_)
        · have h := h.1 hc
          exact h
        · have h := h.2 hc
          refine w_aload_n (q := 57) hm27 ⟨⟨_, _, rfl⟩, rfl⟩ rfl ?_
          refine w_iload_n (q := 58) hm27 ⟨⟨_, _, rfl⟩, rfl⟩ rfl ?_
          refine w_iload (q := 60) hm27 ⟨⟨_, _, rfl⟩, rfl⟩ rfl ?_
          refine w_call (q := 63) (n := 1) (vs := [.inr (.inr (some 70)), .inl r1, .inl r2]) (rest := []) (la := [oR 70, oI r1, oI r2, none]) hm27 ⟨⟨_, _, rfl⟩, rfl⟩ rfl rfl rfl rfl hm26 rfl rfl (fun _ => ⟨_, _, rfl, rfl⟩) rfl (Wp.mono h ?_)
          rintro _ m3 ⟨r3, rfl, h⟩
          change Wp _ _ 63 _ [.inl r3] _ _
          refine w_if_eq (q := 66) (X := r3.toInt) hm27 ⟨⟨_, _, rfl⟩, rfl⟩ rfl (fun hc => ?_) (fun hc => ?_)
          · have h := h.1 hc
            exact Wp.wk [true, true, true, false, true] h
          · have h := h.2 hc
            exact h
theorem v_X12_tellWire_70_66 {d : Nat} {x1 : Int32} {x2 : Int32} {x3 : Int32} {x4 : Int32} {m : dM} {Q : dM → Prop} (h : c_X12_wrong_70 d (3 : Int32) x3 m (fun m1 => j_X12_tellWire_70_72 (d + 1) x1 x2 x4 m1 Q)) : j_X12_tellWire_70_66 (d + 1) x1 x2 x3 x4 m Q := by
  refine w_aload_n (q := 67) hm27 ⟨⟨_, _, rfl⟩, rfl⟩ rfl ?_
  refine w_iconst (q := 68) hm27 ⟨⟨_, _, rfl⟩, rfl⟩ iconst_3 ?_
  refine w_iload_n (q := 69) hm27 ⟨⟨_, _, rfl⟩, rfl⟩ rfl ?_
  refine w_call (q := 72) (n := 1) (vs := [.inr (.inr (some 70)), .inl (3 : Int32), .inl x3]) (rest := []) (la := [oR 70, oI (3 : Int32), oI x3, none]) hm27 ⟨⟨_, _, rfl⟩, rfl⟩ rfl rfl rfl rfl hm14 rfl rfl (fun _ => ⟨_, _, rfl, rfl⟩) rfl (Wp.mono h ?_)
  rintro _ m1 ⟨rfl, h⟩
  change Wp _ _ 72 _ [] _ _
  exact Wp.wk [true, true, true, false, true] h
theorem v_X12_tellWire_70_72 {d : Nat} {x1 : Int32} {x2 : Int32} {x4 : Int32} {m : dM} {Q : dM → Prop} (h : ((0 ≤ x1.toInt ∧ x1.toInt < 20) ∧ ((0 ≤ x1.toInt ∧ x1.toInt < 20) ∧ c_X12_bounded_70 d (1 : Int32) (99 : Int32) (dSet (dSet m 83 x1.toNatClampNeg x2) 84 x1.toNatClampNeg x4) (fun r1 m1 => ((0 ≤ x1.toInt ∧ x1.toInt < 20) ∧ c_X12_must_70 d (4 : Int32) (dSet m1 85 x1.toNatClampNeg r1) (fun m2 => (((m2.1 70 13).toInt ≠ 0 → j_X12_tellWire_70_125 (d + 1) m2 Q) ∧ ((m2.1 70 13).toInt = 0 → ((0 ≤ (m2.1 70 19).toInt ∧ (m2.1 70 19).toInt < 2) ∧ ((0 ≤ (m2.1 70 19).toInt ∧ (m2.1 70 19).toInt < 2) ∧ j_X12_tellWire_70_125 (d + 1) (dSet m2 82 (m2.1 70 19).toNatClampNeg ((m2.1 82 (m2.1 70 19).toNatClampNeg) + (1 : Int32))) Q)))))))))) : j_X12_tellWire_70_72 (d + 1) x1 x2 x4 m Q := by
  refine w_aload_n (q := 73) hm27 ⟨⟨_, _, rfl⟩, rfl⟩ rfl ?_
  refine w_getr (q := 76) hm27 ⟨⟨_, _, rfl⟩, rfl⟩ rfl ?_
  refine w_iload_n (q := 77) hm27 ⟨⟨_, _, rfl⟩, rfl⟩ rfl ?_
  refine w_iload_n (q := 78) hm27 ⟨⟨_, _, rfl⟩, rfl⟩ rfl ?_
  obtain ⟨hi, h⟩ := h
  refine w_iast (q := 79) hm27 ⟨⟨_, _, rfl⟩, rfl⟩ rfl hi rfl rfl ?_
  refine w_aload_n (q := 80) hm27 ⟨⟨_, _, rfl⟩, rfl⟩ rfl ?_
  refine w_getr (q := 83) hm27 ⟨⟨_, _, rfl⟩, rfl⟩ rfl ?_
  refine w_iload_n (q := 84) hm27 ⟨⟨_, _, rfl⟩, rfl⟩ rfl ?_
  refine w_iload (q := 86) hm27 ⟨⟨_, _, rfl⟩, rfl⟩ rfl ?_
  obtain ⟨hi, h⟩ := h
  refine w_iast (q := 87) hm27 ⟨⟨_, _, rfl⟩, rfl⟩ rfl hi rfl rfl ?_
  refine w_aload_n (q := 88) hm27 ⟨⟨_, _, rfl⟩, rfl⟩ rfl ?_
  refine w_getr (q := 91) hm27 ⟨⟨_, _, rfl⟩, rfl⟩ rfl ?_
  refine w_iload_n (q := 92) hm27 ⟨⟨_, _, rfl⟩, rfl⟩ rfl ?_
  refine w_aload_n (q := 93) hm27 ⟨⟨_, _, rfl⟩, rfl⟩ rfl ?_
  refine w_iconst (q := 94) hm27 ⟨⟨_, _, rfl⟩, rfl⟩ iconst_1 ?_
  refine w_bipush (q := 96) hm27 ⟨⟨_, _, rfl⟩, rfl⟩ bipush_99 ?_
  refine w_call (q := 99) (n := 1) (vs := [.inr (.inr (some 70)), .inl (1 : Int32), .inl (99 : Int32)]) (rest := [.inl x1, .inr (.inr (some 85))]) (la := [oR 70, oI (1 : Int32), oI (99 : Int32), none]) hm27 ⟨⟨_, _, rfl⟩, rfl⟩ rfl rfl rfl rfl hm25 rfl rfl (fun _ => ⟨_, _, rfl, rfl⟩) rfl (Wp.mono h ?_)
  rintro _ m1 ⟨r1, rfl, h⟩
  change Wp _ _ 99 _ [.inl r1, .inl x1, .inr (.inr (some 85))] _ _
  obtain ⟨hi, h⟩ := h
  refine w_iast (q := 100) hm27 ⟨⟨_, _, rfl⟩, rfl⟩ rfl hi rfl rfl ?_
  refine w_aload_n (q := 101) hm27 ⟨⟨_, _, rfl⟩, rfl⟩ rfl ?_
  refine w_iconst (q := 102) hm27 ⟨⟨_, _, rfl⟩, rfl⟩ iconst_4 ?_
  refine w_call (q := 105) (n := 0) (vs := [.inr (.inr (some 70)), .inl (4 : Int32)]) (rest := []) (la := [oR 70, oI (4 : Int32)]) hm27 ⟨⟨_, _, rfl⟩, rfl⟩ rfl rfl rfl rfl hm16 rfl rfl (fun _ => ⟨_, _, rfl, rfl⟩) rfl (Wp.mono h ?_)
  rintro _ m2 ⟨rfl, h⟩
  change Wp _ _ 105 _ [] _ _
  refine w_aload_n (q := 106) hm27 ⟨⟨_, _, rfl⟩, rfl⟩ rfl ?_
  refine w_getf (q := 109) (v := (m2.1 70 13)) hm27 ⟨⟨_, _, rfl⟩, rfl⟩ rfl rfl ?_
  refine w_if_ne (q := 112) (X := (m2.1 70 13).toInt) hm27 ⟨⟨_, _, rfl⟩, rfl⟩ rfl (fun hc => ?_) (fun hc => ?_)
  · have h := h.1 hc
    exact Wp.wk [false, false, false, false, false] h
  · have h := h.2 hc
    refine w_aload_n (q := 113) hm27 ⟨⟨_, _, rfl⟩, rfl⟩ rfl ?_
    refine w_getr (q := 116) hm27 ⟨⟨_, _, rfl⟩, rfl⟩ rfl ?_
    refine w_aload_n (q := 117) hm27 ⟨⟨_, _, rfl⟩, rfl⟩ rfl ?_
    refine w_getf (q := 120) (v := (m2.1 70 19)) hm27 ⟨⟨_, _, rfl⟩, rfl⟩ rfl rfl ?_
    refine w_dup2 (q := 121) hm27 ⟨⟨_, _, rfl⟩, rfl⟩ rfl ?_
    obtain ⟨hi, h⟩ := h
    refine w_iald (q := 122) (v := (m2.1 82 (m2.1 70 19).toNatClampNeg)) hm27 ⟨⟨_, _, rfl⟩, rfl⟩ rfl hi rfl rfl ?_
    refine w_iconst (q := 123) hm27 ⟨⟨_, _, rfl⟩, rfl⟩ iconst_1 ?_
    refine w_iadd (q := 124) hm27 ⟨⟨_, _, rfl⟩, rfl⟩ ?_
    obtain ⟨hi, h⟩ := h
    refine w_iast (q := 125) hm27 ⟨⟨_, _, rfl⟩, rfl⟩ rfl hi rfl rfl ?_
    exact Wp.wk [false, false, false, false, false] h
theorem v_X12_tellWire_70_125 {d : Nat} {m : dM} {Q : dM → Prop} (h : Q m) : j_X12_tellWire_70_125 (d + 1) m Q := by
  exact w_retv hm27 ⟨⟨_, _, rfl⟩, rfl⟩ rfl h
