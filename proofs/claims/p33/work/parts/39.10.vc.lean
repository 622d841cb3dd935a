theorem v_X11_pin_0 {d : Nat} {x1 : Int32} {x2 : Int32} {m : dM} {Q : Int32 → dM → Prop} (h : c_X11_isWire_0 d x1 m (fun r1 m1 => ((r1.toInt = 0 → j_X11_pin_0_37 (d + 1) m1 Q) ∧ (r1.toInt ≠ 0 → c_X11_has d (m1.1 47 3) x1 m1 (fun r2 m2 => ((r2.toInt ≠ 0 → j_X11_pin_0_37 (d + 1) m2 Q) ∧ (r2.toInt = 0 → c_X11_has d (m2.1 47 4) x1 m2 (fun r3 m3 => ((r3.toInt ≠ x2.toInt → c_X6_keep_51_47 d m3 (fun m4 => Q (1 : Int32) (dSet m4 47 4 ((m4.1 47 4) ^^^ ((1 : Int32) <<< (x1 &&& 31)))))) ∧ (r3.toInt = x2.toInt → j_X11_pin_0_37 (d + 1) m3 Q)))))))))) : c_X11_pin_0 (d + 1) x1 x2 m Q := by
  refine w_aload_n (q := 1) hm257 ⟨⟨_, _, rfl⟩, rfl⟩ rfl ?_
  refine w_iload_n (q := 2) hm257 ⟨⟨_, _, rfl⟩, rfl⟩ rfl ?_
  refine w_call (q := 5) (n := 0) (vs := [.inr (.inr (some 0)), .inl x1]) (rest := []) (la := [oR 0, oI x1]) hm257 ⟨⟨_, _, rfl⟩, rfl⟩ rfl rfl rfl rfl hm249 rfl rfl (fun _ => ⟨_, _, rfl, rfl⟩) rfl (Wp.mono h ?_)
  rintro _ m1 ⟨r1, rfl, h⟩
  change Wp _ _ 5 _ [.inl r1] _ _
  refine w_if_eq (q := 8) (X := r1.toInt) hm257 ⟨⟨_, _, rfl⟩, rfl⟩ rfl (fun hc => ?_) (fun hc => ?_)
  · have h := h.1 hc
    exact Wp.wk [false, false, false] h
  · have h := h.2 hc
    refine w_aload_n (q := 9) hm257 ⟨⟨_, _, rfl⟩, rfl⟩ rfl ?_
    refine w_getr (q := 12) hm257 ⟨⟨_, _, rfl⟩, rfl⟩ rfl ?_
    refine w_getf (q := 15) (v := (m1.1 47 3)) hm257 ⟨⟨_, _, rfl⟩, rfl⟩ rfl rfl ?_
    refine w_iload_n (q := 16) hm257 ⟨⟨_, _, rfl⟩, rfl⟩ rfl ?_
    refine w_call (q := 19) (n := 0) (vs := [.inl (m1.1 47 3), .inl x1]) (rest := []) (la := [oI (m1.1 47 3), oI x1]) hm257 ⟨⟨_, _, rfl⟩, rfl⟩ rfl rfl rfl rfl hm283 rfl rfl (fun hz => absurd hz (by decide)) rfl (Wp.mono h ?_)
    rintro _ m2 ⟨r2, rfl, h⟩
    change Wp _ _ 19 _ [.inl r2] _ _
    refine w_if_ne (q := 22) (X := r2.toInt) hm257 ⟨⟨_, _, rfl⟩, rfl⟩ rfl (fun hc => ?_) (fun hc => ?_)
    · have h := h.1 hc
      exact Wp.wk [false, false, false] h
    · have h := h.2 hc
      refine w_aload_n (q := 23) hm257 ⟨⟨_, _, rfl⟩, rfl⟩ rfl ?_
      refine w_getr (q := 26) hm257 ⟨⟨_, _, rfl⟩, rfl⟩ rfl ?_
      refine w_getf (q := 29) (v := (m2.1 47 4)) hm257 ⟨⟨_, _, rfl⟩, rfl⟩ rfl rfl ?_
      refine w_iload_n (q := 30) hm257 ⟨⟨_, _, rfl⟩, rfl⟩ rfl ?_
      refine w_call (q := 33) (n := 0) (vs := [.inl (m2.1 47 4), .inl x1]) (rest := []) (la := [oI (m2.1 47 4), oI x1]) hm257 ⟨⟨_, _, rfl⟩, rfl⟩ rfl rfl rfl rfl hm283 rfl rfl (fun hz => absurd hz (by decide)) rfl (Wp.mono h ?_)
      rintro _ m3 ⟨r3, rfl, h⟩
      change Wp _ _ 33 _ [.inl r3] _ _
      refine w_iload_n (q := 34) hm257 ⟨⟨_, _, rfl⟩, rfl⟩ rfl ?_
      refine w_icmp_ne (q := 37) (X := r3.toInt) (Y := x2.toInt) hm257 ⟨⟨_, _, rfl⟩, rfl⟩ rfl rfl (fun hc => ?_) (fun hc => ?_)
      · have h := h.1 hc
        refine w_aload_n (q := 40) hm257 ⟨⟨_, _, rfl⟩, rfl⟩ rfl ?_
        refine w_getr (q := 43) hm257 ⟨⟨_, _, rfl⟩, rfl⟩ rfl ?_
        refine w_aload_n (q := 44) hm257 ⟨⟨_, _, rfl⟩, rfl⟩ rfl ?_
        refine w_getr (q := 47) hm257 ⟨⟨_, _, rfl⟩, rfl⟩ rfl ?_
        refine w_call (q := 50) (n := 0) (vs := [.inr (.inr (some 51)), .inr (.inr (some 47))]) (rest := []) (la := [oR 51, oR 47]) hm257 ⟨⟨_, _, rfl⟩, rfl⟩ rfl rfl rfl rfl hm203 rfl rfl (fun _ => ⟨_, _, rfl, rfl⟩) rfl (Wp.mono h ?_)
        rintro _ m4 ⟨rfl, h⟩
        change Wp _ _ 50 _ [] _ _
        refine w_aload_n (q := 51) hm257 ⟨⟨_, _, rfl⟩, rfl⟩ rfl ?_
        refine w_getr (q := 54) hm257 ⟨⟨_, _, rfl⟩, rfl⟩ rfl ?_
        refine w_dup (q := 55) hm257 ⟨⟨_, _, rfl⟩, rfl⟩ rfl ?_
        refine w_getf (q := 58) (v := (m4.1 47 4)) hm257 ⟨⟨_, _, rfl⟩, rfl⟩ rfl rfl ?_
        refine w_iconst (q := 59) hm257 ⟨⟨_, _, rfl⟩, rfl⟩ iconst_1 ?_
        refine w_iload_n (q := 60) hm257 ⟨⟨_, _, rfl⟩, rfl⟩ rfl ?_
        refine w_ishl (q := 61) hm257 ⟨⟨_, _, rfl⟩, rfl⟩ ?_
        refine w_ixor (q := 62) hm257 ⟨⟨_, _, rfl⟩, rfl⟩ ?_
        refine w_putf (q := 65) hm257 ⟨⟨_, _, rfl⟩, rfl⟩ rfl rfl rfl ?_
        refine w_iconst (q := 66) hm257 ⟨⟨_, _, rfl⟩, rfl⟩ iconst_1 ?_
        exact w_retz hm257 ⟨⟨_, _, rfl⟩, rfl⟩ rfl (by decide) h
      · have h := h.2 hc
        exact Wp.wk [false, false, false] h
theorem v_X11_pin_0_37 {d : Nat} {m : dM} {Q : Int32 → dM → Prop} (h : Q (0 : Int32) m) : j_X11_pin_0_37 (d + 1) m Q := by
  refine w_iconst (q := 38) hm257 ⟨⟨_, _, rfl⟩, rfl⟩ iconst_0 ?_
  exact w_retz hm257 ⟨⟨_, _, rfl⟩, rfl⟩ rfl (by decide) h
theorem v_X12_pin_70 {d : Nat} {x1 : Int32} {x2 : Int32} {m : dM} {Q : Int32 → dM → Prop} (h : c_X12_isWire_70 d x1 m (fun r1 m1 => ((r1.toInt = 0 → j_X12_pin_70_43 (d + 1) m1 Q) ∧ (r1.toInt ≠ 0 → ((0 ≤ ((10 : Int32) + x1).toInt ∧ ((10 : Int32) + x1).toInt < 58) ∧ (((m1.1 107 ((10 : Int32) + x1).toNatClampNeg).toInt = 1 → j_X12_pin_70_43 (d + 1) m1 Q) ∧ ((m1.1 107 ((10 : Int32) + x1).toNatClampNeg).toInt ≠ 1 → ((0 ≤ ((30 : Int32) + x1).toInt ∧ ((30 : Int32) + x1).toInt < 58) ∧ (((m1.1 107 ((30 : Int32) + x1).toNatClampNeg).toInt ≠ 1 → ((0 ≠ x2.toInt → c_X12_copies_70 d m1 (fun m2 => ((x2.toInt = 0 → ((0 ≤ ((30 : Int32) + x1).toInt ∧ ((30 : Int32) + x1).toInt < 58) ∧ c_X12_records_70 d (dSet m2 108 ((30 : Int32) + x1).toNatClampNeg (0 : Int32)) (fun m3 => Q (1 : Int32) m3))) ∧ (x2.toInt ≠ 0 → ((0 ≤ ((30 : Int32) + x1).toInt ∧ ((30 : Int32) + x1).toInt < 58) ∧ c_X12_records_70 d (dSet m2 108 ((30 : Int32) + x1).toNatClampNeg (1 : Int32)) (fun m4 => Q (1 : Int32) m4)))))) ∧ (0 = x2.toInt → j_X12_pin_70_43 (d + 1) m1 Q))) ∧ ((m1.1 107 ((30 : Int32) + x1).toNatClampNeg).toInt = 1 → ((1 ≠ x2.toInt → c_X12_copies_70 d m1 (fun m5 => ((x2.toInt = 0 → ((0 ≤ ((30 : Int32) + x1).toInt ∧ ((30 : Int32) + x1).toInt < 58) ∧ c_X12_records_70 d (dSet m5 108 ((30 : Int32) + x1).toNatClampNeg (0 : Int32)) (fun m6 => Q (1 : Int32) m6))) ∧ (x2.toInt ≠ 0 → ((0 ≤ ((30 : Int32) + x1).toInt ∧ ((30 : Int32) + x1).toInt < 58) ∧ c_X12_records_70 d (dSet m5 108 ((30 : Int32) + x1).toNatClampNeg (1 : Int32)) (fun m7 => Q (1 : Int32) m7)))))) ∧ (1 = x2.toInt → j_X12_pin_70_43 (d + 1) m1 Q)))))))))))) : c_X12_pin_70 (d + 1) x1 x2 m Q := by
  refine w_aload_n (q := 1) hm77 ⟨⟨_, _, rfl⟩, rfl⟩ rfl ?_
  refine w_iload_n (q := 2) hm77 ⟨⟨_, _, rfl⟩, rfl⟩ rfl ?_
  refine w_call (q := 5) (n := 0) (vs := [.inr (.inr (some 70)), .inl x1]) (rest := []) (la := [oR 70, oI x1]) hm77 ⟨⟨_, _, rfl⟩, rfl⟩ rfl rfl rfl rfl hm40 rfl rfl (fun _ => ⟨_, _, rfl, rfl⟩) rfl (Wp.mono h ?_)
  rintro _ m1 ⟨r1, rfl, h⟩
  change Wp _ _ 5 _ [.inl r1] _ _
  refine w_if_eq (q := 8) (X := r1.toInt) hm77 ⟨⟨_, _, rfl⟩, rfl⟩ rfl (fun hc => ?_) (fun hc => ?_)
  · have h := h.1 hc
    exact Wp.wk [false, false, false] h
  · have h := h.2 hc
    refine w_aload_n (q := 9) hm77 ⟨⟨_, _, rfl⟩, rfl⟩ rfl ?_
    refine w_getr (q := 12) hm77 ⟨⟨_, _, rfl⟩, rfl⟩ rfl ?_
    refine w_bipush (q := 14) hm77 ⟨⟨_, _, rfl⟩, rfl⟩ bipush_10 ?_
    refine w_iload_n (q := 15) hm77 ⟨⟨_, _, rfl⟩, rfl⟩ rfl ?_
    refine w_iadd (q := 16) hm77 ⟨⟨_, _, rfl⟩, rfl⟩ ?_
    obtain ⟨hi, h⟩ := h
    refine w_iald (q := 17) (v := (m1.1 107 ((10 : Int32) + x1).toNatClampNeg)) hm77 ⟨⟨_, _, rfl⟩, rfl⟩ rfl hi rfl rfl ?_
    refine w_iconst (q := 18) hm77 ⟨⟨_, _, rfl⟩, rfl⟩ iconst_1 ?_
    refine w_icmp_eq (q := 21) (X := (m1.1 107 ((10 : Int32) + x1).toNatClampNeg).toInt) (Y := 1) hm77 ⟨⟨_, _, rfl⟩, rfl⟩ rfl (by decide) (fun hc => ?_) (fun hc => ?_)
    · have h := h.1 hc
      exact Wp.wk [false, false, false] h
    · have h := h.2 hc
      refine w_aload_n (q := 22) hm77 ⟨⟨_, _, rfl⟩, rfl⟩ rfl ?_
      refine w_getr (q := 25) hm77 ⟨⟨_, _, rfl⟩, rfl⟩ rfl ?_
      refine w_bipush (q := 27) hm77 ⟨⟨_, _, rfl⟩, rfl⟩ bipush_30 ?_
      refine w_iload_n (q := 28) hm77 ⟨⟨_, _, rfl⟩, rfl⟩ rfl ?_
      refine w_iadd (q := 29) hm77 ⟨⟨_, _, rfl⟩, rfl⟩ ?_
      obtain ⟨hi, h⟩ := h
      refine w_iald (q := 30) (v := (m1.1 107 ((30 : Int32) + x1).toNatClampNeg)) hm77 ⟨⟨_, _, rfl⟩, rfl⟩ rfl hi rfl rfl ?_
      refine w_iconst (q := 31) hm77 ⟨⟨_, _, rfl⟩, rfl⟩ iconst_1 ?_
      refine w_icmp_ne (q := 34) (X := (m1.1 107 ((30 : Int32) + x1).toNatClampNeg).toInt) (Y := 1) hm77 ⟨⟨_, _, rfl⟩, rfl⟩ rfl (by decide) (fun hc => ?_) (fun hc => ?_)
      · have h := h.1 hc
        refine w_iconst (q := 39) hm77 ⟨⟨_, _, rfl⟩, rfl⟩ iconst_0 ?_
        refine w_iload_n (q := 40) hm77 ⟨⟨_, _, rfl⟩, rfl⟩ rfl ?_
        refine w_icmp_ne (q := 43) (X := 0) (Y := x2.toInt) hm77 ⟨⟨_, _, rfl⟩, rfl⟩ (by decide) rfl (fun hc => ?_) (fun hc => ?_)
        · have h := h.1 hc
          refine w_aload_n (q := 46) hm77 ⟨⟨_, _, rfl⟩, rfl⟩ rfl ?_
          refine w_call (q := 49) (n := 1) (vs := [.inr (.inr (some 70))]) (rest := []) (la := [oR 70, none]) hm77 ⟨⟨_, _, rfl⟩, rfl⟩ rfl rfl rfl rfl hm44 rfl rfl (fun _ => ⟨_, _, rfl, rfl⟩) rfl (Wp.mono h ?_)
          rintro _ m2 ⟨rfl, h⟩
          change Wp _ _ 49 _ [] _ _
          refine w_aload_n (q := 50) hm77 ⟨⟨_, _, rfl⟩, rfl⟩ rfl ?_
          refine w_getr (q := 53) hm77 ⟨⟨_, _, rfl⟩, rfl⟩ rfl ?_
          refine w_bipush (q := 55) hm77 ⟨⟨_, _, rfl⟩, rfl⟩ bipush_30 ?_
          refine w_iload_n (q := 56) hm77 ⟨⟨_, _, rfl⟩, rfl⟩ rfl ?_
          refine w_iadd (q := 57) hm77 ⟨⟨_, _, rfl⟩, rfl⟩ ?_
          refine w_iload_n (q := 58) hm77 ⟨⟨_, _, rfl⟩, rfl⟩ rfl ?_
          refine w_if_eq (q := 61) (X := x2.toInt) hm77 ⟨⟨_, _, rfl⟩, rfl⟩ rfl (fun hc => ?_) (fun hc => ?_)
          · have h := h.1 hc
            refine w_iconst (q := 66) hm77 ⟨⟨_, _, rfl⟩, rfl⟩ iconst_0 ?_
            obtain ⟨hi, h⟩ := h
            refine w_iast (q := 67) hm77 ⟨⟨_, _, rfl⟩, rfl⟩ rfl hi rfl rfl ?_
            refine w_aload_n (q := 68) hm77 ⟨⟨_, _, rfl⟩, rfl⟩ rfl ?_
            refine w_call (q := 71) (n := 1) (vs := [.inr (.inr (some 70))]) (rest := []) (la := [oR 70, none]) hm77 ⟨⟨_, _, rfl⟩, rfl⟩ rfl rfl rfl rfl hm73 rfl rfl (fun _ => ⟨_, _, rfl, rfl⟩) rfl (Wp.mono h ?_)
            rintro _ m3 ⟨rfl, h⟩
            change Wp _ _ 71 _ [] _ _
            refine w_iconst (q := 72) hm77 ⟨⟨_, _, rfl⟩, rfl⟩ iconst_1 ?_
            exact w_retz hm77 ⟨⟨_, _, rfl⟩, rfl⟩ rfl (by decide) h
          · have h := h.2 hc
            refine w_iconst (q := 62) hm77 ⟨⟨_, _, rfl⟩, rfl⟩ iconst_1 ?_
            refine w_goto (q := 66) hm77 ⟨_, _, rfl⟩ ?_
            obtain ⟨hi, h⟩ := h
            refine w_iast (q := 67) hm77 ⟨⟨_, _, rfl⟩, rfl⟩ rfl hi rfl rfl ?_
            refine w_aload_n (q := 68) hm77 ⟨⟨_, _, rfl⟩, rfl⟩ rfl ?_
            refine w_call (q := 71) (n := 1) (vs := [.inr (.inr (some 70))]) (rest := []) (la := [oR 70, none]) hm77 ⟨⟨_, _, rfl⟩, rfl⟩ rfl rfl rfl rfl hm73 rfl rfl (fun _ => ⟨_, _, rfl, rfl⟩) rfl (Wp.mono h ?_)
            rintro _ m4 ⟨rfl, h⟩
            change Wp _ _ 71 _ [] _ _
            refine w_iconst (q := 72) hm77 ⟨⟨_, _, rfl⟩, rfl⟩ iconst_1 ?_
            exact w_retz hm77 ⟨⟨_, _, rfl⟩, rfl⟩ rfl (by decide) h
        · have h := h.2 hc
          exact Wp.wk [false, false, false] h
      · have h := h.2 hc
        refine w_iconst (q := 35) hm77 ⟨⟨_, _, rfl⟩, rfl⟩ iconst_1 ?_
        refine w_goto (q := 39) hm77 ⟨_, _, rfl⟩ ?_
        refine w_iload_n (q := 40) hm77 ⟨⟨_, _, rfl⟩, rfl⟩ rfl ?_
        refine w_icmp_ne (q := 43) (X := 1) (Y := x2.toInt) hm77 ⟨⟨_, _, rfl⟩, rfl⟩ (by decide) rfl (fun hc => ?_) (fun hc => ?_)
        · have h := h.1 hc
          refine w_aload_n (q := 46) hm77 ⟨⟨_, _, rfl⟩, rfl⟩ rfl ?_
          refine w_call (q := 49) (n := 1) (vs := [.inr (.inr (some 70))]) (rest := []) (la := [oR 70, none]) hm77 ⟨⟨_, _, rfl⟩, rfl⟩ rfl rfl rfl rfl hm44 rfl rfl (fun _ => ⟨_, _, rfl, rfl⟩) rfl (Wp.mono h ?_)
          rintro _ m5 ⟨rfl, h⟩
          change Wp _ _ 49 _ [] _ _
          refine w_aload_n (q := 50) hm77 ⟨⟨_, _, rfl⟩, rfl⟩ rfl ?_
          refine w_getr (q := 53) hm77 ⟨⟨_, _, rfl⟩, rfl⟩ rfl ?_
          refine w_bipush (q := 55) hm77 ⟨⟨_, _, rfl⟩, rfl⟩ bipush_30 ?_
          refine w_iload_n (q := 56) hm77 ⟨⟨_, _, rfl⟩, rfl⟩ rfl ?_
          refine w_iadd (q := 57) hm77 ⟨⟨_, _, rfl⟩, rfl⟩ ?_
          refine w_iload_n (q := 58) hm77 ⟨⟨_, _, rfl⟩, rfl⟩ rfl ?_
          refine w_if_eq (q := 61) (X := x2.toInt) hm77 ⟨⟨_, _, rfl⟩, rfl⟩ rfl (fun hc => ?_) (fun hc => ?_)
          · have h := h.1 hc
            refine w_iconst (q := 66) hm77 ⟨⟨_, _, rfl⟩, rfl⟩ iconst_0 ?_
            obtain ⟨hi, h⟩ := h
            refine w_iast (q := 67) hm77 ⟨⟨_, _, rfl⟩, rfl⟩ rfl hi rfl rfl ?_
            refine w_aload_n (q := 68) hm77 ⟨⟨_, _, rfl⟩, rfl⟩ rfl ?_
            refine w_call (q := 71) (n := 1) (vs := [.inr (.inr (some 70))]) (rest := []) (la := [oR 70, none]) hm77 ⟨⟨_, _, rfl⟩, rfl⟩ rfl rfl rfl rfl hm73 rfl rfl (fun _ => ⟨_, _, rfl, rfl⟩) rfl (Wp.mono h ?_)
            rintro _ m6 ⟨rfl, h⟩
            change Wp _ _ 71 _ [] _ _
            refine w_iconst (q := 72) hm77 ⟨⟨_, _, rfl⟩, rfl⟩ iconst_1 ?_
            exact w_retz hm77 ⟨⟨_, _, rfl⟩, rfl⟩ rfl (by decide) h
          · have h := h.2 hc
            refine w_iconst (q := 62) hm77 ⟨⟨_, _, rfl⟩, rfl⟩ iconst_1 ?_
            refine w_goto (q := 66) hm77 ⟨_, _, rfl⟩ ?_
            obtain ⟨hi, h⟩ := h
            refine w_iast (q := 67) hm77 ⟨⟨_, _, rfl⟩, rfl⟩ rfl hi rfl rfl ?_
            refine w_aload_n (q := 68) hm77 ⟨⟨_, _, rfl⟩, rfl⟩ rfl ?_
            refine w_call (q := 71) (n := 1) (vs := [.inr (.inr (some 70))]) (rest := []) (la := [oR 70, none]) hm77 ⟨⟨_, _, rfl⟩, rfl⟩ rfl rfl rfl rfl hm73 rfl rfl (fun _ => ⟨_, _, rfl, rfl⟩) rfl (Wp.mono h ?_)
            rintro _ m7 ⟨rfl, h⟩
            change Wp _ _ 71 _ [] _ _
            refine w_iconst (q := 72) hm77 ⟨⟨_, _, rfl⟩, rfl⟩ iconst_1 ?_
            exact w_retz hm77 ⟨⟨_, _, rfl⟩, rfl⟩ rfl (by decide) h
        · have h := h.2 hc
          exact Wp.wk [false, false, false] h
theorem v_X12_pin_70_43 {d : Nat} {m : dM} {Q : Int32 → dM → Prop} (h : Q (0 : Int32) m) : j_X12_pin_70_43 (d + 1) m Q := by
  refine w_iconst (q := 44) hm77 ⟨⟨_, _, rfl⟩, rfl⟩ iconst_0 ?_
  exact w_retz hm77 ⟨⟨_, _, rfl⟩, rfl⟩ rfl (by decide) h
theorem v_X0_takePay_54_47 {d : Nat} {m : dM} {Q : dM → Prop} (h : c_X7_hourOfDay_47 d m (fun r1 m1 => c_X0_usesAt_54_47 d r1 m1 (fun r2 m2 => j_X0_takePay_54_47_12 (d + 1) r2 (0 : Int32) m2 Q))) : c_X0_takePay_54_47 (d + 1) m Q := by
  refine w_aload_n (q := 1) hm135 ⟨⟨_, _, rfl⟩, rfl⟩ rfl ?_
  refine w_aload_n (q := 2) hm135 ⟨⟨_, _, rfl⟩, rfl⟩ rfl ?_
  refine w_aload_n (q := 3) hm135 ⟨⟨_, _, rfl⟩, rfl⟩ rfl ?_
  refine w_call (q := 6) (n := 0) (vs := [.inr (.inr (some 47))]) (rest := [.inr (.inr (some 47)), .inr (.inr (some 54))]) (la := [oR 47]) hm135 ⟨⟨_, _, rfl⟩, rfl⟩ rfl rfl rfl rfl hm212 rfl rfl (fun _ => ⟨_, _, rfl, rfl⟩) rfl (Wp.mono h ?_)
  rintro _ m1 ⟨r1, rfl, h⟩
  change Wp _ _ 6 _ [.inl r1, .inr (.inr (some 47)), .inr (.inr (some 54))] _ _
  refine w_call (q := 9) (n := 3) (vs := [.inr (.inr (some 54)), .inr (.inr (some 47)), .inl r1]) (rest := []) (la := [oR 54, oR 47, oI r1, none, none, none]) hm135 ⟨⟨_, _, rfl⟩, rfl⟩ rfl rfl rfl rfl hm118 rfl rfl (fun _ => ⟨_, _, rfl, rfl⟩) rfl (Wp.mono h ?_)
  rintro _ m2 ⟨r2, rfl, h⟩
  change Wp _ _ 9 _ [.inl r2] _ _
  refine w_istore_n (q := 10) (l' := [oR 54, oR 47, oI r2, none]) hm135 ⟨⟨_, _, rfl⟩, rfl⟩ rfl rfl rfl ?_
  refine w_iconst (q := 11) hm135 ⟨⟨_, _, rfl⟩, rfl⟩ iconst_0 ?_
  refine w_istore_n (q := 12) (l' := [oR 54, oR 47, oI r2, oI (0 : Int32)]) hm135 ⟨⟨_, _, rfl⟩, rfl⟩ rfl rfl rfl ?_
  exact h
theorem v_X0_takePay_54_47_12 {d : Nat} {x2 : Int32} {x3 : Int32} {m : dM} {Q : dM → Prop} (h : (((m.1 2 2).toInt ≤ x3.toInt → Q m) ∧ (x3.toInt < (m.1 2 2).toInt → c_X11_has d x2 x3 m (fun r1 m1 => ((r1.toInt = 0 → j_X0_takePay_54_47_51 (d + 1) x2 x3 m1 Q) ∧ (r1.toInt ≠ 0 → c_X0_payOf_54_47 d x3 m1 (fun r2 m2 => j_X0_takePay_54_47_51 (d + 1) x2 x3 (dSet m2 47 1 (if ((m1.1 47 1) + r2) < (99999 : Int32) then ((m1.1 47 1) + r2) else (99999 : Int32))) Q))))))) : j_X0_takePay_54_47_12 (d + 1) x2 x3 m Q := by
  refine w_iload_n (q := 13) hm135 ⟨⟨_, _, rfl⟩, rfl⟩ rfl ?_
  refine w_aload_n (q := 14) hm135 ⟨⟨_, _, rfl⟩, rfl⟩ rfl ?_
  refine w_getr (q := 17) hm135 ⟨⟨_, _, rfl⟩, rfl⟩ rfl ?_
  refine w_getf (q := 20) (v := (m.1 2 2)) hm135 ⟨⟨_, _, rfl⟩, rfl⟩ rfl rfl ?_
  refine w_icmp_ge (q := 23) (X := x3.toInt) (Y := (m.1 2 2).toInt) hm135 ⟨⟨_, _, rfl⟩, rfl⟩ rfl rfl (fun hc => ?_) (fun hc => ?_)
  · have h := h.1 hc
    exact w_retv hm135 ⟨⟨_, _, rfl⟩, rfl⟩ rfl h
  · have h := h.2 hc
    refine w_iload_n (q := 24) hm135 ⟨⟨_, _, rfl⟩, rfl⟩ rfl ?_
    refine w_iload_n (q := 25) hm135 ⟨⟨_, _, rfl⟩, rfl⟩ rfl ?_
    refine w_call (q := 28) (n := 0) (vs := [.inl x2, .inl x3]) (rest := []) (la := [oI x2, oI x3]) hm135 ⟨⟨_, _, rfl⟩, rfl⟩ rfl rfl rfl rfl hm283 rfl rfl (fun hz => absurd hz (by decide)) rfl (Wp.mono h ?_)
    rintro _ m1 ⟨r1, rfl, h⟩
    change Wp _ _ 28 _ [.inl r1] _ _
    refine w_if_eq (q := 31) (X := r1.toInt) hm135 ⟨⟨_, _, rfl⟩, rfl⟩ rfl (fun hc => ?_) (fun hc => ?_)
    · have h := h.1 hc
      exact h
    · have h := h.2 hc
      refine w_aload_n (q := 32) hm135 ⟨⟨_, _, rfl⟩, rfl⟩ rfl ?_
      refine w_ldc (q := 34) hm135 ⟨⟨_, _, rfl⟩, rfl⟩ ldc_99999 ?_
      refine w_aload_n (q := 35) hm135 ⟨⟨_, _, rfl⟩, rfl⟩ rfl ?_
      refine w_getf (q := 38) (v := (m1.1 47 1)) hm135 ⟨⟨_, _, rfl⟩, rfl⟩ rfl rfl ?_
      refine w_aload_n (q := 39) hm135 ⟨⟨_, _, rfl⟩, rfl⟩ rfl ?_
      refine w_aload_n (q := 40) hm135 ⟨⟨_, _, rfl⟩, rfl⟩ rfl ?_
      refine w_iload_n (q := 41) hm135 ⟨⟨_, _, rfl⟩, rfl⟩ rfl ?_
      refine w_call (q := 44) (n := 0) (vs := [.inr (.inr (some 54)), .inr (.inr (some 47)), .inl x3]) (rest := [.inl (m1.1 47 1), .inl (99999 : Int32), .inr (.inr (some 47))]) (la := [oR 54, oR 47, oI x3]) hm135 ⟨⟨_, _, rfl⟩, rfl⟩ rfl rfl rfl rfl hm129 rfl rfl (fun _ => ⟨_, _, rfl, rfl⟩) rfl (Wp.mono h ?_)
      rintro _ m2 ⟨r2, rfl, h⟩
      change Wp _ _ 44 _ [.inl r2, .inl (m1.1 47 1), .inl (99999 : Int32), .inr (.inr (some 47))] _ _
      refine w_iadd (q := 45) hm135 ⟨⟨_, _, rfl⟩, rfl⟩ ?_
      refine w_min (q := 48) hm135 ⟨⟨_, _, rfl⟩, rfl⟩ rfl rfl ?_
      refine w_putf (q := 51) hm135 ⟨⟨_, _, rfl⟩, rfl⟩ rfl rfl rfl ?_
      exact h
theorem v_X0_takePay_54_47_51 {d : Nat} {x2 : Int32} {x3 : Int32} {m : dM} {Q : dM → Prop} (h : j_X0_takePay_54_47_12 (d + 1) x2 (x3 + (1 : Int32)) m Q) : j_X0_takePay_54_47_51 (d + 1) x2 x3 m Q := by
  refine w_iinc (q := 54) (l' := [oR 54, oR 47, oI x2, oI (x3 + (1 : Int32))]) hm135 ⟨⟨_, _, rfl⟩, rfl⟩ rfl rfl rfl iconst_1 rfl ?_
  refine w_goto (q := 12) hm135 ⟨_, _, rfl⟩ ?_
  exact h
theorem v_X0_countQuarrels_54_47 {d : Nat} {m : dM} {Q : dM → Prop} (h : c_X10_lay_57 d (m.1 47 3) m (fun m1 => j_X0_countQuarrels_54_47_13 (d + 1) (0 : Int32) m1 Q)) : c_X0_countQuarrels_54_47 (d + 1) m Q := by
  refine w_aload_n (q := 1) hm136 ⟨⟨_, _, rfl⟩, rfl⟩ rfl ?_
  refine w_getr (q := 4) hm136 ⟨⟨_, _, rfl⟩, rfl⟩ rfl ?_
  refine w_aload_n (q := 5) hm136 ⟨⟨_, _, rfl⟩, rfl⟩ rfl ?_
  refine w_getf (q := 8) (v := (m.1 47 3)) hm136 ⟨⟨_, _, rfl⟩, rfl⟩ rfl rfl ?_
  refine w_call (q := 11) (n := 3) (vs := [.inr (.inr (some 57)), .inl (m.1 47 3)]) (rest := []) (la := [oR 57, oI (m.1 47 3), none, none, none]) hm136 ⟨⟨_, _, rfl⟩, rfl⟩ rfl rfl rfl rfl hm239 rfl rfl (fun _ => ⟨_, _, rfl, rfl⟩) rfl (Wp.mono h ?_)
  rintro _ m1 ⟨rfl, h⟩
  change Wp _ _ 11 _ [] _ _
  refine w_iconst (q := 12) hm136 ⟨⟨_, _, rfl⟩, rfl⟩ iconst_0 ?_
  refine w_istore_n (q := 13) (l' := [oR 54, oR 47, oI (0 : Int32)]) hm136 ⟨⟨_, _, rfl⟩, rfl⟩ rfl rfl rfl ?_
  exact h
theorem v_X0_countQuarrels_54_47_13 {d : Nat} {x2 : Int32} {m : dM} {Q : dM → Prop} (h : (((m.1 2 0).toInt ≤ x2.toInt → Q m) ∧ (x2.toInt < (m.1 2 0).toInt → c_X11_has d (m.1 57 5) x2 m (fun r1 m1 => ((r1.toInt = 0 → c_X0_quarrelOf_54_47 d x2 m1 (fun r2 m2 => ((0 ≤ x2.toInt ∧ x2.toInt < 7) ∧ ((0 ≤ x2.toInt ∧ x2.toInt < 7) ∧ j_X0_countQuarrels_54_47_78 (d + 1) x2 (dSet (dSet m2 47 2 (if ((m1.1 47 2) + r2) < (999999 : Int32) then ((m1.1 47 2) + r2) else (999999 : Int32))) 50 x2.toNatClampNeg ((m2.1 50 x2.toNatClampNeg) + (1 : Int32))) Q)))) ∧ (r1.toInt ≠ 0 → ((0 ≤ x2.toInt ∧ x2.toInt < 7) ∧ j_X0_countQuarrels_54_47_78 (d + 1) x2 (dSet m1 50 x2.toNatClampNeg (0 : Int32)) Q))))))) : j_X0_countQuarrels_54_47_13 (d + 1) x2 m Q := by
  refine w_iload_n (q := 14) hm136 ⟨⟨_, _, rfl⟩, rfl⟩ rfl ?_
  refine w_aload_n (q := 15) hm136 ⟨⟨_, _, rfl⟩, rfl⟩ rfl ?_
  refine w_getr (q := 18) hm136 ⟨⟨_, _, rfl⟩, rfl⟩ rfl ?_
  refine w_getf (q := 21) (v := (m.1 2 0)) hm136 ⟨⟨_, _, rfl⟩, rfl⟩ rfl rfl ?_
  refine w_icmp_ge (q := 24) (X := x2.toInt) (Y := (m.1 2 0).toInt) hm136 ⟨⟨_, _, rfl⟩, rfl⟩ rfl rfl (fun hc => ?_) (fun hc => ?_)
  · have h := h.1 hc
    exact w_retv hm136 ⟨⟨_, _, rfl⟩, rfl⟩ rfl h
  · have h := h.2 hc
    refine w_aload_n (q := 25) hm136 ⟨⟨_, _, rfl⟩, rfl⟩ rfl ?_
    refine w_getr (q := 28) hm136 ⟨⟨_, _, rfl⟩, rfl⟩ rfl ?_
    refine w_getf (q := 31) (v := (m.1 57 5)) hm136 ⟨⟨_, _, rfl⟩, rfl⟩ rfl rfl ?_
    refine w_iload_n (q := 32) hm136 ⟨⟨_, _, rfl⟩, rfl⟩ rfl ?_
    refine w_call (q := 35) (n := 0) (vs := [.inl (m.1 57 5), .inl x2]) (rest := []) (la := [oI (m.1 57 5), oI x2]) hm136 ⟨⟨_, _, rfl⟩, rfl⟩ rfl rfl rfl rfl hm283 rfl rfl (fun hz => absurd hz (by decide)) rfl (Wp.mono h ?_)
    rintro _ m1 ⟨r1, rfl, h⟩
    change Wp _ _ 35 _ [.inl r1] _ _
    refine w_if_eq (q := 38) (X := r1.toInt) hm136 ⟨⟨_, _, rfl⟩, rfl⟩ rfl (fun hc => ?_) (fun hc => ?_)
    · have h := h.1 hc
      refine w_aload_n (q := 49) hm136 ⟨⟨_, _, rfl⟩, rfl⟩ rfl ?_
      refine w_ldc (q := 51) hm136 ⟨⟨_, _, rfl⟩, rfl⟩ ldc_999999 ?_
      refine w_aload_n (q := 52) hm136 ⟨⟨_, _, rfl⟩, rfl⟩ rfl ?_
      refine w_getf (q := 55) (v := (m1.1 47 2)) hm136 ⟨⟨_, _, rfl⟩, rfl⟩ rfl rfl ?_
      refine w_aload_n (q := 56) hm136 ⟨⟨_, _, rfl⟩, rfl⟩ rfl ?_
      refine w_aload_n (q := 57) hm136 ⟨⟨_, _, rfl⟩, rfl⟩ rfl ?_
      refine w_iload_n (q := 58) hm136 ⟨⟨_, _, rfl⟩, rfl⟩ rfl ?_
      refine w_call (q := 61) (n := 0) (vs := [.inr (.inr (some 54)), .inr (.inr (some 47)), .inl x2]) (rest := [.inl (m1.1 47 2), .inl (999999 : Int32), .inr (.inr (some 47))]) (la := [oR 54, oR 47, oI x2]) hm136 ⟨⟨_, _, rfl⟩, rfl⟩ rfl rfl rfl rfl hm127 rfl rfl (fun _ => ⟨_, _, rfl, rfl⟩) rfl (Wp.mono h ?_)
      rintro _ m2 ⟨r2, rfl, h⟩
      change Wp _ _ 61 _ [.inl r2, .inl (m1.1 47 2), .inl (999999 : Int32), .inr (.inr (some 47))] _ _
      refine w_iadd (q := 62) hm136 ⟨⟨_, _, rfl⟩, rfl⟩ ?_
      refine w_min (q := 65) hm136 ⟨⟨_, _, rfl⟩, rfl⟩ rfl rfl ?_
      refine w_putf (q := 68) hm136 ⟨⟨_, _, rfl⟩, rfl⟩ rfl rfl rfl ?_
      refine w_aload_n (q := 69) hm136 ⟨⟨_, _, rfl⟩, rfl⟩ rfl ?_
      refine w_getr (q := 72) hm136 ⟨⟨_, _, rfl⟩, rfl⟩ rfl ?_
      refine w_iload_n (q := 73) hm136 ⟨⟨_, _, rfl⟩, rfl⟩ rfl ?_
      refine w_dup2 (q := 74) hm136 ⟨⟨_, _, rfl⟩, rfl⟩ rfl ?_
      obtain ⟨hi, h⟩ := h
      refine w_iald (q := 75) (v := (m2.1 50 x2.toNatClampNeg)) hm136 ⟨⟨_, _, rfl⟩, rfl⟩ rfl hi rfl rfl ?_
      refine w_iconst (q := 76) hm136 ⟨⟨_, _, rfl⟩, rfl⟩ iconst_1 ?_
      refine w_iadd (q := 77) hm136 ⟨⟨_, _, rfl⟩, rfl⟩ ?_
      obtain ⟨hi, h⟩ := h
      refine w_iast (q := 78) hm136 ⟨⟨_, _, rfl⟩, rfl⟩ rfl hi rfl rfl ?_
      exact h
    · have h := h.2 hc
      refine w_aload_n (q := 39) hm136 ⟨⟨_, _, rfl⟩, rfl⟩ rfl ?_
      refine w_getr (q := 42) hm136 ⟨⟨_, _, rfl⟩, rfl⟩ rfl ?_
      refine w_iload_n (q := 43) hm136 ⟨⟨_, _, rfl⟩, rfl⟩ rfl ?_
      refine w_iconst (q := 44) hm136 ⟨⟨_, _, rfl⟩, rfl⟩ iconst_0 ?_
      obtain ⟨hi, h⟩ := h
      refine w_iast (q := 45) hm136 ⟨⟨_, _, rfl⟩, rfl⟩ rfl hi rfl rfl ?_
      refine w_goto (q := 78) hm136 ⟨_, _, rfl⟩ ?_
      exact h
theorem v_X0_countQuarrels_54_47_78 {d : Nat} {x2 : Int32} {m : dM} {Q : dM → Prop} (h : j_X0_countQuarrels_54_47_13 (d + 1) (x2 + (1 : Int32)) m Q) : j_X0_countQuarrels_54_47_78 (d + 1) x2 m Q := by
  refine w_iinc (q := 81) (l' := [oR 54, oR 47, oI (x2 + (1 : Int32))]) hm136 ⟨⟨_, _, rfl⟩, rfl⟩ rfl rfl rfl iconst_1 rfl ?_
  refine w_goto (q := 13) hm136 ⟨_, _, rfl⟩ ?_
  exact h
theorem v_X0_stirred {d : Nat} {x0 : Int32} {x1 : Int32} {m : dM} {Q : Int32 → dM → Prop} (h : Q ((((x0 ^^^ x1) * (1103515245 : Int32)) + (12345 : Int32)) ^^^ ((((x0 ^^^ x1) * (1103515245 : Int32)) + (12345 : Int32)).toUInt32 >>> ((15 : Int32).toUInt32 &&& Int32.toUInt32 31)).toInt32) m) : c_X0_stirred (d + 1) x0 x1 m Q := by
  refine w_iload_n (q := 1) hm133 ⟨⟨_, _, rfl⟩, rfl⟩ rfl ?_
  refine w_iload_n (q := 2) hm133 ⟨⟨_, _, rfl⟩, rfl⟩ rfl ?_
  refine w_ixor (q := 3) hm133 ⟨⟨_, _, rfl⟩, rfl⟩ ?_
  refine w_ldc (q := 5) hm133 ⟨⟨_, _, rfl⟩, rfl⟩ ldc_1103515245 ?_
  refine w_imul (q := 6) hm133 ⟨⟨_, _, rfl⟩, rfl⟩ ?_
  refine w_sipush (q := 9) hm133 ⟨⟨_, _, rfl⟩, rfl⟩ sipush_12345 ?_
  refine w_iadd (q := 10) hm133 ⟨⟨_, _, rfl⟩, rfl⟩ ?_
  refine w_istore_n (q := 11) (l' := [oI x0, oI x1, oI (((x0 ^^^ x1) * (1103515245 : Int32)) + (12345 : Int32))]) hm133 ⟨⟨_, _, rfl⟩, rfl⟩ rfl rfl rfl ?_
  refine w_iload_n (q := 12) hm133 ⟨⟨_, _, rfl⟩, rfl⟩ rfl ?_
  refine w_iload_n (q := 13) hm133 ⟨⟨_, _, rfl⟩, rfl⟩ rfl ?_
  refine w_bipush (q := 15) hm133 ⟨⟨_, _, rfl⟩, rfl⟩ bipush_15 ?_
  refine w_iushr (q := 16) hm133 ⟨⟨_, _, rfl⟩, rfl⟩ ?_
  refine w_ixor (q := 17) hm133 ⟨⟨_, _, rfl⟩, rfl⟩ ?_
  exact w_reti hm133 ⟨⟨_, _, rfl⟩, rfl⟩ rfl h
theorem v_X0_lot {d : Nat} {x0 : Int32} {x1 : Int32} {x2 : Int32} {m : dM} {Q : Int32 → dM → Prop} (h : c_X0_stirred d x1 (129 : Int32) m (fun r1 m1 => c_X0_stirred d r1 x2 m1 (fun r2 m2 => ((x0.toInt ≤ 0 → Q (0 : Int32) m2) ∧ (0 < x0.toInt → (x0 ≠ 0 ∧ Q ((r2.toUInt32 >>> ((1 : Int32).toUInt32 &&& Int32.toUInt32 31)).toInt32 - (r2.toUInt32 >>> ((1 : Int32).toUInt32 &&& Int32.toUInt32 31)).toInt32 / x0 * x0) m2)))))) : c_X0_lot (d + 1) x0 x1 x2 m Q := by
  refine w_iload_n (q := 1) hm132 ⟨⟨_, _, rfl⟩, rfl⟩ rfl ?_
  refine w_sipush (q := 4) hm132 ⟨⟨_, _, rfl⟩, rfl⟩ sipush_129 ?_
  refine w_call (q := 7) (n := 1) (vs := [.inl x1, .inl (129 : Int32)]) (rest := []) (la := [oI x1, oI (129 : Int32), none]) hm132 ⟨⟨_, _, rfl⟩, rfl⟩ rfl rfl rfl rfl hm133 rfl rfl (fun hz => absurd hz (by decide)) rfl (Wp.mono h ?_)
  rintro _ m1 ⟨r1, rfl, h⟩
  change Wp _ _ 7 _ [.inl r1] _ _
  refine w_iload_n (q := 8) hm132 ⟨⟨_, _, rfl⟩, rfl⟩ rfl ?_
  refine w_call (q := 11) (n := 1) (vs := [.inl r1, .inl x2]) (rest := []) (la := [oI r1, oI x2, none]) hm132 ⟨⟨_, _, rfl⟩, rfl⟩ rfl rfl rfl rfl hm133 rfl rfl (fun hz => absurd hz (by decide)) rfl (Wp.mono h ?_)
  rintro _ m2 ⟨r2, rfl, h⟩
  change Wp _ _ 11 _ [.inl r2] _ _
  refine w_istore_n (q := 12) (l' := [oI x0, oI x1, oI x2, oI r2]) hm132 ⟨⟨_, _, rfl⟩, rfl⟩ rfl rfl rfl ?_
  refine w_iload_n (q := 13) hm132 ⟨⟨_, _, rfl⟩, rfl⟩ rfl ?_
  refine w_if_le (q := 16) (X := x0.toInt) hm132 ⟨⟨_, _, rfl⟩, rfl⟩ rfl (fun hc => ?_) (fun hc => ?_)
  · have h := h.1 hc
    refine w_iconst (q := 25) hm132 ⟨⟨_, _, rfl⟩, rfl⟩ iconst_0 ?_
    exact w_reti hm132 ⟨⟨_, _, rfl⟩, rfl⟩ rfl h
  · have h := h.2 hc
    refine w_iload_n (q := 17) hm132 ⟨⟨_, _, rfl⟩, rfl⟩ rfl ?_
    refine w_iconst (q := 18) hm132 ⟨⟨_, _, rfl⟩, rfl⟩ iconst_1 ?_
    refine w_iushr (q := 19) hm132 ⟨⟨_, _, rfl⟩, rfl⟩ ?_
    refine w_iload_n (q := 20) hm132 ⟨⟨_, _, rfl⟩, rfl⟩ rfl ?_
    obtain ⟨hz, h⟩ := h
    refine w_irem (q := 21) hm132 ⟨⟨_, _, rfl⟩, rfl⟩ hz ?_
    refine w_goto (q := 25) hm132 ⟨_, _, rfl⟩ ?_
    exact w_reti hm132 ⟨⟨_, _, rfl⟩, rfl⟩ rfl h
theorem v_X0_isSurge_54 {d : Nat} {x1 : Int32} {x2 : Int32} {m : dM} {Q : Int32 → dM → Prop} (h : c_X0_lot d (100 : Int32) x1 ((4 : Int32) * x2) m (fun r1 m1 => (((m1.1 2 3).toInt ≤ r1.toInt → Q (0 : Int32) m1) ∧ (r1.toInt < (m1.1 2 3).toInt → Q (1 : Int32) m1)))) : c_X0_isSurge_54 (d + 1) x1 x2 m Q := by
  refine w_bipush (q := 2) hm130 ⟨⟨_, _, rfl⟩, rfl⟩ bipush_100 ?_
  refine w_iload_n (q := 3) hm130 ⟨⟨_, _, rfl⟩, rfl⟩ rfl ?_
  refine w_iconst (q := 4) hm130 ⟨⟨_, _, rfl⟩, rfl⟩ iconst_4 ?_
  refine w_iload_n (q := 5) hm130 ⟨⟨_, _, rfl⟩, rfl⟩ rfl ?_
  refine w_imul (q := 6) hm130 ⟨⟨_, _, rfl⟩, rfl⟩ ?_
  refine w_call (q := 9) (n := 1) (vs := [.inl (100 : Int32), .inl x1, .inl ((4 : Int32) * x2)]) (rest := []) (la := [oI (100 : Int32), oI x1, oI ((4 : Int32) * x2), none]) hm130 ⟨⟨_, _, rfl⟩, rfl⟩ rfl rfl rfl rfl hm132 rfl rfl (fun hz => absurd hz (by decide)) rfl (Wp.mono h ?_)
  rintro _ m1 ⟨r1, rfl, h⟩
  change Wp _ _ 9 _ [.inl r1] _ _
  refine w_aload_n (q := 10) hm130 ⟨⟨_, _, rfl⟩, rfl⟩ rfl ?_
  refine w_getr (q := 13) hm130 ⟨⟨_, _, rfl⟩, rfl⟩ rfl ?_
  refine w_getf (q := 16) (v := (m1.1 2 3)) hm130 ⟨⟨_, _, rfl⟩, rfl⟩ rfl rfl ?_
  refine w_icmp_ge (q := 19) (X := r1.toInt) (Y := (m1.1 2 3).toInt) hm130 ⟨⟨_, _, rfl⟩, rfl⟩ rfl rfl (fun hc => ?_) (fun hc => ?_)
  · have h := h.1 hc
    refine w_iconst (q := 24) hm130 ⟨⟨_, _, rfl⟩, rfl⟩ iconst_0 ?_
    exact w_retz hm130 ⟨⟨_, _, rfl⟩, rfl⟩ rfl (by decide) h
  · have h := h.2 hc
    refine w_iconst (q := 20) hm130 ⟨⟨_, _, rfl⟩, rfl⟩ iconst_1 ?_
    refine w_goto (q := 24) hm130 ⟨_, _, rfl⟩ ?_
    exact w_retz hm130 ⟨⟨_, _, rfl⟩, rfl⟩ rfl (by decide) h
theorem v_X0_surgeOf_54 {d : Nat} {x1 : Int32} {x2 : Int32} {m : dM} {Q : Int32 → dM → Prop} (h : c_X0_isSurge_54 d x1 x2 m (fun r1 m1 => ((r1.toInt = 0 → Q (0 : Int32) m1) ∧ (r1.toInt ≠ 0 → Q (m1.1 2 4) m1)))) : c_X0_surgeOf_54 (d + 1) x1 x2 m Q := by
  refine w_aload_n (q := 1) hm131 ⟨⟨_, _, rfl⟩, rfl⟩ rfl ?_
  refine w_iload_n (q := 2) hm131 ⟨⟨_, _, rfl⟩, rfl⟩ rfl ?_
  refine w_iload_n (q := 3) hm131 ⟨⟨_, _, rfl⟩, rfl⟩ rfl ?_
  refine w_call (q := 6) (n := 0) (vs := [.inr (.inr (some 54)), .inl x1, .inl x2]) (rest := []) (la := [oR 54, oI x1, oI x2]) hm131 ⟨⟨_, _, rfl⟩, rfl⟩ rfl rfl rfl rfl hm130 rfl rfl (fun _ => ⟨_, _, rfl, rfl⟩) rfl (Wp.mono h ?_)
  rintro _ m1 ⟨r1, rfl, h⟩
  change Wp _ _ 6 _ [.inl r1] _ _
  refine w_if_eq (q := 9) (X := r1.toInt) hm131 ⟨⟨_, _, rfl⟩, rfl⟩ rfl (fun hc => ?_) (fun hc => ?_)
  · have h := h.1 hc
    refine w_iconst (q := 20) hm131 ⟨⟨_, _, rfl⟩, rfl⟩ iconst_0 ?_
    exact w_reti hm131 ⟨⟨_, _, rfl⟩, rfl⟩ rfl h
  · have h := h.2 hc
    refine w_aload_n (q := 10) hm131 ⟨⟨_, _, rfl⟩, rfl⟩ rfl ?_
    refine w_getr (q := 13) hm131 ⟨⟨_, _, rfl⟩, rfl⟩ rfl ?_
    refine w_getf (q := 16) (v := (m1.1 2 4)) hm131 ⟨⟨_, _, rfl⟩, rfl⟩ rfl rfl ?_
    refine w_goto (q := 20) hm131 ⟨_, _, rfl⟩ ?_
    exact w_reti hm131 ⟨⟨_, _, rfl⟩, rfl⟩ rfl h
theorem v_X0_passWires_54_47 {d : Nat} {x2 : Int32} {m : dM} {Q : Int32 → dM → Prop} (h : c_X7_hourOfDay_47 d m (fun r1 m1 => c_X0_usesAt_54_47 d r1 m1 (fun r2 m2 => c_X0_putOn_54_47 d r2 m2 (fun m3 => c_X7_hourOfDay_47 d m3 (fun r4 m4 => c_X0_going_54_47 d r4 x2 m4 (fun r5 m5 => j_X0_passWires_54_47_38 (d + 1) r5 (0 : Int32) (dSet m5 47 3 ((m5.1 47 3) ||| r5)) Q)))))) : c_X0_passWires_54_47 (d + 1) x2 m Q := by
  refine w_aload_n (q := 1) hm137 ⟨⟨_, _, rfl⟩, rfl⟩ rfl ?_
  refine w_aload_n (q := 2) hm137 ⟨⟨_, _, rfl⟩, rfl⟩ rfl ?_
  refine w_aload_n (q := 3) hm137 ⟨⟨_, _, rfl⟩, rfl⟩ rfl ?_
  refine w_aload_n (q := 4) hm137 ⟨⟨_, _, rfl⟩, rfl⟩ rfl ?_
  refine w_aload_n (q := 5) hm137 ⟨⟨_, _, rfl⟩, rfl⟩ rfl ?_
  refine w_call (q := 8) (n := 0) (vs := [.inr (.inr (some 47))]) (rest := [.inr (.inr (some 47)), .inr (.inr (some 54)), .inr (.inr (some 47)), .inr (.inr (some 54))]) (la := [oR 47]) hm137 ⟨⟨_, _, rfl⟩, rfl⟩ rfl rfl rfl rfl hm212 rfl rfl (fun _ => ⟨_, _, rfl, rfl⟩) rfl (Wp.mono h ?_)
  rintro _ m1 ⟨r1, rfl, h⟩
  change Wp _ _ 8 _ [.inl r1, .inr (.inr (some 47)), .inr (.inr (some 54)), .inr (.inr (some 47)), .inr (.inr (some 54))] _ _
  refine w_call (q := 11) (n := 3) (vs := [.inr (.inr (some 54)), .inr (.inr (some 47)), .inl r1]) (rest := [.inr (.inr (some 47)), .inr (.inr (some 54))]) (la := [oR 54, oR 47, oI r1, none, none, none]) hm137 ⟨⟨_, _, rfl⟩, rfl⟩ rfl rfl rfl rfl hm118 rfl rfl (fun _ => ⟨_, _, rfl, rfl⟩) rfl (Wp.mono h ?_)
  rintro _ m2 ⟨r2, rfl, h⟩
  change Wp _ _ 11 _ [.inl r2, .inr (.inr (some 47)), .inr (.inr (some 54))] _ _
  refine w_call (q := 14) (n := 3) (vs := [.inr (.inr (some 54)), .inr (.inr (some 47)), .inl r2]) (rest := []) (la := [oR 54, oR 47, oI r2, none, none, none]) hm137 ⟨⟨_, _, rfl⟩, rfl⟩ rfl rfl rfl rfl hm120 rfl rfl (fun _ => ⟨_, _, rfl, rfl⟩) rfl (Wp.mono h ?_)
  rintro _ m3 ⟨rfl, h⟩
  change Wp _ _ 14 _ [] _ _
  refine w_aload_n (q := 15) hm137 ⟨⟨_, _, rfl⟩, rfl⟩ rfl ?_
  refine w_aload_n (q := 16) hm137 ⟨⟨_, _, rfl⟩, rfl⟩ rfl ?_
  refine w_aload_n (q := 17) hm137 ⟨⟨_, _, rfl⟩, rfl⟩ rfl ?_
  refine w_call (q := 20) (n := 0) (vs := [.inr (.inr (some 47))]) (rest := [.inr (.inr (some 47)), .inr (.inr (some 54))]) (la := [oR 47]) hm137 ⟨⟨_, _, rfl⟩, rfl⟩ rfl rfl rfl rfl hm212 rfl rfl (fun _ => ⟨_, _, rfl, rfl⟩) rfl (Wp.mono h ?_)
  rintro _ m4 ⟨r4, rfl, h⟩
  change Wp _ _ 20 _ [.inl r4, .inr (.inr (some 47)), .inr (.inr (some 54))] _ _
  refine w_iload_n (q := 21) hm137 ⟨⟨_, _, rfl⟩, rfl⟩ rfl ?_
  refine w_call (q := 24) (n := 2) (vs := [.inr (.inr (some 54)), .inr (.inr (some 47)), .inl r4, .inl x2]) (rest := []) (la := [oR 54, oR 47, oI r4, oI x2, none, none]) hm137 ⟨⟨_, _, rfl⟩, rfl⟩ rfl rfl rfl rfl hm124 rfl rfl (fun _ => ⟨_, _, rfl, rfl⟩) rfl (Wp.mono h ?_)
  rintro _ m5 ⟨r5, rfl, h⟩
  change Wp _ _ 24 _ [.inl r5] _ _
  refine w_istore_n (q := 25) (l' := [oR 54, oR 47, oI x2, oI r5, none]) hm137 ⟨⟨_, _, rfl⟩, rfl⟩ rfl rfl rfl ?_
  refine w_aload_n (q := 26) hm137 ⟨⟨_, _, rfl⟩, rfl⟩ rfl ?_
  refine w_dup (q := 27) hm137 ⟨⟨_, _, rfl⟩, rfl⟩ rfl ?_
  refine w_getf (q := 30) (v := (m5.1 47 3)) hm137 ⟨⟨_, _, rfl⟩, rfl⟩ rfl rfl ?_
  refine w_iload_n (q := 31) hm137 ⟨⟨_, _, rfl⟩, rfl⟩ rfl ?_
  refine w_ior (q := 32) hm137 ⟨⟨_, _, rfl⟩, rfl⟩ ?_
  refine w_putf (q := 35) hm137 ⟨⟨_, _, rfl⟩, rfl⟩ rfl rfl rfl ?_
  refine w_iconst (q := 36) hm137 ⟨⟨_, _, rfl⟩, rfl⟩ iconst_0 ?_
  refine w_istore (q := 38) (l' := [oR 54, oR 47, oI x2, oI r5, oI (0 : Int32)]) hm137 ⟨⟨_, _, rfl⟩, rfl⟩ rfl rfl rfl ?_
  exact Wp.wk [true, true, false, true, true] h
theorem v_X0_passWires_54_47_38 {d : Nat} {x3 : Int32} {x4 : Int32} {m : dM} {Q : Int32 → dM → Prop} (h : (((m.1 2 1).toInt ≤ x4.toInt → Q x3 (dSet m 47 0 ((m.1 47 0) + (1 : Int32)))) ∧ (x4.toInt < (m.1 2 1).toInt → c_X11_has d (m.1 47 3) x4 m (fun r1 m1 => ((r1.toInt ≠ 0 → j_X0_passWires_54_47_84 (d + 1) x3 x4 m1 Q) ∧ (r1.toInt = 0 → ((0 ≤ x4.toInt ∧ x4.toInt < 10) ∧ ((0 ≤ x4.toInt ∧ x4.toInt < 10) ∧ j_X0_passWires_54_47_84 (d + 1) x3 x4 (dSet m1 49 x4.toNatClampNeg (if ((m1.1 49 x4.toNatClampNeg) + (1 : Int32)) < (999 : Int32) then ((m1.1 49 x4.toNatClampNeg) + (1 : Int32)) else (999 : Int32))) Q)))))))) : j_X0_passWires_54_47_38 (d + 1) x3 x4 m Q := by
  refine w_iload (q := 40) hm137 ⟨⟨_, _, rfl⟩, rfl⟩ rfl ?_
  refine w_aload_n (q := 41) hm137 ⟨⟨_, _, rfl⟩, rfl⟩ rfl ?_
  refine w_getr (q := 44) hm137 ⟨⟨_, _, rfl⟩, rfl⟩ rfl ?_
  refine w_getf (q := 47) (v := (m.1 2 1)) hm137 ⟨⟨_, _, rfl⟩, rfl⟩ rfl rfl ?_
  refine w_icmp_ge (q := 50) (X := x4.toInt) (Y := (m.1 2 1).toInt) hm137 ⟨⟨_, _, rfl⟩, rfl⟩ rfl rfl (fun hc => ?_) (fun hc => ?_)
  · have h := h.1 hc
    refine w_aload_n (q := 91) hm137 ⟨⟨_, _, rfl⟩, rfl⟩ rfl ?_
    refine w_dup (q := 92) hm137 ⟨⟨_, _, rfl⟩, rfl⟩ rfl ?_
    refine w_getf (q := 95) (v := (m.1 47 0)) hm137 ⟨⟨_, _, rfl⟩, rfl⟩ rfl rfl ?_
    refine w_iconst (q := 96) hm137 ⟨⟨_, _, rfl⟩, rfl⟩ iconst_1 ?_
    refine w_iadd (q := 97) hm137 ⟨⟨_, _, rfl⟩, rfl⟩ ?_
    refine w_putf (q := 100) hm137 ⟨⟨_, _, rfl⟩, rfl⟩ rfl rfl rfl ?_
    refine w_iload_n (q := 101) hm137 ⟨⟨_, _, rfl⟩, rfl⟩ rfl ?_
    exact w_reti hm137 ⟨⟨_, _, rfl⟩, rfl⟩ rfl h
  · have h := h.2 hc
    refine w_aload_n (q := 51) hm137 ⟨⟨_, _, rfl⟩, rfl⟩ rfl ?_
    refine w_getf (q := 54) (v := (m.1 47 3)) hm137 ⟨⟨_, _, rfl⟩, rfl⟩ rfl rfl ?_
    refine w_iload (q := 56) hm137 ⟨⟨_, _, rfl⟩, rfl⟩ rfl ?_
    refine w_call (q := 59) (n := 0) (vs := [.inl (m.1 47 3), .inl x4]) (rest := []) (la := [oI (m.1 47 3), oI x4]) hm137 ⟨⟨_, _, rfl⟩, rfl⟩ rfl rfl rfl rfl hm283 rfl rfl (fun hz => absurd hz (by decide)) rfl (Wp.mono h ?_)
    rintro _ m1 ⟨r1, rfl, h⟩
    change Wp _ _ 59 _ [.inl r1] _ _
    refine w_if_ne (q := 62) (X := r1.toInt) hm137 ⟨⟨_, _, rfl⟩, rfl⟩ rfl (fun hc => ?_) (fun hc => ?_)
    · have h := h.1 hc
      exact h
    · have h := h.2 hc
      refine w_aload_n (q := 63) hm137 ⟨⟨_, _, rfl⟩, rfl⟩ rfl ?_
      refine w_getr (q := 66) hm137 ⟨⟨_, _, rfl⟩, rfl⟩ rfl ?_
      refine w_iload (q := 68) hm137 ⟨⟨_, _, rfl⟩, rfl⟩ rfl ?_
      refine w_sipush (q := 71) hm137 ⟨⟨_, _, rfl⟩, rfl⟩ sipush_999 ?_
      refine w_aload_n (q := 72) hm137 ⟨⟨_, _, rfl⟩, rfl⟩ rfl ?_
      refine w_getr (q := 75) hm137 ⟨⟨_, _, rfl⟩, rfl⟩ rfl ?_
      refine w_iload (q := 77) hm137 ⟨⟨_, _, rfl⟩, rfl⟩ rfl ?_
      obtain ⟨hi, h⟩ := h
      refine w_iald (q := 78) (v := (m1.1 49 x4.toNatClampNeg)) hm137 ⟨⟨_, _, rfl⟩, rfl⟩ rfl hi rfl rfl ?_
      refine w_iconst (q := 79) hm137 ⟨⟨_, _, rfl⟩, rfl⟩ iconst_1 ?_
      refine w_iadd (q := 80) hm137 ⟨⟨_, _, rfl⟩, rfl⟩ ?_
      refine w_min (q := 83) hm137 ⟨⟨_, _, rfl⟩, rfl⟩ rfl rfl ?_
      obtain ⟨hi, h⟩ := h
      refine w_iast (q := 84) hm137 ⟨⟨_, _, rfl⟩, rfl⟩ rfl hi rfl rfl ?_
      exact h
theorem v_X0_passWires_54_47_84 {d : Nat} {x3 : Int32} {x4 : Int32} {m : dM} {Q : Int32 → dM → Prop} (h : j_X0_passWires_54_47_38 (d + 1) x3 (x4 + (1 : Int32)) m Q) : j_X0_passWires_54_47_84 (d + 1) x3 x4 m Q := by
  refine w_iinc (q := 87) (l' := [oR 54, oR 47, none, oI x3, oI (x4 + (1 : Int32))]) hm137 ⟨⟨_, _, rfl⟩, rfl⟩ rfl rfl rfl iconst_1 rfl ?_
  refine w_goto (q := 38) hm137 ⟨_, _, rfl⟩ ?_
  exact h
theorem v_X0_passHour_54_47 {d : Nat} {m : dM} {Q : dM → Prop} (h : c_X0_takePay_54_47 d m (fun m1 => c_X0_countQuarrels_54_47 d m1 (fun m2 => c_X0_surgeOf_54 d (m2.1 2 6) (m2.1 47 0) m2 (fun r3 m3 => c_X0_passWires_54_47 d r3 m3 (fun r4 m4 => Q m4))))) : c_X0_passHour_54_47 (d + 1) m Q := by
  refine w_aload_n (q := 1) hm134 ⟨⟨_, _, rfl⟩, rfl⟩ rfl ?_
  refine w_aload_n (q := 2) hm134 ⟨⟨_, _, rfl⟩, rfl⟩ rfl ?_
  refine w_call (q := 5) (n := 2) (vs := [.inr (.inr (some 54)), .inr (.inr (some 47))]) (rest := []) (la := [oR 54, oR 47, none, none]) hm134 ⟨⟨_, _, rfl⟩, rfl⟩ rfl rfl rfl rfl hm135 rfl rfl (fun _ => ⟨_, _, rfl, rfl⟩) rfl (Wp.mono h ?_)
  rintro _ m1 ⟨rfl, h⟩
  change Wp _ _ 5 _ [] _ _
  refine w_aload_n (q := 6) hm134 ⟨⟨_, _, rfl⟩, rfl⟩ rfl ?_
  refine w_aload_n (q := 7) hm134 ⟨⟨_, _, rfl⟩, rfl⟩ rfl ?_
  refine w_call (q := 10) (n := 1) (vs := [.inr (.inr (some 54)), .inr (.inr (some 47))]) (rest := []) (la := [oR 54, oR 47, none]) hm134 ⟨⟨_, _, rfl⟩, rfl⟩ rfl rfl rfl rfl hm136 rfl rfl (fun _ => ⟨_, _, rfl, rfl⟩) rfl (Wp.mono h ?_)
  rintro _ m2 ⟨rfl, h⟩
  change Wp _ _ 10 _ [] _ _
  refine w_aload_n (q := 11) hm134 ⟨⟨_, _, rfl⟩, rfl⟩ rfl ?_
  refine w_aload_n (q := 12) hm134 ⟨⟨_, _, rfl⟩, rfl⟩ rfl ?_
  refine w_aload_n (q := 13) hm134 ⟨⟨_, _, rfl⟩, rfl⟩ rfl ?_
  refine w_aload_n (q := 14) hm134 ⟨⟨_, _, rfl⟩, rfl⟩ rfl ?_
  refine w_getr (q := 17) hm134 ⟨⟨_, _, rfl⟩, rfl⟩ rfl ?_
  refine w_getf (q := 20) (v := (m2.1 2 6)) hm134 ⟨⟨_, _, rfl⟩, rfl⟩ rfl rfl ?_
  refine w_aload_n (q := 21) hm134 ⟨⟨_, _, rfl⟩, rfl⟩ rfl ?_
  refine w_getf (q := 24) (v := (m2.1 47 0)) hm134 ⟨⟨_, _, rfl⟩, rfl⟩ rfl rfl ?_
  refine w_call (q := 27) (n := 0) (vs := [.inr (.inr (some 54)), .inl (m2.1 2 6), .inl (m2.1 47 0)]) (rest := [.inr (.inr (some 47)), .inr (.inr (some 54))]) (la := [oR 54, oI (m2.1 2 6), oI (m2.1 47 0)]) hm134 ⟨⟨_, _, rfl⟩, rfl⟩ rfl rfl rfl rfl hm131 rfl rfl (fun _ => ⟨_, _, rfl, rfl⟩) rfl (Wp.mono h ?_)
  rintro _ m3 ⟨r3, rfl, h⟩
  change Wp _ _ 27 _ [.inl r3, .inr (.inr (some 47)), .inr (.inr (some 54))] _ _
  refine w_call (q := 30) (n := 2) (vs := [.inr (.inr (some 54)), .inr (.inr (some 47)), .inl r3]) (rest := []) (la := [oR 54, oR 47, oI r3, none, none]) hm134 ⟨⟨_, _, rfl⟩, rfl⟩ rfl rfl rfl rfl hm137 rfl rfl (fun _ => ⟨_, _, rfl, rfl⟩) rfl (Wp.mono h ?_)
  rintro _ m4 ⟨r4, rfl, h⟩
  change Wp _ _ 30 _ [.inl r4] _ _
  refine w_pop (q := 31) hm134 ⟨⟨_, _, rfl⟩, rfl⟩ rfl ?_
  exact w_retv hm134 ⟨⟨_, _, rfl⟩, rfl⟩ rfl h
theorem v_X11_hours_0 {d : Nat} {x1 : Int32} {m : dM} {Q : Int32 → dM → Prop} (h : ((x1.toInt < 0 → j_X11_hours_0_10 (d + 1) m Q) ∧ (0 ≤ x1.toInt → ((x1.toInt ≤ 72 → ((x1.toInt ≤ 0 → j_X11_hours_0_27 (d + 1) x1 m Q) ∧ (0 < x1.toInt → c_X6_keep_51_47 d m (fun m1 => j_X11_hours_0_27 (d + 1) x1 m1 Q)))) ∧ (72 < x1.toInt → j_X11_hours_0_10 (d + 1) m Q))))) : c_X11_hours_0 (d + 1) x1 m Q := by
  refine w_iload_n (q := 1) hm258 ⟨⟨_, _, rfl⟩, rfl⟩ rfl ?_
  refine w_if_lt (q := 4) (X := x1.toInt) hm258 ⟨⟨_, _, rfl⟩, rfl⟩ rfl (fun hc => ?_) (fun hc => ?_)
  · have h := h.1 hc
    exact Wp.wk [false, false, false] h
  · have h := h.2 hc
    refine w_iload_n (q := 5) hm258 ⟨⟨_, _, rfl⟩, rfl⟩ rfl ?_
    refine w_bipush (q := 7) hm258 ⟨⟨_, _, rfl⟩, rfl⟩ bipush_72 ?_
    refine w_icmp_le (q := 10) (X := x1.toInt) (Y := 72) hm258 ⟨⟨_, _, rfl⟩, rfl⟩ rfl (by decide) (fun hc => ?_) (fun hc => ?_)
    · have h := h.1 hc
      refine w_iload_n (q := 13) hm258 ⟨⟨_, _, rfl⟩, rfl⟩ rfl ?_
      refine w_if_le (q := 16) (X := x1.toInt) hm258 ⟨⟨_, _, rfl⟩, rfl⟩ rfl (fun hc => ?_) (fun hc => ?_)
      · have h := h.1 hc
        exact h
      · have h := h.2 hc
        refine w_aload_n (q := 17) hm258 ⟨⟨_, _, rfl⟩, rfl⟩ rfl ?_
        refine w_getr (q := 20) hm258 ⟨⟨_, _, rfl⟩, rfl⟩ rfl ?_
        refine w_aload_n (q := 21) hm258 ⟨⟨_, _, rfl⟩, rfl⟩ rfl ?_
        refine w_getr (q := 24) hm258 ⟨⟨_, _, rfl⟩, rfl⟩ rfl ?_
        refine w_call (q := 27) (n := 0) (vs := [.inr (.inr (some 51)), .inr (.inr (some 47))]) (rest := []) (la := [oR 51, oR 47]) hm258 ⟨⟨_, _, rfl⟩, rfl⟩ rfl rfl rfl rfl hm203 rfl rfl (fun _ => ⟨_, _, rfl, rfl⟩) rfl (Wp.mono h ?_)
        rintro _ m1 ⟨rfl, h⟩
        change Wp _ _ 27 _ [] _ _
        exact h
    · have h := h.2 hc
      exact Wp.wk [false, false, false] h
theorem v_X11_hours_0_10 {d : Nat} {m : dM} {Q : Int32 → dM → Prop} (h : Q (-1 : Int32) m) : j_X11_hours_0_10 (d + 1) m Q := by
  refine w_iconst (q := 11) hm258 ⟨⟨_, _, rfl⟩, rfl⟩ iconst_m1 ?_
  exact w_reti hm258 ⟨⟨_, _, rfl⟩, rfl⟩ rfl h
theorem v_X11_hours_0_27 {d : Nat} {x1 : Int32} {m : dM} {Q : Int32 → dM → Prop} (h : j_X11_hours_0_29 (d + 1) x1 (0 : Int32) m Q) : j_X11_hours_0_27 (d + 1) x1 m Q := by
  refine w_iconst (q := 28) hm258 ⟨⟨_, _, rfl⟩, rfl⟩ iconst_0 ?_
  refine w_istore_n (q := 29) (l' := [oR 0, oI x1, oI (0 : Int32)]) hm258 ⟨⟨_, _, rfl⟩, rfl⟩ rfl rfl rfl ?_
  exact h
theorem v_X11_hours_0_29 {d : Nat} {x1 : Int32} {x2 : Int32} {m : dM} {Q : Int32 → dM → Prop} (h : ((x1.toInt ≤ x2.toInt → Q (m.1 47 0) m) ∧ (x2.toInt < x1.toInt → c_X0_passHour_54_47 d m (fun m1 => j_X11_hours_0_29 (d + 1) x1 (x2 + (1 : Int32)) m1 Q)))) : j_X11_hours_0_29 (d + 1) x1 x2 m Q := by
  refine w_iload_n (q := 30) hm258 ⟨⟨_, _, rfl⟩, rfl⟩ rfl ?_
  refine w_iload_n (q := 31) hm258 ⟨⟨_, _, rfl⟩, rfl⟩ rfl ?_
  refine w_icmp_ge (q := 34) (X := x2.toInt) (Y := x1.toInt) hm258 ⟨⟨_, _, rfl⟩, rfl⟩ rfl rfl (fun hc => ?_) (fun hc => ?_)
  · have h := h.1 hc
    refine w_aload_n (q := 52) hm258 ⟨⟨_, _, rfl⟩, rfl⟩ rfl ?_
    refine w_getr (q := 55) hm258 ⟨⟨_, _, rfl⟩, rfl⟩ rfl ?_
    refine w_getf (q := 58) (v := (m.1 47 0)) hm258 ⟨⟨_, _, rfl⟩, rfl⟩ rfl rfl ?_
    exact w_reti hm258 ⟨⟨_, _, rfl⟩, rfl⟩ rfl h
  · have h := h.2 hc
    refine w_aload_n (q := 35) hm258 ⟨⟨_, _, rfl⟩, rfl⟩ rfl ?_
    refine w_getr (q := 38) hm258 ⟨⟨_, _, rfl⟩, rfl⟩ rfl ?_
    refine w_aload_n (q := 39) hm258 ⟨⟨_, _, rfl⟩, rfl⟩ rfl ?_
    refine w_getr (q := 42) hm258 ⟨⟨_, _, rfl⟩, rfl⟩ rfl ?_
    refine w_call (q := 45) (n := 0) (vs := [.inr (.inr (some 54)), .inr (.inr (some 47))]) (rest := []) (la := [oR 54, oR 47]) hm258 ⟨⟨_, _, rfl⟩, rfl⟩ rfl rfl rfl rfl hm134 rfl rfl (fun _ => ⟨_, _, rfl, rfl⟩) rfl (Wp.mono h ?_)
    rintro _ m1 ⟨rfl, h⟩
    change Wp _ _ 45 _ [] _ _
    refine w_iinc (q := 48) (l' := [oR 0, oI x1, oI (x2 + (1 : Int32))]) hm258 ⟨⟨_, _, rfl⟩, rfl⟩ rfl rfl rfl iconst_1 rfl ?_
    refine w_goto (q := 29) hm258 ⟨_, _, rfl⟩ ?_
    exact h
theorem v_X12_isLong {d : Nat} {x0 : Int32} {m : dM} {Q : Int32 → dM → Prop} (h : c_X12_in d x0 (0 : Int32) (72 : Int32) m (fun r1 m1 => (r1 = 0 ∨ r1 = 1) ∧ Q r1 m1)) : c_X12_isLong (d + 1) x0 m Q := by
  refine w_iload_n (q := 1) hm78 ⟨⟨_, _, rfl⟩, rfl⟩ rfl ?_
  refine w_iconst (q := 2) hm78 ⟨⟨_, _, rfl⟩, rfl⟩ iconst_0 ?_
  refine w_bipush (q := 4) hm78 ⟨⟨_, _, rfl⟩, rfl⟩ bipush_72 ?_
  refine w_call (q := 7) (n := 0) (vs := [.inl x0, .inl (0 : Int32), .inl (72 : Int32)]) (rest := []) (la := [oI x0, oI (0 : Int32), oI (72 : Int32)]) hm78 ⟨⟨_, _, rfl⟩, rfl⟩ rfl rfl rfl rfl hm36 rfl rfl (fun hz => absurd hz (by decide)) rfl (Wp.mono h ?_)
  rintro _ m1 ⟨r1, rfl, h⟩
  change Wp _ _ 7 _ [.inl r1] _ _
  exact w_retz hm78 ⟨⟨_, _, rfl⟩, rfl⟩ rfl h.1 h.2
theorem v_X12_goingBits_70 {d : Nat} {x1 : Int32} {x2 : Int32} {x3 : Int32} {m : dM} {Q : Int32 → dM → Prop} (h : j_X12_goingBits_70_6 (d + 1) x1 x2 x3 (0 : Int32) (0 : Int32) m Q) : c_X12_goingBits_70 (d + 1) x1 x2 x3 m Q := by
  refine w_iconst (q := 1) hm61 ⟨⟨_, _, rfl⟩, rfl⟩ iconst_0 ?_
  refine w_istore (q := 3) (l' := [oR 70, oI x1, oI x2, oI x3, oI (0 : Int32), none]) hm61 ⟨⟨_, _, rfl⟩, rfl⟩ rfl rfl rfl ?_
  refine w_iconst (q := 4) hm61 ⟨⟨_, _, rfl⟩, rfl⟩ iconst_0 ?_
  refine w_istore (q := 6) (l' := [oR 70, oI x1, oI x2, oI x3, oI (0 : Int32), oI (0 : Int32)]) hm61 ⟨⟨_, _, rfl⟩, rfl⟩ rfl rfl rfl ?_
  exact h
theorem v_X12_goingBits_70_6 {d : Nat} {x1 : Int32} {x2 : Int32} {x3 : Int32} {x4 : Int32} {x5 : Int32} {m : dM} {Q : Int32 → dM → Prop} (h : ((0 ≤ (m.1 70 18).toInt ∧ (m.1 70 18).toInt < 2) ∧ (((m.1 82 (m.1 70 18).toNatClampNeg).toInt ≤ x5.toInt → Q x4 m) ∧ (x5.toInt < (m.1 82 (m.1 70 18).toNatClampNeg).toInt → c_X12_doesGo_70 d x5 x1 x2 x3 m (fun r1 m1 => ((r1.toInt = 0 → j_X12_goingBits_70_41 (d + 1) x1 x2 x3 x4 x5 m1 Q) ∧ (r1.toInt ≠ 0 → j_X12_goingBits_70_41 (d + 1) x1 x2 x3 (x4 ||| ((1 : Int32) <<< (x5 &&& 31))) x5 m1 Q))))))) : j_X12_goingBits_70_6 (d + 1) x1 x2 x3 x4 x5 m Q := by
  refine w_iload (q := 8) hm61 ⟨⟨_, _, rfl⟩, rfl⟩ rfl ?_
  refine w_aload_n (q := 9) hm61 ⟨⟨_, _, rfl⟩, rfl⟩ rfl ?_
  refine w_getr (q := 12) hm61 ⟨⟨_, _, rfl⟩, rfl⟩ rfl ?_
  refine w_aload_n (q := 13) hm61 ⟨⟨_, _, rfl⟩, rfl⟩ rfl ?_
  refine w_getf (q := 16) (v := (m.1 70 18)) hm61 ⟨⟨_, _, rfl⟩, rfl⟩ rfl rfl ?_
  obtain ⟨hi, h⟩ := h
  refine w_iald (q := 17) (v := (m.1 82 (m.1 70 18).toNatClampNeg)) hm61 ⟨⟨_, _, rfl⟩, rfl⟩ rfl hi rfl rfl ?_
  refine w_icmp_ge (q := 20) (X := x5.toInt) (Y := (m.1 82 (m.1 70 18).toNatClampNeg).toInt) hm61 ⟨⟨_, _, rfl⟩, rfl⟩ rfl rfl (fun hc => ?_) (fun hc => ?_)
  · have h := h.1 hc
    refine w_iload (q := 49) hm61 ⟨⟨_, _, rfl⟩, rfl⟩ rfl ?_
    exact w_reti hm61 ⟨⟨_, _, rfl⟩, rfl⟩ rfl h
  · have h := h.2 hc
    refine w_aload_n (q := 21) hm61 ⟨⟨_, _, rfl⟩, rfl⟩ rfl ?_
    refine w_iload (q := 23) hm61 ⟨⟨_, _, rfl⟩, rfl⟩ rfl ?_
    refine w_iload_n (q := 24) hm61 ⟨⟨_, _, rfl⟩, rfl⟩ rfl ?_
    refine w_iload_n (q := 25) hm61 ⟨⟨_, _, rfl⟩, rfl⟩ rfl ?_
    refine w_iload_n (q := 26) hm61 ⟨⟨_, _, rfl⟩, rfl⟩ rfl ?_
    refine w_call (q := 29) (n := 1) (vs := [.inr (.inr (some 70)), .inl x5, .inl x1, .inl x2, .inl x3]) (rest := []) (la := [oR 70, oI x5, oI x1, oI x2, oI x3, none]) hm61 ⟨⟨_, _, rfl⟩, rfl⟩ rfl rfl rfl rfl hm60 rfl rfl (fun _ => ⟨_, _, rfl, rfl⟩) rfl (Wp.mono h ?_)
    rintro _ m1 ⟨r1, rfl, h⟩
    change Wp _ _ 29 _ [.inl r1] _ _
    refine w_if_eq (q := 32) (X := r1.toInt) hm61 ⟨⟨_, _, rfl⟩, rfl⟩ rfl (fun hc => ?_) (fun hc => ?_)
    · have h := h.1 hc
      exact h
    · have h := h.2 hc
      refine w_iload (q := 34) hm61 ⟨⟨_, _, rfl⟩, rfl⟩ rfl ?_
      refine w_iconst (q := 35) hm61 ⟨⟨_, _, rfl⟩, rfl⟩ iconst_1 ?_
      refine w_iload (q := 37) hm61 ⟨⟨_, _, rfl⟩, rfl⟩ rfl ?_
      refine w_ishl (q := 38) hm61 ⟨⟨_, _, rfl⟩, rfl⟩ ?_
      refine w_ior (q := 39) hm61 ⟨⟨_, _, rfl⟩, rfl⟩ ?_
      refine w_istore (q := 41) (l' := [oR 70, oI x1, oI x2, oI x3, oI (x4 ||| ((1 : Int32) <<< (x5 &&& 31))), oI x5]) hm61 ⟨⟨_, _, rfl⟩, rfl⟩ rfl rfl rfl ?_
      exact h
theorem v_X12_goingBits_70_41 {d : Nat} {x1 : Int32} {x2 : Int32} {x3 : Int32} {x4 : Int32} {x5 : Int32} {m : dM} {Q : Int32 → dM → Prop} (h : j_X12_goingBits_70_6 (d + 1) x1 x2 x3 x4 (x5 + (1 : Int32)) m Q) : j_X12_goingBits_70_41 (d + 1) x1 x2 x3 x4 x5 m Q := by
  refine w_iinc (q := 44) (l' := [oR 70, oI x1, oI x2, oI x3, oI x4, oI (x5 + (1 : Int32))]) hm61 ⟨⟨_, _, rfl⟩, rfl⟩ rfl rfl rfl iconst_1 rfl ?_
  refine w_goto (q := 6) hm61 ⟨_, _, rfl⟩ ?_
  exact h
theorem v_X12_paysAll_70 {d : Nat} {x1 : Int32} {m : dM} {Q : Int32 → dM → Prop} (h : j_X12_paysAll_70_4 (d + 1) x1 (0 : Int32) (0 : Int32) m Q) : c_X12_paysAll_70 (d + 1) x1 m Q := by
  refine w_iconst (q := 1) hm65 ⟨⟨_, _, rfl⟩, rfl⟩ iconst_0 ?_
  refine w_istore_n (q := 2) (l' := [oR 70, oI x1, oI (0 : Int32), none]) hm65 ⟨⟨_, _, rfl⟩, rfl⟩ rfl rfl rfl ?_
  refine w_iconst (q := 3) hm65 ⟨⟨_, _, rfl⟩, rfl⟩ iconst_0 ?_
  refine w_istore_n (q := 4) (l' := [oR 70, oI x1, oI (0 : Int32), oI (0 : Int32)]) hm65 ⟨⟨_, _, rfl⟩, rfl⟩ rfl rfl rfl ?_
  exact h
theorem v_X12_paysAll_70_4 {d : Nat} {x1 : Int32} {x2 : Int32} {x3 : Int32} {m : dM} {Q : Int32 → dM → Prop} (h : ((0 ≤ (m.1 70 18).toInt ∧ (m.1 70 18).toInt < 2) ∧ (((m.1 86 (m.1 70 18).toNatClampNeg).toInt ≤ x3.toInt → Q x2 m) ∧ (x3.toInt < (m.1 86 (m.1 70 18).toNatClampNeg).toInt → ((((x1 >>> (x3 &&& 31)) &&& (1 : Int32)).toInt ≠ 1 → j_X12_paysAll_70_34 (d + 1) x1 x2 x3 m Q) ∧ (((x1 >>> (x3 &&& 31)) &&& (1 : Int32)).toInt = 1 → c_X12_paysOf_70 d x3 m (fun r1 m1 => j_X12_paysAll_70_34 (d + 1) x1 (x2 + r1) x3 m1 Q))))))) : j_X12_paysAll_70_4 (d + 1) x1 x2 x3 m Q := by
  refine w_iload_n (q := 5) hm65 ⟨⟨_, _, rfl⟩, rfl⟩ rfl ?_
  refine w_aload_n (q := 6) hm65 ⟨⟨_, _, rfl⟩, rfl⟩ rfl ?_
  refine w_getr (q := 9) hm65 ⟨⟨_, _, rfl⟩, rfl⟩ rfl ?_
  refine w_aload_n (q := 10) hm65 ⟨⟨_, _, rfl⟩, rfl⟩ rfl ?_
  refine w_getf (q := 13) (v := (m.1 70 18)) hm65 ⟨⟨_, _, rfl⟩, rfl⟩ rfl rfl ?_
  obtain ⟨hi, h⟩ := h
  refine w_iald (q := 14) (v := (m.1 86 (m.1 70 18).toNatClampNeg)) hm65 ⟨⟨_, _, rfl⟩, rfl⟩ rfl hi rfl rfl ?_
  refine w_icmp_ge (q := 17) (X := x3.toInt) (Y := (m.1 86 (m.1 70 18).toNatClampNeg).toInt) hm65 ⟨⟨_, _, rfl⟩, rfl⟩ rfl rfl (fun hc => ?_) (fun hc => ?_)
  · have h := h.1 hc
    refine w_iload_n (q := 41) hm65 ⟨⟨_, _, rfl⟩, rfl⟩ rfl ?_
    exact w_reti hm65 ⟨⟨_, _, rfl⟩, rfl⟩ rfl h
  · have h := h.2 hc
    refine w_iload_n (q := 18) hm65 ⟨⟨_, _, rfl⟩, rfl⟩ rfl ?_
    refine w_iload_n (q := 19) hm65 ⟨⟨_, _, rfl⟩, rfl⟩ rfl ?_
    refine w_ishr (q := 20) hm65 ⟨⟨_, _, rfl⟩, rfl⟩ ?_
    refine w_iconst (q := 21) hm65 ⟨⟨_, _, rfl⟩, rfl⟩ iconst_1 ?_
    refine w_iand (q := 22) hm65 ⟨⟨_, _, rfl⟩, rfl⟩ ?_
    refine w_iconst (q := 23) hm65 ⟨⟨_, _, rfl⟩, rfl⟩ iconst_1 ?_
    refine w_icmp_ne (q := 26) (X := ((x1 >>> (x3 &&& 31)) &&& (1 : Int32)).toInt) (Y := 1) hm65 ⟨⟨_, _, rfl⟩, rfl⟩ rfl (by decide) (fun hc => ?_) (fun hc => ?_)
    · have h := h.1 hc
      exact h
    · have h := h.2 hc
      refine w_iload_n (q := 27) hm65 ⟨⟨_, _, rfl⟩, rfl⟩ rfl ?_
      refine w_aload_n (q := 28) hm65 ⟨⟨_, _, rfl⟩, rfl⟩ rfl ?_
      refine w_iload_n (q := 29) hm65 ⟨⟨_, _, rfl⟩, rfl⟩ rfl ?_
      refine w_call (q := 32) (n := 0) (vs := [.inr (.inr (some 70)), .inl x3]) (rest := [.inl x2]) (la := [oR 70, oI x3]) hm65 ⟨⟨_, _, rfl⟩, rfl⟩ rfl rfl rfl rfl hm64 rfl rfl (fun _ => ⟨_, _, rfl, rfl⟩) rfl (Wp.mono h ?_)
      rintro _ m1 ⟨r1, rfl, h⟩
      change Wp _ _ 32 _ [.inl r1, .inl x2] _ _
      refine w_iadd (q := 33) hm65 ⟨⟨_, _, rfl⟩, rfl⟩ ?_
      refine w_istore_n (q := 34) (l' := [oR 70, oI x1, oI (x2 + r1), oI x3]) hm65 ⟨⟨_, _, rfl⟩, rfl⟩ rfl rfl rfl ?_
      exact h
theorem v_X12_paysAll_70_34 {d : Nat} {x1 : Int32} {x2 : Int32} {x3 : Int32} {m : dM} {Q : Int32 → dM → Prop} (h : j_X12_paysAll_70_4 (d + 1) x1 x2 (x3 + (1 : Int32)) m Q) : j_X12_paysAll_70_34 (d + 1) x1 x2 x3 m Q := by
  refine w_iinc (q := 37) (l' := [oR 70, oI x1, oI x2, oI (x3 + (1 : Int32))]) hm65 ⟨⟨_, _, rfl⟩, rfl⟩ rfl rfl rfl iconst_1 rfl ?_
  refine w_goto (q := 4) hm65 ⟨_, _, rfl⟩ ?_
  exact h
theorem v_X12_quarrelsAll_70 {d : Nat} {m : dM} {Q : Int32 → dM → Prop} (h : j_X12_quarrelsAll_70_4 (d + 1) (0 : Int32) (0 : Int32) m Q) : c_X12_quarrelsAll_70 (d + 1) m Q := by
  refine w_iconst (q := 1) hm66 ⟨⟨_, _, rfl⟩, rfl⟩ iconst_0 ?_
  refine w_istore_n (q := 2) (l' := [oR 70, oI (0 : Int32), none]) hm66 ⟨⟨_, _, rfl⟩, rfl⟩ rfl rfl rfl ?_
  refine w_iconst (q := 3) hm66 ⟨⟨_, _, rfl⟩, rfl⟩ iconst_0 ?_
  refine w_istore_n (q := 4) (l' := [oR 70, oI (0 : Int32), oI (0 : Int32)]) hm66 ⟨⟨_, _, rfl⟩, rfl⟩ rfl rfl rfl ?_
  exact h
theorem v_X12_quarrelsAll_70_4 {d : Nat} {x1 : Int32} {x2 : Int32} {m : dM} {Q : Int32 → dM → Prop} (h : ((0 ≤ (m.1 70 18).toInt ∧ (m.1 70 18).toInt < 2) ∧ (((m.1 80 (m.1 70 18).toNatClampNeg).toInt ≤ x2.toInt → Q x1 m) ∧ (x2.toInt < (m.1 80 (m.1 70 18).toNatClampNeg).toInt → c_X12_isLit_70 d x2 m (fun r1 m1 => ((r1.toInt ≠ 0 → j_X12_quarrelsAll_70_33 (d + 1) x1 x2 m1 Q) ∧ (r1.toInt = 0 → c_X12_quarrelOf_70 d x2 m1 (fun r2 m2 => j_X12_quarrelsAll_70_33 (d + 1) (x1 + r2) x2 m2 Q)))))))) : j_X12_quarrelsAll_70_4 (d + 1) x1 x2 m Q := by
  refine w_iload_n (q := 5) hm66 ⟨⟨_, _, rfl⟩, rfl⟩ rfl ?_
  refine w_aload_n (q := 6) hm66 ⟨⟨_, _, rfl⟩, rfl⟩ rfl ?_
  refine w_getr (q := 9) hm66 ⟨⟨_, _, rfl⟩, rfl⟩ rfl ?_
  refine w_aload_n (q := 10) hm66 ⟨⟨_, _, rfl⟩, rfl⟩ rfl ?_
  refine w_getf (q := 13) (v := (m.1 70 18)) hm66 ⟨⟨_, _, rfl⟩, rfl⟩ rfl rfl ?_
  obtain ⟨hi, h⟩ := h
  refine w_iald (q := 14) (v := (m.1 80 (m.1 70 18).toNatClampNeg)) hm66 ⟨⟨_, _, rfl⟩, rfl⟩ rfl hi rfl rfl ?_
  refine w_icmp_ge (q := 17) (X := x2.toInt) (Y := (m.1 80 (m.1 70 18).toNatClampNeg).toInt) hm66 ⟨⟨_, _, rfl⟩, rfl⟩ rfl rfl (fun hc => ?_) (fun hc => ?_)
  · have h := h.1 hc
    refine w_iload_n (q := 40) hm66 ⟨⟨_, _, rfl⟩, rfl⟩ rfl ?_
    exact w_reti hm66 ⟨⟨_, _, rfl⟩, rfl⟩ rfl h
  · have h := h.2 hc
    refine w_aload_n (q := 18) hm66 ⟨⟨_, _, rfl⟩, rfl⟩ rfl ?_
    refine w_iload_n (q := 19) hm66 ⟨⟨_, _, rfl⟩, rfl⟩ rfl ?_
    refine w_call (q := 22) (n := 0) (vs := [.inr (.inr (some 70)), .inl x2]) (rest := []) (la := [oR 70, oI x2]) hm66 ⟨⟨_, _, rfl⟩, rfl⟩ rfl rfl rfl rfl hm51 rfl rfl (fun _ => ⟨_, _, rfl, rfl⟩) rfl (Wp.mono h ?_)
    rintro _ m1 ⟨r1, rfl, h⟩
    change Wp _ _ 22 _ [.inl r1] _ _
    refine w_if_ne (q := 25) (X := r1.toInt) hm66 ⟨⟨_, _, rfl⟩, rfl⟩ rfl (fun hc => ?_) (fun hc => ?_)
    · have h := h.1 hc
      exact h
    · have h := h.2 hc
      refine w_iload_n (q := 26) hm66 ⟨⟨_, _, rfl⟩, rfl⟩ rfl ?_
      refine w_aload_n (q := 27) hm66 ⟨⟨_, _, rfl⟩, rfl⟩ rfl ?_
      refine w_iload_n (q := 28) hm66 ⟨⟨_, _, rfl⟩, rfl⟩ rfl ?_
      refine w_call (q := 31) (n := 0) (vs := [.inr (.inr (some 70)), .inl x2]) (rest := [.inl x1]) (la := [oR 70, oI x2]) hm66 ⟨⟨_, _, rfl⟩, rfl⟩ rfl rfl rfl rfl hm62 rfl rfl (fun _ => ⟨_, _, rfl, rfl⟩) rfl (Wp.mono h ?_)
      rintro _ m2 ⟨r2, rfl, h⟩
      change Wp _ _ 31 _ [.inl r2, .inl x1] _ _
      refine w_iadd (q := 32) hm66 ⟨⟨_, _, rfl⟩, rfl⟩ ?_
      refine w_istore_n (q := 33) (l' := [oR 70, oI (x1 + r2), oI x2]) hm66 ⟨⟨_, _, rfl⟩, rfl⟩ rfl rfl rfl ?_
      exact h
theorem v_X12_quarrelsAll_70_33 {d : Nat} {x1 : Int32} {x2 : Int32} {m : dM} {Q : Int32 → dM → Prop} (h : j_X12_quarrelsAll_70_4 (d + 1) x1 (x2 + (1 : Int32)) m Q) : j_X12_quarrelsAll_70_33 (d + 1) x1 x2 m Q := by
  refine w_iinc (q := 36) (l' := [oR 70, oI x1, oI (x2 + (1 : Int32))]) hm66 ⟨⟨_, _, rfl⟩, rfl⟩ rfl rfl rfl iconst_1 rfl ?_
  refine w_goto (q := 4) hm66 ⟨_, _, rfl⟩ ?_
  exact h
theorem v_X12_mixed {d : Nat} {x0 : Int32} {x1 : Int32} {m : dM} {Q : Int32 → dM → Prop} (h : Q ((((x0 ^^^ x1) * (1103515245 : Int32)) + (12345 : Int32)) ^^^ ((((x0 ^^^ x1) * (1103515245 : Int32)) + (12345 : Int32)).toUInt32 >>> ((15 : Int32).toUInt32 &&& Int32.toUInt32 31)).toInt32) m) : c_X12_mixed (d + 1) x0 x1 m Q := by
  refine w_iload_n (q := 1) hm45 ⟨⟨_, _, rfl⟩, rfl⟩ rfl ?_
  refine w_iload_n (q := 2) hm45 ⟨⟨_, _, rfl⟩, rfl⟩ rfl ?_
  refine w_ixor (q := 3) hm45 ⟨⟨_, _, rfl⟩, rfl⟩ ?_
  refine w_ldc_w (q := 6) hm45 ⟨⟨_, _, rfl⟩, rfl⟩ ldc_1103515245 ?_
  refine w_imul (q := 7) hm45 ⟨⟨_, _, rfl⟩, rfl⟩ ?_
  refine w_sipush (q := 10) hm45 ⟨⟨_, _, rfl⟩, rfl⟩ sipush_12345 ?_
  refine w_iadd (q := 11) hm45 ⟨⟨_, _, rfl⟩, rfl⟩ ?_
  refine w_istore_n (q := 12) (l' := [oI x0, oI x1, oI (((x0 ^^^ x1) * (1103515245 : Int32)) + (12345 : Int32))]) hm45 ⟨⟨_, _, rfl⟩, rfl⟩ rfl rfl rfl ?_
  refine w_iload_n (q := 13) hm45 ⟨⟨_, _, rfl⟩, rfl⟩ rfl ?_
  refine w_iload_n (q := 14) hm45 ⟨⟨_, _, rfl⟩, rfl⟩ rfl ?_
  refine w_bipush (q := 16) hm45 ⟨⟨_, _, rfl⟩, rfl⟩ bipush_15 ?_
  refine w_iushr (q := 17) hm45 ⟨⟨_, _, rfl⟩, rfl⟩ ?_
  refine w_ixor (q := 18) hm45 ⟨⟨_, _, rfl⟩, rfl⟩ ?_
  exact w_reti hm45 ⟨⟨_, _, rfl⟩, rfl⟩ rfl h
theorem v_X12_isSurge_70 {d : Nat} {m : dM} {Q : Int32 → dM → Prop} (h : c_X12_mixed d (m.1 70 56) (129 : Int32) m (fun r1 m1 => c_X12_mixed d r1 ((4 : Int32) * (m1.1 108 55)) m1 (fun r2 m2 => ((0 ≤ (m2.1 70 18).toInt ∧ (m2.1 70 18).toInt < 2) ∧ (((m2.1 91 (m2.1 70 18).toNatClampNeg).toInt ≤ ((r2.toUInt32 >>> ((1 : Int32).toUInt32 &&& Int32.toUInt32 31)).toInt32 - (r2.toUInt32 >>> ((1 : Int32).toUInt32 &&& Int32.toUInt32 31)).toInt32 / (100 : Int32) * (100 : Int32)).toInt → Q (0 : Int32) m2) ∧ (((r2.toUInt32 >>> ((1 : Int32).toUInt32 &&& Int32.toUInt32 31)).toInt32 - (r2.toUInt32 >>> ((1 : Int32).toUInt32 &&& Int32.toUInt32 31)).toInt32 / (100 : Int32) * (100 : Int32)).toInt < (m2.1 91 (m2.1 70 18).toNatClampNeg).toInt → Q (1 : Int32) m2)))))) : c_X12_isSurge_70 (d + 1) m Q := by
  refine w_aload_n (q := 1) hm46 ⟨⟨_, _, rfl⟩, rfl⟩ rfl ?_
  refine w_getf (q := 4) (v := (m.1 70 56)) hm46 ⟨⟨_, _, rfl⟩, rfl⟩ rfl rfl ?_
  refine w_sipush (q := 7) hm46 ⟨⟨_, _, rfl⟩, rfl⟩ sipush_129 ?_
  refine w_call (q := 10) (n := 1) (vs := [.inl (m.1 70 56), .inl (129 : Int32)]) (rest := []) (la := [oI (m.1 70 56), oI (129 : Int32), none]) hm46 ⟨⟨_, _, rfl⟩, rfl⟩ rfl rfl rfl rfl hm45 rfl rfl (fun hz => absurd hz (by decide)) rfl (Wp.mono h ?_)
  rintro _ m1 ⟨r1, rfl, h⟩
  change Wp _ _ 10 _ [.inl r1] _ _
  refine w_iconst (q := 11) hm46 ⟨⟨_, _, rfl⟩, rfl⟩ iconst_4 ?_
  refine w_aload_n (q := 12) hm46 ⟨⟨_, _, rfl⟩, rfl⟩ rfl ?_
  refine w_getr (q := 15) hm46 ⟨⟨_, _, rfl⟩, rfl⟩ rfl ?_
  refine w_bipush (q := 17) hm46 ⟨⟨_, _, rfl⟩, rfl⟩ bipush_55 ?_
  refine w_iald (q := 18) (j := 55) (v := (m1.1 108 55)) hm46 ⟨⟨_, _, rfl⟩, rfl⟩ rfl (by decide) (by decide) rfl ?_
  refine w_imul (q := 19) hm46 ⟨⟨_, _, rfl⟩, rfl⟩ ?_
  refine w_call (q := 22) (n := 1) (vs := [.inl r1, .inl ((4 : Int32) * (m1.1 108 55))]) (rest := []) (la := [oI r1, oI ((4 : Int32) * (m1.1 108 55)), none]) hm46 ⟨⟨_, _, rfl⟩, rfl⟩ rfl rfl rfl rfl hm45 rfl rfl (fun hz => absurd hz (by decide)) rfl (Wp.mono h ?_)
  rintro _ m2 ⟨r2, rfl, h⟩
  change Wp _ _ 22 _ [.inl r2] _ _
  refine w_iconst (q := 23) hm46 ⟨⟨_, _, rfl⟩, rfl⟩ iconst_1 ?_
  refine w_iushr (q := 24) hm46 ⟨⟨_, _, rfl⟩, rfl⟩ ?_
  refine w_bipush (q := 26) hm46 ⟨⟨_, _, rfl⟩, rfl⟩ bipush_100 ?_
  refine w_irem (q := 27) hm46 ⟨⟨_, _, rfl⟩, rfl⟩ (by decide) ?_
  refine w_aload_n (q := 28) hm46 ⟨⟨_, _, rfl⟩, rfl⟩ rfl ?_
  refine w_getr (q := 31) hm46 ⟨⟨_, _, rfl⟩, rfl⟩ rfl ?_
  refine w_aload_n (q := 32) hm46 ⟨⟨_, _, rfl⟩, rfl⟩ rfl ?_
  refine w_getf (q := 35) (v := (m2.1 70 18)) hm46 ⟨⟨_, _, rfl⟩, rfl⟩ rfl rfl ?_
  obtain ⟨hi, h⟩ := h
  refine w_iald (q := 36) (v := (m2.1 91 (m2.1 70 18).toNatClampNeg)) hm46 ⟨⟨_, _, rfl⟩, rfl⟩ rfl hi rfl rfl ?_
  refine w_icmp_ge (q := 39) (X := ((r2.toUInt32 >>> ((1 : Int32).toUInt32 &&& Int32.toUInt32 31)).toInt32 - (r2.toUInt32 >>> ((1 : Int32).toUInt32 &&& Int32.toUInt32 31)).toInt32 / (100 : Int32) * (100 : Int32)).toInt) (Y := (m2.1 91 (m2.1 70 18).toNatClampNeg).toInt) hm46 ⟨⟨_, _, rfl⟩, rfl⟩ rfl rfl (fun hc => ?_) (fun hc => ?_)
  · have h := h.1 hc
    refine w_iconst (q := 44) hm46 ⟨⟨_, _, rfl⟩, rfl⟩ iconst_0 ?_
    exact w_retz hm46 ⟨⟨_, _, rfl⟩, rfl⟩ rfl (by decide) h
  · have h := h.2 hc
    refine w_iconst (q := 40) hm46 ⟨⟨_, _, rfl⟩, rfl⟩ iconst_1 ?_
    refine w_goto (q := 44) hm46 ⟨_, _, rfl⟩ ?_
    exact w_retz hm46 ⟨⟨_, _, rfl⟩, rfl⟩ rfl (by decide) h
theorem v_X12_hourGoes_70 {d : Nat} {m : dM} {Q : dM → Prop} (h : c_X12_onNow_70 d m (fun r1 m1 => (((m1.1 70 57).toInt ≠ 0 → c_X12_goingBits_70 d r1 ((m1.1 108 55) - (m1.1 108 55) / (24 : Int32) * (24 : Int32)) (0 : Int32) m1 (fun r2 m2 => c_X12_paysAll_70 d r1 (dSet m2 70 60 r2) (fun r3 m3 => c_X12_quarrelsAll_70 d m3 (fun r4 m4 => c_X12_within d ((m4.1 108 56) + r3) (0 : Int32) (99999 : Int32) m4 (fun r5 m5 => c_X12_within d ((m5.1 108 57) + r4) (0 : Int32) (999999 : Int32) (dSet m5 108 56 r5) (fun r6 m6 => j_X12_hourGoes_70_111 (d + 1) (0 : Int32) (dSet m6 108 57 r6) Q)))))) ∧ ((m1.1 70 57).toInt = 0 → c_X12_isSurge_70 d m1 (fun r7 m7 => ((r7.toInt = 0 → c_X12_goingBits_70 d r1 ((m1.1 108 55) - (m1.1 108 55) / (24 : Int32) * (24 : Int32)) (0 : Int32) m7 (fun r8 m8 => c_X12_paysAll_70 d r1 (dSet m8 70 60 r8) (fun r9 m9 => c_X12_quarrelsAll_70 d m9 (fun r10 m10 => c_X12_within d ((m10.1 108 56) + r9) (0 : Int32) (99999 : Int32) m10 (fun r11 m11 => c_X12_within d ((m11.1 108 57) + r10) (0 : Int32) (999999 : Int32) (dSet m11 108 56 r11) (fun r12 m12 => j_X12_hourGoes_70_111 (d + 1) (0 : Int32) (dSet m12 108 57 r12) Q)))))) ∧ (r7.toInt ≠ 0 → ((0 ≤ (m7.1 70 18).toInt ∧ (m7.1 70 18).toInt < 2) ∧ c_X12_goingBits_70 d r1 ((m1.1 108 55) - (m1.1 108 55) / (24 : Int32) * (24 : Int32)) (m7.1 92 (m7.1 70 18).toNatClampNeg) m7 (fun r13 m13 => c_X12_paysAll_70 d r1 (dSet m13 70 60 r13) (fun r14 m14 => c_X12_quarrelsAll_70 d m14 (fun r15 m15 => c_X12_within d ((m15.1 108 56) + r14) (0 : Int32) (99999 : Int32) m15 (fun r16 m16 => c_X12_within d ((m16.1 108 57) + r15) (0 : Int32) (999999 : Int32) (dSet m16 108 56 r16) (fun r17 m17 => j_X12_hourGoes_70_111 (d + 1) (0 : Int32) (dSet m17 108 57 r17) Q))))))))))))) : c_X12_hourGoes_70 (d + 1) m Q := by
  refine w_aload_n (q := 1) hm67 ⟨⟨_, _, rfl⟩, rfl⟩ rfl ?_
  refine w_call (q := 4) (n := 0) (vs := [.inr (.inr (some 70))]) (rest := []) (la := [oR 70]) hm67 ⟨⟨_, _, rfl⟩, rfl⟩ rfl rfl rfl rfl hm56 rfl rfl (fun _ => ⟨_, _, rfl, rfl⟩) rfl (Wp.mono h ?_)
  rintro _ m1 ⟨r1, rfl, h⟩
  change Wp _ _ 4 _ [.inl r1] _ _
  refine w_istore_n (q := 5) (l' := [oR 70, oI r1, none, none, none]) hm67 ⟨⟨_, _, rfl⟩, rfl⟩ rfl rfl rfl ?_
  refine w_aload_n (q := 6) hm67 ⟨⟨_, _, rfl⟩, rfl⟩ rfl ?_
  refine w_aload_n (q := 7) hm67 ⟨⟨_, _, rfl⟩, rfl⟩ rfl ?_
  refine w_iload_n (q := 8) hm67 ⟨⟨_, _, rfl⟩, rfl⟩ rfl ?_
  refine w_aload_n (q := 9) hm67 ⟨⟨_, _, rfl⟩, rfl⟩ rfl ?_
  refine w_getr (q := 12) hm67 ⟨⟨_, _, rfl⟩, rfl⟩ rfl ?_
  refine w_bipush (q := 14) hm67 ⟨⟨_, _, rfl⟩, rfl⟩ bipush_55 ?_
  refine w_iald (q := 15) (j := 55) (v := (m1.1 108 55)) hm67 ⟨⟨_, _, rfl⟩, rfl⟩ rfl (by decide) (by decide) rfl ?_
  refine w_bipush (q := 17) hm67 ⟨⟨_, _, rfl⟩, rfl⟩ bipush_24 ?_
  refine w_irem (q := 18) hm67 ⟨⟨_, _, rfl⟩, rfl⟩ (by decide) ?_
  refine w_aload_n (q := 19) hm67 ⟨⟨_, _, rfl⟩, rfl⟩ rfl ?_
  refine w_getf (q := 22) (v := (m1.1 70 57)) hm67 ⟨⟨_, _, rfl⟩, rfl⟩ rfl rfl ?_
  refine w_if_ne (q := 25) (X := (m1.1 70 57).toInt) hm67 ⟨⟨_, _, rfl⟩, rfl⟩ rfl (fun hc => ?_) (fun hc => ?_)
  · have h := h.1 hc
    refine w_iconst (q := 45) hm67 ⟨⟨_, _, rfl⟩, rfl⟩ iconst_0 ?_
    refine w_call (q := 48) (n := 2) (vs := [.inr (.inr (some 70)), .inl r1, .inl ((m1.1 108 55) - (m1.1 108 55) / (24 : Int32) * (24 : Int32)), .inl (0 : Int32)]) (rest := [.inr (.inr (some 70))]) (la := [oR 70, oI r1, oI ((m1.1 108 55) - (m1.1 108 55) / (24 : Int32) * (24 : Int32)), oI (0 : Int32), none, none]) hm67 ⟨⟨_, _, rfl⟩, rfl⟩ rfl rfl rfl rfl hm61 rfl rfl (fun _ => ⟨_, _, rfl, rfl⟩) rfl (Wp.mono h ?_)
    rintro _ m2 ⟨r2, rfl, h⟩
    change Wp _ _ 48 _ [.inl r2, .inr (.inr (some 70))] _ _
    refine w_putf (q := 51) hm67 ⟨⟨_, _, rfl⟩, rfl⟩ rfl rfl rfl ?_
    refine w_aload_n (q := 52) hm67 ⟨⟨_, _, rfl⟩, rfl⟩ rfl ?_
    refine w_iload_n (q := 53) hm67 ⟨⟨_, _, rfl⟩, rfl⟩ rfl ?_
    refine w_call (q := 56) (n := 2) (vs := [.inr (.inr (some 70)), .inl r1]) (rest := []) (la := [oR 70, oI r1, none, none]) hm67 ⟨⟨_, _, rfl⟩, rfl⟩ rfl rfl rfl rfl hm65 rfl rfl (fun _ => ⟨_, _, rfl, rfl⟩) rfl (Wp.mono h ?_)
    rintro _ m3 ⟨r3, rfl, h⟩
    change Wp _ _ 56 _ [.inl r3] _ _
    refine w_istore_n (q := 57) (l' := [oR 70, oI r1, oI r3, none, none]) hm67 ⟨⟨_, _, rfl⟩, rfl⟩ rfl rfl rfl ?_
    refine w_aload_n (q := 58) hm67 ⟨⟨_, _, rfl⟩, rfl⟩ rfl ?_
    refine w_call (q := 61) (n := 2) (vs := [.inr (.inr (some 70))]) (rest := []) (la := [oR 70, none, none]) hm67 ⟨⟨_, _, rfl⟩, rfl⟩ rfl rfl rfl rfl hm66 rfl rfl (fun _ => ⟨_, _, rfl, rfl⟩) rfl (Wp.mono h ?_)
    rintro _ m4 ⟨r4, rfl, h⟩
    change Wp _ _ 61 _ [.inl r4] _ _
    refine w_istore_n (q := 62) (l' := [oR 70, oI r1, oI r3, oI r4, none]) hm67 ⟨⟨_, _, rfl⟩, rfl⟩ rfl rfl rfl ?_
    refine w_aload_n (q := 63) hm67 ⟨⟨_, _, rfl⟩, rfl⟩ rfl ?_
    refine w_getr (q := 66) hm67 ⟨⟨_, _, rfl⟩, rfl⟩ rfl ?_
    refine w_bipush (q := 68) hm67 ⟨⟨_, _, rfl⟩, rfl⟩ bipush_56 ?_
    refine w_aload_n (q := 69) hm67 ⟨⟨_, _, rfl⟩, rfl⟩ rfl ?_
    refine w_getr (q := 72) hm67 ⟨⟨_, _, rfl⟩, rfl⟩ rfl ?_
    refine w_bipush (q := 74) hm67 ⟨⟨_, _, rfl⟩, rfl⟩ bipush_56 ?_
    refine w_iald (q := 75) (j := 56) (v := (m4.1 108 56)) hm67 ⟨⟨_, _, rfl⟩, rfl⟩ rfl (by decide) (by decide) rfl ?_
    refine w_iload_n (q := 76) hm67 ⟨⟨_, _, rfl⟩, rfl⟩ rfl ?_
    refine w_iadd (q := 77) hm67 ⟨⟨_, _, rfl⟩, rfl⟩ ?_
    refine w_iconst (q := 78) hm67 ⟨⟨_, _, rfl⟩, rfl⟩ iconst_0 ?_
    refine w_ldc_w (q := 81) hm67 ⟨⟨_, _, rfl⟩, rfl⟩ ldc_99999 ?_
    refine w_call (q := 84) (n := 0) (vs := [.inl ((m4.1 108 56) + r3), .inl (0 : Int32), .inl (99999 : Int32)]) (rest := [.inl (56 : Int32), .inr (.inr (some 108))]) (la := [oI ((m4.1 108 56) + r3), oI (0 : Int32), oI (99999 : Int32)]) hm67 ⟨⟨_, _, rfl⟩, rfl⟩ rfl rfl rfl rfl hm37 rfl rfl (fun hz => absurd hz (by decide)) rfl (Wp.mono h ?_)
    rintro _ m5 ⟨r5, rfl, h⟩
    change Wp _ _ 84 _ [.inl r5, .inl (56 : Int32), .inr (.inr (some 108))] _ _
    refine w_iast (q := 85) (j := 56) hm67 ⟨⟨_, _, rfl⟩, rfl⟩ rfl (by decide) (by decide) rfl ?_
    refine w_aload_n (q := 86) hm67 ⟨⟨_, _, rfl⟩, rfl⟩ rfl ?_
    refine w_getr (q := 89) hm67 ⟨⟨_, _, rfl⟩, rfl⟩ rfl ?_
    refine w_bipush (q := 91) hm67 ⟨⟨_, _, rfl⟩, rfl⟩ bipush_57 ?_
    refine w_aload_n (q := 92) hm67 ⟨⟨_, _, rfl⟩, rfl⟩ rfl ?_
    refine w_getr (q := 95) hm67 ⟨⟨_, _, rfl⟩, rfl⟩ rfl ?_
    refine w_bipush (q := 97) hm67 ⟨⟨_, _, rfl⟩, rfl⟩ bipush_57 ?_
    refine w_iald (q := 98) (j := 57) (v := (m5.1 108 57)) hm67 ⟨⟨_, _, rfl⟩, rfl⟩ rfl (by decide) (by decide) rfl ?_
    refine w_iload_n (q := 99) hm67 ⟨⟨_, _, rfl⟩, rfl⟩ rfl ?_
    refine w_iadd (q := 100) hm67 ⟨⟨_, _, rfl⟩, rfl⟩ ?_
    refine w_iconst (q := 101) hm67 ⟨⟨_, _, rfl⟩, rfl⟩ iconst_0 ?_
    refine w_ldc_w (q := 104) hm67 ⟨⟨_, _, rfl⟩, rfl⟩ ldc_999999 ?_
    refine w_call (q := 107) (n := 0) (vs := [.inl ((m5.1 108 57) + r4), .inl (0 : Int32), .inl (999999 : Int32)]) (rest := [.inl (57 : Int32), .inr (.inr (some 108))]) (la := [oI ((m5.1 108 57) + r4), oI (0 : Int32), oI (999999 : Int32)]) hm67 ⟨⟨_, _, rfl⟩, rfl⟩ rfl rfl rfl rfl hm37 rfl rfl (fun hz => absurd hz (by decide)) rfl (Wp.mono h ?_)
    rintro _ m6 ⟨r6, rfl, h⟩
    change Wp _ _ 107 _ [.inl r6, .inl (57 : Int32), .inr (.inr (some 108))] _ _
    refine w_iast (q := 108) (j := 57) hm67 ⟨⟨_, _, rfl⟩, rfl⟩ rfl (by decide) (by decide) rfl ?_
    refine w_iconst (q := 109) hm67 ⟨⟨_, _, rfl⟩, rfl⟩ iconst_0 ?_
    refine w_istore (q := 111) (l' := [oR 70, oI r1, oI r3, oI r4, oI (0 : Int32)]) hm67 ⟨⟨_, _, rfl⟩, rfl⟩ rfl rfl rfl ?_
    exact Wp.wk [true, false, false, false, true] h
  · have h := h.2 hc
    refine w_aload_n (q := 26) hm67 ⟨⟨_, _, rfl⟩, rfl⟩ rfl ?_
    refine w_call (q := 29) (n := 0) (vs := [.inr (.inr (some 70))]) (rest := [.inl ((m1.1 108 55) - (m1.1 108 55) / (24 : Int32) * (24 : Int32)), .inl r1, .inr (.inr (some 70)), .inr (.inr (some 70))]) (la := [oR 70]) hm67 ⟨⟨_, _, rfl⟩, rfl⟩ rfl rfl rfl rfl hm46 rfl rfl (fun _ => ⟨_, _, rfl, rfl⟩) rfl (Wp.mono h ?_)
    rintro _ m7 ⟨r7, rfl, h⟩
    change Wp _ _ 29 _ [.inl r7, .inl ((m1.1 108 55) - (m1.1 108 55) / (24 : Int32) * (24 : Int32)), .inl r1, .inr (.inr (some 70)), .inr (.inr (some 70))] _ _
    refine w_if_eq (q := 32) (X := r7.toInt) hm67 ⟨⟨_, _, rfl⟩, rfl⟩ rfl (fun hc => ?_) (fun hc => ?_)
    · have h := h.1 hc
      refine w_iconst (q := 45) hm67 ⟨⟨_, _, rfl⟩, rfl⟩ iconst_0 ?_
      refine w_call (q := 48) (n := 2) (vs := [.inr (.inr (some 70)), .inl r1, .inl ((m1.1 108 55) - (m1.1 108 55) / (24 : Int32) * (24 : Int32)), .inl (0 : Int32)]) (rest := [.inr (.inr (some 70))]) (la := [oR 70, oI r1, oI ((m1.1 108 55) - (m1.1 108 55) / (24 : Int32) * (24 : Int32)), oI (0 : Int32), none, none]) hm67 ⟨⟨_, _, rfl⟩, rfl⟩ rfl rfl rfl rfl hm61 rfl rfl (fun _ => ⟨_, _, rfl, rfl⟩) rfl (Wp.mono h ?_)
      rintro _ m8 ⟨r8, rfl, h⟩
      change Wp _ _ 48 _ [.inl r8, .inr (.inr (some 70))] _ _
      refine w_putf (q := 51) hm67 ⟨⟨_, _, rfl⟩, rfl⟩ rfl rfl rfl ?_
      refine w_aload_n (q := 52) hm67 ⟨⟨_, _, rfl⟩, rfl⟩ rfl ?_
      refine w_iload_n (q := 53) hm67 ⟨⟨_, _, rfl⟩, rfl⟩ rfl ?_
      refine w_call (q := 56) (n := 2) (vs := [.inr (.inr (some 70)), .inl r1]) (rest := []) (la := [oR 70, oI r1, none, none]) hm67 ⟨⟨_, _, rfl⟩, rfl⟩ rfl rfl rfl rfl hm65 rfl rfl (fun _ => ⟨_, _, rfl, rfl⟩) rfl (Wp.mono h ?_)
      rintro _ m9 ⟨r9, rfl, h⟩
      change Wp _ _ 56 _ [.inl r9] _ _
      refine w_istore_n (q := 57) (l' := [oR 70, oI r1, oI r9, none, none]) hm67 ⟨⟨_, _, rfl⟩, rfl⟩ rfl rfl rfl ?_
      refine w_aload_n (q := 58) hm67 ⟨⟨_, _, rfl⟩, rfl⟩ rfl ?_
      refine w_call (q := 61) (n := 2) (vs := [.inr (.inr (some 70))]) (rest := []) (la := [oR 70, none, none]) hm67 ⟨⟨_, _, rfl⟩, rfl⟩ rfl rfl rfl rfl hm66 rfl rfl (fun _ => ⟨_, _, rfl, rfl⟩) rfl (Wp.mono h ?_)
      rintro _ m10 ⟨r10, rfl, h⟩
      change Wp _ _ 61 _ [.inl r10] _ _
      refine w_istore_n (q := 62) (l' := [oR 70, oI r1, oI r9, oI r10, none]) hm67 ⟨⟨_, _, rfl⟩, rfl⟩ rfl rfl rfl ?_
      refine w_aload_n (q := 63) hm67 ⟨⟨_, _, rfl⟩, rfl⟩ rfl ?_
      refine w_getr (q := 66) hm67 ⟨⟨_, _, rfl⟩, rfl⟩ rfl ?_
      refine w_bipush (q := 68) hm67 ⟨⟨_, _, rfl⟩, rfl⟩ bipush_56 ?_
      refine w_aload_n (q := 69) hm67 ⟨⟨_, _, rfl⟩, rfl⟩ rfl ?_
      refine w_getr (q := 72) hm67 ⟨⟨_, _, rfl⟩, rfl⟩ rfl ?_
      refine w_bipush (q := 74) hm67 ⟨⟨_, _, rfl⟩, rfl⟩ bipush_56 ?_
      refine w_iald (q := 75) (j := 56) (v := (m10.1 108 56)) hm67 ⟨⟨_, _, rfl⟩, rfl⟩ rfl (by decide) (by decide) rfl ?_
      refine w_iload_n (q := 76) hm67 ⟨⟨_, _, rfl⟩, rfl⟩ rfl ?_
      refine w_iadd (q := 77) hm67 ⟨⟨_, _, rfl⟩, rfl⟩ ?_
      refine w_iconst (q := 78) hm67 ⟨⟨_, _, rfl⟩, rfl⟩ iconst_0 ?_
      refine w_ldc_w (q := 81) hm67 ⟨⟨_, _, rfl⟩, rfl⟩ ldc_99999 ?_
      refine w_call (q := 84) (n := 0) (vs := [.inl ((m10.1 108 56) + r9), .inl (0 : Int32), .inl (99999 : Int32)]) (rest := [.inl (56 : Int32), .inr (.inr (some 108))]) (la := [oI ((m10.1 108 56) + r9), oI (0 : Int32), oI (99999 : Int32)]) hm67 ⟨⟨_, _, rfl⟩, rfl⟩ rfl rfl rfl rfl hm37 rfl rfl (fun hz => absurd hz (by decide)) rfl (Wp.mono h ?_)
      rintro _ m11 ⟨r11, rfl, h⟩
      change Wp _ _ 84 _ [.inl r11, .inl (56 : Int32), .inr (.inr (some 108))] _ _
      refine w_iast (q := 85) (j := 56) hm67 ⟨⟨_, _, rfl⟩, rfl⟩ rfl (by decide) (by decide) rfl ?_
      refine w_aload_n (q := 86) hm67 ⟨⟨_, _, rfl⟩, rfl⟩ rfl ?_
      refine w_getr (q := 89) hm67 ⟨⟨_, _, rfl⟩, rfl⟩ rfl ?_
      refine w_bipush (q := 91) hm67 ⟨⟨_, _, rfl⟩, rfl⟩ bipush_57 ?_
      refine w_aload_n (q := 92) hm67 ⟨⟨_, _, rfl⟩, rfl⟩ rfl ?_
      refine w_getr (q := 95) hm67 ⟨⟨_, _, rfl⟩, rfl⟩ rfl ?_
      refine w_bipush (q := 97) hm67 ⟨⟨_, _, rfl⟩, rfl⟩ bipush_57 ?_
      refine w_iald (q := 98) (j := 57) (v := (m11.1 108 57)) hm67 ⟨⟨_, _, rfl⟩, rfl⟩ rfl (by decide) (by decide) rfl ?_
      refine w_iload_n (q := 99) hm67 ⟨⟨_, _, rfl⟩, rfl⟩ rfl ?_
      refine w_iadd (q := 100) hm67 ⟨⟨_, _, rfl⟩, rfl⟩ ?_
      refine w_iconst (q := 101) hm67 ⟨⟨_, _, rfl⟩, rfl⟩ iconst_0 ?_
      refine w_ldc_w (q := 104) hm67 ⟨⟨_, _, rfl⟩, rfl⟩ ldc_999999 ?_
      refine w_call (q := 107) (n := 0) (vs := [.inl ((m11.1 108 57) + r10), .inl (0 : Int32), .inl (999999 : Int32)]) (rest := [.inl (57 : Int32), .inr (.inr (some 108))]) (la := [oI ((m11.1 108 57) + r10), oI (0 : Int32), oI (999999 : Int32)]) hm67 ⟨⟨_, _, rfl⟩, rfl⟩ rfl rfl rfl rfl hm37 rfl rfl (fun hz => absurd hz (by decide)) rfl (Wp.mono h ?_)
      rintro _ m12 ⟨r12, rfl, h⟩
      change Wp _ _ 107 _ [.inl r12, .inl (57 : Int32), .inr (.inr (some 108))] _ _
      refine w_iast (q := 108) (j := 57) hm67 ⟨⟨_, _, rfl⟩, rfl⟩ rfl (by decide) (by decide) rfl ?_
      refine w_iconst (q := 109) hm67 ⟨⟨_, _, rfl⟩, rfl⟩ iconst_0 ?_
      refine w_istore (q := 111) (l' := [oR 70, oI r1, oI r9, oI r10, oI (0 : Int32)]) hm67 ⟨⟨_, _, rfl⟩, rfl⟩ rfl rfl rfl ?_
      exact Wp.wk [true, false, false, false, true] h
    · have h := h.2 hc
      refine w_aload_n (q := 33) hm67 ⟨⟨_, _, rfl⟩, rfl⟩ rfl ?_
      refine w_getr (q := 36) hm67 ⟨⟨_, _, rfl⟩, rfl⟩ rfl ?_
      refine w_aload_n (q := 37) hm67 ⟨⟨_, _, rfl⟩, rfl⟩ rfl ?_
      refine w_getf (q := 40) (v := (m7.1 70 18)) hm67 ⟨⟨_, _, rfl⟩, rfl⟩ rfl rfl ?_
      obtain ⟨hi, h⟩ := h
      refine w_iald (q := 41) (v := (m7.1 92 (m7.1 70 18).toNatClampNeg)) hm67 ⟨⟨_, _, rfl⟩, rfl⟩ rfl hi rfl rfl ?_
      refine w_goto (q := 45) hm67 ⟨_, _, rfl⟩ ?_
      refine w_call (q := 48) (n := 2) (vs := [.inr (.inr (some 70)), .inl r1, .inl ((m1.1 108 55) - (m1.1 108 55) / (24 : Int32) * (24 : Int32)), .inl (m7.1 92 (m7.1 70 18).toNatClampNeg)]) (rest := [.inr (.inr (some 70))]) (la := [oR 70, oI r1, oI ((m1.1 108 55) - (m1.1 108 55) / (24 : Int32) * (24 : Int32)), oI (m7.1 92 (m7.1 70 18).toNatClampNeg), none, none]) hm67 ⟨⟨_, _, rfl⟩, rfl⟩ rfl rfl rfl rfl hm61 rfl rfl (fun _ => ⟨_, _, rfl, rfl⟩) rfl (Wp.mono h ?_)
      rintro _ m13 ⟨r13, rfl, h⟩
      change Wp _ _ 48 _ [.inl r13, .inr (.inr (some 70))] _ _
      refine w_putf (q := 51) hm67 ⟨⟨_, _, rfl⟩, rfl⟩ rfl rfl rfl ?_
      refine w_aload_n (q := 52) hm67 ⟨⟨_, _, rfl⟩, rfl⟩ rfl ?_
      refine w_iload_n (q := 53) hm67 ⟨⟨_, _, rfl⟩, rfl⟩ rfl ?_
      refine w_call (q := 56) (n := 2) (vs := [.inr (.inr (some 70)), .inl r1]) (rest := []) (la := [oR 70, oI r1, none, none]) hm67 ⟨⟨_, _, rfl⟩, rfl⟩ rfl rfl rfl rfl hm65 rfl rfl (fun _ => ⟨_, _, rfl, rfl⟩) rfl (Wp.mono h ?_)
      rintro _ m14 ⟨r14, rfl, h⟩
      change Wp _ _ 56 _ [.inl r14] _ _
      refine w_istore_n (q := 57) (l' := [oR 70, oI r1, oI r14, none, none]) hm67 ⟨⟨_, _, rfl⟩, rfl⟩ rfl rfl rfl ?_
      refine w_aload_n (q := 58) hm67 ⟨⟨_, _, rfl⟩, rfl⟩ rfl ?_
      refine w_call (q := 61) (n := 2) (vs := [.inr (.inr (some 70))]) (rest := []) (la := [oR 70, none, none]) hm67 ⟨⟨_, _, rfl⟩, rfl⟩ rfl rfl rfl rfl hm66 rfl rfl (fun _ => ⟨_, _, rfl, rfl⟩) rfl (Wp.mono h ?_)
      rintro _ m15 ⟨r15, rfl, h⟩
      change Wp _ _ 61 _ [.inl r15] _ _
      refine w_istore_n (q := 62) (l' := [oR 70, oI r1, oI r14, oI r15, none]) hm67 ⟨⟨_, _, rfl⟩, rfl⟩ rfl rfl rfl ?_
      refine w_aload_n (q := 63) hm67 ⟨⟨_, _, rfl⟩, rfl⟩ rfl ?_
      refine w_getr (q := 66) hm67 ⟨⟨_, _, rfl⟩, rfl⟩ rfl ?_
      refine w_bipush (q := 68) hm67 ⟨⟨_, _, rfl⟩, rfl⟩ bipush_56 ?_
      refine w_aload_n (q := 69) hm67 ⟨⟨_, _, rfl⟩, rfl⟩ rfl ?_
      refine w_getr (q := 72) hm67 ⟨⟨_, _, rfl⟩, rfl⟩ rfl ?_
      refine w_bipush (q := 74) hm67 ⟨⟨_, _, rfl⟩, rfl⟩ bipush_56 ?_
      refine w_iald (q := 75) (j := 56) (v := (m15.1 108 56)) hm67 ⟨⟨_, _, rfl⟩, rfl⟩ rfl (by decide) (by decide) rfl ?_
      refine w_iload_n (q := 76) hm67 ⟨⟨_, _, rfl⟩, rfl⟩ rfl ?_
      refine w_iadd (q := 77) hm67 ⟨⟨_, _, rfl⟩, rfl⟩ ?_
      refine w_iconst (q := 78) hm67 ⟨⟨_, _, rfl⟩, rfl⟩ iconst_0 ?_
      refine w_ldc_w (q := 81) hm67 ⟨⟨_, _, rfl⟩, rfl⟩ ldc_99999 ?_
      refine w_call (q := 84) (n := 0) (vs := [.inl ((m15.1 108 56) + r14), .inl (0 : Int32), .inl (99999 : Int32)]) (rest := [.inl (56 : Int32), .inr (.inr (some 108))]) (la := [oI ((m15.1 108 56) + r14), oI (0 : Int32), oI (99999 : Int32)]) hm67 ⟨⟨_, _, rfl⟩, rfl⟩ rfl rfl rfl rfl hm37 rfl rfl (fun hz => absurd hz (by decide)) rfl (Wp.mono h ?_)
      rintro _ m16 ⟨r16, rfl, h⟩
      change Wp _ _ 84 _ [.inl r16, .inl (56 : Int32), .inr (.inr (some 108))] _ _
      refine w_iast (q := 85) (j := 56) hm67 ⟨⟨_, _, rfl⟩, rfl⟩ rfl (by decide) (by decide) rfl ?_
      refine w_aload_n (q := 86) hm67 ⟨⟨_, _, rfl⟩, rfl⟩ rfl ?_
      refine w_getr (q := 89) hm67 ⟨⟨_, _, rfl⟩, rfl⟩ rfl ?_
      refine w_bipush (q := 91) hm67 ⟨⟨_, _, rfl⟩, rfl⟩ bipush_57 ?_
      refine w_aload_n (q := 92) hm67 ⟨⟨_, _, rfl⟩, rfl⟩ rfl ?_
      refine w_getr (q := 95) hm67 ⟨⟨_, _, rfl⟩, rfl⟩ rfl ?_
      refine w_bipush (q := 97) hm67 ⟨⟨_, _, rfl⟩, rfl⟩ bipush_57 ?_
      refine w_iald (q := 98) (j := 57) (v := (m16.1 108 57)) hm67 ⟨⟨_, _, rfl⟩, rfl⟩ rfl (by decide) (by decide) rfl ?_
      refine w_iload_n (q := 99) hm67 ⟨⟨_, _, rfl⟩, rfl⟩ rfl ?_
      refine w_iadd (q := 100) hm67 ⟨⟨_, _, rfl⟩, rfl⟩ ?_
      refine w_iconst (q := 101) hm67 ⟨⟨_, _, rfl⟩, rfl⟩ iconst_0 ?_
      refine w_ldc_w (q := 104) hm67 ⟨⟨_, _, rfl⟩, rfl⟩ ldc_999999 ?_
      refine w_call (q := 107) (n := 0) (vs := [.inl ((m16.1 108 57) + r15), .inl (0 : Int32), .inl (999999 : Int32)]) (rest := [.inl (57 : Int32), .inr (.inr (some 108))]) (la := [oI ((m16.1 108 57) + r15), oI (0 : Int32), oI (999999 : Int32)]) hm67 ⟨⟨_, _, rfl⟩, rfl⟩ rfl rfl rfl rfl hm37 rfl rfl (fun hz => absurd hz (by decide)) rfl (Wp.mono h ?_)
      rintro _ m17 ⟨r17, rfl, h⟩
      change Wp _ _ 107 _ [.inl r17, .inl (57 : Int32), .inr (.inr (some 108))] _ _
      refine w_iast (q := 108) (j := 57) hm67 ⟨⟨_, _, rfl⟩, rfl⟩ rfl (by decide) (by decide) rfl ?_
      refine w_iconst (q := 109) hm67 ⟨⟨_, _, rfl⟩, rfl⟩ iconst_0 ?_
      refine w_istore (q := 111) (l' := [oR 70, oI r1, oI r14, oI r15, oI (0 : Int32)]) hm67 ⟨⟨_, _, rfl⟩, rfl⟩ rfl rfl rfl ?_
      exact Wp.wk [true, false, false, false, true] h
theorem v_X12_hourGoes_70_111 {d : Nat} {x4 : Int32} {m : dM} {Q : dM → Prop} (h : ((0 ≤ (m.1 70 18).toInt ∧ (m.1 70 18).toInt < 2) ∧ (((m.1 80 (m.1 70 18).toNatClampNeg).toInt ≤ x4.toInt → j_X12_hourGoes_70_169 (d + 1) (0 : Int32) m Q) ∧ (x4.toInt < (m.1 80 (m.1 70 18).toNatClampNeg).toInt → c_X12_isLit_70 d x4 m (fun r1 m1 => ((r1.toInt = 0 → ((0 ≤ ((40 : Int32) + x4).toInt ∧ ((40 : Int32) + x4).toInt < 58) ∧ ((0 ≤ ((40 : Int32) + x4).toInt ∧ ((40 : Int32) + x4).toInt < 58) ∧ j_X12_hourGoes_70_111 (d + 1) (x4 + (1 : Int32)) (dSet m1 108 ((40 : Int32) + x4).toNatClampNeg ((m1.1 108 ((40 : Int32) + x4).toNatClampNeg) + (1 : Int32))) Q))) ∧ (r1.toInt ≠ 0 → ((0 ≤ ((40 : Int32) + x4).toInt ∧ ((40 : Int32) + x4).toInt < 58) ∧ j_X12_hourGoes_70_111 (d + 1) (x4 + (1 : Int32)) (dSet m1 108 ((40 : Int32) + x4).toNatClampNeg (0 : Int32)) Q)))))))) : j_X12_hourGoes_70_111 (d + 1) x4 m Q := by
  refine w_iload (q := 113) hm67 ⟨⟨_, _, rfl⟩, rfl⟩ rfl ?_
  refine w_aload_n (q := 114) hm67 ⟨⟨_, _, rfl⟩, rfl⟩ rfl ?_
  refine w_getr (q := 117) hm67 ⟨⟨_, _, rfl⟩, rfl⟩ rfl ?_
  refine w_aload_n (q := 118) hm67 ⟨⟨_, _, rfl⟩, rfl⟩ rfl ?_
  refine w_getf (q := 121) (v := (m.1 70 18)) hm67 ⟨⟨_, _, rfl⟩, rfl⟩ rfl rfl ?_
  obtain ⟨hi, h⟩ := h
  refine w_iald (q := 122) (v := (m.1 80 (m.1 70 18).toNatClampNeg)) hm67 ⟨⟨_, _, rfl⟩, rfl⟩ rfl hi rfl rfl ?_
  refine w_icmp_ge (q := 125) (X := x4.toInt) (Y := (m.1 80 (m.1 70 18).toNatClampNeg).toInt) hm67 ⟨⟨_, _, rfl⟩, rfl⟩ rfl rfl (fun hc => ?_) (fun hc => ?_)
  · have h := h.1 hc
    refine w_iconst (q := 167) hm67 ⟨⟨_, _, rfl⟩, rfl⟩ iconst_0 ?_
    refine w_istore (q := 169) (l' := [oR 70, none, none, none, oI (0 : Int32)]) hm67 ⟨⟨_, _, rfl⟩, rfl⟩ rfl rfl rfl ?_
    exact h
  · have h := h.2 hc
    refine w_aload_n (q := 126) hm67 ⟨⟨_, _, rfl⟩, rfl⟩ rfl ?_
    refine w_getr (q := 129) hm67 ⟨⟨_, _, rfl⟩, rfl⟩ rfl ?_
    refine w_bipush (q := 131) hm67 ⟨⟨_, _, rfl⟩, rfl⟩ bipush_40 ?_
    refine w_iload (q := 133) hm67 ⟨⟨_, _, rfl⟩, rfl⟩ rfl ?_
    refine w_iadd (q := 134) hm67 ⟨⟨_, _, rfl⟩, rfl⟩ ?_
    refine w_aload_n (q := 135) hm67 ⟨⟨_, _, rfl⟩, rfl⟩ rfl ?_
    refine w_iload (q := 137) hm67 ⟨⟨_, _, rfl⟩, rfl⟩ rfl ?_
    refine w_call (q := 140) (n := 0) (vs := [.inr (.inr (some 70)), .inl x4]) (rest := [.inl ((40 : Int32) + x4), .inr (.inr (some 108))]) (la := [oR 70, oI x4]) hm67 ⟨⟨_, _, rfl⟩, rfl⟩ rfl rfl rfl rfl hm51 rfl rfl (fun _ => ⟨_, _, rfl, rfl⟩) rfl (Wp.mono h ?_)
    rintro _ m1 ⟨r1, rfl, h⟩
    change Wp _ _ 140 _ [.inl r1, .inl ((40 : Int32) + x4), .inr (.inr (some 108))] _ _
    refine w_if_eq (q := 143) (X := r1.toInt) hm67 ⟨⟨_, _, rfl⟩, rfl⟩ rfl (fun hc => ?_) (fun hc => ?_)
    · have h := h.1 hc
      refine w_aload_n (q := 148) hm67 ⟨⟨_, _, rfl⟩, rfl⟩ rfl ?_
      refine w_getr (q := 151) hm67 ⟨⟨_, _, rfl⟩, rfl⟩ rfl ?_
      refine w_bipush (q := 153) hm67 ⟨⟨_, _, rfl⟩, rfl⟩ bipush_40 ?_
      refine w_iload (q := 155) hm67 ⟨⟨_, _, rfl⟩, rfl⟩ rfl ?_
      refine w_iadd (q := 156) hm67 ⟨⟨_, _, rfl⟩, rfl⟩ ?_
      obtain ⟨hi, h⟩ := h
      refine w_iald (q := 157) (v := (m1.1 108 ((40 : Int32) + x4).toNatClampNeg)) hm67 ⟨⟨_, _, rfl⟩, rfl⟩ rfl hi rfl rfl ?_
      refine w_iconst (q := 158) hm67 ⟨⟨_, _, rfl⟩, rfl⟩ iconst_1 ?_
      refine w_iadd (q := 159) hm67 ⟨⟨_, _, rfl⟩, rfl⟩ ?_
      obtain ⟨hi, h⟩ := h
      refine w_iast (q := 160) hm67 ⟨⟨_, _, rfl⟩, rfl⟩ rfl hi rfl rfl ?_
      refine w_iinc (q := 163) (l' := [oR 70, none, none, none, oI (x4 + (1 : Int32))]) hm67 ⟨⟨_, _, rfl⟩, rfl⟩ rfl rfl rfl iconst_1 rfl ?_
      refine w_goto (q := 111) hm67 ⟨_, _, rfl⟩ ?_
      exact h
    · have h := h.2 hc
      refine w_iconst (q := 144) hm67 ⟨⟨_, _, rfl⟩, rfl⟩ iconst_0 ?_
      refine w_goto (q := 159) hm67 ⟨_, _, rfl⟩ ?_
      obtain ⟨hi, h⟩ := h
      refine w_iast (q := 160) hm67 ⟨⟨_, _, rfl⟩, rfl⟩ rfl hi rfl rfl ?_
      refine w_iinc (q := 163) (l' := [oR 70, none, none, none, oI (x4 + (1 : Int32))]) hm67 ⟨⟨_, _, rfl⟩, rfl⟩ rfl rfl rfl iconst_1 rfl ?_
      refine w_goto (q := 111) hm67 ⟨_, _, rfl⟩ ?_
      exact h
theorem v_X12_hourGoes_70_169 {d : Nat} {x4 : Int32} {m : dM} {Q : dM → Prop} (h : ((0 ≤ (m.1 70 18).toInt ∧ (m.1 70 18).toInt < 2) ∧ (((m.1 82 (m.1 70 18).toNatClampNeg).toInt ≤ x4.toInt → (((m.1 70 60).toInt = 0 → j_X12_hourGoes_70_284 (d + 1) (dSet m 108 55 ((m.1 108 55) + (1 : Int32))) Q) ∧ ((m.1 70 60).toInt ≠ 0 → c_X12_fillsWays_70 d (dSet m 108 55 ((m.1 108 55) + (1 : Int32))) (fun m1 => j_X12_hourGoes_70_284 (d + 1) m1 Q)))) ∧ (x4.toInt < (m.1 82 (m.1 70 18).toNatClampNeg).toInt → ((0 ≤ ((10 : Int32) + x4).toInt ∧ ((10 : Int32) + x4).toInt < 58) ∧ (((m.1 108 ((10 : Int32) + x4).toNatClampNeg).toInt ≠ 1 → (((((m.1 70 60) >>> (x4 &&& 31)) &&& (1 : Int32)).toInt ≠ 1 → ((0 ≤ ((20 : Int32) + x4).toInt ∧ ((20 : Int32) + x4).toInt < 58) ∧ c_X12_within d ((m.1 108 ((20 : Int32) + x4).toNatClampNeg) + (1 : Int32)) (0 : Int32) (999 : Int32) m (fun r2 m2 => ((0 ≤ ((20 : Int32) + x4).toInt ∧ ((20 : Int32) + x4).toInt < 58) ∧ j_X12_hourGoes_70_256 (d + 1) x4 (dSet m2 108 ((20 : Int32) + x4).toNatClampNeg r2) Q)))) ∧ ((((m.1 70 60) >>> (x4 &&& 31)) &&& (1 : Int32)).toInt = 1 → ((0 ≤ ((10 : Int32) + x4).toInt ∧ ((10 : Int32) + x4).toInt < 58) ∧ j_X12_hourGoes_70_256 (d + 1) x4 (dSet m 108 ((10 : Int32) + x4).toNatClampNeg (1 : Int32)) Q)))) ∧ ((m.1 108 ((10 : Int32) + x4).toNatClampNeg).toInt = 1 → j_X12_hourGoes_70_256 (d + 1) x4 m Q))))))) : j_X12_hourGoes_70_169 (d + 1) x4 m Q := by
  refine w_iload (q := 171) hm67 ⟨⟨_, _, rfl⟩, rfl⟩ rfl ?_
  refine w_aload_n (q := 172) hm67 ⟨⟨_, _, rfl⟩, rfl⟩ rfl ?_
  refine w_getr (q := 175) hm67 ⟨⟨_, _, rfl⟩, rfl⟩ rfl ?_
  refine w_aload_n (q := 176) hm67 ⟨⟨_, _, rfl⟩, rfl⟩ rfl ?_
  refine w_getf (q := 179) (v := (m.1 70 18)) hm67 ⟨⟨_, _, rfl⟩, rfl⟩ rfl rfl ?_
  obtain ⟨hi, h⟩ := h
  refine w_iald (q := 180) (v := (m.1 82 (m.1 70 18).toNatClampNeg)) hm67 ⟨⟨_, _, rfl⟩, rfl⟩ rfl hi rfl rfl ?_
  refine w_icmp_ge (q := 183) (X := x4.toInt) (Y := (m.1 82 (m.1 70 18).toNatClampNeg).toInt) hm67 ⟨⟨_, _, rfl⟩, rfl⟩ rfl rfl (fun hc => ?_) (fun hc => ?_)
  · have h := h.1 hc
    refine w_aload_n (q := 263) hm67 ⟨⟨_, _, rfl⟩, rfl⟩ rfl ?_
    refine w_getr (q := 266) hm67 ⟨⟨_, _, rfl⟩, rfl⟩ rfl ?_
    refine w_bipush (q := 268) hm67 ⟨⟨_, _, rfl⟩, rfl⟩ bipush_55 ?_
    refine w_dup2 (q := 269) hm67 ⟨⟨_, _, rfl⟩, rfl⟩ rfl ?_
    refine w_iald (q := 270) (j := 55) (v := (m.1 108 55)) hm67 ⟨⟨_, _, rfl⟩, rfl⟩ rfl (by decide) (by decide) rfl ?_
    refine w_iconst (q := 271) hm67 ⟨⟨_, _, rfl⟩, rfl⟩ iconst_1 ?_
    refine w_iadd (q := 272) hm67 ⟨⟨_, _, rfl⟩, rfl⟩ ?_
    refine w_iast (q := 273) (j := 55) hm67 ⟨⟨_, _, rfl⟩, rfl⟩ rfl (by decide) (by decide) rfl ?_
    refine w_aload_n (q := 274) hm67 ⟨⟨_, _, rfl⟩, rfl⟩ rfl ?_
    refine w_getf (q := 277) (v := (m.1 70 60)) hm67 ⟨⟨_, _, rfl⟩, rfl⟩ rfl rfl ?_
    refine w_if_eq (q := 280) (X := (m.1 70 60).toInt) hm67 ⟨⟨_, _, rfl⟩, rfl⟩ rfl (fun hc => ?_) (fun hc => ?_)
    · have h := h.1 hc
      exact Wp.wk [false, false, false, false, false] h
    · have h := h.2 hc
      refine w_aload_n (q := 281) hm67 ⟨⟨_, _, rfl⟩, rfl⟩ rfl ?_
      refine w_call (q := 284) (n := 4) (vs := [.inr (.inr (some 70))]) (rest := []) (la := [oR 70, none, none, none, none]) hm67 ⟨⟨_, _, rfl⟩, rfl⟩ rfl rfl rfl rfl hm50 rfl rfl (fun _ => ⟨_, _, rfl, rfl⟩) rfl (Wp.mono h ?_)
      rintro _ m1 ⟨rfl, h⟩
      change Wp _ _ 284 _ [] _ _
      exact Wp.wk [false, false, false, false, false] h
  · have h := h.2 hc
    refine w_aload_n (q := 184) hm67 ⟨⟨_, _, rfl⟩, rfl⟩ rfl ?_
    refine w_getr (q := 187) hm67 ⟨⟨_, _, rfl⟩, rfl⟩ rfl ?_
    refine w_bipush (q := 189) hm67 ⟨⟨_, _, rfl⟩, rfl⟩ bipush_10 ?_
    refine w_iload (q := 191) hm67 ⟨⟨_, _, rfl⟩, rfl⟩ rfl ?_
    refine w_iadd (q := 192) hm67 ⟨⟨_, _, rfl⟩, rfl⟩ ?_
    obtain ⟨hi, h⟩ := h
    refine w_iald (q := 193) (v := (m.1 108 ((10 : Int32) + x4).toNatClampNeg)) hm67 ⟨⟨_, _, rfl⟩, rfl⟩ rfl hi rfl rfl ?_
    refine w_iconst (q := 194) hm67 ⟨⟨_, _, rfl⟩, rfl⟩ iconst_1 ?_
    refine w_icmp_ne (q := 197) (X := (m.1 108 ((10 : Int32) + x4).toNatClampNeg).toInt) (Y := 1) hm67 ⟨⟨_, _, rfl⟩, rfl⟩ rfl (by decide) (fun hc => ?_) (fun hc => ?_)
    · have h := h.1 hc
      refine w_aload_n (q := 201) hm67 ⟨⟨_, _, rfl⟩, rfl⟩ rfl ?_
      refine w_getf (q := 204) (v := (m.1 70 60)) hm67 ⟨⟨_, _, rfl⟩, rfl⟩ rfl rfl ?_
      refine w_iload (q := 206) hm67 ⟨⟨_, _, rfl⟩, rfl⟩ rfl ?_
      refine w_ishr (q := 207) hm67 ⟨⟨_, _, rfl⟩, rfl⟩ ?_
      refine w_iconst (q := 208) hm67 ⟨⟨_, _, rfl⟩, rfl⟩ iconst_1 ?_
      refine w_iand (q := 209) hm67 ⟨⟨_, _, rfl⟩, rfl⟩ ?_
      refine w_iconst (q := 210) hm67 ⟨⟨_, _, rfl⟩, rfl⟩ iconst_1 ?_
      refine w_icmp_ne (q := 213) (X := (((m.1 70 60) >>> (x4 &&& 31)) &&& (1 : Int32)).toInt) (Y := 1) hm67 ⟨⟨_, _, rfl⟩, rfl⟩ rfl (by decide) (fun hc => ?_) (fun hc => ?_)
      · have h := h.1 hc
        refine w_aload_n (q := 228) hm67 ⟨⟨_, _, rfl⟩, rfl⟩ rfl ?_
        refine w_getr (q := 231) hm67 ⟨⟨_, _, rfl⟩, rfl⟩ rfl ?_
        refine w_bipush (q := 233) hm67 ⟨⟨_, _, rfl⟩, rfl⟩ bipush_20 ?_
        refine w_iload (q := 235) hm67 ⟨⟨_, _, rfl⟩, rfl⟩ rfl ?_
        refine w_iadd (q := 236) hm67 ⟨⟨_, _, rfl⟩, rfl⟩ ?_
        refine w_aload_n (q := 237) hm67 ⟨⟨_, _, rfl⟩, rfl⟩ rfl ?_
        refine w_getr (q := 240) hm67 ⟨⟨_, _, rfl⟩, rfl⟩ rfl ?_
        refine w_bipush (q := 242) hm67 ⟨⟨_, _, rfl⟩, rfl⟩ bipush_20 ?_
        refine w_iload (q := 244) hm67 ⟨⟨_, _, rfl⟩, rfl⟩ rfl ?_
        refine w_iadd (q := 245) hm67 ⟨⟨_, _, rfl⟩, rfl⟩ ?_
        obtain ⟨hi, h⟩ := h
        refine w_iald (q := 246) (v := (m.1 108 ((20 : Int32) + x4).toNatClampNeg)) hm67 ⟨⟨_, _, rfl⟩, rfl⟩ rfl hi rfl rfl ?_
        refine w_iconst (q := 247) hm67 ⟨⟨_, _, rfl⟩, rfl⟩ iconst_1 ?_
        refine w_iadd (q := 248) hm67 ⟨⟨_, _, rfl⟩, rfl⟩ ?_
        refine w_iconst (q := 249) hm67 ⟨⟨_, _, rfl⟩, rfl⟩ iconst_0 ?_
        refine w_sipush (q := 252) hm67 ⟨⟨_, _, rfl⟩, rfl⟩ sipush_999 ?_
        refine w_call (q := 255) (n := 0) (vs := [.inl ((m.1 108 ((20 : Int32) + x4).toNatClampNeg) + (1 : Int32)), .inl (0 : Int32), .inl (999 : Int32)]) (rest := [.inl ((20 : Int32) + x4), .inr (.inr (some 108))]) (la := [oI ((m.1 108 ((20 : Int32) + x4).toNatClampNeg) + (1 : Int32)), oI (0 : Int32), oI (999 : Int32)]) hm67 ⟨⟨_, _, rfl⟩, rfl⟩ rfl rfl rfl rfl hm37 rfl rfl (fun hz => absurd hz (by decide)) rfl (Wp.mono h ?_)
        rintro _ m2 ⟨r2, rfl, h⟩
        change Wp _ _ 255 _ [.inl r2, .inl ((20 : Int32) + x4), .inr (.inr (some 108))] _ _
        obtain ⟨hi, h⟩ := h
        refine w_iast (q := 256) hm67 ⟨⟨_, _, rfl⟩, rfl⟩ rfl hi rfl rfl ?_
        exact h
      · have h := h.2 hc
        refine w_aload_n (q := 214) hm67 ⟨⟨_, _, rfl⟩, rfl⟩ rfl ?_
        refine w_getr (q := 217) hm67 ⟨⟨_, _, rfl⟩, rfl⟩ rfl ?_
        refine w_bipush (q := 219) hm67 ⟨⟨_, _, rfl⟩, rfl⟩ bipush_10 ?_
        refine w_iload (q := 221) hm67 ⟨⟨_, _, rfl⟩, rfl⟩ rfl ?_
        refine w_iadd (q := 222) hm67 ⟨⟨_, _, rfl⟩, rfl⟩ ?_
        refine w_iconst (q := 223) hm67 ⟨⟨_, _, rfl⟩, rfl⟩ iconst_1 ?_
        obtain ⟨hi, h⟩ := h
        refine w_iast (q := 224) hm67 ⟨⟨_, _, rfl⟩, rfl⟩ rfl hi rfl rfl ?_
        refine w_goto (q := 256) hm67 ⟨_, _, rfl⟩ ?_
        exact h
    · have h := h.2 hc
      refine w_goto (q := 256) hm67 ⟨_, _, rfl⟩ ?_
      exact h
theorem v_X12_hourGoes_70_256 {d : Nat} {x4 : Int32} {m : dM} {Q : dM → Prop} (h : j_X12_hourGoes_70_169 (d + 1) (x4 + (1 : Int32)) m Q) : j_X12_hourGoes_70_256 (d + 1) x4 m Q := by
  refine w_iinc (q := 259) (l' := [oR 70, none, none, none, oI (x4 + (1 : Int32))]) hm67 ⟨⟨_, _, rfl⟩, rfl⟩ rfl rfl rfl iconst_1 rfl ?_
  refine w_goto (q := 169) hm67 ⟨_, _, rfl⟩ ?_
  exact h
theorem v_X12_hourGoes_70_284 {d : Nat} {m : dM} {Q : dM → Prop} (h : Q m) : j_X12_hourGoes_70_284 (d + 1) m Q := by
  exact w_retv hm67 ⟨⟨_, _, rfl⟩, rfl⟩ rfl h
theorem v_X12_goes_70 {d : Nat} {x1 : Int32} {m : dM} {Q : dM → Prop} (h : j_X12_goes_70_2 (d + 1) x1 (0 : Int32) m Q) : c_X12_goes_70 (d + 1) x1 m Q := by
  refine w_iconst (q := 1) hm68 ⟨⟨_, _, rfl⟩, rfl⟩ iconst_0 ?_
  refine w_istore_n (q := 2) (l' := [oR 70, oI x1, oI (0 : Int32)]) hm68 ⟨⟨_, _, rfl⟩, rfl⟩ rfl rfl rfl ?_
  exact h
theorem v_X12_goes_70_2 {d : Nat} {x1 : Int32} {x2 : Int32} {m : dM} {Q : dM → Prop} (h : ((x1.toInt ≤ x2.toInt → Q m) ∧ (x2.toInt < x1.toInt → c_X12_hourGoes_70 d m (fun m1 => j_X12_goes_70_2 (d + 1) x1 (x2 + (1 : Int32)) m1 Q)))) : j_X12_goes_70_2 (d + 1) x1 x2 m Q := by
  refine w_iload_n (q := 3) hm68 ⟨⟨_, _, rfl⟩, rfl⟩ rfl ?_
  refine w_iload_n (q := 4) hm68 ⟨⟨_, _, rfl⟩, rfl⟩ rfl ?_
  refine w_icmp_ge (q := 7) (X := x2.toInt) (Y := x1.toInt) hm68 ⟨⟨_, _, rfl⟩, rfl⟩ rfl rfl (fun hc => ?_) (fun hc => ?_)
  · have h := h.1 hc
    exact w_retv hm68 ⟨⟨_, _, rfl⟩, rfl⟩ rfl h
  · have h := h.2 hc
    refine w_aload_n (q := 8) hm68 ⟨⟨_, _, rfl⟩, rfl⟩ rfl ?_
    refine w_call (q := 11) (n := 4) (vs := [.inr (.inr (some 70))]) (rest := []) (la := [oR 70, none, none, none, none]) hm68 ⟨⟨_, _, rfl⟩, rfl⟩ rfl rfl rfl rfl hm67 rfl rfl (fun _ => ⟨_, _, rfl, rfl⟩) rfl (Wp.mono h ?_)
    rintro _ m1 ⟨rfl, h⟩
    change Wp _ _ 11 _ [] _ _
    refine w_iinc (q := 14) (l' := [oR 70, oI x1, oI (x2 + (1 : Int32))]) hm68 ⟨⟨_, _, rfl⟩, rfl⟩ rfl rfl rfl iconst_1 rfl ?_
    refine w_goto (q := 2) hm68 ⟨_, _, rfl⟩ ?_
    exact h
theorem v_X12_hours_70 {d : Nat} {x1 : Int32} {m : dM} {Q : Int32 → dM → Prop} (h : c_X12_isLong d x1 m (fun r1 m1 => ((r1.toInt ≠ 0 → ((x1.toInt ≠ 0 → c_X12_copies_70 d m1 (fun m2 => c_X12_goes_70 d x1 m2 (fun m3 => c_X12_records_70 d m3 (fun m4 => Q (m4.1 107 55) m4)))) ∧ (x1.toInt = 0 → Q (m1.1 107 55) m1))) ∧ (r1.toInt = 0 → Q (-1 : Int32) m1)))) : c_X12_hours_70 (d + 1) x1 m Q := by
  refine w_iload_n (q := 1) hm79 ⟨⟨_, _, rfl⟩, rfl⟩ rfl ?_
  refine w_call (q := 4) (n := 0) (vs := [.inl x1]) (rest := []) (la := [oI x1]) hm79 ⟨⟨_, _, rfl⟩, rfl⟩ rfl rfl rfl rfl hm78 rfl rfl (fun hz => absurd hz (by decide)) rfl (Wp.mono h ?_)
  rintro _ m1 ⟨r1, rfl, h⟩
  change Wp _ _ 4 _ [.inl r1] _ _
  refine w_if_ne (q := 7) (X := r1.toInt) hm79 ⟨⟨_, _, rfl⟩, rfl⟩ rfl (fun hc => ?_) (fun hc => ?_)
  · have h := h.1 hc
    refine w_iload_n (q := 10) hm79 ⟨⟨_, _, rfl⟩, rfl⟩ rfl ?_
    refine w_if_ne (q := 13) (X := x1.toInt) hm79 ⟨⟨_, _, rfl⟩, rfl⟩ rfl (fun hc => ?_) (fun hc => ?_)
    · have h := h.1 hc
      refine w_aload_n (q := 22) hm79 ⟨⟨_, _, rfl⟩, rfl⟩ rfl ?_
      refine w_call (q := 25) (n := 1) (vs := [.inr (.inr (some 70))]) (rest := []) (la := [oR 70, none]) hm79 ⟨⟨_, _, rfl⟩, rfl⟩ rfl rfl rfl rfl hm44 rfl rfl (fun _ => ⟨_, _, rfl, rfl⟩) rfl (Wp.mono h ?_)
      rintro _ m2 ⟨rfl, h⟩
      change Wp _ _ 25 _ [] _ _
      refine w_aload_n (q := 26) hm79 ⟨⟨_, _, rfl⟩, rfl⟩ rfl ?_
      refine w_iload_n (q := 27) hm79 ⟨⟨_, _, rfl⟩, rfl⟩ rfl ?_
      refine w_call (q := 30) (n := 1) (vs := [.inr (.inr (some 70)), .inl x1]) (rest := []) (la := [oR 70, oI x1, none]) hm79 ⟨⟨_, _, rfl⟩, rfl⟩ rfl rfl rfl rfl hm68 rfl rfl (fun _ => ⟨_, _, rfl, rfl⟩) rfl (Wp.mono h ?_)
      rintro _ m3 ⟨rfl, h⟩
      change Wp _ _ 30 _ [] _ _
      refine w_aload_n (q := 31) hm79 ⟨⟨_, _, rfl⟩, rfl⟩ rfl ?_
      refine w_call (q := 34) (n := 1) (vs := [.inr (.inr (some 70))]) (rest := []) (la := [oR 70, none]) hm79 ⟨⟨_, _, rfl⟩, rfl⟩ rfl rfl rfl rfl hm73 rfl rfl (fun _ => ⟨_, _, rfl, rfl⟩) rfl (Wp.mono h ?_)
      rintro _ m4 ⟨rfl, h⟩
      change Wp _ _ 34 _ [] _ _
      refine w_aload_n (q := 35) hm79 ⟨⟨_, _, rfl⟩, rfl⟩ rfl ?_
      refine w_getr (q := 38) hm79 ⟨⟨_, _, rfl⟩, rfl⟩ rfl ?_
      refine w_bipush (q := 40) hm79 ⟨⟨_, _, rfl⟩, rfl⟩ bipush_55 ?_
      refine w_iald (q := 41) (j := 55) (v := (m4.1 107 55)) hm79 ⟨⟨_, _, rfl⟩, rfl⟩ rfl (by decide) (by decide) rfl ?_
      exact w_reti hm79 ⟨⟨_, _, rfl⟩, rfl⟩ rfl h
    · have h := h.2 hc
      refine w_aload_n (q := 14) hm79 ⟨⟨_, _, rfl⟩, rfl⟩ rfl ?_
      refine w_getr (q := 17) hm79 ⟨⟨_, _, rfl⟩, rfl⟩ rfl ?_
      refine w_bipush (q := 19) hm79 ⟨⟨_, _, rfl⟩, rfl⟩ bipush_55 ?_
      refine w_iald (q := 20) (j := 55) (v := (m1.1 107 55)) hm79 ⟨⟨_, _, rfl⟩, rfl⟩ rfl (by decide) (by decide) rfl ?_
      exact w_reti hm79 ⟨⟨_, _, rfl⟩, rfl⟩ rfl h
  · have h := h.2 hc
    refine w_iconst (q := 8) hm79 ⟨⟨_, _, rfl⟩, rfl⟩ iconst_m1 ?_
    exact w_reti hm79 ⟨⟨_, _, rfl⟩, rfl⟩ rfl h
theorem v_X7_readFrom_47_52 {d : Nat} {x2 : Int32} {m : dM} {Q : dM → Prop} (h : ((x2.toInt < 0 → j_X7_readFrom_47_52_13 (d + 1) m Q) ∧ (0 ≤ x2.toInt → ((x2.toInt ≤ ((1320 : Int32) - (33 : Int32)).toInt → ((0 ≤ x2.toInt ∧ x2.toInt < 1320) ∧ ((0 ≤ (x2 + (1 : Int32)).toInt ∧ (x2 + (1 : Int32)).toInt < 1320) ∧ ((0 ≤ (x2 + (2 : Int32)).toInt ∧ (x2 + (2 : Int32)).toInt < 1320) ∧ ((0 ≤ (x2 + (3 : Int32)).toInt ∧ (x2 + (3 : Int32)).toInt < 1320) ∧ ((0 ≤ (x2 + (4 : Int32)).toInt ∧ (x2 + (4 : Int32)).toInt < 1320) ∧ ((0 ≤ (x2 + (5 : Int32)).toInt ∧ (x2 + (5 : Int32)).toInt < 1320) ∧ ((0 ≤ (10 : Int) ∧ 0 ≤ (0 : Int) ∧ 0 ≤ (x2 + (6 : Int32)).toInt ∧ (x2 + (6 : Int32)).toInt + (10 : Int) ≤ 1320 ∧ (0 : Int) + (10 : Int) ≤ 10) ∧ ((0 ≤ (10 : Int) ∧ 0 ≤ (0 : Int) ∧ 0 ≤ ((x2 + (6 : Int32)) + (10 : Int32)).toInt ∧ ((x2 + (6 : Int32)) + (10 : Int32)).toInt + (10 : Int) ≤ 1320 ∧ (0 : Int) + (10 : Int) ≤ 10) ∧ ((0 ≤ (7 : Int) ∧ 0 ≤ (0 : Int) ∧ 0 ≤ ((x2 + (6 : Int32)) + (20 : Int32)).toInt ∧ ((x2 + (6 : Int32)) + (20 : Int32)).toInt + (7 : Int) ≤ 1320 ∧ (0 : Int) + (7 : Int) ≤ 7) ∧ Q (dCpy (dCpy (dCpy (dSet (dSet (dSet (dSet (dSet (dSet m 47 0 (m.1 52 x2.toNatClampNeg)) 47 1 (m.1 52 (x2 + (1 : Int32)).toNatClampNeg)) 47 2 (m.1 52 (x2 + (2 : Int32)).toNatClampNeg)) 47 3 (m.1 52 (x2 + (3 : Int32)).toNatClampNeg)) 47 4 (m.1 52 (x2 + (4 : Int32)).toNatClampNeg)) 47 5 (m.1 52 (x2 + (5 : Int32)).toNatClampNeg)) 52 ((x2 + (6 : Int32)).toInt).toNat 48 (0 : Int).toNat (10 : Int).toNat) 52 (((x2 + (6 : Int32)) + (10 : Int32)).toInt).toNat 49 (0 : Int).toNat (10 : Int).toNat) 52 (((x2 + (6 : Int32)) + (20 : Int32)).toInt).toNat 50 (0 : Int).toNat (7 : Int).toNat))))))))))) ∧ (((1320 : Int32) - (33 : Int32)).toInt < x2.toInt → j_X7_readFrom_47_52_13 (d + 1) m Q))))) : c_X7_readFrom_47_52 (d + 1) x2 m Q := by
  refine w_iload_n (q := 1) hm211 ⟨⟨_, _, rfl⟩, rfl⟩ rfl ?_
  refine w_if_lt (q := 4) (X := x2.toInt) hm211 ⟨⟨_, _, rfl⟩, rfl⟩ rfl (fun hc => ?_) (fun hc => ?_)
  · have h := h.1 hc
    exact Wp.wk [false, false, false] h
  · have h := h.2 hc
    refine w_iload_n (q := 5) hm211 ⟨⟨_, _, rfl⟩, rfl⟩ rfl ?_
    refine w_aload_n (q := 6) hm211 ⟨⟨_, _, rfl⟩, rfl⟩ rfl ?_
    refine w_alen (q := 7) hm211 ⟨⟨_, _, rfl⟩, rfl⟩ rfl alen_1320 ?_
    refine w_bipush (q := 9) hm211 ⟨⟨_, _, rfl⟩, rfl⟩ bipush_33 ?_
    refine w_isub (q := 10) hm211 ⟨⟨_, _, rfl⟩, rfl⟩ ?_
    refine w_icmp_le (q := 13) (X := x2.toInt) (Y := ((1320 : Int32) - (33 : Int32)).toInt) hm211 ⟨⟨_, _, rfl⟩, rfl⟩ rfl rfl (fun hc => ?_) (fun hc => ?_)
    · have h := h.1 hc
      refine w_aload_n (q := 15) hm211 ⟨⟨_, _, rfl⟩, rfl⟩ rfl ?_
      refine w_aload_n (q := 16) hm211 ⟨⟨_, _, rfl⟩, rfl⟩ rfl ?_
      refine w_iload_n (q := 17) hm211 ⟨⟨_, _, rfl⟩, rfl⟩ rfl ?_
      obtain ⟨hi, h⟩ := h
      refine w_iald (q := 18) (v := (m.1 52 x2.toNatClampNeg)) hm211 ⟨⟨_, _, rfl⟩, rfl⟩ rfl hi rfl rfl ?_
      refine w_putf (q := 21) hm211 ⟨⟨_, _, rfl⟩, rfl⟩ rfl rfl rfl ?_
      refine w_aload_n (q := 22) hm211 ⟨⟨_, _, rfl⟩, rfl⟩ rfl ?_
      refine w_aload_n (q := 23) hm211 ⟨⟨_, _, rfl⟩, rfl⟩ rfl ?_
      refine w_iload_n (q := 24) hm211 ⟨⟨_, _, rfl⟩, rfl⟩ rfl ?_
      refine w_iconst (q := 25) hm211 ⟨⟨_, _, rfl⟩, rfl⟩ iconst_1 ?_
      refine w_iadd (q := 26) hm211 ⟨⟨_, _, rfl⟩, rfl⟩ ?_
      obtain ⟨hi, h⟩ := h
      refine w_iald (q := 27) (v := (m.1 52 (x2 + (1 : Int32)).toNatClampNeg)) hm211 ⟨⟨_, _, rfl⟩, rfl⟩ rfl hi rfl rfl ?_
      refine w_putf (q := 30) hm211 ⟨⟨_, _, rfl⟩, rfl⟩ rfl rfl rfl ?_
      refine w_aload_n (q := 31) hm211 ⟨⟨_, _, rfl⟩, rfl⟩ rfl ?_
      refine w_aload_n (q := 32) hm211 ⟨⟨_, _, rfl⟩, rfl⟩ rfl ?_
      refine w_iload_n (q := 33) hm211 ⟨⟨_, _, rfl⟩, rfl⟩ rfl ?_
      refine w_iconst (q := 34) hm211 ⟨⟨_, _, rfl⟩, rfl⟩ iconst_2 ?_
      refine w_iadd (q := 35) hm211 ⟨⟨_, _, rfl⟩, rfl⟩ ?_
      obtain ⟨hi, h⟩ := h
      refine w_iald (q := 36) (v := (m.1 52 (x2 + (2 : Int32)).toNatClampNeg)) hm211 ⟨⟨_, _, rfl⟩, rfl⟩ rfl hi rfl rfl ?_
      refine w_putf (q := 39) hm211 ⟨⟨_, _, rfl⟩, rfl⟩ rfl rfl rfl ?_
      refine w_aload_n (q := 40) hm211 ⟨⟨_, _, rfl⟩, rfl⟩ rfl ?_
      refine w_aload_n (q := 41) hm211 ⟨⟨_, _, rfl⟩, rfl⟩ rfl ?_
      refine w_iload_n (q := 42) hm211 ⟨⟨_, _, rfl⟩, rfl⟩ rfl ?_
      refine w_iconst (q := 43) hm211 ⟨⟨_, _, rfl⟩, rfl⟩ iconst_3 ?_
      refine w_iadd (q := 44) hm211 ⟨⟨_, _, rfl⟩, rfl⟩ ?_
      obtain ⟨hi, h⟩ := h
      refine w_iald (q := 45) (v := (m.1 52 (x2 + (3 : Int32)).toNatClampNeg)) hm211 ⟨⟨_, _, rfl⟩, rfl⟩ rfl hi rfl rfl ?_
      refine w_putf (q := 48) hm211 ⟨⟨_, _, rfl⟩, rfl⟩ rfl rfl rfl ?_
      refine w_aload_n (q := 49) hm211 ⟨⟨_, _, rfl⟩, rfl⟩ rfl ?_
      refine w_aload_n (q := 50) hm211 ⟨⟨_, _, rfl⟩, rfl⟩ rfl ?_
      refine w_iload_n (q := 51) hm211 ⟨⟨_, _, rfl⟩, rfl⟩ rfl ?_
      refine w_iconst (q := 52) hm211 ⟨⟨_, _, rfl⟩, rfl⟩ iconst_4 ?_
      refine w_iadd (q := 53) hm211 ⟨⟨_, _, rfl⟩, rfl⟩ ?_
      obtain ⟨hi, h⟩ := h
      refine w_iald (q := 54) (v := (m.1 52 (x2 + (4 : Int32)).toNatClampNeg)) hm211 ⟨⟨_, _, rfl⟩, rfl⟩ rfl hi rfl rfl ?_
      refine w_putf (q := 57) hm211 ⟨⟨_, _, rfl⟩, rfl⟩ rfl rfl rfl ?_
      refine w_aload_n (q := 58) hm211 ⟨⟨_, _, rfl⟩, rfl⟩ rfl ?_
      refine w_aload_n (q := 59) hm211 ⟨⟨_, _, rfl⟩, rfl⟩ rfl ?_
      refine w_iload_n (q := 60) hm211 ⟨⟨_, _, rfl⟩, rfl⟩ rfl ?_
      refine w_iconst (q := 61) hm211 ⟨⟨_, _, rfl⟩, rfl⟩ iconst_5 ?_
      refine w_iadd (q := 62) hm211 ⟨⟨_, _, rfl⟩, rfl⟩ ?_
      obtain ⟨hi, h⟩ := h
      refine w_iald (q := 63) (v := (m.1 52 (x2 + (5 : Int32)).toNatClampNeg)) hm211 ⟨⟨_, _, rfl⟩, rfl⟩ rfl hi rfl rfl ?_
      refine w_putf (q := 66) hm211 ⟨⟨_, _, rfl⟩, rfl⟩ rfl rfl rfl ?_
      refine w_aload_n (q := 67) hm211 ⟨⟨_, _, rfl⟩, rfl⟩ rfl ?_
      refine w_iload_n (q := 68) hm211 ⟨⟨_, _, rfl⟩, rfl⟩ rfl ?_
      refine w_bipush (q := 70) hm211 ⟨⟨_, _, rfl⟩, rfl⟩ bipush_6 ?_
      refine w_iadd (q := 71) hm211 ⟨⟨_, _, rfl⟩, rfl⟩ ?_
      refine w_aload_n (q := 72) hm211 ⟨⟨_, _, rfl⟩, rfl⟩ rfl ?_
      refine w_getr (q := 75) hm211 ⟨⟨_, _, rfl⟩, rfl⟩ rfl ?_
      refine w_iconst (q := 76) hm211 ⟨⟨_, _, rfl⟩, rfl⟩ iconst_0 ?_
      refine w_bipush (q := 78) hm211 ⟨⟨_, _, rfl⟩, rfl⟩ bipush_10 ?_
      obtain ⟨hi, h⟩ := h
      refine w_copy (q := 81) (N := 10) (D := 0) (S := (x2 + (6 : Int32)).toInt) hm211 ⟨⟨_, _, rfl⟩, rfl⟩ rfl rfl rfl rfl rfl (by decide) (by decide) rfl hi ?_
      refine w_aload_n (q := 82) hm211 ⟨⟨_, _, rfl⟩, rfl⟩ rfl ?_
      refine w_iload_n (q := 83) hm211 ⟨⟨_, _, rfl⟩, rfl⟩ rfl ?_
      refine w_bipush (q := 85) hm211 ⟨⟨_, _, rfl⟩, rfl⟩ bipush_6 ?_
      refine w_iadd (q := 86) hm211 ⟨⟨_, _, rfl⟩, rfl⟩ ?_
      refine w_bipush (q := 88) hm211 ⟨⟨_, _, rfl⟩, rfl⟩ bipush_10 ?_
      refine w_iadd (q := 89) hm211 ⟨⟨_, _, rfl⟩, rfl⟩ ?_
      refine w_aload_n (q := 90) hm211 ⟨⟨_, _, rfl⟩, rfl⟩ rfl ?_
      refine w_getr (q := 93) hm211 ⟨⟨_, _, rfl⟩, rfl⟩ rfl ?_
      refine w_iconst (q := 94) hm211 ⟨⟨_, _, rfl⟩, rfl⟩ iconst_0 ?_
      refine w_bipush (q := 96) hm211 ⟨⟨_, _, rfl⟩, rfl⟩ bipush_10 ?_
      obtain ⟨hi, h⟩ := h
      refine w_copy (q := 99) (N := 10) (D := 0) (S := ((x2 + (6 : Int32)) + (10 : Int32)).toInt) hm211 ⟨⟨_, _, rfl⟩, rfl⟩ rfl rfl rfl rfl rfl (by decide) (by decide) rfl hi ?_
      refine w_aload_n (q := 100) hm211 ⟨⟨_, _, rfl⟩, rfl⟩ rfl ?_
      refine w_iload_n (q := 101) hm211 ⟨⟨_, _, rfl⟩, rfl⟩ rfl ?_
      refine w_bipush (q := 103) hm211 ⟨⟨_, _, rfl⟩, rfl⟩ bipush_6 ?_
      refine w_iadd (q := 104) hm211 ⟨⟨_, _, rfl⟩, rfl⟩ ?_
      refine w_bipush (q := 106) hm211 ⟨⟨_, _, rfl⟩, rfl⟩ bipush_20 ?_
      refine w_iadd (q := 107) hm211 ⟨⟨_, _, rfl⟩, rfl⟩ ?_
      refine w_aload_n (q := 108) hm211 ⟨⟨_, _, rfl⟩, rfl⟩ rfl ?_
      refine w_getr (q := 111) hm211 ⟨⟨_, _, rfl⟩, rfl⟩ rfl ?_
      refine w_iconst (q := 112) hm211 ⟨⟨_, _, rfl⟩, rfl⟩ iconst_0 ?_
      refine w_bipush (q := 114) hm211 ⟨⟨_, _, rfl⟩, rfl⟩ bipush_7 ?_
      obtain ⟨hi, h⟩ := h
      refine w_copy (q := 117) (N := 7) (D := 0) (S := ((x2 + (6 : Int32)) + (20 : Int32)).toInt) hm211 ⟨⟨_, _, rfl⟩, rfl⟩ rfl rfl rfl rfl rfl (by decide) (by decide) rfl hi ?_
      exact w_retv hm211 ⟨⟨_, _, rfl⟩, rfl⟩ rfl h
    · have h := h.2 hc
      exact Wp.wk [false, false, false] h
theorem v_X7_readFrom_47_52_13 {d : Nat} {m : dM} {Q : dM → Prop} (h : Q m) : j_X7_readFrom_47_52_13 (d + 1) m Q := by
  exact w_retv hm211 ⟨⟨_, _, rfl⟩, rfl⟩ rfl h
