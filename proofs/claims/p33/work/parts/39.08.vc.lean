theorem v_X12_lawTells_70 {d : Nat} {x1 : Int32} {x2 : Int32} {m : dM} {Q : Int32 → dM → Prop} (h : ((0 ≤ (((4 : Int32) * (m.1 70 18)) + x1).toInt ∧ (((4 : Int32) * (m.1 70 18)) + x1).toInt < 8) ∧ ((0 ≤ (((4 : Int32) * (m.1 70 18)) + x1).toInt ∧ (((4 : Int32) * (m.1 70 18)) + x1).toInt < 8) ∧ (((m.1 95 (((4 : Int32) * (m.1 70 18)) + x1).toNatClampNeg).toInt ≠ (m.1 96 (((4 : Int32) * (m.1 70 18)) + x1).toNatClampNeg).toInt → ((0 ≤ (((4 : Int32) * (m.1 70 18)) + x1).toInt ∧ (((4 : Int32) * (m.1 70 18)) + x1).toInt < 8) ∧ j_X12_lawTells_70_39 (d + 1) (((4 : Int32) * (m.1 70 18)) + x1) (m.1 95 (((4 : Int32) * (m.1 70 18)) + x1).toNatClampNeg) (dSet m 70 53 (0 : Int32)) Q)) ∧ ((m.1 95 (((4 : Int32) * (m.1 70 18)) + x1).toNatClampNeg).toInt = (m.1 96 (((4 : Int32) * (m.1 70 18)) + x1).toNatClampNeg).toInt → Q x2 m))))) : c_X12_lawTells_70 (d + 1) x1 x2 m Q := by
  refine w_iconst (q := 1) hm59 ⟨⟨_, _, rfl⟩, rfl⟩ iconst_4 ?_
  refine w_aload_n (q := 2) hm59 ⟨⟨_, _, rfl⟩, rfl⟩ rfl ?_
  refine w_getf (q := 5) (v := (m.1 70 18)) hm59 ⟨⟨_, _, rfl⟩, rfl⟩ rfl rfl ?_
  refine w_imul (q := 6) hm59 ⟨⟨_, _, rfl⟩, rfl⟩ ?_
  refine w_iload_n (q := 7) hm59 ⟨⟨_, _, rfl⟩, rfl⟩ rfl ?_
  refine w_iadd (q := 8) hm59 ⟨⟨_, _, rfl⟩, rfl⟩ ?_
  refine w_istore_n (q := 9) (l' := [oR 70, oI x1, oI x2, oI (((4 : Int32) * (m.1 70 18)) + x1), none, none, none]) hm59 ⟨⟨_, _, rfl⟩, rfl⟩ rfl rfl rfl ?_
  refine w_aload_n (q := 10) hm59 ⟨⟨_, _, rfl⟩, rfl⟩ rfl ?_
  refine w_getr (q := 13) hm59 ⟨⟨_, _, rfl⟩, rfl⟩ rfl ?_
  refine w_iload_n (q := 14) hm59 ⟨⟨_, _, rfl⟩, rfl⟩ rfl ?_
  obtain ⟨hi, h⟩ := h
  refine w_iald (q := 15) (v := (m.1 95 (((4 : Int32) * (m.1 70 18)) + x1).toNatClampNeg)) hm59 ⟨⟨_, _, rfl⟩, rfl⟩ rfl hi rfl rfl ?_
  refine w_aload_n (q := 16) hm59 ⟨⟨_, _, rfl⟩, rfl⟩ rfl ?_
  refine w_getr (q := 19) hm59 ⟨⟨_, _, rfl⟩, rfl⟩ rfl ?_
  refine w_iload_n (q := 20) hm59 ⟨⟨_, _, rfl⟩, rfl⟩ rfl ?_
  obtain ⟨hi, h⟩ := h
  refine w_iald (q := 21) (v := (m.1 96 (((4 : Int32) * (m.1 70 18)) + x1).toNatClampNeg)) hm59 ⟨⟨_, _, rfl⟩, rfl⟩ rfl hi rfl rfl ?_
  refine w_icmp_ne (q := 24) (X := (m.1 95 (((4 : Int32) * (m.1 70 18)) + x1).toNatClampNeg).toInt) (Y := (m.1 96 (((4 : Int32) * (m.1 70 18)) + x1).toNatClampNeg).toInt) hm59 ⟨⟨_, _, rfl⟩, rfl⟩ rfl rfl (fun hc => ?_) (fun hc => ?_)
  · have h := h.1 hc
    refine w_aload_n (q := 27) hm59 ⟨⟨_, _, rfl⟩, rfl⟩ rfl ?_
    refine w_iconst (q := 28) hm59 ⟨⟨_, _, rfl⟩, rfl⟩ iconst_0 ?_
    refine w_putz (q := 31) hm59 ⟨⟨_, _, rfl⟩, rfl⟩ rfl rfl (by decide) rfl ?_
    refine w_aload_n (q := 32) hm59 ⟨⟨_, _, rfl⟩, rfl⟩ rfl ?_
    refine w_getr (q := 35) hm59 ⟨⟨_, _, rfl⟩, rfl⟩ rfl ?_
    refine w_iload_n (q := 36) hm59 ⟨⟨_, _, rfl⟩, rfl⟩ rfl ?_
    obtain ⟨hi, h⟩ := h
    refine w_iald (q := 37) (v := (m.1 95 (((4 : Int32) * (m.1 70 18)) + x1).toNatClampNeg)) hm59 ⟨⟨_, _, rfl⟩, rfl⟩ rfl hi rfl rfl ?_
    refine w_istore (q := 39) (l' := [oR 70, oI x1, oI x2, oI (((4 : Int32) * (m.1 70 18)) + x1), oI (m.1 95 (((4 : Int32) * (m.1 70 18)) + x1).toNatClampNeg), none, none]) hm59 ⟨⟨_, _, rfl⟩, rfl⟩ rfl rfl rfl ?_
    exact Wp.wk [true, false, false, true, true, false, false] h
  · have h := h.2 hc
    refine w_iload_n (q := 25) hm59 ⟨⟨_, _, rfl⟩, rfl⟩ rfl ?_
    exact w_reti hm59 ⟨⟨_, _, rfl⟩, rfl⟩ rfl h
theorem v_X12_lawTells_70_39 {d : Nat} {x3 : Int32} {x4 : Int32} {m : dM} {Q : Int32 → dM → Prop} (h : ((0 ≤ x3.toInt ∧ x3.toInt < 8) ∧ (((m.1 96 x3.toNatClampNeg).toInt ≤ x4.toInt → Q (0 : Int32) m) ∧ (x4.toInt < (m.1 96 x3.toNatClampNeg).toInt → ((0 ≤ x4.toInt ∧ x4.toInt < 260) ∧ (((m.1 97 x4.toNatClampNeg).toInt = 0 → j_X12_lawTells_70_119 (d + 1) x4 m Q) ∧ ((m.1 97 x4.toNatClampNeg).toInt ≠ 0 → ((0 ≤ x4.toInt ∧ x4.toInt < 260) ∧ ((0 ≤ x4.toInt ∧ x4.toInt < 260) ∧ c_X12_termOf_70 d (m.1 98 x4.toNatClampNeg) (m.1 99 x4.toNatClampNeg) m (fun r1 m1 => ((0 ≤ x4.toInt ∧ x4.toInt < 260) ∧ ((0 ≤ x4.toInt ∧ x4.toInt < 260) ∧ c_X12_termOf_70 d (m1.1 99 x4.toNatClampNeg) (m1.1 100 x4.toNatClampNeg) m1 (fun r2 m2 => (((m2.1 70 53).toInt = 0 → ((r1.toInt < r2.toInt → j_X12_lawTells_70_119 (d + 1) x4 m2 Q) ∧ (r2.toInt ≤ r1.toInt → j_X12_lawTells_70_39 (d + 1) x3 (x4 + (1 : Int32)) m2 Q))) ∧ ((m2.1 70 53).toInt ≠ 0 → Q (0 : Int32) m2))))))))))))))) : j_X12_lawTells_70_39 (d + 1) x3 x4 m Q := by
  refine w_iload (q := 41) hm59 ⟨⟨_, _, rfl⟩, rfl⟩ rfl ?_
  refine w_aload_n (q := 42) hm59 ⟨⟨_, _, rfl⟩, rfl⟩ rfl ?_
  refine w_getr (q := 45) hm59 ⟨⟨_, _, rfl⟩, rfl⟩ rfl ?_
  refine w_iload_n (q := 46) hm59 ⟨⟨_, _, rfl⟩, rfl⟩ rfl ?_
  obtain ⟨hi, h⟩ := h
  refine w_iald (q := 47) (v := (m.1 96 x3.toNatClampNeg)) hm59 ⟨⟨_, _, rfl⟩, rfl⟩ rfl hi rfl rfl ?_
  refine w_icmp_ge (q := 50) (X := x4.toInt) (Y := (m.1 96 x3.toNatClampNeg).toInt) hm59 ⟨⟨_, _, rfl⟩, rfl⟩ rfl rfl (fun hc => ?_) (fun hc => ?_)
  · have h := h.1 hc
    refine w_iconst (q := 160) hm59 ⟨⟨_, _, rfl⟩, rfl⟩ iconst_0 ?_
    exact w_reti hm59 ⟨⟨_, _, rfl⟩, rfl⟩ rfl h
  · have h := h.2 hc
    refine w_aload_n (q := 51) hm59 ⟨⟨_, _, rfl⟩, rfl⟩ rfl ?_
    refine w_getr (q := 54) hm59 ⟨⟨_, _, rfl⟩, rfl⟩ rfl ?_
    refine w_iload (q := 56) hm59 ⟨⟨_, _, rfl⟩, rfl⟩ rfl ?_
    obtain ⟨hi, h⟩ := h
    refine w_zald (q := 57) (v := (m.1 97 x4.toNatClampNeg)) hm59 ⟨⟨_, _, rfl⟩, rfl⟩ rfl hi rfl rfl ?_
    refine w_if_eq (q := 60) (X := (m.1 97 x4.toNatClampNeg).toInt) hm59 ⟨⟨_, _, rfl⟩, rfl⟩ rfl (fun hc => ?_) (fun hc => ?_)
    · have h := h.1 hc
      exact Wp.wk [true, false, false, false, true, false, false] h
    · have h := h.2 hc
      refine w_aload_n (q := 61) hm59 ⟨⟨_, _, rfl⟩, rfl⟩ rfl ?_
      refine w_aload_n (q := 62) hm59 ⟨⟨_, _, rfl⟩, rfl⟩ rfl ?_
      refine w_getr (q := 65) hm59 ⟨⟨_, _, rfl⟩, rfl⟩ rfl ?_
      refine w_iload (q := 67) hm59 ⟨⟨_, _, rfl⟩, rfl⟩ rfl ?_
      obtain ⟨hi, h⟩ := h
      refine w_iald (q := 68) (v := (m.1 98 x4.toNatClampNeg)) hm59 ⟨⟨_, _, rfl⟩, rfl⟩ rfl hi rfl rfl ?_
      refine w_aload_n (q := 69) hm59 ⟨⟨_, _, rfl⟩, rfl⟩ rfl ?_
      refine w_getr (q := 72) hm59 ⟨⟨_, _, rfl⟩, rfl⟩ rfl ?_
      refine w_iload (q := 74) hm59 ⟨⟨_, _, rfl⟩, rfl⟩ rfl ?_
      obtain ⟨hi, h⟩ := h
      refine w_iald (q := 75) (v := (m.1 99 x4.toNatClampNeg)) hm59 ⟨⟨_, _, rfl⟩, rfl⟩ rfl hi rfl rfl ?_
      refine w_call (q := 78) (n := 5) (vs := [.inr (.inr (some 70)), .inl (m.1 98 x4.toNatClampNeg), .inl (m.1 99 x4.toNatClampNeg)]) (rest := []) (la := [oR 70, oI (m.1 98 x4.toNatClampNeg), oI (m.1 99 x4.toNatClampNeg), none, none, none, none, none]) hm59 ⟨⟨_, _, rfl⟩, rfl⟩ rfl rfl rfl rfl hm35 rfl rfl (fun _ => ⟨_, _, rfl, rfl⟩) rfl (Wp.mono h ?_)
      rintro _ m1 ⟨r1, rfl, h⟩
      change Wp _ _ 78 _ [.inl r1] _ _
      refine w_istore (q := 80) (l' := [oR 70, none, none, oI x3, oI x4, oI r1, none]) hm59 ⟨⟨_, _, rfl⟩, rfl⟩ rfl rfl rfl ?_
      refine w_aload_n (q := 81) hm59 ⟨⟨_, _, rfl⟩, rfl⟩ rfl ?_
      refine w_aload_n (q := 82) hm59 ⟨⟨_, _, rfl⟩, rfl⟩ rfl ?_
      refine w_getr (q := 85) hm59 ⟨⟨_, _, rfl⟩, rfl⟩ rfl ?_
      refine w_iload (q := 87) hm59 ⟨⟨_, _, rfl⟩, rfl⟩ rfl ?_
      obtain ⟨hi, h⟩ := h
      refine w_iald (q := 88) (v := (m1.1 99 x4.toNatClampNeg)) hm59 ⟨⟨_, _, rfl⟩, rfl⟩ rfl hi rfl rfl ?_
      refine w_aload_n (q := 89) hm59 ⟨⟨_, _, rfl⟩, rfl⟩ rfl ?_
      refine w_getr (q := 92) hm59 ⟨⟨_, _, rfl⟩, rfl⟩ rfl ?_
      refine w_iload (q := 94) hm59 ⟨⟨_, _, rfl⟩, rfl⟩ rfl ?_
      obtain ⟨hi, h⟩ := h
      refine w_iald (q := 95) (v := (m1.1 100 x4.toNatClampNeg)) hm59 ⟨⟨_, _, rfl⟩, rfl⟩ rfl hi rfl rfl ?_
      refine w_call (q := 98) (n := 5) (vs := [.inr (.inr (some 70)), .inl (m1.1 99 x4.toNatClampNeg), .inl (m1.1 100 x4.toNatClampNeg)]) (rest := []) (la := [oR 70, oI (m1.1 99 x4.toNatClampNeg), oI (m1.1 100 x4.toNatClampNeg), none, none, none, none, none]) hm59 ⟨⟨_, _, rfl⟩, rfl⟩ rfl rfl rfl rfl hm35 rfl rfl (fun _ => ⟨_, _, rfl, rfl⟩) rfl (Wp.mono h ?_)
      rintro _ m2 ⟨r2, rfl, h⟩
      change Wp _ _ 98 _ [.inl r2] _ _
      refine w_istore (q := 100) (l' := [oR 70, none, none, oI x3, oI x4, oI r1, oI r2]) hm59 ⟨⟨_, _, rfl⟩, rfl⟩ rfl rfl rfl ?_
      refine w_aload_n (q := 101) hm59 ⟨⟨_, _, rfl⟩, rfl⟩ rfl ?_
      refine w_getf (q := 104) (v := (m2.1 70 53)) hm59 ⟨⟨_, _, rfl⟩, rfl⟩ rfl rfl ?_
      refine w_if_eq (q := 107) (X := (m2.1 70 53).toInt) hm59 ⟨⟨_, _, rfl⟩, rfl⟩ rfl (fun hc => ?_) (fun hc => ?_)
      · have h := h.1 hc
        refine w_iload (q := 111) hm59 ⟨⟨_, _, rfl⟩, rfl⟩ rfl ?_
        refine w_iload (q := 113) hm59 ⟨⟨_, _, rfl⟩, rfl⟩ rfl ?_
        refine w_icmp_lt (q := 116) (X := r1.toInt) (Y := r2.toInt) hm59 ⟨⟨_, _, rfl⟩, rfl⟩ rfl rfl (fun hc => ?_) (fun hc => ?_)
        · have h := h.1 hc
          exact Wp.wk [true, false, false, false, true, false, false] h
        · have h := h.2 hc
          refine w_goto (q := 153) hm59 ⟨_, _, rfl⟩ ?_
          refine w_iinc (q := 156) (l' := [oR 70, none, none, oI x3, oI (x4 + (1 : Int32)), oI r1, oI r2]) hm59 ⟨⟨_, _, rfl⟩, rfl⟩ rfl rfl rfl iconst_1 rfl ?_
          refine w_goto (q := 39) hm59 ⟨_, _, rfl⟩ ?_
          exact Wp.wk [true, false, false, true, true, false, false] h
      · have h := h.2 hc
        refine w_iconst (q := 108) hm59 ⟨⟨_, _, rfl⟩, rfl⟩ iconst_0 ?_
        exact w_reti hm59 ⟨⟨_, _, rfl⟩, rfl⟩ rfl h
theorem v_X12_lawTells_70_119 {d : Nat} {x4 : Int32} {m : dM} {Q : Int32 → dM → Prop} (h : ((0 ≤ x4.toInt ∧ x4.toInt < 260) ∧ ((0 ≤ x4.toInt ∧ x4.toInt < 260) ∧ c_X12_termOf_70 d (m.1 100 x4.toNatClampNeg) (m.1 101 x4.toNatClampNeg) m (fun r1 m1 => (((m1.1 70 53).toInt = 0 → Q r1 m1) ∧ ((m1.1 70 53).toInt ≠ 0 → Q (0 : Int32) m1)))))) : j_X12_lawTells_70_119 (d + 1) x4 m Q := by
  refine w_aload_n (q := 120) hm59 ⟨⟨_, _, rfl⟩, rfl⟩ rfl ?_
  refine w_aload_n (q := 121) hm59 ⟨⟨_, _, rfl⟩, rfl⟩ rfl ?_
  refine w_getr (q := 124) hm59 ⟨⟨_, _, rfl⟩, rfl⟩ rfl ?_
  refine w_iload (q := 126) hm59 ⟨⟨_, _, rfl⟩, rfl⟩ rfl ?_
  obtain ⟨hi, h⟩ := h
  refine w_iald (q := 127) (v := (m.1 100 x4.toNatClampNeg)) hm59 ⟨⟨_, _, rfl⟩, rfl⟩ rfl hi rfl rfl ?_
  refine w_aload_n (q := 128) hm59 ⟨⟨_, _, rfl⟩, rfl⟩ rfl ?_
  refine w_getr (q := 131) hm59 ⟨⟨_, _, rfl⟩, rfl⟩ rfl ?_
  refine w_iload (q := 133) hm59 ⟨⟨_, _, rfl⟩, rfl⟩ rfl ?_
  obtain ⟨hi, h⟩ := h
  refine w_iald (q := 134) (v := (m.1 101 x4.toNatClampNeg)) hm59 ⟨⟨_, _, rfl⟩, rfl⟩ rfl hi rfl rfl ?_
  refine w_call (q := 137) (n := 5) (vs := [.inr (.inr (some 70)), .inl (m.1 100 x4.toNatClampNeg), .inl (m.1 101 x4.toNatClampNeg)]) (rest := []) (la := [oR 70, oI (m.1 100 x4.toNatClampNeg), oI (m.1 101 x4.toNatClampNeg), none, none, none, none, none]) hm59 ⟨⟨_, _, rfl⟩, rfl⟩ rfl rfl rfl rfl hm35 rfl rfl (fun _ => ⟨_, _, rfl, rfl⟩) rfl (Wp.mono h ?_)
  rintro _ m1 ⟨r1, rfl, h⟩
  change Wp _ _ 137 _ [.inl r1] _ _
  refine w_istore (q := 139) (l' := [oR 70, none, none, none, oI x4, oI r1, none]) hm59 ⟨⟨_, _, rfl⟩, rfl⟩ rfl rfl rfl ?_
  refine w_aload_n (q := 140) hm59 ⟨⟨_, _, rfl⟩, rfl⟩ rfl ?_
  refine w_getf (q := 143) (v := (m1.1 70 53)) hm59 ⟨⟨_, _, rfl⟩, rfl⟩ rfl rfl ?_
  refine w_if_eq (q := 146) (X := (m1.1 70 53).toInt) hm59 ⟨⟨_, _, rfl⟩, rfl⟩ rfl (fun hc => ?_) (fun hc => ?_)
  · have h := h.1 hc
    refine w_iload (q := 152) hm59 ⟨⟨_, _, rfl⟩, rfl⟩ rfl ?_
    exact w_reti hm59 ⟨⟨_, _, rfl⟩, rfl⟩ rfl h
  · have h := h.2 hc
    refine w_iconst (q := 147) hm59 ⟨⟨_, _, rfl⟩, rfl⟩ iconst_0 ?_
    refine w_goto (q := 152) hm59 ⟨_, _, rfl⟩ ?_
    exact w_reti hm59 ⟨⟨_, _, rfl⟩, rfl⟩ rfl h
theorem v_X12_within {d : Nat} {x0 : Int32} {x1 : Int32} {x2 : Int32} {m : dM} {Q : Int32 → dM → Prop} (h : ((x1.toInt ≤ x0.toInt → ((x0.toInt ≤ x2.toInt → Q x0 m) ∧ (x2.toInt < x0.toInt → Q x2 m))) ∧ (x0.toInt < x1.toInt → Q x1 m))) : c_X12_within (d + 1) x0 x1 x2 m Q := by
  refine w_iload_n (q := 1) hm37 ⟨⟨_, _, rfl⟩, rfl⟩ rfl ?_
  refine w_iload_n (q := 2) hm37 ⟨⟨_, _, rfl⟩, rfl⟩ rfl ?_
  refine w_icmp_ge (q := 5) (X := x0.toInt) (Y := x1.toInt) hm37 ⟨⟨_, _, rfl⟩, rfl⟩ rfl rfl (fun hc => ?_) (fun hc => ?_)
  · have h := h.1 hc
    refine w_iload_n (q := 10) hm37 ⟨⟨_, _, rfl⟩, rfl⟩ rfl ?_
    refine w_iload_n (q := 11) hm37 ⟨⟨_, _, rfl⟩, rfl⟩ rfl ?_
    refine w_icmp_le (q := 14) (X := x0.toInt) (Y := x2.toInt) hm37 ⟨⟨_, _, rfl⟩, rfl⟩ rfl rfl (fun hc => ?_) (fun hc => ?_)
    · have h := h.1 hc
      refine w_iload_n (q := 19) hm37 ⟨⟨_, _, rfl⟩, rfl⟩ rfl ?_
      exact w_reti hm37 ⟨⟨_, _, rfl⟩, rfl⟩ rfl h
    · have h := h.2 hc
      refine w_iload_n (q := 15) hm37 ⟨⟨_, _, rfl⟩, rfl⟩ rfl ?_
      refine w_goto (q := 19) hm37 ⟨_, _, rfl⟩ ?_
      exact w_reti hm37 ⟨⟨_, _, rfl⟩, rfl⟩ rfl h
  · have h := h.2 hc
    refine w_iload_n (q := 6) hm37 ⟨⟨_, _, rfl⟩, rfl⟩ rfl ?_
    refine w_goto (q := 19) hm37 ⟨_, _, rfl⟩ ?_
    exact w_reti hm37 ⟨⟨_, _, rfl⟩, rfl⟩ rfl h
theorem v_X12_quarrelOf_70 {d : Nat} {x1 : Int32} {m : dM} {Q : Int32 → dM → Prop} (h : c_X12_looks_70 d ((m.1 108 55) - (m.1 108 55) / (24 : Int32) * (24 : Int32)) x1 m (fun m1 => ((0 ≤ (((7 : Int32) * (m1.1 70 18)) + x1).toInt ∧ (((7 : Int32) * (m1.1 70 18)) + x1).toInt < 14) ∧ ((0 ≤ ((40 : Int32) + x1).toInt ∧ ((40 : Int32) + x1).toInt < 58) ∧ c_X12_lawTells_70 d (1 : Int32) (0 : Int32) (dSet (dSet m1 105 6 (m1.1 81 (((7 : Int32) * (m1.1 70 18)) + x1).toNatClampNeg)) 105 7 (m1.1 108 ((40 : Int32) + x1).toNatClampNeg)) (fun r2 m2 => c_X12_within d r2 (0 : Int32) (99 : Int32) m2 (fun r3 m3 => Q r3 m3)))))) : c_X12_quarrelOf_70 (d + 1) x1 m Q := by
  refine w_aload_n (q := 1) hm62 ⟨⟨_, _, rfl⟩, rfl⟩ rfl ?_
  refine w_aload_n (q := 2) hm62 ⟨⟨_, _, rfl⟩, rfl⟩ rfl ?_
  refine w_getr (q := 5) hm62 ⟨⟨_, _, rfl⟩, rfl⟩ rfl ?_
  refine w_bipush (q := 7) hm62 ⟨⟨_, _, rfl⟩, rfl⟩ bipush_55 ?_
  refine w_iald (q := 8) (j := 55) (v := (m.1 108 55)) hm62 ⟨⟨_, _, rfl⟩, rfl⟩ rfl (by decide) (by decide) rfl ?_
  refine w_bipush (q := 10) hm62 ⟨⟨_, _, rfl⟩, rfl⟩ bipush_24 ?_
  refine w_irem (q := 11) hm62 ⟨⟨_, _, rfl⟩, rfl⟩ (by decide) ?_
  refine w_iload_n (q := 12) hm62 ⟨⟨_, _, rfl⟩, rfl⟩ rfl ?_
  refine w_call (q := 15) (n := 1) (vs := [.inr (.inr (some 70)), .inl ((m.1 108 55) - (m.1 108 55) / (24 : Int32) * (24 : Int32)), .inl x1]) (rest := []) (la := [oR 70, oI ((m.1 108 55) - (m.1 108 55) / (24 : Int32) * (24 : Int32)), oI x1, none]) hm62 ⟨⟨_, _, rfl⟩, rfl⟩ rfl rfl rfl rfl hm58 rfl rfl (fun _ => ⟨_, _, rfl, rfl⟩) rfl (Wp.mono h ?_)
  rintro _ m1 ⟨rfl, h⟩
  change Wp _ _ 15 _ [] _ _
  refine w_aload_n (q := 16) hm62 ⟨⟨_, _, rfl⟩, rfl⟩ rfl ?_
  refine w_getr (q := 19) hm62 ⟨⟨_, _, rfl⟩, rfl⟩ rfl ?_
  refine w_bipush (q := 21) hm62 ⟨⟨_, _, rfl⟩, rfl⟩ bipush_6 ?_
  refine w_aload_n (q := 22) hm62 ⟨⟨_, _, rfl⟩, rfl⟩ rfl ?_
  refine w_getr (q := 25) hm62 ⟨⟨_, _, rfl⟩, rfl⟩ rfl ?_
  refine w_bipush (q := 27) hm62 ⟨⟨_, _, rfl⟩, rfl⟩ bipush_7 ?_
  refine w_aload_n (q := 28) hm62 ⟨⟨_, _, rfl⟩, rfl⟩ rfl ?_
  refine w_getf (q := 31) (v := (m1.1 70 18)) hm62 ⟨⟨_, _, rfl⟩, rfl⟩ rfl rfl ?_
  refine w_imul (q := 32) hm62 ⟨⟨_, _, rfl⟩, rfl⟩ ?_
  refine w_iload_n (q := 33) hm62 ⟨⟨_, _, rfl⟩, rfl⟩ rfl ?_
  refine w_iadd (q := 34) hm62 ⟨⟨_, _, rfl⟩, rfl⟩ ?_
  obtain ⟨hi, h⟩ := h
  refine w_iald (q := 35) (v := (m1.1 81 (((7 : Int32) * (m1.1 70 18)) + x1).toNatClampNeg)) hm62 ⟨⟨_, _, rfl⟩, rfl⟩ rfl hi rfl rfl ?_
  refine w_iast (q := 36) (j := 6) hm62 ⟨⟨_, _, rfl⟩, rfl⟩ rfl (by decide) (by decide) rfl ?_
  refine w_aload_n (q := 37) hm62 ⟨⟨_, _, rfl⟩, rfl⟩ rfl ?_
  refine w_getr (q := 40) hm62 ⟨⟨_, _, rfl⟩, rfl⟩ rfl ?_
  refine w_bipush (q := 42) hm62 ⟨⟨_, _, rfl⟩, rfl⟩ bipush_7 ?_
  refine w_aload_n (q := 43) hm62 ⟨⟨_, _, rfl⟩, rfl⟩ rfl ?_
  refine w_getr (q := 46) hm62 ⟨⟨_, _, rfl⟩, rfl⟩ rfl ?_
  refine w_bipush (q := 48) hm62 ⟨⟨_, _, rfl⟩, rfl⟩ bipush_40 ?_
  refine w_iload_n (q := 49) hm62 ⟨⟨_, _, rfl⟩, rfl⟩ rfl ?_
  refine w_iadd (q := 50) hm62 ⟨⟨_, _, rfl⟩, rfl⟩ ?_
  obtain ⟨hi, h⟩ := h
  refine w_iald (q := 51) (v := (m1.1 108 ((40 : Int32) + x1).toNatClampNeg)) hm62 ⟨⟨_, _, rfl⟩, rfl⟩ rfl hi rfl rfl ?_
  refine w_iast (q := 52) (j := 7) hm62 ⟨⟨_, _, rfl⟩, rfl⟩ rfl (by decide) (by decide) rfl ?_
  refine w_aload_n (q := 53) hm62 ⟨⟨_, _, rfl⟩, rfl⟩ rfl ?_
  refine w_iconst (q := 54) hm62 ⟨⟨_, _, rfl⟩, rfl⟩ iconst_1 ?_
  refine w_iconst (q := 55) hm62 ⟨⟨_, _, rfl⟩, rfl⟩ iconst_0 ?_
  refine w_call (q := 58) (n := 4) (vs := [.inr (.inr (some 70)), .inl (1 : Int32), .inl (0 : Int32)]) (rest := []) (la := [oR 70, oI (1 : Int32), oI (0 : Int32), none, none, none, none]) hm62 ⟨⟨_, _, rfl⟩, rfl⟩ rfl rfl rfl rfl hm59 rfl rfl (fun _ => ⟨_, _, rfl, rfl⟩) rfl (Wp.mono h ?_)
  rintro _ m2 ⟨r2, rfl, h⟩
  change Wp _ _ 58 _ [.inl r2] _ _
  refine w_iconst (q := 59) hm62 ⟨⟨_, _, rfl⟩, rfl⟩ iconst_0 ?_
  refine w_bipush (q := 61) hm62 ⟨⟨_, _, rfl⟩, rfl⟩ bipush_99 ?_
  refine w_call (q := 64) (n := 0) (vs := [.inl r2, .inl (0 : Int32), .inl (99 : Int32)]) (rest := []) (la := [oI r2, oI (0 : Int32), oI (99 : Int32)]) hm62 ⟨⟨_, _, rfl⟩, rfl⟩ rfl rfl rfl rfl hm37 rfl rfl (fun hz => absurd hz (by decide)) rfl (Wp.mono h ?_)
  rintro _ m3 ⟨r3, rfl, h⟩
  change Wp _ _ 64 _ [.inl r3] _ _
  exact w_reti hm62 ⟨⟨_, _, rfl⟩, rfl⟩ rfl h
theorem v_X12_flatAt_70 {d : Nat} {x1 : Int32} {m : dM} {Q : Int32 → dM → Prop} (h : ((0 ≤ (((8 : Int32) * (m.1 70 18)) + x1).toInt ∧ (((8 : Int32) * (m.1 70 18)) + x1).toInt < 16) ∧ Q (m.1 87 (((8 : Int32) * (m.1 70 18)) + x1).toNatClampNeg) m)) : c_X12_flatAt_70 (d + 1) x1 m Q := by
  refine w_aload_n (q := 1) hm53 ⟨⟨_, _, rfl⟩, rfl⟩ rfl ?_
  refine w_getr (q := 4) hm53 ⟨⟨_, _, rfl⟩, rfl⟩ rfl ?_
  refine w_bipush (q := 6) hm53 ⟨⟨_, _, rfl⟩, rfl⟩ bipush_8 ?_
  refine w_aload_n (q := 7) hm53 ⟨⟨_, _, rfl⟩, rfl⟩ rfl ?_
  refine w_getf (q := 10) (v := (m.1 70 18)) hm53 ⟨⟨_, _, rfl⟩, rfl⟩ rfl rfl ?_
  refine w_imul (q := 11) hm53 ⟨⟨_, _, rfl⟩, rfl⟩ ?_
  refine w_iload_n (q := 12) hm53 ⟨⟨_, _, rfl⟩, rfl⟩ rfl ?_
  refine w_iadd (q := 13) hm53 ⟨⟨_, _, rfl⟩, rfl⟩ ?_
  obtain ⟨hi, h⟩ := h
  refine w_iald (q := 14) (v := (m.1 87 (((8 : Int32) * (m.1 70 18)) + x1).toNatClampNeg)) hm53 ⟨⟨_, _, rfl⟩, rfl⟩ rfl hi rfl rfl ?_
  exact w_reti hm53 ⟨⟨_, _, rfl⟩, rfl⟩ rfl h
theorem v_X12_onAt_70 {d : Nat} {x1 : Int32} {m : dM} {Q : Int32 → dM → Prop} (h : j_X12_onAt_70_4 (d + 1) x1 (0 : Int32) (0 : Int32) m Q) : c_X12_onAt_70 (d + 1) x1 m Q := by
  refine w_iconst (q := 1) hm55 ⟨⟨_, _, rfl⟩, rfl⟩ iconst_0 ?_
  refine w_istore_n (q := 2) (l' := [oR 70, oI x1, oI (0 : Int32), none]) hm55 ⟨⟨_, _, rfl⟩, rfl⟩ rfl rfl rfl ?_
  refine w_iconst (q := 3) hm55 ⟨⟨_, _, rfl⟩, rfl⟩ iconst_0 ?_
  refine w_istore_n (q := 4) (l' := [oR 70, oI x1, oI (0 : Int32), oI (0 : Int32)]) hm55 ⟨⟨_, _, rfl⟩, rfl⟩ rfl rfl rfl ?_
  exact h
theorem v_X12_onAt_70_4 {d : Nat} {x1 : Int32} {x2 : Int32} {x3 : Int32} {m : dM} {Q : Int32 → dM → Prop} (h : ((0 ≤ (m.1 70 18).toInt ∧ (m.1 70 18).toInt < 2) ∧ (((m.1 86 (m.1 70 18).toNatClampNeg).toInt ≤ x3.toInt → Q x2 m) ∧ (x3.toInt < (m.1 86 (m.1 70 18).toNatClampNeg).toInt → ((0 ≤ ((47 : Int32) + x3).toInt ∧ ((47 : Int32) + x3).toInt < 58) ∧ (((m.1 108 ((47 : Int32) + x3).toNatClampNeg).toInt ≠ 1 → j_X12_onAt_70_83 (d + 1) x1 x2 x3 m Q) ∧ ((m.1 108 ((47 : Int32) + x3).toNatClampNeg).toInt = 1 → ((0 ≤ (((8 : Int32) * (m.1 70 18)) + x3).toInt ∧ (((8 : Int32) * (m.1 70 18)) + x3).toInt < 16) ∧ ((0 ≤ (((8 : Int32) * (m.1 70 18)) + x3).toInt ∧ (((8 : Int32) * (m.1 70 18)) + x3).toInt < 16) ∧ c_X12_in d x1 (m.1 89 (((8 : Int32) * (m.1 70 18)) + x3).toNatClampNeg) (m.1 90 (((8 : Int32) * (m.1 70 18)) + x3).toNatClampNeg) m (fun r1 m1 => ((r1.toInt = 0 → j_X12_onAt_70_83 (d + 1) x1 x2 x3 m1 Q) ∧ (r1.toInt ≠ 0 → c_X12_flatAt_70 d x3 m1 (fun r2 m2 => c_X12_isLit_70 d r2 m2 (fun r3 m3 => ((r3.toInt = 0 → j_X12_onAt_70_83 (d + 1) x1 x2 x3 m3 Q) ∧ (r3.toInt ≠ 0 → j_X12_onAt_70_83 (d + 1) x1 (x2 ||| ((1 : Int32) <<< (x3 &&& 31))) x3 m3 Q)))))))))))))))) : j_X12_onAt_70_4 (d + 1) x1 x2 x3 m Q := by
  refine w_iload_n (q := 5) hm55 ⟨⟨_, _, rfl⟩, rfl⟩ rfl ?_
  refine w_aload_n (q := 6) hm55 ⟨⟨_, _, rfl⟩, rfl⟩ rfl ?_
  refine w_getr (q := 9) hm55 ⟨⟨_, _, rfl⟩, rfl⟩ rfl ?_
  refine w_aload_n (q := 10) hm55 ⟨⟨_, _, rfl⟩, rfl⟩ rfl ?_
  refine w_getf (q := 13) (v := (m.1 70 18)) hm55 ⟨⟨_, _, rfl⟩, rfl⟩ rfl rfl ?_
  obtain ⟨hi, h⟩ := h
  refine w_iald (q := 14) (v := (m.1 86 (m.1 70 18).toNatClampNeg)) hm55 ⟨⟨_, _, rfl⟩, rfl⟩ rfl hi rfl rfl ?_
  refine w_icmp_ge (q := 17) (X := x3.toInt) (Y := (m.1 86 (m.1 70 18).toNatClampNeg).toInt) hm55 ⟨⟨_, _, rfl⟩, rfl⟩ rfl rfl (fun hc => ?_) (fun hc => ?_)
  · have h := h.1 hc
    refine w_iload_n (q := 90) hm55 ⟨⟨_, _, rfl⟩, rfl⟩ rfl ?_
    exact w_reti hm55 ⟨⟨_, _, rfl⟩, rfl⟩ rfl h
  · have h := h.2 hc
    refine w_aload_n (q := 18) hm55 ⟨⟨_, _, rfl⟩, rfl⟩ rfl ?_
    refine w_getr (q := 21) hm55 ⟨⟨_, _, rfl⟩, rfl⟩ rfl ?_
    refine w_bipush (q := 23) hm55 ⟨⟨_, _, rfl⟩, rfl⟩ bipush_47 ?_
    refine w_iload_n (q := 24) hm55 ⟨⟨_, _, rfl⟩, rfl⟩ rfl ?_
    refine w_iadd (q := 25) hm55 ⟨⟨_, _, rfl⟩, rfl⟩ ?_
    obtain ⟨hi, h⟩ := h
    refine w_iald (q := 26) (v := (m.1 108 ((47 : Int32) + x3).toNatClampNeg)) hm55 ⟨⟨_, _, rfl⟩, rfl⟩ rfl hi rfl rfl ?_
    refine w_iconst (q := 27) hm55 ⟨⟨_, _, rfl⟩, rfl⟩ iconst_1 ?_
    refine w_icmp_ne (q := 30) (X := (m.1 108 ((47 : Int32) + x3).toNatClampNeg).toInt) (Y := 1) hm55 ⟨⟨_, _, rfl⟩, rfl⟩ rfl (by decide) (fun hc => ?_) (fun hc => ?_)
    · have h := h.1 hc
      exact h
    · have h := h.2 hc
      refine w_iload_n (q := 31) hm55 ⟨⟨_, _, rfl⟩, rfl⟩ rfl ?_
      refine w_aload_n (q := 32) hm55 ⟨⟨_, _, rfl⟩, rfl⟩ rfl ?_
      refine w_getr (q := 35) hm55 ⟨⟨_, _, rfl⟩, rfl⟩ rfl ?_
      refine w_bipush (q := 37) hm55 ⟨⟨_, _, rfl⟩, rfl⟩ bipush_8 ?_
      refine w_aload_n (q := 38) hm55 ⟨⟨_, _, rfl⟩, rfl⟩ rfl ?_
      refine w_getf (q := 41) (v := (m.1 70 18)) hm55 ⟨⟨_, _, rfl⟩, rfl⟩ rfl rfl ?_
      refine w_imul (q := 42) hm55 ⟨⟨_, _, rfl⟩, rfl⟩ ?_
      refine w_iload_n (q := 43) hm55 ⟨⟨_, _, rfl⟩, rfl⟩ rfl ?_
      refine w_iadd (q := 44) hm55 ⟨⟨_, _, rfl⟩, rfl⟩ ?_
      obtain ⟨hi, h⟩ := h
      refine w_iald (q := 45) (v := (m.1 89 (((8 : Int32) * (m.1 70 18)) + x3).toNatClampNeg)) hm55 ⟨⟨_, _, rfl⟩, rfl⟩ rfl hi rfl rfl ?_
      refine w_aload_n (q := 46) hm55 ⟨⟨_, _, rfl⟩, rfl⟩ rfl ?_
      refine w_getr (q := 49) hm55 ⟨⟨_, _, rfl⟩, rfl⟩ rfl ?_
      refine w_bipush (q := 51) hm55 ⟨⟨_, _, rfl⟩, rfl⟩ bipush_8 ?_
      refine w_aload_n (q := 52) hm55 ⟨⟨_, _, rfl⟩, rfl⟩ rfl ?_
      refine w_getf (q := 55) (v := (m.1 70 18)) hm55 ⟨⟨_, _, rfl⟩, rfl⟩ rfl rfl ?_
      refine w_imul (q := 56) hm55 ⟨⟨_, _, rfl⟩, rfl⟩ ?_
      refine w_iload_n (q := 57) hm55 ⟨⟨_, _, rfl⟩, rfl⟩ rfl ?_
      refine w_iadd (q := 58) hm55 ⟨⟨_, _, rfl⟩, rfl⟩ ?_
      obtain ⟨hi, h⟩ := h
      refine w_iald (q := 59) (v := (m.1 90 (((8 : Int32) * (m.1 70 18)) + x3).toNatClampNeg)) hm55 ⟨⟨_, _, rfl⟩, rfl⟩ rfl hi rfl rfl ?_
      refine w_call (q := 62) (n := 0) (vs := [.inl x1, .inl (m.1 89 (((8 : Int32) * (m.1 70 18)) + x3).toNatClampNeg), .inl (m.1 90 (((8 : Int32) * (m.1 70 18)) + x3).toNatClampNeg)]) (rest := []) (la := [oI x1, oI (m.1 89 (((8 : Int32) * (m.1 70 18)) + x3).toNatClampNeg), oI (m.1 90 (((8 : Int32) * (m.1 70 18)) + x3).toNatClampNeg)]) hm55 ⟨⟨_, _, rfl⟩, rfl⟩ rfl rfl rfl rfl hm36 rfl rfl (fun hz => absurd hz (by decide)) rfl (Wp.mono h ?_)
      rintro _ m1 ⟨r1, rfl, h⟩
      change Wp _ _ 62 _ [.inl r1] _ _
      refine w_if_eq (q := 65) (X := r1.toInt) hm55 ⟨⟨_, _, rfl⟩, rfl⟩ rfl (fun hc => ?_) (fun hc => ?_)
      · have h := h.1 hc
        exact h
      · have h := h.2 hc
        refine w_aload_n (q := 66) hm55 ⟨⟨_, _, rfl⟩, rfl⟩ rfl ?_
        refine w_aload_n (q := 67) hm55 ⟨⟨_, _, rfl⟩, rfl⟩ rfl ?_
        refine w_iload_n (q := 68) hm55 ⟨⟨_, _, rfl⟩, rfl⟩ rfl ?_
        refine w_call (q := 71) (n := 0) (vs := [.inr (.inr (some 70)), .inl x3]) (rest := [.inr (.inr (some 70))]) (la := [oR 70, oI x3]) hm55 ⟨⟨_, _, rfl⟩, rfl⟩ rfl rfl rfl rfl hm53 rfl rfl (fun _ => ⟨_, _, rfl, rfl⟩) rfl (Wp.mono h ?_)
        rintro _ m2 ⟨r2, rfl, h⟩
        change Wp _ _ 71 _ [.inl r2, .inr (.inr (some 70))] _ _
        refine w_call (q := 74) (n := 0) (vs := [.inr (.inr (some 70)), .inl r2]) (rest := []) (la := [oR 70, oI r2]) hm55 ⟨⟨_, _, rfl⟩, rfl⟩ rfl rfl rfl rfl hm51 rfl rfl (fun _ => ⟨_, _, rfl, rfl⟩) rfl (Wp.mono h ?_)
        rintro _ m3 ⟨r3, rfl, h⟩
        change Wp _ _ 74 _ [.inl r3] _ _
        refine w_if_eq (q := 77) (X := r3.toInt) hm55 ⟨⟨_, _, rfl⟩, rfl⟩ rfl (fun hc => ?_) (fun hc => ?_)
        · have h := h.1 hc
          exact h
        · have h := h.2 hc
          refine w_iload_n (q := 78) hm55 ⟨⟨_, _, rfl⟩, rfl⟩ rfl ?_
          refine w_iconst (q := 79) hm55 ⟨⟨_, _, rfl⟩, rfl⟩ iconst_1 ?_
          refine w_iload_n (q := 80) hm55 ⟨⟨_, _, rfl⟩, rfl⟩ rfl ?_
          refine w_ishl (q := 81) hm55 ⟨⟨_, _, rfl⟩, rfl⟩ ?_
          refine w_ior (q := 82) hm55 ⟨⟨_, _, rfl⟩, rfl⟩ ?_
          refine w_istore_n (q := 83) (l' := [oR 70, oI x1, oI (x2 ||| ((1 : Int32) <<< (x3 &&& 31))), oI x3]) hm55 ⟨⟨_, _, rfl⟩, rfl⟩ rfl rfl rfl ?_
          exact h
theorem v_X12_onAt_70_83 {d : Nat} {x1 : Int32} {x2 : Int32} {x3 : Int32} {m : dM} {Q : Int32 → dM → Prop} (h : j_X12_onAt_70_4 (d + 1) x1 x2 (x3 + (1 : Int32)) m Q) : j_X12_onAt_70_83 (d + 1) x1 x2 x3 m Q := by
  refine w_iinc (q := 86) (l' := [oR 70, oI x1, oI x2, oI (x3 + (1 : Int32))]) hm55 ⟨⟨_, _, rfl⟩, rfl⟩ rfl rfl rfl iconst_1 rfl ?_
  refine w_goto (q := 4) hm55 ⟨_, _, rfl⟩ ?_
  exact h
theorem v_X12_onNow_70 {d : Nat} {m : dM} {Q : Int32 → dM → Prop} (h : c_X12_onAt_70 d ((m.1 108 55) - (m.1 108 55) / (24 : Int32) * (24 : Int32)) m (fun r1 m1 => Q r1 m1)) : c_X12_onNow_70 (d + 1) m Q := by
  refine w_aload_n (q := 1) hm56 ⟨⟨_, _, rfl⟩, rfl⟩ rfl ?_
  refine w_aload_n (q := 2) hm56 ⟨⟨_, _, rfl⟩, rfl⟩ rfl ?_
  refine w_getr (q := 5) hm56 ⟨⟨_, _, rfl⟩, rfl⟩ rfl ?_
  refine w_bipush (q := 7) hm56 ⟨⟨_, _, rfl⟩, rfl⟩ bipush_55 ?_
  refine w_iald (q := 8) (j := 55) (v := (m.1 108 55)) hm56 ⟨⟨_, _, rfl⟩, rfl⟩ rfl (by decide) (by decide) rfl ?_
  refine w_bipush (q := 10) hm56 ⟨⟨_, _, rfl⟩, rfl⟩ bipush_24 ?_
  refine w_irem (q := 11) hm56 ⟨⟨_, _, rfl⟩, rfl⟩ (by decide) ?_
  refine w_call (q := 14) (n := 2) (vs := [.inr (.inr (some 70)), .inl ((m.1 108 55) - (m.1 108 55) / (24 : Int32) * (24 : Int32))]) (rest := []) (la := [oR 70, oI ((m.1 108 55) - (m.1 108 55) / (24 : Int32) * (24 : Int32)), none, none]) hm56 ⟨⟨_, _, rfl⟩, rfl⟩ rfl rfl rfl rfl hm55 rfl rfl (fun _ => ⟨_, _, rfl, rfl⟩) rfl (Wp.mono h ?_)
  rintro _ m1 ⟨r1, rfl, h⟩
  change Wp _ _ 14 _ [.inl r1] _ _
  exact w_reti hm56 ⟨⟨_, _, rfl⟩, rfl⟩ rfl h
theorem v_X12_ampsAt_70 {d : Nat} {x1 : Int32} {m : dM} {Q : Int32 → dM → Prop} (h : ((0 ≤ (((8 : Int32) * (m.1 70 18)) + x1).toInt ∧ (((8 : Int32) * (m.1 70 18)) + x1).toInt < 16) ∧ Q (m.1 88 (((8 : Int32) * (m.1 70 18)) + x1).toNatClampNeg) m)) : c_X12_ampsAt_70 (d + 1) x1 m Q := by
  refine w_aload_n (q := 1) hm54 ⟨⟨_, _, rfl⟩, rfl⟩ rfl ?_
  refine w_getr (q := 4) hm54 ⟨⟨_, _, rfl⟩, rfl⟩ rfl ?_
  refine w_bipush (q := 6) hm54 ⟨⟨_, _, rfl⟩, rfl⟩ bipush_8 ?_
  refine w_aload_n (q := 7) hm54 ⟨⟨_, _, rfl⟩, rfl⟩ rfl ?_
  refine w_getf (q := 10) (v := (m.1 70 18)) hm54 ⟨⟨_, _, rfl⟩, rfl⟩ rfl rfl ?_
  refine w_imul (q := 11) hm54 ⟨⟨_, _, rfl⟩, rfl⟩ ?_
  refine w_iload_n (q := 12) hm54 ⟨⟨_, _, rfl⟩, rfl⟩ rfl ?_
  refine w_iadd (q := 13) hm54 ⟨⟨_, _, rfl⟩, rfl⟩ ?_
  obtain ⟨hi, h⟩ := h
  refine w_iald (q := 14) (v := (m.1 88 (((8 : Int32) * (m.1 70 18)) + x1).toNatClampNeg)) hm54 ⟨⟨_, _, rfl⟩, rfl⟩ rfl hi rfl rfl ?_
  exact w_reti hm54 ⟨⟨_, _, rfl⟩, rfl⟩ rfl h
theorem v_X12_ampsOn_70 {d : Nat} {x1 : Int32} {m : dM} {Q : Int32 → dM → Prop} (h : c_X12_onNow_70 d m (fun r1 m1 => j_X12_ampsOn_70_10 (d + 1) x1 r1 (0 : Int32) (0 : Int32) m1 Q)) : c_X12_ampsOn_70 (d + 1) x1 m Q := by
  refine w_aload_n (q := 1) hm70 ⟨⟨_, _, rfl⟩, rfl⟩ rfl ?_
  refine w_call (q := 4) (n := 0) (vs := [.inr (.inr (some 70))]) (rest := []) (la := [oR 70]) hm70 ⟨⟨_, _, rfl⟩, rfl⟩ rfl rfl rfl rfl hm56 rfl rfl (fun _ => ⟨_, _, rfl, rfl⟩) rfl (Wp.mono h ?_)
  rintro _ m1 ⟨r1, rfl, h⟩
  change Wp _ _ 4 _ [.inl r1] _ _
  refine w_istore_n (q := 5) (l' := [oR 70, oI x1, oI r1, none, none]) hm70 ⟨⟨_, _, rfl⟩, rfl⟩ rfl rfl rfl ?_
  refine w_iconst (q := 6) hm70 ⟨⟨_, _, rfl⟩, rfl⟩ iconst_0 ?_
  refine w_istore_n (q := 7) (l' := [oR 70, oI x1, oI r1, oI (0 : Int32), none]) hm70 ⟨⟨_, _, rfl⟩, rfl⟩ rfl rfl rfl ?_
  refine w_iconst (q := 8) hm70 ⟨⟨_, _, rfl⟩, rfl⟩ iconst_0 ?_
  refine w_istore (q := 10) (l' := [oR 70, oI x1, oI r1, oI (0 : Int32), oI (0 : Int32)]) hm70 ⟨⟨_, _, rfl⟩, rfl⟩ rfl rfl rfl ?_
  exact h
theorem v_X12_ampsOn_70_10 {d : Nat} {x1 : Int32} {x2 : Int32} {x3 : Int32} {x4 : Int32} {m : dM} {Q : Int32 → dM → Prop} (h : ((0 ≤ (m.1 70 18).toInt ∧ (m.1 70 18).toInt < 2) ∧ (((m.1 86 (m.1 70 18).toNatClampNeg).toInt ≤ x4.toInt → Q x3 m) ∧ (x4.toInt < (m.1 86 (m.1 70 18).toNatClampNeg).toInt → ((((x2 >>> (x4 &&& 31)) &&& (1 : Int32)).toInt ≠ 1 → j_X12_ampsOn_70_53 (d + 1) x1 x2 x3 x4 m Q) ∧ (((x2 >>> (x4 &&& 31)) &&& (1 : Int32)).toInt = 1 → c_X12_flatAt_70 d x4 m (fun r1 m1 => ((r1.toInt ≠ x1.toInt → j_X12_ampsOn_70_53 (d + 1) x1 x2 x3 x4 m1 Q) ∧ (r1.toInt = x1.toInt → c_X12_ampsAt_70 d x4 m1 (fun r2 m2 => j_X12_ampsOn_70_53 (d + 1) x1 x2 (x3 + r2) x4 m2 Q)))))))))) : j_X12_ampsOn_70_10 (d + 1) x1 x2 x3 x4 m Q := by
  refine w_iload (q := 12) hm70 ⟨⟨_, _, rfl⟩, rfl⟩ rfl ?_
  refine w_aload_n (q := 13) hm70 ⟨⟨_, _, rfl⟩, rfl⟩ rfl ?_
  refine w_getr (q := 16) hm70 ⟨⟨_, _, rfl⟩, rfl⟩ rfl ?_
  refine w_aload_n (q := 17) hm70 ⟨⟨_, _, rfl⟩, rfl⟩ rfl ?_
  refine w_getf (q := 20) (v := (m.1 70 18)) hm70 ⟨⟨_, _, rfl⟩, rfl⟩ rfl rfl ?_
  obtain ⟨hi, h⟩ := h
  refine w_iald (q := 21) (v := (m.1 86 (m.1 70 18).toNatClampNeg)) hm70 ⟨⟨_, _, rfl⟩, rfl⟩ rfl hi rfl rfl ?_
  refine w_icmp_ge (q := 24) (X := x4.toInt) (Y := (m.1 86 (m.1 70 18).toNatClampNeg).toInt) hm70 ⟨⟨_, _, rfl⟩, rfl⟩ rfl rfl (fun hc => ?_) (fun hc => ?_)
  · have h := h.1 hc
    refine w_iload_n (q := 60) hm70 ⟨⟨_, _, rfl⟩, rfl⟩ rfl ?_
    exact w_reti hm70 ⟨⟨_, _, rfl⟩, rfl⟩ rfl h
  · have h := h.2 hc
    refine w_iload_n (q := 25) hm70 ⟨⟨_, _, rfl⟩, rfl⟩ rfl ?_
    refine w_iload (q := 27) hm70 ⟨⟨_, _, rfl⟩, rfl⟩ rfl ?_
    refine w_ishr (q := 28) hm70 ⟨⟨_, _, rfl⟩, rfl⟩ ?_
    refine w_iconst (q := 29) hm70 ⟨⟨_, _, rfl⟩, rfl⟩ iconst_1 ?_
    refine w_iand (q := 30) hm70 ⟨⟨_, _, rfl⟩, rfl⟩ ?_
    refine w_iconst (q := 31) hm70 ⟨⟨_, _, rfl⟩, rfl⟩ iconst_1 ?_
    refine w_icmp_ne (q := 34) (X := ((x2 >>> (x4 &&& 31)) &&& (1 : Int32)).toInt) (Y := 1) hm70 ⟨⟨_, _, rfl⟩, rfl⟩ rfl (by decide) (fun hc => ?_) (fun hc => ?_)
    · have h := h.1 hc
      exact h
    · have h := h.2 hc
      refine w_aload_n (q := 35) hm70 ⟨⟨_, _, rfl⟩, rfl⟩ rfl ?_
      refine w_iload (q := 37) hm70 ⟨⟨_, _, rfl⟩, rfl⟩ rfl ?_
      refine w_call (q := 40) (n := 0) (vs := [.inr (.inr (some 70)), .inl x4]) (rest := []) (la := [oR 70, oI x4]) hm70 ⟨⟨_, _, rfl⟩, rfl⟩ rfl rfl rfl rfl hm53 rfl rfl (fun _ => ⟨_, _, rfl, rfl⟩) rfl (Wp.mono h ?_)
      rintro _ m1 ⟨r1, rfl, h⟩
      change Wp _ _ 40 _ [.inl r1] _ _
      refine w_iload_n (q := 41) hm70 ⟨⟨_, _, rfl⟩, rfl⟩ rfl ?_
      refine w_icmp_ne (q := 44) (X := r1.toInt) (Y := x1.toInt) hm70 ⟨⟨_, _, rfl⟩, rfl⟩ rfl rfl (fun hc => ?_) (fun hc => ?_)
      · have h := h.1 hc
        exact h
      · have h := h.2 hc
        refine w_iload_n (q := 45) hm70 ⟨⟨_, _, rfl⟩, rfl⟩ rfl ?_
        refine w_aload_n (q := 46) hm70 ⟨⟨_, _, rfl⟩, rfl⟩ rfl ?_
        refine w_iload (q := 48) hm70 ⟨⟨_, _, rfl⟩, rfl⟩ rfl ?_
        refine w_call (q := 51) (n := 0) (vs := [.inr (.inr (some 70)), .inl x4]) (rest := [.inl x3]) (la := [oR 70, oI x4]) hm70 ⟨⟨_, _, rfl⟩, rfl⟩ rfl rfl rfl rfl hm54 rfl rfl (fun _ => ⟨_, _, rfl, rfl⟩) rfl (Wp.mono h ?_)
        rintro _ m2 ⟨r2, rfl, h⟩
        change Wp _ _ 51 _ [.inl r2, .inl x3] _ _
        refine w_iadd (q := 52) hm70 ⟨⟨_, _, rfl⟩, rfl⟩ ?_
        refine w_istore_n (q := 53) (l' := [oR 70, oI x1, oI x2, oI (x3 + r2), oI x4]) hm70 ⟨⟨_, _, rfl⟩, rfl⟩ rfl rfl rfl ?_
        exact h
theorem v_X12_ampsOn_70_53 {d : Nat} {x1 : Int32} {x2 : Int32} {x3 : Int32} {x4 : Int32} {m : dM} {Q : Int32 → dM → Prop} (h : j_X12_ampsOn_70_10 (d + 1) x1 x2 x3 (x4 + (1 : Int32)) m Q) : j_X12_ampsOn_70_53 (d + 1) x1 x2 x3 x4 m Q := by
  refine w_iinc (q := 56) (l' := [oR 70, oI x1, oI x2, oI x3, oI (x4 + (1 : Int32))]) hm70 ⟨⟨_, _, rfl⟩, rfl⟩ rfl rfl rfl iconst_1 rfl ?_
  refine w_goto (q := 10) hm70 ⟨_, _, rfl⟩ ?_
  exact h
theorem v_X12_flat_70 {d : Nat} {x1 : Int32} {x2 : Int32} {m : dM} {Q : Int32 → dM → Prop} (h : c_X12_isFlat_70 d x1 m (fun r1 m1 => ((r1.toInt ≠ 0 → c_X12_copies_70 d m1 (fun m2 => ((x2.toInt = 0 → ((0 ≤ (((7 : Int32) * (m2.1 70 18)) + x1).toInt ∧ (((7 : Int32) * (m2.1 70 18)) + x1).toInt < 14) ∧ Q (m2.1 81 (((7 : Int32) * (m2.1 70 18)) + x1).toNatClampNeg) m2)) ∧ (x2.toInt = 1 → c_X12_isLit_70 d x1 m2 (fun r3 m3 => ((r3.toInt = 0 → Q (0 : Int32) m3) ∧ (r3.toInt ≠ 0 → Q (1 : Int32) m3)))) ∧ (x2.toInt = 2 → ((0 ≤ ((40 : Int32) + x1).toInt ∧ ((40 : Int32) + x1).toInt < 58) ∧ Q (m2.1 108 ((40 : Int32) + x1).toNatClampNeg) m2)) ∧ (x2.toInt = 3 → c_X12_isLit_70 d x1 m2 (fun r4 m4 => ((r4.toInt = 0 → Q (-2 : Int32) m4) ∧ (r4.toInt ≠ 0 → ((0 ≤ x1.toInt ∧ x1.toInt < 7) ∧ Q (m4.1 109 x1.toNatClampNeg) m4))))) ∧ (x2.toInt = 4 → c_X12_quarrelOf_70 d x1 m2 (fun r5 m5 => Q r5 m5)) ∧ (x2.toInt = 5 → c_X12_ampsOn_70 d x1 m2 (fun r6 m6 => Q r6 m6)) ∧ (x2.toInt < 0 ∨ 5 < x2.toInt → Q (-1 : Int32) m2)))) ∧ (r1.toInt = 0 → Q (-1 : Int32) m1)))) : c_X12_flat_70 (d + 1) x1 x2 m Q := by
  refine w_aload_n (q := 1) hm69 ⟨⟨_, _, rfl⟩, rfl⟩ rfl ?_
  refine w_iload_n (q := 2) hm69 ⟨⟨_, _, rfl⟩, rfl⟩ rfl ?_
  refine w_call (q := 5) (n := 0) (vs := [.inr (.inr (some 70)), .inl x1]) (rest := []) (la := [oR 70, oI x1]) hm69 ⟨⟨_, _, rfl⟩, rfl⟩ rfl rfl rfl rfl hm39 rfl rfl (fun _ => ⟨_, _, rfl, rfl⟩) rfl (Wp.mono h ?_)
  rintro _ m1 ⟨r1, rfl, h⟩
  change Wp _ _ 5 _ [.inl r1] _ _
  refine w_if_ne (q := 8) (X := r1.toInt) hm69 ⟨⟨_, _, rfl⟩, rfl⟩ rfl (fun hc => ?_) (fun hc => ?_)
  · have h := h.1 hc
    refine w_aload_n (q := 11) hm69 ⟨⟨_, _, rfl⟩, rfl⟩ rfl ?_
    refine w_call (q := 14) (n := 1) (vs := [.inr (.inr (some 70))]) (rest := []) (la := [oR 70, none]) hm69 ⟨⟨_, _, rfl⟩, rfl⟩ rfl rfl rfl rfl hm44 rfl rfl (fun _ => ⟨_, _, rfl, rfl⟩) rfl (Wp.mono h ?_)
    rintro _ m2 ⟨rfl, h⟩
    change Wp _ _ 14 _ [] _ _
    refine w_iload_n (q := 15) hm69 ⟨⟨_, _, rfl⟩, rfl⟩ rfl ?_
    refine w_tsw (X := x2.toInt) hm69 ⟨_, _, rfl⟩ (by decide) (by decide) rfl ((And.intro (fun hc => ?_) (And.intro (fun hc => ?_) (And.intro (fun hc => ?_) (And.intro (fun hc => ?_) (And.intro (fun hc => ?_) (And.intro (fun hc => ?_) trivial))))))) (fun hc => ?_)
    · have h := (h.1) hc
      change Wp _ _ 52 _ _ _ _
      refine w_aload_n (q := 53) hm69 ⟨⟨_, _, rfl⟩, rfl⟩ rfl ?_
      refine w_getr (q := 56) hm69 ⟨⟨_, _, rfl⟩, rfl⟩ rfl ?_
      refine w_bipush (q := 58) hm69 ⟨⟨_, _, rfl⟩, rfl⟩ bipush_7 ?_
      refine w_aload_n (q := 59) hm69 ⟨⟨_, _, rfl⟩, rfl⟩ rfl ?_
      refine w_getf (q := 62) (v := (m2.1 70 18)) hm69 ⟨⟨_, _, rfl⟩, rfl⟩ rfl rfl ?_
      refine w_imul (q := 63) hm69 ⟨⟨_, _, rfl⟩, rfl⟩ ?_
      refine w_iload_n (q := 64) hm69 ⟨⟨_, _, rfl⟩, rfl⟩ rfl ?_
      refine w_iadd (q := 65) hm69 ⟨⟨_, _, rfl⟩, rfl⟩ ?_
      obtain ⟨hi, h⟩ := h
      refine w_iald (q := 66) (v := (m2.1 81 (((7 : Int32) * (m2.1 70 18)) + x1).toNatClampNeg)) hm69 ⟨⟨_, _, rfl⟩, rfl⟩ rfl hi rfl rfl ?_
      exact w_reti hm69 ⟨⟨_, _, rfl⟩, rfl⟩ rfl h
    · have h := (h.2.1) hc
      change Wp _ _ 67 _ _ _ _
      refine w_aload_n (q := 68) hm69 ⟨⟨_, _, rfl⟩, rfl⟩ rfl ?_
      refine w_iload_n (q := 69) hm69 ⟨⟨_, _, rfl⟩, rfl⟩ rfl ?_
      refine w_call (q := 72) (n := 0) (vs := [.inr (.inr (some 70)), .inl x1]) (rest := []) (la := [oR 70, oI x1]) hm69 ⟨⟨_, _, rfl⟩, rfl⟩ rfl rfl rfl rfl hm51 rfl rfl (fun _ => ⟨_, _, rfl, rfl⟩) rfl (Wp.mono h ?_)
      rintro _ m3 ⟨r3, rfl, h⟩
      change Wp _ _ 72 _ [.inl r3] _ _
      refine w_if_eq (q := 75) (X := r3.toInt) hm69 ⟨⟨_, _, rfl⟩, rfl⟩ rfl (fun hc => ?_) (fun hc => ?_)
      · have h := h.1 hc
        refine w_iconst (q := 80) hm69 ⟨⟨_, _, rfl⟩, rfl⟩ iconst_0 ?_
        exact w_reti hm69 ⟨⟨_, _, rfl⟩, rfl⟩ rfl h
      · have h := h.2 hc
        refine w_iconst (q := 76) hm69 ⟨⟨_, _, rfl⟩, rfl⟩ iconst_1 ?_
        refine w_goto (q := 80) hm69 ⟨_, _, rfl⟩ ?_
        exact w_reti hm69 ⟨⟨_, _, rfl⟩, rfl⟩ rfl h
    · have h := (h.2.2.1) hc
      change Wp _ _ 81 _ _ _ _
      refine w_aload_n (q := 82) hm69 ⟨⟨_, _, rfl⟩, rfl⟩ rfl ?_
      refine w_getr (q := 85) hm69 ⟨⟨_, _, rfl⟩, rfl⟩ rfl ?_
      refine w_bipush (q := 87) hm69 ⟨⟨_, _, rfl⟩, rfl⟩ bipush_40 ?_
      refine w_iload_n (q := 88) hm69 ⟨⟨_, _, rfl⟩, rfl⟩ rfl ?_
      refine w_iadd (q := 89) hm69 ⟨⟨_, _, rfl⟩, rfl⟩ ?_
      obtain ⟨hi, h⟩ := h
      refine w_iald (q := 90) (v := (m2.1 108 ((40 : Int32) + x1).toNatClampNeg)) hm69 ⟨⟨_, _, rfl⟩, rfl⟩ rfl hi rfl rfl ?_
      exact w_reti hm69 ⟨⟨_, _, rfl⟩, rfl⟩ rfl h
    · have h := (h.2.2.2.1) hc
      change Wp _ _ 91 _ _ _ _
      refine w_aload_n (q := 92) hm69 ⟨⟨_, _, rfl⟩, rfl⟩ rfl ?_
      refine w_iload_n (q := 93) hm69 ⟨⟨_, _, rfl⟩, rfl⟩ rfl ?_
      refine w_call (q := 96) (n := 0) (vs := [.inr (.inr (some 70)), .inl x1]) (rest := []) (la := [oR 70, oI x1]) hm69 ⟨⟨_, _, rfl⟩, rfl⟩ rfl rfl rfl rfl hm51 rfl rfl (fun _ => ⟨_, _, rfl, rfl⟩) rfl (Wp.mono h ?_)
      rintro _ m4 ⟨r4, rfl, h⟩
      change Wp _ _ 96 _ [.inl r4] _ _
      refine w_if_eq (q := 99) (X := r4.toInt) hm69 ⟨⟨_, _, rfl⟩, rfl⟩ rfl (fun hc => ?_) (fun hc => ?_)
      · have h := h.1 hc
        refine w_bipush (q := 110) hm69 ⟨⟨_, _, rfl⟩, rfl⟩ bipush_m2 ?_
        exact w_reti hm69 ⟨⟨_, _, rfl⟩, rfl⟩ rfl h
      · have h := h.2 hc
        refine w_aload_n (q := 100) hm69 ⟨⟨_, _, rfl⟩, rfl⟩ rfl ?_
        refine w_getr (q := 103) hm69 ⟨⟨_, _, rfl⟩, rfl⟩ rfl ?_
        refine w_iload_n (q := 104) hm69 ⟨⟨_, _, rfl⟩, rfl⟩ rfl ?_
        obtain ⟨hi, h⟩ := h
        refine w_iald (q := 105) (v := (m4.1 109 x1.toNatClampNeg)) hm69 ⟨⟨_, _, rfl⟩, rfl⟩ rfl hi rfl rfl ?_
        refine w_goto (q := 110) hm69 ⟨_, _, rfl⟩ ?_
        exact w_reti hm69 ⟨⟨_, _, rfl⟩, rfl⟩ rfl h
    · have h := (h.2.2.2.2.1) hc
      change Wp _ _ 111 _ _ _ _
      refine w_aload_n (q := 112) hm69 ⟨⟨_, _, rfl⟩, rfl⟩ rfl ?_
      refine w_iload_n (q := 113) hm69 ⟨⟨_, _, rfl⟩, rfl⟩ rfl ?_
      refine w_call (q := 116) (n := 0) (vs := [.inr (.inr (some 70)), .inl x1]) (rest := []) (la := [oR 70, oI x1]) hm69 ⟨⟨_, _, rfl⟩, rfl⟩ rfl rfl rfl rfl hm62 rfl rfl (fun _ => ⟨_, _, rfl, rfl⟩) rfl (Wp.mono h ?_)
      rintro _ m5 ⟨r5, rfl, h⟩
      change Wp _ _ 116 _ [.inl r5] _ _
      exact w_reti hm69 ⟨⟨_, _, rfl⟩, rfl⟩ rfl h
    · have h := (h.2.2.2.2.2.1) hc
      change Wp _ _ 117 _ _ _ _
      refine w_aload_n (q := 118) hm69 ⟨⟨_, _, rfl⟩, rfl⟩ rfl ?_
      refine w_iload_n (q := 119) hm69 ⟨⟨_, _, rfl⟩, rfl⟩ rfl ?_
      refine w_call (q := 122) (n := 3) (vs := [.inr (.inr (some 70)), .inl x1]) (rest := []) (la := [oR 70, oI x1, none, none, none]) hm69 ⟨⟨_, _, rfl⟩, rfl⟩ rfl rfl rfl rfl hm70 rfl rfl (fun _ => ⟨_, _, rfl, rfl⟩) rfl (Wp.mono h ?_)
      rintro _ m6 ⟨r6, rfl, h⟩
      change Wp _ _ 122 _ [.inl r6] _ _
      exact w_reti hm69 ⟨⟨_, _, rfl⟩, rfl⟩ rfl h
    · have h := (h.2.2.2.2.2.2) hc
      change Wp _ _ 123 _ _ _ _
      refine w_iconst (q := 124) hm69 ⟨⟨_, _, rfl⟩, rfl⟩ iconst_m1 ?_
      exact w_reti hm69 ⟨⟨_, _, rfl⟩, rfl⟩ rfl h
  · have h := h.2 hc
    refine w_iconst (q := 9) hm69 ⟨⟨_, _, rfl⟩, rfl⟩ iconst_m1 ?_
    exact w_reti hm69 ⟨⟨_, _, rfl⟩, rfl⟩ rfl h
theorem v_X11_isWire_0 {d : Nat} {x1 : Int32} {m : dM} {Q : Int32 → dM → Prop} (h : ((x1.toInt < 0 → j_X11_isWire_0_19 (d + 1) m Q) ∧ (0 ≤ x1.toInt → (((m.1 2 1).toInt ≤ x1.toInt → j_X11_isWire_0_19 (d + 1) m Q) ∧ (x1.toInt < (m.1 2 1).toInt → Q (1 : Int32) m))))) : c_X11_isWire_0 (d + 1) x1 m Q := by
  refine w_iload_n (q := 1) hm249 ⟨⟨_, _, rfl⟩, rfl⟩ rfl ?_
  refine w_if_lt (q := 4) (X := x1.toInt) hm249 ⟨⟨_, _, rfl⟩, rfl⟩ rfl (fun hc => ?_) (fun hc => ?_)
  · have h := h.1 hc
    exact Wp.wk [false, false] h
  · have h := h.2 hc
    refine w_iload_n (q := 5) hm249 ⟨⟨_, _, rfl⟩, rfl⟩ rfl ?_
    refine w_aload_n (q := 6) hm249 ⟨⟨_, _, rfl⟩, rfl⟩ rfl ?_
    refine w_getr (q := 9) hm249 ⟨⟨_, _, rfl⟩, rfl⟩ rfl ?_
    refine w_getf (q := 12) (v := (m.1 2 1)) hm249 ⟨⟨_, _, rfl⟩, rfl⟩ rfl rfl ?_
    refine w_icmp_ge (q := 15) (X := x1.toInt) (Y := (m.1 2 1).toInt) hm249 ⟨⟨_, _, rfl⟩, rfl⟩ rfl rfl (fun hc => ?_) (fun hc => ?_)
    · have h := h.1 hc
      exact Wp.wk [false, false] h
    · have h := h.2 hc
      refine w_iconst (q := 16) hm249 ⟨⟨_, _, rfl⟩, rfl⟩ iconst_1 ?_
      refine w_goto (q := 20) hm249 ⟨_, _, rfl⟩ ?_
      exact w_retz hm249 ⟨⟨_, _, rfl⟩, rfl⟩ rfl (by decide) h
theorem v_X11_isWire_0_19 {d : Nat} {m : dM} {Q : Int32 → dM → Prop} (h : Q (0 : Int32) m) : j_X11_isWire_0_19 (d + 1) m Q := by
  refine w_iconst (q := 20) hm249 ⟨⟨_, _, rfl⟩, rfl⟩ iconst_0 ?_
  exact w_retz hm249 ⟨⟨_, _, rfl⟩, rfl⟩ rfl (by decide) h
theorem v_J7_fill_56 {d : Nat} {x1 : Int32} {m : dM} {Q : dM → Prop} (h : j_J7_fill_56_5 (d + 1) x1 (0 : Int32) (10 : Int32) m Q) : c_J7_fill_56 (d + 1) x1 m Q := by
  refine w_iconst (q := 1) hm286 ⟨⟨_, _, rfl⟩, rfl⟩ iconst_0 ?_
  refine w_istore_n (q := 2) (l' := [oR 56, oI x1, oI (0 : Int32), none]) hm286 ⟨⟨_, _, rfl⟩, rfl⟩ rfl rfl rfl ?_
  refine w_aload_n (q := 3) hm286 ⟨⟨_, _, rfl⟩, rfl⟩ rfl ?_
  refine w_alen (q := 4) hm286 ⟨⟨_, _, rfl⟩, rfl⟩ rfl alen_10 ?_
  refine w_istore_n (q := 5) (l' := [oR 56, oI x1, oI (0 : Int32), oI (10 : Int32)]) hm286 ⟨⟨_, _, rfl⟩, rfl⟩ rfl rfl rfl ?_
  exact h
theorem v_J7_fill_56_5 {d : Nat} {x1 : Int32} {x2 : Int32} {x3 : Int32} {m : dM} {Q : dM → Prop} (h : ((x3.toInt ≤ x2.toInt → Q m) ∧ (x2.toInt < x3.toInt → ((0 ≤ x2.toInt ∧ x2.toInt < 10) ∧ j_J7_fill_56_5 (d + 1) x1 (x2 + (1 : Int32)) x3 (dSet m 56 x2.toNatClampNeg x1) Q)))) : j_J7_fill_56_5 (d + 1) x1 x2 x3 m Q := by
  refine w_iload_n (q := 6) hm286 ⟨⟨_, _, rfl⟩, rfl⟩ rfl ?_
  refine w_iload_n (q := 7) hm286 ⟨⟨_, _, rfl⟩, rfl⟩ rfl ?_
  refine w_icmp_ge (q := 10) (X := x2.toInt) (Y := x3.toInt) hm286 ⟨⟨_, _, rfl⟩, rfl⟩ rfl rfl (fun hc => ?_) (fun hc => ?_)
  · have h := h.1 hc
    exact w_retv hm286 ⟨⟨_, _, rfl⟩, rfl⟩ rfl h
  · have h := h.2 hc
    refine w_aload_n (q := 11) hm286 ⟨⟨_, _, rfl⟩, rfl⟩ rfl ?_
    refine w_iload_n (q := 12) hm286 ⟨⟨_, _, rfl⟩, rfl⟩ rfl ?_
    refine w_iload_n (q := 13) hm286 ⟨⟨_, _, rfl⟩, rfl⟩ rfl ?_
    obtain ⟨hi, h⟩ := h
    refine w_iast (q := 14) hm286 ⟨⟨_, _, rfl⟩, rfl⟩ rfl hi rfl rfl ?_
    refine w_iinc (q := 17) (l' := [oR 56, oI x1, oI (x2 + (1 : Int32)), oI x3]) hm286 ⟨⟨_, _, rfl⟩, rfl⟩ rfl rfl rfl iconst_1 rfl ?_
    refine w_goto (q := 5) hm286 ⟨_, _, rfl⟩ ?_
    exact h
theorem v_X0_putOn_54_47 {d : Nat} {x2 : Int32} {m : dM} {Q : dM → Prop} (h : c_X10_lay_57 d (m.1 47 3) m (fun m1 => c_J7_fill_56 d (0 : Int32) m1 (fun m2 => j_X0_putOn_54_47_21 (d + 1) x2 (0 : Int32) m2 Q))) : c_X0_putOn_54_47 (d + 1) x2 m Q := by
  refine w_aload_n (q := 1) hm120 ⟨⟨_, _, rfl⟩, rfl⟩ rfl ?_
  refine w_getr (q := 4) hm120 ⟨⟨_, _, rfl⟩, rfl⟩ rfl ?_
  refine w_aload_n (q := 5) hm120 ⟨⟨_, _, rfl⟩, rfl⟩ rfl ?_
  refine w_getf (q := 8) (v := (m.1 47 3)) hm120 ⟨⟨_, _, rfl⟩, rfl⟩ rfl rfl ?_
  refine w_call (q := 11) (n := 3) (vs := [.inr (.inr (some 57)), .inl (m.1 47 3)]) (rest := []) (la := [oR 57, oI (m.1 47 3), none, none, none]) hm120 ⟨⟨_, _, rfl⟩, rfl⟩ rfl rfl rfl rfl hm239 rfl rfl (fun _ => ⟨_, _, rfl, rfl⟩) rfl (Wp.mono h ?_)
  rintro _ m1 ⟨rfl, h⟩
  change Wp _ _ 11 _ [] _ _
  refine w_aload_n (q := 12) hm120 ⟨⟨_, _, rfl⟩, rfl⟩ rfl ?_
  refine w_getr (q := 15) hm120 ⟨⟨_, _, rfl⟩, rfl⟩ rfl ?_
  refine w_iconst (q := 16) hm120 ⟨⟨_, _, rfl⟩, rfl⟩ iconst_0 ?_
  refine w_call (q := 19) (n := 2) (vs := [.inr (.inr (some 56)), .inl (0 : Int32)]) (rest := []) (la := [oR 56, oI (0 : Int32), none, none]) hm120 ⟨⟨_, _, rfl⟩, rfl⟩ rfl rfl rfl rfl hm286 rfl rfl (fun hz => absurd hz (by decide)) rfl (Wp.mono h ?_)
  rintro _ m2 ⟨rfl, h⟩
  change Wp _ _ 19 _ [] _ _
  refine w_iconst (q := 20) hm120 ⟨⟨_, _, rfl⟩, rfl⟩ iconst_0 ?_
  refine w_istore_n (q := 21) (l' := [oR 54, oR 47, oI x2, oI (0 : Int32), none, none]) hm120 ⟨⟨_, _, rfl⟩, rfl⟩ rfl rfl rfl ?_
  exact Wp.wk [true, false, true, true, false, false] h
theorem v_X0_putOn_54_47_21 {d : Nat} {x2 : Int32} {x3 : Int32} {m : dM} {Q : dM → Prop} (h : (((m.1 2 2).toInt ≤ x3.toInt → Q m) ∧ (x3.toInt < (m.1 2 2).toInt → c_X11_has d x2 x3 m (fun r1 m1 => ((r1.toInt = 0 → j_X0_putOn_54_47_66 (d + 1) x2 x3 (0 : Int32) (0 : Int32) m1 Q) ∧ (r1.toInt ≠ 0 → ((0 ≤ x3.toInt ∧ x3.toInt < 8) ∧ ((0 ≤ (m1.1 7 x3.toNatClampNeg).toInt ∧ (m1.1 7 x3.toNatClampNeg).toInt < 7) ∧ j_X0_putOn_54_47_66 (d + 1) x2 x3 (m1.1 60 (m1.1 7 x3.toNatClampNeg).toNatClampNeg) (0 : Int32) m1 Q)))))))) : j_X0_putOn_54_47_21 (d + 1) x2 x3 m Q := by
  refine w_iload_n (q := 22) hm120 ⟨⟨_, _, rfl⟩, rfl⟩ rfl ?_
  refine w_aload_n (q := 23) hm120 ⟨⟨_, _, rfl⟩, rfl⟩ rfl ?_
  refine w_getr (q := 26) hm120 ⟨⟨_, _, rfl⟩, rfl⟩ rfl ?_
  refine w_getf (q := 29) (v := (m.1 2 2)) hm120 ⟨⟨_, _, rfl⟩, rfl⟩ rfl rfl ?_
  refine w_icmp_ge (q := 32) (X := x3.toInt) (Y := (m.1 2 2).toInt) hm120 ⟨⟨_, _, rfl⟩, rfl⟩ rfl rfl (fun hc => ?_) (fun hc => ?_)
  · have h := h.1 hc
    exact w_retv hm120 ⟨⟨_, _, rfl⟩, rfl⟩ rfl h
  · have h := h.2 hc
    refine w_iload_n (q := 33) hm120 ⟨⟨_, _, rfl⟩, rfl⟩ rfl ?_
    refine w_iload_n (q := 34) hm120 ⟨⟨_, _, rfl⟩, rfl⟩ rfl ?_
    refine w_call (q := 37) (n := 0) (vs := [.inl x2, .inl x3]) (rest := []) (la := [oI x2, oI x3]) hm120 ⟨⟨_, _, rfl⟩, rfl⟩ rfl rfl rfl rfl hm283 rfl rfl (fun hz => absurd hz (by decide)) rfl (Wp.mono h ?_)
    rintro _ m1 ⟨r1, rfl, h⟩
    change Wp _ _ 37 _ [.inl r1] _ _
    refine w_if_eq (q := 40) (X := r1.toInt) hm120 ⟨⟨_, _, rfl⟩, rfl⟩ rfl (fun hc => ?_) (fun hc => ?_)
    · have h := h.1 hc
      refine w_iconst (q := 61) hm120 ⟨⟨_, _, rfl⟩, rfl⟩ iconst_0 ?_
      refine w_istore (q := 63) (l' := [oR 54, none, oI x2, oI x3, oI (0 : Int32), none]) hm120 ⟨⟨_, _, rfl⟩, rfl⟩ rfl rfl rfl ?_
      refine w_iconst (q := 64) hm120 ⟨⟨_, _, rfl⟩, rfl⟩ iconst_0 ?_
      refine w_istore (q := 66) (l' := [oR 54, none, oI x2, oI x3, oI (0 : Int32), oI (0 : Int32)]) hm120 ⟨⟨_, _, rfl⟩, rfl⟩ rfl rfl rfl ?_
      exact h
    · have h := h.2 hc
      refine w_aload_n (q := 41) hm120 ⟨⟨_, _, rfl⟩, rfl⟩ rfl ?_
      refine w_getr (q := 44) hm120 ⟨⟨_, _, rfl⟩, rfl⟩ rfl ?_
      refine w_getr (q := 47) hm120 ⟨⟨_, _, rfl⟩, rfl⟩ rfl ?_
      refine w_aload_n (q := 48) hm120 ⟨⟨_, _, rfl⟩, rfl⟩ rfl ?_
      refine w_getr (q := 51) hm120 ⟨⟨_, _, rfl⟩, rfl⟩ rfl ?_
      refine w_getr (q := 54) hm120 ⟨⟨_, _, rfl⟩, rfl⟩ rfl ?_
      refine w_iload_n (q := 55) hm120 ⟨⟨_, _, rfl⟩, rfl⟩ rfl ?_
      obtain ⟨hi, h⟩ := h
      refine w_iald (q := 56) (v := (m1.1 7 x3.toNatClampNeg)) hm120 ⟨⟨_, _, rfl⟩, rfl⟩ rfl hi rfl rfl ?_
      obtain ⟨hi, h⟩ := h
      refine w_iald (q := 57) (v := (m1.1 60 (m1.1 7 x3.toNatClampNeg).toNatClampNeg)) hm120 ⟨⟨_, _, rfl⟩, rfl⟩ rfl hi rfl rfl ?_
      refine w_goto (q := 61) hm120 ⟨_, _, rfl⟩ ?_
      refine w_istore (q := 63) (l' := [oR 54, none, oI x2, oI x3, oI (m1.1 60 (m1.1 7 x3.toNatClampNeg).toNatClampNeg), none]) hm120 ⟨⟨_, _, rfl⟩, rfl⟩ rfl rfl rfl ?_
      refine w_iconst (q := 64) hm120 ⟨⟨_, _, rfl⟩, rfl⟩ iconst_0 ?_
      refine w_istore (q := 66) (l' := [oR 54, none, oI x2, oI x3, oI (m1.1 60 (m1.1 7 x3.toNatClampNeg).toNatClampNeg), oI (0 : Int32)]) hm120 ⟨⟨_, _, rfl⟩, rfl⟩ rfl rfl rfl ?_
      exact h
theorem v_X0_putOn_54_47_66 {d : Nat} {x2 : Int32} {x3 : Int32} {x4 : Int32} {x5 : Int32} {m : dM} {Q : dM → Prop} (h : (((x4.toUInt32 >>> (x5.toUInt32 &&& Int32.toUInt32 31)).toInt32.toInt = 0 → j_X0_putOn_54_47_125 (d + 1) x2 x3 m Q) ∧ ((x4.toUInt32 >>> (x5.toUInt32 &&& Int32.toUInt32 31)).toInt32.toInt ≠ 0 → (((m.1 2 1).toInt ≤ x5.toInt → j_X0_putOn_54_47_125 (d + 1) x2 x3 m Q) ∧ (x5.toInt < (m.1 2 1).toInt → ((0 ≤ x5.toInt ∧ x5.toInt < 10) ∧ c_X11_has d x4 x5 m (fun r1 m1 => ((r1.toInt = 0 → ((0 ≤ x5.toInt ∧ x5.toInt < 10) ∧ j_X0_putOn_54_47_66 (d + 1) x2 x3 x4 (x5 + (1 : Int32)) (dSet m1 56 x5.toNatClampNeg ((m.1 56 x5.toNatClampNeg) + (0 : Int32))) Q)) ∧ (r1.toInt ≠ 0 → ((0 ≤ x3.toInt ∧ x3.toInt < 8) ∧ ((0 ≤ x5.toInt ∧ x5.toInt < 10) ∧ j_X0_putOn_54_47_66 (d + 1) x2 x3 x4 (x5 + (1 : Int32)) (dSet m1 56 x5.toNatClampNeg ((m.1 56 x5.toNatClampNeg) + (m1.1 8 x3.toNatClampNeg))) Q))))))))))) : j_X0_putOn_54_47_66 (d + 1) x2 x3 x4 x5 m Q := by
  refine w_iload (q := 68) hm120 ⟨⟨_, _, rfl⟩, rfl⟩ rfl ?_
  refine w_iload (q := 70) hm120 ⟨⟨_, _, rfl⟩, rfl⟩ rfl ?_
  refine w_iushr (q := 71) hm120 ⟨⟨_, _, rfl⟩, rfl⟩ ?_
  refine w_if_eq (q := 74) (X := (x4.toUInt32 >>> (x5.toUInt32 &&& Int32.toUInt32 31)).toInt32.toInt) hm120 ⟨⟨_, _, rfl⟩, rfl⟩ rfl (fun hc => ?_) (fun hc => ?_)
  · have h := h.1 hc
    exact Wp.wk [true, false, true, true, false, false] h
  · have h := h.2 hc
    refine w_iload (q := 76) hm120 ⟨⟨_, _, rfl⟩, rfl⟩ rfl ?_
    refine w_aload_n (q := 77) hm120 ⟨⟨_, _, rfl⟩, rfl⟩ rfl ?_
    refine w_getr (q := 80) hm120 ⟨⟨_, _, rfl⟩, rfl⟩ rfl ?_
    refine w_getf (q := 83) (v := (m.1 2 1)) hm120 ⟨⟨_, _, rfl⟩, rfl⟩ rfl rfl ?_
    refine w_icmp_ge (q := 86) (X := x5.toInt) (Y := (m.1 2 1).toInt) hm120 ⟨⟨_, _, rfl⟩, rfl⟩ rfl rfl (fun hc => ?_) (fun hc => ?_)
    · have h := h.1 hc
      exact Wp.wk [true, false, true, true, false, false] h
    · have h := h.2 hc
      refine w_aload_n (q := 87) hm120 ⟨⟨_, _, rfl⟩, rfl⟩ rfl ?_
      refine w_getr (q := 90) hm120 ⟨⟨_, _, rfl⟩, rfl⟩ rfl ?_
      refine w_iload (q := 92) hm120 ⟨⟨_, _, rfl⟩, rfl⟩ rfl ?_
      refine w_dup2 (q := 93) hm120 ⟨⟨_, _, rfl⟩, rfl⟩ rfl ?_
      obtain ⟨hi, h⟩ := h
      refine w_iald (q := 94) (v := (m.1 56 x5.toNatClampNeg)) hm120 ⟨⟨_, _, rfl⟩, rfl⟩ rfl hi rfl rfl ?_
      refine w_iload (q := 96) hm120 ⟨⟨_, _, rfl⟩, rfl⟩ rfl ?_
      refine w_iload (q := 98) hm120 ⟨⟨_, _, rfl⟩, rfl⟩ rfl ?_
      refine w_call (q := 101) (n := 0) (vs := [.inl x4, .inl x5]) (rest := [.inl (m.1 56 x5.toNatClampNeg), .inl x5, .inr (.inr (some 56))]) (la := [oI x4, oI x5]) hm120 ⟨⟨_, _, rfl⟩, rfl⟩ rfl rfl rfl rfl hm283 rfl rfl (fun hz => absurd hz (by decide)) rfl (Wp.mono h ?_)
      rintro _ m1 ⟨r1, rfl, h⟩
      change Wp _ _ 101 _ [.inl r1, .inl (m.1 56 x5.toNatClampNeg), .inl x5, .inr (.inr (some 56))] _ _
      refine w_if_eq (q := 104) (X := r1.toInt) hm120 ⟨⟨_, _, rfl⟩, rfl⟩ rfl (fun hc => ?_) (fun hc => ?_)
      · have h := h.1 hc
        refine w_iconst (q := 117) hm120 ⟨⟨_, _, rfl⟩, rfl⟩ iconst_0 ?_
        refine w_iadd (q := 118) hm120 ⟨⟨_, _, rfl⟩, rfl⟩ ?_
        obtain ⟨hi, h⟩ := h
        refine w_iast (q := 119) hm120 ⟨⟨_, _, rfl⟩, rfl⟩ rfl hi rfl rfl ?_
        refine w_iinc (q := 122) (l' := [oR 54, none, oI x2, oI x3, oI x4, oI (x5 + (1 : Int32))]) hm120 ⟨⟨_, _, rfl⟩, rfl⟩ rfl rfl rfl iconst_1 rfl ?_
        refine w_goto (q := 66) hm120 ⟨_, _, rfl⟩ ?_
        exact h
      · have h := h.2 hc
        refine w_aload_n (q := 105) hm120 ⟨⟨_, _, rfl⟩, rfl⟩ rfl ?_
        refine w_getr (q := 108) hm120 ⟨⟨_, _, rfl⟩, rfl⟩ rfl ?_
        refine w_getr (q := 111) hm120 ⟨⟨_, _, rfl⟩, rfl⟩ rfl ?_
        refine w_iload_n (q := 112) hm120 ⟨⟨_, _, rfl⟩, rfl⟩ rfl ?_
        obtain ⟨hi, h⟩ := h
        refine w_iald (q := 113) (v := (m1.1 8 x3.toNatClampNeg)) hm120 ⟨⟨_, _, rfl⟩, rfl⟩ rfl hi rfl rfl ?_
        refine w_goto (q := 117) hm120 ⟨_, _, rfl⟩ ?_
        refine w_iadd (q := 118) hm120 ⟨⟨_, _, rfl⟩, rfl⟩ ?_
        obtain ⟨hi, h⟩ := h
        refine w_iast (q := 119) hm120 ⟨⟨_, _, rfl⟩, rfl⟩ rfl hi rfl rfl ?_
        refine w_iinc (q := 122) (l' := [oR 54, none, oI x2, oI x3, oI x4, oI (x5 + (1 : Int32))]) hm120 ⟨⟨_, _, rfl⟩, rfl⟩ rfl rfl rfl iconst_1 rfl ?_
        refine w_goto (q := 66) hm120 ⟨_, _, rfl⟩ ?_
        exact h
theorem v_X0_putOn_54_47_125 {d : Nat} {x2 : Int32} {x3 : Int32} {m : dM} {Q : dM → Prop} (h : j_X0_putOn_54_47_21 (d + 1) x2 (x3 + (1 : Int32)) m Q) : j_X0_putOn_54_47_125 (d + 1) x2 x3 m Q := by
  refine w_iinc (q := 128) (l' := [oR 54, none, oI x2, oI (x3 + (1 : Int32)), none, none]) hm120 ⟨⟨_, _, rfl⟩, rfl⟩ rfl rfl rfl iconst_1 rfl ?_
  refine w_goto (q := 21) hm120 ⟨_, _, rfl⟩ ?_
  exact h
theorem v_X0_loadNow_54_47 {d : Nat} {x2 : Int32} {m : dM} {Q : Int32 → dM → Prop} (h : c_X0_usesNow_54_47 d m (fun r1 m1 => c_X0_putOn_54_47 d r1 m1 (fun m2 => ((0 ≤ x2.toInt ∧ x2.toInt < 10) ∧ Q (m2.1 56 x2.toNatClampNeg) m2)))) : c_X0_loadNow_54_47 (d + 1) x2 m Q := by
  refine w_aload_n (q := 1) hm121 ⟨⟨_, _, rfl⟩, rfl⟩ rfl ?_
  refine w_aload_n (q := 2) hm121 ⟨⟨_, _, rfl⟩, rfl⟩ rfl ?_
  refine w_aload_n (q := 3) hm121 ⟨⟨_, _, rfl⟩, rfl⟩ rfl ?_
  refine w_aload_n (q := 4) hm121 ⟨⟨_, _, rfl⟩, rfl⟩ rfl ?_
  refine w_call (q := 7) (n := 0) (vs := [.inr (.inr (some 54)), .inr (.inr (some 47))]) (rest := [.inr (.inr (some 47)), .inr (.inr (some 54))]) (la := [oR 54, oR 47]) hm121 ⟨⟨_, _, rfl⟩, rfl⟩ rfl rfl rfl rfl hm117 rfl rfl (fun _ => ⟨_, _, rfl, rfl⟩) rfl (Wp.mono h ?_)
  rintro _ m1 ⟨r1, rfl, h⟩
  change Wp _ _ 7 _ [.inl r1, .inr (.inr (some 47)), .inr (.inr (some 54))] _ _
  refine w_call (q := 10) (n := 3) (vs := [.inr (.inr (some 54)), .inr (.inr (some 47)), .inl r1]) (rest := []) (la := [oR 54, oR 47, oI r1, none, none, none]) hm121 ⟨⟨_, _, rfl⟩, rfl⟩ rfl rfl rfl rfl hm120 rfl rfl (fun _ => ⟨_, _, rfl, rfl⟩) rfl (Wp.mono h ?_)
  rintro _ m2 ⟨rfl, h⟩
  change Wp _ _ 10 _ [] _ _
  refine w_aload_n (q := 11) hm121 ⟨⟨_, _, rfl⟩, rfl⟩ rfl ?_
  refine w_getr (q := 14) hm121 ⟨⟨_, _, rfl⟩, rfl⟩ rfl ?_
  refine w_iload_n (q := 15) hm121 ⟨⟨_, _, rfl⟩, rfl⟩ rfl ?_
  obtain ⟨hi, h⟩ := h
  refine w_iald (q := 16) (v := (m2.1 56 x2.toNatClampNeg)) hm121 ⟨⟨_, _, rfl⟩, rfl⟩ rfl hi rfl rfl ?_
  exact w_reti hm121 ⟨⟨_, _, rfl⟩, rfl⟩ rfl h
theorem v_X0_costOf_54_47 {d : Nat} {x2 : Int32} {m : dM} {Q : Int32 → dM → Prop} (h : c_X7_hourOfDay_47 d m (fun r1 m1 => c_X7_day_47 d m1 (fun r2 m2 => c_X0_setVars_54 d r1 r2 x2 m2 (fun m3 => ((0 ≤ x2.toInt ∧ x2.toInt < 10) ∧ ((0 ≤ x2.toInt ∧ x2.toInt < 10) ∧ c_X4_tells_11_55 d (2 : Int32) (dSet (dSet m3 55 1 (m3.1 48 x2.toNatClampNeg)) 55 2 (m3.1 49 x2.toNatClampNeg)) (fun r4 m4 => c_X0_held d r4 m4 (fun r5 m5 => Q r5 m5)))))))) : c_X0_costOf_54_47 (d + 1) x2 m Q := by
  refine w_aload_n (q := 1) hm128 ⟨⟨_, _, rfl⟩, rfl⟩ rfl ?_
  refine w_aload_n (q := 2) hm128 ⟨⟨_, _, rfl⟩, rfl⟩ rfl ?_
  refine w_call (q := 5) (n := 0) (vs := [.inr (.inr (some 47))]) (rest := [.inr (.inr (some 54))]) (la := [oR 47]) hm128 ⟨⟨_, _, rfl⟩, rfl⟩ rfl rfl rfl rfl hm212 rfl rfl (fun _ => ⟨_, _, rfl, rfl⟩) rfl (Wp.mono h ?_)
  rintro _ m1 ⟨r1, rfl, h⟩
  change Wp _ _ 5 _ [.inl r1, .inr (.inr (some 54))] _ _
  refine w_aload_n (q := 6) hm128 ⟨⟨_, _, rfl⟩, rfl⟩ rfl ?_
  refine w_call (q := 9) (n := 0) (vs := [.inr (.inr (some 47))]) (rest := [.inl r1, .inr (.inr (some 54))]) (la := [oR 47]) hm128 ⟨⟨_, _, rfl⟩, rfl⟩ rfl rfl rfl rfl hm213 rfl rfl (fun _ => ⟨_, _, rfl, rfl⟩) rfl (Wp.mono h ?_)
  rintro _ m2 ⟨r2, rfl, h⟩
  change Wp _ _ 9 _ [.inl r2, .inl r1, .inr (.inr (some 54))] _ _
  refine w_iload_n (q := 10) hm128 ⟨⟨_, _, rfl⟩, rfl⟩ rfl ?_
  refine w_call (q := 13) (n := 0) (vs := [.inr (.inr (some 54)), .inl r1, .inl r2, .inl x2]) (rest := []) (la := [oR 54, oI r1, oI r2, oI x2]) hm128 ⟨⟨_, _, rfl⟩, rfl⟩ rfl rfl rfl rfl hm125 rfl rfl (fun _ => ⟨_, _, rfl, rfl⟩) rfl (Wp.mono h ?_)
  rintro _ m3 ⟨rfl, h⟩
  change Wp _ _ 13 _ [] _ _
  refine w_aload_n (q := 14) hm128 ⟨⟨_, _, rfl⟩, rfl⟩ rfl ?_
  refine w_getr (q := 17) hm128 ⟨⟨_, _, rfl⟩, rfl⟩ rfl ?_
  refine w_iconst (q := 18) hm128 ⟨⟨_, _, rfl⟩, rfl⟩ iconst_1 ?_
  refine w_aload_n (q := 19) hm128 ⟨⟨_, _, rfl⟩, rfl⟩ rfl ?_
  refine w_getr (q := 22) hm128 ⟨⟨_, _, rfl⟩, rfl⟩ rfl ?_
  refine w_iload_n (q := 23) hm128 ⟨⟨_, _, rfl⟩, rfl⟩ rfl ?_
  obtain ⟨hi, h⟩ := h
  refine w_iald (q := 24) (v := (m3.1 48 x2.toNatClampNeg)) hm128 ⟨⟨_, _, rfl⟩, rfl⟩ rfl hi rfl rfl ?_
  refine w_iast (q := 25) (j := 1) hm128 ⟨⟨_, _, rfl⟩, rfl⟩ rfl (by decide) (by decide) rfl ?_
  refine w_aload_n (q := 26) hm128 ⟨⟨_, _, rfl⟩, rfl⟩ rfl ?_
  refine w_getr (q := 29) hm128 ⟨⟨_, _, rfl⟩, rfl⟩ rfl ?_
  refine w_iconst (q := 30) hm128 ⟨⟨_, _, rfl⟩, rfl⟩ iconst_2 ?_
  refine w_aload_n (q := 31) hm128 ⟨⟨_, _, rfl⟩, rfl⟩ rfl ?_
  refine w_getr (q := 34) hm128 ⟨⟨_, _, rfl⟩, rfl⟩ rfl ?_
  refine w_iload_n (q := 35) hm128 ⟨⟨_, _, rfl⟩, rfl⟩ rfl ?_
  obtain ⟨hi, h⟩ := h
  refine w_iald (q := 36) (v := (m3.1 49 x2.toNatClampNeg)) hm128 ⟨⟨_, _, rfl⟩, rfl⟩ rfl hi rfl rfl ?_
  refine w_iast (q := 37) (j := 2) hm128 ⟨⟨_, _, rfl⟩, rfl⟩ rfl (by decide) (by decide) rfl ?_
  refine w_aload_n (q := 38) hm128 ⟨⟨_, _, rfl⟩, rfl⟩ rfl ?_
  refine w_getr (q := 41) hm128 ⟨⟨_, _, rfl⟩, rfl⟩ rfl ?_
  refine w_getr (q := 44) hm128 ⟨⟨_, _, rfl⟩, rfl⟩ rfl ?_
  refine w_iconst (q := 45) hm128 ⟨⟨_, _, rfl⟩, rfl⟩ iconst_2 ?_
  refine w_aload_n (q := 46) hm128 ⟨⟨_, _, rfl⟩, rfl⟩ rfl ?_
  refine w_getr (q := 49) hm128 ⟨⟨_, _, rfl⟩, rfl⟩ rfl ?_
  refine w_call (q := 52) (n := 4) (vs := [.inr (.inr (some 11)), .inl (2 : Int32), .inr (.inr (some 55))]) (rest := []) (la := [oR 11, oI (2 : Int32), oR 55, none, none, none, none]) hm128 ⟨⟨_, _, rfl⟩, rfl⟩ rfl rfl rfl rfl hm181 rfl rfl (fun _ => ⟨_, _, rfl, rfl⟩) rfl (Wp.mono h ?_)
  rintro _ m4 ⟨r4, rfl, h⟩
  change Wp _ _ 52 _ [.inl r4] _ _
  refine w_call (q := 55) (n := 0) (vs := [.inl r4]) (rest := []) (la := [oI r4]) hm128 ⟨⟨_, _, rfl⟩, rfl⟩ rfl rfl rfl rfl hm126 rfl rfl (fun hz => absurd hz (by decide)) rfl (Wp.mono h ?_)
  rintro _ m5 ⟨r5, rfl, h⟩
  change Wp _ _ 55 _ [.inl r5] _ _
  exact w_reti hm128 ⟨⟨_, _, rfl⟩, rfl⟩ rfl h
theorem v_X0_going_54_47 {d : Nat} {x2 : Int32} {x3 : Int32} {m : dM} {Q : Int32 → dM → Prop} (h : j_X0_going_54_47_6 (d + 1) x2 x3 (0 : Int32) (0 : Int32) m Q) : c_X0_going_54_47 (d + 1) x2 x3 m Q := by
  refine w_iconst (q := 1) hm124 ⟨⟨_, _, rfl⟩, rfl⟩ iconst_0 ?_
  refine w_istore (q := 3) (l' := [oR 54, oR 47, oI x2, oI x3, oI (0 : Int32), none]) hm124 ⟨⟨_, _, rfl⟩, rfl⟩ rfl rfl rfl ?_
  refine w_iconst (q := 4) hm124 ⟨⟨_, _, rfl⟩, rfl⟩ iconst_0 ?_
  refine w_istore (q := 6) (l' := [oR 54, oR 47, oI x2, oI x3, oI (0 : Int32), oI (0 : Int32)]) hm124 ⟨⟨_, _, rfl⟩, rfl⟩ rfl rfl rfl ?_
  exact h
theorem v_X0_going_54_47_6 {d : Nat} {x2 : Int32} {x3 : Int32} {x4 : Int32} {x5 : Int32} {m : dM} {Q : Int32 → dM → Prop} (h : (((m.1 2 1).toInt ≤ x5.toInt → Q x4 m) ∧ (x5.toInt < (m.1 2 1).toInt → ((0 ≤ x5.toInt ∧ x5.toInt < 10) ∧ (((m.1 56 x5.toNatClampNeg).toInt ≤ 0 → j_X0_going_54_47_119 (d + 1) x2 x3 x4 x5 m Q) ∧ (0 < (m.1 56 x5.toNatClampNeg).toInt → c_X11_has d (m.1 47 4) x5 m (fun r1 m1 => ((r1.toInt ≠ 0 → j_X0_going_54_47_119 (d + 1) x2 x3 x4 x5 m1 Q) ∧ (r1.toInt = 0 → c_X7_day_47 d m1 (fun r2 m2 => c_X0_setVars_54 d x2 r2 x5 m2 (fun m3 => ((0 ≤ x5.toInt ∧ x5.toInt < 10) ∧ ((0 ≤ x5.toInt ∧ x5.toInt < 10) ∧ ((0 ≤ x5.toInt ∧ x5.toInt < 10) ∧ c_X4_tells_11_55 d (0 : Int32) (dSet (dSet (dSet m3 55 0 ((m3.1 56 x5.toNatClampNeg) + x3)) 55 1 (m3.1 48 x5.toNatClampNeg)) 55 2 (m3.1 49 x5.toNatClampNeg)) (fun r4 m4 => ((r4.toInt ≤ 0 → j_X0_going_54_47_119 (d + 1) x2 x3 x4 x5 m4 Q) ∧ (0 < r4.toInt → j_X0_going_54_47_119 (d + 1) x2 x3 (x4 ||| ((1 : Int32) <<< (x5 &&& 31))) x5 m4 Q))))))))))))))))) : j_X0_going_54_47_6 (d + 1) x2 x3 x4 x5 m Q := by
  refine w_iload (q := 8) hm124 ⟨⟨_, _, rfl⟩, rfl⟩ rfl ?_
  refine w_aload_n (q := 9) hm124 ⟨⟨_, _, rfl⟩, rfl⟩ rfl ?_
  refine w_getr (q := 12) hm124 ⟨⟨_, _, rfl⟩, rfl⟩ rfl ?_
  refine w_getf (q := 15) (v := (m.1 2 1)) hm124 ⟨⟨_, _, rfl⟩, rfl⟩ rfl rfl ?_
  refine w_icmp_ge (q := 18) (X := x5.toInt) (Y := (m.1 2 1).toInt) hm124 ⟨⟨_, _, rfl⟩, rfl⟩ rfl rfl (fun hc => ?_) (fun hc => ?_)
  · have h := h.1 hc
    refine w_iload (q := 127) hm124 ⟨⟨_, _, rfl⟩, rfl⟩ rfl ?_
    exact w_reti hm124 ⟨⟨_, _, rfl⟩, rfl⟩ rfl h
  · have h := h.2 hc
    refine w_aload_n (q := 19) hm124 ⟨⟨_, _, rfl⟩, rfl⟩ rfl ?_
    refine w_getr (q := 22) hm124 ⟨⟨_, _, rfl⟩, rfl⟩ rfl ?_
    refine w_iload (q := 24) hm124 ⟨⟨_, _, rfl⟩, rfl⟩ rfl ?_
    obtain ⟨hi, h⟩ := h
    refine w_iald (q := 25) (v := (m.1 56 x5.toNatClampNeg)) hm124 ⟨⟨_, _, rfl⟩, rfl⟩ rfl hi rfl rfl ?_
    refine w_if_le (q := 28) (X := (m.1 56 x5.toNatClampNeg).toInt) hm124 ⟨⟨_, _, rfl⟩, rfl⟩ rfl (fun hc => ?_) (fun hc => ?_)
    · have h := h.1 hc
      exact h
    · have h := h.2 hc
      refine w_aload_n (q := 29) hm124 ⟨⟨_, _, rfl⟩, rfl⟩ rfl ?_
      refine w_getf (q := 32) (v := (m.1 47 4)) hm124 ⟨⟨_, _, rfl⟩, rfl⟩ rfl rfl ?_
      refine w_iload (q := 34) hm124 ⟨⟨_, _, rfl⟩, rfl⟩ rfl ?_
      refine w_call (q := 37) (n := 0) (vs := [.inl (m.1 47 4), .inl x5]) (rest := []) (la := [oI (m.1 47 4), oI x5]) hm124 ⟨⟨_, _, rfl⟩, rfl⟩ rfl rfl rfl rfl hm283 rfl rfl (fun hz => absurd hz (by decide)) rfl (Wp.mono h ?_)
      rintro _ m1 ⟨r1, rfl, h⟩
      change Wp _ _ 37 _ [.inl r1] _ _
      refine w_if_ne (q := 40) (X := r1.toInt) hm124 ⟨⟨_, _, rfl⟩, rfl⟩ rfl (fun hc => ?_) (fun hc => ?_)
      · have h := h.1 hc
        exact h
      · have h := h.2 hc
        refine w_aload_n (q := 41) hm124 ⟨⟨_, _, rfl⟩, rfl⟩ rfl ?_
        refine w_iload_n (q := 42) hm124 ⟨⟨_, _, rfl⟩, rfl⟩ rfl ?_
        refine w_aload_n (q := 43) hm124 ⟨⟨_, _, rfl⟩, rfl⟩ rfl ?_
        refine w_call (q := 46) (n := 0) (vs := [.inr (.inr (some 47))]) (rest := [.inl x2, .inr (.inr (some 54))]) (la := [oR 47]) hm124 ⟨⟨_, _, rfl⟩, rfl⟩ rfl rfl rfl rfl hm213 rfl rfl (fun _ => ⟨_, _, rfl, rfl⟩) rfl (Wp.mono h ?_)
        rintro _ m2 ⟨r2, rfl, h⟩
        change Wp _ _ 46 _ [.inl r2, .inl x2, .inr (.inr (some 54))] _ _
        refine w_iload (q := 48) hm124 ⟨⟨_, _, rfl⟩, rfl⟩ rfl ?_
        refine w_call (q := 51) (n := 0) (vs := [.inr (.inr (some 54)), .inl x2, .inl r2, .inl x5]) (rest := []) (la := [oR 54, oI x2, oI r2, oI x5]) hm124 ⟨⟨_, _, rfl⟩, rfl⟩ rfl rfl rfl rfl hm125 rfl rfl (fun _ => ⟨_, _, rfl, rfl⟩) rfl (Wp.mono h ?_)
        rintro _ m3 ⟨rfl, h⟩
        change Wp _ _ 51 _ [] _ _
        refine w_aload_n (q := 52) hm124 ⟨⟨_, _, rfl⟩, rfl⟩ rfl ?_
        refine w_getr (q := 55) hm124 ⟨⟨_, _, rfl⟩, rfl⟩ rfl ?_
        refine w_iconst (q := 56) hm124 ⟨⟨_, _, rfl⟩, rfl⟩ iconst_0 ?_
        refine w_aload_n (q := 57) hm124 ⟨⟨_, _, rfl⟩, rfl⟩ rfl ?_
        refine w_getr (q := 60) hm124 ⟨⟨_, _, rfl⟩, rfl⟩ rfl ?_
        refine w_iload (q := 62) hm124 ⟨⟨_, _, rfl⟩, rfl⟩ rfl ?_
        obtain ⟨hi, h⟩ := h
        refine w_iald (q := 63) (v := (m3.1 56 x5.toNatClampNeg)) hm124 ⟨⟨_, _, rfl⟩, rfl⟩ rfl hi rfl rfl ?_
        refine w_iload_n (q := 64) hm124 ⟨⟨_, _, rfl⟩, rfl⟩ rfl ?_
        refine w_iadd (q := 65) hm124 ⟨⟨_, _, rfl⟩, rfl⟩ ?_
        refine w_iast (q := 66) (j := 0) hm124 ⟨⟨_, _, rfl⟩, rfl⟩ rfl (by decide) (by decide) rfl ?_
        refine w_aload_n (q := 67) hm124 ⟨⟨_, _, rfl⟩, rfl⟩ rfl ?_
        refine w_getr (q := 70) hm124 ⟨⟨_, _, rfl⟩, rfl⟩ rfl ?_
        refine w_iconst (q := 71) hm124 ⟨⟨_, _, rfl⟩, rfl⟩ iconst_1 ?_
        refine w_aload_n (q := 72) hm124 ⟨⟨_, _, rfl⟩, rfl⟩ rfl ?_
        refine w_getr (q := 75) hm124 ⟨⟨_, _, rfl⟩, rfl⟩ rfl ?_
        refine w_iload (q := 77) hm124 ⟨⟨_, _, rfl⟩, rfl⟩ rfl ?_
        obtain ⟨hi, h⟩ := h
        refine w_iald (q := 78) (v := (m3.1 48 x5.toNatClampNeg)) hm124 ⟨⟨_, _, rfl⟩, rfl⟩ rfl hi rfl rfl ?_
        refine w_iast (q := 79) (j := 1) hm124 ⟨⟨_, _, rfl⟩, rfl⟩ rfl (by decide) (by decide) rfl ?_
        refine w_aload_n (q := 80) hm124 ⟨⟨_, _, rfl⟩, rfl⟩ rfl ?_
        refine w_getr (q := 83) hm124 ⟨⟨_, _, rfl⟩, rfl⟩ rfl ?_
        refine w_iconst (q := 84) hm124 ⟨⟨_, _, rfl⟩, rfl⟩ iconst_2 ?_
        refine w_aload_n (q := 85) hm124 ⟨⟨_, _, rfl⟩, rfl⟩ rfl ?_
        refine w_getr (q := 88) hm124 ⟨⟨_, _, rfl⟩, rfl⟩ rfl ?_
        refine w_iload (q := 90) hm124 ⟨⟨_, _, rfl⟩, rfl⟩ rfl ?_
        obtain ⟨hi, h⟩ := h
        refine w_iald (q := 91) (v := (m3.1 49 x5.toNatClampNeg)) hm124 ⟨⟨_, _, rfl⟩, rfl⟩ rfl hi rfl rfl ?_
        refine w_iast (q := 92) (j := 2) hm124 ⟨⟨_, _, rfl⟩, rfl⟩ rfl (by decide) (by decide) rfl ?_
        refine w_aload_n (q := 93) hm124 ⟨⟨_, _, rfl⟩, rfl⟩ rfl ?_
        refine w_getr (q := 96) hm124 ⟨⟨_, _, rfl⟩, rfl⟩ rfl ?_
        refine w_getr (q := 99) hm124 ⟨⟨_, _, rfl⟩, rfl⟩ rfl ?_
        refine w_iconst (q := 100) hm124 ⟨⟨_, _, rfl⟩, rfl⟩ iconst_0 ?_
        refine w_aload_n (q := 101) hm124 ⟨⟨_, _, rfl⟩, rfl⟩ rfl ?_
        refine w_getr (q := 104) hm124 ⟨⟨_, _, rfl⟩, rfl⟩ rfl ?_
        refine w_call (q := 107) (n := 4) (vs := [.inr (.inr (some 11)), .inl (0 : Int32), .inr (.inr (some 55))]) (rest := []) (la := [oR 11, oI (0 : Int32), oR 55, none, none, none, none]) hm124 ⟨⟨_, _, rfl⟩, rfl⟩ rfl rfl rfl rfl hm181 rfl rfl (fun _ => ⟨_, _, rfl, rfl⟩) rfl (Wp.mono h ?_)
        rintro _ m4 ⟨r4, rfl, h⟩
        change Wp _ _ 107 _ [.inl r4] _ _
        refine w_if_le (q := 110) (X := r4.toInt) hm124 ⟨⟨_, _, rfl⟩, rfl⟩ rfl (fun hc => ?_) (fun hc => ?_)
        · have h := h.1 hc
          exact h
        · have h := h.2 hc
          refine w_iload (q := 112) hm124 ⟨⟨_, _, rfl⟩, rfl⟩ rfl ?_
          refine w_iconst (q := 113) hm124 ⟨⟨_, _, rfl⟩, rfl⟩ iconst_1 ?_
          refine w_iload (q := 115) hm124 ⟨⟨_, _, rfl⟩, rfl⟩ rfl ?_
          refine w_ishl (q := 116) hm124 ⟨⟨_, _, rfl⟩, rfl⟩ ?_
          refine w_ior (q := 117) hm124 ⟨⟨_, _, rfl⟩, rfl⟩ ?_
          refine w_istore (q := 119) (l' := [oR 54, oR 47, oI x2, oI x3, oI (x4 ||| ((1 : Int32) <<< (x5 &&& 31))), oI x5]) hm124 ⟨⟨_, _, rfl⟩, rfl⟩ rfl rfl rfl ?_
          exact h
theorem v_X0_going_54_47_119 {d : Nat} {x2 : Int32} {x3 : Int32} {x4 : Int32} {x5 : Int32} {m : dM} {Q : Int32 → dM → Prop} (h : j_X0_going_54_47_6 (d + 1) x2 x3 x4 (x5 + (1 : Int32)) m Q) : j_X0_going_54_47_119 (d + 1) x2 x3 x4 x5 m Q := by
  refine w_iinc (q := 122) (l' := [oR 54, oR 47, oI x2, oI x3, oI x4, oI (x5 + (1 : Int32))]) hm124 ⟨⟨_, _, rfl⟩, rfl⟩ rfl rfl rfl iconst_1 rfl ?_
  refine w_goto (q := 6) hm124 ⟨_, _, rfl⟩ ?_
  exact h
theorem v_X0_goingWith_54_47 {d : Nat} {x2 : Int32} {m : dM} {Q : Int32 → dM → Prop} (h : c_X0_putOn_54_47 d x2 m (fun m1 => c_X7_hourOfDay_47 d m1 (fun r2 m2 => c_X0_going_54_47 d r2 (0 : Int32) m2 (fun r3 m3 => Q r3 m3)))) : c_X0_goingWith_54_47 (d + 1) x2 m Q := by
  refine w_aload_n (q := 1) hm123 ⟨⟨_, _, rfl⟩, rfl⟩ rfl ?_
  refine w_aload_n (q := 2) hm123 ⟨⟨_, _, rfl⟩, rfl⟩ rfl ?_
  refine w_iload_n (q := 3) hm123 ⟨⟨_, _, rfl⟩, rfl⟩ rfl ?_
  refine w_call (q := 6) (n := 3) (vs := [.inr (.inr (some 54)), .inr (.inr (some 47)), .inl x2]) (rest := []) (la := [oR 54, oR 47, oI x2, none, none, none]) hm123 ⟨⟨_, _, rfl⟩, rfl⟩ rfl rfl rfl rfl hm120 rfl rfl (fun _ => ⟨_, _, rfl, rfl⟩) rfl (Wp.mono h ?_)
  rintro _ m1 ⟨rfl, h⟩
  change Wp _ _ 6 _ [] _ _
  refine w_aload_n (q := 7) hm123 ⟨⟨_, _, rfl⟩, rfl⟩ rfl ?_
  refine w_aload_n (q := 8) hm123 ⟨⟨_, _, rfl⟩, rfl⟩ rfl ?_
  refine w_aload_n (q := 9) hm123 ⟨⟨_, _, rfl⟩, rfl⟩ rfl ?_
  refine w_call (q := 12) (n := 0) (vs := [.inr (.inr (some 47))]) (rest := [.inr (.inr (some 47)), .inr (.inr (some 54))]) (la := [oR 47]) hm123 ⟨⟨_, _, rfl⟩, rfl⟩ rfl rfl rfl rfl hm212 rfl rfl (fun _ => ⟨_, _, rfl, rfl⟩) rfl (Wp.mono h ?_)
  rintro _ m2 ⟨r2, rfl, h⟩
  change Wp _ _ 12 _ [.inl r2, .inr (.inr (some 47)), .inr (.inr (some 54))] _ _
  refine w_iconst (q := 13) hm123 ⟨⟨_, _, rfl⟩, rfl⟩ iconst_0 ?_
  refine w_call (q := 16) (n := 2) (vs := [.inr (.inr (some 54)), .inr (.inr (some 47)), .inl r2, .inl (0 : Int32)]) (rest := []) (la := [oR 54, oR 47, oI r2, oI (0 : Int32), none, none]) hm123 ⟨⟨_, _, rfl⟩, rfl⟩ rfl rfl rfl rfl hm124 rfl rfl (fun _ => ⟨_, _, rfl, rfl⟩) rfl (Wp.mono h ?_)
  rintro _ m3 ⟨r3, rfl, h⟩
  change Wp _ _ 16 _ [.inl r3] _ _
  exact w_reti hm123 ⟨⟨_, _, rfl⟩, rfl⟩ rfl h
theorem v_X0_goingNow_54_47 {d : Nat} {m : dM} {Q : Int32 → dM → Prop} (h : c_X0_usesNow_54_47 d m (fun r1 m1 => c_X0_goingWith_54_47 d r1 m1 (fun r2 m2 => Q r2 m2))) : c_X0_goingNow_54_47 (d + 1) m Q := by
  refine w_aload_n (q := 1) hm122 ⟨⟨_, _, rfl⟩, rfl⟩ rfl ?_
  refine w_aload_n (q := 2) hm122 ⟨⟨_, _, rfl⟩, rfl⟩ rfl ?_
  refine w_aload_n (q := 3) hm122 ⟨⟨_, _, rfl⟩, rfl⟩ rfl ?_
  refine w_aload_n (q := 4) hm122 ⟨⟨_, _, rfl⟩, rfl⟩ rfl ?_
  refine w_call (q := 7) (n := 0) (vs := [.inr (.inr (some 54)), .inr (.inr (some 47))]) (rest := [.inr (.inr (some 47)), .inr (.inr (some 54))]) (la := [oR 54, oR 47]) hm122 ⟨⟨_, _, rfl⟩, rfl⟩ rfl rfl rfl rfl hm117 rfl rfl (fun _ => ⟨_, _, rfl, rfl⟩) rfl (Wp.mono h ?_)
  rintro _ m1 ⟨r1, rfl, h⟩
  change Wp _ _ 7 _ [.inl r1, .inr (.inr (some 47)), .inr (.inr (some 54))] _ _
  refine w_call (q := 10) (n := 0) (vs := [.inr (.inr (some 54)), .inr (.inr (some 47)), .inl r1]) (rest := []) (la := [oR 54, oR 47, oI r1]) hm122 ⟨⟨_, _, rfl⟩, rfl⟩ rfl rfl rfl rfl hm123 rfl rfl (fun _ => ⟨_, _, rfl, rfl⟩) rfl (Wp.mono h ?_)
  rintro _ m2 ⟨r2, rfl, h⟩
  change Wp _ _ 10 _ [.inl r2] _ _
  exact w_reti hm122 ⟨⟨_, _, rfl⟩, rfl⟩ rfl h
theorem v_X11_wire_0 {d : Nat} {x1 : Int32} {x2 : Int32} {m : dM} {Q : Int32 → dM → Prop} (h : c_X11_isWire_0 d x1 m (fun r1 m1 => ((r1.toInt ≠ 0 → ((x2.toInt = 0 → ((0 ≤ x1.toInt ∧ x1.toInt < 10) ∧ Q (m1.1 4 x1.toNatClampNeg) m1)) ∧ (x2.toInt = 1 → ((0 ≤ x1.toInt ∧ x1.toInt < 10) ∧ Q (m1.1 5 x1.toNatClampNeg) m1)) ∧ (x2.toInt = 2 → ((0 ≤ x1.toInt ∧ x1.toInt < 10) ∧ Q (m1.1 48 x1.toNatClampNeg) m1)) ∧ (x2.toInt = 3 → c_X11_has d (m1.1 47 3) x1 m1 (fun r2 m2 => ((r2.toInt = 0 → Q (1 : Int32) m2) ∧ (r2.toInt ≠ 0 → Q (0 : Int32) m2)))) ∧ (x2.toInt = 4 → ((0 ≤ x1.toInt ∧ x1.toInt < 10) ∧ Q (m1.1 49 x1.toNatClampNeg) m1)) ∧ (x2.toInt = 5 → c_X11_has d (m1.1 47 4) x1 m1 (fun r3 m3 => ((r3.toInt = 0 → Q (0 : Int32) m3) ∧ (r3.toInt ≠ 0 → Q (1 : Int32) m3)))) ∧ (x2.toInt = 6 → c_X0_loadNow_54_47 d x1 m1 (fun r4 m4 => Q r4 m4)) ∧ (x2.toInt = 7 → c_X0_costOf_54_47 d x1 m1 (fun r5 m5 => Q r5 m5)) ∧ (x2.toInt = 8 → c_X0_goingNow_54_47 d m1 (fun r6 m6 => c_X11_has d r6 x1 m6 (fun r7 m7 => ((r7.toInt = 0 → Q (0 : Int32) m7) ∧ (r7.toInt ≠ 0 → Q (1 : Int32) m7))))) ∧ (x2.toInt < 0 ∨ 8 < x2.toInt → Q (-1 : Int32) m1))) ∧ (r1.toInt = 0 → Q (-1 : Int32) m1)))) : c_X11_wire_0 (d + 1) x1 x2 m Q := by
  refine w_aload_n (q := 1) hm252 ⟨⟨_, _, rfl⟩, rfl⟩ rfl ?_
  refine w_iload_n (q := 2) hm252 ⟨⟨_, _, rfl⟩, rfl⟩ rfl ?_
  refine w_call (q := 5) (n := 0) (vs := [.inr (.inr (some 0)), .inl x1]) (rest := []) (la := [oR 0, oI x1]) hm252 ⟨⟨_, _, rfl⟩, rfl⟩ rfl rfl rfl rfl hm249 rfl rfl (fun _ => ⟨_, _, rfl, rfl⟩) rfl (Wp.mono h ?_)
  rintro _ m1 ⟨r1, rfl, h⟩
  change Wp _ _ 5 _ [.inl r1] _ _
  refine w_if_ne (q := 8) (X := r1.toInt) hm252 ⟨⟨_, _, rfl⟩, rfl⟩ rfl (fun hc => ?_) (fun hc => ?_)
  · have h := h.1 hc
    refine w_iload_n (q := 11) hm252 ⟨⟨_, _, rfl⟩, rfl⟩ rfl ?_
    refine w_tsw (X := x2.toInt) hm252 ⟨_, _, rfl⟩ (by decide) (by decide) rfl ((And.intro (fun hc => ?_) (And.intro (fun hc => ?_) (And.intro (fun hc => ?_) (And.intro (fun hc => ?_) (And.intro (fun hc => ?_) (And.intro (fun hc => ?_) (And.intro (fun hc => ?_) (And.intro (fun hc => ?_) (And.intro (fun hc => ?_) trivial)))))))))) (fun hc => ?_)
    · have h := (h.1) hc
      change Wp _ _ 60 _ _ _ _
      refine w_aload_n (q := 61) hm252 ⟨⟨_, _, rfl⟩, rfl⟩ rfl ?_
      refine w_getr (q := 64) hm252 ⟨⟨_, _, rfl⟩, rfl⟩ rfl ?_
      refine w_getr (q := 67) hm252 ⟨⟨_, _, rfl⟩, rfl⟩ rfl ?_
      refine w_iload_n (q := 68) hm252 ⟨⟨_, _, rfl⟩, rfl⟩ rfl ?_
      obtain ⟨hi, h⟩ := h
      refine w_iald (q := 69) (v := (m1.1 4 x1.toNatClampNeg)) hm252 ⟨⟨_, _, rfl⟩, rfl⟩ rfl hi rfl rfl ?_
      exact w_reti hm252 ⟨⟨_, _, rfl⟩, rfl⟩ rfl h
    · have h := (h.2.1) hc
      change Wp _ _ 70 _ _ _ _
      refine w_aload_n (q := 71) hm252 ⟨⟨_, _, rfl⟩, rfl⟩ rfl ?_
      refine w_getr (q := 74) hm252 ⟨⟨_, _, rfl⟩, rfl⟩ rfl ?_
      refine w_getr (q := 77) hm252 ⟨⟨_, _, rfl⟩, rfl⟩ rfl ?_
      refine w_iload_n (q := 78) hm252 ⟨⟨_, _, rfl⟩, rfl⟩ rfl ?_
      obtain ⟨hi, h⟩ := h
      refine w_iald (q := 79) (v := (m1.1 5 x1.toNatClampNeg)) hm252 ⟨⟨_, _, rfl⟩, rfl⟩ rfl hi rfl rfl ?_
      exact w_reti hm252 ⟨⟨_, _, rfl⟩, rfl⟩ rfl h
    · have h := (h.2.2.1) hc
      change Wp _ _ 80 _ _ _ _
      refine w_aload_n (q := 81) hm252 ⟨⟨_, _, rfl⟩, rfl⟩ rfl ?_
      refine w_getr (q := 84) hm252 ⟨⟨_, _, rfl⟩, rfl⟩ rfl ?_
      refine w_getr (q := 87) hm252 ⟨⟨_, _, rfl⟩, rfl⟩ rfl ?_
      refine w_iload_n (q := 88) hm252 ⟨⟨_, _, rfl⟩, rfl⟩ rfl ?_
      obtain ⟨hi, h⟩ := h
      refine w_iald (q := 89) (v := (m1.1 48 x1.toNatClampNeg)) hm252 ⟨⟨_, _, rfl⟩, rfl⟩ rfl hi rfl rfl ?_
      exact w_reti hm252 ⟨⟨_, _, rfl⟩, rfl⟩ rfl h
    · have h := (h.2.2.2.1) hc
      change Wp _ _ 90 _ _ _ _
      refine w_aload_n (q := 91) hm252 ⟨⟨_, _, rfl⟩, rfl⟩ rfl ?_
      refine w_getr (q := 94) hm252 ⟨⟨_, _, rfl⟩, rfl⟩ rfl ?_
      refine w_getf (q := 97) (v := (m1.1 47 3)) hm252 ⟨⟨_, _, rfl⟩, rfl⟩ rfl rfl ?_
      refine w_iload_n (q := 98) hm252 ⟨⟨_, _, rfl⟩, rfl⟩ rfl ?_
      refine w_call (q := 101) (n := 0) (vs := [.inl (m1.1 47 3), .inl x1]) (rest := []) (la := [oI (m1.1 47 3), oI x1]) hm252 ⟨⟨_, _, rfl⟩, rfl⟩ rfl rfl rfl rfl hm283 rfl rfl (fun hz => absurd hz (by decide)) rfl (Wp.mono h ?_)
      rintro _ m2 ⟨r2, rfl, h⟩
      change Wp _ _ 101 _ [.inl r2] _ _
      refine w_if_eq (q := 104) (X := r2.toInt) hm252 ⟨⟨_, _, rfl⟩, rfl⟩ rfl (fun hc => ?_) (fun hc => ?_)
      · have h := h.1 hc
        refine w_iconst (q := 109) hm252 ⟨⟨_, _, rfl⟩, rfl⟩ iconst_1 ?_
        exact w_reti hm252 ⟨⟨_, _, rfl⟩, rfl⟩ rfl h
      · have h := h.2 hc
        refine w_iconst (q := 105) hm252 ⟨⟨_, _, rfl⟩, rfl⟩ iconst_0 ?_
        refine w_goto (q := 109) hm252 ⟨_, _, rfl⟩ ?_
        exact w_reti hm252 ⟨⟨_, _, rfl⟩, rfl⟩ rfl h
    · have h := (h.2.2.2.2.1) hc
      change Wp _ _ 110 _ _ _ _
      refine w_aload_n (q := 111) hm252 ⟨⟨_, _, rfl⟩, rfl⟩ rfl ?_
      refine w_getr (q := 114) hm252 ⟨⟨_, _, rfl⟩, rfl⟩ rfl ?_
      refine w_getr (q := 117) hm252 ⟨⟨_, _, rfl⟩, rfl⟩ rfl ?_
      refine w_iload_n (q := 118) hm252 ⟨⟨_, _, rfl⟩, rfl⟩ rfl ?_
      obtain ⟨hi, h⟩ := h
      refine w_iald (q := 119) (v := (m1.1 49 x1.toNatClampNeg)) hm252 ⟨⟨_, _, rfl⟩, rfl⟩ rfl hi rfl rfl ?_
      exact w_reti hm252 ⟨⟨_, _, rfl⟩, rfl⟩ rfl h
    · have h := (h.2.2.2.2.2.1) hc
      change Wp _ _ 120 _ _ _ _
      refine w_aload_n (q := 121) hm252 ⟨⟨_, _, rfl⟩, rfl⟩ rfl ?_
      refine w_getr (q := 124) hm252 ⟨⟨_, _, rfl⟩, rfl⟩ rfl ?_
      refine w_getf (q := 127) (v := (m1.1 47 4)) hm252 ⟨⟨_, _, rfl⟩, rfl⟩ rfl rfl ?_
      refine w_iload_n (q := 128) hm252 ⟨⟨_, _, rfl⟩, rfl⟩ rfl ?_
      refine w_call (q := 131) (n := 0) (vs := [.inl (m1.1 47 4), .inl x1]) (rest := []) (la := [oI (m1.1 47 4), oI x1]) hm252 ⟨⟨_, _, rfl⟩, rfl⟩ rfl rfl rfl rfl hm283 rfl rfl (fun hz => absurd hz (by decide)) rfl (Wp.mono h ?_)
      rintro _ m3 ⟨r3, rfl, h⟩
      change Wp _ _ 131 _ [.inl r3] _ _
      refine w_if_eq (q := 134) (X := r3.toInt) hm252 ⟨⟨_, _, rfl⟩, rfl⟩ rfl (fun hc => ?_) (fun hc => ?_)
      · have h := h.1 hc
        refine w_iconst (q := 139) hm252 ⟨⟨_, _, rfl⟩, rfl⟩ iconst_0 ?_
        exact w_reti hm252 ⟨⟨_, _, rfl⟩, rfl⟩ rfl h
      · have h := h.2 hc
        refine w_iconst (q := 135) hm252 ⟨⟨_, _, rfl⟩, rfl⟩ iconst_1 ?_
        refine w_goto (q := 139) hm252 ⟨_, _, rfl⟩ ?_
        exact w_reti hm252 ⟨⟨_, _, rfl⟩, rfl⟩ rfl h
    · have h := (h.2.2.2.2.2.2.1) hc
      change Wp _ _ 140 _ _ _ _
      refine w_aload_n (q := 141) hm252 ⟨⟨_, _, rfl⟩, rfl⟩ rfl ?_
      refine w_getr (q := 144) hm252 ⟨⟨_, _, rfl⟩, rfl⟩ rfl ?_
      refine w_aload_n (q := 145) hm252 ⟨⟨_, _, rfl⟩, rfl⟩ rfl ?_
      refine w_getr (q := 148) hm252 ⟨⟨_, _, rfl⟩, rfl⟩ rfl ?_
      refine w_iload_n (q := 149) hm252 ⟨⟨_, _, rfl⟩, rfl⟩ rfl ?_
      refine w_call (q := 152) (n := 0) (vs := [.inr (.inr (some 54)), .inr (.inr (some 47)), .inl x1]) (rest := []) (la := [oR 54, oR 47, oI x1]) hm252 ⟨⟨_, _, rfl⟩, rfl⟩ rfl rfl rfl rfl hm121 rfl rfl (fun _ => ⟨_, _, rfl, rfl⟩) rfl (Wp.mono h ?_)
      rintro _ m4 ⟨r4, rfl, h⟩
      change Wp _ _ 152 _ [.inl r4] _ _
      exact w_reti hm252 ⟨⟨_, _, rfl⟩, rfl⟩ rfl h
    · have h := (h.2.2.2.2.2.2.2.1) hc
      change Wp _ _ 153 _ _ _ _
      refine w_aload_n (q := 154) hm252 ⟨⟨_, _, rfl⟩, rfl⟩ rfl ?_
      refine w_getr (q := 157) hm252 ⟨⟨_, _, rfl⟩, rfl⟩ rfl ?_
      refine w_aload_n (q := 158) hm252 ⟨⟨_, _, rfl⟩, rfl⟩ rfl ?_
      refine w_getr (q := 161) hm252 ⟨⟨_, _, rfl⟩, rfl⟩ rfl ?_
      refine w_iload_n (q := 162) hm252 ⟨⟨_, _, rfl⟩, rfl⟩ rfl ?_
      refine w_call (q := 165) (n := 0) (vs := [.inr (.inr (some 54)), .inr (.inr (some 47)), .inl x1]) (rest := []) (la := [oR 54, oR 47, oI x1]) hm252 ⟨⟨_, _, rfl⟩, rfl⟩ rfl rfl rfl rfl hm128 rfl rfl (fun _ => ⟨_, _, rfl, rfl⟩) rfl (Wp.mono h ?_)
      rintro _ m5 ⟨r5, rfl, h⟩
      change Wp _ _ 165 _ [.inl r5] _ _
      exact w_reti hm252 ⟨⟨_, _, rfl⟩, rfl⟩ rfl h
    · have h := (h.2.2.2.2.2.2.2.2.1) hc
      change Wp _ _ 166 _ _ _ _
      refine w_aload_n (q := 167) hm252 ⟨⟨_, _, rfl⟩, rfl⟩ rfl ?_
      refine w_getr (q := 170) hm252 ⟨⟨_, _, rfl⟩, rfl⟩ rfl ?_
      refine w_aload_n (q := 171) hm252 ⟨⟨_, _, rfl⟩, rfl⟩ rfl ?_
      refine w_getr (q := 174) hm252 ⟨⟨_, _, rfl⟩, rfl⟩ rfl ?_
      refine w_call (q := 177) (n := 0) (vs := [.inr (.inr (some 54)), .inr (.inr (some 47))]) (rest := []) (la := [oR 54, oR 47]) hm252 ⟨⟨_, _, rfl⟩, rfl⟩ rfl rfl rfl rfl hm122 rfl rfl (fun _ => ⟨_, _, rfl, rfl⟩) rfl (Wp.mono h ?_)
      rintro _ m6 ⟨r6, rfl, h⟩
      change Wp _ _ 177 _ [.inl r6] _ _
      refine w_iload_n (q := 178) hm252 ⟨⟨_, _, rfl⟩, rfl⟩ rfl ?_
      refine w_call (q := 181) (n := 0) (vs := [.inl r6, .inl x1]) (rest := []) (la := [oI r6, oI x1]) hm252 ⟨⟨_, _, rfl⟩, rfl⟩ rfl rfl rfl rfl hm283 rfl rfl (fun hz => absurd hz (by decide)) rfl (Wp.mono h ?_)
      rintro _ m7 ⟨r7, rfl, h⟩
      change Wp _ _ 181 _ [.inl r7] _ _
      refine w_if_eq (q := 184) (X := r7.toInt) hm252 ⟨⟨_, _, rfl⟩, rfl⟩ rfl (fun hc => ?_) (fun hc => ?_)
      · have h := h.1 hc
        refine w_iconst (q := 189) hm252 ⟨⟨_, _, rfl⟩, rfl⟩ iconst_0 ?_
        exact w_reti hm252 ⟨⟨_, _, rfl⟩, rfl⟩ rfl h
      · have h := h.2 hc
        refine w_iconst (q := 185) hm252 ⟨⟨_, _, rfl⟩, rfl⟩ iconst_1 ?_
        refine w_goto (q := 189) hm252 ⟨_, _, rfl⟩ ?_
        exact w_reti hm252 ⟨⟨_, _, rfl⟩, rfl⟩ rfl h
    · have h := (h.2.2.2.2.2.2.2.2.2) hc
      change Wp _ _ 190 _ _ _ _
      refine w_iconst (q := 191) hm252 ⟨⟨_, _, rfl⟩, rfl⟩ iconst_m1 ?_
      exact w_reti hm252 ⟨⟨_, _, rfl⟩, rfl⟩ rfl h
  · have h := h.2 hc
    refine w_iconst (q := 9) hm252 ⟨⟨_, _, rfl⟩, rfl⟩ iconst_m1 ?_
    exact w_reti hm252 ⟨⟨_, _, rfl⟩, rfl⟩ rfl h
theorem v_X12_loadBy_70 {d : Nat} {x1 : Int32} {x2 : Int32} {m : dM} {Q : Int32 → dM → Prop} (h : j_X12_loadBy_70_5 (d + 1) x1 x2 (0 : Int32) (0 : Int32) m Q) : c_X12_loadBy_70 (d + 1) x1 x2 m Q := by
  refine w_iconst (q := 1) hm57 ⟨⟨_, _, rfl⟩, rfl⟩ iconst_0 ?_
  refine w_istore_n (q := 2) (l' := [oR 70, oI x1, oI x2, oI (0 : Int32), none]) hm57 ⟨⟨_, _, rfl⟩, rfl⟩ rfl rfl rfl ?_
  refine w_iconst (q := 3) hm57 ⟨⟨_, _, rfl⟩, rfl⟩ iconst_0 ?_
  refine w_istore (q := 5) (l' := [oR 70, oI x1, oI x2, oI (0 : Int32), oI (0 : Int32)]) hm57 ⟨⟨_, _, rfl⟩, rfl⟩ rfl rfl rfl ?_
  exact h
theorem v_X12_loadBy_70_5 {d : Nat} {x1 : Int32} {x2 : Int32} {x3 : Int32} {x4 : Int32} {m : dM} {Q : Int32 → dM → Prop} (h : ((0 ≤ (m.1 70 18).toInt ∧ (m.1 70 18).toInt < 2) ∧ (((m.1 86 (m.1 70 18).toNatClampNeg).toInt ≤ x4.toInt → Q x3 m) ∧ (x4.toInt < (m.1 86 (m.1 70 18).toNatClampNeg).toInt → ((((x2 >>> (x4 &&& 31)) &&& (1 : Int32)).toInt ≠ 1 → j_X12_loadBy_70_57 (d + 1) x1 x2 x3 x4 m Q) ∧ (((x2 >>> (x4 &&& 31)) &&& (1 : Int32)).toInt = 1 → c_X12_flatAt_70 d x4 m (fun r1 m1 => ((0 ≤ r1.toInt ∧ r1.toInt < 7) ∧ (((((m1.1 110 r1.toNatClampNeg) >>> (x1 &&& 31)) &&& (1 : Int32)).toInt ≠ 1 → j_X12_loadBy_70_57 (d + 1) x1 x2 x3 x4 m1 Q) ∧ ((((m1.1 110 r1.toNatClampNeg) >>> (x1 &&& 31)) &&& (1 : Int32)).toInt = 1 → c_X12_ampsAt_70 d x4 m1 (fun r2 m2 => j_X12_loadBy_70_57 (d + 1) x1 x2 (x3 + r2) x4 m2 Q))))))))))) : j_X12_loadBy_70_5 (d + 1) x1 x2 x3 x4 m Q := by
  refine w_iload (q := 7) hm57 ⟨⟨_, _, rfl⟩, rfl⟩ rfl ?_
  refine w_aload_n (q := 8) hm57 ⟨⟨_, _, rfl⟩, rfl⟩ rfl ?_
  refine w_getr (q := 11) hm57 ⟨⟨_, _, rfl⟩, rfl⟩ rfl ?_
  refine w_aload_n (q := 12) hm57 ⟨⟨_, _, rfl⟩, rfl⟩ rfl ?_
  refine w_getf (q := 15) (v := (m.1 70 18)) hm57 ⟨⟨_, _, rfl⟩, rfl⟩ rfl rfl ?_
  obtain ⟨hi, h⟩ := h
  refine w_iald (q := 16) (v := (m.1 86 (m.1 70 18).toNatClampNeg)) hm57 ⟨⟨_, _, rfl⟩, rfl⟩ rfl hi rfl rfl ?_
  refine w_icmp_ge (q := 19) (X := x4.toInt) (Y := (m.1 86 (m.1 70 18).toNatClampNeg).toInt) hm57 ⟨⟨_, _, rfl⟩, rfl⟩ rfl rfl (fun hc => ?_) (fun hc => ?_)
  · have h := h.1 hc
    refine w_iload_n (q := 64) hm57 ⟨⟨_, _, rfl⟩, rfl⟩ rfl ?_
    exact w_reti hm57 ⟨⟨_, _, rfl⟩, rfl⟩ rfl h
  · have h := h.2 hc
    refine w_iload_n (q := 20) hm57 ⟨⟨_, _, rfl⟩, rfl⟩ rfl ?_
    refine w_iload (q := 22) hm57 ⟨⟨_, _, rfl⟩, rfl⟩ rfl ?_
    refine w_ishr (q := 23) hm57 ⟨⟨_, _, rfl⟩, rfl⟩ ?_
    refine w_iconst (q := 24) hm57 ⟨⟨_, _, rfl⟩, rfl⟩ iconst_1 ?_
    refine w_iand (q := 25) hm57 ⟨⟨_, _, rfl⟩, rfl⟩ ?_
    refine w_iconst (q := 26) hm57 ⟨⟨_, _, rfl⟩, rfl⟩ iconst_1 ?_
    refine w_icmp_ne (q := 29) (X := ((x2 >>> (x4 &&& 31)) &&& (1 : Int32)).toInt) (Y := 1) hm57 ⟨⟨_, _, rfl⟩, rfl⟩ rfl (by decide) (fun hc => ?_) (fun hc => ?_)
    · have h := h.1 hc
      exact h
    · have h := h.2 hc
      refine w_aload_n (q := 30) hm57 ⟨⟨_, _, rfl⟩, rfl⟩ rfl ?_
      refine w_getr (q := 33) hm57 ⟨⟨_, _, rfl⟩, rfl⟩ rfl ?_
      refine w_aload_n (q := 34) hm57 ⟨⟨_, _, rfl⟩, rfl⟩ rfl ?_
      refine w_iload (q := 36) hm57 ⟨⟨_, _, rfl⟩, rfl⟩ rfl ?_
      refine w_call (q := 39) (n := 0) (vs := [.inr (.inr (some 70)), .inl x4]) (rest := [.inr (.inr (some 110))]) (la := [oR 70, oI x4]) hm57 ⟨⟨_, _, rfl⟩, rfl⟩ rfl rfl rfl rfl hm53 rfl rfl (fun _ => ⟨_, _, rfl, rfl⟩) rfl (Wp.mono h ?_)
      rintro _ m1 ⟨r1, rfl, h⟩
      change Wp _ _ 39 _ [.inl r1, .inr (.inr (some 110))] _ _
      obtain ⟨hi, h⟩ := h
      refine w_iald (q := 40) (v := (m1.1 110 r1.toNatClampNeg)) hm57 ⟨⟨_, _, rfl⟩, rfl⟩ rfl hi rfl rfl ?_
      refine w_iload_n (q := 41) hm57 ⟨⟨_, _, rfl⟩, rfl⟩ rfl ?_
      refine w_ishr (q := 42) hm57 ⟨⟨_, _, rfl⟩, rfl⟩ ?_
      refine w_iconst (q := 43) hm57 ⟨⟨_, _, rfl⟩, rfl⟩ iconst_1 ?_
      refine w_iand (q := 44) hm57 ⟨⟨_, _, rfl⟩, rfl⟩ ?_
      refine w_iconst (q := 45) hm57 ⟨⟨_, _, rfl⟩, rfl⟩ iconst_1 ?_
      refine w_icmp_ne (q := 48) (X := (((m1.1 110 r1.toNatClampNeg) >>> (x1 &&& 31)) &&& (1 : Int32)).toInt) (Y := 1) hm57 ⟨⟨_, _, rfl⟩, rfl⟩ rfl (by decide) (fun hc => ?_) (fun hc => ?_)
      · have h := h.1 hc
        exact h
      · have h := h.2 hc
        refine w_iload_n (q := 49) hm57 ⟨⟨_, _, rfl⟩, rfl⟩ rfl ?_
        refine w_aload_n (q := 50) hm57 ⟨⟨_, _, rfl⟩, rfl⟩ rfl ?_
        refine w_iload (q := 52) hm57 ⟨⟨_, _, rfl⟩, rfl⟩ rfl ?_
        refine w_call (q := 55) (n := 0) (vs := [.inr (.inr (some 70)), .inl x4]) (rest := [.inl x3]) (la := [oR 70, oI x4]) hm57 ⟨⟨_, _, rfl⟩, rfl⟩ rfl rfl rfl rfl hm54 rfl rfl (fun _ => ⟨_, _, rfl, rfl⟩) rfl (Wp.mono h ?_)
        rintro _ m2 ⟨r2, rfl, h⟩
        change Wp _ _ 55 _ [.inl r2, .inl x3] _ _
        refine w_iadd (q := 56) hm57 ⟨⟨_, _, rfl⟩, rfl⟩ ?_
        refine w_istore_n (q := 57) (l' := [oR 70, oI x1, oI x2, oI (x3 + r2), oI x4]) hm57 ⟨⟨_, _, rfl⟩, rfl⟩ rfl rfl rfl ?_
        exact h
theorem v_X12_loadBy_70_57 {d : Nat} {x1 : Int32} {x2 : Int32} {x3 : Int32} {x4 : Int32} {m : dM} {Q : Int32 → dM → Prop} (h : j_X12_loadBy_70_5 (d + 1) x1 x2 x3 (x4 + (1 : Int32)) m Q) : j_X12_loadBy_70_57 (d + 1) x1 x2 x3 x4 m Q := by
  refine w_iinc (q := 60) (l' := [oR 70, oI x1, oI x2, oI x3, oI (x4 + (1 : Int32))]) hm57 ⟨⟨_, _, rfl⟩, rfl⟩ rfl rfl rfl iconst_1 rfl ?_
  refine w_goto (q := 5) hm57 ⟨_, _, rfl⟩ ?_
  exact h
theorem v_X12_costsOf_70 {d : Nat} {x1 : Int32} {m : dM} {Q : Int32 → dM → Prop} (h : c_X12_looks_70 d ((m.1 108 55) - (m.1 108 55) / (24 : Int32) * (24 : Int32)) x1 m (fun m1 => ((0 ≤ x1.toInt ∧ x1.toInt < 58) ∧ ((0 ≤ ((20 : Int32) + x1).toInt ∧ ((20 : Int32) + x1).toInt < 58) ∧ c_X12_lawTells_70 d (2 : Int32) (m1.1 108 x1.toNatClampNeg) (dSet (dSet m1 105 1 (m1.1 108 x1.toNatClampNeg)) 105 2 (m1.1 108 ((20 : Int32) + x1).toNatClampNeg)) (fun r2 m2 => c_X12_within d r2 (0 : Int32) (99 : Int32) m2 (fun r3 m3 => Q r3 m3)))))) : c_X12_costsOf_70 (d + 1) x1 m Q := by
  refine w_aload_n (q := 1) hm63 ⟨⟨_, _, rfl⟩, rfl⟩ rfl ?_
  refine w_aload_n (q := 2) hm63 ⟨⟨_, _, rfl⟩, rfl⟩ rfl ?_
  refine w_getr (q := 5) hm63 ⟨⟨_, _, rfl⟩, rfl⟩ rfl ?_
  refine w_bipush (q := 7) hm63 ⟨⟨_, _, rfl⟩, rfl⟩ bipush_55 ?_
  refine w_iald (q := 8) (j := 55) (v := (m.1 108 55)) hm63 ⟨⟨_, _, rfl⟩, rfl⟩ rfl (by decide) (by decide) rfl ?_
  refine w_bipush (q := 10) hm63 ⟨⟨_, _, rfl⟩, rfl⟩ bipush_24 ?_
  refine w_irem (q := 11) hm63 ⟨⟨_, _, rfl⟩, rfl⟩ (by decide) ?_
  refine w_iload_n (q := 12) hm63 ⟨⟨_, _, rfl⟩, rfl⟩ rfl ?_
  refine w_call (q := 15) (n := 1) (vs := [.inr (.inr (some 70)), .inl ((m.1 108 55) - (m.1 108 55) / (24 : Int32) * (24 : Int32)), .inl x1]) (rest := []) (la := [oR 70, oI ((m.1 108 55) - (m.1 108 55) / (24 : Int32) * (24 : Int32)), oI x1, none]) hm63 ⟨⟨_, _, rfl⟩, rfl⟩ rfl rfl rfl rfl hm58 rfl rfl (fun _ => ⟨_, _, rfl, rfl⟩) rfl (Wp.mono h ?_)
  rintro _ m1 ⟨rfl, h⟩
  change Wp _ _ 15 _ [] _ _
  refine w_aload_n (q := 16) hm63 ⟨⟨_, _, rfl⟩, rfl⟩ rfl ?_
  refine w_getr (q := 19) hm63 ⟨⟨_, _, rfl⟩, rfl⟩ rfl ?_
  refine w_iconst (q := 20) hm63 ⟨⟨_, _, rfl⟩, rfl⟩ iconst_1 ?_
  refine w_aload_n (q := 21) hm63 ⟨⟨_, _, rfl⟩, rfl⟩ rfl ?_
  refine w_getr (q := 24) hm63 ⟨⟨_, _, rfl⟩, rfl⟩ rfl ?_
  refine w_iload_n (q := 25) hm63 ⟨⟨_, _, rfl⟩, rfl⟩ rfl ?_
  obtain ⟨hi, h⟩ := h
  refine w_iald (q := 26) (v := (m1.1 108 x1.toNatClampNeg)) hm63 ⟨⟨_, _, rfl⟩, rfl⟩ rfl hi rfl rfl ?_
  refine w_iast (q := 27) (j := 1) hm63 ⟨⟨_, _, rfl⟩, rfl⟩ rfl (by decide) (by decide) rfl ?_
  refine w_aload_n (q := 28) hm63 ⟨⟨_, _, rfl⟩, rfl⟩ rfl ?_
  refine w_getr (q := 31) hm63 ⟨⟨_, _, rfl⟩, rfl⟩ rfl ?_
  refine w_iconst (q := 32) hm63 ⟨⟨_, _, rfl⟩, rfl⟩ iconst_2 ?_
  refine w_aload_n (q := 33) hm63 ⟨⟨_, _, rfl⟩, rfl⟩ rfl ?_
  refine w_getr (q := 36) hm63 ⟨⟨_, _, rfl⟩, rfl⟩ rfl ?_
  refine w_bipush (q := 38) hm63 ⟨⟨_, _, rfl⟩, rfl⟩ bipush_20 ?_
  refine w_iload_n (q := 39) hm63 ⟨⟨_, _, rfl⟩, rfl⟩ rfl ?_
  refine w_iadd (q := 40) hm63 ⟨⟨_, _, rfl⟩, rfl⟩ ?_
  obtain ⟨hi, h⟩ := h
  refine w_iald (q := 41) (v := (m1.1 108 ((20 : Int32) + x1).toNatClampNeg)) hm63 ⟨⟨_, _, rfl⟩, rfl⟩ rfl hi rfl rfl ?_
  refine w_iast (q := 42) (j := 2) hm63 ⟨⟨_, _, rfl⟩, rfl⟩ rfl (by decide) (by decide) rfl ?_
  refine w_aload_n (q := 43) hm63 ⟨⟨_, _, rfl⟩, rfl⟩ rfl ?_
  refine w_iconst (q := 44) hm63 ⟨⟨_, _, rfl⟩, rfl⟩ iconst_2 ?_
  refine w_aload_n (q := 45) hm63 ⟨⟨_, _, rfl⟩, rfl⟩ rfl ?_
  refine w_getr (q := 48) hm63 ⟨⟨_, _, rfl⟩, rfl⟩ rfl ?_
  refine w_iconst (q := 49) hm63 ⟨⟨_, _, rfl⟩, rfl⟩ iconst_1 ?_
  refine w_iald (q := 50) (j := 1) (v := (m1.1 108 x1.toNatClampNeg)) hm63 ⟨⟨_, _, rfl⟩, rfl⟩ rfl (by decide) (by decide) rfl ?_
  refine w_call (q := 53) (n := 4) (vs := [.inr (.inr (some 70)), .inl (2 : Int32), .inl (m1.1 108 x1.toNatClampNeg)]) (rest := []) (la := [oR 70, oI (2 : Int32), oI (m1.1 108 x1.toNatClampNeg), none, none, none, none]) hm63 ⟨⟨_, _, rfl⟩, rfl⟩ rfl rfl rfl rfl hm59 rfl rfl (fun _ => ⟨_, _, rfl, rfl⟩) rfl (Wp.mono h ?_)
  rintro _ m2 ⟨r2, rfl, h⟩
  change Wp _ _ 53 _ [.inl r2] _ _
  refine w_iconst (q := 54) hm63 ⟨⟨_, _, rfl⟩, rfl⟩ iconst_0 ?_
  refine w_bipush (q := 56) hm63 ⟨⟨_, _, rfl⟩, rfl⟩ bipush_99 ?_
  refine w_call (q := 59) (n := 0) (vs := [.inl r2, .inl (0 : Int32), .inl (99 : Int32)]) (rest := []) (la := [oI r2, oI (0 : Int32), oI (99 : Int32)]) hm63 ⟨⟨_, _, rfl⟩, rfl⟩ rfl rfl rfl rfl hm37 rfl rfl (fun hz => absurd hz (by decide)) rfl (Wp.mono h ?_)
  rintro _ m3 ⟨r3, rfl, h⟩
  change Wp _ _ 59 _ [.inl r3] _ _
  exact w_reti hm63 ⟨⟨_, _, rfl⟩, rfl⟩ rfl h
theorem v_X12_doesGo_70 {d : Nat} {x1 : Int32} {x2 : Int32} {x3 : Int32} {x4 : Int32} {m : dM} {Q : Int32 → dM → Prop} (h : c_X12_isWhole_70 d x1 m (fun r1 m1 => ((r1.toInt = 0 → j_X12_doesGo_70_21 (d + 1) m1 Q) ∧ (r1.toInt ≠ 0 → ((0 ≤ ((30 : Int32) + x1).toInt ∧ ((30 : Int32) + x1).toInt < 58) ∧ (((m1.1 108 ((30 : Int32) + x1).toNatClampNeg).toInt ≠ 1 → c_X12_loadBy_70 d x1 x2 m1 (fun r2 m2 => ((r2.toInt ≠ 0 → c_X12_looks_70 d x3 x1 m2 (fun m3 => ((0 ≤ x1.toInt ∧ x1.toInt < 58) ∧ ((0 ≤ ((20 : Int32) + x1).toInt ∧ ((20 : Int32) + x1).toInt < 58) ∧ c_X12_lawTells_70 d (0 : Int32) ((r2 + x4) - (m3.1 108 x1.toNatClampNeg)) (dSet (dSet (dSet m3 105 0 (r2 + x4)) 105 1 (m3.1 108 x1.toNatClampNeg)) 105 2 (m3.1 108 ((20 : Int32) + x1).toNatClampNeg)) (fun r4 m4 => ((r4.toInt ≤ 0 → Q (0 : Int32) m4) ∧ (0 < r4.toInt → Q (1 : Int32) m4))))))) ∧ (r2.toInt = 0 → Q (0 : Int32) m2)))) ∧ ((m1.1 108 ((30 : Int32) + x1).toNatClampNeg).toInt = 1 → j_X12_doesGo_70_21 (d + 1) m1 Q))))))) : c_X12_doesGo_70 (d + 1) x1 x2 x3 x4 m Q := by
  refine w_aload_n (q := 1) hm60 ⟨⟨_, _, rfl⟩, rfl⟩ rfl ?_
  refine w_iload_n (q := 2) hm60 ⟨⟨_, _, rfl⟩, rfl⟩ rfl ?_
  refine w_call (q := 5) (n := 0) (vs := [.inr (.inr (some 70)), .inl x1]) (rest := []) (la := [oR 70, oI x1]) hm60 ⟨⟨_, _, rfl⟩, rfl⟩ rfl rfl rfl rfl hm47 rfl rfl (fun _ => ⟨_, _, rfl, rfl⟩) rfl (Wp.mono h ?_)
  rintro _ m1 ⟨r1, rfl, h⟩
  change Wp _ _ 5 _ [.inl r1] _ _
  refine w_if_eq (q := 8) (X := r1.toInt) hm60 ⟨⟨_, _, rfl⟩, rfl⟩ rfl (fun hc => ?_) (fun hc => ?_)
  · have h := h.1 hc
    exact Wp.wk [false, false, false, false, false, false] h
  · have h := h.2 hc
    refine w_aload_n (q := 9) hm60 ⟨⟨_, _, rfl⟩, rfl⟩ rfl ?_
    refine w_getr (q := 12) hm60 ⟨⟨_, _, rfl⟩, rfl⟩ rfl ?_
    refine w_bipush (q := 14) hm60 ⟨⟨_, _, rfl⟩, rfl⟩ bipush_30 ?_
    refine w_iload_n (q := 15) hm60 ⟨⟨_, _, rfl⟩, rfl⟩ rfl ?_
    refine w_iadd (q := 16) hm60 ⟨⟨_, _, rfl⟩, rfl⟩ ?_
    obtain ⟨hi, h⟩ := h
    refine w_iald (q := 17) (v := (m1.1 108 ((30 : Int32) + x1).toNatClampNeg)) hm60 ⟨⟨_, _, rfl⟩, rfl⟩ rfl hi rfl rfl ?_
    refine w_iconst (q := 18) hm60 ⟨⟨_, _, rfl⟩, rfl⟩ iconst_1 ?_
    refine w_icmp_ne (q := 21) (X := (m1.1 108 ((30 : Int32) + x1).toNatClampNeg).toInt) (Y := 1) hm60 ⟨⟨_, _, rfl⟩, rfl⟩ rfl (by decide) (fun hc => ?_) (fun hc => ?_)
    · have h := h.1 hc
      refine w_aload_n (q := 24) hm60 ⟨⟨_, _, rfl⟩, rfl⟩ rfl ?_
      refine w_iload_n (q := 25) hm60 ⟨⟨_, _, rfl⟩, rfl⟩ rfl ?_
      refine w_iload_n (q := 26) hm60 ⟨⟨_, _, rfl⟩, rfl⟩ rfl ?_
      refine w_call (q := 29) (n := 2) (vs := [.inr (.inr (some 70)), .inl x1, .inl x2]) (rest := []) (la := [oR 70, oI x1, oI x2, none, none]) hm60 ⟨⟨_, _, rfl⟩, rfl⟩ rfl rfl rfl rfl hm57 rfl rfl (fun _ => ⟨_, _, rfl, rfl⟩) rfl (Wp.mono h ?_)
      rintro _ m2 ⟨r2, rfl, h⟩
      change Wp _ _ 29 _ [.inl r2] _ _
      refine w_istore (q := 31) (l' := [oR 70, oI x1, oI x2, oI x3, oI x4, oI r2]) hm60 ⟨⟨_, _, rfl⟩, rfl⟩ rfl rfl rfl ?_
      refine w_iload (q := 33) hm60 ⟨⟨_, _, rfl⟩, rfl⟩ rfl ?_
      refine w_if_ne (q := 36) (X := r2.toInt) hm60 ⟨⟨_, _, rfl⟩, rfl⟩ rfl (fun hc => ?_) (fun hc => ?_)
      · have h := h.1 hc
        refine w_aload_n (q := 39) hm60 ⟨⟨_, _, rfl⟩, rfl⟩ rfl ?_
        refine w_iload_n (q := 40) hm60 ⟨⟨_, _, rfl⟩, rfl⟩ rfl ?_
        refine w_iload_n (q := 41) hm60 ⟨⟨_, _, rfl⟩, rfl⟩ rfl ?_
        refine w_call (q := 44) (n := 1) (vs := [.inr (.inr (some 70)), .inl x3, .inl x1]) (rest := []) (la := [oR 70, oI x3, oI x1, none]) hm60 ⟨⟨_, _, rfl⟩, rfl⟩ rfl rfl rfl rfl hm58 rfl rfl (fun _ => ⟨_, _, rfl, rfl⟩) rfl (Wp.mono h ?_)
        rintro _ m3 ⟨rfl, h⟩
        change Wp _ _ 44 _ [] _ _
        refine w_aload_n (q := 45) hm60 ⟨⟨_, _, rfl⟩, rfl⟩ rfl ?_
        refine w_getr (q := 48) hm60 ⟨⟨_, _, rfl⟩, rfl⟩ rfl ?_
        refine w_iconst (q := 49) hm60 ⟨⟨_, _, rfl⟩, rfl⟩ iconst_0 ?_
        refine w_iload (q := 51) hm60 ⟨⟨_, _, rfl⟩, rfl⟩ rfl ?_
        refine w_iload (q := 53) hm60 ⟨⟨_, _, rfl⟩, rfl⟩ rfl ?_
        refine w_iadd (q := 54) hm60 ⟨⟨_, _, rfl⟩, rfl⟩ ?_
        refine w_iast (q := 55) (j := 0) hm60 ⟨⟨_, _, rfl⟩, rfl⟩ rfl (by decide) (by decide) rfl ?_
        refine w_aload_n (q := 56) hm60 ⟨⟨_, _, rfl⟩, rfl⟩ rfl ?_
        refine w_getr (q := 59) hm60 ⟨⟨_, _, rfl⟩, rfl⟩ rfl ?_
        refine w_iconst (q := 60) hm60 ⟨⟨_, _, rfl⟩, rfl⟩ iconst_1 ?_
        refine w_aload_n (q := 61) hm60 ⟨⟨_, _, rfl⟩, rfl⟩ rfl ?_
        refine w_getr (q := 64) hm60 ⟨⟨_, _, rfl⟩, rfl⟩ rfl ?_
        refine w_iload_n (q := 65) hm60 ⟨⟨_, _, rfl⟩, rfl⟩ rfl ?_
        obtain ⟨hi, h⟩ := h
        refine w_iald (q := 66) (v := (m3.1 108 x1.toNatClampNeg)) hm60 ⟨⟨_, _, rfl⟩, rfl⟩ rfl hi rfl rfl ?_
        refine w_iast (q := 67) (j := 1) hm60 ⟨⟨_, _, rfl⟩, rfl⟩ rfl (by decide) (by decide) rfl ?_
        refine w_aload_n (q := 68) hm60 ⟨⟨_, _, rfl⟩, rfl⟩ rfl ?_
        refine w_getr (q := 71) hm60 ⟨⟨_, _, rfl⟩, rfl⟩ rfl ?_
        refine w_iconst (q := 72) hm60 ⟨⟨_, _, rfl⟩, rfl⟩ iconst_2 ?_
        refine w_aload_n (q := 73) hm60 ⟨⟨_, _, rfl⟩, rfl⟩ rfl ?_
        refine w_getr (q := 76) hm60 ⟨⟨_, _, rfl⟩, rfl⟩ rfl ?_
        refine w_bipush (q := 78) hm60 ⟨⟨_, _, rfl⟩, rfl⟩ bipush_20 ?_
        refine w_iload_n (q := 79) hm60 ⟨⟨_, _, rfl⟩, rfl⟩ rfl ?_
        refine w_iadd (q := 80) hm60 ⟨⟨_, _, rfl⟩, rfl⟩ ?_
        obtain ⟨hi, h⟩ := h
        refine w_iald (q := 81) (v := (m3.1 108 ((20 : Int32) + x1).toNatClampNeg)) hm60 ⟨⟨_, _, rfl⟩, rfl⟩ rfl hi rfl rfl ?_
        refine w_iast (q := 82) (j := 2) hm60 ⟨⟨_, _, rfl⟩, rfl⟩ rfl (by decide) (by decide) rfl ?_
        refine w_aload_n (q := 83) hm60 ⟨⟨_, _, rfl⟩, rfl⟩ rfl ?_
        refine w_iconst (q := 84) hm60 ⟨⟨_, _, rfl⟩, rfl⟩ iconst_0 ?_
        refine w_aload_n (q := 85) hm60 ⟨⟨_, _, rfl⟩, rfl⟩ rfl ?_
        refine w_getr (q := 88) hm60 ⟨⟨_, _, rfl⟩, rfl⟩ rfl ?_
        refine w_iconst (q := 89) hm60 ⟨⟨_, _, rfl⟩, rfl⟩ iconst_0 ?_
        refine w_iald (q := 90) (j := 0) (v := (r2 + x4)) hm60 ⟨⟨_, _, rfl⟩, rfl⟩ rfl (by decide) (by decide) rfl ?_
        refine w_aload_n (q := 91) hm60 ⟨⟨_, _, rfl⟩, rfl⟩ rfl ?_
        refine w_getr (q := 94) hm60 ⟨⟨_, _, rfl⟩, rfl⟩ rfl ?_
        refine w_iconst (q := 95) hm60 ⟨⟨_, _, rfl⟩, rfl⟩ iconst_1 ?_
        refine w_iald (q := 96) (j := 1) (v := (m3.1 108 x1.toNatClampNeg)) hm60 ⟨⟨_, _, rfl⟩, rfl⟩ rfl (by decide) (by decide) rfl ?_
        refine w_isub (q := 97) hm60 ⟨⟨_, _, rfl⟩, rfl⟩ ?_
        refine w_call (q := 100) (n := 4) (vs := [.inr (.inr (some 70)), .inl (0 : Int32), .inl ((r2 + x4) - (m3.1 108 x1.toNatClampNeg))]) (rest := []) (la := [oR 70, oI (0 : Int32), oI ((r2 + x4) - (m3.1 108 x1.toNatClampNeg)), none, none, none, none]) hm60 ⟨⟨_, _, rfl⟩, rfl⟩ rfl rfl rfl rfl hm59 rfl rfl (fun _ => ⟨_, _, rfl, rfl⟩) rfl (Wp.mono h ?_)
        rintro _ m4 ⟨r4, rfl, h⟩
        change Wp _ _ 100 _ [.inl r4] _ _
        refine w_if_le (q := 103) (X := r4.toInt) hm60 ⟨⟨_, _, rfl⟩, rfl⟩ rfl (fun hc => ?_) (fun hc => ?_)
        · have h := h.1 hc
          refine w_iconst (q := 108) hm60 ⟨⟨_, _, rfl⟩, rfl⟩ iconst_0 ?_
          exact w_retz hm60 ⟨⟨_, _, rfl⟩, rfl⟩ rfl (by decide) h
        · have h := h.2 hc
          refine w_iconst (q := 104) hm60 ⟨⟨_, _, rfl⟩, rfl⟩ iconst_1 ?_
          refine w_goto (q := 108) hm60 ⟨_, _, rfl⟩ ?_
          exact w_retz hm60 ⟨⟨_, _, rfl⟩, rfl⟩ rfl (by decide) h
      · have h := h.2 hc
        refine w_iconst (q := 37) hm60 ⟨⟨_, _, rfl⟩, rfl⟩ iconst_0 ?_
        exact w_retz hm60 ⟨⟨_, _, rfl⟩, rfl⟩ rfl (by decide) h
    · have h := h.2 hc
      exact Wp.wk [false, false, false, false, false, false] h
theorem v_X12_doesGo_70_21 {d : Nat} {m : dM} {Q : Int32 → dM → Prop} (h : Q (0 : Int32) m) : j_X12_doesGo_70_21 (d + 1) m Q := by
  refine w_iconst (q := 22) hm60 ⟨⟨_, _, rfl⟩, rfl⟩ iconst_0 ?_
  exact w_retz hm60 ⟨⟨_, _, rfl⟩, rfl⟩ rfl (by decide) h
