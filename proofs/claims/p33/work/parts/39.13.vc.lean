theorem v_X11_cut_0 {d : Nat} {x1 : Int32} {x2 : Int32} {m : dM} {Q : Int32 → dM → Prop} (h : c_X11_isFlat_0 d x1 m (fun r1 m1 => ((r1.toInt = 0 → j_X11_cut_0_18 (d + 1) m1 Q) ∧ (r1.toInt ≠ 0 → ((x2.toInt < (-1) → j_X11_cut_0_18 (d + 1) m1 Q) ∧ ((-1) ≤ x2.toInt → ((x2.toInt < 3 → c_X1_leastCut_61_47 d x1 m1 (fun r2 m2 => ((0 ≤ r2.toInt → ((x2.toInt ≠ (-1) → c_X11_bitAt d r2 x2 m2 (fun r3 m3 => Q r3 m3)) ∧ (x2.toInt = (-1) → c_J6_bitCount d r2 m2 (fun r4 m4 => Q r4 m4)))) ∧ (r2.toInt < 0 → Q (-2 : Int32) m2)))) ∧ (3 ≤ x2.toInt → j_X11_cut_0_18 (d + 1) m1 Q)))))))) : c_X11_cut_0 (d + 1) x1 x2 m Q := by
  refine w_aload_n (q := 1) hm266 ⟨⟨_, _, rfl⟩, rfl⟩ rfl ?_
  refine w_iload_n (q := 2) hm266 ⟨⟨_, _, rfl⟩, rfl⟩ rfl ?_
  refine w_call (q := 5) (n := 0) (vs := [.inr (.inr (some 0)), .inl x1]) (rest := []) (la := [oR 0, oI x1]) hm266 ⟨⟨_, _, rfl⟩, rfl⟩ rfl rfl rfl rfl hm248 rfl rfl (fun _ => ⟨_, _, rfl, rfl⟩) rfl (Wp.mono h ?_)
  rintro _ m1 ⟨r1, rfl, h⟩
  change Wp _ _ 5 _ [.inl r1] _ _
  refine w_if_eq (q := 8) (X := r1.toInt) hm266 ⟨⟨_, _, rfl⟩, rfl⟩ rfl (fun hc => ?_) (fun hc => ?_)
  · have h := h.1 hc
    exact Wp.wk [false, false, false, false] h
  · have h := h.2 hc
    refine w_iload_n (q := 9) hm266 ⟨⟨_, _, rfl⟩, rfl⟩ rfl ?_
    refine w_iconst (q := 10) hm266 ⟨⟨_, _, rfl⟩, rfl⟩ iconst_m1 ?_
    refine w_icmp_lt (q := 13) (X := x2.toInt) (Y := (-1)) hm266 ⟨⟨_, _, rfl⟩, rfl⟩ rfl (by decide) (fun hc => ?_) (fun hc => ?_)
    · have h := h.1 hc
      exact Wp.wk [false, false, false, false] h
    · have h := h.2 hc
      refine w_iload_n (q := 14) hm266 ⟨⟨_, _, rfl⟩, rfl⟩ rfl ?_
      refine w_iconst (q := 15) hm266 ⟨⟨_, _, rfl⟩, rfl⟩ iconst_3 ?_
      refine w_icmp_lt (q := 18) (X := x2.toInt) (Y := 3) hm266 ⟨⟨_, _, rfl⟩, rfl⟩ rfl (by decide) (fun hc => ?_) (fun hc => ?_)
      · have h := h.1 hc
        refine w_aload_n (q := 21) hm266 ⟨⟨_, _, rfl⟩, rfl⟩ rfl ?_
        refine w_getr (q := 24) hm266 ⟨⟨_, _, rfl⟩, rfl⟩ rfl ?_
        refine w_aload_n (q := 25) hm266 ⟨⟨_, _, rfl⟩, rfl⟩ rfl ?_
        refine w_getr (q := 28) hm266 ⟨⟨_, _, rfl⟩, rfl⟩ rfl ?_
        refine w_iload_n (q := 29) hm266 ⟨⟨_, _, rfl⟩, rfl⟩ rfl ?_
        refine w_call (q := 32) (n := 2) (vs := [.inr (.inr (some 61)), .inr (.inr (some 47)), .inl x1]) (rest := []) (la := [oR 61, oR 47, oI x1, none, none]) hm266 ⟨⟨_, _, rfl⟩, rfl⟩ rfl rfl rfl rfl hm147 rfl rfl (fun _ => ⟨_, _, rfl, rfl⟩) rfl (Wp.mono h ?_)
        rintro _ m2 ⟨r2, rfl, h⟩
        change Wp _ _ 32 _ [.inl r2] _ _
        refine w_istore_n (q := 33) (l' := [oR 0, oI x1, oI x2, oI r2]) hm266 ⟨⟨_, _, rfl⟩, rfl⟩ rfl rfl rfl ?_
        refine w_iload_n (q := 34) hm266 ⟨⟨_, _, rfl⟩, rfl⟩ rfl ?_
        refine w_if_ge (q := 37) (X := r2.toInt) hm266 ⟨⟨_, _, rfl⟩, rfl⟩ rfl (fun hc => ?_) (fun hc => ?_)
        · have h := h.1 hc
          refine w_iload_n (q := 41) hm266 ⟨⟨_, _, rfl⟩, rfl⟩ rfl ?_
          refine w_iconst (q := 42) hm266 ⟨⟨_, _, rfl⟩, rfl⟩ iconst_m1 ?_
          refine w_icmp_ne (q := 45) (X := x2.toInt) (Y := (-1)) hm266 ⟨⟨_, _, rfl⟩, rfl⟩ rfl (by decide) (fun hc => ?_) (fun hc => ?_)
          · have h := h.1 hc
            refine w_iload_n (q := 53) hm266 ⟨⟨_, _, rfl⟩, rfl⟩ rfl ?_
            refine w_iload_n (q := 54) hm266 ⟨⟨_, _, rfl⟩, rfl⟩ rfl ?_
            refine w_call (q := 57) (n := 2) (vs := [.inl r2, .inl x2]) (rest := []) (la := [oI r2, oI x2, none, none]) hm266 ⟨⟨_, _, rfl⟩, rfl⟩ rfl rfl rfl rfl hm284 rfl rfl (fun hz => absurd hz (by decide)) rfl (Wp.mono h ?_)
            rintro _ m3 ⟨r3, rfl, h⟩
            change Wp _ _ 57 _ [.inl r3] _ _
            exact w_reti hm266 ⟨⟨_, _, rfl⟩, rfl⟩ rfl h
          · have h := h.2 hc
            refine w_iload_n (q := 46) hm266 ⟨⟨_, _, rfl⟩, rfl⟩ rfl ?_
            refine w_call (q := 49) (n := 0) (vs := [.inl r2]) (rest := []) (la := [oI r2]) hm266 ⟨⟨_, _, rfl⟩, rfl⟩ rfl rfl rfl rfl hm285 rfl rfl (fun hz => absurd hz (by decide)) rfl (Wp.mono h ?_)
            rintro _ m4 ⟨r4, rfl, h⟩
            change Wp _ _ 49 _ [.inl r4] _ _
            refine w_goto (q := 57) hm266 ⟨_, _, rfl⟩ ?_
            exact w_reti hm266 ⟨⟨_, _, rfl⟩, rfl⟩ rfl h
        · have h := h.2 hc
          refine w_bipush (q := 39) hm266 ⟨⟨_, _, rfl⟩, rfl⟩ bipush_m2 ?_
          exact w_reti hm266 ⟨⟨_, _, rfl⟩, rfl⟩ rfl h
      · have h := h.2 hc
        exact Wp.wk [false, false, false, false] h
theorem v_X11_cut_0_18 {d : Nat} {m : dM} {Q : Int32 → dM → Prop} (h : Q (-1 : Int32) m) : j_X11_cut_0_18 (d + 1) m Q := by
  refine w_iconst (q := 19) hm266 ⟨⟨_, _, rfl⟩, rfl⟩ iconst_m1 ?_
  exact w_reti hm266 ⟨⟨_, _, rfl⟩, rfl⟩ rfl h
theorem v_X12_goneBits_70 {d : Nat} {m : dM} {Q : Int32 → dM → Prop} (h : j_X12_goneBits_70_4 (d + 1) (0 : Int32) (0 : Int32) m Q) : c_X12_goneBits_70 (d + 1) m Q := by
  refine w_iconst (q := 1) hm93 ⟨⟨_, _, rfl⟩, rfl⟩ iconst_0 ?_
  refine w_istore_n (q := 2) (l' := [oR 70, oI (0 : Int32), none]) hm93 ⟨⟨_, _, rfl⟩, rfl⟩ rfl rfl rfl ?_
  refine w_iconst (q := 3) hm93 ⟨⟨_, _, rfl⟩, rfl⟩ iconst_0 ?_
  refine w_istore_n (q := 4) (l' := [oR 70, oI (0 : Int32), oI (0 : Int32)]) hm93 ⟨⟨_, _, rfl⟩, rfl⟩ rfl rfl rfl ?_
  exact h
theorem v_X12_goneBits_70_4 {d : Nat} {x1 : Int32} {x2 : Int32} {m : dM} {Q : Int32 → dM → Prop} (h : ((0 ≤ (m.1 70 18).toInt ∧ (m.1 70 18).toInt < 2) ∧ (((m.1 82 (m.1 70 18).toNatClampNeg).toInt ≤ x2.toInt → Q x1 m) ∧ (x2.toInt < (m.1 82 (m.1 70 18).toNatClampNeg).toInt → ((0 ≤ ((10 : Int32) + x2).toInt ∧ ((10 : Int32) + x2).toInt < 58) ∧ (((m.1 107 ((10 : Int32) + x2).toNatClampNeg).toInt ≠ 1 → j_X12_goneBits_70_36 (d + 1) x1 x2 m Q) ∧ ((m.1 107 ((10 : Int32) + x2).toNatClampNeg).toInt = 1 → j_X12_goneBits_70_36 (d + 1) (x1 ||| ((1 : Int32) <<< (x2 &&& 31))) x2 m Q))))))) : j_X12_goneBits_70_4 (d + 1) x1 x2 m Q := by
  refine w_iload_n (q := 5) hm93 ⟨⟨_, _, rfl⟩, rfl⟩ rfl ?_
  refine w_aload_n (q := 6) hm93 ⟨⟨_, _, rfl⟩, rfl⟩ rfl ?_
  refine w_getr (q := 9) hm93 ⟨⟨_, _, rfl⟩, rfl⟩ rfl ?_
  refine w_aload_n (q := 10) hm93 ⟨⟨_, _, rfl⟩, rfl⟩ rfl ?_
  refine w_getf (q := 13) (v := (m.1 70 18)) hm93 ⟨⟨_, _, rfl⟩, rfl⟩ rfl rfl ?_
  obtain ⟨hi, h⟩ := h
  refine w_iald (q := 14) (v := (m.1 82 (m.1 70 18).toNatClampNeg)) hm93 ⟨⟨_, _, rfl⟩, rfl⟩ rfl hi rfl rfl ?_
  refine w_icmp_ge (q := 17) (X := x2.toInt) (Y := (m.1 82 (m.1 70 18).toNatClampNeg).toInt) hm93 ⟨⟨_, _, rfl⟩, rfl⟩ rfl rfl (fun hc => ?_) (fun hc => ?_)
  · have h := h.1 hc
    refine w_iload_n (q := 43) hm93 ⟨⟨_, _, rfl⟩, rfl⟩ rfl ?_
    exact w_reti hm93 ⟨⟨_, _, rfl⟩, rfl⟩ rfl h
  · have h := h.2 hc
    refine w_aload_n (q := 18) hm93 ⟨⟨_, _, rfl⟩, rfl⟩ rfl ?_
    refine w_getr (q := 21) hm93 ⟨⟨_, _, rfl⟩, rfl⟩ rfl ?_
    refine w_bipush (q := 23) hm93 ⟨⟨_, _, rfl⟩, rfl⟩ bipush_10 ?_
    refine w_iload_n (q := 24) hm93 ⟨⟨_, _, rfl⟩, rfl⟩ rfl ?_
    refine w_iadd (q := 25) hm93 ⟨⟨_, _, rfl⟩, rfl⟩ ?_
    obtain ⟨hi, h⟩ := h
    refine w_iald (q := 26) (v := (m.1 107 ((10 : Int32) + x2).toNatClampNeg)) hm93 ⟨⟨_, _, rfl⟩, rfl⟩ rfl hi rfl rfl ?_
    refine w_iconst (q := 27) hm93 ⟨⟨_, _, rfl⟩, rfl⟩ iconst_1 ?_
    refine w_icmp_ne (q := 30) (X := (m.1 107 ((10 : Int32) + x2).toNatClampNeg).toInt) (Y := 1) hm93 ⟨⟨_, _, rfl⟩, rfl⟩ rfl (by decide) (fun hc => ?_) (fun hc => ?_)
    · have h := h.1 hc
      exact h
    · have h := h.2 hc
      refine w_iload_n (q := 31) hm93 ⟨⟨_, _, rfl⟩, rfl⟩ rfl ?_
      refine w_iconst (q := 32) hm93 ⟨⟨_, _, rfl⟩, rfl⟩ iconst_1 ?_
      refine w_iload_n (q := 33) hm93 ⟨⟨_, _, rfl⟩, rfl⟩ rfl ?_
      refine w_ishl (q := 34) hm93 ⟨⟨_, _, rfl⟩, rfl⟩ ?_
      refine w_ior (q := 35) hm93 ⟨⟨_, _, rfl⟩, rfl⟩ ?_
      refine w_istore_n (q := 36) (l' := [oR 70, oI (x1 ||| ((1 : Int32) <<< (x2 &&& 31))), oI x2]) hm93 ⟨⟨_, _, rfl⟩, rfl⟩ rfl rfl rfl ?_
      exact h
theorem v_X12_goneBits_70_36 {d : Nat} {x1 : Int32} {x2 : Int32} {m : dM} {Q : Int32 → dM → Prop} (h : j_X12_goneBits_70_4 (d + 1) x1 (x2 + (1 : Int32)) m Q) : j_X12_goneBits_70_36 (d + 1) x1 x2 m Q := by
  refine w_iinc (q := 39) (l' := [oR 70, oI x1, oI (x2 + (1 : Int32))]) hm93 ⟨⟨_, _, rfl⟩, rfl⟩ rfl rfl rfl iconst_1 rfl ?_
  refine w_goto (q := 4) hm93 ⟨_, _, rfl⟩ ?_
  exact h
theorem v_X12_ithOf {d : Nat} {x0 : Int32} {x1 : Int32} {m : dM} {Q : Int32 → dM → Prop} (h : j_X12_ithOf_4 (d + 1) x0 x1 (0 : Int32) (0 : Int32) m Q) : c_X12_ithOf (d + 1) x0 x1 m Q := by
  refine w_iconst (q := 1) hm94 ⟨⟨_, _, rfl⟩, rfl⟩ iconst_0 ?_
  refine w_istore_n (q := 2) (l' := [oI x0, oI x1, oI (0 : Int32), none]) hm94 ⟨⟨_, _, rfl⟩, rfl⟩ rfl rfl rfl ?_
  refine w_iconst (q := 3) hm94 ⟨⟨_, _, rfl⟩, rfl⟩ iconst_0 ?_
  refine w_istore_n (q := 4) (l' := [oI x0, oI x1, oI (0 : Int32), oI (0 : Int32)]) hm94 ⟨⟨_, _, rfl⟩, rfl⟩ rfl rfl rfl ?_
  exact h
theorem v_X12_ithOf_4 {d : Nat} {x0 : Int32} {x1 : Int32} {x2 : Int32} {x3 : Int32} {m : dM} {Q : Int32 → dM → Prop} (h : ((10 ≤ x3.toInt → Q (-1 : Int32) m) ∧ (x3.toInt < 10 → ((((x0 >>> (x3 &&& 31)) &&& (1 : Int32)).toInt ≠ 0 → ((x2.toInt ≠ x1.toInt → j_X12_ithOf_31 (d + 1) x0 x1 (x2 + (1 : Int32)) x3 m Q) ∧ (x2.toInt = x1.toInt → Q x3 m))) ∧ (((x0 >>> (x3 &&& 31)) &&& (1 : Int32)).toInt = 0 → j_X12_ithOf_31 (d + 1) x0 x1 x2 x3 m Q))))) : j_X12_ithOf_4 (d + 1) x0 x1 x2 x3 m Q := by
  refine w_iload_n (q := 5) hm94 ⟨⟨_, _, rfl⟩, rfl⟩ rfl ?_
  refine w_bipush (q := 7) hm94 ⟨⟨_, _, rfl⟩, rfl⟩ bipush_10 ?_
  refine w_icmp_ge (q := 10) (X := x3.toInt) (Y := 10) hm94 ⟨⟨_, _, rfl⟩, rfl⟩ rfl (by decide) (fun hc => ?_) (fun hc => ?_)
  · have h := h.1 hc
    refine w_iconst (q := 38) hm94 ⟨⟨_, _, rfl⟩, rfl⟩ iconst_m1 ?_
    exact w_reti hm94 ⟨⟨_, _, rfl⟩, rfl⟩ rfl h
  · have h := h.2 hc
    refine w_iload_n (q := 11) hm94 ⟨⟨_, _, rfl⟩, rfl⟩ rfl ?_
    refine w_iload_n (q := 12) hm94 ⟨⟨_, _, rfl⟩, rfl⟩ rfl ?_
    refine w_ishr (q := 13) hm94 ⟨⟨_, _, rfl⟩, rfl⟩ ?_
    refine w_iconst (q := 14) hm94 ⟨⟨_, _, rfl⟩, rfl⟩ iconst_1 ?_
    refine w_iand (q := 15) hm94 ⟨⟨_, _, rfl⟩, rfl⟩ ?_
    refine w_if_ne (q := 18) (X := ((x0 >>> (x3 &&& 31)) &&& (1 : Int32)).toInt) hm94 ⟨⟨_, _, rfl⟩, rfl⟩ rfl (fun hc => ?_) (fun hc => ?_)
    · have h := h.1 hc
      refine w_iload_n (q := 22) hm94 ⟨⟨_, _, rfl⟩, rfl⟩ rfl ?_
      refine w_iload_n (q := 23) hm94 ⟨⟨_, _, rfl⟩, rfl⟩ rfl ?_
      refine w_icmp_ne (q := 26) (X := x2.toInt) (Y := x1.toInt) hm94 ⟨⟨_, _, rfl⟩, rfl⟩ rfl rfl (fun hc => ?_) (fun hc => ?_)
      · have h := h.1 hc
        refine w_iinc (q := 31) (l' := [oI x0, oI x1, oI (x2 + (1 : Int32)), oI x3]) hm94 ⟨⟨_, _, rfl⟩, rfl⟩ rfl rfl rfl iconst_1 rfl ?_
        exact h
      · have h := h.2 hc
        refine w_iload_n (q := 27) hm94 ⟨⟨_, _, rfl⟩, rfl⟩ rfl ?_
        exact w_reti hm94 ⟨⟨_, _, rfl⟩, rfl⟩ rfl h
    · have h := h.2 hc
      refine w_goto (q := 31) hm94 ⟨_, _, rfl⟩ ?_
      exact h
theorem v_X12_ithOf_31 {d : Nat} {x0 : Int32} {x1 : Int32} {x2 : Int32} {x3 : Int32} {m : dM} {Q : Int32 → dM → Prop} (h : j_X12_ithOf_4 (d + 1) x0 x1 x2 (x3 + (1 : Int32)) m Q) : j_X12_ithOf_31 (d + 1) x0 x1 x2 x3 m Q := by
  refine w_iinc (q := 34) (l' := [oI x0, oI x1, oI x2, oI (x3 + (1 : Int32))]) hm94 ⟨⟨_, _, rfl⟩, rfl⟩ rfl rfl rfl iconst_1 rfl ?_
  refine w_goto (q := 4) hm94 ⟨_, _, rfl⟩ ?_
  exact h
theorem v_X12_bits {d : Nat} {x0 : Int32} {m : dM} {Q : Int32 → dM → Prop} (h : j_X12_bits_4 (d + 1) x0 (0 : Int32) (0 : Int32) m Q) : c_X12_bits (d + 1) x0 m Q := by
  refine w_iconst (q := 1) hm38 ⟨⟨_, _, rfl⟩, rfl⟩ iconst_0 ?_
  refine w_istore_n (q := 2) (l' := [oI x0, oI (0 : Int32), none]) hm38 ⟨⟨_, _, rfl⟩, rfl⟩ rfl rfl rfl ?_
  refine w_iconst (q := 3) hm38 ⟨⟨_, _, rfl⟩, rfl⟩ iconst_0 ?_
  refine w_istore_n (q := 4) (l' := [oI x0, oI (0 : Int32), oI (0 : Int32)]) hm38 ⟨⟨_, _, rfl⟩, rfl⟩ rfl rfl rfl ?_
  exact h
theorem v_X12_bits_4 {d : Nat} {x0 : Int32} {x1 : Int32} {x2 : Int32} {m : dM} {Q : Int32 → dM → Prop} (h : ((10 ≤ x2.toInt → Q x1 m) ∧ (x2.toInt < 10 → j_X12_bits_4 (d + 1) x0 (x1 + ((x0 >>> (x2 &&& 31)) &&& (1 : Int32))) (x2 + (1 : Int32)) m Q))) : j_X12_bits_4 (d + 1) x0 x1 x2 m Q := by
  refine w_iload_n (q := 5) hm38 ⟨⟨_, _, rfl⟩, rfl⟩ rfl ?_
  refine w_bipush (q := 7) hm38 ⟨⟨_, _, rfl⟩, rfl⟩ bipush_10 ?_
  refine w_icmp_ge (q := 10) (X := x2.toInt) (Y := 10) hm38 ⟨⟨_, _, rfl⟩, rfl⟩ rfl (by decide) (fun hc => ?_) (fun hc => ?_)
  · have h := h.1 hc
    refine w_iload_n (q := 25) hm38 ⟨⟨_, _, rfl⟩, rfl⟩ rfl ?_
    exact w_reti hm38 ⟨⟨_, _, rfl⟩, rfl⟩ rfl h
  · have h := h.2 hc
    refine w_iload_n (q := 11) hm38 ⟨⟨_, _, rfl⟩, rfl⟩ rfl ?_
    refine w_iload_n (q := 12) hm38 ⟨⟨_, _, rfl⟩, rfl⟩ rfl ?_
    refine w_iload_n (q := 13) hm38 ⟨⟨_, _, rfl⟩, rfl⟩ rfl ?_
    refine w_ishr (q := 14) hm38 ⟨⟨_, _, rfl⟩, rfl⟩ ?_
    refine w_iconst (q := 15) hm38 ⟨⟨_, _, rfl⟩, rfl⟩ iconst_1 ?_
    refine w_iand (q := 16) hm38 ⟨⟨_, _, rfl⟩, rfl⟩ ?_
    refine w_iadd (q := 17) hm38 ⟨⟨_, _, rfl⟩, rfl⟩ ?_
    refine w_istore_n (q := 18) (l' := [oI x0, oI (x1 + ((x0 >>> (x2 &&& 31)) &&& (1 : Int32))), oI x2]) hm38 ⟨⟨_, _, rfl⟩, rfl⟩ rfl rfl rfl ?_
    refine w_iinc (q := 21) (l' := [oI x0, oI (x1 + ((x0 >>> (x2 &&& 31)) &&& (1 : Int32))), oI (x2 + (1 : Int32))]) hm38 ⟨⟨_, _, rfl⟩, rfl⟩ rfl rfl rfl iconst_1 rfl ?_
    refine w_goto (q := 4) hm38 ⟨_, _, rfl⟩ ?_
    exact h
theorem v_X12_isEarlier {d : Nat} {x0 : Int32} {x1 : Int32} {m : dM} {Q : Int32 → dM → Prop} (h : j_X12_isEarlier_2 (d + 1) x0 x1 (0 : Int32) m Q) : c_X12_isEarlier (d + 1) x0 x1 m Q := by
  refine w_iconst (q := 1) hm95 ⟨⟨_, _, rfl⟩, rfl⟩ iconst_0 ?_
  refine w_istore_n (q := 2) (l' := [oI x0, oI x1, oI (0 : Int32)]) hm95 ⟨⟨_, _, rfl⟩, rfl⟩ rfl rfl rfl ?_
  exact h
theorem v_X12_isEarlier_2 {d : Nat} {x0 : Int32} {x1 : Int32} {x2 : Int32} {m : dM} {Q : Int32 → dM → Prop} (h : ((3 ≤ x2.toInt → Q (0 : Int32) m) ∧ (x2.toInt < 3 → c_X12_ithOf d x0 x2 m (fun r1 m1 => c_X12_ithOf d x1 x2 m1 (fun r2 m2 => ((r1.toInt = r2.toInt → j_X12_isEarlier_2 (d + 1) x0 x1 (x2 + (1 : Int32)) m2 Q) ∧ (r1.toInt ≠ r2.toInt → c_X12_ithOf d x0 x2 m2 (fun r3 m3 => c_X12_ithOf d x1 x2 m3 (fun r4 m4 => ((r4.toInt ≤ r3.toInt → Q (0 : Int32) m4) ∧ (r3.toInt < r4.toInt → Q (1 : Int32) m4))))))))))) : j_X12_isEarlier_2 (d + 1) x0 x1 x2 m Q := by
  refine w_iload_n (q := 3) hm95 ⟨⟨_, _, rfl⟩, rfl⟩ rfl ?_
  refine w_iconst (q := 4) hm95 ⟨⟨_, _, rfl⟩, rfl⟩ iconst_3 ?_
  refine w_icmp_ge (q := 7) (X := x2.toInt) (Y := 3) hm95 ⟨⟨_, _, rfl⟩, rfl⟩ rfl (by decide) (fun hc => ?_) (fun hc => ?_)
  · have h := h.1 hc
    refine w_iconst (q := 46) hm95 ⟨⟨_, _, rfl⟩, rfl⟩ iconst_0 ?_
    exact w_retz hm95 ⟨⟨_, _, rfl⟩, rfl⟩ rfl (by decide) h
  · have h := h.2 hc
    refine w_iload_n (q := 8) hm95 ⟨⟨_, _, rfl⟩, rfl⟩ rfl ?_
    refine w_iload_n (q := 9) hm95 ⟨⟨_, _, rfl⟩, rfl⟩ rfl ?_
    refine w_call (q := 12) (n := 2) (vs := [.inl x0, .inl x2]) (rest := []) (la := [oI x0, oI x2, none, none]) hm95 ⟨⟨_, _, rfl⟩, rfl⟩ rfl rfl rfl rfl hm94 rfl rfl (fun hz => absurd hz (by decide)) rfl (Wp.mono h ?_)
    rintro _ m1 ⟨r1, rfl, h⟩
    change Wp _ _ 12 _ [.inl r1] _ _
    refine w_iload_n (q := 13) hm95 ⟨⟨_, _, rfl⟩, rfl⟩ rfl ?_
    refine w_iload_n (q := 14) hm95 ⟨⟨_, _, rfl⟩, rfl⟩ rfl ?_
    refine w_call (q := 17) (n := 2) (vs := [.inl x1, .inl x2]) (rest := [.inl r1]) (la := [oI x1, oI x2, none, none]) hm95 ⟨⟨_, _, rfl⟩, rfl⟩ rfl rfl rfl rfl hm94 rfl rfl (fun hz => absurd hz (by decide)) rfl (Wp.mono h ?_)
    rintro _ m2 ⟨r2, rfl, h⟩
    change Wp _ _ 17 _ [.inl r2, .inl r1] _ _
    refine w_icmp_eq (q := 20) (X := r1.toInt) (Y := r2.toInt) hm95 ⟨⟨_, _, rfl⟩, rfl⟩ rfl rfl (fun hc => ?_) (fun hc => ?_)
    · have h := h.1 hc
      refine w_iinc (q := 42) (l' := [oI x0, oI x1, oI (x2 + (1 : Int32))]) hm95 ⟨⟨_, _, rfl⟩, rfl⟩ rfl rfl rfl iconst_1 rfl ?_
      refine w_goto (q := 2) hm95 ⟨_, _, rfl⟩ ?_
      exact h
    · have h := h.2 hc
      refine w_iload_n (q := 21) hm95 ⟨⟨_, _, rfl⟩, rfl⟩ rfl ?_
      refine w_iload_n (q := 22) hm95 ⟨⟨_, _, rfl⟩, rfl⟩ rfl ?_
      refine w_call (q := 25) (n := 2) (vs := [.inl x0, .inl x2]) (rest := []) (la := [oI x0, oI x2, none, none]) hm95 ⟨⟨_, _, rfl⟩, rfl⟩ rfl rfl rfl rfl hm94 rfl rfl (fun hz => absurd hz (by decide)) rfl (Wp.mono h ?_)
      rintro _ m3 ⟨r3, rfl, h⟩
      change Wp _ _ 25 _ [.inl r3] _ _
      refine w_iload_n (q := 26) hm95 ⟨⟨_, _, rfl⟩, rfl⟩ rfl ?_
      refine w_iload_n (q := 27) hm95 ⟨⟨_, _, rfl⟩, rfl⟩ rfl ?_
      refine w_call (q := 30) (n := 2) (vs := [.inl x1, .inl x2]) (rest := [.inl r3]) (la := [oI x1, oI x2, none, none]) hm95 ⟨⟨_, _, rfl⟩, rfl⟩ rfl rfl rfl rfl hm94 rfl rfl (fun hz => absurd hz (by decide)) rfl (Wp.mono h ?_)
      rintro _ m4 ⟨r4, rfl, h⟩
      change Wp _ _ 30 _ [.inl r4, .inl r3] _ _
      refine w_icmp_ge (q := 33) (X := r3.toInt) (Y := r4.toInt) hm95 ⟨⟨_, _, rfl⟩, rfl⟩ rfl rfl (fun hc => ?_) (fun hc => ?_)
      · have h := h.1 hc
        refine w_iconst (q := 38) hm95 ⟨⟨_, _, rfl⟩, rfl⟩ iconst_0 ?_
        exact w_retz hm95 ⟨⟨_, _, rfl⟩, rfl⟩ rfl (by decide) h
      · have h := h.2 hc
        refine w_iconst (q := 34) hm95 ⟨⟨_, _, rfl⟩, rfl⟩ iconst_1 ?_
        refine w_goto (q := 38) hm95 ⟨_, _, rfl⟩ ?_
        exact w_retz hm95 ⟨⟨_, _, rfl⟩, rfl⟩ rfl (by decide) h
theorem v_X12_loses_70 {d : Nat} {x1 : Int32} {m : dM} {Q : dM → Prop} (h : c_X12_copies_70 d m (fun m1 => j_X12_loses_70_6 (d + 1) x1 (0 : Int32) m1 Q)) : c_X12_loses_70 (d + 1) x1 m Q := by
  refine w_aload_n (q := 1) hm92 ⟨⟨_, _, rfl⟩, rfl⟩ rfl ?_
  refine w_call (q := 4) (n := 1) (vs := [.inr (.inr (some 70))]) (rest := []) (la := [oR 70, none]) hm92 ⟨⟨_, _, rfl⟩, rfl⟩ rfl rfl rfl rfl hm44 rfl rfl (fun _ => ⟨_, _, rfl, rfl⟩) rfl (Wp.mono h ?_)
  rintro _ m1 ⟨rfl, h⟩
  change Wp _ _ 4 _ [] _ _
  refine w_iconst (q := 5) hm92 ⟨⟨_, _, rfl⟩, rfl⟩ iconst_0 ?_
  refine w_istore_n (q := 6) (l' := [oR 70, oI x1, oI (0 : Int32)]) hm92 ⟨⟨_, _, rfl⟩, rfl⟩ rfl rfl rfl ?_
  exact h
theorem v_X12_loses_70_6 {d : Nat} {x1 : Int32} {x2 : Int32} {m : dM} {Q : dM → Prop} (h : ((10 ≤ x2.toInt → c_X12_fillsWays_70 d m (fun m1 => Q m1)) ∧ (x2.toInt < 10 → ((((x1 >>> (x2 &&& 31)) &&& (1 : Int32)).toInt ≠ 1 → j_X12_loses_70_31 (d + 1) x1 x2 m Q) ∧ (((x1 >>> (x2 &&& 31)) &&& (1 : Int32)).toInt = 1 → ((0 ≤ ((10 : Int32) + x2).toInt ∧ ((10 : Int32) + x2).toInt < 58) ∧ j_X12_loses_70_31 (d + 1) x1 x2 (dSet m 108 ((10 : Int32) + x2).toNatClampNeg (1 : Int32)) Q)))))) : j_X12_loses_70_6 (d + 1) x1 x2 m Q := by
  refine w_iload_n (q := 7) hm92 ⟨⟨_, _, rfl⟩, rfl⟩ rfl ?_
  refine w_bipush (q := 9) hm92 ⟨⟨_, _, rfl⟩, rfl⟩ bipush_10 ?_
  refine w_icmp_ge (q := 12) (X := x2.toInt) (Y := 10) hm92 ⟨⟨_, _, rfl⟩, rfl⟩ rfl (by decide) (fun hc => ?_) (fun hc => ?_)
  · have h := h.1 hc
    refine w_aload_n (q := 38) hm92 ⟨⟨_, _, rfl⟩, rfl⟩ rfl ?_
    refine w_call (q := 41) (n := 4) (vs := [.inr (.inr (some 70))]) (rest := []) (la := [oR 70, none, none, none, none]) hm92 ⟨⟨_, _, rfl⟩, rfl⟩ rfl rfl rfl rfl hm50 rfl rfl (fun _ => ⟨_, _, rfl, rfl⟩) rfl (Wp.mono h ?_)
    rintro _ m1 ⟨rfl, h⟩
    change Wp _ _ 41 _ [] _ _
    exact w_retv hm92 ⟨⟨_, _, rfl⟩, rfl⟩ rfl h
  · have h := h.2 hc
    refine w_iload_n (q := 13) hm92 ⟨⟨_, _, rfl⟩, rfl⟩ rfl ?_
    refine w_iload_n (q := 14) hm92 ⟨⟨_, _, rfl⟩, rfl⟩ rfl ?_
    refine w_ishr (q := 15) hm92 ⟨⟨_, _, rfl⟩, rfl⟩ ?_
    refine w_iconst (q := 16) hm92 ⟨⟨_, _, rfl⟩, rfl⟩ iconst_1 ?_
    refine w_iand (q := 17) hm92 ⟨⟨_, _, rfl⟩, rfl⟩ ?_
    refine w_iconst (q := 18) hm92 ⟨⟨_, _, rfl⟩, rfl⟩ iconst_1 ?_
    refine w_icmp_ne (q := 21) (X := ((x1 >>> (x2 &&& 31)) &&& (1 : Int32)).toInt) (Y := 1) hm92 ⟨⟨_, _, rfl⟩, rfl⟩ rfl (by decide) (fun hc => ?_) (fun hc => ?_)
    · have h := h.1 hc
      exact h
    · have h := h.2 hc
      refine w_aload_n (q := 22) hm92 ⟨⟨_, _, rfl⟩, rfl⟩ rfl ?_
      refine w_getr (q := 25) hm92 ⟨⟨_, _, rfl⟩, rfl⟩ rfl ?_
      refine w_bipush (q := 27) hm92 ⟨⟨_, _, rfl⟩, rfl⟩ bipush_10 ?_
      refine w_iload_n (q := 28) hm92 ⟨⟨_, _, rfl⟩, rfl⟩ rfl ?_
      refine w_iadd (q := 29) hm92 ⟨⟨_, _, rfl⟩, rfl⟩ ?_
      refine w_iconst (q := 30) hm92 ⟨⟨_, _, rfl⟩, rfl⟩ iconst_1 ?_
      obtain ⟨hi, h⟩ := h
      refine w_iast (q := 31) hm92 ⟨⟨_, _, rfl⟩, rfl⟩ rfl hi rfl rfl ?_
      exact h
theorem v_X12_loses_70_31 {d : Nat} {x1 : Int32} {x2 : Int32} {m : dM} {Q : dM → Prop} (h : j_X12_loses_70_6 (d + 1) x1 (x2 + (1 : Int32)) m Q) : j_X12_loses_70_31 (d + 1) x1 x2 m Q := by
  refine w_iinc (q := 34) (l' := [oR 70, oI x1, oI (x2 + (1 : Int32))]) hm92 ⟨⟨_, _, rfl⟩, rfl⟩ rfl rfl rfl iconst_1 rfl ?_
  refine w_goto (q := 6) hm92 ⟨_, _, rfl⟩ ?_
  exact h
theorem v_X12_cut_70 {d : Nat} {x1 : Int32} {x2 : Int32} {m : dM} {Q : Int32 → dM → Prop} (h : c_X12_isFlat_70 d x1 m (fun r1 m1 => ((r1.toInt = 0 → j_X12_cut_70_17 (d + 1) m1 Q) ∧ (r1.toInt ≠ 0 → c_X12_in d x2 (-1 : Int32) (2 : Int32) m1 (fun r2 m2 => ((r2.toInt ≠ 0 → c_X12_goneBits_70 d m2 (fun r3 m3 => j_X12_cut_70_30 (d + 1) x1 x2 r3 (-1 : Int32) (0 : Int32) m3 Q)) ∧ (r2.toInt = 0 → j_X12_cut_70_17 (d + 1) m2 Q))))))) : c_X12_cut_70 (d + 1) x1 x2 m Q := by
  refine w_aload_n (q := 1) hm96 ⟨⟨_, _, rfl⟩, rfl⟩ rfl ?_
  refine w_iload_n (q := 2) hm96 ⟨⟨_, _, rfl⟩, rfl⟩ rfl ?_
  refine w_call (q := 5) (n := 0) (vs := [.inr (.inr (some 70)), .inl x1]) (rest := []) (la := [oR 70, oI x1]) hm96 ⟨⟨_, _, rfl⟩, rfl⟩ rfl rfl rfl rfl hm39 rfl rfl (fun _ => ⟨_, _, rfl, rfl⟩) rfl (Wp.mono h ?_)
  rintro _ m1 ⟨r1, rfl, h⟩
  change Wp _ _ 5 _ [.inl r1] _ _
  refine w_if_eq (q := 8) (X := r1.toInt) hm96 ⟨⟨_, _, rfl⟩, rfl⟩ rfl (fun hc => ?_) (fun hc => ?_)
  · have h := h.1 hc
    exact Wp.wk [false, false, false, false, false, false] h
  · have h := h.2 hc
    refine w_iload_n (q := 9) hm96 ⟨⟨_, _, rfl⟩, rfl⟩ rfl ?_
    refine w_iconst (q := 10) hm96 ⟨⟨_, _, rfl⟩, rfl⟩ iconst_m1 ?_
    refine w_iconst (q := 11) hm96 ⟨⟨_, _, rfl⟩, rfl⟩ iconst_2 ?_
    refine w_call (q := 14) (n := 0) (vs := [.inl x2, .inl (-1 : Int32), .inl (2 : Int32)]) (rest := []) (la := [oI x2, oI (-1 : Int32), oI (2 : Int32)]) hm96 ⟨⟨_, _, rfl⟩, rfl⟩ rfl rfl rfl rfl hm36 rfl rfl (fun hz => absurd hz (by decide)) rfl (Wp.mono h ?_)
    rintro _ m2 ⟨r2, rfl, h⟩
    change Wp _ _ 14 _ [.inl r2] _ _
    refine w_if_ne (q := 17) (X := r2.toInt) hm96 ⟨⟨_, _, rfl⟩, rfl⟩ rfl (fun hc => ?_) (fun hc => ?_)
    · have h := h.1 hc
      refine w_aload_n (q := 20) hm96 ⟨⟨_, _, rfl⟩, rfl⟩ rfl ?_
      refine w_call (q := 23) (n := 2) (vs := [.inr (.inr (some 70))]) (rest := []) (la := [oR 70, none, none]) hm96 ⟨⟨_, _, rfl⟩, rfl⟩ rfl rfl rfl rfl hm93 rfl rfl (fun _ => ⟨_, _, rfl, rfl⟩) rfl (Wp.mono h ?_)
      rintro _ m3 ⟨r3, rfl, h⟩
      change Wp _ _ 23 _ [.inl r3] _ _
      refine w_istore_n (q := 24) (l' := [oR 70, oI x1, oI x2, oI r3, none, none]) hm96 ⟨⟨_, _, rfl⟩, rfl⟩ rfl rfl rfl ?_
      refine w_iconst (q := 25) hm96 ⟨⟨_, _, rfl⟩, rfl⟩ iconst_m1 ?_
      refine w_istore (q := 27) (l' := [oR 70, oI x1, oI x2, oI r3, oI (-1 : Int32), none]) hm96 ⟨⟨_, _, rfl⟩, rfl⟩ rfl rfl rfl ?_
      refine w_iconst (q := 28) hm96 ⟨⟨_, _, rfl⟩, rfl⟩ iconst_0 ?_
      refine w_istore (q := 30) (l' := [oR 70, oI x1, oI x2, oI r3, oI (-1 : Int32), oI (0 : Int32)]) hm96 ⟨⟨_, _, rfl⟩, rfl⟩ rfl rfl rfl ?_
      exact h
    · have h := h.2 hc
      exact Wp.wk [false, false, false, false, false, false] h
theorem v_X12_cut_70_17 {d : Nat} {m : dM} {Q : Int32 → dM → Prop} (h : Q (-1 : Int32) m) : j_X12_cut_70_17 (d + 1) m Q := by
  refine w_iconst (q := 18) hm96 ⟨⟨_, _, rfl⟩, rfl⟩ iconst_m1 ?_
  exact w_reti hm96 ⟨⟨_, _, rfl⟩, rfl⟩ rfl h
theorem v_X12_cut_70_30 {d : Nat} {x1 : Int32} {x2 : Int32} {x3 : Int32} {x4 : Int32} {x5 : Int32} {m : dM} {Q : Int32 → dM → Prop} (h : ((0 ≤ (m.1 70 18).toInt ∧ (m.1 70 18).toInt < 2) ∧ ((((1 : Int32) <<< ((m.1 82 (m.1 70 18).toNatClampNeg) &&& 31)).toInt ≤ x5.toInt → ((0 ≤ x4.toInt → ((x2.toInt ≠ (-1) → c_X12_ithOf d x4 x2 m (fun r1 m1 => Q r1 m1)) ∧ (x2.toInt = (-1) → c_X12_bits d x4 m (fun r2 m2 => Q r2 m2)))) ∧ (x4.toInt < 0 → Q (-2 : Int32) m))) ∧ (x5.toInt < ((1 : Int32) <<< ((m.1 82 (m.1 70 18).toNatClampNeg) &&& 31)).toInt → c_X12_bits d x5 m (fun r3 m3 => ((3 < r3.toInt → j_X12_cut_70_127 (d + 1) x1 x2 x3 x4 x5 m3 Q) ∧ (r3.toInt ≤ 3 → (((x5 &&& x3).toInt = 0 → ((x4.toInt < 0 → j_X12_cut_70_109 (d + 1) x1 x2 x3 x4 x5 m3 Q) ∧ (0 ≤ x4.toInt → c_X12_bits d x5 m3 (fun r4 m4 => c_X12_bits d x4 m4 (fun r5 m5 => ((r5.toInt < r4.toInt → j_X12_cut_70_127 (d + 1) x1 x2 x3 x4 x5 m5 Q) ∧ (r4.toInt ≤ r5.toInt → c_X12_bits d x5 m5 (fun r6 m6 => c_X12_bits d x4 m6 (fun r7 m7 => ((r6.toInt ≠ r7.toInt → j_X12_cut_70_109 (d + 1) x1 x2 x3 x4 x5 m7 Q) ∧ (r6.toInt = r7.toInt → c_X12_isEarlier d x5 x4 m7 (fun r8 m8 => ((r8.toInt ≠ 0 → j_X12_cut_70_109 (d + 1) x1 x2 x3 x4 x5 m8 Q) ∧ (r8.toInt = 0 → j_X12_cut_70_127 (d + 1) x1 x2 x3 x4 x5 m8 Q)))))))))))))) ∧ ((x5 &&& x3).toInt ≠ 0 → j_X12_cut_70_127 (d + 1) x1 x2 x3 x4 x5 m3 Q))))))))) : j_X12_cut_70_30 (d + 1) x1 x2 x3 x4 x5 m Q := by
  refine w_iload (q := 32) hm96 ⟨⟨_, _, rfl⟩, rfl⟩ rfl ?_
  refine w_iconst (q := 33) hm96 ⟨⟨_, _, rfl⟩, rfl⟩ iconst_1 ?_
  refine w_aload_n (q := 34) hm96 ⟨⟨_, _, rfl⟩, rfl⟩ rfl ?_
  refine w_getr (q := 37) hm96 ⟨⟨_, _, rfl⟩, rfl⟩ rfl ?_
  refine w_aload_n (q := 38) hm96 ⟨⟨_, _, rfl⟩, rfl⟩ rfl ?_
  refine w_getf (q := 41) (v := (m.1 70 18)) hm96 ⟨⟨_, _, rfl⟩, rfl⟩ rfl rfl ?_
  obtain ⟨hi, h⟩ := h
  refine w_iald (q := 42) (v := (m.1 82 (m.1 70 18).toNatClampNeg)) hm96 ⟨⟨_, _, rfl⟩, rfl⟩ rfl hi rfl rfl ?_
  refine w_ishl (q := 43) hm96 ⟨⟨_, _, rfl⟩, rfl⟩ ?_
  refine w_icmp_ge (q := 46) (X := x5.toInt) (Y := ((1 : Int32) <<< ((m.1 82 (m.1 70 18).toNatClampNeg) &&& 31)).toInt) hm96 ⟨⟨_, _, rfl⟩, rfl⟩ rfl rfl (fun hc => ?_) (fun hc => ?_)
  · have h := h.1 hc
    refine w_iload (q := 135) hm96 ⟨⟨_, _, rfl⟩, rfl⟩ rfl ?_
    refine w_if_ge (q := 138) (X := x4.toInt) hm96 ⟨⟨_, _, rfl⟩, rfl⟩ rfl (fun hc => ?_) (fun hc => ?_)
    · have h := h.1 hc
      refine w_iload_n (q := 142) hm96 ⟨⟨_, _, rfl⟩, rfl⟩ rfl ?_
      refine w_iconst (q := 143) hm96 ⟨⟨_, _, rfl⟩, rfl⟩ iconst_m1 ?_
      refine w_icmp_ne (q := 146) (X := x2.toInt) (Y := (-1)) hm96 ⟨⟨_, _, rfl⟩, rfl⟩ rfl (by decide) (fun hc => ?_) (fun hc => ?_)
      · have h := h.1 hc
        refine w_iload (q := 156) hm96 ⟨⟨_, _, rfl⟩, rfl⟩ rfl ?_
        refine w_iload_n (q := 157) hm96 ⟨⟨_, _, rfl⟩, rfl⟩ rfl ?_
        refine w_call (q := 160) (n := 2) (vs := [.inl x4, .inl x2]) (rest := []) (la := [oI x4, oI x2, none, none]) hm96 ⟨⟨_, _, rfl⟩, rfl⟩ rfl rfl rfl rfl hm94 rfl rfl (fun hz => absurd hz (by decide)) rfl (Wp.mono h ?_)
        rintro _ m1 ⟨r1, rfl, h⟩
        change Wp _ _ 160 _ [.inl r1] _ _
        exact w_reti hm96 ⟨⟨_, _, rfl⟩, rfl⟩ rfl h
      · have h := h.2 hc
        refine w_iload (q := 148) hm96 ⟨⟨_, _, rfl⟩, rfl⟩ rfl ?_
        refine w_call (q := 151) (n := 2) (vs := [.inl x4]) (rest := []) (la := [oI x4, none, none]) hm96 ⟨⟨_, _, rfl⟩, rfl⟩ rfl rfl rfl rfl hm38 rfl rfl (fun hz => absurd hz (by decide)) rfl (Wp.mono h ?_)
        rintro _ m2 ⟨r2, rfl, h⟩
        change Wp _ _ 151 _ [.inl r2] _ _
        refine w_goto (q := 160) hm96 ⟨_, _, rfl⟩ ?_
        exact w_reti hm96 ⟨⟨_, _, rfl⟩, rfl⟩ rfl h
    · have h := h.2 hc
      refine w_bipush (q := 140) hm96 ⟨⟨_, _, rfl⟩, rfl⟩ bipush_m2 ?_
      exact w_reti hm96 ⟨⟨_, _, rfl⟩, rfl⟩ rfl h
  · have h := h.2 hc
    refine w_iload (q := 48) hm96 ⟨⟨_, _, rfl⟩, rfl⟩ rfl ?_
    refine w_call (q := 51) (n := 2) (vs := [.inl x5]) (rest := []) (la := [oI x5, none, none]) hm96 ⟨⟨_, _, rfl⟩, rfl⟩ rfl rfl rfl rfl hm38 rfl rfl (fun hz => absurd hz (by decide)) rfl (Wp.mono h ?_)
    rintro _ m3 ⟨r3, rfl, h⟩
    change Wp _ _ 51 _ [.inl r3] _ _
    refine w_iconst (q := 52) hm96 ⟨⟨_, _, rfl⟩, rfl⟩ iconst_3 ?_
    refine w_icmp_gt (q := 55) (X := r3.toInt) (Y := 3) hm96 ⟨⟨_, _, rfl⟩, rfl⟩ rfl (by decide) (fun hc => ?_) (fun hc => ?_)
    · have h := h.1 hc
      exact h
    · have h := h.2 hc
      refine w_iload (q := 57) hm96 ⟨⟨_, _, rfl⟩, rfl⟩ rfl ?_
      refine w_iload_n (q := 58) hm96 ⟨⟨_, _, rfl⟩, rfl⟩ rfl ?_
      refine w_iand (q := 59) hm96 ⟨⟨_, _, rfl⟩, rfl⟩ ?_
      refine w_if_eq (q := 62) (X := (x5 &&& x3).toInt) hm96 ⟨⟨_, _, rfl⟩, rfl⟩ rfl (fun hc => ?_) (fun hc => ?_)
      · have h := h.1 hc
        refine w_iload (q := 67) hm96 ⟨⟨_, _, rfl⟩, rfl⟩ rfl ?_
        refine w_if_lt (q := 70) (X := x4.toInt) hm96 ⟨⟨_, _, rfl⟩, rfl⟩ rfl (fun hc => ?_) (fun hc => ?_)
        · have h := h.1 hc
          exact h
        · have h := h.2 hc
          refine w_iload (q := 72) hm96 ⟨⟨_, _, rfl⟩, rfl⟩ rfl ?_
          refine w_call (q := 75) (n := 2) (vs := [.inl x5]) (rest := []) (la := [oI x5, none, none]) hm96 ⟨⟨_, _, rfl⟩, rfl⟩ rfl rfl rfl rfl hm38 rfl rfl (fun hz => absurd hz (by decide)) rfl (Wp.mono h ?_)
          rintro _ m4 ⟨r4, rfl, h⟩
          change Wp _ _ 75 _ [.inl r4] _ _
          refine w_iload (q := 77) hm96 ⟨⟨_, _, rfl⟩, rfl⟩ rfl ?_
          refine w_call (q := 80) (n := 2) (vs := [.inl x4]) (rest := [.inl r4]) (la := [oI x4, none, none]) hm96 ⟨⟨_, _, rfl⟩, rfl⟩ rfl rfl rfl rfl hm38 rfl rfl (fun hz => absurd hz (by decide)) rfl (Wp.mono h ?_)
          rintro _ m5 ⟨r5, rfl, h⟩
          change Wp _ _ 80 _ [.inl r5, .inl r4] _ _
          refine w_icmp_gt (q := 83) (X := r4.toInt) (Y := r5.toInt) hm96 ⟨⟨_, _, rfl⟩, rfl⟩ rfl rfl (fun hc => ?_) (fun hc => ?_)
          · have h := h.1 hc
            exact h
          · have h := h.2 hc
            refine w_iload (q := 85) hm96 ⟨⟨_, _, rfl⟩, rfl⟩ rfl ?_
            refine w_call (q := 88) (n := 2) (vs := [.inl x5]) (rest := []) (la := [oI x5, none, none]) hm96 ⟨⟨_, _, rfl⟩, rfl⟩ rfl rfl rfl rfl hm38 rfl rfl (fun hz => absurd hz (by decide)) rfl (Wp.mono h ?_)
            rintro _ m6 ⟨r6, rfl, h⟩
            change Wp _ _ 88 _ [.inl r6] _ _
            refine w_iload (q := 90) hm96 ⟨⟨_, _, rfl⟩, rfl⟩ rfl ?_
            refine w_call (q := 93) (n := 2) (vs := [.inl x4]) (rest := [.inl r6]) (la := [oI x4, none, none]) hm96 ⟨⟨_, _, rfl⟩, rfl⟩ rfl rfl rfl rfl hm38 rfl rfl (fun hz => absurd hz (by decide)) rfl (Wp.mono h ?_)
            rintro _ m7 ⟨r7, rfl, h⟩
            change Wp _ _ 93 _ [.inl r7, .inl r6] _ _
            refine w_icmp_ne (q := 96) (X := r6.toInt) (Y := r7.toInt) hm96 ⟨⟨_, _, rfl⟩, rfl⟩ rfl rfl (fun hc => ?_) (fun hc => ?_)
            · have h := h.1 hc
              exact h
            · have h := h.2 hc
              refine w_iload (q := 98) hm96 ⟨⟨_, _, rfl⟩, rfl⟩ rfl ?_
              refine w_iload (q := 100) hm96 ⟨⟨_, _, rfl⟩, rfl⟩ rfl ?_
              refine w_call (q := 103) (n := 1) (vs := [.inl x5, .inl x4]) (rest := []) (la := [oI x5, oI x4, none]) hm96 ⟨⟨_, _, rfl⟩, rfl⟩ rfl rfl rfl rfl hm95 rfl rfl (fun hz => absurd hz (by decide)) rfl (Wp.mono h ?_)
              rintro _ m8 ⟨r8, rfl, h⟩
              change Wp _ _ 103 _ [.inl r8] _ _
              refine w_if_ne (q := 106) (X := r8.toInt) hm96 ⟨⟨_, _, rfl⟩, rfl⟩ rfl (fun hc => ?_) (fun hc => ?_)
              · have h := h.1 hc
                exact h
              · have h := h.2 hc
                refine w_goto (q := 127) hm96 ⟨_, _, rfl⟩ ?_
                exact h
      · have h := h.2 hc
        refine w_goto (q := 127) hm96 ⟨_, _, rfl⟩ ?_
        exact h
theorem v_X12_cut_70_109 {d : Nat} {x1 : Int32} {x2 : Int32} {x3 : Int32} {x4 : Int32} {x5 : Int32} {m : dM} {Q : Int32 → dM → Prop} (h : c_X12_loses_70 d x5 m (fun m1 => c_X12_isLit_70 d x1 m1 (fun r2 m2 => ((r2.toInt ≠ 0 → j_X12_cut_70_127 (d + 1) x1 x2 x3 x4 x5 m2 Q) ∧ (r2.toInt = 0 → j_X12_cut_70_127 (d + 1) x1 x2 x3 x5 x5 m2 Q))))) : j_X12_cut_70_109 (d + 1) x1 x2 x3 x4 x5 m Q := by
  refine w_aload_n (q := 110) hm96 ⟨⟨_, _, rfl⟩, rfl⟩ rfl ?_
  refine w_iload (q := 112) hm96 ⟨⟨_, _, rfl⟩, rfl⟩ rfl ?_
  refine w_call (q := 115) (n := 1) (vs := [.inr (.inr (some 70)), .inl x5]) (rest := []) (la := [oR 70, oI x5, none]) hm96 ⟨⟨_, _, rfl⟩, rfl⟩ rfl rfl rfl rfl hm92 rfl rfl (fun _ => ⟨_, _, rfl, rfl⟩) rfl (Wp.mono h ?_)
  rintro _ m1 ⟨rfl, h⟩
  change Wp _ _ 115 _ [] _ _
  refine w_aload_n (q := 116) hm96 ⟨⟨_, _, rfl⟩, rfl⟩ rfl ?_
  refine w_iload_n (q := 117) hm96 ⟨⟨_, _, rfl⟩, rfl⟩ rfl ?_
  refine w_call (q := 120) (n := 0) (vs := [.inr (.inr (some 70)), .inl x1]) (rest := []) (la := [oR 70, oI x1]) hm96 ⟨⟨_, _, rfl⟩, rfl⟩ rfl rfl rfl rfl hm51 rfl rfl (fun _ => ⟨_, _, rfl, rfl⟩) rfl (Wp.mono h ?_)
  rintro _ m2 ⟨r2, rfl, h⟩
  change Wp _ _ 120 _ [.inl r2] _ _
  refine w_if_ne (q := 123) (X := r2.toInt) hm96 ⟨⟨_, _, rfl⟩, rfl⟩ rfl (fun hc => ?_) (fun hc => ?_)
  · have h := h.1 hc
    exact h
  · have h := h.2 hc
    refine w_iload (q := 125) hm96 ⟨⟨_, _, rfl⟩, rfl⟩ rfl ?_
    refine w_istore (q := 127) (l' := [oR 70, oI x1, oI x2, oI x3, oI x5, oI x5]) hm96 ⟨⟨_, _, rfl⟩, rfl⟩ rfl rfl rfl ?_
    exact h
theorem v_X12_cut_70_127 {d : Nat} {x1 : Int32} {x2 : Int32} {x3 : Int32} {x4 : Int32} {x5 : Int32} {m : dM} {Q : Int32 → dM → Prop} (h : j_X12_cut_70_30 (d + 1) x1 x2 x3 x4 (x5 + (1 : Int32)) m Q) : j_X12_cut_70_127 (d + 1) x1 x2 x3 x4 x5 m Q := by
  refine w_iinc (q := 130) (l' := [oR 70, oI x1, oI x2, oI x3, oI x4, oI (x5 + (1 : Int32))]) hm96 ⟨⟨_, _, rfl⟩, rfl⟩ rfl rfl rfl iconst_1 rfl ?_
  refine w_goto (q := 30) hm96 ⟨_, _, rfl⟩ ?_
  exact h
theorem v_X11_share_0 {d : Nat} {x1 : Int32} {x2 : Int32} {m : dM} {Q : Int32 → dM → Prop} (h : c_X11_isFlat_0 d x1 m (fun r1 m1 => ((r1.toInt = 0 → j_X11_share_0_16 (d + 1) m1 Q) ∧ (r1.toInt ≠ 0 → c_X11_isWire_0 d x2 m1 (fun r2 m2 => ((r2.toInt ≠ 0 → c_X0_waysNow_54_47 d m2 (fun m3 => ((0 ≤ x1.toInt ∧ x1.toInt < 7) ∧ c_X11_has d (m3.1 60 x1.toNatClampNeg) x2 m3 (fun r4 m4 => ((r4.toInt = 0 → Q (0 : Int32) m4) ∧ (r4.toInt ≠ 0 → c_X0_usesNow_54_47 d m4 (fun r5 m5 => c_X0_ampsOf_54 d r5 x1 m5 (fun r6 m6 => Q r6 m6)))))))) ∧ (r2.toInt = 0 → j_X11_share_0_16 (d + 1) m2 Q))))))) : c_X11_share_0 (d + 1) x1 x2 m Q := by
  refine w_aload_n (q := 1) hm267 ⟨⟨_, _, rfl⟩, rfl⟩ rfl ?_
  refine w_iload_n (q := 2) hm267 ⟨⟨_, _, rfl⟩, rfl⟩ rfl ?_
  refine w_call (q := 5) (n := 0) (vs := [.inr (.inr (some 0)), .inl x1]) (rest := []) (la := [oR 0, oI x1]) hm267 ⟨⟨_, _, rfl⟩, rfl⟩ rfl rfl rfl rfl hm248 rfl rfl (fun _ => ⟨_, _, rfl, rfl⟩) rfl (Wp.mono h ?_)
  rintro _ m1 ⟨r1, rfl, h⟩
  change Wp _ _ 5 _ [.inl r1] _ _
  refine w_if_eq (q := 8) (X := r1.toInt) hm267 ⟨⟨_, _, rfl⟩, rfl⟩ rfl (fun hc => ?_) (fun hc => ?_)
  · have h := h.1 hc
    exact Wp.wk [false, false, false, false] h
  · have h := h.2 hc
    refine w_aload_n (q := 9) hm267 ⟨⟨_, _, rfl⟩, rfl⟩ rfl ?_
    refine w_iload_n (q := 10) hm267 ⟨⟨_, _, rfl⟩, rfl⟩ rfl ?_
    refine w_call (q := 13) (n := 0) (vs := [.inr (.inr (some 0)), .inl x2]) (rest := []) (la := [oR 0, oI x2]) hm267 ⟨⟨_, _, rfl⟩, rfl⟩ rfl rfl rfl rfl hm249 rfl rfl (fun _ => ⟨_, _, rfl, rfl⟩) rfl (Wp.mono h ?_)
    rintro _ m2 ⟨r2, rfl, h⟩
    change Wp _ _ 13 _ [.inl r2] _ _
    refine w_if_ne (q := 16) (X := r2.toInt) hm267 ⟨⟨_, _, rfl⟩, rfl⟩ rfl (fun hc => ?_) (fun hc => ?_)
    · have h := h.1 hc
      refine w_aload_n (q := 19) hm267 ⟨⟨_, _, rfl⟩, rfl⟩ rfl ?_
      refine w_getr (q := 22) hm267 ⟨⟨_, _, rfl⟩, rfl⟩ rfl ?_
      refine w_aload_n (q := 23) hm267 ⟨⟨_, _, rfl⟩, rfl⟩ rfl ?_
      refine w_getr (q := 26) hm267 ⟨⟨_, _, rfl⟩, rfl⟩ rfl ?_
      refine w_call (q := 29) (n := 0) (vs := [.inr (.inr (some 54)), .inr (.inr (some 47))]) (rest := []) (la := [oR 54, oR 47]) hm267 ⟨⟨_, _, rfl⟩, rfl⟩ rfl rfl rfl rfl hm116 rfl rfl (fun _ => ⟨_, _, rfl, rfl⟩) rfl (Wp.mono h ?_)
      rintro _ m3 ⟨rfl, h⟩
      change Wp _ _ 29 _ [.inr (.inr (some 57))] _ _
      refine w_astore_n (q := 30) (l' := [oR 0, oI x1, oI x2, oR 57]) hm267 ⟨⟨_, _, rfl⟩, rfl⟩ rfl rfl rfl ?_
      refine w_aload_n (q := 31) hm267 ⟨⟨_, _, rfl⟩, rfl⟩ rfl ?_
      refine w_getr (q := 34) hm267 ⟨⟨_, _, rfl⟩, rfl⟩ rfl ?_
      refine w_iload_n (q := 35) hm267 ⟨⟨_, _, rfl⟩, rfl⟩ rfl ?_
      obtain ⟨hi, h⟩ := h
      refine w_iald (q := 36) (v := (m3.1 60 x1.toNatClampNeg)) hm267 ⟨⟨_, _, rfl⟩, rfl⟩ rfl hi rfl rfl ?_
      refine w_iload_n (q := 37) hm267 ⟨⟨_, _, rfl⟩, rfl⟩ rfl ?_
      refine w_call (q := 40) (n := 0) (vs := [.inl (m3.1 60 x1.toNatClampNeg), .inl x2]) (rest := []) (la := [oI (m3.1 60 x1.toNatClampNeg), oI x2]) hm267 ⟨⟨_, _, rfl⟩, rfl⟩ rfl rfl rfl rfl hm283 rfl rfl (fun hz => absurd hz (by decide)) rfl (Wp.mono h ?_)
      rintro _ m4 ⟨r4, rfl, h⟩
      change Wp _ _ 40 _ [.inl r4] _ _
      refine w_if_eq (q := 43) (X := r4.toInt) hm267 ⟨⟨_, _, rfl⟩, rfl⟩ rfl (fun hc => ?_) (fun hc => ?_)
      · have h := h.1 hc
        refine w_iconst (q := 66) hm267 ⟨⟨_, _, rfl⟩, rfl⟩ iconst_0 ?_
        exact w_reti hm267 ⟨⟨_, _, rfl⟩, rfl⟩ rfl h
      · have h := h.2 hc
        refine w_aload_n (q := 44) hm267 ⟨⟨_, _, rfl⟩, rfl⟩ rfl ?_
        refine w_getr (q := 47) hm267 ⟨⟨_, _, rfl⟩, rfl⟩ rfl ?_
        refine w_aload_n (q := 48) hm267 ⟨⟨_, _, rfl⟩, rfl⟩ rfl ?_
        refine w_getr (q := 51) hm267 ⟨⟨_, _, rfl⟩, rfl⟩ rfl ?_
        refine w_aload_n (q := 52) hm267 ⟨⟨_, _, rfl⟩, rfl⟩ rfl ?_
        refine w_getr (q := 55) hm267 ⟨⟨_, _, rfl⟩, rfl⟩ rfl ?_
        refine w_call (q := 58) (n := 0) (vs := [.inr (.inr (some 54)), .inr (.inr (some 47))]) (rest := [.inr (.inr (some 54))]) (la := [oR 54, oR 47]) hm267 ⟨⟨_, _, rfl⟩, rfl⟩ rfl rfl rfl rfl hm117 rfl rfl (fun _ => ⟨_, _, rfl, rfl⟩) rfl (Wp.mono h ?_)
        rintro _ m5 ⟨r5, rfl, h⟩
        change Wp _ _ 58 _ [.inl r5, .inr (.inr (some 54))] _ _
        refine w_iload_n (q := 59) hm267 ⟨⟨_, _, rfl⟩, rfl⟩ rfl ?_
        refine w_call (q := 62) (n := 2) (vs := [.inr (.inr (some 54)), .inl r5, .inl x1]) (rest := []) (la := [oR 54, oI r5, oI x1, none, none]) hm267 ⟨⟨_, _, rfl⟩, rfl⟩ rfl rfl rfl rfl hm119 rfl rfl (fun _ => ⟨_, _, rfl, rfl⟩) rfl (Wp.mono h ?_)
        rintro _ m6 ⟨r6, rfl, h⟩
        change Wp _ _ 62 _ [.inl r6] _ _
        refine w_goto (q := 66) hm267 ⟨_, _, rfl⟩ ?_
        exact w_reti hm267 ⟨⟨_, _, rfl⟩, rfl⟩ rfl h
    · have h := h.2 hc
      exact Wp.wk [false, false, false, false] h
theorem v_X11_share_0_16 {d : Nat} {m : dM} {Q : Int32 → dM → Prop} (h : Q (-1 : Int32) m) : j_X11_share_0_16 (d + 1) m Q := by
  refine w_iconst (q := 17) hm267 ⟨⟨_, _, rfl⟩, rfl⟩ iconst_m1 ?_
  exact w_reti hm267 ⟨⟨_, _, rfl⟩, rfl⟩ rfl h
theorem v_X12_share_70 {d : Nat} {x1 : Int32} {x2 : Int32} {m : dM} {Q : Int32 → dM → Prop} (h : c_X12_isFlat_70 d x1 m (fun r1 m1 => ((r1.toInt = 0 → j_X12_share_70_16 (d + 1) m1 Q) ∧ (r1.toInt ≠ 0 → c_X12_isWire_70 d x2 m1 (fun r2 m2 => ((r2.toInt ≠ 0 → c_X12_copies_70 d m2 (fun m3 => ((0 ≤ x1.toInt ∧ x1.toInt < 7) ∧ (((((m3.1 110 x1.toNatClampNeg) >>> (x2 &&& 31)) &&& (1 : Int32)).toInt ≠ 1 → Q (0 : Int32) m3) ∧ ((((m3.1 110 x1.toNatClampNeg) >>> (x2 &&& 31)) &&& (1 : Int32)).toInt = 1 → c_X12_ampsOn_70 d x1 m3 (fun r4 m4 => Q r4 m4)))))) ∧ (r2.toInt = 0 → j_X12_share_70_16 (d + 1) m2 Q))))))) : c_X12_share_70 (d + 1) x1 x2 m Q := by
  refine w_aload_n (q := 1) hm97 ⟨⟨_, _, rfl⟩, rfl⟩ rfl ?_
  refine w_iload_n (q := 2) hm97 ⟨⟨_, _, rfl⟩, rfl⟩ rfl ?_
  refine w_call (q := 5) (n := 0) (vs := [.inr (.inr (some 70)), .inl x1]) (rest := []) (la := [oR 70, oI x1]) hm97 ⟨⟨_, _, rfl⟩, rfl⟩ rfl rfl rfl rfl hm39 rfl rfl (fun _ => ⟨_, _, rfl, rfl⟩) rfl (Wp.mono h ?_)
  rintro _ m1 ⟨r1, rfl, h⟩
  change Wp _ _ 5 _ [.inl r1] _ _
  refine w_if_eq (q := 8) (X := r1.toInt) hm97 ⟨⟨_, _, rfl⟩, rfl⟩ rfl (fun hc => ?_) (fun hc => ?_)
  · have h := h.1 hc
    exact Wp.wk [false, false, false] h
  · have h := h.2 hc
    refine w_aload_n (q := 9) hm97 ⟨⟨_, _, rfl⟩, rfl⟩ rfl ?_
    refine w_iload_n (q := 10) hm97 ⟨⟨_, _, rfl⟩, rfl⟩ rfl ?_
    refine w_call (q := 13) (n := 0) (vs := [.inr (.inr (some 70)), .inl x2]) (rest := []) (la := [oR 70, oI x2]) hm97 ⟨⟨_, _, rfl⟩, rfl⟩ rfl rfl rfl rfl hm40 rfl rfl (fun _ => ⟨_, _, rfl, rfl⟩) rfl (Wp.mono h ?_)
    rintro _ m2 ⟨r2, rfl, h⟩
    change Wp _ _ 13 _ [.inl r2] _ _
    refine w_if_ne (q := 16) (X := r2.toInt) hm97 ⟨⟨_, _, rfl⟩, rfl⟩ rfl (fun hc => ?_) (fun hc => ?_)
    · have h := h.1 hc
      refine w_aload_n (q := 19) hm97 ⟨⟨_, _, rfl⟩, rfl⟩ rfl ?_
      refine w_call (q := 22) (n := 1) (vs := [.inr (.inr (some 70))]) (rest := []) (la := [oR 70, none]) hm97 ⟨⟨_, _, rfl⟩, rfl⟩ rfl rfl rfl rfl hm44 rfl rfl (fun _ => ⟨_, _, rfl, rfl⟩) rfl (Wp.mono h ?_)
      rintro _ m3 ⟨rfl, h⟩
      change Wp _ _ 22 _ [] _ _
      refine w_aload_n (q := 23) hm97 ⟨⟨_, _, rfl⟩, rfl⟩ rfl ?_
      refine w_getr (q := 26) hm97 ⟨⟨_, _, rfl⟩, rfl⟩ rfl ?_
      refine w_iload_n (q := 27) hm97 ⟨⟨_, _, rfl⟩, rfl⟩ rfl ?_
      obtain ⟨hi, h⟩ := h
      refine w_iald (q := 28) (v := (m3.1 110 x1.toNatClampNeg)) hm97 ⟨⟨_, _, rfl⟩, rfl⟩ rfl hi rfl rfl ?_
      refine w_iload_n (q := 29) hm97 ⟨⟨_, _, rfl⟩, rfl⟩ rfl ?_
      refine w_ishr (q := 30) hm97 ⟨⟨_, _, rfl⟩, rfl⟩ ?_
      refine w_iconst (q := 31) hm97 ⟨⟨_, _, rfl⟩, rfl⟩ iconst_1 ?_
      refine w_iand (q := 32) hm97 ⟨⟨_, _, rfl⟩, rfl⟩ ?_
      refine w_iconst (q := 33) hm97 ⟨⟨_, _, rfl⟩, rfl⟩ iconst_1 ?_
      refine w_icmp_ne (q := 36) (X := (((m3.1 110 x1.toNatClampNeg) >>> (x2 &&& 31)) &&& (1 : Int32)).toInt) (Y := 1) hm97 ⟨⟨_, _, rfl⟩, rfl⟩ rfl (by decide) (fun hc => ?_) (fun hc => ?_)
      · have h := h.1 hc
        refine w_iconst (q := 45) hm97 ⟨⟨_, _, rfl⟩, rfl⟩ iconst_0 ?_
        exact w_reti hm97 ⟨⟨_, _, rfl⟩, rfl⟩ rfl h
      · have h := h.2 hc
        refine w_aload_n (q := 37) hm97 ⟨⟨_, _, rfl⟩, rfl⟩ rfl ?_
        refine w_iload_n (q := 38) hm97 ⟨⟨_, _, rfl⟩, rfl⟩ rfl ?_
        refine w_call (q := 41) (n := 3) (vs := [.inr (.inr (some 70)), .inl x1]) (rest := []) (la := [oR 70, oI x1, none, none, none]) hm97 ⟨⟨_, _, rfl⟩, rfl⟩ rfl rfl rfl rfl hm70 rfl rfl (fun _ => ⟨_, _, rfl, rfl⟩) rfl (Wp.mono h ?_)
        rintro _ m4 ⟨r4, rfl, h⟩
        change Wp _ _ 41 _ [.inl r4] _ _
        refine w_goto (q := 45) hm97 ⟨_, _, rfl⟩ ?_
        exact w_reti hm97 ⟨⟨_, _, rfl⟩, rfl⟩ rfl h
    · have h := h.2 hc
      exact Wp.wk [false, false, false] h
theorem v_X12_share_70_16 {d : Nat} {m : dM} {Q : Int32 → dM → Prop} (h : Q (-1 : Int32) m) : j_X12_share_70_16 (d + 1) m Q := by
  refine w_iconst (q := 17) hm97 ⟨⟨_, _, rfl⟩, rfl⟩ iconst_m1 ?_
  exact w_reti hm97 ⟨⟨_, _, rfl⟩, rfl⟩ rfl h
theorem v_X3_allFlats_2 {d : Nat} {m : dM} {Q : Int32 → dM → Prop} (h : Q (((1 : Int32) <<< ((m.1 2 0) &&& 31)) - (1 : Int32)) m) : c_X3_allFlats_2 (d + 1) m Q := by
  refine w_iconst (q := 1) hm173 ⟨⟨_, _, rfl⟩, rfl⟩ iconst_1 ?_
  refine w_aload_n (q := 2) hm173 ⟨⟨_, _, rfl⟩, rfl⟩ rfl ?_
  refine w_getf (q := 5) (v := (m.1 2 0)) hm173 ⟨⟨_, _, rfl⟩, rfl⟩ rfl rfl ?_
  refine w_ishl (q := 6) hm173 ⟨⟨_, _, rfl⟩, rfl⟩ ?_
  refine w_iconst (q := 7) hm173 ⟨⟨_, _, rfl⟩, rfl⟩ iconst_1 ?_
  refine w_isub (q := 8) hm173 ⟨⟨_, _, rfl⟩, rfl⟩ ?_
  exact w_reti hm173 ⟨⟨_, _, rfl⟩, rfl⟩ rfl h
theorem v_X11_without_0 {d : Nat} {x1 : Int32} {m : dM} {Q : Int32 → dM → Prop} (h : c_X11_isWire_0 d x1 m (fun r1 m1 => ((r1.toInt = 0 → Q (-1 : Int32) m1) ∧ (r1.toInt ≠ 0 → c_X3_allFlats_2 d m1 (fun r2 m2 => c_X3_litWithout_2 d ((m2.1 47 3) ||| ((1 : Int32) <<< (x1 &&& 31))) m2 (fun r3 m3 => Q (r2 &&& (r3 ^^^ (-1 : Int32))) m3)))))) : c_X11_without_0 (d + 1) x1 m Q := by
  refine w_aload_n (q := 1) hm268 ⟨⟨_, _, rfl⟩, rfl⟩ rfl ?_
  refine w_iload_n (q := 2) hm268 ⟨⟨_, _, rfl⟩, rfl⟩ rfl ?_
  refine w_call (q := 5) (n := 0) (vs := [.inr (.inr (some 0)), .inl x1]) (rest := []) (la := [oR 0, oI x1]) hm268 ⟨⟨_, _, rfl⟩, rfl⟩ rfl rfl rfl rfl hm249 rfl rfl (fun _ => ⟨_, _, rfl, rfl⟩) rfl (Wp.mono h ?_)
  rintro _ m1 ⟨r1, rfl, h⟩
  change Wp _ _ 5 _ [.inl r1] _ _
  refine w_if_eq (q := 8) (X := r1.toInt) hm268 ⟨⟨_, _, rfl⟩, rfl⟩ rfl (fun hc => ?_) (fun hc => ?_)
  · have h := h.1 hc
    refine w_iconst (q := 40) hm268 ⟨⟨_, _, rfl⟩, rfl⟩ iconst_m1 ?_
    exact w_reti hm268 ⟨⟨_, _, rfl⟩, rfl⟩ rfl h
  · have h := h.2 hc
    refine w_aload_n (q := 9) hm268 ⟨⟨_, _, rfl⟩, rfl⟩ rfl ?_
    refine w_getr (q := 12) hm268 ⟨⟨_, _, rfl⟩, rfl⟩ rfl ?_
    refine w_call (q := 15) (n := 0) (vs := [.inr (.inr (some 2))]) (rest := []) (la := [oR 2]) hm268 ⟨⟨_, _, rfl⟩, rfl⟩ rfl rfl rfl rfl hm173 rfl rfl (fun _ => ⟨_, _, rfl, rfl⟩) rfl (Wp.mono h ?_)
    rintro _ m2 ⟨r2, rfl, h⟩
    change Wp _ _ 15 _ [.inl r2] _ _
    refine w_aload_n (q := 16) hm268 ⟨⟨_, _, rfl⟩, rfl⟩ rfl ?_
    refine w_getr (q := 19) hm268 ⟨⟨_, _, rfl⟩, rfl⟩ rfl ?_
    refine w_aload_n (q := 20) hm268 ⟨⟨_, _, rfl⟩, rfl⟩ rfl ?_
    refine w_getr (q := 23) hm268 ⟨⟨_, _, rfl⟩, rfl⟩ rfl ?_
    refine w_getf (q := 26) (v := (m2.1 47 3)) hm268 ⟨⟨_, _, rfl⟩, rfl⟩ rfl rfl ?_
    refine w_iconst (q := 27) hm268 ⟨⟨_, _, rfl⟩, rfl⟩ iconst_1 ?_
    refine w_iload_n (q := 28) hm268 ⟨⟨_, _, rfl⟩, rfl⟩ rfl ?_
    refine w_ishl (q := 29) hm268 ⟨⟨_, _, rfl⟩, rfl⟩ ?_
    refine w_ior (q := 30) hm268 ⟨⟨_, _, rfl⟩, rfl⟩ ?_
    refine w_call (q := 33) (n := 5) (vs := [.inr (.inr (some 2)), .inl ((m2.1 47 3) ||| ((1 : Int32) <<< (x1 &&& 31)))]) (rest := [.inl r2]) (la := [oR 2, oI ((m2.1 47 3) ||| ((1 : Int32) <<< (x1 &&& 31))), none, none, none, none, none]) hm268 ⟨⟨_, _, rfl⟩, rfl⟩ rfl rfl rfl rfl hm174 rfl rfl (fun _ => ⟨_, _, rfl, rfl⟩) rfl (Wp.mono h ?_)
    rintro _ m3 ⟨r3, rfl, h⟩
    change Wp _ _ 33 _ [.inl r3, .inl r2] _ _
    refine w_iconst (q := 34) hm268 ⟨⟨_, _, rfl⟩, rfl⟩ iconst_m1 ?_
    refine w_ixor (q := 35) hm268 ⟨⟨_, _, rfl⟩, rfl⟩ ?_
    refine w_iand (q := 36) hm268 ⟨⟨_, _, rfl⟩, rfl⟩ ?_
    refine w_goto (q := 40) hm268 ⟨_, _, rfl⟩ ?_
    exact w_reti hm268 ⟨⟨_, _, rfl⟩, rfl⟩ rfl h
theorem v_X12_litBits_70 {d : Nat} {m : dM} {Q : Int32 → dM → Prop} (h : j_X12_litBits_70_4 (d + 1) (0 : Int32) (0 : Int32) m Q) : c_X12_litBits_70 (d + 1) m Q := by
  refine w_iconst (q := 1) hm52 ⟨⟨_, _, rfl⟩, rfl⟩ iconst_0 ?_
  refine w_istore_n (q := 2) (l' := [oR 70, oI (0 : Int32), none]) hm52 ⟨⟨_, _, rfl⟩, rfl⟩ rfl rfl rfl ?_
  refine w_iconst (q := 3) hm52 ⟨⟨_, _, rfl⟩, rfl⟩ iconst_0 ?_
  refine w_istore_n (q := 4) (l' := [oR 70, oI (0 : Int32), oI (0 : Int32)]) hm52 ⟨⟨_, _, rfl⟩, rfl⟩ rfl rfl rfl ?_
  exact h
theorem v_X12_litBits_70_4 {d : Nat} {x1 : Int32} {x2 : Int32} {m : dM} {Q : Int32 → dM → Prop} (h : ((0 ≤ (m.1 70 18).toInt ∧ (m.1 70 18).toInt < 2) ∧ (((m.1 80 (m.1 70 18).toNatClampNeg).toInt ≤ x2.toInt → Q x1 m) ∧ (x2.toInt < (m.1 80 (m.1 70 18).toNatClampNeg).toInt → c_X12_isLit_70 d x2 m (fun r1 m1 => ((r1.toInt = 0 → j_X12_litBits_70_31 (d + 1) x1 x2 m1 Q) ∧ (r1.toInt ≠ 0 → j_X12_litBits_70_31 (d + 1) (x1 ||| ((1 : Int32) <<< (x2 &&& 31))) x2 m1 Q))))))) : j_X12_litBits_70_4 (d + 1) x1 x2 m Q := by
  refine w_iload_n (q := 5) hm52 ⟨⟨_, _, rfl⟩, rfl⟩ rfl ?_
  refine w_aload_n (q := 6) hm52 ⟨⟨_, _, rfl⟩, rfl⟩ rfl ?_
  refine w_getr (q := 9) hm52 ⟨⟨_, _, rfl⟩, rfl⟩ rfl ?_
  refine w_aload_n (q := 10) hm52 ⟨⟨_, _, rfl⟩, rfl⟩ rfl ?_
  refine w_getf (q := 13) (v := (m.1 70 18)) hm52 ⟨⟨_, _, rfl⟩, rfl⟩ rfl rfl ?_
  obtain ⟨hi, h⟩ := h
  refine w_iald (q := 14) (v := (m.1 80 (m.1 70 18).toNatClampNeg)) hm52 ⟨⟨_, _, rfl⟩, rfl⟩ rfl hi rfl rfl ?_
  refine w_icmp_ge (q := 17) (X := x2.toInt) (Y := (m.1 80 (m.1 70 18).toNatClampNeg).toInt) hm52 ⟨⟨_, _, rfl⟩, rfl⟩ rfl rfl (fun hc => ?_) (fun hc => ?_)
  · have h := h.1 hc
    refine w_iload_n (q := 38) hm52 ⟨⟨_, _, rfl⟩, rfl⟩ rfl ?_
    exact w_reti hm52 ⟨⟨_, _, rfl⟩, rfl⟩ rfl h
  · have h := h.2 hc
    refine w_aload_n (q := 18) hm52 ⟨⟨_, _, rfl⟩, rfl⟩ rfl ?_
    refine w_iload_n (q := 19) hm52 ⟨⟨_, _, rfl⟩, rfl⟩ rfl ?_
    refine w_call (q := 22) (n := 0) (vs := [.inr (.inr (some 70)), .inl x2]) (rest := []) (la := [oR 70, oI x2]) hm52 ⟨⟨_, _, rfl⟩, rfl⟩ rfl rfl rfl rfl hm51 rfl rfl (fun _ => ⟨_, _, rfl, rfl⟩) rfl (Wp.mono h ?_)
    rintro _ m1 ⟨r1, rfl, h⟩
    change Wp _ _ 22 _ [.inl r1] _ _
    refine w_if_eq (q := 25) (X := r1.toInt) hm52 ⟨⟨_, _, rfl⟩, rfl⟩ rfl (fun hc => ?_) (fun hc => ?_)
    · have h := h.1 hc
      exact h
    · have h := h.2 hc
      refine w_iload_n (q := 26) hm52 ⟨⟨_, _, rfl⟩, rfl⟩ rfl ?_
      refine w_iconst (q := 27) hm52 ⟨⟨_, _, rfl⟩, rfl⟩ iconst_1 ?_
      refine w_iload_n (q := 28) hm52 ⟨⟨_, _, rfl⟩, rfl⟩ rfl ?_
      refine w_ishl (q := 29) hm52 ⟨⟨_, _, rfl⟩, rfl⟩ ?_
      refine w_ior (q := 30) hm52 ⟨⟨_, _, rfl⟩, rfl⟩ ?_
      refine w_istore_n (q := 31) (l' := [oR 70, oI (x1 ||| ((1 : Int32) <<< (x2 &&& 31))), oI x2]) hm52 ⟨⟨_, _, rfl⟩, rfl⟩ rfl rfl rfl ?_
      exact h
theorem v_X12_litBits_70_31 {d : Nat} {x1 : Int32} {x2 : Int32} {m : dM} {Q : Int32 → dM → Prop} (h : j_X12_litBits_70_4 (d + 1) x1 (x2 + (1 : Int32)) m Q) : j_X12_litBits_70_31 (d + 1) x1 x2 m Q := by
  refine w_iinc (q := 34) (l' := [oR 70, oI x1, oI (x2 + (1 : Int32))]) hm52 ⟨⟨_, _, rfl⟩, rfl⟩ rfl rfl rfl iconst_1 rfl ?_
  refine w_goto (q := 4) hm52 ⟨_, _, rfl⟩ ?_
  exact h
theorem v_X12_darkBits_70 {d : Nat} {m : dM} {Q : Int32 → dM → Prop} (h : ((0 ≤ (m.1 70 18).toInt ∧ (m.1 70 18).toInt < 2) ∧ c_X12_litBits_70 d m (fun r1 m1 => Q ((((1 : Int32) <<< ((m.1 80 (m.1 70 18).toNatClampNeg) &&& 31)) - (1 : Int32)) &&& (r1 ^^^ (-1 : Int32))) m1))) : c_X12_darkBits_70 (d + 1) m Q := by
  refine w_iconst (q := 1) hm98 ⟨⟨_, _, rfl⟩, rfl⟩ iconst_1 ?_
  refine w_aload_n (q := 2) hm98 ⟨⟨_, _, rfl⟩, rfl⟩ rfl ?_
  refine w_getr (q := 5) hm98 ⟨⟨_, _, rfl⟩, rfl⟩ rfl ?_
  refine w_aload_n (q := 6) hm98 ⟨⟨_, _, rfl⟩, rfl⟩ rfl ?_
  refine w_getf (q := 9) (v := (m.1 70 18)) hm98 ⟨⟨_, _, rfl⟩, rfl⟩ rfl rfl ?_
  obtain ⟨hi, h⟩ := h
  refine w_iald (q := 10) (v := (m.1 80 (m.1 70 18).toNatClampNeg)) hm98 ⟨⟨_, _, rfl⟩, rfl⟩ rfl hi rfl rfl ?_
  refine w_ishl (q := 11) hm98 ⟨⟨_, _, rfl⟩, rfl⟩ ?_
  refine w_iconst (q := 12) hm98 ⟨⟨_, _, rfl⟩, rfl⟩ iconst_1 ?_
  refine w_isub (q := 13) hm98 ⟨⟨_, _, rfl⟩, rfl⟩ ?_
  refine w_aload_n (q := 14) hm98 ⟨⟨_, _, rfl⟩, rfl⟩ rfl ?_
  refine w_call (q := 17) (n := 2) (vs := [.inr (.inr (some 70))]) (rest := [.inl (((1 : Int32) <<< ((m.1 80 (m.1 70 18).toNatClampNeg) &&& 31)) - (1 : Int32))]) (la := [oR 70, none, none]) hm98 ⟨⟨_, _, rfl⟩, rfl⟩ rfl rfl rfl rfl hm52 rfl rfl (fun _ => ⟨_, _, rfl, rfl⟩) rfl (Wp.mono h ?_)
  rintro _ m1 ⟨r1, rfl, h⟩
  change Wp _ _ 17 _ [.inl r1, .inl (((1 : Int32) <<< ((m.1 80 (m.1 70 18).toNatClampNeg) &&& 31)) - (1 : Int32))] _ _
  refine w_iconst (q := 18) hm98 ⟨⟨_, _, rfl⟩, rfl⟩ iconst_m1 ?_
  refine w_ixor (q := 19) hm98 ⟨⟨_, _, rfl⟩, rfl⟩ ?_
  refine w_iand (q := 20) hm98 ⟨⟨_, _, rfl⟩, rfl⟩ ?_
  exact w_reti hm98 ⟨⟨_, _, rfl⟩, rfl⟩ rfl h
theorem v_X12_without_70 {d : Nat} {x1 : Int32} {m : dM} {Q : Int32 → dM → Prop} (h : c_X12_isWire_70 d x1 m (fun r1 m1 => ((r1.toInt ≠ 0 → c_X12_loses_70 d ((1 : Int32) <<< (x1 &&& 31)) m1 (fun m2 => c_X12_darkBits_70 d m2 (fun r3 m3 => Q r3 m3))) ∧ (r1.toInt = 0 → Q (-1 : Int32) m1)))) : c_X12_without_70 (d + 1) x1 m Q := by
  refine w_aload_n (q := 1) hm99 ⟨⟨_, _, rfl⟩, rfl⟩ rfl ?_
  refine w_iload_n (q := 2) hm99 ⟨⟨_, _, rfl⟩, rfl⟩ rfl ?_
  refine w_call (q := 5) (n := 0) (vs := [.inr (.inr (some 70)), .inl x1]) (rest := []) (la := [oR 70, oI x1]) hm99 ⟨⟨_, _, rfl⟩, rfl⟩ rfl rfl rfl rfl hm40 rfl rfl (fun _ => ⟨_, _, rfl, rfl⟩) rfl (Wp.mono h ?_)
  rintro _ m1 ⟨r1, rfl, h⟩
  change Wp _ _ 5 _ [.inl r1] _ _
  refine w_if_ne (q := 8) (X := r1.toInt) hm99 ⟨⟨_, _, rfl⟩, rfl⟩ rfl (fun hc => ?_) (fun hc => ?_)
  · have h := h.1 hc
    refine w_aload_n (q := 11) hm99 ⟨⟨_, _, rfl⟩, rfl⟩ rfl ?_
    refine w_iconst (q := 12) hm99 ⟨⟨_, _, rfl⟩, rfl⟩ iconst_1 ?_
    refine w_iload_n (q := 13) hm99 ⟨⟨_, _, rfl⟩, rfl⟩ rfl ?_
    refine w_ishl (q := 14) hm99 ⟨⟨_, _, rfl⟩, rfl⟩ ?_
    refine w_call (q := 17) (n := 1) (vs := [.inr (.inr (some 70)), .inl ((1 : Int32) <<< (x1 &&& 31))]) (rest := []) (la := [oR 70, oI ((1 : Int32) <<< (x1 &&& 31)), none]) hm99 ⟨⟨_, _, rfl⟩, rfl⟩ rfl rfl rfl rfl hm92 rfl rfl (fun _ => ⟨_, _, rfl, rfl⟩) rfl (Wp.mono h ?_)
    rintro _ m2 ⟨rfl, h⟩
    change Wp _ _ 17 _ [] _ _
    refine w_aload_n (q := 18) hm99 ⟨⟨_, _, rfl⟩, rfl⟩ rfl ?_
    refine w_call (q := 21) (n := 0) (vs := [.inr (.inr (some 70))]) (rest := []) (la := [oR 70]) hm99 ⟨⟨_, _, rfl⟩, rfl⟩ rfl rfl rfl rfl hm98 rfl rfl (fun _ => ⟨_, _, rfl, rfl⟩) rfl (Wp.mono h ?_)
    rintro _ m3 ⟨r3, rfl, h⟩
    change Wp _ _ 21 _ [.inl r3] _ _
    exact w_reti hm99 ⟨⟨_, _, rfl⟩, rfl⟩ rfl h
  · have h := h.2 hc
    refine w_iconst (q := 9) hm99 ⟨⟨_, _, rfl⟩, rfl⟩ iconst_m1 ?_
    exact w_reti hm99 ⟨⟨_, _, rfl⟩, rfl⟩ rfl h
theorem v_X11_needed_0 {d : Nat} {m : dM} {Q : Int32 → dM → Prop} (h : c_X3_litWithout_2 d (m.1 47 3) m (fun r1 m1 => j_X11_needed_0_19 (d + 1) r1 (0 : Int32) (0 : Int32) m1 Q)) : c_X11_needed_0 (d + 1) m Q := by
  refine w_aload_n (q := 1) hm269 ⟨⟨_, _, rfl⟩, rfl⟩ rfl ?_
  refine w_getr (q := 4) hm269 ⟨⟨_, _, rfl⟩, rfl⟩ rfl ?_
  refine w_aload_n (q := 5) hm269 ⟨⟨_, _, rfl⟩, rfl⟩ rfl ?_
  refine w_getr (q := 8) hm269 ⟨⟨_, _, rfl⟩, rfl⟩ rfl ?_
  refine w_getf (q := 11) (v := (m.1 47 3)) hm269 ⟨⟨_, _, rfl⟩, rfl⟩ rfl rfl ?_
  refine w_call (q := 14) (n := 5) (vs := [.inr (.inr (some 2)), .inl (m.1 47 3)]) (rest := []) (la := [oR 2, oI (m.1 47 3), none, none, none, none, none]) hm269 ⟨⟨_, _, rfl⟩, rfl⟩ rfl rfl rfl rfl hm174 rfl rfl (fun _ => ⟨_, _, rfl, rfl⟩) rfl (Wp.mono h ?_)
  rintro _ m1 ⟨r1, rfl, h⟩
  change Wp _ _ 14 _ [.inl r1] _ _
  refine w_istore_n (q := 15) (l' := [oR 0, oI r1, none, none]) hm269 ⟨⟨_, _, rfl⟩, rfl⟩ rfl rfl rfl ?_
  refine w_iconst (q := 16) hm269 ⟨⟨_, _, rfl⟩, rfl⟩ iconst_0 ?_
  refine w_istore_n (q := 17) (l' := [oR 0, oI r1, oI (0 : Int32), none]) hm269 ⟨⟨_, _, rfl⟩, rfl⟩ rfl rfl rfl ?_
  refine w_iconst (q := 18) hm269 ⟨⟨_, _, rfl⟩, rfl⟩ iconst_0 ?_
  refine w_istore_n (q := 19) (l' := [oR 0, oI r1, oI (0 : Int32), oI (0 : Int32)]) hm269 ⟨⟨_, _, rfl⟩, rfl⟩ rfl rfl rfl ?_
  exact h
theorem v_X11_needed_0_19 {d : Nat} {x1 : Int32} {x2 : Int32} {x3 : Int32} {m : dM} {Q : Int32 → dM → Prop} (h : (((m.1 2 1).toInt ≤ x3.toInt → Q x2 m) ∧ (x3.toInt < (m.1 2 1).toInt → c_X11_has d (m.1 47 3) x3 m (fun r1 m1 => ((r1.toInt ≠ 0 → j_X11_needed_0_72 (d + 1) x1 x2 x3 m1 Q) ∧ (r1.toInt = 0 → c_X3_litWithout_2 d ((m1.1 47 3) ||| ((1 : Int32) <<< (x3 &&& 31))) m1 (fun r2 m2 => ((r2.toInt = x1.toInt → j_X11_needed_0_72 (d + 1) x1 x2 x3 m2 Q) ∧ (r2.toInt ≠ x1.toInt → j_X11_needed_0_72 (d + 1) x1 (x2 ||| ((1 : Int32) <<< (x3 &&& 31))) x3 m2 Q))))))))) : j_X11_needed_0_19 (d + 1) x1 x2 x3 m Q := by
  refine w_iload_n (q := 20) hm269 ⟨⟨_, _, rfl⟩, rfl⟩ rfl ?_
  refine w_aload_n (q := 21) hm269 ⟨⟨_, _, rfl⟩, rfl⟩ rfl ?_
  refine w_getr (q := 24) hm269 ⟨⟨_, _, rfl⟩, rfl⟩ rfl ?_
  refine w_getf (q := 27) (v := (m.1 2 1)) hm269 ⟨⟨_, _, rfl⟩, rfl⟩ rfl rfl ?_
  refine w_icmp_ge (q := 30) (X := x3.toInt) (Y := (m.1 2 1).toInt) hm269 ⟨⟨_, _, rfl⟩, rfl⟩ rfl rfl (fun hc => ?_) (fun hc => ?_)
  · have h := h.1 hc
    refine w_iload_n (q := 79) hm269 ⟨⟨_, _, rfl⟩, rfl⟩ rfl ?_
    exact w_reti hm269 ⟨⟨_, _, rfl⟩, rfl⟩ rfl h
  · have h := h.2 hc
    refine w_aload_n (q := 31) hm269 ⟨⟨_, _, rfl⟩, rfl⟩ rfl ?_
    refine w_getr (q := 34) hm269 ⟨⟨_, _, rfl⟩, rfl⟩ rfl ?_
    refine w_getf (q := 37) (v := (m.1 47 3)) hm269 ⟨⟨_, _, rfl⟩, rfl⟩ rfl rfl ?_
    refine w_iload_n (q := 38) hm269 ⟨⟨_, _, rfl⟩, rfl⟩ rfl ?_
    refine w_call (q := 41) (n := 0) (vs := [.inl (m.1 47 3), .inl x3]) (rest := []) (la := [oI (m.1 47 3), oI x3]) hm269 ⟨⟨_, _, rfl⟩, rfl⟩ rfl rfl rfl rfl hm283 rfl rfl (fun hz => absurd hz (by decide)) rfl (Wp.mono h ?_)
    rintro _ m1 ⟨r1, rfl, h⟩
    change Wp _ _ 41 _ [.inl r1] _ _
    refine w_if_ne (q := 44) (X := r1.toInt) hm269 ⟨⟨_, _, rfl⟩, rfl⟩ rfl (fun hc => ?_) (fun hc => ?_)
    · have h := h.1 hc
      exact h
    · have h := h.2 hc
      refine w_aload_n (q := 45) hm269 ⟨⟨_, _, rfl⟩, rfl⟩ rfl ?_
      refine w_getr (q := 48) hm269 ⟨⟨_, _, rfl⟩, rfl⟩ rfl ?_
      refine w_aload_n (q := 49) hm269 ⟨⟨_, _, rfl⟩, rfl⟩ rfl ?_
      refine w_getr (q := 52) hm269 ⟨⟨_, _, rfl⟩, rfl⟩ rfl ?_
      refine w_getf (q := 55) (v := (m1.1 47 3)) hm269 ⟨⟨_, _, rfl⟩, rfl⟩ rfl rfl ?_
      refine w_iconst (q := 56) hm269 ⟨⟨_, _, rfl⟩, rfl⟩ iconst_1 ?_
      refine w_iload_n (q := 57) hm269 ⟨⟨_, _, rfl⟩, rfl⟩ rfl ?_
      refine w_ishl (q := 58) hm269 ⟨⟨_, _, rfl⟩, rfl⟩ ?_
      refine w_ior (q := 59) hm269 ⟨⟨_, _, rfl⟩, rfl⟩ ?_
      refine w_call (q := 62) (n := 5) (vs := [.inr (.inr (some 2)), .inl ((m1.1 47 3) ||| ((1 : Int32) <<< (x3 &&& 31)))]) (rest := []) (la := [oR 2, oI ((m1.1 47 3) ||| ((1 : Int32) <<< (x3 &&& 31))), none, none, none, none, none]) hm269 ⟨⟨_, _, rfl⟩, rfl⟩ rfl rfl rfl rfl hm174 rfl rfl (fun _ => ⟨_, _, rfl, rfl⟩) rfl (Wp.mono h ?_)
      rintro _ m2 ⟨r2, rfl, h⟩
      change Wp _ _ 62 _ [.inl r2] _ _
      refine w_iload_n (q := 63) hm269 ⟨⟨_, _, rfl⟩, rfl⟩ rfl ?_
      refine w_icmp_eq (q := 66) (X := r2.toInt) (Y := x1.toInt) hm269 ⟨⟨_, _, rfl⟩, rfl⟩ rfl rfl (fun hc => ?_) (fun hc => ?_)
      · have h := h.1 hc
        exact h
      · have h := h.2 hc
        refine w_iload_n (q := 67) hm269 ⟨⟨_, _, rfl⟩, rfl⟩ rfl ?_
        refine w_iconst (q := 68) hm269 ⟨⟨_, _, rfl⟩, rfl⟩ iconst_1 ?_
        refine w_iload_n (q := 69) hm269 ⟨⟨_, _, rfl⟩, rfl⟩ rfl ?_
        refine w_ishl (q := 70) hm269 ⟨⟨_, _, rfl⟩, rfl⟩ ?_
        refine w_ior (q := 71) hm269 ⟨⟨_, _, rfl⟩, rfl⟩ ?_
        refine w_istore_n (q := 72) (l' := [oR 0, oI x1, oI (x2 ||| ((1 : Int32) <<< (x3 &&& 31))), oI x3]) hm269 ⟨⟨_, _, rfl⟩, rfl⟩ rfl rfl rfl ?_
        exact h
theorem v_X11_needed_0_72 {d : Nat} {x1 : Int32} {x2 : Int32} {x3 : Int32} {m : dM} {Q : Int32 → dM → Prop} (h : j_X11_needed_0_19 (d + 1) x1 x2 (x3 + (1 : Int32)) m Q) : j_X11_needed_0_72 (d + 1) x1 x2 x3 m Q := by
  refine w_iinc (q := 75) (l' := [oR 0, oI x1, oI x2, oI (x3 + (1 : Int32))]) hm269 ⟨⟨_, _, rfl⟩, rfl⟩ rfl rfl rfl iconst_1 rfl ?_
  refine w_goto (q := 19) hm269 ⟨_, _, rfl⟩ ?_
  exact h
theorem v_X12_needed_70 {d : Nat} {m : dM} {Q : Int32 → dM → Prop} (h : c_X12_copies_70 d m (fun m1 => c_X12_darkBits_70 d m1 (fun r2 m2 => j_X12_needed_70_13 (d + 1) r2 (0 : Int32) (0 : Int32) m2 Q))) : c_X12_needed_70 (d + 1) m Q := by
  refine w_aload_n (q := 1) hm100 ⟨⟨_, _, rfl⟩, rfl⟩ rfl ?_
  refine w_call (q := 4) (n := 1) (vs := [.inr (.inr (some 70))]) (rest := []) (la := [oR 70, none]) hm100 ⟨⟨_, _, rfl⟩, rfl⟩ rfl rfl rfl rfl hm44 rfl rfl (fun _ => ⟨_, _, rfl, rfl⟩) rfl (Wp.mono h ?_)
  rintro _ m1 ⟨rfl, h⟩
  change Wp _ _ 4 _ [] _ _
  refine w_aload_n (q := 5) hm100 ⟨⟨_, _, rfl⟩, rfl⟩ rfl ?_
  refine w_call (q := 8) (n := 0) (vs := [.inr (.inr (some 70))]) (rest := []) (la := [oR 70]) hm100 ⟨⟨_, _, rfl⟩, rfl⟩ rfl rfl rfl rfl hm98 rfl rfl (fun _ => ⟨_, _, rfl, rfl⟩) rfl (Wp.mono h ?_)
  rintro _ m2 ⟨r2, rfl, h⟩
  change Wp _ _ 8 _ [.inl r2] _ _
  refine w_istore_n (q := 9) (l' := [oR 70, oI r2, none, none]) hm100 ⟨⟨_, _, rfl⟩, rfl⟩ rfl rfl rfl ?_
  refine w_iconst (q := 10) hm100 ⟨⟨_, _, rfl⟩, rfl⟩ iconst_0 ?_
  refine w_istore_n (q := 11) (l' := [oR 70, oI r2, oI (0 : Int32), none]) hm100 ⟨⟨_, _, rfl⟩, rfl⟩ rfl rfl rfl ?_
  refine w_iconst (q := 12) hm100 ⟨⟨_, _, rfl⟩, rfl⟩ iconst_0 ?_
  refine w_istore_n (q := 13) (l' := [oR 70, oI r2, oI (0 : Int32), oI (0 : Int32)]) hm100 ⟨⟨_, _, rfl⟩, rfl⟩ rfl rfl rfl ?_
  exact h
theorem v_X12_needed_70_13 {d : Nat} {x1 : Int32} {x2 : Int32} {x3 : Int32} {m : dM} {Q : Int32 → dM → Prop} (h : ((0 ≤ (m.1 70 18).toInt ∧ (m.1 70 18).toInt < 2) ∧ (((m.1 82 (m.1 70 18).toNatClampNeg).toInt ≤ x3.toInt → Q x2 m) ∧ (x3.toInt < (m.1 82 (m.1 70 18).toNatClampNeg).toInt → ((0 ≤ ((10 : Int32) + x3).toInt ∧ ((10 : Int32) + x3).toInt < 58) ∧ (((m.1 107 ((10 : Int32) + x3).toNatClampNeg).toInt ≠ 1 → c_X12_loses_70 d ((1 : Int32) <<< (x3 &&& 31)) m (fun m1 => c_X12_darkBits_70 d m1 (fun r2 m2 => ((r2.toInt = x1.toInt → j_X12_needed_70_63 (d + 1) x1 x2 x3 m2 Q) ∧ (r2.toInt ≠ x1.toInt → j_X12_needed_70_63 (d + 1) x1 (x2 ||| ((1 : Int32) <<< (x3 &&& 31))) x3 m2 Q))))) ∧ ((m.1 107 ((10 : Int32) + x3).toNatClampNeg).toInt = 1 → j_X12_needed_70_63 (d + 1) x1 x2 x3 m Q))))))) : j_X12_needed_70_13 (d + 1) x1 x2 x3 m Q := by
  refine w_iload_n (q := 14) hm100 ⟨⟨_, _, rfl⟩, rfl⟩ rfl ?_
  refine w_aload_n (q := 15) hm100 ⟨⟨_, _, rfl⟩, rfl⟩ rfl ?_
  refine w_getr (q := 18) hm100 ⟨⟨_, _, rfl⟩, rfl⟩ rfl ?_
  refine w_aload_n (q := 19) hm100 ⟨⟨_, _, rfl⟩, rfl⟩ rfl ?_
  refine w_getf (q := 22) (v := (m.1 70 18)) hm100 ⟨⟨_, _, rfl⟩, rfl⟩ rfl rfl ?_
  obtain ⟨hi, h⟩ := h
  refine w_iald (q := 23) (v := (m.1 82 (m.1 70 18).toNatClampNeg)) hm100 ⟨⟨_, _, rfl⟩, rfl⟩ rfl hi rfl rfl ?_
  refine w_icmp_ge (q := 26) (X := x3.toInt) (Y := (m.1 82 (m.1 70 18).toNatClampNeg).toInt) hm100 ⟨⟨_, _, rfl⟩, rfl⟩ rfl rfl (fun hc => ?_) (fun hc => ?_)
  · have h := h.1 hc
    refine w_iload_n (q := 70) hm100 ⟨⟨_, _, rfl⟩, rfl⟩ rfl ?_
    exact w_reti hm100 ⟨⟨_, _, rfl⟩, rfl⟩ rfl h
  · have h := h.2 hc
    refine w_aload_n (q := 27) hm100 ⟨⟨_, _, rfl⟩, rfl⟩ rfl ?_
    refine w_getr (q := 30) hm100 ⟨⟨_, _, rfl⟩, rfl⟩ rfl ?_
    refine w_bipush (q := 32) hm100 ⟨⟨_, _, rfl⟩, rfl⟩ bipush_10 ?_
    refine w_iload_n (q := 33) hm100 ⟨⟨_, _, rfl⟩, rfl⟩ rfl ?_
    refine w_iadd (q := 34) hm100 ⟨⟨_, _, rfl⟩, rfl⟩ ?_
    obtain ⟨hi, h⟩ := h
    refine w_iald (q := 35) (v := (m.1 107 ((10 : Int32) + x3).toNatClampNeg)) hm100 ⟨⟨_, _, rfl⟩, rfl⟩ rfl hi rfl rfl ?_
    refine w_iconst (q := 36) hm100 ⟨⟨_, _, rfl⟩, rfl⟩ iconst_1 ?_
    refine w_icmp_ne (q := 39) (X := (m.1 107 ((10 : Int32) + x3).toNatClampNeg).toInt) (Y := 1) hm100 ⟨⟨_, _, rfl⟩, rfl⟩ rfl (by decide) (fun hc => ?_) (fun hc => ?_)
    · have h := h.1 hc
      refine w_aload_n (q := 43) hm100 ⟨⟨_, _, rfl⟩, rfl⟩ rfl ?_
      refine w_iconst (q := 44) hm100 ⟨⟨_, _, rfl⟩, rfl⟩ iconst_1 ?_
      refine w_iload_n (q := 45) hm100 ⟨⟨_, _, rfl⟩, rfl⟩ rfl ?_
      refine w_ishl (q := 46) hm100 ⟨⟨_, _, rfl⟩, rfl⟩ ?_
      refine w_call (q := 49) (n := 1) (vs := [.inr (.inr (some 70)), .inl ((1 : Int32) <<< (x3 &&& 31))]) (rest := []) (la := [oR 70, oI ((1 : Int32) <<< (x3 &&& 31)), none]) hm100 ⟨⟨_, _, rfl⟩, rfl⟩ rfl rfl rfl rfl hm92 rfl rfl (fun _ => ⟨_, _, rfl, rfl⟩) rfl (Wp.mono h ?_)
      rintro _ m1 ⟨rfl, h⟩
      change Wp _ _ 49 _ [] _ _
      refine w_aload_n (q := 50) hm100 ⟨⟨_, _, rfl⟩, rfl⟩ rfl ?_
      refine w_call (q := 53) (n := 0) (vs := [.inr (.inr (some 70))]) (rest := []) (la := [oR 70]) hm100 ⟨⟨_, _, rfl⟩, rfl⟩ rfl rfl rfl rfl hm98 rfl rfl (fun _ => ⟨_, _, rfl, rfl⟩) rfl (Wp.mono h ?_)
      rintro _ m2 ⟨r2, rfl, h⟩
      change Wp _ _ 53 _ [.inl r2] _ _
      refine w_iload_n (q := 54) hm100 ⟨⟨_, _, rfl⟩, rfl⟩ rfl ?_
      refine w_icmp_eq (q := 57) (X := r2.toInt) (Y := x1.toInt) hm100 ⟨⟨_, _, rfl⟩, rfl⟩ rfl rfl (fun hc => ?_) (fun hc => ?_)
      · have h := h.1 hc
        exact h
      · have h := h.2 hc
        refine w_iload_n (q := 58) hm100 ⟨⟨_, _, rfl⟩, rfl⟩ rfl ?_
        refine w_iconst (q := 59) hm100 ⟨⟨_, _, rfl⟩, rfl⟩ iconst_1 ?_
        refine w_iload_n (q := 60) hm100 ⟨⟨_, _, rfl⟩, rfl⟩ rfl ?_
        refine w_ishl (q := 61) hm100 ⟨⟨_, _, rfl⟩, rfl⟩ ?_
        refine w_ior (q := 62) hm100 ⟨⟨_, _, rfl⟩, rfl⟩ ?_
        refine w_istore_n (q := 63) (l' := [oR 70, oI x1, oI (x2 ||| ((1 : Int32) <<< (x3 &&& 31))), oI x3]) hm100 ⟨⟨_, _, rfl⟩, rfl⟩ rfl rfl rfl ?_
        exact h
    · have h := h.2 hc
      refine w_goto (q := 63) hm100 ⟨_, _, rfl⟩ ?_
      exact h
theorem v_X12_needed_70_63 {d : Nat} {x1 : Int32} {x2 : Int32} {x3 : Int32} {m : dM} {Q : Int32 → dM → Prop} (h : j_X12_needed_70_13 (d + 1) x1 x2 (x3 + (1 : Int32)) m Q) : j_X12_needed_70_63 (d + 1) x1 x2 x3 m Q := by
  refine w_iinc (q := 66) (l' := [oR 70, oI x1, oI x2, oI (x3 + (1 : Int32))]) hm100 ⟨⟨_, _, rfl⟩, rfl⟩ rfl rfl rfl iconst_1 rfl ?_
  refine w_goto (q := 13) hm100 ⟨_, _, rfl⟩ ?_
  exact h
theorem v_X11_hottest_0 {d : Nat} {x1 : Int32} {m : dM} {Q : Int32 → dM → Prop} (h : ((x1.toInt < 0 → j_X11_hottest_0_9 (d + 1) m Q) ∧ (0 ≤ x1.toInt → ((x1.toInt ≤ 1 → c_X0_usesNow_54_47 d m (fun r1 m1 => c_X0_putOn_54_47 d r1 m1 (fun m2 => j_X11_hottest_0_42 (d + 1) x1 (-1 : Int32) (0 : Int32) (0 : Int32) m2 Q))) ∧ (1 < x1.toInt → j_X11_hottest_0_9 (d + 1) m Q))))) : c_X11_hottest_0 (d + 1) x1 m Q := by
  refine w_iload_n (q := 1) hm270 ⟨⟨_, _, rfl⟩, rfl⟩ rfl ?_
  refine w_if_lt (q := 4) (X := x1.toInt) hm270 ⟨⟨_, _, rfl⟩, rfl⟩ rfl (fun hc => ?_) (fun hc => ?_)
  · have h := h.1 hc
    exact Wp.wk [false, false, false, false, false, false] h
  · have h := h.2 hc
    refine w_iload_n (q := 5) hm270 ⟨⟨_, _, rfl⟩, rfl⟩ rfl ?_
    refine w_iconst (q := 6) hm270 ⟨⟨_, _, rfl⟩, rfl⟩ iconst_1 ?_
    refine w_icmp_le (q := 9) (X := x1.toInt) (Y := 1) hm270 ⟨⟨_, _, rfl⟩, rfl⟩ rfl (by decide) (fun hc => ?_) (fun hc => ?_)
    · have h := h.1 hc
      refine w_aload_n (q := 14) hm270 ⟨⟨_, _, rfl⟩, rfl⟩ rfl ?_
      refine w_getr (q := 17) hm270 ⟨⟨_, _, rfl⟩, rfl⟩ rfl ?_
      refine w_aload_n (q := 18) hm270 ⟨⟨_, _, rfl⟩, rfl⟩ rfl ?_
      refine w_getr (q := 21) hm270 ⟨⟨_, _, rfl⟩, rfl⟩ rfl ?_
      refine w_aload_n (q := 22) hm270 ⟨⟨_, _, rfl⟩, rfl⟩ rfl ?_
      refine w_getr (q := 25) hm270 ⟨⟨_, _, rfl⟩, rfl⟩ rfl ?_
      refine w_aload_n (q := 26) hm270 ⟨⟨_, _, rfl⟩, rfl⟩ rfl ?_
      refine w_getr (q := 29) hm270 ⟨⟨_, _, rfl⟩, rfl⟩ rfl ?_
      refine w_call (q := 32) (n := 0) (vs := [.inr (.inr (some 54)), .inr (.inr (some 47))]) (rest := [.inr (.inr (some 47)), .inr (.inr (some 54))]) (la := [oR 54, oR 47]) hm270 ⟨⟨_, _, rfl⟩, rfl⟩ rfl rfl rfl rfl hm117 rfl rfl (fun _ => ⟨_, _, rfl, rfl⟩) rfl (Wp.mono h ?_)
      rintro _ m1 ⟨r1, rfl, h⟩
      change Wp _ _ 32 _ [.inl r1, .inr (.inr (some 47)), .inr (.inr (some 54))] _ _
      refine w_call (q := 35) (n := 3) (vs := [.inr (.inr (some 54)), .inr (.inr (some 47)), .inl r1]) (rest := []) (la := [oR 54, oR 47, oI r1, none, none, none]) hm270 ⟨⟨_, _, rfl⟩, rfl⟩ rfl rfl rfl rfl hm120 rfl rfl (fun _ => ⟨_, _, rfl, rfl⟩) rfl (Wp.mono h ?_)
      rintro _ m2 ⟨rfl, h⟩
      change Wp _ _ 35 _ [] _ _
      refine w_iconst (q := 36) hm270 ⟨⟨_, _, rfl⟩, rfl⟩ iconst_m1 ?_
      refine w_istore_n (q := 37) (l' := [oR 0, oI x1, oI (-1 : Int32), none, none, none]) hm270 ⟨⟨_, _, rfl⟩, rfl⟩ rfl rfl rfl ?_
      refine w_iconst (q := 38) hm270 ⟨⟨_, _, rfl⟩, rfl⟩ iconst_0 ?_
      refine w_istore_n (q := 39) (l' := [oR 0, oI x1, oI (-1 : Int32), oI (0 : Int32), none, none]) hm270 ⟨⟨_, _, rfl⟩, rfl⟩ rfl rfl rfl ?_
      refine w_iconst (q := 40) hm270 ⟨⟨_, _, rfl⟩, rfl⟩ iconst_0 ?_
      refine w_istore (q := 42) (l' := [oR 0, oI x1, oI (-1 : Int32), oI (0 : Int32), oI (0 : Int32), none]) hm270 ⟨⟨_, _, rfl⟩, rfl⟩ rfl rfl rfl ?_
      exact h
    · have h := h.2 hc
      exact Wp.wk [false, false, false, false, false, false] h
theorem v_X11_hottest_0_9 {d : Nat} {m : dM} {Q : Int32 → dM → Prop} (h : Q (-1000 : Int32) m) : j_X11_hottest_0_9 (d + 1) m Q := by
  refine w_sipush (q := 12) hm270 ⟨⟨_, _, rfl⟩, rfl⟩ sipush_m1000 ?_
  exact w_reti hm270 ⟨⟨_, _, rfl⟩, rfl⟩ rfl h
theorem v_X11_hottest_0_42 {d : Nat} {x1 : Int32} {x2 : Int32} {x3 : Int32} {x4 : Int32} {m : dM} {Q : Int32 → dM → Prop} (h : (((m.1 2 1).toInt ≤ x4.toInt → ((x2.toInt ≠ (-1) → ((x1.toInt ≠ 0 → Q x3 m) ∧ (x1.toInt = 0 → Q x2 m))) ∧ (x2.toInt = (-1) → Q (-2000 : Int32) m))) ∧ (x4.toInt < (m.1 2 1).toInt → ((0 ≤ x4.toInt ∧ x4.toInt < 10) ∧ ((0 ≤ x4.toInt ∧ x4.toInt < 10) ∧ c_X11_has d (m.1 47 3) x4 m (fun r1 m1 => ((r1.toInt ≠ 0 → j_X11_hottest_0_109 (d + 1) x1 x2 x3 x4 m1 Q) ∧ (r1.toInt = 0 → ((x2.toInt = (-1) → j_X11_hottest_0_103 (d + 1) x1 x4 ((m.1 56 x4.toNatClampNeg) - (m.1 48 x4.toNatClampNeg)) m1 Q) ∧ (x2.toInt ≠ (-1) → ((((m.1 56 x4.toNatClampNeg) - (m.1 48 x4.toNatClampNeg)).toInt ≤ x3.toInt → j_X11_hottest_0_109 (d + 1) x1 x2 x3 x4 m1 Q) ∧ (x3.toInt < ((m.1 56 x4.toNatClampNeg) - (m.1 48 x4.toNatClampNeg)).toInt → j_X11_hottest_0_103 (d + 1) x1 x4 ((m.1 56 x4.toNatClampNeg) - (m.1 48 x4.toNatClampNeg)) m1 Q)))))))))))) : j_X11_hottest_0_42 (d + 1) x1 x2 x3 x4 m Q := by
  refine w_iload (q := 44) hm270 ⟨⟨_, _, rfl⟩, rfl⟩ rfl ?_
  refine w_aload_n (q := 45) hm270 ⟨⟨_, _, rfl⟩, rfl⟩ rfl ?_
  refine w_getr (q := 48) hm270 ⟨⟨_, _, rfl⟩, rfl⟩ rfl ?_
  refine w_getf (q := 51) (v := (m.1 2 1)) hm270 ⟨⟨_, _, rfl⟩, rfl⟩ rfl rfl ?_
  refine w_icmp_ge (q := 54) (X := x4.toInt) (Y := (m.1 2 1).toInt) hm270 ⟨⟨_, _, rfl⟩, rfl⟩ rfl rfl (fun hc => ?_) (fun hc => ?_)
  · have h := h.1 hc
    refine w_iload_n (q := 116) hm270 ⟨⟨_, _, rfl⟩, rfl⟩ rfl ?_
    refine w_iconst (q := 117) hm270 ⟨⟨_, _, rfl⟩, rfl⟩ iconst_m1 ?_
    refine w_icmp_ne (q := 120) (X := x2.toInt) (Y := (-1)) hm270 ⟨⟨_, _, rfl⟩, rfl⟩ rfl (by decide) (fun hc => ?_) (fun hc => ?_)
    · have h := h.1 hc
      refine w_iload_n (q := 125) hm270 ⟨⟨_, _, rfl⟩, rfl⟩ rfl ?_
      refine w_if_ne (q := 128) (X := x1.toInt) hm270 ⟨⟨_, _, rfl⟩, rfl⟩ rfl (fun hc => ?_) (fun hc => ?_)
      · have h := h.1 hc
        refine w_iload_n (q := 133) hm270 ⟨⟨_, _, rfl⟩, rfl⟩ rfl ?_
        exact w_reti hm270 ⟨⟨_, _, rfl⟩, rfl⟩ rfl h
      · have h := h.2 hc
        refine w_iload_n (q := 129) hm270 ⟨⟨_, _, rfl⟩, rfl⟩ rfl ?_
        refine w_goto (q := 133) hm270 ⟨_, _, rfl⟩ ?_
        exact w_reti hm270 ⟨⟨_, _, rfl⟩, rfl⟩ rfl h
    · have h := h.2 hc
      refine w_sipush (q := 123) hm270 ⟨⟨_, _, rfl⟩, rfl⟩ sipush_m2000 ?_
      exact w_reti hm270 ⟨⟨_, _, rfl⟩, rfl⟩ rfl h
  · have h := h.2 hc
    refine w_aload_n (q := 55) hm270 ⟨⟨_, _, rfl⟩, rfl⟩ rfl ?_
    refine w_getr (q := 58) hm270 ⟨⟨_, _, rfl⟩, rfl⟩ rfl ?_
    refine w_getr (q := 61) hm270 ⟨⟨_, _, rfl⟩, rfl⟩ rfl ?_
    refine w_iload (q := 63) hm270 ⟨⟨_, _, rfl⟩, rfl⟩ rfl ?_
    obtain ⟨hi, h⟩ := h
    refine w_iald (q := 64) (v := (m.1 56 x4.toNatClampNeg)) hm270 ⟨⟨_, _, rfl⟩, rfl⟩ rfl hi rfl rfl ?_
    refine w_aload_n (q := 65) hm270 ⟨⟨_, _, rfl⟩, rfl⟩ rfl ?_
    refine w_getr (q := 68) hm270 ⟨⟨_, _, rfl⟩, rfl⟩ rfl ?_
    refine w_getr (q := 71) hm270 ⟨⟨_, _, rfl⟩, rfl⟩ rfl ?_
    refine w_iload (q := 73) hm270 ⟨⟨_, _, rfl⟩, rfl⟩ rfl ?_
    obtain ⟨hi, h⟩ := h
    refine w_iald (q := 74) (v := (m.1 48 x4.toNatClampNeg)) hm270 ⟨⟨_, _, rfl⟩, rfl⟩ rfl hi rfl rfl ?_
    refine w_isub (q := 75) hm270 ⟨⟨_, _, rfl⟩, rfl⟩ ?_
    refine w_istore (q := 77) (l' := [oR 0, oI x1, oI x2, oI x3, oI x4, oI ((m.1 56 x4.toNatClampNeg) - (m.1 48 x4.toNatClampNeg))]) hm270 ⟨⟨_, _, rfl⟩, rfl⟩ rfl rfl rfl ?_
    refine w_aload_n (q := 78) hm270 ⟨⟨_, _, rfl⟩, rfl⟩ rfl ?_
    refine w_getr (q := 81) hm270 ⟨⟨_, _, rfl⟩, rfl⟩ rfl ?_
    refine w_getf (q := 84) (v := (m.1 47 3)) hm270 ⟨⟨_, _, rfl⟩, rfl⟩ rfl rfl ?_
    refine w_iload (q := 86) hm270 ⟨⟨_, _, rfl⟩, rfl⟩ rfl ?_
    refine w_call (q := 89) (n := 0) (vs := [.inl (m.1 47 3), .inl x4]) (rest := []) (la := [oI (m.1 47 3), oI x4]) hm270 ⟨⟨_, _, rfl⟩, rfl⟩ rfl rfl rfl rfl hm283 rfl rfl (fun hz => absurd hz (by decide)) rfl (Wp.mono h ?_)
    rintro _ m1 ⟨r1, rfl, h⟩
    change Wp _ _ 89 _ [.inl r1] _ _
    refine w_if_ne (q := 92) (X := r1.toInt) hm270 ⟨⟨_, _, rfl⟩, rfl⟩ rfl (fun hc => ?_) (fun hc => ?_)
    · have h := h.1 hc
      exact Wp.wk [true, true, true, true, true, false] h
    · have h := h.2 hc
      refine w_iload_n (q := 93) hm270 ⟨⟨_, _, rfl⟩, rfl⟩ rfl ?_
      refine w_iconst (q := 94) hm270 ⟨⟨_, _, rfl⟩, rfl⟩ iconst_m1 ?_
      refine w_icmp_eq (q := 97) (X := x2.toInt) (Y := (-1)) hm270 ⟨⟨_, _, rfl⟩, rfl⟩ rfl (by decide) (fun hc => ?_) (fun hc => ?_)
      · have h := h.1 hc
        exact Wp.wk [true, true, false, false, true, true] h
      · have h := h.2 hc
        refine w_iload (q := 99) hm270 ⟨⟨_, _, rfl⟩, rfl⟩ rfl ?_
        refine w_iload_n (q := 100) hm270 ⟨⟨_, _, rfl⟩, rfl⟩ rfl ?_
        refine w_icmp_le (q := 103) (X := ((m.1 56 x4.toNatClampNeg) - (m.1 48 x4.toNatClampNeg)).toInt) (Y := x3.toInt) hm270 ⟨⟨_, _, rfl⟩, rfl⟩ rfl rfl (fun hc => ?_) (fun hc => ?_)
        · have h := h.1 hc
          exact Wp.wk [true, true, true, true, true, false] h
        · have h := h.2 hc
          exact Wp.wk [true, true, false, false, true, true] h
theorem v_X11_hottest_0_103 {d : Nat} {x1 : Int32} {x4 : Int32} {x5 : Int32} {m : dM} {Q : Int32 → dM → Prop} (h : j_X11_hottest_0_109 (d + 1) x1 x4 x5 x4 m Q) : j_X11_hottest_0_103 (d + 1) x1 x4 x5 m Q := by
  refine w_iload (q := 105) hm270 ⟨⟨_, _, rfl⟩, rfl⟩ rfl ?_
  refine w_istore_n (q := 106) (l' := [oR 0, oI x1, oI x4, none, oI x4, oI x5]) hm270 ⟨⟨_, _, rfl⟩, rfl⟩ rfl rfl rfl ?_
  refine w_iload (q := 108) hm270 ⟨⟨_, _, rfl⟩, rfl⟩ rfl ?_
  refine w_istore_n (q := 109) (l' := [oR 0, oI x1, oI x4, oI x5, oI x4, oI x5]) hm270 ⟨⟨_, _, rfl⟩, rfl⟩ rfl rfl rfl ?_
  exact Wp.wk [true, true, true, true, true, false] h
theorem v_X11_hottest_0_109 {d : Nat} {x1 : Int32} {x2 : Int32} {x3 : Int32} {x4 : Int32} {m : dM} {Q : Int32 → dM → Prop} (h : j_X11_hottest_0_42 (d + 1) x1 x2 x3 (x4 + (1 : Int32)) m Q) : j_X11_hottest_0_109 (d + 1) x1 x2 x3 x4 m Q := by
  refine w_iinc (q := 112) (l' := [oR 0, oI x1, oI x2, oI x3, oI (x4 + (1 : Int32)), none]) hm270 ⟨⟨_, _, rfl⟩, rfl⟩ rfl rfl rfl iconst_1 rfl ?_
  refine w_goto (q := 42) hm270 ⟨_, _, rfl⟩ ?_
  exact h
theorem v_X12_hottest_70 {d : Nat} {x1 : Int32} {m : dM} {Q : Int32 → dM → Prop} (h : c_X12_in d x1 (0 : Int32) (1 : Int32) m (fun r1 m1 => ((r1.toInt ≠ 0 → c_X12_copies_70 d m1 (fun m2 => c_X12_onNow_70 d m2 (fun r3 m3 => j_X12_hottest_70_34 (d + 1) x1 r3 (-2000 : Int32) (-2000 : Int32) (0 : Int32) m3 Q))) ∧ (r1.toInt = 0 → Q (-1000 : Int32) m1)))) : c_X12_hottest_70 (d + 1) x1 m Q := by
  refine w_iload_n (q := 1) hm101 ⟨⟨_, _, rfl⟩, rfl⟩ rfl ?_
  refine w_iconst (q := 2) hm101 ⟨⟨_, _, rfl⟩, rfl⟩ iconst_0 ?_
  refine w_iconst (q := 3) hm101 ⟨⟨_, _, rfl⟩, rfl⟩ iconst_1 ?_
  refine w_call (q := 6) (n := 0) (vs := [.inl x1, .inl (0 : Int32), .inl (1 : Int32)]) (rest := []) (la := [oI x1, oI (0 : Int32), oI (1 : Int32)]) hm101 ⟨⟨_, _, rfl⟩, rfl⟩ rfl rfl rfl rfl hm36 rfl rfl (fun hz => absurd hz (by decide)) rfl (Wp.mono h ?_)
  rintro _ m1 ⟨r1, rfl, h⟩
  change Wp _ _ 6 _ [.inl r1] _ _
  refine w_if_ne (q := 9) (X := r1.toInt) hm101 ⟨⟨_, _, rfl⟩, rfl⟩ rfl (fun hc => ?_) (fun hc => ?_)
  · have h := h.1 hc
    refine w_aload_n (q := 14) hm101 ⟨⟨_, _, rfl⟩, rfl⟩ rfl ?_
    refine w_call (q := 17) (n := 1) (vs := [.inr (.inr (some 70))]) (rest := []) (la := [oR 70, none]) hm101 ⟨⟨_, _, rfl⟩, rfl⟩ rfl rfl rfl rfl hm44 rfl rfl (fun _ => ⟨_, _, rfl, rfl⟩) rfl (Wp.mono h ?_)
    rintro _ m2 ⟨rfl, h⟩
    change Wp _ _ 17 _ [] _ _
    refine w_aload_n (q := 18) hm101 ⟨⟨_, _, rfl⟩, rfl⟩ rfl ?_
    refine w_call (q := 21) (n := 0) (vs := [.inr (.inr (some 70))]) (rest := []) (la := [oR 70]) hm101 ⟨⟨_, _, rfl⟩, rfl⟩ rfl rfl rfl rfl hm56 rfl rfl (fun _ => ⟨_, _, rfl, rfl⟩) rfl (Wp.mono h ?_)
    rintro _ m3 ⟨r3, rfl, h⟩
    change Wp _ _ 21 _ [.inl r3] _ _
    refine w_istore_n (q := 22) (l' := [oR 70, oI x1, oI r3, none, none, none, none]) hm101 ⟨⟨_, _, rfl⟩, rfl⟩ rfl rfl rfl ?_
    refine w_sipush (q := 25) hm101 ⟨⟨_, _, rfl⟩, rfl⟩ sipush_m2000 ?_
    refine w_istore_n (q := 26) (l' := [oR 70, oI x1, oI r3, oI (-2000 : Int32), none, none, none]) hm101 ⟨⟨_, _, rfl⟩, rfl⟩ rfl rfl rfl ?_
    refine w_sipush (q := 29) hm101 ⟨⟨_, _, rfl⟩, rfl⟩ sipush_m2000 ?_
    refine w_istore (q := 31) (l' := [oR 70, oI x1, oI r3, oI (-2000 : Int32), oI (-2000 : Int32), none, none]) hm101 ⟨⟨_, _, rfl⟩, rfl⟩ rfl rfl rfl ?_
    refine w_iconst (q := 32) hm101 ⟨⟨_, _, rfl⟩, rfl⟩ iconst_0 ?_
    refine w_istore (q := 34) (l' := [oR 70, oI x1, oI r3, oI (-2000 : Int32), oI (-2000 : Int32), oI (0 : Int32), none]) hm101 ⟨⟨_, _, rfl⟩, rfl⟩ rfl rfl rfl ?_
    exact h
  · have h := h.2 hc
    refine w_sipush (q := 12) hm101 ⟨⟨_, _, rfl⟩, rfl⟩ sipush_m1000 ?_
    exact w_reti hm101 ⟨⟨_, _, rfl⟩, rfl⟩ rfl h
theorem v_X12_hottest_70_34 {d : Nat} {x1 : Int32} {x2 : Int32} {x3 : Int32} {x4 : Int32} {x5 : Int32} {m : dM} {Q : Int32 → dM → Prop} (h : ((0 ≤ (m.1 70 18).toInt ∧ (m.1 70 18).toInt < 2) ∧ (((m.1 82 (m.1 70 18).toNatClampNeg).toInt ≤ x5.toInt → ((x1.toInt ≠ 0 → Q x4 m) ∧ (x1.toInt = 0 → Q x3 m))) ∧ (x5.toInt < (m.1 82 (m.1 70 18).toNatClampNeg).toInt → c_X12_loadBy_70 d x5 x2 m (fun r1 m1 => ((0 ≤ x5.toInt ∧ x5.toInt < 58) ∧ c_X12_isWhole_70 d x5 m1 (fun r2 m2 => ((r2.toInt = 0 → j_X12_hottest_70_95 (d + 1) x1 x2 x3 x4 x5 m2 Q) ∧ (r2.toInt ≠ 0 → ((x3.toInt < 0 → j_X12_hottest_70_88 (d + 1) x1 x2 x5 (r1 - (m1.1 108 x5.toNatClampNeg)) m2 Q) ∧ (0 ≤ x3.toInt → ((x4.toInt < (r1 - (m1.1 108 x5.toNatClampNeg)).toInt → j_X12_hottest_70_88 (d + 1) x1 x2 x5 (r1 - (m1.1 108 x5.toNatClampNeg)) m2 Q) ∧ ((r1 - (m1.1 108 x5.toNatClampNeg)).toInt ≤ x4.toInt → j_X12_hottest_70_95 (d + 1) x1 x2 x3 x4 x5 m2 Q))))))))))))) : j_X12_hottest_70_34 (d + 1) x1 x2 x3 x4 x5 m Q := by
  refine w_iload (q := 36) hm101 ⟨⟨_, _, rfl⟩, rfl⟩ rfl ?_
  refine w_aload_n (q := 37) hm101 ⟨⟨_, _, rfl⟩, rfl⟩ rfl ?_
  refine w_getr (q := 40) hm101 ⟨⟨_, _, rfl⟩, rfl⟩ rfl ?_
  refine w_aload_n (q := 41) hm101 ⟨⟨_, _, rfl⟩, rfl⟩ rfl ?_
  refine w_getf (q := 44) (v := (m.1 70 18)) hm101 ⟨⟨_, _, rfl⟩, rfl⟩ rfl rfl ?_
  obtain ⟨hi, h⟩ := h
  refine w_iald (q := 45) (v := (m.1 82 (m.1 70 18).toNatClampNeg)) hm101 ⟨⟨_, _, rfl⟩, rfl⟩ rfl hi rfl rfl ?_
  refine w_icmp_ge (q := 48) (X := x5.toInt) (Y := (m.1 82 (m.1 70 18).toNatClampNeg).toInt) hm101 ⟨⟨_, _, rfl⟩, rfl⟩ rfl rfl (fun hc => ?_) (fun hc => ?_)
  · have h := h.1 hc
    refine w_iload_n (q := 102) hm101 ⟨⟨_, _, rfl⟩, rfl⟩ rfl ?_
    refine w_if_ne (q := 105) (X := x1.toInt) hm101 ⟨⟨_, _, rfl⟩, rfl⟩ rfl (fun hc => ?_) (fun hc => ?_)
    · have h := h.1 hc
      refine w_iload (q := 111) hm101 ⟨⟨_, _, rfl⟩, rfl⟩ rfl ?_
      exact w_reti hm101 ⟨⟨_, _, rfl⟩, rfl⟩ rfl h
    · have h := h.2 hc
      refine w_iload_n (q := 106) hm101 ⟨⟨_, _, rfl⟩, rfl⟩ rfl ?_
      refine w_goto (q := 111) hm101 ⟨_, _, rfl⟩ ?_
      exact w_reti hm101 ⟨⟨_, _, rfl⟩, rfl⟩ rfl h
  · have h := h.2 hc
    refine w_aload_n (q := 49) hm101 ⟨⟨_, _, rfl⟩, rfl⟩ rfl ?_
    refine w_iload (q := 51) hm101 ⟨⟨_, _, rfl⟩, rfl⟩ rfl ?_
    refine w_iload_n (q := 52) hm101 ⟨⟨_, _, rfl⟩, rfl⟩ rfl ?_
    refine w_call (q := 55) (n := 2) (vs := [.inr (.inr (some 70)), .inl x5, .inl x2]) (rest := []) (la := [oR 70, oI x5, oI x2, none, none]) hm101 ⟨⟨_, _, rfl⟩, rfl⟩ rfl rfl rfl rfl hm57 rfl rfl (fun _ => ⟨_, _, rfl, rfl⟩) rfl (Wp.mono h ?_)
    rintro _ m1 ⟨r1, rfl, h⟩
    change Wp _ _ 55 _ [.inl r1] _ _
    refine w_aload_n (q := 56) hm101 ⟨⟨_, _, rfl⟩, rfl⟩ rfl ?_
    refine w_getr (q := 59) hm101 ⟨⟨_, _, rfl⟩, rfl⟩ rfl ?_
    refine w_iload (q := 61) hm101 ⟨⟨_, _, rfl⟩, rfl⟩ rfl ?_
    obtain ⟨hi, h⟩ := h
    refine w_iald (q := 62) (v := (m1.1 108 x5.toNatClampNeg)) hm101 ⟨⟨_, _, rfl⟩, rfl⟩ rfl hi rfl rfl ?_
    refine w_isub (q := 63) hm101 ⟨⟨_, _, rfl⟩, rfl⟩ ?_
    refine w_istore (q := 65) (l' := [oR 70, oI x1, oI x2, oI x3, oI x4, oI x5, oI (r1 - (m1.1 108 x5.toNatClampNeg))]) hm101 ⟨⟨_, _, rfl⟩, rfl⟩ rfl rfl rfl ?_
    refine w_aload_n (q := 66) hm101 ⟨⟨_, _, rfl⟩, rfl⟩ rfl ?_
    refine w_iload (q := 68) hm101 ⟨⟨_, _, rfl⟩, rfl⟩ rfl ?_
    refine w_call (q := 71) (n := 0) (vs := [.inr (.inr (some 70)), .inl x5]) (rest := []) (la := [oR 70, oI x5]) hm101 ⟨⟨_, _, rfl⟩, rfl⟩ rfl rfl rfl rfl hm47 rfl rfl (fun _ => ⟨_, _, rfl, rfl⟩) rfl (Wp.mono h ?_)
    rintro _ m2 ⟨r2, rfl, h⟩
    change Wp _ _ 71 _ [.inl r2] _ _
    refine w_if_eq (q := 74) (X := r2.toInt) hm101 ⟨⟨_, _, rfl⟩, rfl⟩ rfl (fun hc => ?_) (fun hc => ?_)
    · have h := h.1 hc
      exact Wp.wk [true, true, true, true, true, true, false] h
    · have h := h.2 hc
      refine w_iload_n (q := 75) hm101 ⟨⟨_, _, rfl⟩, rfl⟩ rfl ?_
      refine w_if_lt (q := 78) (X := x3.toInt) hm101 ⟨⟨_, _, rfl⟩, rfl⟩ rfl (fun hc => ?_) (fun hc => ?_)
      · have h := h.1 hc
        exact Wp.wk [true, true, true, false, false, true, true] h
      · have h := h.2 hc
        refine w_iload (q := 80) hm101 ⟨⟨_, _, rfl⟩, rfl⟩ rfl ?_
        refine w_iload (q := 82) hm101 ⟨⟨_, _, rfl⟩, rfl⟩ rfl ?_
        refine w_icmp_gt (q := 85) (X := (r1 - (m1.1 108 x5.toNatClampNeg)).toInt) (Y := x4.toInt) hm101 ⟨⟨_, _, rfl⟩, rfl⟩ rfl rfl (fun hc => ?_) (fun hc => ?_)
        · have h := h.1 hc
          exact Wp.wk [true, true, true, false, false, true, true] h
        · have h := h.2 hc
          refine w_goto (q := 95) hm101 ⟨_, _, rfl⟩ ?_
          exact Wp.wk [true, true, true, true, true, true, false] h
theorem v_X12_hottest_70_88 {d : Nat} {x1 : Int32} {x2 : Int32} {x5 : Int32} {x6 : Int32} {m : dM} {Q : Int32 → dM → Prop} (h : j_X12_hottest_70_95 (d + 1) x1 x2 x5 x6 x5 m Q) : j_X12_hottest_70_88 (d + 1) x1 x2 x5 x6 m Q := by
  refine w_iload (q := 90) hm101 ⟨⟨_, _, rfl⟩, rfl⟩ rfl ?_
  refine w_istore_n (q := 91) (l' := [oR 70, oI x1, oI x2, oI x5, none, oI x5, oI x6]) hm101 ⟨⟨_, _, rfl⟩, rfl⟩ rfl rfl rfl ?_
  refine w_iload (q := 93) hm101 ⟨⟨_, _, rfl⟩, rfl⟩ rfl ?_
  refine w_istore (q := 95) (l' := [oR 70, oI x1, oI x2, oI x5, oI x6, oI x5, oI x6]) hm101 ⟨⟨_, _, rfl⟩, rfl⟩ rfl rfl rfl ?_
  exact Wp.wk [true, true, true, true, true, true, false] h
theorem v_X12_hottest_70_95 {d : Nat} {x1 : Int32} {x2 : Int32} {x3 : Int32} {x4 : Int32} {x5 : Int32} {m : dM} {Q : Int32 → dM → Prop} (h : j_X12_hottest_70_34 (d + 1) x1 x2 x3 x4 (x5 + (1 : Int32)) m Q) : j_X12_hottest_70_95 (d + 1) x1 x2 x3 x4 x5 m Q := by
  refine w_iinc (q := 98) (l' := [oR 70, oI x1, oI x2, oI x3, oI x4, oI (x5 + (1 : Int32)), none]) hm101 ⟨⟨_, _, rfl⟩, rfl⟩ rfl rfl rfl iconst_1 rfl ?_
  refine w_goto (q := 34) hm101 ⟨_, _, rfl⟩ ?_
  exact h
theorem v_X1_clashOf_61_47 {d : Nat} {x2 : Int32} {x3 : Int32} {m : dM} {Q : Int32 → dM → Prop} (h : c_X0_waysNow_54_47 d m (fun m1 => ((0 ≤ x2.toInt ∧ x2.toInt < 8) ∧ c_X11_has d (m1.1 57 5) (m1.1 7 x2.toNatClampNeg) m1 (fun r2 m2 => ((r2.toInt = 0 → j_X1_clashOf_61_47_47 (d + 1) m2 Q) ∧ (r2.toInt ≠ 0 → ((0 ≤ x3.toInt ∧ x3.toInt < 8) ∧ c_X11_has d (m1.1 57 5) (m2.1 7 x3.toNatClampNeg) m2 (fun r3 m3 => ((r3.toInt ≠ 0 → c_X0_goingWith_54_47 d ((1 : Int32) <<< (x2 &&& 31)) m3 (fun r4 m4 => c_X0_goingWith_54_47 d ((1 : Int32) <<< (x3 &&& 31)) m4 (fun r5 m5 => c_X0_goingWith_54_47 d (((1 : Int32) <<< (x2 &&& 31)) ||| ((1 : Int32) <<< (x3 &&& 31))) m5 (fun r6 m6 => c_J6_bitCount d (r6 &&& ((r4 ||| r5) ^^^ (-1 : Int32))) m6 (fun r7 m7 => Q r7 m7))))) ∧ (r3.toInt = 0 → j_X1_clashOf_61_47_47 (d + 1) m3 Q)))))))))) : c_X1_clashOf_61_47 (d + 1) x2 x3 m Q := by
  refine w_aload_n (q := 1) hm149 ⟨⟨_, _, rfl⟩, rfl⟩ rfl ?_
  refine w_getr (q := 4) hm149 ⟨⟨_, _, rfl⟩, rfl⟩ rfl ?_
  refine w_aload_n (q := 5) hm149 ⟨⟨_, _, rfl⟩, rfl⟩ rfl ?_
  refine w_call (q := 8) (n := 0) (vs := [.inr (.inr (some 54)), .inr (.inr (some 47))]) (rest := []) (la := [oR 54, oR 47]) hm149 ⟨⟨_, _, rfl⟩, rfl⟩ rfl rfl rfl rfl hm116 rfl rfl (fun _ => ⟨_, _, rfl, rfl⟩) rfl (Wp.mono h ?_)
  rintro _ m1 ⟨rfl, h⟩
  change Wp _ _ 8 _ [.inr (.inr (some 57))] _ _
  refine w_getf (q := 11) (v := (m1.1 57 5)) hm149 ⟨⟨_, _, rfl⟩, rfl⟩ rfl rfl ?_
  refine w_istore (q := 13) (l' := [oR 61, oR 47, oI x2, oI x3, oI (m1.1 57 5), none]) hm149 ⟨⟨_, _, rfl⟩, rfl⟩ rfl rfl rfl ?_
  refine w_iload (q := 15) hm149 ⟨⟨_, _, rfl⟩, rfl⟩ rfl ?_
  refine w_aload_n (q := 16) hm149 ⟨⟨_, _, rfl⟩, rfl⟩ rfl ?_
  refine w_getr (q := 19) hm149 ⟨⟨_, _, rfl⟩, rfl⟩ rfl ?_
  refine w_getr (q := 22) hm149 ⟨⟨_, _, rfl⟩, rfl⟩ rfl ?_
  refine w_iload_n (q := 23) hm149 ⟨⟨_, _, rfl⟩, rfl⟩ rfl ?_
  obtain ⟨hi, h⟩ := h
  refine w_iald (q := 24) (v := (m1.1 7 x2.toNatClampNeg)) hm149 ⟨⟨_, _, rfl⟩, rfl⟩ rfl hi rfl rfl ?_
  refine w_call (q := 27) (n := 0) (vs := [.inl (m1.1 57 5), .inl (m1.1 7 x2.toNatClampNeg)]) (rest := []) (la := [oI (m1.1 57 5), oI (m1.1 7 x2.toNatClampNeg)]) hm149 ⟨⟨_, _, rfl⟩, rfl⟩ rfl rfl rfl rfl hm283 rfl rfl (fun hz => absurd hz (by decide)) rfl (Wp.mono h ?_)
  rintro _ m2 ⟨r2, rfl, h⟩
  change Wp _ _ 27 _ [.inl r2] _ _
  refine w_if_eq (q := 30) (X := r2.toInt) hm149 ⟨⟨_, _, rfl⟩, rfl⟩ rfl (fun hc => ?_) (fun hc => ?_)
  · have h := h.1 hc
    exact Wp.wk [false, false, false, false, false, false] h
  · have h := h.2 hc
    refine w_iload (q := 32) hm149 ⟨⟨_, _, rfl⟩, rfl⟩ rfl ?_
    refine w_aload_n (q := 33) hm149 ⟨⟨_, _, rfl⟩, rfl⟩ rfl ?_
    refine w_getr (q := 36) hm149 ⟨⟨_, _, rfl⟩, rfl⟩ rfl ?_
    refine w_getr (q := 39) hm149 ⟨⟨_, _, rfl⟩, rfl⟩ rfl ?_
    refine w_iload_n (q := 40) hm149 ⟨⟨_, _, rfl⟩, rfl⟩ rfl ?_
    obtain ⟨hi, h⟩ := h
    refine w_iald (q := 41) (v := (m2.1 7 x3.toNatClampNeg)) hm149 ⟨⟨_, _, rfl⟩, rfl⟩ rfl hi rfl rfl ?_
    refine w_call (q := 44) (n := 0) (vs := [.inl (m1.1 57 5), .inl (m2.1 7 x3.toNatClampNeg)]) (rest := []) (la := [oI (m1.1 57 5), oI (m2.1 7 x3.toNatClampNeg)]) hm149 ⟨⟨_, _, rfl⟩, rfl⟩ rfl rfl rfl rfl hm283 rfl rfl (fun hz => absurd hz (by decide)) rfl (Wp.mono h ?_)
    rintro _ m3 ⟨r3, rfl, h⟩
    change Wp _ _ 44 _ [.inl r3] _ _
    refine w_if_ne (q := 47) (X := r3.toInt) hm149 ⟨⟨_, _, rfl⟩, rfl⟩ rfl (fun hc => ?_) (fun hc => ?_)
    · have h := h.1 hc
      refine w_aload_n (q := 50) hm149 ⟨⟨_, _, rfl⟩, rfl⟩ rfl ?_
      refine w_getr (q := 53) hm149 ⟨⟨_, _, rfl⟩, rfl⟩ rfl ?_
      refine w_aload_n (q := 54) hm149 ⟨⟨_, _, rfl⟩, rfl⟩ rfl ?_
      refine w_iconst (q := 55) hm149 ⟨⟨_, _, rfl⟩, rfl⟩ iconst_1 ?_
      refine w_iload_n (q := 56) hm149 ⟨⟨_, _, rfl⟩, rfl⟩ rfl ?_
      refine w_ishl (q := 57) hm149 ⟨⟨_, _, rfl⟩, rfl⟩ ?_
      refine w_call (q := 60) (n := 0) (vs := [.inr (.inr (some 54)), .inr (.inr (some 47)), .inl ((1 : Int32) <<< (x2 &&& 31))]) (rest := []) (la := [oR 54, oR 47, oI ((1 : Int32) <<< (x2 &&& 31))]) hm149 ⟨⟨_, _, rfl⟩, rfl⟩ rfl rfl rfl rfl hm123 rfl rfl (fun _ => ⟨_, _, rfl, rfl⟩) rfl (Wp.mono h ?_)
      rintro _ m4 ⟨r4, rfl, h⟩
      change Wp _ _ 60 _ [.inl r4] _ _
      refine w_aload_n (q := 61) hm149 ⟨⟨_, _, rfl⟩, rfl⟩ rfl ?_
      refine w_getr (q := 64) hm149 ⟨⟨_, _, rfl⟩, rfl⟩ rfl ?_
      refine w_aload_n (q := 65) hm149 ⟨⟨_, _, rfl⟩, rfl⟩ rfl ?_
      refine w_iconst (q := 66) hm149 ⟨⟨_, _, rfl⟩, rfl⟩ iconst_1 ?_
      refine w_iload_n (q := 67) hm149 ⟨⟨_, _, rfl⟩, rfl⟩ rfl ?_
      refine w_ishl (q := 68) hm149 ⟨⟨_, _, rfl⟩, rfl⟩ ?_
      refine w_call (q := 71) (n := 0) (vs := [.inr (.inr (some 54)), .inr (.inr (some 47)), .inl ((1 : Int32) <<< (x3 &&& 31))]) (rest := [.inl r4]) (la := [oR 54, oR 47, oI ((1 : Int32) <<< (x3 &&& 31))]) hm149 ⟨⟨_, _, rfl⟩, rfl⟩ rfl rfl rfl rfl hm123 rfl rfl (fun _ => ⟨_, _, rfl, rfl⟩) rfl (Wp.mono h ?_)
      rintro _ m5 ⟨r5, rfl, h⟩
      change Wp _ _ 71 _ [.inl r5, .inl r4] _ _
      refine w_ior (q := 72) hm149 ⟨⟨_, _, rfl⟩, rfl⟩ ?_
      refine w_istore (q := 74) (l' := [oR 61, oR 47, oI x2, oI x3, oI (m1.1 57 5), oI (r4 ||| r5)]) hm149 ⟨⟨_, _, rfl⟩, rfl⟩ rfl rfl rfl ?_
      refine w_aload_n (q := 75) hm149 ⟨⟨_, _, rfl⟩, rfl⟩ rfl ?_
      refine w_getr (q := 78) hm149 ⟨⟨_, _, rfl⟩, rfl⟩ rfl ?_
      refine w_aload_n (q := 79) hm149 ⟨⟨_, _, rfl⟩, rfl⟩ rfl ?_
      refine w_iconst (q := 80) hm149 ⟨⟨_, _, rfl⟩, rfl⟩ iconst_1 ?_
      refine w_iload_n (q := 81) hm149 ⟨⟨_, _, rfl⟩, rfl⟩ rfl ?_
      refine w_ishl (q := 82) hm149 ⟨⟨_, _, rfl⟩, rfl⟩ ?_
      refine w_iconst (q := 83) hm149 ⟨⟨_, _, rfl⟩, rfl⟩ iconst_1 ?_
      refine w_iload_n (q := 84) hm149 ⟨⟨_, _, rfl⟩, rfl⟩ rfl ?_
      refine w_ishl (q := 85) hm149 ⟨⟨_, _, rfl⟩, rfl⟩ ?_
      refine w_ior (q := 86) hm149 ⟨⟨_, _, rfl⟩, rfl⟩ ?_
      refine w_call (q := 89) (n := 0) (vs := [.inr (.inr (some 54)), .inr (.inr (some 47)), .inl (((1 : Int32) <<< (x2 &&& 31)) ||| ((1 : Int32) <<< (x3 &&& 31)))]) (rest := []) (la := [oR 54, oR 47, oI (((1 : Int32) <<< (x2 &&& 31)) ||| ((1 : Int32) <<< (x3 &&& 31)))]) hm149 ⟨⟨_, _, rfl⟩, rfl⟩ rfl rfl rfl rfl hm123 rfl rfl (fun _ => ⟨_, _, rfl, rfl⟩) rfl (Wp.mono h ?_)
      rintro _ m6 ⟨r6, rfl, h⟩
      change Wp _ _ 89 _ [.inl r6] _ _
      refine w_iload (q := 91) hm149 ⟨⟨_, _, rfl⟩, rfl⟩ rfl ?_
      refine w_iconst (q := 92) hm149 ⟨⟨_, _, rfl⟩, rfl⟩ iconst_m1 ?_
      refine w_ixor (q := 93) hm149 ⟨⟨_, _, rfl⟩, rfl⟩ ?_
      refine w_iand (q := 94) hm149 ⟨⟨_, _, rfl⟩, rfl⟩ ?_
      refine w_call (q := 97) (n := 0) (vs := [.inl (r6 &&& ((r4 ||| r5) ^^^ (-1 : Int32)))]) (rest := []) (la := [oI (r6 &&& ((r4 ||| r5) ^^^ (-1 : Int32)))]) hm149 ⟨⟨_, _, rfl⟩, rfl⟩ rfl rfl rfl rfl hm285 rfl rfl (fun hz => absurd hz (by decide)) rfl (Wp.mono h ?_)
      rintro _ m7 ⟨r7, rfl, h⟩
      change Wp _ _ 97 _ [.inl r7] _ _
      exact w_reti hm149 ⟨⟨_, _, rfl⟩, rfl⟩ rfl h
    · have h := h.2 hc
      exact Wp.wk [false, false, false, false, false, false] h
theorem v_X1_clashOf_61_47_47 {d : Nat} {m : dM} {Q : Int32 → dM → Prop} (h : Q (0 : Int32) m) : j_X1_clashOf_61_47_47 (d + 1) m Q := by
  refine w_iconst (q := 48) hm149 ⟨⟨_, _, rfl⟩, rfl⟩ iconst_0 ?_
  exact w_reti hm149 ⟨⟨_, _, rfl⟩, rfl⟩ rfl h
theorem v_X11_clash_0 {d : Nat} {x1 : Int32} {x2 : Int32} {m : dM} {Q : Int32 → dM → Prop} (h : c_X11_isUse_0 d x1 m (fun r1 m1 => ((r1.toInt = 0 → j_X11_clash_0_37 (d + 1) m1 Q) ∧ (r1.toInt ≠ 0 → c_X11_isUse_0 d x2 m1 (fun r2 m2 => ((r2.toInt = 0 → j_X11_clash_0_37 (d + 1) m2 Q) ∧ (r2.toInt ≠ 0 → ((x1.toInt = x2.toInt → j_X11_clash_0_37 (d + 1) m2 Q) ∧ (x1.toInt ≠ x2.toInt → c_X1_clashOf_61_47 d x1 x2 m2 (fun r3 m3 => Q r3 m3)))))))))) : c_X11_clash_0 (d + 1) x1 x2 m Q := by
  refine w_aload_n (q := 1) hm271 ⟨⟨_, _, rfl⟩, rfl⟩ rfl ?_
  refine w_iload_n (q := 2) hm271 ⟨⟨_, _, rfl⟩, rfl⟩ rfl ?_
  refine w_call (q := 5) (n := 0) (vs := [.inr (.inr (some 0)), .inl x1]) (rest := []) (la := [oR 0, oI x1]) hm271 ⟨⟨_, _, rfl⟩, rfl⟩ rfl rfl rfl rfl hm250 rfl rfl (fun _ => ⟨_, _, rfl, rfl⟩) rfl (Wp.mono h ?_)
  rintro _ m1 ⟨r1, rfl, h⟩
  change Wp _ _ 5 _ [.inl r1] _ _
  refine w_if_eq (q := 8) (X := r1.toInt) hm271 ⟨⟨_, _, rfl⟩, rfl⟩ rfl (fun hc => ?_) (fun hc => ?_)
  · have h := h.1 hc
    exact Wp.wk [false, false, false] h
  · have h := h.2 hc
    refine w_aload_n (q := 9) hm271 ⟨⟨_, _, rfl⟩, rfl⟩ rfl ?_
    refine w_iload_n (q := 10) hm271 ⟨⟨_, _, rfl⟩, rfl⟩ rfl ?_
    refine w_call (q := 13) (n := 0) (vs := [.inr (.inr (some 0)), .inl x2]) (rest := []) (la := [oR 0, oI x2]) hm271 ⟨⟨_, _, rfl⟩, rfl⟩ rfl rfl rfl rfl hm250 rfl rfl (fun _ => ⟨_, _, rfl, rfl⟩) rfl (Wp.mono h ?_)
    rintro _ m2 ⟨r2, rfl, h⟩
    change Wp _ _ 13 _ [.inl r2] _ _
    refine w_if_eq (q := 16) (X := r2.toInt) hm271 ⟨⟨_, _, rfl⟩, rfl⟩ rfl (fun hc => ?_) (fun hc => ?_)
    · have h := h.1 hc
      exact Wp.wk [false, false, false] h
    · have h := h.2 hc
      refine w_iload_n (q := 17) hm271 ⟨⟨_, _, rfl⟩, rfl⟩ rfl ?_
      refine w_iload_n (q := 18) hm271 ⟨⟨_, _, rfl⟩, rfl⟩ rfl ?_
      refine w_icmp_eq (q := 21) (X := x1.toInt) (Y := x2.toInt) hm271 ⟨⟨_, _, rfl⟩, rfl⟩ rfl rfl (fun hc => ?_) (fun hc => ?_)
      · have h := h.1 hc
        exact Wp.wk [false, false, false] h
      · have h := h.2 hc
        refine w_aload_n (q := 22) hm271 ⟨⟨_, _, rfl⟩, rfl⟩ rfl ?_
        refine w_getr (q := 25) hm271 ⟨⟨_, _, rfl⟩, rfl⟩ rfl ?_
        refine w_aload_n (q := 26) hm271 ⟨⟨_, _, rfl⟩, rfl⟩ rfl ?_
        refine w_getr (q := 29) hm271 ⟨⟨_, _, rfl⟩, rfl⟩ rfl ?_
        refine w_iload_n (q := 30) hm271 ⟨⟨_, _, rfl⟩, rfl⟩ rfl ?_
        refine w_iload_n (q := 31) hm271 ⟨⟨_, _, rfl⟩, rfl⟩ rfl ?_
        refine w_call (q := 34) (n := 2) (vs := [.inr (.inr (some 61)), .inr (.inr (some 47)), .inl x1, .inl x2]) (rest := []) (la := [oR 61, oR 47, oI x1, oI x2, none, none]) hm271 ⟨⟨_, _, rfl⟩, rfl⟩ rfl rfl rfl rfl hm149 rfl rfl (fun _ => ⟨_, _, rfl, rfl⟩) rfl (Wp.mono h ?_)
        rintro _ m3 ⟨r3, rfl, h⟩
        change Wp _ _ 34 _ [.inl r3] _ _
        refine w_goto (q := 38) hm271 ⟨_, _, rfl⟩ ?_
        exact w_reti hm271 ⟨⟨_, _, rfl⟩, rfl⟩ rfl h
theorem v_X11_clash_0_37 {d : Nat} {m : dM} {Q : Int32 → dM → Prop} (h : Q (-1 : Int32) m) : j_X11_clash_0_37 (d + 1) m Q := by
  refine w_iconst (q := 38) hm271 ⟨⟨_, _, rfl⟩, rfl⟩ iconst_m1 ?_
  exact w_reti hm271 ⟨⟨_, _, rfl⟩, rfl⟩ rfl h
theorem v_X12_clash_70 {d : Nat} {x1 : Int32} {x2 : Int32} {m : dM} {Q : Int32 → dM → Prop} (h : c_X12_isUse_70 d x1 m (fun r1 m1 => ((r1.toInt = 0 → j_X12_clash_70_21 (d + 1) m1 Q) ∧ (r1.toInt ≠ 0 → c_X12_isUse_70 d x2 m1 (fun r2 m2 => ((r2.toInt = 0 → j_X12_clash_70_21 (d + 1) m2 Q) ∧ (r2.toInt ≠ 0 → ((x1.toInt ≠ x2.toInt → c_X12_copies_70 d m2 (fun m3 => c_X12_flatAt_70 d x1 m3 (fun r4 m4 => c_X12_isLit_70 d r4 m4 (fun r5 m5 => ((r5.toInt = 0 → j_X12_clash_70_51 (d + 1) m5 Q) ∧ (r5.toInt ≠ 0 → c_X12_flatAt_70 d x2 m5 (fun r6 m6 => c_X12_isLit_70 d r6 m6 (fun r7 m7 => ((r7.toInt ≠ 0 → c_X12_goingBits_70 d (((1 : Int32) <<< (x1 &&& 31)) ||| ((1 : Int32) <<< (x2 &&& 31))) ((m7.1 108 55) - (m7.1 108 55) / (24 : Int32) * (24 : Int32)) (0 : Int32) m7 (fun r8 m8 => c_X12_goingBits_70 d ((1 : Int32) <<< (x1 &&& 31)) ((m7.1 108 55) - (m7.1 108 55) / (24 : Int32) * (24 : Int32)) (0 : Int32) m8 (fun r9 m9 => c_X12_goingBits_70 d ((1 : Int32) <<< (x2 &&& 31)) ((m7.1 108 55) - (m7.1 108 55) / (24 : Int32) * (24 : Int32)) (0 : Int32) m9 (fun r10 m10 => c_X12_bits d ((r8 &&& (r9 ^^^ (-1 : Int32))) &&& (r10 ^^^ (-1 : Int32))) m10 (fun r11 m11 => Q r11 m11))))) ∧ (r7.toInt = 0 → j_X12_clash_70_51 (d + 1) m7 Q)))))))))) ∧ (x1.toInt = x2.toInt → j_X12_clash_70_21 (d + 1) m2 Q))))))))) : c_X12_clash_70 (d + 1) x1 x2 m Q := by
  refine w_aload_n (q := 1) hm102 ⟨⟨_, _, rfl⟩, rfl⟩ rfl ?_
  refine w_iload_n (q := 2) hm102 ⟨⟨_, _, rfl⟩, rfl⟩ rfl ?_
  refine w_call (q := 5) (n := 0) (vs := [.inr (.inr (some 70)), .inl x1]) (rest := []) (la := [oR 70, oI x1]) hm102 ⟨⟨_, _, rfl⟩, rfl⟩ rfl rfl rfl rfl hm41 rfl rfl (fun _ => ⟨_, _, rfl, rfl⟩) rfl (Wp.mono h ?_)
  rintro _ m1 ⟨r1, rfl, h⟩
  change Wp _ _ 5 _ [.inl r1] _ _
  refine w_if_eq (q := 8) (X := r1.toInt) hm102 ⟨⟨_, _, rfl⟩, rfl⟩ rfl (fun hc => ?_) (fun hc => ?_)
  · have h := h.1 hc
    exact Wp.wk [false, false, false, false] h
  · have h := h.2 hc
    refine w_aload_n (q := 9) hm102 ⟨⟨_, _, rfl⟩, rfl⟩ rfl ?_
    refine w_iload_n (q := 10) hm102 ⟨⟨_, _, rfl⟩, rfl⟩ rfl ?_
    refine w_call (q := 13) (n := 0) (vs := [.inr (.inr (some 70)), .inl x2]) (rest := []) (la := [oR 70, oI x2]) hm102 ⟨⟨_, _, rfl⟩, rfl⟩ rfl rfl rfl rfl hm41 rfl rfl (fun _ => ⟨_, _, rfl, rfl⟩) rfl (Wp.mono h ?_)
    rintro _ m2 ⟨r2, rfl, h⟩
    change Wp _ _ 13 _ [.inl r2] _ _
    refine w_if_eq (q := 16) (X := r2.toInt) hm102 ⟨⟨_, _, rfl⟩, rfl⟩ rfl (fun hc => ?_) (fun hc => ?_)
    · have h := h.1 hc
      exact Wp.wk [false, false, false, false] h
    · have h := h.2 hc
      refine w_iload_n (q := 17) hm102 ⟨⟨_, _, rfl⟩, rfl⟩ rfl ?_
      refine w_iload_n (q := 18) hm102 ⟨⟨_, _, rfl⟩, rfl⟩ rfl ?_
      refine w_icmp_ne (q := 21) (X := x1.toInt) (Y := x2.toInt) hm102 ⟨⟨_, _, rfl⟩, rfl⟩ rfl rfl (fun hc => ?_) (fun hc => ?_)
      · have h := h.1 hc
        refine w_aload_n (q := 24) hm102 ⟨⟨_, _, rfl⟩, rfl⟩ rfl ?_
        refine w_call (q := 27) (n := 1) (vs := [.inr (.inr (some 70))]) (rest := []) (la := [oR 70, none]) hm102 ⟨⟨_, _, rfl⟩, rfl⟩ rfl rfl rfl rfl hm44 rfl rfl (fun _ => ⟨_, _, rfl, rfl⟩) rfl (Wp.mono h ?_)
        rintro _ m3 ⟨rfl, h⟩
        change Wp _ _ 27 _ [] _ _
        refine w_aload_n (q := 28) hm102 ⟨⟨_, _, rfl⟩, rfl⟩ rfl ?_
        refine w_aload_n (q := 29) hm102 ⟨⟨_, _, rfl⟩, rfl⟩ rfl ?_
        refine w_iload_n (q := 30) hm102 ⟨⟨_, _, rfl⟩, rfl⟩ rfl ?_
        refine w_call (q := 33) (n := 0) (vs := [.inr (.inr (some 70)), .inl x1]) (rest := [.inr (.inr (some 70))]) (la := [oR 70, oI x1]) hm102 ⟨⟨_, _, rfl⟩, rfl⟩ rfl rfl rfl rfl hm53 rfl rfl (fun _ => ⟨_, _, rfl, rfl⟩) rfl (Wp.mono h ?_)
        rintro _ m4 ⟨r4, rfl, h⟩
        change Wp _ _ 33 _ [.inl r4, .inr (.inr (some 70))] _ _
        refine w_call (q := 36) (n := 0) (vs := [.inr (.inr (some 70)), .inl r4]) (rest := []) (la := [oR 70, oI r4]) hm102 ⟨⟨_, _, rfl⟩, rfl⟩ rfl rfl rfl rfl hm51 rfl rfl (fun _ => ⟨_, _, rfl, rfl⟩) rfl (Wp.mono h ?_)
        rintro _ m5 ⟨r5, rfl, h⟩
        change Wp _ _ 36 _ [.inl r5] _ _
        refine w_if_eq (q := 39) (X := r5.toInt) hm102 ⟨⟨_, _, rfl⟩, rfl⟩ rfl (fun hc => ?_) (fun hc => ?_)
        · have h := h.1 hc
          exact Wp.wk [false, false, false, false] h
        · have h := h.2 hc
          refine w_aload_n (q := 40) hm102 ⟨⟨_, _, rfl⟩, rfl⟩ rfl ?_
          refine w_aload_n (q := 41) hm102 ⟨⟨_, _, rfl⟩, rfl⟩ rfl ?_
          refine w_iload_n (q := 42) hm102 ⟨⟨_, _, rfl⟩, rfl⟩ rfl ?_
          refine w_call (q := 45) (n := 0) (vs := [.inr (.inr (some 70)), .inl x2]) (rest := [.inr (.inr (some 70))]) (la := [oR 70, oI x2]) hm102 ⟨⟨_, _, rfl⟩, rfl⟩ rfl rfl rfl rfl hm53 rfl rfl (fun _ => ⟨_, _, rfl, rfl⟩) rfl (Wp.mono h ?_)
          rintro _ m6 ⟨r6, rfl, h⟩
          change Wp _ _ 45 _ [.inl r6, .inr (.inr (some 70))] _ _
          refine w_call (q := 48) (n := 0) (vs := [.inr (.inr (some 70)), .inl r6]) (rest := []) (la := [oR 70, oI r6]) hm102 ⟨⟨_, _, rfl⟩, rfl⟩ rfl rfl rfl rfl hm51 rfl rfl (fun _ => ⟨_, _, rfl, rfl⟩) rfl (Wp.mono h ?_)
          rintro _ m7 ⟨r7, rfl, h⟩
          change Wp _ _ 48 _ [.inl r7] _ _
          refine w_if_ne (q := 51) (X := r7.toInt) hm102 ⟨⟨_, _, rfl⟩, rfl⟩ rfl (fun hc => ?_) (fun hc => ?_)
          · have h := h.1 hc
            refine w_aload_n (q := 54) hm102 ⟨⟨_, _, rfl⟩, rfl⟩ rfl ?_
            refine w_getr (q := 57) hm102 ⟨⟨_, _, rfl⟩, rfl⟩ rfl ?_
            refine w_bipush (q := 59) hm102 ⟨⟨_, _, rfl⟩, rfl⟩ bipush_55 ?_
            refine w_iald (q := 60) (j := 55) (v := (m7.1 108 55)) hm102 ⟨⟨_, _, rfl⟩, rfl⟩ rfl (by decide) (by decide) rfl ?_
            refine w_bipush (q := 62) hm102 ⟨⟨_, _, rfl⟩, rfl⟩ bipush_24 ?_
            refine w_irem (q := 63) hm102 ⟨⟨_, _, rfl⟩, rfl⟩ (by decide) ?_
            refine w_istore_n (q := 64) (l' := [oR 70, oI x1, oI x2, oI ((m7.1 108 55) - (m7.1 108 55) / (24 : Int32) * (24 : Int32))]) hm102 ⟨⟨_, _, rfl⟩, rfl⟩ rfl rfl rfl ?_
            refine w_aload_n (q := 65) hm102 ⟨⟨_, _, rfl⟩, rfl⟩ rfl ?_
            refine w_iconst (q := 66) hm102 ⟨⟨_, _, rfl⟩, rfl⟩ iconst_1 ?_
            refine w_iload_n (q := 67) hm102 ⟨⟨_, _, rfl⟩, rfl⟩ rfl ?_
            refine w_ishl (q := 68) hm102 ⟨⟨_, _, rfl⟩, rfl⟩ ?_
            refine w_iconst (q := 69) hm102 ⟨⟨_, _, rfl⟩, rfl⟩ iconst_1 ?_
            refine w_iload_n (q := 70) hm102 ⟨⟨_, _, rfl⟩, rfl⟩ rfl ?_
            refine w_ishl (q := 71) hm102 ⟨⟨_, _, rfl⟩, rfl⟩ ?_
            refine w_ior (q := 72) hm102 ⟨⟨_, _, rfl⟩, rfl⟩ ?_
            refine w_iload_n (q := 73) hm102 ⟨⟨_, _, rfl⟩, rfl⟩ rfl ?_
            refine w_iconst (q := 74) hm102 ⟨⟨_, _, rfl⟩, rfl⟩ iconst_0 ?_
            refine w_call (q := 77) (n := 2) (vs := [.inr (.inr (some 70)), .inl (((1 : Int32) <<< (x1 &&& 31)) ||| ((1 : Int32) <<< (x2 &&& 31))), .inl ((m7.1 108 55) - (m7.1 108 55) / (24 : Int32) * (24 : Int32)), .inl (0 : Int32)]) (rest := []) (la := [oR 70, oI (((1 : Int32) <<< (x1 &&& 31)) ||| ((1 : Int32) <<< (x2 &&& 31))), oI ((m7.1 108 55) - (m7.1 108 55) / (24 : Int32) * (24 : Int32)), oI (0 : Int32), none, none]) hm102 ⟨⟨_, _, rfl⟩, rfl⟩ rfl rfl rfl rfl hm61 rfl rfl (fun _ => ⟨_, _, rfl, rfl⟩) rfl (Wp.mono h ?_)
            rintro _ m8 ⟨r8, rfl, h⟩
            change Wp _ _ 77 _ [.inl r8] _ _
            refine w_aload_n (q := 78) hm102 ⟨⟨_, _, rfl⟩, rfl⟩ rfl ?_
            refine w_iconst (q := 79) hm102 ⟨⟨_, _, rfl⟩, rfl⟩ iconst_1 ?_
            refine w_iload_n (q := 80) hm102 ⟨⟨_, _, rfl⟩, rfl⟩ rfl ?_
            refine w_ishl (q := 81) hm102 ⟨⟨_, _, rfl⟩, rfl⟩ ?_
            refine w_iload_n (q := 82) hm102 ⟨⟨_, _, rfl⟩, rfl⟩ rfl ?_
            refine w_iconst (q := 83) hm102 ⟨⟨_, _, rfl⟩, rfl⟩ iconst_0 ?_
            refine w_call (q := 86) (n := 2) (vs := [.inr (.inr (some 70)), .inl ((1 : Int32) <<< (x1 &&& 31)), .inl ((m7.1 108 55) - (m7.1 108 55) / (24 : Int32) * (24 : Int32)), .inl (0 : Int32)]) (rest := [.inl r8]) (la := [oR 70, oI ((1 : Int32) <<< (x1 &&& 31)), oI ((m7.1 108 55) - (m7.1 108 55) / (24 : Int32) * (24 : Int32)), oI (0 : Int32), none, none]) hm102 ⟨⟨_, _, rfl⟩, rfl⟩ rfl rfl rfl rfl hm61 rfl rfl (fun _ => ⟨_, _, rfl, rfl⟩) rfl (Wp.mono h ?_)
            rintro _ m9 ⟨r9, rfl, h⟩
            change Wp _ _ 86 _ [.inl r9, .inl r8] _ _
            refine w_iconst (q := 87) hm102 ⟨⟨_, _, rfl⟩, rfl⟩ iconst_m1 ?_
            refine w_ixor (q := 88) hm102 ⟨⟨_, _, rfl⟩, rfl⟩ ?_
            refine w_iand (q := 89) hm102 ⟨⟨_, _, rfl⟩, rfl⟩ ?_
            refine w_aload_n (q := 90) hm102 ⟨⟨_, _, rfl⟩, rfl⟩ rfl ?_
            refine w_iconst (q := 91) hm102 ⟨⟨_, _, rfl⟩, rfl⟩ iconst_1 ?_
            refine w_iload_n (q := 92) hm102 ⟨⟨_, _, rfl⟩, rfl⟩ rfl ?_
            refine w_ishl (q := 93) hm102 ⟨⟨_, _, rfl⟩, rfl⟩ ?_
            refine w_iload_n (q := 94) hm102 ⟨⟨_, _, rfl⟩, rfl⟩ rfl ?_
            refine w_iconst (q := 95) hm102 ⟨⟨_, _, rfl⟩, rfl⟩ iconst_0 ?_
            refine w_call (q := 98) (n := 2) (vs := [.inr (.inr (some 70)), .inl ((1 : Int32) <<< (x2 &&& 31)), .inl ((m7.1 108 55) - (m7.1 108 55) / (24 : Int32) * (24 : Int32)), .inl (0 : Int32)]) (rest := [.inl (r8 &&& (r9 ^^^ (-1 : Int32)))]) (la := [oR 70, oI ((1 : Int32) <<< (x2 &&& 31)), oI ((m7.1 108 55) - (m7.1 108 55) / (24 : Int32) * (24 : Int32)), oI (0 : Int32), none, none]) hm102 ⟨⟨_, _, rfl⟩, rfl⟩ rfl rfl rfl rfl hm61 rfl rfl (fun _ => ⟨_, _, rfl, rfl⟩) rfl (Wp.mono h ?_)
            rintro _ m10 ⟨r10, rfl, h⟩
            change Wp _ _ 98 _ [.inl r10, .inl (r8 &&& (r9 ^^^ (-1 : Int32)))] _ _
            refine w_iconst (q := 99) hm102 ⟨⟨_, _, rfl⟩, rfl⟩ iconst_m1 ?_
            refine w_ixor (q := 100) hm102 ⟨⟨_, _, rfl⟩, rfl⟩ ?_
            refine w_iand (q := 101) hm102 ⟨⟨_, _, rfl⟩, rfl⟩ ?_
            refine w_call (q := 104) (n := 2) (vs := [.inl ((r8 &&& (r9 ^^^ (-1 : Int32))) &&& (r10 ^^^ (-1 : Int32)))]) (rest := []) (la := [oI ((r8 &&& (r9 ^^^ (-1 : Int32))) &&& (r10 ^^^ (-1 : Int32))), none, none]) hm102 ⟨⟨_, _, rfl⟩, rfl⟩ rfl rfl rfl rfl hm38 rfl rfl (fun hz => absurd hz (by decide)) rfl (Wp.mono h ?_)
            rintro _ m11 ⟨r11, rfl, h⟩
            change Wp _ _ 104 _ [.inl r11] _ _
            exact w_reti hm102 ⟨⟨_, _, rfl⟩, rfl⟩ rfl h
          · have h := h.2 hc
            exact Wp.wk [false, false, false, false] h
      · have h := h.2 hc
        exact Wp.wk [false, false, false, false] h
theorem v_X12_clash_70_21 {d : Nat} {m : dM} {Q : Int32 → dM → Prop} (h : Q (-1 : Int32) m) : j_X12_clash_70_21 (d + 1) m Q := by
  refine w_iconst (q := 22) hm102 ⟨⟨_, _, rfl⟩, rfl⟩ iconst_m1 ?_
  exact w_reti hm102 ⟨⟨_, _, rfl⟩, rfl⟩ rfl h
theorem v_X12_clash_70_51 {d : Nat} {m : dM} {Q : Int32 → dM → Prop} (h : Q (0 : Int32) m) : j_X12_clash_70_51 (d + 1) m Q := by
  refine w_iconst (q := 52) hm102 ⟨⟨_, _, rfl⟩, rfl⟩ iconst_0 ?_
  exact w_reti hm102 ⟨⟨_, _, rfl⟩, rfl⟩ rfl h
