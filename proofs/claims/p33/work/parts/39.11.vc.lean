theorem v_X6_takeBack_51_47 {d : Nat} {m : dM} {Q : Int32 → dM → Prop} (h : (((m.1 51 3).toInt ≠ 0 → c_X7_readFrom_47_52 d (((((m.1 51 2) + (40 : Int32)) - (1 : Int32)) - (((m.1 51 2) + (40 : Int32)) - (1 : Int32)) / (40 : Int32) * (40 : Int32)) * (33 : Int32)) (dSet (dSet m 51 2 ((((m.1 51 2) + (40 : Int32)) - (1 : Int32)) - (((m.1 51 2) + (40 : Int32)) - (1 : Int32)) / (40 : Int32) * (40 : Int32))) 51 3 ((m.1 51 3) - (1 : Int32))) (fun m1 => Q (1 : Int32) m1)) ∧ ((m.1 51 3).toInt = 0 → Q (0 : Int32) m))) : c_X6_takeBack_51_47 (d + 1) m Q := by
  refine w_aload_n (q := 1) hm204 ⟨⟨_, _, rfl⟩, rfl⟩ rfl ?_
  refine w_getf (q := 4) (v := (m.1 51 3)) hm204 ⟨⟨_, _, rfl⟩, rfl⟩ rfl rfl ?_
  refine w_if_ne (q := 7) (X := (m.1 51 3).toInt) hm204 ⟨⟨_, _, rfl⟩, rfl⟩ rfl (fun hc => ?_) (fun hc => ?_)
  · have h := h.1 hc
    refine w_aload_n (q := 10) hm204 ⟨⟨_, _, rfl⟩, rfl⟩ rfl ?_
    refine w_aload_n (q := 11) hm204 ⟨⟨_, _, rfl⟩, rfl⟩ rfl ?_
    refine w_getf (q := 14) (v := (m.1 51 2)) hm204 ⟨⟨_, _, rfl⟩, rfl⟩ rfl rfl ?_
    refine w_bipush (q := 16) hm204 ⟨⟨_, _, rfl⟩, rfl⟩ bipush_40 ?_
    refine w_iadd (q := 17) hm204 ⟨⟨_, _, rfl⟩, rfl⟩ ?_
    refine w_iconst (q := 18) hm204 ⟨⟨_, _, rfl⟩, rfl⟩ iconst_1 ?_
    refine w_isub (q := 19) hm204 ⟨⟨_, _, rfl⟩, rfl⟩ ?_
    refine w_bipush (q := 21) hm204 ⟨⟨_, _, rfl⟩, rfl⟩ bipush_40 ?_
    refine w_irem (q := 22) hm204 ⟨⟨_, _, rfl⟩, rfl⟩ (by decide) ?_
    refine w_putf (q := 25) hm204 ⟨⟨_, _, rfl⟩, rfl⟩ rfl rfl rfl ?_
    refine w_aload_n (q := 26) hm204 ⟨⟨_, _, rfl⟩, rfl⟩ rfl ?_
    refine w_dup (q := 27) hm204 ⟨⟨_, _, rfl⟩, rfl⟩ rfl ?_
    refine w_getf (q := 30) (v := (m.1 51 3)) hm204 ⟨⟨_, _, rfl⟩, rfl⟩ rfl rfl ?_
    refine w_iconst (q := 31) hm204 ⟨⟨_, _, rfl⟩, rfl⟩ iconst_1 ?_
    refine w_isub (q := 32) hm204 ⟨⟨_, _, rfl⟩, rfl⟩ ?_
    refine w_putf (q := 35) hm204 ⟨⟨_, _, rfl⟩, rfl⟩ rfl rfl rfl ?_
    refine w_aload_n (q := 36) hm204 ⟨⟨_, _, rfl⟩, rfl⟩ rfl ?_
    refine w_aload_n (q := 37) hm204 ⟨⟨_, _, rfl⟩, rfl⟩ rfl ?_
    refine w_getr (q := 40) hm204 ⟨⟨_, _, rfl⟩, rfl⟩ rfl ?_
    refine w_aload_n (q := 41) hm204 ⟨⟨_, _, rfl⟩, rfl⟩ rfl ?_
    refine w_getf (q := 44) (v := ((((m.1 51 2) + (40 : Int32)) - (1 : Int32)) - (((m.1 51 2) + (40 : Int32)) - (1 : Int32)) / (40 : Int32) * (40 : Int32))) hm204 ⟨⟨_, _, rfl⟩, rfl⟩ rfl rfl ?_
    refine w_bipush (q := 46) hm204 ⟨⟨_, _, rfl⟩, rfl⟩ bipush_33 ?_
    refine w_imul (q := 47) hm204 ⟨⟨_, _, rfl⟩, rfl⟩ ?_
    refine w_call (q := 50) (n := 0) (vs := [.inr (.inr (some 47)), .inr (.inr (some 52)), .inl (((((m.1 51 2) + (40 : Int32)) - (1 : Int32)) - (((m.1 51 2) + (40 : Int32)) - (1 : Int32)) / (40 : Int32) * (40 : Int32)) * (33 : Int32))]) (rest := []) (la := [oR 47, oR 52, oI (((((m.1 51 2) + (40 : Int32)) - (1 : Int32)) - (((m.1 51 2) + (40 : Int32)) - (1 : Int32)) / (40 : Int32) * (40 : Int32)) * (33 : Int32))]) hm204 ⟨⟨_, _, rfl⟩, rfl⟩ rfl rfl rfl rfl hm211 rfl rfl (fun _ => ⟨_, _, rfl, rfl⟩) rfl (Wp.mono h ?_)
    rintro _ m1 ⟨rfl, h⟩
    change Wp _ _ 50 _ [] _ _
    refine w_iconst (q := 51) hm204 ⟨⟨_, _, rfl⟩, rfl⟩ iconst_1 ?_
    exact w_retz hm204 ⟨⟨_, _, rfl⟩, rfl⟩ rfl (by decide) h
  · have h := h.2 hc
    refine w_iconst (q := 8) hm204 ⟨⟨_, _, rfl⟩, rfl⟩ iconst_0 ?_
    exact w_retz hm204 ⟨⟨_, _, rfl⟩, rfl⟩ rfl (by decide) h
theorem v_X11_undo_0 {d : Nat} {m : dM} {Q : Int32 → dM → Prop} (h : c_X6_takeBack_51_47 d m (fun r1 m1 => (r1 = 0 ∨ r1 = 1) ∧ Q r1 m1)) : c_X11_undo_0 (d + 1) m Q := by
  refine w_aload_n (q := 1) hm259 ⟨⟨_, _, rfl⟩, rfl⟩ rfl ?_
  refine w_getr (q := 4) hm259 ⟨⟨_, _, rfl⟩, rfl⟩ rfl ?_
  refine w_aload_n (q := 5) hm259 ⟨⟨_, _, rfl⟩, rfl⟩ rfl ?_
  refine w_getr (q := 8) hm259 ⟨⟨_, _, rfl⟩, rfl⟩ rfl ?_
  refine w_call (q := 11) (n := 0) (vs := [.inr (.inr (some 51)), .inr (.inr (some 47))]) (rest := []) (la := [oR 51, oR 47]) hm259 ⟨⟨_, _, rfl⟩, rfl⟩ rfl rfl rfl rfl hm204 rfl rfl (fun _ => ⟨_, _, rfl, rfl⟩) rfl (Wp.mono h ?_)
  rintro _ m1 ⟨r1, rfl, h⟩
  change Wp _ _ 11 _ [.inl r1] _ _
  exact w_retz hm259 ⟨⟨_, _, rfl⟩, rfl⟩ rfl h.1 h.2
theorem v_X12_undo_70 {d : Nat} {m : dM} {Q : Int32 → dM → Prop} (h : (((m.1 70 61).toInt ≠ 0 → j_X12_undo_70_21 (d + 1) (0 : Int32) (dSet m 70 61 ((m.1 70 61) - (1 : Int32))) Q) ∧ ((m.1 70 61).toInt = 0 → Q (0 : Int32) m))) : c_X12_undo_70 (d + 1) m Q := by
  refine w_aload_n (q := 1) hm80 ⟨⟨_, _, rfl⟩, rfl⟩ rfl ?_
  refine w_getf (q := 4) (v := (m.1 70 61)) hm80 ⟨⟨_, _, rfl⟩, rfl⟩ rfl rfl ?_
  refine w_if_ne (q := 7) (X := (m.1 70 61).toInt) hm80 ⟨⟨_, _, rfl⟩, rfl⟩ rfl (fun hc => ?_) (fun hc => ?_)
  · have h := h.1 hc
    refine w_aload_n (q := 10) hm80 ⟨⟨_, _, rfl⟩, rfl⟩ rfl ?_
    refine w_dup (q := 11) hm80 ⟨⟨_, _, rfl⟩, rfl⟩ rfl ?_
    refine w_getf (q := 14) (v := (m.1 70 61)) hm80 ⟨⟨_, _, rfl⟩, rfl⟩ rfl rfl ?_
    refine w_iconst (q := 15) hm80 ⟨⟨_, _, rfl⟩, rfl⟩ iconst_1 ?_
    refine w_isub (q := 16) hm80 ⟨⟨_, _, rfl⟩, rfl⟩ ?_
    refine w_putf (q := 19) hm80 ⟨⟨_, _, rfl⟩, rfl⟩ rfl rfl rfl ?_
    refine w_iconst (q := 20) hm80 ⟨⟨_, _, rfl⟩, rfl⟩ iconst_0 ?_
    refine w_istore_n (q := 21) (l' := [oR 70, oI (0 : Int32)]) hm80 ⟨⟨_, _, rfl⟩, rfl⟩ rfl rfl rfl ?_
    exact h
  · have h := h.2 hc
    refine w_iconst (q := 8) hm80 ⟨⟨_, _, rfl⟩, rfl⟩ iconst_0 ?_
    exact w_retz hm80 ⟨⟨_, _, rfl⟩, rfl⟩ rfl (by decide) h
theorem v_X12_undo_70_21 {d : Nat} {x1 : Int32} {m : dM} {Q : Int32 → dM → Prop} (h : ((58 ≤ x1.toInt → Q (1 : Int32) m) ∧ (x1.toInt < 58 → ((0 ≤ (((58 : Int32) * (m.1 70 61)) + x1).toInt ∧ (((58 : Int32) * (m.1 70 61)) + x1).toInt < 2320) ∧ ((0 ≤ x1.toInt ∧ x1.toInt < 58) ∧ j_X12_undo_70_21 (d + 1) (x1 + (1 : Int32)) (dSet m 107 x1.toNatClampNeg (m.1 111 (((58 : Int32) * (m.1 70 61)) + x1).toNatClampNeg)) Q))))) : j_X12_undo_70_21 (d + 1) x1 m Q := by
  refine w_iload_n (q := 22) hm80 ⟨⟨_, _, rfl⟩, rfl⟩ rfl ?_
  refine w_bipush (q := 24) hm80 ⟨⟨_, _, rfl⟩, rfl⟩ bipush_58 ?_
  refine w_icmp_ge (q := 27) (X := x1.toInt) (Y := 58) hm80 ⟨⟨_, _, rfl⟩, rfl⟩ rfl (by decide) (fun hc => ?_) (fun hc => ?_)
  · have h := h.1 hc
    refine w_iconst (q := 54) hm80 ⟨⟨_, _, rfl⟩, rfl⟩ iconst_1 ?_
    exact w_retz hm80 ⟨⟨_, _, rfl⟩, rfl⟩ rfl (by decide) h
  · have h := h.2 hc
    refine w_aload_n (q := 28) hm80 ⟨⟨_, _, rfl⟩, rfl⟩ rfl ?_
    refine w_getr (q := 31) hm80 ⟨⟨_, _, rfl⟩, rfl⟩ rfl ?_
    refine w_iload_n (q := 32) hm80 ⟨⟨_, _, rfl⟩, rfl⟩ rfl ?_
    refine w_aload_n (q := 33) hm80 ⟨⟨_, _, rfl⟩, rfl⟩ rfl ?_
    refine w_getr (q := 36) hm80 ⟨⟨_, _, rfl⟩, rfl⟩ rfl ?_
    refine w_bipush (q := 38) hm80 ⟨⟨_, _, rfl⟩, rfl⟩ bipush_58 ?_
    refine w_aload_n (q := 39) hm80 ⟨⟨_, _, rfl⟩, rfl⟩ rfl ?_
    refine w_getf (q := 42) (v := (m.1 70 61)) hm80 ⟨⟨_, _, rfl⟩, rfl⟩ rfl rfl ?_
    refine w_imul (q := 43) hm80 ⟨⟨_, _, rfl⟩, rfl⟩ ?_
    refine w_iload_n (q := 44) hm80 ⟨⟨_, _, rfl⟩, rfl⟩ rfl ?_
    refine w_iadd (q := 45) hm80 ⟨⟨_, _, rfl⟩, rfl⟩ ?_
    obtain ⟨hi, h⟩ := h
    refine w_iald (q := 46) (v := (m.1 111 (((58 : Int32) * (m.1 70 61)) + x1).toNatClampNeg)) hm80 ⟨⟨_, _, rfl⟩, rfl⟩ rfl hi rfl rfl ?_
    obtain ⟨hi, h⟩ := h
    refine w_iast (q := 47) hm80 ⟨⟨_, _, rfl⟩, rfl⟩ rfl hi rfl rfl ?_
    refine w_iinc (q := 50) (l' := [oR 70, oI (x1 + (1 : Int32))]) hm80 ⟨⟨_, _, rfl⟩, rfl⟩ rfl rfl rfl iconst_1 rfl ?_
    refine w_goto (q := 21) hm80 ⟨_, _, rfl⟩ ?_
    exact h
theorem v_X10_wireAt_57 {d : Nat} {x1 : Int32} {x2 : Int32} {m : dM} {Q : Int32 → dM → Prop} (h : ((x2.toInt < 0 → j_X10_wireAt_57_14 (d + 1) m Q) ∧ (0 ≤ x2.toInt → ((0 ≤ x1.toInt ∧ x1.toInt < 7) ∧ ((x2.toInt < (m.1 59 x1.toNatClampNeg).toInt → j_X10_wireAt_57_21 (d + 1) x2 x1 (0 : Int32) m Q) ∧ ((m.1 59 x1.toNatClampNeg).toInt ≤ x2.toInt → j_X10_wireAt_57_14 (d + 1) m Q)))))) : c_X10_wireAt_57 (d + 1) x1 x2 m Q := by
  refine w_iload_n (q := 1) hm241 ⟨⟨_, _, rfl⟩, rfl⟩ rfl ?_
  refine w_if_lt (q := 4) (X := x2.toInt) hm241 ⟨⟨_, _, rfl⟩, rfl⟩ rfl (fun hc => ?_) (fun hc => ?_)
  · have h := h.1 hc
    exact Wp.wk [false, false, false, false, false, false] h
  · have h := h.2 hc
    refine w_iload_n (q := 5) hm241 ⟨⟨_, _, rfl⟩, rfl⟩ rfl ?_
    refine w_aload_n (q := 6) hm241 ⟨⟨_, _, rfl⟩, rfl⟩ rfl ?_
    refine w_getr (q := 9) hm241 ⟨⟨_, _, rfl⟩, rfl⟩ rfl ?_
    refine w_iload_n (q := 10) hm241 ⟨⟨_, _, rfl⟩, rfl⟩ rfl ?_
    obtain ⟨hi, h⟩ := h
    refine w_iald (q := 11) (v := (m.1 59 x1.toNatClampNeg)) hm241 ⟨⟨_, _, rfl⟩, rfl⟩ rfl hi rfl rfl ?_
    refine w_icmp_lt (q := 14) (X := x2.toInt) (Y := (m.1 59 x1.toNatClampNeg).toInt) hm241 ⟨⟨_, _, rfl⟩, rfl⟩ rfl rfl (fun hc => ?_) (fun hc => ?_)
    · have h := h.1 hc
      refine w_iload_n (q := 17) hm241 ⟨⟨_, _, rfl⟩, rfl⟩ rfl ?_
      refine w_istore_n (q := 18) (l' := [oR 57, oI x1, oI x2, oI x1, none, none]) hm241 ⟨⟨_, _, rfl⟩, rfl⟩ rfl rfl rfl ?_
      refine w_iconst (q := 19) hm241 ⟨⟨_, _, rfl⟩, rfl⟩ iconst_0 ?_
      refine w_istore (q := 21) (l' := [oR 57, oI x1, oI x2, oI x1, oI (0 : Int32), none]) hm241 ⟨⟨_, _, rfl⟩, rfl⟩ rfl rfl rfl ?_
      exact Wp.wk [true, false, true, true, true, false] h
    · have h := h.2 hc
      exact Wp.wk [false, false, false, false, false, false] h
theorem v_X10_wireAt_57_14 {d : Nat} {m : dM} {Q : Int32 → dM → Prop} (h : Q (-1 : Int32) m) : j_X10_wireAt_57_14 (d + 1) m Q := by
  refine w_iconst (q := 15) hm241 ⟨⟨_, _, rfl⟩, rfl⟩ iconst_m1 ?_
  exact w_reti hm241 ⟨⟨_, _, rfl⟩, rfl⟩ rfl h
theorem v_X10_wireAt_57_21 {d : Nat} {x2 : Int32} {x3 : Int32} {x4 : Int32} {m : dM} {Q : Int32 → dM → Prop} (h : ((x2.toInt ≤ x4.toInt → ((0 ≤ x3.toInt ∧ x3.toInt < 7) ∧ Q (m.1 58 x3.toNatClampNeg) m)) ∧ (x4.toInt < x2.toInt → ((0 ≤ x3.toInt ∧ x3.toInt < 7) ∧ ((0 ≤ (m.1 58 x3.toNatClampNeg).toInt ∧ (m.1 58 x3.toNatClampNeg).toInt < 10) ∧ (((m.1 4 (m.1 58 x3.toNatClampNeg).toNatClampNeg).toInt ≠ x3.toInt → ((0 ≤ (m.1 58 x3.toNatClampNeg).toInt ∧ (m.1 58 x3.toNatClampNeg).toInt < 10) ∧ j_X10_wireAt_57_21 (d + 1) x2 (m.1 4 (m.1 58 x3.toNatClampNeg).toNatClampNeg) (x4 + (1 : Int32)) m Q)) ∧ ((m.1 4 (m.1 58 x3.toNatClampNeg).toNatClampNeg).toInt = x3.toInt → ((0 ≤ (m.1 58 x3.toNatClampNeg).toInt ∧ (m.1 58 x3.toNatClampNeg).toInt < 10) ∧ j_X10_wireAt_57_21 (d + 1) x2 (m.1 5 (m.1 58 x3.toNatClampNeg).toNatClampNeg) (x4 + (1 : Int32)) m Q)))))))) : j_X10_wireAt_57_21 (d + 1) x2 x3 x4 m Q := by
  refine w_iload (q := 23) hm241 ⟨⟨_, _, rfl⟩, rfl⟩ rfl ?_
  refine w_iload_n (q := 24) hm241 ⟨⟨_, _, rfl⟩, rfl⟩ rfl ?_
  refine w_icmp_ge (q := 27) (X := x4.toInt) (Y := x2.toInt) hm241 ⟨⟨_, _, rfl⟩, rfl⟩ rfl rfl (fun hc => ?_) (fun hc => ?_)
  · have h := h.1 hc
    refine w_aload_n (q := 80) hm241 ⟨⟨_, _, rfl⟩, rfl⟩ rfl ?_
    refine w_getr (q := 83) hm241 ⟨⟨_, _, rfl⟩, rfl⟩ rfl ?_
    refine w_iload_n (q := 84) hm241 ⟨⟨_, _, rfl⟩, rfl⟩ rfl ?_
    obtain ⟨hi, h⟩ := h
    refine w_iald (q := 85) (v := (m.1 58 x3.toNatClampNeg)) hm241 ⟨⟨_, _, rfl⟩, rfl⟩ rfl hi rfl rfl ?_
    exact w_reti hm241 ⟨⟨_, _, rfl⟩, rfl⟩ rfl h
  · have h := h.2 hc
    refine w_aload_n (q := 28) hm241 ⟨⟨_, _, rfl⟩, rfl⟩ rfl ?_
    refine w_getr (q := 31) hm241 ⟨⟨_, _, rfl⟩, rfl⟩ rfl ?_
    refine w_iload_n (q := 32) hm241 ⟨⟨_, _, rfl⟩, rfl⟩ rfl ?_
    obtain ⟨hi, h⟩ := h
    refine w_iald (q := 33) (v := (m.1 58 x3.toNatClampNeg)) hm241 ⟨⟨_, _, rfl⟩, rfl⟩ rfl hi rfl rfl ?_
    refine w_istore (q := 35) (l' := [oR 57, none, oI x2, oI x3, oI x4, oI (m.1 58 x3.toNatClampNeg)]) hm241 ⟨⟨_, _, rfl⟩, rfl⟩ rfl rfl rfl ?_
    refine w_aload_n (q := 36) hm241 ⟨⟨_, _, rfl⟩, rfl⟩ rfl ?_
    refine w_getr (q := 39) hm241 ⟨⟨_, _, rfl⟩, rfl⟩ rfl ?_
    refine w_getr (q := 42) hm241 ⟨⟨_, _, rfl⟩, rfl⟩ rfl ?_
    refine w_iload (q := 44) hm241 ⟨⟨_, _, rfl⟩, rfl⟩ rfl ?_
    obtain ⟨hi, h⟩ := h
    refine w_iald (q := 45) (v := (m.1 4 (m.1 58 x3.toNatClampNeg).toNatClampNeg)) hm241 ⟨⟨_, _, rfl⟩, rfl⟩ rfl hi rfl rfl ?_
    refine w_iload_n (q := 46) hm241 ⟨⟨_, _, rfl⟩, rfl⟩ rfl ?_
    refine w_icmp_ne (q := 49) (X := (m.1 4 (m.1 58 x3.toNatClampNeg).toNatClampNeg).toInt) (Y := x3.toInt) hm241 ⟨⟨_, _, rfl⟩, rfl⟩ rfl rfl (fun hc => ?_) (fun hc => ?_)
    · have h := h.1 hc
      refine w_aload_n (q := 63) hm241 ⟨⟨_, _, rfl⟩, rfl⟩ rfl ?_
      refine w_getr (q := 66) hm241 ⟨⟨_, _, rfl⟩, rfl⟩ rfl ?_
      refine w_getr (q := 69) hm241 ⟨⟨_, _, rfl⟩, rfl⟩ rfl ?_
      refine w_iload (q := 71) hm241 ⟨⟨_, _, rfl⟩, rfl⟩ rfl ?_
      obtain ⟨hi, h⟩ := h
      refine w_iald (q := 72) (v := (m.1 4 (m.1 58 x3.toNatClampNeg).toNatClampNeg)) hm241 ⟨⟨_, _, rfl⟩, rfl⟩ rfl hi rfl rfl ?_
      refine w_istore_n (q := 73) (l' := [oR 57, none, oI x2, oI (m.1 4 (m.1 58 x3.toNatClampNeg).toNatClampNeg), oI x4, oI (m.1 58 x3.toNatClampNeg)]) hm241 ⟨⟨_, _, rfl⟩, rfl⟩ rfl rfl rfl ?_
      refine w_iinc (q := 76) (l' := [oR 57, none, oI x2, oI (m.1 4 (m.1 58 x3.toNatClampNeg).toNatClampNeg), oI (x4 + (1 : Int32)), oI (m.1 58 x3.toNatClampNeg)]) hm241 ⟨⟨_, _, rfl⟩, rfl⟩ rfl rfl rfl iconst_1 rfl ?_
      refine w_goto (q := 21) hm241 ⟨_, _, rfl⟩ ?_
      exact Wp.wk [true, false, true, true, true, false] h
    · have h := h.2 hc
      refine w_aload_n (q := 50) hm241 ⟨⟨_, _, rfl⟩, rfl⟩ rfl ?_
      refine w_getr (q := 53) hm241 ⟨⟨_, _, rfl⟩, rfl⟩ rfl ?_
      refine w_getr (q := 56) hm241 ⟨⟨_, _, rfl⟩, rfl⟩ rfl ?_
      refine w_iload (q := 58) hm241 ⟨⟨_, _, rfl⟩, rfl⟩ rfl ?_
      obtain ⟨hi, h⟩ := h
      refine w_iald (q := 59) (v := (m.1 5 (m.1 58 x3.toNatClampNeg).toNatClampNeg)) hm241 ⟨⟨_, _, rfl⟩, rfl⟩ rfl hi rfl rfl ?_
      refine w_goto (q := 72) hm241 ⟨_, _, rfl⟩ ?_
      refine w_istore_n (q := 73) (l' := [oR 57, none, oI x2, oI (m.1 5 (m.1 58 x3.toNatClampNeg).toNatClampNeg), oI x4, oI (m.1 58 x3.toNatClampNeg)]) hm241 ⟨⟨_, _, rfl⟩, rfl⟩ rfl rfl rfl ?_
      refine w_iinc (q := 76) (l' := [oR 57, none, oI x2, oI (m.1 5 (m.1 58 x3.toNatClampNeg).toNatClampNeg), oI (x4 + (1 : Int32)), oI (m.1 58 x3.toNatClampNeg)]) hm241 ⟨⟨_, _, rfl⟩, rfl⟩ rfl rfl rfl iconst_1 rfl ?_
      refine w_goto (q := 21) hm241 ⟨_, _, rfl⟩ ?_
      exact Wp.wk [true, false, true, true, true, false] h
theorem v_X11_way_0 {d : Nat} {x1 : Int32} {x2 : Int32} {m : dM} {Q : Int32 → dM → Prop} (h : c_X11_isFlat_0 d x1 m (fun r1 m1 => ((r1.toInt = 0 → j_X11_way_0_12 (d + 1) m1 Q) ∧ (r1.toInt ≠ 0 → ((0 ≤ x2.toInt → c_X0_waysNow_54_47 d m1 (fun m2 => c_X11_has d (m2.1 57 5) x1 m2 (fun r3 m3 => ((r3.toInt = 0 → Q (-2 : Int32) m3) ∧ (r3.toInt ≠ 0 → c_X10_wireAt_57 d x1 x2 m3 (fun r4 m4 => Q r4 m4)))))) ∧ (x2.toInt < 0 → j_X11_way_0_12 (d + 1) m1 Q)))))) : c_X11_way_0 (d + 1) x1 x2 m Q := by
  refine w_aload_n (q := 1) hm260 ⟨⟨_, _, rfl⟩, rfl⟩ rfl ?_
  refine w_iload_n (q := 2) hm260 ⟨⟨_, _, rfl⟩, rfl⟩ rfl ?_
  refine w_call (q := 5) (n := 0) (vs := [.inr (.inr (some 0)), .inl x1]) (rest := []) (la := [oR 0, oI x1]) hm260 ⟨⟨_, _, rfl⟩, rfl⟩ rfl rfl rfl rfl hm248 rfl rfl (fun _ => ⟨_, _, rfl, rfl⟩) rfl (Wp.mono h ?_)
  rintro _ m1 ⟨r1, rfl, h⟩
  change Wp _ _ 5 _ [.inl r1] _ _
  refine w_if_eq (q := 8) (X := r1.toInt) hm260 ⟨⟨_, _, rfl⟩, rfl⟩ rfl (fun hc => ?_) (fun hc => ?_)
  · have h := h.1 hc
    exact Wp.wk [false, false, false, false] h
  · have h := h.2 hc
    refine w_iload_n (q := 9) hm260 ⟨⟨_, _, rfl⟩, rfl⟩ rfl ?_
    refine w_if_ge (q := 12) (X := x2.toInt) hm260 ⟨⟨_, _, rfl⟩, rfl⟩ rfl (fun hc => ?_) (fun hc => ?_)
    · have h := h.1 hc
      refine w_aload_n (q := 15) hm260 ⟨⟨_, _, rfl⟩, rfl⟩ rfl ?_
      refine w_getr (q := 18) hm260 ⟨⟨_, _, rfl⟩, rfl⟩ rfl ?_
      refine w_aload_n (q := 19) hm260 ⟨⟨_, _, rfl⟩, rfl⟩ rfl ?_
      refine w_getr (q := 22) hm260 ⟨⟨_, _, rfl⟩, rfl⟩ rfl ?_
      refine w_call (q := 25) (n := 0) (vs := [.inr (.inr (some 54)), .inr (.inr (some 47))]) (rest := []) (la := [oR 54, oR 47]) hm260 ⟨⟨_, _, rfl⟩, rfl⟩ rfl rfl rfl rfl hm116 rfl rfl (fun _ => ⟨_, _, rfl, rfl⟩) rfl (Wp.mono h ?_)
      rintro _ m2 ⟨rfl, h⟩
      change Wp _ _ 25 _ [.inr (.inr (some 57))] _ _
      refine w_astore_n (q := 26) (l' := [oR 0, oI x1, oI x2, oR 57]) hm260 ⟨⟨_, _, rfl⟩, rfl⟩ rfl rfl rfl ?_
      refine w_aload_n (q := 27) hm260 ⟨⟨_, _, rfl⟩, rfl⟩ rfl ?_
      refine w_getf (q := 30) (v := (m2.1 57 5)) hm260 ⟨⟨_, _, rfl⟩, rfl⟩ rfl rfl ?_
      refine w_iload_n (q := 31) hm260 ⟨⟨_, _, rfl⟩, rfl⟩ rfl ?_
      refine w_call (q := 34) (n := 0) (vs := [.inl (m2.1 57 5), .inl x1]) (rest := []) (la := [oI (m2.1 57 5), oI x1]) hm260 ⟨⟨_, _, rfl⟩, rfl⟩ rfl rfl rfl rfl hm283 rfl rfl (fun hz => absurd hz (by decide)) rfl (Wp.mono h ?_)
      rintro _ m3 ⟨r3, rfl, h⟩
      change Wp _ _ 34 _ [.inl r3] _ _
      refine w_if_eq (q := 37) (X := r3.toInt) hm260 ⟨⟨_, _, rfl⟩, rfl⟩ rfl (fun hc => ?_) (fun hc => ?_)
      · have h := h.1 hc
        refine w_bipush (q := 48) hm260 ⟨⟨_, _, rfl⟩, rfl⟩ bipush_m2 ?_
        exact w_reti hm260 ⟨⟨_, _, rfl⟩, rfl⟩ rfl h
      · have h := h.2 hc
        refine w_aload_n (q := 38) hm260 ⟨⟨_, _, rfl⟩, rfl⟩ rfl ?_
        refine w_iload_n (q := 39) hm260 ⟨⟨_, _, rfl⟩, rfl⟩ rfl ?_
        refine w_iload_n (q := 40) hm260 ⟨⟨_, _, rfl⟩, rfl⟩ rfl ?_
        refine w_call (q := 43) (n := 3) (vs := [.inr (.inr (some 57)), .inl x1, .inl x2]) (rest := []) (la := [oR 57, oI x1, oI x2, none, none, none]) hm260 ⟨⟨_, _, rfl⟩, rfl⟩ rfl rfl rfl rfl hm241 rfl rfl (fun _ => ⟨_, _, rfl, rfl⟩) rfl (Wp.mono h ?_)
        rintro _ m4 ⟨r4, rfl, h⟩
        change Wp _ _ 43 _ [.inl r4] _ _
        refine w_goto (q := 48) hm260 ⟨_, _, rfl⟩ ?_
        exact w_reti hm260 ⟨⟨_, _, rfl⟩, rfl⟩ rfl h
    · have h := h.2 hc
      exact Wp.wk [false, false, false, false] h
theorem v_X11_way_0_12 {d : Nat} {m : dM} {Q : Int32 → dM → Prop} (h : Q (-1 : Int32) m) : j_X11_way_0_12 (d + 1) m Q := by
  refine w_iconst (q := 13) hm260 ⟨⟨_, _, rfl⟩, rfl⟩ iconst_m1 ?_
  exact w_reti hm260 ⟨⟨_, _, rfl⟩, rfl⟩ rfl h
theorem v_X12_way_70 {d : Nat} {x1 : Int32} {x2 : Int32} {m : dM} {Q : Int32 → dM → Prop} (h : c_X12_isFlat_70 d x1 m (fun r1 m1 => ((r1.toInt = 0 → j_X12_way_70_12 (d + 1) m1 Q) ∧ (r1.toInt ≠ 0 → ((0 ≤ x2.toInt → c_X12_copies_70 d m1 (fun m2 => c_X12_isLit_70 d x1 m2 (fun r3 m3 => ((r3.toInt ≠ 0 → ((0 ≤ x1.toInt ∧ x1.toInt < 7) ∧ ((x2.toInt < (m3.1 109 x1.toNatClampNeg).toInt → j_X12_way_70_46 (d + 1) x2 x1 (0 : Int32) m3 Q) ∧ ((m3.1 109 x1.toNatClampNeg).toInt ≤ x2.toInt → Q (-1 : Int32) m3)))) ∧ (r3.toInt = 0 → Q (-2 : Int32) m3))))) ∧ (x2.toInt < 0 → j_X12_way_70_12 (d + 1) m1 Q)))))) : c_X12_way_70 (d + 1) x1 x2 m Q := by
  refine w_aload_n (q := 1) hm81 ⟨⟨_, _, rfl⟩, rfl⟩ rfl ?_
  refine w_iload_n (q := 2) hm81 ⟨⟨_, _, rfl⟩, rfl⟩ rfl ?_
  refine w_call (q := 5) (n := 0) (vs := [.inr (.inr (some 70)), .inl x1]) (rest := []) (la := [oR 70, oI x1]) hm81 ⟨⟨_, _, rfl⟩, rfl⟩ rfl rfl rfl rfl hm39 rfl rfl (fun _ => ⟨_, _, rfl, rfl⟩) rfl (Wp.mono h ?_)
  rintro _ m1 ⟨r1, rfl, h⟩
  change Wp _ _ 5 _ [.inl r1] _ _
  refine w_if_eq (q := 8) (X := r1.toInt) hm81 ⟨⟨_, _, rfl⟩, rfl⟩ rfl (fun hc => ?_) (fun hc => ?_)
  · have h := h.1 hc
    exact Wp.wk [false, false, false, false, false] h
  · have h := h.2 hc
    refine w_iload_n (q := 9) hm81 ⟨⟨_, _, rfl⟩, rfl⟩ rfl ?_
    refine w_if_ge (q := 12) (X := x2.toInt) hm81 ⟨⟨_, _, rfl⟩, rfl⟩ rfl (fun hc => ?_) (fun hc => ?_)
    · have h := h.1 hc
      refine w_aload_n (q := 15) hm81 ⟨⟨_, _, rfl⟩, rfl⟩ rfl ?_
      refine w_call (q := 18) (n := 1) (vs := [.inr (.inr (some 70))]) (rest := []) (la := [oR 70, none]) hm81 ⟨⟨_, _, rfl⟩, rfl⟩ rfl rfl rfl rfl hm44 rfl rfl (fun _ => ⟨_, _, rfl, rfl⟩) rfl (Wp.mono h ?_)
      rintro _ m2 ⟨rfl, h⟩
      change Wp _ _ 18 _ [] _ _
      refine w_aload_n (q := 19) hm81 ⟨⟨_, _, rfl⟩, rfl⟩ rfl ?_
      refine w_iload_n (q := 20) hm81 ⟨⟨_, _, rfl⟩, rfl⟩ rfl ?_
      refine w_call (q := 23) (n := 0) (vs := [.inr (.inr (some 70)), .inl x1]) (rest := []) (la := [oR 70, oI x1]) hm81 ⟨⟨_, _, rfl⟩, rfl⟩ rfl rfl rfl rfl hm51 rfl rfl (fun _ => ⟨_, _, rfl, rfl⟩) rfl (Wp.mono h ?_)
      rintro _ m3 ⟨r3, rfl, h⟩
      change Wp _ _ 23 _ [.inl r3] _ _
      refine w_if_ne (q := 26) (X := r3.toInt) hm81 ⟨⟨_, _, rfl⟩, rfl⟩ rfl (fun hc => ?_) (fun hc => ?_)
      · have h := h.1 hc
        refine w_iload_n (q := 30) hm81 ⟨⟨_, _, rfl⟩, rfl⟩ rfl ?_
        refine w_aload_n (q := 31) hm81 ⟨⟨_, _, rfl⟩, rfl⟩ rfl ?_
        refine w_getr (q := 34) hm81 ⟨⟨_, _, rfl⟩, rfl⟩ rfl ?_
        refine w_iload_n (q := 35) hm81 ⟨⟨_, _, rfl⟩, rfl⟩ rfl ?_
        obtain ⟨hi, h⟩ := h
        refine w_iald (q := 36) (v := (m3.1 109 x1.toNatClampNeg)) hm81 ⟨⟨_, _, rfl⟩, rfl⟩ rfl hi rfl rfl ?_
        refine w_icmp_lt (q := 39) (X := x2.toInt) (Y := (m3.1 109 x1.toNatClampNeg).toInt) hm81 ⟨⟨_, _, rfl⟩, rfl⟩ rfl rfl (fun hc => ?_) (fun hc => ?_)
        · have h := h.1 hc
          refine w_iload_n (q := 42) hm81 ⟨⟨_, _, rfl⟩, rfl⟩ rfl ?_
          refine w_istore_n (q := 43) (l' := [oR 70, oI x1, oI x2, oI x1, none]) hm81 ⟨⟨_, _, rfl⟩, rfl⟩ rfl rfl rfl ?_
          refine w_iconst (q := 44) hm81 ⟨⟨_, _, rfl⟩, rfl⟩ iconst_0 ?_
          refine w_istore (q := 46) (l' := [oR 70, oI x1, oI x2, oI x1, oI (0 : Int32)]) hm81 ⟨⟨_, _, rfl⟩, rfl⟩ rfl rfl rfl ?_
          exact Wp.wk [true, false, true, true, true] h
        · have h := h.2 hc
          refine w_iconst (q := 40) hm81 ⟨⟨_, _, rfl⟩, rfl⟩ iconst_m1 ?_
          exact w_reti hm81 ⟨⟨_, _, rfl⟩, rfl⟩ rfl h
      · have h := h.2 hc
        refine w_bipush (q := 28) hm81 ⟨⟨_, _, rfl⟩, rfl⟩ bipush_m2 ?_
        exact w_reti hm81 ⟨⟨_, _, rfl⟩, rfl⟩ rfl h
    · have h := h.2 hc
      exact Wp.wk [false, false, false, false, false] h
theorem v_X12_way_70_12 {d : Nat} {m : dM} {Q : Int32 → dM → Prop} (h : Q (-1 : Int32) m) : j_X12_way_70_12 (d + 1) m Q := by
  refine w_iconst (q := 13) hm81 ⟨⟨_, _, rfl⟩, rfl⟩ iconst_m1 ?_
  exact w_reti hm81 ⟨⟨_, _, rfl⟩, rfl⟩ rfl h
theorem v_X12_way_70_46 {d : Nat} {x2 : Int32} {x3 : Int32} {x4 : Int32} {m : dM} {Q : Int32 → dM → Prop} (h : ((x2.toInt ≤ x4.toInt → c_X12_wireFrom_70 d x3 m (fun r1 m1 => Q r1 m1)) ∧ (x4.toInt < x2.toInt → c_X12_wireFrom_70 d x3 m (fun r2 m2 => c_X12_otherEnd_70 d r2 x3 m2 (fun r3 m3 => j_X12_way_70_46 (d + 1) x2 r3 (x4 + (1 : Int32)) m3 Q))))) : j_X12_way_70_46 (d + 1) x2 x3 x4 m Q := by
  refine w_iload (q := 48) hm81 ⟨⟨_, _, rfl⟩, rfl⟩ rfl ?_
  refine w_iload_n (q := 49) hm81 ⟨⟨_, _, rfl⟩, rfl⟩ rfl ?_
  refine w_icmp_ge (q := 52) (X := x4.toInt) (Y := x2.toInt) hm81 ⟨⟨_, _, rfl⟩, rfl⟩ rfl rfl (fun hc => ?_) (fun hc => ?_)
  · have h := h.1 hc
    refine w_aload_n (q := 70) hm81 ⟨⟨_, _, rfl⟩, rfl⟩ rfl ?_
    refine w_iload_n (q := 71) hm81 ⟨⟨_, _, rfl⟩, rfl⟩ rfl ?_
    refine w_call (q := 74) (n := 2) (vs := [.inr (.inr (some 70)), .inl x3]) (rest := []) (la := [oR 70, oI x3, none, none]) hm81 ⟨⟨_, _, rfl⟩, rfl⟩ rfl rfl rfl rfl hm49 rfl rfl (fun _ => ⟨_, _, rfl, rfl⟩) rfl (Wp.mono h ?_)
    rintro _ m1 ⟨r1, rfl, h⟩
    change Wp _ _ 74 _ [.inl r1] _ _
    exact w_reti hm81 ⟨⟨_, _, rfl⟩, rfl⟩ rfl h
  · have h := h.2 hc
    refine w_aload_n (q := 53) hm81 ⟨⟨_, _, rfl⟩, rfl⟩ rfl ?_
    refine w_aload_n (q := 54) hm81 ⟨⟨_, _, rfl⟩, rfl⟩ rfl ?_
    refine w_iload_n (q := 55) hm81 ⟨⟨_, _, rfl⟩, rfl⟩ rfl ?_
    refine w_call (q := 58) (n := 2) (vs := [.inr (.inr (some 70)), .inl x3]) (rest := [.inr (.inr (some 70))]) (la := [oR 70, oI x3, none, none]) hm81 ⟨⟨_, _, rfl⟩, rfl⟩ rfl rfl rfl rfl hm49 rfl rfl (fun _ => ⟨_, _, rfl, rfl⟩) rfl (Wp.mono h ?_)
    rintro _ m2 ⟨r2, rfl, h⟩
    change Wp _ _ 58 _ [.inl r2, .inr (.inr (some 70))] _ _
    refine w_iload_n (q := 59) hm81 ⟨⟨_, _, rfl⟩, rfl⟩ rfl ?_
    refine w_call (q := 62) (n := 1) (vs := [.inr (.inr (some 70)), .inl r2, .inl x3]) (rest := []) (la := [oR 70, oI r2, oI x3, none]) hm81 ⟨⟨_, _, rfl⟩, rfl⟩ rfl rfl rfl rfl hm48 rfl rfl (fun _ => ⟨_, _, rfl, rfl⟩) rfl (Wp.mono h ?_)
    rintro _ m3 ⟨r3, rfl, h⟩
    change Wp _ _ 62 _ [.inl r3] _ _
    refine w_istore_n (q := 63) (l' := [oR 70, none, oI x2, oI r3, oI x4]) hm81 ⟨⟨_, _, rfl⟩, rfl⟩ rfl rfl rfl ?_
    refine w_iinc (q := 66) (l' := [oR 70, none, oI x2, oI r3, oI (x4 + (1 : Int32))]) hm81 ⟨⟨_, _, rfl⟩, rfl⟩ rfl rfl rfl iconst_1 rfl ?_
    refine w_goto (q := 46) hm81 ⟨_, _, rfl⟩ ?_
    exact h
theorem v_X7_copy_62_47 {d : Nat} {m : dM} {Q : dM → Prop} (h : Q (dCpy (dCpy (dCpy (dSet (dSet (dSet (dSet (dSet (dSet m 62 0 (m.1 47 0)) 62 1 (m.1 47 1)) 62 2 (m.1 47 2)) 62 3 (m.1 47 3)) 62 4 (m.1 47 4)) 62 5 (m.1 47 5)) 48 (0 : Int).toNat 63 (0 : Int).toNat (10 : Int).toNat) 49 (0 : Int).toNat 64 (0 : Int).toNat (10 : Int).toNat) 50 (0 : Int).toNat 65 (0 : Int).toNat (7 : Int).toNat)) : c_X7_copy_62_47 (d + 1) m Q := by
  refine w_aload_n (q := 1) hm209 ⟨⟨_, _, rfl⟩, rfl⟩ rfl ?_
  refine w_aload_n (q := 2) hm209 ⟨⟨_, _, rfl⟩, rfl⟩ rfl ?_
  refine w_getf (q := 5) (v := (m.1 47 0)) hm209 ⟨⟨_, _, rfl⟩, rfl⟩ rfl rfl ?_
  refine w_putf (q := 8) hm209 ⟨⟨_, _, rfl⟩, rfl⟩ rfl rfl rfl ?_
  refine w_aload_n (q := 9) hm209 ⟨⟨_, _, rfl⟩, rfl⟩ rfl ?_
  refine w_aload_n (q := 10) hm209 ⟨⟨_, _, rfl⟩, rfl⟩ rfl ?_
  refine w_getf (q := 13) (v := (m.1 47 1)) hm209 ⟨⟨_, _, rfl⟩, rfl⟩ rfl rfl ?_
  refine w_putf (q := 16) hm209 ⟨⟨_, _, rfl⟩, rfl⟩ rfl rfl rfl ?_
  refine w_aload_n (q := 17) hm209 ⟨⟨_, _, rfl⟩, rfl⟩ rfl ?_
  refine w_aload_n (q := 18) hm209 ⟨⟨_, _, rfl⟩, rfl⟩ rfl ?_
  refine w_getf (q := 21) (v := (m.1 47 2)) hm209 ⟨⟨_, _, rfl⟩, rfl⟩ rfl rfl ?_
  refine w_putf (q := 24) hm209 ⟨⟨_, _, rfl⟩, rfl⟩ rfl rfl rfl ?_
  refine w_aload_n (q := 25) hm209 ⟨⟨_, _, rfl⟩, rfl⟩ rfl ?_
  refine w_aload_n (q := 26) hm209 ⟨⟨_, _, rfl⟩, rfl⟩ rfl ?_
  refine w_getf (q := 29) (v := (m.1 47 3)) hm209 ⟨⟨_, _, rfl⟩, rfl⟩ rfl rfl ?_
  refine w_putf (q := 32) hm209 ⟨⟨_, _, rfl⟩, rfl⟩ rfl rfl rfl ?_
  refine w_aload_n (q := 33) hm209 ⟨⟨_, _, rfl⟩, rfl⟩ rfl ?_
  refine w_aload_n (q := 34) hm209 ⟨⟨_, _, rfl⟩, rfl⟩ rfl ?_
  refine w_getf (q := 37) (v := (m.1 47 4)) hm209 ⟨⟨_, _, rfl⟩, rfl⟩ rfl rfl ?_
  refine w_putf (q := 40) hm209 ⟨⟨_, _, rfl⟩, rfl⟩ rfl rfl rfl ?_
  refine w_aload_n (q := 41) hm209 ⟨⟨_, _, rfl⟩, rfl⟩ rfl ?_
  refine w_aload_n (q := 42) hm209 ⟨⟨_, _, rfl⟩, rfl⟩ rfl ?_
  refine w_getf (q := 45) (v := (m.1 47 5)) hm209 ⟨⟨_, _, rfl⟩, rfl⟩ rfl rfl ?_
  refine w_putf (q := 48) hm209 ⟨⟨_, _, rfl⟩, rfl⟩ rfl rfl rfl ?_
  refine w_aload_n (q := 49) hm209 ⟨⟨_, _, rfl⟩, rfl⟩ rfl ?_
  refine w_getr (q := 52) hm209 ⟨⟨_, _, rfl⟩, rfl⟩ rfl ?_
  refine w_iconst (q := 53) hm209 ⟨⟨_, _, rfl⟩, rfl⟩ iconst_0 ?_
  refine w_aload_n (q := 54) hm209 ⟨⟨_, _, rfl⟩, rfl⟩ rfl ?_
  refine w_getr (q := 57) hm209 ⟨⟨_, _, rfl⟩, rfl⟩ rfl ?_
  refine w_iconst (q := 58) hm209 ⟨⟨_, _, rfl⟩, rfl⟩ iconst_0 ?_
  refine w_bipush (q := 60) hm209 ⟨⟨_, _, rfl⟩, rfl⟩ bipush_10 ?_
  refine w_copy (q := 63) (N := 10) (D := 0) (S := 0) hm209 ⟨⟨_, _, rfl⟩, rfl⟩ rfl rfl rfl rfl rfl (by decide) (by decide) (by decide) (by decide) ?_
  refine w_aload_n (q := 64) hm209 ⟨⟨_, _, rfl⟩, rfl⟩ rfl ?_
  refine w_getr (q := 67) hm209 ⟨⟨_, _, rfl⟩, rfl⟩ rfl ?_
  refine w_iconst (q := 68) hm209 ⟨⟨_, _, rfl⟩, rfl⟩ iconst_0 ?_
  refine w_aload_n (q := 69) hm209 ⟨⟨_, _, rfl⟩, rfl⟩ rfl ?_
  refine w_getr (q := 72) hm209 ⟨⟨_, _, rfl⟩, rfl⟩ rfl ?_
  refine w_iconst (q := 73) hm209 ⟨⟨_, _, rfl⟩, rfl⟩ iconst_0 ?_
  refine w_bipush (q := 75) hm209 ⟨⟨_, _, rfl⟩, rfl⟩ bipush_10 ?_
  refine w_copy (q := 78) (N := 10) (D := 0) (S := 0) hm209 ⟨⟨_, _, rfl⟩, rfl⟩ rfl rfl rfl rfl rfl (by decide) (by decide) (by decide) (by decide) ?_
  refine w_aload_n (q := 79) hm209 ⟨⟨_, _, rfl⟩, rfl⟩ rfl ?_
  refine w_getr (q := 82) hm209 ⟨⟨_, _, rfl⟩, rfl⟩ rfl ?_
  refine w_iconst (q := 83) hm209 ⟨⟨_, _, rfl⟩, rfl⟩ iconst_0 ?_
  refine w_aload_n (q := 84) hm209 ⟨⟨_, _, rfl⟩, rfl⟩ rfl ?_
  refine w_getr (q := 87) hm209 ⟨⟨_, _, rfl⟩, rfl⟩ rfl ?_
  refine w_iconst (q := 88) hm209 ⟨⟨_, _, rfl⟩, rfl⟩ iconst_0 ?_
  refine w_bipush (q := 90) hm209 ⟨⟨_, _, rfl⟩, rfl⟩ bipush_7 ?_
  refine w_copy (q := 93) (N := 7) (D := 0) (S := 0) hm209 ⟨⟨_, _, rfl⟩, rfl⟩ rfl rfl rfl rfl rfl (by decide) (by decide) (by decide) (by decide) ?_
  exact w_retv hm209 ⟨⟨_, _, rfl⟩, rfl⟩ rfl h
theorem v_X7_hourOfDay_62 {d : Nat} {m : dM} {Q : Int32 → dM → Prop} (h : Q ((m.1 62 0) - (m.1 62 0) / (24 : Int32) * (24 : Int32)) m) : c_X7_hourOfDay_62 (d + 1) m Q := by
  refine w_aload_n (q := 1) hm212 ⟨⟨_, _, rfl⟩, rfl⟩ rfl ?_
  refine w_getf (q := 4) (v := (m.1 62 0)) hm212 ⟨⟨_, _, rfl⟩, rfl⟩ rfl rfl ?_
  refine w_bipush (q := 6) hm212 ⟨⟨_, _, rfl⟩, rfl⟩ bipush_24 ?_
  refine w_irem (q := 7) hm212 ⟨⟨_, _, rfl⟩, rfl⟩ (by decide) ?_
  exact w_reti hm212 ⟨⟨_, _, rfl⟩, rfl⟩ rfl h
theorem v_X0_usesAt_54_62 {d : Nat} {x2 : Int32} {m : dM} {Q : Int32 → dM → Prop} (h : c_X10_lay_57 d (m.1 62 3) m (fun m1 => j_X0_usesAt_54_62_16 (d + 1) x2 (0 : Int32) (0 : Int32) m1 Q)) : c_X0_usesAt_54_62 (d + 1) x2 m Q := by
  refine w_aload_n (q := 1) hm118 ⟨⟨_, _, rfl⟩, rfl⟩ rfl ?_
  refine w_getr (q := 4) hm118 ⟨⟨_, _, rfl⟩, rfl⟩ rfl ?_
  refine w_aload_n (q := 5) hm118 ⟨⟨_, _, rfl⟩, rfl⟩ rfl ?_
  refine w_getf (q := 8) (v := (m.1 62 3)) hm118 ⟨⟨_, _, rfl⟩, rfl⟩ rfl rfl ?_
  refine w_call (q := 11) (n := 3) (vs := [.inr (.inr (some 57)), .inl (m.1 62 3)]) (rest := []) (la := [oR 57, oI (m.1 62 3), none, none, none]) hm118 ⟨⟨_, _, rfl⟩, rfl⟩ rfl rfl rfl rfl hm239 rfl rfl (fun _ => ⟨_, _, rfl, rfl⟩) rfl (Wp.mono h ?_)
  rintro _ m1 ⟨rfl, h⟩
  change Wp _ _ 11 _ [] _ _
  refine w_iconst (q := 12) hm118 ⟨⟨_, _, rfl⟩, rfl⟩ iconst_0 ?_
  refine w_istore_n (q := 13) (l' := [oR 54, oR 62, oI x2, oI (0 : Int32), none, none]) hm118 ⟨⟨_, _, rfl⟩, rfl⟩ rfl rfl rfl ?_
  refine w_iconst (q := 14) hm118 ⟨⟨_, _, rfl⟩, rfl⟩ iconst_0 ?_
  refine w_istore (q := 16) (l' := [oR 54, oR 62, oI x2, oI (0 : Int32), oI (0 : Int32), none]) hm118 ⟨⟨_, _, rfl⟩, rfl⟩ rfl rfl rfl ?_
  exact h
theorem v_X0_usesAt_54_62_16 {d : Nat} {x2 : Int32} {x3 : Int32} {x4 : Int32} {m : dM} {Q : Int32 → dM → Prop} (h : (((m.1 2 2).toInt ≤ x4.toInt → Q x3 m) ∧ (x4.toInt < (m.1 2 2).toInt → ((0 ≤ x4.toInt ∧ x4.toInt < 8) ∧ ((x2.toInt < (m.1 9 x4.toNatClampNeg).toInt → j_X0_usesAt_54_62_60 (d + 1) x2 x3 x4 m Q) ∧ ((m.1 9 x4.toNatClampNeg).toInt ≤ x2.toInt → ((0 ≤ x4.toInt ∧ x4.toInt < 8) ∧ (((m.1 10 x4.toNatClampNeg).toInt < x2.toInt → j_X0_usesAt_54_62_60 (d + 1) x2 x3 x4 m Q) ∧ (x2.toInt ≤ (m.1 10 x4.toNatClampNeg).toInt → c_X11_has d (m.1 62 5) x4 m (fun r1 m1 => ((r1.toInt = 0 → j_X0_usesAt_54_62_110 (d + 1) x2 x3 x4 m1 Q) ∧ (r1.toInt ≠ 0 → ((0 ≤ x4.toInt ∧ x4.toInt < 8) ∧ c_X11_has d (m1.1 57 5) (m1.1 7 x4.toNatClampNeg) m1 (fun r2 m2 => ((r2.toInt = 0 → j_X0_usesAt_54_62_110 (d + 1) x2 x3 x4 m2 Q) ∧ (r2.toInt ≠ 0 → j_X0_usesAt_54_62_110 (d + 1) x2 (x3 ||| ((1 : Int32) <<< (x4 &&& 31))) x4 m2 Q)))))))))))))))) : j_X0_usesAt_54_62_16 (d + 1) x2 x3 x4 m Q := by
  refine w_iload (q := 18) hm118 ⟨⟨_, _, rfl⟩, rfl⟩ rfl ?_
  refine w_aload_n (q := 19) hm118 ⟨⟨_, _, rfl⟩, rfl⟩ rfl ?_
  refine w_getr (q := 22) hm118 ⟨⟨_, _, rfl⟩, rfl⟩ rfl ?_
  refine w_getf (q := 25) (v := (m.1 2 2)) hm118 ⟨⟨_, _, rfl⟩, rfl⟩ rfl rfl ?_
  refine w_icmp_ge (q := 28) (X := x4.toInt) (Y := (m.1 2 2).toInt) hm118 ⟨⟨_, _, rfl⟩, rfl⟩ rfl rfl (fun hc => ?_) (fun hc => ?_)
  · have h := h.1 hc
    refine w_iload_n (q := 117) hm118 ⟨⟨_, _, rfl⟩, rfl⟩ rfl ?_
    exact w_reti hm118 ⟨⟨_, _, rfl⟩, rfl⟩ rfl h
  · have h := h.2 hc
    refine w_aload_n (q := 29) hm118 ⟨⟨_, _, rfl⟩, rfl⟩ rfl ?_
    refine w_getr (q := 32) hm118 ⟨⟨_, _, rfl⟩, rfl⟩ rfl ?_
    refine w_getr (q := 35) hm118 ⟨⟨_, _, rfl⟩, rfl⟩ rfl ?_
    refine w_iload (q := 37) hm118 ⟨⟨_, _, rfl⟩, rfl⟩ rfl ?_
    obtain ⟨hi, h⟩ := h
    refine w_iald (q := 38) (v := (m.1 9 x4.toNatClampNeg)) hm118 ⟨⟨_, _, rfl⟩, rfl⟩ rfl hi rfl rfl ?_
    refine w_iload_n (q := 39) hm118 ⟨⟨_, _, rfl⟩, rfl⟩ rfl ?_
    refine w_icmp_gt (q := 42) (X := (m.1 9 x4.toNatClampNeg).toInt) (Y := x2.toInt) hm118 ⟨⟨_, _, rfl⟩, rfl⟩ rfl rfl (fun hc => ?_) (fun hc => ?_)
    · have h := h.1 hc
      exact h
    · have h := h.2 hc
      refine w_iload_n (q := 43) hm118 ⟨⟨_, _, rfl⟩, rfl⟩ rfl ?_
      refine w_aload_n (q := 44) hm118 ⟨⟨_, _, rfl⟩, rfl⟩ rfl ?_
      refine w_getr (q := 47) hm118 ⟨⟨_, _, rfl⟩, rfl⟩ rfl ?_
      refine w_getr (q := 50) hm118 ⟨⟨_, _, rfl⟩, rfl⟩ rfl ?_
      refine w_iload (q := 52) hm118 ⟨⟨_, _, rfl⟩, rfl⟩ rfl ?_
      obtain ⟨hi, h⟩ := h
      refine w_iald (q := 53) (v := (m.1 10 x4.toNatClampNeg)) hm118 ⟨⟨_, _, rfl⟩, rfl⟩ rfl hi rfl rfl ?_
      refine w_icmp_gt (q := 56) (X := x2.toInt) (Y := (m.1 10 x4.toNatClampNeg).toInt) hm118 ⟨⟨_, _, rfl⟩, rfl⟩ rfl rfl (fun hc => ?_) (fun hc => ?_)
      · have h := h.1 hc
        exact h
      · have h := h.2 hc
        refine w_iconst (q := 57) hm118 ⟨⟨_, _, rfl⟩, rfl⟩ iconst_1 ?_
        refine w_goto (q := 61) hm118 ⟨_, _, rfl⟩ ?_
        refine w_istore (q := 63) (l' := [oR 54, oR 62, oI x2, oI x3, oI x4, oI (1 : Int32)]) hm118 ⟨⟨_, _, rfl⟩, rfl⟩ rfl rfl rfl ?_
        refine w_iload (q := 65) hm118 ⟨⟨_, _, rfl⟩, rfl⟩ rfl ?_
        refine w_if_eq (q := 68) (X := 1) hm118 ⟨⟨_, _, rfl⟩, rfl⟩ (by decide) (fun hc => absurd hc (by decide)) (fun _ => ?_)
        refine w_aload_n (q := 69) hm118 ⟨⟨_, _, rfl⟩, rfl⟩ rfl ?_
        refine w_getf (q := 72) (v := (m.1 62 5)) hm118 ⟨⟨_, _, rfl⟩, rfl⟩ rfl rfl ?_
        refine w_iload (q := 74) hm118 ⟨⟨_, _, rfl⟩, rfl⟩ rfl ?_
        refine w_call (q := 77) (n := 0) (vs := [.inl (m.1 62 5), .inl x4]) (rest := []) (la := [oI (m.1 62 5), oI x4]) hm118 ⟨⟨_, _, rfl⟩, rfl⟩ rfl rfl rfl rfl hm283 rfl rfl (fun hz => absurd hz (by decide)) rfl (Wp.mono h ?_)
        rintro _ m1 ⟨r1, rfl, h⟩
        change Wp _ _ 77 _ [.inl r1] _ _
        refine w_if_eq (q := 80) (X := r1.toInt) hm118 ⟨⟨_, _, rfl⟩, rfl⟩ rfl (fun hc => ?_) (fun hc => ?_)
        · have h := h.1 hc
          exact Wp.wk [true, true, true, true, true, false] h
        · have h := h.2 hc
          refine w_aload_n (q := 81) hm118 ⟨⟨_, _, rfl⟩, rfl⟩ rfl ?_
          refine w_getr (q := 84) hm118 ⟨⟨_, _, rfl⟩, rfl⟩ rfl ?_
          refine w_getf (q := 87) (v := (m1.1 57 5)) hm118 ⟨⟨_, _, rfl⟩, rfl⟩ rfl rfl ?_
          refine w_aload_n (q := 88) hm118 ⟨⟨_, _, rfl⟩, rfl⟩ rfl ?_
          refine w_getr (q := 91) hm118 ⟨⟨_, _, rfl⟩, rfl⟩ rfl ?_
          refine w_getr (q := 94) hm118 ⟨⟨_, _, rfl⟩, rfl⟩ rfl ?_
          refine w_iload (q := 96) hm118 ⟨⟨_, _, rfl⟩, rfl⟩ rfl ?_
          obtain ⟨hi, h⟩ := h
          refine w_iald (q := 97) (v := (m1.1 7 x4.toNatClampNeg)) hm118 ⟨⟨_, _, rfl⟩, rfl⟩ rfl hi rfl rfl ?_
          refine w_call (q := 100) (n := 0) (vs := [.inl (m1.1 57 5), .inl (m1.1 7 x4.toNatClampNeg)]) (rest := []) (la := [oI (m1.1 57 5), oI (m1.1 7 x4.toNatClampNeg)]) hm118 ⟨⟨_, _, rfl⟩, rfl⟩ rfl rfl rfl rfl hm283 rfl rfl (fun hz => absurd hz (by decide)) rfl (Wp.mono h ?_)
          rintro _ m2 ⟨r2, rfl, h⟩
          change Wp _ _ 100 _ [.inl r2] _ _
          refine w_if_eq (q := 103) (X := r2.toInt) hm118 ⟨⟨_, _, rfl⟩, rfl⟩ rfl (fun hc => ?_) (fun hc => ?_)
          · have h := h.1 hc
            exact Wp.wk [true, true, true, true, true, false] h
          · have h := h.2 hc
            refine w_iload_n (q := 104) hm118 ⟨⟨_, _, rfl⟩, rfl⟩ rfl ?_
            refine w_iconst (q := 105) hm118 ⟨⟨_, _, rfl⟩, rfl⟩ iconst_1 ?_
            refine w_iload (q := 107) hm118 ⟨⟨_, _, rfl⟩, rfl⟩ rfl ?_
            refine w_ishl (q := 108) hm118 ⟨⟨_, _, rfl⟩, rfl⟩ ?_
            refine w_ior (q := 109) hm118 ⟨⟨_, _, rfl⟩, rfl⟩ ?_
            refine w_istore_n (q := 110) (l' := [oR 54, oR 62, oI x2, oI (x3 ||| ((1 : Int32) <<< (x4 &&& 31))), oI x4, oI (1 : Int32)]) hm118 ⟨⟨_, _, rfl⟩, rfl⟩ rfl rfl rfl ?_
            exact Wp.wk [true, true, true, true, true, false] h
theorem v_X0_usesAt_54_62_60 {d : Nat} {x2 : Int32} {x3 : Int32} {x4 : Int32} {m : dM} {Q : Int32 → dM → Prop} (h : j_X0_usesAt_54_62_110 (d + 1) x2 x3 x4 m Q) : j_X0_usesAt_54_62_60 (d + 1) x2 x3 x4 m Q := by
  refine w_iconst (q := 61) hm118 ⟨⟨_, _, rfl⟩, rfl⟩ iconst_0 ?_
  refine w_istore (q := 63) (l' := [oR 54, oR 62, oI x2, oI x3, oI x4, oI (0 : Int32)]) hm118 ⟨⟨_, _, rfl⟩, rfl⟩ rfl rfl rfl ?_
  refine w_iload (q := 65) hm118 ⟨⟨_, _, rfl⟩, rfl⟩ rfl ?_
  refine w_if_eq (q := 68) (X := 0) hm118 ⟨⟨_, _, rfl⟩, rfl⟩ (by decide) (fun _ => ?_) (fun hc => absurd hc (by decide))
  exact Wp.wk [true, true, true, true, true, false] h
theorem v_X0_usesAt_54_62_110 {d : Nat} {x2 : Int32} {x3 : Int32} {x4 : Int32} {m : dM} {Q : Int32 → dM → Prop} (h : j_X0_usesAt_54_62_16 (d + 1) x2 x3 (x4 + (1 : Int32)) m Q) : j_X0_usesAt_54_62_110 (d + 1) x2 x3 x4 m Q := by
  refine w_iinc (q := 113) (l' := [oR 54, oR 62, oI x2, oI x3, oI (x4 + (1 : Int32)), none]) hm118 ⟨⟨_, _, rfl⟩, rfl⟩ rfl rfl rfl iconst_1 rfl ?_
  refine w_goto (q := 16) hm118 ⟨_, _, rfl⟩ ?_
  exact h
theorem v_X0_putOn_54_62 {d : Nat} {x2 : Int32} {m : dM} {Q : dM → Prop} (h : c_X10_lay_57 d (m.1 62 3) m (fun m1 => c_J7_fill_56 d (0 : Int32) m1 (fun m2 => j_X0_putOn_54_62_21 (d + 1) x2 (0 : Int32) m2 Q))) : c_X0_putOn_54_62 (d + 1) x2 m Q := by
  refine w_aload_n (q := 1) hm120 ⟨⟨_, _, rfl⟩, rfl⟩ rfl ?_
  refine w_getr (q := 4) hm120 ⟨⟨_, _, rfl⟩, rfl⟩ rfl ?_
  refine w_aload_n (q := 5) hm120 ⟨⟨_, _, rfl⟩, rfl⟩ rfl ?_
  refine w_getf (q := 8) (v := (m.1 62 3)) hm120 ⟨⟨_, _, rfl⟩, rfl⟩ rfl rfl ?_
  refine w_call (q := 11) (n := 3) (vs := [.inr (.inr (some 57)), .inl (m.1 62 3)]) (rest := []) (la := [oR 57, oI (m.1 62 3), none, none, none]) hm120 ⟨⟨_, _, rfl⟩, rfl⟩ rfl rfl rfl rfl hm239 rfl rfl (fun _ => ⟨_, _, rfl, rfl⟩) rfl (Wp.mono h ?_)
  rintro _ m1 ⟨rfl, h⟩
  change Wp _ _ 11 _ [] _ _
  refine w_aload_n (q := 12) hm120 ⟨⟨_, _, rfl⟩, rfl⟩ rfl ?_
  refine w_getr (q := 15) hm120 ⟨⟨_, _, rfl⟩, rfl⟩ rfl ?_
  refine w_iconst (q := 16) hm120 ⟨⟨_, _, rfl⟩, rfl⟩ iconst_0 ?_
  refine w_call (q := 19) (n := 2) (vs := [.inr (.inr (some 56)), .inl (0 : Int32)]) (rest := []) (la := [oR 56, oI (0 : Int32), none, none]) hm120 ⟨⟨_, _, rfl⟩, rfl⟩ rfl rfl rfl rfl hm286 rfl rfl (fun hz => absurd hz (by decide)) rfl (Wp.mono h ?_)
  rintro _ m2 ⟨rfl, h⟩
  change Wp _ _ 19 _ [] _ _
  refine w_iconst (q := 20) hm120 ⟨⟨_, _, rfl⟩, rfl⟩ iconst_0 ?_
  refine w_istore_n (q := 21) (l' := [oR 54, oR 62, oI x2, oI (0 : Int32), none, none]) hm120 ⟨⟨_, _, rfl⟩, rfl⟩ rfl rfl rfl ?_
  exact Wp.wk [true, false, true, true, false, false] h
theorem v_X0_putOn_54_62_21 {d : Nat} {x2 : Int32} {x3 : Int32} {m : dM} {Q : dM → Prop} (h : (((m.1 2 2).toInt ≤ x3.toInt → Q m) ∧ (x3.toInt < (m.1 2 2).toInt → c_X11_has d x2 x3 m (fun r1 m1 => ((r1.toInt = 0 → j_X0_putOn_54_62_66 (d + 1) x2 x3 (0 : Int32) (0 : Int32) m1 Q) ∧ (r1.toInt ≠ 0 → ((0 ≤ x3.toInt ∧ x3.toInt < 8) ∧ ((0 ≤ (m1.1 7 x3.toNatClampNeg).toInt ∧ (m1.1 7 x3.toNatClampNeg).toInt < 7) ∧ j_X0_putOn_54_62_66 (d + 1) x2 x3 (m1.1 60 (m1.1 7 x3.toNatClampNeg).toNatClampNeg) (0 : Int32) m1 Q)))))))) : j_X0_putOn_54_62_21 (d + 1) x2 x3 m Q := by
  refine w_iload_n (q := 22) hm120 ⟨⟨_, _, rfl⟩, rfl⟩ rfl ?_
  refine w_aload_n (q := 23) hm120 ⟨⟨_, _, rfl⟩, rfl⟩ rfl ?_
  refine w_getr (q := 26) hm120 ⟨⟨_, _, rfl⟩, rfl⟩ rfl ?_
  refine w_getf (q := 29) (v := (m.1 2 2)) hm120 ⟨⟨_, _, rfl⟩, rfl⟩ rfl rfl ?_
  refine w_icmp_ge (q := 32) (X := x3.toInt) (Y := (m.1 2 2).toInt) hm120 ⟨⟨_, _, rfl⟩, rfl⟩ rfl rfl (fun hc => ?_) (fun hc => ?_)
  · have h := h.1 hc
    exact w_retv hm120 ⟨⟨_, _, rfl⟩, rfl⟩ rfl h
  · have h := h.2 hc
    refine w_iload_n (q := 33) hm120 ⟨⟨_, _, rfl⟩, rfl⟩ rfl ?_
    refine w_iload_n (q := 34) hm120 ⟨⟨_, _, rfl⟩, rfl⟩ rfl ?_
    refine w_call (q := 37) (n := 0) (vs := [.inl x2, .inl x3]) (rest := []) (la := [oI x2, oI x3]) hm120 ⟨⟨_, _, rfl⟩, rfl⟩ rfl rfl rfl rfl hm283 rfl rfl (fun hz => absurd hz (by decide)) rfl (Wp.mono h ?_)
    rintro _ m1 ⟨r1, rfl, h⟩
    change Wp _ _ 37 _ [.inl r1] _ _
    refine w_if_eq (q := 40) (X := r1.toInt) hm120 ⟨⟨_, _, rfl⟩, rfl⟩ rfl (fun hc => ?_) (fun hc => ?_)
    · have h := h.1 hc
      refine w_iconst (q := 61) hm120 ⟨⟨_, _, rfl⟩, rfl⟩ iconst_0 ?_
      refine w_istore (q := 63) (l' := [oR 54, none, oI x2, oI x3, oI (0 : Int32), none]) hm120 ⟨⟨_, _, rfl⟩, rfl⟩ rfl rfl rfl ?_
      refine w_iconst (q := 64) hm120 ⟨⟨_, _, rfl⟩, rfl⟩ iconst_0 ?_
      refine w_istore (q := 66) (l' := [oR 54, none, oI x2, oI x3, oI (0 : Int32), oI (0 : Int32)]) hm120 ⟨⟨_, _, rfl⟩, rfl⟩ rfl rfl rfl ?_
      exact h
    · have h := h.2 hc
      refine w_aload_n (q := 41) hm120 ⟨⟨_, _, rfl⟩, rfl⟩ rfl ?_
      refine w_getr (q := 44) hm120 ⟨⟨_, _, rfl⟩, rfl⟩ rfl ?_
      refine w_getr (q := 47) hm120 ⟨⟨_, _, rfl⟩, rfl⟩ rfl ?_
      refine w_aload_n (q := 48) hm120 ⟨⟨_, _, rfl⟩, rfl⟩ rfl ?_
      refine w_getr (q := 51) hm120 ⟨⟨_, _, rfl⟩, rfl⟩ rfl ?_
      refine w_getr (q := 54) hm120 ⟨⟨_, _, rfl⟩, rfl⟩ rfl ?_
      refine w_iload_n (q := 55) hm120 ⟨⟨_, _, rfl⟩, rfl⟩ rfl ?_
      obtain ⟨hi, h⟩ := h
      refine w_iald (q := 56) (v := (m1.1 7 x3.toNatClampNeg)) hm120 ⟨⟨_, _, rfl⟩, rfl⟩ rfl hi rfl rfl ?_
      obtain ⟨hi, h⟩ := h
      refine w_iald (q := 57) (v := (m1.1 60 (m1.1 7 x3.toNatClampNeg).toNatClampNeg)) hm120 ⟨⟨_, _, rfl⟩, rfl⟩ rfl hi rfl rfl ?_
      refine w_goto (q := 61) hm120 ⟨_, _, rfl⟩ ?_
      refine w_istore (q := 63) (l' := [oR 54, none, oI x2, oI x3, oI (m1.1 60 (m1.1 7 x3.toNatClampNeg).toNatClampNeg), none]) hm120 ⟨⟨_, _, rfl⟩, rfl⟩ rfl rfl rfl ?_
      refine w_iconst (q := 64) hm120 ⟨⟨_, _, rfl⟩, rfl⟩ iconst_0 ?_
      refine w_istore (q := 66) (l' := [oR 54, none, oI x2, oI x3, oI (m1.1 60 (m1.1 7 x3.toNatClampNeg).toNatClampNeg), oI (0 : Int32)]) hm120 ⟨⟨_, _, rfl⟩, rfl⟩ rfl rfl rfl ?_
      exact h
theorem v_X0_putOn_54_62_66 {d : Nat} {x2 : Int32} {x3 : Int32} {x4 : Int32} {x5 : Int32} {m : dM} {Q : dM → Prop} (h : (((x4.toUInt32 >>> (x5.toUInt32 &&& Int32.toUInt32 31)).toInt32.toInt = 0 → j_X0_putOn_54_62_125 (d + 1) x2 x3 m Q) ∧ ((x4.toUInt32 >>> (x5.toUInt32 &&& Int32.toUInt32 31)).toInt32.toInt ≠ 0 → (((m.1 2 1).toInt ≤ x5.toInt → j_X0_putOn_54_62_125 (d + 1) x2 x3 m Q) ∧ (x5.toInt < (m.1 2 1).toInt → ((0 ≤ x5.toInt ∧ x5.toInt < 10) ∧ c_X11_has d x4 x5 m (fun r1 m1 => ((r1.toInt = 0 → ((0 ≤ x5.toInt ∧ x5.toInt < 10) ∧ j_X0_putOn_54_62_66 (d + 1) x2 x3 x4 (x5 + (1 : Int32)) (dSet m1 56 x5.toNatClampNeg ((m.1 56 x5.toNatClampNeg) + (0 : Int32))) Q)) ∧ (r1.toInt ≠ 0 → ((0 ≤ x3.toInt ∧ x3.toInt < 8) ∧ ((0 ≤ x5.toInt ∧ x5.toInt < 10) ∧ j_X0_putOn_54_62_66 (d + 1) x2 x3 x4 (x5 + (1 : Int32)) (dSet m1 56 x5.toNatClampNeg ((m.1 56 x5.toNatClampNeg) + (m1.1 8 x3.toNatClampNeg))) Q))))))))))) : j_X0_putOn_54_62_66 (d + 1) x2 x3 x4 x5 m Q := by
  refine w_iload (q := 68) hm120 ⟨⟨_, _, rfl⟩, rfl⟩ rfl ?_
  refine w_iload (q := 70) hm120 ⟨⟨_, _, rfl⟩, rfl⟩ rfl ?_
  refine w_iushr (q := 71) hm120 ⟨⟨_, _, rfl⟩, rfl⟩ ?_
  refine w_if_eq (q := 74) (X := (x4.toUInt32 >>> (x5.toUInt32 &&& Int32.toUInt32 31)).toInt32.toInt) hm120 ⟨⟨_, _, rfl⟩, rfl⟩ rfl (fun hc => ?_) (fun hc => ?_)
  · have h := h.1 hc
    exact Wp.wk [true, false, true, true, false, false] h
  · have h := h.2 hc
    refine w_iload (q := 76) hm120 ⟨⟨_, _, rfl⟩, rfl⟩ rfl ?_
    refine w_aload_n (q := 77) hm120 ⟨⟨_, _, rfl⟩, rfl⟩ rfl ?_
    refine w_getr (q := 80) hm120 ⟨⟨_, _, rfl⟩, rfl⟩ rfl ?_
    refine w_getf (q := 83) (v := (m.1 2 1)) hm120 ⟨⟨_, _, rfl⟩, rfl⟩ rfl rfl ?_
    refine w_icmp_ge (q := 86) (X := x5.toInt) (Y := (m.1 2 1).toInt) hm120 ⟨⟨_, _, rfl⟩, rfl⟩ rfl rfl (fun hc => ?_) (fun hc => ?_)
    · have h := h.1 hc
      exact Wp.wk [true, false, true, true, false, false] h
    · have h := h.2 hc
      refine w_aload_n (q := 87) hm120 ⟨⟨_, _, rfl⟩, rfl⟩ rfl ?_
      refine w_getr (q := 90) hm120 ⟨⟨_, _, rfl⟩, rfl⟩ rfl ?_
      refine w_iload (q := 92) hm120 ⟨⟨_, _, rfl⟩, rfl⟩ rfl ?_
      refine w_dup2 (q := 93) hm120 ⟨⟨_, _, rfl⟩, rfl⟩ rfl ?_
      obtain ⟨hi, h⟩ := h
      refine w_iald (q := 94) (v := (m.1 56 x5.toNatClampNeg)) hm120 ⟨⟨_, _, rfl⟩, rfl⟩ rfl hi rfl rfl ?_
      refine w_iload (q := 96) hm120 ⟨⟨_, _, rfl⟩, rfl⟩ rfl ?_
      refine w_iload (q := 98) hm120 ⟨⟨_, _, rfl⟩, rfl⟩ rfl ?_
      refine w_call (q := 101) (n := 0) (vs := [.inl x4, .inl x5]) (rest := [.inl (m.1 56 x5.toNatClampNeg), .inl x5, .inr (.inr (some 56))]) (la := [oI x4, oI x5]) hm120 ⟨⟨_, _, rfl⟩, rfl⟩ rfl rfl rfl rfl hm283 rfl rfl (fun hz => absurd hz (by decide)) rfl (Wp.mono h ?_)
      rintro _ m1 ⟨r1, rfl, h⟩
      change Wp _ _ 101 _ [.inl r1, .inl (m.1 56 x5.toNatClampNeg), .inl x5, .inr (.inr (some 56))] _ _
      refine w_if_eq (q := 104) (X := r1.toInt) hm120 ⟨⟨_, _, rfl⟩, rfl⟩ rfl (fun hc => ?_) (fun hc => ?_)
      · have h := h.1 hc
        refine w_iconst (q := 117) hm120 ⟨⟨_, _, rfl⟩, rfl⟩ iconst_0 ?_
        refine w_iadd (q := 118) hm120 ⟨⟨_, _, rfl⟩, rfl⟩ ?_
        obtain ⟨hi, h⟩ := h
        refine w_iast (q := 119) hm120 ⟨⟨_, _, rfl⟩, rfl⟩ rfl hi rfl rfl ?_
        refine w_iinc (q := 122) (l' := [oR 54, none, oI x2, oI x3, oI x4, oI (x5 + (1 : Int32))]) hm120 ⟨⟨_, _, rfl⟩, rfl⟩ rfl rfl rfl iconst_1 rfl ?_
        refine w_goto (q := 66) hm120 ⟨_, _, rfl⟩ ?_
        exact h
      · have h := h.2 hc
        refine w_aload_n (q := 105) hm120 ⟨⟨_, _, rfl⟩, rfl⟩ rfl ?_
        refine w_getr (q := 108) hm120 ⟨⟨_, _, rfl⟩, rfl⟩ rfl ?_
        refine w_getr (q := 111) hm120 ⟨⟨_, _, rfl⟩, rfl⟩ rfl ?_
        refine w_iload_n (q := 112) hm120 ⟨⟨_, _, rfl⟩, rfl⟩ rfl ?_
        obtain ⟨hi, h⟩ := h
        refine w_iald (q := 113) (v := (m1.1 8 x3.toNatClampNeg)) hm120 ⟨⟨_, _, rfl⟩, rfl⟩ rfl hi rfl rfl ?_
        refine w_goto (q := 117) hm120 ⟨_, _, rfl⟩ ?_
        refine w_iadd (q := 118) hm120 ⟨⟨_, _, rfl⟩, rfl⟩ ?_
        obtain ⟨hi, h⟩ := h
        refine w_iast (q := 119) hm120 ⟨⟨_, _, rfl⟩, rfl⟩ rfl hi rfl rfl ?_
        refine w_iinc (q := 122) (l' := [oR 54, none, oI x2, oI x3, oI x4, oI (x5 + (1 : Int32))]) hm120 ⟨⟨_, _, rfl⟩, rfl⟩ rfl rfl rfl iconst_1 rfl ?_
        refine w_goto (q := 66) hm120 ⟨_, _, rfl⟩ ?_
        exact h
theorem v_X0_putOn_54_62_125 {d : Nat} {x2 : Int32} {x3 : Int32} {m : dM} {Q : dM → Prop} (h : j_X0_putOn_54_62_21 (d + 1) x2 (x3 + (1 : Int32)) m Q) : j_X0_putOn_54_62_125 (d + 1) x2 x3 m Q := by
  refine w_iinc (q := 128) (l' := [oR 54, none, oI x2, oI (x3 + (1 : Int32)), none, none]) hm120 ⟨⟨_, _, rfl⟩, rfl⟩ rfl rfl rfl iconst_1 rfl ?_
  refine w_goto (q := 21) hm120 ⟨_, _, rfl⟩ ?_
  exact h
theorem v_X7_day_62 {d : Nat} {m : dM} {Q : Int32 → dM → Prop} (h : Q ((m.1 62 0) / (24 : Int32)) m) : c_X7_day_62 (d + 1) m Q := by
  refine w_aload_n (q := 1) hm213 ⟨⟨_, _, rfl⟩, rfl⟩ rfl ?_
  refine w_getf (q := 4) (v := (m.1 62 0)) hm213 ⟨⟨_, _, rfl⟩, rfl⟩ rfl rfl ?_
  refine w_bipush (q := 6) hm213 ⟨⟨_, _, rfl⟩, rfl⟩ bipush_24 ?_
  refine w_idiv (q := 7) hm213 ⟨⟨_, _, rfl⟩, rfl⟩ (by decide) ?_
  exact w_reti hm213 ⟨⟨_, _, rfl⟩, rfl⟩ rfl h
theorem v_X0_going_54_62 {d : Nat} {x2 : Int32} {x3 : Int32} {m : dM} {Q : Int32 → dM → Prop} (h : j_X0_going_54_62_6 (d + 1) x2 x3 (0 : Int32) (0 : Int32) m Q) : c_X0_going_54_62 (d + 1) x2 x3 m Q := by
  refine w_iconst (q := 1) hm124 ⟨⟨_, _, rfl⟩, rfl⟩ iconst_0 ?_
  refine w_istore (q := 3) (l' := [oR 54, oR 62, oI x2, oI x3, oI (0 : Int32), none]) hm124 ⟨⟨_, _, rfl⟩, rfl⟩ rfl rfl rfl ?_
  refine w_iconst (q := 4) hm124 ⟨⟨_, _, rfl⟩, rfl⟩ iconst_0 ?_
  refine w_istore (q := 6) (l' := [oR 54, oR 62, oI x2, oI x3, oI (0 : Int32), oI (0 : Int32)]) hm124 ⟨⟨_, _, rfl⟩, rfl⟩ rfl rfl rfl ?_
  exact h
theorem v_X0_going_54_62_6 {d : Nat} {x2 : Int32} {x3 : Int32} {x4 : Int32} {x5 : Int32} {m : dM} {Q : Int32 → dM → Prop} (h : (((m.1 2 1).toInt ≤ x5.toInt → Q x4 m) ∧ (x5.toInt < (m.1 2 1).toInt → ((0 ≤ x5.toInt ∧ x5.toInt < 10) ∧ (((m.1 56 x5.toNatClampNeg).toInt ≤ 0 → j_X0_going_54_62_119 (d + 1) x2 x3 x4 x5 m Q) ∧ (0 < (m.1 56 x5.toNatClampNeg).toInt → c_X11_has d (m.1 62 4) x5 m (fun r1 m1 => ((r1.toInt ≠ 0 → j_X0_going_54_62_119 (d + 1) x2 x3 x4 x5 m1 Q) ∧ (r1.toInt = 0 → c_X7_day_62 d m1 (fun r2 m2 => c_X0_setVars_54 d x2 r2 x5 m2 (fun m3 => ((0 ≤ x5.toInt ∧ x5.toInt < 10) ∧ ((0 ≤ x5.toInt ∧ x5.toInt < 10) ∧ ((0 ≤ x5.toInt ∧ x5.toInt < 10) ∧ c_X4_tells_11_55 d (0 : Int32) (dSet (dSet (dSet m3 55 0 ((m3.1 56 x5.toNatClampNeg) + x3)) 55 1 (m3.1 63 x5.toNatClampNeg)) 55 2 (m3.1 64 x5.toNatClampNeg)) (fun r4 m4 => ((r4.toInt ≤ 0 → j_X0_going_54_62_119 (d + 1) x2 x3 x4 x5 m4 Q) ∧ (0 < r4.toInt → j_X0_going_54_62_119 (d + 1) x2 x3 (x4 ||| ((1 : Int32) <<< (x5 &&& 31))) x5 m4 Q))))))))))))))))) : j_X0_going_54_62_6 (d + 1) x2 x3 x4 x5 m Q := by
  refine w_iload (q := 8) hm124 ⟨⟨_, _, rfl⟩, rfl⟩ rfl ?_
  refine w_aload_n (q := 9) hm124 ⟨⟨_, _, rfl⟩, rfl⟩ rfl ?_
  refine w_getr (q := 12) hm124 ⟨⟨_, _, rfl⟩, rfl⟩ rfl ?_
  refine w_getf (q := 15) (v := (m.1 2 1)) hm124 ⟨⟨_, _, rfl⟩, rfl⟩ rfl rfl ?_
  refine w_icmp_ge (q := 18) (X := x5.toInt) (Y := (m.1 2 1).toInt) hm124 ⟨⟨_, _, rfl⟩, rfl⟩ rfl rfl (fun hc => ?_) (fun hc => ?_)
  · have h := h.1 hc
    refine w_iload (q := 127) hm124 ⟨⟨_, _, rfl⟩, rfl⟩ rfl ?_
    exact w_reti hm124 ⟨⟨_, _, rfl⟩, rfl⟩ rfl h
  · have h := h.2 hc
    refine w_aload_n (q := 19) hm124 ⟨⟨_, _, rfl⟩, rfl⟩ rfl ?_
    refine w_getr (q := 22) hm124 ⟨⟨_, _, rfl⟩, rfl⟩ rfl ?_
    refine w_iload (q := 24) hm124 ⟨⟨_, _, rfl⟩, rfl⟩ rfl ?_
    obtain ⟨hi, h⟩ := h
    refine w_iald (q := 25) (v := (m.1 56 x5.toNatClampNeg)) hm124 ⟨⟨_, _, rfl⟩, rfl⟩ rfl hi rfl rfl ?_
    refine w_if_le (q := 28) (X := (m.1 56 x5.toNatClampNeg).toInt) hm124 ⟨⟨_, _, rfl⟩, rfl⟩ rfl (fun hc => ?_) (fun hc => ?_)
    · have h := h.1 hc
      exact h
    · have h := h.2 hc
      refine w_aload_n (q := 29) hm124 ⟨⟨_, _, rfl⟩, rfl⟩ rfl ?_
      refine w_getf (q := 32) (v := (m.1 62 4)) hm124 ⟨⟨_, _, rfl⟩, rfl⟩ rfl rfl ?_
      refine w_iload (q := 34) hm124 ⟨⟨_, _, rfl⟩, rfl⟩ rfl ?_
      refine w_call (q := 37) (n := 0) (vs := [.inl (m.1 62 4), .inl x5]) (rest := []) (la := [oI (m.1 62 4), oI x5]) hm124 ⟨⟨_, _, rfl⟩, rfl⟩ rfl rfl rfl rfl hm283 rfl rfl (fun hz => absurd hz (by decide)) rfl (Wp.mono h ?_)
      rintro _ m1 ⟨r1, rfl, h⟩
      change Wp _ _ 37 _ [.inl r1] _ _
      refine w_if_ne (q := 40) (X := r1.toInt) hm124 ⟨⟨_, _, rfl⟩, rfl⟩ rfl (fun hc => ?_) (fun hc => ?_)
      · have h := h.1 hc
        exact h
      · have h := h.2 hc
        refine w_aload_n (q := 41) hm124 ⟨⟨_, _, rfl⟩, rfl⟩ rfl ?_
        refine w_iload_n (q := 42) hm124 ⟨⟨_, _, rfl⟩, rfl⟩ rfl ?_
        refine w_aload_n (q := 43) hm124 ⟨⟨_, _, rfl⟩, rfl⟩ rfl ?_
        refine w_call (q := 46) (n := 0) (vs := [.inr (.inr (some 62))]) (rest := [.inl x2, .inr (.inr (some 54))]) (la := [oR 62]) hm124 ⟨⟨_, _, rfl⟩, rfl⟩ rfl rfl rfl rfl hm213 rfl rfl (fun _ => ⟨_, _, rfl, rfl⟩) rfl (Wp.mono h ?_)
        rintro _ m2 ⟨r2, rfl, h⟩
        change Wp _ _ 46 _ [.inl r2, .inl x2, .inr (.inr (some 54))] _ _
        refine w_iload (q := 48) hm124 ⟨⟨_, _, rfl⟩, rfl⟩ rfl ?_
        refine w_call (q := 51) (n := 0) (vs := [.inr (.inr (some 54)), .inl x2, .inl r2, .inl x5]) (rest := []) (la := [oR 54, oI x2, oI r2, oI x5]) hm124 ⟨⟨_, _, rfl⟩, rfl⟩ rfl rfl rfl rfl hm125 rfl rfl (fun _ => ⟨_, _, rfl, rfl⟩) rfl (Wp.mono h ?_)
        rintro _ m3 ⟨rfl, h⟩
        change Wp _ _ 51 _ [] _ _
        refine w_aload_n (q := 52) hm124 ⟨⟨_, _, rfl⟩, rfl⟩ rfl ?_
        refine w_getr (q := 55) hm124 ⟨⟨_, _, rfl⟩, rfl⟩ rfl ?_
        refine w_iconst (q := 56) hm124 ⟨⟨_, _, rfl⟩, rfl⟩ iconst_0 ?_
        refine w_aload_n (q := 57) hm124 ⟨⟨_, _, rfl⟩, rfl⟩ rfl ?_
        refine w_getr (q := 60) hm124 ⟨⟨_, _, rfl⟩, rfl⟩ rfl ?_
        refine w_iload (q := 62) hm124 ⟨⟨_, _, rfl⟩, rfl⟩ rfl ?_
        obtain ⟨hi, h⟩ := h
        refine w_iald (q := 63) (v := (m3.1 56 x5.toNatClampNeg)) hm124 ⟨⟨_, _, rfl⟩, rfl⟩ rfl hi rfl rfl ?_
        refine w_iload_n (q := 64) hm124 ⟨⟨_, _, rfl⟩, rfl⟩ rfl ?_
        refine w_iadd (q := 65) hm124 ⟨⟨_, _, rfl⟩, rfl⟩ ?_
        refine w_iast (q := 66) (j := 0) hm124 ⟨⟨_, _, rfl⟩, rfl⟩ rfl (by decide) (by decide) rfl ?_
        refine w_aload_n (q := 67) hm124 ⟨⟨_, _, rfl⟩, rfl⟩ rfl ?_
        refine w_getr (q := 70) hm124 ⟨⟨_, _, rfl⟩, rfl⟩ rfl ?_
        refine w_iconst (q := 71) hm124 ⟨⟨_, _, rfl⟩, rfl⟩ iconst_1 ?_
        refine w_aload_n (q := 72) hm124 ⟨⟨_, _, rfl⟩, rfl⟩ rfl ?_
        refine w_getr (q := 75) hm124 ⟨⟨_, _, rfl⟩, rfl⟩ rfl ?_
        refine w_iload (q := 77) hm124 ⟨⟨_, _, rfl⟩, rfl⟩ rfl ?_
        obtain ⟨hi, h⟩ := h
        refine w_iald (q := 78) (v := (m3.1 63 x5.toNatClampNeg)) hm124 ⟨⟨_, _, rfl⟩, rfl⟩ rfl hi rfl rfl ?_
        refine w_iast (q := 79) (j := 1) hm124 ⟨⟨_, _, rfl⟩, rfl⟩ rfl (by decide) (by decide) rfl ?_
        refine w_aload_n (q := 80) hm124 ⟨⟨_, _, rfl⟩, rfl⟩ rfl ?_
        refine w_getr (q := 83) hm124 ⟨⟨_, _, rfl⟩, rfl⟩ rfl ?_
        refine w_iconst (q := 84) hm124 ⟨⟨_, _, rfl⟩, rfl⟩ iconst_2 ?_
        refine w_aload_n (q := 85) hm124 ⟨⟨_, _, rfl⟩, rfl⟩ rfl ?_
        refine w_getr (q := 88) hm124 ⟨⟨_, _, rfl⟩, rfl⟩ rfl ?_
        refine w_iload (q := 90) hm124 ⟨⟨_, _, rfl⟩, rfl⟩ rfl ?_
        obtain ⟨hi, h⟩ := h
        refine w_iald (q := 91) (v := (m3.1 64 x5.toNatClampNeg)) hm124 ⟨⟨_, _, rfl⟩, rfl⟩ rfl hi rfl rfl ?_
        refine w_iast (q := 92) (j := 2) hm124 ⟨⟨_, _, rfl⟩, rfl⟩ rfl (by decide) (by decide) rfl ?_
        refine w_aload_n (q := 93) hm124 ⟨⟨_, _, rfl⟩, rfl⟩ rfl ?_
        refine w_getr (q := 96) hm124 ⟨⟨_, _, rfl⟩, rfl⟩ rfl ?_
        refine w_getr (q := 99) hm124 ⟨⟨_, _, rfl⟩, rfl⟩ rfl ?_
        refine w_iconst (q := 100) hm124 ⟨⟨_, _, rfl⟩, rfl⟩ iconst_0 ?_
        refine w_aload_n (q := 101) hm124 ⟨⟨_, _, rfl⟩, rfl⟩ rfl ?_
        refine w_getr (q := 104) hm124 ⟨⟨_, _, rfl⟩, rfl⟩ rfl ?_
        refine w_call (q := 107) (n := 4) (vs := [.inr (.inr (some 11)), .inl (0 : Int32), .inr (.inr (some 55))]) (rest := []) (la := [oR 11, oI (0 : Int32), oR 55, none, none, none, none]) hm124 ⟨⟨_, _, rfl⟩, rfl⟩ rfl rfl rfl rfl hm181 rfl rfl (fun _ => ⟨_, _, rfl, rfl⟩) rfl (Wp.mono h ?_)
        rintro _ m4 ⟨r4, rfl, h⟩
        change Wp _ _ 107 _ [.inl r4] _ _
        refine w_if_le (q := 110) (X := r4.toInt) hm124 ⟨⟨_, _, rfl⟩, rfl⟩ rfl (fun hc => ?_) (fun hc => ?_)
        · have h := h.1 hc
          exact h
        · have h := h.2 hc
          refine w_iload (q := 112) hm124 ⟨⟨_, _, rfl⟩, rfl⟩ rfl ?_
          refine w_iconst (q := 113) hm124 ⟨⟨_, _, rfl⟩, rfl⟩ iconst_1 ?_
          refine w_iload (q := 115) hm124 ⟨⟨_, _, rfl⟩, rfl⟩ rfl ?_
          refine w_ishl (q := 116) hm124 ⟨⟨_, _, rfl⟩, rfl⟩ ?_
          refine w_ior (q := 117) hm124 ⟨⟨_, _, rfl⟩, rfl⟩ ?_
          refine w_istore (q := 119) (l' := [oR 54, oR 62, oI x2, oI x3, oI (x4 ||| ((1 : Int32) <<< (x5 &&& 31))), oI x5]) hm124 ⟨⟨_, _, rfl⟩, rfl⟩ rfl rfl rfl ?_
          exact h
theorem v_X0_going_54_62_119 {d : Nat} {x2 : Int32} {x3 : Int32} {x4 : Int32} {x5 : Int32} {m : dM} {Q : Int32 → dM → Prop} (h : j_X0_going_54_62_6 (d + 1) x2 x3 x4 (x5 + (1 : Int32)) m Q) : j_X0_going_54_62_119 (d + 1) x2 x3 x4 x5 m Q := by
  refine w_iinc (q := 122) (l' := [oR 54, oR 62, oI x2, oI x3, oI x4, oI (x5 + (1 : Int32))]) hm124 ⟨⟨_, _, rfl⟩, rfl⟩ rfl rfl rfl iconst_1 rfl ?_
  refine w_goto (q := 6) hm124 ⟨_, _, rfl⟩ ?_
  exact h
theorem v_X0_passWires_54_62 {d : Nat} {x2 : Int32} {m : dM} {Q : Int32 → dM → Prop} (h : c_X7_hourOfDay_62 d m (fun r1 m1 => c_X0_usesAt_54_62 d r1 m1 (fun r2 m2 => c_X0_putOn_54_62 d r2 m2 (fun m3 => c_X7_hourOfDay_62 d m3 (fun r4 m4 => c_X0_going_54_62 d r4 x2 m4 (fun r5 m5 => j_X0_passWires_54_62_38 (d + 1) r5 (0 : Int32) (dSet m5 62 3 ((m5.1 62 3) ||| r5)) Q)))))) : c_X0_passWires_54_62 (d + 1) x2 m Q := by
  refine w_aload_n (q := 1) hm137 ⟨⟨_, _, rfl⟩, rfl⟩ rfl ?_
  refine w_aload_n (q := 2) hm137 ⟨⟨_, _, rfl⟩, rfl⟩ rfl ?_
  refine w_aload_n (q := 3) hm137 ⟨⟨_, _, rfl⟩, rfl⟩ rfl ?_
  refine w_aload_n (q := 4) hm137 ⟨⟨_, _, rfl⟩, rfl⟩ rfl ?_
  refine w_aload_n (q := 5) hm137 ⟨⟨_, _, rfl⟩, rfl⟩ rfl ?_
  refine w_call (q := 8) (n := 0) (vs := [.inr (.inr (some 62))]) (rest := [.inr (.inr (some 62)), .inr (.inr (some 54)), .inr (.inr (some 62)), .inr (.inr (some 54))]) (la := [oR 62]) hm137 ⟨⟨_, _, rfl⟩, rfl⟩ rfl rfl rfl rfl hm212 rfl rfl (fun _ => ⟨_, _, rfl, rfl⟩) rfl (Wp.mono h ?_)
  rintro _ m1 ⟨r1, rfl, h⟩
  change Wp _ _ 8 _ [.inl r1, .inr (.inr (some 62)), .inr (.inr (some 54)), .inr (.inr (some 62)), .inr (.inr (some 54))] _ _
  refine w_call (q := 11) (n := 3) (vs := [.inr (.inr (some 54)), .inr (.inr (some 62)), .inl r1]) (rest := [.inr (.inr (some 62)), .inr (.inr (some 54))]) (la := [oR 54, oR 62, oI r1, none, none, none]) hm137 ⟨⟨_, _, rfl⟩, rfl⟩ rfl rfl rfl rfl hm118 rfl rfl (fun _ => ⟨_, _, rfl, rfl⟩) rfl (Wp.mono h ?_)
  rintro _ m2 ⟨r2, rfl, h⟩
  change Wp _ _ 11 _ [.inl r2, .inr (.inr (some 62)), .inr (.inr (some 54))] _ _
  refine w_call (q := 14) (n := 3) (vs := [.inr (.inr (some 54)), .inr (.inr (some 62)), .inl r2]) (rest := []) (la := [oR 54, oR 62, oI r2, none, none, none]) hm137 ⟨⟨_, _, rfl⟩, rfl⟩ rfl rfl rfl rfl hm120 rfl rfl (fun _ => ⟨_, _, rfl, rfl⟩) rfl (Wp.mono h ?_)
  rintro _ m3 ⟨rfl, h⟩
  change Wp _ _ 14 _ [] _ _
  refine w_aload_n (q := 15) hm137 ⟨⟨_, _, rfl⟩, rfl⟩ rfl ?_
  refine w_aload_n (q := 16) hm137 ⟨⟨_, _, rfl⟩, rfl⟩ rfl ?_
  refine w_aload_n (q := 17) hm137 ⟨⟨_, _, rfl⟩, rfl⟩ rfl ?_
  refine w_call (q := 20) (n := 0) (vs := [.inr (.inr (some 62))]) (rest := [.inr (.inr (some 62)), .inr (.inr (some 54))]) (la := [oR 62]) hm137 ⟨⟨_, _, rfl⟩, rfl⟩ rfl rfl rfl rfl hm212 rfl rfl (fun _ => ⟨_, _, rfl, rfl⟩) rfl (Wp.mono h ?_)
  rintro _ m4 ⟨r4, rfl, h⟩
  change Wp _ _ 20 _ [.inl r4, .inr (.inr (some 62)), .inr (.inr (some 54))] _ _
  refine w_iload_n (q := 21) hm137 ⟨⟨_, _, rfl⟩, rfl⟩ rfl ?_
  refine w_call (q := 24) (n := 2) (vs := [.inr (.inr (some 54)), .inr (.inr (some 62)), .inl r4, .inl x2]) (rest := []) (la := [oR 54, oR 62, oI r4, oI x2, none, none]) hm137 ⟨⟨_, _, rfl⟩, rfl⟩ rfl rfl rfl rfl hm124 rfl rfl (fun _ => ⟨_, _, rfl, rfl⟩) rfl (Wp.mono h ?_)
  rintro _ m5 ⟨r5, rfl, h⟩
  change Wp _ _ 24 _ [.inl r5] _ _
  refine w_istore_n (q := 25) (l' := [oR 54, oR 62, oI x2, oI r5, none]) hm137 ⟨⟨_, _, rfl⟩, rfl⟩ rfl rfl rfl ?_
  refine w_aload_n (q := 26) hm137 ⟨⟨_, _, rfl⟩, rfl⟩ rfl ?_
  refine w_dup (q := 27) hm137 ⟨⟨_, _, rfl⟩, rfl⟩ rfl ?_
  refine w_getf (q := 30) (v := (m5.1 62 3)) hm137 ⟨⟨_, _, rfl⟩, rfl⟩ rfl rfl ?_
  refine w_iload_n (q := 31) hm137 ⟨⟨_, _, rfl⟩, rfl⟩ rfl ?_
  refine w_ior (q := 32) hm137 ⟨⟨_, _, rfl⟩, rfl⟩ ?_
  refine w_putf (q := 35) hm137 ⟨⟨_, _, rfl⟩, rfl⟩ rfl rfl rfl ?_
  refine w_iconst (q := 36) hm137 ⟨⟨_, _, rfl⟩, rfl⟩ iconst_0 ?_
  refine w_istore (q := 38) (l' := [oR 54, oR 62, oI x2, oI r5, oI (0 : Int32)]) hm137 ⟨⟨_, _, rfl⟩, rfl⟩ rfl rfl rfl ?_
  exact Wp.wk [true, true, false, true, true] h
theorem v_X0_passWires_54_62_38 {d : Nat} {x3 : Int32} {x4 : Int32} {m : dM} {Q : Int32 → dM → Prop} (h : (((m.1 2 1).toInt ≤ x4.toInt → Q x3 (dSet m 62 0 ((m.1 62 0) + (1 : Int32)))) ∧ (x4.toInt < (m.1 2 1).toInt → c_X11_has d (m.1 62 3) x4 m (fun r1 m1 => ((r1.toInt ≠ 0 → j_X0_passWires_54_62_84 (d + 1) x3 x4 m1 Q) ∧ (r1.toInt = 0 → ((0 ≤ x4.toInt ∧ x4.toInt < 10) ∧ ((0 ≤ x4.toInt ∧ x4.toInt < 10) ∧ j_X0_passWires_54_62_84 (d + 1) x3 x4 (dSet m1 64 x4.toNatClampNeg (if ((m1.1 64 x4.toNatClampNeg) + (1 : Int32)) < (999 : Int32) then ((m1.1 64 x4.toNatClampNeg) + (1 : Int32)) else (999 : Int32))) Q)))))))) : j_X0_passWires_54_62_38 (d + 1) x3 x4 m Q := by
  refine w_iload (q := 40) hm137 ⟨⟨_, _, rfl⟩, rfl⟩ rfl ?_
  refine w_aload_n (q := 41) hm137 ⟨⟨_, _, rfl⟩, rfl⟩ rfl ?_
  refine w_getr (q := 44) hm137 ⟨⟨_, _, rfl⟩, rfl⟩ rfl ?_
  refine w_getf (q := 47) (v := (m.1 2 1)) hm137 ⟨⟨_, _, rfl⟩, rfl⟩ rfl rfl ?_
  refine w_icmp_ge (q := 50) (X := x4.toInt) (Y := (m.1 2 1).toInt) hm137 ⟨⟨_, _, rfl⟩, rfl⟩ rfl rfl (fun hc => ?_) (fun hc => ?_)
  · have h := h.1 hc
    refine w_aload_n (q := 91) hm137 ⟨⟨_, _, rfl⟩, rfl⟩ rfl ?_
    refine w_dup (q := 92) hm137 ⟨⟨_, _, rfl⟩, rfl⟩ rfl ?_
    refine w_getf (q := 95) (v := (m.1 62 0)) hm137 ⟨⟨_, _, rfl⟩, rfl⟩ rfl rfl ?_
    refine w_iconst (q := 96) hm137 ⟨⟨_, _, rfl⟩, rfl⟩ iconst_1 ?_
    refine w_iadd (q := 97) hm137 ⟨⟨_, _, rfl⟩, rfl⟩ ?_
    refine w_putf (q := 100) hm137 ⟨⟨_, _, rfl⟩, rfl⟩ rfl rfl rfl ?_
    refine w_iload_n (q := 101) hm137 ⟨⟨_, _, rfl⟩, rfl⟩ rfl ?_
    exact w_reti hm137 ⟨⟨_, _, rfl⟩, rfl⟩ rfl h
  · have h := h.2 hc
    refine w_aload_n (q := 51) hm137 ⟨⟨_, _, rfl⟩, rfl⟩ rfl ?_
    refine w_getf (q := 54) (v := (m.1 62 3)) hm137 ⟨⟨_, _, rfl⟩, rfl⟩ rfl rfl ?_
    refine w_iload (q := 56) hm137 ⟨⟨_, _, rfl⟩, rfl⟩ rfl ?_
    refine w_call (q := 59) (n := 0) (vs := [.inl (m.1 62 3), .inl x4]) (rest := []) (la := [oI (m.1 62 3), oI x4]) hm137 ⟨⟨_, _, rfl⟩, rfl⟩ rfl rfl rfl rfl hm283 rfl rfl (fun hz => absurd hz (by decide)) rfl (Wp.mono h ?_)
    rintro _ m1 ⟨r1, rfl, h⟩
    change Wp _ _ 59 _ [.inl r1] _ _
    refine w_if_ne (q := 62) (X := r1.toInt) hm137 ⟨⟨_, _, rfl⟩, rfl⟩ rfl (fun hc => ?_) (fun hc => ?_)
    · have h := h.1 hc
      exact h
    · have h := h.2 hc
      refine w_aload_n (q := 63) hm137 ⟨⟨_, _, rfl⟩, rfl⟩ rfl ?_
      refine w_getr (q := 66) hm137 ⟨⟨_, _, rfl⟩, rfl⟩ rfl ?_
      refine w_iload (q := 68) hm137 ⟨⟨_, _, rfl⟩, rfl⟩ rfl ?_
      refine w_sipush (q := 71) hm137 ⟨⟨_, _, rfl⟩, rfl⟩ sipush_999 ?_
      refine w_aload_n (q := 72) hm137 ⟨⟨_, _, rfl⟩, rfl⟩ rfl ?_
      refine w_getr (q := 75) hm137 ⟨⟨_, _, rfl⟩, rfl⟩ rfl ?_
      refine w_iload (q := 77) hm137 ⟨⟨_, _, rfl⟩, rfl⟩ rfl ?_
      obtain ⟨hi, h⟩ := h
      refine w_iald (q := 78) (v := (m1.1 64 x4.toNatClampNeg)) hm137 ⟨⟨_, _, rfl⟩, rfl⟩ rfl hi rfl rfl ?_
      refine w_iconst (q := 79) hm137 ⟨⟨_, _, rfl⟩, rfl⟩ iconst_1 ?_
      refine w_iadd (q := 80) hm137 ⟨⟨_, _, rfl⟩, rfl⟩ ?_
      refine w_min (q := 83) hm137 ⟨⟨_, _, rfl⟩, rfl⟩ rfl rfl ?_
      obtain ⟨hi, h⟩ := h
      refine w_iast (q := 84) hm137 ⟨⟨_, _, rfl⟩, rfl⟩ rfl hi rfl rfl ?_
      exact h
theorem v_X0_passWires_54_62_84 {d : Nat} {x3 : Int32} {x4 : Int32} {m : dM} {Q : Int32 → dM → Prop} (h : j_X0_passWires_54_62_38 (d + 1) x3 (x4 + (1 : Int32)) m Q) : j_X0_passWires_54_62_84 (d + 1) x3 x4 m Q := by
  refine w_iinc (q := 87) (l' := [oR 54, oR 62, none, oI x3, oI (x4 + (1 : Int32))]) hm137 ⟨⟨_, _, rfl⟩, rfl⟩ rfl rfl rfl iconst_1 rfl ?_
  refine w_goto (q := 38) hm137 ⟨_, _, rfl⟩ ?_
  exact h
theorem v_X1_peakOf_61_47 {d : Nat} {x2 : Int32} {x3 : Int32} {x4 : Int32} {m : dM} {Q : Int32 → dM → Prop} (h : c_X7_copy_62_47 d m (fun m1 => j_X1_peakOf_61_47_17 (d + 1) x2 x3 x4 (0 : Int32) (0 : Int32) (0 : Int32) m1 Q)) : c_X1_peakOf_61_47 (d + 1) x2 x3 x4 m Q := by
  refine w_aload_n (q := 1) hm139 ⟨⟨_, _, rfl⟩, rfl⟩ rfl ?_
  refine w_getr (q := 4) hm139 ⟨⟨_, _, rfl⟩, rfl⟩ rfl ?_
  refine w_aload_n (q := 5) hm139 ⟨⟨_, _, rfl⟩, rfl⟩ rfl ?_
  refine w_call (q := 8) (n := 0) (vs := [.inr (.inr (some 62)), .inr (.inr (some 47))]) (rest := []) (la := [oR 62, oR 47]) hm139 ⟨⟨_, _, rfl⟩, rfl⟩ rfl rfl rfl rfl hm209 rfl rfl (fun _ => ⟨_, _, rfl, rfl⟩) rfl (Wp.mono h ?_)
  rintro _ m1 ⟨rfl, h⟩
  change Wp _ _ 8 _ [] _ _
  refine w_iconst (q := 9) hm139 ⟨⟨_, _, rfl⟩, rfl⟩ iconst_0 ?_
  refine w_istore (q := 11) (l' := [oR 61, oR 47, oI x2, oI x3, oI x4, oI (0 : Int32), none, none]) hm139 ⟨⟨_, _, rfl⟩, rfl⟩ rfl rfl rfl ?_
  refine w_iconst (q := 12) hm139 ⟨⟨_, _, rfl⟩, rfl⟩ iconst_0 ?_
  refine w_istore (q := 14) (l' := [oR 61, oR 47, oI x2, oI x3, oI x4, oI (0 : Int32), oI (0 : Int32), none]) hm139 ⟨⟨_, _, rfl⟩, rfl⟩ rfl rfl rfl ?_
  refine w_iconst (q := 15) hm139 ⟨⟨_, _, rfl⟩, rfl⟩ iconst_0 ?_
  refine w_istore (q := 17) (l' := [oR 61, oR 47, oI x2, oI x3, oI x4, oI (0 : Int32), oI (0 : Int32), oI (0 : Int32)]) hm139 ⟨⟨_, _, rfl⟩, rfl⟩ rfl rfl rfl ?_
  exact Wp.wk [true, false, true, true, true, true, true, true] h
theorem v_X1_peakOf_61_47_17 {d : Nat} {x2 : Int32} {x3 : Int32} {x4 : Int32} {x5 : Int32} {x6 : Int32} {x7 : Int32} {m : dM} {Q : Int32 → dM → Prop} (h : ((x3.toInt ≤ x7.toInt → ((x4.toInt = 0 → Q x5 m) ∧ (x4.toInt ≠ 0 → Q x6 m))) ∧ (x7.toInt < x3.toInt → c_X0_passWires_54_62 d (0 : Int32) m (fun r1 m1 => ((0 ≤ x2.toInt ∧ x2.toInt < 10) ∧ (((m1.1 56 x2.toNatClampNeg).toInt ≤ x5.toInt → j_X1_peakOf_61_47_65 (d + 1) x2 x3 x4 x5 x6 x7 m1 Q) ∧ (x5.toInt < (m1.1 56 x2.toNatClampNeg).toInt → ((0 ≤ x2.toInt ∧ x2.toInt < 10) ∧ j_X1_peakOf_61_47_65 (d + 1) x2 x3 x4 (m1.1 56 x2.toNatClampNeg) x7 x7 m1 Q)))))))) : j_X1_peakOf_61_47_17 (d + 1) x2 x3 x4 x5 x6 x7 m Q := by
  refine w_iload (q := 19) hm139 ⟨⟨_, _, rfl⟩, rfl⟩ rfl ?_
  refine w_iload_n (q := 20) hm139 ⟨⟨_, _, rfl⟩, rfl⟩ rfl ?_
  refine w_icmp_ge (q := 23) (X := x7.toInt) (Y := x3.toInt) hm139 ⟨⟨_, _, rfl⟩, rfl⟩ rfl rfl (fun hc => ?_) (fun hc => ?_)
  · have h := h.1 hc
    refine w_iload (q := 73) hm139 ⟨⟨_, _, rfl⟩, rfl⟩ rfl ?_
    refine w_if_eq (q := 76) (X := x4.toInt) hm139 ⟨⟨_, _, rfl⟩, rfl⟩ rfl (fun hc => ?_) (fun hc => ?_)
    · have h := h.1 hc
      refine w_iload (q := 83) hm139 ⟨⟨_, _, rfl⟩, rfl⟩ rfl ?_
      exact w_reti hm139 ⟨⟨_, _, rfl⟩, rfl⟩ rfl h
    · have h := h.2 hc
      refine w_iload (q := 78) hm139 ⟨⟨_, _, rfl⟩, rfl⟩ rfl ?_
      refine w_goto (q := 83) hm139 ⟨_, _, rfl⟩ ?_
      exact w_reti hm139 ⟨⟨_, _, rfl⟩, rfl⟩ rfl h
  · have h := h.2 hc
    refine w_aload_n (q := 24) hm139 ⟨⟨_, _, rfl⟩, rfl⟩ rfl ?_
    refine w_getr (q := 27) hm139 ⟨⟨_, _, rfl⟩, rfl⟩ rfl ?_
    refine w_aload_n (q := 28) hm139 ⟨⟨_, _, rfl⟩, rfl⟩ rfl ?_
    refine w_getr (q := 31) hm139 ⟨⟨_, _, rfl⟩, rfl⟩ rfl ?_
    refine w_iconst (q := 32) hm139 ⟨⟨_, _, rfl⟩, rfl⟩ iconst_0 ?_
    refine w_call (q := 35) (n := 2) (vs := [.inr (.inr (some 54)), .inr (.inr (some 62)), .inl (0 : Int32)]) (rest := []) (la := [oR 54, oR 62, oI (0 : Int32), none, none]) hm139 ⟨⟨_, _, rfl⟩, rfl⟩ rfl rfl rfl rfl hm137 rfl rfl (fun _ => ⟨_, _, rfl, rfl⟩) rfl (Wp.mono h ?_)
    rintro _ m1 ⟨r1, rfl, h⟩
    change Wp _ _ 35 _ [.inl r1] _ _
    refine w_pop (q := 36) hm139 ⟨⟨_, _, rfl⟩, rfl⟩ rfl ?_
    refine w_aload_n (q := 37) hm139 ⟨⟨_, _, rfl⟩, rfl⟩ rfl ?_
    refine w_getr (q := 40) hm139 ⟨⟨_, _, rfl⟩, rfl⟩ rfl ?_
    refine w_getr (q := 43) hm139 ⟨⟨_, _, rfl⟩, rfl⟩ rfl ?_
    refine w_iload_n (q := 44) hm139 ⟨⟨_, _, rfl⟩, rfl⟩ rfl ?_
    obtain ⟨hi, h⟩ := h
    refine w_iald (q := 45) (v := (m1.1 56 x2.toNatClampNeg)) hm139 ⟨⟨_, _, rfl⟩, rfl⟩ rfl hi rfl rfl ?_
    refine w_iload (q := 47) hm139 ⟨⟨_, _, rfl⟩, rfl⟩ rfl ?_
    refine w_icmp_le (q := 50) (X := (m1.1 56 x2.toNatClampNeg).toInt) (Y := x5.toInt) hm139 ⟨⟨_, _, rfl⟩, rfl⟩ rfl rfl (fun hc => ?_) (fun hc => ?_)
    · have h := h.1 hc
      exact h
    · have h := h.2 hc
      refine w_aload_n (q := 51) hm139 ⟨⟨_, _, rfl⟩, rfl⟩ rfl ?_
      refine w_getr (q := 54) hm139 ⟨⟨_, _, rfl⟩, rfl⟩ rfl ?_
      refine w_getr (q := 57) hm139 ⟨⟨_, _, rfl⟩, rfl⟩ rfl ?_
      refine w_iload_n (q := 58) hm139 ⟨⟨_, _, rfl⟩, rfl⟩ rfl ?_
      obtain ⟨hi, h⟩ := h
      refine w_iald (q := 59) (v := (m1.1 56 x2.toNatClampNeg)) hm139 ⟨⟨_, _, rfl⟩, rfl⟩ rfl hi rfl rfl ?_
      refine w_istore (q := 61) (l' := [oR 61, none, oI x2, oI x3, oI x4, oI (m1.1 56 x2.toNatClampNeg), oI x6, oI x7]) hm139 ⟨⟨_, _, rfl⟩, rfl⟩ rfl rfl rfl ?_
      refine w_iload (q := 63) hm139 ⟨⟨_, _, rfl⟩, rfl⟩ rfl ?_
      refine w_istore (q := 65) (l' := [oR 61, none, oI x2, oI x3, oI x4, oI (m1.1 56 x2.toNatClampNeg), oI x7, oI x7]) hm139 ⟨⟨_, _, rfl⟩, rfl⟩ rfl rfl rfl ?_
      exact h
theorem v_X1_peakOf_61_47_65 {d : Nat} {x2 : Int32} {x3 : Int32} {x4 : Int32} {x5 : Int32} {x6 : Int32} {x7 : Int32} {m : dM} {Q : Int32 → dM → Prop} (h : j_X1_peakOf_61_47_17 (d + 1) x2 x3 x4 x5 x6 (x7 + (1 : Int32)) m Q) : j_X1_peakOf_61_47_65 (d + 1) x2 x3 x4 x5 x6 x7 m Q := by
  refine w_iinc (q := 68) (l' := [oR 61, none, oI x2, oI x3, oI x4, oI x5, oI x6, oI (x7 + (1 : Int32))]) hm139 ⟨⟨_, _, rfl⟩, rfl⟩ rfl rfl rfl iconst_1 rfl ?_
  refine w_goto (q := 17) hm139 ⟨_, _, rfl⟩ ?_
  exact h
theorem v_X11_peak_0 {d : Nat} {x1 : Int32} {x2 : Int32} {x3 : Int32} {m : dM} {Q : Int32 → dM → Prop} (h : c_X11_isWire_0 d x1 m (fun r1 m1 => ((r1.toInt = 0 → j_X11_peak_0_28 (d + 1) m1 Q) ∧ (r1.toInt ≠ 0 → ((x2.toInt < 1 → j_X11_peak_0_28 (d + 1) m1 Q) ∧ (1 ≤ x2.toInt → ((48 < x2.toInt → j_X11_peak_0_28 (d + 1) m1 Q) ∧ (x2.toInt ≤ 48 → ((x3.toInt < 0 → j_X11_peak_0_28 (d + 1) m1 Q) ∧ (0 ≤ x3.toInt → ((x3.toInt ≤ 1 → ((x3.toInt ≠ 1 → c_X1_peakOf_61_47 d x1 x2 (0 : Int32) m1 (fun r2 m2 => Q r2 m2)) ∧ (x3.toInt = 1 → c_X1_peakOf_61_47 d x1 x2 (1 : Int32) m1 (fun r3 m3 => Q r3 m3)))) ∧ (1 < x3.toInt → j_X11_peak_0_28 (d + 1) m1 Q)))))))))))) : c_X11_peak_0 (d + 1) x1 x2 x3 m Q := by
  refine w_aload_n (q := 1) hm261 ⟨⟨_, _, rfl⟩, rfl⟩ rfl ?_
  refine w_iload_n (q := 2) hm261 ⟨⟨_, _, rfl⟩, rfl⟩ rfl ?_
  refine w_call (q := 5) (n := 0) (vs := [.inr (.inr (some 0)), .inl x1]) (rest := []) (la := [oR 0, oI x1]) hm261 ⟨⟨_, _, rfl⟩, rfl⟩ rfl rfl rfl rfl hm249 rfl rfl (fun _ => ⟨_, _, rfl, rfl⟩) rfl (Wp.mono h ?_)
  rintro _ m1 ⟨r1, rfl, h⟩
  change Wp _ _ 5 _ [.inl r1] _ _
  refine w_if_eq (q := 8) (X := r1.toInt) hm261 ⟨⟨_, _, rfl⟩, rfl⟩ rfl (fun hc => ?_) (fun hc => ?_)
  · have h := h.1 hc
    exact Wp.wk [false, false, false, false] h
  · have h := h.2 hc
    refine w_iload_n (q := 9) hm261 ⟨⟨_, _, rfl⟩, rfl⟩ rfl ?_
    refine w_iconst (q := 10) hm261 ⟨⟨_, _, rfl⟩, rfl⟩ iconst_1 ?_
    refine w_icmp_lt (q := 13) (X := x2.toInt) (Y := 1) hm261 ⟨⟨_, _, rfl⟩, rfl⟩ rfl (by decide) (fun hc => ?_) (fun hc => ?_)
    · have h := h.1 hc
      exact Wp.wk [false, false, false, false] h
    · have h := h.2 hc
      refine w_iload_n (q := 14) hm261 ⟨⟨_, _, rfl⟩, rfl⟩ rfl ?_
      refine w_bipush (q := 16) hm261 ⟨⟨_, _, rfl⟩, rfl⟩ bipush_48 ?_
      refine w_icmp_gt (q := 19) (X := x2.toInt) (Y := 48) hm261 ⟨⟨_, _, rfl⟩, rfl⟩ rfl (by decide) (fun hc => ?_) (fun hc => ?_)
      · have h := h.1 hc
        exact Wp.wk [false, false, false, false] h
      · have h := h.2 hc
        refine w_iload_n (q := 20) hm261 ⟨⟨_, _, rfl⟩, rfl⟩ rfl ?_
        refine w_if_lt (q := 23) (X := x3.toInt) hm261 ⟨⟨_, _, rfl⟩, rfl⟩ rfl (fun hc => ?_) (fun hc => ?_)
        · have h := h.1 hc
          exact Wp.wk [false, false, false, false] h
        · have h := h.2 hc
          refine w_iload_n (q := 24) hm261 ⟨⟨_, _, rfl⟩, rfl⟩ rfl ?_
          refine w_iconst (q := 25) hm261 ⟨⟨_, _, rfl⟩, rfl⟩ iconst_1 ?_
          refine w_icmp_le (q := 28) (X := x3.toInt) (Y := 1) hm261 ⟨⟨_, _, rfl⟩, rfl⟩ rfl (by decide) (fun hc => ?_) (fun hc => ?_)
          · have h := h.1 hc
            refine w_aload_n (q := 31) hm261 ⟨⟨_, _, rfl⟩, rfl⟩ rfl ?_
            refine w_getr (q := 34) hm261 ⟨⟨_, _, rfl⟩, rfl⟩ rfl ?_
            refine w_aload_n (q := 35) hm261 ⟨⟨_, _, rfl⟩, rfl⟩ rfl ?_
            refine w_getr (q := 38) hm261 ⟨⟨_, _, rfl⟩, rfl⟩ rfl ?_
            refine w_iload_n (q := 39) hm261 ⟨⟨_, _, rfl⟩, rfl⟩ rfl ?_
            refine w_iload_n (q := 40) hm261 ⟨⟨_, _, rfl⟩, rfl⟩ rfl ?_
            refine w_iload_n (q := 41) hm261 ⟨⟨_, _, rfl⟩, rfl⟩ rfl ?_
            refine w_iconst (q := 42) hm261 ⟨⟨_, _, rfl⟩, rfl⟩ iconst_1 ?_
            refine w_icmp_ne (q := 45) (X := x3.toInt) (Y := 1) hm261 ⟨⟨_, _, rfl⟩, rfl⟩ rfl (by decide) (fun hc => ?_) (fun hc => ?_)
            · have h := h.1 hc
              refine w_iconst (q := 50) hm261 ⟨⟨_, _, rfl⟩, rfl⟩ iconst_0 ?_
              refine w_call (q := 53) (n := 3) (vs := [.inr (.inr (some 61)), .inr (.inr (some 47)), .inl x1, .inl x2, .inl (0 : Int32)]) (rest := []) (la := [oR 61, oR 47, oI x1, oI x2, oI (0 : Int32), none, none, none]) hm261 ⟨⟨_, _, rfl⟩, rfl⟩ rfl rfl rfl rfl hm139 rfl rfl (fun _ => ⟨_, _, rfl, rfl⟩) rfl (Wp.mono h ?_)
              rintro _ m2 ⟨r2, rfl, h⟩
              change Wp _ _ 53 _ [.inl r2] _ _
              exact w_reti hm261 ⟨⟨_, _, rfl⟩, rfl⟩ rfl h
            · have h := h.2 hc
              refine w_iconst (q := 46) hm261 ⟨⟨_, _, rfl⟩, rfl⟩ iconst_1 ?_
              refine w_goto (q := 50) hm261 ⟨_, _, rfl⟩ ?_
              refine w_call (q := 53) (n := 3) (vs := [.inr (.inr (some 61)), .inr (.inr (some 47)), .inl x1, .inl x2, .inl (1 : Int32)]) (rest := []) (la := [oR 61, oR 47, oI x1, oI x2, oI (1 : Int32), none, none, none]) hm261 ⟨⟨_, _, rfl⟩, rfl⟩ rfl rfl rfl rfl hm139 rfl rfl (fun _ => ⟨_, _, rfl, rfl⟩) rfl (Wp.mono h ?_)
              rintro _ m3 ⟨r3, rfl, h⟩
              change Wp _ _ 53 _ [.inl r3] _ _
              exact w_reti hm261 ⟨⟨_, _, rfl⟩, rfl⟩ rfl h
          · have h := h.2 hc
            exact Wp.wk [false, false, false, false] h
theorem v_X11_peak_0_28 {d : Nat} {m : dM} {Q : Int32 → dM → Prop} (h : Q (-1 : Int32) m) : j_X11_peak_0_28 (d + 1) m Q := by
  refine w_iconst (q := 29) hm261 ⟨⟨_, _, rfl⟩, rfl⟩ iconst_m1 ?_
  exact w_reti hm261 ⟨⟨_, _, rfl⟩, rfl⟩ rfl h
theorem v_X12_copiesStill_70 {d : Nat} {m : dM} {Q : dM → Prop} (h : c_X12_copies_70 d m (fun m1 => Q (dSet m1 70 57 (1 : Int32)))) : c_X12_copiesStill_70 (d + 1) m Q := by
  refine w_aload_n (q := 1) hm82 ⟨⟨_, _, rfl⟩, rfl⟩ rfl ?_
  refine w_call (q := 4) (n := 1) (vs := [.inr (.inr (some 70))]) (rest := []) (la := [oR 70, none]) hm82 ⟨⟨_, _, rfl⟩, rfl⟩ rfl rfl rfl rfl hm44 rfl rfl (fun _ => ⟨_, _, rfl, rfl⟩) rfl (Wp.mono h ?_)
  rintro _ m1 ⟨rfl, h⟩
  change Wp _ _ 4 _ [] _ _
  refine w_aload_n (q := 5) hm82 ⟨⟨_, _, rfl⟩, rfl⟩ rfl ?_
  refine w_iconst (q := 6) hm82 ⟨⟨_, _, rfl⟩, rfl⟩ iconst_1 ?_
  refine w_putz (q := 9) hm82 ⟨⟨_, _, rfl⟩, rfl⟩ rfl rfl (by decide) rfl ?_
  exact w_retv hm82 ⟨⟨_, _, rfl⟩, rfl⟩ rfl h
theorem v_X12_peak_70 {d : Nat} {x1 : Int32} {x2 : Int32} {x3 : Int32} {m : dM} {Q : Int32 → dM → Prop} (h : c_X12_isWire_70 d x1 m (fun r1 m1 => ((r1.toInt = 0 → j_X12_peak_70_27 (d + 1) m1 Q) ∧ (r1.toInt ≠ 0 → c_X12_in d x2 (1 : Int32) (48 : Int32) m1 (fun r2 m2 => ((r2.toInt = 0 → j_X12_peak_70_27 (d + 1) m2 Q) ∧ (r2.toInt ≠ 0 → c_X12_in d x3 (0 : Int32) (1 : Int32) m2 (fun r3 m3 => ((r3.toInt ≠ 0 → c_X12_copiesStill_70 d m3 (fun m4 => j_X12_peak_70_42 (d + 1) x1 x2 x3 (0 : Int32) (-1 : Int32) (0 : Int32) m4 Q)) ∧ (r3.toInt = 0 → j_X12_peak_70_27 (d + 1) m3 Q)))))))))) : c_X12_peak_70 (d + 1) x1 x2 x3 m Q := by
  refine w_aload_n (q := 1) hm83 ⟨⟨_, _, rfl⟩, rfl⟩ rfl ?_
  refine w_iload_n (q := 2) hm83 ⟨⟨_, _, rfl⟩, rfl⟩ rfl ?_
  refine w_call (q := 5) (n := 0) (vs := [.inr (.inr (some 70)), .inl x1]) (rest := []) (la := [oR 70, oI x1]) hm83 ⟨⟨_, _, rfl⟩, rfl⟩ rfl rfl rfl rfl hm40 rfl rfl (fun _ => ⟨_, _, rfl, rfl⟩) rfl (Wp.mono h ?_)
  rintro _ m1 ⟨r1, rfl, h⟩
  change Wp _ _ 5 _ [.inl r1] _ _
  refine w_if_eq (q := 8) (X := r1.toInt) hm83 ⟨⟨_, _, rfl⟩, rfl⟩ rfl (fun hc => ?_) (fun hc => ?_)
  · have h := h.1 hc
    exact Wp.wk [false, false, false, false, false, false, false, false] h
  · have h := h.2 hc
    refine w_iload_n (q := 9) hm83 ⟨⟨_, _, rfl⟩, rfl⟩ rfl ?_
    refine w_iconst (q := 10) hm83 ⟨⟨_, _, rfl⟩, rfl⟩ iconst_1 ?_
    refine w_bipush (q := 12) hm83 ⟨⟨_, _, rfl⟩, rfl⟩ bipush_48 ?_
    refine w_call (q := 15) (n := 0) (vs := [.inl x2, .inl (1 : Int32), .inl (48 : Int32)]) (rest := []) (la := [oI x2, oI (1 : Int32), oI (48 : Int32)]) hm83 ⟨⟨_, _, rfl⟩, rfl⟩ rfl rfl rfl rfl hm36 rfl rfl (fun hz => absurd hz (by decide)) rfl (Wp.mono h ?_)
    rintro _ m2 ⟨r2, rfl, h⟩
    change Wp _ _ 15 _ [.inl r2] _ _
    refine w_if_eq (q := 18) (X := r2.toInt) hm83 ⟨⟨_, _, rfl⟩, rfl⟩ rfl (fun hc => ?_) (fun hc => ?_)
    · have h := h.1 hc
      exact Wp.wk [false, false, false, false, false, false, false, false] h
    · have h := h.2 hc
      refine w_iload_n (q := 19) hm83 ⟨⟨_, _, rfl⟩, rfl⟩ rfl ?_
      refine w_iconst (q := 20) hm83 ⟨⟨_, _, rfl⟩, rfl⟩ iconst_0 ?_
      refine w_iconst (q := 21) hm83 ⟨⟨_, _, rfl⟩, rfl⟩ iconst_1 ?_
      refine w_call (q := 24) (n := 0) (vs := [.inl x3, .inl (0 : Int32), .inl (1 : Int32)]) (rest := []) (la := [oI x3, oI (0 : Int32), oI (1 : Int32)]) hm83 ⟨⟨_, _, rfl⟩, rfl⟩ rfl rfl rfl rfl hm36 rfl rfl (fun hz => absurd hz (by decide)) rfl (Wp.mono h ?_)
      rintro _ m3 ⟨r3, rfl, h⟩
      change Wp _ _ 24 _ [.inl r3] _ _
      refine w_if_ne (q := 27) (X := r3.toInt) hm83 ⟨⟨_, _, rfl⟩, rfl⟩ rfl (fun hc => ?_) (fun hc => ?_)
      · have h := h.1 hc
        refine w_aload_n (q := 30) hm83 ⟨⟨_, _, rfl⟩, rfl⟩ rfl ?_
        refine w_call (q := 33) (n := 0) (vs := [.inr (.inr (some 70))]) (rest := []) (la := [oR 70]) hm83 ⟨⟨_, _, rfl⟩, rfl⟩ rfl rfl rfl rfl hm82 rfl rfl (fun _ => ⟨_, _, rfl, rfl⟩) rfl (Wp.mono h ?_)
        rintro _ m4 ⟨rfl, h⟩
        change Wp _ _ 33 _ [] _ _
        refine w_iconst (q := 34) hm83 ⟨⟨_, _, rfl⟩, rfl⟩ iconst_0 ?_
        refine w_istore (q := 36) (l' := [oR 70, oI x1, oI x2, oI x3, oI (0 : Int32), none, none, none]) hm83 ⟨⟨_, _, rfl⟩, rfl⟩ rfl rfl rfl ?_
        refine w_iconst (q := 37) hm83 ⟨⟨_, _, rfl⟩, rfl⟩ iconst_m1 ?_
        refine w_istore (q := 39) (l' := [oR 70, oI x1, oI x2, oI x3, oI (0 : Int32), oI (-1 : Int32), none, none]) hm83 ⟨⟨_, _, rfl⟩, rfl⟩ rfl rfl rfl ?_
        refine w_iconst (q := 40) hm83 ⟨⟨_, _, rfl⟩, rfl⟩ iconst_0 ?_
        refine w_istore (q := 42) (l' := [oR 70, oI x1, oI x2, oI x3, oI (0 : Int32), oI (-1 : Int32), oI (0 : Int32), none]) hm83 ⟨⟨_, _, rfl⟩, rfl⟩ rfl rfl rfl ?_
        exact h
      · have h := h.2 hc
        exact Wp.wk [false, false, false, false, false, false, false, false] h
theorem v_X12_peak_70_27 {d : Nat} {m : dM} {Q : Int32 → dM → Prop} (h : Q (-1 : Int32) m) : j_X12_peak_70_27 (d + 1) m Q := by
  refine w_iconst (q := 28) hm83 ⟨⟨_, _, rfl⟩, rfl⟩ iconst_m1 ?_
  exact w_reti hm83 ⟨⟨_, _, rfl⟩, rfl⟩ rfl h
theorem v_X12_peak_70_42 {d : Nat} {x1 : Int32} {x2 : Int32} {x3 : Int32} {x4 : Int32} {x5 : Int32} {x6 : Int32} {m : dM} {Q : Int32 → dM → Prop} (h : ((x2.toInt ≤ x6.toInt → ((x3.toInt ≠ 0 → Q x4 m) ∧ (x3.toInt = 0 → Q x5 m))) ∧ (x6.toInt < x2.toInt → c_X12_isWhole_70 d x1 m (fun r1 m1 => ((r1.toInt = 0 → ((0 ≤ x5.toInt → j_X12_peak_70_86 (d + 1) x1 x2 x3 x4 x5 x6 m1 Q) ∧ (x5.toInt < 0 → j_X12_peak_70_86 (d + 1) x1 x2 x3 x6 (0 : Int32) x6 m1 Q))) ∧ (r1.toInt ≠ 0 → c_X12_onNow_70 d m1 (fun r2 m2 => c_X12_loadBy_70 d x1 r2 m2 (fun r3 m3 => ((r3.toInt ≤ x5.toInt → j_X12_peak_70_86 (d + 1) x1 x2 x3 x4 x5 x6 m3 Q) ∧ (x5.toInt < r3.toInt → j_X12_peak_70_86 (d + 1) x1 x2 x3 x6 r3 x6 m3 Q)))))))))) : j_X12_peak_70_42 (d + 1) x1 x2 x3 x4 x5 x6 m Q := by
  refine w_iload (q := 44) hm83 ⟨⟨_, _, rfl⟩, rfl⟩ rfl ?_
  refine w_iload_n (q := 45) hm83 ⟨⟨_, _, rfl⟩, rfl⟩ rfl ?_
  refine w_icmp_ge (q := 48) (X := x6.toInt) (Y := x2.toInt) hm83 ⟨⟨_, _, rfl⟩, rfl⟩ rfl rfl (fun hc => ?_) (fun hc => ?_)
  · have h := h.1 hc
    refine w_iload_n (q := 97) hm83 ⟨⟨_, _, rfl⟩, rfl⟩ rfl ?_
    refine w_if_ne (q := 100) (X := x3.toInt) hm83 ⟨⟨_, _, rfl⟩, rfl⟩ rfl (fun hc => ?_) (fun hc => ?_)
    · have h := h.1 hc
      refine w_iload (q := 107) hm83 ⟨⟨_, _, rfl⟩, rfl⟩ rfl ?_
      exact w_reti hm83 ⟨⟨_, _, rfl⟩, rfl⟩ rfl h
    · have h := h.2 hc
      refine w_iload (q := 102) hm83 ⟨⟨_, _, rfl⟩, rfl⟩ rfl ?_
      refine w_goto (q := 107) hm83 ⟨_, _, rfl⟩ ?_
      exact w_reti hm83 ⟨⟨_, _, rfl⟩, rfl⟩ rfl h
  · have h := h.2 hc
    refine w_aload_n (q := 49) hm83 ⟨⟨_, _, rfl⟩, rfl⟩ rfl ?_
    refine w_iload_n (q := 50) hm83 ⟨⟨_, _, rfl⟩, rfl⟩ rfl ?_
    refine w_call (q := 53) (n := 0) (vs := [.inr (.inr (some 70)), .inl x1]) (rest := []) (la := [oR 70, oI x1]) hm83 ⟨⟨_, _, rfl⟩, rfl⟩ rfl rfl rfl rfl hm47 rfl rfl (fun _ => ⟨_, _, rfl, rfl⟩) rfl (Wp.mono h ?_)
    rintro _ m1 ⟨r1, rfl, h⟩
    change Wp _ _ 53 _ [.inl r1] _ _
    refine w_if_eq (q := 56) (X := r1.toInt) hm83 ⟨⟨_, _, rfl⟩, rfl⟩ rfl (fun hc => ?_) (fun hc => ?_)
    · have h := h.1 hc
      refine w_iconst (q := 69) hm83 ⟨⟨_, _, rfl⟩, rfl⟩ iconst_0 ?_
      refine w_istore (q := 71) (l' := [oR 70, oI x1, oI x2, oI x3, oI x4, oI x5, oI x6, oI (0 : Int32)]) hm83 ⟨⟨_, _, rfl⟩, rfl⟩ rfl rfl rfl ?_
      refine w_iload (q := 73) hm83 ⟨⟨_, _, rfl⟩, rfl⟩ rfl ?_
      refine w_iload (q := 75) hm83 ⟨⟨_, _, rfl⟩, rfl⟩ rfl ?_
      refine w_icmp_le (q := 78) (X := 0) (Y := x5.toInt) hm83 ⟨⟨_, _, rfl⟩, rfl⟩ (by decide) rfl (fun hc => ?_) (fun hc => ?_)
      · have h := h.1 hc
        exact Wp.wk [true, true, true, true, true, true, true, false] h
      · have h := h.2 hc
        refine w_iload (q := 80) hm83 ⟨⟨_, _, rfl⟩, rfl⟩ rfl ?_
        refine w_istore (q := 82) (l' := [oR 70, oI x1, oI x2, oI x3, oI x6, oI x5, oI x6, oI (0 : Int32)]) hm83 ⟨⟨_, _, rfl⟩, rfl⟩ rfl rfl rfl ?_
        refine w_iload (q := 84) hm83 ⟨⟨_, _, rfl⟩, rfl⟩ rfl ?_
        refine w_istore (q := 86) (l' := [oR 70, oI x1, oI x2, oI x3, oI x6, oI (0 : Int32), oI x6, oI (0 : Int32)]) hm83 ⟨⟨_, _, rfl⟩, rfl⟩ rfl rfl rfl ?_
        exact Wp.wk [true, true, true, true, true, true, true, false] h
    · have h := h.2 hc
      refine w_aload_n (q := 57) hm83 ⟨⟨_, _, rfl⟩, rfl⟩ rfl ?_
      refine w_iload_n (q := 58) hm83 ⟨⟨_, _, rfl⟩, rfl⟩ rfl ?_
      refine w_aload_n (q := 59) hm83 ⟨⟨_, _, rfl⟩, rfl⟩ rfl ?_
      refine w_call (q := 62) (n := 0) (vs := [.inr (.inr (some 70))]) (rest := [.inl x1, .inr (.inr (some 70))]) (la := [oR 70]) hm83 ⟨⟨_, _, rfl⟩, rfl⟩ rfl rfl rfl rfl hm56 rfl rfl (fun _ => ⟨_, _, rfl, rfl⟩) rfl (Wp.mono h ?_)
      rintro _ m2 ⟨r2, rfl, h⟩
      change Wp _ _ 62 _ [.inl r2, .inl x1, .inr (.inr (some 70))] _ _
      refine w_call (q := 65) (n := 2) (vs := [.inr (.inr (some 70)), .inl x1, .inl r2]) (rest := []) (la := [oR 70, oI x1, oI r2, none, none]) hm83 ⟨⟨_, _, rfl⟩, rfl⟩ rfl rfl rfl rfl hm57 rfl rfl (fun _ => ⟨_, _, rfl, rfl⟩) rfl (Wp.mono h ?_)
      rintro _ m3 ⟨r3, rfl, h⟩
      change Wp _ _ 65 _ [.inl r3] _ _
      refine w_goto (q := 69) hm83 ⟨_, _, rfl⟩ ?_
      refine w_istore (q := 71) (l' := [oR 70, oI x1, oI x2, oI x3, oI x4, oI x5, oI x6, oI r3]) hm83 ⟨⟨_, _, rfl⟩, rfl⟩ rfl rfl rfl ?_
      refine w_iload (q := 73) hm83 ⟨⟨_, _, rfl⟩, rfl⟩ rfl ?_
      refine w_iload (q := 75) hm83 ⟨⟨_, _, rfl⟩, rfl⟩ rfl ?_
      refine w_icmp_le (q := 78) (X := r3.toInt) (Y := x5.toInt) hm83 ⟨⟨_, _, rfl⟩, rfl⟩ rfl rfl (fun hc => ?_) (fun hc => ?_)
      · have h := h.1 hc
        exact Wp.wk [true, true, true, true, true, true, true, false] h
      · have h := h.2 hc
        refine w_iload (q := 80) hm83 ⟨⟨_, _, rfl⟩, rfl⟩ rfl ?_
        refine w_istore (q := 82) (l' := [oR 70, oI x1, oI x2, oI x3, oI x6, oI x5, oI x6, oI r3]) hm83 ⟨⟨_, _, rfl⟩, rfl⟩ rfl rfl rfl ?_
        refine w_iload (q := 84) hm83 ⟨⟨_, _, rfl⟩, rfl⟩ rfl ?_
        refine w_istore (q := 86) (l' := [oR 70, oI x1, oI x2, oI x3, oI x6, oI r3, oI x6, oI r3]) hm83 ⟨⟨_, _, rfl⟩, rfl⟩ rfl rfl rfl ?_
        exact Wp.wk [true, true, true, true, true, true, true, false] h
theorem v_X12_peak_70_86 {d : Nat} {x1 : Int32} {x2 : Int32} {x3 : Int32} {x4 : Int32} {x5 : Int32} {x6 : Int32} {m : dM} {Q : Int32 → dM → Prop} (h : c_X12_hourGoes_70 d m (fun m1 => j_X12_peak_70_42 (d + 1) x1 x2 x3 x4 x5 (x6 + (1 : Int32)) m1 Q)) : j_X12_peak_70_86 (d + 1) x1 x2 x3 x4 x5 x6 m Q := by
  refine w_aload_n (q := 87) hm83 ⟨⟨_, _, rfl⟩, rfl⟩ rfl ?_
  refine w_call (q := 90) (n := 4) (vs := [.inr (.inr (some 70))]) (rest := []) (la := [oR 70, none, none, none, none]) hm83 ⟨⟨_, _, rfl⟩, rfl⟩ rfl rfl rfl rfl hm67 rfl rfl (fun _ => ⟨_, _, rfl, rfl⟩) rfl (Wp.mono h ?_)
  rintro _ m1 ⟨rfl, h⟩
  change Wp _ _ 90 _ [] _ _
  refine w_iinc (q := 93) (l' := [oR 70, oI x1, oI x2, oI x3, oI x4, oI x5, oI (x6 + (1 : Int32)), none]) hm83 ⟨⟨_, _, rfl⟩, rfl⟩ rfl rfl rfl iconst_1 rfl ?_
  refine w_goto (q := 42) hm83 ⟨_, _, rfl⟩ ?_
  exact h
theorem v_X1_trialTillGone_61 {d : Nat} {m : dM} {Q : Int32 → dM → Prop} (h : j_X1_trialTillGone_61_7 (d + 1) (1 : Int32) (dSet m 61 4 (0 : Int32)) Q) : c_X1_trialTillGone_61 (d + 1) m Q := by
  refine w_aload_n (q := 1) hm142 ⟨⟨_, _, rfl⟩, rfl⟩ rfl ?_
  refine w_iconst (q := 2) hm142 ⟨⟨_, _, rfl⟩, rfl⟩ iconst_0 ?_
  refine w_putf (q := 5) hm142 ⟨⟨_, _, rfl⟩, rfl⟩ rfl rfl rfl ?_
  refine w_iconst (q := 6) hm142 ⟨⟨_, _, rfl⟩, rfl⟩ iconst_1 ?_
  refine w_istore_n (q := 7) (l' := [oR 61, oI (1 : Int32)]) hm142 ⟨⟨_, _, rfl⟩, rfl⟩ rfl rfl rfl ?_
  exact h
theorem v_X1_trialTillGone_61_7 {d : Nat} {x1 : Int32} {m : dM} {Q : Int32 → dM → Prop} (h : ((200 < x1.toInt → Q (201 : Int32) m) ∧ (x1.toInt ≤ 200 → c_X0_passWires_54_62 d (0 : Int32) m (fun r1 m1 => ((r1.toInt = 0 → j_X1_trialTillGone_61_7 (d + 1) (x1 + (1 : Int32)) (dSet m1 61 4 r1) Q) ∧ (r1.toInt ≠ 0 → Q x1 (dSet m1 61 4 r1))))))) : j_X1_trialTillGone_61_7 (d + 1) x1 m Q := by
  refine w_iload_n (q := 8) hm142 ⟨⟨_, _, rfl⟩, rfl⟩ rfl ?_
  refine w_sipush (q := 11) hm142 ⟨⟨_, _, rfl⟩, rfl⟩ sipush_200 ?_
  refine w_icmp_gt (q := 14) (X := x1.toInt) (Y := 200) hm142 ⟨⟨_, _, rfl⟩, rfl⟩ rfl (by decide) (fun hc => ?_) (fun hc => ?_)
  · have h := h.1 hc
    refine w_sipush (q := 48) hm142 ⟨⟨_, _, rfl⟩, rfl⟩ sipush_201 ?_
    exact w_reti hm142 ⟨⟨_, _, rfl⟩, rfl⟩ rfl h
  · have h := h.2 hc
    refine w_aload_n (q := 15) hm142 ⟨⟨_, _, rfl⟩, rfl⟩ rfl ?_
    refine w_aload_n (q := 16) hm142 ⟨⟨_, _, rfl⟩, rfl⟩ rfl ?_
    refine w_getr (q := 19) hm142 ⟨⟨_, _, rfl⟩, rfl⟩ rfl ?_
    refine w_aload_n (q := 20) hm142 ⟨⟨_, _, rfl⟩, rfl⟩ rfl ?_
    refine w_getr (q := 23) hm142 ⟨⟨_, _, rfl⟩, rfl⟩ rfl ?_
    refine w_iconst (q := 24) hm142 ⟨⟨_, _, rfl⟩, rfl⟩ iconst_0 ?_
    refine w_call (q := 27) (n := 2) (vs := [.inr (.inr (some 54)), .inr (.inr (some 62)), .inl (0 : Int32)]) (rest := [.inr (.inr (some 61))]) (la := [oR 54, oR 62, oI (0 : Int32), none, none]) hm142 ⟨⟨_, _, rfl⟩, rfl⟩ rfl rfl rfl rfl hm137 rfl rfl (fun _ => ⟨_, _, rfl, rfl⟩) rfl (Wp.mono h ?_)
    rintro _ m1 ⟨r1, rfl, h⟩
    change Wp _ _ 27 _ [.inl r1, .inr (.inr (some 61))] _ _
    refine w_putf (q := 30) hm142 ⟨⟨_, _, rfl⟩, rfl⟩ rfl rfl rfl ?_
    refine w_aload_n (q := 31) hm142 ⟨⟨_, _, rfl⟩, rfl⟩ rfl ?_
    refine w_getf (q := 34) (v := r1) hm142 ⟨⟨_, _, rfl⟩, rfl⟩ rfl rfl ?_
    refine w_if_eq (q := 37) (X := r1.toInt) hm142 ⟨⟨_, _, rfl⟩, rfl⟩ rfl (fun hc => ?_) (fun hc => ?_)
    · have h := h.1 hc
      refine w_iinc (q := 42) (l' := [oR 61, oI (x1 + (1 : Int32))]) hm142 ⟨⟨_, _, rfl⟩, rfl⟩ rfl rfl rfl iconst_1 rfl ?_
      refine w_goto (q := 7) hm142 ⟨_, _, rfl⟩ ?_
      exact h
    · have h := h.2 hc
      refine w_iload_n (q := 38) hm142 ⟨⟨_, _, rfl⟩, rfl⟩ rfl ?_
      exact w_reti hm142 ⟨⟨_, _, rfl⟩, rfl⟩ rfl h
theorem v_X1_firstGone_61_47 {d : Nat} {m : dM} {Q : Int32 → dM → Prop} (h : c_X7_copy_62_47 d m (fun m1 => c_X1_trialTillGone_61 d m1 (fun r2 m2 => Q r2 m2))) : c_X1_firstGone_61_47 (d + 1) m Q := by
  refine w_aload_n (q := 1) hm140 ⟨⟨_, _, rfl⟩, rfl⟩ rfl ?_
  refine w_getr (q := 4) hm140 ⟨⟨_, _, rfl⟩, rfl⟩ rfl ?_
  refine w_aload_n (q := 5) hm140 ⟨⟨_, _, rfl⟩, rfl⟩ rfl ?_
  refine w_call (q := 8) (n := 0) (vs := [.inr (.inr (some 62)), .inr (.inr (some 47))]) (rest := []) (la := [oR 62, oR 47]) hm140 ⟨⟨_, _, rfl⟩, rfl⟩ rfl rfl rfl rfl hm209 rfl rfl (fun _ => ⟨_, _, rfl, rfl⟩) rfl (Wp.mono h ?_)
  rintro _ m1 ⟨rfl, h⟩
  change Wp _ _ 8 _ [] _ _
  refine w_aload_n (q := 9) hm140 ⟨⟨_, _, rfl⟩, rfl⟩ rfl ?_
  refine w_call (q := 12) (n := 1) (vs := [.inr (.inr (some 61))]) (rest := []) (la := [oR 61, none]) hm140 ⟨⟨_, _, rfl⟩, rfl⟩ rfl rfl rfl rfl hm142 rfl rfl (fun _ => ⟨_, _, rfl, rfl⟩) rfl (Wp.mono h ?_)
  rintro _ m2 ⟨r2, rfl, h⟩
  change Wp _ _ 12 _ [.inl r2] _ _
  exact w_reti hm140 ⟨⟨_, _, rfl⟩, rfl⟩ rfl h
theorem v_X11_bitAt {d : Nat} {x0 : Int32} {x1 : Int32} {m : dM} {Q : Int32 → dM → Prop} (h : j_X11_bitAt_4 (d + 1) x0 x1 (0 : Int32) (0 : Int32) m Q) : c_X11_bitAt (d + 1) x0 x1 m Q := by
  refine w_iconst (q := 1) hm284 ⟨⟨_, _, rfl⟩, rfl⟩ iconst_0 ?_
  refine w_istore_n (q := 2) (l' := [oI x0, oI x1, oI (0 : Int32), none]) hm284 ⟨⟨_, _, rfl⟩, rfl⟩ rfl rfl rfl ?_
  refine w_iconst (q := 3) hm284 ⟨⟨_, _, rfl⟩, rfl⟩ iconst_0 ?_
  refine w_istore_n (q := 4) (l' := [oI x0, oI x1, oI (0 : Int32), oI (0 : Int32)]) hm284 ⟨⟨_, _, rfl⟩, rfl⟩ rfl rfl rfl ?_
  exact h
theorem v_X11_bitAt_4 {d : Nat} {x0 : Int32} {x1 : Int32} {x2 : Int32} {x3 : Int32} {m : dM} {Q : Int32 → dM → Prop} (h : ((32 ≤ x3.toInt → Q (-1 : Int32) m) ∧ (x3.toInt < 32 → c_X11_has d x0 x3 m (fun r1 m1 => ((r1.toInt = 0 → j_X11_bitAt_28 (d + 1) x0 x1 x2 x3 m1 Q) ∧ (r1.toInt ≠ 0 → ((x2.toInt ≠ x1.toInt → j_X11_bitAt_28 (d + 1) x0 x1 (x2 + (1 : Int32)) x3 m1 Q) ∧ (x2.toInt = x1.toInt → Q x3 m1)))))))) : j_X11_bitAt_4 (d + 1) x0 x1 x2 x3 m Q := by
  refine w_iload_n (q := 5) hm284 ⟨⟨_, _, rfl⟩, rfl⟩ rfl ?_
  refine w_bipush (q := 7) hm284 ⟨⟨_, _, rfl⟩, rfl⟩ bipush_32 ?_
  refine w_icmp_ge (q := 10) (X := x3.toInt) (Y := 32) hm284 ⟨⟨_, _, rfl⟩, rfl⟩ rfl (by decide) (fun hc => ?_) (fun hc => ?_)
  · have h := h.1 hc
    refine w_iconst (q := 35) hm284 ⟨⟨_, _, rfl⟩, rfl⟩ iconst_m1 ?_
    exact w_reti hm284 ⟨⟨_, _, rfl⟩, rfl⟩ rfl h
  · have h := h.2 hc
    refine w_iload_n (q := 11) hm284 ⟨⟨_, _, rfl⟩, rfl⟩ rfl ?_
    refine w_iload_n (q := 12) hm284 ⟨⟨_, _, rfl⟩, rfl⟩ rfl ?_
    refine w_call (q := 15) (n := 0) (vs := [.inl x0, .inl x3]) (rest := []) (la := [oI x0, oI x3]) hm284 ⟨⟨_, _, rfl⟩, rfl⟩ rfl rfl rfl rfl hm283 rfl rfl (fun hz => absurd hz (by decide)) rfl (Wp.mono h ?_)
    rintro _ m1 ⟨r1, rfl, h⟩
    change Wp _ _ 15 _ [.inl r1] _ _
    refine w_if_eq (q := 18) (X := r1.toInt) hm284 ⟨⟨_, _, rfl⟩, rfl⟩ rfl (fun hc => ?_) (fun hc => ?_)
    · have h := h.1 hc
      exact h
    · have h := h.2 hc
      refine w_iload_n (q := 19) hm284 ⟨⟨_, _, rfl⟩, rfl⟩ rfl ?_
      refine w_iload_n (q := 20) hm284 ⟨⟨_, _, rfl⟩, rfl⟩ rfl ?_
      refine w_icmp_ne (q := 23) (X := x2.toInt) (Y := x1.toInt) hm284 ⟨⟨_, _, rfl⟩, rfl⟩ rfl rfl (fun hc => ?_) (fun hc => ?_)
      · have h := h.1 hc
        refine w_iinc (q := 28) (l' := [oI x0, oI x1, oI (x2 + (1 : Int32)), oI x3]) hm284 ⟨⟨_, _, rfl⟩, rfl⟩ rfl rfl rfl iconst_1 rfl ?_
        exact h
      · have h := h.2 hc
        refine w_iload_n (q := 24) hm284 ⟨⟨_, _, rfl⟩, rfl⟩ rfl ?_
        exact w_reti hm284 ⟨⟨_, _, rfl⟩, rfl⟩ rfl h
theorem v_X11_bitAt_28 {d : Nat} {x0 : Int32} {x1 : Int32} {x2 : Int32} {x3 : Int32} {m : dM} {Q : Int32 → dM → Prop} (h : j_X11_bitAt_4 (d + 1) x0 x1 x2 (x3 + (1 : Int32)) m Q) : j_X11_bitAt_28 (d + 1) x0 x1 x2 x3 m Q := by
  refine w_iinc (q := 31) (l' := [oI x0, oI x1, oI x2, oI (x3 + (1 : Int32))]) hm284 ⟨⟨_, _, rfl⟩, rfl⟩ rfl rfl rfl iconst_1 rfl ?_
  refine w_goto (q := 4) hm284 ⟨_, _, rfl⟩ ?_
  exact h
theorem v_X1_firstWire_61 {d : Nat} {m : dM} {Q : Int32 → dM → Prop} (h : c_X11_bitAt d (m.1 61 4) (0 : Int32) m (fun r1 m1 => Q r1 m1)) : c_X1_firstWire_61 (d + 1) m Q := by
  refine w_aload_n (q := 1) hm141 ⟨⟨_, _, rfl⟩, rfl⟩ rfl ?_
  refine w_getf (q := 4) (v := (m.1 61 4)) hm141 ⟨⟨_, _, rfl⟩, rfl⟩ rfl rfl ?_
  refine w_iconst (q := 5) hm141 ⟨⟨_, _, rfl⟩, rfl⟩ iconst_0 ?_
  refine w_call (q := 8) (n := 2) (vs := [.inl (m.1 61 4), .inl (0 : Int32)]) (rest := []) (la := [oI (m.1 61 4), oI (0 : Int32), none, none]) hm141 ⟨⟨_, _, rfl⟩, rfl⟩ rfl rfl rfl rfl hm284 rfl rfl (fun hz => absurd hz (by decide)) rfl (Wp.mono h ?_)
  rintro _ m1 ⟨r1, rfl, h⟩
  change Wp _ _ 8 _ [.inl r1] _ _
  exact w_reti hm141 ⟨⟨_, _, rfl⟩, rfl⟩ rfl h
theorem v_X11_first_0 {d : Nat} {x1 : Int32} {m : dM} {Q : Int32 → dM → Prop} (h : ((x1.toInt < 0 → j_X11_first_0_9 (d + 1) m Q) ∧ (0 ≤ x1.toInt → ((x1.toInt ≤ 1 → c_X1_firstGone_61_47 d m (fun r1 m1 => ((r1.toInt ≤ 200 → ((x1.toInt ≠ 0 → c_X1_firstWire_61 d m1 (fun r2 m2 => Q r2 m2)) ∧ (x1.toInt = 0 → Q r1 m1))) ∧ (200 < r1.toInt → Q (-2 : Int32) m1)))) ∧ (1 < x1.toInt → j_X11_first_0_9 (d + 1) m Q))))) : c_X11_first_0 (d + 1) x1 m Q := by
  refine w_iload_n (q := 1) hm262 ⟨⟨_, _, rfl⟩, rfl⟩ rfl ?_
  refine w_if_lt (q := 4) (X := x1.toInt) hm262 ⟨⟨_, _, rfl⟩, rfl⟩ rfl (fun hc => ?_) (fun hc => ?_)
  · have h := h.1 hc
    exact Wp.wk [false, false, false] h
  · have h := h.2 hc
    refine w_iload_n (q := 5) hm262 ⟨⟨_, _, rfl⟩, rfl⟩ rfl ?_
    refine w_iconst (q := 6) hm262 ⟨⟨_, _, rfl⟩, rfl⟩ iconst_1 ?_
    refine w_icmp_le (q := 9) (X := x1.toInt) (Y := 1) hm262 ⟨⟨_, _, rfl⟩, rfl⟩ rfl (by decide) (fun hc => ?_) (fun hc => ?_)
    · have h := h.1 hc
      refine w_aload_n (q := 12) hm262 ⟨⟨_, _, rfl⟩, rfl⟩ rfl ?_
      refine w_getr (q := 15) hm262 ⟨⟨_, _, rfl⟩, rfl⟩ rfl ?_
      refine w_aload_n (q := 16) hm262 ⟨⟨_, _, rfl⟩, rfl⟩ rfl ?_
      refine w_getr (q := 19) hm262 ⟨⟨_, _, rfl⟩, rfl⟩ rfl ?_
      refine w_call (q := 22) (n := 0) (vs := [.inr (.inr (some 61)), .inr (.inr (some 47))]) (rest := []) (la := [oR 61, oR 47]) hm262 ⟨⟨_, _, rfl⟩, rfl⟩ rfl rfl rfl rfl hm140 rfl rfl (fun _ => ⟨_, _, rfl, rfl⟩) rfl (Wp.mono h ?_)
      rintro _ m1 ⟨r1, rfl, h⟩
      change Wp _ _ 22 _ [.inl r1] _ _
      refine w_istore_n (q := 23) (l' := [oR 0, oI x1, oI r1]) hm262 ⟨⟨_, _, rfl⟩, rfl⟩ rfl rfl rfl ?_
      refine w_iload_n (q := 24) hm262 ⟨⟨_, _, rfl⟩, rfl⟩ rfl ?_
      refine w_sipush (q := 27) hm262 ⟨⟨_, _, rfl⟩, rfl⟩ sipush_200 ?_
      refine w_icmp_le (q := 30) (X := r1.toInt) (Y := 200) hm262 ⟨⟨_, _, rfl⟩, rfl⟩ rfl (by decide) (fun hc => ?_) (fun hc => ?_)
      · have h := h.1 hc
        refine w_iload_n (q := 34) hm262 ⟨⟨_, _, rfl⟩, rfl⟩ rfl ?_
        refine w_if_ne (q := 37) (X := x1.toInt) hm262 ⟨⟨_, _, rfl⟩, rfl⟩ rfl (fun hc => ?_) (fun hc => ?_)
        · have h := h.1 hc
          refine w_aload_n (q := 42) hm262 ⟨⟨_, _, rfl⟩, rfl⟩ rfl ?_
          refine w_getr (q := 45) hm262 ⟨⟨_, _, rfl⟩, rfl⟩ rfl ?_
          refine w_call (q := 48) (n := 0) (vs := [.inr (.inr (some 61))]) (rest := []) (la := [oR 61]) hm262 ⟨⟨_, _, rfl⟩, rfl⟩ rfl rfl rfl rfl hm141 rfl rfl (fun _ => ⟨_, _, rfl, rfl⟩) rfl (Wp.mono h ?_)
          rintro _ m2 ⟨r2, rfl, h⟩
          change Wp _ _ 48 _ [.inl r2] _ _
          exact w_reti hm262 ⟨⟨_, _, rfl⟩, rfl⟩ rfl h
        · have h := h.2 hc
          refine w_iload_n (q := 38) hm262 ⟨⟨_, _, rfl⟩, rfl⟩ rfl ?_
          refine w_goto (q := 48) hm262 ⟨_, _, rfl⟩ ?_
          exact w_reti hm262 ⟨⟨_, _, rfl⟩, rfl⟩ rfl h
      · have h := h.2 hc
        refine w_bipush (q := 32) hm262 ⟨⟨_, _, rfl⟩, rfl⟩ bipush_m2 ?_
        exact w_reti hm262 ⟨⟨_, _, rfl⟩, rfl⟩ rfl h
    · have h := h.2 hc
      exact Wp.wk [false, false, false] h
theorem v_X11_first_0_9 {d : Nat} {m : dM} {Q : Int32 → dM → Prop} (h : Q (-1 : Int32) m) : j_X11_first_0_9 (d + 1) m Q := by
  refine w_iconst (q := 10) hm262 ⟨⟨_, _, rfl⟩, rfl⟩ iconst_m1 ?_
  exact w_reti hm262 ⟨⟨_, _, rfl⟩, rfl⟩ rfl h
theorem v_X12_firstGoing_70 {d : Nat} {m : dM} {Q : Int32 → dM → Prop} (h : j_X12_firstGoing_70_2 (d + 1) (1 : Int32) m Q) : c_X12_firstGoing_70 (d + 1) m Q := by
  refine w_iconst (q := 1) hm84 ⟨⟨_, _, rfl⟩, rfl⟩ iconst_1 ?_
  refine w_istore_n (q := 2) (l' := [oR 70, oI (1 : Int32)]) hm84 ⟨⟨_, _, rfl⟩, rfl⟩ rfl rfl rfl ?_
  exact h
theorem v_X12_firstGoing_70_2 {d : Nat} {x1 : Int32} {m : dM} {Q : Int32 → dM → Prop} (h : ((200 < x1.toInt → Q (201 : Int32) m) ∧ (x1.toInt ≤ 200 → c_X12_hourGoes_70 d m (fun m1 => (((m1.1 70 60).toInt = 0 → j_X12_firstGoing_70_2 (d + 1) (x1 + (1 : Int32)) m1 Q) ∧ ((m1.1 70 60).toInt ≠ 0 → Q x1 m1)))))) : j_X12_firstGoing_70_2 (d + 1) x1 m Q := by
  refine w_iload_n (q := 3) hm84 ⟨⟨_, _, rfl⟩, rfl⟩ rfl ?_
  refine w_sipush (q := 6) hm84 ⟨⟨_, _, rfl⟩, rfl⟩ sipush_200 ?_
  refine w_icmp_gt (q := 9) (X := x1.toInt) (Y := 200) hm84 ⟨⟨_, _, rfl⟩, rfl⟩ rfl (by decide) (fun hc => ?_) (fun hc => ?_)
  · have h := h.1 hc
    refine w_sipush (q := 31) hm84 ⟨⟨_, _, rfl⟩, rfl⟩ sipush_201 ?_
    exact w_reti hm84 ⟨⟨_, _, rfl⟩, rfl⟩ rfl h
  · have h := h.2 hc
    refine w_aload_n (q := 10) hm84 ⟨⟨_, _, rfl⟩, rfl⟩ rfl ?_
    refine w_call (q := 13) (n := 4) (vs := [.inr (.inr (some 70))]) (rest := []) (la := [oR 70, none, none, none, none]) hm84 ⟨⟨_, _, rfl⟩, rfl⟩ rfl rfl rfl rfl hm67 rfl rfl (fun _ => ⟨_, _, rfl, rfl⟩) rfl (Wp.mono h ?_)
    rintro _ m1 ⟨rfl, h⟩
    change Wp _ _ 13 _ [] _ _
    refine w_aload_n (q := 14) hm84 ⟨⟨_, _, rfl⟩, rfl⟩ rfl ?_
    refine w_getf (q := 17) (v := (m1.1 70 60)) hm84 ⟨⟨_, _, rfl⟩, rfl⟩ rfl rfl ?_
    refine w_if_eq (q := 20) (X := (m1.1 70 60).toInt) hm84 ⟨⟨_, _, rfl⟩, rfl⟩ rfl (fun hc => ?_) (fun hc => ?_)
    · have h := h.1 hc
      refine w_iinc (q := 25) (l' := [oR 70, oI (x1 + (1 : Int32))]) hm84 ⟨⟨_, _, rfl⟩, rfl⟩ rfl rfl rfl iconst_1 rfl ?_
      refine w_goto (q := 2) hm84 ⟨_, _, rfl⟩ ?_
      exact h
    · have h := h.2 hc
      refine w_iload_n (q := 21) hm84 ⟨⟨_, _, rfl⟩, rfl⟩ rfl ?_
      exact w_reti hm84 ⟨⟨_, _, rfl⟩, rfl⟩ rfl h
