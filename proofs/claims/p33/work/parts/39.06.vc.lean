theorem v_X12_begins_70 {d : Nat} {m : dM} {Q : dM → Prop} (h : j_X12_begins_70_2 (d + 1) (0 : Int32) m Q) : c_X12_begins_70 (d + 1) m Q := by
  refine w_iconst (q := 1) hm42 ⟨⟨_, _, rfl⟩, rfl⟩ iconst_0 ?_
  refine w_istore_n (q := 2) (l' := [oR 70, oI (0 : Int32)]) hm42 ⟨⟨_, _, rfl⟩, rfl⟩ rfl rfl rfl ?_
  exact h
theorem v_X12_begins_70_2 {d : Nat} {x1 : Int32} {m : dM} {Q : dM → Prop} (h : ((58 ≤ x1.toInt → j_X12_begins_70_23 (d + 1) (0 : Int32) m Q) ∧ (x1.toInt < 58 → ((0 ≤ x1.toInt ∧ x1.toInt < 58) ∧ j_X12_begins_70_2 (d + 1) (x1 + (1 : Int32)) (dSet m 108 x1.toNatClampNeg (0 : Int32)) Q)))) : j_X12_begins_70_2 (d + 1) x1 m Q := by
  refine w_iload_n (q := 3) hm42 ⟨⟨_, _, rfl⟩, rfl⟩ rfl ?_
  refine w_bipush (q := 5) hm42 ⟨⟨_, _, rfl⟩, rfl⟩ bipush_58 ?_
  refine w_icmp_ge (q := 8) (X := x1.toInt) (Y := 58) hm42 ⟨⟨_, _, rfl⟩, rfl⟩ rfl (by decide) (fun hc => ?_) (fun hc => ?_)
  · have h := h.1 hc
    refine w_iconst (q := 22) hm42 ⟨⟨_, _, rfl⟩, rfl⟩ iconst_0 ?_
    refine w_istore_n (q := 23) (l' := [oR 70, oI (0 : Int32)]) hm42 ⟨⟨_, _, rfl⟩, rfl⟩ rfl rfl rfl ?_
    exact h
  · have h := h.2 hc
    refine w_aload_n (q := 9) hm42 ⟨⟨_, _, rfl⟩, rfl⟩ rfl ?_
    refine w_getr (q := 12) hm42 ⟨⟨_, _, rfl⟩, rfl⟩ rfl ?_
    refine w_iload_n (q := 13) hm42 ⟨⟨_, _, rfl⟩, rfl⟩ rfl ?_
    refine w_iconst (q := 14) hm42 ⟨⟨_, _, rfl⟩, rfl⟩ iconst_0 ?_
    obtain ⟨hi, h⟩ := h
    refine w_iast (q := 15) hm42 ⟨⟨_, _, rfl⟩, rfl⟩ rfl hi rfl rfl ?_
    refine w_iinc (q := 18) (l' := [oR 70, oI (x1 + (1 : Int32))]) hm42 ⟨⟨_, _, rfl⟩, rfl⟩ rfl rfl rfl iconst_1 rfl ?_
    refine w_goto (q := 2) hm42 ⟨_, _, rfl⟩ ?_
    exact h
theorem v_X12_begins_70_23 {d : Nat} {x1 : Int32} {m : dM} {Q : dM → Prop} (h : ((0 ≤ (m.1 70 18).toInt ∧ (m.1 70 18).toInt < 2) ∧ (((m.1 82 (m.1 70 18).toNatClampNeg).toInt ≤ x1.toInt → j_X12_begins_70_64 (d + 1) (0 : Int32) m Q) ∧ (x1.toInt < (m.1 82 (m.1 70 18).toNatClampNeg).toInt → ((0 ≤ (((10 : Int32) * (m.1 70 18)) + x1).toInt ∧ (((10 : Int32) * (m.1 70 18)) + x1).toInt < 20) ∧ ((0 ≤ x1.toInt ∧ x1.toInt < 58) ∧ j_X12_begins_70_23 (d + 1) (x1 + (1 : Int32)) (dSet m 108 x1.toNatClampNeg (m.1 85 (((10 : Int32) * (m.1 70 18)) + x1).toNatClampNeg)) Q)))))) : j_X12_begins_70_23 (d + 1) x1 m Q := by
  refine w_iload_n (q := 24) hm42 ⟨⟨_, _, rfl⟩, rfl⟩ rfl ?_
  refine w_aload_n (q := 25) hm42 ⟨⟨_, _, rfl⟩, rfl⟩ rfl ?_
  refine w_getr (q := 28) hm42 ⟨⟨_, _, rfl⟩, rfl⟩ rfl ?_
  refine w_aload_n (q := 29) hm42 ⟨⟨_, _, rfl⟩, rfl⟩ rfl ?_
  refine w_getf (q := 32) (v := (m.1 70 18)) hm42 ⟨⟨_, _, rfl⟩, rfl⟩ rfl rfl ?_
  obtain ⟨hi, h⟩ := h
  refine w_iald (q := 33) (v := (m.1 82 (m.1 70 18).toNatClampNeg)) hm42 ⟨⟨_, _, rfl⟩, rfl⟩ rfl hi rfl rfl ?_
  refine w_icmp_ge (q := 36) (X := x1.toInt) (Y := (m.1 82 (m.1 70 18).toNatClampNeg).toInt) hm42 ⟨⟨_, _, rfl⟩, rfl⟩ rfl rfl (fun hc => ?_) (fun hc => ?_)
  · have h := h.1 hc
    refine w_iconst (q := 63) hm42 ⟨⟨_, _, rfl⟩, rfl⟩ iconst_0 ?_
    refine w_istore_n (q := 64) (l' := [oR 70, oI (0 : Int32)]) hm42 ⟨⟨_, _, rfl⟩, rfl⟩ rfl rfl rfl ?_
    exact h
  · have h := h.2 hc
    refine w_aload_n (q := 37) hm42 ⟨⟨_, _, rfl⟩, rfl⟩ rfl ?_
    refine w_getr (q := 40) hm42 ⟨⟨_, _, rfl⟩, rfl⟩ rfl ?_
    refine w_iload_n (q := 41) hm42 ⟨⟨_, _, rfl⟩, rfl⟩ rfl ?_
    refine w_aload_n (q := 42) hm42 ⟨⟨_, _, rfl⟩, rfl⟩ rfl ?_
    refine w_getr (q := 45) hm42 ⟨⟨_, _, rfl⟩, rfl⟩ rfl ?_
    refine w_bipush (q := 47) hm42 ⟨⟨_, _, rfl⟩, rfl⟩ bipush_10 ?_
    refine w_aload_n (q := 48) hm42 ⟨⟨_, _, rfl⟩, rfl⟩ rfl ?_
    refine w_getf (q := 51) (v := (m.1 70 18)) hm42 ⟨⟨_, _, rfl⟩, rfl⟩ rfl rfl ?_
    refine w_imul (q := 52) hm42 ⟨⟨_, _, rfl⟩, rfl⟩ ?_
    refine w_iload_n (q := 53) hm42 ⟨⟨_, _, rfl⟩, rfl⟩ rfl ?_
    refine w_iadd (q := 54) hm42 ⟨⟨_, _, rfl⟩, rfl⟩ ?_
    obtain ⟨hi, h⟩ := h
    refine w_iald (q := 55) (v := (m.1 85 (((10 : Int32) * (m.1 70 18)) + x1).toNatClampNeg)) hm42 ⟨⟨_, _, rfl⟩, rfl⟩ rfl hi rfl rfl ?_
    obtain ⟨hi, h⟩ := h
    refine w_iast (q := 56) hm42 ⟨⟨_, _, rfl⟩, rfl⟩ rfl hi rfl rfl ?_
    refine w_iinc (q := 59) (l' := [oR 70, oI (x1 + (1 : Int32))]) hm42 ⟨⟨_, _, rfl⟩, rfl⟩ rfl rfl rfl iconst_1 rfl ?_
    refine w_goto (q := 23) hm42 ⟨_, _, rfl⟩ ?_
    exact h
theorem v_X12_begins_70_64 {d : Nat} {x1 : Int32} {m : dM} {Q : dM → Prop} (h : ((0 ≤ (m.1 70 18).toInt ∧ (m.1 70 18).toInt < 2) ∧ (((m.1 86 (m.1 70 18).toNatClampNeg).toInt ≤ x1.toInt → ((0 ≤ (m.1 70 18).toInt ∧ (m.1 70 18).toInt < 2) ∧ ((0 ≤ (m.1 70 18).toInt ∧ (m.1 70 18).toInt < 2) ∧ Q (dSet (dSet (dSet m 108 56 (m.1 93 (m.1 70 18).toNatClampNeg)) 70 56 (m.1 94 (m.1 70 18).toNatClampNeg)) 70 57 (0 : Int32))))) ∧ (x1.toInt < (m.1 86 (m.1 70 18).toNatClampNeg).toInt → ((0 ≤ ((47 : Int32) + x1).toInt ∧ ((47 : Int32) + x1).toInt < 58) ∧ j_X12_begins_70_64 (d + 1) (x1 + (1 : Int32)) (dSet m 108 ((47 : Int32) + x1).toNatClampNeg (1 : Int32)) Q))))) : j_X12_begins_70_64 (d + 1) x1 m Q := by
  refine w_iload_n (q := 65) hm42 ⟨⟨_, _, rfl⟩, rfl⟩ rfl ?_
  refine w_aload_n (q := 66) hm42 ⟨⟨_, _, rfl⟩, rfl⟩ rfl ?_
  refine w_getr (q := 69) hm42 ⟨⟨_, _, rfl⟩, rfl⟩ rfl ?_
  refine w_aload_n (q := 70) hm42 ⟨⟨_, _, rfl⟩, rfl⟩ rfl ?_
  refine w_getf (q := 73) (v := (m.1 70 18)) hm42 ⟨⟨_, _, rfl⟩, rfl⟩ rfl rfl ?_
  obtain ⟨hi, h⟩ := h
  refine w_iald (q := 74) (v := (m.1 86 (m.1 70 18).toNatClampNeg)) hm42 ⟨⟨_, _, rfl⟩, rfl⟩ rfl hi rfl rfl ?_
  refine w_icmp_ge (q := 77) (X := x1.toInt) (Y := (m.1 86 (m.1 70 18).toNatClampNeg).toInt) hm42 ⟨⟨_, _, rfl⟩, rfl⟩ rfl rfl (fun hc => ?_) (fun hc => ?_)
  · have h := h.1 hc
    refine w_aload_n (q := 94) hm42 ⟨⟨_, _, rfl⟩, rfl⟩ rfl ?_
    refine w_getr (q := 97) hm42 ⟨⟨_, _, rfl⟩, rfl⟩ rfl ?_
    refine w_bipush (q := 99) hm42 ⟨⟨_, _, rfl⟩, rfl⟩ bipush_56 ?_
    refine w_aload_n (q := 100) hm42 ⟨⟨_, _, rfl⟩, rfl⟩ rfl ?_
    refine w_getr (q := 103) hm42 ⟨⟨_, _, rfl⟩, rfl⟩ rfl ?_
    refine w_aload_n (q := 104) hm42 ⟨⟨_, _, rfl⟩, rfl⟩ rfl ?_
    refine w_getf (q := 107) (v := (m.1 70 18)) hm42 ⟨⟨_, _, rfl⟩, rfl⟩ rfl rfl ?_
    obtain ⟨hi, h⟩ := h
    refine w_iald (q := 108) (v := (m.1 93 (m.1 70 18).toNatClampNeg)) hm42 ⟨⟨_, _, rfl⟩, rfl⟩ rfl hi rfl rfl ?_
    refine w_iast (q := 109) (j := 56) hm42 ⟨⟨_, _, rfl⟩, rfl⟩ rfl (by decide) (by decide) rfl ?_
    refine w_aload_n (q := 110) hm42 ⟨⟨_, _, rfl⟩, rfl⟩ rfl ?_
    refine w_aload_n (q := 111) hm42 ⟨⟨_, _, rfl⟩, rfl⟩ rfl ?_
    refine w_getr (q := 114) hm42 ⟨⟨_, _, rfl⟩, rfl⟩ rfl ?_
    refine w_aload_n (q := 115) hm42 ⟨⟨_, _, rfl⟩, rfl⟩ rfl ?_
    refine w_getf (q := 118) (v := (m.1 70 18)) hm42 ⟨⟨_, _, rfl⟩, rfl⟩ rfl rfl ?_
    obtain ⟨hi, h⟩ := h
    refine w_iald (q := 119) (v := (m.1 94 (m.1 70 18).toNatClampNeg)) hm42 ⟨⟨_, _, rfl⟩, rfl⟩ rfl hi rfl rfl ?_
    refine w_putf (q := 122) hm42 ⟨⟨_, _, rfl⟩, rfl⟩ rfl rfl rfl ?_
    refine w_aload_n (q := 123) hm42 ⟨⟨_, _, rfl⟩, rfl⟩ rfl ?_
    refine w_iconst (q := 124) hm42 ⟨⟨_, _, rfl⟩, rfl⟩ iconst_0 ?_
    refine w_putz (q := 127) hm42 ⟨⟨_, _, rfl⟩, rfl⟩ rfl rfl (by decide) rfl ?_
    exact w_retv hm42 ⟨⟨_, _, rfl⟩, rfl⟩ rfl h
  · have h := h.2 hc
    refine w_aload_n (q := 78) hm42 ⟨⟨_, _, rfl⟩, rfl⟩ rfl ?_
    refine w_getr (q := 81) hm42 ⟨⟨_, _, rfl⟩, rfl⟩ rfl ?_
    refine w_bipush (q := 83) hm42 ⟨⟨_, _, rfl⟩, rfl⟩ bipush_47 ?_
    refine w_iload_n (q := 84) hm42 ⟨⟨_, _, rfl⟩, rfl⟩ rfl ?_
    refine w_iadd (q := 85) hm42 ⟨⟨_, _, rfl⟩, rfl⟩ ?_
    refine w_iconst (q := 86) hm42 ⟨⟨_, _, rfl⟩, rfl⟩ iconst_1 ?_
    obtain ⟨hi, h⟩ := h
    refine w_iast (q := 87) hm42 ⟨⟨_, _, rfl⟩, rfl⟩ rfl hi rfl rfl ?_
    refine w_iinc (q := 90) (l' := [oR 70, oI (x1 + (1 : Int32))]) hm42 ⟨⟨_, _, rfl⟩, rfl⟩ rfl rfl rfl iconst_1 rfl ?_
    refine w_goto (q := 64) hm42 ⟨_, _, rfl⟩ ?_
    exact h
theorem v_X12_keepsRow_70 {d : Nat} {m : dM} {Q : dM → Prop} (h : j_X12_keepsRow_70_2 (d + 1) (0 : Int32) m Q) : c_X12_keepsRow_70 (d + 1) m Q := by
  refine w_iconst (q := 1) hm43 ⟨⟨_, _, rfl⟩, rfl⟩ iconst_0 ?_
  refine w_istore_n (q := 2) (l' := [oR 70, oI (0 : Int32)]) hm43 ⟨⟨_, _, rfl⟩, rfl⟩ rfl rfl rfl ?_
  exact h
theorem v_X12_keepsRow_70_2 {d : Nat} {x1 : Int32} {m : dM} {Q : dM → Prop} (h : ((58 ≤ x1.toInt → Q m) ∧ (x1.toInt < 58 → ((0 ≤ x1.toInt ∧ x1.toInt < 58) ∧ ((0 ≤ x1.toInt ∧ x1.toInt < 58) ∧ j_X12_keepsRow_70_2 (d + 1) (x1 + (1 : Int32)) (dSet m 107 x1.toNatClampNeg (m.1 108 x1.toNatClampNeg)) Q))))) : j_X12_keepsRow_70_2 (d + 1) x1 m Q := by
  refine w_iload_n (q := 3) hm43 ⟨⟨_, _, rfl⟩, rfl⟩ rfl ?_
  refine w_bipush (q := 5) hm43 ⟨⟨_, _, rfl⟩, rfl⟩ bipush_58 ?_
  refine w_icmp_ge (q := 8) (X := x1.toInt) (Y := 58) hm43 ⟨⟨_, _, rfl⟩, rfl⟩ rfl (by decide) (fun hc => ?_) (fun hc => ?_)
  · have h := h.1 hc
    exact w_retv hm43 ⟨⟨_, _, rfl⟩, rfl⟩ rfl h
  · have h := h.2 hc
    refine w_aload_n (q := 9) hm43 ⟨⟨_, _, rfl⟩, rfl⟩ rfl ?_
    refine w_getr (q := 12) hm43 ⟨⟨_, _, rfl⟩, rfl⟩ rfl ?_
    refine w_iload_n (q := 13) hm43 ⟨⟨_, _, rfl⟩, rfl⟩ rfl ?_
    refine w_aload_n (q := 14) hm43 ⟨⟨_, _, rfl⟩, rfl⟩ rfl ?_
    refine w_getr (q := 17) hm43 ⟨⟨_, _, rfl⟩, rfl⟩ rfl ?_
    refine w_iload_n (q := 18) hm43 ⟨⟨_, _, rfl⟩, rfl⟩ rfl ?_
    obtain ⟨hi, h⟩ := h
    refine w_iald (q := 19) (v := (m.1 108 x1.toNatClampNeg)) hm43 ⟨⟨_, _, rfl⟩, rfl⟩ rfl hi rfl rfl ?_
    obtain ⟨hi, h⟩ := h
    refine w_iast (q := 20) hm43 ⟨⟨_, _, rfl⟩, rfl⟩ rfl hi rfl rfl ?_
    refine w_iinc (q := 23) (l' := [oR 70, oI (x1 + (1 : Int32))]) hm43 ⟨⟨_, _, rfl⟩, rfl⟩ rfl rfl rfl iconst_1 rfl ?_
    refine w_goto (q := 2) hm43 ⟨_, _, rfl⟩ ?_
    exact h
theorem v_X12_read_70 {d : Nat} {m : dM} {Q : Int32 → dM → Prop} (h : j_X12_read_70_10 (d + 1) (0 : Int32) (dSet m 70 4 (m.1 70 2)) Q) : c_X12_read_70 (d + 1) m Q := by
  refine w_aload_n (q := 1) hm18 ⟨⟨_, _, rfl⟩, rfl⟩ rfl ?_
  refine w_aload_n (q := 2) hm18 ⟨⟨_, _, rfl⟩, rfl⟩ rfl ?_
  refine w_getf (q := 5) (v := (m.1 70 2)) hm18 ⟨⟨_, _, rfl⟩, rfl⟩ rfl rfl ?_
  refine w_putf (q := 8) hm18 ⟨⟨_, _, rfl⟩, rfl⟩ rfl rfl rfl ?_
  refine w_iconst (q := 9) hm18 ⟨⟨_, _, rfl⟩, rfl⟩ iconst_0 ?_
  refine w_istore_n (q := 10) (l' := [oR 70, oI (0 : Int32)]) hm18 ⟨⟨_, _, rfl⟩, rfl⟩ rfl rfl rfl ?_
  exact h
theorem v_X12_read_70_10 {d : Nat} {x1 : Int32} {m : dM} {Q : Int32 → dM → Prop} (h : (((m.1 70 4).toInt ≤ x1.toInt → c_X12_cutsUp_70 d (dSet m 70 2 (0 : Int32)) (fun m1 => c_X12_plain_70 d ((1 : Int32) - (m1.1 70 18)) (dSet (dSet (dSet (dSet (dSet (dSet m1 70 11 (0 : Int32)) 70 12 (0 : Int32)) 70 13 (0 : Int32)) 70 15 (0 : Int32)) 70 19 ((1 : Int32) - (m1.1 70 18))) 70 20 (0 : Int32)) (fun m2 => j_X12_read_70_112 (d + 1) (dSet (dSet m2 70 40 ((130 : Int32) * (m2.1 70 19))) 70 46 ((420 : Int32) * (m2.1 70 19))) Q))) ∧ (x1.toInt < (m.1 70 4).toInt → ((0 ≤ x1.toInt ∧ x1.toInt < 2000) ∧ ((0 ≤ x1.toInt ∧ x1.toInt < 2000) ∧ j_X12_read_70_10 (d + 1) (x1 + (1 : Int32)) (dSet m 72 x1.toNatClampNeg (m.1 71 x1.toNatClampNeg).toInt8.toInt32) Q))))) : j_X12_read_70_10 (d + 1) x1 m Q := by
  refine w_iload_n (q := 11) hm18 ⟨⟨_, _, rfl⟩, rfl⟩ rfl ?_
  refine w_aload_n (q := 12) hm18 ⟨⟨_, _, rfl⟩, rfl⟩ rfl ?_
  refine w_getf (q := 15) (v := (m.1 70 4)) hm18 ⟨⟨_, _, rfl⟩, rfl⟩ rfl rfl ?_
  refine w_icmp_ge (q := 18) (X := x1.toInt) (Y := (m.1 70 4).toInt) hm18 ⟨⟨_, _, rfl⟩, rfl⟩ rfl rfl (fun hc => ?_) (fun hc => ?_)
  · have h := h.1 hc
    refine w_aload_n (q := 37) hm18 ⟨⟨_, _, rfl⟩, rfl⟩ rfl ?_
    refine w_iconst (q := 38) hm18 ⟨⟨_, _, rfl⟩, rfl⟩ iconst_0 ?_
    refine w_putf (q := 41) hm18 ⟨⟨_, _, rfl⟩, rfl⟩ rfl rfl rfl ?_
    refine w_aload_n (q := 42) hm18 ⟨⟨_, _, rfl⟩, rfl⟩ rfl ?_
    refine w_call (q := 45) (n := 7) (vs := [.inr (.inr (some 70))]) (rest := []) (la := [oR 70, none, none, none, none, none, none, none]) hm18 ⟨⟨_, _, rfl⟩, rfl⟩ rfl rfl rfl rfl hm10 rfl rfl (fun _ => ⟨_, _, rfl, rfl⟩) rfl (Wp.mono h ?_)
    rintro _ m1 ⟨rfl, h⟩
    change Wp _ _ 45 _ [] _ _
    refine w_aload_n (q := 46) hm18 ⟨⟨_, _, rfl⟩, rfl⟩ rfl ?_
    refine w_iconst (q := 47) hm18 ⟨⟨_, _, rfl⟩, rfl⟩ iconst_0 ?_
    refine w_putf (q := 50) hm18 ⟨⟨_, _, rfl⟩, rfl⟩ rfl rfl rfl ?_
    refine w_aload_n (q := 51) hm18 ⟨⟨_, _, rfl⟩, rfl⟩ rfl ?_
    refine w_iconst (q := 52) hm18 ⟨⟨_, _, rfl⟩, rfl⟩ iconst_0 ?_
    refine w_putf (q := 55) hm18 ⟨⟨_, _, rfl⟩, rfl⟩ rfl rfl rfl ?_
    refine w_aload_n (q := 56) hm18 ⟨⟨_, _, rfl⟩, rfl⟩ rfl ?_
    refine w_iconst (q := 57) hm18 ⟨⟨_, _, rfl⟩, rfl⟩ iconst_0 ?_
    refine w_putf (q := 60) hm18 ⟨⟨_, _, rfl⟩, rfl⟩ rfl rfl rfl ?_
    refine w_aload_n (q := 61) hm18 ⟨⟨_, _, rfl⟩, rfl⟩ rfl ?_
    refine w_iconst (q := 62) hm18 ⟨⟨_, _, rfl⟩, rfl⟩ iconst_0 ?_
    refine w_putf (q := 65) hm18 ⟨⟨_, _, rfl⟩, rfl⟩ rfl rfl rfl ?_
    refine w_aload_n (q := 66) hm18 ⟨⟨_, _, rfl⟩, rfl⟩ rfl ?_
    refine w_iconst (q := 67) hm18 ⟨⟨_, _, rfl⟩, rfl⟩ iconst_1 ?_
    refine w_aload_n (q := 68) hm18 ⟨⟨_, _, rfl⟩, rfl⟩ rfl ?_
    refine w_getf (q := 71) (v := (m1.1 70 18)) hm18 ⟨⟨_, _, rfl⟩, rfl⟩ rfl rfl ?_
    refine w_isub (q := 72) hm18 ⟨⟨_, _, rfl⟩, rfl⟩ ?_
    refine w_putf (q := 75) hm18 ⟨⟨_, _, rfl⟩, rfl⟩ rfl rfl rfl ?_
    refine w_aload_n (q := 76) hm18 ⟨⟨_, _, rfl⟩, rfl⟩ rfl ?_
    refine w_iconst (q := 77) hm18 ⟨⟨_, _, rfl⟩, rfl⟩ iconst_0 ?_
    refine w_putf (q := 80) hm18 ⟨⟨_, _, rfl⟩, rfl⟩ rfl rfl rfl ?_
    refine w_aload_n (q := 81) hm18 ⟨⟨_, _, rfl⟩, rfl⟩ rfl ?_
    refine w_aload_n (q := 82) hm18 ⟨⟨_, _, rfl⟩, rfl⟩ rfl ?_
    refine w_getf (q := 85) (v := ((1 : Int32) - (m1.1 70 18))) hm18 ⟨⟨_, _, rfl⟩, rfl⟩ rfl rfl ?_
    refine w_call (q := 88) (n := 1) (vs := [.inr (.inr (some 70)), .inl ((1 : Int32) - (m1.1 70 18))]) (rest := []) (la := [oR 70, oI ((1 : Int32) - (m1.1 70 18)), none]) hm18 ⟨⟨_, _, rfl⟩, rfl⟩ rfl rfl rfl rfl hm17 rfl rfl (fun _ => ⟨_, _, rfl, rfl⟩) rfl (Wp.mono h ?_)
    rintro _ m2 ⟨rfl, h⟩
    change Wp _ _ 88 _ [] _ _
    refine w_aload_n (q := 89) hm18 ⟨⟨_, _, rfl⟩, rfl⟩ rfl ?_
    refine w_sipush (q := 92) hm18 ⟨⟨_, _, rfl⟩, rfl⟩ sipush_130 ?_
    refine w_aload_n (q := 93) hm18 ⟨⟨_, _, rfl⟩, rfl⟩ rfl ?_
    refine w_getf (q := 96) (v := (m2.1 70 19)) hm18 ⟨⟨_, _, rfl⟩, rfl⟩ rfl rfl ?_
    refine w_imul (q := 97) hm18 ⟨⟨_, _, rfl⟩, rfl⟩ ?_
    refine w_putf (q := 100) hm18 ⟨⟨_, _, rfl⟩, rfl⟩ rfl rfl rfl ?_
    refine w_aload_n (q := 101) hm18 ⟨⟨_, _, rfl⟩, rfl⟩ rfl ?_
    refine w_sipush (q := 104) hm18 ⟨⟨_, _, rfl⟩, rfl⟩ sipush_420 ?_
    refine w_aload_n (q := 105) hm18 ⟨⟨_, _, rfl⟩, rfl⟩ rfl ?_
    refine w_getf (q := 108) (v := (m2.1 70 19)) hm18 ⟨⟨_, _, rfl⟩, rfl⟩ rfl rfl ?_
    refine w_imul (q := 109) hm18 ⟨⟨_, _, rfl⟩, rfl⟩ ?_
    refine w_putf (q := 112) hm18 ⟨⟨_, _, rfl⟩, rfl⟩ rfl rfl rfl ?_
    exact Wp.wk [true, false] h
  · have h := h.2 hc
    refine w_aload_n (q := 19) hm18 ⟨⟨_, _, rfl⟩, rfl⟩ rfl ?_
    refine w_getr (q := 22) hm18 ⟨⟨_, _, rfl⟩, rfl⟩ rfl ?_
    refine w_iload_n (q := 23) hm18 ⟨⟨_, _, rfl⟩, rfl⟩ rfl ?_
    refine w_aload_n (q := 24) hm18 ⟨⟨_, _, rfl⟩, rfl⟩ rfl ?_
    refine w_getr (q := 27) hm18 ⟨⟨_, _, rfl⟩, rfl⟩ rfl ?_
    refine w_iload_n (q := 28) hm18 ⟨⟨_, _, rfl⟩, rfl⟩ rfl ?_
    obtain ⟨hi, h⟩ := h
    refine w_bald (q := 29) (v := (m.1 71 x1.toNatClampNeg)) hm18 ⟨⟨_, _, rfl⟩, rfl⟩ rfl hi rfl rfl ?_
    obtain ⟨hi, h⟩ := h
    refine w_bast (q := 30) hm18 ⟨⟨_, _, rfl⟩, rfl⟩ rfl hi rfl rfl ?_
    refine w_iinc (q := 33) (l' := [oR 70, oI (x1 + (1 : Int32))]) hm18 ⟨⟨_, _, rfl⟩, rfl⟩ rfl rfl rfl iconst_1 rfl ?_
    refine w_goto (q := 10) hm18 ⟨_, _, rfl⟩ ?_
    exact h
theorem v_X12_read_70_112 {d : Nat} {m : dM} {Q : Int32 → dM → Prop} (h : (((m.1 70 13).toInt ≠ 0 → j_X12_read_70_134 (d + 1) m Q) ∧ ((m.1 70 13).toInt = 0 → c_X12_is_70 d (0 : Int32) m (fun r1 m1 => ((r1.toInt ≠ 0 → j_X12_read_70_134 (d + 1) m1 Q) ∧ (r1.toInt = 0 → c_X12_tellOne_70 d m1 (fun m2 => j_X12_read_70_112 (d + 1) m2 Q))))))) : j_X12_read_70_112 (d + 1) m Q := by
  refine w_aload_n (q := 113) hm18 ⟨⟨_, _, rfl⟩, rfl⟩ rfl ?_
  refine w_getf (q := 116) (v := (m.1 70 13)) hm18 ⟨⟨_, _, rfl⟩, rfl⟩ rfl rfl ?_
  refine w_if_ne (q := 119) (X := (m.1 70 13).toInt) hm18 ⟨⟨_, _, rfl⟩, rfl⟩ rfl (fun hc => ?_) (fun hc => ?_)
  · have h := h.1 hc
    exact h
  · have h := h.2 hc
    refine w_aload_n (q := 120) hm18 ⟨⟨_, _, rfl⟩, rfl⟩ rfl ?_
    refine w_iconst (q := 121) hm18 ⟨⟨_, _, rfl⟩, rfl⟩ iconst_0 ?_
    refine w_call (q := 124) (n := 0) (vs := [.inr (.inr (some 70)), .inl (0 : Int32)]) (rest := []) (la := [oR 70, oI (0 : Int32)]) hm18 ⟨⟨_, _, rfl⟩, rfl⟩ rfl rfl rfl rfl hm12 rfl rfl (fun _ => ⟨_, _, rfl, rfl⟩) rfl (Wp.mono h ?_)
    rintro _ m1 ⟨r1, rfl, h⟩
    change Wp _ _ 124 _ [.inl r1] _ _
    refine w_if_ne (q := 127) (X := r1.toInt) hm18 ⟨⟨_, _, rfl⟩, rfl⟩ rfl (fun hc => ?_) (fun hc => ?_)
    · have h := h.1 hc
      exact h
    · have h := h.2 hc
      refine w_aload_n (q := 128) hm18 ⟨⟨_, _, rfl⟩, rfl⟩ rfl ?_
      refine w_call (q := 131) (n := 1) (vs := [.inr (.inr (some 70))]) (rest := []) (la := [oR 70, none]) hm18 ⟨⟨_, _, rfl⟩, rfl⟩ rfl rfl rfl rfl hm21 rfl rfl (fun _ => ⟨_, _, rfl, rfl⟩) rfl (Wp.mono h ?_)
      rintro _ m2 ⟨rfl, h⟩
      change Wp _ _ 131 _ [] _ _
      refine w_goto (q := 112) hm18 ⟨_, _, rfl⟩ ?_
      exact h
theorem v_X12_read_70_134 {d : Nat} {m : dM} {Q : Int32 → dM → Prop} (h : (((m.1 70 13).toInt ≤ 0 → (((m.1 70 15).toInt ≤ 0 → (((m.1 70 13).toInt ≤ 0 → (((m.1 70 15).toInt ≤ 0 → c_X12_begins_70 d (dSet (dSet m 70 17 (-1 : Int32)) 70 18 (m.1 70 19)) (fun m1 => c_X12_keepsRow_70 d m1 (fun m2 => j_X12_read_70_219 (d + 1) (0 : Int32) (dSet (dSet m2 70 61 (0 : Int32)) 70 63 (0 : Int32)) Q))) ∧ (0 < (m.1 70 15).toInt → Q (m.1 70 15) (dSet m 70 17 (-1 : Int32))))) ∧ (0 < (m.1 70 13).toInt → Q (m.1 70 13) (dSet m 70 17 (-1 : Int32))))) ∧ (0 < (m.1 70 15).toInt → (((m.1 70 13).toInt ≤ 0 → (((m.1 70 15).toInt ≤ 0 → c_X12_begins_70 d (dSet (dSet m 70 17 (m.1 70 16)) 70 18 (m.1 70 19)) (fun m3 => c_X12_keepsRow_70 d m3 (fun m4 => j_X12_read_70_219 (d + 1) (0 : Int32) (dSet (dSet m4 70 61 (0 : Int32)) 70 63 (0 : Int32)) Q))) ∧ (0 < (m.1 70 15).toInt → Q (m.1 70 15) (dSet m 70 17 (m.1 70 16))))) ∧ (0 < (m.1 70 13).toInt → Q (m.1 70 13) (dSet m 70 17 (m.1 70 16))))))) ∧ (0 < (m.1 70 13).toInt → (((m.1 70 13).toInt ≤ 0 → (((m.1 70 15).toInt ≤ 0 → c_X12_begins_70 d (dSet (dSet m 70 17 (m.1 70 14)) 70 18 (m.1 70 19)) (fun m5 => c_X12_keepsRow_70 d m5 (fun m6 => j_X12_read_70_219 (d + 1) (0 : Int32) (dSet (dSet m6 70 61 (0 : Int32)) 70 63 (0 : Int32)) Q))) ∧ (0 < (m.1 70 15).toInt → Q (m.1 70 15) (dSet m 70 17 (m.1 70 14))))) ∧ (0 < (m.1 70 13).toInt → Q (m.1 70 13) (dSet m 70 17 (m.1 70 14))))))) : j_X12_read_70_134 (d + 1) m Q := by
  refine w_aload_n (q := 135) hm18 ⟨⟨_, _, rfl⟩, rfl⟩ rfl ?_
  refine w_aload_n (q := 136) hm18 ⟨⟨_, _, rfl⟩, rfl⟩ rfl ?_
  refine w_getf (q := 139) (v := (m.1 70 13)) hm18 ⟨⟨_, _, rfl⟩, rfl⟩ rfl rfl ?_
  refine w_if_le (q := 142) (X := (m.1 70 13).toInt) hm18 ⟨⟨_, _, rfl⟩, rfl⟩ rfl (fun hc => ?_) (fun hc => ?_)
  · have h := h.1 hc
    refine w_aload_n (q := 150) hm18 ⟨⟨_, _, rfl⟩, rfl⟩ rfl ?_
    refine w_getf (q := 153) (v := (m.1 70 15)) hm18 ⟨⟨_, _, rfl⟩, rfl⟩ rfl rfl ?_
    refine w_if_le (q := 156) (X := (m.1 70 15).toInt) hm18 ⟨⟨_, _, rfl⟩, rfl⟩ rfl (fun hc => ?_) (fun hc => ?_)
    · have h := h.1 hc
      refine w_iconst (q := 164) hm18 ⟨⟨_, _, rfl⟩, rfl⟩ iconst_m1 ?_
      refine w_putf (q := 167) hm18 ⟨⟨_, _, rfl⟩, rfl⟩ rfl rfl rfl ?_
      refine w_aload_n (q := 168) hm18 ⟨⟨_, _, rfl⟩, rfl⟩ rfl ?_
      refine w_getf (q := 171) (v := (m.1 70 13)) hm18 ⟨⟨_, _, rfl⟩, rfl⟩ rfl rfl ?_
      refine w_if_le (q := 174) (X := (m.1 70 13).toInt) hm18 ⟨⟨_, _, rfl⟩, rfl⟩ rfl (fun hc => ?_) (fun hc => ?_)
      · have h := h.1 hc
        refine w_aload_n (q := 180) hm18 ⟨⟨_, _, rfl⟩, rfl⟩ rfl ?_
        refine w_getf (q := 183) (v := (m.1 70 15)) hm18 ⟨⟨_, _, rfl⟩, rfl⟩ rfl rfl ?_
        refine w_if_le (q := 186) (X := (m.1 70 15).toInt) hm18 ⟨⟨_, _, rfl⟩, rfl⟩ rfl (fun hc => ?_) (fun hc => ?_)
        · have h := h.1 hc
          refine w_aload_n (q := 192) hm18 ⟨⟨_, _, rfl⟩, rfl⟩ rfl ?_
          refine w_aload_n (q := 193) hm18 ⟨⟨_, _, rfl⟩, rfl⟩ rfl ?_
          refine w_getf (q := 196) (v := (m.1 70 19)) hm18 ⟨⟨_, _, rfl⟩, rfl⟩ rfl rfl ?_
          refine w_putf (q := 199) hm18 ⟨⟨_, _, rfl⟩, rfl⟩ rfl rfl rfl ?_
          refine w_aload_n (q := 200) hm18 ⟨⟨_, _, rfl⟩, rfl⟩ rfl ?_
          refine w_call (q := 203) (n := 1) (vs := [.inr (.inr (some 70))]) (rest := []) (la := [oR 70, none]) hm18 ⟨⟨_, _, rfl⟩, rfl⟩ rfl rfl rfl rfl hm42 rfl rfl (fun _ => ⟨_, _, rfl, rfl⟩) rfl (Wp.mono h ?_)
          rintro _ m1 ⟨rfl, h⟩
          change Wp _ _ 203 _ [] _ _
          refine w_aload_n (q := 204) hm18 ⟨⟨_, _, rfl⟩, rfl⟩ rfl ?_
          refine w_call (q := 207) (n := 1) (vs := [.inr (.inr (some 70))]) (rest := []) (la := [oR 70, none]) hm18 ⟨⟨_, _, rfl⟩, rfl⟩ rfl rfl rfl rfl hm43 rfl rfl (fun _ => ⟨_, _, rfl, rfl⟩) rfl (Wp.mono h ?_)
          rintro _ m2 ⟨rfl, h⟩
          change Wp _ _ 207 _ [] _ _
          refine w_aload_n (q := 208) hm18 ⟨⟨_, _, rfl⟩, rfl⟩ rfl ?_
          refine w_iconst (q := 209) hm18 ⟨⟨_, _, rfl⟩, rfl⟩ iconst_0 ?_
          refine w_putf (q := 212) hm18 ⟨⟨_, _, rfl⟩, rfl⟩ rfl rfl rfl ?_
          refine w_aload_n (q := 213) hm18 ⟨⟨_, _, rfl⟩, rfl⟩ rfl ?_
          refine w_iconst (q := 214) hm18 ⟨⟨_, _, rfl⟩, rfl⟩ iconst_0 ?_
          refine w_putf (q := 217) hm18 ⟨⟨_, _, rfl⟩, rfl⟩ rfl rfl rfl ?_
          refine w_iconst (q := 218) hm18 ⟨⟨_, _, rfl⟩, rfl⟩ iconst_0 ?_
          refine w_istore_n (q := 219) (l' := [oR 70, oI (0 : Int32)]) hm18 ⟨⟨_, _, rfl⟩, rfl⟩ rfl rfl rfl ?_
          exact h
        · have h := h.2 hc
          refine w_aload_n (q := 187) hm18 ⟨⟨_, _, rfl⟩, rfl⟩ rfl ?_
          refine w_getf (q := 190) (v := (m.1 70 15)) hm18 ⟨⟨_, _, rfl⟩, rfl⟩ rfl rfl ?_
          exact w_reti hm18 ⟨⟨_, _, rfl⟩, rfl⟩ rfl h
      · have h := h.2 hc
        refine w_aload_n (q := 175) hm18 ⟨⟨_, _, rfl⟩, rfl⟩ rfl ?_
        refine w_getf (q := 178) (v := (m.1 70 13)) hm18 ⟨⟨_, _, rfl⟩, rfl⟩ rfl rfl ?_
        exact w_reti hm18 ⟨⟨_, _, rfl⟩, rfl⟩ rfl h
    · have h := h.2 hc
      refine w_aload_n (q := 157) hm18 ⟨⟨_, _, rfl⟩, rfl⟩ rfl ?_
      refine w_getf (q := 160) (v := (m.1 70 16)) hm18 ⟨⟨_, _, rfl⟩, rfl⟩ rfl rfl ?_
      refine w_goto (q := 164) hm18 ⟨_, _, rfl⟩ ?_
      refine w_putf (q := 167) hm18 ⟨⟨_, _, rfl⟩, rfl⟩ rfl rfl rfl ?_
      refine w_aload_n (q := 168) hm18 ⟨⟨_, _, rfl⟩, rfl⟩ rfl ?_
      refine w_getf (q := 171) (v := (m.1 70 13)) hm18 ⟨⟨_, _, rfl⟩, rfl⟩ rfl rfl ?_
      refine w_if_le (q := 174) (X := (m.1 70 13).toInt) hm18 ⟨⟨_, _, rfl⟩, rfl⟩ rfl (fun hc => ?_) (fun hc => ?_)
      · have h := h.1 hc
        refine w_aload_n (q := 180) hm18 ⟨⟨_, _, rfl⟩, rfl⟩ rfl ?_
        refine w_getf (q := 183) (v := (m.1 70 15)) hm18 ⟨⟨_, _, rfl⟩, rfl⟩ rfl rfl ?_
        refine w_if_le (q := 186) (X := (m.1 70 15).toInt) hm18 ⟨⟨_, _, rfl⟩, rfl⟩ rfl (fun hc => ?_) (fun hc => ?_)
        · have h := h.1 hc
          refine w_aload_n (q := 192) hm18 ⟨⟨_, _, rfl⟩, rfl⟩ rfl ?_
          refine w_aload_n (q := 193) hm18 ⟨⟨_, _, rfl⟩, rfl⟩ rfl ?_
          refine w_getf (q := 196) (v := (m.1 70 19)) hm18 ⟨⟨_, _, rfl⟩, rfl⟩ rfl rfl ?_
          refine w_putf (q := 199) hm18 ⟨⟨_, _, rfl⟩, rfl⟩ rfl rfl rfl ?_
          refine w_aload_n (q := 200) hm18 ⟨⟨_, _, rfl⟩, rfl⟩ rfl ?_
          refine w_call (q := 203) (n := 1) (vs := [.inr (.inr (some 70))]) (rest := []) (la := [oR 70, none]) hm18 ⟨⟨_, _, rfl⟩, rfl⟩ rfl rfl rfl rfl hm42 rfl rfl (fun _ => ⟨_, _, rfl, rfl⟩) rfl (Wp.mono h ?_)
          rintro _ m3 ⟨rfl, h⟩
          change Wp _ _ 203 _ [] _ _
          refine w_aload_n (q := 204) hm18 ⟨⟨_, _, rfl⟩, rfl⟩ rfl ?_
          refine w_call (q := 207) (n := 1) (vs := [.inr (.inr (some 70))]) (rest := []) (la := [oR 70, none]) hm18 ⟨⟨_, _, rfl⟩, rfl⟩ rfl rfl rfl rfl hm43 rfl rfl (fun _ => ⟨_, _, rfl, rfl⟩) rfl (Wp.mono h ?_)
          rintro _ m4 ⟨rfl, h⟩
          change Wp _ _ 207 _ [] _ _
          refine w_aload_n (q := 208) hm18 ⟨⟨_, _, rfl⟩, rfl⟩ rfl ?_
          refine w_iconst (q := 209) hm18 ⟨⟨_, _, rfl⟩, rfl⟩ iconst_0 ?_
          refine w_putf (q := 212) hm18 ⟨⟨_, _, rfl⟩, rfl⟩ rfl rfl rfl ?_
          refine w_aload_n (q := 213) hm18 ⟨⟨_, _, rfl⟩, rfl⟩ rfl ?_
          refine w_iconst (q := 214) hm18 ⟨⟨_, _, rfl⟩, rfl⟩ iconst_0 ?_
          refine w_putf (q := 217) hm18 ⟨⟨_, _, rfl⟩, rfl⟩ rfl rfl rfl ?_
          refine w_iconst (q := 218) hm18 ⟨⟨_, _, rfl⟩, rfl⟩ iconst_0 ?_
          refine w_istore_n (q := 219) (l' := [oR 70, oI (0 : Int32)]) hm18 ⟨⟨_, _, rfl⟩, rfl⟩ rfl rfl rfl ?_
          exact h
        · have h := h.2 hc
          refine w_aload_n (q := 187) hm18 ⟨⟨_, _, rfl⟩, rfl⟩ rfl ?_
          refine w_getf (q := 190) (v := (m.1 70 15)) hm18 ⟨⟨_, _, rfl⟩, rfl⟩ rfl rfl ?_
          exact w_reti hm18 ⟨⟨_, _, rfl⟩, rfl⟩ rfl h
      · have h := h.2 hc
        refine w_aload_n (q := 175) hm18 ⟨⟨_, _, rfl⟩, rfl⟩ rfl ?_
        refine w_getf (q := 178) (v := (m.1 70 13)) hm18 ⟨⟨_, _, rfl⟩, rfl⟩ rfl rfl ?_
        exact w_reti hm18 ⟨⟨_, _, rfl⟩, rfl⟩ rfl h
  · have h := h.2 hc
    refine w_aload_n (q := 143) hm18 ⟨⟨_, _, rfl⟩, rfl⟩ rfl ?_
    refine w_getf (q := 146) (v := (m.1 70 14)) hm18 ⟨⟨_, _, rfl⟩, rfl⟩ rfl rfl ?_
    refine w_goto (q := 164) hm18 ⟨_, _, rfl⟩ ?_
    refine w_putf (q := 167) hm18 ⟨⟨_, _, rfl⟩, rfl⟩ rfl rfl rfl ?_
    refine w_aload_n (q := 168) hm18 ⟨⟨_, _, rfl⟩, rfl⟩ rfl ?_
    refine w_getf (q := 171) (v := (m.1 70 13)) hm18 ⟨⟨_, _, rfl⟩, rfl⟩ rfl rfl ?_
    refine w_if_le (q := 174) (X := (m.1 70 13).toInt) hm18 ⟨⟨_, _, rfl⟩, rfl⟩ rfl (fun hc => ?_) (fun hc => ?_)
    · have h := h.1 hc
      refine w_aload_n (q := 180) hm18 ⟨⟨_, _, rfl⟩, rfl⟩ rfl ?_
      refine w_getf (q := 183) (v := (m.1 70 15)) hm18 ⟨⟨_, _, rfl⟩, rfl⟩ rfl rfl ?_
      refine w_if_le (q := 186) (X := (m.1 70 15).toInt) hm18 ⟨⟨_, _, rfl⟩, rfl⟩ rfl (fun hc => ?_) (fun hc => ?_)
      · have h := h.1 hc
        refine w_aload_n (q := 192) hm18 ⟨⟨_, _, rfl⟩, rfl⟩ rfl ?_
        refine w_aload_n (q := 193) hm18 ⟨⟨_, _, rfl⟩, rfl⟩ rfl ?_
        refine w_getf (q := 196) (v := (m.1 70 19)) hm18 ⟨⟨_, _, rfl⟩, rfl⟩ rfl rfl ?_
        refine w_putf (q := 199) hm18 ⟨⟨_, _, rfl⟩, rfl⟩ rfl rfl rfl ?_
        refine w_aload_n (q := 200) hm18 ⟨⟨_, _, rfl⟩, rfl⟩ rfl ?_
        refine w_call (q := 203) (n := 1) (vs := [.inr (.inr (some 70))]) (rest := []) (la := [oR 70, none]) hm18 ⟨⟨_, _, rfl⟩, rfl⟩ rfl rfl rfl rfl hm42 rfl rfl (fun _ => ⟨_, _, rfl, rfl⟩) rfl (Wp.mono h ?_)
        rintro _ m5 ⟨rfl, h⟩
        change Wp _ _ 203 _ [] _ _
        refine w_aload_n (q := 204) hm18 ⟨⟨_, _, rfl⟩, rfl⟩ rfl ?_
        refine w_call (q := 207) (n := 1) (vs := [.inr (.inr (some 70))]) (rest := []) (la := [oR 70, none]) hm18 ⟨⟨_, _, rfl⟩, rfl⟩ rfl rfl rfl rfl hm43 rfl rfl (fun _ => ⟨_, _, rfl, rfl⟩) rfl (Wp.mono h ?_)
        rintro _ m6 ⟨rfl, h⟩
        change Wp _ _ 207 _ [] _ _
        refine w_aload_n (q := 208) hm18 ⟨⟨_, _, rfl⟩, rfl⟩ rfl ?_
        refine w_iconst (q := 209) hm18 ⟨⟨_, _, rfl⟩, rfl⟩ iconst_0 ?_
        refine w_putf (q := 212) hm18 ⟨⟨_, _, rfl⟩, rfl⟩ rfl rfl rfl ?_
        refine w_aload_n (q := 213) hm18 ⟨⟨_, _, rfl⟩, rfl⟩ rfl ?_
        refine w_iconst (q := 214) hm18 ⟨⟨_, _, rfl⟩, rfl⟩ iconst_0 ?_
        refine w_putf (q := 217) hm18 ⟨⟨_, _, rfl⟩, rfl⟩ rfl rfl rfl ?_
        refine w_iconst (q := 218) hm18 ⟨⟨_, _, rfl⟩, rfl⟩ iconst_0 ?_
        refine w_istore_n (q := 219) (l' := [oR 70, oI (0 : Int32)]) hm18 ⟨⟨_, _, rfl⟩, rfl⟩ rfl rfl rfl ?_
        exact h
      · have h := h.2 hc
        refine w_aload_n (q := 187) hm18 ⟨⟨_, _, rfl⟩, rfl⟩ rfl ?_
        refine w_getf (q := 190) (v := (m.1 70 15)) hm18 ⟨⟨_, _, rfl⟩, rfl⟩ rfl rfl ?_
        exact w_reti hm18 ⟨⟨_, _, rfl⟩, rfl⟩ rfl h
    · have h := h.2 hc
      refine w_aload_n (q := 175) hm18 ⟨⟨_, _, rfl⟩, rfl⟩ rfl ?_
      refine w_getf (q := 178) (v := (m.1 70 13)) hm18 ⟨⟨_, _, rfl⟩, rfl⟩ rfl rfl ?_
      exact w_reti hm18 ⟨⟨_, _, rfl⟩, rfl⟩ rfl h
theorem v_X12_read_70_219 {d : Nat} {x1 : Int32} {m : dM} {Q : Int32 → dM → Prop} (h : ((3 ≤ x1.toInt → Q (0 : Int32) m) ∧ (x1.toInt < 3 → ((0 ≤ x1.toInt ∧ x1.toInt < 3) ∧ j_X12_read_70_219 (d + 1) (x1 + (1 : Int32)) (dSet m 115 x1.toNatClampNeg (0 : Int32)) Q)))) : j_X12_read_70_219 (d + 1) x1 m Q := by
  refine w_iload_n (q := 220) hm18 ⟨⟨_, _, rfl⟩, rfl⟩ rfl ?_
  refine w_iconst (q := 221) hm18 ⟨⟨_, _, rfl⟩, rfl⟩ iconst_3 ?_
  refine w_icmp_ge (q := 224) (X := x1.toInt) (Y := 3) hm18 ⟨⟨_, _, rfl⟩, rfl⟩ rfl (by decide) (fun hc => ?_) (fun hc => ?_)
  · have h := h.1 hc
    refine w_iconst (q := 238) hm18 ⟨⟨_, _, rfl⟩, rfl⟩ iconst_0 ?_
    exact w_reti hm18 ⟨⟨_, _, rfl⟩, rfl⟩ rfl h
  · have h := h.2 hc
    refine w_aload_n (q := 225) hm18 ⟨⟨_, _, rfl⟩, rfl⟩ rfl ?_
    refine w_getr (q := 228) hm18 ⟨⟨_, _, rfl⟩, rfl⟩ rfl ?_
    refine w_iload_n (q := 229) hm18 ⟨⟨_, _, rfl⟩, rfl⟩ rfl ?_
    refine w_iconst (q := 230) hm18 ⟨⟨_, _, rfl⟩, rfl⟩ iconst_0 ?_
    obtain ⟨hi, h⟩ := h
    refine w_zast (q := 231) hm18 ⟨⟨_, _, rfl⟩, rfl⟩ rfl (by decide) hi rfl rfl ?_
    refine w_iinc (q := 234) (l' := [oR 70, oI (x1 + (1 : Int32))]) hm18 ⟨⟨_, _, rfl⟩, rfl⟩ rfl rfl rfl iconst_1 rfl ?_
    refine w_goto (q := 219) hm18 ⟨_, _, rfl⟩ ?_
    exact h
theorem v_X11_place_0 {d : Nat} {m : dM} {Q : Int32 → dM → Prop} (h : Q (m.1 0 2) m) : c_X11_place_0 (d + 1) m Q := by
  refine w_aload_n (q := 1) hm247 ⟨⟨_, _, rfl⟩, rfl⟩ rfl ?_
  refine w_getf (q := 4) (v := (m.1 0 2)) hm247 ⟨⟨_, _, rfl⟩, rfl⟩ rfl rfl ?_
  exact w_reti hm247 ⟨⟨_, _, rfl⟩, rfl⟩ rfl h
theorem v_X12_place_70 {d : Nat} {m : dM} {Q : Int32 → dM → Prop} (h : Q (m.1 70 17) m) : c_X12_place_70 (d + 1) m Q := by
  refine w_aload_n (q := 1) hm19 ⟨⟨_, _, rfl⟩, rfl⟩ rfl ?_
  refine w_getf (q := 4) (v := (m.1 70 17)) hm19 ⟨⟨_, _, rfl⟩, rfl⟩ rfl rfl ?_
  exact w_reti hm19 ⟨⟨_, _, rfl⟩, rfl⟩ rfl h
theorem v_X11_isFlat_0 {d : Nat} {x1 : Int32} {m : dM} {Q : Int32 → dM → Prop} (h : ((x1.toInt < 0 → j_X11_isFlat_0_19 (d + 1) m Q) ∧ (0 ≤ x1.toInt → (((m.1 2 0).toInt ≤ x1.toInt → j_X11_isFlat_0_19 (d + 1) m Q) ∧ (x1.toInt < (m.1 2 0).toInt → Q (1 : Int32) m))))) : c_X11_isFlat_0 (d + 1) x1 m Q := by
  refine w_iload_n (q := 1) hm248 ⟨⟨_, _, rfl⟩, rfl⟩ rfl ?_
  refine w_if_lt (q := 4) (X := x1.toInt) hm248 ⟨⟨_, _, rfl⟩, rfl⟩ rfl (fun hc => ?_) (fun hc => ?_)
  · have h := h.1 hc
    exact Wp.wk [false, false] h
  · have h := h.2 hc
    refine w_iload_n (q := 5) hm248 ⟨⟨_, _, rfl⟩, rfl⟩ rfl ?_
    refine w_aload_n (q := 6) hm248 ⟨⟨_, _, rfl⟩, rfl⟩ rfl ?_
    refine w_getr (q := 9) hm248 ⟨⟨_, _, rfl⟩, rfl⟩ rfl ?_
    refine w_getf (q := 12) (v := (m.1 2 0)) hm248 ⟨⟨_, _, rfl⟩, rfl⟩ rfl rfl ?_
    refine w_icmp_ge (q := 15) (X := x1.toInt) (Y := (m.1 2 0).toInt) hm248 ⟨⟨_, _, rfl⟩, rfl⟩ rfl rfl (fun hc => ?_) (fun hc => ?_)
    · have h := h.1 hc
      exact Wp.wk [false, false] h
    · have h := h.2 hc
      refine w_iconst (q := 16) hm248 ⟨⟨_, _, rfl⟩, rfl⟩ iconst_1 ?_
      refine w_goto (q := 20) hm248 ⟨_, _, rfl⟩ ?_
      exact w_retz hm248 ⟨⟨_, _, rfl⟩, rfl⟩ rfl (by decide) h
theorem v_X11_isFlat_0_19 {d : Nat} {m : dM} {Q : Int32 → dM → Prop} (h : Q (0 : Int32) m) : j_X11_isFlat_0_19 (d + 1) m Q := by
  refine w_iconst (q := 20) hm248 ⟨⟨_, _, rfl⟩, rfl⟩ iconst_0 ?_
  exact w_retz hm248 ⟨⟨_, _, rfl⟩, rfl⟩ rfl (by decide) h
theorem v_J7_fill_59 {d : Nat} {x1 : Int32} {m : dM} {Q : dM → Prop} (h : j_J7_fill_59_5 (d + 1) x1 (0 : Int32) (7 : Int32) m Q) : c_J7_fill_59 (d + 1) x1 m Q := by
  refine w_iconst (q := 1) hm286 ⟨⟨_, _, rfl⟩, rfl⟩ iconst_0 ?_
  refine w_istore_n (q := 2) (l' := [oR 59, oI x1, oI (0 : Int32), none]) hm286 ⟨⟨_, _, rfl⟩, rfl⟩ rfl rfl rfl ?_
  refine w_aload_n (q := 3) hm286 ⟨⟨_, _, rfl⟩, rfl⟩ rfl ?_
  refine w_alen (q := 4) hm286 ⟨⟨_, _, rfl⟩, rfl⟩ rfl alen_7 ?_
  refine w_istore_n (q := 5) (l' := [oR 59, oI x1, oI (0 : Int32), oI (7 : Int32)]) hm286 ⟨⟨_, _, rfl⟩, rfl⟩ rfl rfl rfl ?_
  exact h
theorem v_J7_fill_59_5 {d : Nat} {x1 : Int32} {x2 : Int32} {x3 : Int32} {m : dM} {Q : dM → Prop} (h : ((x3.toInt ≤ x2.toInt → Q m) ∧ (x2.toInt < x3.toInt → ((0 ≤ x2.toInt ∧ x2.toInt < 7) ∧ j_J7_fill_59_5 (d + 1) x1 (x2 + (1 : Int32)) x3 (dSet m 59 x2.toNatClampNeg x1) Q)))) : j_J7_fill_59_5 (d + 1) x1 x2 x3 m Q := by
  refine w_iload_n (q := 6) hm286 ⟨⟨_, _, rfl⟩, rfl⟩ rfl ?_
  refine w_iload_n (q := 7) hm286 ⟨⟨_, _, rfl⟩, rfl⟩ rfl ?_
  refine w_icmp_ge (q := 10) (X := x2.toInt) (Y := x3.toInt) hm286 ⟨⟨_, _, rfl⟩, rfl⟩ rfl rfl (fun hc => ?_) (fun hc => ?_)
  · have h := h.1 hc
    exact w_retv hm286 ⟨⟨_, _, rfl⟩, rfl⟩ rfl h
  · have h := h.2 hc
    refine w_aload_n (q := 11) hm286 ⟨⟨_, _, rfl⟩, rfl⟩ rfl ?_
    refine w_iload_n (q := 12) hm286 ⟨⟨_, _, rfl⟩, rfl⟩ rfl ?_
    refine w_iload_n (q := 13) hm286 ⟨⟨_, _, rfl⟩, rfl⟩ rfl ?_
    obtain ⟨hi, h⟩ := h
    refine w_iast (q := 14) hm286 ⟨⟨_, _, rfl⟩, rfl⟩ rfl hi rfl rfl ?_
    refine w_iinc (q := 17) (l' := [oR 59, oI x1, oI (x2 + (1 : Int32)), oI x3]) hm286 ⟨⟨_, _, rfl⟩, rfl⟩ rfl rfl rfl iconst_1 rfl ?_
    refine w_goto (q := 5) hm286 ⟨_, _, rfl⟩ ?_
    exact h
theorem v_J7_fill_60 {d : Nat} {x1 : Int32} {m : dM} {Q : dM → Prop} (h : j_J7_fill_60_5 (d + 1) x1 (0 : Int32) (7 : Int32) m Q) : c_J7_fill_60 (d + 1) x1 m Q := by
  refine w_iconst (q := 1) hm286 ⟨⟨_, _, rfl⟩, rfl⟩ iconst_0 ?_
  refine w_istore_n (q := 2) (l' := [oR 60, oI x1, oI (0 : Int32), none]) hm286 ⟨⟨_, _, rfl⟩, rfl⟩ rfl rfl rfl ?_
  refine w_aload_n (q := 3) hm286 ⟨⟨_, _, rfl⟩, rfl⟩ rfl ?_
  refine w_alen (q := 4) hm286 ⟨⟨_, _, rfl⟩, rfl⟩ rfl alen_7 ?_
  refine w_istore_n (q := 5) (l' := [oR 60, oI x1, oI (0 : Int32), oI (7 : Int32)]) hm286 ⟨⟨_, _, rfl⟩, rfl⟩ rfl rfl rfl ?_
  exact h
theorem v_J7_fill_60_5 {d : Nat} {x1 : Int32} {x2 : Int32} {x3 : Int32} {m : dM} {Q : dM → Prop} (h : ((x3.toInt ≤ x2.toInt → Q m) ∧ (x2.toInt < x3.toInt → ((0 ≤ x2.toInt ∧ x2.toInt < 7) ∧ j_J7_fill_60_5 (d + 1) x1 (x2 + (1 : Int32)) x3 (dSet m 60 x2.toNatClampNeg x1) Q)))) : j_J7_fill_60_5 (d + 1) x1 x2 x3 m Q := by
  refine w_iload_n (q := 6) hm286 ⟨⟨_, _, rfl⟩, rfl⟩ rfl ?_
  refine w_iload_n (q := 7) hm286 ⟨⟨_, _, rfl⟩, rfl⟩ rfl ?_
  refine w_icmp_ge (q := 10) (X := x2.toInt) (Y := x3.toInt) hm286 ⟨⟨_, _, rfl⟩, rfl⟩ rfl rfl (fun hc => ?_) (fun hc => ?_)
  · have h := h.1 hc
    exact w_retv hm286 ⟨⟨_, _, rfl⟩, rfl⟩ rfl h
  · have h := h.2 hc
    refine w_aload_n (q := 11) hm286 ⟨⟨_, _, rfl⟩, rfl⟩ rfl ?_
    refine w_iload_n (q := 12) hm286 ⟨⟨_, _, rfl⟩, rfl⟩ rfl ?_
    refine w_iload_n (q := 13) hm286 ⟨⟨_, _, rfl⟩, rfl⟩ rfl ?_
    obtain ⟨hi, h⟩ := h
    refine w_iast (q := 14) hm286 ⟨⟨_, _, rfl⟩, rfl⟩ rfl hi rfl rfl ?_
    refine w_iinc (q := 17) (l' := [oR 60, oI x1, oI (x2 + (1 : Int32)), oI x3]) hm286 ⟨⟨_, _, rfl⟩, rfl⟩ rfl rfl rfl iconst_1 rfl ?_
    refine w_goto (q := 5) hm286 ⟨_, _, rfl⟩ ?_
    exact h
theorem v_X11_has {d : Nat} {x0 : Int32} {x1 : Int32} {m : dM} {Q : Int32 → dM → Prop} (h : ((((x0.toUInt32 >>> (x1.toUInt32 &&& Int32.toUInt32 31)).toInt32 &&& (1 : Int32)).toInt = 0 → Q (0 : Int32) m) ∧ (((x0.toUInt32 >>> (x1.toUInt32 &&& Int32.toUInt32 31)).toInt32 &&& (1 : Int32)).toInt ≠ 0 → Q (1 : Int32) m))) : c_X11_has (d + 1) x0 x1 m Q := by
  refine w_iload_n (q := 1) hm283 ⟨⟨_, _, rfl⟩, rfl⟩ rfl ?_
  refine w_iload_n (q := 2) hm283 ⟨⟨_, _, rfl⟩, rfl⟩ rfl ?_
  refine w_iushr (q := 3) hm283 ⟨⟨_, _, rfl⟩, rfl⟩ ?_
  refine w_iconst (q := 4) hm283 ⟨⟨_, _, rfl⟩, rfl⟩ iconst_1 ?_
  refine w_iand (q := 5) hm283 ⟨⟨_, _, rfl⟩, rfl⟩ ?_
  refine w_if_eq (q := 8) (X := ((x0.toUInt32 >>> (x1.toUInt32 &&& Int32.toUInt32 31)).toInt32 &&& (1 : Int32)).toInt) hm283 ⟨⟨_, _, rfl⟩, rfl⟩ rfl (fun hc => ?_) (fun hc => ?_)
  · have h := h.1 hc
    refine w_iconst (q := 13) hm283 ⟨⟨_, _, rfl⟩, rfl⟩ iconst_0 ?_
    exact w_retz hm283 ⟨⟨_, _, rfl⟩, rfl⟩ rfl (by decide) h
  · have h := h.2 hc
    refine w_iconst (q := 9) hm283 ⟨⟨_, _, rfl⟩, rfl⟩ iconst_1 ?_
    refine w_goto (q := 13) hm283 ⟨_, _, rfl⟩ ?_
    exact w_retz hm283 ⟨⟨_, _, rfl⟩, rfl⟩ rfl (by decide) h
theorem v_X10_reachBy_57 {d : Nat} {x1 : Int32} {x2 : Int32} {m : dM} {Q : dM → Prop} (h : ((0 ≤ x1.toInt ∧ x1.toInt < 10) ∧ ((0 ≤ (m.1 4 x1.toNatClampNeg).toInt ∧ (m.1 4 x1.toNatClampNeg).toInt < 7) ∧ (((m.1 59 (m.1 4 x1.toNatClampNeg).toNatClampNeg).toInt ≠ (x2 - (1 : Int32)).toInt → ((0 ≤ x1.toInt ∧ x1.toInt < 10) ∧ ((0 ≤ x1.toInt ∧ x1.toInt < 10) ∧ ((0 ≤ (m.1 4 x1.toNatClampNeg).toInt ∧ (m.1 4 x1.toNatClampNeg).toInt < 7) ∧ (((m.1 59 (m.1 4 x1.toNatClampNeg).toNatClampNeg).toInt ≠ (-1) → j_X10_reachBy_57_151 (d + 1) m Q) ∧ ((m.1 59 (m.1 4 x1.toNatClampNeg).toNatClampNeg).toInt = (-1) → ((0 ≤ (m.1 5 x1.toNatClampNeg).toInt ∧ (m.1 5 x1.toNatClampNeg).toInt < 7) ∧ (((m.1 59 (m.1 5 x1.toNatClampNeg).toNatClampNeg).toInt ≠ (x2 - (1 : Int32)).toInt → j_X10_reachBy_57_151 (d + 1) m Q) ∧ ((m.1 59 (m.1 5 x1.toNatClampNeg).toNatClampNeg).toInt = (x2 - (1 : Int32)).toInt → ((0 ≤ (m.1 4 x1.toNatClampNeg).toInt ∧ (m.1 4 x1.toNatClampNeg).toInt < 7) ∧ ((0 ≤ (m.1 4 x1.toNatClampNeg).toInt ∧ (m.1 4 x1.toNatClampNeg).toInt < 7) ∧ ((0 ≤ (m.1 5 x1.toNatClampNeg).toInt ∧ (m.1 5 x1.toNatClampNeg).toInt < 7) ∧ ((0 ≤ (m.1 4 x1.toNatClampNeg).toInt ∧ (m.1 4 x1.toNatClampNeg).toInt < 7) ∧ j_X10_reachBy_57_151 (d + 1) (dSet (dSet (dSet (dSet m 59 (m.1 4 x1.toNatClampNeg).toNatClampNeg x2) 58 (m.1 4 x1.toNatClampNeg).toNatClampNeg x1) 60 (m.1 4 x1.toNatClampNeg).toNatClampNeg ((m.1 60 (m.1 5 x1.toNatClampNeg).toNatClampNeg) ||| ((1 : Int32) <<< (x1 &&& 31)))) 57 5 ((m.1 57 5) ||| ((1 : Int32) <<< ((m.1 4 x1.toNatClampNeg) &&& 31)))) Q))))))))))))) ∧ ((m.1 59 (m.1 4 x1.toNatClampNeg).toNatClampNeg).toInt = (x2 - (1 : Int32)).toInt → ((0 ≤ x1.toInt ∧ x1.toInt < 10) ∧ ((0 ≤ x1.toInt ∧ x1.toInt < 10) ∧ ((0 ≤ (m.1 5 x1.toNatClampNeg).toInt ∧ (m.1 5 x1.toNatClampNeg).toInt < 7) ∧ (((m.1 59 (m.1 5 x1.toNatClampNeg).toNatClampNeg).toInt ≠ (-1) → j_X10_reachBy_57_151 (d + 1) m Q) ∧ ((m.1 59 (m.1 5 x1.toNatClampNeg).toNatClampNeg).toInt = (-1) → ((0 ≤ (m.1 4 x1.toNatClampNeg).toInt ∧ (m.1 4 x1.toNatClampNeg).toInt < 7) ∧ (((m.1 59 (m.1 4 x1.toNatClampNeg).toNatClampNeg).toInt ≠ (x2 - (1 : Int32)).toInt → j_X10_reachBy_57_151 (d + 1) m Q) ∧ ((m.1 59 (m.1 4 x1.toNatClampNeg).toNatClampNeg).toInt = (x2 - (1 : Int32)).toInt → ((0 ≤ (m.1 5 x1.toNatClampNeg).toInt ∧ (m.1 5 x1.toNatClampNeg).toInt < 7) ∧ ((0 ≤ (m.1 5 x1.toNatClampNeg).toInt ∧ (m.1 5 x1.toNatClampNeg).toInt < 7) ∧ ((0 ≤ (m.1 4 x1.toNatClampNeg).toInt ∧ (m.1 4 x1.toNatClampNeg).toInt < 7) ∧ ((0 ≤ (m.1 5 x1.toNatClampNeg).toInt ∧ (m.1 5 x1.toNatClampNeg).toInt < 7) ∧ j_X10_reachBy_57_151 (d + 1) (dSet (dSet (dSet (dSet m 59 (m.1 5 x1.toNatClampNeg).toNatClampNeg x2) 58 (m.1 5 x1.toNatClampNeg).toNatClampNeg x1) 60 (m.1 5 x1.toNatClampNeg).toNatClampNeg ((m.1 60 (m.1 4 x1.toNatClampNeg).toNatClampNeg) ||| ((1 : Int32) <<< (x1 &&& 31)))) 57 5 ((m.1 57 5) ||| ((1 : Int32) <<< ((m.1 5 x1.toNatClampNeg) &&& 31)))) Q))))))))))))))))) : c_X10_reachBy_57 (d + 1) x1 x2 m Q := by
  refine w_aload_n (q := 1) hm240 ⟨⟨_, _, rfl⟩, rfl⟩ rfl ?_
  refine w_getr (q := 4) hm240 ⟨⟨_, _, rfl⟩, rfl⟩ rfl ?_
  refine w_aload_n (q := 5) hm240 ⟨⟨_, _, rfl⟩, rfl⟩ rfl ?_
  refine w_getr (q := 8) hm240 ⟨⟨_, _, rfl⟩, rfl⟩ rfl ?_
  refine w_getr (q := 11) hm240 ⟨⟨_, _, rfl⟩, rfl⟩ rfl ?_
  refine w_iload_n (q := 12) hm240 ⟨⟨_, _, rfl⟩, rfl⟩ rfl ?_
  obtain ⟨hi, h⟩ := h
  refine w_iald (q := 13) (v := (m.1 4 x1.toNatClampNeg)) hm240 ⟨⟨_, _, rfl⟩, rfl⟩ rfl hi rfl rfl ?_
  obtain ⟨hi, h⟩ := h
  refine w_iald (q := 14) (v := (m.1 59 (m.1 4 x1.toNatClampNeg).toNatClampNeg)) hm240 ⟨⟨_, _, rfl⟩, rfl⟩ rfl hi rfl rfl ?_
  refine w_iload_n (q := 15) hm240 ⟨⟨_, _, rfl⟩, rfl⟩ rfl ?_
  refine w_iconst (q := 16) hm240 ⟨⟨_, _, rfl⟩, rfl⟩ iconst_1 ?_
  refine w_isub (q := 17) hm240 ⟨⟨_, _, rfl⟩, rfl⟩ ?_
  refine w_icmp_ne (q := 20) (X := (m.1 59 (m.1 4 x1.toNatClampNeg).toNatClampNeg).toInt) (Y := (x2 - (1 : Int32)).toInt) hm240 ⟨⟨_, _, rfl⟩, rfl⟩ rfl rfl (fun hc => ?_) (fun hc => ?_)
  · have h := h.1 hc
    refine w_iconst (q := 25) hm240 ⟨⟨_, _, rfl⟩, rfl⟩ iconst_0 ?_
    refine w_istore_n (q := 26) (l' := [oR 57, oI x1, oI x2, oI (0 : Int32), none, none]) hm240 ⟨⟨_, _, rfl⟩, rfl⟩ rfl rfl rfl ?_
    refine w_iload_n (q := 27) hm240 ⟨⟨_, _, rfl⟩, rfl⟩ rfl ?_
    refine w_if_eq (q := 30) (X := 0) hm240 ⟨⟨_, _, rfl⟩, rfl⟩ (by decide) (fun _ => ?_) (fun hc => absurd hc (by decide))
    refine w_aload_n (q := 43) hm240 ⟨⟨_, _, rfl⟩, rfl⟩ rfl ?_
    refine w_getr (q := 46) hm240 ⟨⟨_, _, rfl⟩, rfl⟩ rfl ?_
    refine w_getr (q := 49) hm240 ⟨⟨_, _, rfl⟩, rfl⟩ rfl ?_
    refine w_iload_n (q := 50) hm240 ⟨⟨_, _, rfl⟩, rfl⟩ rfl ?_
    obtain ⟨hi, h⟩ := h
    refine w_iald (q := 51) (v := (m.1 5 x1.toNatClampNeg)) hm240 ⟨⟨_, _, rfl⟩, rfl⟩ rfl hi rfl rfl ?_
    refine w_istore (q := 53) (l' := [oR 57, oI x1, oI x2, oI (0 : Int32), oI (m.1 5 x1.toNatClampNeg), none]) hm240 ⟨⟨_, _, rfl⟩, rfl⟩ rfl rfl rfl ?_
    refine w_iload_n (q := 54) hm240 ⟨⟨_, _, rfl⟩, rfl⟩ rfl ?_
    refine w_if_eq (q := 57) (X := 0) hm240 ⟨⟨_, _, rfl⟩, rfl⟩ (by decide) (fun _ => ?_) (fun hc => absurd hc (by decide))
    refine w_aload_n (q := 70) hm240 ⟨⟨_, _, rfl⟩, rfl⟩ rfl ?_
    refine w_getr (q := 73) hm240 ⟨⟨_, _, rfl⟩, rfl⟩ rfl ?_
    refine w_getr (q := 76) hm240 ⟨⟨_, _, rfl⟩, rfl⟩ rfl ?_
    refine w_iload_n (q := 77) hm240 ⟨⟨_, _, rfl⟩, rfl⟩ rfl ?_
    obtain ⟨hi, h⟩ := h
    refine w_iald (q := 78) (v := (m.1 4 x1.toNatClampNeg)) hm240 ⟨⟨_, _, rfl⟩, rfl⟩ rfl hi rfl rfl ?_
    refine w_istore (q := 80) (l' := [oR 57, oI x1, oI x2, oI (0 : Int32), oI (m.1 5 x1.toNatClampNeg), oI (m.1 4 x1.toNatClampNeg)]) hm240 ⟨⟨_, _, rfl⟩, rfl⟩ rfl rfl rfl ?_
    refine w_aload_n (q := 81) hm240 ⟨⟨_, _, rfl⟩, rfl⟩ rfl ?_
    refine w_getr (q := 84) hm240 ⟨⟨_, _, rfl⟩, rfl⟩ rfl ?_
    refine w_iload (q := 86) hm240 ⟨⟨_, _, rfl⟩, rfl⟩ rfl ?_
    obtain ⟨hi, h⟩ := h
    refine w_iald (q := 87) (v := (m.1 59 (m.1 4 x1.toNatClampNeg).toNatClampNeg)) hm240 ⟨⟨_, _, rfl⟩, rfl⟩ rfl hi rfl rfl ?_
    refine w_iconst (q := 88) hm240 ⟨⟨_, _, rfl⟩, rfl⟩ iconst_m1 ?_
    refine w_icmp_ne (q := 91) (X := (m.1 59 (m.1 4 x1.toNatClampNeg).toNatClampNeg).toInt) (Y := (-1)) hm240 ⟨⟨_, _, rfl⟩, rfl⟩ rfl (by decide) (fun hc => ?_) (fun hc => ?_)
    · have h := h.1 hc
      exact Wp.wk [false, false, false, false, false, false] h
    · have h := h.2 hc
      refine w_aload_n (q := 92) hm240 ⟨⟨_, _, rfl⟩, rfl⟩ rfl ?_
      refine w_getr (q := 95) hm240 ⟨⟨_, _, rfl⟩, rfl⟩ rfl ?_
      refine w_iload (q := 97) hm240 ⟨⟨_, _, rfl⟩, rfl⟩ rfl ?_
      obtain ⟨hi, h⟩ := h
      refine w_iald (q := 98) (v := (m.1 59 (m.1 5 x1.toNatClampNeg).toNatClampNeg)) hm240 ⟨⟨_, _, rfl⟩, rfl⟩ rfl hi rfl rfl ?_
      refine w_iload_n (q := 99) hm240 ⟨⟨_, _, rfl⟩, rfl⟩ rfl ?_
      refine w_iconst (q := 100) hm240 ⟨⟨_, _, rfl⟩, rfl⟩ iconst_1 ?_
      refine w_isub (q := 101) hm240 ⟨⟨_, _, rfl⟩, rfl⟩ ?_
      refine w_icmp_ne (q := 104) (X := (m.1 59 (m.1 5 x1.toNatClampNeg).toNatClampNeg).toInt) (Y := (x2 - (1 : Int32)).toInt) hm240 ⟨⟨_, _, rfl⟩, rfl⟩ rfl rfl (fun hc => ?_) (fun hc => ?_)
      · have h := h.1 hc
        exact Wp.wk [false, false, false, false, false, false] h
      · have h := h.2 hc
        refine w_aload_n (q := 105) hm240 ⟨⟨_, _, rfl⟩, rfl⟩ rfl ?_
        refine w_getr (q := 108) hm240 ⟨⟨_, _, rfl⟩, rfl⟩ rfl ?_
        refine w_iload (q := 110) hm240 ⟨⟨_, _, rfl⟩, rfl⟩ rfl ?_
        refine w_iload_n (q := 111) hm240 ⟨⟨_, _, rfl⟩, rfl⟩ rfl ?_
        obtain ⟨hi, h⟩ := h
        refine w_iast (q := 112) hm240 ⟨⟨_, _, rfl⟩, rfl⟩ rfl hi rfl rfl ?_
        refine w_aload_n (q := 113) hm240 ⟨⟨_, _, rfl⟩, rfl⟩ rfl ?_
        refine w_getr (q := 116) hm240 ⟨⟨_, _, rfl⟩, rfl⟩ rfl ?_
        refine w_iload (q := 118) hm240 ⟨⟨_, _, rfl⟩, rfl⟩ rfl ?_
        refine w_iload_n (q := 119) hm240 ⟨⟨_, _, rfl⟩, rfl⟩ rfl ?_
        obtain ⟨hi, h⟩ := h
        refine w_iast (q := 120) hm240 ⟨⟨_, _, rfl⟩, rfl⟩ rfl hi rfl rfl ?_
        refine w_aload_n (q := 121) hm240 ⟨⟨_, _, rfl⟩, rfl⟩ rfl ?_
        refine w_getr (q := 124) hm240 ⟨⟨_, _, rfl⟩, rfl⟩ rfl ?_
        refine w_iload (q := 126) hm240 ⟨⟨_, _, rfl⟩, rfl⟩ rfl ?_
        refine w_aload_n (q := 127) hm240 ⟨⟨_, _, rfl⟩, rfl⟩ rfl ?_
        refine w_getr (q := 130) hm240 ⟨⟨_, _, rfl⟩, rfl⟩ rfl ?_
        refine w_iload (q := 132) hm240 ⟨⟨_, _, rfl⟩, rfl⟩ rfl ?_
        obtain ⟨hi, h⟩ := h
        refine w_iald (q := 133) (v := (m.1 60 (m.1 5 x1.toNatClampNeg).toNatClampNeg)) hm240 ⟨⟨_, _, rfl⟩, rfl⟩ rfl hi rfl rfl ?_
        refine w_iconst (q := 134) hm240 ⟨⟨_, _, rfl⟩, rfl⟩ iconst_1 ?_
        refine w_iload_n (q := 135) hm240 ⟨⟨_, _, rfl⟩, rfl⟩ rfl ?_
        refine w_ishl (q := 136) hm240 ⟨⟨_, _, rfl⟩, rfl⟩ ?_
        refine w_ior (q := 137) hm240 ⟨⟨_, _, rfl⟩, rfl⟩ ?_
        obtain ⟨hi, h⟩ := h
        refine w_iast (q := 138) hm240 ⟨⟨_, _, rfl⟩, rfl⟩ rfl hi rfl rfl ?_
        refine w_aload_n (q := 139) hm240 ⟨⟨_, _, rfl⟩, rfl⟩ rfl ?_
        refine w_dup (q := 140) hm240 ⟨⟨_, _, rfl⟩, rfl⟩ rfl ?_
        refine w_getf (q := 143) (v := (m.1 57 5)) hm240 ⟨⟨_, _, rfl⟩, rfl⟩ rfl rfl ?_
        refine w_iconst (q := 144) hm240 ⟨⟨_, _, rfl⟩, rfl⟩ iconst_1 ?_
        refine w_iload (q := 146) hm240 ⟨⟨_, _, rfl⟩, rfl⟩ rfl ?_
        refine w_ishl (q := 147) hm240 ⟨⟨_, _, rfl⟩, rfl⟩ ?_
        refine w_ior (q := 148) hm240 ⟨⟨_, _, rfl⟩, rfl⟩ ?_
        refine w_putf (q := 151) hm240 ⟨⟨_, _, rfl⟩, rfl⟩ rfl rfl rfl ?_
        exact Wp.wk [false, false, false, false, false, false] h
  · have h := h.2 hc
    refine w_iconst (q := 21) hm240 ⟨⟨_, _, rfl⟩, rfl⟩ iconst_1 ?_
    refine w_goto (q := 25) hm240 ⟨_, _, rfl⟩ ?_
    refine w_istore_n (q := 26) (l' := [oR 57, oI x1, oI x2, oI (1 : Int32), none, none]) hm240 ⟨⟨_, _, rfl⟩, rfl⟩ rfl rfl rfl ?_
    refine w_iload_n (q := 27) hm240 ⟨⟨_, _, rfl⟩, rfl⟩ rfl ?_
    refine w_if_eq (q := 30) (X := 1) hm240 ⟨⟨_, _, rfl⟩, rfl⟩ (by decide) (fun hc => absurd hc (by decide)) (fun _ => ?_)
    refine w_aload_n (q := 31) hm240 ⟨⟨_, _, rfl⟩, rfl⟩ rfl ?_
    refine w_getr (q := 34) hm240 ⟨⟨_, _, rfl⟩, rfl⟩ rfl ?_
    refine w_getr (q := 37) hm240 ⟨⟨_, _, rfl⟩, rfl⟩ rfl ?_
    refine w_iload_n (q := 38) hm240 ⟨⟨_, _, rfl⟩, rfl⟩ rfl ?_
    obtain ⟨hi, h⟩ := h
    refine w_iald (q := 39) (v := (m.1 4 x1.toNatClampNeg)) hm240 ⟨⟨_, _, rfl⟩, rfl⟩ rfl hi rfl rfl ?_
    refine w_goto (q := 51) hm240 ⟨_, _, rfl⟩ ?_
    refine w_istore (q := 53) (l' := [oR 57, oI x1, oI x2, oI (1 : Int32), oI (m.1 4 x1.toNatClampNeg), none]) hm240 ⟨⟨_, _, rfl⟩, rfl⟩ rfl rfl rfl ?_
    refine w_iload_n (q := 54) hm240 ⟨⟨_, _, rfl⟩, rfl⟩ rfl ?_
    refine w_if_eq (q := 57) (X := 1) hm240 ⟨⟨_, _, rfl⟩, rfl⟩ (by decide) (fun hc => absurd hc (by decide)) (fun _ => ?_)
    refine w_aload_n (q := 58) hm240 ⟨⟨_, _, rfl⟩, rfl⟩ rfl ?_
    refine w_getr (q := 61) hm240 ⟨⟨_, _, rfl⟩, rfl⟩ rfl ?_
    refine w_getr (q := 64) hm240 ⟨⟨_, _, rfl⟩, rfl⟩ rfl ?_
    refine w_iload_n (q := 65) hm240 ⟨⟨_, _, rfl⟩, rfl⟩ rfl ?_
    obtain ⟨hi, h⟩ := h
    refine w_iald (q := 66) (v := (m.1 5 x1.toNatClampNeg)) hm240 ⟨⟨_, _, rfl⟩, rfl⟩ rfl hi rfl rfl ?_
    refine w_goto (q := 78) hm240 ⟨_, _, rfl⟩ ?_
    refine w_istore (q := 80) (l' := [oR 57, oI x1, oI x2, oI (1 : Int32), oI (m.1 4 x1.toNatClampNeg), oI (m.1 5 x1.toNatClampNeg)]) hm240 ⟨⟨_, _, rfl⟩, rfl⟩ rfl rfl rfl ?_
    refine w_aload_n (q := 81) hm240 ⟨⟨_, _, rfl⟩, rfl⟩ rfl ?_
    refine w_getr (q := 84) hm240 ⟨⟨_, _, rfl⟩, rfl⟩ rfl ?_
    refine w_iload (q := 86) hm240 ⟨⟨_, _, rfl⟩, rfl⟩ rfl ?_
    obtain ⟨hi, h⟩ := h
    refine w_iald (q := 87) (v := (m.1 59 (m.1 5 x1.toNatClampNeg).toNatClampNeg)) hm240 ⟨⟨_, _, rfl⟩, rfl⟩ rfl hi rfl rfl ?_
    refine w_iconst (q := 88) hm240 ⟨⟨_, _, rfl⟩, rfl⟩ iconst_m1 ?_
    refine w_icmp_ne (q := 91) (X := (m.1 59 (m.1 5 x1.toNatClampNeg).toNatClampNeg).toInt) (Y := (-1)) hm240 ⟨⟨_, _, rfl⟩, rfl⟩ rfl (by decide) (fun hc => ?_) (fun hc => ?_)
    · have h := h.1 hc
      exact Wp.wk [false, false, false, false, false, false] h
    · have h := h.2 hc
      refine w_aload_n (q := 92) hm240 ⟨⟨_, _, rfl⟩, rfl⟩ rfl ?_
      refine w_getr (q := 95) hm240 ⟨⟨_, _, rfl⟩, rfl⟩ rfl ?_
      refine w_iload (q := 97) hm240 ⟨⟨_, _, rfl⟩, rfl⟩ rfl ?_
      obtain ⟨hi, h⟩ := h
      refine w_iald (q := 98) (v := (m.1 59 (m.1 4 x1.toNatClampNeg).toNatClampNeg)) hm240 ⟨⟨_, _, rfl⟩, rfl⟩ rfl hi rfl rfl ?_
      refine w_iload_n (q := 99) hm240 ⟨⟨_, _, rfl⟩, rfl⟩ rfl ?_
      refine w_iconst (q := 100) hm240 ⟨⟨_, _, rfl⟩, rfl⟩ iconst_1 ?_
      refine w_isub (q := 101) hm240 ⟨⟨_, _, rfl⟩, rfl⟩ ?_
      refine w_icmp_ne (q := 104) (X := (m.1 59 (m.1 4 x1.toNatClampNeg).toNatClampNeg).toInt) (Y := (x2 - (1 : Int32)).toInt) hm240 ⟨⟨_, _, rfl⟩, rfl⟩ rfl rfl (fun hc => ?_) (fun hc => ?_)
      · have h := h.1 hc
        exact Wp.wk [false, false, false, false, false, false] h
      · have h := h.2 hc
        refine w_aload_n (q := 105) hm240 ⟨⟨_, _, rfl⟩, rfl⟩ rfl ?_
        refine w_getr (q := 108) hm240 ⟨⟨_, _, rfl⟩, rfl⟩ rfl ?_
        refine w_iload (q := 110) hm240 ⟨⟨_, _, rfl⟩, rfl⟩ rfl ?_
        refine w_iload_n (q := 111) hm240 ⟨⟨_, _, rfl⟩, rfl⟩ rfl ?_
        obtain ⟨hi, h⟩ := h
        refine w_iast (q := 112) hm240 ⟨⟨_, _, rfl⟩, rfl⟩ rfl hi rfl rfl ?_
        refine w_aload_n (q := 113) hm240 ⟨⟨_, _, rfl⟩, rfl⟩ rfl ?_
        refine w_getr (q := 116) hm240 ⟨⟨_, _, rfl⟩, rfl⟩ rfl ?_
        refine w_iload (q := 118) hm240 ⟨⟨_, _, rfl⟩, rfl⟩ rfl ?_
        refine w_iload_n (q := 119) hm240 ⟨⟨_, _, rfl⟩, rfl⟩ rfl ?_
        obtain ⟨hi, h⟩ := h
        refine w_iast (q := 120) hm240 ⟨⟨_, _, rfl⟩, rfl⟩ rfl hi rfl rfl ?_
        refine w_aload_n (q := 121) hm240 ⟨⟨_, _, rfl⟩, rfl⟩ rfl ?_
        refine w_getr (q := 124) hm240 ⟨⟨_, _, rfl⟩, rfl⟩ rfl ?_
        refine w_iload (q := 126) hm240 ⟨⟨_, _, rfl⟩, rfl⟩ rfl ?_
        refine w_aload_n (q := 127) hm240 ⟨⟨_, _, rfl⟩, rfl⟩ rfl ?_
        refine w_getr (q := 130) hm240 ⟨⟨_, _, rfl⟩, rfl⟩ rfl ?_
        refine w_iload (q := 132) hm240 ⟨⟨_, _, rfl⟩, rfl⟩ rfl ?_
        obtain ⟨hi, h⟩ := h
        refine w_iald (q := 133) (v := (m.1 60 (m.1 4 x1.toNatClampNeg).toNatClampNeg)) hm240 ⟨⟨_, _, rfl⟩, rfl⟩ rfl hi rfl rfl ?_
        refine w_iconst (q := 134) hm240 ⟨⟨_, _, rfl⟩, rfl⟩ iconst_1 ?_
        refine w_iload_n (q := 135) hm240 ⟨⟨_, _, rfl⟩, rfl⟩ rfl ?_
        refine w_ishl (q := 136) hm240 ⟨⟨_, _, rfl⟩, rfl⟩ ?_
        refine w_ior (q := 137) hm240 ⟨⟨_, _, rfl⟩, rfl⟩ ?_
        obtain ⟨hi, h⟩ := h
        refine w_iast (q := 138) hm240 ⟨⟨_, _, rfl⟩, rfl⟩ rfl hi rfl rfl ?_
        refine w_aload_n (q := 139) hm240 ⟨⟨_, _, rfl⟩, rfl⟩ rfl ?_
        refine w_dup (q := 140) hm240 ⟨⟨_, _, rfl⟩, rfl⟩ rfl ?_
        refine w_getf (q := 143) (v := (m.1 57 5)) hm240 ⟨⟨_, _, rfl⟩, rfl⟩ rfl rfl ?_
        refine w_iconst (q := 144) hm240 ⟨⟨_, _, rfl⟩, rfl⟩ iconst_1 ?_
        refine w_iload (q := 146) hm240 ⟨⟨_, _, rfl⟩, rfl⟩ rfl ?_
        refine w_ishl (q := 147) hm240 ⟨⟨_, _, rfl⟩, rfl⟩ ?_
        refine w_ior (q := 148) hm240 ⟨⟨_, _, rfl⟩, rfl⟩ ?_
        refine w_putf (q := 151) hm240 ⟨⟨_, _, rfl⟩, rfl⟩ rfl rfl rfl ?_
        exact Wp.wk [false, false, false, false, false, false] h
theorem v_X10_reachBy_57_151 {d : Nat} {m : dM} {Q : dM → Prop} (h : Q m) : j_X10_reachBy_57_151 (d + 1) m Q := by
  exact w_retv hm240 ⟨⟨_, _, rfl⟩, rfl⟩ rfl h
theorem v_X10_lay_57 {d : Nat} {x1 : Int32} {m : dM} {Q : dM → Prop} (h : ((x1.toInt ≠ (m.1 57 1).toInt → (((m.1 2 0).toInt ≤ 0 → c_J7_fill_59 d (-1 : Int32) (dSet (dSet m 57 1 x1) 57 5 (0 : Int32)) (fun m1 => c_J7_fill_60 d (0 : Int32) m1 (fun m2 => j_X10_lay_57_58 (d + 1) x1 (1 : Int32) (dSet m2 59 0 (0 : Int32)) Q))) ∧ (0 < (m.1 2 0).toInt → c_J7_fill_59 d (-1 : Int32) (dSet (dSet m 57 1 x1) 57 5 (1 : Int32)) (fun m3 => c_J7_fill_60 d (0 : Int32) m3 (fun m4 => j_X10_lay_57_58 (d + 1) x1 (1 : Int32) (dSet m4 59 0 (0 : Int32)) Q))))) ∧ (x1.toInt = (m.1 57 1).toInt → Q m))) : c_X10_lay_57 (d + 1) x1 m Q := by
  refine w_iload_n (q := 1) hm239 ⟨⟨_, _, rfl⟩, rfl⟩ rfl ?_
  refine w_aload_n (q := 2) hm239 ⟨⟨_, _, rfl⟩, rfl⟩ rfl ?_
  refine w_getf (q := 5) (v := (m.1 57 1)) hm239 ⟨⟨_, _, rfl⟩, rfl⟩ rfl rfl ?_
  refine w_icmp_ne (q := 8) (X := x1.toInt) (Y := (m.1 57 1).toInt) hm239 ⟨⟨_, _, rfl⟩, rfl⟩ rfl rfl (fun hc => ?_) (fun hc => ?_)
  · have h := h.1 hc
    refine w_aload_n (q := 10) hm239 ⟨⟨_, _, rfl⟩, rfl⟩ rfl ?_
    refine w_iload_n (q := 11) hm239 ⟨⟨_, _, rfl⟩, rfl⟩ rfl ?_
    refine w_putf (q := 14) hm239 ⟨⟨_, _, rfl⟩, rfl⟩ rfl rfl rfl ?_
    refine w_aload_n (q := 15) hm239 ⟨⟨_, _, rfl⟩, rfl⟩ rfl ?_
    refine w_aload_n (q := 16) hm239 ⟨⟨_, _, rfl⟩, rfl⟩ rfl ?_
    refine w_getr (q := 19) hm239 ⟨⟨_, _, rfl⟩, rfl⟩ rfl ?_
    refine w_getf (q := 22) (v := (m.1 2 0)) hm239 ⟨⟨_, _, rfl⟩, rfl⟩ rfl rfl ?_
    refine w_if_le (q := 25) (X := (m.1 2 0).toInt) hm239 ⟨⟨_, _, rfl⟩, rfl⟩ rfl (fun hc => ?_) (fun hc => ?_)
    · have h := h.1 hc
      refine w_iconst (q := 30) hm239 ⟨⟨_, _, rfl⟩, rfl⟩ iconst_0 ?_
      refine w_putf (q := 33) hm239 ⟨⟨_, _, rfl⟩, rfl⟩ rfl rfl rfl ?_
      refine w_aload_n (q := 34) hm239 ⟨⟨_, _, rfl⟩, rfl⟩ rfl ?_
      refine w_getr (q := 37) hm239 ⟨⟨_, _, rfl⟩, rfl⟩ rfl ?_
      refine w_iconst (q := 38) hm239 ⟨⟨_, _, rfl⟩, rfl⟩ iconst_m1 ?_
      refine w_call (q := 41) (n := 2) (vs := [.inr (.inr (some 59)), .inl (-1 : Int32)]) (rest := []) (la := [oR 59, oI (-1 : Int32), none, none]) hm239 ⟨⟨_, _, rfl⟩, rfl⟩ rfl rfl rfl rfl hm286 rfl rfl (fun hz => absurd hz (by decide)) rfl (Wp.mono h ?_)
      rintro _ m1 ⟨rfl, h⟩
      change Wp _ _ 41 _ [] _ _
      refine w_aload_n (q := 42) hm239 ⟨⟨_, _, rfl⟩, rfl⟩ rfl ?_
      refine w_getr (q := 45) hm239 ⟨⟨_, _, rfl⟩, rfl⟩ rfl ?_
      refine w_iconst (q := 46) hm239 ⟨⟨_, _, rfl⟩, rfl⟩ iconst_0 ?_
      refine w_call (q := 49) (n := 2) (vs := [.inr (.inr (some 60)), .inl (0 : Int32)]) (rest := []) (la := [oR 60, oI (0 : Int32), none, none]) hm239 ⟨⟨_, _, rfl⟩, rfl⟩ rfl rfl rfl rfl hm286 rfl rfl (fun hz => absurd hz (by decide)) rfl (Wp.mono h ?_)
      rintro _ m2 ⟨rfl, h⟩
      change Wp _ _ 49 _ [] _ _
      refine w_aload_n (q := 50) hm239 ⟨⟨_, _, rfl⟩, rfl⟩ rfl ?_
      refine w_getr (q := 53) hm239 ⟨⟨_, _, rfl⟩, rfl⟩ rfl ?_
      refine w_iconst (q := 54) hm239 ⟨⟨_, _, rfl⟩, rfl⟩ iconst_0 ?_
      refine w_iconst (q := 55) hm239 ⟨⟨_, _, rfl⟩, rfl⟩ iconst_0 ?_
      refine w_iast (q := 56) (j := 0) hm239 ⟨⟨_, _, rfl⟩, rfl⟩ rfl (by decide) (by decide) rfl ?_
      refine w_iconst (q := 57) hm239 ⟨⟨_, _, rfl⟩, rfl⟩ iconst_1 ?_
      refine w_istore_n (q := 58) (l' := [oR 57, oI x1, oI (1 : Int32), none, none]) hm239 ⟨⟨_, _, rfl⟩, rfl⟩ rfl rfl rfl ?_
      exact h
    · have h := h.2 hc
      refine w_iconst (q := 26) hm239 ⟨⟨_, _, rfl⟩, rfl⟩ iconst_1 ?_
      refine w_goto (q := 30) hm239 ⟨_, _, rfl⟩ ?_
      refine w_putf (q := 33) hm239 ⟨⟨_, _, rfl⟩, rfl⟩ rfl rfl rfl ?_
      refine w_aload_n (q := 34) hm239 ⟨⟨_, _, rfl⟩, rfl⟩ rfl ?_
      refine w_getr (q := 37) hm239 ⟨⟨_, _, rfl⟩, rfl⟩ rfl ?_
      refine w_iconst (q := 38) hm239 ⟨⟨_, _, rfl⟩, rfl⟩ iconst_m1 ?_
      refine w_call (q := 41) (n := 2) (vs := [.inr (.inr (some 59)), .inl (-1 : Int32)]) (rest := []) (la := [oR 59, oI (-1 : Int32), none, none]) hm239 ⟨⟨_, _, rfl⟩, rfl⟩ rfl rfl rfl rfl hm286 rfl rfl (fun hz => absurd hz (by decide)) rfl (Wp.mono h ?_)
      rintro _ m3 ⟨rfl, h⟩
      change Wp _ _ 41 _ [] _ _
      refine w_aload_n (q := 42) hm239 ⟨⟨_, _, rfl⟩, rfl⟩ rfl ?_
      refine w_getr (q := 45) hm239 ⟨⟨_, _, rfl⟩, rfl⟩ rfl ?_
      refine w_iconst (q := 46) hm239 ⟨⟨_, _, rfl⟩, rfl⟩ iconst_0 ?_
      refine w_call (q := 49) (n := 2) (vs := [.inr (.inr (some 60)), .inl (0 : Int32)]) (rest := []) (la := [oR 60, oI (0 : Int32), none, none]) hm239 ⟨⟨_, _, rfl⟩, rfl⟩ rfl rfl rfl rfl hm286 rfl rfl (fun hz => absurd hz (by decide)) rfl (Wp.mono h ?_)
      rintro _ m4 ⟨rfl, h⟩
      change Wp _ _ 49 _ [] _ _
      refine w_aload_n (q := 50) hm239 ⟨⟨_, _, rfl⟩, rfl⟩ rfl ?_
      refine w_getr (q := 53) hm239 ⟨⟨_, _, rfl⟩, rfl⟩ rfl ?_
      refine w_iconst (q := 54) hm239 ⟨⟨_, _, rfl⟩, rfl⟩ iconst_0 ?_
      refine w_iconst (q := 55) hm239 ⟨⟨_, _, rfl⟩, rfl⟩ iconst_0 ?_
      refine w_iast (q := 56) (j := 0) hm239 ⟨⟨_, _, rfl⟩, rfl⟩ rfl (by decide) (by decide) rfl ?_
      refine w_iconst (q := 57) hm239 ⟨⟨_, _, rfl⟩, rfl⟩ iconst_1 ?_
      refine w_istore_n (q := 58) (l' := [oR 57, oI x1, oI (1 : Int32), none, none]) hm239 ⟨⟨_, _, rfl⟩, rfl⟩ rfl rfl rfl ?_
      exact h
  · have h := h.2 hc
    exact w_retv hm239 ⟨⟨_, _, rfl⟩, rfl⟩ rfl h
theorem v_X10_lay_57_58 {d : Nat} {x1 : Int32} {x2 : Int32} {m : dM} {Q : dM → Prop} (h : (((m.1 2 0).toInt ≤ x2.toInt → j_X10_lay_57_128 (d + 1) m Q) ∧ (x2.toInt < (m.1 2 0).toInt → j_X10_lay_57_77 (d + 1) x1 x2 (m.1 57 5) (0 : Int32) m Q))) : j_X10_lay_57_58 (d + 1) x1 x2 m Q := by
  refine w_iload_n (q := 59) hm239 ⟨⟨_, _, rfl⟩, rfl⟩ rfl ?_
  refine w_aload_n (q := 60) hm239 ⟨⟨_, _, rfl⟩, rfl⟩ rfl ?_
  refine w_getr (q := 63) hm239 ⟨⟨_, _, rfl⟩, rfl⟩ rfl ?_
  refine w_getf (q := 66) (v := (m.1 2 0)) hm239 ⟨⟨_, _, rfl⟩, rfl⟩ rfl rfl ?_
  refine w_icmp_ge (q := 69) (X := x2.toInt) (Y := (m.1 2 0).toInt) hm239 ⟨⟨_, _, rfl⟩, rfl⟩ rfl rfl (fun hc => ?_) (fun hc => ?_)
  · have h := h.1 hc
    exact Wp.wk [false, false, false, false, false] h
  · have h := h.2 hc
    refine w_aload_n (q := 70) hm239 ⟨⟨_, _, rfl⟩, rfl⟩ rfl ?_
    refine w_getf (q := 73) (v := (m.1 57 5)) hm239 ⟨⟨_, _, rfl⟩, rfl⟩ rfl rfl ?_
    refine w_istore_n (q := 74) (l' := [oR 57, oI x1, oI x2, oI (m.1 57 5), none]) hm239 ⟨⟨_, _, rfl⟩, rfl⟩ rfl rfl rfl ?_
    refine w_iconst (q := 75) hm239 ⟨⟨_, _, rfl⟩, rfl⟩ iconst_0 ?_
    refine w_istore (q := 77) (l' := [oR 57, oI x1, oI x2, oI (m.1 57 5), oI (0 : Int32)]) hm239 ⟨⟨_, _, rfl⟩, rfl⟩ rfl rfl rfl ?_
    exact h
theorem v_X10_lay_57_77 {d : Nat} {x1 : Int32} {x2 : Int32} {x3 : Int32} {x4 : Int32} {m : dM} {Q : dM → Prop} (h : (((m.1 2 1).toInt ≤ x4.toInt → (((m.1 57 5).toInt ≠ x3.toInt → j_X10_lay_57_58 (d + 1) x1 (x2 + (1 : Int32)) m Q) ∧ ((m.1 57 5).toInt = x3.toInt → j_X10_lay_57_128 (d + 1) m Q))) ∧ (x4.toInt < (m.1 2 1).toInt → c_X11_has d x1 x4 m (fun r1 m1 => ((r1.toInt ≠ 0 → j_X10_lay_57_105 (d + 1) x1 x2 x3 x4 m1 Q) ∧ (r1.toInt = 0 → c_X10_reachBy_57 d x4 x2 m1 (fun m2 => j_X10_lay_57_105 (d + 1) x1 x2 x3 x4 m2 Q))))))) : j_X10_lay_57_77 (d + 1) x1 x2 x3 x4 m Q := by
  refine w_iload (q := 79) hm239 ⟨⟨_, _, rfl⟩, rfl⟩ rfl ?_
  refine w_aload_n (q := 80) hm239 ⟨⟨_, _, rfl⟩, rfl⟩ rfl ?_
  refine w_getr (q := 83) hm239 ⟨⟨_, _, rfl⟩, rfl⟩ rfl ?_
  refine w_getf (q := 86) (v := (m.1 2 1)) hm239 ⟨⟨_, _, rfl⟩, rfl⟩ rfl rfl ?_
  refine w_icmp_ge (q := 89) (X := x4.toInt) (Y := (m.1 2 1).toInt) hm239 ⟨⟨_, _, rfl⟩, rfl⟩ rfl rfl (fun hc => ?_) (fun hc => ?_)
  · have h := h.1 hc
    refine w_aload_n (q := 112) hm239 ⟨⟨_, _, rfl⟩, rfl⟩ rfl ?_
    refine w_getf (q := 115) (v := (m.1 57 5)) hm239 ⟨⟨_, _, rfl⟩, rfl⟩ rfl rfl ?_
    refine w_iload_n (q := 116) hm239 ⟨⟨_, _, rfl⟩, rfl⟩ rfl ?_
    refine w_icmp_ne (q := 119) (X := (m.1 57 5).toInt) (Y := x3.toInt) hm239 ⟨⟨_, _, rfl⟩, rfl⟩ rfl rfl (fun hc => ?_) (fun hc => ?_)
    · have h := h.1 hc
      refine w_iinc (q := 125) (l' := [oR 57, oI x1, oI (x2 + (1 : Int32)), oI x3, oI x4]) hm239 ⟨⟨_, _, rfl⟩, rfl⟩ rfl rfl rfl iconst_1 rfl ?_
      refine w_goto (q := 58) hm239 ⟨_, _, rfl⟩ ?_
      exact Wp.wk [true, true, true, false, false] h
    · have h := h.2 hc
      refine w_goto (q := 128) hm239 ⟨_, _, rfl⟩ ?_
      exact Wp.wk [false, false, false, false, false] h
  · have h := h.2 hc
    refine w_iload_n (q := 90) hm239 ⟨⟨_, _, rfl⟩, rfl⟩ rfl ?_
    refine w_iload (q := 92) hm239 ⟨⟨_, _, rfl⟩, rfl⟩ rfl ?_
    refine w_call (q := 95) (n := 0) (vs := [.inl x1, .inl x4]) (rest := []) (la := [oI x1, oI x4]) hm239 ⟨⟨_, _, rfl⟩, rfl⟩ rfl rfl rfl rfl hm283 rfl rfl (fun hz => absurd hz (by decide)) rfl (Wp.mono h ?_)
    rintro _ m1 ⟨r1, rfl, h⟩
    change Wp _ _ 95 _ [.inl r1] _ _
    refine w_if_ne (q := 98) (X := r1.toInt) hm239 ⟨⟨_, _, rfl⟩, rfl⟩ rfl (fun hc => ?_) (fun hc => ?_)
    · have h := h.1 hc
      exact h
    · have h := h.2 hc
      refine w_aload_n (q := 99) hm239 ⟨⟨_, _, rfl⟩, rfl⟩ rfl ?_
      refine w_iload (q := 101) hm239 ⟨⟨_, _, rfl⟩, rfl⟩ rfl ?_
      refine w_iload_n (q := 102) hm239 ⟨⟨_, _, rfl⟩, rfl⟩ rfl ?_
      refine w_call (q := 105) (n := 3) (vs := [.inr (.inr (some 57)), .inl x4, .inl x2]) (rest := []) (la := [oR 57, oI x4, oI x2, none, none, none]) hm239 ⟨⟨_, _, rfl⟩, rfl⟩ rfl rfl rfl rfl hm240 rfl rfl (fun _ => ⟨_, _, rfl, rfl⟩) rfl (Wp.mono h ?_)
      rintro _ m2 ⟨rfl, h⟩
      change Wp _ _ 105 _ [] _ _
      exact h
theorem v_X10_lay_57_105 {d : Nat} {x1 : Int32} {x2 : Int32} {x3 : Int32} {x4 : Int32} {m : dM} {Q : dM → Prop} (h : j_X10_lay_57_77 (d + 1) x1 x2 x3 (x4 + (1 : Int32)) m Q) : j_X10_lay_57_105 (d + 1) x1 x2 x3 x4 m Q := by
  refine w_iinc (q := 108) (l' := [oR 57, oI x1, oI x2, oI x3, oI (x4 + (1 : Int32))]) hm239 ⟨⟨_, _, rfl⟩, rfl⟩ rfl rfl rfl iconst_1 rfl ?_
  refine w_goto (q := 77) hm239 ⟨_, _, rfl⟩ ?_
  exact h
theorem v_X10_lay_57_128 {d : Nat} {m : dM} {Q : dM → Prop} (h : Q m) : j_X10_lay_57_128 (d + 1) m Q := by
  exact w_retv hm239 ⟨⟨_, _, rfl⟩, rfl⟩ rfl h
theorem v_X0_waysNow_54_47 {d : Nat} {m : dM} {Q : dM → Prop} (h : c_X10_lay_57 d (m.1 47 3) m (fun m1 => Q m1)) : c_X0_waysNow_54_47 (d + 1) m Q := by
  refine w_aload_n (q := 1) hm116 ⟨⟨_, _, rfl⟩, rfl⟩ rfl ?_
  refine w_getr (q := 4) hm116 ⟨⟨_, _, rfl⟩, rfl⟩ rfl ?_
  refine w_aload_n (q := 5) hm116 ⟨⟨_, _, rfl⟩, rfl⟩ rfl ?_
  refine w_getf (q := 8) (v := (m.1 47 3)) hm116 ⟨⟨_, _, rfl⟩, rfl⟩ rfl rfl ?_
  refine w_call (q := 11) (n := 3) (vs := [.inr (.inr (some 57)), .inl (m.1 47 3)]) (rest := []) (la := [oR 57, oI (m.1 47 3), none, none, none]) hm116 ⟨⟨_, _, rfl⟩, rfl⟩ rfl rfl rfl rfl hm239 rfl rfl (fun _ => ⟨_, _, rfl, rfl⟩) rfl (Wp.mono h ?_)
  rintro _ m1 ⟨rfl, h⟩
  change Wp _ _ 11 _ [] _ _
  refine w_aload_n (q := 12) hm116 ⟨⟨_, _, rfl⟩, rfl⟩ rfl ?_
  refine w_getr (q := 15) hm116 ⟨⟨_, _, rfl⟩, rfl⟩ rfl ?_
  exact w_reta hm116 ⟨⟨_, _, rfl⟩, rfl⟩ rfl h
theorem v_X7_hourOfDay_47 {d : Nat} {m : dM} {Q : Int32 → dM → Prop} (h : Q ((m.1 47 0) - (m.1 47 0) / (24 : Int32) * (24 : Int32)) m) : c_X7_hourOfDay_47 (d + 1) m Q := by
  refine w_aload_n (q := 1) hm212 ⟨⟨_, _, rfl⟩, rfl⟩ rfl ?_
  refine w_getf (q := 4) (v := (m.1 47 0)) hm212 ⟨⟨_, _, rfl⟩, rfl⟩ rfl rfl ?_
  refine w_bipush (q := 6) hm212 ⟨⟨_, _, rfl⟩, rfl⟩ bipush_24 ?_
  refine w_irem (q := 7) hm212 ⟨⟨_, _, rfl⟩, rfl⟩ (by decide) ?_
  exact w_reti hm212 ⟨⟨_, _, rfl⟩, rfl⟩ rfl h
theorem v_X7_day_47 {d : Nat} {m : dM} {Q : Int32 → dM → Prop} (h : Q ((m.1 47 0) / (24 : Int32)) m) : c_X7_day_47 (d + 1) m Q := by
  refine w_aload_n (q := 1) hm213 ⟨⟨_, _, rfl⟩, rfl⟩ rfl ?_
  refine w_getf (q := 4) (v := (m.1 47 0)) hm213 ⟨⟨_, _, rfl⟩, rfl⟩ rfl rfl ?_
  refine w_bipush (q := 6) hm213 ⟨⟨_, _, rfl⟩, rfl⟩ bipush_24 ?_
  refine w_idiv (q := 7) hm213 ⟨⟨_, _, rfl⟩, rfl⟩ (by decide) ?_
  exact w_reti hm213 ⟨⟨_, _, rfl⟩, rfl⟩ rfl h
theorem v_J7_fill_55 {d : Nat} {x1 : Int32} {m : dM} {Q : dM → Prop} (h : j_J7_fill_55_5 (d + 1) x1 (0 : Int32) (9 : Int32) m Q) : c_J7_fill_55 (d + 1) x1 m Q := by
  refine w_iconst (q := 1) hm286 ⟨⟨_, _, rfl⟩, rfl⟩ iconst_0 ?_
  refine w_istore_n (q := 2) (l' := [oR 55, oI x1, oI (0 : Int32), none]) hm286 ⟨⟨_, _, rfl⟩, rfl⟩ rfl rfl rfl ?_
  refine w_aload_n (q := 3) hm286 ⟨⟨_, _, rfl⟩, rfl⟩ rfl ?_
  refine w_alen (q := 4) hm286 ⟨⟨_, _, rfl⟩, rfl⟩ rfl alen_9 ?_
  refine w_istore_n (q := 5) (l' := [oR 55, oI x1, oI (0 : Int32), oI (9 : Int32)]) hm286 ⟨⟨_, _, rfl⟩, rfl⟩ rfl rfl rfl ?_
  exact h
theorem v_J7_fill_55_5 {d : Nat} {x1 : Int32} {x2 : Int32} {x3 : Int32} {m : dM} {Q : dM → Prop} (h : ((x3.toInt ≤ x2.toInt → Q m) ∧ (x2.toInt < x3.toInt → ((0 ≤ x2.toInt ∧ x2.toInt < 9) ∧ j_J7_fill_55_5 (d + 1) x1 (x2 + (1 : Int32)) x3 (dSet m 55 x2.toNatClampNeg x1) Q)))) : j_J7_fill_55_5 (d + 1) x1 x2 x3 m Q := by
  refine w_iload_n (q := 6) hm286 ⟨⟨_, _, rfl⟩, rfl⟩ rfl ?_
  refine w_iload_n (q := 7) hm286 ⟨⟨_, _, rfl⟩, rfl⟩ rfl ?_
  refine w_icmp_ge (q := 10) (X := x2.toInt) (Y := x3.toInt) hm286 ⟨⟨_, _, rfl⟩, rfl⟩ rfl rfl (fun hc => ?_) (fun hc => ?_)
  · have h := h.1 hc
    exact w_retv hm286 ⟨⟨_, _, rfl⟩, rfl⟩ rfl h
  · have h := h.2 hc
    refine w_aload_n (q := 11) hm286 ⟨⟨_, _, rfl⟩, rfl⟩ rfl ?_
    refine w_iload_n (q := 12) hm286 ⟨⟨_, _, rfl⟩, rfl⟩ rfl ?_
    refine w_iload_n (q := 13) hm286 ⟨⟨_, _, rfl⟩, rfl⟩ rfl ?_
    obtain ⟨hi, h⟩ := h
    refine w_iast (q := 14) hm286 ⟨⟨_, _, rfl⟩, rfl⟩ rfl hi rfl rfl ?_
    refine w_iinc (q := 17) (l' := [oR 55, oI x1, oI (x2 + (1 : Int32)), oI x3]) hm286 ⟨⟨_, _, rfl⟩, rfl⟩ rfl rfl rfl iconst_1 rfl ?_
    refine w_goto (q := 5) hm286 ⟨_, _, rfl⟩ ?_
    exact h
theorem v_X0_setVars_54 {d : Nat} {x1 : Int32} {x2 : Int32} {x3 : Int32} {m : dM} {Q : dM → Prop} (h : c_J7_fill_55 d (0 : Int32) m (fun m1 => Q (dSet (dSet (dSet m1 55 3 x1) 55 4 x2) 55 8 x3))) : c_X0_setVars_54 (d + 1) x1 x2 x3 m Q := by
  refine w_aload_n (q := 1) hm125 ⟨⟨_, _, rfl⟩, rfl⟩ rfl ?_
  refine w_getr (q := 4) hm125 ⟨⟨_, _, rfl⟩, rfl⟩ rfl ?_
  refine w_iconst (q := 5) hm125 ⟨⟨_, _, rfl⟩, rfl⟩ iconst_0 ?_
  refine w_call (q := 8) (n := 2) (vs := [.inr (.inr (some 55)), .inl (0 : Int32)]) (rest := []) (la := [oR 55, oI (0 : Int32), none, none]) hm125 ⟨⟨_, _, rfl⟩, rfl⟩ rfl rfl rfl rfl hm286 rfl rfl (fun hz => absurd hz (by decide)) rfl (Wp.mono h ?_)
  rintro _ m1 ⟨rfl, h⟩
  change Wp _ _ 8 _ [] _ _
  refine w_aload_n (q := 9) hm125 ⟨⟨_, _, rfl⟩, rfl⟩ rfl ?_
  refine w_getr (q := 12) hm125 ⟨⟨_, _, rfl⟩, rfl⟩ rfl ?_
  refine w_iconst (q := 13) hm125 ⟨⟨_, _, rfl⟩, rfl⟩ iconst_3 ?_
  refine w_iload_n (q := 14) hm125 ⟨⟨_, _, rfl⟩, rfl⟩ rfl ?_
  refine w_iast (q := 15) (j := 3) hm125 ⟨⟨_, _, rfl⟩, rfl⟩ rfl (by decide) (by decide) rfl ?_
  refine w_aload_n (q := 16) hm125 ⟨⟨_, _, rfl⟩, rfl⟩ rfl ?_
  refine w_getr (q := 19) hm125 ⟨⟨_, _, rfl⟩, rfl⟩ rfl ?_
  refine w_iconst (q := 20) hm125 ⟨⟨_, _, rfl⟩, rfl⟩ iconst_4 ?_
  refine w_iload_n (q := 21) hm125 ⟨⟨_, _, rfl⟩, rfl⟩ rfl ?_
  refine w_iast (q := 22) (j := 4) hm125 ⟨⟨_, _, rfl⟩, rfl⟩ rfl (by decide) (by decide) rfl ?_
  refine w_aload_n (q := 23) hm125 ⟨⟨_, _, rfl⟩, rfl⟩ rfl ?_
  refine w_getr (q := 26) hm125 ⟨⟨_, _, rfl⟩, rfl⟩ rfl ?_
  refine w_bipush (q := 28) hm125 ⟨⟨_, _, rfl⟩, rfl⟩ bipush_8 ?_
  refine w_iload_n (q := 29) hm125 ⟨⟨_, _, rfl⟩, rfl⟩ rfl ?_
  refine w_iast (q := 30) (j := 8) hm125 ⟨⟨_, _, rfl⟩, rfl⟩ rfl (by decide) (by decide) rfl ?_
  exact w_retv hm125 ⟨⟨_, _, rfl⟩, rfl⟩ rfl h
theorem v_X4_worked_11 {d : Nat} {x1 : Int32} {x2 : Int32} {x3 : Int32} {m : dM} {Q : Int32 → dM → Prop} (h : ((x1.toInt = 0 → Q (x2 + x3) m) ∧ (x1.toInt = 1 → Q (x2 - x3) m) ∧ (x1.toInt = 2 → Q (x2 * x3) m) ∧ (x1.toInt < 0 ∨ 2 < x1.toInt → ((x3.toInt ≠ 0 → (x3 ≠ 0 ∧ Q (x2 / x3) m)) ∧ (x3.toInt = 0 → Q (0 : Int32) (dSet m 11 5 (1 : Int32))))))) : c_X4_worked_11 (d + 1) x1 x2 x3 m Q := by
  refine w_iload_n (q := 1) hm183 ⟨⟨_, _, rfl⟩, rfl⟩ rfl ?_
  refine w_tsw (X := x1.toInt) hm183 ⟨_, _, rfl⟩ (by decide) (by decide) rfl ((And.intro (fun hc => ?_) (And.intro (fun hc => ?_) (And.intro (fun hc => ?_) trivial)))) (fun hc => ?_)
  · have h := (h.1) hc
    change Wp _ _ 28 _ _ _ _
    refine w_iload_n (q := 29) hm183 ⟨⟨_, _, rfl⟩, rfl⟩ rfl ?_
    refine w_iload_n (q := 30) hm183 ⟨⟨_, _, rfl⟩, rfl⟩ rfl ?_
    refine w_iadd (q := 31) hm183 ⟨⟨_, _, rfl⟩, rfl⟩ ?_
    exact w_reti hm183 ⟨⟨_, _, rfl⟩, rfl⟩ rfl h
  · have h := (h.2.1) hc
    change Wp _ _ 32 _ _ _ _
    refine w_iload_n (q := 33) hm183 ⟨⟨_, _, rfl⟩, rfl⟩ rfl ?_
    refine w_iload_n (q := 34) hm183 ⟨⟨_, _, rfl⟩, rfl⟩ rfl ?_
    refine w_isub (q := 35) hm183 ⟨⟨_, _, rfl⟩, rfl⟩ ?_
    exact w_reti hm183 ⟨⟨_, _, rfl⟩, rfl⟩ rfl h
  · have h := (h.2.2.1) hc
    change Wp _ _ 36 _ _ _ _
    refine w_iload_n (q := 37) hm183 ⟨⟨_, _, rfl⟩, rfl⟩ rfl ?_
    refine w_iload_n (q := 38) hm183 ⟨⟨_, _, rfl⟩, rfl⟩ rfl ?_
    refine w_imul (q := 39) hm183 ⟨⟨_, _, rfl⟩, rfl⟩ ?_
    exact w_reti hm183 ⟨⟨_, _, rfl⟩, rfl⟩ rfl h
  · have h := (h.2.2.2) hc
    change Wp _ _ 40 _ _ _ _
    refine w_iload_n (q := 41) hm183 ⟨⟨_, _, rfl⟩, rfl⟩ rfl ?_
    refine w_if_ne (q := 44) (X := x3.toInt) hm183 ⟨⟨_, _, rfl⟩, rfl⟩ rfl (fun hc => ?_) (fun hc => ?_)
    · have h := h.1 hc
      refine w_iload_n (q := 52) hm183 ⟨⟨_, _, rfl⟩, rfl⟩ rfl ?_
      refine w_iload_n (q := 53) hm183 ⟨⟨_, _, rfl⟩, rfl⟩ rfl ?_
      obtain ⟨hz, h⟩ := h
      refine w_idiv (q := 54) hm183 ⟨⟨_, _, rfl⟩, rfl⟩ hz ?_
      exact w_reti hm183 ⟨⟨_, _, rfl⟩, rfl⟩ rfl h
    · have h := h.2 hc
      refine w_aload_n (q := 45) hm183 ⟨⟨_, _, rfl⟩, rfl⟩ rfl ?_
      refine w_iconst (q := 46) hm183 ⟨⟨_, _, rfl⟩, rfl⟩ iconst_1 ?_
      refine w_putz (q := 49) hm183 ⟨⟨_, _, rfl⟩, rfl⟩ rfl rfl (by decide) rfl ?_
      refine w_iconst (q := 50) hm183 ⟨⟨_, _, rfl⟩, rfl⟩ iconst_0 ?_
      exact w_reti hm183 ⟨⟨_, _, rfl⟩, rfl⟩ rfl h
theorem v_X4_pieceTells_11_55 {d : Nat} {x1 : Int32} {x2 : Int32} {m : dM} {Q : Int32 → dM → Prop} (h : ((x2.toInt < 0 → j_X4_pieceTells_11_55_10 (d + 1) m Q) ∧ (0 ≤ x2.toInt → ((x2.toInt < 13 → ((0 ≤ x1.toInt ∧ x1.toInt < 4) ∧ (x1.toInt = 0 → ((0 ≤ (x2 + (1 : Int32)).toInt ∧ (x2 + (1 : Int32)).toInt < 14) ∧ ((0 ≤ x1.toInt ∧ x1.toInt < 4) ∧ (x1.toInt = 0 → ((0 ≤ x2.toInt ∧ x2.toInt < 14) ∧ j_X4_pieceTells_11_55_37 (d + 1) (0 : Int32) (m.1 14 (x2 + (1 : Int32)).toNatClampNeg) (m.1 14 x2.toNatClampNeg) m Q)) ∧ (x1.toInt = 1 → ((0 ≤ x2.toInt ∧ x2.toInt < 14) ∧ j_X4_pieceTells_11_55_37 (d + 1) (0 : Int32) (m.1 14 (x2 + (1 : Int32)).toNatClampNeg) (m.1 15 x2.toNatClampNeg) m Q)) ∧ (x1.toInt = 2 → ((0 ≤ x2.toInt ∧ x2.toInt < 14) ∧ j_X4_pieceTells_11_55_37 (d + 1) (0 : Int32) (m.1 14 (x2 + (1 : Int32)).toNatClampNeg) (m.1 16 x2.toNatClampNeg) m Q)) ∧ (x1.toInt = 3 → ((0 ≤ x2.toInt ∧ x2.toInt < 14) ∧ j_X4_pieceTells_11_55_37 (d + 1) (0 : Int32) (m.1 14 (x2 + (1 : Int32)).toNatClampNeg) (m.1 17 x2.toNatClampNeg) m Q))))) ∧ (x1.toInt = 1 → ((0 ≤ (x2 + (1 : Int32)).toInt ∧ (x2 + (1 : Int32)).toInt < 14) ∧ ((0 ≤ x1.toInt ∧ x1.toInt < 4) ∧ (x1.toInt = 0 → ((0 ≤ x2.toInt ∧ x2.toInt < 14) ∧ j_X4_pieceTells_11_55_37 (d + 1) (0 : Int32) (m.1 15 (x2 + (1 : Int32)).toNatClampNeg) (m.1 14 x2.toNatClampNeg) m Q)) ∧ (x1.toInt = 1 → ((0 ≤ x2.toInt ∧ x2.toInt < 14) ∧ j_X4_pieceTells_11_55_37 (d + 1) (0 : Int32) (m.1 15 (x2 + (1 : Int32)).toNatClampNeg) (m.1 15 x2.toNatClampNeg) m Q)) ∧ (x1.toInt = 2 → ((0 ≤ x2.toInt ∧ x2.toInt < 14) ∧ j_X4_pieceTells_11_55_37 (d + 1) (0 : Int32) (m.1 15 (x2 + (1 : Int32)).toNatClampNeg) (m.1 16 x2.toNatClampNeg) m Q)) ∧ (x1.toInt = 3 → ((0 ≤ x2.toInt ∧ x2.toInt < 14) ∧ j_X4_pieceTells_11_55_37 (d + 1) (0 : Int32) (m.1 15 (x2 + (1 : Int32)).toNatClampNeg) (m.1 17 x2.toNatClampNeg) m Q))))) ∧ (x1.toInt = 2 → ((0 ≤ (x2 + (1 : Int32)).toInt ∧ (x2 + (1 : Int32)).toInt < 14) ∧ ((0 ≤ x1.toInt ∧ x1.toInt < 4) ∧ (x1.toInt = 0 → ((0 ≤ x2.toInt ∧ x2.toInt < 14) ∧ j_X4_pieceTells_11_55_37 (d + 1) (0 : Int32) (m.1 16 (x2 + (1 : Int32)).toNatClampNeg) (m.1 14 x2.toNatClampNeg) m Q)) ∧ (x1.toInt = 1 → ((0 ≤ x2.toInt ∧ x2.toInt < 14) ∧ j_X4_pieceTells_11_55_37 (d + 1) (0 : Int32) (m.1 16 (x2 + (1 : Int32)).toNatClampNeg) (m.1 15 x2.toNatClampNeg) m Q)) ∧ (x1.toInt = 2 → ((0 ≤ x2.toInt ∧ x2.toInt < 14) ∧ j_X4_pieceTells_11_55_37 (d + 1) (0 : Int32) (m.1 16 (x2 + (1 : Int32)).toNatClampNeg) (m.1 16 x2.toNatClampNeg) m Q)) ∧ (x1.toInt = 3 → ((0 ≤ x2.toInt ∧ x2.toInt < 14) ∧ j_X4_pieceTells_11_55_37 (d + 1) (0 : Int32) (m.1 16 (x2 + (1 : Int32)).toNatClampNeg) (m.1 17 x2.toNatClampNeg) m Q))))) ∧ (x1.toInt = 3 → ((0 ≤ (x2 + (1 : Int32)).toInt ∧ (x2 + (1 : Int32)).toInt < 14) ∧ ((0 ≤ x1.toInt ∧ x1.toInt < 4) ∧ (x1.toInt = 0 → ((0 ≤ x2.toInt ∧ x2.toInt < 14) ∧ j_X4_pieceTells_11_55_37 (d + 1) (0 : Int32) (m.1 17 (x2 + (1 : Int32)).toNatClampNeg) (m.1 14 x2.toNatClampNeg) m Q)) ∧ (x1.toInt = 1 → ((0 ≤ x2.toInt ∧ x2.toInt < 14) ∧ j_X4_pieceTells_11_55_37 (d + 1) (0 : Int32) (m.1 17 (x2 + (1 : Int32)).toNatClampNeg) (m.1 15 x2.toNatClampNeg) m Q)) ∧ (x1.toInt = 2 → ((0 ≤ x2.toInt ∧ x2.toInt < 14) ∧ j_X4_pieceTells_11_55_37 (d + 1) (0 : Int32) (m.1 17 (x2 + (1 : Int32)).toNatClampNeg) (m.1 16 x2.toNatClampNeg) m Q)) ∧ (x1.toInt = 3 → ((0 ≤ x2.toInt ∧ x2.toInt < 14) ∧ j_X4_pieceTells_11_55_37 (d + 1) (0 : Int32) (m.1 17 (x2 + (1 : Int32)).toNatClampNeg) (m.1 17 x2.toNatClampNeg) m Q))))))) ∧ (13 ≤ x2.toInt → j_X4_pieceTells_11_55_10 (d + 1) m Q))))) : c_X4_pieceTells_11_55 (d + 1) x1 x2 m Q := by
  refine w_iload_n (q := 1) hm182 ⟨⟨_, _, rfl⟩, rfl⟩ rfl ?_
  refine w_if_lt (q := 4) (X := x2.toInt) hm182 ⟨⟨_, _, rfl⟩, rfl⟩ rfl (fun hc => ?_) (fun hc => ?_)
  · have h := h.1 hc
    exact Wp.wk [false, false, false, false, false, false, false, false] h
  · have h := h.2 hc
    refine w_iload_n (q := 5) hm182 ⟨⟨_, _, rfl⟩, rfl⟩ rfl ?_
    refine w_bipush (q := 7) hm182 ⟨⟨_, _, rfl⟩, rfl⟩ bipush_13 ?_
    refine w_icmp_lt (q := 10) (X := x2.toInt) (Y := 13) hm182 ⟨⟨_, _, rfl⟩, rfl⟩ rfl (by decide) (fun hc => ?_) (fun hc => ?_)
    · have h := h.1 hc
      refine w_iconst (q := 13) hm182 ⟨⟨_, _, rfl⟩, rfl⟩ iconst_0 ?_
      refine w_istore (q := 15) (l' := [oR 11, oI x1, oI x2, oR 55, oI (0 : Int32), none, none, none]) hm182 ⟨⟨_, _, rfl⟩, rfl⟩ rfl rfl rfl ?_
      refine w_aload_n (q := 16) hm182 ⟨⟨_, _, rfl⟩, rfl⟩ rfl ?_
      refine w_getr (q := 19) hm182 ⟨⟨_, _, rfl⟩, rfl⟩ rfl ?_
      refine w_iload_n (q := 20) hm182 ⟨⟨_, _, rfl⟩, rfl⟩ rfl ?_
      obtain ⟨hi, h⟩ := h
      refine w_aald (q := 21) hm182 ⟨⟨_, _, rfl⟩, rfl⟩ rfl rfl hi ((And.intro (fun hc => ?_) (And.intro (fun hc => ?_) (And.intro (fun hc => ?_) (And.intro (fun hc => ?_) trivial)))))
      · have h := (h.1) hc
        refine w_iload_n (q := 22) hm182 ⟨⟨_, _, rfl⟩, rfl⟩ rfl ?_
        refine w_iconst (q := 23) hm182 ⟨⟨_, _, rfl⟩, rfl⟩ iconst_1 ?_
        refine w_iadd (q := 24) hm182 ⟨⟨_, _, rfl⟩, rfl⟩ ?_
        obtain ⟨hi, h⟩ := h
        refine w_iald (q := 25) (v := (m.1 14 (x2 + (1 : Int32)).toNatClampNeg)) hm182 ⟨⟨_, _, rfl⟩, rfl⟩ rfl hi rfl rfl ?_
        refine w_istore (q := 27) (l' := [oR 11, oI x1, oI x2, oR 55, oI (0 : Int32), oI (m.1 14 (x2 + (1 : Int32)).toNatClampNeg), none, none]) hm182 ⟨⟨_, _, rfl⟩, rfl⟩ rfl rfl rfl ?_
        refine w_aload_n (q := 28) hm182 ⟨⟨_, _, rfl⟩, rfl⟩ rfl ?_
        refine w_getr (q := 31) hm182 ⟨⟨_, _, rfl⟩, rfl⟩ rfl ?_
        refine w_iload_n (q := 32) hm182 ⟨⟨_, _, rfl⟩, rfl⟩ rfl ?_
        obtain ⟨hi, h⟩ := h
        refine w_aald (q := 33) hm182 ⟨⟨_, _, rfl⟩, rfl⟩ rfl rfl hi ((And.intro (fun hc => ?_) (And.intro (fun hc => ?_) (And.intro (fun hc => ?_) (And.intro (fun hc => ?_) trivial)))))
        · have h := (h.1) hc
          refine w_iload_n (q := 34) hm182 ⟨⟨_, _, rfl⟩, rfl⟩ rfl ?_
          obtain ⟨hi, h⟩ := h
          refine w_iald (q := 35) (v := (m.1 14 x2.toNatClampNeg)) hm182 ⟨⟨_, _, rfl⟩, rfl⟩ rfl hi rfl rfl ?_
          refine w_istore (q := 37) (l' := [oR 11, oI x1, oI x2, oR 55, oI (0 : Int32), oI (m.1 14 (x2 + (1 : Int32)).toNatClampNeg), oI (m.1 14 x2.toNatClampNeg), none]) hm182 ⟨⟨_, _, rfl⟩, rfl⟩ rfl rfl rfl ?_
          exact Wp.wk [true, false, false, true, true, true, true, false] h
        · have h := (h.2.1) hc
          refine w_iload_n (q := 34) hm182 ⟨⟨_, _, rfl⟩, rfl⟩ rfl ?_
          obtain ⟨hi, h⟩ := h
          refine w_iald (q := 35) (v := (m.1 15 x2.toNatClampNeg)) hm182 ⟨⟨_, _, rfl⟩, rfl⟩ rfl hi rfl rfl ?_
          refine w_istore (q := 37) (l' := [oR 11, oI x1, oI x2, oR 55, oI (0 : Int32), oI (m.1 14 (x2 + (1 : Int32)).toNatClampNeg), oI (m.1 15 x2.toNatClampNeg), none]) hm182 ⟨⟨_, _, rfl⟩, rfl⟩ rfl rfl rfl ?_
          exact Wp.wk [true, false, false, true, true, true, true, false] h
        · have h := (h.2.2.1) hc
          refine w_iload_n (q := 34) hm182 ⟨⟨_, _, rfl⟩, rfl⟩ rfl ?_
          obtain ⟨hi, h⟩ := h
          refine w_iald (q := 35) (v := (m.1 16 x2.toNatClampNeg)) hm182 ⟨⟨_, _, rfl⟩, rfl⟩ rfl hi rfl rfl ?_
          refine w_istore (q := 37) (l' := [oR 11, oI x1, oI x2, oR 55, oI (0 : Int32), oI (m.1 14 (x2 + (1 : Int32)).toNatClampNeg), oI (m.1 16 x2.toNatClampNeg), none]) hm182 ⟨⟨_, _, rfl⟩, rfl⟩ rfl rfl rfl ?_
          exact Wp.wk [true, false, false, true, true, true, true, false] h
        · have h := (h.2.2.2) hc
          refine w_iload_n (q := 34) hm182 ⟨⟨_, _, rfl⟩, rfl⟩ rfl ?_
          obtain ⟨hi, h⟩ := h
          refine w_iald (q := 35) (v := (m.1 17 x2.toNatClampNeg)) hm182 ⟨⟨_, _, rfl⟩, rfl⟩ rfl hi rfl rfl ?_
          refine w_istore (q := 37) (l' := [oR 11, oI x1, oI x2, oR 55, oI (0 : Int32), oI (m.1 14 (x2 + (1 : Int32)).toNatClampNeg), oI (m.1 17 x2.toNatClampNeg), none]) hm182 ⟨⟨_, _, rfl⟩, rfl⟩ rfl rfl rfl ?_
          exact Wp.wk [true, false, false, true, true, true, true, false] h
      · have h := (h.2.1) hc
        refine w_iload_n (q := 22) hm182 ⟨⟨_, _, rfl⟩, rfl⟩ rfl ?_
        refine w_iconst (q := 23) hm182 ⟨⟨_, _, rfl⟩, rfl⟩ iconst_1 ?_
        refine w_iadd (q := 24) hm182 ⟨⟨_, _, rfl⟩, rfl⟩ ?_
        obtain ⟨hi, h⟩ := h
        refine w_iald (q := 25) (v := (m.1 15 (x2 + (1 : Int32)).toNatClampNeg)) hm182 ⟨⟨_, _, rfl⟩, rfl⟩ rfl hi rfl rfl ?_
        refine w_istore (q := 27) (l' := [oR 11, oI x1, oI x2, oR 55, oI (0 : Int32), oI (m.1 15 (x2 + (1 : Int32)).toNatClampNeg), none, none]) hm182 ⟨⟨_, _, rfl⟩, rfl⟩ rfl rfl rfl ?_
        refine w_aload_n (q := 28) hm182 ⟨⟨_, _, rfl⟩, rfl⟩ rfl ?_
        refine w_getr (q := 31) hm182 ⟨⟨_, _, rfl⟩, rfl⟩ rfl ?_
        refine w_iload_n (q := 32) hm182 ⟨⟨_, _, rfl⟩, rfl⟩ rfl ?_
        obtain ⟨hi, h⟩ := h
        refine w_aald (q := 33) hm182 ⟨⟨_, _, rfl⟩, rfl⟩ rfl rfl hi ((And.intro (fun hc => ?_) (And.intro (fun hc => ?_) (And.intro (fun hc => ?_) (And.intro (fun hc => ?_) trivial)))))
        · have h := (h.1) hc
          refine w_iload_n (q := 34) hm182 ⟨⟨_, _, rfl⟩, rfl⟩ rfl ?_
          obtain ⟨hi, h⟩ := h
          refine w_iald (q := 35) (v := (m.1 14 x2.toNatClampNeg)) hm182 ⟨⟨_, _, rfl⟩, rfl⟩ rfl hi rfl rfl ?_
          refine w_istore (q := 37) (l' := [oR 11, oI x1, oI x2, oR 55, oI (0 : Int32), oI (m.1 15 (x2 + (1 : Int32)).toNatClampNeg), oI (m.1 14 x2.toNatClampNeg), none]) hm182 ⟨⟨_, _, rfl⟩, rfl⟩ rfl rfl rfl ?_
          exact Wp.wk [true, false, false, true, true, true, true, false] h
        · have h := (h.2.1) hc
          refine w_iload_n (q := 34) hm182 ⟨⟨_, _, rfl⟩, rfl⟩ rfl ?_
          obtain ⟨hi, h⟩ := h
          refine w_iald (q := 35) (v := (m.1 15 x2.toNatClampNeg)) hm182 ⟨⟨_, _, rfl⟩, rfl⟩ rfl hi rfl rfl ?_
          refine w_istore (q := 37) (l' := [oR 11, oI x1, oI x2, oR 55, oI (0 : Int32), oI (m.1 15 (x2 + (1 : Int32)).toNatClampNeg), oI (m.1 15 x2.toNatClampNeg), none]) hm182 ⟨⟨_, _, rfl⟩, rfl⟩ rfl rfl rfl ?_
          exact Wp.wk [true, false, false, true, true, true, true, false] h
        · have h := (h.2.2.1) hc
          refine w_iload_n (q := 34) hm182 ⟨⟨_, _, rfl⟩, rfl⟩ rfl ?_
          obtain ⟨hi, h⟩ := h
          refine w_iald (q := 35) (v := (m.1 16 x2.toNatClampNeg)) hm182 ⟨⟨_, _, rfl⟩, rfl⟩ rfl hi rfl rfl ?_
          refine w_istore (q := 37) (l' := [oR 11, oI x1, oI x2, oR 55, oI (0 : Int32), oI (m.1 15 (x2 + (1 : Int32)).toNatClampNeg), oI (m.1 16 x2.toNatClampNeg), none]) hm182 ⟨⟨_, _, rfl⟩, rfl⟩ rfl rfl rfl ?_
          exact Wp.wk [true, false, false, true, true, true, true, false] h
        · have h := (h.2.2.2) hc
          refine w_iload_n (q := 34) hm182 ⟨⟨_, _, rfl⟩, rfl⟩ rfl ?_
          obtain ⟨hi, h⟩ := h
          refine w_iald (q := 35) (v := (m.1 17 x2.toNatClampNeg)) hm182 ⟨⟨_, _, rfl⟩, rfl⟩ rfl hi rfl rfl ?_
          refine w_istore (q := 37) (l' := [oR 11, oI x1, oI x2, oR 55, oI (0 : Int32), oI (m.1 15 (x2 + (1 : Int32)).toNatClampNeg), oI (m.1 17 x2.toNatClampNeg), none]) hm182 ⟨⟨_, _, rfl⟩, rfl⟩ rfl rfl rfl ?_
          exact Wp.wk [true, false, false, true, true, true, true, false] h
      · have h := (h.2.2.1) hc
        refine w_iload_n (q := 22) hm182 ⟨⟨_, _, rfl⟩, rfl⟩ rfl ?_
        refine w_iconst (q := 23) hm182 ⟨⟨_, _, rfl⟩, rfl⟩ iconst_1 ?_
        refine w_iadd (q := 24) hm182 ⟨⟨_, _, rfl⟩, rfl⟩ ?_
        obtain ⟨hi, h⟩ := h
        refine w_iald (q := 25) (v := (m.1 16 (x2 + (1 : Int32)).toNatClampNeg)) hm182 ⟨⟨_, _, rfl⟩, rfl⟩ rfl hi rfl rfl ?_
        refine w_istore (q := 27) (l' := [oR 11, oI x1, oI x2, oR 55, oI (0 : Int32), oI (m.1 16 (x2 + (1 : Int32)).toNatClampNeg), none, none]) hm182 ⟨⟨_, _, rfl⟩, rfl⟩ rfl rfl rfl ?_
        refine w_aload_n (q := 28) hm182 ⟨⟨_, _, rfl⟩, rfl⟩ rfl ?_
        refine w_getr (q := 31) hm182 ⟨⟨_, _, rfl⟩, rfl⟩ rfl ?_
        refine w_iload_n (q := 32) hm182 ⟨⟨_, _, rfl⟩, rfl⟩ rfl ?_
        obtain ⟨hi, h⟩ := h
        refine w_aald (q := 33) hm182 ⟨⟨_, _, rfl⟩, rfl⟩ rfl rfl hi ((And.intro (fun hc => ?_) (And.intro (fun hc => ?_) (And.intro (fun hc => ?_) (And.intro (fun hc => ?_) trivial)))))
        · have h := (h.1) hc
          refine w_iload_n (q := 34) hm182 ⟨⟨_, _, rfl⟩, rfl⟩ rfl ?_
          obtain ⟨hi, h⟩ := h
          refine w_iald (q := 35) (v := (m.1 14 x2.toNatClampNeg)) hm182 ⟨⟨_, _, rfl⟩, rfl⟩ rfl hi rfl rfl ?_
          refine w_istore (q := 37) (l' := [oR 11, oI x1, oI x2, oR 55, oI (0 : Int32), oI (m.1 16 (x2 + (1 : Int32)).toNatClampNeg), oI (m.1 14 x2.toNatClampNeg), none]) hm182 ⟨⟨_, _, rfl⟩, rfl⟩ rfl rfl rfl ?_
          exact Wp.wk [true, false, false, true, true, true, true, false] h
        · have h := (h.2.1) hc
          refine w_iload_n (q := 34) hm182 ⟨⟨_, _, rfl⟩, rfl⟩ rfl ?_
          obtain ⟨hi, h⟩ := h
          refine w_iald (q := 35) (v := (m.1 15 x2.toNatClampNeg)) hm182 ⟨⟨_, _, rfl⟩, rfl⟩ rfl hi rfl rfl ?_
          refine w_istore (q := 37) (l' := [oR 11, oI x1, oI x2, oR 55, oI (0 : Int32), oI (m.1 16 (x2 + (1 : Int32)).toNatClampNeg), oI (m.1 15 x2.toNatClampNeg), none]) hm182 ⟨⟨_, _, rfl⟩, rfl⟩ rfl rfl rfl ?_
          exact Wp.wk [true, false, false, true, true, true, true, false] h
        · have h := (h.2.2.1) hc
          refine w_iload_n (q := 34) hm182 ⟨⟨_, _, rfl⟩, rfl⟩ rfl ?_
          obtain ⟨hi, h⟩ := h
          refine w_iald (q := 35) (v := (m.1 16 x2.toNatClampNeg)) hm182 ⟨⟨_, _, rfl⟩, rfl⟩ rfl hi rfl rfl ?_
          refine w_istore (q := 37) (l' := [oR 11, oI x1, oI x2, oR 55, oI (0 : Int32), oI (m.1 16 (x2 + (1 : Int32)).toNatClampNeg), oI (m.1 16 x2.toNatClampNeg), none]) hm182 ⟨⟨_, _, rfl⟩, rfl⟩ rfl rfl rfl ?_
          exact Wp.wk [true, false, false, true, true, true, true, false] h
        · have h := (h.2.2.2) hc
          refine w_iload_n (q := 34) hm182 ⟨⟨_, _, rfl⟩, rfl⟩ rfl ?_
          obtain ⟨hi, h⟩ := h
          refine w_iald (q := 35) (v := (m.1 17 x2.toNatClampNeg)) hm182 ⟨⟨_, _, rfl⟩, rfl⟩ rfl hi rfl rfl ?_
          refine w_istore (q := 37) (l' := [oR 11, oI x1, oI x2, oR 55, oI (0 : Int32), oI (m.1 16 (x2 + (1 : Int32)).toNatClampNeg), oI (m.1 17 x2.toNatClampNeg), none]) hm182 ⟨⟨_, _, rfl⟩, rfl⟩ rfl rfl rfl ?_
          exact Wp.wk [true, false, false, true, true, true, true, false] h
      · have h := (h.2.2.2) hc
        refine w_iload_n (q := 22) hm182 ⟨⟨_, _, rfl⟩, rfl⟩ rfl ?_
        refine w_iconst (q := 23) hm182 ⟨⟨_, _, rfl⟩, rfl⟩ iconst_1 ?_
        refine w_iadd (q := 24) hm182 ⟨⟨_, _, rfl⟩, rfl⟩ ?_
        obtain ⟨hi, h⟩ := h
        refine w_iald (q := 25) (v := (m.1 17 (x2 + (1 : Int32)).toNatClampNeg)) hm182 ⟨⟨_, _, rfl⟩, rfl⟩ rfl hi rfl rfl ?_
        refine w_istore (q := 27) (l' := [oR 11, oI x1, oI x2, oR 55, oI (0 : Int32), oI (m.1 17 (x2 + (1 : Int32)).toNatClampNeg), none, none]) hm182 ⟨⟨_, _, rfl⟩, rfl⟩ rfl rfl rfl ?_
        refine w_aload_n (q := 28) hm182 ⟨⟨_, _, rfl⟩, rfl⟩ rfl ?_
        refine w_getr (q := 31) hm182 ⟨⟨_, _, rfl⟩, rfl⟩ rfl ?_
        refine w_iload_n (q := 32) hm182 ⟨⟨_, _, rfl⟩, rfl⟩ rfl ?_
        obtain ⟨hi, h⟩ := h
        refine w_aald (q := 33) hm182 ⟨⟨_, _, rfl⟩, rfl⟩ rfl rfl hi ((And.intro (fun hc => ?_) (And.intro (fun hc => ?_) (And.intro (fun hc => ?_) (And.intro (fun hc => ?_) trivial)))))
        · have h := (h.1) hc
          refine w_iload_n (q := 34) hm182 ⟨⟨_, _, rfl⟩, rfl⟩ rfl ?_
          obtain ⟨hi, h⟩ := h
          refine w_iald (q := 35) (v := (m.1 14 x2.toNatClampNeg)) hm182 ⟨⟨_, _, rfl⟩, rfl⟩ rfl hi rfl rfl ?_
          refine w_istore (q := 37) (l' := [oR 11, oI x1, oI x2, oR 55, oI (0 : Int32), oI (m.1 17 (x2 + (1 : Int32)).toNatClampNeg), oI (m.1 14 x2.toNatClampNeg), none]) hm182 ⟨⟨_, _, rfl⟩, rfl⟩ rfl rfl rfl ?_
          exact Wp.wk [true, false, false, true, true, true, true, false] h
        · have h := (h.2.1) hc
          refine w_iload_n (q := 34) hm182 ⟨⟨_, _, rfl⟩, rfl⟩ rfl ?_
          obtain ⟨hi, h⟩ := h
          refine w_iald (q := 35) (v := (m.1 15 x2.toNatClampNeg)) hm182 ⟨⟨_, _, rfl⟩, rfl⟩ rfl hi rfl rfl ?_
          refine w_istore (q := 37) (l' := [oR 11, oI x1, oI x2, oR 55, oI (0 : Int32), oI (m.1 17 (x2 + (1 : Int32)).toNatClampNeg), oI (m.1 15 x2.toNatClampNeg), none]) hm182 ⟨⟨_, _, rfl⟩, rfl⟩ rfl rfl rfl ?_
          exact Wp.wk [true, false, false, true, true, true, true, false] h
        · have h := (h.2.2.1) hc
          refine w_iload_n (q := 34) hm182 ⟨⟨_, _, rfl⟩, rfl⟩ rfl ?_
          obtain ⟨hi, h⟩ := h
          refine w_iald (q := 35) (v := (m.1 16 x2.toNatClampNeg)) hm182 ⟨⟨_, _, rfl⟩, rfl⟩ rfl hi rfl rfl ?_
          refine w_istore (q := 37) (l' := [oR 11, oI x1, oI x2, oR 55, oI (0 : Int32), oI (m.1 17 (x2 + (1 : Int32)).toNatClampNeg), oI (m.1 16 x2.toNatClampNeg), none]) hm182 ⟨⟨_, _, rfl⟩, rfl⟩ rfl rfl rfl ?_
          exact Wp.wk [true, false, false, true, true, true, true, false] h
        · have h := (h.2.2.2) hc
          refine w_iload_n (q := 34) hm182 ⟨⟨_, _, rfl⟩, rfl⟩ rfl ?_
          obtain ⟨hi, h⟩ := h
          refine w_iald (q := 35) (v := (m.1 17 x2.toNatClampNeg)) hm182 ⟨⟨_, _, rfl⟩, rfl⟩ rfl hi rfl rfl ?_
          refine w_istore (q := 37) (l' := [oR 11, oI x1, oI x2, oR 55, oI (0 : Int32), oI (m.1 17 (x2 + (1 : Int32)).toNatClampNeg), oI (m.1 17 x2.toNatClampNeg), none]) hm182 ⟨⟨_, _, rfl⟩, rfl⟩ rfl rfl rfl ?_
          exact Wp.wk [true, false, false, true, true, true, true, false] h
    · have h := h.2 hc
      exact Wp.wk [false, false, false, false, false, false, false, false] h
theorem v_X4_pieceTells_11_55_10 {d : Nat} {m : dM} {Q : Int32 → dM → Prop} (h : Q (0 : Int32) m) : j_X4_pieceTells_11_55_10 (d + 1) m Q := by
  refine w_iconst (q := 11) hm182 ⟨⟨_, _, rfl⟩, rfl⟩ iconst_0 ?_
  exact w_reti hm182 ⟨⟨_, _, rfl⟩, rfl⟩ rfl h
theorem v_X4_pieceTells_11_55_37 {d : Nat} {x4 : Int32} {x5 : Int32} {x6 : Int32} {m : dM} {Q : Int32 → dM → Prop} (h : ((x5.toInt ≤ x6.toInt → j_X4_pieceTells_11_55_156 (d + 1) m Q) ∧ (x6.toInt < x5.toInt → ((32 ≤ x4.toInt → j_X4_pieceTells_11_55_156 (d + 1) m Q) ∧ (x4.toInt < 32 → ((0 ≤ x6.toInt ∧ x6.toInt < 406) ∧ (((m.1 12 x6.toNatClampNeg).toInt < 13 → (((m.1 12 x6.toNatClampNeg).toInt < 4 → ((x4.toInt < 2 → j_X4_pieceTells_11_55_150 (d + 1) x4 x5 x6 m Q) ∧ (2 ≤ x4.toInt → ((0 ≤ ((x4 + (-1 : Int32)) - (1 : Int32)).toInt ∧ ((x4 + (-1 : Int32)) - (1 : Int32)).toInt < 32) ∧ ((0 ≤ (x4 + (-1 : Int32)).toInt ∧ (x4 + (-1 : Int32)).toInt < 32) ∧ c_X4_worked_11 d (m.1 12 x6.toNatClampNeg) (m.1 19 ((x4 + (-1 : Int32)) - (1 : Int32)).toNatClampNeg) (m.1 19 (x4 + (-1 : Int32)).toNatClampNeg) m (fun r1 m1 => ((0 ≤ ((x4 + (-1 : Int32)) - (1 : Int32)).toInt ∧ ((x4 + (-1 : Int32)) - (1 : Int32)).toInt < 32) ∧ j_X4_pieceTells_11_55_150 (d + 1) (x4 + (-1 : Int32)) x5 x6 (dSet m1 19 ((x4 + (-1 : Int32)) - (1 : Int32)).toNatClampNeg r1) Q))))))) ∧ (4 ≤ (m.1 12 x6.toNatClampNeg).toInt → ((0 ≤ ((m.1 12 x6.toNatClampNeg) - (4 : Int32)).toInt ∧ ((m.1 12 x6.toNatClampNeg) - (4 : Int32)).toInt < 9) ∧ ((0 ≤ x4.toInt ∧ x4.toInt < 32) ∧ j_X4_pieceTells_11_55_150 (d + 1) (x4 + (1 : Int32)) x5 x6 (dSet m 19 x4.toNatClampNeg (m.1 55 ((m.1 12 x6.toNatClampNeg) - (4 : Int32)).toNatClampNeg)) Q))))) ∧ (13 ≤ (m.1 12 x6.toNatClampNeg).toInt → ((0 ≤ x4.toInt ∧ x4.toInt < 32) ∧ j_X4_pieceTells_11_55_150 (d + 1) (x4 + (1 : Int32)) x5 x6 (dSet m 19 x4.toNatClampNeg ((m.1 12 x6.toNatClampNeg) - (13 : Int32))) Q))))))))) : j_X4_pieceTells_11_55_37 (d + 1) x4 x5 x6 m Q := by
  refine w_iload (q := 39) hm182 ⟨⟨_, _, rfl⟩, rfl⟩ rfl ?_
  refine w_iload (q := 41) hm182 ⟨⟨_, _, rfl⟩, rfl⟩ rfl ?_
  refine w_icmp_ge (q := 44) (X := x6.toInt) (Y := x5.toInt) hm182 ⟨⟨_, _, rfl⟩, rfl⟩ rfl rfl (fun hc => ?_) (fun hc => ?_)
  · have h := h.1 hc
    exact Wp.wk [true, false, false, false, false, false, false, false] h
  · have h := h.2 hc
    refine w_iload (q := 46) hm182 ⟨⟨_, _, rfl⟩, rfl⟩ rfl ?_
    refine w_bipush (q := 48) hm182 ⟨⟨_, _, rfl⟩, rfl⟩ bipush_32 ?_
    refine w_icmp_ge (q := 51) (X := x4.toInt) (Y := 32) hm182 ⟨⟨_, _, rfl⟩, rfl⟩ rfl (by decide) (fun hc => ?_) (fun hc => ?_)
    · have h := h.1 hc
      exact Wp.wk [true, false, false, false, false, false, false, false] h
    · have h := h.2 hc
      refine w_aload_n (q := 52) hm182 ⟨⟨_, _, rfl⟩, rfl⟩ rfl ?_
      refine w_getr (q := 55) hm182 ⟨⟨_, _, rfl⟩, rfl⟩ rfl ?_
      refine w_iload (q := 57) hm182 ⟨⟨_, _, rfl⟩, rfl⟩ rfl ?_
      obtain ⟨hi, h⟩ := h
      refine w_iald (q := 58) (v := (m.1 12 x6.toNatClampNeg)) hm182 ⟨⟨_, _, rfl⟩, rfl⟩ rfl hi rfl rfl ?_
      refine w_istore (q := 60) (l' := [oR 11, none, none, oR 55, oI x4, oI x5, oI x6, oI (m.1 12 x6.toNatClampNeg)]) hm182 ⟨⟨_, _, rfl⟩, rfl⟩ rfl rfl rfl ?_
      refine w_iload (q := 62) hm182 ⟨⟨_, _, rfl⟩, rfl⟩ rfl ?_
      refine w_bipush (q := 64) hm182 ⟨⟨_, _, rfl⟩, rfl⟩ bipush_13 ?_
      refine w_icmp_lt (q := 67) (X := (m.1 12 x6.toNatClampNeg).toInt) (Y := 13) hm182 ⟨⟨_, _, rfl⟩, rfl⟩ rfl (by decide) (fun hc => ?_) (fun hc => ?_)
      · have h := h.1 hc
        refine w_iload (q := 87) hm182 ⟨⟨_, _, rfl⟩, rfl⟩ rfl ?_
        refine w_iconst (q := 88) hm182 ⟨⟨_, _, rfl⟩, rfl⟩ iconst_4 ?_
        refine w_icmp_lt (q := 91) (X := (m.1 12 x6.toNatClampNeg).toInt) (Y := 4) hm182 ⟨⟨_, _, rfl⟩, rfl⟩ rfl (by decide) (fun hc => ?_) (fun hc => ?_)
        · have h := h.1 hc
          refine w_iload (q := 112) hm182 ⟨⟨_, _, rfl⟩, rfl⟩ rfl ?_
          refine w_iconst (q := 113) hm182 ⟨⟨_, _, rfl⟩, rfl⟩ iconst_2 ?_
          refine w_icmp_lt (q := 116) (X := x4.toInt) (Y := 2) hm182 ⟨⟨_, _, rfl⟩, rfl⟩ rfl (by decide) (fun hc => ?_) (fun hc => ?_)
          · have h := h.1 hc
            exact Wp.wk [true, false, false, true, true, true, true, false] h
          · have h := h.2 hc
            refine w_iinc (q := 119) (l' := [oR 11, none, none, oR 55, oI (x4 + (-1 : Int32)), oI x5, oI x6, oI (m.1 12 x6.toNatClampNeg)]) hm182 ⟨⟨_, _, rfl⟩, rfl⟩ rfl rfl rfl iconst_m1 rfl ?_
            refine w_aload_n (q := 120) hm182 ⟨⟨_, _, rfl⟩, rfl⟩ rfl ?_
            refine w_getr (q := 123) hm182 ⟨⟨_, _, rfl⟩, rfl⟩ rfl ?_
            refine w_iload (q := 125) hm182 ⟨⟨_, _, rfl⟩, rfl⟩ rfl ?_
            refine w_iconst (q := 126) hm182 ⟨⟨_, _, rfl⟩, rfl⟩ iconst_1 ?_
            refine w_isub (q := 127) hm182 ⟨⟨_, _, rfl⟩, rfl⟩ ?_
            refine w_aload_n (q := 128) hm182 ⟨⟨_, _, rfl⟩, rfl⟩ rfl ?_
            refine w_iload (q := 130) hm182 ⟨⟨_, _, rfl⟩, rfl⟩ rfl ?_
            refine w_aload_n (q := 131) hm182 ⟨⟨_, _, rfl⟩, rfl⟩ rfl ?_
            refine w_getr (q := 134) hm182 ⟨⟨_, _, rfl⟩, rfl⟩ rfl ?_
            refine w_iload (q := 136) hm182 ⟨⟨_, _, rfl⟩, rfl⟩ rfl ?_
            refine w_iconst (q := 137) hm182 ⟨⟨_, _, rfl⟩, rfl⟩ iconst_1 ?_
            refine w_isub (q := 138) hm182 ⟨⟨_, _, rfl⟩, rfl⟩ ?_
            obtain ⟨hi, h⟩ := h
            refine w_iald (q := 139) (v := (m.1 19 ((x4 + (-1 : Int32)) - (1 : Int32)).toNatClampNeg)) hm182 ⟨⟨_, _, rfl⟩, rfl⟩ rfl hi rfl rfl ?_
            refine w_aload_n (q := 140) hm182 ⟨⟨_, _, rfl⟩, rfl⟩ rfl ?_
            refine w_getr (q := 143) hm182 ⟨⟨_, _, rfl⟩, rfl⟩ rfl ?_
            refine w_iload (q := 145) hm182 ⟨⟨_, _, rfl⟩, rfl⟩ rfl ?_
            obtain ⟨hi, h⟩ := h
            refine w_iald (q := 146) (v := (m.1 19 (x4 + (-1 : Int32)).toNatClampNeg)) hm182 ⟨⟨_, _, rfl⟩, rfl⟩ rfl hi rfl rfl ?_
            refine w_call (q := 149) (n := 0) (vs := [.inr (.inr (some 11)), .inl (m.1 12 x6.toNatClampNeg), .inl (m.1 19 ((x4 + (-1 : Int32)) - (1 : Int32)).toNatClampNeg), .inl (m.1 19 (x4 + (-1 : Int32)).toNatClampNeg)]) (rest := [.inl ((x4 + (-1 : Int32)) - (1 : Int32)), .inr (.inr (some 19))]) (la := [oR 11, oI (m.1 12 x6.toNatClampNeg), oI (m.1 19 ((x4 + (-1 : Int32)) - (1 : Int32)).toNatClampNeg), oI (m.1 19 (x4 + (-1 : Int32)).toNatClampNeg)]) hm182 ⟨⟨_, _, rfl⟩, rfl⟩ rfl rfl rfl rfl hm183 rfl rfl (fun _ => ⟨_, _, rfl, rfl⟩) rfl (Wp.mono h ?_)
            rintro _ m1 ⟨r1, rfl, h⟩
            change Wp _ _ 149 _ [.inl r1, .inl ((x4 + (-1 : Int32)) - (1 : Int32)), .inr (.inr (some 19))] _ _
            obtain ⟨hi, h⟩ := h
            refine w_iast (q := 150) hm182 ⟨⟨_, _, rfl⟩, rfl⟩ rfl hi rfl rfl ?_
            exact Wp.wk [true, false, false, true, true, true, true, false] h
        · have h := h.2 hc
          refine w_aload_n (q := 92) hm182 ⟨⟨_, _, rfl⟩, rfl⟩ rfl ?_
          refine w_getr (q := 95) hm182 ⟨⟨_, _, rfl⟩, rfl⟩ rfl ?_
          refine w_iload (q := 97) hm182 ⟨⟨_, _, rfl⟩, rfl⟩ rfl ?_
          refine w_aload_n (q := 98) hm182 ⟨⟨_, _, rfl⟩, rfl⟩ rfl ?_
          refine w_iload (q := 100) hm182 ⟨⟨_, _, rfl⟩, rfl⟩ rfl ?_
          refine w_iconst (q := 101) hm182 ⟨⟨_, _, rfl⟩, rfl⟩ iconst_4 ?_
          refine w_isub (q := 102) hm182 ⟨⟨_, _, rfl⟩, rfl⟩ ?_
          obtain ⟨hi, h⟩ := h
          refine w_iald (q := 103) (v := (m.1 55 ((m.1 12 x6.toNatClampNeg) - (4 : Int32)).toNatClampNeg)) hm182 ⟨⟨_, _, rfl⟩, rfl⟩ rfl hi rfl rfl ?_
          obtain ⟨hi, h⟩ := h
          refine w_iast (q := 104) hm182 ⟨⟨_, _, rfl⟩, rfl⟩ rfl hi rfl rfl ?_
          refine w_iinc (q := 107) (l' := [oR 11, none, none, oR 55, oI (x4 + (1 : Int32)), oI x5, oI x6, oI (m.1 12 x6.toNatClampNeg)]) hm182 ⟨⟨_, _, rfl⟩, rfl⟩ rfl rfl rfl iconst_1 rfl ?_
          refine w_goto (q := 150) hm182 ⟨_, _, rfl⟩ ?_
          exact Wp.wk [true, false, false, true, true, true, true, false] h
      · have h := h.2 hc
        refine w_aload_n (q := 68) hm182 ⟨⟨_, _, rfl⟩, rfl⟩ rfl ?_
        refine w_getr (q := 71) hm182 ⟨⟨_, _, rfl⟩, rfl⟩ rfl ?_
        refine w_iload (q := 73) hm182 ⟨⟨_, _, rfl⟩, rfl⟩ rfl ?_
        refine w_iload (q := 75) hm182 ⟨⟨_, _, rfl⟩, rfl⟩ rfl ?_
        refine w_bipush (q := 77) hm182 ⟨⟨_, _, rfl⟩, rfl⟩ bipush_13 ?_
        refine w_isub (q := 78) hm182 ⟨⟨_, _, rfl⟩, rfl⟩ ?_
        obtain ⟨hi, h⟩ := h
        refine w_iast (q := 79) hm182 ⟨⟨_, _, rfl⟩, rfl⟩ rfl hi rfl rfl ?_
        refine w_iinc (q := 82) (l' := [oR 11, none, none, oR 55, oI (x4 + (1 : Int32)), oI x5, oI x6, oI (m.1 12 x6.toNatClampNeg)]) hm182 ⟨⟨_, _, rfl⟩, rfl⟩ rfl rfl rfl iconst_1 rfl ?_
        refine w_goto (q := 150) hm182 ⟨_, _, rfl⟩ ?_
        exact Wp.wk [true, false, false, true, true, true, true, false] h
theorem v_X4_pieceTells_11_55_150 {d : Nat} {x4 : Int32} {x5 : Int32} {x6 : Int32} {m : dM} {Q : Int32 → dM → Prop} (h : j_X4_pieceTells_11_55_37 (d + 1) x4 x5 (x6 + (1 : Int32)) m Q) : j_X4_pieceTells_11_55_150 (d + 1) x4 x5 x6 m Q := by
  refine w_iinc (q := 153) (l' := [oR 11, none, none, oR 55, oI x4, oI x5, oI (x6 + (1 : Int32)), none]) hm182 ⟨⟨_, _, rfl⟩, rfl⟩ rfl rfl rfl iconst_1 rfl ?_
  refine w_goto (q := 37) hm182 ⟨_, _, rfl⟩ ?_
  exact h
theorem v_X4_pieceTells_11_55_156 {d : Nat} {m : dM} {Q : Int32 → dM → Prop} (h : Q (m.1 19 0) m) : j_X4_pieceTells_11_55_156 (d + 1) m Q := by
  refine w_aload_n (q := 157) hm182 ⟨⟨_, _, rfl⟩, rfl⟩ rfl ?_
  refine w_getr (q := 160) hm182 ⟨⟨_, _, rfl⟩, rfl⟩ rfl ?_
  refine w_iconst (q := 161) hm182 ⟨⟨_, _, rfl⟩, rfl⟩ iconst_0 ?_
  refine w_iald (q := 162) (j := 0) (v := (m.1 19 0)) hm182 ⟨⟨_, _, rfl⟩, rfl⟩ rfl (by decide) (by decide) rfl ?_
  exact w_reti hm182 ⟨⟨_, _, rfl⟩, rfl⟩ rfl h
