theorem v_X11_putBytes_0 {d : Nat} {x1 : Int32} {m : dM} {Q : dM → Prop} (h : j_X11_putBytes_0_3 (d + 1) x1 (24 : Int32) m Q) : c_X11_putBytes_0 (d + 1) x1 m Q := by
  refine w_bipush (q := 2) hm244 ⟨⟨_, _, rfl⟩, rfl⟩ bipush_24 ?_
  refine w_istore_n (q := 3) (l' := [oR 0, oI x1, oI (24 : Int32)]) hm244 ⟨⟨_, _, rfl⟩, rfl⟩ rfl rfl rfl ?_
  exact h
theorem v_X11_putBytes_0_3 {d : Nat} {x1 : Int32} {x2 : Int32} {m : dM} {Q : dM → Prop} (h : ((x2.toInt < 0 → j_X11_putBytes_0_46 (d + 1) m Q) ∧ (0 ≤ x2.toInt → ((2000 ≤ (m.1 0 1).toInt → j_X11_putBytes_0_46 (d + 1) m Q) ∧ ((m.1 0 1).toInt < 2000 → ((0 ≤ (m.1 0 1).toInt ∧ (m.1 0 1).toInt < 2000) ∧ j_X11_putBytes_0_3 (d + 1) x1 (x2 + (-8 : Int32)) (dSet (dSet m 1 (m.1 0 1).toNatClampNeg (x1.toUInt32 >>> (x2.toUInt32 &&& Int32.toUInt32 31)).toInt32.toInt8.toInt32.toInt8.toInt32) 0 1 ((m.1 0 1) + (1 : Int32))) Q)))))) : j_X11_putBytes_0_3 (d + 1) x1 x2 m Q := by
  refine w_iload_n (q := 4) hm244 ⟨⟨_, _, rfl⟩, rfl⟩ rfl ?_
  refine w_if_lt (q := 7) (X := x2.toInt) hm244 ⟨⟨_, _, rfl⟩, rfl⟩ rfl (fun hc => ?_) (fun hc => ?_)
  · have h := h.1 hc
    exact Wp.wk [false, false, false] h
  · have h := h.2 hc
    refine w_aload_n (q := 8) hm244 ⟨⟨_, _, rfl⟩, rfl⟩ rfl ?_
    refine w_getf (q := 11) (v := (m.1 0 1)) hm244 ⟨⟨_, _, rfl⟩, rfl⟩ rfl rfl ?_
    refine w_sipush (q := 14) hm244 ⟨⟨_, _, rfl⟩, rfl⟩ sipush_2000 ?_
    refine w_icmp_ge (q := 17) (X := (m.1 0 1).toInt) (Y := 2000) hm244 ⟨⟨_, _, rfl⟩, rfl⟩ rfl (by decide) (fun hc => ?_) (fun hc => ?_)
    · have h := h.1 hc
      exact Wp.wk [false, false, false] h
    · have h := h.2 hc
      refine w_aload_n (q := 18) hm244 ⟨⟨_, _, rfl⟩, rfl⟩ rfl ?_
      refine w_getr (q := 21) hm244 ⟨⟨_, _, rfl⟩, rfl⟩ rfl ?_
      refine w_aload_n (q := 22) hm244 ⟨⟨_, _, rfl⟩, rfl⟩ rfl ?_
      refine w_getf (q := 25) (v := (m.1 0 1)) hm244 ⟨⟨_, _, rfl⟩, rfl⟩ rfl rfl ?_
      refine w_iload_n (q := 26) hm244 ⟨⟨_, _, rfl⟩, rfl⟩ rfl ?_
      refine w_iload_n (q := 27) hm244 ⟨⟨_, _, rfl⟩, rfl⟩ rfl ?_
      refine w_iushr (q := 28) hm244 ⟨⟨_, _, rfl⟩, rfl⟩ ?_
      refine w_i2b (q := 29) hm244 ⟨⟨_, _, rfl⟩, rfl⟩ ?_
      obtain ⟨hi, h⟩ := h
      refine w_bast (q := 30) hm244 ⟨⟨_, _, rfl⟩, rfl⟩ rfl hi rfl rfl ?_
      refine w_aload_n (q := 31) hm244 ⟨⟨_, _, rfl⟩, rfl⟩ rfl ?_
      refine w_dup (q := 32) hm244 ⟨⟨_, _, rfl⟩, rfl⟩ rfl ?_
      refine w_getf (q := 35) (v := (m.1 0 1)) hm244 ⟨⟨_, _, rfl⟩, rfl⟩ rfl rfl ?_
      refine w_iconst (q := 36) hm244 ⟨⟨_, _, rfl⟩, rfl⟩ iconst_1 ?_
      refine w_iadd (q := 37) hm244 ⟨⟨_, _, rfl⟩, rfl⟩ ?_
      refine w_putf (q := 40) hm244 ⟨⟨_, _, rfl⟩, rfl⟩ rfl rfl rfl ?_
      refine w_iinc (q := 43) (l' := [oR 0, oI x1, oI (x2 + (-8 : Int32))]) hm244 ⟨⟨_, _, rfl⟩, rfl⟩ rfl rfl rfl iconst_m8 rfl ?_
      refine w_goto (q := 3) hm244 ⟨_, _, rfl⟩ ?_
      exact h
theorem v_X11_putBytes_0_46 {d : Nat} {m : dM} {Q : dM → Prop} (h : Q m) : j_X11_putBytes_0_46 (d + 1) m Q := by
  exact w_retv hm244 ⟨⟨_, _, rfl⟩, rfl⟩ rfl h
theorem v_X11_feed_0 {d : Nat} {x1 : Int32} {x2 : Int32} {x3 : Int32} {x4 : Int32} {x5 : Int32} {m : dM} {Q : Int32 → dM → Prop} (h : ((((m.1 0 1) + (20 : Int32)).toInt ≤ 2000 → c_X11_putBytes_0 d x1 m (fun m1 => c_X11_putBytes_0 d x2 m1 (fun m2 => c_X11_putBytes_0 d x3 m2 (fun m3 => c_X11_putBytes_0 d x4 m3 (fun m4 => c_X11_putBytes_0 d x5 m4 (fun m5 => Q (m5.1 0 1) m5)))))) ∧ (2000 < ((m.1 0 1) + (20 : Int32)).toInt → Q (-1 : Int32) m))) : c_X11_feed_0 (d + 1) x1 x2 x3 x4 x5 m Q := by
  refine w_aload_n (q := 1) hm243 ⟨⟨_, _, rfl⟩, rfl⟩ rfl ?_
  refine w_getf (q := 4) (v := (m.1 0 1)) hm243 ⟨⟨_, _, rfl⟩, rfl⟩ rfl rfl ?_
  refine w_bipush (q := 6) hm243 ⟨⟨_, _, rfl⟩, rfl⟩ bipush_20 ?_
  refine w_iadd (q := 7) hm243 ⟨⟨_, _, rfl⟩, rfl⟩ ?_
  refine w_sipush (q := 10) hm243 ⟨⟨_, _, rfl⟩, rfl⟩ sipush_2000 ?_
  refine w_icmp_le (q := 13) (X := ((m.1 0 1) + (20 : Int32)).toInt) (Y := 2000) hm243 ⟨⟨_, _, rfl⟩, rfl⟩ rfl (by decide) (fun hc => ?_) (fun hc => ?_)
  · have h := h.1 hc
    refine w_aload_n (q := 16) hm243 ⟨⟨_, _, rfl⟩, rfl⟩ rfl ?_
    refine w_iload_n (q := 17) hm243 ⟨⟨_, _, rfl⟩, rfl⟩ rfl ?_
    refine w_call (q := 20) (n := 1) (vs := [.inr (.inr (some 0)), .inl x1]) (rest := []) (la := [oR 0, oI x1, none]) hm243 ⟨⟨_, _, rfl⟩, rfl⟩ rfl rfl rfl rfl hm244 rfl rfl (fun _ => ⟨_, _, rfl, rfl⟩) rfl (Wp.mono h ?_)
    rintro _ m1 ⟨rfl, h⟩
    change Wp _ _ 20 _ [] _ _
    refine w_aload_n (q := 21) hm243 ⟨⟨_, _, rfl⟩, rfl⟩ rfl ?_
    refine w_iload_n (q := 22) hm243 ⟨⟨_, _, rfl⟩, rfl⟩ rfl ?_
    refine w_call (q := 25) (n := 1) (vs := [.inr (.inr (some 0)), .inl x2]) (rest := []) (la := [oR 0, oI x2, none]) hm243 ⟨⟨_, _, rfl⟩, rfl⟩ rfl rfl rfl rfl hm244 rfl rfl (fun _ => ⟨_, _, rfl, rfl⟩) rfl (Wp.mono h ?_)
    rintro _ m2 ⟨rfl, h⟩
    change Wp _ _ 25 _ [] _ _
    refine w_aload_n (q := 26) hm243 ⟨⟨_, _, rfl⟩, rfl⟩ rfl ?_
    refine w_iload_n (q := 27) hm243 ⟨⟨_, _, rfl⟩, rfl⟩ rfl ?_
    refine w_call (q := 30) (n := 1) (vs := [.inr (.inr (some 0)), .inl x3]) (rest := []) (la := [oR 0, oI x3, none]) hm243 ⟨⟨_, _, rfl⟩, rfl⟩ rfl rfl rfl rfl hm244 rfl rfl (fun _ => ⟨_, _, rfl, rfl⟩) rfl (Wp.mono h ?_)
    rintro _ m3 ⟨rfl, h⟩
    change Wp _ _ 30 _ [] _ _
    refine w_aload_n (q := 31) hm243 ⟨⟨_, _, rfl⟩, rfl⟩ rfl ?_
    refine w_iload (q := 33) hm243 ⟨⟨_, _, rfl⟩, rfl⟩ rfl ?_
    refine w_call (q := 36) (n := 1) (vs := [.inr (.inr (some 0)), .inl x4]) (rest := []) (la := [oR 0, oI x4, none]) hm243 ⟨⟨_, _, rfl⟩, rfl⟩ rfl rfl rfl rfl hm244 rfl rfl (fun _ => ⟨_, _, rfl, rfl⟩) rfl (Wp.mono h ?_)
    rintro _ m4 ⟨rfl, h⟩
    change Wp _ _ 36 _ [] _ _
    refine w_aload_n (q := 37) hm243 ⟨⟨_, _, rfl⟩, rfl⟩ rfl ?_
    refine w_iload (q := 39) hm243 ⟨⟨_, _, rfl⟩, rfl⟩ rfl ?_
    refine w_call (q := 42) (n := 1) (vs := [.inr (.inr (some 0)), .inl x5]) (rest := []) (la := [oR 0, oI x5, none]) hm243 ⟨⟨_, _, rfl⟩, rfl⟩ rfl rfl rfl rfl hm244 rfl rfl (fun _ => ⟨_, _, rfl, rfl⟩) rfl (Wp.mono h ?_)
    rintro _ m5 ⟨rfl, h⟩
    change Wp _ _ 42 _ [] _ _
    refine w_aload_n (q := 43) hm243 ⟨⟨_, _, rfl⟩, rfl⟩ rfl ?_
    refine w_getf (q := 46) (v := (m5.1 0 1)) hm243 ⟨⟨_, _, rfl⟩, rfl⟩ rfl rfl ?_
    exact w_reti hm243 ⟨⟨_, _, rfl⟩, rfl⟩ rfl h
  · have h := h.2 hc
    refine w_iconst (q := 14) hm243 ⟨⟨_, _, rfl⟩, rfl⟩ iconst_m1 ?_
    exact w_reti hm243 ⟨⟨_, _, rfl⟩, rfl⟩ rfl h
theorem v_X12_put_70 {d : Nat} {x1 : Int32} {m : dM} {Q : dM → Prop} (h : j_X12_put_70_3 (d + 1) x1 (24 : Int32) m Q) : c_X12_put_70 (d + 1) x1 m Q := by
  refine w_bipush (q := 2) hm2 ⟨⟨_, _, rfl⟩, rfl⟩ bipush_24 ?_
  refine w_istore_n (q := 3) (l' := [oR 70, oI x1, oI (24 : Int32)]) hm2 ⟨⟨_, _, rfl⟩, rfl⟩ rfl rfl rfl ?_
  exact h
theorem v_X12_put_70_3 {d : Nat} {x1 : Int32} {x2 : Int32} {m : dM} {Q : dM → Prop} (h : ((x2.toInt < 0 → Q m) ∧ (0 ≤ x2.toInt → ((0 ≤ (m.1 70 2).toInt ∧ (m.1 70 2).toInt < 2000) ∧ j_X12_put_70_3 (d + 1) x1 (x2 + (-8 : Int32)) (dSet (dSet m 71 (m.1 70 2).toNatClampNeg (x1 >>> (x2 &&& 31)).toInt8.toInt32.toInt8.toInt32) 70 2 ((m.1 70 2) + (1 : Int32))) Q)))) : j_X12_put_70_3 (d + 1) x1 x2 m Q := by
  refine w_iload_n (q := 4) hm2 ⟨⟨_, _, rfl⟩, rfl⟩ rfl ?_
  refine w_if_lt (q := 7) (X := x2.toInt) hm2 ⟨⟨_, _, rfl⟩, rfl⟩ rfl (fun hc => ?_) (fun hc => ?_)
  · have h := h.1 hc
    exact w_retv hm2 ⟨⟨_, _, rfl⟩, rfl⟩ rfl h
  · have h := h.2 hc
    refine w_aload_n (q := 8) hm2 ⟨⟨_, _, rfl⟩, rfl⟩ rfl ?_
    refine w_getr (q := 11) hm2 ⟨⟨_, _, rfl⟩, rfl⟩ rfl ?_
    refine w_aload_n (q := 12) hm2 ⟨⟨_, _, rfl⟩, rfl⟩ rfl ?_
    refine w_getf (q := 15) (v := (m.1 70 2)) hm2 ⟨⟨_, _, rfl⟩, rfl⟩ rfl rfl ?_
    refine w_iload_n (q := 16) hm2 ⟨⟨_, _, rfl⟩, rfl⟩ rfl ?_
    refine w_iload_n (q := 17) hm2 ⟨⟨_, _, rfl⟩, rfl⟩ rfl ?_
    refine w_ishr (q := 18) hm2 ⟨⟨_, _, rfl⟩, rfl⟩ ?_
    refine w_i2b (q := 19) hm2 ⟨⟨_, _, rfl⟩, rfl⟩ ?_
    obtain ⟨hi, h⟩ := h
    refine w_bast (q := 20) hm2 ⟨⟨_, _, rfl⟩, rfl⟩ rfl hi rfl rfl ?_
    refine w_aload_n (q := 21) hm2 ⟨⟨_, _, rfl⟩, rfl⟩ rfl ?_
    refine w_dup (q := 22) hm2 ⟨⟨_, _, rfl⟩, rfl⟩ rfl ?_
    refine w_getf (q := 25) (v := (m.1 70 2)) hm2 ⟨⟨_, _, rfl⟩, rfl⟩ rfl rfl ?_
    refine w_iconst (q := 26) hm2 ⟨⟨_, _, rfl⟩, rfl⟩ iconst_1 ?_
    refine w_iadd (q := 27) hm2 ⟨⟨_, _, rfl⟩, rfl⟩ ?_
    refine w_putf (q := 30) hm2 ⟨⟨_, _, rfl⟩, rfl⟩ rfl rfl rfl ?_
    refine w_iinc (q := 33) (l' := [oR 70, oI x1, oI (x2 + (-8 : Int32))]) hm2 ⟨⟨_, _, rfl⟩, rfl⟩ rfl rfl rfl iconst_m8 rfl ?_
    refine w_goto (q := 3) hm2 ⟨_, _, rfl⟩ ?_
    exact h
theorem v_X12_feed_70 {d : Nat} {x1 : Int32} {x2 : Int32} {x3 : Int32} {x4 : Int32} {x5 : Int32} {m : dM} {Q : Int32 → dM → Prop} (h : ((((m.1 70 2) + (20 : Int32)).toInt ≤ 2000 → c_X12_put_70 d x1 m (fun m1 => c_X12_put_70 d x2 m1 (fun m2 => c_X12_put_70 d x3 m2 (fun m3 => c_X12_put_70 d x4 m3 (fun m4 => c_X12_put_70 d x5 m4 (fun m5 => Q (m5.1 70 2) m5)))))) ∧ (2000 < ((m.1 70 2) + (20 : Int32)).toInt → Q (-1 : Int32) m))) : c_X12_feed_70 (d + 1) x1 x2 x3 x4 x5 m Q := by
  refine w_aload_n (q := 1) hm1 ⟨⟨_, _, rfl⟩, rfl⟩ rfl ?_
  refine w_getf (q := 4) (v := (m.1 70 2)) hm1 ⟨⟨_, _, rfl⟩, rfl⟩ rfl rfl ?_
  refine w_bipush (q := 6) hm1 ⟨⟨_, _, rfl⟩, rfl⟩ bipush_20 ?_
  refine w_iadd (q := 7) hm1 ⟨⟨_, _, rfl⟩, rfl⟩ ?_
  refine w_sipush (q := 10) hm1 ⟨⟨_, _, rfl⟩, rfl⟩ sipush_2000 ?_
  refine w_icmp_le (q := 13) (X := ((m.1 70 2) + (20 : Int32)).toInt) (Y := 2000) hm1 ⟨⟨_, _, rfl⟩, rfl⟩ rfl (by decide) (fun hc => ?_) (fun hc => ?_)
  · have h := h.1 hc
    refine w_aload_n (q := 16) hm1 ⟨⟨_, _, rfl⟩, rfl⟩ rfl ?_
    refine w_iload_n (q := 17) hm1 ⟨⟨_, _, rfl⟩, rfl⟩ rfl ?_
    refine w_call (q := 20) (n := 1) (vs := [.inr (.inr (some 70)), .inl x1]) (rest := []) (la := [oR 70, oI x1, none]) hm1 ⟨⟨_, _, rfl⟩, rfl⟩ rfl rfl rfl rfl hm2 rfl rfl (fun _ => ⟨_, _, rfl, rfl⟩) rfl (Wp.mono h ?_)
    rintro _ m1 ⟨rfl, h⟩
    change Wp _ _ 20 _ [] _ _
    refine w_aload_n (q := 21) hm1 ⟨⟨_, _, rfl⟩, rfl⟩ rfl ?_
    refine w_iload_n (q := 22) hm1 ⟨⟨_, _, rfl⟩, rfl⟩ rfl ?_
    refine w_call (q := 25) (n := 1) (vs := [.inr (.inr (some 70)), .inl x2]) (rest := []) (la := [oR 70, oI x2, none]) hm1 ⟨⟨_, _, rfl⟩, rfl⟩ rfl rfl rfl rfl hm2 rfl rfl (fun _ => ⟨_, _, rfl, rfl⟩) rfl (Wp.mono h ?_)
    rintro _ m2 ⟨rfl, h⟩
    change Wp _ _ 25 _ [] _ _
    refine w_aload_n (q := 26) hm1 ⟨⟨_, _, rfl⟩, rfl⟩ rfl ?_
    refine w_iload_n (q := 27) hm1 ⟨⟨_, _, rfl⟩, rfl⟩ rfl ?_
    refine w_call (q := 30) (n := 1) (vs := [.inr (.inr (some 70)), .inl x3]) (rest := []) (la := [oR 70, oI x3, none]) hm1 ⟨⟨_, _, rfl⟩, rfl⟩ rfl rfl rfl rfl hm2 rfl rfl (fun _ => ⟨_, _, rfl, rfl⟩) rfl (Wp.mono h ?_)
    rintro _ m3 ⟨rfl, h⟩
    change Wp _ _ 30 _ [] _ _
    refine w_aload_n (q := 31) hm1 ⟨⟨_, _, rfl⟩, rfl⟩ rfl ?_
    refine w_iload (q := 33) hm1 ⟨⟨_, _, rfl⟩, rfl⟩ rfl ?_
    refine w_call (q := 36) (n := 1) (vs := [.inr (.inr (some 70)), .inl x4]) (rest := []) (la := [oR 70, oI x4, none]) hm1 ⟨⟨_, _, rfl⟩, rfl⟩ rfl rfl rfl rfl hm2 rfl rfl (fun _ => ⟨_, _, rfl, rfl⟩) rfl (Wp.mono h ?_)
    rintro _ m4 ⟨rfl, h⟩
    change Wp _ _ 36 _ [] _ _
    refine w_aload_n (q := 37) hm1 ⟨⟨_, _, rfl⟩, rfl⟩ rfl ?_
    refine w_iload (q := 39) hm1 ⟨⟨_, _, rfl⟩, rfl⟩ rfl ?_
    refine w_call (q := 42) (n := 1) (vs := [.inr (.inr (some 70)), .inl x5]) (rest := []) (la := [oR 70, oI x5, none]) hm1 ⟨⟨_, _, rfl⟩, rfl⟩ rfl rfl rfl rfl hm2 rfl rfl (fun _ => ⟨_, _, rfl, rfl⟩) rfl (Wp.mono h ?_)
    rintro _ m5 ⟨rfl, h⟩
    change Wp _ _ 42 _ [] _ _
    refine w_aload_n (q := 43) hm1 ⟨⟨_, _, rfl⟩, rfl⟩ rfl ?_
    refine w_getf (q := 46) (v := (m5.1 70 2)) hm1 ⟨⟨_, _, rfl⟩, rfl⟩ rfl rfl ?_
    exact w_reti hm1 ⟨⟨_, _, rfl⟩, rfl⟩ rfl h
  · have h := h.2 hc
    refine w_iconst (q := 14) hm1 ⟨⟨_, _, rfl⟩, rfl⟩ iconst_m1 ?_
    exact w_reti hm1 ⟨⟨_, _, rfl⟩, rfl⟩ rfl h
theorem v_X11_back_0 {d : Nat} {x1 : Int32} {m : dM} {Q : Int32 → dM → Prop} (h : ((x1.toInt < 0 → j_X11_back_0_12 (d + 1) m Q) ∧ (0 ≤ x1.toInt → ((x1.toInt ≤ (m.1 0 1).toInt → Q ((m.1 0 1) - x1) (dSet m 0 1 ((m.1 0 1) - x1))) ∧ ((m.1 0 1).toInt < x1.toInt → j_X11_back_0_12 (d + 1) m Q))))) : c_X11_back_0 (d + 1) x1 m Q := by
  refine w_iload_n (q := 1) hm245 ⟨⟨_, _, rfl⟩, rfl⟩ rfl ?_
  refine w_if_lt (q := 4) (X := x1.toInt) hm245 ⟨⟨_, _, rfl⟩, rfl⟩ rfl (fun hc => ?_) (fun hc => ?_)
  · have h := h.1 hc
    exact Wp.wk [false, false] h
  · have h := h.2 hc
    refine w_iload_n (q := 5) hm245 ⟨⟨_, _, rfl⟩, rfl⟩ rfl ?_
    refine w_aload_n (q := 6) hm245 ⟨⟨_, _, rfl⟩, rfl⟩ rfl ?_
    refine w_getf (q := 9) (v := (m.1 0 1)) hm245 ⟨⟨_, _, rfl⟩, rfl⟩ rfl rfl ?_
    refine w_icmp_le (q := 12) (X := x1.toInt) (Y := (m.1 0 1).toInt) hm245 ⟨⟨_, _, rfl⟩, rfl⟩ rfl rfl (fun hc => ?_) (fun hc => ?_)
    · have h := h.1 hc
      refine w_aload_n (q := 15) hm245 ⟨⟨_, _, rfl⟩, rfl⟩ rfl ?_
      refine w_dup (q := 16) hm245 ⟨⟨_, _, rfl⟩, rfl⟩ rfl ?_
      refine w_getf (q := 19) (v := (m.1 0 1)) hm245 ⟨⟨_, _, rfl⟩, rfl⟩ rfl rfl ?_
      refine w_iload_n (q := 20) hm245 ⟨⟨_, _, rfl⟩, rfl⟩ rfl ?_
      refine w_isub (q := 21) hm245 ⟨⟨_, _, rfl⟩, rfl⟩ ?_
      refine w_putf (q := 24) hm245 ⟨⟨_, _, rfl⟩, rfl⟩ rfl rfl rfl ?_
      refine w_aload_n (q := 25) hm245 ⟨⟨_, _, rfl⟩, rfl⟩ rfl ?_
      refine w_getf (q := 28) (v := ((m.1 0 1) - x1)) hm245 ⟨⟨_, _, rfl⟩, rfl⟩ rfl rfl ?_
      exact w_reti hm245 ⟨⟨_, _, rfl⟩, rfl⟩ rfl h
    · have h := h.2 hc
      exact Wp.wk [false, false] h
theorem v_X11_back_0_12 {d : Nat} {m : dM} {Q : Int32 → dM → Prop} (h : Q (-1 : Int32) m) : j_X11_back_0_12 (d + 1) m Q := by
  refine w_iconst (q := 13) hm245 ⟨⟨_, _, rfl⟩, rfl⟩ iconst_m1 ?_
  exact w_reti hm245 ⟨⟨_, _, rfl⟩, rfl⟩ rfl h
theorem v_X12_back_70 {d : Nat} {x1 : Int32} {m : dM} {Q : Int32 → dM → Prop} (h : ((x1.toInt < 0 → j_X12_back_70_12 (d + 1) m Q) ∧ (0 ≤ x1.toInt → ((x1.toInt ≤ (m.1 70 2).toInt → Q ((m.1 70 2) - x1) (dSet m 70 2 ((m.1 70 2) - x1))) ∧ ((m.1 70 2).toInt < x1.toInt → j_X12_back_70_12 (d + 1) m Q))))) : c_X12_back_70 (d + 1) x1 m Q := by
  refine w_iload_n (q := 1) hm3 ⟨⟨_, _, rfl⟩, rfl⟩ rfl ?_
  refine w_if_lt (q := 4) (X := x1.toInt) hm3 ⟨⟨_, _, rfl⟩, rfl⟩ rfl (fun hc => ?_) (fun hc => ?_)
  · have h := h.1 hc
    exact Wp.wk [false, false] h
  · have h := h.2 hc
    refine w_iload_n (q := 5) hm3 ⟨⟨_, _, rfl⟩, rfl⟩ rfl ?_
    refine w_aload_n (q := 6) hm3 ⟨⟨_, _, rfl⟩, rfl⟩ rfl ?_
    refine w_getf (q := 9) (v := (m.1 70 2)) hm3 ⟨⟨_, _, rfl⟩, rfl⟩ rfl rfl ?_
    refine w_icmp_le (q := 12) (X := x1.toInt) (Y := (m.1 70 2).toInt) hm3 ⟨⟨_, _, rfl⟩, rfl⟩ rfl rfl (fun hc => ?_) (fun hc => ?_)
    · have h := h.1 hc
      refine w_aload_n (q := 15) hm3 ⟨⟨_, _, rfl⟩, rfl⟩ rfl ?_
      refine w_dup (q := 16) hm3 ⟨⟨_, _, rfl⟩, rfl⟩ rfl ?_
      refine w_getf (q := 19) (v := (m.1 70 2)) hm3 ⟨⟨_, _, rfl⟩, rfl⟩ rfl rfl ?_
      refine w_iload_n (q := 20) hm3 ⟨⟨_, _, rfl⟩, rfl⟩ rfl ?_
      refine w_isub (q := 21) hm3 ⟨⟨_, _, rfl⟩, rfl⟩ ?_
      refine w_putf (q := 24) hm3 ⟨⟨_, _, rfl⟩, rfl⟩ rfl rfl rfl ?_
      refine w_aload_n (q := 25) hm3 ⟨⟨_, _, rfl⟩, rfl⟩ rfl ?_
      refine w_getf (q := 28) (v := ((m.1 70 2) - x1)) hm3 ⟨⟨_, _, rfl⟩, rfl⟩ rfl rfl ?_
      exact w_reti hm3 ⟨⟨_, _, rfl⟩, rfl⟩ rfl h
    · have h := h.2 hc
      exact Wp.wk [false, false] h
theorem v_X12_back_70_12 {d : Nat} {m : dM} {Q : Int32 → dM → Prop} (h : Q (-1 : Int32) m) : j_X12_back_70_12 (d + 1) m Q := by
  refine w_iconst (q := 13) hm3 ⟨⟨_, _, rfl⟩, rfl⟩ iconst_m1 ?_
  exact w_reti hm3 ⟨⟨_, _, rfl⟩, rfl⟩ rfl h
theorem v_X8_byteAt_38 {d : Nat} {x1 : Int32} {m : dM} {Q : Int32 → dM → Prop} (h : ((m.2.2 = false → j_X8_byteAt_38_41 (d + 1) m Q) ∧ (m.2.2 = true → ((x1.toInt < 0 → j_X8_byteAt_38_41 (d + 1) m Q) ∧ (0 ≤ x1.toInt → (((m.1 38 5).toInt ≤ x1.toInt → j_X8_byteAt_38_41 (d + 1) m Q) ∧ (x1.toInt < (m.1 38 5).toInt → ((2000 ≤ x1.toInt → j_X8_byteAt_38_41 (d + 1) m Q) ∧ (x1.toInt < 2000 → ((0 ≤ x1.toInt ∧ x1.toInt < 2000) ∧ Q ((m.1 1 x1.toNatClampNeg) &&& (255 : Int32)) m)))))))))) : c_X8_byteAt_38 (d + 1) x1 m Q := by
  refine w_aload_n (q := 1) hm221 ⟨⟨_, _, rfl⟩, rfl⟩ rfl ?_
  refine w_gett (q := 4) hm221 ⟨⟨_, _, rfl⟩, rfl⟩ rfl ?_
  refine w_ifnull (q := 7) hm221 ⟨⟨_, _, rfl⟩, rfl⟩ (fun hc => ?_) (fun htx => ?_)
  · have h := h.1 hc
    exact Wp.wk [false, false] h
  · have h := h.2 htx
    refine w_iload_n (q := 8) hm221 ⟨⟨_, _, rfl⟩, rfl⟩ rfl ?_
    refine w_if_lt (q := 11) (X := x1.toInt) hm221 ⟨⟨_, _, rfl⟩, rfl⟩ rfl (fun hc => ?_) (fun hc => ?_)
    · have h := h.1 hc
      exact Wp.wk [false, false] h
    · have h := h.2 hc
      refine w_iload_n (q := 12) hm221 ⟨⟨_, _, rfl⟩, rfl⟩ rfl ?_
      refine w_aload_n (q := 13) hm221 ⟨⟨_, _, rfl⟩, rfl⟩ rfl ?_
      refine w_getf (q := 16) (v := (m.1 38 5)) hm221 ⟨⟨_, _, rfl⟩, rfl⟩ rfl rfl ?_
      refine w_icmp_ge (q := 19) (X := x1.toInt) (Y := (m.1 38 5).toInt) hm221 ⟨⟨_, _, rfl⟩, rfl⟩ rfl rfl (fun hc => ?_) (fun hc => ?_)
      · have h := h.1 hc
        exact Wp.wk [false, false] h
      · have h := h.2 hc
        refine w_iload_n (q := 20) hm221 ⟨⟨_, _, rfl⟩, rfl⟩ rfl ?_
        refine w_aload_n (q := 21) hm221 ⟨⟨_, _, rfl⟩, rfl⟩ rfl ?_
        refine w_gettT (q := 24) hm221 ⟨⟨_, _, rfl⟩, rfl⟩ rfl htx ?_
        refine w_alen (q := 25) hm221 ⟨⟨_, _, rfl⟩, rfl⟩ rfl alen_2000 ?_
        refine w_icmp_ge (q := 28) (X := x1.toInt) (Y := 2000) hm221 ⟨⟨_, _, rfl⟩, rfl⟩ rfl (by decide) (fun hc => ?_) (fun hc => ?_)
        · have h := h.1 hc
          exact Wp.wk [false, false] h
        · have h := h.2 hc
          refine w_aload_n (q := 29) hm221 ⟨⟨_, _, rfl⟩, rfl⟩ rfl ?_
          refine w_gettT (q := 32) hm221 ⟨⟨_, _, rfl⟩, rfl⟩ rfl htx ?_
          refine w_iload_n (q := 33) hm221 ⟨⟨_, _, rfl⟩, rfl⟩ rfl ?_
          obtain ⟨hi, h⟩ := h
          refine w_bald (q := 34) (v := (m.1 1 x1.toNatClampNeg)) hm221 ⟨⟨_, _, rfl⟩, rfl⟩ rfl hi rfl rfl ?_
          refine w_sipush (q := 37) hm221 ⟨⟨_, _, rfl⟩, rfl⟩ sipush_255 ?_
          refine w_iand (q := 38) hm221 ⟨⟨_, _, rfl⟩, rfl⟩ ?_
          refine w_goto (q := 42) hm221 ⟨_, _, rfl⟩ ?_
          exact w_reti hm221 ⟨⟨_, _, rfl⟩, rfl⟩ rfl h
theorem v_X8_byteAt_38_41 {d : Nat} {m : dM} {Q : Int32 → dM → Prop} (h : Q (0 : Int32) m) : j_X8_byteAt_38_41 (d + 1) m Q := by
  refine w_iconst (q := 42) hm221 ⟨⟨_, _, rfl⟩, rfl⟩ iconst_0 ?_
  exact w_reti hm221 ⟨⟨_, _, rfl⟩, rfl⟩ rfl h
theorem v_X8_pastBlanks_38 {d : Nat} {x1 : Int32} {m : dM} {Q : Int32 → dM → Prop} (h : j_X8_pastBlanks_38_2 (d + 1) x1 m Q) : c_X8_pastBlanks_38 (d + 1) x1 m Q := by
  refine w_iload_n (q := 1) hm224 ⟨⟨_, _, rfl⟩, rfl⟩ rfl ?_
  refine w_istore_n (q := 2) (l' := [oR 38, oI x1, oI x1, none]) hm224 ⟨⟨_, _, rfl⟩, rfl⟩ rfl rfl rfl ?_
  exact Wp.wk [true, false, true, false] h
theorem v_X8_pastBlanks_38_2 {d : Nat} {x2 : Int32} {m : dM} {Q : Int32 → dM → Prop} (h : (((m.1 38 5).toInt ≤ x2.toInt → Q (m.1 38 5) m) ∧ (x2.toInt < (m.1 38 5).toInt → c_X8_byteAt_38 d x2 m (fun r1 m1 => ((r1.toInt = 9 → j_X8_pastBlanks_38_42 (d + 1) x2 m1 Q) ∧ (r1.toInt ≠ 9 → ((r1.toInt = 10 → j_X8_pastBlanks_38_42 (d + 1) x2 m1 Q) ∧ (r1.toInt ≠ 10 → ((r1.toInt = 13 → j_X8_pastBlanks_38_42 (d + 1) x2 m1 Q) ∧ (r1.toInt ≠ 13 → ((r1.toInt = 32 → j_X8_pastBlanks_38_42 (d + 1) x2 m1 Q) ∧ (r1.toInt ≠ 32 → Q x2 m1)))))))))))) : j_X8_pastBlanks_38_2 (d + 1) x2 m Q := by
  refine w_iload_n (q := 3) hm224 ⟨⟨_, _, rfl⟩, rfl⟩ rfl ?_
  refine w_aload_n (q := 4) hm224 ⟨⟨_, _, rfl⟩, rfl⟩ rfl ?_
  refine w_getf (q := 7) (v := (m.1 38 5)) hm224 ⟨⟨_, _, rfl⟩, rfl⟩ rfl rfl ?_
  refine w_icmp_ge (q := 10) (X := x2.toInt) (Y := (m.1 38 5).toInt) hm224 ⟨⟨_, _, rfl⟩, rfl⟩ rfl rfl (fun hc => ?_) (fun hc => ?_)
  · have h := h.1 hc
    refine w_aload_n (q := 49) hm224 ⟨⟨_, _, rfl⟩, rfl⟩ rfl ?_
    refine w_getf (q := 52) (v := (m.1 38 5)) hm224 ⟨⟨_, _, rfl⟩, rfl⟩ rfl rfl ?_
    exact w_reti hm224 ⟨⟨_, _, rfl⟩, rfl⟩ rfl h
  · have h := h.2 hc
    refine w_aload_n (q := 11) hm224 ⟨⟨_, _, rfl⟩, rfl⟩ rfl ?_
    refine w_iload_n (q := 12) hm224 ⟨⟨_, _, rfl⟩, rfl⟩ rfl ?_
    refine w_call (q := 15) (n := 0) (vs := [.inr (.inr (some 38)), .inl x2]) (rest := []) (la := [oR 38, oI x2]) hm224 ⟨⟨_, _, rfl⟩, rfl⟩ rfl rfl rfl rfl hm221 rfl rfl (fun _ => ⟨_, _, rfl, rfl⟩) rfl (Wp.mono h ?_)
    rintro _ m1 ⟨r1, rfl, h⟩
    change Wp _ _ 15 _ [.inl r1] _ _
    refine w_istore_n (q := 16) (l' := [oR 38, none, oI x2, oI r1]) hm224 ⟨⟨_, _, rfl⟩, rfl⟩ rfl rfl rfl ?_
    refine w_iload_n (q := 17) hm224 ⟨⟨_, _, rfl⟩, rfl⟩ rfl ?_
    refine w_bipush (q := 19) hm224 ⟨⟨_, _, rfl⟩, rfl⟩ bipush_9 ?_
    refine w_icmp_eq (q := 22) (X := r1.toInt) (Y := 9) hm224 ⟨⟨_, _, rfl⟩, rfl⟩ rfl (by decide) (fun hc => ?_) (fun hc => ?_)
    · have h := h.1 hc
      exact Wp.wk [true, false, true, false] h
    · have h := h.2 hc
      refine w_iload_n (q := 23) hm224 ⟨⟨_, _, rfl⟩, rfl⟩ rfl ?_
      refine w_bipush (q := 25) hm224 ⟨⟨_, _, rfl⟩, rfl⟩ bipush_10 ?_
      refine w_icmp_eq (q := 28) (X := r1.toInt) (Y := 10) hm224 ⟨⟨_, _, rfl⟩, rfl⟩ rfl (by decide) (fun hc => ?_) (fun hc => ?_)
      · have h := h.1 hc
        exact Wp.wk [true, false, true, false] h
      · have h := h.2 hc
        refine w_iload_n (q := 29) hm224 ⟨⟨_, _, rfl⟩, rfl⟩ rfl ?_
        refine w_bipush (q := 31) hm224 ⟨⟨_, _, rfl⟩, rfl⟩ bipush_13 ?_
        refine w_icmp_eq (q := 34) (X := r1.toInt) (Y := 13) hm224 ⟨⟨_, _, rfl⟩, rfl⟩ rfl (by decide) (fun hc => ?_) (fun hc => ?_)
        · have h := h.1 hc
          exact Wp.wk [true, false, true, false] h
        · have h := h.2 hc
          refine w_iload_n (q := 35) hm224 ⟨⟨_, _, rfl⟩, rfl⟩ rfl ?_
          refine w_bipush (q := 37) hm224 ⟨⟨_, _, rfl⟩, rfl⟩ bipush_32 ?_
          refine w_icmp_eq (q := 40) (X := r1.toInt) (Y := 32) hm224 ⟨⟨_, _, rfl⟩, rfl⟩ rfl (by decide) (fun hc => ?_) (fun hc => ?_)
          · have h := h.1 hc
            exact Wp.wk [true, false, true, false] h
          · have h := h.2 hc
            refine w_iload_n (q := 41) hm224 ⟨⟨_, _, rfl⟩, rfl⟩ rfl ?_
            exact w_reti hm224 ⟨⟨_, _, rfl⟩, rfl⟩ rfl h
theorem v_X8_pastBlanks_38_42 {d : Nat} {x2 : Int32} {m : dM} {Q : Int32 → dM → Prop} (h : j_X8_pastBlanks_38_2 (d + 1) (x2 + (1 : Int32)) m Q) : j_X8_pastBlanks_38_42 (d + 1) x2 m Q := by
  refine w_iinc (q := 45) (l' := [oR 38, none, oI (x2 + (1 : Int32)), none]) hm224 ⟨⟨_, _, rfl⟩, rfl⟩ rfl rfl rfl iconst_1 rfl ?_
  refine w_goto (q := 2) hm224 ⟨_, _, rfl⟩ ?_
  exact h
theorem v_X8_isLetterAt_38 {d : Nat} {x1 : Int32} {m : dM} {Q : Int32 → dM → Prop} (h : c_X8_byteAt_38 d x1 m (fun r1 m1 => ((r1.toInt < 97 → j_X8_isLetterAt_38_22 (d + 1) m1 Q) ∧ (97 ≤ r1.toInt → ((122 < r1.toInt → j_X8_isLetterAt_38_22 (d + 1) m1 Q) ∧ (r1.toInt ≤ 122 → Q (1 : Int32) m1)))))) : c_X8_isLetterAt_38 (d + 1) x1 m Q := by
  refine w_aload_n (q := 1) hm222 ⟨⟨_, _, rfl⟩, rfl⟩ rfl ?_
  refine w_iload_n (q := 2) hm222 ⟨⟨_, _, rfl⟩, rfl⟩ rfl ?_
  refine w_call (q := 5) (n := 0) (vs := [.inr (.inr (some 38)), .inl x1]) (rest := []) (la := [oR 38, oI x1]) hm222 ⟨⟨_, _, rfl⟩, rfl⟩ rfl rfl rfl rfl hm221 rfl rfl (fun _ => ⟨_, _, rfl, rfl⟩) rfl (Wp.mono h ?_)
  rintro _ m1 ⟨r1, rfl, h⟩
  change Wp _ _ 5 _ [.inl r1] _ _
  refine w_istore_n (q := 6) (l' := [oR 38, oI x1, oI r1]) hm222 ⟨⟨_, _, rfl⟩, rfl⟩ rfl rfl rfl ?_
  refine w_iload_n (q := 7) hm222 ⟨⟨_, _, rfl⟩, rfl⟩ rfl ?_
  refine w_bipush (q := 9) hm222 ⟨⟨_, _, rfl⟩, rfl⟩ bipush_97 ?_
  refine w_icmp_lt (q := 12) (X := r1.toInt) (Y := 97) hm222 ⟨⟨_, _, rfl⟩, rfl⟩ rfl (by decide) (fun hc => ?_) (fun hc => ?_)
  · have h := h.1 hc
    exact Wp.wk [false, false, false] h
  · have h := h.2 hc
    refine w_iload_n (q := 13) hm222 ⟨⟨_, _, rfl⟩, rfl⟩ rfl ?_
    refine w_bipush (q := 15) hm222 ⟨⟨_, _, rfl⟩, rfl⟩ bipush_122 ?_
    refine w_icmp_gt (q := 18) (X := r1.toInt) (Y := 122) hm222 ⟨⟨_, _, rfl⟩, rfl⟩ rfl (by decide) (fun hc => ?_) (fun hc => ?_)
    · have h := h.1 hc
      exact Wp.wk [false, false, false] h
    · have h := h.2 hc
      refine w_iconst (q := 19) hm222 ⟨⟨_, _, rfl⟩, rfl⟩ iconst_1 ?_
      refine w_goto (q := 23) hm222 ⟨_, _, rfl⟩ ?_
      exact w_retz hm222 ⟨⟨_, _, rfl⟩, rfl⟩ rfl (by decide) h
theorem v_X8_isLetterAt_38_22 {d : Nat} {m : dM} {Q : Int32 → dM → Prop} (h : Q (0 : Int32) m) : j_X8_isLetterAt_38_22 (d + 1) m Q := by
  refine w_iconst (q := 23) hm222 ⟨⟨_, _, rfl⟩, rfl⟩ iconst_0 ?_
  exact w_retz hm222 ⟨⟨_, _, rfl⟩, rfl⟩ rfl (by decide) h
theorem v_X8_isDigitAt_38 {d : Nat} {x1 : Int32} {m : dM} {Q : Int32 → dM → Prop} (h : c_X8_byteAt_38 d x1 m (fun r1 m1 => ((r1.toInt < 48 → j_X8_isDigitAt_38_22 (d + 1) m1 Q) ∧ (48 ≤ r1.toInt → ((57 < r1.toInt → j_X8_isDigitAt_38_22 (d + 1) m1 Q) ∧ (r1.toInt ≤ 57 → Q (1 : Int32) m1)))))) : c_X8_isDigitAt_38 (d + 1) x1 m Q := by
  refine w_aload_n (q := 1) hm223 ⟨⟨_, _, rfl⟩, rfl⟩ rfl ?_
  refine w_iload_n (q := 2) hm223 ⟨⟨_, _, rfl⟩, rfl⟩ rfl ?_
  refine w_call (q := 5) (n := 0) (vs := [.inr (.inr (some 38)), .inl x1]) (rest := []) (la := [oR 38, oI x1]) hm223 ⟨⟨_, _, rfl⟩, rfl⟩ rfl rfl rfl rfl hm221 rfl rfl (fun _ => ⟨_, _, rfl, rfl⟩) rfl (Wp.mono h ?_)
  rintro _ m1 ⟨r1, rfl, h⟩
  change Wp _ _ 5 _ [.inl r1] _ _
  refine w_istore_n (q := 6) (l' := [oR 38, oI x1, oI r1]) hm223 ⟨⟨_, _, rfl⟩, rfl⟩ rfl rfl rfl ?_
  refine w_iload_n (q := 7) hm223 ⟨⟨_, _, rfl⟩, rfl⟩ rfl ?_
  refine w_bipush (q := 9) hm223 ⟨⟨_, _, rfl⟩, rfl⟩ bipush_48 ?_
  refine w_icmp_lt (q := 12) (X := r1.toInt) (Y := 48) hm223 ⟨⟨_, _, rfl⟩, rfl⟩ rfl (by decide) (fun hc => ?_) (fun hc => ?_)
  · have h := h.1 hc
    exact Wp.wk [false, false, false] h
  · have h := h.2 hc
    refine w_iload_n (q := 13) hm223 ⟨⟨_, _, rfl⟩, rfl⟩ rfl ?_
    refine w_bipush (q := 15) hm223 ⟨⟨_, _, rfl⟩, rfl⟩ bipush_57 ?_
    refine w_icmp_gt (q := 18) (X := r1.toInt) (Y := 57) hm223 ⟨⟨_, _, rfl⟩, rfl⟩ rfl (by decide) (fun hc => ?_) (fun hc => ?_)
    · have h := h.1 hc
      exact Wp.wk [false, false, false] h
    · have h := h.2 hc
      refine w_iconst (q := 19) hm223 ⟨⟨_, _, rfl⟩, rfl⟩ iconst_1 ?_
      refine w_goto (q := 23) hm223 ⟨_, _, rfl⟩ ?_
      exact w_retz hm223 ⟨⟨_, _, rfl⟩, rfl⟩ rfl (by decide) h
theorem v_X8_isDigitAt_38_22 {d : Nat} {m : dM} {Q : Int32 → dM → Prop} (h : Q (0 : Int32) m) : j_X8_isDigitAt_38_22 (d + 1) m Q := by
  refine w_iconst (q := 23) hm223 ⟨⟨_, _, rfl⟩, rfl⟩ iconst_0 ?_
  exact w_retz hm223 ⟨⟨_, _, rfl⟩, rfl⟩ rfl (by decide) h
theorem v_X8_signOf {d : Nat} {x0 : Int32} {m : dM} {Q : Int32 → dM → Prop} (h : ((x0.toInt = 40 → Q x0 m) ∧ (x0.toInt = 41 → Q x0 m) ∧ (x0.toInt = 42 → Q x0 m) ∧ (x0.toInt = 43 → Q x0 m) ∧ (x0.toInt = 44 → Q (25 : Int32) m) ∧ (x0.toInt = 45 → Q x0 m) ∧ (x0.toInt = 46 → Q (25 : Int32) m) ∧ (x0.toInt = 47 → Q x0 m) ∧ (x0.toInt = 48 → Q (25 : Int32) m) ∧ (x0.toInt = 49 → Q (25 : Int32) m) ∧ (x0.toInt = 50 → Q (25 : Int32) m) ∧ (x0.toInt = 51 → Q (25 : Int32) m) ∧ (x0.toInt = 52 → Q (25 : Int32) m) ∧ (x0.toInt = 53 → Q (25 : Int32) m) ∧ (x0.toInt = 54 → Q (25 : Int32) m) ∧ (x0.toInt = 55 → Q (25 : Int32) m) ∧ (x0.toInt = 56 → Q (25 : Int32) m) ∧ (x0.toInt = 57 → Q (25 : Int32) m) ∧ (x0.toInt = 58 → Q (25 : Int32) m) ∧ (x0.toInt = 59 → Q x0 m) ∧ (x0.toInt = 60 → Q x0 m) ∧ (x0.toInt = 61 → Q x0 m) ∧ (x0.toInt < 40 ∨ 61 < x0.toInt → Q (25 : Int32) m))) : c_X8_signOf (d + 1) x0 m Q := by
  refine w_iload_n (q := 1) hm226 ⟨⟨_, _, rfl⟩, rfl⟩ rfl ?_
  refine w_tsw (X := x0.toInt) hm226 ⟨_, _, rfl⟩ (by decide) (by decide) rfl ((And.intro (fun hc => ?_) (And.intro (fun hc => ?_) (And.intro (fun hc => ?_) (And.intro (fun hc => ?_) (And.intro (fun hc => ?_) (And.intro (fun hc => ?_) (And.intro (fun hc => ?_) (And.intro (fun hc => ?_) (And.intro (fun hc => ?_) (And.intro (fun hc => ?_) (And.intro (fun hc => ?_) (And.intro (fun hc => ?_) (And.intro (fun hc => ?_) (And.intro (fun hc => ?_) (And.intro (fun hc => ?_) (And.intro (fun hc => ?_) (And.intro (fun hc => ?_) (And.intro (fun hc => ?_) (And.intro (fun hc => ?_) (And.intro (fun hc => ?_) (And.intro (fun hc => ?_) (And.intro (fun hc => ?_) trivial))))))))))))))))))))))) (fun hc => ?_)
  · have h := (h.1) hc
    change Wp _ _ 104 _ _ _ _
    refine w_iload_n (q := 105) hm226 ⟨⟨_, _, rfl⟩, rfl⟩ rfl ?_
    exact w_reti hm226 ⟨⟨_, _, rfl⟩, rfl⟩ rfl h
  · have h := (h.2.1) hc
    change Wp _ _ 104 _ _ _ _
    refine w_iload_n (q := 105) hm226 ⟨⟨_, _, rfl⟩, rfl⟩ rfl ?_
    exact w_reti hm226 ⟨⟨_, _, rfl⟩, rfl⟩ rfl h
  · have h := (h.2.2.1) hc
    change Wp _ _ 104 _ _ _ _
    refine w_iload_n (q := 105) hm226 ⟨⟨_, _, rfl⟩, rfl⟩ rfl ?_
    exact w_reti hm226 ⟨⟨_, _, rfl⟩, rfl⟩ rfl h
  · have h := (h.2.2.2.1) hc
    change Wp _ _ 104 _ _ _ _
    refine w_iload_n (q := 105) hm226 ⟨⟨_, _, rfl⟩, rfl⟩ rfl ?_
    exact w_reti hm226 ⟨⟨_, _, rfl⟩, rfl⟩ rfl h
  · have h := (h.2.2.2.2.1) hc
    change Wp _ _ 106 _ _ _ _
    refine w_bipush (q := 108) hm226 ⟨⟨_, _, rfl⟩, rfl⟩ bipush_25 ?_
    exact w_reti hm226 ⟨⟨_, _, rfl⟩, rfl⟩ rfl h
  · have h := (h.2.2.2.2.2.1) hc
    change Wp _ _ 104 _ _ _ _
    refine w_iload_n (q := 105) hm226 ⟨⟨_, _, rfl⟩, rfl⟩ rfl ?_
    exact w_reti hm226 ⟨⟨_, _, rfl⟩, rfl⟩ rfl h
  · have h := (h.2.2.2.2.2.2.1) hc
    change Wp _ _ 106 _ _ _ _
    refine w_bipush (q := 108) hm226 ⟨⟨_, _, rfl⟩, rfl⟩ bipush_25 ?_
    exact w_reti hm226 ⟨⟨_, _, rfl⟩, rfl⟩ rfl h
  · have h := (h.2.2.2.2.2.2.2.1) hc
    change Wp _ _ 104 _ _ _ _
    refine w_iload_n (q := 105) hm226 ⟨⟨_, _, rfl⟩, rfl⟩ rfl ?_
    exact w_reti hm226 ⟨⟨_, _, rfl⟩, rfl⟩ rfl h
  · have h := (h.2.2.2.2.2.2.2.2.1) hc
    change Wp _ _ 106 _ _ _ _
    refine w_bipush (q := 108) hm226 ⟨⟨_, _, rfl⟩, rfl⟩ bipush_25 ?_
    exact w_reti hm226 ⟨⟨_, _, rfl⟩, rfl⟩ rfl h
  · have h := (h.2.2.2.2.2.2.2.2.2.1) hc
    change Wp _ _ 106 _ _ _ _
    refine w_bipush (q := 108) hm226 ⟨⟨_, _, rfl⟩, rfl⟩ bipush_25 ?_
    exact w_reti hm226 ⟨⟨_, _, rfl⟩, rfl⟩ rfl h
  · have h := (h.2.2.2.2.2.2.2.2.2.2.1) hc
    change Wp _ _ 106 _ _ _ _
    refine w_bipush (q := 108) hm226 ⟨⟨_, _, rfl⟩, rfl⟩ bipush_25 ?_
    exact w_reti hm226 ⟨⟨_, _, rfl⟩, rfl⟩ rfl h
  · have h := (h.2.2.2.2.2.2.2.2.2.2.2.1) hc
    change Wp _ _ 106 _ _ _ _
    refine w_bipush (q := 108) hm226 ⟨⟨_, _, rfl⟩, rfl⟩ bipush_25 ?_
    exact w_reti hm226 ⟨⟨_, _, rfl⟩, rfl⟩ rfl h
  · have h := (h.2.2.2.2.2.2.2.2.2.2.2.2.1) hc
    change Wp _ _ 106 _ _ _ _
    refine w_bipush (q := 108) hm226 ⟨⟨_, _, rfl⟩, rfl⟩ bipush_25 ?_
    exact w_reti hm226 ⟨⟨_, _, rfl⟩, rfl⟩ rfl h
  · have h := (h.2.2.2.2.2.2.2.2.2.2.2.2.2.1) hc
    change Wp _ _ 106 _ _ _ _
    refine w_bipush (q := 108) hm226 ⟨⟨_, _, rfl⟩, rfl⟩ bipush_25 ?_
    exact w_reti hm226 ⟨⟨_, _, rfl⟩, rfl⟩ rfl h
  · have h := (h.2.2.2.2.2.2.2.2.2.2.2.2.2.2.1) hc
    change Wp _ _ 106 _ _ _ _
    refine w_bipush (q := 108) hm226 ⟨⟨_, _, rfl⟩, rfl⟩ bipush_25 ?_
    exact w_reti hm226 ⟨⟨_, _, rfl⟩, rfl⟩ rfl h
  · have h := (h.2.2.2.2.2.2.2.2.2.2.2.2.2.2.2.1) hc
    change Wp _ _ 106 _ _ _ _
    refine w_bipush (q := 108) hm226 ⟨⟨_, _, rfl⟩, rfl⟩ bipush_25 ?_
    exact w_reti hm226 ⟨⟨_, _, rfl⟩, rfl⟩ rfl h
  · have h := (h.2.2.2.2.2.2.2.2.2.2.2.2.2.2.2.2.1) hc
    change Wp _ _ 106 _ _ _ _
    refine w_bipush (q := 108) hm226 ⟨⟨_, _, rfl⟩, rfl⟩ bipush_25 ?_
    exact w_reti hm226 ⟨⟨_, _, rfl⟩, rfl⟩ rfl h
  · have h := (h.2.2.2.2.2.2.2.2.2.2.2.2.2.2.2.2.2.1) hc
    change Wp _ _ 106 _ _ _ _
    refine w_bipush (q := 108) hm226 ⟨⟨_, _, rfl⟩, rfl⟩ bipush_25 ?_
    exact w_reti hm226 ⟨⟨_, _, rfl⟩, rfl⟩ rfl h
  · have h := (h.2.2.2.2.2.2.2.2.2.2.2.2.2.2.2.2.2.2.1) hc
    change Wp _ _ 106 _ _ _ _
    refine w_bipush (q := 108) hm226 ⟨⟨_, _, rfl⟩, rfl⟩ bipush_25 ?_
    exact w_reti hm226 ⟨⟨_, _, rfl⟩, rfl⟩ rfl h
  · have h := (h.2.2.2.2.2.2.2.2.2.2.2.2.2.2.2.2.2.2.2.1) hc
    change Wp _ _ 104 _ _ _ _
    refine w_iload_n (q := 105) hm226 ⟨⟨_, _, rfl⟩, rfl⟩ rfl ?_
    exact w_reti hm226 ⟨⟨_, _, rfl⟩, rfl⟩ rfl h
  · have h := (h.2.2.2.2.2.2.2.2.2.2.2.2.2.2.2.2.2.2.2.2.1) hc
    change Wp _ _ 104 _ _ _ _
    refine w_iload_n (q := 105) hm226 ⟨⟨_, _, rfl⟩, rfl⟩ rfl ?_
    exact w_reti hm226 ⟨⟨_, _, rfl⟩, rfl⟩ rfl h
  · have h := (h.2.2.2.2.2.2.2.2.2.2.2.2.2.2.2.2.2.2.2.2.2.1) hc
    change Wp _ _ 104 _ _ _ _
    refine w_iload_n (q := 105) hm226 ⟨⟨_, _, rfl⟩, rfl⟩ rfl ?_
    exact w_reti hm226 ⟨⟨_, _, rfl⟩, rfl⟩ rfl h
  · have h := (h.2.2.2.2.2.2.2.2.2.2.2.2.2.2.2.2.2.2.2.2.2.2) hc
    change Wp _ _ 106 _ _ _ _
    refine w_bipush (q := 108) hm226 ⟨⟨_, _, rfl⟩, rfl⟩ bipush_25 ?_
    exact w_reti hm226 ⟨⟨_, _, rfl⟩, rfl⟩ rfl h
theorem v_X8_scanDigits_38 {d : Nat} {x1 : Int32} {x2 : Int32} {m : dM} {Q : Int32 → dM → Prop} (h : j_X8_scanDigits_38_5 (d + 1) x1 x2 (0 : Int64) x2 m Q) : c_X8_scanDigits_38 (d + 1) x1 x2 m Q := by
  refine w_lconst (q := 1) hm229 ⟨⟨_, _, rfl⟩, rfl⟩ lconst_0 ?_
  refine w_lstore_n (q := 2) (l' := [oR 38, oI x1, oI x2, oL (0 : Int64), none, none]) hm229 ⟨⟨_, _, rfl⟩, rfl⟩ rfl rfl rfl ?_
  refine w_iload_n (q := 3) hm229 ⟨⟨_, _, rfl⟩, rfl⟩ rfl ?_
  refine w_istore (q := 5) (l' := [oR 38, oI x1, oI x2, oL (0 : Int64), none, oI x2]) hm229 ⟨⟨_, _, rfl⟩, rfl⟩ rfl rfl rfl ?_
  exact h
theorem v_X8_scanDigits_38_5 {d : Nat} {x1 : Int32} {x2 : Int32} {y3 : Int64} {x5 : Int32} {m : dM} {Q : Int32 → dM → Prop} (h : (((m.1 38 5).toInt ≤ x5.toInt → j_X8_scanDigits_38_54 (d + 1) x1 x2 y3 x5 m Q) ∧ (x5.toInt < (m.1 38 5).toInt → ((4 < (x5 - x2).toInt → j_X8_scanDigits_38_54 (d + 1) x1 x2 y3 x5 m Q) ∧ ((x5 - x2).toInt ≤ 4 → c_X8_isDigitAt_38 d x5 m (fun r1 m1 => ((r1.toInt = 0 → j_X8_scanDigits_38_54 (d + 1) x1 x2 y3 x5 m1 Q) ∧ (r1.toInt ≠ 0 → c_X8_byteAt_38 d x5 m1 (fun r2 m2 => j_X8_scanDigits_38_5 (d + 1) x1 x2 ((y3 * (10 : Int64)) + (r2 - (48 : Int32)).toInt64) (x5 + (1 : Int32)) m2 Q))))))))) : j_X8_scanDigits_38_5 (d + 1) x1 x2 y3 x5 m Q := by
  refine w_iload (q := 7) hm229 ⟨⟨_, _, rfl⟩, rfl⟩ rfl ?_
  refine w_aload_n (q := 8) hm229 ⟨⟨_, _, rfl⟩, rfl⟩ rfl ?_
  refine w_getf (q := 11) (v := (m.1 38 5)) hm229 ⟨⟨_, _, rfl⟩, rfl⟩ rfl rfl ?_
  refine w_icmp_ge (q := 14) (X := x5.toInt) (Y := (m.1 38 5).toInt) hm229 ⟨⟨_, _, rfl⟩, rfl⟩ rfl rfl (fun hc => ?_) (fun hc => ?_)
  · have h := h.1 hc
    exact h
  · have h := h.2 hc
    refine w_iload (q := 16) hm229 ⟨⟨_, _, rfl⟩, rfl⟩ rfl ?_
    refine w_iload_n (q := 17) hm229 ⟨⟨_, _, rfl⟩, rfl⟩ rfl ?_
    refine w_isub (q := 18) hm229 ⟨⟨_, _, rfl⟩, rfl⟩ ?_
    refine w_iconst (q := 19) hm229 ⟨⟨_, _, rfl⟩, rfl⟩ iconst_4 ?_
    refine w_icmp_gt (q := 22) (X := (x5 - x2).toInt) (Y := 4) hm229 ⟨⟨_, _, rfl⟩, rfl⟩ rfl (by decide) (fun hc => ?_) (fun hc => ?_)
    · have h := h.1 hc
      exact h
    · have h := h.2 hc
      refine w_aload_n (q := 23) hm229 ⟨⟨_, _, rfl⟩, rfl⟩ rfl ?_
      refine w_iload (q := 25) hm229 ⟨⟨_, _, rfl⟩, rfl⟩ rfl ?_
      refine w_call (q := 28) (n := 1) (vs := [.inr (.inr (some 38)), .inl x5]) (rest := []) (la := [oR 38, oI x5, none]) hm229 ⟨⟨_, _, rfl⟩, rfl⟩ rfl rfl rfl rfl hm223 rfl rfl (fun _ => ⟨_, _, rfl, rfl⟩) rfl (Wp.mono h ?_)
      rintro _ m1 ⟨r1, rfl, h⟩
      change Wp _ _ 28 _ [.inl r1] _ _
      refine w_if_eq (q := 31) (X := r1.toInt) hm229 ⟨⟨_, _, rfl⟩, rfl⟩ rfl (fun hc => ?_) (fun hc => ?_)
      · have h := h.1 hc
        exact h
      · have h := h.2 hc
        refine w_lload_n (q := 32) hm229 ⟨⟨_, _, rfl⟩, rfl⟩ rfl ?_
        refine w_ldc2_w (q := 35) hm229 ⟨⟨_, _, rfl⟩, rfl⟩ ldc2_10 ?_
        refine w_lmul (q := 36) hm229 ⟨⟨_, _, rfl⟩, rfl⟩ ?_
        refine w_aload_n (q := 37) hm229 ⟨⟨_, _, rfl⟩, rfl⟩ rfl ?_
        refine w_iload (q := 39) hm229 ⟨⟨_, _, rfl⟩, rfl⟩ rfl ?_
        refine w_call (q := 42) (n := 0) (vs := [.inr (.inr (some 38)), .inl x5]) (rest := [.inr (.inl (y3 * (10 : Int64)))]) (la := [oR 38, oI x5]) hm229 ⟨⟨_, _, rfl⟩, rfl⟩ rfl rfl rfl rfl hm221 rfl rfl (fun _ => ⟨_, _, rfl, rfl⟩) rfl (Wp.mono h ?_)
        rintro _ m2 ⟨r2, rfl, h⟩
        change Wp _ _ 42 _ [.inl r2, .inr (.inl (y3 * (10 : Int64)))] _ _
        refine w_bipush (q := 44) hm229 ⟨⟨_, _, rfl⟩, rfl⟩ bipush_48 ?_
        refine w_isub (q := 45) hm229 ⟨⟨_, _, rfl⟩, rfl⟩ ?_
        refine w_i2l (q := 46) hm229 ⟨⟨_, _, rfl⟩, rfl⟩ ?_
        refine w_ladd (q := 47) hm229 ⟨⟨_, _, rfl⟩, rfl⟩ ?_
        refine w_lstore_n (q := 48) (l' := [oR 38, oI x1, oI x2, oL ((y3 * (10 : Int64)) + (r2 - (48 : Int32)).toInt64), none, oI x5]) hm229 ⟨⟨_, _, rfl⟩, rfl⟩ rfl rfl rfl ?_
        refine w_iinc (q := 51) (l' := [oR 38, oI x1, oI x2, oL ((y3 * (10 : Int64)) + (r2 - (48 : Int32)).toInt64), none, oI (x5 + (1 : Int32))]) hm229 ⟨⟨_, _, rfl⟩, rfl⟩ rfl rfl rfl iconst_1 rfl ?_
        refine w_goto (q := 5) hm229 ⟨_, _, rfl⟩ ?_
        exact h
theorem v_X8_scanDigits_38_54 {d : Nat} {x1 : Int32} {x2 : Int32} {y3 : Int64} {x5 : Int32} {m : dM} {Q : Int32 → dM → Prop} (h : ((0 ≤ x1.toInt ∧ x1.toInt < 401) ∧ (((x5 - x2).toInt ≤ 4 → ((0 ≤ x1.toInt ∧ x1.toInt < 401) ∧ Q x5 (dSet (dSetL m 41 x1.toNatClampNeg y3) 39 x1.toNatClampNeg (23 : Int32)))) ∧ (4 < (x5 - x2).toInt → ((0 ≤ x1.toInt ∧ x1.toInt < 401) ∧ Q x5 (dSet (dSetL m 41 x1.toNatClampNeg y3) 39 x1.toNatClampNeg (25 : Int32))))))) : j_X8_scanDigits_38_54 (d + 1) x1 x2 y3 x5 m Q := by
  refine w_aload_n (q := 55) hm229 ⟨⟨_, _, rfl⟩, rfl⟩ rfl ?_
  refine w_getr (q := 58) hm229 ⟨⟨_, _, rfl⟩, rfl⟩ rfl ?_
  refine w_iload_n (q := 59) hm229 ⟨⟨_, _, rfl⟩, rfl⟩ rfl ?_
  refine w_lload_n (q := 60) hm229 ⟨⟨_, _, rfl⟩, rfl⟩ rfl ?_
  obtain ⟨hi, h⟩ := h
  refine w_last (q := 61) hm229 ⟨⟨_, _, rfl⟩, rfl⟩ rfl hi rfl rfl ?_
  refine w_aload_n (q := 62) hm229 ⟨⟨_, _, rfl⟩, rfl⟩ rfl ?_
  refine w_getr (q := 65) hm229 ⟨⟨_, _, rfl⟩, rfl⟩ rfl ?_
  refine w_iload_n (q := 66) hm229 ⟨⟨_, _, rfl⟩, rfl⟩ rfl ?_
  refine w_iload (q := 68) hm229 ⟨⟨_, _, rfl⟩, rfl⟩ rfl ?_
  refine w_iload_n (q := 69) hm229 ⟨⟨_, _, rfl⟩, rfl⟩ rfl ?_
  refine w_isub (q := 70) hm229 ⟨⟨_, _, rfl⟩, rfl⟩ ?_
  refine w_iconst (q := 71) hm229 ⟨⟨_, _, rfl⟩, rfl⟩ iconst_4 ?_
  refine w_icmp_le (q := 74) (X := (x5 - x2).toInt) (Y := 4) hm229 ⟨⟨_, _, rfl⟩, rfl⟩ rfl (by decide) (fun hc => ?_) (fun hc => ?_)
  · have h := h.1 hc
    refine w_bipush (q := 81) hm229 ⟨⟨_, _, rfl⟩, rfl⟩ bipush_23 ?_
    obtain ⟨hi, h⟩ := h
    refine w_iast (q := 82) hm229 ⟨⟨_, _, rfl⟩, rfl⟩ rfl hi rfl rfl ?_
    refine w_iload (q := 84) hm229 ⟨⟨_, _, rfl⟩, rfl⟩ rfl ?_
    exact w_reti hm229 ⟨⟨_, _, rfl⟩, rfl⟩ rfl h
  · have h := h.2 hc
    refine w_bipush (q := 76) hm229 ⟨⟨_, _, rfl⟩, rfl⟩ bipush_25 ?_
    refine w_goto (q := 81) hm229 ⟨_, _, rfl⟩ ?_
    obtain ⟨hi, h⟩ := h
    refine w_iast (q := 82) hm229 ⟨⟨_, _, rfl⟩, rfl⟩ rfl hi rfl rfl ?_
    refine w_iload (q := 84) hm229 ⟨⟨_, _, rfl⟩, rfl⟩ rfl ?_
    exact w_reti hm229 ⟨⟨_, _, rfl⟩, rfl⟩ rfl h
theorem v_X8_withLetter {d : Nat} {y0 : Int64} {x2 : Int32} {m : dM} {Q : Int64 → dM → Prop} (h : Q ((y0 * (27 : Int64)) + ((x2 - (97 : Int32)) + (1 : Int32)).toInt64) m) : c_X8_withLetter (d + 1) y0 x2 m Q := by
  refine w_lload_n (q := 1) hm220 ⟨⟨_, _, rfl⟩, rfl⟩ rfl ?_
  refine w_ldc2_w (q := 4) hm220 ⟨⟨_, _, rfl⟩, rfl⟩ ldc2_27 ?_
  refine w_lmul (q := 5) hm220 ⟨⟨_, _, rfl⟩, rfl⟩ ?_
  refine w_iload_n (q := 6) hm220 ⟨⟨_, _, rfl⟩, rfl⟩ rfl ?_
  refine w_bipush (q := 8) hm220 ⟨⟨_, _, rfl⟩, rfl⟩ bipush_97 ?_
  refine w_isub (q := 9) hm220 ⟨⟨_, _, rfl⟩, rfl⟩ ?_
  refine w_iconst (q := 10) hm220 ⟨⟨_, _, rfl⟩, rfl⟩ iconst_1 ?_
  refine w_iadd (q := 11) hm220 ⟨⟨_, _, rfl⟩, rfl⟩ ?_
  refine w_i2l (q := 12) hm220 ⟨⟨_, _, rfl⟩, rfl⟩ ?_
  refine w_ladd (q := 13) hm220 ⟨⟨_, _, rfl⟩, rfl⟩ ?_
  exact w_retl hm220 ⟨⟨_, _, rfl⟩, rfl⟩ rfl h
theorem v_X8_wordOrName_38 {d : Nat} {y1 : Int64} {m : dM} {Q : Int32 → dM → Prop} (h : j_X8_wordOrName_38_2 (d + 1) y1 (0 : Int32) m Q) : c_X8_wordOrName_38 (d + 1) y1 m Q := by
  refine w_iconst (q := 1) hm228 ⟨⟨_, _, rfl⟩, rfl⟩ iconst_0 ?_
  refine w_istore_n (q := 2) (l' := [oR 38, oL y1, none, oI (0 : Int32)]) hm228 ⟨⟨_, _, rfl⟩, rfl⟩ rfl rfl rfl ?_
  exact h
theorem v_X8_wordOrName_38_2 {d : Nat} {y1 : Int64} {x3 : Int32} {m : dM} {Q : Int32 → dM → Prop} (h : ((22 ≤ x3.toInt → Q (22 : Int32) m) ∧ (x3.toInt < 22 → ((0 ≤ x3.toInt ∧ x3.toInt < 22) ∧ (((lg_cmp (tKv x3.toNatClampNeg) y1).toInt ≠ 0 → j_X8_wordOrName_38_2 (d + 1) y1 (x3 + (1 : Int32)) m Q) ∧ ((lg_cmp (tKv x3.toNatClampNeg) y1).toInt = 0 → Q x3 m)))))) : j_X8_wordOrName_38_2 (d + 1) y1 x3 m Q := by
  refine w_iload_n (q := 3) hm228 ⟨⟨_, _, rfl⟩, rfl⟩ rfl ?_
  refine w_bipush (q := 5) hm228 ⟨⟨_, _, rfl⟩, rfl⟩ bipush_22 ?_
  refine w_icmp_ge (q := 8) (X := x3.toInt) (Y := 22) hm228 ⟨⟨_, _, rfl⟩, rfl⟩ rfl (by decide) (fun hc => ?_) (fun hc => ?_)
  · have h := h.1 hc
    refine w_bipush (q := 29) hm228 ⟨⟨_, _, rfl⟩, rfl⟩ bipush_22 ?_
    exact w_reti hm228 ⟨⟨_, _, rfl⟩, rfl⟩ rfl h
  · have h := h.2 hc
    refine w_aload_n (q := 9) hm228 ⟨⟨_, _, rfl⟩, rfl⟩ rfl ?_
    refine w_getr (q := 12) hm228 ⟨⟨_, _, rfl⟩, rfl⟩ rfl ?_
    refine w_iload_n (q := 13) hm228 ⟨⟨_, _, rfl⟩, rfl⟩ rfl ?_
    obtain ⟨hi, h⟩ := h
    refine w_lald (q := 14) (v := (tKv x3.toNatClampNeg)) hm228 ⟨⟨_, _, rfl⟩, rfl⟩ rfl hi rfl rfl ?_
    refine w_lload_n (q := 15) hm228 ⟨⟨_, _, rfl⟩, rfl⟩ rfl ?_
    refine w_lcmp (q := 16) hm228 ⟨⟨_, _, rfl⟩, rfl⟩ ?_
    refine w_if_ne (q := 19) (X := (lg_cmp (tKv x3.toNatClampNeg) y1).toInt) hm228 ⟨⟨_, _, rfl⟩, rfl⟩ rfl (fun hc => ?_) (fun hc => ?_)
    · have h := h.1 hc
      refine w_iinc (q := 24) (l' := [oR 38, oL y1, none, oI (x3 + (1 : Int32))]) hm228 ⟨⟨_, _, rfl⟩, rfl⟩ rfl rfl rfl iconst_1 rfl ?_
      refine w_goto (q := 2) hm228 ⟨_, _, rfl⟩ ?_
      exact h
    · have h := h.2 hc
      refine w_iload_n (q := 20) hm228 ⟨⟨_, _, rfl⟩, rfl⟩ rfl ?_
      exact w_reti hm228 ⟨⟨_, _, rfl⟩, rfl⟩ rfl h
theorem v_X8_scanLetters_38 {d : Nat} {x1 : Int32} {x2 : Int32} {m : dM} {Q : Int32 → dM → Prop} (h : j_X8_scanLetters_38_5 (d + 1) x1 x2 (0 : Int64) x2 m Q) : c_X8_scanLetters_38 (d + 1) x1 x2 m Q := by
  refine w_lconst (q := 1) hm227 ⟨⟨_, _, rfl⟩, rfl⟩ lconst_0 ?_
  refine w_lstore_n (q := 2) (l' := [oR 38, oI x1, oI x2, oL (0 : Int64), none, none]) hm227 ⟨⟨_, _, rfl⟩, rfl⟩ rfl rfl rfl ?_
  refine w_iload_n (q := 3) hm227 ⟨⟨_, _, rfl⟩, rfl⟩ rfl ?_
  refine w_istore (q := 5) (l' := [oR 38, oI x1, oI x2, oL (0 : Int64), none, oI x2]) hm227 ⟨⟨_, _, rfl⟩, rfl⟩ rfl rfl rfl ?_
  exact h
theorem v_X8_scanLetters_38_5 {d : Nat} {x1 : Int32} {x2 : Int32} {y3 : Int64} {x5 : Int32} {m : dM} {Q : Int32 → dM → Prop} (h : (((m.1 38 5).toInt ≤ x5.toInt → j_X8_scanLetters_38_49 (d + 1) x1 x2 y3 x5 m Q) ∧ (x5.toInt < (m.1 38 5).toInt → ((8 < (x5 - x2).toInt → j_X8_scanLetters_38_49 (d + 1) x1 x2 y3 x5 m Q) ∧ ((x5 - x2).toInt ≤ 8 → c_X8_isLetterAt_38 d x5 m (fun r1 m1 => ((r1.toInt = 0 → j_X8_scanLetters_38_49 (d + 1) x1 x2 y3 x5 m1 Q) ∧ (r1.toInt ≠ 0 → c_X8_byteAt_38 d x5 m1 (fun r2 m2 => c_X8_withLetter d y3 r2 m2 (fun r3 m3 => j_X8_scanLetters_38_5 (d + 1) x1 x2 r3 (x5 + (1 : Int32)) m3 Q)))))))))) : j_X8_scanLetters_38_5 (d + 1) x1 x2 y3 x5 m Q := by
  refine w_iload (q := 7) hm227 ⟨⟨_, _, rfl⟩, rfl⟩ rfl ?_
  refine w_aload_n (q := 8) hm227 ⟨⟨_, _, rfl⟩, rfl⟩ rfl ?_
  refine w_getf (q := 11) (v := (m.1 38 5)) hm227 ⟨⟨_, _, rfl⟩, rfl⟩ rfl rfl ?_
  refine w_icmp_ge (q := 14) (X := x5.toInt) (Y := (m.1 38 5).toInt) hm227 ⟨⟨_, _, rfl⟩, rfl⟩ rfl rfl (fun hc => ?_) (fun hc => ?_)
  · have h := h.1 hc
    exact h
  · have h := h.2 hc
    refine w_iload (q := 16) hm227 ⟨⟨_, _, rfl⟩, rfl⟩ rfl ?_
    refine w_iload_n (q := 17) hm227 ⟨⟨_, _, rfl⟩, rfl⟩ rfl ?_
    refine w_isub (q := 18) hm227 ⟨⟨_, _, rfl⟩, rfl⟩ ?_
    refine w_bipush (q := 20) hm227 ⟨⟨_, _, rfl⟩, rfl⟩ bipush_8 ?_
    refine w_icmp_gt (q := 23) (X := (x5 - x2).toInt) (Y := 8) hm227 ⟨⟨_, _, rfl⟩, rfl⟩ rfl (by decide) (fun hc => ?_) (fun hc => ?_)
    · have h := h.1 hc
      exact h
    · have h := h.2 hc
      refine w_aload_n (q := 24) hm227 ⟨⟨_, _, rfl⟩, rfl⟩ rfl ?_
      refine w_iload (q := 26) hm227 ⟨⟨_, _, rfl⟩, rfl⟩ rfl ?_
      refine w_call (q := 29) (n := 1) (vs := [.inr (.inr (some 38)), .inl x5]) (rest := []) (la := [oR 38, oI x5, none]) hm227 ⟨⟨_, _, rfl⟩, rfl⟩ rfl rfl rfl rfl hm222 rfl rfl (fun _ => ⟨_, _, rfl, rfl⟩) rfl (Wp.mono h ?_)
      rintro _ m1 ⟨r1, rfl, h⟩
      change Wp _ _ 29 _ [.inl r1] _ _
      refine w_if_eq (q := 32) (X := r1.toInt) hm227 ⟨⟨_, _, rfl⟩, rfl⟩ rfl (fun hc => ?_) (fun hc => ?_)
      · have h := h.1 hc
        exact h
      · have h := h.2 hc
        refine w_lload_n (q := 33) hm227 ⟨⟨_, _, rfl⟩, rfl⟩ rfl ?_
        refine w_aload_n (q := 34) hm227 ⟨⟨_, _, rfl⟩, rfl⟩ rfl ?_
        refine w_iload (q := 36) hm227 ⟨⟨_, _, rfl⟩, rfl⟩ rfl ?_
        refine w_call (q := 39) (n := 0) (vs := [.inr (.inr (some 38)), .inl x5]) (rest := [.inr (.inl y3)]) (la := [oR 38, oI x5]) hm227 ⟨⟨_, _, rfl⟩, rfl⟩ rfl rfl rfl rfl hm221 rfl rfl (fun _ => ⟨_, _, rfl, rfl⟩) rfl (Wp.mono h ?_)
        rintro _ m2 ⟨r2, rfl, h⟩
        change Wp _ _ 39 _ [.inl r2, .inr (.inl y3)] _ _
        refine w_call (q := 42) (n := 0) (vs := [.inr (.inl y3), .inl r2]) (rest := []) (la := [oL y3, none, oI r2]) hm227 ⟨⟨_, _, rfl⟩, rfl⟩ rfl rfl rfl rfl hm220 rfl rfl (fun hz => absurd hz (by decide)) rfl (Wp.mono h ?_)
        rintro _ m3 ⟨r3, rfl, h⟩
        change Wp _ _ 42 _ [.inr (.inl r3)] _ _
        refine w_lstore_n (q := 43) (l' := [oR 38, oI x1, oI x2, oL r3, none, oI x5]) hm227 ⟨⟨_, _, rfl⟩, rfl⟩ rfl rfl rfl ?_
        refine w_iinc (q := 46) (l' := [oR 38, oI x1, oI x2, oL r3, none, oI (x5 + (1 : Int32))]) hm227 ⟨⟨_, _, rfl⟩, rfl⟩ rfl rfl rfl iconst_1 rfl ?_
        refine w_goto (q := 5) hm227 ⟨_, _, rfl⟩ ?_
        exact h
theorem v_X8_scanLetters_38_49 {d : Nat} {x1 : Int32} {x2 : Int32} {y3 : Int64} {x5 : Int32} {m : dM} {Q : Int32 → dM → Prop} (h : ((0 ≤ x1.toInt ∧ x1.toInt < 401) ∧ (((x5 - x2).toInt ≤ 8 → c_X8_wordOrName_38 d y3 (dSetL m 41 x1.toNatClampNeg y3) (fun r1 m1 => ((0 ≤ x1.toInt ∧ x1.toInt < 401) ∧ Q x5 (dSet m1 39 x1.toNatClampNeg r1)))) ∧ (8 < (x5 - x2).toInt → ((0 ≤ x1.toInt ∧ x1.toInt < 401) ∧ Q x5 (dSet (dSetL m 41 x1.toNatClampNeg y3) 39 x1.toNatClampNeg (25 : Int32))))))) : j_X8_scanLetters_38_49 (d + 1) x1 x2 y3 x5 m Q := by
  refine w_aload_n (q := 50) hm227 ⟨⟨_, _, rfl⟩, rfl⟩ rfl ?_
  refine w_getr (q := 53) hm227 ⟨⟨_, _, rfl⟩, rfl⟩ rfl ?_
  refine w_iload_n (q := 54) hm227 ⟨⟨_, _, rfl⟩, rfl⟩ rfl ?_
  refine w_lload_n (q := 55) hm227 ⟨⟨_, _, rfl⟩, rfl⟩ rfl ?_
  obtain ⟨hi, h⟩ := h
  refine w_last (q := 56) hm227 ⟨⟨_, _, rfl⟩, rfl⟩ rfl hi rfl rfl ?_
  refine w_aload_n (q := 57) hm227 ⟨⟨_, _, rfl⟩, rfl⟩ rfl ?_
  refine w_getr (q := 60) hm227 ⟨⟨_, _, rfl⟩, rfl⟩ rfl ?_
  refine w_iload_n (q := 61) hm227 ⟨⟨_, _, rfl⟩, rfl⟩ rfl ?_
  refine w_iload (q := 63) hm227 ⟨⟨_, _, rfl⟩, rfl⟩ rfl ?_
  refine w_iload_n (q := 64) hm227 ⟨⟨_, _, rfl⟩, rfl⟩ rfl ?_
  refine w_isub (q := 65) hm227 ⟨⟨_, _, rfl⟩, rfl⟩ ?_
  refine w_bipush (q := 67) hm227 ⟨⟨_, _, rfl⟩, rfl⟩ bipush_8 ?_
  refine w_icmp_le (q := 70) (X := (x5 - x2).toInt) (Y := 8) hm227 ⟨⟨_, _, rfl⟩, rfl⟩ rfl (by decide) (fun hc => ?_) (fun hc => ?_)
  · have h := h.1 hc
    refine w_aload_n (q := 76) hm227 ⟨⟨_, _, rfl⟩, rfl⟩ rfl ?_
    refine w_lload_n (q := 77) hm227 ⟨⟨_, _, rfl⟩, rfl⟩ rfl ?_
    refine w_call (q := 80) (n := 1) (vs := [.inr (.inr (some 38)), .inr (.inl y3)]) (rest := [.inl x1, .inr (.inr (some 39))]) (la := [oR 38, oL y3, none, none]) hm227 ⟨⟨_, _, rfl⟩, rfl⟩ rfl rfl rfl rfl hm228 rfl rfl (fun _ => ⟨_, _, rfl, rfl⟩) rfl (Wp.mono h ?_)
    rintro _ m1 ⟨r1, rfl, h⟩
    change Wp _ _ 80 _ [.inl r1, .inl x1, .inr (.inr (some 39))] _ _
    obtain ⟨hi, h⟩ := h
    refine w_iast (q := 81) hm227 ⟨⟨_, _, rfl⟩, rfl⟩ rfl hi rfl rfl ?_
    refine w_iload (q := 83) hm227 ⟨⟨_, _, rfl⟩, rfl⟩ rfl ?_
    exact w_reti hm227 ⟨⟨_, _, rfl⟩, rfl⟩ rfl h
  · have h := h.2 hc
    refine w_bipush (q := 72) hm227 ⟨⟨_, _, rfl⟩, rfl⟩ bipush_25 ?_
    refine w_goto (q := 80) hm227 ⟨_, _, rfl⟩ ?_
    obtain ⟨hi, h⟩ := h
    refine w_iast (q := 81) hm227 ⟨⟨_, _, rfl⟩, rfl⟩ rfl hi rfl rfl ?_
    refine w_iload (q := 83) hm227 ⟨⟨_, _, rfl⟩, rfl⟩ rfl ?_
    exact w_reti hm227 ⟨⟨_, _, rfl⟩, rfl⟩ rfl h
theorem v_X8_scanOne_38 {d : Nat} {x1 : Int32} {x2 : Int32} {m : dM} {Q : Int32 → dM → Prop} (h : ((x2.toInt < (m.1 38 5).toInt → c_X8_isLetterAt_38 d x2 m (fun r1 m1 => ((r1.toInt = 0 → c_X8_isDigitAt_38 d x2 m1 (fun r2 m2 => ((r2.toInt = 0 → c_X8_byteAt_38 d x2 m2 (fun r3 m3 => c_X8_signOf d r3 m3 (fun r4 m4 => ((0 ≤ x1.toInt ∧ x1.toInt < 401) ∧ Q (x2 + (1 : Int32)) (dSet m4 39 x1.toNatClampNeg r4))))) ∧ (r2.toInt ≠ 0 → c_X8_scanDigits_38 d x1 x2 m2 (fun r5 m5 => Q r5 m5))))) ∧ (r1.toInt ≠ 0 → c_X8_scanLetters_38 d x1 x2 m1 (fun r6 m6 => Q r6 m6))))) ∧ ((m.1 38 5).toInt ≤ x2.toInt → ((0 ≤ x1.toInt ∧ x1.toInt < 401) ∧ Q x2 (dSet m 39 x1.toNatClampNeg (24 : Int32)))))) : c_X8_scanOne_38 (d + 1) x1 x2 m Q := by
  refine w_iload_n (q := 1) hm225 ⟨⟨_, _, rfl⟩, rfl⟩ rfl ?_
  refine w_aload_n (q := 2) hm225 ⟨⟨_, _, rfl⟩, rfl⟩ rfl ?_
  refine w_getf (q := 5) (v := (m.1 38 5)) hm225 ⟨⟨_, _, rfl⟩, rfl⟩ rfl rfl ?_
  refine w_icmp_lt (q := 8) (X := x2.toInt) (Y := (m.1 38 5).toInt) hm225 ⟨⟨_, _, rfl⟩, rfl⟩ rfl rfl (fun hc => ?_) (fun hc => ?_)
  · have h := h.1 hc
    refine w_aload_n (q := 19) hm225 ⟨⟨_, _, rfl⟩, rfl⟩ rfl ?_
    refine w_iload_n (q := 20) hm225 ⟨⟨_, _, rfl⟩, rfl⟩ rfl ?_
    refine w_call (q := 23) (n := 1) (vs := [.inr (.inr (some 38)), .inl x2]) (rest := []) (la := [oR 38, oI x2, none]) hm225 ⟨⟨_, _, rfl⟩, rfl⟩ rfl rfl rfl rfl hm222 rfl rfl (fun _ => ⟨_, _, rfl, rfl⟩) rfl (Wp.mono h ?_)
    rintro _ m1 ⟨r1, rfl, h⟩
    change Wp _ _ 23 _ [.inl r1] _ _
    refine w_if_eq (q := 26) (X := r1.toInt) hm225 ⟨⟨_, _, rfl⟩, rfl⟩ rfl (fun hc => ?_) (fun hc => ?_)
    · have h := h.1 hc
      refine w_aload_n (q := 34) hm225 ⟨⟨_, _, rfl⟩, rfl⟩ rfl ?_
      refine w_iload_n (q := 35) hm225 ⟨⟨_, _, rfl⟩, rfl⟩ rfl ?_
      refine w_call (q := 38) (n := 1) (vs := [.inr (.inr (some 38)), .inl x2]) (rest := []) (la := [oR 38, oI x2, none]) hm225 ⟨⟨_, _, rfl⟩, rfl⟩ rfl rfl rfl rfl hm223 rfl rfl (fun _ => ⟨_, _, rfl, rfl⟩) rfl (Wp.mono h ?_)
      rintro _ m2 ⟨r2, rfl, h⟩
      change Wp _ _ 38 _ [.inl r2] _ _
      refine w_if_eq (q := 41) (X := r2.toInt) hm225 ⟨⟨_, _, rfl⟩, rfl⟩ rfl (fun hc => ?_) (fun hc => ?_)
      · have h := h.1 hc
        refine w_aload_n (q := 49) hm225 ⟨⟨_, _, rfl⟩, rfl⟩ rfl ?_
        refine w_getr (q := 52) hm225 ⟨⟨_, _, rfl⟩, rfl⟩ rfl ?_
        refine w_iload_n (q := 53) hm225 ⟨⟨_, _, rfl⟩, rfl⟩ rfl ?_
        refine w_aload_n (q := 54) hm225 ⟨⟨_, _, rfl⟩, rfl⟩ rfl ?_
        refine w_iload_n (q := 55) hm225 ⟨⟨_, _, rfl⟩, rfl⟩ rfl ?_
        refine w_call (q := 58) (n := 0) (vs := [.inr (.inr (some 38)), .inl x2]) (rest := [.inl x1, .inr (.inr (some 39))]) (la := [oR 38, oI x2]) hm225 ⟨⟨_, _, rfl⟩, rfl⟩ rfl rfl rfl rfl hm221 rfl rfl (fun _ => ⟨_, _, rfl, rfl⟩) rfl (Wp.mono h ?_)
        rintro _ m3 ⟨r3, rfl, h⟩
        change Wp _ _ 58 _ [.inl r3, .inl x1, .inr (.inr (some 39))] _ _
        refine w_call (q := 61) (n := 0) (vs := [.inl r3]) (rest := [.inl x1, .inr (.inr (some 39))]) (la := [oI r3]) hm225 ⟨⟨_, _, rfl⟩, rfl⟩ rfl rfl rfl rfl hm226 rfl rfl (fun hz => absurd hz (by decide)) rfl (Wp.mono h ?_)
        rintro _ m4 ⟨r4, rfl, h⟩
        change Wp _ _ 61 _ [.inl r4, .inl x1, .inr (.inr (some 39))] _ _
        obtain ⟨hi, h⟩ := h
        refine w_iast (q := 62) hm225 ⟨⟨_, _, rfl⟩, rfl⟩ rfl hi rfl rfl ?_
        refine w_iload_n (q := 63) hm225 ⟨⟨_, _, rfl⟩, rfl⟩ rfl ?_
        refine w_iconst (q := 64) hm225 ⟨⟨_, _, rfl⟩, rfl⟩ iconst_1 ?_
        refine w_iadd (q := 65) hm225 ⟨⟨_, _, rfl⟩, rfl⟩ ?_
        exact w_reti hm225 ⟨⟨_, _, rfl⟩, rfl⟩ rfl h
      · have h := h.2 hc
        refine w_aload_n (q := 42) hm225 ⟨⟨_, _, rfl⟩, rfl⟩ rfl ?_
        refine w_iload_n (q := 43) hm225 ⟨⟨_, _, rfl⟩, rfl⟩ rfl ?_
        refine w_iload_n (q := 44) hm225 ⟨⟨_, _, rfl⟩, rfl⟩ rfl ?_
        refine w_call (q := 47) (n := 3) (vs := [.inr (.inr (some 38)), .inl x1, .inl x2]) (rest := []) (la := [oR 38, oI x1, oI x2, none, none, none]) hm225 ⟨⟨_, _, rfl⟩, rfl⟩ rfl rfl rfl rfl hm229 rfl rfl (fun _ => ⟨_, _, rfl, rfl⟩) rfl (Wp.mono h ?_)
        rintro _ m5 ⟨r5, rfl, h⟩
        change Wp _ _ 47 _ [.inl r5] _ _
        exact w_reti hm225 ⟨⟨_, _, rfl⟩, rfl⟩ rfl h
    · have h := h.2 hc
      refine w_aload_n (q := 27) hm225 ⟨⟨_, _, rfl⟩, rfl⟩ rfl ?_
      refine w_iload_n (q := 28) hm225 ⟨⟨_, _, rfl⟩, rfl⟩ rfl ?_
      refine w_iload_n (q := 29) hm225 ⟨⟨_, _, rfl⟩, rfl⟩ rfl ?_
      refine w_call (q := 32) (n := 3) (vs := [.inr (.inr (some 38)), .inl x1, .inl x2]) (rest := []) (la := [oR 38, oI x1, oI x2, none, none, none]) hm225 ⟨⟨_, _, rfl⟩, rfl⟩ rfl rfl rfl rfl hm227 rfl rfl (fun _ => ⟨_, _, rfl, rfl⟩) rfl (Wp.mono h ?_)
      rintro _ m6 ⟨r6, rfl, h⟩
      change Wp _ _ 32 _ [.inl r6] _ _
      exact w_reti hm225 ⟨⟨_, _, rfl⟩, rfl⟩ rfl h
  · have h := h.2 hc
    refine w_aload_n (q := 9) hm225 ⟨⟨_, _, rfl⟩, rfl⟩ rfl ?_
    refine w_getr (q := 12) hm225 ⟨⟨_, _, rfl⟩, rfl⟩ rfl ?_
    refine w_iload_n (q := 13) hm225 ⟨⟨_, _, rfl⟩, rfl⟩ rfl ?_
    refine w_bipush (q := 15) hm225 ⟨⟨_, _, rfl⟩, rfl⟩ bipush_24 ?_
    obtain ⟨hi, h⟩ := h
    refine w_iast (q := 16) hm225 ⟨⟨_, _, rfl⟩, rfl⟩ rfl hi rfl rfl ?_
    refine w_iload_n (q := 17) hm225 ⟨⟨_, _, rfl⟩, rfl⟩ rfl ?_
    exact w_reti hm225 ⟨⟨_, _, rfl⟩, rfl⟩ rfl h
theorem v_X8_scan_38_1 {d : Nat} {x2 : Int32} {m : dM} {Q : dM → Prop} (h : j_X8_scan_38_1_20 (d + 1) (0 : Int32) (0 : Int32) (dSet (dTx m) 38 5 (if (2000 : Int32) < x2 then (2000 : Int32) else x2)) Q) : c_X8_scan_38_1 (d + 1) x2 m Q := by
  refine w_aload_n (q := 1) hm215 ⟨⟨_, _, rfl⟩, rfl⟩ rfl ?_
  refine w_aload_n (q := 2) hm215 ⟨⟨_, _, rfl⟩, rfl⟩ rfl ?_
  refine w_putt (q := 5) hm215 ⟨⟨_, _, rfl⟩, rfl⟩ rfl rfl rfl rfl ?_
  refine w_aload_n (q := 6) hm215 ⟨⟨_, _, rfl⟩, rfl⟩ rfl ?_
  refine w_iload_n (q := 7) hm215 ⟨⟨_, _, rfl⟩, rfl⟩ rfl ?_
  refine w_aload_n (q := 8) hm215 ⟨⟨_, _, rfl⟩, rfl⟩ rfl ?_
  refine w_alen (q := 9) hm215 ⟨⟨_, _, rfl⟩, rfl⟩ rfl alen_2000 ?_
  refine w_min (q := 12) hm215 ⟨⟨_, _, rfl⟩, rfl⟩ rfl rfl ?_
  refine w_putf (q := 15) hm215 ⟨⟨_, _, rfl⟩, rfl⟩ rfl rfl rfl ?_
  refine w_iconst (q := 16) hm215 ⟨⟨_, _, rfl⟩, rfl⟩ iconst_0 ?_
  refine w_istore_n (q := 17) (l' := [oR 38, oR 1, oI x2, oI (0 : Int32), none]) hm215 ⟨⟨_, _, rfl⟩, rfl⟩ rfl rfl rfl ?_
  refine w_iconst (q := 18) hm215 ⟨⟨_, _, rfl⟩, rfl⟩ iconst_0 ?_
  refine w_istore (q := 20) (l' := [oR 38, oR 1, oI x2, oI (0 : Int32), oI (0 : Int32)]) hm215 ⟨⟨_, _, rfl⟩, rfl⟩ rfl rfl rfl ?_
  exact Wp.wk [true, false, false, true, true] h
theorem v_X8_scan_38_1_20 {d : Nat} {x3 : Int32} {x4 : Int32} {m : dM} {Q : dM → Prop} (h : ((400 < x4.toInt → Q m) ∧ (x4.toInt ≤ 400 → c_X8_pastBlanks_38 d x3 m (fun r1 m1 => ((0 ≤ x4.toInt ∧ x4.toInt < 401) ∧ c_X8_scanOne_38 d x4 r1 (dSet m1 40 x4.toNatClampNeg r1) (fun r2 m2 => ((0 ≤ x4.toInt ∧ x4.toInt < 401) ∧ (((m2.1 39 x4.toNatClampNeg).toInt = 24 → j_X8_scan_38_1_74 (d + 1) m2 Q) ∧ ((m2.1 39 x4.toNatClampNeg).toInt ≠ 24 → ((0 ≤ x4.toInt ∧ x4.toInt < 401) ∧ (((m2.1 39 x4.toNatClampNeg).toInt ≠ 25 → j_X8_scan_38_1_20 (d + 1) r2 (x4 + (1 : Int32)) m2 Q) ∧ ((m2.1 39 x4.toNatClampNeg).toInt = 25 → j_X8_scan_38_1_74 (d + 1) m2 Q)))))))))))) : j_X8_scan_38_1_20 (d + 1) x3 x4 m Q := by
  refine w_iload (q := 22) hm215 ⟨⟨_, _, rfl⟩, rfl⟩ rfl ?_
  refine w_sipush (q := 25) hm215 ⟨⟨_, _, rfl⟩, rfl⟩ sipush_400 ?_
  refine w_icmp_gt (q := 28) (X := x4.toInt) (Y := 400) hm215 ⟨⟨_, _, rfl⟩, rfl⟩ rfl (by decide) (fun hc => ?_) (fun hc => ?_)
  · have h := h.1 hc
    exact w_retv hm215 ⟨⟨_, _, rfl⟩, rfl⟩ rfl h
  · have h := h.2 hc
    refine w_aload_n (q := 29) hm215 ⟨⟨_, _, rfl⟩, rfl⟩ rfl ?_
    refine w_iload_n (q := 30) hm215 ⟨⟨_, _, rfl⟩, rfl⟩ rfl ?_
    refine w_call (q := 33) (n := 2) (vs := [.inr (.inr (some 38)), .inl x3]) (rest := []) (la := [oR 38, oI x3, none, none]) hm215 ⟨⟨_, _, rfl⟩, rfl⟩ rfl rfl rfl rfl hm224 rfl rfl (fun _ => ⟨_, _, rfl, rfl⟩) rfl (Wp.mono h ?_)
    rintro _ m1 ⟨r1, rfl, h⟩
    change Wp _ _ 33 _ [.inl r1] _ _
    refine w_istore_n (q := 34) (l' := [oR 38, none, none, oI r1, oI x4]) hm215 ⟨⟨_, _, rfl⟩, rfl⟩ rfl rfl rfl ?_
    refine w_aload_n (q := 35) hm215 ⟨⟨_, _, rfl⟩, rfl⟩ rfl ?_
    refine w_getr (q := 38) hm215 ⟨⟨_, _, rfl⟩, rfl⟩ rfl ?_
    refine w_iload (q := 40) hm215 ⟨⟨_, _, rfl⟩, rfl⟩ rfl ?_
    refine w_iload_n (q := 41) hm215 ⟨⟨_, _, rfl⟩, rfl⟩ rfl ?_
    obtain ⟨hi, h⟩ := h
    refine w_iast (q := 42) hm215 ⟨⟨_, _, rfl⟩, rfl⟩ rfl hi rfl rfl ?_
    refine w_aload_n (q := 43) hm215 ⟨⟨_, _, rfl⟩, rfl⟩ rfl ?_
    refine w_iload (q := 45) hm215 ⟨⟨_, _, rfl⟩, rfl⟩ rfl ?_
    refine w_iload_n (q := 46) hm215 ⟨⟨_, _, rfl⟩, rfl⟩ rfl ?_
    refine w_call (q := 49) (n := 0) (vs := [.inr (.inr (some 38)), .inl x4, .inl r1]) (rest := []) (la := [oR 38, oI x4, oI r1]) hm215 ⟨⟨_, _, rfl⟩, rfl⟩ rfl rfl rfl rfl hm225 rfl rfl (fun _ => ⟨_, _, rfl, rfl⟩) rfl (Wp.mono h ?_)
    rintro _ m2 ⟨r2, rfl, h⟩
    change Wp _ _ 49 _ [.inl r2] _ _
    refine w_istore_n (q := 50) (l' := [oR 38, none, none, oI r2, oI x4]) hm215 ⟨⟨_, _, rfl⟩, rfl⟩ rfl rfl rfl ?_
    refine w_aload_n (q := 51) hm215 ⟨⟨_, _, rfl⟩, rfl⟩ rfl ?_
    refine w_getr (q := 54) hm215 ⟨⟨_, _, rfl⟩, rfl⟩ rfl ?_
    refine w_iload (q := 56) hm215 ⟨⟨_, _, rfl⟩, rfl⟩ rfl ?_
    obtain ⟨hi, h⟩ := h
    refine w_iald (q := 57) (v := (m2.1 39 x4.toNatClampNeg)) hm215 ⟨⟨_, _, rfl⟩, rfl⟩ rfl hi rfl rfl ?_
    refine w_bipush (q := 59) hm215 ⟨⟨_, _, rfl⟩, rfl⟩ bipush_24 ?_
    refine w_icmp_eq (q := 62) (X := (m2.1 39 x4.toNatClampNeg).toInt) (Y := 24) hm215 ⟨⟨_, _, rfl⟩, rfl⟩ rfl (by decide) (fun hc => ?_) (fun hc => ?_)
    · have h := h.1 hc
      exact Wp.wk [false, false, false, false, false] h
    · have h := h.2 hc
      refine w_aload_n (q := 63) hm215 ⟨⟨_, _, rfl⟩, rfl⟩ rfl ?_
      refine w_getr (q := 66) hm215 ⟨⟨_, _, rfl⟩, rfl⟩ rfl ?_
      refine w_iload (q := 68) hm215 ⟨⟨_, _, rfl⟩, rfl⟩ rfl ?_
      obtain ⟨hi, h⟩ := h
      refine w_iald (q := 69) (v := (m2.1 39 x4.toNatClampNeg)) hm215 ⟨⟨_, _, rfl⟩, rfl⟩ rfl hi rfl rfl ?_
      refine w_bipush (q := 71) hm215 ⟨⟨_, _, rfl⟩, rfl⟩ bipush_25 ?_
      refine w_icmp_ne (q := 74) (X := (m2.1 39 x4.toNatClampNeg).toInt) (Y := 25) hm215 ⟨⟨_, _, rfl⟩, rfl⟩ rfl (by decide) (fun hc => ?_) (fun hc => ?_)
      · have h := h.1 hc
        refine w_iinc (q := 78) (l' := [oR 38, none, none, oI r2, oI (x4 + (1 : Int32))]) hm215 ⟨⟨_, _, rfl⟩, rfl⟩ rfl rfl rfl iconst_1 rfl ?_
        refine w_goto (q := 20) hm215 ⟨_, _, rfl⟩ ?_
        exact h
      · have h := h.2 hc
        exact Wp.wk [false, false, false, false, false] h
theorem v_X8_scan_38_1_74 {d : Nat} {m : dM} {Q : dM → Prop} (h : Q m) : j_X8_scan_38_1_74 (d + 1) m Q := by
  exact w_retv hm215 ⟨⟨_, _, rfl⟩, rfl⟩ rfl h
theorem v_X4_begin_29 {d : Nat} {x1 : Int32} {m : dM} {Q : dM → Prop} (h : ((0 ≤ x1.toInt ∧ x1.toInt < 4) ∧ ((0 ≤ x1.toInt ∧ x1.toInt < 4) ∧ (x1.toInt = 0 → Q (dSet (dSet m 36 x1.toNatClampNeg (0 : Int32)) 32 0 (m.1 29 1))) ∧ (x1.toInt = 1 → Q (dSet (dSet m 36 x1.toNatClampNeg (0 : Int32)) 33 0 (m.1 29 1))) ∧ (x1.toInt = 2 → Q (dSet (dSet m 36 x1.toNatClampNeg (0 : Int32)) 34 0 (m.1 29 1))) ∧ (x1.toInt = 3 → Q (dSet (dSet m 36 x1.toNatClampNeg (0 : Int32)) 35 0 (m.1 29 1)))))) : c_X4_begin_29 (d + 1) x1 m Q := by
  refine w_aload_n (q := 1) hm178 ⟨⟨_, _, rfl⟩, rfl⟩ rfl ?_
  refine w_getr (q := 4) hm178 ⟨⟨_, _, rfl⟩, rfl⟩ rfl ?_
  refine w_iload_n (q := 5) hm178 ⟨⟨_, _, rfl⟩, rfl⟩ rfl ?_
  refine w_iconst (q := 6) hm178 ⟨⟨_, _, rfl⟩, rfl⟩ iconst_0 ?_
  obtain ⟨hi, h⟩ := h
  refine w_iast (q := 7) hm178 ⟨⟨_, _, rfl⟩, rfl⟩ rfl hi rfl rfl ?_
  refine w_aload_n (q := 8) hm178 ⟨⟨_, _, rfl⟩, rfl⟩ rfl ?_
  refine w_getr (q := 11) hm178 ⟨⟨_, _, rfl⟩, rfl⟩ rfl ?_
  refine w_iload_n (q := 12) hm178 ⟨⟨_, _, rfl⟩, rfl⟩ rfl ?_
  obtain ⟨hi, h⟩ := h
  refine w_aald (q := 13) hm178 ⟨⟨_, _, rfl⟩, rfl⟩ rfl rfl hi ((And.intro (fun hc => ?_) (And.intro (fun hc => ?_) (And.intro (fun hc => ?_) (And.intro (fun hc => ?_) trivial)))))
  · have h := (h.1) hc
    refine w_iconst (q := 14) hm178 ⟨⟨_, _, rfl⟩, rfl⟩ iconst_0 ?_
    refine w_aload_n (q := 15) hm178 ⟨⟨_, _, rfl⟩, rfl⟩ rfl ?_
    refine w_getf (q := 18) (v := (m.1 29 1)) hm178 ⟨⟨_, _, rfl⟩, rfl⟩ rfl rfl ?_
    refine w_iast (q := 19) (j := 0) hm178 ⟨⟨_, _, rfl⟩, rfl⟩ rfl (by decide) (by decide) rfl ?_
    exact w_retv hm178 ⟨⟨_, _, rfl⟩, rfl⟩ rfl h
  · have h := (h.2.1) hc
    refine w_iconst (q := 14) hm178 ⟨⟨_, _, rfl⟩, rfl⟩ iconst_0 ?_
    refine w_aload_n (q := 15) hm178 ⟨⟨_, _, rfl⟩, rfl⟩ rfl ?_
    refine w_getf (q := 18) (v := (m.1 29 1)) hm178 ⟨⟨_, _, rfl⟩, rfl⟩ rfl rfl ?_
    refine w_iast (q := 19) (j := 0) hm178 ⟨⟨_, _, rfl⟩, rfl⟩ rfl (by decide) (by decide) rfl ?_
    exact w_retv hm178 ⟨⟨_, _, rfl⟩, rfl⟩ rfl h
  · have h := (h.2.2.1) hc
    refine w_iconst (q := 14) hm178 ⟨⟨_, _, rfl⟩, rfl⟩ iconst_0 ?_
    refine w_aload_n (q := 15) hm178 ⟨⟨_, _, rfl⟩, rfl⟩ rfl ?_
    refine w_getf (q := 18) (v := (m.1 29 1)) hm178 ⟨⟨_, _, rfl⟩, rfl⟩ rfl rfl ?_
    refine w_iast (q := 19) (j := 0) hm178 ⟨⟨_, _, rfl⟩, rfl⟩ rfl (by decide) (by decide) rfl ?_
    exact w_retv hm178 ⟨⟨_, _, rfl⟩, rfl⟩ rfl h
  · have h := (h.2.2.2) hc
    refine w_iconst (q := 14) hm178 ⟨⟨_, _, rfl⟩, rfl⟩ iconst_0 ?_
    refine w_aload_n (q := 15) hm178 ⟨⟨_, _, rfl⟩, rfl⟩ rfl ?_
    refine w_getf (q := 18) (v := (m.1 29 1)) hm178 ⟨⟨_, _, rfl⟩, rfl⟩ rfl rfl ?_
    refine w_iast (q := 19) (j := 0) hm178 ⟨⟨_, _, rfl⟩, rfl⟩ rfl (by decide) (by decide) rfl ?_
    exact w_retv hm178 ⟨⟨_, _, rfl⟩, rfl⟩ rfl h
theorem v_X4_put_29 {d : Nat} {x1 : Int32} {m : dM} {Q : dM → Prop} (h : ((406 ≤ (m.1 29 1).toInt → j_X4_put_29_32 (d + 1) m Q) ∧ ((m.1 29 1).toInt < 406 → ((0 ≤ (m.1 29 1).toInt ∧ (m.1 29 1).toInt < 406) ∧ j_X4_put_29_32 (d + 1) (dSet (dSet m 30 (m.1 29 1).toNatClampNeg x1) 29 1 ((m.1 29 1) + (1 : Int32))) Q)))) : c_X4_put_29 (d + 1) x1 m Q := by
  refine w_aload_n (q := 1) hm179 ⟨⟨_, _, rfl⟩, rfl⟩ rfl ?_
  refine w_getf (q := 4) (v := (m.1 29 1)) hm179 ⟨⟨_, _, rfl⟩, rfl⟩ rfl rfl ?_
  refine w_aload_n (q := 5) hm179 ⟨⟨_, _, rfl⟩, rfl⟩ rfl ?_
  refine w_getr (q := 8) hm179 ⟨⟨_, _, rfl⟩, rfl⟩ rfl ?_
  refine w_alen (q := 9) hm179 ⟨⟨_, _, rfl⟩, rfl⟩ rfl alen_406 ?_
  refine w_icmp_ge (q := 12) (X := (m.1 29 1).toInt) (Y := 406) hm179 ⟨⟨_, _, rfl⟩, rfl⟩ rfl (by decide) (fun hc => ?_) (fun hc => ?_)
  · have h := h.1 hc
    exact Wp.wk [false, false] h
  · have h := h.2 hc
    refine w_aload_n (q := 13) hm179 ⟨⟨_, _, rfl⟩, rfl⟩ rfl ?_
    refine w_getr (q := 16) hm179 ⟨⟨_, _, rfl⟩, rfl⟩ rfl ?_
    refine w_aload_n (q := 17) hm179 ⟨⟨_, _, rfl⟩, rfl⟩ rfl ?_
    refine w_getf (q := 20) (v := (m.1 29 1)) hm179 ⟨⟨_, _, rfl⟩, rfl⟩ rfl rfl ?_
    refine w_iload_n (q := 21) hm179 ⟨⟨_, _, rfl⟩, rfl⟩ rfl ?_
    obtain ⟨hi, h⟩ := h
    refine w_iast (q := 22) hm179 ⟨⟨_, _, rfl⟩, rfl⟩ rfl hi rfl rfl ?_
    refine w_aload_n (q := 23) hm179 ⟨⟨_, _, rfl⟩, rfl⟩ rfl ?_
    refine w_dup (q := 24) hm179 ⟨⟨_, _, rfl⟩, rfl⟩ rfl ?_
    refine w_getf (q := 27) (v := (m.1 29 1)) hm179 ⟨⟨_, _, rfl⟩, rfl⟩ rfl rfl ?_
    refine w_iconst (q := 28) hm179 ⟨⟨_, _, rfl⟩, rfl⟩ iconst_1 ?_
    refine w_iadd (q := 29) hm179 ⟨⟨_, _, rfl⟩, rfl⟩ ?_
    refine w_putf (q := 32) hm179 ⟨⟨_, _, rfl⟩, rfl⟩ rfl rfl rfl ?_
    exact Wp.wk [false, false] h
theorem v_X4_put_29_32 {d : Nat} {m : dM} {Q : dM → Prop} (h : Q m) : j_X4_put_29_32 (d + 1) m Q := by
  exact w_retv hm179 ⟨⟨_, _, rfl⟩, rfl⟩ rfl h
theorem v_X4_endPiece_29 {d : Nat} {x1 : Int32} {m : dM} {Q : dM → Prop} (h : ((0 ≤ x1.toInt ∧ x1.toInt < 4) ∧ ((13 ≤ (m.1 36 x1.toNatClampNeg).toInt → j_X4_endPiece_29_38 (d + 1) m Q) ∧ ((m.1 36 x1.toNatClampNeg).toInt < 13 → ((0 ≤ x1.toInt ∧ x1.toInt < 4) ∧ ((0 ≤ x1.toInt ∧ x1.toInt < 4) ∧ ((0 ≤ x1.toInt ∧ x1.toInt < 4) ∧ (x1.toInt = 0 → ((0 ≤ x1.toInt ∧ x1.toInt < 4) ∧ ((0 ≤ ((m.1 36 x1.toNatClampNeg) + (1 : Int32)).toInt ∧ ((m.1 36 x1.toNatClampNeg) + (1 : Int32)).toInt < 14) ∧ j_X4_endPiece_29_38 (d + 1) (dSet (dSet m 36 x1.toNatClampNeg ((m.1 36 x1.toNatClampNeg) + (1 : Int32))) 32 ((m.1 36 x1.toNatClampNeg) + (1 : Int32)).toNatClampNeg (m.1 29 1)) Q))) ∧ (x1.toInt = 1 → ((0 ≤ x1.toInt ∧ x1.toInt < 4) ∧ ((0 ≤ ((m.1 36 x1.toNatClampNeg) + (1 : Int32)).toInt ∧ ((m.1 36 x1.toNatClampNeg) + (1 : Int32)).toInt < 14) ∧ j_X4_endPiece_29_38 (d + 1) (dSet (dSet m 36 x1.toNatClampNeg ((m.1 36 x1.toNatClampNeg) + (1 : Int32))) 33 ((m.1 36 x1.toNatClampNeg) + (1 : Int32)).toNatClampNeg (m.1 29 1)) Q))) ∧ (x1.toInt = 2 → ((0 ≤ x1.toInt ∧ x1.toInt < 4) ∧ ((0 ≤ ((m.1 36 x1.toNatClampNeg) + (1 : Int32)).toInt ∧ ((m.1 36 x1.toNatClampNeg) + (1 : Int32)).toInt < 14) ∧ j_X4_endPiece_29_38 (d + 1) (dSet (dSet m 36 x1.toNatClampNeg ((m.1 36 x1.toNatClampNeg) + (1 : Int32))) 34 ((m.1 36 x1.toNatClampNeg) + (1 : Int32)).toNatClampNeg (m.1 29 1)) Q))) ∧ (x1.toInt = 3 → ((0 ≤ x1.toInt ∧ x1.toInt < 4) ∧ ((0 ≤ ((m.1 36 x1.toNatClampNeg) + (1 : Int32)).toInt ∧ ((m.1 36 x1.toNatClampNeg) + (1 : Int32)).toInt < 14) ∧ j_X4_endPiece_29_38 (d + 1) (dSet (dSet m 36 x1.toNatClampNeg ((m.1 36 x1.toNatClampNeg) + (1 : Int32))) 35 ((m.1 36 x1.toNatClampNeg) + (1 : Int32)).toNatClampNeg (m.1 29 1)) Q)))))))))) : c_X4_endPiece_29 (d + 1) x1 m Q := by
  refine w_aload_n (q := 1) hm180 ⟨⟨_, _, rfl⟩, rfl⟩ rfl ?_
  refine w_getr (q := 4) hm180 ⟨⟨_, _, rfl⟩, rfl⟩ rfl ?_
  refine w_iload_n (q := 5) hm180 ⟨⟨_, _, rfl⟩, rfl⟩ rfl ?_
  obtain ⟨hi, h⟩ := h
  refine w_iald (q := 6) (v := (m.1 36 x1.toNatClampNeg)) hm180 ⟨⟨_, _, rfl⟩, rfl⟩ rfl hi rfl rfl ?_
  refine w_bipush (q := 8) hm180 ⟨⟨_, _, rfl⟩, rfl⟩ bipush_13 ?_
  refine w_icmp_ge (q := 11) (X := (m.1 36 x1.toNatClampNeg).toInt) (Y := 13) hm180 ⟨⟨_, _, rfl⟩, rfl⟩ rfl (by decide) (fun hc => ?_) (fun hc => ?_)
  · have h := h.1 hc
    exact Wp.wk [false, false] h
  · have h := h.2 hc
    refine w_aload_n (q := 12) hm180 ⟨⟨_, _, rfl⟩, rfl⟩ rfl ?_
    refine w_getr (q := 15) hm180 ⟨⟨_, _, rfl⟩, rfl⟩ rfl ?_
    refine w_iload_n (q := 16) hm180 ⟨⟨_, _, rfl⟩, rfl⟩ rfl ?_
    refine w_dup2 (q := 17) hm180 ⟨⟨_, _, rfl⟩, rfl⟩ rfl ?_
    obtain ⟨hi, h⟩ := h
    refine w_iald (q := 18) (v := (m.1 36 x1.toNatClampNeg)) hm180 ⟨⟨_, _, rfl⟩, rfl⟩ rfl hi rfl rfl ?_
    refine w_iconst (q := 19) hm180 ⟨⟨_, _, rfl⟩, rfl⟩ iconst_1 ?_
    refine w_iadd (q := 20) hm180 ⟨⟨_, _, rfl⟩, rfl⟩ ?_
    obtain ⟨hi, h⟩ := h
    refine w_iast (q := 21) hm180 ⟨⟨_, _, rfl⟩, rfl⟩ rfl hi rfl rfl ?_
    refine w_aload_n (q := 22) hm180 ⟨⟨_, _, rfl⟩, rfl⟩ rfl ?_
    refine w_getr (q := 25) hm180 ⟨⟨_, _, rfl⟩, rfl⟩ rfl ?_
    refine w_iload_n (q := 26) hm180 ⟨⟨_, _, rfl⟩, rfl⟩ rfl ?_
    obtain ⟨hi, h⟩ := h
    refine w_aald (q := 27) hm180 ⟨⟨_, _, rfl⟩, rfl⟩ rfl rfl hi ((And.intro (fun hc => ?_) (And.intro (fun hc => ?_) (And.intro (fun hc => ?_) (And.intro (fun hc => ?_) trivial)))))
    · have h := (h.1) hc
      refine w_aload_n (q := 28) hm180 ⟨⟨_, _, rfl⟩, rfl⟩ rfl ?_
      refine w_getr (q := 31) hm180 ⟨⟨_, _, rfl⟩, rfl⟩ rfl ?_
      refine w_iload_n (q := 32) hm180 ⟨⟨_, _, rfl⟩, rfl⟩ rfl ?_
      obtain ⟨hi, h⟩ := h
      refine w_iald (q := 33) (v := ((m.1 36 x1.toNatClampNeg) + (1 : Int32))) hm180 ⟨⟨_, _, rfl⟩, rfl⟩ rfl hi rfl (dSet_s m 36 x1.toNatClampNeg ((m.1 36 x1.toNatClampNeg) + (1 : Int32))) ?_
      refine w_aload_n (q := 34) hm180 ⟨⟨_, _, rfl⟩, rfl⟩ rfl ?_
      refine w_getf (q := 37) (v := (m.1 29 1)) hm180 ⟨⟨_, _, rfl⟩, rfl⟩ rfl rfl ?_
      obtain ⟨hi, h⟩ := h
      refine w_iast (q := 38) hm180 ⟨⟨_, _, rfl⟩, rfl⟩ rfl hi rfl rfl ?_
      exact Wp.wk [false, false] h
    · have h := (h.2.1) hc
      refine w_aload_n (q := 28) hm180 ⟨⟨_, _, rfl⟩, rfl⟩ rfl ?_
      refine w_getr (q := 31) hm180 ⟨⟨_, _, rfl⟩, rfl⟩ rfl ?_
      refine w_iload_n (q := 32) hm180 ⟨⟨_, _, rfl⟩, rfl⟩ rfl ?_
      obtain ⟨hi, h⟩ := h
      refine w_iald (q := 33) (v := ((m.1 36 x1.toNatClampNeg) + (1 : Int32))) hm180 ⟨⟨_, _, rfl⟩, rfl⟩ rfl hi rfl (dSet_s m 36 x1.toNatClampNeg ((m.1 36 x1.toNatClampNeg) + (1 : Int32))) ?_
      refine w_aload_n (q := 34) hm180 ⟨⟨_, _, rfl⟩, rfl⟩ rfl ?_
      refine w_getf (q := 37) (v := (m.1 29 1)) hm180 ⟨⟨_, _, rfl⟩, rfl⟩ rfl rfl ?_
      obtain ⟨hi, h⟩ := h
      refine w_iast (q := 38) hm180 ⟨⟨_, _, rfl⟩, rfl⟩ rfl hi rfl rfl ?_
      exact Wp.wk [false, false] h
    · have h := (h.2.2.1) hc
      refine w_aload_n (q := 28) hm180 ⟨⟨_, _, rfl⟩, rfl⟩ rfl ?_
      refine w_getr (q := 31) hm180 ⟨⟨_, _, rfl⟩, rfl⟩ rfl ?_
      refine w_iload_n (q := 32) hm180 ⟨⟨_, _, rfl⟩, rfl⟩ rfl ?_
      obtain ⟨hi, h⟩ := h
      refine w_iald (q := 33) (v := ((m.1 36 x1.toNatClampNeg) + (1 : Int32))) hm180 ⟨⟨_, _, rfl⟩, rfl⟩ rfl hi rfl (dSet_s m 36 x1.toNatClampNeg ((m.1 36 x1.toNatClampNeg) + (1 : Int32))) ?_
      refine w_aload_n (q := 34) hm180 ⟨⟨_, _, rfl⟩, rfl⟩ rfl ?_
      refine w_getf (q := 37) (v := (m.1 29 1)) hm180 ⟨⟨_, _, rfl⟩, rfl⟩ rfl rfl ?_
      obtain ⟨hi, h⟩ := h
      refine w_iast (q := 38) hm180 ⟨⟨_, _, rfl⟩, rfl⟩ rfl hi rfl rfl ?_
      exact Wp.wk [false, false] h
    · have h := (h.2.2.2) hc
      refine w_aload_n (q := 28) hm180 ⟨⟨_, _, rfl⟩, rfl⟩ rfl ?_
      refine w_getr (q := 31) hm180 ⟨⟨_, _, rfl⟩, rfl⟩ rfl ?_
      refine w_iload_n (q := 32) hm180 ⟨⟨_, _, rfl⟩, rfl⟩ rfl ?_
      obtain ⟨hi, h⟩ := h
      refine w_iald (q := 33) (v := ((m.1 36 x1.toNatClampNeg) + (1 : Int32))) hm180 ⟨⟨_, _, rfl⟩, rfl⟩ rfl hi rfl (dSet_s m 36 x1.toNatClampNeg ((m.1 36 x1.toNatClampNeg) + (1 : Int32))) ?_
      refine w_aload_n (q := 34) hm180 ⟨⟨_, _, rfl⟩, rfl⟩ rfl ?_
      refine w_getf (q := 37) (v := (m.1 29 1)) hm180 ⟨⟨_, _, rfl⟩, rfl⟩ rfl rfl ?_
      obtain ⟨hi, h⟩ := h
      refine w_iast (q := 38) hm180 ⟨⟨_, _, rfl⟩, rfl⟩ rfl hi rfl rfl ?_
      exact Wp.wk [false, false] h
theorem v_X4_endPiece_29_38 {d : Nat} {m : dM} {Q : dM → Prop} (h : Q m) : j_X4_endPiece_29_38 (d + 1) m Q := by
  exact w_retv hm180 ⟨⟨_, _, rfl⟩, rfl⟩ rfl h
theorem v_X4_clear_29 {d : Nat} {m : dM} {Q : dM → Prop} (h : c_X4_begin_29 d (0 : Int32) (dSet m 29 1 (0 : Int32)) (fun m1 => c_X4_put_29 d (4 : Int32) m1 (fun m2 => c_X4_put_29 d (5 : Int32) m2 (fun m3 => c_X4_put_29 d (1 : Int32) m3 (fun m4 => c_X4_endPiece_29 d (0 : Int32) m4 (fun m5 => c_X4_begin_29 d (1 : Int32) m5 (fun m6 => c_X4_put_29 d (13 : Int32) m6 (fun m7 => c_X4_endPiece_29 d (1 : Int32) m7 (fun m8 => c_X4_begin_29 d (2 : Int32) m8 (fun m9 => c_X4_put_29 d (5 : Int32) m9 (fun m10 => c_X4_endPiece_29 d (2 : Int32) m10 (fun m11 => c_X4_begin_29 d (3 : Int32) m11 (fun m12 => c_X4_put_29 d (9 : Int32) m12 (fun m13 => c_X4_endPiece_29 d (3 : Int32) m13 (fun m14 => Q m14))))))))))))))) : c_X4_clear_29 (d + 1) m Q := by
  refine w_aload_n (q := 1) hm176 ⟨⟨_, _, rfl⟩, rfl⟩ rfl ?_
  refine w_iconst (q := 2) hm176 ⟨⟨_, _, rfl⟩, rfl⟩ iconst_0 ?_
  refine w_putf (q := 5) hm176 ⟨⟨_, _, rfl⟩, rfl⟩ rfl rfl rfl ?_
  refine w_aload_n (q := 6) hm176 ⟨⟨_, _, rfl⟩, rfl⟩ rfl ?_
  refine w_iconst (q := 7) hm176 ⟨⟨_, _, rfl⟩, rfl⟩ iconst_0 ?_
  refine w_call (q := 10) (n := 0) (vs := [.inr (.inr (some 29)), .inl (0 : Int32)]) (rest := []) (la := [oR 29, oI (0 : Int32)]) hm176 ⟨⟨_, _, rfl⟩, rfl⟩ rfl rfl rfl rfl hm178 rfl rfl (fun _ => ⟨_, _, rfl, rfl⟩) rfl (Wp.mono h ?_)
  rintro _ m1 ⟨rfl, h⟩
  change Wp _ _ 10 _ [] _ _
  refine w_aload_n (q := 11) hm176 ⟨⟨_, _, rfl⟩, rfl⟩ rfl ?_
  refine w_iconst (q := 12) hm176 ⟨⟨_, _, rfl⟩, rfl⟩ iconst_4 ?_
  refine w_call (q := 15) (n := 0) (vs := [.inr (.inr (some 29)), .inl (4 : Int32)]) (rest := []) (la := [oR 29, oI (4 : Int32)]) hm176 ⟨⟨_, _, rfl⟩, rfl⟩ rfl rfl rfl rfl hm179 rfl rfl (fun _ => ⟨_, _, rfl, rfl⟩) rfl (Wp.mono h ?_)
  rintro _ m2 ⟨rfl, h⟩
  change Wp _ _ 15 _ [] _ _
  refine w_aload_n (q := 16) hm176 ⟨⟨_, _, rfl⟩, rfl⟩ rfl ?_
  refine w_iconst (q := 17) hm176 ⟨⟨_, _, rfl⟩, rfl⟩ iconst_5 ?_
  refine w_call (q := 20) (n := 0) (vs := [.inr (.inr (some 29)), .inl (5 : Int32)]) (rest := []) (la := [oR 29, oI (5 : Int32)]) hm176 ⟨⟨_, _, rfl⟩, rfl⟩ rfl rfl rfl rfl hm179 rfl rfl (fun _ => ⟨_, _, rfl, rfl⟩) rfl (Wp.mono h ?_)
  rintro _ m3 ⟨rfl, h⟩
  change Wp _ _ 20 _ [] _ _
  refine w_aload_n (q := 21) hm176 ⟨⟨_, _, rfl⟩, rfl⟩ rfl ?_
  refine w_iconst (q := 22) hm176 ⟨⟨_, _, rfl⟩, rfl⟩ iconst_1 ?_
  refine w_call (q := 25) (n := 0) (vs := [.inr (.inr (some 29)), .inl (1 : Int32)]) (rest := []) (la := [oR 29, oI (1 : Int32)]) hm176 ⟨⟨_, _, rfl⟩, rfl⟩ rfl rfl rfl rfl hm179 rfl rfl (fun _ => ⟨_, _, rfl, rfl⟩) rfl (Wp.mono h ?_)
  rintro _ m4 ⟨rfl, h⟩
  change Wp _ _ 25 _ [] _ _
  refine w_aload_n (q := 26) hm176 ⟨⟨_, _, rfl⟩, rfl⟩ rfl ?_
  refine w_iconst (q := 27) hm176 ⟨⟨_, _, rfl⟩, rfl⟩ iconst_0 ?_
  refine w_call (q := 30) (n := 0) (vs := [.inr (.inr (some 29)), .inl (0 : Int32)]) (rest := []) (la := [oR 29, oI (0 : Int32)]) hm176 ⟨⟨_, _, rfl⟩, rfl⟩ rfl rfl rfl rfl hm180 rfl rfl (fun _ => ⟨_, _, rfl, rfl⟩) rfl (Wp.mono h ?_)
  rintro _ m5 ⟨rfl, h⟩
  change Wp _ _ 30 _ [] _ _
  refine w_aload_n (q := 31) hm176 ⟨⟨_, _, rfl⟩, rfl⟩ rfl ?_
  refine w_iconst (q := 32) hm176 ⟨⟨_, _, rfl⟩, rfl⟩ iconst_1 ?_
  refine w_call (q := 35) (n := 0) (vs := [.inr (.inr (some 29)), .inl (1 : Int32)]) (rest := []) (la := [oR 29, oI (1 : Int32)]) hm176 ⟨⟨_, _, rfl⟩, rfl⟩ rfl rfl rfl rfl hm178 rfl rfl (fun _ => ⟨_, _, rfl, rfl⟩) rfl (Wp.mono h ?_)
  rintro _ m6 ⟨rfl, h⟩
  change Wp _ _ 35 _ [] _ _
  refine w_aload_n (q := 36) hm176 ⟨⟨_, _, rfl⟩, rfl⟩ rfl ?_
  refine w_bipush (q := 38) hm176 ⟨⟨_, _, rfl⟩, rfl⟩ bipush_13 ?_
  refine w_call (q := 41) (n := 0) (vs := [.inr (.inr (some 29)), .inl (13 : Int32)]) (rest := []) (la := [oR 29, oI (13 : Int32)]) hm176 ⟨⟨_, _, rfl⟩, rfl⟩ rfl rfl rfl rfl hm179 rfl rfl (fun _ => ⟨_, _, rfl, rfl⟩) rfl (Wp.mono h ?_)
  rintro _ m7 ⟨rfl, h⟩
  change Wp _ _ 41 _ [] _ _
  refine w_aload_n (q := 42) hm176 ⟨⟨_, _, rfl⟩, rfl⟩ rfl ?_
  refine w_iconst (q := 43) hm176 ⟨⟨_, _, rfl⟩, rfl⟩ iconst_1 ?_
  refine w_call (q := 46) (n := 0) (vs := [.inr (.inr (some 29)), .inl (1 : Int32)]) (rest := []) (la := [oR 29, oI (1 : Int32)]) hm176 ⟨⟨_, _, rfl⟩, rfl⟩ rfl rfl rfl rfl hm180 rfl rfl (fun _ => ⟨_, _, rfl, rfl⟩) rfl (Wp.mono h ?_)
  rintro _ m8 ⟨rfl, h⟩
  change Wp _ _ 46 _ [] _ _
  refine w_aload_n (q := 47) hm176 ⟨⟨_, _, rfl⟩, rfl⟩ rfl ?_
  refine w_iconst (q := 48) hm176 ⟨⟨_, _, rfl⟩, rfl⟩ iconst_2 ?_
  refine w_call (q := 51) (n := 0) (vs := [.inr (.inr (some 29)), .inl (2 : Int32)]) (rest := []) (la := [oR 29, oI (2 : Int32)]) hm176 ⟨⟨_, _, rfl⟩, rfl⟩ rfl rfl rfl rfl hm178 rfl rfl (fun _ => ⟨_, _, rfl, rfl⟩) rfl (Wp.mono h ?_)
  rintro _ m9 ⟨rfl, h⟩
  change Wp _ _ 51 _ [] _ _
  refine w_aload_n (q := 52) hm176 ⟨⟨_, _, rfl⟩, rfl⟩ rfl ?_
  refine w_iconst (q := 53) hm176 ⟨⟨_, _, rfl⟩, rfl⟩ iconst_5 ?_
  refine w_call (q := 56) (n := 0) (vs := [.inr (.inr (some 29)), .inl (5 : Int32)]) (rest := []) (la := [oR 29, oI (5 : Int32)]) hm176 ⟨⟨_, _, rfl⟩, rfl⟩ rfl rfl rfl rfl hm179 rfl rfl (fun _ => ⟨_, _, rfl, rfl⟩) rfl (Wp.mono h ?_)
  rintro _ m10 ⟨rfl, h⟩
  change Wp _ _ 56 _ [] _ _
  refine w_aload_n (q := 57) hm176 ⟨⟨_, _, rfl⟩, rfl⟩ rfl ?_
  refine w_iconst (q := 58) hm176 ⟨⟨_, _, rfl⟩, rfl⟩ iconst_2 ?_
  refine w_call (q := 61) (n := 0) (vs := [.inr (.inr (some 29)), .inl (2 : Int32)]) (rest := []) (la := [oR 29, oI (2 : Int32)]) hm176 ⟨⟨_, _, rfl⟩, rfl⟩ rfl rfl rfl rfl hm180 rfl rfl (fun _ => ⟨_, _, rfl, rfl⟩) rfl (Wp.mono h ?_)
  rintro _ m11 ⟨rfl, h⟩
  change Wp _ _ 61 _ [] _ _
  refine w_aload_n (q := 62) hm176 ⟨⟨_, _, rfl⟩, rfl⟩ rfl ?_
  refine w_iconst (q := 63) hm176 ⟨⟨_, _, rfl⟩, rfl⟩ iconst_3 ?_
  refine w_call (q := 66) (n := 0) (vs := [.inr (.inr (some 29)), .inl (3 : Int32)]) (rest := []) (la := [oR 29, oI (3 : Int32)]) hm176 ⟨⟨_, _, rfl⟩, rfl⟩ rfl rfl rfl rfl hm178 rfl rfl (fun _ => ⟨_, _, rfl, rfl⟩) rfl (Wp.mono h ?_)
  rintro _ m12 ⟨rfl, h⟩
  change Wp _ _ 66 _ [] _ _
  refine w_aload_n (q := 67) hm176 ⟨⟨_, _, rfl⟩, rfl⟩ rfl ?_
  refine w_bipush (q := 69) hm176 ⟨⟨_, _, rfl⟩, rfl⟩ bipush_9 ?_
  refine w_call (q := 72) (n := 0) (vs := [.inr (.inr (some 29)), .inl (9 : Int32)]) (rest := []) (la := [oR 29, oI (9 : Int32)]) hm176 ⟨⟨_, _, rfl⟩, rfl⟩ rfl rfl rfl rfl hm179 rfl rfl (fun _ => ⟨_, _, rfl, rfl⟩) rfl (Wp.mono h ?_)
  rintro _ m13 ⟨rfl, h⟩
  change Wp _ _ 72 _ [] _ _
  refine w_aload_n (q := 73) hm176 ⟨⟨_, _, rfl⟩, rfl⟩ rfl ?_
  refine w_iconst (q := 74) hm176 ⟨⟨_, _, rfl⟩, rfl⟩ iconst_3 ?_
  refine w_call (q := 77) (n := 0) (vs := [.inr (.inr (some 29)), .inl (3 : Int32)]) (rest := []) (la := [oR 29, oI (3 : Int32)]) hm176 ⟨⟨_, _, rfl⟩, rfl⟩ rfl rfl rfl rfl hm180 rfl rfl (fun _ => ⟨_, _, rfl, rfl⟩) rfl (Wp.mono h ?_)
  rintro _ m14 ⟨rfl, h⟩
  change Wp _ _ 77 _ [] _ _
  exact w_retv hm176 ⟨⟨_, _, rfl⟩, rfl⟩ rfl h
theorem v_X3_clear_20 {d : Nat} {m : dM} {Q : dM → Prop} (h : c_X4_clear_29 d (dSet (dSet (dSet (dSet (dSet (dSet (dSet m 20 0 (0 : Int32)) 20 1 (0 : Int32)) 20 2 (0 : Int32)) 20 3 (0 : Int32)) 20 4 (0 : Int32)) 20 5 (100 : Int32)) 20 6 (0 : Int32)) (fun m1 => Q m1)) : c_X3_clear_20 (d + 1) m Q := by
  refine w_aload_n (q := 1) hm169 ⟨⟨_, _, rfl⟩, rfl⟩ rfl ?_
  refine w_iconst (q := 2) hm169 ⟨⟨_, _, rfl⟩, rfl⟩ iconst_0 ?_
  refine w_putf (q := 5) hm169 ⟨⟨_, _, rfl⟩, rfl⟩ rfl rfl rfl ?_
  refine w_aload_n (q := 6) hm169 ⟨⟨_, _, rfl⟩, rfl⟩ rfl ?_
  refine w_iconst (q := 7) hm169 ⟨⟨_, _, rfl⟩, rfl⟩ iconst_0 ?_
  refine w_putf (q := 10) hm169 ⟨⟨_, _, rfl⟩, rfl⟩ rfl rfl rfl ?_
  refine w_aload_n (q := 11) hm169 ⟨⟨_, _, rfl⟩, rfl⟩ rfl ?_
  refine w_iconst (q := 12) hm169 ⟨⟨_, _, rfl⟩, rfl⟩ iconst_0 ?_
  refine w_putf (q := 15) hm169 ⟨⟨_, _, rfl⟩, rfl⟩ rfl rfl rfl ?_
  refine w_aload_n (q := 16) hm169 ⟨⟨_, _, rfl⟩, rfl⟩ rfl ?_
  refine w_iconst (q := 17) hm169 ⟨⟨_, _, rfl⟩, rfl⟩ iconst_0 ?_
  refine w_putf (q := 20) hm169 ⟨⟨_, _, rfl⟩, rfl⟩ rfl rfl rfl ?_
  refine w_aload_n (q := 21) hm169 ⟨⟨_, _, rfl⟩, rfl⟩ rfl ?_
  refine w_iconst (q := 22) hm169 ⟨⟨_, _, rfl⟩, rfl⟩ iconst_0 ?_
  refine w_putf (q := 25) hm169 ⟨⟨_, _, rfl⟩, rfl⟩ rfl rfl rfl ?_
  refine w_aload_n (q := 26) hm169 ⟨⟨_, _, rfl⟩, rfl⟩ rfl ?_
  refine w_bipush (q := 28) hm169 ⟨⟨_, _, rfl⟩, rfl⟩ bipush_100 ?_
  refine w_putf (q := 31) hm169 ⟨⟨_, _, rfl⟩, rfl⟩ rfl rfl rfl ?_
  refine w_aload_n (q := 32) hm169 ⟨⟨_, _, rfl⟩, rfl⟩ rfl ?_
  refine w_iconst (q := 33) hm169 ⟨⟨_, _, rfl⟩, rfl⟩ iconst_0 ?_
  refine w_putf (q := 36) hm169 ⟨⟨_, _, rfl⟩, rfl⟩ rfl rfl rfl ?_
  refine w_aload_n (q := 37) hm169 ⟨⟨_, _, rfl⟩, rfl⟩ rfl ?_
  refine w_getr (q := 40) hm169 ⟨⟨_, _, rfl⟩, rfl⟩ rfl ?_
  refine w_call (q := 43) (n := 0) (vs := [.inr (.inr (some 29))]) (rest := []) (la := [oR 29]) hm169 ⟨⟨_, _, rfl⟩, rfl⟩ rfl rfl rfl rfl hm176 rfl rfl (fun _ => ⟨_, _, rfl, rfl⟩) rfl (Wp.mono h ?_)
  rintro _ m1 ⟨rfl, h⟩
  change Wp _ _ 43 _ [] _ _
  exact w_retv hm169 ⟨⟨_, _, rfl⟩, rfl⟩ rfl h
theorem v_X2_kind_43 {d : Nat} {m : dM} {Q : Int32 → dM → Prop} (h : (((m.1 43 2).toInt < 0 → j_X2_kind_43_32 (d + 1) m Q) ∧ (0 ≤ (m.1 43 2).toInt → ((400 < (m.1 43 2).toInt → j_X2_kind_43_32 (d + 1) m Q) ∧ ((m.1 43 2).toInt ≤ 400 → ((0 ≤ (m.1 43 2).toInt ∧ (m.1 43 2).toInt < 401) ∧ Q (m.1 39 (m.1 43 2).toNatClampNeg) m)))))) : c_X2_kind_43 (d + 1) m Q := by
  refine w_aload_n (q := 1) hm157 ⟨⟨_, _, rfl⟩, rfl⟩ rfl ?_
  refine w_getf (q := 4) (v := (m.1 43 2)) hm157 ⟨⟨_, _, rfl⟩, rfl⟩ rfl rfl ?_
  refine w_if_lt (q := 7) (X := (m.1 43 2).toInt) hm157 ⟨⟨_, _, rfl⟩, rfl⟩ rfl (fun hc => ?_) (fun hc => ?_)
  · have h := h.1 hc
    exact Wp.wk [false] h
  · have h := h.2 hc
    refine w_aload_n (q := 8) hm157 ⟨⟨_, _, rfl⟩, rfl⟩ rfl ?_
    refine w_getf (q := 11) (v := (m.1 43 2)) hm157 ⟨⟨_, _, rfl⟩, rfl⟩ rfl rfl ?_
    refine w_sipush (q := 14) hm157 ⟨⟨_, _, rfl⟩, rfl⟩ sipush_400 ?_
    refine w_icmp_gt (q := 17) (X := (m.1 43 2).toInt) (Y := 400) hm157 ⟨⟨_, _, rfl⟩, rfl⟩ rfl (by decide) (fun hc => ?_) (fun hc => ?_)
    · have h := h.1 hc
      exact Wp.wk [false] h
    · have h := h.2 hc
      refine w_aload_n (q := 18) hm157 ⟨⟨_, _, rfl⟩, rfl⟩ rfl ?_
      refine w_getr (q := 21) hm157 ⟨⟨_, _, rfl⟩, rfl⟩ rfl ?_
      refine w_getr (q := 24) hm157 ⟨⟨_, _, rfl⟩, rfl⟩ rfl ?_
      refine w_aload_n (q := 25) hm157 ⟨⟨_, _, rfl⟩, rfl⟩ rfl ?_
      refine w_getf (q := 28) (v := (m.1 43 2)) hm157 ⟨⟨_, _, rfl⟩, rfl⟩ rfl rfl ?_
      obtain ⟨hi, h⟩ := h
      refine w_iald (q := 29) (v := (m.1 39 (m.1 43 2).toNatClampNeg)) hm157 ⟨⟨_, _, rfl⟩, rfl⟩ rfl hi rfl rfl ?_
      refine w_goto (q := 34) hm157 ⟨_, _, rfl⟩ ?_
      exact w_reti hm157 ⟨⟨_, _, rfl⟩, rfl⟩ rfl h
theorem v_X2_kind_43_32 {d : Nat} {m : dM} {Q : Int32 → dM → Prop} (h : Q (24 : Int32) m) : j_X2_kind_43_32 (d + 1) m Q := by
  refine w_bipush (q := 34) hm157 ⟨⟨_, _, rfl⟩, rfl⟩ bipush_24 ?_
  exact w_reti hm157 ⟨⟨_, _, rfl⟩, rfl⟩ rfl h
theorem v_X2_step_43 {d : Nat} {m : dM} {Q : Int32 → dM → Prop} (h : (((m.1 43 2).toInt < 400 → Q (1 : Int32) (dSet m 43 2 ((m.1 43 2) + (1 : Int32)))) ∧ (400 ≤ (m.1 43 2).toInt → Q (0 : Int32) (dSet m 43 3 (2 : Int32))))) : c_X2_step_43 (d + 1) m Q := by
  refine w_aload_n (q := 1) hm159 ⟨⟨_, _, rfl⟩, rfl⟩ rfl ?_
  refine w_getf (q := 4) (v := (m.1 43 2)) hm159 ⟨⟨_, _, rfl⟩, rfl⟩ rfl rfl ?_
  refine w_sipush (q := 7) hm159 ⟨⟨_, _, rfl⟩, rfl⟩ sipush_400 ?_
  refine w_icmp_lt (q := 10) (X := (m.1 43 2).toInt) (Y := 400) hm159 ⟨⟨_, _, rfl⟩, rfl⟩ rfl (by decide) (fun hc => ?_) (fun hc => ?_)
  · have h := h.1 hc
    refine w_aload_n (q := 18) hm159 ⟨⟨_, _, rfl⟩, rfl⟩ rfl ?_
    refine w_dup (q := 19) hm159 ⟨⟨_, _, rfl⟩, rfl⟩ rfl ?_
    refine w_getf (q := 22) (v := (m.1 43 2)) hm159 ⟨⟨_, _, rfl⟩, rfl⟩ rfl rfl ?_
    refine w_iconst (q := 23) hm159 ⟨⟨_, _, rfl⟩, rfl⟩ iconst_1 ?_
    refine w_iadd (q := 24) hm159 ⟨⟨_, _, rfl⟩, rfl⟩ ?_
    refine w_putf (q := 27) hm159 ⟨⟨_, _, rfl⟩, rfl⟩ rfl rfl rfl ?_
    refine w_iconst (q := 28) hm159 ⟨⟨_, _, rfl⟩, rfl⟩ iconst_1 ?_
    exact w_retz hm159 ⟨⟨_, _, rfl⟩, rfl⟩ rfl (by decide) h
  · have h := h.2 hc
    refine w_aload_n (q := 11) hm159 ⟨⟨_, _, rfl⟩, rfl⟩ rfl ?_
    refine w_iconst (q := 12) hm159 ⟨⟨_, _, rfl⟩, rfl⟩ iconst_2 ?_
    refine w_putf (q := 15) hm159 ⟨⟨_, _, rfl⟩, rfl⟩ rfl rfl rfl ?_
    refine w_iconst (q := 16) hm159 ⟨⟨_, _, rfl⟩, rfl⟩ iconst_0 ?_
    exact w_retz hm159 ⟨⟨_, _, rfl⟩, rfl⟩ rfl (by decide) h
theorem v_X2_fail_43 {d : Nat} {x1 : Int32} {m : dM} {Q : Int32 → dM → Prop} (h : Q (0 : Int32) (dSet m 43 3 x1)) : c_X2_fail_43 (d + 1) x1 m Q := by
  refine w_aload_n (q := 1) hm158 ⟨⟨_, _, rfl⟩, rfl⟩ rfl ?_
  refine w_iload_n (q := 2) hm158 ⟨⟨_, _, rfl⟩, rfl⟩ rfl ?_
  refine w_putf (q := 5) hm158 ⟨⟨_, _, rfl⟩, rfl⟩ rfl rfl rfl ?_
  refine w_iconst (q := 6) hm158 ⟨⟨_, _, rfl⟩, rfl⟩ iconst_0 ?_
  exact w_retz hm158 ⟨⟨_, _, rfl⟩, rfl⟩ rfl (by decide) h
theorem v_X2_need_43 {d : Nat} {x1 : Int32} {m : dM} {Q : Int32 → dM → Prop} (h : c_X2_kind_43 d m (fun r1 m1 => ((r1.toInt ≠ x1.toInt → c_X2_fail_43 d (1 : Int32) m1 (fun r2 m2 => (r2 = 0 ∨ r2 = 1) ∧ Q r2 m2)) ∧ (r1.toInt = x1.toInt → c_X2_step_43 d m1 (fun r3 m3 => (r3 = 0 ∨ r3 = 1) ∧ Q r3 m3))))) : c_X2_need_43 (d + 1) x1 m Q := by
  refine w_aload_n (q := 1) hm160 ⟨⟨_, _, rfl⟩, rfl⟩ rfl ?_
  refine w_call (q := 4) (n := 0) (vs := [.inr (.inr (some 43))]) (rest := []) (la := [oR 43]) hm160 ⟨⟨_, _, rfl⟩, rfl⟩ rfl rfl rfl rfl hm157 rfl rfl (fun _ => ⟨_, _, rfl, rfl⟩) rfl (Wp.mono h ?_)
  rintro _ m1 ⟨r1, rfl, h⟩
  change Wp _ _ 4 _ [.inl r1] _ _
  refine w_iload_n (q := 5) hm160 ⟨⟨_, _, rfl⟩, rfl⟩ rfl ?_
  refine w_icmp_ne (q := 8) (X := r1.toInt) (Y := x1.toInt) hm160 ⟨⟨_, _, rfl⟩, rfl⟩ rfl rfl (fun hc => ?_) (fun hc => ?_)
  · have h := h.1 hc
    refine w_aload_n (q := 16) hm160 ⟨⟨_, _, rfl⟩, rfl⟩ rfl ?_
    refine w_iconst (q := 17) hm160 ⟨⟨_, _, rfl⟩, rfl⟩ iconst_1 ?_
    refine w_call (q := 20) (n := 0) (vs := [.inr (.inr (some 43)), .inl (1 : Int32)]) (rest := []) (la := [oR 43, oI (1 : Int32)]) hm160 ⟨⟨_, _, rfl⟩, rfl⟩ rfl rfl rfl rfl hm158 rfl rfl (fun _ => ⟨_, _, rfl, rfl⟩) rfl (Wp.mono h ?_)
    rintro _ m2 ⟨r2, rfl, h⟩
    change Wp _ _ 20 _ [.inl r2] _ _
    exact w_retz hm160 ⟨⟨_, _, rfl⟩, rfl⟩ rfl h.1 h.2
  · have h := h.2 hc
    refine w_aload_n (q := 9) hm160 ⟨⟨_, _, rfl⟩, rfl⟩ rfl ?_
    refine w_call (q := 12) (n := 0) (vs := [.inr (.inr (some 43))]) (rest := []) (la := [oR 43]) hm160 ⟨⟨_, _, rfl⟩, rfl⟩ rfl rfl rfl rfl hm159 rfl rfl (fun _ => ⟨_, _, rfl, rfl⟩) rfl (Wp.mono h ?_)
    rintro _ m3 ⟨r3, rfl, h⟩
    change Wp _ _ 12 _ [.inl r3] _ _
    refine w_goto (q := 20) hm160 ⟨_, _, rfl⟩ ?_
    exact w_retz hm160 ⟨⟨_, _, rfl⟩, rfl⟩ rfl h.1 h.2
theorem v_X2_checkRow_43 {d : Nat} {x1 : Int32} {x2 : Int32} {m : dM} {Q : dM → Prop} (h : c_X2_step_43 d m (fun r1 m1 => j_X2_checkRow_43_8 (d + 1) x1 x2 r1 (0 : Int32) m1 Q)) : c_X2_checkRow_43 (d + 1) x1 x2 m Q := by
  refine w_aload_n (q := 1) hm161 ⟨⟨_, _, rfl⟩, rfl⟩ rfl ?_
  refine w_call (q := 4) (n := 0) (vs := [.inr (.inr (some 43))]) (rest := []) (la := [oR 43]) hm161 ⟨⟨_, _, rfl⟩, rfl⟩ rfl rfl rfl rfl hm159 rfl rfl (fun _ => ⟨_, _, rfl, rfl⟩) rfl (Wp.mono h ?_)
  rintro _ m1 ⟨r1, rfl, h⟩
  change Wp _ _ 4 _ [.inl r1] _ _
  refine w_istore_n (q := 5) (l' := [oR 43, oI x1, oI x2, oI r1, none]) hm161 ⟨⟨_, _, rfl⟩, rfl⟩ rfl rfl rfl ?_
  refine w_iconst (q := 6) hm161 ⟨⟨_, _, rfl⟩, rfl⟩ iconst_0 ?_
  refine w_istore (q := 8) (l' := [oR 43, oI x1, oI x2, oI r1, oI (0 : Int32)]) hm161 ⟨⟨_, _, rfl⟩, rfl⟩ rfl rfl rfl ?_
  exact h
theorem v_X2_checkRow_43_8 {d : Nat} {x1 : Int32} {x2 : Int32} {x3 : Int32} {x4 : Int32} {m : dM} {Q : dM → Prop} (h : ((x1.toInt ≤ x4.toInt → j_X2_checkRow_43_31 (d + 1) x2 x3 m Q) ∧ (x4.toInt < x1.toInt → ((x3.toInt = 0 → j_X2_checkRow_43_31 (d + 1) x2 x3 m Q) ∧ (x3.toInt ≠ 0 → c_X2_need_43 d (22 : Int32) m (fun r1 m1 => j_X2_checkRow_43_8 (d + 1) x1 x2 r1 (x4 + (1 : Int32)) m1 Q)))))) : j_X2_checkRow_43_8 (d + 1) x1 x2 x3 x4 m Q := by
  refine w_iload (q := 10) hm161 ⟨⟨_, _, rfl⟩, rfl⟩ rfl ?_
  refine w_iload_n (q := 11) hm161 ⟨⟨_, _, rfl⟩, rfl⟩ rfl ?_
  refine w_icmp_ge (q := 14) (X := x4.toInt) (Y := x1.toInt) hm161 ⟨⟨_, _, rfl⟩, rfl⟩ rfl rfl (fun hc => ?_) (fun hc => ?_)
  · have h := h.1 hc
    exact Wp.wk [true, false, true, true, false] h
  · have h := h.2 hc
    refine w_iload_n (q := 15) hm161 ⟨⟨_, _, rfl⟩, rfl⟩ rfl ?_
    refine w_if_eq (q := 18) (X := x3.toInt) hm161 ⟨⟨_, _, rfl⟩, rfl⟩ rfl (fun hc => ?_) (fun hc => ?_)
    · have h := h.1 hc
      exact Wp.wk [true, false, true, true, false] h
    · have h := h.2 hc
      refine w_aload_n (q := 19) hm161 ⟨⟨_, _, rfl⟩, rfl⟩ rfl ?_
      refine w_bipush (q := 21) hm161 ⟨⟨_, _, rfl⟩, rfl⟩ bipush_22 ?_
      refine w_call (q := 24) (n := 0) (vs := [.inr (.inr (some 43)), .inl (22 : Int32)]) (rest := []) (la := [oR 43, oI (22 : Int32)]) hm161 ⟨⟨_, _, rfl⟩, rfl⟩ rfl rfl rfl rfl hm160 rfl rfl (fun _ => ⟨_, _, rfl, rfl⟩) rfl (Wp.mono h ?_)
      rintro _ m1 ⟨r1, rfl, h⟩
      change Wp _ _ 24 _ [.inl r1] _ _
      refine w_istore_n (q := 25) (l' := [oR 43, oI x1, oI x2, oI r1, oI x4]) hm161 ⟨⟨_, _, rfl⟩, rfl⟩ rfl rfl rfl ?_
      refine w_iinc (q := 28) (l' := [oR 43, oI x1, oI x2, oI r1, oI (x4 + (1 : Int32))]) hm161 ⟨⟨_, _, rfl⟩, rfl⟩ rfl rfl rfl iconst_1 rfl ?_
      refine w_goto (q := 8) hm161 ⟨_, _, rfl⟩ ?_
      exact h
theorem v_X2_checkRow_43_31 {d : Nat} {x2 : Int32} {x3 : Int32} {m : dM} {Q : dM → Prop} (h : j_X2_checkRow_43_34 (d + 1) x2 x3 (0 : Int32) m Q) : j_X2_checkRow_43_31 (d + 1) x2 x3 m Q := by
  refine w_iconst (q := 32) hm161 ⟨⟨_, _, rfl⟩, rfl⟩ iconst_0 ?_
  refine w_istore (q := 34) (l' := [oR 43, none, oI x2, oI x3, oI (0 : Int32)]) hm161 ⟨⟨_, _, rfl⟩, rfl⟩ rfl rfl rfl ?_
  exact h
theorem v_X2_checkRow_43_34 {d : Nat} {x2 : Int32} {x3 : Int32} {x4 : Int32} {m : dM} {Q : dM → Prop} (h : ((x2.toInt ≤ x4.toInt → j_X2_checkRow_43_57 (d + 1) x3 m Q) ∧ (x4.toInt < x2.toInt → ((x3.toInt = 0 → j_X2_checkRow_43_57 (d + 1) x3 m Q) ∧ (x3.toInt ≠ 0 → c_X2_need_43 d (23 : Int32) m (fun r1 m1 => j_X2_checkRow_43_34 (d + 1) x2 r1 (x4 + (1 : Int32)) m1 Q)))))) : j_X2_checkRow_43_34 (d + 1) x2 x3 x4 m Q := by
  refine w_iload (q := 36) hm161 ⟨⟨_, _, rfl⟩, rfl⟩ rfl ?_
  refine w_iload_n (q := 37) hm161 ⟨⟨_, _, rfl⟩, rfl⟩ rfl ?_
  refine w_icmp_ge (q := 40) (X := x4.toInt) (Y := x2.toInt) hm161 ⟨⟨_, _, rfl⟩, rfl⟩ rfl rfl (fun hc => ?_) (fun hc => ?_)
  · have h := h.1 hc
    exact Wp.wk [true, false, false, true, false] h
  · have h := h.2 hc
    refine w_iload_n (q := 41) hm161 ⟨⟨_, _, rfl⟩, rfl⟩ rfl ?_
    refine w_if_eq (q := 44) (X := x3.toInt) hm161 ⟨⟨_, _, rfl⟩, rfl⟩ rfl (fun hc => ?_) (fun hc => ?_)
    · have h := h.1 hc
      exact Wp.wk [true, false, false, true, false] h
    · have h := h.2 hc
      refine w_aload_n (q := 45) hm161 ⟨⟨_, _, rfl⟩, rfl⟩ rfl ?_
      refine w_bipush (q := 47) hm161 ⟨⟨_, _, rfl⟩, rfl⟩ bipush_23 ?_
      refine w_call (q := 50) (n := 0) (vs := [.inr (.inr (some 43)), .inl (23 : Int32)]) (rest := []) (la := [oR 43, oI (23 : Int32)]) hm161 ⟨⟨_, _, rfl⟩, rfl⟩ rfl rfl rfl rfl hm160 rfl rfl (fun _ => ⟨_, _, rfl, rfl⟩) rfl (Wp.mono h ?_)
      rintro _ m1 ⟨r1, rfl, h⟩
      change Wp _ _ 50 _ [.inl r1] _ _
      refine w_istore_n (q := 51) (l' := [oR 43, none, oI x2, oI r1, oI x4]) hm161 ⟨⟨_, _, rfl⟩, rfl⟩ rfl rfl rfl ?_
      refine w_iinc (q := 54) (l' := [oR 43, none, oI x2, oI r1, oI (x4 + (1 : Int32))]) hm161 ⟨⟨_, _, rfl⟩, rfl⟩ rfl rfl rfl iconst_1 rfl ?_
      refine w_goto (q := 34) hm161 ⟨_, _, rfl⟩ ?_
      exact h
theorem v_X2_checkRow_43_57 {d : Nat} {x3 : Int32} {m : dM} {Q : dM → Prop} (h : ((x3.toInt = 0 → j_X2_checkRow_43_68 (d + 1) m Q) ∧ (x3.toInt ≠ 0 → c_X2_need_43 d (59 : Int32) m (fun r1 m1 => j_X2_checkRow_43_68 (d + 1) m1 Q)))) : j_X2_checkRow_43_57 (d + 1) x3 m Q := by
  refine w_iload_n (q := 58) hm161 ⟨⟨_, _, rfl⟩, rfl⟩ rfl ?_
  refine w_if_eq (q := 61) (X := x3.toInt) hm161 ⟨⟨_, _, rfl⟩, rfl⟩ rfl (fun hc => ?_) (fun hc => ?_)
  · have h := h.1 hc
    exact Wp.wk [false, false, false, false, false] h
  · have h := h.2 hc
    refine w_aload_n (q := 62) hm161 ⟨⟨_, _, rfl⟩, rfl⟩ rfl ?_
    refine w_bipush (q := 64) hm161 ⟨⟨_, _, rfl⟩, rfl⟩ bipush_59 ?_
    refine w_call (q := 67) (n := 0) (vs := [.inr (.inr (some 43)), .inl (59 : Int32)]) (rest := []) (la := [oR 43, oI (59 : Int32)]) hm161 ⟨⟨_, _, rfl⟩, rfl⟩ rfl rfl rfl rfl hm160 rfl rfl (fun _ => ⟨_, _, rfl, rfl⟩) rfl (Wp.mono h ?_)
    rintro _ m1 ⟨r1, rfl, h⟩
    change Wp _ _ 67 _ [.inl r1] _ _
    refine w_pop (q := 68) hm161 ⟨⟨_, _, rfl⟩, rfl⟩ rfl ?_
    exact Wp.wk [false, false, false, false, false] h
theorem v_X2_checkRow_43_68 {d : Nat} {m : dM} {Q : dM → Prop} (h : Q m) : j_X2_checkRow_43_68 (d + 1) m Q := by
  exact w_retv hm161 ⟨⟨_, _, rfl⟩, rfl⟩ rfl h
