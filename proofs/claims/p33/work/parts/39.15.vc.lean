theorem v_X9_leftAtWorst_67 {d : Nat} {x1 : Int32} {x2 : Int32} {x3 : Int32} {m : dM} {Q : Int32 → dM → Prop} (h : j_X9_leftAtWorst_67_6 (d + 1) x1 x2 x3 (0 : Int32) (0 : Int32) m Q) : c_X9_leftAtWorst_67 (d + 1) x1 x2 x3 m Q := by
  refine w_iconst (q := 1) hm236 ⟨⟨_, _, rfl⟩, rfl⟩ iconst_0 ?_
  refine w_istore (q := 3) (l' := [oR 67, oI x1, oI x2, oI x3, oI (0 : Int32), none]) hm236 ⟨⟨_, _, rfl⟩, rfl⟩ rfl rfl rfl ?_
  refine w_iconst (q := 4) hm236 ⟨⟨_, _, rfl⟩, rfl⟩ iconst_0 ?_
  refine w_istore (q := 6) (l' := [oR 67, oI x1, oI x2, oI x3, oI (0 : Int32), oI (0 : Int32)]) hm236 ⟨⟨_, _, rfl⟩, rfl⟩ rfl rfl rfl ?_
  exact h
theorem v_X9_leftAtWorst_67_6 {d : Nat} {x1 : Int32} {x2 : Int32} {x3 : Int32} {x4 : Int32} {x5 : Int32} {m : dM} {Q : Int32 → dM → Prop} (h : (((m.1 2 1).toInt ≤ x5.toInt → c_J6_bitCount d x2 m (fun r1 m1 => Q (if x4 < (r1 - x4) then (r1 - x4) else x4) m1)) ∧ (x5.toInt < (m.1 2 1).toInt → c_X11_has d x2 x5 m (fun r2 m2 => ((r2.toInt = 0 → j_X9_leftAtWorst_67_6 (d + 1) x1 x2 x3 (x4 + (0 : Int32)) (x5 + (1 : Int32)) m2 Q) ∧ (r2.toInt ≠ 0 → c_X3_litWithout_2 d (x1 ||| ((1 : Int32) <<< (x5 &&& 31))) m2 (fun r3 m3 => c_X11_has d r3 x3 m3 (fun r4 m4 => ((r4.toInt = 0 → j_X9_leftAtWorst_67_6 (d + 1) x1 x2 x3 (x4 + (0 : Int32)) (x5 + (1 : Int32)) m4 Q) ∧ (r4.toInt ≠ 0 → j_X9_leftAtWorst_67_6 (d + 1) x1 x2 x3 (x4 + (1 : Int32)) (x5 + (1 : Int32)) m4 Q)))))))))) : j_X9_leftAtWorst_67_6 (d + 1) x1 x2 x3 x4 x5 m Q := by
  refine w_iload (q := 8) hm236 ⟨⟨_, _, rfl⟩, rfl⟩ rfl ?_
  refine w_aload_n (q := 9) hm236 ⟨⟨_, _, rfl⟩, rfl⟩ rfl ?_
  refine w_getr (q := 12) hm236 ⟨⟨_, _, rfl⟩, rfl⟩ rfl ?_
  refine w_getf (q := 15) (v := (m.1 2 1)) hm236 ⟨⟨_, _, rfl⟩, rfl⟩ rfl rfl ?_
  refine w_icmp_ge (q := 18) (X := x5.toInt) (Y := (m.1 2 1).toInt) hm236 ⟨⟨_, _, rfl⟩, rfl⟩ rfl rfl (fun hc => ?_) (fun hc => ?_)
  · have h := h.1 hc
    refine w_iload (q := 65) hm236 ⟨⟨_, _, rfl⟩, rfl⟩ rfl ?_
    refine w_iload_n (q := 66) hm236 ⟨⟨_, _, rfl⟩, rfl⟩ rfl ?_
    refine w_call (q := 69) (n := 0) (vs := [.inl x2]) (rest := [.inl x4]) (la := [oI x2]) hm236 ⟨⟨_, _, rfl⟩, rfl⟩ rfl rfl rfl rfl hm285 rfl rfl (fun hz => absurd hz (by decide)) rfl (Wp.mono h ?_)
    rintro _ m1 ⟨r1, rfl, h⟩
    change Wp _ _ 69 _ [.inl r1, .inl x4] _ _
    refine w_iload (q := 71) hm236 ⟨⟨_, _, rfl⟩, rfl⟩ rfl ?_
    refine w_isub (q := 72) hm236 ⟨⟨_, _, rfl⟩, rfl⟩ ?_
    refine w_max (q := 75) hm236 ⟨⟨_, _, rfl⟩, rfl⟩ rfl rfl ?_
    exact w_reti hm236 ⟨⟨_, _, rfl⟩, rfl⟩ rfl h
  · have h := h.2 hc
    refine w_iload (q := 20) hm236 ⟨⟨_, _, rfl⟩, rfl⟩ rfl ?_
    refine w_iload_n (q := 21) hm236 ⟨⟨_, _, rfl⟩, rfl⟩ rfl ?_
    refine w_iload (q := 23) hm236 ⟨⟨_, _, rfl⟩, rfl⟩ rfl ?_
    refine w_call (q := 26) (n := 0) (vs := [.inl x2, .inl x5]) (rest := [.inl x4]) (la := [oI x2, oI x5]) hm236 ⟨⟨_, _, rfl⟩, rfl⟩ rfl rfl rfl rfl hm283 rfl rfl (fun hz => absurd hz (by decide)) rfl (Wp.mono h ?_)
    rintro _ m2 ⟨r2, rfl, h⟩
    change Wp _ _ 26 _ [.inl r2, .inl x4] _ _
    refine w_if_eq (q := 29) (X := r2.toInt) hm236 ⟨⟨_, _, rfl⟩, rfl⟩ rfl (fun hc => ?_) (fun hc => ?_)
    · have h := h.1 hc
      refine w_iconst (q := 54) hm236 ⟨⟨_, _, rfl⟩, rfl⟩ iconst_0 ?_
      refine w_iadd (q := 55) hm236 ⟨⟨_, _, rfl⟩, rfl⟩ ?_
      refine w_istore (q := 57) (l' := [oR 67, oI x1, oI x2, oI x3, oI (x4 + (0 : Int32)), oI x5]) hm236 ⟨⟨_, _, rfl⟩, rfl⟩ rfl rfl rfl ?_
      refine w_iinc (q := 60) (l' := [oR 67, oI x1, oI x2, oI x3, oI (x4 + (0 : Int32)), oI (x5 + (1 : Int32))]) hm236 ⟨⟨_, _, rfl⟩, rfl⟩ rfl rfl rfl iconst_1 rfl ?_
      refine w_goto (q := 6) hm236 ⟨_, _, rfl⟩ ?_
      exact h
    · have h := h.2 hc
      refine w_aload_n (q := 30) hm236 ⟨⟨_, _, rfl⟩, rfl⟩ rfl ?_
      refine w_getr (q := 33) hm236 ⟨⟨_, _, rfl⟩, rfl⟩ rfl ?_
      refine w_iload_n (q := 34) hm236 ⟨⟨_, _, rfl⟩, rfl⟩ rfl ?_
      refine w_iconst (q := 35) hm236 ⟨⟨_, _, rfl⟩, rfl⟩ iconst_1 ?_
      refine w_iload (q := 37) hm236 ⟨⟨_, _, rfl⟩, rfl⟩ rfl ?_
      refine w_ishl (q := 38) hm236 ⟨⟨_, _, rfl⟩, rfl⟩ ?_
      refine w_ior (q := 39) hm236 ⟨⟨_, _, rfl⟩, rfl⟩ ?_
      refine w_call (q := 42) (n := 5) (vs := [.inr (.inr (some 2)), .inl (x1 ||| ((1 : Int32) <<< (x5 &&& 31)))]) (rest := [.inl x4]) (la := [oR 2, oI (x1 ||| ((1 : Int32) <<< (x5 &&& 31))), none, none, none, none, none]) hm236 ⟨⟨_, _, rfl⟩, rfl⟩ rfl rfl rfl rfl hm174 rfl rfl (fun _ => ⟨_, _, rfl, rfl⟩) rfl (Wp.mono h ?_)
      rintro _ m3 ⟨r3, rfl, h⟩
      change Wp _ _ 42 _ [.inl r3, .inl x4] _ _
      refine w_iload_n (q := 43) hm236 ⟨⟨_, _, rfl⟩, rfl⟩ rfl ?_
      refine w_call (q := 46) (n := 0) (vs := [.inl r3, .inl x3]) (rest := [.inl x4]) (la := [oI r3, oI x3]) hm236 ⟨⟨_, _, rfl⟩, rfl⟩ rfl rfl rfl rfl hm283 rfl rfl (fun hz => absurd hz (by decide)) rfl (Wp.mono h ?_)
      rintro _ m4 ⟨r4, rfl, h⟩
      change Wp _ _ 46 _ [.inl r4, .inl x4] _ _
      refine w_if_eq (q := 49) (X := r4.toInt) hm236 ⟨⟨_, _, rfl⟩, rfl⟩ rfl (fun hc => ?_) (fun hc => ?_)
      · have h := h.1 hc
        refine w_iconst (q := 54) hm236 ⟨⟨_, _, rfl⟩, rfl⟩ iconst_0 ?_
        refine w_iadd (q := 55) hm236 ⟨⟨_, _, rfl⟩, rfl⟩ ?_
        refine w_istore (q := 57) (l' := [oR 67, oI x1, oI x2, oI x3, oI (x4 + (0 : Int32)), oI x5]) hm236 ⟨⟨_, _, rfl⟩, rfl⟩ rfl rfl rfl ?_
        refine w_iinc (q := 60) (l' := [oR 67, oI x1, oI x2, oI x3, oI (x4 + (0 : Int32)), oI (x5 + (1 : Int32))]) hm236 ⟨⟨_, _, rfl⟩, rfl⟩ rfl rfl rfl iconst_1 rfl ?_
        refine w_goto (q := 6) hm236 ⟨_, _, rfl⟩ ?_
        exact h
      · have h := h.2 hc
        refine w_iconst (q := 50) hm236 ⟨⟨_, _, rfl⟩, rfl⟩ iconst_1 ?_
        refine w_goto (q := 54) hm236 ⟨_, _, rfl⟩ ?_
        refine w_iadd (q := 55) hm236 ⟨⟨_, _, rfl⟩, rfl⟩ ?_
        refine w_istore (q := 57) (l' := [oR 67, oI x1, oI x2, oI x3, oI (x4 + (1 : Int32)), oI x5]) hm236 ⟨⟨_, _, rfl⟩, rfl⟩ rfl rfl rfl ?_
        refine w_iinc (q := 60) (l' := [oR 67, oI x1, oI x2, oI x3, oI (x4 + (1 : Int32)), oI (x5 + (1 : Int32))]) hm236 ⟨⟨_, _, rfl⟩, rfl⟩ rfl rfl rfl iconst_1 rfl ?_
        refine w_goto (q := 6) hm236 ⟨_, _, rfl⟩ ?_
        exact h
theorem v_X9_bestQuestion_67 {d : Nat} {x1 : Int32} {x2 : Int32} {m : dM} {Q : Int32 → dM → Prop} (h : c_X9_suspects_67 d x1 x2 m (fun r1 m1 => j_X9_bestQuestion_67_18 (d + 1) x1 r1 (-2 : Int32) (2147483647 : Int32) (0 : Int32) m1 Q)) : c_X9_bestQuestion_67 (d + 1) x1 x2 m Q := by
  refine w_aload_n (q := 1) hm235 ⟨⟨_, _, rfl⟩, rfl⟩ rfl ?_
  refine w_iload_n (q := 2) hm235 ⟨⟨_, _, rfl⟩, rfl⟩ rfl ?_
  refine w_iload_n (q := 3) hm235 ⟨⟨_, _, rfl⟩, rfl⟩ rfl ?_
  refine w_call (q := 6) (n := 2) (vs := [.inr (.inr (some 67)), .inl x1, .inl x2]) (rest := []) (la := [oR 67, oI x1, oI x2, none, none]) hm235 ⟨⟨_, _, rfl⟩, rfl⟩ rfl rfl rfl rfl hm233 rfl rfl (fun _ => ⟨_, _, rfl, rfl⟩) rfl (Wp.mono h ?_)
  rintro _ m1 ⟨r1, rfl, h⟩
  change Wp _ _ 6 _ [.inl r1] _ _
  refine w_istore_n (q := 7) (l' := [oR 67, oI x1, oI x2, oI r1, none, none, none, none]) hm235 ⟨⟨_, _, rfl⟩, rfl⟩ rfl rfl rfl ?_
  refine w_bipush (q := 9) hm235 ⟨⟨_, _, rfl⟩, rfl⟩ bipush_m2 ?_
  refine w_istore (q := 11) (l' := [oR 67, oI x1, oI x2, oI r1, oI (-2 : Int32), none, none, none]) hm235 ⟨⟨_, _, rfl⟩, rfl⟩ rfl rfl rfl ?_
  refine w_ldc (q := 13) hm235 ⟨⟨_, _, rfl⟩, rfl⟩ ldc_2147483647 ?_
  refine w_istore (q := 15) (l' := [oR 67, oI x1, oI x2, oI r1, oI (-2 : Int32), oI (2147483647 : Int32), none, none]) hm235 ⟨⟨_, _, rfl⟩, rfl⟩ rfl rfl rfl ?_
  refine w_iconst (q := 16) hm235 ⟨⟨_, _, rfl⟩, rfl⟩ iconst_0 ?_
  refine w_istore (q := 18) (l' := [oR 67, oI x1, oI x2, oI r1, oI (-2 : Int32), oI (2147483647 : Int32), oI (0 : Int32), none]) hm235 ⟨⟨_, _, rfl⟩, rfl⟩ rfl rfl rfl ?_
  exact Wp.wk [true, true, false, true, true, true, true, false] h
theorem v_X9_bestQuestion_67_18 {d : Nat} {x1 : Int32} {x3 : Int32} {x4 : Int32} {x5 : Int32} {x6 : Int32} {m : dM} {Q : Int32 → dM → Prop} (h : (((m.1 2 0).toInt ≤ x6.toInt → j_X9_bestQuestion_67_65 (d + 1) x4 m Q) ∧ (x6.toInt < (m.1 2 0).toInt → ((x3.toInt = 0 → j_X9_bestQuestion_67_65 (d + 1) x4 m Q) ∧ (x3.toInt ≠ 0 → c_X9_leftAtWorst_67 d x1 x3 x6 m (fun r1 m1 => ((x5.toInt ≤ r1.toInt → j_X9_bestQuestion_67_59 (d + 1) x1 x3 x4 x5 x6 m1 Q) ∧ (r1.toInt < x5.toInt → j_X9_bestQuestion_67_59 (d + 1) x1 x3 x6 r1 x6 m1 Q)))))))) : j_X9_bestQuestion_67_18 (d + 1) x1 x3 x4 x5 x6 m Q := by
  refine w_iload (q := 20) hm235 ⟨⟨_, _, rfl⟩, rfl⟩ rfl ?_
  refine w_aload_n (q := 21) hm235 ⟨⟨_, _, rfl⟩, rfl⟩ rfl ?_
  refine w_getr (q := 24) hm235 ⟨⟨_, _, rfl⟩, rfl⟩ rfl ?_
  refine w_getf (q := 27) (v := (m.1 2 0)) hm235 ⟨⟨_, _, rfl⟩, rfl⟩ rfl rfl ?_
  refine w_icmp_ge (q := 30) (X := x6.toInt) (Y := (m.1 2 0).toInt) hm235 ⟨⟨_, _, rfl⟩, rfl⟩ rfl rfl (fun hc => ?_) (fun hc => ?_)
  · have h := h.1 hc
    exact Wp.wk [false, false, false, false, true, false, false, false] h
  · have h := h.2 hc
    refine w_iload_n (q := 31) hm235 ⟨⟨_, _, rfl⟩, rfl⟩ rfl ?_
    refine w_if_eq (q := 34) (X := x3.toInt) hm235 ⟨⟨_, _, rfl⟩, rfl⟩ rfl (fun hc => ?_) (fun hc => ?_)
    · have h := h.1 hc
      exact Wp.wk [false, false, false, false, true, false, false, false] h
    · have h := h.2 hc
      refine w_aload_n (q := 35) hm235 ⟨⟨_, _, rfl⟩, rfl⟩ rfl ?_
      refine w_iload_n (q := 36) hm235 ⟨⟨_, _, rfl⟩, rfl⟩ rfl ?_
      refine w_iload_n (q := 37) hm235 ⟨⟨_, _, rfl⟩, rfl⟩ rfl ?_
      refine w_iload (q := 39) hm235 ⟨⟨_, _, rfl⟩, rfl⟩ rfl ?_
      refine w_call (q := 42) (n := 2) (vs := [.inr (.inr (some 67)), .inl x1, .inl x3, .inl x6]) (rest := []) (la := [oR 67, oI x1, oI x3, oI x6, none, none]) hm235 ⟨⟨_, _, rfl⟩, rfl⟩ rfl rfl rfl rfl hm236 rfl rfl (fun _ => ⟨_, _, rfl, rfl⟩) rfl (Wp.mono h ?_)
      rintro _ m1 ⟨r1, rfl, h⟩
      change Wp _ _ 42 _ [.inl r1] _ _
      refine w_istore (q := 44) (l' := [oR 67, oI x1, none, oI x3, oI x4, oI x5, oI x6, oI r1]) hm235 ⟨⟨_, _, rfl⟩, rfl⟩ rfl rfl rfl ?_
      refine w_iload (q := 46) hm235 ⟨⟨_, _, rfl⟩, rfl⟩ rfl ?_
      refine w_iload (q := 48) hm235 ⟨⟨_, _, rfl⟩, rfl⟩ rfl ?_
      refine w_icmp_ge (q := 51) (X := r1.toInt) (Y := x5.toInt) hm235 ⟨⟨_, _, rfl⟩, rfl⟩ rfl rfl (fun hc => ?_) (fun hc => ?_)
      · have h := h.1 hc
        exact Wp.wk [true, true, false, true, true, true, true, false] h
      · have h := h.2 hc
        refine w_iload (q := 53) hm235 ⟨⟨_, _, rfl⟩, rfl⟩ rfl ?_
        refine w_istore (q := 55) (l' := [oR 67, oI x1, none, oI x3, oI x4, oI r1, oI x6, oI r1]) hm235 ⟨⟨_, _, rfl⟩, rfl⟩ rfl rfl rfl ?_
        refine w_iload (q := 57) hm235 ⟨⟨_, _, rfl⟩, rfl⟩ rfl ?_
        refine w_istore (q := 59) (l' := [oR 67, oI x1, none, oI x3, oI x6, oI r1, oI x6, oI r1]) hm235 ⟨⟨_, _, rfl⟩, rfl⟩ rfl rfl rfl ?_
        exact Wp.wk [true, true, false, true, true, true, true, false] h
theorem v_X9_bestQuestion_67_59 {d : Nat} {x1 : Int32} {x3 : Int32} {x4 : Int32} {x5 : Int32} {x6 : Int32} {m : dM} {Q : Int32 → dM → Prop} (h : j_X9_bestQuestion_67_18 (d + 1) x1 x3 x4 x5 (x6 + (1 : Int32)) m Q) : j_X9_bestQuestion_67_59 (d + 1) x1 x3 x4 x5 x6 m Q := by
  refine w_iinc (q := 62) (l' := [oR 67, oI x1, none, oI x3, oI x4, oI x5, oI (x6 + (1 : Int32)), none]) hm235 ⟨⟨_, _, rfl⟩, rfl⟩ rfl rfl rfl iconst_1 rfl ?_
  refine w_goto (q := 18) hm235 ⟨_, _, rfl⟩ ?_
  exact h
theorem v_X9_bestQuestion_67_65 {d : Nat} {x4 : Int32} {m : dM} {Q : Int32 → dM → Prop} (h : Q x4 m) : j_X9_bestQuestion_67_65 (d + 1) x4 m Q := by
  refine w_iload (q := 67) hm235 ⟨⟨_, _, rfl⟩, rfl⟩ rfl ?_
  exact w_reti hm235 ⟨⟨_, _, rfl⟩, rfl⟩ rfl h
theorem v_X11_ask_0 {d : Nat} {x1 : Int32} {m : dM} {Q : Int32 → dM → Prop} (h : ((x1.toInt < 0 → j_X11_ask_0_15 (d + 1) m Q) ∧ (0 ≤ x1.toInt → ((x1.toInt ≤ (m.1 67 3).toInt → c_X9_bestQuestion_67 d (m.1 47 3) x1 m (fun r1 m1 => Q r1 m1)) ∧ ((m.1 67 3).toInt < x1.toInt → j_X11_ask_0_15 (d + 1) m Q))))) : c_X11_ask_0 (d + 1) x1 m Q := by
  refine w_iload_n (q := 1) hm278 ⟨⟨_, _, rfl⟩, rfl⟩ rfl ?_
  refine w_if_lt (q := 4) (X := x1.toInt) hm278 ⟨⟨_, _, rfl⟩, rfl⟩ rfl (fun hc => ?_) (fun hc => ?_)
  · have h := h.1 hc
    exact Wp.wk [false, false] h
  · have h := h.2 hc
    refine w_iload_n (q := 5) hm278 ⟨⟨_, _, rfl⟩, rfl⟩ rfl ?_
    refine w_aload_n (q := 6) hm278 ⟨⟨_, _, rfl⟩, rfl⟩ rfl ?_
    refine w_getr (q := 9) hm278 ⟨⟨_, _, rfl⟩, rfl⟩ rfl ?_
    refine w_getf (q := 12) (v := (m.1 67 3)) hm278 ⟨⟨_, _, rfl⟩, rfl⟩ rfl rfl ?_
    refine w_icmp_le (q := 15) (X := x1.toInt) (Y := (m.1 67 3).toInt) hm278 ⟨⟨_, _, rfl⟩, rfl⟩ rfl rfl (fun hc => ?_) (fun hc => ?_)
    · have h := h.1 hc
      refine w_aload_n (q := 20) hm278 ⟨⟨_, _, rfl⟩, rfl⟩ rfl ?_
      refine w_getr (q := 23) hm278 ⟨⟨_, _, rfl⟩, rfl⟩ rfl ?_
      refine w_aload_n (q := 24) hm278 ⟨⟨_, _, rfl⟩, rfl⟩ rfl ?_
      refine w_getr (q := 27) hm278 ⟨⟨_, _, rfl⟩, rfl⟩ rfl ?_
      refine w_getf (q := 30) (v := (m.1 47 3)) hm278 ⟨⟨_, _, rfl⟩, rfl⟩ rfl rfl ?_
      refine w_iload_n (q := 31) hm278 ⟨⟨_, _, rfl⟩, rfl⟩ rfl ?_
      refine w_call (q := 34) (n := 5) (vs := [.inr (.inr (some 67)), .inl (m.1 47 3), .inl x1]) (rest := []) (la := [oR 67, oI (m.1 47 3), oI x1, none, none, none, none, none]) hm278 ⟨⟨_, _, rfl⟩, rfl⟩ rfl rfl rfl rfl hm235 rfl rfl (fun _ => ⟨_, _, rfl, rfl⟩) rfl (Wp.mono h ?_)
      rintro _ m1 ⟨r1, rfl, h⟩
      change Wp _ _ 34 _ [.inl r1] _ _
      exact w_reti hm278 ⟨⟨_, _, rfl⟩, rfl⟩ rfl h
    · have h := h.2 hc
      exact Wp.wk [false, false] h
theorem v_X11_ask_0_15 {d : Nat} {m : dM} {Q : Int32 → dM → Prop} (h : Q (-1 : Int32) m) : j_X11_ask_0_15 (d + 1) m Q := by
  refine w_iconst (q := 16) hm278 ⟨⟨_, _, rfl⟩, rfl⟩ iconst_m1 ?_
  refine w_goto (q := 34) hm278 ⟨_, _, rfl⟩ ?_
  exact w_reti hm278 ⟨⟨_, _, rfl⟩, rfl⟩ rfl h
theorem v_X12_ask_70 {d : Nat} {x1 : Int32} {m : dM} {Q : Int32 → dM → Prop} (h : c_X12_in d x1 (0 : Int32) (m.1 70 63) m (fun r1 m1 => ((r1.toInt ≠ 0 → c_X12_wentBits_70 d x1 m1 (fun r2 m2 => j_X12_ask_70_29 (d + 1) r2 (-2 : Int32) (0 : Int32) (0 : Int32) m2 Q)) ∧ (r1.toInt = 0 → Q (-1 : Int32) m1)))) : c_X12_ask_70 (d + 1) x1 m Q := by
  refine w_iload_n (q := 1) hm110 ⟨⟨_, _, rfl⟩, rfl⟩ rfl ?_
  refine w_iconst (q := 2) hm110 ⟨⟨_, _, rfl⟩, rfl⟩ iconst_0 ?_
  refine w_aload_n (q := 3) hm110 ⟨⟨_, _, rfl⟩, rfl⟩ rfl ?_
  refine w_getf (q := 6) (v := (m.1 70 63)) hm110 ⟨⟨_, _, rfl⟩, rfl⟩ rfl rfl ?_
  refine w_call (q := 9) (n := 0) (vs := [.inl x1, .inl (0 : Int32), .inl (m.1 70 63)]) (rest := []) (la := [oI x1, oI (0 : Int32), oI (m.1 70 63)]) hm110 ⟨⟨_, _, rfl⟩, rfl⟩ rfl rfl rfl rfl hm36 rfl rfl (fun hz => absurd hz (by decide)) rfl (Wp.mono h ?_)
  rintro _ m1 ⟨r1, rfl, h⟩
  change Wp _ _ 9 _ [.inl r1] _ _
  refine w_if_ne (q := 12) (X := r1.toInt) hm110 ⟨⟨_, _, rfl⟩, rfl⟩ rfl (fun hc => ?_) (fun hc => ?_)
  · have h := h.1 hc
    refine w_aload_n (q := 15) hm110 ⟨⟨_, _, rfl⟩, rfl⟩ rfl ?_
    refine w_iload_n (q := 16) hm110 ⟨⟨_, _, rfl⟩, rfl⟩ rfl ?_
    refine w_call (q := 19) (n := 4) (vs := [.inr (.inr (some 70)), .inl x1]) (rest := []) (la := [oR 70, oI x1, none, none, none, none]) hm110 ⟨⟨_, _, rfl⟩, rfl⟩ rfl rfl rfl rfl hm108 rfl rfl (fun _ => ⟨_, _, rfl, rfl⟩) rfl (Wp.mono h ?_)
    rintro _ m2 ⟨r2, rfl, h⟩
    change Wp _ _ 19 _ [.inl r2] _ _
    refine w_istore_n (q := 20) (l' := [oR 70, oI x1, oI r2, none, none, none, none, none]) hm110 ⟨⟨_, _, rfl⟩, rfl⟩ rfl rfl rfl ?_
    refine w_bipush (q := 22) hm110 ⟨⟨_, _, rfl⟩, rfl⟩ bipush_m2 ?_
    refine w_istore_n (q := 23) (l' := [oR 70, oI x1, oI r2, oI (-2 : Int32), none, none, none, none]) hm110 ⟨⟨_, _, rfl⟩, rfl⟩ rfl rfl rfl ?_
    refine w_iconst (q := 24) hm110 ⟨⟨_, _, rfl⟩, rfl⟩ iconst_0 ?_
    refine w_istore (q := 26) (l' := [oR 70, oI x1, oI r2, oI (-2 : Int32), oI (0 : Int32), none, none, none]) hm110 ⟨⟨_, _, rfl⟩, rfl⟩ rfl rfl rfl ?_
    refine w_iconst (q := 27) hm110 ⟨⟨_, _, rfl⟩, rfl⟩ iconst_0 ?_
    refine w_istore (q := 29) (l' := [oR 70, oI x1, oI r2, oI (-2 : Int32), oI (0 : Int32), oI (0 : Int32), none, none]) hm110 ⟨⟨_, _, rfl⟩, rfl⟩ rfl rfl rfl ?_
    exact Wp.wk [true, false, true, true, true, true, false, false] h
  · have h := h.2 hc
    refine w_iconst (q := 13) hm110 ⟨⟨_, _, rfl⟩, rfl⟩ iconst_m1 ?_
    exact w_reti hm110 ⟨⟨_, _, rfl⟩, rfl⟩ rfl h
theorem v_X12_ask_70_29 {d : Nat} {x2 : Int32} {x3 : Int32} {x4 : Int32} {x5 : Int32} {m : dM} {Q : Int32 → dM → Prop} (h : ((0 ≤ (m.1 70 18).toInt ∧ (m.1 70 18).toInt < 2) ∧ (((m.1 80 (m.1 70 18).toNatClampNeg).toInt ≤ x5.toInt → j_X12_ask_70_153 (d + 1) x3 m Q) ∧ (x5.toInt < (m.1 80 (m.1 70 18).toNatClampNeg).toInt → ((x2.toInt = 0 → j_X12_ask_70_153 (d + 1) x3 m Q) ∧ (x2.toInt ≠ 0 → j_X12_ask_70_53 (d + 1) x2 x3 x4 x5 (0 : Int32) (0 : Int32) m Q)))))) : j_X12_ask_70_29 (d + 1) x2 x3 x4 x5 m Q := by
  refine w_iload (q := 31) hm110 ⟨⟨_, _, rfl⟩, rfl⟩ rfl ?_
  refine w_aload_n (q := 32) hm110 ⟨⟨_, _, rfl⟩, rfl⟩ rfl ?_
  refine w_getr (q := 35) hm110 ⟨⟨_, _, rfl⟩, rfl⟩ rfl ?_
  refine w_aload_n (q := 36) hm110 ⟨⟨_, _, rfl⟩, rfl⟩ rfl ?_
  refine w_getf (q := 39) (v := (m.1 70 18)) hm110 ⟨⟨_, _, rfl⟩, rfl⟩ rfl rfl ?_
  obtain ⟨hi, h⟩ := h
  refine w_iald (q := 40) (v := (m.1 80 (m.1 70 18).toNatClampNeg)) hm110 ⟨⟨_, _, rfl⟩, rfl⟩ rfl hi rfl rfl ?_
  refine w_icmp_ge (q := 43) (X := x5.toInt) (Y := (m.1 80 (m.1 70 18).toNatClampNeg).toInt) hm110 ⟨⟨_, _, rfl⟩, rfl⟩ rfl rfl (fun hc => ?_) (fun hc => ?_)
  · have h := h.1 hc
    exact Wp.wk [false, false, false, true, false, false, false, false] h
  · have h := h.2 hc
    refine w_iload_n (q := 44) hm110 ⟨⟨_, _, rfl⟩, rfl⟩ rfl ?_
    refine w_if_eq (q := 47) (X := x2.toInt) hm110 ⟨⟨_, _, rfl⟩, rfl⟩ rfl (fun hc => ?_) (fun hc => ?_)
    · have h := h.1 hc
      exact Wp.wk [false, false, false, true, false, false, false, false] h
    · have h := h.2 hc
      refine w_iconst (q := 48) hm110 ⟨⟨_, _, rfl⟩, rfl⟩ iconst_0 ?_
      refine w_istore (q := 50) (l' := [oR 70, none, oI x2, oI x3, oI x4, oI x5, oI (0 : Int32), none]) hm110 ⟨⟨_, _, rfl⟩, rfl⟩ rfl rfl rfl ?_
      refine w_iconst (q := 51) hm110 ⟨⟨_, _, rfl⟩, rfl⟩ iconst_0 ?_
      refine w_istore (q := 53) (l' := [oR 70, none, oI x2, oI x3, oI x4, oI x5, oI (0 : Int32), oI (0 : Int32)]) hm110 ⟨⟨_, _, rfl⟩, rfl⟩ rfl rfl rfl ?_
      exact h
theorem v_X12_ask_70_53 {d : Nat} {x2 : Int32} {x3 : Int32} {x4 : Int32} {x5 : Int32} {x6 : Int32} {x7 : Int32} {m : dM} {Q : Int32 → dM → Prop} (h : ((0 ≤ (m.1 70 18).toInt ∧ (m.1 70 18).toInt < 2) ∧ (((m.1 82 (m.1 70 18).toNatClampNeg).toInt ≤ x7.toInt → c_X12_bits d x2 m (fun r1 m1 => ((x6.toInt ≤ (r1 - x6).toInt → c_X12_bits d x2 m1 (fun r2 m2 => ((x3.toInt < 0 → j_X12_ask_70_140 (d + 1) x2 x5 (r2 - x6) m2 Q) ∧ (0 ≤ x3.toInt → (((r2 - x6).toInt < x4.toInt → j_X12_ask_70_140 (d + 1) x2 x5 (r2 - x6) m2 Q) ∧ (x4.toInt ≤ (r2 - x6).toInt → j_X12_ask_70_147 (d + 1) x2 x3 x4 x5 m2 Q)))))) ∧ ((r1 - x6).toInt < x6.toInt → ((x3.toInt < 0 → j_X12_ask_70_140 (d + 1) x2 x5 x6 m1 Q) ∧ (0 ≤ x3.toInt → ((x6.toInt < x4.toInt → j_X12_ask_70_140 (d + 1) x2 x5 x6 m1 Q) ∧ (x4.toInt ≤ x6.toInt → j_X12_ask_70_147 (d + 1) x2 x3 x4 x5 m1 Q)))))))) ∧ (x7.toInt < (m.1 82 (m.1 70 18).toNatClampNeg).toInt → ((((x2 >>> (x7 &&& 31)) &&& (1 : Int32)).toInt ≠ 1 → j_X12_ask_70_94 (d + 1) x2 x3 x4 x5 x6 x7 m Q) ∧ (((x2 >>> (x7 &&& 31)) &&& (1 : Int32)).toInt = 1 → ((0 ≤ x7.toInt ∧ x7.toInt < 10) ∧ j_X12_ask_70_94 (d + 1) x2 x3 x4 x5 (x6 + (((m.1 114 x7.toNatClampNeg) >>> (x5 &&& 31)) &&& (1 : Int32))) x7 m Q))))))) : j_X12_ask_70_53 (d + 1) x2 x3 x4 x5 x6 x7 m Q := by
  refine w_iload (q := 55) hm110 ⟨⟨_, _, rfl⟩, rfl⟩ rfl ?_
  refine w_aload_n (q := 56) hm110 ⟨⟨_, _, rfl⟩, rfl⟩ rfl ?_
  refine w_getr (q := 59) hm110 ⟨⟨_, _, rfl⟩, rfl⟩ rfl ?_
  refine w_aload_n (q := 60) hm110 ⟨⟨_, _, rfl⟩, rfl⟩ rfl ?_
  refine w_getf (q := 63) (v := (m.1 70 18)) hm110 ⟨⟨_, _, rfl⟩, rfl⟩ rfl rfl ?_
  obtain ⟨hi, h⟩ := h
  refine w_iald (q := 64) (v := (m.1 82 (m.1 70 18).toNatClampNeg)) hm110 ⟨⟨_, _, rfl⟩, rfl⟩ rfl hi rfl rfl ?_
  refine w_icmp_ge (q := 67) (X := x7.toInt) (Y := (m.1 82 (m.1 70 18).toNatClampNeg).toInt) hm110 ⟨⟨_, _, rfl⟩, rfl⟩ rfl rfl (fun hc => ?_) (fun hc => ?_)
  · have h := h.1 hc
    refine w_iload (q := 102) hm110 ⟨⟨_, _, rfl⟩, rfl⟩ rfl ?_
    refine w_iload_n (q := 103) hm110 ⟨⟨_, _, rfl⟩, rfl⟩ rfl ?_
    refine w_call (q := 106) (n := 2) (vs := [.inl x2]) (rest := [.inl x6]) (la := [oI x2, none, none]) hm110 ⟨⟨_, _, rfl⟩, rfl⟩ rfl rfl rfl rfl hm38 rfl rfl (fun hz => absurd hz (by decide)) rfl (Wp.mono h ?_)
    rintro _ m1 ⟨r1, rfl, h⟩
    change Wp _ _ 106 _ [.inl r1, .inl x6] _ _
    refine w_iload (q := 108) hm110 ⟨⟨_, _, rfl⟩, rfl⟩ rfl ?_
    refine w_isub (q := 109) hm110 ⟨⟨_, _, rfl⟩, rfl⟩ ?_
    refine w_icmp_le (q := 112) (X := x6.toInt) (Y := (r1 - x6).toInt) hm110 ⟨⟨_, _, rfl⟩, rfl⟩ rfl rfl (fun hc => ?_) (fun hc => ?_)
    · have h := h.1 hc
      refine w_iload_n (q := 118) hm110 ⟨⟨_, _, rfl⟩, rfl⟩ rfl ?_
      refine w_call (q := 121) (n := 2) (vs := [.inl x2]) (rest := []) (la := [oI x2, none, none]) hm110 ⟨⟨_, _, rfl⟩, rfl⟩ rfl rfl rfl rfl hm38 rfl rfl (fun hz => absurd hz (by decide)) rfl (Wp.mono h ?_)
      rintro _ m2 ⟨r2, rfl, h⟩
      change Wp _ _ 121 _ [.inl r2] _ _
      refine w_iload (q := 123) hm110 ⟨⟨_, _, rfl⟩, rfl⟩ rfl ?_
      refine w_isub (q := 124) hm110 ⟨⟨_, _, rfl⟩, rfl⟩ ?_
      refine w_istore (q := 126) (l' := [oR 70, none, oI x2, oI x3, oI x4, oI x5, oI x6, oI (r2 - x6)]) hm110 ⟨⟨_, _, rfl⟩, rfl⟩ rfl rfl rfl ?_
      refine w_iload_n (q := 127) hm110 ⟨⟨_, _, rfl⟩, rfl⟩ rfl ?_
      refine w_if_lt (q := 130) (X := x3.toInt) hm110 ⟨⟨_, _, rfl⟩, rfl⟩ rfl (fun hc => ?_) (fun hc => ?_)
      · have h := h.1 hc
        exact Wp.wk [true, false, true, false, false, true, false, true] h
      · have h := h.2 hc
        refine w_iload (q := 132) hm110 ⟨⟨_, _, rfl⟩, rfl⟩ rfl ?_
        refine w_iload (q := 134) hm110 ⟨⟨_, _, rfl⟩, rfl⟩ rfl ?_
        refine w_icmp_lt (q := 137) (X := (r2 - x6).toInt) (Y := x4.toInt) hm110 ⟨⟨_, _, rfl⟩, rfl⟩ rfl rfl (fun hc => ?_) (fun hc => ?_)
        · have h := h.1 hc
          exact Wp.wk [true, false, true, false, false, true, false, true] h
        · have h := h.2 hc
          refine w_goto (q := 147) hm110 ⟨_, _, rfl⟩ ?_
          exact Wp.wk [true, false, true, true, true, true, false, false] h
    · have h := h.2 hc
      refine w_iload (q := 114) hm110 ⟨⟨_, _, rfl⟩, rfl⟩ rfl ?_
      refine w_goto (q := 124) hm110 ⟨_, _, rfl⟩ ?_
      refine w_istore (q := 126) (l' := [oR 70, none, oI x2, oI x3, oI x4, oI x5, oI x6, oI x6]) hm110 ⟨⟨_, _, rfl⟩, rfl⟩ rfl rfl rfl ?_
      refine w_iload_n (q := 127) hm110 ⟨⟨_, _, rfl⟩, rfl⟩ rfl ?_
      refine w_if_lt (q := 130) (X := x3.toInt) hm110 ⟨⟨_, _, rfl⟩, rfl⟩ rfl (fun hc => ?_) (fun hc => ?_)
      · have h := h.1 hc
        exact Wp.wk [true, false, true, false, false, true, false, true] h
      · have h := h.2 hc
        refine w_iload (q := 132) hm110 ⟨⟨_, _, rfl⟩, rfl⟩ rfl ?_
        refine w_iload (q := 134) hm110 ⟨⟨_, _, rfl⟩, rfl⟩ rfl ?_
        refine w_icmp_lt (q := 137) (X := x6.toInt) (Y := x4.toInt) hm110 ⟨⟨_, _, rfl⟩, rfl⟩ rfl rfl (fun hc => ?_) (fun hc => ?_)
        · have h := h.1 hc
          exact Wp.wk [true, false, true, false, false, true, false, true] h
        · have h := h.2 hc
          refine w_goto (q := 147) hm110 ⟨_, _, rfl⟩ ?_
          exact Wp.wk [true, false, true, true, true, true, false, false] h
  · have h := h.2 hc
    refine w_iload_n (q := 68) hm110 ⟨⟨_, _, rfl⟩, rfl⟩ rfl ?_
    refine w_iload (q := 70) hm110 ⟨⟨_, _, rfl⟩, rfl⟩ rfl ?_
    refine w_ishr (q := 71) hm110 ⟨⟨_, _, rfl⟩, rfl⟩ ?_
    refine w_iconst (q := 72) hm110 ⟨⟨_, _, rfl⟩, rfl⟩ iconst_1 ?_
    refine w_iand (q := 73) hm110 ⟨⟨_, _, rfl⟩, rfl⟩ ?_
    refine w_iconst (q := 74) hm110 ⟨⟨_, _, rfl⟩, rfl⟩ iconst_1 ?_
    refine w_icmp_ne (q := 77) (X := ((x2 >>> (x7 &&& 31)) &&& (1 : Int32)).toInt) (Y := 1) hm110 ⟨⟨_, _, rfl⟩, rfl⟩ rfl (by decide) (fun hc => ?_) (fun hc => ?_)
    · have h := h.1 hc
      exact h
    · have h := h.2 hc
      refine w_iload (q := 79) hm110 ⟨⟨_, _, rfl⟩, rfl⟩ rfl ?_
      refine w_aload_n (q := 80) hm110 ⟨⟨_, _, rfl⟩, rfl⟩ rfl ?_
      refine w_getr (q := 83) hm110 ⟨⟨_, _, rfl⟩, rfl⟩ rfl ?_
      refine w_iload (q := 85) hm110 ⟨⟨_, _, rfl⟩, rfl⟩ rfl ?_
      obtain ⟨hi, h⟩ := h
      refine w_iald (q := 86) (v := (m.1 114 x7.toNatClampNeg)) hm110 ⟨⟨_, _, rfl⟩, rfl⟩ rfl hi rfl rfl ?_
      refine w_iload (q := 88) hm110 ⟨⟨_, _, rfl⟩, rfl⟩ rfl ?_
      refine w_ishr (q := 89) hm110 ⟨⟨_, _, rfl⟩, rfl⟩ ?_
      refine w_iconst (q := 90) hm110 ⟨⟨_, _, rfl⟩, rfl⟩ iconst_1 ?_
      refine w_iand (q := 91) hm110 ⟨⟨_, _, rfl⟩, rfl⟩ ?_
      refine w_iadd (q := 92) hm110 ⟨⟨_, _, rfl⟩, rfl⟩ ?_
      refine w_istore (q := 94) (l' := [oR 70, none, oI x2, oI x3, oI x4, oI x5, oI (x6 + (((m.1 114 x7.toNatClampNeg) >>> (x5 &&& 31)) &&& (1 : Int32))), oI x7]) hm110 ⟨⟨_, _, rfl⟩, rfl⟩ rfl rfl rfl ?_
      exact h
theorem v_X12_ask_70_94 {d : Nat} {x2 : Int32} {x3 : Int32} {x4 : Int32} {x5 : Int32} {x6 : Int32} {x7 : Int32} {m : dM} {Q : Int32 → dM → Prop} (h : j_X12_ask_70_53 (d + 1) x2 x3 x4 x5 x6 (x7 + (1 : Int32)) m Q) : j_X12_ask_70_94 (d + 1) x2 x3 x4 x5 x6 x7 m Q := by
  refine w_iinc (q := 97) (l' := [oR 70, none, oI x2, oI x3, oI x4, oI x5, oI x6, oI (x7 + (1 : Int32))]) hm110 ⟨⟨_, _, rfl⟩, rfl⟩ rfl rfl rfl iconst_1 rfl ?_
  refine w_goto (q := 53) hm110 ⟨_, _, rfl⟩ ?_
  exact h
theorem v_X12_ask_70_140 {d : Nat} {x2 : Int32} {x5 : Int32} {x7 : Int32} {m : dM} {Q : Int32 → dM → Prop} (h : j_X12_ask_70_147 (d + 1) x2 x5 x7 x5 m Q) : j_X12_ask_70_140 (d + 1) x2 x5 x7 m Q := by
  refine w_iload (q := 142) hm110 ⟨⟨_, _, rfl⟩, rfl⟩ rfl ?_
  refine w_istore_n (q := 143) (l' := [oR 70, none, oI x2, oI x5, none, oI x5, none, oI x7]) hm110 ⟨⟨_, _, rfl⟩, rfl⟩ rfl rfl rfl ?_
  refine w_iload (q := 145) hm110 ⟨⟨_, _, rfl⟩, rfl⟩ rfl ?_
  refine w_istore (q := 147) (l' := [oR 70, none, oI x2, oI x5, oI x7, oI x5, none, oI x7]) hm110 ⟨⟨_, _, rfl⟩, rfl⟩ rfl rfl rfl ?_
  exact Wp.wk [true, false, true, true, true, true, false, false] h
theorem v_X12_ask_70_147 {d : Nat} {x2 : Int32} {x3 : Int32} {x4 : Int32} {x5 : Int32} {m : dM} {Q : Int32 → dM → Prop} (h : j_X12_ask_70_29 (d + 1) x2 x3 x4 (x5 + (1 : Int32)) m Q) : j_X12_ask_70_147 (d + 1) x2 x3 x4 x5 m Q := by
  refine w_iinc (q := 150) (l' := [oR 70, none, oI x2, oI x3, oI x4, oI (x5 + (1 : Int32)), none, none]) hm110 ⟨⟨_, _, rfl⟩, rfl⟩ rfl rfl rfl iconst_1 rfl ?_
  refine w_goto (q := 29) hm110 ⟨_, _, rfl⟩ ?_
  exact h
theorem v_X12_ask_70_153 {d : Nat} {x3 : Int32} {m : dM} {Q : Int32 → dM → Prop} (h : Q x3 m) : j_X12_ask_70_153 (d + 1) x3 m Q := by
  refine w_iload_n (q := 154) hm110 ⟨⟨_, _, rfl⟩, rfl⟩ rfl ?_
  exact w_reti hm110 ⟨⟨_, _, rfl⟩, rfl⟩ rfl h
theorem v_X7_writeTo_47_53 {d : Nat} {x2 : Int32} {m : dM} {Q : dM → Prop} (h : ((x2.toInt < 0 → j_X7_writeTo_47_53_13 (d + 1) m Q) ∧ (0 ≤ x2.toInt → ((x2.toInt ≤ ((99 : Int32) - (33 : Int32)).toInt → ((0 ≤ x2.toInt ∧ x2.toInt < 99) ∧ ((0 ≤ (x2 + (1 : Int32)).toInt ∧ (x2 + (1 : Int32)).toInt < 99) ∧ ((0 ≤ (x2 + (2 : Int32)).toInt ∧ (x2 + (2 : Int32)).toInt < 99) ∧ ((0 ≤ (x2 + (3 : Int32)).toInt ∧ (x2 + (3 : Int32)).toInt < 99) ∧ ((0 ≤ (x2 + (4 : Int32)).toInt ∧ (x2 + (4 : Int32)).toInt < 99) ∧ ((0 ≤ (x2 + (5 : Int32)).toInt ∧ (x2 + (5 : Int32)).toInt < 99) ∧ ((0 ≤ (10 : Int) ∧ 0 ≤ (x2 + (6 : Int32)).toInt ∧ 0 ≤ (0 : Int) ∧ (0 : Int) + (10 : Int) ≤ 10 ∧ (x2 + (6 : Int32)).toInt + (10 : Int) ≤ 99) ∧ ((0 ≤ (10 : Int) ∧ 0 ≤ ((x2 + (6 : Int32)) + (10 : Int32)).toInt ∧ 0 ≤ (0 : Int) ∧ (0 : Int) + (10 : Int) ≤ 10 ∧ ((x2 + (6 : Int32)) + (10 : Int32)).toInt + (10 : Int) ≤ 99) ∧ ((0 ≤ (7 : Int) ∧ 0 ≤ ((x2 + (6 : Int32)) + (20 : Int32)).toInt ∧ 0 ≤ (0 : Int) ∧ (0 : Int) + (7 : Int) ≤ 7 ∧ ((x2 + (6 : Int32)) + (20 : Int32)).toInt + (7 : Int) ≤ 99) ∧ Q (dCpy (dCpy (dCpy (dSet (dSet (dSet (dSet (dSet (dSet m 53 x2.toNatClampNeg (m.1 47 0)) 53 (x2 + (1 : Int32)).toNatClampNeg (m.1 47 1)) 53 (x2 + (2 : Int32)).toNatClampNeg (m.1 47 2)) 53 (x2 + (3 : Int32)).toNatClampNeg (m.1 47 3)) 53 (x2 + (4 : Int32)).toNatClampNeg (m.1 47 4)) 53 (x2 + (5 : Int32)).toNatClampNeg (m.1 47 5)) 48 (0 : Int).toNat 53 ((x2 + (6 : Int32)).toInt).toNat (10 : Int).toNat) 49 (0 : Int).toNat 53 (((x2 + (6 : Int32)) + (10 : Int32)).toInt).toNat (10 : Int).toNat) 50 (0 : Int).toNat 53 (((x2 + (6 : Int32)) + (20 : Int32)).toInt).toNat (7 : Int).toNat))))))))))) ∧ (((99 : Int32) - (33 : Int32)).toInt < x2.toInt → j_X7_writeTo_47_53_13 (d + 1) m Q))))) : c_X7_writeTo_47_53 (d + 1) x2 m Q := by
  refine w_iload_n (q := 1) hm210 ⟨⟨_, _, rfl⟩, rfl⟩ rfl ?_
  refine w_if_lt (q := 4) (X := x2.toInt) hm210 ⟨⟨_, _, rfl⟩, rfl⟩ rfl (fun hc => ?_) (fun hc => ?_)
  · have h := h.1 hc
    exact Wp.wk [false, false, false] h
  · have h := h.2 hc
    refine w_iload_n (q := 5) hm210 ⟨⟨_, _, rfl⟩, rfl⟩ rfl ?_
    refine w_aload_n (q := 6) hm210 ⟨⟨_, _, rfl⟩, rfl⟩ rfl ?_
    refine w_alen (q := 7) hm210 ⟨⟨_, _, rfl⟩, rfl⟩ rfl alen_99 ?_
    refine w_bipush (q := 9) hm210 ⟨⟨_, _, rfl⟩, rfl⟩ bipush_33 ?_
    refine w_isub (q := 10) hm210 ⟨⟨_, _, rfl⟩, rfl⟩ ?_
    refine w_icmp_le (q := 13) (X := x2.toInt) (Y := ((99 : Int32) - (33 : Int32)).toInt) hm210 ⟨⟨_, _, rfl⟩, rfl⟩ rfl rfl (fun hc => ?_) (fun hc => ?_)
    · have h := h.1 hc
      refine w_aload_n (q := 15) hm210 ⟨⟨_, _, rfl⟩, rfl⟩ rfl ?_
      refine w_iload_n (q := 16) hm210 ⟨⟨_, _, rfl⟩, rfl⟩ rfl ?_
      refine w_aload_n (q := 17) hm210 ⟨⟨_, _, rfl⟩, rfl⟩ rfl ?_
      refine w_getf (q := 20) (v := (m.1 47 0)) hm210 ⟨⟨_, _, rfl⟩, rfl⟩ rfl rfl ?_
      obtain ⟨hi, h⟩ := h
      refine w_iast (q := 21) hm210 ⟨⟨_, _, rfl⟩, rfl⟩ rfl hi rfl rfl ?_
      refine w_aload_n (q := 22) hm210 ⟨⟨_, _, rfl⟩, rfl⟩ rfl ?_
      refine w_iload_n (q := 23) hm210 ⟨⟨_, _, rfl⟩, rfl⟩ rfl ?_
      refine w_iconst (q := 24) hm210 ⟨⟨_, _, rfl⟩, rfl⟩ iconst_1 ?_
      refine w_iadd (q := 25) hm210 ⟨⟨_, _, rfl⟩, rfl⟩ ?_
      refine w_aload_n (q := 26) hm210 ⟨⟨_, _, rfl⟩, rfl⟩ rfl ?_
      refine w_getf (q := 29) (v := (m.1 47 1)) hm210 ⟨⟨_, _, rfl⟩, rfl⟩ rfl rfl ?_
      obtain ⟨hi, h⟩ := h
      refine w_iast (q := 30) hm210 ⟨⟨_, _, rfl⟩, rfl⟩ rfl hi rfl rfl ?_
      refine w_aload_n (q := 31) hm210 ⟨⟨_, _, rfl⟩, rfl⟩ rfl ?_
      refine w_iload_n (q := 32) hm210 ⟨⟨_, _, rfl⟩, rfl⟩ rfl ?_
      refine w_iconst (q := 33) hm210 ⟨⟨_, _, rfl⟩, rfl⟩ iconst_2 ?_
      refine w_iadd (q := 34) hm210 ⟨⟨_, _, rfl⟩, rfl⟩ ?_
      refine w_aload_n (q := 35) hm210 ⟨⟨_, _, rfl⟩, rfl⟩ rfl ?_
      refine w_getf (q := 38) (v := (m.1 47 2)) hm210 ⟨⟨_, _, rfl⟩, rfl⟩ rfl rfl ?_
      obtain ⟨hi, h⟩ := h
      refine w_iast (q := 39) hm210 ⟨⟨_, _, rfl⟩, rfl⟩ rfl hi rfl rfl ?_
      refine w_aload_n (q := 40) hm210 ⟨⟨_, _, rfl⟩, rfl⟩ rfl ?_
      refine w_iload_n (q := 41) hm210 ⟨⟨_, _, rfl⟩, rfl⟩ rfl ?_
      refine w_iconst (q := 42) hm210 ⟨⟨_, _, rfl⟩, rfl⟩ iconst_3 ?_
      refine w_iadd (q := 43) hm210 ⟨⟨_, _, rfl⟩, rfl⟩ ?_
      refine w_aload_n (q := 44) hm210 ⟨⟨_, _, rfl⟩, rfl⟩ rfl ?_
      refine w_getf (q := 47) (v := (m.1 47 3)) hm210 ⟨⟨_, _, rfl⟩, rfl⟩ rfl rfl ?_
      obtain ⟨hi, h⟩ := h
      refine w_iast (q := 48) hm210 ⟨⟨_, _, rfl⟩, rfl⟩ rfl hi rfl rfl ?_
      refine w_aload_n (q := 49) hm210 ⟨⟨_, _, rfl⟩, rfl⟩ rfl ?_
      refine w_iload_n (q := 50) hm210 ⟨⟨_, _, rfl⟩, rfl⟩ rfl ?_
      refine w_iconst (q := 51) hm210 ⟨⟨_, _, rfl⟩, rfl⟩ iconst_4 ?_
      refine w_iadd (q := 52) hm210 ⟨⟨_, _, rfl⟩, rfl⟩ ?_
      refine w_aload_n (q := 53) hm210 ⟨⟨_, _, rfl⟩, rfl⟩ rfl ?_
      refine w_getf (q := 56) (v := (m.1 47 4)) hm210 ⟨⟨_, _, rfl⟩, rfl⟩ rfl rfl ?_
      obtain ⟨hi, h⟩ := h
      refine w_iast (q := 57) hm210 ⟨⟨_, _, rfl⟩, rfl⟩ rfl hi rfl rfl ?_
      refine w_aload_n (q := 58) hm210 ⟨⟨_, _, rfl⟩, rfl⟩ rfl ?_
      refine w_iload_n (q := 59) hm210 ⟨⟨_, _, rfl⟩, rfl⟩ rfl ?_
      refine w_iconst (q := 60) hm210 ⟨⟨_, _, rfl⟩, rfl⟩ iconst_5 ?_
      refine w_iadd (q := 61) hm210 ⟨⟨_, _, rfl⟩, rfl⟩ ?_
      refine w_aload_n (q := 62) hm210 ⟨⟨_, _, rfl⟩, rfl⟩ rfl ?_
      refine w_getf (q := 65) (v := (m.1 47 5)) hm210 ⟨⟨_, _, rfl⟩, rfl⟩ rfl rfl ?_
      obtain ⟨hi, h⟩ := h
      refine w_iast (q := 66) hm210 ⟨⟨_, _, rfl⟩, rfl⟩ rfl hi rfl rfl ?_
      refine w_aload_n (q := 67) hm210 ⟨⟨_, _, rfl⟩, rfl⟩ rfl ?_
      refine w_getr (q := 70) hm210 ⟨⟨_, _, rfl⟩, rfl⟩ rfl ?_
      refine w_iconst (q := 71) hm210 ⟨⟨_, _, rfl⟩, rfl⟩ iconst_0 ?_
      refine w_aload_n (q := 72) hm210 ⟨⟨_, _, rfl⟩, rfl⟩ rfl ?_
      refine w_iload_n (q := 73) hm210 ⟨⟨_, _, rfl⟩, rfl⟩ rfl ?_
      refine w_bipush (q := 75) hm210 ⟨⟨_, _, rfl⟩, rfl⟩ bipush_6 ?_
      refine w_iadd (q := 76) hm210 ⟨⟨_, _, rfl⟩, rfl⟩ ?_
      refine w_bipush (q := 78) hm210 ⟨⟨_, _, rfl⟩, rfl⟩ bipush_10 ?_
      obtain ⟨hi, h⟩ := h
      refine w_copy (q := 81) (N := 10) (D := (x2 + (6 : Int32)).toInt) (S := 0) hm210 ⟨⟨_, _, rfl⟩, rfl⟩ rfl rfl rfl rfl rfl (by decide) rfl (by decide) hi ?_
      refine w_aload_n (q := 82) hm210 ⟨⟨_, _, rfl⟩, rfl⟩ rfl ?_
      refine w_getr (q := 85) hm210 ⟨⟨_, _, rfl⟩, rfl⟩ rfl ?_
      refine w_iconst (q := 86) hm210 ⟨⟨_, _, rfl⟩, rfl⟩ iconst_0 ?_
      refine w_aload_n (q := 87) hm210 ⟨⟨_, _, rfl⟩, rfl⟩ rfl ?_
      refine w_iload_n (q := 88) hm210 ⟨⟨_, _, rfl⟩, rfl⟩ rfl ?_
      refine w_bipush (q := 90) hm210 ⟨⟨_, _, rfl⟩, rfl⟩ bipush_6 ?_
      refine w_iadd (q := 91) hm210 ⟨⟨_, _, rfl⟩, rfl⟩ ?_
      refine w_bipush (q := 93) hm210 ⟨⟨_, _, rfl⟩, rfl⟩ bipush_10 ?_
      refine w_iadd (q := 94) hm210 ⟨⟨_, _, rfl⟩, rfl⟩ ?_
      refine w_bipush (q := 96) hm210 ⟨⟨_, _, rfl⟩, rfl⟩ bipush_10 ?_
      obtain ⟨hi, h⟩ := h
      refine w_copy (q := 99) (N := 10) (D := ((x2 + (6 : Int32)) + (10 : Int32)).toInt) (S := 0) hm210 ⟨⟨_, _, rfl⟩, rfl⟩ rfl rfl rfl rfl rfl (by decide) rfl (by decide) hi ?_
      refine w_aload_n (q := 100) hm210 ⟨⟨_, _, rfl⟩, rfl⟩ rfl ?_
      refine w_getr (q := 103) hm210 ⟨⟨_, _, rfl⟩, rfl⟩ rfl ?_
      refine w_iconst (q := 104) hm210 ⟨⟨_, _, rfl⟩, rfl⟩ iconst_0 ?_
      refine w_aload_n (q := 105) hm210 ⟨⟨_, _, rfl⟩, rfl⟩ rfl ?_
      refine w_iload_n (q := 106) hm210 ⟨⟨_, _, rfl⟩, rfl⟩ rfl ?_
      refine w_bipush (q := 108) hm210 ⟨⟨_, _, rfl⟩, rfl⟩ bipush_6 ?_
      refine w_iadd (q := 109) hm210 ⟨⟨_, _, rfl⟩, rfl⟩ ?_
      refine w_bipush (q := 111) hm210 ⟨⟨_, _, rfl⟩, rfl⟩ bipush_20 ?_
      refine w_iadd (q := 112) hm210 ⟨⟨_, _, rfl⟩, rfl⟩ ?_
      refine w_bipush (q := 114) hm210 ⟨⟨_, _, rfl⟩, rfl⟩ bipush_7 ?_
      obtain ⟨hi, h⟩ := h
      refine w_copy (q := 117) (N := 7) (D := ((x2 + (6 : Int32)) + (20 : Int32)).toInt) (S := 0) hm210 ⟨⟨_, _, rfl⟩, rfl⟩ rfl rfl rfl rfl rfl (by decide) rfl (by decide) hi ?_
      exact w_retv hm210 ⟨⟨_, _, rfl⟩, rfl⟩ rfl h
    · have h := h.2 hc
      exact Wp.wk [false, false, false] h
theorem v_X7_writeTo_47_53_13 {d : Nat} {m : dM} {Q : dM → Prop} (h : Q m) : j_X7_writeTo_47_53_13 (d + 1) m Q := by
  exact w_retv hm210 ⟨⟨_, _, rfl⟩, rfl⟩ rfl h
theorem v_X6_store_51_47 {d : Nat} {x1 : Int32} {m : dM} {Q : Int32 → dM → Prop} (h : ((x1.toInt < 0 → j_X6_store_51_47_9 (d + 1) m Q) ∧ (0 ≤ x1.toInt → ((x1.toInt < 3 → c_X7_writeTo_47_53 d (x1 * (33 : Int32)) m (fun m1 => Q (1 : Int32) (dSet m1 51 4 ((m1.1 51 4) ||| ((1 : Int32) <<< (x1 &&& 31)))))) ∧ (3 ≤ x1.toInt → j_X6_store_51_47_9 (d + 1) m Q))))) : c_X6_store_51_47 (d + 1) x1 m Q := by
  refine w_iload_n (q := 1) hm205 ⟨⟨_, _, rfl⟩, rfl⟩ rfl ?_
  refine w_if_lt (q := 4) (X := x1.toInt) hm205 ⟨⟨_, _, rfl⟩, rfl⟩ rfl (fun hc => ?_) (fun hc => ?_)
  · have h := h.1 hc
    exact Wp.wk [false, false, false] h
  · have h := h.2 hc
    refine w_iload_n (q := 5) hm205 ⟨⟨_, _, rfl⟩, rfl⟩ rfl ?_
    refine w_iconst (q := 6) hm205 ⟨⟨_, _, rfl⟩, rfl⟩ iconst_3 ?_
    refine w_icmp_lt (q := 9) (X := x1.toInt) (Y := 3) hm205 ⟨⟨_, _, rfl⟩, rfl⟩ rfl (by decide) (fun hc => ?_) (fun hc => ?_)
    · have h := h.1 hc
      refine w_aload_n (q := 12) hm205 ⟨⟨_, _, rfl⟩, rfl⟩ rfl ?_
      refine w_aload_n (q := 13) hm205 ⟨⟨_, _, rfl⟩, rfl⟩ rfl ?_
      refine w_getr (q := 16) hm205 ⟨⟨_, _, rfl⟩, rfl⟩ rfl ?_
      refine w_iload_n (q := 17) hm205 ⟨⟨_, _, rfl⟩, rfl⟩ rfl ?_
      refine w_bipush (q := 19) hm205 ⟨⟨_, _, rfl⟩, rfl⟩ bipush_33 ?_
      refine w_imul (q := 20) hm205 ⟨⟨_, _, rfl⟩, rfl⟩ ?_
      refine w_call (q := 23) (n := 0) (vs := [.inr (.inr (some 47)), .inr (.inr (some 53)), .inl (x1 * (33 : Int32))]) (rest := []) (la := [oR 47, oR 53, oI (x1 * (33 : Int32))]) hm205 ⟨⟨_, _, rfl⟩, rfl⟩ rfl rfl rfl rfl hm210 rfl rfl (fun _ => ⟨_, _, rfl, rfl⟩) rfl (Wp.mono h ?_)
      rintro _ m1 ⟨rfl, h⟩
      change Wp _ _ 23 _ [] _ _
      refine w_aload_n (q := 24) hm205 ⟨⟨_, _, rfl⟩, rfl⟩ rfl ?_
      refine w_dup (q := 25) hm205 ⟨⟨_, _, rfl⟩, rfl⟩ rfl ?_
      refine w_getf (q := 28) (v := (m1.1 51 4)) hm205 ⟨⟨_, _, rfl⟩, rfl⟩ rfl rfl ?_
      refine w_iconst (q := 29) hm205 ⟨⟨_, _, rfl⟩, rfl⟩ iconst_1 ?_
      refine w_iload_n (q := 30) hm205 ⟨⟨_, _, rfl⟩, rfl⟩ rfl ?_
      refine w_ishl (q := 31) hm205 ⟨⟨_, _, rfl⟩, rfl⟩ ?_
      refine w_ior (q := 32) hm205 ⟨⟨_, _, rfl⟩, rfl⟩ ?_
      refine w_putf (q := 35) hm205 ⟨⟨_, _, rfl⟩, rfl⟩ rfl rfl rfl ?_
      refine w_iconst (q := 36) hm205 ⟨⟨_, _, rfl⟩, rfl⟩ iconst_1 ?_
      exact w_retz hm205 ⟨⟨_, _, rfl⟩, rfl⟩ rfl (by decide) h
    · have h := h.2 hc
      exact Wp.wk [false, false, false] h
theorem v_X6_store_51_47_9 {d : Nat} {m : dM} {Q : Int32 → dM → Prop} (h : Q (0 : Int32) m) : j_X6_store_51_47_9 (d + 1) m Q := by
  refine w_iconst (q := 10) hm205 ⟨⟨_, _, rfl⟩, rfl⟩ iconst_0 ?_
  exact w_retz hm205 ⟨⟨_, _, rfl⟩, rfl⟩ rfl (by decide) h
theorem v_X11_hold_0 {d : Nat} {x1 : Int32} {m : dM} {Q : Int32 → dM → Prop} (h : c_X6_store_51_47 d x1 m (fun r1 m1 => (r1 = 0 ∨ r1 = 1) ∧ Q r1 m1)) : c_X11_hold_0 (d + 1) x1 m Q := by
  refine w_aload_n (q := 1) hm279 ⟨⟨_, _, rfl⟩, rfl⟩ rfl ?_
  refine w_getr (q := 4) hm279 ⟨⟨_, _, rfl⟩, rfl⟩ rfl ?_
  refine w_iload_n (q := 5) hm279 ⟨⟨_, _, rfl⟩, rfl⟩ rfl ?_
  refine w_aload_n (q := 6) hm279 ⟨⟨_, _, rfl⟩, rfl⟩ rfl ?_
  refine w_getr (q := 9) hm279 ⟨⟨_, _, rfl⟩, rfl⟩ rfl ?_
  refine w_call (q := 12) (n := 0) (vs := [.inr (.inr (some 51)), .inl x1, .inr (.inr (some 47))]) (rest := []) (la := [oR 51, oI x1, oR 47]) hm279 ⟨⟨_, _, rfl⟩, rfl⟩ rfl rfl rfl rfl hm205 rfl rfl (fun _ => ⟨_, _, rfl, rfl⟩) rfl (Wp.mono h ?_)
  rintro _ m1 ⟨r1, rfl, h⟩
  change Wp _ _ 12 _ [.inl r1] _ _
  exact w_retz hm279 ⟨⟨_, _, rfl⟩, rfl⟩ rfl h.1 h.2
theorem v_X12_hold_70 {d : Nat} {x1 : Int32} {m : dM} {Q : Int32 → dM → Prop} (h : c_X12_in d x1 (0 : Int32) (2 : Int32) m (fun r1 m1 => ((r1.toInt ≠ 0 → ((0 ≤ x1.toInt ∧ x1.toInt < 3) ∧ j_X12_hold_70_20 (d + 1) x1 (0 : Int32) (dSet m1 115 x1.toNatClampNeg (1 : Int32)) Q)) ∧ (r1.toInt = 0 → Q (0 : Int32) m1)))) : c_X12_hold_70 (d + 1) x1 m Q := by
  refine w_iload_n (q := 1) hm111 ⟨⟨_, _, rfl⟩, rfl⟩ rfl ?_
  refine w_iconst (q := 2) hm111 ⟨⟨_, _, rfl⟩, rfl⟩ iconst_0 ?_
  refine w_iconst (q := 3) hm111 ⟨⟨_, _, rfl⟩, rfl⟩ iconst_2 ?_
  refine w_call (q := 6) (n := 0) (vs := [.inl x1, .inl (0 : Int32), .inl (2 : Int32)]) (rest := []) (la := [oI x1, oI (0 : Int32), oI (2 : Int32)]) hm111 ⟨⟨_, _, rfl⟩, rfl⟩ rfl rfl rfl rfl hm36 rfl rfl (fun hz => absurd hz (by decide)) rfl (Wp.mono h ?_)
  rintro _ m1 ⟨r1, rfl, h⟩
  change Wp _ _ 6 _ [.inl r1] _ _
  refine w_if_ne (q := 9) (X := r1.toInt) hm111 ⟨⟨_, _, rfl⟩, rfl⟩ rfl (fun hc => ?_) (fun hc => ?_)
  · have h := h.1 hc
    refine w_aload_n (q := 12) hm111 ⟨⟨_, _, rfl⟩, rfl⟩ rfl ?_
    refine w_getr (q := 15) hm111 ⟨⟨_, _, rfl⟩, rfl⟩ rfl ?_
    refine w_iload_n (q := 16) hm111 ⟨⟨_, _, rfl⟩, rfl⟩ rfl ?_
    refine w_iconst (q := 17) hm111 ⟨⟨_, _, rfl⟩, rfl⟩ iconst_1 ?_
    obtain ⟨hi, h⟩ := h
    refine w_zast (q := 18) hm111 ⟨⟨_, _, rfl⟩, rfl⟩ rfl (by decide) hi rfl rfl ?_
    refine w_iconst (q := 19) hm111 ⟨⟨_, _, rfl⟩, rfl⟩ iconst_0 ?_
    refine w_istore_n (q := 20) (l' := [oR 70, oI x1, oI (0 : Int32)]) hm111 ⟨⟨_, _, rfl⟩, rfl⟩ rfl rfl rfl ?_
    exact h
  · have h := h.2 hc
    refine w_iconst (q := 10) hm111 ⟨⟨_, _, rfl⟩, rfl⟩ iconst_0 ?_
    exact w_retz hm111 ⟨⟨_, _, rfl⟩, rfl⟩ rfl (by decide) h
theorem v_X12_hold_70_20 {d : Nat} {x1 : Int32} {x2 : Int32} {m : dM} {Q : Int32 → dM → Prop} (h : ((58 ≤ x2.toInt → Q (1 : Int32) m) ∧ (x2.toInt < 58 → ((0 ≤ x2.toInt ∧ x2.toInt < 58) ∧ ((0 ≤ (((58 : Int32) * x1) + x2).toInt ∧ (((58 : Int32) * x1) + x2).toInt < 174) ∧ j_X12_hold_70_20 (d + 1) x1 (x2 + (1 : Int32)) (dSet m 116 (((58 : Int32) * x1) + x2).toNatClampNeg (m.1 107 x2.toNatClampNeg)) Q))))) : j_X12_hold_70_20 (d + 1) x1 x2 m Q := by
  refine w_iload_n (q := 21) hm111 ⟨⟨_, _, rfl⟩, rfl⟩ rfl ?_
  refine w_bipush (q := 23) hm111 ⟨⟨_, _, rfl⟩, rfl⟩ bipush_58 ?_
  refine w_icmp_ge (q := 26) (X := x2.toInt) (Y := 58) hm111 ⟨⟨_, _, rfl⟩, rfl⟩ rfl (by decide) (fun hc => ?_) (fun hc => ?_)
  · have h := h.1 hc
    refine w_iconst (q := 50) hm111 ⟨⟨_, _, rfl⟩, rfl⟩ iconst_1 ?_
    exact w_retz hm111 ⟨⟨_, _, rfl⟩, rfl⟩ rfl (by decide) h
  · have h := h.2 hc
    refine w_aload_n (q := 27) hm111 ⟨⟨_, _, rfl⟩, rfl⟩ rfl ?_
    refine w_getr (q := 30) hm111 ⟨⟨_, _, rfl⟩, rfl⟩ rfl ?_
    refine w_bipush (q := 32) hm111 ⟨⟨_, _, rfl⟩, rfl⟩ bipush_58 ?_
    refine w_iload_n (q := 33) hm111 ⟨⟨_, _, rfl⟩, rfl⟩ rfl ?_
    refine w_imul (q := 34) hm111 ⟨⟨_, _, rfl⟩, rfl⟩ ?_
    refine w_iload_n (q := 35) hm111 ⟨⟨_, _, rfl⟩, rfl⟩ rfl ?_
    refine w_iadd (q := 36) hm111 ⟨⟨_, _, rfl⟩, rfl⟩ ?_
    refine w_aload_n (q := 37) hm111 ⟨⟨_, _, rfl⟩, rfl⟩ rfl ?_
    refine w_getr (q := 40) hm111 ⟨⟨_, _, rfl⟩, rfl⟩ rfl ?_
    refine w_iload_n (q := 41) hm111 ⟨⟨_, _, rfl⟩, rfl⟩ rfl ?_
    obtain ⟨hi, h⟩ := h
    refine w_iald (q := 42) (v := (m.1 107 x2.toNatClampNeg)) hm111 ⟨⟨_, _, rfl⟩, rfl⟩ rfl hi rfl rfl ?_
    obtain ⟨hi, h⟩ := h
    refine w_iast (q := 43) hm111 ⟨⟨_, _, rfl⟩, rfl⟩ rfl hi rfl rfl ?_
    refine w_iinc (q := 46) (l' := [oR 70, oI x1, oI (x2 + (1 : Int32))]) hm111 ⟨⟨_, _, rfl⟩, rfl⟩ rfl rfl rfl iconst_1 rfl ?_
    refine w_goto (q := 20) hm111 ⟨_, _, rfl⟩ ?_
    exact h
theorem v_X7_readFrom_47_53 {d : Nat} {x2 : Int32} {m : dM} {Q : dM → Prop} (h : ((x2.toInt < 0 → j_X7_readFrom_47_53_13 (d + 1) m Q) ∧ (0 ≤ x2.toInt → ((x2.toInt ≤ ((99 : Int32) - (33 : Int32)).toInt → ((0 ≤ x2.toInt ∧ x2.toInt < 99) ∧ ((0 ≤ (x2 + (1 : Int32)).toInt ∧ (x2 + (1 : Int32)).toInt < 99) ∧ ((0 ≤ (x2 + (2 : Int32)).toInt ∧ (x2 + (2 : Int32)).toInt < 99) ∧ ((0 ≤ (x2 + (3 : Int32)).toInt ∧ (x2 + (3 : Int32)).toInt < 99) ∧ ((0 ≤ (x2 + (4 : Int32)).toInt ∧ (x2 + (4 : Int32)).toInt < 99) ∧ ((0 ≤ (x2 + (5 : Int32)).toInt ∧ (x2 + (5 : Int32)).toInt < 99) ∧ ((0 ≤ (10 : Int) ∧ 0 ≤ (0 : Int) ∧ 0 ≤ (x2 + (6 : Int32)).toInt ∧ (x2 + (6 : Int32)).toInt + (10 : Int) ≤ 99 ∧ (0 : Int) + (10 : Int) ≤ 10) ∧ ((0 ≤ (10 : Int) ∧ 0 ≤ (0 : Int) ∧ 0 ≤ ((x2 + (6 : Int32)) + (10 : Int32)).toInt ∧ ((x2 + (6 : Int32)) + (10 : Int32)).toInt + (10 : Int) ≤ 99 ∧ (0 : Int) + (10 : Int) ≤ 10) ∧ ((0 ≤ (7 : Int) ∧ 0 ≤ (0 : Int) ∧ 0 ≤ ((x2 + (6 : Int32)) + (20 : Int32)).toInt ∧ ((x2 + (6 : Int32)) + (20 : Int32)).toInt + (7 : Int) ≤ 99 ∧ (0 : Int) + (7 : Int) ≤ 7) ∧ Q (dCpy (dCpy (dCpy (dSet (dSet (dSet (dSet (dSet (dSet m 47 0 (m.1 53 x2.toNatClampNeg)) 47 1 (m.1 53 (x2 + (1 : Int32)).toNatClampNeg)) 47 2 (m.1 53 (x2 + (2 : Int32)).toNatClampNeg)) 47 3 (m.1 53 (x2 + (3 : Int32)).toNatClampNeg)) 47 4 (m.1 53 (x2 + (4 : Int32)).toNatClampNeg)) 47 5 (m.1 53 (x2 + (5 : Int32)).toNatClampNeg)) 53 ((x2 + (6 : Int32)).toInt).toNat 48 (0 : Int).toNat (10 : Int).toNat) 53 (((x2 + (6 : Int32)) + (10 : Int32)).toInt).toNat 49 (0 : Int).toNat (10 : Int).toNat) 53 (((x2 + (6 : Int32)) + (20 : Int32)).toInt).toNat 50 (0 : Int).toNat (7 : Int).toNat))))))))))) ∧ (((99 : Int32) - (33 : Int32)).toInt < x2.toInt → j_X7_readFrom_47_53_13 (d + 1) m Q))))) : c_X7_readFrom_47_53 (d + 1) x2 m Q := by
  refine w_iload_n (q := 1) hm211 ⟨⟨_, _, rfl⟩, rfl⟩ rfl ?_
  refine w_if_lt (q := 4) (X := x2.toInt) hm211 ⟨⟨_, _, rfl⟩, rfl⟩ rfl (fun hc => ?_) (fun hc => ?_)
  · have h := h.1 hc
    exact Wp.wk [false, false, false] h
  · have h := h.2 hc
    refine w_iload_n (q := 5) hm211 ⟨⟨_, _, rfl⟩, rfl⟩ rfl ?_
    refine w_aload_n (q := 6) hm211 ⟨⟨_, _, rfl⟩, rfl⟩ rfl ?_
    refine w_alen (q := 7) hm211 ⟨⟨_, _, rfl⟩, rfl⟩ rfl alen_99 ?_
    refine w_bipush (q := 9) hm211 ⟨⟨_, _, rfl⟩, rfl⟩ bipush_33 ?_
    refine w_isub (q := 10) hm211 ⟨⟨_, _, rfl⟩, rfl⟩ ?_
    refine w_icmp_le (q := 13) (X := x2.toInt) (Y := ((99 : Int32) - (33 : Int32)).toInt) hm211 ⟨⟨_, _, rfl⟩, rfl⟩ rfl rfl (fun hc => ?_) (fun hc => ?_)
    · have h := h.1 hc
      refine w_aload_n (q := 15) hm211 ⟨⟨_, _, rfl⟩, rfl⟩ rfl ?_
      refine w_aload_n (q := 16) hm211 ⟨⟨_, _, rfl⟩, rfl⟩ rfl ?_
      refine w_iload_n (q := 17) hm211 ⟨⟨_, _, rfl⟩, rfl⟩ rfl ?_
      obtain ⟨hi, h⟩ := h
      refine w_iald (q := 18) (v := (m.1 53 x2.toNatClampNeg)) hm211 ⟨⟨_, _, rfl⟩, rfl⟩ rfl hi rfl rfl ?_
      refine w_putf (q := 21) hm211 ⟨⟨_, _, rfl⟩, rfl⟩ rfl rfl rfl ?_
      refine w_aload_n (q := 22) hm211 ⟨⟨_, _, rfl⟩, rfl⟩ rfl ?_
      refine w_aload_n (q := 23) hm211 ⟨⟨_, _, rfl⟩, rfl⟩ rfl ?_
      refine w_iload_n (q := 24) hm211 ⟨⟨_, _, rfl⟩, rfl⟩ rfl ?_
      refine w_iconst (q := 25) hm211 ⟨⟨_, _, rfl⟩, rfl⟩ iconst_1 ?_
      refine w_iadd (q := 26) hm211 ⟨⟨_, _, rfl⟩, rfl⟩ ?_
      obtain ⟨hi, h⟩ := h
      refine w_iald (q := 27) (v := (m.1 53 (x2 + (1 : Int32)).toNatClampNeg)) hm211 ⟨⟨_, _, rfl⟩, rfl⟩ rfl hi rfl rfl ?_
      refine w_putf (q := 30) hm211 ⟨⟨_, _, rfl⟩, rfl⟩ rfl rfl rfl ?_
      refine w_aload_n (q := 31) hm211 ⟨⟨_, _, rfl⟩, rfl⟩ rfl ?_
      refine w_aload_n (q := 32) hm211 ⟨⟨_, _, rfl⟩, rfl⟩ rfl ?_
      refine w_iload_n (q := 33) hm211 ⟨⟨_, _, rfl⟩, rfl⟩ rfl ?_
      refine w_iconst (q := 34) hm211 ⟨⟨_, _, rfl⟩, rfl⟩ iconst_2 ?_
      refine w_iadd (q := 35) hm211 ⟨⟨_, _, rfl⟩, rfl⟩ ?_
      obtain ⟨hi, h⟩ := h
      refine w_iald (q := 36) (v := (m.1 53 (x2 + (2 : Int32)).toNatClampNeg)) hm211 ⟨⟨_, _, rfl⟩, rfl⟩ rfl hi rfl rfl ?_
      refine w_putf (q := 39) hm211 ⟨⟨_, _, rfl⟩, rfl⟩ rfl rfl rfl ?_
      refine w_aload_n (q := 40) hm211 ⟨⟨_, _, rfl⟩, rfl⟩ rfl ?_
      refine w_aload_n (q := 41) hm211 ⟨⟨_, _, rfl⟩, rfl⟩ rfl ?_
      refine w_iload_n (q := 42) hm211 ⟨⟨_, _, rfl⟩, rfl⟩ rfl ?_
      refine w_iconst (q := 43) hm211 ⟨⟨_, _, rfl⟩, rfl⟩ iconst_3 ?_
      refine w_iadd (q := 44) hm211 ⟨⟨_, _, rfl⟩, rfl⟩ ?_
      obtain ⟨hi, h⟩ := h
      refine w_iald (q := 45) (v := (m.1 53 (x2 + (3 : Int32)).toNatClampNeg)) hm211 ⟨⟨_, _, rfl⟩, rfl⟩ rfl hi rfl rfl ?_
      refine w_putf (q := 48) hm211 ⟨⟨_, _, rfl⟩, rfl⟩ rfl rfl rfl ?_
      refine w_aload_n (q := 49) hm211 ⟨⟨_, _, rfl⟩, rfl⟩ rfl ?_
      refine w_aload_n (q := 50) hm211 ⟨⟨_, _, rfl⟩, rfl⟩ rfl ?_
      refine w_iload_n (q := 51) hm211 ⟨⟨_, _, rfl⟩, rfl⟩ rfl ?_
      refine w_iconst (q := 52) hm211 ⟨⟨_, _, rfl⟩, rfl⟩ iconst_4 ?_
      refine w_iadd (q := 53) hm211 ⟨⟨_, _, rfl⟩, rfl⟩ ?_
      obtain ⟨hi, h⟩ := h
      refine w_iald (q := 54) (v := (m.1 53 (x2 + (4 : Int32)).toNatClampNeg)) hm211 ⟨⟨_, _, rfl⟩, rfl⟩ rfl hi rfl rfl ?_
      refine w_putf (q := 57) hm211 ⟨⟨_, _, rfl⟩, rfl⟩ rfl rfl rfl ?_
      refine w_aload_n (q := 58) hm211 ⟨⟨_, _, rfl⟩, rfl⟩ rfl ?_
      refine w_aload_n (q := 59) hm211 ⟨⟨_, _, rfl⟩, rfl⟩ rfl ?_
      refine w_iload_n (q := 60) hm211 ⟨⟨_, _, rfl⟩, rfl⟩ rfl ?_
      refine w_iconst (q := 61) hm211 ⟨⟨_, _, rfl⟩, rfl⟩ iconst_5 ?_
      refine w_iadd (q := 62) hm211 ⟨⟨_, _, rfl⟩, rfl⟩ ?_
      obtain ⟨hi, h⟩ := h
      refine w_iald (q := 63) (v := (m.1 53 (x2 + (5 : Int32)).toNatClampNeg)) hm211 ⟨⟨_, _, rfl⟩, rfl⟩ rfl hi rfl rfl ?_
      refine w_putf (q := 66) hm211 ⟨⟨_, _, rfl⟩, rfl⟩ rfl rfl rfl ?_
      refine w_aload_n (q := 67) hm211 ⟨⟨_, _, rfl⟩, rfl⟩ rfl ?_
      refine w_iload_n (q := 68) hm211 ⟨⟨_, _, rfl⟩, rfl⟩ rfl ?_
      refine w_bipush (q := 70) hm211 ⟨⟨_, _, rfl⟩, rfl⟩ bipush_6 ?_
      refine w_iadd (q := 71) hm211 ⟨⟨_, _, rfl⟩, rfl⟩ ?_
      refine w_aload_n (q := 72) hm211 ⟨⟨_, _, rfl⟩, rfl⟩ rfl ?_
      refine w_getr (q := 75) hm211 ⟨⟨_, _, rfl⟩, rfl⟩ rfl ?_
      refine w_iconst (q := 76) hm211 ⟨⟨_, _, rfl⟩, rfl⟩ iconst_0 ?_
      refine w_bipush (q := 78) hm211 ⟨⟨_, _, rfl⟩, rfl⟩ bipush_10 ?_
      obtain ⟨hi, h⟩ := h
      refine w_copy (q := 81) (N := 10) (D := 0) (S := (x2 + (6 : Int32)).toInt) hm211 ⟨⟨_, _, rfl⟩, rfl⟩ rfl rfl rfl rfl rfl (by decide) (by decide) rfl hi ?_
      refine w_aload_n (q := 82) hm211 ⟨⟨_, _, rfl⟩, rfl⟩ rfl ?_
      refine w_iload_n (q := 83) hm211 ⟨⟨_, _, rfl⟩, rfl⟩ rfl ?_
      refine w_bipush (q := 85) hm211 ⟨⟨_, _, rfl⟩, rfl⟩ bipush_6 ?_
      refine w_iadd (q := 86) hm211 ⟨⟨_, _, rfl⟩, rfl⟩ ?_
      refine w_bipush (q := 88) hm211 ⟨⟨_, _, rfl⟩, rfl⟩ bipush_10 ?_
      refine w_iadd (q := 89) hm211 ⟨⟨_, _, rfl⟩, rfl⟩ ?_
      refine w_aload_n (q := 90) hm211 ⟨⟨_, _, rfl⟩, rfl⟩ rfl ?_
      refine w_getr (q := 93) hm211 ⟨⟨_, _, rfl⟩, rfl⟩ rfl ?_
      refine w_iconst (q := 94) hm211 ⟨⟨_, _, rfl⟩, rfl⟩ iconst_0 ?_
      refine w_bipush (q := 96) hm211 ⟨⟨_, _, rfl⟩, rfl⟩ bipush_10 ?_
      obtain ⟨hi, h⟩ := h
      refine w_copy (q := 99) (N := 10) (D := 0) (S := ((x2 + (6 : Int32)) + (10 : Int32)).toInt) hm211 ⟨⟨_, _, rfl⟩, rfl⟩ rfl rfl rfl rfl rfl (by decide) (by decide) rfl hi ?_
      refine w_aload_n (q := 100) hm211 ⟨⟨_, _, rfl⟩, rfl⟩ rfl ?_
      refine w_iload_n (q := 101) hm211 ⟨⟨_, _, rfl⟩, rfl⟩ rfl ?_
      refine w_bipush (q := 103) hm211 ⟨⟨_, _, rfl⟩, rfl⟩ bipush_6 ?_
      refine w_iadd (q := 104) hm211 ⟨⟨_, _, rfl⟩, rfl⟩ ?_
      refine w_bipush (q := 106) hm211 ⟨⟨_, _, rfl⟩, rfl⟩ bipush_20 ?_
      refine w_iadd (q := 107) hm211 ⟨⟨_, _, rfl⟩, rfl⟩ ?_
      refine w_aload_n (q := 108) hm211 ⟨⟨_, _, rfl⟩, rfl⟩ rfl ?_
      refine w_getr (q := 111) hm211 ⟨⟨_, _, rfl⟩, rfl⟩ rfl ?_
      refine w_iconst (q := 112) hm211 ⟨⟨_, _, rfl⟩, rfl⟩ iconst_0 ?_
      refine w_bipush (q := 114) hm211 ⟨⟨_, _, rfl⟩, rfl⟩ bipush_7 ?_
      obtain ⟨hi, h⟩ := h
      refine w_copy (q := 117) (N := 7) (D := 0) (S := ((x2 + (6 : Int32)) + (20 : Int32)).toInt) hm211 ⟨⟨_, _, rfl⟩, rfl⟩ rfl rfl rfl rfl rfl (by decide) (by decide) rfl hi ?_
      exact w_retv hm211 ⟨⟨_, _, rfl⟩, rfl⟩ rfl h
    · have h := h.2 hc
      exact Wp.wk [false, false, false] h
theorem v_X7_readFrom_47_53_13 {d : Nat} {m : dM} {Q : dM → Prop} (h : Q m) : j_X7_readFrom_47_53_13 (d + 1) m Q := by
  exact w_retv hm211 ⟨⟨_, _, rfl⟩, rfl⟩ rfl h
theorem v_X6_fetch_51_47 {d : Nat} {x1 : Int32} {m : dM} {Q : Int32 → dM → Prop} (h : ((x1.toInt < 0 → j_X6_fetch_51_47_20 (d + 1) m Q) ∧ (0 ≤ x1.toInt → ((3 ≤ x1.toInt → j_X6_fetch_51_47_20 (d + 1) m Q) ∧ (x1.toInt < 3 → c_X11_has d (m.1 51 4) x1 m (fun r1 m1 => ((r1.toInt ≠ 0 → c_X7_readFrom_47_53 d (x1 * (33 : Int32)) m1 (fun m2 => c_X6_clear_51 d m2 (fun m3 => Q (1 : Int32) m3))) ∧ (r1.toInt = 0 → j_X6_fetch_51_47_20 (d + 1) m1 Q)))))))) : c_X6_fetch_51_47 (d + 1) x1 m Q := by
  refine w_iload_n (q := 1) hm206 ⟨⟨_, _, rfl⟩, rfl⟩ rfl ?_
  refine w_if_lt (q := 4) (X := x1.toInt) hm206 ⟨⟨_, _, rfl⟩, rfl⟩ rfl (fun hc => ?_) (fun hc => ?_)
  · have h := h.1 hc
    exact Wp.wk [false, false, false] h
  · have h := h.2 hc
    refine w_iload_n (q := 5) hm206 ⟨⟨_, _, rfl⟩, rfl⟩ rfl ?_
    refine w_iconst (q := 6) hm206 ⟨⟨_, _, rfl⟩, rfl⟩ iconst_3 ?_
    refine w_icmp_ge (q := 9) (X := x1.toInt) (Y := 3) hm206 ⟨⟨_, _, rfl⟩, rfl⟩ rfl (by decide) (fun hc => ?_) (fun hc => ?_)
    · have h := h.1 hc
      exact Wp.wk [false, false, false] h
    · have h := h.2 hc
      refine w_aload_n (q := 10) hm206 ⟨⟨_, _, rfl⟩, rfl⟩ rfl ?_
      refine w_getf (q := 13) (v := (m.1 51 4)) hm206 ⟨⟨_, _, rfl⟩, rfl⟩ rfl rfl ?_
      refine w_iload_n (q := 14) hm206 ⟨⟨_, _, rfl⟩, rfl⟩ rfl ?_
      refine w_call (q := 17) (n := 0) (vs := [.inl (m.1 51 4), .inl x1]) (rest := []) (la := [oI (m.1 51 4), oI x1]) hm206 ⟨⟨_, _, rfl⟩, rfl⟩ rfl rfl rfl rfl hm283 rfl rfl (fun hz => absurd hz (by decide)) rfl (Wp.mono h ?_)
      rintro _ m1 ⟨r1, rfl, h⟩
      change Wp _ _ 17 _ [.inl r1] _ _
      refine w_if_ne (q := 20) (X := r1.toInt) hm206 ⟨⟨_, _, rfl⟩, rfl⟩ rfl (fun hc => ?_) (fun hc => ?_)
      · have h := h.1 hc
        refine w_aload_n (q := 23) hm206 ⟨⟨_, _, rfl⟩, rfl⟩ rfl ?_
        refine w_aload_n (q := 24) hm206 ⟨⟨_, _, rfl⟩, rfl⟩ rfl ?_
        refine w_getr (q := 27) hm206 ⟨⟨_, _, rfl⟩, rfl⟩ rfl ?_
        refine w_iload_n (q := 28) hm206 ⟨⟨_, _, rfl⟩, rfl⟩ rfl ?_
        refine w_bipush (q := 30) hm206 ⟨⟨_, _, rfl⟩, rfl⟩ bipush_33 ?_
        refine w_imul (q := 31) hm206 ⟨⟨_, _, rfl⟩, rfl⟩ ?_
        refine w_call (q := 34) (n := 0) (vs := [.inr (.inr (some 47)), .inr (.inr (some 53)), .inl (x1 * (33 : Int32))]) (rest := []) (la := [oR 47, oR 53, oI (x1 * (33 : Int32))]) hm206 ⟨⟨_, _, rfl⟩, rfl⟩ rfl rfl rfl rfl hm211 rfl rfl (fun _ => ⟨_, _, rfl, rfl⟩) rfl (Wp.mono h ?_)
        rintro _ m2 ⟨rfl, h⟩
        change Wp _ _ 34 _ [] _ _
        refine w_aload_n (q := 35) hm206 ⟨⟨_, _, rfl⟩, rfl⟩ rfl ?_
        refine w_call (q := 38) (n := 0) (vs := [.inr (.inr (some 51))]) (rest := []) (la := [oR 51]) hm206 ⟨⟨_, _, rfl⟩, rfl⟩ rfl rfl rfl rfl hm201 rfl rfl (fun _ => ⟨_, _, rfl, rfl⟩) rfl (Wp.mono h ?_)
        rintro _ m3 ⟨rfl, h⟩
        change Wp _ _ 38 _ [] _ _
        refine w_iconst (q := 39) hm206 ⟨⟨_, _, rfl⟩, rfl⟩ iconst_1 ?_
        exact w_retz hm206 ⟨⟨_, _, rfl⟩, rfl⟩ rfl (by decide) h
      · have h := h.2 hc
        exact Wp.wk [false, false, false] h
theorem v_X6_fetch_51_47_20 {d : Nat} {m : dM} {Q : Int32 → dM → Prop} (h : Q (0 : Int32) m) : j_X6_fetch_51_47_20 (d + 1) m Q := by
  refine w_iconst (q := 21) hm206 ⟨⟨_, _, rfl⟩, rfl⟩ iconst_0 ?_
  exact w_retz hm206 ⟨⟨_, _, rfl⟩, rfl⟩ rfl (by decide) h
theorem v_X11_restore_0 {d : Nat} {x1 : Int32} {m : dM} {Q : Int32 → dM → Prop} (h : c_X6_fetch_51_47 d x1 m (fun r1 m1 => (r1 = 0 ∨ r1 = 1) ∧ Q r1 m1)) : c_X11_restore_0 (d + 1) x1 m Q := by
  refine w_aload_n (q := 1) hm280 ⟨⟨_, _, rfl⟩, rfl⟩ rfl ?_
  refine w_getr (q := 4) hm280 ⟨⟨_, _, rfl⟩, rfl⟩ rfl ?_
  refine w_iload_n (q := 5) hm280 ⟨⟨_, _, rfl⟩, rfl⟩ rfl ?_
  refine w_aload_n (q := 6) hm280 ⟨⟨_, _, rfl⟩, rfl⟩ rfl ?_
  refine w_getr (q := 9) hm280 ⟨⟨_, _, rfl⟩, rfl⟩ rfl ?_
  refine w_call (q := 12) (n := 0) (vs := [.inr (.inr (some 51)), .inl x1, .inr (.inr (some 47))]) (rest := []) (la := [oR 51, oI x1, oR 47]) hm280 ⟨⟨_, _, rfl⟩, rfl⟩ rfl rfl rfl rfl hm206 rfl rfl (fun _ => ⟨_, _, rfl, rfl⟩) rfl (Wp.mono h ?_)
  rintro _ m1 ⟨r1, rfl, h⟩
  change Wp _ _ 12 _ [.inl r1] _ _
  exact w_retz hm280 ⟨⟨_, _, rfl⟩, rfl⟩ rfl h.1 h.2
theorem v_X12_restore_70 {d : Nat} {x1 : Int32} {m : dM} {Q : Int32 → dM → Prop} (h : c_X12_in d x1 (0 : Int32) (2 : Int32) m (fun r1 m1 => ((r1.toInt = 0 → j_X12_restore_70_18 (d + 1) m1 Q) ∧ (r1.toInt ≠ 0 → ((0 ≤ x1.toInt ∧ x1.toInt < 3) ∧ (((m1.1 115 x1.toNatClampNeg).toInt ≠ 0 → j_X12_restore_70_22 (d + 1) x1 (0 : Int32) m1 Q) ∧ ((m1.1 115 x1.toNatClampNeg).toInt = 0 → j_X12_restore_70_18 (d + 1) m1 Q))))))) : c_X12_restore_70 (d + 1) x1 m Q := by
  refine w_iload_n (q := 1) hm112 ⟨⟨_, _, rfl⟩, rfl⟩ rfl ?_
  refine w_iconst (q := 2) hm112 ⟨⟨_, _, rfl⟩, rfl⟩ iconst_0 ?_
  refine w_iconst (q := 3) hm112 ⟨⟨_, _, rfl⟩, rfl⟩ iconst_2 ?_
  refine w_call (q := 6) (n := 0) (vs := [.inl x1, .inl (0 : Int32), .inl (2 : Int32)]) (rest := []) (la := [oI x1, oI (0 : Int32), oI (2 : Int32)]) hm112 ⟨⟨_, _, rfl⟩, rfl⟩ rfl rfl rfl rfl hm36 rfl rfl (fun hz => absurd hz (by decide)) rfl (Wp.mono h ?_)
  rintro _ m1 ⟨r1, rfl, h⟩
  change Wp _ _ 6 _ [.inl r1] _ _
  refine w_if_eq (q := 9) (X := r1.toInt) hm112 ⟨⟨_, _, rfl⟩, rfl⟩ rfl (fun hc => ?_) (fun hc => ?_)
  · have h := h.1 hc
    exact Wp.wk [false, false, false] h
  · have h := h.2 hc
    refine w_aload_n (q := 10) hm112 ⟨⟨_, _, rfl⟩, rfl⟩ rfl ?_
    refine w_getr (q := 13) hm112 ⟨⟨_, _, rfl⟩, rfl⟩ rfl ?_
    refine w_iload_n (q := 14) hm112 ⟨⟨_, _, rfl⟩, rfl⟩ rfl ?_
    obtain ⟨hi, h⟩ := h
    refine w_zald (q := 15) (v := (m1.1 115 x1.toNatClampNeg)) hm112 ⟨⟨_, _, rfl⟩, rfl⟩ rfl hi rfl rfl ?_
    refine w_if_ne (q := 18) (X := (m1.1 115 x1.toNatClampNeg).toInt) hm112 ⟨⟨_, _, rfl⟩, rfl⟩ rfl (fun hc => ?_) (fun hc => ?_)
    · have h := h.1 hc
      refine w_iconst (q := 21) hm112 ⟨⟨_, _, rfl⟩, rfl⟩ iconst_0 ?_
      refine w_istore_n (q := 22) (l' := [oR 70, oI x1, oI (0 : Int32)]) hm112 ⟨⟨_, _, rfl⟩, rfl⟩ rfl rfl rfl ?_
      exact h
    · have h := h.2 hc
      exact Wp.wk [false, false, false] h
theorem v_X12_restore_70_18 {d : Nat} {m : dM} {Q : Int32 → dM → Prop} (h : Q (0 : Int32) m) : j_X12_restore_70_18 (d + 1) m Q := by
  refine w_iconst (q := 19) hm112 ⟨⟨_, _, rfl⟩, rfl⟩ iconst_0 ?_
  exact w_retz hm112 ⟨⟨_, _, rfl⟩, rfl⟩ rfl (by decide) h
theorem v_X12_restore_70_22 {d : Nat} {x1 : Int32} {x2 : Int32} {m : dM} {Q : Int32 → dM → Prop} (h : ((58 ≤ x2.toInt → Q (1 : Int32) (dSet m 70 61 (0 : Int32))) ∧ (x2.toInt < 58 → ((0 ≤ (((58 : Int32) * x1) + x2).toInt ∧ (((58 : Int32) * x1) + x2).toInt < 174) ∧ ((0 ≤ x2.toInt ∧ x2.toInt < 58) ∧ j_X12_restore_70_22 (d + 1) x1 (x2 + (1 : Int32)) (dSet m 107 x2.toNatClampNeg (m.1 116 (((58 : Int32) * x1) + x2).toNatClampNeg)) Q))))) : j_X12_restore_70_22 (d + 1) x1 x2 m Q := by
  refine w_iload_n (q := 23) hm112 ⟨⟨_, _, rfl⟩, rfl⟩ rfl ?_
  refine w_bipush (q := 25) hm112 ⟨⟨_, _, rfl⟩, rfl⟩ bipush_58 ?_
  refine w_icmp_ge (q := 28) (X := x2.toInt) (Y := 58) hm112 ⟨⟨_, _, rfl⟩, rfl⟩ rfl (by decide) (fun hc => ?_) (fun hc => ?_)
  · have h := h.1 hc
    refine w_aload_n (q := 52) hm112 ⟨⟨_, _, rfl⟩, rfl⟩ rfl ?_
    refine w_iconst (q := 53) hm112 ⟨⟨_, _, rfl⟩, rfl⟩ iconst_0 ?_
    refine w_putf (q := 56) hm112 ⟨⟨_, _, rfl⟩, rfl⟩ rfl rfl rfl ?_
    refine w_iconst (q := 57) hm112 ⟨⟨_, _, rfl⟩, rfl⟩ iconst_1 ?_
    exact w_retz hm112 ⟨⟨_, _, rfl⟩, rfl⟩ rfl (by decide) h
  · have h := h.2 hc
    refine w_aload_n (q := 29) hm112 ⟨⟨_, _, rfl⟩, rfl⟩ rfl ?_
    refine w_getr (q := 32) hm112 ⟨⟨_, _, rfl⟩, rfl⟩ rfl ?_
    refine w_iload_n (q := 33) hm112 ⟨⟨_, _, rfl⟩, rfl⟩ rfl ?_
    refine w_aload_n (q := 34) hm112 ⟨⟨_, _, rfl⟩, rfl⟩ rfl ?_
    refine w_getr (q := 37) hm112 ⟨⟨_, _, rfl⟩, rfl⟩ rfl ?_
    refine w_bipush (q := 39) hm112 ⟨⟨_, _, rfl⟩, rfl⟩ bipush_58 ?_
    refine w_iload_n (q := 40) hm112 ⟨⟨_, _, rfl⟩, rfl⟩ rfl ?_
    refine w_imul (q := 41) hm112 ⟨⟨_, _, rfl⟩, rfl⟩ ?_
    refine w_iload_n (q := 42) hm112 ⟨⟨_, _, rfl⟩, rfl⟩ rfl ?_
    refine w_iadd (q := 43) hm112 ⟨⟨_, _, rfl⟩, rfl⟩ ?_
    obtain ⟨hi, h⟩ := h
    refine w_iald (q := 44) (v := (m.1 116 (((58 : Int32) * x1) + x2).toNatClampNeg)) hm112 ⟨⟨_, _, rfl⟩, rfl⟩ rfl hi rfl rfl ?_
    obtain ⟨hi, h⟩ := h
    refine w_iast (q := 45) hm112 ⟨⟨_, _, rfl⟩, rfl⟩ rfl hi rfl rfl ?_
    refine w_iinc (q := 48) (l' := [oR 70, oI x1, oI (x2 + (1 : Int32))]) hm112 ⟨⟨_, _, rfl⟩, rfl⟩ rfl rfl rfl iconst_1 rfl ?_
    refine w_goto (q := 22) hm112 ⟨_, _, rfl⟩ ?_
    exact h
theorem v_X11_wholeRatings_0 {d : Nat} {m : dM} {Q : Int32 → dM → Prop} (h : j_X11_wholeRatings_0_4 (d + 1) (0 : Int32) (0 : Int32) m Q) : c_X11_wholeRatings_0 (d + 1) m Q := by
  refine w_iconst (q := 1) hm282 ⟨⟨_, _, rfl⟩, rfl⟩ iconst_0 ?_
  refine w_istore_n (q := 2) (l' := [oR 0, oI (0 : Int32), none]) hm282 ⟨⟨_, _, rfl⟩, rfl⟩ rfl rfl rfl ?_
  refine w_iconst (q := 3) hm282 ⟨⟨_, _, rfl⟩, rfl⟩ iconst_0 ?_
  refine w_istore_n (q := 4) (l' := [oR 0, oI (0 : Int32), oI (0 : Int32)]) hm282 ⟨⟨_, _, rfl⟩, rfl⟩ rfl rfl rfl ?_
  exact h
theorem v_X11_wholeRatings_0_4 {d : Nat} {x1 : Int32} {x2 : Int32} {m : dM} {Q : Int32 → dM → Prop} (h : (((m.1 2 1).toInt ≤ x2.toInt → Q x1 m) ∧ (x2.toInt < (m.1 2 1).toInt → c_X11_has d (m.1 47 3) x2 m (fun r1 m1 => ((r1.toInt = 0 → ((0 ≤ x2.toInt ∧ x2.toInt < 10) ∧ j_X11_wholeRatings_0_4 (d + 1) (x1 + (m1.1 48 x2.toNatClampNeg)) (x2 + (1 : Int32)) m1 Q)) ∧ (r1.toInt ≠ 0 → j_X11_wholeRatings_0_4 (d + 1) (x1 + (0 : Int32)) (x2 + (1 : Int32)) m1 Q)))))) : j_X11_wholeRatings_0_4 (d + 1) x1 x2 m Q := by
  refine w_iload_n (q := 5) hm282 ⟨⟨_, _, rfl⟩, rfl⟩ rfl ?_
  refine w_aload_n (q := 6) hm282 ⟨⟨_, _, rfl⟩, rfl⟩ rfl ?_
  refine w_getr (q := 9) hm282 ⟨⟨_, _, rfl⟩, rfl⟩ rfl ?_
  refine w_getf (q := 12) (v := (m.1 2 1)) hm282 ⟨⟨_, _, rfl⟩, rfl⟩ rfl rfl ?_
  refine w_icmp_ge (q := 15) (X := x2.toInt) (Y := (m.1 2 1).toInt) hm282 ⟨⟨_, _, rfl⟩, rfl⟩ rfl rfl (fun hc => ?_) (fun hc => ?_)
  · have h := h.1 hc
    refine w_iload_n (q := 52) hm282 ⟨⟨_, _, rfl⟩, rfl⟩ rfl ?_
    exact w_reti hm282 ⟨⟨_, _, rfl⟩, rfl⟩ rfl h
  · have h := h.2 hc
    refine w_iload_n (q := 16) hm282 ⟨⟨_, _, rfl⟩, rfl⟩ rfl ?_
    refine w_aload_n (q := 17) hm282 ⟨⟨_, _, rfl⟩, rfl⟩ rfl ?_
    refine w_getr (q := 20) hm282 ⟨⟨_, _, rfl⟩, rfl⟩ rfl ?_
    refine w_getf (q := 23) (v := (m.1 47 3)) hm282 ⟨⟨_, _, rfl⟩, rfl⟩ rfl rfl ?_
    refine w_iload_n (q := 24) hm282 ⟨⟨_, _, rfl⟩, rfl⟩ rfl ?_
    refine w_call (q := 27) (n := 0) (vs := [.inl (m.1 47 3), .inl x2]) (rest := [.inl x1]) (la := [oI (m.1 47 3), oI x2]) hm282 ⟨⟨_, _, rfl⟩, rfl⟩ rfl rfl rfl rfl hm283 rfl rfl (fun hz => absurd hz (by decide)) rfl (Wp.mono h ?_)
    rintro _ m1 ⟨r1, rfl, h⟩
    change Wp _ _ 27 _ [.inl r1, .inl x1] _ _
    refine w_if_eq (q := 30) (X := r1.toInt) hm282 ⟨⟨_, _, rfl⟩, rfl⟩ rfl (fun hc => ?_) (fun hc => ?_)
    · have h := h.1 hc
      refine w_aload_n (q := 35) hm282 ⟨⟨_, _, rfl⟩, rfl⟩ rfl ?_
      refine w_getr (q := 38) hm282 ⟨⟨_, _, rfl⟩, rfl⟩ rfl ?_
      refine w_getr (q := 41) hm282 ⟨⟨_, _, rfl⟩, rfl⟩ rfl ?_
      refine w_iload_n (q := 42) hm282 ⟨⟨_, _, rfl⟩, rfl⟩ rfl ?_
      obtain ⟨hi, h⟩ := h
      refine w_iald (q := 43) (v := (m1.1 48 x2.toNatClampNeg)) hm282 ⟨⟨_, _, rfl⟩, rfl⟩ rfl hi rfl rfl ?_
      refine w_iadd (q := 44) hm282 ⟨⟨_, _, rfl⟩, rfl⟩ ?_
      refine w_istore_n (q := 45) (l' := [oR 0, oI (x1 + (m1.1 48 x2.toNatClampNeg)), oI x2]) hm282 ⟨⟨_, _, rfl⟩, rfl⟩ rfl rfl rfl ?_
      refine w_iinc (q := 48) (l' := [oR 0, oI (x1 + (m1.1 48 x2.toNatClampNeg)), oI (x2 + (1 : Int32))]) hm282 ⟨⟨_, _, rfl⟩, rfl⟩ rfl rfl rfl iconst_1 rfl ?_
      refine w_goto (q := 4) hm282 ⟨_, _, rfl⟩ ?_
      exact h
    · have h := h.2 hc
      refine w_iconst (q := 31) hm282 ⟨⟨_, _, rfl⟩, rfl⟩ iconst_0 ?_
      refine w_goto (q := 43) hm282 ⟨_, _, rfl⟩ ?_
      refine w_iadd (q := 44) hm282 ⟨⟨_, _, rfl⟩, rfl⟩ ?_
      refine w_istore_n (q := 45) (l' := [oR 0, oI (x1 + (0 : Int32)), oI x2]) hm282 ⟨⟨_, _, rfl⟩, rfl⟩ rfl rfl rfl ?_
      refine w_iinc (q := 48) (l' := [oR 0, oI (x1 + (0 : Int32)), oI (x2 + (1 : Int32))]) hm282 ⟨⟨_, _, rfl⟩, rfl⟩ rfl rfl rfl iconst_1 rfl ?_
      refine w_goto (q := 4) hm282 ⟨_, _, rfl⟩ ?_
      exact h
theorem v_X11_count_0 {d : Nat} {x1 : Int32} {m : dM} {Q : Int32 → dM → Prop} (h : ((x1.toInt = 0 → Q (m.1 2 0) m) ∧ (x1.toInt = 1 → Q (m.1 2 1) m) ∧ (x1.toInt = 2 → Q (m.1 2 2) m) ∧ (x1.toInt = 3 → Q (m.1 47 0) m) ∧ (x1.toInt = 4 → Q (m.1 47 1) m) ∧ (x1.toInt = 5 → Q (m.1 47 2) m) ∧ (x1.toInt = 6 → Q (m.1 47 3) m) ∧ (x1.toInt = 7 → c_X3_litWithout_2 d (m.1 47 3) m (fun r1 m1 => Q r1 m1)) ∧ (x1.toInt = 8 → c_X0_usesNow_54_47 d m (fun r2 m2 => Q r2 m2)) ∧ (x1.toInt = 9 → Q (m.1 0 1) m) ∧ (x1.toInt = 10 → Q (m.1 51 3) m) ∧ (x1.toInt = 11 → Q (m.1 67 3) m) ∧ (x1.toInt = 12 → c_J6_bitCount d (m.1 51 4) m (fun r3 m3 => Q r3 m3)) ∧ (x1.toInt = 13 → c_X0_isSurge_54 d (m.1 2 6) (m.1 47 0) m (fun r4 m4 => ((r4.toInt = 0 → Q (0 : Int32) m4) ∧ (r4.toInt ≠ 0 → Q (1 : Int32) m4)))) ∧ (x1.toInt = 14 → Q (m.1 47 4) m) ∧ (x1.toInt = 15 → c_X11_wholeRatings_0 d m (fun r5 m5 => Q r5 m5)) ∧ (x1.toInt < 0 ∨ 15 < x1.toInt → Q (-1 : Int32) m))) : c_X11_count_0 (d + 1) x1 m Q := by
  refine w_iload_n (q := 1) hm281 ⟨⟨_, _, rfl⟩, rfl⟩ rfl ?_
  refine w_tsw (X := x1.toInt) hm281 ⟨_, _, rfl⟩ (by decide) (by decide) rfl ((And.intro (fun hc => ?_) (And.intro (fun hc => ?_) (And.intro (fun hc => ?_) (And.intro (fun hc => ?_) (And.intro (fun hc => ?_) (And.intro (fun hc => ?_) (And.intro (fun hc => ?_) (And.intro (fun hc => ?_) (And.intro (fun hc => ?_) (And.intro (fun hc => ?_) (And.intro (fun hc => ?_) (And.intro (fun hc => ?_) (And.intro (fun hc => ?_) (And.intro (fun hc => ?_) (And.intro (fun hc => ?_) (And.intro (fun hc => ?_) trivial))))))))))))))))) (fun hc => ?_)
  · have h := (h.1) hc
    change Wp _ _ 80 _ _ _ _
    refine w_aload_n (q := 81) hm281 ⟨⟨_, _, rfl⟩, rfl⟩ rfl ?_
    refine w_getr (q := 84) hm281 ⟨⟨_, _, rfl⟩, rfl⟩ rfl ?_
    refine w_getf (q := 87) (v := (m.1 2 0)) hm281 ⟨⟨_, _, rfl⟩, rfl⟩ rfl rfl ?_
    exact w_reti hm281 ⟨⟨_, _, rfl⟩, rfl⟩ rfl h
  · have h := (h.2.1) hc
    change Wp _ _ 88 _ _ _ _
    refine w_aload_n (q := 89) hm281 ⟨⟨_, _, rfl⟩, rfl⟩ rfl ?_
    refine w_getr (q := 92) hm281 ⟨⟨_, _, rfl⟩, rfl⟩ rfl ?_
    refine w_getf (q := 95) (v := (m.1 2 1)) hm281 ⟨⟨_, _, rfl⟩, rfl⟩ rfl rfl ?_
    exact w_reti hm281 ⟨⟨_, _, rfl⟩, rfl⟩ rfl h
  · have h := (h.2.2.1) hc
    change Wp _ _ 96 _ _ _ _
    refine w_aload_n (q := 97) hm281 ⟨⟨_, _, rfl⟩, rfl⟩ rfl ?_
    refine w_getr (q := 100) hm281 ⟨⟨_, _, rfl⟩, rfl⟩ rfl ?_
    refine w_getf (q := 103) (v := (m.1 2 2)) hm281 ⟨⟨_, _, rfl⟩, rfl⟩ rfl rfl ?_
    exact w_reti hm281 ⟨⟨_, _, rfl⟩, rfl⟩ rfl h
  · have h := (h.2.2.2.1) hc
    change Wp _ _ 104 _ _ _ _
    refine w_aload_n (q := 105) hm281 ⟨⟨_, _, rfl⟩, rfl⟩ rfl ?_
    refine w_getr (q := 108) hm281 ⟨⟨_, _, rfl⟩, rfl⟩ rfl ?_
    refine w_getf (q := 111) (v := (m.1 47 0)) hm281 ⟨⟨_, _, rfl⟩, rfl⟩ rfl rfl ?_
    exact w_reti hm281 ⟨⟨_, _, rfl⟩, rfl⟩ rfl h
  · have h := (h.2.2.2.2.1) hc
    change Wp _ _ 112 _ _ _ _
    refine w_aload_n (q := 113) hm281 ⟨⟨_, _, rfl⟩, rfl⟩ rfl ?_
    refine w_getr (q := 116) hm281 ⟨⟨_, _, rfl⟩, rfl⟩ rfl ?_
    refine w_getf (q := 119) (v := (m.1 47 1)) hm281 ⟨⟨_, _, rfl⟩, rfl⟩ rfl rfl ?_
    exact w_reti hm281 ⟨⟨_, _, rfl⟩, rfl⟩ rfl h
  · have h := (h.2.2.2.2.2.1) hc
    change Wp _ _ 120 _ _ _ _
    refine w_aload_n (q := 121) hm281 ⟨⟨_, _, rfl⟩, rfl⟩ rfl ?_
    refine w_getr (q := 124) hm281 ⟨⟨_, _, rfl⟩, rfl⟩ rfl ?_
    refine w_getf (q := 127) (v := (m.1 47 2)) hm281 ⟨⟨_, _, rfl⟩, rfl⟩ rfl rfl ?_
    exact w_reti hm281 ⟨⟨_, _, rfl⟩, rfl⟩ rfl h
  · have h := (h.2.2.2.2.2.2.1) hc
    change Wp _ _ 128 _ _ _ _
    refine w_aload_n (q := 129) hm281 ⟨⟨_, _, rfl⟩, rfl⟩ rfl ?_
    refine w_getr (q := 132) hm281 ⟨⟨_, _, rfl⟩, rfl⟩ rfl ?_
    refine w_getf (q := 135) (v := (m.1 47 3)) hm281 ⟨⟨_, _, rfl⟩, rfl⟩ rfl rfl ?_
    exact w_reti hm281 ⟨⟨_, _, rfl⟩, rfl⟩ rfl h
  · have h := (h.2.2.2.2.2.2.2.1) hc
    change Wp _ _ 136 _ _ _ _
    refine w_aload_n (q := 137) hm281 ⟨⟨_, _, rfl⟩, rfl⟩ rfl ?_
    refine w_getr (q := 140) hm281 ⟨⟨_, _, rfl⟩, rfl⟩ rfl ?_
    refine w_aload_n (q := 141) hm281 ⟨⟨_, _, rfl⟩, rfl⟩ rfl ?_
    refine w_getr (q := 144) hm281 ⟨⟨_, _, rfl⟩, rfl⟩ rfl ?_
    refine w_getf (q := 147) (v := (m.1 47 3)) hm281 ⟨⟨_, _, rfl⟩, rfl⟩ rfl rfl ?_
    refine w_call (q := 150) (n := 5) (vs := [.inr (.inr (some 2)), .inl (m.1 47 3)]) (rest := []) (la := [oR 2, oI (m.1 47 3), none, none, none, none, none]) hm281 ⟨⟨_, _, rfl⟩, rfl⟩ rfl rfl rfl rfl hm174 rfl rfl (fun _ => ⟨_, _, rfl, rfl⟩) rfl (Wp.mono h ?_)
    rintro _ m1 ⟨r1, rfl, h⟩
    change Wp _ _ 150 _ [.inl r1] _ _
    exact w_reti hm281 ⟨⟨_, _, rfl⟩, rfl⟩ rfl h
  · have h := (h.2.2.2.2.2.2.2.2.1) hc
    change Wp _ _ 151 _ _ _ _
    refine w_aload_n (q := 152) hm281 ⟨⟨_, _, rfl⟩, rfl⟩ rfl ?_
    refine w_getr (q := 155) hm281 ⟨⟨_, _, rfl⟩, rfl⟩ rfl ?_
    refine w_aload_n (q := 156) hm281 ⟨⟨_, _, rfl⟩, rfl⟩ rfl ?_
    refine w_getr (q := 159) hm281 ⟨⟨_, _, rfl⟩, rfl⟩ rfl ?_
    refine w_call (q := 162) (n := 0) (vs := [.inr (.inr (some 54)), .inr (.inr (some 47))]) (rest := []) (la := [oR 54, oR 47]) hm281 ⟨⟨_, _, rfl⟩, rfl⟩ rfl rfl rfl rfl hm117 rfl rfl (fun _ => ⟨_, _, rfl, rfl⟩) rfl (Wp.mono h ?_)
    rintro _ m2 ⟨r2, rfl, h⟩
    change Wp _ _ 162 _ [.inl r2] _ _
    exact w_reti hm281 ⟨⟨_, _, rfl⟩, rfl⟩ rfl h
  · have h := (h.2.2.2.2.2.2.2.2.2.1) hc
    change Wp _ _ 163 _ _ _ _
    refine w_aload_n (q := 164) hm281 ⟨⟨_, _, rfl⟩, rfl⟩ rfl ?_
    refine w_getf (q := 167) (v := (m.1 0 1)) hm281 ⟨⟨_, _, rfl⟩, rfl⟩ rfl rfl ?_
    exact w_reti hm281 ⟨⟨_, _, rfl⟩, rfl⟩ rfl h
  · have h := (h.2.2.2.2.2.2.2.2.2.2.1) hc
    change Wp _ _ 168 _ _ _ _
    refine w_aload_n (q := 169) hm281 ⟨⟨_, _, rfl⟩, rfl⟩ rfl ?_
    refine w_getr (q := 172) hm281 ⟨⟨_, _, rfl⟩, rfl⟩ rfl ?_
    refine w_getf (q := 175) (v := (m.1 51 3)) hm281 ⟨⟨_, _, rfl⟩, rfl⟩ rfl rfl ?_
    exact w_reti hm281 ⟨⟨_, _, rfl⟩, rfl⟩ rfl h
  · have h := (h.2.2.2.2.2.2.2.2.2.2.2.1) hc
    change Wp _ _ 176 _ _ _ _
    refine w_aload_n (q := 177) hm281 ⟨⟨_, _, rfl⟩, rfl⟩ rfl ?_
    refine w_getr (q := 180) hm281 ⟨⟨_, _, rfl⟩, rfl⟩ rfl ?_
    refine w_getf (q := 183) (v := (m.1 67 3)) hm281 ⟨⟨_, _, rfl⟩, rfl⟩ rfl rfl ?_
    exact w_reti hm281 ⟨⟨_, _, rfl⟩, rfl⟩ rfl h
  · have h := (h.2.2.2.2.2.2.2.2.2.2.2.2.1) hc
    change Wp _ _ 184 _ _ _ _
    refine w_aload_n (q := 185) hm281 ⟨⟨_, _, rfl⟩, rfl⟩ rfl ?_
    refine w_getr (q := 188) hm281 ⟨⟨_, _, rfl⟩, rfl⟩ rfl ?_
    refine w_getf (q := 191) (v := (m.1 51 4)) hm281 ⟨⟨_, _, rfl⟩, rfl⟩ rfl rfl ?_
    refine w_call (q := 194) (n := 0) (vs := [.inl (m.1 51 4)]) (rest := []) (la := [oI (m.1 51 4)]) hm281 ⟨⟨_, _, rfl⟩, rfl⟩ rfl rfl rfl rfl hm285 rfl rfl (fun hz => absurd hz (by decide)) rfl (Wp.mono h ?_)
    rintro _ m3 ⟨r3, rfl, h⟩
    change Wp _ _ 194 _ [.inl r3] _ _
    exact w_reti hm281 ⟨⟨_, _, rfl⟩, rfl⟩ rfl h
  · have h := (h.2.2.2.2.2.2.2.2.2.2.2.2.2.1) hc
    change Wp _ _ 195 _ _ _ _
    refine w_aload_n (q := 196) hm281 ⟨⟨_, _, rfl⟩, rfl⟩ rfl ?_
    refine w_getr (q := 199) hm281 ⟨⟨_, _, rfl⟩, rfl⟩ rfl ?_
    refine w_aload_n (q := 200) hm281 ⟨⟨_, _, rfl⟩, rfl⟩ rfl ?_
    refine w_getr (q := 203) hm281 ⟨⟨_, _, rfl⟩, rfl⟩ rfl ?_
    refine w_getf (q := 206) (v := (m.1 2 6)) hm281 ⟨⟨_, _, rfl⟩, rfl⟩ rfl rfl ?_
    refine w_aload_n (q := 207) hm281 ⟨⟨_, _, rfl⟩, rfl⟩ rfl ?_
    refine w_getr (q := 210) hm281 ⟨⟨_, _, rfl⟩, rfl⟩ rfl ?_
    refine w_getf (q := 213) (v := (m.1 47 0)) hm281 ⟨⟨_, _, rfl⟩, rfl⟩ rfl rfl ?_
    refine w_call (q := 216) (n := 0) (vs := [.inr (.inr (some 54)), .inl (m.1 2 6), .inl (m.1 47 0)]) (rest := []) (la := [oR 54, oI (m.1 2 6), oI (m.1 47 0)]) hm281 ⟨⟨_, _, rfl⟩, rfl⟩ rfl rfl rfl rfl hm130 rfl rfl (fun _ => ⟨_, _, rfl, rfl⟩) rfl (Wp.mono h ?_)
    rintro _ m4 ⟨r4, rfl, h⟩
    change Wp _ _ 216 _ [.inl r4] _ _
    refine w_if_eq (q := 219) (X := r4.toInt) hm281 ⟨⟨_, _, rfl⟩, rfl⟩ rfl (fun hc => ?_) (fun hc => ?_)
    · have h := h.1 hc
      refine w_iconst (q := 224) hm281 ⟨⟨_, _, rfl⟩, rfl⟩ iconst_0 ?_
      exact w_reti hm281 ⟨⟨_, _, rfl⟩, rfl⟩ rfl h
    · have h := h.2 hc
      refine w_iconst (q := 220) hm281 ⟨⟨_, _, rfl⟩, rfl⟩ iconst_1 ?_
      refine w_goto (q := 224) hm281 ⟨_, _, rfl⟩ ?_
      exact w_reti hm281 ⟨⟨_, _, rfl⟩, rfl⟩ rfl h
  · have h := (h.2.2.2.2.2.2.2.2.2.2.2.2.2.2.1) hc
    change Wp _ _ 225 _ _ _ _
    refine w_aload_n (q := 226) hm281 ⟨⟨_, _, rfl⟩, rfl⟩ rfl ?_
    refine w_getr (q := 229) hm281 ⟨⟨_, _, rfl⟩, rfl⟩ rfl ?_
    refine w_getf (q := 232) (v := (m.1 47 4)) hm281 ⟨⟨_, _, rfl⟩, rfl⟩ rfl rfl ?_
    exact w_reti hm281 ⟨⟨_, _, rfl⟩, rfl⟩ rfl h
  · have h := (h.2.2.2.2.2.2.2.2.2.2.2.2.2.2.2.1) hc
    change Wp _ _ 233 _ _ _ _
    refine w_aload_n (q := 234) hm281 ⟨⟨_, _, rfl⟩, rfl⟩ rfl ?_
    refine w_call (q := 237) (n := 2) (vs := [.inr (.inr (some 0))]) (rest := []) (la := [oR 0, none, none]) hm281 ⟨⟨_, _, rfl⟩, rfl⟩ rfl rfl rfl rfl hm282 rfl rfl (fun _ => ⟨_, _, rfl, rfl⟩) rfl (Wp.mono h ?_)
    rintro _ m5 ⟨r5, rfl, h⟩
    change Wp _ _ 237 _ [.inl r5] _ _
    exact w_reti hm281 ⟨⟨_, _, rfl⟩, rfl⟩ rfl h
  · have h := (h.2.2.2.2.2.2.2.2.2.2.2.2.2.2.2.2) hc
    change Wp _ _ 238 _ _ _ _
    refine w_iconst (q := 239) hm281 ⟨⟨_, _, rfl⟩, rfl⟩ iconst_m1 ?_
    exact w_reti hm281 ⟨⟨_, _, rfl⟩, rfl⟩ rfl h
theorem v_X12_count_70 {d : Nat} {x1 : Int32} {m : dM} {Q : Int32 → dM → Prop} (h : c_X12_copies_70 d m (fun m1 => ((x1.toInt = 0 → ((0 ≤ (m1.1 70 18).toInt ∧ (m1.1 70 18).toInt < 2) ∧ Q (m1.1 80 (m1.1 70 18).toNatClampNeg) m1)) ∧ (x1.toInt = 1 → ((0 ≤ (m1.1 70 18).toInt ∧ (m1.1 70 18).toInt < 2) ∧ Q (m1.1 82 (m1.1 70 18).toNatClampNeg) m1)) ∧ (x1.toInt = 2 → ((0 ≤ (m1.1 70 18).toInt ∧ (m1.1 70 18).toInt < 2) ∧ Q (m1.1 86 (m1.1 70 18).toNatClampNeg) m1)) ∧ (x1.toInt = 3 → Q (m1.1 108 55) m1) ∧ (x1.toInt = 4 → Q (m1.1 108 56) m1) ∧ (x1.toInt = 5 → Q (m1.1 108 57) m1) ∧ (x1.toInt = 6 → c_X12_goneBits_70 d m1 (fun r2 m2 => Q r2 m2)) ∧ (x1.toInt = 7 → c_X12_litBits_70 d m1 (fun r3 m3 => Q r3 m3)) ∧ (x1.toInt = 8 → c_X12_onNow_70 d m1 (fun r4 m4 => Q r4 m4)) ∧ (x1.toInt = 9 → Q (m1.1 70 2) m1) ∧ (x1.toInt = 10 → Q (m1.1 70 61) m1) ∧ (x1.toInt = 11 → Q (m1.1 70 63) m1) ∧ (x1.toInt = 12 → (((m1.1 115 0).toInt = 0 → (((m1.1 115 1).toInt = 0 → (((m1.1 115 2).toInt = 0 → Q (((0 : Int32) + (0 : Int32)) + (0 : Int32)) m1) ∧ ((m1.1 115 2).toInt ≠ 0 → Q (((0 : Int32) + (0 : Int32)) + (1 : Int32)) m1))) ∧ ((m1.1 115 1).toInt ≠ 0 → (((m1.1 115 2).toInt = 0 → Q (((0 : Int32) + (1 : Int32)) + (0 : Int32)) m1) ∧ ((m1.1 115 2).toInt ≠ 0 → Q (((0 : Int32) + (1 : Int32)) + (1 : Int32)) m1))))) ∧ ((m1.1 115 0).toInt ≠ 0 → (((m1.1 115 1).toInt = 0 → (((m1.1 115 2).toInt = 0 → Q (((1 : Int32) + (0 : Int32)) + (0 : Int32)) m1) ∧ ((m1.1 115 2).toInt ≠ 0 → Q (((1 : Int32) + (0 : Int32)) + (1 : Int32)) m1))) ∧ ((m1.1 115 1).toInt ≠ 0 → (((m1.1 115 2).toInt = 0 → Q (((1 : Int32) + (1 : Int32)) + (0 : Int32)) m1) ∧ ((m1.1 115 2).toInt ≠ 0 → Q (((1 : Int32) + (1 : Int32)) + (1 : Int32)) m1))))))) ∧ (x1.toInt = 13 → c_X12_isSurge_70 d m1 (fun r5 m5 => ((r5.toInt = 0 → Q (0 : Int32) m5) ∧ (r5.toInt ≠ 0 → Q (1 : Int32) m5)))) ∧ (x1.toInt = 14 → j_X12_count_70_228 (d + 1) (0 : Int32) (0 : Int32) m1 Q) ∧ (x1.toInt = 15 → j_X12_count_70_265 (d + 1) (0 : Int32) (0 : Int32) m1 Q) ∧ (x1.toInt < 0 ∨ 15 < x1.toInt → Q (-1 : Int32) m1)))) : c_X12_count_70 (d + 1) x1 m Q := by
  refine w_aload_n (q := 1) hm113 ⟨⟨_, _, rfl⟩, rfl⟩ rfl ?_
  refine w_call (q := 4) (n := 1) (vs := [.inr (.inr (some 70))]) (rest := []) (la := [oR 70, none]) hm113 ⟨⟨_, _, rfl⟩, rfl⟩ rfl rfl rfl rfl hm44 rfl rfl (fun _ => ⟨_, _, rfl, rfl⟩) rfl (Wp.mono h ?_)
  rintro _ m1 ⟨rfl, h⟩
  change Wp _ _ 4 _ [] _ _
  refine w_iconst (q := 5) hm113 ⟨⟨_, _, rfl⟩, rfl⟩ iconst_0 ?_
  refine w_istore_n (q := 6) (l' := [oR 70, oI x1, oI (0 : Int32), none]) hm113 ⟨⟨_, _, rfl⟩, rfl⟩ rfl rfl rfl ?_
  refine w_iload_n (q := 7) hm113 ⟨⟨_, _, rfl⟩, rfl⟩ rfl ?_
  refine w_tsw (X := x1.toInt) hm113 ⟨_, _, rfl⟩ (by decide) (by decide) rfl ((And.intro (fun hc => ?_) (And.intro (fun hc => ?_) (And.intro (fun hc => ?_) (And.intro (fun hc => ?_) (And.intro (fun hc => ?_) (And.intro (fun hc => ?_) (And.intro (fun hc => ?_) (And.intro (fun hc => ?_) (And.intro (fun hc => ?_) (And.intro (fun hc => ?_) (And.intro (fun hc => ?_) (And.intro (fun hc => ?_) (And.intro (fun hc => ?_) (And.intro (fun hc => ?_) (And.intro (fun hc => ?_) (And.intro (fun hc => ?_) trivial))))))))))))))))) (fun hc => ?_)
  · have h := (h.1) hc
    change Wp _ _ 84 _ _ _ _
    refine w_aload_n (q := 85) hm113 ⟨⟨_, _, rfl⟩, rfl⟩ rfl ?_
    refine w_getr (q := 88) hm113 ⟨⟨_, _, rfl⟩, rfl⟩ rfl ?_
    refine w_aload_n (q := 89) hm113 ⟨⟨_, _, rfl⟩, rfl⟩ rfl ?_
    refine w_getf (q := 92) (v := (m1.1 70 18)) hm113 ⟨⟨_, _, rfl⟩, rfl⟩ rfl rfl ?_
    obtain ⟨hi, h⟩ := h
    refine w_iald (q := 93) (v := (m1.1 80 (m1.1 70 18).toNatClampNeg)) hm113 ⟨⟨_, _, rfl⟩, rfl⟩ rfl hi rfl rfl ?_
    exact w_reti hm113 ⟨⟨_, _, rfl⟩, rfl⟩ rfl h
  · have h := (h.2.1) hc
    change Wp _ _ 94 _ _ _ _
    refine w_aload_n (q := 95) hm113 ⟨⟨_, _, rfl⟩, rfl⟩ rfl ?_
    refine w_getr (q := 98) hm113 ⟨⟨_, _, rfl⟩, rfl⟩ rfl ?_
    refine w_aload_n (q := 99) hm113 ⟨⟨_, _, rfl⟩, rfl⟩ rfl ?_
    refine w_getf (q := 102) (v := (m1.1 70 18)) hm113 ⟨⟨_, _, rfl⟩, rfl⟩ rfl rfl ?_
    obtain ⟨hi, h⟩ := h
    refine w_iald (q := 103) (v := (m1.1 82 (m1.1 70 18).toNatClampNeg)) hm113 ⟨⟨_, _, rfl⟩, rfl⟩ rfl hi rfl rfl ?_
    exact w_reti hm113 ⟨⟨_, _, rfl⟩, rfl⟩ rfl h
  · have h := (h.2.2.1) hc
    change Wp _ _ 104 _ _ _ _
    refine w_aload_n (q := 105) hm113 ⟨⟨_, _, rfl⟩, rfl⟩ rfl ?_
    refine w_getr (q := 108) hm113 ⟨⟨_, _, rfl⟩, rfl⟩ rfl ?_
    refine w_aload_n (q := 109) hm113 ⟨⟨_, _, rfl⟩, rfl⟩ rfl ?_
    refine w_getf (q := 112) (v := (m1.1 70 18)) hm113 ⟨⟨_, _, rfl⟩, rfl⟩ rfl rfl ?_
    obtain ⟨hi, h⟩ := h
    refine w_iald (q := 113) (v := (m1.1 86 (m1.1 70 18).toNatClampNeg)) hm113 ⟨⟨_, _, rfl⟩, rfl⟩ rfl hi rfl rfl ?_
    exact w_reti hm113 ⟨⟨_, _, rfl⟩, rfl⟩ rfl h
  · have h := (h.2.2.2.1) hc
    change Wp _ _ 114 _ _ _ _
    refine w_aload_n (q := 115) hm113 ⟨⟨_, _, rfl⟩, rfl⟩ rfl ?_
    refine w_getr (q := 118) hm113 ⟨⟨_, _, rfl⟩, rfl⟩ rfl ?_
    refine w_bipush (q := 120) hm113 ⟨⟨_, _, rfl⟩, rfl⟩ bipush_55 ?_
    refine w_iald (q := 121) (j := 55) (v := (m1.1 108 55)) hm113 ⟨⟨_, _, rfl⟩, rfl⟩ rfl (by decide) (by decide) rfl ?_
    exact w_reti hm113 ⟨⟨_, _, rfl⟩, rfl⟩ rfl h
  · have h := (h.2.2.2.2.1) hc
    change Wp _ _ 122 _ _ _ _
    refine w_aload_n (q := 123) hm113 ⟨⟨_, _, rfl⟩, rfl⟩ rfl ?_
    refine w_getr (q := 126) hm113 ⟨⟨_, _, rfl⟩, rfl⟩ rfl ?_
    refine w_bipush (q := 128) hm113 ⟨⟨_, _, rfl⟩, rfl⟩ bipush_56 ?_
    refine w_iald (q := 129) (j := 56) (v := (m1.1 108 56)) hm113 ⟨⟨_, _, rfl⟩, rfl⟩ rfl (by decide) (by decide) rfl ?_
    exact w_reti hm113 ⟨⟨_, _, rfl⟩, rfl⟩ rfl h
  · have h := (h.2.2.2.2.2.1) hc
    change Wp _ _ 130 _ _ _ _
    refine w_aload_n (q := 131) hm113 ⟨⟨_, _, rfl⟩, rfl⟩ rfl ?_
    refine w_getr (q := 134) hm113 ⟨⟨_, _, rfl⟩, rfl⟩ rfl ?_
    refine w_bipush (q := 136) hm113 ⟨⟨_, _, rfl⟩, rfl⟩ bipush_57 ?_
    refine w_iald (q := 137) (j := 57) (v := (m1.1 108 57)) hm113 ⟨⟨_, _, rfl⟩, rfl⟩ rfl (by decide) (by decide) rfl ?_
    exact w_reti hm113 ⟨⟨_, _, rfl⟩, rfl⟩ rfl h
  · have h := (h.2.2.2.2.2.2.1) hc
    change Wp _ _ 138 _ _ _ _
    refine w_aload_n (q := 139) hm113 ⟨⟨_, _, rfl⟩, rfl⟩ rfl ?_
    refine w_call (q := 142) (n := 2) (vs := [.inr (.inr (some 70))]) (rest := []) (la := [oR 70, none, none]) hm113 ⟨⟨_, _, rfl⟩, rfl⟩ rfl rfl rfl rfl hm93 rfl rfl (fun _ => ⟨_, _, rfl, rfl⟩) rfl (Wp.mono h ?_)
    rintro _ m2 ⟨r2, rfl, h⟩
    change Wp _ _ 142 _ [.inl r2] _ _
    exact w_reti hm113 ⟨⟨_, _, rfl⟩, rfl⟩ rfl h
  · have h := (h.2.2.2.2.2.2.2.1) hc
    change Wp _ _ 143 _ _ _ _
    refine w_aload_n (q := 144) hm113 ⟨⟨_, _, rfl⟩, rfl⟩ rfl ?_
    refine w_call (q := 147) (n := 2) (vs := [.inr (.inr (some 70))]) (rest := []) (la := [oR 70, none, none]) hm113 ⟨⟨_, _, rfl⟩, rfl⟩ rfl rfl rfl rfl hm52 rfl rfl (fun _ => ⟨_, _, rfl, rfl⟩) rfl (Wp.mono h ?_)
    rintro _ m3 ⟨r3, rfl, h⟩
    change Wp _ _ 147 _ [.inl r3] _ _
    exact w_reti hm113 ⟨⟨_, _, rfl⟩, rfl⟩ rfl h
  · have h := (h.2.2.2.2.2.2.2.2.1) hc
    change Wp _ _ 148 _ _ _ _
    refine w_aload_n (q := 149) hm113 ⟨⟨_, _, rfl⟩, rfl⟩ rfl ?_
    refine w_call (q := 152) (n := 0) (vs := [.inr (.inr (some 70))]) (rest := []) (la := [oR 70]) hm113 ⟨⟨_, _, rfl⟩, rfl⟩ rfl rfl rfl rfl hm56 rfl rfl (fun _ => ⟨_, _, rfl, rfl⟩) rfl (Wp.mono h ?_)
    rintro _ m4 ⟨r4, rfl, h⟩
    change Wp _ _ 152 _ [.inl r4] _ _
    exact w_reti hm113 ⟨⟨_, _, rfl⟩, rfl⟩ rfl h
  · have h := (h.2.2.2.2.2.2.2.2.2.1) hc
    change Wp _ _ 153 _ _ _ _
    refine w_aload_n (q := 154) hm113 ⟨⟨_, _, rfl⟩, rfl⟩ rfl ?_
    refine w_getf (q := 157) (v := (m1.1 70 2)) hm113 ⟨⟨_, _, rfl⟩, rfl⟩ rfl rfl ?_
    exact w_reti hm113 ⟨⟨_, _, rfl⟩, rfl⟩ rfl h
  · have h := (h.2.2.2.2.2.2.2.2.2.2.1) hc
    change Wp _ _ 158 _ _ _ _
    refine w_aload_n (q := 159) hm113 ⟨⟨_, _, rfl⟩, rfl⟩ rfl ?_
    refine w_getf (q := 162) (v := (m1.1 70 61)) hm113 ⟨⟨_, _, rfl⟩, rfl⟩ rfl rfl ?_
    exact w_reti hm113 ⟨⟨_, _, rfl⟩, rfl⟩ rfl h
  · have h := (h.2.2.2.2.2.2.2.2.2.2.2.1) hc
    change Wp _ _ 163 _ _ _ _
    refine w_aload_n (q := 164) hm113 ⟨⟨_, _, rfl⟩, rfl⟩ rfl ?_
    refine w_getf (q := 167) (v := (m1.1 70 63)) hm113 ⟨⟨_, _, rfl⟩, rfl⟩ rfl rfl ?_
    exact w_reti hm113 ⟨⟨_, _, rfl⟩, rfl⟩ rfl h
  · have h := (h.2.2.2.2.2.2.2.2.2.2.2.2.1) hc
    change Wp _ _ 168 _ _ _ _
    refine w_aload_n (q := 169) hm113 ⟨⟨_, _, rfl⟩, rfl⟩ rfl ?_
    refine w_getr (q := 172) hm113 ⟨⟨_, _, rfl⟩, rfl⟩ rfl ?_
    refine w_iconst (q := 173) hm113 ⟨⟨_, _, rfl⟩, rfl⟩ iconst_0 ?_
    refine w_zald (q := 174) (j := 0) (v := (m1.1 115 0)) hm113 ⟨⟨_, _, rfl⟩, rfl⟩ rfl (by decide) (by decide) rfl ?_
    refine w_if_eq (q := 177) (X := (m1.1 115 0).toInt) hm113 ⟨⟨_, _, rfl⟩, rfl⟩ rfl (fun hc => ?_) (fun hc => ?_)
    · have h := h.1 hc
      refine w_iconst (q := 182) hm113 ⟨⟨_, _, rfl⟩, rfl⟩ iconst_0 ?_
      refine w_aload_n (q := 183) hm113 ⟨⟨_, _, rfl⟩, rfl⟩ rfl ?_
      refine w_getr (q := 186) hm113 ⟨⟨_, _, rfl⟩, rfl⟩ rfl ?_
      refine w_iconst (q := 187) hm113 ⟨⟨_, _, rfl⟩, rfl⟩ iconst_1 ?_
      refine w_zald (q := 188) (j := 1) (v := (m1.1 115 1)) hm113 ⟨⟨_, _, rfl⟩, rfl⟩ rfl (by decide) (by decide) rfl ?_
      refine w_if_eq (q := 191) (X := (m1.1 115 1).toInt) hm113 ⟨⟨_, _, rfl⟩, rfl⟩ rfl (fun hc => ?_) (fun hc => ?_)
      · have h := h.1 hc
        refine w_iconst (q := 196) hm113 ⟨⟨_, _, rfl⟩, rfl⟩ iconst_0 ?_
        refine w_iadd (q := 197) hm113 ⟨⟨_, _, rfl⟩, rfl⟩ ?_
        refine w_aload_n (q := 198) hm113 ⟨⟨_, _, rfl⟩, rfl⟩ rfl ?_
        refine w_getr (q := 201) hm113 ⟨⟨_, _, rfl⟩, rfl⟩ rfl ?_
        refine w_iconst (q := 202) hm113 ⟨⟨_, _, rfl⟩, rfl⟩ iconst_2 ?_
        refine w_zald (q := 203) (j := 2) (v := (m1.1 115 2)) hm113 ⟨⟨_, _, rfl⟩, rfl⟩ rfl (by decide) (by decide) rfl ?_
        refine w_if_eq (q := 206) (X := (m1.1 115 2).toInt) hm113 ⟨⟨_, _, rfl⟩, rfl⟩ rfl (fun hc => ?_) (fun hc => ?_)
        · have h := h.1 hc
          refine w_iconst (q := 211) hm113 ⟨⟨_, _, rfl⟩, rfl⟩ iconst_0 ?_
          refine w_iadd (q := 212) hm113 ⟨⟨_, _, rfl⟩, rfl⟩ ?_
          exact w_reti hm113 ⟨⟨_, _, rfl⟩, rfl⟩ rfl h
        · have h := h.2 hc
          refine w_iconst (q := 207) hm113 ⟨⟨_, _, rfl⟩, rfl⟩ iconst_1 ?_
          refine w_goto (q := 211) hm113 ⟨_, _, rfl⟩ ?_
          refine w_iadd (q := 212) hm113 ⟨⟨_, _, rfl⟩, rfl⟩ ?_
          exact w_reti hm113 ⟨⟨_, _, rfl⟩, rfl⟩ rfl h
      · have h := h.2 hc
        refine w_iconst (q := 192) hm113 ⟨⟨_, _, rfl⟩, rfl⟩ iconst_1 ?_
        refine w_goto (q := 196) hm113 ⟨_, _, rfl⟩ ?_
        refine w_iadd (q := 197) hm113 ⟨⟨_, _, rfl⟩, rfl⟩ ?_
        refine w_aload_n (q := 198) hm113 ⟨⟨_, _, rfl⟩, rfl⟩ rfl ?_
        refine w_getr (q := 201) hm113 ⟨⟨_, _, rfl⟩, rfl⟩ rfl ?_
        refine w_iconst (q := 202) hm113 ⟨⟨_, _, rfl⟩, rfl⟩ iconst_2 ?_
        refine w_zald (q := 203) (j := 2) (v := (m1.1 115 2)) hm113 ⟨⟨_, _, rfl⟩, rfl⟩ rfl (by decide) (by decide) rfl ?_
        refine w_if_eq (q := 206) (X := (m1.1 115 2).toInt) hm113 ⟨⟨_, _, rfl⟩, rfl⟩ rfl (fun hc => ?_) (fun hc => ?_)
        · have h := h.1 hc
          refine w_iconst (q := 211) hm113 ⟨⟨_, _, rfl⟩, rfl⟩ iconst_0 ?_
          refine w_iadd (q := 212) hm113 ⟨⟨_, _, rfl⟩, rfl⟩ ?_
          exact w_reti hm113 ⟨⟨_, _, rfl⟩, rfl⟩ rfl h
        · have h := h.2 hc
          refine w_iconst (q := 207) hm113 ⟨⟨_, _, rfl⟩, rfl⟩ iconst_1 ?_
          refine w_goto (q := 211) hm113 ⟨_, _, rfl⟩ ?_
          refine w_iadd (q := 212) hm113 ⟨⟨_, _, rfl⟩, rfl⟩ ?_
          exact w_reti hm113 ⟨⟨_, _, rfl⟩, rfl⟩ rfl h
    · have h := h.2 hc
      refine w_iconst (q := 178) hm113 ⟨⟨_, _, rfl⟩, rfl⟩ iconst_1 ?_
      refine w_goto (q := 182) hm113 ⟨_, _, rfl⟩ ?_
      refine w_aload_n (q := 183) hm113 ⟨⟨_, _, rfl⟩, rfl⟩ rfl ?_
      refine w_getr (q := 186) hm113 ⟨⟨_, _, rfl⟩, rfl⟩ rfl ?_
      refine w_iconst (q := 187) hm113 ⟨⟨_, _, rfl⟩, rfl⟩ iconst_1 ?_
      refine w_zald (q := 188) (j := 1) (v := (m1.1 115 1)) hm113 ⟨⟨_, _, rfl⟩, rfl⟩ rfl (by decide) (by decide) rfl ?_
      refine w_if_eq (q := 191) (X := (m1.1 115 1).toInt) hm113 ⟨⟨_, _, rfl⟩, rfl⟩ rfl (fun hc => ?_) (fun hc => ?_)
      · have h := h.1 hc
        refine w_iconst (q := 196) hm113 ⟨⟨_, _, rfl⟩, rfl⟩ iconst_0 ?_
        refine w_iadd (q := 197) hm113 ⟨⟨_, _, rfl⟩, rfl⟩ ?_
        refine w_aload_n (q := 198) hm113 ⟨⟨_, _, rfl⟩, rfl⟩ rfl ?_
        refine w_getr (q := 201) hm113 ⟨⟨_, _, rfl⟩, rfl⟩ rfl ?_
        refine w_iconst (q := 202) hm113 ⟨⟨_, _, rfl⟩, rfl⟩ iconst_2 ?_
        refine w_zald (q := 203) (j := 2) (v := (m1.1 115 2)) hm113 ⟨⟨_, _, rfl⟩, rfl⟩ rfl (by decide) (by decide) rfl ?_
        refine w_if_eq (q := 206) (X := (m1.1 115 2).toInt) hm113 ⟨⟨_, _, rfl⟩, rfl⟩ rfl (fun hc => ?_) (fun hc => ?_)
        · have h := h.1 hc
          refine w_iconst (q := 211) hm113 ⟨⟨_, _, rfl⟩, rfl⟩ iconst_0 ?_
          refine w_iadd (q := 212) hm113 ⟨⟨_, _, rfl⟩, rfl⟩ ?_
          exact w_reti hm113 ⟨⟨_, _, rfl⟩, rfl⟩ rfl h
        · have h := h.2 hc
          refine w_iconst (q := 207) hm113 ⟨⟨_, _, rfl⟩, rfl⟩ iconst_1 ?_
          refine w_goto (q := 211) hm113 ⟨_, _, rfl⟩ ?_
          refine w_iadd (q := 212) hm113 ⟨⟨_, _, rfl⟩, rfl⟩ ?_
          exact w_reti hm113 ⟨⟨_, _, rfl⟩, rfl⟩ rfl h
      · have h := h.2 hc
        refine w_iconst (q := 192) hm113 ⟨⟨_, _, rfl⟩, rfl⟩ iconst_1 ?_
        refine w_goto (q := 196) hm113 ⟨_, _, rfl⟩ ?_
        refine w_iadd (q := 197) hm113 ⟨⟨_, _, rfl⟩, rfl⟩ ?_
        refine w_aload_n (q := 198) hm113 ⟨⟨_, _, rfl⟩, rfl⟩ rfl ?_
        refine w_getr (q := 201) hm113 ⟨⟨_, _, rfl⟩, rfl⟩ rfl ?_
        refine w_iconst (q := 202) hm113 ⟨⟨_, _, rfl⟩, rfl⟩ iconst_2 ?_
        refine w_zald (q := 203) (j := 2) (v := (m1.1 115 2)) hm113 ⟨⟨_, _, rfl⟩, rfl⟩ rfl (by decide) (by decide) rfl ?_
        refine w_if_eq (q := 206) (X := (m1.1 115 2).toInt) hm113 ⟨⟨_, _, rfl⟩, rfl⟩ rfl (fun hc => ?_) (fun hc => ?_)
        · have h := h.1 hc
          refine w_iconst (q := 211) hm113 ⟨⟨_, _, rfl⟩, rfl⟩ iconst_0 ?_
          refine w_iadd (q := 212) hm113 ⟨⟨_, _, rfl⟩, rfl⟩ ?_
          exact w_reti hm113 ⟨⟨_, _, rfl⟩, rfl⟩ rfl h
        · have h := h.2 hc
          refine w_iconst (q := 207) hm113 ⟨⟨_, _, rfl⟩, rfl⟩ iconst_1 ?_
          refine w_goto (q := 211) hm113 ⟨_, _, rfl⟩ ?_
          refine w_iadd (q := 212) hm113 ⟨⟨_, _, rfl⟩, rfl⟩ ?_
          exact w_reti hm113 ⟨⟨_, _, rfl⟩, rfl⟩ rfl h
  · have h := (h.2.2.2.2.2.2.2.2.2.2.2.2.2.1) hc
    change Wp _ _ 213 _ _ _ _
    refine w_aload_n (q := 214) hm113 ⟨⟨_, _, rfl⟩, rfl⟩ rfl ?_
    refine w_call (q := 217) (n := 0) (vs := [.inr (.inr (some 70))]) (rest := []) (la := [oR 70]) hm113 ⟨⟨_, _, rfl⟩, rfl⟩ rfl rfl rfl rfl hm46 rfl rfl (fun _ => ⟨_, _, rfl, rfl⟩) rfl (Wp.mono h ?_)
    rintro _ m5 ⟨r5, rfl, h⟩
    change Wp _ _ 217 _ [.inl r5] _ _
    refine w_if_eq (q := 220) (X := r5.toInt) hm113 ⟨⟨_, _, rfl⟩, rfl⟩ rfl (fun hc => ?_) (fun hc => ?_)
    · have h := h.1 hc
      refine w_iconst (q := 225) hm113 ⟨⟨_, _, rfl⟩, rfl⟩ iconst_0 ?_
      exact w_reti hm113 ⟨⟨_, _, rfl⟩, rfl⟩ rfl h
    · have h := h.2 hc
      refine w_iconst (q := 221) hm113 ⟨⟨_, _, rfl⟩, rfl⟩ iconst_1 ?_
      refine w_goto (q := 225) hm113 ⟨_, _, rfl⟩ ?_
      exact w_reti hm113 ⟨⟨_, _, rfl⟩, rfl⟩ rfl h
  · have h := (h.2.2.2.2.2.2.2.2.2.2.2.2.2.2.1) hc
    change Wp _ _ 226 _ _ _ _
    refine w_iconst (q := 227) hm113 ⟨⟨_, _, rfl⟩, rfl⟩ iconst_0 ?_
    refine w_istore_n (q := 228) (l' := [oR 70, oI x1, oI (0 : Int32), oI (0 : Int32)]) hm113 ⟨⟨_, _, rfl⟩, rfl⟩ rfl rfl rfl ?_
    exact Wp.wk [true, false, true, true] h
  · have h := (h.2.2.2.2.2.2.2.2.2.2.2.2.2.2.2.1) hc
    change Wp _ _ 263 _ _ _ _
    refine w_iconst (q := 264) hm113 ⟨⟨_, _, rfl⟩, rfl⟩ iconst_0 ?_
    refine w_istore_n (q := 265) (l' := [oR 70, oI x1, oI (0 : Int32), oI (0 : Int32)]) hm113 ⟨⟨_, _, rfl⟩, rfl⟩ rfl rfl rfl ?_
    exact Wp.wk [true, false, true, true] h
  · have h := (h.2.2.2.2.2.2.2.2.2.2.2.2.2.2.2.2) hc
    change Wp _ _ 303 _ _ _ _
    refine w_iconst (q := 304) hm113 ⟨⟨_, _, rfl⟩, rfl⟩ iconst_m1 ?_
    exact w_reti hm113 ⟨⟨_, _, rfl⟩, rfl⟩ rfl h
theorem v_X12_count_70_228 {d : Nat} {x2 : Int32} {x3 : Int32} {m : dM} {Q : Int32 → dM → Prop} (h : ((0 ≤ (m.1 70 18).toInt ∧ (m.1 70 18).toInt < 2) ∧ (((m.1 82 (m.1 70 18).toNatClampNeg).toInt ≤ x3.toInt → Q x2 m) ∧ (x3.toInt < (m.1 82 (m.1 70 18).toNatClampNeg).toInt → ((0 ≤ ((30 : Int32) + x3).toInt ∧ ((30 : Int32) + x3).toInt < 58) ∧ j_X12_count_70_228 (d + 1) (x2 ||| ((m.1 108 ((30 : Int32) + x3).toNatClampNeg) <<< (x3 &&& 31))) (x3 + (1 : Int32)) m Q))))) : j_X12_count_70_228 (d + 1) x2 x3 m Q := by
  refine w_iload_n (q := 229) hm113 ⟨⟨_, _, rfl⟩, rfl⟩ rfl ?_
  refine w_aload_n (q := 230) hm113 ⟨⟨_, _, rfl⟩, rfl⟩ rfl ?_
  refine w_getr (q := 233) hm113 ⟨⟨_, _, rfl⟩, rfl⟩ rfl ?_
  refine w_aload_n (q := 234) hm113 ⟨⟨_, _, rfl⟩, rfl⟩ rfl ?_
  refine w_getf (q := 237) (v := (m.1 70 18)) hm113 ⟨⟨_, _, rfl⟩, rfl⟩ rfl rfl ?_
  obtain ⟨hi, h⟩ := h
  refine w_iald (q := 238) (v := (m.1 82 (m.1 70 18).toNatClampNeg)) hm113 ⟨⟨_, _, rfl⟩, rfl⟩ rfl hi rfl rfl ?_
  refine w_icmp_ge (q := 241) (X := x3.toInt) (Y := (m.1 82 (m.1 70 18).toNatClampNeg).toInt) hm113 ⟨⟨_, _, rfl⟩, rfl⟩ rfl rfl (fun hc => ?_) (fun hc => ?_)
  · have h := h.1 hc
    refine w_iload_n (q := 262) hm113 ⟨⟨_, _, rfl⟩, rfl⟩ rfl ?_
    exact w_reti hm113 ⟨⟨_, _, rfl⟩, rfl⟩ rfl h
  · have h := h.2 hc
    refine w_iload_n (q := 242) hm113 ⟨⟨_, _, rfl⟩, rfl⟩ rfl ?_
    refine w_aload_n (q := 243) hm113 ⟨⟨_, _, rfl⟩, rfl⟩ rfl ?_
    refine w_getr (q := 246) hm113 ⟨⟨_, _, rfl⟩, rfl⟩ rfl ?_
    refine w_bipush (q := 248) hm113 ⟨⟨_, _, rfl⟩, rfl⟩ bipush_30 ?_
    refine w_iload_n (q := 249) hm113 ⟨⟨_, _, rfl⟩, rfl⟩ rfl ?_
    refine w_iadd (q := 250) hm113 ⟨⟨_, _, rfl⟩, rfl⟩ ?_
    obtain ⟨hi, h⟩ := h
    refine w_iald (q := 251) (v := (m.1 108 ((30 : Int32) + x3).toNatClampNeg)) hm113 ⟨⟨_, _, rfl⟩, rfl⟩ rfl hi rfl rfl ?_
    refine w_iload_n (q := 252) hm113 ⟨⟨_, _, rfl⟩, rfl⟩ rfl ?_
    refine w_ishl (q := 253) hm113 ⟨⟨_, _, rfl⟩, rfl⟩ ?_
    refine w_ior (q := 254) hm113 ⟨⟨_, _, rfl⟩, rfl⟩ ?_
    refine w_istore_n (q := 255) (l' := [oR 70, none, oI (x2 ||| ((m.1 108 ((30 : Int32) + x3).toNatClampNeg) <<< (x3 &&& 31))), oI x3]) hm113 ⟨⟨_, _, rfl⟩, rfl⟩ rfl rfl rfl ?_
    refine w_iinc (q := 258) (l' := [oR 70, none, oI (x2 ||| ((m.1 108 ((30 : Int32) + x3).toNatClampNeg) <<< (x3 &&& 31))), oI (x3 + (1 : Int32))]) hm113 ⟨⟨_, _, rfl⟩, rfl⟩ rfl rfl rfl iconst_1 rfl ?_
    refine w_goto (q := 228) hm113 ⟨_, _, rfl⟩ ?_
    exact h
theorem v_X12_count_70_265 {d : Nat} {x2 : Int32} {x3 : Int32} {m : dM} {Q : Int32 → dM → Prop} (h : ((0 ≤ (m.1 70 18).toInt ∧ (m.1 70 18).toInt < 2) ∧ (((m.1 82 (m.1 70 18).toNatClampNeg).toInt ≤ x3.toInt → Q x2 m) ∧ (x3.toInt < (m.1 82 (m.1 70 18).toNatClampNeg).toInt → c_X12_isWhole_70 d x3 m (fun r1 m1 => ((r1.toInt = 0 → j_X12_count_70_295 (d + 1) x2 x3 m1 Q) ∧ (r1.toInt ≠ 0 → ((0 ≤ x3.toInt ∧ x3.toInt < 58) ∧ j_X12_count_70_295 (d + 1) (x2 + (m1.1 108 x3.toNatClampNeg)) x3 m1 Q)))))))) : j_X12_count_70_265 (d + 1) x2 x3 m Q := by
  refine w_iload_n (q := 266) hm113 ⟨⟨_, _, rfl⟩, rfl⟩ rfl ?_
  refine w_aload_n (q := 267) hm113 ⟨⟨_, _, rfl⟩, rfl⟩ rfl ?_
  refine w_getr (q := 270) hm113 ⟨⟨_, _, rfl⟩, rfl⟩ rfl ?_
  refine w_aload_n (q := 271) hm113 ⟨⟨_, _, rfl⟩, rfl⟩ rfl ?_
  refine w_getf (q := 274) (v := (m.1 70 18)) hm113 ⟨⟨_, _, rfl⟩, rfl⟩ rfl rfl ?_
  obtain ⟨hi, h⟩ := h
  refine w_iald (q := 275) (v := (m.1 82 (m.1 70 18).toNatClampNeg)) hm113 ⟨⟨_, _, rfl⟩, rfl⟩ rfl hi rfl rfl ?_
  refine w_icmp_ge (q := 278) (X := x3.toInt) (Y := (m.1 82 (m.1 70 18).toNatClampNeg).toInt) hm113 ⟨⟨_, _, rfl⟩, rfl⟩ rfl rfl (fun hc => ?_) (fun hc => ?_)
  · have h := h.1 hc
    refine w_iload_n (q := 302) hm113 ⟨⟨_, _, rfl⟩, rfl⟩ rfl ?_
    exact w_reti hm113 ⟨⟨_, _, rfl⟩, rfl⟩ rfl h
  · have h := h.2 hc
    refine w_aload_n (q := 279) hm113 ⟨⟨_, _, rfl⟩, rfl⟩ rfl ?_
    refine w_iload_n (q := 280) hm113 ⟨⟨_, _, rfl⟩, rfl⟩ rfl ?_
    refine w_call (q := 283) (n := 0) (vs := [.inr (.inr (some 70)), .inl x3]) (rest := []) (la := [oR 70, oI x3]) hm113 ⟨⟨_, _, rfl⟩, rfl⟩ rfl rfl rfl rfl hm47 rfl rfl (fun _ => ⟨_, _, rfl, rfl⟩) rfl (Wp.mono h ?_)
    rintro _ m1 ⟨r1, rfl, h⟩
    change Wp _ _ 283 _ [.inl r1] _ _
    refine w_if_eq (q := 286) (X := r1.toInt) hm113 ⟨⟨_, _, rfl⟩, rfl⟩ rfl (fun hc => ?_) (fun hc => ?_)
    · have h := h.1 hc
      exact h
    · have h := h.2 hc
      refine w_iload_n (q := 287) hm113 ⟨⟨_, _, rfl⟩, rfl⟩ rfl ?_
      refine w_aload_n (q := 288) hm113 ⟨⟨_, _, rfl⟩, rfl⟩ rfl ?_
      refine w_getr (q := 291) hm113 ⟨⟨_, _, rfl⟩, rfl⟩ rfl ?_
      refine w_iload_n (q := 292) hm113 ⟨⟨_, _, rfl⟩, rfl⟩ rfl ?_
      obtain ⟨hi, h⟩ := h
      refine w_iald (q := 293) (v := (m1.1 108 x3.toNatClampNeg)) hm113 ⟨⟨_, _, rfl⟩, rfl⟩ rfl hi rfl rfl ?_
      refine w_iadd (q := 294) hm113 ⟨⟨_, _, rfl⟩, rfl⟩ ?_
      refine w_istore_n (q := 295) (l' := [oR 70, none, oI (x2 + (m1.1 108 x3.toNatClampNeg)), oI x3]) hm113 ⟨⟨_, _, rfl⟩, rfl⟩ rfl rfl rfl ?_
      exact h
theorem v_X12_count_70_295 {d : Nat} {x2 : Int32} {x3 : Int32} {m : dM} {Q : Int32 → dM → Prop} (h : j_X12_count_70_265 (d + 1) x2 (x3 + (1 : Int32)) m Q) : j_X12_count_70_295 (d + 1) x2 x3 m Q := by
  refine w_iinc (q := 298) (l' := [oR 70, none, oI x2, oI (x3 + (1 : Int32))]) hm113 ⟨⟨_, _, rfl⟩, rfl⟩ rfl rfl rfl iconst_1 rfl ?_
  refine w_goto (q := 265) hm113 ⟨_, _, rfl⟩ ?_
  exact h
