theorem v_X12_wire_70 {d : Nat} {x1 : Int32} {x2 : Int32} {m : dM} {Q : Int32 → dM → Prop} (h : c_X12_isWire_70 d x1 m (fun r1 m1 => ((r1.toInt ≠ 0 → c_X12_copies_70 d m1 (fun m2 => ((x2.toInt = 0 → ((0 ≤ (((10 : Int32) * (m2.1 70 18)) + x1).toInt ∧ (((10 : Int32) * (m2.1 70 18)) + x1).toInt < 20) ∧ Q (m2.1 83 (((10 : Int32) * (m2.1 70 18)) + x1).toNatClampNeg) m2)) ∧ (x2.toInt = 1 → ((0 ≤ (((10 : Int32) * (m2.1 70 18)) + x1).toInt ∧ (((10 : Int32) * (m2.1 70 18)) + x1).toInt < 20) ∧ Q (m2.1 84 (((10 : Int32) * (m2.1 70 18)) + x1).toNatClampNeg) m2)) ∧ (x2.toInt = 2 → ((0 ≤ x1.toInt ∧ x1.toInt < 58) ∧ Q (m2.1 108 x1.toNatClampNeg) m2)) ∧ (x2.toInt = 3 → ((0 ≤ ((10 : Int32) + x1).toInt ∧ ((10 : Int32) + x1).toInt < 58) ∧ Q ((1 : Int32) - (m2.1 108 ((10 : Int32) + x1).toNatClampNeg)) m2)) ∧ (x2.toInt = 4 → ((0 ≤ ((20 : Int32) + x1).toInt ∧ ((20 : Int32) + x1).toInt < 58) ∧ Q (m2.1 108 ((20 : Int32) + x1).toNatClampNeg) m2)) ∧ (x2.toInt = 5 → ((0 ≤ ((30 : Int32) + x1).toInt ∧ ((30 : Int32) + x1).toInt < 58) ∧ Q (m2.1 108 ((30 : Int32) + x1).toNatClampNeg) m2)) ∧ (x2.toInt = 6 → c_X12_onNow_70 d m2 (fun r3 m3 => c_X12_loadBy_70 d x1 r3 m3 (fun r4 m4 => Q r4 m4))) ∧ (x2.toInt = 7 → c_X12_costsOf_70 d x1 m2 (fun r5 m5 => Q r5 m5)) ∧ (x2.toInt = 8 → c_X12_onNow_70 d m2 (fun r6 m6 => c_X12_doesGo_70 d x1 r6 ((m6.1 108 55) - (m6.1 108 55) / (24 : Int32) * (24 : Int32)) (0 : Int32) m6 (fun r7 m7 => ((r7.toInt = 0 → Q (0 : Int32) m7) ∧ (r7.toInt ≠ 0 → Q (1 : Int32) m7))))) ∧ (x2.toInt < 0 ∨ 8 < x2.toInt → Q (-1 : Int32) m2)))) ∧ (r1.toInt = 0 → Q (-1 : Int32) m1)))) : c_X12_wire_70 (d + 1) x1 x2 m Q := by
  refine w_aload_n (q := 1) hm71 ⟨⟨_, _, rfl⟩, rfl⟩ rfl ?_
  refine w_iload_n (q := 2) hm71 ⟨⟨_, _, rfl⟩, rfl⟩ rfl ?_
  refine w_call (q := 5) (n := 0) (vs := [.inr (.inr (some 70)), .inl x1]) (rest := []) (la := [oR 70, oI x1]) hm71 ⟨⟨_, _, rfl⟩, rfl⟩ rfl rfl rfl rfl hm40 rfl rfl (fun _ => ⟨_, _, rfl, rfl⟩) rfl (Wp.mono h ?_)
  rintro _ m1 ⟨r1, rfl, h⟩
  change Wp _ _ 5 _ [.inl r1] _ _
  refine w_if_ne (q := 8) (X := r1.toInt) hm71 ⟨⟨_, _, rfl⟩, rfl⟩ rfl (fun hc => ?_) (fun hc => ?_)
  · have h := h.1 hc
    refine w_aload_n (q := 11) hm71 ⟨⟨_, _, rfl⟩, rfl⟩ rfl ?_
    refine w_call (q := 14) (n := 1) (vs := [.inr (.inr (some 70))]) (rest := []) (la := [oR 70, none]) hm71 ⟨⟨_, _, rfl⟩, rfl⟩ rfl rfl rfl rfl hm44 rfl rfl (fun _ => ⟨_, _, rfl, rfl⟩) rfl (Wp.mono h ?_)
    rintro _ m2 ⟨rfl, h⟩
    change Wp _ _ 14 _ [] _ _
    refine w_iload_n (q := 15) hm71 ⟨⟨_, _, rfl⟩, rfl⟩ rfl ?_
    refine w_tsw (X := x2.toInt) hm71 ⟨_, _, rfl⟩ (by decide) (by decide) rfl ((And.intro (fun hc => ?_) (And.intro (fun hc => ?_) (And.intro (fun hc => ?_) (And.intro (fun hc => ?_) (And.intro (fun hc => ?_) (And.intro (fun hc => ?_) (And.intro (fun hc => ?_) (And.intro (fun hc => ?_) (And.intro (fun hc => ?_) trivial)))))))))) (fun hc => ?_)
    · have h := (h.1) hc
      change Wp _ _ 64 _ _ _ _
      refine w_aload_n (q := 65) hm71 ⟨⟨_, _, rfl⟩, rfl⟩ rfl ?_
      refine w_getr (q := 68) hm71 ⟨⟨_, _, rfl⟩, rfl⟩ rfl ?_
      refine w_bipush (q := 70) hm71 ⟨⟨_, _, rfl⟩, rfl⟩ bipush_10 ?_
      refine w_aload_n (q := 71) hm71 ⟨⟨_, _, rfl⟩, rfl⟩ rfl ?_
      refine w_getf (q := 74) (v := (m2.1 70 18)) hm71 ⟨⟨_, _, rfl⟩, rfl⟩ rfl rfl ?_
      refine w_imul (q := 75) hm71 ⟨⟨_, _, rfl⟩, rfl⟩ ?_
      refine w_iload_n (q := 76) hm71 ⟨⟨_, _, rfl⟩, rfl⟩ rfl ?_
      refine w_iadd (q := 77) hm71 ⟨⟨_, _, rfl⟩, rfl⟩ ?_
      obtain ⟨hi, h⟩ := h
      refine w_iald (q := 78) (v := (m2.1 83 (((10 : Int32) * (m2.1 70 18)) + x1).toNatClampNeg)) hm71 ⟨⟨_, _, rfl⟩, rfl⟩ rfl hi rfl rfl ?_
      exact w_reti hm71 ⟨⟨_, _, rfl⟩, rfl⟩ rfl h
    · have h := (h.2.1) hc
      change Wp _ _ 79 _ _ _ _
      refine w_aload_n (q := 80) hm71 ⟨⟨_, _, rfl⟩, rfl⟩ rfl ?_
      refine w_getr (q := 83) hm71 ⟨⟨_, _, rfl⟩, rfl⟩ rfl ?_
      refine w_bipush (q := 85) hm71 ⟨⟨_, _, rfl⟩, rfl⟩ bipush_10 ?_
      refine w_aload_n (q := 86) hm71 ⟨⟨_, _, rfl⟩, rfl⟩ rfl ?_
      refine w_getf (q := 89) (v := (m2.1 70 18)) hm71 ⟨⟨_, _, rfl⟩, rfl⟩ rfl rfl ?_
      refine w_imul (q := 90) hm71 ⟨⟨_, _, rfl⟩, rfl⟩ ?_
      refine w_iload_n (q := 91) hm71 ⟨⟨_, _, rfl⟩, rfl⟩ rfl ?_
      refine w_iadd (q := 92) hm71 ⟨⟨_, _, rfl⟩, rfl⟩ ?_
      obtain ⟨hi, h⟩ := h
      refine w_iald (q := 93) (v := (m2.1 84 (((10 : Int32) * (m2.1 70 18)) + x1).toNatClampNeg)) hm71 ⟨⟨_, _, rfl⟩, rfl⟩ rfl hi rfl rfl ?_
      exact w_reti hm71 ⟨⟨_, _, rfl⟩, rfl⟩ rfl h
    · have h := (h.2.2.1) hc
      change Wp _ _ 94 _ _ _ _
      refine w_aload_n (q := 95) hm71 ⟨⟨_, _, rfl⟩, rfl⟩ rfl ?_
      refine w_getr (q := 98) hm71 ⟨⟨_, _, rfl⟩, rfl⟩ rfl ?_
      refine w_iload_n (q := 99) hm71 ⟨⟨_, _, rfl⟩, rfl⟩ rfl ?_
      obtain ⟨hi, h⟩ := h
      refine w_iald (q := 100) (v := (m2.1 108 x1.toNatClampNeg)) hm71 ⟨⟨_, _, rfl⟩, rfl⟩ rfl hi rfl rfl ?_
      exact w_reti hm71 ⟨⟨_, _, rfl⟩, rfl⟩ rfl h
    · have h := (h.2.2.2.1) hc
      change Wp _ _ 101 _ _ _ _
      refine w_iconst (q := 102) hm71 ⟨⟨_, _, rfl⟩, rfl⟩ iconst_1 ?_
      refine w_aload_n (q := 103) hm71 ⟨⟨_, _, rfl⟩, rfl⟩ rfl ?_
      refine w_getr (q := 106) hm71 ⟨⟨_, _, rfl⟩, rfl⟩ rfl ?_
      refine w_bipush (q := 108) hm71 ⟨⟨_, _, rfl⟩, rfl⟩ bipush_10 ?_
      refine w_iload_n (q := 109) hm71 ⟨⟨_, _, rfl⟩, rfl⟩ rfl ?_
      refine w_iadd (q := 110) hm71 ⟨⟨_, _, rfl⟩, rfl⟩ ?_
      obtain ⟨hi, h⟩ := h
      refine w_iald (q := 111) (v := (m2.1 108 ((10 : Int32) + x1).toNatClampNeg)) hm71 ⟨⟨_, _, rfl⟩, rfl⟩ rfl hi rfl rfl ?_
      refine w_isub (q := 112) hm71 ⟨⟨_, _, rfl⟩, rfl⟩ ?_
      exact w_reti hm71 ⟨⟨_, _, rfl⟩, rfl⟩ rfl h
    · have h := (h.2.2.2.2.1) hc
      change Wp _ _ 113 _ _ _ _
      refine w_aload_n (q := 114) hm71 ⟨⟨_, _, rfl⟩, rfl⟩ rfl ?_
      refine w_getr (q := 117) hm71 ⟨⟨_, _, rfl⟩, rfl⟩ rfl ?_
      refine w_bipush (q := 119) hm71 ⟨⟨_, _, rfl⟩, rfl⟩ bipush_20 ?_
      refine w_iload_n (q := 120) hm71 ⟨⟨_, _, rfl⟩, rfl⟩ rfl ?_
      refine w_iadd (q := 121) hm71 ⟨⟨_, _, rfl⟩, rfl⟩ ?_
      obtain ⟨hi, h⟩ := h
      refine w_iald (q := 122) (v := (m2.1 108 ((20 : Int32) + x1).toNatClampNeg)) hm71 ⟨⟨_, _, rfl⟩, rfl⟩ rfl hi rfl rfl ?_
      exact w_reti hm71 ⟨⟨_, _, rfl⟩, rfl⟩ rfl h
    · have h := (h.2.2.2.2.2.1) hc
      change Wp _ _ 123 _ _ _ _
      refine w_aload_n (q := 124) hm71 ⟨⟨_, _, rfl⟩, rfl⟩ rfl ?_
      refine w_getr (q := 127) hm71 ⟨⟨_, _, rfl⟩, rfl⟩ rfl ?_
      refine w_bipush (q := 129) hm71 ⟨⟨_, _, rfl⟩, rfl⟩ bipush_30 ?_
      refine w_iload_n (q := 130) hm71 ⟨⟨_, _, rfl⟩, rfl⟩ rfl ?_
      refine w_iadd (q := 131) hm71 ⟨⟨_, _, rfl⟩, rfl⟩ ?_
      obtain ⟨hi, h⟩ := h
      refine w_iald (q := 132) (v := (m2.1 108 ((30 : Int32) + x1).toNatClampNeg)) hm71 ⟨⟨_, _, rfl⟩, rfl⟩ rfl hi rfl rfl ?_
      exact w_reti hm71 ⟨⟨_, _, rfl⟩, rfl⟩ rfl h
    · have h := (h.2.2.2.2.2.2.1) hc
      change Wp _ _ 133 _ _ _ _
      refine w_aload_n (q := 134) hm71 ⟨⟨_, _, rfl⟩, rfl⟩ rfl ?_
      refine w_iload_n (q := 135) hm71 ⟨⟨_, _, rfl⟩, rfl⟩ rfl ?_
      refine w_aload_n (q := 136) hm71 ⟨⟨_, _, rfl⟩, rfl⟩ rfl ?_
      refine w_call (q := 139) (n := 0) (vs := [.inr (.inr (some 70))]) (rest := [.inl x1, .inr (.inr (some 70))]) (la := [oR 70]) hm71 ⟨⟨_, _, rfl⟩, rfl⟩ rfl rfl rfl rfl hm56 rfl rfl (fun _ => ⟨_, _, rfl, rfl⟩) rfl (Wp.mono h ?_)
      rintro _ m3 ⟨r3, rfl, h⟩
      change Wp _ _ 139 _ [.inl r3, .inl x1, .inr (.inr (some 70))] _ _
      refine w_call (q := 142) (n := 2) (vs := [.inr (.inr (some 70)), .inl x1, .inl r3]) (rest := []) (la := [oR 70, oI x1, oI r3, none, none]) hm71 ⟨⟨_, _, rfl⟩, rfl⟩ rfl rfl rfl rfl hm57 rfl rfl (fun _ => ⟨_, _, rfl, rfl⟩) rfl (Wp.mono h ?_)
      rintro _ m4 ⟨r4, rfl, h⟩
      change Wp _ _ 142 _ [.inl r4] _ _
      exact w_reti hm71 ⟨⟨_, _, rfl⟩, rfl⟩ rfl h
    · have h := (h.2.2.2.2.2.2.2.1) hc
      change Wp _ _ 143 _ _ _ _
      refine w_aload_n (q := 144) hm71 ⟨⟨_, _, rfl⟩, rfl⟩ rfl ?_
      refine w_iload_n (q := 145) hm71 ⟨⟨_, _, rfl⟩, rfl⟩ rfl ?_
      refine w_call (q := 148) (n := 0) (vs := [.inr (.inr (some 70)), .inl x1]) (rest := []) (la := [oR 70, oI x1]) hm71 ⟨⟨_, _, rfl⟩, rfl⟩ rfl rfl rfl rfl hm63 rfl rfl (fun _ => ⟨_, _, rfl, rfl⟩) rfl (Wp.mono h ?_)
      rintro _ m5 ⟨r5, rfl, h⟩
      change Wp _ _ 148 _ [.inl r5] _ _
      exact w_reti hm71 ⟨⟨_, _, rfl⟩, rfl⟩ rfl h
    · have h := (h.2.2.2.2.2.2.2.2.1) hc
      change Wp _ _ 149 _ _ _ _
      refine w_aload_n (q := 150) hm71 ⟨⟨_, _, rfl⟩, rfl⟩ rfl ?_
      refine w_iload_n (q := 151) hm71 ⟨⟨_, _, rfl⟩, rfl⟩ rfl ?_
      refine w_aload_n (q := 152) hm71 ⟨⟨_, _, rfl⟩, rfl⟩ rfl ?_
      refine w_call (q := 155) (n := 0) (vs := [.inr (.inr (some 70))]) (rest := [.inl x1, .inr (.inr (some 70))]) (la := [oR 70]) hm71 ⟨⟨_, _, rfl⟩, rfl⟩ rfl rfl rfl rfl hm56 rfl rfl (fun _ => ⟨_, _, rfl, rfl⟩) rfl (Wp.mono h ?_)
      rintro _ m6 ⟨r6, rfl, h⟩
      change Wp _ _ 155 _ [.inl r6, .inl x1, .inr (.inr (some 70))] _ _
      refine w_aload_n (q := 156) hm71 ⟨⟨_, _, rfl⟩, rfl⟩ rfl ?_
      refine w_getr (q := 159) hm71 ⟨⟨_, _, rfl⟩, rfl⟩ rfl ?_
      refine w_bipush (q := 161) hm71 ⟨⟨_, _, rfl⟩, rfl⟩ bipush_55 ?_
      refine w_iald (q := 162) (j := 55) (v := (m6.1 108 55)) hm71 ⟨⟨_, _, rfl⟩, rfl⟩ rfl (by decide) (by decide) rfl ?_
      refine w_bipush (q := 164) hm71 ⟨⟨_, _, rfl⟩, rfl⟩ bipush_24 ?_
      refine w_irem (q := 165) hm71 ⟨⟨_, _, rfl⟩, rfl⟩ (by decide) ?_
      refine w_iconst (q := 166) hm71 ⟨⟨_, _, rfl⟩, rfl⟩ iconst_0 ?_
      refine w_call (q := 169) (n := 1) (vs := [.inr (.inr (some 70)), .inl x1, .inl r6, .inl ((m6.1 108 55) - (m6.1 108 55) / (24 : Int32) * (24 : Int32)), .inl (0 : Int32)]) (rest := []) (la := [oR 70, oI x1, oI r6, oI ((m6.1 108 55) - (m6.1 108 55) / (24 : Int32) * (24 : Int32)), oI (0 : Int32), none]) hm71 ⟨⟨_, _, rfl⟩, rfl⟩ rfl rfl rfl rfl hm60 rfl rfl (fun _ => ⟨_, _, rfl, rfl⟩) rfl (Wp.mono h ?_)
      rintro _ m7 ⟨r7, rfl, h⟩
      change Wp _ _ 169 _ [.inl r7] _ _
      refine w_if_eq (q := 172) (X := r7.toInt) hm71 ⟨⟨_, _, rfl⟩, rfl⟩ rfl (fun hc => ?_) (fun hc => ?_)
      · have h := h.1 hc
        refine w_iconst (q := 177) hm71 ⟨⟨_, _, rfl⟩, rfl⟩ iconst_0 ?_
        exact w_reti hm71 ⟨⟨_, _, rfl⟩, rfl⟩ rfl h
      · have h := h.2 hc
        refine w_iconst (q := 173) hm71 ⟨⟨_, _, rfl⟩, rfl⟩ iconst_1 ?_
        refine w_goto (q := 177) hm71 ⟨_, _, rfl⟩ ?_
        exact w_reti hm71 ⟨⟨_, _, rfl⟩, rfl⟩ rfl h
    · have h := (h.2.2.2.2.2.2.2.2.2) hc
      change Wp _ _ 178 _ _ _ _
      refine w_iconst (q := 179) hm71 ⟨⟨_, _, rfl⟩, rfl⟩ iconst_m1 ?_
      exact w_reti hm71 ⟨⟨_, _, rfl⟩, rfl⟩ rfl h
  · have h := h.2 hc
    refine w_iconst (q := 9) hm71 ⟨⟨_, _, rfl⟩, rfl⟩ iconst_m1 ?_
    exact w_reti hm71 ⟨⟨_, _, rfl⟩, rfl⟩ rfl h
theorem v_X11_isUse_0 {d : Nat} {x1 : Int32} {m : dM} {Q : Int32 → dM → Prop} (h : ((x1.toInt < 0 → j_X11_isUse_0_19 (d + 1) m Q) ∧ (0 ≤ x1.toInt → (((m.1 2 2).toInt ≤ x1.toInt → j_X11_isUse_0_19 (d + 1) m Q) ∧ (x1.toInt < (m.1 2 2).toInt → Q (1 : Int32) m))))) : c_X11_isUse_0 (d + 1) x1 m Q := by
  refine w_iload_n (q := 1) hm250 ⟨⟨_, _, rfl⟩, rfl⟩ rfl ?_
  refine w_if_lt (q := 4) (X := x1.toInt) hm250 ⟨⟨_, _, rfl⟩, rfl⟩ rfl (fun hc => ?_) (fun hc => ?_)
  · have h := h.1 hc
    exact Wp.wk [false, false] h
  · have h := h.2 hc
    refine w_iload_n (q := 5) hm250 ⟨⟨_, _, rfl⟩, rfl⟩ rfl ?_
    refine w_aload_n (q := 6) hm250 ⟨⟨_, _, rfl⟩, rfl⟩ rfl ?_
    refine w_getr (q := 9) hm250 ⟨⟨_, _, rfl⟩, rfl⟩ rfl ?_
    refine w_getf (q := 12) (v := (m.1 2 2)) hm250 ⟨⟨_, _, rfl⟩, rfl⟩ rfl rfl ?_
    refine w_icmp_ge (q := 15) (X := x1.toInt) (Y := (m.1 2 2).toInt) hm250 ⟨⟨_, _, rfl⟩, rfl⟩ rfl rfl (fun hc => ?_) (fun hc => ?_)
    · have h := h.1 hc
      exact Wp.wk [false, false] h
    · have h := h.2 hc
      refine w_iconst (q := 16) hm250 ⟨⟨_, _, rfl⟩, rfl⟩ iconst_1 ?_
      refine w_goto (q := 20) hm250 ⟨_, _, rfl⟩ ?_
      exact w_retz hm250 ⟨⟨_, _, rfl⟩, rfl⟩ rfl (by decide) h
theorem v_X11_isUse_0_19 {d : Nat} {m : dM} {Q : Int32 → dM → Prop} (h : Q (0 : Int32) m) : j_X11_isUse_0_19 (d + 1) m Q := by
  refine w_iconst (q := 20) hm250 ⟨⟨_, _, rfl⟩, rfl⟩ iconst_0 ?_
  exact w_retz hm250 ⟨⟨_, _, rfl⟩, rfl⟩ rfl (by decide) h
theorem v_X0_payOf_54_47 {d : Nat} {x2 : Int32} {m : dM} {Q : Int32 → dM → Prop} (h : c_X7_hourOfDay_47 d m (fun r1 m1 => c_X7_day_47 d m1 (fun r2 m2 => c_X0_setVars_54 d r1 r2 x2 m2 (fun m3 => ((0 ≤ x2.toInt ∧ x2.toInt < 8) ∧ c_X4_tells_11_55 d (3 : Int32) (dSet m3 55 5 (m3.1 8 x2.toNatClampNeg)) (fun r4 m4 => c_X0_held d r4 m4 (fun r5 m5 => Q r5 m5))))))) : c_X0_payOf_54_47 (d + 1) x2 m Q := by
  refine w_aload_n (q := 1) hm129 ⟨⟨_, _, rfl⟩, rfl⟩ rfl ?_
  refine w_aload_n (q := 2) hm129 ⟨⟨_, _, rfl⟩, rfl⟩ rfl ?_
  refine w_call (q := 5) (n := 0) (vs := [.inr (.inr (some 47))]) (rest := [.inr (.inr (some 54))]) (la := [oR 47]) hm129 ⟨⟨_, _, rfl⟩, rfl⟩ rfl rfl rfl rfl hm212 rfl rfl (fun _ => ⟨_, _, rfl, rfl⟩) rfl (Wp.mono h ?_)
  rintro _ m1 ⟨r1, rfl, h⟩
  change Wp _ _ 5 _ [.inl r1, .inr (.inr (some 54))] _ _
  refine w_aload_n (q := 6) hm129 ⟨⟨_, _, rfl⟩, rfl⟩ rfl ?_
  refine w_call (q := 9) (n := 0) (vs := [.inr (.inr (some 47))]) (rest := [.inl r1, .inr (.inr (some 54))]) (la := [oR 47]) hm129 ⟨⟨_, _, rfl⟩, rfl⟩ rfl rfl rfl rfl hm213 rfl rfl (fun _ => ⟨_, _, rfl, rfl⟩) rfl (Wp.mono h ?_)
  rintro _ m2 ⟨r2, rfl, h⟩
  change Wp _ _ 9 _ [.inl r2, .inl r1, .inr (.inr (some 54))] _ _
  refine w_iload_n (q := 10) hm129 ⟨⟨_, _, rfl⟩, rfl⟩ rfl ?_
  refine w_call (q := 13) (n := 0) (vs := [.inr (.inr (some 54)), .inl r1, .inl r2, .inl x2]) (rest := []) (la := [oR 54, oI r1, oI r2, oI x2]) hm129 ⟨⟨_, _, rfl⟩, rfl⟩ rfl rfl rfl rfl hm125 rfl rfl (fun _ => ⟨_, _, rfl, rfl⟩) rfl (Wp.mono h ?_)
  rintro _ m3 ⟨rfl, h⟩
  change Wp _ _ 13 _ [] _ _
  refine w_aload_n (q := 14) hm129 ⟨⟨_, _, rfl⟩, rfl⟩ rfl ?_
  refine w_getr (q := 17) hm129 ⟨⟨_, _, rfl⟩, rfl⟩ rfl ?_
  refine w_iconst (q := 18) hm129 ⟨⟨_, _, rfl⟩, rfl⟩ iconst_5 ?_
  refine w_aload_n (q := 19) hm129 ⟨⟨_, _, rfl⟩, rfl⟩ rfl ?_
  refine w_getr (q := 22) hm129 ⟨⟨_, _, rfl⟩, rfl⟩ rfl ?_
  refine w_getr (q := 25) hm129 ⟨⟨_, _, rfl⟩, rfl⟩ rfl ?_
  refine w_iload_n (q := 26) hm129 ⟨⟨_, _, rfl⟩, rfl⟩ rfl ?_
  obtain ⟨hi, h⟩ := h
  refine w_iald (q := 27) (v := (m3.1 8 x2.toNatClampNeg)) hm129 ⟨⟨_, _, rfl⟩, rfl⟩ rfl hi rfl rfl ?_
  refine w_iast (q := 28) (j := 5) hm129 ⟨⟨_, _, rfl⟩, rfl⟩ rfl (by decide) (by decide) rfl ?_
  refine w_aload_n (q := 29) hm129 ⟨⟨_, _, rfl⟩, rfl⟩ rfl ?_
  refine w_getr (q := 32) hm129 ⟨⟨_, _, rfl⟩, rfl⟩ rfl ?_
  refine w_getr (q := 35) hm129 ⟨⟨_, _, rfl⟩, rfl⟩ rfl ?_
  refine w_iconst (q := 36) hm129 ⟨⟨_, _, rfl⟩, rfl⟩ iconst_3 ?_
  refine w_aload_n (q := 37) hm129 ⟨⟨_, _, rfl⟩, rfl⟩ rfl ?_
  refine w_getr (q := 40) hm129 ⟨⟨_, _, rfl⟩, rfl⟩ rfl ?_
  refine w_call (q := 43) (n := 4) (vs := [.inr (.inr (some 11)), .inl (3 : Int32), .inr (.inr (some 55))]) (rest := []) (la := [oR 11, oI (3 : Int32), oR 55, none, none, none, none]) hm129 ⟨⟨_, _, rfl⟩, rfl⟩ rfl rfl rfl rfl hm181 rfl rfl (fun _ => ⟨_, _, rfl, rfl⟩) rfl (Wp.mono h ?_)
  rintro _ m4 ⟨r4, rfl, h⟩
  change Wp _ _ 43 _ [.inl r4] _ _
  refine w_call (q := 46) (n := 0) (vs := [.inl r4]) (rest := []) (la := [oI r4]) hm129 ⟨⟨_, _, rfl⟩, rfl⟩ rfl rfl rfl rfl hm126 rfl rfl (fun hz => absurd hz (by decide)) rfl (Wp.mono h ?_)
  rintro _ m5 ⟨r5, rfl, h⟩
  change Wp _ _ 46 _ [.inl r5] _ _
  exact w_reti hm129 ⟨⟨_, _, rfl⟩, rfl⟩ rfl h
theorem v_X11_use_0 {d : Nat} {x1 : Int32} {x2 : Int32} {m : dM} {Q : Int32 → dM → Prop} (h : c_X11_isUse_0 d x1 m (fun r1 m1 => ((r1.toInt ≠ 0 → c_X0_usesNow_54_47 d m1 (fun r2 m2 => c_X11_has d r2 x1 m2 (fun r3 m3 => ((x2.toInt = 0 → ((0 ≤ x1.toInt ∧ x1.toInt < 8) ∧ Q (m3.1 7 x1.toNatClampNeg) m3)) ∧ (x2.toInt = 1 → ((0 ≤ x1.toInt ∧ x1.toInt < 8) ∧ Q (m3.1 8 x1.toNatClampNeg) m3)) ∧ (x2.toInt = 2 → ((0 ≤ x1.toInt ∧ x1.toInt < 8) ∧ Q (m3.1 9 x1.toNatClampNeg) m3)) ∧ (x2.toInt = 3 → ((0 ≤ x1.toInt ∧ x1.toInt < 8) ∧ Q (m3.1 10 x1.toNatClampNeg) m3)) ∧ (x2.toInt = 4 → c_X11_has d (m3.1 47 5) x1 m3 (fun r4 m4 => ((r4.toInt = 0 → Q (0 : Int32) m4) ∧ (r4.toInt ≠ 0 → Q (1 : Int32) m4)))) ∧ (x2.toInt = 5 → ((r3.toInt = 0 → Q (0 : Int32) m3) ∧ (r3.toInt ≠ 0 → Q (1 : Int32) m3))) ∧ (x2.toInt = 6 → ((r3.toInt = 0 → Q (0 : Int32) m3) ∧ (r3.toInt ≠ 0 → c_X0_payOf_54_47 d x1 m3 (fun r5 m5 => Q r5 m5)))) ∧ (x2.toInt < 0 ∨ 6 < x2.toInt → Q (-1 : Int32) m3))))) ∧ (r1.toInt = 0 → Q (-1 : Int32) m1)))) : c_X11_use_0 (d + 1) x1 x2 m Q := by
  refine w_aload_n (q := 1) hm253 ⟨⟨_, _, rfl⟩, rfl⟩ rfl ?_
  refine w_iload_n (q := 2) hm253 ⟨⟨_, _, rfl⟩, rfl⟩ rfl ?_
  refine w_call (q := 5) (n := 0) (vs := [.inr (.inr (some 0)), .inl x1]) (rest := []) (la := [oR 0, oI x1]) hm253 ⟨⟨_, _, rfl⟩, rfl⟩ rfl rfl rfl rfl hm250 rfl rfl (fun _ => ⟨_, _, rfl, rfl⟩) rfl (Wp.mono h ?_)
  rintro _ m1 ⟨r1, rfl, h⟩
  change Wp _ _ 5 _ [.inl r1] _ _
  refine w_if_ne (q := 8) (X := r1.toInt) hm253 ⟨⟨_, _, rfl⟩, rfl⟩ rfl (fun hc => ?_) (fun hc => ?_)
  · have h := h.1 hc
    refine w_aload_n (q := 11) hm253 ⟨⟨_, _, rfl⟩, rfl⟩ rfl ?_
    refine w_getr (q := 14) hm253 ⟨⟨_, _, rfl⟩, rfl⟩ rfl ?_
    refine w_aload_n (q := 15) hm253 ⟨⟨_, _, rfl⟩, rfl⟩ rfl ?_
    refine w_getr (q := 18) hm253 ⟨⟨_, _, rfl⟩, rfl⟩ rfl ?_
    refine w_call (q := 21) (n := 0) (vs := [.inr (.inr (some 54)), .inr (.inr (some 47))]) (rest := []) (la := [oR 54, oR 47]) hm253 ⟨⟨_, _, rfl⟩, rfl⟩ rfl rfl rfl rfl hm117 rfl rfl (fun _ => ⟨_, _, rfl, rfl⟩) rfl (Wp.mono h ?_)
    rintro _ m2 ⟨r2, rfl, h⟩
    change Wp _ _ 21 _ [.inl r2] _ _
    refine w_iload_n (q := 22) hm253 ⟨⟨_, _, rfl⟩, rfl⟩ rfl ?_
    refine w_call (q := 25) (n := 0) (vs := [.inl r2, .inl x1]) (rest := []) (la := [oI r2, oI x1]) hm253 ⟨⟨_, _, rfl⟩, rfl⟩ rfl rfl rfl rfl hm283 rfl rfl (fun hz => absurd hz (by decide)) rfl (Wp.mono h ?_)
    rintro _ m3 ⟨r3, rfl, h⟩
    change Wp _ _ 25 _ [.inl r3] _ _
    refine w_istore_n (q := 26) (l' := [oR 0, oI x1, oI x2, oI r3]) hm253 ⟨⟨_, _, rfl⟩, rfl⟩ rfl rfl rfl ?_
    refine w_iload_n (q := 27) hm253 ⟨⟨_, _, rfl⟩, rfl⟩ rfl ?_
    refine w_tsw (X := x2.toInt) hm253 ⟨_, _, rfl⟩ (by decide) (by decide) rfl ((And.intro (fun hc => ?_) (And.intro (fun hc => ?_) (And.intro (fun hc => ?_) (And.intro (fun hc => ?_) (And.intro (fun hc => ?_) (And.intro (fun hc => ?_) (And.intro (fun hc => ?_) trivial)))))))) (fun hc => ?_)
    · have h := (h.1) hc
      change Wp _ _ 68 _ _ _ _
      refine w_aload_n (q := 69) hm253 ⟨⟨_, _, rfl⟩, rfl⟩ rfl ?_
      refine w_getr (q := 72) hm253 ⟨⟨_, _, rfl⟩, rfl⟩ rfl ?_
      refine w_getr (q := 75) hm253 ⟨⟨_, _, rfl⟩, rfl⟩ rfl ?_
      refine w_iload_n (q := 76) hm253 ⟨⟨_, _, rfl⟩, rfl⟩ rfl ?_
      obtain ⟨hi, h⟩ := h
      refine w_iald (q := 77) (v := (m3.1 7 x1.toNatClampNeg)) hm253 ⟨⟨_, _, rfl⟩, rfl⟩ rfl hi rfl rfl ?_
      exact w_reti hm253 ⟨⟨_, _, rfl⟩, rfl⟩ rfl h
    · have h := (h.2.1) hc
      change Wp _ _ 78 _ _ _ _
      refine w_aload_n (q := 79) hm253 ⟨⟨_, _, rfl⟩, rfl⟩ rfl ?_
      refine w_getr (q := 82) hm253 ⟨⟨_, _, rfl⟩, rfl⟩ rfl ?_
      refine w_getr (q := 85) hm253 ⟨⟨_, _, rfl⟩, rfl⟩ rfl ?_
      refine w_iload_n (q := 86) hm253 ⟨⟨_, _, rfl⟩, rfl⟩ rfl ?_
      obtain ⟨hi, h⟩ := h
      refine w_iald (q := 87) (v := (m3.1 8 x1.toNatClampNeg)) hm253 ⟨⟨_, _, rfl⟩, rfl⟩ rfl hi rfl rfl ?_
      exact w_reti hm253 ⟨⟨_, _, rfl⟩, rfl⟩ rfl h
    · have h := (h.2.2.1) hc
      change Wp _ _ 88 _ _ _ _
      refine w_aload_n (q := 89) hm253 ⟨⟨_, _, rfl⟩, rfl⟩ rfl ?_
      refine w_getr (q := 92) hm253 ⟨⟨_, _, rfl⟩, rfl⟩ rfl ?_
      refine w_getr (q := 95) hm253 ⟨⟨_, _, rfl⟩, rfl⟩ rfl ?_
      refine w_iload_n (q := 96) hm253 ⟨⟨_, _, rfl⟩, rfl⟩ rfl ?_
      obtain ⟨hi, h⟩ := h
      refine w_iald (q := 97) (v := (m3.1 9 x1.toNatClampNeg)) hm253 ⟨⟨_, _, rfl⟩, rfl⟩ rfl hi rfl rfl ?_
      exact w_reti hm253 ⟨⟨_, _, rfl⟩, rfl⟩ rfl h
    · have h := (h.2.2.2.1) hc
      change Wp _ _ 98 _ _ _ _
      refine w_aload_n (q := 99) hm253 ⟨⟨_, _, rfl⟩, rfl⟩ rfl ?_
      refine w_getr (q := 102) hm253 ⟨⟨_, _, rfl⟩, rfl⟩ rfl ?_
      refine w_getr (q := 105) hm253 ⟨⟨_, _, rfl⟩, rfl⟩ rfl ?_
      refine w_iload_n (q := 106) hm253 ⟨⟨_, _, rfl⟩, rfl⟩ rfl ?_
      obtain ⟨hi, h⟩ := h
      refine w_iald (q := 107) (v := (m3.1 10 x1.toNatClampNeg)) hm253 ⟨⟨_, _, rfl⟩, rfl⟩ rfl hi rfl rfl ?_
      exact w_reti hm253 ⟨⟨_, _, rfl⟩, rfl⟩ rfl h
    · have h := (h.2.2.2.2.1) hc
      change Wp _ _ 108 _ _ _ _
      refine w_aload_n (q := 109) hm253 ⟨⟨_, _, rfl⟩, rfl⟩ rfl ?_
      refine w_getr (q := 112) hm253 ⟨⟨_, _, rfl⟩, rfl⟩ rfl ?_
      refine w_getf (q := 115) (v := (m3.1 47 5)) hm253 ⟨⟨_, _, rfl⟩, rfl⟩ rfl rfl ?_
      refine w_iload_n (q := 116) hm253 ⟨⟨_, _, rfl⟩, rfl⟩ rfl ?_
      refine w_call (q := 119) (n := 0) (vs := [.inl (m3.1 47 5), .inl x1]) (rest := []) (la := [oI (m3.1 47 5), oI x1]) hm253 ⟨⟨_, _, rfl⟩, rfl⟩ rfl rfl rfl rfl hm283 rfl rfl (fun hz => absurd hz (by decide)) rfl (Wp.mono h ?_)
      rintro _ m4 ⟨r4, rfl, h⟩
      change Wp _ _ 119 _ [.inl r4] _ _
      refine w_if_eq (q := 122) (X := r4.toInt) hm253 ⟨⟨_, _, rfl⟩, rfl⟩ rfl (fun hc => ?_) (fun hc => ?_)
      · have h := h.1 hc
        refine w_iconst (q := 127) hm253 ⟨⟨_, _, rfl⟩, rfl⟩ iconst_0 ?_
        exact w_reti hm253 ⟨⟨_, _, rfl⟩, rfl⟩ rfl h
      · have h := h.2 hc
        refine w_iconst (q := 123) hm253 ⟨⟨_, _, rfl⟩, rfl⟩ iconst_1 ?_
        refine w_goto (q := 127) hm253 ⟨_, _, rfl⟩ ?_
        exact w_reti hm253 ⟨⟨_, _, rfl⟩, rfl⟩ rfl h
    · have h := (h.2.2.2.2.2.1) hc
      change Wp _ _ 128 _ _ _ _
      refine w_iload_n (q := 129) hm253 ⟨⟨_, _, rfl⟩, rfl⟩ rfl ?_
      refine w_if_eq (q := 132) (X := r3.toInt) hm253 ⟨⟨_, _, rfl⟩, rfl⟩ rfl (fun hc => ?_) (fun hc => ?_)
      · have h := h.1 hc
        refine w_iconst (q := 137) hm253 ⟨⟨_, _, rfl⟩, rfl⟩ iconst_0 ?_
        exact w_reti hm253 ⟨⟨_, _, rfl⟩, rfl⟩ rfl h
      · have h := h.2 hc
        refine w_iconst (q := 133) hm253 ⟨⟨_, _, rfl⟩, rfl⟩ iconst_1 ?_
        refine w_goto (q := 137) hm253 ⟨_, _, rfl⟩ ?_
        exact w_reti hm253 ⟨⟨_, _, rfl⟩, rfl⟩ rfl h
    · have h := (h.2.2.2.2.2.2.1) hc
      change Wp _ _ 138 _ _ _ _
      refine w_iload_n (q := 139) hm253 ⟨⟨_, _, rfl⟩, rfl⟩ rfl ?_
      refine w_if_eq (q := 142) (X := r3.toInt) hm253 ⟨⟨_, _, rfl⟩, rfl⟩ rfl (fun hc => ?_) (fun hc => ?_)
      · have h := h.1 hc
        refine w_iconst (q := 158) hm253 ⟨⟨_, _, rfl⟩, rfl⟩ iconst_0 ?_
        exact w_reti hm253 ⟨⟨_, _, rfl⟩, rfl⟩ rfl h
      · have h := h.2 hc
        refine w_aload_n (q := 143) hm253 ⟨⟨_, _, rfl⟩, rfl⟩ rfl ?_
        refine w_getr (q := 146) hm253 ⟨⟨_, _, rfl⟩, rfl⟩ rfl ?_
        refine w_aload_n (q := 147) hm253 ⟨⟨_, _, rfl⟩, rfl⟩ rfl ?_
        refine w_getr (q := 150) hm253 ⟨⟨_, _, rfl⟩, rfl⟩ rfl ?_
        refine w_iload_n (q := 151) hm253 ⟨⟨_, _, rfl⟩, rfl⟩ rfl ?_
        refine w_call (q := 154) (n := 0) (vs := [.inr (.inr (some 54)), .inr (.inr (some 47)), .inl x1]) (rest := []) (la := [oR 54, oR 47, oI x1]) hm253 ⟨⟨_, _, rfl⟩, rfl⟩ rfl rfl rfl rfl hm129 rfl rfl (fun _ => ⟨_, _, rfl, rfl⟩) rfl (Wp.mono h ?_)
        rintro _ m5 ⟨r5, rfl, h⟩
        change Wp _ _ 154 _ [.inl r5] _ _
        refine w_goto (q := 158) hm253 ⟨_, _, rfl⟩ ?_
        exact w_reti hm253 ⟨⟨_, _, rfl⟩, rfl⟩ rfl h
    · have h := (h.2.2.2.2.2.2.2) hc
      change Wp _ _ 159 _ _ _ _
      refine w_iconst (q := 160) hm253 ⟨⟨_, _, rfl⟩, rfl⟩ iconst_m1 ?_
      exact w_reti hm253 ⟨⟨_, _, rfl⟩, rfl⟩ rfl h
  · have h := h.2 hc
    refine w_iconst (q := 9) hm253 ⟨⟨_, _, rfl⟩, rfl⟩ iconst_m1 ?_
    exact w_reti hm253 ⟨⟨_, _, rfl⟩, rfl⟩ rfl h
theorem v_X12_isUse_70 {d : Nat} {x1 : Int32} {m : dM} {Q : Int32 → dM → Prop} (h : ((0 ≤ (m.1 70 18).toInt ∧ (m.1 70 18).toInt < 2) ∧ c_X12_in d x1 (0 : Int32) ((m.1 86 (m.1 70 18).toNatClampNeg) - (1 : Int32)) m (fun r1 m1 => (r1 = 0 ∨ r1 = 1) ∧ Q r1 m1))) : c_X12_isUse_70 (d + 1) x1 m Q := by
  refine w_iload_n (q := 1) hm41 ⟨⟨_, _, rfl⟩, rfl⟩ rfl ?_
  refine w_iconst (q := 2) hm41 ⟨⟨_, _, rfl⟩, rfl⟩ iconst_0 ?_
  refine w_aload_n (q := 3) hm41 ⟨⟨_, _, rfl⟩, rfl⟩ rfl ?_
  refine w_getr (q := 6) hm41 ⟨⟨_, _, rfl⟩, rfl⟩ rfl ?_
  refine w_aload_n (q := 7) hm41 ⟨⟨_, _, rfl⟩, rfl⟩ rfl ?_
  refine w_getf (q := 10) (v := (m.1 70 18)) hm41 ⟨⟨_, _, rfl⟩, rfl⟩ rfl rfl ?_
  obtain ⟨hi, h⟩ := h
  refine w_iald (q := 11) (v := (m.1 86 (m.1 70 18).toNatClampNeg)) hm41 ⟨⟨_, _, rfl⟩, rfl⟩ rfl hi rfl rfl ?_
  refine w_iconst (q := 12) hm41 ⟨⟨_, _, rfl⟩, rfl⟩ iconst_1 ?_
  refine w_isub (q := 13) hm41 ⟨⟨_, _, rfl⟩, rfl⟩ ?_
  refine w_call (q := 16) (n := 0) (vs := [.inl x1, .inl (0 : Int32), .inl ((m.1 86 (m.1 70 18).toNatClampNeg) - (1 : Int32))]) (rest := []) (la := [oI x1, oI (0 : Int32), oI ((m.1 86 (m.1 70 18).toNatClampNeg) - (1 : Int32))]) hm41 ⟨⟨_, _, rfl⟩, rfl⟩ rfl rfl rfl rfl hm36 rfl rfl (fun hz => absurd hz (by decide)) rfl (Wp.mono h ?_)
  rintro _ m1 ⟨r1, rfl, h⟩
  change Wp _ _ 16 _ [.inl r1] _ _
  exact w_retz hm41 ⟨⟨_, _, rfl⟩, rfl⟩ rfl h.1 h.2
theorem v_X12_paysOf_70 {d : Nat} {x1 : Int32} {m : dM} {Q : Int32 → dM → Prop} (h : c_X12_looks_70 d ((m.1 108 55) - (m.1 108 55) / (24 : Int32) * (24 : Int32)) x1 m (fun m1 => c_X12_ampsAt_70 d x1 m1 (fun r2 m2 => c_X12_lawTells_70 d (3 : Int32) r2 (dSet m2 105 5 r2) (fun r3 m3 => c_X12_within d r3 (0 : Int32) (99 : Int32) m3 (fun r4 m4 => Q r4 m4))))) : c_X12_paysOf_70 (d + 1) x1 m Q := by
  refine w_aload_n (q := 1) hm64 ⟨⟨_, _, rfl⟩, rfl⟩ rfl ?_
  refine w_aload_n (q := 2) hm64 ⟨⟨_, _, rfl⟩, rfl⟩ rfl ?_
  refine w_getr (q := 5) hm64 ⟨⟨_, _, rfl⟩, rfl⟩ rfl ?_
  refine w_bipush (q := 7) hm64 ⟨⟨_, _, rfl⟩, rfl⟩ bipush_55 ?_
  refine w_iald (q := 8) (j := 55) (v := (m.1 108 55)) hm64 ⟨⟨_, _, rfl⟩, rfl⟩ rfl (by decide) (by decide) rfl ?_
  refine w_bipush (q := 10) hm64 ⟨⟨_, _, rfl⟩, rfl⟩ bipush_24 ?_
  refine w_irem (q := 11) hm64 ⟨⟨_, _, rfl⟩, rfl⟩ (by decide) ?_
  refine w_iload_n (q := 12) hm64 ⟨⟨_, _, rfl⟩, rfl⟩ rfl ?_
  refine w_call (q := 15) (n := 1) (vs := [.inr (.inr (some 70)), .inl ((m.1 108 55) - (m.1 108 55) / (24 : Int32) * (24 : Int32)), .inl x1]) (rest := []) (la := [oR 70, oI ((m.1 108 55) - (m.1 108 55) / (24 : Int32) * (24 : Int32)), oI x1, none]) hm64 ⟨⟨_, _, rfl⟩, rfl⟩ rfl rfl rfl rfl hm58 rfl rfl (fun _ => ⟨_, _, rfl, rfl⟩) rfl (Wp.mono h ?_)
  rintro _ m1 ⟨rfl, h⟩
  change Wp _ _ 15 _ [] _ _
  refine w_aload_n (q := 16) hm64 ⟨⟨_, _, rfl⟩, rfl⟩ rfl ?_
  refine w_getr (q := 19) hm64 ⟨⟨_, _, rfl⟩, rfl⟩ rfl ?_
  refine w_iconst (q := 20) hm64 ⟨⟨_, _, rfl⟩, rfl⟩ iconst_5 ?_
  refine w_aload_n (q := 21) hm64 ⟨⟨_, _, rfl⟩, rfl⟩ rfl ?_
  refine w_iload_n (q := 22) hm64 ⟨⟨_, _, rfl⟩, rfl⟩ rfl ?_
  refine w_call (q := 25) (n := 0) (vs := [.inr (.inr (some 70)), .inl x1]) (rest := [.inl (5 : Int32), .inr (.inr (some 105))]) (la := [oR 70, oI x1]) hm64 ⟨⟨_, _, rfl⟩, rfl⟩ rfl rfl rfl rfl hm54 rfl rfl (fun _ => ⟨_, _, rfl, rfl⟩) rfl (Wp.mono h ?_)
  rintro _ m2 ⟨r2, rfl, h⟩
  change Wp _ _ 25 _ [.inl r2, .inl (5 : Int32), .inr (.inr (some 105))] _ _
  refine w_iast (q := 26) (j := 5) hm64 ⟨⟨_, _, rfl⟩, rfl⟩ rfl (by decide) (by decide) rfl ?_
  refine w_aload_n (q := 27) hm64 ⟨⟨_, _, rfl⟩, rfl⟩ rfl ?_
  refine w_iconst (q := 28) hm64 ⟨⟨_, _, rfl⟩, rfl⟩ iconst_3 ?_
  refine w_aload_n (q := 29) hm64 ⟨⟨_, _, rfl⟩, rfl⟩ rfl ?_
  refine w_getr (q := 32) hm64 ⟨⟨_, _, rfl⟩, rfl⟩ rfl ?_
  refine w_iconst (q := 33) hm64 ⟨⟨_, _, rfl⟩, rfl⟩ iconst_5 ?_
  refine w_iald (q := 34) (j := 5) (v := r2) hm64 ⟨⟨_, _, rfl⟩, rfl⟩ rfl (by decide) (by decide) rfl ?_
  refine w_call (q := 37) (n := 4) (vs := [.inr (.inr (some 70)), .inl (3 : Int32), .inl r2]) (rest := []) (la := [oR 70, oI (3 : Int32), oI r2, none, none, none, none]) hm64 ⟨⟨_, _, rfl⟩, rfl⟩ rfl rfl rfl rfl hm59 rfl rfl (fun _ => ⟨_, _, rfl, rfl⟩) rfl (Wp.mono h ?_)
  rintro _ m3 ⟨r3, rfl, h⟩
  change Wp _ _ 37 _ [.inl r3] _ _
  refine w_iconst (q := 38) hm64 ⟨⟨_, _, rfl⟩, rfl⟩ iconst_0 ?_
  refine w_bipush (q := 40) hm64 ⟨⟨_, _, rfl⟩, rfl⟩ bipush_99 ?_
  refine w_call (q := 43) (n := 0) (vs := [.inl r3, .inl (0 : Int32), .inl (99 : Int32)]) (rest := []) (la := [oI r3, oI (0 : Int32), oI (99 : Int32)]) hm64 ⟨⟨_, _, rfl⟩, rfl⟩ rfl rfl rfl rfl hm37 rfl rfl (fun hz => absurd hz (by decide)) rfl (Wp.mono h ?_)
  rintro _ m4 ⟨r4, rfl, h⟩
  change Wp _ _ 43 _ [.inl r4] _ _
  exact w_reti hm64 ⟨⟨_, _, rfl⟩, rfl⟩ rfl h
theorem v_X12_use_70 {d : Nat} {x1 : Int32} {x2 : Int32} {m : dM} {Q : Int32 → dM → Prop} (h : c_X12_isUse_70 d x1 m (fun r1 m1 => ((r1.toInt ≠ 0 → c_X12_copies_70 d m1 (fun m2 => ((x2.toInt = 0 → c_X12_flatAt_70 d x1 m2 (fun r3 m3 => Q r3 m3)) ∧ (x2.toInt = 1 → c_X12_ampsAt_70 d x1 m2 (fun r4 m4 => Q r4 m4)) ∧ (x2.toInt = 2 → ((0 ≤ (((8 : Int32) * (m2.1 70 18)) + x1).toInt ∧ (((8 : Int32) * (m2.1 70 18)) + x1).toInt < 16) ∧ Q (m2.1 89 (((8 : Int32) * (m2.1 70 18)) + x1).toNatClampNeg) m2)) ∧ (x2.toInt = 3 → ((0 ≤ (((8 : Int32) * (m2.1 70 18)) + x1).toInt ∧ (((8 : Int32) * (m2.1 70 18)) + x1).toInt < 16) ∧ Q (m2.1 90 (((8 : Int32) * (m2.1 70 18)) + x1).toNatClampNeg) m2)) ∧ (x2.toInt = 4 → ((0 ≤ ((47 : Int32) + x1).toInt ∧ ((47 : Int32) + x1).toInt < 58) ∧ Q (m2.1 108 ((47 : Int32) + x1).toNatClampNeg) m2)) ∧ (x2.toInt = 5 → c_X12_onNow_70 d m2 (fun r5 m5 => Q ((r5 >>> (x1 &&& 31)) &&& (1 : Int32)) m5)) ∧ (x2.toInt = 6 → c_X12_paysOf_70 d x1 m2 (fun r6 m6 => Q r6 m6)) ∧ (x2.toInt < 0 ∨ 6 < x2.toInt → Q (-1 : Int32) m2)))) ∧ (r1.toInt = 0 → Q (-1 : Int32) m1)))) : c_X12_use_70 (d + 1) x1 x2 m Q := by
  refine w_aload_n (q := 1) hm72 ⟨⟨_, _, rfl⟩, rfl⟩ rfl ?_
  refine w_iload_n (q := 2) hm72 ⟨⟨_, _, rfl⟩, rfl⟩ rfl ?_
  refine w_call (q := 5) (n := 0) (vs := [.inr (.inr (some 70)), .inl x1]) (rest := []) (la := [oR 70, oI x1]) hm72 ⟨⟨_, _, rfl⟩, rfl⟩ rfl rfl rfl rfl hm41 rfl rfl (fun _ => ⟨_, _, rfl, rfl⟩) rfl (Wp.mono h ?_)
  rintro _ m1 ⟨r1, rfl, h⟩
  change Wp _ _ 5 _ [.inl r1] _ _
  refine w_if_ne (q := 8) (X := r1.toInt) hm72 ⟨⟨_, _, rfl⟩, rfl⟩ rfl (fun hc => ?_) (fun hc => ?_)
  · have h := h.1 hc
    refine w_aload_n (q := 11) hm72 ⟨⟨_, _, rfl⟩, rfl⟩ rfl ?_
    refine w_call (q := 14) (n := 1) (vs := [.inr (.inr (some 70))]) (rest := []) (la := [oR 70, none]) hm72 ⟨⟨_, _, rfl⟩, rfl⟩ rfl rfl rfl rfl hm44 rfl rfl (fun _ => ⟨_, _, rfl, rfl⟩) rfl (Wp.mono h ?_)
    rintro _ m2 ⟨rfl, h⟩
    change Wp _ _ 14 _ [] _ _
    refine w_iload_n (q := 15) hm72 ⟨⟨_, _, rfl⟩, rfl⟩ rfl ?_
    refine w_tsw (X := x2.toInt) hm72 ⟨_, _, rfl⟩ (by decide) (by decide) rfl ((And.intro (fun hc => ?_) (And.intro (fun hc => ?_) (And.intro (fun hc => ?_) (And.intro (fun hc => ?_) (And.intro (fun hc => ?_) (And.intro (fun hc => ?_) (And.intro (fun hc => ?_) trivial)))))))) (fun hc => ?_)
    · have h := (h.1) hc
      change Wp _ _ 56 _ _ _ _
      refine w_aload_n (q := 57) hm72 ⟨⟨_, _, rfl⟩, rfl⟩ rfl ?_
      refine w_iload_n (q := 58) hm72 ⟨⟨_, _, rfl⟩, rfl⟩ rfl ?_
      refine w_call (q := 61) (n := 0) (vs := [.inr (.inr (some 70)), .inl x1]) (rest := []) (la := [oR 70, oI x1]) hm72 ⟨⟨_, _, rfl⟩, rfl⟩ rfl rfl rfl rfl hm53 rfl rfl (fun _ => ⟨_, _, rfl, rfl⟩) rfl (Wp.mono h ?_)
      rintro _ m3 ⟨r3, rfl, h⟩
      change Wp _ _ 61 _ [.inl r3] _ _
      exact w_reti hm72 ⟨⟨_, _, rfl⟩, rfl⟩ rfl h
    · have h := (h.2.1) hc
      change Wp _ _ 62 _ _ _ _
      refine w_aload_n (q := 63) hm72 ⟨⟨_, _, rfl⟩, rfl⟩ rfl ?_
      refine w_iload_n (q := 64) hm72 ⟨⟨_, _, rfl⟩, rfl⟩ rfl ?_
      refine w_call (q := 67) (n := 0) (vs := [.inr (.inr (some 70)), .inl x1]) (rest := []) (la := [oR 70, oI x1]) hm72 ⟨⟨_, _, rfl⟩, rfl⟩ rfl rfl rfl rfl hm54 rfl rfl (fun _ => ⟨_, _, rfl, rfl⟩) rfl (Wp.mono h ?_)
      rintro _ m4 ⟨r4, rfl, h⟩
      change Wp _ _ 67 _ [.inl r4] _ _
      exact w_reti hm72 ⟨⟨_, _, rfl⟩, rfl⟩ rfl h
    · have h := (h.2.2.1) hc
      change Wp _ _ 68 _ _ _ _
      refine w_aload_n (q := 69) hm72 ⟨⟨_, _, rfl⟩, rfl⟩ rfl ?_
      refine w_getr (q := 72) hm72 ⟨⟨_, _, rfl⟩, rfl⟩ rfl ?_
      refine w_bipush (q := 74) hm72 ⟨⟨_, _, rfl⟩, rfl⟩ bipush_8 ?_
      refine w_aload_n (q := 75) hm72 ⟨⟨_, _, rfl⟩, rfl⟩ rfl ?_
      refine w_getf (q := 78) (v := (m2.1 70 18)) hm72 ⟨⟨_, _, rfl⟩, rfl⟩ rfl rfl ?_
      refine w_imul (q := 79) hm72 ⟨⟨_, _, rfl⟩, rfl⟩ ?_
      refine w_iload_n (q := 80) hm72 ⟨⟨_, _, rfl⟩, rfl⟩ rfl ?_
      refine w_iadd (q := 81) hm72 ⟨⟨_, _, rfl⟩, rfl⟩ ?_
      obtain ⟨hi, h⟩ := h
      refine w_iald (q := 82) (v := (m2.1 89 (((8 : Int32) * (m2.1 70 18)) + x1).toNatClampNeg)) hm72 ⟨⟨_, _, rfl⟩, rfl⟩ rfl hi rfl rfl ?_
      exact w_reti hm72 ⟨⟨_, _, rfl⟩, rfl⟩ rfl h
    · have h := (h.2.2.2.1) hc
      change Wp _ _ 83 _ _ _ _
      refine w_aload_n (q := 84) hm72 ⟨⟨_, _, rfl⟩, rfl⟩ rfl ?_
      refine w_getr (q := 87) hm72 ⟨⟨_, _, rfl⟩, rfl⟩ rfl ?_
      refine w_bipush (q := 89) hm72 ⟨⟨_, _, rfl⟩, rfl⟩ bipush_8 ?_
      refine w_aload_n (q := 90) hm72 ⟨⟨_, _, rfl⟩, rfl⟩ rfl ?_
      refine w_getf (q := 93) (v := (m2.1 70 18)) hm72 ⟨⟨_, _, rfl⟩, rfl⟩ rfl rfl ?_
      refine w_imul (q := 94) hm72 ⟨⟨_, _, rfl⟩, rfl⟩ ?_
      refine w_iload_n (q := 95) hm72 ⟨⟨_, _, rfl⟩, rfl⟩ rfl ?_
      refine w_iadd (q := 96) hm72 ⟨⟨_, _, rfl⟩, rfl⟩ ?_
      obtain ⟨hi, h⟩ := h
      refine w_iald (q := 97) (v := (m2.1 90 (((8 : Int32) * (m2.1 70 18)) + x1).toNatClampNeg)) hm72 ⟨⟨_, _, rfl⟩, rfl⟩ rfl hi rfl rfl ?_
      exact w_reti hm72 ⟨⟨_, _, rfl⟩, rfl⟩ rfl h
    · have h := (h.2.2.2.2.1) hc
      change Wp _ _ 98 _ _ _ _
      refine w_aload_n (q := 99) hm72 ⟨⟨_, _, rfl⟩, rfl⟩ rfl ?_
      refine w_getr (q := 102) hm72 ⟨⟨_, _, rfl⟩, rfl⟩ rfl ?_
      refine w_bipush (q := 104) hm72 ⟨⟨_, _, rfl⟩, rfl⟩ bipush_47 ?_
      refine w_iload_n (q := 105) hm72 ⟨⟨_, _, rfl⟩, rfl⟩ rfl ?_
      refine w_iadd (q := 106) hm72 ⟨⟨_, _, rfl⟩, rfl⟩ ?_
      obtain ⟨hi, h⟩ := h
      refine w_iald (q := 107) (v := (m2.1 108 ((47 : Int32) + x1).toNatClampNeg)) hm72 ⟨⟨_, _, rfl⟩, rfl⟩ rfl hi rfl rfl ?_
      exact w_reti hm72 ⟨⟨_, _, rfl⟩, rfl⟩ rfl h
    · have h := (h.2.2.2.2.2.1) hc
      change Wp _ _ 108 _ _ _ _
      refine w_aload_n (q := 109) hm72 ⟨⟨_, _, rfl⟩, rfl⟩ rfl ?_
      refine w_call (q := 112) (n := 0) (vs := [.inr (.inr (some 70))]) (rest := []) (la := [oR 70]) hm72 ⟨⟨_, _, rfl⟩, rfl⟩ rfl rfl rfl rfl hm56 rfl rfl (fun _ => ⟨_, _, rfl, rfl⟩) rfl (Wp.mono h ?_)
      rintro _ m5 ⟨r5, rfl, h⟩
      change Wp _ _ 112 _ [.inl r5] _ _
      refine w_iload_n (q := 113) hm72 ⟨⟨_, _, rfl⟩, rfl⟩ rfl ?_
      refine w_ishr (q := 114) hm72 ⟨⟨_, _, rfl⟩, rfl⟩ ?_
      refine w_iconst (q := 115) hm72 ⟨⟨_, _, rfl⟩, rfl⟩ iconst_1 ?_
      refine w_iand (q := 116) hm72 ⟨⟨_, _, rfl⟩, rfl⟩ ?_
      exact w_reti hm72 ⟨⟨_, _, rfl⟩, rfl⟩ rfl h
    · have h := (h.2.2.2.2.2.2.1) hc
      change Wp _ _ 117 _ _ _ _
      refine w_aload_n (q := 118) hm72 ⟨⟨_, _, rfl⟩, rfl⟩ rfl ?_
      refine w_iload_n (q := 119) hm72 ⟨⟨_, _, rfl⟩, rfl⟩ rfl ?_
      refine w_call (q := 122) (n := 0) (vs := [.inr (.inr (some 70)), .inl x1]) (rest := []) (la := [oR 70, oI x1]) hm72 ⟨⟨_, _, rfl⟩, rfl⟩ rfl rfl rfl rfl hm64 rfl rfl (fun _ => ⟨_, _, rfl, rfl⟩) rfl (Wp.mono h ?_)
      rintro _ m6 ⟨r6, rfl, h⟩
      change Wp _ _ 122 _ [.inl r6] _ _
      exact w_reti hm72 ⟨⟨_, _, rfl⟩, rfl⟩ rfl h
    · have h := (h.2.2.2.2.2.2.2) hc
      change Wp _ _ 123 _ _ _ _
      refine w_iconst (q := 124) hm72 ⟨⟨_, _, rfl⟩, rfl⟩ iconst_m1 ?_
      exact w_reti hm72 ⟨⟨_, _, rfl⟩, rfl⟩ rfl h
  · have h := h.2 hc
    refine w_iconst (q := 9) hm72 ⟨⟨_, _, rfl⟩, rfl⟩ iconst_m1 ?_
    exact w_reti hm72 ⟨⟨_, _, rfl⟩, rfl⟩ rfl h
theorem v_X7_writeTo_47_52 {d : Nat} {x2 : Int32} {m : dM} {Q : dM → Prop} (h : ((x2.toInt < 0 → j_X7_writeTo_47_52_13 (d + 1) m Q) ∧ (0 ≤ x2.toInt → ((x2.toInt ≤ ((1320 : Int32) - (33 : Int32)).toInt → ((0 ≤ x2.toInt ∧ x2.toInt < 1320) ∧ ((0 ≤ (x2 + (1 : Int32)).toInt ∧ (x2 + (1 : Int32)).toInt < 1320) ∧ ((0 ≤ (x2 + (2 : Int32)).toInt ∧ (x2 + (2 : Int32)).toInt < 1320) ∧ ((0 ≤ (x2 + (3 : Int32)).toInt ∧ (x2 + (3 : Int32)).toInt < 1320) ∧ ((0 ≤ (x2 + (4 : Int32)).toInt ∧ (x2 + (4 : Int32)).toInt < 1320) ∧ ((0 ≤ (x2 + (5 : Int32)).toInt ∧ (x2 + (5 : Int32)).toInt < 1320) ∧ ((0 ≤ (10 : Int) ∧ 0 ≤ (x2 + (6 : Int32)).toInt ∧ 0 ≤ (0 : Int) ∧ (0 : Int) + (10 : Int) ≤ 10 ∧ (x2 + (6 : Int32)).toInt + (10 : Int) ≤ 1320) ∧ ((0 ≤ (10 : Int) ∧ 0 ≤ ((x2 + (6 : Int32)) + (10 : Int32)).toInt ∧ 0 ≤ (0 : Int) ∧ (0 : Int) + (10 : Int) ≤ 10 ∧ ((x2 + (6 : Int32)) + (10 : Int32)).toInt + (10 : Int) ≤ 1320) ∧ ((0 ≤ (7 : Int) ∧ 0 ≤ ((x2 + (6 : Int32)) + (20 : Int32)).toInt ∧ 0 ≤ (0 : Int) ∧ (0 : Int) + (7 : Int) ≤ 7 ∧ ((x2 + (6 : Int32)) + (20 : Int32)).toInt + (7 : Int) ≤ 1320) ∧ Q (dCpy (dCpy (dCpy (dSet (dSet (dSet (dSet (dSet (dSet m 52 x2.toNatClampNeg (m.1 47 0)) 52 (x2 + (1 : Int32)).toNatClampNeg (m.1 47 1)) 52 (x2 + (2 : Int32)).toNatClampNeg (m.1 47 2)) 52 (x2 + (3 : Int32)).toNatClampNeg (m.1 47 3)) 52 (x2 + (4 : Int32)).toNatClampNeg (m.1 47 4)) 52 (x2 + (5 : Int32)).toNatClampNeg (m.1 47 5)) 48 (0 : Int).toNat 52 ((x2 + (6 : Int32)).toInt).toNat (10 : Int).toNat) 49 (0 : Int).toNat 52 (((x2 + (6 : Int32)) + (10 : Int32)).toInt).toNat (10 : Int).toNat) 50 (0 : Int).toNat 52 (((x2 + (6 : Int32)) + (20 : Int32)).toInt).toNat (7 : Int).toNat))))))))))) ∧ (((1320 : Int32) - (33 : Int32)).toInt < x2.toInt → j_X7_writeTo_47_52_13 (d + 1) m Q))))) : c_X7_writeTo_47_52 (d + 1) x2 m Q := by
  refine w_iload_n (q := 1) hm210 ⟨⟨_, _, rfl⟩, rfl⟩ rfl ?_
  refine w_if_lt (q := 4) (X := x2.toInt) hm210 ⟨⟨_, _, rfl⟩, rfl⟩ rfl (fun hc => ?_) (fun hc => ?_)
  · have h := h.1 hc
    exact Wp.wk [false, false, false] h
  · have h := h.2 hc
    refine w_iload_n (q := 5) hm210 ⟨⟨_, _, rfl⟩, rfl⟩ rfl ?_
    refine w_aload_n (q := 6) hm210 ⟨⟨_, _, rfl⟩, rfl⟩ rfl ?_
    refine w_alen (q := 7) hm210 ⟨⟨_, _, rfl⟩, rfl⟩ rfl alen_1320 ?_
    refine w_bipush (q := 9) hm210 ⟨⟨_, _, rfl⟩, rfl⟩ bipush_33 ?_
    refine w_isub (q := 10) hm210 ⟨⟨_, _, rfl⟩, rfl⟩ ?_
    refine w_icmp_le (q := 13) (X := x2.toInt) (Y := ((1320 : Int32) - (33 : Int32)).toInt) hm210 ⟨⟨_, _, rfl⟩, rfl⟩ rfl rfl (fun hc => ?_) (fun hc => ?_)
    · have h := h.1 hc
      refine w_aload_n (q := 15) hm210 ⟨⟨_, _, rfl⟩, rfl⟩ rfl ?_
      refine w_iload_n (q := 16) hm210 ⟨⟨_, _, rfl⟩, rfl⟩ rfl ?_
      refine w_aload_n (q := 17) hm210 ⟨⟨_, _, rfl⟩, rfl⟩ rfl ?_
      refine w_getf (q := 20) (v := (m.1 47 0)) hm210 ⟨⟨_, _, rfl⟩, rfl⟩ rfl rfl ?_
      obtain ⟨hi, h⟩ := h
      refine w_iast (q := 21) hm210 ⟨⟨_, _, rfl⟩, rfl⟩ rfl hi rfl rfl ?_
      refine w_aload_n (q := 22) hm210 ⟨⟨_, _, rfl⟩, rfl⟩ rfl ?_
      refine w_iload_n (q := 23) hm210 ⟨⟨_, _, rfl⟩, rfl⟩ rfl ?_
      refine w_iconst (q := 24) hm210 ⟨⟨_, _, rfl⟩, rfl⟩ iconst_1 ?_
      refine w_iadd (q := 25) hm210 ⟨⟨_, _, rfl⟩, rfl⟩ ?_
      refine w_aload_n (q := 26) hm210 ⟨⟨_, _, rfl⟩, rfl⟩ rfl ?_
      refine w_getf (q := 29) (v := (m.1 47 1)) hm210 ⟨⟨_, _, rfl⟩, rfl⟩ rfl rfl ?_
      obtain ⟨hi, h⟩ := h
      refine w_iast (q := 30) hm210 ⟨⟨_, _, rfl⟩, rfl⟩ rfl hi rfl rfl ?_
      refine w_aload_n (q := 31) hm210 ⟨⟨_, _, rfl⟩, rfl⟩ rfl ?_
      refine w_iload_n (q := 32) hm210 ⟨⟨_, _, rfl⟩, rfl⟩ rfl ?_
      refine w_iconst (q := 33) hm210 ⟨⟨_, _, rfl⟩, rfl⟩ iconst_2 ?_
      refine w_iadd (q := 34) hm210 ⟨⟨_, _, rfl⟩, rfl⟩ ?_
      refine w_aload_n (q := 35) hm210 ⟨⟨_, _, rfl⟩, rfl⟩ rfl ?_
      refine w_getf (q := 38) (v := (m.1 47 2)) hm210 ⟨⟨_, _, rfl⟩, rfl⟩ rfl rfl ?_
      obtain ⟨hi, h⟩ := h
      refine w_iast (q := 39) hm210 ⟨⟨_, _, rfl⟩, rfl⟩ rfl hi rfl rfl ?_
      refine w_aload_n (q := 40) hm210 ⟨⟨_, _, rfl⟩, rfl⟩ rfl ?_
      refine w_iload_n (q := 41) hm210 ⟨⟨_, _, rfl⟩, rfl⟩ rfl ?_
      refine w_iconst (q := 42) hm210 ⟨⟨_, _, rfl⟩, rfl⟩ iconst_3 ?_
      refine w_iadd (q := 43) hm210 ⟨⟨_, _, rfl⟩, rfl⟩ ?_
      refine w_aload_n (q := 44) hm210 ⟨⟨_, _, rfl⟩, rfl⟩ rfl ?_
      refine w_getf (q := 47) (v := (m.1 47 3)) hm210 ⟨⟨_, _, rfl⟩, rfl⟩ rfl rfl ?_
      obtain ⟨hi, h⟩ := h
      refine w_iast (q := 48) hm210 ⟨⟨_, _, rfl⟩, rfl⟩ rfl hi rfl rfl ?_
      refine w_aload_n (q := 49) hm210 ⟨⟨_, _, rfl⟩, rfl⟩ rfl ?_
      refine w_iload_n (q := 50) hm210 ⟨⟨_, _, rfl⟩, rfl⟩ rfl ?_
      refine w_iconst (q := 51) hm210 ⟨⟨_, _, rfl⟩, rfl⟩ iconst_4 ?_
      refine w_iadd (q := 52) hm210 ⟨⟨_, _, rfl⟩, rfl⟩ ?_
      refine w_aload_n (q := 53) hm210 ⟨⟨_, _, rfl⟩, rfl⟩ rfl ?_
      refine w_getf (q := 56) (v := (m.1 47 4)) hm210 ⟨⟨_, _, rfl⟩, rfl⟩ rfl rfl ?_
      obtain ⟨hi, h⟩ := h
      refine w_iast (q := 57) hm210 ⟨⟨_, _, rfl⟩, rfl⟩ rfl hi rfl rfl ?_
      refine w_aload_n (q := 58) hm210 ⟨⟨_, _, rfl⟩, rfl⟩ rfl ?_
      refine w_iload_n (q := 59) hm210 ⟨⟨_, _, rfl⟩, rfl⟩ rfl ?_
      refine w_iconst (q := 60) hm210 ⟨⟨_, _, rfl⟩, rfl⟩ iconst_5 ?_
      refine w_iadd (q := 61) hm210 ⟨⟨_, _, rfl⟩, rfl⟩ ?_
      refine w_aload_n (q := 62) hm210 ⟨⟨_, _, rfl⟩, rfl⟩ rfl ?_
      refine w_getf (q := 65) (v := (m.1 47 5)) hm210 ⟨⟨_, _, rfl⟩, rfl⟩ rfl rfl ?_
      obtain ⟨hi, h⟩ := h
      refine w_iast (q := 66) hm210 ⟨⟨_, _, rfl⟩, rfl⟩ rfl hi rfl rfl ?_
      refine w_aload_n (q := 67) hm210 ⟨⟨_, _, rfl⟩, rfl⟩ rfl ?_
      refine w_getr (q := 70) hm210 ⟨⟨_, _, rfl⟩, rfl⟩ rfl ?_
      refine w_iconst (q := 71) hm210 ⟨⟨_, _, rfl⟩, rfl⟩ iconst_0 ?_
      refine w_aload_n (q := 72) hm210 ⟨⟨_, _, rfl⟩, rfl⟩ rfl ?_
      refine w_iload_n (q := 73) hm210 ⟨⟨_, _, rfl⟩, rfl⟩ rfl ?_
      refine w_bipush (q := 75) hm210 ⟨⟨_, _, rfl⟩, rfl⟩ bipush_6 ?_
      refine w_iadd (q := 76) hm210 ⟨⟨_, _, rfl⟩, rfl⟩ ?_
      refine w_bipush (q := 78) hm210 ⟨⟨_, _, rfl⟩, rfl⟩ bipush_10 ?_
      obtain ⟨hi, h⟩ := h
      refine w_copy (q := 81) (N := 10) (D := (x2 + (6 : Int32)).toInt) (S := 0) hm210 ⟨⟨_, _, rfl⟩, rfl⟩ rfl rfl rfl rfl rfl (by decide) rfl (by decide) hi ?_
      refine w_aload_n (q := 82) hm210 ⟨⟨_, _, rfl⟩, rfl⟩ rfl ?_
      refine w_getr (q := 85) hm210 ⟨⟨_, _, rfl⟩, rfl⟩ rfl ?_
      refine w_iconst (q := 86) hm210 ⟨⟨_, _, rfl⟩, rfl⟩ iconst_0 ?_
      refine w_aload_n (q := 87) hm210 ⟨⟨_, _, rfl⟩, rfl⟩ rfl ?_
      refine w_iload_n (q := 88) hm210 ⟨⟨_, _, rfl⟩, rfl⟩ rfl ?_
      refine w_bipush (q := 90) hm210 ⟨⟨_, _, rfl⟩, rfl⟩ bipush_6 ?_
      refine w_iadd (q := 91) hm210 ⟨⟨_, _, rfl⟩, rfl⟩ ?_
      refine w_bipush (q := 93) hm210 ⟨⟨_, _, rfl⟩, rfl⟩ bipush_10 ?_
      refine w_iadd (q := 94) hm210 ⟨⟨_, _, rfl⟩, rfl⟩ ?_
      refine w_bipush (q := 96) hm210 ⟨⟨_, _, rfl⟩, rfl⟩ bipush_10 ?_
      obtain ⟨hi, h⟩ := h
      refine w_copy (q := 99) (N := 10) (D := ((x2 + (6 : Int32)) + (10 : Int32)).toInt) (S := 0) hm210 ⟨⟨_, _, rfl⟩, rfl⟩ rfl rfl rfl rfl rfl (by decide) rfl (by decide) hi ?_
      refine w_aload_n (q := 100) hm210 ⟨⟨_, _, rfl⟩, rfl⟩ rfl ?_
      refine w_getr (q := 103) hm210 ⟨⟨_, _, rfl⟩, rfl⟩ rfl ?_
      refine w_iconst (q := 104) hm210 ⟨⟨_, _, rfl⟩, rfl⟩ iconst_0 ?_
      refine w_aload_n (q := 105) hm210 ⟨⟨_, _, rfl⟩, rfl⟩ rfl ?_
      refine w_iload_n (q := 106) hm210 ⟨⟨_, _, rfl⟩, rfl⟩ rfl ?_
      refine w_bipush (q := 108) hm210 ⟨⟨_, _, rfl⟩, rfl⟩ bipush_6 ?_
      refine w_iadd (q := 109) hm210 ⟨⟨_, _, rfl⟩, rfl⟩ ?_
      refine w_bipush (q := 111) hm210 ⟨⟨_, _, rfl⟩, rfl⟩ bipush_20 ?_
      refine w_iadd (q := 112) hm210 ⟨⟨_, _, rfl⟩, rfl⟩ ?_
      refine w_bipush (q := 114) hm210 ⟨⟨_, _, rfl⟩, rfl⟩ bipush_7 ?_
      obtain ⟨hi, h⟩ := h
      refine w_copy (q := 117) (N := 7) (D := ((x2 + (6 : Int32)) + (20 : Int32)).toInt) (S := 0) hm210 ⟨⟨_, _, rfl⟩, rfl⟩ rfl rfl rfl rfl rfl (by decide) rfl (by decide) hi ?_
      exact w_retv hm210 ⟨⟨_, _, rfl⟩, rfl⟩ rfl h
    · have h := h.2 hc
      exact Wp.wk [false, false, false] h
theorem v_X7_writeTo_47_52_13 {d : Nat} {m : dM} {Q : dM → Prop} (h : Q m) : j_X7_writeTo_47_52_13 (d + 1) m Q := by
  exact w_retv hm210 ⟨⟨_, _, rfl⟩, rfl⟩ rfl h
theorem v_X6_keep_51_47 {d : Nat} {m : dM} {Q : dM → Prop} (h : c_X7_writeTo_47_52 d ((m.1 51 2) * (33 : Int32)) m (fun m1 => Q (dSet (dSet m1 51 2 (((m1.1 51 2) + (1 : Int32)) - ((m1.1 51 2) + (1 : Int32)) / (40 : Int32) * (40 : Int32))) 51 3 (if (40 : Int32) < ((m1.1 51 3) + (1 : Int32)) then (40 : Int32) else ((m1.1 51 3) + (1 : Int32)))))) : c_X6_keep_51_47 (d + 1) m Q := by
  refine w_aload_n (q := 1) hm203 ⟨⟨_, _, rfl⟩, rfl⟩ rfl ?_
  refine w_aload_n (q := 2) hm203 ⟨⟨_, _, rfl⟩, rfl⟩ rfl ?_
  refine w_getr (q := 5) hm203 ⟨⟨_, _, rfl⟩, rfl⟩ rfl ?_
  refine w_aload_n (q := 6) hm203 ⟨⟨_, _, rfl⟩, rfl⟩ rfl ?_
  refine w_getf (q := 9) (v := (m.1 51 2)) hm203 ⟨⟨_, _, rfl⟩, rfl⟩ rfl rfl ?_
  refine w_bipush (q := 11) hm203 ⟨⟨_, _, rfl⟩, rfl⟩ bipush_33 ?_
  refine w_imul (q := 12) hm203 ⟨⟨_, _, rfl⟩, rfl⟩ ?_
  refine w_call (q := 15) (n := 0) (vs := [.inr (.inr (some 47)), .inr (.inr (some 52)), .inl ((m.1 51 2) * (33 : Int32))]) (rest := []) (la := [oR 47, oR 52, oI ((m.1 51 2) * (33 : Int32))]) hm203 ⟨⟨_, _, rfl⟩, rfl⟩ rfl rfl rfl rfl hm210 rfl rfl (fun _ => ⟨_, _, rfl, rfl⟩) rfl (Wp.mono h ?_)
  rintro _ m1 ⟨rfl, h⟩
  change Wp _ _ 15 _ [] _ _
  refine w_aload_n (q := 16) hm203 ⟨⟨_, _, rfl⟩, rfl⟩ rfl ?_
  refine w_aload_n (q := 17) hm203 ⟨⟨_, _, rfl⟩, rfl⟩ rfl ?_
  refine w_getf (q := 20) (v := (m1.1 51 2)) hm203 ⟨⟨_, _, rfl⟩, rfl⟩ rfl rfl ?_
  refine w_iconst (q := 21) hm203 ⟨⟨_, _, rfl⟩, rfl⟩ iconst_1 ?_
  refine w_iadd (q := 22) hm203 ⟨⟨_, _, rfl⟩, rfl⟩ ?_
  refine w_bipush (q := 24) hm203 ⟨⟨_, _, rfl⟩, rfl⟩ bipush_40 ?_
  refine w_irem (q := 25) hm203 ⟨⟨_, _, rfl⟩, rfl⟩ (by decide) ?_
  refine w_putf (q := 28) hm203 ⟨⟨_, _, rfl⟩, rfl⟩ rfl rfl rfl ?_
  refine w_aload_n (q := 29) hm203 ⟨⟨_, _, rfl⟩, rfl⟩ rfl ?_
  refine w_aload_n (q := 30) hm203 ⟨⟨_, _, rfl⟩, rfl⟩ rfl ?_
  refine w_getf (q := 33) (v := (m1.1 51 3)) hm203 ⟨⟨_, _, rfl⟩, rfl⟩ rfl rfl ?_
  refine w_iconst (q := 34) hm203 ⟨⟨_, _, rfl⟩, rfl⟩ iconst_1 ?_
  refine w_iadd (q := 35) hm203 ⟨⟨_, _, rfl⟩, rfl⟩ ?_
  refine w_bipush (q := 37) hm203 ⟨⟨_, _, rfl⟩, rfl⟩ bipush_40 ?_
  refine w_min (q := 40) hm203 ⟨⟨_, _, rfl⟩, rfl⟩ rfl rfl ?_
  refine w_putf (q := 43) hm203 ⟨⟨_, _, rfl⟩, rfl⟩ rfl rfl rfl ?_
  exact w_retv hm203 ⟨⟨_, _, rfl⟩, rfl⟩ rfl h
theorem v_X11_agree_0 {d : Nat} {x1 : Int32} {x2 : Int32} {m : dM} {Q : Int32 → dM → Prop} (h : c_X11_isUse_0 d x1 m (fun r1 m1 => ((r1.toInt = 0 → j_X11_agree_0_23 (d + 1) m1 Q) ∧ (r1.toInt ≠ 0 → c_X11_has d (m1.1 47 5) x1 m1 (fun r2 m2 => ((r2.toInt ≠ x2.toInt → c_X6_keep_51_47 d m2 (fun m3 => Q (1 : Int32) (dSet m3 47 5 ((m3.1 47 5) ^^^ ((1 : Int32) <<< (x1 &&& 31)))))) ∧ (r2.toInt = x2.toInt → j_X11_agree_0_23 (d + 1) m2 Q))))))) : c_X11_agree_0 (d + 1) x1 x2 m Q := by
  refine w_aload_n (q := 1) hm254 ⟨⟨_, _, rfl⟩, rfl⟩ rfl ?_
  refine w_iload_n (q := 2) hm254 ⟨⟨_, _, rfl⟩, rfl⟩ rfl ?_
  refine w_call (q := 5) (n := 0) (vs := [.inr (.inr (some 0)), .inl x1]) (rest := []) (la := [oR 0, oI x1]) hm254 ⟨⟨_, _, rfl⟩, rfl⟩ rfl rfl rfl rfl hm250 rfl rfl (fun _ => ⟨_, _, rfl, rfl⟩) rfl (Wp.mono h ?_)
  rintro _ m1 ⟨r1, rfl, h⟩
  change Wp _ _ 5 _ [.inl r1] _ _
  refine w_if_eq (q := 8) (X := r1.toInt) hm254 ⟨⟨_, _, rfl⟩, rfl⟩ rfl (fun hc => ?_) (fun hc => ?_)
  · have h := h.1 hc
    exact Wp.wk [false, false, false] h
  · have h := h.2 hc
    refine w_aload_n (q := 9) hm254 ⟨⟨_, _, rfl⟩, rfl⟩ rfl ?_
    refine w_getr (q := 12) hm254 ⟨⟨_, _, rfl⟩, rfl⟩ rfl ?_
    refine w_getf (q := 15) (v := (m1.1 47 5)) hm254 ⟨⟨_, _, rfl⟩, rfl⟩ rfl rfl ?_
    refine w_iload_n (q := 16) hm254 ⟨⟨_, _, rfl⟩, rfl⟩ rfl ?_
    refine w_call (q := 19) (n := 0) (vs := [.inl (m1.1 47 5), .inl x1]) (rest := []) (la := [oI (m1.1 47 5), oI x1]) hm254 ⟨⟨_, _, rfl⟩, rfl⟩ rfl rfl rfl rfl hm283 rfl rfl (fun hz => absurd hz (by decide)) rfl (Wp.mono h ?_)
    rintro _ m2 ⟨r2, rfl, h⟩
    change Wp _ _ 19 _ [.inl r2] _ _
    refine w_iload_n (q := 20) hm254 ⟨⟨_, _, rfl⟩, rfl⟩ rfl ?_
    refine w_icmp_ne (q := 23) (X := r2.toInt) (Y := x2.toInt) hm254 ⟨⟨_, _, rfl⟩, rfl⟩ rfl rfl (fun hc => ?_) (fun hc => ?_)
    · have h := h.1 hc
      refine w_aload_n (q := 26) hm254 ⟨⟨_, _, rfl⟩, rfl⟩ rfl ?_
      refine w_getr (q := 29) hm254 ⟨⟨_, _, rfl⟩, rfl⟩ rfl ?_
      refine w_aload_n (q := 30) hm254 ⟨⟨_, _, rfl⟩, rfl⟩ rfl ?_
      refine w_getr (q := 33) hm254 ⟨⟨_, _, rfl⟩, rfl⟩ rfl ?_
      refine w_call (q := 36) (n := 0) (vs := [.inr (.inr (some 51)), .inr (.inr (some 47))]) (rest := []) (la := [oR 51, oR 47]) hm254 ⟨⟨_, _, rfl⟩, rfl⟩ rfl rfl rfl rfl hm203 rfl rfl (fun _ => ⟨_, _, rfl, rfl⟩) rfl (Wp.mono h ?_)
      rintro _ m3 ⟨rfl, h⟩
      change Wp _ _ 36 _ [] _ _
      refine w_aload_n (q := 37) hm254 ⟨⟨_, _, rfl⟩, rfl⟩ rfl ?_
      refine w_getr (q := 40) hm254 ⟨⟨_, _, rfl⟩, rfl⟩ rfl ?_
      refine w_dup (q := 41) hm254 ⟨⟨_, _, rfl⟩, rfl⟩ rfl ?_
      refine w_getf (q := 44) (v := (m3.1 47 5)) hm254 ⟨⟨_, _, rfl⟩, rfl⟩ rfl rfl ?_
      refine w_iconst (q := 45) hm254 ⟨⟨_, _, rfl⟩, rfl⟩ iconst_1 ?_
      refine w_iload_n (q := 46) hm254 ⟨⟨_, _, rfl⟩, rfl⟩ rfl ?_
      refine w_ishl (q := 47) hm254 ⟨⟨_, _, rfl⟩, rfl⟩ ?_
      refine w_ixor (q := 48) hm254 ⟨⟨_, _, rfl⟩, rfl⟩ ?_
      refine w_putf (q := 51) hm254 ⟨⟨_, _, rfl⟩, rfl⟩ rfl rfl rfl ?_
      refine w_iconst (q := 52) hm254 ⟨⟨_, _, rfl⟩, rfl⟩ iconst_1 ?_
      exact w_retz hm254 ⟨⟨_, _, rfl⟩, rfl⟩ rfl (by decide) h
    · have h := h.2 hc
      exact Wp.wk [false, false, false] h
theorem v_X11_agree_0_23 {d : Nat} {m : dM} {Q : Int32 → dM → Prop} (h : Q (0 : Int32) m) : j_X11_agree_0_23 (d + 1) m Q := by
  refine w_iconst (q := 24) hm254 ⟨⟨_, _, rfl⟩, rfl⟩ iconst_0 ?_
  exact w_retz hm254 ⟨⟨_, _, rfl⟩, rfl⟩ rfl (by decide) h
theorem v_X12_records_70 {d : Nat} {m : dM} {Q : dM → Prop} (h : (((m.1 70 61).toInt ≠ 40 → j_X12_records_70_49 (d + 1) m Q) ∧ ((m.1 70 61).toInt = 40 → j_X12_records_70_11 (d + 1) (0 : Int32) m Q))) : c_X12_records_70 (d + 1) m Q := by
  refine w_aload_n (q := 1) hm73 ⟨⟨_, _, rfl⟩, rfl⟩ rfl ?_
  refine w_getf (q := 4) (v := (m.1 70 61)) hm73 ⟨⟨_, _, rfl⟩, rfl⟩ rfl rfl ?_
  refine w_bipush (q := 6) hm73 ⟨⟨_, _, rfl⟩, rfl⟩ bipush_40 ?_
  refine w_icmp_ne (q := 9) (X := (m.1 70 61).toInt) (Y := 40) hm73 ⟨⟨_, _, rfl⟩, rfl⟩ rfl (by decide) (fun hc => ?_) (fun hc => ?_)
  · have h := h.1 hc
    exact h
  · have h := h.2 hc
    refine w_iconst (q := 10) hm73 ⟨⟨_, _, rfl⟩, rfl⟩ iconst_0 ?_
    refine w_istore_n (q := 11) (l' := [oR 70, oI (0 : Int32)]) hm73 ⟨⟨_, _, rfl⟩, rfl⟩ rfl rfl rfl ?_
    exact h
theorem v_X12_records_70_11 {d : Nat} {x1 : Int32} {m : dM} {Q : dM → Prop} (h : ((2262 ≤ x1.toInt → j_X12_records_70_49 (d + 1) (dSet m 70 61 ((m.1 70 61) - (1 : Int32))) Q) ∧ (x1.toInt < 2262 → ((0 ≤ (x1 + (58 : Int32)).toInt ∧ (x1 + (58 : Int32)).toInt < 2320) ∧ ((0 ≤ x1.toInt ∧ x1.toInt < 2320) ∧ j_X12_records_70_11 (d + 1) (x1 + (1 : Int32)) (dSet m 111 x1.toNatClampNeg (m.1 111 (x1 + (58 : Int32)).toNatClampNeg)) Q))))) : j_X12_records_70_11 (d + 1) x1 m Q := by
  refine w_iload_n (q := 12) hm73 ⟨⟨_, _, rfl⟩, rfl⟩ rfl ?_
  refine w_sipush (q := 15) hm73 ⟨⟨_, _, rfl⟩, rfl⟩ sipush_2262 ?_
  refine w_icmp_ge (q := 18) (X := x1.toInt) (Y := 2262) hm73 ⟨⟨_, _, rfl⟩, rfl⟩ rfl (by decide) (fun hc => ?_) (fun hc => ?_)
  · have h := h.1 hc
    refine w_aload_n (q := 40) hm73 ⟨⟨_, _, rfl⟩, rfl⟩ rfl ?_
    refine w_dup (q := 41) hm73 ⟨⟨_, _, rfl⟩, rfl⟩ rfl ?_
    refine w_getf (q := 44) (v := (m.1 70 61)) hm73 ⟨⟨_, _, rfl⟩, rfl⟩ rfl rfl ?_
    refine w_iconst (q := 45) hm73 ⟨⟨_, _, rfl⟩, rfl⟩ iconst_1 ?_
    refine w_isub (q := 46) hm73 ⟨⟨_, _, rfl⟩, rfl⟩ ?_
    refine w_putf (q := 49) hm73 ⟨⟨_, _, rfl⟩, rfl⟩ rfl rfl rfl ?_
    exact Wp.wk [true, false] h
  · have h := h.2 hc
    refine w_aload_n (q := 19) hm73 ⟨⟨_, _, rfl⟩, rfl⟩ rfl ?_
    refine w_getr (q := 22) hm73 ⟨⟨_, _, rfl⟩, rfl⟩ rfl ?_
    refine w_iload_n (q := 23) hm73 ⟨⟨_, _, rfl⟩, rfl⟩ rfl ?_
    refine w_aload_n (q := 24) hm73 ⟨⟨_, _, rfl⟩, rfl⟩ rfl ?_
    refine w_getr (q := 27) hm73 ⟨⟨_, _, rfl⟩, rfl⟩ rfl ?_
    refine w_iload_n (q := 28) hm73 ⟨⟨_, _, rfl⟩, rfl⟩ rfl ?_
    refine w_bipush (q := 30) hm73 ⟨⟨_, _, rfl⟩, rfl⟩ bipush_58 ?_
    refine w_iadd (q := 31) hm73 ⟨⟨_, _, rfl⟩, rfl⟩ ?_
    obtain ⟨hi, h⟩ := h
    refine w_iald (q := 32) (v := (m.1 111 (x1 + (58 : Int32)).toNatClampNeg)) hm73 ⟨⟨_, _, rfl⟩, rfl⟩ rfl hi rfl rfl ?_
    obtain ⟨hi, h⟩ := h
    refine w_iast (q := 33) hm73 ⟨⟨_, _, rfl⟩, rfl⟩ rfl hi rfl rfl ?_
    refine w_iinc (q := 36) (l' := [oR 70, oI (x1 + (1 : Int32))]) hm73 ⟨⟨_, _, rfl⟩, rfl⟩ rfl rfl rfl iconst_1 rfl ?_
    refine w_goto (q := 11) hm73 ⟨_, _, rfl⟩ ?_
    exact h
theorem v_X12_records_70_49 {d : Nat} {m : dM} {Q : dM → Prop} (h : j_X12_records_70_51 (d + 1) (0 : Int32) m Q) : j_X12_records_70_49 (d + 1) m Q := by
  refine w_iconst (q := 50) hm73 ⟨⟨_, _, rfl⟩, rfl⟩ iconst_0 ?_
  refine w_istore_n (q := 51) (l' := [oR 70, oI (0 : Int32)]) hm73 ⟨⟨_, _, rfl⟩, rfl⟩ rfl rfl rfl ?_
  exact h
theorem v_X12_records_70_51 {d : Nat} {x1 : Int32} {m : dM} {Q : dM → Prop} (h : ((58 ≤ x1.toInt → c_X12_keepsRow_70 d (dSet m 70 61 ((m.1 70 61) + (1 : Int32))) (fun m1 => Q m1)) ∧ (x1.toInt < 58 → ((0 ≤ x1.toInt ∧ x1.toInt < 58) ∧ ((0 ≤ (((58 : Int32) * (m.1 70 61)) + x1).toInt ∧ (((58 : Int32) * (m.1 70 61)) + x1).toInt < 2320) ∧ j_X12_records_70_51 (d + 1) (x1 + (1 : Int32)) (dSet m 111 (((58 : Int32) * (m.1 70 61)) + x1).toNatClampNeg (m.1 107 x1.toNatClampNeg)) Q))))) : j_X12_records_70_51 (d + 1) x1 m Q := by
  refine w_iload_n (q := 52) hm73 ⟨⟨_, _, rfl⟩, rfl⟩ rfl ?_
  refine w_bipush (q := 54) hm73 ⟨⟨_, _, rfl⟩, rfl⟩ bipush_58 ?_
  refine w_icmp_ge (q := 57) (X := x1.toInt) (Y := 58) hm73 ⟨⟨_, _, rfl⟩, rfl⟩ rfl (by decide) (fun hc => ?_) (fun hc => ?_)
  · have h := h.1 hc
    refine w_aload_n (q := 84) hm73 ⟨⟨_, _, rfl⟩, rfl⟩ rfl ?_
    refine w_dup (q := 85) hm73 ⟨⟨_, _, rfl⟩, rfl⟩ rfl ?_
    refine w_getf (q := 88) (v := (m.1 70 61)) hm73 ⟨⟨_, _, rfl⟩, rfl⟩ rfl rfl ?_
    refine w_iconst (q := 89) hm73 ⟨⟨_, _, rfl⟩, rfl⟩ iconst_1 ?_
    refine w_iadd (q := 90) hm73 ⟨⟨_, _, rfl⟩, rfl⟩ ?_
    refine w_putf (q := 93) hm73 ⟨⟨_, _, rfl⟩, rfl⟩ rfl rfl rfl ?_
    refine w_aload_n (q := 94) hm73 ⟨⟨_, _, rfl⟩, rfl⟩ rfl ?_
    refine w_call (q := 97) (n := 1) (vs := [.inr (.inr (some 70))]) (rest := []) (la := [oR 70, none]) hm73 ⟨⟨_, _, rfl⟩, rfl⟩ rfl rfl rfl rfl hm43 rfl rfl (fun _ => ⟨_, _, rfl, rfl⟩) rfl (Wp.mono h ?_)
    rintro _ m1 ⟨rfl, h⟩
    change Wp _ _ 97 _ [] _ _
    exact w_retv hm73 ⟨⟨_, _, rfl⟩, rfl⟩ rfl h
  · have h := h.2 hc
    refine w_aload_n (q := 58) hm73 ⟨⟨_, _, rfl⟩, rfl⟩ rfl ?_
    refine w_getr (q := 61) hm73 ⟨⟨_, _, rfl⟩, rfl⟩ rfl ?_
    refine w_bipush (q := 63) hm73 ⟨⟨_, _, rfl⟩, rfl⟩ bipush_58 ?_
    refine w_aload_n (q := 64) hm73 ⟨⟨_, _, rfl⟩, rfl⟩ rfl ?_
    refine w_getf (q := 67) (v := (m.1 70 61)) hm73 ⟨⟨_, _, rfl⟩, rfl⟩ rfl rfl ?_
    refine w_imul (q := 68) hm73 ⟨⟨_, _, rfl⟩, rfl⟩ ?_
    refine w_iload_n (q := 69) hm73 ⟨⟨_, _, rfl⟩, rfl⟩ rfl ?_
    refine w_iadd (q := 70) hm73 ⟨⟨_, _, rfl⟩, rfl⟩ ?_
    refine w_aload_n (q := 71) hm73 ⟨⟨_, _, rfl⟩, rfl⟩ rfl ?_
    refine w_getr (q := 74) hm73 ⟨⟨_, _, rfl⟩, rfl⟩ rfl ?_
    refine w_iload_n (q := 75) hm73 ⟨⟨_, _, rfl⟩, rfl⟩ rfl ?_
    obtain ⟨hi, h⟩ := h
    refine w_iald (q := 76) (v := (m.1 107 x1.toNatClampNeg)) hm73 ⟨⟨_, _, rfl⟩, rfl⟩ rfl hi rfl rfl ?_
    obtain ⟨hi, h⟩ := h
    refine w_iast (q := 77) hm73 ⟨⟨_, _, rfl⟩, rfl⟩ rfl hi rfl rfl ?_
    refine w_iinc (q := 80) (l' := [oR 70, oI (x1 + (1 : Int32))]) hm73 ⟨⟨_, _, rfl⟩, rfl⟩ rfl rfl rfl iconst_1 rfl ?_
    refine w_goto (q := 51) hm73 ⟨_, _, rfl⟩ ?_
    exact h
theorem v_X12_agree_70 {d : Nat} {x1 : Int32} {x2 : Int32} {m : dM} {Q : Int32 → dM → Prop} (h : c_X12_isUse_70 d x1 m (fun r1 m1 => ((r1.toInt = 0 → j_X12_agree_70_30 (d + 1) m1 Q) ∧ (r1.toInt ≠ 0 → ((0 ≤ ((47 : Int32) + x1).toInt ∧ ((47 : Int32) + x1).toInt < 58) ∧ (((m1.1 107 ((47 : Int32) + x1).toNatClampNeg).toInt ≠ 1 → ((0 ≠ x2.toInt → c_X12_copies_70 d m1 (fun m2 => ((x2.toInt = 0 → ((0 ≤ ((47 : Int32) + x1).toInt ∧ ((47 : Int32) + x1).toInt < 58) ∧ c_X12_records_70 d (dSet m2 108 ((47 : Int32) + x1).toNatClampNeg (0 : Int32)) (fun m3 => Q (1 : Int32) m3))) ∧ (x2.toInt ≠ 0 → ((0 ≤ ((47 : Int32) + x1).toInt ∧ ((47 : Int32) + x1).toInt < 58) ∧ c_X12_records_70 d (dSet m2 108 ((47 : Int32) + x1).toNatClampNeg (1 : Int32)) (fun m4 => Q (1 : Int32) m4)))))) ∧ (0 = x2.toInt → j_X12_agree_70_30 (d + 1) m1 Q))) ∧ ((m1.1 107 ((47 : Int32) + x1).toNatClampNeg).toInt = 1 → ((1 ≠ x2.toInt → c_X12_copies_70 d m1 (fun m5 => ((x2.toInt = 0 → ((0 ≤ ((47 : Int32) + x1).toInt ∧ ((47 : Int32) + x1).toInt < 58) ∧ c_X12_records_70 d (dSet m5 108 ((47 : Int32) + x1).toNatClampNeg (0 : Int32)) (fun m6 => Q (1 : Int32) m6))) ∧ (x2.toInt ≠ 0 → ((0 ≤ ((47 : Int32) + x1).toInt ∧ ((47 : Int32) + x1).toInt < 58) ∧ c_X12_records_70 d (dSet m5 108 ((47 : Int32) + x1).toNatClampNeg (1 : Int32)) (fun m7 => Q (1 : Int32) m7)))))) ∧ (1 = x2.toInt → j_X12_agree_70_30 (d + 1) m1 Q))))))))) : c_X12_agree_70 (d + 1) x1 x2 m Q := by
  refine w_aload_n (q := 1) hm74 ⟨⟨_, _, rfl⟩, rfl⟩ rfl ?_
  refine w_iload_n (q := 2) hm74 ⟨⟨_, _, rfl⟩, rfl⟩ rfl ?_
  refine w_call (q := 5) (n := 0) (vs := [.inr (.inr (some 70)), .inl x1]) (rest := []) (la := [oR 70, oI x1]) hm74 ⟨⟨_, _, rfl⟩, rfl⟩ rfl rfl rfl rfl hm41 rfl rfl (fun _ => ⟨_, _, rfl, rfl⟩) rfl (Wp.mono h ?_)
  rintro _ m1 ⟨r1, rfl, h⟩
  change Wp _ _ 5 _ [.inl r1] _ _
  refine w_if_eq (q := 8) (X := r1.toInt) hm74 ⟨⟨_, _, rfl⟩, rfl⟩ rfl (fun hc => ?_) (fun hc => ?_)
  · have h := h.1 hc
    exact Wp.wk [false, false, false] h
  · have h := h.2 hc
    refine w_aload_n (q := 9) hm74 ⟨⟨_, _, rfl⟩, rfl⟩ rfl ?_
    refine w_getr (q := 12) hm74 ⟨⟨_, _, rfl⟩, rfl⟩ rfl ?_
    refine w_bipush (q := 14) hm74 ⟨⟨_, _, rfl⟩, rfl⟩ bipush_47 ?_
    refine w_iload_n (q := 15) hm74 ⟨⟨_, _, rfl⟩, rfl⟩ rfl ?_
    refine w_iadd (q := 16) hm74 ⟨⟨_, _, rfl⟩, rfl⟩ ?_
    obtain ⟨hi, h⟩ := h
    refine w_iald (q := 17) (v := (m1.1 107 ((47 : Int32) + x1).toNatClampNeg)) hm74 ⟨⟨_, _, rfl⟩, rfl⟩ rfl hi rfl rfl ?_
    refine w_iconst (q := 18) hm74 ⟨⟨_, _, rfl⟩, rfl⟩ iconst_1 ?_
    refine w_icmp_ne (q := 21) (X := (m1.1 107 ((47 : Int32) + x1).toNatClampNeg).toInt) (Y := 1) hm74 ⟨⟨_, _, rfl⟩, rfl⟩ rfl (by decide) (fun hc => ?_) (fun hc => ?_)
    · have h := h.1 hc
      refine w_iconst (q := 26) hm74 ⟨⟨_, _, rfl⟩, rfl⟩ iconst_0 ?_
      refine w_iload_n (q := 27) hm74 ⟨⟨_, _, rfl⟩, rfl⟩ rfl ?_
      refine w_icmp_ne (q := 30) (X := 0) (Y := x2.toInt) hm74 ⟨⟨_, _, rfl⟩, rfl⟩ (by decide) rfl (fun hc => ?_) (fun hc => ?_)
      · have h := h.1 hc
        refine w_aload_n (q := 33) hm74 ⟨⟨_, _, rfl⟩, rfl⟩ rfl ?_
        refine w_call (q := 36) (n := 1) (vs := [.inr (.inr (some 70))]) (rest := []) (la := [oR 70, none]) hm74 ⟨⟨_, _, rfl⟩, rfl⟩ rfl rfl rfl rfl hm44 rfl rfl (fun _ => ⟨_, _, rfl, rfl⟩) rfl (Wp.mono h ?_)
        rintro _ m2 ⟨rfl, h⟩
        change Wp _ _ 36 _ [] _ _
        refine w_aload_n (q := 37) hm74 ⟨⟨_, _, rfl⟩, rfl⟩ rfl ?_
        refine w_getr (q := 40) hm74 ⟨⟨_, _, rfl⟩, rfl⟩ rfl ?_
        refine w_bipush (q := 42) hm74 ⟨⟨_, _, rfl⟩, rfl⟩ bipush_47 ?_
        refine w_iload_n (q := 43) hm74 ⟨⟨_, _, rfl⟩, rfl⟩ rfl ?_
        refine w_iadd (q := 44) hm74 ⟨⟨_, _, rfl⟩, rfl⟩ ?_
        refine w_iload_n (q := 45) hm74 ⟨⟨_, _, rfl⟩, rfl⟩ rfl ?_
        refine w_if_eq (q := 48) (X := x2.toInt) hm74 ⟨⟨_, _, rfl⟩, rfl⟩ rfl (fun hc => ?_) (fun hc => ?_)
        · have h := h.1 hc
          refine w_iconst (q := 53) hm74 ⟨⟨_, _, rfl⟩, rfl⟩ iconst_0 ?_
          obtain ⟨hi, h⟩ := h
          refine w_iast (q := 54) hm74 ⟨⟨_, _, rfl⟩, rfl⟩ rfl hi rfl rfl ?_
          refine w_aload_n (q := 55) hm74 ⟨⟨_, _, rfl⟩, rfl⟩ rfl ?_
          refine w_call (q := 58) (n := 1) (vs := [.inr (.inr (some 70))]) (rest := []) (la := [oR 70, none]) hm74 ⟨⟨_, _, rfl⟩, rfl⟩ rfl rfl rfl rfl hm73 rfl rfl (fun _ => ⟨_, _, rfl, rfl⟩) rfl (Wp.mono h ?_)
          rintro _ m3 ⟨rfl, h⟩
          change Wp _ _ 58 _ [] _ _
          refine w_iconst (q := 59) hm74 ⟨⟨_, _, rfl⟩, rfl⟩ iconst_1 ?_
          exact w_retz hm74 ⟨⟨_, _, rfl⟩, rfl⟩ rfl (by decide) h
        · have h := h.2 hc
          refine w_iconst (q := 49) hm74 ⟨⟨_, _, rfl⟩, rfl⟩ iconst_1 ?_
          refine w_goto (q := 53) hm74 ⟨_, _, rfl⟩ ?_
          obtain ⟨hi, h⟩ := h
          refine w_iast (q := 54) hm74 ⟨⟨_, _, rfl⟩, rfl⟩ rfl hi rfl rfl ?_
          refine w_aload_n (q := 55) hm74 ⟨⟨_, _, rfl⟩, rfl⟩ rfl ?_
          refine w_call (q := 58) (n := 1) (vs := [.inr (.inr (some 70))]) (rest := []) (la := [oR 70, none]) hm74 ⟨⟨_, _, rfl⟩, rfl⟩ rfl rfl rfl rfl hm73 rfl rfl (fun _ => ⟨_, _, rfl, rfl⟩) rfl (Wp.mono h ?_)
          rintro _ m4 ⟨rfl, h⟩
          change Wp _ _ 58 _ [] _ _
          refine w_iconst (q := 59) hm74 ⟨⟨_, _, rfl⟩, rfl⟩ iconst_1 ?_
          exact w_retz hm74 ⟨⟨_, _, rfl⟩, rfl⟩ rfl (by decide) h
      · have h := h.2 hc
        exact Wp.wk [false, false, false] h
    · have h := h.2 hc
      refine w_iconst (q := 22) hm74 ⟨⟨_, _, rfl⟩, rfl⟩ iconst_1 ?_
      refine w_goto (q := 26) hm74 ⟨_, _, rfl⟩ ?_
      refine w_iload_n (q := 27) hm74 ⟨⟨_, _, rfl⟩, rfl⟩ rfl ?_
      refine w_icmp_ne (q := 30) (X := 1) (Y := x2.toInt) hm74 ⟨⟨_, _, rfl⟩, rfl⟩ (by decide) rfl (fun hc => ?_) (fun hc => ?_)
      · have h := h.1 hc
        refine w_aload_n (q := 33) hm74 ⟨⟨_, _, rfl⟩, rfl⟩ rfl ?_
        refine w_call (q := 36) (n := 1) (vs := [.inr (.inr (some 70))]) (rest := []) (la := [oR 70, none]) hm74 ⟨⟨_, _, rfl⟩, rfl⟩ rfl rfl rfl rfl hm44 rfl rfl (fun _ => ⟨_, _, rfl, rfl⟩) rfl (Wp.mono h ?_)
        rintro _ m5 ⟨rfl, h⟩
        change Wp _ _ 36 _ [] _ _
        refine w_aload_n (q := 37) hm74 ⟨⟨_, _, rfl⟩, rfl⟩ rfl ?_
        refine w_getr (q := 40) hm74 ⟨⟨_, _, rfl⟩, rfl⟩ rfl ?_
        refine w_bipush (q := 42) hm74 ⟨⟨_, _, rfl⟩, rfl⟩ bipush_47 ?_
        refine w_iload_n (q := 43) hm74 ⟨⟨_, _, rfl⟩, rfl⟩ rfl ?_
        refine w_iadd (q := 44) hm74 ⟨⟨_, _, rfl⟩, rfl⟩ ?_
        refine w_iload_n (q := 45) hm74 ⟨⟨_, _, rfl⟩, rfl⟩ rfl ?_
        refine w_if_eq (q := 48) (X := x2.toInt) hm74 ⟨⟨_, _, rfl⟩, rfl⟩ rfl (fun hc => ?_) (fun hc => ?_)
        · have h := h.1 hc
          refine w_iconst (q := 53) hm74 ⟨⟨_, _, rfl⟩, rfl⟩ iconst_0 ?_
          obtain ⟨hi, h⟩ := h
          refine w_iast (q := 54) hm74 ⟨⟨_, _, rfl⟩, rfl⟩ rfl hi rfl rfl ?_
          refine w_aload_n (q := 55) hm74 ⟨⟨_, _, rfl⟩, rfl⟩ rfl ?_
          refine w_call (q := 58) (n := 1) (vs := [.inr (.inr (some 70))]) (rest := []) (la := [oR 70, none]) hm74 ⟨⟨_, _, rfl⟩, rfl⟩ rfl rfl rfl rfl hm73 rfl rfl (fun _ => ⟨_, _, rfl, rfl⟩) rfl (Wp.mono h ?_)
          rintro _ m6 ⟨rfl, h⟩
          change Wp _ _ 58 _ [] _ _
          refine w_iconst (q := 59) hm74 ⟨⟨_, _, rfl⟩, rfl⟩ iconst_1 ?_
          exact w_retz hm74 ⟨⟨_, _, rfl⟩, rfl⟩ rfl (by decide) h
        · have h := h.2 hc
          refine w_iconst (q := 49) hm74 ⟨⟨_, _, rfl⟩, rfl⟩ iconst_1 ?_
          refine w_goto (q := 53) hm74 ⟨_, _, rfl⟩ ?_
          obtain ⟨hi, h⟩ := h
          refine w_iast (q := 54) hm74 ⟨⟨_, _, rfl⟩, rfl⟩ rfl hi rfl rfl ?_
          refine w_aload_n (q := 55) hm74 ⟨⟨_, _, rfl⟩, rfl⟩ rfl ?_
          refine w_call (q := 58) (n := 1) (vs := [.inr (.inr (some 70))]) (rest := []) (la := [oR 70, none]) hm74 ⟨⟨_, _, rfl⟩, rfl⟩ rfl rfl rfl rfl hm73 rfl rfl (fun _ => ⟨_, _, rfl, rfl⟩) rfl (Wp.mono h ?_)
          rintro _ m7 ⟨rfl, h⟩
          change Wp _ _ 58 _ [] _ _
          refine w_iconst (q := 59) hm74 ⟨⟨_, _, rfl⟩, rfl⟩ iconst_1 ?_
          exact w_retz hm74 ⟨⟨_, _, rfl⟩, rfl⟩ rfl (by decide) h
      · have h := h.2 hc
        exact Wp.wk [false, false, false] h
theorem v_X12_agree_70_30 {d : Nat} {m : dM} {Q : Int32 → dM → Prop} (h : Q (0 : Int32) m) : j_X12_agree_70_30 (d + 1) m Q := by
  refine w_iconst (q := 31) hm74 ⟨⟨_, _, rfl⟩, rfl⟩ iconst_0 ?_
  exact w_retz hm74 ⟨⟨_, _, rfl⟩, rfl⟩ rfl (by decide) h
theorem v_X11_mend_0 {d : Nat} {x1 : Int32} {m : dM} {Q : Int32 → dM → Prop} (h : c_X11_isWire_0 d x1 m (fun r1 m1 => ((r1.toInt ≠ 0 → c_X0_costOf_54_47 d x1 m1 (fun r2 m2 => c_X11_has d (m2.1 47 3) x1 m2 (fun r3 m3 => ((r3.toInt = 0 → j_X11_mend_0_48 (d + 1) m3 Q) ∧ (r3.toInt ≠ 0 → ((r2.toInt ≤ (m3.1 47 1).toInt → c_X6_keep_51_47 d m3 (fun m4 => ((0 ≤ x1.toInt ∧ x1.toInt < 10) ∧ Q ((m4.1 47 1) - r2) (dSet (dSet (dSet (dSet m4 47 1 ((m4.1 47 1) - r2)) 47 3 ((m4.1 47 3) &&& (((1 : Int32) <<< (x1 &&& 31)) ^^^ (-1 : Int32)))) 47 4 ((m4.1 47 4) &&& (((1 : Int32) <<< (x1 &&& 31)) ^^^ (-1 : Int32)))) 49 x1.toNatClampNeg (0 : Int32))))) ∧ ((m3.1 47 1).toInt < r2.toInt → j_X11_mend_0_48 (d + 1) m3 Q))))))) ∧ (r1.toInt = 0 → Q (-1 : Int32) m1)))) : c_X11_mend_0 (d + 1) x1 m Q := by
  refine w_aload_n (q := 1) hm255 ⟨⟨_, _, rfl⟩, rfl⟩ rfl ?_
  refine w_iload_n (q := 2) hm255 ⟨⟨_, _, rfl⟩, rfl⟩ rfl ?_
  refine w_call (q := 5) (n := 0) (vs := [.inr (.inr (some 0)), .inl x1]) (rest := []) (la := [oR 0, oI x1]) hm255 ⟨⟨_, _, rfl⟩, rfl⟩ rfl rfl rfl rfl hm249 rfl rfl (fun _ => ⟨_, _, rfl, rfl⟩) rfl (Wp.mono h ?_)
  rintro _ m1 ⟨r1, rfl, h⟩
  change Wp _ _ 5 _ [.inl r1] _ _
  refine w_if_ne (q := 8) (X := r1.toInt) hm255 ⟨⟨_, _, rfl⟩, rfl⟩ rfl (fun hc => ?_) (fun hc => ?_)
  · have h := h.1 hc
    refine w_aload_n (q := 11) hm255 ⟨⟨_, _, rfl⟩, rfl⟩ rfl ?_
    refine w_getr (q := 14) hm255 ⟨⟨_, _, rfl⟩, rfl⟩ rfl ?_
    refine w_aload_n (q := 15) hm255 ⟨⟨_, _, rfl⟩, rfl⟩ rfl ?_
    refine w_getr (q := 18) hm255 ⟨⟨_, _, rfl⟩, rfl⟩ rfl ?_
    refine w_iload_n (q := 19) hm255 ⟨⟨_, _, rfl⟩, rfl⟩ rfl ?_
    refine w_call (q := 22) (n := 0) (vs := [.inr (.inr (some 54)), .inr (.inr (some 47)), .inl x1]) (rest := []) (la := [oR 54, oR 47, oI x1]) hm255 ⟨⟨_, _, rfl⟩, rfl⟩ rfl rfl rfl rfl hm128 rfl rfl (fun _ => ⟨_, _, rfl, rfl⟩) rfl (Wp.mono h ?_)
    rintro _ m2 ⟨r2, rfl, h⟩
    change Wp _ _ 22 _ [.inl r2] _ _
    refine w_istore_n (q := 23) (l' := [oR 0, oI x1, oI r2]) hm255 ⟨⟨_, _, rfl⟩, rfl⟩ rfl rfl rfl ?_
    refine w_aload_n (q := 24) hm255 ⟨⟨_, _, rfl⟩, rfl⟩ rfl ?_
    refine w_getr (q := 27) hm255 ⟨⟨_, _, rfl⟩, rfl⟩ rfl ?_
    refine w_getf (q := 30) (v := (m2.1 47 3)) hm255 ⟨⟨_, _, rfl⟩, rfl⟩ rfl rfl ?_
    refine w_iload_n (q := 31) hm255 ⟨⟨_, _, rfl⟩, rfl⟩ rfl ?_
    refine w_call (q := 34) (n := 0) (vs := [.inl (m2.1 47 3), .inl x1]) (rest := []) (la := [oI (m2.1 47 3), oI x1]) hm255 ⟨⟨_, _, rfl⟩, rfl⟩ rfl rfl rfl rfl hm283 rfl rfl (fun hz => absurd hz (by decide)) rfl (Wp.mono h ?_)
    rintro _ m3 ⟨r3, rfl, h⟩
    change Wp _ _ 34 _ [.inl r3] _ _
    refine w_if_eq (q := 37) (X := r3.toInt) hm255 ⟨⟨_, _, rfl⟩, rfl⟩ rfl (fun hc => ?_) (fun hc => ?_)
    · have h := h.1 hc
      exact Wp.wk [false, false, false] h
    · have h := h.2 hc
      refine w_iload_n (q := 38) hm255 ⟨⟨_, _, rfl⟩, rfl⟩ rfl ?_
      refine w_aload_n (q := 39) hm255 ⟨⟨_, _, rfl⟩, rfl⟩ rfl ?_
      refine w_getr (q := 42) hm255 ⟨⟨_, _, rfl⟩, rfl⟩ rfl ?_
      refine w_getf (q := 45) (v := (m3.1 47 1)) hm255 ⟨⟨_, _, rfl⟩, rfl⟩ rfl rfl ?_
      refine w_icmp_le (q := 48) (X := r2.toInt) (Y := (m3.1 47 1).toInt) hm255 ⟨⟨_, _, rfl⟩, rfl⟩ rfl rfl (fun hc => ?_) (fun hc => ?_)
      · have h := h.1 hc
        refine w_aload_n (q := 52) hm255 ⟨⟨_, _, rfl⟩, rfl⟩ rfl ?_
        refine w_getr (q := 55) hm255 ⟨⟨_, _, rfl⟩, rfl⟩ rfl ?_
        refine w_aload_n (q := 56) hm255 ⟨⟨_, _, rfl⟩, rfl⟩ rfl ?_
        refine w_getr (q := 59) hm255 ⟨⟨_, _, rfl⟩, rfl⟩ rfl ?_
        refine w_call (q := 62) (n := 0) (vs := [.inr (.inr (some 51)), .inr (.inr (some 47))]) (rest := []) (la := [oR 51, oR 47]) hm255 ⟨⟨_, _, rfl⟩, rfl⟩ rfl rfl rfl rfl hm203 rfl rfl (fun _ => ⟨_, _, rfl, rfl⟩) rfl (Wp.mono h ?_)
        rintro _ m4 ⟨rfl, h⟩
        change Wp _ _ 62 _ [] _ _
        refine w_aload_n (q := 63) hm255 ⟨⟨_, _, rfl⟩, rfl⟩ rfl ?_
        refine w_getr (q := 66) hm255 ⟨⟨_, _, rfl⟩, rfl⟩ rfl ?_
        refine w_dup (q := 67) hm255 ⟨⟨_, _, rfl⟩, rfl⟩ rfl ?_
        refine w_getf (q := 70) (v := (m4.1 47 1)) hm255 ⟨⟨_, _, rfl⟩, rfl⟩ rfl rfl ?_
        refine w_iload_n (q := 71) hm255 ⟨⟨_, _, rfl⟩, rfl⟩ rfl ?_
        refine w_isub (q := 72) hm255 ⟨⟨_, _, rfl⟩, rfl⟩ ?_
        refine w_putf (q := 75) hm255 ⟨⟨_, _, rfl⟩, rfl⟩ rfl rfl rfl ?_
        refine w_aload_n (q := 76) hm255 ⟨⟨_, _, rfl⟩, rfl⟩ rfl ?_
        refine w_getr (q := 79) hm255 ⟨⟨_, _, rfl⟩, rfl⟩ rfl ?_
        refine w_dup (q := 80) hm255 ⟨⟨_, _, rfl⟩, rfl⟩ rfl ?_
        refine w_getf (q := 83) (v := (m4.1 47 3)) hm255 ⟨⟨_, _, rfl⟩, rfl⟩ rfl rfl ?_
        refine w_iconst (q := 84) hm255 ⟨⟨_, _, rfl⟩, rfl⟩ iconst_1 ?_
        refine w_iload_n (q := 85) hm255 ⟨⟨_, _, rfl⟩, rfl⟩ rfl ?_
        refine w_ishl (q := 86) hm255 ⟨⟨_, _, rfl⟩, rfl⟩ ?_
        refine w_iconst (q := 87) hm255 ⟨⟨_, _, rfl⟩, rfl⟩ iconst_m1 ?_
        refine w_ixor (q := 88) hm255 ⟨⟨_, _, rfl⟩, rfl⟩ ?_
        refine w_iand (q := 89) hm255 ⟨⟨_, _, rfl⟩, rfl⟩ ?_
        refine w_putf (q := 92) hm255 ⟨⟨_, _, rfl⟩, rfl⟩ rfl rfl rfl ?_
        refine w_aload_n (q := 93) hm255 ⟨⟨_, _, rfl⟩, rfl⟩ rfl ?_
        refine w_getr (q := 96) hm255 ⟨⟨_, _, rfl⟩, rfl⟩ rfl ?_
        refine w_dup (q := 97) hm255 ⟨⟨_, _, rfl⟩, rfl⟩ rfl ?_
        refine w_getf (q := 100) (v := (m4.1 47 4)) hm255 ⟨⟨_, _, rfl⟩, rfl⟩ rfl rfl ?_
        refine w_iconst (q := 101) hm255 ⟨⟨_, _, rfl⟩, rfl⟩ iconst_1 ?_
        refine w_iload_n (q := 102) hm255 ⟨⟨_, _, rfl⟩, rfl⟩ rfl ?_
        refine w_ishl (q := 103) hm255 ⟨⟨_, _, rfl⟩, rfl⟩ ?_
        refine w_iconst (q := 104) hm255 ⟨⟨_, _, rfl⟩, rfl⟩ iconst_m1 ?_
        refine w_ixor (q := 105) hm255 ⟨⟨_, _, rfl⟩, rfl⟩ ?_
        refine w_iand (q := 106) hm255 ⟨⟨_, _, rfl⟩, rfl⟩ ?_
        refine w_putf (q := 109) hm255 ⟨⟨_, _, rfl⟩, rfl⟩ rfl rfl rfl ?_
        refine w_aload_n (q := 110) hm255 ⟨⟨_, _, rfl⟩, rfl⟩ rfl ?_
        refine w_getr (q := 113) hm255 ⟨⟨_, _, rfl⟩, rfl⟩ rfl ?_
        refine w_getr (q := 116) hm255 ⟨⟨_, _, rfl⟩, rfl⟩ rfl ?_
        refine w_iload_n (q := 117) hm255 ⟨⟨_, _, rfl⟩, rfl⟩ rfl ?_
        refine w_iconst (q := 118) hm255 ⟨⟨_, _, rfl⟩, rfl⟩ iconst_0 ?_
        obtain ⟨hi, h⟩ := h
        refine w_iast (q := 119) hm255 ⟨⟨_, _, rfl⟩, rfl⟩ rfl hi rfl rfl ?_
        refine w_aload_n (q := 120) hm255 ⟨⟨_, _, rfl⟩, rfl⟩ rfl ?_
        refine w_getr (q := 123) hm255 ⟨⟨_, _, rfl⟩, rfl⟩ rfl ?_
        refine w_getf (q := 126) (v := ((m4.1 47 1) - r2)) hm255 ⟨⟨_, _, rfl⟩, rfl⟩ rfl rfl ?_
        exact w_reti hm255 ⟨⟨_, _, rfl⟩, rfl⟩ rfl h
      · have h := h.2 hc
        exact Wp.wk [false, false, false] h
  · have h := h.2 hc
    refine w_iconst (q := 9) hm255 ⟨⟨_, _, rfl⟩, rfl⟩ iconst_m1 ?_
    exact w_reti hm255 ⟨⟨_, _, rfl⟩, rfl⟩ rfl h
theorem v_X11_mend_0_48 {d : Nat} {m : dM} {Q : Int32 → dM → Prop} (h : Q (-2 : Int32) m) : j_X11_mend_0_48 (d + 1) m Q := by
  refine w_bipush (q := 50) hm255 ⟨⟨_, _, rfl⟩, rfl⟩ bipush_m2 ?_
  exact w_reti hm255 ⟨⟨_, _, rfl⟩, rfl⟩ rfl h
theorem v_X12_mend_70 {d : Nat} {x1 : Int32} {m : dM} {Q : Int32 → dM → Prop} (h : c_X12_isWire_70 d x1 m (fun r1 m1 => ((r1.toInt ≠ 0 → c_X12_copies_70 d m1 (fun m2 => ((0 ≤ ((10 : Int32) + x1).toInt ∧ ((10 : Int32) + x1).toInt < 58) ∧ (((m2.1 108 ((10 : Int32) + x1).toNatClampNeg).toInt = 0 → j_X12_mend_70_41 (d + 1) m2 Q) ∧ ((m2.1 108 ((10 : Int32) + x1).toNatClampNeg).toInt ≠ 0 → c_X12_costsOf_70 d x1 m2 (fun r3 m3 => ((r3.toInt ≤ (m3.1 108 56).toInt → c_X12_costsOf_70 d x1 m3 (fun r4 m4 => ((0 ≤ ((10 : Int32) + x1).toInt ∧ ((10 : Int32) + x1).toInt < 58) ∧ ((0 ≤ ((20 : Int32) + x1).toInt ∧ ((20 : Int32) + x1).toInt < 58) ∧ ((0 ≤ ((30 : Int32) + x1).toInt ∧ ((30 : Int32) + x1).toInt < 58) ∧ c_X12_records_70 d (dSet (dSet (dSet (dSet m4 108 56 ((m3.1 108 56) - r4)) 108 ((10 : Int32) + x1).toNatClampNeg (0 : Int32)) 108 ((20 : Int32) + x1).toNatClampNeg (0 : Int32)) 108 ((30 : Int32) + x1).toNatClampNeg (0 : Int32)) (fun m5 => Q (m5.1 107 56) m5)))))) ∧ ((m3.1 108 56).toInt < r3.toInt → j_X12_mend_70_41 (d + 1) m3 Q)))))))) ∧ (r1.toInt = 0 → Q (-1 : Int32) m1)))) : c_X12_mend_70 (d + 1) x1 m Q := by
  refine w_aload_n (q := 1) hm75 ⟨⟨_, _, rfl⟩, rfl⟩ rfl ?_
  refine w_iload_n (q := 2) hm75 ⟨⟨_, _, rfl⟩, rfl⟩ rfl ?_
  refine w_call (q := 5) (n := 0) (vs := [.inr (.inr (some 70)), .inl x1]) (rest := []) (la := [oR 70, oI x1]) hm75 ⟨⟨_, _, rfl⟩, rfl⟩ rfl rfl rfl rfl hm40 rfl rfl (fun _ => ⟨_, _, rfl, rfl⟩) rfl (Wp.mono h ?_)
  rintro _ m1 ⟨r1, rfl, h⟩
  change Wp _ _ 5 _ [.inl r1] _ _
  refine w_if_ne (q := 8) (X := r1.toInt) hm75 ⟨⟨_, _, rfl⟩, rfl⟩ rfl (fun hc => ?_) (fun hc => ?_)
  · have h := h.1 hc
    refine w_aload_n (q := 11) hm75 ⟨⟨_, _, rfl⟩, rfl⟩ rfl ?_
    refine w_call (q := 14) (n := 1) (vs := [.inr (.inr (some 70))]) (rest := []) (la := [oR 70, none]) hm75 ⟨⟨_, _, rfl⟩, rfl⟩ rfl rfl rfl rfl hm44 rfl rfl (fun _ => ⟨_, _, rfl, rfl⟩) rfl (Wp.mono h ?_)
    rintro _ m2 ⟨rfl, h⟩
    change Wp _ _ 14 _ [] _ _
    refine w_aload_n (q := 15) hm75 ⟨⟨_, _, rfl⟩, rfl⟩ rfl ?_
    refine w_getr (q := 18) hm75 ⟨⟨_, _, rfl⟩, rfl⟩ rfl ?_
    refine w_bipush (q := 20) hm75 ⟨⟨_, _, rfl⟩, rfl⟩ bipush_10 ?_
    refine w_iload_n (q := 21) hm75 ⟨⟨_, _, rfl⟩, rfl⟩ rfl ?_
    refine w_iadd (q := 22) hm75 ⟨⟨_, _, rfl⟩, rfl⟩ ?_
    obtain ⟨hi, h⟩ := h
    refine w_iald (q := 23) (v := (m2.1 108 ((10 : Int32) + x1).toNatClampNeg)) hm75 ⟨⟨_, _, rfl⟩, rfl⟩ rfl hi rfl rfl ?_
    refine w_if_eq (q := 26) (X := (m2.1 108 ((10 : Int32) + x1).toNatClampNeg).toInt) hm75 ⟨⟨_, _, rfl⟩, rfl⟩ rfl (fun hc => ?_) (fun hc => ?_)
    · have h := h.1 hc
      exact Wp.wk [false, false] h
    · have h := h.2 hc
      refine w_aload_n (q := 27) hm75 ⟨⟨_, _, rfl⟩, rfl⟩ rfl ?_
      refine w_iload_n (q := 28) hm75 ⟨⟨_, _, rfl⟩, rfl⟩ rfl ?_
      refine w_call (q := 31) (n := 0) (vs := [.inr (.inr (some 70)), .inl x1]) (rest := []) (la := [oR 70, oI x1]) hm75 ⟨⟨_, _, rfl⟩, rfl⟩ rfl rfl rfl rfl hm63 rfl rfl (fun _ => ⟨_, _, rfl, rfl⟩) rfl (Wp.mono h ?_)
      rintro _ m3 ⟨r3, rfl, h⟩
      change Wp _ _ 31 _ [.inl r3] _ _
      refine w_aload_n (q := 32) hm75 ⟨⟨_, _, rfl⟩, rfl⟩ rfl ?_
      refine w_getr (q := 35) hm75 ⟨⟨_, _, rfl⟩, rfl⟩ rfl ?_
      refine w_bipush (q := 37) hm75 ⟨⟨_, _, rfl⟩, rfl⟩ bipush_56 ?_
      refine w_iald (q := 38) (j := 56) (v := (m3.1 108 56)) hm75 ⟨⟨_, _, rfl⟩, rfl⟩ rfl (by decide) (by decide) rfl ?_
      refine w_icmp_le (q := 41) (X := r3.toInt) (Y := (m3.1 108 56).toInt) hm75 ⟨⟨_, _, rfl⟩, rfl⟩ rfl rfl (fun hc => ?_) (fun hc => ?_)
      · have h := h.1 hc
        refine w_aload_n (q := 45) hm75 ⟨⟨_, _, rfl⟩, rfl⟩ rfl ?_
        refine w_getr (q := 48) hm75 ⟨⟨_, _, rfl⟩, rfl⟩ rfl ?_
        refine w_bipush (q := 50) hm75 ⟨⟨_, _, rfl⟩, rfl⟩ bipush_56 ?_
        refine w_dup2 (q := 51) hm75 ⟨⟨_, _, rfl⟩, rfl⟩ rfl ?_
        refine w_iald (q := 52) (j := 56) (v := (m3.1 108 56)) hm75 ⟨⟨_, _, rfl⟩, rfl⟩ rfl (by decide) (by decide) rfl ?_
        refine w_aload_n (q := 53) hm75 ⟨⟨_, _, rfl⟩, rfl⟩ rfl ?_
        refine w_iload_n (q := 54) hm75 ⟨⟨_, _, rfl⟩, rfl⟩ rfl ?_
        refine w_call (q := 57) (n := 0) (vs := [.inr (.inr (some 70)), .inl x1]) (rest := [.inl (m3.1 108 56), .inl (56 : Int32), .inr (.inr (some 108))]) (la := [oR 70, oI x1]) hm75 ⟨⟨_, _, rfl⟩, rfl⟩ rfl rfl rfl rfl hm63 rfl rfl (fun _ => ⟨_, _, rfl, rfl⟩) rfl (Wp.mono h ?_)
        rintro _ m4 ⟨r4, rfl, h⟩
        change Wp _ _ 57 _ [.inl r4, .inl (m3.1 108 56), .inl (56 : Int32), .inr (.inr (some 108))] _ _
        refine w_isub (q := 58) hm75 ⟨⟨_, _, rfl⟩, rfl⟩ ?_
        refine w_iast (q := 59) (j := 56) hm75 ⟨⟨_, _, rfl⟩, rfl⟩ rfl (by decide) (by decide) rfl ?_
        refine w_aload_n (q := 60) hm75 ⟨⟨_, _, rfl⟩, rfl⟩ rfl ?_
        refine w_getr (q := 63) hm75 ⟨⟨_, _, rfl⟩, rfl⟩ rfl ?_
        refine w_bipush (q := 65) hm75 ⟨⟨_, _, rfl⟩, rfl⟩ bipush_10 ?_
        refine w_iload_n (q := 66) hm75 ⟨⟨_, _, rfl⟩, rfl⟩ rfl ?_
        refine w_iadd (q := 67) hm75 ⟨⟨_, _, rfl⟩, rfl⟩ ?_
        refine w_iconst (q := 68) hm75 ⟨⟨_, _, rfl⟩, rfl⟩ iconst_0 ?_
        obtain ⟨hi, h⟩ := h
        refine w_iast (q := 69) hm75 ⟨⟨_, _, rfl⟩, rfl⟩ rfl hi rfl rfl ?_
        refine w_aload_n (q := 70) hm75 ⟨⟨_, _, rfl⟩, rfl⟩ rfl ?_
        refine w_getr (q := 73) hm75 ⟨⟨_, _, rfl⟩, rfl⟩ rfl ?_
        refine w_bipush (q := 75) hm75 ⟨⟨_, _, rfl⟩, rfl⟩ bipush_20 ?_
        refine w_iload_n (q := 76) hm75 ⟨⟨_, _, rfl⟩, rfl⟩ rfl ?_
        refine w_iadd (q := 77) hm75 ⟨⟨_, _, rfl⟩, rfl⟩ ?_
        refine w_iconst (q := 78) hm75 ⟨⟨_, _, rfl⟩, rfl⟩ iconst_0 ?_
        obtain ⟨hi, h⟩ := h
        refine w_iast (q := 79) hm75 ⟨⟨_, _, rfl⟩, rfl⟩ rfl hi rfl rfl ?_
        refine w_aload_n (q := 80) hm75 ⟨⟨_, _, rfl⟩, rfl⟩ rfl ?_
        refine w_getr (q := 83) hm75 ⟨⟨_, _, rfl⟩, rfl⟩ rfl ?_
        refine w_bipush (q := 85) hm75 ⟨⟨_, _, rfl⟩, rfl⟩ bipush_30 ?_
        refine w_iload_n (q := 86) hm75 ⟨⟨_, _, rfl⟩, rfl⟩ rfl ?_
        refine w_iadd (q := 87) hm75 ⟨⟨_, _, rfl⟩, rfl⟩ ?_
        refine w_iconst (q := 88) hm75 ⟨⟨_, _, rfl⟩, rfl⟩ iconst_0 ?_
        obtain ⟨hi, h⟩ := h
        refine w_iast (q := 89) hm75 ⟨⟨_, _, rfl⟩, rfl⟩ rfl hi rfl rfl ?_
        refine w_aload_n (q := 90) hm75 ⟨⟨_, _, rfl⟩, rfl⟩ rfl ?_
        refine w_call (q := 93) (n := 1) (vs := [.inr (.inr (some 70))]) (rest := []) (la := [oR 70, none]) hm75 ⟨⟨_, _, rfl⟩, rfl⟩ rfl rfl rfl rfl hm73 rfl rfl (fun _ => ⟨_, _, rfl, rfl⟩) rfl (Wp.mono h ?_)
        rintro _ m5 ⟨rfl, h⟩
        change Wp _ _ 93 _ [] _ _
        refine w_aload_n (q := 94) hm75 ⟨⟨_, _, rfl⟩, rfl⟩ rfl ?_
        refine w_getr (q := 97) hm75 ⟨⟨_, _, rfl⟩, rfl⟩ rfl ?_
        refine w_bipush (q := 99) hm75 ⟨⟨_, _, rfl⟩, rfl⟩ bipush_56 ?_
        refine w_iald (q := 100) (j := 56) (v := (m5.1 107 56)) hm75 ⟨⟨_, _, rfl⟩, rfl⟩ rfl (by decide) (by decide) rfl ?_
        exact w_reti hm75 ⟨⟨_, _, rfl⟩, rfl⟩ rfl h
      · have h := h.2 hc
        exact Wp.wk [false, false] h
  · have h := h.2 hc
    refine w_iconst (q := 9) hm75 ⟨⟨_, _, rfl⟩, rfl⟩ iconst_m1 ?_
    exact w_reti hm75 ⟨⟨_, _, rfl⟩, rfl⟩ rfl h
theorem v_X12_mend_70_41 {d : Nat} {m : dM} {Q : Int32 → dM → Prop} (h : Q (-2 : Int32) m) : j_X12_mend_70_41 (d + 1) m Q := by
  refine w_bipush (q := 43) hm75 ⟨⟨_, _, rfl⟩, rfl⟩ bipush_m2 ?_
  exact w_reti hm75 ⟨⟨_, _, rfl⟩, rfl⟩ rfl h
theorem v_X11_thicken_0 {d : Nat} {x1 : Int32} {m : dM} {Q : Int32 → dM → Prop} (h : c_X11_isWire_0 d x1 m (fun r1 m1 => ((r1.toInt ≠ 0 → c_X0_costOf_54_47 d x1 m1 (fun r2 m2 => c_X11_has d (m2.1 47 3) x1 m2 (fun r3 m3 => ((r3.toInt ≠ 0 → j_X11_thicken_0_62 (d + 1) m3 Q) ∧ (r3.toInt = 0 → ((0 ≤ x1.toInt ∧ x1.toInt < 10) ∧ ((99 ≤ (m3.1 48 x1.toNatClampNeg).toInt → j_X11_thicken_0_62 (d + 1) m3 Q) ∧ ((m3.1 48 x1.toNatClampNeg).toInt < 99 → ((r2.toInt ≤ (m3.1 47 1).toInt → c_X6_keep_51_47 d m3 (fun m4 => ((0 ≤ x1.toInt ∧ x1.toInt < 10) ∧ ((0 ≤ x1.toInt ∧ x1.toInt < 10) ∧ Q ((m4.1 47 1) - r2) (dSet (dSet m4 47 1 ((m4.1 47 1) - r2)) 48 x1.toNatClampNeg ((m4.1 48 x1.toNatClampNeg) + (1 : Int32))))))) ∧ ((m3.1 47 1).toInt < r2.toInt → j_X11_thicken_0_62 (d + 1) m3 Q)))))))))) ∧ (r1.toInt = 0 → Q (-1 : Int32) m1)))) : c_X11_thicken_0 (d + 1) x1 m Q := by
  refine w_aload_n (q := 1) hm256 ⟨⟨_, _, rfl⟩, rfl⟩ rfl ?_
  refine w_iload_n (q := 2) hm256 ⟨⟨_, _, rfl⟩, rfl⟩ rfl ?_
  refine w_call (q := 5) (n := 0) (vs := [.inr (.inr (some 0)), .inl x1]) (rest := []) (la := [oR 0, oI x1]) hm256 ⟨⟨_, _, rfl⟩, rfl⟩ rfl rfl rfl rfl hm249 rfl rfl (fun _ => ⟨_, _, rfl, rfl⟩) rfl (Wp.mono h ?_)
  rintro _ m1 ⟨r1, rfl, h⟩
  change Wp _ _ 5 _ [.inl r1] _ _
  refine w_if_ne (q := 8) (X := r1.toInt) hm256 ⟨⟨_, _, rfl⟩, rfl⟩ rfl (fun hc => ?_) (fun hc => ?_)
  · have h := h.1 hc
    refine w_aload_n (q := 11) hm256 ⟨⟨_, _, rfl⟩, rfl⟩ rfl ?_
    refine w_getr (q := 14) hm256 ⟨⟨_, _, rfl⟩, rfl⟩ rfl ?_
    refine w_aload_n (q := 15) hm256 ⟨⟨_, _, rfl⟩, rfl⟩ rfl ?_
    refine w_getr (q := 18) hm256 ⟨⟨_, _, rfl⟩, rfl⟩ rfl ?_
    refine w_iload_n (q := 19) hm256 ⟨⟨_, _, rfl⟩, rfl⟩ rfl ?_
    refine w_call (q := 22) (n := 0) (vs := [.inr (.inr (some 54)), .inr (.inr (some 47)), .inl x1]) (rest := []) (la := [oR 54, oR 47, oI x1]) hm256 ⟨⟨_, _, rfl⟩, rfl⟩ rfl rfl rfl rfl hm128 rfl rfl (fun _ => ⟨_, _, rfl, rfl⟩) rfl (Wp.mono h ?_)
    rintro _ m2 ⟨r2, rfl, h⟩
    change Wp _ _ 22 _ [.inl r2] _ _
    refine w_istore_n (q := 23) (l' := [oR 0, oI x1, oI r2]) hm256 ⟨⟨_, _, rfl⟩, rfl⟩ rfl rfl rfl ?_
    refine w_aload_n (q := 24) hm256 ⟨⟨_, _, rfl⟩, rfl⟩ rfl ?_
    refine w_getr (q := 27) hm256 ⟨⟨_, _, rfl⟩, rfl⟩ rfl ?_
    refine w_getf (q := 30) (v := (m2.1 47 3)) hm256 ⟨⟨_, _, rfl⟩, rfl⟩ rfl rfl ?_
    refine w_iload_n (q := 31) hm256 ⟨⟨_, _, rfl⟩, rfl⟩ rfl ?_
    refine w_call (q := 34) (n := 0) (vs := [.inl (m2.1 47 3), .inl x1]) (rest := []) (la := [oI (m2.1 47 3), oI x1]) hm256 ⟨⟨_, _, rfl⟩, rfl⟩ rfl rfl rfl rfl hm283 rfl rfl (fun hz => absurd hz (by decide)) rfl (Wp.mono h ?_)
    rintro _ m3 ⟨r3, rfl, h⟩
    change Wp _ _ 34 _ [.inl r3] _ _
    refine w_if_ne (q := 37) (X := r3.toInt) hm256 ⟨⟨_, _, rfl⟩, rfl⟩ rfl (fun hc => ?_) (fun hc => ?_)
    · have h := h.1 hc
      exact Wp.wk [false, false, false] h
    · have h := h.2 hc
      refine w_aload_n (q := 38) hm256 ⟨⟨_, _, rfl⟩, rfl⟩ rfl ?_
      refine w_getr (q := 41) hm256 ⟨⟨_, _, rfl⟩, rfl⟩ rfl ?_
      refine w_getr (q := 44) hm256 ⟨⟨_, _, rfl⟩, rfl⟩ rfl ?_
      refine w_iload_n (q := 45) hm256 ⟨⟨_, _, rfl⟩, rfl⟩ rfl ?_
      obtain ⟨hi, h⟩ := h
      refine w_iald (q := 46) (v := (m3.1 48 x1.toNatClampNeg)) hm256 ⟨⟨_, _, rfl⟩, rfl⟩ rfl hi rfl rfl ?_
      refine w_bipush (q := 48) hm256 ⟨⟨_, _, rfl⟩, rfl⟩ bipush_99 ?_
      refine w_icmp_ge (q := 51) (X := (m3.1 48 x1.toNatClampNeg).toInt) (Y := 99) hm256 ⟨⟨_, _, rfl⟩, rfl⟩ rfl (by decide) (fun hc => ?_) (fun hc => ?_)
      · have h := h.1 hc
        exact Wp.wk [false, false, false] h
      · have h := h.2 hc
        refine w_iload_n (q := 52) hm256 ⟨⟨_, _, rfl⟩, rfl⟩ rfl ?_
        refine w_aload_n (q := 53) hm256 ⟨⟨_, _, rfl⟩, rfl⟩ rfl ?_
        refine w_getr (q := 56) hm256 ⟨⟨_, _, rfl⟩, rfl⟩ rfl ?_
        refine w_getf (q := 59) (v := (m3.1 47 1)) hm256 ⟨⟨_, _, rfl⟩, rfl⟩ rfl rfl ?_
        refine w_icmp_le (q := 62) (X := r2.toInt) (Y := (m3.1 47 1).toInt) hm256 ⟨⟨_, _, rfl⟩, rfl⟩ rfl rfl (fun hc => ?_) (fun hc => ?_)
        · have h := h.1 hc
          refine w_aload_n (q := 66) hm256 ⟨⟨_, _, rfl⟩, rfl⟩ rfl ?_
          refine w_getr (q := 69) hm256 ⟨⟨_, _, rfl⟩, rfl⟩ rfl ?_
          refine w_aload_n (q := 70) hm256 ⟨⟨_, _, rfl⟩, rfl⟩ rfl ?_
          refine w_getr (q := 73) hm256 ⟨⟨_, _, rfl⟩, rfl⟩ rfl ?_
          refine w_call (q := 76) (n := 0) (vs := [.inr (.inr (some 51)), .inr (.inr (some 47))]) (rest := []) (la := [oR 51, oR 47]) hm256 ⟨⟨_, _, rfl⟩, rfl⟩ rfl rfl rfl rfl hm203 rfl rfl (fun _ => ⟨_, _, rfl, rfl⟩) rfl (Wp.mono h ?_)
          rintro _ m4 ⟨rfl, h⟩
          change Wp _ _ 76 _ [] _ _
          refine w_aload_n (q := 77) hm256 ⟨⟨_, _, rfl⟩, rfl⟩ rfl ?_
          refine w_getr (q := 80) hm256 ⟨⟨_, _, rfl⟩, rfl⟩ rfl ?_
          refine w_dup (q := 81) hm256 ⟨⟨_, _, rfl⟩, rfl⟩ rfl ?_
          refine w_getf (q := 84) (v := (m4.1 47 1)) hm256 ⟨⟨_, _, rfl⟩, rfl⟩ rfl rfl ?_
          refine w_iload_n (q := 85) hm256 ⟨⟨_, _, rfl⟩, rfl⟩ rfl ?_
          refine w_isub (q := 86) hm256 ⟨⟨_, _, rfl⟩, rfl⟩ ?_
          refine w_putf (q := 89) hm256 ⟨⟨_, _, rfl⟩, rfl⟩ rfl rfl rfl ?_
          refine w_aload_n (q := 90) hm256 ⟨⟨_, _, rfl⟩, rfl⟩ rfl ?_
          refine w_getr (q := 93) hm256 ⟨⟨_, _, rfl⟩, rfl⟩ rfl ?_
          refine w_getr (q := 96) hm256 ⟨⟨_, _, rfl⟩, rfl⟩ rfl ?_
          refine w_iload_n (q := 97) hm256 ⟨⟨_, _, rfl⟩, rfl⟩ rfl ?_
          refine w_dup2 (q := 98) hm256 ⟨⟨_, _, rfl⟩, rfl⟩ rfl ?_
          obtain ⟨hi, h⟩ := h
          refine w_iald (q := 99) (v := (m4.1 48 x1.toNatClampNeg)) hm256 ⟨⟨_, _, rfl⟩, rfl⟩ rfl hi rfl rfl ?_
          refine w_iconst (q := 100) hm256 ⟨⟨_, _, rfl⟩, rfl⟩ iconst_1 ?_
          refine w_iadd (q := 101) hm256 ⟨⟨_, _, rfl⟩, rfl⟩ ?_
          obtain ⟨hi, h⟩ := h
          refine w_iast (q := 102) hm256 ⟨⟨_, _, rfl⟩, rfl⟩ rfl hi rfl rfl ?_
          refine w_aload_n (q := 103) hm256 ⟨⟨_, _, rfl⟩, rfl⟩ rfl ?_
          refine w_getr (q := 106) hm256 ⟨⟨_, _, rfl⟩, rfl⟩ rfl ?_
          refine w_getf (q := 109) (v := ((m4.1 47 1) - r2)) hm256 ⟨⟨_, _, rfl⟩, rfl⟩ rfl rfl ?_
          exact w_reti hm256 ⟨⟨_, _, rfl⟩, rfl⟩ rfl h
        · have h := h.2 hc
          exact Wp.wk [false, false, false] h
  · have h := h.2 hc
    refine w_iconst (q := 9) hm256 ⟨⟨_, _, rfl⟩, rfl⟩ iconst_m1 ?_
    exact w_reti hm256 ⟨⟨_, _, rfl⟩, rfl⟩ rfl h
theorem v_X11_thicken_0_62 {d : Nat} {m : dM} {Q : Int32 → dM → Prop} (h : Q (-2 : Int32) m) : j_X11_thicken_0_62 (d + 1) m Q := by
  refine w_bipush (q := 64) hm256 ⟨⟨_, _, rfl⟩, rfl⟩ bipush_m2 ?_
  exact w_reti hm256 ⟨⟨_, _, rfl⟩, rfl⟩ rfl h
theorem v_X12_thicken_70 {d : Nat} {x1 : Int32} {m : dM} {Q : Int32 → dM → Prop} (h : c_X12_isWire_70 d x1 m (fun r1 m1 => ((r1.toInt ≠ 0 → c_X12_copies_70 d m1 (fun m2 => ((0 ≤ ((10 : Int32) + x1).toInt ∧ ((10 : Int32) + x1).toInt < 58) ∧ (((m2.1 108 ((10 : Int32) + x1).toNatClampNeg).toInt = 1 → j_X12_thicken_70_53 (d + 1) m2 Q) ∧ ((m2.1 108 ((10 : Int32) + x1).toNatClampNeg).toInt ≠ 1 → ((0 ≤ x1.toInt ∧ x1.toInt < 58) ∧ (((m2.1 108 x1.toNatClampNeg).toInt = 99 → j_X12_thicken_70_53 (d + 1) m2 Q) ∧ ((m2.1 108 x1.toNatClampNeg).toInt ≠ 99 → c_X12_costsOf_70 d x1 m2 (fun r3 m3 => ((r3.toInt ≤ (m3.1 108 56).toInt → c_X12_costsOf_70 d x1 m3 (fun r4 m4 => ((0 ≤ x1.toInt ∧ x1.toInt < 58) ∧ ((0 ≤ x1.toInt ∧ x1.toInt < 58) ∧ c_X12_records_70 d (dSet (dSet m4 108 56 ((m3.1 108 56) - r4)) 108 x1.toNatClampNeg (((dSet m4 108 56 ((m3.1 108 56) - r4)).1 108 x1.toNatClampNeg) + (1 : Int32))) (fun m5 => Q (m5.1 107 56) m5))))) ∧ ((m3.1 108 56).toInt < r3.toInt → j_X12_thicken_70_53 (d + 1) m3 Q))))))))))) ∧ (r1.toInt = 0 → Q (-1 : Int32) m1)))) : c_X12_thicken_70 (d + 1) x1 m Q := by
  refine w_aload_n (q := 1) hm76 ⟨⟨_, _, rfl⟩, rfl⟩ rfl ?_
  refine w_iload_n (q := 2) hm76 ⟨⟨_, _, rfl⟩, rfl⟩ rfl ?_
  refine w_call (q := 5) (n := 0) (vs := [.inr (.inr (some 70)), .inl x1]) (rest := []) (la := [oR 70, oI x1]) hm76 ⟨⟨_, _, rfl⟩, rfl⟩ rfl rfl rfl rfl hm40 rfl rfl (fun _ => ⟨_, _, rfl, rfl⟩) rfl (Wp.mono h ?_)
  rintro _ m1 ⟨r1, rfl, h⟩
  change Wp _ _ 5 _ [.inl r1] _ _
  refine w_if_ne (q := 8) (X := r1.toInt) hm76 ⟨⟨_, _, rfl⟩, rfl⟩ rfl (fun hc => ?_) (fun hc => ?_)
  · have h := h.1 hc
    refine w_aload_n (q := 11) hm76 ⟨⟨_, _, rfl⟩, rfl⟩ rfl ?_
    refine w_call (q := 14) (n := 1) (vs := [.inr (.inr (some 70))]) (rest := []) (la := [oR 70, none]) hm76 ⟨⟨_, _, rfl⟩, rfl⟩ rfl rfl rfl rfl hm44 rfl rfl (fun _ => ⟨_, _, rfl, rfl⟩) rfl (Wp.mono h ?_)
    rintro _ m2 ⟨rfl, h⟩
    change Wp _ _ 14 _ [] _ _
    refine w_aload_n (q := 15) hm76 ⟨⟨_, _, rfl⟩, rfl⟩ rfl ?_
    refine w_getr (q := 18) hm76 ⟨⟨_, _, rfl⟩, rfl⟩ rfl ?_
    refine w_bipush (q := 20) hm76 ⟨⟨_, _, rfl⟩, rfl⟩ bipush_10 ?_
    refine w_iload_n (q := 21) hm76 ⟨⟨_, _, rfl⟩, rfl⟩ rfl ?_
    refine w_iadd (q := 22) hm76 ⟨⟨_, _, rfl⟩, rfl⟩ ?_
    obtain ⟨hi, h⟩ := h
    refine w_iald (q := 23) (v := (m2.1 108 ((10 : Int32) + x1).toNatClampNeg)) hm76 ⟨⟨_, _, rfl⟩, rfl⟩ rfl hi rfl rfl ?_
    refine w_iconst (q := 24) hm76 ⟨⟨_, _, rfl⟩, rfl⟩ iconst_1 ?_
    refine w_icmp_eq (q := 27) (X := (m2.1 108 ((10 : Int32) + x1).toNatClampNeg).toInt) (Y := 1) hm76 ⟨⟨_, _, rfl⟩, rfl⟩ rfl (by decide) (fun hc => ?_) (fun hc => ?_)
    · have h := h.1 hc
      exact Wp.wk [false, false] h
    · have h := h.2 hc
      refine w_aload_n (q := 28) hm76 ⟨⟨_, _, rfl⟩, rfl⟩ rfl ?_
      refine w_getr (q := 31) hm76 ⟨⟨_, _, rfl⟩, rfl⟩ rfl ?_
      refine w_iload_n (q := 32) hm76 ⟨⟨_, _, rfl⟩, rfl⟩ rfl ?_
      obtain ⟨hi, h⟩ := h
      refine w_iald (q := 33) (v := (m2.1 108 x1.toNatClampNeg)) hm76 ⟨⟨_, _, rfl⟩, rfl⟩ rfl hi rfl rfl ?_
      refine w_bipush (q := 35) hm76 ⟨⟨_, _, rfl⟩, rfl⟩ bipush_99 ?_
      refine w_icmp_eq (q := 38) (X := (m2.1 108 x1.toNatClampNeg).toInt) (Y := 99) hm76 ⟨⟨_, _, rfl⟩, rfl⟩ rfl (by decide) (fun hc => ?_) (fun hc => ?_)
      · have h := h.1 hc
        exact Wp.wk [false, false] h
      · have h := h.2 hc
        refine w_aload_n (q := 39) hm76 ⟨⟨_, _, rfl⟩, rfl⟩ rfl ?_
        refine w_iload_n (q := 40) hm76 ⟨⟨_, _, rfl⟩, rfl⟩ rfl ?_
        refine w_call (q := 43) (n := 0) (vs := [.inr (.inr (some 70)), .inl x1]) (rest := []) (la := [oR 70, oI x1]) hm76 ⟨⟨_, _, rfl⟩, rfl⟩ rfl rfl rfl rfl hm63 rfl rfl (fun _ => ⟨_, _, rfl, rfl⟩) rfl (Wp.mono h ?_)
        rintro _ m3 ⟨r3, rfl, h⟩
        change Wp _ _ 43 _ [.inl r3] _ _
        refine w_aload_n (q := 44) hm76 ⟨⟨_, _, rfl⟩, rfl⟩ rfl ?_
        refine w_getr (q := 47) hm76 ⟨⟨_, _, rfl⟩, rfl⟩ rfl ?_
        refine w_bipush (q := 49) hm76 ⟨⟨_, _, rfl⟩, rfl⟩ bipush_56 ?_
        refine w_iald (q := 50) (j := 56) (v := (m3.1 108 56)) hm76 ⟨⟨_, _, rfl⟩, rfl⟩ rfl (by decide) (by decide) rfl ?_
        refine w_icmp_le (q := 53) (X := r3.toInt) (Y := (m3.1 108 56).toInt) hm76 ⟨⟨_, _, rfl⟩, rfl⟩ rfl rfl (fun hc => ?_) (fun hc => ?_)
        · have h := h.1 hc
          refine w_aload_n (q := 57) hm76 ⟨⟨_, _, rfl⟩, rfl⟩ rfl ?_
          refine w_getr (q := 60) hm76 ⟨⟨_, _, rfl⟩, rfl⟩ rfl ?_
          refine w_bipush (q := 62) hm76 ⟨⟨_, _, rfl⟩, rfl⟩ bipush_56 ?_
          refine w_dup2 (q := 63) hm76 ⟨⟨_, _, rfl⟩, rfl⟩ rfl ?_
          refine w_iald (q := 64) (j := 56) (v := (m3.1 108 56)) hm76 ⟨⟨_, _, rfl⟩, rfl⟩ rfl (by decide) (by decide) rfl ?_
          refine w_aload_n (q := 65) hm76 ⟨⟨_, _, rfl⟩, rfl⟩ rfl ?_
          refine w_iload_n (q := 66) hm76 ⟨⟨_, _, rfl⟩, rfl⟩ rfl ?_
          refine w_call (q := 69) (n := 0) (vs := [.inr (.inr (some 70)), .inl x1]) (rest := [.inl (m3.1 108 56), .inl (56 : Int32), .inr (.inr (some 108))]) (la := [oR 70, oI x1]) hm76 ⟨⟨_, _, rfl⟩, rfl⟩ rfl rfl rfl rfl hm63 rfl rfl (fun _ => ⟨_, _, rfl, rfl⟩) rfl (Wp.mono h ?_)
          rintro _ m4 ⟨r4, rfl, h⟩
          change Wp _ _ 69 _ [.inl r4, .inl (m3.1 108 56), .inl (56 : Int32), .inr (.inr (some 108))] _ _
          refine w_isub (q := 70) hm76 ⟨⟨_, _, rfl⟩, rfl⟩ ?_
          refine w_iast (q := 71) (j := 56) hm76 ⟨⟨_, _, rfl⟩, rfl⟩ rfl (by decide) (by decide) rfl ?_
          refine w_aload_n (q := 72) hm76 ⟨⟨_, _, rfl⟩, rfl⟩ rfl ?_
          refine w_getr (q := 75) hm76 ⟨⟨_, _, rfl⟩, rfl⟩ rfl ?_
          refine w_iload_n (q := 76) hm76 ⟨⟨_, _, rfl⟩, rfl⟩ rfl ?_
          refine w_dup2 (q := 77) hm76 ⟨⟨_, _, rfl⟩, rfl⟩ rfl ?_
          obtain ⟨hi, h⟩ := h
          refine w_iald (q := 78) (v := ((dSet m4 108 56 ((m3.1 108 56) - r4)).1 108 x1.toNatClampNeg)) hm76 ⟨⟨_, _, rfl⟩, rfl⟩ rfl hi rfl rfl ?_
          refine w_iconst (q := 79) hm76 ⟨⟨_, _, rfl⟩, rfl⟩ iconst_1 ?_
          refine w_iadd (q := 80) hm76 ⟨⟨_, _, rfl⟩, rfl⟩ ?_
          obtain ⟨hi, h⟩ := h
          refine w_iast (q := 81) hm76 ⟨⟨_, _, rfl⟩, rfl⟩ rfl hi rfl rfl ?_
          refine w_aload_n (q := 82) hm76 ⟨⟨_, _, rfl⟩, rfl⟩ rfl ?_
          refine w_call (q := 85) (n := 1) (vs := [.inr (.inr (some 70))]) (rest := []) (la := [oR 70, none]) hm76 ⟨⟨_, _, rfl⟩, rfl⟩ rfl rfl rfl rfl hm73 rfl rfl (fun _ => ⟨_, _, rfl, rfl⟩) rfl (Wp.mono h ?_)
          rintro _ m5 ⟨rfl, h⟩
          change Wp _ _ 85 _ [] _ _
          refine w_aload_n (q := 86) hm76 ⟨⟨_, _, rfl⟩, rfl⟩ rfl ?_
          refine w_getr (q := 89) hm76 ⟨⟨_, _, rfl⟩, rfl⟩ rfl ?_
          refine w_bipush (q := 91) hm76 ⟨⟨_, _, rfl⟩, rfl⟩ bipush_56 ?_
          refine w_iald (q := 92) (j := 56) (v := (m5.1 107 56)) hm76 ⟨⟨_, _, rfl⟩, rfl⟩ rfl (by decide) (by decide) rfl ?_
          exact w_reti hm76 ⟨⟨_, _, rfl⟩, rfl⟩ rfl h
        · have h := h.2 hc
          exact Wp.wk [false, false] h
  · have h := h.2 hc
    refine w_iconst (q := 9) hm76 ⟨⟨_, _, rfl⟩, rfl⟩ iconst_m1 ?_
    exact w_reti hm76 ⟨⟨_, _, rfl⟩, rfl⟩ rfl h
theorem v_X12_thicken_70_53 {d : Nat} {m : dM} {Q : Int32 → dM → Prop} (h : Q (-2 : Int32) m) : j_X12_thicken_70_53 (d + 1) m Q := by
  refine w_bipush (q := 55) hm76 ⟨⟨_, _, rfl⟩, rfl⟩ bipush_m2 ?_
  exact w_reti hm76 ⟨⟨_, _, rfl⟩, rfl⟩ rfl h
