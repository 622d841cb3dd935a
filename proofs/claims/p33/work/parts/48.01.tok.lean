/-! THE TOKENS START: the loop over the text of words -/
theorem dT_51 : decode tY214.2.1 51 = .ok (.iload 4, 2) := by decide +kernel
theorem dT_53 : decode tY214.2.1 53 = .ok (.ldc 29, 2) := by decide +kernel
theorem dT_55 : decode tY214.2.1 55 = .ok (.invokevirtual 31, 3) := by decide +kernel
theorem dT_58 : decode tY214.2.1 58 = .ok (.if_icmp .ge 53, 3) := by decide +kernel
theorem dT_61 : decode tY214.2.1 61 = .ok (.iload_n 1, 1) := by decide +kernel
theorem dT_62 : decode tY214.2.1 62 = .ok (.bipush 22, 2) := by decide +kernel
theorem dT_64 : decode tY214.2.1 64 = .ok (.if_icmp .ge 47, 3) := by decide +kernel
theorem dT_67 : decode tY214.2.1 67 = .ok (.ldc 29, 2) := by decide +kernel
theorem dT_69 : decode tY214.2.1 69 = .ok (.iload 4, 2) := by decide +kernel
theorem dT_71 : decode tY214.2.1 71 = .ok (.invokevirtual 36, 3) := by decide +kernel
section TOK
variable {l0 : Launch} {adK adV : Nat → Nat} {sr : List (Int × Int)}
theorem tTok_go {d cs sl : Nat} {l : eL} {h : eH} {q4 q1 : eI} {y4 y1 : Int32} (hdd : 6 ≤ d) (hcs : cs ≤ tM214.2.2.1) (hsl : sl ≤ tM214.2.2.2.1) (hM : tMs[214]? = some tM214) (hY : tYs[214]? = some tY214)
    (h4 : eGet l 4 = some (.inl q4)) (hq4 : eOne q4 = some y4) (h1 : eGet l 1 = some (.inl q1)) (hq1 : eOne q1 = some y1) (b0 : 0 ≤ y4.toInt) (b1 : y4.toInt < 116) (b2 : y1.toInt < 22) :
    eGl (tFz adK adV) l0 tCl lw_g tNs sr tMs tYs d 214 (51, l, [], h, cs, sl) [(74, l, [.inl (ePt (tCh y4.toNatClampNeg))], h, cs, sl)] := by
  intro M Y hM' hY' p e R s m args below meth c hcx D A H0 σ ad0 hs hA hFs Q K
  have e0 := Option.some.inj (hM.symm.trans hM')
  have e1 := Option.some.inj (hY.symm.trans hY')
  subst e0
  subst e1
  obtain ⟨hx, hb, hown, hts, hml, hini, hXt, hR1, hR2, hRc, hRs⟩ := id hcx
  have hown : s.vm.findClass "FuseTreaty$Tokens" = some m.cls := hown
  have hR := hFs.2.2.2
  intro H locs ws tys ls lv stk hc
  obtain ⟨hK, hP, hD, hS, hpre, hh, hl, hlv, hsk⟩ := hc
  have e2 := eAll_nil hsk
  subst e2
  show W p l0 e R s m args below meth c H locs cs sl Q (F0 m 51 ls [])
  obtain ⟨w4, g4, ⟨x4, rfl, hx4⟩, -⟩ := eGet_at hl hlv h4
  have ex := eOne_ok hs.1 hx4 hq4
  subst ex
  have hrec : ∃ cell : Cell, H[adK 0]? = some cell ∧ cell.vm.isStatics = false ∧ s.vm.findClass "java/lang/String" = some cell.cls := by
    obtain ⟨cell, q1, q2, q3, -⟩ := (hFs.1.1 0 (by decide)).1.kept hS.2.1
    exact ⟨cell, q1, q2, q3⟩
  have hjP : ∀ U : State, U.heap = H → s.WarmedH U.vm → jP adK adV U := fun U hU hW => by
    unfold jP
    rw [hU]
    exact (tFzOk adK adV).1 A _ s U H0 H hFs hW hS.2.1 (fun _ z => z.elim)
  refine lv_iload hx hb dT_51 g4 ?_
  refine va_ldcS hx hb hown hR dT_53 ?_
  refine vp_callSi (W.runV (As := []) (rest := [.int x4]) ⟨hx, hb, hml, hown, hts⟩ (c_len l0 adK adV) ⟨callB_of 0 hts (jG jC_len) rfl rfl rfl (hts _ jN_len) (hts _ jM_len_31) (by decide +kernel) ⟨by show 2 + 1 ≤ R.frames; omega, by show 8 + (1 + 11) + 128 * 2 ≤ R.locals; omega⟩, hts _ jI_len, hts _ jV_len⟩ ⟨jBl adK adV _, hrec, fun U hU hW => ⟨rfl, hjP U hU hW⟩⟩ rfl rfl hl.1 rfl (lv_room (by simp [Value.category])) dT_55 ⟨by omega, by omega⟩) (fun r hr => ?_)
  subst hr
  have e116 : (116 : Int32).toInt = 116 := by decide
  have e22 : (22 : Int32).toInt = 22 := by decide
  have ez : (0 : Int32).toInt = 0 := by decide
  obtain ⟨w1, g1, ⟨x1, rfl, hx1⟩, -⟩ := eGet_at hl hlv h1
  have ex1 := eOne_ok hs.1 hx1 hq1
  subst ex1
  refine lv_icmp_ge (tgt := 111) hx hb dT_58 (by decide) (fun q => absurd (Int32.le_iff_toInt_le.mp q) (by omega)) (fun q => ?_)
  refine lv_iload_n hx hb dT_61 rfl g1 ?_
  refine lv_bipush (v := 22) hx hb dT_62 (by decide) ?_
  refine lv_icmp_ge (tgt := 111) hx hb dT_64 (by decide) (fun q => absurd (Int32.le_iff_toInt_le.mp q) (by omega)) (fun q2 => ?_)
  refine va_ldcS hx hb hown hR dT_67 ?_
  refine lv_iload hx hb dT_69 g4 ?_
  refine vp_callSi (W.runV (As := [.int x4]) (rest := []) ⟨hx, hb, hml, hown, hts⟩ (c_chr l0 adK adV x4 (fun z => by have := Int32.lt_iff_toInt_lt.mp z; omega) (Int32.lt_iff_toInt_lt.mpr (by omega))) ⟨callB_of 1 hts (jG jC_chr) rfl rfl rfl (hts _ jN_chr) (hts _ jM_chr_36) (by decide +kernel) ⟨by show 4 + 1 ≤ R.frames; omega, by show 8 + (2 + 11) + 128 * 4 ≤ R.locals; omega⟩, hts _ jI_chr, hts _ jV_chr⟩ ⟨jBl adK adV _, hrec, fun U hU hW => ⟨rfl, hjP U hU hW⟩⟩ rfl rfl hl.1 rfl (lv_room (by simp [Value.category])) dT_71 ⟨by omega, by omega⟩) (fun r hr => ?_)
  exact K _ List.mem_cons_self H locs ws tys ls lv [.int r] ⟨hK, hP, hD, hS, hpre, hh, hl, hlv, ⟨r, rfl, by rw [hr]; exact ePt_ok hs.1 _⟩, trivial⟩
theorem tTok_end {d cs sl : Nat} {l : eL} {h : eH} {q4 : eI} {y4 : Int32} (hdd : 6 ≤ d) (hcs : cs ≤ tM214.2.2.1) (hsl : sl ≤ tM214.2.2.2.1) (hM : tMs[214]? = some tM214) (hY : tYs[214]? = some tY214)
    (h4 : eGet l 4 = some (.inl q4)) (hq4 : eOne q4 = some y4) (b1 : 116 ≤ y4.toInt) :
    eGl (tFz adK adV) l0 tCl lw_g tNs sr tMs tYs d 214 (51, l, [], h, cs, sl) [(111, l, [], h, cs, sl)] := by
  intro M Y hM' hY' p e R s m args below meth c hcx D A H0 σ ad0 hs hA hFs Q K
  have e0 := Option.some.inj (hM.symm.trans hM')
  have e1 := Option.some.inj (hY.symm.trans hY')
  subst e0
  subst e1
  obtain ⟨hx, hb, hown, hts, hml, hini, hXt, hR1, hR2, hRc, hRs⟩ := id hcx
  have hown : s.vm.findClass "FuseTreaty$Tokens" = some m.cls := hown
  have hR := hFs.2.2.2
  intro H locs ws tys ls lv stk hc
  obtain ⟨hK, hP, hD, hS, hpre, hh, hl, hlv, hsk⟩ := hc
  have e2 := eAll_nil hsk
  subst e2
  show W p l0 e R s m args below meth c H locs cs sl Q (F0 m 51 ls [])
  obtain ⟨w4, g4, ⟨x4, rfl, hx4⟩, -⟩ := eGet_at hl hlv h4
  have ex := eOne_ok hs.1 hx4 hq4
  subst ex
  have hrec : ∃ cell : Cell, H[adK 0]? = some cell ∧ cell.vm.isStatics = false ∧ s.vm.findClass "java/lang/String" = some cell.cls := by
    obtain ⟨cell, q1, q2, q3, -⟩ := (hFs.1.1 0 (by decide)).1.kept hS.2.1
    exact ⟨cell, q1, q2, q3⟩
  have hjP : ∀ U : State, U.heap = H → s.WarmedH U.vm → jP adK adV U := fun U hU hW => by
    unfold jP
    rw [hU]
    exact (tFzOk adK adV).1 A _ s U H0 H hFs hW hS.2.1 (fun _ z => z.elim)
  refine lv_iload hx hb dT_51 g4 ?_
  refine va_ldcS hx hb hown hR dT_53 ?_
  refine vp_callSi (W.runV (As := []) (rest := [.int x4]) ⟨hx, hb, hml, hown, hts⟩ (c_len l0 adK adV) ⟨callB_of 0 hts (jG jC_len) rfl rfl rfl (hts _ jN_len) (hts _ jM_len_31) (by decide +kernel) ⟨by show 2 + 1 ≤ R.frames; omega, by show 8 + (1 + 11) + 128 * 2 ≤ R.locals; omega⟩, hts _ jI_len, hts _ jV_len⟩ ⟨jBl adK adV _, hrec, fun U hU hW => ⟨rfl, hjP U hU hW⟩⟩ rfl rfl hl.1 rfl (lv_room (by simp [Value.category])) dT_55 ⟨by omega, by omega⟩) (fun r hr => ?_)
  subst hr
  have e116 : (116 : Int32).toInt = 116 := by decide
  refine lv_icmp_ge (tgt := 111) hx hb dT_58 (by decide) (fun q => ?_) (fun q => absurd (Int32.le_iff_toInt_le.mpr (by omega)) q)
  exact K _ List.mem_cons_self H locs ws tys ls lv [] ⟨hK, hP, hD, hS, hpre, hh, hl, hlv, trivial⟩
end TOK
