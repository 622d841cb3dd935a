/-! THE TOKENS START: the loop over the text of words -/
theorem dT_51 : decode tY214.2.1 51 = .ok (.iload 4, 2) := by decide +kernel
theorem dT_53 : decode tY214.2.1 53 = .ok (.ldc 29, 2) := by decide +kernel
theorem dT_55 : decode tY214.2.1 55 = .ok (.invokevirtual 31, 3) := by decide +kernel
theorem dT_58 : decode tY214.2.1 58 = .ok (.if_icmp .ge 53, 3) := by decide +kernel
theorem dT_61 : decode tY214.2.1 61 = .ok (.iload_n 1, 1) := by decide +kernel
theorem dT_62 : decode tY214.2.1 62 = .ok (.bipush 22, 2) := by decide +kernel
theorem dT_64 : decode tY214.2.1 64 = .ok (.if_icmp .ge 47, 3) := by decide +kernel
theorem dT_67 : decode tY214.2.1 67 = .ok (.ldc 29, 2) := by decide +kernel
theorem dT_69 : decode tY214.2.1 69 = .ok (.iload 4, 2) := by decide +kernel
theorem dT_71 : decode tY214.2.1 71 = .ok (.invokevirtual 36, 3) := by decide +kernel
section TOK
variable {l0 : Launch} {adK adV : Nat → Nat} {sr : List (Int × Int)}
theorem tTok_loop {d k cs sl : Nat} {h : eH} {S0 : eS} {fins : List eS} (hn : 0 < sr.length) (hdd : 6 ≤ d) (hcs : cs ≤ tM214.2.2.1) (hsl : sl ≤ tM214.2.2.2.1) (hM : tMs[214]? = some tM214) (hY : tYs[214]? = some tY214)
    (hin0 : eLeS sr ((0, sr.length, 0) :: eId sr.length) S0 (51, [(4, .inl (sr.length, 0, 0)), (2, .inr (.inr ())), (1, .inl (0, 0, 22)), (0, .inr (.inl (some k)))], [], h, cs, sl) = true)
    (hbody : eGl (tFz adK adV) l0 tCl lw_g tNs (sr ++ [(0, 115)]) tMs tYs d 214 (74, [(4, .inl (sr.length, 0, 0)), (2, .inr (.inr ())), (1, .inl (0, 0, 21)), (0, .inr (.inl (some k)))], [.inl eTop], h, cs, sl) fins)
    (hback : fins.all (fun f => eLeS (sr ++ [(0, 115)]) ((sr.length, sr.length, -1) :: eId sr.length) f (51, [(4, .inl (sr.length, 0, 0)), (2, .inr (.inr ())), (1, .inl (0, 0, 22)), (0, .inr (.inl (some k)))], [], h, cs, sl)) = true)
    (hsy : eLeS (sr ++ [(0, 116)]) (eId sr.length) (111, [], [], h, cs, sl) (111, [], [], h, cs, sl) = true) :
    eGl (tFz adK adV) l0 tCl lw_g tNs sr tMs tYs d 214 S0 [(111, [], [], h, cs, sl)] := by
  intro M Y hM' hY' p e R s m args below meth c hcx D A H0 σ ad0 hs hA hFs Q K
  have e0 := Option.some.inj (hM.symm.trans hM')
  have e1 := Option.some.inj (hY.symm.trans hY')
  subst e0
  subst e1
  obtain ⟨hx, hb, hown, hts, hml, hini, hXt, hR1, hR2, hRc, hRs⟩ := id hcx
  have hown : s.vm.findClass "FuseTreaty$Tokens" = some m.cls := hown
  have hR := hFs.2.2.2
  have idok : ∀ v w : Int, ∀ j, j < sr.length → eUp σ sr.length v j = eUp σ sr.length w j := fun v w j hj => by rw [eUp_ne (by omega), eUp_ne (by omega)]
  have idok0 : ∀ v : Int, ∀ j, j < sr.length → σ j = eUp σ sr.length v j := fun v j hj => by rw [eUp_ne (by omega)]
  have loop : ∀ (n : Nat) (v : Int), 0 ≤ v → v ≤ 116 → (116 - v).toNat < n → ∀ (H : Heap) (locs : List Loc) (ws : va_W) (tys : List (ClassId × FieldType)) (ls : Array Slot) (lv : List (Nat × Value)) (stk : List Value), eCn D tCl A H0 s (eUp σ sr.length v) tM214.2.1 ad0 (51, [(4, .inl (sr.length, 0, 0)), (2, .inr (.inr ())), (1, .inl (0, 0, 22)), (0, .inr (.inl (some k)))], [], h, cs, sl) H locs ws tys ls lv stk → W p l0 e R s m args below meth c H locs cs sl Q (F0 m 51 ls stk) := by
    intro n
    induction n with
    | zero => intro v h1 h2 h3; omega
    | succ n ih =>
      intro v h1 h2 h3 H locs ws tys ls lv stk hc
      have hs1 : eSg (sr ++ [(0, 116)]) (eUp σ sr.length v) := eSg_up hs hn h1 h2
      obtain ⟨hK, hP, hD, hS, hpre, hh, hl, hlv, hsk⟩ := hc
      have e2 := eAll_nil hsk
      subst e2
      obtain ⟨w4, g4, ⟨x4, rfl, hx4⟩, -⟩ := eGet_at hl hlv (i := 4) (v := .inl (sr.length, 0, 0)) rfl
      obtain ⟨w1, g1, ⟨x1, rfl, hx1⟩, -⟩ := eGet_at hl hlv (i := 1) (v := .inl (0, 0, 22)) rfl
      obtain ⟨w0, g0, ⟨x0, hx0, rfl⟩, -⟩ := eGet_at hl hlv (i := 0) (v := .inr (.inl (some k))) rfl
      obtain ⟨w2, g2, ⟨x2, rfl⟩, -⟩ := eGet_at hl hlv (i := 2) (v := .inr (.inr ())) rfl
      have ex : x4.toInt = v := by
        obtain ⟨q1, q2⟩ := hx4
        have q1 : eUp σ sr.length v sr.length + 0 ≤ x4.toInt := q1
        have q2 : x4.toInt ≤ eUp σ sr.length v sr.length + 0 := q2
        rw [eUp_at] at q1 q2
        omega
      have ex1 : 0 ≤ x1.toInt ∧ x1.toInt ≤ 22 := by
        obtain ⟨q1, q2⟩ := hx1
        have q1 : eUp σ sr.length v 0 + 0 ≤ x1.toInt := q1
        have q2 : x1.toInt ≤ eUp σ sr.length v 0 + 22 := q2
        have e3 : eUp σ sr.length v 0 = 0 := by rw [eUp_ne (by omega)]; exact hs.1
        exact ⟨by omega, by omega⟩
      have hrec : ∃ cell : Cell, H[adK 0]? = some cell ∧ cell.vm.isStatics = false ∧ s.vm.findClass "java/lang/String" = some cell.cls := by
        obtain ⟨cell, q1, q2, q3, -⟩ := (hFs.1.1 0 (by decide)).1.kept hS.2.1
        exact ⟨cell, q1, q2, q3⟩
      have hjP : ∀ U : State, U.heap = H → s.WarmedH U.vm → jP adK adV U := fun U hU hW => by
        unfold jP
        rw [hU]
        exact (tFzOk adK adV).1 A _ s U H0 H hFs hW hS.2.1 (fun _ z => z.elim)
      have stop : W p l0 e R s m args below meth c H locs cs sl Q (F0 m 111 ls []) := by
        obtain ⟨-, -, -, lv', g9⟩ := eLeS_ok (τ := σ) hs1 hs.1 (eId_ok (fun j hj => (idok0 v j hj).symm)) hsy (⟨hK, hP, hD, hS, hpre, hh, ⟨hl.1, hl.2.1, fun q hq => absurd hq List.not_mem_nil⟩, trivial, trivial⟩ : eCn D tCl A H0 s (eUp σ sr.length v) tM214.2.1 ad0 (111, [], [], h, cs, sl) H locs ws tys ls [] [])
        exact K _ List.mem_cons_self H locs ws tys ls lv' [] g9
      refine lv_iload hx hb dT_51 g4 ?_
      refine va_ldcS hx hb hown hR dT_53 ?_
      refine vp_callSi (W.runV (As := []) (rest := [.int x4]) ⟨hx, hb, hml, hown, hts⟩ (c_len l0 adK adV) ⟨callB_of 0 hts (jG jC_len) rfl rfl rfl (hts _ jN_len) (hts _ jM_len_31) (by decide +kernel) ⟨by show 2 + 1 ≤ R.frames; omega, by show 8 + (1 + 11) + 128 * 2 ≤ R.locals; omega⟩, hts _ jI_len, hts _ jV_len⟩ ⟨jBl adK adV _, hrec, fun U hU hW => ⟨rfl, hjP U hU hW⟩⟩ rfl rfl hl.1 rfl (lv_room (by simp [Value.category])) dT_55 ⟨by omega, by omega⟩) (fun r hr => ?_)
      subst hr
      refine lv_icmp_ge (tgt := 111) hx hb dT_58 (by decide) (fun q => stop) (fun q => ?_)
      have q := Int32.lt_iff_toInt_lt.mp (Int32.not_le.mp q)
      have e116 : (116 : Int32).toInt = 116 := by decide
      have e22 : (22 : Int32).toInt = 22 := by decide
      have ez : (0 : Int32).toInt = 0 := by decide
      refine lv_iload_n hx hb dT_61 rfl g1 ?_
      refine lv_bipush (v := 22) hx hb dT_62 (by decide) ?_
      refine lv_icmp_ge (tgt := 111) hx hb dT_64 (by decide) (fun q => stop) (fun q2 => ?_)
      have q2 := Int32.lt_iff_toInt_lt.mp (Int32.not_le.mp q2)
      refine va_ldcS hx hb hown hR dT_67 ?_
      refine lv_iload hx hb dT_69 g4 ?_
      refine vp_callSi (W.runV (As := [.int x4]) (rest := []) ⟨hx, hb, hml, hown, hts⟩ (c_chr l0 adK adV x4 (fun z => by have := Int32.lt_iff_toInt_lt.mp z; omega) (Int32.lt_iff_toInt_lt.mpr (by omega))) ⟨callB_of 1 hts (jG jC_chr) rfl rfl rfl (hts _ jN_chr) (hts _ jM_chr_36) (by decide +kernel) ⟨by show 4 + 1 ≤ R.frames; omega, by show 8 + (2 + 11) + 128 * 4 ≤ R.locals; omega⟩, hts _ jI_chr, hts _ jV_chr⟩ ⟨jBl adK adV _, hrec, fun U hU hW => ⟨rfl, hjP U hU hW⟩⟩ rfl rfl hl.1 rfl (lv_room (by simp [Value.category])) dT_71 ⟨by omega, by omega⟩) (fun r _ => ?_)
      have hs2 : eSg (sr ++ [(0, 115)]) (eUp σ sr.length v) := eSg_up hs hn h1 (by omega)
      refine hbody tM214 tY214 hM hY p e R s m args below meth c hcx D A H0 (eUp σ sr.length v) ad0 hs2 hA hFs Q (fun f hf => ?_) H locs ws tys ls [(4, .int x4), (2, .long x2), (1, .int x1), (0, .ref x0)] [.int r] ⟨hK, hP, hD, hS, hpre, hh, ⟨hl.1, hl.2.1, ?_⟩, ⟨⟨rfl, x4, rfl, hx4⟩, ⟨rfl, x2, rfl⟩, ⟨rfl, x1, rfl, eIn_mk (by rw [hs2.1]; omega) (by rw [hs2.1]; omega)⟩, ⟨rfl, x0, hx0, rfl⟩, trivial⟩, ⟨r, rfl, eTop_ok hs2.1 r⟩, trivial⟩
      · intro H' locs' ws' tys' ls' lv' stk' hc'
        have hfact : ∀ q ∈ ((sr.length, sr.length, -1) :: eId sr.length : List (Nat × Nat × Int)), eUp σ sr.length v q.1 = eUp σ sr.length (v + 1) q.2.1 + q.2.2 := by
          intro q hq
          rcases List.mem_cons.mp hq with rfl | hq
          · show eUp σ sr.length v sr.length = eUp σ sr.length (v + 1) sr.length + -1
            rw [eUp_at, eUp_at]
            omega
          · exact eId_ok (idok v (v + 1)) q hq
        obtain ⟨g1, g2, g3, lv'', g4⟩ := eLeS_ok hs2 (by rw [eUp_ne (by omega)]; exact hs.1) hfact (List.all_eq_true.mp hback f hf) hc'
        rw [g1, g2, g3]
        exact ih (v + 1) (by omega) (by omega) (by omega) H' locs' ws' tys' ls' lv'' stk' g4
      · intro q9 hq9
        simp only [List.mem_cons, List.not_mem_nil, or_false] at hq9
        rcases hq9 with rfl | rfl | rfl | rfl
        · exact g4
        · exact g2
        · exact g1
        · exact g0
  intro H locs ws tys ls lv stk hc
  have hfact : ∀ q ∈ ((0, sr.length, 0) :: eId sr.length : List (Nat × Nat × Int)), σ q.1 = eUp σ sr.length 0 q.2.1 + q.2.2 := by
    intro q hq
    rcases List.mem_cons.mp hq with rfl | hq
    · show σ 0 = eUp σ sr.length 0 sr.length + 0
      rw [eUp_at, hs.1]
      rfl
    · exact eId_ok (idok0 0) q hq
  obtain ⟨g1, g2, g3, lv', g4⟩ := eLeS_ok hs (by rw [eUp_ne (by omega)]; exact hs.1) hfact hin0 hc
  rw [g1, g2, g3]
  exact loop _ 0 (Int.le_refl _) (by omega) (Nat.lt_succ_self _) H locs ws tys ls lv' stk g4
end TOK
