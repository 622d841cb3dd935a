/-! THE ENGINE, 11: the theorem. -/
section EMN
variable {Fz : (Nat → Prop) → State → Heap → Prop} {l0 : Launch} {cl : List vw_C} {Ts : List Cond} {nst : List (String × Nat × MethodName × String)} {sr : List (Int × Int)} {dfs : List (List eV)} {ms : List eM} {yt : List eY} {orc : Nat → Nat → List eV → eH → Option (List (Option eV × eH))}
/-- what goes on is right -/
def eIH (Fz : (Nat → Prop) → State → Heap → Prop) (l0 : Launch) (cl : List vw_C) (Ts : List Cond) (nst : List (String × Nat × MethodName × String)) (sr : List (Int × Int)) (ms : List eM) (yt : List eY) (X : Nat → Nat → List Nat → eS → Option (List eS)) : Prop := ∀ (d y : Nat) (stop : List Nat) (S : eS) (fins : List eS), X d y stop S = some fins → eGl Fz l0 cl Ts nst sr ms yt d y S fins
theorem eNext {X : Nat → Nat → List Nat → eS → Option (List eS)} (ih : eIH Fz l0 cl Ts nst sr ms yt X) {d y : Nat} {stop : List Nat} {S : eS} {zs : List eS} (h : cond (stop.elem S.1) (some [S]) (X d y stop S) = some zs) : eGl Fz l0 cl Ts nst sr ms yt d y S zs := by
  cases hb : stop.elem S.1 with
  | true =>
    rw [hb] at h
    cases h
    intro M Y hM hY p e R s m args below meth c hcx D A H0 σ ad0 hs hA hFs Q K
    exact K S List.mem_cons_self
  | false =>
    rw [hb] at h
    exact ih d y stop S zs h
theorem eGl_mono {d y : Nat} {S : eS} {zs fins : List eS} (h : eGl Fz l0 cl Ts nst sr ms yt d y S zs) (hz : ∀ z ∈ zs, z ∈ fins) : eGl Fz l0 cl Ts nst sr ms yt d y S fins := by
  intro M Y hM hY p e R s m args below meth c hcx D A H0 σ ad0 hs hA hFs Q K
  exact h M Y hM hY p e R s m args below meth c hcx D A H0 σ ad0 hs hA hFs Q (fun f hf => K f (hz f hf))
theorem eInv_ok (hF : eFzOk Fz) (hT : eAll (eMok cl Ts nst ms yt) ms yt) (hgood : ∀ w ∈ Ts, (w.onTables && w.keeps) = true ∨ ∃ ty, w = .arrayClass ty) (horc : ∀ (d b : Nat) (as : List eV) (h : eH) (os : List (Option eV × eH)), orc d b as h = some os → eCon Fz l0 cl Ts nst sr ms yt d b as h os)
    {X : Nat → Nat → List Nat → eS → Option (List eS)} (ih : eIH Fz l0 cl Ts nst sr ms yt X) {d y : Nat} {stop : List Nat} {S : eS} {fins : List eS} {kd b d0 : Nat} {M : eM} (hM : ms[y]? = some M) (h : eInv sr ms orc X d y stop S kd b d0 M = some fins)
    (hlk : ∀ Y, yt[y]? = some Y → (6 ≤ kd → ∃ idx, eLb Ts Y.1.cls idx kd ∧ (kd = 6 → decode Y.2.1 S.1 = .ok (.invokespecial idx, 3)) ∧ (kd ≠ 6 → decode Y.2.1 S.1 = .ok (.invokestatic idx, 3))) ∧ (kd < 6 → ∃ (N : eM) (Z : eY), ms[b]? = some N ∧ yt[b]? = some Z ∧ eKd cl Ts nst Y.1.cls Y.2.1 S.1 kd d0 Z)) : eGl Fz l0 cl Ts nst sr ms yt d y S fins := by
  intro M' Y hM' hY p e R s m args below meth c hcx D A H0 σ ad0 hs hA hFs Q K H locs ws tys ls lv stk hc
  have e0 := Option.some.inj (hM.symm.trans hM')
  subst e0
  obtain ⟨hx, hb, hown, hts, hml, hin, hXt, hR1, hR2, hRc, hRs⟩ := id hcx
  obtain ⟨pc, l, st, hp, cs, sl⟩ := S
  unfold eInv at h
  cases d with
  | zero => cases h
  | succ d' =>
    simp only at h
    cases hk : Nat.ble 6 kd with
    | true =>
      rw [hk] at h
      simp only [cond_true] at h
      obtain ⟨idx, g1, g2, g3⟩ := (hlk Y hY).1 (Nat.le_of_ble_eq_true hk)
      split at h
      · rename_i st' h' hbl
        obtain ⟨hn, hg⟩ := eCond h
        rw [Bool.and_eq_true] at hn
        refine eBlt_ok (l := l) hx hb hown hts hml (by omega) (by omega) hs (by rw [hRc]; exact Nat.le_of_ble_eq_true hn.1) (by rw [hRs]; exact Nat.le_of_ble_eq_true hn.2) g2 g3 g1 hbl ?_ H locs ws tys ls lv stk hc
        exact eNext ih hg M Y hM hY p e R s m args below meth c hcx D A H0 σ ad0 hs hA hFs Q K
      · cases h
    | false =>
      rw [hk] at h
      simp only [cond_false] at h
      have hlt : kd < 6 := by
        rcases Nat.lt_or_ge kd 6 with q | q
        · exact q
        · rw [Nat.ble_eq_true_of_le q] at hk; cases hk
      obtain ⟨N, Z, hN, hZ, hkd⟩ := (hlk Y hY).2 hlt
      rw [hN] at h
      simp only at h
      split at h
      · cases h
      · rename_i as r hpop
        obtain ⟨hn, hg⟩ := eCond h
        clear h
        simp only [Bool.and_eq_true] at hn
        obtain ⟨⟨⟨⟨n1, n2⟩, n3⟩, n4⟩, n5⟩ := hn
        split at hg
        · cases hg
        · rename_i os hos
          obtain ⟨Z', hZ', hok⟩ := eAll_get hT hN
          have e1 := Option.some.inj (hZ'.symm.trans hZ)
          subst e1
          have hcon : eCon Fz l0 cl Ts nst sr ms yt d' b as hp os := by
            split at hos
            · rename_i os' ho'
              cases hos
              exact horc d' b as hp _ ho'
            · split at hos
              · cases hos
              · rename_i fs hfs
                exact eCon_of hT hN (Nat.le_of_ble_eq_true n4) (ih d' b [] _ fs hfs) hos
          refine eCall_ok (l := l) hx hb hown hts hgood hml hXt hF hFs hs hA hR1 hR2 hN hZ hok hcon hkd hpop (Nat.le_of_ble_eq_true n1) (by rw [hRc]; exact Nat.le_of_ble_eq_true n2) (by rw [hRs]; exact Nat.le_of_ble_eq_true n3) n5 ?_ H locs ws tys ls lv stk hc
          intro o ho
          obtain ⟨zs, hz1, hz2⟩ := eColl_ok hg o ho
          exact eGl_mono (eNext ih hz1) hz2 M Y hM hY p e R s m args below meth c hcx D A H0 σ ad0 hs hA hFs Q K
theorem eExec_ok (hF : eFzOk Fz) (hT : eAll (eMok cl Ts nst ms yt) ms yt) (hgood : ∀ w ∈ Ts, (w.onTables && w.keeps) = true ∨ ∃ ty, w = .arrayClass ty) (hcl : eKl cl Ts dfs) (horc : ∀ (d b : Nat) (as : List eV) (h : eH) (os : List (Option eV × eH)), orc d b as h = some os → eCon Fz l0 cl Ts nst sr ms yt d b as h os) : ∀ n : Nat, eIH Fz l0 cl Ts nst sr ms yt (eExec sr dfs ms orc n) := by
  intro n
  induction n with
  | zero => intro d y stop S fins h; cases h
  | succ n ih =>
    intro d y stop S fins h
    have h : eBody sr dfs ms orc (eExec sr dfs ms orc n) d y stop S = some fins := h
    unfold eBody at h
    split at h
    · cases h
    · rename_i M hM
      obtain ⟨Y, hY, hok⟩ := eAll_get hT hM
      split at h
      · cases h
      · rename_i en hen
        obtain ⟨hpc, hmem⟩ := eAt_ok hen
        obtain ⟨hd, hd0, hlk, hli⟩ := hok.1 en hmem
        rw [hpc] at hd hd0 hlk
        have ret : some [S] = some fins → eGl Fz l0 cl Ts nst sr ms yt d y S fins := fun hr => by
          cases hr
          intro M Y hM hY p e R s m args below meth c hcx D A H0 σ ad0 hs hA hFs Q K
          exact K S List.mem_cons_self
        split at h
        · exact ret h
        · exact ret h
        · exact ret h
        · exact ret h
        · rename_i idx hi
          rw [hi] at hd hli
          have hd := hd (by simp [eLen])
          refine eInv_ok hF hT hgood horc ih hM h (fun Y' hY' => ?_)
          have e1 := Option.some.inj (hY.symm.trans hY')
          subst e1
          obtain ⟨ha, N, Z, w1, w2, w3, w4, w5, T, NN, w6⟩ := hli
          refine ⟨fun q => by omega, fun _ => ⟨N, Z, w1, w2, Or.inl ⟨ha, idx, T, NN, hd, w3, w4, w5, w6⟩⟩⟩
        · rename_i idx hi
          rw [hi] at hd hli
          have hd := hd (by simp [eLen])
          refine eInv_ok hF hT hgood horc ih hM h (fun Y' hY' => ?_)
          have e1 := Option.some.inj (hY.symm.trans hY')
          subst e1
          rcases hli with ⟨ha, hb⟩ | ⟨ha, N, Z, w1, w2, w3, w4⟩
          · exact ⟨fun _ => ⟨idx, hb, fun q => by omega, fun _ => hd⟩, fun q => by omega⟩
          · refine ⟨fun q => by omega, fun _ => ⟨N, Z, w1, w2, ?_⟩⟩
            rcases w4 with ⟨w4, w5⟩ | ⟨w4, host, w5⟩
            · exact Or.inr (Or.inl ⟨w4, idx, hd, w5, w3⟩)
            · exact Or.inr (Or.inr (Or.inl ⟨w4, idx, host, hd, w5, w3⟩))
        · rename_i idx hi
          rw [hi] at hd hli
          have hd := hd (by simp [eLen])
          refine eInv_ok hF hT hgood horc ih hM h (fun Y' hY' => ?_)
          have e1 := Option.some.inj (hY.symm.trans hY')
          subst e1
          rcases hli with ⟨ha, hb⟩ | ⟨ha, N, Z, w1, w2, w3, w4, w5, w6⟩
          · exact ⟨fun _ => ⟨idx, hb, fun _ => hd, fun q => absurd ha q⟩, fun q => by omega⟩
          · refine ⟨fun q => by omega, fun _ => ⟨N, Z, w1, w2, ?_⟩⟩
            rcases w6 with ⟨w6, w7⟩ | ⟨w6, host, w7⟩
            · exact Or.inr (Or.inr (Or.inr (Or.inl ⟨w6, idx, hd, w7, w3, w4, w5⟩)))
            · exact Or.inr (Or.inr (Or.inr (Or.inr ⟨w6, idx, host, hd, w7, w3, w4, w5⟩)))
        · rename_i idx dim hi
          rw [hi] at hd hli
          obtain ⟨hdim, w1, w2⟩ := hli
          subst hdim
          have hd := hd (by simp [eLen])
          split at h
          · cases h
          · rename_i st' h' cs' sl' hmul
            intro M' Y' hM' hY' p e R s m args below meth c hcx D A H0 σ ad0 hs hA hFs Q K H locs ws tys ls lv stk hc
            have e0 := Option.some.inj (hM.symm.trans hM')
            subst e0
            have e1 := Option.some.inj (hY.symm.trans hY')
            subst e1
            obtain ⟨hx, hb, hown, hts, hml, hin, hXt, hR1, hR2, hRc, hRs⟩ := id hcx
            exact eMul_ok hx hb hown hts hXt.2 hRc hRs hs hA hd w1 w2 hmul (eNext ih h M Y hM hY p e R s m args below meth c hcx D A H0 σ ad0 hs hA hFs Q K) H locs ws tys ls lv stk hc
        · split at h
          · cases h
          · rename_i outs hst
            intro M' Y' hM' hY' p e R s m args below meth c hcx D A H0 σ ad0 hs hA hFs Q K H locs ws tys ls lv stk hc
            have e0 := Option.some.inj (hM.symm.trans hM')
            subst e0
            have e1 := Option.some.inj (hY.symm.trans hY')
            subst e1
            obtain ⟨hx, hb, hown, hts, hml, hin, hXt, hR1, hR2, hRc, hRs⟩ := id hcx
            refine eStep_ok hx hb hown hts hcl hin hRc hRs hs hA hd hd0 hlk hst ?_ H locs ws tys ls lv stk hc
            intro S' hS'
            obtain ⟨zs, hz1, hz2⟩ := eColl_ok h S' hS'
            exact eGl_mono (eNext ih hz1) hz2 M Y hM hY p e R s m args below meth c hcx D A H0 σ ad0 hs hA hFs Q K
end EMN
