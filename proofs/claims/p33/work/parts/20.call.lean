/-! THE ENGINE, 9: a call. -/
section ECL
variable {p : Program} {l0 : Launch} {e : Env} {R : Room} {s : State} {m : MethodId} {args : Array Value} {below : List Frame} {meth : Method} {c : Code} {Q : State → Prop}
variable {Fz : (Nat → Prop) → State → Heap → Prop} {cc : ByteArray} {own : String} {Ts : List Cond} {nst : List (String × Nat × MethodName × String)} {cl : List vw_C} {ms : List eM} {yt : List eY} {sr : List (Int × Int)} {σ : Nat → Int} {D : va_G} {A : Nat → Prop} {H0 : Heap} {ad0 : List Nat} {nL : Nat}
/-- how a call of kind kd is linked -/
def eKd (cl : List vw_C) (Ts : List Cond) (nst : List (String × Nat × MethodName × String)) (own : String) (cc : ByteArray) (pc kd d0 : Nat) (Y : eY) : Prop :=
  (kd = 0 ∧ ∃ (idx : Nat) (T : u_T) (N : Nat), decode cc pc = .ok (.invokevirtual idx, 3) ∧ Cond.methodLink own idx Y.1 ∈ Ts ∧ Cond.instanceMethod Y.1 ∈ Ts ∧ Cond.selects Y.1.cls Y.1 Y.1 ∈ Ts ∧ cl[d0]? = some (Y.1.cls, T, N)) ∨
  (kd = 1 ∧ ∃ idx : Nat, decode cc pc = .ok (.invokestatic idx, 3) ∧ Cond.methodLink own idx Y.1 ∈ Ts ∧ Cond.static Y.1 ∈ Ts) ∨
  (kd = 4 ∧ ∃ (idx : Nat) (host : String), decode cc pc = .ok (.invokestatic idx, 3) ∧ (own, idx, Y.1, host) ∈ nst ∧ Cond.static Y.1 ∈ Ts) ∨
  (kd = 2 ∧ ∃ idx : Nat, decode cc pc = .ok (.invokespecial idx, 3) ∧ Cond.methodLink own idx Y.1 ∈ Ts ∧ Y.1.name = "<init>" ∧ Y.2.2 = none ∧ Cond.instanceMethod Y.1 ∈ Ts) ∨
  (kd = 5 ∧ ∃ (idx : Nat) (host : String), decode cc pc = .ok (.invokespecial idx, 3) ∧ (own, idx, Y.1, host) ∈ nst ∧ Y.1.name = "<init>" ∧ Y.2.2 = none ∧ Cond.instanceMethod Y.1 ∈ Ts)
theorem ePopS_ok {ad : List Nat} {st as r : List eV} {np kd : Nat} {stk : List Value} (h : ePop st np kd = some (as, r)) (hk : kd = 1 ∨ kd = 4) (hs : eAll (eOk ad σ) st stk) : ∃ vs rest : List Value, stk = vs.reverse ++ rest ∧ vs.length = np ∧ eAll (eOk ad σ) as vs ∧ eAll (eOk ad σ) r rest := by
  have h2 : cond (Nat.ble np st.length) (some ((st.take np).reverse, st.drop np)) none = some (as, r) := by rcases hk with rfl | rfl <;> exact h
  obtain ⟨h3, h4⟩ := eCond h2
  cases h4
  have h3 := Nat.le_of_ble_eq_true h3
  refine ⟨(stk.take np).reverse, stk.drop np, by simp, ?_, eAll_rev (eAll_take np hs), eAll_drop np hs⟩
  have := eAll_len hs
  simp
  omega
theorem ePopV_ok {ad : List Nat} {st as r : List eV} {np kd : Nat} {stk : List Value} (h : ePop st np kd = some (as, r)) (hk : kd = 0 ∨ kd = 2 ∨ kd = 5) (hs : eAll (eOk ad σ) st stk) : ∃ (k a : Nat) (as1 : List eV) (vs rest : List Value), as = .inr (.inl (some k)) :: as1 ∧ ad[k]? = some a ∧ stk = vs.reverse ++ .ref a :: rest ∧ vs.length = np ∧ eAll (eOk ad σ) as1 vs ∧ eAll (eOk ad σ) r rest := by
  have h2 : (match st[np]? with
    | some (.inr (.inl (some k))) => some (.inr (.inl (some k)) :: (st.take np).reverse, st.drop (np + 1))
    | _ => none) = some (as, r) := by rcases hk with rfl | rfl | rfl <;> exact h
  split at h2
  · rename_i k hk2
    cases h2
    obtain ⟨w, hw, a, ha, rfl⟩ := eAll_get hs hk2
    have hlt := (List.getElem?_eq_some_iff.mp hw).1
    refine ⟨k, a, _, (stk.take np).reverse, stk.drop (np + 1), rfl, ha, ?_, by simp; omega, eAll_rev (eAll_take np hs), eAll_drop (np + 1) hs⟩
    rw [List.reverse_reverse]
    have e1 : stk.drop np = .ref a :: stk.drop (np + 1) := by
      rw [List.drop_eq_getElem_cons hlt]
      congr 1
      have := List.getElem?_eq_getElem hlt
      rw [hw] at this
      exact (Option.some.inj this).symm
    rw [← e1]
    exact (List.take_append_drop np stk).symm
  · cases h2
theorem eCall_ok (hx : p.tables.exec = Jvm.exec) (hb : c.code = cc) (hown : s.vm.findClass own = some m.cls) (hts : ∀ w ∈ Ts, w.before args s = true) (hgood : ∀ w ∈ Ts, (w.onTables && w.keeps) = true ∨ ∃ ty, w = .arrayClass ty) (hml : c.maxLocals = nL) (hXt : eXt nst s) (hF : eFzOk Fz) (hFs : Fz A s H0) (hs : eSg sr σ) (hA : ∀ q, H0.size ≤ q → A q)
    {d b kd d0 pc cs sl : Nat} {l : eL} {st as r : List eV} {h : eH} {os : List (Option eV × eH)} {N : eM} {Y : eY} (hR1 : d + 1 ≤ R.frames) (hR2 : 128 * (d + 1) ≤ R.locals) (hN : ms[b]? = some N) (hY : yt[b]? = some Y) (hok : eMok cl Ts nst ms yt N Y) (hcon : eCon Fz l0 cl Ts nst sr ms yt d b as h os)
    (hkd : eKd cl Ts nst own cc pc kd d0 Y) (hpop : ePop st N.2.2.2.2.2 kd = some (as, r)) (hcr : eCats r ≤ 8) (hmc : cs + N.2.2.1 ≤ R.cells) (hms : sl + N.2.2.2.1 ≤ R.slots) (hrcv : eRcv h kd d0 as = true)
    (K : ∀ o ∈ os, ∀ (H : Heap) (locs : List Loc) (ws : va_W) (tys : List (ClassId × FieldType)) (ls : Array Slot) (lv : List (Nat × Value)) (stk : List Value), eCn D cl A H0 s σ nL ad0 (pc + 3, l, o.1.toList ++ r, o.2, cs + N.2.2.1, sl + N.2.2.2.1) H locs ws tys ls lv stk → W p l0 e R s m args below meth c H locs (cs + N.2.2.1) (sl + N.2.2.2.1) Q (F0 m (pc + 3) ls stk)) :
    ∀ (H : Heap) (locs : List Loc) (ws : va_W) (tys : List (ClassId × FieldType)) (ls : Array Slot) (lv : List (Nat × Value)) (stk : List Value), eCn D cl A H0 s σ nL ad0 (pc, l, st, h, cs, sl) H locs ws tys ls lv stk → W p l0 e R s m args below meth c H locs cs sl Q (F0 m pc ls stk) := by
  intro H locs ws tys ls lv stk hc
  obtain ⟨hK, hP, hD, hS, hpre, hh, hl, hlv, hsk⟩ := hc
  obtain ⟨-, hcode, hini, -, hdd, hnl, -⟩ := hok
  have hG : GoodIn Ts (Cond.code Y.1 Y.2.1 N.2.1 Y.2.2 :: Ts) := fun w hw => by
    rcases List.mem_cons.mp hw with rfl | hw
    · exact ⟨hcode, hgood _ hcode⟩
    · exact ⟨hw, hgood _ hw⟩
  have hroom : (eRm d N).frames + 1 ≤ R.frames ∧ 8 + (N.2.1 + 11) + (eRm d N).locals ≤ R.locals := ⟨hR1, by show 8 + (N.2.1 + 11) + 128 * d ≤ _; omega⟩
  have hA1 : ∀ q, va_A ws H.size q → A q := by
    intro q hq
    rcases hq with ⟨k, e9, hk⟩ | hq
    · exact hD.2 k (q, e9) hk
    · exact hA q (Nat.le_trans hS.1 hq)
  have hPre : ∀ (vs : List Value) (U : State), U.heap = H → s.WarmedH U.vm → ePc Fz cl nst D ws tys vs H.size vs.toArray U := fun vs U hU hW => ⟨rfl, by rw [hU], by rw [hU]; exact hP, va_K.moved hW.alike hK, hD.weaken (fun _ _ _ _ => trivial), hXt.warm hW, by rw [hU]; exact hF.1 A _ s U H0 H hFs hW hS.2.1 hA1⟩
  have fin : ∀ (rest : List Value) (a : Array Value), eAll (eOk (ws.map Prod.fst) σ) r rest → va_Run p l0 e R s m args below meth c H locs cs sl N.2.2.1 N.2.2.2.1 (F0 m pc ls stk) rest (eQ cl D σ ws os H.size a) (va_A ws H.size) → W p l0 e R s m args below meth c H locs cs sl Q (F0 m pc ls stk) := by
    intro rest a hr hrun
    refine eBack hrun hS hA1 (fun o ho w ws' tys' H1 locs1 hov hpre' hh' hP' hK' hD' hS' => ?_)
    refine K o ho _ _ ws' tys' ls lv _ ⟨hK', hP', hD', hS', ?_, hh', hl, eAll_mono (fun _ _ z => ⟨z.1, eOk_ad hpre' z.2⟩) hlv, ?_⟩
    · obtain ⟨t, ht⟩ := hpre
      obtain ⟨t', ht'⟩ := hpre'
      exact ⟨t ++ t', by rw [ht', ht, List.append_assoc]⟩
    · have hr' := eAll_mono (fun _ _ => eOk_ad hpre') hr
      show eAll _ (o.1.toList ++ r) _
      cases h1 : o.1 with
      | none =>
        rw [h1] at hov
        cases w with
        | none => exact hr'
        | some w => exact hov.elim
      | some v =>
        rw [h1] at hov
        cases w with
        | none => exact hov.elim
        | some w => exact ⟨hov, hr'⟩
  have hcat : ∀ rest : List Value, eAll (eOk (ws.map Prod.fst) σ) r rest → 2 * (F0 m pc ls stk).monitorRoom + (rest.map fun v => v.category).sum ≤ 8 := fun rest hr => by
    rw [eCats_ok hr]
    show 2 * 0 + _ ≤ 8
    omega
  rcases hkd with ⟨rfl, idx, T, NN, hdg, w1, w2, w3, hcl⟩ | ⟨rfl, idx, hdg, w1, w2⟩ | ⟨rfl, idx, host, hdg, w1, w2⟩ | ⟨rfl, idx, hdg, w1, w2, w3, w4⟩ | ⟨rfl, idx, host, hdg, w1, w2, w3, w4⟩
  · obtain ⟨k, a, as1, vs, rest, rfl, ha, hstk, hlen, has, hr⟩ := ePopV_ok hpop (Or.inl rfl) hsk
    have hM := hcon N Y hN hY D σ ws tys (.ref a :: vs) H.size hs hh ⟨⟨a, ha, rfl⟩, has⟩
    unfold eRcv at hrcv
    simp only at hrcv
    split at hrcv
    · rename_i o ho
      have e0 := Nat.eq_of_beq_eq_true hrcv
      obtain ⟨⟨q, e9⟩, he, fs, hf, -⟩ := eAll_get hh ho
      have hf : e9 = .inr (o.1, fs) := hf
      subst hf
      have e1 := eAd_at he ha
      subst e1
      rw [e0] at he
      exact fin rest _ hr (va_runV (As := vs) (rest := rest) ⟨hx, hb, hml, hown, hts⟩ hM ⟨callB_of _ hts hG rfl rfl rfl (hts _ hini) (hts _ w1) hdd hroom, hts _ w2, hts _ w3⟩ ⟨ePc_blind hF, va_recv hK hP hcl he, hPre _⟩ rfl hlen hl.1 hstk (hcat rest hr) hdg ⟨hmc, hms⟩)
    · cases hrcv
  · obtain ⟨vs, rest, hstk, hlen, has, hr⟩ := ePopS_ok hpop (Or.inl rfl) hsk
    have hM := hcon N Y hN hY D σ ws tys vs H.size hs hh has
    exact fin rest _ hr (va_runS (As := vs) (rest := rest) ⟨hx, hb, hml, hown, hts⟩ hM ⟨callB_of _ hts hG rfl rfl rfl (hts _ hini) (hts _ w1) hdd hroom, hts _ w2⟩ ⟨ePc_blind hF, hPre _⟩ rfl hlen hl.1 hstk (hcat rest hr) hdg ⟨hmc, hms⟩)
  · obtain ⟨vs, rest, hstk, hlen, has, hr⟩ := ePopS_ok hpop (Or.inr rfl) hsk
    have hM := hcon N Y hN hY D σ ws tys vs H.size hs hh has
    exact fin rest _ hr (va_runSN (As := vs) (rest := rest) ⟨hx, hb, hml, hown, hts⟩ hM ⟨va_cnB _ hts hG rfl rfl rfl (hXt.1 _ w1) (hts _ hini) hdd hroom, hts _ w2, trivial⟩ ⟨ePc_blind hF, hPre _⟩ rfl hlen hl.1 hstk (hcat rest hr) hdg ⟨hmc, hms⟩)
  · obtain ⟨k, a, as1, vs, rest, rfl, ha, hstk, hlen, has, hr⟩ := ePopV_ok hpop (Or.inr (Or.inl rfl)) hsk
    have hM := hcon N Y hN hY D σ ws tys (.ref a :: vs) H.size hs hh ⟨⟨a, ha, rfl⟩, has⟩
    rw [w3] at hM hG
    exact fin rest _ hr (va_runI (As := vs) (rest := rest) ⟨hx, hb, hml, hown, hts⟩ hM ⟨callB_of _ hts hG rfl rfl rfl (hts _ hini) (hts _ w1) hdd hroom, w2, hts _ w4⟩ ⟨ePc_blind hF, hPre _⟩ rfl hlen hl.1 hstk (hcat rest hr) hdg ⟨hmc, hms⟩)
  · obtain ⟨k, a, as1, vs, rest, rfl, ha, hstk, hlen, has, hr⟩ := ePopV_ok hpop (Or.inr (Or.inr rfl)) hsk
    have hM := hcon N Y hN hY D σ ws tys (.ref a :: vs) H.size hs hh ⟨⟨a, ha, rfl⟩, has⟩
    rw [w3] at hM hG
    exact fin rest _ hr (va_runIN (As := vs) (rest := rest) ⟨hx, hb, hml, hown, hts⟩ hM ⟨va_cnB _ hts hG rfl rfl rfl (hXt.1 _ w1) (hts _ hini) hdd hroom, w2, hts _ w4⟩ ⟨ePc_blind hF, hPre _⟩ rfl hlen hl.1 hstk (hcat rest hr) hdg ⟨hmc, hms⟩)
end ECL
