section
/-! THE CLEAR MACHINE, 3: the run of a method, with the calls in it. -/
def cArgs (i : Nat) (vs : List cV) : cL := match vs with
  | [] => []
  | v :: vs => (i, v) :: cArgs (cond (Nat.beq (cCat v) 2) (i + 2) (i + 1)) vs
def cCats (vs : List cV) : Nat := match vs with
  | [] => 0
  | v :: vs => cCat v + cCats vs
def cRet (M : eM) (en : eN) (S : cS) : Option (Option cV) := match M.2.2.2.2.1, en.2.1, S.2.2.1 with
  | 0, .return_, [] => some none
  | 1, .ireturn, [.inl q] => some (some (.inl q))
  | 2, .ireturn, [.inl q] => cond (cB1 q) (some (some (.inl q))) none
  | 3, .lreturn, [.inr (.inl u)] => some (some (.inr (.inl u)))
  | 4, .areturn, [.inr (.inr (some k))] => some (some (.inr (.inr (some k))))
  | _, _, _ => none
def cPop (st : List cV) (np : Nat) (kd : Nat) : Option (List cV × List cV) := match kd with
  | 1 | 4 => cond (Nat.ble np st.length) (some ((st.take np).reverse, st.drop np)) none
  | _ => match st[np]? with
    | some (.inr (.inr (some k))) => some (.inr (.inr (some k)) :: (st.take np).reverse, st.drop (np + 1))
    | _ => none
def cRcv (h : cH) (kd d0 : Nat) (as : List cV) : Bool := match kd with
  | 0 => match as with
    | .inr (.inr (some k)) :: _ => match h[k]? with
      | some (.inl o) => Nat.beq o.1 d0
      | _ => false
    | _ => false
  | _ => true
def cCpy (h : cH) (k0 k1 : Nat) (n dp sp : Int32) : Option cH := match h[k0]?, h[k1]? with
  | some (.inr (.inl q0)), some (.inr (.inl q1)) => cond (Nat.beq q0.1 0 && Nat.beq q1.1 0 && !(Nat.beq k0 k1) && decide (0 ≤ n.toInt ∧ 0 ≤ dp.toInt ∧ 0 ≤ sp.toInt ∧ sp.toInt + n.toInt ≤ q0.2.1 ∧ dp.toInt + n.toInt ≤ q1.2.1)) (some (h.set k1 (.inr (.inl (q1.1, q1.2.1, va_cpy q0.2.2 q1.2.2 sp.toNatClampNeg dp.toNatClampNeg n.toNatClampNeg))))) none
  | _, _ => none
/-- Math.min (7), Math.max (8), arraycopy (9) -/
def cBlt (kd : Nat) (h : cH) (st : List cV) : Option (List cV × cH) := match kd, st with
  | 7, .inl y :: .inl x :: r => cond (Nat.ble (cCats r) 8) (some (.inl (if y < x then y else x) :: r, h)) none
  | 8, .inl y :: .inl x :: r => cond (Nat.ble (cCats r) 8) (some (.inl (if x < y then y else x) :: r, h)) none
  | 9, .inl n :: .inl dp :: .inr (.inr (some k1)) :: .inl sp :: .inr (.inr (some k0)) :: r => cond (Nat.ble (cCats r) 8) (match cCpy h k0 k1 n dp sp with
    | some h' => some (r, h')
    | none => none) none
  | _, _ => none
def cIsC (i : Instr) : Bool := match i with
  | .invokevirtual _ => true
  | .invokestatic _ => true
  | .invokespecial _ => true
  | _ => false
def cInv (ms : List eM) (ih : Nat → Nat → cS → Option (Option cV × cH)) (d y : Nat) (S : cS) (kd b d0 : Nat) : Option (Option cV × cH) :=
  match d with
  | 0 => none
  | d' + 1 => cond (Nat.ble 6 kd)
    (match cBlt kd S.2.2.2 S.2.2.1 with
      | some q => ih (d' + 1) y (S.1 + 3, S.2.1, q.1, q.2)
      | none => none)
    (match ms[b]? with
      | none => none
      | some N => match cPop S.2.2.1 N.2.2.2.2.2 kd with
        | none => none
        | some q => cond (Nat.ble (cCats q.2) 8 && Nat.beq N.2.2.1 0 && Nat.beq N.2.2.2.1 0 && Nat.ble (cCats q.1) N.2.1 && cRcv S.2.2.2 kd d0 q.1)
          (match ih d' b (0, cArgs 0 q.1, [], S.2.2.2) with
            | none => none
            | some o => ih (d' + 1) y (S.1 + 3, S.2.1, o.1.toList ++ q.2, o.2))
          none)
def cBody (ms : List eM) (ih : Nat → Nat → cS → Option (Option cV × cH)) (d y : Nat) (S : cS) : Option (Option cV × cH) := match ms[y]? with
  | none => none
  | some M => match eAt M.1 S.1 with
    | none => none
    | some en => match cRet M en S with
      | some v => some (v, S.2.2.2)
      | none => cond (cIsC en.2.1) (cInv ms ih d y S en.2.2.2.1 en.2.2.2.2.1 en.2.2.2.2.2.2) (match cStep M.2.1 en.2.1 en.2.2.2.1 en.2.2.2.2.1 en.2.2.2.2.2.2 S.1 S.2.1 S.2.2.1 S.2.2.2 with
        | some S' => ih d y S'
        | none => none)
def cEx (ms : List eM) (fuel : Nat) : Nat → Nat → cS → Option (Option cV × cH) :=
  Nat.rec (fun _ _ _ => none) (fun _ ih => cBody ms ih) fuel
theorem cBody_mono {ms : List eM} {f g : Nat → Nat → cS → Option (Option cV × cH)} {k : Nat} (hfg : ∀ d y S r, f d y S = some r → g (d + k) y S = some r) {d y : Nat} {S : cS} {r : Option cV × cH} (h : cBody ms f d y S = some r) : cBody ms g (d + k) y S = some r := by
  unfold cBody at h ⊢
  split at h
  · cases h
  · rename_i M hM
    split at h
    · cases h
    · rename_i en hen
      try rw [hM]
      try simp only
      try rw [hen]
      try simp only
      split at h
      · rename_i v hv
        try rw [hv]
        exact h
      · rename_i hv
        try rw [hv]
        try simp only
        cases hc : cIsC en.2.1 with
        | true =>
          rw [hc] at h
          simp only [cond_true] at h ⊢
          unfold cInv at h ⊢
          cases d with
          | zero => cases h
          | succ d' =>
            have e : d' + 1 + k = (d' + k) + 1 := by omega
            rw [e]
            simp only at h ⊢
            cases hk : Nat.ble 6 en.2.2.2.1 with
            | true =>
              rw [hk] at h
              simp only [cond_true] at h ⊢
              split at h
              · rename_i q hq
                try rw [hq]
                have := hfg _ _ _ _ h
                rw [e] at this
                exact this
              · cases h
            | false =>
              rw [hk] at h
              simp only [cond_false] at h ⊢
              split at h
              · cases h
              · rename_i N hN
                try rw [hN]
                try simp only
                split at h
                · cases h
                · rename_i q hq
                  try rw [hq]
                  try simp only
                  obtain ⟨hn, hg⟩ := eCond h
                  rw [hn]
                  simp only [cond_true]
                  split at hg
                  · cases hg
                  · rename_i o ho
                    rw [hfg _ _ _ _ ho]
                    have := hfg _ _ _ _ hg
                    rw [e] at this
                    exact this
        | false =>
          rw [hc] at h
          simp only [cond_false] at h ⊢
          split at h
          · rename_i S' hS'
            try rw [hS']
            exact hfg _ _ _ _ h
          · cases h
theorem cEx_up {ms : List eM} : ∀ (n : Nat) {d y : Nat} {S : cS} {r : Option cV × cH}, cEx ms n d y S = some r → cEx ms (n + 1) d y S = some r
  | 0, d, y, S, r, h => by cases h
  | n + 1, d, y, S, r, h => cBody_mono (k := 0) (fun d y S r hq => cEx_up n hq) (show cBody ms (cEx ms n) d y S = some r from h)
theorem cEx_le {ms : List eM} {n n' : Nat} (hn : n ≤ n') {d y : Nat} {S : cS} {r : Option cV × cH} (h : cEx ms n d y S = some r) : cEx ms n' d y S = some r := by
  obtain ⟨k, rfl⟩ := Nat.le.dest hn
  induction k with
  | zero => exact h
  | succ k ih => exact cEx_up _ (ih (by omega))
theorem cEx_deep {ms : List eM} (k : Nat) : ∀ (n : Nat) {d y : Nat} {S : cS} {r : Option cV × cH}, cEx ms n d y S = some r → cEx ms n (d + k) y S = some r
  | 0, d, y, S, r, h => by cases h
  | n + 1, d, y, S, r, h => cBody_mono (k := k) (fun d y S r hq => cEx_deep k n hq) (show cBody ms (cEx ms n) d y S = some r from h)
/-- from a place a method comes to its end, hands back v, and leaves the cells h -/
def cRun (ms : List eM) (d y : Nat) (S : cS) (v : Option cV) (h : cH) : Prop := ∃ n, cEx ms n d y S = some (v, h)
theorem cRun.deep {ms : List eM} {d d' y : Nat} {S : cS} {v : Option cV} {h : cH} (hr : cRun ms d y S v h) (hd : d ≤ d') : cRun ms d' y S v h := by
  obtain ⟨n, hn⟩ := hr
  obtain ⟨k, rfl⟩ := Nat.le.dest hd
  exact ⟨n, cEx_deep k n hn⟩
section CRU
variable {ms : List eM} {d y : Nat} {S : cS} {v : Option cV} {h : cH} {M : eM} {en : eN}
theorem cRun.ret (hM : ms[y]? = some M) (hen : eAt M.1 S.1 = some en) (hv : cRet M en S = some v) (hh : S.2.2.2 = h) : cRun ms d y S v h := by
  refine ⟨1, ?_⟩
  show cBody ms (cEx ms 0) d y S = _
  unfold cBody
  rw [hM]
  simp only
  rw [hen]
  simp only
  rw [hv, hh]
theorem cRun.step {S' : cS} (hM : ms[y]? = some M) (hen : eAt M.1 S.1 = some en) (hv : cRet M en S = none) (hc : cIsC en.2.1 = false) (hst : cStep M.2.1 en.2.1 en.2.2.2.1 en.2.2.2.2.1 en.2.2.2.2.2.2 S.1 S.2.1 S.2.2.1 S.2.2.2 = some S') (hr : cRun ms d y S' v h) : cRun ms d y S v h := by
  obtain ⟨n, hn⟩ := hr
  refine ⟨n + 1, ?_⟩
  show cBody ms (cEx ms n) d y S = _
  unfold cBody
  rw [hM]
  simp only
  rw [hen]
  simp only
  rw [hv, hc, hst]
  exact hn
theorem cRun.blt {q : List cV × cH} (hM : ms[y]? = some M) (hen : eAt M.1 S.1 = some en) (hv : cRet M en S = none) (hc : cIsC en.2.1 = true) (hk : Nat.ble 6 en.2.2.2.1 = true) (hb : cBlt en.2.2.2.1 S.2.2.2 S.2.2.1 = some q) (hr : cRun ms (d + 1) y (S.1 + 3, S.2.1, q.1, q.2) v h) : cRun ms (d + 1) y S v h := by
  obtain ⟨n, hn⟩ := hr
  refine ⟨n + 1, ?_⟩
  show cBody ms (cEx ms n) (d + 1) y S = _
  unfold cBody
  rw [hM]
  simp only
  rw [hen]
  simp only
  rw [hv, hc]
  simp only [cond_true]
  unfold cInv
  simp only
  rw [hk, hb]
  exact hn
theorem cRun.call {N : eM} {q : List cV × List cV} {o : Option cV} {h1 : cH} (hM : ms[y]? = some M) (hen : eAt M.1 S.1 = some en) (hv : cRet M en S = none) (hc : cIsC en.2.1 = true) (hk : Nat.ble 6 en.2.2.2.1 = false) (hN : ms[en.2.2.2.2.1]? = some N) (hp : cPop S.2.2.1 N.2.2.2.2.2 en.2.2.2.1 = some q)
    (hq : (Nat.ble (cCats q.2) 8 && Nat.beq N.2.2.1 0 && Nat.beq N.2.2.2.1 0 && Nat.ble (cCats q.1) N.2.1 && cRcv S.2.2.2 en.2.2.2.1 en.2.2.2.2.2.2 q.1) = true) (h0 : cRun ms d en.2.2.2.2.1 (0, cArgs 0 q.1, [], S.2.2.2) o h1) (hr : cRun ms (d + 1) y (S.1 + 3, S.2.1, o.toList ++ q.2, h1) v h) : cRun ms (d + 1) y S v h := by
  obtain ⟨n0, hn0⟩ := h0
  obtain ⟨n, hn⟩ := hr
  refine ⟨n0 + n + 1, ?_⟩
  show cBody ms (cEx ms (n0 + n)) (d + 1) y S = _
  have hn0 := cEx_le (n' := n0 + n) (by omega) hn0
  have hn := cEx_le (n' := n0 + n) (by omega) hn
  unfold cBody
  rw [hM]
  simp only
  rw [hen]
  simp only
  rw [hv, hc]
  simp only [cond_true]
  unfold cInv
  simp only
  rw [hk, hN]
  simp only [cond_false]
  rw [hp]
  simp only
  rw [hq, hn0]
  exact hn
end CRU
end
section
/-! THE CLEAR MACHINE, 4: built-ins, calls, the whole run: what cEx finds is what the machine does. -/
theorem cCats_ok {ad : List Nat} : ∀ {r : List cV} {rest : List Value}, eAll (cOk ad) r rest → (rest.map fun v => v.category).sum = cCats r
  | [], _, h => by rw [eAll_nil h]; rfl
  | v :: r, rest, h => by
    obtain ⟨w, rs, rfl, h1, h2⟩ := eAll_cons h
    simp only [List.map_cons, List.sum_cons, cCats]
    rw [cOk_cat h1, cCats_ok h2]
theorem cArgs_ok {ad : List Nat} : ∀ {as : List cV} {vs : List Value} (i : Nat), eAll (cOk ad) as vs → eAll (cLo ad) (cArgs i as) (lv_args i vs)
  | [], _, i, h => by rw [eAll_nil h]; trivial
  | a :: as, _, i, h => by
    obtain ⟨w, vs, rfl, h1, h2⟩ := eAll_cons h
    refine ⟨⟨rfl, h1⟩, ?_⟩
    have e := cOk_cat h1
    have e2 : (cond (Nat.beq (cCat a) 2) (i + 2) (i + 1)) = (if w.category = 2 then i + 2 else i + 1) := by
      rw [e]
      by_cases hc : cCat a = 2
      · rw [if_pos hc, hc]; rfl
      · rw [if_neg hc]
        cases hb : Nat.beq (cCat a) 2 with
        | true => exact absurd (Nat.eq_of_beq_eq_true hb) hc
        | false => rfl
    show eAll (cLo ad) (cArgs (cond (Nat.beq (cCat a) 2) (i + 2) (i + 1)) as) _
    rw [e2]
    exact cArgs_ok _ h2
theorem cSl_ok {ad : List Nat} : ∀ {as : List cV} {vs : List Value}, eAll (cOk ad) as vs → (lg_sl vs).length = cCats as
  | [], _, h => by rw [eAll_nil h]; rfl
  | a :: as, _, h => by
    obtain ⟨w, vs, rfl, h1, h2⟩ := eAll_cons h
    have e := cOk_cat h1
    have ih := cSl_ok h2
    unfold lg_sl at ih ⊢
    rw [List.flatMap_cons, List.length_append, ih, e]
    show _ = cCat a + cCats as
    congr 1
    match a with
    | .inl _ => rfl
    | .inr (.inl _) => rfl
    | .inr (.inr none) => rfl
    | .inr (.inr (some _)) => rfl
section CBO
variable {p : Program} {l0 : Launch} {e : Env} {R : Room} {s : State} {m : MethodId} {args : Array Value} {below : List Frame} {meth : Method} {c : Code} {Q : State → Prop}
variable {cc : ByteArray} {own : String} {Ts : List Cond} {cl : List vw_C} {D : va_G} {A : Nat → Prop} {H0 : Heap} {ad : List Nat} {nL : Nat}
theorem cBlt_ok (hx : p.tables.exec = Jvm.exec) (hb : c.code = cc) (hown : s.vm.findClass own = some m.cls) (hts : ∀ w ∈ Ts, w.before args s = true) (hml : c.maxLocals = nL) (hR1 : 1 ≤ R.frames) (hR2 : 128 ≤ R.locals)
    {idx kd pc cs sl : Nat} {l : cL} {st st' : List cV} {h h' : cH} (hcs : cs ≤ R.cells) (hsl : sl ≤ R.slots) (hdS : kd ≠ 6 → decode cc pc = .ok (.invokestatic idx, 3)) (hlk : eLb Ts own idx kd)
    (hst : cBlt kd h st = some (st', h'))
    (K : ∀ (H : Heap) (locs : List Loc) (ws : va_W) (tys : List (ClassId × FieldType)) (ls : Array Slot) (lv : List (Nat × Value)) (stk : List Value), cCn D cl A H0 s nL ad (pc + 3, l, st', h') H locs ws tys ls lv stk → W p l0 e R s m args below meth c H locs cs sl Q (F0 m (pc + 3) ls stk)) :
    ∀ (H : Heap) (locs : List Loc) (ws : va_W) (tys : List (ClassId × FieldType)) (ls : Array Slot) (lv : List (Nat × Value)) (stk : List Value), cCn D cl A H0 s nL ad (pc, l, st, h) H locs ws tys ls lv stk → W p l0 e R s m args below meth c H locs cs sl Q (F0 m pc ls stk) := by
  intro H locs ws tys ls lv stk hc
  obtain ⟨hK, hP, hD, hS, hpre, hh, hl, hlv, hsk⟩ := hc
  have hsz : ls.size = c.maxLocals := by rw [hml]; exact hl.1
  unfold cBlt at hst
  split at hst
  · rename_i y x r
    obtain ⟨hn, hg⟩ := eCond hst
    cases hg
    have hn := Nat.le_of_ble_eq_true hn
    obtain ⟨w, stk, rfl, hw, hsk1⟩ := eAll_cons hsk
    cases hw
    obtain ⟨w, stk, rfl, hw, hr⟩ := eAll_cons hsk1
    cases hw
    have hcat := cCats_ok hr
    exact va_mmin hx hb hsz.symm hown (hts _ hlk.1) (hts _ hlk.2.1) (hts _ hlk.2.2.1) (hts _ hlk.2.2.2) hR1 (by rw [hcat]; omega) hcs hsl (hdS (by decide)) (K _ _ _ _ _ _ _ ⟨hK, hP, hD, hS, hpre, hh, hl, hlv, rfl, hr⟩)
  · rename_i y x r
    obtain ⟨hn, hg⟩ := eCond hst
    cases hg
    have hn := Nat.le_of_ble_eq_true hn
    obtain ⟨w, stk, rfl, hw, hsk1⟩ := eAll_cons hsk
    cases hw
    obtain ⟨w, stk, rfl, hw, hr⟩ := eAll_cons hsk1
    cases hw
    have hcat := cCats_ok hr
    exact va_mmax hx hb hsz.symm hown (hts _ hlk.1) (hts _ hlk.2.1) (hts _ hlk.2.2.1) (hts _ hlk.2.2.2) hR1 (by rw [hcat]; omega) hcs hsl (hdS (by decide)) (K _ _ _ _ _ _ _ ⟨hK, hP, hD, hS, hpre, hh, hl, hlv, rfl, hr⟩)
  · rename_i n dp k1 sp k0 r
    obtain ⟨hn, hg⟩ := eCond hst
    clear hst
    have hn := Nat.le_of_ble_eq_true hn
    split at hg
    · rename_i h2 hcp
      cases hg
      unfold cCpy at hcp
      split at hcp
      · rename_i q0 q1 ho0 ho1
        obtain ⟨hcc, hg2⟩ := eCond hcp
        clear hcp
        simp only [Bool.and_eq_true] at hcc
        obtain ⟨⟨⟨c1, c2⟩, c3⟩, c4⟩ := hcc
        have e0 := Nat.eq_of_beq_eq_true c1
        have e1 := Nat.eq_of_beq_eq_true c2
        have c4 := of_decide_eq_true c4
        obtain ⟨p1, p2, p3, p4, p5⟩ := c4
        obtain ⟨⟨a0, x0⟩, w1, cA0, s0, ht0, hN0, hM0, hr0⟩ := eAll_get hh ho0
        obtain ⟨⟨a1, x1⟩, w2, cA1, s1, ht1, hN1, hM1, hr1⟩ := eAll_get hh ho1
        have hr0 : x0 = .inl (cA0, q0.2.1, .inl q0.2.2) := hr0
        have hr1 : x1 = .inl (cA1, q1.2.1, .inl q1.2.2) := hr1
        subst hr0
        subst hr1
        rw [e0] at ht0
        rw [e1] at ht1
        cases hg2
        obtain ⟨w, stk, rfl, hw, hsk1⟩ := eAll_cons hsk
        cases hw
        obtain ⟨w, stk, rfl, hw, hsk2⟩ := eAll_cons hsk1
        cases hw
        obtain ⟨w, stk, rfl, ⟨y1, hy1, rfl⟩, hsk3⟩ := eAll_cons hsk2
        obtain ⟨w, stk, rfl, hw, hsk4⟩ := eAll_cons hsk3
        cases hw
        obtain ⟨w, stk, rfl, ⟨y2, hy2, rfl⟩, hsk5⟩ := eAll_cons hsk4
        have hcat := cCats_ok hsk5
        have e4 := cAd hpre w2 hy1
        have e5 := cAd hpre w1 hy2
        subst e4
        subst e5
        have neg : ∀ z : Int32, 0 ≤ z.toInt → ¬ z < 0 := fun z hz q => by have := Int32.lt_iff_toInt_lt.mp q; have e : (0 : Int32).toInt = 0 := rfl; omega
        have cl0 : ∀ z : Int32, 0 ≤ z.toInt → (z.toNatClampNeg : Int) = z.toInt := fun z hz => by rw [Int32.toNatClampNeg]; exact Int.toNat_of_nonneg hz
        have g5 : sp.toNatClampNeg + n.toNatClampNeg ≤ q0.2.1 := by have := cl0 sp p3; have := cl0 n p1; omega
        have g6 : dp.toNatClampNeg + n.toNatClampNeg ≤ q1.2.1 := by have := cl0 dp p2; have := cl0 n p1; omega
        exact va_copyi hx hb hsz.symm hown (hts _ hlk.1) (hts _ hlk.2.1) (hts _ hlk.2.2.1) (hts _ hlk.2.2.2) hK hP hD hS _ _ s0 s1 w1 w2 ht0 ht1 rfl (neg _ p3) (neg _ p2) (neg _ p1) g5 g6 (fun _ _ => rfl) hR1 (by rw [hcat]; show _ + (7 + 11) ≤ _; omega) (hdS (by decide)) (fun H1 locs1 hP hD hS => K _ _ _ _ _ _ _ (cCn_set hK w2 hP hD hS hpre (eAll_set hh k1 ⟨cA1, s1, by rw [e1]; exact ht1, hN1, hM1, rfl⟩) hl hlv hsk5))
      · cases hcp
    · cases hg
  · cases hst
end CBO
/-! calls -/
def cOv (ad : List Nat) (v : Option cV) (w : Option Value) : Prop := match v, w with
  | none, none => True
  | some v, some w => cOk ad v w
  | _, _ => False
section CCN
variable (Fz : (Nat → Prop) → State → Heap → Prop) (l0 : Launch) (cl : List vw_C) (Ts : List Cond) (nst : List (String × Nat × MethodName × String)) (ms : List eM) (yt : List eY)
def cQ (D : va_G) (ws : va_W) (v : Option cV) (h' : cH) (sz : Nat) : Array Value → State → Outcome → State → Prop := fun _ st oc t =>
  (∃ (w : Option Value) (ws' : va_W) (tys' : List (ClassId × FieldType)), oc = .returned w ∧ cOv (ws.map Prod.fst) v w ∧ ws'.map Prod.fst = ws.map Prod.fst ∧ eAll (cCk (ws.map Prod.fst) tys') h' ws' ∧ va_P D cl ws' t.heap ∧ va_K D cl tys' t ∧ va_D (va_A ws sz) ws') ∧ va_F (va_A ws sz) st t
/-- a call's contract -/
def cCon (d b : Nat) (as : List cV) (h : cH) (v : Option cV) (h' : cH) : Prop := ∀ (M : eM) (Y : eY), ms[b]? = some M → yt[b]? = some Y → ∀ (D : va_G) (ws : va_W) (tys : List (ClassId × FieldType)) (vs : List Value) (sz : Nat), eAll (cCk (ws.map Prod.fst) tys) h ws → eAll (cOk (ws.map Prod.fst)) as vs →
  Met l0 Y.1 (Cond.code Y.1 Y.2.1 M.2.1 Y.2.2 :: Ts) (eRm d M) (ePc Fz cl nst D ws tys vs sz) (cQ cl D ws v h' sz) M.2.2.1 M.2.2.2.1 (va_A ws sz)
def cGl (d y : Nat) (S : cS) (v : Option cV) (h' : cH) : Prop := ∀ (M : eM) (Y : eY), ms[y]? = some M → yt[y]? = some Y → ∀ (p : Program) (e : Env) (R : Room) (s : State) (m : MethodId) (args : Array Value) (below : List Frame) (meth : Method) (c : Code), eCx Ts nst M Y d p R s m args meth c → ∀ (D : va_G) (A : Nat → Prop) (H0 : Heap) (ad : List Nat), (∀ q, H0.size ≤ q → A q) → Fz A s H0 → ∀ Q : State → Prop,
  (∀ f : cS, (∃ en, eAt M.1 f.1 = some en ∧ cRet M en f = some v) → f.2.2.2 = h' → ∀ (H : Heap) (locs : List Loc) (ws : va_W) (tys : List (ClassId × FieldType)) (ls : Array Slot) (lv : List (Nat × Value)) (stk : List Value), cCn D cl A H0 s M.2.1 ad f H locs ws tys ls lv stk → W p l0 e R s m args below meth c H locs 0 0 Q (F0 m f.1 ls stk)) →
  ∀ (H : Heap) (locs : List Loc) (ws : va_W) (tys : List (ClassId × FieldType)) (ls : Array Slot) (lv : List (Nat × Value)) (stk : List Value), cCn D cl A H0 s M.2.1 ad S H locs ws tys ls lv stk → W p l0 e R s m args below meth c H locs 0 0 Q (F0 m S.1 ls stk)
end CCN
section CCL
variable {p : Program} {l0 : Launch} {e : Env} {R : Room} {s : State} {m : MethodId} {args : Array Value} {below : List Frame} {meth : Method} {c : Code} {Q : State → Prop}
variable {Fz : (Nat → Prop) → State → Heap → Prop} {cc : ByteArray} {own : String} {Ts : List Cond} {nst : List (String × Nat × MethodName × String)} {cl : List vw_C} {ms : List eM} {yt : List eY} {D : va_G} {A : Nat → Prop} {H0 : Heap} {ad : List Nat} {nL : Nat}
theorem cBack {H : Heap} {locs : List Loc} {cs sl mc ms pc : Nat} {ls : Array Slot} {st0 rest : List Value} {ws : va_W} {v : Option cV} {h' : cH} {a : Array Value} (hr : va_Run p l0 e R s m args below meth c H locs cs sl mc ms (F0 m pc ls st0) rest (cQ cl D ws v h' H.size a) (va_A ws H.size)) (hS : va_S A H0 H locs) (hA1 : ∀ q, va_A ws H.size q → A q)
    (kk : ∀ (w : Option Value) (ws' : va_W) (tys' : List (ClassId × FieldType)) (H1 : Heap) (locs1 : List Loc), cOv (ws.map Prod.fst) v w → ws'.map Prod.fst = ws.map Prod.fst → eAll (cCk (ws.map Prod.fst) tys') h' ws' → va_P D cl ws' H1 → va_K D cl tys' s → va_D A ws' → va_S A H0 H1 locs1 → W p l0 e R s m args below meth c H1 locs1 (cs + mc) (sl + ms) Q (F0 m (pc + 3) ls (w.toList ++ rest))) : W p l0 e R s m args below meth c H locs cs sl Q (F0 m pc ls st0) := by
  intro T hT X
  obtain ⟨v, st₀, t, T', L, h0, X', hL, e1, e2, ⟨⟨w, ws', tys', hv, hov, hpre', hh', hP', hK', hD'⟩, hz, hk⟩, st⟩ := hr T hT X
  cases hv
  rw [h0] at hz hk
  have hal : s.vm.Alike t.vm := by rw [← e2]; exact X'.warmed.alike
  obtain ⟨t2, a1, b1⟩ := kk v ws' tys' T'.heap (locs ++ L) hov hpre' hh' (by rw [e1]; exact hP') (va_K.moved hal.symm hK') (hD'.weaken (fun k q _ h => hA1 q.1 h))
    ⟨Nat.le_trans hS.1 (by rw [e1]; exact hz), fun q h1 h2 => by rw [e1, hk q (Nat.lt_of_lt_of_le h1 hS.1) (fun z => h2 (hA1 q z))]; exact hS.2.1 q h1 h2, fun q hq => by
      rcases List.mem_append.mp hq with h | h
      · exact hS.2.2 q h
      · exact hA1 _ (hL q h)⟩ T' rfl X'
  exact ⟨t2, st t2 a1, b1⟩
theorem cPopS_ok {st as r : List cV} {np kd : Nat} {stk : List Value} (h : cPop st np kd = some (as, r)) (hk : kd = 1 ∨ kd = 4) (hs : eAll (cOk ad) st stk) : ∃ vs rest : List Value, stk = vs.reverse ++ rest ∧ vs.length = np ∧ eAll (cOk ad) as vs ∧ eAll (cOk ad) r rest := by
  have h2 : cond (Nat.ble np st.length) (some ((st.take np).reverse, st.drop np)) none = some (as, r) := by rcases hk with rfl | rfl <;> exact h
  obtain ⟨h3, h4⟩ := eCond h2
  cases h4
  have h3 := Nat.le_of_ble_eq_true h3
  refine ⟨(stk.take np).reverse, stk.drop np, by simp, ?_, eAll_rev (eAll_take np hs), eAll_drop np hs⟩
  have := eAll_len hs
  simp
  omega
theorem cPopV_ok {st as r : List cV} {np kd : Nat} {stk : List Value} (h : cPop st np kd = some (as, r)) (hk : kd = 0 ∨ kd = 2 ∨ kd = 5) (hs : eAll (cOk ad) st stk) : ∃ (k a : Nat) (as1 : List cV) (vs rest : List Value), as = .inr (.inr (some k)) :: as1 ∧ ad[k]? = some a ∧ stk = vs.reverse ++ .ref a :: rest ∧ vs.length = np ∧ eAll (cOk ad) as1 vs ∧ eAll (cOk ad) r rest := by
  have h2 : (match st[np]? with
    | some (.inr (.inr (some k))) => some (.inr (.inr (some k)) :: (st.take np).reverse, st.drop (np + 1))
    | _ => none) = some (as, r) := by rcases hk with rfl | rfl | rfl <;> exact h
  split at h2
  · rename_i k hk2
    cases h2
    obtain ⟨w, hw, a, ha, rfl⟩ := eAll_get hs hk2
    have hlt := (List.getElem?_eq_some_iff.mp hw).1
    refine ⟨k, a, _, (stk.take np).reverse, stk.drop (np + 1), rfl, ha, ?_, by simp; omega, eAll_rev (eAll_take np hs), eAll_drop (np + 1) hs⟩
    rw [List.reverse_reverse]
    have e1 : stk.drop np = .ref a :: stk.drop (np + 1) := by
      rw [List.drop_eq_getElem_cons hlt]
      congr 1
      have := List.getElem?_eq_getElem hlt
      rw [hw] at this
      exact (Option.some.inj this).symm
    rw [← e1]
    exact (List.take_append_drop np stk).symm
  · cases h2
theorem cCall_ok (hx : p.tables.exec = Jvm.exec) (hb : c.code = cc) (hown : s.vm.findClass own = some m.cls) (hts : ∀ w ∈ Ts, w.before args s = true) (hgood : ∀ w ∈ Ts, (w.onTables && w.keeps) = true ∨ ∃ ty, w = .arrayClass ty) (hml : c.maxLocals = nL) (hXt : eXt nst s) (hF : eFzOk Fz) (hFs : Fz A s H0) (hA : ∀ q, H0.size ≤ q → A q)
    {d b kd d0 pc : Nat} {l : cL} {st as r : List cV} {h h' : cH} {v : Option cV} {N : eM} {Y : eY} (hR1 : d + 1 ≤ R.frames) (hR2 : 128 * (d + 1) ≤ R.locals) (hN : ms[b]? = some N) (hY : yt[b]? = some Y) (hok : eMok cl Ts nst ms yt N Y) (hcon : cCon Fz l0 cl Ts nst ms yt d b as h v h')
    (hkd : eKd cl Ts nst own cc pc kd d0 Y) (hpop : cPop st N.2.2.2.2.2 kd = some (as, r)) (hcr : cCats r ≤ 8) (hmc : N.2.2.1 = 0) (hms : N.2.2.2.1 = 0) (hrcv : cRcv h kd d0 as = true)
    (K : ∀ (H : Heap) (locs : List Loc) (ws : va_W) (tys : List (ClassId × FieldType)) (ls : Array Slot) (lv : List (Nat × Value)) (stk : List Value), cCn D cl A H0 s nL ad (pc + 3, l, v.toList ++ r, h') H locs ws tys ls lv stk → W p l0 e R s m args below meth c H locs 0 0 Q (F0 m (pc + 3) ls stk)) :
    ∀ (H : Heap) (locs : List Loc) (ws : va_W) (tys : List (ClassId × FieldType)) (ls : Array Slot) (lv : List (Nat × Value)) (stk : List Value), cCn D cl A H0 s nL ad (pc, l, st, h) H locs ws tys ls lv stk → W p l0 e R s m args below meth c H locs 0 0 Q (F0 m pc ls stk) := by
  intro H locs ws tys ls lv stk hc
  obtain ⟨hK, hP, hD, hS, hpre, hh, hl, hlv, hsk⟩ := hc
  subst hpre
  obtain ⟨-, hcode, hini, -, hdd, hnl, -⟩ := hok
  have hG : GoodIn Ts (Cond.code Y.1 Y.2.1 N.2.1 Y.2.2 :: Ts) := fun w hw => by
    rcases List.mem_cons.mp hw with rfl | hw
    · exact ⟨hcode, hgood _ hcode⟩
    · exact ⟨hw, hgood _ hw⟩
  have hroom : (eRm d N).frames + 1 ≤ R.frames ∧ 8 + (N.2.1 + 11) + (eRm d N).locals ≤ R.locals := ⟨hR1, by show 8 + (N.2.1 + 11) + 128 * d ≤ _; omega⟩
  have hA1 : ∀ q, va_A ws H.size q → A q := by
    intro q hq
    rcases hq with ⟨k, e9, hk⟩ | hq
    · exact hD.2 k (q, e9) hk
    · exact hA q (Nat.le_trans hS.1 hq)
  have hmc0 : 0 + N.2.2.1 ≤ R.cells ∧ 0 + N.2.2.2.1 ≤ R.slots := by rw [hmc, hms]; exact ⟨Nat.zero_le _, Nat.zero_le _⟩
  have hPre : ∀ (vs : List Value) (U : State), U.heap = H → s.WarmedH U.vm → ePc Fz cl nst D ws tys vs H.size vs.toArray U := fun vs U hU hW => ⟨rfl, by rw [hU], by rw [hU]; exact hP, va_K.moved hW.alike hK, hD.weaken (fun _ _ _ _ => trivial), hXt.warm hW, by rw [hU]; exact hF.1 A _ s U H0 H hFs hW hS.2.1 hA1⟩
  have fin : ∀ (rest : List Value) (a : Array Value), eAll (cOk (ws.map Prod.fst)) r rest → va_Run p l0 e R s m args below meth c H locs 0 0 N.2.2.1 N.2.2.2.1 (F0 m pc ls stk) rest (cQ cl D ws v h' H.size a) (va_A ws H.size) → W p l0 e R s m args below meth c H locs 0 0 Q (F0 m pc ls stk) := by
    intro rest a hr hrun
    refine cBack hrun hS hA1 (fun w ws' tys' H1 locs1 hov hpre' hh' hP' hK' hD' hS' => ?_)
    rw [hmc, hms]
    refine K _ _ ws' tys' ls lv _ ⟨hK', hP', hD', hS', hpre', hh', hl, hlv, ?_⟩
    show eAll _ (v.toList ++ r) _
    cases h1 : v with
    | none =>
      rw [h1] at hov
      cases w with
      | none => exact hr
      | some w => exact hov.elim
    | some v =>
      rw [h1] at hov
      cases w with
      | none => exact hov.elim
      | some w => exact ⟨hov, hr⟩
  have hcat : ∀ rest : List Value, eAll (cOk (ws.map Prod.fst)) r rest → 2 * (F0 m pc ls stk).monitorRoom + (rest.map fun v => v.category).sum ≤ 8 := fun rest hr => by
    rw [cCats_ok hr]
    show 2 * 0 + _ ≤ 8
    omega
  rcases hkd with ⟨rfl, idx, T, NN, hdg, w1, w2, w3, hcl⟩ | ⟨rfl, idx, hdg, w1, w2⟩ | ⟨rfl, idx, host, hdg, w1, w2⟩ | ⟨rfl, idx, hdg, w1, w2, w3, w4⟩ | ⟨rfl, idx, host, hdg, w1, w2, w3, w4⟩
  · obtain ⟨k, a, as1, vs, rest, rfl, ha, hstk, hlen, has, hr⟩ := cPopV_ok hpop (Or.inl rfl) hsk
    have hM := hcon N Y hN hY D ws tys (.ref a :: vs) H.size hh ⟨⟨a, ha, rfl⟩, has⟩
    unfold cRcv at hrcv
    simp only at hrcv
    split at hrcv
    · rename_i o ho
      have e0 := Nat.eq_of_beq_eq_true hrcv
      obtain ⟨⟨q, e9⟩, he, fs, hf, -⟩ := eAll_get hh ho
      have hf : e9 = .inr (o.1, fs) := hf
      subst hf
      have e1 := eAd_at he ha
      subst e1
      rw [e0] at he
      exact fin rest _ hr (va_runV (As := vs) (rest := rest) ⟨hx, hb, hml, hown, hts⟩ hM ⟨callB_of _ hts hG rfl rfl rfl (hts _ hini) (hts _ w1) hdd hroom, hts _ w2, hts _ w3⟩ ⟨ePc_blind hF, va_recv hK hP hcl he, hPre _⟩ rfl hlen hl.1 hstk (hcat rest hr) hdg hmc0)
    · cases hrcv
  · obtain ⟨vs, rest, hstk, hlen, has, hr⟩ := cPopS_ok hpop (Or.inl rfl) hsk
    have hM := hcon N Y hN hY D ws tys vs H.size hh has
    exact fin rest _ hr (va_runS (As := vs) (rest := rest) ⟨hx, hb, hml, hown, hts⟩ hM ⟨callB_of _ hts hG rfl rfl rfl (hts _ hini) (hts _ w1) hdd hroom, hts _ w2⟩ ⟨ePc_blind hF, hPre _⟩ rfl hlen hl.1 hstk (hcat rest hr) hdg hmc0)
  · obtain ⟨vs, rest, hstk, hlen, has, hr⟩ := cPopS_ok hpop (Or.inr rfl) hsk
    have hM := hcon N Y hN hY D ws tys vs H.size hh has
    exact fin rest _ hr (va_runSN (As := vs) (rest := rest) ⟨hx, hb, hml, hown, hts⟩ hM ⟨va_cnB _ hts hG rfl rfl rfl (hXt.1 _ w1) (hts _ hini) hdd hroom, hts _ w2, trivial⟩ ⟨ePc_blind hF, hPre _⟩ rfl hlen hl.1 hstk (hcat rest hr) hdg hmc0)
  · obtain ⟨k, a, as1, vs, rest, rfl, ha, hstk, hlen, has, hr⟩ := cPopV_ok hpop (Or.inr (Or.inl rfl)) hsk
    have hM := hcon N Y hN hY D ws tys (.ref a :: vs) H.size hh ⟨⟨a, ha, rfl⟩, has⟩
    rw [w3] at hM hG
    exact fin rest _ hr (va_runI (As := vs) (rest := rest) ⟨hx, hb, hml, hown, hts⟩ hM ⟨callB_of _ hts hG rfl rfl rfl (hts _ hini) (hts _ w1) hdd hroom, w2, hts _ w4⟩ ⟨ePc_blind hF, hPre _⟩ rfl hlen hl.1 hstk (hcat rest hr) hdg hmc0)
  · obtain ⟨k, a, as1, vs, rest, rfl, ha, hstk, hlen, has, hr⟩ := cPopV_ok hpop (Or.inr (Or.inr rfl)) hsk
    have hM := hcon N Y hN hY D ws tys (.ref a :: vs) H.size hh ⟨⟨a, ha, rfl⟩, has⟩
    rw [w3] at hM hG
    exact fin rest _ hr (va_runIN (As := vs) (rest := rest) ⟨hx, hb, hml, hown, hts⟩ hM ⟨va_cnB _ hts hG rfl rfl rfl (hXt.1 _ w1) (hts _ hini) hdd hroom, w2, hts _ w4⟩ ⟨ePc_blind hF, hPre _⟩ rfl hlen hl.1 hstk (hcat rest hr) hdg hmc0)
end CCL
section CMN
variable {Fz : (Nat → Prop) → State → Heap → Prop} {l0 : Launch} {cl : List vw_C} {Ts : List Cond} {nst : List (String × Nat × MethodName × String)} {dfs : List (List eV)} {ms : List eM} {yt : List eY}
/-- a run from a method's first instruction to its end is a contract -/
theorem cCon_of (hT : eAll (eMok cl Ts nst ms yt) ms yt) {d b : Nat} {as : List cV} {h h' : cH} {v : Option cV} {N : eM} (hN : ms[b]? = some N) (hca : cCats as ≤ N.2.1) (hg : cGl Fz l0 cl Ts nst ms yt d b (0, cArgs 0 as, [], h) v h') : cCon Fz l0 cl Ts nst ms yt d b as h v h' := by
  intro M Y hM hY D ws tys vs sz hh has
  have eM := Option.some.inj (hN.symm.trans hM)
  subst eM
  obtain ⟨Y', hY', hok⟩ := eAll_get hT hN
  have eY' := Option.some.inj (hY'.symm.trans hY)
  subst eY'
  refine Met.ofW (cc := Y'.2.1) (maxL := N.2.1) (ret := Y'.2.2) hok.2.2.2.1 rfl ?_
  intro p e s m args below meth c s₁ B hml hv
  obtain ⟨rfl, hsz, hP, hK, hD0, hXt, hFz⟩ := hv
  have hts := atoms_spec (ws := Cond.code Y'.1 Y'.2.1 N.2.1 Y'.2.2 :: Ts) B.pre
  have hlocks := B.notSynchronized
  have hD := hD0.self (sz := s.heap.size)
  have hl := lv_entry vs (n := N.2.1) (by rw [cSl_ok has]; exact hca)
  rw [lg_entry_eq]
  generalize (lg_sl vs ++ List.replicate (N.2.1 - (lg_sl vs).length) Slot.unset).toArray = ls at hl ⊢
  subst hsz
  have hcx : eCx Ts nst N Y' d p (eRm d N) s m vs.toArray meth c := ⟨B.exec, B.bytes, findClass_of_methodNamed B.named, fun w hw => hts w (List.mem_cons_of_mem _ hw), hml, fun hi => by rw [(name_of_methodNamed B.named B.method).1]; exact eq_of_beq hi, hXt, Nat.le_refl _, Nat.le_refl _, rfl, rfl⟩
  refine hg N Y' hN hY p e (eRm d N) s m vs.toArray below meth c hcx D (va_A ws s.heap.size) s.heap (ws.map Prod.fst) (fun q hq => Or.inr hq) hFz _ ?_ s.heap [] ws tys ls (lv_args 0 vs) [] ⟨hK, hP, hD, va_S.rf, rfl, hh, hl, cArgs_ok 0 has, trivial⟩
  intro f hf hfh H locs ws' tys' ls' lv' stk' hc
  obtain ⟨hK', hP', hD', hS', hpre', hh', hl', hlv', hsk'⟩ := hc
  obtain ⟨en, hen, hr⟩ := hf
  rw [hfh] at hh'
  refine W.widen (k := N.2.2.1) (n := N.2.2.2.1) (Nat.zero_le _) (Nat.zero_le _) ?_
  have hq : ∀ (w : Option Value) (t : State), cOv (ws.map Prod.fst) v w → t.heap = H → s.WarmedH t.vm → cQ cl D ws v h' s.heap.size vs.toArray s (.returned w) t := fun w t hov ht hW => ⟨⟨w, ws', tys', rfl, hov, hpre', hh', by rw [ht]; exact hP', va_K.moved hW.alike hK', hD'⟩, hS'.F ht⟩
  have hfr : ∀ q ∈ locs, va_A ws s.heap.size q.base := hS'.2.2
  obtain ⟨hpc, hmem2⟩ := eAt_ok hen
  have hdec := (hok.1 en hmem2).1
  have hrt := hok.2.2.2.2.2.2
  have hst : ∀ x, f.2.2.1 = x → eAll (cOk (ws.map Prod.fst)) x stk' := fun x hx => hx ▸ hsk'
  unfold cRet at hr
  split at hr
  · rename_i h1 h2 h3
    cases hr
    have e1 := eAll_nil (hst _ h3)
    subst e1
    rw [h2] at hdec
    rw [h1] at hrt
    have hdec := hdec (by simp [eLen])
    rw [hpc] at hdec
    exact W.vret B.exec B.bytes (by rw [B.returns]; exact hrt) (fun t ht hW => hq none t trivial ht hW) hfr hdec
  · rename_i q h1 h2 h3
    cases hr
    obtain ⟨w, r, rfl, hw, hn⟩ := eAll_cons (hst _ h3)
    cases hw
    have e1 := eAll_nil hn
    subst e1
    rw [h2] at hdec
    rw [h1] at hrt
    have hdec := hdec (by simp [eLen])
    rw [hpc] at hdec
    exact W.iret B.exec B.bytes (by rw [B.returns]; exact hrt) (fun t ht hW => hq (some (.int q)) t rfl ht hW) hfr hdec
  · rename_i q h1 h2 h3
    obtain ⟨hbo, hr3⟩ := eCond hr
    cases hr3
    obtain ⟨w, r, rfl, hw, hn⟩ := eAll_cons (hst _ h3)
    cases hw
    have e1 := eAll_nil hn
    subst e1
    rw [h2] at hdec
    rw [h1] at hrt
    have hdec := hdec (by simp [eLen])
    rw [hpc] at hdec
    have hx01 := cB1_ok hbo
    exact W.zret B.exec B.bytes (by rw [B.returns]; exact hrt) (by rcases hx01 with rfl | rfl <;> decide) (fun t ht hW => hq (some (.int q)) t rfl ht hW) hfr hdec
  · rename_i u h1 h2 h3
    cases hr
    obtain ⟨w, r, rfl, hw, hn⟩ := eAll_cons (hst _ h3)
    cases hw
    have e1 := eAll_nil hn
    subst e1
    rw [h2] at hdec
    rw [h1] at hrt
    have hdec := hdec (by simp [eLen])
    rw [hpc] at hdec
    exact W.lret B.exec B.bytes (by rw [B.returns]; exact hrt) (fun t ht hW => hq (some (.long u)) t rfl ht hW) hfr hdec
  · rename_i k h1 h2 h3
    cases hr
    obtain ⟨w, r, rfl, ⟨x, hxa, rfl⟩, hn⟩ := eAll_cons (hst _ h3)
    have e1 := eAll_nil hn
    subst e1
    rw [h2] at hdec
    rw [h1] at hrt
    have hdec := hdec (by simp [eLen])
    rw [hpc] at hdec
    obtain ⟨rt, hrt1, hrt2⟩ := hrt
    exact W.aret B.exec B.bytes (by rw [B.returns]; exact hrt1) hrt2 (Or.inr ⟨x, rfl⟩) (fun t ht hW => hq (some (.ref x)) t ⟨x, hxa, rfl⟩ ht hW) hfr hdec
  · cases hr
theorem cInv_ok (hF : eFzOk Fz) (hT : eAll (eMok cl Ts nst ms yt) ms yt) (hgood : ∀ w ∈ Ts, (w.onTables && w.keeps) = true ∨ ∃ ty, w = .arrayClass ty)
    {X : Nat → Nat → cS → Option (Option cV × cH)} (ih : ∀ (d y : Nat) (S : cS) (r : Option cV × cH), X d y S = some r → cGl Fz l0 cl Ts nst ms yt d y S r.1 r.2) {d y : Nat} {S : cS} {r : Option cV × cH} {kd b d0 : Nat} {M : eM} (hM : ms[y]? = some M) (h : cInv ms X d y S kd b d0 = some r)
    (hlk : ∀ Y, yt[y]? = some Y → (6 ≤ kd → ∃ idx, eLb Ts Y.1.cls idx kd ∧ (kd = 6 → decode Y.2.1 S.1 = .ok (.invokespecial idx, 3)) ∧ (kd ≠ 6 → decode Y.2.1 S.1 = .ok (.invokestatic idx, 3))) ∧ (kd < 6 → ∃ (N : eM) (Z : eY), ms[b]? = some N ∧ yt[b]? = some Z ∧ eKd cl Ts nst Y.1.cls Y.2.1 S.1 kd d0 Z)) : cGl Fz l0 cl Ts nst ms yt d y S r.1 r.2 := by
  intro M' Y hM' hY p e R s m args below meth c hcx D A H0 ad hA hFs Q K H locs ws tys ls lv stk hc
  have e0 := Option.some.inj (hM.symm.trans hM')
  subst e0
  obtain ⟨hx, hb, hown, hts, hml, hin, hXt, hR1, hR2, hRc, hRs⟩ := id hcx
  obtain ⟨pc, l, st, hp⟩ := S
  unfold cInv at h
  cases d with
  | zero => cases h
  | succ d' =>
    simp only at h
    cases hk : Nat.ble 6 kd with
    | true =>
      rw [hk] at h
      simp only [cond_true] at h
      obtain ⟨idx, g1, g2, g3⟩ := (hlk Y hY).1 (Nat.le_of_ble_eq_true hk)
      split at h
      · rename_i q hbl
        refine cBlt_ok (l := l) hx hb hown hts hml (by omega) (by omega) (Nat.zero_le _) (Nat.zero_le _) g3 g1 hbl ?_ H locs ws tys ls lv stk hc
        exact ih _ _ _ _ h M Y hM hY p e R s m args below meth c hcx D A H0 ad hA hFs Q K
      · cases h
    | false =>
      rw [hk] at h
      simp only [cond_false] at h
      have hlt : kd < 6 := by
        rcases Nat.lt_or_ge kd 6 with q | q
        · exact q
        · rw [Nat.ble_eq_true_of_le q] at hk; cases hk
      obtain ⟨N, Z, hN, hZ, hkd⟩ := (hlk Y hY).2 hlt
      rw [hN] at h
      simp only at h
      split at h
      · cases h
      · rename_i q hpop
        obtain ⟨hn, hg⟩ := eCond h
        clear h
        simp only [Bool.and_eq_true] at hn
        obtain ⟨⟨⟨⟨n1, n2⟩, n3⟩, n4⟩, n5⟩ := hn
        split at hg
        · cases hg
        · rename_i o ho
          obtain ⟨Z', hZ', hok⟩ := eAll_get hT hN
          have e1 := Option.some.inj (hZ'.symm.trans hZ)
          subst e1
          have hcon : cCon Fz l0 cl Ts nst ms yt d' b q.1 hp o.1 o.2 := cCon_of hT hN (Nat.le_of_ble_eq_true n4) (ih _ _ _ _ ho)
          refine cCall_ok (l := l) hx hb hown hts hgood hml hXt hF hFs hA hR1 hR2 hN hZ hok hcon hkd hpop (Nat.le_of_ble_eq_true n1) (Nat.eq_of_beq_eq_true n2) (Nat.eq_of_beq_eq_true n3) n5 ?_ H locs ws tys ls lv stk hc
          exact ih _ _ _ _ hg M Y hM hY p e R s m args below meth c hcx D A H0 ad hA hFs Q K
theorem cEx_ok (hF : eFzOk Fz) (hT : eAll (eMok cl Ts nst ms yt) ms yt) (hgood : ∀ w ∈ Ts, (w.onTables && w.keeps) = true ∨ ∃ ty, w = .arrayClass ty) (hcl : eKl cl Ts dfs) : ∀ (n d y : Nat) (S : cS) (r : Option cV × cH), cEx ms n d y S = some r → cGl Fz l0 cl Ts nst ms yt d y S r.1 r.2 := by
  intro n
  induction n with
  | zero => intro d y S r h; cases h
  | succ n ih =>
    intro d y S r h
    have h : cBody ms (cEx ms n) d y S = some r := h
    unfold cBody at h
    split at h
    · cases h
    · rename_i M hM
      obtain ⟨Y, hY, hok⟩ := eAll_get hT hM
      split at h
      · cases h
      · rename_i en hen
        obtain ⟨hpc, hmem⟩ := eAt_ok hen
        obtain ⟨hd, hd0, hlk, hli⟩ := hok.1 en hmem
        rw [hpc] at hd hd0 hlk
        split at h
        · rename_i v hv
          cases h
          intro M' Y' hM' hY' p e R s m args below meth c hcx D A H0 ad hA hFs Q K
          have e0 := Option.some.inj (hM.symm.trans hM')
          subst e0
          exact K S ⟨en, hen, hv⟩ rfl
        · rename_i hv
          cases hc : cIsC en.2.1 with
          | true =>
            rw [hc] at h
            simp only [cond_true] at h
            refine cInv_ok hF hT hgood ih hM h (fun Y' hY' => ?_)
            have e1 := Option.some.inj (hY.symm.trans hY')
            subst e1
            unfold cIsC at hc
            split at hc
            · rename_i idx hi
              rw [hi] at hd hli
              have hd := hd (by simp [eLen])
              obtain ⟨ha, N, Z, w1, w2, w3, w4, w5, T, NN, w6⟩ := hli
              refine ⟨fun q => by omega, fun _ => ⟨N, Z, w1, w2, Or.inl ⟨ha, idx, T, NN, hd, w3, w4, w5, w6⟩⟩⟩
            · rename_i idx hi
              rw [hi] at hd hli
              have hd := hd (by simp [eLen])
              rcases hli with ⟨ha, hb⟩ | ⟨ha, N, Z, w1, w2, w3, w4⟩
              · exact ⟨fun _ => ⟨idx, hb, fun q => by omega, fun _ => hd⟩, fun q => by omega⟩
              · refine ⟨fun q => by omega, fun _ => ⟨N, Z, w1, w2, ?_⟩⟩
                rcases w4 with ⟨w4, w5⟩ | ⟨w4, host, w5⟩
                · exact Or.inr (Or.inl ⟨w4, idx, hd, w5, w3⟩)
                · exact Or.inr (Or.inr (Or.inl ⟨w4, idx, host, hd, w5, w3⟩))
            · rename_i idx hi
              rw [hi] at hd hli
              have hd := hd (by simp [eLen])
              rcases hli with ⟨ha, hb⟩ | ⟨ha, N, Z, w1, w2, w3, w4, w5, w6⟩
              · exact ⟨fun _ => ⟨idx, hb, fun _ => hd, fun q => absurd ha q⟩, fun q => by omega⟩
              · refine ⟨fun q => by omega, fun _ => ⟨N, Z, w1, w2, ?_⟩⟩
                rcases w6 with ⟨w6, w7⟩ | ⟨w6, host, w7⟩
                · exact Or.inr (Or.inr (Or.inr (Or.inl ⟨w6, idx, hd, w7, w3, w4, w5⟩)))
                · exact Or.inr (Or.inr (Or.inr (Or.inr ⟨w6, idx, host, hd, w7, w3, w4, w5⟩)))
            · cases hc
          | false =>
            rw [hc] at h
            simp only [cond_false] at h
            split at h
            · rename_i S' hst
              intro M' Y' hM' hY' p e R s m args below meth c hcx D A H0 ad hA hFs Q K H locs ws tys ls lv stk hcn
              have e0 := Option.some.inj (hM.symm.trans hM')
              subst e0
              have e1 := Option.some.inj (hY.symm.trans hY')
              subst e1
              obtain ⟨hx, hb, hown, hts, hml, hin, hXt, hR1, hR2, hRc, hRs⟩ := id hcx
              refine cStep_ok hx hb hown hts hcl hin hd hd0 hlk hst ?_ H locs ws tys ls lv stk hcn
              exact ih _ _ _ _ h M Y hM hY p e R s m args below meth c hcx D A H0 ad hA hFs Q K
            · cases h
theorem cRun_con (hF : eFzOk Fz) (hT : eAll (eMok cl Ts nst ms yt) ms yt) (hgood : ∀ w ∈ Ts, (w.onTables && w.keeps) = true ∨ ∃ ty, w = .arrayClass ty) (hcl : eKl cl Ts dfs) {d b : Nat} {as : List cV} {h h' : cH} {v : Option cV} {N : eM} (hN : ms[b]? = some N) (hca : cCats as ≤ N.2.1) (hr : cRun ms d b (0, cArgs 0 as, [], h) v h') : cCon Fz l0 cl Ts nst ms yt d b as h v h' := by
  obtain ⟨n, hn⟩ := hr
  exact cCon_of hT hN hca (cEx_ok hF hT hgood hcl n d b _ _ hn)
end CMN
end
section
-- ===== PART A: goes FIRST, ahead of the names: the tables' words, and 'selects' of the private methods out of them =====
/-- a private method of a class that the tables say can be made, by its rows of tables_1 -/
def lw_okq (q : MethodName × Nat) : Prop := (q.1.cls ≠ "java/lang/invoke/MethodHandle" ∧ q.1.cls ≠ "java/lang/invoke/VarHandle") ∧ Cond.instantiable q.1.cls q.2 ∈ tables_1 ∧ Cond.privateMethod q.1 ∈ tables_1 ∧ Cond.instanceMethod q.1 ∈ tables_1
/-- lw_okq of a method, by its rows' places -/
def lw_pB (q : (MethodName × Nat) × Nat × Nat × Nat) : Bool := decide (q.1.1.cls ≠ "java/lang/invoke/MethodHandle") && decide (q.1.1.cls ≠ "java/lang/invoke/VarHandle") && decide (tables_1[q.2.1]? = some (Cond.instantiable q.1.1.cls q.1.2)) && decide (tables_1[q.2.2.1]? = some (Cond.privateMethod q.1.1)) && decide (tables_1[q.2.2.2]? = some (Cond.instanceMethod q.1.1))
theorem lw_pB_ok {q : (MethodName × Nat) × Nat × Nat × Nat} (h : lw_pB q = true) : lw_okq q.1 := by
  unfold lw_pB at h
  rw [Bool.and_eq_true, Bool.and_eq_true, Bool.and_eq_true, Bool.and_eq_true] at h
  exact ⟨⟨of_decide_eq_true h.1.1.1.1, of_decide_eq_true h.1.1.1.2⟩, List.mem_of_getElem? (of_decide_eq_true h.1.1.2), List.mem_of_getElem? (of_decide_eq_true h.1.2), List.mem_of_getElem? (of_decide_eq_true h.2)⟩
def lw_pL0 : List ((MethodName × Nat) × Nat × Nat × Nat) := [((⟨"FuseTreaty", "putBytes", "(I)V"⟩, 13), 23, 552, 553), ((⟨"FuseTreaty$Tokens", "pastBlanks", "(I)I"⟩, 6), 169, 571, 572), ((⟨"FuseTreaty$Tokens", "byteAt", "(I)I"⟩, 6), 169, 575, 576), ((⟨"FuseTreaty$Tokens", "scanOne", "(II)I"⟩, 6), 169, 579, 580), ((⟨"FuseTreaty$Tokens", "isLetterAt", "(I)Z"⟩, 6), 169, 583, 584), ((⟨"FuseTreaty$Tokens", "scanLetters", "(II)I"⟩, 6), 169, 587, 588), ((⟨"FuseTreaty$Tokens", "wordOrName", "(J)I"⟩, 6), 169, 591, 592), ((⟨"FuseTreaty$Tokens", "isDigitAt", "(I)Z"⟩, 6), 169, 595, 596), ((⟨"FuseTreaty$Tokens", "scanDigits", "(II)I"⟩, 6), 169, 599, 600), ((⟨"FuseTreaty$Grammar", "kind", "()I"⟩, 7), 249, 611, 612), ((⟨"FuseTreaty$Grammar", "checkTold", "(I)V"⟩, 7), 249, 615, 616), ((⟨"FuseTreaty$Grammar", "checkCounted", "(IIII)V"⟩, 7), 249, 619, 620), ((⟨"FuseTreaty$Grammar", "checkRow", "(II)V"⟩, 7), 249, 623, 624), ((⟨"FuseTreaty$Grammar", "step", "()Z"⟩, 7), 249, 627, 628), ((⟨"FuseTreaty$Grammar", "need", "(I)Z"⟩, 7), 249, 631, 632), ((⟨"FuseTreaty$Grammar", "fail", "(I)Z"⟩, 7), 249, 635, 636), ((⟨"FuseTreaty$Grammar", "checkLaw", "(I)Z"⟩, 7), 249, 639, 640), ((⟨"FuseTreaty$Grammar", "sum", "(I)Z"⟩, 7), 249, 644, 645), ((⟨"FuseTreaty$Grammar", "product", "(I)Z"⟩, 7), 249, 648, 649), ((⟨"FuseTreaty$Grammar", "unit", "(I)Z"⟩, 7), 249, 652, 653), ((⟨"FuseTreaty$Grammar", "endPiece", "(II)Z"⟩, 7), 249, 665, 666), ((⟨"FuseTreaty$Meaning", "takeTold", "(I)Z"⟩, 6), 277, 686, 687), ((⟨"FuseTreaty$Meaning", "takeFlat", "()Z"⟩, 6), 277, 690, 691), ((⟨"FuseTreaty$Meaning", "fail", "(I)Z"⟩, 6), 277, 694, 695), ((⟨"FuseTreaty$Meaning", "isNewName", "()Z"⟩, 6), 277, 698, 699), ((⟨"FuseTreaty$Meaning", "isWithin", "(II)Z"⟩, 6), 277, 707, 708), ((⟨"FuseTreaty$Meaning", "takeWire", "()Z"⟩, 6), 277, 711, 712), ((⟨"FuseTreaty$Meaning", "flatNamed", "()I"⟩, 6), 277, 715, 716), ((⟨"FuseTreaty$House", "endsOf", "(I)I"⟩, 16), 31, 723, 724), ((⟨"FuseTreaty$Meaning", "takeUse", "()Z"⟩, 6), 277, 727, 728), ((⟨"FuseTreaty$Meaning", "takeSurge", "()Z"⟩, 6), 277, 731, 732), ((⟨"FuseTreaty$Meaning", "takeCoins", "()Z"⟩, 6), 277, 735, 736), ((⟨"FuseTreaty$Meaning", "takeSeed", "()Z"⟩, 6), 277, 739, 740), ((⟨"FuseTreaty$Meaning", "skipEnd", "()V"⟩, 6), 277, 743, 744), ((⟨"FuseTreaty", "isFlat", "(I)Z"⟩, 13), 23, 790, 791), ((⟨"FuseTreaty$Ways", "reachBy", "(II)V"⟩, 6), 387, 806, 807), ((⟨"FuseTreaty$Current", "setVars", "(III)V"⟩, 4), 381, 823, 824), ((⟨"FuseTreaty$Laws", "pieceTells", "(II[I)I"⟩, 6), 37, 832, 833), ((⟨"FuseTreaty$Laws", "worked", "(III)I"⟩, 6), 37, 836, 837), ((⟨"FuseTreaty", "isWire", "(I)Z"⟩, 13), 23, 864, 865)]
theorem lw_pK0 : lw_pL0.all lw_pB = true := by decide +kernel
def lw_pL1 : List ((MethodName × Nat) × Nat × Nat × Nat) := [((⟨"FuseTreaty", "isUse", "(I)Z"⟩, 13), 23, 897, 898), ((⟨"FuseTreaty$Current", "takePay", "(LFuseTreaty$State;)V"⟩, 4), 381, 938, 939), ((⟨"FuseTreaty$Current", "countQuarrels", "(LFuseTreaty$State;)V"⟩, 4), 381, 944, 945), ((⟨"FuseTreaty$Foresight", "trialTillGone", "()I"⟩, 5), 433, 1010, 1011), ((⟨"FuseTreaty$Foresight", "isCalm", "(LFuseTreaty$State;II)Z"⟩, 5), 433, 1133, 1134), ((⟨"FuseTreaty$Told", "isSo", "(II)Z"⟩, 4), 457, 1160, 1161), ((⟨"FuseTreaty$Told", "leftAtWorst", "(III)I"⟩, 4), 457, 1174, 1175), ((⟨"FuseTreaty", "wholeRatings", "()I"⟩, 13), 23, 1203, 1204), ((⟨"FuseTreatyModel", "plain", "(I)V"⟩, 69), 1207, 1213, 1214), ((⟨"FuseTreatyModel", "begins", "()V"⟩, 69), 1207, 1224, 1225), ((⟨"FuseTreatyModel", "keepsRow", "()V"⟩, 69), 1207, 1228, 1229), ((⟨"FuseTreatyModel", "put", "(I)V"⟩, 69), 1207, 1443, 1444), ((⟨"FuseTreatyModel", "cutsUp", "()V"⟩, 69), 1207, 1455, 1456), ((⟨"FuseTreatyModel", "byteAt", "(I)I"⟩, 69), 1207, 1459, 1460), ((⟨"FuseTreatyModel", "token", "(IIIJ)V"⟩, 69), 1207, 1463, 1464), ((⟨"FuseTreatyModel", "sign", "(III)I"⟩, 69), 1207, 1473, 1474), ((⟨"FuseTreatyModel", "is", "(I)Z"⟩, 69), 1207, 1477, 1478), ((⟨"FuseTreatyModel", "tellOne", "()V"⟩, 69), 1207, 1481, 1482), ((⟨"FuseTreatyModel", "roomFor", "(II)V"⟩, 69), 1207, 1485, 1486), ((⟨"FuseTreatyModel", "fail", "(I)V"⟩, 69), 1207, 1489, 1490), ((⟨"FuseTreatyModel", "goesOn", "()V"⟩, 69), 1207, 1493, 1494), ((⟨"FuseTreatyModel", "named", "()I"⟩, 69), 1207, 1497, 1498), ((⟨"FuseTreatyModel", "must", "(I)V"⟩, 69), 1207, 1501, 1502), ((⟨"FuseTreatyModel", "wrong", "(II)V"⟩, 69), 1207, 1505, 1506), ((⟨"FuseTreatyModel", "bounded", "(II)I"⟩, 69), 1207, 1509, 1510), ((⟨"FuseTreatyModel", "endsName", "(II)V"⟩, 69), 1207, 1513, 1514), ((⟨"FuseTreatyModel", "tellWire", "()V"⟩, 69), 1207, 1517, 1518), ((⟨"FuseTreatyModel", "knownFlat", "()I"⟩, 69), 1207, 1521, 1522), ((⟨"FuseTreatyModel", "areWired", "(II)Z"⟩, 69), 1207, 1525, 1526), ((⟨"FuseTreatyModel", "tellUse", "()V"⟩, 69), 1207, 1529, 1530), ((⟨"FuseTreatyModel", "tellLaw", "(I)V"⟩, 69), 1207, 1533, 1534), ((⟨"FuseTreatyModel", "expression", "()V"⟩, 69), 1207, 1537, 1538), ((⟨"FuseTreatyModel", "unit", "()V"⟩, 69), 1207, 1541, 1542), ((⟨"FuseTreatyModel", "emit", "(II)V"⟩, 69), 1207, 1545, 1546), ((⟨"FuseTreatyModel", "comesOut", "(Z)V"⟩, 69), 1207, 1549, 1550), ((⟨"FuseTreatyModel", "term", "()V"⟩, 69), 1207, 1553, 1554), ((⟨"FuseTreatyModel", "isFlat", "(I)Z"⟩, 69), 1207, 1565, 1566), ((⟨"FuseTreatyModel", "copies", "()V"⟩, 69), 1207, 1572, 1573), ((⟨"FuseTreatyModel", "fillsWays", "()V"⟩, 69), 1207, 1576, 1577), ((⟨"FuseTreatyModel", "isWhole", "(I)Z"⟩, 69), 1207, 1580, 1581)]
theorem lw_pK1 : lw_pL1.all lw_pB = true := by decide +kernel
def lw_pL2 : List ((MethodName × Nat) × Nat × Nat × Nat) := [((⟨"FuseTreatyModel", "isWire", "(I)Z"⟩, 69), 1207, 1584, 1585), ((⟨"FuseTreatyModel", "wireFrom", "(I)I"⟩, 69), 1207, 1588, 1589), ((⟨"FuseTreatyModel", "otherEnd", "(II)I"⟩, 69), 1207, 1592, 1593), ((⟨"FuseTreatyModel", "isLit", "(I)Z"⟩, 69), 1207, 1596, 1597), ((⟨"FuseTreatyModel", "quarrelOf", "(I)I"⟩, 69), 1207, 1600, 1601), ((⟨"FuseTreatyModel", "looks", "(II)V"⟩, 69), 1207, 1604, 1605), ((⟨"FuseTreatyModel", "lawTells", "(II)I"⟩, 69), 1207, 1608, 1609), ((⟨"FuseTreatyModel", "termOf", "(II)I"⟩, 69), 1207, 1612, 1613), ((⟨"FuseTreatyModel", "ampsOn", "(I)I"⟩, 69), 1207, 1619, 1620), ((⟨"FuseTreatyModel", "onNow", "()I"⟩, 69), 1207, 1623, 1624), ((⟨"FuseTreatyModel", "onAt", "(I)I"⟩, 69), 1207, 1627, 1628), ((⟨"FuseTreatyModel", "flatAt", "(I)I"⟩, 69), 1207, 1631, 1632), ((⟨"FuseTreatyModel", "ampsAt", "(I)I"⟩, 69), 1207, 1635, 1636), ((⟨"FuseTreatyModel", "loadBy", "(II)I"⟩, 69), 1207, 1643, 1644), ((⟨"FuseTreatyModel", "costsOf", "(I)I"⟩, 69), 1207, 1647, 1648), ((⟨"FuseTreatyModel", "doesGo", "(IIII)Z"⟩, 69), 1207, 1651, 1652), ((⟨"FuseTreatyModel", "isUse", "(I)Z"⟩, 69), 1207, 1659, 1660), ((⟨"FuseTreatyModel", "paysOf", "(I)I"⟩, 69), 1207, 1663, 1664), ((⟨"FuseTreatyModel", "records", "()V"⟩, 69), 1207, 1671, 1672), ((⟨"FuseTreatyModel", "goes", "(I)V"⟩, 69), 1207, 1694, 1695), ((⟨"FuseTreatyModel", "hourGoes", "()V"⟩, 69), 1207, 1698, 1699), ((⟨"FuseTreatyModel", "isSurge", "()Z"⟩, 69), 1207, 1702, 1703), ((⟨"FuseTreatyModel", "goingBits", "(III)I"⟩, 69), 1207, 1710, 1711), ((⟨"FuseTreatyModel", "paysAll", "(I)I"⟩, 69), 1207, 1714, 1715), ((⟨"FuseTreatyModel", "quarrelsAll", "()I"⟩, 69), 1207, 1718, 1719), ((⟨"FuseTreatyModel", "copiesStill", "()V"⟩, 69), 1207, 1736, 1737), ((⟨"FuseTreatyModel", "firstGoing", "()I"⟩, 69), 1207, 1744, 1745), ((⟨"FuseTreatyModel", "usesLit", "()I"⟩, 69), 1207, 1755, 1756), ((⟨"FuseTreatyModel", "canBegin", "(II)Z"⟩, 69), 1207, 1763, 1764), ((⟨"FuseTreatyModel", "goneBits", "()I"⟩, 69), 1207, 1775, 1776), ((⟨"FuseTreatyModel", "loses", "(I)V"⟩, 69), 1207, 1788, 1789), ((⟨"FuseTreatyModel", "darkBits", "()I"⟩, 69), 1207, 1800, 1801), ((⟨"FuseTreatyModel", "litBits", "()I"⟩, 69), 1207, 1804, 1805), ((⟨"FuseTreatyModel", "wentBits", "(I)I"⟩, 69), 1207, 1844, 1845)]
theorem lw_pK2 : lw_pL2.all lw_pB = true := by decide +kernel
theorem lw_p0 : lw_okq (⟨"FuseTreaty", "putBytes", "(I)V"⟩, 13) := lw_pB_ok (q := ((⟨"FuseTreaty", "putBytes", "(I)V"⟩, 13), 23, 552, 553)) (List.all_eq_true.mp lw_pK0 _ (List.mem_of_getElem? (i := 0) rfl))
theorem lw_p1 : lw_okq (⟨"FuseTreaty$Tokens", "pastBlanks", "(I)I"⟩, 6) := lw_pB_ok (q := ((⟨"FuseTreaty$Tokens", "pastBlanks", "(I)I"⟩, 6), 169, 571, 572)) (List.all_eq_true.mp lw_pK0 _ (List.mem_of_getElem? (i := 1) rfl))
theorem lw_p2 : lw_okq (⟨"FuseTreaty$Tokens", "byteAt", "(I)I"⟩, 6) := lw_pB_ok (q := ((⟨"FuseTreaty$Tokens", "byteAt", "(I)I"⟩, 6), 169, 575, 576)) (List.all_eq_true.mp lw_pK0 _ (List.mem_of_getElem? (i := 2) rfl))
theorem lw_p3 : lw_okq (⟨"FuseTreaty$Tokens", "scanOne", "(II)I"⟩, 6) := lw_pB_ok (q := ((⟨"FuseTreaty$Tokens", "scanOne", "(II)I"⟩, 6), 169, 579, 580)) (List.all_eq_true.mp lw_pK0 _ (List.mem_of_getElem? (i := 3) rfl))
theorem lw_p4 : lw_okq (⟨"FuseTreaty$Tokens", "isLetterAt", "(I)Z"⟩, 6) := lw_pB_ok (q := ((⟨"FuseTreaty$Tokens", "isLetterAt", "(I)Z"⟩, 6), 169, 583, 584)) (List.all_eq_true.mp lw_pK0 _ (List.mem_of_getElem? (i := 4) rfl))
theorem lw_p5 : lw_okq (⟨"FuseTreaty$Tokens", "scanLetters", "(II)I"⟩, 6) := lw_pB_ok (q := ((⟨"FuseTreaty$Tokens", "scanLetters", "(II)I"⟩, 6), 169, 587, 588)) (List.all_eq_true.mp lw_pK0 _ (List.mem_of_getElem? (i := 5) rfl))
theorem lw_p6 : lw_okq (⟨"FuseTreaty$Tokens", "wordOrName", "(J)I"⟩, 6) := lw_pB_ok (q := ((⟨"FuseTreaty$Tokens", "wordOrName", "(J)I"⟩, 6), 169, 591, 592)) (List.all_eq_true.mp lw_pK0 _ (List.mem_of_getElem? (i := 6) rfl))
theorem lw_p7 : lw_okq (⟨"FuseTreaty$Tokens", "isDigitAt", "(I)Z"⟩, 6) := lw_pB_ok (q := ((⟨"FuseTreaty$Tokens", "isDigitAt", "(I)Z"⟩, 6), 169, 595, 596)) (List.all_eq_true.mp lw_pK0 _ (List.mem_of_getElem? (i := 7) rfl))
theorem lw_p8 : lw_okq (⟨"FuseTreaty$Tokens", "scanDigits", "(II)I"⟩, 6) := lw_pB_ok (q := ((⟨"FuseTreaty$Tokens", "scanDigits", "(II)I"⟩, 6), 169, 599, 600)) (List.all_eq_true.mp lw_pK0 _ (List.mem_of_getElem? (i := 8) rfl))
theorem lw_p9 : lw_okq (⟨"FuseTreaty$Grammar", "kind", "()I"⟩, 7) := lw_pB_ok (q := ((⟨"FuseTreaty$Grammar", "kind", "()I"⟩, 7), 249, 611, 612)) (List.all_eq_true.mp lw_pK0 _ (List.mem_of_getElem? (i := 9) rfl))
theorem lw_p10 : lw_okq (⟨"FuseTreaty$Grammar", "checkTold", "(I)V"⟩, 7) := lw_pB_ok (q := ((⟨"FuseTreaty$Grammar", "checkTold", "(I)V"⟩, 7), 249, 615, 616)) (List.all_eq_true.mp lw_pK0 _ (List.mem_of_getElem? (i := 10) rfl))
theorem lw_p11 : lw_okq (⟨"FuseTreaty$Grammar", "checkCounted", "(IIII)V"⟩, 7) := lw_pB_ok (q := ((⟨"FuseTreaty$Grammar", "checkCounted", "(IIII)V"⟩, 7), 249, 619, 620)) (List.all_eq_true.mp lw_pK0 _ (List.mem_of_getElem? (i := 11) rfl))
theorem lw_p12 : lw_okq (⟨"FuseTreaty$Grammar", "checkRow", "(II)V"⟩, 7) := lw_pB_ok (q := ((⟨"FuseTreaty$Grammar", "checkRow", "(II)V"⟩, 7), 249, 623, 624)) (List.all_eq_true.mp lw_pK0 _ (List.mem_of_getElem? (i := 12) rfl))
theorem lw_p13 : lw_okq (⟨"FuseTreaty$Grammar", "step", "()Z"⟩, 7) := lw_pB_ok (q := ((⟨"FuseTreaty$Grammar", "step", "()Z"⟩, 7), 249, 627, 628)) (List.all_eq_true.mp lw_pK0 _ (List.mem_of_getElem? (i := 13) rfl))
theorem lw_p14 : lw_okq (⟨"FuseTreaty$Grammar", "need", "(I)Z"⟩, 7) := lw_pB_ok (q := ((⟨"FuseTreaty$Grammar", "need", "(I)Z"⟩, 7), 249, 631, 632)) (List.all_eq_true.mp lw_pK0 _ (List.mem_of_getElem? (i := 14) rfl))
theorem lw_p15 : lw_okq (⟨"FuseTreaty$Grammar", "fail", "(I)Z"⟩, 7) := lw_pB_ok (q := ((⟨"FuseTreaty$Grammar", "fail", "(I)Z"⟩, 7), 249, 635, 636)) (List.all_eq_true.mp lw_pK0 _ (List.mem_of_getElem? (i := 15) rfl))
def lw_privs_1 : List (MethodName × Nat) := [(⟨"FuseTreaty", "putBytes", "(I)V"⟩, 13), (⟨"FuseTreaty$Tokens", "pastBlanks", "(I)I"⟩, 6), (⟨"FuseTreaty$Tokens", "byteAt", "(I)I"⟩, 6), (⟨"FuseTreaty$Tokens", "scanOne", "(II)I"⟩, 6), (⟨"FuseTreaty$Tokens", "isLetterAt", "(I)Z"⟩, 6), (⟨"FuseTreaty$Tokens", "scanLetters", "(II)I"⟩, 6), (⟨"FuseTreaty$Tokens", "wordOrName", "(J)I"⟩, 6), (⟨"FuseTreaty$Tokens", "isDigitAt", "(I)Z"⟩, 6), (⟨"FuseTreaty$Tokens", "scanDigits", "(II)I"⟩, 6), (⟨"FuseTreaty$Grammar", "kind", "()I"⟩, 7), (⟨"FuseTreaty$Grammar", "checkTold", "(I)V"⟩, 7), (⟨"FuseTreaty$Grammar", "checkCounted", "(IIII)V"⟩, 7), (⟨"FuseTreaty$Grammar", "checkRow", "(II)V"⟩, 7), (⟨"FuseTreaty$Grammar", "step", "()Z"⟩, 7), (⟨"FuseTreaty$Grammar", "need", "(I)Z"⟩, 7), (⟨"FuseTreaty$Grammar", "fail", "(I)Z"⟩, 7)]
theorem lw_r1 : ∀ q ∈ lw_privs_1, lw_okq q := List.forall_mem_cons.mpr ⟨lw_p0, List.forall_mem_cons.mpr ⟨lw_p1, List.forall_mem_cons.mpr ⟨lw_p2, List.forall_mem_cons.mpr ⟨lw_p3, List.forall_mem_cons.mpr ⟨lw_p4, List.forall_mem_cons.mpr ⟨lw_p5, List.forall_mem_cons.mpr ⟨lw_p6, List.forall_mem_cons.mpr ⟨lw_p7, List.forall_mem_cons.mpr ⟨lw_p8, List.forall_mem_cons.mpr ⟨lw_p9, List.forall_mem_cons.mpr ⟨lw_p10, List.forall_mem_cons.mpr ⟨lw_p11, List.forall_mem_cons.mpr ⟨lw_p12, List.forall_mem_cons.mpr ⟨lw_p13, List.forall_mem_cons.mpr ⟨lw_p14, List.forall_mem_cons.mpr ⟨lw_p15, fun _ h => absurd h List.not_mem_nil⟩⟩⟩⟩⟩⟩⟩⟩⟩⟩⟩⟩⟩⟩⟩⟩
theorem lw_p16 : lw_okq (⟨"FuseTreaty$Grammar", "checkLaw", "(I)Z"⟩, 7) := lw_pB_ok (q := ((⟨"FuseTreaty$Grammar", "checkLaw", "(I)Z"⟩, 7), 249, 639, 640)) (List.all_eq_true.mp lw_pK0 _ (List.mem_of_getElem? (i := 16) rfl))
theorem lw_p17 : lw_okq (⟨"FuseTreaty$Grammar", "sum", "(I)Z"⟩, 7) := lw_pB_ok (q := ((⟨"FuseTreaty$Grammar", "sum", "(I)Z"⟩, 7), 249, 644, 645)) (List.all_eq_true.mp lw_pK0 _ (List.mem_of_getElem? (i := 17) rfl))
theorem lw_p18 : lw_okq (⟨"FuseTreaty$Grammar", "product", "(I)Z"⟩, 7) := lw_pB_ok (q := ((⟨"FuseTreaty$Grammar", "product", "(I)Z"⟩, 7), 249, 648, 649)) (List.all_eq_true.mp lw_pK0 _ (List.mem_of_getElem? (i := 18) rfl))
theorem lw_p19 : lw_okq (⟨"FuseTreaty$Grammar", "unit", "(I)Z"⟩, 7) := lw_pB_ok (q := ((⟨"FuseTreaty$Grammar", "unit", "(I)Z"⟩, 7), 249, 652, 653)) (List.all_eq_true.mp lw_pK0 _ (List.mem_of_getElem? (i := 19) rfl))
theorem lw_p20 : lw_okq (⟨"FuseTreaty$Grammar", "endPiece", "(II)Z"⟩, 7) := lw_pB_ok (q := ((⟨"FuseTreaty$Grammar", "endPiece", "(II)Z"⟩, 7), 249, 665, 666)) (List.all_eq_true.mp lw_pK0 _ (List.mem_of_getElem? (i := 20) rfl))
theorem lw_p21 : lw_okq (⟨"FuseTreaty$Meaning", "takeTold", "(I)Z"⟩, 6) := lw_pB_ok (q := ((⟨"FuseTreaty$Meaning", "takeTold", "(I)Z"⟩, 6), 277, 686, 687)) (List.all_eq_true.mp lw_pK0 _ (List.mem_of_getElem? (i := 21) rfl))
theorem lw_p22 : lw_okq (⟨"FuseTreaty$Meaning", "takeFlat", "()Z"⟩, 6) := lw_pB_ok (q := ((⟨"FuseTreaty$Meaning", "takeFlat", "()Z"⟩, 6), 277, 690, 691)) (List.all_eq_true.mp lw_pK0 _ (List.mem_of_getElem? (i := 22) rfl))
theorem lw_p23 : lw_okq (⟨"FuseTreaty$Meaning", "fail", "(I)Z"⟩, 6) := lw_pB_ok (q := ((⟨"FuseTreaty$Meaning", "fail", "(I)Z"⟩, 6), 277, 694, 695)) (List.all_eq_true.mp lw_pK0 _ (List.mem_of_getElem? (i := 23) rfl))
theorem lw_p24 : lw_okq (⟨"FuseTreaty$Meaning", "isNewName", "()Z"⟩, 6) := lw_pB_ok (q := ((⟨"FuseTreaty$Meaning", "isNewName", "()Z"⟩, 6), 277, 698, 699)) (List.all_eq_true.mp lw_pK0 _ (List.mem_of_getElem? (i := 24) rfl))
theorem lw_p25 : lw_okq (⟨"FuseTreaty$Meaning", "isWithin", "(II)Z"⟩, 6) := lw_pB_ok (q := ((⟨"FuseTreaty$Meaning", "isWithin", "(II)Z"⟩, 6), 277, 707, 708)) (List.all_eq_true.mp lw_pK0 _ (List.mem_of_getElem? (i := 25) rfl))
theorem lw_p26 : lw_okq (⟨"FuseTreaty$Meaning", "takeWire", "()Z"⟩, 6) := lw_pB_ok (q := ((⟨"FuseTreaty$Meaning", "takeWire", "()Z"⟩, 6), 277, 711, 712)) (List.all_eq_true.mp lw_pK0 _ (List.mem_of_getElem? (i := 26) rfl))
theorem lw_p27 : lw_okq (⟨"FuseTreaty$Meaning", "flatNamed", "()I"⟩, 6) := lw_pB_ok (q := ((⟨"FuseTreaty$Meaning", "flatNamed", "()I"⟩, 6), 277, 715, 716)) (List.all_eq_true.mp lw_pK0 _ (List.mem_of_getElem? (i := 27) rfl))
theorem lw_p28 : lw_okq (⟨"FuseTreaty$House", "endsOf", "(I)I"⟩, 16) := lw_pB_ok (q := ((⟨"FuseTreaty$House", "endsOf", "(I)I"⟩, 16), 31, 723, 724)) (List.all_eq_true.mp lw_pK0 _ (List.mem_of_getElem? (i := 28) rfl))
theorem lw_p29 : lw_okq (⟨"FuseTreaty$Meaning", "takeUse", "()Z"⟩, 6) := lw_pB_ok (q := ((⟨"FuseTreaty$Meaning", "takeUse", "()Z"⟩, 6), 277, 727, 728)) (List.all_eq_true.mp lw_pK0 _ (List.mem_of_getElem? (i := 29) rfl))
theorem lw_p30 : lw_okq (⟨"FuseTreaty$Meaning", "takeSurge", "()Z"⟩, 6) := lw_pB_ok (q := ((⟨"FuseTreaty$Meaning", "takeSurge", "()Z"⟩, 6), 277, 731, 732)) (List.all_eq_true.mp lw_pK0 _ (List.mem_of_getElem? (i := 30) rfl))
theorem lw_p31 : lw_okq (⟨"FuseTreaty$Meaning", "takeCoins", "()Z"⟩, 6) := lw_pB_ok (q := ((⟨"FuseTreaty$Meaning", "takeCoins", "()Z"⟩, 6), 277, 735, 736)) (List.all_eq_true.mp lw_pK0 _ (List.mem_of_getElem? (i := 31) rfl))
def lw_privs_2 : List (MethodName × Nat) := [(⟨"FuseTreaty$Grammar", "checkLaw", "(I)Z"⟩, 7), (⟨"FuseTreaty$Grammar", "sum", "(I)Z"⟩, 7), (⟨"FuseTreaty$Grammar", "product", "(I)Z"⟩, 7), (⟨"FuseTreaty$Grammar", "unit", "(I)Z"⟩, 7), (⟨"FuseTreaty$Grammar", "endPiece", "(II)Z"⟩, 7), (⟨"FuseTreaty$Meaning", "takeTold", "(I)Z"⟩, 6), (⟨"FuseTreaty$Meaning", "takeFlat", "()Z"⟩, 6), (⟨"FuseTreaty$Meaning", "fail", "(I)Z"⟩, 6), (⟨"FuseTreaty$Meaning", "isNewName", "()Z"⟩, 6), (⟨"FuseTreaty$Meaning", "isWithin", "(II)Z"⟩, 6), (⟨"FuseTreaty$Meaning", "takeWire", "()Z"⟩, 6), (⟨"FuseTreaty$Meaning", "flatNamed", "()I"⟩, 6), (⟨"FuseTreaty$House", "endsOf", "(I)I"⟩, 16), (⟨"FuseTreaty$Meaning", "takeUse", "()Z"⟩, 6), (⟨"FuseTreaty$Meaning", "takeSurge", "()Z"⟩, 6), (⟨"FuseTreaty$Meaning", "takeCoins", "()Z"⟩, 6)]
theorem lw_r2 : ∀ q ∈ lw_privs_2, lw_okq q := List.forall_mem_cons.mpr ⟨lw_p16, List.forall_mem_cons.mpr ⟨lw_p17, List.forall_mem_cons.mpr ⟨lw_p18, List.forall_mem_cons.mpr ⟨lw_p19, List.forall_mem_cons.mpr ⟨lw_p20, List.forall_mem_cons.mpr ⟨lw_p21, List.forall_mem_cons.mpr ⟨lw_p22, List.forall_mem_cons.mpr ⟨lw_p23, List.forall_mem_cons.mpr ⟨lw_p24, List.forall_mem_cons.mpr ⟨lw_p25, List.forall_mem_cons.mpr ⟨lw_p26, List.forall_mem_cons.mpr ⟨lw_p27, List.forall_mem_cons.mpr ⟨lw_p28, List.forall_mem_cons.mpr ⟨lw_p29, List.forall_mem_cons.mpr ⟨lw_p30, List.forall_mem_cons.mpr ⟨lw_p31, fun _ h => absurd h List.not_mem_nil⟩⟩⟩⟩⟩⟩⟩⟩⟩⟩⟩⟩⟩⟩⟩⟩
theorem lw_p32 : lw_okq (⟨"FuseTreaty$Meaning", "takeSeed", "()Z"⟩, 6) := lw_pB_ok (q := ((⟨"FuseTreaty$Meaning", "takeSeed", "()Z"⟩, 6), 277, 739, 740)) (List.all_eq_true.mp lw_pK0 _ (List.mem_of_getElem? (i := 32) rfl))
theorem lw_p33 : lw_okq (⟨"FuseTreaty$Meaning", "skipEnd", "()V"⟩, 6) := lw_pB_ok (q := ((⟨"FuseTreaty$Meaning", "skipEnd", "()V"⟩, 6), 277, 743, 744)) (List.all_eq_true.mp lw_pK0 _ (List.mem_of_getElem? (i := 33) rfl))
theorem lw_p34 : lw_okq (⟨"FuseTreaty", "isFlat", "(I)Z"⟩, 13) := lw_pB_ok (q := ((⟨"FuseTreaty", "isFlat", "(I)Z"⟩, 13), 23, 790, 791)) (List.all_eq_true.mp lw_pK0 _ (List.mem_of_getElem? (i := 34) rfl))
theorem lw_p35 : lw_okq (⟨"FuseTreaty$Ways", "reachBy", "(II)V"⟩, 6) := lw_pB_ok (q := ((⟨"FuseTreaty$Ways", "reachBy", "(II)V"⟩, 6), 387, 806, 807)) (List.all_eq_true.mp lw_pK0 _ (List.mem_of_getElem? (i := 35) rfl))
theorem lw_p36 : lw_okq (⟨"FuseTreaty$Current", "setVars", "(III)V"⟩, 4) := lw_pB_ok (q := ((⟨"FuseTreaty$Current", "setVars", "(III)V"⟩, 4), 381, 823, 824)) (List.all_eq_true.mp lw_pK0 _ (List.mem_of_getElem? (i := 36) rfl))
theorem lw_p37 : lw_okq (⟨"FuseTreaty$Laws", "pieceTells", "(II[I)I"⟩, 6) := lw_pB_ok (q := ((⟨"FuseTreaty$Laws", "pieceTells", "(II[I)I"⟩, 6), 37, 832, 833)) (List.all_eq_true.mp lw_pK0 _ (List.mem_of_getElem? (i := 37) rfl))
theorem lw_p38 : lw_okq (⟨"FuseTreaty$Laws", "worked", "(III)I"⟩, 6) := lw_pB_ok (q := ((⟨"FuseTreaty$Laws", "worked", "(III)I"⟩, 6), 37, 836, 837)) (List.all_eq_true.mp lw_pK0 _ (List.mem_of_getElem? (i := 38) rfl))
theorem lw_p39 : lw_okq (⟨"FuseTreaty", "isWire", "(I)Z"⟩, 13) := lw_pB_ok (q := ((⟨"FuseTreaty", "isWire", "(I)Z"⟩, 13), 23, 864, 865)) (List.all_eq_true.mp lw_pK0 _ (List.mem_of_getElem? (i := 39) rfl))
theorem lw_p40 : lw_okq (⟨"FuseTreaty", "isUse", "(I)Z"⟩, 13) := lw_pB_ok (q := ((⟨"FuseTreaty", "isUse", "(I)Z"⟩, 13), 23, 897, 898)) (List.all_eq_true.mp lw_pK1 _ (List.mem_of_getElem? (i := 0) rfl))
theorem lw_p41 : lw_okq (⟨"FuseTreaty$Current", "takePay", "(LFuseTreaty$State;)V"⟩, 4) := lw_pB_ok (q := ((⟨"FuseTreaty$Current", "takePay", "(LFuseTreaty$State;)V"⟩, 4), 381, 938, 939)) (List.all_eq_true.mp lw_pK1 _ (List.mem_of_getElem? (i := 1) rfl))
theorem lw_p42 : lw_okq (⟨"FuseTreaty$Current", "countQuarrels", "(LFuseTreaty$State;)V"⟩, 4) := lw_pB_ok (q := ((⟨"FuseTreaty$Current", "countQuarrels", "(LFuseTreaty$State;)V"⟩, 4), 381, 944, 945)) (List.all_eq_true.mp lw_pK1 _ (List.mem_of_getElem? (i := 2) rfl))
theorem lw_p43 : lw_okq (⟨"FuseTreaty$Foresight", "trialTillGone", "()I"⟩, 5) := lw_pB_ok (q := ((⟨"FuseTreaty$Foresight", "trialTillGone", "()I"⟩, 5), 433, 1010, 1011)) (List.all_eq_true.mp lw_pK1 _ (List.mem_of_getElem? (i := 3) rfl))
theorem lw_p44 : lw_okq (⟨"FuseTreaty$Foresight", "isCalm", "(LFuseTreaty$State;II)Z"⟩, 5) := lw_pB_ok (q := ((⟨"FuseTreaty$Foresight", "isCalm", "(LFuseTreaty$State;II)Z"⟩, 5), 433, 1133, 1134)) (List.all_eq_true.mp lw_pK1 _ (List.mem_of_getElem? (i := 4) rfl))
theorem lw_p45 : lw_okq (⟨"FuseTreaty$Told", "isSo", "(II)Z"⟩, 4) := lw_pB_ok (q := ((⟨"FuseTreaty$Told", "isSo", "(II)Z"⟩, 4), 457, 1160, 1161)) (List.all_eq_true.mp lw_pK1 _ (List.mem_of_getElem? (i := 5) rfl))
theorem lw_p46 : lw_okq (⟨"FuseTreaty$Told", "leftAtWorst", "(III)I"⟩, 4) := lw_pB_ok (q := ((⟨"FuseTreaty$Told", "leftAtWorst", "(III)I"⟩, 4), 457, 1174, 1175)) (List.all_eq_true.mp lw_pK1 _ (List.mem_of_getElem? (i := 6) rfl))
theorem lw_p47 : lw_okq (⟨"FuseTreaty", "wholeRatings", "()I"⟩, 13) := lw_pB_ok (q := ((⟨"FuseTreaty", "wholeRatings", "()I"⟩, 13), 23, 1203, 1204)) (List.all_eq_true.mp lw_pK1 _ (List.mem_of_getElem? (i := 7) rfl))
def lw_privs_3 : List (MethodName × Nat) := [(⟨"FuseTreaty$Meaning", "takeSeed", "()Z"⟩, 6), (⟨"FuseTreaty$Meaning", "skipEnd", "()V"⟩, 6), (⟨"FuseTreaty", "isFlat", "(I)Z"⟩, 13), (⟨"FuseTreaty$Ways", "reachBy", "(II)V"⟩, 6), (⟨"FuseTreaty$Current", "setVars", "(III)V"⟩, 4), (⟨"FuseTreaty$Laws", "pieceTells", "(II[I)I"⟩, 6), (⟨"FuseTreaty$Laws", "worked", "(III)I"⟩, 6), (⟨"FuseTreaty", "isWire", "(I)Z"⟩, 13), (⟨"FuseTreaty", "isUse", "(I)Z"⟩, 13), (⟨"FuseTreaty$Current", "takePay", "(LFuseTreaty$State;)V"⟩, 4), (⟨"FuseTreaty$Current", "countQuarrels", "(LFuseTreaty$State;)V"⟩, 4), (⟨"FuseTreaty$Foresight", "trialTillGone", "()I"⟩, 5), (⟨"FuseTreaty$Foresight", "isCalm", "(LFuseTreaty$State;II)Z"⟩, 5), (⟨"FuseTreaty$Told", "isSo", "(II)Z"⟩, 4), (⟨"FuseTreaty$Told", "leftAtWorst", "(III)I"⟩, 4), (⟨"FuseTreaty", "wholeRatings", "()I"⟩, 13)]
theorem lw_r3 : ∀ q ∈ lw_privs_3, lw_okq q := List.forall_mem_cons.mpr ⟨lw_p32, List.forall_mem_cons.mpr ⟨lw_p33, List.forall_mem_cons.mpr ⟨lw_p34, List.forall_mem_cons.mpr ⟨lw_p35, List.forall_mem_cons.mpr ⟨lw_p36, List.forall_mem_cons.mpr ⟨lw_p37, List.forall_mem_cons.mpr ⟨lw_p38, List.forall_mem_cons.mpr ⟨lw_p39, List.forall_mem_cons.mpr ⟨lw_p40, List.forall_mem_cons.mpr ⟨lw_p41, List.forall_mem_cons.mpr ⟨lw_p42, List.forall_mem_cons.mpr ⟨lw_p43, List.forall_mem_cons.mpr ⟨lw_p44, List.forall_mem_cons.mpr ⟨lw_p45, List.forall_mem_cons.mpr ⟨lw_p46, List.forall_mem_cons.mpr ⟨lw_p47, fun _ h => absurd h List.not_mem_nil⟩⟩⟩⟩⟩⟩⟩⟩⟩⟩⟩⟩⟩⟩⟩⟩
theorem lw_p48 : lw_okq (⟨"FuseTreatyModel", "plain", "(I)V"⟩, 69) := lw_pB_ok (q := ((⟨"FuseTreatyModel", "plain", "(I)V"⟩, 69), 1207, 1213, 1214)) (List.all_eq_true.mp lw_pK1 _ (List.mem_of_getElem? (i := 8) rfl))
theorem lw_p49 : lw_okq (⟨"FuseTreatyModel", "begins", "()V"⟩, 69) := lw_pB_ok (q := ((⟨"FuseTreatyModel", "begins", "()V"⟩, 69), 1207, 1224, 1225)) (List.all_eq_true.mp lw_pK1 _ (List.mem_of_getElem? (i := 9) rfl))
theorem lw_p50 : lw_okq (⟨"FuseTreatyModel", "keepsRow", "()V"⟩, 69) := lw_pB_ok (q := ((⟨"FuseTreatyModel", "keepsRow", "()V"⟩, 69), 1207, 1228, 1229)) (List.all_eq_true.mp lw_pK1 _ (List.mem_of_getElem? (i := 10) rfl))
theorem lw_p51 : lw_okq (⟨"FuseTreatyModel", "put", "(I)V"⟩, 69) := lw_pB_ok (q := ((⟨"FuseTreatyModel", "put", "(I)V"⟩, 69), 1207, 1443, 1444)) (List.all_eq_true.mp lw_pK1 _ (List.mem_of_getElem? (i := 11) rfl))
theorem lw_p52 : lw_okq (⟨"FuseTreatyModel", "cutsUp", "()V"⟩, 69) := lw_pB_ok (q := ((⟨"FuseTreatyModel", "cutsUp", "()V"⟩, 69), 1207, 1455, 1456)) (List.all_eq_true.mp lw_pK1 _ (List.mem_of_getElem? (i := 12) rfl))
theorem lw_p53 : lw_okq (⟨"FuseTreatyModel", "byteAt", "(I)I"⟩, 69) := lw_pB_ok (q := ((⟨"FuseTreatyModel", "byteAt", "(I)I"⟩, 69), 1207, 1459, 1460)) (List.all_eq_true.mp lw_pK1 _ (List.mem_of_getElem? (i := 13) rfl))
theorem lw_p54 : lw_okq (⟨"FuseTreatyModel", "token", "(IIIJ)V"⟩, 69) := lw_pB_ok (q := ((⟨"FuseTreatyModel", "token", "(IIIJ)V"⟩, 69), 1207, 1463, 1464)) (List.all_eq_true.mp lw_pK1 _ (List.mem_of_getElem? (i := 14) rfl))
theorem lw_p55 : lw_okq (⟨"FuseTreatyModel", "sign", "(III)I"⟩, 69) := lw_pB_ok (q := ((⟨"FuseTreatyModel", "sign", "(III)I"⟩, 69), 1207, 1473, 1474)) (List.all_eq_true.mp lw_pK1 _ (List.mem_of_getElem? (i := 15) rfl))
theorem lw_p56 : lw_okq (⟨"FuseTreatyModel", "is", "(I)Z"⟩, 69) := lw_pB_ok (q := ((⟨"FuseTreatyModel", "is", "(I)Z"⟩, 69), 1207, 1477, 1478)) (List.all_eq_true.mp lw_pK1 _ (List.mem_of_getElem? (i := 16) rfl))
theorem lw_p57 : lw_okq (⟨"FuseTreatyModel", "tellOne", "()V"⟩, 69) := lw_pB_ok (q := ((⟨"FuseTreatyModel", "tellOne", "()V"⟩, 69), 1207, 1481, 1482)) (List.all_eq_true.mp lw_pK1 _ (List.mem_of_getElem? (i := 17) rfl))
theorem lw_p58 : lw_okq (⟨"FuseTreatyModel", "roomFor", "(II)V"⟩, 69) := lw_pB_ok (q := ((⟨"FuseTreatyModel", "roomFor", "(II)V"⟩, 69), 1207, 1485, 1486)) (List.all_eq_true.mp lw_pK1 _ (List.mem_of_getElem? (i := 18) rfl))
theorem lw_p59 : lw_okq (⟨"FuseTreatyModel", "fail", "(I)V"⟩, 69) := lw_pB_ok (q := ((⟨"FuseTreatyModel", "fail", "(I)V"⟩, 69), 1207, 1489, 1490)) (List.all_eq_true.mp lw_pK1 _ (List.mem_of_getElem? (i := 19) rfl))
theorem lw_p60 : lw_okq (⟨"FuseTreatyModel", "goesOn", "()V"⟩, 69) := lw_pB_ok (q := ((⟨"FuseTreatyModel", "goesOn", "()V"⟩, 69), 1207, 1493, 1494)) (List.all_eq_true.mp lw_pK1 _ (List.mem_of_getElem? (i := 20) rfl))
theorem lw_p61 : lw_okq (⟨"FuseTreatyModel", "named", "()I"⟩, 69) := lw_pB_ok (q := ((⟨"FuseTreatyModel", "named", "()I"⟩, 69), 1207, 1497, 1498)) (List.all_eq_true.mp lw_pK1 _ (List.mem_of_getElem? (i := 21) rfl))
theorem lw_p62 : lw_okq (⟨"FuseTreatyModel", "must", "(I)V"⟩, 69) := lw_pB_ok (q := ((⟨"FuseTreatyModel", "must", "(I)V"⟩, 69), 1207, 1501, 1502)) (List.all_eq_true.mp lw_pK1 _ (List.mem_of_getElem? (i := 22) rfl))
theorem lw_p63 : lw_okq (⟨"FuseTreatyModel", "wrong", "(II)V"⟩, 69) := lw_pB_ok (q := ((⟨"FuseTreatyModel", "wrong", "(II)V"⟩, 69), 1207, 1505, 1506)) (List.all_eq_true.mp lw_pK1 _ (List.mem_of_getElem? (i := 23) rfl))
def lw_privs_4 : List (MethodName × Nat) := [(⟨"FuseTreatyModel", "plain", "(I)V"⟩, 69), (⟨"FuseTreatyModel", "begins", "()V"⟩, 69), (⟨"FuseTreatyModel", "keepsRow", "()V"⟩, 69), (⟨"FuseTreatyModel", "put", "(I)V"⟩, 69), (⟨"FuseTreatyModel", "cutsUp", "()V"⟩, 69), (⟨"FuseTreatyModel", "byteAt", "(I)I"⟩, 69), (⟨"FuseTreatyModel", "token", "(IIIJ)V"⟩, 69), (⟨"FuseTreatyModel", "sign", "(III)I"⟩, 69), (⟨"FuseTreatyModel", "is", "(I)Z"⟩, 69), (⟨"FuseTreatyModel", "tellOne", "()V"⟩, 69), (⟨"FuseTreatyModel", "roomFor", "(II)V"⟩, 69), (⟨"FuseTreatyModel", "fail", "(I)V"⟩, 69), (⟨"FuseTreatyModel", "goesOn", "()V"⟩, 69), (⟨"FuseTreatyModel", "named", "()I"⟩, 69), (⟨"FuseTreatyModel", "must", "(I)V"⟩, 69), (⟨"FuseTreatyModel", "wrong", "(II)V"⟩, 69)]
theorem lw_r4 : ∀ q ∈ lw_privs_4, lw_okq q := List.forall_mem_cons.mpr ⟨lw_p48, List.forall_mem_cons.mpr ⟨lw_p49, List.forall_mem_cons.mpr ⟨lw_p50, List.forall_mem_cons.mpr ⟨lw_p51, List.forall_mem_cons.mpr ⟨lw_p52, List.forall_mem_cons.mpr ⟨lw_p53, List.forall_mem_cons.mpr ⟨lw_p54, List.forall_mem_cons.mpr ⟨lw_p55, List.forall_mem_cons.mpr ⟨lw_p56, List.forall_mem_cons.mpr ⟨lw_p57, List.forall_mem_cons.mpr ⟨lw_p58, List.forall_mem_cons.mpr ⟨lw_p59, List.forall_mem_cons.mpr ⟨lw_p60, List.forall_mem_cons.mpr ⟨lw_p61, List.forall_mem_cons.mpr ⟨lw_p62, List.forall_mem_cons.mpr ⟨lw_p63, fun _ h => absurd h List.not_mem_nil⟩⟩⟩⟩⟩⟩⟩⟩⟩⟩⟩⟩⟩⟩⟩⟩
theorem lw_p64 : lw_okq (⟨"FuseTreatyModel", "bounded", "(II)I"⟩, 69) := lw_pB_ok (q := ((⟨"FuseTreatyModel", "bounded", "(II)I"⟩, 69), 1207, 1509, 1510)) (List.all_eq_true.mp lw_pK1 _ (List.mem_of_getElem? (i := 24) rfl))
theorem lw_p65 : lw_okq (⟨"FuseTreatyModel", "endsName", "(II)V"⟩, 69) := lw_pB_ok (q := ((⟨"FuseTreatyModel", "endsName", "(II)V"⟩, 69), 1207, 1513, 1514)) (List.all_eq_true.mp lw_pK1 _ (List.mem_of_getElem? (i := 25) rfl))
theorem lw_p66 : lw_okq (⟨"FuseTreatyModel", "tellWire", "()V"⟩, 69) := lw_pB_ok (q := ((⟨"FuseTreatyModel", "tellWire", "()V"⟩, 69), 1207, 1517, 1518)) (List.all_eq_true.mp lw_pK1 _ (List.mem_of_getElem? (i := 26) rfl))
theorem lw_p67 : lw_okq (⟨"FuseTreatyModel", "knownFlat", "()I"⟩, 69) := lw_pB_ok (q := ((⟨"FuseTreatyModel", "knownFlat", "()I"⟩, 69), 1207, 1521, 1522)) (List.all_eq_true.mp lw_pK1 _ (List.mem_of_getElem? (i := 27) rfl))
theorem lw_p68 : lw_okq (⟨"FuseTreatyModel", "areWired", "(II)Z"⟩, 69) := lw_pB_ok (q := ((⟨"FuseTreatyModel", "areWired", "(II)Z"⟩, 69), 1207, 1525, 1526)) (List.all_eq_true.mp lw_pK1 _ (List.mem_of_getElem? (i := 28) rfl))
theorem lw_p69 : lw_okq (⟨"FuseTreatyModel", "tellUse", "()V"⟩, 69) := lw_pB_ok (q := ((⟨"FuseTreatyModel", "tellUse", "()V"⟩, 69), 1207, 1529, 1530)) (List.all_eq_true.mp lw_pK1 _ (List.mem_of_getElem? (i := 29) rfl))
theorem lw_p70 : lw_okq (⟨"FuseTreatyModel", "tellLaw", "(I)V"⟩, 69) := lw_pB_ok (q := ((⟨"FuseTreatyModel", "tellLaw", "(I)V"⟩, 69), 1207, 1533, 1534)) (List.all_eq_true.mp lw_pK1 _ (List.mem_of_getElem? (i := 30) rfl))
theorem lw_p71 : lw_okq (⟨"FuseTreatyModel", "expression", "()V"⟩, 69) := lw_pB_ok (q := ((⟨"FuseTreatyModel", "expression", "()V"⟩, 69), 1207, 1537, 1538)) (List.all_eq_true.mp lw_pK1 _ (List.mem_of_getElem? (i := 31) rfl))
theorem lw_p72 : lw_okq (⟨"FuseTreatyModel", "unit", "()V"⟩, 69) := lw_pB_ok (q := ((⟨"FuseTreatyModel", "unit", "()V"⟩, 69), 1207, 1541, 1542)) (List.all_eq_true.mp lw_pK1 _ (List.mem_of_getElem? (i := 32) rfl))
theorem lw_p73 : lw_okq (⟨"FuseTreatyModel", "emit", "(II)V"⟩, 69) := lw_pB_ok (q := ((⟨"FuseTreatyModel", "emit", "(II)V"⟩, 69), 1207, 1545, 1546)) (List.all_eq_true.mp lw_pK1 _ (List.mem_of_getElem? (i := 33) rfl))
theorem lw_p74 : lw_okq (⟨"FuseTreatyModel", "comesOut", "(Z)V"⟩, 69) := lw_pB_ok (q := ((⟨"FuseTreatyModel", "comesOut", "(Z)V"⟩, 69), 1207, 1549, 1550)) (List.all_eq_true.mp lw_pK1 _ (List.mem_of_getElem? (i := 34) rfl))
theorem lw_p75 : lw_okq (⟨"FuseTreatyModel", "term", "()V"⟩, 69) := lw_pB_ok (q := ((⟨"FuseTreatyModel", "term", "()V"⟩, 69), 1207, 1553, 1554)) (List.all_eq_true.mp lw_pK1 _ (List.mem_of_getElem? (i := 35) rfl))
theorem lw_p76 : lw_okq (⟨"FuseTreatyModel", "isFlat", "(I)Z"⟩, 69) := lw_pB_ok (q := ((⟨"FuseTreatyModel", "isFlat", "(I)Z"⟩, 69), 1207, 1565, 1566)) (List.all_eq_true.mp lw_pK1 _ (List.mem_of_getElem? (i := 36) rfl))
theorem lw_p77 : lw_okq (⟨"FuseTreatyModel", "copies", "()V"⟩, 69) := lw_pB_ok (q := ((⟨"FuseTreatyModel", "copies", "()V"⟩, 69), 1207, 1572, 1573)) (List.all_eq_true.mp lw_pK1 _ (List.mem_of_getElem? (i := 37) rfl))
theorem lw_p78 : lw_okq (⟨"FuseTreatyModel", "fillsWays", "()V"⟩, 69) := lw_pB_ok (q := ((⟨"FuseTreatyModel", "fillsWays", "()V"⟩, 69), 1207, 1576, 1577)) (List.all_eq_true.mp lw_pK1 _ (List.mem_of_getElem? (i := 38) rfl))
theorem lw_p79 : lw_okq (⟨"FuseTreatyModel", "isWhole", "(I)Z"⟩, 69) := lw_pB_ok (q := ((⟨"FuseTreatyModel", "isWhole", "(I)Z"⟩, 69), 1207, 1580, 1581)) (List.all_eq_true.mp lw_pK1 _ (List.mem_of_getElem? (i := 39) rfl))
def lw_privs_5 : List (MethodName × Nat) := [(⟨"FuseTreatyModel", "bounded", "(II)I"⟩, 69), (⟨"FuseTreatyModel", "endsName", "(II)V"⟩, 69), (⟨"FuseTreatyModel", "tellWire", "()V"⟩, 69), (⟨"FuseTreatyModel", "knownFlat", "()I"⟩, 69), (⟨"FuseTreatyModel", "areWired", "(II)Z"⟩, 69), (⟨"FuseTreatyModel", "tellUse", "()V"⟩, 69), (⟨"FuseTreatyModel", "tellLaw", "(I)V"⟩, 69), (⟨"FuseTreatyModel", "expression", "()V"⟩, 69), (⟨"FuseTreatyModel", "unit", "()V"⟩, 69), (⟨"FuseTreatyModel", "emit", "(II)V"⟩, 69), (⟨"FuseTreatyModel", "comesOut", "(Z)V"⟩, 69), (⟨"FuseTreatyModel", "term", "()V"⟩, 69), (⟨"FuseTreatyModel", "isFlat", "(I)Z"⟩, 69), (⟨"FuseTreatyModel", "copies", "()V"⟩, 69), (⟨"FuseTreatyModel", "fillsWays", "()V"⟩, 69), (⟨"FuseTreatyModel", "isWhole", "(I)Z"⟩, 69)]
theorem lw_r5 : ∀ q ∈ lw_privs_5, lw_okq q := List.forall_mem_cons.mpr ⟨lw_p64, List.forall_mem_cons.mpr ⟨lw_p65, List.forall_mem_cons.mpr ⟨lw_p66, List.forall_mem_cons.mpr ⟨lw_p67, List.forall_mem_cons.mpr ⟨lw_p68, List.forall_mem_cons.mpr ⟨lw_p69, List.forall_mem_cons.mpr ⟨lw_p70, List.forall_mem_cons.mpr ⟨lw_p71, List.forall_mem_cons.mpr ⟨lw_p72, List.forall_mem_cons.mpr ⟨lw_p73, List.forall_mem_cons.mpr ⟨lw_p74, List.forall_mem_cons.mpr ⟨lw_p75, List.forall_mem_cons.mpr ⟨lw_p76, List.forall_mem_cons.mpr ⟨lw_p77, List.forall_mem_cons.mpr ⟨lw_p78, List.forall_mem_cons.mpr ⟨lw_p79, fun _ h => absurd h List.not_mem_nil⟩⟩⟩⟩⟩⟩⟩⟩⟩⟩⟩⟩⟩⟩⟩⟩
theorem lw_p80 : lw_okq (⟨"FuseTreatyModel", "isWire", "(I)Z"⟩, 69) := lw_pB_ok (q := ((⟨"FuseTreatyModel", "isWire", "(I)Z"⟩, 69), 1207, 1584, 1585)) (List.all_eq_true.mp lw_pK2 _ (List.mem_of_getElem? (i := 0) rfl))
theorem lw_p81 : lw_okq (⟨"FuseTreatyModel", "wireFrom", "(I)I"⟩, 69) := lw_pB_ok (q := ((⟨"FuseTreatyModel", "wireFrom", "(I)I"⟩, 69), 1207, 1588, 1589)) (List.all_eq_true.mp lw_pK2 _ (List.mem_of_getElem? (i := 1) rfl))
theorem lw_p82 : lw_okq (⟨"FuseTreatyModel", "otherEnd", "(II)I"⟩, 69) := lw_pB_ok (q := ((⟨"FuseTreatyModel", "otherEnd", "(II)I"⟩, 69), 1207, 1592, 1593)) (List.all_eq_true.mp lw_pK2 _ (List.mem_of_getElem? (i := 2) rfl))
theorem lw_p83 : lw_okq (⟨"FuseTreatyModel", "isLit", "(I)Z"⟩, 69) := lw_pB_ok (q := ((⟨"FuseTreatyModel", "isLit", "(I)Z"⟩, 69), 1207, 1596, 1597)) (List.all_eq_true.mp lw_pK2 _ (List.mem_of_getElem? (i := 3) rfl))
theorem lw_p84 : lw_okq (⟨"FuseTreatyModel", "quarrelOf", "(I)I"⟩, 69) := lw_pB_ok (q := ((⟨"FuseTreatyModel", "quarrelOf", "(I)I"⟩, 69), 1207, 1600, 1601)) (List.all_eq_true.mp lw_pK2 _ (List.mem_of_getElem? (i := 4) rfl))
theorem lw_p85 : lw_okq (⟨"FuseTreatyModel", "looks", "(II)V"⟩, 69) := lw_pB_ok (q := ((⟨"FuseTreatyModel", "looks", "(II)V"⟩, 69), 1207, 1604, 1605)) (List.all_eq_true.mp lw_pK2 _ (List.mem_of_getElem? (i := 5) rfl))
theorem lw_p86 : lw_okq (⟨"FuseTreatyModel", "lawTells", "(II)I"⟩, 69) := lw_pB_ok (q := ((⟨"FuseTreatyModel", "lawTells", "(II)I"⟩, 69), 1207, 1608, 1609)) (List.all_eq_true.mp lw_pK2 _ (List.mem_of_getElem? (i := 6) rfl))
theorem lw_p87 : lw_okq (⟨"FuseTreatyModel", "termOf", "(II)I"⟩, 69) := lw_pB_ok (q := ((⟨"FuseTreatyModel", "termOf", "(II)I"⟩, 69), 1207, 1612, 1613)) (List.all_eq_true.mp lw_pK2 _ (List.mem_of_getElem? (i := 7) rfl))
theorem lw_p88 : lw_okq (⟨"FuseTreatyModel", "ampsOn", "(I)I"⟩, 69) := lw_pB_ok (q := ((⟨"FuseTreatyModel", "ampsOn", "(I)I"⟩, 69), 1207, 1619, 1620)) (List.all_eq_true.mp lw_pK2 _ (List.mem_of_getElem? (i := 8) rfl))
theorem lw_p89 : lw_okq (⟨"FuseTreatyModel", "onNow", "()I"⟩, 69) := lw_pB_ok (q := ((⟨"FuseTreatyModel", "onNow", "()I"⟩, 69), 1207, 1623, 1624)) (List.all_eq_true.mp lw_pK2 _ (List.mem_of_getElem? (i := 9) rfl))
theorem lw_p90 : lw_okq (⟨"FuseTreatyModel", "onAt", "(I)I"⟩, 69) := lw_pB_ok (q := ((⟨"FuseTreatyModel", "onAt", "(I)I"⟩, 69), 1207, 1627, 1628)) (List.all_eq_true.mp lw_pK2 _ (List.mem_of_getElem? (i := 10) rfl))
theorem lw_p91 : lw_okq (⟨"FuseTreatyModel", "flatAt", "(I)I"⟩, 69) := lw_pB_ok (q := ((⟨"FuseTreatyModel", "flatAt", "(I)I"⟩, 69), 1207, 1631, 1632)) (List.all_eq_true.mp lw_pK2 _ (List.mem_of_getElem? (i := 11) rfl))
theorem lw_p92 : lw_okq (⟨"FuseTreatyModel", "ampsAt", "(I)I"⟩, 69) := lw_pB_ok (q := ((⟨"FuseTreatyModel", "ampsAt", "(I)I"⟩, 69), 1207, 1635, 1636)) (List.all_eq_true.mp lw_pK2 _ (List.mem_of_getElem? (i := 12) rfl))
theorem lw_p93 : lw_okq (⟨"FuseTreatyModel", "loadBy", "(II)I"⟩, 69) := lw_pB_ok (q := ((⟨"FuseTreatyModel", "loadBy", "(II)I"⟩, 69), 1207, 1643, 1644)) (List.all_eq_true.mp lw_pK2 _ (List.mem_of_getElem? (i := 13) rfl))
theorem lw_p94 : lw_okq (⟨"FuseTreatyModel", "costsOf", "(I)I"⟩, 69) := lw_pB_ok (q := ((⟨"FuseTreatyModel", "costsOf", "(I)I"⟩, 69), 1207, 1647, 1648)) (List.all_eq_true.mp lw_pK2 _ (List.mem_of_getElem? (i := 14) rfl))
theorem lw_p95 : lw_okq (⟨"FuseTreatyModel", "doesGo", "(IIII)Z"⟩, 69) := lw_pB_ok (q := ((⟨"FuseTreatyModel", "doesGo", "(IIII)Z"⟩, 69), 1207, 1651, 1652)) (List.all_eq_true.mp lw_pK2 _ (List.mem_of_getElem? (i := 15) rfl))
def lw_privs_6 : List (MethodName × Nat) := [(⟨"FuseTreatyModel", "isWire", "(I)Z"⟩, 69), (⟨"FuseTreatyModel", "wireFrom", "(I)I"⟩, 69), (⟨"FuseTreatyModel", "otherEnd", "(II)I"⟩, 69), (⟨"FuseTreatyModel", "isLit", "(I)Z"⟩, 69), (⟨"FuseTreatyModel", "quarrelOf", "(I)I"⟩, 69), (⟨"FuseTreatyModel", "looks", "(II)V"⟩, 69), (⟨"FuseTreatyModel", "lawTells", "(II)I"⟩, 69), (⟨"FuseTreatyModel", "termOf", "(II)I"⟩, 69), (⟨"FuseTreatyModel", "ampsOn", "(I)I"⟩, 69), (⟨"FuseTreatyModel", "onNow", "()I"⟩, 69), (⟨"FuseTreatyModel", "onAt", "(I)I"⟩, 69), (⟨"FuseTreatyModel", "flatAt", "(I)I"⟩, 69), (⟨"FuseTreatyModel", "ampsAt", "(I)I"⟩, 69), (⟨"FuseTreatyModel", "loadBy", "(II)I"⟩, 69), (⟨"FuseTreatyModel", "costsOf", "(I)I"⟩, 69), (⟨"FuseTreatyModel", "doesGo", "(IIII)Z"⟩, 69)]
theorem lw_r6 : ∀ q ∈ lw_privs_6, lw_okq q := List.forall_mem_cons.mpr ⟨lw_p80, List.forall_mem_cons.mpr ⟨lw_p81, List.forall_mem_cons.mpr ⟨lw_p82, List.forall_mem_cons.mpr ⟨lw_p83, List.forall_mem_cons.mpr ⟨lw_p84, List.forall_mem_cons.mpr ⟨lw_p85, List.forall_mem_cons.mpr ⟨lw_p86, List.forall_mem_cons.mpr ⟨lw_p87, List.forall_mem_cons.mpr ⟨lw_p88, List.forall_mem_cons.mpr ⟨lw_p89, List.forall_mem_cons.mpr ⟨lw_p90, List.forall_mem_cons.mpr ⟨lw_p91, List.forall_mem_cons.mpr ⟨lw_p92, List.forall_mem_cons.mpr ⟨lw_p93, List.forall_mem_cons.mpr ⟨lw_p94, List.forall_mem_cons.mpr ⟨lw_p95, fun _ h => absurd h List.not_mem_nil⟩⟩⟩⟩⟩⟩⟩⟩⟩⟩⟩⟩⟩⟩⟩⟩
theorem lw_p96 : lw_okq (⟨"FuseTreatyModel", "isUse", "(I)Z"⟩, 69) := lw_pB_ok (q := ((⟨"FuseTreatyModel", "isUse", "(I)Z"⟩, 69), 1207, 1659, 1660)) (List.all_eq_true.mp lw_pK2 _ (List.mem_of_getElem? (i := 16) rfl))
theorem lw_p97 : lw_okq (⟨"FuseTreatyModel", "paysOf", "(I)I"⟩, 69) := lw_pB_ok (q := ((⟨"FuseTreatyModel", "paysOf", "(I)I"⟩, 69), 1207, 1663, 1664)) (List.all_eq_true.mp lw_pK2 _ (List.mem_of_getElem? (i := 17) rfl))
theorem lw_p98 : lw_okq (⟨"FuseTreatyModel", "records", "()V"⟩, 69) := lw_pB_ok (q := ((⟨"FuseTreatyModel", "records", "()V"⟩, 69), 1207, 1671, 1672)) (List.all_eq_true.mp lw_pK2 _ (List.mem_of_getElem? (i := 18) rfl))
theorem lw_p99 : lw_okq (⟨"FuseTreatyModel", "goes", "(I)V"⟩, 69) := lw_pB_ok (q := ((⟨"FuseTreatyModel", "goes", "(I)V"⟩, 69), 1207, 1694, 1695)) (List.all_eq_true.mp lw_pK2 _ (List.mem_of_getElem? (i := 19) rfl))
theorem lw_p100 : lw_okq (⟨"FuseTreatyModel", "hourGoes", "()V"⟩, 69) := lw_pB_ok (q := ((⟨"FuseTreatyModel", "hourGoes", "()V"⟩, 69), 1207, 1698, 1699)) (List.all_eq_true.mp lw_pK2 _ (List.mem_of_getElem? (i := 20) rfl))
theorem lw_p101 : lw_okq (⟨"FuseTreatyModel", "isSurge", "()Z"⟩, 69) := lw_pB_ok (q := ((⟨"FuseTreatyModel", "isSurge", "()Z"⟩, 69), 1207, 1702, 1703)) (List.all_eq_true.mp lw_pK2 _ (List.mem_of_getElem? (i := 21) rfl))
theorem lw_p102 : lw_okq (⟨"FuseTreatyModel", "goingBits", "(III)I"⟩, 69) := lw_pB_ok (q := ((⟨"FuseTreatyModel", "goingBits", "(III)I"⟩, 69), 1207, 1710, 1711)) (List.all_eq_true.mp lw_pK2 _ (List.mem_of_getElem? (i := 22) rfl))
theorem lw_p103 : lw_okq (⟨"FuseTreatyModel", "paysAll", "(I)I"⟩, 69) := lw_pB_ok (q := ((⟨"FuseTreatyModel", "paysAll", "(I)I"⟩, 69), 1207, 1714, 1715)) (List.all_eq_true.mp lw_pK2 _ (List.mem_of_getElem? (i := 23) rfl))
theorem lw_p104 : lw_okq (⟨"FuseTreatyModel", "quarrelsAll", "()I"⟩, 69) := lw_pB_ok (q := ((⟨"FuseTreatyModel", "quarrelsAll", "()I"⟩, 69), 1207, 1718, 1719)) (List.all_eq_true.mp lw_pK2 _ (List.mem_of_getElem? (i := 24) rfl))
theorem lw_p105 : lw_okq (⟨"FuseTreatyModel", "copiesStill", "()V"⟩, 69) := lw_pB_ok (q := ((⟨"FuseTreatyModel", "copiesStill", "()V"⟩, 69), 1207, 1736, 1737)) (List.all_eq_true.mp lw_pK2 _ (List.mem_of_getElem? (i := 25) rfl))
theorem lw_p106 : lw_okq (⟨"FuseTreatyModel", "firstGoing", "()I"⟩, 69) := lw_pB_ok (q := ((⟨"FuseTreatyModel", "firstGoing", "()I"⟩, 69), 1207, 1744, 1745)) (List.all_eq_true.mp lw_pK2 _ (List.mem_of_getElem? (i := 26) rfl))
theorem lw_p107 : lw_okq (⟨"FuseTreatyModel", "usesLit", "()I"⟩, 69) := lw_pB_ok (q := ((⟨"FuseTreatyModel", "usesLit", "()I"⟩, 69), 1207, 1755, 1756)) (List.all_eq_true.mp lw_pK2 _ (List.mem_of_getElem? (i := 27) rfl))
theorem lw_p108 : lw_okq (⟨"FuseTreatyModel", "canBegin", "(II)Z"⟩, 69) := lw_pB_ok (q := ((⟨"FuseTreatyModel", "canBegin", "(II)Z"⟩, 69), 1207, 1763, 1764)) (List.all_eq_true.mp lw_pK2 _ (List.mem_of_getElem? (i := 28) rfl))
theorem lw_p109 : lw_okq (⟨"FuseTreatyModel", "goneBits", "()I"⟩, 69) := lw_pB_ok (q := ((⟨"FuseTreatyModel", "goneBits", "()I"⟩, 69), 1207, 1775, 1776)) (List.all_eq_true.mp lw_pK2 _ (List.mem_of_getElem? (i := 29) rfl))
theorem lw_p110 : lw_okq (⟨"FuseTreatyModel", "loses", "(I)V"⟩, 69) := lw_pB_ok (q := ((⟨"FuseTreatyModel", "loses", "(I)V"⟩, 69), 1207, 1788, 1789)) (List.all_eq_true.mp lw_pK2 _ (List.mem_of_getElem? (i := 30) rfl))
theorem lw_p111 : lw_okq (⟨"FuseTreatyModel", "darkBits", "()I"⟩, 69) := lw_pB_ok (q := ((⟨"FuseTreatyModel", "darkBits", "()I"⟩, 69), 1207, 1800, 1801)) (List.all_eq_true.mp lw_pK2 _ (List.mem_of_getElem? (i := 31) rfl))
def lw_privs_7 : List (MethodName × Nat) := [(⟨"FuseTreatyModel", "isUse", "(I)Z"⟩, 69), (⟨"FuseTreatyModel", "paysOf", "(I)I"⟩, 69), (⟨"FuseTreatyModel", "records", "()V"⟩, 69), (⟨"FuseTreatyModel", "goes", "(I)V"⟩, 69), (⟨"FuseTreatyModel", "hourGoes", "()V"⟩, 69), (⟨"FuseTreatyModel", "isSurge", "()Z"⟩, 69), (⟨"FuseTreatyModel", "goingBits", "(III)I"⟩, 69), (⟨"FuseTreatyModel", "paysAll", "(I)I"⟩, 69), (⟨"FuseTreatyModel", "quarrelsAll", "()I"⟩, 69), (⟨"FuseTreatyModel", "copiesStill", "()V"⟩, 69), (⟨"FuseTreatyModel", "firstGoing", "()I"⟩, 69), (⟨"FuseTreatyModel", "usesLit", "()I"⟩, 69), (⟨"FuseTreatyModel", "canBegin", "(II)Z"⟩, 69), (⟨"FuseTreatyModel", "goneBits", "()I"⟩, 69), (⟨"FuseTreatyModel", "loses", "(I)V"⟩, 69), (⟨"FuseTreatyModel", "darkBits", "()I"⟩, 69)]
theorem lw_r7 : ∀ q ∈ lw_privs_7, lw_okq q := List.forall_mem_cons.mpr ⟨lw_p96, List.forall_mem_cons.mpr ⟨lw_p97, List.forall_mem_cons.mpr ⟨lw_p98, List.forall_mem_cons.mpr ⟨lw_p99, List.forall_mem_cons.mpr ⟨lw_p100, List.forall_mem_cons.mpr ⟨lw_p101, List.forall_mem_cons.mpr ⟨lw_p102, List.forall_mem_cons.mpr ⟨lw_p103, List.forall_mem_cons.mpr ⟨lw_p104, List.forall_mem_cons.mpr ⟨lw_p105, List.forall_mem_cons.mpr ⟨lw_p106, List.forall_mem_cons.mpr ⟨lw_p107, List.forall_mem_cons.mpr ⟨lw_p108, List.forall_mem_cons.mpr ⟨lw_p109, List.forall_mem_cons.mpr ⟨lw_p110, List.forall_mem_cons.mpr ⟨lw_p111, fun _ h => absurd h List.not_mem_nil⟩⟩⟩⟩⟩⟩⟩⟩⟩⟩⟩⟩⟩⟩⟩⟩
theorem lw_p112 : lw_okq (⟨"FuseTreatyModel", "litBits", "()I"⟩, 69) := lw_pB_ok (q := ((⟨"FuseTreatyModel", "litBits", "()I"⟩, 69), 1207, 1804, 1805)) (List.all_eq_true.mp lw_pK2 _ (List.mem_of_getElem? (i := 32) rfl))
theorem lw_p113 : lw_okq (⟨"FuseTreatyModel", "wentBits", "(I)I"⟩, 69) := lw_pB_ok (q := ((⟨"FuseTreatyModel", "wentBits", "(I)I"⟩, 69), 1207, 1844, 1845)) (List.all_eq_true.mp lw_pK2 _ (List.mem_of_getElem? (i := 33) rfl))
def lw_privs_8 : List (MethodName × Nat) := [(⟨"FuseTreatyModel", "litBits", "()I"⟩, 69), (⟨"FuseTreatyModel", "wentBits", "(I)I"⟩, 69)]
theorem lw_r8 : ∀ q ∈ lw_privs_8, lw_okq q := List.forall_mem_cons.mpr ⟨lw_p112, List.forall_mem_cons.mpr ⟨lw_p113, fun _ h => absurd h List.not_mem_nil⟩⟩
def lw_privs : List (MethodName × Nat) := lw_privs_1 ++ (lw_privs_2 ++ (lw_privs_3 ++ (lw_privs_4 ++ (lw_privs_5 ++ (lw_privs_6 ++ (lw_privs_7 ++ (lw_privs_8)))))))
def lw_tbl : List Cond := k2_sels lw_privs ++ tables_1
theorem lw_privs_ok : ∀ q ∈ lw_privs, lw_okq q := by
  show ∀ q ∈ lw_privs_1 ++ (lw_privs_2 ++ (lw_privs_3 ++ (lw_privs_4 ++ (lw_privs_5 ++ (lw_privs_6 ++ (lw_privs_7 ++ (lw_privs_8))))))), lw_okq q
  exact List.forall_mem_append.mpr ⟨lw_r1, List.forall_mem_append.mpr ⟨lw_r2, List.forall_mem_append.mpr ⟨lw_r3, List.forall_mem_append.mpr ⟨lw_r4, List.forall_mem_append.mpr ⟨lw_r5, List.forall_mem_append.mpr ⟨lw_r6, List.forall_mem_append.mpr ⟨lw_r7, lw_r8⟩⟩⟩⟩⟩⟩⟩
end
section
def RX0 : String := "FuseTreaty$Current"
def TX0 : u_T := fun k => match k with
  | 0 => ("FuseTreaty$Current", "house", "LFuseTreaty$House;", true)
  | 1 => ("FuseTreaty$Current", "ways", "LFuseTreaty$Ways;", true)
  | 2 => ("FuseTreaty$Current", "vars", "[I", true)
  | _ => ("FuseTreaty$Current", "load", "[I", true)
def tyX0 : Nat → FieldType := fun k => match k with
  | 0 => .object "FuseTreaty$House"
  | 1 => .object "FuseTreaty$Ways"
  | 2 => .array .int
  | _ => .array .int
theorem nmX0 : ∀ a, a < 4 → ∀ b, b < 4 → a ≠ b → (TX0 a).2.1 ≠ (TX0 b).2.1 := by decide +kernel
theorem tyX0_ok : ∀ k, k < 4 → parseFieldDescriptor (TX0 k).2.2.1 = some (tyX0 k) := by decide +kernel
def RX1 : String := "FuseTreaty$Foresight"
def TX1 : u_T := fun k => match k with
  | 0 => ("FuseTreaty$Foresight", "house", "LFuseTreaty$House;", true)
  | 1 => ("FuseTreaty$Foresight", "current", "LFuseTreaty$Current;", true)
  | 2 => ("FuseTreaty$Foresight", "trial", "LFuseTreaty$State;", true)
  | 3 => ("FuseTreaty$Foresight", "pays", "[I", true)
  | _ => ("FuseTreaty$Foresight", "firstGoing", "I", false)
def tyX1 : Nat → FieldType := fun k => match k with
  | 0 => .object "FuseTreaty$House"
  | 1 => .object "FuseTreaty$Current"
  | 2 => .object "FuseTreaty$State"
  | 3 => .array .int
  | _ => .int
theorem nmX1 : ∀ a, a < 5 → ∀ b, b < 5 → a ≠ b → (TX1 a).2.1 ≠ (TX1 b).2.1 := by decide +kernel
theorem tyX1_ok : ∀ k, k < 5 → parseFieldDescriptor (TX1 k).2.2.1 = some (tyX1 k) := by decide +kernel
def RX2 : String := "FuseTreaty$Grammar"
def TX2 : u_T := fun k => match k with
  | 0 => ("FuseTreaty$Grammar", "tokens", "LFuseTreaty$Tokens;", true)
  | 1 => ("FuseTreaty$Grammar", "laws", "LFuseTreaty$Laws;", true)
  | 2 => ("FuseTreaty$Grammar", "next", "I", false)
  | 3 => ("FuseTreaty$Grammar", "fault", "I", false)
  | 4 => ("FuseTreaty$Grammar", "flats", "I", false)
  | 5 => ("FuseTreaty$Grammar", "wires", "I", false)
  | _ => ("FuseTreaty$Grammar", "uses", "I", false)
def tyX2 : Nat → FieldType := fun k => match k with
  | 0 => .object "FuseTreaty$Tokens"
  | 1 => .object "FuseTreaty$Laws"
  | 2 => .int
  | 3 => .int
  | 4 => .int
  | 5 => .int
  | _ => .int
theorem nmX2 : ∀ a, a < 7 → ∀ b, b < 7 → a ≠ b → (TX2 a).2.1 ≠ (TX2 b).2.1 := by decide +kernel
theorem tyX2_ok : ∀ k, k < 7 → parseFieldDescriptor (TX2 k).2.2.1 = some (tyX2 k) := by decide +kernel
def RX3 : String := "FuseTreaty$House"
def TX3 : u_T := fun k => match k with
  | 0 => ("FuseTreaty$House", "flats", "I", false)
  | 1 => ("FuseTreaty$House", "wires", "I", false)
  | 2 => ("FuseTreaty$House", "uses", "I", false)
  | 3 => ("FuseTreaty$House", "surgeShare", "I", false)
  | 4 => ("FuseTreaty$House", "surgeAmps", "I", false)
  | 5 => ("FuseTreaty$House", "coins", "I", false)
  | 6 => ("FuseTreaty$House", "seed", "I", false)
  | 7 => ("FuseTreaty$House", "temper", "[I", true)
  | 8 => ("FuseTreaty$House", "oneEnd", "[I", true)
  | 9 => ("FuseTreaty$House", "otherEnd", "[I", true)
  | 10 => ("FuseTreaty$House", "rating", "[I", true)
  | 11 => ("FuseTreaty$House", "home", "[I", true)
  | 12 => ("FuseTreaty$House", "amps", "[I", true)
  | 13 => ("FuseTreaty$House", "from", "[I", true)
  | 14 => ("FuseTreaty$House", "till", "[I", true)
  | _ => ("FuseTreaty$House", "laws", "LFuseTreaty$Laws;", true)
def tyX3 : Nat → FieldType := fun k => match k with
  | 0 => .int
  | 1 => .int
  | 2 => .int
  | 3 => .int
  | 4 => .int
  | 5 => .int
  | 6 => .int
  | 7 => .array .int
  | 8 => .array .int
  | 9 => .array .int
  | 10 => .array .int
  | 11 => .array .int
  | 12 => .array .int
  | 13 => .array .int
  | 14 => .array .int
  | _ => .object "FuseTreaty$Laws"
theorem nmX3 : ∀ a, a < 16 → ∀ b, b < 16 → a ≠ b → (TX3 a).2.1 ≠ (TX3 b).2.1 := by decide +kernel
theorem tyX3_ok : ∀ k, k < 16 → parseFieldDescriptor (TX3 k).2.2.1 = some (tyX3 k) := by decide +kernel
def RX4 : String := "FuseTreaty$Laws"
def TX4 : u_T := fun k => match k with
  | 0 => ("FuseTreaty$Laws", "codes", "[I", true)
  | 1 => ("FuseTreaty$Laws", "size", "I", false)
  | 2 => ("FuseTreaty$Laws", "starts", "[[I", true)
  | 3 => ("FuseTreaty$Laws", "pieces", "[I", true)
  | 4 => ("FuseTreaty$Laws", "stack", "[I", true)
  | _ => ("FuseTreaty$Laws", "broken", "Z", false)
def tyX4 : Nat → FieldType := fun k => match k with
  | 0 => .array .int
  | 1 => .int
  | 2 => .array (.array .int)
  | 3 => .array .int
  | 4 => .array .int
  | _ => .boolean
theorem nmX4 : ∀ a, a < 6 → ∀ b, b < 6 → a ≠ b → (TX4 a).2.1 ≠ (TX4 b).2.1 := by decide +kernel
theorem tyX4_ok : ∀ k, k < 6 → parseFieldDescriptor (TX4 k).2.2.1 = some (tyX4 k) := by decide +kernel
def RX5 : String := "FuseTreaty$Meaning"
def TX5 : u_T := fun k => match k with
  | 0 => ("FuseTreaty$Meaning", "tokens", "LFuseTreaty$Tokens;", true)
  | 1 => ("FuseTreaty$Meaning", "house", "LFuseTreaty$House;", true)
  | 2 => ("FuseTreaty$Meaning", "flatNames", "[J", true)
  | 3 => ("FuseTreaty$Meaning", "useNames", "[J", true)
  | 4 => ("FuseTreaty$Meaning", "next", "I", false)
  | _ => ("FuseTreaty$Meaning", "fault", "I", false)
def tyX5 : Nat → FieldType := fun k => match k with
  | 0 => .object "FuseTreaty$Tokens"
  | 1 => .object "FuseTreaty$House"
  | 2 => .array .long
  | 3 => .array .long
  | 4 => .int
  | _ => .int
theorem nmX5 : ∀ a, a < 6 → ∀ b, b < 6 → a ≠ b → (TX5 a).2.1 ≠ (TX5 b).2.1 := by decide +kernel
theorem tyX5_ok : ∀ k, k < 6 → parseFieldDescriptor (TX5 k).2.2.1 = some (tyX5 k) := by decide +kernel
def RX6 : String := "FuseTreaty$Past"
def TX6 : u_T := fun k => match k with
  | 0 => ("FuseTreaty$Past", "rows", "[I", true)
  | 1 => ("FuseTreaty$Past", "slotRows", "[I", true)
  | 2 => ("FuseTreaty$Past", "next", "I", false)
  | 3 => ("FuseTreaty$Past", "size", "I", false)
  | _ => ("FuseTreaty$Past", "slotsHeld", "I", false)
def tyX6 : Nat → FieldType := fun k => match k with
  | 0 => .array .int
  | 1 => .array .int
  | 2 => .int
  | 3 => .int
  | _ => .int
theorem nmX6 : ∀ a, a < 5 → ∀ b, b < 5 → a ≠ b → (TX6 a).2.1 ≠ (TX6 b).2.1 := by decide +kernel
theorem tyX6_ok : ∀ k, k < 5 → parseFieldDescriptor (TX6 k).2.2.1 = some (tyX6 k) := by decide +kernel
def RX7 : String := "FuseTreaty$State"
def TX7 : u_T := fun k => match k with
  | 0 => ("FuseTreaty$State", "hour", "I", false)
  | 1 => ("FuseTreaty$State", "coins", "I", false)
  | 2 => ("FuseTreaty$State", "quarrels", "I", false)
  | 3 => ("FuseTreaty$State", "gone", "I", false)
  | 4 => ("FuseTreaty$State", "pinned", "I", false)
  | 5 => ("FuseTreaty$State", "agreed", "I", false)
  | 6 => ("FuseTreaty$State", "rating", "[I", true)
  | 7 => ("FuseTreaty$State", "age", "[I", true)
  | _ => ("FuseTreaty$State", "dark", "[I", true)
def tyX7 : Nat → FieldType := fun k => match k with
  | 0 => .int
  | 1 => .int
  | 2 => .int
  | 3 => .int
  | 4 => .int
  | 5 => .int
  | 6 => .array .int
  | 7 => .array .int
  | _ => .array .int
theorem nmX7 : ∀ a, a < 9 → ∀ b, b < 9 → a ≠ b → (TX7 a).2.1 ≠ (TX7 b).2.1 := by decide +kernel
theorem tyX7_ok : ∀ k, k < 9 → parseFieldDescriptor (TX7 k).2.2.1 = some (tyX7 k) := by decide +kernel
def RX8 : String := "FuseTreaty$Tokens"
def TX8 : u_T := fun k => match k with
  | 0 => ("FuseTreaty$Tokens", "kinds", "[I", true)
  | 1 => ("FuseTreaty$Tokens", "places", "[I", true)
  | 2 => ("FuseTreaty$Tokens", "values", "[J", true)
  | 3 => ("FuseTreaty$Tokens", "words", "[J", true)
  | 4 => ("FuseTreaty$Tokens", "text", "[B", false)
  | _ => ("FuseTreaty$Tokens", "length", "I", false)
def tyX8 : Nat → FieldType := fun k => match k with
  | 0 => .array .int
  | 1 => .array .int
  | 2 => .array .long
  | 3 => .array .long
  | 4 => .array .byte
  | _ => .int
theorem nmX8 : ∀ a, a < 6 → ∀ b, b < 6 → a ≠ b → (TX8 a).2.1 ≠ (TX8 b).2.1 := by decide +kernel
theorem tyX8_ok : ∀ k, k < 6 → parseFieldDescriptor (TX8 k).2.2.1 = some (tyX8 k) := by decide +kernel
def RX9 : String := "FuseTreaty$Told"
def TX9 : u_T := fun k => match k with
  | 0 => ("FuseTreaty$Told", "house", "LFuseTreaty$House;", true)
  | 1 => ("FuseTreaty$Told", "flats", "[I", true)
  | 2 => ("FuseTreaty$Told", "lits", "[Z", true)
  | _ => ("FuseTreaty$Told", "size", "I", false)
def tyX9 : Nat → FieldType := fun k => match k with
  | 0 => .object "FuseTreaty$House"
  | 1 => .array .int
  | 2 => .array .boolean
  | _ => .int
theorem nmX9 : ∀ a, a < 4 → ∀ b, b < 4 → a ≠ b → (TX9 a).2.1 ≠ (TX9 b).2.1 := by decide +kernel
theorem tyX9_ok : ∀ k, k < 4 → parseFieldDescriptor (TX9 k).2.2.1 = some (tyX9 k) := by decide +kernel
def RX10 : String := "FuseTreaty$Ways"
def TX10 : u_T := fun k => match k with
  | 0 => ("FuseTreaty$Ways", "house", "LFuseTreaty$House;", true)
  | 1 => ("FuseTreaty$Ways", "laidFor", "I", false)
  | 2 => ("FuseTreaty$Ways", "nextWire", "[I", true)
  | 3 => ("FuseTreaty$Ways", "steps", "[I", true)
  | 4 => ("FuseTreaty$Ways", "via", "[I", true)
  | _ => ("FuseTreaty$Ways", "lit", "I", false)
def tyX10 : Nat → FieldType := fun k => match k with
  | 0 => .object "FuseTreaty$House"
  | 1 => .int
  | 2 => .array .int
  | 3 => .array .int
  | 4 => .array .int
  | _ => .int
theorem nmX10 : ∀ a, a < 6 → ∀ b, b < 6 → a ≠ b → (TX10 a).2.1 ≠ (TX10 b).2.1 := by decide +kernel
theorem tyX10_ok : ∀ k, k < 6 → parseFieldDescriptor (TX10 k).2.2.1 = some (tyX10 k) := by decide +kernel
def RX11 : String := "FuseTreaty"
def TX11 : u_T := fun k => match k with
  | 0 => ("FuseTreaty", "tape", "[B", true)
  | 1 => ("FuseTreaty", "taped", "I", false)
  | 2 => ("FuseTreaty", "faultPlace", "I", false)
  | 3 => ("FuseTreaty", "house", "LFuseTreaty$House;", true)
  | 4 => ("FuseTreaty", "draft", "LFuseTreaty$House;", true)
  | 5 => ("FuseTreaty", "tokens", "LFuseTreaty$Tokens;", true)
  | 6 => ("FuseTreaty", "grammar", "LFuseTreaty$Grammar;", true)
  | 7 => ("FuseTreaty", "meaning", "LFuseTreaty$Meaning;", true)
  | 8 => ("FuseTreaty", "state", "LFuseTreaty$State;", true)
  | 9 => ("FuseTreaty", "past", "LFuseTreaty$Past;", true)
  | 10 => ("FuseTreaty", "current", "LFuseTreaty$Current;", true)
  | 11 => ("FuseTreaty", "foresight", "LFuseTreaty$Foresight;", true)
  | _ => ("FuseTreaty", "told", "LFuseTreaty$Told;", true)
def tyX11 : Nat → FieldType := fun k => match k with
  | 0 => .array .byte
  | 1 => .int
  | 2 => .int
  | 3 => .object "FuseTreaty$House"
  | 4 => .object "FuseTreaty$House"
  | 5 => .object "FuseTreaty$Tokens"
  | 6 => .object "FuseTreaty$Grammar"
  | 7 => .object "FuseTreaty$Meaning"
  | 8 => .object "FuseTreaty$State"
  | 9 => .object "FuseTreaty$Past"
  | 10 => .object "FuseTreaty$Current"
  | 11 => .object "FuseTreaty$Foresight"
  | _ => .object "FuseTreaty$Told"
theorem nmX11 : ∀ a, a < 13 → ∀ b, b < 13 → a ≠ b → (TX11 a).2.1 ≠ (TX11 b).2.1 := by decide +kernel
theorem tyX11_ok : ∀ k, k < 13 → parseFieldDescriptor (TX11 k).2.2.1 = some (tyX11 k) := by decide +kernel
def RX12 : String := "FuseTreatyModel"
def TX12 : u_T := fun k => match k with
  | 0 => ("FuseTreatyModel", "thrown", "I", false)
  | 1 => ("FuseTreatyModel", "tape", "[B", true)
  | 2 => ("FuseTreatyModel", "taped", "I", false)
  | 3 => ("FuseTreatyModel", "text", "[B", true)
  | 4 => ("FuseTreatyModel", "size", "I", false)
  | 5 => ("FuseTreatyModel", "tKind", "[I", true)
  | 6 => ("FuseTreatyModel", "tPlace", "[I", true)
  | 7 => ("FuseTreatyModel", "tValue", "[I", true)
  | 8 => ("FuseTreatyModel", "tName", "[J", true)
  | 9 => ("FuseTreatyModel", "keys", "[J", true)
  | 10 => ("FuseTreatyModel", "tokens", "I", false)
  | 11 => ("FuseTreatyModel", "t", "I", false)
  | 12 => ("FuseTreatyModel", "open", "I", false)
  | 13 => ("FuseTreatyModel", "fault", "I", false)
  | 14 => ("FuseTreatyModel", "faultPlace", "I", false)
  | 15 => ("FuseTreatyModel", "worst", "I", false)
  | 16 => ("FuseTreatyModel", "worstPlace", "I", false)
  | 17 => ("FuseTreatyModel", "place", "I", false)
  | 18 => ("FuseTreatyModel", "live", "I", false)
  | 19 => ("FuseTreatyModel", "side", "I", false)
  | 20 => ("FuseTreatyModel", "names", "I", false)
  | 21 => ("FuseTreatyModel", "nameOf", "[J", true)
  | 22 => ("FuseTreatyModel", "nameAt", "[I", true)
  | 23 => ("FuseTreatyModel", "flats", "[I", true)
  | 24 => ("FuseTreatyModel", "temperOf", "[I", true)
  | 25 => ("FuseTreatyModel", "wires", "[I", true)
  | 26 => ("FuseTreatyModel", "oneOf", "[I", true)
  | 27 => ("FuseTreatyModel", "twoOf", "[I", true)
  | 28 => ("FuseTreatyModel", "ratingTold", "[I", true)
  | 29 => ("FuseTreatyModel", "uses", "[I", true)
  | 30 => ("FuseTreatyModel", "flatOf", "[I", true)
  | 31 => ("FuseTreatyModel", "ampsOf", "[I", true)
  | 32 => ("FuseTreatyModel", "fromOf", "[I", true)
  | 33 => ("FuseTreatyModel", "tillOf", "[I", true)
  | 34 => ("FuseTreatyModel", "surgeOdds", "[I", true)
  | 35 => ("FuseTreatyModel", "surgeAmps", "[I", true)
  | 36 => ("FuseTreatyModel", "coinsTold", "[I", true)
  | 37 => ("FuseTreatyModel", "seed", "[I", true)
  | 38 => ("FuseTreatyModel", "lawFirst", "[I", true)
  | 39 => ("FuseTreatyModel", "lawLast", "[I", true)
  | 40 => ("FuseTreatyModel", "branches", "I", false)
  | 41 => ("FuseTreatyModel", "hasTest", "[Z", true)
  | 42 => ("FuseTreatyModel", "testFrom", "[I", true)
  | 43 => ("FuseTreatyModel", "testMid", "[I", true)
  | 44 => ("FuseTreatyModel", "testTo", "[I", true)
  | 45 => ("FuseTreatyModel", "termTo", "[I", true)
  | 46 => ("FuseTreatyModel", "codes", "I", false)
  | 47 => ("FuseTreatyModel", "code", "[I", true)
  | 48 => ("FuseTreatyModel", "codeInt", "[I", true)
  | 49 => ("FuseTreatyModel", "waits", "[I", true)
  | 50 => ("FuseTreatyModel", "waiting", "I", false)
  | 51 => ("FuseTreatyModel", "variables", "[I", true)
  | 52 => ("FuseTreatyModel", "pile", "[I", true)
  | 53 => ("FuseTreatyModel", "isBroken", "Z", false)
  | 54 => ("FuseTreatyModel", "now", "[I", true)
  | 55 => ("FuseTreatyModel", "row", "[I", true)
  | 56 => ("FuseTreatyModel", "lots", "I", false)
  | 57 => ("FuseTreatyModel", "isStill", "Z", false)
  | 58 => ("FuseTreatyModel", "stepsOf", "[I", true)
  | 59 => ("FuseTreatyModel", "wayOf", "[I", true)
  | 60 => ("FuseTreatyModel", "wentNow", "I", false)
  | 61 => ("FuseTreatyModel", "undos", "I", false)
  | 62 => ("FuseTreatyModel", "history", "[I", true)
  | 63 => ("FuseTreatyModel", "tolds", "I", false)
  | 64 => ("FuseTreatyModel", "toldFlat", "[I", true)
  | 65 => ("FuseTreatyModel", "toldLit", "[I", true)
  | 66 => ("FuseTreatyModel", "litWithout", "[I", true)
  | 67 => ("FuseTreatyModel", "isHeld", "[Z", true)
  | _ => ("FuseTreatyModel", "heldRows", "[I", true)
def tyX12 : Nat → FieldType := fun k => match k with
  | 0 => .int
  | 1 => .array .byte
  | 2 => .int
  | 3 => .array .byte
  | 4 => .int
  | 5 => .array .int
  | 6 => .array .int
  | 7 => .array .int
  | 8 => .array .long
  | 9 => .array .long
  | 10 => .int
  | 11 => .int
  | 12 => .int
  | 13 => .int
  | 14 => .int
  | 15 => .int
  | 16 => .int
  | 17 => .int
  | 18 => .int
  | 19 => .int
  | 20 => .int
  | 21 => .array .long
  | 22 => .array .int
  | 23 => .array .int
  | 24 => .array .int
  | 25 => .array .int
  | 26 => .array .int
  | 27 => .array .int
  | 28 => .array .int
  | 29 => .array .int
  | 30 => .array .int
  | 31 => .array .int
  | 32 => .array .int
  | 33 => .array .int
  | 34 => .array .int
  | 35 => .array .int
  | 36 => .array .int
  | 37 => .array .int
  | 38 => .array .int
  | 39 => .array .int
  | 40 => .int
  | 41 => .array .boolean
  | 42 => .array .int
  | 43 => .array .int
  | 44 => .array .int
  | 45 => .array .int
  | 46 => .int
  | 47 => .array .int
  | 48 => .array .int
  | 49 => .array .int
  | 50 => .int
  | 51 => .array .int
  | 52 => .array .int
  | 53 => .boolean
  | 54 => .array .int
  | 55 => .array .int
  | 56 => .int
  | 57 => .boolean
  | 58 => .array .int
  | 59 => .array .int
  | 60 => .int
  | 61 => .int
  | 62 => .array .int
  | 63 => .int
  | 64 => .array .int
  | 65 => .array .int
  | 66 => .array .int
  | 67 => .array .boolean
  | _ => .array .int
theorem nmX12 : ∀ a, a < 69 → ∀ b, b < 69 → a ≠ b → (TX12 a).2.1 ≠ (TX12 b).2.1 := by decide +kernel
theorem tyX12_ok : ∀ k, k < 69 → parseFieldDescriptor (TX12 k).2.2.1 = some (tyX12 k) := by decide +kernel
def tCl : List vw_C := [(RX0, TX0, 4), (RX1, TX1, 5), (RX2, TX2, 7), (RX3, TX3, 16), (RX4, TX4, 6), (RX5, TX5, 6), (RX6, TX6, 5), (RX7, TX7, 9), (RX8, TX8, 6), (RX9, TX9, 4), (RX10, TX10, 6), (RX11, TX11, 13), (RX12, TX12, 69)]
end
