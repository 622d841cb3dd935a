/-! THE CLEAR MACHINE, 4: built-ins, calls, the whole run: what cEx finds is what the machine does. -/
theorem cCats_ok {ad : List Nat} : ∀ {r : List cV} {rest : List Value}, eAll (cOk ad) r rest → (rest.map fun v => v.category).sum = cCats r
  | [], _, h => by rw [eAll_nil h]; rfl
  | v :: r, rest, h => by
    obtain ⟨w, rs, rfl, h1, h2⟩ := eAll_cons h
    simp only [List.map_cons, List.sum_cons, cCats]
    rw [cOk_cat h1, cCats_ok h2]
theorem cArgs_ok {ad : List Nat} : ∀ {as : List cV} {vs : List Value} (i : Nat), eAll (cOk ad) as vs → eAll (cLo ad) (cArgs i as) (lv_args i vs)
  | [], _, i, h => by rw [eAll_nil h]; trivial
  | a :: as, _, i, h => by
    obtain ⟨w, vs, rfl, h1, h2⟩ := eAll_cons h
    refine ⟨⟨rfl, h1⟩, ?_⟩
    have e := cOk_cat h1
    have e2 : (cond (Nat.beq (cCat a) 2) (i + 2) (i + 1)) = (if w.category = 2 then i + 2 else i + 1) := by
      rw [e]
      by_cases hc : cCat a = 2
      · rw [if_pos hc, hc]; rfl
      · rw [if_neg hc]
        cases hb : Nat.beq (cCat a) 2 with
        | true => exact absurd (Nat.eq_of_beq_eq_true hb) hc
        | false => rfl
    show eAll (cLo ad) (cArgs (cond (Nat.beq (cCat a) 2) (i + 2) (i + 1)) as) _
    rw [e2]
    exact cArgs_ok _ h2
theorem cSl_ok {ad : List Nat} : ∀ {as : List cV} {vs : List Value}, eAll (cOk ad) as vs → (lg_sl vs).length = cCats as
  | [], _, h => by rw [eAll_nil h]; rfl
  | a :: as, _, h => by
    obtain ⟨w, vs, rfl, h1, h2⟩ := eAll_cons h
    have e := cOk_cat h1
    have ih := cSl_ok h2
    unfold lg_sl at ih ⊢
    rw [List.flatMap_cons, List.length_append, ih, e]
    show _ = cCat a + cCats as
    congr 1
    match a with
    | .inl _ => rfl
    | .inr (.inl _) => rfl
    | .inr (.inr none) => rfl
    | .inr (.inr (some _)) => rfl
section CBO
variable {p : Program} {l0 : Launch} {e : Env} {R : Room} {s : State} {m : MethodId} {args : Array Value} {below : List Frame} {meth : Method} {c : Code} {Q : State → Prop}
variable {cc : ByteArray} {own : String} {Ts : List Cond} {cl : List vw_C} {D : va_G} {A : Nat → Prop} {H0 : Heap} {ad : List Nat} {nL : Nat}
theorem cBlt_ok (hx : p.tables.exec = Jvm.exec) (hb : c.code = cc) (hown : s.vm.findClass own = some m.cls) (hts : ∀ w ∈ Ts, w.before args s = true) (hml : c.maxLocals = nL) (hR1 : 1 ≤ R.frames) (hR2 : 128 ≤ R.locals)
    {idx kd pc cs sl : Nat} {l : cL} {st st' : List cV} {h h' : cH} (hcs : cs ≤ R.cells) (hsl : sl ≤ R.slots) (hdS : kd ≠ 6 → decode cc pc = .ok (.invokestatic idx, 3)) (hlk : eLb Ts own idx kd)
    (hst : cBlt kd h st = some (st', h'))
    (K : ∀ (H : Heap) (locs : List Loc) (ws : va_W) (tys : List (ClassId × FieldType)) (ls : Array Slot) (lv : List (Nat × Value)) (stk : List Value), cCn D cl A H0 s nL ad (pc + 3, l, st', h') H locs ws tys ls lv stk → W p l0 e R s m args below meth c H locs cs sl Q (F0 m (pc + 3) ls stk)) :
    ∀ (H : Heap) (locs : List Loc) (ws : va_W) (tys : List (ClassId × FieldType)) (ls : Array Slot) (lv : List (Nat × Value)) (stk : List Value), cCn D cl A H0 s nL ad (pc, l, st, h) H locs ws tys ls lv stk → W p l0 e R s m args below meth c H locs cs sl Q (F0 m pc ls stk) := by
  intro H locs ws tys ls lv stk hc
  obtain ⟨hK, hP, hD, hS, hpre, hh, hl, hlv, hsk⟩ := hc
  have hsz : ls.size = c.maxLocals := by rw [hml]; exact hl.1
  unfold cBlt at hst
  split at hst
  · rename_i y x r
    obtain ⟨hn, hg⟩ := eCond hst
    cases hg
    have hn := Nat.le_of_ble_eq_true hn
    obtain ⟨w, stk, rfl, hw, hsk1⟩ := eAll_cons hsk
    cases hw
    obtain ⟨w, stk, rfl, hw, hr⟩ := eAll_cons hsk1
    cases hw
    have hcat := cCats_ok hr
    exact va_mmin hx hb hsz.symm hown (hts _ hlk.1) (hts _ hlk.2.1) (hts _ hlk.2.2.1) (hts _ hlk.2.2.2) hR1 (by rw [hcat]; omega) hcs hsl (hdS (by decide)) (K _ _ _ _ _ _ _ ⟨hK, hP, hD, hS, hpre, hh, hl, hlv, rfl, hr⟩)
  · rename_i y x r
    obtain ⟨hn, hg⟩ := eCond hst
    cases hg
    have hn := Nat.le_of_ble_eq_true hn
    obtain ⟨w, stk, rfl, hw, hsk1⟩ := eAll_cons hsk
    cases hw
    obtain ⟨w, stk, rfl, hw, hr⟩ := eAll_cons hsk1
    cases hw
    have hcat := cCats_ok hr
    exact va_mmax hx hb hsz.symm hown (hts _ hlk.1) (hts _ hlk.2.1) (hts _ hlk.2.2.1) (hts _ hlk.2.2.2) hR1 (by rw [hcat]; omega) hcs hsl (hdS (by decide)) (K _ _ _ _ _ _ _ ⟨hK, hP, hD, hS, hpre, hh, hl, hlv, rfl, hr⟩)
  · rename_i n dp k1 sp k0 r
    obtain ⟨hn, hg⟩ := eCond hst
    clear hst
    have hn := Nat.le_of_ble_eq_true hn
    split at hg
    · rename_i h2 hcp
      cases hg
      unfold cCpy at hcp
      split at hcp
      · rename_i q0 q1 ho0 ho1
        obtain ⟨hcc, hg2⟩ := eCond hcp
        clear hcp
        simp only [Bool.and_eq_true] at hcc
        obtain ⟨⟨⟨c1, c2⟩, c3⟩, c4⟩ := hcc
        have e0 := Nat.eq_of_beq_eq_true c1
        have e1 := Nat.eq_of_beq_eq_true c2
        have c4 := of_decide_eq_true c4
        obtain ⟨p1, p2, p3, p4, p5⟩ := c4
        obtain ⟨⟨a0, x0⟩, w1, cA0, s0, ht0, hN0, hM0, hr0⟩ := eAll_get hh ho0
        obtain ⟨⟨a1, x1⟩, w2, cA1, s1, ht1, hN1, hM1, hr1⟩ := eAll_get hh ho1
        have hr0 : x0 = .inl (cA0, q0.2.1, .inl q0.2.2) := hr0
        have hr1 : x1 = .inl (cA1, q1.2.1, .inl q1.2.2) := hr1
        subst hr0
        subst hr1
        rw [e0] at ht0
        rw [e1] at ht1
        cases hg2
        obtain ⟨w, stk, rfl, hw, hsk1⟩ := eAll_cons hsk
        cases hw
        obtain ⟨w, stk, rfl, hw, hsk2⟩ := eAll_cons hsk1
        cases hw
        obtain ⟨w, stk, rfl, ⟨y1, hy1, rfl⟩, hsk3⟩ := eAll_cons hsk2
        obtain ⟨w, stk, rfl, hw, hsk4⟩ := eAll_cons hsk3
        cases hw
        obtain ⟨w, stk, rfl, ⟨y2, hy2, rfl⟩, hsk5⟩ := eAll_cons hsk4
        have hcat := cCats_ok hsk5
        have e4 := cAd hpre w2 hy1
        have e5 := cAd hpre w1 hy2
        subst e4
        subst e5
        have neg : ∀ z : Int32, 0 ≤ z.toInt → ¬ z < 0 := fun z hz q => by have := Int32.lt_iff_toInt_lt.mp q; have e : (0 : Int32).toInt = 0 := rfl; omega
        have cl0 : ∀ z : Int32, 0 ≤ z.toInt → (z.toNatClampNeg : Int) = z.toInt := fun z hz => by rw [Int32.toNatClampNeg]; exact Int.toNat_of_nonneg hz
        have g5 : sp.toNatClampNeg + n.toNatClampNeg ≤ q0.2.1 := by have := cl0 sp p3; have := cl0 n p1; omega
        have g6 : dp.toNatClampNeg + n.toNatClampNeg ≤ q1.2.1 := by have := cl0 dp p2; have := cl0 n p1; omega
        exact va_copyi hx hb hsz.symm hown (hts _ hlk.1) (hts _ hlk.2.1) (hts _ hlk.2.2.1) (hts _ hlk.2.2.2) hK hP hD hS _ _ s0 s1 w1 w2 ht0 ht1 rfl (neg _ p3) (neg _ p2) (neg _ p1) g5 g6 (fun _ _ => rfl) hR1 (by rw [hcat]; show _ + (7 + 11) ≤ _; omega) (hdS (by decide)) (fun H1 locs1 hP hD hS => K _ _ _ _ _ _ _ (cCn_set hK w2 hP hD hS hpre (eAll_set hh k1 ⟨cA1, s1, by rw [e1]; exact ht1, hN1, hM1, rfl⟩) hl hlv hsk5))
      · cases hcp
    · cases hg
  · cases hst
end CBO
/-! calls -/
def cOv (ad : List Nat) (v : Option cV) (w : Option Value) : Prop := match v, w with
  | none, none => True
  | some v, some w => cOk ad v w
  | _, _ => False
section CCN
variable (Fz : (Nat → Prop) → State → Heap → Prop) (l0 : Launch) (cl : List vw_C) (Ts : List Cond) (nst : List (String × Nat × MethodName × String)) (ms : List eM) (yt : List eY)
def cQ (D : va_G) (ws : va_W) (v : Option cV) (h' : cH) (sz : Nat) : Array Value → State → Outcome → State → Prop := fun _ st oc t =>
  (∃ (w : Option Value) (ws' : va_W) (tys' : List (ClassId × FieldType)), oc = .returned w ∧ cOv (ws.map Prod.fst) v w ∧ ws'.map Prod.fst = ws.map Prod.fst ∧ eAll (cCk (ws.map Prod.fst) tys') h' ws' ∧ va_P D cl ws' t.heap ∧ va_K D cl tys' t ∧ va_D (va_A ws sz) ws') ∧ va_F (va_A ws sz) st t
/-- a call's contract -/
def cCon (d b : Nat) (as : List cV) (h : cH) (v : Option cV) (h' : cH) : Prop := ∀ (M : eM) (Y : eY), ms[b]? = some M → yt[b]? = some Y → ∀ (D : va_G) (ws : va_W) (tys : List (ClassId × FieldType)) (vs : List Value) (sz : Nat), eAll (cCk (ws.map Prod.fst) tys) h ws → eAll (cOk (ws.map Prod.fst)) as vs →
  Met l0 Y.1 (Cond.code Y.1 Y.2.1 M.2.1 Y.2.2 :: Ts) (eRm d M) (ePc Fz cl nst D ws tys vs sz) (cQ cl D ws v h' sz) M.2.2.1 M.2.2.2.1 (va_A ws sz)
def cGl (d y : Nat) (S : cS) (v : Option cV) (h' : cH) : Prop := ∀ (M : eM) (Y : eY), ms[y]? = some M → yt[y]? = some Y → ∀ (p : Program) (e : Env) (R : Room) (s : State) (m : MethodId) (args : Array Value) (below : List Frame) (meth : Method) (c : Code), eCx Ts nst M Y d p R s m args meth c → ∀ (D : va_G) (A : Nat → Prop) (H0 : Heap) (ad : List Nat), (∀ q, H0.size ≤ q → A q) → Fz A s H0 → ∀ Q : State → Prop,
  (∀ f : cS, (∃ en, eAt M.1 f.1 = some en ∧ cRet M en f = some v) → f.2.2.2 = h' → ∀ (H : Heap) (locs : List Loc) (ws : va_W) (tys : List (ClassId × FieldType)) (ls : Array Slot) (lv : List (Nat × Value)) (stk : List Value), cCn D cl A H0 s M.2.1 ad f H locs ws tys ls lv stk → W p l0 e R s m args below meth c H locs 0 0 Q (F0 m f.1 ls stk)) →
  ∀ (H : Heap) (locs : List Loc) (ws : va_W) (tys : List (ClassId × FieldType)) (ls : Array Slot) (lv : List (Nat × Value)) (stk : List Value), cCn D cl A H0 s M.2.1 ad S H locs ws tys ls lv stk → W p l0 e R s m args below meth c H locs 0 0 Q (F0 m S.1 ls stk)
end CCN
section CCL
variable {p : Program} {l0 : Launch} {e : Env} {R : Room} {s : State} {m : MethodId} {args : Array Value} {below : List Frame} {meth : Method} {c : Code} {Q : State → Prop}
variable {Fz : (Nat → Prop) → State → Heap → Prop} {cc : ByteArray} {own : String} {Ts : List Cond} {nst : List (String × Nat × MethodName × String)} {cl : List vw_C} {ms : List eM} {yt : List eY} {D : va_G} {A : Nat → Prop} {H0 : Heap} {ad : List Nat} {nL : Nat}
theorem cBack {H : Heap} {locs : List Loc} {cs sl mc ms pc : Nat} {ls : Array Slot} {st0 rest : List Value} {ws : va_W} {v : Option cV} {h' : cH} {a : Array Value} (hr : va_Run p l0 e R s m args below meth c H locs cs sl mc ms (F0 m pc ls st0) rest (cQ cl D ws v h' H.size a) (va_A ws H.size)) (hS : va_S A H0 H locs) (hA1 : ∀ q, va_A ws H.size q → A q)
    (kk : ∀ (w : Option Value) (ws' : va_W) (tys' : List (ClassId × FieldType)) (H1 : Heap) (locs1 : List Loc), cOv (ws.map Prod.fst) v w → ws'.map Prod.fst = ws.map Prod.fst → eAll (cCk (ws.map Prod.fst) tys') h' ws' → va_P D cl ws' H1 → va_K D cl tys' s → va_D A ws' → va_S A H0 H1 locs1 → W p l0 e R s m args below meth c H1 locs1 (cs + mc) (sl + ms) Q (F0 m (pc + 3) ls (w.toList ++ rest))) : W p l0 e R s m args below meth c H locs cs sl Q (F0 m pc ls st0) := by
  intro T hT X
  obtain ⟨v, st₀, t, T', L, h0, X', hL, e1, e2, ⟨⟨w, ws', tys', hv, hov, hpre', hh', hP', hK', hD'⟩, hz, hk⟩, st⟩ := hr T hT X
  cases hv
  rw [h0] at hz hk
  have hal : s.vm.Alike t.vm := by rw [← e2]; exact X'.warmed.alike
  obtain ⟨t2, a1, b1⟩ := kk v ws' tys' T'.heap (locs ++ L) hov hpre' hh' (by rw [e1]; exact hP') (va_K.moved hal.symm hK') (hD'.weaken (fun k q _ h => hA1 q.1 h))
    ⟨Nat.le_trans hS.1 (by rw [e1]; exact hz), fun q h1 h2 => by rw [e1, hk q (Nat.lt_of_lt_of_le h1 hS.1) (fun z => h2 (hA1 q z))]; exact hS.2.1 q h1 h2, fun q hq => by
      rcases List.mem_append.mp hq with h | h
      · exact hS.2.2 q h
      · exact hA1 _ (hL q h)⟩ T' rfl X'
  exact ⟨t2, st t2 a1, b1⟩
theorem cPopS_ok {st as r : List cV} {np kd : Nat} {stk : List Value} (h : cPop st np kd = some (as, r)) (hk : kd = 1 ∨ kd = 4) (hs : eAll (cOk ad) st stk) : ∃ vs rest : List Value, stk = vs.reverse ++ rest ∧ vs.length = np ∧ eAll (cOk ad) as vs ∧ eAll (cOk ad) r rest := by
  have h2 : cond (Nat.ble np st.length) (some ((st.take np).reverse, st.drop np)) none = some (as, r) := by rcases hk with rfl | rfl <;> exact h
  obtain ⟨h3, h4⟩ := eCond h2
  cases h4
  have h3 := Nat.le_of_ble_eq_true h3
  refine ⟨(stk.take np).reverse, stk.drop np, by simp, ?_, eAll_rev (eAll_take np hs), eAll_drop np hs⟩
  have := eAll_len hs
  simp
  omega
theorem cPopV_ok {st as r : List cV} {np kd : Nat} {stk : List Value} (h : cPop st np kd = some (as, r)) (hk : kd = 0 ∨ kd = 2 ∨ kd = 5) (hs : eAll (cOk ad) st stk) : ∃ (k a : Nat) (as1 : List cV) (vs rest : List Value), as = .inr (.inr (some k)) :: as1 ∧ ad[k]? = some a ∧ stk = vs.reverse ++ .ref a :: rest ∧ vs.length = np ∧ eAll (cOk ad) as1 vs ∧ eAll (cOk ad) r rest := by
  have h2 : (match st[np]? with
    | some (.inr (.inr (some k))) => some (.inr (.inr (some k)) :: (st.take np).reverse, st.drop (np + 1))
    | _ => none) = some (as, r) := by rcases hk with rfl | rfl | rfl <;> exact h
  split at h2
  · rename_i k hk2
    cases h2
    obtain ⟨w, hw, a, ha, rfl⟩ := eAll_get hs hk2
    have hlt := (List.getElem?_eq_some_iff.mp hw).1
    refine ⟨k, a, _, (stk.take np).reverse, stk.drop (np + 1), rfl, ha, ?_, by simp; omega, eAll_rev (eAll_take np hs), eAll_drop (np + 1) hs⟩
    rw [List.reverse_reverse]
    have e1 : stk.drop np = .ref a :: stk.drop (np + 1) := by
      rw [List.drop_eq_getElem_cons hlt]
      congr 1
      have := List.getElem?_eq_getElem hlt
      rw [hw] at this
      exact (Option.some.inj this).symm
    rw [← e1]
    exact (List.take_append_drop np stk).symm
  · cases h2
theorem cCall_ok (hx : p.tables.exec = Jvm.exec) (hb : c.code = cc) (hown : s.vm.findClass own = some m.cls) (hts : ∀ w ∈ Ts, w.before args s = true) (hgood : ∀ w ∈ Ts, (w.onTables && w.keeps) = true ∨ ∃ ty, w = .arrayClass ty) (hml : c.maxLocals = nL) (hXt : eXt nst s) (hF : eFzOk Fz) (hFs : Fz A s H0) (hA : ∀ q, H0.size ≤ q → A q)
    {d b kd d0 pc : Nat} {l : cL} {st as r : List cV} {h h' : cH} {v : Option cV} {N : eM} {Y : eY} (hR1 : d + 1 ≤ R.frames) (hR2 : 128 * (d + 1) ≤ R.locals) (hN : ms[b]? = some N) (hY : yt[b]? = some Y) (hok : eMok cl Ts nst ms yt N Y) (hcon : cCon Fz l0 cl Ts nst ms yt d b as h v h')
    (hkd : eKd cl Ts nst own cc pc kd d0 Y) (hpop : cPop st N.2.2.2.2.2 kd = some (as, r)) (hcr : cCats r ≤ 8) (hmc : N.2.2.1 = 0) (hms : N.2.2.2.1 = 0) (hrcv : cRcv h kd d0 as = true)
    (K : ∀ (H : Heap) (locs : List Loc) (ws : va_W) (tys : List (ClassId × FieldType)) (ls : Array Slot) (lv : List (Nat × Value)) (stk : List Value), cCn D cl A H0 s nL ad (pc + 3, l, v.toList ++ r, h') H locs ws tys ls lv stk → W p l0 e R s m args below meth c H locs 0 0 Q (F0 m (pc + 3) ls stk)) :
    ∀ (H : Heap) (locs : List Loc) (ws : va_W) (tys : List (ClassId × FieldType)) (ls : Array Slot) (lv : List (Nat × Value)) (stk : List Value), cCn D cl A H0 s nL ad (pc, l, st, h) H locs ws tys ls lv stk → W p l0 e R s m args below meth c H locs 0 0 Q (F0 m pc ls stk) := by
  intro H locs ws tys ls lv stk hc
  obtain ⟨hK, hP, hD, hS, hpre, hh, hl, hlv, hsk⟩ := hc
  subst hpre
  obtain ⟨-, hcode, hini, -, hdd, hnl, -⟩ := hok
  have hG : GoodIn Ts (Cond.code Y.1 Y.2.1 N.2.1 Y.2.2 :: Ts) := fun w hw => by
    rcases List.mem_cons.mp hw with rfl | hw
    · exact ⟨hcode, hgood _ hcode⟩
    · exact ⟨hw, hgood _ hw⟩
  have hroom : (eRm d N).frames + 1 ≤ R.frames ∧ 8 + (N.2.1 + 11) + (eRm d N).locals ≤ R.locals := ⟨hR1, by show 8 + (N.2.1 + 11) + 128 * d ≤ _; omega⟩
  have hA1 : ∀ q, va_A ws H.size q → A q := by
    intro q hq
    rcases hq with ⟨k, e9, hk⟩ | hq
    · exact hD.2 k (q, e9) hk
    · exact hA q (Nat.le_trans hS.1 hq)
  have hmc0 : 0 + N.2.2.1 ≤ R.cells ∧ 0 + N.2.2.2.1 ≤ R.slots := by rw [hmc, hms]; exact ⟨Nat.zero_le _, Nat.zero_le _⟩
  have hPre : ∀ (vs : List Value) (U : State), U.heap = H → s.WarmedH U.vm → ePc Fz cl nst D ws tys vs H.size vs.toArray U := fun vs U hU hW => ⟨rfl, by rw [hU], by rw [hU]; exact hP, va_K.moved hW.alike hK, hD.weaken (fun _ _ _ _ => trivial), hXt.warm hW, by rw [hU]; exact hF.1 A _ s U H0 H hFs hW hS.2.1 hA1⟩
  have fin : ∀ (rest : List Value) (a : Array Value), eAll (cOk (ws.map Prod.fst)) r rest → va_Run p l0 e R s m args below meth c H locs 0 0 N.2.2.1 N.2.2.2.1 (F0 m pc ls stk) rest (cQ cl D ws v h' H.size a) (va_A ws H.size) → W p l0 e R s m args below meth c H locs 0 0 Q (F0 m pc ls stk) := by
    intro rest a hr hrun
    refine cBack hrun hS hA1 (fun w ws' tys' H1 locs1 hov hpre' hh' hP' hK' hD' hS' => ?_)
    rw [hmc, hms]
    refine K _ _ ws' tys' ls lv _ ⟨hK', hP', hD', hS', hpre', hh', hl, hlv, ?_⟩
    show eAll _ (v.toList ++ r) _
    cases h1 : v with
    | none =>
      rw [h1] at hov
      cases w with
      | none => exact hr
      | some w => exact hov.elim
    | some v =>
      rw [h1] at hov
      cases w with
      | none => exact hov.elim
      | some w => exact ⟨hov, hr⟩
  have hcat : ∀ rest : List Value, eAll (cOk (ws.map Prod.fst)) r rest → 2 * (F0 m pc ls stk).monitorRoom + (rest.map fun v => v.category).sum ≤ 8 := fun rest hr => by
    rw [cCats_ok hr]
    show 2 * 0 + _ ≤ 8
    omega
  rcases hkd with ⟨rfl, idx, T, NN, hdg, w1, w2, w3, hcl⟩ | ⟨rfl, idx, hdg, w1, w2⟩ | ⟨rfl, idx, host, hdg, w1, w2⟩ | ⟨rfl, idx, hdg, w1, w2, w3, w4⟩ | ⟨rfl, idx, host, hdg, w1, w2, w3, w4⟩
  · obtain ⟨k, a, as1, vs, rest, rfl, ha, hstk, hlen, has, hr⟩ := cPopV_ok hpop (Or.inl rfl) hsk
    have hM := hcon N Y hN hY D ws tys (.ref a :: vs) H.size hh ⟨⟨a, ha, rfl⟩, has⟩
    unfold cRcv at hrcv
    simp only at hrcv
    split at hrcv
    · rename_i o ho
      have e0 := Nat.eq_of_beq_eq_true hrcv
      obtain ⟨⟨q, e9⟩, he, fs, hf, -⟩ := eAll_get hh ho
      have hf : e9 = .inr (o.1, fs) := hf
      subst hf
      have e1 := eAd_at he ha
      subst e1
      rw [e0] at he
      exact fin rest _ hr (va_runV (As := vs) (rest := rest) ⟨hx, hb, hml, hown, hts⟩ hM ⟨callB_of _ hts hG rfl rfl rfl (hts _ hini) (hts _ w1) hdd hroom, hts _ w2, hts _ w3⟩ ⟨ePc_blind hF, va_recv hK hP hcl he, hPre _⟩ rfl hlen hl.1 hstk (hcat rest hr) hdg hmc0)
    · cases hrcv
  · obtain ⟨vs, rest, hstk, hlen, has, hr⟩ := cPopS_ok hpop (Or.inl rfl) hsk
    have hM := hcon N Y hN hY D ws tys vs H.size hh has
    exact fin rest _ hr (va_runS (As := vs) (rest := rest) ⟨hx, hb, hml, hown, hts⟩ hM ⟨callB_of _ hts hG rfl rfl rfl (hts _ hini) (hts _ w1) hdd hroom, hts _ w2⟩ ⟨ePc_blind hF, hPre _⟩ rfl hlen hl.1 hstk (hcat rest hr) hdg hmc0)
  · obtain ⟨vs, rest, hstk, hlen, has, hr⟩ := cPopS_ok hpop (Or.inr rfl) hsk
    have hM := hcon N Y hN hY D ws tys vs H.size hh has
    exact fin rest _ hr (va_runSN (As := vs) (rest := rest) ⟨hx, hb, hml, hown, hts⟩ hM ⟨va_cnB _ hts hG rfl rfl rfl (hXt.1 _ w1) (hts _ hini) hdd hroom, hts _ w2, trivial⟩ ⟨ePc_blind hF, hPre _⟩ rfl hlen hl.1 hstk (hcat rest hr) hdg hmc0)
  · obtain ⟨k, a, as1, vs, rest, rfl, ha, hstk, hlen, has, hr⟩ := cPopV_ok hpop (Or.inr (Or.inl rfl)) hsk
    have hM := hcon N Y hN hY D ws tys (.ref a :: vs) H.size hh ⟨⟨a, ha, rfl⟩, has⟩
    rw [w3] at hM hG
    exact fin rest _ hr (va_runI (As := vs) (rest := rest) ⟨hx, hb, hml, hown, hts⟩ hM ⟨callB_of _ hts hG rfl rfl rfl (hts _ hini) (hts _ w1) hdd hroom, w2, hts _ w4⟩ ⟨ePc_blind hF, hPre _⟩ rfl hlen hl.1 hstk (hcat rest hr) hdg hmc0)
  · obtain ⟨k, a, as1, vs, rest, rfl, ha, hstk, hlen, has, hr⟩ := cPopV_ok hpop (Or.inr (Or.inr rfl)) hsk
    have hM := hcon N Y hN hY D ws tys (.ref a :: vs) H.size hh ⟨⟨a, ha, rfl⟩, has⟩
    rw [w3] at hM hG
    exact fin rest _ hr (va_runIN (As := vs) (rest := rest) ⟨hx, hb, hml, hown, hts⟩ hM ⟨va_cnB _ hts hG rfl rfl rfl (hXt.1 _ w1) (hts _ hini) hdd hroom, w2, hts _ w4⟩ ⟨ePc_blind hF, hPre _⟩ rfl hlen hl.1 hstk (hcat rest hr) hdg hmc0)
end CCL
section CMN
variable {Fz : (Nat → Prop) → State → Heap → Prop} {l0 : Launch} {cl : List vw_C} {Ts : List Cond} {nst : List (String × Nat × MethodName × String)} {dfs : List (List eV)} {ms : List eM} {yt : List eY}
/-- a run from a method's first instruction to its end is a contract -/
theorem cCon_of (hT : eAll (eMok cl Ts nst ms yt) ms yt) {d b : Nat} {as : List cV} {h h' : cH} {v : Option cV} {N : eM} (hN : ms[b]? = some N) (hca : cCats as ≤ N.2.1) (hg : cGl Fz l0 cl Ts nst ms yt d b (0, cArgs 0 as, [], h) v h') : cCon Fz l0 cl Ts nst ms yt d b as h v h' := by
  intro M Y hM hY D ws tys vs sz hh has
  have eM := Option.some.inj (hN.symm.trans hM)
  subst eM
  obtain ⟨Y', hY', hok⟩ := eAll_get hT hN
  have eY' := Option.some.inj (hY'.symm.trans hY)
  subst eY'
  refine Met.ofW (cc := Y'.2.1) (maxL := N.2.1) (ret := Y'.2.2) hok.2.2.2.1 rfl ?_
  intro p e s m args below meth c s₁ B hml hv
  obtain ⟨rfl, hsz, hP, hK, hD0, hXt, hFz⟩ := hv
  have hts := atoms_spec (ws := Cond.code Y'.1 Y'.2.1 N.2.1 Y'.2.2 :: Ts) B.pre
  have hlocks := B.notSynchronized
  have hD := hD0.self (sz := s.heap.size)
  have hl := lv_entry vs (n := N.2.1) (by rw [cSl_ok has]; exact hca)
  rw [lg_entry_eq]
  generalize (lg_sl vs ++ List.replicate (N.2.1 - (lg_sl vs).length) Slot.unset).toArray = ls at hl ⊢
  subst hsz
  have hcx : eCx Ts nst N Y' d p (eRm d N) s m vs.toArray meth c := ⟨B.exec, B.bytes, findClass_of_methodNamed B.named, fun w hw => hts w (List.mem_cons_of_mem _ hw), hml, fun hi => by rw [(name_of_methodNamed B.named B.method).1]; exact eq_of_beq hi, hXt, Nat.le_refl _, Nat.le_refl _, rfl, rfl⟩
  refine hg N Y' hN hY p e (eRm d N) s m vs.toArray below meth c hcx D (va_A ws s.heap.size) s.heap (ws.map Prod.fst) (fun q hq => Or.inr hq) hFz _ ?_ s.heap [] ws tys ls (lv_args 0 vs) [] ⟨hK, hP, hD, va_S.rf, rfl, hh, hl, cArgs_ok 0 has, trivial⟩
  intro f hf hfh H locs ws' tys' ls' lv' stk' hc
  obtain ⟨hK', hP', hD', hS', hpre', hh', hl', hlv', hsk'⟩ := hc
  obtain ⟨en, hen, hr⟩ := hf
  rw [hfh] at hh'
  refine W.widen (k := N.2.2.1) (n := N.2.2.2.1) (Nat.zero_le _) (Nat.zero_le _) ?_
  have hq : ∀ (w : Option Value) (t : State), cOv (ws.map Prod.fst) v w → t.heap = H → s.WarmedH t.vm → cQ cl D ws v h' s.heap.size vs.toArray s (.returned w) t := fun w t hov ht hW => ⟨⟨w, ws', tys', rfl, hov, hpre', hh', by rw [ht]; exact hP', va_K.moved hW.alike hK', hD'⟩, hS'.F ht⟩
  have hfr : ∀ q ∈ locs, va_A ws s.heap.size q.base := hS'.2.2
  obtain ⟨hpc, hmem2⟩ := eAt_ok hen
  have hdec := (hok.1 en hmem2).1
  have hrt := hok.2.2.2.2.2.2
  have hst : ∀ x, f.2.2.1 = x → eAll (cOk (ws.map Prod.fst)) x stk' := fun x hx => hx ▸ hsk'
  unfold cRet at hr
  split at hr
  · rename_i h1 h2 h3
    cases hr
    have e1 := eAll_nil (hst _ h3)
    subst e1
    rw [h2] at hdec
    rw [h1] at hrt
    have hdec := hdec (by simp [eLen])
    rw [hpc] at hdec
    exact W.vret B.exec B.bytes (by rw [B.returns]; exact hrt) (fun t ht hW => hq none t trivial ht hW) hfr hdec
  · rename_i q h1 h2 h3
    cases hr
    obtain ⟨w, r, rfl, hw, hn⟩ := eAll_cons (hst _ h3)
    cases hw
    have e1 := eAll_nil hn
    subst e1
    rw [h2] at hdec
    rw [h1] at hrt
    have hdec := hdec (by simp [eLen])
    rw [hpc] at hdec
    exact W.iret B.exec B.bytes (by rw [B.returns]; exact hrt) (fun t ht hW => hq (some (.int q)) t rfl ht hW) hfr hdec
  · rename_i q h1 h2 h3
    obtain ⟨hbo, hr3⟩ := eCond hr
    cases hr3
    obtain ⟨w, r, rfl, hw, hn⟩ := eAll_cons (hst _ h3)
    cases hw
    have e1 := eAll_nil hn
    subst e1
    rw [h2] at hdec
    rw [h1] at hrt
    have hdec := hdec (by simp [eLen])
    rw [hpc] at hdec
    have hx01 := cB1_ok hbo
    exact W.zret B.exec B.bytes (by rw [B.returns]; exact hrt) (by rcases hx01 with rfl | rfl <;> decide) (fun t ht hW => hq (some (.int q)) t rfl ht hW) hfr hdec
  · rename_i u h1 h2 h3
    cases hr
    obtain ⟨w, r, rfl, hw, hn⟩ := eAll_cons (hst _ h3)
    cases hw
    have e1 := eAll_nil hn
    subst e1
    rw [h2] at hdec
    rw [h1] at hrt
    have hdec := hdec (by simp [eLen])
    rw [hpc] at hdec
    exact W.lret B.exec B.bytes (by rw [B.returns]; exact hrt) (fun t ht hW => hq (some (.long u)) t rfl ht hW) hfr hdec
  · rename_i k h1 h2 h3
    cases hr
    obtain ⟨w, r, rfl, ⟨x, hxa, rfl⟩, hn⟩ := eAll_cons (hst _ h3)
    have e1 := eAll_nil hn
    subst e1
    rw [h2] at hdec
    rw [h1] at hrt
    have hdec := hdec (by simp [eLen])
    rw [hpc] at hdec
    obtain ⟨rt, hrt1, hrt2⟩ := hrt
    exact W.aret B.exec B.bytes (by rw [B.returns]; exact hrt1) hrt2 (Or.inr ⟨x, rfl⟩) (fun t ht hW => hq (some (.ref x)) t ⟨x, hxa, rfl⟩ ht hW) hfr hdec
  · cases hr
theorem cInv_ok (hF : eFzOk Fz) (hT : eAll (eMok cl Ts nst ms yt) ms yt) (hgood : ∀ w ∈ Ts, (w.onTables && w.keeps) = true ∨ ∃ ty, w = .arrayClass ty)
    {X : Nat → Nat → cS → Option (Option cV × cH)} (ih : ∀ (d y : Nat) (S : cS) (r : Option cV × cH), X d y S = some r → cGl Fz l0 cl Ts nst ms yt d y S r.1 r.2) {d y : Nat} {S : cS} {r : Option cV × cH} {kd b d0 : Nat} {M : eM} (hM : ms[y]? = some M) (h : cInv ms X d y S kd b d0 = some r)
    (hlk : ∀ Y, yt[y]? = some Y → (6 ≤ kd → ∃ idx, eLb Ts Y.1.cls idx kd ∧ (kd = 6 → decode Y.2.1 S.1 = .ok (.invokespecial idx, 3)) ∧ (kd ≠ 6 → decode Y.2.1 S.1 = .ok (.invokestatic idx, 3))) ∧ (kd < 6 → ∃ (N : eM) (Z : eY), ms[b]? = some N ∧ yt[b]? = some Z ∧ eKd cl Ts nst Y.1.cls Y.2.1 S.1 kd d0 Z)) : cGl Fz l0 cl Ts nst ms yt d y S r.1 r.2 := by
  intro M' Y hM' hY p e R s m args below meth c hcx D A H0 ad hA hFs Q K H locs ws tys ls lv stk hc
  have e0 := Option.some.inj (hM.symm.trans hM')
  subst e0
  obtain ⟨hx, hb, hown, hts, hml, hin, hXt, hR1, hR2, hRc, hRs⟩ := id hcx
  obtain ⟨pc, l, st, hp⟩ := S
  unfold cInv at h
  cases d with
  | zero => cases h
  | succ d' =>
    simp only at h
    cases hk : Nat.ble 6 kd with
    | true =>
      rw [hk] at h
      simp only [cond_true] at h
      obtain ⟨idx, g1, g2, g3⟩ := (hlk Y hY).1 (Nat.le_of_ble_eq_true hk)
      split at h
      · rename_i q hbl
        refine cBlt_ok (l := l) hx hb hown hts hml (by omega) (by omega) (Nat.zero_le _) (Nat.zero_le _) g3 g1 hbl ?_ H locs ws tys ls lv stk hc
        exact ih _ _ _ _ h M Y hM hY p e R s m args below meth c hcx D A H0 ad hA hFs Q K
      · cases h
    | false =>
      rw [hk] at h
      simp only [cond_false] at h
      have hlt : kd < 6 := by
        rcases Nat.lt_or_ge kd 6 with q | q
        · exact q
        · rw [Nat.ble_eq_true_of_le q] at hk; cases hk
      obtain ⟨N, Z, hN, hZ, hkd⟩ := (hlk Y hY).2 hlt
      rw [hN] at h
      simp only at h
      split at h
      · cases h
      · rename_i q hpop
        obtain ⟨hn, hg⟩ := eCond h
        clear h
        simp only [Bool.and_eq_true] at hn
        obtain ⟨⟨⟨⟨n1, n2⟩, n3⟩, n4⟩, n5⟩ := hn
        split at hg
        · cases hg
        · rename_i o ho
          obtain ⟨Z', hZ', hok⟩ := eAll_get hT hN
          have e1 := Option.some.inj (hZ'.symm.trans hZ)
          subst e1
          have hcon : cCon Fz l0 cl Ts nst ms yt d' b q.1 hp o.1 o.2 := cCon_of hT hN (Nat.le_of_ble_eq_true n4) (ih _ _ _ _ ho)
          refine cCall_ok (l := l) hx hb hown hts hgood hml hXt hF hFs hA hR1 hR2 hN hZ hok hcon hkd hpop (Nat.le_of_ble_eq_true n1) (Nat.eq_of_beq_eq_true n2) (Nat.eq_of_beq_eq_true n3) n5 ?_ H locs ws tys ls lv stk hc
          exact ih _ _ _ _ hg M Y hM hY p e R s m args below meth c hcx D A H0 ad hA hFs Q K
theorem cEx_ok (hF : eFzOk Fz) (hT : eAll (eMok cl Ts nst ms yt) ms yt) (hgood : ∀ w ∈ Ts, (w.onTables && w.keeps) = true ∨ ∃ ty, w = .arrayClass ty) (hcl : eKl cl Ts dfs) : ∀ (n d y : Nat) (S : cS) (r : Option cV × cH), cEx ms n d y S = some r → cGl Fz l0 cl Ts nst ms yt d y S r.1 r.2 := by
  intro n
  induction n with
  | zero => intro d y S r h; cases h
  | succ n ih =>
    intro d y S r h
    have h : cBody ms (cEx ms n) d y S = some r := h
    unfold cBody at h
    split at h
    · cases h
    · rename_i M hM
      obtain ⟨Y, hY, hok⟩ := eAll_get hT hM
      split at h
      · cases h
      · rename_i en hen
        obtain ⟨hpc, hmem⟩ := eAt_ok hen
        obtain ⟨hd, hd0, hlk, hli⟩ := hok.1 en hmem
        rw [hpc] at hd hd0 hlk
        split at h
        · rename_i v hv
          cases h
          intro M' Y' hM' hY' p e R s m args below meth c hcx D A H0 ad hA hFs Q K
          have e0 := Option.some.inj (hM.symm.trans hM')
          subst e0
          exact K S ⟨en, hen, hv⟩ rfl
        · rename_i hv
          cases hc : cIsC en.2.1 with
          | true =>
            rw [hc] at h
            simp only [cond_true] at h
            refine cInv_ok hF hT hgood ih hM h (fun Y' hY' => ?_)
            have e1 := Option.some.inj (hY.symm.trans hY')
            subst e1
            unfold cIsC at hc
            split at hc
            · rename_i idx hi
              rw [hi] at hd hli
              have hd := hd (by simp [eLen])
              obtain ⟨ha, N, Z, w1, w2, w3, w4, w5, T, NN, w6⟩ := hli
              refine ⟨fun q => by omega, fun _ => ⟨N, Z, w1, w2, Or.inl ⟨ha, idx, T, NN, hd, w3, w4, w5, w6⟩⟩⟩
            · rename_i idx hi
              rw [hi] at hd hli
              have hd := hd (by simp [eLen])
              rcases hli with ⟨ha, hb⟩ | ⟨ha, N, Z, w1, w2, w3, w4⟩
              · exact ⟨fun _ => ⟨idx, hb, fun q => by omega, fun _ => hd⟩, fun q => by omega⟩
              · refine ⟨fun q => by omega, fun _ => ⟨N, Z, w1, w2, ?_⟩⟩
                rcases w4 with ⟨w4, w5⟩ | ⟨w4, host, w5⟩
                · exact Or.inr (Or.inl ⟨w4, idx, hd, w5, w3⟩)
                · exact Or.inr (Or.inr (Or.inl ⟨w4, idx, host, hd, w5, w3⟩))
            · rename_i idx hi
              rw [hi] at hd hli
              have hd := hd (by simp [eLen])
              rcases hli with ⟨ha, hb⟩ | ⟨ha, N, Z, w1, w2, w3, w4, w5, w6⟩
              · exact ⟨fun _ => ⟨idx, hb, fun _ => hd, fun q => absurd ha q⟩, fun q => by omega⟩
              · refine ⟨fun q => by omega, fun _ => ⟨N, Z, w1, w2, ?_⟩⟩
                rcases w6 with ⟨w6, w7⟩ | ⟨w6, host, w7⟩
                · exact Or.inr (Or.inr (Or.inr (Or.inl ⟨w6, idx, hd, w7, w3, w4, w5⟩)))
                · exact Or.inr (Or.inr (Or.inr (Or.inr ⟨w6, idx, host, hd, w7, w3, w4, w5⟩)))
            · cases hc
          | false =>
            rw [hc] at h
            simp only [cond_false] at h
            split at h
            · rename_i S' hst
              intro M' Y' hM' hY' p e R s m args below meth c hcx D A H0 ad hA hFs Q K H locs ws tys ls lv stk hcn
              have e0 := Option.some.inj (hM.symm.trans hM')
              subst e0
              have e1 := Option.some.inj (hY.symm.trans hY')
              subst e1
              obtain ⟨hx, hb, hown, hts, hml, hin, hXt, hR1, hR2, hRc, hRs⟩ := id hcx
              refine cStep_ok hx hb hown hts hcl hin hd hd0 hlk hst ?_ H locs ws tys ls lv stk hcn
              exact ih _ _ _ _ h M Y hM hY p e R s m args below meth c hcx D A H0 ad hA hFs Q K
            · cases h
theorem cRun_con (hF : eFzOk Fz) (hT : eAll (eMok cl Ts nst ms yt) ms yt) (hgood : ∀ w ∈ Ts, (w.onTables && w.keeps) = true ∨ ∃ ty, w = .arrayClass ty) (hcl : eKl cl Ts dfs) {d b : Nat} {as : List cV} {h h' : cH} {v : Option cV} {N : eM} (hN : ms[b]? = some N) (hca : cCats as ≤ N.2.1) (hr : cRun ms d b (0, cArgs 0 as, [], h) v h') : cCon Fz l0 cl Ts nst ms yt d b as h v h' := by
  obtain ⟨n, hn⟩ := hr
  exact cCon_of hT hN hca (cEx_ok hF hT hgood hcl n d b _ _ hn)
end CMN
