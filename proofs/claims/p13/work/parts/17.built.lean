section
/-! THE ENGINE, 6: Object's start, Math.min and max, arraycopy; rows of rows. -/
theorem eMin_or (a b : Int) : eMin a b = a ∨ eMin a b = b := by
  unfold eMin
  cases eLe a b with
  | true => exact Or.inl rfl
  | false => exact Or.inr rfl
theorem eMax_or (a b : Int) : eMax a b = a ∨ eMax a b = b := by
  unfold eMax
  cases eLe a b with
  | true => exact Or.inr rfl
  | false => exact Or.inl rfl
theorem eMn_ok {sr : List (Int × Int)} {σ : Nat → Int} (hs : eSg sr σ) {a b : eI} {x y : Int32} (ha : eIn σ a x) (hb : eIn σ b y) : eIn σ (eMn sr a b) (if y < x then y else x) := by
  have ra := eRg_ok hs ha
  have rb := eRg_ok hs hb
  have h0 := hs.1
  have m1 := eMin_ok (eRg sr a).1 (eRg sr b).1
  have m2 := eMin_or (eRg sr a).2 (eRg sr b).2
  by_cases hc : y < x
  · have hq := Int32.lt_iff_toInt_lt.mp hc
    rw [if_pos hc]
    exact eIn_mk (by rw [h0]; omega) (by rw [h0]; omega)
  · have hq : ¬ y.toInt < x.toInt := fun q => hc (Int32.lt_iff_toInt_lt.mpr q)
    rw [if_neg hc]
    exact eIn_mk (by rw [h0]; omega) (by rw [h0]; omega)
theorem eMx_ok {sr : List (Int × Int)} {σ : Nat → Int} (hs : eSg sr σ) {a b : eI} {x y : Int32} (ha : eIn σ a x) (hb : eIn σ b y) : eIn σ (eMx sr a b) (if x < y then y else x) := by
  have ra := eRg_ok hs ha
  have rb := eRg_ok hs hb
  have h0 := hs.1
  have m1 := eMax_or (eRg sr a).1 (eRg sr b).1
  have m2 := eMax_ok (eRg sr a).2 (eRg sr b).2
  by_cases hc : x < y
  · have hq := Int32.lt_iff_toInt_lt.mp hc
    rw [if_pos hc]
    exact eIn_mk (by rw [h0]; omega) (by rw [h0]; omega)
  · have hq : ¬ x.toInt < y.toInt := fun q => hc (Int32.lt_iff_toInt_lt.mpr q)
    rw [if_neg hc]
    exact eIn_mk (by rw [h0]; omega) (by rw [h0]; omega)
theorem eCats_ok {ad : List Nat} {σ : Nat → Int} : ∀ {r : List eV} {rest : List Value}, eAll (eOk ad σ) r rest → (rest.map fun v => v.category).sum = eCats r
  | [], _, h => by rw [eAll_nil h]; rfl
  | v :: r, rest, h => by
    obtain ⟨w, rs, rfl, h1, h2⟩ := eAll_cons h
    simp only [List.map_cons, List.sum_cons, eCats]
    rw [eOk_cat h1, eCats_ok h2]
theorem eJoin_ok {sr : List (Int × Int)} {σ : Nat → Int} (hs : eSg sr σ) {ad : List Nat} : ∀ {es : List eV} {q q' : Int × Int}, eJoin sr es q = some q' → q'.1 ≤ q.1 ∧ q.2 ≤ q'.2 ∧ ∀ (j : Nat) (v : eV) (x : Int32), es[j]? = some v → eOk ad σ v (.int x) → q'.1 ≤ x.toInt ∧ x.toInt ≤ q'.2
  | [], q, q', h => by
    cases h
    exact ⟨Int.le_refl _, Int.le_refl _, fun j v x hj => by simp at hj⟩
  | .inl v :: es, q, q', h => by
    obtain ⟨h1, h2, h3⟩ := eJoin_ok hs (ad := ad) (es := es) h
    have m1 := eMin_ok q.1 (eRg sr v).1
    have m2 := eMax_ok q.2 (eRg sr v).2
    have h1 : q'.1 ≤ eMin q.1 (eRg sr v).1 := h1
    have h2 : eMax q.2 (eRg sr v).2 ≤ q'.2 := h2
    refine ⟨by omega, by omega, fun j v' x hj hx => ?_⟩
    cases j with
    | zero =>
      simp at hj
      subst hj
      obtain ⟨z, hz, hq⟩ := hx
      cases hz
      have := eRg_ok hs hq
      exact ⟨by omega, by omega⟩
    | succ j => exact h3 j v' x (by simpa using hj) hx
  | .inr _ :: _, q, q', h => by cases h
theorem eCpL {α : Type} {e0 e1 : List α} {sp dp n n0 n1 : Nat} (l0 : n0 ≤ e0.length) (l1 : n1 ≤ e1.length) (h0 : sp + n ≤ n0) (h1 : dp + n ≤ n1) (j : Nat) : (e1.take dp ++ ((e0.drop sp).take n ++ e1.drop (dp + n)))[j]? = if dp ≤ j ∧ j < dp + n then e0[sp + (j - dp)]? else e1[j]? := by
  have t1 : (e1.take dp).length = dp := by rw [List.length_take]; omega
  have t2 : ((e0.drop sp).take n).length = n := by rw [List.length_take, List.length_drop]; omega
  by_cases c1 : j < dp
  · rw [if_neg (by omega), List.getElem?_append_left (by omega), List.getElem?_take_of_lt c1]
  · rw [List.getElem?_append_right (by omega), t1]
    by_cases c2 : j < dp + n
    · rw [if_pos ⟨by omega, c2⟩, List.getElem?_append_left (by omega), List.getElem?_take_of_lt (by omega), List.getElem?_drop]
    · rw [if_neg (by omega), List.getElem?_append_right (by omega), t2, List.getElem?_drop]
      congr 1
      omega
section EBL
variable {ad : List Nat} {σ : Nat → Int} {tys : List (ClassId × FieldType)} {h h' : eH} {ws : va_W} {sr : List (Int × Int)}
theorem eCt_len {n : Nat} {f : Nat → Int32} {es : List eV} (h : eCt ad σ n f (.inl es)) : n ≤ es.length := by
  cases n with
  | zero => exact Nat.zero_le _
  | succ n =>
    obtain ⟨v, h1, -⟩ := h n (Nat.lt_succ_self n)
    exact (List.getElem?_eq_some_iff.mp h1).1
theorem eCopy_ok (hs : eSg sr σ) {k0 sp k1 dp n : Nat} (hf : eCopy sr h k0 sp k1 dp n = some h') (hh : eAll (eCk ad σ tys) h ws) : ∃ (a0 a1 : Nat) (c0 c1 : ClassId) (t0 t1 n0 n1 : Nat) (f g : Nat → Int32), ws[k0]? = some (a0, .inl (c0, n0, .inl f)) ∧ ws[k1]? = some (a1, .inl (c1, n1, .inl g)) ∧ tys[t0]? = some (c0, .int) ∧ tys[t1]? = some (c1, .int) ∧ sp + n ≤ n0 ∧ dp + n ≤ n1 ∧ eAll (eCk ad σ tys) h' (ws.set k1 (a1, .inl (c1, n1, .inl (va_cpy f g sp dp n)))) := by
  unfold eCopy at hf
  split at hf
  · rename_i t0 n0 c0 t1 n1 c1 ho0 ho1
    obtain ⟨hc, hg⟩ := eCond hf
    clear hf
    simp only [Bool.and_eq_true] at hc
    obtain ⟨⟨⟨⟨hc1, hc2⟩, hc3⟩, hc4⟩, hc5⟩ := hc
    have e0 := Nat.eq_of_beq_eq_true hc1
    have e1 := Nat.eq_of_beq_eq_true hc2
    have b4 := Nat.le_of_ble_eq_true hc4
    have b5 := Nat.le_of_ble_eq_true hc5
    subst e0
    subst e1
    obtain ⟨⟨a0, x0⟩, h1, cA0, s0, ht0, hN0, hr0⟩ := eAll_get hh ho0
    obtain ⟨⟨a1, x1⟩, h2, cA1, s1, ht1, hN1, hr1⟩ := eAll_get hh ho1
    obtain ⟨f, z0, hf0⟩ := eAr_int (Or.inl rfl) hr0
    obtain ⟨g, z1, hg1⟩ := eAr_int (Or.inl rfl) hr1
    have z0 : x0 = .inl (cA0, n0, .inl f) := z0
    have z1 : x1 = .inl (cA1, n1, .inl g) := z1
    subst z0
    subst z1
    refine ⟨a0, a1, cA0, cA1, s0, s1, n0, n1, f, g, h1, h2, ht0, ht1, b4, b5, ?_⟩
    have fin : ∀ c', eCt ad σ n1 (va_cpy f g sp dp n) c' → eAll (eCk ad σ tys) (h.set k1 (.inr (0, n1, c'))) (ws.set k1 (a1, .inl (cA1, n1, .inl (va_cpy f g sp dp n)))) := fun c' hc' => eAll_set hh k1 ⟨cA1, s1, ht1, hN1, eInt_ar (Or.inl rfl) hc'⟩
    split at hg
    · rename_i es0 es1
      cases hg
      refine fin _ (fun j hj => ?_)
      have l0 := eCt_len hf0
      have l1 := eCt_len hg1
      have e := eCpL (e0 := es0) (e1 := es1) l0 l1 b4 b5 j
      by_cases hq : dp ≤ j ∧ j < dp + n
      · obtain ⟨v, g1, g2⟩ := hf0 (sp + (j - dp)) (show sp + (j - dp) < n0 by omega)
        refine ⟨v, by rw [e, if_pos hq]; exact g1, ?_⟩
        rw [show va_cpy f g sp dp n j = f (sp + (j - dp)) from if_pos hq]
        exact g2
      · obtain ⟨v, g1, g2⟩ := hg1 j hj
        refine ⟨v, by rw [e, if_neg hq]; exact g1, ?_⟩
        rw [show va_cpy f g sp dp n j = g j from if_neg hq]
        exact g2
    · rename_i es0 q1
      split at hg
      · rename_i q' hq'
        cases hg
        obtain ⟨j1, j2, j3⟩ := eJoin_ok hs (ad := ad) hq'
        refine fin _ (fun j hj => ?_)
        by_cases hq : dp ≤ j ∧ j < dp + n
        · obtain ⟨v, g1, g2⟩ := hf0 (sp + (j - dp)) (show sp + (j - dp) < n0 by omega)
          rw [show va_cpy f g sp dp n j = f (sp + (j - dp)) from if_pos hq]
          exact j3 _ _ _ g1 g2
        · have := hg1 j hj
          rw [show va_cpy f g sp dp n j = g j from if_neg hq]
          exact ⟨by omega, by omega⟩
      · cases hg
    · rename_i q0 q1
      cases hg
      have m1 := eMin_ok q0.1 q1.1
      have m2 := eMax_ok q0.2 q1.2
      refine fin _ (fun j hj => ?_)
      show eMin q0.1 q1.1 ≤ _ ∧ _ ≤ eMax q0.2 q1.2
      by_cases hq : dp ≤ j ∧ j < dp + n
      · have := hf0 (sp + (j - dp)) (show sp + (j - dp) < n0 by omega)
        rw [show va_cpy f g sp dp n j = f (sp + (j - dp)) from if_pos hq]
        exact ⟨by omega, by omega⟩
      · have := hg1 j hj
        rw [show va_cpy f g sp dp n j = g j from if_neg hq]
        exact ⟨by omega, by omega⟩
    · cases hg
  · cases hf
end EBL
/-- what links a call that the machine has a row for -/
def eLb (Ts : List Cond) (own : String) (idx kd : Nat) : Prop := match kd with
  | 6 => Cond.methodLink own idx Lib.objectInit ∈ Ts ∧ Cond.instanceMethod Lib.objectInit ∈ Ts ∧ Cond.code Lib.objectInit ⟨#[0xb1]⟩ 1 none ∈ Ts
  | 7 => Cond.methodLink own idx Lib.Math.min.name ∈ Ts ∧ Cond.static Lib.Math.min.name ∈ Ts ∧ Cond.initialized "java/lang/Math" ∈ Ts ∧ Cond.code Lib.Math.min.name Lib.Math.min.code 2 (some .int) ∈ Ts
  | 8 => Cond.methodLink own idx Lib.Math.max.name ∈ Ts ∧ Cond.static Lib.Math.max.name ∈ Ts ∧ Cond.initialized "java/lang/Math" ∈ Ts ∧ Cond.code Lib.Math.max.name Lib.Math.max.code 2 (some .int) ∈ Ts
  | 9 => Cond.methodLink own idx arraycopyName ∈ Ts ∧ Cond.native arraycopyName ∈ Ts ∧ Cond.static arraycopyName ∈ Ts ∧ Cond.initialized "java/lang/System" ∈ Ts
  | _ => False
section EBO
variable {p : Program} {l0 : Launch} {e : Env} {R : Room} {s : State} {m : MethodId} {args : Array Value} {below : List Frame} {meth : Method} {c : Code} {Q : State → Prop}
variable {cc : ByteArray} {own : String} {Ts : List Cond} {cl : List vw_C} {sr : List (Int × Int)} {σ : Nat → Int} {D : va_G} {A : Nat → Prop} {H0 : Heap} {ad0 : List Nat} {nL : Nat}
theorem eBlt_ok (hx : p.tables.exec = Jvm.exec) (hb : c.code = cc) (hown : s.vm.findClass own = some m.cls) (hts : ∀ w ∈ Ts, w.before args s = true) (hml : c.maxLocals = nL) (hR1 : 1 ≤ R.frames) (hR2 : 128 ≤ R.locals) (hs : eSg sr σ)
    {idx kd pc cs sl : Nat} {l : eL} {st st' : List eV} {h h' : eH} (hcs : cs ≤ R.cells) (hsl : sl ≤ R.slots) (hd6 : kd = 6 → decode cc pc = .ok (.invokespecial idx, 3)) (hdS : kd ≠ 6 → decode cc pc = .ok (.invokestatic idx, 3)) (hlk : eLb Ts own idx kd)
    (hst : eBlt sr kd h st = some (st', h'))
    (K : ∀ (H : Heap) (locs : List Loc) (ws : va_W) (tys : List (ClassId × FieldType)) (ls : Array Slot) (lv : List (Nat × Value)) (stk : List Value), eCn D cl A H0 s σ nL ad0 (pc + 3, l, st', h', cs, sl) H locs ws tys ls lv stk → W p l0 e R s m args below meth c H locs cs sl Q (F0 m (pc + 3) ls stk)) :
    ∀ (H : Heap) (locs : List Loc) (ws : va_W) (tys : List (ClassId × FieldType)) (ls : Array Slot) (lv : List (Nat × Value)) (stk : List Value), eCn D cl A H0 s σ nL ad0 (pc, l, st, h, cs, sl) H locs ws tys ls lv stk → W p l0 e R s m args below meth c H locs cs sl Q (F0 m pc ls stk) := by
  intro H locs ws tys ls lv stk hc
  obtain ⟨hK, hP, hD, hS, hpre, hh, hl, hlv, hsk⟩ := hc
  have h0 := hs.1
  have hsz : ls.size = c.maxLocals := by rw [hml]; exact hl.1
  unfold eBlt at hst
  split at hst
  · split at hst
    · obtain ⟨hn, hg⟩ := eCond hst
      cases hg
      have hn := Nat.le_of_ble_eq_true hn
      obtain ⟨w, stk, rfl, ⟨x, hxa, rfl⟩, hsk1⟩ := eAll_cons hsk
      have hcat := eCats_ok hsk1
      exact W.objInit hx hb hown (hts _ hlk.1) (hts _ hlk.2.1) (hts _ hlk.2.2) rfl hsz rfl (hd6 rfl) hR1 (by rw [hcat]; show 2 * 0 + _ + 12 ≤ _; omega) (K _ _ _ _ _ _ _ ⟨hK, hP, hD, hS, hpre, hh, hl, hlv, hsk1⟩)
    · cases hst
  · split at hst
    · rename_i x y r hg
      obtain ⟨hn, hg2⟩ := eCond hst
      cases hg2
      have hn := Nat.le_of_ble_eq_true hn
      obtain ⟨u, v, r, rfl, hu, hv, hr⟩ := eTwo_ok hg hsk
      have hcat := eCats_ok hr
      exact va_mmin hx hb hsz.symm hown (hts _ hlk.1) (hts _ hlk.2.1) (hts _ hlk.2.2.1) (hts _ hlk.2.2.2) hR1 (by rw [hcat]; omega) hcs hsl (hdS (by decide)) (K _ _ _ _ _ _ _ ⟨hK, hP, hD, hS, hpre, hh, hl, hlv, ⟨_, rfl, eMn_ok hs hu hv⟩, hr⟩)
    · cases hst
  · split at hst
    · rename_i x y r hg
      obtain ⟨hn, hg2⟩ := eCond hst
      cases hg2
      have hn := Nat.le_of_ble_eq_true hn
      obtain ⟨u, v, r, rfl, hu, hv, hr⟩ := eTwo_ok hg hsk
      have hcat := eCats_ok hr
      exact va_mmax hx hb hsz.symm hown (hts _ hlk.1) (hts _ hlk.2.1) (hts _ hlk.2.2.1) (hts _ hlk.2.2.2) hR1 (by rw [hcat]; omega) hcs hsl (hdS (by decide)) (K _ _ _ _ _ _ _ ⟨hK, hP, hD, hS, hpre, hh, hl, hlv, ⟨_, rfl, eMx_ok hs hu hv⟩, hr⟩)
    · cases hst
  · split at hst
    · obtain ⟨hn, hg⟩ := eCond hst
      clear hst
      have hn := Nat.le_of_ble_eq_true hn
      split at hg
      · rename_i n dp sp hn1 hn2 hn3
        obtain ⟨hn4, hg2⟩ := eCond hg
        clear hg
        split at hg2
        · rename_i h2 hcp
          cases hg2
          simp only [Bool.and_eq_true] at hn4
          obtain ⟨⟨p1, p2⟩, p3⟩ := hn4
          have p1 := eLe_ok p1
          have p2 := eLe_ok p2
          have p3 := eLe_ok p3
          obtain ⟨w, stk, rfl, ⟨x1, rfl, hx1⟩, hsk1⟩ := eAll_cons hsk
          obtain ⟨w, stk, rfl, ⟨x2, rfl, hx2⟩, hsk2⟩ := eAll_cons hsk1
          obtain ⟨w, stk, rfl, ⟨y1, hy1, rfl⟩, hsk3⟩ := eAll_cons hsk2
          obtain ⟨w, stk, rfl, ⟨x3, rfl, hx3⟩, hsk4⟩ := eAll_cons hsk3
          obtain ⟨w, stk, rfl, ⟨y2, hy2, rfl⟩, hsk5⟩ := eAll_cons hsk4
          have e1 := eOne_ok h0 hx1 hn1
          have e2 := eOne_ok h0 hx2 hn2
          have e3 := eOne_ok h0 hx3 hn3
          subst e1
          subst e2
          subst e3
          have hcat := eCats_ok hsk5
          obtain ⟨a0, a1, c0, c1, t0, t1, n0, n1, f, g, g1, g2, g3, g4, g5, g6, hh2⟩ := eCopy_ok hs hcp hh
          have e4 := eAd_at g2 hy1
          have e5 := eAd_at g1 hy2
          subst e4
          subst e5
          have neg : ∀ z : Int32, 0 ≤ z.toInt → ¬ z < 0 := fun z hz q => by have := Int32.lt_iff_toInt_lt.mp q; have e : (0 : Int32).toInt = 0 := rfl; omega
          exact va_copyi hx hb hsz.symm hown (hts _ hlk.1) (hts _ hlk.2.1) (hts _ hlk.2.2.1) (hts _ hlk.2.2.2) hK hP hD hS _ _ t0 t1 g1 g2 g3 g4 rfl (neg _ p3) (neg _ p2) (neg _ p1) g5 g6 (fun _ _ => rfl) hR1 (by rw [hcat]; show _ + (7 + 11) ≤ _; omega) (hdS (by decide)) (fun H1 locs1 hP hD hS => K _ _ _ _ _ _ _ (eCn_set hK g2 hP hD hS hpre hh2 hl hlv hsk5))
        · cases hg2
      · cases hg
    · cases hst
  · cases hst
end EBO
end
section
/-! THE ENGINE, 7: rows of rows. -/
section EMU
variable {p : Program} {l0 : Launch} {e : Env} {R : Room} {s : State} {m : MethodId} {args : Array Value} {below : List Frame} {meth : Method} {c : Code} {Q : State → Prop}
variable {cc : ByteArray} {own : String} {Ts : List Cond} {cl : List vw_C} {sr : List (Int × Int)} {σ : Nat → Int} {D : va_G} {A : Nat → Prop} {H0 : Heap} {ad0 : List Nat} {nL Rc Rs : Nat}
theorem eMul_ok (hx : p.tables.exec = Jvm.exec) (hb : c.code = cc) (hown : s.vm.findClass own = some m.cls) (hts : ∀ w ∈ Ts, w.before args s = true) (hov : (Cond.arrayOver (.array .int)).before args s = true) (hRc : R.cells = Rc) (hRs : R.slots = Rs) (hs : eSg sr σ) (hA : ∀ q, H0.size ≤ q → A q)
    {idx pc cs sl cs' sl' : Nat} {l : eL} {st st' : List eV} {h h' : eH} (hd : decode cc pc = .ok (.multianewarray idx 2, 4)) (hcl : Cond.classLink own idx ("[" ++ (FieldType.array .int).toString) ∈ Ts) (hac : Cond.arrayClass .int ∈ Ts)
    (hst : eMul Rc Rs st h cs sl = some (st', h', cs', sl'))
    (K : ∀ (H : Heap) (locs : List Loc) (ws : va_W) (tys : List (ClassId × FieldType)) (ls : Array Slot) (lv : List (Nat × Value)) (stk : List Value), eCn D cl A H0 s σ nL ad0 (pc + 4, l, st', h', cs', sl') H locs ws tys ls lv stk → W p l0 e R s m args below meth c H locs cs' sl' Q (F0 m (pc + 4) ls stk)) :
    ∀ (H : Heap) (locs : List Loc) (ws : va_W) (tys : List (ClassId × FieldType)) (ls : Array Slot) (lv : List (Nat × Value)) (stk : List Value), eCn D cl A H0 s σ nL ad0 (pc, l, st, h, cs, sl) H locs ws tys ls lv stk → W p l0 e R s m args below meth c H locs cs sl Q (F0 m pc ls stk) := by
  intro H locs ws tys ls lv stk hc
  obtain ⟨hK, hP, hD, hS, hpre, hh, hl, hlv, hsk⟩ := hc
  have h0 := hs.1
  unfold eMul at hst
  split at hst
  · split at hst
    · rename_i k n hk hn
      obtain ⟨hc, hg⟩ := eCond hst
      clear hst
      cases hg
      simp only [Bool.and_eq_true] at hc
      obtain ⟨⟨⟨⟨⟨n1, n2⟩, n3⟩, n4⟩, n5⟩, n6⟩ := hc
      have n1 := eLe_ok n1
      have n2 := eLe_ok n2
      have n3 := Nat.le_of_ble_eq_true n3
      have n4 := Nat.le_of_ble_eq_true n4
      have n5 := Nat.le_of_ble_eq_true n5
      have n6 := Nat.le_of_ble_eq_true n6
      obtain ⟨w, stk, rfl, ⟨x1, rfl, hx1⟩, hsk1⟩ := eAll_cons hsk
      obtain ⟨w, stk, rfl, ⟨x2, rfl, hx2⟩, hsk2⟩ := eAll_cons hsk1
      have e1 := eOne_ok h0 hx1 hk
      have e2 := eOne_ok h0 hx2 hn
      subst e1
      subst e2
      have neg : ∀ z : Int32, 0 ≤ z.toInt → ¬ z < 0 := fun z hz q => by have := Int32.lt_iff_toInt_lt.mp q; have e : (0 : Int32).toInt = 0 := rfl; omega
      have hacb := hts _ hac
      obtain ⟨cy, kc, comp, f1, f2, f3⟩ := Cond.arrayClass_spec hacb
      have hAi : ArrOfT s cy .int := fun N z => ⟨(fun q hq => by cases hq), kc, f2, comp, f3⟩
      generalize hN : x2.toNatClampNeg = N at *
      generalize hM : x1.toNatClampNeg = M at *
      have eN : ∀ X : va_W, X ++ va_pl [] (fun _ => (.inr (0, []) : va_E)) = X := fun X => by simp [va_pl]
      refine va_mna (X := ws) (L := []) (f := fun _ => .inr (0, [])) (ty := .int) (cy := cy) (N' := N) (K' := M) (z := (M, .inl (fun _ => 0))) hx hb hown (hts _ hcl) hov hacb f1 hK (by rw [eN]; exact hP) (by rw [eN]; exact hD) hS hA (neg _ n2) (neg _ n1) hN hM (by omega) (by show M * 4 ≤ _; omega) (by omega) rfl rfl (by rw [hRc]; exact n5) (by rw [hRs]; exact n6) (fun c => arrV_new c M (.int 0)) hd ?_
      intro q r cA H1 hinj hnL hK2 hP2 hD2 hS2
      have eW : (ws ++ [(q, (.inl (cA, N, .inr (.inr (.inr (.inr (fun i => if i < N then some (r i) else none))))) : va_E))]) ++ va_pl ([] ++ (List.range N).map r) (vr_up (fun _ => .inr (0, [])) ((List.range N).map r) (.inl (cy, M, .inl (fun _ => 0)))) = ws ++ ((q, .inl (cA, N, .inr (.inr (.inr (.inr (fun i => if i < N then some (r i) else none)))))) :: (List.range N).map (fun i => (r i, (.inl (cy, M, .inl (fun _ => (0 : Int32))) : va_E)))) := by
        rw [List.append_assoc]
        congr 1
        unfold va_pl
        rw [List.nil_append, List.map_map]
        show _ :: _ = _ :: _
        congr 1
        apply List.map_congr_left
        intro i hi
        show (r i, vr_up _ _ _ (r i)) = _
        rw [vr_up_in (List.mem_map.mpr ⟨i, hi, rfl⟩)]
      rw [eW] at hP2 hD2
      have hK3 : va_K D cl (tys ++ [(cA, .array .int), (cy, .int)]) s := by
        have := va_K.app hK2 (t2 := [(cy, .int)]) ⟨hK.1, fun k9 x9 hx9 => by
          have hz : k9 < 1 := (List.getElem?_eq_some_iff.mp hx9).1
          rw [show k9 = 0 by omega] at hx9
          cases hx9
          exact ⟨hAi, f1⟩⟩
        rw [List.append_assoc] at this
        exact this
      have hlen := eAll_len hh
      generalize hR : (q, (.inl (cA, N, .inr (.inr (.inr (.inr (fun i => if i < N then some (r i) else none))))) : va_E)) :: (List.range N).map (fun i => (r i, (.inl (cy, M, .inl (fun _ => (0 : Int32))) : va_E))) = RW at hP2 hD2
      have eA : ∃ t, (ws ++ RW).map Prod.fst = ws.map Prod.fst ++ t := ⟨RW.map Prod.fst, by rw [List.map_append]⟩
      have atR : ∀ j : Nat, j < N → ((ws ++ RW).map Prod.fst)[h.length + 1 + j]? = some (r j) := by
        intro j hj
        rw [List.getElem?_map, hlen, List.getElem?_append_right (by omega), ← hR, show ws.length + 1 + j - ws.length = j + 1 by omega, List.getElem?_cons_succ, List.getElem?_map, List.getElem?_range hj]
        rfl
      refine K _ _ (ws ++ RW) (tys ++ [(cA, .array .int), (cy, .int)]) _ _ _ ⟨hK3, hP2, hD2, hS2, ?_, eAll_app (eAll_mono (fun _ _ => eCk_ad eA ⟨_, rfl⟩) hh) ?_, hl, eAll_mono (fun _ _ z => ⟨z.1, eOk_ad eA z.2⟩) hlv, ⟨q, ?_, rfl⟩, eAll_mono (fun _ _ => eOk_ad eA) hsk2⟩
      · obtain ⟨t, ht⟩ := hpre
        exact ⟨t ++ RW.map Prod.fst, by rw [List.map_append, ht, List.append_assoc]⟩
      · unfold eGrid
        rw [← hR]
        refine ⟨⟨cA, tys.length, by simp [eTy], by show N < 2 ^ 31; omega, _, rfl, fun j hj => ?_⟩, ?_⟩
        · refine ⟨.inr (.inl (some (h.length + 1 + j))), ?_, ?_⟩
          · rw [List.getElem?_map, List.getElem?_range hj]
            rfl
          · show eOk _ σ _ (va_rf (if j < N then some (r j) else none))
            rw [if_pos hj]
            rw [← hR] at atR
            exact ⟨r j, atR j hj, rfl⟩
        · have gen : ∀ L : List Nat, eAll (eCk ((ws ++ ((q, (.inl (cA, N, .inr (.inr (.inr (.inr (fun i => if i < N then some (r i) else none))))) : va_E)) :: (List.range N).map (fun i => (r i, (.inl (cy, M, .inl (fun _ => (0 : Int32))) : va_E))))).map Prod.fst) σ (tys ++ [(cA, .array .int), (cy, .int)])) (List.replicate L.length (.inr (0, M, .inl (List.replicate M eZero)))) (L.map (fun i => (r i, (.inl (cy, M, .inl (fun _ => (0 : Int32))) : va_E)))) := by
            intro L
            induction L with
            | nil => trivial
            | cons i L ih =>
              refine ⟨⟨cy, tys.length + 1, ?_, by show M < 2 ^ 31; omega, _, rfl, fun j hj => ⟨eZero, by simp [hj], 0, rfl, eIn_mk (by rw [h0]; decide) (by rw [h0]; decide)⟩⟩, ih⟩
              rw [List.getElem?_append_right (by omega), show tys.length + 1 - tys.length = 1 by omega]
              rfl
          have := gen (List.range N)
          rw [List.length_range] at this
          exact this
      · rw [List.getElem?_map, hlen, List.getElem?_append_right (by omega), Nat.sub_self, ← hR]
        rfl
    · cases hst
  · cases hst
end EMU
end
section
/-! THE ENGINE, 8: a run is right. -/
abbrev eY : Type := MethodName × ByteArray × Option FieldType
/-- what goes on over calls beside the words: the links between nest mates, the class of rows of rows -/
def eXt (nst : List (String × Nat × MethodName × String)) (U : State) : Prop := (∀ q ∈ nst, va_Nw (.methodLinkNest q.1 q.2.1 q.2.2.1 q.2.2.2) U) ∧ (Cond.arrayOver (.array .int)).before #[] U = true
theorem eXt.warm {nst : List (String × Nat × MethodName × String)} {s U : State} (hW : s.WarmedH U.vm) (h : eXt nst s) : eXt nst U := by
  refine ⟨fun q hq => va_Nw.warmM hW (h.1 q hq), ?_⟩
  have := Cond.arrayOver_setVmC (args := #[]) hW.alike (.array .int)
  rw [h.2] at this
  exact this
def eRtk (r : Nat) (ret : Option FieldType) : Prop := match r with
  | 0 => ret = none
  | 1 => ret = some .int
  | 2 => ret = some .boolean
  | 3 => ret = some .long
  | _ => ∃ rt, ret = some rt ∧ ((∃ n, rt = .object n) ∨ ∃ t, rt = .array t)
/-- what lies outside and stays: it goes over to later heaps, later tables, fewer cells of one's own -/
def eFzOk (Fz : (Nat → Prop) → State → Heap → Prop) : Prop := (∀ (A B : Nat → Prop) (U U' : State) (H H' : Heap), Fz A U H → U.WarmedH U'.vm → (∀ q : Nat, q < H.size → ¬ A q → H'[q]? = H[q]?) → (∀ q, B q → A q) → Fz B U' H') ∧ ∀ (A : Nat → Prop) (U U' : State) (H : Heap), Fz A U H → U.vm = U'.vm → Fz A U' H
section ERN
variable (Fz : (Nat → Prop) → State → Heap → Prop) (l0 : Launch) (cl : List vw_C) (Ts : List Cond) (nst : List (String × Nat × MethodName × String)) (sr : List (Int × Int)) (dfs : List (List eV)) (ms : List eM) (yt : List eY)
/-- what links a call -/
def eLi (own : String) (i : Instr) (a b d : Nat) : Prop := match i with
  | .invokevirtual idx => a = 0 ∧ ∃ (M : eM) (Y : eY), ms[b]? = some M ∧ yt[b]? = some Y ∧ Cond.methodLink own idx Y.1 ∈ Ts ∧ Cond.instanceMethod Y.1 ∈ Ts ∧ Cond.selects Y.1.cls Y.1 Y.1 ∈ Ts ∧ ∃ (T : u_T) (N : Nat), cl[d]? = some (Y.1.cls, T, N)
  | .invokestatic idx => (6 < a ∧ eLb Ts own idx a) ∨ (a < 6 ∧ ∃ (M : eM) (Y : eY), ms[b]? = some M ∧ yt[b]? = some Y ∧ Cond.static Y.1 ∈ Ts ∧ ((a = 1 ∧ Cond.methodLink own idx Y.1 ∈ Ts) ∨ (a = 4 ∧ ∃ host, (own, idx, Y.1, host) ∈ nst)))
  | .invokespecial idx => (a = 6 ∧ eLb Ts own idx a) ∨ (a < 6 ∧ ∃ (M : eM) (Y : eY), ms[b]? = some M ∧ yt[b]? = some Y ∧ Y.1.name = "<init>" ∧ Y.2.2 = none ∧ Cond.instanceMethod Y.1 ∈ Ts ∧ ((a = 2 ∧ Cond.methodLink own idx Y.1 ∈ Ts) ∨ (a = 5 ∧ ∃ host, (own, idx, Y.1, host) ∈ nst)))
  | .multianewarray idx dim => dim = 2 ∧ Cond.classLink own idx ("[" ++ (FieldType.array .int).toString) ∈ Ts ∧ Cond.arrayClass .int ∈ Ts
  | _ => True
/-- what holds of a method of the table -/
def eMok (M : eM) (Y : eY) : Prop :=
  (∀ en : eN, en ∈ M.1.flatten → (eLen en.2.1 ≠ 0 → decode Y.2.1 en.1 = .ok (en.2.1, eLen en.2.1)) ∧ (∃ len, decode Y.2.1 en.1 = .ok (en.2.1, len)) ∧ eLk cl Ts Y.1.cls (Y.1.name == "<init>") en.2.1 en.1 en.2.2.2.1 en.2.2.2.2.1 en.2.2.2.2.2.2 ∧ eLi cl Ts nst ms yt Y.1.cls en.2.1 en.2.2.2.1 en.2.2.2.2.1 en.2.2.2.2.2.2) ∧
  Cond.code Y.1 Y.2.1 M.2.1 Y.2.2 ∈ Ts ∧ Cond.initialized Y.1.cls ∈ Ts ∧ plainName Y.1.cls = true ∧ (Y.1.cls ≠ "java/lang/invoke/MethodHandle" ∧ Y.1.cls ≠ "java/lang/invoke/VarHandle" ∧ (parseMethodDescriptor Y.1.desc).map (fun d => d.parameters.length) = some M.2.2.2.2.2) ∧ M.2.1 ≤ 100 ∧ eRtk M.2.2.2.2.1 Y.2.2
def eRm (d : Nat) (M : eM) : Room := { frames := d, cells := M.2.2.1, slots := M.2.2.2.1, locals := 128 * d }
def eOv (ad : List Nat) (σ : Nat → Int) (v : Option eV) (w : Option Value) : Prop := match v, w with
  | none, none => True
  | some v, some w => eOk ad σ v w
  | _, _ => False
/-- a method's end: one of the ways that were found -/
def eQ (D : va_G) (σ : Nat → Int) (ws : va_W) (os : List (Option eV × eH)) (sz : Nat) : Array Value → State → Outcome → State → Prop := fun _ st oc t =>
  (∃ o ∈ os, ∃ (w : Option Value) (ws' : va_W) (tys' : List (ClassId × FieldType)), oc = .returned w ∧ eOv (ws'.map Prod.fst) σ o.1 w ∧ (∃ t, ws'.map Prod.fst = ws.map Prod.fst ++ t) ∧ eAll (eCk (ws'.map Prod.fst) σ tys') o.2 ws' ∧ va_P D cl ws' t.heap ∧ va_K D cl tys' t ∧ va_D (va_A ws sz) ws') ∧ va_F (va_A ws sz) st t
def ePc (D : va_G) (ws : va_W) (tys : List (ClassId × FieldType)) (vs : List Value) (sz : Nat) : Array Value → State → Prop := va_Pc vs (fun U => U.heap.size = sz ∧ va_P D cl ws U.heap ∧ va_K D cl tys U ∧ va_D (fun _ => True) ws ∧ eXt nst U ∧ Fz (va_A ws sz) U U.heap)
/-- a call's contract -/
def eCon (d b : Nat) (as : List eV) (h : eH) (os : List (Option eV × eH)) : Prop := ∀ (M : eM) (Y : eY), ms[b]? = some M → yt[b]? = some Y → ∀ (D : va_G) (σ : Nat → Int) (ws : va_W) (tys : List (ClassId × FieldType)) (vs : List Value) (sz : Nat), eSg sr σ → eAll (eCk (ws.map Prod.fst) σ tys) h ws → eAll (eOk (ws.map Prod.fst) σ) as vs →
  Met l0 Y.1 (Cond.code Y.1 Y.2.1 M.2.1 Y.2.2 :: Ts) (eRm d M) (ePc Fz cl nst D ws tys vs sz) (eQ cl D σ ws os sz) M.2.2.1 M.2.2.2.1 (va_A ws sz)
end ERN
theorem ePc_blind {Fz : (Nat → Prop) → State → Heap → Prop} (hF : eFzOk Fz) {cl : List vw_C} {nst : List (String × Nat × MethodName × String)} {D : va_G} {ws : va_W} {tys : List (ClassId × FieldType)} {vs : List Value} {sz : Nat} : FrameBlind (ePc Fz cl nst D ws tys vs sz) := by
  intro a U g mk q
  obtain ⟨q0, q1, qP, qK, qD, qX, qF⟩ := q
  exact ⟨q0, q1, qP, va_K.moved (u := U) (U := U.calling g mk a) (Vm.Alike.refl U.vm) qK, qD, ⟨fun x hx => va_Nw.same rfl rfl (qX.1 x hx), qX.2⟩, hF.2 _ U _ _ qF rfl⟩
theorem eAll_take {α β : Type} {r : α → β → Prop} : ∀ {as : List α} {bs : List β} (n : Nat), eAll r as bs → eAll r (as.take n) (bs.take n)
  | _, _, 0, _ => by simp [eAll]
  | [], [], _ + 1, _ => trivial
  | _ :: _, _ :: _, n + 1, h => ⟨h.1, eAll_take n h.2⟩
theorem eAll_drop {α β : Type} {r : α → β → Prop} : ∀ {as : List α} {bs : List β} (n : Nat), eAll r as bs → eAll r (as.drop n) (bs.drop n)
  | _, _, 0, h => h
  | [], [], _ + 1, _ => trivial
  | _ :: _, _ :: _, n + 1, h => eAll_drop n h.2
section ECB
variable {p : Program} {l0 : Launch} {e : Env} {R : Room} {s : State} {m : MethodId} {args : Array Value} {below : List Frame} {meth : Method} {c : Code} {Q : State → Prop}
variable {cl : List vw_C} {σ : Nat → Int} {D : va_G} {A : Nat → Prop} {H0 : Heap}
theorem eBack {H : Heap} {locs : List Loc} {cs sl mc ms pc : Nat} {ls : Array Slot} {st0 rest : List Value} {ws : va_W} {os : List (Option eV × eH)} {a : Array Value} (hr : va_Run p l0 e R s m args below meth c H locs cs sl mc ms (F0 m pc ls st0) rest (eQ cl D σ ws os H.size a) (va_A ws H.size)) (hS : va_S A H0 H locs) (hA1 : ∀ q, va_A ws H.size q → A q)
    (kk : ∀ o ∈ os, ∀ (w : Option Value) (ws' : va_W) (tys' : List (ClassId × FieldType)) (H1 : Heap) (locs1 : List Loc), eOv (ws'.map Prod.fst) σ o.1 w → (∃ t, ws'.map Prod.fst = ws.map Prod.fst ++ t) → eAll (eCk (ws'.map Prod.fst) σ tys') o.2 ws' → va_P D cl ws' H1 → va_K D cl tys' s → va_D A ws' → va_S A H0 H1 locs1 → W p l0 e R s m args below meth c H1 locs1 (cs + mc) (sl + ms) Q (F0 m (pc + 3) ls (w.toList ++ rest))) : W p l0 e R s m args below meth c H locs cs sl Q (F0 m pc ls st0) := by
  intro T hT X
  obtain ⟨v, st₀, t, T', L, h0, X', hL, e1, e2, ⟨⟨o, ho, w, ws', tys', hv, hov, hpre', hh', hP', hK', hD'⟩, hz, hk⟩, st⟩ := hr T hT X
  cases hv
  rw [h0] at hz hk
  have hal : s.vm.Alike t.vm := by rw [← e2]; exact X'.warmed.alike
  obtain ⟨t2, a1, b1⟩ := kk o ho v ws' tys' T'.heap (locs ++ L) hov hpre' hh' (by rw [e1]; exact hP') (va_K.moved hal.symm hK') (hD'.weaken (fun k q _ h => hA1 q.1 h))
    ⟨Nat.le_trans hS.1 (by rw [e1]; exact hz), fun q h1 h2 => by rw [e1, hk q (Nat.lt_of_lt_of_le h1 hS.1) (fun z => h2 (hA1 q z))]; exact hS.2.1 q h1 h2, fun q hq => by
      rcases List.mem_append.mp hq with h | h
      · exact hS.2.2 q h
      · exact hA1 _ (hL q h)⟩ T' rfl X'
  exact ⟨t2, st t2 a1, b1⟩
end ECB
end
section
/-! THE ENGINE, 9: a call. -/
section ECL
variable {p : Program} {l0 : Launch} {e : Env} {R : Room} {s : State} {m : MethodId} {args : Array Value} {below : List Frame} {meth : Method} {c : Code} {Q : State → Prop}
variable {Fz : (Nat → Prop) → State → Heap → Prop} {cc : ByteArray} {own : String} {Ts : List Cond} {nst : List (String × Nat × MethodName × String)} {cl : List vw_C} {ms : List eM} {yt : List eY} {sr : List (Int × Int)} {σ : Nat → Int} {D : va_G} {A : Nat → Prop} {H0 : Heap} {ad0 : List Nat} {nL : Nat}
/-- how a call of kind kd is linked -/
def eKd (cl : List vw_C) (Ts : List Cond) (nst : List (String × Nat × MethodName × String)) (own : String) (cc : ByteArray) (pc kd d0 : Nat) (Y : eY) : Prop :=
  (kd = 0 ∧ ∃ (idx : Nat) (T : u_T) (N : Nat), decode cc pc = .ok (.invokevirtual idx, 3) ∧ Cond.methodLink own idx Y.1 ∈ Ts ∧ Cond.instanceMethod Y.1 ∈ Ts ∧ Cond.selects Y.1.cls Y.1 Y.1 ∈ Ts ∧ cl[d0]? = some (Y.1.cls, T, N)) ∨
  (kd = 1 ∧ ∃ idx : Nat, decode cc pc = .ok (.invokestatic idx, 3) ∧ Cond.methodLink own idx Y.1 ∈ Ts ∧ Cond.static Y.1 ∈ Ts) ∨
  (kd = 4 ∧ ∃ (idx : Nat) (host : String), decode cc pc = .ok (.invokestatic idx, 3) ∧ (own, idx, Y.1, host) ∈ nst ∧ Cond.static Y.1 ∈ Ts) ∨
  (kd = 2 ∧ ∃ idx : Nat, decode cc pc = .ok (.invokespecial idx, 3) ∧ Cond.methodLink own idx Y.1 ∈ Ts ∧ Y.1.name = "<init>" ∧ Y.2.2 = none ∧ Cond.instanceMethod Y.1 ∈ Ts) ∨
  (kd = 5 ∧ ∃ (idx : Nat) (host : String), decode cc pc = .ok (.invokespecial idx, 3) ∧ (own, idx, Y.1, host) ∈ nst ∧ Y.1.name = "<init>" ∧ Y.2.2 = none ∧ Cond.instanceMethod Y.1 ∈ Ts)
theorem ePopS_ok {ad : List Nat} {st as r : List eV} {np kd : Nat} {stk : List Value} (h : ePop st np kd = some (as, r)) (hk : kd = 1 ∨ kd = 4) (hs : eAll (eOk ad σ) st stk) : ∃ vs rest : List Value, stk = vs.reverse ++ rest ∧ vs.length = np ∧ eAll (eOk ad σ) as vs ∧ eAll (eOk ad σ) r rest := by
  have h2 : cond (Nat.ble np st.length) (some ((st.take np).reverse, st.drop np)) none = some (as, r) := by rcases hk with rfl | rfl <;> exact h
  obtain ⟨h3, h4⟩ := eCond h2
  cases h4
  have h3 := Nat.le_of_ble_eq_true h3
  refine ⟨(stk.take np).reverse, stk.drop np, by simp, ?_, eAll_rev (eAll_take np hs), eAll_drop np hs⟩
  have := eAll_len hs
  simp
  omega
theorem ePopV_ok {ad : List Nat} {st as r : List eV} {np kd : Nat} {stk : List Value} (h : ePop st np kd = some (as, r)) (hk : kd = 0 ∨ kd = 2 ∨ kd = 5) (hs : eAll (eOk ad σ) st stk) : ∃ (k a : Nat) (as1 : List eV) (vs rest : List Value), as = .inr (.inl (some k)) :: as1 ∧ ad[k]? = some a ∧ stk = vs.reverse ++ .ref a :: rest ∧ vs.length = np ∧ eAll (eOk ad σ) as1 vs ∧ eAll (eOk ad σ) r rest := by
  have h2 : (match st[np]? with
    | some (.inr (.inl (some k))) => some (.inr (.inl (some k)) :: (st.take np).reverse, st.drop (np + 1))
    | _ => none) = some (as, r) := by rcases hk with rfl | rfl | rfl <;> exact h
  split at h2
  · rename_i k hk2
    cases h2
    obtain ⟨w, hw, a, ha, rfl⟩ := eAll_get hs hk2
    have hlt := (List.getElem?_eq_some_iff.mp hw).1
    refine ⟨k, a, _, (stk.take np).reverse, stk.drop (np + 1), rfl, ha, ?_, by simp; omega, eAll_rev (eAll_take np hs), eAll_drop (np + 1) hs⟩
    rw [List.reverse_reverse]
    have e1 : stk.drop np = .ref a :: stk.drop (np + 1) := by
      rw [List.drop_eq_getElem_cons hlt]
      congr 1
      have := List.getElem?_eq_getElem hlt
      rw [hw] at this
      exact (Option.some.inj this).symm
    rw [← e1]
    exact (List.take_append_drop np stk).symm
  · cases h2
theorem eCall_ok (hx : p.tables.exec = Jvm.exec) (hb : c.code = cc) (hown : s.vm.findClass own = some m.cls) (hts : ∀ w ∈ Ts, w.before args s = true) (hgood : ∀ w ∈ Ts, (w.onTables && w.keeps) = true ∨ ∃ ty, w = .arrayClass ty) (hml : c.maxLocals = nL) (hXt : eXt nst s) (hF : eFzOk Fz) (hFs : Fz A s H0) (hs : eSg sr σ) (hA : ∀ q, H0.size ≤ q → A q)
    {d b kd d0 pc cs sl : Nat} {l : eL} {st as r : List eV} {h : eH} {os : List (Option eV × eH)} {N : eM} {Y : eY} (hR1 : d + 1 ≤ R.frames) (hR2 : 128 * (d + 1) ≤ R.locals) (hN : ms[b]? = some N) (hY : yt[b]? = some Y) (hok : eMok cl Ts nst ms yt N Y) (hcon : eCon Fz l0 cl Ts nst sr ms yt d b as h os)
    (hkd : eKd cl Ts nst own cc pc kd d0 Y) (hpop : ePop st N.2.2.2.2.2 kd = some (as, r)) (hcr : eCats r ≤ 8) (hmc : cs + N.2.2.1 ≤ R.cells) (hms : sl + N.2.2.2.1 ≤ R.slots) (hrcv : eRcv h kd d0 as = true)
    (K : ∀ o ∈ os, ∀ (H : Heap) (locs : List Loc) (ws : va_W) (tys : List (ClassId × FieldType)) (ls : Array Slot) (lv : List (Nat × Value)) (stk : List Value), eCn D cl A H0 s σ nL ad0 (pc + 3, l, o.1.toList ++ r, o.2, cs + N.2.2.1, sl + N.2.2.2.1) H locs ws tys ls lv stk → W p l0 e R s m args below meth c H locs (cs + N.2.2.1) (sl + N.2.2.2.1) Q (F0 m (pc + 3) ls stk)) :
    ∀ (H : Heap) (locs : List Loc) (ws : va_W) (tys : List (ClassId × FieldType)) (ls : Array Slot) (lv : List (Nat × Value)) (stk : List Value), eCn D cl A H0 s σ nL ad0 (pc, l, st, h, cs, sl) H locs ws tys ls lv stk → W p l0 e R s m args below meth c H locs cs sl Q (F0 m pc ls stk) := by
  intro H locs ws tys ls lv stk hc
  obtain ⟨hK, hP, hD, hS, hpre, hh, hl, hlv, hsk⟩ := hc
  obtain ⟨-, hcode, hini, -, hdd, hnl, -⟩ := hok
  have hG : GoodIn Ts (Cond.code Y.1 Y.2.1 N.2.1 Y.2.2 :: Ts) := fun w hw => by
    rcases List.mem_cons.mp hw with rfl | hw
    · exact ⟨hcode, hgood _ hcode⟩
    · exact ⟨hw, hgood _ hw⟩
  have hroom : (eRm d N).frames + 1 ≤ R.frames ∧ 8 + (N.2.1 + 11) + (eRm d N).locals ≤ R.locals := ⟨hR1, by show 8 + (N.2.1 + 11) + 128 * d ≤ _; omega⟩
  have hA1 : ∀ q, va_A ws H.size q → A q := by
    intro q hq
    rcases hq with ⟨k, e9, hk⟩ | hq
    · exact hD.2 k (q, e9) hk
    · exact hA q (Nat.le_trans hS.1 hq)
  have hPre : ∀ (vs : List Value) (U : State), U.heap = H → s.WarmedH U.vm → ePc Fz cl nst D ws tys vs H.size vs.toArray U := fun vs U hU hW => ⟨rfl, by rw [hU], by rw [hU]; exact hP, va_K.moved hW.alike hK, hD.weaken (fun _ _ _ _ => trivial), hXt.warm hW, by rw [hU]; exact hF.1 A _ s U H0 H hFs hW hS.2.1 hA1⟩
  have fin : ∀ (rest : List Value) (a : Array Value), eAll (eOk (ws.map Prod.fst) σ) r rest → va_Run p l0 e R s m args below meth c H locs cs sl N.2.2.1 N.2.2.2.1 (F0 m pc ls stk) rest (eQ cl D σ ws os H.size a) (va_A ws H.size) → W p l0 e R s m args below meth c H locs cs sl Q (F0 m pc ls stk) := by
    intro rest a hr hrun
    refine eBack hrun hS hA1 (fun o ho w ws' tys' H1 locs1 hov hpre' hh' hP' hK' hD' hS' => ?_)
    refine K o ho _ _ ws' tys' ls lv _ ⟨hK', hP', hD', hS', ?_, hh', hl, eAll_mono (fun _ _ z => ⟨z.1, eOk_ad hpre' z.2⟩) hlv, ?_⟩
    · obtain ⟨t, ht⟩ := hpre
      obtain ⟨t', ht'⟩ := hpre'
      exact ⟨t ++ t', by rw [ht', ht, List.append_assoc]⟩
    · have hr' := eAll_mono (fun _ _ => eOk_ad hpre') hr
      show eAll _ (o.1.toList ++ r) _
      cases h1 : o.1 with
      | none =>
        rw [h1] at hov
        cases w with
        | none => exact hr'
        | some w => exact hov.elim
      | some v =>
        rw [h1] at hov
        cases w with
        | none => exact hov.elim
        | some w => exact ⟨hov, hr'⟩
  have hcat : ∀ rest : List Value, eAll (eOk (ws.map Prod.fst) σ) r rest → 2 * (F0 m pc ls stk).monitorRoom + (rest.map fun v => v.category).sum ≤ 8 := fun rest hr => by
    rw [eCats_ok hr]
    show 2 * 0 + _ ≤ 8
    omega
  rcases hkd with ⟨rfl, idx, T, NN, hdg, w1, w2, w3, hcl⟩ | ⟨rfl, idx, hdg, w1, w2⟩ | ⟨rfl, idx, host, hdg, w1, w2⟩ | ⟨rfl, idx, hdg, w1, w2, w3, w4⟩ | ⟨rfl, idx, host, hdg, w1, w2, w3, w4⟩
  · obtain ⟨k, a, as1, vs, rest, rfl, ha, hstk, hlen, has, hr⟩ := ePopV_ok hpop (Or.inl rfl) hsk
    have hM := hcon N Y hN hY D σ ws tys (.ref a :: vs) H.size hs hh ⟨⟨a, ha, rfl⟩, has⟩
    unfold eRcv at hrcv
    simp only at hrcv
    split at hrcv
    · rename_i o ho
      have e0 := Nat.eq_of_beq_eq_true hrcv
      obtain ⟨⟨q, e9⟩, he, fs, hf, -⟩ := eAll_get hh ho
      have hf : e9 = .inr (o.1, fs) := hf
      subst hf
      have e1 := eAd_at he ha
      subst e1
      rw [e0] at he
      exact fin rest _ hr (va_runV (As := vs) (rest := rest) ⟨hx, hb, hml, hown, hts⟩ hM ⟨callB_of _ hts hG rfl rfl rfl (hts _ hini) (hts _ w1) hdd hroom, hts _ w2, hts _ w3⟩ ⟨ePc_blind hF, va_recv hK hP hcl he, hPre _⟩ rfl hlen hl.1 hstk (hcat rest hr) hdg ⟨hmc, hms⟩)
    · cases hrcv
  · obtain ⟨vs, rest, hstk, hlen, has, hr⟩ := ePopS_ok hpop (Or.inl rfl) hsk
    have hM := hcon N Y hN hY D σ ws tys vs H.size hs hh has
    exact fin rest _ hr (va_runS (As := vs) (rest := rest) ⟨hx, hb, hml, hown, hts⟩ hM ⟨callB_of _ hts hG rfl rfl rfl (hts _ hini) (hts _ w1) hdd hroom, hts _ w2⟩ ⟨ePc_blind hF, hPre _⟩ rfl hlen hl.1 hstk (hcat rest hr) hdg ⟨hmc, hms⟩)
  · obtain ⟨vs, rest, hstk, hlen, has, hr⟩ := ePopS_ok hpop (Or.inr rfl) hsk
    have hM := hcon N Y hN hY D σ ws tys vs H.size hs hh has
    exact fin rest _ hr (va_runSN (As := vs) (rest := rest) ⟨hx, hb, hml, hown, hts⟩ hM ⟨va_cnB _ hts hG rfl rfl rfl (hXt.1 _ w1) (hts _ hini) hdd hroom, hts _ w2, trivial⟩ ⟨ePc_blind hF, hPre _⟩ rfl hlen hl.1 hstk (hcat rest hr) hdg ⟨hmc, hms⟩)
  · obtain ⟨k, a, as1, vs, rest, rfl, ha, hstk, hlen, has, hr⟩ := ePopV_ok hpop (Or.inr (Or.inl rfl)) hsk
    have hM := hcon N Y hN hY D σ ws tys (.ref a :: vs) H.size hs hh ⟨⟨a, ha, rfl⟩, has⟩
    rw [w3] at hM hG
    exact fin rest _ hr (va_runI (As := vs) (rest := rest) ⟨hx, hb, hml, hown, hts⟩ hM ⟨callB_of _ hts hG rfl rfl rfl (hts _ hini) (hts _ w1) hdd hroom, w2, hts _ w4⟩ ⟨ePc_blind hF, hPre _⟩ rfl hlen hl.1 hstk (hcat rest hr) hdg ⟨hmc, hms⟩)
  · obtain ⟨k, a, as1, vs, rest, rfl, ha, hstk, hlen, has, hr⟩ := ePopV_ok hpop (Or.inr (Or.inr rfl)) hsk
    have hM := hcon N Y hN hY D σ ws tys (.ref a :: vs) H.size hs hh ⟨⟨a, ha, rfl⟩, has⟩
    rw [w3] at hM hG
    exact fin rest _ hr (va_runIN (As := vs) (rest := rest) ⟨hx, hb, hml, hown, hts⟩ hM ⟨va_cnB _ hts hG rfl rfl rfl (hXt.1 _ w1) (hts _ hini) hdd hroom, w2, hts _ w4⟩ ⟨ePc_blind hF, hPre _⟩ rfl hlen hl.1 hstk (hcat rest hr) hdg ⟨hmc, hms⟩)
end ECL
end
section
/-! THE ENGINE, 10: every run is right. -/
theorem eFind_ok : ∀ {ch : List eN} {pc : Nat} {en : eN}, eFind ch pc = some en → en.1 = pc ∧ en ∈ ch
  | [], pc, en, h => by cases h
  | q :: ch, pc, en, h => by
    unfold eFind at h
    cases hb : Nat.beq q.1 pc with
    | true =>
      rw [hb] at h
      cases h
      exact ⟨Nat.eq_of_beq_eq_true hb, List.mem_cons_self⟩
    | false =>
      rw [hb] at h
      obtain ⟨h1, h2⟩ := eFind_ok (ch := ch) h
      exact ⟨h1, List.mem_cons_of_mem _ h2⟩
theorem eAt_ok {code : List (List eN)} {pc : Nat} {en : eN} (h : eAt code pc = some en) : en.1 = pc ∧ en ∈ code.flatten := by
  unfold eAt at h
  split at h
  · rename_i ch hch
    obtain ⟨h1, h2⟩ := eFind_ok h
    exact ⟨h1, List.mem_flatten.mpr ⟨ch, List.mem_of_getElem? hch, h2⟩⟩
  · cases h
theorem eColl_ok {α : Type} {f : α → Option (List eS)} : ∀ {xs : List α} {ys : List eS}, eColl f xs = some ys → ∀ x ∈ xs, ∃ zs, f x = some zs ∧ ∀ z ∈ zs, z ∈ ys
  | [], ys, h, x, hx => absurd hx List.not_mem_nil
  | a :: xs, ys, h, x, hx => by
    unfold eColl at h
    split at h
    · cases h
    · rename_i z1 h1
      split at h
      · cases h
      · rename_i z2 h2
        cases h
        rcases List.mem_cons.mp hx with rfl | hx
        · exact ⟨z1, h1, fun z hz => List.mem_append_left _ hz⟩
        · obtain ⟨zs, g1, g2⟩ := eColl_ok h2 x hx
          exact ⟨zs, g1, fun z hz => List.mem_append_right _ (g2 z hz)⟩
theorem eOuts_ok {N : eM} : ∀ {fs : List eS} {os : List (Option eV × eH)}, eOuts N fs = some os → ∀ f ∈ fs, ∃ v, eRet N f = some v ∧ (v, f.2.2.2.1) ∈ os
  | [], os, h, f, hf => absurd hf List.not_mem_nil
  | a :: fs, os, h, f, hf => by
    unfold eOuts at h
    split at h
    · cases h
    · rename_i v h1
      split at h
      · cases h
      · rename_i os' h2
        cases h
        rcases List.mem_cons.mp hf with rfl | hf
        · exact ⟨v, h1, List.mem_cons_self⟩
        · obtain ⟨w, g1, g2⟩ := eOuts_ok h2 f hf
          exact ⟨w, g1, List.mem_cons_of_mem _ g2⟩
theorem eArgs_ok {ad : List Nat} {σ : Nat → Int} : ∀ {as : List eV} {vs : List Value} (i : Nat), eAll (eOk ad σ) as vs → eAll (eLo ad σ) (eArgs i as) (lv_args i vs)
  | [], _, i, h => by rw [eAll_nil h]; trivial
  | a :: as, _, i, h => by
    obtain ⟨w, vs, rfl, h1, h2⟩ := eAll_cons h
    refine ⟨⟨rfl, h1⟩, ?_⟩
    have e := eOk_cat h1
    have e2 : (cond (Nat.beq (eCat a) 2) (i + 2) (i + 1)) = (if w.category = 2 then i + 2 else i + 1) := by
      rw [e]
      by_cases hc : eCat a = 2
      · rw [if_pos hc, hc]; rfl
      · rw [if_neg hc]
        cases hb : Nat.beq (eCat a) 2 with
        | true => exact absurd (Nat.eq_of_beq_eq_true hb) hc
        | false => rfl
    show eAll (eLo ad σ) (eArgs (cond (Nat.beq (eCat a) 2) (i + 2) (i + 1)) as) _
    rw [e2]
    exact eArgs_ok _ h2
theorem eSl_ok {ad : List Nat} {σ : Nat → Int} : ∀ {as : List eV} {vs : List Value}, eAll (eOk ad σ) as vs → (lg_sl vs).length = eCats as
  | [], _, h => by rw [eAll_nil h]; rfl
  | a :: as, _, h => by
    obtain ⟨w, vs, rfl, h1, h2⟩ := eAll_cons h
    have e := eOk_cat h1
    have ih := eSl_ok h2
    unfold lg_sl at ih ⊢
    rw [List.flatMap_cons, List.length_append, ih, e]
    show _ = eCat a + eCats as
    congr 1
    match a with
    | .inl _ => rfl
    | .inr (.inl none) => rfl
    | .inr (.inl (some _)) => rfl
    | .inr (.inr _) => rfl
section EGL
variable (Fz : (Nat → Prop) → State → Heap → Prop) (l0 : Launch) (cl : List vw_C) (Ts : List Cond) (nst : List (String × Nat × MethodName × String)) (sr : List (Int × Int)) (dfs : List (List eV)) (ms : List eM) (yt : List eY)
def eCx (M : eM) (Y : eY) (d : Nat) (p : Program) (R : Room) (s : State) (m : MethodId) (args : Array Value) (meth : Method) (c : Code) : Prop :=
  p.tables.exec = Jvm.exec ∧ c.code = Y.2.1 ∧ s.vm.findClass Y.1.cls = some m.cls ∧ (∀ w ∈ Ts, w.before args s = true) ∧ c.maxLocals = M.2.1 ∧ ((Y.1.name == "<init>") = true → meth.name = "<init>") ∧ eXt nst s ∧ d ≤ R.frames ∧ 128 * d ≤ R.locals ∧ R.cells = M.2.2.1 ∧ R.slots = M.2.2.2.1
def eGl (d y : Nat) (S : eS) (fins : List eS) : Prop := ∀ (M : eM) (Y : eY), ms[y]? = some M → yt[y]? = some Y → ∀ (p : Program) (e : Env) (R : Room) (s : State) (m : MethodId) (args : Array Value) (below : List Frame) (meth : Method) (c : Code), eCx Ts nst M Y d p R s m args meth c → ∀ (D : va_G) (A : Nat → Prop) (H0 : Heap) (σ : Nat → Int) (ad0 : List Nat), eSg sr σ → (∀ q, H0.size ≤ q → A q) → Fz A s H0 → ∀ Q : State → Prop,
  (∀ f ∈ fins, ∀ (H : Heap) (locs : List Loc) (ws : va_W) (tys : List (ClassId × FieldType)) (ls : Array Slot) (lv : List (Nat × Value)) (stk : List Value), eCn D cl A H0 s σ M.2.1 ad0 f H locs ws tys ls lv stk → W p l0 e R s m args below meth c H locs f.2.2.2.2.1 f.2.2.2.2.2 Q (F0 m f.1 ls stk)) →
  ∀ (H : Heap) (locs : List Loc) (ws : va_W) (tys : List (ClassId × FieldType)) (ls : Array Slot) (lv : List (Nat × Value)) (stk : List Value), eCn D cl A H0 s σ M.2.1 ad0 S H locs ws tys ls lv stk → W p l0 e R s m args below meth c H locs S.2.2.2.2.1 S.2.2.2.2.2 Q (F0 m S.1 ls stk)
end EGL
section EAX
variable {Fz : (Nat → Prop) → State → Heap → Prop} {l0 : Launch} {cl : List vw_C} {Ts : List Cond} {nst : List (String × Nat × MethodName × String)} {sr : List (Int × Int)} {dfs : List (List eV)} {ms : List eM} {yt : List eY}
/-- a run from a method's first instruction to its returns is a contract -/
theorem eCon_of (hT : eAll (eMok cl Ts nst ms yt) ms yt) {d b : Nat} {as : List eV} {h : eH} {fs : List eS} {os : List (Option eV × eH)} {N : eM} (hN : ms[b]? = some N) (hca : eCats as ≤ N.2.1) (hg : eGl Fz l0 cl Ts nst sr ms yt d b (0, eArgs 0 as, [], h, 0, 0) fs) (ho : eOuts N fs = some os) : eCon Fz l0 cl Ts nst sr ms yt d b as h os := by
  intro M Y hM hY D σ ws tys vs sz hs hh has
  have eM := Option.some.inj (hN.symm.trans hM)
  subst eM
  obtain ⟨Y', hY', hok⟩ := eAll_get hT hN
  have eY' := Option.some.inj (hY'.symm.trans hY)
  subst eY'
  refine Met.ofW (cc := Y'.2.1) (maxL := N.2.1) (ret := Y'.2.2) hok.2.2.2.1 rfl ?_
  intro p e s m args below meth c s₁ B hml hv
  obtain ⟨rfl, hsz, hP, hK, hD0, hXt, hFz⟩ := hv
  have hts := atoms_spec (ws := Cond.code Y'.1 Y'.2.1 N.2.1 Y'.2.2 :: Ts) B.pre
  have hlocks := B.notSynchronized
  have hD := hD0.self (sz := s.heap.size)
  have hl := lv_entry vs (n := N.2.1) (by rw [eSl_ok has]; exact hca)
  rw [lg_entry_eq]
  generalize (lg_sl vs ++ List.replicate (N.2.1 - (lg_sl vs).length) Slot.unset).toArray = ls at hl ⊢
  subst hsz
  have hcx : eCx Ts nst N Y' d p (eRm d N) s m vs.toArray meth c := ⟨B.exec, B.bytes, findClass_of_methodNamed B.named, fun w hw => hts w (List.mem_cons_of_mem _ hw), hml, fun hi => by rw [(name_of_methodNamed B.named B.method).1]; exact eq_of_beq hi, hXt, Nat.le_refl _, Nat.le_refl _, rfl, rfl⟩
  refine hg N Y' hN hY p e (eRm d N) s m vs.toArray below meth c hcx D (va_A ws s.heap.size) s.heap σ (ws.map Prod.fst) hs (fun q hq => Or.inr hq) hFz _ ?_ s.heap [] ws tys ls (lv_args 0 vs) [] ⟨hK, hP, hD, va_S.rf, ⟨[], by simp⟩, hh, hl, eArgs_ok 0 has, trivial⟩
  intro f hf H locs ws' tys' ls' lv' stk' hc
  obtain ⟨hK', hP', hD', hS', hpre', hh', hl', hlv', hsk'⟩ := hc
  obtain ⟨v, hr, hmem⟩ := eOuts_ok ho f hf
  unfold eRet at hr
  obtain ⟨hb, hr2⟩ := eCond hr
  clear hr
  rw [Bool.and_eq_true] at hb
  refine W.widen (Nat.le_of_ble_eq_true hb.1) (Nat.le_of_ble_eq_true hb.2) ?_
  have hq : ∀ (w : Option Value) (t : State), eOv (ws'.map Prod.fst) σ v w → t.heap = H → s.WarmedH t.vm → eQ cl D σ ws os s.heap.size vs.toArray s (.returned w) t := fun w t hov ht hW => ⟨⟨_, hmem, w, ws', tys', rfl, hov, hpre', hh', by rw [ht]; exact hP', va_K.moved hW.alike hK', hD'⟩, hS'.F ht⟩
  have hfr : ∀ q ∈ locs, va_A ws s.heap.size q.base := hS'.2.2
  split at hr2
  · rename_i en hen
    obtain ⟨hpc, hmem2⟩ := eAt_ok hen
    have hdec := (hok.1 en hmem2).1
    have hrt := hok.2.2.2.2.2.2
    have hst : ∀ x, f.2.2.1 = x → eAll (eOk (ws'.map Prod.fst) σ) x stk' := fun x hx => hx ▸ hsk'
    split at hr2
    · rename_i h1 h2 h3
      cases hr2
      have e1 := eAll_nil (hst _ h3)
      subst e1
      rw [h2] at hdec
      rw [h1] at hrt
      have hdec := hdec (by simp [eLen])
      rw [hpc] at hdec
      exact W.vret B.exec B.bytes (by rw [B.returns]; exact hrt) (fun t ht hW => hq none t trivial ht hW) hfr hdec
    · rename_i q h1 h2 h3
      cases hr2
      obtain ⟨w, r, rfl, ⟨x, rfl, hxq⟩, hn⟩ := eAll_cons (hst _ h3)
      have e1 := eAll_nil hn
      subst e1
      rw [h2] at hdec
      rw [h1] at hrt
      have hdec := hdec (by simp [eLen])
      rw [hpc] at hdec
      exact W.iret B.exec B.bytes (by rw [B.returns]; exact hrt) (fun t ht hW => hq (some (.int x)) t ⟨x, rfl, hxq⟩ ht hW) hfr hdec
    · rename_i q h1 h2 h3
      obtain ⟨hbo, hr3⟩ := eCond hr2
      cases hr3
      obtain ⟨w, r, rfl, ⟨x, rfl, hxq⟩, hn⟩ := eAll_cons (hst _ h3)
      have e1 := eAll_nil hn
      subst e1
      rw [h2] at hdec
      rw [h1] at hrt
      have hdec := hdec (by simp [eLen])
      rw [hpc] at hdec
      have hx01 : x = 0 ∨ x = 1 := e_bool hs.1 hxq hbo
      exact W.zret B.exec B.bytes (by rw [B.returns]; exact hrt) (by rcases hx01 with rfl | rfl <;> decide) (fun t ht hW => hq (some (.int x)) t ⟨x, rfl, hxq⟩ ht hW) hfr hdec
    · rename_i u h1 h2 h3
      cases hr2
      obtain ⟨w, r, rfl, ⟨x, rfl, hxy⟩, hn⟩ := eAll_cons (hst _ h3)
      have e1 := eAll_nil hn
      subst e1
      rw [h2] at hdec
      rw [h1] at hrt
      have hdec := hdec (by simp [eLen])
      rw [hpc] at hdec
      exact W.lret B.exec B.bytes (by rw [B.returns]; exact hrt) (fun t ht hW => hq (some (.long x)) t ⟨x, rfl, hxy⟩ ht hW) hfr hdec
    · rename_i k h1 h2 h3
      cases hr2
      obtain ⟨w, r, rfl, ⟨x, hxa, rfl⟩, hn⟩ := eAll_cons (hst _ h3)
      have e1 := eAll_nil hn
      subst e1
      rw [h2] at hdec
      rw [h1] at hrt
      have hdec := hdec (by simp [eLen])
      rw [hpc] at hdec
      obtain ⟨rt, hrt1, hrt2⟩ := hrt
      exact W.aret B.exec B.bytes (by rw [B.returns]; exact hrt1) hrt2 (Or.inr ⟨x, rfl⟩) (fun t ht hW => hq (some (.ref x)) t ⟨x, hxa, rfl⟩ ht hW) hfr hdec
    · cases hr2
  · cases hr2
end EAX
end
section
/-! THE ENGINE, 11: the theorem. -/
section EMN
variable {Fz : (Nat → Prop) → State → Heap → Prop} {l0 : Launch} {cl : List vw_C} {Ts : List Cond} {nst : List (String × Nat × MethodName × String)} {sr : List (Int × Int)} {dfs : List (List eV)} {ms : List eM} {yt : List eY} {orc : Nat → Nat → List eV → eH → Option (List (Option eV × eH))}
/-- what goes on is right -/
def eIH (Fz : (Nat → Prop) → State → Heap → Prop) (l0 : Launch) (cl : List vw_C) (Ts : List Cond) (nst : List (String × Nat × MethodName × String)) (sr : List (Int × Int)) (ms : List eM) (yt : List eY) (X : Nat → Nat → List Nat → eS → Option (List eS)) : Prop := ∀ (d y : Nat) (stop : List Nat) (S : eS) (fins : List eS), X d y stop S = some fins → eGl Fz l0 cl Ts nst sr ms yt d y S fins
theorem eNext {X : Nat → Nat → List Nat → eS → Option (List eS)} (ih : eIH Fz l0 cl Ts nst sr ms yt X) {d y : Nat} {stop : List Nat} {S : eS} {zs : List eS} (h : cond (stop.elem S.1) (some [S]) (X d y stop S) = some zs) : eGl Fz l0 cl Ts nst sr ms yt d y S zs := by
  cases hb : stop.elem S.1 with
  | true =>
    rw [hb] at h
    cases h
    intro M Y hM hY p e R s m args below meth c hcx D A H0 σ ad0 hs hA hFs Q K
    exact K S List.mem_cons_self
  | false =>
    rw [hb] at h
    exact ih d y stop S zs h
theorem eGl_mono {d y : Nat} {S : eS} {zs fins : List eS} (h : eGl Fz l0 cl Ts nst sr ms yt d y S zs) (hz : ∀ z ∈ zs, z ∈ fins) : eGl Fz l0 cl Ts nst sr ms yt d y S fins := by
  intro M Y hM hY p e R s m args below meth c hcx D A H0 σ ad0 hs hA hFs Q K
  exact h M Y hM hY p e R s m args below meth c hcx D A H0 σ ad0 hs hA hFs Q (fun f hf => K f (hz f hf))
theorem eInv_ok (hF : eFzOk Fz) (hT : eAll (eMok cl Ts nst ms yt) ms yt) (hgood : ∀ w ∈ Ts, (w.onTables && w.keeps) = true ∨ ∃ ty, w = .arrayClass ty) (horc : ∀ (d b : Nat) (as : List eV) (h : eH) (os : List (Option eV × eH)), orc d b as h = some os → eCon Fz l0 cl Ts nst sr ms yt d b as h os)
    {X : Nat → Nat → List Nat → eS → Option (List eS)} (ih : eIH Fz l0 cl Ts nst sr ms yt X) {d y : Nat} {stop : List Nat} {S : eS} {fins : List eS} {kd b d0 : Nat} {M : eM} (hM : ms[y]? = some M) (h : eInv sr ms orc X d y stop S kd b d0 M = some fins)
    (hlk : ∀ Y, yt[y]? = some Y → (6 ≤ kd → ∃ idx, eLb Ts Y.1.cls idx kd ∧ (kd = 6 → decode Y.2.1 S.1 = .ok (.invokespecial idx, 3)) ∧ (kd ≠ 6 → decode Y.2.1 S.1 = .ok (.invokestatic idx, 3))) ∧ (kd < 6 → ∃ (N : eM) (Z : eY), ms[b]? = some N ∧ yt[b]? = some Z ∧ eKd cl Ts nst Y.1.cls Y.2.1 S.1 kd d0 Z)) : eGl Fz l0 cl Ts nst sr ms yt d y S fins := by
  intro M' Y hM' hY p e R s m args below meth c hcx D A H0 σ ad0 hs hA hFs Q K H locs ws tys ls lv stk hc
  have e0 := Option.some.inj (hM.symm.trans hM')
  subst e0
  obtain ⟨hx, hb, hown, hts, hml, hin, hXt, hR1, hR2, hRc, hRs⟩ := id hcx
  obtain ⟨pc, l, st, hp, cs, sl⟩ := S
  unfold eInv at h
  cases d with
  | zero => cases h
  | succ d' =>
    simp only at h
    cases hk : Nat.ble 6 kd with
    | true =>
      rw [hk] at h
      simp only [cond_true] at h
      obtain ⟨idx, g1, g2, g3⟩ := (hlk Y hY).1 (Nat.le_of_ble_eq_true hk)
      split at h
      · rename_i st' h' hbl
        obtain ⟨hn, hg⟩ := eCond h
        rw [Bool.and_eq_true] at hn
        refine eBlt_ok (l := l) hx hb hown hts hml (by omega) (by omega) hs (by rw [hRc]; exact Nat.le_of_ble_eq_true hn.1) (by rw [hRs]; exact Nat.le_of_ble_eq_true hn.2) g2 g3 g1 hbl ?_ H locs ws tys ls lv stk hc
        exact eNext ih hg M Y hM hY p e R s m args below meth c hcx D A H0 σ ad0 hs hA hFs Q K
      · cases h
    | false =>
      rw [hk] at h
      simp only [cond_false] at h
      have hlt : kd < 6 := by
        rcases Nat.lt_or_ge kd 6 with q | q
        · exact q
        · rw [Nat.ble_eq_true_of_le q] at hk; cases hk
      obtain ⟨N, Z, hN, hZ, hkd⟩ := (hlk Y hY).2 hlt
      rw [hN] at h
      simp only at h
      split at h
      · cases h
      · rename_i as r hpop
        obtain ⟨hn, hg⟩ := eCond h
        clear h
        simp only [Bool.and_eq_true] at hn
        obtain ⟨⟨⟨⟨n1, n2⟩, n3⟩, n4⟩, n5⟩ := hn
        split at hg
        · cases hg
        · rename_i os hos
          obtain ⟨Z', hZ', hok⟩ := eAll_get hT hN
          have e1 := Option.some.inj (hZ'.symm.trans hZ)
          subst e1
          have hcon : eCon Fz l0 cl Ts nst sr ms yt d' b as hp os := by
            split at hos
            · rename_i os' ho'
              cases hos
              exact horc d' b as hp _ ho'
            · split at hos
              · cases hos
              · rename_i fs hfs
                exact eCon_of hT hN (Nat.le_of_ble_eq_true n4) (ih d' b [] _ fs hfs) hos
          refine eCall_ok (l := l) hx hb hown hts hgood hml hXt hF hFs hs hA hR1 hR2 hN hZ hok hcon hkd hpop (Nat.le_of_ble_eq_true n1) (by rw [hRc]; exact Nat.le_of_ble_eq_true n2) (by rw [hRs]; exact Nat.le_of_ble_eq_true n3) n5 ?_ H locs ws tys ls lv stk hc
          intro o ho
          obtain ⟨zs, hz1, hz2⟩ := eColl_ok hg o ho
          exact eGl_mono (eNext ih hz1) hz2 M Y hM hY p e R s m args below meth c hcx D A H0 σ ad0 hs hA hFs Q K
theorem eExec_ok (hF : eFzOk Fz) (hT : eAll (eMok cl Ts nst ms yt) ms yt) (hgood : ∀ w ∈ Ts, (w.onTables && w.keeps) = true ∨ ∃ ty, w = .arrayClass ty) (hcl : eKl cl Ts dfs) (horc : ∀ (d b : Nat) (as : List eV) (h : eH) (os : List (Option eV × eH)), orc d b as h = some os → eCon Fz l0 cl Ts nst sr ms yt d b as h os) : ∀ n : Nat, eIH Fz l0 cl Ts nst sr ms yt (eExec sr dfs ms orc n) := by
  intro n
  induction n with
  | zero => intro d y stop S fins h; cases h
  | succ n ih =>
    intro d y stop S fins h
    have h : eBody sr dfs ms orc (eExec sr dfs ms orc n) d y stop S = some fins := h
    unfold eBody at h
    split at h
    · cases h
    · rename_i M hM
      obtain ⟨Y, hY, hok⟩ := eAll_get hT hM
      split at h
      · cases h
      · rename_i en hen
        obtain ⟨hpc, hmem⟩ := eAt_ok hen
        obtain ⟨hd, hd0, hlk, hli⟩ := hok.1 en hmem
        rw [hpc] at hd hd0 hlk
        have ret : some [S] = some fins → eGl Fz l0 cl Ts nst sr ms yt d y S fins := fun hr => by
          cases hr
          intro M Y hM hY p e R s m args below meth c hcx D A H0 σ ad0 hs hA hFs Q K
          exact K S List.mem_cons_self
        split at h
        · exact ret h
        · exact ret h
        · exact ret h
        · exact ret h
        · rename_i idx hi
          rw [hi] at hd hli
          have hd := hd (by simp [eLen])
          refine eInv_ok hF hT hgood horc ih hM h (fun Y' hY' => ?_)
          have e1 := Option.some.inj (hY.symm.trans hY')
          subst e1
          obtain ⟨ha, N, Z, w1, w2, w3, w4, w5, T, NN, w6⟩ := hli
          refine ⟨fun q => by omega, fun _ => ⟨N, Z, w1, w2, Or.inl ⟨ha, idx, T, NN, hd, w3, w4, w5, w6⟩⟩⟩
        · rename_i idx hi
          rw [hi] at hd hli
          have hd := hd (by simp [eLen])
          refine eInv_ok hF hT hgood horc ih hM h (fun Y' hY' => ?_)
          have e1 := Option.some.inj (hY.symm.trans hY')
          subst e1
          rcases hli with ⟨ha, hb⟩ | ⟨ha, N, Z, w1, w2, w3, w4⟩
          · exact ⟨fun _ => ⟨idx, hb, fun q => by omega, fun _ => hd⟩, fun q => by omega⟩
          · refine ⟨fun q => by omega, fun _ => ⟨N, Z, w1, w2, ?_⟩⟩
            rcases w4 with ⟨w4, w5⟩ | ⟨w4, host, w5⟩
            · exact Or.inr (Or.inl ⟨w4, idx, hd, w5, w3⟩)
            · exact Or.inr (Or.inr (Or.inl ⟨w4, idx, host, hd, w5, w3⟩))
        · rename_i idx hi
          rw [hi] at hd hli
          have hd := hd (by simp [eLen])
          refine eInv_ok hF hT hgood horc ih hM h (fun Y' hY' => ?_)
          have e1 := Option.some.inj (hY.symm.trans hY')
          subst e1
          rcases hli with ⟨ha, hb⟩ | ⟨ha, N, Z, w1, w2, w3, w4, w5, w6⟩
          · exact ⟨fun _ => ⟨idx, hb, fun _ => hd, fun q => absurd ha q⟩, fun q => by omega⟩
          · refine ⟨fun q => by omega, fun _ => ⟨N, Z, w1, w2, ?_⟩⟩
            rcases w6 with ⟨w6, w7⟩ | ⟨w6, host, w7⟩
            · exact Or.inr (Or.inr (Or.inr (Or.inl ⟨w6, idx, hd, w7, w3, w4, w5⟩)))
            · exact Or.inr (Or.inr (Or.inr (Or.inr ⟨w6, idx, host, hd, w7, w3, w4, w5⟩)))
        · rename_i idx dim hi
          rw [hi] at hd hli
          obtain ⟨hdim, w1, w2⟩ := hli
          subst hdim
          have hd := hd (by simp [eLen])
          split at h
          · cases h
          · rename_i st' h' cs' sl' hmul
            intro M' Y' hM' hY' p e R s m args below meth c hcx D A H0 σ ad0 hs hA hFs Q K H locs ws tys ls lv stk hc
            have e0 := Option.some.inj (hM.symm.trans hM')
            subst e0
            have e1 := Option.some.inj (hY.symm.trans hY')
            subst e1
            obtain ⟨hx, hb, hown, hts, hml, hin, hXt, hR1, hR2, hRc, hRs⟩ := id hcx
            exact eMul_ok hx hb hown hts hXt.2 hRc hRs hs hA hd w1 w2 hmul (eNext ih h M Y hM hY p e R s m args below meth c hcx D A H0 σ ad0 hs hA hFs Q K) H locs ws tys ls lv stk hc
        · split at h
          · cases h
          · rename_i outs hst
            intro M' Y' hM' hY' p e R s m args below meth c hcx D A H0 σ ad0 hs hA hFs Q K H locs ws tys ls lv stk hc
            have e0 := Option.some.inj (hM.symm.trans hM')
            subst e0
            have e1 := Option.some.inj (hY.symm.trans hY')
            subst e1
            obtain ⟨hx, hb, hown, hts, hml, hin, hXt, hR1, hR2, hRc, hRs⟩ := id hcx
            refine eStep_ok hx hb hown hts hcl hin hRc hRs hs hA hd hd0 hlk hst ?_ H locs ws tys ls lv stk hc
            intro S' hS'
            obtain ⟨zs, hz1, hz2⟩ := eColl_ok h S' hS'
            exact eGl_mono (eNext ih hz1) hz2 M Y hM hY p e R s m args below meth c hcx D A H0 σ ad0 hs hA hFs Q K
end EMN
end
