/-! THE ENGINE, 6: Object's start, Math.min and max, arraycopy; rows of rows. -/
theorem eMin_or (a b : Int) : eMin a b = a ∨ eMin a b = b := by
  unfold eMin
  cases eLe a b with
  | true => exact Or.inl rfl
  | false => exact Or.inr rfl
theorem eMax_or (a b : Int) : eMax a b = a ∨ eMax a b = b := by
  unfold eMax
  cases eLe a b with
  | true => exact Or.inr rfl
  | false => exact Or.inl rfl
theorem eMn_ok {sr : List (Int × Int)} {σ : Nat → Int} (hs : eSg sr σ) {a b : eI} {x y : Int32} (ha : eIn σ a x) (hb : eIn σ b y) : eIn σ (eMn sr a b) (if y < x then y else x) := by
  have ra := eRg_ok hs ha
  have rb := eRg_ok hs hb
  have h0 := hs.1
  have m1 := eMin_ok (eRg sr a).1 (eRg sr b).1
  have m2 := eMin_or (eRg sr a).2 (eRg sr b).2
  by_cases hc : y < x
  · have hq := Int32.lt_iff_toInt_lt.mp hc
    rw [if_pos hc]
    exact eIn_mk (by rw [h0]; omega) (by rw [h0]; omega)
  · have hq : ¬ y.toInt < x.toInt := fun q => hc (Int32.lt_iff_toInt_lt.mpr q)
    rw [if_neg hc]
    exact eIn_mk (by rw [h0]; omega) (by rw [h0]; omega)
theorem eMx_ok {sr : List (Int × Int)} {σ : Nat → Int} (hs : eSg sr σ) {a b : eI} {x y : Int32} (ha : eIn σ a x) (hb : eIn σ b y) : eIn σ (eMx sr a b) (if x < y then y else x) := by
  have ra := eRg_ok hs ha
  have rb := eRg_ok hs hb
  have h0 := hs.1
  have m1 := eMax_or (eRg sr a).1 (eRg sr b).1
  have m2 := eMax_ok (eRg sr a).2 (eRg sr b).2
  by_cases hc : x < y
  · have hq := Int32.lt_iff_toInt_lt.mp hc
    rw [if_pos hc]
    exact eIn_mk (by rw [h0]; omega) (by rw [h0]; omega)
  · have hq : ¬ x.toInt < y.toInt := fun q => hc (Int32.lt_iff_toInt_lt.mpr q)
    rw [if_neg hc]
    exact eIn_mk (by rw [h0]; omega) (by rw [h0]; omega)
theorem eCats_ok {ad : List Nat} {σ : Nat → Int} : ∀ {r : List eV} {rest : List Value}, eAll (eOk ad σ) r rest → (rest.map fun v => v.category).sum = eCats r
  | [], _, h => by rw [eAll_nil h]; rfl
  | v :: r, rest, h => by
    obtain ⟨w, rs, rfl, h1, h2⟩ := eAll_cons h
    simp only [List.map_cons, List.sum_cons, eCats]
    rw [eOk_cat h1, eCats_ok h2]
theorem eJoin_ok {sr : List (Int × Int)} {σ : Nat → Int} (hs : eSg sr σ) {ad : List Nat} : ∀ {es : List eV} {q q' : Int × Int}, eJoin sr es q = some q' → q'.1 ≤ q.1 ∧ q.2 ≤ q'.2 ∧ ∀ (j : Nat) (v : eV) (x : Int32), es[j]? = some v → eOk ad σ v (.int x) → q'.1 ≤ x.toInt ∧ x.toInt ≤ q'.2
  | [], q, q', h => by
    cases h
    exact ⟨Int.le_refl _, Int.le_refl _, fun j v x hj => by simp at hj⟩
  | .inl v :: es, q, q', h => by
    obtain ⟨h1, h2, h3⟩ := eJoin_ok hs (ad := ad) (es := es) h
    have m1 := eMin_ok q.1 (eRg sr v).1
    have m2 := eMax_ok q.2 (eRg sr v).2
    have h1 : q'.1 ≤ eMin q.1 (eRg sr v).1 := h1
    have h2 : eMax q.2 (eRg sr v).2 ≤ q'.2 := h2
    refine ⟨by omega, by omega, fun j v' x hj hx => ?_⟩
    cases j with
    | zero =>
      simp at hj
      subst hj
      obtain ⟨z, hz, hq⟩ := hx
      cases hz
      have := eRg_ok hs hq
      exact ⟨by omega, by omega⟩
    | succ j => exact h3 j v' x (by simpa using hj) hx
  | .inr _ :: _, q, q', h => by cases h
theorem eCpL {α : Type} {e0 e1 : List α} {sp dp n n0 n1 : Nat} (l0 : n0 ≤ e0.length) (l1 : n1 ≤ e1.length) (h0 : sp + n ≤ n0) (h1 : dp + n ≤ n1) (j : Nat) : (e1.take dp ++ ((e0.drop sp).take n ++ e1.drop (dp + n)))[j]? = if dp ≤ j ∧ j < dp + n then e0[sp + (j - dp)]? else e1[j]? := by
  have t1 : (e1.take dp).length = dp := by rw [List.length_take]; omega
  have t2 : ((e0.drop sp).take n).length = n := by rw [List.length_take, List.length_drop]; omega
  by_cases c1 : j < dp
  · rw [if_neg (by omega), List.getElem?_append_left (by omega), List.getElem?_take_of_lt c1]
  · rw [List.getElem?_append_right (by omega), t1]
    by_cases c2 : j < dp + n
    · rw [if_pos ⟨by omega, c2⟩, List.getElem?_append_left (by omega), List.getElem?_take_of_lt (by omega), List.getElem?_drop]
    · rw [if_neg (by omega), List.getElem?_append_right (by omega), t2, List.getElem?_drop]
      congr 1
      omega
section EBL
variable {ad : List Nat} {σ : Nat → Int} {tys : List (ClassId × FieldType)} {h h' : eH} {ws : va_W} {sr : List (Int × Int)}
theorem eCt_len {n : Nat} {f : Nat → Int32} {es : List eV} (h : eCt ad σ n f (.inl es)) : n ≤ es.length := by
  cases n with
  | zero => exact Nat.zero_le _
  | succ n =>
    obtain ⟨v, h1, -⟩ := h n (Nat.lt_succ_self n)
    exact (List.getElem?_eq_some_iff.mp h1).1
theorem eCopy_ok (hs : eSg sr σ) {k0 sp k1 dp n : Nat} (hf : eCopy sr h k0 sp k1 dp n = some h') (hh : eAll (eCk ad σ tys) h ws) : ∃ (a0 a1 : Nat) (c0 c1 : ClassId) (t0 t1 n0 n1 : Nat) (f g : Nat → Int32), ws[k0]? = some (a0, .inl (c0, n0, .inl f)) ∧ ws[k1]? = some (a1, .inl (c1, n1, .inl g)) ∧ tys[t0]? = some (c0, .int) ∧ tys[t1]? = some (c1, .int) ∧ sp + n ≤ n0 ∧ dp + n ≤ n1 ∧ eAll (eCk ad σ tys) h' (ws.set k1 (a1, .inl (c1, n1, .inl (va_cpy f g sp dp n)))) := by
  unfold eCopy at hf
  split at hf
  · rename_i t0 n0 c0 t1 n1 c1 ho0 ho1
    obtain ⟨hc, hg⟩ := eCond hf
    clear hf
    simp only [Bool.and_eq_true] at hc
    obtain ⟨⟨⟨⟨hc1, hc2⟩, hc3⟩, hc4⟩, hc5⟩ := hc
    have e0 := Nat.eq_of_beq_eq_true hc1
    have e1 := Nat.eq_of_beq_eq_true hc2
    have b4 := Nat.le_of_ble_eq_true hc4
    have b5 := Nat.le_of_ble_eq_true hc5
    subst e0
    subst e1
    obtain ⟨⟨a0, x0⟩, h1, cA0, s0, ht0, hN0, hr0⟩ := eAll_get hh ho0
    obtain ⟨⟨a1, x1⟩, h2, cA1, s1, ht1, hN1, hr1⟩ := eAll_get hh ho1
    obtain ⟨f, z0, hf0⟩ := eAr_int (Or.inl rfl) hr0
    obtain ⟨g, z1, hg1⟩ := eAr_int (Or.inl rfl) hr1
    have z0 : x0 = .inl (cA0, n0, .inl f) := z0
    have z1 : x1 = .inl (cA1, n1, .inl g) := z1
    subst z0
    subst z1
    refine ⟨a0, a1, cA0, cA1, s0, s1, n0, n1, f, g, h1, h2, ht0, ht1, b4, b5, ?_⟩
    have fin : ∀ c', eCt ad σ n1 (va_cpy f g sp dp n) c' → eAll (eCk ad σ tys) (h.set k1 (.inr (0, n1, c'))) (ws.set k1 (a1, .inl (cA1, n1, .inl (va_cpy f g sp dp n)))) := fun c' hc' => eAll_set hh k1 ⟨cA1, s1, ht1, hN1, eInt_ar (Or.inl rfl) hc'⟩
    split at hg
    · rename_i es0 es1
      cases hg
      refine fin _ (fun j hj => ?_)
      have l0 := eCt_len hf0
      have l1 := eCt_len hg1
      have e := eCpL (e0 := es0) (e1 := es1) l0 l1 b4 b5 j
      by_cases hq : dp ≤ j ∧ j < dp + n
      · obtain ⟨v, g1, g2⟩ := hf0 (sp + (j - dp)) (show sp + (j - dp) < n0 by omega)
        refine ⟨v, by rw [e, if_pos hq]; exact g1, ?_⟩
        rw [show va_cpy f g sp dp n j = f (sp + (j - dp)) from if_pos hq]
        exact g2
      · obtain ⟨v, g1, g2⟩ := hg1 j hj
        refine ⟨v, by rw [e, if_neg hq]; exact g1, ?_⟩
        rw [show va_cpy f g sp dp n j = g j from if_neg hq]
        exact g2
    · rename_i es0 q1
      split at hg
      · rename_i q' hq'
        cases hg
        obtain ⟨j1, j2, j3⟩ := eJoin_ok hs (ad := ad) hq'
        refine fin _ (fun j hj => ?_)
        by_cases hq : dp ≤ j ∧ j < dp + n
        · obtain ⟨v, g1, g2⟩ := hf0 (sp + (j - dp)) (show sp + (j - dp) < n0 by omega)
          rw [show va_cpy f g sp dp n j = f (sp + (j - dp)) from if_pos hq]
          exact j3 _ _ _ g1 g2
        · have := hg1 j hj
          rw [show va_cpy f g sp dp n j = g j from if_neg hq]
          exact ⟨by omega, by omega⟩
      · cases hg
    · rename_i q0 q1
      cases hg
      have m1 := eMin_ok q0.1 q1.1
      have m2 := eMax_ok q0.2 q1.2
      refine fin _ (fun j hj => ?_)
      show eMin q0.1 q1.1 ≤ _ ∧ _ ≤ eMax q0.2 q1.2
      by_cases hq : dp ≤ j ∧ j < dp + n
      · have := hf0 (sp + (j - dp)) (show sp + (j - dp) < n0 by omega)
        rw [show va_cpy f g sp dp n j = f (sp + (j - dp)) from if_pos hq]
        exact ⟨by omega, by omega⟩
      · have := hg1 j hj
        rw [show va_cpy f g sp dp n j = g j from if_neg hq]
        exact ⟨by omega, by omega⟩
    · cases hg
  · cases hf
end EBL
/-- what links a call that the machine has a row for -/
def eLb (Ts : List Cond) (own : String) (idx kd : Nat) : Prop := match kd with
  | 6 => Cond.methodLink own idx Lib.objectInit ∈ Ts ∧ Cond.instanceMethod Lib.objectInit ∈ Ts ∧ Cond.code Lib.objectInit ⟨#[0xb1]⟩ 1 none ∈ Ts
  | 7 => Cond.methodLink own idx Lib.Math.min.name ∈ Ts ∧ Cond.static Lib.Math.min.name ∈ Ts ∧ Cond.initialized "java/lang/Math" ∈ Ts ∧ Cond.code Lib.Math.min.name Lib.Math.min.code 2 (some .int) ∈ Ts
  | 8 => Cond.methodLink own idx Lib.Math.max.name ∈ Ts ∧ Cond.static Lib.Math.max.name ∈ Ts ∧ Cond.initialized "java/lang/Math" ∈ Ts ∧ Cond.code Lib.Math.max.name Lib.Math.max.code 2 (some .int) ∈ Ts
  | 9 => Cond.methodLink own idx arraycopyName ∈ Ts ∧ Cond.native arraycopyName ∈ Ts ∧ Cond.static arraycopyName ∈ Ts ∧ Cond.initialized "java/lang/System" ∈ Ts
  | _ => False
section EBO
variable {p : Program} {l0 : Launch} {e : Env} {R : Room} {s : State} {m : MethodId} {args : Array Value} {below : List Frame} {meth : Method} {c : Code} {Q : State → Prop}
variable {cc : ByteArray} {own : String} {Ts : List Cond} {cl : List vw_C} {sr : List (Int × Int)} {σ : Nat → Int} {D : va_G} {A : Nat → Prop} {H0 : Heap} {ad0 : List Nat} {nL : Nat}
theorem eBlt_ok (hx : p.tables.exec = Jvm.exec) (hb : c.code = cc) (hown : s.vm.findClass own = some m.cls) (hts : ∀ w ∈ Ts, w.before args s = true) (hml : c.maxLocals = nL) (hR1 : 1 ≤ R.frames) (hR2 : 128 ≤ R.locals) (hs : eSg sr σ)
    {idx kd pc cs sl : Nat} {l : eL} {st st' : List eV} {h h' : eH} (hcs : cs ≤ R.cells) (hsl : sl ≤ R.slots) (hd6 : kd = 6 → decode cc pc = .ok (.invokespecial idx, 3)) (hdS : kd ≠ 6 → decode cc pc = .ok (.invokestatic idx, 3)) (hlk : eLb Ts own idx kd)
    (hst : eBlt sr kd h st = some (st', h'))
    (K : ∀ (H : Heap) (locs : List Loc) (ws : va_W) (tys : List (ClassId × FieldType)) (ls : Array Slot) (lv : List (Nat × Value)) (stk : List Value), eCn D cl A H0 s σ nL ad0 (pc + 3, l, st', h', cs, sl) H locs ws tys ls lv stk → W p l0 e R s m args below meth c H locs cs sl Q (F0 m (pc + 3) ls stk)) :
    ∀ (H : Heap) (locs : List Loc) (ws : va_W) (tys : List (ClassId × FieldType)) (ls : Array Slot) (lv : List (Nat × Value)) (stk : List Value), eCn D cl A H0 s σ nL ad0 (pc, l, st, h, cs, sl) H locs ws tys ls lv stk → W p l0 e R s m args below meth c H locs cs sl Q (F0 m pc ls stk) := by
  intro H locs ws tys ls lv stk hc
  obtain ⟨hK, hP, hD, hS, hpre, hh, hl, hlv, hsk⟩ := hc
  have h0 := hs.1
  have hsz : ls.size = c.maxLocals := by rw [hml]; exact hl.1
  unfold eBlt at hst
  split at hst
  · split at hst
    · obtain ⟨hn, hg⟩ := eCond hst
      cases hg
      have hn := Nat.le_of_ble_eq_true hn
      obtain ⟨w, stk, rfl, ⟨x, hxa, rfl⟩, hsk1⟩ := eAll_cons hsk
      have hcat := eCats_ok hsk1
      exact W.objInit hx hb hown (hts _ hlk.1) (hts _ hlk.2.1) (hts _ hlk.2.2) rfl hsz rfl (hd6 rfl) hR1 (by rw [hcat]; show 2 * 0 + _ + 12 ≤ _; omega) (K _ _ _ _ _ _ _ ⟨hK, hP, hD, hS, hpre, hh, hl, hlv, hsk1⟩)
    · cases hst
  · split at hst
    · rename_i x y r hg
      obtain ⟨hn, hg2⟩ := eCond hst
      cases hg2
      have hn := Nat.le_of_ble_eq_true hn
      obtain ⟨u, v, r, rfl, hu, hv, hr⟩ := eTwo_ok hg hsk
      have hcat := eCats_ok hr
      exact va_mmin hx hb hsz.symm hown (hts _ hlk.1) (hts _ hlk.2.1) (hts _ hlk.2.2.1) (hts _ hlk.2.2.2) hR1 (by rw [hcat]; omega) hcs hsl (hdS (by decide)) (K _ _ _ _ _ _ _ ⟨hK, hP, hD, hS, hpre, hh, hl, hlv, ⟨_, rfl, eMn_ok hs hu hv⟩, hr⟩)
    · cases hst
  · split at hst
    · rename_i x y r hg
      obtain ⟨hn, hg2⟩ := eCond hst
      cases hg2
      have hn := Nat.le_of_ble_eq_true hn
      obtain ⟨u, v, r, rfl, hu, hv, hr⟩ := eTwo_ok hg hsk
      have hcat := eCats_ok hr
      exact va_mmax hx hb hsz.symm hown (hts _ hlk.1) (hts _ hlk.2.1) (hts _ hlk.2.2.1) (hts _ hlk.2.2.2) hR1 (by rw [hcat]; omega) hcs hsl (hdS (by decide)) (K _ _ _ _ _ _ _ ⟨hK, hP, hD, hS, hpre, hh, hl, hlv, ⟨_, rfl, eMx_ok hs hu hv⟩, hr⟩)
    · cases hst
  · split at hst
    · obtain ⟨hn, hg⟩ := eCond hst
      clear hst
      have hn := Nat.le_of_ble_eq_true hn
      split at hg
      · rename_i n dp sp hn1 hn2 hn3
        obtain ⟨hn4, hg2⟩ := eCond hg
        clear hg
        split at hg2
        · rename_i h2 hcp
          cases hg2
          simp only [Bool.and_eq_true] at hn4
          obtain ⟨⟨p1, p2⟩, p3⟩ := hn4
          have p1 := eLe_ok p1
          have p2 := eLe_ok p2
          have p3 := eLe_ok p3
          obtain ⟨w, stk, rfl, ⟨x1, rfl, hx1⟩, hsk1⟩ := eAll_cons hsk
          obtain ⟨w, stk, rfl, ⟨x2, rfl, hx2⟩, hsk2⟩ := eAll_cons hsk1
          obtain ⟨w, stk, rfl, ⟨y1, hy1, rfl⟩, hsk3⟩ := eAll_cons hsk2
          obtain ⟨w, stk, rfl, ⟨x3, rfl, hx3⟩, hsk4⟩ := eAll_cons hsk3
          obtain ⟨w, stk, rfl, ⟨y2, hy2, rfl⟩, hsk5⟩ := eAll_cons hsk4
          have e1 := eOne_ok h0 hx1 hn1
          have e2 := eOne_ok h0 hx2 hn2
          have e3 := eOne_ok h0 hx3 hn3
          subst e1
          subst e2
          subst e3
          have hcat := eCats_ok hsk5
          obtain ⟨a0, a1, c0, c1, t0, t1, n0, n1, f, g, g1, g2, g3, g4, g5, g6, hh2⟩ := eCopy_ok hs hcp hh
          have e4 := eAd_at g2 hy1
          have e5 := eAd_at g1 hy2
          subst e4
          subst e5
          have neg : ∀ z : Int32, 0 ≤ z.toInt → ¬ z < 0 := fun z hz q => by have := Int32.lt_iff_toInt_lt.mp q; have e : (0 : Int32).toInt = 0 := rfl; omega
          exact va_copyi hx hb hsz.symm hown (hts _ hlk.1) (hts _ hlk.2.1) (hts _ hlk.2.2.1) (hts _ hlk.2.2.2) hK hP hD hS _ _ t0 t1 g1 g2 g3 g4 rfl (neg _ p3) (neg _ p2) (neg _ p1) g5 g6 (fun _ _ => rfl) hR1 (by rw [hcat]; show _ + (7 + 11) ≤ _; omega) (hdS (by decide)) (fun H1 locs1 hP hD hS => K _ _ _ _ _ _ _ (eCn_set hK g2 hP hD hS hpre hh2 hl hlv hsk5))
        · cases hg2
      · cases hg
    · cases hst
  · cases hst
end EBO
