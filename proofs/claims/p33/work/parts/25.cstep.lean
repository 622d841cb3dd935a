/-! THE CLEAR MACHINE, 2: one step is right. -/
def cCn (D : va_G) (cl : List vw_C) (A : Nat → Prop) (H0 : Heap) (s : State) (nL : Nat) (ad : List Nat) (S : cS) (H : Heap) (locs : List Loc) (ws : va_W) (tys : List (ClassId × FieldType)) (ls : Array Slot) (lv : List (Nat × Value)) (stk : List Value) : Prop :=
  va_K D cl tys s ∧ va_P D cl ws H ∧ va_D A ws ∧ va_S A H0 H locs ∧ ws.map Prod.fst = ad ∧ eAll (cCk ad tys) S.2.2.2 ws ∧ lv_has ls nL lv ∧ eAll (cLo ad) S.2.1 lv ∧ eAll (cOk ad) S.2.2.1 stk
section CSO
variable {p : Program} {l0 : Launch} {e : Env} {R : Room} {s : State} {m : MethodId} {args : Array Value} {below : List Frame} {meth : Method} {c : Code} {Q : State → Prop}
variable {cc : ByteArray} {own : String} {Ts : List Cond} {cl : List vw_C} {dfs : List (List eV)} {init : Bool} {D : va_G} {A : Nat → Prop} {H0 : Heap} {ad : List Nat} {nL : Nat}
theorem cGet_at {l : cL} {lv : List (Nat × Value)} {ls : Array Slot} {i : Nat} {v : cV} (hl : lv_has ls nL lv) (h : eAll (cLo ad) l lv) (hg : cGet l i = some v) : ∃ w, ls[i]? = some (.val w) ∧ cOk ad v w ∧ ∃ k : Nat, lv[k]? = some (i, w) := by
  obtain ⟨w, h1, h2⟩ := cGet_ok h hg
  exact ⟨w, hl.2.2 _ h1, h2, List.getElem?_of_mem h1⟩
theorem cCn_set {k q pc : Nat} {e0 e1 : va_E} {H1 : Heap} {locs1 : List Loc} {ws : va_W} {tys : List (ClassId × FieldType)} {ls : Array Slot} {lv : List (Nat × Value)} {stk : List Value} {l : cL} {st : List cV} {h' : cH} (hK : va_K D cl tys s) (he : ws[k]? = some (q, e0)) (hP : va_P D cl (ws.set k (q, e1)) H1) (hD : va_D A (ws.set k (q, e1))) (hS : va_S A H0 H1 locs1) (hpre : ws.map Prod.fst = ad) (hh : eAll (cCk ad tys) h' (ws.set k (q, e1))) (hl : lv_has ls nL lv) (hlv : eAll (cLo ad) l lv) (hsk : eAll (cOk ad) st stk) : cCn D cl A H0 s nL ad (pc, l, st, h') H1 locs1 (ws.set k (q, e1)) tys ls lv stk := by
  have e := eAd_set (e1 := e1) he
  exact ⟨hK, hP, hD, hS, by rw [e]; exact hpre, hh, hl, hlv, hsk⟩
theorem cAd {k q a : Nat} {e0 : va_E} {ws : va_W} (hpre : ws.map Prod.fst = ad) (hk : ws[k]? = some (q, e0)) (ha : ad[k]? = some a) : a = q := by
  rw [← hpre] at ha
  exact eAd_at hk ha
theorem cB1_ok {x : Int32} (h : cB1 x = true) : x = 0 ∨ x = 1 := of_decide_eq_true h
set_option maxHeartbeats 4000000 in
theorem cStep_ok (hx : p.tables.exec = Jvm.exec) (hb : c.code = cc) (hown : s.vm.findClass own = some m.cls) (hts : ∀ w ∈ Ts, w.before args s = true) (hcl : eKl cl Ts dfs) (hin : init = true → meth.name = "<init>")
    {i : Instr} {pc a b d cs sl : Nat} {l : cL} {st : List cV} {h : cH} {S' : cS} (hd : eLen i ≠ 0 → decode cc pc = .ok (i, eLen i)) (hd0 : ∃ len, decode cc pc = .ok (i, len)) (hlk : eLk cl Ts own init i pc a b d)
    (hst : cStep nL i a b d pc l st h = some S')
    (K : ∀ (H : Heap) (locs : List Loc) (ws : va_W) (tys : List (ClassId × FieldType)) (ls : Array Slot) (lv : List (Nat × Value)) (stk : List Value), cCn D cl A H0 s nL ad S' H locs ws tys ls lv stk → W p l0 e R s m args below meth c H locs cs sl Q (F0 m S'.1 ls stk)) :
    ∀ (H : Heap) (locs : List Loc) (ws : va_W) (tys : List (ClassId × FieldType)) (ls : Array Slot) (lv : List (Nat × Value)) (stk : List Value), cCn D cl A H0 s nL ad (pc, l, st, h) H locs ws tys ls lv stk → W p l0 e R s m args below meth c H locs cs sl Q (F0 m pc ls stk) := by
  intro H locs ws tys ls lv stk hc
  obtain ⟨hK, hP, hD, hS, hpre, hh, hl, hlv, hsk⟩ := hc
  unfold cStep at hst
  split at hst
  · cases hst
    exact lv_iconst hx hb (hd (by simp [eLen])) rfl (K _ _ _ _ _ _ _ ⟨hK, hP, hD, hS, hpre, hh, hl, hlv, rfl, hsk⟩)
  · cases hst
    exact lv_bipush hx hb (hd (by simp [eLen])) rfl (K _ _ _ _ _ _ _ ⟨hK, hP, hD, hS, hpre, hh, hl, hlv, rfl, hsk⟩)
  · cases hst
    exact lv_sipush hx hb (hd (by simp [eLen])) rfl (K _ _ _ _ _ _ _ ⟨hK, hP, hD, hS, hpre, hh, hl, hlv, rfl, hsk⟩)
  · cases hst
    exact lv_lconst hx hb (hd (by simp [eLen])) rfl (K _ _ _ _ _ _ _ ⟨hK, hP, hD, hS, hpre, hh, hl, hlv, rfl, hsk⟩)
  · cases hst
    exact lv_ldc hx hb hown (hts _ hlk) (hd (by simp [eLen])) (K _ _ _ _ _ _ _ ⟨hK, hP, hD, hS, hpre, hh, hl, hlv, rfl, hsk⟩)
  · cases hst
    exact lv_ldcw hx hb hown (hts _ hlk) (hd (by simp [eLen])) (K _ _ _ _ _ _ _ ⟨hK, hP, hD, hS, hpre, hh, hl, hlv, rfl, hsk⟩)
  · cases hst
    exact lv_ldc2 hx hb hown (hts _ hlk) (hd (by simp [eLen])) (K _ _ _ _ _ _ _ ⟨hK, hP, hD, hS, hpre, hh, hl, hlv, rfl, hsk⟩)
  · split at hst
    · rename_i q hg
      obtain ⟨w, h1, h2, -⟩ := cGet_at hl hlv hg
      cases h2
      cases hst
      exact lv_iload_n hx hb (hd (by simp [eLen])) rfl h1 (K _ _ _ _ _ _ _ ⟨hK, hP, hD, hS, hpre, hh, hl, hlv, rfl, hsk⟩)
    · cases hst
  · split at hst
    · rename_i q hg
      obtain ⟨w, h1, h2, -⟩ := cGet_at hl hlv hg
      cases h2
      cases hst
      exact lv_iload hx hb (hd (by simp [eLen])) h1 (K _ _ _ _ _ _ _ ⟨hK, hP, hD, hS, hpre, hh, hl, hlv, rfl, hsk⟩)
    · cases hst
  · split at hst
    · rename_i q hg
      obtain ⟨w, h1, h2, -⟩ := cGet_at hl hlv hg
      cases h2
      cases hst
      exact lv_lload_n hx hb (hd (by simp [eLen])) rfl h1 (K _ _ _ _ _ _ _ ⟨hK, hP, hD, hS, hpre, hh, hl, hlv, rfl, hsk⟩)
    · cases hst
  · split at hst
    · rename_i q hg
      obtain ⟨w, h1, h2, -⟩ := cGet_at hl hlv hg
      cases h2
      cases hst
      exact lv_lload hx hb (hd (by simp [eLen])) h1 (K _ _ _ _ _ _ _ ⟨hK, hP, hD, hS, hpre, hh, hl, hlv, rfl, hsk⟩)
    · cases hst
  · split at hst
    · rename_i q hg
      obtain ⟨w, h1, h2, -⟩ := cGet_at hl hlv hg
      obtain ⟨x, hxa, rfl⟩ := h2
      cases hst
      exact lv_aload_n hx hb (hd (by simp [eLen])) rfl h1 (K _ _ _ _ _ _ _ ⟨hK, hP, hD, hS, hpre, hh, hl, hlv, ⟨_, hxa, rfl⟩, hsk⟩)
    · cases hst
  · split at hst
    · rename_i q hg
      obtain ⟨w, h1, h2, -⟩ := cGet_at hl hlv hg
      obtain ⟨x, hxa, rfl⟩ := h2
      cases hst
      exact lv_aload hx hb (hd (by simp [eLen])) h1 (K _ _ _ _ _ _ _ ⟨hK, hP, hD, hS, hpre, hh, hl, hlv, ⟨_, hxa, rfl⟩, hsk⟩)
    · cases hst
  · split at hst
    · obtain ⟨hn, hg⟩ := eCond hst
      cases hg
      obtain ⟨w, stk, rfl, hw, hsk1⟩ := eAll_cons hsk
      cases hw
      exact lv_istore_n hx hb (hd (by simp [eLen])) rfl hl (Nat.le_of_ble_eq_true hn) rfl (fun ls hl => K _ _ _ _ _ _ _ ⟨hK, hP, hD, hS, hpre, hh, hl, cPut_ok hlv rfl, hsk1⟩)
    · cases hst
  · split at hst
    · obtain ⟨hn, hg⟩ := eCond hst
      cases hg
      obtain ⟨w, stk, rfl, hw, hsk1⟩ := eAll_cons hsk
      cases hw
      exact lv_istore hx hb (hd (by simp [eLen])) hl (Nat.le_of_ble_eq_true hn) rfl (fun ls hl => K _ _ _ _ _ _ _ ⟨hK, hP, hD, hS, hpre, hh, hl, cPut_ok hlv rfl, hsk1⟩)
    · cases hst
  · split at hst
    · obtain ⟨hn, hg⟩ := eCond hst
      cases hg
      obtain ⟨w, stk, rfl, hw, hsk1⟩ := eAll_cons hsk
      cases hw
      exact lv_lstore_n hx hb (hd (by simp [eLen])) rfl hl (Nat.le_of_ble_eq_true hn) rfl (fun ls hl => K _ _ _ _ _ _ _ ⟨hK, hP, hD, hS, hpre, hh, hl, cPut2_ok hlv rfl, hsk1⟩)
    · cases hst
  · split at hst
    · obtain ⟨hn, hg⟩ := eCond hst
      cases hg
      obtain ⟨w, stk, rfl, hw, hsk1⟩ := eAll_cons hsk
      cases hw
      exact lv_lstore hx hb (hd (by simp [eLen])) hl (Nat.le_of_ble_eq_true hn) rfl (fun ls hl => K _ _ _ _ _ _ _ ⟨hK, hP, hD, hS, hpre, hh, hl, cPut2_ok hlv rfl, hsk1⟩)
    · cases hst
  · split at hst
    · obtain ⟨hn, hg⟩ := eCond hst
      cases hg
      obtain ⟨w, stk, rfl, ⟨x, hxa, rfl⟩, hsk1⟩ := eAll_cons hsk
      exact lv_astore_n hx hb (hd (by simp [eLen])) rfl hl (Nat.le_of_ble_eq_true hn) rfl (fun ls hl => K _ _ _ _ _ _ _ ⟨hK, hP, hD, hS, hpre, hh, hl, cPut_ok hlv ⟨x, hxa, rfl⟩, hsk1⟩)
    · cases hst
  · split at hst
    · obtain ⟨hn, hg⟩ := eCond hst
      cases hg
      obtain ⟨w, stk, rfl, ⟨x, hxa, rfl⟩, hsk1⟩ := eAll_cons hsk
      exact lv_astore hx hb (hd (by simp [eLen])) hl (Nat.le_of_ble_eq_true hn) rfl (fun ls hl => K _ _ _ _ _ _ _ ⟨hK, hP, hD, hS, hpre, hh, hl, cPut_ok hlv ⟨x, hxa, rfl⟩, hsk1⟩)
    · cases hst
  · split at hst
    · rename_i q hg
      obtain ⟨hn, hg2⟩ := eCond hst
      cases hg2
      obtain ⟨w, -, hw, kk, hkk⟩ := cGet_at hl hlv hg
      cases hw
      exact lv_iinc hx hb (hd (by simp [eLen])) hl hkk rfl (Nat.le_of_ble_eq_true hn) rfl (fun ls hl => K _ _ _ _ _ _ _ ⟨hK, hP, hD, hS, hpre, hh, hl, cPut_ok hlv rfl, hsk⟩)
    · cases hst
  · split at hst
    · obtain ⟨hn, hg⟩ := eCond hst
      cases hg
      have hn := Nat.eq_of_beq_eq_true hn
      obtain ⟨w, stk, rfl, hw, hsk1⟩ := eAll_cons hsk
      exact lv_dup hx hb (hd (by simp [eLen])) (by rw [cOk_cat hw, hn]) (K _ _ _ _ _ _ _ ⟨hK, hP, hD, hS, hpre, hh, hl, hlv, hw, hw, hsk1⟩)
    · cases hst
  · split at hst
    · obtain ⟨hn, hg⟩ := eCond hst
      cases hg
      rw [Bool.and_eq_true] at hn
      have hn1 := Nat.eq_of_beq_eq_true hn.1
      have hn2 := Nat.eq_of_beq_eq_true hn.2
      obtain ⟨w, stk, rfl, hw, hsk1⟩ := eAll_cons hsk
      obtain ⟨w2, stk, rfl, hw2, hsk2⟩ := eAll_cons hsk1
      exact lv_dup2_11 hx hb (hd (by simp [eLen])) (by rw [cOk_cat hw, hn1]) (by rw [cOk_cat hw2, hn2]) (K _ _ _ _ _ _ _ ⟨hK, hP, hD, hS, hpre, hh, hl, hlv, hw, hw2, hw, hw2, hsk2⟩)
    · cases hst
  · split at hst
    · obtain ⟨hn, hg⟩ := eCond hst
      cases hg
      have hn := Nat.eq_of_beq_eq_true hn
      obtain ⟨w, stk, rfl, hw, hsk1⟩ := eAll_cons hsk
      exact lv_pop hx hb (hd (by simp [eLen])) (by rw [cOk_cat hw, hn]) (K _ _ _ _ _ _ _ ⟨hK, hP, hD, hS, hpre, hh, hl, hlv, hsk1⟩)
    · cases hst
  · split at hst
    · split at hst
      · rename_i o ho
        obtain ⟨hn, hg⟩ := eCond hst
        clear hst
        split at hg
        · rename_i v hv
          cases hg
          have hn := Nat.eq_of_beq_eq_true hn
          obtain ⟨w, stk, rfl, ⟨x, hxa, rfl⟩, hsk1⟩ := eAll_cons hsk
          obtain ⟨⟨q, e9⟩, he, vs, hf, hvs⟩ := eAll_get hh ho
          have hf : e9 = .inr (o.1, vs) := hf
          subst hf
          rw [hn] at he
          obtain ⟨w, hw1, hw2⟩ := eAll_get hvs hv
          have e1 := cAd hpre he hxa
          subst e1
          obtain ⟨C, T, N, hc, hbN, hlink⟩ := hlk
          exact va_get hx hb hts (hcl _ C T N hc).1 hown hK hP _ he hc _ hbN (hts _ hlink) (fun _ z => z) hw1 (hd (by simp [eLen])) (K _ _ _ _ _ _ _ ⟨hK, hP, hD, hS, hpre, hh, hl, hlv, hw2, hsk1⟩)
        · cases hg
      · cases hst
    · cases hst
  · obtain ⟨C, T, N, hc, hbN, hlink, hfin, t0, t2, t5⟩ := hlk
    split at hst
    · rename_i v k r
      split at hst
      · rename_i o ho
        obtain ⟨hn, hg⟩ := eCond hst
        cases hg
        simp only [Bool.and_eq_true] at hn
        obtain ⟨⟨hn1, hn2⟩, hn3⟩ := hn
        have hn1 := Nat.eq_of_beq_eq_true hn1
        have hn2 : b < o.2.length := Nat.le_of_ble_eq_true hn2
        obtain ⟨w, stk, rfl, hw, hsk1⟩ := eAll_cons hsk
        obtain ⟨w2, stk, rfl, ⟨y, hya, rfl⟩, hsk2⟩ := eAll_cons hsk1
        obtain ⟨⟨q, e9⟩, he, vs, hf, hvs⟩ := eAll_get hh ho
        have hf : e9 = .inr (o.1, vs) := hf
        subst hf
        have e1 := cAd hpre he hya
        subst e1
        rw [eAll_len hvs] at hn2
        have hh2 : eAll (cCk ad tys) (h.set k (.inl (o.1, o.2.set b v))) (ws.set k (y, .inr (o.1, vs.set b w))) := eAll_set hh k ⟨_, rfl, eAll_set hvs b hw⟩
        rw [hn1] at he hh2
        rw [hn1] at K
        have hk : ∃ ty, parseFieldDescriptor (T b).2.2.1 = some ty ∧ narrow ty w = w ∧ fits ty w = true := by
          match v, hw, hn3 with
          | .inl x, hw, hn3 =>
            cases hw
            rw [Bool.or_eq_true] at hn3
            rcases hn3 with hn3 | hn3
            · exact ⟨_, t0 (Nat.eq_of_beq_eq_true hn3), rfl, rfl⟩
            · rw [Bool.and_eq_true] at hn3
              refine ⟨_, t2 (Nat.eq_of_beq_eq_true hn3.1), ?_⟩
              rcases cB1_ok hn3.2 with rfl | rfl <;> exact ⟨by decide, by decide⟩
          | .inr (.inl x), hw, hn3 => cases hn3
          | .inr (.inr none), hw, hn3 => cases hn3
          | .inr (.inr (some z)), ⟨x, hxa, hw⟩, hn3 =>
            cases hw
            obtain ⟨ty, k1, k2⟩ := t5 (Nat.eq_of_beq_eq_true hn3)
            exact ⟨ty, k1, by rcases k2 with ⟨n, rfl⟩ | ⟨n, rfl⟩ <;> exact ⟨rfl, rfl⟩⟩
        obtain ⟨ty, k1, k2, k3⟩ := hk
        exact eStF hx hb hown hts hcl hin hK hP hD hS he hn2 hc hbN hlink hfin k1 k2 k3 (hd (by simp [eLen])) (fun H1 locs1 hP hD hS => K _ _ _ _ _ _ _ (cCn_set hK he hP hD hS hpre hh2 hl hlv hsk2))
      · cases hst
    · cases hst
  · split at hst
    · split at hst
      · rename_i q ho
        obtain ⟨hn, hg⟩ := eCond hst
        cases hg
        obtain ⟨w, stk, rfl, hw, hsk1⟩ := eAll_cons hsk
        cases hw
        obtain ⟨w, stk, rfl, ⟨y, hya, rfl⟩, hsk2⟩ := eAll_cons hsk1
        rw [Bool.and_eq_true] at hn
        have hk := Nat.eq_of_beq_eq_true hn.1
        obtain ⟨hxi, -⟩ := cIx_ok hn.2
        obtain ⟨⟨z, e9⟩, he, cA, t0, ht, -, -, hf⟩ := eAll_get hh ho
        have hf : e9 = .inl (cA, q.2.1, .inl q.2.2) := hf
        subst hf
        have e1 := cAd hpre he hya
        subst e1
        rw [hk] at ht
        exact va_iald hx hb hK hP _ t0 he ht hxi (hd (by simp [eLen])) (K _ _ _ _ _ _ _ ⟨hK, hP, hD, hS, hpre, hh, hl, hlv, rfl, hsk2⟩)
      · cases hst
    · cases hst
  · split at hst
    · split at hst
      · rename_i q ho
        obtain ⟨hn, hg⟩ := eCond hst
        cases hg
        obtain ⟨w, stk, rfl, hw, hsk1⟩ := eAll_cons hsk
        cases hw
        obtain ⟨w, stk, rfl, ⟨y, hya, rfl⟩, hsk2⟩ := eAll_cons hsk1
        rw [Bool.and_eq_true, Bool.or_eq_true] at hn
        obtain ⟨hxi, -⟩ := cIx_ok hn.2
        obtain ⟨⟨z, e9⟩, he, cA, t0, ht, -, -, hf⟩ := eAll_get hh ho
        have hf : e9 = .inl (cA, q.2.1, .inl q.2.2) := hf
        subst hf
        have e1 := cAd hpre he hya
        subst e1
        rcases hn.1 with hk | hk
        · have hk := Nat.eq_of_beq_eq_true hk
          rw [hk] at ht
          exact va_bald hx hb hK hP _ t0 he ht hxi (hd (by simp [eLen])) (K _ _ _ _ _ _ _ ⟨hK, hP, hD, hS, hpre, hh, hl, hlv, rfl, hsk2⟩)
        · have hk := Nat.eq_of_beq_eq_true hk
          rw [hk] at ht
          exact va_zald hx hb hK hP _ t0 he ht hxi (hd (by simp [eLen])) (K _ _ _ _ _ _ _ ⟨hK, hP, hD, hS, hpre, hh, hl, hlv, rfl, hsk2⟩)
      · cases hst
    · cases hst
  · split at hst
    · split at hst
      · rename_i q ho
        obtain ⟨hn, hg⟩ := eCond hst
        cases hg
        obtain ⟨w, stk, rfl, hw, hsk1⟩ := eAll_cons hsk
        cases hw
        obtain ⟨w, stk, rfl, ⟨y, hya, rfl⟩, hsk2⟩ := eAll_cons hsk1
        obtain ⟨hxi, -⟩ := cIx_ok hn
        obtain ⟨⟨z, e9⟩, he, cA, t0, ht, -, hf⟩ := eAll_get hh ho
        have hf : e9 = .inl (cA, q.1, .inr (.inl q.2)) := hf
        subst hf
        have e1 := cAd hpre he hya
        subst e1
        exact va_lald hx hb hK hP _ t0 he ht hxi (hd (by simp [eLen])) (K _ _ _ _ _ _ _ ⟨hK, hP, hD, hS, hpre, hh, hl, hlv, rfl, hsk2⟩)
      · cases hst
    · cases hst
  · split at hst
    · split at hst
      · rename_i q ho
        obtain ⟨hn, hg⟩ := eCond hst
        cases hg
        obtain ⟨w, stk, rfl, hw, hsk1⟩ := eAll_cons hsk
        cases hw
        obtain ⟨w, stk, rfl, ⟨y, hya, rfl⟩, hsk2⟩ := eAll_cons hsk1
        obtain ⟨hxi, hlt⟩ := cIx_ok hn
        obtain ⟨⟨z, e9⟩, he, cA, t0, f, ht, -, hf, hq⟩ := eAll_get hh ho
        have hf : e9 = .inl (cA, q.1, .inr (.inr (.inr (.inr f)))) := hf
        subst hf
        have e1 := cAd hpre he hya
        subst e1
        exact va_aldA hx hb hK hP _ t0 he ht hxi (hd (by simp [eLen])) (K _ _ _ _ _ _ _ ⟨hK, hP, hD, hS, hpre, hh, hl, hlv, hq _ hlt, hsk2⟩)
      · cases hst
    · cases hst
  · split at hst
    · split at hst
      · rename_i q ho
        obtain ⟨hn, hg⟩ := eCond hst
        cases hg
        obtain ⟨w, stk, rfl, hw, hsk1⟩ := eAll_cons hsk
        cases hw
        obtain ⟨w, stk, rfl, hw, hsk2⟩ := eAll_cons hsk1
        cases hw
        obtain ⟨w, stk, rfl, ⟨y, hya, rfl⟩, hsk3⟩ := eAll_cons hsk2
        rw [Bool.and_eq_true] at hn
        have hk := Nat.eq_of_beq_eq_true hn.1
        obtain ⟨hxi, -⟩ := cIx_ok hn.2
        obtain ⟨⟨z, e9⟩, he, cA, t0, ht, h3, h4, hf⟩ := eAll_get hh ho
        have hf : e9 = .inl (cA, q.2.1, .inl q.2.2) := hf
        subst hf
        have e1 := cAd hpre he hya
        subst e1
        have ht0 := ht
        rw [hk] at ht0
        exact va_iast hx hb hK hP hD hS _ t0 he ht0 hxi (hd (by simp [eLen])) (fun H1 locs1 hP hD hS => K _ _ _ _ _ _ _ (cCn_set hK he hP hD hS hpre (eAll_set hh _ ⟨cA, t0, ht, h3, h4, rfl⟩) hl hlv hsk3))
      · cases hst
    · cases hst
  · split at hst
    · split at hst
      · rename_i q ho
        obtain ⟨hn, hg⟩ := eCond hst
        cases hg
        obtain ⟨w, stk, rfl, hw, hsk1⟩ := eAll_cons hsk
        cases hw
        obtain ⟨w, stk, rfl, hw, hsk2⟩ := eAll_cons hsk1
        cases hw
        obtain ⟨w, stk, rfl, ⟨y, hya, rfl⟩, hsk3⟩ := eAll_cons hsk2
        rw [Bool.and_eq_true, Bool.or_eq_true] at hn
        obtain ⟨hxi, -⟩ := cIx_ok hn.2
        obtain ⟨⟨z, e9⟩, he, cA, t0, ht, h3, h4, hf⟩ := eAll_get hh ho
        have hf : e9 = .inl (cA, q.2.1, .inl q.2.2) := hf
        subst hf
        have e1 := cAd hpre he hya
        subst e1
        have ht0 := ht
        rcases hn.1 with hk | hk
        · have hk1 := Nat.eq_of_beq_eq_true hk
          rw [hk1] at ht0
          rw [hk] at K
          exact va_bast hx hb hK hP hD hS _ t0 he ht0 hxi (hd (by simp [eLen])) (fun H1 locs1 hP hD hS => K _ _ _ _ _ _ _ (cCn_set hK he hP hD hS hpre (eAll_set hh _ ⟨cA, t0, ht, h3, h4, rfl⟩) hl hlv hsk3))
        · rw [Bool.and_eq_true] at hk
          have hk1 := Nat.eq_of_beq_eq_true hk.1
          rw [hk1] at ht0
          have hk2 : Nat.beq q.1 1 = false := by rw [hk1]; rfl
          rw [hk2] at K
          exact va_zast hx hb hK hP hD hS _ t0 he ht0 hxi (hd (by simp [eLen])) (fun H1 locs1 hP hD hS => K _ _ _ _ _ _ _ (cCn_set hK he hP hD hS hpre (eAll_set hh _ ⟨cA, t0, ht, h3, h4, by rcases cB1_ok hk.2 with z | z <;> rw [z] <;> rfl⟩) hl hlv hsk3))
      · cases hst
    · cases hst
  · split at hst
    · split at hst
      · rename_i q ho
        obtain ⟨hn, hg⟩ := eCond hst
        cases hg
        obtain ⟨w, stk, rfl, hw, hsk1⟩ := eAll_cons hsk
        cases hw
        obtain ⟨w, stk, rfl, hw, hsk2⟩ := eAll_cons hsk1
        cases hw
        obtain ⟨w, stk, rfl, ⟨y, hya, rfl⟩, hsk3⟩ := eAll_cons hsk2
        obtain ⟨hxi, -⟩ := cIx_ok hn
        obtain ⟨⟨z, e9⟩, he, cA, t0, ht, h3, hf⟩ := eAll_get hh ho
        have hf : e9 = .inl (cA, q.1, .inr (.inl q.2)) := hf
        subst hf
        have e1 := cAd hpre he hya
        subst e1
        exact va_last hx hb hK hP hD hS _ t0 he ht hxi (hd (by simp [eLen])) (fun H1 locs1 hP hD hS => K _ _ _ _ _ _ _ (cCn_set hK he hP hD hS hpre (eAll_set hh _ ⟨cA, t0, ht, h3, rfl⟩) hl hlv hsk3))
      · cases hst
    · cases hst
  · split at hst
    · split at hst
      · rename_i q ho
        cases hst
        obtain ⟨w, stk, rfl, ⟨y, hya, rfl⟩, hsk1⟩ := eAll_cons hsk
        obtain ⟨⟨z, e9⟩, he, cA, t0, ht, -, -, hf⟩ := eAll_get hh ho
        have hf : e9 = .inl (cA, q.2.1, .inl q.2.2) := hf
        subst hf
        have e1 := cAd hpre he hya
        subst e1
        exact va_alen hx hb hK hP _ t0 he ht rfl (hd (by simp [eLen])) (K _ _ _ _ _ _ _ ⟨hK, hP, hD, hS, hpre, hh, hl, hlv, rfl, hsk1⟩)
      · rename_i q ho
        cases hst
        obtain ⟨w, stk, rfl, ⟨y, hya, rfl⟩, hsk1⟩ := eAll_cons hsk
        obtain ⟨⟨z, e9⟩, he, cA, t0, ht, -, hf⟩ := eAll_get hh ho
        have hf : e9 = .inl (cA, q.1, .inr (.inl q.2)) := hf
        subst hf
        have e1 := cAd hpre he hya
        subst e1
        exact va_alen hx hb hK hP _ t0 he ht rfl (hd (by simp [eLen])) (K _ _ _ _ _ _ _ ⟨hK, hP, hD, hS, hpre, hh, hl, hlv, rfl, hsk1⟩)
      · rename_i q ho
        cases hst
        obtain ⟨w, stk, rfl, ⟨y, hya, rfl⟩, hsk1⟩ := eAll_cons hsk
        obtain ⟨⟨z, e9⟩, he, cA, t0, f, ht, -, hf, -⟩ := eAll_get hh ho
        have hf : e9 = .inl (cA, q.1, .inr (.inr (.inr (.inr f)))) := hf
        subst hf
        have e1 := cAd hpre he hya
        subst e1
        exact va_alen hx hb hK hP _ t0 he ht rfl (hd (by simp [eLen])) (K _ _ _ _ _ _ _ ⟨hK, hP, hD, hS, hpre, hh, hl, hlv, rfl, hsk1⟩)
      · cases hst
    · cases hst
  · cases hst
    exact lv_goto hx hb (hd (by simp [eLen])) hlk (K _ _ _ _ _ _ _ ⟨hK, hP, hD, hS, hpre, hh, hl, hlv, hsk⟩)
  · rename_i kc off
    split at hst
    · rename_i x r
      cases hst
      obtain ⟨w, stk, rfl, hw, hsk1⟩ := eAll_cons hsk
      cases hw
      have yes : eHolds kc x 0 → W p l0 e R s m args below meth c H locs cs sl Q (F0 m a ls stk) := fun hq => by
        rw [cHd_ok.mpr hq] at K
        exact (K _ _ _ _ _ _ _ ⟨hK, hP, hD, hS, hpre, hh, hl, hlv, hsk1⟩)
      have no : ¬ eHolds kc x 0 → W p l0 e R s m args below meth c H locs cs sl Q (F0 m (pc + 3) ls stk) := fun hq => by
        rw [Bool.eq_false_iff.mpr (fun z => hq (cHd_ok.mp z))] at K
        exact (K _ _ _ _ _ _ _ ⟨hK, hP, hD, hS, hpre, hh, hl, hlv, hsk1⟩)
      cases kc
      · exact lv_if_eq hx hb (hd (by simp [eLen])) hlk (fun hq => yes hq) (fun hq => no hq)
      · exact lv_if_ne hx hb (hd (by simp [eLen])) hlk (fun hq => yes hq) (fun hq => no (fun z => z hq))
      · exact lv_if_lt hx hb (hd (by simp [eLen])) hlk (fun hq => yes hq) (fun hq => no hq)
      · exact lv_if_ge hx hb (hd (by simp [eLen])) hlk (fun hq => yes hq) (fun hq => no hq)
      · exact lv_if_gt hx hb (hd (by simp [eLen])) hlk (fun hq => yes hq) (fun hq => no hq)
      · exact lv_if_le hx hb (hd (by simp [eLen])) hlk (fun hq => yes hq) (fun hq => no hq)
    · cases hst
  · rename_i kc off
    split at hst
    · rename_i y x r
      cases hst
      obtain ⟨w, stk, rfl, hw, hsk1⟩ := eAll_cons hsk
      cases hw
      obtain ⟨w, stk, rfl, hw, hsk2⟩ := eAll_cons hsk1
      cases hw
      have yes : eHolds kc x y → W p l0 e R s m args below meth c H locs cs sl Q (F0 m a ls stk) := fun hq => by
        rw [cHd_ok.mpr hq] at K
        exact (K _ _ _ _ _ _ _ ⟨hK, hP, hD, hS, hpre, hh, hl, hlv, hsk2⟩)
      have no : ¬ eHolds kc x y → W p l0 e R s m args below meth c H locs cs sl Q (F0 m (pc + 3) ls stk) := fun hq => by
        rw [Bool.eq_false_iff.mpr (fun z => hq (cHd_ok.mp z))] at K
        exact (K _ _ _ _ _ _ _ ⟨hK, hP, hD, hS, hpre, hh, hl, hlv, hsk2⟩)
      cases kc
      · exact lv_icmp_eq hx hb (hd (by simp [eLen])) hlk (fun hq => yes hq) (fun hq => no hq)
      · exact lv_icmp_ne hx hb (hd (by simp [eLen])) hlk (fun hq => yes hq) (fun hq => no (fun z => z hq))
      · exact lv_icmp_lt hx hb (hd (by simp [eLen])) hlk (fun hq => yes hq) (fun hq => no hq)
      · exact lv_icmp_ge hx hb (hd (by simp [eLen])) hlk (fun hq => yes hq) (fun hq => no hq)
      · exact lv_icmp_gt hx hb (hd (by simp [eLen])) hlk (fun hq => yes hq) (fun hq => no hq)
      · exact lv_icmp_le hx hb (hd (by simp [eLen])) hlk (fun hq => yes hq) (fun hq => no hq)
    · cases hst
  · split at hst
    · cases hst
      obtain ⟨w, stk, rfl, ⟨y, hya, rfl⟩, hsk1⟩ := eAll_cons hsk
      exact lv_ifnull hx hb (hd (by simp [eLen])) (K _ _ _ _ _ _ _ ⟨hK, hP, hD, hS, hpre, hh, hl, hlv, hsk1⟩)
    · cases hst
      obtain ⟨w, stk, rfl, hw, hsk1⟩ := eAll_cons hsk
      have hw : w = .null := hw
      subst hw
      exact lv_ifnullN hx hb (hd (by simp [eLen])) hlk (K _ _ _ _ _ _ _ ⟨hK, hP, hD, hS, hpre, hh, hl, hlv, hsk1⟩)
    · cases hst
  · split at hst
    · cases hst
      obtain ⟨w, stk, rfl, ⟨y, hya, rfl⟩, hsk1⟩ := eAll_cons hsk
      exact lv_ifnonnull hx hb (hd (by simp [eLen])) hlk (K _ _ _ _ _ _ _ ⟨hK, hP, hD, hS, hpre, hh, hl, hlv, hsk1⟩)
    · cases hst
      obtain ⟨w, stk, rfl, hw, hsk1⟩ := eAll_cons hsk
      have hw : w = .null := hw
      subst hw
      exact lv_ifnonnullN hx hb (hd (by simp [eLen])) (K _ _ _ _ _ _ _ ⟨hK, hP, hD, hS, hpre, hh, hl, hlv, hsk1⟩)
    · cases hst
  · rename_i dflt lo hi offs
    obtain ⟨len, hd0⟩ := hd0
    split at hst
    · rename_i x r
      obtain ⟨w, stk, rfl, hw, hsk1⟩ := eAll_cons hsk
      cases hw
      cases hc : (decide (lo ≤ x.toInt) && decide (x.toInt ≤ hi)) with
      | true =>
        rw [hc] at hst
        rw [Bool.and_eq_true, decide_eq_true_eq, decide_eq_true_eq] at hc
        simp only [cond_true] at hst
        split at hst
        · rename_i off hoff
          obtain ⟨hn, hg⟩ := eCond hst
          cases hg
          have hn := of_decide_eq_true hn
          exact lv_tableIn hx hb hd0 (by omega) (by omega) hoff (by omega) (K _ _ _ _ _ _ _ ⟨hK, hP, hD, hS, hpre, hh, hl, hlv, hsk1⟩)
        · cases hst
      | false =>
        rw [hc] at hst
        obtain ⟨hn, hg⟩ := eCond (show cond _ _ none = some S' from hst)
        cases hg
        have hn := of_decide_eq_true hn
        rw [Bool.and_eq_false_iff, decide_eq_false_iff_not, decide_eq_false_iff_not] at hc
        exact lv_tableOut hx hb hd0 (by omega) (by omega) (K _ _ _ _ _ _ _ ⟨hK, hP, hD, hS, hpre, hh, hl, hlv, hsk1⟩)
    · cases hst
  · rename_i i0 n1 n2 n3 n4 n5 n6 n7 n8 n9 n10 n11 n12 n13 n14 n15 n16 n17 n18 n19 n20 n21 n22 n23 n24 n25 n26 n27 n28 n29 n30 n31 n32 n33 n34 n35 n36 n37 n38
    have un : ∀ {v z : cV} {r : List cV}, cUn i v = some z → st = v :: r → S' = (pc + 1, l, z :: r, h) → W p l0 e R s m args below meth c H locs cs sl Q (F0 m pc ls stk) := by
      intro v z r hu hs0 hS'
      subst hs0
      subst hS'
      unfold cUn at hu
      split at hu
      · cases hu
        obtain ⟨w, stk, rfl, hw, hsk1⟩ := eAll_cons hsk
        cases hw
        exact lv_i2b hx hb (hd (by simp [eLen])) rfl (K _ _ _ _ _ _ _ ⟨hK, hP, hD, hS, hpre, hh, hl, hlv, rfl, hsk1⟩)
      · cases hu
        obtain ⟨w, stk, rfl, hw, hsk1⟩ := eAll_cons hsk
        cases hw
        exact lv_i2l hx hb (hd (by simp [eLen])) rfl (K _ _ _ _ _ _ _ ⟨hK, hP, hD, hS, hpre, hh, hl, hlv, rfl, hsk1⟩)
      · cases hu
        obtain ⟨w, stk, rfl, hw, hsk1⟩ := eAll_cons hsk
        cases hw
        exact lv_l2i hx hb (hd (by simp [eLen])) rfl (K _ _ _ _ _ _ _ ⟨hK, hP, hD, hS, hpre, hh, hl, hlv, rfl, hsk1⟩)
      · cases hu
    split at hst
    · rename_i y x r
      split at hst
      · rename_i z hz
        cases hst
        obtain ⟨w, stk, rfl, hw, hsk1⟩ := eAll_cons hsk
        cases hw
        obtain ⟨w, stk, rfl, hw, hsk2⟩ := eAll_cons hsk1
        cases hw
        unfold cBin at hz
        split at hz
        · cases hz
          exact lv_iadd hx hb (hd (by simp [eLen])) (K _ _ _ _ _ _ _ ⟨hK, hP, hD, hS, hpre, hh, hl, hlv, rfl, hsk2⟩)
        · cases hz
          exact lv_isub hx hb (hd (by simp [eLen])) (K _ _ _ _ _ _ _ ⟨hK, hP, hD, hS, hpre, hh, hl, hlv, rfl, hsk2⟩)
        · cases hz
          exact lv_imul hx hb (hd (by simp [eLen])) (K _ _ _ _ _ _ _ ⟨hK, hP, hD, hS, hpre, hh, hl, hlv, rfl, hsk2⟩)
        · cases hz
          exact lv_iand hx hb (hd (by simp [eLen])) (K _ _ _ _ _ _ _ ⟨hK, hP, hD, hS, hpre, hh, hl, hlv, rfl, hsk2⟩)
        · cases hz
          exact lv_ior hx hb (hd (by simp [eLen])) (K _ _ _ _ _ _ _ ⟨hK, hP, hD, hS, hpre, hh, hl, hlv, rfl, hsk2⟩)
        · cases hz
          exact lv_ixor hx hb (hd (by simp [eLen])) (K _ _ _ _ _ _ _ ⟨hK, hP, hD, hS, hpre, hh, hl, hlv, rfl, hsk2⟩)
        · cases hz
          exact lv_ishl hx hb (hd (by simp [eLen])) (K _ _ _ _ _ _ _ ⟨hK, hP, hD, hS, hpre, hh, hl, hlv, rfl, hsk2⟩)
        · cases hz
          exact lv_ishr hx hb (hd (by simp [eLen])) (K _ _ _ _ _ _ _ ⟨hK, hP, hD, hS, hpre, hh, hl, hlv, rfl, hsk2⟩)
        · cases hz
          exact lv_iushr hx hb (hd (by simp [eLen])) rfl (K _ _ _ _ _ _ _ ⟨hK, hP, hD, hS, hpre, hh, hl, hlv, rfl, hsk2⟩)
        · by_cases hy : y = 0
          · rw [decide_eq_true hy] at hz
            cases hz
          · rw [decide_eq_false hy] at hz
            cases hz
            exact lv_irem hx hb (hd (by simp [eLen])) hy (K _ _ _ _ _ _ _ ⟨hK, hP, hD, hS, hpre, hh, hl, hlv, rfl, hsk2⟩)
        · by_cases hy : y = 0
          · rw [decide_eq_true hy] at hz
            cases hz
          · rw [decide_eq_false hy] at hz
            cases hz
            exact lv_idiv hx hb (hd (by simp [eLen])) hy (K _ _ _ _ _ _ _ ⟨hK, hP, hD, hS, hpre, hh, hl, hlv, rfl, hsk2⟩)
        · cases hz
      · split at hst
        · rename_i z hz
          cases hst
          exact un hz rfl rfl
        · cases hst
    · rename_i y x r
      split at hst
      · rename_i z hz
        cases hst
        obtain ⟨w, stk, rfl, hw, hsk1⟩ := eAll_cons hsk
        cases hw
        obtain ⟨w, stk, rfl, hw, hsk2⟩ := eAll_cons hsk1
        cases hw
        unfold cLn at hz
        split at hz
        · cases hz
          exact lv_ladd hx hb (hd (by simp [eLen])) (K _ _ _ _ _ _ _ ⟨hK, hP, hD, hS, hpre, hh, hl, hlv, rfl, hsk2⟩)
        · cases hz
          exact lv_lmul hx hb (hd (by simp [eLen])) (K _ _ _ _ _ _ _ ⟨hK, hP, hD, hS, hpre, hh, hl, hlv, rfl, hsk2⟩)
        · cases hz
          exact W.lcmp hx hb (hd (by simp [eLen])) (K _ _ _ _ _ _ _ ⟨hK, hP, hD, hS, hpre, hh, hl, hlv, rfl, hsk2⟩)
        · cases hz
      · split at hst
        · rename_i z hz
          cases hst
          exact un hz rfl rfl
        · cases hst
    · split at hst
      · rename_i z hz
        cases hst
        exact un hz rfl rfl
      · cases hst
    · cases hst
end CSO
