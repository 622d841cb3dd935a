/-! THE ENGINE, 7: rows of rows. -/
section EMU
variable {p : Program} {l0 : Launch} {e : Env} {R : Room} {s : State} {m : MethodId} {args : Array Value} {below : List Frame} {meth : Method} {c : Code} {Q : State → Prop}
variable {cc : ByteArray} {own : String} {Ts : List Cond} {cl : List vw_C} {sr : List (Int × Int)} {σ : Nat → Int} {D : va_G} {A : Nat → Prop} {H0 : Heap} {ad0 : List Nat} {nL Rc Rs : Nat}
theorem eMul_ok (hx : p.tables.exec = Jvm.exec) (hb : c.code = cc) (hown : s.vm.findClass own = some m.cls) (hts : ∀ w ∈ Ts, w.before args s = true) (hov : (Cond.arrayOver (.array .int)).before args s = true) (hRc : R.cells = Rc) (hRs : R.slots = Rs) (hs : eSg sr σ) (hA : ∀ q, H0.size ≤ q → A q)
    {idx pc cs sl cs' sl' : Nat} {l : eL} {st st' : List eV} {h h' : eH} (hd : decode cc pc = .ok (.multianewarray idx 2, 4)) (hcl : Cond.classLink own idx ("[" ++ (FieldType.array .int).toString) ∈ Ts) (hac : Cond.arrayClass .int ∈ Ts)
    (hst : eMul Rc Rs st h cs sl = some (st', h', cs', sl'))
    (K : ∀ (H : Heap) (locs : List Loc) (ws : va_W) (tys : List (ClassId × FieldType)) (ls : Array Slot) (lv : List (Nat × Value)) (stk : List Value), eCn D cl A H0 s σ nL ad0 (pc + 4, l, st', h', cs', sl') H locs ws tys ls lv stk → W p l0 e R s m args below meth c H locs cs' sl' Q (F0 m (pc + 4) ls stk)) :
    ∀ (H : Heap) (locs : List Loc) (ws : va_W) (tys : List (ClassId × FieldType)) (ls : Array Slot) (lv : List (Nat × Value)) (stk : List Value), eCn D cl A H0 s σ nL ad0 (pc, l, st, h, cs, sl) H locs ws tys ls lv stk → W p l0 e R s m args below meth c H locs cs sl Q (F0 m pc ls stk) := by
  intro H locs ws tys ls lv stk hc
  obtain ⟨hK, hP, hD, hS, hpre, hh, hl, hlv, hsk⟩ := hc
  have h0 := hs.1
  unfold eMul at hst
  split at hst
  · split at hst
    · rename_i k n hk hn
      obtain ⟨hc, hg⟩ := eCond hst
      clear hst
      cases hg
      simp only [Bool.and_eq_true] at hc
      obtain ⟨⟨⟨⟨⟨n1, n2⟩, n3⟩, n4⟩, n5⟩, n6⟩ := hc
      have n1 := eLe_ok n1
      have n2 := eLe_ok n2
      have n3 := Nat.le_of_ble_eq_true n3
      have n4 := Nat.le_of_ble_eq_true n4
      have n5 := Nat.le_of_ble_eq_true n5
      have n6 := Nat.le_of_ble_eq_true n6
      obtain ⟨w, stk, rfl, ⟨x1, rfl, hx1⟩, hsk1⟩ := eAll_cons hsk
      obtain ⟨w, stk, rfl, ⟨x2, rfl, hx2⟩, hsk2⟩ := eAll_cons hsk1
      have e1 := eOne_ok h0 hx1 hk
      have e2 := eOne_ok h0 hx2 hn
      subst e1
      subst e2
      have neg : ∀ z : Int32, 0 ≤ z.toInt → ¬ z < 0 := fun z hz q => by have := Int32.lt_iff_toInt_lt.mp q; have e : (0 : Int32).toInt = 0 := rfl; omega
      have hacb := hts _ hac
      obtain ⟨cy, kc, comp, f1, f2, f3⟩ := Cond.arrayClass_spec hacb
      have hAi : ArrOfT s cy .int := fun N z => ⟨(fun q hq => by cases hq), kc, f2, comp, f3⟩
      generalize hN : x2.toNatClampNeg = N at *
      generalize hM : x1.toNatClampNeg = M at *
      have eN : ∀ X : va_W, X ++ va_pl [] (fun _ => (.inr (0, []) : va_E)) = X := fun X => by simp [va_pl]
      refine va_mna (X := ws) (L := []) (f := fun _ => .inr (0, [])) (ty := .int) (cy := cy) (N' := N) (K' := M) (z := (M, .inl (fun _ => 0))) hx hb hown (hts _ hcl) hov hacb f1 hK (by rw [eN]; exact hP) (by rw [eN]; exact hD) hS hA (neg _ n2) (neg _ n1) hN hM (by omega) (by show M * 4 ≤ _; omega) (by omega) rfl rfl (by rw [hRc]; exact n5) (by rw [hRs]; exact n6) (fun c => arrV_new c M (.int 0)) hd ?_
      intro q r cA H1 hinj hnL hK2 hP2 hD2 hS2
      have eW : (ws ++ [(q, (.inl (cA, N, .inr (.inr (.inr (.inr (fun i => if i < N then some (r i) else none))))) : va_E))]) ++ va_pl ([] ++ (List.range N).map r) (vr_up (fun _ => .inr (0, [])) ((List.range N).map r) (.inl (cy, M, .inl (fun _ => 0)))) = ws ++ ((q, .inl (cA, N, .inr (.inr (.inr (.inr (fun i => if i < N then some (r i) else none)))))) :: (List.range N).map (fun i => (r i, (.inl (cy, M, .inl (fun _ => (0 : Int32))) : va_E)))) := by
        rw [List.append_assoc]
        congr 1
        unfold va_pl
        rw [List.nil_append, List.map_map]
        show _ :: _ = _ :: _
        congr 1
        apply List.map_congr_left
        intro i hi
        show (r i, vr_up _ _ _ (r i)) = _
        rw [vr_up_in (List.mem_map.mpr ⟨i, hi, rfl⟩)]
      rw [eW] at hP2 hD2
      have hK3 : va_K D cl (tys ++ [(cA, .array .int), (cy, .int)]) s := by
        have := va_K.app hK2 (t2 := [(cy, .int)]) ⟨hK.1, fun k9 x9 hx9 => by
          have hz : k9 < 1 := (List.getElem?_eq_some_iff.mp hx9).1
          rw [show k9 = 0 by omega] at hx9
          cases hx9
          exact ⟨hAi, f1⟩⟩
        rw [List.append_assoc] at this
        exact this
      have hlen := eAll_len hh
      generalize hR : (q, (.inl (cA, N, .inr (.inr (.inr (.inr (fun i => if i < N then some (r i) else none))))) : va_E)) :: (List.range N).map (fun i => (r i, (.inl (cy, M, .inl (fun _ => (0 : Int32))) : va_E))) = RW at hP2 hD2
      have eA : ∃ t, (ws ++ RW).map Prod.fst = ws.map Prod.fst ++ t := ⟨RW.map Prod.fst, by rw [List.map_append]⟩
      have atR : ∀ j : Nat, j < N → ((ws ++ RW).map Prod.fst)[h.length + 1 + j]? = some (r j) := by
        intro j hj
        rw [List.getElem?_map, hlen, List.getElem?_append_right (by omega), ← hR, show ws.length + 1 + j - ws.length = j + 1 by omega, List.getElem?_cons_succ, List.getElem?_map, List.getElem?_range hj]
        rfl
      refine K _ _ (ws ++ RW) (tys ++ [(cA, .array .int), (cy, .int)]) _ _ _ ⟨hK3, hP2, hD2, hS2, ?_, eAll_app (eAll_mono (fun _ _ => eCk_ad eA ⟨_, rfl⟩) hh) ?_, hl, eAll_mono (fun _ _ z => ⟨z.1, eOk_ad eA z.2⟩) hlv, ⟨q, ?_, rfl⟩, eAll_mono (fun _ _ => eOk_ad eA) hsk2⟩
      · obtain ⟨t, ht⟩ := hpre
        exact ⟨t ++ RW.map Prod.fst, by rw [List.map_append, ht, List.append_assoc]⟩
      · unfold eGrid
        rw [← hR]
        refine ⟨⟨cA, tys.length, by simp [eTy], by show N < 2 ^ 31; omega, _, rfl, fun j hj => ?_⟩, ?_⟩
        · refine ⟨.inr (.inl (some (h.length + 1 + j))), ?_, ?_⟩
          · rw [List.getElem?_map, List.getElem?_range hj]
            rfl
          · show eOk _ σ _ (va_rf (if j < N then some (r j) else none))
            rw [if_pos hj]
            rw [← hR] at atR
            exact ⟨r j, atR j hj, rfl⟩
        · have gen : ∀ L : List Nat, eAll (eCk ((ws ++ ((q, (.inl (cA, N, .inr (.inr (.inr (.inr (fun i => if i < N then some (r i) else none))))) : va_E)) :: (List.range N).map (fun i => (r i, (.inl (cy, M, .inl (fun _ => (0 : Int32))) : va_E))))).map Prod.fst) σ (tys ++ [(cA, .array .int), (cy, .int)])) (List.replicate L.length (.inr (0, M, .inl (List.replicate M eZero)))) (L.map (fun i => (r i, (.inl (cy, M, .inl (fun _ => (0 : Int32))) : va_E)))) := by
            intro L
            induction L with
            | nil => trivial
            | cons i L ih =>
              refine ⟨⟨cy, tys.length + 1, ?_, by show M < 2 ^ 31; omega, _, rfl, fun j hj => ⟨eZero, by simp [hj], 0, rfl, eIn_mk (by rw [h0]; decide) (by rw [h0]; decide)⟩⟩, ih⟩
              rw [List.getElem?_append_right (by omega), show tys.length + 1 - tys.length = 1 by omega]
              rfl
          have := gen (List.range N)
          rw [List.length_range] at this
          exact this
      · rw [List.getElem?_map, hlen, List.getElem?_append_right (by omega), Nat.sub_self, ← hR]
        rfl
    · cases hst
  · cases hst
end EMU
