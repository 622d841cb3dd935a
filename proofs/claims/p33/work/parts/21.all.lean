/-! THE ENGINE, 10: every run is right. -/
theorem eFind_ok : ∀ {ch : List eN} {pc : Nat} {en : eN}, eFind ch pc = some en → en.1 = pc ∧ en ∈ ch
  | [], pc, en, h => by cases h
  | q :: ch, pc, en, h => by
    unfold eFind at h
    cases hb : Nat.beq q.1 pc with
    | true =>
      rw [hb] at h
      cases h
      exact ⟨Nat.eq_of_beq_eq_true hb, List.mem_cons_self⟩
    | false =>
      rw [hb] at h
      obtain ⟨h1, h2⟩ := eFind_ok (ch := ch) h
      exact ⟨h1, List.mem_cons_of_mem _ h2⟩
theorem eAt_ok {code : List (List eN)} {pc : Nat} {en : eN} (h : eAt code pc = some en) : en.1 = pc ∧ en ∈ code.flatten := by
  unfold eAt at h
  split at h
  · rename_i ch hch
    obtain ⟨h1, h2⟩ := eFind_ok h
    exact ⟨h1, List.mem_flatten.mpr ⟨ch, List.mem_of_getElem? hch, h2⟩⟩
  · cases h
theorem eColl_ok {α : Type} {f : α → Option (List eS)} : ∀ {xs : List α} {ys : List eS}, eColl f xs = some ys → ∀ x ∈ xs, ∃ zs, f x = some zs ∧ ∀ z ∈ zs, z ∈ ys
  | [], ys, h, x, hx => absurd hx List.not_mem_nil
  | a :: xs, ys, h, x, hx => by
    unfold eColl at h
    split at h
    · cases h
    · rename_i z1 h1
      split at h
      · cases h
      · rename_i z2 h2
        cases h
        rcases List.mem_cons.mp hx with rfl | hx
        · exact ⟨z1, h1, fun z hz => List.mem_append_left _ hz⟩
        · obtain ⟨zs, g1, g2⟩ := eColl_ok h2 x hx
          exact ⟨zs, g1, fun z hz => List.mem_append_right _ (g2 z hz)⟩
theorem eOuts_ok {N : eM} : ∀ {fs : List eS} {os : List (Option eV × eH)}, eOuts N fs = some os → ∀ f ∈ fs, ∃ v, eRet N f = some v ∧ (v, f.2.2.2.1) ∈ os
  | [], os, h, f, hf => absurd hf List.not_mem_nil
  | a :: fs, os, h, f, hf => by
    unfold eOuts at h
    split at h
    · cases h
    · rename_i v h1
      split at h
      · cases h
      · rename_i os' h2
        cases h
        rcases List.mem_cons.mp hf with rfl | hf
        · exact ⟨v, h1, List.mem_cons_self⟩
        · obtain ⟨w, g1, g2⟩ := eOuts_ok h2 f hf
          exact ⟨w, g1, List.mem_cons_of_mem _ g2⟩
theorem eArgs_ok {ad : List Nat} {σ : Nat → Int} : ∀ {as : List eV} {vs : List Value} (i : Nat), eAll (eOk ad σ) as vs → eAll (eLo ad σ) (eArgs i as) (lv_args i vs)
  | [], _, i, h => by rw [eAll_nil h]; trivial
  | a :: as, _, i, h => by
    obtain ⟨w, vs, rfl, h1, h2⟩ := eAll_cons h
    refine ⟨⟨rfl, h1⟩, ?_⟩
    have e := eOk_cat h1
    have e2 : (cond (Nat.beq (eCat a) 2) (i + 2) (i + 1)) = (if w.category = 2 then i + 2 else i + 1) := by
      rw [e]
      by_cases hc : eCat a = 2
      · rw [if_pos hc, hc]; rfl
      · rw [if_neg hc]
        cases hb : Nat.beq (eCat a) 2 with
        | true => exact absurd (Nat.eq_of_beq_eq_true hb) hc
        | false => rfl
    show eAll (eLo ad σ) (eArgs (cond (Nat.beq (eCat a) 2) (i + 2) (i + 1)) as) _
    rw [e2]
    exact eArgs_ok _ h2
theorem eSl_ok {ad : List Nat} {σ : Nat → Int} : ∀ {as : List eV} {vs : List Value}, eAll (eOk ad σ) as vs → (lg_sl vs).length = eCats as
  | [], _, h => by rw [eAll_nil h]; rfl
  | a :: as, _, h => by
    obtain ⟨w, vs, rfl, h1, h2⟩ := eAll_cons h
    have e := eOk_cat h1
    have ih := eSl_ok h2
    unfold lg_sl at ih ⊢
    rw [List.flatMap_cons, List.length_append, ih, e]
    show _ = eCat a + eCats as
    congr 1
    match a with
    | .inl _ => rfl
    | .inr (.inl none) => rfl
    | .inr (.inl (some _)) => rfl
    | .inr (.inr _) => rfl
section EGL
variable (Fz : (Nat → Prop) → State → Heap → Prop) (l0 : Launch) (cl : List vw_C) (Ts : List Cond) (nst : List (String × Nat × MethodName × String)) (sr : List (Int × Int)) (dfs : List (List eV)) (ms : List eM) (yt : List eY)
def eCx (M : eM) (Y : eY) (d : Nat) (p : Program) (R : Room) (s : State) (m : MethodId) (args : Array Value) (meth : Method) (c : Code) : Prop :=
  p.tables.exec = Jvm.exec ∧ c.code = Y.2.1 ∧ s.vm.findClass Y.1.cls = some m.cls ∧ (∀ w ∈ Ts, w.before args s = true) ∧ c.maxLocals = M.2.1 ∧ ((Y.1.name == "<init>") = true → meth.name = "<init>") ∧ eXt nst s ∧ d ≤ R.frames ∧ 128 * d ≤ R.locals ∧ R.cells = M.2.2.1 ∧ R.slots = M.2.2.2.1
def eGl (d y : Nat) (S : eS) (fins : List eS) : Prop := ∀ (M : eM) (Y : eY), ms[y]? = some M → yt[y]? = some Y → ∀ (p : Program) (e : Env) (R : Room) (s : State) (m : MethodId) (args : Array Value) (below : List Frame) (meth : Method) (c : Code), eCx Ts nst M Y d p R s m args meth c → ∀ (D : va_G) (A : Nat → Prop) (H0 : Heap) (σ : Nat → Int) (ad0 : List Nat), eSg sr σ → (∀ q, H0.size ≤ q → A q) → Fz A s H0 → ∀ Q : State → Prop,
  (∀ f ∈ fins, ∀ (H : Heap) (locs : List Loc) (ws : va_W) (tys : List (ClassId × FieldType)) (ls : Array Slot) (lv : List (Nat × Value)) (stk : List Value), eCn D cl A H0 s σ M.2.1 ad0 f H locs ws tys ls lv stk → W p l0 e R s m args below meth c H locs f.2.2.2.2.1 f.2.2.2.2.2 Q (F0 m f.1 ls stk)) →
  ∀ (H : Heap) (locs : List Loc) (ws : va_W) (tys : List (ClassId × FieldType)) (ls : Array Slot) (lv : List (Nat × Value)) (stk : List Value), eCn D cl A H0 s σ M.2.1 ad0 S H locs ws tys ls lv stk → W p l0 e R s m args below meth c H locs S.2.2.2.2.1 S.2.2.2.2.2 Q (F0 m S.1 ls stk)
end EGL
section EAX
variable {Fz : (Nat → Prop) → State → Heap → Prop} {l0 : Launch} {cl : List vw_C} {Ts : List Cond} {nst : List (String × Nat × MethodName × String)} {sr : List (Int × Int)} {dfs : List (List eV)} {ms : List eM} {yt : List eY}
/-- a run from a method's first instruction to its returns is a contract -/
theorem eCon_of (hT : eAll (eMok cl Ts nst ms yt) ms yt) {d b : Nat} {as : List eV} {h : eH} {fs : List eS} {os : List (Option eV × eH)} {N : eM} (hN : ms[b]? = some N) (hca : eCats as ≤ N.2.1) (hg : eGl Fz l0 cl Ts nst sr ms yt d b (0, eArgs 0 as, [], h, 0, 0) fs) (ho : eOuts N fs = some os) : eCon Fz l0 cl Ts nst sr ms yt d b as h os := by
  intro M Y hM hY D σ ws tys vs sz hs hh has
  have eM := Option.some.inj (hN.symm.trans hM)
  subst eM
  obtain ⟨Y', hY', hok⟩ := eAll_get hT hN
  have eY' := Option.some.inj (hY'.symm.trans hY)
  subst eY'
  refine Met.ofW (cc := Y'.2.1) (maxL := N.2.1) (ret := Y'.2.2) hok.2.2.2.1 rfl ?_
  intro p e s m args below meth c s₁ B hml hv
  obtain ⟨rfl, hsz, hP, hK, hD0, hXt, hFz⟩ := hv
  have hts := atoms_spec (ws := Cond.code Y'.1 Y'.2.1 N.2.1 Y'.2.2 :: Ts) B.pre
  have hlocks := B.notSynchronized
  have hD := hD0.self (sz := s.heap.size)
  have hl := lv_entry vs (n := N.2.1) (by rw [eSl_ok has]; exact hca)
  rw [lg_entry_eq]
  generalize (lg_sl vs ++ List.replicate (N.2.1 - (lg_sl vs).length) Slot.unset).toArray = ls at hl ⊢
  subst hsz
  have hcx : eCx Ts nst N Y' d p (eRm d N) s m vs.toArray meth c := ⟨B.exec, B.bytes, findClass_of_methodNamed B.named, fun w hw => hts w (List.mem_cons_of_mem _ hw), hml, fun hi => by rw [(name_of_methodNamed B.named B.method).1]; exact eq_of_beq hi, hXt, Nat.le_refl _, Nat.le_refl _, rfl, rfl⟩
  refine hg N Y' hN hY p e (eRm d N) s m vs.toArray below meth c hcx D (va_A ws s.heap.size) s.heap σ (ws.map Prod.fst) hs (fun q hq => Or.inr hq) hFz _ ?_ s.heap [] ws tys ls (lv_args 0 vs) [] ⟨hK, hP, hD, va_S.rf, ⟨[], by simp⟩, hh, hl, eArgs_ok 0 has, trivial⟩
  intro f hf H locs ws' tys' ls' lv' stk' hc
  obtain ⟨hK', hP', hD', hS', hpre', hh', hl', hlv', hsk'⟩ := hc
  obtain ⟨v, hr, hmem⟩ := eOuts_ok ho f hf
  unfold eRet at hr
  obtain ⟨hb, hr2⟩ := eCond hr
  clear hr
  rw [Bool.and_eq_true] at hb
  refine W.widen (Nat.le_of_ble_eq_true hb.1) (Nat.le_of_ble_eq_true hb.2) ?_
  have hq : ∀ (w : Option Value) (t : State), eOv (ws'.map Prod.fst) σ v w → t.heap = H → s.WarmedH t.vm → eQ cl D σ ws os s.heap.size vs.toArray s (.returned w) t := fun w t hov ht hW => ⟨⟨_, hmem, w, ws', tys', rfl, hov, hpre', hh', by rw [ht]; exact hP', va_K.moved hW.alike hK', hD'⟩, hS'.F ht⟩
  have hfr : ∀ q ∈ locs, va_A ws s.heap.size q.base := hS'.2.2
  split at hr2
  · rename_i en hen
    obtain ⟨hpc, hmem2⟩ := eAt_ok hen
    have hdec := (hok.1 en hmem2).1
    have hrt := hok.2.2.2.2.2.2
    have hst : ∀ x, f.2.2.1 = x → eAll (eOk (ws'.map Prod.fst) σ) x stk' := fun x hx => hx ▸ hsk'
    split at hr2
    · rename_i h1 h2 h3
      cases hr2
      have e1 := eAll_nil (hst _ h3)
      subst e1
      rw [h2] at hdec
      rw [h1] at hrt
      have hdec := hdec (by simp [eLen])
      rw [hpc] at hdec
      exact W.vret B.exec B.bytes (by rw [B.returns]; exact hrt) (fun t ht hW => hq none t trivial ht hW) hfr hdec
    · rename_i q h1 h2 h3
      cases hr2
      obtain ⟨w, r, rfl, ⟨x, rfl, hxq⟩, hn⟩ := eAll_cons (hst _ h3)
      have e1 := eAll_nil hn
      subst e1
      rw [h2] at hdec
      rw [h1] at hrt
      have hdec := hdec (by simp [eLen])
      rw [hpc] at hdec
      exact W.iret B.exec B.bytes (by rw [B.returns]; exact hrt) (fun t ht hW => hq (some (.int x)) t ⟨x, rfl, hxq⟩ ht hW) hfr hdec
    · rename_i q h1 h2 h3
      obtain ⟨hbo, hr3⟩ := eCond hr2
      cases hr3
      obtain ⟨w, r, rfl, ⟨x, rfl, hxq⟩, hn⟩ := eAll_cons (hst _ h3)
      have e1 := eAll_nil hn
      subst e1
      rw [h2] at hdec
      rw [h1] at hrt
      have hdec := hdec (by simp [eLen])
      rw [hpc] at hdec
      have hx01 : x = 0 ∨ x = 1 := e_bool hs.1 hxq hbo
      exact W.zret B.exec B.bytes (by rw [B.returns]; exact hrt) (by rcases hx01 with rfl | rfl <;> decide) (fun t ht hW => hq (some (.int x)) t ⟨x, rfl, hxq⟩ ht hW) hfr hdec
    · rename_i u h1 h2 h3
      cases hr2
      obtain ⟨w, r, rfl, ⟨x, rfl, hxy⟩, hn⟩ := eAll_cons (hst _ h3)
      have e1 := eAll_nil hn
      subst e1
      rw [h2] at hdec
      rw [h1] at hrt
      have hdec := hdec (by simp [eLen])
      rw [hpc] at hdec
      exact W.lret B.exec B.bytes (by rw [B.returns]; exact hrt) (fun t ht hW => hq (some (.long x)) t ⟨x, rfl, hxy⟩ ht hW) hfr hdec
    · rename_i k h1 h2 h3
      cases hr2
      obtain ⟨w, r, rfl, ⟨x, hxa, rfl⟩, hn⟩ := eAll_cons (hst _ h3)
      have e1 := eAll_nil hn
      subst e1
      rw [h2] at hdec
      rw [h1] at hrt
      have hdec := hdec (by simp [eLen])
      rw [hpc] at hdec
      obtain ⟨rt, hrt1, hrt2⟩ := hrt
      exact W.aret B.exec B.bytes (by rw [B.returns]; exact hrt1) hrt2 (Or.inr ⟨x, rfl⟩) (fun t ht hW => hq (some (.ref x)) t ⟨x, hxa, rfl⟩ ht hW) hfr hdec
    · cases hr2
  · cases hr2
end EAX
