/-! THE ENGINE, 8: a run is right. -/
abbrev eY : Type := MethodName × ByteArray × Option FieldType
/-- what goes on over calls beside the words: the links between nest mates, the class of rows of rows -/
def eXt (nst : List (String × Nat × MethodName × String)) (U : State) : Prop := (∀ q ∈ nst, va_Nw (.methodLinkNest q.1 q.2.1 q.2.2.1 q.2.2.2) U) ∧ (Cond.arrayOver (.array .int)).before #[] U = true
theorem eXt.warm {nst : List (String × Nat × MethodName × String)} {s U : State} (hW : s.WarmedH U.vm) (h : eXt nst s) : eXt nst U := by
  refine ⟨fun q hq => va_Nw.warmM hW (h.1 q hq), ?_⟩
  have := Cond.arrayOver_setVmC (args := #[]) hW.alike (.array .int)
  rw [h.2] at this
  exact this
def eRtk (r : Nat) (ret : Option FieldType) : Prop := match r with
  | 0 => ret = none
  | 1 => ret = some .int
  | 2 => ret = some .boolean
  | 3 => ret = some .long
  | _ => ∃ rt, ret = some rt ∧ ((∃ n, rt = .object n) ∨ ∃ t, rt = .array t)
/-- what lies outside and stays: it goes over to later heaps, later tables, fewer cells of one's own -/
def eFzOk (Fz : (Nat → Prop) → State → Heap → Prop) : Prop := (∀ (A B : Nat → Prop) (U U' : State) (H H' : Heap), Fz A U H → U.WarmedH U'.vm → (∀ q : Nat, q < H.size → ¬ A q → H'[q]? = H[q]?) → (∀ q, B q → A q) → Fz B U' H') ∧ ∀ (A : Nat → Prop) (U U' : State) (H : Heap), Fz A U H → U.vm = U'.vm → Fz A U' H
section ERN
variable (Fz : (Nat → Prop) → State → Heap → Prop) (l0 : Launch) (cl : List vw_C) (Ts : List Cond) (nst : List (String × Nat × MethodName × String)) (sr : List (Int × Int)) (dfs : List (List eV)) (ms : List eM) (yt : List eY)
/-- what links a call -/
def eLi (own : String) (i : Instr) (a b d : Nat) : Prop := match i with
  | .invokevirtual idx => a = 0 ∧ ∃ (M : eM) (Y : eY), ms[b]? = some M ∧ yt[b]? = some Y ∧ Cond.methodLink own idx Y.1 ∈ Ts ∧ Cond.instanceMethod Y.1 ∈ Ts ∧ Cond.selects Y.1.cls Y.1 Y.1 ∈ Ts ∧ ∃ (T : u_T) (N : Nat), cl[d]? = some (Y.1.cls, T, N)
  | .invokestatic idx => (6 < a ∧ eLb Ts own idx a) ∨ (a < 6 ∧ ∃ (M : eM) (Y : eY), ms[b]? = some M ∧ yt[b]? = some Y ∧ Cond.static Y.1 ∈ Ts ∧ ((a = 1 ∧ Cond.methodLink own idx Y.1 ∈ Ts) ∨ (a = 4 ∧ ∃ host, (own, idx, Y.1, host) ∈ nst)))
  | .invokespecial idx => (a = 6 ∧ eLb Ts own idx a) ∨ (a < 6 ∧ ∃ (M : eM) (Y : eY), ms[b]? = some M ∧ yt[b]? = some Y ∧ Y.1.name = "<init>" ∧ Y.2.2 = none ∧ Cond.instanceMethod Y.1 ∈ Ts ∧ ((a = 2 ∧ Cond.methodLink own idx Y.1 ∈ Ts) ∨ (a = 5 ∧ ∃ host, (own, idx, Y.1, host) ∈ nst)))
  | .multianewarray idx dim => dim = 2 ∧ Cond.classLink own idx ("[" ++ (FieldType.array .int).toString) ∈ Ts ∧ Cond.arrayClass .int ∈ Ts
  | _ => True
/-- what holds of a method of the table -/
def eMok (M : eM) (Y : eY) : Prop :=
  (∀ en : eN, en ∈ M.1.flatten → (eLen en.2.1 ≠ 0 → decode Y.2.1 en.1 = .ok (en.2.1, eLen en.2.1)) ∧ (∃ len, decode Y.2.1 en.1 = .ok (en.2.1, len)) ∧ eLk cl Ts Y.1.cls (Y.1.name == "<init>") en.2.1 en.1 en.2.2.2.1 en.2.2.2.2.1 en.2.2.2.2.2.2 ∧ eLi cl Ts nst ms yt Y.1.cls en.2.1 en.2.2.2.1 en.2.2.2.2.1 en.2.2.2.2.2.2) ∧
  Cond.code Y.1 Y.2.1 M.2.1 Y.2.2 ∈ Ts ∧ Cond.initialized Y.1.cls ∈ Ts ∧ plainName Y.1.cls = true ∧ (Y.1.cls ≠ "java/lang/invoke/MethodHandle" ∧ Y.1.cls ≠ "java/lang/invoke/VarHandle" ∧ (parseMethodDescriptor Y.1.desc).map (fun d => d.parameters.length) = some M.2.2.2.2.2) ∧ M.2.1 ≤ 100 ∧ eRtk M.2.2.2.2.1 Y.2.2
def eRm (d : Nat) (M : eM) : Room := { frames := d, cells := M.2.2.1, slots := M.2.2.2.1, locals := 128 * d }
def eOv (ad : List Nat) (σ : Nat → Int) (v : Option eV) (w : Option Value) : Prop := match v, w with
  | none, none => True
  | some v, some w => eOk ad σ v w
  | _, _ => False
/-- a method's end: one of the ways that were found -/
def eQ (D : va_G) (σ : Nat → Int) (ws : va_W) (os : List (Option eV × eH)) (sz : Nat) : Array Value → State → Outcome → State → Prop := fun _ st oc t =>
  (∃ o ∈ os, ∃ (w : Option Value) (ws' : va_W) (tys' : List (ClassId × FieldType)), oc = .returned w ∧ eOv (ws'.map Prod.fst) σ o.1 w ∧ (∃ t, ws'.map Prod.fst = ws.map Prod.fst ++ t) ∧ eAll (eCk (ws'.map Prod.fst) σ tys') o.2 ws' ∧ va_P D cl ws' t.heap ∧ va_K D cl tys' t ∧ va_D (va_A ws sz) ws') ∧ va_F (va_A ws sz) st t
def ePc (D : va_G) (ws : va_W) (tys : List (ClassId × FieldType)) (vs : List Value) (sz : Nat) : Array Value → State → Prop := va_Pc vs (fun U => U.heap.size = sz ∧ va_P D cl ws U.heap ∧ va_K D cl tys U ∧ va_D (fun _ => True) ws ∧ eXt nst U ∧ Fz (va_A ws sz) U U.heap)
/-- a call's contract -/
def eCon (d b : Nat) (as : List eV) (h : eH) (os : List (Option eV × eH)) : Prop := ∀ (M : eM) (Y : eY), ms[b]? = some M → yt[b]? = some Y → ∀ (D : va_G) (σ : Nat → Int) (ws : va_W) (tys : List (ClassId × FieldType)) (vs : List Value) (sz : Nat), eSg sr σ → eAll (eCk (ws.map Prod.fst) σ tys) h ws → eAll (eOk (ws.map Prod.fst) σ) as vs →
  Met l0 Y.1 (Cond.code Y.1 Y.2.1 M.2.1 Y.2.2 :: Ts) (eRm d M) (ePc Fz cl nst D ws tys vs sz) (eQ cl D σ ws os sz) M.2.2.1 M.2.2.2.1 (va_A ws sz)
end ERN
theorem ePc_blind {Fz : (Nat → Prop) → State → Heap → Prop} (hF : eFzOk Fz) {cl : List vw_C} {nst : List (String × Nat × MethodName × String)} {D : va_G} {ws : va_W} {tys : List (ClassId × FieldType)} {vs : List Value} {sz : Nat} : FrameBlind (ePc Fz cl nst D ws tys vs sz) := by
  intro a U g mk q
  obtain ⟨q0, q1, qP, qK, qD, qX, qF⟩ := q
  exact ⟨q0, q1, qP, va_K.moved (u := U) (U := U.calling g mk a) (Vm.Alike.refl U.vm) qK, qD, ⟨fun x hx => va_Nw.same rfl rfl (qX.1 x hx), qX.2⟩, hF.2 _ U _ _ qF rfl⟩
theorem eAll_take {α β : Type} {r : α → β → Prop} : ∀ {as : List α} {bs : List β} (n : Nat), eAll r as bs → eAll r (as.take n) (bs.take n)
  | _, _, 0, _ => by simp [eAll]
  | [], [], _ + 1, _ => trivial
  | _ :: _, _ :: _, n + 1, h => ⟨h.1, eAll_take n h.2⟩
theorem eAll_drop {α β : Type} {r : α → β → Prop} : ∀ {as : List α} {bs : List β} (n : Nat), eAll r as bs → eAll r (as.drop n) (bs.drop n)
  | _, _, 0, h => h
  | [], [], _ + 1, _ => trivial
  | _ :: _, _ :: _, n + 1, h => eAll_drop n h.2
section ECB
variable {p : Program} {l0 : Launch} {e : Env} {R : Room} {s : State} {m : MethodId} {args : Array Value} {below : List Frame} {meth : Method} {c : Code} {Q : State → Prop}
variable {cl : List vw_C} {σ : Nat → Int} {D : va_G} {A : Nat → Prop} {H0 : Heap}
theorem eBack {H : Heap} {locs : List Loc} {cs sl mc ms pc : Nat} {ls : Array Slot} {st0 rest : List Value} {ws : va_W} {os : List (Option eV × eH)} {a : Array Value} (hr : va_Run p l0 e R s m args below meth c H locs cs sl mc ms (F0 m pc ls st0) rest (eQ cl D σ ws os H.size a) (va_A ws H.size)) (hS : va_S A H0 H locs) (hA1 : ∀ q, va_A ws H.size q → A q)
    (kk : ∀ o ∈ os, ∀ (w : Option Value) (ws' : va_W) (tys' : List (ClassId × FieldType)) (H1 : Heap) (locs1 : List Loc), eOv (ws'.map Prod.fst) σ o.1 w → (∃ t, ws'.map Prod.fst = ws.map Prod.fst ++ t) → eAll (eCk (ws'.map Prod.fst) σ tys') o.2 ws' → va_P D cl ws' H1 → va_K D cl tys' s → va_D A ws' → va_S A H0 H1 locs1 → W p l0 e R s m args below meth c H1 locs1 (cs + mc) (sl + ms) Q (F0 m (pc + 3) ls (w.toList ++ rest))) : W p l0 e R s m args below meth c H locs cs sl Q (F0 m pc ls st0) := by
  intro T hT X
  obtain ⟨v, st₀, t, T', L, h0, X', hL, e1, e2, ⟨⟨o, ho, w, ws', tys', hv, hov, hpre', hh', hP', hK', hD'⟩, hz, hk⟩, st⟩ := hr T hT X
  cases hv
  rw [h0] at hz hk
  have hal : s.vm.Alike t.vm := by rw [← e2]; exact X'.warmed.alike
  obtain ⟨t2, a1, b1⟩ := kk o ho v ws' tys' T'.heap (locs ++ L) hov hpre' hh' (by rw [e1]; exact hP') (va_K.moved hal.symm hK') (hD'.weaken (fun k q _ h => hA1 q.1 h))
    ⟨Nat.le_trans hS.1 (by rw [e1]; exact hz), fun q h1 h2 => by rw [e1, hk q (Nat.lt_of_lt_of_le h1 hS.1) (fun z => h2 (hA1 q z))]; exact hS.2.1 q h1 h2, fun q hq => by
      rcases List.mem_append.mp hq with h | h
      · exact hS.2.2 q h
      · exact hA1 _ (hL q h)⟩ T' rfl X'
  exact ⟨t2, st t2 a1, b1⟩
end ECB
