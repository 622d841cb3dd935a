/-! THE ENGINE, 5: one step is right. -/
/-- what holds of a place: the world, the locals, the stack -/
def eCn (D : va_G) (cl : List vw_C) (A : Nat → Prop) (H0 : Heap) (s : State) (σ : Nat → Int) (nL : Nat) (ad0 : List Nat) (S : eS) (H : Heap) (locs : List Loc) (ws : va_W) (tys : List (ClassId × FieldType)) (ls : Array Slot) (lv : List (Nat × Value)) (stk : List Value) : Prop :=
  va_K D cl tys s ∧ va_P D cl ws H ∧ va_D A ws ∧ va_S A H0 H locs ∧ (∃ t, ws.map Prod.fst = ad0 ++ t) ∧ eAll (eCk (ws.map Prod.fst) σ tys) S.2.2.2.1 ws ∧ lv_has ls nL lv ∧ eAll (eLo (ws.map Prod.fst) σ) S.2.1 lv ∧ eAll (eOk (ws.map Prod.fst) σ) S.2.2.1 stk
/-- what an instruction's links come to -/
def eLk (cl : List vw_C) (Ts : List Cond) (own : String) (init : Bool) (i : Instr) (pc a b d : Nat) : Prop := match i with
  | .getfield idx => ∃ (C : String) (T : u_T) (N : Nat), cl[a]? = some (C, T, N) ∧ b < N ∧ Cond.fieldLink own idx (T b).1 (T b).2.1 (T b).2.2.1 ∈ Ts
  | .putfield idx => ∃ (C : String) (T : u_T) (N : Nat), cl[a]? = some (C, T, N) ∧ b < N ∧ Cond.fieldLink own idx (T b).1 (T b).2.1 (T b).2.2.1 ∈ Ts ∧ ((T b).2.2.2 = false ∨ (init = true ∧ (T b).1 = own)) ∧ (d = 0 → parseFieldDescriptor (T b).2.2.1 = some .int) ∧ (d = 2 → parseFieldDescriptor (T b).2.2.1 = some .boolean) ∧ (d = 5 → ∃ ty, parseFieldDescriptor (T b).2.2.1 = some ty ∧ ((∃ n, ty = .object n) ∨ ∃ t, ty = .array t))
  | .ldc idx => Cond.constant own idx (Int32.ofNat a) ∈ Ts
  | .ldc_w idx => Cond.constant own idx (Int32.ofNat a) ∈ Ts
  | .ldc2_w idx => Cond.constantLong own idx (Int64.ofNat a) ∈ Ts
  | .newarray t => Cond.arrayClass (newarray.typeOf t) ∈ Ts ∧ newarray.typeOf t = eTy a
  | .new idx => ∃ (C : String) (T : u_T) (N : Nat), cl[a]? = some (C, T, N) ∧ Cond.classLink own idx C ∈ Ts ∧ Cond.instantiable C N ∈ Ts ∧ Cond.initialized C ∈ Ts
  | .goto off => (pc : Int) + off = (a : Int)
  | .ifCond _ off => (pc : Int) + off = (a : Int)
  | .if_icmp _ off => (pc : Int) + off = (a : Int)
  | .ifnull off => (pc : Int) + off = (a : Int)
  | .ifnonnull off => (pc : Int) + off = (a : Int)
  | _ => True
/-- what is known of the classes -/
def eKl (cl : List vw_C) (Ts : List Cond) (dfs : List (List eV)) : Prop := ∀ (ci : Nat) (C : String) (T : u_T) (N : Nat), cl[ci]? = some (C, T, N) → (∀ w ∈ u_ws C T N, w ∈ Ts) ∧ ∃ ty : Nat → FieldType, (∀ k, k < N → parseFieldDescriptor (T k).2.2.1 = some (ty k)) ∧ (∀ a, a < N → ∀ b, b < N → a ≠ b → (T a).2.1 ≠ (T b).2.1) ∧ ∀ fs, dfs[ci]? = some fs → fs.length = N ∧ ∃ vs : List Value, (∀ (ad : List Nat) (σ : Nat → Int), σ 0 = 0 → eAll (eOk ad σ) fs vs) ∧ ∀ j, j < N → defaultValue (ty j) = vp_V vs j
section ESO
variable {p : Program} {l0 : Launch} {e : Env} {R : Room} {s : State} {m : MethodId} {args : Array Value} {below : List Frame} {meth : Method} {c : Code} {Q : State → Prop}
variable {cc : ByteArray} {own : String} {Ts : List Cond} {cl : List vw_C} {dfs : List (List eV)} {init : Bool} {sr : List (Int × Int)} {σ : Nat → Int} {D : va_G} {A : Nat → Prop} {H0 : Heap} {ad0 : List Nat} {nL Rc Rs : Nat}
theorem eTwo_ok {ad : List Nat} {st r : List eV} {a b : eI} {w : List Value} (h : eTwo st = some (a, b, r)) (hw : eAll (eOk ad σ) st w) : ∃ (x y : Int32) (r' : List Value), w = .int y :: .int x :: r' ∧ eIn σ a x ∧ eIn σ b y ∧ eAll (eOk ad σ) r r' := by
  match st, h with
  | .inl b' :: .inl a' :: r', h =>
    cases h
    obtain ⟨w1, ws1, rfl, ⟨y, rfl, hy⟩, h2⟩ := eAll_cons hw
    obtain ⟨w2, ws2, rfl, ⟨x, rfl, hx⟩, h3⟩ := eAll_cons h2
    exact ⟨x, y, ws2, rfl, hx, hy, h3⟩
theorem eGet_at {ad : List Nat} {l : eL} {lv : List (Nat × Value)} {ls : Array Slot} {i : Nat} {v : eV} (hl : lv_has ls nL lv) (h : eAll (eLo ad σ) l lv) (hg : eGet l i = some v) : ∃ w, ls[i]? = some (.val w) ∧ eOk ad σ v w ∧ ∃ k : Nat, lv[k]? = some (i, w) := by
  obtain ⟨w, h1, h2⟩ := eGet_ok h hg
  exact ⟨w, hl.2.2 _ h1, h2, List.getElem?_of_mem h1⟩
theorem eCn_set {k q pc cs sl : Nat} {e0 e1 : va_E} {H1 : Heap} {locs1 : List Loc} {ws : va_W} {tys : List (ClassId × FieldType)} {ls : Array Slot} {lv : List (Nat × Value)} {stk : List Value} {l : eL} {st : List eV} {h' : eH} (hK : va_K D cl tys s) (he : ws[k]? = some (q, e0)) (hP : va_P D cl (ws.set k (q, e1)) H1) (hD : va_D A (ws.set k (q, e1))) (hS : va_S A H0 H1 locs1) (hpre : ∃ t, ws.map Prod.fst = ad0 ++ t) (hh : eAll (eCk (ws.map Prod.fst) σ tys) h' (ws.set k (q, e1))) (hl : lv_has ls nL lv) (hlv : eAll (eLo (ws.map Prod.fst) σ) l lv) (hsk : eAll (eOk (ws.map Prod.fst) σ) st stk) : eCn D cl A H0 s σ nL ad0 (pc, l, st, h', cs, sl) H1 locs1 (ws.set k (q, e1)) tys ls lv stk := by
  have e := eAd_set (e1 := e1) he
  refine ⟨hK, hP, hD, hS, ?_, ?_, hl, ?_, ?_⟩ <;> rw [e] <;> assumption
theorem eCn_app {q pc cs sl : Nat} {e1 : va_E} {cc' : eC} {H1 : Heap} {locs1 : List Loc} {ws : va_W} {tys tys' : List (ClassId × FieldType)} {ls : Array Slot} {lv : List (Nat × Value)} {stk : List Value} {l : eL} {st : List eV} {h : eH} (hK : va_K D cl tys' s) (ht : ∃ t, tys' = tys ++ t) (hP : va_P D cl (ws ++ [(q, e1)]) H1) (hD : va_D A (ws ++ [(q, e1)])) (hS : va_S A H0 H1 locs1) (hpre : ∃ t, ws.map Prod.fst = ad0 ++ t) (hh : eAll (eCk (ws.map Prod.fst) σ tys) h ws) (hc : eCk ((ws ++ [(q, e1)]).map Prod.fst) σ tys' cc' (q, e1)) (hl : lv_has ls nL lv) (hlv : eAll (eLo (ws.map Prod.fst) σ) l lv) (hsk : eAll (eOk (ws.map Prod.fst) σ) st stk) : eCn D cl A H0 s σ nL ad0 (pc, l, .inr (.inl (some h.length)) :: st, h ++ [cc'], cs, sl) H1 locs1 (ws ++ [(q, e1)]) tys' ls lv (.ref q :: stk) := by
  have e : ∃ t, (ws ++ [(q, e1)]).map Prod.fst = ws.map Prod.fst ++ t := ⟨[q], by simp⟩
  refine ⟨hK, hP, hD, hS, ?_, eAll_app (eAll_mono (fun _ _ => eCk_ad e ht) hh) ⟨hc, trivial⟩, hl, eAll_mono (fun _ _ z => ⟨z.1, eOk_ad e z.2⟩) hlv, ⟨q, ?_, rfl⟩, eAll_mono (fun _ _ => eOk_ad e) hsk⟩
  · obtain ⟨t, ht⟩ := hpre
    exact ⟨t ++ [q], by simp [ht]⟩
  · rw [eAll_len hh]
    simp
theorem eNew_ok {a n : Nat} {c' : eC} (h : eNew a n = some c') (hn : n ≤ 60000000) : ∃ a0 : vp_A, (∀ cA : ClassId, vp_cell cA a0 = arrV cA n (fun _ => defaultValue (eTy a))) ∧ n * componentBytes (eTy a) ≤ 536870912 ∧ ∀ (ad : List Nat) (σ : Nat → Int) (tys : List (ClassId × FieldType)) (cA : ClassId) (t0 q : Nat), σ 0 = 0 → tys[t0]? = some (cA, eTy a) → eCk ad σ tys c' (q, .inl (cA, a0)) := by
  have z : ∀ (ad : List Nat) (σ : Nat → Int), σ 0 = 0 → eCt ad σ n (fun _ => 0) (cond (Nat.ble n 410) (.inl (List.replicate n eZero)) (.inr (0, 0))) := by
    intro ad σ h0
    cases Nat.ble n 410 with
    | true => exact fun j hj => ⟨eZero, by simp [hj], 0, rfl, eIn_mk (by rw [h0]; decide) (by rw [h0]; decide)⟩
    | false => exact fun j hj => ⟨by show (0 : Int) ≤ (0 : Int32).toInt; decide, by show (0 : Int32).toInt ≤ (0 : Int); decide⟩
  unfold eNew at h
  split at h
  · cases h
    exact ⟨(n, .inl (fun _ => 0)), fun _ => rfl, by show n * 4 ≤ _; omega, fun ad σ tys cA t0 q h0 ht => ⟨cA, t0, ht, by show n < 2 ^ 31; omega, _, rfl, z ad σ h0⟩⟩
  · cases h
    exact ⟨(n, .inl (fun _ => 0)), fun _ => rfl, by show n * 1 ≤ _; omega, fun ad σ tys cA t0 q h0 ht => ⟨cA, t0, ht, by show n < 2 ^ 31; omega, _, rfl, fun j hj => ⟨by show (-128 : Int) ≤ (0 : Int32).toInt; decide, by show (0 : Int32).toInt ≤ (127 : Int); decide⟩⟩⟩
  · cases h
    exact ⟨(n, .inl (fun _ => 0)), fun _ => rfl, by show n * 1 ≤ _; omega, fun ad σ tys cA t0 q h0 ht => ⟨cA, t0, ht, by show n < 2 ^ 31; omega, _, rfl, z ad σ h0⟩⟩
  · cases h
    exact ⟨(n, .inr (.inl (fun _ => 0))), fun _ => rfl, by show n * 8 ≤ _; omega, fun ad σ tys cA t0 q h0 ht => ⟨cA, t0, ht, by show n < 2 ^ 31; omega, _, rfl, by
      cases hb : Nat.beq n 22 with
      | true => exact fun j hj => ⟨.inr (.inr (some 0)), by simp [hj], 0, rfl, fun y hy => by cases hy; rfl⟩
      | false => trivial⟩⟩
  · cases h
theorem eStF (hx : p.tables.exec = Jvm.exec) (hb : c.code = cc) (hown : s.vm.findClass own = some m.cls) (hts : ∀ w ∈ Ts, w.before args s = true) (hcl : eKl cl Ts dfs) (hin : init = true → meth.name = "<init>")
    {H : Heap} {locs : List Loc} {ws : va_W} {tys : List (ClassId × FieldType)} {ls : Array Slot} {pc idx k a b q cs sl : Nat} {vs rest : List Value} {w : Value} {C : String} {T : u_T} {N : Nat} {ty : FieldType} (hK : va_K D cl tys s) (hP : va_P D cl ws H) (hD : va_D A ws) (hS : va_S A H0 H locs) (he : ws[k]? = some (q, .inr (a, vs))) (hl : b < vs.length) (hc : cl[a]? = some (C, T, N)) (hbN : b < N) (hlink : Cond.fieldLink own idx (T b).1 (T b).2.1 (T b).2.2.1 ∈ Ts) (hfin : (T b).2.2.2 = false ∨ (init = true ∧ (T b).1 = own)) (hty : parseFieldDescriptor (T b).2.2.1 = some ty) (hn : narrow ty w = w) (hfit : fits ty w = true) (hdg : decode cc pc = .ok (.putfield idx, 3))
    (kk : ∀ (H1 : Heap) (locs1 : List Loc), va_P D cl (ws.set k (q, .inr (a, vs.set b w))) H1 → va_D A (ws.set k (q, .inr (a, vs.set b w))) → va_S A H0 H1 locs1 → W p l0 e R s m args below meth c H1 locs1 cs sl Q (F0 m (pc + 3) ls rest)) : W p l0 e R s m args below meth c H locs cs sl Q (F0 m pc ls (w :: .ref q :: rest)) := by
  obtain ⟨h1, ty0, h2, h3, -⟩ := hcl a C T N hc
  cases hf : (T b).2.2.2 with
  | false => exact va_put hx hb hts h1 ty0 h2 h3 hown hK hP hD hS k he hc b hbN (hts _ hlink) (fun _ z => z) hf hty hn hfit hl hdg kk
  | true =>
    rcases hfin with z | ⟨z1, z2⟩
    · rw [hf] at z; cases z
    · exact va_putF hx hb hts h1 ty0 h2 h3 hown hK hP hD hS k he hc b hbN (hts _ hlink) (fun _ z => z) hf (hin z1) z2 hty hn hfit hl hdg kk
theorem e_bool {q : eI} {x : Int32} (h0 : σ 0 = 0) (hq : eIn σ q x) (h : (eOne q == some 0 || eOne q == some 1) = true) : x = 0 ∨ x = 1 := by
  rw [Bool.or_eq_true] at h
  rcases h with h | h
  · exact Or.inl (eOne_ok h0 hq (eq_of_beq h))
  · exact Or.inr (eOne_ok h0 hq (eq_of_beq h))
theorem eAr_len {ad : List Nat} {k n : Nat} {c9 : List eV ⊕ (Int × Int)} {cA : ClassId} {e9 : va_E} (h : eAr ad σ k n c9 cA e9) : ∃ z : vp_A, e9 = .inl (cA, z) ∧ z.1 = n := by
  unfold eAr at h
  split at h
  · obtain ⟨f, h1, -⟩ := h; exact ⟨_, h1, rfl⟩
  · obtain ⟨f, h1, -⟩ := h; exact ⟨_, h1, rfl⟩
  · obtain ⟨f, h1, -⟩ := h; exact ⟨_, h1, rfl⟩
theorem va_aldA {H : Heap} {locs : List Loc} {ws : va_W} {tys : List (ClassId × FieldType)} {ls : Array Slot} {pc cs sl a : Nat} {rest : List Value} (hexec : p.tables.exec = Jvm.exec) (hb : c.code = cc) (hK : va_K D cl tys s) (hP : va_P D cl ws H) (q0 t0 : Nat) {cA : ClassId} {n : Nat} {f : Nat → Option Nat} (ha : ws[q0]? = some (a, .inl (cA, n, .inr (.inr (.inr (.inr f)))))) (ht : tys[t0]? = some (cA, .array .int)) {i : Int32} (hin : vp_in i n) (hdg : decode cc pc = .ok (.aaload, 1))
    (kk : W p l0 e R s m args below meth c H locs cs sl Q (F0 m (pc + 1) ls (va_rf (f i.toNatClampNeg) :: rest))) : W p l0 e R s m args below meth c H locs cs sl Q (F0 m pc ls (.int i :: .ref a :: rest)) := by
  have hlt : i.toNatClampNeg < n := Nat.not_le.mp fun q => hin (Or.inr q)
  exact W.aald (v := va_rf (f i.toNatClampNeg)) (ty := .array .int) hexec hb (hP q0 _ ha) ((hK.2 t0 _ ht).1 n (fun j => va_rf (f j))) rfl (fun q => by cases q) (by show ¬ (i < 0 ∨ (arrV _ _ _).slots.size ≤ _); rw [arrV_size]; exact hin) (by show (arrV _ _ _).slots[_]? = _; rw [arrV_read _ _ hlt]) rfl rfl hdg kk
set_option maxHeartbeats 4000000 in
theorem eStep_ok (hx : p.tables.exec = Jvm.exec) (hb : c.code = cc) (hown : s.vm.findClass own = some m.cls) (hts : ∀ w ∈ Ts, w.before args s = true) (hcl : eKl cl Ts dfs) (hin : init = true → meth.name = "<init>") (hRc : R.cells = Rc) (hRs : R.slots = Rs) (hs : eSg sr σ) (hA : ∀ q, H0.size ≤ q → A q)
    {i : Instr} {pc a b d cs sl : Nat} {l : eL} {st : List eV} {h : eH} {outs : List eS} (hd : eLen i ≠ 0 → decode cc pc = .ok (i, eLen i)) (hd0 : ∃ len, decode cc pc = .ok (i, len)) (hlk : eLk cl Ts own init i pc a b d)
    (hst : eStep sr dfs Rc Rs nL i a b d pc l st h cs sl = some outs)
    (K : ∀ S' ∈ outs, ∀ (H : Heap) (locs : List Loc) (ws : va_W) (tys : List (ClassId × FieldType)) (ls : Array Slot) (lv : List (Nat × Value)) (stk : List Value), eCn D cl A H0 s σ nL ad0 S' H locs ws tys ls lv stk → W p l0 e R s m args below meth c H locs S'.2.2.2.2.1 S'.2.2.2.2.2 Q (F0 m S'.1 ls stk)) :
    ∀ (H : Heap) (locs : List Loc) (ws : va_W) (tys : List (ClassId × FieldType)) (ls : Array Slot) (lv : List (Nat × Value)) (stk : List Value), eCn D cl A H0 s σ nL ad0 (pc, l, st, h, cs, sl) H locs ws tys ls lv stk → W p l0 e R s m args below meth c H locs cs sl Q (F0 m pc ls stk) := by
  intro H locs ws tys ls lv stk hc
  obtain ⟨hK, hP, hD, hS, hpre, hh, hl, hlv, hsk⟩ := hc
  have h0 := hs.1
  unfold eStep at hst
  split at hst
  · cases hst
    exact lv_iconst hx hb (hd (by simp [eLen])) rfl (K _ List.mem_cons_self _ _ _ _ _ _ _ ⟨hK, hP, hD, hS, hpre, hh, hl, hlv, ⟨_, rfl, ePt_ok h0 _⟩, hsk⟩)
  · cases hst
    exact lv_bipush hx hb (hd (by simp [eLen])) rfl (K _ List.mem_cons_self _ _ _ _ _ _ _ ⟨hK, hP, hD, hS, hpre, hh, hl, hlv, ⟨_, rfl, ePt_ok h0 _⟩, hsk⟩)
  · cases hst
    exact lv_sipush hx hb (hd (by simp [eLen])) rfl (K _ List.mem_cons_self _ _ _ _ _ _ _ ⟨hK, hP, hD, hS, hpre, hh, hl, hlv, ⟨_, rfl, ePt_ok h0 _⟩, hsk⟩)
  · cases hst
    exact lv_lconst hx hb (hd (by simp [eLen])) rfl (K _ List.mem_cons_self _ _ _ _ _ _ _ ⟨hK, hP, hD, hS, hpre, hh, hl, hlv, ⟨_, rfl, fun y hy => by cases hy; rfl⟩, hsk⟩)
  · cases hst
    exact lv_ldc hx hb hown (hts _ hlk) (hd (by simp [eLen])) (K _ List.mem_cons_self _ _ _ _ _ _ _ ⟨hK, hP, hD, hS, hpre, hh, hl, hlv, ⟨_, rfl, ePt_ok h0 _⟩, hsk⟩)
  · cases hst
    exact lv_ldcw hx hb hown (hts _ hlk) (hd (by simp [eLen])) (K _ List.mem_cons_self _ _ _ _ _ _ _ ⟨hK, hP, hD, hS, hpre, hh, hl, hlv, ⟨_, rfl, ePt_ok h0 _⟩, hsk⟩)
  · cases hst
    exact lv_ldc2 hx hb hown (hts _ hlk) (hd (by simp [eLen])) (K _ List.mem_cons_self _ _ _ _ _ _ _ ⟨hK, hP, hD, hS, hpre, hh, hl, hlv, ⟨_, rfl, fun y hy => by cases hy; rfl⟩, hsk⟩)
  · split at hst
    · rename_i v hg
      obtain ⟨w, h1, h2, -⟩ := eGet_at hl hlv hg
      obtain ⟨x, rfl, hxq⟩ := h2
      cases hst
      exact lv_iload_n hx hb (hd (by simp [eLen])) rfl h1 (K _ List.mem_cons_self _ _ _ _ _ _ _ ⟨hK, hP, hD, hS, hpre, hh, hl, hlv, ⟨_, rfl, hxq⟩, hsk⟩)
    · cases hst
  · split at hst
    · rename_i v hg
      obtain ⟨w, h1, h2, -⟩ := eGet_at hl hlv hg
      obtain ⟨x, rfl, hxq⟩ := h2
      cases hst
      exact lv_iload hx hb (hd (by simp [eLen])) h1 (K _ List.mem_cons_self _ _ _ _ _ _ _ ⟨hK, hP, hD, hS, hpre, hh, hl, hlv, ⟨_, rfl, hxq⟩, hsk⟩)
    · cases hst
  · split at hst
    · rename_i v hg
      obtain ⟨w, h1, h2, -⟩ := eGet_at hl hlv hg
      obtain ⟨x, rfl, hxy⟩ := h2
      cases hst
      exact lv_lload_n hx hb (hd (by simp [eLen])) rfl h1 (K _ List.mem_cons_self _ _ _ _ _ _ _ ⟨hK, hP, hD, hS, hpre, hh, hl, hlv, ⟨_, rfl, hxy⟩, hsk⟩)
    · cases hst
  · split at hst
    · rename_i v hg
      obtain ⟨w, h1, h2, -⟩ := eGet_at hl hlv hg
      obtain ⟨x, rfl, hxy⟩ := h2
      cases hst
      exact lv_lload hx hb (hd (by simp [eLen])) h1 (K _ List.mem_cons_self _ _ _ _ _ _ _ ⟨hK, hP, hD, hS, hpre, hh, hl, hlv, ⟨_, rfl, hxy⟩, hsk⟩)
    · cases hst
  · split at hst
    · rename_i v hg
      obtain ⟨w, h1, h2, -⟩ := eGet_at hl hlv hg
      obtain ⟨x, hxa, rfl⟩ := h2
      cases hst
      exact lv_aload_n hx hb (hd (by simp [eLen])) rfl h1 (K _ List.mem_cons_self _ _ _ _ _ _ _ ⟨hK, hP, hD, hS, hpre, hh, hl, hlv, ⟨_, hxa, rfl⟩, hsk⟩)
    · cases hst
  · split at hst
    · rename_i v hg
      obtain ⟨w, h1, h2, -⟩ := eGet_at hl hlv hg
      obtain ⟨x, hxa, rfl⟩ := h2
      cases hst
      exact lv_aload hx hb (hd (by simp [eLen])) h1 (K _ List.mem_cons_self _ _ _ _ _ _ _ ⟨hK, hP, hD, hS, hpre, hh, hl, hlv, ⟨_, hxa, rfl⟩, hsk⟩)
    · cases hst
  · split at hst
    · obtain ⟨hn, hg⟩ := eCond hst
      cases hg
      obtain ⟨w, stk, rfl, ⟨x, rfl, hxq⟩, hsk1⟩ := eAll_cons hsk
      exact lv_istore_n hx hb (hd (by simp [eLen])) rfl hl (Nat.le_of_ble_eq_true hn) rfl (fun ls hl => K _ List.mem_cons_self _ _ _ _ _ _ _ ⟨hK, hP, hD, hS, hpre, hh, hl, ePut_ok hlv ⟨x, rfl, hxq⟩, hsk1⟩)
    · cases hst
  · split at hst
    · obtain ⟨hn, hg⟩ := eCond hst
      cases hg
      obtain ⟨w, stk, rfl, ⟨x, rfl, hxq⟩, hsk1⟩ := eAll_cons hsk
      exact lv_istore hx hb (hd (by simp [eLen])) hl (Nat.le_of_ble_eq_true hn) rfl (fun ls hl => K _ List.mem_cons_self _ _ _ _ _ _ _ ⟨hK, hP, hD, hS, hpre, hh, hl, ePut_ok hlv ⟨x, rfl, hxq⟩, hsk1⟩)
    · cases hst
  · split at hst
    · obtain ⟨hn, hg⟩ := eCond hst
      cases hg
      obtain ⟨w, stk, rfl, ⟨x, rfl, hxy⟩, hsk1⟩ := eAll_cons hsk
      exact lv_lstore_n hx hb (hd (by simp [eLen])) rfl hl (Nat.le_of_ble_eq_true hn) rfl (fun ls hl => K _ List.mem_cons_self _ _ _ _ _ _ _ ⟨hK, hP, hD, hS, hpre, hh, hl, ePut2_ok hlv ⟨x, rfl, hxy⟩, hsk1⟩)
    · cases hst
  · split at hst
    · obtain ⟨hn, hg⟩ := eCond hst
      cases hg
      obtain ⟨w, stk, rfl, ⟨x, rfl, hxy⟩, hsk1⟩ := eAll_cons hsk
      exact lv_lstore hx hb (hd (by simp [eLen])) hl (Nat.le_of_ble_eq_true hn) rfl (fun ls hl => K _ List.mem_cons_self _ _ _ _ _ _ _ ⟨hK, hP, hD, hS, hpre, hh, hl, ePut2_ok hlv ⟨x, rfl, hxy⟩, hsk1⟩)
    · cases hst
  · split at hst
    · obtain ⟨hn, hg⟩ := eCond hst
      cases hg
      obtain ⟨w, stk, rfl, ⟨x, hxa, rfl⟩, hsk1⟩ := eAll_cons hsk
      exact lv_astore_n hx hb (hd (by simp [eLen])) rfl hl (Nat.le_of_ble_eq_true hn) rfl (fun ls hl => K _ List.mem_cons_self _ _ _ _ _ _ _ ⟨hK, hP, hD, hS, hpre, hh, hl, ePut_ok hlv ⟨x, hxa, rfl⟩, hsk1⟩)
    · cases hst
  · split at hst
    · obtain ⟨hn, hg⟩ := eCond hst
      cases hg
      obtain ⟨w, stk, rfl, ⟨x, hxa, rfl⟩, hsk1⟩ := eAll_cons hsk
      exact lv_astore hx hb (hd (by simp [eLen])) hl (Nat.le_of_ble_eq_true hn) rfl (fun ls hl => K _ List.mem_cons_self _ _ _ _ _ _ _ ⟨hK, hP, hD, hS, hpre, hh, hl, ePut_ok hlv ⟨x, hxa, rfl⟩, hsk1⟩)
    · cases hst
  · split at hst
    · rename_i v hg
      obtain ⟨hn, hg2⟩ := eCond hst
      cases hg2
      obtain ⟨w, -, ⟨x, rfl, hxq⟩, kk, hkk⟩ := eGet_at hl hlv hg
      exact lv_iinc hx hb (hd (by simp [eLen])) hl hkk rfl (Nat.le_of_ble_eq_true hn) rfl (fun ls hl => K _ List.mem_cons_self _ _ _ _ _ _ _ ⟨hK, hP, hD, hS, hpre, hh, hl, ePut_ok hlv ⟨_, rfl, eAdd_ok hs hxq (ePt_ok h0 _)⟩, hsk⟩)
    · cases hst
  · split at hst
    · rename_i x y r hg
      cases hst
      obtain ⟨u, v, r, rfl, hu, hv, hr⟩ := eTwo_ok hg hsk
      exact lv_iadd hx hb (hd (by simp [eLen])) (K _ List.mem_cons_self _ _ _ _ _ _ _ ⟨hK, hP, hD, hS, hpre, hh, hl, hlv, ⟨_, rfl, eAdd_ok hs hu hv⟩, hr⟩)
    · cases hst
  · split at hst
    · rename_i x y r hg
      cases hst
      obtain ⟨u, v, r, rfl, hu, hv, hr⟩ := eTwo_ok hg hsk
      exact lv_isub hx hb (hd (by simp [eLen])) (K _ List.mem_cons_self _ _ _ _ _ _ _ ⟨hK, hP, hD, hS, hpre, hh, hl, hlv, ⟨_, rfl, eSub_ok hs hu hv⟩, hr⟩)
    · cases hst
  · split at hst
    · rename_i x y r hg
      cases hst
      obtain ⟨u, v, r, rfl, hu, hv, hr⟩ := eTwo_ok hg hsk
      exact lv_imul hx hb (hd (by simp [eLen])) (K _ List.mem_cons_self _ _ _ _ _ _ _ ⟨hK, hP, hD, hS, hpre, hh, hl, hlv, ⟨_, rfl, eBin_ok (f := fun u v => u * v) h0 hu hv (eTop_ok h0 _)⟩, hr⟩)
    · cases hst
  · split at hst
    · rename_i x y r hg
      cases hst
      obtain ⟨u, v, r, rfl, hu, hv, hr⟩ := eTwo_ok hg hsk
      exact lv_iand hx hb (hd (by simp [eLen])) (K _ List.mem_cons_self _ _ _ _ _ _ _ ⟨hK, hP, hD, hS, hpre, hh, hl, hlv, ⟨_, rfl, eBin_ok (f := fun u v => u &&& v) h0 hu hv (eTop_ok h0 _)⟩, hr⟩)
    · cases hst
  · split at hst
    · rename_i x y r hg
      cases hst
      obtain ⟨u, v, r, rfl, hu, hv, hr⟩ := eTwo_ok hg hsk
      exact lv_ior hx hb (hd (by simp [eLen])) (K _ List.mem_cons_self _ _ _ _ _ _ _ ⟨hK, hP, hD, hS, hpre, hh, hl, hlv, ⟨_, rfl, eBin_ok (f := fun u v => u ||| v) h0 hu hv (eTop_ok h0 _)⟩, hr⟩)
    · cases hst
  · split at hst
    · rename_i x y r hg
      cases hst
      obtain ⟨u, v, r, rfl, hu, hv, hr⟩ := eTwo_ok hg hsk
      exact lv_ixor hx hb (hd (by simp [eLen])) (K _ List.mem_cons_self _ _ _ _ _ _ _ ⟨hK, hP, hD, hS, hpre, hh, hl, hlv, ⟨_, rfl, eBin_ok (f := fun u v => u ^^^ v) h0 hu hv (eTop_ok h0 _)⟩, hr⟩)
    · cases hst
  · split at hst
    · rename_i x y r hg
      cases hst
      obtain ⟨u, v, r, rfl, hu, hv, hr⟩ := eTwo_ok hg hsk
      exact lv_ishl hx hb (hd (by simp [eLen])) (K _ List.mem_cons_self _ _ _ _ _ _ _ ⟨hK, hP, hD, hS, hpre, hh, hl, hlv, ⟨_, rfl, eBin_ok (f := fun u v => u <<< (v &&& 31)) h0 hu hv (eTop_ok h0 _)⟩, hr⟩)
    · cases hst
  · split at hst
    · rename_i x y r hg
      cases hst
      obtain ⟨u, v, r, rfl, hu, hv, hr⟩ := eTwo_ok hg hsk
      exact lv_ishr hx hb (hd (by simp [eLen])) (K _ List.mem_cons_self _ _ _ _ _ _ _ ⟨hK, hP, hD, hS, hpre, hh, hl, hlv, ⟨_, rfl, eBin_ok (f := fun u v => u >>> (v &&& 31)) h0 hu hv (eTop_ok h0 _)⟩, hr⟩)
    · cases hst
  · split at hst
    · rename_i x y r hg
      cases hst
      obtain ⟨u, v, r, rfl, hu, hv, hr⟩ := eTwo_ok hg hsk
      exact lv_iushr hx hb (hd (by simp [eLen])) rfl (K _ List.mem_cons_self _ _ _ _ _ _ _ ⟨hK, hP, hD, hS, hpre, hh, hl, hlv, ⟨_, rfl, eBin_ok (f := fun u v => (u.toUInt32 >>> (v.toUInt32 &&& Int32.toUInt32 31)).toInt32) h0 hu hv (eUsh_ok h0 hv)⟩, hr⟩)
    · cases hst
  · split at hst
    · rename_i x y r hg
      obtain ⟨hn, hg2⟩ := eCond hst
      cases hg2
      obtain ⟨u, v, r, rfl, hu, hv, hr⟩ := eTwo_ok hg hsk
      have hz := eEq_ok hs hv (y := 0) (b := (0, 0, 0)) (eIn_mk (by rw [h0]; decide) (by rw [h0]; decide)) (eq_of_beq hn)
      have hz : ¬ v = 0 := by rw [hz]; decide
      exact lv_irem hx hb (hd (by simp [eLen])) hz (K _ List.mem_cons_self _ _ _ _ _ _ _ ⟨hK, hP, hD, hS, hpre, hh, hl, hlv, ⟨_, rfl, eBin_ok (f := fun u v => u - u / v * v) h0 hu hv (eRem_ok hs hu hv)⟩, hr⟩)
    · cases hst
  · split at hst
    · rename_i x y r hg
      obtain ⟨hn, hg2⟩ := eCond hst
      cases hg2
      obtain ⟨u, v, r, rfl, hu, hv, hr⟩ := eTwo_ok hg hsk
      have hz := eEq_ok hs hv (y := 0) (b := (0, 0, 0)) (eIn_mk (by rw [h0]; decide) (by rw [h0]; decide)) (eq_of_beq hn)
      have hz : ¬ v = 0 := by rw [hz]; decide
      exact lv_idiv hx hb (hd (by simp [eLen])) hz (K _ List.mem_cons_self _ _ _ _ _ _ _ ⟨hK, hP, hD, hS, hpre, hh, hl, hlv, ⟨_, rfl, eBin_ok (f := fun u v => u / v) h0 hu hv (eTop_ok h0 _)⟩, hr⟩)
    · cases hst
  · split at hst
    · cases hst
      obtain ⟨w, stk, rfl, ⟨x, rfl, hxq⟩, hsk1⟩ := eAll_cons hsk
      exact lv_i2b hx hb (hd (by simp [eLen])) rfl (K _ List.mem_cons_self _ _ _ _ _ _ _ ⟨hK, hP, hD, hS, hpre, hh, hl, hlv, ⟨_, rfl, eTop_ok h0 _⟩, hsk1⟩)
    · cases hst
  · split at hst
    · cases hst
      obtain ⟨w, stk, rfl, ⟨x, rfl, hxq⟩, hsk1⟩ := eAll_cons hsk
      exact lv_i2l hx hb (hd (by simp [eLen])) rfl (K _ List.mem_cons_self _ _ _ _ _ _ _ ⟨hK, hP, hD, hS, hpre, hh, hl, hlv, ⟨_, rfl, fun y hy => by
        rw [Option.map_eq_some_iff] at hy
        obtain ⟨x', hx', rfl⟩ := hy
        rw [eOne_ok h0 hxq hx']⟩, hsk1⟩)
    · cases hst
  · split at hst
    · cases hst
      obtain ⟨w, stk, rfl, ⟨x, rfl, -⟩, hsk1⟩ := eAll_cons hsk
      exact lv_l2i hx hb (hd (by simp [eLen])) rfl (K _ List.mem_cons_self _ _ _ _ _ _ _ ⟨hK, hP, hD, hS, hpre, hh, hl, hlv, ⟨_, rfl, eTop_ok h0 _⟩, hsk1⟩)
    · cases hst
  · split at hst
    · cases hst
      obtain ⟨w, stk, rfl, ⟨x, rfl, hxu⟩, hsk1⟩ := eAll_cons hsk
      obtain ⟨w, stk, rfl, ⟨y, rfl, hyu⟩, hsk2⟩ := eAll_cons hsk1
      exact lv_ladd hx hb (hd (by simp [eLen])) (K _ List.mem_cons_self _ _ _ _ _ _ _ ⟨hK, hP, hD, hS, hpre, hh, hl, hlv, ⟨_, rfl, eL2_ok hyu hxu⟩, hsk2⟩)
    · cases hst
  · split at hst
    · cases hst
      obtain ⟨w, stk, rfl, ⟨x, rfl, hxu⟩, hsk1⟩ := eAll_cons hsk
      obtain ⟨w, stk, rfl, ⟨y, rfl, hyu⟩, hsk2⟩ := eAll_cons hsk1
      exact lv_lmul hx hb (hd (by simp [eLen])) (K _ List.mem_cons_self _ _ _ _ _ _ _ ⟨hK, hP, hD, hS, hpre, hh, hl, hlv, ⟨_, rfl, eL2_ok hyu hxu⟩, hsk2⟩)
    · cases hst
  · split at hst
    · cases hst
      obtain ⟨w, stk, rfl, ⟨x, rfl, -⟩, hsk1⟩ := eAll_cons hsk
      obtain ⟨w, stk, rfl, ⟨y, rfl, -⟩, hsk2⟩ := eAll_cons hsk1
      exact W.lcmp hx hb (hd (by simp [eLen])) (K _ List.mem_cons_self _ _ _ _ _ _ _ ⟨hK, hP, hD, hS, hpre, hh, hl, hlv, ⟨_, rfl, eTop_ok h0 _⟩, hsk2⟩)
    · cases hst
  · split at hst
    · obtain ⟨hn, hg⟩ := eCond hst
      cases hg
      have hn := Nat.eq_of_beq_eq_true hn
      obtain ⟨w, stk, rfl, hw, hsk1⟩ := eAll_cons hsk
      exact lv_dup hx hb (hd (by simp [eLen])) (by rw [eOk_cat hw, hn]) (K _ List.mem_cons_self _ _ _ _ _ _ _ ⟨hK, hP, hD, hS, hpre, hh, hl, hlv, hw, hw, hsk1⟩)
    · cases hst
  · split at hst
    · obtain ⟨hn, hg⟩ := eCond hst
      cases hg
      rw [Bool.and_eq_true] at hn
      have hn1 := Nat.eq_of_beq_eq_true hn.1
      have hn2 := Nat.eq_of_beq_eq_true hn.2
      obtain ⟨w, stk, rfl, hw, hsk1⟩ := eAll_cons hsk
      obtain ⟨w2, stk, rfl, hw2, hsk2⟩ := eAll_cons hsk1
      exact lv_dup2_11 hx hb (hd (by simp [eLen])) (by rw [eOk_cat hw, hn1]) (by rw [eOk_cat hw2, hn2]) (K _ List.mem_cons_self _ _ _ _ _ _ _ ⟨hK, hP, hD, hS, hpre, hh, hl, hlv, hw, hw2, hw, hw2, hsk2⟩)
    · cases hst
  · split at hst
    · obtain ⟨hn, hg⟩ := eCond hst
      cases hg
      have hn := Nat.eq_of_beq_eq_true hn
      obtain ⟨w, stk, rfl, hw, hsk1⟩ := eAll_cons hsk
      exact lv_pop hx hb (hd (by simp [eLen])) (by rw [eOk_cat hw, hn]) (K _ List.mem_cons_self _ _ _ _ _ _ _ ⟨hK, hP, hD, hS, hpre, hh, hl, hlv, hsk1⟩)
    · cases hst
  · split at hst
    · split at hst
      · rename_i v hg
        cases hst
        obtain ⟨w, stk, rfl, ⟨x, hxa, rfl⟩, hsk1⟩ := eAll_cons hsk
        obtain ⟨q, vs, w, he, hv, hw⟩ := eFld_ok hg hh
        have e1 := eAd_at he hxa
        subst e1
        obtain ⟨C, T, N, hc, hbN, hlink⟩ := hlk
        exact va_get hx hb hts (hcl _ C T N hc).1 hown hK hP _ he hc _ hbN (hts _ hlink) (fun _ z => z) hv (hd (by simp [eLen])) (K _ List.mem_cons_self _ _ _ _ _ _ _ ⟨hK, hP, hD, hS, hpre, hh, hl, hlv, hw, hsk1⟩)
      · cases hst
    · cases hst
  · obtain ⟨C, T, N, hc, hbN, hlink, hfin, t0, t2, t5⟩ := hlk
    split at hst
    · obtain ⟨hn, hg⟩ := eCond hst
      clear hst
      split at hg
      · rename_i h2 hg2
        cases hg
        obtain ⟨w, stk, rfl, ⟨x, rfl, hxq⟩, hsk1⟩ := eAll_cons hsk
        obtain ⟨w, stk, rfl, ⟨y, hya, rfl⟩, hsk2⟩ := eAll_cons hsk1
        obtain ⟨q, vs, he, hbl, hh2⟩ := eSetF_ok (w := .int x) hg2 hh ⟨x, rfl, hxq⟩
        have e1 := eAd_at he hya
        subst e1
        have hk : ∃ ty, parseFieldDescriptor (T b).2.2.1 = some ty ∧ narrow ty (.int x) = .int x ∧ fits ty (.int x) = true := by
          rw [Bool.or_eq_true] at hn
          rcases hn with hn | hn
          · exact ⟨_, t0 (Nat.eq_of_beq_eq_true hn), rfl, rfl⟩
          · rw [Bool.and_eq_true] at hn
            refine ⟨_, t2 (Nat.eq_of_beq_eq_true hn.1), ?_⟩
            rcases e_bool h0 hxq hn.2 with rfl | rfl <;> exact ⟨by decide, by decide⟩
        obtain ⟨ty, k1, k2, k3⟩ := hk
        exact eStF hx hb hown hts hcl hin hK hP hD hS he hbl hc hbN hlink hfin k1 k2 k3 (hd (by simp [eLen])) (fun H1 locs1 hP hD hS => K _ List.mem_cons_self _ _ _ _ _ _ _ (eCn_set hK he hP hD hS hpre hh2 hl hlv hsk2))
      · cases hg
    · obtain ⟨hn, hg⟩ := eCond hst
      clear hst
      split at hg
      · rename_i h2 hg2
        cases hg
        obtain ⟨w, stk, rfl, ⟨x, hxa, rfl⟩, hsk1⟩ := eAll_cons hsk
        obtain ⟨w, stk, rfl, ⟨y, hya, rfl⟩, hsk2⟩ := eAll_cons hsk1
        obtain ⟨q, vs, he, hbl, hh2⟩ := eSetF_ok (w := .ref x) hg2 hh ⟨x, hxa, rfl⟩
        have e1 := eAd_at he hya
        subst e1
        obtain ⟨ty, k1, k2⟩ := t5 (Nat.eq_of_beq_eq_true hn)
        have k3 : narrow ty (.ref x) = .ref x ∧ fits ty (.ref x) = true := by rcases k2 with ⟨n, rfl⟩ | ⟨n, rfl⟩ <;> exact ⟨rfl, rfl⟩
        exact eStF hx hb hown hts hcl hin hK hP hD hS he hbl hc hbN hlink hfin k1 k3.1 k3.2 (hd (by simp [eLen])) (fun H1 locs1 hP hD hS => K _ List.mem_cons_self _ _ _ _ _ _ _ (eCn_set hK he hP hD hS hpre hh2 hl hlv hsk2))
      · cases hg
    · cases hst
  · split at hst
    · split at hst
      · rename_i v hg
        cases hst
        obtain ⟨w, stk, rfl, ⟨x, rfl, hxq⟩, hsk1⟩ := eAll_cons hsk
        obtain ⟨w, stk, rfl, ⟨y, hya, rfl⟩, hsk2⟩ := eAll_cons hsk1
        obtain ⟨q, cA, t0, n, f, he, ht, hxi, hv⟩ := eALd_ok hs (Or.inl rfl) hg hh hxq
        have e1 := eAd_at he hya
        subst e1
        exact va_iald hx hb hK hP _ t0 he ht hxi (hd (by simp [eLen])) (K _ List.mem_cons_self _ _ _ _ _ _ _ ⟨hK, hP, hD, hS, hpre, hh, hl, hlv, ⟨_, rfl, hv⟩, hsk2⟩)
      · cases hst
    · cases hst
  · split at hst
    · split at hst
      · rename_i v hg
        cases hst
        obtain ⟨w, stk, rfl, ⟨x, rfl, hxq⟩, hsk1⟩ := eAll_cons hsk
        obtain ⟨w, stk, rfl, ⟨y, hya, rfl⟩, hsk2⟩ := eAll_cons hsk1
        obtain ⟨q, cA, t0, n, f, he, ht, hxi, hv⟩ := eALd_ok hs (Or.inr (Or.inl rfl)) hg hh hxq
        have e1 := eAd_at he hya
        subst e1
        exact va_bald hx hb hK hP _ t0 he ht hxi (hd (by simp [eLen])) (K _ List.mem_cons_self _ _ _ _ _ _ _ ⟨hK, hP, hD, hS, hpre, hh, hl, hlv, ⟨_, rfl, hv⟩, hsk2⟩)
      · rename_i v hg0 hg
        cases hst
        obtain ⟨w, stk, rfl, ⟨x, rfl, hxq⟩, hsk1⟩ := eAll_cons hsk
        obtain ⟨w, stk, rfl, ⟨y, hya, rfl⟩, hsk2⟩ := eAll_cons hsk1
        obtain ⟨q, cA, t0, n, f, he, ht, hxi, hv⟩ := eALd_ok hs (Or.inr (Or.inr rfl)) hg hh hxq
        have e1 := eAd_at he hya
        subst e1
        exact va_zald hx hb hK hP _ t0 he ht hxi (hd (by simp [eLen])) (K _ List.mem_cons_self _ _ _ _ _ _ _ ⟨hK, hP, hD, hS, hpre, hh, hl, hlv, ⟨_, rfl, hv⟩, hsk2⟩)
      · cases hst
    · cases hst
  · split at hst
    · obtain ⟨hn, hg⟩ := eCond hst
      cases hg
      obtain ⟨w, stk, rfl, ⟨x, rfl, hxq⟩, hsk1⟩ := eAll_cons hsk
      obtain ⟨w, stk, rfl, ⟨y, hya, rfl⟩, hsk2⟩ := eAll_cons hsk1
      obtain ⟨q, cA, t0, n, f, he, ht, hxi⟩ := eLng_ok hs hn hh hxq
      have e1 := eAd_at he hya
      subst e1
      exact va_lald hx hb hK hP _ t0 he ht hxi (hd (by simp [eLen])) (K _ List.mem_cons_self _ _ _ _ _ _ _ ⟨hK, hP, hD, hS, hpre, hh, hl, hlv, ⟨_, rfl, fun y hy => by cases hy⟩, hsk2⟩)
    · cases hst
  · split at hst
    · split at hst
      · rename_i v hg
        cases hst
        obtain ⟨w, stk, rfl, ⟨x, rfl, hxq⟩, hsk1⟩ := eAll_cons hsk
        obtain ⟨w, stk, rfl, ⟨y, hya, rfl⟩, hsk2⟩ := eAll_cons hsk1
        obtain ⟨q, cA, t0, n, f, he, ht, hxi, hv⟩ := eRow_ok hs hg hh hxq
        have e1 := eAd_at he hya
        subst e1
        exact va_aldA hx hb hK hP _ t0 he ht hxi (hd (by simp [eLen])) (K _ List.mem_cons_self _ _ _ _ _ _ _ ⟨hK, hP, hD, hS, hpre, hh, hl, hlv, hv, hsk2⟩)
      · cases hst
    · cases hst
  · split at hst
    · split at hst
      · rename_i h2 hg
        cases hst
        obtain ⟨w, stk, rfl, ⟨z, rfl, hzq⟩, hsk1⟩ := eAll_cons hsk
        obtain ⟨w, stk, rfl, ⟨x, rfl, hxq⟩, hsk2⟩ := eAll_cons hsk1
        obtain ⟨w, stk, rfl, ⟨y, hya, rfl⟩, hsk3⟩ := eAll_cons hsk2
        obtain ⟨q, cA, t0, n, f, he, ht, hxi, hh2⟩ := eASt_ok hs (Or.inl rfl) hg hh hxq hzq
        have e1 := eAd_at he hya
        subst e1
        exact va_iast hx hb hK hP hD hS _ t0 he ht hxi (hd (by simp [eLen])) (fun H1 locs1 hP hD hS => K _ List.mem_cons_self _ _ _ _ _ _ _ (eCn_set hK he hP hD hS hpre hh2 hl hlv hsk3))
      · cases hst
    · cases hst
  · split at hst
    · rename_i v q k r
      cases hc : eBSt sr h k q with
      | true =>
        rw [hc] at hst
        cases hst
        obtain ⟨w, stk, rfl, ⟨z, rfl, hzq⟩, hsk1⟩ := eAll_cons hsk
        obtain ⟨w, stk, rfl, ⟨x, rfl, hxq⟩, hsk2⟩ := eAll_cons hsk1
        obtain ⟨w, stk, rfl, ⟨y, hya, rfl⟩, hsk3⟩ := eAll_cons hsk2
        obtain ⟨q, cA, t0, n, f, he, ht, hxi, hh2⟩ := eBSt_ok hs hc hh hxq z
        have e1 := eAd_at he hya
        subst e1
        exact va_bast hx hb hK hP hD hS _ t0 he ht hxi (hd (by simp [eLen])) (fun H1 locs1 hP hD hS => K _ List.mem_cons_self _ _ _ _ _ _ _ (eCn_set hK he hP hD hS hpre hh2 hl hlv hsk3))
      | false =>
        rw [hc] at hst
        obtain ⟨hn, hg⟩ := eCond (show cond _ _ none = some outs from hst)
        clear hst
        split at hg
        · rename_i h2 hg2
          cases hg
          obtain ⟨w, stk, rfl, ⟨z, rfl, hzq⟩, hsk1⟩ := eAll_cons hsk
          obtain ⟨w, stk, rfl, ⟨x, rfl, hxq⟩, hsk2⟩ := eAll_cons hsk1
          obtain ⟨w, stk, rfl, ⟨y, hya, rfl⟩, hsk3⟩ := eAll_cons hsk2
          have hzz : vp_nar .boolean z = z := by rcases e_bool h0 hzq hn with rfl | rfl <;> decide
          obtain ⟨q, cA, t0, n, f, he, ht, hxi, hh2⟩ := eASt_ok hs (Or.inr (Or.inr rfl)) hg2 hh hxq hzq
          have e1 := eAd_at he hya
          subst e1
          exact va_zast hx hb hK hP hD hS _ t0 he ht hxi (hd (by simp [eLen])) (fun H1 locs1 hP hD hS => K _ List.mem_cons_self _ _ _ _ _ _ _ (eCn_set hK he hP hD hS hpre (by rw [hzz]; exact hh2) hl hlv hsk3))
        · cases hg
    · cases hst
  · split at hst
    · split at hst
      · rename_i h2 hg
        cases hst
        obtain ⟨w, stk, rfl, ⟨z, rfl, hzy⟩, hsk1⟩ := eAll_cons hsk
        obtain ⟨w, stk, rfl, ⟨x, rfl, hxq⟩, hsk2⟩ := eAll_cons hsk1
        obtain ⟨w, stk, rfl, ⟨y, hya, rfl⟩, hsk3⟩ := eAll_cons hsk2
        obtain ⟨q, cA, t0, n, f, he, ht, hxi, hh2⟩ := eLSt_ok hs hg hh hxq hzy
        have e1 := eAd_at he hya
        subst e1
        exact va_last hx hb hK hP hD hS _ t0 he ht hxi (hd (by simp [eLen])) (fun H1 locs1 hP hD hS => K _ List.mem_cons_self _ _ _ _ _ _ _ (eCn_set hK he hP hD hS hpre hh2 hl hlv hsk3))
      · cases hst
    · cases hst
  · split at hst
    · split at hst
      · rename_i n9 c9 ho
        cases hst
        obtain ⟨w, stk, rfl, ⟨y, hya, rfl⟩, hsk1⟩ := eAll_cons hsk
        obtain ⟨⟨q, e9⟩, he, cA, t0, ht, hN, har⟩ := eAll_get hh ho
        have e1 := eAd_at he hya
        subst e1
        obtain ⟨z, hz1, hz2⟩ := eAr_len har
        have hz1 : e9 = .inl (cA, z) := hz1
        subst hz1
        exact va_alen hx hb hK hP _ t0 he ht (by rw [hz2]) (hd (by simp [eLen])) (K _ List.mem_cons_self _ _ _ _ _ _ _ ⟨hK, hP, hD, hS, hpre, hh, hl, hlv, ⟨_, rfl, ePt_ok h0 _⟩, hsk1⟩)
      · cases hst
    · cases hst
  · split at hst
    · split at hst
      · rename_i y hy
        obtain ⟨hn, hg⟩ := eCond hst
        clear hst
        split at hg
        · rename_i c9 hc9
          cases hg
          obtain ⟨w, stk, rfl, ⟨x, rfl, hxq⟩, hsk1⟩ := eAll_cons hsk
          have e1 := eOne_ok h0 hxq hy
          subst e1
          simp only [Bool.and_eq_true] at hn
          obtain ⟨⟨⟨n1, n2⟩, n3⟩, n4⟩ := hn
          have n1 := eLe_ok n1
          have n2 := Nat.le_of_ble_eq_true n2
          have n3 := Nat.le_of_ble_eq_true n3
          have n4 := Nat.le_of_ble_eq_true n4
          obtain ⟨a0, z1, z2, z3⟩ := eNew_ok hc9 n2
          exact va_newa hx hb (hts _ hlk.1) hlk.2 hK hP hD hS hA z1 (by rw [Int32.lt_iff_toInt_lt]; show ¬ x.toInt < 0; omega) rfl z2 (by rw [hRc]; exact n3) (by rw [hRs]; exact n4) (hd (by simp [eLen])) (fun q cA H1 hK2 hP hD hS => K _ List.mem_cons_self _ _ _ _ _ _ _ (eCn_app hK2 ⟨_, rfl⟩ hP hD hS hpre hh (z3 _ _ _ cA tys.length q h0 (by simp)) hl hlv hsk1))
        · cases hg
      · cases hst
    · cases hst
  · split at hst
    · rename_i fs hfs
      obtain ⟨hn, hg⟩ := eCond hst
      cases hg
      rw [Bool.and_eq_true] at hn
      have n1 := Nat.le_of_ble_eq_true hn.1
      have n2 := Nat.le_of_ble_eq_true hn.2
      obtain ⟨C, T, N, hc, w1, w2, w3⟩ := hlk
      obtain ⟨hin1, ty, hty, hnm, hdf⟩ := hcl _ C T N hc
      obtain ⟨hlen, vs, hvs, hdv⟩ := hdf fs hfs
      subst hlen
      exact va_new hx hb hts hin1 ty hty hown (hts _ w1) (hts _ w2) (hts _ w3) hK hP hD hS hA hc hdv (by rw [hRc]; exact n1) (by rw [hRs]; exact n2) (hd (by simp [eLen])) (fun q H1 hP hD hS => K _ List.mem_cons_self _ _ _ _ _ _ _ (eCn_app hK ⟨[], by simp⟩ hP hD hS hpre hh ⟨vs, rfl, hvs _ _ h0⟩ hl hlv hsk))
    · cases hst
  · cases hst
    exact lv_goto hx hb (hd (by simp [eLen])) hlk (K _ List.mem_cons_self _ _ _ _ _ _ _ ⟨hK, hP, hD, hS, hpre, hh, hl, hlv, hsk⟩)
  · rename_i kc off
    split at hst
    · obtain ⟨w, stk, rfl, ⟨x, rfl, hxq⟩, hsk1⟩ := eAll_cons hsk
      have hz : eIn σ (0, 0, 0) 0 := eIn_mk (by rw [h0]; decide) (by rw [h0]; decide)
      cases kc
      · exact lv_if_eq hx hb (hd (by simp [eLen])) hlk (fun hq => K _ (eBr_yes hs hxq hz hst hq) _ _ _ _ _ _ _ ⟨hK, hP, hD, hS, hpre, hh, hl, hlv, hsk1⟩) (fun hq => K _ (eBr_no hs hxq hz hst hq) _ _ _ _ _ _ _ ⟨hK, hP, hD, hS, hpre, hh, hl, hlv, hsk1⟩)
      · exact lv_if_ne hx hb (hd (by simp [eLen])) hlk (fun hq => K _ (eBr_yes hs hxq hz hst hq) _ _ _ _ _ _ _ ⟨hK, hP, hD, hS, hpre, hh, hl, hlv, hsk1⟩) (fun hq => K _ (eBr_no hs hxq hz hst (fun z => z hq)) _ _ _ _ _ _ _ ⟨hK, hP, hD, hS, hpre, hh, hl, hlv, hsk1⟩)
      · exact lv_if_lt hx hb (hd (by simp [eLen])) hlk (fun hq => K _ (eBr_yes hs hxq hz hst hq) _ _ _ _ _ _ _ ⟨hK, hP, hD, hS, hpre, hh, hl, hlv, hsk1⟩) (fun hq => K _ (eBr_no hs hxq hz hst hq) _ _ _ _ _ _ _ ⟨hK, hP, hD, hS, hpre, hh, hl, hlv, hsk1⟩)
      · exact lv_if_ge hx hb (hd (by simp [eLen])) hlk (fun hq => K _ (eBr_yes hs hxq hz hst hq) _ _ _ _ _ _ _ ⟨hK, hP, hD, hS, hpre, hh, hl, hlv, hsk1⟩) (fun hq => K _ (eBr_no hs hxq hz hst hq) _ _ _ _ _ _ _ ⟨hK, hP, hD, hS, hpre, hh, hl, hlv, hsk1⟩)
      · exact lv_if_gt hx hb (hd (by simp [eLen])) hlk (fun hq => K _ (eBr_yes hs hxq hz hst hq) _ _ _ _ _ _ _ ⟨hK, hP, hD, hS, hpre, hh, hl, hlv, hsk1⟩) (fun hq => K _ (eBr_no hs hxq hz hst hq) _ _ _ _ _ _ _ ⟨hK, hP, hD, hS, hpre, hh, hl, hlv, hsk1⟩)
      · exact lv_if_le hx hb (hd (by simp [eLen])) hlk (fun hq => K _ (eBr_yes hs hxq hz hst hq) _ _ _ _ _ _ _ ⟨hK, hP, hD, hS, hpre, hh, hl, hlv, hsk1⟩) (fun hq => K _ (eBr_no hs hxq hz hst hq) _ _ _ _ _ _ _ ⟨hK, hP, hD, hS, hpre, hh, hl, hlv, hsk1⟩)
    · cases hst
  · rename_i kc off
    split at hst
    · rename_i x y r hg
      obtain ⟨u, v, r, rfl, hu, hv, hr⟩ := eTwo_ok hg hsk
      cases kc
      · exact lv_icmp_eq hx hb (hd (by simp [eLen])) hlk (fun hq => K _ (eBr_yes hs hu hv hst hq) _ _ _ _ _ _ _ ⟨hK, hP, hD, hS, hpre, hh, hl, hlv, hr⟩) (fun hq => K _ (eBr_no hs hu hv hst hq) _ _ _ _ _ _ _ ⟨hK, hP, hD, hS, hpre, hh, hl, hlv, hr⟩)
      · exact lv_icmp_ne hx hb (hd (by simp [eLen])) hlk (fun hq => K _ (eBr_yes hs hu hv hst hq) _ _ _ _ _ _ _ ⟨hK, hP, hD, hS, hpre, hh, hl, hlv, hr⟩) (fun hq => K _ (eBr_no hs hu hv hst (fun z => z hq)) _ _ _ _ _ _ _ ⟨hK, hP, hD, hS, hpre, hh, hl, hlv, hr⟩)
      · exact lv_icmp_lt hx hb (hd (by simp [eLen])) hlk (fun hq => K _ (eBr_yes hs hu hv hst hq) _ _ _ _ _ _ _ ⟨hK, hP, hD, hS, hpre, hh, hl, hlv, hr⟩) (fun hq => K _ (eBr_no hs hu hv hst hq) _ _ _ _ _ _ _ ⟨hK, hP, hD, hS, hpre, hh, hl, hlv, hr⟩)
      · exact lv_icmp_ge hx hb (hd (by simp [eLen])) hlk (fun hq => K _ (eBr_yes hs hu hv hst hq) _ _ _ _ _ _ _ ⟨hK, hP, hD, hS, hpre, hh, hl, hlv, hr⟩) (fun hq => K _ (eBr_no hs hu hv hst hq) _ _ _ _ _ _ _ ⟨hK, hP, hD, hS, hpre, hh, hl, hlv, hr⟩)
      · exact lv_icmp_gt hx hb (hd (by simp [eLen])) hlk (fun hq => K _ (eBr_yes hs hu hv hst hq) _ _ _ _ _ _ _ ⟨hK, hP, hD, hS, hpre, hh, hl, hlv, hr⟩) (fun hq => K _ (eBr_no hs hu hv hst hq) _ _ _ _ _ _ _ ⟨hK, hP, hD, hS, hpre, hh, hl, hlv, hr⟩)
      · exact lv_icmp_le hx hb (hd (by simp [eLen])) hlk (fun hq => K _ (eBr_yes hs hu hv hst hq) _ _ _ _ _ _ _ ⟨hK, hP, hD, hS, hpre, hh, hl, hlv, hr⟩) (fun hq => K _ (eBr_no hs hu hv hst hq) _ _ _ _ _ _ _ ⟨hK, hP, hD, hS, hpre, hh, hl, hlv, hr⟩)
    · cases hst
  · split at hst
    · cases hst
      obtain ⟨w, stk, rfl, ⟨y, hya, rfl⟩, hsk1⟩ := eAll_cons hsk
      exact lv_ifnull hx hb (hd (by simp [eLen])) (K _ List.mem_cons_self _ _ _ _ _ _ _ ⟨hK, hP, hD, hS, hpre, hh, hl, hlv, hsk1⟩)
    · cases hst
      obtain ⟨w, stk, rfl, hw, hsk1⟩ := eAll_cons hsk
      have hw : w = .null := hw
      subst hw
      exact lv_ifnullN hx hb (hd (by simp [eLen])) hlk (K _ List.mem_cons_self _ _ _ _ _ _ _ ⟨hK, hP, hD, hS, hpre, hh, hl, hlv, hsk1⟩)
    · cases hst
  · split at hst
    · cases hst
      obtain ⟨w, stk, rfl, ⟨y, hya, rfl⟩, hsk1⟩ := eAll_cons hsk
      exact lv_ifnonnull hx hb (hd (by simp [eLen])) hlk (K _ List.mem_cons_self _ _ _ _ _ _ _ ⟨hK, hP, hD, hS, hpre, hh, hl, hlv, hsk1⟩)
    · cases hst
      obtain ⟨w, stk, rfl, hw, hsk1⟩ := eAll_cons hsk
      have hw : w = .null := hw
      subst hw
      exact lv_ifnonnullN hx hb (hd (by simp [eLen])) (K _ List.mem_cons_self _ _ _ _ _ _ _ ⟨hK, hP, hD, hS, hpre, hh, hl, hlv, hsk1⟩)
    · cases hst
  · rename_i dflt lo hi offs
    obtain ⟨len, hd0⟩ := hd0
    split at hst
    · rename_i q r
      obtain ⟨w, stk, rfl, ⟨x, rfl, hxq⟩, hsk1⟩ := eAll_cons hsk
      split at hst
      · rename_i y hy
        have e1 := eOne_ok h0 hxq hy
        subst e1
        cases hc : (eLe lo x.toInt && eLe x.toInt hi) with
        | true =>
          rw [hc] at hst
          rw [Bool.and_eq_true] at hc
          have c1 := eLe_ok hc.1
          have c2 := eLe_ok hc.2
          simp only [cond_true] at hst
          split at hst
          · rename_i off hoff
            obtain ⟨hn, hg⟩ := eCond hst
            cases hg
            have hn := eLe_ok hn
            exact lv_tableIn hx hb hd0 (by omega) (by omega) hoff (by omega) (K _ List.mem_cons_self _ _ _ _ _ _ _ ⟨hK, hP, hD, hS, hpre, hh, hl, hlv, hsk1⟩)
          · cases hst
        | false =>
          rw [hc] at hst
          obtain ⟨hn, hg⟩ := eCond (show cond _ _ none = some outs from hst)
          cases hg
          have hn := eLe_ok hn
          rw [Bool.and_eq_false_iff] at hc
          exact lv_tableOut hx hb hd0 (by rcases hc with z | z; exact Or.inl (eLe_no z); exact Or.inr (eLe_no z)) (by omega) (K _ List.mem_cons_self _ _ _ _ _ _ _ ⟨hK, hP, hD, hS, hpre, hh, hl, hlv, hsk1⟩)
      · obtain ⟨hn, hg⟩ := eCond hst
        cases hg
        rw [Bool.and_eq_true, Bool.or_eq_true] at hn
        have hr := eRg_ok hs hxq
        have hn2 := eLe_ok hn.2
        exact lv_tableOut hx hb hd0 (by rcases hn.1 with z | z; exact Or.inl (by have := eLe_ok z; omega); exact Or.inr (by have := eLe_ok z; omega)) (by omega) (K _ List.mem_cons_self _ _ _ _ _ _ _ ⟨hK, hP, hD, hS, hpre, hh, hl, hlv, hsk1⟩)
    · cases hst
  · cases hst
end ESO
