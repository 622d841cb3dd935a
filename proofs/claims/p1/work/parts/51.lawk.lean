/-! THE CLAIM OUT OF ONE WALK OF THE LAW'S BODY. Your part is whole_start (and what it stands on); all else here is the same for every law, but numbers. -/
def R_law : String := "FuseTreatyLaw"
def lw_P (b : Addr) (xs : List Int32) (args : Array Value) (s : State) : Prop := args = #[.ref b] ∧ s.IntsAt b xs ∧ xs.length ≤ 6 ∧ (Jvm.Cond.and given_1 narrow_1).before args s = true
def lw_Q (_ : Array Value) (s : State) (o : Outcome) (t : State) : Prop := o = .returned (some (.int 1)) ∧ Framed s o t [] 600000 7302250
def lw_Z (below : List Frame) (a : Array Value) (s : State) : State → Prop := fun t => ∃ o, t.status = .running ∧ Ended t below o ∧ lw_Q a s o t
/-- the law's own end, with 1 on the stack, nothing written that was there before, its room as the claim has it -/
theorem lw_ret {p : Program} {l : Launch} {e : Env} {s : State} {m : MethodId} {below : List Frame} {meth : Method} {c : Code} {b : Nat} (hx : p.tables.exec = Jvm.exec) (hb : c.code = code) (hr : meth.sig.returnType = ret) (hlocks : meth.locks = false) {pc : Nat} {H : Heap} {ls : Array Slot} (hdg : decode code pc = .ok (.ireturn, 1)) : W p l e room_1 s m #[Value.ref b] below meth c H [] 600000 7302250 (lw_Z below #[Value.ref b] s) (F0 m pc ls [.int 1]) := by
  intro T hT X
  obtain ⟨fs, hret, hrun, hended, hW, hframe⟩ := X.leave (v := some (.int 1)) (hlocks := hlocks) (fun h => by rw [hr] at h; cases h)
  have hmeth' : T.vm.method? m = some meth := X.method'
  refine ⟨T.setFrames fs, ?_, .returned (some (.int 1)), hrun, hended, rfl, ⟨_, rfl⟩, hW, hframe⟩
  jvm_step X.here [X.here.top, hx, hb, hdg, hmeth', hr, ret, narrow_b1]
  (try refine ⟨rfl, ?_⟩); (try refine ⟨rfl, ?_⟩)
  first | (intro acts; rw [hret _ acts rfl rfl rfl]) | rw [hret _ _ rfl rfl rfl]
  exact Steps.refl _
/-- what holds at the law's entry: the machine, the code, the tables' words (any of lw_tbl by 'hts w (by decide +kernel)'), the script of L ints xs at the cell b, what the Statement gives of the start (any of its parts by flat_of_before) -/
def lw_At (p : Program) (s : State) (m : MethodId) (meth : Method) (c : Code) (b L : Nat) (xs : Nat → Int32) : Prop :=
  p.tables.exec = Jvm.exec ∧ c.code = code ∧ meth.sig.returnType = ret ∧ c.maxLocals = 4 ∧ s.vm.findClass R_law = some m.cls ∧ (∀ w ∈ lw_tbl, w.before #[Value.ref b] s = true) ∧ va_X b L xs s s.heap ∧ b < s.heap.size ∧ meth.locks = false ∧ (Jvm.Cond.and given_1 narrow_1).before #[Value.ref b] s = true
section LAW
variable {p : Program} {l : Launch} {e : Env} {s : State} {m : MethodId} {below : List Frame} {meth : Method} {c : Code} {b : Nat} {xs : Nat → Int32} {adK adV : Nat → Nat} {D : va_G}
/-- the law's own: the machine, the code, the words, the script of six ints, what lies outside -/
def lX (p : Program) (s : State) (m : MethodId) (meth : Method) (c : Code) (b : Nat) (xs : Nat → Int32) (adK adV : Nat → Nat) : Prop := lw_At p s m meth c b 6 xs ∧ eXt tNs s ∧ tFz adK adV (fun q => s.heap.size ≤ q) s s.heap
/-- the world between calls -/
def lWd (D : va_G) (s : State) (σ : Nat → Int) (h : eH) (H : Heap) (locs : List Loc) (ws : va_W) (tys : List (ClassId × FieldType)) : Prop := va_K D tCl tys s ∧ va_P D tCl ws H ∧ va_D (fun q => s.heap.size ≤ q) ws ∧ va_S (fun q => s.heap.size ≤ q) s.heap H locs ∧ eAll (eCk (ws.map Prod.fst) σ tys) h ws
theorem lgt {s : State} {args : Array Value} (h : ∀ w ∈ lw_tbl, w.before args s = true) : ∀ w ∈ lw_g, w.before args s = true := fun w hw => h w (List.mem_filter.mp hw).1
theorem law_arg {H : Heap} {locs : List Loc} {cs sl pc k : Nat} {ls : Array Slot} {rest : List Value} {ax am : Nat} {Q : State → Prop} (C0 : lX p s m meth c b xs adK adV) (hS : va_S (fun q => s.heap.size ≤ q) s.heap H locs) (hl : lv_has ls 4 [(0, .ref b), (1, .ref ax), (2, .ref am), (3, .int 0)]) (hk : k < 6) (d1 : decode code pc = .ok (.aload_n 0, 1)) (d2 : decode code (pc + 1) = .ok (.iload_n 3, 1)) (d3 : decode code (pc + 2) = .ok (.iconst (k : Int), 1)) (d4 : decode code (pc + 3) = .ok (.iadd, 1)) (d5 : decode code (pc + 4) = .ok (.iaload, 1))
    (kk : W p l e room_1 s m #[Value.ref b] below meth c H locs cs sl Q (F0 m (pc + 5) ls (.int (xs k) :: rest))) : W p l e room_1 s m #[Value.ref b] below meth c H locs cs sl Q (F0 m pc ls rest) := by
  obtain ⟨⟨hx, hb, hr, hml, hown, hts, hX, hbl, hlocks, hgv⟩, hXt, hFz⟩ := C0
  have hbA : ¬ (fun q : Nat => s.heap.size ≤ q) b := Nat.not_le.mpr hbl
  refine lv_aload_n hx hb d1 rfl (lv_at hl 0 rfl) ?_
  refine lv_iload_n hx hb d2 rfl (lv_at hl 3 rfl) ?_
  refine lv_iconst hx hb d3 rfl ?_
  refine lv_iadd hx hb d4 ?_
  have e1 : ∀ k : Nat, k < 6 → (((0 : Int32) + Int32.ofInt (k : Int)).toNatClampNeg = k ∧ 0 ≤ ((0 : Int32) + Int32.ofInt (k : Int)).toInt ∧ ((0 : Int32) + Int32.ofInt (k : Int)).toInt < ((6 : Nat) : Int)) := by decide
  obtain ⟨e2, e3, e4⟩ := e1 k hk
  refine va_sld hx hb hX hbl hbA hS (vp_in_iff.mpr ⟨e3, e4⟩) d5 ?_
  rw [e2]
  exact kk
theorem law_call {sr : List (Int × Int)} {σ : Nat → Int} {H : Heap} {locs : List Loc} {ws : va_W} {tys : List (ClassId × FieldType)} {ls : Array Slot} {h : eH} {cs sl pc idx k a bm d0 : Nat} {as : List eV} {vs rest : List Value} {os : List (Option eV × eH)} {N : eM} {Y : eY} {T : u_T} {NN : Nat} {Q : State → Prop} (C0 : lX p s m meth c b xs adK adV) (hs : eSg sr σ) (hW : lWd D s σ h H locs ws tys) (hsz : ls.size = 4) (hcon : eCon (tFz adK adV) l tCl lw_g tNs sr tMs tYs 600 bm (.inr (.inl (some k)) :: as) h os) (hN : tMs[bm]? = some N) (hY : tYs[bm]? = some Y) (hn0 : N.2.2.1 = 0) (hn1 : N.2.2.2.1 = 0) (hnp : vs.length = N.2.2.2.2.2)
    (w1 : Cond.methodLink R_law idx Y.1 ∈ lw_g) (w2 : Cond.instanceMethod Y.1 ∈ lw_g) (w3 : Cond.selects Y.1.cls Y.1 Y.1 ∈ lw_g) (hcl : tCl[d0]? = some (Y.1.cls, T, NN)) (hrcv : eRcv h 0 d0 (.inr (.inl (some k)) :: as) = true) (ha : (ws.map Prod.fst)[k]? = some a) (has : eAll (eOk (ws.map Prod.fst) σ) as vs) (hcr : (rest.map fun v => v.category).sum ≤ 8) (hcs : cs ≤ 600000) (hsl : sl ≤ 7302250) (hdg : decode code pc = .ok (.invokevirtual idx, 3))
    (kk : ∀ o ∈ os, ∀ (w : Option Value) (H1 : Heap) (locs1 : List Loc) (ws' : va_W) (tys' : List (ClassId × FieldType)), eOv (ws'.map Prod.fst) σ o.1 w → (∃ t, ws'.map Prod.fst = ws.map Prod.fst ++ t) → lWd D s σ o.2 H1 locs1 ws' tys' → W p l e room_1 s m #[Value.ref b] below meth c H1 locs1 cs sl Q (F0 m (pc + 3) ls (w.toList ++ rest))) : W p l e room_1 s m #[Value.ref b] below meth c H locs cs sl Q (F0 m pc ls (vs.reverse ++ .ref a :: rest)) := by
  obtain ⟨⟨hx, hb, hr, hml, hown, hts0, hX, hbl, hlocks, hgv⟩, hXt, hFz⟩ := C0
  have hts := lgt hts0
  obtain ⟨hK, hP, hD, hS, hh⟩ := hW
  have hok : eMok tCl lw_g tNs tMs tYs N Y := by
    obtain ⟨Y', g1, g2⟩ := eAll_get tOk hN
    have e1 := Option.some.inj (g1.symm.trans hY)
    subst e1
    exact g2
  obtain ⟨-, hcode, hini, -, hdd, hnl, -⟩ := hok
  have hA1 : ∀ q, va_A ws H.size q → s.heap.size ≤ q := by
    intro q hq
    rcases hq with ⟨k, e9, hk⟩ | hq
    · exact hD.2 k (q, e9) hk
    · exact Nat.le_trans hS.1 hq
  have hM := hcon N Y hN hY D σ ws tys (.ref a :: vs) H.size hs hh ⟨⟨a, ha, rfl⟩, has⟩
  have hPre : ∀ U : State, U.heap = H → s.WarmedH U.vm → ePc (tFz adK adV) tCl tNs D ws tys (.ref a :: vs) H.size (Value.ref a :: vs).toArray U := fun U hU hW => ⟨rfl, by rw [hU], by rw [hU]; exact hP, va_K.moved hW.alike hK, hD.weaken (fun _ _ _ _ => trivial), hXt.warm hW, by rw [hU]; exact (tFzOk adK adV).1 _ _ s U s.heap H hFz hW hS.2.1 hA1⟩
  unfold eRcv at hrcv
  simp only at hrcv
  split at hrcv
  · rename_i o ho
    have e0 := Nat.eq_of_beq_eq_true hrcv
    obtain ⟨⟨q, e9⟩, he, fs, hf, -⟩ := eAll_get hh ho
    have hf : e9 = .inr (o.1, fs) := hf
    subst hf
    have e1 := eAd_at he ha
    subst e1
    rw [e0] at he
    have hrun := va_runV (R := room_1) (p := p) (e := e) (below := below) (meth := meth) (locs := locs) (cells := cs) (slots := sl) (g := F0 m pc ls (vs.reverse ++ .ref a :: rest)) (As := vs) (rest := rest) ⟨hx, hb, hml, hown, hts⟩ hM ⟨callB_of _ hts (jG hcode) rfl rfl rfl (hts _ hini) (hts _ w1) hdd ⟨by show 600 + 1 ≤ 2048; omega, by show 8 + (N.2.1 + 11) + 128 * 600 ≤ 84000; omega⟩, hts _ w2, hts _ w3⟩ ⟨ePc_blind (tFzOk adK adV), va_recv hK hP hcl he, hPre⟩ rfl hnp hsz rfl (by show 2 * 0 + _ ≤ 8; omega) hdg ⟨by rw [hn0]; exact hcs, by rw [hn1]; exact hsl⟩
    rw [hn0, hn1] at hrun
    exact eBack hrun hS hA1 (fun o ho w ws' tys' H1 locs1 hov hpre' hh' hP' hK' hD' hS' => kk o ho w H1 locs1 ws' tys' hov hpre' ⟨hK', hP', hD', hS', hh'⟩)
  · cases hrcv
/-- the law's end -/
theorem law_end {H : Heap} {locs : List Loc} {cs sl : Nat} {ls : Array Slot} {ax am : Nat} (C0 : lX p s m meth c b xs adK adV) (hS : va_S (fun q => s.heap.size ≤ q) s.heap H locs) (hl : lv_has ls 4 [(0, .ref b), (1, .ref ax), (2, .ref am), (3, .int 0)]) (hcs : cs ≤ 600000) (hsl : sl ≤ 7302250) : W p l e room_1 s m #[Value.ref b] below meth c H locs cs sl (lw_Z below #[Value.ref b] s) (F0 m 1191 ls []) := by
  obtain ⟨⟨hx, hb, hr, hml, hown, hts, hX, hbl, hlocks, hgv⟩, hXt, hFz⟩ := C0
  have hbA : ¬ (fun q : Nat => s.heap.size ≤ q) b := Nat.not_le.mpr hbl
  refine lv_iinc (v := 6) (lv' := [(3, .int 6), (0, .ref b), (1, .ref ax), (2, .ref am)]) hx hb dl_1191 hl (k := 3) rfl (by decide) (by decide) rfl (fun ls hl => ?_)
  refine lv_goto (tgt := 18) hx hb dl_1194 (by decide) ?_
  refine lv_iload_n hx hb dl_18 rfl (lv_at hl 0 rfl) ?_
  refine lv_aload_n hx hb dl_19 rfl (lv_at hl 1 rfl) ?_
  refine va_slen hx hb hX hbl hbA hS dl_20 ?_
  refine lv_bipush (v := 6) hx hb dl_21 (by decide) ?_
  refine lv_isub hx hb dl_23 ?_
  refine lv_icmp_gt (tgt := 1197) hx hb dl_24 (by decide) (fun _ => ?_) (fun q => absurd (by decide) q)
  refine lv_iconst (v := 1) hx hb dl_1197 (by decide) ?_
  refine va_forget hS.2.2 (W.widen hcs hsl ?_)
  exact lw_ret hx hb hr hlocks dl_1198
/-- two answers are one -/
def eSm (v w : Option eV) : Bool := match v, w with
  | some (.inl p), some (.inl q) => Nat.beq p.1 q.1 && eLe p.2.2 p.2.1 && eLe q.2.2 q.2.1 && eLe p.2.1 q.2.1 && eLe q.2.1 p.2.1
  | _, _ => false
theorem eSm_ok {ad ad' : List Nat} {σ : Nat → Int} {v w : Option eV} {x y : Option Value} (h : eSm v w = true) (hx : eOv ad σ v x) (hy : eOv ad' σ w y) : ∃ z : Int32, x = some (.int z) ∧ y = some (.int z) := by
  unfold eSm at h
  split at h
  · rename_i p q
    simp only [Bool.and_eq_true] at h
    obtain ⟨⟨⟨⟨h1, h2⟩, h3⟩, h4⟩, h5⟩ := h
    have h1 := Nat.eq_of_beq_eq_true h1
    have h2 := eLe_ok h2
    have h3 := eLe_ok h3
    have h4 := eLe_ok h4
    have h5 := eLe_ok h5
    cases x with
    | none => exact hx.elim
    | some x =>
      cases y with
      | none => exact hy.elim
      | some y =>
        obtain ⟨x, rfl, a1, a2⟩ := hx
        obtain ⟨y, rfl, b1, b2⟩ := hy
        rw [h1] at a1 a2
        have e1 : x = y := Int32.toInt_inj.mp (by omega)
        subst e1
        exact ⟨x, rfl, rfl⟩
  · cases h
/-- a pair of calls that answer alike -/
def tPair (sr : List (Int × Int)) (ox om : Nat → Nat → List eV → eH → Option (List (Option eV × eH))) (bx bm : Nat) (as : List eV) : Bool := match tCall sr ox 600 bx (.inr (.inl (some 0)) :: as) hFresh with
  | some os => os.all (fun o => eRcv o.2 0 12 (.inr (.inl (some 70)) :: as) && (match tCall sr om 600 bm (.inr (.inl (some 70)) :: as) o.2 with
    | some os2 => os2.all (fun o2 => eSm o.1 o2.1)
    | none => false))
  | none => false
def PairOk (adK adV : Nat → Nat) (l : Launch) (sr : List (Int × Int)) (bx bm : Nat) (as : List eV) : Prop := ∃ os, eCon (tFz adK adV) l tCl lw_g tNs sr tMs tYs 600 bx (.inr (.inl (some 0)) :: as) hFresh os ∧ ∀ o ∈ os, eRcv o.2 0 12 (.inr (.inl (some 70)) :: as) = true ∧ ∃ os2, eCon (tFz adK adV) l tCl lw_g tNs sr tMs tYs 600 bm (.inr (.inl (some 70)) :: as) o.2 os2 ∧ ∀ o2 ∈ os2, eSm o.1 o2.1 = true
theorem tPair_ok {sr : List (Int × Int)} {ox om : Nat → Nat → List eV → eH → Option (List (Option eV × eH))} {bx bm : Nat} {as : List eV} (hox : ∀ (d b : Nat) (as : List eV) (h : eH) (os : List (Option eV × eH)), ox d b as h = some os → eCon (tFz adK adV) l tCl lw_g tNs sr tMs tYs d b as h os) (hom : ∀ (d b : Nat) (as : List eV) (h : eH) (os : List (Option eV × eH)), om d b as h = some os → eCon (tFz adK adV) l tCl lw_g tNs sr tMs tYs d b as h os) (h : tPair sr ox om bx bm as = true) : PairOk adK adV l sr bx bm as := by
  unfold tPair at h
  split at h
  · rename_i os hos
    refine ⟨os, tCall_ok hox hos, fun o ho => ?_⟩
    have h1 := List.all_eq_true.mp h o ho
    rw [Bool.and_eq_true] at h1
    refine ⟨h1.1, ?_⟩
    have h2 := h1.2
    split at h2
    · rename_i os2 hos2
      exact ⟨os2, tCall_ok hom hos2, fun o2 ho2 => List.all_eq_true.mp h2 o2 ho2⟩
    · cases h2
  · cases h
theorem tPair0 {sr : List (Int × Int)} {bx bm : Nat} {as : List eV} (h : tPair sr tNo tNo bx bm as = true) : PairOk adK adV l sr bx bm as := tPair_ok (fun _ _ _ _ _ h => by cases h) (fun _ _ _ _ _ h => by cases h) h
theorem hFresh_any : eLeH [(0, 0)] [(0, 0, 0)] hFresh hFresh = true := by decide +kernel
theorem lWd_any {σ τ : Nat → Int} {H : Heap} {locs : List Loc} {ws : va_W} {tys : List (ClassId × FieldType)} (hs : eSg [(0, 0)] σ) (h0 : τ 0 = 0) (h : lWd D s σ hFresh H locs ws tys) : lWd D s τ hFresh H locs ws tys := by
  obtain ⟨h1, h2, h3, h4, h5⟩ := h
  refine ⟨h1, h2, h3, h4, eLeH_ok hs h0 (fun q hq => ?_) hFresh_any h5⟩
  rw [List.mem_singleton] at hq
  subst hq
  show σ 0 = τ 0 + 0
  rw [hs.1, h0]
  rfl
end LAW
