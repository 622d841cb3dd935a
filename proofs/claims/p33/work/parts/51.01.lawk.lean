section LAW
variable {p : Program} {l : Launch} {e : Env} {s : State} {m : MethodId} {below : List Frame} {meth : Method} {c : Code} {b L : Nat} {xs : Nat → Int32} {adK adV : Nat → Nat} {D : va_G}
/-- the law's own: the machine, the code, the words, the script, what lies outside -/
def lX (p : Program) (s : State) (m : MethodId) (meth : Method) (c : Code) (b L : Nat) (xs : Nat → Int32) (adK adV : Nat → Nat) : Prop := lw_At p s m meth c b L xs ∧ eXt tNs s ∧ tFz adK adV (fun q => s.heap.size ≤ q) s s.heap
/-- the world between calls -/
def lWc (D : va_G) (s : State) (mm : dM) (H : Heap) (locs : List Loc) (ws : va_W) (tys : List (ClassId × FieldType)) : Prop := va_K D tCl tys s ∧ va_P D tCl ws H ∧ va_D (fun q => s.heap.size ≤ q) ws ∧ va_S (fun q => s.heap.size ≤ q) s.heap H locs ∧ eAll (cCk (ws.map Prod.fst) tys) (dHp mm) ws
theorem lgt {s : State} {args : Array Value} (h : ∀ w ∈ lw_tbl, w.before args s = true) : ∀ w ∈ lw_g, w.before args s = true := fun w hw => h w (List.mem_filter.mp hw).1
theorem ofI6 : ∀ k : Nat, k < 6 → (Int32.ofInt (k : Int)).toInt = (k : Int) := by decide
theorem law_arg {H : Heap} {locs : List Loc} {cs sl pc k : Nat} {i : Int32} {ls : Array Slot} {rest : List Value} {ax am : Nat} {Q : State → Prop} (C0 : lX p s m meth c b L xs adK adV) (hS : va_S (fun q => s.heap.size ≤ q) s.heap H locs) (hl : lv_has ls 4 [(0, .ref b), (1, .ref ax), (2, .ref am), (3, .int i)]) (hi : 0 ≤ i.toInt ∧ i.toInt + 6 ≤ L ∧ L ≤ 3072) (hk : k < 6) (d1 : decode code pc = .ok (.aload_n 0, 1)) (d2 : decode code (pc + 1) = .ok (.iload_n 3, 1)) (d3 : decode code (pc + 2) = .ok (.iconst (k : Int), 1)) (d4 : decode code (pc + 3) = .ok (.iadd, 1)) (d5 : decode code (pc + 4) = .ok (.iaload, 1))
    (kk : W p l e room_1 s m #[Value.ref b] below meth c H locs cs sl Q (F0 m (pc + 5) ls (.int (xs (i + Int32.ofInt (k : Int)).toNatClampNeg) :: rest))) : W p l e room_1 s m #[Value.ref b] below meth c H locs cs sl Q (F0 m pc ls rest) := by
  obtain ⟨⟨hx, hb, hr, hml, hown, hts, hX, hbl, hlocks, hgv⟩, hXt, hFz⟩ := C0
  have hbA : ¬ (fun q : Nat => s.heap.size ≤ q) b := Nat.not_le.mpr hbl
  refine lv_aload_n hx hb d1 rfl (lv_at hl 0 rfl) ?_
  refine lv_iload_n hx hb d2 rfl (lv_at hl 3 rfl) ?_
  refine lv_iconst hx hb d3 rfl ?_
  refine lv_iadd hx hb d4 ?_
  have f := dAddE (X := i.toInt) (Y := (k : Int)) (x := i) (y := Int32.ofInt (k : Int)) rfl (ofI6 k hk) (by omega) (by omega)
  exact va_sld hx hb hX hbl hbA hS (vp_in_iff.mpr ⟨by omega, by omega⟩) d5 kk
/-- the locals of a call: what the contract names is there -/
theorem lo_at : ∀ (as : List cV) (j i : Nat), (as.all fun v => Nat.beq (cCat v) 1) = true → ∀ v, as[i]? = some v → cGet (cArgs j as) (j + i) = some v
  | [], j, i, _, v, h => by simp at h
  | w :: as, j, i, hc, v, h => by
    simp only [List.all_cons, Bool.and_eq_true] at hc
    have e := Nat.eq_of_beq_eq_true hc.1
    have e2 : Nat.beq (cCat w) 2 = false := by rw [e]; rfl
    match i, h with
    | 0, h =>
      cases h
      show cond (Nat.beq j j) (some w) _ = some w
      rw [Nat.beq_refl]
      rfl
    | i + 1, h =>
      have hb : Nat.beq j (j + (i + 1)) = false := by
        cases hq : Nat.beq j (j + (i + 1)) with
        | false => rfl
        | true =>
          have := Nat.eq_of_beq_eq_true hq
          omega
      show cond (Nat.beq j (j + (i + 1))) (some w) (cGet (cArgs (cond (Nat.beq (cCat w) 2) (j + 2) (j + 1)) as) (j + (i + 1))) = some v
      rw [hb, e2, show j + (i + 1) = j + 1 + i by omega]
      exact lo_at as (j + 1) i hc.2 v h
theorem lo_args {as : List cV} {n : Nat} (hc : (as.all fun v => Nat.beq (cCat v) 1) = true) : dLo (List.map some as ++ List.replicate n none) (cArgs 0 as) := by
  intro i v h
  by_cases hi : i < as.length
  · rw [List.getElem?_append_left (by rw [List.length_map]; exact hi), List.getElem?_map] at h
    cases hq : as[i]? with
    | none => rw [hq] at h; cases h
    | some w =>
      rw [hq] at h
      have e : w = v := Option.some.inj (Option.some.inj h)
      subst e
      have := lo_at as 0 i hc w hq
      rw [Nat.zero_add] at this
      exact this
  · rw [List.getElem?_append_right (by rw [List.length_map]; omega), List.getElem?_replicate] at h
    split at h
    · cases h
    · cases h
theorem law_callC {mm : dM} {Qm : Int32 → dM → Prop} {H : Heap} {locs : List Loc} {ws : va_W} {tys : List (ClassId × FieldType)} {ls : Array Slot} {cs sl pc ix k a bm d0 : Nat} {l1 : dL} {as : List cV} {vs rest : List Value} {N : eM} {Y : eY} {T : u_T} {NN : Nat} {Q : State → Prop} (C0 : lX p s m meth c b L xs adK adV) (hW : lWc D s mm H locs ws tys) (hsz : ls.size = 4) (hwp : Wp 600 bm 0 l1 [] mm (qI Qm)) {nn : Nat} (hl1 : l1 = List.map some (.inr (.inr (some k)) :: as) ++ List.replicate nn none) (hcat : ((.inr (.inr (some k)) :: as : List cV).all fun v => Nat.beq (cCat v) 1) = true) (hca : cCats (.inr (.inr (some k)) :: as) ≤ N.2.1) (hN : tMs[bm]? = some N) (hY : tYs[bm]? = some Y) (hn0 : N.2.2.1 = 0) (hn1 : N.2.2.2.1 = 0) (hnp : vs.length = N.2.2.2.2.2)
    (w1 : Cond.methodLink R_law ix Y.1 ∈ lw_g) (w2 : Cond.instanceMethod Y.1 ∈ lw_g) (w3 : Cond.selects Y.1.cls Y.1 Y.1 ∈ lw_g) (hcl : tCl[d0]? = some (Y.1.cls, T, NN)) (hsh : ∃ fs, (dHp mm)[k]? = some (.inl (d0, fs))) (ha : (ws.map Prod.fst)[k]? = some a) (has : eAll (cOk (ws.map Prod.fst)) as vs) (hcr : (rest.map fun v => v.category).sum ≤ 8) (hcs : cs ≤ 600000) (hsl : sl ≤ 7302250) (hdg : decode code pc = .ok (.invokevirtual ix, 3))
    (kk : ∀ (r : Int32) (m' : dM) (H1 : Heap) (locs1 : List Loc) (ws' : va_W) (tys' : List (ClassId × FieldType)), Qm r m' → ws'.map Prod.fst = ws.map Prod.fst → lWc D s m' H1 locs1 ws' tys' → W p l e room_1 s m #[Value.ref b] below meth c H1 locs1 cs sl Q (F0 m (pc + 3) ls (.int r :: rest))) : W p l e room_1 s m #[Value.ref b] below meth c H locs cs sl Q (F0 m pc ls (vs.reverse ++ .ref a :: rest)) := by
  obtain ⟨⟨hx, hb, hr, hml, hown, hts0, hX, hbl, hlocks, hgv⟩, hXt, hFz⟩ := C0
  have hts := lgt hts0
  obtain ⟨hK, hP, hD, hS, hh⟩ := hW
  have hok : eMok tCl lw_g tNs tMs tYs N Y := by
    obtain ⟨Y', g1, g2⟩ := eAll_get tOk hN
    have e1 := Option.some.inj (g1.symm.trans hY)
    subst e1
    exact g2
  obtain ⟨-, hcode, hini, -, hdd, hnl, -⟩ := hok
  have hA1 : ∀ q, va_A ws H.size q → s.heap.size ≤ q := by
    intro q hq
    rcases hq with ⟨k, e9, hk⟩ | hq
    · exact hD.2 k (q, e9) hk
    · exact Nat.le_trans hS.1 hq
  have hlo : dLo l1 (cArgs 0 (.inr (.inr (some k)) :: as)) := by rw [hl1]; exact lo_args hcat
  obtain ⟨v, m', hrun0, r, rfl, hqm⟩ := hwp _ hlo
  have hcon : cCon (tFz adK adV) l tCl lw_g tNs tMs tYs 600 bm (.inr (.inr (some k)) :: as) (dHp mm) (some (.inl r)) (dHp m') := cRun_con (tFzOk adK adV) tOk lw_g_good tKl hN hca hrun0
  have hM := hcon N Y hN hY D ws tys (.ref a :: vs) H.size hh ⟨⟨a, ha, rfl⟩, has⟩
  have hPre : ∀ U : State, U.heap = H → s.WarmedH U.vm → ePc (tFz adK adV) tCl tNs D ws tys (.ref a :: vs) H.size (Value.ref a :: vs).toArray U := fun U hU hW => ⟨rfl, by rw [hU], by rw [hU]; exact hP, va_K.moved hW.alike hK, hD.weaken (fun _ _ _ _ => trivial), hXt.warm hW, by rw [hU]; exact (tFzOk adK adV).1 _ _ s U s.heap H hFz hW hS.2.1 hA1⟩
  obtain ⟨fs0, hsh⟩ := hsh
  obtain ⟨⟨q, e9⟩, he, fs, hf, -⟩ := eAll_get hh hsh
  have hf : e9 = .inr (d0, fs) := hf
  subst hf
  have e1 := eAd_at he ha
  subst e1
  have hrun := va_runV (R := room_1) (p := p) (e := e) (below := below) (meth := meth) (locs := locs) (cells := cs) (slots := sl) (g := F0 m pc ls (vs.reverse ++ .ref a :: rest)) (As := vs) (rest := rest) ⟨hx, hb, hml, hown, hts⟩ hM ⟨callB_of _ hts (jG hcode) rfl rfl rfl (hts _ hini) (hts _ w1) hdd ⟨by show 600 + 1 ≤ 2048; omega, by show 8 + (N.2.1 + 11) + 128 * 600 ≤ 84000; omega⟩, hts _ w2, hts _ w3⟩ ⟨ePc_blind (tFzOk adK adV), va_recv hK hP hcl he, hPre⟩ rfl hnp hsz rfl (by show 2 * 0 + _ ≤ 8; omega) hdg ⟨by rw [hn0]; exact hcs, by rw [hn1]; exact hsl⟩
  rw [hn0, hn1] at hrun
  refine cBack hrun hS hA1 (fun w ws' tys' H1 locs1 hov hpre' hh' hP' hK' hD' hS' => ?_)
  cases w with
  | none => exact hov.elim
  | some w =>
    have hw : w = .int r := hov
    subst hw
    exact kk r m' H1 locs1 ws' tys' hqm hpre' ⟨hK', hP', hD', hS', by rw [hpre']; exact hh'⟩
end LAW
