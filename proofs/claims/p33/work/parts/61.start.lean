/-- the world between calls, behind the starts -/
def lWd (D : va_G) (s : State) (σ : Nat → Int) (h : eH) (H : Heap) (locs : List Loc) (ws : va_W) (tys : List (ClassId × FieldType)) : Prop := va_K D tCl tys s ∧ va_P D tCl ws H ∧ va_D (fun q => s.heap.size ≤ q) ws ∧ va_S (fun q => s.heap.size ≤ q) s.heap H locs ∧ eAll (eCk (ws.map Prod.fst) σ tys) h ws
theorem lw_ad {ws ws' : va_W} {k a : Nat} (h : (ws.map Prod.fst)[k]? = some a) (hp : ∃ t, ws'.map Prod.fst = ws.map Prod.fst ++ t) : (ws'.map Prod.fst)[k]? = some a := by
  obtain ⟨t, ht⟩ := hp
  rw [ht, List.getElem?_append_left (List.getElem?_eq_some_iff.mp h).1]
  exact h
/-! THE LAW, from its entry -/
section LWS
variable {p : Program} {l : Launch} {e : Env} {s : State} {m : MethodId} {below : List Frame} {meth : Method} {c : Code} {b L : Nat} {xs : Nat → Int32} {adK adV : Nat → Nat} {D : va_G}
theorem law_init {sr : List (Int × Int)} {σ : Nat → Int} {H : Heap} {locs : List Loc} {ws : va_W} {tys : List (ClassId × FieldType)} {ls : Array Slot} {h : eH} {cs sl pc idx k a bm : Nat} {rest : List Value} {os : List (Option eV × eH)} {N : eM} {Y : eY} {Q : State → Prop} (hx : p.tables.exec = Jvm.exec) (hb : c.code = code) (hml : c.maxLocals = 4) (hown : s.vm.findClass R_law = some m.cls) (hts : ∀ w ∈ lw_g, w.before #[Value.ref b] s = true) (hXt : eXt tNs s) (hFz : tFz adK adV (fun q => s.heap.size ≤ q) s s.heap) (hs : eSg sr σ) (hW : lWd D s σ h H locs ws tys) (hsz : ls.size = 4) (hcon : eCon (tFz adK adV) l tCl lw_g tNs sr tMs tYs 600 bm [.inr (.inl (some k))] h os) (hN : tMs[bm]? = some N) (hY : tYs[bm]? = some Y) (hnp : N.2.2.2.2.2 = 0)
    (w1 : Cond.methodLink R_law idx Y.1 ∈ lw_g) (w2 : Y.1.name = "<init>") (w3 : Y.2.2 = none) (w4 : Cond.instanceMethod Y.1 ∈ lw_g) (ha : (ws.map Prod.fst)[k]? = some a) (hcr : (rest.map fun v : Value => v.category).sum ≤ 8) (hcs : cs + N.2.2.1 ≤ 600000) (hsl : sl + N.2.2.2.1 ≤ 7302250) (hdg : decode code pc = .ok (.invokespecial idx, 3))
    (kk : ∀ o ∈ os, ∀ (w : Option Value) (H1 : Heap) (locs1 : List Loc) (ws' : va_W) (tys' : List (ClassId × FieldType)), eOv (ws'.map Prod.fst) σ o.1 w → (∃ t, ws'.map Prod.fst = ws.map Prod.fst ++ t) → lWd D s σ o.2 H1 locs1 ws' tys' → W p l e room_1 s m #[Value.ref b] below meth c H1 locs1 (cs + N.2.2.1) (sl + N.2.2.2.1) Q (F0 m (pc + 3) ls (w.toList ++ rest))) : W p l e room_1 s m #[Value.ref b] below meth c H locs cs sl Q (F0 m pc ls (.ref a :: rest)) := by
  obtain ⟨hK, hP, hD, hS, hh⟩ := hW
  have hok : eMok tCl lw_g tNs tMs tYs N Y := by
    obtain ⟨Y', g1, g2⟩ := eAll_get tOk hN
    have e1 := Option.some.inj (g1.symm.trans hY)
    subst e1
    exact g2
  obtain ⟨-, hcode, hini, -, hdd, hnl, -⟩ := hok
  have hA1 : ∀ q, va_A ws H.size q → s.heap.size ≤ q := by
    intro q hq
    rcases hq with ⟨k, e9, hk⟩ | hq
    · exact hD.2 k (q, e9) hk
    · exact Nat.le_trans hS.1 hq
  have hM := hcon N Y hN hY D σ ws tys [.ref a] H.size hs hh ⟨⟨a, ha, rfl⟩, trivial⟩
  have hPre : ∀ U : State, U.heap = H → s.WarmedH U.vm → ePc (tFz adK adV) tCl tNs D ws tys [.ref a] H.size (Value.ref a :: []).toArray U := fun U hU hW => ⟨rfl, by rw [hU], by rw [hU]; exact hP, va_K.moved hW.alike hK, hD.weaken (fun _ _ _ _ => trivial), hXt.warm hW, by rw [hU]; exact (tFzOk adK adV).1 _ _ s U s.heap H hFz hW hS.2.1 hA1⟩
  rw [w3] at hM hcode
  rw [hnp] at hdd
  have hrun := va_runI (R := room_1) (p := p) (e := e) (below := below) (meth := meth) (locs := locs) (cells := cs) (slots := sl) (g := F0 m pc ls (.ref a :: rest)) (As := []) (rest := rest) ⟨hx, hb, hml, hown, hts⟩ hM ⟨callB_of _ hts (jG hcode) rfl rfl rfl (hts _ hini) (hts _ w1) hdd ⟨by show 600 + 1 ≤ 2048; omega, by show 8 + (N.2.1 + 11) + 128 * 600 ≤ 84000; omega⟩, w2, hts _ w4⟩ ⟨ePc_blind (tFzOk adK adV), hPre⟩ rfl rfl hsz rfl (by show 2 * 0 + _ ≤ 8; omega) hdg ⟨hcs, hsl⟩
  exact eBack hrun hS hA1 (fun o ho w ws' tys' H1 locs1 hov hpre' hh' hP' hK' hD' hS' => kk o ho w H1 locs1 ws' tys' hov hpre' ⟨hK', hP', hD', hS', hh'⟩)
theorem law_new {σ : Nat → Int} {H : Heap} {locs : List Loc} {ws : va_W} {tys : List (ClassId × FieldType)} {ls : Array Slot} {h : eH} {cs sl pc idx ci : Nat} {C : String} {T : u_T} {N : Nat} {fs : List eV} {rest : List Value} {Q : State → Prop} (hx : p.tables.exec = Jvm.exec) (hb : c.code = code) (hown : s.vm.findClass R_law = some m.cls) (hts : ∀ w ∈ lw_g, w.before #[Value.ref b] s = true) (h0 : σ 0 = 0) (hW : lWd D s σ h H locs ws tys) (hc : tCl[ci]? = some (C, T, N)) (hfs : tDf[ci]? = some fs) (w1 : Cond.classLink R_law idx C ∈ lw_g) (w2 : Cond.instantiable C N ∈ lw_g) (w3 : Cond.initialized C ∈ lw_g) (hcs : cs + 1 ≤ 600000) (hsl : sl + N ≤ 7302250) (hdg : decode code pc = .ok (.new idx, 3))
    (kk : ∀ (q : Nat) (H1 : Heap) (ws' : va_W), ws'.map Prod.fst = ws.map Prod.fst ++ [q] → lWd D s σ (h ++ [.inl (ci, fs)]) H1 locs ws' tys → W p l e room_1 s m #[Value.ref b] below meth c H1 locs (cs + 1) (sl + N) Q (F0 m (pc + 3) ls (.ref q :: rest))) : W p l e room_1 s m #[Value.ref b] below meth c H locs cs sl Q (F0 m pc ls rest) := by
  obtain ⟨hK, hP, hD, hS, hh⟩ := hW
  obtain ⟨hin1, ty, hty, hnm, hdf⟩ := tKl ci C T N hc
  obtain ⟨hlen, vs, hvs, hdv⟩ := hdf fs hfs
  refine va_new hx hb hts hin1 ty hty hown (hts _ w1) (hts _ w2) (hts _ w3) hK hP hD hS (fun _ z => z) hc hdv hcs hsl hdg (fun q H1 hP hD hS => ?_)
  have e1 : (ws ++ [(q, (.inr (ci, vs) : va_E))]).map Prod.fst = ws.map Prod.fst ++ [q] := by simp
  exact kk q H1 _ e1 ⟨hK, hP, hD, hS, eAll_app (eAll_mono (fun _ _ => eCk_ad ⟨[q], e1⟩ ⟨[], by simp⟩) hh) ⟨⟨vs, rfl, hvs _ _ h0⟩, trivial⟩⟩
theorem nsOk : ∀ q ∈ tNs, Cond.methodLinkNest q.1 q.2.1 q.2.2.1 q.2.2.2 ∈ lw_tbl := List.forall_mem_cons.mpr ⟨kW_ok (c := 1032) (by decide +kernel), List.forall_mem_cons.mpr ⟨kW_ok (c := 1038) (by decide +kernel), List.forall_mem_cons.mpr ⟨kW_ok (c := 2063) (by decide +kernel), List.forall_mem_cons.mpr ⟨kW_ok (c := 2118) (by decide +kernel), List.forall_mem_cons.mpr ⟨kW_ok (c := 2199) (by decide +kernel), List.forall_mem_cons.mpr ⟨kW_ok (c := 4082) (by decide +kernel), List.forall_mem_cons.mpr ⟨kW_ok (c := 4134) (by decide +kernel), List.forall_mem_cons.mpr ⟨kW_ok (c := 5057) (by decide +kernel), List.forall_mem_cons.mpr ⟨kW_ok (c := 5070) (by decide +kernel), List.forall_mem_cons.mpr ⟨kW_ok (c := 5112) (by decide +kernel), List.forall_mem_cons.mpr ⟨kW_ok (c := 5197) (by decide +kernel), List.forall_mem_cons.mpr ⟨kW_ok (c := 5235) (by decide +kernel), fun _ h => absurd h List.not_mem_nil⟩⟩⟩⟩⟩⟩⟩⟩⟩⟩⟩⟩
theorem avOk : Cond.arrayOver (.array .int) ∈ lw_tbl := kW_ok (c := 1043) (by decide +kernel)
def tTm : Nat → Term := fun _ => Term.string "FuseTreaty$Tokens" 29
theorem flE : ∀ j : Nat, j < 116 → (flatC (Jvm.Cond.and given_1 narrow_1))[13 + j]? = some (Cond.eq (.elem (.field (Term.string "FuseTreaty$Tokens" 29) "java/lang/String" "value" "[B") (.int (Int32.ofNat j))) (.int ((tByt.getD 0 []).getD j 0))) := by decide +kernel
theorem strOk : Cond.stringRef "FuseTreaty$Tokens" 29 tTx ∈ lw_tbl := kW_ok (c := 1174) (by decide +kernel)
theorem law_out {L : Nat} (C0 : lw_At p s m meth c b L xs) : ∃ adK adV : Nat → Nat, tFz adK adV (fun q => s.heap.size ≤ q) s s.heap := by
  obtain ⟨hx, hb, hr, hml, hown, hts, hX, hbl, hlocks, hgv⟩ := C0
  have hf := flat_of_before _ hgv
  have hA : ∀ a : Nat, a < s.heap.size → ¬ (fun q : Nat => s.heap.size ≤ q) a := fun a ha => Nat.not_le.mpr ha
  have i0 : ∀ i : Nat, i < 1 → i = 0 := fun i hi => by omega
  obtain ⟨adK, adV, h1, h2⟩ := vk_Sof (args := #[Value.ref b]) (s := s) (N := 1) (tm := tTm) (len := tLen) (byt := tByt) (A := fun q => s.heap.size ≤ q)
    (fun i hi => by rw [i0 i hi]; decide)
    (fun i hi => by rw [i0 i hi]; exact hf _ (List.mem_of_getElem? (i := 9) (by decide +kernel)))
    (fun i hi => by rw [i0 i hi]; exact hf _ (List.mem_of_getElem? (i := 10) (by decide +kernel)))
    (fun i hi => by rw [i0 i hi]; exact hf _ (List.mem_of_getElem? (i := 11) (by decide +kernel)))
    (fun i hi => by rw [i0 i hi]; exact hf _ (List.mem_of_getElem? (i := 12) (by decide +kernel)))
    (fun i hi j hj => by rw [i0 i hi] at hj ⊢; exact hf _ (List.mem_of_getElem? (flE j hj)))
    (fun i j hi hj hij => absurd ((i0 i hi).trans (i0 j hj).symm) hij) hA
  refine ⟨adK, adV, h1, ?_, ?_, ?_⟩
  · exact va_Zof (hts _ (kW_ok (c := 1184) (by decide +kernel))) (hts _ (kW_ok (c := 1005) (by decide +kernel))) (va_eqt (hf _ (List.mem_of_getElem? (i := 4) (by decide +kernel)))) hA
  · exact va_Zqof (hts _ (kW_ok (c := 1200) (by decide +kernel))) (hts _ (kW_ok (c := 1007) (by decide +kernel))) (hf _ (List.mem_of_getElem? (i := 5) (by decide +kernel))) hA
  · exact vk_R.of (hts _ strOk) (h2 0 (by decide))
theorem law_K {args : Array Value} (hts : ∀ w ∈ lw_g, w.before args s = true) : ∃ D : va_G, va_K D tCl [] s := by
  obtain ⟨c0, iS0, hKn0⟩ := u_known (C := RX0) (T := TX0) (N := 4) (n := 4) hts (tKl 0 _ _ _ rfl).1 (hts (.instantiable RX0 4) (kIs_ok (c := 2141) (by decide +kernel)))
  obtain ⟨c1, iS1, hKn1⟩ := u_known (C := RX1) (T := TX1) (N := 5) (n := 5) hts (tKl 1 _ _ _ rfl).1 (hts (.instantiable RX1 5) (kIs_ok (c := 2193) (by decide +kernel)))
  obtain ⟨c2, iS2, hKn2⟩ := u_known (C := RX2) (T := TX2) (N := 7) (n := 7) hts (tKl 2 _ _ _ rfl).1 (hts (.instantiable RX2 7) (kIs_ok (c := 2009) (by decide +kernel)))
  obtain ⟨c3, iS3, hKn3⟩ := u_known (C := RX3) (T := TX3) (N := 16) (n := 16) hts (tKl 3 _ _ _ rfl).1 (hts (.instantiable RX3 16) (kIs_ok (c := 1031) (by decide +kernel)))
  obtain ⟨c4, iS4, hKn4⟩ := u_known (C := RX4) (T := TX4) (N := 6) (n := 6) hts (tKl 4 _ _ _ rfl).1 (hts (.instantiable RX4 6) (kIs_ok (c := 1037) (by decide +kernel)))
  obtain ⟨c5, iS5, hKn5⟩ := u_known (C := RX5) (T := TX5) (N := 6) (n := 6) hts (tKl 5 _ _ _ rfl).1 (hts (.instantiable RX5 6) (kIs_ok (c := 2037) (by decide +kernel)))
  obtain ⟨c6, iS6, hKn6⟩ := u_known (C := RX6) (T := TX6) (N := 5) (n := 5) hts (tKl 6 _ _ _ rfl).1 (hts (.instantiable RX6 5) (kIs_ok (c := 2117) (by decide +kernel)))
  obtain ⟨c7, iS7, hKn7⟩ := u_known (C := RX7) (T := TX7) (N := 9) (n := 9) hts (tKl 7 _ _ _ rfl).1 (hts (.instantiable RX7 9) (kIs_ok (c := 2062) (by decide +kernel)))
  obtain ⟨c8, iS8, hKn8⟩ := u_known (C := RX8) (T := TX8) (N := 6) (n := 6) hts (tKl 8 _ _ _ rfl).1 (hts (.instantiable RX8 6) (kIs_ok (c := 1169) (by decide +kernel)))
  obtain ⟨c9, iS9, hKn9⟩ := u_known (C := RX9) (T := TX9) (N := 4) (n := 4) hts (tKl 9 _ _ _ rfl).1 (hts (.instantiable RX9 4) (kIs_ok (c := 2217) (by decide +kernel)))
  obtain ⟨c10, iS10, hKn10⟩ := u_known (C := RX10) (T := TX10) (N := 6) (n := 6) hts (tKl 10 _ _ _ rfl).1 (hts (.instantiable RX10 6) (kIs_ok (c := 2147) (by decide +kernel)))
  obtain ⟨c11, iS11, hKn11⟩ := u_known (C := RX11) (T := TX11) (N := 13) (n := 13) hts (tKl 11 _ _ _ rfl).1 (hts (.instantiable RX11 13) (kIs_ok (c := 1023) (by decide +kernel)))
  obtain ⟨c12, iS12, hKn12⟩ := u_known (C := RX12) (T := TX12) (N := 69) (n := 69) hts (tKl 12 _ _ _ rfl).1 (hts (.instantiable RX12 69) (kIs_ok (c := 6007) (by decide +kernel)))
  obtain ⟨dC, dI, hKc⟩ : ∃ (dC : Nat → ClassId) (dI : Nat → Nat → Nat), ∀ (k : Nat) (q : vw_C), tCl[k]? = some q → u_Kn s q.1 q.2.1 q.2.2 (dC k) (dI k) := by
    refine ⟨fun k => if k = 0 then c0 else if k = 1 then c1 else if k = 2 then c2 else if k = 3 then c3 else if k = 4 then c4 else if k = 5 then c5 else if k = 6 then c6 else if k = 7 then c7 else if k = 8 then c8 else if k = 9 then c9 else if k = 10 then c10 else if k = 11 then c11 else c12, fun k => if k = 0 then iS0 else if k = 1 then iS1 else if k = 2 then iS2 else if k = 3 then iS3 else if k = 4 then iS4 else if k = 5 then iS5 else if k = 6 then iS6 else if k = 7 then iS7 else if k = 8 then iS8 else if k = 9 then iS9 else if k = 10 then iS10 else if k = 11 then iS11 else iS12, ?_⟩
    intro k q hq
    match k, hq with
    | 0, hq => cases hq; exact hKn0
    | 1, hq => cases hq; exact hKn1
    | 2, hq => cases hq; exact hKn2
    | 3, hq => cases hq; exact hKn3
    | 4, hq => cases hq; exact hKn4
    | 5, hq => cases hq; exact hKn5
    | 6, hq => cases hq; exact hKn6
    | 7, hq => cases hq; exact hKn7
    | 8, hq => cases hq; exact hKn8
    | 9, hq => cases hq; exact hKn9
    | 10, hq => cases hq; exact hKn10
    | 11, hq => cases hq; exact hKn11
    | 12, hq => cases hq; exact hKn12
    | k + 13, hq => simp [tCl] at hq
  exact ⟨(dC, dI), hKc, fun k q h => by simp at h⟩
set_option maxHeartbeats 4000000 in
/-- THE LAW, from its entry -/
theorem whole_start {p : Program} {e : Env} {s : State} {m : MethodId} {below : List Frame} {meth : Method} {c : Code} (l : Launch) (hflags : l.flags = flags0) {b L : Nat} {xs : Nat → Int32} (hL : L ≤ 3072) (C0 : lw_At p s m meth c b L xs) : W p l e room_1 s m #[Value.ref b] below meth c s.heap [] 0 0 (lw_Z below #[Value.ref b] s) (entryFrame m ([Value.ref b] : List Value).toArray 4) := by
  obtain ⟨adK, adV, hFz⟩ := law_out C0
  obtain ⟨hx, hb, hr, hml, hown, hts0, hX, hbl, hlocks, hgv⟩ := id C0
  have hts := lgt hts0
  have hXt : eXt tNs s := ⟨fun q hq => va_Nw.of rfl (hts0 _ (nsOk q hq)), hts0 _ avOk⟩
  obtain ⟨D, hK⟩ := law_K hts
  have hbA : ¬ (fun q : Nat => s.heap.size ≤ q) b := Nat.not_le.mpr hbl
  have hs0 : eSg [(0, 0)] (fun _ => 0) := ⟨rfl, fun j q hq => by
    have hz : j < 1 := (List.getElem?_eq_some_iff.mp hq).1
    rw [show j = 0 by omega] at hq
    cases hq
    exact ⟨Int.le_refl _, Int.le_refl _⟩⟩
  have hW : lWd D s (fun _ => 0) [] s.heap [] [] [] := ⟨hK, fun k q h => by simp at h, ⟨fun i j p q h => by simp at h, fun k q h => by simp at h⟩, va_S.rf, trivial⟩
  have hl := lv_entry ([.ref b]) (n := 4) (Nat.le_of_ble_eq_true rfl)
  rw [lg_entry_eq]
  generalize (lg_sl ([.ref b]) ++ List.replicate (4 - (lg_sl ([.ref b])).length) Slot.unset).toArray = ls at hl ⊢
  have hl : lv_has ls 4 [(0, .ref b)] := hl
  refine law_new (σ := fun _ => 0) (ci := 11) (fs := (tDf[11]?).getD []) hx hb hown hts rfl hW rfl rfl (kIs_ok (c := 1022) (by decide +kernel)) (kIs_ok (c := 1023) (by decide +kernel)) (kIs_ok (c := 1001) (by decide +kernel)) (by omega) (by omega) dl_0 (fun q0 H1 ws1 ha1 hW1 => ?_)
  refine lv_dup hx hb dl_3 rfl ?_
  refine law_init (N := tM242) (Y := tY242) (adK := adK) (adV := adV) hx hb hml hown hts hXt hFz hs0 hW1 hl.1 (tInit1_ok l adK adV) rfl rfl rfl (kIs_ok (c := 1024) (by decide +kernel)) rfl rfl (kIs_ok (c := 1025) (by decide +kernel)) (by rw [ha1]; rfl) (Nat.le_of_ble_eq_true rfl) (by decide) (by decide) dl_4 (fun o ho w H2 locs2 ws2 tys2 hov2 hpre2 hW2 => ?_)
  rw [List.mem_singleton] at ho
  subst ho
  have hax : (ws2.map Prod.fst)[0]? = some q0 := lw_ad (by rw [ha1]; rfl) hpre2
  have hlen2 : ws2.length = 70 := by rw [← eAll_len hW2.2.2.2.2]; rfl
  cases w with
  | some w => exact hov2.elim
  | none =>
    refine lv_astore_n (lv' := [(1, .ref q0), (0, .ref b)]) hx hb dl_7 rfl hl (by decide) rfl (fun ls hl => ?_)
    refine law_new (σ := fun _ => 0) (ci := 12) (fs := (tDf[12]?).getD []) hx hb hown hts rfl hW2 rfl rfl (kIs_ok (c := 6006) (by decide +kernel)) (kIs_ok (c := 6007) (by decide +kernel)) (kIs_ok (c := 1019) (by decide +kernel)) (by decide) (by decide) dl_8 (fun q1 H3 ws3 ha3 hW3 => ?_)
    refine lv_dup hx hb dl_11 rfl ?_
    have ham3 : (ws3.map Prod.fst)[70]? = some q1 := by
      rw [ha3, List.getElem?_append_right (by rw [List.length_map, hlen2]; omega), List.length_map, hlen2]
      rfl
    refine law_init (N := tM0) (Y := tY0) (adK := adK) (adV := adV) hx hb hml hown hts hXt hFz hs0 hW3 hl.1 (tInit2_ok l adK adV) rfl rfl rfl (kIs_ok (c := 6008) (by decide +kernel)) rfl rfl (kIs_ok (c := 6009) (by decide +kernel)) ham3 (Nat.le_of_ble_eq_true rfl) (by decide) (by decide) dl_12 (fun o ho w H4 locs4 ws4 tys4 hov4 hpre4 hW4 => ?_)
    rw [List.mem_singleton] at ho
    subst ho
    have hax4 : (ws4.map Prod.fst)[0]? = some q0 := lw_ad (lw_ad hax ⟨_, ha3⟩) hpre4
    have ham4 : (ws4.map Prod.fst)[70]? = some q1 := lw_ad ham3 hpre4
    cases w with
    | some w => exact hov4.elim
    | none =>
      refine lv_astore_n (lv' := [(2, .ref q1), (1, .ref q0), (0, .ref b)]) hx hb dl_15 rfl hl (by decide) rfl (fun ls hl => ?_)
      refine lv_iconst (v := 0) hx hb dl_16 (by decide) ?_
      refine lv_istore_n (lv' := [(3, .int 0), (2, .ref q1), (1, .ref q0), (0, .ref b)]) hx hb dl_17 rfl hl (by decide) rfl (fun ls hl => ?_)
      have hl : lv_has ls 4 [(0, .ref b), (1, .ref q0), (2, .ref q1), (3, .int 0)] := lv_sub hl [3, 2, 1, 0] rfl
      obtain ⟨zc, zo, z1, z2⟩ := z_ok (σ := fun _ => 0) rfl hW4.2.2.2.2
      have hWc : lWc D s (zM ws4) H4 locs4 (zW ws4) tys4 := ⟨hW4.1, zW_P hW4.2.1, zW_D hW4.2.2.1, hW4.2.2.2.1, by rw [zW_fst]; exact zc⟩
      exact law_loop ⟨C0, hXt, hFz⟩ hL (by decide) (by decide) (L + 1) 0 (zM ws4) H4 locs4 (zW ws4) tys4 ls zo ⟨⟨z_rq (σ := fun _ => 0) rfl hW4.2.2.2.2, Tl.z (d_ce (z_val (σ := fun _ => 0) rfl hW4.2.2.2.2 (k := 70) (j := 63) (b := 0) (by decide +kernel)))⟩, z_fr (σ := fun _ => 0) rfl hW4.2.2.2.2⟩ hWc (by rw [zW_fst]; exact hax4) (by rw [zW_fst]; exact ham4) hl ⟨by decide, by show (0 : Int) ≤ L; omega⟩ (by show (L : Int) - 0 < ((L + 1 : Nat) : Int); omega)
end LWS
