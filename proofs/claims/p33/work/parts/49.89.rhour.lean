/-! THE REFERENCE: an hour -/
section RHQ
variable {H : Ho} {S : Zt} {s : Nat}
theorem onA_cg {T : Zt} (hG : szG T = szG S) (hA : szA T = szA S) (h : Int32) : onA H T h = onA H S h := by
  unfold onA
  refine bs_congr _ (fun i hi => ?_)
  unfold onp
  rw [hG, hA]
theorem gng_cg {T : Zt} (hH : szH T = szH S) (hG : szG T = szG S) (hP : szP T = szP S) (hR : szR T = szR S) (hE : szE T = szE S) (on h more : Int32) : gng H T on h more = gng H S on h more := by
  unfold gng
  refine bs_congr _ (fun i hi => ?_)
  unfold gop vGo
  rw [hH, hG, hP, hR, hE]
theorem y_isSurge {m : dM} {Q : Int32 → dM → Prop} (hW : RW H s m) (hZ : m.1 108 55 = szH S) (hQ : Q (bi (sgp H (m.1 70 56) (szH S))) m) : c_X12_isSurge_70 2 m Q := by
  have a := hW.2.1.1
  refine v_X12_isSurge_70 (v_X12_mixed (v_X12_mixed ?_))
  rw [d_cn a.1, hZ, hW.2.2.2.2.2.2.1.1, a.1]
  have e1 : ∀ b : Bool, (decide ((lot (mx (mx (m.1 70 56) 129) ((4 : Int32) * szH S))).toInt < (hoS H).toInt) = b) → Q (bi b) m := fun b hb' => by
    rw [← hb']
    exact hQ
  exact ⟨by omega, fun q => e1 false (decide_eq_false (by
    have q : (hoS H).toInt ≤ (lot (mx (mx (m.1 70 56) 129) ((4 : Int32) * szH S))).toInt := q
    omega)), fun q => e1 true (decide_eq_true q)⟩
theorem RV.of {m m' : dM} {T : Zt} {G : Int32} {w : Nat} (h : RV H m T G w) (e : m'.1 108 = m.1 108) : RV H m' T G w := by
  unfold RV
  rw [e]
  exact h
/-- a wire that was gone, one that goes, one that stays -/
theorem RV.gone {m : dM} {T : Zt} {G : Int32} {w : Nat} (h : RV H m T G w) (hg : bt (szG T) w = true) (hG : bt G w = true) : RV H m T G (w + 1) := by
  obtain ⟨a, b, c, d⟩ := h
  refine ⟨a, fun j hj => ?_, c, d⟩
  obtain ⟨b1', b2', b3', b4'⟩ := b j hj
  by_cases e : j = w
  · subst e
    rw [if_neg (by omega)] at b2'
    refine ⟨b1', ?_, ?_, b4'⟩
    · rw [if_pos (by omega), hG, b2', hg]
    · rw [b3']
      unfold agn
      rw [if_neg (fun q => by omega), if_neg (fun q => by rw [hG] at q; cases q.2)]
  · rw [agn_o e]
    refine ⟨b1', ?_, b3', b4'⟩
    rw [b2']
    by_cases q : j < w
    · rw [if_pos q, if_pos (by omega)]
    · rw [if_neg q, if_neg (by omega)]
theorem RV.goes {m : dM} {T : Zt} {G : Int32} {w : Nat} (h : RV H m T G w) (hO : hOk H) (hw : w < hoW H) (hG : bt G w = true) : RV H (dSet m 108 (10 + w) (1 : Int32)) T G (w + 1) := by
  obtain ⟨⟨a1, a2, a3⟩, b, c, d⟩ := h
  obtain ⟨o1, o2, o3, _⟩ := hO
  refine ⟨⟨by rw [dSet_j (by omega)]; exact a1, by rw [dSet_j (by omega)]; exact a2, by rw [dSet_j (by omega)]; exact a3⟩, fun j hj => ?_, fun f hf => by rw [dSet_j (by omega)]; exact c f hf, fun u hu => by rw [dSet_j (by omega)]; exact d u hu⟩
  obtain ⟨b1', b2', b3', b4'⟩ := b j hj
  rw [dSet_j (show j ≠ 10 + w by omega), dSet_j (show 20 + j ≠ 10 + w by omega), dSet_j (show 30 + j ≠ 10 + w by omega)]
  by_cases e : j = w
  · subst e
    refine ⟨b1', ?_, ?_, b4'⟩
    · rw [dSet_s, if_pos (by omega), hG]; rfl
    · rw [b3']
      unfold agn
      rw [if_neg (fun q => by omega), if_neg (fun q => by rw [hG] at q; cases q.2)]
  · rw [agn_o e, dSet_j (by omega)]
    refine ⟨b1', ?_, b3', b4'⟩
    rw [b2']
    by_cases q : j < w
    · rw [if_pos q, if_pos (by omega)]
    · rw [if_neg q, if_neg (by omega)]
theorem RV.stays {m : dM} {T : Zt} {G v : Int32} {w : Nat} (h : RV H m T G w) (hO : hOk H) (hw : w < hoW H) (hg : bt (szG T) w = false) (hG : bt G w = false) (hv : v = (if (szE T w + 1) < (999 : Int32) then (szE T w + 1) else 999)) : RV H (dSet m 108 (20 + w) v) T G (w + 1) := by
  obtain ⟨⟨a1, a2, a3⟩, b, c, d⟩ := h
  obtain ⟨o1, o2, o3, _⟩ := hO
  refine ⟨⟨by rw [dSet_j (by omega)]; exact a1, by rw [dSet_j (by omega)]; exact a2, by rw [dSet_j (by omega)]; exact a3⟩, fun j hj => ?_, fun f hf => by rw [dSet_j (by omega)]; exact c f hf, fun u hu => by rw [dSet_j (by omega)]; exact d u hu⟩
  obtain ⟨b1', b2', b3', b4'⟩ := b j hj
  rw [dSet_j (show j ≠ 20 + w by omega), dSet_j (show 10 + j ≠ 20 + w by omega), dSet_j (show 30 + j ≠ 20 + w by omega)]
  by_cases e : j = w
  · subst e
    rw [if_neg (by omega)] at b2'
    refine ⟨b1', ?_, ?_, b4'⟩
    · rw [if_pos (by omega), b2', hg, hG]
    · rw [dSet_s, hv]
      unfold agn
      rw [if_pos (show j < j + 1 ∧ bt G j = false from ⟨by omega, hG⟩)]
  · rw [agn_o e, dSet_j (by omega)]
    refine ⟨b1', ?_, b3', b4'⟩
    rw [b2']
    by_cases q : j < w
    · rw [if_pos q, if_pos (by omega)]
    · rw [if_neg q, if_neg (by omega)]
theorem RZ.v {m : dM} {T : Zt} {G : Int32} (h : RZ H 108 m T) : RV H m T G 0 := by
  obtain ⟨a, b, c, d⟩ := h
  refine ⟨a, fun j hj => ?_, c, d⟩
  obtain ⟨b1', b2', b3', b4'⟩ := b j hj
  refine ⟨b1', ?_, ?_, b4'⟩
  · rw [if_neg (by omega)]; exact b2'
  · unfold agn
    rw [if_neg (fun q => by omega)]; exact b3'
/-- the state that comes of it -/
def wsg (H : Ho) (T : Zt) (G : Int32) : Zt := ((szH T + 1, szC T, szQ T, G, szP T, szA T), szR T, (fun w => if w < hoW H ∧ bt G w = false then (if (szE T w + 1) < (999 : Int32) then (szE T w + 1) else 999) else szE T w), szD T)
theorem RV.z {m : dM} {T : Zt} {G : Int32} (h : RV H m T G (hoW H)) (hO : hOk H) : RZ H 108 (dSet m 108 55 (m.1 108 55 + 1)) (wsg H T G) := by
  obtain ⟨⟨a1, a2, a3⟩, b, c, d⟩ := h
  obtain ⟨o1, o2, o3, _⟩ := hO
  refine ⟨⟨by rw [dSet_s, a1]; rfl, by rw [dSet_j (by decide)]; exact a2, by rw [dSet_j (by decide)]; exact a3⟩, fun j hj => ?_, fun f hf => by rw [dSet_j (by omega)]; exact c f hf, fun u hu => by rw [dSet_j (by omega)]; exact d u hu⟩
  obtain ⟨b1', b2', b3', b4'⟩ := b j hj
  rw [dSet_j (by omega), dSet_j (by omega), dSet_j (by omega), dSet_j (by omega)]
  rw [if_pos hj] at b2'
  exact ⟨b1', b2', b3', b4'⟩
theorem y_hourTail {m : dM} {Q : dM → Prop} {T : Zt} {gn : Int32} (hW : RW H s m) (hZ : RZ H 108 m T) (hL : RL H (szG T) m) (hE : ∀ w : Nat, w < hoW H → 0 ≤ (szE T w).toInt ∧ (szE T w).toInt ≤ 999) (hg : m.1 70 60 = gn) (hQ : ∀ m' : dM, HaF m m' → RW H s m' → m'.1 70 60 = gn → RZ H 108 m' (wsg H T (szG T ||| gn)) → RL H (szG T ||| gn) m' → Q m') : j_X12_hourGoes_70_169 6 (0 : Int32) m Q := by
  obtain ⟨o1, o2, o3, o4, o5, o6⟩ := hW.1
  have loop : ∀ (t w : Nat) (x4 : Int32) (M : dM), w + t = hoW H → x4.toInt = (w : Int) → (∀ k : Nat, k ≠ 108 → M.1 k = m.1 k) → M.2 = m.2 → RV H M T (szG T ||| gn) w → j_X12_hourGoes_70_169 6 x4 M Q := by
    intro t
    induction t with
    | zero =>
      intro w x4 M hw h4 hk h2 hV
      have hF : HaF m M := ⟨fun k _ q => hk k (by omega), fun j _ _ => by rw [hk 70 (by decide)], h2⟩
      have hWM := hW.ha hF
      have a := hWM.2.1.1
      rw [show w = hoW H by omega] at hV
      have hZ' := hV.z hW.1
      have hW' : RW H s (dSet M 108 55 (M.1 108 55 + 1)) := hWM.ha (HaF.rf M).set
      have g60 : M.1 70 60 = gn := by rw [hk 70 (by decide)]; exact hg
      refine v_X12_hourGoes_70_169 ?_
      rw [d_cn a.1, hWM.2.1.2.2.1.1, a.1, g60]
      refine ⟨by omega, fun _ => ⟨fun z => v_X12_hourGoes_70_284 (hQ _ hF.set hW' g60 hZ' ?_), fun z => ?_⟩, fun q => by exfalso; omega⟩
      · have ez : gn = 0 := Int32.toInt_inj.mp (by rw [z]; decide)
        rw [ez, Int32.or_zero]
        exact hL.of (by rw [dSet_k (by decide), hk 109 (by decide)]) (by rw [dSet_k (by decide), hk 110 (by decide)])
      · refine y_fillsWays (G := bt (szG T ||| gn)) hW'.2.1 (fun w hw => ?_) (fun M1 f1 d1 v1 => v_X12_hourGoes_70_284 (hQ M1 (hF.set.tr f1.ha) (hW'.ha f1.ha) ?_ ?_ ⟨d1, v1⟩))
        · have := (hZ'.2.1 w hw).2.1
          rw [this, bi_if]
          rfl
        · rw [f1.1 70 (by decide) (by decide)]; exact g60
        · exact hZ'.of (f1.1 108 (by decide) (by decide))
    | succ t ih =>
      intro w x4 M hw h4 hk h2 hV
      have hF : HaF m M := ⟨fun k _ q => hk k (by omega), fun j _ _ => by rw [hk 70 (by decide)], h2⟩
      have hWM := hW.ha hF
      have a := hWM.2.1.1
      have g60 : M.1 70 60 = gn := by rw [hk 70 (by decide)]; exact hg
      have on2 : ∀ M1 : dM, (∀ k : Nat, k ≠ 108 → M1.1 k = m.1 k) → M1.2 = m.2 → RV H M1 T (szG T ||| gn) (w + 1) → j_X12_hourGoes_70_256 6 x4 M1 Q := fun M1 p q r => v_X12_hourGoes_70_256 (ih (w + 1) _ M1 (by omega) (d_inc h4 (by omega)) p q r)
      have e10 := d_add (k := x4) (K := w) (x := (10 : Int32)) (i := 10) (by decide) h4 (by omega)
      have e20 := d_add (k := x4) (K := w) (x := (20 : Int32)) (i := 20) (by decide) h4 (by omega)
      obtain ⟨v1, v2, v3, v4⟩ := hV.2.1 w (by omega)
      rw [if_neg (by omega)] at v2
      have v3 : M.1 108 (20 + w) = szE T w := by
        rw [v3]
        unfold agn
        rw [if_neg (fun q => by omega)]
      refine v_X12_hourGoes_70_169 ?_
      rw [d_cn a.1, hWM.2.1.2.2.1.1, a.1, g60, d_cn e10, d_cn e20, v2, bi_if, bt_s h4 (by omega), v3]
      refine ⟨by omega, fun q => by exfalso; omega, fun _ => ⟨by omega, fun q1 => ⟨fun q2 => ⟨by omega, ?_⟩, fun q2 => ⟨by omega, ?_⟩⟩, fun q1 => on2 M hk h2 ?_⟩⟩
      · have g1 : bt (szG T) w = false := by
          cases e : bt (szG T) w with
          | false => rfl
          | true => rw [e] at q1; exact absurd rfl q1
        have g2 : bt gn w = false := by
          cases e : bt gn w with
          | false => rfl
          | true => rw [e] at q2; exact absurd rfl q2
        refine Wp.deep (y_within ⟨by omega, on2 _ (fun k q => by rw [dSet_k q]; exact hk k q) h2 ?_⟩) (Nat.le_of_ble_eq_true rfl)
        exact hV.stays hW.1 (by omega) g1 (by rw [bt_or, g1, g2]; rfl) (cl_age (hE w (by omega)))
      · have g2 : bt gn w = true := by
          cases e : bt gn w with
          | true => rfl
          | false => rw [e] at q2; exact absurd q2 (by decide)
        exact on2 _ (fun k q => by rw [dSet_k q]; exact hk k q) h2 (hV.goes hW.1 (by omega) (by rw [bt_or, g2, Bool.or_true]))
      · have g1 : bt (szG T) w = true := by
          cases e : bt (szG T) w with
          | true => rfl
          | false => rw [e] at q1; exact absurd q1 (by decide)
        exact hV.gone g1 (by rw [bt_or, g1, Bool.true_or])
  exact loop (hoW H) 0 _ m (by omega) (by decide) (fun _ _ => rfl) rfl hZ.v
/-- what is more in the wires by a surge -/
def mor (H : Ho) (S : Zt) (m : dM) : Int32 := cond (decide ((m.1 70 57).toInt ≠ 0)) 0 (sgA H (m.1 70 56) (szH S))
theorem y_hourGoes {m : dM} {Q : dM → Prop} (hW : RW H s m) (hZ : RZ H 108 m S) (hL : RL H (szG S) m) (hO : zOk H S) (hQ : ∀ m' : dM, HaF m m' → RW H s m' → m'.1 70 60 = gng H S (onA H S (hod (szH S))) (hod (szH S)) (mor H S m) → RZ H 108 m' (wsz H (pst H S) (mor H S m)) → RL H (szG (wsz H (pst H S) (mor H S m))) m' → Q m') : c_X12_hourGoes_70 6 m Q := by
  obtain ⟨o1, o2, o3, o4, o5, o6⟩ := hW.1
  have tail : ∀ M2 : dM, XaF m M2 → c_X12_paysAll_70 5 (onA H S (hod (szH S))) (dSet M2 70 60 (gng H S (onA H S (hod (szH S))) (hod (szH S)) (mor H S m))) (fun r3 m3 => c_X12_quarrelsAll_70 5 m3 (fun r4 m4 => c_X12_within 5 ((m4.1 108 56) + r3) (0 : Int32) (99999 : Int32) m4 (fun r5 m5 => c_X12_within 5 ((m5.1 108 57) + r4) (0 : Int32) (999999 : Int32) (dSet m5 108 56 r5) (fun r6 m6 => j_X12_hourGoes_70_111 6 (0 : Int32) (dSet m6 108 57 r6) Q)))) := by
    intro M2 f2
    have eg : gng H S (onA H S (hod (szH S))) (hod (szH S)) (mor H S m) = gng H (pst H S) (onA H (pst H S) (hod (szH S))) (hod (szH S)) (mor H S m) := by
      rw [gng_cg (S := S) (T := pst H S) rfl rfl rfl rfl rfl, onA_cg (S := S) (T := pst H S) rfl rfl]
    generalize hgn : gng H S (onA H S (hod (szH S))) (hod (szH S)) (mor H S m) = gn at hQ eg ⊢
    have F2 : HaF m (dSet M2 70 60 gn) := f2.ha.went
    have W2 := hW.ha F2
    have Z2 : RZ H 108 (dSet M2 70 60 gn) S := (hZ.xa f2 (Or.inr rfl)).of (dSet_k (by decide))
    have L2 : RL H (szG S) (dSet M2 70 60 gn) := (hL.xa f2).of (dSet_k (by decide)) (dSet_k (by decide))
    have g2 : (dSet M2 70 60 gn).1 70 60 = gn := dSet_s _ _ _ _
    generalize dSet M2 70 60 gn = M at F2 W2 Z2 L2 g2 ⊢
    refine Wp.deep (y_paysAll W2 Z2 (fun M3 f3 => ?_)) (Nat.le_of_ble_eq_true rfl)
    have W3 := W2.xa f3
    have Z3 := Z2.xa f3 (Or.inr rfl)
    have L3 := L2.xa f3
    refine Wp.deep (y_quarrelsAll W3 Z3 L3 (fun M4 f4 => ?_)) (Nat.le_of_ble_eq_true rfl)
    have W4 := W3.xa f4
    have Z4 := Z3.xa f4 (Or.inr rfl)
    have L4 := L3.xa f4
    have g4 : M4.1 70 60 = gn := by rw [f4.2.1 60 (by decide), f3.2.1 60 (by decide)]; exact g2
    have F4 : HaF m M4 := (F2.tr f3.ha).tr f4.ha
    rw [Z4.1.2.1]
    refine Wp.deep (y_within (T := 99999) ?_) (Nat.le_of_ble_eq_true rfl)
    rw [Z4.1.2.2]
    refine Wp.deep (y_within (T := 999999) ?_) (Nat.le_of_ble_eq_true rfl)
    generalize hc : cl 99999 (szC S + pyS H S (onA H S (hod (szH S))) (hoU H)) = cc
    generalize hq : cl 999999 (szQ S + quS H S (hoF H)) = qq
    have eP : pst H S = setQ (setC S cc) qq (dkn H S (hoF H)) := by
      unfold pst
      rw [hc, hq]
      rfl
    have F5 : HaF m (dSet (dSet M4 108 56 cc) 108 57 qq) := F4.set.set
    have Z5 : RZ H 108 (dSet (dSet M4 108 56 cc) 108 57 qq) (setQ (setC S cc) qq (dkn H S 0)) := (Z4.c hW.1).q hW.1
    have L5 : RL H (szG S) (dSet (dSet M4 108 56 cc) 108 57 qq) := L4.of (by rw [dSet_k (by decide), dSet_k (by decide)]) (by rw [dSet_k (by decide), dSet_k (by decide)])
    have g5 : (dSet (dSet M4 108 56 cc) 108 57 qq).1 70 60 = gn := by rw [dSet_k (by decide), dSet_k (by decide)]; exact g4
    generalize dSet (dSet M4 108 56 cc) 108 57 qq = M5 at F5 Z5 L5 g5 ⊢
    have loop : ∀ (t f : Nat) (x4 : Int32) (M6 : dM), f + t = hoF H → x4.toInt = (f : Int) → HaF m M6 → RL H (szG S) M6 → M6.1 70 60 = gn → RZ H 108 M6 (setQ (setC S cc) qq (dkn H S f)) → j_X12_hourGoes_70_111 6 x4 M6 Q := by
      intro t
      induction t with
      | zero =>
        intro f x4 M6 hf h4 F6 L6 g6 Z6
        have W6 := hW.ha F6
        have a := W6.2.1.1
        rw [show f = hoF H by omega, ← eP] at Z6
        refine v_X12_hourGoes_70_111 ?_
        rw [d_cn a.1, W6.2.1.2.1.1, a.1]
        refine ⟨by omega, fun _ => ?_, fun q => by exfalso; omega⟩
        refine y_hourTail (T := pst H S) (gn := gn) W6 Z6 L6 hO.2.2.2.2.2.2 g6 (fun M7 f7 W7 g7 Z7 L7 => hQ M7 (F6.tr f7) W7 g7 ?_ ?_)
        · have e : wsz H (pst H S) (mor H S m) = wsg H (pst H S) (szG (pst H S) ||| gn) := by
            rw [eg]
            rfl
          rw [e]
          exact Z7
        · have e : szG (wsz H (pst H S) (mor H S m)) = szG (pst H S) ||| gn := by
            rw [eg]
            rfl
          rw [e]
          exact L7
      | succ t ih =>
        intro f x4 M6 hf h4 F6 L6 g6 Z6
        have W6 := hW.ha F6
        have a := W6.2.1.1
        have e40 := d_add (k := x4) (K := f) (x := (40 : Int32)) (i := 40) (by decide) h4 (by omega)
        have z40 := Z6.2.2.1 f (by omega)
        have z40 : M6.1 108 (40 + f) = dkn H S f f := z40
        have on2 : ∀ v : Int32, v = dkn H S (f + 1) f → j_X12_hourGoes_70_111 6 (x4 + (1 : Int32)) (dSet M6 108 (40 + f) v) Q := fun v hv => ih (f + 1) _ _ (by omega) (d_inc h4 (by omega)) F6.set (L6.of (dSet_k (by decide)) (dSet_k (by decide))) (by rw [dSet_k (by decide)]; exact g6) (Z6.d hW.1 (by omega) (fun g hg => dkn_o hg) hv)
        refine v_X12_hourGoes_70_111 ?_
        rw [d_cn a.1, W6.2.1.2.1.1, a.1, d_cn e40]
        refine ⟨by omega, fun q => by exfalso; omega, fun _ => Wp.deep (y_isLit L6 h4 (by omega) (fun g => ⟨fun q => absurd q (by decide), fun _ => ⟨by omega, on2 _ ?_⟩⟩) (fun g => ⟨fun _ => ⟨by omega, by omega, on2 _ ?_⟩, fun q => absurd rfl q⟩)) (Nat.le_of_ble_eq_true rfl)⟩
        · unfold dkn
          rw [if_pos (by omega), g]
          rfl
        · rw [z40]
          unfold dkn
          rw [if_neg (by omega), if_pos (by omega), g]
          rfl
    exact loop (hoF H) 0 _ M5 (by omega) (by decide) F5 L5 g5 Z5
  refine v_X12_hourGoes_70 (v_X12_onNow_70 ?_)
  rw [hZ.1.1]
  refine Wp.deep (y_onAt hW hZ hL ?_) (Nat.le_of_ble_eq_true rfl)
  rw [hZ.1.1]
  have mo : ∀ x : Int32, mor H S m = x → c_X12_goingBits_70 5 (onA H S (hod (szH S))) (hod (szH S)) x m (fun r2 m2 => c_X12_paysAll_70 5 (onA H S (hod (szH S))) (dSet m2 70 60 r2) (fun r3 m3 => c_X12_quarrelsAll_70 5 m3 (fun r4 m4 => c_X12_within 5 ((m4.1 108 56) + r3) (0 : Int32) (99999 : Int32) m4 (fun r5 m5 => c_X12_within 5 ((m5.1 108 57) + r4) (0 : Int32) (999999 : Int32) (dSet m5 108 56 r5) (fun r6 m6 => j_X12_hourGoes_70_111 6 (0 : Int32) (dSet m6 108 57 r6) Q))))) := fun x hx => y_goingBits hW hZ hL (fun M2 f2 => by
    rw [← hx]
    exact tail M2 f2)
  refine ⟨fun q => mo 0 ?_, fun q => ?_⟩
  · unfold mor
    rw [decide_eq_true q]
    rfl
  · have em : mor H S m = sgA H (m.1 70 56) (szH S) := by
      unfold mor
      rw [decide_eq_false (fun z => z q)]
      rfl
    refine Wp.deep (y_isSurge hW hZ.1.1 ?_) (Nat.le_of_ble_eq_true rfl)
    rw [bi_if]
    have a := hW.2.1.1
    cases g : sgp H (m.1 70 56) (szH S) with
    | true =>
      refine ⟨fun z => absurd z (by decide), fun _ => ?_⟩
      rw [d_cn a.1, hW.2.2.2.2.2.2.1.2.1, a.1]
      refine ⟨by omega, mo _ ?_⟩
      rw [em]
      unfold sgA
      rw [g]
      rfl
    | false =>
      refine ⟨fun _ => mo _ ?_, fun z => absurd rfl z⟩
      rw [em]
      unfold sgA
      rw [g]
      rfl
end RHQ
