/-! THE CLEAR MACHINE, 3: the run of a method, with the calls in it. -/
def cArgs (i : Nat) (vs : List cV) : cL := match vs with
  | [] => []
  | v :: vs => (i, v) :: cArgs (cond (Nat.beq (cCat v) 2) (i + 2) (i + 1)) vs
def cCats (vs : List cV) : Nat := match vs with
  | [] => 0
  | v :: vs => cCat v + cCats vs
def cRet (M : eM) (en : eN) (S : cS) : Option (Option cV) := match M.2.2.2.2.1, en.2.1, S.2.2.1 with
  | 0, .return_, [] => some none
  | 1, .ireturn, [.inl q] => some (some (.inl q))
  | 2, .ireturn, [.inl q] => cond (cB1 q) (some (some (.inl q))) none
  | 3, .lreturn, [.inr (.inl u)] => some (some (.inr (.inl u)))
  | 4, .areturn, [.inr (.inr (some k))] => some (some (.inr (.inr (some k))))
  | _, _, _ => none
def cPop (st : List cV) (np : Nat) (kd : Nat) : Option (List cV × List cV) := match kd with
  | 1 | 4 => cond (Nat.ble np st.length) (some ((st.take np).reverse, st.drop np)) none
  | _ => match st[np]? with
    | some (.inr (.inr (some k))) => some (.inr (.inr (some k)) :: (st.take np).reverse, st.drop (np + 1))
    | _ => none
def cRcv (h : cH) (kd d0 : Nat) (as : List cV) : Bool := match kd with
  | 0 => match as with
    | .inr (.inr (some k)) :: _ => match h[k]? with
      | some (.inl o) => Nat.beq o.1 d0
      | _ => false
    | _ => false
  | _ => true
def cCpy (h : cH) (k0 k1 : Nat) (n dp sp : Int32) : Option cH := match h[k0]?, h[k1]? with
  | some (.inr (.inl q0)), some (.inr (.inl q1)) => cond (Nat.beq q0.1 0 && Nat.beq q1.1 0 && !(Nat.beq k0 k1) && decide (0 ≤ n.toInt ∧ 0 ≤ dp.toInt ∧ 0 ≤ sp.toInt ∧ sp.toInt + n.toInt ≤ q0.2.1 ∧ dp.toInt + n.toInt ≤ q1.2.1)) (some (h.set k1 (.inr (.inl (q1.1, q1.2.1, va_cpy q0.2.2 q1.2.2 sp.toNatClampNeg dp.toNatClampNeg n.toNatClampNeg))))) none
  | _, _ => none
/-- Math.min (7), Math.max (8), arraycopy (9) -/
def cBlt (kd : Nat) (h : cH) (st : List cV) : Option (List cV × cH) := match kd, st with
  | 7, .inl y :: .inl x :: r => cond (Nat.ble (cCats r) 8) (some (.inl (if y < x then y else x) :: r, h)) none
  | 8, .inl y :: .inl x :: r => cond (Nat.ble (cCats r) 8) (some (.inl (if x < y then y else x) :: r, h)) none
  | 9, .inl n :: .inl dp :: .inr (.inr (some k1)) :: .inl sp :: .inr (.inr (some k0)) :: r => cond (Nat.ble (cCats r) 8) (match cCpy h k0 k1 n dp sp with
    | some h' => some (r, h')
    | none => none) none
  | _, _ => none
def cIsC (i : Instr) : Bool := match i with
  | .invokevirtual _ => true
  | .invokestatic _ => true
  | .invokespecial _ => true
  | _ => false
def cInv (ms : List eM) (ih : Nat → Nat → cS → Option (Option cV × cH)) (d y : Nat) (S : cS) (kd b d0 : Nat) : Option (Option cV × cH) :=
  match d with
  | 0 => none
  | d' + 1 => cond (Nat.ble 6 kd)
    (match cBlt kd S.2.2.2 S.2.2.1 with
      | some q => ih (d' + 1) y (S.1 + 3, S.2.1, q.1, q.2)
      | none => none)
    (match ms[b]? with
      | none => none
      | some N => match cPop S.2.2.1 N.2.2.2.2.2 kd with
        | none => none
        | some q => cond (Nat.ble (cCats q.2) 8 && Nat.beq N.2.2.1 0 && Nat.beq N.2.2.2.1 0 && Nat.ble (cCats q.1) N.2.1 && cRcv S.2.2.2 kd d0 q.1)
          (match ih d' b (0, cArgs 0 q.1, [], S.2.2.2) with
            | none => none
            | some o => ih (d' + 1) y (S.1 + 3, S.2.1, o.1.toList ++ q.2, o.2))
          none)
def cBody (ms : List eM) (ih : Nat → Nat → cS → Option (Option cV × cH)) (d y : Nat) (S : cS) : Option (Option cV × cH) := match ms[y]? with
  | none => none
  | some M => match eAt M.1 S.1 with
    | none => none
    | some en => match cRet M en S with
      | some v => some (v, S.2.2.2)
      | none => cond (cIsC en.2.1) (cInv ms ih d y S en.2.2.2.1 en.2.2.2.2.1 en.2.2.2.2.2.2) (match cStep M.2.1 en.2.1 en.2.2.2.1 en.2.2.2.2.1 en.2.2.2.2.2.2 S.1 S.2.1 S.2.2.1 S.2.2.2 with
        | some S' => ih d y S'
        | none => none)
def cEx (ms : List eM) (fuel : Nat) : Nat → Nat → cS → Option (Option cV × cH) :=
  Nat.rec (fun _ _ _ => none) (fun _ ih => cBody ms ih) fuel
theorem cBody_mono {ms : List eM} {f g : Nat → Nat → cS → Option (Option cV × cH)} {k : Nat} (hfg : ∀ d y S r, f d y S = some r → g (d + k) y S = some r) {d y : Nat} {S : cS} {r : Option cV × cH} (h : cBody ms f d y S = some r) : cBody ms g (d + k) y S = some r := by
  unfold cBody at h ⊢
  split at h
  · cases h
  · rename_i M hM
    split at h
    · cases h
    · rename_i en hen
      try rw [hM]
      try simp only
      try rw [hen]
      try simp only
      split at h
      · rename_i v hv
        try rw [hv]
        exact h
      · rename_i hv
        try rw [hv]
        try simp only
        cases hc : cIsC en.2.1 with
        | true =>
          rw [hc] at h
          simp only [cond_true] at h ⊢
          unfold cInv at h ⊢
          cases d with
          | zero => cases h
          | succ d' =>
            have e : d' + 1 + k = (d' + k) + 1 := by omega
            rw [e]
            simp only at h ⊢
            cases hk : Nat.ble 6 en.2.2.2.1 with
            | true =>
              rw [hk] at h
              simp only [cond_true] at h ⊢
              split at h
              · rename_i q hq
                try rw [hq]
                have := hfg _ _ _ _ h
                rw [e] at this
                exact this
              · cases h
            | false =>
              rw [hk] at h
              simp only [cond_false] at h ⊢
              split at h
              · cases h
              · rename_i N hN
                try rw [hN]
                try simp only
                split at h
                · cases h
                · rename_i q hq
                  try rw [hq]
                  try simp only
                  obtain ⟨hn, hg⟩ := eCond h
                  rw [hn]
                  simp only [cond_true]
                  split at hg
                  · cases hg
                  · rename_i o ho
                    rw [hfg _ _ _ _ ho]
                    have := hfg _ _ _ _ hg
                    rw [e] at this
                    exact this
        | false =>
          rw [hc] at h
          simp only [cond_false] at h ⊢
          split at h
          · rename_i S' hS'
            try rw [hS']
            exact hfg _ _ _ _ h
          · cases h
theorem cEx_up {ms : List eM} : ∀ (n : Nat) {d y : Nat} {S : cS} {r : Option cV × cH}, cEx ms n d y S = some r → cEx ms (n + 1) d y S = some r
  | 0, d, y, S, r, h => by cases h
  | n + 1, d, y, S, r, h => cBody_mono (k := 0) (fun d y S r hq => cEx_up n hq) (show cBody ms (cEx ms n) d y S = some r from h)
theorem cEx_le {ms : List eM} {n n' : Nat} (hn : n ≤ n') {d y : Nat} {S : cS} {r : Option cV × cH} (h : cEx ms n d y S = some r) : cEx ms n' d y S = some r := by
  obtain ⟨k, rfl⟩ := Nat.le.dest hn
  induction k with
  | zero => exact h
  | succ k ih => exact cEx_up _ (ih (by omega))
theorem cEx_deep {ms : List eM} (k : Nat) : ∀ (n : Nat) {d y : Nat} {S : cS} {r : Option cV × cH}, cEx ms n d y S = some r → cEx ms n (d + k) y S = some r
  | 0, d, y, S, r, h => by cases h
  | n + 1, d, y, S, r, h => cBody_mono (k := k) (fun d y S r hq => cEx_deep k n hq) (show cBody ms (cEx ms n) d y S = some r from h)
/-- from a place a method comes to its end, hands back v, and leaves the cells h -/
def cRun (ms : List eM) (d y : Nat) (S : cS) (v : Option cV) (h : cH) : Prop := ∃ n, cEx ms n d y S = some (v, h)
theorem cRun.deep {ms : List eM} {d d' y : Nat} {S : cS} {v : Option cV} {h : cH} (hr : cRun ms d y S v h) (hd : d ≤ d') : cRun ms d' y S v h := by
  obtain ⟨n, hn⟩ := hr
  obtain ⟨k, rfl⟩ := Nat.le.dest hd
  exact ⟨n, cEx_deep k n hn⟩
section CRU
variable {ms : List eM} {d y : Nat} {S : cS} {v : Option cV} {h : cH} {M : eM} {en : eN}
theorem cRun.ret (hM : ms[y]? = some M) (hen : eAt M.1 S.1 = some en) (hv : cRet M en S = some v) (hh : S.2.2.2 = h) : cRun ms d y S v h := by
  refine ⟨1, ?_⟩
  show cBody ms (cEx ms 0) d y S = _
  unfold cBody
  rw [hM]
  simp only
  rw [hen]
  simp only
  rw [hv, hh]
theorem cRun.step {S' : cS} (hM : ms[y]? = some M) (hen : eAt M.1 S.1 = some en) (hv : cRet M en S = none) (hc : cIsC en.2.1 = false) (hst : cStep M.2.1 en.2.1 en.2.2.2.1 en.2.2.2.2.1 en.2.2.2.2.2.2 S.1 S.2.1 S.2.2.1 S.2.2.2 = some S') (hr : cRun ms d y S' v h) : cRun ms d y S v h := by
  obtain ⟨n, hn⟩ := hr
  refine ⟨n + 1, ?_⟩
  show cBody ms (cEx ms n) d y S = _
  unfold cBody
  rw [hM]
  simp only
  rw [hen]
  simp only
  rw [hv, hc, hst]
  exact hn
theorem cRun.blt {q : List cV × cH} (hM : ms[y]? = some M) (hen : eAt M.1 S.1 = some en) (hv : cRet M en S = none) (hc : cIsC en.2.1 = true) (hk : Nat.ble 6 en.2.2.2.1 = true) (hb : cBlt en.2.2.2.1 S.2.2.2 S.2.2.1 = some q) (hr : cRun ms (d + 1) y (S.1 + 3, S.2.1, q.1, q.2) v h) : cRun ms (d + 1) y S v h := by
  obtain ⟨n, hn⟩ := hr
  refine ⟨n + 1, ?_⟩
  show cBody ms (cEx ms n) (d + 1) y S = _
  unfold cBody
  rw [hM]
  simp only
  rw [hen]
  simp only
  rw [hv, hc]
  simp only [cond_true]
  unfold cInv
  simp only
  rw [hk, hb]
  exact hn
theorem cRun.call {N : eM} {q : List cV × List cV} {o : Option cV} {h1 : cH} (hM : ms[y]? = some M) (hen : eAt M.1 S.1 = some en) (hv : cRet M en S = none) (hc : cIsC en.2.1 = true) (hk : Nat.ble 6 en.2.2.2.1 = false) (hN : ms[en.2.2.2.2.1]? = some N) (hp : cPop S.2.2.1 N.2.2.2.2.2 en.2.2.2.1 = some q)
    (hq : (Nat.ble (cCats q.2) 8 && Nat.beq N.2.2.1 0 && Nat.beq N.2.2.2.1 0 && Nat.ble (cCats q.1) N.2.1 && cRcv S.2.2.2 en.2.2.2.1 en.2.2.2.2.2.2 q.1) = true) (h0 : cRun ms d en.2.2.2.2.1 (0, cArgs 0 q.1, [], S.2.2.2) o h1) (hr : cRun ms (d + 1) y (S.1 + 3, S.2.1, o.toList ++ q.2, h1) v h) : cRun ms (d + 1) y S v h := by
  obtain ⟨n0, hn0⟩ := h0
  obtain ⟨n, hn⟩ := hr
  refine ⟨n0 + n + 1, ?_⟩
  show cBody ms (cEx ms (n0 + n)) (d + 1) y S = _
  have hn0 := cEx_le (n' := n0 + n) (by omega) hn0
  have hn := cEx_le (n' := n0 + n) (by omega) hn
  unfold cBody
  rw [hM]
  simp only
  rw [hen]
  simp only
  rw [hv, hc]
  simp only [cond_true]
  unfold cInv
  simp only
  rw [hk, hN]
  simp only [cond_false]
  rw [hp]
  simp only
  rw [hq, hn0]
  exact hn
end CRU
