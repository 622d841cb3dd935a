/-! THE TOKENS START as a known call -/
def tNo : Nat → Nat → List eV → eH → Option (List (Option eV × eH)) := fun _ _ _ _ => none
theorem tRun {l0 : Launch} {adK adV : Nat → Nat} {sr : List (Int × Int)} {orc : Nat → Nat → List eV → eH → Option (List (Option eV × eH))} (horc : ∀ (d b : Nat) (as : List eV) (h : eH) (os : List (Option eV × eH)), orc d b as h = some os → eCon (tFz adK adV) l0 tCl lw_g tNs sr tMs tYs d b as h os) (n : Nat) : eIH (tFz adK adV) l0 tCl lw_g tNs sr tMs tYs (eExec sr tDf tMs orc n) := eExec_ok (tFzOk adK adV) tOk lw_g_good tKl horc n
theorem tRun0 {l0 : Launch} {adK adV : Nat → Nat} {sr : List (Int × Int)} (n : Nat) : eIH (tFz adK adV) l0 tCl lw_g tNs sr tMs tYs (eExec sr tDf tMs tNo n) := tRun (fun _ _ _ _ _ h => by cases h) n
/-- the loop over the words, run -/
def tWl (sr : List (Int × Int)) (d : Nat) : Nat → eS → Option eS
  | 0, _ => none
  | n + 1, S => match eGet S.2.1 4, eGet S.2.1 1, S.2.2.1 with
    | some (.inl q4), some (.inl q1), [] => match eOne q4, eOne q1 with
      | some y4, some y1 => cond (Nat.beq S.1 51 && Nat.ble 6 d && Nat.ble S.2.2.2.2.1 tM214.2.2.1 && Nat.ble S.2.2.2.2.2 tM214.2.2.2.1)
        (cond (eLe 116 y4.toInt) (some (111, S.2.1, [], S.2.2.2))
          (cond (eLe 0 y4.toInt && eLe y1.toInt 21) (match eExec sr tDf tMs tNo 200 d 214 [51] (74, S.2.1, [.inl (ePt (tCh y4.toNatClampNeg))], S.2.2.2) with
            | some [f] => tWl sr d n f
            | _ => none) none)) none
      | _, _ => none
    | _, _, _ => none
theorem tWl_ok {l0 : Launch} {adK adV : Nat → Nat} {sr : List (Int × Int)} {d : Nat} : ∀ {n : Nat} {S E : eS}, tWl sr d n S = some E → eGl (tFz adK adV) l0 tCl lw_g tNs sr tMs tYs d 214 S [E]
  | 0, S, E, h => by cases h
  | n + 1, (pc, l, st, hp, cs, sl), E, h => by
    unfold tWl at h
    split at h
    · rename_i q4 q1 h4 h1 h0
      have h4 : eGet l 4 = some (.inl q4) := h4
      have h1 : eGet l 1 = some (.inl q1) := h1
      have h0 : st = [] := h0
      subst h0
      split at h
      · rename_i y4 y1 e4 e1
        obtain ⟨hb, h⟩ := eCond h
        simp only [Bool.and_eq_true] at hb
        obtain ⟨⟨⟨b1, b2⟩, b3⟩, b4⟩ := hb
        have b1 : pc = 51 := Nat.eq_of_beq_eq_true b1
        subst b1
        have b2 := Nat.le_of_ble_eq_true b2
        have b3 : cs ≤ tM214.2.2.1 := Nat.le_of_ble_eq_true b3
        have b4 : sl ≤ tM214.2.2.2.1 := Nat.le_of_ble_eq_true b4
        cases hc : eLe 116 y4.toInt with
        | true =>
          rw [hc] at h
          cases h
          exact tTok_end b2 b3 b4 rfl rfl h4 e4 (eLe_ok hc)
        | false =>
          rw [hc] at h
          obtain ⟨hb, h⟩ := eCond (show cond _ _ none = some E from h)
          rw [Bool.and_eq_true] at hb
          have c1 := eLe_ok hb.1
          have c2 := eLe_ok hb.2
          have c3 := eLe_no hc
          split at h
          · rename_i f hf
            refine eGl_trans (tTok_go b2 b3 b4 rfl rfl h4 e4 h1 e1 c1 c3 (by omega)) (fun T hT => ?_)
            rw [List.mem_singleton] at hT
            subst hT
            refine eGl_trans (tRun0 (l0 := l0) (adK := adK) (adV := adV) 200 d 214 [51] _ _ hf) (fun T hT => ?_)
            rw [List.mem_singleton] at hT
            subst hT
            exact tWl_ok h
          · cases h
      · cases h
    · cases h
def tTokO (sr : List (Int × Int)) (d : Nat) (as : List eV) (h : eH) : Option (List (Option eV × eH)) := match as with
  | [.inr (.inl (some k))] => match eExec sr tDf tMs tNo 200 d 214 [51] (0, eArgs 0 [.inr (.inl (some k))], [], h, 0, 0) with
    | some [f] => match tWl sr d 120 f with
      | some E => eOuts tM214 [E]
      | none => none
    | _ => none
  | _ => none
theorem tTokO_ok {l0 : Launch} {adK adV : Nat → Nat} {sr : List (Int × Int)} {d : Nat} {as : List eV} {hp : eH} {os : List (Option eV × eH)} (h : tTokO sr d as hp = some os) : eCon (tFz adK adV) l0 tCl lw_g tNs sr tMs tYs d 214 as hp os := by
  unfold tTokO at h
  split at h
  · rename_i k
    split at h
    · rename_i f hf
      split at h
      · rename_i E hE
        have hrun := tRun0 (l0 := l0) (adK := adK) (adV := adV) 200 d 214 [51] _ _ hf
        refine eCon_of tOk (N := tM214) (fs := [E]) rfl (by show 1 + 0 ≤ _; decide) (eGl_trans hrun (fun T hT => ?_)) h
        rw [List.mem_singleton] at hT
        subst hT
        exact tWl_ok hE
      · cases h
    · cases h
  · cases h
/-- the known calls: the Tokens start -/
def tOrc (sr : List (Int × Int)) : Nat → Nat → List eV → eH → Option (List (Option eV × eH)) := fun d b as h => cond (Nat.beq b 214) (tTokO sr d as h) none
theorem tOrc_ok {l0 : Launch} {adK adV : Nat → Nat} {sr : List (Int × Int)} : ∀ (d b : Nat) (as : List eV) (h : eH) (os : List (Option eV × eH)), tOrc sr d b as h = some os → eCon (tFz adK adV) l0 tCl lw_g tNs sr tMs tYs d b as h os := by
  intro d b as h os hq
  obtain ⟨h1, h2⟩ := eCond hq
  have e := Nat.eq_of_beq_eq_true h1
  subst e
  exact tTokO_ok h2
/-- a call, run to its ends -/
def tCall (sr : List (Int × Int)) (orc : Nat → Nat → List eV → eH → Option (List (Option eV × eH))) (d b : Nat) (as : List eV) (h : eH) : Option (List (Option eV × eH)) := match tMs[b]? with
  | none => none
  | some N => cond (Nat.ble (eCats as) N.2.1) (match eExec sr tDf tMs orc 100000 d b [] (0, eArgs 0 as, [], h, 0, 0) with
    | some fs => eOuts N fs
    | none => none) none
theorem tCall_ok {l0 : Launch} {adK adV : Nat → Nat} {sr : List (Int × Int)} {orc : Nat → Nat → List eV → eH → Option (List (Option eV × eH))} (horc : ∀ (d b : Nat) (as : List eV) (h : eH) (os : List (Option eV × eH)), orc d b as h = some os → eCon (tFz adK adV) l0 tCl lw_g tNs sr tMs tYs d b as h os) {d b : Nat} {as : List eV} {h : eH} {os : List (Option eV × eH)} (hc : tCall sr orc d b as h = some os) : eCon (tFz adK adV) l0 tCl lw_g tNs sr tMs tYs d b as h os := by
  unfold tCall at hc
  split at hc
  · cases hc
  · rename_i N hN
    obtain ⟨h1, h2⟩ := eCond hc
    split at h2
    · rename_i fs hfs
      exact eCon_of tOk hN (Nat.le_of_ble_eq_true h1) (tRun horc _ _ _ _ _ _ hfs) h2
    · cases h2
/-- all, as it is behind the two starts -/
def hFresh : eH := [
  .inl (11, [.inr (.inl (some 1)), eZero, .inl (0, -1, -1), .inr (.inl (some 2)), .inr (.inl (some 20)), .inr (.inl (some 38)), .inr (.inl (some 43)), .inr (.inl (some 44)), .inr (.inl (some 47)), .inr (.inl (some 51)), .inr (.inl (some 54)), .inr (.inl (some 61)), .inr (.inl (some 67))]),
  .inr (1, 2000, .inr (-128, 127)),
  .inl (3, [eZero, eZero, eZero, eZero, eZero, .inl (0, 100, 100), eZero, .inr (.inl (some 3)), .inr (.inl (some 4)), .inr (.inl (some 5)), .inr (.inl (some 6)), .inr (.inl (some 7)), .inr (.inl (some 8)), .inr (.inl (some 9)), .inr (.inl (some 10)), .inr (.inl (some 11))]),
  .inr (0, 7, .inl ([eZero, eZero, eZero, eZero, eZero, eZero, eZero])),
  .inr (0, 10, .inl ([eZero, eZero, eZero, eZero, eZero, eZero, eZero, eZero, eZero, eZero])),
  .inr (0, 10, .inl ([eZero, eZero, eZero, eZero, eZero, eZero, eZero, eZero, eZero, eZero])),
  .inr (0, 10, .inl ([eZero, eZero, eZero, eZero, eZero, eZero, eZero, eZero, eZero, eZero])),
  .inr (0, 8, .inl ([eZero, eZero, eZero, eZero, eZero, eZero, eZero, eZero])),
  .inr (0, 8, .inl ([eZero, eZero, eZero, eZero, eZero, eZero, eZero, eZero])),
  .inr (0, 8, .inl ([eZero, eZero, eZero, eZero, eZero, eZero, eZero, eZero])),
  .inr (0, 8, .inl ([eZero, eZero, eZero, eZero, eZero, eZero, eZero, eZero])),
  .inl (4, [.inr (.inl (some 12)), .inl (0, 6, 6), .inr (.inl (some 13)), .inr (.inl (some 18)), .inr (.inl (some 19)), eZero]),
  .inr (0, 406, .inl (([.inl (0, 4, 4), .inl (0, 5, 5), .inl (0, 1, 1), .inl (0, 13, 13), .inl (0, 5, 5), .inl (0, 9, 9)] ++ (List.replicate 400 (eZero))))),
  .inr (4, 4, .inl ([.inr (.inl (some 14)), .inr (.inl (some 15)), .inr (.inl (some 16)), .inr (.inl (some 17))])),
  .inr (0, 14, .inl (([eZero, .inl (0, 3, 3)] ++ (List.replicate 12 (eZero))))),
  .inr (0, 14, .inl (([.inl (0, 3, 3), .inl (0, 4, 4)] ++ (List.replicate 12 (eZero))))),
  .inr (0, 14, .inl (([.inl (0, 4, 4), .inl (0, 5, 5)] ++ (List.replicate 12 (eZero))))),
  .inr (0, 14, .inl (([.inl (0, 5, 5), .inl (0, 6, 6)] ++ (List.replicate 12 (eZero))))),
  .inr (0, 4, .inl ([.inl (0, 1, 1), .inl (0, 1, 1), .inl (0, 1, 1), .inl (0, 1, 1)])),
  .inr (0, 32, .inl (List.replicate 32 (eZero))),
  .inl (3, [eZero, eZero, eZero, eZero, eZero, eZero, eZero, .inr (.inl (some 21)), .inr (.inl (some 22)), .inr (.inl (some 23)), .inr (.inl (some 24)), .inr (.inl (some 25)), .inr (.inl (some 26)), .inr (.inl (some 27)), .inr (.inl (some 28)), .inr (.inl (some 29))]),
  .inr (0, 7, .inl ([eZero, eZero, eZero, eZero, eZero, eZero, eZero])),
  .inr (0, 10, .inl ([eZero, eZero, eZero, eZero, eZero, eZero, eZero, eZero, eZero, eZero])),
  .inr (0, 10, .inl ([eZero, eZero, eZero, eZero, eZero, eZero, eZero, eZero, eZero, eZero])),
  .inr (0, 10, .inl ([eZero, eZero, eZero, eZero, eZero, eZero, eZero, eZero, eZero, eZero])),
  .inr (0, 8, .inl ([eZero, eZero, eZero, eZero, eZero, eZero, eZero, eZero])),
  .inr (0, 8, .inl ([eZero, eZero, eZero, eZero, eZero, eZero, eZero, eZero])),
  .inr (0, 8, .inl ([eZero, eZero, eZero, eZero, eZero, eZero, eZero, eZero])),
  .inr (0, 8, .inl ([eZero, eZero, eZero, eZero, eZero, eZero, eZero, eZero])),
  .inl (4, [.inr (.inl (some 30)), eZero, .inr (.inl (some 31)), .inr (.inl (some 36)), .inr (.inl (some 37)), eZero]),
  .inr (0, 406, .inl (List.replicate 406 (eZero))),
  .inr (4, 4, .inl ([.inr (.inl (some 32)), .inr (.inl (some 33)), .inr (.inl (some 34)), .inr (.inl (some 35))])),
  .inr (0, 14, .inl (List.replicate 14 (eZero))),
  .inr (0, 14, .inl (List.replicate 14 (eZero))),
  .inr (0, 14, .inl (List.replicate 14 (eZero))),
  .inr (0, 14, .inl (List.replicate 14 (eZero))),
  .inr (0, 4, .inl ([eZero, eZero, eZero, eZero])),
  .inr (0, 32, .inl (List.replicate 32 (eZero))),
  .inl (8, [.inr (.inl (some 39)), .inr (.inl (some 40)), .inr (.inl (some 41)), .inr (.inl (some 42)), .inr (.inl none), eZero]),
  .inr (0, 401, .inl (List.replicate 401 (eZero))),
  .inr (0, 401, .inl (List.replicate 401 (eZero))),
  .inr (3, 401, .inr (0, 0)),
  .inr (3, 22, .inl (tWd.map (fun x => .inr (.inr (some x))))),
  .inl (2, [.inr (.inl (some 38)), .inr (.inl (some 29)), eZero, eZero, eZero, eZero, eZero]),
  .inl (5, [.inr (.inl (some 38)), .inr (.inl (some 20)), .inr (.inl (some 45)), .inr (.inl (some 46)), eZero, eZero]),
  .inr (3, 7, .inr (0, 0)),
  .inr (3, 8, .inr (0, 0)),
  .inl (7, [eZero, .inl (0, 100, 100), eZero, eZero, eZero, eZero, .inr (.inl (some 48)), .inr (.inl (some 49)), .inr (.inl (some 50))]),
  .inr (0, 10, .inl ([eZero, eZero, eZero, eZero, eZero, eZero, eZero, eZero, eZero, eZero])),
  .inr (0, 10, .inl ([eZero, eZero, eZero, eZero, eZero, eZero, eZero, eZero, eZero, eZero])),
  .inr (0, 7, .inl ([eZero, eZero, eZero, eZero, eZero, eZero, eZero])),
  .inl (6, [.inr (.inl (some 52)), .inr (.inl (some 53)), eZero, eZero, eZero]),
  .inr (0, 1320, .inr (0, 0)),
  .inr (0, 99, .inl (List.replicate 99 (eZero))),
  .inl (0, [.inr (.inl (some 2)), .inr (.inl (some 57)), .inr (.inl (some 55)), .inr (.inl (some 56))]),
  .inr (0, 9, .inl ([eZero, eZero, eZero, eZero, eZero, eZero, eZero, eZero, eZero])),
  .inr (0, 10, .inl ([eZero, eZero, eZero, eZero, eZero, eZero, eZero, eZero, eZero, eZero])),
  .inl (10, [.inr (.inl (some 2)), .inl (0, -1, -1), .inr (.inl (some 58)), .inr (.inl (some 59)), .inr (.inl (some 60)), eZero]),
  .inr (0, 7, .inl ([eZero, eZero, eZero, eZero, eZero, eZero, eZero])),
  .inr (0, 7, .inl ([eZero, eZero, eZero, eZero, eZero, eZero, eZero])),
  .inr (0, 7, .inl ([eZero, eZero, eZero, eZero, eZero, eZero, eZero])),
  .inl (1, [.inr (.inl (some 2)), .inr (.inl (some 54)), .inr (.inl (some 62)), .inr (.inl (some 66)), eZero]),
  .inl (7, [eZero, eZero, eZero, eZero, eZero, eZero, .inr (.inl (some 63)), .inr (.inl (some 64)), .inr (.inl (some 65))]),
  .inr (0, 10, .inl ([eZero, eZero, eZero, eZero, eZero, eZero, eZero, eZero, eZero, eZero])),
  .inr (0, 10, .inl ([eZero, eZero, eZero, eZero, eZero, eZero, eZero, eZero, eZero, eZero])),
  .inr (0, 7, .inl ([eZero, eZero, eZero, eZero, eZero, eZero, eZero])),
  .inr (0, 8, .inl ([eZero, eZero, eZero, eZero, eZero, eZero, eZero, eZero])),
  .inl (9, [.inr (.inl (some 2)), .inr (.inl (some 68)), .inr (.inl (some 69)), eZero]),
  .inr (0, 20, .inl (List.replicate 20 (eZero))),
  .inr (2, 20, .inl (List.replicate 20 (eZero))),
  .inl (12, [eZero, .inr (.inl (some 71)), eZero, .inr (.inl (some 72)), eZero, .inr (.inl (some 73)), .inr (.inl (some 74)), .inr (.inl (some 75)), .inr (.inl (some 76)), .inr (.inl (some 77)), eZero, eZero, eZero, eZero, eZero, eZero, eZero, .inl (0, -1, -1), eZero, eZero, eZero, .inr (.inl (some 78)), .inr (.inl (some 79)), .inr (.inl (some 80)), .inr (.inl (some 81)), .inr (.inl (some 82)), .inr (.inl (some 83)), .inr (.inl (some 84)), .inr (.inl (some 85)), .inr (.inl (some 86)), .inr (.inl (some 87)), .inr (.inl (some 88)), .inr (.inl (some 89)), .inr (.inl (some 90)), .inr (.inl (some 91)), .inr (.inl (some 92)), .inr (.inl (some 93)), .inr (.inl (some 94)), .inr (.inl (some 95)), .inr (.inl (some 96)), eZero, .inr (.inl (some 97)), .inr (.inl (some 98)), .inr (.inl (some 99)), .inr (.inl (some 100)), .inr (.inl (some 101)), eZero, .inr (.inl (some 102)), .inr (.inl (some 103)), .inr (.inl (some 104)), eZero, .inr (.inl (some 105)), .inr (.inl (some 106)), eZero, .inr (.inl (some 107)), .inr (.inl (some 108)), eZero, eZero, .inr (.inl (some 109)), .inr (.inl (some 110)), eZero, eZero, .inr (.inl (some 111)), eZero, .inr (.inl (some 112)), .inr (.inl (some 113)), .inr (.inl (some 114)), .inr (.inl (some 115)), .inr (.inl (some 116))]),
  .inr (1, 2000, .inr (-128, 127)),
  .inr (1, 2000, .inr (-128, 127)),
  .inr (0, 403, .inl (List.replicate 403 (eZero))),
  .inr (0, 403, .inl (List.replicate 403 (eZero))),
  .inr (0, 403, .inl (List.replicate 403 (eZero))),
  .inr (3, 403, .inr (0, 0)),
  .inr (3, 22, .inl (tWd.map (fun x => .inr (.inr (some x))))),
  .inr (3, 15, .inr (0, 0)),
  .inr (0, 15, .inl (List.replicate 15 (eZero))),
  .inr (0, 2, .inl ([eZero, eZero])),
  .inr (0, 14, .inl (List.replicate 14 (eZero))),
  .inr (0, 2, .inl ([eZero, eZero])),
  .inr (0, 20, .inl (List.replicate 20 (eZero))),
  .inr (0, 20, .inl (List.replicate 20 (eZero))),
  .inr (0, 20, .inl (List.replicate 20 (eZero))),
  .inr (0, 2, .inl ([eZero, eZero])),
  .inr (0, 16, .inl (List.replicate 16 (eZero))),
  .inr (0, 16, .inl (List.replicate 16 (eZero))),
  .inr (0, 16, .inl (List.replicate 16 (eZero))),
  .inr (0, 16, .inl (List.replicate 16 (eZero))),
  .inr (0, 2, .inl ([eZero, eZero])),
  .inr (0, 2, .inl ([eZero, eZero])),
  .inr (0, 2, .inl ([.inl (0, 100, 100), eZero])),
  .inr (0, 2, .inl ([eZero, eZero])),
  .inr (0, 8, .inl ([eZero, eZero, eZero, eZero, eZero, eZero, eZero, eZero])),
  .inr (0, 8, .inl ([eZero, eZero, eZero, eZero, eZero, eZero, eZero, eZero])),
  .inr (2, 260, .inl (List.replicate 260 (eZero))),
  .inr (0, 260, .inl (List.replicate 260 (eZero))),
  .inr (0, 260, .inl (List.replicate 260 (eZero))),
  .inr (0, 260, .inl (List.replicate 260 (eZero))),
  .inr (0, 260, .inl (List.replicate 260 (eZero))),
  .inr (0, 840, .inr (0, 0)),
  .inr (0, 840, .inr (0, 0)),
  .inr (0, 64, .inl (List.replicate 64 (eZero))),
  .inr (0, 9, .inl ([eZero, eZero, eZero, eZero, eZero, eZero, eZero, eZero, eZero])),
  .inr (0, 400, .inl (List.replicate 400 (eZero))),
  .inr (0, 58, .inl ((List.replicate 56 (eZero) ++ ([.inl (0, 100, 100), eZero])))),
  .inr (0, 58, .inl ((List.replicate 56 (eZero) ++ ([.inl (0, 100, 100), eZero])))),
  .inr (0, 7, .inl ([eZero, eZero, eZero, eZero, eZero, eZero, eZero])),
  .inr (0, 7, .inl ([eZero, eZero, eZero, eZero, eZero, eZero, eZero])),
  .inr (0, 2320, .inr (0, 0)),
  .inr (0, 20, .inl (List.replicate 20 (eZero))),
  .inr (0, 20, .inl (List.replicate 20 (eZero))),
  .inr (0, 10, .inl ([eZero, eZero, eZero, eZero, eZero, eZero, eZero, eZero, eZero, eZero])),
  .inr (2, 3, .inl ([eZero, eZero, eZero])),
  .inr (0, 174, .inl (List.replicate 174 (eZero)))]
def hClass : eH := [
  .inl (11, [.inr (.inl (some 1)), eZero, .inl (0, -1, -1), .inr (.inl (some 2)), .inr (.inl (some 20)), .inr (.inl (some 38)), .inr (.inl (some 43)), .inr (.inl (some 44)), .inr (.inl (some 47)), .inr (.inl (some 51)), .inr (.inl (some 54)), .inr (.inl (some 61)), .inr (.inl (some 67))]),
  .inr (1, 2000, .inr (-128, 127)),
  .inl (3, [eZero, eZero, eZero, eZero, eZero, .inl (0, 100, 100), eZero, .inr (.inl (some 3)), .inr (.inl (some 4)), .inr (.inl (some 5)), .inr (.inl (some 6)), .inr (.inl (some 7)), .inr (.inl (some 8)), .inr (.inl (some 9)), .inr (.inl (some 10)), .inr (.inl (some 11))]),
  .inr (0, 7, .inl ([eZero, eZero, eZero, eZero, eZero, eZero, eZero])),
  .inr (0, 10, .inl ([eZero, eZero, eZero, eZero, eZero, eZero, eZero, eZero, eZero, eZero])),
  .inr (0, 10, .inl ([eZero, eZero, eZero, eZero, eZero, eZero, eZero, eZero, eZero, eZero])),
  .inr (0, 10, .inl ([eZero, eZero, eZero, eZero, eZero, eZero, eZero, eZero, eZero, eZero])),
  .inr (0, 8, .inl ([eZero, eZero, eZero, eZero, eZero, eZero, eZero, eZero])),
  .inr (0, 8, .inl ([eZero, eZero, eZero, eZero, eZero, eZero, eZero, eZero])),
  .inr (0, 8, .inl ([eZero, eZero, eZero, eZero, eZero, eZero, eZero, eZero])),
  .inr (0, 8, .inl ([eZero, eZero, eZero, eZero, eZero, eZero, eZero, eZero])),
  .inl (4, [.inr (.inl (some 12)), .inl (0, 6, 6), .inr (.inl (some 13)), .inr (.inl (some 18)), .inr (.inl (some 19)), eZero]),
  .inr (0, 406, .inl (([.inl (0, 4, 4), .inl (0, 5, 5), .inl (0, 1, 1), .inl (0, 13, 13), .inl (0, 5, 5), .inl (0, 9, 9)] ++ (List.replicate 400 (eZero))))),
  .inr (4, 4, .inl ([.inr (.inl (some 14)), .inr (.inl (some 15)), .inr (.inl (some 16)), .inr (.inl (some 17))])),
  .inr (0, 14, .inl (([eZero, .inl (0, 3, 3)] ++ (List.replicate 12 (eZero))))),
  .inr (0, 14, .inl (([.inl (0, 3, 3), .inl (0, 4, 4)] ++ (List.replicate 12 (eZero))))),
  .inr (0, 14, .inl (([.inl (0, 4, 4), .inl (0, 5, 5)] ++ (List.replicate 12 (eZero))))),
  .inr (0, 14, .inl (([.inl (0, 5, 5), .inl (0, 6, 6)] ++ (List.replicate 12 (eZero))))),
  .inr (0, 4, .inl ([.inl (0, 1, 1), .inl (0, 1, 1), .inl (0, 1, 1), .inl (0, 1, 1)])),
  .inr (0, 32, .inl (List.replicate 32 (eZero))),
  .inl (3, [eZero, eZero, eZero, eZero, eZero, eZero, eZero, .inr (.inl (some 21)), .inr (.inl (some 22)), .inr (.inl (some 23)), .inr (.inl (some 24)), .inr (.inl (some 25)), .inr (.inl (some 26)), .inr (.inl (some 27)), .inr (.inl (some 28)), .inr (.inl (some 29))]),
  .inr (0, 7, .inl ([eZero, eZero, eZero, eZero, eZero, eZero, eZero])),
  .inr (0, 10, .inl ([eZero, eZero, eZero, eZero, eZero, eZero, eZero, eZero, eZero, eZero])),
  .inr (0, 10, .inl ([eZero, eZero, eZero, eZero, eZero, eZero, eZero, eZero, eZero, eZero])),
  .inr (0, 10, .inl ([eZero, eZero, eZero, eZero, eZero, eZero, eZero, eZero, eZero, eZero])),
  .inr (0, 8, .inl ([eZero, eZero, eZero, eZero, eZero, eZero, eZero, eZero])),
  .inr (0, 8, .inl ([eZero, eZero, eZero, eZero, eZero, eZero, eZero, eZero])),
  .inr (0, 8, .inl ([eZero, eZero, eZero, eZero, eZero, eZero, eZero, eZero])),
  .inr (0, 8, .inl ([eZero, eZero, eZero, eZero, eZero, eZero, eZero, eZero])),
  .inl (4, [.inr (.inl (some 30)), eZero, .inr (.inl (some 31)), .inr (.inl (some 36)), .inr (.inl (some 37)), eZero]),
  .inr (0, 406, .inl (List.replicate 406 (eZero))),
  .inr (4, 4, .inl ([.inr (.inl (some 32)), .inr (.inl (some 33)), .inr (.inl (some 34)), .inr (.inl (some 35))])),
  .inr (0, 14, .inl (List.replicate 14 (eZero))),
  .inr (0, 14, .inl (List.replicate 14 (eZero))),
  .inr (0, 14, .inl (List.replicate 14 (eZero))),
  .inr (0, 14, .inl (List.replicate 14 (eZero))),
  .inr (0, 4, .inl ([eZero, eZero, eZero, eZero])),
  .inr (0, 32, .inl (List.replicate 32 (eZero))),
  .inl (8, [.inr (.inl (some 39)), .inr (.inl (some 40)), .inr (.inl (some 41)), .inr (.inl (some 42)), .inr (.inl none), eZero]),
  .inr (0, 401, .inl (List.replicate 401 (eZero))),
  .inr (0, 401, .inl (List.replicate 401 (eZero))),
  .inr (3, 401, .inr (0, 0)),
  .inr (3, 22, .inl (tWd.map (fun x => .inr (.inr (some x))))),
  .inl (2, [.inr (.inl (some 38)), .inr (.inl (some 29)), eZero, eZero, eZero, eZero, eZero]),
  .inl (5, [.inr (.inl (some 38)), .inr (.inl (some 20)), .inr (.inl (some 45)), .inr (.inl (some 46)), eZero, eZero]),
  .inr (3, 7, .inr (0, 0)),
  .inr (3, 8, .inr (0, 0)),
  .inl (7, [eZero, .inl (0, 100, 100), eZero, eZero, eZero, eZero, .inr (.inl (some 48)), .inr (.inl (some 49)), .inr (.inl (some 50))]),
  .inr (0, 10, .inl ([eZero, eZero, eZero, eZero, eZero, eZero, eZero, eZero, eZero, eZero])),
  .inr (0, 10, .inl ([eZero, eZero, eZero, eZero, eZero, eZero, eZero, eZero, eZero, eZero])),
  .inr (0, 7, .inl ([eZero, eZero, eZero, eZero, eZero, eZero, eZero])),
  .inl (6, [.inr (.inl (some 52)), .inr (.inl (some 53)), eZero, eZero, eZero]),
  .inr (0, 1320, .inr (0, 0)),
  .inr (0, 99, .inl (List.replicate 99 (eZero))),
  .inl (0, [.inr (.inl (some 2)), .inr (.inl (some 57)), .inr (.inl (some 55)), .inr (.inl (some 56))]),
  .inr (0, 9, .inl ([eZero, eZero, eZero, eZero, eZero, eZero, eZero, eZero, eZero])),
  .inr (0, 10, .inl ([eZero, eZero, eZero, eZero, eZero, eZero, eZero, eZero, eZero, eZero])),
  .inl (10, [.inr (.inl (some 2)), .inl (0, -1, -1), .inr (.inl (some 58)), .inr (.inl (some 59)), .inr (.inl (some 60)), eZero]),
  .inr (0, 7, .inl ([eZero, eZero, eZero, eZero, eZero, eZero, eZero])),
  .inr (0, 7, .inl ([eZero, eZero, eZero, eZero, eZero, eZero, eZero])),
  .inr (0, 7, .inl ([eZero, eZero, eZero, eZero, eZero, eZero, eZero])),
  .inl (1, [.inr (.inl (some 2)), .inr (.inl (some 54)), .inr (.inl (some 62)), .inr (.inl (some 66)), eZero]),
  .inl (7, [eZero, eZero, eZero, eZero, eZero, eZero, .inr (.inl (some 63)), .inr (.inl (some 64)), .inr (.inl (some 65))]),
  .inr (0, 10, .inl ([eZero, eZero, eZero, eZero, eZero, eZero, eZero, eZero, eZero, eZero])),
  .inr (0, 10, .inl ([eZero, eZero, eZero, eZero, eZero, eZero, eZero, eZero, eZero, eZero])),
  .inr (0, 7, .inl ([eZero, eZero, eZero, eZero, eZero, eZero, eZero])),
  .inr (0, 8, .inl ([eZero, eZero, eZero, eZero, eZero, eZero, eZero, eZero])),
  .inl (9, [.inr (.inl (some 2)), .inr (.inl (some 68)), .inr (.inl (some 69)), eZero]),
  .inr (0, 20, .inl (List.replicate 20 (eZero))),
  .inr (2, 20, .inl (List.replicate 20 (eZero)))]
theorem eGl_le {Fz : (Nat → Prop) → State → Heap → Prop} {l0 : Launch} {cl : List vw_C} {Ts : List Cond} {nst : List (String × Nat × MethodName × String)} {sr : List (Int × Int)} {ms : List eM} {yt : List eY} {d y : Nat} {S : eS} {fs gs : List eS} (h : eGl Fz l0 cl Ts nst sr ms yt d y S fs) (hle : fs.all (fun f => gs.any (fun g => eLeS sr (eId sr.length) f g)) = true) : eGl Fz l0 cl Ts nst sr ms yt d y S gs := by
  intro M Y hM hY p e R s m args below meth c hcx D A H0 σ ad0 hs hA hFs Q K
  refine h M Y hM hY p e R s m args below meth c hcx D A H0 σ ad0 hs hA hFs Q (fun f hf H locs ws tys ls lv stk hc => ?_)
  obtain ⟨g, hg, hfg⟩ := List.any_eq_true.mp (List.all_eq_true.mp hle f hf)
  obtain ⟨g1, g2, g3, lv', g4⟩ := eLeS_ok hs hs.1 (eId_ok (fun _ _ => rfl)) hfg hc
  have := K g hg H locs ws tys ls lv' stk g4
  rw [← g1, ← g2, ← g3] at this
  exact this
def tEnds (sr : List (Int × Int)) (orc : Nat → Nat → List eV → eH → Option (List (Option eV × eH))) (d b : Nat) (as : List eV) (h : eH) (gs : List eS) : Bool := match tMs[b]? with
  | none => false
  | some N => Nat.ble (eCats as) N.2.1 && (match eExec sr tDf tMs orc 100000 d b [] (0, eArgs 0 as, [], h, 0, 0) with
    | some fs => fs.all (fun f => gs.any (fun g => eLeS sr (eId sr.length) f g))
    | none => false)
theorem tEnds_ok {l0 : Launch} {adK adV : Nat → Nat} {sr : List (Int × Int)} {orc : Nat → Nat → List eV → eH → Option (List (Option eV × eH))} (horc : ∀ (d b : Nat) (as : List eV) (h : eH) (os : List (Option eV × eH)), orc d b as h = some os → eCon (tFz adK adV) l0 tCl lw_g tNs sr tMs tYs d b as h os) {d b : Nat} {as : List eV} {h : eH} {gs : List eS} {os : List (Option eV × eH)} {N : eM} (hc : tEnds sr orc d b as h gs = true) (hN : tMs[b]? = some N) (ho : eOuts N gs = some os) : eCon (tFz adK adV) l0 tCl lw_g tNs sr tMs tYs d b as h os := by
  unfold tEnds at hc
  rw [hN] at hc
  simp only [Bool.and_eq_true] at hc
  obtain ⟨h1, h2⟩ := hc
  split at h2
  · rename_i fs hfs
    exact eCon_of tOk hN (Nat.le_of_ble_eq_true h1) (eGl_le (tRun horc _ _ _ _ _ _ hfs) h2) ho
  · cases h2
set_option maxRecDepth 1000000 in
theorem tInit1 : tEnds [(0, 0)] (tOrc [(0, 0)]) 600 242 [.inr (.inl (some 0))] [.inl (11, (tDf[11]?).getD [])] [(183, [], [], hClass, 69, 6048)] = true := by decide +kernel
set_option maxRecDepth 1000000 in
theorem tInit2 : tEnds [(0, 0)] tNo 600 0 [.inr (.inl (some 70))] (hClass ++ [.inl (12, (tDf[12]?).getD [])]) [(860, [], [], hFresh, 46, 11962)] = true := by decide +kernel
theorem tInit1_ok (l0 : Launch) (adK adV : Nat → Nat) : eCon (tFz adK adV) l0 tCl lw_g tNs [(0, 0)] tMs tYs 600 242 [.inr (.inl (some 0))] [.inl (11, (tDf[11]?).getD [])] [(none, hClass)] := tEnds_ok tOrc_ok tInit1 rfl rfl
theorem tInit2_ok (l0 : Launch) (adK adV : Nat → Nat) : eCon (tFz adK adV) l0 tCl lw_g tNs [(0, 0)] tMs tYs 600 0 [.inr (.inl (some 70))] (hClass ++ [.inl (12, (tDf[12]?).getD [])]) [(none, hFresh)] := tEnds_ok (fun _ _ _ _ _ h => by cases h) tInit2 rfl rfl
