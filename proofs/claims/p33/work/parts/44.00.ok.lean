/-! THE STATE BETWEEN CALLS, by itself -/
theorem sT_w {k j : Nat} {b : Int × Int} (h : sT k j = some b) : wT k j = none := by
  unfold sT at h
  split at h
  all_goals first
    | rfl
    | (split at h <;> first | rfl | cases h)
    | cases h
theorem gSeg_congr {g g' : gM} (h1 : g' 102 = g 102) (h2 : g' 103 = g 103) : ∀ (n p t : Nat), gSeg g' n p t = gSeg g n p t
  | 0, _, _ => rfl
  | n + 1, p, t => by
    simp only [gSeg]
    rw [h1, h2, gSeg_congr h1 h2 n (p + 1) (t + 1), gSeg_congr h1 h2 n (p + 1) (t - 1)]
theorem Gx_congr {g g' : gM} (h22 : g' 2 2 = g 2 2) (hl : g' 70 18 = g 70 18) (h7 : g' 7 = g 7) (hc : ∀ k : Nat, 82 ≤ k → k ≤ 103 → g' k = g k) (hG : Gx g) : Gx g' := by
  have eL : gL g' = gL g := by unfold gL; rw [hl]
  have e : ∀ k : Nat, 82 ≤ k → k ≤ 103 → g' k = g k := hc
  have hs : ∀ (L : Nat) (a b : Int), gPc g' L a b = gPc g L a b := fun L a b => by
    unfold gPc
    rw [gSeg_congr (e 102 (by omega) (by omega)) (e 103 (by omega) (by omega))]
  have hb : ∀ L j : Nat, gBr g' L j = gBr g L j := fun L j => by
    unfold gBr
    simp only [hs]
    rw [e 97 (by omega) (by omega), e 98 (by omega) (by omega), e 99 (by omega) (by omega), e 100 (by omega) (by omega), e 101 (by omega) (by omega)]
  have hw : ∀ (L : Nat) (a b : Int), gLw g' L a b = gLw g L a b := fun L a b => by
    unfold gLw
    simp only [hb]
  unfold Gx at hG ⊢
  rw [eL, h22, h7, e 86 (by omega) (by omega), e 87 (by omega) (by omega), e 82 (by omega) (by omega), e 83 (by omega) (by omega), e 84 (by omega) (by omega), e 95 (by omega) (by omega), e 96 (by omega) (by omega)]
  simp only [hw]
  exact hG
def Ok (m : dM) : Prop := Gd m.1 ∧ Inv m.1 m
section OKS
variable {g : gM} {m : dM} {k j : Nat} {lo hi : Int} {v : Int32}
theorem Inv.cell (hI : Inv g m) (hw : ∀ j, wT k j = none) : m.1 k = g k := funext fun j => hI.2 k j (hw j)
theorem wT_mid {k : Nat} (h1 : 82 ≤ k) (h2 : k ≤ 103) : ∀ j, wT k j = none := by
  have H : ∀ n : Nat, n < 22 → ∀ j, wT (82 + n) j = none := by
    intro n hn j
    match n, hn with
    | 0, _ | 1, _ | 2, _ | 3, _ | 4, _ | 5, _ | 6, _ | 7, _ | 8, _ | 9, _ | 10, _ | 11, _ | 12, _ | 13, _ | 14, _ | 15, _ | 16, _ | 17, _ | 18, _ | 19, _ | 20, _ | 21, _ => rfl
    | n + 22, hn => omega
  have := H (k - 82) (by omega)
  rw [show 82 + (k - 82) = k by omega] at this
  exact this
theorem Ok.of (hG : Gd g) (hI : Inv g m) : Ok m := by
  refine ⟨⟨fun k j lo hi h => ?_, ?_⟩, hI.1, fun _ _ _ => rfl⟩
  · rw [hI.2 k j (sT_w h)]
    exact hG.1 k j lo hi h
  · exact Gx_congr (hI.2 2 2 rfl) (hI.2 70 18 rfl) (hI.cell (fun _ => rfl)) (fun k h1 h2 => hI.cell (wT_mid h1 h2)) hG.2
theorem Inv.self (hI : Inv g m) : Inv m.1 m := ⟨hI.1, fun _ _ _ => rfl⟩
/-- a store at what stays, that Gx does not read -/
theorem Ok.set1 (hO : Ok m) (hk : k = 0 ∨ k = 20 ∨ k = 25) (hw : wT k j = none) (hs : sT k j = some (lo, hi)) (h1 : lo ≤ v.toInt) (h2 : v.toInt ≤ hi) : Ok (dSet m k j v) := by
  have hne : ∀ a : Nat, a ≠ k → (dSet m k j v).1 a = m.1 a := fun a ha => dSet_k ha
  refine ⟨⟨fun k' j' lo' hi' h => ?_, ?_⟩, fun k' j' lo' hi' h => ?_, fun _ _ _ => rfl⟩
  · rw [dSet_e]
    by_cases hc : k' = k ∧ j' = j
    · rw [if_pos hc]
      rw [hc.1, hc.2, hs] at h
      cases h
      exact ⟨h1, h2⟩
    · rw [if_neg hc]
      exact hO.1.1 k' j' lo' hi' h
  · refine Gx_congr ?_ ?_ ?_ (fun a h1 h2 => hne a (by omega)) hO.1.2
    · rw [hne 2 (by omega)]
    · rw [hne 70 (by omega)]
    · exact hne 7 (by omega)
  · rw [dSet_e]
    by_cases hc : k' = k ∧ j' = j
    · rw [hc.1, hc.2, hw] at h
      cases h
    · rw [if_neg hc]
      exact hO.2.1 k' j' lo' hi' h
theorem Ok.set (hO : Ok m) (hw : wT k j = some (lo, hi)) (h1 : lo ≤ v.toInt) (h2 : v.toInt ≤ hi) : Ok (dSet m k j v) := Ok.of hO.1 (Inv.set hO.2 hw h1 h2)
theorem Ok.setA (hO : Ok m) (hw : wT k j = fR) : Ok (dSet m k j v) := Ok.of hO.1 (Inv.setA hO.2 hw)
theorem Ok.setL {x : Int64} (hO : Ok m) : Ok (dSetL m k j x) := hO
theorem Ok.s (hO : Ok m) (h : sT k j = some (lo, hi)) : lo ≤ (m.1 k j).toInt ∧ (m.1 k j).toInt ≤ hi := hO.1.1 k j lo hi h
theorem Ok.w (hO : Ok m) (h : wT k j = some (lo, hi)) : lo ≤ (m.1 k j).toInt ∧ (m.1 k j).toInt ≤ hi := hO.2.1 k j lo hi h
end OKS
