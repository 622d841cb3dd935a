/-! BOTH, joined -/
section BTH
variable {H H' : Ho} {S S' : Zt} {P P' : List Zt} {J J' : Nat → Zt} {m m' : dM} {s : Nat}
theorem KC.sm (h : KC H S P J m) (q : Sm m' m) : KC H S P J m' := by
  obtain ⟨⟨hO, ⟨hH, h22, hT, hR, hU, hX, hL⟩, hW⟩, hZ, hP, hS⟩ := h
  have f2 : ∀ j : Nat, j < 7 → m'.1 2 j = m.1 2 j := fun j hj => by
    match j, hj with
    | 0, _ | 1, _ | 2, _ | 3, _ | 4, _ | 5, _ | 6, _ => exact q.fld (a := 3) rfl
    | j + 7, h => omega
  have f47 : ∀ j : Nat, j < 6 → m'.1 47 j = m.1 47 j := fun j hj => by
    match j, hj with
    | 0, _ | 1, _ | 2, _ | 3, _ | 4, _ | 5, _ => exact q.fld (a := 7) rfl
    | j + 6, h => omega
  have f51 : ∀ j : Nat, 2 ≤ j → j < 5 → m'.1 51 j = m.1 51 j := fun j hj hj2 => by
    match j, hj, hj2 with
    | 2, _, _ | 3, _, _ | 4, _, _ => exact q.fld (a := 6) rfl
    | 0, h, _ => omega
    | 1, h, _ => omega
    | j + 5, _, h => omega
  have r3 : m'.1 3 = m.1 3 := q.row (k := 3) rfl
  have r4 : m'.1 4 = m.1 4 := q.row (k := 4) rfl
  have r5 : m'.1 5 = m.1 5 := q.row (k := 5) rfl
  have r6 : m'.1 6 = m.1 6 := q.row (k := 6) rfl
  have r7 : m'.1 7 = m.1 7 := q.row (k := 7) rfl
  have r8 : m'.1 8 = m.1 8 := q.row (k := 8) rfl
  have r9 : m'.1 9 = m.1 9 := q.row (k := 9) rfl
  have r10 : m'.1 10 = m.1 10 := q.row (k := 10) rfl
  have r12 : m'.1 12 = m.1 12 := q.row (k := 12) rfl
  have r18 : m'.1 18 = m.1 18 := q.row (k := 18) rfl
  have r14 : ∀ k : Nat, k < 4 → m'.1 (14 + k) = m.1 (14 + k) := fun k hk => by
    match k, hk with
    | 0, _ => exact q.row (k := 14) rfl
    | 1, _ => exact q.row (k := 15) rfl
    | 2, _ => exact q.row (k := 16) rfl
    | 3, _ => exact q.row (k := 17) rfl
    | k + 4, h => omega
  have r48 : m'.1 48 = m.1 48 := q.row (k := 48) rfl
  have r49 : m'.1 49 = m.1 49 := q.row (k := 49) rfl
  have r50 : m'.1 50 = m.1 50 := q.row (k := 50) rfl
  have r52 : m'.1 52 = m.1 52 := q.row (k := 52) rfl
  have r53 : m'.1 53 = m.1 53 := q.row (k := 53) rfl
  have r58 : m'.1 58 = m.1 58 := q.row (k := 58) rfl
  have r59 : m'.1 59 = m.1 59 := q.row (k := 59) rfl
  have r60 : m'.1 60 = m.1 60 := q.row (k := 60) rfl
  have f57 : m'.1 57 1 = m.1 57 1 := q.fld (a := 10) rfl
  have f575 : m'.1 57 5 = m.1 57 5 := q.fld (a := 10) rfl
  refine ⟨⟨hO, ⟨?_, ?_, ?_, ?_, ?_, ?_, fun k hk => ?_⟩, ?_⟩, ?_, ?_, ?_⟩
  · unfold HW; rw [f2 0 (by decide), f2 1 (by decide), r4, r5]; exact hH
  · rw [f2 2 (by decide)]; exact h22
  · rw [r3]; exact hT
  · rw [r6]; exact hR
  · rw [r7, r8, r9, r10]; exact hU
  · rw [f2 3 (by decide), f2 4 (by decide), f2 5 (by decide), f2 6 (by decide)]; exact hX
  · have := hL k hk
    unfold LC SG at this ⊢
    rw [r14 k hk, r18, r12]
    exact this
  · unfold WI WyR at hW ⊢
    rw [f57, f575, r58, r59, r60]
    exact hW
  · unfold CZ at hZ ⊢
    rw [f47 0 (by decide), f47 1 (by decide), f47 2 (by decide), f47 3 (by decide), f47 4 (by decide), f47 5 (by decide)]
    show _ ∧ (∀ j : Nat, j < 10 → m'.1 48 j = szR S j) ∧ (∀ j : Nat, j < 10 → m'.1 49 j = szE S j) ∧ ∀ j : Nat, j < 7 → m'.1 50 j = szD S j
    rw [r48, r49, r50]
    exact hZ
  · unfold CP CPz at hP ⊢
    rw [f51 2 (by decide) (by decide), f51 3 (by decide) (by decide), r52]
    exact hP
  · unfold CSl CPz at hS ⊢
    rw [f51 4 (by decide) (by decide), r53]
    exact hS
theorem KR.fr (h : KR H S P J s m) (e : ∀ k : Nat, (80 ≤ k ∧ k ≤ 103) ∨ k = 107 ∨ k = 111 ∨ k = 115 ∨ k = 116 → m'.1 k = m.1 k) (e18 : m'.1 70 18 = m.1 70 18) (e61 : m'.1 70 61 = m.1 70 61) : KR H S P J s m' := by
  obtain ⟨⟨hO, hH, h86, h81, h85, h87, h91, hL⟩, hZ, hP, hS⟩ := h
  refine ⟨⟨hO, ?_, ?_, ?_, ?_, ?_, ?_, fun k hk => (hL k hk).of (fun c q1 q2 => e c (by omega))⟩, ?_, ?_, ?_⟩
  · unfold HR at hH ⊢; rw [e18, e 80 (by omega), e 82 (by omega), e 83 (by omega), e 84 (by omega)]; exact hH
  · rw [e 86 (by omega)]; exact h86
  · rw [e 81 (by omega)]; exact h81
  · rw [e 85 (by omega)]; exact h85
  · rw [e 87 (by omega), e 88 (by omega), e 89 (by omega), e 90 (by omega)]; exact h87
  · rw [e 91 (by omega), e 92 (by omega), e 93 (by omega), e 94 (by omega)]; exact h91
  · unfold RZ; rw [e 107 (by omega)]; exact hZ
  · unfold RP; rw [e61, e 111 (by omega)]; exact hP
  · unfold RSl; rw [e 115 (by omega), e 116 (by omega)]; exact hS
theorem KR.sm (h : KR H S P J s m) (q : Sm m' m) : KR H S P J s m' := by
  refine h.fr (fun k hk => ?_) (q.fld (a := 12) rfl) (q.fld (a := 12) rfl)
  rcases hk with hk | rfl | rfl | rfl | rfl
  · obtain ⟨i, rfl⟩ : ∃ i : Nat, k = 80 + i := ⟨k - 80, by omega⟩
    match i, hk with
    | 0, _ | 1, _ | 2, _ | 3, _ | 4, _ | 5, _ | 6, _ | 7, _ | 8, _ | 9, _ | 10, _ | 11, _ | 12, _ | 13, _ | 14, _ | 15, _ | 16, _ | 17, _ | 18, _ | 19, _ | 20, _ | 21, _ | 22, _ | 23, _ => exact q.row rfl
    | i + 24, h => omega
  · exact q.row rfl
  · exact q.row rfl
  · exact q.row rfl
  · exact q.row rfl
/-- the reference's side is left by the class's call -/
theorem KR.cc (h : KR H S P J s m) (hF : CcF m m') : KR H S P J s m' := h.fr (fun k hk => hF.1 k (by omega)) (by rw [hF.1 70 (by decide)]) (by rw [hF.1 70 (by decide)])
/-- and the class's by the reference's -/
theorem KC.rc (h : KC H S P J m) (hF : RcF m m') : KC H S P J m' := h.fr (fun k h1 h2 => hF k (by omega))
def Zb (H : Ho) (S : Zt) (P : List Zt) (J : Nat → Zt) (H' : Ho) (S' : Zt) (P' : List Zt) (J' : Nat → Zt) (s : Nat) (m : dM) : Prop := KC H S P J m ∧ KR H' S' P' J' s m
theorem Zb.sm (h : Zb H S P J H' S' P' J' s m) (q : Sm m' m) : Zb H S P J H' S' P' J' s m' := ⟨h.1.sm q, h.2.sm q⟩
/-- two contracts of one call -/
theorem both {d d' y pc : Nat} {l : dL} {st : List cV} {A Z : Int32 → dM → Prop} (h : Wp d y pc l st m (qI A)) (h' : Wp d' y pc l st m (qI Z)) (hZ : ∀ (r : Int32) (m1 m2 : dM), Sm m1 m2 → Z r m2 → Z r m1) : Wp d y pc l st m (qI (fun r m1 => A r m1 ∧ Z r m1)) := by
  refine (h.and h').mono (fun v m1 hh => ?_)
  obtain ⟨⟨r, er, a⟩, m2, q, r2, er2, z⟩ := hh
  have e : r = r2 := by rw [er] at er2; cases er2; rfl
  subst e
  exact ⟨r, er, a, hZ r m1 m2 q z⟩
/-- how both stand between calls -/
def Fr (m : dM) : Prop := ∃ (H : Ho) (S : Zt) (P : List Zt) (J : Nat → Zt) (s : Nat), hBo H ∧ zOk H S ∧ (∀ T : Zt, T ∈ P → zOk H T) ∧ (∀ i : Nat, zOk H (J i)) ∧ Zb H S P J H S P J s m
end BTH
