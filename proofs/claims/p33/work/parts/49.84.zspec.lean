/-! THE HOUSE and HOW IT STANDS, as plain values; what an hour does -/
/-- flats, wires, uses; ends of wires, homes of uses; temper, rating, amps, from, till; surge's share and amps, coins, seed; the laws -/
abbrev Ho : Type := (Nat × Nat × Nat) × ((Nat → Nat) × (Nat → Nat) × (Nat → Nat)) × ((Nat → Int32) × (Nat → Int32) × (Nat → Int32) × (Nat → Int32) × (Nat → Int32)) × (Int32 × Int32 × Int32 × Int32) × (Nat → lD)
def hoF (H : Ho) : Nat := H.1.1
def hoW (H : Ho) : Nat := H.1.2.1
def hoU (H : Ho) : Nat := H.1.2.2
def hoA (H : Ho) : Nat → Nat := H.2.1.1
def hoB (H : Ho) : Nat → Nat := H.2.1.2.1
def hoH (H : Ho) : Nat → Nat := H.2.1.2.2
def hoT (H : Ho) : Nat → Int32 := H.2.2.1.1
def hoR (H : Ho) : Nat → Int32 := H.2.2.1.2.1
def hoM (H : Ho) : Nat → Int32 := H.2.2.1.2.2.1
def hoO (H : Ho) : Nat → Int32 := H.2.2.1.2.2.2.1
def hoI (H : Ho) : Nat → Int32 := H.2.2.1.2.2.2.2
def hoS (H : Ho) : Int32 := H.2.2.2.1.1
def hoP (H : Ho) : Int32 := H.2.2.2.1.2.1
def hoC (H : Ho) : Int32 := H.2.2.2.1.2.2.1
def hoE (H : Ho) : Int32 := H.2.2.2.1.2.2.2
def hoL (H : Ho) : Nat → lD := H.2.2.2.2
/-- hour, coins, quarrels, gone, pinned, agreed; rating, age, dark -/
abbrev Zt : Type := (Int32 × Int32 × Int32 × Int32 × Int32 × Int32) × (Nat → Int32) × (Nat → Int32) × (Nat → Int32)
def szH (S : Zt) : Int32 := S.1.1
def szC (S : Zt) : Int32 := S.1.2.1
def szQ (S : Zt) : Int32 := S.1.2.2.1
def szG (S : Zt) : Int32 := S.1.2.2.2.1
def szP (S : Zt) : Int32 := S.1.2.2.2.2.1
def szA (S : Zt) : Int32 := S.1.2.2.2.2.2
def szR (S : Zt) : Nat → Int32 := S.2.1
def szE (S : Zt) : Nat → Int32 := S.2.2.1
def szD (S : Zt) : Nat → Int32 := S.2.2.2
def hod (x : Int32) : Int32 := x - x / (24 : Int32) * (24 : Int32)
def dy (x : Int32) : Int32 := x / (24 : Int32)
def setC (S : Zt) (x : Int32) : Zt := ((szH S, x, szQ S, szG S, szP S, szA S), szR S, szE S, szD S)
def setQ (S : Zt) (x : Int32) (d : Nat → Int32) : Zt := ((szH S, szC S, x, szG S, szP S, szA S), szR S, szE S, d)
def setW (S : Zt) (g : Int32) (a : Nat → Int32) : Zt := ((szH S, szC S, szQ S, g, szP S, szA S), szR S, a, szD S)
section SPC
variable (H : Ho) (S : Zt)
def wyD (g : Int32) (f : Nat) : Nat := dD (hoF H) (hoW H) (hoA H) (hoB H) (bt g) f
def wyV (g : Int32) (f : Nat) : Int32 := via (hoF H) (hoW H) (hoA H) (hoB H) (bt g) f
def wyN (g : Int32) (f : Nat) : Nat := nx (hoF H) (hoW H) (hoA H) (hoB H) (bt g) f
def lt (g : Int32) (f : Nat) : Bool := decide (wyD H g f ≠ 99)
/-- uses that are on -/
def onp (h : Int32) (u : Nat) : Bool := decide ((hoO H u).toInt ≤ h.toInt ∧ h.toInt ≤ (hoI H u).toInt) && bt (szA S) u && lt H (szG S) (hoH H u)
def onA (h : Int32) : Int32 := bs (onp H S h) (hoU H)
/-- what is in a wire -/
def lds (g on : Int32) (w : Nat) : Nat → Int32
  | 0 => 0
  | u + 1 => lds g on w u + cond (bt on u && bt (wyV H g (hoH H u)) w) (hoM H u) 0
def lod (g on : Int32) (w : Nat) : Int32 := lds H g on w (hoU H)
def vz (h d w : Int32) : Nat → Int32 := fun j => if j = 3 then h else if j = 4 then d else if j = 8 then w else 0
def vGo (l h : Int32) (w : Nat) : Nat → Int32 := upd (upd (upd (vz h (dy (szH S)) (Int32.ofNat w)) 0 l) 1 (szR S w)) 2 (szE S w)
def gop (on h more : Int32) (w : Nat) : Bool := decide (0 < (lod H (szG S) on w).toInt) && !bt (szP S) w && decide (0 < (lW (hoL H 0) (vGo S (lod H (szG S) on w + more) h w)).toInt)
def gng (on h more : Int32) : Int32 := bs (gop H S on h more) (hoW H)
def hl (x : Int32) : Int32 := if x.toInt < 0 then 0 else if 99 < x.toInt then 99 else x
def qrl (f : Nat) : Int32 := hl (lW (hoL H 1) (upd (upd (vz (hod (szH S)) (dy (szH S)) (Int32.ofNat f)) 6 (hoT H f)) 7 (szD S f)))
def cst (w : Nat) : Int32 := hl (lW (hoL H 2) (upd (upd (vz (hod (szH S)) (dy (szH S)) (Int32.ofNat w)) 1 (szR S w)) 2 (szE S w)))
def pyu (u : Nat) : Int32 := hl (lW (hoL H 3) (upd (vz (hod (szH S)) (dy (szH S)) (Int32.ofNat u)) 5 (hoM H u)))
def mx (a b : Int32) : Int32 := (((a ^^^ b) * (1103515245 : Int32)) + (12345 : Int32)) ^^^ ((((a ^^^ b) * (1103515245 : Int32)) + (12345 : Int32)).toUInt32 >>> ((15 : Int32).toUInt32 &&& Int32.toUInt32 31)).toInt32
def lot (x : Int32) : Int32 := (x.toUInt32 >>> ((1 : Int32).toUInt32 &&& Int32.toUInt32 31)).toInt32 - (x.toUInt32 >>> ((1 : Int32).toUInt32 &&& Int32.toUInt32 31)).toInt32 / (100 : Int32) * (100 : Int32)
def sgp (e h : Int32) : Bool := decide ((lot (mx (mx e 129) ((4 : Int32) * h))).toInt < (hoS H).toInt)
def sgA (e h : Int32) : Int32 := cond (sgp H e h) (hoP H) 0
def cl (T x : Int32) : Int32 := if x.toInt < 0 then 0 else if T.toInt < x.toInt then T else x
def pyS (on : Int32) : Nat → Int32
  | 0 => 0
  | u + 1 => cond (bt on u) (pyS on u + pyu H S u) (pyS on u)
def quS : Nat → Int32
  | 0 => 0
  | f + 1 => cond (lt H (szG S) f) (quS f) (quS f + qrl H S f)
/-- an hour, as far as wires know of it -/
def wsz (more : Int32) : Zt := ((szH S + 1, szC S, szQ S, szG S ||| gng H S (onA H S (hod (szH S))) (hod (szH S)) more, szP S, szA S), szR S, (fun w => if w < hoW H ∧ bt (szG S ||| gng H S (onA H S (hod (szH S))) (hod (szH S)) more) w = false then (if (szE S w + 1) < (999 : Int32) then (szE S w + 1) else 999) else szE S w), szD S)
/-- what is paid, who quarrels -/
def pst : Zt := setQ (setC S (cl 99999 (szC S + pyS H S (onA H S (hod (szH S))) (hoU H)))) (cl 999999 (szQ S + quS H S (hoF H))) (fun f => if f < hoF H then cond (lt H (szG S) f) 0 (szD S f + 1) else szD S f)
def hst : Zt := wsz H (pst H S) (sgA H (hoE H) (szH S))
end SPC
/-- what a house and how it stands keep -/
def hOk (H : Ho) : Prop := hoF H ≤ 7 ∧ hoW H ≤ 10 ∧ hoU H ≤ 8 ∧ (∀ w : Nat, w < hoW H → hoA H w < hoF H ∧ hoB H w < hoF H ∧ hoA H w ≠ hoB H w) ∧ (∀ u : Nat, u < hoU H → hoH H u < hoF H ∧ 1 ≤ (hoM H u).toInt ∧ (hoM H u).toInt ≤ 19) ∧ ∀ k : Nat, k < 4 → lOk (hoL H k)
def zOk (H : Ho) (S : Zt) : Prop := (0 ≤ (szC S).toInt ∧ (szC S).toInt ≤ 99999) ∧ (0 ≤ (szQ S).toInt ∧ (szQ S).toInt ≤ 999999) ∧ (∀ i : Nat, bt (szG S) i = true → i < hoW H) ∧ (∀ i : Nat, bt (szP S) i = true → i < hoW H) ∧ (∀ i : Nat, bt (szA S) i = true → i < hoU H) ∧ (∀ w : Nat, w < hoW H → 0 ≤ (szR S w).toInt ∧ (szR S w).toInt ≤ 99) ∧ ∀ w : Nat, w < hoW H → 0 ≤ (szE S w).toInt ∧ (szE S w).toInt ≤ 999
section SPL
variable {H : Ho} {S : Zt}
theorem hl_b (x : Int32) : 0 ≤ (hl x).toInt ∧ (hl x).toInt ≤ 99 := by
  unfold hl
  have e0 : (0 : Int32).toInt = 0 := by decide
  have e9 : (99 : Int32).toInt = 99 := by decide
  by_cases q : x.toInt < 0
  · rw [if_pos q]; omega
  · rw [if_neg q]
    by_cases q2 : 99 < x.toInt
    · rw [if_pos q2]; omega
    · rw [if_neg q2]; omega
theorem cl_b {T x : Int32} (hT : 0 ≤ T.toInt) : 0 ≤ (cl T x).toInt ∧ (cl T x).toInt ≤ T.toInt := by
  unfold cl
  have e0 : (0 : Int32).toInt = 0 := by decide
  by_cases q : x.toInt < 0
  · rw [if_pos q]; omega
  · rw [if_neg q]
    by_cases q2 : T.toInt < x.toInt
    · rw [if_pos q2]; omega
    · rw [if_neg q2]; omega
theorem pyS_b {on : Int32} : ∀ (n : Nat), n ≤ 8 → 0 ≤ (pyS H S on n).toInt ∧ (pyS H S on n).toInt ≤ 99 * n
  | 0, _ => by show 0 ≤ (0 : Int32).toInt ∧ (0 : Int32).toInt ≤ _; decide
  | n + 1, h => by
    have ih := pyS_b (on := on) n (by omega)
    have b := hl_b (lW (hoL H 3) (upd (vz (hod (szH S)) (dy (szH S)) (Int32.ofNat n)) 5 (hoM H n)))
    have b : 0 ≤ (pyu H S n).toInt ∧ (pyu H S n).toInt ≤ 99 := b
    rw [show pyS H S on (n + 1) = cond (bt on n) (pyS H S on n + pyu H S n) (pyS H S on n) from rfl]
    cases bt on n with
    | true =>
      rw [cond_true]
      have := dAddE (X := (pyS H S on n).toInt) (Y := (pyu H S n).toInt) rfl rfl (by omega) (by omega)
      omega
    | false => rw [cond_false]; omega
theorem quS_b : ∀ (n : Nat), n ≤ 7 → 0 ≤ (quS H S n).toInt ∧ (quS H S n).toInt ≤ 99 * n
  | 0, _ => by show 0 ≤ (0 : Int32).toInt ∧ (0 : Int32).toInt ≤ _; decide
  | n + 1, h => by
    have ih := quS_b n (by omega)
    have b := hl_b (lW (hoL H 1) (upd (upd (vz (hod (szH S)) (dy (szH S)) (Int32.ofNat n)) 6 (hoT H n)) 7 (szD S n)))
    have b : 0 ≤ (qrl H S n).toInt ∧ (qrl H S n).toInt ≤ 99 := b
    rw [show quS H S (n + 1) = cond (lt H (szG S) n) (quS H S n) (quS H S n + qrl H S n) from rfl]
    cases lt H (szG S) n with
    | false =>
      rw [cond_false]
      have := dAddE (X := (quS H S n).toInt) (Y := (qrl H S n).toInt) rfl rfl (by omega) (by omega)
      omega
    | true => rw [cond_true]; omega
/-- held step by step, or once -/
theorem cl_step {T c s p : Int32} (hT : 0 ≤ T.toInt ∧ T.toInt ≤ 999999) (hc : 0 ≤ c.toInt ∧ c.toInt ≤ T.toInt) (hs : 0 ≤ s.toInt ∧ s.toInt ≤ 10000) (hp : 0 ≤ p.toInt ∧ p.toInt ≤ 99) : (if (cl T (c + s) + p) < T then cl T (c + s) + p else T) = cl T (c + (s + p)) := by
  have a := dAddE (X := c.toInt) (Y := s.toInt) rfl rfl (by omega) (by omega)
  have b := dAddE (X := s.toInt) (Y := p.toInt) rfl rfl (by omega) (by omega)
  have d := dAddE (X := c.toInt) (Y := s.toInt + p.toInt) (y := s + p) rfl b (by omega) (by omega)
  apply Int32.toInt_inj.mp
  have lti : ∀ x y : Int32, x < y ↔ x.toInt < y.toInt := fun x y => Int32.lt_iff_toInt_lt
  by_cases q : T.toInt < (c + s).toInt
  · have e : cl T (c + s) = T := by unfold cl; rw [if_neg (by omega), if_pos q]
    rw [e]
    have f := dAddE (X := T.toInt) (Y := p.toInt) rfl rfl (by omega) (by omega)
    have e2 : cl T (c + (s + p)) = T := by unfold cl; rw [if_neg (by omega), if_pos (by omega)]
    rw [e2]
    rw [if_neg (fun z => by have := (lti _ _).mp z; omega)]
  · have e : cl T (c + s) = c + s := by unfold cl; rw [if_neg (by omega), if_neg q]
    rw [e]
    have f := dAddE (X := c.toInt + s.toInt) (Y := p.toInt) (x := c + s) a rfl (by omega) (by omega)
    unfold cl
    rw [if_neg (show ¬ (c + (s + p)).toInt < 0 by omega)]
    by_cases z : c + s + p < T
    · have := (lti _ _).mp z
      rw [if_pos z, if_neg (by omega)]
      omega
    · have : ¬ (c + s + p).toInt < T.toInt := fun y => z ((lti _ _).mpr y)
      rw [if_neg z]
      by_cases y : T.toInt < (c + (s + p)).toInt
      · rw [if_pos y]
      · rw [if_neg y]; omega
theorem cl_id {T c : Int32} (hc : 0 ≤ c.toInt ∧ c.toInt ≤ T.toInt) : cl T (c + 0) = c := by
  rw [Int32.add_zero]
  unfold cl
  rw [if_neg (by omega), if_neg (by omega)]
/-- what is in wires is no more than this, and none is in a wire that is gone -/
theorem lds_b (h : hOk H) {g on : Int32} {w : Nat} : ∀ (n : Nat), n ≤ hoU H → 0 ≤ (lds H g on w n).toInt ∧ (lds H g on w n).toInt ≤ 19 * n
  | 0, _ => by show 0 ≤ (0 : Int32).toInt ∧ (0 : Int32).toInt ≤ _; decide
  | n + 1, hn => by
    have ih := lds_b h (g := g) (on := on) (w := w) n (by omega)
    have b := (h.2.2.2.2.1 n (by omega)).2
    have u8 := h.2.2.1
    rw [show lds H g on w (n + 1) = lds H g on w n + cond (bt on n && bt (wyV H g (hoH H n)) w) (hoM H n) 0 from rfl]
    cases (bt on n && bt (wyV H g (hoH H n)) w) with
    | true =>
      rw [cond_true]
      have := dAddE (X := (lds H g on w n).toInt) (Y := (hoM H n).toInt) rfl rfl (by omega) (by omega)
      omega
    | false => rw [cond_false, Int32.add_zero]; omega
theorem lod_gone (h : hOk H) {g on : Int32} {w : Nat} (hg : bt g w = true) : lod H g on w = 0 := by
  unfold lod
  have : ∀ n : Nat, lds H g on w n = 0 := by
    intro n
    induction n with
    | zero => rfl
    | succ n ih =>
      show lds H g on w n + cond (bt on n && bt (wyV H g (hoH H n)) w) (hoM H n) 0 = 0
      rw [ih]
      cases e : bt (wyV H g (hoH H n)) w with
      | false => rw [Bool.and_false, cond_false]; rfl
      | true =>
        have := (via_whole (by have := h.2.1; omega) _ _ _ rfl e).2
        rw [hg] at this
        cases this
  exact this _
end SPL
