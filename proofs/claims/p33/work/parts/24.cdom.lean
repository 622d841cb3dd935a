/-! THE CLEAR MACHINE, 1: values (an int; a long; null or a cell's place), cells (an object; a row of ints (kind 0), bytes (1), booleans (2); of longs; of rows), one step. All is known, nothing is made. -/
abbrev cV : Type := Int32 ⊕ (Int64 ⊕ Option Nat)
abbrev cC : Type := (Nat × List cV) ⊕ ((Nat × Nat × (Nat → Int32)) ⊕ ((Nat × (Nat → Int64)) ⊕ (Nat × (Nat → Option Nat))))
abbrev cH : Type := List cC
abbrev cL : Type := List (Nat × cV)
/-- where, locals, stack, cells -/
abbrev cS : Type := Nat × cL × List cV × cH
def cOk (ad : List Nat) (v : cV) (w : Value) : Prop := match v with
  | .inl x => w = .int x
  | .inr (.inl x) => w = .long x
  | .inr (.inr none) => w = .null
  | .inr (.inr (some k)) => ∃ a : Nat, ad[k]? = some a ∧ w = .ref a
def cCat (v : cV) : Nat := match v with
  | .inr (.inl _) => 2
  | _ => 1
theorem cOk_cat {ad : List Nat} {v : cV} {w : Value} (h : cOk ad v w) : w.category = cCat v := by
  match v, h with
  | .inl q, h => rw [show w = .int q from h]; rfl
  | .inr (.inl q), h => rw [show w = .long q from h]; rfl
  | .inr (.inr none), h => rw [show w = .null from h]; rfl
  | .inr (.inr (some k)), ⟨a, _, hw⟩ => rw [hw]; rfl
def cCk (ad : List Nat) (tys : List (ClassId × FieldType)) (c : cC) (q : Nat × va_E) : Prop := match c with
  | .inl o => ∃ vs : List Value, q.2 = .inr (o.1, vs) ∧ eAll (cOk ad) o.2 vs
  | .inr (.inl a) => ∃ (cA : ClassId) (t0 : Nat), tys[t0]? = some (cA, eTy a.1) ∧ a.1 < 3 ∧ a.2.1 < 2 ^ 31 ∧ q.2 = .inl (cA, a.2.1, .inl a.2.2)
  | .inr (.inr (.inl g)) => ∃ (cA : ClassId) (t0 : Nat), tys[t0]? = some (cA, .long) ∧ g.1 < 2 ^ 31 ∧ q.2 = .inl (cA, g.1, .inr (.inl g.2))
  | .inr (.inr (.inr w)) => ∃ (cA : ClassId) (t0 : Nat) (f : Nat → Option Nat), tys[t0]? = some (cA, .array .int) ∧ w.1 < 2 ^ 31 ∧ q.2 = .inl (cA, w.1, .inr (.inr (.inr (.inr f)))) ∧ ∀ j, j < w.1 → cOk ad (.inr (.inr (w.2 j))) (va_rf (f j))
def cLo (ad : List Nat) (q : Nat × cV) (w : Nat × Value) : Prop := q.1 = w.1 ∧ cOk ad q.2 w.2
def cGet (l : cL) (i : Nat) : Option cV := match l with
  | [] => none
  | q :: l => cond (Nat.beq q.1 i) (some q.2) (cGet l i)
theorem cGet_ok {ad : List Nat} : ∀ {l : cL} {lv : List (Nat × Value)} {i : Nat} {v : cV}, eAll (cLo ad) l lv → cGet l i = some v → ∃ w, (i, w) ∈ lv ∧ cOk ad v w
  | [], _, i, v, h, hg => by simp [cGet] at hg
  | q :: l, lv, i, v, h, hg => by
    obtain ⟨b, bs, rfl, h1, h2⟩ := eAll_cons h
    unfold cGet at hg
    cases hb : Nat.beq q.1 i with
    | true =>
      rw [hb] at hg
      have e := Nat.eq_of_beq_eq_true hb
      simp only [cond_true, Option.some.injEq] at hg
      subst hg
      refine ⟨b.2, ?_, h1.2⟩
      rw [← e, h1.1]
      exact List.mem_cons_self
    | false =>
      rw [hb] at hg
      obtain ⟨w, g1, g2⟩ := cGet_ok h2 hg
      exact ⟨w, List.mem_cons_of_mem _ g1, g2⟩
def cPut (l : cL) (i : Nat) (v : cV) : cL := (i, v) :: l.filter (fun q => !(q.1 == i) && !(q.1 + 1 == i && cCat q.2 == 2))
def cPut2 (l : cL) (i : Nat) (v : cV) : cL := (i, v) :: l.filter (fun q => !(q.1 == i) && (!(q.1 == i + 1) && !(q.1 + 1 == i && cCat q.2 == 2)))
theorem cPut_ok {ad : List Nat} {l : cL} {lv : List (Nat × Value)} (h : eAll (cLo ad) l lv) {i : Nat} {v : cV} {w : Value} (hv : cOk ad v w) : eAll (cLo ad) (cPut l i v) ((i, w) :: lv.filter (fun q => !(q.1 == i) && !(q.1 + 1 == i && q.2.category == 2))) :=
  ⟨⟨rfl, hv⟩, eAll_filter (fun a b hab => by rw [hab.1, cOk_cat hab.2]) h⟩
theorem cPut2_ok {ad : List Nat} {l : cL} {lv : List (Nat × Value)} (h : eAll (cLo ad) l lv) {i : Nat} {v : cV} {w : Value} (hv : cOk ad v w) : eAll (cLo ad) (cPut2 l i v) ((i, w) :: lv.filter (fun q => !(q.1 == i) && (!(q.1 == i + 1) && !(q.1 + 1 == i && q.2.category == 2)))) :=
  ⟨⟨rfl, hv⟩, eAll_filter (fun a b hab => by rw [hab.1, cOk_cat hab.2]) h⟩
def cHd (k : Jvm.ClassFile.Cond) (x y : Int32) : Bool := match k with
  | .eq => decide (x.toInt = y.toInt)
  | .ne => decide (x.toInt ≠ y.toInt)
  | .lt => decide (x.toInt < y.toInt)
  | .ge => decide (y.toInt ≤ x.toInt)
  | .gt => decide (y.toInt < x.toInt)
  | .le => decide (x.toInt ≤ y.toInt)
theorem cHd_ok {k : Jvm.ClassFile.Cond} {x y : Int32} : cHd k x y = true ↔ eHolds k x y := by
  cases k
  · show decide _ = true ↔ x = y
    rw [decide_eq_true_eq, Int32.toInt_inj]
  · show decide _ = true ↔ ¬ x = y
    rw [decide_eq_true_eq, ne_eq, Int32.toInt_inj]
  · show decide _ = true ↔ x < y
    rw [decide_eq_true_eq, Int32.lt_iff_toInt_lt]
  · show decide _ = true ↔ y ≤ x
    rw [decide_eq_true_eq, Int32.le_iff_toInt_le]
  · show decide _ = true ↔ y < x
    rw [decide_eq_true_eq, Int32.lt_iff_toInt_lt]
  · show decide _ = true ↔ x ≤ y
    rw [decide_eq_true_eq, Int32.le_iff_toInt_le]
def cIx (x : Int32) (n : Nat) : Bool := decide (0 ≤ x.toInt ∧ x.toInt < n)
theorem cIx_ok {x : Int32} {n : Nat} (h : cIx x n = true) : vp_in x n ∧ x.toNatClampNeg < n := by
  have h := of_decide_eq_true h
  have h4 : vp_in x n := vp_in_iff.mpr h
  exact ⟨h4, Nat.not_le.mp fun q => h4 (Or.inr q)⟩
def cB1 (x : Int32) : Bool := decide (x = 0 ∨ x = 1)
/-- two ints to one -/
def cBin (i : Instr) (x y : Int32) : Option Int32 := match i with
  | .iadd => some (x + y)
  | .isub => some (x - y)
  | .imul => some (x * y)
  | .iand => some (x &&& y)
  | .ior => some (x ||| y)
  | .ixor => some (x ^^^ y)
  | .ishl => some (x <<< (y &&& 31))
  | .ishr => some (x >>> (y &&& 31))
  | .iushr => some (x.toUInt32 >>> (y.toUInt32 &&& Int32.toUInt32 31)).toInt32
  | .irem => cond (decide (y = 0)) none (some (x - x / y * y))
  | .idiv => cond (decide (y = 0)) none (some (x / y))
  | _ => none
def cUn (i : Instr) (v : cV) : Option cV := match i, v with
  | .i2b, .inl x => some (.inl x.toInt8.toInt32)
  | .i2l, .inl x => some (.inr (.inl x.toInt64))
  | .l2i, .inr (.inl x) => some (.inl x.toInt32)
  | _, _ => none
def cLn (i : Instr) (x y : Int64) : Option cV := match i with
  | .ladd => some (.inr (.inl (x + y)))
  | .lmul => some (.inr (.inl (x * y)))
  | .lcmp => some (.inl (lg_cmp x y))
  | _ => none
def cStep (nL : Nat) (i : Instr) (a b d pc : Nat) (l : cL) (st : List cV) (h : cH) : Option cS := match i with
  | .iconst n => some (pc + 1, l, .inl (Int32.ofInt n) :: st, h)
  | .bipush n => some (pc + 2, l, .inl (Int8.ofInt n).toInt32 :: st, h)
  | .sipush n => some (pc + 3, l, .inl (Int16.ofInt n).toInt32 :: st, h)
  | .lconst n => some (pc + 1, l, .inr (.inl (Int64.ofNat (n : Nat))) :: st, h)
  | .ldc _ => some (pc + 2, l, .inl (Int32.ofNat a) :: st, h)
  | .ldc_w _ => some (pc + 3, l, .inl (Int32.ofNat a) :: st, h)
  | .ldc2_w _ => some (pc + 3, l, .inr (.inl (Int64.ofNat a)) :: st, h)
  | .iload_n k => match cGet l k with
    | some (.inl q) => some (pc + 1, l, .inl q :: st, h)
    | _ => none
  | .iload k => match cGet l k with
    | some (.inl q) => some (pc + 2, l, .inl q :: st, h)
    | _ => none
  | .lload_n k => match cGet l k with
    | some (.inr (.inl q)) => some (pc + 1, l, .inr (.inl q) :: st, h)
    | _ => none
  | .lload k => match cGet l k with
    | some (.inr (.inl q)) => some (pc + 2, l, .inr (.inl q) :: st, h)
    | _ => none
  | .aload_n k => match cGet l k with
    | some (.inr (.inr (some v))) => some (pc + 1, l, .inr (.inr (some v)) :: st, h)
    | _ => none
  | .aload k => match cGet l k with
    | some (.inr (.inr (some v))) => some (pc + 2, l, .inr (.inr (some v)) :: st, h)
    | _ => none
  | .istore_n k => match st with
    | .inl q :: r => cond (Nat.blt k nL) (some (pc + 1, cPut l k (.inl q), r, h)) none
    | _ => none
  | .istore k => match st with
    | .inl q :: r => cond (Nat.blt k nL) (some (pc + 2, cPut l k (.inl q), r, h)) none
    | _ => none
  | .lstore_n k => match st with
    | .inr (.inl q) :: r => cond (Nat.blt (k + 1) nL) (some (pc + 1, cPut2 l k (.inr (.inl q)), r, h)) none
    | _ => none
  | .lstore k => match st with
    | .inr (.inl q) :: r => cond (Nat.blt (k + 1) nL) (some (pc + 2, cPut2 l k (.inr (.inl q)), r, h)) none
    | _ => none
  | .astore_n k => match st with
    | .inr (.inr (some v)) :: r => cond (Nat.blt k nL) (some (pc + 1, cPut l k (.inr (.inr (some v))), r, h)) none
    | _ => none
  | .astore k => match st with
    | .inr (.inr (some v)) :: r => cond (Nat.blt k nL) (some (pc + 2, cPut l k (.inr (.inr (some v))), r, h)) none
    | _ => none
  | .iinc k n => match cGet l k with
    | some (.inl q) => cond (Nat.blt k nL) (some (pc + 3, cPut l k (.inl (q + Int32.ofInt n)), st, h)) none
    | _ => none
  | .dup => match st with
    | v :: r => cond (Nat.beq (cCat v) 1) (some (pc + 1, l, v :: v :: r, h)) none
    | _ => none
  | .dup2 => match st with
    | v :: w :: r => cond (Nat.beq (cCat v) 1 && Nat.beq (cCat w) 1) (some (pc + 1, l, v :: w :: v :: w :: r, h)) none
    | _ => none
  | .pop => match st with
    | v :: r => cond (Nat.beq (cCat v) 1) (some (pc + 1, l, r, h)) none
    | _ => none
  | .getfield _ => match st with
    | .inr (.inr (some k)) :: r => match h[k]? with
      | some (.inl o) => cond (Nat.beq o.1 a) (match o.2[b]? with
        | some v => some (pc + 3, l, v :: r, h)
        | none => none) none
      | _ => none
    | _ => none
  | .putfield _ => match st with
    | v :: .inr (.inr (some k)) :: r => match h[k]? with
      | some (.inl o) => cond (Nat.beq o.1 a && Nat.blt b o.2.length && (match v with
        | .inl x => Nat.beq d 0 || (Nat.beq d 2 && cB1 x)
        | .inr (.inr (some _)) => Nat.beq d 5
        | _ => false)) (some (pc + 3, l, r, h.set k (.inl (o.1, o.2.set b v)))) none
      | _ => none
    | _ => none
  | .iaload => match st with
    | .inl x :: .inr (.inr (some k)) :: r => match h[k]? with
      | some (.inr (.inl q)) => cond (Nat.beq q.1 0 && cIx x q.2.1) (some (pc + 1, l, .inl (q.2.2 x.toNatClampNeg) :: r, h)) none
      | _ => none
    | _ => none
  | .baload => match st with
    | .inl x :: .inr (.inr (some k)) :: r => match h[k]? with
      | some (.inr (.inl q)) => cond ((Nat.beq q.1 1 || Nat.beq q.1 2) && cIx x q.2.1) (some (pc + 1, l, .inl (q.2.2 x.toNatClampNeg) :: r, h)) none
      | _ => none
    | _ => none
  | .laload => match st with
    | .inl x :: .inr (.inr (some k)) :: r => match h[k]? with
      | some (.inr (.inr (.inl q))) => cond (cIx x q.1) (some (pc + 1, l, .inr (.inl (q.2 x.toNatClampNeg)) :: r, h)) none
      | _ => none
    | _ => none
  | .aaload => match st with
    | .inl x :: .inr (.inr (some k)) :: r => match h[k]? with
      | some (.inr (.inr (.inr q))) => cond (cIx x q.1) (some (pc + 1, l, .inr (.inr (q.2 x.toNatClampNeg)) :: r, h)) none
      | _ => none
    | _ => none
  | .iastore => match st with
    | .inl z :: .inl x :: .inr (.inr (some k)) :: r => match h[k]? with
      | some (.inr (.inl q)) => cond (Nat.beq q.1 0 && cIx x q.2.1) (some (pc + 1, l, r, h.set k (.inr (.inl (q.1, q.2.1, upd q.2.2 x.toNatClampNeg z))))) none
      | _ => none
    | _ => none
  | .bastore => match st with
    | .inl z :: .inl x :: .inr (.inr (some k)) :: r => match h[k]? with
      | some (.inr (.inl q)) => cond (((Nat.beq q.1 1) || (Nat.beq q.1 2 && cB1 z)) && cIx x q.2.1) (some (pc + 1, l, r, h.set k (.inr (.inl (q.1, q.2.1, upd q.2.2 x.toNatClampNeg (cond (Nat.beq q.1 1) z.toInt8.toInt32 z)))))) none
      | _ => none
    | _ => none
  | .lastore => match st with
    | .inr (.inl z) :: .inl x :: .inr (.inr (some k)) :: r => match h[k]? with
      | some (.inr (.inr (.inl q))) => cond (cIx x q.1) (some (pc + 1, l, r, h.set k (.inr (.inr (.inl (q.1, vp_updL q.2 x.toNatClampNeg z)))))) none
      | _ => none
    | _ => none
  | .arraylength => match st with
    | .inr (.inr (some k)) :: r => match h[k]? with
      | some (.inr (.inl q)) => some (pc + 1, l, .inl (Int32.ofNat q.2.1) :: r, h)
      | some (.inr (.inr (.inl q))) => some (pc + 1, l, .inl (Int32.ofNat q.1) :: r, h)
      | some (.inr (.inr (.inr q))) => some (pc + 1, l, .inl (Int32.ofNat q.1) :: r, h)
      | _ => none
    | _ => none
  | .goto _ => some (a, l, st, h)
  | .ifCond k _ => match st with
    | .inl x :: r => some (cond (cHd k x 0) a (pc + 3), l, r, h)
    | _ => none
  | .if_icmp k _ => match st with
    | .inl y :: .inl x :: r => some (cond (cHd k x y) a (pc + 3), l, r, h)
    | _ => none
  | .ifnull _ => match st with
    | .inr (.inr (some _)) :: r => some (pc + 3, l, r, h)
    | .inr (.inr none) :: r => some (a, l, r, h)
    | _ => none
  | .ifnonnull _ => match st with
    | .inr (.inr (some _)) :: r => some (a, l, r, h)
    | .inr (.inr none) :: r => some (pc + 3, l, r, h)
    | _ => none
  | .tableswitch dflt lo hi offs => match st with
    | .inl x :: r => cond (decide (lo ≤ x.toInt) && decide (x.toInt ≤ hi)) (match offs[(x.toInt - lo).toNat]? with
      | some off => cond (decide (0 ≤ (pc : Int) + off)) (some (((pc : Int) + off).toNat, l, r, h)) none
      | none => none) (cond (decide (0 ≤ (pc : Int) + dflt)) (some (((pc : Int) + dflt).toNat, l, r, h)) none)
    | _ => none
  | i => match st with
    | .inl y :: .inl x :: r => match cBin i x y with
      | some z => some (pc + 1, l, .inl z :: r, h)
      | none => match cUn i (.inl y) with
        | some z => some (pc + 1, l, z :: .inl x :: r, h)
        | none => none
    | .inr (.inl y) :: .inr (.inl x) :: r => match cLn i x y with
      | some z => some (pc + 1, l, z :: r, h)
      | none => match cUn i (.inr (.inl y)) with
        | some z => some (pc + 1, l, z :: .inr (.inl x) :: r, h)
        | none => none
    | v :: r => match cUn i v with
      | some z => some (pc + 1, l, z :: r, h)
      | none => none
    | _ => none
