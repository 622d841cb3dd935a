/-! THE ENGINE, 4: the run of a method, with the calls in it. -/
/-- a method: its instructions by 32s of places, its locals, the cells and slots that it may make, what it hands back (0 nothing, 1 int, 2 boolean, 3 long, 4 a cell), how many arguments -/
abbrev eM : Type := List (List eN) × Nat × Nat × Nat × Nat × Nat
def eFind (ch : List eN) (pc : Nat) : Option eN := match ch with
  | [] => none
  | q :: ch => cond (Nat.beq q.1 pc) (some q) (eFind ch pc)
def eAt (code : List (List eN)) (pc : Nat) : Option eN := match code[pc / 32]? with
  | some ch => eFind ch pc
  | none => none
def eArgs (i : Nat) (vs : List eV) : eL := match vs with
  | [] => []
  | v :: vs => (i, v) :: eArgs (cond (Nat.beq (eCat v) 2) (i + 2) (i + 1)) vs
def eCats (vs : List eV) : Nat := match vs with
  | [] => 0
  | v :: vs => eCat v + eCats vs
def eMn (sr : List (Int × Int)) (a b : eI) : eI := (0, eMin (eRg sr a).1 (eRg sr b).1, eMin (eRg sr a).2 (eRg sr b).2)
def eMx (sr : List (Int × Int)) (a b : eI) : eI := (0, eMax (eRg sr a).1 (eRg sr b).1, eMax (eRg sr a).2 (eRg sr b).2)
def eJoin (sr : List (Int × Int)) (es : List eV) (q : Int × Int) : Option (Int × Int) := match es with
  | [] => some q
  | .inl v :: es => eJoin sr es (eMin q.1 (eRg sr v).1, eMax q.2 (eRg sr v).2)
  | _ :: _ => none
def eCopy (sr : List (Int × Int)) (h : eH) (k0 sp k1 dp n : Nat) : Option eH := match h[k0]?, h[k1]? with
  | some (.inr (t0, n0, c0)), some (.inr (t1, n1, c1)) => cond (Nat.beq t0 0 && Nat.beq t1 0 && !(Nat.beq k0 k1) && Nat.ble (sp + n) n0 && Nat.ble (dp + n) n1) (match c0, c1 with
    | .inl e0, .inl e1 => some (h.set k1 (.inr (t1, n1, .inl (e1.take dp ++ ((e0.drop sp).take n ++ e1.drop (dp + n))))))
    | .inl e0, .inr q => match eJoin sr e0 q with
      | some q' => some (h.set k1 (.inr (t1, n1, .inr q')))
      | none => none
    | .inr q0, .inr q1 => some (h.set k1 (.inr (t1, n1, .inr (eMin q0.1 q1.1, eMax q0.2 q1.2))))
    | .inr _, .inl _ => none) none
  | _, _ => none
/-- what the machine has rows of its own for: Object's start, Math.min, Math.max, arraycopy -/
def eBlt (sr : List (Int × Int)) (kd : Nat) (h : eH) (st : List eV) : Option (List eV × eH) := match kd with
  | 6 => match st with
    | .inr (.inl (some _)) :: r => cond (Nat.ble (eCats r) 8) (some (r, h)) none
    | _ => none
  | 7 => match eTwo st with
    | some (x, y, r) => cond (Nat.ble (eCats r) 8) (some (.inl (eMn sr x y) :: r, h)) none
    | none => none
  | 8 => match eTwo st with
    | some (x, y, r) => cond (Nat.ble (eCats r) 8) (some (.inl (eMx sr x y) :: r, h)) none
    | none => none
  | 9 => match st with
    | .inl n :: .inl dp :: .inr (.inl (some k1)) :: .inl sp :: .inr (.inl (some k0)) :: r => cond (Nat.ble (eCats r) 8) (match eOne n, eOne dp, eOne sp with
      | some n, some dp, some sp => cond (eLe 0 n.toInt && eLe 0 dp.toInt && eLe 0 sp.toInt) (match eCopy sr h k0 sp.toNatClampNeg k1 dp.toNatClampNeg n.toNatClampNeg with
        | some h' => some (r, h')
        | none => none) none
      | _, _, _ => none) none
    | _ => none
  | _ => none
def eColl {α : Type} (f : α → Option (List eS)) (xs : List α) : Option (List eS) := match xs with
  | [] => some []
  | x :: xs => match f x with
    | none => none
    | some a => match eColl f xs with
      | none => none
      | some b => some (a ++ b)
/-- what a method that stands at its return hands back: nothing, or a value -/
def eRet (M : eM) (f : eS) : Option (Option eV) := cond (Nat.ble f.2.2.2.2.1 M.2.2.1 && Nat.ble f.2.2.2.2.2 M.2.2.2.1) (match eAt M.1 f.1 with
  | some en => match M.2.2.2.2.1, en.2.1, f.2.2.1 with
    | 0, .return_, [] => some none
    | 1, .ireturn, [.inl q] => some (some (.inl q))
    | 2, .ireturn, [.inl q] => cond (eOne q == some 0 || eOne q == some 1) (some (some (.inl q))) none
    | 3, .lreturn, [.inr (.inr u)] => some (some (.inr (.inr u)))
    | 4, .areturn, [.inr (.inl (some k))] => some (some (.inr (.inl (some k))))
    | _, _, _ => none
  | none => none) none
def eOuts (N : eM) (fs : List eS) : Option (List (Option eV × eH)) := match fs with
  | [] => some []
  | f :: fs => match eRet N f with
    | none => none
    | some v => match eOuts N fs with
      | none => none
      | some os => some ((v, f.2.2.2.1) :: os)
/-- the arguments out of the stack: how many, with the one that is called upon or without -/
def ePop (st : List eV) (np : Nat) (kd : Nat) : Option (List eV × List eV) := match kd with
  | 1 | 4 => cond (Nat.ble np st.length) (some ((st.take np).reverse, st.drop np)) none
  | _ => match st[np]? with
    | some (.inr (.inl (some k))) => some (.inr (.inl (some k)) :: (st.take np).reverse, st.drop (np + 1))
    | _ => none
def eGrid (b n k : Nat) : eH := .inr (4, n, .inl ((List.range n).map (fun j => .inr (.inl (some (b + 1 + j)))))) :: List.replicate n (.inr (0, k, .inl (List.replicate k eZero)))
/-- a new row of rows of ints -/
def eMul (Rc Rs : Nat) (st : List eV) (h : eH) (cs sl : Nat) : Option (List eV × eH × Nat × Nat) := match st with
  | .inl qk :: .inl qn :: r => match eOne qk, eOne qn with
    | some k, some n => cond (eLe 0 k.toInt && eLe 0 n.toInt && Nat.ble k.toNatClampNeg 410 && Nat.ble n.toNatClampNeg 410 && Nat.ble (cs + (1 + n.toNatClampNeg)) Rc && Nat.ble (sl + (n.toNatClampNeg + n.toNatClampNeg * k.toNatClampNeg)) Rs)
      (some (.inr (.inl (some h.length)) :: r, h ++ eGrid h.length n.toNatClampNeg k.toNatClampNeg, cs + 1 + n.toNatClampNeg, sl + n.toNatClampNeg + n.toNatClampNeg * k.toNatClampNeg)) none
    | _, _ => none
  | _ => none
/-- what is called upon is of the class that the call selects -/
def eRcv (h : eH) (kd d0 : Nat) (as : List eV) : Bool := match kd with
  | 0 => match as with
    | .inr (.inl (some k)) :: _ => match h[k]? with
      | some (.inl o) => Nat.beq o.1 d0
      | _ => false
    | _ => false
  | _ => true
/-- a call; 'orc': calls that are known already -/
def eInv (sr : List (Int × Int)) (ms : List eM) (orc : Nat → Nat → List eV → eH → Option (List (Option eV × eH))) (ih : Nat → Nat → List Nat → eS → Option (List eS)) (d y : Nat) (stop : List Nat) (S : eS) (kd b d0 : Nat) (M : eM) : Option (List eS) :=
  match d with
  | 0 => none
  | d' + 1 => cond (Nat.ble 6 kd)
    (match eBlt sr kd S.2.2.2.1 S.2.2.1 with
      | some (st', h') => cond (Nat.ble S.2.2.2.2.1 M.2.2.1 && Nat.ble S.2.2.2.2.2 M.2.2.2.1) (cond (stop.elem (S.1 + 3)) (some [(S.1 + 3, S.2.1, st', h', S.2.2.2.2.1, S.2.2.2.2.2)]) (ih (d' + 1) y stop (S.1 + 3, S.2.1, st', h', S.2.2.2.2.1, S.2.2.2.2.2))) none
      | none => none)
    (match ms[b]? with
      | none => none
      | some N => match ePop S.2.2.1 N.2.2.2.2.2 kd with
        | none => none
        | some (as, r) => cond (Nat.ble (eCats r) 8 && Nat.ble (S.2.2.2.2.1 + N.2.2.1) M.2.2.1 && Nat.ble (S.2.2.2.2.2 + N.2.2.2.1) M.2.2.2.1 && Nat.ble (eCats as) N.2.1 && eRcv S.2.2.2.1 kd d0 as)
          (match (match orc d' b as S.2.2.2.1 with
              | some os => some os
              | none => match ih d' b [] (0, eArgs 0 as, [], S.2.2.2.1, 0, 0) with
                | none => none
                | some fs => eOuts N fs) with
            | none => none
            | some os => eColl (fun o : Option eV × eH => cond (stop.elem (S.1 + 3)) (some [(S.1 + 3, S.2.1, o.1.toList ++ r, o.2, S.2.2.2.2.1 + N.2.2.1, S.2.2.2.2.2 + N.2.2.2.1)]) (ih (d' + 1) y stop (S.1 + 3, S.2.1, o.1.toList ++ r, o.2, S.2.2.2.2.1 + N.2.2.1, S.2.2.2.2.2 + N.2.2.2.1))) os)
          none)
def eBody (sr : List (Int × Int)) (dfs : List (List eV)) (ms : List eM) (orc : Nat → Nat → List eV → eH → Option (List (Option eV × eH))) (ih : Nat → Nat → List Nat → eS → Option (List eS)) (d y : Nat) (stop : List Nat) (S : eS) : Option (List eS) := match ms[y]? with
  | none => none
  | some M => match eAt M.1 S.1 with
    | none => none
    | some en => match en.2.1 with
      | .ireturn => some [S]
      | .return_ => some [S]
      | .lreturn => some [S]
      | .areturn => some [S]
      | .invokevirtual _ => eInv sr ms orc ih d y stop S en.2.2.2.1 en.2.2.2.2.1 en.2.2.2.2.2.2 M
      | .invokestatic _ => eInv sr ms orc ih d y stop S en.2.2.2.1 en.2.2.2.2.1 en.2.2.2.2.2.2 M
      | .invokespecial _ => eInv sr ms orc ih d y stop S en.2.2.2.1 en.2.2.2.2.1 en.2.2.2.2.2.2 M
      | .multianewarray _ _ => match eMul M.2.2.1 M.2.2.2.1 S.2.2.1 S.2.2.2.1 S.2.2.2.2.1 S.2.2.2.2.2 with
        | none => none
        | some (st', h', cs', sl') => cond (stop.elem (S.1 + 4)) (some [(S.1 + 4, S.2.1, st', h', cs', sl')]) (ih d y stop (S.1 + 4, S.2.1, st', h', cs', sl'))
      | i => match eStep sr dfs M.2.2.1 M.2.2.2.1 M.2.1 i en.2.2.2.1 en.2.2.2.2.1 en.2.2.2.2.2.2 S.1 S.2.1 S.2.2.1 S.2.2.2.1 S.2.2.2.2.1 S.2.2.2.2.2 with
        | none => none
        | some outs => eColl (fun S' => cond (stop.elem S'.1) (some [S']) (ih d y stop S')) outs
def eExec (sr : List (Int × Int)) (dfs : List (List eV)) (ms : List eM) (orc : Nat → Nat → List eV → eH → Option (List (Option eV × eH))) (fuel : Nat) : Nat → Nat → List Nat → eS → Option (List eS) :=
  Nat.rec (fun _ _ _ _ => none) (fun _ ih => eBody sr dfs ms orc ih) fuel
