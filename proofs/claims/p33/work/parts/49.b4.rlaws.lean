/-! THE REFERENCE's laws, as told, 2 -/
def SBb (m : dM) (x y : Int32) (L : lC) : Prop := SB m x y L ∧ y.toInt ≤ cds m
/-- a law, as it lies while a text is told -/
def LRb (m : dM) (s k : Nat) (D : lD) : Prop := lOk D ∧ (((m.1 95 (4 * s + k)).toInt = (m.1 96 (4 * s + k)).toInt ∧ D.1 = 0 ∧ D.2 0 = dfl k) ∨ ∃ b : Nat, (m.1 95 (4 * s + k)).toInt = (b : Int) ∧ (m.1 96 (4 * s + k)).toInt = ((b + D.1 + 1 : Nat) : Int) ∧ b + D.1 < 260 ∧ ((b + D.1 + 1 : Nat) : Int) ≤ brs m ∧ (∀ i : Nat, i < D.1 → (m.1 97 (b + i)).toInt ≠ 0 ∧ SBb m (m.1 98 (b + i)) (m.1 99 (b + i)) (D.2 (3 * i)) ∧ SBb m (m.1 99 (b + i)) (m.1 100 (b + i)) (D.2 (3 * i + 1)) ∧ SBb m (m.1 100 (b + i)) (m.1 101 (b + i)) (D.2 (3 * i + 2))) ∧ (m.1 97 (b + D.1)).toInt = 0 ∧ SBb m (m.1 100 (b + D.1)) (m.1 101 (b + D.1)) (D.2 (3 * D.1)))
theorem LRb.lr {m : dM} {s k : Nat} {D : lD} (h : LRb m s k D) : LR m s k D := by
  obtain ⟨h1, h2⟩ := h
  refine ⟨h1, ?_⟩
  rcases h2 with h2 | ⟨b, a1, a2, a3, a4, a5, a6, a7⟩
  · exact Or.inl h2
  · exact Or.inr ⟨b, a1, a2, a3, fun i hi => ⟨(a5 i hi).1, (a5 i hi).2.1.1, (a5 i hi).2.2.1.1, (a5 i hi).2.2.2.1⟩, a6, a7.1⟩
theorem SBb.on {m m' : dM} {x y : Int32} {L : lC} (h : SBb m x y L) (hc : cds m ≤ cds m') (e : ∀ j : Nat, (j : Int) < cds m → m'.1 102 j = m.1 102 j ∧ m'.1 103 j = m.1 103 j) : SBb m' x y L := by
  obtain ⟨⟨a, a1, a2, a3⟩, b⟩ := h
  exact ⟨⟨a, a1, a2, a3.on (fun j _ hj => e j (by omega))⟩, by omega⟩
/-- a law told before stays -/
theorem LRb.on {m m' : dM} {s k : Nat} {D : lD} (h : LRb m s k D) (e95 : m'.1 95 (4 * s + k) = m.1 95 (4 * s + k)) (e96 : m'.1 96 (4 * s + k) = m.1 96 (4 * s + k)) (eb : ∀ c j : Nat, 97 ≤ c → c ≤ 101 → (j : Int) < brs m → m'.1 c j = m.1 c j) (ec : ∀ j : Nat, (j : Int) < cds m → m'.1 102 j = m.1 102 j ∧ m'.1 103 j = m.1 103 j) (hb : brs m ≤ brs m') (hc : cds m ≤ cds m') : LRb m' s k D := by
  obtain ⟨h1, h2⟩ := h
  refine ⟨h1, ?_⟩
  rw [e95, e96]
  rcases h2 with h2 | ⟨b, a1, a2, a3, a4, a5, a6, a7⟩
  · exact Or.inl h2
  · refine Or.inr ⟨b, a1, a2, a3, by omega, fun i hi => ?_, ?_, ?_⟩
    · obtain ⟨c1, c2, c3, c4⟩ := a5 i hi
      rw [eb 97 (b + i) (by omega) (by omega) (by omega), eb 98 (b + i) (by omega) (by omega) (by omega), eb 99 (b + i) (by omega) (by omega) (by omega), eb 100 (b + i) (by omega) (by omega) (by omega), eb 101 (b + i) (by omega) (by omega) (by omega)]
      exact ⟨c1, c2.on hc ec, c3.on hc ec, c4.on hc ec⟩
    · rw [eb 97 (b + D.1) (by omega) (by omega) (by omega)]; exact a6
    · rw [eb 100 (b + D.1) (by omega) (by omega) (by omega), eb 101 (b + D.1) (by omega) (by omega) (by omega)]; exact a7.on hc ec
theorem LRb.of {m m' : dM} {s k : Nat} {D : lD} (h : LRb m s k D) (e : ∀ c : Nat, 95 ≤ c → c ≤ 103 → m'.1 c = m.1 c) (e40 : m'.1 70 40 = m.1 70 40) (e46 : m'.1 70 46 = m.1 70 46) : LRb m' s k D := by
  have eb : brs m' = brs m := by unfold brs; rw [e40]
  have ec : cds m' = cds m := by unfold cds; rw [e46]
  exact h.on (by rw [e 95 (by omega) (by omega)]) (by rw [e 96 (by omega) (by omega)]) (fun c j h1 h2 _ => by rw [e c (by omega) (by omega)]) (fun j _ => by rw [e 102 (by omega) (by omega), e 103 (by omega) (by omega)]; exact ⟨rfl, rfl⟩) (by omega) (by omega)
/-- of a law's pieces -/
theorem LZ.lrb {mb m : dM} {s k : Nat} {p : List lC} (h : LZ mb m p) (hs : s ≤ 1) (hk : k < 4) (hb0 : 0 ≤ brs mb) (hbm : brs m ≤ 260) (hc0 : 0 ≤ cds mb) (hw : ∀ (i : Nat) (c : lC), p[i]? = some c → wfL c 0) (h4 : p.length ≤ 13) {x2 x3 : Int32} {q1 q2 : Nat} (hx2 : x2.toInt = brs mb) (hx3 : x3.toInt = brs m) (hq : q1 = 4 * s + k) (hq2 : q2 = 4 * s + k) : LRb (dSet (dSet m 95 q1 x2) 96 q2 x3) s k (lDf p) := by
  subst hq
  subst hq2
  obtain ⟨b, l1, l2, l3, l4, l5, l6⟩ := h
  obtain ⟨g1, g2, g3⟩ := l3
  have e0 : (lDf p).1 = b := by show (p.length - 1) / 3 = b; omega
  have ec : cds (dSet (dSet m 95 (4 * s + k) x2) 96 (4 * s + k) x3) = cds m := rfl
  have eb : brs (dSet (dSet m 95 (4 * s + k) x2) 96 (4 * s + k) x3) = brs m := rfl
  have ek : ∀ c : Nat, c ≠ 95 → c ≠ 96 → (dSet (dSet m 95 (4 * s + k) x2) 96 (4 * s + k) x3).1 c = m.1 c := fun c h1 h2 => by rw [dSet_k h2, dSet_k h1]
  have e95 : (dSet (dSet m 95 (4 * s + k) x2) 96 (4 * s + k) x3).1 95 (4 * s + k) = x2 := by rw [dSet_k (by decide), dSet_s]
  have e96 : (dSet (dSet m 95 (4 * s + k) x2) 96 (4 * s + k) x3).1 96 (4 * s + k) = x3 := dSet_s _ _ _ _
  generalize dSet (dSet m 95 (4 * s + k) x2) 96 (4 * s + k) x3 = M at ec eb ek e95 e96 ⊢
  have pc : ∀ (i : Nat) (x y : Int32), i < p.length → x.toInt = cds mb + ((p.take i).flatten.length : Int) → y.toInt = cds mb + ((p.take (i + 1)).flatten.length : Int) → SBb M x y (p.getD i []) := fun i x y hi hx hy => by
    have f := flat_at hi
    have t := take_at hi
    have fl' : p.flatten.length = (p.take i).flatten.length + ((p.getD i []).length + (p.drop (i + 1)).flatten.length) := by rw [f, List.length_append, List.length_append]
    refine ⟨⟨(cds mb).toNat + (p.take i).flatten.length, by omega, by omega, ?_⟩, by omega⟩
    have g := g2.of (m' := M) (ek 102 (by decide) (by decide)) (ek 103 (by decide) (by decide))
    rw [f] at g
    exact g.spl
  refine ⟨⟨by rw [e0]; omega, fun i hi => ?_⟩, Or.inr ⟨(brs mb).toNat, by rw [e95]; omega, by rw [e96, e0]; omega, by rw [e0]; omega, by rw [e0]; omega, fun i hi => ?_, ?_, ?_⟩⟩
  · rw [e0] at hi
    have hi' : i < p.length := by omega
    refine hw i _ ?_
    show p[i]? = some (p.getD i [])
    rw [List.getD_eq_getElem?_getD, List.getElem?_eq_getElem hi']
    rfl
  · rw [e0] at hi
    obtain ⟨c1, c2, c3, c4, c5⟩ := g3 i hi
    rw [ek 97 (by decide) (by decide), ek 98 (by decide) (by decide), ek 99 (by decide) (by decide), ek 100 (by decide) (by decide), ek 101 (by decide) (by decide)]
    exact ⟨c1, pc (3 * i) _ _ (by omega) c2 c3, pc (3 * i + 1) _ _ (by omega) c3 c4, pc (3 * i + 2) _ _ (by omega) c4 c5⟩
  · rw [e0, ek 97 (by decide) (by decide)]; exact l4
  · rw [e0, ek 100 (by decide) (by decide), ek 101 (by decide) (by decide)]
    exact pc (3 * b) _ _ (by omega) l5 l6
/-- what a law told leaves -/
def LXx (mb : dM) (s k : Nat) (m : dM) : Prop := (∀ j : Nat, j ≠ 4 * s + k → m.1 95 j = mb.1 95 j ∧ m.1 96 j = mb.1 96 j) ∧ (∀ c j : Nat, 97 ≤ c → c ≤ 101 → ((j : Int) < brs mb ∨ 130 * s + 130 ≤ j) → m.1 c j = mb.1 c j) ∧ (∀ j : Nat, ((j : Int) < cds mb ∨ 420 * s + 402 ≤ j) → m.1 102 j = mb.1 102 j ∧ m.1 103 j = mb.1 103 j)
section RLY
variable {K : Nat → Int} {V : Nat → Int64} {P : Nat → Nat} {r W : gR} {mb : dM} {s : Nat} {T : gR} {PX : List lC}
theorem x_tellLaw {x1 : Int32} {k : Nat} {Q : dM → Prop} (hs : s ≤ 1) (hsd : (mb.1 70 19).toInt = s) (hk : x1.toInt = (k : Int)) (hk4 : k < 4) (hv : ∀ i, vk (K i)) (hR : RM K V P mb) (hV : ∀ n : Nat, K n = 23 → 0 ≤ (V n).toInt32.toInt ∧ (V n).toInt32.toInt ≤ 9999) (hS : ST K P mb r W) (hb : 130 * (s : Int) ≤ brs mb ∧ brs mb ≤ 130 * s + 100) (hc : 420 * (s : Int) ≤ cds mb) (hG : r.1 = 0 → opn mb = 0 ∧ cds mb ≤ 420 * s + tt mb ∧ 4 * (brs mb - 130 * s) + 1 ≤ tt mb) (hQ : ∀ m', LX mb s m' → LXx mb s k m' → ST K P m' (rb r (fun n => rb (gnd K 61 n) (gIf K 4))) W → ((rb r (fun n => rb (gnd K 61 n) (gIf K 4))).1 = 0 → LRb m' s k (lDf (lIf K V 4 (r.2 + 1)))) → Q m') : c_X12_tellLaw_70 6 x1 mb Q := by
  have hfl := hS.fl
  have hx1 : 0 ≤ x1.toInt ∧ x1.toInt ≤ 3 := by omega
  have st0 : LY K P mb s 1 100 mb r W := by
    refine ⟨⟨⟨fun _ _ _ => rfl, fun _ _ _ _ _ _ _ _ _ _ => rfl, fun _ _ _ _ _ => rfl, fun _ _ => ⟨rfl, rfl⟩, Wz.eq rfl⟩, hS.2.2, Int.le_refl _, hfl.1, ⟨Int.le_refl _, hb.2⟩, fun h0 => ?_⟩, rfl, hS⟩
    have g := hG (hfl.2.mp h0)
    exact ⟨h0, g.1, ⟨Int.le_refl _, g.2.1⟩, g.2.2⟩
  have lxx : ∀ m' : dM, LF mb s m' → (∀ j : Nat, j ≠ 4 * s + k → m'.1 95 j = mb.1 95 j ∧ m'.1 96 j = mb.1 96 j) → LXx mb s k m' := fun m' h1 h2 => ⟨h2, h1.2.2.1, h1.2.2.2.1⟩
  refine v_X12_tellLaw_70 ?_
  refine Wp.deep (st0.must (k := 61) hv hR (by decide) (by unfold vk; omega) (by decide) (fun m1 h1 st1 => ?_)) (Nat.le_of_ble_eq_true rfl)
  have eb1 : m1.1 70 40 = mb.1 70 40 := h1.2.1 40 (by decide) (by decide) (by decide) (by decide) (by decide)
  have kk : (rb r (gnd K 61)).1 = 0 → r.1 = 0 ∧ rb r (gnd K 61) = (0, r.2 + 1) ∧ r.2 + 1 ≤ 400 := fun q => by
    obtain ⟨q1, q2⟩ := rb_z q
    rw [q2] at q ⊢
    obtain ⟨k1, k2, k3⟩ := gnd_z rfl q
    exact ⟨q1, k1, by omega⟩
  refine (xl_main (x2 := m1.1 70 40) (T := rb r (fun n => rb (gnd K 61 n) (gIf K 4))) (PX := lIf K V 4 (r.2 + 1)) hs hc hb.1 hx1 hsd hv hR hV (fun m' h' hf' => ?_) (fun m' h' hf' hz => ?_) 5000).1 (0 : Int32) 0 m1 _ [] st1 (by decide) (by decide) rb_as (fun z => ?_) ?_
  · refine hQ m' ⟨fun k e1 e2 => h'.1.1.1 k e1 (by omega), h'.1.1.2.1, h'.2.1, fun q => by exfalso; omega⟩ (lxx m' h'.1.1 (fun j _ => by rw [h'.1.1.1 95 (by decide) (by decide), h'.1.1.1 96 (by decide) (by decide)]; exact ⟨rfl, rfl⟩)) h'.2.2 (fun q => ?_)
    have := h'.2.2.fl.2.mpr q
    exfalso; omega
  · have h6 := h'.1.2.2.2.2.2 hf'
    have zT := h'.2.2.fl.2.mp hf'
    have e19 : (m'.1 70 19).toInt = s := by rw [h'.1.1.2.1 19 (by decide) (by decide) (by decide) (by decide) (by decide) (by decide) (by decide) (by decide) (by decide)]; exact hsd
    have ei := y_idx (C := 4) (c := (4 : Int32)) (by decide) e19 hs hk (by decide) (by omega)
    have h5 := h'.1.2.2.2.2.1
    have LF' : LF mb s m' := h'.1.1
    refine hQ _ ⟨fun k e1 e2 => by rw [dSet_k (by omega), dSet_k (by omega)]; exact h'.1.1.1 k e1 (by omega), h'.1.1.2.1, h'.2.1, fun _ => ⟨h6.2.1, h6.2.2.1, h'.1.2.2.2.2.1.1, ?_⟩⟩ ⟨fun j hj => ?_, fun c j e1 e2 e3 => ?_, fun j e => ?_⟩ ((h'.2.2.k (by decide)).k (by decide)) (fun _ => ?_)
    · have w := h6.2.2.2
      show 4 * (brs m' - 130 * s) ≤ tt m'
      omega
    · rw [d_cn ei, dSet_k (show 95 ≠ 96 by decide), dSet_j hj, dSet_j hj, dSet_k (show 96 ≠ 95 by decide), LF'.1 95 (by decide) (by decide), LF'.1 96 (by decide) (by decide)]
      exact ⟨rfl, rfl⟩
    · rw [dSet_k (by omega), dSet_k (by omega)]; exact LF'.2.2.1 c j e1 e2 e3
    · rw [dSet_k (by omega), dSet_k (by omega), dSet_k (by omega), dSet_k (by omega)]; exact LF'.2.2.2.1 j e
    · have zk : (rb r (gnd K 61)).1 = 0 := by
        rw [← rb_as] at zT
        exact (rb_z zT).1
      obtain ⟨z0, zk2, zk3⟩ := kk zk
      have zI : (gIf K 4 (r.2 + 1)).1 = 0 := by
        rw [← rb_as, zk2] at zT
        exact zT
      obtain ⟨⟨q, q1, q2⟩, hw⟩ := lIf_ok hV 4 (r.2 + 1) zk3 zI
      have eN : ((m'.1 70 40).toInt) = brs m' := rfl
      exact hz.lrb hs hk4 (by omega) (by omega) (by omega) hw (by omega) (by rw [eb1]; rfl) eN (d_cn ei) (d_cn ei)
  · obtain ⟨z0, zk2, zk3⟩ := kk z
    rw [zk2]
    refine ⟨by unfold brs; rw [eb1]; show _ = (mb.1 70 40).toInt + ((0 : Nat) : Int); omega, ⟨?_, ⟨?_, fun j hj => absurd hj (Nat.not_lt_zero j)⟩, fun i hi => absurd hi (Nat.not_lt_zero i)⟩, rfl, rfl⟩
    · show cds m1 = cds mb + 0
      have : cds m1 = cds mb := by unfold cds; rw [h1.2.1 46 (by decide) (by decide) (by decide) (by decide) (by decide)]
      omega
    · show (cds mb).toNat + 0 ≤ 840
      have := (hG z0).2.1
      have := hS.2.2
      omega
  · have k4 := h1.2.2.2.1
    unfold mu
    have := h1.2.2.1
    rcases k4 with z | z
    · left; omega
    · right; omega
end RLY
