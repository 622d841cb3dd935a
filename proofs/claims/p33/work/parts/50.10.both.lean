/-! BOTH, CALL BY CALL -/
/-- what was told, row by row -/
def Tl (m : dM) : Prop := ∀ i : Nat, (i : Int) < (m.1 70 63).toInt → m.1 68 i = m.1 112 i ∧ m.1 69 i = m.1 113 i ∧ 0 ≤ (m.1 68 i).toInt ∧ (m.1 68 i).toInt < 32
theorem Tl.of {m m' : dM} (h : Tl m) (a : m'.1 68 = m.1 68) (b : m'.1 69 = m.1 69) (c : m'.1 112 = m.1 112) (d : m'.1 113 = m.1 113) (e : m'.1 70 63 = m.1 70 63) : Tl m' := by
  unfold Tl
  rw [a, b, c, d, e]
  exact h
theorem Tl.kp {m m' : dM} (h : Tl m) (hk : Kp m m') : Tl m' := h.of (funext fun j => hk 68 j rfl) (funext fun j => hk 69 j rfl) (funext fun j => hk 112 j rfl) (funext fun j => hk 113 j rfl) (hk 70 63 rfl)
theorem Tl.z {m : dM} (h : m.1 70 63 = 0) : Tl m := fun i hi => by
  rw [h] at hi
  have := ti_0
  exfalso
  omega
theorem Tl.fr0 {m m' : dM} (h : Tl m) (hk : FR0 m m') : Tl m' := h.of (funext fun j => hk 68 j (by decide) (by omega)) (funext fun j => hk 69 j (by decide) (by omega)) (funext fun j => hk 112 j (by decide) (by omega)) (funext fun j => hk 113 j (by decide) (by omega)) (hk 70 63 (by decide) (by decide))
theorem Tl.fr70 {m m' : dM} (h : Tl m) (hk : FR70 m m') : Tl m' := h.of (funext fun j => hk 68 j (by decide) (by omega)) (funext fun j => hk 69 j (by decide) (by omega)) (funext fun j => hk 112 j (by decide) (by omega)) (funext fun j => hk 113 j (by decide) (by omega)) (hk 70 63 (by decide) (by decide))
def Bt (m : dM) : Prop := Ok m ∧ (Rq m ∧ Tl m) ∧ Fr m
/-- behind the class's call: it has moved, the reference not yet -/
def Md (f : Ho → Zt → List Zt → An) (r : Int32) (m : dM) : Prop := Ok m ∧ (Rq m ∧ Tl m) ∧ ∃ (H : Ho) (S : Zt) (P : List Zt) (J : Nat → Zt) (s : Nat), hBo H ∧ zOk H S ∧ (∀ T : Zt, T ∈ P → zOk H T) ∧ (∀ i : Nat, zOk H (J i)) ∧ Zb H (f H S P).2.1 (f H S P).2.2 J H S P J s m ∧ r = (f H S P).1
def fOk (f : Ho → Zt → List Zt → An) : Prop := ∀ (H : Ho) (S : Zt) (P : List Zt), hOk H → zOk H S → (∀ T : Zt, T ∈ P → zOk H T) → zOk H (f H S P).2.1 ∧ ∀ T : Zt, T ∈ (f H S P).2.2 → zOk H T
section BTC
variable {m : dM} {x1 x2 x3 : Int32}
theorem pKeep_ok {H : Ho} {S : Zt} {P : List Zt} (h : zOk H S) (hP : ∀ T : Zt, T ∈ P → zOk H T) : ∀ T : Zt, T ∈ pKeep S P → zOk H T := fun T hT => by
  unfold pKeep at hT
  have := List.mem_of_mem_take hT
  rcases List.mem_cons.mp this with e | e
  · rw [e]; exact h
  · exact hP T e
theorem fk_agr : fOk (fun H S P => aAgr H S P x1 x2) := fun H S P hO h hP => by
  refine ⟨h.agr hO, ?_⟩
  show ∀ T : Zt, T ∈ (aAgr H S P x1 x2).2.2 → zOk H T
  unfold aAgr
  split
  · exact pKeep_ok h hP
  · exact hP
theorem fk_pin : fOk (fun H S P => aPin H S P x1 x2) := fun H S P hO h hP => by
  refine ⟨h.pin hO, ?_⟩
  show ∀ T : Zt, T ∈ (aPin H S P x1 x2).2.2 → zOk H T
  unfold aPin
  split
  · exact pKeep_ok h hP
  · exact hP
theorem fk_mnd : fOk (fun H S P => aMnd H S P x1) := fun H S P hO h hP => by
  refine ⟨h.mnd, ?_⟩
  show ∀ T : Zt, T ∈ (aMnd H S P x1).2.2 → zOk H T
  unfold aMnd
  split
  · split
    · exact pKeep_ok h hP
    · exact hP
  · exact hP
theorem fk_thk : fOk (fun H S P => aThk H S P x1) := fun H S P hO h hP => by
  refine ⟨h.thk, ?_⟩
  show ∀ T : Zt, T ∈ (aThk H S P x1).2.2 → zOk H T
  unfold aThk
  split
  · split
    · exact pKeep_ok h hP
    · exact hP
  · exact hP
theorem fk_hrs : fOk (fun H S P => aHrs H S P x1) := fun H S P hO h hP => by
  refine ⟨h.hrs hO, ?_⟩
  show ∀ T : Zt, T ∈ (aHrs H S P x1).2.2 → zOk H T
  unfold aHrs
  split
  · split
    · exact hP
    · exact pKeep_ok h hP
  · exact hP
theorem fk_und : fOk (fun _ S P => aUnd S P) := fun H S P hO h hP => by
  cases P with
  | nil => exact ⟨h, fun T hT => absurd hT (List.not_mem_nil)⟩
  | cons T P' => exact ⟨hP T (List.mem_cons_self ..), fun T' hT => hP T' (List.mem_cons_of_mem _ hT)⟩
theorem w1_use (hB : Bt m) : c_X11_use_0 600 x1 x2 m (fun _ m' => Bt m') := by
  obtain ⟨hO, ⟨hT, hL⟩, H, S, P, J, s, hb, hz, hP, hJ, hk, hr⟩ := hB
  have h := both (a_X11_use (x1 := x1) (x2 := x2) (Q := fun _ m' => Ok m' ∧ Kp m m') hO (fun r m' O => O)) (k_use (x1 := x1) (x2 := x2) (Q := fun _ m' => Zb H S P J H S P J s m') hk hz (fun r m' q => ⟨q.2, hr.cc q.1⟩)) (fun r m1 m2 q z => z.sm q)
  exact h.mono (fun v m1 ⟨r, er, ⟨O1, k1⟩, z⟩ => ⟨r, er, O1, ⟨hT.kp k1, hL.kp k1⟩, H, S, P, J, s, hb, hz, hP, hJ, z⟩)
theorem w2_use (hB : Bt m) : c_X12_use_70 600 x1 x2 m (fun _ m' => Bt m') := by
  obtain ⟨hO, ⟨hT, hL⟩, H, S, P, J, s, hb, hz, hP, hJ, hk, hr⟩ := hB
  have h := both (a_X12_use (x1 := x1) (x2 := x2) (Q := fun _ m' => Ok m' ∧ Kp m m') hO (fun r m' O => O)) (r_use (x1 := x1) (x2 := x2) (Q := fun _ m' => Zb H S P J H S P J s m') hr (fun r m' q => ⟨hk.rc q.rc, hr.rs q⟩)) (fun r m1 m2 q z => z.sm q)
  exact h.mono (fun v m1 ⟨r, er, ⟨O1, k1⟩, z⟩ => ⟨r, er, O1, ⟨hT.kp k1, hL.kp k1⟩, H, S, P, J, s, hb, hz, hP, hJ, z⟩)
theorem w1_flat (hB : Bt m) : c_X11_flat_0 600 x1 x2 m (fun r m' => Md (fun H S P => (aFlt H S x1 x2, S, P)) r m') := by
  obtain ⟨hO, ⟨hT, hL⟩, H, S, P, J, s, hb, hz, hP, hJ, hk, hr⟩ := hB
  have h := both (a_X11_flat (x1 := x1) (x2 := x2) (Q := fun _ m' => Ok m' ∧ Kp m m') hO (fun r m' O => O)) (ea_flat (x1 := x1) (x2 := x2) (Q := fun r m' => Zb H S P J H S P J s m' ∧ r = aFlt H S x1 x2) hk hz (fun m' q => ⟨⟨q.2, hr.cc q.1⟩, rfl⟩)) (fun r m1 m2 q z => ⟨z.1.sm q, z.2⟩)
  exact h.mono (fun v m1 ⟨r, er, ⟨O1, k1⟩, z, e⟩ => ⟨r, er, O1, ⟨hT.kp k1, hL.kp k1⟩, H, S, P, J, s, hb, hz, hP, hJ, z, e⟩)
theorem w2_flat {r1 : Int32} (hB : Md (fun H S P => (aFlt H S x1 x2, S, P)) r1 m) : c_X12_flat_70 600 x1 x2 m (fun r m' => Bt m' ∧ r1 = r) := by
  obtain ⟨hO, ⟨hT, hL⟩, H, S, P, J, s, hb, hz, hP, hJ, ⟨hk, hr⟩, e1⟩ := hB
  have hk : KC H S P J m := hk
  have h := both (a_X12_flat (x1 := x1) (x2 := x2) (Q := fun _ m' => Ok m' ∧ Kp m m') hO (fun r m' O => O)) (eb_flat (x1 := x1) (x2 := x2) (Q := fun r m' => Zb H S P J H S P J s m' ∧ r = aFlt H S x1 x2) hr (fun m' q => ⟨⟨hk.rc q.rc, hr.rs q⟩, rfl⟩)) (fun r m1 m2 q z => ⟨z.1.sm q, z.2⟩)
  exact h.mono (fun v m1 ⟨r, er, ⟨O1, k1⟩, z, e⟩ => ⟨r, er, ⟨O1, ⟨hT.kp k1, hL.kp k1⟩, H, S, P, J, s, hb, hz, hP, hJ, z⟩, e1.trans e.symm⟩)
theorem w1_wire (hB : Bt m) : c_X11_wire_0 600 x1 x2 m (fun r m' => Md (fun H S P => (aWir H S x1 x2, S, P)) r m') := by
  obtain ⟨hO, ⟨hT, hL⟩, H, S, P, J, s, hb, hz, hP, hJ, hk, hr⟩ := hB
  have h := both (a_X11_wire (x1 := x1) (x2 := x2) (Q := fun _ m' => Ok m' ∧ Kp m m') hO (fun r m' O => O)) (ea_wire (x1 := x1) (x2 := x2) (Q := fun r m' => Zb H S P J H S P J s m' ∧ r = aWir H S x1 x2) hk hz (fun m' q => ⟨⟨q.2, hr.cc q.1⟩, rfl⟩)) (fun r m1 m2 q z => ⟨z.1.sm q, z.2⟩)
  exact h.mono (fun v m1 ⟨r, er, ⟨O1, k1⟩, z, e⟩ => ⟨r, er, O1, ⟨hT.kp k1, hL.kp k1⟩, H, S, P, J, s, hb, hz, hP, hJ, z, e⟩)
theorem w2_wire {r1 : Int32} (hB : Md (fun H S P => (aWir H S x1 x2, S, P)) r1 m) : c_X12_wire_70 600 x1 x2 m (fun r m' => Bt m' ∧ r1 = r) := by
  obtain ⟨hO, ⟨hT, hL⟩, H, S, P, J, s, hb, hz, hP, hJ, ⟨hk, hr⟩, e1⟩ := hB
  have hk : KC H S P J m := hk
  have h := both (a_X12_wire (x1 := x1) (x2 := x2) (Q := fun _ m' => Ok m' ∧ Kp m m') hO (fun r m' O => O)) (eb_wire (x1 := x1) (x2 := x2) (Q := fun r m' => Zb H S P J H S P J s m' ∧ r = aWir H S x1 x2) hr (fun m' q => ⟨⟨hk.rc q.rc, hr.rs q⟩, rfl⟩)) (fun r m1 m2 q z => ⟨z.1.sm q, z.2⟩)
  exact h.mono (fun v m1 ⟨r, er, ⟨O1, k1⟩, z, e⟩ => ⟨r, er, ⟨O1, ⟨hT.kp k1, hL.kp k1⟩, H, S, P, J, s, hb, hz, hP, hJ, z⟩, e1.trans e.symm⟩)
theorem w1_way (hB : Bt m) : c_X11_way_0 600 x1 x2 m (fun r m' => Md (fun H S P => (aWay H S x1 x2, S, P)) r m') := by
  obtain ⟨hO, ⟨hT, hL⟩, H, S, P, J, s, hb, hz, hP, hJ, hk, hr⟩ := hB
  have h := both (a_X11_way (x1 := x1) (x2 := x2) (Q := fun _ m' => Ok m' ∧ Kp m m') hO (fun r m' O => O)) (ea_way (x1 := x1) (x2 := x2) (Q := fun r m' => Zb H S P J H S P J s m' ∧ r = aWay H S x1 x2) hk hz (fun m' q => ⟨⟨q.2, hr.cc q.1⟩, rfl⟩)) (fun r m1 m2 q z => ⟨z.1.sm q, z.2⟩)
  exact h.mono (fun v m1 ⟨r, er, ⟨O1, k1⟩, z, e⟩ => ⟨r, er, O1, ⟨hT.kp k1, hL.kp k1⟩, H, S, P, J, s, hb, hz, hP, hJ, z, e⟩)
theorem w2_way {r1 : Int32} (hB : Md (fun H S P => (aWay H S x1 x2, S, P)) r1 m) : c_X12_way_70 600 x1 x2 m (fun r m' => Bt m' ∧ r1 = r) := by
  obtain ⟨hO, ⟨hT, hL⟩, H, S, P, J, s, hb, hz, hP, hJ, ⟨hk, hr⟩, e1⟩ := hB
  have hk : KC H S P J m := hk
  have h := both (a_X12_way (x1 := x1) (x2 := x2) (Q := fun _ m' => Ok m' ∧ Kp m m') hO (fun r m' O => O)) (eb_way (x1 := x1) (x2 := x2) (Q := fun r m' => Zb H S P J H S P J s m' ∧ r = aWay H S x1 x2) hr (fun m' q => ⟨⟨hk.rc q.rc, hr.rs q⟩, rfl⟩)) (fun r m1 m2 q z => ⟨z.1.sm q, z.2⟩)
  exact h.mono (fun v m1 ⟨r, er, ⟨O1, k1⟩, z, e⟩ => ⟨r, er, ⟨O1, ⟨hT.kp k1, hL.kp k1⟩, H, S, P, J, s, hb, hz, hP, hJ, z⟩, e1.trans e.symm⟩)
theorem w1_peak (hB : Bt m) : c_X11_peak_0 600 x1 x2 x3 m (fun r m' => Md (fun H S P => (aPk H S x1 x2 x3, S, P)) r m') := by
  obtain ⟨hO, ⟨hT, hL⟩, H, S, P, J, s, hb, hz, hP, hJ, hk, hr⟩ := hB
  have h := both (a_X11_peak (x1 := x1) (x2 := x2) (x3 := x3) (Q := fun _ m' => Ok m' ∧ Kp m m') hO (fun r m' O => O)) (ea_peak (x1 := x1) (x2 := x2) (x3 := x3) (Q := fun r m' => Zb H S P J H S P J s m' ∧ r = aPk H S x1 x2 x3) hk hz (fun m' q => ⟨⟨q.2, hr.cc q.1⟩, rfl⟩)) (fun r m1 m2 q z => ⟨z.1.sm q, z.2⟩)
  exact h.mono (fun v m1 ⟨r, er, ⟨O1, k1⟩, z, e⟩ => ⟨r, er, O1, ⟨hT.kp k1, hL.kp k1⟩, H, S, P, J, s, hb, hz, hP, hJ, z, e⟩)
theorem w2_peak {r1 : Int32} (hB : Md (fun H S P => (aPk H S x1 x2 x3, S, P)) r1 m) : c_X12_peak_70 600 x1 x2 x3 m (fun r m' => Bt m' ∧ r1 = r) := by
  obtain ⟨hO, ⟨hT, hL⟩, H, S, P, J, s, hb, hz, hP, hJ, ⟨hk, hr⟩, e1⟩ := hB
  have hk : KC H S P J m := hk
  have h := both (a_X12_peak (x1 := x1) (x2 := x2) (x3 := x3) (Q := fun _ m' => Ok m' ∧ Kp m m') hO (fun r m' O => O)) (eb_peak (x1 := x1) (x2 := x2) (x3 := x3) (Q := fun r m' => Zb H S P J H S P J s m' ∧ r = aPk H S x1 x2 x3) hr hz (fun m' q => ⟨⟨hk.rc q.rc, hr.rs q⟩, rfl⟩)) (fun r m1 m2 q z => ⟨z.1.sm q, z.2⟩)
  exact h.mono (fun v m1 ⟨r, er, ⟨O1, k1⟩, z, e⟩ => ⟨r, er, ⟨O1, ⟨hT.kp k1, hL.kp k1⟩, H, S, P, J, s, hb, hz, hP, hJ, z⟩, e1.trans e.symm⟩)
theorem w1_first (hB : Bt m) : c_X11_first_0 600 x1 m (fun r m' => Md (fun H S P => (aFst H S x1, S, P)) r m') := by
  obtain ⟨hO, ⟨hT, hL⟩, H, S, P, J, s, hb, hz, hP, hJ, hk, hr⟩ := hB
  have h := both (a_X11_first (x1 := x1) (Q := fun _ m' => Ok m' ∧ Kp m m') hO (fun r m' O => O)) (ea_first (x1 := x1) (Q := fun r m' => Zb H S P J H S P J s m' ∧ r = aFst H S x1) hk hz (fun m' q => ⟨⟨q.2, hr.cc q.1⟩, rfl⟩)) (fun r m1 m2 q z => ⟨z.1.sm q, z.2⟩)
  exact h.mono (fun v m1 ⟨r, er, ⟨O1, k1⟩, z, e⟩ => ⟨r, er, O1, ⟨hT.kp k1, hL.kp k1⟩, H, S, P, J, s, hb, hz, hP, hJ, z, e⟩)
theorem w2_first {r1 : Int32} (hB : Md (fun H S P => (aFst H S x1, S, P)) r1 m) : c_X12_first_70 600 x1 m (fun r m' => Bt m' ∧ r1 = r) := by
  obtain ⟨hO, ⟨hT, hL⟩, H, S, P, J, s, hb, hz, hP, hJ, ⟨hk, hr⟩, e1⟩ := hB
  have hk : KC H S P J m := hk
  have h := both (a_X12_first (x1 := x1) (Q := fun _ m' => Ok m' ∧ Kp m m') hO (fun r m' O => O)) (eb_first (x1 := x1) (Q := fun r m' => Zb H S P J H S P J s m' ∧ r = aFst H S x1) hr hz (fun m' q => ⟨⟨hk.rc q.rc, hr.rs q⟩, rfl⟩)) (fun r m1 m2 q z => ⟨z.1.sm q, z.2⟩)
  exact h.mono (fun v m1 ⟨r, er, ⟨O1, k1⟩, z, e⟩ => ⟨r, er, ⟨O1, ⟨hT.kp k1, hL.kp k1⟩, H, S, P, J, s, hb, hz, hP, hJ, z⟩, e1.trans e.symm⟩)
theorem w1_together (hB : Bt m) : c_X11_together_0 600 x1 m (fun r m' => Md (fun H S P => (aTg H S x1, S, P)) r m') := by
  obtain ⟨hO, ⟨hT, hL⟩, H, S, P, J, s, hb, hz, hP, hJ, hk, hr⟩ := hB
  have h := both (a_X11_together (x1 := x1) (Q := fun _ m' => Ok m' ∧ Kp m m') hO (fun r m' O => O)) (ea_together (x1 := x1) (Q := fun r m' => Zb H S P J H S P J s m' ∧ r = aTg H S x1) hk hz (fun m' q => ⟨⟨q.2, hr.cc q.1⟩, rfl⟩)) (fun r m1 m2 q z => ⟨z.1.sm q, z.2⟩)
  exact h.mono (fun v m1 ⟨r, er, ⟨O1, k1⟩, z, e⟩ => ⟨r, er, O1, ⟨hT.kp k1, hL.kp k1⟩, H, S, P, J, s, hb, hz, hP, hJ, z, e⟩)
theorem w2_together {r1 : Int32} (hB : Md (fun H S P => (aTg H S x1, S, P)) r1 m) : c_X12_together_70 600 x1 m (fun r m' => Bt m' ∧ r1 = r) := by
  obtain ⟨hO, ⟨hT, hL⟩, H, S, P, J, s, hb, hz, hP, hJ, ⟨hk, hr⟩, e1⟩ := hB
  have hk : KC H S P J m := hk
  have h := both (a_X12_together (x1 := x1) (Q := fun _ m' => Ok m' ∧ Kp m m') hO (fun r m' O => O)) (eb_together (x1 := x1) (Q := fun r m' => Zb H S P J H S P J s m' ∧ r = aTg H S x1) hr (fun m' q => ⟨⟨hk.rc q.rc, hr.rs q⟩, rfl⟩)) (fun r m1 m2 q z => ⟨z.1.sm q, z.2⟩)
  exact h.mono (fun v m1 ⟨r, er, ⟨O1, k1⟩, z, e⟩ => ⟨r, er, ⟨O1, ⟨hT.kp k1, hL.kp k1⟩, H, S, P, J, s, hb, hz, hP, hJ, z⟩, e1.trans e.symm⟩)
theorem w1_when (hB : Bt m) : c_X11_when_0 600 x1 m (fun r m' => Md (fun H S P => (aWn H S x1, S, P)) r m') := by
  obtain ⟨hO, ⟨hT, hL⟩, H, S, P, J, s, hb, hz, hP, hJ, hk, hr⟩ := hB
  have h := both (a_X11_when (x1 := x1) (Q := fun _ m' => Ok m' ∧ Kp m m') hO (fun r m' O => O)) (ea_when (x1 := x1) (Q := fun r m' => Zb H S P J H S P J s m' ∧ r = aWn H S x1) hk hz hb (fun m' q => ⟨⟨q.2, hr.cc q.1⟩, rfl⟩)) (fun r m1 m2 q z => ⟨z.1.sm q, z.2⟩)
  exact h.mono (fun v m1 ⟨r, er, ⟨O1, k1⟩, z, e⟩ => ⟨r, er, O1, ⟨hT.kp k1, hL.kp k1⟩, H, S, P, J, s, hb, hz, hP, hJ, z, e⟩)
theorem w2_when {r1 : Int32} (hB : Md (fun H S P => (aWn H S x1, S, P)) r1 m) : c_X12_when_70 600 x1 m (fun r m' => Bt m' ∧ r1 = r) := by
  obtain ⟨hO, ⟨hT, hL⟩, H, S, P, J, s, hb, hz, hP, hJ, ⟨hk, hr⟩, e1⟩ := hB
  have hk : KC H S P J m := hk
  have h := both (a_X12_when (x1 := x1) (Q := fun _ m' => Ok m' ∧ Kp m m') hO (fun r m' O => O)) (eb_when (x1 := x1) (Q := fun r m' => Zb H S P J H S P J s m' ∧ r = aWn H S x1) hr hb (fun m' q => ⟨⟨hk.rc q.rc, hr.rs q⟩, rfl⟩)) (fun r m1 m2 q z => ⟨z.1.sm q, z.2⟩)
  exact h.mono (fun v m1 ⟨r, er, ⟨O1, k1⟩, z, e⟩ => ⟨r, er, ⟨O1, ⟨hT.kp k1, hL.kp k1⟩, H, S, P, J, s, hb, hz, hP, hJ, z⟩, e1.trans e.symm⟩)
theorem w1_thick (hB : Bt m) : c_X11_thick_0 600 x1 m (fun r m' => Md (fun H S P => (aTck H S x1, S, P)) r m') := by
  obtain ⟨hO, ⟨hT, hL⟩, H, S, P, J, s, hb, hz, hP, hJ, hk, hr⟩ := hB
  have h := both (a_X11_thick (x1 := x1) (Q := fun _ m' => Ok m' ∧ Kp m m') hO (fun r m' O => O)) (ea_thick (x1 := x1) (Q := fun r m' => Zb H S P J H S P J s m' ∧ r = aTck H S x1) hk hz (fun m' q => ⟨⟨q.2, hr.cc q.1⟩, rfl⟩)) (fun r m1 m2 q z => ⟨z.1.sm q, z.2⟩)
  exact h.mono (fun v m1 ⟨r, er, ⟨O1, k1⟩, z, e⟩ => ⟨r, er, O1, ⟨hT.kp k1, hL.kp k1⟩, H, S, P, J, s, hb, hz, hP, hJ, z, e⟩)
theorem w2_thick {r1 : Int32} (hB : Md (fun H S P => (aTck H S x1, S, P)) r1 m) : c_X12_thick_70 600 x1 m (fun r m' => Bt m' ∧ r1 = r) := by
  obtain ⟨hO, ⟨hT, hL⟩, H, S, P, J, s, hb, hz, hP, hJ, ⟨hk, hr⟩, e1⟩ := hB
  have hk : KC H S P J m := hk
  have h := both (a_X12_thick (x1 := x1) (Q := fun _ m' => Ok m' ∧ Kp m m') hO (fun r m' O => O)) (eb_thick (x1 := x1) (Q := fun r m' => Zb H S P J H S P J s m' ∧ r = aTck H S x1) hr hz (fun m' q => ⟨⟨hk.rc q.rc, hr.rs q⟩, rfl⟩)) (fun r m1 m2 q z => ⟨z.1.sm q, z.2⟩)
  exact h.mono (fun v m1 ⟨r, er, ⟨O1, k1⟩, z, e⟩ => ⟨r, er, ⟨O1, ⟨hT.kp k1, hL.kp k1⟩, H, S, P, J, s, hb, hz, hP, hJ, z⟩, e1.trans e.symm⟩)
theorem w1_cut (hB : Bt m) : c_X11_cut_0 600 x1 x2 m (fun r m' => Md (fun H S P => (aCt H S x1 x2, S, P)) r m') := by
  obtain ⟨hO, ⟨hT, hL⟩, H, S, P, J, s, hb, hz, hP, hJ, hk, hr⟩ := hB
  have h := both (a_X11_cut (x1 := x1) (x2 := x2) (Q := fun _ m' => Ok m' ∧ Kp m m') hO (fun r m' O => O)) (ea_cut (x1 := x1) (x2 := x2) (Q := fun r m' => Zb H S P J H S P J s m' ∧ r = aCt H S x1 x2) hk (fun m' q => ⟨⟨q.2, hr.cc q.1⟩, rfl⟩)) (fun r m1 m2 q z => ⟨z.1.sm q, z.2⟩)
  exact h.mono (fun v m1 ⟨r, er, ⟨O1, k1⟩, z, e⟩ => ⟨r, er, O1, ⟨hT.kp k1, hL.kp k1⟩, H, S, P, J, s, hb, hz, hP, hJ, z, e⟩)
theorem w2_cut {r1 : Int32} (hB : Md (fun H S P => (aCt H S x1 x2, S, P)) r1 m) : c_X12_cut_70 600 x1 x2 m (fun r m' => Bt m' ∧ r1 = r) := by
  obtain ⟨hO, ⟨hT, hL⟩, H, S, P, J, s, hb, hz, hP, hJ, ⟨hk, hr⟩, e1⟩ := hB
  have hk : KC H S P J m := hk
  have h := both (a_X12_cut (x1 := x1) (x2 := x2) (Q := fun _ m' => Ok m' ∧ Kp m m') hO (fun r m' O => O)) (eb_cut (x1 := x1) (x2 := x2) (Q := fun r m' => Zb H S P J H S P J s m' ∧ r = aCt H S x1 x2) hr hz (fun m' q => ⟨⟨hk.rc q.rc, hr.rs q⟩, rfl⟩)) (fun r m1 m2 q z => ⟨z.1.sm q, z.2⟩)
  exact h.mono (fun v m1 ⟨r, er, ⟨O1, k1⟩, z, e⟩ => ⟨r, er, ⟨O1, ⟨hT.kp k1, hL.kp k1⟩, H, S, P, J, s, hb, hz, hP, hJ, z⟩, e1.trans e.symm⟩)
theorem w1_share (hB : Bt m) : c_X11_share_0 600 x1 x2 m (fun r m' => Md (fun H S P => (aShr H S x1 x2, S, P)) r m') := by
  obtain ⟨hO, ⟨hT, hL⟩, H, S, P, J, s, hb, hz, hP, hJ, hk, hr⟩ := hB
  have h := both (a_X11_share (x1 := x1) (x2 := x2) (Q := fun _ m' => Ok m' ∧ Kp m m') hO (fun r m' O => O)) (ea_share (x1 := x1) (x2 := x2) (Q := fun r m' => Zb H S P J H S P J s m' ∧ r = aShr H S x1 x2) hk hz (fun m' q => ⟨⟨q.2, hr.cc q.1⟩, rfl⟩)) (fun r m1 m2 q z => ⟨z.1.sm q, z.2⟩)
  exact h.mono (fun v m1 ⟨r, er, ⟨O1, k1⟩, z, e⟩ => ⟨r, er, O1, ⟨hT.kp k1, hL.kp k1⟩, H, S, P, J, s, hb, hz, hP, hJ, z, e⟩)
theorem w2_share {r1 : Int32} (hB : Md (fun H S P => (aShr H S x1 x2, S, P)) r1 m) : c_X12_share_70 600 x1 x2 m (fun r m' => Bt m' ∧ r1 = r) := by
  obtain ⟨hO, ⟨hT, hL⟩, H, S, P, J, s, hb, hz, hP, hJ, ⟨hk, hr⟩, e1⟩ := hB
  have hk : KC H S P J m := hk
  have h := both (a_X12_share (x1 := x1) (x2 := x2) (Q := fun _ m' => Ok m' ∧ Kp m m') hO (fun r m' O => O)) (eb_share (x1 := x1) (x2 := x2) (Q := fun r m' => Zb H S P J H S P J s m' ∧ r = aShr H S x1 x2) hr (fun m' q => ⟨⟨hk.rc q.rc, hr.rs q⟩, rfl⟩)) (fun r m1 m2 q z => ⟨z.1.sm q, z.2⟩)
  exact h.mono (fun v m1 ⟨r, er, ⟨O1, k1⟩, z, e⟩ => ⟨r, er, ⟨O1, ⟨hT.kp k1, hL.kp k1⟩, H, S, P, J, s, hb, hz, hP, hJ, z⟩, e1.trans e.symm⟩)
theorem w1_without (hB : Bt m) : c_X11_without_0 600 x1 m (fun r m' => Md (fun H S P => (aWo H S x1, S, P)) r m') := by
  obtain ⟨hO, ⟨hT, hL⟩, H, S, P, J, s, hb, hz, hP, hJ, hk, hr⟩ := hB
  have h := both (a_X11_without (x1 := x1) (Q := fun _ m' => Ok m' ∧ Kp m m') hO (fun r m' O => O)) (ea_without (x1 := x1) (Q := fun r m' => Zb H S P J H S P J s m' ∧ r = aWo H S x1) hk (fun m' q => ⟨⟨q.2, hr.cc q.1⟩, rfl⟩)) (fun r m1 m2 q z => ⟨z.1.sm q, z.2⟩)
  exact h.mono (fun v m1 ⟨r, er, ⟨O1, k1⟩, z, e⟩ => ⟨r, er, O1, ⟨hT.kp k1, hL.kp k1⟩, H, S, P, J, s, hb, hz, hP, hJ, z, e⟩)
theorem w2_without {r1 : Int32} (hB : Md (fun H S P => (aWo H S x1, S, P)) r1 m) : c_X12_without_70 600 x1 m (fun r m' => Bt m' ∧ r1 = r) := by
  obtain ⟨hO, ⟨hT, hL⟩, H, S, P, J, s, hb, hz, hP, hJ, ⟨hk, hr⟩, e1⟩ := hB
  have hk : KC H S P J m := hk
  have h := both (a_X12_without (x1 := x1) (Q := fun _ m' => Ok m' ∧ Kp m m') hO (fun r m' O => O)) (eb_without (x1 := x1) (Q := fun r m' => Zb H S P J H S P J s m' ∧ r = aWo H S x1) hr (fun m' q => ⟨⟨hk.rc q.rc, hr.rs q⟩, rfl⟩)) (fun r m1 m2 q z => ⟨z.1.sm q, z.2⟩)
  exact h.mono (fun v m1 ⟨r, er, ⟨O1, k1⟩, z, e⟩ => ⟨r, er, ⟨O1, ⟨hT.kp k1, hL.kp k1⟩, H, S, P, J, s, hb, hz, hP, hJ, z⟩, e1.trans e.symm⟩)
theorem w1_needed (hB : Bt m) : c_X11_needed_0 600  m (fun r m' => Md (fun H S P => (bs (ndp H S) (hoW H), S, P)) r m') := by
  obtain ⟨hO, ⟨hT, hL⟩, H, S, P, J, s, hb, hz, hP, hJ, hk, hr⟩ := hB
  have h := both (a_X11_needed (Q := fun _ m' => Ok m' ∧ Kp m m') hO (fun r m' O => O)) (ea_needed (Q := fun r m' => Zb H S P J H S P J s m' ∧ r = bs (ndp H S) (hoW H)) hk (fun m' q => ⟨⟨q.2, hr.cc q.1⟩, rfl⟩)) (fun r m1 m2 q z => ⟨z.1.sm q, z.2⟩)
  exact h.mono (fun v m1 ⟨r, er, ⟨O1, k1⟩, z, e⟩ => ⟨r, er, O1, ⟨hT.kp k1, hL.kp k1⟩, H, S, P, J, s, hb, hz, hP, hJ, z, e⟩)
theorem w2_needed {r1 : Int32} (hB : Md (fun H S P => (bs (ndp H S) (hoW H), S, P)) r1 m) : c_X12_needed_70 600  m (fun r m' => Bt m' ∧ r1 = r) := by
  obtain ⟨hO, ⟨hT, hL⟩, H, S, P, J, s, hb, hz, hP, hJ, ⟨hk, hr⟩, e1⟩ := hB
  have hk : KC H S P J m := hk
  have h := both (a_X12_needed (Q := fun _ m' => Ok m' ∧ Kp m m') hO (fun r m' O => O)) (eb_needed (Q := fun r m' => Zb H S P J H S P J s m' ∧ r = bs (ndp H S) (hoW H)) hr (fun m' q => ⟨⟨hk.rc q.rc, hr.rs q⟩, rfl⟩)) (fun r m1 m2 q z => ⟨z.1.sm q, z.2⟩)
  exact h.mono (fun v m1 ⟨r, er, ⟨O1, k1⟩, z, e⟩ => ⟨r, er, ⟨O1, ⟨hT.kp k1, hL.kp k1⟩, H, S, P, J, s, hb, hz, hP, hJ, z⟩, e1.trans e.symm⟩)
theorem w1_hottest (hB : Bt m) : c_X11_hottest_0 600 x1 m (fun r m' => Md (fun H S P => (aHot H S x1, S, P)) r m') := by
  obtain ⟨hO, ⟨hT, hL⟩, H, S, P, J, s, hb, hz, hP, hJ, hk, hr⟩ := hB
  have h := both (a_X11_hottest (x1 := x1) (Q := fun _ m' => Ok m' ∧ Kp m m') hO (fun r m' O => O)) (ea_hottest (x1 := x1) (Q := fun r m' => Zb H S P J H S P J s m' ∧ r = aHot H S x1) hk hz (fun m' q => ⟨⟨q.2, hr.cc q.1⟩, rfl⟩)) (fun r m1 m2 q z => ⟨z.1.sm q, z.2⟩)
  exact h.mono (fun v m1 ⟨r, er, ⟨O1, k1⟩, z, e⟩ => ⟨r, er, O1, ⟨hT.kp k1, hL.kp k1⟩, H, S, P, J, s, hb, hz, hP, hJ, z, e⟩)
theorem w2_hottest {r1 : Int32} (hB : Md (fun H S P => (aHot H S x1, S, P)) r1 m) : c_X12_hottest_70 600 x1 m (fun r m' => Bt m' ∧ r1 = r) := by
  obtain ⟨hO, ⟨hT, hL⟩, H, S, P, J, s, hb, hz, hP, hJ, ⟨hk, hr⟩, e1⟩ := hB
  have hk : KC H S P J m := hk
  have h := both (a_X12_hottest (x1 := x1) (Q := fun _ m' => Ok m' ∧ Kp m m') hO (fun r m' O => O)) (eb_hottest (x1 := x1) (Q := fun r m' => Zb H S P J H S P J s m' ∧ r = aHot H S x1) hr (fun m' q => ⟨⟨hk.rc q.rc, hr.rs q⟩, rfl⟩)) (fun r m1 m2 q z => ⟨z.1.sm q, z.2⟩)
  exact h.mono (fun v m1 ⟨r, er, ⟨O1, k1⟩, z, e⟩ => ⟨r, er, ⟨O1, ⟨hT.kp k1, hL.kp k1⟩, H, S, P, J, s, hb, hz, hP, hJ, z⟩, e1.trans e.symm⟩)
theorem w1_clash (hB : Bt m) : c_X11_clash_0 600 x1 x2 m (fun r m' => Md (fun H S P => (aCls H S x1 x2, S, P)) r m') := by
  obtain ⟨hO, ⟨hT, hL⟩, H, S, P, J, s, hb, hz, hP, hJ, hk, hr⟩ := hB
  have h := both (a_X11_clash (x1 := x1) (x2 := x2) (Q := fun _ m' => Ok m' ∧ Kp m m') hO (fun r m' O => O)) (ea_clash (x1 := x1) (x2 := x2) (Q := fun r m' => Zb H S P J H S P J s m' ∧ r = aCls H S x1 x2) hk hz (fun m' q => ⟨⟨q.2, hr.cc q.1⟩, rfl⟩)) (fun r m1 m2 q z => ⟨z.1.sm q, z.2⟩)
  exact h.mono (fun v m1 ⟨r, er, ⟨O1, k1⟩, z, e⟩ => ⟨r, er, O1, ⟨hT.kp k1, hL.kp k1⟩, H, S, P, J, s, hb, hz, hP, hJ, z, e⟩)
theorem w2_clash {r1 : Int32} (hB : Md (fun H S P => (aCls H S x1 x2, S, P)) r1 m) : c_X12_clash_70 600 x1 x2 m (fun r m' => Bt m' ∧ r1 = r) := by
  obtain ⟨hO, ⟨hT, hL⟩, H, S, P, J, s, hb, hz, hP, hJ, ⟨hk, hr⟩, e1⟩ := hB
  have hk : KC H S P J m := hk
  have h := both (a_X12_clash (x1 := x1) (x2 := x2) (Q := fun _ m' => Ok m' ∧ Kp m m') hO (fun r m' O => O)) (eb_clash (x1 := x1) (x2 := x2) (Q := fun r m' => Zb H S P J H S P J s m' ∧ r = aCls H S x1 x2) hr (fun m' q => ⟨⟨hk.rc q.rc, hr.rs q⟩, rfl⟩)) (fun r m1 m2 q z => ⟨z.1.sm q, z.2⟩)
  exact h.mono (fun v m1 ⟨r, er, ⟨O1, k1⟩, z, e⟩ => ⟨r, er, ⟨O1, ⟨hT.kp k1, hL.kp k1⟩, H, S, P, J, s, hb, hz, hP, hJ, z⟩, e1.trans e.symm⟩)
theorem w1_then (hB : Bt m) : c_X11_then_0 600 x1 x2 m (fun r m' => Md (fun H S P => (aThn H S x1 x2, S, P)) r m') := by
  obtain ⟨hO, ⟨hT, hL⟩, H, S, P, J, s, hb, hz, hP, hJ, hk, hr⟩ := hB
  have h := both (a_X11_then (x1 := x1) (x2 := x2) (Q := fun _ m' => Ok m' ∧ Kp m m') hO (fun r m' O => O)) (ea_then (x1 := x1) (x2 := x2) (Q := fun r m' => Zb H S P J H S P J s m' ∧ r = aThn H S x1 x2) hk hz (fun m' q => ⟨⟨q.2, hr.cc q.1⟩, rfl⟩)) (fun r m1 m2 q z => ⟨z.1.sm q, z.2⟩)
  exact h.mono (fun v m1 ⟨r, er, ⟨O1, k1⟩, z, e⟩ => ⟨r, er, O1, ⟨hT.kp k1, hL.kp k1⟩, H, S, P, J, s, hb, hz, hP, hJ, z, e⟩)
theorem w2_then {r1 : Int32} (hB : Md (fun H S P => (aThn H S x1 x2, S, P)) r1 m) : c_X12_then_70 600 x1 x2 m (fun r m' => Bt m' ∧ r1 = r) := by
  obtain ⟨hO, ⟨hT, hL⟩, H, S, P, J, s, hb, hz, hP, hJ, ⟨hk, hr⟩, e1⟩ := hB
  have hk : KC H S P J m := hk
  have h := both (a_X12_then (x1 := x1) (x2 := x2) (Q := fun _ m' => Ok m' ∧ Kp m m') hO (fun r m' O => O)) (eb_then (x1 := x1) (x2 := x2) (Q := fun r m' => Zb H S P J H S P J s m' ∧ r = aThn H S x1 x2) hr hz (fun m' q => ⟨⟨hk.rc q.rc, hr.rs q⟩, rfl⟩)) (fun r m1 m2 q z => ⟨z.1.sm q, z.2⟩)
  exact h.mono (fun v m1 ⟨r, er, ⟨O1, k1⟩, z, e⟩ => ⟨r, er, ⟨O1, ⟨hT.kp k1, hL.kp k1⟩, H, S, P, J, s, hb, hz, hP, hJ, z⟩, e1.trans e.symm⟩)
theorem w1_litIn (hB : Bt m) : c_X11_litIn_0 600 x1 x2 m (fun r m' => Md (fun H S P => (aLin H S x1 x2, S, P)) r m') := by
  obtain ⟨hO, ⟨hT, hL⟩, H, S, P, J, s, hb, hz, hP, hJ, hk, hr⟩ := hB
  have h := both (a_X11_litIn (x1 := x1) (x2 := x2) (Q := fun _ m' => Ok m' ∧ Kp m m') hO (fun r m' O => O)) (ea_litIn (x1 := x1) (x2 := x2) (Q := fun r m' => Zb H S P J H S P J s m' ∧ r = aLin H S x1 x2) hk hz (fun m' q => ⟨⟨q.2, hr.cc q.1⟩, rfl⟩)) (fun r m1 m2 q z => ⟨z.1.sm q, z.2⟩)
  exact h.mono (fun v m1 ⟨r, er, ⟨O1, k1⟩, z, e⟩ => ⟨r, er, O1, ⟨hT.kp k1, hL.kp k1⟩, H, S, P, J, s, hb, hz, hP, hJ, z, e⟩)
theorem w2_litIn {r1 : Int32} (hB : Md (fun H S P => (aLin H S x1 x2, S, P)) r1 m) : c_X12_litIn_70 600 x1 x2 m (fun r m' => Bt m' ∧ r1 = r) := by
  obtain ⟨hO, ⟨hT, hL⟩, H, S, P, J, s, hb, hz, hP, hJ, ⟨hk, hr⟩, e1⟩ := hB
  have hk : KC H S P J m := hk
  have h := both (a_X12_litIn (x1 := x1) (x2 := x2) (Q := fun _ m' => Ok m' ∧ Kp m m') hO (fun r m' O => O)) (eb_litIn (x1 := x1) (x2 := x2) (Q := fun r m' => Zb H S P J H S P J s m' ∧ r = aLin H S x1 x2) hr hz (fun m' q => ⟨⟨hk.rc q.rc, hr.rs q⟩, rfl⟩)) (fun r m1 m2 q z => ⟨z.1.sm q, z.2⟩)
  exact h.mono (fun v m1 ⟨r, er, ⟨O1, k1⟩, z, e⟩ => ⟨r, er, ⟨O1, ⟨hT.kp k1, hL.kp k1⟩, H, S, P, J, s, hb, hz, hP, hJ, z⟩, e1.trans e.symm⟩)
theorem w1_year (hB : Bt m) : c_X11_year_0 600 x1 x2 m (fun r m' => Md (fun H S P => (aYr H S x1 x2, S, P)) r m') := by
  obtain ⟨hO, ⟨hT, hL⟩, H, S, P, J, s, hb, hz, hP, hJ, hk, hr⟩ := hB
  have h := both (a_X11_year (x1 := x1) (x2 := x2) (Q := fun _ m' => Ok m' ∧ Kp m m') hO (fun r m' O => O)) (ea_year (x1 := x1) (x2 := x2) (Q := fun r m' => Zb H S P J H S P J s m' ∧ r = aYr H S x1 x2) hk hz (fun m' q => ⟨⟨q.2, hr.cc q.1⟩, rfl⟩)) (fun r m1 m2 q z => ⟨z.1.sm q, z.2⟩)
  exact h.mono (fun v m1 ⟨r, er, ⟨O1, k1⟩, z, e⟩ => ⟨r, er, O1, ⟨hT.kp k1, hL.kp k1⟩, H, S, P, J, s, hb, hz, hP, hJ, z, e⟩)
theorem w2_year {r1 : Int32} (hB : Md (fun H S P => (aYr H S x1 x2, S, P)) r1 m) : c_X12_year_70 600 x1 x2 m (fun r m' => Bt m' ∧ r1 = r) := by
  obtain ⟨hO, ⟨hT, hL⟩, H, S, P, J, s, hb, hz, hP, hJ, ⟨hk, hr⟩, e1⟩ := hB
  have hk : KC H S P J m := hk
  have h := both (a_X12_year (x1 := x1) (x2 := x2) (Q := fun _ m' => Ok m' ∧ Kp m m') hO (fun r m' O => O)) (eb_year (x1 := x1) (x2 := x2) (Q := fun r m' => Zb H S P J H S P J s m' ∧ r = aYr H S x1 x2) hr hz (fun m' q => ⟨⟨hk.rc q.rc, hr.rs q⟩, rfl⟩)) (fun r m1 m2 q z => ⟨z.1.sm q, z.2⟩)
  exact h.mono (fun v m1 ⟨r, er, ⟨O1, k1⟩, z, e⟩ => ⟨r, er, ⟨O1, ⟨hT.kp k1, hL.kp k1⟩, H, S, P, J, s, hb, hz, hP, hJ, z⟩, e1.trans e.symm⟩)
/-- behind the class's count -/
def Mc (x1 : Int32) (r : Int32) (m : dM) : Prop := Ok m ∧ (Rq m ∧ Tl m) ∧ ∃ (H : Ho) (S : Zt) (P : List Zt) (J : Nat → Zt) (s : Nat), hBo H ∧ zOk H S ∧ (∀ T : Zt, T ∈ P → zOk H T) ∧ (∀ i : Nat, zOk H (J i)) ∧ Zb H S P J H S P J s m ∧ r = aCnt H S P (m.1 70 2) (m.1 70 63) (slc m) x1
theorem w1_count (hB : Bt m) : c_X11_count_0 600 x1 m (fun r m' => Mc x1 r m') := by
  obtain ⟨hO, ⟨hT, hL⟩, H, S, P, J, s, hb, hz, hP, hJ, hk, hr⟩ := hB
  have h := both (a_X11_count (x1 := x1) (Q := fun _ m' => Ok m' ∧ Kp m m') hO (fun r m' O => O)) (ea_count (x1 := x1) (Q := fun r m' => Zb H S P J H S P J s m' ∧ r = aCnt H S P (m.1 0 1) (m.1 67 3) (pc10 (m.1 51 4) 10) x1) hk hz (fun m' q => ⟨⟨q.2, hr.cc q.1⟩, rfl⟩)) (fun r m1 m2 q z => ⟨z.1.sm q, z.2⟩)
  refine h.mono (fun v m1 w => ?_)
  obtain ⟨r, er, ⟨O1, k1⟩, z, e⟩ := w
  refine ⟨r, er, O1, ⟨hT.kp k1, hL.kp k1⟩, H, S, P, J, s, hb, hz, hP, hJ, z, ?_⟩
  have e9 : m.1 0 1 = m.1 70 2 := d_ce hT.1.1
  have e11 : m.1 67 3 = m.1 70 63 := d_ce hT.2.2.1
  have sl : slc m1 = slc m := by unfold slc; rw [k1 115 0 rfl, k1 115 1 rfl, k1 115 2 rfl]
  rw [e, e9, e11, slc_eq hT hk.2.2.2.1, k1 70 2 rfl, k1 70 63 rfl, sl]
theorem w2_count {r1 : Int32} (hB : Mc x1 r1 m) : c_X12_count_70 600 x1 m (fun r m' => Bt m' ∧ r1 = r) := by
  obtain ⟨hO, ⟨hT, hL⟩, H, S, P, J, s, hb, hz, hP, hJ, ⟨hk, hr⟩, e1⟩ := hB
  have h := both (a_X12_count (x1 := x1) (Q := fun _ m' => Ok m' ∧ Kp m m') hO (fun r m' O => O)) (eb_count (x1 := x1) (Q := fun r m' => Zb H S P J H S P J s m' ∧ r = aCnt H S P (m.1 70 2) (m.1 70 63) (slc m) x1) hr hz (fun m' q => ⟨⟨hk.rc q.rc, hr.rs q⟩, rfl⟩)) (fun r m1 m2 q z => ⟨z.1.sm q, z.2⟩)
  exact h.mono (fun v m1 ⟨r, er, ⟨O1, k1⟩, z, e⟩ => ⟨r, er, ⟨O1, ⟨hT.kp k1, hL.kp k1⟩, H, S, P, J, s, hb, hz, hP, hJ, z⟩, e1.trans e.symm⟩)
theorem w1_agree (hB : Bt m) (h2 : x2 = 0 ∨ x2 = 1) : c_X11_agree_0 600 x1 x2 m (fun r m' => Md (fun H S P => aAgr H S P x1 x2) r m') := by
  obtain ⟨hO, ⟨hT, hL⟩, H, S, P, J, s, hb, hz, hP, hJ, hk, hr⟩ := hB
  have h := both (a_X11_agree (x1 := x1) (x2 := x2) (Q := fun _ m' => Ok m' ∧ Kp m m') hO (by rcases h2 with e | e <;> (rw [e]; decide)) (fun r m' O => O)) (p_agree (x1 := x1) (x2 := x2) (Q := fun r m' => Zb H (aAgr H S P x1 x2).2.1 (aAgr H S P x1 x2).2.2 J H S P J s m' ∧ r = (aAgr H S P x1 x2).1) hk (fun m' q k => ⟨⟨k, hr.cc q⟩, rfl⟩)) (fun r m1 m2 q z => ⟨z.1.sm q, z.2⟩)
  exact h.mono (fun v m1 ⟨r, er, ⟨O1, k1⟩, z, e⟩ => ⟨r, er, O1, ⟨hT.kp k1, hL.kp k1⟩, H, S, P, J, s, hb, hz, hP, hJ, z, e⟩)
theorem w2_agree {r1 : Int32} (hB : Md (fun H S P => aAgr H S P x1 x2) r1 m) (h2 : x2 = 0 ∨ x2 = 1) : c_X12_agree_70 600 x1 x2 m (fun r m' => Bt m' ∧ r1 = r) := by
  obtain ⟨hO, ⟨hT, hL⟩, H, S, P, J, s, hb, hz, hP, hJ, ⟨hk, hr⟩, e1⟩ := hB
  have ok := fk_agr (x1 := x1) (x2 := x2) H S P hr.1.1 hz hP
  have h := both (a_X12_agree (x1 := x1) (x2 := x2) (Q := fun _ m' => Ok m' ∧ Kp m m') hO (by rcases h2 with e | e <;> (rw [e]; decide)) (fun r m' O => O)) (q_agree (x1 := x1) (x2 := x2) (Q := fun r m' => Zb H (aAgr H S P x1 x2).2.1 (aAgr H S P x1 x2).2.2 J H (aAgr H S P x1 x2).2.1 (aAgr H S P x1 x2).2.2 J s m' ∧ r = (aAgr H S P x1 x2).1) hr h2 (fun m' q k => ⟨⟨hk.rc q, k⟩, rfl⟩)) (fun r m1 m2 q z => ⟨z.1.sm q, z.2⟩)
  exact h.mono (fun v m1 ⟨r, er, ⟨O1, k1⟩, z, e⟩ => ⟨r, er, ⟨O1, ⟨hT.kp k1, hL.kp k1⟩, H, _, _, J, s, hb, ok.1, ok.2, hJ, z⟩, e1.trans e.symm⟩)
theorem w1_pin (hB : Bt m) (h2 : x2 = 0 ∨ x2 = 1) : c_X11_pin_0 600 x1 x2 m (fun r m' => Md (fun H S P => aPin H S P x1 x2) r m') := by
  obtain ⟨hO, ⟨hT, hL⟩, H, S, P, J, s, hb, hz, hP, hJ, hk, hr⟩ := hB
  have h := both (a_X11_pin (x1 := x1) (x2 := x2) (Q := fun _ m' => Ok m' ∧ Kp m m') hO (by rcases h2 with e | e <;> (rw [e]; decide)) (fun r m' O => O)) (p_pin (x1 := x1) (x2 := x2) (Q := fun r m' => Zb H (aPin H S P x1 x2).2.1 (aPin H S P x1 x2).2.2 J H S P J s m' ∧ r = (aPin H S P x1 x2).1) hk (fun m' q k => ⟨⟨k, hr.cc q⟩, rfl⟩)) (fun r m1 m2 q z => ⟨z.1.sm q, z.2⟩)
  exact h.mono (fun v m1 ⟨r, er, ⟨O1, k1⟩, z, e⟩ => ⟨r, er, O1, ⟨hT.kp k1, hL.kp k1⟩, H, S, P, J, s, hb, hz, hP, hJ, z, e⟩)
theorem w2_pin {r1 : Int32} (hB : Md (fun H S P => aPin H S P x1 x2) r1 m) (h2 : x2 = 0 ∨ x2 = 1) : c_X12_pin_70 600 x1 x2 m (fun r m' => Bt m' ∧ r1 = r) := by
  obtain ⟨hO, ⟨hT, hL⟩, H, S, P, J, s, hb, hz, hP, hJ, ⟨hk, hr⟩, e1⟩ := hB
  have ok := fk_pin (x1 := x1) (x2 := x2) H S P hr.1.1 hz hP
  have h := both (a_X12_pin (x1 := x1) (x2 := x2) (Q := fun _ m' => Ok m' ∧ Kp m m') hO (by rcases h2 with e | e <;> (rw [e]; decide)) (fun r m' O => O)) (q_pin (x1 := x1) (x2 := x2) (Q := fun r m' => Zb H (aPin H S P x1 x2).2.1 (aPin H S P x1 x2).2.2 J H (aPin H S P x1 x2).2.1 (aPin H S P x1 x2).2.2 J s m' ∧ r = (aPin H S P x1 x2).1) hr h2 (fun m' q k => ⟨⟨hk.rc q, k⟩, rfl⟩)) (fun r m1 m2 q z => ⟨z.1.sm q, z.2⟩)
  exact h.mono (fun v m1 ⟨r, er, ⟨O1, k1⟩, z, e⟩ => ⟨r, er, ⟨O1, ⟨hT.kp k1, hL.kp k1⟩, H, _, _, J, s, hb, ok.1, ok.2, hJ, z⟩, e1.trans e.symm⟩)
theorem w1_mend (hB : Bt m) : c_X11_mend_0 600 x1 m (fun r m' => Md (fun H S P => aMnd H S P x1) r m') := by
  obtain ⟨hO, ⟨hT, hL⟩, H, S, P, J, s, hb, hz, hP, hJ, hk, hr⟩ := hB
  have h := both (a_X11_mend (x1 := x1) (Q := fun _ m' => Ok m' ∧ Kp m m') hO (fun r m' O => O)) (p_mend (x1 := x1) (Q := fun r m' => Zb H (aMnd H S P x1).2.1 (aMnd H S P x1).2.2 J H S P J s m' ∧ r = (aMnd H S P x1).1) hk (fun m' q k => ⟨⟨k, hr.cc q⟩, rfl⟩)) (fun r m1 m2 q z => ⟨z.1.sm q, z.2⟩)
  exact h.mono (fun v m1 ⟨r, er, ⟨O1, k1⟩, z, e⟩ => ⟨r, er, O1, ⟨hT.kp k1, hL.kp k1⟩, H, S, P, J, s, hb, hz, hP, hJ, z, e⟩)
theorem w2_mend {r1 : Int32} (hB : Md (fun H S P => aMnd H S P x1) r1 m) : c_X12_mend_70 600 x1 m (fun r m' => Bt m' ∧ r1 = r) := by
  obtain ⟨hO, ⟨hT, hL⟩, H, S, P, J, s, hb, hz, hP, hJ, ⟨hk, hr⟩, e1⟩ := hB
  have ok := fk_mnd (x1 := x1) H S P hr.1.1 hz hP
  have h := both (a_X12_mend (x1 := x1) (Q := fun _ m' => Ok m' ∧ Kp m m') hO (fun r m' O => O)) (q_mend (x1 := x1) (Q := fun r m' => Zb H (aMnd H S P x1).2.1 (aMnd H S P x1).2.2 J H (aMnd H S P x1).2.1 (aMnd H S P x1).2.2 J s m' ∧ r = (aMnd H S P x1).1) hr (fun m' q k => ⟨⟨hk.rc q, k⟩, rfl⟩)) (fun r m1 m2 q z => ⟨z.1.sm q, z.2⟩)
  exact h.mono (fun v m1 ⟨r, er, ⟨O1, k1⟩, z, e⟩ => ⟨r, er, ⟨O1, ⟨hT.kp k1, hL.kp k1⟩, H, _, _, J, s, hb, ok.1, ok.2, hJ, z⟩, e1.trans e.symm⟩)
theorem w1_thicken (hB : Bt m) : c_X11_thicken_0 600 x1 m (fun r m' => Md (fun H S P => aThk H S P x1) r m') := by
  obtain ⟨hO, ⟨hT, hL⟩, H, S, P, J, s, hb, hz, hP, hJ, hk, hr⟩ := hB
  have h := both (a_X11_thicken (x1 := x1) (Q := fun _ m' => Ok m' ∧ Kp m m') hO (fun r m' O => O)) (p_thicken (x1 := x1) (Q := fun r m' => Zb H (aThk H S P x1).2.1 (aThk H S P x1).2.2 J H S P J s m' ∧ r = (aThk H S P x1).1) hk (fun m' q k => ⟨⟨k, hr.cc q⟩, rfl⟩)) (fun r m1 m2 q z => ⟨z.1.sm q, z.2⟩)
  exact h.mono (fun v m1 ⟨r, er, ⟨O1, k1⟩, z, e⟩ => ⟨r, er, O1, ⟨hT.kp k1, hL.kp k1⟩, H, S, P, J, s, hb, hz, hP, hJ, z, e⟩)
theorem w2_thicken {r1 : Int32} (hB : Md (fun H S P => aThk H S P x1) r1 m) : c_X12_thicken_70 600 x1 m (fun r m' => Bt m' ∧ r1 = r) := by
  obtain ⟨hO, ⟨hT, hL⟩, H, S, P, J, s, hb, hz, hP, hJ, ⟨hk, hr⟩, e1⟩ := hB
  have ok := fk_thk (x1 := x1) H S P hr.1.1 hz hP
  have h := both (a_X12_thicken (x1 := x1) (Q := fun _ m' => Ok m' ∧ Kp m m') hO (fun r m' O => O)) (q_thicken (x1 := x1) (Q := fun r m' => Zb H (aThk H S P x1).2.1 (aThk H S P x1).2.2 J H (aThk H S P x1).2.1 (aThk H S P x1).2.2 J s m' ∧ r = (aThk H S P x1).1) hr hz (fun m' q k => ⟨⟨hk.rc q, k⟩, rfl⟩)) (fun r m1 m2 q z => ⟨z.1.sm q, z.2⟩)
  exact h.mono (fun v m1 ⟨r, er, ⟨O1, k1⟩, z, e⟩ => ⟨r, er, ⟨O1, ⟨hT.kp k1, hL.kp k1⟩, H, _, _, J, s, hb, ok.1, ok.2, hJ, z⟩, e1.trans e.symm⟩)
theorem w1_hours (hB : Bt m) : c_X11_hours_0 600 x1 m (fun r m' => Md (fun H S P => aHrs H S P x1) r m') := by
  obtain ⟨hO, ⟨hT, hL⟩, H, S, P, J, s, hb, hz, hP, hJ, hk, hr⟩ := hB
  have h := both (a_X11_hours (x1 := x1) (Q := fun _ m' => Ok m' ∧ Kp m m') hO (fun r m' O => O)) (p_hours (x1 := x1) (Q := fun r m' => Zb H (aHrs H S P x1).2.1 (aHrs H S P x1).2.2 J H S P J s m' ∧ r = (aHrs H S P x1).1) hk hz (fun m' q k => ⟨⟨k, hr.cc q⟩, rfl⟩)) (fun r m1 m2 q z => ⟨z.1.sm q, z.2⟩)
  exact h.mono (fun v m1 ⟨r, er, ⟨O1, k1⟩, z, e⟩ => ⟨r, er, O1, ⟨hT.kp k1, hL.kp k1⟩, H, S, P, J, s, hb, hz, hP, hJ, z, e⟩)
theorem w2_hours {r1 : Int32} (hB : Md (fun H S P => aHrs H S P x1) r1 m) : c_X12_hours_70 600 x1 m (fun r m' => Bt m' ∧ r1 = r) := by
  obtain ⟨hO, ⟨hT, hL⟩, H, S, P, J, s, hb, hz, hP, hJ, ⟨hk, hr⟩, e1⟩ := hB
  have ok := fk_hrs (x1 := x1) H S P hr.1.1 hz hP
  have h := both (a_X12_hours (x1 := x1) (Q := fun _ m' => Ok m' ∧ Kp m m') hO (fun r m' O => O)) (q_hours (x1 := x1) (Q := fun r m' => Zb H (aHrs H S P x1).2.1 (aHrs H S P x1).2.2 J H (aHrs H S P x1).2.1 (aHrs H S P x1).2.2 J s m' ∧ r = (aHrs H S P x1).1) hr hz (fun m' q k => ⟨⟨hk.rc q, k⟩, rfl⟩)) (fun r m1 m2 q z => ⟨z.1.sm q, z.2⟩)
  exact h.mono (fun v m1 ⟨r, er, ⟨O1, k1⟩, z, e⟩ => ⟨r, er, ⟨O1, ⟨hT.kp k1, hL.kp k1⟩, H, _, _, J, s, hb, ok.1, ok.2, hJ, z⟩, e1.trans e.symm⟩)
theorem w1_undo (hB : Bt m) : c_X11_undo_0 600  m (fun r m' => Md (fun _ S P => aUnd S P) r m') := by
  obtain ⟨hO, ⟨hT, hL⟩, H, S, P, J, s, hb, hz, hP, hJ, hk, hr⟩ := hB
  have h := both (a_X11_undo (Q := fun _ m' => Ok m' ∧ Kp m m') hO (fun r m' O => O)) (p_undo (Q := fun r m' => Zb H (aUnd S P).2.1 (aUnd S P).2.2 J H S P J s m' ∧ r = (aUnd S P).1) hk (fun m' q k => ⟨⟨k, hr.cc q⟩, rfl⟩)) (fun r m1 m2 q z => ⟨z.1.sm q, z.2⟩)
  exact h.mono (fun v m1 ⟨r, er, ⟨O1, k1⟩, z, e⟩ => ⟨r, er, O1, ⟨hT.kp k1, hL.kp k1⟩, H, S, P, J, s, hb, hz, hP, hJ, z, e⟩)
theorem w2_undo {r1 : Int32} (hB : Md (fun _ S P => aUnd S P) r1 m) : c_X12_undo_70 600  m (fun r m' => Bt m' ∧ r1 = r) := by
  obtain ⟨hO, ⟨hT, hL⟩, H, S, P, J, s, hb, hz, hP, hJ, ⟨hk, hr⟩, e1⟩ := hB
  have ok := fk_und H S P hr.1.1 hz hP
  have h := both (a_X12_undo (Q := fun _ m' => Ok m' ∧ Kp m m') hO (fun r m' O => O)) (q_undo (Q := fun r m' => Zb H (aUnd S P).2.1 (aUnd S P).2.2 J H (aUnd S P).2.1 (aUnd S P).2.2 J s m' ∧ r = (aUnd S P).1) hr (fun m' q k => ⟨⟨hk.rc q, k⟩, rfl⟩)) (fun r m1 m2 q z => ⟨z.1.sm q, z.2⟩)
  exact h.mono (fun v m1 ⟨r, er, ⟨O1, k1⟩, z, e⟩ => ⟨r, er, ⟨O1, ⟨hT.kp k1, hL.kp k1⟩, H, _, _, J, s, hb, ok.1, ok.2, hJ, z⟩, e1.trans e.symm⟩)
/-- behind the class's question of what was told -/
def Mt (f : Ho → Zt → (Nat → Int32) → (Nat → Int32) → Nat → Int32) (r : Int32) (m : dM) : Prop := Ok m ∧ (Rq m ∧ Tl m) ∧ ∃ (H : Ho) (S : Zt) (P : List Zt) (J : Nat → Zt) (s : Nat), hBo H ∧ zOk H S ∧ (∀ T : Zt, T ∈ P → zOk H T) ∧ (∀ i : Nat, zOk H (J i)) ∧ Zb H S P J H S P J s m ∧ r = f H S (m.1 112) (m.1 113) (m.1 70 63).toInt.toNat
theorem w1_went (hB : Bt m) : c_X11_went_0 600 x1 x2 m (fun r m' => Mt (fun H S F B n => aWnt H S F B n x1 x2) r m') := by
  obtain ⟨hO, ⟨hT, hL⟩, H, S, P, J, s, hb, hz, hP, hJ, hk, hr⟩ := hB
  have b := hO.s (k := 70) (j := 63) rfl
  have h := both (a_X11_went (x1 := x1) (x2 := x2) (Q := fun _ m' => Ok m' ∧ Kp m m') hO (fun r m' O => O)) (ea_went (x1 := x1) (x2 := x2) (F := m.1 112) (B := m.1 113) (n := (m.1 70 63).toInt.toNat) (Q := fun r m' => Zb H S P J H S P J s m' ∧ r = aWnt H S (m.1 112) (m.1 113) (m.1 70 63).toInt.toNat x1 x2) hk (by rw [hT.2.2.1]; omega) (by omega) (fun i hi => by
    have t := hL i (by omega)
    exact ⟨t.1, t.2.1, by rw [← t.1]; exact t.2.2.1, by rw [← t.1]; exact t.2.2.2⟩) (fun m' q => ⟨⟨q.2, hr.cc q.1⟩, rfl⟩)) (fun r m1 m2 q z => ⟨z.1.sm q, z.2⟩)
  refine h.mono (fun v m1 w => ?_)
  obtain ⟨r, er, ⟨O1, k1⟩, z, e⟩ := w
  refine ⟨r, er, O1, ⟨hT.kp k1, hL.kp k1⟩, H, S, P, J, s, hb, hz, hP, hJ, z, ?_⟩
  have e12 : m1.1 112 = m.1 112 := funext fun j => k1 112 j rfl
  have e13 : m1.1 113 = m.1 113 := funext fun j => k1 113 j rfl
  rw [e, e12, e13, k1 70 63 rfl]
theorem w2_went {r1 : Int32} (hB : Mt (fun H S F B n => aWnt H S F B n x1 x2) r1 m) : c_X12_went_70 600 x1 x2 m (fun r m' => Bt m' ∧ r1 = r) := by
  obtain ⟨hO, ⟨hT, hL⟩, H, S, P, J, s, hb, hz, hP, hJ, ⟨hk, hr⟩, e1⟩ := hB
  have b := hO.s (k := 70) (j := 63) rfl
  have h := both (a_X12_went (x1 := x1) (x2 := x2) (Q := fun _ m' => Ok m' ∧ Kp m m') hO (fun r m' O => O)) (eb_went (x1 := x1) (x2 := x2) (F := m.1 112) (B := m.1 113) (n := (m.1 70 63).toInt.toNat) (Q := fun r m' => Zb H S P J H S P J s m' ∧ r = aWnt H S (m.1 112) (m.1 113) (m.1 70 63).toInt.toNat x1 x2) hr (by omega) (by omega) (fun i hi => by
    have t := hL i (by omega)
    exact ⟨rfl, rfl, by rw [← t.1]; exact t.2.2.1, by rw [← t.1]; exact t.2.2.2⟩) (fun m' q => ⟨⟨hk.rc q.rc, hr.rs q⟩, rfl⟩)) (fun r m1 m2 q z => ⟨z.1.sm q, z.2⟩)
  exact h.mono (fun v m1 ⟨r, er, ⟨O1, k1⟩, z, e⟩ => ⟨r, er, ⟨O1, ⟨hT.kp k1, hL.kp k1⟩, H, S, P, J, s, hb, hz, hP, hJ, z⟩, e1.trans e.symm⟩)
theorem w1_ask (hB : Bt m) : c_X11_ask_0 600 x1 m (fun r m' => Mt (fun H S F B n => aAsk H S F B n x1) r m') := by
  obtain ⟨hO, ⟨hT, hL⟩, H, S, P, J, s, hb, hz, hP, hJ, hk, hr⟩ := hB
  have b := hO.s (k := 70) (j := 63) rfl
  have h := both (a_X11_ask (x1 := x1) (Q := fun _ m' => Ok m' ∧ Kp m m') hO (fun r m' O => O)) (ea_ask (x1 := x1) (F := m.1 112) (B := m.1 113) (n := (m.1 70 63).toInt.toNat) (Q := fun r m' => Zb H S P J H S P J s m' ∧ r = aAsk H S (m.1 112) (m.1 113) (m.1 70 63).toInt.toNat x1) hk (by rw [hT.2.2.1]; omega) (by omega) (fun i hi => by
    have t := hL i (by omega)
    exact ⟨t.1, t.2.1, by rw [← t.1]; exact t.2.2.1, by rw [← t.1]; exact t.2.2.2⟩) (fun m' q => ⟨⟨q.2, hr.cc q.1⟩, rfl⟩)) (fun r m1 m2 q z => ⟨z.1.sm q, z.2⟩)
  refine h.mono (fun v m1 w => ?_)
  obtain ⟨r, er, ⟨O1, k1⟩, z, e⟩ := w
  refine ⟨r, er, O1, ⟨hT.kp k1, hL.kp k1⟩, H, S, P, J, s, hb, hz, hP, hJ, z, ?_⟩
  have e12 : m1.1 112 = m.1 112 := funext fun j => k1 112 j rfl
  have e13 : m1.1 113 = m.1 113 := funext fun j => k1 113 j rfl
  rw [e, e12, e13, k1 70 63 rfl]
theorem w2_ask {r1 : Int32} (hB : Mt (fun H S F B n => aAsk H S F B n x1) r1 m) : c_X12_ask_70 600 x1 m (fun r m' => Bt m' ∧ r1 = r) := by
  obtain ⟨hO, ⟨hT, hL⟩, H, S, P, J, s, hb, hz, hP, hJ, ⟨hk, hr⟩, e1⟩ := hB
  have b := hO.s (k := 70) (j := 63) rfl
  have h := both (a_X12_ask (x1 := x1) (Q := fun _ m' => Ok m' ∧ Kp m m') hO (fun r m' O => O)) (eb_ask (x1 := x1) (F := m.1 112) (B := m.1 113) (n := (m.1 70 63).toInt.toNat) (Q := fun r m' => Zb H S P J H S P J s m' ∧ r = aAsk H S (m.1 112) (m.1 113) (m.1 70 63).toInt.toNat x1) hr (by omega) (by omega) (fun i hi => by
    have t := hL i (by omega)
    exact ⟨rfl, rfl, by rw [← t.1]; exact t.2.2.1, by rw [← t.1]; exact t.2.2.2⟩) (fun m' q => ⟨⟨hk.rc q.rc, hr.rs q⟩, rfl⟩)) (fun r m1 m2 q z => ⟨z.1.sm q, z.2⟩)
  exact h.mono (fun v m1 ⟨r, er, ⟨O1, k1⟩, z, e⟩ => ⟨r, er, ⟨O1, ⟨hT.kp k1, hL.kp k1⟩, H, S, P, J, s, hb, hz, hP, hJ, z⟩, e1.trans e.symm⟩)
/-! calls that leave house and state, and hold, restore -/
theorem Fr.on {m m' : dM} (h : Fr m) (e : ∀ k j : Nat, (2 ≤ k ∧ k ≤ 60) ∨ (80 ≤ k ∧ k ≤ 103) ∨ k = 107 ∨ k = 111 ∨ k = 115 ∨ k = 116 → m'.1 k j = m.1 k j) (e18 : m'.1 70 18 = m.1 70 18) (e61 : m'.1 70 61 = m.1 70 61) : Fr m' := by
  obtain ⟨H, S, P, J, s, hb, hz, hP, hJ, hk, hr⟩ := h
  exact ⟨H, S, P, J, s, hb, hz, hP, hJ, hk.fr (fun k h1 h2 => funext fun j => e k j (by omega)), hr.fr (fun k hk => funext fun j => e k j (by omega)) e18 e61⟩
def Mw (E : Int32 → dM → Prop) (m : dM) (r : Int32) (m' : dM) : Prop := Ok m' ∧ E r m' ∧ Bt m ∧ Fr m'
theorem w1_feed {x1 x2 x3 x4 x5' : Int32} (hB : Bt m) : c_X11_feed_0 600 x1 x2 x3 x4 x5' m (fun r m' => Mw (E11f (x5 x1 x2 x3 x4 x5') m) m r m') := by
  refine Wp.deep (b_X11_feed hB.1 (fun r m' h => ⟨h.1, h.2, hB, ?_⟩)) (Nat.le_of_ble_eq_true rfl)
  rcases h.2 with ⟨_, t, _, _, y⟩ | ⟨_, _, y⟩
  · exact hB.2.2.on (fun k j q => y.2.1 k j (by omega) (by omega)) (y.2.1 70 18 (by decide) (by decide)) (y.2.1 70 61 (by decide) (by decide))
  · rw [y]; exact hB.2.2
theorem w2_feed {x1 x2 x3 x4 x5' r1 : Int32} {m0 : dM} (hM : Mw (E11f (x5 x1 x2 x3 x4 x5') m0) m0 r1 m) : c_X12_feed_70 600 x1 x2 x3 x4 x5' m (fun r m' => Bt m' ∧ r1 = r) := by
  obtain ⟨hO, E, hB, hF⟩ := hM
  refine Wp.deep (b_X12_feed hO (fun r m' h => ?_)) (Nat.le_of_ble_eq_true rfl)
  have j := j_feed hB.2.1.1 E h.2
  have t1 : Tl m := by
    rcases E with ⟨_, t, _, _, y⟩ | ⟨_, _, y⟩
    · exact hB.2.1.2.fr0 y.2.1
    · rw [y]; exact hB.2.1.2
  have t2 : Tl m' := by
    rcases h.2 with ⟨_, t, _, _, y⟩ | ⟨_, _, y⟩
    · exact t1.fr70 y.2.1
    · rw [y]; exact t1
  refine ⟨⟨h.1, ⟨j.1, t2⟩, ?_⟩, j.2⟩
  rcases h.2 with ⟨_, t, _, _, y⟩ | ⟨_, _, y⟩
  · exact hF.on (fun k j q => y.2.1 k j (by omega) (by omega)) (y.2.1 70 18 (by decide) (by decide)) (y.2.1 70 61 (by decide) (by decide))
  · rw [y]; exact hF
theorem w1_back (hB : Bt m) : c_X11_back_0 600 x1 m (fun r m' => Mw (E11b x1 m) m r m') := by
  refine Wp.deep (b_X11_back hB.1 (fun r m' h => ⟨h.1, h.2, hB, ?_⟩)) (Nat.le_of_ble_eq_true rfl)
  have y := h.2.1.1
  exact hB.2.2.on (fun k j q => y k j (by omega) (by omega)) (y 70 18 (by decide) (by decide)) (y 70 61 (by decide) (by decide))
theorem w2_back {r1 : Int32} {m0 : dM} (hM : Mw (E11b x1 m0) m0 r1 m) : c_X12_back_70 600 x1 m (fun r m' => Bt m' ∧ r1 = r) := by
  obtain ⟨hO, E, hB, hF⟩ := hM
  refine Wp.deep (b_X12_back hO (fun r m' h => ?_)) (Nat.le_of_ble_eq_true rfl)
  have j := j_back hB.2.1.1 E h.2
  have t2 : Tl m' := (hB.2.1.2.fr0 E.1.1).fr70 h.2.1.1
  have y := h.2.1.1
  exact ⟨⟨h.1, ⟨j.1, t2⟩, hF.on (fun k j q => y k j (by omega) (by omega)) (y 70 18 (by decide) (by decide)) (y 70 61 (by decide) (by decide))⟩, j.2⟩
/-- what tell does to the rows -/
def T11 (x1 x2 : Int32) (m m' : dM) : Prop := m' = m ∨ ((∀ j : Nat, m'.1 68 j = if j = (m.1 67 3).toNatClampNeg then x1 else m.1 68 j) ∧ ∀ j : Nat, m'.1 69 j = if j = (m.1 67 3).toNatClampNeg then x2 else m.1 69 j)
def T12 (x1 x2 : Int32) (m m' : dM) : Prop := m' = m ∨ ((∀ j : Nat, m'.1 112 j = if j = (m.1 70 63).toNatClampNeg then x1 else m.1 112 j) ∧ ∀ j : Nat, m'.1 113 j = if j = (m.1 70 63).toNatClampNeg then (if x2.toInt = 0 then 0 else 1) else m.1 113 j)
def E11T (x1 x2 : Int32) (m : dM) (r : Int32) (m' : dM) : Prop := E11t x1 m r m' ∧ T11 x1 x2 m m'
def E12T (x1 x2 : Int32) (m : dM) (r : Int32) (m' : dM) : Prop := E12t x1 m r m' ∧ T12 x1 x2 m m'
theorem zt_X11_tell {x1 x2 : Int32} {Q : Int32 → dM → Prop} (hO : Ok m) (h2 : x2 = 0 ∨ x2 = 1) (hQ : ∀ (r : Int32) (m' : dM), Ok m' ∧ E11T x1 x2 m r m' → Q r m') : c_X11_tell_0 3 x1 x2 m Q := by
  have b := hO.s (k := 67) (j := 3) rfl
  have no : ¬ (0 ≤ x1.toInt ∧ x1.toInt < (m.1 2 0).toInt ∧ (m.1 67 3).toInt < 20) → Q (-1 : Int32) m := fun q => hQ _ _ ⟨hO, Or.inr ⟨q, by decide, rfl⟩, Or.inl rfl⟩
  have n0 : ¬ (0 ≤ x1.toInt ∧ x1.toInt < (m.1 2 0).toInt) → ((0 : Int32).toInt = 0 → Q (-1 : Int32) m) ∧ ((0 : Int32).toInt ≠ 0 → c_X9_add_67 2 x1 x2 m (fun r2 m2 => Q r2 m2)) := fun q => ⟨fun _ => no (fun w => q ⟨w.1, w.2.1⟩), fun w => absurd rfl w⟩
  refine v_X11_tell_0 (Wp.deep (d := 1) (v_X11_isFlat_0 ⟨fun q => v_X11_isFlat_0_19 (n0 (by omega)), fun q => ⟨fun q2 => v_X11_isFlat_0_19 (n0 (by omega)), fun q2 => ⟨fun w => absurd w (by decide), fun _ => ?_⟩⟩⟩) (Nat.le_of_ble_eq_true rfl))
  refine Wp.deep (d := 1) (v_X9_add_67 ⟨fun q3 => ⟨by omega, h2, by omega, hQ _ _ ⟨?_, Or.inl ⟨⟨q, q2, q3⟩, ?_, ?_, fun k j e1 e2 e3 => ?_⟩, Or.inr ⟨fun j => ?_, fun j => ?_⟩⟩⟩, fun q3 => no (fun w => by omega)⟩) (Nat.le_of_ble_eq_true rfl)
  all_goals have f := dAddE (X := (m.1 67 3).toInt) (Y := 1) (x := m.1 67 3) (y := (1 : Int32)) rfl (by decide) (by omega) (by omega)
  · refine Ok.gen (Ok.gen0 (Ok.gen0 hO (by decide) rfl rfl) (by decide) rfl rfl) (by decide) (fun lo hi h => ?_)
    rcases h with h | h
    · cases h
    · cases h; omega
  · have f2 := dSubE (X := (m.1 67 3).toInt + 1) (Y := 1) (x := m.1 67 3 + 1) (y := (1 : Int32)) f (by decide) (by omega) (by omega)
    omega
  · exact f
  · rw [dSet_e, if_neg e3, dSet_k e2, dSet_k e1]
  · rw [dSet_k (by decide), dSet_k (by decide), dSet_e]
    by_cases z : j = (m.1 67 3).toNatClampNeg
    · rw [if_pos ⟨rfl, z⟩, if_pos z]
    · rw [if_neg (fun w => z w.2), if_neg z]
  · rw [dSet_k (by decide), dSet_e, dSet_k (by decide)]
    by_cases z : j = (m.1 67 3).toNatClampNeg
    · rw [if_pos ⟨rfl, z⟩, if_pos z]
    · rw [if_neg (fun w => z w.2), if_neg z]
theorem zt_X12_tell {x1 x2 : Int32} {Q : Int32 → dM → Prop} (hO : Ok m) (hQ : ∀ (r : Int32) (m' : dM), Ok m' ∧ E12T x1 x2 m r m' → Q r m') : c_X12_tell_70 3 x1 x2 m Q := by
  have b := hO.s (k := 70) (j := 63) rfl
  have b18 := hO.s (k := 70) (j := 18) rfl
  have b80 := hO.s (k := 80) (j := (m.1 70 18).toNatClampNeg) rfl
  have f80 := dSubE (X := (m.1 80 (m.1 70 18).toNatClampNeg).toInt) (Y := 1) (x := m.1 80 (m.1 70 18).toNatClampNeg) (y := (1 : Int32)) rfl (by decide) (by omega) (by omega)
  have no : ¬ (0 ≤ x1.toInt ∧ x1.toInt < (m.1 80 (m.1 70 18).toNatClampNeg).toInt ∧ (m.1 70 63).toInt ≠ 20) → j_X12_tell_70_17 3 m Q := fun q => v_X12_tell_70_17 (hQ _ _ ⟨hO, Or.inr ⟨q, by decide, rfl⟩, Or.inl rfl⟩)
  have st : ∀ v : Int32, v = (if x2.toInt = 0 then 0 else 1) → (0 ≤ x1.toInt ∧ x1.toInt < (m.1 80 (m.1 70 18).toNatClampNeg).toInt ∧ (m.1 70 63).toInt ≠ 20) → Q (((m.1 70 63) + (1 : Int32)) - (1 : Int32)) (dSet (dSet (dSet m 112 (m.1 70 63).toNatClampNeg x1) 113 (m.1 70 63).toNatClampNeg v) 70 63 ((m.1 70 63) + (1 : Int32))) := fun v ev q => by
    have f := dAddE (X := (m.1 70 63).toInt) (Y := 1) (x := m.1 70 63) (y := (1 : Int32)) rfl (by decide) (by omega) (by omega)
    have f2 := dSubE (X := (m.1 70 63).toInt + 1) (Y := 1) (x := m.1 70 63 + 1) (y := (1 : Int32)) f (by decide) (by omega) (by omega)
    refine hQ _ _ ⟨Ok.set70 (Ok.gen0 (Ok.gen0 hO (by decide) rfl rfl) (by decide) rfl rfl) (by decide) (fun lo hi h => ?_), Or.inl ⟨q, by omega, f, fun k j e1 e2 e3 => by rw [dSet_e, if_neg e3, dSet_k e2, dSet_k e1]⟩, Or.inr ⟨fun j => ?_, fun j => ?_⟩⟩
    · rcases h with h | h
      · cases h
      · cases h; omega
    · rw [dSet_k (by decide), dSet_k (by decide), dSet_e]
      by_cases z : j = (m.1 70 63).toNatClampNeg
      · rw [if_pos ⟨rfl, z⟩, if_pos z]
      · rw [if_neg (fun w => z w.2), if_neg z]
    · rw [dSet_k (by decide), dSet_e, dSet_k (by decide), ev]
      by_cases z : j = (m.1 70 63).toNatClampNeg
      · rw [if_pos ⟨rfl, z⟩, if_pos z]
      · rw [if_neg (fun w => z w.2), if_neg z]
  have e0 : (0 : Int32).toInt = 0 := by decide
  have n0 : ¬ (0 ≤ x1.toInt ∧ x1.toInt < (m.1 80 (m.1 70 18).toNatClampNeg).toInt) → j_X12_tell_70_17 3 m Q := fun q => no (fun w => q ⟨w.1, w.2.1⟩)
  refine v_X12_tell_70 ⟨fun q => no (fun w => w.2.2 q), fun q => v_X12_isFlat_70 ⟨by omega, Wp.deep (d := 1) (v_X12_in ⟨fun q2 => v_X12_in_14 ⟨Or.inl rfl, fun w => absurd rfl w, fun _ => n0 (by omega)⟩, fun q2 => ⟨fun q3 => v_X12_in_14 ⟨Or.inl rfl, fun w => absurd rfl w, fun _ => n0 (by omega)⟩, fun q3 => ⟨Or.inr rfl, fun _ => ⟨by omega, fun z => ⟨by omega, st _ (if_pos z).symm ⟨by omega, by omega, q⟩⟩, fun z => ⟨by omega, st _ (if_neg z).symm ⟨by omega, by omega, q⟩⟩⟩, fun w => absurd w (by decide)⟩⟩⟩) (Nat.le_of_ble_eq_true rfl)⟩⟩
theorem j_told {x1 x2 r1 r2 : Int32} {m0 m m' : dM} (hO : Ok m0) (hT : Rq m0) (hL : Tl m0) (h2 : x2 = 0 ∨ x2 = 1) (E1 : E11T x1 x2 m0 r1 m) (E2 : E12T x1 x2 m r2 m') : Tl m' := by
  have b := hO.s (k := 67) (j := 3) rfl
  have b20 := hO.s (k := 2) (j := 0) rfl
  obtain ⟨hq, ⟨o1, o2, o3, o4⟩⟩ := hT
  obtain ⟨E1, T1⟩ := E1
  obtain ⟨E2, T2⟩ := E2
  have n0 := toNat_of (x := m0.1 67 3) b.1
  have e63 : m.1 70 63 = m0.1 70 63 := by
    rcases E1 with ⟨_, _, _, d⟩ | ⟨_, _, T⟩
    · exact d 70 63 (by decide) (by decide) (by decide)
    · rw [T]
  have k112 : m.1 112 = m0.1 112 := by
    rcases E1 with ⟨_, _, _, d⟩ | ⟨_, _, T⟩
    · exact funext fun j => d 112 j (by decide) (by decide) (by omega)
    · rw [T]
  have k113 : m.1 113 = m0.1 113 := by
    rcases E1 with ⟨_, _, _, d⟩ | ⟨_, _, T⟩
    · exact funext fun j => d 113 j (by decide) (by decide) (by omega)
    · rw [T]
  have r68 : ∀ i : Nat, i ≠ (m0.1 67 3).toNatClampNeg → m.1 68 i = m0.1 68 i ∧ m.1 69 i = m0.1 69 i := fun i hi => by
    rcases T1 with T | ⟨a, b'⟩
    · rw [T]; exact ⟨rfl, rfl⟩
    · exact ⟨by rw [a i, if_neg hi], by rw [b' i, if_neg hi]⟩
  have s68 : m'.1 68 = m.1 68 ∧ m'.1 69 = m.1 69 := by
    rcases E2 with ⟨_, _, _, d⟩ | ⟨_, _, T⟩
    · exact ⟨funext fun j => d 68 j (by decide) (by decide) (by omega), funext fun j => d 69 j (by decide) (by decide) (by omega)⟩
    · rw [T]; exact ⟨rfl, rfl⟩
  have n2 : (m.1 70 63).toNatClampNeg = (m0.1 67 3).toNatClampNeg := by
    rw [e63]
    exact d_cn (by rw [← o2]; exact n0)
  intro i hi
  rw [s68.1, s68.2]
  by_cases q : (i : Int) < (m0.1 70 63).toInt
  · have ne : i ≠ (m0.1 67 3).toNatClampNeg := by omega
    have h0 := hL i q
    rw [(r68 i ne).1, (r68 i ne).2]
    have t : m'.1 112 i = m0.1 112 i ∧ m'.1 113 i = m0.1 113 i := by
      rcases T2 with T | ⟨a, b'⟩
      · rw [T, k112, k113]; exact ⟨rfl, rfl⟩
      · rw [n2] at a b'
        exact ⟨by rw [a i, if_neg ne, k112], by rw [b' i, if_neg ne, k113]⟩
    rw [t.1, t.2]
    exact h0
  · rcases E2 with ⟨a2, _, c2, _⟩ | ⟨_, _, T⟩
    · rcases E1 with ⟨a1, _, c1, _⟩ | ⟨na, _, T⟩
      · have ei : i = (m0.1 67 3).toNatClampNeg := by rw [e63] at c2; omega
        have t1 : m.1 68 i = x1 ∧ m.1 69 i = x2 := by
          rcases T1 with T | ⟨a, b'⟩
          · exfalso; rw [T] at c1; omega
          · exact ⟨by rw [a i, if_pos ei], by rw [b' i, if_pos ei]⟩
        have t2 : m'.1 112 i = x1 ∧ m'.1 113 i = x2 := by
          rcases T2 with T | ⟨a, b'⟩
          · exfalso; rw [T] at c2; omega
          · rw [n2] at a b'
            refine ⟨by rw [a i, if_pos ei], ?_⟩
            rw [b' i, if_pos ei]
            rcases h2 with e | e <;> (rw [e]; decide)
        rw [t1.1, t1.2, t2.1, t2.2]
        exact ⟨rfl, rfl, a1.1, by omega⟩
      · exfalso
        rw [T] at a2
        omega
    · exfalso
      rw [T, e63] at hi
      exact q hi
theorem w1_tell (hB : Bt m) (h2 : x2 = 0 ∨ x2 = 1) : c_X11_tell_0 600 x1 x2 m (fun r m' => Mw (E11T x1 x2 m) m r m') := by
  refine Wp.deep (zt_X11_tell hB.1 h2 (fun r m' h => ⟨h.1, h.2, hB, ?_⟩)) (Nat.le_of_ble_eq_true rfl)
  rcases h.2.1 with ⟨_, _, _, y⟩ | ⟨_, _, y⟩
  · exact hB.2.2.on (fun k j q => y k j (by omega) (by omega) (by omega)) (y 70 18 (by decide) (by decide) (by decide)) (y 70 61 (by decide) (by decide) (by decide))
  · rw [y]; exact hB.2.2
theorem w2_tell {r1 : Int32} {m0 : dM} (hM : Mw (E11T x1 x2 m0) m0 r1 m) (h2 : x2 = 0 ∨ x2 = 1) : c_X12_tell_70 600 x1 x2 m (fun r m' => Bt m' ∧ r1 = r) := by
  obtain ⟨hO, E, hB, hF⟩ := hM
  refine Wp.deep (zt_X12_tell hO (fun r m' h => ?_)) (Nat.le_of_ble_eq_true rfl)
  have j := j_tell hB.1 hB.2.1.1 E.1 h.2.1
  have tl := j_told hB.1 hB.2.1.1 hB.2.1.2 h2 E h.2
  refine ⟨⟨h.1, ⟨j.1, tl⟩, ?_⟩, j.2⟩
  rcases h.2.1 with ⟨_, _, _, y⟩ | ⟨_, _, y⟩
  · exact hF.on (fun k j q => y k j (by omega) (by omega) (by omega)) (y 70 18 (by decide) (by decide) (by decide)) (y 70 61 (by decide) (by decide) (by decide))
  · rw [y]; exact hF
theorem w1_forget (hB : Bt m) : c_X11_forget_0 600 m (fun r m' => Mw (E11o m) m r m') := by
  refine Wp.deep (z_X11_forget hB.1 (fun r m' h => ⟨h.1, h.2, hB, ?_⟩)) (Nat.le_of_ble_eq_true rfl)
  have y := h.2.2.2
  exact hB.2.2.on (fun k j q => y k j (by omega)) (y 70 18 (by decide)) (y 70 61 (by decide))
theorem w2_forget {r1 : Int32} {m0 : dM} (hM : Mw (E11o m0) m0 r1 m) : c_X12_forget_70 600 m (fun r m' => Bt m' ∧ r1 = r) := by
  obtain ⟨hO, E, hB, hF⟩ := hM
  refine Wp.deep (z_X12_forget hO (fun r m' h => ?_)) (Nat.le_of_ble_eq_true rfl)
  have j := j_forget hB.2.1.1 E h.2
  have y := h.2.2.2
  exact ⟨⟨h.1, ⟨j.1, Tl.z h.2.2.1⟩, hF.on (fun k j q => y k j (by omega)) (y 70 18 (by decide)) (y 70 61 (by decide))⟩, j.2⟩
theorem w1_place (hB : Bt m) : c_X11_place_0 600 m (fun r m' => Mw (E11p m) m r m') := by
  refine Wp.deep (z_X11_place hB.1 (fun r m' h => ⟨h.1, h.2, hB, ?_⟩)) (Nat.le_of_ble_eq_true rfl)
  rw [h.2.2]; exact hB.2.2
theorem w2_place {r1 : Int32} {m0 : dM} (hM : Mw (E11p m0) m0 r1 m) : c_X12_place_70 600 m (fun r m' => Bt m' ∧ r1 = r) := by
  obtain ⟨hO, E, hB, hF⟩ := hM
  refine Wp.deep (z_X12_place hO (fun r m' h => ?_)) (Nat.le_of_ble_eq_true rfl)
  have j := j_place hB.2.1.1 E h.2
  exact ⟨⟨h.1, ⟨j.1, by rw [h.2.2, E.2]; exact hB.2.1.2⟩, by rw [h.2.2]; exact hF⟩, j.2⟩
/-- hold -/
def Mh (x1 : Int32) (m : dM) (r : Int32) (m' : dM) : Prop := Ok m' ∧ E11h x1 m r m' ∧ (Rq m ∧ Tl m) ∧ ∃ (H : Ho) (S : Zt) (P : List Zt) (J : Nat → Zt) (s : Nat), hBo H ∧ zOk H S ∧ (∀ T : Zt, T ∈ P → zOk H T) ∧ (∀ i : Nat, zOk H (J i)) ∧ Zb H S P (lHold J S x1) H S P J s m'
theorem w1_hold (hB : Bt m) : c_X11_hold_0 600 x1 m (fun r m' => Mh x1 m r m') := by
  obtain ⟨hO, ⟨hT, hL⟩, H, S, P, J, s, hb, hz, hP, hJ, hk, hr⟩ := hB
  have h := both (z_X11_hold (x1 := x1) (Q := fun r m' => Ok m' ∧ E11h x1 m r m') hO (fun r m' O => O)) (p_hold (x1 := x1) (Q := fun _ m' => Zb H S P (lHold J S x1) H S P J s m') hk (fun r m' q k => ⟨k, hr.cc q⟩)) (fun r m1 m2 q z => z.sm q)
  exact Wp.deep (h.mono (fun v m1 ⟨r, er, ⟨O1, k1⟩, z⟩ => ⟨r, er, O1, k1, ⟨hT, hL⟩, H, S, P, J, s, hb, hz, hP, hJ, z⟩)) (Nat.le_of_ble_eq_true rfl)
theorem w2_hold {r1 : Int32} {m0 : dM} (hM : Mh x1 m0 r1 m) : c_X12_hold_70 600 x1 m (fun r m' => Bt m' ∧ r1 = r) := by
  obtain ⟨hO, E, ⟨hT, hL⟩, H, S, P, J, s, hb, hz, hP, hJ, hk, hr⟩ := hM
  have h := both (z_X12_hold (x1 := x1) (Q := fun r m' => Ok m' ∧ E12h x1 m r m') hO (fun r m' O => O)) (q_hold (x1 := x1) (Q := fun _ m' => Zb H S P (lHold J S x1) H S P (lHold J S x1) s m') hr (fun r m' q k => ⟨hk.rc q, k⟩)) (fun r m1 m2 q z => z.sm q)
  refine Wp.deep (h.mono (fun v m1 ⟨r, er, ⟨O1, k1⟩, z⟩ => ?_)) (Nat.le_of_ble_eq_true rfl)
  have j := j_hold hT E k1
  have t1 : Tl m := by
    rcases E with ⟨_, _, _, d⟩ | ⟨_, _, T⟩
    · exact hL.of (funext fun j => d 68 j rfl (by omega)) (funext fun j => d 69 j rfl (by omega)) (funext fun j => d 112 j rfl (by omega)) (funext fun j => d 113 j rfl (by omega)) (d 70 63 rfl (by omega))
    · rw [T]; exact hL
  have t2 : Tl m1 := by
    rcases k1 with ⟨_, _, _, d⟩ | ⟨_, _, T⟩
    · exact t1.of (funext fun j => d 68 j (by decide) (by decide)) (funext fun j => d 69 j (by decide) (by decide)) (funext fun j => d 112 j (by decide) (by decide)) (funext fun j => d 113 j (by decide) (by decide)) (d 70 63 (by decide) (by decide))
    · rw [T]; exact t1
  refine ⟨r, er, ⟨O1, ⟨j.1, t2⟩, H, S, P, lHold J S x1, s, hb, hz, hP, fun i => ?_, z⟩, j.2⟩
  unfold lHold
  split
  · exact hz
  · exact hJ i
/-- restore -/
def Ms (x1 : Int32) (m : dM) (r : Int32) (m' : dM) : Prop := Ok m' ∧ E11s x1 m r m' ∧ (Rq m ∧ Tl m) ∧ ∃ (H : Ho) (S : Zt) (P : List Zt) (J : Nat → Zt) (s : Nat), hBo H ∧ zOk H S ∧ (∀ T : Zt, T ∈ P → zOk H T) ∧ (∀ i : Nat, zOk H (J i)) ∧ Zb H (aRes S P J x1 (bt (m.1 51 4) x1.toNatClampNeg)).1 (aRes S P J x1 (bt (m.1 51 4) x1.toNatClampNeg)).2 J H S P J s m'
theorem w1_restore (hB : Bt m) : c_X11_restore_0 600 x1 m (fun r m' => Ms x1 m r m') := by
  obtain ⟨hO, ⟨hT, hL⟩, H, S, P, J, s, hb, hz, hP, hJ, hk, hr⟩ := hB
  have h := both (z_X11_restore (x1 := x1) (Q := fun r m' => Ok m' ∧ E11s x1 m r m') hO (fun r m' O => O)) (p_restore (x1 := x1) (Q := fun _ m' => Zb H (aRes S P J x1 (bt (m.1 51 4) x1.toNatClampNeg)).1 (aRes S P J x1 (bt (m.1 51 4) x1.toNatClampNeg)).2 J H S P J s m') hk (fun r m' q k => ⟨k, hr.cc q⟩)) (fun r m1 m2 q z => z.sm q)
  exact Wp.deep (h.mono (fun v m1 ⟨r, er, ⟨O1, k1⟩, z⟩ => ⟨r, er, O1, k1, ⟨hT, hL⟩, H, S, P, J, s, hb, hz, hP, hJ, z⟩)) (Nat.le_of_ble_eq_true rfl)
theorem w2_restore {r1 : Int32} {m0 : dM} (hM : Ms x1 m0 r1 m) : c_X12_restore_70 600 x1 m (fun r m' => Bt m' ∧ r1 = r) := by
  obtain ⟨hO, E, ⟨hT, hL⟩, H, S, P, J, s, hb, hz, hP, hJ, hk, hr⟩ := hM
  have hh : (0 ≤ x1.toInt ∧ x1.toInt < 3) → ((m.1 115 x1.toNatClampNeg).toInt ≠ 0 ↔ bt (m0.1 51 4) x1.toNatClampNeg = true) := fun q => by
    have c := d_cl (x := x1) q.1
    have o := hT.2.2.2.2 x1.toNatClampNeg (by omega)
    rw [E.1 115 _ rfl, ← o]
    exact hb_bit _ _ (by omega)
  have ok : zOk H (aRes S P J x1 (bt (m0.1 51 4) x1.toNatClampNeg)).1 ∧ ∀ T : Zt, T ∈ (aRes S P J x1 (bt (m0.1 51 4) x1.toNatClampNeg)).2 → zOk H T := by
    unfold aRes
    split
    · exact ⟨hJ _, fun T hT => absurd hT (List.not_mem_nil)⟩
    · exact ⟨hz, hP⟩
  have h := both (z_X12_restore (x1 := x1) (Q := fun r m' => Ok m' ∧ E12s x1 m r m') hO (fun r m' O => O)) (q_restore (x1 := x1) (Q := fun _ m' => Zb H (aRes S P J x1 (bt (m0.1 51 4) x1.toNatClampNeg)).1 (aRes S P J x1 (bt (m0.1 51 4) x1.toNatClampNeg)).2 J H (aRes S P J x1 (bt (m0.1 51 4) x1.toNatClampNeg)).1 (aRes S P J x1 (bt (m0.1 51 4) x1.toNatClampNeg)).2 J s m') hr hh (fun r m' q k => ⟨hk.rc q, k⟩)) (fun r m1 m2 q z => z.sm q)
  refine Wp.deep (h.mono (fun v m1 ⟨r, er, ⟨O1, k1⟩, z⟩ => ?_)) (Nat.le_of_ble_eq_true rfl)
  have j := j_restore hT E k1
  exact ⟨r, er, ⟨O1, ⟨j.1, (hL.kp E.1).kp k1.1⟩, H, _, _, J, s, hb, ok.1, ok.2, hJ, z⟩, j.2⟩
/-- read -/
def Mr (m : dM) (r : Int32) (m' : dM) : Prop := Ok m' ∧ E11r m r m' ∧ (Rq m ∧ Tl m) ∧ ∃ (H : Ho) (S : Zt) (P : List Zt) (J : Nat → Zt) (s : Nat), hBo H ∧ zOk H S ∧ (∀ T : Zt, T ∈ P → zOk H T) ∧ (∀ i : Nat, zOk H (J i)) ∧ RdK (bT m 1 (m.1 0 1).toInt) (m.1 0 1).toInt.toNat H S P J m' ∧ KR H S P J s m'
theorem RdK.sm {B : Nat → Int32} {n : Nat} {H : Ho} {S : Zt} {P : List Zt} {J : Nat → Zt} {m1 m2 : dM} (h : RdK B n H S P J m2) (q : Sm m1 m2) : RdK B n H S P J m1 := ⟨fun z => by obtain ⟨R, a, b⟩ := h.1 z; exact ⟨R, a, b.sm q⟩, fun z => (h.2 z).sm q⟩
theorem RdK.rc {B : Nat → Int32} {n : Nat} {H : Ho} {S : Zt} {P : List Zt} {J : Nat → Zt} {m1 m2 : dM} (h : RdK B n H S P J m1) (q : RcF m1 m2) : RdK B n H S P J m2 := ⟨fun z => by obtain ⟨R, a, b⟩ := h.1 z; exact ⟨R, a, b.rc q⟩, fun z => (h.2 z).rc q⟩
theorem RdQ.sm {K : Nat → Int} {V : Nat → Int64} {L s : Nat} {H : Ho} {S : Zt} {P : List Zt} {J : Nat → Zt} {m1 m2 : dM} (h : RdQ K V L s H S P J m2) (q : Sm m1 m2) : RdQ K V L s H S P J m1 := ⟨fun z R J' hR => (h.1 z R J' hR).sm q, fun z => (h.2 z).sm q⟩
theorem w1_read (hB : Bt m) : c_X11_read_0 600 m (fun r m' => Mr m r m') := by
  obtain ⟨hO, ⟨hT, hL⟩, H, S, P, J, s, hb, hz, hP, hJ, hk, hr⟩ := hB
  have b := hO.s (k := 0) (j := 1) rfl
  have hn : (m.1 0 1).toInt = ((m.1 0 1).toInt.toNat : Int) := by omega
  have hGL : GL m := ⟨hO.w (k := 29) (j := 1) rfl, fun j => hO.w (k := 36) (j := j) rfl⟩
  have h := both (z_X11_read (Q := fun r m' => Ok m' ∧ E11r m r m') hO (fun r m' O => O)) (p_read (B := bT m 1 (m.1 0 1).toInt) (n := (m.1 0 1).toInt.toNat) (Q := fun _ m' => RdK (bT m 1 (m.1 0 1).toInt) (m.1 0 1).toInt.toNat H S P J m' ∧ KR H S P J s m') hGL hk hn (by omega) (fun i => by
    unfold bT
    by_cases q : (i : Int) < (m.1 0 1).toInt
    · rw [if_pos q, if_pos (by omega)]
    · rw [if_neg q, if_neg (by omega)]) (fun r m' d k => ⟨k, hr.fr (fun k hk => d.1 k (by omega)) (by rw [d.1 70 (by omega)]) (by rw [d.1 70 (by omega)])⟩)) (fun r m1 m2 q z => ⟨z.1.sm q, z.2.sm q⟩)
  exact Wp.deep (h.mono (fun v m1 ⟨r, er, ⟨O1, k1⟩, z⟩ => ⟨r, er, O1, k1, ⟨hT, hL⟩, H, S, P, J, s, hb, hz, hP, hJ, z⟩)) (Nat.le_of_ble_eq_true rfl)
theorem w2_read {r1 : Int32} {m0 : dM} (hM : Mr m0 r1 m) : c_X12_read_70 600 m (fun r m' => Bt m' ∧ r1 = r) := by
  obtain ⟨hO, E, ⟨hT, hL⟩, H, S, P, J, s, hb, hz, hP, hJ, hk, hr⟩ := hM
  obtain ⟨e, hb'⟩ := hT.1
  have hE := E
  unfold E11r at hE
  have a2 : m.1 70 2 = m0.1 70 2 := hE.2.1 2 (by decide)
  have eB : bT m 71 (m.1 70 2).toInt = bT m0 1 (m0.1 0 1).toInt := by
    funext i
    unfold bT
    rw [a2, hE.1 71 (by decide), ← e]
    by_cases q : (i : Int) < (m0.1 0 1).toInt
    · rw [if_pos q, if_pos q]; exact (hb' i q).symm
    · rw [if_neg q, if_neg q]
  have b := hO.s (k := 70) (j := 2) rfl
  have en : (m.1 70 2).toInt = (m0.1 0 1).toInt := by rw [a2, ← e]
  have h18 : (m.1 70 18).toInt = (s : Int) ∧ s ≤ 1 := hr.1.2.1.1
  have hg : ∀ k : Nat, k < 4 → gLw m.1 s (m.1 95 (4 * s + k)).toInt (m.1 96 (4 * s + k)).toInt := fun k hk4 => by
    have g := hO.1.2.2.2.2 k hk4
    have eL : gL m.1 = s := by unfold gL; omega
    rw [eL] at g
    exact g
  have h := both (z_X12_read (Q := fun r m' => Ok m' ∧ E12r m r m') hO (fun r m' O => O)) (x_read (L := s) (s := 1 - s) (B := bT m0 1 (m0.1 0 1).toInt) (n := (m0.1 0 1).toInt.toNat) (Q := fun _ m' => RdK (bT m0 1 (m0.1 0 1).toInt) (m0.1 0 1).toInt.toNat H S P J m' ∧ RdQ (tK (bT m0 1 (m0.1 0 1).toInt) (m0.1 0 1).toInt.toNat) (tV (bT m0 1 (m0.1 0 1).toInt) (m0.1 0 1).toInt.toNat) s (1 - s) H S P J m') (fun i h => tV9 h) (by omega) h18.1 (by omega) (by omega) (fun i => by
    rw [← eB]
    unfold bT
    by_cases q : (i : Int) < (m.1 70 2).toInt
    · rw [if_pos q, if_pos (by omega)]
    · rw [if_neg q, if_neg (by omega)]) hr hg (fun r m' d k => ⟨hk.rc d, k⟩)) (fun r m1 m2 q z => ⟨z.1.sm q, z.2.sm q⟩)
  refine Wp.deep (h.mono (fun v m1 ⟨r, er, ⟨O1, k1⟩, z1, z2⟩ => ?_)) (Nat.le_of_ble_eq_true rfl)
  have j := j_read hT E k1
  have t1 : Tl m := hL.of (hE.1 68 (by decide)) (hE.1 69 (by decide)) (hE.1 112 (by decide)) (hE.1 113 (by decide)) (hE.2.1 63 (by decide))
  have t2 : Tl m1 := by
    have k1' := k1
    unfold E12r at k1'
    by_cases q : (rdR (tK (bT m 71 (m.1 70 2).toInt) (m.1 70 2).toInt.toNat) (tV (bT m 71 (m.1 70 2).toInt) (m.1 70 2).toInt.toNat)).1.1 = 0
    · exact Tl.z (k1'.2.2.2.2.1 q).2.1
    · have y := k1'.2.2.2.2.2 q
      exact t1.of y.2.2.2.2.2.1 y.2.2.2.2.2.2 y.2.2.2.1 y.2.2.2.2.1 y.2.1
  refine ⟨r, er, ⟨O1, ⟨j.1, t2⟩, ?_⟩, j.2⟩
  by_cases q : (rdR (tK (bT m0 1 (m0.1 0 1).toInt) (m0.1 0 1).toInt.toNat) (tV (bT m0 1 (m0.1 0 1).toInt) (m0.1 0 1).toInt.toNat)).1.1 = 0
  · obtain ⟨R, hR, kc⟩ := z1.1 q
    have k51 : m1.1 51 4 = 0 := by
      have k1' := k1
      unfold E12r at k1'
      rw [k1'.1.2.2.2.1]
      exact (hE.2.2.2.2.2.1 q).2.1
    have kr := z2.1 q R (fun _ => sz0 (rdH (bT m0 1 (m0.1 0 1).toInt) (m0.1 0 1).toInt.toNat) R) hR
    have hM := MI_rd q
    have h8 := kc.1.1.2.2.1
    have hz' := sz0_ok (Ds := rdL (bT m0 1 (m0.1 0 1).toInt) (m0.1 0 1).toInt.toNat) hM h8 hR
    exact ⟨rdH (bT m0 1 (m0.1 0 1).toInt) (m0.1 0 1).toInt.toNat, sz0 (rdH (bT m0 1 (m0.1 0 1).toInt) (m0.1 0 1).toInt.toNat) R, [], fun _ => sz0 (rdH (bT m0 1 (m0.1 0 1).toInt) (m0.1 0 1).toInt.toNat) R, 1 - s, hoX_b hM, hz', fun T hT => absurd hT (List.not_mem_nil), fun _ => hz', ⟨kc.1, kc.2.1, kc.2.2.1, fun i hi => by rw [k51, bt_0], fun i hi hb => by rw [k51, bt_0] at hb; cases hb⟩, kr⟩
  · exact ⟨H, S, P, J, s, hb, hz, hP, hJ, z1.2 q, z2.2 q⟩
end BTC
