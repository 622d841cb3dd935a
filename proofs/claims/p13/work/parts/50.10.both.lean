section
/-! BOTH, CALL BY CALL -/
def Bt (m : dM) : Prop := Ok m ∧ Rq m ∧ Fr m
/-- behind the class's call: it has moved, the reference not yet -/
def Md (f : Ho → Zt → List Zt → An) (r : Int32) (m : dM) : Prop := Ok m ∧ Rq m ∧ ∃ (H : Ho) (S : Zt) (P : List Zt) (J : Nat → Zt) (s : Nat), hBo H ∧ zOk H S ∧ (∀ T : Zt, T ∈ P → zOk H T) ∧ (∀ i : Nat, zOk H (J i)) ∧ Zb H (f H S P).2.1 (f H S P).2.2 J H S P J s m ∧ r = (f H S P).1
def fOk (f : Ho → Zt → List Zt → An) : Prop := ∀ (H : Ho) (S : Zt) (P : List Zt), hOk H → zOk H S → (∀ T : Zt, T ∈ P → zOk H T) → zOk H (f H S P).2.1 ∧ ∀ T : Zt, T ∈ (f H S P).2.2 → zOk H T
section BTC
variable {m : dM} {x1 x2 x3 : Int32}
theorem pKeep_ok {H : Ho} {S : Zt} {P : List Zt} (h : zOk H S) (hP : ∀ T : Zt, T ∈ P → zOk H T) : ∀ T : Zt, T ∈ pKeep S P → zOk H T := fun T hT => by
  unfold pKeep at hT
  have := List.mem_of_mem_take hT
  rcases List.mem_cons.mp this with e | e
  · rw [e]; exact h
  · exact hP T e
theorem fk_agr : fOk (fun H S P => aAgr H S P x1 x2) := fun H S P hO h hP => by
  refine ⟨h.agr hO, ?_⟩
  show ∀ T : Zt, T ∈ (aAgr H S P x1 x2).2.2 → zOk H T
  unfold aAgr
  split
  · exact pKeep_ok h hP
  · exact hP
theorem fk_pin : fOk (fun H S P => aPin H S P x1 x2) := fun H S P hO h hP => by
  refine ⟨h.pin hO, ?_⟩
  show ∀ T : Zt, T ∈ (aPin H S P x1 x2).2.2 → zOk H T
  unfold aPin
  split
  · exact pKeep_ok h hP
  · exact hP
theorem fk_mnd : fOk (fun H S P => aMnd H S P x1) := fun H S P hO h hP => by
  refine ⟨h.mnd, ?_⟩
  show ∀ T : Zt, T ∈ (aMnd H S P x1).2.2 → zOk H T
  unfold aMnd
  split
  · split
    · exact pKeep_ok h hP
    · exact hP
  · exact hP
theorem fk_thk : fOk (fun H S P => aThk H S P x1) := fun H S P hO h hP => by
  refine ⟨h.thk, ?_⟩
  show ∀ T : Zt, T ∈ (aThk H S P x1).2.2 → zOk H T
  unfold aThk
  split
  · split
    · exact pKeep_ok h hP
    · exact hP
  · exact hP
theorem fk_hrs : fOk (fun H S P => aHrs H S P x1) := fun H S P hO h hP => by
  refine ⟨h.hrs hO, ?_⟩
  show ∀ T : Zt, T ∈ (aHrs H S P x1).2.2 → zOk H T
  unfold aHrs
  split
  · split
    · exact hP
    · exact pKeep_ok h hP
  · exact hP
theorem fk_und : fOk (fun _ S P => aUnd S P) := fun H S P hO h hP => by
  cases P with
  | nil => exact ⟨h, fun T hT => absurd hT (List.not_mem_nil)⟩
  | cons T P' => exact ⟨hP T (List.mem_cons_self ..), fun T' hT => hP T' (List.mem_cons_of_mem _ hT)⟩
theorem w1_use (hB : Bt m) : c_X11_use_0 600 x1 x2 m (fun _ m' => Bt m') := by
  obtain ⟨hO, hT, H, S, P, J, s, hb, hz, hP, hJ, hk, hr⟩ := hB
  have h := both (a_X11_use (x1 := x1) (x2 := x2) (Q := fun _ m' => Ok m' ∧ Kp m m') hO (fun r m' O => O)) (k_use (x1 := x1) (x2 := x2) (Q := fun _ m' => Zb H S P J H S P J s m') hk hz (fun r m' q => ⟨q.2, hr.cc q.1⟩)) (fun r m1 m2 q z => z.sm q)
  exact h.mono (fun v m1 ⟨r, er, ⟨O1, k1⟩, z⟩ => ⟨r, er, O1, hT.kp k1, H, S, P, J, s, hb, hz, hP, hJ, z⟩)
theorem w2_use (hB : Bt m) : c_X12_use_70 600 x1 x2 m (fun _ m' => Bt m') := by
  obtain ⟨hO, hT, H, S, P, J, s, hb, hz, hP, hJ, hk, hr⟩ := hB
  have h := both (a_X12_use (x1 := x1) (x2 := x2) (Q := fun _ m' => Ok m' ∧ Kp m m') hO (fun r m' O => O)) (r_use (x1 := x1) (x2 := x2) (Q := fun _ m' => Zb H S P J H S P J s m') hr (fun r m' q => ⟨hk.rc q.rc, hr.rs q⟩)) (fun r m1 m2 q z => z.sm q)
  exact h.mono (fun v m1 ⟨r, er, ⟨O1, k1⟩, z⟩ => ⟨r, er, O1, hT.kp k1, H, S, P, J, s, hb, hz, hP, hJ, z⟩)
theorem w1_went (hB : Bt m) : c_X11_went_0 600 x1 x2 m (fun _ m' => Bt m') := by
  obtain ⟨hO, hT, H, S, P, J, s, hb, hz, hP, hJ, hk, hr⟩ := hB
  have h := both (a_X11_went (x1 := x1) (x2 := x2) (Q := fun _ m' => Ok m' ∧ Kp m m') hO (fun r m' O => O)) (k_went (x1 := x1) (x2 := x2) (Q := fun _ m' => Zb H S P J H S P J s m') hk (hO.s (k := 67) (j := 3) rfl).2 (fun r m' q => ⟨q.2, hr.cc q.1⟩)) (fun r m1 m2 q z => z.sm q)
  exact h.mono (fun v m1 ⟨r, er, ⟨O1, k1⟩, z⟩ => ⟨r, er, O1, hT.kp k1, H, S, P, J, s, hb, hz, hP, hJ, z⟩)
theorem w2_went (hB : Bt m) : c_X12_went_70 600 x1 x2 m (fun _ m' => Bt m') := by
  obtain ⟨hO, hT, H, S, P, J, s, hb, hz, hP, hJ, hk, hr⟩ := hB
  have h := both (a_X12_went (x1 := x1) (x2 := x2) (Q := fun _ m' => Ok m' ∧ Kp m m') hO (fun r m' O => O)) (r_went (x1 := x1) (x2 := x2) (Q := fun _ m' => Zb H S P J H S P J s m') hr (hO.s (k := 70) (j := 63) rfl).2 (fun r m' q => ⟨hk.rc q.rc, hr.rs q⟩)) (fun r m1 m2 q z => z.sm q)
  exact h.mono (fun v m1 ⟨r, er, ⟨O1, k1⟩, z⟩ => ⟨r, er, O1, hT.kp k1, H, S, P, J, s, hb, hz, hP, hJ, z⟩)
theorem w1_ask (hB : Bt m) : c_X11_ask_0 600 x1 m (fun _ m' => Bt m') := by
  obtain ⟨hO, hT, H, S, P, J, s, hb, hz, hP, hJ, hk, hr⟩ := hB
  have h := both (a_X11_ask (x1 := x1) (Q := fun _ m' => Ok m' ∧ Kp m m') hO (fun r m' O => O)) (k_ask (x1 := x1) (Q := fun _ m' => Zb H S P J H S P J s m') hk (hO.s (k := 67) (j := 3) rfl).2 (fun r m' q => ⟨q.2, hr.cc q.1⟩)) (fun r m1 m2 q z => z.sm q)
  exact h.mono (fun v m1 ⟨r, er, ⟨O1, k1⟩, z⟩ => ⟨r, er, O1, hT.kp k1, H, S, P, J, s, hb, hz, hP, hJ, z⟩)
theorem w2_ask (hB : Bt m) : c_X12_ask_70 600 x1 m (fun _ m' => Bt m') := by
  obtain ⟨hO, hT, H, S, P, J, s, hb, hz, hP, hJ, hk, hr⟩ := hB
  have h := both (a_X12_ask (x1 := x1) (Q := fun _ m' => Ok m' ∧ Kp m m') hO (fun r m' O => O)) (r_ask (x1 := x1) (Q := fun _ m' => Zb H S P J H S P J s m') hr (hO.s (k := 70) (j := 63) rfl).2 (fun r m' q => ⟨hk.rc q.rc, hr.rs q⟩)) (fun r m1 m2 q z => z.sm q)
  exact h.mono (fun v m1 ⟨r, er, ⟨O1, k1⟩, z⟩ => ⟨r, er, O1, hT.kp k1, H, S, P, J, s, hb, hz, hP, hJ, z⟩)
theorem w1_flat (hB : Bt m) : c_X11_flat_0 600 x1 x2 m (fun r m' => Md (fun H S P => (aFlt H S x1 x2, S, P)) r m') := by
  obtain ⟨hO, hT, H, S, P, J, s, hb, hz, hP, hJ, hk, hr⟩ := hB
  have h := both (a_X11_flat (x1 := x1) (x2 := x2) (Q := fun _ m' => Ok m' ∧ Kp m m') hO (fun r m' O => O)) (ea_flat (x1 := x1) (x2 := x2) (Q := fun r m' => Zb H S P J H S P J s m' ∧ r = aFlt H S x1 x2) hk hz (fun m' q => ⟨⟨q.2, hr.cc q.1⟩, rfl⟩)) (fun r m1 m2 q z => ⟨z.1.sm q, z.2⟩)
  exact h.mono (fun v m1 ⟨r, er, ⟨O1, k1⟩, z, e⟩ => ⟨r, er, O1, hT.kp k1, H, S, P, J, s, hb, hz, hP, hJ, z, e⟩)
theorem w2_flat {r1 : Int32} (hB : Md (fun H S P => (aFlt H S x1 x2, S, P)) r1 m) : c_X12_flat_70 600 x1 x2 m (fun r m' => Bt m' ∧ r1 = r) := by
  obtain ⟨hO, hT, H, S, P, J, s, hb, hz, hP, hJ, ⟨hk, hr⟩, e1⟩ := hB
  have hk : KC H S P J m := hk
  have h := both (a_X12_flat (x1 := x1) (x2 := x2) (Q := fun _ m' => Ok m' ∧ Kp m m') hO (fun r m' O => O)) (eb_flat (x1 := x1) (x2 := x2) (Q := fun r m' => Zb H S P J H S P J s m' ∧ r = aFlt H S x1 x2) hr (fun m' q => ⟨⟨hk.rc q.rc, hr.rs q⟩, rfl⟩)) (fun r m1 m2 q z => ⟨z.1.sm q, z.2⟩)
  exact h.mono (fun v m1 ⟨r, er, ⟨O1, k1⟩, z, e⟩ => ⟨r, er, ⟨O1, hT.kp k1, H, S, P, J, s, hb, hz, hP, hJ, z⟩, e1.trans e.symm⟩)
theorem w1_wire (hB : Bt m) : c_X11_wire_0 600 x1 x2 m (fun r m' => Md (fun H S P => (aWir H S x1 x2, S, P)) r m') := by
  obtain ⟨hO, hT, H, S, P, J, s, hb, hz, hP, hJ, hk, hr⟩ := hB
  have h := both (a_X11_wire (x1 := x1) (x2 := x2) (Q := fun _ m' => Ok m' ∧ Kp m m') hO (fun r m' O => O)) (ea_wire (x1 := x1) (x2 := x2) (Q := fun r m' => Zb H S P J H S P J s m' ∧ r = aWir H S x1 x2) hk hz (fun m' q => ⟨⟨q.2, hr.cc q.1⟩, rfl⟩)) (fun r m1 m2 q z => ⟨z.1.sm q, z.2⟩)
  exact h.mono (fun v m1 ⟨r, er, ⟨O1, k1⟩, z, e⟩ => ⟨r, er, O1, hT.kp k1, H, S, P, J, s, hb, hz, hP, hJ, z, e⟩)
theorem w2_wire {r1 : Int32} (hB : Md (fun H S P => (aWir H S x1 x2, S, P)) r1 m) : c_X12_wire_70 600 x1 x2 m (fun r m' => Bt m' ∧ r1 = r) := by
  obtain ⟨hO, hT, H, S, P, J, s, hb, hz, hP, hJ, ⟨hk, hr⟩, e1⟩ := hB
  have hk : KC H S P J m := hk
  have h := both (a_X12_wire (x1 := x1) (x2 := x2) (Q := fun _ m' => Ok m' ∧ Kp m m') hO (fun r m' O => O)) (eb_wire (x1 := x1) (x2 := x2) (Q := fun r m' => Zb H S P J H S P J s m' ∧ r = aWir H S x1 x2) hr (fun m' q => ⟨⟨hk.rc q.rc, hr.rs q⟩, rfl⟩)) (fun r m1 m2 q z => ⟨z.1.sm q, z.2⟩)
  exact h.mono (fun v m1 ⟨r, er, ⟨O1, k1⟩, z, e⟩ => ⟨r, er, ⟨O1, hT.kp k1, H, S, P, J, s, hb, hz, hP, hJ, z⟩, e1.trans e.symm⟩)
theorem w1_way (hB : Bt m) : c_X11_way_0 600 x1 x2 m (fun r m' => Md (fun H S P => (aWay H S x1 x2, S, P)) r m') := by
  obtain ⟨hO, hT, H, S, P, J, s, hb, hz, hP, hJ, hk, hr⟩ := hB
  have h := both (a_X11_way (x1 := x1) (x2 := x2) (Q := fun _ m' => Ok m' ∧ Kp m m') hO (fun r m' O => O)) (ea_way (x1 := x1) (x2 := x2) (Q := fun r m' => Zb H S P J H S P J s m' ∧ r = aWay H S x1 x2) hk hz (fun m' q => ⟨⟨q.2, hr.cc q.1⟩, rfl⟩)) (fun r m1 m2 q z => ⟨z.1.sm q, z.2⟩)
  exact h.mono (fun v m1 ⟨r, er, ⟨O1, k1⟩, z, e⟩ => ⟨r, er, O1, hT.kp k1, H, S, P, J, s, hb, hz, hP, hJ, z, e⟩)
theorem w2_way {r1 : Int32} (hB : Md (fun H S P => (aWay H S x1 x2, S, P)) r1 m) : c_X12_way_70 600 x1 x2 m (fun r m' => Bt m' ∧ r1 = r) := by
  obtain ⟨hO, hT, H, S, P, J, s, hb, hz, hP, hJ, ⟨hk, hr⟩, e1⟩ := hB
  have hk : KC H S P J m := hk
  have h := both (a_X12_way (x1 := x1) (x2 := x2) (Q := fun _ m' => Ok m' ∧ Kp m m') hO (fun r m' O => O)) (eb_way (x1 := x1) (x2 := x2) (Q := fun r m' => Zb H S P J H S P J s m' ∧ r = aWay H S x1 x2) hr (fun m' q => ⟨⟨hk.rc q.rc, hr.rs q⟩, rfl⟩)) (fun r m1 m2 q z => ⟨z.1.sm q, z.2⟩)
  exact h.mono (fun v m1 ⟨r, er, ⟨O1, k1⟩, z, e⟩ => ⟨r, er, ⟨O1, hT.kp k1, H, S, P, J, s, hb, hz, hP, hJ, z⟩, e1.trans e.symm⟩)
theorem w1_peak (hB : Bt m) : c_X11_peak_0 600 x1 x2 x3 m (fun r m' => Md (fun H S P => (aPk H S x1 x2 x3, S, P)) r m') := by
  obtain ⟨hO, hT, H, S, P, J, s, hb, hz, hP, hJ, hk, hr⟩ := hB
  have h := both (a_X11_peak (x1 := x1) (x2 := x2) (x3 := x3) (Q := fun _ m' => Ok m' ∧ Kp m m') hO (fun r m' O => O)) (ea_peak (x1 := x1) (x2 := x2) (x3 := x3) (Q := fun r m' => Zb H S P J H S P J s m' ∧ r = aPk H S x1 x2 x3) hk hz (fun m' q => ⟨⟨q.2, hr.cc q.1⟩, rfl⟩)) (fun r m1 m2 q z => ⟨z.1.sm q, z.2⟩)
  exact h.mono (fun v m1 ⟨r, er, ⟨O1, k1⟩, z, e⟩ => ⟨r, er, O1, hT.kp k1, H, S, P, J, s, hb, hz, hP, hJ, z, e⟩)
theorem w2_peak {r1 : Int32} (hB : Md (fun H S P => (aPk H S x1 x2 x3, S, P)) r1 m) : c_X12_peak_70 600 x1 x2 x3 m (fun r m' => Bt m' ∧ r1 = r) := by
  obtain ⟨hO, hT, H, S, P, J, s, hb, hz, hP, hJ, ⟨hk, hr⟩, e1⟩ := hB
  have hk : KC H S P J m := hk
  have h := both (a_X12_peak (x1 := x1) (x2 := x2) (x3 := x3) (Q := fun _ m' => Ok m' ∧ Kp m m') hO (fun r m' O => O)) (eb_peak (x1 := x1) (x2 := x2) (x3 := x3) (Q := fun r m' => Zb H S P J H S P J s m' ∧ r = aPk H S x1 x2 x3) hr hz (fun m' q => ⟨⟨hk.rc q.rc, hr.rs q⟩, rfl⟩)) (fun r m1 m2 q z => ⟨z.1.sm q, z.2⟩)
  exact h.mono (fun v m1 ⟨r, er, ⟨O1, k1⟩, z, e⟩ => ⟨r, er, ⟨O1, hT.kp k1, H, S, P, J, s, hb, hz, hP, hJ, z⟩, e1.trans e.symm⟩)
theorem w1_first (hB : Bt m) : c_X11_first_0 600 x1 m (fun r m' => Md (fun H S P => (aFst H S x1, S, P)) r m') := by
  obtain ⟨hO, hT, H, S, P, J, s, hb, hz, hP, hJ, hk, hr⟩ := hB
  have h := both (a_X11_first (x1 := x1) (Q := fun _ m' => Ok m' ∧ Kp m m') hO (fun r m' O => O)) (ea_first (x1 := x1) (Q := fun r m' => Zb H S P J H S P J s m' ∧ r = aFst H S x1) hk hz (fun m' q => ⟨⟨q.2, hr.cc q.1⟩, rfl⟩)) (fun r m1 m2 q z => ⟨z.1.sm q, z.2⟩)
  exact h.mono (fun v m1 ⟨r, er, ⟨O1, k1⟩, z, e⟩ => ⟨r, er, O1, hT.kp k1, H, S, P, J, s, hb, hz, hP, hJ, z, e⟩)
theorem w2_first {r1 : Int32} (hB : Md (fun H S P => (aFst H S x1, S, P)) r1 m) : c_X12_first_70 600 x1 m (fun r m' => Bt m' ∧ r1 = r) := by
  obtain ⟨hO, hT, H, S, P, J, s, hb, hz, hP, hJ, ⟨hk, hr⟩, e1⟩ := hB
  have hk : KC H S P J m := hk
  have h := both (a_X12_first (x1 := x1) (Q := fun _ m' => Ok m' ∧ Kp m m') hO (fun r m' O => O)) (eb_first (x1 := x1) (Q := fun r m' => Zb H S P J H S P J s m' ∧ r = aFst H S x1) hr hz (fun m' q => ⟨⟨hk.rc q.rc, hr.rs q⟩, rfl⟩)) (fun r m1 m2 q z => ⟨z.1.sm q, z.2⟩)
  exact h.mono (fun v m1 ⟨r, er, ⟨O1, k1⟩, z, e⟩ => ⟨r, er, ⟨O1, hT.kp k1, H, S, P, J, s, hb, hz, hP, hJ, z⟩, e1.trans e.symm⟩)
theorem w1_together (hB : Bt m) : c_X11_together_0 600 x1 m (fun r m' => Md (fun H S P => (aTg H S x1, S, P)) r m') := by
  obtain ⟨hO, hT, H, S, P, J, s, hb, hz, hP, hJ, hk, hr⟩ := hB
  have h := both (a_X11_together (x1 := x1) (Q := fun _ m' => Ok m' ∧ Kp m m') hO (fun r m' O => O)) (ea_together (x1 := x1) (Q := fun r m' => Zb H S P J H S P J s m' ∧ r = aTg H S x1) hk hz (fun m' q => ⟨⟨q.2, hr.cc q.1⟩, rfl⟩)) (fun r m1 m2 q z => ⟨z.1.sm q, z.2⟩)
  exact h.mono (fun v m1 ⟨r, er, ⟨O1, k1⟩, z, e⟩ => ⟨r, er, O1, hT.kp k1, H, S, P, J, s, hb, hz, hP, hJ, z, e⟩)
theorem w2_together {r1 : Int32} (hB : Md (fun H S P => (aTg H S x1, S, P)) r1 m) : c_X12_together_70 600 x1 m (fun r m' => Bt m' ∧ r1 = r) := by
  obtain ⟨hO, hT, H, S, P, J, s, hb, hz, hP, hJ, ⟨hk, hr⟩, e1⟩ := hB
  have hk : KC H S P J m := hk
  have h := both (a_X12_together (x1 := x1) (Q := fun _ m' => Ok m' ∧ Kp m m') hO (fun r m' O => O)) (eb_together (x1 := x1) (Q := fun r m' => Zb H S P J H S P J s m' ∧ r = aTg H S x1) hr (fun m' q => ⟨⟨hk.rc q.rc, hr.rs q⟩, rfl⟩)) (fun r m1 m2 q z => ⟨z.1.sm q, z.2⟩)
  exact h.mono (fun v m1 ⟨r, er, ⟨O1, k1⟩, z, e⟩ => ⟨r, er, ⟨O1, hT.kp k1, H, S, P, J, s, hb, hz, hP, hJ, z⟩, e1.trans e.symm⟩)
theorem w1_when (hB : Bt m) : c_X11_when_0 600 x1 m (fun r m' => Md (fun H S P => (aWn H S x1, S, P)) r m') := by
  obtain ⟨hO, hT, H, S, P, J, s, hb, hz, hP, hJ, hk, hr⟩ := hB
  have h := both (a_X11_when (x1 := x1) (Q := fun _ m' => Ok m' ∧ Kp m m') hO (fun r m' O => O)) (ea_when (x1 := x1) (Q := fun r m' => Zb H S P J H S P J s m' ∧ r = aWn H S x1) hk hz hb (fun m' q => ⟨⟨q.2, hr.cc q.1⟩, rfl⟩)) (fun r m1 m2 q z => ⟨z.1.sm q, z.2⟩)
  exact h.mono (fun v m1 ⟨r, er, ⟨O1, k1⟩, z, e⟩ => ⟨r, er, O1, hT.kp k1, H, S, P, J, s, hb, hz, hP, hJ, z, e⟩)
theorem w2_when {r1 : Int32} (hB : Md (fun H S P => (aWn H S x1, S, P)) r1 m) : c_X12_when_70 600 x1 m (fun r m' => Bt m' ∧ r1 = r) := by
  obtain ⟨hO, hT, H, S, P, J, s, hb, hz, hP, hJ, ⟨hk, hr⟩, e1⟩ := hB
  have hk : KC H S P J m := hk
  have h := both (a_X12_when (x1 := x1) (Q := fun _ m' => Ok m' ∧ Kp m m') hO (fun r m' O => O)) (eb_when (x1 := x1) (Q := fun r m' => Zb H S P J H S P J s m' ∧ r = aWn H S x1) hr hb (fun m' q => ⟨⟨hk.rc q.rc, hr.rs q⟩, rfl⟩)) (fun r m1 m2 q z => ⟨z.1.sm q, z.2⟩)
  exact h.mono (fun v m1 ⟨r, er, ⟨O1, k1⟩, z, e⟩ => ⟨r, er, ⟨O1, hT.kp k1, H, S, P, J, s, hb, hz, hP, hJ, z⟩, e1.trans e.symm⟩)
theorem w1_thick (hB : Bt m) : c_X11_thick_0 600 x1 m (fun r m' => Md (fun H S P => (aTck H S x1, S, P)) r m') := by
  obtain ⟨hO, hT, H, S, P, J, s, hb, hz, hP, hJ, hk, hr⟩ := hB
  have h := both (a_X11_thick (x1 := x1) (Q := fun _ m' => Ok m' ∧ Kp m m') hO (fun r m' O => O)) (ea_thick (x1 := x1) (Q := fun r m' => Zb H S P J H S P J s m' ∧ r = aTck H S x1) hk hz (fun m' q => ⟨⟨q.2, hr.cc q.1⟩, rfl⟩)) (fun r m1 m2 q z => ⟨z.1.sm q, z.2⟩)
  exact h.mono (fun v m1 ⟨r, er, ⟨O1, k1⟩, z, e⟩ => ⟨r, er, O1, hT.kp k1, H, S, P, J, s, hb, hz, hP, hJ, z, e⟩)
theorem w2_thick {r1 : Int32} (hB : Md (fun H S P => (aTck H S x1, S, P)) r1 m) : c_X12_thick_70 600 x1 m (fun r m' => Bt m' ∧ r1 = r) := by
  obtain ⟨hO, hT, H, S, P, J, s, hb, hz, hP, hJ, ⟨hk, hr⟩, e1⟩ := hB
  have hk : KC H S P J m := hk
  have h := both (a_X12_thick (x1 := x1) (Q := fun _ m' => Ok m' ∧ Kp m m') hO (fun r m' O => O)) (eb_thick (x1 := x1) (Q := fun r m' => Zb H S P J H S P J s m' ∧ r = aTck H S x1) hr hz (fun m' q => ⟨⟨hk.rc q.rc, hr.rs q⟩, rfl⟩)) (fun r m1 m2 q z => ⟨z.1.sm q, z.2⟩)
  exact h.mono (fun v m1 ⟨r, er, ⟨O1, k1⟩, z, e⟩ => ⟨r, er, ⟨O1, hT.kp k1, H, S, P, J, s, hb, hz, hP, hJ, z⟩, e1.trans e.symm⟩)
theorem w1_cut (hB : Bt m) : c_X11_cut_0 600 x1 x2 m (fun r m' => Md (fun H S P => (aCt H S x1 x2, S, P)) r m') := by
  obtain ⟨hO, hT, H, S, P, J, s, hb, hz, hP, hJ, hk, hr⟩ := hB
  have h := both (a_X11_cut (x1 := x1) (x2 := x2) (Q := fun _ m' => Ok m' ∧ Kp m m') hO (fun r m' O => O)) (ea_cut (x1 := x1) (x2 := x2) (Q := fun r m' => Zb H S P J H S P J s m' ∧ r = aCt H S x1 x2) hk (fun m' q => ⟨⟨q.2, hr.cc q.1⟩, rfl⟩)) (fun r m1 m2 q z => ⟨z.1.sm q, z.2⟩)
  exact h.mono (fun v m1 ⟨r, er, ⟨O1, k1⟩, z, e⟩ => ⟨r, er, O1, hT.kp k1, H, S, P, J, s, hb, hz, hP, hJ, z, e⟩)
theorem w2_cut {r1 : Int32} (hB : Md (fun H S P => (aCt H S x1 x2, S, P)) r1 m) : c_X12_cut_70 600 x1 x2 m (fun r m' => Bt m' ∧ r1 = r) := by
  obtain ⟨hO, hT, H, S, P, J, s, hb, hz, hP, hJ, ⟨hk, hr⟩, e1⟩ := hB
  have hk : KC H S P J m := hk
  have h := both (a_X12_cut (x1 := x1) (x2 := x2) (Q := fun _ m' => Ok m' ∧ Kp m m') hO (fun r m' O => O)) (eb_cut (x1 := x1) (x2 := x2) (Q := fun r m' => Zb H S P J H S P J s m' ∧ r = aCt H S x1 x2) hr hz (fun m' q => ⟨⟨hk.rc q.rc, hr.rs q⟩, rfl⟩)) (fun r m1 m2 q z => ⟨z.1.sm q, z.2⟩)
  exact h.mono (fun v m1 ⟨r, er, ⟨O1, k1⟩, z, e⟩ => ⟨r, er, ⟨O1, hT.kp k1, H, S, P, J, s, hb, hz, hP, hJ, z⟩, e1.trans e.symm⟩)
theorem w1_share (hB : Bt m) : c_X11_share_0 600 x1 x2 m (fun r m' => Md (fun H S P => (aShr H S x1 x2, S, P)) r m') := by
  obtain ⟨hO, hT, H, S, P, J, s, hb, hz, hP, hJ, hk, hr⟩ := hB
  have h := both (a_X11_share (x1 := x1) (x2 := x2) (Q := fun _ m' => Ok m' ∧ Kp m m') hO (fun r m' O => O)) (ea_share (x1 := x1) (x2 := x2) (Q := fun r m' => Zb H S P J H S P J s m' ∧ r = aShr H S x1 x2) hk hz (fun m' q => ⟨⟨q.2, hr.cc q.1⟩, rfl⟩)) (fun r m1 m2 q z => ⟨z.1.sm q, z.2⟩)
  exact h.mono (fun v m1 ⟨r, er, ⟨O1, k1⟩, z, e⟩ => ⟨r, er, O1, hT.kp k1, H, S, P, J, s, hb, hz, hP, hJ, z, e⟩)
theorem w2_share {r1 : Int32} (hB : Md (fun H S P => (aShr H S x1 x2, S, P)) r1 m) : c_X12_share_70 600 x1 x2 m (fun r m' => Bt m' ∧ r1 = r) := by
  obtain ⟨hO, hT, H, S, P, J, s, hb, hz, hP, hJ, ⟨hk, hr⟩, e1⟩ := hB
  have hk : KC H S P J m := hk
  have h := both (a_X12_share (x1 := x1) (x2 := x2) (Q := fun _ m' => Ok m' ∧ Kp m m') hO (fun r m' O => O)) (eb_share (x1 := x1) (x2 := x2) (Q := fun r m' => Zb H S P J H S P J s m' ∧ r = aShr H S x1 x2) hr (fun m' q => ⟨⟨hk.rc q.rc, hr.rs q⟩, rfl⟩)) (fun r m1 m2 q z => ⟨z.1.sm q, z.2⟩)
  exact h.mono (fun v m1 ⟨r, er, ⟨O1, k1⟩, z, e⟩ => ⟨r, er, ⟨O1, hT.kp k1, H, S, P, J, s, hb, hz, hP, hJ, z⟩, e1.trans e.symm⟩)
theorem w1_without (hB : Bt m) : c_X11_without_0 600 x1 m (fun r m' => Md (fun H S P => (aWo H S x1, S, P)) r m') := by
  obtain ⟨hO, hT, H, S, P, J, s, hb, hz, hP, hJ, hk, hr⟩ := hB
  have h := both (a_X11_without (x1 := x1) (Q := fun _ m' => Ok m' ∧ Kp m m') hO (fun r m' O => O)) (ea_without (x1 := x1) (Q := fun r m' => Zb H S P J H S P J s m' ∧ r = aWo H S x1) hk (fun m' q => ⟨⟨q.2, hr.cc q.1⟩, rfl⟩)) (fun r m1 m2 q z => ⟨z.1.sm q, z.2⟩)
  exact h.mono (fun v m1 ⟨r, er, ⟨O1, k1⟩, z, e⟩ => ⟨r, er, O1, hT.kp k1, H, S, P, J, s, hb, hz, hP, hJ, z, e⟩)
theorem w2_without {r1 : Int32} (hB : Md (fun H S P => (aWo H S x1, S, P)) r1 m) : c_X12_without_70 600 x1 m (fun r m' => Bt m' ∧ r1 = r) := by
  obtain ⟨hO, hT, H, S, P, J, s, hb, hz, hP, hJ, ⟨hk, hr⟩, e1⟩ := hB
  have hk : KC H S P J m := hk
  have h := both (a_X12_without (x1 := x1) (Q := fun _ m' => Ok m' ∧ Kp m m') hO (fun r m' O => O)) (eb_without (x1 := x1) (Q := fun r m' => Zb H S P J H S P J s m' ∧ r = aWo H S x1) hr (fun m' q => ⟨⟨hk.rc q.rc, hr.rs q⟩, rfl⟩)) (fun r m1 m2 q z => ⟨z.1.sm q, z.2⟩)
  exact h.mono (fun v m1 ⟨r, er, ⟨O1, k1⟩, z, e⟩ => ⟨r, er, ⟨O1, hT.kp k1, H, S, P, J, s, hb, hz, hP, hJ, z⟩, e1.trans e.symm⟩)
theorem w1_needed (hB : Bt m) : c_X11_needed_0 600  m (fun r m' => Md (fun H S P => (bs (ndp H S) (hoW H), S, P)) r m') := by
  obtain ⟨hO, hT, H, S, P, J, s, hb, hz, hP, hJ, hk, hr⟩ := hB
  have h := both (a_X11_needed (Q := fun _ m' => Ok m' ∧ Kp m m') hO (fun r m' O => O)) (ea_needed (Q := fun r m' => Zb H S P J H S P J s m' ∧ r = bs (ndp H S) (hoW H)) hk (fun m' q => ⟨⟨q.2, hr.cc q.1⟩, rfl⟩)) (fun r m1 m2 q z => ⟨z.1.sm q, z.2⟩)
  exact h.mono (fun v m1 ⟨r, er, ⟨O1, k1⟩, z, e⟩ => ⟨r, er, O1, hT.kp k1, H, S, P, J, s, hb, hz, hP, hJ, z, e⟩)
theorem w2_needed {r1 : Int32} (hB : Md (fun H S P => (bs (ndp H S) (hoW H), S, P)) r1 m) : c_X12_needed_70 600  m (fun r m' => Bt m' ∧ r1 = r) := by
  obtain ⟨hO, hT, H, S, P, J, s, hb, hz, hP, hJ, ⟨hk, hr⟩, e1⟩ := hB
  have hk : KC H S P J m := hk
  have h := both (a_X12_needed (Q := fun _ m' => Ok m' ∧ Kp m m') hO (fun r m' O => O)) (eb_needed (Q := fun r m' => Zb H S P J H S P J s m' ∧ r = bs (ndp H S) (hoW H)) hr (fun m' q => ⟨⟨hk.rc q.rc, hr.rs q⟩, rfl⟩)) (fun r m1 m2 q z => ⟨z.1.sm q, z.2⟩)
  exact h.mono (fun v m1 ⟨r, er, ⟨O1, k1⟩, z, e⟩ => ⟨r, er, ⟨O1, hT.kp k1, H, S, P, J, s, hb, hz, hP, hJ, z⟩, e1.trans e.symm⟩)
theorem w1_hottest (hB : Bt m) : c_X11_hottest_0 600 x1 m (fun r m' => Md (fun H S P => (aHot H S x1, S, P)) r m') := by
  obtain ⟨hO, hT, H, S, P, J, s, hb, hz, hP, hJ, hk, hr⟩ := hB
  have h := both (a_X11_hottest (x1 := x1) (Q := fun _ m' => Ok m' ∧ Kp m m') hO (fun r m' O => O)) (ea_hottest (x1 := x1) (Q := fun r m' => Zb H S P J H S P J s m' ∧ r = aHot H S x1) hk hz (fun m' q => ⟨⟨q.2, hr.cc q.1⟩, rfl⟩)) (fun r m1 m2 q z => ⟨z.1.sm q, z.2⟩)
  exact h.mono (fun v m1 ⟨r, er, ⟨O1, k1⟩, z, e⟩ => ⟨r, er, O1, hT.kp k1, H, S, P, J, s, hb, hz, hP, hJ, z, e⟩)
theorem w2_hottest {r1 : Int32} (hB : Md (fun H S P => (aHot H S x1, S, P)) r1 m) : c_X12_hottest_70 600 x1 m (fun r m' => Bt m' ∧ r1 = r) := by
  obtain ⟨hO, hT, H, S, P, J, s, hb, hz, hP, hJ, ⟨hk, hr⟩, e1⟩ := hB
  have hk : KC H S P J m := hk
  have h := both (a_X12_hottest (x1 := x1) (Q := fun _ m' => Ok m' ∧ Kp m m') hO (fun r m' O => O)) (eb_hottest (x1 := x1) (Q := fun r m' => Zb H S P J H S P J s m' ∧ r = aHot H S x1) hr (fun m' q => ⟨⟨hk.rc q.rc, hr.rs q⟩, rfl⟩)) (fun r m1 m2 q z => ⟨z.1.sm q, z.2⟩)
  exact h.mono (fun v m1 ⟨r, er, ⟨O1, k1⟩, z, e⟩ => ⟨r, er, ⟨O1, hT.kp k1, H, S, P, J, s, hb, hz, hP, hJ, z⟩, e1.trans e.symm⟩)
theorem w1_clash (hB : Bt m) : c_X11_clash_0 600 x1 x2 m (fun r m' => Md (fun H S P => (aCls H S x1 x2, S, P)) r m') := by
  obtain ⟨hO, hT, H, S, P, J, s, hb, hz, hP, hJ, hk, hr⟩ := hB
  have h := both (a_X11_clash (x1 := x1) (x2 := x2) (Q := fun _ m' => Ok m' ∧ Kp m m') hO (fun r m' O => O)) (ea_clash (x1 := x1) (x2 := x2) (Q := fun r m' => Zb H S P J H S P J s m' ∧ r = aCls H S x1 x2) hk hz (fun m' q => ⟨⟨q.2, hr.cc q.1⟩, rfl⟩)) (fun r m1 m2 q z => ⟨z.1.sm q, z.2⟩)
  exact h.mono (fun v m1 ⟨r, er, ⟨O1, k1⟩, z, e⟩ => ⟨r, er, O1, hT.kp k1, H, S, P, J, s, hb, hz, hP, hJ, z, e⟩)
theorem w2_clash {r1 : Int32} (hB : Md (fun H S P => (aCls H S x1 x2, S, P)) r1 m) : c_X12_clash_70 600 x1 x2 m (fun r m' => Bt m' ∧ r1 = r) := by
  obtain ⟨hO, hT, H, S, P, J, s, hb, hz, hP, hJ, ⟨hk, hr⟩, e1⟩ := hB
  have hk : KC H S P J m := hk
  have h := both (a_X12_clash (x1 := x1) (x2 := x2) (Q := fun _ m' => Ok m' ∧ Kp m m') hO (fun r m' O => O)) (eb_clash (x1 := x1) (x2 := x2) (Q := fun r m' => Zb H S P J H S P J s m' ∧ r = aCls H S x1 x2) hr (fun m' q => ⟨⟨hk.rc q.rc, hr.rs q⟩, rfl⟩)) (fun r m1 m2 q z => ⟨z.1.sm q, z.2⟩)
  exact h.mono (fun v m1 ⟨r, er, ⟨O1, k1⟩, z, e⟩ => ⟨r, er, ⟨O1, hT.kp k1, H, S, P, J, s, hb, hz, hP, hJ, z⟩, e1.trans e.symm⟩)
theorem w1_then (hB : Bt m) : c_X11_then_0 600 x1 x2 m (fun r m' => Md (fun H S P => (aThn H S x1 x2, S, P)) r m') := by
  obtain ⟨hO, hT, H, S, P, J, s, hb, hz, hP, hJ, hk, hr⟩ := hB
  have h := both (a_X11_then (x1 := x1) (x2 := x2) (Q := fun _ m' => Ok m' ∧ Kp m m') hO (fun r m' O => O)) (ea_then (x1 := x1) (x2 := x2) (Q := fun r m' => Zb H S P J H S P J s m' ∧ r = aThn H S x1 x2) hk hz (fun m' q => ⟨⟨q.2, hr.cc q.1⟩, rfl⟩)) (fun r m1 m2 q z => ⟨z.1.sm q, z.2⟩)
  exact h.mono (fun v m1 ⟨r, er, ⟨O1, k1⟩, z, e⟩ => ⟨r, er, O1, hT.kp k1, H, S, P, J, s, hb, hz, hP, hJ, z, e⟩)
theorem w2_then {r1 : Int32} (hB : Md (fun H S P => (aThn H S x1 x2, S, P)) r1 m) : c_X12_then_70 600 x1 x2 m (fun r m' => Bt m' ∧ r1 = r) := by
  obtain ⟨hO, hT, H, S, P, J, s, hb, hz, hP, hJ, ⟨hk, hr⟩, e1⟩ := hB
  have hk : KC H S P J m := hk
  have h := both (a_X12_then (x1 := x1) (x2 := x2) (Q := fun _ m' => Ok m' ∧ Kp m m') hO (fun r m' O => O)) (eb_then (x1 := x1) (x2 := x2) (Q := fun r m' => Zb H S P J H S P J s m' ∧ r = aThn H S x1 x2) hr hz (fun m' q => ⟨⟨hk.rc q.rc, hr.rs q⟩, rfl⟩)) (fun r m1 m2 q z => ⟨z.1.sm q, z.2⟩)
  exact h.mono (fun v m1 ⟨r, er, ⟨O1, k1⟩, z, e⟩ => ⟨r, er, ⟨O1, hT.kp k1, H, S, P, J, s, hb, hz, hP, hJ, z⟩, e1.trans e.symm⟩)
theorem w1_litIn (hB : Bt m) : c_X11_litIn_0 600 x1 x2 m (fun r m' => Md (fun H S P => (aLin H S x1 x2, S, P)) r m') := by
  obtain ⟨hO, hT, H, S, P, J, s, hb, hz, hP, hJ, hk, hr⟩ := hB
  have h := both (a_X11_litIn (x1 := x1) (x2 := x2) (Q := fun _ m' => Ok m' ∧ Kp m m') hO (fun r m' O => O)) (ea_litIn (x1 := x1) (x2 := x2) (Q := fun r m' => Zb H S P J H S P J s m' ∧ r = aLin H S x1 x2) hk hz (fun m' q => ⟨⟨q.2, hr.cc q.1⟩, rfl⟩)) (fun r m1 m2 q z => ⟨z.1.sm q, z.2⟩)
  exact h.mono (fun v m1 ⟨r, er, ⟨O1, k1⟩, z, e⟩ => ⟨r, er, O1, hT.kp k1, H, S, P, J, s, hb, hz, hP, hJ, z, e⟩)
theorem w2_litIn {r1 : Int32} (hB : Md (fun H S P => (aLin H S x1 x2, S, P)) r1 m) : c_X12_litIn_70 600 x1 x2 m (fun r m' => Bt m' ∧ r1 = r) := by
  obtain ⟨hO, hT, H, S, P, J, s, hb, hz, hP, hJ, ⟨hk, hr⟩, e1⟩ := hB
  have hk : KC H S P J m := hk
  have h := both (a_X12_litIn (x1 := x1) (x2 := x2) (Q := fun _ m' => Ok m' ∧ Kp m m') hO (fun r m' O => O)) (eb_litIn (x1 := x1) (x2 := x2) (Q := fun r m' => Zb H S P J H S P J s m' ∧ r = aLin H S x1 x2) hr hz (fun m' q => ⟨⟨hk.rc q.rc, hr.rs q⟩, rfl⟩)) (fun r m1 m2 q z => ⟨z.1.sm q, z.2⟩)
  exact h.mono (fun v m1 ⟨r, er, ⟨O1, k1⟩, z, e⟩ => ⟨r, er, ⟨O1, hT.kp k1, H, S, P, J, s, hb, hz, hP, hJ, z⟩, e1.trans e.symm⟩)
theorem w1_year (hB : Bt m) : c_X11_year_0 600 x1 x2 m (fun r m' => Md (fun H S P => (aYr H S x1 x2, S, P)) r m') := by
  obtain ⟨hO, hT, H, S, P, J, s, hb, hz, hP, hJ, hk, hr⟩ := hB
  have h := both (a_X11_year (x1 := x1) (x2 := x2) (Q := fun _ m' => Ok m' ∧ Kp m m') hO (fun r m' O => O)) (ea_year (x1 := x1) (x2 := x2) (Q := fun r m' => Zb H S P J H S P J s m' ∧ r = aYr H S x1 x2) hk hz (fun m' q => ⟨⟨q.2, hr.cc q.1⟩, rfl⟩)) (fun r m1 m2 q z => ⟨z.1.sm q, z.2⟩)
  exact h.mono (fun v m1 ⟨r, er, ⟨O1, k1⟩, z, e⟩ => ⟨r, er, O1, hT.kp k1, H, S, P, J, s, hb, hz, hP, hJ, z, e⟩)
theorem w2_year {r1 : Int32} (hB : Md (fun H S P => (aYr H S x1 x2, S, P)) r1 m) : c_X12_year_70 600 x1 x2 m (fun r m' => Bt m' ∧ r1 = r) := by
  obtain ⟨hO, hT, H, S, P, J, s, hb, hz, hP, hJ, ⟨hk, hr⟩, e1⟩ := hB
  have hk : KC H S P J m := hk
  have h := both (a_X12_year (x1 := x1) (x2 := x2) (Q := fun _ m' => Ok m' ∧ Kp m m') hO (fun r m' O => O)) (eb_year (x1 := x1) (x2 := x2) (Q := fun r m' => Zb H S P J H S P J s m' ∧ r = aYr H S x1 x2) hr hz (fun m' q => ⟨⟨hk.rc q.rc, hr.rs q⟩, rfl⟩)) (fun r m1 m2 q z => ⟨z.1.sm q, z.2⟩)
  exact h.mono (fun v m1 ⟨r, er, ⟨O1, k1⟩, z, e⟩ => ⟨r, er, ⟨O1, hT.kp k1, H, S, P, J, s, hb, hz, hP, hJ, z⟩, e1.trans e.symm⟩)
/-- behind the class's count -/
def Mc (x1 : Int32) (r : Int32) (m : dM) : Prop := Ok m ∧ Rq m ∧ ∃ (H : Ho) (S : Zt) (P : List Zt) (J : Nat → Zt) (s : Nat), hBo H ∧ zOk H S ∧ (∀ T : Zt, T ∈ P → zOk H T) ∧ (∀ i : Nat, zOk H (J i)) ∧ Zb H S P J H S P J s m ∧ r = aCnt H S P (m.1 70 2) (m.1 70 63) (slc m) x1
theorem w1_count (hB : Bt m) : c_X11_count_0 600 x1 m (fun r m' => Mc x1 r m') := by
  obtain ⟨hO, hT, H, S, P, J, s, hb, hz, hP, hJ, hk, hr⟩ := hB
  have h := both (a_X11_count (x1 := x1) (Q := fun _ m' => Ok m' ∧ Kp m m') hO (fun r m' O => O)) (ea_count (x1 := x1) (Q := fun r m' => Zb H S P J H S P J s m' ∧ r = aCnt H S P (m.1 0 1) (m.1 67 3) (pc10 (m.1 51 4) 10) x1) hk hz (fun m' q => ⟨⟨q.2, hr.cc q.1⟩, rfl⟩)) (fun r m1 m2 q z => ⟨z.1.sm q, z.2⟩)
  refine h.mono (fun v m1 w => ?_)
  obtain ⟨r, er, ⟨O1, k1⟩, z, e⟩ := w
  refine ⟨r, er, O1, hT.kp k1, H, S, P, J, s, hb, hz, hP, hJ, z, ?_⟩
  have e9 : m.1 0 1 = m.1 70 2 := d_ce hT.1.1
  have e11 : m.1 67 3 = m.1 70 63 := d_ce hT.2.2.1
  have sl : slc m1 = slc m := by unfold slc; rw [k1 115 0 rfl, k1 115 1 rfl, k1 115 2 rfl]
  rw [e, e9, e11, slc_eq hT hk.2.2.2.1, k1 70 2 rfl, k1 70 63 rfl, sl]
theorem w2_count {r1 : Int32} (hB : Mc x1 r1 m) : c_X12_count_70 600 x1 m (fun r m' => Bt m' ∧ r1 = r) := by
  obtain ⟨hO, hT, H, S, P, J, s, hb, hz, hP, hJ, ⟨hk, hr⟩, e1⟩ := hB
  have h := both (a_X12_count (x1 := x1) (Q := fun _ m' => Ok m' ∧ Kp m m') hO (fun r m' O => O)) (eb_count (x1 := x1) (Q := fun r m' => Zb H S P J H S P J s m' ∧ r = aCnt H S P (m.1 70 2) (m.1 70 63) (slc m) x1) hr hz (fun m' q => ⟨⟨hk.rc q.rc, hr.rs q⟩, rfl⟩)) (fun r m1 m2 q z => ⟨z.1.sm q, z.2⟩)
  exact h.mono (fun v m1 ⟨r, er, ⟨O1, k1⟩, z, e⟩ => ⟨r, er, ⟨O1, hT.kp k1, H, S, P, J, s, hb, hz, hP, hJ, z⟩, e1.trans e.symm⟩)
theorem w1_agree (hB : Bt m) (h2 : x2 = 0 ∨ x2 = 1) : c_X11_agree_0 600 x1 x2 m (fun r m' => Md (fun H S P => aAgr H S P x1 x2) r m') := by
  obtain ⟨hO, hT, H, S, P, J, s, hb, hz, hP, hJ, hk, hr⟩ := hB
  have h := both (a_X11_agree (x1 := x1) (x2 := x2) (Q := fun _ m' => Ok m' ∧ Kp m m') hO (by rcases h2 with e | e <;> (rw [e]; decide)) (fun r m' O => O)) (p_agree (x1 := x1) (x2 := x2) (Q := fun r m' => Zb H (aAgr H S P x1 x2).2.1 (aAgr H S P x1 x2).2.2 J H S P J s m' ∧ r = (aAgr H S P x1 x2).1) hk (fun m' q k => ⟨⟨k, hr.cc q⟩, rfl⟩)) (fun r m1 m2 q z => ⟨z.1.sm q, z.2⟩)
  exact h.mono (fun v m1 ⟨r, er, ⟨O1, k1⟩, z, e⟩ => ⟨r, er, O1, hT.kp k1, H, S, P, J, s, hb, hz, hP, hJ, z, e⟩)
theorem w2_agree {r1 : Int32} (hB : Md (fun H S P => aAgr H S P x1 x2) r1 m) (h2 : x2 = 0 ∨ x2 = 1) : c_X12_agree_70 600 x1 x2 m (fun r m' => Bt m' ∧ r1 = r) := by
  obtain ⟨hO, hT, H, S, P, J, s, hb, hz, hP, hJ, ⟨hk, hr⟩, e1⟩ := hB
  have ok := fk_agr (x1 := x1) (x2 := x2) H S P hr.1.1 hz hP
  have h := both (a_X12_agree (x1 := x1) (x2 := x2) (Q := fun _ m' => Ok m' ∧ Kp m m') hO (by rcases h2 with e | e <;> (rw [e]; decide)) (fun r m' O => O)) (q_agree (x1 := x1) (x2 := x2) (Q := fun r m' => Zb H (aAgr H S P x1 x2).2.1 (aAgr H S P x1 x2).2.2 J H (aAgr H S P x1 x2).2.1 (aAgr H S P x1 x2).2.2 J s m' ∧ r = (aAgr H S P x1 x2).1) hr h2 (fun m' q k => ⟨⟨hk.rc q, k⟩, rfl⟩)) (fun r m1 m2 q z => ⟨z.1.sm q, z.2⟩)
  exact h.mono (fun v m1 ⟨r, er, ⟨O1, k1⟩, z, e⟩ => ⟨r, er, ⟨O1, hT.kp k1, H, _, _, J, s, hb, ok.1, ok.2, hJ, z⟩, e1.trans e.symm⟩)
theorem w1_pin (hB : Bt m) (h2 : x2 = 0 ∨ x2 = 1) : c_X11_pin_0 600 x1 x2 m (fun r m' => Md (fun H S P => aPin H S P x1 x2) r m') := by
  obtain ⟨hO, hT, H, S, P, J, s, hb, hz, hP, hJ, hk, hr⟩ := hB
  have h := both (a_X11_pin (x1 := x1) (x2 := x2) (Q := fun _ m' => Ok m' ∧ Kp m m') hO (by rcases h2 with e | e <;> (rw [e]; decide)) (fun r m' O => O)) (p_pin (x1 := x1) (x2 := x2) (Q := fun r m' => Zb H (aPin H S P x1 x2).2.1 (aPin H S P x1 x2).2.2 J H S P J s m' ∧ r = (aPin H S P x1 x2).1) hk (fun m' q k => ⟨⟨k, hr.cc q⟩, rfl⟩)) (fun r m1 m2 q z => ⟨z.1.sm q, z.2⟩)
  exact h.mono (fun v m1 ⟨r, er, ⟨O1, k1⟩, z, e⟩ => ⟨r, er, O1, hT.kp k1, H, S, P, J, s, hb, hz, hP, hJ, z, e⟩)
theorem w2_pin {r1 : Int32} (hB : Md (fun H S P => aPin H S P x1 x2) r1 m) (h2 : x2 = 0 ∨ x2 = 1) : c_X12_pin_70 600 x1 x2 m (fun r m' => Bt m' ∧ r1 = r) := by
  obtain ⟨hO, hT, H, S, P, J, s, hb, hz, hP, hJ, ⟨hk, hr⟩, e1⟩ := hB
  have ok := fk_pin (x1 := x1) (x2 := x2) H S P hr.1.1 hz hP
  have h := both (a_X12_pin (x1 := x1) (x2 := x2) (Q := fun _ m' => Ok m' ∧ Kp m m') hO (by rcases h2 with e | e <;> (rw [e]; decide)) (fun r m' O => O)) (q_pin (x1 := x1) (x2 := x2) (Q := fun r m' => Zb H (aPin H S P x1 x2).2.1 (aPin H S P x1 x2).2.2 J H (aPin H S P x1 x2).2.1 (aPin H S P x1 x2).2.2 J s m' ∧ r = (aPin H S P x1 x2).1) hr h2 (fun m' q k => ⟨⟨hk.rc q, k⟩, rfl⟩)) (fun r m1 m2 q z => ⟨z.1.sm q, z.2⟩)
  exact h.mono (fun v m1 ⟨r, er, ⟨O1, k1⟩, z, e⟩ => ⟨r, er, ⟨O1, hT.kp k1, H, _, _, J, s, hb, ok.1, ok.2, hJ, z⟩, e1.trans e.symm⟩)
theorem w1_mend (hB : Bt m) : c_X11_mend_0 600 x1 m (fun r m' => Md (fun H S P => aMnd H S P x1) r m') := by
  obtain ⟨hO, hT, H, S, P, J, s, hb, hz, hP, hJ, hk, hr⟩ := hB
  have h := both (a_X11_mend (x1 := x1) (Q := fun _ m' => Ok m' ∧ Kp m m') hO (fun r m' O => O)) (p_mend (x1 := x1) (Q := fun r m' => Zb H (aMnd H S P x1).2.1 (aMnd H S P x1).2.2 J H S P J s m' ∧ r = (aMnd H S P x1).1) hk (fun m' q k => ⟨⟨k, hr.cc q⟩, rfl⟩)) (fun r m1 m2 q z => ⟨z.1.sm q, z.2⟩)
  exact h.mono (fun v m1 ⟨r, er, ⟨O1, k1⟩, z, e⟩ => ⟨r, er, O1, hT.kp k1, H, S, P, J, s, hb, hz, hP, hJ, z, e⟩)
theorem w2_mend {r1 : Int32} (hB : Md (fun H S P => aMnd H S P x1) r1 m) : c_X12_mend_70 600 x1 m (fun r m' => Bt m' ∧ r1 = r) := by
  obtain ⟨hO, hT, H, S, P, J, s, hb, hz, hP, hJ, ⟨hk, hr⟩, e1⟩ := hB
  have ok := fk_mnd (x1 := x1) H S P hr.1.1 hz hP
  have h := both (a_X12_mend (x1 := x1) (Q := fun _ m' => Ok m' ∧ Kp m m') hO (fun r m' O => O)) (q_mend (x1 := x1) (Q := fun r m' => Zb H (aMnd H S P x1).2.1 (aMnd H S P x1).2.2 J H (aMnd H S P x1).2.1 (aMnd H S P x1).2.2 J s m' ∧ r = (aMnd H S P x1).1) hr (fun m' q k => ⟨⟨hk.rc q, k⟩, rfl⟩)) (fun r m1 m2 q z => ⟨z.1.sm q, z.2⟩)
  exact h.mono (fun v m1 ⟨r, er, ⟨O1, k1⟩, z, e⟩ => ⟨r, er, ⟨O1, hT.kp k1, H, _, _, J, s, hb, ok.1, ok.2, hJ, z⟩, e1.trans e.symm⟩)
theorem w1_thicken (hB : Bt m) : c_X11_thicken_0 600 x1 m (fun r m' => Md (fun H S P => aThk H S P x1) r m') := by
  obtain ⟨hO, hT, H, S, P, J, s, hb, hz, hP, hJ, hk, hr⟩ := hB
  have h := both (a_X11_thicken (x1 := x1) (Q := fun _ m' => Ok m' ∧ Kp m m') hO (fun r m' O => O)) (p_thicken (x1 := x1) (Q := fun r m' => Zb H (aThk H S P x1).2.1 (aThk H S P x1).2.2 J H S P J s m' ∧ r = (aThk H S P x1).1) hk (fun m' q k => ⟨⟨k, hr.cc q⟩, rfl⟩)) (fun r m1 m2 q z => ⟨z.1.sm q, z.2⟩)
  exact h.mono (fun v m1 ⟨r, er, ⟨O1, k1⟩, z, e⟩ => ⟨r, er, O1, hT.kp k1, H, S, P, J, s, hb, hz, hP, hJ, z, e⟩)
theorem w2_thicken {r1 : Int32} (hB : Md (fun H S P => aThk H S P x1) r1 m) : c_X12_thicken_70 600 x1 m (fun r m' => Bt m' ∧ r1 = r) := by
  obtain ⟨hO, hT, H, S, P, J, s, hb, hz, hP, hJ, ⟨hk, hr⟩, e1⟩ := hB
  have ok := fk_thk (x1 := x1) H S P hr.1.1 hz hP
  have h := both (a_X12_thicken (x1 := x1) (Q := fun _ m' => Ok m' ∧ Kp m m') hO (fun r m' O => O)) (q_thicken (x1 := x1) (Q := fun r m' => Zb H (aThk H S P x1).2.1 (aThk H S P x1).2.2 J H (aThk H S P x1).2.1 (aThk H S P x1).2.2 J s m' ∧ r = (aThk H S P x1).1) hr hz (fun m' q k => ⟨⟨hk.rc q, k⟩, rfl⟩)) (fun r m1 m2 q z => ⟨z.1.sm q, z.2⟩)
  exact h.mono (fun v m1 ⟨r, er, ⟨O1, k1⟩, z, e⟩ => ⟨r, er, ⟨O1, hT.kp k1, H, _, _, J, s, hb, ok.1, ok.2, hJ, z⟩, e1.trans e.symm⟩)
theorem w1_hours (hB : Bt m) : c_X11_hours_0 600 x1 m (fun r m' => Md (fun H S P => aHrs H S P x1) r m') := by
  obtain ⟨hO, hT, H, S, P, J, s, hb, hz, hP, hJ, hk, hr⟩ := hB
  have h := both (a_X11_hours (x1 := x1) (Q := fun _ m' => Ok m' ∧ Kp m m') hO (fun r m' O => O)) (p_hours (x1 := x1) (Q := fun r m' => Zb H (aHrs H S P x1).2.1 (aHrs H S P x1).2.2 J H S P J s m' ∧ r = (aHrs H S P x1).1) hk hz (fun m' q k => ⟨⟨k, hr.cc q⟩, rfl⟩)) (fun r m1 m2 q z => ⟨z.1.sm q, z.2⟩)
  exact h.mono (fun v m1 ⟨r, er, ⟨O1, k1⟩, z, e⟩ => ⟨r, er, O1, hT.kp k1, H, S, P, J, s, hb, hz, hP, hJ, z, e⟩)
theorem w2_hours {r1 : Int32} (hB : Md (fun H S P => aHrs H S P x1) r1 m) : c_X12_hours_70 600 x1 m (fun r m' => Bt m' ∧ r1 = r) := by
  obtain ⟨hO, hT, H, S, P, J, s, hb, hz, hP, hJ, ⟨hk, hr⟩, e1⟩ := hB
  have ok := fk_hrs (x1 := x1) H S P hr.1.1 hz hP
  have h := both (a_X12_hours (x1 := x1) (Q := fun _ m' => Ok m' ∧ Kp m m') hO (fun r m' O => O)) (q_hours (x1 := x1) (Q := fun r m' => Zb H (aHrs H S P x1).2.1 (aHrs H S P x1).2.2 J H (aHrs H S P x1).2.1 (aHrs H S P x1).2.2 J s m' ∧ r = (aHrs H S P x1).1) hr hz (fun m' q k => ⟨⟨hk.rc q, k⟩, rfl⟩)) (fun r m1 m2 q z => ⟨z.1.sm q, z.2⟩)
  exact h.mono (fun v m1 ⟨r, er, ⟨O1, k1⟩, z, e⟩ => ⟨r, er, ⟨O1, hT.kp k1, H, _, _, J, s, hb, ok.1, ok.2, hJ, z⟩, e1.trans e.symm⟩)
theorem w1_undo (hB : Bt m) : c_X11_undo_0 600  m (fun r m' => Md (fun _ S P => aUnd S P) r m') := by
  obtain ⟨hO, hT, H, S, P, J, s, hb, hz, hP, hJ, hk, hr⟩ := hB
  have h := both (a_X11_undo (Q := fun _ m' => Ok m' ∧ Kp m m') hO (fun r m' O => O)) (p_undo (Q := fun r m' => Zb H (aUnd S P).2.1 (aUnd S P).2.2 J H S P J s m' ∧ r = (aUnd S P).1) hk (fun m' q k => ⟨⟨k, hr.cc q⟩, rfl⟩)) (fun r m1 m2 q z => ⟨z.1.sm q, z.2⟩)
  exact h.mono (fun v m1 ⟨r, er, ⟨O1, k1⟩, z, e⟩ => ⟨r, er, O1, hT.kp k1, H, S, P, J, s, hb, hz, hP, hJ, z, e⟩)
theorem w2_undo {r1 : Int32} (hB : Md (fun _ S P => aUnd S P) r1 m) : c_X12_undo_70 600  m (fun r m' => Bt m' ∧ r1 = r) := by
  obtain ⟨hO, hT, H, S, P, J, s, hb, hz, hP, hJ, ⟨hk, hr⟩, e1⟩ := hB
  have ok := fk_und H S P hr.1.1 hz hP
  have h := both (a_X12_undo (Q := fun _ m' => Ok m' ∧ Kp m m') hO (fun r m' O => O)) (q_undo (Q := fun r m' => Zb H (aUnd S P).2.1 (aUnd S P).2.2 J H (aUnd S P).2.1 (aUnd S P).2.2 J s m' ∧ r = (aUnd S P).1) hr (fun m' q k => ⟨⟨hk.rc q, k⟩, rfl⟩)) (fun r m1 m2 q z => ⟨z.1.sm q, z.2⟩)
  exact h.mono (fun v m1 ⟨r, er, ⟨O1, k1⟩, z, e⟩ => ⟨r, er, ⟨O1, hT.kp k1, H, _, _, J, s, hb, ok.1, ok.2, hJ, z⟩, e1.trans e.symm⟩)
/-! calls that leave house and state, and hold, restore -/
theorem Fr.on {m m' : dM} (h : Fr m) (e : ∀ k j : Nat, (2 ≤ k ∧ k ≤ 60) ∨ (80 ≤ k ∧ k ≤ 103) ∨ k = 107 ∨ k = 111 ∨ k = 115 ∨ k = 116 → m'.1 k j = m.1 k j) (e18 : m'.1 70 18 = m.1 70 18) (e61 : m'.1 70 61 = m.1 70 61) : Fr m' := by
  obtain ⟨H, S, P, J, s, hb, hz, hP, hJ, hk, hr⟩ := h
  exact ⟨H, S, P, J, s, hb, hz, hP, hJ, hk.fr (fun k h1 h2 => funext fun j => e k j (by omega)), hr.fr (fun k hk => funext fun j => e k j (by omega)) e18 e61⟩
def Mw (E : Int32 → dM → Prop) (m : dM) (r : Int32) (m' : dM) : Prop := Ok m' ∧ E r m' ∧ Bt m ∧ Fr m'
theorem w1_feed {x1 x2 x3 x4 x5' : Int32} (hB : Bt m) : c_X11_feed_0 600 x1 x2 x3 x4 x5' m (fun r m' => Mw (E11f (x5 x1 x2 x3 x4 x5') m) m r m') := by
  refine Wp.deep (b_X11_feed hB.1 (fun r m' h => ⟨h.1, h.2, hB, ?_⟩)) (Nat.le_of_ble_eq_true rfl)
  rcases h.2 with ⟨_, t, _, _, y⟩ | ⟨_, _, y⟩
  · exact hB.2.2.on (fun k j q => y.2.1 k j (by omega) (by omega)) (y.2.1 70 18 (by decide) (by decide)) (y.2.1 70 61 (by decide) (by decide))
  · rw [y]; exact hB.2.2
theorem w2_feed {x1 x2 x3 x4 x5' r1 : Int32} {m0 : dM} (hM : Mw (E11f (x5 x1 x2 x3 x4 x5') m0) m0 r1 m) : c_X12_feed_70 600 x1 x2 x3 x4 x5' m (fun r m' => Bt m' ∧ r1 = r) := by
  obtain ⟨hO, E, hB, hF⟩ := hM
  refine Wp.deep (b_X12_feed hO (fun r m' h => ?_)) (Nat.le_of_ble_eq_true rfl)
  have j := j_feed hB.2.1 E h.2
  refine ⟨⟨h.1, j.1, ?_⟩, j.2⟩
  rcases h.2 with ⟨_, t, _, _, y⟩ | ⟨_, _, y⟩
  · exact hF.on (fun k j q => y.2.1 k j (by omega) (by omega)) (y.2.1 70 18 (by decide) (by decide)) (y.2.1 70 61 (by decide) (by decide))
  · rw [y]; exact hF
theorem w1_back (hB : Bt m) : c_X11_back_0 600 x1 m (fun r m' => Mw (E11b x1 m) m r m') := by
  refine Wp.deep (b_X11_back hB.1 (fun r m' h => ⟨h.1, h.2, hB, ?_⟩)) (Nat.le_of_ble_eq_true rfl)
  have y := h.2.1.1
  exact hB.2.2.on (fun k j q => y k j (by omega) (by omega)) (y 70 18 (by decide) (by decide)) (y 70 61 (by decide) (by decide))
theorem w2_back {r1 : Int32} {m0 : dM} (hM : Mw (E11b x1 m0) m0 r1 m) : c_X12_back_70 600 x1 m (fun r m' => Bt m' ∧ r1 = r) := by
  obtain ⟨hO, E, hB, hF⟩ := hM
  refine Wp.deep (b_X12_back hO (fun r m' h => ?_)) (Nat.le_of_ble_eq_true rfl)
  have j := j_back hB.2.1 E h.2
  have y := h.2.1.1
  exact ⟨⟨h.1, j.1, hF.on (fun k j q => y k j (by omega) (by omega)) (y 70 18 (by decide) (by decide)) (y 70 61 (by decide) (by decide))⟩, j.2⟩
theorem w1_tell (hB : Bt m) (h2 : x2 = 0 ∨ x2 = 1) : c_X11_tell_0 600 x1 x2 m (fun r m' => Mw (E11t x1 m) m r m') := by
  refine Wp.deep (z_X11_tell hB.1 h2 (fun r m' h => ⟨h.1, h.2, hB, ?_⟩)) (Nat.le_of_ble_eq_true rfl)
  rcases h.2 with ⟨_, _, _, y⟩ | ⟨_, _, y⟩
  · exact hB.2.2.on (fun k j q => y k j (by omega) (by omega) (by omega)) (y 70 18 (by decide) (by decide) (by decide)) (y 70 61 (by decide) (by decide) (by decide))
  · rw [y]; exact hB.2.2
theorem w2_tell {r1 : Int32} {m0 : dM} (hM : Mw (E11t x1 m0) m0 r1 m) : c_X12_tell_70 600 x1 x2 m (fun r m' => Bt m' ∧ r1 = r) := by
  obtain ⟨hO, E, hB, hF⟩ := hM
  refine Wp.deep (z_X12_tell hO (fun r m' h => ?_)) (Nat.le_of_ble_eq_true rfl)
  have j := j_tell hB.1 hB.2.1 E h.2
  refine ⟨⟨h.1, j.1, ?_⟩, j.2⟩
  rcases h.2 with ⟨_, _, _, y⟩ | ⟨_, _, y⟩
  · exact hF.on (fun k j q => y k j (by omega) (by omega) (by omega)) (y 70 18 (by decide) (by decide) (by decide)) (y 70 61 (by decide) (by decide) (by decide))
  · rw [y]; exact hF
theorem w1_forget (hB : Bt m) : c_X11_forget_0 600 m (fun r m' => Mw (E11o m) m r m') := by
  refine Wp.deep (z_X11_forget hB.1 (fun r m' h => ⟨h.1, h.2, hB, ?_⟩)) (Nat.le_of_ble_eq_true rfl)
  have y := h.2.2.2
  exact hB.2.2.on (fun k j q => y k j (by omega)) (y 70 18 (by decide)) (y 70 61 (by decide))
theorem w2_forget {r1 : Int32} {m0 : dM} (hM : Mw (E11o m0) m0 r1 m) : c_X12_forget_70 600 m (fun r m' => Bt m' ∧ r1 = r) := by
  obtain ⟨hO, E, hB, hF⟩ := hM
  refine Wp.deep (z_X12_forget hO (fun r m' h => ?_)) (Nat.le_of_ble_eq_true rfl)
  have j := j_forget hB.2.1 E h.2
  have y := h.2.2.2
  exact ⟨⟨h.1, j.1, hF.on (fun k j q => y k j (by omega)) (y 70 18 (by decide)) (y 70 61 (by decide))⟩, j.2⟩
theorem w1_place (hB : Bt m) : c_X11_place_0 600 m (fun r m' => Mw (E11p m) m r m') := by
  refine Wp.deep (z_X11_place hB.1 (fun r m' h => ⟨h.1, h.2, hB, ?_⟩)) (Nat.le_of_ble_eq_true rfl)
  rw [h.2.2]; exact hB.2.2
theorem w2_place {r1 : Int32} {m0 : dM} (hM : Mw (E11p m0) m0 r1 m) : c_X12_place_70 600 m (fun r m' => Bt m' ∧ r1 = r) := by
  obtain ⟨hO, E, hB, hF⟩ := hM
  refine Wp.deep (z_X12_place hO (fun r m' h => ?_)) (Nat.le_of_ble_eq_true rfl)
  have j := j_place hB.2.1 E h.2
  exact ⟨⟨h.1, j.1, by rw [h.2.2]; exact hF⟩, j.2⟩
/-- hold -/
def Mh (x1 : Int32) (m : dM) (r : Int32) (m' : dM) : Prop := Ok m' ∧ E11h x1 m r m' ∧ Rq m ∧ ∃ (H : Ho) (S : Zt) (P : List Zt) (J : Nat → Zt) (s : Nat), hBo H ∧ zOk H S ∧ (∀ T : Zt, T ∈ P → zOk H T) ∧ (∀ i : Nat, zOk H (J i)) ∧ Zb H S P (lHold J S x1) H S P J s m'
theorem w1_hold (hB : Bt m) : c_X11_hold_0 600 x1 m (fun r m' => Mh x1 m r m') := by
  obtain ⟨hO, hT, H, S, P, J, s, hb, hz, hP, hJ, hk, hr⟩ := hB
  have h := both (z_X11_hold (x1 := x1) (Q := fun r m' => Ok m' ∧ E11h x1 m r m') hO (fun r m' O => O)) (p_hold (x1 := x1) (Q := fun _ m' => Zb H S P (lHold J S x1) H S P J s m') hk (fun r m' q k => ⟨k, hr.cc q⟩)) (fun r m1 m2 q z => z.sm q)
  exact Wp.deep (h.mono (fun v m1 ⟨r, er, ⟨O1, k1⟩, z⟩ => ⟨r, er, O1, k1, hT, H, S, P, J, s, hb, hz, hP, hJ, z⟩)) (Nat.le_of_ble_eq_true rfl)
theorem w2_hold {r1 : Int32} {m0 : dM} (hM : Mh x1 m0 r1 m) : c_X12_hold_70 600 x1 m (fun r m' => Bt m' ∧ r1 = r) := by
  obtain ⟨hO, E, hT, H, S, P, J, s, hb, hz, hP, hJ, hk, hr⟩ := hM
  have h := both (z_X12_hold (x1 := x1) (Q := fun r m' => Ok m' ∧ E12h x1 m r m') hO (fun r m' O => O)) (q_hold (x1 := x1) (Q := fun _ m' => Zb H S P (lHold J S x1) H S P (lHold J S x1) s m') hr (fun r m' q k => ⟨hk.rc q, k⟩)) (fun r m1 m2 q z => z.sm q)
  refine Wp.deep (h.mono (fun v m1 ⟨r, er, ⟨O1, k1⟩, z⟩ => ?_)) (Nat.le_of_ble_eq_true rfl)
  have j := j_hold hT E k1
  refine ⟨r, er, ⟨O1, j.1, H, S, P, lHold J S x1, s, hb, hz, hP, fun i => ?_, z⟩, j.2⟩
  unfold lHold
  split
  · exact hz
  · exact hJ i
/-- restore -/
def Ms (x1 : Int32) (m : dM) (r : Int32) (m' : dM) : Prop := Ok m' ∧ E11s x1 m r m' ∧ Rq m ∧ ∃ (H : Ho) (S : Zt) (P : List Zt) (J : Nat → Zt) (s : Nat), hBo H ∧ zOk H S ∧ (∀ T : Zt, T ∈ P → zOk H T) ∧ (∀ i : Nat, zOk H (J i)) ∧ Zb H (aRes S P J x1 (bt (m.1 51 4) x1.toNatClampNeg)).1 (aRes S P J x1 (bt (m.1 51 4) x1.toNatClampNeg)).2 J H S P J s m'
theorem w1_restore (hB : Bt m) : c_X11_restore_0 600 x1 m (fun r m' => Ms x1 m r m') := by
  obtain ⟨hO, hT, H, S, P, J, s, hb, hz, hP, hJ, hk, hr⟩ := hB
  have h := both (z_X11_restore (x1 := x1) (Q := fun r m' => Ok m' ∧ E11s x1 m r m') hO (fun r m' O => O)) (p_restore (x1 := x1) (Q := fun _ m' => Zb H (aRes S P J x1 (bt (m.1 51 4) x1.toNatClampNeg)).1 (aRes S P J x1 (bt (m.1 51 4) x1.toNatClampNeg)).2 J H S P J s m') hk (fun r m' q k => ⟨k, hr.cc q⟩)) (fun r m1 m2 q z => z.sm q)
  exact Wp.deep (h.mono (fun v m1 ⟨r, er, ⟨O1, k1⟩, z⟩ => ⟨r, er, O1, k1, hT, H, S, P, J, s, hb, hz, hP, hJ, z⟩)) (Nat.le_of_ble_eq_true rfl)
theorem w2_restore {r1 : Int32} {m0 : dM} (hM : Ms x1 m0 r1 m) : c_X12_restore_70 600 x1 m (fun r m' => Bt m' ∧ r1 = r) := by
  obtain ⟨hO, E, hT, H, S, P, J, s, hb, hz, hP, hJ, hk, hr⟩ := hM
  have hh : (0 ≤ x1.toInt ∧ x1.toInt < 3) → ((m.1 115 x1.toNatClampNeg).toInt ≠ 0 ↔ bt (m0.1 51 4) x1.toNatClampNeg = true) := fun q => by
    have c := d_cl (x := x1) q.1
    have o := hT.2.2.2.2 x1.toNatClampNeg (by omega)
    rw [E.1 115 _ rfl, ← o]
    exact hb_bit _ _ (by omega)
  have ok : zOk H (aRes S P J x1 (bt (m0.1 51 4) x1.toNatClampNeg)).1 ∧ ∀ T : Zt, T ∈ (aRes S P J x1 (bt (m0.1 51 4) x1.toNatClampNeg)).2 → zOk H T := by
    unfold aRes
    split
    · exact ⟨hJ _, fun T hT => absurd hT (List.not_mem_nil)⟩
    · exact ⟨hz, hP⟩
  have h := both (z_X12_restore (x1 := x1) (Q := fun r m' => Ok m' ∧ E12s x1 m r m') hO (fun r m' O => O)) (q_restore (x1 := x1) (Q := fun _ m' => Zb H (aRes S P J x1 (bt (m0.1 51 4) x1.toNatClampNeg)).1 (aRes S P J x1 (bt (m0.1 51 4) x1.toNatClampNeg)).2 J H (aRes S P J x1 (bt (m0.1 51 4) x1.toNatClampNeg)).1 (aRes S P J x1 (bt (m0.1 51 4) x1.toNatClampNeg)).2 J s m') hr hh (fun r m' q k => ⟨hk.rc q, k⟩)) (fun r m1 m2 q z => z.sm q)
  refine Wp.deep (h.mono (fun v m1 ⟨r, er, ⟨O1, k1⟩, z⟩ => ?_)) (Nat.le_of_ble_eq_true rfl)
  have j := j_restore hT E k1
  exact ⟨r, er, ⟨O1, j.1, H, _, _, J, s, hb, ok.1, ok.2, hJ, z⟩, j.2⟩
/-- read -/
def Mr (m : dM) (r : Int32) (m' : dM) : Prop := Ok m' ∧ E11r m r m' ∧ Rq m ∧ ∃ (H : Ho) (S : Zt) (P : List Zt) (J : Nat → Zt) (s : Nat), hBo H ∧ zOk H S ∧ (∀ T : Zt, T ∈ P → zOk H T) ∧ (∀ i : Nat, zOk H (J i)) ∧ RdK (bT m 1 (m.1 0 1).toInt) (m.1 0 1).toInt.toNat H S P J m' ∧ KR H S P J s m'
theorem RdK.sm {B : Nat → Int32} {n : Nat} {H : Ho} {S : Zt} {P : List Zt} {J : Nat → Zt} {m1 m2 : dM} (h : RdK B n H S P J m2) (q : Sm m1 m2) : RdK B n H S P J m1 := ⟨fun z => by obtain ⟨R, a, b⟩ := h.1 z; exact ⟨R, a, b.sm q⟩, fun z => (h.2 z).sm q⟩
theorem RdK.rc {B : Nat → Int32} {n : Nat} {H : Ho} {S : Zt} {P : List Zt} {J : Nat → Zt} {m1 m2 : dM} (h : RdK B n H S P J m1) (q : RcF m1 m2) : RdK B n H S P J m2 := ⟨fun z => by obtain ⟨R, a, b⟩ := h.1 z; exact ⟨R, a, b.rc q⟩, fun z => (h.2 z).rc q⟩
theorem RdQ.sm {K : Nat → Int} {V : Nat → Int64} {L s : Nat} {H : Ho} {S : Zt} {P : List Zt} {J : Nat → Zt} {m1 m2 : dM} (h : RdQ K V L s H S P J m2) (q : Sm m1 m2) : RdQ K V L s H S P J m1 := ⟨fun z R J' hR => (h.1 z R J' hR).sm q, fun z => (h.2 z).sm q⟩
theorem w1_read (hB : Bt m) : c_X11_read_0 600 m (fun r m' => Mr m r m') := by
  obtain ⟨hO, hT, H, S, P, J, s, hb, hz, hP, hJ, hk, hr⟩ := hB
  have b := hO.s (k := 0) (j := 1) rfl
  have hn : (m.1 0 1).toInt = ((m.1 0 1).toInt.toNat : Int) := by omega
  have hL : GL m := ⟨hO.w (k := 29) (j := 1) rfl, fun j => hO.w (k := 36) (j := j) rfl⟩
  have h := both (z_X11_read (Q := fun r m' => Ok m' ∧ E11r m r m') hO (fun r m' O => O)) (p_read (B := bT m 1 (m.1 0 1).toInt) (n := (m.1 0 1).toInt.toNat) (Q := fun _ m' => RdK (bT m 1 (m.1 0 1).toInt) (m.1 0 1).toInt.toNat H S P J m' ∧ KR H S P J s m') hL hk hn (by omega) (fun i => by
    unfold bT
    by_cases q : (i : Int) < (m.1 0 1).toInt
    · rw [if_pos q, if_pos (by omega)]
    · rw [if_neg q, if_neg (by omega)]) (fun r m' d k => ⟨k, hr.fr (fun k hk => d.1 k (by omega)) (by rw [d.1 70 (by omega)]) (by rw [d.1 70 (by omega)])⟩)) (fun r m1 m2 q z => ⟨z.1.sm q, z.2.sm q⟩)
  exact Wp.deep (h.mono (fun v m1 ⟨r, er, ⟨O1, k1⟩, z⟩ => ⟨r, er, O1, k1, hT, H, S, P, J, s, hb, hz, hP, hJ, z⟩)) (Nat.le_of_ble_eq_true rfl)
theorem w2_read {r1 : Int32} {m0 : dM} (hM : Mr m0 r1 m) : c_X12_read_70 600 m (fun r m' => Bt m' ∧ r1 = r) := by
  obtain ⟨hO, E, hT, H, S, P, J, s, hb, hz, hP, hJ, hk, hr⟩ := hM
  obtain ⟨e, hb'⟩ := hT.1
  have hE := E
  unfold E11r at hE
  have a2 : m.1 70 2 = m0.1 70 2 := hE.2.1 2 (by decide)
  have eB : bT m 71 (m.1 70 2).toInt = bT m0 1 (m0.1 0 1).toInt := by
    funext i
    unfold bT
    rw [a2, hE.1 71 (by decide), ← e]
    by_cases q : (i : Int) < (m0.1 0 1).toInt
    · rw [if_pos q, if_pos q]; exact (hb' i q).symm
    · rw [if_neg q, if_neg q]
  have b := hO.s (k := 70) (j := 2) rfl
  have en : (m.1 70 2).toInt = (m0.1 0 1).toInt := by rw [a2, ← e]
  have h18 : (m.1 70 18).toInt = (s : Int) ∧ s ≤ 1 := hr.1.2.1.1
  have hg : ∀ k : Nat, k < 4 → gLw m.1 s (m.1 95 (4 * s + k)).toInt (m.1 96 (4 * s + k)).toInt := fun k hk4 => by
    have g := hO.1.2.2.2.2 k hk4
    have eL : gL m.1 = s := by unfold gL; omega
    rw [eL] at g
    exact g
  have h := both (z_X12_read (Q := fun r m' => Ok m' ∧ E12r m r m') hO (fun r m' O => O)) (x_read (L := s) (s := 1 - s) (B := bT m0 1 (m0.1 0 1).toInt) (n := (m0.1 0 1).toInt.toNat) (Q := fun _ m' => RdK (bT m0 1 (m0.1 0 1).toInt) (m0.1 0 1).toInt.toNat H S P J m' ∧ RdQ (tK (bT m0 1 (m0.1 0 1).toInt) (m0.1 0 1).toInt.toNat) (tV (bT m0 1 (m0.1 0 1).toInt) (m0.1 0 1).toInt.toNat) s (1 - s) H S P J m') (fun i h => tV9 h) (by omega) h18.1 (by omega) (by omega) (fun i => by
    rw [← eB]
    unfold bT
    by_cases q : (i : Int) < (m.1 70 2).toInt
    · rw [if_pos q, if_pos (by omega)]
    · rw [if_neg q, if_neg (by omega)]) hr hg (fun r m' d k => ⟨hk.rc d, k⟩)) (fun r m1 m2 q z => ⟨z.1.sm q, z.2.sm q⟩)
  refine Wp.deep (h.mono (fun v m1 ⟨r, er, ⟨O1, k1⟩, z1, z2⟩ => ?_)) (Nat.le_of_ble_eq_true rfl)
  have j := j_read hT E k1
  refine ⟨r, er, ⟨O1, j.1, ?_⟩, j.2⟩
  by_cases q : (rdR (tK (bT m0 1 (m0.1 0 1).toInt) (m0.1 0 1).toInt.toNat) (tV (bT m0 1 (m0.1 0 1).toInt) (m0.1 0 1).toInt.toNat)).1.1 = 0
  · obtain ⟨R, hR, kc⟩ := z1.1 q
    have k51 : m1.1 51 4 = 0 := by
      have k1' := k1
      unfold E12r at k1'
      rw [k1'.1.2.2.2.1]
      exact (hE.2.2.2.2.2.1 q).2.1
    have kr := z2.1 q R (fun _ => sz0 (rdH (bT m0 1 (m0.1 0 1).toInt) (m0.1 0 1).toInt.toNat) R) hR
    have hM := MI_rd q
    have h8 := kc.1.1.2.2.1
    have hz' := sz0_ok (Ds := rdL (bT m0 1 (m0.1 0 1).toInt) (m0.1 0 1).toInt.toNat) hM h8 hR
    exact ⟨rdH (bT m0 1 (m0.1 0 1).toInt) (m0.1 0 1).toInt.toNat, sz0 (rdH (bT m0 1 (m0.1 0 1).toInt) (m0.1 0 1).toInt.toNat) R, [], fun _ => sz0 (rdH (bT m0 1 (m0.1 0 1).toInt) (m0.1 0 1).toInt.toNat) R, 1 - s, hoX_b hM, hz', fun T hT => absurd hT (List.not_mem_nil), fun _ => hz', ⟨kc.1, kc.2.1, kc.2.2.1, fun i hi => by rw [k51, bt_0], fun i hi hb => by rw [k51, bt_0] at hb; cases hb⟩, kr⟩
  · exact ⟨H, S, P, J, s, hb, hz, hP, hJ, z1.2 q, z2.2 q⟩
end BTC
end
section
/-! THE CLAIM OUT OF ONE WALK OF THE LAW'S BODY. Your part is whole_start (and what it stands on); all else here is the same for every law, but numbers. -/
def R_law : String := "FuseTreatyLaw"
def lw_P (b : Addr) (xs : List Int32) (args : Array Value) (s : State) : Prop := args = #[.ref b] ∧ s.IntsAt b xs ∧ xs.length ≤ 3072 ∧ (Jvm.Cond.and given_1 narrow_1).before args s = true
def lw_Q (_ : Array Value) (s : State) (o : Outcome) (t : State) : Prop := o = .returned (some (.int 1)) ∧ Framed s o t [] 600000 7302250
def lw_Z (below : List Frame) (a : Array Value) (s : State) : State → Prop := fun t => ∃ o, t.status = .running ∧ Ended t below o ∧ lw_Q a s o t
/-- the law's own end, with 1 on the stack, nothing written that was there before, its room as the claim has it -/
theorem lw_ret {p : Program} {l : Launch} {e : Env} {s : State} {m : MethodId} {below : List Frame} {meth : Method} {c : Code} {b : Nat} (hx : p.tables.exec = Jvm.exec) (hb : c.code = code) (hr : meth.sig.returnType = ret) (hlocks : meth.locks = false) {pc : Nat} {H : Heap} {ls : Array Slot} (hdg : decode code pc = .ok (.ireturn, 1)) : W p l e room_1 s m #[Value.ref b] below meth c H [] 600000 7302250 (lw_Z below #[Value.ref b] s) (F0 m pc ls [.int 1]) := by
  intro T hT X
  obtain ⟨fs, hret, hrun, hended, hW, hframe⟩ := X.leave (v := some (.int 1)) (hlocks := hlocks) (fun h => by rw [hr] at h; cases h)
  have hmeth' : T.vm.method? m = some meth := X.method'
  refine ⟨T.setFrames fs, ?_, .returned (some (.int 1)), hrun, hended, rfl, ⟨_, rfl⟩, hW, hframe⟩
  jvm_step X.here [X.here.top, hx, hb, hdg, hmeth', hr, ret, narrow_b1]
  (try refine ⟨rfl, ?_⟩); (try refine ⟨rfl, ?_⟩)
  first | (intro acts; rw [hret _ acts rfl rfl rfl]) | rw [hret _ _ rfl rfl rfl]
  exact Steps.refl _
/-- what holds at the law's entry: the machine, the code, the tables' words (any of lw_tbl by 'hts w (by decide +kernel)'), the script of L ints xs at the cell b, what the Statement gives of the start (any of its parts by flat_of_before) -/
def lw_At (p : Program) (s : State) (m : MethodId) (meth : Method) (c : Code) (b L : Nat) (xs : Nat → Int32) : Prop :=
  p.tables.exec = Jvm.exec ∧ c.code = code ∧ meth.sig.returnType = ret ∧ c.maxLocals = 4 ∧ s.vm.findClass R_law = some m.cls ∧ (∀ w ∈ lw_tbl, w.before #[Value.ref b] s = true) ∧ va_X b L xs s s.heap ∧ b < s.heap.size ∧ meth.locks = false ∧ (Jvm.Cond.and given_1 narrow_1).before #[Value.ref b] s = true
end
section
section LAW
variable {p : Program} {l : Launch} {e : Env} {s : State} {m : MethodId} {below : List Frame} {meth : Method} {c : Code} {b L : Nat} {xs : Nat → Int32} {adK adV : Nat → Nat} {D : va_G}
/-- the law's own: the machine, the code, the words, the script, what lies outside -/
def lX (p : Program) (s : State) (m : MethodId) (meth : Method) (c : Code) (b L : Nat) (xs : Nat → Int32) (adK adV : Nat → Nat) : Prop := lw_At p s m meth c b L xs ∧ eXt tNs s ∧ tFz adK adV (fun q => s.heap.size ≤ q) s s.heap
/-- the world between calls -/
def lWc (D : va_G) (s : State) (mm : dM) (H : Heap) (locs : List Loc) (ws : va_W) (tys : List (ClassId × FieldType)) : Prop := va_K D tCl tys s ∧ va_P D tCl ws H ∧ va_D (fun q => s.heap.size ≤ q) ws ∧ va_S (fun q => s.heap.size ≤ q) s.heap H locs ∧ eAll (cCk (ws.map Prod.fst) tys) (dHp mm) ws
theorem lgt {s : State} {args : Array Value} (h : ∀ w ∈ lw_tbl, w.before args s = true) : ∀ w ∈ lw_g, w.before args s = true := fun w hw => h w (List.mem_filter.mp hw).1
theorem ofI6 : ∀ k : Nat, k < 6 → (Int32.ofInt (k : Int)).toInt = (k : Int) := by decide
theorem law_arg {H : Heap} {locs : List Loc} {cs sl pc k : Nat} {i : Int32} {ls : Array Slot} {rest : List Value} {ax am : Nat} {Q : State → Prop} (C0 : lX p s m meth c b L xs adK adV) (hS : va_S (fun q => s.heap.size ≤ q) s.heap H locs) (hl : lv_has ls 4 [(0, .ref b), (1, .ref ax), (2, .ref am), (3, .int i)]) (hi : 0 ≤ i.toInt ∧ i.toInt + 6 ≤ L ∧ L ≤ 3072) (hk : k < 6) (d1 : decode code pc = .ok (.aload_n 0, 1)) (d2 : decode code (pc + 1) = .ok (.iload_n 3, 1)) (d3 : decode code (pc + 2) = .ok (.iconst (k : Int), 1)) (d4 : decode code (pc + 3) = .ok (.iadd, 1)) (d5 : decode code (pc + 4) = .ok (.iaload, 1))
    (kk : W p l e room_1 s m #[Value.ref b] below meth c H locs cs sl Q (F0 m (pc + 5) ls (.int (xs (i + Int32.ofInt (k : Int)).toNatClampNeg) :: rest))) : W p l e room_1 s m #[Value.ref b] below meth c H locs cs sl Q (F0 m pc ls rest) := by
  obtain ⟨⟨hx, hb, hr, hml, hown, hts, hX, hbl, hlocks, hgv⟩, hXt, hFz⟩ := C0
  have hbA : ¬ (fun q : Nat => s.heap.size ≤ q) b := Nat.not_le.mpr hbl
  refine lv_aload_n hx hb d1 rfl (lv_at hl 0 rfl) ?_
  refine lv_iload_n hx hb d2 rfl (lv_at hl 3 rfl) ?_
  refine lv_iconst hx hb d3 rfl ?_
  refine lv_iadd hx hb d4 ?_
  have f := dAddE (X := i.toInt) (Y := (k : Int)) (x := i) (y := Int32.ofInt (k : Int)) rfl (ofI6 k hk) (by omega) (by omega)
  exact va_sld hx hb hX hbl hbA hS (vp_in_iff.mpr ⟨by omega, by omega⟩) d5 kk
/-- the locals of a call: what the contract names is there -/
theorem lo_at : ∀ (as : List cV) (j i : Nat), (as.all fun v => Nat.beq (cCat v) 1) = true → ∀ v, as[i]? = some v → cGet (cArgs j as) (j + i) = some v
  | [], j, i, _, v, h => by simp at h
  | w :: as, j, i, hc, v, h => by
    simp only [List.all_cons, Bool.and_eq_true] at hc
    have e := Nat.eq_of_beq_eq_true hc.1
    have e2 : Nat.beq (cCat w) 2 = false := by rw [e]; rfl
    match i, h with
    | 0, h =>
      cases h
      show cond (Nat.beq j j) (some w) _ = some w
      rw [Nat.beq_refl]
      rfl
    | i + 1, h =>
      have hb : Nat.beq j (j + (i + 1)) = false := by
        cases hq : Nat.beq j (j + (i + 1)) with
        | false => rfl
        | true =>
          have := Nat.eq_of_beq_eq_true hq
          omega
      show cond (Nat.beq j (j + (i + 1))) (some w) (cGet (cArgs (cond (Nat.beq (cCat w) 2) (j + 2) (j + 1)) as) (j + (i + 1))) = some v
      rw [hb, e2, show j + (i + 1) = j + 1 + i by omega]
      exact lo_at as (j + 1) i hc.2 v h
theorem lo_args {as : List cV} {n : Nat} (hc : (as.all fun v => Nat.beq (cCat v) 1) = true) : dLo (List.map some as ++ List.replicate n none) (cArgs 0 as) := by
  intro i v h
  by_cases hi : i < as.length
  · rw [List.getElem?_append_left (by rw [List.length_map]; exact hi), List.getElem?_map] at h
    cases hq : as[i]? with
    | none => rw [hq] at h; cases h
    | some w =>
      rw [hq] at h
      have e : w = v := Option.some.inj (Option.some.inj h)
      subst e
      have := lo_at as 0 i hc w hq
      rw [Nat.zero_add] at this
      exact this
  · rw [List.getElem?_append_right (by rw [List.length_map]; omega), List.getElem?_replicate] at h
    split at h
    · cases h
    · cases h
theorem law_callC {mm : dM} {Qm : Int32 → dM → Prop} {H : Heap} {locs : List Loc} {ws : va_W} {tys : List (ClassId × FieldType)} {ls : Array Slot} {cs sl pc ix k a bm d0 : Nat} {l1 : dL} {as : List cV} {vs rest : List Value} {N : eM} {Y : eY} {T : u_T} {NN : Nat} {Q : State → Prop} (C0 : lX p s m meth c b L xs adK adV) (hW : lWc D s mm H locs ws tys) (hsz : ls.size = 4) (hwp : Wp 600 bm 0 l1 [] mm (qI Qm)) {nn : Nat} (hl1 : l1 = List.map some (.inr (.inr (some k)) :: as) ++ List.replicate nn none) (hcat : ((.inr (.inr (some k)) :: as : List cV).all fun v => Nat.beq (cCat v) 1) = true) (hca : cCats (.inr (.inr (some k)) :: as) ≤ N.2.1) (hN : tMs[bm]? = some N) (hY : tYs[bm]? = some Y) (hn0 : N.2.2.1 = 0) (hn1 : N.2.2.2.1 = 0) (hnp : vs.length = N.2.2.2.2.2)
    (w1 : Cond.methodLink R_law ix Y.1 ∈ lw_g) (w2 : Cond.instanceMethod Y.1 ∈ lw_g) (w3 : Cond.selects Y.1.cls Y.1 Y.1 ∈ lw_g) (hcl : tCl[d0]? = some (Y.1.cls, T, NN)) (hsh : ∃ fs, (dHp mm)[k]? = some (.inl (d0, fs))) (ha : (ws.map Prod.fst)[k]? = some a) (has : eAll (cOk (ws.map Prod.fst)) as vs) (hcr : (rest.map fun v => v.category).sum ≤ 8) (hcs : cs ≤ 600000) (hsl : sl ≤ 7302250) (hdg : decode code pc = .ok (.invokevirtual ix, 3))
    (kk : ∀ (r : Int32) (m' : dM) (H1 : Heap) (locs1 : List Loc) (ws' : va_W) (tys' : List (ClassId × FieldType)), Qm r m' → ws'.map Prod.fst = ws.map Prod.fst → lWc D s m' H1 locs1 ws' tys' → W p l e room_1 s m #[Value.ref b] below meth c H1 locs1 cs sl Q (F0 m (pc + 3) ls (.int r :: rest))) : W p l e room_1 s m #[Value.ref b] below meth c H locs cs sl Q (F0 m pc ls (vs.reverse ++ .ref a :: rest)) := by
  obtain ⟨⟨hx, hb, hr, hml, hown, hts0, hX, hbl, hlocks, hgv⟩, hXt, hFz⟩ := C0
  have hts := lgt hts0
  obtain ⟨hK, hP, hD, hS, hh⟩ := hW
  have hok : eMok tCl lw_g tNs tMs tYs N Y := by
    obtain ⟨Y', g1, g2⟩ := eAll_get tOk hN
    have e1 := Option.some.inj (g1.symm.trans hY)
    subst e1
    exact g2
  obtain ⟨-, hcode, hini, -, hdd, hnl, -⟩ := hok
  have hA1 : ∀ q, va_A ws H.size q → s.heap.size ≤ q := by
    intro q hq
    rcases hq with ⟨k, e9, hk⟩ | hq
    · exact hD.2 k (q, e9) hk
    · exact Nat.le_trans hS.1 hq
  have hlo : dLo l1 (cArgs 0 (.inr (.inr (some k)) :: as)) := by rw [hl1]; exact lo_args hcat
  obtain ⟨v, m', hrun0, r, rfl, hqm⟩ := hwp _ hlo
  have hcon : cCon (tFz adK adV) l tCl lw_g tNs tMs tYs 600 bm (.inr (.inr (some k)) :: as) (dHp mm) (some (.inl r)) (dHp m') := cRun_con (tFzOk adK adV) tOk lw_g_good tKl hN hca hrun0
  have hM := hcon N Y hN hY D ws tys (.ref a :: vs) H.size hh ⟨⟨a, ha, rfl⟩, has⟩
  have hPre : ∀ U : State, U.heap = H → s.WarmedH U.vm → ePc (tFz adK adV) tCl tNs D ws tys (.ref a :: vs) H.size (Value.ref a :: vs).toArray U := fun U hU hW => ⟨rfl, by rw [hU], by rw [hU]; exact hP, va_K.moved hW.alike hK, hD.weaken (fun _ _ _ _ => trivial), hXt.warm hW, by rw [hU]; exact (tFzOk adK adV).1 _ _ s U s.heap H hFz hW hS.2.1 hA1⟩
  obtain ⟨fs0, hsh⟩ := hsh
  obtain ⟨⟨q, e9⟩, he, fs, hf, -⟩ := eAll_get hh hsh
  have hf : e9 = .inr (d0, fs) := hf
  subst hf
  have e1 := eAd_at he ha
  subst e1
  have hrun := va_runV (R := room_1) (p := p) (e := e) (below := below) (meth := meth) (locs := locs) (cells := cs) (slots := sl) (g := F0 m pc ls (vs.reverse ++ .ref a :: rest)) (As := vs) (rest := rest) ⟨hx, hb, hml, hown, hts⟩ hM ⟨callB_of _ hts (jG hcode) rfl rfl rfl (hts _ hini) (hts _ w1) hdd ⟨by show 600 + 1 ≤ 2048; omega, by show 8 + (N.2.1 + 11) + 128 * 600 ≤ 84000; omega⟩, hts _ w2, hts _ w3⟩ ⟨ePc_blind (tFzOk adK adV), va_recv hK hP hcl he, hPre⟩ rfl hnp hsz rfl (by show 2 * 0 + _ ≤ 8; omega) hdg ⟨by rw [hn0]; exact hcs, by rw [hn1]; exact hsl⟩
  rw [hn0, hn1] at hrun
  refine cBack hrun hS hA1 (fun w ws' tys' H1 locs1 hov hpre' hh' hP' hK' hD' hS' => ?_)
  cases w with
  | none => exact hov.elim
  | some w =>
    have hw : w = .int r := hov
    subst hw
    exact kk r m' H1 locs1 ws' tys' hqm hpre' ⟨hK', hP', hD', hS', by rw [hpre']; exact hh'⟩
end LAW
end
section
/-! THE LAW, a case each -/
def Rf (m : dM) : Prop := Rq m ∧ Fr m
section LWC
variable {p : Program} {l : Launch} {e : Env} {s : State} {m : MethodId} {below : List Frame} {meth : Method} {c : Code} {b L : Nat} {xs : Nat → Int32} {adK adV : Nat → Nat} {D : va_G} {i : Int32} {Q : State → Prop}
theorem law_feed (C0 : lX p s m meth c b L xs adK adV) {mm : dM} {H : Heap} {locs : List Loc} {ws : va_W} {tys : List (ClassId × FieldType)} {ls : Array Slot} {ax am cs sl : Nat} (hO : Ok mm) (hT : Rf mm) (hW : lWc D s mm H locs ws tys) (hax : (ws.map Prod.fst)[0]? = some ax) (ham : (ws.map Prod.fst)[70]? = some am) (hl : lv_has ls 4 [(0, .ref b), (1, .ref ax), (2, .ref am), (3, .int i)]) (hi : 0 ≤ i.toInt ∧ i.toInt + 6 ≤ L ∧ L ≤ 3072) (hcs : cs ≤ 600000) (hsl : sl ≤ 7302250) (KE : ∀ (m2 : dM) (H2 : Heap) (locs2 : List Loc) (ws2 : va_W) (tys2 : List (ClassId × FieldType)), Ok m2 → Rf m2 → ws2.map Prod.fst = ws.map Prod.fst → lWc D s m2 H2 locs2 ws2 tys2 → W p l e room_1 s m #[Value.ref b] below meth c H2 locs2 cs sl Q (F0 m 1191 ls [])) : W p l e room_1 s m #[Value.ref b] below meth c H locs cs sl Q (F0 m 188 ls []) := by
  obtain ⟨⟨hx, hb, -, -, -, -, -, -, -, -⟩, -, -⟩ := id C0
  refine lv_aload_n hx hb dl_188 rfl (lv_at hl 1 rfl) ?_
  refine law_arg (k := 1) C0 hW.2.2.2.1 hl hi (by decide) dl_189 dl_190 dl_191 dl_192 dl_193 ?_
  refine law_arg (k := 2) C0 hW.2.2.2.1 hl hi (by decide) dl_194 dl_195 dl_196 dl_197 dl_198 ?_
  refine law_arg (k := 3) C0 hW.2.2.2.1 hl hi (by decide) dl_199 dl_200 dl_201 dl_202 dl_203 ?_
  refine law_arg (k := 4) C0 hW.2.2.2.1 hl hi (by decide) dl_204 dl_205 dl_206 dl_207 dl_208 ?_
  refine law_arg (k := 5) C0 hW.2.2.2.1 hl hi (by decide) dl_209 dl_210 dl_211 dl_212 dl_213 ?_
  refine law_callC (N := tM243) (Y := tY243) (mm := mm) (Qm := fun r m' => Mw (E11f (x5 (xs (i + Int32.ofInt ((1 : Nat) : Int)).toNatClampNeg) (xs (i + Int32.ofInt ((2 : Nat) : Int)).toNatClampNeg) (xs (i + Int32.ofInt ((3 : Nat) : Int)).toNatClampNeg) (xs (i + Int32.ofInt ((4 : Nat) : Int)).toNatClampNeg) (xs (i + Int32.ofInt ((5 : Nat) : Int)).toNatClampNeg)) mm) mm r m') (as := [.inl (xs (i + Int32.ofInt ((1 : Nat) : Int)).toNatClampNeg), .inl (xs (i + Int32.ofInt ((2 : Nat) : Int)).toNatClampNeg), .inl (xs (i + Int32.ofInt ((3 : Nat) : Int)).toNatClampNeg), .inl (xs (i + Int32.ofInt ((4 : Nat) : Int)).toNatClampNeg), .inl (xs (i + Int32.ofInt ((5 : Nat) : Int)).toNatClampNeg)]) (vs := [.int (xs (i + Int32.ofInt ((1 : Nat) : Int)).toNatClampNeg), .int (xs (i + Int32.ofInt ((2 : Nat) : Int)).toNatClampNeg), .int (xs (i + Int32.ofInt ((3 : Nat) : Int)).toNatClampNeg), .int (xs (i + Int32.ofInt ((4 : Nat) : Int)).toNatClampNeg), .int (xs (i + Int32.ofInt ((5 : Nat) : Int)).toNatClampNeg)]) (rest := []) C0 hW hl.1 (w1_feed ⟨hO, hT⟩) (nn := 0) rfl rfl (Nat.le_of_ble_eq_true rfl) rfl rfl rfl rfl rfl (kIs_ok (c := 3067) (by decide +kernel)) (kIs_ok (c := 3068) (by decide +kernel)) (kIs_ok (c := 3069) (by decide +kernel)) (d0 := 11) rfl ⟨_, rfl⟩ hax ⟨rfl, ⟨rfl, ⟨rfl, ⟨rfl, ⟨rfl, trivial⟩⟩⟩⟩⟩ (Nat.le_of_ble_eq_true rfl) hcs hsl dl_214 (fun r1 m1 H1 locs1 ws1 tys1 O1 hp1 hW1 => ?_)
  refine lv_pop hx hb dl_217 rfl ?_
  refine lv_aload_n hx hb dl_218 rfl (lv_at hl 2 rfl) ?_
  refine law_arg (k := 1) C0 hW1.2.2.2.1 hl hi (by decide) dl_219 dl_220 dl_221 dl_222 dl_223 ?_
  refine law_arg (k := 2) C0 hW1.2.2.2.1 hl hi (by decide) dl_224 dl_225 dl_226 dl_227 dl_228 ?_
  refine law_arg (k := 3) C0 hW1.2.2.2.1 hl hi (by decide) dl_229 dl_230 dl_231 dl_232 dl_233 ?_
  refine law_arg (k := 4) C0 hW1.2.2.2.1 hl hi (by decide) dl_234 dl_235 dl_236 dl_237 dl_238 ?_
  refine law_arg (k := 5) C0 hW1.2.2.2.1 hl hi (by decide) dl_239 dl_240 dl_241 dl_242 dl_243 ?_
  refine law_callC (N := tM1) (Y := tY1) (mm := m1) (Qm := fun r m' => Bt m' ∧ r1 = r) (as := [.inl (xs (i + Int32.ofInt ((1 : Nat) : Int)).toNatClampNeg), .inl (xs (i + Int32.ofInt ((2 : Nat) : Int)).toNatClampNeg), .inl (xs (i + Int32.ofInt ((3 : Nat) : Int)).toNatClampNeg), .inl (xs (i + Int32.ofInt ((4 : Nat) : Int)).toNatClampNeg), .inl (xs (i + Int32.ofInt ((5 : Nat) : Int)).toNatClampNeg)]) (vs := [.int (xs (i + Int32.ofInt ((1 : Nat) : Int)).toNatClampNeg), .int (xs (i + Int32.ofInt ((2 : Nat) : Int)).toNatClampNeg), .int (xs (i + Int32.ofInt ((3 : Nat) : Int)).toNatClampNeg), .int (xs (i + Int32.ofInt ((4 : Nat) : Int)).toNatClampNeg), .int (xs (i + Int32.ofInt ((5 : Nat) : Int)).toNatClampNeg)]) (rest := []) C0 hW1 hl.1 (w2_feed O1) (nn := 0) rfl rfl (Nat.le_of_ble_eq_true rfl) rfl rfl rfl rfl rfl (kIs_ok (c := 6238) (by decide +kernel)) (kIs_ok (c := 6239) (by decide +kernel)) (kIs_ok (c := 7000) (by decide +kernel)) (d0 := 12) rfl ⟨_, rfl⟩ (by rw [hp1]; exact ham) ⟨rfl, ⟨rfl, ⟨rfl, ⟨rfl, ⟨rfl, trivial⟩⟩⟩⟩⟩ (Nat.le_of_ble_eq_true rfl) hcs hsl dl_244 (fun r2 m2 H2 locs2 ws2 tys2 O2 hp2 hW2 => ?_)
  obtain ⟨B2, e12⟩ := O2
  refine lv_pop hx hb dl_247 rfl ?_
  refine lv_goto (tgt := 1191) hx hb dl_248 (by decide) ?_
  exact KE m2 H2 locs2 ws2 tys2 B2.1 B2.2 (hp2.trans hp1) hW2
theorem law_back (C0 : lX p s m meth c b L xs adK adV) {mm : dM} {H : Heap} {locs : List Loc} {ws : va_W} {tys : List (ClassId × FieldType)} {ls : Array Slot} {ax am cs sl : Nat} (hO : Ok mm) (hT : Rf mm) (hW : lWc D s mm H locs ws tys) (hax : (ws.map Prod.fst)[0]? = some ax) (ham : (ws.map Prod.fst)[70]? = some am) (hl : lv_has ls 4 [(0, .ref b), (1, .ref ax), (2, .ref am), (3, .int i)]) (hi : 0 ≤ i.toInt ∧ i.toInt + 6 ≤ L ∧ L ≤ 3072) (hcs : cs ≤ 600000) (hsl : sl ≤ 7302250) (KE : ∀ (m2 : dM) (H2 : Heap) (locs2 : List Loc) (ws2 : va_W) (tys2 : List (ClassId × FieldType)), Ok m2 → Rf m2 → ws2.map Prod.fst = ws.map Prod.fst → lWc D s m2 H2 locs2 ws2 tys2 → W p l e room_1 s m #[Value.ref b] below meth c H2 locs2 cs sl Q (F0 m 1191 ls [])) : W p l e room_1 s m #[Value.ref b] below meth c H locs cs sl Q (F0 m 251 ls []) := by
  obtain ⟨⟨hx, hb, -, -, -, -, -, -, -, -⟩, -, -⟩ := id C0
  refine lv_aload_n hx hb dl_251 rfl (lv_at hl 1 rfl) ?_
  refine law_arg (k := 1) C0 hW.2.2.2.1 hl hi (by decide) dl_252 dl_253 dl_254 dl_255 dl_256 ?_
  refine law_callC (N := tM245) (Y := tY245) (mm := mm) (Qm := fun r m' => Mw (E11b (xs (i + Int32.ofInt ((1 : Nat) : Int)).toNatClampNeg) mm) mm r m') (as := [.inl (xs (i + Int32.ofInt ((1 : Nat) : Int)).toNatClampNeg)]) (vs := [.int (xs (i + Int32.ofInt ((1 : Nat) : Int)).toNatClampNeg)]) (rest := []) C0 hW hl.1 (w1_back ⟨hO, hT⟩) (nn := 0) rfl rfl (Nat.le_of_ble_eq_true rfl) rfl rfl rfl rfl rfl (kIs_ok (c := 3075) (by decide +kernel)) (kIs_ok (c := 3076) (by decide +kernel)) (kIs_ok (c := 3077) (by decide +kernel)) (d0 := 11) rfl ⟨_, rfl⟩ hax ⟨rfl, trivial⟩ (Nat.le_of_ble_eq_true rfl) hcs hsl dl_257 (fun r1 m1 H1 locs1 ws1 tys1 O1 hp1 hW1 => ?_)
  refine lv_pop hx hb dl_260 rfl ?_
  refine lv_aload_n hx hb dl_261 rfl (lv_at hl 2 rfl) ?_
  refine law_arg (k := 1) C0 hW1.2.2.2.1 hl hi (by decide) dl_262 dl_263 dl_264 dl_265 dl_266 ?_
  refine law_callC (N := tM3) (Y := tY3) (mm := m1) (Qm := fun r m' => Bt m' ∧ r1 = r) (as := [.inl (xs (i + Int32.ofInt ((1 : Nat) : Int)).toNatClampNeg)]) (vs := [.int (xs (i + Int32.ofInt ((1 : Nat) : Int)).toNatClampNeg)]) (rest := []) C0 hW1 hl.1 (w2_back O1) (nn := 0) rfl rfl (Nat.le_of_ble_eq_true rfl) rfl rfl rfl rfl rfl (kIs_ok (c := 7006) (by decide +kernel)) (kIs_ok (c := 7007) (by decide +kernel)) (kIs_ok (c := 7008) (by decide +kernel)) (d0 := 12) rfl ⟨_, rfl⟩ (by rw [hp1]; exact ham) ⟨rfl, trivial⟩ (Nat.le_of_ble_eq_true rfl) hcs hsl dl_267 (fun r2 m2 H2 locs2 ws2 tys2 O2 hp2 hW2 => ?_)
  obtain ⟨B2, e12⟩ := O2
  refine lv_pop hx hb dl_270 rfl ?_
  refine lv_goto (tgt := 1191) hx hb dl_271 (by decide) ?_
  exact KE m2 H2 locs2 ws2 tys2 B2.1 B2.2 (hp2.trans hp1) hW2
theorem law_read (C0 : lX p s m meth c b L xs adK adV) {mm : dM} {H : Heap} {locs : List Loc} {ws : va_W} {tys : List (ClassId × FieldType)} {ls : Array Slot} {ax am cs sl : Nat} (hO : Ok mm) (hT : Rf mm) (hW : lWc D s mm H locs ws tys) (hax : (ws.map Prod.fst)[0]? = some ax) (ham : (ws.map Prod.fst)[70]? = some am) (hl : lv_has ls 4 [(0, .ref b), (1, .ref ax), (2, .ref am), (3, .int i)]) (hi : 0 ≤ i.toInt ∧ i.toInt + 6 ≤ L ∧ L ≤ 3072) (hcs : cs ≤ 600000) (hsl : sl ≤ 7302250) (KE : ∀ (m2 : dM) (H2 : Heap) (locs2 : List Loc) (ws2 : va_W) (tys2 : List (ClassId × FieldType)), Ok m2 → Rf m2 → ws2.map Prod.fst = ws.map Prod.fst → lWc D s m2 H2 locs2 ws2 tys2 → W p l e room_1 s m #[Value.ref b] below meth c H2 locs2 cs sl Q (F0 m 1191 ls [])) : W p l e room_1 s m #[Value.ref b] below meth c H locs cs sl Q (F0 m 274 ls []) := by
  obtain ⟨⟨hx, hb, -, -, -, -, -, -, -, -⟩, -, -⟩ := id C0
  refine lv_aload_n hx hb dl_274 rfl (lv_at hl 1 rfl) ?_
  refine law_callC (N := tM246) (Y := tY246) (mm := mm) (Qm := fun r m' => Mr mm r m') (as := []) (vs := []) (rest := []) C0 hW hl.1 (w1_read ⟨hO, hT⟩) (nn := 1) rfl rfl (Nat.le_of_ble_eq_true rfl) rfl rfl rfl rfl rfl (kIs_ok (c := 3079) (by decide +kernel)) (kIs_ok (c := 3080) (by decide +kernel)) (kIs_ok (c := 3081) (by decide +kernel)) (d0 := 11) rfl ⟨_, rfl⟩ hax trivial (Nat.le_of_ble_eq_true rfl) hcs hsl dl_275 (fun r1 m1 H1 locs1 ws1 tys1 O1 hp1 hW1 => ?_)
  refine lv_pop hx hb dl_278 rfl ?_
  refine lv_aload_n hx hb dl_279 rfl (lv_at hl 2 rfl) ?_
  refine law_callC (N := tM18) (Y := tY18) (mm := m1) (Qm := fun r m' => Bt m' ∧ r1 = r) (as := []) (vs := []) (rest := []) C0 hW1 hl.1 (w2_read O1) (nn := 1) rfl rfl (Nat.le_of_ble_eq_true rfl) rfl rfl rfl rfl rfl (kIs_ok (c := 7010) (by decide +kernel)) (kIs_ok (c := 7011) (by decide +kernel)) (kIs_ok (c := 7012) (by decide +kernel)) (d0 := 12) rfl ⟨_, rfl⟩ (by rw [hp1]; exact ham) trivial (Nat.le_of_ble_eq_true rfl) hcs hsl dl_280 (fun r2 m2 H2 locs2 ws2 tys2 O2 hp2 hW2 => ?_)
  obtain ⟨B2, e12⟩ := O2
  refine lv_pop hx hb dl_283 rfl ?_
  refine lv_goto (tgt := 1191) hx hb dl_284 (by decide) ?_
  exact KE m2 H2 locs2 ws2 tys2 B2.1 B2.2 (hp2.trans hp1) hW2
theorem law_place (C0 : lX p s m meth c b L xs adK adV) {mm : dM} {H : Heap} {locs : List Loc} {ws : va_W} {tys : List (ClassId × FieldType)} {ls : Array Slot} {ax am cs sl : Nat} (hO : Ok mm) (hT : Rf mm) (hW : lWc D s mm H locs ws tys) (hax : (ws.map Prod.fst)[0]? = some ax) (ham : (ws.map Prod.fst)[70]? = some am) (hl : lv_has ls 4 [(0, .ref b), (1, .ref ax), (2, .ref am), (3, .int i)]) (hi : 0 ≤ i.toInt ∧ i.toInt + 6 ≤ L ∧ L ≤ 3072) (hcs : cs ≤ 600000) (hsl : sl ≤ 7302250) (KE : ∀ (m2 : dM) (H2 : Heap) (locs2 : List Loc) (ws2 : va_W) (tys2 : List (ClassId × FieldType)), Ok m2 → Rf m2 → ws2.map Prod.fst = ws.map Prod.fst → lWc D s m2 H2 locs2 ws2 tys2 → W p l e room_1 s m #[Value.ref b] below meth c H2 locs2 cs sl Q (F0 m 1191 ls [])) : W p l e room_1 s m #[Value.ref b] below meth c H locs cs sl Q (F0 m 287 ls []) := by
  obtain ⟨⟨hx, hb, -, -, -, -, -, -, -, -⟩, -, -⟩ := id C0
  refine lv_aload_n hx hb dl_287 rfl (lv_at hl 1 rfl) ?_
  refine law_callC (N := tM247) (Y := tY247) (mm := mm) (Qm := fun r m' => Mw (E11p mm) mm r m') (as := []) (vs := []) (rest := []) C0 hW hl.1 (w1_place ⟨hO, hT⟩) (nn := 0) rfl rfl (Nat.le_of_ble_eq_true rfl) rfl rfl rfl rfl rfl (kIs_ok (c := 4061) (by decide +kernel)) (kIs_ok (c := 4062) (by decide +kernel)) (kIs_ok (c := 4063) (by decide +kernel)) (d0 := 11) rfl ⟨_, rfl⟩ hax trivial (Nat.le_of_ble_eq_true rfl) hcs hsl dl_288 (fun r1 m1 H1 locs1 ws1 tys1 O1 hp1 hW1 => ?_)
  refine lv_pop hx hb dl_291 rfl ?_
  refine lv_aload_n hx hb dl_292 rfl (lv_at hl 2 rfl) ?_
  refine law_callC (N := tM19) (Y := tY19) (mm := m1) (Qm := fun r m' => Bt m' ∧ r1 = r) (as := []) (vs := []) (rest := []) C0 hW1 hl.1 (w2_place O1) (nn := 0) rfl rfl (Nat.le_of_ble_eq_true rfl) rfl rfl rfl rfl rfl (kIs_ok (c := 7116) (by decide +kernel)) (kIs_ok (c := 7117) (by decide +kernel)) (kIs_ok (c := 7118) (by decide +kernel)) (d0 := 12) rfl ⟨_, rfl⟩ (by rw [hp1]; exact ham) trivial (Nat.le_of_ble_eq_true rfl) hcs hsl dl_293 (fun r2 m2 H2 locs2 ws2 tys2 O2 hp2 hW2 => ?_)
  obtain ⟨B2, e12⟩ := O2
  refine lv_pop hx hb dl_296 rfl ?_
  refine lv_goto (tgt := 1191) hx hb dl_297 (by decide) ?_
  exact KE m2 H2 locs2 ws2 tys2 B2.1 B2.2 (hp2.trans hp1) hW2
theorem law_flat (C0 : lX p s m meth c b L xs adK adV) {mm : dM} {H : Heap} {locs : List Loc} {ws : va_W} {tys : List (ClassId × FieldType)} {ls : Array Slot} {ax am cs sl : Nat} (hO : Ok mm) (hT : Rf mm) (hW : lWc D s mm H locs ws tys) (hax : (ws.map Prod.fst)[0]? = some ax) (ham : (ws.map Prod.fst)[70]? = some am) (hl : lv_has ls 4 [(0, .ref b), (1, .ref ax), (2, .ref am), (3, .int i)]) (hi : 0 ≤ i.toInt ∧ i.toInt + 6 ≤ L ∧ L ≤ 3072) (hcs : cs ≤ 600000) (hsl : sl ≤ 7302250) (KE : ∀ (m2 : dM) (H2 : Heap) (locs2 : List Loc) (ws2 : va_W) (tys2 : List (ClassId × FieldType)), Ok m2 → Rf m2 → ws2.map Prod.fst = ws.map Prod.fst → lWc D s m2 H2 locs2 ws2 tys2 → W p l e room_1 s m #[Value.ref b] below meth c H2 locs2 cs sl Q (F0 m 1191 ls [])) : W p l e room_1 s m #[Value.ref b] below meth c H locs cs sl Q (F0 m 300 ls []) := by
  obtain ⟨⟨hx, hb, -, -, -, -, -, -, -, -⟩, -, -⟩ := id C0
  refine lv_aload_n hx hb dl_300 rfl (lv_at hl 1 rfl) ?_
  refine law_arg (k := 1) C0 hW.2.2.2.1 hl hi (by decide) dl_301 dl_302 dl_303 dl_304 dl_305 ?_
  refine law_arg (k := 2) C0 hW.2.2.2.1 hl hi (by decide) dl_306 dl_307 dl_308 dl_309 dl_310 ?_
  refine law_callC (N := tM251) (Y := tY251) (mm := mm) (Qm := fun r m' => Md (fun H S P => (aFlt H S (xs (i + Int32.ofInt ((1 : Nat) : Int)).toNatClampNeg) (xs (i + Int32.ofInt ((2 : Nat) : Int)).toNatClampNeg), S, P)) r m') (as := [.inl (xs (i + Int32.ofInt ((1 : Nat) : Int)).toNatClampNeg), .inl (xs (i + Int32.ofInt ((2 : Nat) : Int)).toNatClampNeg)]) (vs := [.int (xs (i + Int32.ofInt ((1 : Nat) : Int)).toNatClampNeg), .int (xs (i + Int32.ofInt ((2 : Nat) : Int)).toNatClampNeg)]) (rest := []) C0 hW hl.1 (w1_flat ⟨hO, hT⟩) (nn := 1) rfl rfl (Nat.le_of_ble_eq_true rfl) rfl rfl rfl rfl rfl (kIs_ok (c := 4065) (by decide +kernel)) (kIs_ok (c := 4066) (by decide +kernel)) (kIs_ok (c := 4067) (by decide +kernel)) (d0 := 11) rfl ⟨_, rfl⟩ hax ⟨rfl, ⟨rfl, trivial⟩⟩ (Nat.le_of_ble_eq_true rfl) hcs hsl dl_311 (fun r1 m1 H1 locs1 ws1 tys1 O1 hp1 hW1 => ?_)
  refine lv_pop hx hb dl_314 rfl ?_
  refine lv_aload_n hx hb dl_315 rfl (lv_at hl 2 rfl) ?_
  refine law_arg (k := 1) C0 hW1.2.2.2.1 hl hi (by decide) dl_316 dl_317 dl_318 dl_319 dl_320 ?_
  refine law_arg (k := 2) C0 hW1.2.2.2.1 hl hi (by decide) dl_321 dl_322 dl_323 dl_324 dl_325 ?_
  refine law_callC (N := tM69) (Y := tY69) (mm := m1) (Qm := fun r m' => Bt m' ∧ r1 = r) (as := [.inl (xs (i + Int32.ofInt ((1 : Nat) : Int)).toNatClampNeg), .inl (xs (i + Int32.ofInt ((2 : Nat) : Int)).toNatClampNeg)]) (vs := [.int (xs (i + Int32.ofInt ((1 : Nat) : Int)).toNatClampNeg), .int (xs (i + Int32.ofInt ((2 : Nat) : Int)).toNatClampNeg)]) (rest := []) C0 hW1 hl.1 (w2_flat O1) (nn := 0) rfl rfl (Nat.le_of_ble_eq_true rfl) rfl rfl rfl rfl rfl (kIs_ok (c := 7120) (by decide +kernel)) (kIs_ok (c := 7121) (by decide +kernel)) (kIs_ok (c := 7122) (by decide +kernel)) (d0 := 12) rfl ⟨_, rfl⟩ (by rw [hp1]; exact ham) ⟨rfl, ⟨rfl, trivial⟩⟩ (Nat.le_of_ble_eq_true rfl) hcs hsl dl_326 (fun r2 m2 H2 locs2 ws2 tys2 O2 hp2 hW2 => ?_)
  obtain ⟨B2, e12⟩ := O2
  refine lv_pop hx hb dl_329 rfl ?_
  refine lv_goto (tgt := 1191) hx hb dl_330 (by decide) ?_
  exact KE m2 H2 locs2 ws2 tys2 B2.1 B2.2 (hp2.trans hp1) hW2
theorem law_wire (C0 : lX p s m meth c b L xs adK adV) {mm : dM} {H : Heap} {locs : List Loc} {ws : va_W} {tys : List (ClassId × FieldType)} {ls : Array Slot} {ax am cs sl : Nat} (hO : Ok mm) (hT : Rf mm) (hW : lWc D s mm H locs ws tys) (hax : (ws.map Prod.fst)[0]? = some ax) (ham : (ws.map Prod.fst)[70]? = some am) (hl : lv_has ls 4 [(0, .ref b), (1, .ref ax), (2, .ref am), (3, .int i)]) (hi : 0 ≤ i.toInt ∧ i.toInt + 6 ≤ L ∧ L ≤ 3072) (hcs : cs ≤ 600000) (hsl : sl ≤ 7302250) (KE : ∀ (m2 : dM) (H2 : Heap) (locs2 : List Loc) (ws2 : va_W) (tys2 : List (ClassId × FieldType)), Ok m2 → Rf m2 → ws2.map Prod.fst = ws.map Prod.fst → lWc D s m2 H2 locs2 ws2 tys2 → W p l e room_1 s m #[Value.ref b] below meth c H2 locs2 cs sl Q (F0 m 1191 ls [])) : W p l e room_1 s m #[Value.ref b] below meth c H locs cs sl Q (F0 m 333 ls []) := by
  obtain ⟨⟨hx, hb, -, -, -, -, -, -, -, -⟩, -, -⟩ := id C0
  refine lv_aload_n hx hb dl_333 rfl (lv_at hl 1 rfl) ?_
  refine law_arg (k := 1) C0 hW.2.2.2.1 hl hi (by decide) dl_334 dl_335 dl_336 dl_337 dl_338 ?_
  refine law_arg (k := 2) C0 hW.2.2.2.1 hl hi (by decide) dl_339 dl_340 dl_341 dl_342 dl_343 ?_
  refine law_callC (N := tM252) (Y := tY252) (mm := mm) (Qm := fun r m' => Md (fun H S P => (aWir H S (xs (i + Int32.ofInt ((1 : Nat) : Int)).toNatClampNeg) (xs (i + Int32.ofInt ((2 : Nat) : Int)).toNatClampNeg), S, P)) r m') (as := [.inl (xs (i + Int32.ofInt ((1 : Nat) : Int)).toNatClampNeg), .inl (xs (i + Int32.ofInt ((2 : Nat) : Int)).toNatClampNeg)]) (vs := [.int (xs (i + Int32.ofInt ((1 : Nat) : Int)).toNatClampNeg), .int (xs (i + Int32.ofInt ((2 : Nat) : Int)).toNatClampNeg)]) (rest := []) C0 hW hl.1 (w1_wire ⟨hO, hT⟩) (nn := 0) rfl rfl (Nat.le_of_ble_eq_true rfl) rfl rfl rfl rfl rfl (kIs_ok (c := 4139) (by decide +kernel)) (kIs_ok (c := 4140) (by decide +kernel)) (kIs_ok (c := 4141) (by decide +kernel)) (d0 := 11) rfl ⟨_, rfl⟩ hax ⟨rfl, ⟨rfl, trivial⟩⟩ (Nat.le_of_ble_eq_true rfl) hcs hsl dl_344 (fun r1 m1 H1 locs1 ws1 tys1 O1 hp1 hW1 => ?_)
  refine lv_pop hx hb dl_347 rfl ?_
  refine lv_aload_n hx hb dl_348 rfl (lv_at hl 2 rfl) ?_
  refine law_arg (k := 1) C0 hW1.2.2.2.1 hl hi (by decide) dl_349 dl_350 dl_351 dl_352 dl_353 ?_
  refine law_arg (k := 2) C0 hW1.2.2.2.1 hl hi (by decide) dl_354 dl_355 dl_356 dl_357 dl_358 ?_
  refine law_callC (N := tM71) (Y := tY71) (mm := m1) (Qm := fun r m' => Bt m' ∧ r1 = r) (as := [.inl (xs (i + Int32.ofInt ((1 : Nat) : Int)).toNatClampNeg), .inl (xs (i + Int32.ofInt ((2 : Nat) : Int)).toNatClampNeg)]) (vs := [.int (xs (i + Int32.ofInt ((1 : Nat) : Int)).toNatClampNeg), .int (xs (i + Int32.ofInt ((2 : Nat) : Int)).toNatClampNeg)]) (rest := []) C0 hW1 hl.1 (w2_wire O1) (nn := 0) rfl rfl (Nat.le_of_ble_eq_true rfl) rfl rfl rfl rfl rfl (kIs_ok (c := 7198) (by decide +kernel)) (kIs_ok (c := 7199) (by decide +kernel)) (kIs_ok (c := 7200) (by decide +kernel)) (d0 := 12) rfl ⟨_, rfl⟩ (by rw [hp1]; exact ham) ⟨rfl, ⟨rfl, trivial⟩⟩ (Nat.le_of_ble_eq_true rfl) hcs hsl dl_359 (fun r2 m2 H2 locs2 ws2 tys2 O2 hp2 hW2 => ?_)
  obtain ⟨B2, e12⟩ := O2
  refine lv_pop hx hb dl_362 rfl ?_
  refine lv_goto (tgt := 1191) hx hb dl_363 (by decide) ?_
  exact KE m2 H2 locs2 ws2 tys2 B2.1 B2.2 (hp2.trans hp1) hW2
theorem law_use (C0 : lX p s m meth c b L xs adK adV) {mm : dM} {H : Heap} {locs : List Loc} {ws : va_W} {tys : List (ClassId × FieldType)} {ls : Array Slot} {ax am cs sl : Nat} (hO : Ok mm) (hT : Rf mm) (hW : lWc D s mm H locs ws tys) (hax : (ws.map Prod.fst)[0]? = some ax) (ham : (ws.map Prod.fst)[70]? = some am) (hl : lv_has ls 4 [(0, .ref b), (1, .ref ax), (2, .ref am), (3, .int i)]) (hi : 0 ≤ i.toInt ∧ i.toInt + 6 ≤ L ∧ L ≤ 3072) (hcs : cs ≤ 600000) (hsl : sl ≤ 7302250) (KE : ∀ (m2 : dM) (H2 : Heap) (locs2 : List Loc) (ws2 : va_W) (tys2 : List (ClassId × FieldType)), Ok m2 → Rf m2 → ws2.map Prod.fst = ws.map Prod.fst → lWc D s m2 H2 locs2 ws2 tys2 → W p l e room_1 s m #[Value.ref b] below meth c H2 locs2 cs sl Q (F0 m 1191 ls [])) : W p l e room_1 s m #[Value.ref b] below meth c H locs cs sl Q (F0 m 366 ls []) := by
  obtain ⟨⟨hx, hb, -, -, -, -, -, -, -, -⟩, -, -⟩ := id C0
  refine lv_aload_n hx hb dl_366 rfl (lv_at hl 1 rfl) ?_
  refine law_arg (k := 1) C0 hW.2.2.2.1 hl hi (by decide) dl_367 dl_368 dl_369 dl_370 dl_371 ?_
  refine law_arg (k := 2) C0 hW.2.2.2.1 hl hi (by decide) dl_372 dl_373 dl_374 dl_375 dl_376 ?_
  refine law_callC (N := tM253) (Y := tY253) (mm := mm) (Qm := fun _ m' => Bt m') (as := [.inl (xs (i + Int32.ofInt ((1 : Nat) : Int)).toNatClampNeg), .inl (xs (i + Int32.ofInt ((2 : Nat) : Int)).toNatClampNeg)]) (vs := [.int (xs (i + Int32.ofInt ((1 : Nat) : Int)).toNatClampNeg), .int (xs (i + Int32.ofInt ((2 : Nat) : Int)).toNatClampNeg)]) (rest := []) C0 hW hl.1 (w1_use ⟨hO, hT⟩) (nn := 1) rfl rfl (Nat.le_of_ble_eq_true rfl) rfl rfl rfl rfl rfl (kIs_ok (c := 4172) (by decide +kernel)) (kIs_ok (c := 4173) (by decide +kernel)) (kIs_ok (c := 4174) (by decide +kernel)) (d0 := 11) rfl ⟨_, rfl⟩ hax ⟨rfl, ⟨rfl, trivial⟩⟩ (Nat.le_of_ble_eq_true rfl) hcs hsl dl_377 (fun r1 m1 H1 locs1 ws1 tys1 O1 hp1 hW1 => ?_)
  refine lv_pop hx hb dl_380 rfl ?_
  refine lv_aload_n hx hb dl_381 rfl (lv_at hl 2 rfl) ?_
  refine law_arg (k := 1) C0 hW1.2.2.2.1 hl hi (by decide) dl_382 dl_383 dl_384 dl_385 dl_386 ?_
  refine law_arg (k := 2) C0 hW1.2.2.2.1 hl hi (by decide) dl_387 dl_388 dl_389 dl_390 dl_391 ?_
  refine law_callC (N := tM72) (Y := tY72) (mm := m1) (Qm := fun _ m' => Bt m') (as := [.inl (xs (i + Int32.ofInt ((1 : Nat) : Int)).toNatClampNeg), .inl (xs (i + Int32.ofInt ((2 : Nat) : Int)).toNatClampNeg)]) (vs := [.int (xs (i + Int32.ofInt ((1 : Nat) : Int)).toNatClampNeg), .int (xs (i + Int32.ofInt ((2 : Nat) : Int)).toNatClampNeg)]) (rest := []) C0 hW1 hl.1 (w2_use O1) (nn := 0) rfl rfl (Nat.le_of_ble_eq_true rfl) rfl rfl rfl rfl rfl (kIs_ok (c := 7214) (by decide +kernel)) (kIs_ok (c := 7215) (by decide +kernel)) (kIs_ok (c := 7216) (by decide +kernel)) (d0 := 12) rfl ⟨_, rfl⟩ (by rw [hp1]; exact ham) ⟨rfl, ⟨rfl, trivial⟩⟩ (Nat.le_of_ble_eq_true rfl) hcs hsl dl_392 (fun r2 m2 H2 locs2 ws2 tys2 O2 hp2 hW2 => ?_)
  have B2 : Bt m2 := O2
  refine lv_pop hx hb dl_395 rfl ?_
  refine lv_goto (tgt := 1191) hx hb dl_396 (by decide) ?_
  exact KE m2 H2 locs2 ws2 tys2 B2.1 B2.2 (hp2.trans hp1) hW2
theorem law_agree0 (C0 : lX p s m meth c b L xs adK adV) (hz : xs (i + Int32.ofInt ((2 : Nat) : Int)).toNatClampNeg = 0) {mm : dM} {H : Heap} {locs : List Loc} {ws : va_W} {tys : List (ClassId × FieldType)} {ls : Array Slot} {ax am cs sl : Nat} (hO : Ok mm) (hT : Rf mm) (hW : lWc D s mm H locs ws tys) (hax : (ws.map Prod.fst)[0]? = some ax) (ham : (ws.map Prod.fst)[70]? = some am) (hl : lv_has ls 4 [(0, .ref b), (1, .ref ax), (2, .ref am), (3, .int i)]) (hi : 0 ≤ i.toInt ∧ i.toInt + 6 ≤ L ∧ L ≤ 3072) (hcs : cs ≤ 600000) (hsl : sl ≤ 7302250) (KE : ∀ (m2 : dM) (H2 : Heap) (locs2 : List Loc) (ws2 : va_W) (tys2 : List (ClassId × FieldType)), Ok m2 → Rf m2 → ws2.map Prod.fst = ws.map Prod.fst → lWc D s m2 H2 locs2 ws2 tys2 → W p l e room_1 s m #[Value.ref b] below meth c H2 locs2 cs sl Q (F0 m 1191 ls [])) : W p l e room_1 s m #[Value.ref b] below meth c H locs cs sl Q (F0 m 399 ls []) := by
  obtain ⟨⟨hx, hb, -, -, -, -, -, -, -, -⟩, -, -⟩ := id C0
  refine lv_aload_n hx hb dl_399 rfl (lv_at hl 1 rfl) ?_
  refine law_arg (k := 1) C0 hW.2.2.2.1 hl hi (by decide) dl_400 dl_401 dl_402 dl_403 dl_404 ?_
  refine law_arg (k := 2) C0 hW.2.2.2.1 hl hi (by decide) dl_405 dl_406 dl_407 dl_408 dl_409 ?_
  refine lv_if_eq (tgt := 417) hx hb dl_410 (by decide) (fun _ => ?_) (fun q => absurd hz q)
  refine lv_iconst (v := 0) hx hb dl_417 (by decide) ?_
  refine law_callC (N := tM254) (Y := tY254) (mm := mm) (Qm := fun r m' => Md (fun H S P => aAgr H S P (xs (i + Int32.ofInt ((1 : Nat) : Int)).toNatClampNeg) ((0 : Int32))) r m') (as := [.inl (xs (i + Int32.ofInt ((1 : Nat) : Int)).toNatClampNeg), .inl ((0 : Int32))]) (vs := [.int (xs (i + Int32.ofInt ((1 : Nat) : Int)).toNatClampNeg), .int ((0 : Int32))]) (rest := []) C0 hW hl.1 (w1_agree ⟨hO, hT⟩ (by decide)) (nn := 0) rfl rfl (Nat.le_of_ble_eq_true rfl) rfl rfl rfl rfl rfl (kIs_ok (c := 4184) (by decide +kernel)) (kIs_ok (c := 4185) (by decide +kernel)) (kIs_ok (c := 4186) (by decide +kernel)) (d0 := 11) rfl ⟨_, rfl⟩ hax ⟨rfl, ⟨rfl, trivial⟩⟩ (Nat.le_of_ble_eq_true rfl) hcs hsl dl_418 (fun r1 m1 H1 locs1 ws1 tys1 O1 hp1 hW1 => ?_)
  refine lv_pop hx hb dl_421 rfl ?_
  refine lv_aload_n hx hb dl_422 rfl (lv_at hl 2 rfl) ?_
  refine law_arg (k := 1) C0 hW1.2.2.2.1 hl hi (by decide) dl_423 dl_424 dl_425 dl_426 dl_427 ?_
  refine law_arg (k := 2) C0 hW1.2.2.2.1 hl hi (by decide) dl_428 dl_429 dl_430 dl_431 dl_432 ?_
  refine lv_if_eq (tgt := 440) hx hb dl_433 (by decide) (fun _ => ?_) (fun q => absurd hz q)
  refine lv_iconst (v := 0) hx hb dl_440 (by decide) ?_
  refine law_callC (N := tM74) (Y := tY74) (mm := m1) (Qm := fun r m' => Bt m' ∧ r1 = r) (as := [.inl (xs (i + Int32.ofInt ((1 : Nat) : Int)).toNatClampNeg), .inl ((0 : Int32))]) (vs := [.int (xs (i + Int32.ofInt ((1 : Nat) : Int)).toNatClampNeg), .int ((0 : Int32))]) (rest := []) C0 hW1 hl.1 (w2_agree O1 (by decide)) (nn := 0) rfl rfl (Nat.le_of_ble_eq_true rfl) rfl rfl rfl rfl rfl (kIs_ok (c := 7226) (by decide +kernel)) (kIs_ok (c := 7227) (by decide +kernel)) (kIs_ok (c := 7228) (by decide +kernel)) (d0 := 12) rfl ⟨_, rfl⟩ (by rw [hp1]; exact ham) ⟨rfl, ⟨rfl, trivial⟩⟩ (Nat.le_of_ble_eq_true rfl) hcs hsl dl_441 (fun r2 m2 H2 locs2 ws2 tys2 O2 hp2 hW2 => ?_)
  obtain ⟨B2, e12⟩ := O2
  refine lv_pop hx hb dl_444 rfl ?_
  refine lv_goto (tgt := 1191) hx hb dl_445 (by decide) ?_
  exact KE m2 H2 locs2 ws2 tys2 B2.1 B2.2 (hp2.trans hp1) hW2
theorem law_agree1 (C0 : lX p s m meth c b L xs adK adV) (hz : ¬ xs (i + Int32.ofInt ((2 : Nat) : Int)).toNatClampNeg = 0) {mm : dM} {H : Heap} {locs : List Loc} {ws : va_W} {tys : List (ClassId × FieldType)} {ls : Array Slot} {ax am cs sl : Nat} (hO : Ok mm) (hT : Rf mm) (hW : lWc D s mm H locs ws tys) (hax : (ws.map Prod.fst)[0]? = some ax) (ham : (ws.map Prod.fst)[70]? = some am) (hl : lv_has ls 4 [(0, .ref b), (1, .ref ax), (2, .ref am), (3, .int i)]) (hi : 0 ≤ i.toInt ∧ i.toInt + 6 ≤ L ∧ L ≤ 3072) (hcs : cs ≤ 600000) (hsl : sl ≤ 7302250) (KE : ∀ (m2 : dM) (H2 : Heap) (locs2 : List Loc) (ws2 : va_W) (tys2 : List (ClassId × FieldType)), Ok m2 → Rf m2 → ws2.map Prod.fst = ws.map Prod.fst → lWc D s m2 H2 locs2 ws2 tys2 → W p l e room_1 s m #[Value.ref b] below meth c H2 locs2 cs sl Q (F0 m 1191 ls [])) : W p l e room_1 s m #[Value.ref b] below meth c H locs cs sl Q (F0 m 399 ls []) := by
  obtain ⟨⟨hx, hb, -, -, -, -, -, -, -, -⟩, -, -⟩ := id C0
  refine lv_aload_n hx hb dl_399 rfl (lv_at hl 1 rfl) ?_
  refine law_arg (k := 1) C0 hW.2.2.2.1 hl hi (by decide) dl_400 dl_401 dl_402 dl_403 dl_404 ?_
  refine law_arg (k := 2) C0 hW.2.2.2.1 hl hi (by decide) dl_405 dl_406 dl_407 dl_408 dl_409 ?_
  refine lv_if_eq (tgt := 417) hx hb dl_410 (by decide) (fun q => absurd q hz) (fun _ => ?_)
  refine lv_iconst (v := 1) hx hb dl_413 (by decide) ?_
  refine lv_goto (tgt := 418) hx hb dl_414 (by decide) ?_
  refine law_callC (N := tM254) (Y := tY254) (mm := mm) (Qm := fun r m' => Md (fun H S P => aAgr H S P (xs (i + Int32.ofInt ((1 : Nat) : Int)).toNatClampNeg) ((1 : Int32))) r m') (as := [.inl (xs (i + Int32.ofInt ((1 : Nat) : Int)).toNatClampNeg), .inl ((1 : Int32))]) (vs := [.int (xs (i + Int32.ofInt ((1 : Nat) : Int)).toNatClampNeg), .int ((1 : Int32))]) (rest := []) C0 hW hl.1 (w1_agree ⟨hO, hT⟩ (by decide)) (nn := 0) rfl rfl (Nat.le_of_ble_eq_true rfl) rfl rfl rfl rfl rfl (kIs_ok (c := 4184) (by decide +kernel)) (kIs_ok (c := 4185) (by decide +kernel)) (kIs_ok (c := 4186) (by decide +kernel)) (d0 := 11) rfl ⟨_, rfl⟩ hax ⟨rfl, ⟨rfl, trivial⟩⟩ (Nat.le_of_ble_eq_true rfl) hcs hsl dl_418 (fun r1 m1 H1 locs1 ws1 tys1 O1 hp1 hW1 => ?_)
  refine lv_pop hx hb dl_421 rfl ?_
  refine lv_aload_n hx hb dl_422 rfl (lv_at hl 2 rfl) ?_
  refine law_arg (k := 1) C0 hW1.2.2.2.1 hl hi (by decide) dl_423 dl_424 dl_425 dl_426 dl_427 ?_
  refine law_arg (k := 2) C0 hW1.2.2.2.1 hl hi (by decide) dl_428 dl_429 dl_430 dl_431 dl_432 ?_
  refine lv_if_eq (tgt := 440) hx hb dl_433 (by decide) (fun q => absurd q hz) (fun _ => ?_)
  refine lv_iconst (v := 1) hx hb dl_436 (by decide) ?_
  refine lv_goto (tgt := 441) hx hb dl_437 (by decide) ?_
  refine law_callC (N := tM74) (Y := tY74) (mm := m1) (Qm := fun r m' => Bt m' ∧ r1 = r) (as := [.inl (xs (i + Int32.ofInt ((1 : Nat) : Int)).toNatClampNeg), .inl ((1 : Int32))]) (vs := [.int (xs (i + Int32.ofInt ((1 : Nat) : Int)).toNatClampNeg), .int ((1 : Int32))]) (rest := []) C0 hW1 hl.1 (w2_agree O1 (by decide)) (nn := 0) rfl rfl (Nat.le_of_ble_eq_true rfl) rfl rfl rfl rfl rfl (kIs_ok (c := 7226) (by decide +kernel)) (kIs_ok (c := 7227) (by decide +kernel)) (kIs_ok (c := 7228) (by decide +kernel)) (d0 := 12) rfl ⟨_, rfl⟩ (by rw [hp1]; exact ham) ⟨rfl, ⟨rfl, trivial⟩⟩ (Nat.le_of_ble_eq_true rfl) hcs hsl dl_441 (fun r2 m2 H2 locs2 ws2 tys2 O2 hp2 hW2 => ?_)
  obtain ⟨B2, e12⟩ := O2
  refine lv_pop hx hb dl_444 rfl ?_
  refine lv_goto (tgt := 1191) hx hb dl_445 (by decide) ?_
  exact KE m2 H2 locs2 ws2 tys2 B2.1 B2.2 (hp2.trans hp1) hW2
theorem law_mend (C0 : lX p s m meth c b L xs adK adV) {mm : dM} {H : Heap} {locs : List Loc} {ws : va_W} {tys : List (ClassId × FieldType)} {ls : Array Slot} {ax am cs sl : Nat} (hO : Ok mm) (hT : Rf mm) (hW : lWc D s mm H locs ws tys) (hax : (ws.map Prod.fst)[0]? = some ax) (ham : (ws.map Prod.fst)[70]? = some am) (hl : lv_has ls 4 [(0, .ref b), (1, .ref ax), (2, .ref am), (3, .int i)]) (hi : 0 ≤ i.toInt ∧ i.toInt + 6 ≤ L ∧ L ≤ 3072) (hcs : cs ≤ 600000) (hsl : sl ≤ 7302250) (KE : ∀ (m2 : dM) (H2 : Heap) (locs2 : List Loc) (ws2 : va_W) (tys2 : List (ClassId × FieldType)), Ok m2 → Rf m2 → ws2.map Prod.fst = ws.map Prod.fst → lWc D s m2 H2 locs2 ws2 tys2 → W p l e room_1 s m #[Value.ref b] below meth c H2 locs2 cs sl Q (F0 m 1191 ls [])) : W p l e room_1 s m #[Value.ref b] below meth c H locs cs sl Q (F0 m 448 ls []) := by
  obtain ⟨⟨hx, hb, -, -, -, -, -, -, -, -⟩, -, -⟩ := id C0
  refine lv_aload_n hx hb dl_448 rfl (lv_at hl 1 rfl) ?_
  refine law_arg (k := 1) C0 hW.2.2.2.1 hl hi (by decide) dl_449 dl_450 dl_451 dl_452 dl_453 ?_
  refine law_callC (N := tM255) (Y := tY255) (mm := mm) (Qm := fun r m' => Md (fun H S P => aMnd H S P (xs (i + Int32.ofInt ((1 : Nat) : Int)).toNatClampNeg)) r m') (as := [.inl (xs (i + Int32.ofInt ((1 : Nat) : Int)).toNatClampNeg)]) (vs := [.int (xs (i + Int32.ofInt ((1 : Nat) : Int)).toNatClampNeg)]) (rest := []) C0 hW hl.1 (w1_mend ⟨hO, hT⟩) (nn := 1) rfl rfl (Nat.le_of_ble_eq_true rfl) rfl rfl rfl rfl rfl (kIs_ok (c := 4197) (by decide +kernel)) (kIs_ok (c := 4198) (by decide +kernel)) (kIs_ok (c := 4199) (by decide +kernel)) (d0 := 11) rfl ⟨_, rfl⟩ hax ⟨rfl, trivial⟩ (Nat.le_of_ble_eq_true rfl) hcs hsl dl_454 (fun r1 m1 H1 locs1 ws1 tys1 O1 hp1 hW1 => ?_)
  refine lv_pop hx hb dl_457 rfl ?_
  refine lv_aload_n hx hb dl_458 rfl (lv_at hl 2 rfl) ?_
  refine law_arg (k := 1) C0 hW1.2.2.2.1 hl hi (by decide) dl_459 dl_460 dl_461 dl_462 dl_463 ?_
  refine law_callC (N := tM75) (Y := tY75) (mm := m1) (Qm := fun r m' => Bt m' ∧ r1 = r) (as := [.inl (xs (i + Int32.ofInt ((1 : Nat) : Int)).toNatClampNeg)]) (vs := [.int (xs (i + Int32.ofInt ((1 : Nat) : Int)).toNatClampNeg)]) (rest := []) C0 hW1 hl.1 (w2_mend O1) (nn := 0) rfl rfl (Nat.le_of_ble_eq_true rfl) rfl rfl rfl rfl rfl (kIs_ok (c := 7234) (by decide +kernel)) (kIs_ok (c := 7235) (by decide +kernel)) (kIs_ok (c := 7236) (by decide +kernel)) (d0 := 12) rfl ⟨_, rfl⟩ (by rw [hp1]; exact ham) ⟨rfl, trivial⟩ (Nat.le_of_ble_eq_true rfl) hcs hsl dl_464 (fun r2 m2 H2 locs2 ws2 tys2 O2 hp2 hW2 => ?_)
  obtain ⟨B2, e12⟩ := O2
  refine lv_pop hx hb dl_467 rfl ?_
  refine lv_goto (tgt := 1191) hx hb dl_468 (by decide) ?_
  exact KE m2 H2 locs2 ws2 tys2 B2.1 B2.2 (hp2.trans hp1) hW2
theorem law_thicken (C0 : lX p s m meth c b L xs adK adV) {mm : dM} {H : Heap} {locs : List Loc} {ws : va_W} {tys : List (ClassId × FieldType)} {ls : Array Slot} {ax am cs sl : Nat} (hO : Ok mm) (hT : Rf mm) (hW : lWc D s mm H locs ws tys) (hax : (ws.map Prod.fst)[0]? = some ax) (ham : (ws.map Prod.fst)[70]? = some am) (hl : lv_has ls 4 [(0, .ref b), (1, .ref ax), (2, .ref am), (3, .int i)]) (hi : 0 ≤ i.toInt ∧ i.toInt + 6 ≤ L ∧ L ≤ 3072) (hcs : cs ≤ 600000) (hsl : sl ≤ 7302250) (KE : ∀ (m2 : dM) (H2 : Heap) (locs2 : List Loc) (ws2 : va_W) (tys2 : List (ClassId × FieldType)), Ok m2 → Rf m2 → ws2.map Prod.fst = ws.map Prod.fst → lWc D s m2 H2 locs2 ws2 tys2 → W p l e room_1 s m #[Value.ref b] below meth c H2 locs2 cs sl Q (F0 m 1191 ls [])) : W p l e room_1 s m #[Value.ref b] below meth c H locs cs sl Q (F0 m 471 ls []) := by
  obtain ⟨⟨hx, hb, -, -, -, -, -, -, -, -⟩, -, -⟩ := id C0
  refine lv_aload_n hx hb dl_471 rfl (lv_at hl 1 rfl) ?_
  refine law_arg (k := 1) C0 hW.2.2.2.1 hl hi (by decide) dl_472 dl_473 dl_474 dl_475 dl_476 ?_
  refine law_callC (N := tM256) (Y := tY256) (mm := mm) (Qm := fun r m' => Md (fun H S P => aThk H S P (xs (i + Int32.ofInt ((1 : Nat) : Int)).toNatClampNeg)) r m') (as := [.inl (xs (i + Int32.ofInt ((1 : Nat) : Int)).toNatClampNeg)]) (vs := [.int (xs (i + Int32.ofInt ((1 : Nat) : Int)).toNatClampNeg)]) (rest := []) C0 hW hl.1 (w1_thicken ⟨hO, hT⟩) (nn := 1) rfl rfl (Nat.le_of_ble_eq_true rfl) rfl rfl rfl rfl rfl (kIs_ok (c := 4201) (by decide +kernel)) (kIs_ok (c := 4202) (by decide +kernel)) (kIs_ok (c := 4203) (by decide +kernel)) (d0 := 11) rfl ⟨_, rfl⟩ hax ⟨rfl, trivial⟩ (Nat.le_of_ble_eq_true rfl) hcs hsl dl_477 (fun r1 m1 H1 locs1 ws1 tys1 O1 hp1 hW1 => ?_)
  refine lv_pop hx hb dl_480 rfl ?_
  refine lv_aload_n hx hb dl_481 rfl (lv_at hl 2 rfl) ?_
  refine law_arg (k := 1) C0 hW1.2.2.2.1 hl hi (by decide) dl_482 dl_483 dl_484 dl_485 dl_486 ?_
  refine law_callC (N := tM76) (Y := tY76) (mm := m1) (Qm := fun r m' => Bt m' ∧ r1 = r) (as := [.inl (xs (i + Int32.ofInt ((1 : Nat) : Int)).toNatClampNeg)]) (vs := [.int (xs (i + Int32.ofInt ((1 : Nat) : Int)).toNatClampNeg)]) (rest := []) C0 hW1 hl.1 (w2_thicken O1) (nn := 0) rfl rfl (Nat.le_of_ble_eq_true rfl) rfl rfl rfl rfl rfl (kIs_ok (c := 7238) (by decide +kernel)) (kIs_ok (c := 7239) (by decide +kernel)) (kIs_ok (c := 8000) (by decide +kernel)) (d0 := 12) rfl ⟨_, rfl⟩ (by rw [hp1]; exact ham) ⟨rfl, trivial⟩ (Nat.le_of_ble_eq_true rfl) hcs hsl dl_487 (fun r2 m2 H2 locs2 ws2 tys2 O2 hp2 hW2 => ?_)
  obtain ⟨B2, e12⟩ := O2
  refine lv_pop hx hb dl_490 rfl ?_
  refine lv_goto (tgt := 1191) hx hb dl_491 (by decide) ?_
  exact KE m2 H2 locs2 ws2 tys2 B2.1 B2.2 (hp2.trans hp1) hW2
theorem law_pin0 (C0 : lX p s m meth c b L xs adK adV) (hz : xs (i + Int32.ofInt ((2 : Nat) : Int)).toNatClampNeg = 0) {mm : dM} {H : Heap} {locs : List Loc} {ws : va_W} {tys : List (ClassId × FieldType)} {ls : Array Slot} {ax am cs sl : Nat} (hO : Ok mm) (hT : Rf mm) (hW : lWc D s mm H locs ws tys) (hax : (ws.map Prod.fst)[0]? = some ax) (ham : (ws.map Prod.fst)[70]? = some am) (hl : lv_has ls 4 [(0, .ref b), (1, .ref ax), (2, .ref am), (3, .int i)]) (hi : 0 ≤ i.toInt ∧ i.toInt + 6 ≤ L ∧ L ≤ 3072) (hcs : cs ≤ 600000) (hsl : sl ≤ 7302250) (KE : ∀ (m2 : dM) (H2 : Heap) (locs2 : List Loc) (ws2 : va_W) (tys2 : List (ClassId × FieldType)), Ok m2 → Rf m2 → ws2.map Prod.fst = ws.map Prod.fst → lWc D s m2 H2 locs2 ws2 tys2 → W p l e room_1 s m #[Value.ref b] below meth c H2 locs2 cs sl Q (F0 m 1191 ls [])) : W p l e room_1 s m #[Value.ref b] below meth c H locs cs sl Q (F0 m 494 ls []) := by
  obtain ⟨⟨hx, hb, -, -, -, -, -, -, -, -⟩, -, -⟩ := id C0
  refine lv_aload_n hx hb dl_494 rfl (lv_at hl 1 rfl) ?_
  refine law_arg (k := 1) C0 hW.2.2.2.1 hl hi (by decide) dl_495 dl_496 dl_497 dl_498 dl_499 ?_
  refine law_arg (k := 2) C0 hW.2.2.2.1 hl hi (by decide) dl_500 dl_501 dl_502 dl_503 dl_504 ?_
  refine lv_if_eq (tgt := 512) hx hb dl_505 (by decide) (fun _ => ?_) (fun q => absurd hz q)
  refine lv_iconst (v := 0) hx hb dl_512 (by decide) ?_
  refine law_callC (N := tM257) (Y := tY257) (mm := mm) (Qm := fun r m' => Md (fun H S P => aPin H S P (xs (i + Int32.ofInt ((1 : Nat) : Int)).toNatClampNeg) ((0 : Int32))) r m') (as := [.inl (xs (i + Int32.ofInt ((1 : Nat) : Int)).toNatClampNeg), .inl ((0 : Int32))]) (vs := [.int (xs (i + Int32.ofInt ((1 : Nat) : Int)).toNatClampNeg), .int ((0 : Int32))]) (rest := []) C0 hW hl.1 (w1_pin ⟨hO, hT⟩ (by decide)) (nn := 0) rfl rfl (Nat.le_of_ble_eq_true rfl) rfl rfl rfl rfl rfl (kIs_ok (c := 4205) (by decide +kernel)) (kIs_ok (c := 4206) (by decide +kernel)) (kIs_ok (c := 4207) (by decide +kernel)) (d0 := 11) rfl ⟨_, rfl⟩ hax ⟨rfl, ⟨rfl, trivial⟩⟩ (Nat.le_of_ble_eq_true rfl) hcs hsl dl_513 (fun r1 m1 H1 locs1 ws1 tys1 O1 hp1 hW1 => ?_)
  refine lv_pop hx hb dl_516 rfl ?_
  refine lv_aload_n hx hb dl_517 rfl (lv_at hl 2 rfl) ?_
  refine law_arg (k := 1) C0 hW1.2.2.2.1 hl hi (by decide) dl_518 dl_519 dl_520 dl_521 dl_522 ?_
  refine law_arg (k := 2) C0 hW1.2.2.2.1 hl hi (by decide) dl_523 dl_524 dl_525 dl_526 dl_527 ?_
  refine lv_if_eq (tgt := 535) hx hb dl_528 (by decide) (fun _ => ?_) (fun q => absurd hz q)
  refine lv_iconst (v := 0) hx hb dl_535 (by decide) ?_
  refine law_callC (N := tM77) (Y := tY77) (mm := m1) (Qm := fun r m' => Bt m' ∧ r1 = r) (as := [.inl (xs (i + Int32.ofInt ((1 : Nat) : Int)).toNatClampNeg), .inl ((0 : Int32))]) (vs := [.int (xs (i + Int32.ofInt ((1 : Nat) : Int)).toNatClampNeg), .int ((0 : Int32))]) (rest := []) C0 hW1 hl.1 (w2_pin O1 (by decide)) (nn := 0) rfl rfl (Nat.le_of_ble_eq_true rfl) rfl rfl rfl rfl rfl (kIs_ok (c := 8002) (by decide +kernel)) (kIs_ok (c := 8003) (by decide +kernel)) (kIs_ok (c := 8004) (by decide +kernel)) (d0 := 12) rfl ⟨_, rfl⟩ (by rw [hp1]; exact ham) ⟨rfl, ⟨rfl, trivial⟩⟩ (Nat.le_of_ble_eq_true rfl) hcs hsl dl_536 (fun r2 m2 H2 locs2 ws2 tys2 O2 hp2 hW2 => ?_)
  obtain ⟨B2, e12⟩ := O2
  refine lv_pop hx hb dl_539 rfl ?_
  refine lv_goto (tgt := 1191) hx hb dl_540 (by decide) ?_
  exact KE m2 H2 locs2 ws2 tys2 B2.1 B2.2 (hp2.trans hp1) hW2
theorem law_pin1 (C0 : lX p s m meth c b L xs adK adV) (hz : ¬ xs (i + Int32.ofInt ((2 : Nat) : Int)).toNatClampNeg = 0) {mm : dM} {H : Heap} {locs : List Loc} {ws : va_W} {tys : List (ClassId × FieldType)} {ls : Array Slot} {ax am cs sl : Nat} (hO : Ok mm) (hT : Rf mm) (hW : lWc D s mm H locs ws tys) (hax : (ws.map Prod.fst)[0]? = some ax) (ham : (ws.map Prod.fst)[70]? = some am) (hl : lv_has ls 4 [(0, .ref b), (1, .ref ax), (2, .ref am), (3, .int i)]) (hi : 0 ≤ i.toInt ∧ i.toInt + 6 ≤ L ∧ L ≤ 3072) (hcs : cs ≤ 600000) (hsl : sl ≤ 7302250) (KE : ∀ (m2 : dM) (H2 : Heap) (locs2 : List Loc) (ws2 : va_W) (tys2 : List (ClassId × FieldType)), Ok m2 → Rf m2 → ws2.map Prod.fst = ws.map Prod.fst → lWc D s m2 H2 locs2 ws2 tys2 → W p l e room_1 s m #[Value.ref b] below meth c H2 locs2 cs sl Q (F0 m 1191 ls [])) : W p l e room_1 s m #[Value.ref b] below meth c H locs cs sl Q (F0 m 494 ls []) := by
  obtain ⟨⟨hx, hb, -, -, -, -, -, -, -, -⟩, -, -⟩ := id C0
  refine lv_aload_n hx hb dl_494 rfl (lv_at hl 1 rfl) ?_
  refine law_arg (k := 1) C0 hW.2.2.2.1 hl hi (by decide) dl_495 dl_496 dl_497 dl_498 dl_499 ?_
  refine law_arg (k := 2) C0 hW.2.2.2.1 hl hi (by decide) dl_500 dl_501 dl_502 dl_503 dl_504 ?_
  refine lv_if_eq (tgt := 512) hx hb dl_505 (by decide) (fun q => absurd q hz) (fun _ => ?_)
  refine lv_iconst (v := 1) hx hb dl_508 (by decide) ?_
  refine lv_goto (tgt := 513) hx hb dl_509 (by decide) ?_
  refine law_callC (N := tM257) (Y := tY257) (mm := mm) (Qm := fun r m' => Md (fun H S P => aPin H S P (xs (i + Int32.ofInt ((1 : Nat) : Int)).toNatClampNeg) ((1 : Int32))) r m') (as := [.inl (xs (i + Int32.ofInt ((1 : Nat) : Int)).toNatClampNeg), .inl ((1 : Int32))]) (vs := [.int (xs (i + Int32.ofInt ((1 : Nat) : Int)).toNatClampNeg), .int ((1 : Int32))]) (rest := []) C0 hW hl.1 (w1_pin ⟨hO, hT⟩ (by decide)) (nn := 0) rfl rfl (Nat.le_of_ble_eq_true rfl) rfl rfl rfl rfl rfl (kIs_ok (c := 4205) (by decide +kernel)) (kIs_ok (c := 4206) (by decide +kernel)) (kIs_ok (c := 4207) (by decide +kernel)) (d0 := 11) rfl ⟨_, rfl⟩ hax ⟨rfl, ⟨rfl, trivial⟩⟩ (Nat.le_of_ble_eq_true rfl) hcs hsl dl_513 (fun r1 m1 H1 locs1 ws1 tys1 O1 hp1 hW1 => ?_)
  refine lv_pop hx hb dl_516 rfl ?_
  refine lv_aload_n hx hb dl_517 rfl (lv_at hl 2 rfl) ?_
  refine law_arg (k := 1) C0 hW1.2.2.2.1 hl hi (by decide) dl_518 dl_519 dl_520 dl_521 dl_522 ?_
  refine law_arg (k := 2) C0 hW1.2.2.2.1 hl hi (by decide) dl_523 dl_524 dl_525 dl_526 dl_527 ?_
  refine lv_if_eq (tgt := 535) hx hb dl_528 (by decide) (fun q => absurd q hz) (fun _ => ?_)
  refine lv_iconst (v := 1) hx hb dl_531 (by decide) ?_
  refine lv_goto (tgt := 536) hx hb dl_532 (by decide) ?_
  refine law_callC (N := tM77) (Y := tY77) (mm := m1) (Qm := fun r m' => Bt m' ∧ r1 = r) (as := [.inl (xs (i + Int32.ofInt ((1 : Nat) : Int)).toNatClampNeg), .inl ((1 : Int32))]) (vs := [.int (xs (i + Int32.ofInt ((1 : Nat) : Int)).toNatClampNeg), .int ((1 : Int32))]) (rest := []) C0 hW1 hl.1 (w2_pin O1 (by decide)) (nn := 0) rfl rfl (Nat.le_of_ble_eq_true rfl) rfl rfl rfl rfl rfl (kIs_ok (c := 8002) (by decide +kernel)) (kIs_ok (c := 8003) (by decide +kernel)) (kIs_ok (c := 8004) (by decide +kernel)) (d0 := 12) rfl ⟨_, rfl⟩ (by rw [hp1]; exact ham) ⟨rfl, ⟨rfl, trivial⟩⟩ (Nat.le_of_ble_eq_true rfl) hcs hsl dl_536 (fun r2 m2 H2 locs2 ws2 tys2 O2 hp2 hW2 => ?_)
  obtain ⟨B2, e12⟩ := O2
  refine lv_pop hx hb dl_539 rfl ?_
  refine lv_goto (tgt := 1191) hx hb dl_540 (by decide) ?_
  exact KE m2 H2 locs2 ws2 tys2 B2.1 B2.2 (hp2.trans hp1) hW2
theorem law_hours (C0 : lX p s m meth c b L xs adK adV) {mm : dM} {H : Heap} {locs : List Loc} {ws : va_W} {tys : List (ClassId × FieldType)} {ls : Array Slot} {ax am cs sl : Nat} (hO : Ok mm) (hT : Rf mm) (hW : lWc D s mm H locs ws tys) (hax : (ws.map Prod.fst)[0]? = some ax) (ham : (ws.map Prod.fst)[70]? = some am) (hl : lv_has ls 4 [(0, .ref b), (1, .ref ax), (2, .ref am), (3, .int i)]) (hi : 0 ≤ i.toInt ∧ i.toInt + 6 ≤ L ∧ L ≤ 3072) (hcs : cs ≤ 600000) (hsl : sl ≤ 7302250) (KE : ∀ (m2 : dM) (H2 : Heap) (locs2 : List Loc) (ws2 : va_W) (tys2 : List (ClassId × FieldType)), Ok m2 → Rf m2 → ws2.map Prod.fst = ws.map Prod.fst → lWc D s m2 H2 locs2 ws2 tys2 → W p l e room_1 s m #[Value.ref b] below meth c H2 locs2 cs sl Q (F0 m 1191 ls [])) : W p l e room_1 s m #[Value.ref b] below meth c H locs cs sl Q (F0 m 543 ls []) := by
  obtain ⟨⟨hx, hb, -, -, -, -, -, -, -, -⟩, -, -⟩ := id C0
  refine lv_aload_n hx hb dl_543 rfl (lv_at hl 1 rfl) ?_
  refine law_arg (k := 1) C0 hW.2.2.2.1 hl hi (by decide) dl_544 dl_545 dl_546 dl_547 dl_548 ?_
  refine law_callC (N := tM258) (Y := tY258) (mm := mm) (Qm := fun r m' => Md (fun H S P => aHrs H S P (xs (i + Int32.ofInt ((1 : Nat) : Int)).toNatClampNeg)) r m') (as := [.inl (xs (i + Int32.ofInt ((1 : Nat) : Int)).toNatClampNeg)]) (vs := [.int (xs (i + Int32.ofInt ((1 : Nat) : Int)).toNatClampNeg)]) (rest := []) C0 hW hl.1 (w1_hours ⟨hO, hT⟩) (nn := 1) rfl rfl (Nat.le_of_ble_eq_true rfl) rfl rfl rfl rfl rfl (kIs_ok (c := 4209) (by decide +kernel)) (kIs_ok (c := 4210) (by decide +kernel)) (kIs_ok (c := 4211) (by decide +kernel)) (d0 := 11) rfl ⟨_, rfl⟩ hax ⟨rfl, trivial⟩ (Nat.le_of_ble_eq_true rfl) hcs hsl dl_549 (fun r1 m1 H1 locs1 ws1 tys1 O1 hp1 hW1 => ?_)
  refine lv_aload_n hx hb dl_552 rfl (lv_at hl 2 rfl) ?_
  refine law_arg (k := 1) C0 hW1.2.2.2.1 hl hi (by decide) dl_553 dl_554 dl_555 dl_556 dl_557 ?_
  refine law_callC (N := tM79) (Y := tY79) (mm := m1) (Qm := fun r m' => Bt m' ∧ r1 = r) (as := [.inl (xs (i + Int32.ofInt ((1 : Nat) : Int)).toNatClampNeg)]) (vs := [.int (xs (i + Int32.ofInt ((1 : Nat) : Int)).toNatClampNeg)]) (rest := [.int r1]) C0 hW1 hl.1 (w2_hours O1) (nn := 0) rfl rfl (Nat.le_of_ble_eq_true rfl) rfl rfl rfl rfl rfl (kIs_ok (c := 8006) (by decide +kernel)) (kIs_ok (c := 8007) (by decide +kernel)) (kIs_ok (c := 8008) (by decide +kernel)) (d0 := 12) rfl ⟨_, rfl⟩ (by rw [hp1]; exact ham) ⟨rfl, trivial⟩ (Nat.le_of_ble_eq_true rfl) hcs hsl dl_558 (fun r2 m2 H2 locs2 ws2 tys2 O2 hp2 hW2 => ?_)
  obtain ⟨B2, e12⟩ := O2
  exact lv_icmp_eq (tgt := 1191) hx hb dl_561 (by decide) (fun _ => KE m2 H2 locs2 ws2 tys2 B2.1 B2.2 (hp2.trans hp1) hW2) (fun q => absurd e12 q)
theorem law_undo (C0 : lX p s m meth c b L xs adK adV) {mm : dM} {H : Heap} {locs : List Loc} {ws : va_W} {tys : List (ClassId × FieldType)} {ls : Array Slot} {ax am cs sl : Nat} (hO : Ok mm) (hT : Rf mm) (hW : lWc D s mm H locs ws tys) (hax : (ws.map Prod.fst)[0]? = some ax) (ham : (ws.map Prod.fst)[70]? = some am) (hl : lv_has ls 4 [(0, .ref b), (1, .ref ax), (2, .ref am), (3, .int i)]) (hi : 0 ≤ i.toInt ∧ i.toInt + 6 ≤ L ∧ L ≤ 3072) (hcs : cs ≤ 600000) (hsl : sl ≤ 7302250) (KE : ∀ (m2 : dM) (H2 : Heap) (locs2 : List Loc) (ws2 : va_W) (tys2 : List (ClassId × FieldType)), Ok m2 → Rf m2 → ws2.map Prod.fst = ws.map Prod.fst → lWc D s m2 H2 locs2 ws2 tys2 → W p l e room_1 s m #[Value.ref b] below meth c H2 locs2 cs sl Q (F0 m 1191 ls [])) : W p l e room_1 s m #[Value.ref b] below meth c H locs cs sl Q (F0 m 566 ls []) := by
  obtain ⟨⟨hx, hb, -, -, -, -, -, -, -, -⟩, -, -⟩ := id C0
  refine lv_aload_n hx hb dl_566 rfl (lv_at hl 1 rfl) ?_
  refine law_callC (N := tM259) (Y := tY259) (mm := mm) (Qm := fun r m' => Md (fun _ S P => aUnd S P) r m') (as := []) (vs := []) (rest := []) C0 hW hl.1 (w1_undo ⟨hO, hT⟩) (nn := 0) rfl rfl (Nat.le_of_ble_eq_true rfl) rfl rfl rfl rfl rfl (kIs_ok (c := 5008) (by decide +kernel)) (kIs_ok (c := 5009) (by decide +kernel)) (kIs_ok (c := 5010) (by decide +kernel)) (d0 := 11) rfl ⟨_, rfl⟩ hax trivial (Nat.le_of_ble_eq_true rfl) hcs hsl dl_567 (fun r1 m1 H1 locs1 ws1 tys1 O1 hp1 hW1 => ?_)
  refine lv_pop hx hb dl_570 rfl ?_
  refine lv_aload_n hx hb dl_571 rfl (lv_at hl 2 rfl) ?_
  refine law_callC (N := tM80) (Y := tY80) (mm := m1) (Qm := fun r m' => Bt m' ∧ r1 = r) (as := []) (vs := []) (rest := []) C0 hW1 hl.1 (w2_undo O1) (nn := 1) rfl rfl (Nat.le_of_ble_eq_true rfl) rfl rfl rfl rfl rfl (kIs_ok (c := 8043) (by decide +kernel)) (kIs_ok (c := 8044) (by decide +kernel)) (kIs_ok (c := 8045) (by decide +kernel)) (d0 := 12) rfl ⟨_, rfl⟩ (by rw [hp1]; exact ham) trivial (Nat.le_of_ble_eq_true rfl) hcs hsl dl_572 (fun r2 m2 H2 locs2 ws2 tys2 O2 hp2 hW2 => ?_)
  obtain ⟨B2, e12⟩ := O2
  refine lv_pop hx hb dl_575 rfl ?_
  refine lv_goto (tgt := 1191) hx hb dl_576 (by decide) ?_
  exact KE m2 H2 locs2 ws2 tys2 B2.1 B2.2 (hp2.trans hp1) hW2
theorem law_way (C0 : lX p s m meth c b L xs adK adV) {mm : dM} {H : Heap} {locs : List Loc} {ws : va_W} {tys : List (ClassId × FieldType)} {ls : Array Slot} {ax am cs sl : Nat} (hO : Ok mm) (hT : Rf mm) (hW : lWc D s mm H locs ws tys) (hax : (ws.map Prod.fst)[0]? = some ax) (ham : (ws.map Prod.fst)[70]? = some am) (hl : lv_has ls 4 [(0, .ref b), (1, .ref ax), (2, .ref am), (3, .int i)]) (hi : 0 ≤ i.toInt ∧ i.toInt + 6 ≤ L ∧ L ≤ 3072) (hcs : cs ≤ 600000) (hsl : sl ≤ 7302250) (KE : ∀ (m2 : dM) (H2 : Heap) (locs2 : List Loc) (ws2 : va_W) (tys2 : List (ClassId × FieldType)), Ok m2 → Rf m2 → ws2.map Prod.fst = ws.map Prod.fst → lWc D s m2 H2 locs2 ws2 tys2 → W p l e room_1 s m #[Value.ref b] below meth c H2 locs2 cs sl Q (F0 m 1191 ls [])) : W p l e room_1 s m #[Value.ref b] below meth c H locs cs sl Q (F0 m 579 ls []) := by
  obtain ⟨⟨hx, hb, -, -, -, -, -, -, -, -⟩, -, -⟩ := id C0
  refine lv_aload_n hx hb dl_579 rfl (lv_at hl 1 rfl) ?_
  refine law_arg (k := 1) C0 hW.2.2.2.1 hl hi (by decide) dl_580 dl_581 dl_582 dl_583 dl_584 ?_
  refine law_arg (k := 2) C0 hW.2.2.2.1 hl hi (by decide) dl_585 dl_586 dl_587 dl_588 dl_589 ?_
  refine law_callC (N := tM260) (Y := tY260) (mm := mm) (Qm := fun r m' => Md (fun H S P => (aWay H S (xs (i + Int32.ofInt ((1 : Nat) : Int)).toNatClampNeg) (xs (i + Int32.ofInt ((2 : Nat) : Int)).toNatClampNeg), S, P)) r m') (as := [.inl (xs (i + Int32.ofInt ((1 : Nat) : Int)).toNatClampNeg), .inl (xs (i + Int32.ofInt ((2 : Nat) : Int)).toNatClampNeg)]) (vs := [.int (xs (i + Int32.ofInt ((1 : Nat) : Int)).toNatClampNeg), .int (xs (i + Int32.ofInt ((2 : Nat) : Int)).toNatClampNeg)]) (rest := []) C0 hW hl.1 (w1_way ⟨hO, hT⟩) (nn := 1) rfl rfl (Nat.le_of_ble_eq_true rfl) rfl rfl rfl rfl rfl (kIs_ok (c := 5020) (by decide +kernel)) (kIs_ok (c := 5021) (by decide +kernel)) (kIs_ok (c := 5022) (by decide +kernel)) (d0 := 11) rfl ⟨_, rfl⟩ hax ⟨rfl, ⟨rfl, trivial⟩⟩ (Nat.le_of_ble_eq_true rfl) hcs hsl dl_590 (fun r1 m1 H1 locs1 ws1 tys1 O1 hp1 hW1 => ?_)
  refine lv_pop hx hb dl_593 rfl ?_
  refine lv_aload_n hx hb dl_594 rfl (lv_at hl 2 rfl) ?_
  refine law_arg (k := 1) C0 hW1.2.2.2.1 hl hi (by decide) dl_595 dl_596 dl_597 dl_598 dl_599 ?_
  refine law_arg (k := 2) C0 hW1.2.2.2.1 hl hi (by decide) dl_600 dl_601 dl_602 dl_603 dl_604 ?_
  refine law_callC (N := tM81) (Y := tY81) (mm := m1) (Qm := fun r m' => Bt m' ∧ r1 = r) (as := [.inl (xs (i + Int32.ofInt ((1 : Nat) : Int)).toNatClampNeg), .inl (xs (i + Int32.ofInt ((2 : Nat) : Int)).toNatClampNeg)]) (vs := [.int (xs (i + Int32.ofInt ((1 : Nat) : Int)).toNatClampNeg), .int (xs (i + Int32.ofInt ((2 : Nat) : Int)).toNatClampNeg)]) (rest := []) C0 hW1 hl.1 (w2_way O1) (nn := 2) rfl rfl (Nat.le_of_ble_eq_true rfl) rfl rfl rfl rfl rfl (kIs_ok (c := 8047) (by decide +kernel)) (kIs_ok (c := 8048) (by decide +kernel)) (kIs_ok (c := 8049) (by decide +kernel)) (d0 := 12) rfl ⟨_, rfl⟩ (by rw [hp1]; exact ham) ⟨rfl, ⟨rfl, trivial⟩⟩ (Nat.le_of_ble_eq_true rfl) hcs hsl dl_605 (fun r2 m2 H2 locs2 ws2 tys2 O2 hp2 hW2 => ?_)
  obtain ⟨B2, e12⟩ := O2
  refine lv_pop hx hb dl_608 rfl ?_
  refine lv_goto (tgt := 1191) hx hb dl_609 (by decide) ?_
  exact KE m2 H2 locs2 ws2 tys2 B2.1 B2.2 (hp2.trans hp1) hW2
theorem law_peak (C0 : lX p s m meth c b L xs adK adV) {mm : dM} {H : Heap} {locs : List Loc} {ws : va_W} {tys : List (ClassId × FieldType)} {ls : Array Slot} {ax am cs sl : Nat} (hO : Ok mm) (hT : Rf mm) (hW : lWc D s mm H locs ws tys) (hax : (ws.map Prod.fst)[0]? = some ax) (ham : (ws.map Prod.fst)[70]? = some am) (hl : lv_has ls 4 [(0, .ref b), (1, .ref ax), (2, .ref am), (3, .int i)]) (hi : 0 ≤ i.toInt ∧ i.toInt + 6 ≤ L ∧ L ≤ 3072) (hcs : cs ≤ 600000) (hsl : sl ≤ 7302250) (KE : ∀ (m2 : dM) (H2 : Heap) (locs2 : List Loc) (ws2 : va_W) (tys2 : List (ClassId × FieldType)), Ok m2 → Rf m2 → ws2.map Prod.fst = ws.map Prod.fst → lWc D s m2 H2 locs2 ws2 tys2 → W p l e room_1 s m #[Value.ref b] below meth c H2 locs2 cs sl Q (F0 m 1191 ls [])) : W p l e room_1 s m #[Value.ref b] below meth c H locs cs sl Q (F0 m 612 ls []) := by
  obtain ⟨⟨hx, hb, -, -, -, -, -, -, -, -⟩, -, -⟩ := id C0
  refine lv_aload_n hx hb dl_612 rfl (lv_at hl 1 rfl) ?_
  refine law_arg (k := 1) C0 hW.2.2.2.1 hl hi (by decide) dl_613 dl_614 dl_615 dl_616 dl_617 ?_
  refine law_arg (k := 2) C0 hW.2.2.2.1 hl hi (by decide) dl_618 dl_619 dl_620 dl_621 dl_622 ?_
  refine law_arg (k := 3) C0 hW.2.2.2.1 hl hi (by decide) dl_623 dl_624 dl_625 dl_626 dl_627 ?_
  refine law_callC (N := tM261) (Y := tY261) (mm := mm) (Qm := fun r m' => Md (fun H S P => (aPk H S (xs (i + Int32.ofInt ((1 : Nat) : Int)).toNatClampNeg) (xs (i + Int32.ofInt ((2 : Nat) : Int)).toNatClampNeg) (xs (i + Int32.ofInt ((3 : Nat) : Int)).toNatClampNeg), S, P)) r m') (as := [.inl (xs (i + Int32.ofInt ((1 : Nat) : Int)).toNatClampNeg), .inl (xs (i + Int32.ofInt ((2 : Nat) : Int)).toNatClampNeg), .inl (xs (i + Int32.ofInt ((3 : Nat) : Int)).toNatClampNeg)]) (vs := [.int (xs (i + Int32.ofInt ((1 : Nat) : Int)).toNatClampNeg), .int (xs (i + Int32.ofInt ((2 : Nat) : Int)).toNatClampNeg), .int (xs (i + Int32.ofInt ((3 : Nat) : Int)).toNatClampNeg)]) (rest := []) C0 hW hl.1 (w1_peak ⟨hO, hT⟩) (nn := 0) rfl rfl (Nat.le_of_ble_eq_true rfl) rfl rfl rfl rfl rfl (kIs_ok (c := 5028) (by decide +kernel)) (kIs_ok (c := 5029) (by decide +kernel)) (kIs_ok (c := 5030) (by decide +kernel)) (d0 := 11) rfl ⟨_, rfl⟩ hax ⟨rfl, ⟨rfl, ⟨rfl, trivial⟩⟩⟩ (Nat.le_of_ble_eq_true rfl) hcs hsl dl_628 (fun r1 m1 H1 locs1 ws1 tys1 O1 hp1 hW1 => ?_)
  refine lv_pop hx hb dl_631 rfl ?_
  refine lv_aload_n hx hb dl_632 rfl (lv_at hl 2 rfl) ?_
  refine law_arg (k := 1) C0 hW1.2.2.2.1 hl hi (by decide) dl_633 dl_634 dl_635 dl_636 dl_637 ?_
  refine law_arg (k := 2) C0 hW1.2.2.2.1 hl hi (by decide) dl_638 dl_639 dl_640 dl_641 dl_642 ?_
  refine law_arg (k := 3) C0 hW1.2.2.2.1 hl hi (by decide) dl_643 dl_644 dl_645 dl_646 dl_647 ?_
  refine law_callC (N := tM83) (Y := tY83) (mm := m1) (Qm := fun r m' => Bt m' ∧ r1 = r) (as := [.inl (xs (i + Int32.ofInt ((1 : Nat) : Int)).toNatClampNeg), .inl (xs (i + Int32.ofInt ((2 : Nat) : Int)).toNatClampNeg), .inl (xs (i + Int32.ofInt ((3 : Nat) : Int)).toNatClampNeg)]) (vs := [.int (xs (i + Int32.ofInt ((1 : Nat) : Int)).toNatClampNeg), .int (xs (i + Int32.ofInt ((2 : Nat) : Int)).toNatClampNeg), .int (xs (i + Int32.ofInt ((3 : Nat) : Int)).toNatClampNeg)]) (rest := []) C0 hW1 hl.1 (w2_peak O1) (nn := 4) rfl rfl (Nat.le_of_ble_eq_true rfl) rfl rfl rfl rfl rfl (kIs_ok (c := 8051) (by decide +kernel)) (kIs_ok (c := 8052) (by decide +kernel)) (kIs_ok (c := 8053) (by decide +kernel)) (d0 := 12) rfl ⟨_, rfl⟩ (by rw [hp1]; exact ham) ⟨rfl, ⟨rfl, ⟨rfl, trivial⟩⟩⟩ (Nat.le_of_ble_eq_true rfl) hcs hsl dl_648 (fun r2 m2 H2 locs2 ws2 tys2 O2 hp2 hW2 => ?_)
  obtain ⟨B2, e12⟩ := O2
  refine lv_pop hx hb dl_651 rfl ?_
  refine lv_goto (tgt := 1191) hx hb dl_652 (by decide) ?_
  exact KE m2 H2 locs2 ws2 tys2 B2.1 B2.2 (hp2.trans hp1) hW2
theorem law_first (C0 : lX p s m meth c b L xs adK adV) {mm : dM} {H : Heap} {locs : List Loc} {ws : va_W} {tys : List (ClassId × FieldType)} {ls : Array Slot} {ax am cs sl : Nat} (hO : Ok mm) (hT : Rf mm) (hW : lWc D s mm H locs ws tys) (hax : (ws.map Prod.fst)[0]? = some ax) (ham : (ws.map Prod.fst)[70]? = some am) (hl : lv_has ls 4 [(0, .ref b), (1, .ref ax), (2, .ref am), (3, .int i)]) (hi : 0 ≤ i.toInt ∧ i.toInt + 6 ≤ L ∧ L ≤ 3072) (hcs : cs ≤ 600000) (hsl : sl ≤ 7302250) (KE : ∀ (m2 : dM) (H2 : Heap) (locs2 : List Loc) (ws2 : va_W) (tys2 : List (ClassId × FieldType)), Ok m2 → Rf m2 → ws2.map Prod.fst = ws.map Prod.fst → lWc D s m2 H2 locs2 ws2 tys2 → W p l e room_1 s m #[Value.ref b] below meth c H2 locs2 cs sl Q (F0 m 1191 ls [])) : W p l e room_1 s m #[Value.ref b] below meth c H locs cs sl Q (F0 m 655 ls []) := by
  obtain ⟨⟨hx, hb, -, -, -, -, -, -, -, -⟩, -, -⟩ := id C0
  refine lv_aload_n hx hb dl_655 rfl (lv_at hl 1 rfl) ?_
  refine law_arg (k := 1) C0 hW.2.2.2.1 hl hi (by decide) dl_656 dl_657 dl_658 dl_659 dl_660 ?_
  refine law_callC (N := tM262) (Y := tY262) (mm := mm) (Qm := fun r m' => Md (fun H S P => (aFst H S (xs (i + Int32.ofInt ((1 : Nat) : Int)).toNatClampNeg), S, P)) r m') (as := [.inl (xs (i + Int32.ofInt ((1 : Nat) : Int)).toNatClampNeg)]) (vs := [.int (xs (i + Int32.ofInt ((1 : Nat) : Int)).toNatClampNeg)]) (rest := []) C0 hW hl.1 (w1_first ⟨hO, hT⟩) (nn := 1) rfl rfl (Nat.le_of_ble_eq_true rfl) rfl rfl rfl rfl rfl (kIs_ok (c := 5041) (by decide +kernel)) (kIs_ok (c := 5042) (by decide +kernel)) (kIs_ok (c := 5043) (by decide +kernel)) (d0 := 11) rfl ⟨_, rfl⟩ hax ⟨rfl, trivial⟩ (Nat.le_of_ble_eq_true rfl) hcs hsl dl_661 (fun r1 m1 H1 locs1 ws1 tys1 O1 hp1 hW1 => ?_)
  refine lv_pop hx hb dl_664 rfl ?_
  refine lv_aload_n hx hb dl_665 rfl (lv_at hl 2 rfl) ?_
  refine law_arg (k := 1) C0 hW1.2.2.2.1 hl hi (by decide) dl_666 dl_667 dl_668 dl_669 dl_670 ?_
  refine law_callC (N := tM86) (Y := tY86) (mm := m1) (Qm := fun r m' => Bt m' ∧ r1 = r) (as := [.inl (xs (i + Int32.ofInt ((1 : Nat) : Int)).toNatClampNeg)]) (vs := [.int (xs (i + Int32.ofInt ((1 : Nat) : Int)).toNatClampNeg)]) (rest := []) C0 hW1 hl.1 (w2_first O1) (nn := 1) rfl rfl (Nat.le_of_ble_eq_true rfl) rfl rfl rfl rfl rfl (kIs_ok (c := 8059) (by decide +kernel)) (kIs_ok (c := 8060) (by decide +kernel)) (kIs_ok (c := 8061) (by decide +kernel)) (d0 := 12) rfl ⟨_, rfl⟩ (by rw [hp1]; exact ham) ⟨rfl, trivial⟩ (Nat.le_of_ble_eq_true rfl) hcs hsl dl_671 (fun r2 m2 H2 locs2 ws2 tys2 O2 hp2 hW2 => ?_)
  obtain ⟨B2, e12⟩ := O2
  refine lv_pop hx hb dl_674 rfl ?_
  refine lv_goto (tgt := 1191) hx hb dl_675 (by decide) ?_
  exact KE m2 H2 locs2 ws2 tys2 B2.1 B2.2 (hp2.trans hp1) hW2
theorem law_together (C0 : lX p s m meth c b L xs adK adV) {mm : dM} {H : Heap} {locs : List Loc} {ws : va_W} {tys : List (ClassId × FieldType)} {ls : Array Slot} {ax am cs sl : Nat} (hO : Ok mm) (hT : Rf mm) (hW : lWc D s mm H locs ws tys) (hax : (ws.map Prod.fst)[0]? = some ax) (ham : (ws.map Prod.fst)[70]? = some am) (hl : lv_has ls 4 [(0, .ref b), (1, .ref ax), (2, .ref am), (3, .int i)]) (hi : 0 ≤ i.toInt ∧ i.toInt + 6 ≤ L ∧ L ≤ 3072) (hcs : cs ≤ 600000) (hsl : sl ≤ 7302250) (KE : ∀ (m2 : dM) (H2 : Heap) (locs2 : List Loc) (ws2 : va_W) (tys2 : List (ClassId × FieldType)), Ok m2 → Rf m2 → ws2.map Prod.fst = ws.map Prod.fst → lWc D s m2 H2 locs2 ws2 tys2 → W p l e room_1 s m #[Value.ref b] below meth c H2 locs2 cs sl Q (F0 m 1191 ls [])) : W p l e room_1 s m #[Value.ref b] below meth c H locs cs sl Q (F0 m 678 ls []) := by
  obtain ⟨⟨hx, hb, -, -, -, -, -, -, -, -⟩, -, -⟩ := id C0
  refine lv_aload_n hx hb dl_678 rfl (lv_at hl 1 rfl) ?_
  refine law_arg (k := 1) C0 hW.2.2.2.1 hl hi (by decide) dl_679 dl_680 dl_681 dl_682 dl_683 ?_
  refine law_callC (N := tM263) (Y := tY263) (mm := mm) (Qm := fun r m' => Md (fun H S P => (aTg H S (xs (i + Int32.ofInt ((1 : Nat) : Int)).toNatClampNeg), S, P)) r m') (as := [.inl (xs (i + Int32.ofInt ((1 : Nat) : Int)).toNatClampNeg)]) (vs := [.int (xs (i + Int32.ofInt ((1 : Nat) : Int)).toNatClampNeg)]) (rest := []) C0 hW hl.1 (w1_together ⟨hO, hT⟩) (nn := 1) rfl rfl (Nat.le_of_ble_eq_true rfl) rfl rfl rfl rfl rfl (kIs_ok (c := 5060) (by decide +kernel)) (kIs_ok (c := 5061) (by decide +kernel)) (kIs_ok (c := 5062) (by decide +kernel)) (d0 := 11) rfl ⟨_, rfl⟩ hax ⟨rfl, trivial⟩ (Nat.le_of_ble_eq_true rfl) hcs hsl dl_684 (fun r1 m1 H1 locs1 ws1 tys1 O1 hp1 hW1 => ?_)
  refine lv_pop hx hb dl_687 rfl ?_
  refine lv_aload_n hx hb dl_688 rfl (lv_at hl 2 rfl) ?_
  refine law_arg (k := 1) C0 hW1.2.2.2.1 hl hi (by decide) dl_689 dl_690 dl_691 dl_692 dl_693 ?_
  refine law_callC (N := tM88) (Y := tY88) (mm := m1) (Qm := fun r m' => Bt m' ∧ r1 = r) (as := [.inl (xs (i + Int32.ofInt ((1 : Nat) : Int)).toNatClampNeg)]) (vs := [.int (xs (i + Int32.ofInt ((1 : Nat) : Int)).toNatClampNeg)]) (rest := []) C0 hW1 hl.1 (w2_together O1) (nn := 5) rfl rfl (Nat.le_of_ble_eq_true rfl) rfl rfl rfl rfl rfl (kIs_ok (c := 8070) (by decide +kernel)) (kIs_ok (c := 8071) (by decide +kernel)) (kIs_ok (c := 8072) (by decide +kernel)) (d0 := 12) rfl ⟨_, rfl⟩ (by rw [hp1]; exact ham) ⟨rfl, trivial⟩ (Nat.le_of_ble_eq_true rfl) hcs hsl dl_694 (fun r2 m2 H2 locs2 ws2 tys2 O2 hp2 hW2 => ?_)
  obtain ⟨B2, e12⟩ := O2
  refine lv_pop hx hb dl_697 rfl ?_
  refine lv_goto (tgt := 1191) hx hb dl_698 (by decide) ?_
  exact KE m2 H2 locs2 ws2 tys2 B2.1 B2.2 (hp2.trans hp1) hW2
theorem law_when (C0 : lX p s m meth c b L xs adK adV) {mm : dM} {H : Heap} {locs : List Loc} {ws : va_W} {tys : List (ClassId × FieldType)} {ls : Array Slot} {ax am cs sl : Nat} (hO : Ok mm) (hT : Rf mm) (hW : lWc D s mm H locs ws tys) (hax : (ws.map Prod.fst)[0]? = some ax) (ham : (ws.map Prod.fst)[70]? = some am) (hl : lv_has ls 4 [(0, .ref b), (1, .ref ax), (2, .ref am), (3, .int i)]) (hi : 0 ≤ i.toInt ∧ i.toInt + 6 ≤ L ∧ L ≤ 3072) (hcs : cs ≤ 600000) (hsl : sl ≤ 7302250) (KE : ∀ (m2 : dM) (H2 : Heap) (locs2 : List Loc) (ws2 : va_W) (tys2 : List (ClassId × FieldType)), Ok m2 → Rf m2 → ws2.map Prod.fst = ws.map Prod.fst → lWc D s m2 H2 locs2 ws2 tys2 → W p l e room_1 s m #[Value.ref b] below meth c H2 locs2 cs sl Q (F0 m 1191 ls [])) : W p l e room_1 s m #[Value.ref b] below meth c H locs cs sl Q (F0 m 701 ls []) := by
  obtain ⟨⟨hx, hb, -, -, -, -, -, -, -, -⟩, -, -⟩ := id C0
  refine lv_aload_n hx hb dl_701 rfl (lv_at hl 1 rfl) ?_
  refine law_arg (k := 1) C0 hW.2.2.2.1 hl hi (by decide) dl_702 dl_703 dl_704 dl_705 dl_706 ?_
  refine law_callC (N := tM264) (Y := tY264) (mm := mm) (Qm := fun r m' => Md (fun H S P => (aWn H S (xs (i + Int32.ofInt ((1 : Nat) : Int)).toNatClampNeg), S, P)) r m') (as := [.inl (xs (i + Int32.ofInt ((1 : Nat) : Int)).toNatClampNeg)]) (vs := [.int (xs (i + Int32.ofInt ((1 : Nat) : Int)).toNatClampNeg)]) (rest := []) C0 hW hl.1 (w1_when ⟨hO, hT⟩) (nn := 0) rfl rfl (Nat.le_of_ble_eq_true rfl) rfl rfl rfl rfl rfl (kIs_ok (c := 5077) (by decide +kernel)) (kIs_ok (c := 5078) (by decide +kernel)) (kIs_ok (c := 5079) (by decide +kernel)) (d0 := 11) rfl ⟨_, rfl⟩ hax ⟨rfl, trivial⟩ (Nat.le_of_ble_eq_true rfl) hcs hsl dl_707 (fun r1 m1 H1 locs1 ws1 tys1 O1 hp1 hW1 => ?_)
  refine lv_pop hx hb dl_710 rfl ?_
  refine lv_aload_n hx hb dl_711 rfl (lv_at hl 2 rfl) ?_
  refine law_arg (k := 1) C0 hW1.2.2.2.1 hl hi (by decide) dl_712 dl_713 dl_714 dl_715 dl_716 ?_
  refine law_callC (N := tM90) (Y := tY90) (mm := m1) (Qm := fun r m' => Bt m' ∧ r1 = r) (as := [.inl (xs (i + Int32.ofInt ((1 : Nat) : Int)).toNatClampNeg)]) (vs := [.int (xs (i + Int32.ofInt ((1 : Nat) : Int)).toNatClampNeg)]) (rest := []) C0 hW1 hl.1 (w2_when O1) (nn := 2) rfl rfl (Nat.le_of_ble_eq_true rfl) rfl rfl rfl rfl rfl (kIs_ok (c := 8078) (by decide +kernel)) (kIs_ok (c := 8079) (by decide +kernel)) (kIs_ok (c := 8080) (by decide +kernel)) (d0 := 12) rfl ⟨_, rfl⟩ (by rw [hp1]; exact ham) ⟨rfl, trivial⟩ (Nat.le_of_ble_eq_true rfl) hcs hsl dl_717 (fun r2 m2 H2 locs2 ws2 tys2 O2 hp2 hW2 => ?_)
  obtain ⟨B2, e12⟩ := O2
  refine lv_pop hx hb dl_720 rfl ?_
  refine lv_goto (tgt := 1191) hx hb dl_721 (by decide) ?_
  exact KE m2 H2 locs2 ws2 tys2 B2.1 B2.2 (hp2.trans hp1) hW2
theorem law_thick (C0 : lX p s m meth c b L xs adK adV) {mm : dM} {H : Heap} {locs : List Loc} {ws : va_W} {tys : List (ClassId × FieldType)} {ls : Array Slot} {ax am cs sl : Nat} (hO : Ok mm) (hT : Rf mm) (hW : lWc D s mm H locs ws tys) (hax : (ws.map Prod.fst)[0]? = some ax) (ham : (ws.map Prod.fst)[70]? = some am) (hl : lv_has ls 4 [(0, .ref b), (1, .ref ax), (2, .ref am), (3, .int i)]) (hi : 0 ≤ i.toInt ∧ i.toInt + 6 ≤ L ∧ L ≤ 3072) (hcs : cs ≤ 600000) (hsl : sl ≤ 7302250) (KE : ∀ (m2 : dM) (H2 : Heap) (locs2 : List Loc) (ws2 : va_W) (tys2 : List (ClassId × FieldType)), Ok m2 → Rf m2 → ws2.map Prod.fst = ws.map Prod.fst → lWc D s m2 H2 locs2 ws2 tys2 → W p l e room_1 s m #[Value.ref b] below meth c H2 locs2 cs sl Q (F0 m 1191 ls [])) : W p l e room_1 s m #[Value.ref b] below meth c H locs cs sl Q (F0 m 724 ls []) := by
  obtain ⟨⟨hx, hb, -, -, -, -, -, -, -, -⟩, -, -⟩ := id C0
  refine lv_aload_n hx hb dl_724 rfl (lv_at hl 1 rfl) ?_
  refine law_arg (k := 1) C0 hW.2.2.2.1 hl hi (by decide) dl_725 dl_726 dl_727 dl_728 dl_729 ?_
  refine law_callC (N := tM265) (Y := tY265) (mm := mm) (Qm := fun r m' => Md (fun H S P => (aTck H S (xs (i + Int32.ofInt ((1 : Nat) : Int)).toNatClampNeg), S, P)) r m') (as := [.inl (xs (i + Int32.ofInt ((1 : Nat) : Int)).toNatClampNeg)]) (vs := [.int (xs (i + Int32.ofInt ((1 : Nat) : Int)).toNatClampNeg)]) (rest := []) C0 hW hl.1 (w1_thick ⟨hO, hT⟩) (nn := 0) rfl rfl (Nat.le_of_ble_eq_true rfl) rfl rfl rfl rfl rfl (kIs_ok (c := 5088) (by decide +kernel)) (kIs_ok (c := 5089) (by decide +kernel)) (kIs_ok (c := 5090) (by decide +kernel)) (d0 := 11) rfl ⟨_, rfl⟩ hax ⟨rfl, trivial⟩ (Nat.le_of_ble_eq_true rfl) hcs hsl dl_730 (fun r1 m1 H1 locs1 ws1 tys1 O1 hp1 hW1 => ?_)
  refine lv_pop hx hb dl_733 rfl ?_
  refine lv_aload_n hx hb dl_734 rfl (lv_at hl 2 rfl) ?_
  refine law_arg (k := 1) C0 hW1.2.2.2.1 hl hi (by decide) dl_735 dl_736 dl_737 dl_738 dl_739 ?_
  refine law_callC (N := tM91) (Y := tY91) (mm := m1) (Qm := fun r m' => Bt m' ∧ r1 = r) (as := [.inl (xs (i + Int32.ofInt ((1 : Nat) : Int)).toNatClampNeg)]) (vs := [.int (xs (i + Int32.ofInt ((1 : Nat) : Int)).toNatClampNeg)]) (rest := []) C0 hW1 hl.1 (w2_thick O1) (nn := 4) rfl rfl (Nat.le_of_ble_eq_true rfl) rfl rfl rfl rfl rfl (kIs_ok (c := 8086) (by decide +kernel)) (kIs_ok (c := 8087) (by decide +kernel)) (kIs_ok (c := 8088) (by decide +kernel)) (d0 := 12) rfl ⟨_, rfl⟩ (by rw [hp1]; exact ham) ⟨rfl, trivial⟩ (Nat.le_of_ble_eq_true rfl) hcs hsl dl_740 (fun r2 m2 H2 locs2 ws2 tys2 O2 hp2 hW2 => ?_)
  obtain ⟨B2, e12⟩ := O2
  refine lv_pop hx hb dl_743 rfl ?_
  refine lv_goto (tgt := 1191) hx hb dl_744 (by decide) ?_
  exact KE m2 H2 locs2 ws2 tys2 B2.1 B2.2 (hp2.trans hp1) hW2
theorem law_cut (C0 : lX p s m meth c b L xs adK adV) {mm : dM} {H : Heap} {locs : List Loc} {ws : va_W} {tys : List (ClassId × FieldType)} {ls : Array Slot} {ax am cs sl : Nat} (hO : Ok mm) (hT : Rf mm) (hW : lWc D s mm H locs ws tys) (hax : (ws.map Prod.fst)[0]? = some ax) (ham : (ws.map Prod.fst)[70]? = some am) (hl : lv_has ls 4 [(0, .ref b), (1, .ref ax), (2, .ref am), (3, .int i)]) (hi : 0 ≤ i.toInt ∧ i.toInt + 6 ≤ L ∧ L ≤ 3072) (hcs : cs ≤ 600000) (hsl : sl ≤ 7302250) (KE : ∀ (m2 : dM) (H2 : Heap) (locs2 : List Loc) (ws2 : va_W) (tys2 : List (ClassId × FieldType)), Ok m2 → Rf m2 → ws2.map Prod.fst = ws.map Prod.fst → lWc D s m2 H2 locs2 ws2 tys2 → W p l e room_1 s m #[Value.ref b] below meth c H2 locs2 cs sl Q (F0 m 1191 ls [])) : W p l e room_1 s m #[Value.ref b] below meth c H locs cs sl Q (F0 m 747 ls []) := by
  obtain ⟨⟨hx, hb, -, -, -, -, -, -, -, -⟩, -, -⟩ := id C0
  refine lv_aload_n hx hb dl_747 rfl (lv_at hl 1 rfl) ?_
  refine law_arg (k := 1) C0 hW.2.2.2.1 hl hi (by decide) dl_748 dl_749 dl_750 dl_751 dl_752 ?_
  refine law_arg (k := 2) C0 hW.2.2.2.1 hl hi (by decide) dl_753 dl_754 dl_755 dl_756 dl_757 ?_
  refine law_callC (N := tM266) (Y := tY266) (mm := mm) (Qm := fun r m' => Md (fun H S P => (aCt H S (xs (i + Int32.ofInt ((1 : Nat) : Int)).toNatClampNeg) (xs (i + Int32.ofInt ((2 : Nat) : Int)).toNatClampNeg), S, P)) r m') (as := [.inl (xs (i + Int32.ofInt ((1 : Nat) : Int)).toNatClampNeg), .inl (xs (i + Int32.ofInt ((2 : Nat) : Int)).toNatClampNeg)]) (vs := [.int (xs (i + Int32.ofInt ((1 : Nat) : Int)).toNatClampNeg), .int (xs (i + Int32.ofInt ((2 : Nat) : Int)).toNatClampNeg)]) (rest := []) C0 hW hl.1 (w1_cut ⟨hO, hT⟩) (nn := 1) rfl rfl (Nat.le_of_ble_eq_true rfl) rfl rfl rfl rfl rfl (kIs_ok (c := 5097) (by decide +kernel)) (kIs_ok (c := 5098) (by decide +kernel)) (kIs_ok (c := 5099) (by decide +kernel)) (d0 := 11) rfl ⟨_, rfl⟩ hax ⟨rfl, ⟨rfl, trivial⟩⟩ (Nat.le_of_ble_eq_true rfl) hcs hsl dl_758 (fun r1 m1 H1 locs1 ws1 tys1 O1 hp1 hW1 => ?_)
  refine lv_pop hx hb dl_761 rfl ?_
  refine lv_aload_n hx hb dl_762 rfl (lv_at hl 2 rfl) ?_
  refine law_arg (k := 1) C0 hW1.2.2.2.1 hl hi (by decide) dl_763 dl_764 dl_765 dl_766 dl_767 ?_
  refine law_arg (k := 2) C0 hW1.2.2.2.1 hl hi (by decide) dl_768 dl_769 dl_770 dl_771 dl_772 ?_
  refine law_callC (N := tM96) (Y := tY96) (mm := m1) (Qm := fun r m' => Bt m' ∧ r1 = r) (as := [.inl (xs (i + Int32.ofInt ((1 : Nat) : Int)).toNatClampNeg), .inl (xs (i + Int32.ofInt ((2 : Nat) : Int)).toNatClampNeg)]) (vs := [.int (xs (i + Int32.ofInt ((1 : Nat) : Int)).toNatClampNeg), .int (xs (i + Int32.ofInt ((2 : Nat) : Int)).toNatClampNeg)]) (rest := []) C0 hW1 hl.1 (w2_cut O1) (nn := 3) rfl rfl (Nat.le_of_ble_eq_true rfl) rfl rfl rfl rfl rfl (kIs_ok (c := 8090) (by decide +kernel)) (kIs_ok (c := 8091) (by decide +kernel)) (kIs_ok (c := 8092) (by decide +kernel)) (d0 := 12) rfl ⟨_, rfl⟩ (by rw [hp1]; exact ham) ⟨rfl, ⟨rfl, trivial⟩⟩ (Nat.le_of_ble_eq_true rfl) hcs hsl dl_773 (fun r2 m2 H2 locs2 ws2 tys2 O2 hp2 hW2 => ?_)
  obtain ⟨B2, e12⟩ := O2
  refine lv_pop hx hb dl_776 rfl ?_
  refine lv_goto (tgt := 1191) hx hb dl_777 (by decide) ?_
  exact KE m2 H2 locs2 ws2 tys2 B2.1 B2.2 (hp2.trans hp1) hW2
theorem law_share (C0 : lX p s m meth c b L xs adK adV) {mm : dM} {H : Heap} {locs : List Loc} {ws : va_W} {tys : List (ClassId × FieldType)} {ls : Array Slot} {ax am cs sl : Nat} (hO : Ok mm) (hT : Rf mm) (hW : lWc D s mm H locs ws tys) (hax : (ws.map Prod.fst)[0]? = some ax) (ham : (ws.map Prod.fst)[70]? = some am) (hl : lv_has ls 4 [(0, .ref b), (1, .ref ax), (2, .ref am), (3, .int i)]) (hi : 0 ≤ i.toInt ∧ i.toInt + 6 ≤ L ∧ L ≤ 3072) (hcs : cs ≤ 600000) (hsl : sl ≤ 7302250) (KE : ∀ (m2 : dM) (H2 : Heap) (locs2 : List Loc) (ws2 : va_W) (tys2 : List (ClassId × FieldType)), Ok m2 → Rf m2 → ws2.map Prod.fst = ws.map Prod.fst → lWc D s m2 H2 locs2 ws2 tys2 → W p l e room_1 s m #[Value.ref b] below meth c H2 locs2 cs sl Q (F0 m 1191 ls [])) : W p l e room_1 s m #[Value.ref b] below meth c H locs cs sl Q (F0 m 780 ls []) := by
  obtain ⟨⟨hx, hb, -, -, -, -, -, -, -, -⟩, -, -⟩ := id C0
  refine lv_aload_n hx hb dl_780 rfl (lv_at hl 1 rfl) ?_
  refine law_arg (k := 1) C0 hW.2.2.2.1 hl hi (by decide) dl_781 dl_782 dl_783 dl_784 dl_785 ?_
  refine law_arg (k := 2) C0 hW.2.2.2.1 hl hi (by decide) dl_786 dl_787 dl_788 dl_789 dl_790 ?_
  refine law_callC (N := tM267) (Y := tY267) (mm := mm) (Qm := fun r m' => Md (fun H S P => (aShr H S (xs (i + Int32.ofInt ((1 : Nat) : Int)).toNatClampNeg) (xs (i + Int32.ofInt ((2 : Nat) : Int)).toNatClampNeg), S, P)) r m') (as := [.inl (xs (i + Int32.ofInt ((1 : Nat) : Int)).toNatClampNeg), .inl (xs (i + Int32.ofInt ((2 : Nat) : Int)).toNatClampNeg)]) (vs := [.int (xs (i + Int32.ofInt ((1 : Nat) : Int)).toNatClampNeg), .int (xs (i + Int32.ofInt ((2 : Nat) : Int)).toNatClampNeg)]) (rest := []) C0 hW hl.1 (w1_share ⟨hO, hT⟩) (nn := 1) rfl rfl (Nat.le_of_ble_eq_true rfl) rfl rfl rfl rfl rfl (kIs_ok (c := 5120) (by decide +kernel)) (kIs_ok (c := 5121) (by decide +kernel)) (kIs_ok (c := 5122) (by decide +kernel)) (d0 := 11) rfl ⟨_, rfl⟩ hax ⟨rfl, ⟨rfl, trivial⟩⟩ (Nat.le_of_ble_eq_true rfl) hcs hsl dl_791 (fun r1 m1 H1 locs1 ws1 tys1 O1 hp1 hW1 => ?_)
  refine lv_pop hx hb dl_794 rfl ?_
  refine lv_aload_n hx hb dl_795 rfl (lv_at hl 2 rfl) ?_
  refine law_arg (k := 1) C0 hW1.2.2.2.1 hl hi (by decide) dl_796 dl_797 dl_798 dl_799 dl_800 ?_
  refine law_arg (k := 2) C0 hW1.2.2.2.1 hl hi (by decide) dl_801 dl_802 dl_803 dl_804 dl_805 ?_
  refine law_callC (N := tM97) (Y := tY97) (mm := m1) (Qm := fun r m' => Bt m' ∧ r1 = r) (as := [.inl (xs (i + Int32.ofInt ((1 : Nat) : Int)).toNatClampNeg), .inl (xs (i + Int32.ofInt ((2 : Nat) : Int)).toNatClampNeg)]) (vs := [.int (xs (i + Int32.ofInt ((1 : Nat) : Int)).toNatClampNeg), .int (xs (i + Int32.ofInt ((2 : Nat) : Int)).toNatClampNeg)]) (rest := []) C0 hW1 hl.1 (w2_share O1) (nn := 0) rfl rfl (Nat.le_of_ble_eq_true rfl) rfl rfl rfl rfl rfl (kIs_ok (c := 8111) (by decide +kernel)) (kIs_ok (c := 8112) (by decide +kernel)) (kIs_ok (c := 8113) (by decide +kernel)) (d0 := 12) rfl ⟨_, rfl⟩ (by rw [hp1]; exact ham) ⟨rfl, ⟨rfl, trivial⟩⟩ (Nat.le_of_ble_eq_true rfl) hcs hsl dl_806 (fun r2 m2 H2 locs2 ws2 tys2 O2 hp2 hW2 => ?_)
  obtain ⟨B2, e12⟩ := O2
  refine lv_pop hx hb dl_809 rfl ?_
  refine lv_goto (tgt := 1191) hx hb dl_810 (by decide) ?_
  exact KE m2 H2 locs2 ws2 tys2 B2.1 B2.2 (hp2.trans hp1) hW2
theorem law_without (C0 : lX p s m meth c b L xs adK adV) {mm : dM} {H : Heap} {locs : List Loc} {ws : va_W} {tys : List (ClassId × FieldType)} {ls : Array Slot} {ax am cs sl : Nat} (hO : Ok mm) (hT : Rf mm) (hW : lWc D s mm H locs ws tys) (hax : (ws.map Prod.fst)[0]? = some ax) (ham : (ws.map Prod.fst)[70]? = some am) (hl : lv_has ls 4 [(0, .ref b), (1, .ref ax), (2, .ref am), (3, .int i)]) (hi : 0 ≤ i.toInt ∧ i.toInt + 6 ≤ L ∧ L ≤ 3072) (hcs : cs ≤ 600000) (hsl : sl ≤ 7302250) (KE : ∀ (m2 : dM) (H2 : Heap) (locs2 : List Loc) (ws2 : va_W) (tys2 : List (ClassId × FieldType)), Ok m2 → Rf m2 → ws2.map Prod.fst = ws.map Prod.fst → lWc D s m2 H2 locs2 ws2 tys2 → W p l e room_1 s m #[Value.ref b] below meth c H2 locs2 cs sl Q (F0 m 1191 ls [])) : W p l e room_1 s m #[Value.ref b] below meth c H locs cs sl Q (F0 m 813 ls []) := by
  obtain ⟨⟨hx, hb, -, -, -, -, -, -, -, -⟩, -, -⟩ := id C0
  refine lv_aload_n hx hb dl_813 rfl (lv_at hl 1 rfl) ?_
  refine law_arg (k := 1) C0 hW.2.2.2.1 hl hi (by decide) dl_814 dl_815 dl_816 dl_817 dl_818 ?_
  refine law_callC (N := tM268) (Y := tY268) (mm := mm) (Qm := fun r m' => Md (fun H S P => (aWo H S (xs (i + Int32.ofInt ((1 : Nat) : Int)).toNatClampNeg), S, P)) r m') (as := [.inl (xs (i + Int32.ofInt ((1 : Nat) : Int)).toNatClampNeg)]) (vs := [.int (xs (i + Int32.ofInt ((1 : Nat) : Int)).toNatClampNeg)]) (rest := []) C0 hW hl.1 (w1_without ⟨hO, hT⟩) (nn := 0) rfl rfl (Nat.le_of_ble_eq_true rfl) rfl rfl rfl rfl rfl (kIs_ok (c := 5124) (by decide +kernel)) (kIs_ok (c := 5125) (by decide +kernel)) (kIs_ok (c := 5126) (by decide +kernel)) (d0 := 11) rfl ⟨_, rfl⟩ hax ⟨rfl, trivial⟩ (Nat.le_of_ble_eq_true rfl) hcs hsl dl_819 (fun r1 m1 H1 locs1 ws1 tys1 O1 hp1 hW1 => ?_)
  refine lv_pop hx hb dl_822 rfl ?_
  refine lv_aload_n hx hb dl_823 rfl (lv_at hl 2 rfl) ?_
  refine law_arg (k := 1) C0 hW1.2.2.2.1 hl hi (by decide) dl_824 dl_825 dl_826 dl_827 dl_828 ?_
  refine law_callC (N := tM99) (Y := tY99) (mm := m1) (Qm := fun r m' => Bt m' ∧ r1 = r) (as := [.inl (xs (i + Int32.ofInt ((1 : Nat) : Int)).toNatClampNeg)]) (vs := [.int (xs (i + Int32.ofInt ((1 : Nat) : Int)).toNatClampNeg)]) (rest := []) C0 hW1 hl.1 (w2_without O1) (nn := 0) rfl rfl (Nat.le_of_ble_eq_true rfl) rfl rfl rfl rfl rfl (kIs_ok (c := 8115) (by decide +kernel)) (kIs_ok (c := 8116) (by decide +kernel)) (kIs_ok (c := 8117) (by decide +kernel)) (d0 := 12) rfl ⟨_, rfl⟩ (by rw [hp1]; exact ham) ⟨rfl, trivial⟩ (Nat.le_of_ble_eq_true rfl) hcs hsl dl_829 (fun r2 m2 H2 locs2 ws2 tys2 O2 hp2 hW2 => ?_)
  obtain ⟨B2, e12⟩ := O2
  refine lv_pop hx hb dl_832 rfl ?_
  refine lv_goto (tgt := 1191) hx hb dl_833 (by decide) ?_
  exact KE m2 H2 locs2 ws2 tys2 B2.1 B2.2 (hp2.trans hp1) hW2
theorem law_needed (C0 : lX p s m meth c b L xs adK adV) {mm : dM} {H : Heap} {locs : List Loc} {ws : va_W} {tys : List (ClassId × FieldType)} {ls : Array Slot} {ax am cs sl : Nat} (hO : Ok mm) (hT : Rf mm) (hW : lWc D s mm H locs ws tys) (hax : (ws.map Prod.fst)[0]? = some ax) (ham : (ws.map Prod.fst)[70]? = some am) (hl : lv_has ls 4 [(0, .ref b), (1, .ref ax), (2, .ref am), (3, .int i)]) (hi : 0 ≤ i.toInt ∧ i.toInt + 6 ≤ L ∧ L ≤ 3072) (hcs : cs ≤ 600000) (hsl : sl ≤ 7302250) (KE : ∀ (m2 : dM) (H2 : Heap) (locs2 : List Loc) (ws2 : va_W) (tys2 : List (ClassId × FieldType)), Ok m2 → Rf m2 → ws2.map Prod.fst = ws.map Prod.fst → lWc D s m2 H2 locs2 ws2 tys2 → W p l e room_1 s m #[Value.ref b] below meth c H2 locs2 cs sl Q (F0 m 1191 ls [])) : W p l e room_1 s m #[Value.ref b] below meth c H locs cs sl Q (F0 m 836 ls []) := by
  obtain ⟨⟨hx, hb, -, -, -, -, -, -, -, -⟩, -, -⟩ := id C0
  refine lv_aload_n hx hb dl_836 rfl (lv_at hl 1 rfl) ?_
  refine law_callC (N := tM269) (Y := tY269) (mm := mm) (Qm := fun r m' => Md (fun H S P => (bs (ndp H S) (hoW H), S, P)) r m') (as := []) (vs := []) (rest := []) C0 hW hl.1 (w1_needed ⟨hO, hT⟩) (nn := 3) rfl rfl (Nat.le_of_ble_eq_true rfl) rfl rfl rfl rfl rfl (kIs_ok (c := 5133) (by decide +kernel)) (kIs_ok (c := 5134) (by decide +kernel)) (kIs_ok (c := 5135) (by decide +kernel)) (d0 := 11) rfl ⟨_, rfl⟩ hax trivial (Nat.le_of_ble_eq_true rfl) hcs hsl dl_837 (fun r1 m1 H1 locs1 ws1 tys1 O1 hp1 hW1 => ?_)
  refine lv_pop hx hb dl_840 rfl ?_
  refine lv_aload_n hx hb dl_841 rfl (lv_at hl 2 rfl) ?_
  refine law_callC (N := tM100) (Y := tY100) (mm := m1) (Qm := fun r m' => Bt m' ∧ r1 = r) (as := []) (vs := []) (rest := []) C0 hW1 hl.1 (w2_needed O1) (nn := 3) rfl rfl (Nat.le_of_ble_eq_true rfl) rfl rfl rfl rfl rfl (kIs_ok (c := 8127) (by decide +kernel)) (kIs_ok (c := 8128) (by decide +kernel)) (kIs_ok (c := 8129) (by decide +kernel)) (d0 := 12) rfl ⟨_, rfl⟩ (by rw [hp1]; exact ham) trivial (Nat.le_of_ble_eq_true rfl) hcs hsl dl_842 (fun r2 m2 H2 locs2 ws2 tys2 O2 hp2 hW2 => ?_)
  obtain ⟨B2, e12⟩ := O2
  refine lv_pop hx hb dl_845 rfl ?_
  refine lv_goto (tgt := 1191) hx hb dl_846 (by decide) ?_
  exact KE m2 H2 locs2 ws2 tys2 B2.1 B2.2 (hp2.trans hp1) hW2
theorem law_hottest (C0 : lX p s m meth c b L xs adK adV) {mm : dM} {H : Heap} {locs : List Loc} {ws : va_W} {tys : List (ClassId × FieldType)} {ls : Array Slot} {ax am cs sl : Nat} (hO : Ok mm) (hT : Rf mm) (hW : lWc D s mm H locs ws tys) (hax : (ws.map Prod.fst)[0]? = some ax) (ham : (ws.map Prod.fst)[70]? = some am) (hl : lv_has ls 4 [(0, .ref b), (1, .ref ax), (2, .ref am), (3, .int i)]) (hi : 0 ≤ i.toInt ∧ i.toInt + 6 ≤ L ∧ L ≤ 3072) (hcs : cs ≤ 600000) (hsl : sl ≤ 7302250) (KE : ∀ (m2 : dM) (H2 : Heap) (locs2 : List Loc) (ws2 : va_W) (tys2 : List (ClassId × FieldType)), Ok m2 → Rf m2 → ws2.map Prod.fst = ws.map Prod.fst → lWc D s m2 H2 locs2 ws2 tys2 → W p l e room_1 s m #[Value.ref b] below meth c H2 locs2 cs sl Q (F0 m 1191 ls [])) : W p l e room_1 s m #[Value.ref b] below meth c H locs cs sl Q (F0 m 849 ls []) := by
  obtain ⟨⟨hx, hb, -, -, -, -, -, -, -, -⟩, -, -⟩ := id C0
  refine lv_aload_n hx hb dl_849 rfl (lv_at hl 1 rfl) ?_
  refine law_arg (k := 1) C0 hW.2.2.2.1 hl hi (by decide) dl_850 dl_851 dl_852 dl_853 dl_854 ?_
  refine law_callC (N := tM270) (Y := tY270) (mm := mm) (Qm := fun r m' => Md (fun H S P => (aHot H S (xs (i + Int32.ofInt ((1 : Nat) : Int)).toNatClampNeg), S, P)) r m') (as := [.inl (xs (i + Int32.ofInt ((1 : Nat) : Int)).toNatClampNeg)]) (vs := [.int (xs (i + Int32.ofInt ((1 : Nat) : Int)).toNatClampNeg)]) (rest := []) C0 hW hl.1 (w1_hottest ⟨hO, hT⟩) (nn := 4) rfl rfl (Nat.le_of_ble_eq_true rfl) rfl rfl rfl rfl rfl (kIs_ok (c := 5137) (by decide +kernel)) (kIs_ok (c := 5138) (by decide +kernel)) (kIs_ok (c := 5139) (by decide +kernel)) (d0 := 11) rfl ⟨_, rfl⟩ hax ⟨rfl, trivial⟩ (Nat.le_of_ble_eq_true rfl) hcs hsl dl_855 (fun r1 m1 H1 locs1 ws1 tys1 O1 hp1 hW1 => ?_)
  refine lv_pop hx hb dl_858 rfl ?_
  refine lv_aload_n hx hb dl_859 rfl (lv_at hl 2 rfl) ?_
  refine law_arg (k := 1) C0 hW1.2.2.2.1 hl hi (by decide) dl_860 dl_861 dl_862 dl_863 dl_864 ?_
  refine law_callC (N := tM101) (Y := tY101) (mm := m1) (Qm := fun r m' => Bt m' ∧ r1 = r) (as := [.inl (xs (i + Int32.ofInt ((1 : Nat) : Int)).toNatClampNeg)]) (vs := [.int (xs (i + Int32.ofInt ((1 : Nat) : Int)).toNatClampNeg)]) (rest := []) C0 hW1 hl.1 (w2_hottest O1) (nn := 5) rfl rfl (Nat.le_of_ble_eq_true rfl) rfl rfl rfl rfl rfl (kIs_ok (c := 8131) (by decide +kernel)) (kIs_ok (c := 8132) (by decide +kernel)) (kIs_ok (c := 8133) (by decide +kernel)) (d0 := 12) rfl ⟨_, rfl⟩ (by rw [hp1]; exact ham) ⟨rfl, trivial⟩ (Nat.le_of_ble_eq_true rfl) hcs hsl dl_865 (fun r2 m2 H2 locs2 ws2 tys2 O2 hp2 hW2 => ?_)
  obtain ⟨B2, e12⟩ := O2
  refine lv_pop hx hb dl_868 rfl ?_
  refine lv_goto (tgt := 1191) hx hb dl_869 (by decide) ?_
  exact KE m2 H2 locs2 ws2 tys2 B2.1 B2.2 (hp2.trans hp1) hW2
theorem law_clash (C0 : lX p s m meth c b L xs adK adV) {mm : dM} {H : Heap} {locs : List Loc} {ws : va_W} {tys : List (ClassId × FieldType)} {ls : Array Slot} {ax am cs sl : Nat} (hO : Ok mm) (hT : Rf mm) (hW : lWc D s mm H locs ws tys) (hax : (ws.map Prod.fst)[0]? = some ax) (ham : (ws.map Prod.fst)[70]? = some am) (hl : lv_has ls 4 [(0, .ref b), (1, .ref ax), (2, .ref am), (3, .int i)]) (hi : 0 ≤ i.toInt ∧ i.toInt + 6 ≤ L ∧ L ≤ 3072) (hcs : cs ≤ 600000) (hsl : sl ≤ 7302250) (KE : ∀ (m2 : dM) (H2 : Heap) (locs2 : List Loc) (ws2 : va_W) (tys2 : List (ClassId × FieldType)), Ok m2 → Rf m2 → ws2.map Prod.fst = ws.map Prod.fst → lWc D s m2 H2 locs2 ws2 tys2 → W p l e room_1 s m #[Value.ref b] below meth c H2 locs2 cs sl Q (F0 m 1191 ls [])) : W p l e room_1 s m #[Value.ref b] below meth c H locs cs sl Q (F0 m 872 ls []) := by
  obtain ⟨⟨hx, hb, -, -, -, -, -, -, -, -⟩, -, -⟩ := id C0
  refine lv_aload_n hx hb dl_872 rfl (lv_at hl 1 rfl) ?_
  refine law_arg (k := 1) C0 hW.2.2.2.1 hl hi (by decide) dl_873 dl_874 dl_875 dl_876 dl_877 ?_
  refine law_arg (k := 2) C0 hW.2.2.2.1 hl hi (by decide) dl_878 dl_879 dl_880 dl_881 dl_882 ?_
  refine law_callC (N := tM271) (Y := tY271) (mm := mm) (Qm := fun r m' => Md (fun H S P => (aCls H S (xs (i + Int32.ofInt ((1 : Nat) : Int)).toNatClampNeg) (xs (i + Int32.ofInt ((2 : Nat) : Int)).toNatClampNeg), S, P)) r m') (as := [.inl (xs (i + Int32.ofInt ((1 : Nat) : Int)).toNatClampNeg), .inl (xs (i + Int32.ofInt ((2 : Nat) : Int)).toNatClampNeg)]) (vs := [.int (xs (i + Int32.ofInt ((1 : Nat) : Int)).toNatClampNeg), .int (xs (i + Int32.ofInt ((2 : Nat) : Int)).toNatClampNeg)]) (rest := []) C0 hW hl.1 (w1_clash ⟨hO, hT⟩) (nn := 0) rfl rfl (Nat.le_of_ble_eq_true rfl) rfl rfl rfl rfl rfl (kIs_ok (c := 5142) (by decide +kernel)) (kIs_ok (c := 5143) (by decide +kernel)) (kIs_ok (c := 5144) (by decide +kernel)) (d0 := 11) rfl ⟨_, rfl⟩ hax ⟨rfl, ⟨rfl, trivial⟩⟩ (Nat.le_of_ble_eq_true rfl) hcs hsl dl_883 (fun r1 m1 H1 locs1 ws1 tys1 O1 hp1 hW1 => ?_)
  refine lv_pop hx hb dl_886 rfl ?_
  refine lv_aload_n hx hb dl_887 rfl (lv_at hl 2 rfl) ?_
  refine law_arg (k := 1) C0 hW1.2.2.2.1 hl hi (by decide) dl_888 dl_889 dl_890 dl_891 dl_892 ?_
  refine law_arg (k := 2) C0 hW1.2.2.2.1 hl hi (by decide) dl_893 dl_894 dl_895 dl_896 dl_897 ?_
  refine law_callC (N := tM102) (Y := tY102) (mm := m1) (Qm := fun r m' => Bt m' ∧ r1 = r) (as := [.inl (xs (i + Int32.ofInt ((1 : Nat) : Int)).toNatClampNeg), .inl (xs (i + Int32.ofInt ((2 : Nat) : Int)).toNatClampNeg)]) (vs := [.int (xs (i + Int32.ofInt ((1 : Nat) : Int)).toNatClampNeg), .int (xs (i + Int32.ofInt ((2 : Nat) : Int)).toNatClampNeg)]) (rest := []) C0 hW1 hl.1 (w2_clash O1) (nn := 1) rfl rfl (Nat.le_of_ble_eq_true rfl) rfl rfl rfl rfl rfl (kIs_ok (c := 8135) (by decide +kernel)) (kIs_ok (c := 8136) (by decide +kernel)) (kIs_ok (c := 8137) (by decide +kernel)) (d0 := 12) rfl ⟨_, rfl⟩ (by rw [hp1]; exact ham) ⟨rfl, ⟨rfl, trivial⟩⟩ (Nat.le_of_ble_eq_true rfl) hcs hsl dl_898 (fun r2 m2 H2 locs2 ws2 tys2 O2 hp2 hW2 => ?_)
  obtain ⟨B2, e12⟩ := O2
  refine lv_pop hx hb dl_901 rfl ?_
  refine lv_goto (tgt := 1191) hx hb dl_902 (by decide) ?_
  exact KE m2 H2 locs2 ws2 tys2 B2.1 B2.2 (hp2.trans hp1) hW2
theorem law_then (C0 : lX p s m meth c b L xs adK adV) {mm : dM} {H : Heap} {locs : List Loc} {ws : va_W} {tys : List (ClassId × FieldType)} {ls : Array Slot} {ax am cs sl : Nat} (hO : Ok mm) (hT : Rf mm) (hW : lWc D s mm H locs ws tys) (hax : (ws.map Prod.fst)[0]? = some ax) (ham : (ws.map Prod.fst)[70]? = some am) (hl : lv_has ls 4 [(0, .ref b), (1, .ref ax), (2, .ref am), (3, .int i)]) (hi : 0 ≤ i.toInt ∧ i.toInt + 6 ≤ L ∧ L ≤ 3072) (hcs : cs ≤ 600000) (hsl : sl ≤ 7302250) (KE : ∀ (m2 : dM) (H2 : Heap) (locs2 : List Loc) (ws2 : va_W) (tys2 : List (ClassId × FieldType)), Ok m2 → Rf m2 → ws2.map Prod.fst = ws.map Prod.fst → lWc D s m2 H2 locs2 ws2 tys2 → W p l e room_1 s m #[Value.ref b] below meth c H2 locs2 cs sl Q (F0 m 1191 ls [])) : W p l e room_1 s m #[Value.ref b] below meth c H locs cs sl Q (F0 m 905 ls []) := by
  obtain ⟨⟨hx, hb, -, -, -, -, -, -, -, -⟩, -, -⟩ := id C0
  refine lv_aload_n hx hb dl_905 rfl (lv_at hl 1 rfl) ?_
  refine law_arg (k := 1) C0 hW.2.2.2.1 hl hi (by decide) dl_906 dl_907 dl_908 dl_909 dl_910 ?_
  refine law_arg (k := 2) C0 hW.2.2.2.1 hl hi (by decide) dl_911 dl_912 dl_913 dl_914 dl_915 ?_
  refine law_callC (N := tM272) (Y := tY272) (mm := mm) (Qm := fun r m' => Md (fun H S P => (aThn H S (xs (i + Int32.ofInt ((1 : Nat) : Int)).toNatClampNeg) (xs (i + Int32.ofInt ((2 : Nat) : Int)).toNatClampNeg), S, P)) r m') (as := [.inl (xs (i + Int32.ofInt ((1 : Nat) : Int)).toNatClampNeg), .inl (xs (i + Int32.ofInt ((2 : Nat) : Int)).toNatClampNeg)]) (vs := [.int (xs (i + Int32.ofInt ((1 : Nat) : Int)).toNatClampNeg), .int (xs (i + Int32.ofInt ((2 : Nat) : Int)).toNatClampNeg)]) (rest := []) C0 hW hl.1 (w1_then ⟨hO, hT⟩) (nn := 1) rfl rfl (Nat.le_of_ble_eq_true rfl) rfl rfl rfl rfl rfl (kIs_ok (c := 5151) (by decide +kernel)) (kIs_ok (c := 5152) (by decide +kernel)) (kIs_ok (c := 5153) (by decide +kernel)) (d0 := 11) rfl ⟨_, rfl⟩ hax ⟨rfl, ⟨rfl, trivial⟩⟩ (Nat.le_of_ble_eq_true rfl) hcs hsl dl_916 (fun r1 m1 H1 locs1 ws1 tys1 O1 hp1 hW1 => ?_)
  refine lv_pop hx hb dl_919 rfl ?_
  refine lv_aload_n hx hb dl_920 rfl (lv_at hl 2 rfl) ?_
  refine law_arg (k := 1) C0 hW1.2.2.2.1 hl hi (by decide) dl_921 dl_922 dl_923 dl_924 dl_925 ?_
  refine law_arg (k := 2) C0 hW1.2.2.2.1 hl hi (by decide) dl_926 dl_927 dl_928 dl_929 dl_930 ?_
  refine law_callC (N := tM103) (Y := tY103) (mm := m1) (Qm := fun r m' => Bt m' ∧ r1 = r) (as := [.inl (xs (i + Int32.ofInt ((1 : Nat) : Int)).toNatClampNeg), .inl (xs (i + Int32.ofInt ((2 : Nat) : Int)).toNatClampNeg)]) (vs := [.int (xs (i + Int32.ofInt ((1 : Nat) : Int)).toNatClampNeg), .int (xs (i + Int32.ofInt ((2 : Nat) : Int)).toNatClampNeg)]) (rest := []) C0 hW1 hl.1 (w2_then O1) (nn := 2) rfl rfl (Nat.le_of_ble_eq_true rfl) rfl rfl rfl rfl rfl (kIs_ok (c := 8139) (by decide +kernel)) (kIs_ok (c := 8140) (by decide +kernel)) (kIs_ok (c := 8141) (by decide +kernel)) (d0 := 12) rfl ⟨_, rfl⟩ (by rw [hp1]; exact ham) ⟨rfl, ⟨rfl, trivial⟩⟩ (Nat.le_of_ble_eq_true rfl) hcs hsl dl_931 (fun r2 m2 H2 locs2 ws2 tys2 O2 hp2 hW2 => ?_)
  obtain ⟨B2, e12⟩ := O2
  refine lv_pop hx hb dl_934 rfl ?_
  refine lv_goto (tgt := 1191) hx hb dl_935 (by decide) ?_
  exact KE m2 H2 locs2 ws2 tys2 B2.1 B2.2 (hp2.trans hp1) hW2
theorem law_litIn (C0 : lX p s m meth c b L xs adK adV) {mm : dM} {H : Heap} {locs : List Loc} {ws : va_W} {tys : List (ClassId × FieldType)} {ls : Array Slot} {ax am cs sl : Nat} (hO : Ok mm) (hT : Rf mm) (hW : lWc D s mm H locs ws tys) (hax : (ws.map Prod.fst)[0]? = some ax) (ham : (ws.map Prod.fst)[70]? = some am) (hl : lv_has ls 4 [(0, .ref b), (1, .ref ax), (2, .ref am), (3, .int i)]) (hi : 0 ≤ i.toInt ∧ i.toInt + 6 ≤ L ∧ L ≤ 3072) (hcs : cs ≤ 600000) (hsl : sl ≤ 7302250) (KE : ∀ (m2 : dM) (H2 : Heap) (locs2 : List Loc) (ws2 : va_W) (tys2 : List (ClassId × FieldType)), Ok m2 → Rf m2 → ws2.map Prod.fst = ws.map Prod.fst → lWc D s m2 H2 locs2 ws2 tys2 → W p l e room_1 s m #[Value.ref b] below meth c H2 locs2 cs sl Q (F0 m 1191 ls [])) : W p l e room_1 s m #[Value.ref b] below meth c H locs cs sl Q (F0 m 938 ls []) := by
  obtain ⟨⟨hx, hb, -, -, -, -, -, -, -, -⟩, -, -⟩ := id C0
  refine lv_aload_n hx hb dl_938 rfl (lv_at hl 1 rfl) ?_
  refine law_arg (k := 1) C0 hW.2.2.2.1 hl hi (by decide) dl_939 dl_940 dl_941 dl_942 dl_943 ?_
  refine law_arg (k := 2) C0 hW.2.2.2.1 hl hi (by decide) dl_944 dl_945 dl_946 dl_947 dl_948 ?_
  refine law_callC (N := tM273) (Y := tY273) (mm := mm) (Qm := fun r m' => Md (fun H S P => (aLin H S (xs (i + Int32.ofInt ((1 : Nat) : Int)).toNatClampNeg) (xs (i + Int32.ofInt ((2 : Nat) : Int)).toNatClampNeg), S, P)) r m') (as := [.inl (xs (i + Int32.ofInt ((1 : Nat) : Int)).toNatClampNeg), .inl (xs (i + Int32.ofInt ((2 : Nat) : Int)).toNatClampNeg)]) (vs := [.int (xs (i + Int32.ofInt ((1 : Nat) : Int)).toNatClampNeg), .int (xs (i + Int32.ofInt ((2 : Nat) : Int)).toNatClampNeg)]) (rest := []) C0 hW hl.1 (w1_litIn ⟨hO, hT⟩) (nn := 0) rfl rfl (Nat.le_of_ble_eq_true rfl) rfl rfl rfl rfl rfl (kIs_ok (c := 5160) (by decide +kernel)) (kIs_ok (c := 5161) (by decide +kernel)) (kIs_ok (c := 5162) (by decide +kernel)) (d0 := 11) rfl ⟨_, rfl⟩ hax ⟨rfl, ⟨rfl, trivial⟩⟩ (Nat.le_of_ble_eq_true rfl) hcs hsl dl_949 (fun r1 m1 H1 locs1 ws1 tys1 O1 hp1 hW1 => ?_)
  refine lv_pop hx hb dl_952 rfl ?_
  refine lv_aload_n hx hb dl_953 rfl (lv_at hl 2 rfl) ?_
  refine law_arg (k := 1) C0 hW1.2.2.2.1 hl hi (by decide) dl_954 dl_955 dl_956 dl_957 dl_958 ?_
  refine law_arg (k := 2) C0 hW1.2.2.2.1 hl hi (by decide) dl_959 dl_960 dl_961 dl_962 dl_963 ?_
  refine law_callC (N := tM104) (Y := tY104) (mm := m1) (Qm := fun r m' => Bt m' ∧ r1 = r) (as := [.inl (xs (i + Int32.ofInt ((1 : Nat) : Int)).toNatClampNeg), .inl (xs (i + Int32.ofInt ((2 : Nat) : Int)).toNatClampNeg)]) (vs := [.int (xs (i + Int32.ofInt ((1 : Nat) : Int)).toNatClampNeg), .int (xs (i + Int32.ofInt ((2 : Nat) : Int)).toNatClampNeg)]) (rest := []) C0 hW1 hl.1 (w2_litIn O1) (nn := 0) rfl rfl (Nat.le_of_ble_eq_true rfl) rfl rfl rfl rfl rfl (kIs_ok (c := 8143) (by decide +kernel)) (kIs_ok (c := 8144) (by decide +kernel)) (kIs_ok (c := 8145) (by decide +kernel)) (d0 := 12) rfl ⟨_, rfl⟩ (by rw [hp1]; exact ham) ⟨rfl, ⟨rfl, trivial⟩⟩ (Nat.le_of_ble_eq_true rfl) hcs hsl dl_964 (fun r2 m2 H2 locs2 ws2 tys2 O2 hp2 hW2 => ?_)
  obtain ⟨B2, e12⟩ := O2
  refine lv_pop hx hb dl_967 rfl ?_
  refine lv_goto (tgt := 1191) hx hb dl_968 (by decide) ?_
  exact KE m2 H2 locs2 ws2 tys2 B2.1 B2.2 (hp2.trans hp1) hW2
theorem law_year (C0 : lX p s m meth c b L xs adK adV) {mm : dM} {H : Heap} {locs : List Loc} {ws : va_W} {tys : List (ClassId × FieldType)} {ls : Array Slot} {ax am cs sl : Nat} (hO : Ok mm) (hT : Rf mm) (hW : lWc D s mm H locs ws tys) (hax : (ws.map Prod.fst)[0]? = some ax) (ham : (ws.map Prod.fst)[70]? = some am) (hl : lv_has ls 4 [(0, .ref b), (1, .ref ax), (2, .ref am), (3, .int i)]) (hi : 0 ≤ i.toInt ∧ i.toInt + 6 ≤ L ∧ L ≤ 3072) (hcs : cs ≤ 600000) (hsl : sl ≤ 7302250) (KE : ∀ (m2 : dM) (H2 : Heap) (locs2 : List Loc) (ws2 : va_W) (tys2 : List (ClassId × FieldType)), Ok m2 → Rf m2 → ws2.map Prod.fst = ws.map Prod.fst → lWc D s m2 H2 locs2 ws2 tys2 → W p l e room_1 s m #[Value.ref b] below meth c H2 locs2 cs sl Q (F0 m 1191 ls [])) : W p l e room_1 s m #[Value.ref b] below meth c H locs cs sl Q (F0 m 971 ls []) := by
  obtain ⟨⟨hx, hb, -, -, -, -, -, -, -, -⟩, -, -⟩ := id C0
  refine lv_aload_n hx hb dl_971 rfl (lv_at hl 1 rfl) ?_
  refine law_arg (k := 1) C0 hW.2.2.2.1 hl hi (by decide) dl_972 dl_973 dl_974 dl_975 dl_976 ?_
  refine law_arg (k := 2) C0 hW.2.2.2.1 hl hi (by decide) dl_977 dl_978 dl_979 dl_980 dl_981 ?_
  refine law_callC (N := tM274) (Y := tY274) (mm := mm) (Qm := fun r m' => Md (fun H S P => (aYr H S (xs (i + Int32.ofInt ((1 : Nat) : Int)).toNatClampNeg) (xs (i + Int32.ofInt ((2 : Nat) : Int)).toNatClampNeg), S, P)) r m') (as := [.inl (xs (i + Int32.ofInt ((1 : Nat) : Int)).toNatClampNeg), .inl (xs (i + Int32.ofInt ((2 : Nat) : Int)).toNatClampNeg)]) (vs := [.int (xs (i + Int32.ofInt ((1 : Nat) : Int)).toNatClampNeg), .int (xs (i + Int32.ofInt ((2 : Nat) : Int)).toNatClampNeg)]) (rest := []) C0 hW hl.1 (w1_year ⟨hO, hT⟩) (nn := 0) rfl rfl (Nat.le_of_ble_eq_true rfl) rfl rfl rfl rfl rfl (kIs_ok (c := 5164) (by decide +kernel)) (kIs_ok (c := 5165) (by decide +kernel)) (kIs_ok (c := 5166) (by decide +kernel)) (d0 := 11) rfl ⟨_, rfl⟩ hax ⟨rfl, ⟨rfl, trivial⟩⟩ (Nat.le_of_ble_eq_true rfl) hcs hsl dl_982 (fun r1 m1 H1 locs1 ws1 tys1 O1 hp1 hW1 => ?_)
  refine lv_pop hx hb dl_985 rfl ?_
  refine lv_aload_n hx hb dl_986 rfl (lv_at hl 2 rfl) ?_
  refine law_arg (k := 1) C0 hW1.2.2.2.1 hl hi (by decide) dl_987 dl_988 dl_989 dl_990 dl_991 ?_
  refine law_arg (k := 2) C0 hW1.2.2.2.1 hl hi (by decide) dl_992 dl_993 dl_994 dl_995 dl_996 ?_
  refine law_callC (N := tM105) (Y := tY105) (mm := m1) (Qm := fun r m' => Bt m' ∧ r1 = r) (as := [.inl (xs (i + Int32.ofInt ((1 : Nat) : Int)).toNatClampNeg), .inl (xs (i + Int32.ofInt ((2 : Nat) : Int)).toNatClampNeg)]) (vs := [.int (xs (i + Int32.ofInt ((1 : Nat) : Int)).toNatClampNeg), .int (xs (i + Int32.ofInt ((2 : Nat) : Int)).toNatClampNeg)]) (rest := []) C0 hW1 hl.1 (w2_year O1) (nn := 4) rfl rfl (Nat.le_of_ble_eq_true rfl) rfl rfl rfl rfl rfl (kIs_ok (c := 8147) (by decide +kernel)) (kIs_ok (c := 8148) (by decide +kernel)) (kIs_ok (c := 8149) (by decide +kernel)) (d0 := 12) rfl ⟨_, rfl⟩ (by rw [hp1]; exact ham) ⟨rfl, ⟨rfl, trivial⟩⟩ (Nat.le_of_ble_eq_true rfl) hcs hsl dl_997 (fun r2 m2 H2 locs2 ws2 tys2 O2 hp2 hW2 => ?_)
  obtain ⟨B2, e12⟩ := O2
  refine lv_pop hx hb dl_1000 rfl ?_
  refine lv_goto (tgt := 1191) hx hb dl_1001 (by decide) ?_
  exact KE m2 H2 locs2 ws2 tys2 B2.1 B2.2 (hp2.trans hp1) hW2
theorem law_tell0 (C0 : lX p s m meth c b L xs adK adV) (hz : xs (i + Int32.ofInt ((2 : Nat) : Int)).toNatClampNeg = 0) {mm : dM} {H : Heap} {locs : List Loc} {ws : va_W} {tys : List (ClassId × FieldType)} {ls : Array Slot} {ax am cs sl : Nat} (hO : Ok mm) (hT : Rf mm) (hW : lWc D s mm H locs ws tys) (hax : (ws.map Prod.fst)[0]? = some ax) (ham : (ws.map Prod.fst)[70]? = some am) (hl : lv_has ls 4 [(0, .ref b), (1, .ref ax), (2, .ref am), (3, .int i)]) (hi : 0 ≤ i.toInt ∧ i.toInt + 6 ≤ L ∧ L ≤ 3072) (hcs : cs ≤ 600000) (hsl : sl ≤ 7302250) (KE : ∀ (m2 : dM) (H2 : Heap) (locs2 : List Loc) (ws2 : va_W) (tys2 : List (ClassId × FieldType)), Ok m2 → Rf m2 → ws2.map Prod.fst = ws.map Prod.fst → lWc D s m2 H2 locs2 ws2 tys2 → W p l e room_1 s m #[Value.ref b] below meth c H2 locs2 cs sl Q (F0 m 1191 ls [])) : W p l e room_1 s m #[Value.ref b] below meth c H locs cs sl Q (F0 m 1004 ls []) := by
  obtain ⟨⟨hx, hb, -, -, -, -, -, -, -, -⟩, -, -⟩ := id C0
  refine lv_aload_n hx hb dl_1004 rfl (lv_at hl 1 rfl) ?_
  refine law_arg (k := 1) C0 hW.2.2.2.1 hl hi (by decide) dl_1005 dl_1006 dl_1007 dl_1008 dl_1009 ?_
  refine law_arg (k := 2) C0 hW.2.2.2.1 hl hi (by decide) dl_1010 dl_1011 dl_1012 dl_1013 dl_1014 ?_
  refine lv_if_eq (tgt := 1022) hx hb dl_1015 (by decide) (fun _ => ?_) (fun q => absurd hz q)
  refine lv_iconst (v := 0) hx hb dl_1022 (by decide) ?_
  refine law_callC (N := tM275) (Y := tY275) (mm := mm) (Qm := fun r m' => Mw (E11t (xs (i + Int32.ofInt ((1 : Nat) : Int)).toNatClampNeg) mm) mm r m') (as := [.inl (xs (i + Int32.ofInt ((1 : Nat) : Int)).toNatClampNeg), .inl ((0 : Int32))]) (vs := [.int (xs (i + Int32.ofInt ((1 : Nat) : Int)).toNatClampNeg), .int ((0 : Int32))]) (rest := []) C0 hW hl.1 (w1_tell ⟨hO, hT⟩ (by decide)) (nn := 0) rfl rfl (Nat.le_of_ble_eq_true rfl) rfl rfl rfl rfl rfl (kIs_ok (c := 5177) (by decide +kernel)) (kIs_ok (c := 5178) (by decide +kernel)) (kIs_ok (c := 5179) (by decide +kernel)) (d0 := 11) rfl ⟨_, rfl⟩ hax ⟨rfl, ⟨rfl, trivial⟩⟩ (Nat.le_of_ble_eq_true rfl) hcs hsl dl_1023 (fun r1 m1 H1 locs1 ws1 tys1 O1 hp1 hW1 => ?_)
  refine lv_pop hx hb dl_1026 rfl ?_
  refine lv_aload_n hx hb dl_1027 rfl (lv_at hl 2 rfl) ?_
  refine law_arg (k := 1) C0 hW1.2.2.2.1 hl hi (by decide) dl_1028 dl_1029 dl_1030 dl_1031 dl_1032 ?_
  refine law_arg (k := 2) C0 hW1.2.2.2.1 hl hi (by decide) dl_1033 dl_1034 dl_1035 dl_1036 dl_1037 ?_
  refine lv_if_eq (tgt := 1045) hx hb dl_1038 (by decide) (fun _ => ?_) (fun q => absurd hz q)
  refine lv_iconst (v := 0) hx hb dl_1045 (by decide) ?_
  refine law_callC (N := tM106) (Y := tY106) (mm := m1) (Qm := fun r m' => Bt m' ∧ r1 = r) (as := [.inl (xs (i + Int32.ofInt ((1 : Nat) : Int)).toNatClampNeg), .inl ((0 : Int32))]) (vs := [.int (xs (i + Int32.ofInt ((1 : Nat) : Int)).toNatClampNeg), .int ((0 : Int32))]) (rest := []) C0 hW1 hl.1 (w2_tell O1) (nn := 0) rfl rfl (Nat.le_of_ble_eq_true rfl) rfl rfl rfl rfl rfl (kIs_ok (c := 8151) (by decide +kernel)) (kIs_ok (c := 8152) (by decide +kernel)) (kIs_ok (c := 8153) (by decide +kernel)) (d0 := 12) rfl ⟨_, rfl⟩ (by rw [hp1]; exact ham) ⟨rfl, ⟨rfl, trivial⟩⟩ (Nat.le_of_ble_eq_true rfl) hcs hsl dl_1046 (fun r2 m2 H2 locs2 ws2 tys2 O2 hp2 hW2 => ?_)
  obtain ⟨B2, e12⟩ := O2
  refine lv_pop hx hb dl_1049 rfl ?_
  refine lv_goto (tgt := 1191) hx hb dl_1050 (by decide) ?_
  exact KE m2 H2 locs2 ws2 tys2 B2.1 B2.2 (hp2.trans hp1) hW2
theorem law_tell1 (C0 : lX p s m meth c b L xs adK adV) (hz : ¬ xs (i + Int32.ofInt ((2 : Nat) : Int)).toNatClampNeg = 0) {mm : dM} {H : Heap} {locs : List Loc} {ws : va_W} {tys : List (ClassId × FieldType)} {ls : Array Slot} {ax am cs sl : Nat} (hO : Ok mm) (hT : Rf mm) (hW : lWc D s mm H locs ws tys) (hax : (ws.map Prod.fst)[0]? = some ax) (ham : (ws.map Prod.fst)[70]? = some am) (hl : lv_has ls 4 [(0, .ref b), (1, .ref ax), (2, .ref am), (3, .int i)]) (hi : 0 ≤ i.toInt ∧ i.toInt + 6 ≤ L ∧ L ≤ 3072) (hcs : cs ≤ 600000) (hsl : sl ≤ 7302250) (KE : ∀ (m2 : dM) (H2 : Heap) (locs2 : List Loc) (ws2 : va_W) (tys2 : List (ClassId × FieldType)), Ok m2 → Rf m2 → ws2.map Prod.fst = ws.map Prod.fst → lWc D s m2 H2 locs2 ws2 tys2 → W p l e room_1 s m #[Value.ref b] below meth c H2 locs2 cs sl Q (F0 m 1191 ls [])) : W p l e room_1 s m #[Value.ref b] below meth c H locs cs sl Q (F0 m 1004 ls []) := by
  obtain ⟨⟨hx, hb, -, -, -, -, -, -, -, -⟩, -, -⟩ := id C0
  refine lv_aload_n hx hb dl_1004 rfl (lv_at hl 1 rfl) ?_
  refine law_arg (k := 1) C0 hW.2.2.2.1 hl hi (by decide) dl_1005 dl_1006 dl_1007 dl_1008 dl_1009 ?_
  refine law_arg (k := 2) C0 hW.2.2.2.1 hl hi (by decide) dl_1010 dl_1011 dl_1012 dl_1013 dl_1014 ?_
  refine lv_if_eq (tgt := 1022) hx hb dl_1015 (by decide) (fun q => absurd q hz) (fun _ => ?_)
  refine lv_iconst (v := 1) hx hb dl_1018 (by decide) ?_
  refine lv_goto (tgt := 1023) hx hb dl_1019 (by decide) ?_
  refine law_callC (N := tM275) (Y := tY275) (mm := mm) (Qm := fun r m' => Mw (E11t (xs (i + Int32.ofInt ((1 : Nat) : Int)).toNatClampNeg) mm) mm r m') (as := [.inl (xs (i + Int32.ofInt ((1 : Nat) : Int)).toNatClampNeg), .inl ((1 : Int32))]) (vs := [.int (xs (i + Int32.ofInt ((1 : Nat) : Int)).toNatClampNeg), .int ((1 : Int32))]) (rest := []) C0 hW hl.1 (w1_tell ⟨hO, hT⟩ (by decide)) (nn := 0) rfl rfl (Nat.le_of_ble_eq_true rfl) rfl rfl rfl rfl rfl (kIs_ok (c := 5177) (by decide +kernel)) (kIs_ok (c := 5178) (by decide +kernel)) (kIs_ok (c := 5179) (by decide +kernel)) (d0 := 11) rfl ⟨_, rfl⟩ hax ⟨rfl, ⟨rfl, trivial⟩⟩ (Nat.le_of_ble_eq_true rfl) hcs hsl dl_1023 (fun r1 m1 H1 locs1 ws1 tys1 O1 hp1 hW1 => ?_)
  refine lv_pop hx hb dl_1026 rfl ?_
  refine lv_aload_n hx hb dl_1027 rfl (lv_at hl 2 rfl) ?_
  refine law_arg (k := 1) C0 hW1.2.2.2.1 hl hi (by decide) dl_1028 dl_1029 dl_1030 dl_1031 dl_1032 ?_
  refine law_arg (k := 2) C0 hW1.2.2.2.1 hl hi (by decide) dl_1033 dl_1034 dl_1035 dl_1036 dl_1037 ?_
  refine lv_if_eq (tgt := 1045) hx hb dl_1038 (by decide) (fun q => absurd q hz) (fun _ => ?_)
  refine lv_iconst (v := 1) hx hb dl_1041 (by decide) ?_
  refine lv_goto (tgt := 1046) hx hb dl_1042 (by decide) ?_
  refine law_callC (N := tM106) (Y := tY106) (mm := m1) (Qm := fun r m' => Bt m' ∧ r1 = r) (as := [.inl (xs (i + Int32.ofInt ((1 : Nat) : Int)).toNatClampNeg), .inl ((1 : Int32))]) (vs := [.int (xs (i + Int32.ofInt ((1 : Nat) : Int)).toNatClampNeg), .int ((1 : Int32))]) (rest := []) C0 hW1 hl.1 (w2_tell O1) (nn := 0) rfl rfl (Nat.le_of_ble_eq_true rfl) rfl rfl rfl rfl rfl (kIs_ok (c := 8151) (by decide +kernel)) (kIs_ok (c := 8152) (by decide +kernel)) (kIs_ok (c := 8153) (by decide +kernel)) (d0 := 12) rfl ⟨_, rfl⟩ (by rw [hp1]; exact ham) ⟨rfl, ⟨rfl, trivial⟩⟩ (Nat.le_of_ble_eq_true rfl) hcs hsl dl_1046 (fun r2 m2 H2 locs2 ws2 tys2 O2 hp2 hW2 => ?_)
  obtain ⟨B2, e12⟩ := O2
  refine lv_pop hx hb dl_1049 rfl ?_
  refine lv_goto (tgt := 1191) hx hb dl_1050 (by decide) ?_
  exact KE m2 H2 locs2 ws2 tys2 B2.1 B2.2 (hp2.trans hp1) hW2
theorem law_forget (C0 : lX p s m meth c b L xs adK adV) {mm : dM} {H : Heap} {locs : List Loc} {ws : va_W} {tys : List (ClassId × FieldType)} {ls : Array Slot} {ax am cs sl : Nat} (hO : Ok mm) (hT : Rf mm) (hW : lWc D s mm H locs ws tys) (hax : (ws.map Prod.fst)[0]? = some ax) (ham : (ws.map Prod.fst)[70]? = some am) (hl : lv_has ls 4 [(0, .ref b), (1, .ref ax), (2, .ref am), (3, .int i)]) (hi : 0 ≤ i.toInt ∧ i.toInt + 6 ≤ L ∧ L ≤ 3072) (hcs : cs ≤ 600000) (hsl : sl ≤ 7302250) (KE : ∀ (m2 : dM) (H2 : Heap) (locs2 : List Loc) (ws2 : va_W) (tys2 : List (ClassId × FieldType)), Ok m2 → Rf m2 → ws2.map Prod.fst = ws.map Prod.fst → lWc D s m2 H2 locs2 ws2 tys2 → W p l e room_1 s m #[Value.ref b] below meth c H2 locs2 cs sl Q (F0 m 1191 ls [])) : W p l e room_1 s m #[Value.ref b] below meth c H locs cs sl Q (F0 m 1053 ls []) := by
  obtain ⟨⟨hx, hb, -, -, -, -, -, -, -, -⟩, -, -⟩ := id C0
  refine lv_aload_n hx hb dl_1053 rfl (lv_at hl 1 rfl) ?_
  refine law_callC (N := tM276) (Y := tY276) (mm := mm) (Qm := fun r m' => Mw (E11o mm) mm r m') (as := []) (vs := []) (rest := []) C0 hW hl.1 (w1_forget ⟨hO, hT⟩) (nn := 1) rfl rfl (Nat.le_of_ble_eq_true rfl) rfl rfl rfl rfl rfl (kIs_ok (c := 5185) (by decide +kernel)) (kIs_ok (c := 5186) (by decide +kernel)) (kIs_ok (c := 5187) (by decide +kernel)) (d0 := 11) rfl ⟨_, rfl⟩ hax trivial (Nat.le_of_ble_eq_true rfl) hcs hsl dl_1054 (fun r1 m1 H1 locs1 ws1 tys1 O1 hp1 hW1 => ?_)
  refine lv_pop hx hb dl_1057 rfl ?_
  refine lv_aload_n hx hb dl_1058 rfl (lv_at hl 2 rfl) ?_
  refine law_callC (N := tM107) (Y := tY107) (mm := m1) (Qm := fun r m' => Bt m' ∧ r1 = r) (as := []) (vs := []) (rest := []) C0 hW1 hl.1 (w2_forget O1) (nn := 1) rfl rfl (Nat.le_of_ble_eq_true rfl) rfl rfl rfl rfl rfl (kIs_ok (c := 8155) (by decide +kernel)) (kIs_ok (c := 8156) (by decide +kernel)) (kIs_ok (c := 8157) (by decide +kernel)) (d0 := 12) rfl ⟨_, rfl⟩ (by rw [hp1]; exact ham) trivial (Nat.le_of_ble_eq_true rfl) hcs hsl dl_1059 (fun r2 m2 H2 locs2 ws2 tys2 O2 hp2 hW2 => ?_)
  obtain ⟨B2, e12⟩ := O2
  refine lv_pop hx hb dl_1062 rfl ?_
  refine lv_goto (tgt := 1191) hx hb dl_1063 (by decide) ?_
  exact KE m2 H2 locs2 ws2 tys2 B2.1 B2.2 (hp2.trans hp1) hW2
theorem law_went (C0 : lX p s m meth c b L xs adK adV) {mm : dM} {H : Heap} {locs : List Loc} {ws : va_W} {tys : List (ClassId × FieldType)} {ls : Array Slot} {ax am cs sl : Nat} (hO : Ok mm) (hT : Rf mm) (hW : lWc D s mm H locs ws tys) (hax : (ws.map Prod.fst)[0]? = some ax) (ham : (ws.map Prod.fst)[70]? = some am) (hl : lv_has ls 4 [(0, .ref b), (1, .ref ax), (2, .ref am), (3, .int i)]) (hi : 0 ≤ i.toInt ∧ i.toInt + 6 ≤ L ∧ L ≤ 3072) (hcs : cs ≤ 600000) (hsl : sl ≤ 7302250) (KE : ∀ (m2 : dM) (H2 : Heap) (locs2 : List Loc) (ws2 : va_W) (tys2 : List (ClassId × FieldType)), Ok m2 → Rf m2 → ws2.map Prod.fst = ws.map Prod.fst → lWc D s m2 H2 locs2 ws2 tys2 → W p l e room_1 s m #[Value.ref b] below meth c H2 locs2 cs sl Q (F0 m 1191 ls [])) : W p l e room_1 s m #[Value.ref b] below meth c H locs cs sl Q (F0 m 1066 ls []) := by
  obtain ⟨⟨hx, hb, -, -, -, -, -, -, -, -⟩, -, -⟩ := id C0
  refine lv_aload_n hx hb dl_1066 rfl (lv_at hl 1 rfl) ?_
  refine law_arg (k := 1) C0 hW.2.2.2.1 hl hi (by decide) dl_1067 dl_1068 dl_1069 dl_1070 dl_1071 ?_
  refine law_arg (k := 2) C0 hW.2.2.2.1 hl hi (by decide) dl_1072 dl_1073 dl_1074 dl_1075 dl_1076 ?_
  refine law_callC (N := tM277) (Y := tY277) (mm := mm) (Qm := fun _ m' => Bt m') (as := [.inl (xs (i + Int32.ofInt ((1 : Nat) : Int)).toNatClampNeg), .inl (xs (i + Int32.ofInt ((2 : Nat) : Int)).toNatClampNeg)]) (vs := [.int (xs (i + Int32.ofInt ((1 : Nat) : Int)).toNatClampNeg), .int (xs (i + Int32.ofInt ((2 : Nat) : Int)).toNatClampNeg)]) (rest := []) C0 hW hl.1 (w1_went ⟨hO, hT⟩) (nn := 1) rfl rfl (Nat.le_of_ble_eq_true rfl) rfl rfl rfl rfl rfl (kIs_ok (c := 5189) (by decide +kernel)) (kIs_ok (c := 5190) (by decide +kernel)) (kIs_ok (c := 5191) (by decide +kernel)) (d0 := 11) rfl ⟨_, rfl⟩ hax ⟨rfl, ⟨rfl, trivial⟩⟩ (Nat.le_of_ble_eq_true rfl) hcs hsl dl_1077 (fun r1 m1 H1 locs1 ws1 tys1 O1 hp1 hW1 => ?_)
  refine lv_pop hx hb dl_1080 rfl ?_
  refine lv_aload_n hx hb dl_1081 rfl (lv_at hl 2 rfl) ?_
  refine law_arg (k := 1) C0 hW1.2.2.2.1 hl hi (by decide) dl_1082 dl_1083 dl_1084 dl_1085 dl_1086 ?_
  refine law_arg (k := 2) C0 hW1.2.2.2.1 hl hi (by decide) dl_1087 dl_1088 dl_1089 dl_1090 dl_1091 ?_
  refine law_callC (N := tM109) (Y := tY109) (mm := m1) (Qm := fun _ m' => Bt m') (as := [.inl (xs (i + Int32.ofInt ((1 : Nat) : Int)).toNatClampNeg), .inl (xs (i + Int32.ofInt ((2 : Nat) : Int)).toNatClampNeg)]) (vs := [.int (xs (i + Int32.ofInt ((1 : Nat) : Int)).toNatClampNeg), .int (xs (i + Int32.ofInt ((2 : Nat) : Int)).toNatClampNeg)]) (rest := []) C0 hW1 hl.1 (w2_went O1) (nn := 1) rfl rfl (Nat.le_of_ble_eq_true rfl) rfl rfl rfl rfl rfl (kIs_ok (c := 8159) (by decide +kernel)) (kIs_ok (c := 8160) (by decide +kernel)) (kIs_ok (c := 8161) (by decide +kernel)) (d0 := 12) rfl ⟨_, rfl⟩ (by rw [hp1]; exact ham) ⟨rfl, ⟨rfl, trivial⟩⟩ (Nat.le_of_ble_eq_true rfl) hcs hsl dl_1092 (fun r2 m2 H2 locs2 ws2 tys2 O2 hp2 hW2 => ?_)
  have B2 : Bt m2 := O2
  refine lv_pop hx hb dl_1095 rfl ?_
  refine lv_goto (tgt := 1191) hx hb dl_1096 (by decide) ?_
  exact KE m2 H2 locs2 ws2 tys2 B2.1 B2.2 (hp2.trans hp1) hW2
theorem law_ask (C0 : lX p s m meth c b L xs adK adV) {mm : dM} {H : Heap} {locs : List Loc} {ws : va_W} {tys : List (ClassId × FieldType)} {ls : Array Slot} {ax am cs sl : Nat} (hO : Ok mm) (hT : Rf mm) (hW : lWc D s mm H locs ws tys) (hax : (ws.map Prod.fst)[0]? = some ax) (ham : (ws.map Prod.fst)[70]? = some am) (hl : lv_has ls 4 [(0, .ref b), (1, .ref ax), (2, .ref am), (3, .int i)]) (hi : 0 ≤ i.toInt ∧ i.toInt + 6 ≤ L ∧ L ≤ 3072) (hcs : cs ≤ 600000) (hsl : sl ≤ 7302250) (KE : ∀ (m2 : dM) (H2 : Heap) (locs2 : List Loc) (ws2 : va_W) (tys2 : List (ClassId × FieldType)), Ok m2 → Rf m2 → ws2.map Prod.fst = ws.map Prod.fst → lWc D s m2 H2 locs2 ws2 tys2 → W p l e room_1 s m #[Value.ref b] below meth c H2 locs2 cs sl Q (F0 m 1191 ls [])) : W p l e room_1 s m #[Value.ref b] below meth c H locs cs sl Q (F0 m 1099 ls []) := by
  obtain ⟨⟨hx, hb, -, -, -, -, -, -, -, -⟩, -, -⟩ := id C0
  refine lv_aload_n hx hb dl_1099 rfl (lv_at hl 1 rfl) ?_
  refine law_arg (k := 1) C0 hW.2.2.2.1 hl hi (by decide) dl_1100 dl_1101 dl_1102 dl_1103 dl_1104 ?_
  refine law_callC (N := tM278) (Y := tY278) (mm := mm) (Qm := fun _ m' => Bt m') (as := [.inl (xs (i + Int32.ofInt ((1 : Nat) : Int)).toNatClampNeg)]) (vs := [.int (xs (i + Int32.ofInt ((1 : Nat) : Int)).toNatClampNeg)]) (rest := []) C0 hW hl.1 (w1_ask ⟨hO, hT⟩) (nn := 0) rfl rfl (Nat.le_of_ble_eq_true rfl) rfl rfl rfl rfl rfl (kIs_ok (c := 5203) (by decide +kernel)) (kIs_ok (c := 5204) (by decide +kernel)) (kIs_ok (c := 5205) (by decide +kernel)) (d0 := 11) rfl ⟨_, rfl⟩ hax ⟨rfl, trivial⟩ (Nat.le_of_ble_eq_true rfl) hcs hsl dl_1105 (fun r1 m1 H1 locs1 ws1 tys1 O1 hp1 hW1 => ?_)
  refine lv_pop hx hb dl_1108 rfl ?_
  refine lv_aload_n hx hb dl_1109 rfl (lv_at hl 2 rfl) ?_
  refine law_arg (k := 1) C0 hW1.2.2.2.1 hl hi (by decide) dl_1110 dl_1111 dl_1112 dl_1113 dl_1114 ?_
  refine law_callC (N := tM110) (Y := tY110) (mm := m1) (Qm := fun _ m' => Bt m') (as := [.inl (xs (i + Int32.ofInt ((1 : Nat) : Int)).toNatClampNeg)]) (vs := [.int (xs (i + Int32.ofInt ((1 : Nat) : Int)).toNatClampNeg)]) (rest := []) C0 hW1 hl.1 (w2_ask O1) (nn := 6) rfl rfl (Nat.le_of_ble_eq_true rfl) rfl rfl rfl rfl rfl (kIs_ok (c := 8167) (by decide +kernel)) (kIs_ok (c := 8168) (by decide +kernel)) (kIs_ok (c := 8169) (by decide +kernel)) (d0 := 12) rfl ⟨_, rfl⟩ (by rw [hp1]; exact ham) ⟨rfl, trivial⟩ (Nat.le_of_ble_eq_true rfl) hcs hsl dl_1115 (fun r2 m2 H2 locs2 ws2 tys2 O2 hp2 hW2 => ?_)
  have B2 : Bt m2 := O2
  refine lv_pop hx hb dl_1118 rfl ?_
  refine lv_goto (tgt := 1191) hx hb dl_1119 (by decide) ?_
  exact KE m2 H2 locs2 ws2 tys2 B2.1 B2.2 (hp2.trans hp1) hW2
theorem law_hold (C0 : lX p s m meth c b L xs adK adV) {mm : dM} {H : Heap} {locs : List Loc} {ws : va_W} {tys : List (ClassId × FieldType)} {ls : Array Slot} {ax am cs sl : Nat} (hO : Ok mm) (hT : Rf mm) (hW : lWc D s mm H locs ws tys) (hax : (ws.map Prod.fst)[0]? = some ax) (ham : (ws.map Prod.fst)[70]? = some am) (hl : lv_has ls 4 [(0, .ref b), (1, .ref ax), (2, .ref am), (3, .int i)]) (hi : 0 ≤ i.toInt ∧ i.toInt + 6 ≤ L ∧ L ≤ 3072) (hcs : cs ≤ 600000) (hsl : sl ≤ 7302250) (KE : ∀ (m2 : dM) (H2 : Heap) (locs2 : List Loc) (ws2 : va_W) (tys2 : List (ClassId × FieldType)), Ok m2 → Rf m2 → ws2.map Prod.fst = ws.map Prod.fst → lWc D s m2 H2 locs2 ws2 tys2 → W p l e room_1 s m #[Value.ref b] below meth c H2 locs2 cs sl Q (F0 m 1191 ls [])) : W p l e room_1 s m #[Value.ref b] below meth c H locs cs sl Q (F0 m 1122 ls []) := by
  obtain ⟨⟨hx, hb, -, -, -, -, -, -, -, -⟩, -, -⟩ := id C0
  refine lv_aload_n hx hb dl_1122 rfl (lv_at hl 1 rfl) ?_
  refine law_arg (k := 1) C0 hW.2.2.2.1 hl hi (by decide) dl_1123 dl_1124 dl_1125 dl_1126 dl_1127 ?_
  refine law_callC (N := tM279) (Y := tY279) (mm := mm) (Qm := fun r m' => Mh (xs (i + Int32.ofInt ((1 : Nat) : Int)).toNatClampNeg) mm r m') (as := [.inl (xs (i + Int32.ofInt ((1 : Nat) : Int)).toNatClampNeg)]) (vs := [.int (xs (i + Int32.ofInt ((1 : Nat) : Int)).toNatClampNeg)]) (rest := []) C0 hW hl.1 (w1_hold ⟨hO, hT⟩) (nn := 0) rfl rfl (Nat.le_of_ble_eq_true rfl) rfl rfl rfl rfl rfl (kIs_ok (c := 5219) (by decide +kernel)) (kIs_ok (c := 5220) (by decide +kernel)) (kIs_ok (c := 5221) (by decide +kernel)) (d0 := 11) rfl ⟨_, rfl⟩ hax ⟨rfl, trivial⟩ (Nat.le_of_ble_eq_true rfl) hcs hsl dl_1128 (fun r1 m1 H1 locs1 ws1 tys1 O1 hp1 hW1 => ?_)
  refine lv_pop hx hb dl_1131 rfl ?_
  refine lv_aload_n hx hb dl_1132 rfl (lv_at hl 2 rfl) ?_
  refine law_arg (k := 1) C0 hW1.2.2.2.1 hl hi (by decide) dl_1133 dl_1134 dl_1135 dl_1136 dl_1137 ?_
  refine law_callC (N := tM111) (Y := tY111) (mm := m1) (Qm := fun r m' => Bt m' ∧ r1 = r) (as := [.inl (xs (i + Int32.ofInt ((1 : Nat) : Int)).toNatClampNeg)]) (vs := [.int (xs (i + Int32.ofInt ((1 : Nat) : Int)).toNatClampNeg)]) (rest := []) C0 hW1 hl.1 (w2_hold O1) (nn := 1) rfl rfl (Nat.le_of_ble_eq_true rfl) rfl rfl rfl rfl rfl (kIs_ok (c := 8171) (by decide +kernel)) (kIs_ok (c := 8172) (by decide +kernel)) (kIs_ok (c := 8173) (by decide +kernel)) (d0 := 12) rfl ⟨_, rfl⟩ (by rw [hp1]; exact ham) ⟨rfl, trivial⟩ (Nat.le_of_ble_eq_true rfl) hcs hsl dl_1138 (fun r2 m2 H2 locs2 ws2 tys2 O2 hp2 hW2 => ?_)
  obtain ⟨B2, e12⟩ := O2
  refine lv_pop hx hb dl_1141 rfl ?_
  refine lv_goto (tgt := 1191) hx hb dl_1142 (by decide) ?_
  exact KE m2 H2 locs2 ws2 tys2 B2.1 B2.2 (hp2.trans hp1) hW2
theorem law_restore (C0 : lX p s m meth c b L xs adK adV) {mm : dM} {H : Heap} {locs : List Loc} {ws : va_W} {tys : List (ClassId × FieldType)} {ls : Array Slot} {ax am cs sl : Nat} (hO : Ok mm) (hT : Rf mm) (hW : lWc D s mm H locs ws tys) (hax : (ws.map Prod.fst)[0]? = some ax) (ham : (ws.map Prod.fst)[70]? = some am) (hl : lv_has ls 4 [(0, .ref b), (1, .ref ax), (2, .ref am), (3, .int i)]) (hi : 0 ≤ i.toInt ∧ i.toInt + 6 ≤ L ∧ L ≤ 3072) (hcs : cs ≤ 600000) (hsl : sl ≤ 7302250) (KE : ∀ (m2 : dM) (H2 : Heap) (locs2 : List Loc) (ws2 : va_W) (tys2 : List (ClassId × FieldType)), Ok m2 → Rf m2 → ws2.map Prod.fst = ws.map Prod.fst → lWc D s m2 H2 locs2 ws2 tys2 → W p l e room_1 s m #[Value.ref b] below meth c H2 locs2 cs sl Q (F0 m 1191 ls [])) : W p l e room_1 s m #[Value.ref b] below meth c H locs cs sl Q (F0 m 1145 ls []) := by
  obtain ⟨⟨hx, hb, -, -, -, -, -, -, -, -⟩, -, -⟩ := id C0
  refine lv_aload_n hx hb dl_1145 rfl (lv_at hl 1 rfl) ?_
  refine law_arg (k := 1) C0 hW.2.2.2.1 hl hi (by decide) dl_1146 dl_1147 dl_1148 dl_1149 dl_1150 ?_
  refine law_callC (N := tM280) (Y := tY280) (mm := mm) (Qm := fun r m' => Ms (xs (i + Int32.ofInt ((1 : Nat) : Int)).toNatClampNeg) mm r m') (as := [.inl (xs (i + Int32.ofInt ((1 : Nat) : Int)).toNatClampNeg)]) (vs := [.int (xs (i + Int32.ofInt ((1 : Nat) : Int)).toNatClampNeg)]) (rest := []) C0 hW hl.1 (w1_restore ⟨hO, hT⟩) (nn := 0) rfl rfl (Nat.le_of_ble_eq_true rfl) rfl rfl rfl rfl rfl (kIs_ok (c := 5227) (by decide +kernel)) (kIs_ok (c := 5228) (by decide +kernel)) (kIs_ok (c := 5229) (by decide +kernel)) (d0 := 11) rfl ⟨_, rfl⟩ hax ⟨rfl, trivial⟩ (Nat.le_of_ble_eq_true rfl) hcs hsl dl_1151 (fun r1 m1 H1 locs1 ws1 tys1 O1 hp1 hW1 => ?_)
  refine lv_pop hx hb dl_1154 rfl ?_
  refine lv_aload_n hx hb dl_1155 rfl (lv_at hl 2 rfl) ?_
  refine law_arg (k := 1) C0 hW1.2.2.2.1 hl hi (by decide) dl_1156 dl_1157 dl_1158 dl_1159 dl_1160 ?_
  refine law_callC (N := tM112) (Y := tY112) (mm := m1) (Qm := fun r m' => Bt m' ∧ r1 = r) (as := [.inl (xs (i + Int32.ofInt ((1 : Nat) : Int)).toNatClampNeg)]) (vs := [.int (xs (i + Int32.ofInt ((1 : Nat) : Int)).toNatClampNeg)]) (rest := []) C0 hW1 hl.1 (w2_restore O1) (nn := 1) rfl rfl (Nat.le_of_ble_eq_true rfl) rfl rfl rfl rfl rfl (kIs_ok (c := 8175) (by decide +kernel)) (kIs_ok (c := 8176) (by decide +kernel)) (kIs_ok (c := 8177) (by decide +kernel)) (d0 := 12) rfl ⟨_, rfl⟩ (by rw [hp1]; exact ham) ⟨rfl, trivial⟩ (Nat.le_of_ble_eq_true rfl) hcs hsl dl_1161 (fun r2 m2 H2 locs2 ws2 tys2 O2 hp2 hW2 => ?_)
  obtain ⟨B2, e12⟩ := O2
  refine lv_pop hx hb dl_1164 rfl ?_
  refine lv_goto (tgt := 1191) hx hb dl_1165 (by decide) ?_
  exact KE m2 H2 locs2 ws2 tys2 B2.1 B2.2 (hp2.trans hp1) hW2
theorem law_count (C0 : lX p s m meth c b L xs adK adV) {mm : dM} {H : Heap} {locs : List Loc} {ws : va_W} {tys : List (ClassId × FieldType)} {ls : Array Slot} {ax am cs sl : Nat} (hO : Ok mm) (hT : Rf mm) (hW : lWc D s mm H locs ws tys) (hax : (ws.map Prod.fst)[0]? = some ax) (ham : (ws.map Prod.fst)[70]? = some am) (hl : lv_has ls 4 [(0, .ref b), (1, .ref ax), (2, .ref am), (3, .int i)]) (hi : 0 ≤ i.toInt ∧ i.toInt + 6 ≤ L ∧ L ≤ 3072) (hcs : cs ≤ 600000) (hsl : sl ≤ 7302250) (KE : ∀ (m2 : dM) (H2 : Heap) (locs2 : List Loc) (ws2 : va_W) (tys2 : List (ClassId × FieldType)), Ok m2 → Rf m2 → ws2.map Prod.fst = ws.map Prod.fst → lWc D s m2 H2 locs2 ws2 tys2 → W p l e room_1 s m #[Value.ref b] below meth c H2 locs2 cs sl Q (F0 m 1191 ls [])) : W p l e room_1 s m #[Value.ref b] below meth c H locs cs sl Q (F0 m 1168 ls []) := by
  obtain ⟨⟨hx, hb, -, -, -, -, -, -, -, -⟩, -, -⟩ := id C0
  refine lv_aload_n hx hb dl_1168 rfl (lv_at hl 1 rfl) ?_
  refine law_arg (k := 1) C0 hW.2.2.2.1 hl hi (by decide) dl_1169 dl_1170 dl_1171 dl_1172 dl_1173 ?_
  refine law_callC (N := tM281) (Y := tY281) (mm := mm) (Qm := fun r m' => Mc (xs (i + Int32.ofInt ((1 : Nat) : Int)).toNatClampNeg) r m') (as := [.inl (xs (i + Int32.ofInt ((1 : Nat) : Int)).toNatClampNeg)]) (vs := [.int (xs (i + Int32.ofInt ((1 : Nat) : Int)).toNatClampNeg)]) (rest := []) C0 hW hl.1 (w1_count ⟨hO, hT⟩) (nn := 0) rfl rfl (Nat.le_of_ble_eq_true rfl) rfl rfl rfl rfl rfl (kIs_ok (c := 5237) (by decide +kernel)) (kIs_ok (c := 5238) (by decide +kernel)) (kIs_ok (c := 5239) (by decide +kernel)) (d0 := 11) rfl ⟨_, rfl⟩ hax ⟨rfl, trivial⟩ (Nat.le_of_ble_eq_true rfl) hcs hsl dl_1174 (fun r1 m1 H1 locs1 ws1 tys1 O1 hp1 hW1 => ?_)
  refine lv_pop hx hb dl_1177 rfl ?_
  refine lv_aload_n hx hb dl_1178 rfl (lv_at hl 2 rfl) ?_
  refine law_arg (k := 1) C0 hW1.2.2.2.1 hl hi (by decide) dl_1179 dl_1180 dl_1181 dl_1182 dl_1183 ?_
  refine law_callC (N := tM113) (Y := tY113) (mm := m1) (Qm := fun r m' => Bt m' ∧ r1 = r) (as := [.inl (xs (i + Int32.ofInt ((1 : Nat) : Int)).toNatClampNeg)]) (vs := [.int (xs (i + Int32.ofInt ((1 : Nat) : Int)).toNatClampNeg)]) (rest := []) C0 hW1 hl.1 (w2_count O1) (nn := 2) rfl rfl (Nat.le_of_ble_eq_true rfl) rfl rfl rfl rfl rfl (kIs_ok (c := 8179) (by decide +kernel)) (kIs_ok (c := 8180) (by decide +kernel)) (kIs_ok (c := 8181) (by decide +kernel)) (d0 := 12) rfl ⟨_, rfl⟩ (by rw [hp1]; exact ham) ⟨rfl, trivial⟩ (Nat.le_of_ble_eq_true rfl) hcs hsl dl_1184 (fun r2 m2 H2 locs2 ws2 tys2 O2 hp2 hW2 => ?_)
  obtain ⟨B2, e12⟩ := O2
  refine lv_pop hx hb dl_1187 rfl ?_
  refine lv_goto (tgt := 1191) hx hb dl_1188 (by decide) ?_
  exact KE m2 H2 locs2 ws2 tys2 B2.1 B2.2 (hp2.trans hp1) hW2
end LWC
end
section
/-! THE LAW's loop -/
section LWL
variable {p : Program} {l : Launch} {e : Env} {s : State} {m : MethodId} {below : List Frame} {meth : Method} {c : Code} {b L : Nat} {xs : Nat → Int32} {adK adV : Nat → Nat} {D : va_G}
set_option maxHeartbeats 4000000 in
theorem law_loop (C0 : lX p s m meth c b L xs adK adV) (hL : L ≤ 3072) {ax am cs sl : Nat} (hcs : cs ≤ 600000) (hsl : sl ≤ 7302250) : ∀ (n : Nat) (i : Int32) (mm : dM) (H : Heap) (locs : List Loc) (ws : va_W) (tys : List (ClassId × FieldType)) (ls : Array Slot), Ok mm → Rf mm → lWc D s mm H locs ws tys → (ws.map Prod.fst)[0]? = some ax → (ws.map Prod.fst)[70]? = some am → lv_has ls 4 [(0, .ref b), (1, .ref ax), (2, .ref am), (3, .int i)] → 0 ≤ i.toInt ∧ i.toInt ≤ L → (L : Int) - i.toInt < n → W p l e room_1 s m #[Value.ref b] below meth c H locs cs sl (lw_Z below #[Value.ref b] s) (F0 m 18 ls []) := by
  intro n
  induction n with
  | zero => intro i mm H locs ws tys ls hO hT hW hax ham hl h0 hμ; exfalso; omega
  | succ n ih =>
    intro i mm H locs ws tys ls hO hT hW hax ham hl h0 hμ
    obtain ⟨⟨hx, hb, hr, hml, hown, hts, hX, hbl, hlocks, hgv⟩, hXt, hFz⟩ := id C0
    have hbA : ¬ (fun q : Nat => s.heap.size ≤ q) b := Nat.not_le.mpr hbl
    have hS := hW.2.2.2.1
    have eL : (Int32.ofNat L).toInt = (L : Int) := Int32.toInt_ofNat_of_lt (by omega)
    have f6 := dSubE (X := (L : Int)) (Y := 6) (x := Int32.ofNat L) (y := (6 : Int32)) eL (by decide) (by omega) (by omega)
    refine lv_iload_n hx hb dl_18 rfl (lv_at hl 3 rfl) ?_
    refine lv_aload_n hx hb dl_19 rfl (lv_at hl 0 rfl) ?_
    refine va_slen hx hb hX hbl hbA hS dl_20 ?_
    refine lv_bipush (v := 6) hx hb dl_21 (by decide) ?_
    refine lv_isub hx hb dl_23 ?_
    refine lv_icmp_gt (tgt := 1197) hx hb dl_24 (by decide) (fun _ => ?_) (fun q => ?_)
    · refine lv_iconst (v := 1) hx hb dl_1197 (by decide) ?_
      refine va_forget hS.2.2 (W.widen (k := 600000) (n := 7302250) hcs hsl ?_)
      exact lw_ret hx hb hr hlocks dl_1198
    · rw [Int32.lt_iff_toInt_lt] at q
      have hi : 0 ≤ i.toInt ∧ i.toInt + 6 ≤ L ∧ L ≤ 3072 := by omega
      have fi := dAddE (X := i.toInt) (Y := 6) (x := i) (y := (6 : Int32)) rfl (by decide) (by omega) (by omega)
      have KE : ∀ (m2 : dM) (H2 : Heap) (locs2 : List Loc) (ws2 : va_W) (tys2 : List (ClassId × FieldType)), Ok m2 → Rf m2 → ws2.map Prod.fst = ws.map Prod.fst → lWc D s m2 H2 locs2 ws2 tys2 → W p l e room_1 s m #[Value.ref b] below meth c H2 locs2 cs sl (lw_Z below #[Value.ref b] s) (F0 m 1191 ls []) := by
        intro m2 H2 locs2 ws2 tys2 O2 hT2 hp2 hW2
        refine lv_iinc (v := i + 6) (lv' := [(3, .int (i + 6)), (0, .ref b), (1, .ref ax), (2, .ref am)]) hx hb dl_1191 hl (k := 3) rfl rfl (by decide) rfl (fun ls2 hl2 => ?_)
        refine lv_goto (tgt := 18) hx hb dl_1194 (by decide) ?_
        have hl3 : lv_has ls2 4 [(0, .ref b), (1, .ref ax), (2, .ref am), (3, .int (i + 6))] := lv_sub hl2 [1, 2, 3, 0] rfl
        exact ih (i + 6) m2 H2 locs2 ws2 tys2 ls2 O2 hT2 hW2 (by rw [hp2]; exact hax) (by rw [hp2]; exact ham) hl3 (by omega) (by omega)
      refine lv_aload_n hx hb dl_27 rfl (lv_at hl 0 rfl) ?_
      refine lv_iload_n hx hb dl_28 rfl (lv_at hl 3 rfl) ?_
      refine va_sld hx hb hX hbl hbA hS (vp_in_iff.mpr ⟨by omega, by omega⟩) dl_29 ?_
      refine lv_bipush (v := 63) hx hb dl_30 (by decide) ?_
      refine lv_iand hx hb dl_32 ?_
      refine lv_topi (fun x0 _ => ?_)
      rcases (show (x0.toInt < 0 ∨ 34 < x0.toInt) ∨ x0.toInt = 0 ∨ x0.toInt = 1 ∨ x0.toInt = 2 ∨ x0.toInt = 3 ∨ x0.toInt = 4 ∨ x0.toInt = 5 ∨ x0.toInt = 6 ∨ x0.toInt = 7 ∨ x0.toInt = 8 ∨ x0.toInt = 9 ∨ x0.toInt = 10 ∨ x0.toInt = 11 ∨ x0.toInt = 12 ∨ x0.toInt = 13 ∨ x0.toInt = 14 ∨ x0.toInt = 15 ∨ x0.toInt = 16 ∨ x0.toInt = 17 ∨ x0.toInt = 18 ∨ x0.toInt = 19 ∨ x0.toInt = 20 ∨ x0.toInt = 21 ∨ x0.toInt = 22 ∨ x0.toInt = 23 ∨ x0.toInt = 24 ∨ x0.toInt = 25 ∨ x0.toInt = 26 ∨ x0.toInt = 27 ∨ x0.toInt = 28 ∨ x0.toInt = 29 ∨ x0.toInt = 30 ∨ x0.toInt = 31 ∨ x0.toInt = 32 ∨ x0.toInt = 33 ∨ x0.toInt = 34 by omega) with hj | hj | hj | hj | hj | hj | hj | hj | hj | hj | hj | hj | hj | hj | hj | hj | hj | hj | hj | hj | hj | hj | hj | hj | hj | hj | hj | hj | hj | hj | hj | hj | hj | hj | hj | hj
      · exact lv_tableOut (tgt := 1191) hx hb dl_33 hj (by decide) (KE mm H locs ws tys hO hT rfl hW)
      · exact lv_tableIn (tgt := 188) hx hb dl_33 (by omega) (by omega) (off := 155) (by rw [hj]; rfl) (by decide) (law_feed C0 hO hT hW hax ham hl hi hcs hsl KE)
      · exact lv_tableIn (tgt := 251) hx hb dl_33 (by omega) (by omega) (off := 218) (by rw [hj]; rfl) (by decide) (law_back C0 hO hT hW hax ham hl hi hcs hsl KE)
      · exact lv_tableIn (tgt := 274) hx hb dl_33 (by omega) (by omega) (off := 241) (by rw [hj]; rfl) (by decide) (law_read C0 hO hT hW hax ham hl hi hcs hsl KE)
      · exact lv_tableIn (tgt := 287) hx hb dl_33 (by omega) (by omega) (off := 254) (by rw [hj]; rfl) (by decide) (law_place C0 hO hT hW hax ham hl hi hcs hsl KE)
      · exact lv_tableIn (tgt := 300) hx hb dl_33 (by omega) (by omega) (off := 267) (by rw [hj]; rfl) (by decide) (law_flat C0 hO hT hW hax ham hl hi hcs hsl KE)
      · exact lv_tableIn (tgt := 333) hx hb dl_33 (by omega) (by omega) (off := 300) (by rw [hj]; rfl) (by decide) (law_wire C0 hO hT hW hax ham hl hi hcs hsl KE)
      · exact lv_tableIn (tgt := 366) hx hb dl_33 (by omega) (by omega) (off := 333) (by rw [hj]; rfl) (by decide) (law_use C0 hO hT hW hax ham hl hi hcs hsl KE)
      · refine lv_tableIn (tgt := 399) hx hb dl_33 (by omega) (by omega) (off := 366) (by rw [hj]; rfl) (by decide) ?_
        by_cases hz : xs (i + Int32.ofInt ((2 : Nat) : Int)).toNatClampNeg = 0
        · exact law_agree0 C0 hz hO hT hW hax ham hl hi hcs hsl KE
        · exact law_agree1 C0 hz hO hT hW hax ham hl hi hcs hsl KE
      · exact lv_tableIn (tgt := 448) hx hb dl_33 (by omega) (by omega) (off := 415) (by rw [hj]; rfl) (by decide) (law_mend C0 hO hT hW hax ham hl hi hcs hsl KE)
      · exact lv_tableIn (tgt := 471) hx hb dl_33 (by omega) (by omega) (off := 438) (by rw [hj]; rfl) (by decide) (law_thicken C0 hO hT hW hax ham hl hi hcs hsl KE)
      · refine lv_tableIn (tgt := 494) hx hb dl_33 (by omega) (by omega) (off := 461) (by rw [hj]; rfl) (by decide) ?_
        by_cases hz : xs (i + Int32.ofInt ((2 : Nat) : Int)).toNatClampNeg = 0
        · exact law_pin0 C0 hz hO hT hW hax ham hl hi hcs hsl KE
        · exact law_pin1 C0 hz hO hT hW hax ham hl hi hcs hsl KE
      · exact lv_tableIn (tgt := 543) hx hb dl_33 (by omega) (by omega) (off := 510) (by rw [hj]; rfl) (by decide) (law_hours C0 hO hT hW hax ham hl hi hcs hsl KE)
      · exact lv_tableIn (tgt := 566) hx hb dl_33 (by omega) (by omega) (off := 533) (by rw [hj]; rfl) (by decide) (law_undo C0 hO hT hW hax ham hl hi hcs hsl KE)
      · exact lv_tableIn (tgt := 579) hx hb dl_33 (by omega) (by omega) (off := 546) (by rw [hj]; rfl) (by decide) (law_way C0 hO hT hW hax ham hl hi hcs hsl KE)
      · exact lv_tableIn (tgt := 612) hx hb dl_33 (by omega) (by omega) (off := 579) (by rw [hj]; rfl) (by decide) (law_peak C0 hO hT hW hax ham hl hi hcs hsl KE)
      · exact lv_tableIn (tgt := 655) hx hb dl_33 (by omega) (by omega) (off := 622) (by rw [hj]; rfl) (by decide) (law_first C0 hO hT hW hax ham hl hi hcs hsl KE)
      · exact lv_tableIn (tgt := 678) hx hb dl_33 (by omega) (by omega) (off := 645) (by rw [hj]; rfl) (by decide) (law_together C0 hO hT hW hax ham hl hi hcs hsl KE)
      · exact lv_tableIn (tgt := 701) hx hb dl_33 (by omega) (by omega) (off := 668) (by rw [hj]; rfl) (by decide) (law_when C0 hO hT hW hax ham hl hi hcs hsl KE)
      · exact lv_tableIn (tgt := 724) hx hb dl_33 (by omega) (by omega) (off := 691) (by rw [hj]; rfl) (by decide) (law_thick C0 hO hT hW hax ham hl hi hcs hsl KE)
      · exact lv_tableIn (tgt := 747) hx hb dl_33 (by omega) (by omega) (off := 714) (by rw [hj]; rfl) (by decide) (law_cut C0 hO hT hW hax ham hl hi hcs hsl KE)
      · exact lv_tableIn (tgt := 780) hx hb dl_33 (by omega) (by omega) (off := 747) (by rw [hj]; rfl) (by decide) (law_share C0 hO hT hW hax ham hl hi hcs hsl KE)
      · exact lv_tableIn (tgt := 813) hx hb dl_33 (by omega) (by omega) (off := 780) (by rw [hj]; rfl) (by decide) (law_without C0 hO hT hW hax ham hl hi hcs hsl KE)
      · exact lv_tableIn (tgt := 836) hx hb dl_33 (by omega) (by omega) (off := 803) (by rw [hj]; rfl) (by decide) (law_needed C0 hO hT hW hax ham hl hi hcs hsl KE)
      · exact lv_tableIn (tgt := 849) hx hb dl_33 (by omega) (by omega) (off := 816) (by rw [hj]; rfl) (by decide) (law_hottest C0 hO hT hW hax ham hl hi hcs hsl KE)
      · exact lv_tableIn (tgt := 872) hx hb dl_33 (by omega) (by omega) (off := 839) (by rw [hj]; rfl) (by decide) (law_clash C0 hO hT hW hax ham hl hi hcs hsl KE)
      · exact lv_tableIn (tgt := 905) hx hb dl_33 (by omega) (by omega) (off := 872) (by rw [hj]; rfl) (by decide) (law_then C0 hO hT hW hax ham hl hi hcs hsl KE)
      · exact lv_tableIn (tgt := 938) hx hb dl_33 (by omega) (by omega) (off := 905) (by rw [hj]; rfl) (by decide) (law_litIn C0 hO hT hW hax ham hl hi hcs hsl KE)
      · exact lv_tableIn (tgt := 971) hx hb dl_33 (by omega) (by omega) (off := 938) (by rw [hj]; rfl) (by decide) (law_year C0 hO hT hW hax ham hl hi hcs hsl KE)
      · refine lv_tableIn (tgt := 1004) hx hb dl_33 (by omega) (by omega) (off := 971) (by rw [hj]; rfl) (by decide) ?_
        by_cases hz : xs (i + Int32.ofInt ((2 : Nat) : Int)).toNatClampNeg = 0
        · exact law_tell0 C0 hz hO hT hW hax ham hl hi hcs hsl KE
        · exact law_tell1 C0 hz hO hT hW hax ham hl hi hcs hsl KE
      · exact lv_tableIn (tgt := 1053) hx hb dl_33 (by omega) (by omega) (off := 1020) (by rw [hj]; rfl) (by decide) (law_forget C0 hO hT hW hax ham hl hi hcs hsl KE)
      · exact lv_tableIn (tgt := 1066) hx hb dl_33 (by omega) (by omega) (off := 1033) (by rw [hj]; rfl) (by decide) (law_went C0 hO hT hW hax ham hl hi hcs hsl KE)
      · exact lv_tableIn (tgt := 1099) hx hb dl_33 (by omega) (by omega) (off := 1066) (by rw [hj]; rfl) (by decide) (law_ask C0 hO hT hW hax ham hl hi hcs hsl KE)
      · exact lv_tableIn (tgt := 1122) hx hb dl_33 (by omega) (by omega) (off := 1089) (by rw [hj]; rfl) (by decide) (law_hold C0 hO hT hW hax ham hl hi hcs hsl KE)
      · exact lv_tableIn (tgt := 1145) hx hb dl_33 (by omega) (by omega) (off := 1112) (by rw [hj]; rfl) (by decide) (law_restore C0 hO hT hW hax ham hl hi hcs hsl KE)
      · exact lv_tableIn (tgt := 1168) hx hb dl_33 (by omega) (by omega) (off := 1135) (by rw [hj]; rfl) (by decide) (law_count C0 hO hT hW hax ham hl hi hcs hsl KE)
end LWL
end
section
/-- the world between calls, behind the starts -/
def lWd (D : va_G) (s : State) (σ : Nat → Int) (h : eH) (H : Heap) (locs : List Loc) (ws : va_W) (tys : List (ClassId × FieldType)) : Prop := va_K D tCl tys s ∧ va_P D tCl ws H ∧ va_D (fun q => s.heap.size ≤ q) ws ∧ va_S (fun q => s.heap.size ≤ q) s.heap H locs ∧ eAll (eCk (ws.map Prod.fst) σ tys) h ws
theorem lw_ad {ws ws' : va_W} {k a : Nat} (h : (ws.map Prod.fst)[k]? = some a) (hp : ∃ t, ws'.map Prod.fst = ws.map Prod.fst ++ t) : (ws'.map Prod.fst)[k]? = some a := by
  obtain ⟨t, ht⟩ := hp
  rw [ht, List.getElem?_append_left (List.getElem?_eq_some_iff.mp h).1]
  exact h
/-! THE LAW, from its entry -/
section LWS
variable {p : Program} {l : Launch} {e : Env} {s : State} {m : MethodId} {below : List Frame} {meth : Method} {c : Code} {b L : Nat} {xs : Nat → Int32} {adK adV : Nat → Nat} {D : va_G}
theorem law_init {sr : List (Int × Int)} {σ : Nat → Int} {H : Heap} {locs : List Loc} {ws : va_W} {tys : List (ClassId × FieldType)} {ls : Array Slot} {h : eH} {cs sl pc idx k a bm : Nat} {rest : List Value} {os : List (Option eV × eH)} {N : eM} {Y : eY} {Q : State → Prop} (hx : p.tables.exec = Jvm.exec) (hb : c.code = code) (hml : c.maxLocals = 4) (hown : s.vm.findClass R_law = some m.cls) (hts : ∀ w ∈ lw_g, w.before #[Value.ref b] s = true) (hXt : eXt tNs s) (hFz : tFz adK adV (fun q => s.heap.size ≤ q) s s.heap) (hs : eSg sr σ) (hW : lWd D s σ h H locs ws tys) (hsz : ls.size = 4) (hcon : eCon (tFz adK adV) l tCl lw_g tNs sr tMs tYs 600 bm [.inr (.inl (some k))] h os) (hN : tMs[bm]? = some N) (hY : tYs[bm]? = some Y) (hnp : N.2.2.2.2.2 = 0)
    (w1 : Cond.methodLink R_law idx Y.1 ∈ lw_g) (w2 : Y.1.name = "<init>") (w3 : Y.2.2 = none) (w4 : Cond.instanceMethod Y.1 ∈ lw_g) (ha : (ws.map Prod.fst)[k]? = some a) (hcr : (rest.map fun v : Value => v.category).sum ≤ 8) (hcs : cs + N.2.2.1 ≤ 600000) (hsl : sl + N.2.2.2.1 ≤ 7302250) (hdg : decode code pc = .ok (.invokespecial idx, 3))
    (kk : ∀ o ∈ os, ∀ (w : Option Value) (H1 : Heap) (locs1 : List Loc) (ws' : va_W) (tys' : List (ClassId × FieldType)), eOv (ws'.map Prod.fst) σ o.1 w → (∃ t, ws'.map Prod.fst = ws.map Prod.fst ++ t) → lWd D s σ o.2 H1 locs1 ws' tys' → W p l e room_1 s m #[Value.ref b] below meth c H1 locs1 (cs + N.2.2.1) (sl + N.2.2.2.1) Q (F0 m (pc + 3) ls (w.toList ++ rest))) : W p l e room_1 s m #[Value.ref b] below meth c H locs cs sl Q (F0 m pc ls (.ref a :: rest)) := by
  obtain ⟨hK, hP, hD, hS, hh⟩ := hW
  have hok : eMok tCl lw_g tNs tMs tYs N Y := by
    obtain ⟨Y', g1, g2⟩ := eAll_get tOk hN
    have e1 := Option.some.inj (g1.symm.trans hY)
    subst e1
    exact g2
  obtain ⟨-, hcode, hini, -, hdd, hnl, -⟩ := hok
  have hA1 : ∀ q, va_A ws H.size q → s.heap.size ≤ q := by
    intro q hq
    rcases hq with ⟨k, e9, hk⟩ | hq
    · exact hD.2 k (q, e9) hk
    · exact Nat.le_trans hS.1 hq
  have hM := hcon N Y hN hY D σ ws tys [.ref a] H.size hs hh ⟨⟨a, ha, rfl⟩, trivial⟩
  have hPre : ∀ U : State, U.heap = H → s.WarmedH U.vm → ePc (tFz adK adV) tCl tNs D ws tys [.ref a] H.size (Value.ref a :: []).toArray U := fun U hU hW => ⟨rfl, by rw [hU], by rw [hU]; exact hP, va_K.moved hW.alike hK, hD.weaken (fun _ _ _ _ => trivial), hXt.warm hW, by rw [hU]; exact (tFzOk adK adV).1 _ _ s U s.heap H hFz hW hS.2.1 hA1⟩
  rw [w3] at hM hcode
  rw [hnp] at hdd
  have hrun := va_runI (R := room_1) (p := p) (e := e) (below := below) (meth := meth) (locs := locs) (cells := cs) (slots := sl) (g := F0 m pc ls (.ref a :: rest)) (As := []) (rest := rest) ⟨hx, hb, hml, hown, hts⟩ hM ⟨callB_of _ hts (jG hcode) rfl rfl rfl (hts _ hini) (hts _ w1) hdd ⟨by show 600 + 1 ≤ 2048; omega, by show 8 + (N.2.1 + 11) + 128 * 600 ≤ 84000; omega⟩, w2, hts _ w4⟩ ⟨ePc_blind (tFzOk adK adV), hPre⟩ rfl rfl hsz rfl (by show 2 * 0 + _ ≤ 8; omega) hdg ⟨hcs, hsl⟩
  exact eBack hrun hS hA1 (fun o ho w ws' tys' H1 locs1 hov hpre' hh' hP' hK' hD' hS' => kk o ho w H1 locs1 ws' tys' hov hpre' ⟨hK', hP', hD', hS', hh'⟩)
theorem law_new {σ : Nat → Int} {H : Heap} {locs : List Loc} {ws : va_W} {tys : List (ClassId × FieldType)} {ls : Array Slot} {h : eH} {cs sl pc idx ci : Nat} {C : String} {T : u_T} {N : Nat} {fs : List eV} {rest : List Value} {Q : State → Prop} (hx : p.tables.exec = Jvm.exec) (hb : c.code = code) (hown : s.vm.findClass R_law = some m.cls) (hts : ∀ w ∈ lw_g, w.before #[Value.ref b] s = true) (h0 : σ 0 = 0) (hW : lWd D s σ h H locs ws tys) (hc : tCl[ci]? = some (C, T, N)) (hfs : tDf[ci]? = some fs) (w1 : Cond.classLink R_law idx C ∈ lw_g) (w2 : Cond.instantiable C N ∈ lw_g) (w3 : Cond.initialized C ∈ lw_g) (hcs : cs + 1 ≤ 600000) (hsl : sl + N ≤ 7302250) (hdg : decode code pc = .ok (.new idx, 3))
    (kk : ∀ (q : Nat) (H1 : Heap) (ws' : va_W), ws'.map Prod.fst = ws.map Prod.fst ++ [q] → lWd D s σ (h ++ [.inl (ci, fs)]) H1 locs ws' tys → W p l e room_1 s m #[Value.ref b] below meth c H1 locs (cs + 1) (sl + N) Q (F0 m (pc + 3) ls (.ref q :: rest))) : W p l e room_1 s m #[Value.ref b] below meth c H locs cs sl Q (F0 m pc ls rest) := by
  obtain ⟨hK, hP, hD, hS, hh⟩ := hW
  obtain ⟨hin1, ty, hty, hnm, hdf⟩ := tKl ci C T N hc
  obtain ⟨hlen, vs, hvs, hdv⟩ := hdf fs hfs
  refine va_new hx hb hts hin1 ty hty hown (hts _ w1) (hts _ w2) (hts _ w3) hK hP hD hS (fun _ z => z) hc hdv hcs hsl hdg (fun q H1 hP hD hS => ?_)
  have e1 : (ws ++ [(q, (.inr (ci, vs) : va_E))]).map Prod.fst = ws.map Prod.fst ++ [q] := by simp
  exact kk q H1 _ e1 ⟨hK, hP, hD, hS, eAll_app (eAll_mono (fun _ _ => eCk_ad ⟨[q], e1⟩ ⟨[], by simp⟩) hh) ⟨⟨vs, rfl, hvs _ _ h0⟩, trivial⟩⟩
theorem nsOk : ∀ q ∈ tNs, Cond.methodLinkNest q.1 q.2.1 q.2.2.1 q.2.2.2 ∈ lw_tbl := List.forall_mem_cons.mpr ⟨kW_ok (c := 1032) (by decide +kernel), List.forall_mem_cons.mpr ⟨kW_ok (c := 1038) (by decide +kernel), List.forall_mem_cons.mpr ⟨kW_ok (c := 2063) (by decide +kernel), List.forall_mem_cons.mpr ⟨kW_ok (c := 2118) (by decide +kernel), List.forall_mem_cons.mpr ⟨kW_ok (c := 2199) (by decide +kernel), List.forall_mem_cons.mpr ⟨kW_ok (c := 4082) (by decide +kernel), List.forall_mem_cons.mpr ⟨kW_ok (c := 4134) (by decide +kernel), List.forall_mem_cons.mpr ⟨kW_ok (c := 5057) (by decide +kernel), List.forall_mem_cons.mpr ⟨kW_ok (c := 5070) (by decide +kernel), List.forall_mem_cons.mpr ⟨kW_ok (c := 5112) (by decide +kernel), List.forall_mem_cons.mpr ⟨kW_ok (c := 5197) (by decide +kernel), List.forall_mem_cons.mpr ⟨kW_ok (c := 5235) (by decide +kernel), fun _ h => absurd h List.not_mem_nil⟩⟩⟩⟩⟩⟩⟩⟩⟩⟩⟩⟩
theorem avOk : Cond.arrayOver (.array .int) ∈ lw_tbl := kW_ok (c := 1043) (by decide +kernel)
def tTm : Nat → Term := fun _ => Term.string "FuseTreaty$Tokens" 29
theorem flE : ∀ j : Nat, j < 116 → (flatC (Jvm.Cond.and given_1 narrow_1))[13 + j]? = some (Cond.eq (.elem (.field (Term.string "FuseTreaty$Tokens" 29) "java/lang/String" "value" "[B") (.int (Int32.ofNat j))) (.int ((tByt.getD 0 []).getD j 0))) := by decide +kernel
theorem strOk : Cond.stringRef "FuseTreaty$Tokens" 29 tTx ∈ lw_tbl := kW_ok (c := 1174) (by decide +kernel)
theorem law_out {L : Nat} (C0 : lw_At p s m meth c b L xs) : ∃ adK adV : Nat → Nat, tFz adK adV (fun q => s.heap.size ≤ q) s s.heap := by
  obtain ⟨hx, hb, hr, hml, hown, hts, hX, hbl, hlocks, hgv⟩ := C0
  have hf := flat_of_before _ hgv
  have hA : ∀ a : Nat, a < s.heap.size → ¬ (fun q : Nat => s.heap.size ≤ q) a := fun a ha => Nat.not_le.mpr ha
  have i0 : ∀ i : Nat, i < 1 → i = 0 := fun i hi => by omega
  obtain ⟨adK, adV, h1, h2⟩ := vk_Sof (args := #[Value.ref b]) (s := s) (N := 1) (tm := tTm) (len := tLen) (byt := tByt) (A := fun q => s.heap.size ≤ q)
    (fun i hi => by rw [i0 i hi]; decide)
    (fun i hi => by rw [i0 i hi]; exact hf _ (List.mem_of_getElem? (i := 9) (by decide +kernel)))
    (fun i hi => by rw [i0 i hi]; exact hf _ (List.mem_of_getElem? (i := 10) (by decide +kernel)))
    (fun i hi => by rw [i0 i hi]; exact hf _ (List.mem_of_getElem? (i := 11) (by decide +kernel)))
    (fun i hi => by rw [i0 i hi]; exact hf _ (List.mem_of_getElem? (i := 12) (by decide +kernel)))
    (fun i hi j hj => by rw [i0 i hi] at hj ⊢; exact hf _ (List.mem_of_getElem? (flE j hj)))
    (fun i j hi hj hij => absurd ((i0 i hi).trans (i0 j hj).symm) hij) hA
  refine ⟨adK, adV, h1, ?_, ?_, ?_⟩
  · exact va_Zof (hts _ (kW_ok (c := 1184) (by decide +kernel))) (hts _ (kW_ok (c := 1005) (by decide +kernel))) (va_eqt (hf _ (List.mem_of_getElem? (i := 4) (by decide +kernel)))) hA
  · exact va_Zqof (hts _ (kW_ok (c := 1200) (by decide +kernel))) (hts _ (kW_ok (c := 1007) (by decide +kernel))) (hf _ (List.mem_of_getElem? (i := 5) (by decide +kernel))) hA
  · exact vk_R.of (hts _ strOk) (h2 0 (by decide))
theorem law_K {args : Array Value} (hts : ∀ w ∈ lw_g, w.before args s = true) : ∃ D : va_G, va_K D tCl [] s := by
  obtain ⟨c0, iS0, hKn0⟩ := u_known (C := RX0) (T := TX0) (N := 4) (n := 4) hts (tKl 0 _ _ _ rfl).1 (hts (.instantiable RX0 4) (kIs_ok (c := 2141) (by decide +kernel)))
  obtain ⟨c1, iS1, hKn1⟩ := u_known (C := RX1) (T := TX1) (N := 5) (n := 5) hts (tKl 1 _ _ _ rfl).1 (hts (.instantiable RX1 5) (kIs_ok (c := 2193) (by decide +kernel)))
  obtain ⟨c2, iS2, hKn2⟩ := u_known (C := RX2) (T := TX2) (N := 7) (n := 7) hts (tKl 2 _ _ _ rfl).1 (hts (.instantiable RX2 7) (kIs_ok (c := 2009) (by decide +kernel)))
  obtain ⟨c3, iS3, hKn3⟩ := u_known (C := RX3) (T := TX3) (N := 16) (n := 16) hts (tKl 3 _ _ _ rfl).1 (hts (.instantiable RX3 16) (kIs_ok (c := 1031) (by decide +kernel)))
  obtain ⟨c4, iS4, hKn4⟩ := u_known (C := RX4) (T := TX4) (N := 6) (n := 6) hts (tKl 4 _ _ _ rfl).1 (hts (.instantiable RX4 6) (kIs_ok (c := 1037) (by decide +kernel)))
  obtain ⟨c5, iS5, hKn5⟩ := u_known (C := RX5) (T := TX5) (N := 6) (n := 6) hts (tKl 5 _ _ _ rfl).1 (hts (.instantiable RX5 6) (kIs_ok (c := 2037) (by decide +kernel)))
  obtain ⟨c6, iS6, hKn6⟩ := u_known (C := RX6) (T := TX6) (N := 5) (n := 5) hts (tKl 6 _ _ _ rfl).1 (hts (.instantiable RX6 5) (kIs_ok (c := 2117) (by decide +kernel)))
  obtain ⟨c7, iS7, hKn7⟩ := u_known (C := RX7) (T := TX7) (N := 9) (n := 9) hts (tKl 7 _ _ _ rfl).1 (hts (.instantiable RX7 9) (kIs_ok (c := 2062) (by decide +kernel)))
  obtain ⟨c8, iS8, hKn8⟩ := u_known (C := RX8) (T := TX8) (N := 6) (n := 6) hts (tKl 8 _ _ _ rfl).1 (hts (.instantiable RX8 6) (kIs_ok (c := 1169) (by decide +kernel)))
  obtain ⟨c9, iS9, hKn9⟩ := u_known (C := RX9) (T := TX9) (N := 4) (n := 4) hts (tKl 9 _ _ _ rfl).1 (hts (.instantiable RX9 4) (kIs_ok (c := 2217) (by decide +kernel)))
  obtain ⟨c10, iS10, hKn10⟩ := u_known (C := RX10) (T := TX10) (N := 6) (n := 6) hts (tKl 10 _ _ _ rfl).1 (hts (.instantiable RX10 6) (kIs_ok (c := 2147) (by decide +kernel)))
  obtain ⟨c11, iS11, hKn11⟩ := u_known (C := RX11) (T := TX11) (N := 13) (n := 13) hts (tKl 11 _ _ _ rfl).1 (hts (.instantiable RX11 13) (kIs_ok (c := 1023) (by decide +kernel)))
  obtain ⟨c12, iS12, hKn12⟩ := u_known (C := RX12) (T := TX12) (N := 69) (n := 69) hts (tKl 12 _ _ _ rfl).1 (hts (.instantiable RX12 69) (kIs_ok (c := 6007) (by decide +kernel)))
  obtain ⟨dC, dI, hKc⟩ : ∃ (dC : Nat → ClassId) (dI : Nat → Nat → Nat), ∀ (k : Nat) (q : vw_C), tCl[k]? = some q → u_Kn s q.1 q.2.1 q.2.2 (dC k) (dI k) := by
    refine ⟨fun k => if k = 0 then c0 else if k = 1 then c1 else if k = 2 then c2 else if k = 3 then c3 else if k = 4 then c4 else if k = 5 then c5 else if k = 6 then c6 else if k = 7 then c7 else if k = 8 then c8 else if k = 9 then c9 else if k = 10 then c10 else if k = 11 then c11 else c12, fun k => if k = 0 then iS0 else if k = 1 then iS1 else if k = 2 then iS2 else if k = 3 then iS3 else if k = 4 then iS4 else if k = 5 then iS5 else if k = 6 then iS6 else if k = 7 then iS7 else if k = 8 then iS8 else if k = 9 then iS9 else if k = 10 then iS10 else if k = 11 then iS11 else iS12, ?_⟩
    intro k q hq
    match k, hq with
    | 0, hq => cases hq; exact hKn0
    | 1, hq => cases hq; exact hKn1
    | 2, hq => cases hq; exact hKn2
    | 3, hq => cases hq; exact hKn3
    | 4, hq => cases hq; exact hKn4
    | 5, hq => cases hq; exact hKn5
    | 6, hq => cases hq; exact hKn6
    | 7, hq => cases hq; exact hKn7
    | 8, hq => cases hq; exact hKn8
    | 9, hq => cases hq; exact hKn9
    | 10, hq => cases hq; exact hKn10
    | 11, hq => cases hq; exact hKn11
    | 12, hq => cases hq; exact hKn12
    | k + 13, hq => simp [tCl] at hq
  exact ⟨(dC, dI), hKc, fun k q h => by simp at h⟩
set_option maxHeartbeats 4000000 in
/-- THE LAW, from its entry -/
theorem whole_start {p : Program} {e : Env} {s : State} {m : MethodId} {below : List Frame} {meth : Method} {c : Code} (l : Launch) (hflags : l.flags = flags0) {b L : Nat} {xs : Nat → Int32} (hL : L ≤ 3072) (C0 : lw_At p s m meth c b L xs) : W p l e room_1 s m #[Value.ref b] below meth c s.heap [] 0 0 (lw_Z below #[Value.ref b] s) (entryFrame m ([Value.ref b] : List Value).toArray 4) := by
  obtain ⟨adK, adV, hFz⟩ := law_out C0
  obtain ⟨hx, hb, hr, hml, hown, hts0, hX, hbl, hlocks, hgv⟩ := id C0
  have hts := lgt hts0
  have hXt : eXt tNs s := ⟨fun q hq => va_Nw.of rfl (hts0 _ (nsOk q hq)), hts0 _ avOk⟩
  obtain ⟨D, hK⟩ := law_K hts
  have hbA : ¬ (fun q : Nat => s.heap.size ≤ q) b := Nat.not_le.mpr hbl
  have hs0 : eSg [(0, 0)] (fun _ => 0) := ⟨rfl, fun j q hq => by
    have hz : j < 1 := (List.getElem?_eq_some_iff.mp hq).1
    rw [show j = 0 by omega] at hq
    cases hq
    exact ⟨Int.le_refl _, Int.le_refl _⟩⟩
  have hW : lWd D s (fun _ => 0) [] s.heap [] [] [] := ⟨hK, fun k q h => by simp at h, ⟨fun i j p q h => by simp at h, fun k q h => by simp at h⟩, va_S.rf, trivial⟩
  have hl := lv_entry ([.ref b]) (n := 4) (Nat.le_of_ble_eq_true rfl)
  rw [lg_entry_eq]
  generalize (lg_sl ([.ref b]) ++ List.replicate (4 - (lg_sl ([.ref b])).length) Slot.unset).toArray = ls at hl ⊢
  have hl : lv_has ls 4 [(0, .ref b)] := hl
  refine law_new (σ := fun _ => 0) (ci := 11) (fs := (tDf[11]?).getD []) hx hb hown hts rfl hW rfl rfl (kIs_ok (c := 1022) (by decide +kernel)) (kIs_ok (c := 1023) (by decide +kernel)) (kIs_ok (c := 1001) (by decide +kernel)) (by omega) (by omega) dl_0 (fun q0 H1 ws1 ha1 hW1 => ?_)
  refine lv_dup hx hb dl_3 rfl ?_
  refine law_init (N := tM242) (Y := tY242) (adK := adK) (adV := adV) hx hb hml hown hts hXt hFz hs0 hW1 hl.1 (tInit1_ok l adK adV) rfl rfl rfl (kIs_ok (c := 1024) (by decide +kernel)) rfl rfl (kIs_ok (c := 1025) (by decide +kernel)) (by rw [ha1]; rfl) (Nat.le_of_ble_eq_true rfl) (by decide) (by decide) dl_4 (fun o ho w H2 locs2 ws2 tys2 hov2 hpre2 hW2 => ?_)
  rw [List.mem_singleton] at ho
  subst ho
  have hax : (ws2.map Prod.fst)[0]? = some q0 := lw_ad (by rw [ha1]; rfl) hpre2
  have hlen2 : ws2.length = 70 := by rw [← eAll_len hW2.2.2.2.2]; rfl
  cases w with
  | some w => exact hov2.elim
  | none =>
    refine lv_astore_n (lv' := [(1, .ref q0), (0, .ref b)]) hx hb dl_7 rfl hl (by decide) rfl (fun ls hl => ?_)
    refine law_new (σ := fun _ => 0) (ci := 12) (fs := (tDf[12]?).getD []) hx hb hown hts rfl hW2 rfl rfl (kIs_ok (c := 6006) (by decide +kernel)) (kIs_ok (c := 6007) (by decide +kernel)) (kIs_ok (c := 1019) (by decide +kernel)) (by decide) (by decide) dl_8 (fun q1 H3 ws3 ha3 hW3 => ?_)
    refine lv_dup hx hb dl_11 rfl ?_
    have ham3 : (ws3.map Prod.fst)[70]? = some q1 := by
      rw [ha3, List.getElem?_append_right (by rw [List.length_map, hlen2]; omega), List.length_map, hlen2]
      rfl
    refine law_init (N := tM0) (Y := tY0) (adK := adK) (adV := adV) hx hb hml hown hts hXt hFz hs0 hW3 hl.1 (tInit2_ok l adK adV) rfl rfl rfl (kIs_ok (c := 6008) (by decide +kernel)) rfl rfl (kIs_ok (c := 6009) (by decide +kernel)) ham3 (Nat.le_of_ble_eq_true rfl) (by decide) (by decide) dl_12 (fun o ho w H4 locs4 ws4 tys4 hov4 hpre4 hW4 => ?_)
    rw [List.mem_singleton] at ho
    subst ho
    have hax4 : (ws4.map Prod.fst)[0]? = some q0 := lw_ad (lw_ad hax ⟨_, ha3⟩) hpre4
    have ham4 : (ws4.map Prod.fst)[70]? = some q1 := lw_ad ham3 hpre4
    cases w with
    | some w => exact hov4.elim
    | none =>
      refine lv_astore_n (lv' := [(2, .ref q1), (1, .ref q0), (0, .ref b)]) hx hb dl_15 rfl hl (by decide) rfl (fun ls hl => ?_)
      refine lv_iconst (v := 0) hx hb dl_16 (by decide) ?_
      refine lv_istore_n (lv' := [(3, .int 0), (2, .ref q1), (1, .ref q0), (0, .ref b)]) hx hb dl_17 rfl hl (by decide) rfl (fun ls hl => ?_)
      have hl : lv_has ls 4 [(0, .ref b), (1, .ref q0), (2, .ref q1), (3, .int 0)] := lv_sub hl [3, 2, 1, 0] rfl
      obtain ⟨zc, zo, z1, z2⟩ := z_ok (σ := fun _ => 0) rfl hW4.2.2.2.2
      have hWc : lWc D s (zM ws4) H4 locs4 (zW ws4) tys4 := ⟨hW4.1, zW_P hW4.2.1, zW_D hW4.2.2.1, hW4.2.2.2.1, by rw [zW_fst]; exact zc⟩
      exact law_loop ⟨C0, hXt, hFz⟩ hL (by decide) (by decide) (L + 1) 0 (zM ws4) H4 locs4 (zW ws4) tys4 ls zo ⟨z_rq (σ := fun _ => 0) rfl hW4.2.2.2.2, z_fr (σ := fun _ => 0) rfl hW4.2.2.2.2⟩ hWc (by rw [zW_fst]; exact hax4) (by rw [zW_fst]; exact ham4) hl ⟨by decide, by show (0 : Int) ≤ L; omega⟩ (by show (L : Int) - 0 < ((L + 1 : Nat) : Int); omega)
end LWS
end
