/-! BOTH ALIKE BEHIND THE STARTS -/
theorem z_rq {ad : List Nat} {σ : Nat → Int} {tys : List (ClassId × FieldType)} {ws : va_W} (hs : σ 0 = 0) (h : eAll (eCk ad σ tys) hFresh ws) : Rq (zM ws) := by
  have a1 : ((zM ws).1 0 1).toInt = 0 := z_val hs h (by decide +kernel)
  have a2 : ((zM ws).1 70 2).toInt = 0 := z_val hs h (by decide +kernel)
  have b1 : ((zM ws).1 0 2).toInt = -1 := z_val hs h (by decide +kernel)
  have b2 : ((zM ws).1 70 17).toInt = -1 := z_val hs h (by decide +kernel)
  have c1 : ((zM ws).1 67 3).toInt = 0 := z_val hs h (by decide +kernel)
  have c2 : ((zM ws).1 70 63).toInt = 0 := z_val hs h (by decide +kernel)
  have d1 : ((zM ws).1 2 0).toInt = 0 := z_val hs h (by decide +kernel)
  have d2 : ((zM ws).1 70 18).toInt = ((0 : Nat) : Int) := z_val hs h (by decide +kernel)
  have d3 : ((zM ws).1 80 0).toInt = 0 := z_val hs h (by decide +kernel)
  have e1 : ((zM ws).1 51 4).toInt = 0 := z_val hs h (by decide +kernel)
  have e2 : (zM ws).1 51 4 = 0 := d_ce e1
  refine ⟨⟨by rw [a1, a2], fun i hi => by rw [a1] at hi; exfalso; omega⟩, by rw [b1, b2], by rw [c1, c2], by rw [d_cn d2, d1, d3], fun i hi => ?_⟩
  have f : ((zM ws).1 115 i).toInt = 0 := by
    have : i = 0 ∨ i = 1 ∨ i = 2 := by omega
    rcases this with rfl | rfl | rfl <;> exact z_val hs h (by decide +kernel)
  rw [f, e2]
  refine ⟨fun w => ?_, fun w => absurd rfl w⟩
  exfalso
  unfold hb at w
  have : i = 0 ∨ i = 1 ∨ i = 2 := by omega
  rcases this with rfl | rfl | rfl <;> exact w (by decide)
