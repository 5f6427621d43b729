/-! MAKING: what clearing leaves -/
theorem clear_0 {d : Nat} {h g : Hp} (hd : 3 ≤ d) (e : g_X0_clear d h = some g) : g 0 = h 0 := by
  obtain ⟨g', e1, e2, -⟩ := k_clear (hc := h) hd
  have e3 : g' = g := Option.some.inj (e1.symm.trans e)
  subst e3
  exact e2.1 0 (by omega) (by omega)
theorem weigh_0 {d : Nat} {h g : Hp} (hd : 3 ≤ d) (e : g_X0_weigh d h = some g) : g 0 = h 0 := by
  obtain ⟨g', e1, e2, -⟩ := k_weigh (hc := h) hd
  have e3 : g' = g := Option.some.inj (e1.symm.trans e)
  subst e3
  exact e2 0 (by omega)
theorem sclear_0 {v : Nat} {h g : Hp} (hv : 15 ≤ v) (e : g_X2_clear v h = some g) : g 0 = h 0 := by
  have e3 : clS v h = g := Option.some.inj (k_sclear.symm.trans e)
  subst e3
  exact (clS_f (v := v) (h := h)).2.2.2.2 0 (by omega) (by omega)
