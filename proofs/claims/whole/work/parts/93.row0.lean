/-! MAKING: the first place alone has references that may move -/
theorem no1_tail {l : List Shp} (h : (l.drop 1).all no1 = true) {p : Nat} {s : Shp} (hp : p ≠ 0) (hs : l[p]? = some s) : no1 s = true := by
  have : s ∈ l.drop 1 := by
    obtain ⟨q, rfl⟩ : ∃ q, p = q + 1 := ⟨p - 1, by omega⟩
    have e : (l.drop 1)[q]? = some s := by rw [List.getElem?_drop, Nat.add_comm]; exact hs
    exact List.mem_of_getElem? e
  exact List.all_eq_true.mp h s this
/-- only the first place of the list has references that may move -/
theorem MK.r0 {l : List Shp} {h h2 : Hp} {ci : Nat} {cs : List Nat} (m : MK l h 0 ci cs) (hl : (l.drop 1).all no1 = true) (e : h2 0 = h 0) : MK l h2 0 ci cs :=
  m.row (fun p s hp => by
    by_cases y : p = 0
    · subst y; exact Or.inr e
    · exact Or.inl (no1_tail hl y hp))
theorem MK.to {l l2 : List Shp} {h : Hp} {b ci : Nat} {cs cs2 : List Nat} (m : MK l h b ci cs) (e : l = l2) (ec : cs = cs2) : MK l2 h b ci cs2 := by subst e ec; exact m
/-- a reference of the first object is told, one that may move -/
theorem MK.ref {l : List Shp} {h : Hp} {ci k q : Nat} {cs : List Nat} (m : MK l h 0 ci cs) (hl : (l.drop 1).all no1 = true) (hq : q < l.length) : MK l (set2 h 0 k (q : Int)) 0 ci cs := by
  obtain ⟨m1, m2, m3⟩ := m
  refine ⟨m1, m2, fun p s hp => ?_⟩
  by_cases y : p = 0
  · subst y
    rw [m1] at hp
    cases hp
    intro i x hx
    rcases m3 0 _ m1 i x hx with z | z | z
    · exact Or.inl z
    · refine Or.inr (Or.inl ⟨z.1, ?_⟩)
      by_cases u : i = k
      · rw [u, set2_same]; omega
      · rw [set2_nk _ _ _ _ _ _ u]; exact z.2
    · exact Or.inr (Or.inr z)
  · have e : set2 h 0 k (q : Int) p = h p := set2_ne p y
    rw [e]
    exact m3 p s hp
