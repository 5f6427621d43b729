/-! MAKING: where a constructor's rows lie -/
def fiS : List (Nat × Nat) → List Nat → Nat → List Nat
  | [], cs, _ => cs
  | x :: r, cs, n => fiS r (cs.set x.1 n) (n + 1)
theorem mkS_pre {pre : List Shp} {b ci : Nat} (hb : pre.length = b) : ∀ (r : List (Nat × Nat)) (rest : List Shp) (cs : List Nat), mkS b ci r (pre ++ (Sum.inl (ci, cs) : Shp) :: rest) cs = pre ++ (Sum.inl (ci, fiS r cs (b + rest.length + 1 + 2)) : Shp) :: (rest ++ r.map fun x => (Sum.inr (0, x.2, []) : Shp))
  | [], rest, cs => by simp [mkS, fiS]
  | x :: r, rest, cs => by
    have e : mkL (pre ++ (Sum.inl (ci, cs) : Shp) :: rest) b ci cs x.1 0 x.2 = pre ++ (Sum.inl (ci, cs.set x.1 (b + rest.length + 1 + 2)) : Shp) :: (rest ++ [(Sum.inr (0, x.2, []) : Shp)]) := by
      unfold mkL
      rw [show (pre ++ (Sum.inl (ci, cs) : Shp) :: rest).length = b + rest.length + 1 by simp [hb]; omega]
      rw [List.append_assoc, List.set_append_right _ _ (by omega), show b - pre.length = 0 by omega]
      rfl
    show mkS b ci r (mkL (pre ++ (Sum.inl (ci, cs) : Shp) :: rest) b ci cs x.1 0 x.2) (cs.set x.1 ((pre ++ (Sum.inl (ci, cs) : Shp) :: rest).length + 2)) = _
    rw [e, show (pre ++ (Sum.inl (ci, cs) : Shp) :: rest).length = b + rest.length + 1 by simp [hb]; omega, mkS_pre hb r]
    simp only [fiS, List.map_cons, List.append_assoc, List.length_append, List.length_singleton, List.singleton_append]
    rw [show b + (rest.length + 1) + 1 + 2 = b + rest.length + 1 + 2 + 1 by omega]
theorem pre_get {pre Y : List Shp} {b j : Nat} (hb : pre.length = b) : (pre ++ Y)[b + j]? = Y[j]? := by
  subst hb
  rw [List.getElem?_append_right (Nat.le_add_right _ _), Nat.add_sub_cancel_left]
theorem pre_of {shl : List Shp} {b : Nat} {o : Shp} (h : shl[b]? = some o) (hn : shl.length = b + 1) : ∃ pre : List Shp, pre.length = b ∧ shl = pre ++ [o] := by
  refine ⟨shl.take b, by rw [List.length_take]; omega, ?_⟩
  apply List.ext_getElem?
  intro i
  by_cases y : i < b
  · rw [List.getElem?_append_left (by rw [List.length_take]; omega), List.getElem?_take_of_lt y]
  · by_cases z : i = b
    · subst z
      rw [h, List.getElem?_append_right (by rw [List.length_take]; omega), List.length_take, show i - min i shl.length = 0 by omega]
      rfl
    · rw [List.getElem?_eq_none (by omega), List.getElem?_eq_none (by rw [List.length_append, List.length_take]; simp; omega)]
theorem mk_at0 {shl : List Shp} {b : Nat} (h : shl[b]? = some (.inl (0, [1, 1, 1, 1, 1, 0, 0, 0, 0]))) (hn : shl.length = b + 1) : At_X0 (mkS b 0 [(0, 11), (1, 64), (2, 64), (3, 3), (4, 17)] shl [1, 1, 1, 1, 1, 0, 0, 0, 0]) b := by
  obtain ⟨pre, hb, rfl⟩ := pre_of h hn
  rw [mkS_pre hb]
  exact ⟨pre_get (j := 0) hb, pre_get (j := 1) hb, pre_get (j := 2) hb, pre_get (j := 3) hb, pre_get (j := 4) hb, pre_get (j := 5) hb⟩
theorem mk_at2 {shl : List Shp} {b : Nat} (h : shl[b]? = some (.inl (2, [1, 1, 1, 1, 0, 0, 0]))) (hn : shl.length = b + 1) : At_X2 (mkS b 2 [(0, 9), (1, 12), (2, 12), (3, 12)] shl [1, 1, 1, 1, 0, 0, 0]) b := by
  obtain ⟨pre, hb, rfl⟩ := pre_of h hn
  rw [mkS_pre hb]
  exact ⟨pre_get (j := 0) hb, pre_get (j := 1) hb, pre_get (j := 2) hb, pre_get (j := 3) hb, pre_get (j := 4) hb⟩
