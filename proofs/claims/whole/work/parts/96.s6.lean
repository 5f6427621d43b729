/-! MAKING: the list behind one more trial -/
def r6 (shl : List Shp) : List Shp := (Sum.inl (3, fiS st3 c3 ((shl ++ [(Sum.inl (6, c6i) : Shp)]).length + 3)) : Shp) :: st3.map fun x => (Sum.inr (0, x.2, []) : Shp)
theorem S6_eq {shl : List Shp} : S6 shl = shl ++ ((Sum.inl (6, fiS [(1, 2), (2, 2), (3, 2), (4, 99)] (d6 shl) (shl.length + (r6 shl).length + 1 + 2)) : Shp) :: (r6 shl ++ [(1, 2), (2, 2), (3, 2), (4, 99)].map fun x => (Sum.inr (0, x.2, []) : Shp))) := by
  have e : b6 shl = shl ++ (Sum.inl (6, d6 shl) : Shp) :: r6 shl := by
    unfold b6
    rw [S3_eq, List.append_assoc, List.set_append_right _ _ (Nat.le_refl _), Nat.sub_self]
    rfl
  unfold S6
  rw [e, mkS_pre rfl]
theorem te_10 : S6 k8_10 = t8_10 := by rw [S6_eq]; decide +kernel
