/-! THE START: the machine's words give the world's known part -/
theorem cls_ok : ∀ (k : Nat) (q : vw_C), vwCl[k]? = some q → (∀ w ∈ u_ws q.1 q.2.1 q.2.2, w ∈ lw_tbl) ∧ Cond.instantiable q.1 q.2.2 ∈ lw_tbl := by
  intro k q hk
  have hlt : k < 10 := (List.getElem?_eq_some_iff.mp hk).1
  rcases (by omega : k = 0 ∨ k = 1 ∨ k = 2 ∨ k = 3 ∨ k = 4 ∨ k = 5 ∨ k = 6 ∨ k = 7 ∨ k = 8 ∨ k = 9) with rfl | rfl | rfl | rfl | rfl | rfl | rfl | rfl | rfl | rfl <;> cases hk
  · exact ⟨fun w h => gw_tbl (mU_X0 w h), gw_tbl mB_X0⟩
  · exact ⟨fun w h => gw_tbl (mU_X1 w h), gw_tbl mB_X1⟩
  · exact ⟨fun w h => gw_tbl (mU_X2 w h), gw_tbl mB_X2⟩
  · exact ⟨fun w h => gw_tbl (mU_X3 w h), gw_tbl mB_X3⟩
  · exact ⟨fun w h => gw_tbl (mU_X4 w h), gw_tbl mB_X4⟩
  · exact ⟨fun w h => gw_tbl (mU_X5 w h), gw_tbl mB_X5⟩
  · exact ⟨fun w h => gw_tbl (mU_X6 w h), gw_tbl mB_X6⟩
  · exact ⟨fun w h => gw_tbl (mU_X7 w h), gw_tbl mB_X7⟩
  · exact ⟨fun w h => gw_tbl (mU_X8 w h), gw_tbl mB_X8⟩
  · exact ⟨fun w h => gw_tbl (mU_X9 w h), gw_tbl mB_X9⟩
theorem arr_prim {s : State} {args : Array Value} {ty : FieldType} (h : (Cond.arrayClass ty).before args s = true) : ∃ cA : ClassId, s.vm.findClass ("[" ++ ty.toString) = some cA ∧ ∃ (kA : Class) (comp : ClassId), s.vm.classes[cA]? = some kA ∧ kA.kind = .array comp ty := by
  obtain ⟨c, k, comp, h1, h2, h3⟩ := Cond.arrayClass_spec h
  exact ⟨c, h1, k, comp, h2, h3⟩
theorem arr_obj {s : State} {C : String} (h : va_AO C s) : ∃ cA : ClassId, ArrOfT s cA (.object C) ∧ va_RA s cA (.object C) := by
  obtain ⟨comp, c, k, h1, h2, h3, h4, h5⟩ := Cond.arrayOver_spec (va_AO.use (A := #[]) h)
  exact ⟨c, fun N z => ⟨(fun k h => by cases h), k, h3, comp, h4⟩, k, comp, h3, h4, h1, h5⟩
theorem hW0 {b : Addr} {s : State} (hgv : (Jvm.Cond.and given_1 narrow_1).before #[Value.ref b] s = true) {w : Cond} (h : w ∈ needW) : w.before #[Value.ref b] s = true := flat_of_before _ hgv w (need_mem h)
theorem sB_lt : ∀ q ∈ strL, (sB q).length < 2 ^ 31 := by decide +kernel
theorem tab_lt : ∀ q ∈ tabL, q.2.2.length < 2 ^ 31 := by decide +kernel
theorem start_tab {s : State} {b : Addr} (hts : ∀ w ∈ lw_tbl, w.before #[Value.ref b] s = true) (hgv : (Jvm.Cond.and given_1 narrow_1).before #[Value.ref b] s = true) {q : String × String × List Int} (hq : q ∈ tabL) : ∃ t : Nat, va_Z q.1 q.2.1 "[I" (.ref t) (fun x : Nat => s.heap.size ≤ x) s s.heap ∧ va_T .int t q.2.2.length (fun j => .int (iI (q.2.2.getD j 0))) (fun x : Nat => s.heap.size ≤ x) s s.heap := by
  have hA : ∀ a : Nat, a < s.heap.size → ¬ (fun x : Nat => s.heap.size ≤ x) a := fun a h => Nat.not_le.mpr h
  have hm : ∀ w ∈ tabW q, w ∈ needW := fun w hw => List.mem_append_right _ (List.mem_append_left _ (List.mem_flatMap.mpr ⟨q, hq, hw⟩))
  have g : ∀ w ∈ tabW q, w.before #[Value.ref b] s = true := fun w hw => hW0 hgv (hm w hw)
  obtain ⟨t, ht, hT⟩ := va_Tof (args := #[Value.ref b]) (s := s) (tm := .static q.1 q.2.1 "[I") (ty := .int) (N := q.2.2.length) (f := fun j => .int (iI (q.2.2.getD j 0))) (A := fun x : Nat => s.heap.size ≤ x) (tab_lt q hq)
    (g _ List.mem_cons_self) (va_eqt (g _ (List.mem_cons_of_mem _ List.mem_cons_self))) (fun j hj => va_eqt (g _ (List.mem_cons_of_mem _ (List.mem_cons_of_mem _ (List.mem_map.mpr ⟨j, List.mem_range.mpr hj, rfl⟩))))) hA
  exact ⟨t, va_Zref (hts _ (nw_l q hq).1) (hts _ (nw_l q hq).2) ht hA, hT⟩
theorem start_str {s : State} {b : Addr} (hts : ∀ w ∈ lw_tbl, w.before #[Value.ref b] s = true) (hgv : (Jvm.Cond.and given_1 narrow_1).before #[Value.ref b] s = true) {q : String × Nat × String} (hq : q ∈ strL) : ∃ x : Nat × Nat, vk_R q.1 q.2.1 q.2.2 x.1 s ∧ va_O "java/lang/String" x.1 (fun x : Nat => s.heap.size ≤ x) s s.heap ∧ va_OF "java/lang/String" "coder" "B" (.int 0) x.1 (fun x : Nat => s.heap.size ≤ x) s s.heap ∧ va_OF "java/lang/String" "value" "[B" (.ref x.2) x.1 (fun x : Nat => s.heap.size ≤ x) s s.heap ∧
    va_T .byte x.2 (sB q).length (fun j => .int (iI ((sB q).getD j 0))) (fun x : Nat => s.heap.size ≤ x) s s.heap := by
  have hA : ∀ a : Nat, a < s.heap.size → ¬ (fun x : Nat => s.heap.size ≤ x) a := fun a h => Nat.not_le.mpr h
  have hm : ∀ w ∈ strW q, w ∈ needW := fun w hw => List.mem_append_left _ (List.mem_flatMap.mpr ⟨q, hq, hw⟩)
  have g : ∀ w ∈ strW q, w.before #[Value.ref b] s = true := fun w hw => hW0 hgv (hm w hw)
  have g0 : (Cond.exactly (.string q.1 q.2.1) "java/lang/String").before #[Value.ref b] s = true := g _ List.mem_cons_self
  have g1 : (Cond.eq (.field (.string q.1 q.2.1) "java/lang/String" "coder" "B") (.int 0)).before #[Value.ref b] s = true := g _ (List.mem_cons_of_mem _ List.mem_cons_self)
  have g2 : (Cond.arrayOf (sF q) .byte).before #[Value.ref b] s = true := g _ (List.mem_cons_of_mem _ (List.mem_cons_of_mem _ List.mem_cons_self))
  have g3 : (Cond.eq (.length (sF q)) (.int (Int32.ofNat (sB q).length))).before #[Value.ref b] s = true := g _ (List.mem_cons_of_mem _ (List.mem_cons_of_mem _ (List.mem_cons_of_mem _ List.mem_cons_self)))
  obtain ⟨a, c, cA, kA, q1, -⟩ := Cond.exactly_spec (args := #[Value.ref b]) (first := s) (o := none) (s := s) (idx := []) (t := .string q.1 q.2.1) (cls := "java/lang/String") g0
  obtain ⟨t, ht, hT⟩ := va_Tof (args := #[Value.ref b]) (s := s) (tm := sF q) (ty := .byte) (N := (sB q).length) (f := fun j => .int (iI ((sB q).getD j 0))) (A := fun x : Nat => s.heap.size ≤ x) (sB_lt q hq) g2 (va_eqt g3)
    (fun j hj => va_eqt (g _ (List.mem_cons_of_mem _ (List.mem_cons_of_mem _ (List.mem_cons_of_mem _ (List.mem_cons_of_mem _ (List.mem_map.mpr ⟨j, List.mem_range.mpr hj, rfl⟩))))))) hA
  exact ⟨(a, t), vk_R.of (hts _ (nw_s q hq)) q1, va_Oof g0 q1 hA, vk_OFof q1 (va_eqt g1) hA, vk_OFof q1 ht hA, hT⟩
theorem kk_start {s : State} {b : Addr} (hts : ∀ w ∈ lw_tbl, w.before #[Value.ref b] s = true) (hgv : (Jvm.Cond.and given_1 narrow_1).before #[Value.ref b] s = true) : ∃ E : EnvT, E.1 = s.heap.size ∧ KK E s s.heap := by
  have hA : ∀ a : Nat, a < s.heap.size → ¬ (fun x : Nat => s.heap.size ≤ x) a := fun a h => Nat.not_le.mpr h
  have h0 : ∀ k : Nat, ∃ x : ClassId × (Nat → Nat), ∀ q, vwCl[k]? = some q → u_Kn s q.1 q.2.1 q.2.2 x.1 x.2 := by
    intro k
    cases hk : vwCl[k]? with
    | none => exact ⟨(0, fun _ => 0), fun q h => by cases h⟩
    | some q =>
      obtain ⟨c1, c2⟩ := cls_ok k q hk
      obtain ⟨cC, iS, h⟩ := u_known (C := q.1) (T := q.2.1) (N := q.2.2) (n := q.2.2) hts c1 (hts _ c2)
      exact ⟨(cC, iS), fun q' h' => by cases h'; exact h⟩
  obtain ⟨f, hf⟩ := Classical.axiomOfChoice h0
  have h1 : ∀ k : Nat, ∃ t : Nat, ∀ q, tabL[k]? = some q → va_Z q.1 q.2.1 "[I" (.ref t) (fun x : Nat => s.heap.size ≤ x) s s.heap ∧ va_T .int t q.2.2.length (fun j => .int (iI (q.2.2.getD j 0))) (fun x : Nat => s.heap.size ≤ x) s s.heap := by
    intro k
    cases hk : tabL[k]? with
    | none => exact ⟨0, fun q h => by cases h⟩
    | some q =>
      obtain ⟨t, h⟩ := start_tab hts hgv (List.mem_of_getElem? hk)
      exact ⟨t, fun q' h' => by cases h'; exact h⟩
  obtain ⟨ft, hft⟩ := Classical.axiomOfChoice h1
  have h2 : ∀ k : Nat, ∃ x : Nat × Nat, ∀ q, strL[k]? = some q → vk_R q.1 q.2.1 q.2.2 x.1 s ∧ va_O "java/lang/String" x.1 (fun x : Nat => s.heap.size ≤ x) s s.heap ∧ va_OF "java/lang/String" "coder" "B" (.int 0) x.1 (fun x : Nat => s.heap.size ≤ x) s s.heap ∧ va_OF "java/lang/String" "value" "[B" (.ref x.2) x.1 (fun x : Nat => s.heap.size ≤ x) s s.heap ∧
      va_T .byte x.2 (strC k).length (fun j => .int (iI ((strC k).getD j 0))) (fun x : Nat => s.heap.size ≤ x) s s.heap := by
    intro k
    cases hk : strL[k]? with
    | none => exact ⟨(0, 0), fun q h => by cases h⟩
    | some q =>
      obtain ⟨x, h⟩ := start_str hts hgv (List.mem_of_getElem? hk)
      have e : strC k = sB q := by
        unfold strC sB
        rw [List.getD_eq_getElem?_getD, hk]
        rfl
      refine ⟨x, fun q' h' => ?_⟩
      rw [e]
      cases h'
      exact h
  obtain ⟨fs, hfs⟩ := Classical.axiomOfChoice h2
  obtain ⟨cI, i1, kI, mI, i2, i3⟩ := arr_prim (hts _ nw_aint)
  obtain ⟨cB, b1, kB, mB, b2, b3⟩ := arr_prim (hts _ nw_abyte)
  obtain ⟨cZ, z1, kZ, mZ, z2, z3⟩ := arr_prim (hts _ nw_aboolean)
  obtain ⟨cP, p1, p2⟩ := arr_obj (va_AO.of (hts _ nw_o1))
  obtain ⟨cS, s1, s2⟩ := arr_obj (va_AO.of (hts _ nw_o3))
  refine ⟨(s.heap.size, (fun k => (f k).1, fun k => (f k).2), fun k => if k = 0 then cI else if k = 1 then cB else if k = 2 then cZ else if k = 3 then cP else cS, ft, fun k => (fs k).1, fun k => (fs k).2), rfl, ⟨hf, fun k q hk => ?_⟩, fun k q hk => hft k q hk, fun k q hk => hfs k q hk, fun q hq => va_Nw.of rfl (hts _ (nw_n q hq)), ?_, ?_⟩
  · have hlt : k < 5 := (List.getElem?_eq_some_iff.mp hk).1
    rcases (by omega : k = 0 ∨ k = 1 ∨ k = 2 ∨ k = 3 ∨ k = 4) with rfl | rfl | rfl | rfl | rfl <;> cases hk
    · exact ⟨fun n z => ⟨fun k h => (by cases h), kI, i2, mI, i3⟩, i1⟩
    · exact ⟨fun n z => ⟨fun k h => (by cases h), kB, b2, mB, b3⟩, b1⟩
    · exact ⟨fun n z => ⟨fun k h => (by cases h), kZ, z2, mZ, z3⟩, z1⟩
    · exact ⟨p1, p2⟩
    · exact ⟨s1, s2⟩
  · refine va_Zof (hts _ nw_c1) (hts _ nw_c2) (va_eqi (z := 1) (hW0 hgv ?_)) hA
    exact List.mem_append_right _ (List.mem_append_right _ List.mem_cons_self)
  · refine va_Zqof (hts _ nw_p1) (hts _ nw_p2) (hW0 hgv ?_) hA
    exact List.mem_append_right _ (List.mem_append_right _ (List.mem_cons_of_mem _ List.mem_cons_self))
