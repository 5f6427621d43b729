/-! MAKING: rows of references -/
section REFS
variable {E : EnvT} {ad : Nat → Nat} {shl : List Shp} {p : Program} {l : Launch} {e : Env} {Rm : Room} {s : State} {m : MethodId} {args : Array Value} {below : List Frame} {meth : Method} {c : Code} {cells slots : Nat} {Q : State → Prop} {nL : Nat} {cc : ByteArray} {own : String} {ret : Option FieldType}
variable {h : Hp} {pc : Nat} {L : List (Option Value)} {S : List Value}
theorem rqv_none {rs : List Nat} (hz : ∀ x ∈ rs, x = 0) : rqv ad rs = fun _ => none := by
  funext j
  unfold rqv
  have : rs.getD j 0 = 0 := by
    rw [List.getD_eq_getElem?_getD]
    cases hj : rs[j]? with
    | none => rfl
    | some x => exact hz x (List.mem_of_getElem? hj)
  rw [if_pos this]
theorem r_newq (X : Cx E p s m args meth c cc own nL ret) {C : String} {t N index : Nat} {rs : List Nat} {n : Int32} (cl : Cl shl h) (hn : n.toInt = (N : Int)) (hN : N ≤ 100) (ht3 : 3 ≤ t) (ht : (tysE E)[t]? = some (E.2.2.1 t, .object C)) (hz : ∀ x ∈ rs, x = 0) (hlink : Cond.classLink own index C ∈ gw) (hao : va_AO C s) (hce : cells + 1 ≤ Rm.cells) (hsl : slots + N ≤ Rm.slots) (hA : E.1 ≤ s.heap.size) (hd : decode cc pc = .ok (.anewarray index, 3))
    (kk : ∀ q, Ev E (upA ad shl.length q) (shl ++ [.inr (t, N, rs)]) p l e Rm s m args below meth c (cells + 1) (slots + N) Q nL (zR h shl.length) (pc + 3) L (.ref q :: S)) : Ev E ad shl p l e Rm s m args below meth c cells slots Q nL h pc L (.int n :: S) := by
  intro H locs ls hc hs hl
  refine va_newq X.1 X.2.1 X.2.2.2.1 (X.2.2.2.2.1 _ hlink) hao X.2.2.2.2.2.2.2.1 hc.1 hc.2.1 hs (fun q hq => Nat.le_trans hA hq) (toN32 hn).1 (toN32 hn).2 (by omega) hce hsl hd (fun q cA H1 hK hP hD hS => ?_)
  have ec : cA = E.2.2.1 t := by
    have ht' : (tysE E ++ [(cA, FieldType.object C)])[t]? = some (E.2.2.1 t, .object C) := by
      rw [List.getElem?_append_left (List.getElem?_eq_some_iff.mp ht).1]; exact ht
    obtain ⟨-, -, -, -, -, a⟩ := (hK.2 t (E.2.2.1 t, .object C) ht').2
    obtain ⟨-, -, -, -, -, b⟩ := (hK.2 5 (cA, .object C) rfl).2
    exact Option.some.inj (b.symm.trans a)
  refine kk q H1 locs ls (CW_push cl hc.2.2 ?_ hP hD) hS hl
  rw [ec]
  show _ = (if t < 3 then _ else _ : va_E)
  rw [if_neg (by omega), rqv_none hz]
theorem wl_rset {a t n j k : Nat} {rs : List Nat} (ha : shl[a]? = some (.inr (t, n, rs))) (ht3 : 3 ≤ t) (hj : j < rs.length) : (wl_ E ad h shl).set a (ad a, .inl (E.2.2.1 t, n, .inr (.inr (.inr (.inr (va_up (rqv ad rs) j (some (ad k)))))))) = wl_ E ad h (shl.set a (.inr (t, n, rs.set j (k + 1)))) := by
  apply List.ext_getElem?
  intro i
  have hlt := (List.getElem?_eq_some_iff.mp ha).1
  by_cases hi : i = a
  · subst hi
    have hl2 : i < (wl_ E ad h shl).length := by simpa [wl_] using hlt
    rw [List.getElem?_set_self hl2]
    unfold wl_
    rw [List.getElem?_mapIdx, List.getElem?_set_self hlt]
    show some _ = some (ad i, (if t < 3 then _ else _ : va_E))
    rw [if_neg (by omega)]
    have e : va_up (rqv ad rs) j (some (ad k)) = rqv ad (rs.set j (k + 1)) := by
      funext x
      unfold va_up rqv
      by_cases z : x = j
      · subst z
        have : (rs.set x (k + 1)).getD x 0 = k + 1 := by rw [List.getD_eq_getElem?_getD, List.getElem?_set_self hj]; rfl
        rw [this]
        simp
      · have : (rs.set j (k + 1)).getD x 0 = rs.getD x 0 := by rw [List.getD_eq_getElem?_getD, List.getElem?_set_ne (fun w => z w.symm), ← List.getD_eq_getElem?_getD]
        rw [this]
        simp [z]
    rw [e]
  · rw [List.getElem?_set_ne (fun z => hi z.symm)]
    unfold wl_
    rw [List.getElem?_mapIdx, List.getElem?_mapIdx, List.getElem?_set_ne (fun z => hi z.symm)]
theorem r_aast (X : Cx E p s m args meth c cc own nL ret) {a t n k ci j : Nat} {rs cs : List Nat} {r : vw_C} {i : Int32} (ha : shl[a]? = some (.inr (t, n, rs))) (ht3 : 3 ≤ t) (ht : (tysE E)[t]? = some (E.2.2.1 t, .object r.1)) (hv : shl[k]? = some (.inl (ci, cs))) (hc : vwCl[ci]? = some r) (hi : i.toInt = (j : Int)) (hj : j < n) (hl : j < rs.length) (hd : decode cc pc = .ok (.aastore, 1))
    (kk : Ev E ad (shl.set a (.inr (t, n, rs.set j (k + 1)))) p l e Rm s m args below meth c cells slots Q nL h (pc + 1) L S) : Ev E ad shl p l e Rm s m args below meth c cells slots Q nL h pc L (.ref (ad k) :: .int i :: .ref (ad a) :: S) := by
  intro H locs ls hcw hs hl'
  have hw : (wl_ E ad h shl)[a]? = some (ad a, .inl (E.2.2.1 t, n, .inr (.inr (.inr (.inr (rqv ad rs)))))) := by
    rw [wl_get ha]
    show some (ad a, (if t < 3 then _ else _ : va_E)) = _
    rw [if_neg (by omega)]
  refine va_astq X.1 X.2.1 X.2.2.2.2.2.2.2.1 hcw.1 hcw.2.1 hs a t k ci hw ht (wl_get hv) hc (vp_iff.mpr ⟨by omega, by omega⟩) hd (fun H1 locs1 hP hD hS => ?_)
  have e : i.toNatClampNeg = j := by rw [toNatClamp]; omega
  rw [e] at hP hD
  exact kk H1 locs1 ls ⟨by rw [← wl_rset ha ht3 hl]; exact hP, by rw [← wl_rset ha ht3 hl]; exact hD, hcw.2.2⟩ hS hl'
/-- a constant that is known by its word -/
theorem r_icw (X : Cx E p s m args meth c cc own nL ret) {n : Int} (hd : decode cc pc = .ok (.iconst n, 1)) (kk : Ev E ad shl p l e Rm s m args below meth c cells slots Q nL h (pc + 1) L (.int (Int32.ofInt n) :: S)) : Ev E ad shl p l e Rm s m args below meth c cells slots Q nL h pc L S :=
  fun H locs ls hc hs hl => lv_iconst X.1 X.2.1 hd rfl (kk H locs ls hc hs hl)
end REFS
