/-! MAKING: an object, and its constructor behind it -/
def nH (h : Hp) (n : Nat) (cs : List Nat) : Hp := fun a j => if a = n ∧ cs.getD j 9 = 1 then -1 else zR h n a j
theorem nH_ne {h : Hp} {n p : Nat} {cs : List Nat} (hp : p ≠ n) : nH h n cs p = h p := by
  funext j
  unfold nH
  rw [if_neg (fun q => hp q.1), zR_ne hp]
theorem MK.new {shl : List Shp} {h : Hp} {ci : Nat} {cs : List Nat} (c : Cl shl h) (h01 : ∀ (k x : Nat), cs[k]? = some x → x = 0 ∨ x = 1) : MK (shl ++ [(Sum.inl (ci, cs) : Shp)]) (nH h shl.length cs) shl.length ci cs := by
  refine ⟨by rw [List.getElem?_append_right (Nat.le_refl _), Nat.sub_self]; rfl, by simp, fun p s hp => ?_⟩
  rw [List.length_append, List.length_singleton]
  by_cases y : p < shl.length
  · rw [List.getElem?_append_left y] at hp
    rw [nH_ne (by omega)]
    exact (c p s hp).mono (by omega)
  · have hl := (List.getElem?_eq_some_iff.mp hp).1
    rw [List.length_append, List.length_singleton] at hl
    obtain rfl : p = shl.length := by omega
    rw [List.getElem?_append_right (Nat.le_refl _), Nat.sub_self] at hp
    cases hp
    intro k x hx
    rcases h01 k x hx with q | q
    · exact Or.inl q
    · refine Or.inr (Or.inl ⟨q, ?_⟩)
      unfold nH
      rw [if_pos ⟨rfl, by rw [List.getD_eq_getElem?_getD, hx, q]; rfl⟩]
      omega
section OBJ
variable {E : EnvT} {ad : Nat → Nat} {shl : List Shp} {p : Program} {l : Launch} {e : Env} {Rm : Room} {s : State} {m : MethodId} {args : Array Value} {below : List Frame} {meth : Method} {c : Code} {cells slots : Nat} {Q : State → Prop} {nL : Nat} {cc : ByteArray} {own : String} {ret : Option FieldType}
variable {h : Hp} {pc : Nat} {L : List (Option Value)} {S : List Value}
theorem r_obj (X : Cx E p s m args meth c cc own nL ret) (hA : E.1 ≤ s.heap.size) {C : String} {T : u_T} {N ci index idx mc ms : Nat} {cs : List Nat} {y : MethodName} {bytes : ByteArray} {rm : Room} {host : String} {SH : List Shp} {HH : Hp} (cl : Cl shl h) (hcl : vwCl[ci]? = some (C, T, N)) (hin : ∀ w ∈ u_ws C T N, w ∈ gw) (ty : Nat → FieldType) (hty : ∀ k, k < N → parseFieldDescriptor (T k).2.2.1 = some (ty k)) (hlink : Cond.classLink own index C ∈ gw) (hinst : Cond.instantiable C N ∈ gw) (hini : Cond.initialized C ∈ gw) (hcs : cs.length = N) (hfs : ∀ j, j < N → defaultValue (ty j) = (if cs.getD j 9 = 0 then .int 0 else .null)) (h01 : ∀ j, j < N → cs.getD j 9 = 0 ∨ cs.getD j 9 = 1)
    (hce : cells + 1 + mc ≤ Rm.cells) (hsl : slots + N + ms ≤ Rm.slots) (hM : ∀ q, Met l y (wsM y bytes 1 none) rm (va_Pc [.ref (upA ad shl.length q shl.length)] (WorldG E (upA ad shl.length q) (shl ++ [(Sum.inl (ci, cs) : Shp)]) (nH h shl.length cs))) (QcG E (shl ++ [(Sum.inl (ci, cs) : Shp)]).length (upA ad shl.length q) SH HH) mc ms (bsA E))
    (call : (own, idx, y, host) ∈ nestL ∨ Cond.methodLink own idx y ∈ gw) (w2 : Cond.instanceMethod y ∈ gw) (hyc : y.cls = C) (w5 : Cond.code y bytes 1 none ∈ gw) (hrc : rm.cells = mc) (hrs : rm.slots = ms) (hnm : y.name = "<init>")
    (hdd : y.cls ≠ "java/lang/invoke/MethodHandle" ∧ y.cls ≠ "java/lang/invoke/VarHandle" ∧ (parseMethodDescriptor y.desc).map (fun d => d.parameters.length) = some 0) (hR : rm.frames + 1 ≤ Rm.frames ∧ 8 + (1 + 11) + rm.locals ≤ Rm.locals) (hW : (S.map fun v => v.category).sum ≤ 7)
    (d0 : decode cc pc = .ok (.new index, 3)) (d1 : decode cc (pc + 3) = .ok (.dup, 1)) (d2 : decode cc (pc + 3 + 1) = .ok (.invokespecial idx, 3))
    (kk : ∀ ad', (∀ p, p < shl.length → ad' p = ad p) → Ev E ad' SH p l e Rm s m args below meth c (cells + 1 + mc) (slots + N + ms) Q nL HH (pc + 3 + 1 + 3) L (.ref (ad' shl.length) :: S)) : Ev E ad shl p l e Rm s m args below meth c cells slots Q nL h pc L S := by
  refine r_newO X cl hcl hin ty hty hlink hinst hini hcs hfs h01 (by omega) (by omega) hA d0 (fun q => ?_)
  refine r_dup X d1 rfl ?_
  have e2 : (Value.ref q) = .ref (upA ad shl.length q shl.length) := by rw [upA_same]
  rw [e2]
  have hW' : ((Value.ref (upA ad shl.length q shl.length) :: S).map fun v => v.category).sum ≤ 8 := by
    simp only [List.map_cons, List.sum_cons]
    have : (Value.ref (upA ad shl.length q shl.length)).category = 1 := rfl
    omega
  show Ev E (upA ad shl.length q) (shl ++ [(Sum.inl (ci, cs) : Shp)]) p l e Rm s m args below meth c (cells + 1) (slots + N) Q nL (nH h shl.length cs) (pc + 3 + 1) L _
  refine r_cG (S := .ref (upA ad shl.length q shl.length) :: S) (a := #[.ref (upA ad shl.length q shl.length)]) (mc := mc) (ms := ms) (n := (shl ++ [(Sum.inl (ci, cs) : Shp)]).length) (shl' := SH) (h' := HH) ?_ (fun ad' had => ?_)
  · rcases call with w1 | w1
    · exact runING X hA d2 (hM q) w1 w2 (by rw [hyc]; exact hini) w5 hrc hrs hnm hdd hR hW' ⟨hce, hsl⟩
    · exact runIG X hA d2 (hM q) w1 w2 (by rw [hyc]; exact hini) w5 hrc hrs hnm hdd hR hW' ⟨hce, hsl⟩
  · have hl : (shl ++ [(Sum.inl (ci, cs) : Shp)]).length = shl.length + 1 := by simp
    have e3 : (Value.ref (upA ad shl.length q shl.length)) = .ref (ad' shl.length) := by rw [had _ (by omega)]
    rw [e3]
    exact kk ad' (fun p hp => by rw [had p (by omega), upA_ne (by omega)])
end OBJ
