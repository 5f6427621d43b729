/-! MAKING: a trial, with its shore -/
theorem MK.mkS {b ci : Nat} : ∀ (r : List (Nat × Nat)) {shl : List Shp} {h : Hp} {cs : List Nat}, MK shl h b ci cs → MK (mkS b ci r shl cs) (mkHp b ci r shl cs h) b ci (fiS r cs (shl.length + 2))
  | [], _, _, _, m => m
  | x :: r, shl, h, cs, m => by
    have := MK.mkS r (m.mk (k := x.1) (t := 0) (N := x.2) (by decide))
    rw [mkL_len] at this
    exact this
theorem MK.fin {shl : List Shp} {h : Hp} {b ci k q : Nat} {cs : List Nat} (m : MK shl h b ci cs) (hq : q < shl.length) : MK (shl.set b (.inl (ci, cs.set k (q + 2)))) h b ci (cs.set k (q + 2)) := by
  obtain ⟨m1, m2, m3⟩ := m
  refine ⟨by rw [List.getElem?_set_self m2], by rw [List.length_set]; exact m2, fun p s hp => ?_⟩
  rw [List.length_set]
  by_cases y : p = b
  · subst y
    rw [List.getElem?_set_self m2] at hp
    cases hp
    intro i x hx
    by_cases z : i = k
    · subst z
      have hk : i < cs.length := by
        have := (List.getElem?_eq_some_iff.mp hx).1
        rwa [List.length_set] at this
      rw [List.getElem?_set_self hk] at hx
      cases hx
      exact Or.inr (Or.inr ⟨by omega, by omega⟩)
    · rw [List.getElem?_set_ne (fun w => z w.symm)] at hx
      exact m3 p _ m1 i x hx
  · rw [List.getElem?_set_ne (fun w => y w.symm)] at hp
    exact m3 p s hp
def c3 : List Nat := [1, 1, 1, 1, 1, 1, 1, 0, 0, 0, 0, 0, 0, 0, 0, 0]
def st3 : List (Nat × Nat) := [(0, 64), (1, 64), (2, 64), (3, 64), (4, 3), (5, 4), (6, 4)]
/-- the world behind one more shore -/
def S3 (shl : List Shp) : List Shp := mkS shl.length 3 st3 (shl ++ [(Sum.inl (3, c3) : Shp)]) c3
def H3 (shl : List Shp) (h : Hp) : Hp := set2 (set2 (mkHp shl.length 3 st3 (shl ++ [(Sum.inl (3, c3) : Shp)]) c3 (nH h shl.length c3)) shl.length 7 (-1)) shl.length 8 1
theorem c3_01 : ∀ (k x : Nat), c3[k]? = some x → x = 0 ∨ x = 1 := by
  intro k x hx
  have := List.mem_of_getElem? hx
  revert this
  unfold c3
  simp only [List.mem_cons, List.not_mem_nil, or_false]
  omega
theorem S3_eq {shl : List Shp} : S3 shl = shl ++ ((Sum.inl (3, fiS st3 c3 (shl.length + 3)) : Shp) :: st3.map fun x => (Sum.inr (0, x.2, []) : Shp)) := by
  unfold S3
  rw [mkS_pre rfl]
  rfl
theorem S3_len {shl : List Shp} : (S3 shl).length = shl.length + 8 := by rw [S3_eq]; simp [st3]
theorem S3_get {shl : List Shp} {b : Nat} (hb : b < shl.length) : (S3 shl)[b]? = shl[b]? := by rw [S3_eq, List.getElem?_append_left hb]
theorem S3_mk {shl : List Shp} {h : Hp} (c : Cl shl h) : MK (S3 shl) (H3 shl h) shl.length 3 (fiS st3 c3 (shl.length + 1 + 2)) := by
  have m := MK.mkS st3 (MK.new (ci := 3) (cs := c3) c c3_01)
  rw [show (shl ++ [(Sum.inl (3, c3) : Shp)]).length = shl.length + 1 by simp] at m
  exact (m.set (k := 7) (x := -1) rfl).set (k := 8) (x := 1) rfl
theorem S3_keep {shl : List Shp} {h : Hp} {b ci : Nat} {cs : List Nat} (m : MK shl h b ci cs) : MK (S3 shl) (H3 shl h) b ci cs := ⟨by rw [S3_get m.2.1]; exact m.1, by rw [S3_len]; have := m.2.1; omega, (S3_mk m.2.2).2.2⟩
theorem hdd_X3_init : yX3_init.cls ≠ "java/lang/invoke/MethodHandle" ∧ yX3_init.cls ≠ "java/lang/invoke/VarHandle" ∧ (parseMethodDescriptor yX3_init.desc).map (fun d => d.parameters.length) = some 0 := ⟨by decide +kernel, by decide +kernel, by decide +kernel⟩
section TRIAL
variable {E : EnvT} {ad : Nat → Nat} {shl : List Shp} {p : Program} {l : Launch} {e : Env} {Rm : Room} {s : State} {m : MethodId} {args : Array Value} {below : List Frame} {meth : Method} {c : Code} {cells slots : Nat} {Q : State → Prop} {nL : Nat} {cc : ByteArray} {own : String} {ret : Option FieldType}
variable {h : Hp} {pc : Nat} {L : List (Option Value)} {S : List Value}
set_option maxRecDepth 100000 in
set_option maxHeartbeats 4000000 in
theorem r_shore (X : Cx E p s m args meth c cc own nL ret) (hA : E.1 ≤ s.heap.size) {index idx : Nat} {host : String} (cl : Cl shl h) (hlink : Cond.classLink own index RX3 ∈ gw) (call : (own, idx, yX3_init, host) ∈ nestL) (hce : cells + 1 + 7 ≤ Rm.cells) (hsl : slots + 16 + 267 ≤ Rm.slots) (hR : 1 + 1 ≤ Rm.frames ∧ 8 + (1 + 11) + 12 ≤ Rm.locals) (hW : (S.map fun v => v.category).sum ≤ 7)
    (d0 : decode cc pc = .ok (.new index, 3)) (d1 : decode cc (pc + 3) = .ok (.dup, 1)) (d2 : decode cc (pc + 3 + 1) = .ok (.invokespecial idx, 3))
    (kk : ∀ ad', (∀ p, p < shl.length → ad' p = ad p) → Ev E ad' (S3 shl) p l e Rm s m args below meth c (cells + 1 + 7) (slots + 16 + 267) Q nL (H3 shl h) (pc + 3 + 1 + 3) L (.ref (ad' shl.length) :: S)) : Ev E ad shl p l e Rm s m args below meth c cells slots Q nL h pc L S := by
  refine r_obj (ci := 3) (cs := c3) (N := 16) (rm := rm_X3_init) (SH := S3 shl) (HH := H3 shl h) X hA cl rfl mU_X3 tyX3 tyX3_ok hlink mB_X3 mN_X3 rfl (by decide) (by decide) hce hsl (fun q => ?_) (Or.inl call) mI_X3_init rfl mK_X3_init rfl rfl rfl hdd_X3_init hR hW d0 d1 d2 kk
  have := c_X3_init (E := E) (ad := upA ad shl.length q) (l := l) (MK.new (ci := 3) (cs := c3) cl c3_01)
  rw [mkHp_eq (b := shl.length) (ci := 3) _ (shl ++ [(Sum.inl (3, c3) : Shp)]) c3] at this
  exact this
end TRIAL
