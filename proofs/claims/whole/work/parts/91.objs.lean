/-! MAKING: an object of each class, with its constructor -/
def c5i : List Nat := [1, 0, 0, 0, 0, 0, 0, 0]
def s5i : List (Nat × Nat) := [(0, 900)]
theorem hdd_X5_init : yX5_init.cls ≠ "java/lang/invoke/MethodHandle" ∧ yX5_init.cls ≠ "java/lang/invoke/VarHandle" ∧ (parseMethodDescriptor yX5_init.desc).map (fun d => d.parameters.length) = some 0 := ⟨by decide +kernel, by decide +kernel, by decide +kernel⟩
def c7i : List Nat := [0, 0, 0, 1, 1, 1, 1, 1, 1, 1, 1, 1]
def s7i : List (Nat × Nat) := [(3, 16), (4, 16), (5, 16), (6, 16), (7, 20), (8, 20), (9, 20), (10, 16), (11, 336)]
theorem hdd_X7_init : yX7_init.cls ≠ "java/lang/invoke/MethodHandle" ∧ yX7_init.cls ≠ "java/lang/invoke/VarHandle" ∧ (parseMethodDescriptor yX7_init.desc).map (fun d => d.parameters.length) = some 0 := ⟨by decide +kernel, by decide +kernel, by decide +kernel⟩
def c4i : List Nat := [1]
def s4i : List (Nat × Nat) := [(0, 9)]
theorem hdd_X4_init : yX4_init.cls ≠ "java/lang/invoke/MethodHandle" ∧ yX4_init.cls ≠ "java/lang/invoke/VarHandle" ∧ (parseMethodDescriptor yX4_init.desc).map (fun d => d.parameters.length) = some 0 := ⟨by decide +kernel, by decide +kernel, by decide +kernel⟩
def c1i : List Nat := [1, 1, 1, 1, 0]
def s1i : List (Nat × Nat) := [(0, 4), (1, 32), (2, 32), (3, 32)]
theorem hdd_X1_init : yX1_init.cls ≠ "java/lang/invoke/MethodHandle" ∧ yX1_init.cls ≠ "java/lang/invoke/VarHandle" ∧ (parseMethodDescriptor yX1_init.desc).map (fun d => d.parameters.length) = some 0 := ⟨by decide +kernel, by decide +kernel, by decide +kernel⟩
def c0i : List Nat := [1, 1, 1, 1, 1, 0, 0, 0, 0]
def s0i : List (Nat × Nat) := [(0, 11), (1, 64), (2, 64), (3, 3), (4, 17)]
theorem hdd_X0_init : yX0_init.cls ≠ "java/lang/invoke/MethodHandle" ∧ yX0_init.cls ≠ "java/lang/invoke/VarHandle" ∧ (parseMethodDescriptor yX0_init.desc).map (fun d => d.parameters.length) = some 0 := ⟨by decide +kernel, by decide +kernel, by decide +kernel⟩
def c2i : List Nat := [1, 1, 1, 1, 0, 0, 0]
def s2i : List (Nat × Nat) := [(0, 9), (1, 12), (2, 12), (3, 12)]
theorem hdd_X2_init : yX2_init.cls ≠ "java/lang/invoke/MethodHandle" ∧ yX2_init.cls ≠ "java/lang/invoke/VarHandle" ∧ (parseMethodDescriptor yX2_init.desc).map (fun d => d.parameters.length) = some 0 := ⟨by decide +kernel, by decide +kernel, by decide +kernel⟩
def c6i : List Nat := [1, 1, 1, 1, 1, 0, 0]
theorem hdd_X6_init : yX6_init.cls ≠ "java/lang/invoke/MethodHandle" ∧ yX6_init.cls ≠ "java/lang/invoke/VarHandle" ∧ (parseMethodDescriptor yX6_init.desc).map (fun d => d.parameters.length) = some 0 := ⟨by decide +kernel, by decide +kernel, by decide +kernel⟩
def b6 (shl : List Shp) : List Shp := (S3 (shl ++ [(Sum.inl (6, c6i) : Shp)])).set shl.length (.inl (6, c6i.set 0 ((shl ++ [(Sum.inl (6, c6i) : Shp)]).length + 2)))
def d6 (shl : List Shp) : List Nat := c6i.set 0 ((shl ++ [(Sum.inl (6, c6i) : Shp)]).length + 2)
def S6 (shl : List Shp) : List Shp := mkS shl.length 6 [(1, 2), (2, 2), (3, 2), (4, 99)] (b6 shl) (d6 shl)
def H6 (shl : List Shp) (h : Hp) : Hp := mkHp shl.length 6 [(1, 2), (2, 2), (3, 2), (4, 99)] (b6 shl) (d6 shl) (H3 (shl ++ [(Sum.inl (6, c6i) : Shp)]) (nH h shl.length c6i))
section OBJS
variable {E : EnvT} {ad : Nat → Nat} {shl : List Shp} {p : Program} {l : Launch} {e : Env} {Rm : Room} {s : State} {m : MethodId} {args : Array Value} {below : List Frame} {meth : Method} {c : Code} {cells slots : Nat} {Q : State → Prop} {nL : Nat} {cc : ByteArray} {own : String} {ret : Option FieldType}
variable {h : Hp} {pc : Nat} {L : List (Option Value)} {S : List Value}
set_option maxRecDepth 100000 in
set_option maxHeartbeats 4000000 in
theorem r_tape (X : Cx E p s m args meth c cc own nL ret) (hA : E.1 ≤ s.heap.size) {index idx : Nat} {host : String} (cl : Cl shl h) (hlink : Cond.classLink own index RX5 ∈ gw) (call : (own, idx, yX5_init, host) ∈ nestL) (hce : cells + 1 + 1 ≤ Rm.cells) (hsl : slots + 8 + 900 ≤ Rm.slots) (hR : 1 + 1 ≤ Rm.frames ∧ 8 + (1 + 11) + 12 ≤ Rm.locals) (hW : (S.map fun v => v.category).sum ≤ 7)
    (d0 : decode cc pc = .ok (.new index, 3)) (d1 : decode cc (pc + 3) = .ok (.dup, 1)) (d2 : decode cc (pc + 3 + 1) = .ok (.invokespecial idx, 3))
    (kk : ∀ ad', (∀ p, p < shl.length → ad' p = ad p) → Ev E ad' (SX 5 c5i s5i shl) p l e Rm s m args below meth c (cells + 1 + 1) (slots + 8 + 900) Q nL (set2 (HX 5 c5i s5i shl h) shl.length 7 (-1)) (pc + 3 + 1 + 3) L (.ref (ad' shl.length) :: S)) : Ev E ad shl p l e Rm s m args below meth c cells slots Q nL h pc L S := by
  refine r_obj (ci := 5) (cs := c5i) (N := 8) (rm := rm_X5_init) (SH := (SX 5 c5i s5i shl)) (HH := (set2 (HX 5 c5i s5i shl h) shl.length 7 (-1))) X hA cl rfl mU_X5 tyX5 tyX5_ok hlink mB_X5 mN_X5 rfl (by decide) (by decide) hce hsl (fun q => ?_) (Or.inl call) mI_X5_init rfl mK_X5_init rfl rfl rfl hdd_X5_init hR hW d0 d1 d2 kk
  have := c_X5_init (E := E) (ad := upA ad shl.length q) (l := l) (MK.new (ci := 5) (cs := c5i) cl (i01_ok rfl))
  rw [mkHp_eq (b := shl.length) (ci := 5) _ (shl ++ [(Sum.inl (5, c5i) : Shp)]) c5i] at this
  exact this
set_option maxRecDepth 100000 in
set_option maxHeartbeats 4000000 in
theorem r_tries (X : Cx E p s m args meth c cc own nL ret) (hA : E.1 ≤ s.heap.size) {index idx : Nat} {host : String} (cl : Cl shl h) (hlink : Cond.classLink own index RX7 ∈ gw) (call : (own, idx, yX7_init, host) ∈ nestL) (hce : cells + 1 + 9 ≤ Rm.cells) (hsl : slots + 12 + 476 ≤ Rm.slots) (hR : 1 + 1 ≤ Rm.frames ∧ 8 + (1 + 11) + 12 ≤ Rm.locals) (hW : (S.map fun v => v.category).sum ≤ 7)
    (d0 : decode cc pc = .ok (.new index, 3)) (d1 : decode cc (pc + 3) = .ok (.dup, 1)) (d2 : decode cc (pc + 3 + 1) = .ok (.invokespecial idx, 3))
    (kk : ∀ ad', (∀ p, p < shl.length → ad' p = ad p) → Ev E ad' (SX 7 c7i s7i shl) p l e Rm s m args below meth c (cells + 1 + 9) (slots + 12 + 476) Q nL (HX 7 c7i s7i shl h) (pc + 3 + 1 + 3) L (.ref (ad' shl.length) :: S)) : Ev E ad shl p l e Rm s m args below meth c cells slots Q nL h pc L S := by
  refine r_obj (ci := 7) (cs := c7i) (N := 12) (rm := rm_X7_init) (SH := (SX 7 c7i s7i shl)) (HH := (HX 7 c7i s7i shl h)) X hA cl rfl mU_X7 tyX7 tyX7_ok hlink mB_X7 mN_X7 rfl (by decide) (by decide) hce hsl (fun q => ?_) (Or.inl call) mI_X7_init rfl mK_X7_init rfl rfl rfl hdd_X7_init hR hW d0 d1 d2 kk
  have := c_X7_init (E := E) (ad := upA ad shl.length q) (l := l) (MK.new (ci := 7) (cs := c7i) cl (i01_ok rfl))
  rw [mkHp_eq (b := shl.length) (ci := 7) _ (shl ++ [(Sum.inl (7, c7i) : Shp)]) c7i] at this
  exact this
set_option maxRecDepth 100000 in
set_option maxHeartbeats 4000000 in
theorem r_spill (X : Cx E p s m args meth c cc own nL ret) (hA : E.1 ≤ s.heap.size) {index idx : Nat} {host : String} (cl : Cl shl h) (hlink : Cond.classLink own index RX4 ∈ gw) (call : (own, idx, yX4_init, host) ∈ nestL) (hce : cells + 1 + 1 ≤ Rm.cells) (hsl : slots + 1 + 9 ≤ Rm.slots) (hR : 1 + 1 ≤ Rm.frames ∧ 8 + (1 + 11) + 12 ≤ Rm.locals) (hW : (S.map fun v => v.category).sum ≤ 7)
    (d0 : decode cc pc = .ok (.new index, 3)) (d1 : decode cc (pc + 3) = .ok (.dup, 1)) (d2 : decode cc (pc + 3 + 1) = .ok (.invokespecial idx, 3))
    (kk : ∀ ad', (∀ p, p < shl.length → ad' p = ad p) → Ev E ad' (SX 4 c4i s4i shl) p l e Rm s m args below meth c (cells + 1 + 1) (slots + 1 + 9) Q nL (HX 4 c4i s4i shl h) (pc + 3 + 1 + 3) L (.ref (ad' shl.length) :: S)) : Ev E ad shl p l e Rm s m args below meth c cells slots Q nL h pc L S := by
  refine r_obj (ci := 4) (cs := c4i) (N := 1) (rm := rm_X4_init) (SH := (SX 4 c4i s4i shl)) (HH := (HX 4 c4i s4i shl h)) X hA cl rfl mU_X4 tyX4 tyX4_ok hlink mB_X4 mN_X4 rfl (by decide) (by decide) hce hsl (fun q => ?_) (Or.inl call) mI_X4_init rfl mK_X4_init rfl rfl rfl hdd_X4_init hR hW d0 d1 d2 kk
  have := c_X4_init (E := E) (ad := upA ad shl.length q) (l := l) (MK.new (ci := 4) (cs := c4i) cl (i01_ok rfl))
  rw [mkHp_eq (b := shl.length) (ci := 4) _ (shl ++ [(Sum.inl (4, c4i) : Shp)]) c4i] at this
  exact this
set_option maxRecDepth 100000 in
set_option maxHeartbeats 4000000 in
theorem r_plan (X : Cx E p s m args meth c cc own nL ret) (hA : E.1 ≤ s.heap.size) {index idx : Nat} {host : String} (cl : Cl shl h) (hlink : Cond.classLink own index RX1 ∈ gw) (call : (own, idx, yX1_init, host) ∈ nestL) (hce : cells + 1 + 4 ≤ Rm.cells) (hsl : slots + 5 + 100 ≤ Rm.slots) (hR : 1 + 1 ≤ Rm.frames ∧ 8 + (1 + 11) + 12 ≤ Rm.locals) (hW : (S.map fun v => v.category).sum ≤ 7)
    (d0 : decode cc pc = .ok (.new index, 3)) (d1 : decode cc (pc + 3) = .ok (.dup, 1)) (d2 : decode cc (pc + 3 + 1) = .ok (.invokespecial idx, 3))
    (kk : ∀ ad', (∀ p, p < shl.length → ad' p = ad p) → Ev E ad' (SX 1 c1i s1i shl) p l e Rm s m args below meth c (cells + 1 + 4) (slots + 5 + 100) Q nL (HX 1 c1i s1i shl h) (pc + 3 + 1 + 3) L (.ref (ad' shl.length) :: S)) : Ev E ad shl p l e Rm s m args below meth c cells slots Q nL h pc L S := by
  refine r_obj (ci := 1) (cs := c1i) (N := 5) (rm := rm_X1_init) (SH := (SX 1 c1i s1i shl)) (HH := (HX 1 c1i s1i shl h)) X hA cl rfl mU_X1 tyX1 tyX1_ok hlink mB_X1 mN_X1 rfl (by decide) (by decide) hce hsl (fun q => ?_) (Or.inl call) mI_X1_init rfl mK_X1_init rfl rfl rfl hdd_X1_init hR hW d0 d1 d2 kk
  have := c_X1_init (E := E) (ad := upA ad shl.length q) (l := l) (MK.new (ci := 1) (cs := c1i) cl (i01_ok rfl))
  rw [mkHp_eq (b := shl.length) (ci := 1) _ (shl ++ [(Sum.inl (1, c1i) : Shp)]) c1i] at this
  exact this
set_option maxRecDepth 100000 in
set_option maxHeartbeats 4000000 in
theorem r_beach (X : Cx E p s m args meth c cc own nL ret) (hA : E.1 ≤ s.heap.size) {index idx : Nat} {g1 g2 : Hp} (cl : Cl shl h) (e1 : g_X0_clear shl.length (HX 0 c0i s0i shl h) = some g1) (e2 : g_X0_weigh shl.length g1 = some g2) (hlink : Cond.classLink own index RX0 ∈ gw) (call : Cond.methodLink own idx yX0_init ∈ gw) (hce : cells + 1 + 5 ≤ Rm.cells) (hsl : slots + 9 + 159 ≤ Rm.slots) (hR : 4 + 1 ≤ Rm.frames ∧ 8 + (1 + 11) + 100 ≤ Rm.locals) (hW : (S.map fun v => v.category).sum ≤ 7)
    (d0 : decode cc pc = .ok (.new index, 3)) (d1 : decode cc (pc + 3) = .ok (.dup, 1)) (d2 : decode cc (pc + 3 + 1) = .ok (.invokespecial idx, 3))
    (kk : ∀ ad', (∀ p, p < shl.length → ad' p = ad p) → Ev E ad' (SX 0 c0i s0i shl) p l e Rm s m args below meth c (cells + 1 + 5) (slots + 9 + 159) Q nL g2 (pc + 3 + 1 + 3) L (.ref (ad' shl.length) :: S)) : Ev E ad shl p l e Rm s m args below meth c cells slots Q nL h pc L S := by
  refine r_obj (ci := 0) (cs := c0i) (N := 9) (rm := rm_X0_init) (SH := (SX 0 c0i s0i shl)) (HH := g2) (host := "") X hA cl rfl mU_X0 tyX0 tyX0_ok hlink mB_X0 mN_X0 rfl (by decide) (by decide) hce hsl (fun q => ?_) (Or.inr call) mI_X0_init rfl mK_X0_init rfl rfl rfl hdd_X0_init hR hW d0 d1 d2 kk
  have e1b : g_X0_clear shl.length (zS s0i (shl ++ [(Sum.inl (0, c0i) : Shp)]).length (nH h shl.length c0i)) = some g1 := by rw [mkHp_eq (b := shl.length) (ci := 0) _ (shl ++ [(Sum.inl (0, c0i) : Shp)]) c0i]; exact e1
  exact c_X0_init (E := E) (ad := upA ad shl.length q) (l := l) (MK.new (ci := 0) (cs := c0i) cl (i01_ok rfl)) (by simp) e1b e2
set_option maxRecDepth 100000 in
set_option maxHeartbeats 4000000 in
theorem r_sea (X : Cx E p s m args meth c cc own nL ret) (hA : E.1 ≤ s.heap.size) {index idx : Nat} {g1 : Hp} (cl : Cl shl h) (e1 : g_X2_clear shl.length (HX 2 c2i s2i shl h) = some g1) (hlink : Cond.classLink own index RX2 ∈ gw) (call : Cond.methodLink own idx yX2_init ∈ gw) (hce : cells + 1 + 4 ≤ Rm.cells) (hsl : slots + 7 + 45 ≤ Rm.slots) (hR : 4 + 1 ≤ Rm.frames ∧ 8 + (1 + 11) + 100 ≤ Rm.locals) (hW : (S.map fun v => v.category).sum ≤ 7)
    (d0 : decode cc pc = .ok (.new index, 3)) (d1 : decode cc (pc + 3) = .ok (.dup, 1)) (d2 : decode cc (pc + 3 + 1) = .ok (.invokespecial idx, 3))
    (kk : ∀ ad', (∀ p, p < shl.length → ad' p = ad p) → Ev E ad' (SX 2 c2i s2i shl) p l e Rm s m args below meth c (cells + 1 + 4) (slots + 7 + 45) Q nL g1 (pc + 3 + 1 + 3) L (.ref (ad' shl.length) :: S)) : Ev E ad shl p l e Rm s m args below meth c cells slots Q nL h pc L S := by
  refine r_obj (ci := 2) (cs := c2i) (N := 7) (rm := rm_X2_init) (SH := (SX 2 c2i s2i shl)) (HH := g1) (host := "") X hA cl rfl mU_X2 tyX2 tyX2_ok hlink mB_X2 mN_X2 rfl (by decide) (by decide) hce hsl (fun q => ?_) (Or.inr call) mI_X2_init rfl mK_X2_init rfl rfl rfl hdd_X2_init hR hW d0 d1 d2 kk
  have e1b : g_X2_clear shl.length (zS s2i (shl ++ [(Sum.inl (2, c2i) : Shp)]).length (nH h shl.length c2i)) = some g1 := by rw [mkHp_eq (b := shl.length) (ci := 2) _ (shl ++ [(Sum.inl (2, c2i) : Shp)]) c2i]; exact e1
  exact c_X2_init (E := E) (ad := upA ad shl.length q) (l := l) (MK.new (ci := 2) (cs := c2i) cl (i01_ok rfl)) (by simp) e1b
set_option maxRecDepth 100000 in
set_option maxHeartbeats 4000000 in
theorem r_trial (X : Cx E p s m args meth c cc own nL ret) (hA : E.1 ≤ s.heap.size) {index idx : Nat} {host : String} (cl : Cl shl h) (hlink : Cond.classLink own index RX6 ∈ gw) (call : (own, idx, yX6_init, host) ∈ nestL) (hce : cells + 1 + 12 ≤ Rm.cells) (hsl : slots + 7 + 388 ≤ Rm.slots) (hR : 3 + 1 ≤ Rm.frames ∧ 8 + (1 + 11) + 40 ≤ Rm.locals) (hW : (S.map fun v => v.category).sum ≤ 7)
    (d0 : decode cc pc = .ok (.new index, 3)) (d1 : decode cc (pc + 3) = .ok (.dup, 1)) (d2 : decode cc (pc + 3 + 1) = .ok (.invokespecial idx, 3))
    (kk : ∀ ad', (∀ p, p < shl.length → ad' p = ad p) → Ev E ad' (S6 shl) p l e Rm s m args below meth c (cells + 1 + 12) (slots + 7 + 388) Q nL (H6 shl h) (pc + 3 + 1 + 3) L (.ref (ad' shl.length) :: S)) : Ev E ad shl p l e Rm s m args below meth c cells slots Q nL h pc L S := by
  refine r_obj (ci := 6) (cs := c6i) (N := 7) (rm := rm_X6_init) (SH := (S6 shl)) (HH := (H6 shl h)) X hA cl rfl mU_X6 tyX6 tyX6_ok hlink mB_X6 mN_X6 rfl (by decide) (by decide) hce hsl (fun q => ?_) (Or.inl call) mI_X6_init rfl mK_X6_init rfl rfl rfl hdd_X6_init hR hW d0 d1 d2 kk
  exact c_X6_init (E := E) (ad := upA ad shl.length q) (l := l) (MK.new (ci := 6) (cs := c6i) cl (i01_ok rfl))
end OBJS
