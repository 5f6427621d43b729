section WALKS
variable {E : EnvT} {ad : Nat → Nat} {shl : List Shp} {p : Program} {l : Launch} {e : Env} {s : State} {m : MethodId} {args : Array Value} {below : List Frame} {meth : Method} {c : Code} {Q : State → Prop} {h : Hp}
abbrev rm_X9_strength : Room := { frames := 1, cells := 0, slots := 0, locals := 21 }
theorem hdd_X9_strength : yX9_strength.cls = RX9 ∧ yX9_strength.cls ≠ "java/lang/invoke/MethodHandle" ∧ yX9_strength.cls ≠ "java/lang/invoke/VarHandle" ∧ (parseMethodDescriptor yX9_strength.desc).map (fun d => d.parameters.length) = some 1 := ⟨rfl, by decide +kernel, by decide +kernel, by decide +kernel⟩
set_option maxRecDepth 100000 in
set_option maxHeartbeats 4000000 in
theorem w_X9_strength {x1 : Int32} {r : Int} (Hb0 : At_X9 shl) (X : Cx E p s m args meth c cX9_strength RX9 2 (some .int)) (hQ : Q = MQ below (QcI E ad shl r h) args s 0 0 (bsA E)) (hG : g_X9_strength x1.toInt h = some r) : Ev E ad shl p l e rm_X9_strength s m args below meth c 0 0 Q 2 h 0 [some (.ref (ad 100)), some (.int x1)] [] := by
  unfold g_X9_strength at hG
  refine r_iload_n (pc := 0) X dX9_strength_0 rfl rfl ?_
  refine r_join hG (fun a1 => ∀ (y3 : Int32), a1 = y3.toInt → Ev E ad shl p l e rm_X9_strength s m args below meth c 0 0 Q 2 h 46 [none, none] [.int y3]) (fun a1 hG => ?_) (fun j2 Hj2 hG => ?_)
  · skip
    intro y3 ha; have ha := ha.symm; subst ha
    exact r_iretP (pc := 46) X dX9_strength_46 hQ hG
  refine r_join hG (fun _ => Ev E ad shl p l e rm_X9_strength s m args below meth c 0 0 Q 2 h 10 [none, none] []) (fun a4 hG => ?_) (fun j5 Hj5 hG => ?_)
  · skip
    refine r_iconst (pc := 10) X dX9_strength_10 hG rfl (fun z6 hG => ?_)
    refine r_goto (pc := 11) X dX9_strength_11 (tgt := 46) (by decide) ?_
    exact r_mask [false, false] rfl (Hj2 _ hG z6 rfl)
  refine r_if_eq (pc := 1) X dX9_strength_1 (tgt := 10) (by decide) hG (fun hG => ?_) (fun hG => ?_)
  · skip
    exact r_mask [false, false] rfl (Hj5 _ hG)
  · skip
    refine r_iload_n (pc := 4) X dX9_strength_4 rfl rfl ?_
    refine r_bipush (pc := 5) X dX9_strength_5 hG (by decide) (fun z7 hG => ?_)
    refine r_icmp_ne (pc := 7) X dX9_strength_7 (tgt := 14) (by decide) hG (fun hG => ?_) (fun hG => ?_)
    · skip
      refine r_iconst (pc := 14) X dX9_strength_14 hG rfl (fun z8 hG => ?_)
      refine r_aload_n (pc := 15) X dX9_strength_15 rfl rfl ?_
      refine r_getC (pc := 16) X (at_X9_o Hb0) rfl mU_X9 (k := 19) (by decide) (q := 102) rfl mF_X9_245 dX9_strength_16 ?_
      refine r_bipush (pc := 19) X dX9_strength_19 hG (by decide) (fun z9 hG => ?_)
      refine r_iald (pc := 21) X (at_X9_law Hb0) dX9_strength_21 hG (fun z10 hG => ?_)
      refine r_aload_n (pc := 22) X dX9_strength_22 rfl rfl ?_
      refine r_getC (pc := 23) X (at_X9_o Hb0) rfl mU_X9 (k := 19) (by decide) (q := 102) rfl mF_X9_245 dX9_strength_23 ?_
      refine r_bipush (pc := 26) X dX9_strength_26 hG (by decide) (fun z11 hG => ?_)
      refine r_iald (pc := 28) X (at_X9_law Hb0) dX9_strength_28 hG (fun z12 hG => ?_)
      refine r_iload_n (pc := 29) X dX9_strength_29 rfl rfl ?_
      refine r_aload_n (pc := 30) X dX9_strength_30 rfl rfl ?_
      refine r_getC (pc := 31) X (at_X9_o Hb0) rfl mU_X9 (k := 19) (by decide) (q := 102) rfl mF_X9_245 dX9_strength_31 ?_
      refine r_bipush (pc := 34) X dX9_strength_34 hG (by decide) (fun z13 hG => ?_)
      refine r_iald (pc := 36) X (at_X9_law Hb0) dX9_strength_36 hG (fun z14 hG => ?_)
      refine r_isub (pc := 37) X dX9_strength_37 hG (fun z15 hG => ?_)
      refine r_mabs (pc := 38) X dX9_strength_38 mM_X9_354 (Nat.le_of_ble_eq_true rfl) (Nat.le_of_ble_eq_true rfl) (Nat.le_of_ble_eq_true rfl) (Nat.le_of_ble_eq_true rfl) hG (fun z16 hG => ?_)
      refine r_imul (pc := 41) X dX9_strength_41 hG (fun z17 hG => ?_)
      refine r_isub (pc := 42) X dX9_strength_42 hG (fun z18 hG => ?_)
      refine r_mmax (pc := 43) X dX9_strength_43 mM_X9_359 (Nat.le_of_ble_eq_true rfl) (Nat.le_of_ble_eq_true rfl) (Nat.le_of_ble_eq_true rfl) (Nat.le_of_ble_eq_true rfl) hG (fun z19 hG => ?_)
      exact r_mask [false, false] rfl (Hj2 _ hG z19 rfl)
    · skip
      exact r_mask [false, false] rfl (Hj5 _ hG)
theorem c_X9_strength {x1 : Int32} {r : Int} (Hb0 : At_X9 shl) (hg : g_X9_strength x1.toInt h = some r) : Met l yX9_strength (wsM yX9_strength cX9_strength 2 (some .int)) rm_X9_strength (va_Pc [.ref (ad 100), .int x1] (World E ad shl h)) (QcI E ad shl r h) 0 0 (bsA E) :=
  met_of (L0 := [some (.ref (ad 100)), some (.int x1)]) rfl rfl rfl (Nat.le_of_ble_eq_true rfl) (fun _ _ _ _ _ _ _ X => w_X9_strength Hb0 X rfl hg)
abbrev rm_X9_holdsOf : Room := { frames := 2, cells := 0, slots := 0, locals := 42 }
theorem hdd_X9_holdsOf : yX9_holdsOf.cls = RX9 ∧ yX9_holdsOf.cls ≠ "java/lang/invoke/MethodHandle" ∧ yX9_holdsOf.cls ≠ "java/lang/invoke/VarHandle" ∧ (parseMethodDescriptor yX9_holdsOf.desc).map (fun d => d.parameters.length) = some 2 := ⟨rfl, by decide +kernel, by decide +kernel, by decide +kernel⟩
set_option maxRecDepth 100000 in
set_option maxHeartbeats 4000000 in
theorem w_X9_holdsOf {x1 : Int32} {x2 : Int32} {r : Int} (Hb0 : At_X9 shl) (X : Cx E p s m args meth c cX9_holdsOf RX9 3 (some .int)) (hQ : Q = MQ below (QcI E ad shl r h) args s 0 0 (bsA E)) (hG : g_X9_holdsOf x1.toInt x2.toInt h = some r) : Ev E ad shl p l e rm_X9_holdsOf s m args below meth c 0 0 Q 3 h 0 [some (.ref (ad 100)), some (.int x1), some (.int x2)] [] := by
  unfold g_X9_holdsOf at hG
  refine r_iconst (pc := 0) X dX9_holdsOf_0 hG rfl (fun z1 hG => ?_)
  refine r_aload_n (pc := 1) X dX9_holdsOf_1 rfl rfl ?_
  refine r_iload_n (pc := 2) X dX9_holdsOf_2 rfl rfl ?_
  refine r_cP (pc := 3) hG (fun _ hg => runV X dX9_holdsOf_3 (c_X9_strength Hb0 hg) mM_X9_363 mI_X9_strength mE_X9_strength mN_X9 mK_X9_strength (at_X9_o Hb0) rfl rfl rfl rfl hdd_X9_strength ⟨(Nat.le_of_ble_eq_true rfl), (Nat.le_of_ble_eq_true rfl)⟩ rfl rfl (Nat.le_of_ble_eq_true rfl) ⟨(Nat.le_of_ble_eq_true rfl), (Nat.le_of_ble_eq_true rfl)⟩) (fun z2 hG => ?_)
  refine r_iadd (pc := 6) X dX9_holdsOf_6 hG (fun z3 hG => ?_)
  refine r_aload_n (pc := 7) X dX9_holdsOf_7 rfl rfl ?_
  refine r_getC (pc := 8) X (at_X9_o Hb0) rfl mU_X9 (k := 19) (by decide) (q := 102) rfl mF_X9_245 dX9_holdsOf_8 ?_
  refine r_iconst (pc := 11) X dX9_holdsOf_11 hG rfl (fun z4 hG => ?_)
  refine r_iald (pc := 12) X (at_X9_law Hb0) dX9_holdsOf_12 hG (fun z5 hG => ?_)
  refine r_iload_n (pc := 13) X dX9_holdsOf_13 rfl rfl ?_
  refine r_imul (pc := 14) X dX9_holdsOf_14 hG (fun z6 hG => ?_)
  refine r_iadd (pc := 15) X dX9_holdsOf_15 hG (fun z7 hG => ?_)
  exact r_iretP (pc := 16) X dX9_holdsOf_16 hQ hG
theorem c_X9_holdsOf {x1 : Int32} {x2 : Int32} {r : Int} (Hb0 : At_X9 shl) (hg : g_X9_holdsOf x1.toInt x2.toInt h = some r) : Met l yX9_holdsOf (wsM yX9_holdsOf cX9_holdsOf 3 (some .int)) rm_X9_holdsOf (va_Pc [.ref (ad 100), .int x1, .int x2] (World E ad shl h)) (QcI E ad shl r h) 0 0 (bsA E) :=
  met_of (L0 := [some (.ref (ad 100)), some (.int x1), some (.int x2)]) rfl rfl rfl (Nat.le_of_ble_eq_true rfl) (fun _ _ _ _ _ _ _ X => w_X9_holdsOf Hb0 X rfl hg)
abbrev rm_X9_unitGoes : Room := { frames := 0, cells := 0, slots := 0, locals := 0 }
theorem hdd_X9_unitGoes : yX9_unitGoes.cls = RX9 ∧ yX9_unitGoes.cls ≠ "java/lang/invoke/MethodHandle" ∧ yX9_unitGoes.cls ≠ "java/lang/invoke/VarHandle" ∧ (parseMethodDescriptor yX9_unitGoes.desc).map (fun d => d.parameters.length) = some 3 := ⟨rfl, by decide +kernel, by decide +kernel, by decide +kernel⟩
set_option maxRecDepth 100000 in
set_option maxHeartbeats 4000000 in
theorem w_X9_unitGoes {b1 : Nat} {x2 : Int32} {x3 : Int32} {r : Hp} (Hb0 : At_X9 shl) (Hb1 : shl[b1]? = some (.inr (0, 289, []))) (X : Cx E p s m args meth c cX9_unitGoes RX9 4 none) (hQ : Q = MQ below (QcV E ad shl r) args s 0 0 (bsA E)) (hG : g_X9_unitGoes b1 x2.toInt x3.toInt h = some r) : Ev E ad shl p l e rm_X9_unitGoes s m args below meth c 0 0 Q 4 h 0 [some (.ref (ad 100)), some (.ref (ad b1)), some (.int x2), some (.int x3)] [] := by
  unfold g_X9_unitGoes at hG
  refine r_aload_n (pc := 0) X dX9_unitGoes_0 rfl rfl ?_
  refine r_bipush (pc := 1) X dX9_unitGoes_1 hG (by decide) (fun z1 hG => ?_)
  refine r_iload_n (pc := 3) X dX9_unitGoes_3 rfl rfl ?_
  refine r_iadd (pc := 4) X dX9_unitGoes_4 hG (fun z2 hG => ?_)
  refine r_aload_n (pc := 5) X dX9_unitGoes_5 rfl rfl ?_
  refine r_bipush (pc := 6) X dX9_unitGoes_6 hG (by decide) (fun z3 hG => ?_)
  refine r_iload_n (pc := 8) X dX9_unitGoes_8 rfl rfl ?_
  refine r_iadd (pc := 9) X dX9_unitGoes_9 hG (fun z4 hG => ?_)
  refine r_iald (pc := 10) X Hb1 dX9_unitGoes_10 hG (fun z5 hG => ?_)
  refine r_aload_n (pc := 11) X dX9_unitGoes_11 rfl rfl ?_
  refine r_iconst (pc := 12) X dX9_unitGoes_12 hG rfl (fun z6 hG => ?_)
  refine r_iload_n (pc := 13) X dX9_unitGoes_13 rfl rfl ?_
  refine r_iadd (pc := 14) X dX9_unitGoes_14 hG (fun z7 hG => ?_)
  refine r_iald (pc := 15) X Hb1 dX9_unitGoes_15 hG (fun z8 hG => ?_)
  refine r_imul (pc := 16) X dX9_unitGoes_16 hG (fun z9 hG => ?_)
  refine r_aload_n (pc := 17) X dX9_unitGoes_17 rfl rfl ?_
  refine r_bipush (pc := 18) X dX9_unitGoes_18 hG (by decide) (fun z10 hG => ?_)
  refine r_iload_n (pc := 20) X dX9_unitGoes_20 rfl rfl ?_
  refine r_iadd (pc := 21) X dX9_unitGoes_21 hG (fun z11 hG => ?_)
  refine r_iald (pc := 22) X Hb1 dX9_unitGoes_22 hG (fun z12 hG => ?_)
  refine r_iadd (pc := 23) X dX9_unitGoes_23 hG (fun z13 hG => ?_)
  refine r_aload_n (pc := 24) X dX9_unitGoes_24 rfl rfl ?_
  refine r_iconst (pc := 25) X dX9_unitGoes_25 hG rfl (fun z14 hG => ?_)
  refine r_iload_n (pc := 26) X dX9_unitGoes_26 rfl rfl ?_
  refine r_iadd (pc := 27) X dX9_unitGoes_27 hG (fun z15 hG => ?_)
  refine r_iald (pc := 28) X Hb1 dX9_unitGoes_28 hG (fun z16 hG => ?_)
  refine r_iconst (pc := 29) X dX9_unitGoes_29 hG rfl (fun z17 hG => ?_)
  refine r_iadd (pc := 30) X dX9_unitGoes_30 hG (fun z18 hG => ?_)
  refine r_idiv (pc := 31) X dX9_unitGoes_31 hG (fun z19 hG => ?_)
  refine r_iast (pc := 32) X Hb1 dX9_unitGoes_32 hG (fun h20 hG => ?_)
  refine r_aload_n (pc := 33) X dX9_unitGoes_33 rfl rfl ?_
  refine r_sipush (pc := 34) X dX9_unitGoes_34 hG (by decide) (fun z21 hG => ?_)
  refine r_iload_n (pc := 37) X dX9_unitGoes_37 rfl rfl ?_
  refine r_iadd (pc := 38) X dX9_unitGoes_38 hG (fun z22 hG => ?_)
  refine r_iconst (pc := 39) X dX9_unitGoes_39 hG rfl (fun z23 hG => ?_)
  refine r_iast (pc := 40) X Hb1 dX9_unitGoes_40 hG (fun h24 hG => ?_)
  refine r_aload_n (pc := 41) X dX9_unitGoes_41 rfl rfl ?_
  refine r_iconst (pc := 42) X dX9_unitGoes_42 hG rfl (fun z25 hG => ?_)
  refine r_iload_n (pc := 43) X dX9_unitGoes_43 rfl rfl ?_
  refine r_iadd (pc := 44) X dX9_unitGoes_44 hG (fun z26 hG => ?_)
  refine r_dup2 (pc := 45) X dX9_unitGoes_45 rfl rfl ?_
  refine r_iald (pc := 46) X Hb1 dX9_unitGoes_46 hG (fun z27 hG => ?_)
  refine r_iconst (pc := 47) X dX9_unitGoes_47 hG rfl (fun z28 hG => ?_)
  refine r_isub (pc := 48) X dX9_unitGoes_48 hG (fun z29 hG => ?_)
  refine r_iast (pc := 49) X Hb1 dX9_unitGoes_49 hG (fun h30 hG => ?_)
  refine r_aload_n (pc := 50) X dX9_unitGoes_50 rfl rfl ?_
  refine r_iconst (pc := 51) X dX9_unitGoes_51 hG rfl (fun z31 hG => ?_)
  refine r_iload_n (pc := 52) X dX9_unitGoes_52 rfl rfl ?_
  refine r_iadd (pc := 53) X dX9_unitGoes_53 hG (fun z32 hG => ?_)
  refine r_dup2 (pc := 54) X dX9_unitGoes_54 rfl rfl ?_
  refine r_iald (pc := 55) X Hb1 dX9_unitGoes_55 hG (fun z33 hG => ?_)
  refine r_iconst (pc := 56) X dX9_unitGoes_56 hG rfl (fun z34 hG => ?_)
  refine r_iadd (pc := 57) X dX9_unitGoes_57 hG (fun z35 hG => ?_)
  refine r_iast (pc := 58) X Hb1 dX9_unitGoes_58 hG (fun h36 hG => ?_)
  exact r_vret (pc := 59) X dX9_unitGoes_59 hQ hG
theorem c_X9_unitGoes {b1 : Nat} {x2 : Int32} {x3 : Int32} {r : Hp} (Hb0 : At_X9 shl) (Hb1 : shl[b1]? = some (.inr (0, 289, []))) (hg : g_X9_unitGoes b1 x2.toInt x3.toInt h = some r) : Met l yX9_unitGoes (wsM yX9_unitGoes cX9_unitGoes 4 none) rm_X9_unitGoes (va_Pc [.ref (ad 100), .ref (ad b1), .int x2, .int x3] (World E ad shl h)) (QcV E ad shl r) 0 0 (bsA E) :=
  met_of (L0 := [some (.ref (ad 100)), some (.ref (ad b1)), some (.int x2), some (.int x3)]) rfl rfl rfl (Nat.le_of_ble_eq_true rfl) (fun _ _ _ _ _ _ _ X => w_X9_unitGoes Hb0 Hb1 X rfl hg)
abbrev rm_X9_does : Room := { frames := 1, cells := 0, slots := 0, locals := 23 }
theorem hdd_X9_does : yX9_does.cls = RX9 ∧ yX9_does.cls ≠ "java/lang/invoke/MethodHandle" ∧ yX9_does.cls ≠ "java/lang/invoke/VarHandle" ∧ (parseMethodDescriptor yX9_does.desc).map (fun d => d.parameters.length) = some 4 := ⟨rfl, by decide +kernel, by decide +kernel, by decide +kernel⟩
set_option maxRecDepth 100000 in
set_option maxHeartbeats 4000000 in
theorem w_X9_does {b1 : Nat} {x2 : Int32} {x3 : Int32} {x4 : Int32} {r : Hp} (Hb0 : At_X9 shl) (Hb1 : shl[b1]? = some (.inr (0, 289, []))) (X : Cx E p s m args meth c cX9_does RX9 5 none) (hQ : Q = MQ below (QcV E ad shl r) args s 0 0 (bsA E)) (hG : g_X9_does b1 x2.toInt x3.toInt x4.toInt h = some r) : Ev E ad shl p l e rm_X9_does s m args below meth c 0 0 Q 5 h 0 [some (.ref (ad 100)), some (.ref (ad b1)), some (.int x2), some (.int x3), some (.int x4)] [] := by
  unfold g_X9_does at hG
  refine r_iload_n (pc := 0) X dX9_does_0 rfl rfl ?_
  refine r_join hG (fun a1 => ∀ (h3 : Hp), a1 = h3 → Ev E ad shl p l e rm_X9_does s m args below meth c 0 0 Q 5 h3 139 [none, none, none, none, none] []) (fun a1 hG => ?_) (fun j2 Hj2 hG => ?_)
  · skip
    intro h3 ha; have ha := ha.symm; subst ha
    exact r_vret (pc := 139) X dX9_does_139 hQ hG
  refine r_ite hG (fun e4 hG => ?_) (fun e4 hG => ?_)
  · refine r_tsIn (pc := 1) X dX9_does_1 e4 (by decide) (by decide) rfl (tgt := 32) (by decide) ?_
    refine r_aload_n (pc := 32) X dX9_does_32 rfl rfl ?_
    refine r_iconst (pc := 33) X dX9_does_33 hG rfl (fun z5 hG => ?_)
    refine r_iload_n (pc := 34) X dX9_does_34 rfl rfl ?_
    refine r_iadd (pc := 35) X dX9_does_35 hG (fun z6 hG => ?_)
    refine r_iald (pc := 36) X Hb1 dX9_does_36 hG (fun z7 hG => ?_)
    refine r_join hG (fun _ => Ev E ad shl p l e rm_X9_does s m args below meth c 0 0 Q 5 h 63 [none, none, none, none, none] []) (fun a8 hG => ?_) (fun j9 Hj9 hG => ?_)
    · skip
      exact r_vret (pc := 63) X dX9_does_63 hQ hG
    refine r_if_eq (pc := 37) X dX9_does_37 (tgt := 63) (by decide) hG (fun hG => ?_) (fun hG => ?_)
    · skip
      exact r_mask [false, false, false, false, false] rfl (Hj9 _ hG)
    · skip
      refine r_aload_n (pc := 40) X dX9_does_40 rfl rfl ?_
      refine r_sipush (pc := 41) X dX9_does_41 hG (by decide) (fun z10 hG => ?_)
      refine r_iload_n (pc := 44) X dX9_does_44 rfl rfl ?_
      refine r_iadd (pc := 45) X dX9_does_45 hG (fun z11 hG => ?_)
      refine r_iald (pc := 46) X Hb1 dX9_does_46 hG (fun z12 hG => ?_)
      refine r_iconst (pc := 47) X dX9_does_47 hG rfl (fun z13 hG => ?_)
      refine r_icmp_eq (pc := 48) X dX9_does_48 (tgt := 63) (by decide) hG (fun hG => ?_) (fun hG => ?_)
      · skip
        exact r_mask [false, false, false, false, false] rfl (Hj9 _ hG)
      · skip
        refine r_aload_n (pc := 51) X dX9_does_51 rfl rfl ?_
        refine r_sipush (pc := 52) X dX9_does_52 hG (by decide) (fun z14 hG => ?_)
        refine r_iload (pc := 55) X dX9_does_55 rfl ?_
        refine r_iadd (pc := 57) X dX9_does_57 hG (fun z15 hG => ?_)
        refine r_iald (pc := 58) X Hb1 dX9_does_58 hG (fun z16 hG => ?_)
        refine r_iconst (pc := 59) X dX9_does_59 hG rfl (fun z17 hG => ?_)
        refine r_icmp_ne (pc := 60) X dX9_does_60 (tgt := 64) (by decide) hG (fun hG => ?_) (fun hG => ?_)
        · skip
          refine r_aload_n (pc := 64) X dX9_does_64 rfl rfl ?_
          refine r_aload_n (pc := 65) X dX9_does_65 rfl rfl ?_
          refine r_iload_n (pc := 66) X dX9_does_66 rfl rfl ?_
          refine r_iload (pc := 67) X dX9_does_67 rfl ?_
          refine r_cV (pc := 69) hG (fun _ hg => runV X dX9_does_69 (c_X9_unitGoes Hb0 Hb1 hg) mM_X9_366 mI_X9_unitGoes mE_X9_unitGoes mN_X9 mK_X9_unitGoes (at_X9_o Hb0) rfl rfl rfl rfl hdd_X9_unitGoes ⟨(Nat.le_of_ble_eq_true rfl), (Nat.le_of_ble_eq_true rfl)⟩ rfl rfl (Nat.le_of_ble_eq_true rfl) ⟨(Nat.le_of_ble_eq_true rfl), (Nat.le_of_ble_eq_true rfl)⟩) (fun h18 hG => ?_)
          refine r_aload_n (pc := 72) X dX9_does_72 rfl rfl ?_
          refine r_sipush (pc := 73) X dX9_does_73 hG (by decide) (fun z19 hG => ?_)
          refine r_iload_n (pc := 76) X dX9_does_76 rfl rfl ?_
          refine r_iadd (pc := 77) X dX9_does_77 hG (fun z20 hG => ?_)
          refine r_iconst (pc := 78) X dX9_does_78 hG rfl (fun z21 hG => ?_)
          refine r_iast (pc := 79) X Hb1 dX9_does_79 hG (fun h22 hG => ?_)
          refine r_goto (pc := 80) X dX9_does_80 (tgt := 139) (by decide) ?_
          exact r_mask [false, false, false, false, false] rfl (Hj2 _ hG h22 rfl)
        · skip
          exact r_mask [false, false, false, false, false] rfl (Hj9 _ hG)
  refine r_ite hG (fun e23 hG => ?_) (fun e23 hG => ?_)
  · refine r_tsIn (pc := 1) X dX9_does_1 e23 (by decide) (by decide) rfl (tgt := 83) (by decide) ?_
    refine r_aload_n (pc := 83) X dX9_does_83 rfl rfl ?_
    refine r_sipush (pc := 84) X dX9_does_84 hG (by decide) (fun z24 hG => ?_)
    refine r_iload_n (pc := 87) X dX9_does_87 rfl rfl ?_
    refine r_iadd (pc := 88) X dX9_does_88 hG (fun z25 hG => ?_)
    refine r_iconst (pc := 89) X dX9_does_89 hG rfl (fun z26 hG => ?_)
    refine r_aload_n (pc := 90) X dX9_does_90 rfl rfl ?_
    refine r_sipush (pc := 91) X dX9_does_91 hG (by decide) (fun z27 hG => ?_)
    refine r_iload_n (pc := 94) X dX9_does_94 rfl rfl ?_
    refine r_iadd (pc := 95) X dX9_does_95 hG (fun z28 hG => ?_)
    refine r_iald (pc := 96) X Hb1 dX9_does_96 hG (fun z29 hG => ?_)
    refine r_iconst (pc := 97) X dX9_does_97 hG rfl (fun z30 hG => ?_)
    refine r_iadd (pc := 98) X dX9_does_98 hG (fun z31 hG => ?_)
    refine r_mmin (pc := 99) X dX9_does_99 mM_X9_370 (Nat.le_of_ble_eq_true rfl) (Nat.le_of_ble_eq_true rfl) (Nat.le_of_ble_eq_true rfl) (Nat.le_of_ble_eq_true rfl) hG (fun z32 hG => ?_)
    refine r_iast (pc := 102) X Hb1 dX9_does_102 hG (fun h33 hG => ?_)
    refine r_goto (pc := 103) X dX9_does_103 (tgt := 139) (by decide) ?_
    exact r_mask [false, false, false, false, false] rfl (Hj2 _ hG h33 rfl)
  refine r_ite hG (fun e34 hG => ?_) (fun e34 hG => ?_)
  · refine r_tsIn (pc := 1) X dX9_does_1 e34 (by decide) (by decide) rfl (tgt := 106) (by decide) ?_
    refine r_aload_n (pc := 106) X dX9_does_106 rfl rfl ?_
    refine r_bipush (pc := 107) X dX9_does_107 hG (by decide) (fun z35 hG => ?_)
    refine r_iload_n (pc := 109) X dX9_does_109 rfl rfl ?_
    refine r_iadd (pc := 110) X dX9_does_110 hG (fun z36 hG => ?_)
    refine r_bipush (pc := 111) X dX9_does_111 hG (by decide) (fun z37 hG => ?_)
    refine r_aload_n (pc := 113) X dX9_does_113 rfl rfl ?_
    refine r_bipush (pc := 114) X dX9_does_114 hG (by decide) (fun z38 hG => ?_)
    refine r_iload_n (pc := 116) X dX9_does_116 rfl rfl ?_
    refine r_iadd (pc := 117) X dX9_does_117 hG (fun z39 hG => ?_)
    refine r_iald (pc := 118) X Hb1 dX9_does_118 hG (fun z40 hG => ?_)
    refine r_iconst (pc := 119) X dX9_does_119 hG rfl (fun z41 hG => ?_)
    refine r_iadd (pc := 120) X dX9_does_120 hG (fun z42 hG => ?_)
    refine r_mmin (pc := 121) X dX9_does_121 mM_X9_370 (Nat.le_of_ble_eq_true rfl) (Nat.le_of_ble_eq_true rfl) (Nat.le_of_ble_eq_true rfl) (Nat.le_of_ble_eq_true rfl) hG (fun z43 hG => ?_)
    refine r_iast (pc := 124) X Hb1 dX9_does_124 hG (fun h44 hG => ?_)
    refine r_goto (pc := 125) X dX9_does_125 (tgt := 139) (by decide) ?_
    exact r_mask [false, false, false, false, false] rfl (Hj2 _ hG h44 rfl)
  refine r_ite hG (fun e45 hG => ?_) (fun e45 hG => ?_)
  · refine r_tsIn (pc := 1) X dX9_does_1 e45 (by decide) (by decide) rfl (tgt := 128) (by decide) ?_
    refine r_aload_n (pc := 128) X dX9_does_128 rfl rfl ?_
    refine r_sipush (pc := 129) X dX9_does_129 hG (by decide) (fun z46 hG => ?_)
    refine r_iload_n (pc := 132) X dX9_does_132 rfl rfl ?_
    refine r_iadd (pc := 133) X dX9_does_133 hG (fun z47 hG => ?_)
    refine r_iconst (pc := 134) X dX9_does_134 hG rfl (fun z48 hG => ?_)
    refine r_iast (pc := 135) X Hb1 dX9_does_135 hG (fun h49 hG => ?_)
    refine r_goto (pc := 136) X dX9_does_136 (tgt := 139) (by decide) ?_
    exact r_mask [false, false, false, false, false] rfl (Hj2 _ hG h49 rfl)
  refine r_tsOut (pc := 1) X dX9_does_1 (by omega) (tgt := 139) (by decide) ?_
  exact r_mask [false, false, false, false, false] rfl (Hj2 _ hG h rfl)
theorem c_X9_does {b1 : Nat} {x2 : Int32} {x3 : Int32} {x4 : Int32} {r : Hp} (Hb0 : At_X9 shl) (Hb1 : shl[b1]? = some (.inr (0, 289, []))) (hg : g_X9_does b1 x2.toInt x3.toInt x4.toInt h = some r) : Met l yX9_does (wsM yX9_does cX9_does 5 none) rm_X9_does (va_Pc [.ref (ad 100), .ref (ad b1), .int x2, .int x3, .int x4] (World E ad shl h)) (QcV E ad shl r) 0 0 (bsA E) :=
  met_of (L0 := [some (.ref (ad 100)), some (.ref (ad b1)), some (.int x2), some (.int x3), some (.int x4)]) rfl rfl rfl (Nat.le_of_ble_eq_true rfl) (fun _ _ _ _ _ _ _ X => w_X9_does Hb0 Hb1 X rfl hg)
abbrev rm_X9_handsDo : Room := { frames := 2, cells := 0, slots := 0, locals := 47 }
theorem hdd_X9_handsDo : yX9_handsDo.cls = RX9 ∧ yX9_handsDo.cls ≠ "java/lang/invoke/MethodHandle" ∧ yX9_handsDo.cls ≠ "java/lang/invoke/VarHandle" ∧ (parseMethodDescriptor yX9_handsDo.desc).map (fun d => d.parameters.length) = some 1 := ⟨rfl, by decide +kernel, by decide +kernel, by decide +kernel⟩
set_option maxRecDepth 100000 in
set_option maxHeartbeats 4000000 in
theorem w_X9_handsDo {b1 : Nat} {r : Hp} (Hb0 : At_X9 shl) (Hb1 : shl[b1]? = some (.inr (0, 289, []))) (X : Cx E p s m args meth c cX9_handsDo RX9 6 none) (hQ : Q = MQ below (QcV E ad shl r) args s 0 0 (bsA E)) (hG : g_X9_handsDo b1 h = some r) : Ev E ad shl p l e rm_X9_handsDo s m args below meth c 0 0 Q 6 h 0 [some (.ref (ad 100)), some (.ref (ad b1)), none, none, none, none] [] := by
  unfold g_X9_handsDo at hG
  refine r_aload_n (pc := 0) X dX9_handsDo_0 rfl rfl ?_
  refine r_sipush (pc := 1) X dX9_handsDo_1 hG (by decide) (fun z1 hG => ?_)
  refine r_iald (pc := 4) X Hb1 dX9_handsDo_4 hG (fun z2 hG => ?_)
  refine r_istore_n (pc := 5) (L' := [some (.ref (ad 100)), some (.ref (ad b1)), some (.int z2), none, none, none]) X dX9_handsDo_5 rfl (by decide) rfl rfl ?_
  refine r_iconst (pc := 6) X dX9_handsDo_6 hG rfl (fun z3 hG => ?_)
  refine r_istore_n (pc := 7) (L' := [some (.ref (ad 100)), some (.ref (ad b1)), some (.int z2), some (.int z3), none, none]) X dX9_handsDo_7 rfl (by decide) rfl rfl ?_
  refine r_join hG (fun a4 => ∀ (h6 : Hp), a4 = h6 → Ev E ad shl p l e rm_X9_handsDo s m args below meth c 0 0 Q 6 h6 184 [none, none, none, none, none, none] []) (fun a4 hG => ?_) (fun j5 Hj5 hG => ?_)
  · skip
    intro h6 ha; have ha := ha.symm; subst ha
    exact r_vret (pc := 184) X dX9_handsDo_184 hQ hG
  refine r_mask [true, true, true, true, false, false] rfl (r_loop (fun q7 => ∀ (y9 : Int32) (h10 : Hp), q7 = (y9.toInt, h10) → Ev E ad shl p l e rm_X9_handsDo s m args below meth c 0 0 Q 6 h10 8 [some (.ref (ad 100)), some (.ref (ad b1)), some (.int z2), some (.int y9), none, none] []) (fun l8 Hl8 q7 hG => ?_) FU _ hG z3 h rfl)
  intro y9 h10 ha; have ha := ha.symm; subst ha
  unfold g_X9_handsDo_l8 at hG
  refine r_iload_n (pc := 8) X dX9_handsDo_8 rfl rfl ?_
  refine r_iconst (pc := 9) X dX9_handsDo_9 hG rfl (fun z11 hG => ?_)
  refine r_icmp_eq (pc := 10) X dX9_handsDo_10 (tgt := 184) (by decide) hG (fun hG => ?_) (fun hG => ?_)
  · skip
    exact r_mask [false, false, false, false, false, false] rfl (Hj5 _ hG h10 rfl)
  · skip
    refine r_iload_n (pc := 13) X dX9_handsDo_13 rfl rfl ?_
    refine r_aload_n (pc := 14) X dX9_handsDo_14 rfl rfl ?_
    refine r_getC (pc := 15) X (at_X9_o Hb0) rfl mU_X9 (k := 43) (by decide) (q := 118) rfl mF_X9_266 dX9_handsDo_15 ?_
    refine r_iload_n (pc := 18) X dX9_handsDo_18 rfl rfl ?_
    refine r_iald (pc := 19) X (at_X9_hands Hb0) dX9_handsDo_19 hG (fun z12 hG => ?_)
    refine r_icmp_ge (pc := 20) X dX9_handsDo_20 (tgt := 184) (by decide) hG (fun hG => ?_) (fun hG => ?_)
    · skip
      exact r_mask [false, false, false, false, false, false] rfl (Hj5 _ hG h10 rfl)
    · skip
      refine r_iconst (pc := 23) X dX9_handsDo_23 hG rfl (fun z13 hG => ?_)
      refine r_iload_n (pc := 24) X dX9_handsDo_24 rfl rfl ?_
      refine r_imul (pc := 25) X dX9_handsDo_25 hG (fun z14 hG => ?_)
      refine r_iload_n (pc := 26) X dX9_handsDo_26 rfl rfl ?_
      refine r_iadd (pc := 27) X dX9_handsDo_27 hG (fun z15 hG => ?_)
      refine r_istore (pc := 28) (L' := [some (.ref (ad 100)), some (.ref (ad b1)), some (.int z2), some (.int y9), some (.int z15), none]) X dX9_handsDo_28 (by decide) rfl rfl ?_
      refine r_aload_n (pc := 30) X dX9_handsDo_30 rfl rfl ?_
      refine r_sipush (pc := 31) X dX9_handsDo_31 hG (by decide) (fun z16 hG => ?_)
      refine r_iload_n (pc := 34) X dX9_handsDo_34 rfl rfl ?_
      refine r_iadd (pc := 35) X dX9_handsDo_35 hG (fun z17 hG => ?_)
      refine r_iald (pc := 36) X Hb1 dX9_handsDo_36 hG (fun z18 hG => ?_)
      refine r_iconst (pc := 37) X dX9_handsDo_37 hG rfl (fun z19 hG => ?_)
      refine r_join hG (fun a20 => ∀ (h22 : Hp), a20 = h22 → Ev E ad shl p l e rm_X9_handsDo s m args below meth c 0 0 Q 6 h22 178 [some (.ref (ad 100)), some (.ref (ad b1)), some (.int z2), some (.int y9), none, none] []) (fun a20 hG => ?_) (fun j21 Hj21 hG => ?_)
      · skip
        intro h22 ha; have ha := ha.symm; subst ha
        refine r_iinc (pc := 178) (L' := fun z23 => [some (.ref (ad 100)), some (.ref (ad b1)), some (.int z2), some (.int z23), none, none]) X dX9_handsDo_178 (by decide) rfl rfl (by decide) (fun _ => rfl) hG (fun z23 hG => ?_)
        refine r_goto (pc := 181) X dX9_handsDo_181 (tgt := 8) (by decide) ?_
        exact r_mask [true, true, true, true, false, false] rfl (Hl8 _ hG z23 h22 rfl)
      refine r_icmp_ne (pc := 38) X dX9_handsDo_38 (tgt := 52) (by decide) hG (fun hG => ?_) (fun hG => ?_)
      · skip
        refine r_iconst (pc := 52) X dX9_handsDo_52 hG rfl (fun z24 hG => ?_)
        refine r_bipush (pc := 53) X dX9_handsDo_53 hG (by decide) (fun z25 hG => ?_)
        refine r_iload (pc := 55) X dX9_handsDo_55 rfl ?_
        refine r_imul (pc := 57) X dX9_handsDo_57 hG (fun z26 hG => ?_)
        refine r_aload_n (pc := 58) X dX9_handsDo_58 rfl rfl ?_
        refine r_sipush (pc := 59) X dX9_handsDo_59 hG (by decide) (fun z27 hG => ?_)
        refine r_iload_n (pc := 62) X dX9_handsDo_62 rfl rfl ?_
        refine r_iadd (pc := 63) X dX9_handsDo_63 hG (fun z28 hG => ?_)
        refine r_iald (pc := 64) X Hb1 dX9_handsDo_64 hG (fun z29 hG => ?_)
        refine r_iadd (pc := 65) X dX9_handsDo_65 hG (fun z30 hG => ?_)
        refine r_imul (pc := 66) X dX9_handsDo_66 hG (fun z31 hG => ?_)
        refine r_istore (pc := 67) (L' := [some (.ref (ad 100)), some (.ref (ad b1)), some (.int z2), some (.int y9), some (.int z15), some (.int z31)]) X dX9_handsDo_67 (by decide) rfl rfl ?_
        refine r_aload_n (pc := 69) X dX9_handsDo_69 rfl rfl ?_
        refine r_aload_n (pc := 70) X dX9_handsDo_70 rfl rfl ?_
        refine r_aload_n (pc := 71) X dX9_handsDo_71 rfl rfl ?_
        refine r_getC (pc := 72) X (at_X9_o Hb0) rfl mU_X9 (k := 45) (by decide) (q := 120) rfl mF_X9_207 dX9_handsDo_72 ?_
        refine r_iload (pc := 75) X dX9_handsDo_75 rfl ?_
        refine r_iald (pc := 77) X (at_X9_act Hb0) dX9_handsDo_77 hG (fun z32 hG => ?_)
        refine r_aload_n (pc := 78) X dX9_handsDo_78 rfl rfl ?_
        refine r_getC (pc := 79) X (at_X9_o Hb0) rfl mU_X9 (k := 45) (by decide) (q := 120) rfl mF_X9_207 dX9_handsDo_79 ?_
        refine r_iload (pc := 82) X dX9_handsDo_82 rfl ?_
        refine r_iconst (pc := 84) X dX9_handsDo_84 hG rfl (fun z33 hG => ?_)
        refine r_iadd (pc := 85) X dX9_handsDo_85 hG (fun z34 hG => ?_)
        refine r_iald (pc := 86) X (at_X9_act Hb0) dX9_handsDo_86 hG (fun z35 hG => ?_)
        refine r_aload_n (pc := 87) X dX9_handsDo_87 rfl rfl ?_
        refine r_getC (pc := 88) X (at_X9_o Hb0) rfl mU_X9 (k := 45) (by decide) (q := 120) rfl mF_X9_207 dX9_handsDo_88 ?_
        refine r_iload (pc := 91) X dX9_handsDo_91 rfl ?_
        refine r_iconst (pc := 93) X dX9_handsDo_93 hG rfl (fun z36 hG => ?_)
        refine r_iadd (pc := 94) X dX9_handsDo_94 hG (fun z37 hG => ?_)
        refine r_iald (pc := 95) X (at_X9_act Hb0) dX9_handsDo_95 hG (fun z38 hG => ?_)
        refine r_cV (pc := 96) hG (fun _ hg => runV X dX9_handsDo_96 (c_X9_does Hb0 Hb1 hg) mM_X9_373 mI_X9_does mE_X9_does mN_X9 mK_X9_does (at_X9_o Hb0) rfl rfl rfl rfl hdd_X9_does ⟨(Nat.le_of_ble_eq_true rfl), (Nat.le_of_ble_eq_true rfl)⟩ rfl rfl (Nat.le_of_ble_eq_true rfl) ⟨(Nat.le_of_ble_eq_true rfl), (Nat.le_of_ble_eq_true rfl)⟩) (fun h39 hG => ?_)
        refine r_aload_n (pc := 99) X dX9_handsDo_99 rfl rfl ?_
        refine r_sipush (pc := 100) X dX9_handsDo_100 hG (by decide) (fun z40 hG => ?_)
        refine r_iload_n (pc := 103) X dX9_handsDo_103 rfl rfl ?_
        refine r_iadd (pc := 104) X dX9_handsDo_104 hG (fun z41 hG => ?_)
        refine r_aload_n (pc := 105) X dX9_handsDo_105 rfl rfl ?_
        refine r_sipush (pc := 106) X dX9_handsDo_106 hG (by decide) (fun z42 hG => ?_)
        refine r_iload_n (pc := 109) X dX9_handsDo_109 rfl rfl ?_
        refine r_iadd (pc := 110) X dX9_handsDo_110 hG (fun z43 hG => ?_)
        refine r_iald (pc := 111) X Hb1 dX9_handsDo_111 hG (fun z44 hG => ?_)
        refine r_iconst (pc := 112) X dX9_handsDo_112 hG rfl (fun z45 hG => ?_)
        refine r_iadd (pc := 113) X dX9_handsDo_113 hG (fun z46 hG => ?_)
        refine r_aload_n (pc := 114) X dX9_handsDo_114 rfl rfl ?_
        refine r_getC (pc := 115) X (at_X9_o Hb0) rfl mU_X9 (k := 44) (by decide) (q := 119) rfl mF_X9_228 dX9_handsDo_115 ?_
        refine r_iload (pc := 118) X dX9_handsDo_118 rfl ?_
        refine r_iald (pc := 120) X (at_X9_acts Hb0) dX9_handsDo_120 hG (fun z47 hG => ?_)
        refine r_irem (pc := 121) X dX9_handsDo_121 hG (fun z48 hG => ?_)
        refine r_iast (pc := 122) X Hb1 dX9_handsDo_122 hG (fun h49 hG => ?_)
        refine r_aload_n (pc := 123) X dX9_handsDo_123 rfl rfl ?_
        refine r_sipush (pc := 124) X dX9_handsDo_124 hG (by decide) (fun z50 hG => ?_)
        refine r_iload_n (pc := 127) X dX9_handsDo_127 rfl rfl ?_
        refine r_iadd (pc := 128) X dX9_handsDo_128 hG (fun z51 hG => ?_)
        refine r_dup2 (pc := 129) X dX9_handsDo_129 rfl rfl ?_
        refine r_iald (pc := 130) X Hb1 dX9_handsDo_130 hG (fun z52 hG => ?_)
        refine r_iconst (pc := 131) X dX9_handsDo_131 hG rfl (fun z53 hG => ?_)
        refine r_iadd (pc := 132) X dX9_handsDo_132 hG (fun z54 hG => ?_)
        refine r_iast (pc := 133) X Hb1 dX9_handsDo_133 hG (fun h55 hG => ?_)
        refine r_aload_n (pc := 134) X dX9_handsDo_134 rfl rfl ?_
        refine r_getC (pc := 135) X (at_X9_o Hb0) rfl mU_X9 (k := 19) (by decide) (q := 102) rfl mF_X9_245 dX9_handsDo_135 ?_
        refine r_iconst (pc := 138) X dX9_handsDo_138 hG rfl (fun z56 hG => ?_)
        refine r_iald (pc := 139) X (at_X9_law Hb0) dX9_handsDo_139 hG (fun z57 hG => ?_)
        refine r_if_eq (pc := 140) X dX9_handsDo_140 (tgt := 178) (by decide) hG (fun hG => ?_) (fun hG => ?_)
        · skip
          exact r_mask [true, true, true, true, false, false] rfl (Hj21 _ hG h55 rfl)
        · skip
          refine r_aload_n (pc := 143) X dX9_handsDo_143 rfl rfl ?_
          refine r_sipush (pc := 144) X dX9_handsDo_144 hG (by decide) (fun z58 hG => ?_)
          refine r_iload_n (pc := 147) X dX9_handsDo_147 rfl rfl ?_
          refine r_iadd (pc := 148) X dX9_handsDo_148 hG (fun z59 hG => ?_)
          refine r_iald (pc := 149) X Hb1 dX9_handsDo_149 hG (fun z60 hG => ?_)
          refine r_aload_n (pc := 150) X dX9_handsDo_150 rfl rfl ?_
          refine r_getC (pc := 151) X (at_X9_o Hb0) rfl mU_X9 (k := 19) (by decide) (q := 102) rfl mF_X9_245 dX9_handsDo_151 ?_
          refine r_iconst (pc := 154) X dX9_handsDo_154 hG rfl (fun z61 hG => ?_)
          refine r_iald (pc := 155) X (at_X9_law Hb0) dX9_handsDo_155 hG (fun z62 hG => ?_)
          refine r_icmp_ge (pc := 156) X dX9_handsDo_156 (tgt := 162) (by decide) hG (fun hG => ?_) (fun hG => ?_)
          · skip
            refine r_aload_n (pc := 162) X dX9_handsDo_162 rfl rfl ?_
            refine r_sipush (pc := 163) X dX9_handsDo_163 hG (by decide) (fun z63 hG => ?_)
            refine r_iload_n (pc := 166) X dX9_handsDo_166 rfl rfl ?_
            refine r_iadd (pc := 167) X dX9_handsDo_167 hG (fun z64 hG => ?_)
            refine r_iconst (pc := 168) X dX9_handsDo_168 hG rfl (fun z65 hG => ?_)
            refine r_iast (pc := 169) X Hb1 dX9_handsDo_169 hG (fun h66 hG => ?_)
            refine r_aload_n (pc := 170) X dX9_handsDo_170 rfl rfl ?_
            refine r_sipush (pc := 171) X dX9_handsDo_171 hG (by decide) (fun z67 hG => ?_)
            refine r_iload_n (pc := 174) X dX9_handsDo_174 rfl rfl ?_
            refine r_iadd (pc := 175) X dX9_handsDo_175 hG (fun z68 hG => ?_)
            refine r_iconst (pc := 176) X dX9_handsDo_176 hG rfl (fun z69 hG => ?_)
            refine r_iast (pc := 177) X Hb1 dX9_handsDo_177 hG (fun h70 hG => ?_)
            exact r_mask [true, true, true, true, false, false] rfl (Hj21 _ hG h70 rfl)
          · skip
            refine r_goto (pc := 159) X dX9_handsDo_159 (tgt := 178) (by decide) ?_
            exact r_mask [true, true, true, true, false, false] rfl (Hj21 _ hG h55 rfl)
      · skip
        refine r_aload_n (pc := 41) X dX9_handsDo_41 rfl rfl ?_
        refine r_sipush (pc := 42) X dX9_handsDo_42 hG (by decide) (fun z71 hG => ?_)
        refine r_iload_n (pc := 45) X dX9_handsDo_45 rfl rfl ?_
        refine r_iadd (pc := 46) X dX9_handsDo_46 hG (fun z72 hG => ?_)
        refine r_iconst (pc := 47) X dX9_handsDo_47 hG rfl (fun z73 hG => ?_)
        refine r_iast (pc := 48) X Hb1 dX9_handsDo_48 hG (fun h74 hG => ?_)
        refine r_goto (pc := 49) X dX9_handsDo_49 (tgt := 178) (by decide) ?_
        exact r_mask [true, true, true, true, false, false] rfl (Hj21 _ hG h74 rfl)
theorem c_X9_handsDo {b1 : Nat} {r : Hp} (Hb0 : At_X9 shl) (Hb1 : shl[b1]? = some (.inr (0, 289, []))) (hg : g_X9_handsDo b1 h = some r) : Met l yX9_handsDo (wsM yX9_handsDo cX9_handsDo 6 none) rm_X9_handsDo (va_Pc [.ref (ad 100), .ref (ad b1)] (World E ad shl h)) (QcV E ad shl r) 0 0 (bsA E) :=
  met_of (L0 := [some (.ref (ad 100)), some (.ref (ad b1)), none, none, none, none]) rfl rfl rfl (Nat.le_of_ble_eq_true rfl) (fun _ _ _ _ _ _ _ X => w_X9_handsDo Hb0 Hb1 X rfl hg)
abbrev rm_X9_waveComes : Room := { frames := 1, cells := 0, slots := 0, locals := 21 }
theorem hdd_X9_waveComes : yX9_waveComes.cls = RX9 ∧ yX9_waveComes.cls ≠ "java/lang/invoke/MethodHandle" ∧ yX9_waveComes.cls ≠ "java/lang/invoke/VarHandle" ∧ (parseMethodDescriptor yX9_waveComes.desc).map (fun d => d.parameters.length) = some 3 := ⟨rfl, by decide +kernel, by decide +kernel, by decide +kernel⟩
set_option maxRecDepth 100000 in
set_option maxHeartbeats 4000000 in
theorem w_X9_waveComes {b1 : Nat} {x2 : Int32} {x3 : Int32} {r : Hp} (Hb0 : At_X9 shl) (Hb1 : shl[b1]? = some (.inr (0, 289, []))) (X : Cx E p s m args meth c cX9_waveComes RX9 8 none) (hQ : Q = MQ below (QcV E ad shl r) args s 0 0 (bsA E)) (hG : g_X9_waveComes b1 x2.toInt x3.toInt h = some r) : Ev E ad shl p l e rm_X9_waveComes s m args below meth c 0 0 Q 8 h 0 [some (.ref (ad 100)), some (.ref (ad b1)), some (.int x2), some (.int x3), none, none, none, none] [] := by
  unfold g_X9_waveComes at hG
  refine r_aload_n (pc := 0) X dX9_waveComes_0 rfl rfl ?_
  refine r_sipush (pc := 1) X dX9_waveComes_1 hG (by decide) (fun z1 hG => ?_)
  refine r_dup2 (pc := 4) X dX9_waveComes_4 rfl rfl ?_
  refine r_iald (pc := 5) X Hb1 dX9_waveComes_5 hG (fun z2 hG => ?_)
  refine r_iconst (pc := 6) X dX9_waveComes_6 hG rfl (fun z3 hG => ?_)
  refine r_iadd (pc := 7) X dX9_waveComes_7 hG (fun z4 hG => ?_)
  refine r_iast (pc := 8) X Hb1 dX9_waveComes_8 hG (fun h5 hG => ?_)
  refine r_iconst (pc := 9) X dX9_waveComes_9 hG rfl (fun z6 hG => ?_)
  refine r_istore (pc := 10) (L' := [some (.ref (ad 100)), some (.ref (ad b1)), some (.int x2), some (.int x3), some (.int z6), none, none, none]) X dX9_waveComes_10 (by decide) rfl rfl ?_
  refine r_mask [true, true, true, true, true, false, false, false] rfl (r_loop (fun q7 => ∀ (y9 : Int32) (h10 : Hp), q7 = (y9.toInt, h10) → Ev E ad shl p l e rm_X9_waveComes s m args below meth c 0 0 Q 8 h10 12 [some (.ref (ad 100)), some (.ref (ad b1)), some (.int x2), some (.int x3), some (.int y9), none, none, none] []) (fun l8 Hl8 q7 hG => ?_) FU _ hG z6 h5 rfl)
  intro y9 h10 ha; have ha := ha.symm; subst ha
  unfold g_X9_waveComes_l8 at hG
  refine r_iload (pc := 12) X dX9_waveComes_12 rfl ?_
  refine r_aload_n (pc := 14) X dX9_waveComes_14 rfl rfl ?_
  refine r_getI (pc := 15) X (at_X9_o Hb0) rfl mU_X9 (k := 10) (by decide) rfl mF_X9_201 dX9_waveComes_15 hG (fun z11 hG => ?_)
  refine r_icmp_ge (pc := 18) X dX9_waveComes_18 (tgt := 162) (by decide) hG (fun hG => ?_) (fun hG => ?_)
  · skip
    exact r_vret (pc := 162) X dX9_waveComes_162 hQ hG
  · skip
    refine r_iconst (pc := 21) X dX9_waveComes_21 hG rfl (fun z12 hG => ?_)
    refine r_istore (pc := 22) (L' := [some (.ref (ad 100)), some (.ref (ad b1)), some (.int x2), some (.int x3), some (.int y9), some (.int z12), none, none]) X dX9_waveComes_22 (by decide) rfl rfl ?_
    refine r_join hG (fun a13 => ∀ (h15 : Hp), a13 = h15 → Ev E ad shl p l e rm_X9_waveComes s m args below meth c 0 0 Q 8 h15 156 [some (.ref (ad 100)), some (.ref (ad b1)), some (.int x2), some (.int x3), some (.int y9), none, none, none] []) (fun a13 hG => ?_) (fun j14 Hj14 hG => ?_)
    · skip
      intro h15 ha; have ha := ha.symm; subst ha
      refine r_iinc (pc := 156) (L' := fun z16 => [some (.ref (ad 100)), some (.ref (ad b1)), some (.int x2), some (.int x3), some (.int z16), none, none, none]) X dX9_waveComes_156 (by decide) rfl rfl (by decide) (fun _ => rfl) hG (fun z16 hG => ?_)
      refine r_goto (pc := 159) X dX9_waveComes_159 (tgt := 12) (by decide) ?_
      exact r_mask [true, true, true, true, true, false, false, false] rfl (Hl8 _ hG z16 h15 rfl)
    refine r_join hG (fun a17 => ∀ (y19 : Int32) (h20 : Hp), a17 = (y19.toInt, h20) → Ev E ad shl p l e rm_X9_waveComes s m args below meth c 0 0 Q 8 h20 111 [some (.ref (ad 100)), some (.ref (ad b1)), some (.int x2), some (.int x3), some (.int y9), none, some (.int y19), none] []) (fun a17 hG => ?_) (fun j18 Hj18 hG => ?_)
    · skip
      intro y19 h20 ha; have ha := ha.symm; subst ha
      refine r_aload_n (pc := 111) X dX9_waveComes_111 rfl rfl ?_
      refine r_getI (pc := 112) X (at_X9_o Hb0) rfl mU_X9 (k := 39) (by decide) rfl mF_X9_264 dX9_waveComes_112 hG (fun z21 hG => ?_)
      refine r_aload_n (pc := 115) X dX9_waveComes_115 rfl rfl ?_
      refine r_iconst (pc := 116) X dX9_waveComes_116 hG rfl (fun z22 hG => ?_)
      refine r_iload (pc := 117) X dX9_waveComes_117 rfl ?_
      refine r_iadd (pc := 119) X dX9_waveComes_119 hG (fun z23 hG => ?_)
      refine r_iald (pc := 120) X Hb1 dX9_waveComes_120 hG (fun z24 hG => ?_)
      refine r_mmin (pc := 121) X dX9_waveComes_121 mM_X9_370 (Nat.le_of_ble_eq_true rfl) (Nat.le_of_ble_eq_true rfl) (Nat.le_of_ble_eq_true rfl) (Nat.le_of_ble_eq_true rfl) hG (fun z25 hG => ?_)
      refine r_istore (pc := 124) (L' := [some (.ref (ad 100)), some (.ref (ad b1)), some (.int x2), some (.int x3), some (.int y9), none, some (.int y19), some (.int z25)]) X dX9_waveComes_124 (by decide) rfl rfl ?_
      refine r_aload_n (pc := 126) X dX9_waveComes_126 rfl rfl ?_
      refine r_iconst (pc := 127) X dX9_waveComes_127 hG rfl (fun z26 hG => ?_)
      refine r_iload (pc := 128) X dX9_waveComes_128 rfl ?_
      refine r_iadd (pc := 130) X dX9_waveComes_130 hG (fun z27 hG => ?_)
      refine r_dup2 (pc := 131) X dX9_waveComes_131 rfl rfl ?_
      refine r_iald (pc := 132) X Hb1 dX9_waveComes_132 hG (fun z28 hG => ?_)
      refine r_iload (pc := 133) X dX9_waveComes_133 rfl ?_
      refine r_isub (pc := 135) X dX9_waveComes_135 hG (fun z29 hG => ?_)
      refine r_iast (pc := 136) X Hb1 dX9_waveComes_136 hG (fun h30 hG => ?_)
      refine r_aload_n (pc := 137) X dX9_waveComes_137 rfl rfl ?_
      refine r_sipush (pc := 138) X dX9_waveComes_138 hG (by decide) (fun z31 hG => ?_)
      refine r_dup2 (pc := 141) X dX9_waveComes_141 rfl rfl ?_
      refine r_iald (pc := 142) X Hb1 dX9_waveComes_142 hG (fun z32 hG => ?_)
      refine r_iload (pc := 143) X dX9_waveComes_143 rfl ?_
      refine r_iadd (pc := 145) X dX9_waveComes_145 hG (fun z33 hG => ?_)
      refine r_iast (pc := 146) X Hb1 dX9_waveComes_146 hG (fun h34 hG => ?_)
      refine r_goto (pc := 147) X dX9_waveComes_147 (tgt := 156) (by decide) ?_
      exact r_mask [true, true, true, true, true, false, false, false] rfl (Hj14 _ hG h34 rfl)
    refine r_join hG (fun a35 => ∀ (y37 : Int32) (y38 : Int32) (h39 : Hp), a35 = (y37.toInt, y38.toInt, h39) → Ev E ad shl p l e rm_X9_waveComes s m args below meth c 0 0 Q 8 h39 61 [some (.ref (ad 100)), some (.ref (ad b1)), some (.int x2), some (.int x3), some (.int y9), some (.int y37), some (.int y38), none] []) (fun a35 hG => ?_) (fun j36 Hj36 hG => ?_)
    · skip
      intro y37 y38 h39 ha; have ha := ha.symm; subst ha
      refine r_iload (pc := 61) X dX9_waveComes_61 rfl ?_
      refine r_iconst (pc := 63) X dX9_waveComes_63 hG rfl (fun z40 hG => ?_)
      refine r_iadd (pc := 64) X dX9_waveComes_64 hG (fun z41 hG => ?_)
      refine r_aload_n (pc := 65) X dX9_waveComes_65 rfl rfl ?_
      refine r_getI (pc := 66) X (at_X9_o Hb0) rfl mU_X9 (k := 11) (by decide) rfl mF_X9_204 dX9_waveComes_66 hG (fun z42 hG => ?_)
      refine r_icmp_ge (pc := 69) X dX9_waveComes_69 (tgt := 156) (by decide) hG (fun hG => ?_) (fun hG => ?_)
      · skip
        exact r_mask [true, true, true, true, true, false, false, false] rfl (Hj14 _ hG h39 rfl)
      · skip
        refine r_aload_n (pc := 72) X dX9_waveComes_72 rfl rfl ?_
        refine r_bipush (pc := 73) X dX9_waveComes_73 hG (by decide) (fun z43 hG => ?_)
        refine r_iload (pc := 75) X dX9_waveComes_75 rfl ?_
        refine r_iadd (pc := 77) X dX9_waveComes_77 hG (fun z44 hG => ?_)
        refine r_aload_n (pc := 78) X dX9_waveComes_78 rfl rfl ?_
        refine r_getI (pc := 79) X (at_X9_o Hb0) rfl mU_X9 (k := 10) (by decide) rfl mF_X9_201 dX9_waveComes_79 hG (fun z45 hG => ?_)
        refine r_iadd (pc := 82) X dX9_waveComes_82 hG (fun z46 hG => ?_)
        refine r_bipush (pc := 83) X dX9_waveComes_83 hG (by decide) (fun z47 hG => ?_)
        refine r_iast (pc := 85) X Hb1 dX9_waveComes_85 hG (fun h48 hG => ?_)
        refine r_goto (pc := 86) X dX9_waveComes_86 (tgt := 156) (by decide) ?_
        exact r_mask [true, true, true, true, true, false, false, false] rfl (Hj14 _ hG h48 rfl)
    refine r_mask [true, true, true, true, true, true, false, false] rfl (r_loop (fun q49 => ∀ (y51 : Int32) (h52 : Hp), q49 = (y51.toInt, h52) → Ev E ad shl p l e rm_X9_waveComes s m args below meth c 0 0 Q 8 h52 24 [some (.ref (ad 100)), some (.ref (ad b1)), some (.int x2), some (.int x3), some (.int y9), some (.int y51), none, none] []) (fun l50 Hl50 q49 hG => ?_) FU _ hG z12 h10 rfl)
    intro y51 h52 ha; have ha := ha.symm; subst ha
    unfold g_X9_waveComes_l50 at hG
    refine r_iload (pc := 24) X dX9_waveComes_24 rfl ?_
    refine r_iload_n (pc := 26) X dX9_waveComes_26 rfl rfl ?_
    refine r_aload_n (pc := 27) X dX9_waveComes_27 rfl rfl ?_
    refine r_getI (pc := 28) X (at_X9_o Hb0) rfl mU_X9 (k := 11) (by decide) rfl mF_X9_204 dX9_waveComes_28 hG (fun z53 hG => ?_)
    refine r_mmin (pc := 31) X dX9_waveComes_31 mM_X9_370 (Nat.le_of_ble_eq_true rfl) (Nat.le_of_ble_eq_true rfl) (Nat.le_of_ble_eq_true rfl) (Nat.le_of_ble_eq_true rfl) hG (fun z54 hG => ?_)
    refine r_icmp_ge (pc := 34) X dX9_waveComes_34 (tgt := 156) (by decide) hG (fun hG => ?_) (fun hG => ?_)
    · skip
      exact r_mask [true, true, true, true, true, false, false, false] rfl (Hj14 _ hG h52 rfl)
    · skip
      refine r_aload_n (pc := 37) X dX9_waveComes_37 rfl rfl ?_
      refine r_getI (pc := 38) X (at_X9_o Hb0) rfl mU_X9 (k := 10) (by decide) rfl mF_X9_201 dX9_waveComes_38 hG (fun z55 hG => ?_)
      refine r_iload (pc := 41) X dX9_waveComes_41 rfl ?_
      refine r_imul (pc := 43) X dX9_waveComes_43 hG (fun z56 hG => ?_)
      refine r_iload (pc := 44) X dX9_waveComes_44 rfl ?_
      refine r_iadd (pc := 46) X dX9_waveComes_46 hG (fun z57 hG => ?_)
      refine r_istore (pc := 47) (L' := [some (.ref (ad 100)), some (.ref (ad b1)), some (.int x2), some (.int x3), some (.int y9), some (.int y51), some (.int z57), none]) X dX9_waveComes_47 (by decide) rfl rfl ?_
      refine r_aload_n (pc := 49) X dX9_waveComes_49 rfl rfl ?_
      refine r_sipush (pc := 50) X dX9_waveComes_50 hG (by decide) (fun z58 hG => ?_)
      refine r_iload (pc := 53) X dX9_waveComes_53 rfl ?_
      refine r_iadd (pc := 55) X dX9_waveComes_55 hG (fun z59 hG => ?_)
      refine r_iald (pc := 56) X Hb1 dX9_waveComes_56 hG (fun z60 hG => ?_)
      refine r_iconst (pc := 57) X dX9_waveComes_57 hG rfl (fun z61 hG => ?_)
      refine r_icmp_ne (pc := 58) X dX9_waveComes_58 (tgt := 89) (by decide) hG (fun hG => ?_) (fun hG => ?_)
      · skip
        refine r_aload_n (pc := 89) X dX9_waveComes_89 rfl rfl ?_
        refine r_bipush (pc := 90) X dX9_waveComes_90 hG (by decide) (fun z62 hG => ?_)
        refine r_iload (pc := 92) X dX9_waveComes_92 rfl ?_
        refine r_iadd (pc := 94) X dX9_waveComes_94 hG (fun z63 hG => ?_)
        refine r_bipush (pc := 95) X dX9_waveComes_95 hG (by decide) (fun z64 hG => ?_)
        refine r_iast (pc := 97) X Hb1 dX9_waveComes_97 hG (fun h65 hG => ?_)
        refine r_aload_n (pc := 98) X dX9_waveComes_98 rfl rfl ?_
        refine r_iconst (pc := 99) X dX9_waveComes_99 hG rfl (fun z66 hG => ?_)
        refine r_iload (pc := 100) X dX9_waveComes_100 rfl ?_
        refine r_iadd (pc := 102) X dX9_waveComes_102 hG (fun z67 hG => ?_)
        refine r_iald (pc := 103) X Hb1 dX9_waveComes_103 hG (fun z68 hG => ?_)
        refine r_iload_n (pc := 104) X dX9_waveComes_104 rfl rfl ?_
        refine r_icmp_gt (pc := 105) X dX9_waveComes_105 (tgt := 111) (by decide) hG (fun hG => ?_) (fun hG => ?_)
        · skip
          exact r_mask [true, true, true, true, true, false, true, false] rfl (Hj18 _ hG z57 h65 rfl)
        · skip
          refine r_goto (pc := 108) X dX9_waveComes_108 (tgt := 150) (by decide) ?_
          refine r_iinc (pc := 150) (L' := fun z69 => [some (.ref (ad 100)), some (.ref (ad b1)), some (.int x2), some (.int x3), some (.int y9), some (.int z69), some (.int z57), none]) X dX9_waveComes_150 (by decide) rfl rfl (by decide) (fun _ => rfl) hG (fun z69 hG => ?_)
          refine r_goto (pc := 153) X dX9_waveComes_153 (tgt := 24) (by decide) ?_
          exact r_mask [true, true, true, true, true, true, false, false] rfl (Hl50 _ hG z69 h65 rfl)
      · skip
        exact r_mask [true, true, true, true, true, true, true, false] rfl (Hj36 _ hG y51 z57 h52 rfl)
theorem c_X9_waveComes {b1 : Nat} {x2 : Int32} {x3 : Int32} {r : Hp} (Hb0 : At_X9 shl) (Hb1 : shl[b1]? = some (.inr (0, 289, []))) (hg : g_X9_waveComes b1 x2.toInt x3.toInt h = some r) : Met l yX9_waveComes (wsM yX9_waveComes cX9_waveComes 8 none) rm_X9_waveComes (va_Pc [.ref (ad 100), .ref (ad b1), .int x2, .int x3] (World E ad shl h)) (QcV E ad shl r) 0 0 (bsA E) :=
  met_of (L0 := [some (.ref (ad 100)), some (.ref (ad b1)), some (.int x2), some (.int x3), none, none, none, none]) rfl rfl rfl (Nat.le_of_ble_eq_true rfl) (fun _ _ _ _ _ _ _ X => w_X9_waveComes Hb0 Hb1 X rfl hg)
abbrev rm_X9_draw : Room := { frames := 0, cells := 0, slots := 0, locals := 0 }
theorem hdd_X9_draw : yX9_draw.cls ≠ "java/lang/invoke/MethodHandle" ∧ yX9_draw.cls ≠ "java/lang/invoke/VarHandle" ∧ (parseMethodDescriptor yX9_draw.desc).map (fun d => d.parameters.length) = some 2 := ⟨by decide +kernel, by decide +kernel, by decide +kernel⟩
set_option maxRecDepth 100000 in
set_option maxHeartbeats 4000000 in
theorem w_X9_draw {b1 : Nat} {x2 : Int32} {r : Int × Hp} (Hb1 : shl[b1]? = some (.inr (0, 289, []))) (X : Cx E p s m args meth c cX9_draw RX9 4 (some .int)) (hQ : Q = MQ below (QcI E ad shl r.1 r.2) args s 0 0 (bsA E)) (hG : g_X9_draw b1 x2.toInt h = some r) : Ev E ad shl p l e rm_X9_draw s m args below meth c 0 0 Q 4 h 0 [some (.ref (ad b1)), some (.int x2), none, none] [] := by
  unfold g_X9_draw at hG
  refine r_ldc2 (pc := 0) X dX9_draw_0 mW_X9_377 hG (by decide) (fun z1 hG => ?_)
  refine r_aload_n (pc := 3) X dX9_draw_3 rfl rfl ?_
  refine r_sipush (pc := 4) X dX9_draw_4 hG (by decide) (fun z2 hG => ?_)
  refine r_iald (pc := 7) X Hb1 dX9_draw_7 hG (fun z3 hG => ?_)
  refine r_i2l (pc := 8) X dX9_draw_8 hG (fun z4 hG => ?_)
  refine r_lmul (pc := 9) X dX9_draw_9 hG (fun z5 hG => ?_)
  refine r_ldc2 (pc := 10) X dX9_draw_10 mW_X9_379 hG (by decide) (fun z6 hG => ?_)
  refine r_ladd (pc := 13) X dX9_draw_13 hG (fun z7 hG => ?_)
  refine r_ldc2 (pc := 14) X dX9_draw_14 mW_X9_381 hG (by decide) (fun z8 hG => ?_)
  refine r_lrem (pc := 17) X dX9_draw_17 hG (fun z9 hG => ?_)
  refine r_lstore_n (pc := 18) (L' := [some (.ref (ad b1)), some (.int x2), some (.long z9), none]) X dX9_draw_18 rfl (by decide) rfl rfl ?_
  refine r_aload_n (pc := 19) X dX9_draw_19 rfl rfl ?_
  refine r_sipush (pc := 20) X dX9_draw_20 hG (by decide) (fun z10 hG => ?_)
  refine r_lload_n (pc := 23) X dX9_draw_23 rfl rfl ?_
  refine r_l2i (pc := 24) X dX9_draw_24 hG (fun z11 hG => ?_)
  refine r_iast (pc := 25) X Hb1 dX9_draw_25 hG (fun h12 hG => ?_)
  refine r_lload_n (pc := 26) X dX9_draw_26 rfl rfl ?_
  refine r_ldc2 (pc := 27) X dX9_draw_27 mW_X9_383 hG (by decide) (fun z13 hG => ?_)
  refine r_ldiv (pc := 30) X dX9_draw_30 hG (fun z14 hG => ?_)
  refine r_iload_n (pc := 31) X dX9_draw_31 rfl rfl ?_
  refine r_i2l (pc := 32) X dX9_draw_32 hG (fun z15 hG => ?_)
  refine r_lrem (pc := 33) X dX9_draw_33 hG (fun z16 hG => ?_)
  refine r_l2i (pc := 34) X dX9_draw_34 hG (fun z17 hG => ?_)
  exact r_iretW (pc := 35) X dX9_draw_35 hQ hG
theorem c_X9_draw {b1 : Nat} {x2 : Int32} {r : Int × Hp} (Hb1 : shl[b1]? = some (.inr (0, 289, []))) (hg : g_X9_draw b1 x2.toInt h = some r) : Met l yX9_draw (wsM yX9_draw cX9_draw 4 (some .int)) rm_X9_draw (va_Pc [.ref (ad b1), .int x2] (World E ad shl h)) (QcI E ad shl r.1 r.2) 0 0 (bsA E) :=
  met_of (L0 := [some (.ref (ad b1)), some (.int x2), none, none]) rfl rfl rfl (Nat.le_of_ble_eq_true rfl) (fun _ _ _ _ _ _ _ X => w_X9_draw Hb1 X rfl hg)
abbrev rm_X9_seaComes : Room := { frames := 2, cells := 0, slots := 0, locals := 48 }
theorem hdd_X9_seaComes : yX9_seaComes.cls = RX9 ∧ yX9_seaComes.cls ≠ "java/lang/invoke/MethodHandle" ∧ yX9_seaComes.cls ≠ "java/lang/invoke/VarHandle" ∧ (parseMethodDescriptor yX9_seaComes.desc).map (fun d => d.parameters.length) = some 1 := ⟨rfl, by decide +kernel, by decide +kernel, by decide +kernel⟩
set_option maxRecDepth 100000 in
set_option maxHeartbeats 4000000 in
theorem w_X9_seaComes {b1 : Nat} {r : Hp} (Hb0 : At_X9 shl) (Hb1 : shl[b1]? = some (.inr (0, 289, []))) (X : Cx E p s m args meth c cX9_seaComes RX9 4 none) (hQ : Q = MQ below (QcV E ad shl r) args s 0 0 (bsA E)) (hG : g_X9_seaComes b1 h = some r) : Ev E ad shl p l e rm_X9_seaComes s m args below meth c 0 0 Q 4 h 0 [some (.ref (ad 100)), some (.ref (ad b1)), none, none] [] := by
  unfold g_X9_seaComes at hG
  refine r_aload_n (pc := 0) X dX9_seaComes_0 rfl rfl ?_
  refine r_sipush (pc := 1) X dX9_seaComes_1 hG (by decide) (fun z1 hG => ?_)
  refine r_iald (pc := 4) X Hb1 dX9_seaComes_4 hG (fun z2 hG => ?_)
  refine r_istore_n (pc := 5) (L' := [some (.ref (ad 100)), some (.ref (ad b1)), some (.int z2), none]) X dX9_seaComes_5 rfl (by decide) rfl rfl ?_
  refine r_iconst (pc := 6) X dX9_seaComes_6 hG rfl (fun z3 hG => ?_)
  refine r_istore_n (pc := 7) (L' := [some (.ref (ad 100)), some (.ref (ad b1)), some (.int z2), some (.int z3)]) X dX9_seaComes_7 rfl (by decide) rfl rfl ?_
  refine r_join hG (fun a4 => ∀ (h6 : Hp), a4 = h6 → Ev E ad shl p l e rm_X9_seaComes s m args below meth c 0 0 Q 4 h6 59 [some (.ref (ad 100)), some (.ref (ad b1)), some (.int z2), none] []) (fun a4 hG => ?_) (fun j5 Hj5 hG => ?_)
  · skip
    intro h6 ha; have ha := ha.symm; subst ha
    refine r_aload_n (pc := 59) X dX9_seaComes_59 rfl rfl ?_
    refine r_getC (pc := 60) X (at_X9_o Hb0) rfl mU_X9 (k := 33) (by decide) (q := 112) rfl mF_X9_258 dX9_seaComes_60 ?_
    refine r_iconst (pc := 63) X dX9_seaComes_63 hG rfl (fun z7 hG => ?_)
    refine r_iald (pc := 64) X (at_X9_tide Hb0) dX9_seaComes_64 hG (fun z8 hG => ?_)
    refine r_iconst (pc := 65) X dX9_seaComes_65 hG rfl (fun z9 hG => ?_)
    refine r_join hG (fun _ => Ev E ad shl p l e rm_X9_seaComes s m args below meth c 0 0 Q 4 h6 107 [none, none, none, none] []) (fun a10 hG => ?_) (fun j11 Hj11 hG => ?_)
    · skip
      exact r_vret (pc := 107) X dX9_seaComes_107 hQ hG
    refine r_icmp_eq (pc := 66) X dX9_seaComes_66 (tgt := 107) (by decide) hG (fun hG => ?_) (fun hG => ?_)
    · skip
      exact r_mask [false, false, false, false] rfl (Hj11 _ hG)
    · skip
      refine r_iload_n (pc := 69) X dX9_seaComes_69 rfl rfl ?_
      refine r_aload_n (pc := 70) X dX9_seaComes_70 rfl rfl ?_
      refine r_getC (pc := 71) X (at_X9_o Hb0) rfl mU_X9 (k := 33) (by decide) (q := 112) rfl mF_X9_258 dX9_seaComes_71 ?_
      refine r_iconst (pc := 74) X dX9_seaComes_74 hG rfl (fun z12 hG => ?_)
      refine r_iald (pc := 75) X (at_X9_tide Hb0) dX9_seaComes_75 hG (fun z13 hG => ?_)
      refine r_icmp_lt (pc := 76) X dX9_seaComes_76 (tgt := 107) (by decide) hG (fun hG => ?_) (fun hG => ?_)
      · skip
        exact r_mask [false, false, false, false] rfl (Hj11 _ hG)
      · skip
        refine r_iload_n (pc := 79) X dX9_seaComes_79 rfl rfl ?_
        refine r_aload_n (pc := 80) X dX9_seaComes_80 rfl rfl ?_
        refine r_getC (pc := 81) X (at_X9_o Hb0) rfl mU_X9 (k := 33) (by decide) (q := 112) rfl mF_X9_258 dX9_seaComes_81 ?_
        refine r_iconst (pc := 84) X dX9_seaComes_84 hG rfl (fun z14 hG => ?_)
        refine r_iald (pc := 85) X (at_X9_tide Hb0) dX9_seaComes_85 hG (fun z15 hG => ?_)
        refine r_icmp_gt (pc := 86) X dX9_seaComes_86 (tgt := 107) (by decide) hG (fun hG => ?_) (fun hG => ?_)
        · skip
          exact r_mask [false, false, false, false] rfl (Hj11 _ hG)
        · skip
          refine r_iload_n (pc := 89) X dX9_seaComes_89 rfl rfl ?_
          refine r_aload_n (pc := 90) X dX9_seaComes_90 rfl rfl ?_
          refine r_getC (pc := 91) X (at_X9_o Hb0) rfl mU_X9 (k := 33) (by decide) (q := 112) rfl mF_X9_258 dX9_seaComes_91 ?_
          refine r_iconst (pc := 94) X dX9_seaComes_94 hG rfl (fun z16 hG => ?_)
          refine r_iald (pc := 95) X (at_X9_tide Hb0) dX9_seaComes_95 hG (fun z17 hG => ?_)
          refine r_isub (pc := 96) X dX9_seaComes_96 hG (fun z18 hG => ?_)
          refine r_aload_n (pc := 97) X dX9_seaComes_97 rfl rfl ?_
          refine r_getC (pc := 98) X (at_X9_o Hb0) rfl mU_X9 (k := 33) (by decide) (q := 112) rfl mF_X9_258 dX9_seaComes_98 ?_
          refine r_iconst (pc := 101) X dX9_seaComes_101 hG rfl (fun z19 hG => ?_)
          refine r_iald (pc := 102) X (at_X9_tide Hb0) dX9_seaComes_102 hG (fun z20 hG => ?_)
          refine r_irem (pc := 103) X dX9_seaComes_103 hG (fun z21 hG => ?_)
          refine r_if_eq (pc := 104) X dX9_seaComes_104 (tgt := 108) (by decide) hG (fun hG => ?_) (fun hG => ?_)
          · skip
            refine r_aload_n (pc := 108) X dX9_seaComes_108 rfl rfl ?_
            refine r_bipush (pc := 109) X dX9_seaComes_109 hG (by decide) (fun z22 hG => ?_)
            refine r_cW (pc := 111) hG (fun _ hg => runS X dX9_seaComes_111 (c_X9_draw Hb1 hg) mM_X9_388 mS_X9_draw mN_X9 mK_X9_draw rfl rfl hdd_X9_draw ⟨(Nat.le_of_ble_eq_true rfl), (Nat.le_of_ble_eq_true rfl)⟩ rfl rfl (Nat.le_of_ble_eq_true rfl) ⟨(Nat.le_of_ble_eq_true rfl), (Nat.le_of_ble_eq_true rfl)⟩) (fun z23 h24 hG => ?_)
            refine r_aload_n (pc := 114) X dX9_seaComes_114 rfl rfl ?_
            refine r_getC (pc := 115) X (at_X9_o Hb0) rfl mU_X9 (k := 33) (by decide) (q := 112) rfl mF_X9_258 dX9_seaComes_115 ?_
            refine r_iconst (pc := 118) X dX9_seaComes_118 hG rfl (fun z25 hG => ?_)
            refine r_iald (pc := 119) X (at_X9_tide Hb0) dX9_seaComes_119 hG (fun z26 hG => ?_)
            refine r_icmp_lt (pc := 120) X dX9_seaComes_120 (tgt := 124) (by decide) hG (fun hG => ?_) (fun hG => ?_)
            · skip
              refine r_aload_n (pc := 124) X dX9_seaComes_124 rfl rfl ?_
              refine r_getC (pc := 125) X (at_X9_o Hb0) rfl mU_X9 (k := 35) (by decide) (q := 114) rfl mF_X9_260 dX9_seaComes_125 ?_
              refine r_iconst (pc := 128) X dX9_seaComes_128 hG rfl (fun z27 hG => ?_)
              refine r_iald (pc := 129) X (at_X9_reach Hb0) dX9_seaComes_129 hG (fun z28 hG => ?_)
              refine r_aload_n (pc := 130) X dX9_seaComes_130 rfl rfl ?_
              refine r_aload_n (pc := 131) X dX9_seaComes_131 rfl rfl ?_
              refine r_getC (pc := 132) X (at_X9_o Hb0) rfl mU_X9 (k := 35) (by decide) (q := 114) rfl mF_X9_260 dX9_seaComes_132 ?_
              refine r_iconst (pc := 135) X dX9_seaComes_135 hG rfl (fun z29 hG => ?_)
              refine r_iald (pc := 136) X (at_X9_reach Hb0) dX9_seaComes_136 hG (fun z30 hG => ?_)
              refine r_aload_n (pc := 137) X dX9_seaComes_137 rfl rfl ?_
              refine r_getC (pc := 138) X (at_X9_o Hb0) rfl mU_X9 (k := 35) (by decide) (q := 114) rfl mF_X9_260 dX9_seaComes_138 ?_
              refine r_iconst (pc := 141) X dX9_seaComes_141 hG rfl (fun z31 hG => ?_)
              refine r_iald (pc := 142) X (at_X9_reach Hb0) dX9_seaComes_142 hG (fun z32 hG => ?_)
              refine r_isub (pc := 143) X dX9_seaComes_143 hG (fun z33 hG => ?_)
              refine r_iconst (pc := 144) X dX9_seaComes_144 hG rfl (fun z34 hG => ?_)
              refine r_iadd (pc := 145) X dX9_seaComes_145 hG (fun z35 hG => ?_)
              refine r_cW (pc := 146) hG (fun _ hg => runS X dX9_seaComes_146 (c_X9_draw Hb1 hg) mM_X9_388 mS_X9_draw mN_X9 mK_X9_draw rfl rfl hdd_X9_draw ⟨(Nat.le_of_ble_eq_true rfl), (Nat.le_of_ble_eq_true rfl)⟩ rfl rfl (Nat.le_of_ble_eq_true rfl) ⟨(Nat.le_of_ble_eq_true rfl), (Nat.le_of_ble_eq_true rfl)⟩) (fun z36 h37 hG => ?_)
              refine r_iadd (pc := 149) X dX9_seaComes_149 hG (fun z38 hG => ?_)
              refine r_istore_n (pc := 150) (L' := [some (.ref (ad 100)), some (.ref (ad b1)), some (.int z2), some (.int z38)]) X dX9_seaComes_150 rfl (by decide) rfl rfl ?_
              refine r_aload_n (pc := 151) X dX9_seaComes_151 rfl rfl ?_
              refine r_aload_n (pc := 152) X dX9_seaComes_152 rfl rfl ?_
              refine r_iload_n (pc := 153) X dX9_seaComes_153 rfl rfl ?_
              refine r_aload_n (pc := 154) X dX9_seaComes_154 rfl rfl ?_
              refine r_getC (pc := 155) X (at_X9_o Hb0) rfl mU_X9 (k := 36) (by decide) (q := 115) rfl mF_X9_262 dX9_seaComes_155 ?_
              refine r_iconst (pc := 158) X dX9_seaComes_158 hG rfl (fun z39 hG => ?_)
              refine r_iald (pc := 159) X (at_X9_level Hb0) dX9_seaComes_159 hG (fun z40 hG => ?_)
              refine r_aload_n (pc := 160) X dX9_seaComes_160 rfl rfl ?_
              refine r_aload_n (pc := 161) X dX9_seaComes_161 rfl rfl ?_
              refine r_getC (pc := 162) X (at_X9_o Hb0) rfl mU_X9 (k := 36) (by decide) (q := 115) rfl mF_X9_262 dX9_seaComes_162 ?_
              refine r_iconst (pc := 165) X dX9_seaComes_165 hG rfl (fun z41 hG => ?_)
              refine r_iald (pc := 166) X (at_X9_level Hb0) dX9_seaComes_166 hG (fun z42 hG => ?_)
              refine r_aload_n (pc := 167) X dX9_seaComes_167 rfl rfl ?_
              refine r_getC (pc := 168) X (at_X9_o Hb0) rfl mU_X9 (k := 36) (by decide) (q := 115) rfl mF_X9_262 dX9_seaComes_168 ?_
              refine r_iconst (pc := 171) X dX9_seaComes_171 hG rfl (fun z43 hG => ?_)
              refine r_iald (pc := 172) X (at_X9_level Hb0) dX9_seaComes_172 hG (fun z44 hG => ?_)
              refine r_isub (pc := 173) X dX9_seaComes_173 hG (fun z45 hG => ?_)
              refine r_iconst (pc := 174) X dX9_seaComes_174 hG rfl (fun z46 hG => ?_)
              refine r_iadd (pc := 175) X dX9_seaComes_175 hG (fun z47 hG => ?_)
              refine r_cW (pc := 176) hG (fun _ hg => runS X dX9_seaComes_176 (c_X9_draw Hb1 hg) mM_X9_388 mS_X9_draw mN_X9 mK_X9_draw rfl rfl hdd_X9_draw ⟨(Nat.le_of_ble_eq_true rfl), (Nat.le_of_ble_eq_true rfl)⟩ rfl rfl (Nat.le_of_ble_eq_true rfl) ⟨(Nat.le_of_ble_eq_true rfl), (Nat.le_of_ble_eq_true rfl)⟩) (fun z48 h49 hG => ?_)
              refine r_iadd (pc := 179) X dX9_seaComes_179 hG (fun z50 hG => ?_)
              refine r_cV (pc := 180) hG (fun _ hg => runV X dX9_seaComes_180 (c_X9_waveComes Hb0 Hb1 hg) mM_X9_385 mI_X9_waveComes mE_X9_waveComes mN_X9 mK_X9_waveComes (at_X9_o Hb0) rfl rfl rfl rfl hdd_X9_waveComes ⟨(Nat.le_of_ble_eq_true rfl), (Nat.le_of_ble_eq_true rfl)⟩ rfl rfl (Nat.le_of_ble_eq_true rfl) ⟨(Nat.le_of_ble_eq_true rfl), (Nat.le_of_ble_eq_true rfl)⟩) (fun h51 hG => ?_)
              exact r_vret (pc := 183) X dX9_seaComes_183 hQ hG
            · skip
              exact r_vret (pc := 123) X dX9_seaComes_123 hQ hG
          · skip
            exact r_mask [false, false, false, false] rfl (Hj11 _ hG)
  refine r_mask [true, true, true, true] rfl (r_loop (fun q52 => ∀ (y54 : Int32) (h55 : Hp), q52 = (y54.toInt, h55) → Ev E ad shl p l e rm_X9_seaComes s m args below meth c 0 0 Q 4 h55 8 [some (.ref (ad 100)), some (.ref (ad b1)), some (.int z2), some (.int y54)] []) (fun l53 Hl53 q52 hG => ?_) FU _ hG z3 h rfl)
  intro y54 h55 ha; have ha := ha.symm; subst ha
  unfold g_X9_seaComes_l53 at hG
  refine r_iload_n (pc := 8) X dX9_seaComes_8 rfl rfl ?_
  refine r_aload_n (pc := 9) X dX9_seaComes_9 rfl rfl ?_
  refine r_getI (pc := 10) X (at_X9_o Hb0) rfl mU_X9 (k := 28) (by decide) rfl mF_X9_334 dX9_seaComes_10 hG (fun z56 hG => ?_)
  refine r_icmp_ge (pc := 13) X dX9_seaComes_13 (tgt := 59) (by decide) hG (fun hG => ?_) (fun hG => ?_)
  · skip
    exact r_mask [true, true, true, false] rfl (Hj5 _ hG h55 rfl)
  · skip
    refine r_aload_n (pc := 16) X dX9_seaComes_16 rfl rfl ?_
    refine r_getC (pc := 17) X (at_X9_o Hb0) rfl mU_X9 (k := 31) (by decide) (q := 110) rfl mF_X9_256 dX9_seaComes_17 ?_
    refine r_iconst (pc := 20) X dX9_seaComes_20 hG rfl (fun z57 hG => ?_)
    refine r_iload_n (pc := 21) X dX9_seaComes_21 rfl rfl ?_
    refine r_imul (pc := 22) X dX9_seaComes_22 hG (fun z58 hG => ?_)
    refine r_iald (pc := 23) X (at_X9_wave Hb0) dX9_seaComes_23 hG (fun z59 hG => ?_)
    refine r_iload_n (pc := 24) X dX9_seaComes_24 rfl rfl ?_
    refine r_join hG (fun a60 => ∀ (h62 : Hp), a60 = h62 → Ev E ad shl p l e rm_X9_seaComes s m args below meth c 0 0 Q 4 h62 53 [some (.ref (ad 100)), some (.ref (ad b1)), some (.int z2), some (.int y54)] []) (fun a60 hG => ?_) (fun j61 Hj61 hG => ?_)
    · skip
      intro h62 ha; have ha := ha.symm; subst ha
      refine r_iinc (pc := 53) (L' := fun z63 => [some (.ref (ad 100)), some (.ref (ad b1)), some (.int z2), some (.int z63)]) X dX9_seaComes_53 (by decide) rfl rfl (by decide) (fun _ => rfl) hG (fun z63 hG => ?_)
      refine r_goto (pc := 56) X dX9_seaComes_56 (tgt := 8) (by decide) ?_
      exact r_mask [true, true, true, true] rfl (Hl53 _ hG z63 h62 rfl)
    refine r_icmp_ne (pc := 25) X dX9_seaComes_25 (tgt := 53) (by decide) hG (fun hG => ?_) (fun hG => ?_)
    · skip
      exact r_mask [true, true, true, true] rfl (Hj61 _ hG h55 rfl)
    · skip
      refine r_aload_n (pc := 28) X dX9_seaComes_28 rfl rfl ?_
      refine r_aload_n (pc := 29) X dX9_seaComes_29 rfl rfl ?_
      refine r_aload_n (pc := 30) X dX9_seaComes_30 rfl rfl ?_
      refine r_getC (pc := 31) X (at_X9_o Hb0) rfl mU_X9 (k := 31) (by decide) (q := 110) rfl mF_X9_256 dX9_seaComes_31 ?_
      refine r_iconst (pc := 34) X dX9_seaComes_34 hG rfl (fun z64 hG => ?_)
      refine r_iload_n (pc := 35) X dX9_seaComes_35 rfl rfl ?_
      refine r_imul (pc := 36) X dX9_seaComes_36 hG (fun z65 hG => ?_)
      refine r_iconst (pc := 37) X dX9_seaComes_37 hG rfl (fun z66 hG => ?_)
      refine r_iadd (pc := 38) X dX9_seaComes_38 hG (fun z67 hG => ?_)
      refine r_iald (pc := 39) X (at_X9_wave Hb0) dX9_seaComes_39 hG (fun z68 hG => ?_)
      refine r_aload_n (pc := 40) X dX9_seaComes_40 rfl rfl ?_
      refine r_getC (pc := 41) X (at_X9_o Hb0) rfl mU_X9 (k := 31) (by decide) (q := 110) rfl mF_X9_256 dX9_seaComes_41 ?_
      refine r_iconst (pc := 44) X dX9_seaComes_44 hG rfl (fun z69 hG => ?_)
      refine r_iload_n (pc := 45) X dX9_seaComes_45 rfl rfl ?_
      refine r_imul (pc := 46) X dX9_seaComes_46 hG (fun z70 hG => ?_)
      refine r_iconst (pc := 47) X dX9_seaComes_47 hG rfl (fun z71 hG => ?_)
      refine r_iadd (pc := 48) X dX9_seaComes_48 hG (fun z72 hG => ?_)
      refine r_iald (pc := 49) X (at_X9_wave Hb0) dX9_seaComes_49 hG (fun z73 hG => ?_)
      refine r_cV (pc := 50) hG (fun _ hg => runV X dX9_seaComes_50 (c_X9_waveComes Hb0 Hb1 hg) mM_X9_385 mI_X9_waveComes mE_X9_waveComes mN_X9 mK_X9_waveComes (at_X9_o Hb0) rfl rfl rfl rfl hdd_X9_waveComes ⟨(Nat.le_of_ble_eq_true rfl), (Nat.le_of_ble_eq_true rfl)⟩ rfl rfl (Nat.le_of_ble_eq_true rfl) ⟨(Nat.le_of_ble_eq_true rfl), (Nat.le_of_ble_eq_true rfl)⟩) (fun h74 hG => ?_)
      exact r_mask [true, true, true, true] rfl (Hj61 _ hG h74 rfl)
theorem c_X9_seaComes {b1 : Nat} {r : Hp} (Hb0 : At_X9 shl) (Hb1 : shl[b1]? = some (.inr (0, 289, []))) (hg : g_X9_seaComes b1 h = some r) : Met l yX9_seaComes (wsM yX9_seaComes cX9_seaComes 4 none) rm_X9_seaComes (va_Pc [.ref (ad 100), .ref (ad b1)] (World E ad shl h)) (QcV E ad shl r) 0 0 (bsA E) :=
  met_of (L0 := [some (.ref (ad 100)), some (.ref (ad b1)), none, none]) rfl rfl rfl (Nat.le_of_ble_eq_true rfl) (fun _ _ _ _ _ _ _ X => w_X9_seaComes Hb0 Hb1 X rfl hg)
abbrev rm_X9_sun : Room := { frames := 1, cells := 0, slots := 0, locals := 21 }
theorem hdd_X9_sun : yX9_sun.cls = RX9 ∧ yX9_sun.cls ≠ "java/lang/invoke/MethodHandle" ∧ yX9_sun.cls ≠ "java/lang/invoke/VarHandle" ∧ (parseMethodDescriptor yX9_sun.desc).map (fun d => d.parameters.length) = some 1 := ⟨rfl, by decide +kernel, by decide +kernel, by decide +kernel⟩
set_option maxRecDepth 100000 in
set_option maxHeartbeats 4000000 in
theorem w_X9_sun {b1 : Nat} {r : Hp} (Hb0 : At_X9 shl) (Hb1 : shl[b1]? = some (.inr (0, 289, []))) (X : Cx E p s m args meth c cX9_sun RX9 3 none) (hQ : Q = MQ below (QcV E ad shl r) args s 0 0 (bsA E)) (hG : g_X9_sun b1 h = some r) : Ev E ad shl p l e rm_X9_sun s m args below meth c 0 0 Q 3 h 0 [some (.ref (ad 100)), some (.ref (ad b1)), none] [] := by
  unfold g_X9_sun at hG
  refine r_aload_n (pc := 0) X dX9_sun_0 rfl rfl ?_
  refine r_sipush (pc := 1) X dX9_sun_1 hG (by decide) (fun z1 hG => ?_)
  refine r_iald (pc := 4) X Hb1 dX9_sun_4 hG (fun z2 hG => ?_)
  refine r_iconst (pc := 5) X dX9_sun_5 hG rfl (fun z3 hG => ?_)
  refine r_iadd (pc := 6) X dX9_sun_6 hG (fun z4 hG => ?_)
  refine r_aload_n (pc := 7) X dX9_sun_7 rfl rfl ?_
  refine r_getC (pc := 8) X (at_X9_o Hb0) rfl mU_X9 (k := 19) (by decide) (q := 102) rfl mF_X9_245 dX9_sun_8 ?_
  refine r_iconst (pc := 11) X dX9_sun_11 hG rfl (fun z5 hG => ?_)
  refine r_iald (pc := 12) X (at_X9_law Hb0) dX9_sun_12 hG (fun z6 hG => ?_)
  refine r_irem (pc := 13) X dX9_sun_13 hG (fun z7 hG => ?_)
  refine r_if_eq (pc := 14) X dX9_sun_14 (tgt := 18) (by decide) hG (fun hG => ?_) (fun hG => ?_)
  · skip
    refine r_aload_n (pc := 18) X dX9_sun_18 rfl rfl ?_
    refine r_getI (pc := 19) X (at_X9_o Hb0) rfl mU_X9 (k := 10) (by decide) rfl mF_X9_201 dX9_sun_19 hG (fun z8 hG => ?_)
    refine r_istore_n (pc := 22) (L' := [some (.ref (ad 100)), some (.ref (ad b1)), some (.int z8)]) X dX9_sun_22 rfl (by decide) rfl rfl ?_
    refine r_mask [true, true, true] rfl (r_loop (fun q9 => ∀ (y11 : Int32) (h12 : Hp), q9 = (y11.toInt, h12) → Ev E ad shl p l e rm_X9_sun s m args below meth c 0 0 Q 3 h12 23 [some (.ref (ad 100)), some (.ref (ad b1)), some (.int y11)] []) (fun l10 Hl10 q9 hG => ?_) FU _ hG z8 h rfl)
    intro y11 h12 ha; have ha := ha.symm; subst ha
    unfold g_X9_sun_l10 at hG
    refine r_iload_n (pc := 23) X dX9_sun_23 rfl rfl ?_
    refine r_aload_n (pc := 24) X dX9_sun_24 rfl rfl ?_
    refine r_getI (pc := 25) X (at_X9_o Hb0) rfl mU_X9 (k := 10) (by decide) rfl mF_X9_201 dX9_sun_25 hG (fun z13 hG => ?_)
    refine r_aload_n (pc := 28) X dX9_sun_28 rfl rfl ?_
    refine r_getI (pc := 29) X (at_X9_o Hb0) rfl mU_X9 (k := 11) (by decide) rfl mF_X9_204 dX9_sun_29 hG (fun z14 hG => ?_)
    refine r_imul (pc := 32) X dX9_sun_32 hG (fun z15 hG => ?_)
    refine r_icmp_ge (pc := 33) X dX9_sun_33 (tgt := 74) (by decide) hG (fun hG => ?_) (fun hG => ?_)
    · skip
      exact r_vret (pc := 74) X dX9_sun_74 hQ hG
    · skip
      refine r_aload_n (pc := 36) X dX9_sun_36 rfl rfl ?_
      refine r_bipush (pc := 37) X dX9_sun_37 hG (by decide) (fun z16 hG => ?_)
      refine r_iload_n (pc := 39) X dX9_sun_39 rfl rfl ?_
      refine r_iadd (pc := 40) X dX9_sun_40 hG (fun z17 hG => ?_)
      refine r_iconst (pc := 41) X dX9_sun_41 hG rfl (fun z18 hG => ?_)
      refine r_aload_n (pc := 42) X dX9_sun_42 rfl rfl ?_
      refine r_bipush (pc := 43) X dX9_sun_43 hG (by decide) (fun z19 hG => ?_)
      refine r_iload_n (pc := 45) X dX9_sun_45 rfl rfl ?_
      refine r_iadd (pc := 46) X dX9_sun_46 hG (fun z20 hG => ?_)
      refine r_iald (pc := 47) X Hb1 dX9_sun_47 hG (fun z21 hG => ?_)
      refine r_aload_n (pc := 48) X dX9_sun_48 rfl rfl ?_
      refine r_iconst (pc := 49) X dX9_sun_49 hG rfl (fun z22 hG => ?_)
      refine r_iload_n (pc := 50) X dX9_sun_50 rfl rfl ?_
      refine r_iadd (pc := 51) X dX9_sun_51 hG (fun z23 hG => ?_)
      refine r_iald (pc := 52) X Hb1 dX9_sun_52 hG (fun z24 hG => ?_)
      refine r_bipush (pc := 53) X dX9_sun_53 hG (by decide) (fun z25 hG => ?_)
      refine r_join hG (fun a26 => ∀ (y28 : Int32), a26 = y28.toInt → Ev E ad shl p l e rm_X9_sun s m args below meth c 0 0 Q 3 h12 63 [some (.ref (ad 100)), some (.ref (ad b1)), some (.int y11)] [.int y28, .int z21, .int z18, .int z17, .ref (ad b1)]) (fun a26 hG => ?_) (fun j27 Hj27 hG => ?_)
      · skip
        intro y28 ha; have ha := ha.symm; subst ha
        refine r_isub (pc := 63) X dX9_sun_63 hG (fun z29 hG => ?_)
        refine r_mmax (pc := 64) X dX9_sun_64 mM_X9_359 (Nat.le_of_ble_eq_true rfl) (Nat.le_of_ble_eq_true rfl) (Nat.le_of_ble_eq_true rfl) (Nat.le_of_ble_eq_true rfl) hG (fun z30 hG => ?_)
        refine r_iast (pc := 67) X Hb1 dX9_sun_67 hG (fun h31 hG => ?_)
        refine r_iinc (pc := 68) (L' := fun z32 => [some (.ref (ad 100)), some (.ref (ad b1)), some (.int z32)]) X dX9_sun_68 (by decide) rfl rfl (by decide) (fun _ => rfl) hG (fun z32 hG => ?_)
        refine r_goto (pc := 71) X dX9_sun_71 (tgt := 23) (by decide) ?_
        exact r_mask [true, true, true] rfl (Hl10 _ hG z32 h31 rfl)
      refine r_icmp_lt (pc := 55) X dX9_sun_55 (tgt := 62) (by decide) hG (fun hG => ?_) (fun hG => ?_)
      · skip
        refine r_iconst (pc := 62) X dX9_sun_62 hG rfl (fun z33 hG => ?_)
        exact r_mask [true, true, true] rfl (Hj27 _ hG z33 rfl)
      · skip
        refine r_iconst (pc := 58) X dX9_sun_58 hG rfl (fun z34 hG => ?_)
        refine r_goto (pc := 59) X dX9_sun_59 (tgt := 63) (by decide) ?_
        exact r_mask [true, true, true] rfl (Hj27 _ hG z34 rfl)
  · skip
    exact r_vret (pc := 17) X dX9_sun_17 hQ hG
theorem c_X9_sun {b1 : Nat} {r : Hp} (Hb0 : At_X9 shl) (Hb1 : shl[b1]? = some (.inr (0, 289, []))) (hg : g_X9_sun b1 h = some r) : Met l yX9_sun (wsM yX9_sun cX9_sun 3 none) rm_X9_sun (va_Pc [.ref (ad 100), .ref (ad b1)] (World E ad shl h)) (QcV E ad shl r) 0 0 (bsA E) :=
  met_of (L0 := [some (.ref (ad 100)), some (.ref (ad b1)), none]) rfl rfl rfl (Nat.le_of_ble_eq_true rfl) (fun _ _ _ _ _ _ _ X => w_X9_sun Hb0 Hb1 X rfl hg)
abbrev rm_X9_lowestBeside : Room := { frames := 0, cells := 0, slots := 0, locals := 0 }
theorem hdd_X9_lowestBeside : yX9_lowestBeside.cls = RX9 ∧ yX9_lowestBeside.cls ≠ "java/lang/invoke/MethodHandle" ∧ yX9_lowestBeside.cls ≠ "java/lang/invoke/VarHandle" ∧ (parseMethodDescriptor yX9_lowestBeside.desc).map (fun d => d.parameters.length) = some 2 := ⟨rfl, by decide +kernel, by decide +kernel, by decide +kernel⟩
set_option maxRecDepth 100000 in
set_option maxHeartbeats 4000000 in
theorem w_X9_lowestBeside {b1 : Nat} {x2 : Int32} {r : Int} (Hb0 : At_X9 shl) (Hb1 : shl[b1]? = some (.inr (0, 289, []))) (X : Cx E p s m args meth c cX9_lowestBeside RX9 7 (some .int)) (hQ : Q = MQ below (QcI E ad shl r h) args s 0 0 (bsA E)) (hG : g_X9_lowestBeside b1 x2.toInt h = some r) : Ev E ad shl p l e rm_X9_lowestBeside s m args below meth c 0 0 Q 7 h 0 [some (.ref (ad 100)), some (.ref (ad b1)), some (.int x2), none, none, none, none] [] := by
  unfold g_X9_lowestBeside at hG
  refine r_iload_n (pc := 0) X dX9_lowestBeside_0 rfl rfl ?_
  refine r_aload_n (pc := 1) X dX9_lowestBeside_1 rfl rfl ?_
  refine r_getI (pc := 2) X (at_X9_o Hb0) rfl mU_X9 (k := 10) (by decide) rfl mF_X9_201 dX9_lowestBeside_2 hG (fun z1 hG => ?_)
  refine r_irem (pc := 5) X dX9_lowestBeside_5 hG (fun z2 hG => ?_)
  refine r_istore_n (pc := 6) (L' := [some (.ref (ad 100)), some (.ref (ad b1)), some (.int x2), some (.int z2), none, none, none]) X dX9_lowestBeside_6 rfl (by decide) rfl rfl ?_
  refine r_iconst (pc := 7) X dX9_lowestBeside_7 hG rfl (fun z3 hG => ?_)
  refine r_istore (pc := 8) (L' := [some (.ref (ad 100)), some (.ref (ad b1)), some (.int x2), some (.int z2), some (.int z3), none, none]) X dX9_lowestBeside_8 (by decide) rfl rfl ?_
  refine r_iconst (pc := 10) X dX9_lowestBeside_10 hG rfl (fun z4 hG => ?_)
  refine r_istore (pc := 11) (L' := [some (.ref (ad 100)), some (.ref (ad b1)), some (.int x2), some (.int z2), some (.int z3), some (.int z4), none]) X dX9_lowestBeside_11 (by decide) rfl rfl ?_
  refine r_mask [true, true, true, true, true, true, false] rfl (r_loop (fun q5 => ∀ (y7 : Int32) (y8 : Int32), q5 = (y7.toInt, y8.toInt) → Ev E ad shl p l e rm_X9_lowestBeside s m args below meth c 0 0 Q 7 h 13 [some (.ref (ad 100)), some (.ref (ad b1)), some (.int x2), some (.int z2), some (.int y7), some (.int y8), none] []) (fun l6 Hl6 q5 hG => ?_) FU _ hG z3 z4 rfl)
  intro y7 y8 ha; have ha := ha.symm; subst ha
  unfold g_X9_lowestBeside_l6 at hG
  refine r_iload (pc := 13) X dX9_lowestBeside_13 rfl ?_
  refine r_iconst (pc := 15) X dX9_lowestBeside_15 hG rfl (fun z9 hG => ?_)
  refine r_icmp_ge (pc := 16) X dX9_lowestBeside_16 (tgt := 152) (by decide) hG (fun hG => ?_) (fun hG => ?_)
  · skip
    refine r_iload (pc := 152) X dX9_lowestBeside_152 rfl ?_
    exact r_iretP (pc := 154) X dX9_lowestBeside_154 hQ hG
  · skip
    refine r_iload (pc := 19) X dX9_lowestBeside_19 rfl ?_
    refine r_join hG (fun a10 => ∀ (y12 : Int32), a10 = y12.toInt → Ev E ad shl p l e rm_X9_lowestBeside s m args below meth c 0 0 Q 7 h 85 [some (.ref (ad 100)), some (.ref (ad b1)), some (.int x2), some (.int z2), some (.int y7), some (.int y8), none] [.int y12]) (fun a10 hG => ?_) (fun j11 Hj11 hG => ?_)
    · skip
      intro y12 ha; have ha := ha.symm; subst ha
      refine r_istore (pc := 85) (L' := [some (.ref (ad 100)), some (.ref (ad b1)), some (.int x2), some (.int z2), some (.int y7), some (.int y8), some (.int y12)]) X dX9_lowestBeside_85 (by decide) rfl rfl ?_
      refine r_iload (pc := 87) X dX9_lowestBeside_87 rfl ?_
      refine r_join hG (fun a13 => ∀ (y15 : Int32), a13 = y15.toInt → Ev E ad shl p l e rm_X9_lowestBeside s m args below meth c 0 0 Q 7 h 146 [some (.ref (ad 100)), some (.ref (ad b1)), some (.int x2), some (.int z2), some (.int y15), some (.int y8), none] []) (fun a13 hG => ?_) (fun j14 Hj14 hG => ?_)
      · skip
        intro y15 ha; have ha := ha.symm; subst ha
        refine r_iinc (pc := 146) (L' := fun z16 => [some (.ref (ad 100)), some (.ref (ad b1)), some (.int x2), some (.int z2), some (.int y15), some (.int z16), none]) X dX9_lowestBeside_146 (by decide) rfl rfl (by decide) (fun _ => rfl) hG (fun z16 hG => ?_)
        refine r_goto (pc := 149) X dX9_lowestBeside_149 (tgt := 13) (by decide) ?_
        exact r_mask [true, true, true, true, true, true, false] rfl (Hl6 _ hG y15 z16 rfl)
      refine r_if_lt (pc := 89) X dX9_lowestBeside_89 (tgt := 146) (by decide) hG (fun hG => ?_) (fun hG => ?_)
      · skip
        exact r_mask [true, true, true, true, true, true, false] rfl (Hj14 _ hG y7 rfl)
      · skip
        refine r_iload (pc := 92) X dX9_lowestBeside_92 rfl ?_
        refine r_aload_n (pc := 94) X dX9_lowestBeside_94 rfl rfl ?_
        refine r_getI (pc := 95) X (at_X9_o Hb0) rfl mU_X9 (k := 10) (by decide) rfl mF_X9_201 dX9_lowestBeside_95 hG (fun z17 hG => ?_)
        refine r_aload_n (pc := 98) X dX9_lowestBeside_98 rfl rfl ?_
        refine r_getI (pc := 99) X (at_X9_o Hb0) rfl mU_X9 (k := 11) (by decide) rfl mF_X9_204 dX9_lowestBeside_99 hG (fun z18 hG => ?_)
        refine r_imul (pc := 102) X dX9_lowestBeside_102 hG (fun z19 hG => ?_)
        refine r_icmp_ge (pc := 103) X dX9_lowestBeside_103 (tgt := 146) (by decide) hG (fun hG => ?_) (fun hG => ?_)
        · skip
          exact r_mask [true, true, true, true, true, true, false] rfl (Hj14 _ hG y7 rfl)
        · skip
          refine r_aload_n (pc := 106) X dX9_lowestBeside_106 rfl rfl ?_
          refine r_sipush (pc := 107) X dX9_lowestBeside_107 hG (by decide) (fun z20 hG => ?_)
          refine r_iload (pc := 110) X dX9_lowestBeside_110 rfl ?_
          refine r_iadd (pc := 112) X dX9_lowestBeside_112 hG (fun z21 hG => ?_)
          refine r_iald (pc := 113) X Hb1 dX9_lowestBeside_113 hG (fun z22 hG => ?_)
          refine r_iconst (pc := 114) X dX9_lowestBeside_114 hG rfl (fun z23 hG => ?_)
          refine r_icmp_ne (pc := 115) X dX9_lowestBeside_115 (tgt := 121) (by decide) hG (fun hG => ?_) (fun hG => ?_)
          · skip
            refine r_iload (pc := 121) X dX9_lowestBeside_121 rfl ?_
            refine r_iconst (pc := 123) X dX9_lowestBeside_123 hG rfl (fun z24 hG => ?_)
            refine r_join hG (fun _ => Ev E ad shl p l e rm_X9_lowestBeside s m args below meth c 0 0 Q 7 h 142 [some (.ref (ad 100)), some (.ref (ad b1)), some (.int x2), some (.int z2), none, some (.int y8), some (.int y12)] []) (fun a25 hG => ?_) (fun j26 Hj26 hG => ?_)
            · skip
              refine r_iload (pc := 142) X dX9_lowestBeside_142 rfl ?_
              refine r_istore (pc := 144) (L' := [some (.ref (ad 100)), some (.ref (ad b1)), some (.int x2), some (.int z2), some (.int y12), some (.int y8), some (.int y12)]) X dX9_lowestBeside_144 (by decide) rfl rfl ?_
              exact r_mask [true, true, true, true, true, true, false] rfl (Hj14 _ hG y12 rfl)
            refine r_icmp_eq (pc := 124) X dX9_lowestBeside_124 (tgt := 142) (by decide) hG (fun hG => ?_) (fun hG => ?_)
            · skip
              exact r_mask [true, true, true, true, false, true, true] rfl (Hj26 _ hG)
            · skip
              refine r_aload_n (pc := 127) X dX9_lowestBeside_127 rfl rfl ?_
              refine r_iconst (pc := 128) X dX9_lowestBeside_128 hG rfl (fun z27 hG => ?_)
              refine r_iload (pc := 129) X dX9_lowestBeside_129 rfl ?_
              refine r_iadd (pc := 131) X dX9_lowestBeside_131 hG (fun z28 hG => ?_)
              refine r_iald (pc := 132) X Hb1 dX9_lowestBeside_132 hG (fun z29 hG => ?_)
              refine r_aload_n (pc := 133) X dX9_lowestBeside_133 rfl rfl ?_
              refine r_iconst (pc := 134) X dX9_lowestBeside_134 hG rfl (fun z30 hG => ?_)
              refine r_iload (pc := 135) X dX9_lowestBeside_135 rfl ?_
              refine r_iadd (pc := 137) X dX9_lowestBeside_137 hG (fun z31 hG => ?_)
              refine r_iald (pc := 138) X Hb1 dX9_lowestBeside_138 hG (fun z32 hG => ?_)
              refine r_icmp_ge (pc := 139) X dX9_lowestBeside_139 (tgt := 146) (by decide) hG (fun hG => ?_) (fun hG => ?_)
              · skip
                exact r_mask [true, true, true, true, true, true, false] rfl (Hj14 _ hG y7 rfl)
              · skip
                exact r_mask [true, true, true, true, false, true, true] rfl (Hj26 _ hG)
          · skip
            refine r_goto (pc := 118) X dX9_lowestBeside_118 (tgt := 146) (by decide) ?_
            exact r_mask [true, true, true, true, true, true, false] rfl (Hj14 _ hG y7 rfl)
    refine r_if_ne (pc := 21) X dX9_lowestBeside_21 (tgt := 33) (by decide) hG (fun hG => ?_) (fun hG => ?_)
    · skip
      refine r_iload (pc := 33) X dX9_lowestBeside_33 rfl ?_
      refine r_iconst (pc := 35) X dX9_lowestBeside_35 hG rfl (fun z33 hG => ?_)
      refine r_icmp_ne (pc := 36) X dX9_lowestBeside_36 (tgt := 53) (by decide) hG (fun hG => ?_) (fun hG => ?_)
      · skip
        refine r_iload (pc := 53) X dX9_lowestBeside_53 rfl ?_
        refine r_iconst (pc := 55) X dX9_lowestBeside_55 hG rfl (fun z34 hG => ?_)
        refine r_icmp_ne (pc := 56) X dX9_lowestBeside_56 (tgt := 79) (by decide) hG (fun hG => ?_) (fun hG => ?_)
        · skip
          refine r_iload_n (pc := 79) X dX9_lowestBeside_79 rfl rfl ?_
          refine r_aload_n (pc := 80) X dX9_lowestBeside_80 rfl rfl ?_
          refine r_getI (pc := 81) X (at_X9_o Hb0) rfl mU_X9 (k := 10) (by decide) rfl mF_X9_201 dX9_lowestBeside_81 hG (fun z35 hG => ?_)
          refine r_iadd (pc := 84) X dX9_lowestBeside_84 hG (fun z36 hG => ?_)
          exact r_mask [true, true, true, true, true, true, false] rfl (Hj11 _ hG z36 rfl)
        · skip
          refine r_iload_n (pc := 59) X dX9_lowestBeside_59 rfl rfl ?_
          refine r_iconst (pc := 60) X dX9_lowestBeside_60 hG rfl (fun z37 hG => ?_)
          refine r_iadd (pc := 61) X dX9_lowestBeside_61 hG (fun z38 hG => ?_)
          refine r_aload_n (pc := 62) X dX9_lowestBeside_62 rfl rfl ?_
          refine r_getI (pc := 63) X (at_X9_o Hb0) rfl mU_X9 (k := 10) (by decide) rfl mF_X9_201 dX9_lowestBeside_63 hG (fun z39 hG => ?_)
          refine r_icmp_ge (pc := 66) X dX9_lowestBeside_66 (tgt := 75) (by decide) hG (fun hG => ?_) (fun hG => ?_)
          · skip
            refine r_iconst (pc := 75) X dX9_lowestBeside_75 hG rfl (fun z40 hG => ?_)
            refine r_goto (pc := 76) X dX9_lowestBeside_76 (tgt := 85) (by decide) ?_
            exact r_mask [true, true, true, true, true, true, false] rfl (Hj11 _ hG z40 rfl)
          · skip
            refine r_iload_n (pc := 69) X dX9_lowestBeside_69 rfl rfl ?_
            refine r_iconst (pc := 70) X dX9_lowestBeside_70 hG rfl (fun z41 hG => ?_)
            refine r_iadd (pc := 71) X dX9_lowestBeside_71 hG (fun z42 hG => ?_)
            refine r_goto (pc := 72) X dX9_lowestBeside_72 (tgt := 85) (by decide) ?_
            exact r_mask [true, true, true, true, true, true, false] rfl (Hj11 _ hG z42 rfl)
      · skip
        refine r_iload_n (pc := 39) X dX9_lowestBeside_39 rfl rfl ?_
        refine r_if_le (pc := 40) X dX9_lowestBeside_40 (tgt := 49) (by decide) hG (fun hG => ?_) (fun hG => ?_)
        · skip
          refine r_iconst (pc := 49) X dX9_lowestBeside_49 hG rfl (fun z43 hG => ?_)
          refine r_goto (pc := 50) X dX9_lowestBeside_50 (tgt := 85) (by decide) ?_
          exact r_mask [true, true, true, true, true, true, false] rfl (Hj11 _ hG z43 rfl)
        · skip
          refine r_iload_n (pc := 43) X dX9_lowestBeside_43 rfl rfl ?_
          refine r_iconst (pc := 44) X dX9_lowestBeside_44 hG rfl (fun z44 hG => ?_)
          refine r_isub (pc := 45) X dX9_lowestBeside_45 hG (fun z45 hG => ?_)
          refine r_goto (pc := 46) X dX9_lowestBeside_46 (tgt := 85) (by decide) ?_
          exact r_mask [true, true, true, true, true, true, false] rfl (Hj11 _ hG z45 rfl)
    · skip
      refine r_iload_n (pc := 24) X dX9_lowestBeside_24 rfl rfl ?_
      refine r_aload_n (pc := 25) X dX9_lowestBeside_25 rfl rfl ?_
      refine r_getI (pc := 26) X (at_X9_o Hb0) rfl mU_X9 (k := 10) (by decide) rfl mF_X9_201 dX9_lowestBeside_26 hG (fun z46 hG => ?_)
      refine r_isub (pc := 29) X dX9_lowestBeside_29 hG (fun z47 hG => ?_)
      refine r_goto (pc := 30) X dX9_lowestBeside_30 (tgt := 85) (by decide) ?_
      exact r_mask [true, true, true, true, true, true, false] rfl (Hj11 _ hG z47 rfl)
theorem c_X9_lowestBeside {b1 : Nat} {x2 : Int32} {r : Int} (Hb0 : At_X9 shl) (Hb1 : shl[b1]? = some (.inr (0, 289, []))) (hg : g_X9_lowestBeside b1 x2.toInt h = some r) : Met l yX9_lowestBeside (wsM yX9_lowestBeside cX9_lowestBeside 7 (some .int)) rm_X9_lowestBeside (va_Pc [.ref (ad 100), .ref (ad b1), .int x2] (World E ad shl h)) (QcI E ad shl r h) 0 0 (bsA E) :=
  met_of (L0 := [some (.ref (ad 100)), some (.ref (ad b1)), some (.int x2), none, none, none, none]) rfl rfl rfl (Nat.le_of_ble_eq_true rfl) (fun _ _ _ _ _ _ _ X => w_X9_lowestBeside Hb0 Hb1 X rfl hg)
abbrev rm_X9_slides : Room := { frames := 3, cells := 0, slots := 0, locals := 64 }
theorem hdd_X9_slides : yX9_slides.cls = RX9 ∧ yX9_slides.cls ≠ "java/lang/invoke/MethodHandle" ∧ yX9_slides.cls ≠ "java/lang/invoke/VarHandle" ∧ (parseMethodDescriptor yX9_slides.desc).map (fun d => d.parameters.length) = some 1 := ⟨rfl, by decide +kernel, by decide +kernel, by decide +kernel⟩
set_option maxRecDepth 100000 in
set_option maxHeartbeats 4000000 in
theorem w_X9_slides {b1 : Nat} {r : Hp} (Hb0 : At_X9 shl) (Hb1 : shl[b1]? = some (.inr (0, 289, []))) (X : Cx E p s m args meth c cX9_slides RX9 7 none) (hQ : Q = MQ below (QcV E ad shl r) args s 0 0 (bsA E)) (hG : g_X9_slides b1 h = some r) : Ev E ad shl p l e rm_X9_slides s m args below meth c 0 0 Q 7 h 0 [some (.ref (ad 100)), some (.ref (ad b1)), none, none, none, none, none] [] := by
  unfold g_X9_slides at hG
  refine r_aload_n (pc := 0) X dX9_slides_0 rfl rfl ?_
  refine r_sipush (pc := 1) X dX9_slides_1 hG (by decide) (fun z1 hG => ?_)
  refine r_iconst (pc := 4) X dX9_slides_4 hG rfl (fun z2 hG => ?_)
  refine r_iast (pc := 5) X Hb1 dX9_slides_5 hG (fun h3 hG => ?_)
  refine r_aload_n (pc := 6) X dX9_slides_6 rfl rfl ?_
  refine r_sipush (pc := 7) X dX9_slides_7 hG (by decide) (fun z4 hG => ?_)
  refine r_iconst (pc := 10) X dX9_slides_10 hG rfl (fun z5 hG => ?_)
  refine r_iast (pc := 11) X Hb1 dX9_slides_11 hG (fun h6 hG => ?_)
  refine r_iconst (pc := 12) X dX9_slides_12 hG rfl (fun z7 hG => ?_)
  refine r_istore_n (pc := 13) (L' := [some (.ref (ad 100)), some (.ref (ad b1)), some (.int z7), none, none, none, none]) X dX9_slides_13 rfl (by decide) rfl rfl ?_
  refine r_iconst (pc := 14) X dX9_slides_14 hG rfl (fun z8 hG => ?_)
  refine r_istore_n (pc := 15) (L' := [some (.ref (ad 100)), some (.ref (ad b1)), some (.int z7), some (.int z8), none, none, none]) X dX9_slides_15 rfl (by decide) rfl rfl ?_
  refine r_join hG (fun a9 => ∀ (h11 : Hp), a9 = h11 → Ev E ad shl p l e rm_X9_slides s m args below meth c 0 0 Q 7 h11 181 [none, some (.ref (ad b1)), none, none, none, none, none] []) (fun a9 hG => ?_) (fun j10 Hj10 hG => ?_)
  · skip
    intro h11 ha; have ha := ha.symm; subst ha
    refine r_aload_n (pc := 181) X dX9_slides_181 rfl rfl ?_
    refine r_sipush (pc := 182) X dX9_slides_182 hG (by decide) (fun z12 hG => ?_)
    refine r_dup2 (pc := 185) X dX9_slides_185 rfl rfl ?_
    refine r_iald (pc := 186) X Hb1 dX9_slides_186 hG (fun z13 hG => ?_)
    refine r_aload_n (pc := 187) X dX9_slides_187 rfl rfl ?_
    refine r_sipush (pc := 188) X dX9_slides_188 hG (by decide) (fun z14 hG => ?_)
    refine r_iald (pc := 191) X Hb1 dX9_slides_191 hG (fun z15 hG => ?_)
    refine r_iadd (pc := 192) X dX9_slides_192 hG (fun z16 hG => ?_)
    refine r_iast (pc := 193) X Hb1 dX9_slides_193 hG (fun h17 hG => ?_)
    exact r_vret (pc := 194) X dX9_slides_194 hQ hG
  refine r_mask [true, true, true, true, false, false, false] rfl (r_loop (fun q18 => ∀ (y20 : Int32) (y21 : Int32) (h22 : Hp), q18 = (y20.toInt, y21.toInt, h22) → Ev E ad shl p l e rm_X9_slides s m args below meth c 0 0 Q 7 h22 16 [some (.ref (ad 100)), some (.ref (ad b1)), some (.int y20), some (.int y21), none, none, none] []) (fun l19 Hl19 q18 hG => ?_) FU _ hG z7 z8 h6 rfl)
  intro y20 y21 h22 ha; have ha := ha.symm; subst ha
  unfold g_X9_slides_l19 at hG
  refine r_iload_n (pc := 16) X dX9_slides_16 rfl rfl ?_
  refine r_bipush (pc := 17) X dX9_slides_17 hG (by decide) (fun z23 hG => ?_)
  refine r_icmp_ge (pc := 19) X dX9_slides_19 (tgt := 181) (by decide) hG (fun hG => ?_) (fun hG => ?_)
  · skip
    exact r_mask [false, true, false, false, false, false, false] rfl (Hj10 _ hG h22 rfl)
  · skip
    refine r_iload_n (pc := 22) X dX9_slides_22 rfl rfl ?_
    refine r_if_eq (pc := 23) X dX9_slides_23 (tgt := 181) (by decide) hG (fun hG => ?_) (fun hG => ?_)
    · skip
      exact r_mask [false, true, false, false, false, false, false] rfl (Hj10 _ hG h22 rfl)
    · skip
      refine r_aload_n (pc := 26) X dX9_slides_26 rfl rfl ?_
      refine r_sipush (pc := 27) X dX9_slides_27 hG (by decide) (fun z24 hG => ?_)
      refine r_iald (pc := 30) X Hb1 dX9_slides_30 hG (fun z25 hG => ?_)
      refine r_istore (pc := 31) (L' := [some (.ref (ad 100)), some (.ref (ad b1)), some (.int y20), some (.int y21), some (.int z25), none, none]) X dX9_slides_31 (by decide) rfl rfl ?_
      refine r_iconst (pc := 33) X dX9_slides_33 hG rfl (fun z26 hG => ?_)
      refine r_istore (pc := 34) (L' := [some (.ref (ad 100)), some (.ref (ad b1)), some (.int y20), some (.int y21), some (.int z25), some (.int z26), none]) X dX9_slides_34 (by decide) rfl rfl ?_
      refine r_join hG (fun a27 => ∀ (h29 : Hp), a27 = h29 → Ev E ad shl p l e rm_X9_slides s m args below meth c 0 0 Q 7 h29 142 [some (.ref (ad 100)), some (.ref (ad b1)), none, some (.int y21), some (.int z25), none, none] []) (fun a27 hG => ?_) (fun j28 Hj28 hG => ?_)
      · skip
        intro h29 ha; have ha := ha.symm; subst ha
        refine r_aload_n (pc := 142) X dX9_slides_142 rfl rfl ?_
        refine r_sipush (pc := 143) X dX9_slides_143 hG (by decide) (fun z30 hG => ?_)
        refine r_iald (pc := 146) X Hb1 dX9_slides_146 hG (fun z31 hG => ?_)
        refine r_iload (pc := 147) X dX9_slides_147 rfl ?_
        refine r_join hG (fun a32 => ∀ (y34 : Int32), a32 = y34.toInt → Ev E ad shl p l e rm_X9_slides s m args below meth c 0 0 Q 7 h29 157 [some (.ref (ad 100)), some (.ref (ad b1)), none, some (.int y21), none, none, none] [.int y34]) (fun a32 hG => ?_) (fun j33 Hj33 hG => ?_)
        · skip
          intro y34 ha; have ha := ha.symm; subst ha
          refine r_istore_n (pc := 157) (L' := [some (.ref (ad 100)), some (.ref (ad b1)), some (.int y34), some (.int y21), none, none, none]) X dX9_slides_157 rfl (by decide) rfl rfl ?_
          refine r_aload_n (pc := 158) X dX9_slides_158 rfl rfl ?_
          refine r_sipush (pc := 159) X dX9_slides_159 hG (by decide) (fun z35 hG => ?_)
          refine r_dup2 (pc := 162) X dX9_slides_162 rfl rfl ?_
          refine r_iald (pc := 163) X Hb1 dX9_slides_163 hG (fun z36 hG => ?_)
          refine r_iload_n (pc := 164) X dX9_slides_164 rfl rfl ?_
          refine r_join hG (fun a37 => ∀ (y39 : Int32), a37 = y39.toInt → Ev E ad shl p l e rm_X9_slides s m args below meth c 0 0 Q 7 h29 173 [some (.ref (ad 100)), some (.ref (ad b1)), some (.int y34), some (.int y21), none, none, none] [.int y39, .int z36, .int z35, .ref (ad b1)]) (fun a37 hG => ?_) (fun j38 Hj38 hG => ?_)
          · skip
            intro y39 ha; have ha := ha.symm; subst ha
            refine r_iadd (pc := 173) X dX9_slides_173 hG (fun z40 hG => ?_)
            refine r_iast (pc := 174) X Hb1 dX9_slides_174 hG (fun h41 hG => ?_)
            refine r_iinc (pc := 175) (L' := fun z42 => [some (.ref (ad 100)), some (.ref (ad b1)), some (.int y34), some (.int z42), none, none, none]) X dX9_slides_175 (by decide) rfl rfl (by decide) (fun _ => rfl) hG (fun z42 hG => ?_)
            refine r_goto (pc := 178) X dX9_slides_178 (tgt := 16) (by decide) ?_
            exact r_mask [true, true, true, true, false, false, false] rfl (Hl19 _ hG y34 z42 h41 rfl)
          refine r_if_eq (pc := 165) X dX9_slides_165 (tgt := 172) (by decide) hG (fun hG => ?_) (fun hG => ?_)
          · skip
            refine r_iconst (pc := 172) X dX9_slides_172 hG rfl (fun z43 hG => ?_)
            exact r_mask [true, true, true, true, false, false, false] rfl (Hj38 _ hG z43 rfl)
          · skip
            refine r_iconst (pc := 168) X dX9_slides_168 hG rfl (fun z44 hG => ?_)
            refine r_goto (pc := 169) X dX9_slides_169 (tgt := 173) (by decide) ?_
            exact r_mask [true, true, true, true, false, false, false] rfl (Hj38 _ hG z44 rfl)
        refine r_icmp_le (pc := 149) X dX9_slides_149 (tgt := 156) (by decide) hG (fun hG => ?_) (fun hG => ?_)
        · skip
          refine r_iconst (pc := 156) X dX9_slides_156 hG rfl (fun z45 hG => ?_)
          exact r_mask [true, true, false, true, false, false, false] rfl (Hj33 _ hG z45 rfl)
        · skip
          refine r_iconst (pc := 152) X dX9_slides_152 hG rfl (fun z46 hG => ?_)
          refine r_goto (pc := 153) X dX9_slides_153 (tgt := 157) (by decide) ?_
          exact r_mask [true, true, false, true, false, false, false] rfl (Hj33 _ hG z46 rfl)
      refine r_mask [true, true, false, true, true, true, false] rfl (r_loop (fun q47 => ∀ (y49 : Int32) (h50 : Hp), q47 = (y49.toInt, h50) → Ev E ad shl p l e rm_X9_slides s m args below meth c 0 0 Q 7 h50 36 [some (.ref (ad 100)), some (.ref (ad b1)), none, some (.int y21), some (.int z25), some (.int y49), none] []) (fun l48 Hl48 q47 hG => ?_) FU _ hG z26 h22 rfl)
      intro y49 h50 ha; have ha := ha.symm; subst ha
      unfold g_X9_slides_l48 at hG
      refine r_iload (pc := 36) X dX9_slides_36 rfl ?_
      refine r_aload_n (pc := 38) X dX9_slides_38 rfl rfl ?_
      refine r_getI (pc := 39) X (at_X9_o Hb0) rfl mU_X9 (k := 10) (by decide) rfl mF_X9_201 dX9_slides_39 hG (fun z51 hG => ?_)
      refine r_aload_n (pc := 42) X dX9_slides_42 rfl rfl ?_
      refine r_getI (pc := 43) X (at_X9_o Hb0) rfl mU_X9 (k := 11) (by decide) rfl mF_X9_204 dX9_slides_43 hG (fun z52 hG => ?_)
      refine r_imul (pc := 46) X dX9_slides_46 hG (fun z53 hG => ?_)
      refine r_icmp_ge (pc := 47) X dX9_slides_47 (tgt := 142) (by decide) hG (fun hG => ?_) (fun hG => ?_)
      · skip
        exact r_mask [true, true, false, true, true, false, false] rfl (Hj28 _ hG h50 rfl)
      · skip
        refine r_aload_n (pc := 50) X dX9_slides_50 rfl rfl ?_
        refine r_sipush (pc := 51) X dX9_slides_51 hG (by decide) (fun z54 hG => ?_)
        refine r_iload (pc := 54) X dX9_slides_54 rfl ?_
        refine r_iadd (pc := 56) X dX9_slides_56 hG (fun z55 hG => ?_)
        refine r_iald (pc := 57) X Hb1 dX9_slides_57 hG (fun z56 hG => ?_)
        refine r_iconst (pc := 58) X dX9_slides_58 hG rfl (fun z57 hG => ?_)
        refine r_join hG (fun a58 => ∀ (h60 : Hp), a58 = h60 → Ev E ad shl p l e rm_X9_slides s m args below meth c 0 0 Q 7 h60 136 [some (.ref (ad 100)), some (.ref (ad b1)), none, some (.int y21), some (.int z25), some (.int y49), none] []) (fun a58 hG => ?_) (fun j59 Hj59 hG => ?_)
        · skip
          intro h60 ha; have ha := ha.symm; subst ha
          refine r_iinc (pc := 136) (L' := fun z61 => [some (.ref (ad 100)), some (.ref (ad b1)), none, some (.int y21), some (.int z25), some (.int z61), none]) X dX9_slides_136 (by decide) rfl rfl (by decide) (fun _ => rfl) hG (fun z61 hG => ?_)
          refine r_goto (pc := 139) X dX9_slides_139 (tgt := 36) (by decide) ?_
          exact r_mask [true, true, false, true, true, true, false] rfl (Hl48 _ hG z61 h60 rfl)
        refine r_icmp_ne (pc := 59) X dX9_slides_59 (tgt := 65) (by decide) hG (fun hG => ?_) (fun hG => ?_)
        · skip
          refine r_aload_n (pc := 65) X dX9_slides_65 rfl rfl ?_
          refine r_aload_n (pc := 66) X dX9_slides_66 rfl rfl ?_
          refine r_iload (pc := 67) X dX9_slides_67 rfl ?_
          refine r_cP (pc := 69) hG (fun _ hg => runV X dX9_slides_69 (c_X9_lowestBeside Hb0 Hb1 hg) mM_X9_392 mI_X9_lowestBeside mE_X9_lowestBeside mN_X9 mK_X9_lowestBeside (at_X9_o Hb0) rfl rfl rfl rfl hdd_X9_lowestBeside ⟨(Nat.le_of_ble_eq_true rfl), (Nat.le_of_ble_eq_true rfl)⟩ rfl rfl (Nat.le_of_ble_eq_true rfl) ⟨(Nat.le_of_ble_eq_true rfl), (Nat.le_of_ble_eq_true rfl)⟩) (fun z62 hG => ?_)
          refine r_istore (pc := 72) (L' := [some (.ref (ad 100)), some (.ref (ad b1)), none, some (.int y21), some (.int z25), some (.int y49), some (.int z62)]) X dX9_slides_72 (by decide) rfl rfl ?_
          refine r_iload (pc := 74) X dX9_slides_74 rfl ?_
          refine r_iconst (pc := 76) X dX9_slides_76 hG rfl (fun z63 hG => ?_)
          refine r_icmp_eq (pc := 77) X dX9_slides_77 (tgt := 136) (by decide) hG (fun hG => ?_) (fun hG => ?_)
          · skip
            exact r_mask [true, true, false, true, true, true, false] rfl (Hj59 _ hG h50 rfl)
          · skip
            refine r_aload_n (pc := 80) X dX9_slides_80 rfl rfl ?_
            refine r_iconst (pc := 81) X dX9_slides_81 hG rfl (fun z64 hG => ?_)
            refine r_iload (pc := 82) X dX9_slides_82 rfl ?_
            refine r_iadd (pc := 84) X dX9_slides_84 hG (fun z65 hG => ?_)
            refine r_iald (pc := 85) X Hb1 dX9_slides_85 hG (fun z66 hG => ?_)
            refine r_aload_n (pc := 86) X dX9_slides_86 rfl rfl ?_
            refine r_iconst (pc := 87) X dX9_slides_87 hG rfl (fun z67 hG => ?_)
            refine r_iload (pc := 88) X dX9_slides_88 rfl ?_
            refine r_iadd (pc := 90) X dX9_slides_90 hG (fun z68 hG => ?_)
            refine r_iald (pc := 91) X Hb1 dX9_slides_91 hG (fun z69 hG => ?_)
            refine r_isub (pc := 92) X dX9_slides_92 hG (fun z70 hG => ?_)
            refine r_aload_n (pc := 93) X dX9_slides_93 rfl rfl ?_
            refine r_aload_n (pc := 94) X dX9_slides_94 rfl rfl ?_
            refine r_bipush (pc := 95) X dX9_slides_95 hG (by decide) (fun z71 hG => ?_)
            refine r_iload (pc := 97) X dX9_slides_97 rfl ?_
            refine r_iadd (pc := 99) X dX9_slides_99 hG (fun z72 hG => ?_)
            refine r_iald (pc := 100) X Hb1 dX9_slides_100 hG (fun z73 hG => ?_)
            refine r_aload_n (pc := 101) X dX9_slides_101 rfl rfl ?_
            refine r_sipush (pc := 102) X dX9_slides_102 hG (by decide) (fun z74 hG => ?_)
            refine r_iload (pc := 105) X dX9_slides_105 rfl ?_
            refine r_iadd (pc := 107) X dX9_slides_107 hG (fun z75 hG => ?_)
            refine r_iald (pc := 108) X Hb1 dX9_slides_108 hG (fun z76 hG => ?_)
            refine r_cP (pc := 109) hG (fun _ hg => runV X dX9_slides_109 (c_X9_holdsOf Hb0 hg) mM_X9_395 mI_X9_holdsOf mE_X9_holdsOf mN_X9 mK_X9_holdsOf (at_X9_o Hb0) rfl rfl rfl rfl hdd_X9_holdsOf ⟨(Nat.le_of_ble_eq_true rfl), (Nat.le_of_ble_eq_true rfl)⟩ rfl rfl (Nat.le_of_ble_eq_true rfl) ⟨(Nat.le_of_ble_eq_true rfl), (Nat.le_of_ble_eq_true rfl)⟩) (fun z77 hG => ?_)
            refine r_icmp_gt (pc := 112) X dX9_slides_112 (tgt := 118) (by decide) hG (fun hG => ?_) (fun hG => ?_)
            · skip
              refine r_aload_n (pc := 118) X dX9_slides_118 rfl rfl ?_
              refine r_aload_n (pc := 119) X dX9_slides_119 rfl rfl ?_
              refine r_iload (pc := 120) X dX9_slides_120 rfl ?_
              refine r_iload (pc := 122) X dX9_slides_122 rfl ?_
              refine r_cV (pc := 124) hG (fun _ hg => runV X dX9_slides_124 (c_X9_unitGoes Hb0 Hb1 hg) mM_X9_366 mI_X9_unitGoes mE_X9_unitGoes mN_X9 mK_X9_unitGoes (at_X9_o Hb0) rfl rfl rfl rfl hdd_X9_unitGoes ⟨(Nat.le_of_ble_eq_true rfl), (Nat.le_of_ble_eq_true rfl)⟩ rfl rfl (Nat.le_of_ble_eq_true rfl) ⟨(Nat.le_of_ble_eq_true rfl), (Nat.le_of_ble_eq_true rfl)⟩) (fun h78 hG => ?_)
              refine r_aload_n (pc := 127) X dX9_slides_127 rfl rfl ?_
              refine r_sipush (pc := 128) X dX9_slides_128 hG (by decide) (fun z79 hG => ?_)
              refine r_dup2 (pc := 131) X dX9_slides_131 rfl rfl ?_
              refine r_iald (pc := 132) X Hb1 dX9_slides_132 hG (fun z80 hG => ?_)
              refine r_iconst (pc := 133) X dX9_slides_133 hG rfl (fun z81 hG => ?_)
              refine r_iadd (pc := 134) X dX9_slides_134 hG (fun z82 hG => ?_)
              refine r_iast (pc := 135) X Hb1 dX9_slides_135 hG (fun h83 hG => ?_)
              exact r_mask [true, true, false, true, true, true, false] rfl (Hj59 _ hG h83 rfl)
            · skip
              refine r_goto (pc := 115) X dX9_slides_115 (tgt := 136) (by decide) ?_
              exact r_mask [true, true, false, true, true, true, false] rfl (Hj59 _ hG h50 rfl)
        · skip
          refine r_goto (pc := 62) X dX9_slides_62 (tgt := 136) (by decide) ?_
          exact r_mask [true, true, false, true, true, true, false] rfl (Hj59 _ hG h50 rfl)
theorem c_X9_slides {b1 : Nat} {r : Hp} (Hb0 : At_X9 shl) (Hb1 : shl[b1]? = some (.inr (0, 289, []))) (hg : g_X9_slides b1 h = some r) : Met l yX9_slides (wsM yX9_slides cX9_slides 7 none) rm_X9_slides (va_Pc [.ref (ad 100), .ref (ad b1)] (World E ad shl h)) (QcV E ad shl r) 0 0 (bsA E) :=
  met_of (L0 := [some (.ref (ad 100)), some (.ref (ad b1)), none, none, none, none, none]) rfl rfl rfl (Nat.le_of_ble_eq_true rfl) (fun _ _ _ _ _ _ _ X => w_X9_slides Hb0 Hb1 X rfl hg)
abbrev rm_X9_flagsFall : Room := { frames := 0, cells := 0, slots := 0, locals := 0 }
theorem hdd_X9_flagsFall : yX9_flagsFall.cls = RX9 ∧ yX9_flagsFall.cls ≠ "java/lang/invoke/MethodHandle" ∧ yX9_flagsFall.cls ≠ "java/lang/invoke/VarHandle" ∧ (parseMethodDescriptor yX9_flagsFall.desc).map (fun d => d.parameters.length) = some 1 := ⟨rfl, by decide +kernel, by decide +kernel, by decide +kernel⟩
set_option maxRecDepth 100000 in
set_option maxHeartbeats 4000000 in
theorem w_X9_flagsFall {b1 : Nat} {r : Hp} (Hb0 : At_X9 shl) (Hb1 : shl[b1]? = some (.inr (0, 289, []))) (X : Cx E p s m args meth c cX9_flagsFall RX9 3 none) (hQ : Q = MQ below (QcV E ad shl r) args s 0 0 (bsA E)) (hG : g_X9_flagsFall b1 h = some r) : Ev E ad shl p l e rm_X9_flagsFall s m args below meth c 0 0 Q 3 h 0 [some (.ref (ad 100)), some (.ref (ad b1)), none] [] := by
  unfold g_X9_flagsFall at hG
  refine r_iconst (pc := 0) X dX9_flagsFall_0 hG rfl (fun z1 hG => ?_)
  refine r_istore_n (pc := 1) (L' := [some (.ref (ad 100)), some (.ref (ad b1)), some (.int z1)]) X dX9_flagsFall_1 rfl (by decide) rfl rfl ?_
  refine r_mask [true, true, true] rfl (r_loop (fun q2 => ∀ (y4 : Int32) (h5 : Hp), q2 = (y4.toInt, h5) → Ev E ad shl p l e rm_X9_flagsFall s m args below meth c 0 0 Q 3 h5 2 [some (.ref (ad 100)), some (.ref (ad b1)), some (.int y4)] []) (fun l3 Hl3 q2 hG => ?_) FU _ hG z1 h rfl)
  intro y4 h5 ha; have ha := ha.symm; subst ha
  unfold g_X9_flagsFall_l3 at hG
  refine r_iload_n (pc := 2) X dX9_flagsFall_2 rfl rfl ?_
  refine r_aload_n (pc := 3) X dX9_flagsFall_3 rfl rfl ?_
  refine r_sipush (pc := 4) X dX9_flagsFall_4 hG (by decide) (fun z6 hG => ?_)
  refine r_iald (pc := 7) X Hb1 dX9_flagsFall_7 hG (fun z7 hG => ?_)
  refine r_icmp_ge (pc := 8) X dX9_flagsFall_8 (tgt := 68) (by decide) hG (fun hG => ?_) (fun hG => ?_)
  · skip
    exact r_vret (pc := 68) X dX9_flagsFall_68 hQ hG
  · skip
    refine r_aload_n (pc := 11) X dX9_flagsFall_11 rfl rfl ?_
    refine r_sipush (pc := 12) X dX9_flagsFall_12 hG (by decide) (fun z8 hG => ?_)
    refine r_iload_n (pc := 15) X dX9_flagsFall_15 rfl rfl ?_
    refine r_iadd (pc := 16) X dX9_flagsFall_16 hG (fun z9 hG => ?_)
    refine r_iald (pc := 17) X Hb1 dX9_flagsFall_17 hG (fun z10 hG => ?_)
    refine r_iconst (pc := 18) X dX9_flagsFall_18 hG rfl (fun z11 hG => ?_)
    refine r_join hG (fun a12 => ∀ (h14 : Hp), a12 = h14 → Ev E ad shl p l e rm_X9_flagsFall s m args below meth c 0 0 Q 3 h14 62 [some (.ref (ad 100)), some (.ref (ad b1)), some (.int y4)] []) (fun a12 hG => ?_) (fun j13 Hj13 hG => ?_)
    · skip
      intro h14 ha; have ha := ha.symm; subst ha
      refine r_iinc (pc := 62) (L' := fun z15 => [some (.ref (ad 100)), some (.ref (ad b1)), some (.int z15)]) X dX9_flagsFall_62 (by decide) rfl rfl (by decide) (fun _ => rfl) hG (fun z15 hG => ?_)
      refine r_goto (pc := 65) X dX9_flagsFall_65 (tgt := 2) (by decide) ?_
      exact r_mask [true, true, true] rfl (Hl3 _ hG z15 h14 rfl)
    refine r_icmp_ne (pc := 19) X dX9_flagsFall_19 (tgt := 62) (by decide) hG (fun hG => ?_) (fun hG => ?_)
    · skip
      exact r_mask [true, true, true] rfl (Hj13 _ hG h5 rfl)
    · skip
      refine r_aload_n (pc := 22) X dX9_flagsFall_22 rfl rfl ?_
      refine r_iconst (pc := 23) X dX9_flagsFall_23 hG rfl (fun z16 hG => ?_)
      refine r_aload_n (pc := 24) X dX9_flagsFall_24 rfl rfl ?_
      refine r_sipush (pc := 25) X dX9_flagsFall_25 hG (by decide) (fun z17 hG => ?_)
      refine r_iload_n (pc := 28) X dX9_flagsFall_28 rfl rfl ?_
      refine r_iadd (pc := 29) X dX9_flagsFall_29 hG (fun z18 hG => ?_)
      refine r_iald (pc := 30) X Hb1 dX9_flagsFall_30 hG (fun z19 hG => ?_)
      refine r_iadd (pc := 31) X dX9_flagsFall_31 hG (fun z20 hG => ?_)
      refine r_iald (pc := 32) X Hb1 dX9_flagsFall_32 hG (fun z21 hG => ?_)
      refine r_aload_n (pc := 33) X dX9_flagsFall_33 rfl rfl ?_
      refine r_sipush (pc := 34) X dX9_flagsFall_34 hG (by decide) (fun z22 hG => ?_)
      refine r_iload_n (pc := 37) X dX9_flagsFall_37 rfl rfl ?_
      refine r_iadd (pc := 38) X dX9_flagsFall_38 hG (fun z23 hG => ?_)
      refine r_iald (pc := 39) X Hb1 dX9_flagsFall_39 hG (fun z24 hG => ?_)
      refine r_aload_n (pc := 40) X dX9_flagsFall_40 rfl rfl ?_
      refine r_getC (pc := 41) X (at_X9_o Hb0) rfl mU_X9 (k := 19) (by decide) (q := 102) rfl mF_X9_245 dX9_flagsFall_41 ?_
      refine r_iconst (pc := 44) X dX9_flagsFall_44 hG rfl (fun z25 hG => ?_)
      refine r_iald (pc := 45) X (at_X9_law Hb0) dX9_flagsFall_45 hG (fun z26 hG => ?_)
      refine r_isub (pc := 46) X dX9_flagsFall_46 hG (fun z27 hG => ?_)
      refine r_icmp_ge (pc := 47) X dX9_flagsFall_47 (tgt := 62) (by decide) hG (fun hG => ?_) (fun hG => ?_)
      · skip
        exact r_mask [true, true, true] rfl (Hj13 _ hG h5 rfl)
      · skip
        refine r_aload_n (pc := 50) X dX9_flagsFall_50 rfl rfl ?_
        refine r_sipush (pc := 51) X dX9_flagsFall_51 hG (by decide) (fun z28 hG => ?_)
        refine r_iload_n (pc := 54) X dX9_flagsFall_54 rfl rfl ?_
        refine r_iadd (pc := 55) X dX9_flagsFall_55 hG (fun z29 hG => ?_)
        refine r_aload_n (pc := 56) X dX9_flagsFall_56 rfl rfl ?_
        refine r_sipush (pc := 57) X dX9_flagsFall_57 hG (by decide) (fun z30 hG => ?_)
        refine r_iald (pc := 60) X Hb1 dX9_flagsFall_60 hG (fun z31 hG => ?_)
        refine r_iast (pc := 61) X Hb1 dX9_flagsFall_61 hG (fun h32 hG => ?_)
        exact r_mask [true, true, true] rfl (Hj13 _ hG h32 rfl)
theorem c_X9_flagsFall {b1 : Nat} {r : Hp} (Hb0 : At_X9 shl) (Hb1 : shl[b1]? = some (.inr (0, 289, []))) (hg : g_X9_flagsFall b1 h = some r) : Met l yX9_flagsFall (wsM yX9_flagsFall cX9_flagsFall 3 none) rm_X9_flagsFall (va_Pc [.ref (ad 100), .ref (ad b1)] (World E ad shl h)) (QcV E ad shl r) 0 0 (bsA E) :=
  met_of (L0 := [some (.ref (ad 100)), some (.ref (ad b1)), none]) rfl rfl rfl (Nat.le_of_ble_eq_true rfl) (fun _ _ _ _ _ _ _ X => w_X9_flagsFall Hb0 Hb1 X rfl hg)
abbrev rm_X9_finish : Room := { frames := 4, cells := 0, slots := 0, locals := 90 }
theorem hdd_X9_finish : yX9_finish.cls = RX9 ∧ yX9_finish.cls ≠ "java/lang/invoke/MethodHandle" ∧ yX9_finish.cls ≠ "java/lang/invoke/VarHandle" ∧ (parseMethodDescriptor yX9_finish.desc).map (fun d => d.parameters.length) = some 1 := ⟨rfl, by decide +kernel, by decide +kernel, by decide +kernel⟩
set_option maxRecDepth 100000 in
set_option maxHeartbeats 4000000 in
theorem w_X9_finish {b1 : Nat} {r : Hp} (Hb0 : At_X9 shl) (Hb1 : shl[b1]? = some (.inr (0, 289, []))) (X : Cx E p s m args meth c cX9_finish RX9 2 none) (hQ : Q = MQ below (QcV E ad shl r) args s 0 0 (bsA E)) (hG : g_X9_finish b1 h = some r) : Ev E ad shl p l e rm_X9_finish s m args below meth c 0 0 Q 2 h 0 [some (.ref (ad 100)), some (.ref (ad b1))] [] := by
  unfold g_X9_finish at hG
  refine r_aload_n (pc := 0) X dX9_finish_0 rfl rfl ?_
  refine r_aload_n (pc := 1) X dX9_finish_1 rfl rfl ?_
  refine r_cV (pc := 2) hG (fun _ hg => runV X dX9_finish_2 (c_X9_seaComes Hb0 Hb1 hg) mM_X9_398 mI_X9_seaComes mE_X9_seaComes mN_X9 mK_X9_seaComes (at_X9_o Hb0) rfl rfl rfl rfl hdd_X9_seaComes ⟨(Nat.le_of_ble_eq_true rfl), (Nat.le_of_ble_eq_true rfl)⟩ rfl rfl (Nat.le_of_ble_eq_true rfl) ⟨(Nat.le_of_ble_eq_true rfl), (Nat.le_of_ble_eq_true rfl)⟩) (fun h1 hG => ?_)
  refine r_aload_n (pc := 5) X dX9_finish_5 rfl rfl ?_
  refine r_aload_n (pc := 6) X dX9_finish_6 rfl rfl ?_
  refine r_cV (pc := 7) hG (fun _ hg => runV X dX9_finish_7 (c_X9_sun Hb0 Hb1 hg) mM_X9_402 mI_X9_sun mE_X9_sun mN_X9 mK_X9_sun (at_X9_o Hb0) rfl rfl rfl rfl hdd_X9_sun ⟨(Nat.le_of_ble_eq_true rfl), (Nat.le_of_ble_eq_true rfl)⟩ rfl rfl (Nat.le_of_ble_eq_true rfl) ⟨(Nat.le_of_ble_eq_true rfl), (Nat.le_of_ble_eq_true rfl)⟩) (fun h2 hG => ?_)
  refine r_aload_n (pc := 10) X dX9_finish_10 rfl rfl ?_
  refine r_aload_n (pc := 11) X dX9_finish_11 rfl rfl ?_
  refine r_cV (pc := 12) hG (fun _ hg => runV X dX9_finish_12 (c_X9_slides Hb0 Hb1 hg) mM_X9_405 mI_X9_slides mE_X9_slides mN_X9 mK_X9_slides (at_X9_o Hb0) rfl rfl rfl rfl hdd_X9_slides ⟨(Nat.le_of_ble_eq_true rfl), (Nat.le_of_ble_eq_true rfl)⟩ rfl rfl (Nat.le_of_ble_eq_true rfl) ⟨(Nat.le_of_ble_eq_true rfl), (Nat.le_of_ble_eq_true rfl)⟩) (fun h3 hG => ?_)
  refine r_aload_n (pc := 15) X dX9_finish_15 rfl rfl ?_
  refine r_aload_n (pc := 16) X dX9_finish_16 rfl rfl ?_
  refine r_cV (pc := 17) hG (fun _ hg => runV X dX9_finish_17 (c_X9_flagsFall Hb0 Hb1 hg) mM_X9_408 mI_X9_flagsFall mE_X9_flagsFall mN_X9 mK_X9_flagsFall (at_X9_o Hb0) rfl rfl rfl rfl hdd_X9_flagsFall ⟨(Nat.le_of_ble_eq_true rfl), (Nat.le_of_ble_eq_true rfl)⟩ rfl rfl (Nat.le_of_ble_eq_true rfl) ⟨(Nat.le_of_ble_eq_true rfl), (Nat.le_of_ble_eq_true rfl)⟩) (fun h4 hG => ?_)
  refine r_aload_n (pc := 20) X dX9_finish_20 rfl rfl ?_
  refine r_sipush (pc := 21) X dX9_finish_21 hG (by decide) (fun z5 hG => ?_)
  refine r_dup2 (pc := 24) X dX9_finish_24 rfl rfl ?_
  refine r_iald (pc := 25) X Hb1 dX9_finish_25 hG (fun z6 hG => ?_)
  refine r_iconst (pc := 26) X dX9_finish_26 hG rfl (fun z7 hG => ?_)
  refine r_iadd (pc := 27) X dX9_finish_27 hG (fun z8 hG => ?_)
  refine r_iast (pc := 28) X Hb1 dX9_finish_28 hG (fun h9 hG => ?_)
  exact r_vret (pc := 29) X dX9_finish_29 hQ hG
theorem c_X9_finish {b1 : Nat} {r : Hp} (Hb0 : At_X9 shl) (Hb1 : shl[b1]? = some (.inr (0, 289, []))) (hg : g_X9_finish b1 h = some r) : Met l yX9_finish (wsM yX9_finish cX9_finish 2 none) rm_X9_finish (va_Pc [.ref (ad 100), .ref (ad b1)] (World E ad shl h)) (QcV E ad shl r) 0 0 (bsA E) :=
  met_of (L0 := [some (.ref (ad 100)), some (.ref (ad b1))]) rfl rfl rfl (Nat.le_of_ble_eq_true rfl) (fun _ _ _ _ _ _ _ X => w_X9_finish Hb0 Hb1 X rfl hg)
abbrev rm_X9_minute : Room := { frames := 5, cells := 0, slots := 0, locals := 111 }
theorem hdd_X9_minute : yX9_minute.cls = RX9 ∧ yX9_minute.cls ≠ "java/lang/invoke/MethodHandle" ∧ yX9_minute.cls ≠ "java/lang/invoke/VarHandle" ∧ (parseMethodDescriptor yX9_minute.desc).map (fun d => d.parameters.length) = some 1 := ⟨rfl, by decide +kernel, by decide +kernel, by decide +kernel⟩
set_option maxRecDepth 100000 in
set_option maxHeartbeats 4000000 in
theorem w_X9_minute {b1 : Nat} {r : Hp} (Hb0 : At_X9 shl) (Hb1 : shl[b1]? = some (.inr (0, 289, []))) (X : Cx E p s m args meth c cX9_minute RX9 2 none) (hQ : Q = MQ below (QcV E ad shl r) args s 0 0 (bsA E)) (hG : g_X9_minute b1 h = some r) : Ev E ad shl p l e rm_X9_minute s m args below meth c 0 0 Q 2 h 0 [some (.ref (ad 100)), some (.ref (ad b1))] [] := by
  unfold g_X9_minute at hG
  refine r_aload_n (pc := 0) X dX9_minute_0 rfl rfl ?_
  refine r_aload_n (pc := 1) X dX9_minute_1 rfl rfl ?_
  refine r_cV (pc := 2) hG (fun _ hg => runV X dX9_minute_2 (c_X9_handsDo Hb0 Hb1 hg) mM_X9_411 mI_X9_handsDo mE_X9_handsDo mN_X9 mK_X9_handsDo (at_X9_o Hb0) rfl rfl rfl rfl hdd_X9_handsDo ⟨(Nat.le_of_ble_eq_true rfl), (Nat.le_of_ble_eq_true rfl)⟩ rfl rfl (Nat.le_of_ble_eq_true rfl) ⟨(Nat.le_of_ble_eq_true rfl), (Nat.le_of_ble_eq_true rfl)⟩) (fun h1 hG => ?_)
  refine r_aload_n (pc := 5) X dX9_minute_5 rfl rfl ?_
  refine r_aload_n (pc := 6) X dX9_minute_6 rfl rfl ?_
  refine r_cV (pc := 7) hG (fun _ hg => runV X dX9_minute_7 (c_X9_finish Hb0 Hb1 hg) mM_X9_414 mI_X9_finish mE_X9_finish mN_X9 mK_X9_finish (at_X9_o Hb0) rfl rfl rfl rfl hdd_X9_finish ⟨(Nat.le_of_ble_eq_true rfl), (Nat.le_of_ble_eq_true rfl)⟩ rfl rfl (Nat.le_of_ble_eq_true rfl) ⟨(Nat.le_of_ble_eq_true rfl), (Nat.le_of_ble_eq_true rfl)⟩) (fun h2 hG => ?_)
  exact r_vret (pc := 10) X dX9_minute_10 hQ hG
theorem c_X9_minute {b1 : Nat} {r : Hp} (Hb0 : At_X9 shl) (Hb1 : shl[b1]? = some (.inr (0, 289, []))) (hg : g_X9_minute b1 h = some r) : Met l yX9_minute (wsM yX9_minute cX9_minute 2 none) rm_X9_minute (va_Pc [.ref (ad 100), .ref (ad b1)] (World E ad shl h)) (QcV E ad shl r) 0 0 (bsA E) :=
  met_of (L0 := [some (.ref (ad 100)), some (.ref (ad b1))]) rfl rfl rfl (Nat.le_of_ble_eq_true rfl) (fun _ _ _ _ _ _ _ X => w_X9_minute Hb0 Hb1 X rfl hg)
abbrev rm_X9_chance : Room := { frames := 0, cells := 0, slots := 0, locals := 0 }
theorem hdd_X9_chance : yX9_chance.cls = RX9 ∧ yX9_chance.cls ≠ "java/lang/invoke/MethodHandle" ∧ yX9_chance.cls ≠ "java/lang/invoke/VarHandle" ∧ (parseMethodDescriptor yX9_chance.desc).map (fun d => d.parameters.length) = some 1 := ⟨rfl, by decide +kernel, by decide +kernel, by decide +kernel⟩
set_option maxRecDepth 100000 in
set_option maxHeartbeats 4000000 in
theorem w_X9_chance {x1 : Int32} {r : Int × Hp} (Hb0 : At_X9 shl) (X : Cx E p s m args meth c cX9_chance RX9 2 (some .int)) (hQ : Q = MQ below (QcI E ad shl r.1 r.2) args s 0 0 (bsA E)) (hG : g_X9_chance x1.toInt h = some r) : Ev E ad shl p l e rm_X9_chance s m args below meth c 0 0 Q 2 h 0 [some (.ref (ad 100)), some (.int x1)] [] := by
  unfold g_X9_chance at hG
  refine r_iload_n (pc := 0) X dX9_chance_0 rfl rfl ?_
  refine r_if_ge (pc := 1) X dX9_chance_1 (tgt := 7) (by decide) hG (fun hG => ?_) (fun hG => ?_)
  · skip
    refine r_aload_n (pc := 7) X dX9_chance_7 rfl rfl ?_
    refine r_getC (pc := 8) X (at_X9_o Hb0) rfl mU_X9 (k := 46) (by decide) (q := 121) rfl mF_X9_269 dX9_chance_8 ?_
    refine r_sipush (pc := 11) X dX9_chance_11 hG (by decide) (fun z1 hG => ?_)
    refine r_iload_n (pc := 14) X dX9_chance_14 rfl rfl ?_
    refine r_iast (pc := 15) X (at_X9_now Hb0) dX9_chance_15 hG (fun h2 hG => ?_)
    refine r_iconst (pc := 16) X dX9_chance_16 hG rfl (fun z3 hG => ?_)
    exact r_iretW (pc := 17) X dX9_chance_17 hQ hG
  · skip
    refine r_bipush (pc := 4) X dX9_chance_4 hG (by decide) (fun z4 hG => ?_)
    exact r_iretW (pc := 6) X dX9_chance_6 hQ hG
theorem c_X9_chance {x1 : Int32} {r : Int × Hp} (Hb0 : At_X9 shl) (hg : g_X9_chance x1.toInt h = some r) : Met l yX9_chance (wsM yX9_chance cX9_chance 2 (some .int)) rm_X9_chance (va_Pc [.ref (ad 100), .int x1] (World E ad shl h)) (QcI E ad shl r.1 r.2) 0 0 (bsA E) :=
  met_of (L0 := [some (.ref (ad 100)), some (.int x1)]) rfl rfl rfl (Nat.le_of_ble_eq_true rfl) (fun _ _ _ _ _ _ _ X => w_X9_chance Hb0 X rfl hg)
abbrev rm_X9_putPlan : Room := { frames := 0, cells := 0, slots := 0, locals := 0 }
theorem hdd_X9_putPlan : yX9_putPlan.cls ≠ "java/lang/invoke/MethodHandle" ∧ yX9_putPlan.cls ≠ "java/lang/invoke/VarHandle" ∧ (parseMethodDescriptor yX9_putPlan.desc).map (fun d => d.parameters.length) = some 2 := ⟨by decide +kernel, by decide +kernel, by decide +kernel⟩
set_option maxRecDepth 100000 in
set_option maxHeartbeats 4000000 in
theorem w_X9_putPlan {b1 : Nat} {x2 : Int32} {r : Hp} (Hb1 : shl[b1]? = some (.inr (0, 289, []))) (X : Cx E p s m args meth c cX9_putPlan RX9 3 none) (hQ : Q = MQ below (QcV E ad shl r) args s 0 0 (bsA E)) (hG : g_X9_putPlan b1 x2.toInt h = some r) : Ev E ad shl p l e rm_X9_putPlan s m args below meth c 0 0 Q 3 h 0 [some (.ref (ad b1)), some (.int x2), none] [] := by
  unfold g_X9_putPlan at hG
  refine r_aload_n (pc := 0) X dX9_putPlan_0 rfl rfl ?_
  refine r_sipush (pc := 1) X dX9_putPlan_1 hG (by decide) (fun z1 hG => ?_)
  refine r_iload_n (pc := 4) X dX9_putPlan_4 rfl rfl ?_
  refine r_iast (pc := 5) X Hb1 dX9_putPlan_5 hG (fun h2 hG => ?_)
  refine r_iconst (pc := 6) X dX9_putPlan_6 hG rfl (fun z3 hG => ?_)
  refine r_istore_n (pc := 7) (L' := [some (.ref (ad b1)), some (.int x2), some (.int z3)]) X dX9_putPlan_7 rfl (by decide) rfl rfl ?_
  refine r_mask [true, false, true] rfl (r_loop (fun q4 => ∀ (y6 : Int32) (h7 : Hp), q4 = (y6.toInt, h7) → Ev E ad shl p l e rm_X9_putPlan s m args below meth c 0 0 Q 3 h7 8 [some (.ref (ad b1)), none, some (.int y6)] []) (fun l5 Hl5 q4 hG => ?_) FU _ hG z3 h2 rfl)
  intro y6 h7 ha; have ha := ha.symm; subst ha
  unfold g_X9_putPlan_l5 at hG
  refine r_iload_n (pc := 8) X dX9_putPlan_8 rfl rfl ?_
  refine r_iconst (pc := 9) X dX9_putPlan_9 hG rfl (fun z8 hG => ?_)
  refine r_icmp_ge (pc := 10) X dX9_putPlan_10 (tgt := 43) (by decide) hG (fun hG => ?_) (fun hG => ?_)
  · skip
    exact r_vret (pc := 43) X dX9_putPlan_43 hQ hG
  · skip
    refine r_aload_n (pc := 13) X dX9_putPlan_13 rfl rfl ?_
    refine r_sipush (pc := 14) X dX9_putPlan_14 hG (by decide) (fun z9 hG => ?_)
    refine r_iload_n (pc := 17) X dX9_putPlan_17 rfl rfl ?_
    refine r_iadd (pc := 18) X dX9_putPlan_18 hG (fun z10 hG => ?_)
    refine r_iconst (pc := 19) X dX9_putPlan_19 hG rfl (fun z11 hG => ?_)
    refine r_iast (pc := 20) X Hb1 dX9_putPlan_20 hG (fun h12 hG => ?_)
    refine r_aload_n (pc := 21) X dX9_putPlan_21 rfl rfl ?_
    refine r_sipush (pc := 22) X dX9_putPlan_22 hG (by decide) (fun z13 hG => ?_)
    refine r_iload_n (pc := 25) X dX9_putPlan_25 rfl rfl ?_
    refine r_iadd (pc := 26) X dX9_putPlan_26 hG (fun z14 hG => ?_)
    refine r_iconst (pc := 27) X dX9_putPlan_27 hG rfl (fun z15 hG => ?_)
    refine r_iast (pc := 28) X Hb1 dX9_putPlan_28 hG (fun h16 hG => ?_)
    refine r_aload_n (pc := 29) X dX9_putPlan_29 rfl rfl ?_
    refine r_sipush (pc := 30) X dX9_putPlan_30 hG (by decide) (fun z17 hG => ?_)
    refine r_iload_n (pc := 33) X dX9_putPlan_33 rfl rfl ?_
    refine r_iadd (pc := 34) X dX9_putPlan_34 hG (fun z18 hG => ?_)
    refine r_iconst (pc := 35) X dX9_putPlan_35 hG rfl (fun z19 hG => ?_)
    refine r_iast (pc := 36) X Hb1 dX9_putPlan_36 hG (fun h20 hG => ?_)
    refine r_iinc (pc := 37) (L' := fun z21 => [some (.ref (ad b1)), none, some (.int z21)]) X dX9_putPlan_37 (by decide) rfl rfl (by decide) (fun _ => rfl) hG (fun z21 hG => ?_)
    refine r_goto (pc := 40) X dX9_putPlan_40 (tgt := 8) (by decide) ?_
    exact r_mask [true, false, true] rfl (Hl5 _ hG z21 h20 rfl)
theorem c_X9_putPlan {b1 : Nat} {x2 : Int32} {r : Hp} (Hb1 : shl[b1]? = some (.inr (0, 289, []))) (hg : g_X9_putPlan b1 x2.toInt h = some r) : Met l yX9_putPlan (wsM yX9_putPlan cX9_putPlan 3 none) rm_X9_putPlan (va_Pc [.ref (ad b1), .int x2] (World E ad shl h)) (QcV E ad shl r) 0 0 (bsA E) :=
  met_of (L0 := [some (.ref (ad b1)), some (.int x2), none]) rfl rfl rfl (Nat.le_of_ble_eq_true rfl) (fun _ _ _ _ _ _ _ X => w_X9_putPlan Hb1 X rfl hg)
abbrev rm_X9_work : Room := { frames := 2, cells := 0, slots := 0, locals := 46 }
theorem hdd_X9_work : yX9_work.cls = RX9 ∧ yX9_work.cls ≠ "java/lang/invoke/MethodHandle" ∧ yX9_work.cls ≠ "java/lang/invoke/VarHandle" ∧ (parseMethodDescriptor yX9_work.desc).map (fun d => d.parameters.length) = some 1 := ⟨rfl, by decide +kernel, by decide +kernel, by decide +kernel⟩
set_option maxRecDepth 100000 in
set_option maxHeartbeats 4000000 in
theorem w_X9_work {x1 : Int32} {r : Int × Hp} (Hb0 : At_X9 shl) (X : Cx E p s m args meth c cX9_work RX9 2 (some .int)) (hQ : Q = MQ below (QcI E ad shl r.1 r.2) args s 0 0 (bsA E)) (hG : g_X9_work x1.toInt h = some r) : Ev E ad shl p l e rm_X9_work s m args below meth c 0 0 Q 2 h 0 [some (.ref (ad 100)), some (.int x1)] [] := by
  unfold g_X9_work at hG
  refine r_iload_n (pc := 0) X dX9_work_0 rfl rfl ?_
  refine r_iconst (pc := 1) X dX9_work_1 hG rfl (fun z1 hG => ?_)
  refine r_join hG (fun _ => Ev E ad shl p l e rm_X9_work s m args below meth c 0 0 Q 2 h 16 [some (.ref (ad 100)), some (.int x1)] []) (fun a2 hG => ?_) (fun j3 Hj3 hG => ?_)
  · skip
    refine r_aload_n (pc := 16) X dX9_work_16 rfl rfl ?_
    refine r_getC (pc := 17) X (at_X9_o Hb0) rfl mU_X9 (k := 46) (by decide) (q := 121) rfl mF_X9_269 dX9_work_17 ?_
    refine r_iload_n (pc := 20) X dX9_work_20 rfl rfl ?_
    refine r_cV (pc := 21) hG (fun _ hg => runS X dX9_work_21 (c_X9_putPlan (at_X9_now Hb0) hg) mM_X9_417 mS_X9_putPlan mN_X9 mK_X9_putPlan rfl rfl hdd_X9_putPlan ⟨(Nat.le_of_ble_eq_true rfl), (Nat.le_of_ble_eq_true rfl)⟩ rfl rfl (Nat.le_of_ble_eq_true rfl) ⟨(Nat.le_of_ble_eq_true rfl), (Nat.le_of_ble_eq_true rfl)⟩) (fun h4 hG => ?_)
    refine r_iconst (pc := 24) X dX9_work_24 hG rfl (fun z5 hG => ?_)
    exact r_iretW (pc := 25) X dX9_work_25 hQ hG
  refine r_icmp_eq (pc := 2) X dX9_work_2 (tgt := 16) (by decide) hG (fun hG => ?_) (fun hG => ?_)
  · skip
    exact r_mask [true, true] rfl (Hj3 _ hG)
  · skip
    refine r_aload_n (pc := 5) X dX9_work_5 rfl rfl ?_
    refine r_iload_n (pc := 6) X dX9_work_6 rfl rfl ?_
    refine r_cP (pc := 7) hG (fun _ hg => runV X dX9_work_7 (c_X9_isPlan Hb0 hg) mM_X9_351 mI_X9_isPlan mE_X9_isPlan mN_X9 mK_X9_isPlan (at_X9_o Hb0) rfl rfl rfl rfl hdd_X9_isPlan ⟨(Nat.le_of_ble_eq_true rfl), (Nat.le_of_ble_eq_true rfl)⟩ rfl rfl (Nat.le_of_ble_eq_true rfl) ⟨(Nat.le_of_ble_eq_true rfl), (Nat.le_of_ble_eq_true rfl)⟩) (fun z6 hG => ?_)
    refine r_if_ne (pc := 10) X dX9_work_10 (tgt := 16) (by decide) hG (fun hG => ?_) (fun hG => ?_)
    · skip
      exact r_mask [true, true] rfl (Hj3 _ hG)
    · skip
      refine r_bipush (pc := 13) X dX9_work_13 hG (by decide) (fun z7 hG => ?_)
      exact r_iretW (pc := 15) X dX9_work_15 hQ hG
theorem c_X9_work {x1 : Int32} {r : Int × Hp} (Hb0 : At_X9 shl) (hg : g_X9_work x1.toInt h = some r) : Met l yX9_work (wsM yX9_work cX9_work 2 (some .int)) rm_X9_work (va_Pc [.ref (ad 100), .int x1] (World E ad shl h)) (QcI E ad shl r.1 r.2) 0 0 (bsA E) :=
  met_of (L0 := [some (.ref (ad 100)), some (.int x1)]) rfl rfl rfl (Nat.le_of_ble_eq_true rfl) (fun _ _ _ _ _ _ _ X => w_X9_work Hb0 X rfl hg)
abbrev rm_X9_pass : Room := { frames := 6, cells := 0, slots := 0, locals := 132 }
theorem hdd_X9_pass : yX9_pass.cls = RX9 ∧ yX9_pass.cls ≠ "java/lang/invoke/MethodHandle" ∧ yX9_pass.cls ≠ "java/lang/invoke/VarHandle" ∧ (parseMethodDescriptor yX9_pass.desc).map (fun d => d.parameters.length) = some 1 := ⟨rfl, by decide +kernel, by decide +kernel, by decide +kernel⟩
set_option maxRecDepth 100000 in
set_option maxHeartbeats 4000000 in
theorem w_X9_pass {x1 : Int32} {r : Int × Hp} (Hb0 : At_X9 shl) (X : Cx E p s m args meth c cX9_pass RX9 3 (some .int)) (hQ : Q = MQ below (QcI E ad shl r.1 r.2) args s 0 0 (bsA E)) (hG : g_X9_pass x1.toInt h = some r) : Ev E ad shl p l e rm_X9_pass s m args below meth c 0 0 Q 3 h 0 [some (.ref (ad 100)), some (.int x1), none] [] := by
  unfold g_X9_pass at hG
  refine r_iload_n (pc := 0) X dX9_pass_0 rfl rfl ?_
  refine r_i2l (pc := 1) X dX9_pass_1 hG (fun z1 hG => ?_)
  refine r_lconst (pc := 2) X dX9_pass_2 hG (by decide) (fun z2 hG => ?_)
  refine r_ldc2 (pc := 3) X dX9_pass_3 mW_X9_420 hG (by decide) (fun z3 hG => ?_)
  refine r_cP (pc := 6) hG (fun _ hg => runS X dX9_pass_6 (c_X9_in  hg) mM_X9_52 mS_X9_in mN_X9 mK_X9_in rfl rfl hdd_X9_in ⟨(Nat.le_of_ble_eq_true rfl), (Nat.le_of_ble_eq_true rfl)⟩ rfl rfl (Nat.le_of_ble_eq_true rfl) ⟨(Nat.le_of_ble_eq_true rfl), (Nat.le_of_ble_eq_true rfl)⟩) (fun z4 hG => ?_)
  refine r_if_ne (pc := 9) X dX9_pass_9 (tgt := 15) (by decide) hG (fun hG => ?_) (fun hG => ?_)
  · skip
    refine r_iconst (pc := 15) X dX9_pass_15 hG rfl (fun z5 hG => ?_)
    refine r_istore_n (pc := 16) (L' := [some (.ref (ad 100)), some (.int x1), some (.int z5)]) X dX9_pass_16 rfl (by decide) rfl rfl ?_
    refine r_mask [true, true, true] rfl (r_loop (fun q6 => ∀ (y8 : Int32) (h9 : Hp), q6 = (y8.toInt, h9) → Ev E ad shl p l e rm_X9_pass s m args below meth c 0 0 Q 3 h9 17 [some (.ref (ad 100)), some (.int x1), some (.int y8)] []) (fun l7 Hl7 q6 hG => ?_) FU _ hG z5 h rfl)
    intro y8 h9 ha; have ha := ha.symm; subst ha
    unfold g_X9_pass_l7 at hG
    refine r_iload_n (pc := 17) X dX9_pass_17 rfl rfl ?_
    refine r_iload_n (pc := 18) X dX9_pass_18 rfl rfl ?_
    refine r_icmp_ge (pc := 19) X dX9_pass_19 (tgt := 36) (by decide) hG (fun hG => ?_) (fun hG => ?_)
    · skip
      refine r_aload_n (pc := 36) X dX9_pass_36 rfl rfl ?_
      refine r_getC (pc := 37) X (at_X9_o Hb0) rfl mU_X9 (k := 46) (by decide) (q := 121) rfl mF_X9_269 dX9_pass_37 ?_
      refine r_sipush (pc := 40) X dX9_pass_40 hG (by decide) (fun z10 hG => ?_)
      refine r_iald (pc := 43) X (at_X9_now Hb0) dX9_pass_43 hG (fun z11 hG => ?_)
      exact r_iretW (pc := 44) X dX9_pass_44 hQ hG
    · skip
      refine r_aload_n (pc := 22) X dX9_pass_22 rfl rfl ?_
      refine r_aload_n (pc := 23) X dX9_pass_23 rfl rfl ?_
      refine r_getC (pc := 24) X (at_X9_o Hb0) rfl mU_X9 (k := 46) (by decide) (q := 121) rfl mF_X9_269 dX9_pass_24 ?_
      refine r_cV (pc := 27) hG (fun _ hg => runV X dX9_pass_27 (c_X9_minute Hb0 (at_X9_now Hb0) hg) mM_X9_422 mI_X9_minute mE_X9_minute mN_X9 mK_X9_minute (at_X9_o Hb0) rfl rfl rfl rfl hdd_X9_minute ⟨(Nat.le_of_ble_eq_true rfl), (Nat.le_of_ble_eq_true rfl)⟩ rfl rfl (Nat.le_of_ble_eq_true rfl) ⟨(Nat.le_of_ble_eq_true rfl), (Nat.le_of_ble_eq_true rfl)⟩) (fun h12 hG => ?_)
      refine r_iinc (pc := 30) (L' := fun z13 => [some (.ref (ad 100)), some (.int x1), some (.int z13)]) X dX9_pass_30 (by decide) rfl rfl (by decide) (fun _ => rfl) hG (fun z13 hG => ?_)
      refine r_goto (pc := 33) X dX9_pass_33 (tgt := 17) (by decide) ?_
      exact r_mask [true, true, true] rfl (Hl7 _ hG z13 h12 rfl)
  · skip
    refine r_bipush (pc := 12) X dX9_pass_12 hG (by decide) (fun z14 hG => ?_)
    exact r_iretW (pc := 14) X dX9_pass_14 hQ hG
theorem c_X9_pass {x1 : Int32} {r : Int × Hp} (Hb0 : At_X9 shl) (hg : g_X9_pass x1.toInt h = some r) : Met l yX9_pass (wsM yX9_pass cX9_pass 3 (some .int)) rm_X9_pass (va_Pc [.ref (ad 100), .int x1] (World E ad shl h)) (QcI E ad shl r.1 r.2) 0 0 (bsA E) :=
  met_of (L0 := [some (.ref (ad 100)), some (.int x1), none]) rfl rfl rfl (Nat.le_of_ble_eq_true rfl) (fun _ _ _ _ _ _ _ X => w_X9_pass Hb0 X rfl hg)
abbrev rm_X9_cell : Room := { frames := 3, cells := 0, slots := 0, locals := 64 }
theorem hdd_X9_cell : yX9_cell.cls = RX9 ∧ yX9_cell.cls ≠ "java/lang/invoke/MethodHandle" ∧ yX9_cell.cls ≠ "java/lang/invoke/VarHandle" ∧ (parseMethodDescriptor yX9_cell.desc).map (fun d => d.parameters.length) = some 3 := ⟨rfl, by decide +kernel, by decide +kernel, by decide +kernel⟩
set_option maxRecDepth 100000 in
set_option maxHeartbeats 4000000 in
theorem w_X9_cell {x1 : Int32} {x2 : Int32} {x3 : Int32} {r : Int} (Hb0 : At_X9 shl) (X : Cx E p s m args meth c cX9_cell RX9 5 (some .int)) (hQ : Q = MQ below (QcI E ad shl r h) args s 0 0 (bsA E)) (hG : g_X9_cell x1.toInt x2.toInt x3.toInt h = some r) : Ev E ad shl p l e rm_X9_cell s m args below meth c 0 0 Q 5 h 0 [some (.ref (ad 100)), some (.int x1), some (.int x2), some (.int x3), none] [] := by
  unfold g_X9_cell at hG
  refine r_iload_n (pc := 0) X dX9_cell_0 rfl rfl ?_
  refine r_i2l (pc := 1) X dX9_cell_1 hG (fun z1 hG => ?_)
  refine r_lconst (pc := 2) X dX9_cell_2 hG (by decide) (fun z2 hG => ?_)
  refine r_aload_n (pc := 3) X dX9_cell_3 rfl rfl ?_
  refine r_getI (pc := 4) X (at_X9_o Hb0) rfl mU_X9 (k := 10) (by decide) rfl mF_X9_201 dX9_cell_4 hG (fun z3 hG => ?_)
  refine r_i2l (pc := 7) X dX9_cell_7 hG (fun z4 hG => ?_)
  refine r_lconst (pc := 8) X dX9_cell_8 hG (by decide) (fun z5 hG => ?_)
  refine r_lsub (pc := 9) X dX9_cell_9 hG (fun z6 hG => ?_)
  refine r_cP (pc := 10) hG (fun _ hg => runS X dX9_cell_10 (c_X9_in  hg) mM_X9_52 mS_X9_in mN_X9 mK_X9_in rfl rfl hdd_X9_in ⟨(Nat.le_of_ble_eq_true rfl), (Nat.le_of_ble_eq_true rfl)⟩ rfl rfl (Nat.le_of_ble_eq_true rfl) ⟨(Nat.le_of_ble_eq_true rfl), (Nat.le_of_ble_eq_true rfl)⟩) (fun z7 hG => ?_)
  refine r_join hG (fun _ => Ev E ad shl p l e rm_X9_cell s m args below meth c 0 0 Q 5 h 44 [none, none, none, none, none] []) (fun a8 hG => ?_) (fun j9 Hj9 hG => ?_)
  · skip
    refine r_bipush (pc := 44) X dX9_cell_44 hG (by decide) (fun z10 hG => ?_)
    exact r_iretP (pc := 46) X dX9_cell_46 hQ hG
  refine r_if_eq (pc := 13) X dX9_cell_13 (tgt := 44) (by decide) hG (fun hG => ?_) (fun hG => ?_)
  · skip
    exact r_mask [false, false, false, false, false] rfl (Hj9 _ hG)
  · skip
    refine r_iload_n (pc := 16) X dX9_cell_16 rfl rfl ?_
    refine r_i2l (pc := 17) X dX9_cell_17 hG (fun z11 hG => ?_)
    refine r_lconst (pc := 18) X dX9_cell_18 hG (by decide) (fun z12 hG => ?_)
    refine r_aload_n (pc := 19) X dX9_cell_19 rfl rfl ?_
    refine r_getI (pc := 20) X (at_X9_o Hb0) rfl mU_X9 (k := 11) (by decide) rfl mF_X9_204 dX9_cell_20 hG (fun z13 hG => ?_)
    refine r_i2l (pc := 23) X dX9_cell_23 hG (fun z14 hG => ?_)
    refine r_lconst (pc := 24) X dX9_cell_24 hG (by decide) (fun z15 hG => ?_)
    refine r_lsub (pc := 25) X dX9_cell_25 hG (fun z16 hG => ?_)
    refine r_cP (pc := 26) hG (fun _ hg => runS X dX9_cell_26 (c_X9_in  hg) mM_X9_52 mS_X9_in mN_X9 mK_X9_in rfl rfl hdd_X9_in ⟨(Nat.le_of_ble_eq_true rfl), (Nat.le_of_ble_eq_true rfl)⟩ rfl rfl (Nat.le_of_ble_eq_true rfl) ⟨(Nat.le_of_ble_eq_true rfl), (Nat.le_of_ble_eq_true rfl)⟩) (fun z17 hG => ?_)
    refine r_if_eq (pc := 29) X dX9_cell_29 (tgt := 44) (by decide) hG (fun hG => ?_) (fun hG => ?_)
    · skip
      exact r_mask [false, false, false, false, false] rfl (Hj9 _ hG)
    · skip
      refine r_iload_n (pc := 32) X dX9_cell_32 rfl rfl ?_
      refine r_i2l (pc := 33) X dX9_cell_33 hG (fun z18 hG => ?_)
      refine r_lconst (pc := 34) X dX9_cell_34 hG (by decide) (fun z19 hG => ?_)
      refine r_ldc2 (pc := 35) X dX9_cell_35 mW_X9_425 hG (by decide) (fun z20 hG => ?_)
      refine r_cP (pc := 38) hG (fun _ hg => runS X dX9_cell_38 (c_X9_in  hg) mM_X9_52 mS_X9_in mN_X9 mK_X9_in rfl rfl hdd_X9_in ⟨(Nat.le_of_ble_eq_true rfl), (Nat.le_of_ble_eq_true rfl)⟩ rfl rfl (Nat.le_of_ble_eq_true rfl) ⟨(Nat.le_of_ble_eq_true rfl), (Nat.le_of_ble_eq_true rfl)⟩) (fun z21 hG => ?_)
      refine r_if_ne (pc := 41) X dX9_cell_41 (tgt := 47) (by decide) hG (fun hG => ?_) (fun hG => ?_)
      · skip
        refine r_aload_n (pc := 47) X dX9_cell_47 rfl rfl ?_
        refine r_getI (pc := 48) X (at_X9_o Hb0) rfl mU_X9 (k := 10) (by decide) rfl mF_X9_201 dX9_cell_48 hG (fun z22 hG => ?_)
        refine r_iload_n (pc := 51) X dX9_cell_51 rfl rfl ?_
        refine r_imul (pc := 52) X dX9_cell_52 hG (fun z23 hG => ?_)
        refine r_iload_n (pc := 53) X dX9_cell_53 rfl rfl ?_
        refine r_iadd (pc := 54) X dX9_cell_54 hG (fun z24 hG => ?_)
        refine r_istore (pc := 55) (L' := [some (.ref (ad 100)), some (.int x1), some (.int x2), some (.int x3), some (.int z24)]) X dX9_cell_55 (by decide) rfl rfl ?_
        refine r_iload_n (pc := 57) X dX9_cell_57 rfl rfl ?_
        refine r_ite hG (fun e25 hG => ?_) (fun e25 hG => ?_)
        · refine r_tsIn (pc := 58) X dX9_cell_58 e25 (by decide) (by decide) rfl (tgt := 88) (by decide) ?_
          refine r_aload_n (pc := 88) X dX9_cell_88 rfl rfl ?_
          refine r_getC (pc := 89) X (at_X9_o Hb0) rfl mU_X9 (k := 46) (by decide) (q := 121) rfl mF_X9_269 dX9_cell_89 ?_
          refine r_iconst (pc := 92) X dX9_cell_92 hG rfl (fun z26 hG => ?_)
          refine r_iload (pc := 93) X dX9_cell_93 rfl ?_
          refine r_iadd (pc := 95) X dX9_cell_95 hG (fun z27 hG => ?_)
          refine r_iald (pc := 96) X (at_X9_now Hb0) dX9_cell_96 hG (fun z28 hG => ?_)
          exact r_iretP (pc := 97) X dX9_cell_97 hQ hG
        refine r_ite hG (fun e29 hG => ?_) (fun e29 hG => ?_)
        · refine r_tsIn (pc := 58) X dX9_cell_58 e29 (by decide) (by decide) rfl (tgt := 98) (by decide) ?_
          refine r_aload_n (pc := 98) X dX9_cell_98 rfl rfl ?_
          refine r_getC (pc := 99) X (at_X9_o Hb0) rfl mU_X9 (k := 46) (by decide) (q := 121) rfl mF_X9_269 dX9_cell_99 ?_
          refine r_bipush (pc := 102) X dX9_cell_102 hG (by decide) (fun z30 hG => ?_)
          refine r_iload (pc := 104) X dX9_cell_104 rfl ?_
          refine r_iadd (pc := 106) X dX9_cell_106 hG (fun z31 hG => ?_)
          refine r_iald (pc := 107) X (at_X9_now Hb0) dX9_cell_107 hG (fun z32 hG => ?_)
          exact r_iretP (pc := 108) X dX9_cell_108 hQ hG
        refine r_ite hG (fun e33 hG => ?_) (fun e33 hG => ?_)
        · refine r_tsIn (pc := 58) X dX9_cell_58 e33 (by decide) (by decide) rfl (tgt := 109) (by decide) ?_
          refine r_aload_n (pc := 109) X dX9_cell_109 rfl rfl ?_
          refine r_getC (pc := 110) X (at_X9_o Hb0) rfl mU_X9 (k := 46) (by decide) (q := 121) rfl mF_X9_269 dX9_cell_110 ?_
          refine r_sipush (pc := 113) X dX9_cell_113 hG (by decide) (fun z34 hG => ?_)
          refine r_iload (pc := 116) X dX9_cell_116 rfl ?_
          refine r_iadd (pc := 118) X dX9_cell_118 hG (fun z35 hG => ?_)
          refine r_iald (pc := 119) X (at_X9_now Hb0) dX9_cell_119 hG (fun z36 hG => ?_)
          exact r_iretP (pc := 120) X dX9_cell_120 hQ hG
        refine r_ite hG (fun e37 hG => ?_) (fun e37 hG => ?_)
        · refine r_tsIn (pc := 58) X dX9_cell_58 e37 (by decide) (by decide) rfl (tgt := 121) (by decide) ?_
          refine r_aload_n (pc := 121) X dX9_cell_121 rfl rfl ?_
          refine r_getC (pc := 122) X (at_X9_o Hb0) rfl mU_X9 (k := 46) (by decide) (q := 121) rfl mF_X9_269 dX9_cell_122 ?_
          refine r_sipush (pc := 125) X dX9_cell_125 hG (by decide) (fun z38 hG => ?_)
          refine r_iload (pc := 128) X dX9_cell_128 rfl ?_
          refine r_iadd (pc := 130) X dX9_cell_130 hG (fun z39 hG => ?_)
          refine r_iald (pc := 131) X (at_X9_now Hb0) dX9_cell_131 hG (fun z40 hG => ?_)
          exact r_iretP (pc := 132) X dX9_cell_132 hQ hG
        refine r_tsOut (pc := 58) X dX9_cell_58 (by omega) (tgt := 133) (by decide) ?_
        refine r_aload_n (pc := 133) X dX9_cell_133 rfl rfl ?_
        refine r_aload_n (pc := 134) X dX9_cell_134 rfl rfl ?_
        refine r_getC (pc := 135) X (at_X9_o Hb0) rfl mU_X9 (k := 46) (by decide) (q := 121) rfl mF_X9_269 dX9_cell_135 ?_
        refine r_bipush (pc := 138) X dX9_cell_138 hG (by decide) (fun z41 hG => ?_)
        refine r_iload (pc := 140) X dX9_cell_140 rfl ?_
        refine r_iadd (pc := 142) X dX9_cell_142 hG (fun z42 hG => ?_)
        refine r_iald (pc := 143) X (at_X9_now Hb0) dX9_cell_143 hG (fun z43 hG => ?_)
        refine r_aload_n (pc := 144) X dX9_cell_144 rfl rfl ?_
        refine r_getC (pc := 145) X (at_X9_o Hb0) rfl mU_X9 (k := 46) (by decide) (q := 121) rfl mF_X9_269 dX9_cell_145 ?_
        refine r_sipush (pc := 148) X dX9_cell_148 hG (by decide) (fun z44 hG => ?_)
        refine r_iload (pc := 151) X dX9_cell_151 rfl ?_
        refine r_iadd (pc := 153) X dX9_cell_153 hG (fun z45 hG => ?_)
        refine r_iald (pc := 154) X (at_X9_now Hb0) dX9_cell_154 hG (fun z46 hG => ?_)
        refine r_cP (pc := 155) hG (fun _ hg => runV X dX9_cell_155 (c_X9_holdsOf Hb0 hg) mM_X9_395 mI_X9_holdsOf mE_X9_holdsOf mN_X9 mK_X9_holdsOf (at_X9_o Hb0) rfl rfl rfl rfl hdd_X9_holdsOf ⟨(Nat.le_of_ble_eq_true rfl), (Nat.le_of_ble_eq_true rfl)⟩ rfl rfl (Nat.le_of_ble_eq_true rfl) ⟨(Nat.le_of_ble_eq_true rfl), (Nat.le_of_ble_eq_true rfl)⟩) (fun z47 hG => ?_)
        exact r_iretP (pc := 158) X dX9_cell_158 hQ hG
      · skip
        exact r_mask [false, false, false, false, false] rfl (Hj9 _ hG)
theorem c_X9_cell {x1 : Int32} {x2 : Int32} {x3 : Int32} {r : Int} (Hb0 : At_X9 shl) (hg : g_X9_cell x1.toInt x2.toInt x3.toInt h = some r) : Met l yX9_cell (wsM yX9_cell cX9_cell 5 (some .int)) rm_X9_cell (va_Pc [.ref (ad 100), .int x1, .int x2, .int x3] (World E ad shl h)) (QcI E ad shl r h) 0 0 (bsA E) :=
  met_of (L0 := [some (.ref (ad 100)), some (.int x1), some (.int x2), some (.int x3), none]) rfl rfl rfl (Nat.le_of_ble_eq_true rfl) (fun _ _ _ _ _ _ _ X => w_X9_cell Hb0 X rfl hg)
abbrev rm_X9_isFlag : Room := { frames := 1, cells := 0, slots := 0, locals := 25 }
theorem hdd_X9_isFlag : yX9_isFlag.cls = RX9 ∧ yX9_isFlag.cls ≠ "java/lang/invoke/MethodHandle" ∧ yX9_isFlag.cls ≠ "java/lang/invoke/VarHandle" ∧ (parseMethodDescriptor yX9_isFlag.desc).map (fun d => d.parameters.length) = some 1 := ⟨rfl, by decide +kernel, by decide +kernel, by decide +kernel⟩
set_option maxRecDepth 100000 in
set_option maxHeartbeats 4000000 in
theorem w_X9_isFlag {x1 : Int32} {r : Int} (Hb0 : At_X9 shl) (X : Cx E p s m args meth c cX9_isFlag RX9 2 (some .boolean)) (hQ : Q = MQ below (QcI E ad shl r h) args s 0 0 (bsA E)) (hG : g_X9_isFlag x1.toInt h = some r) : Ev E ad shl p l e rm_X9_isFlag s m args below meth c 0 0 Q 2 h 0 [some (.ref (ad 100)), some (.int x1)] [] := by
  unfold g_X9_isFlag at hG
  refine r_iload_n (pc := 0) X dX9_isFlag_0 rfl rfl ?_
  refine r_i2l (pc := 1) X dX9_isFlag_1 hG (fun z1 hG => ?_)
  refine r_lconst (pc := 2) X dX9_isFlag_2 hG (by decide) (fun z2 hG => ?_)
  refine r_aload_n (pc := 3) X dX9_isFlag_3 rfl rfl ?_
  refine r_getI (pc := 4) X (at_X9_o Hb0) rfl mU_X9 (k := 12) (by decide) rfl mF_X9_311 dX9_isFlag_4 hG (fun z3 hG => ?_)
  refine r_i2l (pc := 7) X dX9_isFlag_7 hG (fun z4 hG => ?_)
  refine r_lconst (pc := 8) X dX9_isFlag_8 hG (by decide) (fun z5 hG => ?_)
  refine r_lsub (pc := 9) X dX9_isFlag_9 hG (fun z6 hG => ?_)
  refine r_cP (pc := 10) hG (fun _ hg => runS X dX9_isFlag_10 (c_X9_in  hg) mM_X9_52 mS_X9_in mN_X9 mK_X9_in rfl rfl hdd_X9_in ⟨(Nat.le_of_ble_eq_true rfl), (Nat.le_of_ble_eq_true rfl)⟩ rfl rfl (Nat.le_of_ble_eq_true rfl) ⟨(Nat.le_of_ble_eq_true rfl), (Nat.le_of_ble_eq_true rfl)⟩) (fun z7 hG => ?_)
  exact r_zretP (pc := 13) X dX9_isFlag_13 hQ hG
theorem c_X9_isFlag {x1 : Int32} {r : Int} (Hb0 : At_X9 shl) (hg : g_X9_isFlag x1.toInt h = some r) : Met l yX9_isFlag (wsM yX9_isFlag cX9_isFlag 2 (some .boolean)) rm_X9_isFlag (va_Pc [.ref (ad 100), .int x1] (World E ad shl h)) (QcI E ad shl r h) 0 0 (bsA E) :=
  met_of (L0 := [some (.ref (ad 100)), some (.int x1)]) rfl rfl rfl (Nat.le_of_ble_eq_true rfl) (fun _ _ _ _ _ _ _ X => w_X9_isFlag Hb0 X rfl hg)
abbrev rm_X9_flag : Room := { frames := 2, cells := 0, slots := 0, locals := 46 }
theorem hdd_X9_flag : yX9_flag.cls = RX9 ∧ yX9_flag.cls ≠ "java/lang/invoke/MethodHandle" ∧ yX9_flag.cls ≠ "java/lang/invoke/VarHandle" ∧ (parseMethodDescriptor yX9_flag.desc).map (fun d => d.parameters.length) = some 2 := ⟨rfl, by decide +kernel, by decide +kernel, by decide +kernel⟩
set_option maxRecDepth 100000 in
set_option maxHeartbeats 4000000 in
theorem w_X9_flag {x1 : Int32} {x2 : Int32} {r : Int} (Hb0 : At_X9 shl) (X : Cx E p s m args meth c cX9_flag RX9 3 (some .int)) (hQ : Q = MQ below (QcI E ad shl r h) args s 0 0 (bsA E)) (hG : g_X9_flag x1.toInt x2.toInt h = some r) : Ev E ad shl p l e rm_X9_flag s m args below meth c 0 0 Q 3 h 0 [some (.ref (ad 100)), some (.int x1), some (.int x2)] [] := by
  unfold g_X9_flag at hG
  refine r_aload_n (pc := 0) X dX9_flag_0 rfl rfl ?_
  refine r_iload_n (pc := 1) X dX9_flag_1 rfl rfl ?_
  refine r_cP (pc := 2) hG (fun _ hg => runV X dX9_flag_2 (c_X9_isFlag Hb0 hg) mM_X9_427 mI_X9_isFlag mE_X9_isFlag mN_X9 mK_X9_isFlag (at_X9_o Hb0) rfl rfl rfl rfl hdd_X9_isFlag ⟨(Nat.le_of_ble_eq_true rfl), (Nat.le_of_ble_eq_true rfl)⟩ rfl rfl (Nat.le_of_ble_eq_true rfl) ⟨(Nat.le_of_ble_eq_true rfl), (Nat.le_of_ble_eq_true rfl)⟩) (fun z1 hG => ?_)
  refine r_join hG (fun _ => Ev E ad shl p l e rm_X9_flag s m args below meth c 0 0 Q 3 h 20 [none, none, none] []) (fun a2 hG => ?_) (fun j3 Hj3 hG => ?_)
  · skip
    refine r_bipush (pc := 20) X dX9_flag_20 hG (by decide) (fun z4 hG => ?_)
    exact r_iretP (pc := 22) X dX9_flag_22 hQ hG
  refine r_if_eq (pc := 5) X dX9_flag_5 (tgt := 20) (by decide) hG (fun hG => ?_) (fun hG => ?_)
  · skip
    exact r_mask [false, false, false] rfl (Hj3 _ hG)
  · skip
    refine r_iload_n (pc := 8) X dX9_flag_8 rfl rfl ?_
    refine r_i2l (pc := 9) X dX9_flag_9 hG (fun z5 hG => ?_)
    refine r_lconst (pc := 10) X dX9_flag_10 hG (by decide) (fun z6 hG => ?_)
    refine r_ldc2 (pc := 11) X dX9_flag_11 mW_X9_430 hG (by decide) (fun z7 hG => ?_)
    refine r_cP (pc := 14) hG (fun _ hg => runS X dX9_flag_14 (c_X9_in  hg) mM_X9_52 mS_X9_in mN_X9 mK_X9_in rfl rfl hdd_X9_in ⟨(Nat.le_of_ble_eq_true rfl), (Nat.le_of_ble_eq_true rfl)⟩ rfl rfl (Nat.le_of_ble_eq_true rfl) ⟨(Nat.le_of_ble_eq_true rfl), (Nat.le_of_ble_eq_true rfl)⟩) (fun z8 hG => ?_)
    refine r_if_ne (pc := 17) X dX9_flag_17 (tgt := 23) (by decide) hG (fun hG => ?_) (fun hG => ?_)
    · skip
      refine r_iload_n (pc := 23) X dX9_flag_23 rfl rfl ?_
      refine r_join hG (fun a9 => ∀ (y11 : Int32), a9 = y11.toInt → Ev E ad shl p l e rm_X9_flag s m args below meth c 0 0 Q 3 h 95 [none, none, none] [.int y11]) (fun a9 hG => ?_) (fun j10 Hj10 hG => ?_)
      · skip
        intro y11 ha; have ha := ha.symm; subst ha
        exact r_iretP (pc := 95) X dX9_flag_95 hQ hG
      refine r_if_ne (pc := 24) X dX9_flag_24 (tgt := 49) (by decide) hG (fun hG => ?_) (fun hG => ?_)
      · skip
        refine r_iload_n (pc := 49) X dX9_flag_49 rfl rfl ?_
        refine r_iconst (pc := 50) X dX9_flag_50 hG rfl (fun z12 hG => ?_)
        refine r_icmp_ne (pc := 51) X dX9_flag_51 (tgt := 67) (by decide) hG (fun hG => ?_) (fun hG => ?_)
        · skip
          refine r_iload_n (pc := 67) X dX9_flag_67 rfl rfl ?_
          refine r_iconst (pc := 68) X dX9_flag_68 hG rfl (fun z13 hG => ?_)
          refine r_icmp_ne (pc := 69) X dX9_flag_69 (tgt := 85) (by decide) hG (fun hG => ?_) (fun hG => ?_)
          · skip
            refine r_aload_n (pc := 85) X dX9_flag_85 rfl rfl ?_
            refine r_getC (pc := 86) X (at_X9_o Hb0) rfl mU_X9 (k := 46) (by decide) (q := 121) rfl mF_X9_269 dX9_flag_86 ?_
            refine r_sipush (pc := 89) X dX9_flag_89 hG (by decide) (fun z14 hG => ?_)
            refine r_iload_n (pc := 92) X dX9_flag_92 rfl rfl ?_
            refine r_iadd (pc := 93) X dX9_flag_93 hG (fun z15 hG => ?_)
            refine r_iald (pc := 94) X (at_X9_now Hb0) dX9_flag_94 hG (fun z16 hG => ?_)
            exact r_mask [false, false, false] rfl (Hj10 _ hG z16 rfl)
          · skip
            refine r_aload_n (pc := 72) X dX9_flag_72 rfl rfl ?_
            refine r_getC (pc := 73) X (at_X9_o Hb0) rfl mU_X9 (k := 46) (by decide) (q := 121) rfl mF_X9_269 dX9_flag_73 ?_
            refine r_sipush (pc := 76) X dX9_flag_76 hG (by decide) (fun z17 hG => ?_)
            refine r_iload_n (pc := 79) X dX9_flag_79 rfl rfl ?_
            refine r_iadd (pc := 80) X dX9_flag_80 hG (fun z18 hG => ?_)
            refine r_iald (pc := 81) X (at_X9_now Hb0) dX9_flag_81 hG (fun z19 hG => ?_)
            refine r_goto (pc := 82) X dX9_flag_82 (tgt := 95) (by decide) ?_
            exact r_mask [false, false, false] rfl (Hj10 _ hG z19 rfl)
        · skip
          refine r_aload_n (pc := 54) X dX9_flag_54 rfl rfl ?_
          refine r_getC (pc := 55) X (at_X9_o Hb0) rfl mU_X9 (k := 46) (by decide) (q := 121) rfl mF_X9_269 dX9_flag_55 ?_
          refine r_sipush (pc := 58) X dX9_flag_58 hG (by decide) (fun z20 hG => ?_)
          refine r_iload_n (pc := 61) X dX9_flag_61 rfl rfl ?_
          refine r_iadd (pc := 62) X dX9_flag_62 hG (fun z21 hG => ?_)
          refine r_iald (pc := 63) X (at_X9_now Hb0) dX9_flag_63 hG (fun z22 hG => ?_)
          refine r_goto (pc := 64) X dX9_flag_64 (tgt := 95) (by decide) ?_
          exact r_mask [false, false, false] rfl (Hj10 _ hG z22 rfl)
      · skip
        refine r_aload_n (pc := 27) X dX9_flag_27 rfl rfl ?_
        refine r_getC (pc := 28) X (at_X9_o Hb0) rfl mU_X9 (k := 46) (by decide) (q := 121) rfl mF_X9_269 dX9_flag_28 ?_
        refine r_sipush (pc := 31) X dX9_flag_31 hG (by decide) (fun z23 hG => ?_)
        refine r_iload_n (pc := 34) X dX9_flag_34 rfl rfl ?_
        refine r_iadd (pc := 35) X dX9_flag_35 hG (fun z24 hG => ?_)
        refine r_iald (pc := 36) X (at_X9_now Hb0) dX9_flag_36 hG (fun z25 hG => ?_)
        refine r_iconst (pc := 37) X dX9_flag_37 hG rfl (fun z26 hG => ?_)
        refine r_icmp_ne (pc := 38) X dX9_flag_38 (tgt := 45) (by decide) hG (fun hG => ?_) (fun hG => ?_)
        · skip
          refine r_iconst (pc := 45) X dX9_flag_45 hG rfl (fun z27 hG => ?_)
          refine r_goto (pc := 46) X dX9_flag_46 (tgt := 95) (by decide) ?_
          exact r_mask [false, false, false] rfl (Hj10 _ hG z27 rfl)
        · skip
          refine r_iconst (pc := 41) X dX9_flag_41 hG rfl (fun z28 hG => ?_)
          refine r_goto (pc := 42) X dX9_flag_42 (tgt := 95) (by decide) ?_
          exact r_mask [false, false, false] rfl (Hj10 _ hG z28 rfl)
    · skip
      exact r_mask [false, false, false] rfl (Hj3 _ hG)
theorem c_X9_flag {x1 : Int32} {x2 : Int32} {r : Int} (Hb0 : At_X9 shl) (hg : g_X9_flag x1.toInt x2.toInt h = some r) : Met l yX9_flag (wsM yX9_flag cX9_flag 3 (some .int)) rm_X9_flag (va_Pc [.ref (ad 100), .int x1, .int x2] (World E ad shl h)) (QcI E ad shl r h) 0 0 (bsA E) :=
  met_of (L0 := [some (.ref (ad 100)), some (.int x1), some (.int x2)]) rfl rfl rfl (Nat.le_of_ble_eq_true rfl) (fun _ _ _ _ _ _ _ X => w_X9_flag Hb0 X rfl hg)
end WALKS
