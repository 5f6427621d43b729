section WALKS
variable {E : EnvT} {ad : Nat → Nat} {shl : List Shp} {p : Program} {l : Launch} {e : Env} {s : State} {m : MethodId} {args : Array Value} {below : List Frame} {meth : Method} {c : Code} {Q : State → Prop} {h : Hp}
abbrev rm_X0_clear : Room := { frames := 1, cells := 0, slots := 0, locals := 26 }
theorem hdd_X0_clear : yX0_clear.cls = RX0 ∧ yX0_clear.cls ≠ "java/lang/invoke/MethodHandle" ∧ yX0_clear.cls ≠ "java/lang/invoke/VarHandle" ∧ (parseMethodDescriptor yX0_clear.desc).map (fun d => d.parameters.length) = some 0 := ⟨rfl, by decide +kernel, by decide +kernel, by decide +kernel⟩
set_option maxRecDepth 100000 in
set_option maxHeartbeats 4000000 in
theorem w_X0_clear {b0 : Nat} {r : Hp} (Hb0 : At_X0 shl b0) (X : Cx E p s m args meth c cX0_clear RX0 1 none) (hQ : Q = MQ below (QcV E ad shl r) args s 0 0 (bsA E)) (hG : g_X0_clear b0 h = some r) : Ev E ad shl p l e rm_X0_clear s m args below meth c 0 0 Q 1 h 0 [some (.ref (ad b0))] [] := by
  unfold g_X0_clear at hG
  refine r_gets (pc := 0) X (k := 2) rfl mF_X0_61 dX0_clear_0 ?_
  refine r_iconst (pc := 3) X dX0_clear_3 hG rfl (fun z1 hG => ?_)
  refine r_aload_n (pc := 4) X dX0_clear_4 rfl rfl ?_
  refine r_getC (pc := 5) X (at_X0_o Hb0) rfl mU_X0 (k := 0) (by decide) (q := (b0 + 1)) rfl mF_X0_11 dX0_clear_5 ?_
  refine r_iconst (pc := 8) X dX0_clear_8 hG rfl (fun z2 hG => ?_)
  refine r_bipush (pc := 9) X dX0_clear_9 hG (by decide) (fun z3 hG => ?_)
  refine r_copyT (pc := 11) X dX0_clear_11 mM_X0_64 (k := 2) rfl (tabR (k := 2) rfl) (at_X0_numbers Hb0) (Nat.le_of_ble_eq_true rfl) (Nat.le_of_ble_eq_true rfl) hG (fun h4 hG => ?_)
  refine r_aload_n (pc := 14) X dX0_clear_14 rfl rfl ?_
  refine r_getC (pc := 15) X (at_X0_o Hb0) rfl mU_X0 (k := 1) (by decide) (q := (b0 + 2)) rfl mF_X0_15 dX0_clear_15 ?_
  refine r_iconst (pc := 18) X dX0_clear_18 hG rfl (fun z5 hG => ?_)
  refine r_cV (pc := 19) hG (fun _ hg => runS X dX0_clear_19 (c_J7_fill_53178 (at_X0_heaped Hb0) (by decide) hg) mM_X0_70 mS_J7_fill_53178 mN_J7 mK_J7_fill_53178 rfl rfl hdd_J7_fill_53178 ⟨(Nat.le_of_ble_eq_true rfl), (Nat.le_of_ble_eq_true rfl)⟩ rfl rfl (Nat.le_of_ble_eq_true rfl) ⟨(Nat.le_of_ble_eq_true rfl), (Nat.le_of_ble_eq_true rfl)⟩) (fun h6 hG => ?_)
  refine r_aload_n (pc := 22) X dX0_clear_22 rfl rfl ?_
  refine r_getC (pc := 23) X (at_X0_o Hb0) rfl mU_X0 (k := 2) (by decide) (q := (b0 + 3)) rfl mF_X0_18 dX0_clear_23 ?_
  refine r_iconst (pc := 26) X dX0_clear_26 hG rfl (fun z7 hG => ?_)
  refine r_cV (pc := 27) hG (fun _ hg => runS X dX0_clear_27 (c_J7_fill_53178 (at_X0_stones Hb0) (by decide) hg) mM_X0_70 mS_J7_fill_53178 mN_J7 mK_J7_fill_53178 rfl rfl hdd_J7_fill_53178 ⟨(Nat.le_of_ble_eq_true rfl), (Nat.le_of_ble_eq_true rfl)⟩ rfl rfl (Nat.le_of_ble_eq_true rfl) ⟨(Nat.le_of_ble_eq_true rfl), (Nat.le_of_ble_eq_true rfl)⟩) (fun h8 hG => ?_)
  refine r_aload_n (pc := 30) X dX0_clear_30 rfl rfl ?_
  refine r_iconst (pc := 31) X dX0_clear_31 hG rfl (fun z9 hG => ?_)
  refine r_putI (pc := 32) X (at_X0_o Hb0) rfl mU_X0 (k := 5) (by decide) rfl rfl rfl mF_X0_76 dX0_clear_32 hG (fun h10 hG => ?_)
  refine r_aload_n (pc := 35) X dX0_clear_35 rfl rfl ?_
  refine r_iconst (pc := 36) X dX0_clear_36 hG rfl (fun z11 hG => ?_)
  refine r_putI (pc := 37) X (at_X0_o Hb0) rfl mU_X0 (k := 6) (by decide) rfl rfl rfl mF_X0_46 dX0_clear_37 hG (fun h12 hG => ?_)
  refine r_aload_n (pc := 40) X dX0_clear_40 rfl rfl ?_
  refine r_iconst (pc := 41) X dX0_clear_41 hG rfl (fun z13 hG => ?_)
  refine r_putI (pc := 42) X (at_X0_o Hb0) rfl mU_X0 (k := 7) (by decide) rfl rfl rfl mF_X0_79 dX0_clear_42 hG (fun h14 hG => ?_)
  refine r_aload_n (pc := 45) X dX0_clear_45 rfl rfl ?_
  refine r_iconst (pc := 46) X dX0_clear_46 hG rfl (fun z15 hG => ?_)
  refine r_putZ (pc := 47) X (at_X0_o Hb0) rfl mU_X0 (k := 8) (by decide) rfl rfl rfl mF_X0_82 dX0_clear_47 hG (fun h16 hG => ?_)
  exact r_vret (pc := 50) X dX0_clear_50 hQ hG
theorem c_X0_clear {b0 : Nat} {r : Hp} (Hb0 : At_X0 shl b0) (hg : g_X0_clear b0 h = some r) : Met l yX0_clear (wsM yX0_clear cX0_clear 1 none) rm_X0_clear (va_Pc [.ref (ad b0)] (World E ad shl h)) (QcV E ad shl r) 0 0 (bsA E) :=
  met_of (L0 := [some (.ref (ad b0))]) rfl rfl rfl (Nat.le_of_ble_eq_true rfl) (fun _ _ _ _ _ _ _ X => w_X0_clear Hb0 X rfl hg)
abbrev rm_X8_strengthOf : Room := { frames := 1, cells := 0, slots := 0, locals := 21 }
theorem hdd_X8_strengthOf : yX8_strengthOf.cls ≠ "java/lang/invoke/MethodHandle" ∧ yX8_strengthOf.cls ≠ "java/lang/invoke/VarHandle" ∧ (parseMethodDescriptor yX8_strengthOf.desc).map (fun d => d.parameters.length) = some 4 := ⟨by decide +kernel, by decide +kernel, by decide +kernel⟩
set_option maxRecDepth 100000 in
set_option maxHeartbeats 4000000 in
theorem w_X8_strengthOf {x1 : Int32} {x2 : Int32} {x3 : Int32} {x4 : Int32} {r : Int}  (X : Cx E p s m args meth c cX8_strengthOf RX8 4 (some .int)) (hQ : Q = MQ below (QcI E ad shl r h) args s 0 0 (bsA E)) (hG : g_X8_strengthOf x1.toInt x2.toInt x3.toInt x4.toInt = some r) : Ev E ad shl p l e rm_X8_strengthOf s m args below meth c 0 0 Q 4 h 0 [some (.int x1), some (.int x2), some (.int x3), some (.int x4)] [] := by
  unfold g_X8_strengthOf at hG
  refine r_iload_n (pc := 0) X dX8_strengthOf_0 rfl rfl ?_
  refine r_join hG (fun _ => Ev E ad shl p l e rm_X8_strengthOf s m args below meth c 0 0 Q 4 h 10 [none, none, none, none] []) (fun a1 hG => ?_) (fun j2 Hj2 hG => ?_)
  · skip
    refine r_iconst (pc := 10) X dX8_strengthOf_10 hG rfl (fun z3 hG => ?_)
    exact r_iretP (pc := 11) X dX8_strengthOf_11 hQ hG
  refine r_if_le (pc := 1) X dX8_strengthOf_1 (tgt := 10) (by decide) hG (fun hG => ?_) (fun hG => ?_)
  · skip
    exact r_mask [false, false, false, false] rfl (Hj2 _ hG)
  · skip
    refine r_iload_n (pc := 4) X dX8_strengthOf_4 rfl rfl ?_
    refine r_bipush (pc := 5) X dX8_strengthOf_5 hG (by decide) (fun z4 hG => ?_)
    refine r_icmp_lt (pc := 7) X dX8_strengthOf_7 (tgt := 12) (by decide) hG (fun hG => ?_) (fun hG => ?_)
    · skip
      refine r_iconst (pc := 12) X dX8_strengthOf_12 hG rfl (fun z5 hG => ?_)
      refine r_iload_n (pc := 13) X dX8_strengthOf_13 rfl rfl ?_
      refine r_iload_n (pc := 14) X dX8_strengthOf_14 rfl rfl ?_
      refine r_iload_n (pc := 15) X dX8_strengthOf_15 rfl rfl ?_
      refine r_iload_n (pc := 16) X dX8_strengthOf_16 rfl rfl ?_
      refine r_isub (pc := 17) X dX8_strengthOf_17 hG (fun z6 hG => ?_)
      refine r_mabs (pc := 18) X dX8_strengthOf_18 mM_X8_356 (Nat.le_of_ble_eq_true rfl) (Nat.le_of_ble_eq_true rfl) (Nat.le_of_ble_eq_true rfl) (Nat.le_of_ble_eq_true rfl) hG (fun z7 hG => ?_)
      refine r_imul (pc := 21) X dX8_strengthOf_21 hG (fun z8 hG => ?_)
      refine r_isub (pc := 22) X dX8_strengthOf_22 hG (fun z9 hG => ?_)
      refine r_mmax (pc := 23) X dX8_strengthOf_23 mM_X8_322 (Nat.le_of_ble_eq_true rfl) (Nat.le_of_ble_eq_true rfl) (Nat.le_of_ble_eq_true rfl) (Nat.le_of_ble_eq_true rfl) hG (fun z10 hG => ?_)
      exact r_iretP (pc := 26) X dX8_strengthOf_26 hQ hG
    · skip
      exact r_mask [false, false, false, false] rfl (Hj2 _ hG)
theorem c_X8_strengthOf {x1 : Int32} {x2 : Int32} {x3 : Int32} {x4 : Int32} {r : Int}  (hg : g_X8_strengthOf x1.toInt x2.toInt x3.toInt x4.toInt = some r) : Met l yX8_strengthOf (wsM yX8_strengthOf cX8_strengthOf 4 (some .int)) rm_X8_strengthOf (va_Pc [.int x1, .int x2, .int x3, .int x4] (World E ad shl h)) (QcI E ad shl r h) 0 0 (bsA E) :=
  met_of (L0 := [some (.int x1), some (.int x2), some (.int x3), some (.int x4)]) rfl rfl rfl (Nat.le_of_ble_eq_true rfl) (fun _ _ _ _ _ _ _ X => w_X8_strengthOf  X rfl hg)
abbrev rm_X0_weigh : Room := { frames := 2, cells := 0, slots := 0, locals := 44 }
theorem hdd_X0_weigh : yX0_weigh.cls = RX0 ∧ yX0_weigh.cls ≠ "java/lang/invoke/MethodHandle" ∧ yX0_weigh.cls ≠ "java/lang/invoke/VarHandle" ∧ (parseMethodDescriptor yX0_weigh.desc).map (fun d => d.parameters.length) = some 0 := ⟨rfl, by decide +kernel, by decide +kernel, by decide +kernel⟩
set_option maxRecDepth 100000 in
set_option maxHeartbeats 4000000 in
theorem w_X0_weigh {b0 : Nat} {r : Hp} (Hb0 : At_X0 shl b0) (X : Cx E p s m args meth c cX0_weigh RX0 2 none) (hQ : Q = MQ below (QcV E ad shl r) args s 0 0 (bsA E)) (hG : g_X0_weigh b0 h = some r) : Ev E ad shl p l e rm_X0_weigh s m args below meth c 0 0 Q 2 h 0 [some (.ref (ad b0)), none] [] := by
  unfold g_X0_weigh at hG
  refine r_iconst (pc := 0) X dX0_weigh_0 hG rfl (fun z1 hG => ?_)
  refine r_istore_n (pc := 1) (L' := [some (.ref (ad b0)), some (.int z1)]) X dX0_weigh_1 rfl (by decide) rfl rfl ?_
  refine r_mask [true, true] rfl (r_loop (fun q2 => ∀ (y4 : Int32) (h5 : Hp), q2 = (y4.toInt, h5) → Ev E ad shl p l e rm_X0_weigh s m args below meth c 0 0 Q 2 h5 2 [some (.ref (ad b0)), some (.int y4)] []) (fun l3 Hl3 q2 hG => ?_) FU _ hG z1 h rfl)
  intro y4 h5 ha; have ha := ha.symm; subst ha
  unfold g_X0_weigh_l3 at hG
  refine r_iload_n (pc := 2) X dX0_weigh_2 rfl rfl ?_
  refine r_bipush (pc := 3) X dX0_weigh_3 hG (by decide) (fun z6 hG => ?_)
  refine r_icmp_gt (pc := 5) X dX0_weigh_5 (tgt := 45) (by decide) hG (fun hG => ?_) (fun hG => ?_)
  · skip
    exact r_vret (pc := 45) X dX0_weigh_45 hQ hG
  · skip
    refine r_aload_n (pc := 8) X dX0_weigh_8 rfl rfl ?_
    refine r_getC (pc := 9) X (at_X0_o Hb0) rfl mU_X0 (k := 4) (by decide) (q := (b0 + 5)) rfl mF_X0_24 dX0_weigh_9 ?_
    refine r_iload_n (pc := 12) X dX0_weigh_12 rfl rfl ?_
    refine r_iload_n (pc := 13) X dX0_weigh_13 rfl rfl ?_
    refine r_aload_n (pc := 14) X dX0_weigh_14 rfl rfl ?_
    refine r_getC (pc := 15) X (at_X0_o Hb0) rfl mU_X0 (k := 0) (by decide) (q := (b0 + 1)) rfl mF_X0_11 dX0_weigh_15 ?_
    refine r_bipush (pc := 18) X dX0_weigh_18 hG (by decide) (fun z7 hG => ?_)
    refine r_iald (pc := 20) X (at_X0_numbers Hb0) dX0_weigh_20 hG (fun z8 hG => ?_)
    refine r_aload_n (pc := 21) X dX0_weigh_21 rfl rfl ?_
    refine r_getC (pc := 22) X (at_X0_o Hb0) rfl mU_X0 (k := 0) (by decide) (q := (b0 + 1)) rfl mF_X0_11 dX0_weigh_22 ?_
    refine r_bipush (pc := 25) X dX0_weigh_25 hG (by decide) (fun z9 hG => ?_)
    refine r_iald (pc := 27) X (at_X0_numbers Hb0) dX0_weigh_27 hG (fun z10 hG => ?_)
    refine r_aload_n (pc := 28) X dX0_weigh_28 rfl rfl ?_
    refine r_getC (pc := 29) X (at_X0_o Hb0) rfl mU_X0 (k := 0) (by decide) (q := (b0 + 1)) rfl mF_X0_11 dX0_weigh_29 ?_
    refine r_bipush (pc := 32) X dX0_weigh_32 hG (by decide) (fun z11 hG => ?_)
    refine r_iald (pc := 34) X (at_X0_numbers Hb0) dX0_weigh_34 hG (fun z12 hG => ?_)
    refine r_cP (pc := 35) hG (fun _ hg => runSN X dX0_weigh_35 (c_X8_strengthOf  hg) nest_X0_86 mS_X8_strengthOf mN_X8 mK_X8_strengthOf rfl rfl hdd_X8_strengthOf ⟨(Nat.le_of_ble_eq_true rfl), (Nat.le_of_ble_eq_true rfl)⟩ rfl rfl (Nat.le_of_ble_eq_true rfl) ⟨(Nat.le_of_ble_eq_true rfl), (Nat.le_of_ble_eq_true rfl)⟩) (fun z13 hG => ?_)
    refine r_iast (pc := 38) X (at_X0_strength Hb0) dX0_weigh_38 hG (fun h14 hG => ?_)
    refine r_iinc (pc := 39) (L' := fun z15 => [some (.ref (ad b0)), some (.int z15)]) X dX0_weigh_39 (by decide) rfl rfl (by decide) (fun _ => rfl) hG (fun z15 hG => ?_)
    refine r_goto (pc := 42) X dX0_weigh_42 (tgt := 2) (by decide) ?_
    exact r_mask [true, true] rfl (Hl3 _ hG z15 h14 rfl)
theorem c_X0_weigh {b0 : Nat} {r : Hp} (Hb0 : At_X0 shl b0) (hg : g_X0_weigh b0 h = some r) : Met l yX0_weigh (wsM yX0_weigh cX0_weigh 2 none) rm_X0_weigh (va_Pc [.ref (ad b0)] (World E ad shl h)) (QcV E ad shl r) 0 0 (bsA E) :=
  met_of (L0 := [some (.ref (ad b0)), none]) rfl rfl rfl (Nat.le_of_ble_eq_true rfl) (fun _ _ _ _ _ _ _ X => w_X0_weigh Hb0 X rfl hg)
abbrev rm_X2_clear : Room := { frames := 1, cells := 0, slots := 0, locals := 26 }
theorem hdd_X2_clear : yX2_clear.cls = RX2 ∧ yX2_clear.cls ≠ "java/lang/invoke/MethodHandle" ∧ yX2_clear.cls ≠ "java/lang/invoke/VarHandle" ∧ (parseMethodDescriptor yX2_clear.desc).map (fun d => d.parameters.length) = some 0 := ⟨rfl, by decide +kernel, by decide +kernel, by decide +kernel⟩
set_option maxRecDepth 100000 in
set_option maxHeartbeats 4000000 in
theorem w_X2_clear {b0 : Nat} {r : Hp} (Hb0 : At_X2 shl b0) (X : Cx E p s m args meth c cX2_clear RX2 1 none) (hQ : Q = MQ below (QcV E ad shl r) args s 0 0 (bsA E)) (hG : g_X2_clear b0 h = some r) : Ev E ad shl p l e rm_X2_clear s m args below meth c 0 0 Q 1 h 0 [some (.ref (ad b0))] [] := by
  unfold g_X2_clear at hG
  refine r_gets (pc := 0) X (k := 5) rfl mF_X2_44 dX2_clear_0 ?_
  refine r_iconst (pc := 3) X dX2_clear_3 hG rfl (fun z1 hG => ?_)
  refine r_aload_n (pc := 4) X dX2_clear_4 rfl rfl ?_
  refine r_getC (pc := 5) X (at_X2_o Hb0) rfl mU_X2 (k := 0) (by decide) (q := (b0 + 1)) rfl mF_X2_11 dX2_clear_5 ?_
  refine r_iconst (pc := 8) X dX2_clear_8 hG rfl (fun z2 hG => ?_)
  refine r_bipush (pc := 9) X dX2_clear_9 hG (by decide) (fun z3 hG => ?_)
  refine r_copyT (pc := 11) X dX2_clear_11 mM_X2_47 (k := 5) rfl (tabR (k := 5) rfl) (at_X2_numbers Hb0) (Nat.le_of_ble_eq_true rfl) (Nat.le_of_ble_eq_true rfl) hG (fun h4 hG => ?_)
  refine r_aload_n (pc := 14) X dX2_clear_14 rfl rfl ?_
  refine r_iconst (pc := 15) X dX2_clear_15 hG rfl (fun z5 hG => ?_)
  refine r_putI (pc := 16) X (at_X2_o Hb0) rfl mU_X2 (k := 4) (by decide) rfl rfl rfl mF_X2_53 dX2_clear_16 hG (fun h6 hG => ?_)
  refine r_aload_n (pc := 19) X dX2_clear_19 rfl rfl ?_
  refine r_iconst (pc := 20) X dX2_clear_20 hG rfl (fun z7 hG => ?_)
  refine r_putI (pc := 21) X (at_X2_o Hb0) rfl mU_X2 (k := 5) (by decide) rfl rfl rfl mF_X2_40 dX2_clear_21 hG (fun h8 hG => ?_)
  refine r_aload_n (pc := 24) X dX2_clear_24 rfl rfl ?_
  refine r_iconst (pc := 25) X dX2_clear_25 hG rfl (fun z9 hG => ?_)
  refine r_putI (pc := 26) X (at_X2_o Hb0) rfl mU_X2 (k := 6) (by decide) rfl rfl rfl mF_X2_56 dX2_clear_26 hG (fun h10 hG => ?_)
  exact r_vret (pc := 29) X dX2_clear_29 hQ hG
theorem c_X2_clear {b0 : Nat} {r : Hp} (Hb0 : At_X2 shl b0) (hg : g_X2_clear b0 h = some r) : Met l yX2_clear (wsM yX2_clear cX2_clear 1 none) rm_X2_clear (va_Pc [.ref (ad b0)] (World E ad shl h)) (QcV E ad shl r) 0 0 (bsA E) :=
  met_of (L0 := [some (.ref (ad b0))]) rfl rfl rfl (Nat.le_of_ble_eq_true rfl) (fun _ _ _ _ _ _ _ X => w_X2_clear Hb0 X rfl hg)
abbrev rm_X0_firstHeight : Room := { frames := 0, cells := 0, slots := 0, locals := 0 }
theorem hdd_X0_firstHeight : yX0_firstHeight.cls = RX0 ∧ yX0_firstHeight.cls ≠ "java/lang/invoke/MethodHandle" ∧ yX0_firstHeight.cls ≠ "java/lang/invoke/VarHandle" ∧ (parseMethodDescriptor yX0_firstHeight.desc).map (fun d => d.parameters.length) = some 1 := ⟨rfl, by decide +kernel, by decide +kernel, by decide +kernel⟩
set_option maxRecDepth 100000 in
set_option maxHeartbeats 4000000 in
theorem w_X0_firstHeight {b0 : Nat} {x1 : Int32} {r : Int} (Hb0 : At_X0 shl b0) (X : Cx E p s m args meth c cX0_firstHeight RX0 2 (some .int)) (hQ : Q = MQ below (QcI E ad shl r h) args s 0 0 (bsA E)) (hG : g_X0_firstHeight b0 x1.toInt h = some r) : Ev E ad shl p l e rm_X0_firstHeight s m args below meth c 0 0 Q 2 h 0 [some (.ref (ad b0)), some (.int x1)] [] := by
  unfold g_X0_firstHeight at hG
  refine r_iload_n (pc := 0) X dX0_firstHeight_0 rfl rfl ?_
  refine r_join hG (fun a1 => ∀ (y3 : Int32), a1 = y3.toInt → Ev E ad shl p l e rm_X0_firstHeight s m args below meth c 0 0 Q 2 h 27 [none, none] [.int y3]) (fun a1 hG => ?_) (fun j2 Hj2 hG => ?_)
  · skip
    intro y3 ha; have ha := ha.symm; subst ha
    exact r_iretP (pc := 27) X dX0_firstHeight_27 hQ hG
  refine r_join hG (fun _ => Ev E ad shl p l e rm_X0_firstHeight s m args below meth c 0 0 Q 2 h 26 [none, none] []) (fun a4 hG => ?_) (fun j5 Hj5 hG => ?_)
  · skip
    refine r_iconst (pc := 26) X dX0_firstHeight_26 hG rfl (fun z6 hG => ?_)
    exact r_mask [false, false] rfl (Hj2 _ hG z6 rfl)
  refine r_if_lt (pc := 1) X dX0_firstHeight_1 (tgt := 26) (by decide) hG (fun hG => ?_) (fun hG => ?_)
  · skip
    exact r_mask [false, false] rfl (Hj5 _ hG)
  · skip
    refine r_iload_n (pc := 4) X dX0_firstHeight_4 rfl rfl ?_
    refine r_bipush (pc := 5) X dX0_firstHeight_5 hG (by decide) (fun z7 hG => ?_)
    refine r_icmp_ge (pc := 7) X dX0_firstHeight_7 (tgt := 26) (by decide) hG (fun hG => ?_) (fun hG => ?_)
    · skip
      exact r_mask [false, false] rfl (Hj5 _ hG)
    · skip
      refine r_aload_n (pc := 10) X dX0_firstHeight_10 rfl rfl ?_
      refine r_getC (pc := 11) X (at_X0_o Hb0) rfl mU_X0 (k := 0) (by decide) (q := (b0 + 1)) rfl mF_X0_11 dX0_firstHeight_11 ?_
      refine r_iconst (pc := 14) X dX0_firstHeight_14 hG rfl (fun z8 hG => ?_)
      refine r_iald (pc := 15) X (at_X0_numbers Hb0) dX0_firstHeight_15 hG (fun z9 hG => ?_)
      refine r_aload_n (pc := 16) X dX0_firstHeight_16 rfl rfl ?_
      refine r_getC (pc := 17) X (at_X0_o Hb0) rfl mU_X0 (k := 1) (by decide) (q := (b0 + 2)) rfl mF_X0_15 dX0_firstHeight_17 ?_
      refine r_iload_n (pc := 20) X dX0_firstHeight_20 rfl rfl ?_
      refine r_iald (pc := 21) X (at_X0_heaped Hb0) dX0_firstHeight_21 hG (fun z10 hG => ?_)
      refine r_iadd (pc := 22) X dX0_firstHeight_22 hG (fun z11 hG => ?_)
      refine r_goto (pc := 23) X dX0_firstHeight_23 (tgt := 27) (by decide) ?_
      exact r_mask [false, false] rfl (Hj2 _ hG z11 rfl)
theorem c_X0_firstHeight {b0 : Nat} {x1 : Int32} {r : Int} (Hb0 : At_X0 shl b0) (hg : g_X0_firstHeight b0 x1.toInt h = some r) : Met l yX0_firstHeight (wsM yX0_firstHeight cX0_firstHeight 2 (some .int)) rm_X0_firstHeight (va_Pc [.ref (ad b0), .int x1] (World E ad shl h)) (QcI E ad shl r h) 0 0 (bsA E) :=
  met_of (L0 := [some (.ref (ad b0)), some (.int x1)]) rfl rfl rfl (Nat.le_of_ble_eq_true rfl) (fun _ _ _ _ _ _ _ X => w_X0_firstHeight Hb0 X rfl hg)
abbrev rm_X3_hold : Room := { frames := 1, cells := 0, slots := 0, locals := 23 }
theorem hdd_X3_hold : yX3_hold.cls = RX3 ∧ yX3_hold.cls ≠ "java/lang/invoke/MethodHandle" ∧ yX3_hold.cls ≠ "java/lang/invoke/VarHandle" ∧ (parseMethodDescriptor yX3_hold.desc).map (fun d => d.parameters.length) = some 1 := ⟨rfl, by decide +kernel, by decide +kernel, by decide +kernel⟩
set_option maxRecDepth 100000 in
set_option maxHeartbeats 4000000 in
theorem w_X3_hold {b0 : Nat} {x1 : Int32} {r : Hp} (Hb0 : At_X3 shl b0) (X : Cx E p s m args meth c cX3_hold RX3 2 none) (hQ : Q = MQ below (QcV E ad shl r) args s 0 0 (bsA E)) (hG : g_X3_hold b0 x1.toInt h = some r) : Ev E ad shl p l e rm_X3_hold s m args below meth c 0 0 Q 2 h 0 [some (.ref (ad b0)), some (.int x1)] [] := by
  unfold g_X3_hold at hG
  refine r_aload_n (pc := 0) X dX3_hold_0 rfl rfl ?_
  refine r_iload_n (pc := 1) X dX3_hold_1 rfl rfl ?_
  refine r_putI (pc := 2) X (at_X3_o Hb0) rfl mU_X3 (k := 7) (by decide) rfl rfl rfl mF_X3_33 dX3_hold_2 hG (fun h1 hG => ?_)
  refine r_aload_n (pc := 5) X dX3_hold_5 rfl rfl ?_
  refine r_getC (pc := 6) X (at_X3_o Hb0) rfl mU_X3 (k := 5) (by decide) (q := (b0 + 6)) rfl mF_X3_27 dX3_hold_6 ?_
  refine r_iconst (pc := 9) X dX3_hold_9 hG rfl (fun z2 hG => ?_)
  refine r_cV (pc := 10) hG (fun _ hg => runS X dX3_hold_10 (c_J7_fill_53178 (at_X3_nextAct Hb0) (by decide) hg) mM_X3_52 mS_J7_fill_53178 mN_J7 mK_J7_fill_53178 rfl rfl hdd_J7_fill_53178 ⟨(Nat.le_of_ble_eq_true rfl), (Nat.le_of_ble_eq_true rfl)⟩ rfl rfl (Nat.le_of_ble_eq_true rfl) ⟨(Nat.le_of_ble_eq_true rfl), (Nat.le_of_ble_eq_true rfl)⟩) (fun h3 hG => ?_)
  refine r_aload_n (pc := 13) X dX3_hold_13 rfl rfl ?_
  refine r_getC (pc := 14) X (at_X3_o Hb0) rfl mU_X3 (k := 6) (by decide) (q := (b0 + 7)) rfl mF_X3_30 dX3_hold_14 ?_
  refine r_iconst (pc := 17) X dX3_hold_17 hG rfl (fun z4 hG => ?_)
  refine r_cV (pc := 18) hG (fun _ hg => runS X dX3_hold_18 (c_J7_fill_53178 (at_X3_actsSinceRest Hb0) (by decide) hg) mM_X3_52 mS_J7_fill_53178 mN_J7 mK_J7_fill_53178 rfl rfl hdd_J7_fill_53178 ⟨(Nat.le_of_ble_eq_true rfl), (Nat.le_of_ble_eq_true rfl)⟩ rfl rfl (Nat.le_of_ble_eq_true rfl) ⟨(Nat.le_of_ble_eq_true rfl), (Nat.le_of_ble_eq_true rfl)⟩) (fun h5 hG => ?_)
  exact r_vret (pc := 21) X dX3_hold_21 hQ hG
theorem c_X3_hold {b0 : Nat} {x1 : Int32} {r : Hp} (Hb0 : At_X3 shl b0) (hg : g_X3_hold b0 x1.toInt h = some r) : Met l yX3_hold (wsM yX3_hold cX3_hold 2 none) rm_X3_hold (va_Pc [.ref (ad b0), .int x1] (World E ad shl h)) (QcV E ad shl r) 0 0 (bsA E) :=
  met_of (L0 := [some (.ref (ad b0)), some (.int x1)]) rfl rfl rfl (Nat.le_of_ble_eq_true rfl) (fun _ _ _ _ _ _ _ X => w_X3_hold Hb0 X rfl hg)
abbrev rm_X3_begin : Room := { frames := 2, cells := 0, slots := 0, locals := 44 }
theorem hdd_X3_begin : yX3_begin.cls = RX3 ∧ yX3_begin.cls ≠ "java/lang/invoke/MethodHandle" ∧ yX3_begin.cls ≠ "java/lang/invoke/VarHandle" ∧ (parseMethodDescriptor yX3_begin.desc).map (fun d => d.parameters.length) = some 1 := ⟨rfl, by decide +kernel, by decide +kernel, by decide +kernel⟩
set_option maxRecDepth 100000 in
set_option maxHeartbeats 4000000 in
theorem w_X3_begin {b0 : Nat} {b1 : Nat} {r : Hp} (Hb0 : At_X3 shl b0) (Hb1 : At_X0 shl b1) (X : Cx E p s m args meth c cX3_begin RX3 3 none) (hQ : Q = MQ below (QcV E ad shl r) args s 0 0 (bsA E)) (hG : g_X3_begin b0 b1 h = some r) : Ev E ad shl p l e rm_X3_begin s m args below meth c 0 0 Q 3 h 0 [some (.ref (ad b0)), some (.ref (ad b1)), none] [] := by
  unfold g_X3_begin at hG
  refine r_iconst (pc := 0) X dX3_begin_0 hG rfl (fun z1 hG => ?_)
  refine r_istore_n (pc := 1) (L' := [some (.ref (ad b0)), some (.ref (ad b1)), some (.int z1)]) X dX3_begin_1 rfl (by decide) rfl rfl ?_
  refine r_join hG (fun a2 => ∀ (h4 : Hp), a2 = h4 → Ev E ad shl p l e rm_X3_begin s m args below meth c 0 0 Q 3 h4 37 [some (.ref (ad b0)), some (.ref (ad b1)), none] []) (fun a2 hG => ?_) (fun j3 Hj3 hG => ?_)
  · skip
    intro h4 ha; have ha := ha.symm; subst ha
    refine r_aload_n (pc := 37) X dX3_begin_37 rfl rfl ?_
    refine r_getC (pc := 38) X (at_X3_o Hb0) rfl mU_X3 (k := 1) (by decide) (q := (b0 + 2)) rfl mF_X3_15 dX3_begin_38 ?_
    refine r_aload_n (pc := 41) X dX3_begin_41 rfl rfl ?_
    refine r_getC (pc := 42) X (at_X0_o Hb1) rfl mU_X0 (k := 0) (by decide) (q := (b1 + 1)) rfl mF_X3_49 dX3_begin_42 ?_
    refine r_iconst (pc := 45) X dX3_begin_45 hG rfl (fun z5 hG => ?_)
    refine r_iald (pc := 46) X (at_X0_numbers Hb1) dX3_begin_46 hG (fun z6 hG => ?_)
    refine r_cV (pc := 47) hG (fun _ hg => runS X dX3_begin_47 (c_J7_fill_53178 (at_X3_wet Hb0) (by decide) hg) mM_X3_52 mS_J7_fill_53178 mN_J7 mK_J7_fill_53178 rfl rfl hdd_J7_fill_53178 ⟨(Nat.le_of_ble_eq_true rfl), (Nat.le_of_ble_eq_true rfl)⟩ rfl rfl (Nat.le_of_ble_eq_true rfl) ⟨(Nat.le_of_ble_eq_true rfl), (Nat.le_of_ble_eq_true rfl)⟩) (fun h7 hG => ?_)
    refine r_aload_n (pc := 50) X dX3_begin_50 rfl rfl ?_
    refine r_getC (pc := 51) X (at_X3_o Hb0) rfl mU_X3 (k := 2) (by decide) (q := (b0 + 3)) rfl mF_X3_18 dX3_begin_51 ?_
    refine r_iconst (pc := 54) X dX3_begin_54 hG rfl (fun z8 hG => ?_)
    refine r_cV (pc := 55) hG (fun _ hg => runS X dX3_begin_55 (c_J7_fill_53178 (at_X3_pack Hb0) (by decide) hg) mM_X3_52 mS_J7_fill_53178 mN_J7 mK_J7_fill_53178 rfl rfl hdd_J7_fill_53178 ⟨(Nat.le_of_ble_eq_true rfl), (Nat.le_of_ble_eq_true rfl)⟩ rfl rfl (Nat.le_of_ble_eq_true rfl) ⟨(Nat.le_of_ble_eq_true rfl), (Nat.le_of_ble_eq_true rfl)⟩) (fun h9 hG => ?_)
    refine r_aload_n (pc := 58) X dX3_begin_58 rfl rfl ?_
    refine r_getC (pc := 59) X (at_X3_o Hb0) rfl mU_X3 (k := 4) (by decide) (q := (b0 + 5)) rfl mF_X3_24 dX3_begin_59 ?_
    refine r_iconst (pc := 62) X dX3_begin_62 hG rfl (fun z10 hG => ?_)
    refine r_cV (pc := 63) hG (fun _ hg => runS X dX3_begin_63 (c_J7_fill_53178 (at_X3_fell Hb0) (by decide) hg) mM_X3_52 mS_J7_fill_53178 mN_J7 mK_J7_fill_53178 rfl rfl hdd_J7_fill_53178 ⟨(Nat.le_of_ble_eq_true rfl), (Nat.le_of_ble_eq_true rfl)⟩ rfl rfl (Nat.le_of_ble_eq_true rfl) ⟨(Nat.le_of_ble_eq_true rfl), (Nat.le_of_ble_eq_true rfl)⟩) (fun h11 hG => ?_)
    refine r_aload_n (pc := 66) X dX3_begin_66 rfl rfl ?_
    refine r_iconst (pc := 67) X dX3_begin_67 hG rfl (fun z12 hG => ?_)
    refine r_cV (pc := 68) hG (fun _ hg => runV X dX3_begin_68 (c_X3_hold Hb0 hg) mM_X3_58 mI_X3_hold mE_X3_hold mN_X3 mK_X3_hold (at_X3_o Hb0) rfl rfl rfl rfl hdd_X3_hold ⟨(Nat.le_of_ble_eq_true rfl), (Nat.le_of_ble_eq_true rfl)⟩ rfl rfl (Nat.le_of_ble_eq_true rfl) ⟨(Nat.le_of_ble_eq_true rfl), (Nat.le_of_ble_eq_true rfl)⟩) (fun h13 hG => ?_)
    refine r_aload_n (pc := 71) X dX3_begin_71 rfl rfl ?_
    refine r_iconst (pc := 72) X dX3_begin_72 hG rfl (fun z14 hG => ?_)
    refine r_putI (pc := 73) X (at_X3_o Hb0) rfl mU_X3 (k := 9) (by decide) rfl rfl rfl mF_X3_62 dX3_begin_73 hG (fun h15 hG => ?_)
    refine r_aload_n (pc := 76) X dX3_begin_76 rfl rfl ?_
    refine r_iconst (pc := 77) X dX3_begin_77 hG rfl (fun z16 hG => ?_)
    refine r_putI (pc := 78) X (at_X3_o Hb0) rfl mU_X3 (k := 10) (by decide) rfl rfl rfl mF_X3_65 dX3_begin_78 hG (fun h17 hG => ?_)
    refine r_aload_n (pc := 81) X dX3_begin_81 rfl rfl ?_
    refine r_iconst (pc := 82) X dX3_begin_82 hG rfl (fun z18 hG => ?_)
    refine r_putI (pc := 83) X (at_X3_o Hb0) rfl mU_X3 (k := 11) (by decide) rfl rfl rfl mF_X3_68 dX3_begin_83 hG (fun h19 hG => ?_)
    refine r_aload_n (pc := 86) X dX3_begin_86 rfl rfl ?_
    refine r_iconst (pc := 87) X dX3_begin_87 hG rfl (fun z20 hG => ?_)
    refine r_putI (pc := 88) X (at_X3_o Hb0) rfl mU_X3 (k := 12) (by decide) rfl rfl rfl mF_X3_71 dX3_begin_88 hG (fun h21 hG => ?_)
    refine r_aload_n (pc := 91) X dX3_begin_91 rfl rfl ?_
    refine r_iconst (pc := 92) X dX3_begin_92 hG rfl (fun z22 hG => ?_)
    refine r_putI (pc := 93) X (at_X3_o Hb0) rfl mU_X3 (k := 13) (by decide) rfl rfl rfl mF_X3_74 dX3_begin_93 hG (fun h23 hG => ?_)
    refine r_aload_n (pc := 96) X dX3_begin_96 rfl rfl ?_
    refine r_iconst (pc := 97) X dX3_begin_97 hG rfl (fun z24 hG => ?_)
    refine r_putI (pc := 98) X (at_X3_o Hb0) rfl mU_X3 (k := 14) (by decide) rfl rfl rfl mF_X3_77 dX3_begin_98 hG (fun h25 hG => ?_)
    refine r_aload_n (pc := 101) X dX3_begin_101 rfl rfl ?_
    refine r_iconst (pc := 102) X dX3_begin_102 hG rfl (fun z26 hG => ?_)
    refine r_putZ (pc := 103) X (at_X3_o Hb0) rfl mU_X3 (k := 15) (by decide) rfl rfl rfl mF_X3_80 dX3_begin_103 hG (fun h27 hG => ?_)
    exact r_vret (pc := 106) X dX3_begin_106 hQ hG
  refine r_mask [true, true, true] rfl (r_loop (fun q28 => ∀ (y30 : Int32) (h31 : Hp), q28 = (y30.toInt, h31) → Ev E ad shl p l e rm_X3_begin s m args below meth c 0 0 Q 3 h31 2 [some (.ref (ad b0)), some (.ref (ad b1)), some (.int y30)] []) (fun l29 Hl29 q28 hG => ?_) FU _ hG z1 h rfl)
  intro y30 h31 ha; have ha := ha.symm; subst ha
  unfold g_X3_begin_l29 at hG
  refine r_iload_n (pc := 2) X dX3_begin_2 rfl rfl ?_
  refine r_bipush (pc := 3) X dX3_begin_3 hG (by decide) (fun z32 hG => ?_)
  refine r_icmp_ge (pc := 5) X dX3_begin_5 (tgt := 37) (by decide) hG (fun hG => ?_) (fun hG => ?_)
  · skip
    exact r_mask [true, true, false] rfl (Hj3 _ hG h31 rfl)
  · skip
    refine r_aload_n (pc := 8) X dX3_begin_8 rfl rfl ?_
    refine r_getC (pc := 9) X (at_X3_o Hb0) rfl mU_X3 (k := 0) (by decide) (q := (b0 + 1)) rfl mF_X3_9 dX3_begin_9 ?_
    refine r_iload_n (pc := 12) X dX3_begin_12 rfl rfl ?_
    refine r_aload_n (pc := 13) X dX3_begin_13 rfl rfl ?_
    refine r_iload_n (pc := 14) X dX3_begin_14 rfl rfl ?_
    refine r_cP (pc := 15) hG (fun _ hg => runV X dX3_begin_15 (c_X0_firstHeight Hb1 hg) mM_X3_40 mI_X0_firstHeight mE_X0_firstHeight mN_X0 mK_X0_firstHeight (at_X0_o Hb1) rfl rfl rfl rfl hdd_X0_firstHeight ⟨(Nat.le_of_ble_eq_true rfl), (Nat.le_of_ble_eq_true rfl)⟩ rfl rfl (Nat.le_of_ble_eq_true rfl) ⟨(Nat.le_of_ble_eq_true rfl), (Nat.le_of_ble_eq_true rfl)⟩) (fun z33 hG => ?_)
    refine r_iast (pc := 18) X (at_X3_height Hb0) dX3_begin_18 hG (fun h34 hG => ?_)
    refine r_aload_n (pc := 19) X dX3_begin_19 rfl rfl ?_
    refine r_getC (pc := 20) X (at_X3_o Hb0) rfl mU_X3 (k := 3) (by decide) (q := (b0 + 4)) rfl mF_X3_21 dX3_begin_20 ?_
    refine r_iload_n (pc := 23) X dX3_begin_23 rfl rfl ?_
    refine r_aload_n (pc := 24) X dX3_begin_24 rfl rfl ?_
    refine r_getC (pc := 25) X (at_X0_o Hb1) rfl mU_X0 (k := 2) (by decide) (q := (b1 + 3)) rfl mF_X3_46 dX3_begin_25 ?_
    refine r_iload_n (pc := 28) X dX3_begin_28 rfl rfl ?_
    refine r_iald (pc := 29) X (at_X0_stones Hb1) dX3_begin_29 hG (fun z35 hG => ?_)
    refine r_iast (pc := 30) X (at_X3_stone Hb0) dX3_begin_30 hG (fun h36 hG => ?_)
    refine r_iinc (pc := 31) (L' := fun z37 => [some (.ref (ad b0)), some (.ref (ad b1)), some (.int z37)]) X dX3_begin_31 (by decide) rfl rfl (by decide) (fun _ => rfl) hG (fun z37 hG => ?_)
    refine r_goto (pc := 34) X dX3_begin_34 (tgt := 2) (by decide) ?_
    exact r_mask [true, true, true] rfl (Hl29 _ hG z37 h36 rfl)
theorem c_X3_begin {b0 : Nat} {b1 : Nat} {r : Hp} (Hb0 : At_X3 shl b0) (Hb1 : At_X0 shl b1) (hg : g_X3_begin b0 b1 h = some r) : Met l yX3_begin (wsM yX3_begin cX3_begin 3 none) rm_X3_begin (va_Pc [.ref (ad b0), .ref (ad b1)] (World E ad shl h)) (QcV E ad shl r) 0 0 (bsA E) :=
  met_of (L0 := [some (.ref (ad b0)), some (.ref (ad b1)), none]) rfl rfl rfl (Nat.le_of_ble_eq_true rfl) (fun _ _ _ _ _ _ _ X => w_X3_begin Hb0 Hb1 X rfl hg)
abbrev rm_X5_append : Room := { frames := 0, cells := 0, slots := 0, locals := 0 }
theorem hdd_X5_append : yX5_append.cls = RX5 ∧ yX5_append.cls ≠ "java/lang/invoke/MethodHandle" ∧ yX5_append.cls ≠ "java/lang/invoke/VarHandle" ∧ (parseMethodDescriptor yX5_append.desc).map (fun d => d.parameters.length) = some 1 := ⟨rfl, by decide +kernel, by decide +kernel, by decide +kernel⟩
set_option maxRecDepth 100000 in
set_option maxHeartbeats 4000000 in
theorem w_X5_append {b0 : Nat} {x1 : Int32} {r : Hp} (Hb0 : At_X5 shl b0) (X : Cx E p s m args meth c cX5_append RX5 3 none) (hQ : Q = MQ below (QcV E ad shl r) args s 0 0 (bsA E)) (hG : g_X5_append b0 x1.toInt h = some r) : Ev E ad shl p l e rm_X5_append s m args below meth c 0 0 Q 3 h 0 [some (.ref (ad b0)), some (.int x1), none] [] := by
  unfold g_X5_append at hG
  refine r_bipush (pc := 0) X dX5_append_0 hG (by decide) (fun z1 hG => ?_)
  refine r_istore_n (pc := 2) (L' := [some (.ref (ad b0)), some (.int x1), some (.int z1)]) X dX5_append_2 rfl (by decide) rfl rfl ?_
  refine r_join hG (fun a2 => ∀ (h4 : Hp), a2 = h4 → Ev E ad shl p l e rm_X5_append s m args below meth c 0 0 Q 3 h4 49 [none, none, none] []) (fun a2 hG => ?_) (fun j3 Hj3 hG => ?_)
  · skip
    intro h4 ha; have ha := ha.symm; subst ha
    exact r_vret (pc := 49) X dX5_append_49 hQ hG
  refine r_mask [true, true, true] rfl (r_loop (fun q5 => ∀ (y7 : Int32) (h8 : Hp), q5 = (y7.toInt, h8) → Ev E ad shl p l e rm_X5_append s m args below meth c 0 0 Q 3 h8 3 [some (.ref (ad b0)), some (.int x1), some (.int y7)] []) (fun l6 Hl6 q5 hG => ?_) FU _ hG z1 h rfl)
  intro y7 h8 ha; have ha := ha.symm; subst ha
  unfold g_X5_append_l6 at hG
  refine r_iload_n (pc := 3) X dX5_append_3 rfl rfl ?_
  refine r_if_lt (pc := 4) X dX5_append_4 (tgt := 49) (by decide) hG (fun hG => ?_) (fun hG => ?_)
  · skip
    exact r_mask [false, false, false] rfl (Hj3 _ hG h8 rfl)
  · skip
    refine r_aload_n (pc := 7) X dX5_append_7 rfl rfl ?_
    refine r_getI (pc := 8) X (at_X5_o Hb0) rfl mU_X5 (k := 1) (by decide) rfl mF_X5_19 dX5_append_8 hG (fun z9 hG => ?_)
    refine r_sipush (pc := 11) X dX5_append_11 hG (by decide) (fun z10 hG => ?_)
    refine r_icmp_ge (pc := 14) X dX5_append_14 (tgt := 49) (by decide) hG (fun hG => ?_) (fun hG => ?_)
    · skip
      exact r_mask [false, false, false] rfl (Hj3 _ hG h8 rfl)
    · skip
      refine r_aload_n (pc := 17) X dX5_append_17 rfl rfl ?_
      refine r_getC (pc := 18) X (at_X5_o Hb0) rfl mU_X5 (k := 0) (by decide) (q := (b0 + 1)) rfl mF_X5_11 dX5_append_18 ?_
      refine r_aload_n (pc := 21) X dX5_append_21 rfl rfl ?_
      refine r_getI (pc := 22) X (at_X5_o Hb0) rfl mU_X5 (k := 1) (by decide) rfl mF_X5_19 dX5_append_22 hG (fun z11 hG => ?_)
      refine r_iload_n (pc := 25) X dX5_append_25 rfl rfl ?_
      refine r_iload_n (pc := 26) X dX5_append_26 rfl rfl ?_
      refine r_ishr (pc := 27) X dX5_append_27 hG (fun z12 hG => ?_)
      refine r_sipush (pc := 28) X dX5_append_28 hG (by decide) (fun z13 hG => ?_)
      refine r_iand (pc := 31) X dX5_append_31 hG (fun z14 hG => ?_)
      refine r_iast (pc := 32) X (at_X5_bytes Hb0) dX5_append_32 hG (fun h15 hG => ?_)
      refine r_aload_n (pc := 33) X dX5_append_33 rfl rfl ?_
      refine r_dup (pc := 34) X dX5_append_34 rfl ?_
      refine r_getI (pc := 35) X (at_X5_o Hb0) rfl mU_X5 (k := 1) (by decide) rfl mF_X5_19 dX5_append_35 hG (fun z16 hG => ?_)
      refine r_iconst (pc := 38) X dX5_append_38 hG rfl (fun z17 hG => ?_)
      refine r_iadd (pc := 39) X dX5_append_39 hG (fun z18 hG => ?_)
      refine r_putI (pc := 40) X (at_X5_o Hb0) rfl mU_X5 (k := 1) (by decide) rfl rfl rfl mF_X5_19 dX5_append_40 hG (fun h19 hG => ?_)
      refine r_iinc (pc := 43) (L' := fun z20 => [some (.ref (ad b0)), some (.int x1), some (.int z20)]) X dX5_append_43 (by decide) rfl rfl (by decide) (fun _ => rfl) hG (fun z20 hG => ?_)
      refine r_goto (pc := 46) X dX5_append_46 (tgt := 3) (by decide) ?_
      exact r_mask [true, true, true] rfl (Hl6 _ hG z20 h19 rfl)
theorem c_X5_append {b0 : Nat} {x1 : Int32} {r : Hp} (Hb0 : At_X5 shl b0) (hg : g_X5_append b0 x1.toInt h = some r) : Met l yX5_append (wsM yX5_append cX5_append 3 none) rm_X5_append (va_Pc [.ref (ad b0), .int x1] (World E ad shl h)) (QcV E ad shl r) 0 0 (bsA E) :=
  met_of (L0 := [some (.ref (ad b0)), some (.int x1), none]) rfl rfl rfl (Nat.le_of_ble_eq_true rfl) (fun _ _ _ _ _ _ _ X => w_X5_append Hb0 X rfl hg)
abbrev rm_X8_feed : Room := { frames := 1, cells := 0, slots := 0, locals := 22 }
theorem hdd_X8_feed : yX8_feed.cls = RX8 ∧ yX8_feed.cls ≠ "java/lang/invoke/MethodHandle" ∧ yX8_feed.cls ≠ "java/lang/invoke/VarHandle" ∧ (parseMethodDescriptor yX8_feed.desc).map (fun d => d.parameters.length) = some 5 := ⟨rfl, by decide +kernel, by decide +kernel, by decide +kernel⟩
set_option maxRecDepth 100000 in
set_option maxHeartbeats 4000000 in
theorem w_X8_feed {x1 : Int32} {x2 : Int32} {x3 : Int32} {x4 : Int32} {x5 : Int32} {r : Int × Hp} (Hb0 : At_X8 shl) (X : Cx E p s m args meth c cX8_feed RX8 6 (some .int)) (hQ : Q = MQ below (QcI E ad shl r.1 r.2) args s 0 0 (bsA E)) (hG : g_X8_feed x1.toInt x2.toInt x3.toInt x4.toInt x5.toInt h = some r) : Ev E ad shl p l e rm_X8_feed s m args below meth c 0 0 Q 6 h 0 [some (.ref (ad 0)), some (.int x1), some (.int x2), some (.int x3), some (.int x4), some (.int x5)] [] := by
  unfold g_X8_feed at hG
  refine r_aload_n (pc := 0) X dX8_feed_0 rfl rfl ?_
  refine r_getC (pc := 1) X (at_X8_o Hb0) rfl mU_X8 (k := 0) (by decide) (q := 1) rfl mF_X8_10 dX8_feed_1 ?_
  refine r_getI (pc := 4) X (at_X5_o (at_X8_tape Hb0)) rfl mU_X5 (k := 1) (by decide) rfl mF_X8_83 dX8_feed_4 hG (fun z1 hG => ?_)
  refine r_bipush (pc := 7) X dX8_feed_7 hG (by decide) (fun z2 hG => ?_)
  refine r_iadd (pc := 9) X dX8_feed_9 hG (fun z3 hG => ?_)
  refine r_sipush (pc := 10) X dX8_feed_10 hG (by decide) (fun z4 hG => ?_)
  refine r_icmp_le (pc := 13) X dX8_feed_13 (tgt := 19) (by decide) hG (fun hG => ?_) (fun hG => ?_)
  · skip
    refine r_aload_n (pc := 19) X dX8_feed_19 rfl rfl ?_
    refine r_getC (pc := 20) X (at_X8_o Hb0) rfl mU_X8 (k := 0) (by decide) (q := 1) rfl mF_X8_10 dX8_feed_20 ?_
    refine r_iload_n (pc := 23) X dX8_feed_23 rfl rfl ?_
    refine r_cV (pc := 24) hG (fun _ hg => runV X dX8_feed_24 (c_X5_append (at_X8_tape Hb0) hg) mM_X8_87 mI_X5_append mE_X5_append mN_X5 mK_X5_append (at_X5_o (at_X8_tape Hb0)) rfl rfl rfl rfl hdd_X5_append ⟨(Nat.le_of_ble_eq_true rfl), (Nat.le_of_ble_eq_true rfl)⟩ rfl rfl (Nat.le_of_ble_eq_true rfl) ⟨(Nat.le_of_ble_eq_true rfl), (Nat.le_of_ble_eq_true rfl)⟩) (fun h5 hG => ?_)
    refine r_aload_n (pc := 27) X dX8_feed_27 rfl rfl ?_
    refine r_getC (pc := 28) X (at_X8_o Hb0) rfl mU_X8 (k := 0) (by decide) (q := 1) rfl mF_X8_10 dX8_feed_28 ?_
    refine r_iload_n (pc := 31) X dX8_feed_31 rfl rfl ?_
    refine r_cV (pc := 32) hG (fun _ hg => runV X dX8_feed_32 (c_X5_append (at_X8_tape Hb0) hg) mM_X8_87 mI_X5_append mE_X5_append mN_X5 mK_X5_append (at_X5_o (at_X8_tape Hb0)) rfl rfl rfl rfl hdd_X5_append ⟨(Nat.le_of_ble_eq_true rfl), (Nat.le_of_ble_eq_true rfl)⟩ rfl rfl (Nat.le_of_ble_eq_true rfl) ⟨(Nat.le_of_ble_eq_true rfl), (Nat.le_of_ble_eq_true rfl)⟩) (fun h6 hG => ?_)
    refine r_aload_n (pc := 35) X dX8_feed_35 rfl rfl ?_
    refine r_getC (pc := 36) X (at_X8_o Hb0) rfl mU_X8 (k := 0) (by decide) (q := 1) rfl mF_X8_10 dX8_feed_36 ?_
    refine r_iload_n (pc := 39) X dX8_feed_39 rfl rfl ?_
    refine r_cV (pc := 40) hG (fun _ hg => runV X dX8_feed_40 (c_X5_append (at_X8_tape Hb0) hg) mM_X8_87 mI_X5_append mE_X5_append mN_X5 mK_X5_append (at_X5_o (at_X8_tape Hb0)) rfl rfl rfl rfl hdd_X5_append ⟨(Nat.le_of_ble_eq_true rfl), (Nat.le_of_ble_eq_true rfl)⟩ rfl rfl (Nat.le_of_ble_eq_true rfl) ⟨(Nat.le_of_ble_eq_true rfl), (Nat.le_of_ble_eq_true rfl)⟩) (fun h7 hG => ?_)
    refine r_aload_n (pc := 43) X dX8_feed_43 rfl rfl ?_
    refine r_getC (pc := 44) X (at_X8_o Hb0) rfl mU_X8 (k := 0) (by decide) (q := 1) rfl mF_X8_10 dX8_feed_44 ?_
    refine r_iload (pc := 47) X dX8_feed_47 rfl ?_
    refine r_cV (pc := 49) hG (fun _ hg => runV X dX8_feed_49 (c_X5_append (at_X8_tape Hb0) hg) mM_X8_87 mI_X5_append mE_X5_append mN_X5 mK_X5_append (at_X5_o (at_X8_tape Hb0)) rfl rfl rfl rfl hdd_X5_append ⟨(Nat.le_of_ble_eq_true rfl), (Nat.le_of_ble_eq_true rfl)⟩ rfl rfl (Nat.le_of_ble_eq_true rfl) ⟨(Nat.le_of_ble_eq_true rfl), (Nat.le_of_ble_eq_true rfl)⟩) (fun h8 hG => ?_)
    refine r_aload_n (pc := 52) X dX8_feed_52 rfl rfl ?_
    refine r_getC (pc := 53) X (at_X8_o Hb0) rfl mU_X8 (k := 0) (by decide) (q := 1) rfl mF_X8_10 dX8_feed_53 ?_
    refine r_iload (pc := 56) X dX8_feed_56 rfl ?_
    refine r_cV (pc := 58) hG (fun _ hg => runV X dX8_feed_58 (c_X5_append (at_X8_tape Hb0) hg) mM_X8_87 mI_X5_append mE_X5_append mN_X5 mK_X5_append (at_X5_o (at_X8_tape Hb0)) rfl rfl rfl rfl hdd_X5_append ⟨(Nat.le_of_ble_eq_true rfl), (Nat.le_of_ble_eq_true rfl)⟩ rfl rfl (Nat.le_of_ble_eq_true rfl) ⟨(Nat.le_of_ble_eq_true rfl), (Nat.le_of_ble_eq_true rfl)⟩) (fun h9 hG => ?_)
    refine r_aload_n (pc := 61) X dX8_feed_61 rfl rfl ?_
    refine r_getC (pc := 62) X (at_X8_o Hb0) rfl mU_X8 (k := 0) (by decide) (q := 1) rfl mF_X8_10 dX8_feed_62 ?_
    refine r_getI (pc := 65) X (at_X5_o (at_X8_tape Hb0)) rfl mU_X5 (k := 1) (by decide) rfl mF_X8_83 dX8_feed_65 hG (fun z10 hG => ?_)
    exact r_iretW (pc := 68) X dX8_feed_68 hQ hG
  · skip
    refine r_bipush (pc := 16) X dX8_feed_16 hG (by decide) (fun z11 hG => ?_)
    exact r_iretW (pc := 18) X dX8_feed_18 hQ hG
theorem c_X8_feed {x1 : Int32} {x2 : Int32} {x3 : Int32} {x4 : Int32} {x5 : Int32} {r : Int × Hp} (Hb0 : At_X8 shl) (hg : g_X8_feed x1.toInt x2.toInt x3.toInt x4.toInt x5.toInt h = some r) : Met l yX8_feed (wsM yX8_feed cX8_feed 6 (some .int)) rm_X8_feed (va_Pc [.ref (ad 0), .int x1, .int x2, .int x3, .int x4, .int x5] (World E ad shl h)) (QcI E ad shl r.1 r.2) 0 0 (bsA E) :=
  met_of (L0 := [some (.ref (ad 0)), some (.int x1), some (.int x2), some (.int x3), some (.int x4), some (.int x5)]) rfl rfl rfl (Nat.le_of_ble_eq_true rfl) (fun _ _ _ _ _ _ _ X => w_X8_feed Hb0 X rfl hg)
abbrev rm_X8_end : Room := { frames := 0, cells := 0, slots := 0, locals := 0 }
theorem hdd_X8_end : yX8_end.cls = RX8 ∧ yX8_end.cls ≠ "java/lang/invoke/MethodHandle" ∧ yX8_end.cls ≠ "java/lang/invoke/VarHandle" ∧ (parseMethodDescriptor yX8_end.desc).map (fun d => d.parameters.length) = some 1 := ⟨rfl, by decide +kernel, by decide +kernel, by decide +kernel⟩
set_option maxRecDepth 100000 in
set_option maxHeartbeats 4000000 in
theorem w_X8_end {x1 : Int32} {r : Int × Hp} (Hb0 : At_X8 shl) (X : Cx E p s m args meth c cX8_end RX8 2 (some .int)) (hQ : Q = MQ below (QcI E ad shl r.1 r.2) args s 0 0 (bsA E)) (hG : g_X8_end x1.toInt h = some r) : Ev E ad shl p l e rm_X8_end s m args below meth c 0 0 Q 2 h 0 [some (.ref (ad 0)), some (.int x1)] [] := by
  unfold g_X8_end at hG
  refine r_iload_n (pc := 0) X dX8_end_0 rfl rfl ?_
  refine r_join hG (fun _ => Ev E ad shl p l e rm_X8_end s m args below meth c 0 0 Q 2 h 15 [none, none] []) (fun a1 hG => ?_) (fun j2 Hj2 hG => ?_)
  · skip
    refine r_iconst (pc := 15) X dX8_end_15 hG rfl (fun z3 hG => ?_)
    exact r_iretW (pc := 16) X dX8_end_16 hQ hG
  refine r_if_lt (pc := 1) X dX8_end_1 (tgt := 15) (by decide) hG (fun hG => ?_) (fun hG => ?_)
  · skip
    exact r_mask [false, false] rfl (Hj2 _ hG)
  · skip
    refine r_iload_n (pc := 4) X dX8_end_4 rfl rfl ?_
    refine r_aload_n (pc := 5) X dX8_end_5 rfl rfl ?_
    refine r_getC (pc := 6) X (at_X8_o Hb0) rfl mU_X8 (k := 0) (by decide) (q := 1) rfl mF_X8_10 dX8_end_6 ?_
    refine r_getI (pc := 9) X (at_X5_o (at_X8_tape Hb0)) rfl mU_X5 (k := 1) (by decide) rfl mF_X8_83 dX8_end_9 hG (fun z4 hG => ?_)
    refine r_icmp_le (pc := 12) X dX8_end_12 (tgt := 17) (by decide) hG (fun hG => ?_) (fun hG => ?_)
    · skip
      refine r_aload_n (pc := 17) X dX8_end_17 rfl rfl ?_
      refine r_getC (pc := 18) X (at_X8_o Hb0) rfl mU_X8 (k := 0) (by decide) (q := 1) rfl mF_X8_10 dX8_end_18 ?_
      refine r_iload_n (pc := 21) X dX8_end_21 rfl rfl ?_
      refine r_putI (pc := 22) X (at_X5_o (at_X8_tape Hb0)) rfl mU_X5 (k := 1) (by decide) rfl rfl rfl mF_X8_83 dX8_end_22 hG (fun h5 hG => ?_)
      refine r_iload_n (pc := 25) X dX8_end_25 rfl rfl ?_
      exact r_iretW (pc := 26) X dX8_end_26 hQ hG
    · skip
      exact r_mask [false, false] rfl (Hj2 _ hG)
theorem c_X8_end {x1 : Int32} {r : Int × Hp} (Hb0 : At_X8 shl) (hg : g_X8_end x1.toInt h = some r) : Met l yX8_end (wsM yX8_end cX8_end 2 (some .int)) rm_X8_end (va_Pc [.ref (ad 0), .int x1] (World E ad shl h)) (QcI E ad shl r.1 r.2) 0 0 (bsA E) :=
  met_of (L0 := [some (.ref (ad 0)), some (.int x1)]) rfl rfl rfl (Nat.le_of_ble_eq_true rfl) (fun _ _ _ _ _ _ _ X => w_X8_end Hb0 X rfl hg)
abbrev rm_X5_startReading : Room := { frames := 0, cells := 0, slots := 0, locals := 0 }
theorem hdd_X5_startReading : yX5_startReading.cls = RX5 ∧ yX5_startReading.cls ≠ "java/lang/invoke/MethodHandle" ∧ yX5_startReading.cls ≠ "java/lang/invoke/VarHandle" ∧ (parseMethodDescriptor yX5_startReading.desc).map (fun d => d.parameters.length) = some 0 := ⟨rfl, by decide +kernel, by decide +kernel, by decide +kernel⟩
set_option maxRecDepth 100000 in
set_option maxHeartbeats 4000000 in
theorem w_X5_startReading {b0 : Nat} {r : Hp} (Hb0 : At_X5 shl b0) (X : Cx E p s m args meth c cX5_startReading RX5 1 none) (hQ : Q = MQ below (QcV E ad shl r) args s 0 0 (bsA E)) (hG : g_X5_startReading b0 h = some r) : Ev E ad shl p l e rm_X5_startReading s m args below meth c 0 0 Q 1 h 0 [some (.ref (ad b0))] [] := by
  unfold g_X5_startReading at hG
  refine r_aload_n (pc := 0) X dX5_startReading_0 rfl rfl ?_
  refine r_iconst (pc := 1) X dX5_startReading_1 hG rfl (fun z1 hG => ?_)
  refine r_putI (pc := 2) X (at_X5_o Hb0) rfl mU_X5 (k := 2) (by decide) rfl rfl rfl mF_X5_22 dX5_startReading_2 hG (fun h2 hG => ?_)
  refine r_aload_n (pc := 5) X dX5_startReading_5 rfl rfl ?_
  refine r_iconst (pc := 6) X dX5_startReading_6 hG rfl (fun z3 hG => ?_)
  refine r_putI (pc := 7) X (at_X5_o Hb0) rfl mU_X5 (k := 6) (by decide) rfl rfl rfl mF_X5_25 dX5_startReading_7 hG (fun h4 hG => ?_)
  refine r_aload_n (pc := 10) X dX5_startReading_10 rfl rfl ?_
  refine r_iconst (pc := 11) X dX5_startReading_11 hG rfl (fun z5 hG => ?_)
  refine r_putI (pc := 12) X (at_X5_o Hb0) rfl mU_X5 (k := 7) (by decide) rfl rfl rfl mF_X5_15 dX5_startReading_12 hG (fun h6 hG => ?_)
  exact r_vret (pc := 15) X dX5_startReading_15 hQ hG
theorem c_X5_startReading {b0 : Nat} {r : Hp} (Hb0 : At_X5 shl b0) (hg : g_X5_startReading b0 h = some r) : Met l yX5_startReading (wsM yX5_startReading cX5_startReading 1 none) rm_X5_startReading (va_Pc [.ref (ad b0)] (World E ad shl h)) (QcV E ad shl r) 0 0 (bsA E) :=
  met_of (L0 := [some (.ref (ad b0))]) rfl rfl rfl (Nat.le_of_ble_eq_true rfl) (fun _ _ _ _ _ _ _ X => w_X5_startReading Hb0 X rfl hg)
abbrev rm_X5_isFaulty : Room := { frames := 0, cells := 0, slots := 0, locals := 0 }
theorem hdd_X5_isFaulty : yX5_isFaulty.cls = RX5 ∧ yX5_isFaulty.cls ≠ "java/lang/invoke/MethodHandle" ∧ yX5_isFaulty.cls ≠ "java/lang/invoke/VarHandle" ∧ (parseMethodDescriptor yX5_isFaulty.desc).map (fun d => d.parameters.length) = some 0 := ⟨rfl, by decide +kernel, by decide +kernel, by decide +kernel⟩
set_option maxRecDepth 100000 in
set_option maxHeartbeats 4000000 in
theorem w_X5_isFaulty {b0 : Nat} {r : Int} (Hb0 : At_X5 shl b0) (X : Cx E p s m args meth c cX5_isFaulty RX5 1 (some .boolean)) (hQ : Q = MQ below (QcI E ad shl r h) args s 0 0 (bsA E)) (hG : g_X5_isFaulty b0 h = some r) : Ev E ad shl p l e rm_X5_isFaulty s m args below meth c 0 0 Q 1 h 0 [some (.ref (ad b0))] [] := by
  unfold g_X5_isFaulty at hG
  refine r_aload_n (pc := 0) X dX5_isFaulty_0 rfl rfl ?_
  refine r_getI (pc := 1) X (at_X5_o Hb0) rfl mU_X5 (k := 6) (by decide) rfl mF_X5_25 dX5_isFaulty_1 hG (fun z1 hG => ?_)
  refine r_join hG (fun a2 => ∀ (y4 : Int32), a2 = y4.toInt → Ev E ad shl p l e rm_X5_isFaulty s m args below meth c 0 0 Q 1 h 12 [none] [.int y4]) (fun a2 hG => ?_) (fun j3 Hj3 hG => ?_)
  · skip
    intro y4 ha; have ha := ha.symm; subst ha
    exact r_zretP (pc := 12) X dX5_isFaulty_12 hQ hG
  refine r_if_eq (pc := 4) X dX5_isFaulty_4 (tgt := 11) (by decide) hG (fun hG => ?_) (fun hG => ?_)
  · skip
    refine r_iconst (pc := 11) X dX5_isFaulty_11 hG rfl (fun z5 hG => ?_)
    exact r_mask [false] rfl (Hj3 _ hG z5 rfl)
  · skip
    refine r_iconst (pc := 7) X dX5_isFaulty_7 hG rfl (fun z6 hG => ?_)
    refine r_goto (pc := 8) X dX5_isFaulty_8 (tgt := 12) (by decide) ?_
    exact r_mask [false] rfl (Hj3 _ hG z6 rfl)
theorem c_X5_isFaulty {b0 : Nat} {r : Int} (Hb0 : At_X5 shl b0) (hg : g_X5_isFaulty b0 h = some r) : Met l yX5_isFaulty (wsM yX5_isFaulty cX5_isFaulty 1 (some .boolean)) rm_X5_isFaulty (va_Pc [.ref (ad b0)] (World E ad shl h)) (QcI E ad shl r h) 0 0 (bsA E) :=
  met_of (L0 := [some (.ref (ad b0))]) rfl rfl rfl (Nat.le_of_ble_eq_true rfl) (fun _ _ _ _ _ _ _ X => w_X5_isFaulty Hb0 X rfl hg)
abbrev rm_X5_isBlank : Room := { frames := 0, cells := 0, slots := 0, locals := 0 }
theorem hdd_X5_isBlank : yX5_isBlank.cls ≠ "java/lang/invoke/MethodHandle" ∧ yX5_isBlank.cls ≠ "java/lang/invoke/VarHandle" ∧ (parseMethodDescriptor yX5_isBlank.desc).map (fun d => d.parameters.length) = some 1 := ⟨by decide +kernel, by decide +kernel, by decide +kernel⟩
set_option maxRecDepth 100000 in
set_option maxHeartbeats 4000000 in
theorem w_X5_isBlank {x1 : Int32} {r : Int}  (X : Cx E p s m args meth c cX5_isBlank RX5 1 (some .boolean)) (hQ : Q = MQ below (QcI E ad shl r h) args s 0 0 (bsA E)) (hG : g_X5_isBlank x1.toInt = some r) : Ev E ad shl p l e rm_X5_isBlank s m args below meth c 0 0 Q 1 h 0 [some (.int x1)] [] := by
  unfold g_X5_isBlank at hG
  refine r_iload_n (pc := 0) X dX5_isBlank_0 rfl rfl ?_
  refine r_bipush (pc := 1) X dX5_isBlank_1 hG (by decide) (fun z1 hG => ?_)
  refine r_join hG (fun a2 => ∀ (y4 : Int32), a2 = y4.toInt → Ev E ad shl p l e rm_X5_isBlank s m args below meth c 0 0 Q 1 h 17 [none] [.int y4]) (fun a2 hG => ?_) (fun j3 Hj3 hG => ?_)
  · skip
    intro y4 ha; have ha := ha.symm; subst ha
    exact r_zretP (pc := 17) X dX5_isBlank_17 hQ hG
  refine r_join hG (fun _ => Ev E ad shl p l e rm_X5_isBlank s m args below meth c 0 0 Q 1 h 12 [none] []) (fun a5 hG => ?_) (fun j6 Hj6 hG => ?_)
  · skip
    refine r_iconst (pc := 12) X dX5_isBlank_12 hG rfl (fun z7 hG => ?_)
    refine r_goto (pc := 13) X dX5_isBlank_13 (tgt := 17) (by decide) ?_
    exact r_mask [false] rfl (Hj3 _ hG z7 rfl)
  refine r_icmp_eq (pc := 3) X dX5_isBlank_3 (tgt := 12) (by decide) hG (fun hG => ?_) (fun hG => ?_)
  · skip
    exact r_mask [false] rfl (Hj6 _ hG)
  · skip
    refine r_iload_n (pc := 6) X dX5_isBlank_6 rfl rfl ?_
    refine r_bipush (pc := 7) X dX5_isBlank_7 hG (by decide) (fun z8 hG => ?_)
    refine r_icmp_ne (pc := 9) X dX5_isBlank_9 (tgt := 16) (by decide) hG (fun hG => ?_) (fun hG => ?_)
    · skip
      refine r_iconst (pc := 16) X dX5_isBlank_16 hG rfl (fun z9 hG => ?_)
      exact r_mask [false] rfl (Hj3 _ hG z9 rfl)
    · skip
      exact r_mask [false] rfl (Hj6 _ hG)
theorem c_X5_isBlank {x1 : Int32} {r : Int}  (hg : g_X5_isBlank x1.toInt = some r) : Met l yX5_isBlank (wsM yX5_isBlank cX5_isBlank 1 (some .boolean)) rm_X5_isBlank (va_Pc [.int x1] (World E ad shl h)) (QcI E ad shl r h) 0 0 (bsA E) :=
  met_of (L0 := [some (.int x1)]) rfl rfl rfl (Nat.le_of_ble_eq_true rfl) (fun _ _ _ _ _ _ _ X => w_X5_isBlank  X rfl hg)
abbrev rm_X5_kindOf : Room := { frames := 0, cells := 0, slots := 0, locals := 0 }
theorem hdd_X5_kindOf : yX5_kindOf.cls ≠ "java/lang/invoke/MethodHandle" ∧ yX5_kindOf.cls ≠ "java/lang/invoke/VarHandle" ∧ (parseMethodDescriptor yX5_kindOf.desc).map (fun d => d.parameters.length) = some 1 := ⟨by decide +kernel, by decide +kernel, by decide +kernel⟩
set_option maxRecDepth 100000 in
set_option maxHeartbeats 4000000 in
theorem w_X5_kindOf {x1 : Int32} {r : Int}  (X : Cx E p s m args meth c cX5_kindOf RX5 1 (some .int)) (hQ : Q = MQ below (QcI E ad shl r h) args s 0 0 (bsA E)) (hG : g_X5_kindOf x1.toInt = some r) : Ev E ad shl p l e rm_X5_kindOf s m args below meth c 0 0 Q 1 h 0 [some (.int x1)] [] := by
  unfold g_X5_kindOf at hG
  refine r_iload_n (pc := 0) X dX5_kindOf_0 rfl rfl ?_
  refine r_bipush (pc := 1) X dX5_kindOf_1 hG (by decide) (fun z1 hG => ?_)
  refine r_join hG (fun _ => Ev E ad shl p l e rm_X5_kindOf s m args below meth c 0 0 Q 1 h 14 [some (.int x1)] []) (fun a2 hG => ?_) (fun j3 Hj3 hG => ?_)
  · skip
    refine r_iload_n (pc := 14) X dX5_kindOf_14 rfl rfl ?_
    refine r_bipush (pc := 15) X dX5_kindOf_15 hG (by decide) (fun z4 hG => ?_)
    refine r_join hG (fun _ => Ev E ad shl p l e rm_X5_kindOf s m args below meth c 0 0 Q 1 h 28 [some (.int x1)] []) (fun a5 hG => ?_) (fun j6 Hj6 hG => ?_)
    · skip
      refine r_iload_n (pc := 28) X dX5_kindOf_28 rfl rfl ?_
      refine r_bipush (pc := 29) X dX5_kindOf_29 hG (by decide) (fun z7 hG => ?_)
      refine r_join hG (fun a8 => ∀ (y10 : Int32), a8 = y10.toInt → Ev E ad shl p l e rm_X5_kindOf s m args below meth c 0 0 Q 1 h 39 [none] [.int y10]) (fun a8 hG => ?_) (fun j9 Hj9 hG => ?_)
      · skip
        intro y10 ha; have ha := ha.symm; subst ha
        exact r_iretP (pc := 39) X dX5_kindOf_39 hQ hG
      refine r_icmp_ne (pc := 31) X dX5_kindOf_31 (tgt := 38) (by decide) hG (fun hG => ?_) (fun hG => ?_)
      · skip
        refine r_iconst (pc := 38) X dX5_kindOf_38 hG rfl (fun z11 hG => ?_)
        exact r_mask [false] rfl (Hj9 _ hG z11 rfl)
      · skip
        refine r_iconst (pc := 34) X dX5_kindOf_34 hG rfl (fun z12 hG => ?_)
        refine r_goto (pc := 35) X dX5_kindOf_35 (tgt := 39) (by decide) ?_
        exact r_mask [false] rfl (Hj9 _ hG z12 rfl)
    refine r_icmp_lt (pc := 17) X dX5_kindOf_17 (tgt := 28) (by decide) hG (fun hG => ?_) (fun hG => ?_)
    · skip
      exact r_mask [true] rfl (Hj6 _ hG)
    · skip
      refine r_iload_n (pc := 20) X dX5_kindOf_20 rfl rfl ?_
      refine r_bipush (pc := 21) X dX5_kindOf_21 hG (by decide) (fun z13 hG => ?_)
      refine r_icmp_gt (pc := 23) X dX5_kindOf_23 (tgt := 28) (by decide) hG (fun hG => ?_) (fun hG => ?_)
      · skip
        exact r_mask [true] rfl (Hj6 _ hG)
      · skip
        refine r_iconst (pc := 26) X dX5_kindOf_26 hG rfl (fun z14 hG => ?_)
        exact r_iretP (pc := 27) X dX5_kindOf_27 hQ hG
  refine r_icmp_lt (pc := 3) X dX5_kindOf_3 (tgt := 14) (by decide) hG (fun hG => ?_) (fun hG => ?_)
  · skip
    exact r_mask [true] rfl (Hj3 _ hG)
  · skip
    refine r_iload_n (pc := 6) X dX5_kindOf_6 rfl rfl ?_
    refine r_bipush (pc := 7) X dX5_kindOf_7 hG (by decide) (fun z15 hG => ?_)
    refine r_icmp_gt (pc := 9) X dX5_kindOf_9 (tgt := 14) (by decide) hG (fun hG => ?_) (fun hG => ?_)
    · skip
      exact r_mask [true] rfl (Hj3 _ hG)
    · skip
      refine r_iconst (pc := 12) X dX5_kindOf_12 hG rfl (fun z16 hG => ?_)
      exact r_iretP (pc := 13) X dX5_kindOf_13 hQ hG
theorem c_X5_kindOf {x1 : Int32} {r : Int}  (hg : g_X5_kindOf x1.toInt = some r) : Met l yX5_kindOf (wsM yX5_kindOf cX5_kindOf 1 (some .int)) rm_X5_kindOf (va_Pc [.int x1] (World E ad shl h)) (QcI E ad shl r h) 0 0 (bsA E) :=
  met_of (L0 := [some (.int x1)]) rfl rfl rfl (Nat.le_of_ble_eq_true rfl) (fun _ _ _ _ _ _ _ X => w_X5_kindOf  X rfl hg)
abbrev rm_X5_advance : Room := { frames := 1, cells := 0, slots := 0, locals := 20 }
theorem hdd_X5_advance : yX5_advance.cls = RX5 ∧ yX5_advance.cls ≠ "java/lang/invoke/MethodHandle" ∧ yX5_advance.cls ≠ "java/lang/invoke/VarHandle" ∧ (parseMethodDescriptor yX5_advance.desc).map (fun d => d.parameters.length) = some 0 := ⟨rfl, by decide +kernel, by decide +kernel, by decide +kernel⟩
set_option maxRecDepth 100000 in
set_option maxHeartbeats 4000000 in
theorem w_X5_advance {b0 : Nat} {r : Hp} (Hb0 : At_X5 shl b0) (X : Cx E p s m args meth c cX5_advance RX5 1 none) (hQ : Q = MQ below (QcV E ad shl r) args s 0 0 (bsA E)) (hG : g_X5_advance b0 h = some r) : Ev E ad shl p l e rm_X5_advance s m args below meth c 0 0 Q 1 h 0 [some (.ref (ad b0))] [] := by
  unfold g_X5_advance at hG
  refine r_join hG (fun a1 => ∀ (h3 : Hp), a1 = h3 → Ev E ad shl p l e rm_X5_advance s m args below meth c 0 0 Q 1 h3 39 [some (.ref (ad b0))] []) (fun a1 hG => ?_) (fun j2 Hj2 hG => ?_)
  · skip
    intro h3 ha; have ha := ha.symm; subst ha
    refine r_aload_n (pc := 39) X dX5_advance_39 rfl rfl ?_
    refine r_aload_n (pc := 40) X dX5_advance_40 rfl rfl ?_
    refine r_getI (pc := 41) X (at_X5_o Hb0) rfl mU_X5 (k := 2) (by decide) rfl mF_X5_22 dX5_advance_41 hG (fun z4 hG => ?_)
    refine r_putI (pc := 44) X (at_X5_o Hb0) rfl mU_X5 (k := 4) (by decide) rfl rfl rfl mF_X5_28 dX5_advance_44 hG (fun h5 hG => ?_)
    refine r_aload_n (pc := 47) X dX5_advance_47 rfl rfl ?_
    refine r_iconst (pc := 48) X dX5_advance_48 hG rfl (fun z6 hG => ?_)
    refine r_putI (pc := 49) X (at_X5_o Hb0) rfl mU_X5 (k := 5) (by decide) rfl rfl rfl mF_X5_35 dX5_advance_49 hG (fun h7 hG => ?_)
    refine r_aload_n (pc := 52) X dX5_advance_52 rfl rfl ?_
    refine r_getI (pc := 53) X (at_X5_o Hb0) rfl mU_X5 (k := 2) (by decide) rfl mF_X5_22 dX5_advance_53 hG (fun z8 hG => ?_)
    refine r_aload_n (pc := 56) X dX5_advance_56 rfl rfl ?_
    refine r_getI (pc := 57) X (at_X5_o Hb0) rfl mU_X5 (k := 1) (by decide) rfl mF_X5_19 dX5_advance_57 hG (fun z9 hG => ?_)
    refine r_icmp_lt (pc := 60) X dX5_advance_60 (tgt := 69) (by decide) hG (fun hG => ?_) (fun hG => ?_)
    · skip
      refine r_aload_n (pc := 69) X dX5_advance_69 rfl rfl ?_
      refine r_aload_n (pc := 70) X dX5_advance_70 rfl rfl ?_
      refine r_getC (pc := 71) X (at_X5_o Hb0) rfl mU_X5 (k := 0) (by decide) (q := (b0 + 1)) rfl mF_X5_11 dX5_advance_71 ?_
      refine r_aload_n (pc := 74) X dX5_advance_74 rfl rfl ?_
      refine r_getI (pc := 75) X (at_X5_o Hb0) rfl mU_X5 (k := 2) (by decide) rfl mF_X5_22 dX5_advance_75 hG (fun z10 hG => ?_)
      refine r_iald (pc := 78) X (at_X5_bytes Hb0) dX5_advance_78 hG (fun z11 hG => ?_)
      refine r_cP (pc := 79) hG (fun _ hg => runS X dX5_advance_79 (c_X5_kindOf  hg) mM_X5_41 mS_X5_kindOf mN_X5 mK_X5_kindOf rfl rfl hdd_X5_kindOf ⟨(Nat.le_of_ble_eq_true rfl), (Nat.le_of_ble_eq_true rfl)⟩ rfl rfl (Nat.le_of_ble_eq_true rfl) ⟨(Nat.le_of_ble_eq_true rfl), (Nat.le_of_ble_eq_true rfl)⟩) (fun z12 hG => ?_)
      refine r_putI (pc := 82) X (at_X5_o Hb0) rfl mU_X5 (k := 3) (by decide) rfl rfl rfl mF_X5_38 dX5_advance_82 hG (fun h13 hG => ?_)
      refine r_aload_n (pc := 85) X dX5_advance_85 rfl rfl ?_
      refine r_getI (pc := 86) X (at_X5_o Hb0) rfl mU_X5 (k := 3) (by decide) rfl mF_X5_38 dX5_advance_86 hG (fun z14 hG => ?_)
      refine r_iconst (pc := 89) X dX5_advance_89 hG rfl (fun z15 hG => ?_)
      refine r_join hG (fun _ => Ev E ad shl p l e rm_X5_advance s m args below meth c 0 0 Q 1 h13 112 [some (.ref (ad b0))] []) (fun a16 hG => ?_) (fun j17 Hj17 hG => ?_)
      · skip
        refine r_join hG (fun a18 => ∀ (h20 : Hp), a18 = h20 → Ev E ad shl p l e rm_X5_advance s m args below meth c 0 0 Q 1 h20 179 [some (.ref (ad b0))] []) (fun a18 hG => ?_) (fun j19 Hj19 hG => ?_)
        · skip
          intro h20 ha; have ha := ha.symm; subst ha
          refine r_aload_n (pc := 179) X dX5_advance_179 rfl rfl ?_
          refine r_getI (pc := 180) X (at_X5_o Hb0) rfl mU_X5 (k := 2) (by decide) rfl mF_X5_22 dX5_advance_180 hG (fun z21 hG => ?_)
          refine r_aload_n (pc := 183) X dX5_advance_183 rfl rfl ?_
          refine r_getI (pc := 184) X (at_X5_o Hb0) rfl mU_X5 (k := 4) (by decide) rfl mF_X5_28 dX5_advance_184 hG (fun z22 hG => ?_)
          refine r_isub (pc := 187) X dX5_advance_187 hG (fun z23 hG => ?_)
          refine r_aload_n (pc := 188) X dX5_advance_188 rfl rfl ?_
          refine r_getI (pc := 189) X (at_X5_o Hb0) rfl mU_X5 (k := 3) (by decide) rfl mF_X5_38 dX5_advance_189 hG (fun z24 hG => ?_)
          refine r_iconst (pc := 192) X dX5_advance_192 hG rfl (fun z25 hG => ?_)
          refine r_join hG (fun a26 => ∀ (y28 : Int32), a26 = y28.toInt → Ev E ad shl p l e rm_X5_advance s m args below meth c 0 0 Q 1 h20 202 [some (.ref (ad b0))] [.int y28, .int z23]) (fun a26 hG => ?_) (fun j27 Hj27 hG => ?_)
          · skip
            intro y28 ha; have ha := ha.symm; subst ha
            refine r_join hG (fun a29 => ∀ (h31 : Hp), a29 = h31 → Ev E ad shl p l e rm_X5_advance s m args below meth c 0 0 Q 1 h31 210 [none] []) (fun a29 hG => ?_) (fun j30 Hj30 hG => ?_)
            · skip
              intro h31 ha; have ha := ha.symm; subst ha
              exact r_vret (pc := 210) X dX5_advance_210 hQ hG
            refine r_icmp_le (pc := 202) X dX5_advance_202 (tgt := 210) (by decide) hG (fun hG => ?_) (fun hG => ?_)
            · skip
              exact r_mask [false] rfl (Hj30 _ hG h20 rfl)
            · skip
              refine r_aload_n (pc := 205) X dX5_advance_205 rfl rfl ?_
              refine r_iconst (pc := 206) X dX5_advance_206 hG rfl (fun z32 hG => ?_)
              refine r_putI (pc := 207) X (at_X5_o Hb0) rfl mU_X5 (k := 3) (by decide) rfl rfl rfl mF_X5_38 dX5_advance_207 hG (fun h33 hG => ?_)
              exact r_mask [false] rfl (Hj30 _ hG h33 rfl)
          refine r_icmp_ne (pc := 193) X dX5_advance_193 (tgt := 201) (by decide) hG (fun hG => ?_) (fun hG => ?_)
          · skip
            refine r_iconst (pc := 201) X dX5_advance_201 hG rfl (fun z34 hG => ?_)
            exact r_mask [true] rfl (Hj27 _ hG z34 rfl)
          · skip
            refine r_bipush (pc := 196) X dX5_advance_196 hG (by decide) (fun z35 hG => ?_)
            refine r_goto (pc := 198) X dX5_advance_198 (tgt := 202) (by decide) ?_
            exact r_mask [true] rfl (Hj27 _ hG z35 rfl)
        refine r_mask [true] rfl (r_loop (fun q36 => ∀ (h38 : Hp), q36 = h38 → Ev E ad shl p l e rm_X5_advance s m args below meth c 0 0 Q 1 h38 112 [some (.ref (ad b0))] []) (fun l37 Hl37 q36 hG => ?_) FU _ hG h13 rfl)
        intro h38 ha; have ha := ha.symm; subst ha
        unfold g_X5_advance_l37 at hG
        refine r_aload_n (pc := 112) X dX5_advance_112 rfl rfl ?_
        refine r_getI (pc := 113) X (at_X5_o Hb0) rfl mU_X5 (k := 2) (by decide) rfl mF_X5_22 dX5_advance_113 hG (fun z39 hG => ?_)
        refine r_aload_n (pc := 116) X dX5_advance_116 rfl rfl ?_
        refine r_getI (pc := 117) X (at_X5_o Hb0) rfl mU_X5 (k := 1) (by decide) rfl mF_X5_19 dX5_advance_117 hG (fun z40 hG => ?_)
        refine r_icmp_ge (pc := 120) X dX5_advance_120 (tgt := 179) (by decide) hG (fun hG => ?_) (fun hG => ?_)
        · skip
          exact r_mask [true] rfl (Hj19 _ hG h38 rfl)
        · skip
          refine r_aload_n (pc := 123) X dX5_advance_123 rfl rfl ?_
          refine r_getC (pc := 124) X (at_X5_o Hb0) rfl mU_X5 (k := 0) (by decide) (q := (b0 + 1)) rfl mF_X5_11 dX5_advance_124 ?_
          refine r_aload_n (pc := 127) X dX5_advance_127 rfl rfl ?_
          refine r_getI (pc := 128) X (at_X5_o Hb0) rfl mU_X5 (k := 2) (by decide) rfl mF_X5_22 dX5_advance_128 hG (fun z41 hG => ?_)
          refine r_iald (pc := 131) X (at_X5_bytes Hb0) dX5_advance_131 hG (fun z42 hG => ?_)
          refine r_cP (pc := 132) hG (fun _ hg => runS X dX5_advance_132 (c_X5_kindOf  hg) mM_X5_41 mS_X5_kindOf mN_X5 mK_X5_kindOf rfl rfl hdd_X5_kindOf ⟨(Nat.le_of_ble_eq_true rfl), (Nat.le_of_ble_eq_true rfl)⟩ rfl rfl (Nat.le_of_ble_eq_true rfl) ⟨(Nat.le_of_ble_eq_true rfl), (Nat.le_of_ble_eq_true rfl)⟩) (fun z43 hG => ?_)
          refine r_aload_n (pc := 135) X dX5_advance_135 rfl rfl ?_
          refine r_getI (pc := 136) X (at_X5_o Hb0) rfl mU_X5 (k := 3) (by decide) rfl mF_X5_38 dX5_advance_136 hG (fun z44 hG => ?_)
          refine r_icmp_ne (pc := 139) X dX5_advance_139 (tgt := 179) (by decide) hG (fun hG => ?_) (fun hG => ?_)
          · skip
            exact r_mask [true] rfl (Hj19 _ hG h38 rfl)
          · skip
            refine r_aload_n (pc := 142) X dX5_advance_142 rfl rfl ?_
            refine r_aload_n (pc := 143) X dX5_advance_143 rfl rfl ?_
            refine r_getI (pc := 144) X (at_X5_o Hb0) rfl mU_X5 (k := 5) (by decide) rfl mF_X5_35 dX5_advance_144 hG (fun z45 hG => ?_)
            refine r_bipush (pc := 147) X dX5_advance_147 hG (by decide) (fun z46 hG => ?_)
            refine r_imul (pc := 149) X dX5_advance_149 hG (fun z47 hG => ?_)
            refine r_aload_n (pc := 150) X dX5_advance_150 rfl rfl ?_
            refine r_getC (pc := 151) X (at_X5_o Hb0) rfl mU_X5 (k := 0) (by decide) (q := (b0 + 1)) rfl mF_X5_11 dX5_advance_151 ?_
            refine r_aload_n (pc := 154) X dX5_advance_154 rfl rfl ?_
            refine r_getI (pc := 155) X (at_X5_o Hb0) rfl mU_X5 (k := 2) (by decide) rfl mF_X5_22 dX5_advance_155 hG (fun z48 hG => ?_)
            refine r_iald (pc := 158) X (at_X5_bytes Hb0) dX5_advance_158 hG (fun z49 hG => ?_)
            refine r_iadd (pc := 159) X dX5_advance_159 hG (fun z50 hG => ?_)
            refine r_bipush (pc := 160) X dX5_advance_160 hG (by decide) (fun z51 hG => ?_)
            refine r_isub (pc := 162) X dX5_advance_162 hG (fun z52 hG => ?_)
            refine r_putI (pc := 163) X (at_X5_o Hb0) rfl mU_X5 (k := 5) (by decide) rfl rfl rfl mF_X5_35 dX5_advance_163 hG (fun h53 hG => ?_)
            refine r_aload_n (pc := 166) X dX5_advance_166 rfl rfl ?_
            refine r_dup (pc := 167) X dX5_advance_167 rfl ?_
            refine r_getI (pc := 168) X (at_X5_o Hb0) rfl mU_X5 (k := 2) (by decide) rfl mF_X5_22 dX5_advance_168 hG (fun z54 hG => ?_)
            refine r_iconst (pc := 171) X dX5_advance_171 hG rfl (fun z55 hG => ?_)
            refine r_iadd (pc := 172) X dX5_advance_172 hG (fun z56 hG => ?_)
            refine r_putI (pc := 173) X (at_X5_o Hb0) rfl mU_X5 (k := 2) (by decide) rfl rfl rfl mF_X5_22 dX5_advance_173 hG (fun h57 hG => ?_)
            refine r_goto (pc := 176) X dX5_advance_176 (tgt := 112) (by decide) ?_
            exact r_mask [true] rfl (Hl37 _ hG h57 rfl)
      refine r_icmp_eq (pc := 90) X dX5_advance_90 (tgt := 112) (by decide) hG (fun hG => ?_) (fun hG => ?_)
      · skip
        exact r_mask [true] rfl (Hj17 _ hG)
      · skip
        refine r_aload_n (pc := 93) X dX5_advance_93 rfl rfl ?_
        refine r_getI (pc := 94) X (at_X5_o Hb0) rfl mU_X5 (k := 3) (by decide) rfl mF_X5_38 dX5_advance_94 hG (fun z58 hG => ?_)
        refine r_iconst (pc := 97) X dX5_advance_97 hG rfl (fun z59 hG => ?_)
        refine r_icmp_eq (pc := 98) X dX5_advance_98 (tgt := 112) (by decide) hG (fun hG => ?_) (fun hG => ?_)
        · skip
          exact r_mask [true] rfl (Hj17 _ hG)
        · skip
          refine r_aload_n (pc := 101) X dX5_advance_101 rfl rfl ?_
          refine r_dup (pc := 102) X dX5_advance_102 rfl ?_
          refine r_getI (pc := 103) X (at_X5_o Hb0) rfl mU_X5 (k := 2) (by decide) rfl mF_X5_22 dX5_advance_103 hG (fun z60 hG => ?_)
          refine r_iconst (pc := 106) X dX5_advance_106 hG rfl (fun z61 hG => ?_)
          refine r_iadd (pc := 107) X dX5_advance_107 hG (fun z62 hG => ?_)
          refine r_putI (pc := 108) X (at_X5_o Hb0) rfl mU_X5 (k := 2) (by decide) rfl rfl rfl mF_X5_22 dX5_advance_108 hG (fun h63 hG => ?_)
          exact r_vret (pc := 111) X dX5_advance_111 hQ hG
    · skip
      refine r_aload_n (pc := 63) X dX5_advance_63 rfl rfl ?_
      refine r_iconst (pc := 64) X dX5_advance_64 hG rfl (fun z64 hG => ?_)
      refine r_putI (pc := 65) X (at_X5_o Hb0) rfl mU_X5 (k := 3) (by decide) rfl rfl rfl mF_X5_38 dX5_advance_65 hG (fun h65 hG => ?_)
      exact r_vret (pc := 68) X dX5_advance_68 hQ hG
  refine r_mask [true] rfl (r_loop (fun q66 => ∀ (h68 : Hp), q66 = h68 → Ev E ad shl p l e rm_X5_advance s m args below meth c 0 0 Q 1 h68 0 [some (.ref (ad b0))] []) (fun l67 Hl67 q66 hG => ?_) FU _ hG h rfl)
  intro h68 ha; have ha := ha.symm; subst ha
  unfold g_X5_advance_l67 at hG
  refine r_aload_n (pc := 0) X dX5_advance_0 rfl rfl ?_
  refine r_getI (pc := 1) X (at_X5_o Hb0) rfl mU_X5 (k := 2) (by decide) rfl mF_X5_22 dX5_advance_1 hG (fun z69 hG => ?_)
  refine r_aload_n (pc := 4) X dX5_advance_4 rfl rfl ?_
  refine r_getI (pc := 5) X (at_X5_o Hb0) rfl mU_X5 (k := 1) (by decide) rfl mF_X5_19 dX5_advance_5 hG (fun z70 hG => ?_)
  refine r_icmp_ge (pc := 8) X dX5_advance_8 (tgt := 39) (by decide) hG (fun hG => ?_) (fun hG => ?_)
  · skip
    exact r_mask [true] rfl (Hj2 _ hG h68 rfl)
  · skip
    refine r_aload_n (pc := 11) X dX5_advance_11 rfl rfl ?_
    refine r_getC (pc := 12) X (at_X5_o Hb0) rfl mU_X5 (k := 0) (by decide) (q := (b0 + 1)) rfl mF_X5_11 dX5_advance_12 ?_
    refine r_aload_n (pc := 15) X dX5_advance_15 rfl rfl ?_
    refine r_getI (pc := 16) X (at_X5_o Hb0) rfl mU_X5 (k := 2) (by decide) rfl mF_X5_22 dX5_advance_16 hG (fun z71 hG => ?_)
    refine r_iald (pc := 19) X (at_X5_bytes Hb0) dX5_advance_19 hG (fun z72 hG => ?_)
    refine r_cP (pc := 20) hG (fun _ hg => runS X dX5_advance_20 (c_X5_isBlank  hg) mM_X5_31 mS_X5_isBlank mN_X5 mK_X5_isBlank rfl rfl hdd_X5_isBlank ⟨(Nat.le_of_ble_eq_true rfl), (Nat.le_of_ble_eq_true rfl)⟩ rfl rfl (Nat.le_of_ble_eq_true rfl) ⟨(Nat.le_of_ble_eq_true rfl), (Nat.le_of_ble_eq_true rfl)⟩) (fun z73 hG => ?_)
    refine r_if_eq (pc := 23) X dX5_advance_23 (tgt := 39) (by decide) hG (fun hG => ?_) (fun hG => ?_)
    · skip
      exact r_mask [true] rfl (Hj2 _ hG h68 rfl)
    · skip
      refine r_aload_n (pc := 26) X dX5_advance_26 rfl rfl ?_
      refine r_dup (pc := 27) X dX5_advance_27 rfl ?_
      refine r_getI (pc := 28) X (at_X5_o Hb0) rfl mU_X5 (k := 2) (by decide) rfl mF_X5_22 dX5_advance_28 hG (fun z74 hG => ?_)
      refine r_iconst (pc := 31) X dX5_advance_31 hG rfl (fun z75 hG => ?_)
      refine r_iadd (pc := 32) X dX5_advance_32 hG (fun z76 hG => ?_)
      refine r_putI (pc := 33) X (at_X5_o Hb0) rfl mU_X5 (k := 2) (by decide) rfl rfl rfl mF_X5_22 dX5_advance_33 hG (fun h77 hG => ?_)
      refine r_goto (pc := 36) X dX5_advance_36 (tgt := 0) (by decide) ?_
      exact r_mask [true] rfl (Hl67 _ hG h77 rfl)
theorem c_X5_advance {b0 : Nat} {r : Hp} (Hb0 : At_X5 shl b0) (hg : g_X5_advance b0 h = some r) : Met l yX5_advance (wsM yX5_advance cX5_advance 1 none) rm_X5_advance (va_Pc [.ref (ad b0)] (World E ad shl h)) (QcV E ad shl r) 0 0 (bsA E) :=
  met_of (L0 := [some (.ref (ad b0))]) rfl rfl rfl (Nat.le_of_ble_eq_true rfl) (fun _ _ _ _ _ _ _ X => w_X5_advance Hb0 X rfl hg)
abbrev rm_X5_hasClause : Room := { frames := 2, cells := 0, slots := 0, locals := 40 }
theorem hdd_X5_hasClause : yX5_hasClause.cls = RX5 ∧ yX5_hasClause.cls ≠ "java/lang/invoke/MethodHandle" ∧ yX5_hasClause.cls ≠ "java/lang/invoke/VarHandle" ∧ (parseMethodDescriptor yX5_hasClause.desc).map (fun d => d.parameters.length) = some 0 := ⟨rfl, by decide +kernel, by decide +kernel, by decide +kernel⟩
set_option maxRecDepth 100000 in
set_option maxHeartbeats 4000000 in
theorem w_X5_hasClause {b0 : Nat} {r : Int × Hp} (Hb0 : At_X5 shl b0) (X : Cx E p s m args meth c cX5_hasClause RX5 1 (some .boolean)) (hQ : Q = MQ below (QcI E ad shl r.1 r.2) args s 0 0 (bsA E)) (hG : g_X5_hasClause b0 h = some r) : Ev E ad shl p l e rm_X5_hasClause s m args below meth c 0 0 Q 1 h 0 [some (.ref (ad b0))] [] := by
  unfold g_X5_hasClause at hG
  refine r_aload_n (pc := 0) X dX5_hasClause_0 rfl rfl ?_
  refine r_cP (pc := 1) hG (fun _ hg => runV X dX5_hasClause_1 (c_X5_isFaulty Hb0 hg) mM_X5_54 mI_X5_isFaulty mE_X5_isFaulty mN_X5 mK_X5_isFaulty (at_X5_o Hb0) rfl rfl rfl rfl hdd_X5_isFaulty ⟨(Nat.le_of_ble_eq_true rfl), (Nat.le_of_ble_eq_true rfl)⟩ rfl rfl (Nat.le_of_ble_eq_true rfl) ⟨(Nat.le_of_ble_eq_true rfl), (Nat.le_of_ble_eq_true rfl)⟩) (fun z1 hG => ?_)
  refine r_if_eq (pc := 4) X dX5_hasClause_4 (tgt := 9) (by decide) hG (fun hG => ?_) (fun hG => ?_)
  · skip
    refine r_aload_n (pc := 9) X dX5_hasClause_9 rfl rfl ?_
    refine r_cV (pc := 10) hG (fun _ hg => runV X dX5_hasClause_10 (c_X5_advance Hb0 hg) mM_X5_58 mI_X5_advance mE_X5_advance mN_X5 mK_X5_advance (at_X5_o Hb0) rfl rfl rfl rfl hdd_X5_advance ⟨(Nat.le_of_ble_eq_true rfl), (Nat.le_of_ble_eq_true rfl)⟩ rfl rfl (Nat.le_of_ble_eq_true rfl) ⟨(Nat.le_of_ble_eq_true rfl), (Nat.le_of_ble_eq_true rfl)⟩) (fun h2 hG => ?_)
    refine r_aload_n (pc := 13) X dX5_hasClause_13 rfl rfl ?_
    refine r_getI (pc := 14) X (at_X5_o Hb0) rfl mU_X5 (k := 3) (by decide) rfl mF_X5_38 dX5_hasClause_14 hG (fun z3 hG => ?_)
    refine r_iconst (pc := 17) X dX5_hasClause_17 hG rfl (fun z4 hG => ?_)
    refine r_join hG (fun a5 => ∀ (y7 : Int32), a5 = y7.toInt → Ev E ad shl p l e rm_X5_hasClause s m args below meth c 0 0 Q 1 h2 26 [none] [.int y7]) (fun a5 hG => ?_) (fun j6 Hj6 hG => ?_)
    · skip
      intro y7 ha; have ha := ha.symm; subst ha
      exact r_zretW (pc := 26) X dX5_hasClause_26 hQ hG
    refine r_icmp_eq (pc := 18) X dX5_hasClause_18 (tgt := 25) (by decide) hG (fun hG => ?_) (fun hG => ?_)
    · skip
      refine r_iconst (pc := 25) X dX5_hasClause_25 hG rfl (fun z8 hG => ?_)
      exact r_mask [false] rfl (Hj6 _ hG z8 rfl)
    · skip
      refine r_iconst (pc := 21) X dX5_hasClause_21 hG rfl (fun z9 hG => ?_)
      refine r_goto (pc := 22) X dX5_hasClause_22 (tgt := 26) (by decide) ?_
      exact r_mask [false] rfl (Hj6 _ hG z9 rfl)
  · skip
    refine r_iconst (pc := 7) X dX5_hasClause_7 hG rfl (fun z10 hG => ?_)
    exact r_zretW (pc := 8) X dX5_hasClause_8 hQ hG
theorem c_X5_hasClause {b0 : Nat} {r : Int × Hp} (Hb0 : At_X5 shl b0) (hg : g_X5_hasClause b0 h = some r) : Met l yX5_hasClause (wsM yX5_hasClause cX5_hasClause 1 (some .boolean)) rm_X5_hasClause (va_Pc [.ref (ad b0)] (World E ad shl h)) (QcI E ad shl r.1 r.2) 0 0 (bsA E) :=
  met_of (L0 := [some (.ref (ad b0))]) rfl rfl rfl (Nat.le_of_ble_eq_true rfl) (fun _ _ _ _ _ _ _ X => w_X5_hasClause Hb0 X rfl hg)
abbrev rm_X5_isWord : Room := { frames := 4, cells := 0, slots := 0, locals := 85 }
theorem hdd_X5_isWord : yX5_isWord.cls = RX5 ∧ yX5_isWord.cls ≠ "java/lang/invoke/MethodHandle" ∧ yX5_isWord.cls ≠ "java/lang/invoke/VarHandle" ∧ (parseMethodDescriptor yX5_isWord.desc).map (fun d => d.parameters.length) = some 1 := ⟨rfl, by decide +kernel, by decide +kernel, by decide +kernel⟩
set_option maxRecDepth 100000 in
set_option maxHeartbeats 4000000 in
theorem w_X5_isWord {b0 : Nat} {k1 : Nat} {q1 : String × Nat × String} {r : Int} (Hb0 : At_X5 shl b0) (Hq1 : strL[k1]? = some q1) (X : Cx E p s m args meth c cX5_isWord RX5 3 (some .boolean)) (hQ : Q = MQ below (QcI E ad shl r h) args s 0 0 (bsA E)) (hG : g_X5_isWord b0 (strC k1) h = some r) : Ev E ad shl p l e rm_X5_isWord s m args below meth c 0 0 Q 3 h 0 [some (.ref (ad b0)), some (.ref (E.2.2.2.2.1 k1)), none] [] := by
  unfold g_X5_isWord at hG
  refine r_aload_n (pc := 0) X dX5_isWord_0 rfl rfl ?_
  refine r_getI (pc := 1) X (at_X5_o Hb0) rfl mU_X5 (k := 3) (by decide) rfl mF_X5_38 dX5_isWord_1 hG (fun z1 hG => ?_)
  refine r_iconst (pc := 4) X dX5_isWord_4 hG rfl (fun z2 hG => ?_)
  refine r_join hG (fun _ => Ev E ad shl p l e rm_X5_isWord s m args below meth c 0 0 Q 3 h 24 [none, none, none] []) (fun a3 hG => ?_) (fun j4 Hj4 hG => ?_)
  · skip
    refine r_iconst (pc := 24) X dX5_isWord_24 hG rfl (fun z5 hG => ?_)
    exact r_zretP (pc := 25) X dX5_isWord_25 hQ hG
  refine r_icmp_ne (pc := 5) X dX5_isWord_5 (tgt := 24) (by decide) hG (fun hG => ?_) (fun hG => ?_)
  · skip
    exact r_mask [false, false, false] rfl (Hj4 _ hG)
  · skip
    refine r_aload_n (pc := 8) X dX5_isWord_8 rfl rfl ?_
    refine r_getI (pc := 9) X (at_X5_o Hb0) rfl mU_X5 (k := 2) (by decide) rfl mF_X5_22 dX5_isWord_9 hG (fun z6 hG => ?_)
    refine r_aload_n (pc := 12) X dX5_isWord_12 rfl rfl ?_
    refine r_getI (pc := 13) X (at_X5_o Hb0) rfl mU_X5 (k := 4) (by decide) rfl mF_X5_28 dX5_isWord_13 hG (fun z7 hG => ?_)
    refine r_isub (pc := 16) X dX5_isWord_16 hG (fun z8 hG => ?_)
    refine r_aload_n (pc := 17) X dX5_isWord_17 rfl rfl ?_
    refine r_cP (pc := 18) hG (fun _ hg => runStr X dX5_isWord_18 Hq1 (c_J0_length_8abf5 Hq1 hg) mM_X5_45 mI_J0_length_8abf5 mE_J0_length_8abf5 mK_J0_length_8abf5 rfl rfl hdd_J0_length_8abf5 ⟨(Nat.le_of_ble_eq_true rfl), (Nat.le_of_ble_eq_true rfl)⟩ rfl rfl (Nat.le_of_ble_eq_true rfl) ⟨(Nat.le_of_ble_eq_true rfl), (Nat.le_of_ble_eq_true rfl)⟩) (fun z9 hG => ?_)
    refine r_icmp_eq (pc := 21) X dX5_isWord_21 (tgt := 26) (by decide) hG (fun hG => ?_) (fun hG => ?_)
    · skip
      refine r_iconst (pc := 26) X dX5_isWord_26 hG rfl (fun z10 hG => ?_)
      refine r_istore_n (pc := 27) (L' := [some (.ref (ad b0)), some (.ref (E.2.2.2.2.1 k1)), some (.int z10)]) X dX5_isWord_27 rfl (by decide) rfl rfl ?_
      refine r_mask [true, true, true] rfl (r_loop (fun q11 => ∀ (y13 : Int32), q11 = y13.toInt → Ev E ad shl p l e rm_X5_isWord s m args below meth c 0 0 Q 3 h 28 [some (.ref (ad b0)), some (.ref (E.2.2.2.2.1 k1)), some (.int y13)] []) (fun l12 Hl12 q11 hG => ?_) FU _ hG z10 rfl)
      intro y13 ha; have ha := ha.symm; subst ha
      unfold g_X5_isWord_l12 at hG
      refine r_iload_n (pc := 28) X dX5_isWord_28 rfl rfl ?_
      refine r_aload_n (pc := 29) X dX5_isWord_29 rfl rfl ?_
      refine r_cP (pc := 30) hG (fun _ hg => runStr X dX5_isWord_30 Hq1 (c_J0_length_8abf5 Hq1 hg) mM_X5_45 mI_J0_length_8abf5 mE_J0_length_8abf5 mK_J0_length_8abf5 rfl rfl hdd_J0_length_8abf5 ⟨(Nat.le_of_ble_eq_true rfl), (Nat.le_of_ble_eq_true rfl)⟩ rfl rfl (Nat.le_of_ble_eq_true rfl) ⟨(Nat.le_of_ble_eq_true rfl), (Nat.le_of_ble_eq_true rfl)⟩) (fun z14 hG => ?_)
      refine r_icmp_ge (pc := 33) X dX5_isWord_33 (tgt := 63) (by decide) hG (fun hG => ?_) (fun hG => ?_)
      · skip
        refine r_iconst (pc := 63) X dX5_isWord_63 hG rfl (fun z15 hG => ?_)
        exact r_zretP (pc := 64) X dX5_isWord_64 hQ hG
      · skip
        refine r_aload_n (pc := 36) X dX5_isWord_36 rfl rfl ?_
        refine r_getC (pc := 37) X (at_X5_o Hb0) rfl mU_X5 (k := 0) (by decide) (q := (b0 + 1)) rfl mF_X5_11 dX5_isWord_37 ?_
        refine r_aload_n (pc := 40) X dX5_isWord_40 rfl rfl ?_
        refine r_getI (pc := 41) X (at_X5_o Hb0) rfl mU_X5 (k := 4) (by decide) rfl mF_X5_28 dX5_isWord_41 hG (fun z16 hG => ?_)
        refine r_iload_n (pc := 44) X dX5_isWord_44 rfl rfl ?_
        refine r_iadd (pc := 45) X dX5_isWord_45 hG (fun z17 hG => ?_)
        refine r_iald (pc := 46) X (at_X5_bytes Hb0) dX5_isWord_46 hG (fun z18 hG => ?_)
        refine r_aload_n (pc := 47) X dX5_isWord_47 rfl rfl ?_
        refine r_iload_n (pc := 48) X dX5_isWord_48 rfl rfl ?_
        refine r_cP (pc := 49) hG (fun _ hg => runStr X dX5_isWord_49 Hq1 (c_J0_charAt_5068e Hq1 hg) mM_X5_50 mI_J0_charAt_5068e mE_J0_charAt_5068e mK_J0_charAt_5068e rfl rfl hdd_J0_charAt_5068e ⟨(Nat.le_of_ble_eq_true rfl), (Nat.le_of_ble_eq_true rfl)⟩ rfl rfl (Nat.le_of_ble_eq_true rfl) ⟨(Nat.le_of_ble_eq_true rfl), (Nat.le_of_ble_eq_true rfl)⟩) (fun z19 hG => ?_)
        refine r_icmp_eq (pc := 52) X dX5_isWord_52 (tgt := 57) (by decide) hG (fun hG => ?_) (fun hG => ?_)
        · skip
          refine r_iinc (pc := 57) (L' := fun z20 => [some (.ref (ad b0)), some (.ref (E.2.2.2.2.1 k1)), some (.int z20)]) X dX5_isWord_57 (by decide) rfl rfl (by decide) (fun _ => rfl) hG (fun z20 hG => ?_)
          refine r_goto (pc := 60) X dX5_isWord_60 (tgt := 28) (by decide) ?_
          exact r_mask [true, true, true] rfl (Hl12 _ hG z20 rfl)
        · skip
          refine r_iconst (pc := 55) X dX5_isWord_55 hG rfl (fun z21 hG => ?_)
          exact r_zretP (pc := 56) X dX5_isWord_56 hQ hG
    · skip
      exact r_mask [false, false, false] rfl (Hj4 _ hG)
theorem c_X5_isWord {b0 : Nat} {k1 : Nat} {q1 : String × Nat × String} {r : Int} (Hb0 : At_X5 shl b0) (Hq1 : strL[k1]? = some q1) (hg : g_X5_isWord b0 (strC k1) h = some r) : Met l yX5_isWord (wsM yX5_isWord cX5_isWord 3 (some .boolean)) rm_X5_isWord (va_Pc [.ref (ad b0), .ref (E.2.2.2.2.1 k1)] (World E ad shl h)) (QcI E ad shl r h) 0 0 (bsA E) :=
  met_of (L0 := [some (.ref (ad b0)), some (.ref (E.2.2.2.2.1 k1)), none]) rfl rfl rfl (Nat.le_of_ble_eq_true rfl) (fun _ _ _ _ _ _ _ X => w_X5_isWord Hb0 Hq1 X rfl hg)
abbrev rm_X0_firstNumberOf : Room := { frames := 5, cells := 0, slots := 0, locals := 107 }
theorem hdd_X0_firstNumberOf : yX0_firstNumberOf.cls ≠ "java/lang/invoke/MethodHandle" ∧ yX0_firstNumberOf.cls ≠ "java/lang/invoke/VarHandle" ∧ (parseMethodDescriptor yX0_firstNumberOf.desc).map (fun d => d.parameters.length) = some 1 := ⟨by decide +kernel, by decide +kernel, by decide +kernel⟩
set_option maxRecDepth 100000 in
set_option maxHeartbeats 4000000 in
theorem w_X0_firstNumberOf {b1 : Nat} {r : Int} (Hb1 : At_X5 shl b1) (X : Cx E p s m args meth c cX0_firstNumberOf RX0 1 (some .int)) (hQ : Q = MQ below (QcI E ad shl r h) args s 0 0 (bsA E)) (hG : g_X0_firstNumberOf b1 h = some r) : Ev E ad shl p l e rm_X0_firstNumberOf s m args below meth c 0 0 Q 1 h 0 [some (.ref (ad b1))] [] := by
  unfold g_X0_firstNumberOf at hG
  refine r_aload_n (pc := 0) X dX0_firstNumberOf_0 rfl rfl ?_
  refine r_ldcS (pc := 1) (k := 0) X rfl rfl rfl dX0_firstNumberOf_1 ?_
  refine r_cP (pc := 3) hG (fun _ hg => runV X dX0_firstNumberOf_3 (c_X5_isWord Hb1 rfl hg) mM_X0_100 mI_X5_isWord mE_X5_isWord mN_X5 mK_X5_isWord (at_X5_o Hb1) rfl rfl rfl rfl hdd_X5_isWord ⟨(Nat.le_of_ble_eq_true rfl), (Nat.le_of_ble_eq_true rfl)⟩ rfl rfl (Nat.le_of_ble_eq_true rfl) ⟨(Nat.le_of_ble_eq_true rfl), (Nat.le_of_ble_eq_true rfl)⟩) (fun z1 hG => ?_)
  refine r_if_eq (pc := 6) X dX0_firstNumberOf_6 (tgt := 11) (by decide) hG (fun hG => ?_) (fun hG => ?_)
  · skip
    refine r_aload_n (pc := 11) X dX0_firstNumberOf_11 rfl rfl ?_
    refine r_ldcS (pc := 12) (k := 1) X rfl rfl rfl dX0_firstNumberOf_12 ?_
    refine r_cP (pc := 14) hG (fun _ hg => runV X dX0_firstNumberOf_14 (c_X5_isWord Hb1 rfl hg) mM_X0_100 mI_X5_isWord mE_X5_isWord mN_X5 mK_X5_isWord (at_X5_o Hb1) rfl rfl rfl rfl hdd_X5_isWord ⟨(Nat.le_of_ble_eq_true rfl), (Nat.le_of_ble_eq_true rfl)⟩ rfl rfl (Nat.le_of_ble_eq_true rfl) ⟨(Nat.le_of_ble_eq_true rfl), (Nat.le_of_ble_eq_true rfl)⟩) (fun z2 hG => ?_)
    refine r_if_eq (pc := 17) X dX0_firstNumberOf_17 (tgt := 22) (by decide) hG (fun hG => ?_) (fun hG => ?_)
    · skip
      refine r_aload_n (pc := 22) X dX0_firstNumberOf_22 rfl rfl ?_
      refine r_ldcS (pc := 23) (k := 2) X rfl rfl rfl dX0_firstNumberOf_23 ?_
      refine r_cP (pc := 25) hG (fun _ hg => runV X dX0_firstNumberOf_25 (c_X5_isWord Hb1 rfl hg) mM_X0_100 mI_X5_isWord mE_X5_isWord mN_X5 mK_X5_isWord (at_X5_o Hb1) rfl rfl rfl rfl hdd_X5_isWord ⟨(Nat.le_of_ble_eq_true rfl), (Nat.le_of_ble_eq_true rfl)⟩ rfl rfl (Nat.le_of_ble_eq_true rfl) ⟨(Nat.le_of_ble_eq_true rfl), (Nat.le_of_ble_eq_true rfl)⟩) (fun z3 hG => ?_)
      refine r_if_eq (pc := 28) X dX0_firstNumberOf_28 (tgt := 33) (by decide) hG (fun hG => ?_) (fun hG => ?_)
      · skip
        refine r_aload_n (pc := 33) X dX0_firstNumberOf_33 rfl rfl ?_
        refine r_ldcS (pc := 34) (k := 3) X rfl rfl rfl dX0_firstNumberOf_34 ?_
        refine r_cP (pc := 36) hG (fun _ hg => runV X dX0_firstNumberOf_36 (c_X5_isWord Hb1 rfl hg) mM_X0_100 mI_X5_isWord mE_X5_isWord mN_X5 mK_X5_isWord (at_X5_o Hb1) rfl rfl rfl rfl hdd_X5_isWord ⟨(Nat.le_of_ble_eq_true rfl), (Nat.le_of_ble_eq_true rfl)⟩ rfl rfl (Nat.le_of_ble_eq_true rfl) ⟨(Nat.le_of_ble_eq_true rfl), (Nat.le_of_ble_eq_true rfl)⟩) (fun z4 hG => ?_)
        refine r_if_eq (pc := 39) X dX0_firstNumberOf_39 (tgt := 44) (by decide) hG (fun hG => ?_) (fun hG => ?_)
        · skip
          refine r_aload_n (pc := 44) X dX0_firstNumberOf_44 rfl rfl ?_
          refine r_ldcS (pc := 45) (k := 4) X rfl rfl rfl dX0_firstNumberOf_45 ?_
          refine r_cP (pc := 47) hG (fun _ hg => runV X dX0_firstNumberOf_47 (c_X5_isWord Hb1 rfl hg) mM_X0_100 mI_X5_isWord mE_X5_isWord mN_X5 mK_X5_isWord (at_X5_o Hb1) rfl rfl rfl rfl hdd_X5_isWord ⟨(Nat.le_of_ble_eq_true rfl), (Nat.le_of_ble_eq_true rfl)⟩ rfl rfl (Nat.le_of_ble_eq_true rfl) ⟨(Nat.le_of_ble_eq_true rfl), (Nat.le_of_ble_eq_true rfl)⟩) (fun z5 hG => ?_)
          refine r_if_eq (pc := 50) X dX0_firstNumberOf_50 (tgt := 55) (by decide) hG (fun hG => ?_) (fun hG => ?_)
          · skip
            refine r_aload_n (pc := 55) X dX0_firstNumberOf_55 rfl rfl ?_
            refine r_ldcS (pc := 56) (k := 5) X rfl rfl rfl dX0_firstNumberOf_56 ?_
            refine r_cP (pc := 58) hG (fun _ hg => runV X dX0_firstNumberOf_58 (c_X5_isWord Hb1 rfl hg) mM_X0_100 mI_X5_isWord mE_X5_isWord mN_X5 mK_X5_isWord (at_X5_o Hb1) rfl rfl rfl rfl hdd_X5_isWord ⟨(Nat.le_of_ble_eq_true rfl), (Nat.le_of_ble_eq_true rfl)⟩ rfl rfl (Nat.le_of_ble_eq_true rfl) ⟨(Nat.le_of_ble_eq_true rfl), (Nat.le_of_ble_eq_true rfl)⟩) (fun z6 hG => ?_)
            refine r_if_eq (pc := 61) X dX0_firstNumberOf_61 (tgt := 67) (by decide) hG (fun hG => ?_) (fun hG => ?_)
            · skip
              refine r_aload_n (pc := 67) X dX0_firstNumberOf_67 rfl rfl ?_
              refine r_ldcS (pc := 68) (k := 6) X rfl rfl rfl dX0_firstNumberOf_68 ?_
              refine r_cP (pc := 70) hG (fun _ hg => runV X dX0_firstNumberOf_70 (c_X5_isWord Hb1 rfl hg) mM_X0_100 mI_X5_isWord mE_X5_isWord mN_X5 mK_X5_isWord (at_X5_o Hb1) rfl rfl rfl rfl hdd_X5_isWord ⟨(Nat.le_of_ble_eq_true rfl), (Nat.le_of_ble_eq_true rfl)⟩ rfl rfl (Nat.le_of_ble_eq_true rfl) ⟨(Nat.le_of_ble_eq_true rfl), (Nat.le_of_ble_eq_true rfl)⟩) (fun z7 hG => ?_)
              refine r_if_eq (pc := 73) X dX0_firstNumberOf_73 (tgt := 79) (by decide) hG (fun hG => ?_) (fun hG => ?_)
              · skip
                refine r_aload_n (pc := 79) X dX0_firstNumberOf_79 rfl rfl ?_
                refine r_ldcS (pc := 80) (k := 7) X rfl rfl rfl dX0_firstNumberOf_80 ?_
                refine r_cP (pc := 82) hG (fun _ hg => runV X dX0_firstNumberOf_82 (c_X5_isWord Hb1 rfl hg) mM_X0_100 mI_X5_isWord mE_X5_isWord mN_X5 mK_X5_isWord (at_X5_o Hb1) rfl rfl rfl rfl hdd_X5_isWord ⟨(Nat.le_of_ble_eq_true rfl), (Nat.le_of_ble_eq_true rfl)⟩ rfl rfl (Nat.le_of_ble_eq_true rfl) ⟨(Nat.le_of_ble_eq_true rfl), (Nat.le_of_ble_eq_true rfl)⟩) (fun z8 hG => ?_)
                refine r_join hG (fun a9 => ∀ (y11 : Int32), a9 = y11.toInt → Ev E ad shl p l e rm_X0_firstNumberOf s m args below meth c 0 0 Q 1 h 94 [none] [.int y11]) (fun a9 hG => ?_) (fun j10 Hj10 hG => ?_)
                · skip
                  intro y11 ha; have ha := ha.symm; subst ha
                  exact r_iretP (pc := 94) X dX0_firstNumberOf_94 hQ hG
                refine r_if_eq (pc := 85) X dX0_firstNumberOf_85 (tgt := 93) (by decide) hG (fun hG => ?_) (fun hG => ?_)
                · skip
                  refine r_iconst (pc := 93) X dX0_firstNumberOf_93 hG rfl (fun z12 hG => ?_)
                  exact r_mask [false] rfl (Hj10 _ hG z12 rfl)
                · skip
                  refine r_bipush (pc := 88) X dX0_firstNumberOf_88 hG (by decide) (fun z13 hG => ?_)
                  refine r_goto (pc := 90) X dX0_firstNumberOf_90 (tgt := 94) (by decide) ?_
                  exact r_mask [false] rfl (Hj10 _ hG z13 rfl)
              · skip
                refine r_bipush (pc := 76) X dX0_firstNumberOf_76 hG (by decide) (fun z14 hG => ?_)
                exact r_iretP (pc := 78) X dX0_firstNumberOf_78 hQ hG
            · skip
              refine r_bipush (pc := 64) X dX0_firstNumberOf_64 hG (by decide) (fun z15 hG => ?_)
              exact r_iretP (pc := 66) X dX0_firstNumberOf_66 hQ hG
          · skip
            refine r_iconst (pc := 53) X dX0_firstNumberOf_53 hG rfl (fun z16 hG => ?_)
            exact r_iretP (pc := 54) X dX0_firstNumberOf_54 hQ hG
        · skip
          refine r_iconst (pc := 42) X dX0_firstNumberOf_42 hG rfl (fun z17 hG => ?_)
          exact r_iretP (pc := 43) X dX0_firstNumberOf_43 hQ hG
      · skip
        refine r_iconst (pc := 31) X dX0_firstNumberOf_31 hG rfl (fun z18 hG => ?_)
        exact r_iretP (pc := 32) X dX0_firstNumberOf_32 hQ hG
    · skip
      refine r_iconst (pc := 20) X dX0_firstNumberOf_20 hG rfl (fun z19 hG => ?_)
      exact r_iretP (pc := 21) X dX0_firstNumberOf_21 hQ hG
  · skip
    refine r_iconst (pc := 9) X dX0_firstNumberOf_9 hG rfl (fun z20 hG => ?_)
    exact r_iretP (pc := 10) X dX0_firstNumberOf_10 hQ hG
theorem c_X0_firstNumberOf {b1 : Nat} {r : Int} (Hb1 : At_X5 shl b1) (hg : g_X0_firstNumberOf b1 h = some r) : Met l yX0_firstNumberOf (wsM yX0_firstNumberOf cX0_firstNumberOf 1 (some .int)) rm_X0_firstNumberOf (va_Pc [.ref (ad b1)] (World E ad shl h)) (QcI E ad shl r h) 0 0 (bsA E) :=
  met_of (L0 := [some (.ref (ad b1))]) rfl rfl rfl (Nat.le_of_ble_eq_true rfl) (fun _ _ _ _ _ _ _ X => w_X0_firstNumberOf Hb1 X rfl hg)
abbrev rm_X5_refuse : Room := { frames := 0, cells := 0, slots := 0, locals := 0 }
theorem hdd_X5_refuse : yX5_refuse.cls = RX5 ∧ yX5_refuse.cls ≠ "java/lang/invoke/MethodHandle" ∧ yX5_refuse.cls ≠ "java/lang/invoke/VarHandle" ∧ (parseMethodDescriptor yX5_refuse.desc).map (fun d => d.parameters.length) = some 1 := ⟨rfl, by decide +kernel, by decide +kernel, by decide +kernel⟩
set_option maxRecDepth 100000 in
set_option maxHeartbeats 4000000 in
theorem w_X5_refuse {b0 : Nat} {x1 : Int32} {r : Hp} (Hb0 : At_X5 shl b0) (X : Cx E p s m args meth c cX5_refuse RX5 2 none) (hQ : Q = MQ below (QcV E ad shl r) args s 0 0 (bsA E)) (hG : g_X5_refuse b0 x1.toInt h = some r) : Ev E ad shl p l e rm_X5_refuse s m args below meth c 0 0 Q 2 h 0 [some (.ref (ad b0)), some (.int x1)] [] := by
  unfold g_X5_refuse at hG
  refine r_aload_n (pc := 0) X dX5_refuse_0 rfl rfl ?_
  refine r_getI (pc := 1) X (at_X5_o Hb0) rfl mU_X5 (k := 6) (by decide) rfl mF_X5_25 dX5_refuse_1 hG (fun z1 hG => ?_)
  refine r_join hG (fun a2 => ∀ (h4 : Hp), a2 = h4 → Ev E ad shl p l e rm_X5_refuse s m args below meth c 0 0 Q 2 h4 20 [none, none] []) (fun a2 hG => ?_) (fun j3 Hj3 hG => ?_)
  · skip
    intro h4 ha; have ha := ha.symm; subst ha
    exact r_vret (pc := 20) X dX5_refuse_20 hQ hG
  refine r_if_ne (pc := 4) X dX5_refuse_4 (tgt := 20) (by decide) hG (fun hG => ?_) (fun hG => ?_)
  · skip
    exact r_mask [false, false] rfl (Hj3 _ hG h rfl)
  · skip
    refine r_aload_n (pc := 7) X dX5_refuse_7 rfl rfl ?_
    refine r_iload_n (pc := 8) X dX5_refuse_8 rfl rfl ?_
    refine r_putI (pc := 9) X (at_X5_o Hb0) rfl mU_X5 (k := 6) (by decide) rfl rfl rfl mF_X5_25 dX5_refuse_9 hG (fun h5 hG => ?_)
    refine r_aload_n (pc := 12) X dX5_refuse_12 rfl rfl ?_
    refine r_aload_n (pc := 13) X dX5_refuse_13 rfl rfl ?_
    refine r_getI (pc := 14) X (at_X5_o Hb0) rfl mU_X5 (k := 4) (by decide) rfl mF_X5_28 dX5_refuse_14 hG (fun z6 hG => ?_)
    refine r_putI (pc := 17) X (at_X5_o Hb0) rfl mU_X5 (k := 7) (by decide) rfl rfl rfl mF_X5_15 dX5_refuse_17 hG (fun h7 hG => ?_)
    exact r_mask [false, false] rfl (Hj3 _ hG h7 rfl)
theorem c_X5_refuse {b0 : Nat} {x1 : Int32} {r : Hp} (Hb0 : At_X5 shl b0) (hg : g_X5_refuse b0 x1.toInt h = some r) : Met l yX5_refuse (wsM yX5_refuse cX5_refuse 2 none) rm_X5_refuse (va_Pc [.ref (ad b0), .int x1] (World E ad shl h)) (QcV E ad shl r) 0 0 (bsA E) :=
  met_of (L0 := [some (.ref (ad b0)), some (.int x1)]) rfl rfl rfl (Nat.le_of_ble_eq_true rfl) (fun _ _ _ _ _ _ _ X => w_X5_refuse Hb0 X rfl hg)
abbrev rm_X0_howMany : Room := { frames := 0, cells := 0, slots := 0, locals := 0 }
theorem hdd_X0_howMany : yX0_howMany.cls ≠ "java/lang/invoke/MethodHandle" ∧ yX0_howMany.cls ≠ "java/lang/invoke/VarHandle" ∧ (parseMethodDescriptor yX0_howMany.desc).map (fun d => d.parameters.length) = some 1 := ⟨by decide +kernel, by decide +kernel, by decide +kernel⟩
set_option maxRecDepth 100000 in
set_option maxHeartbeats 4000000 in
theorem w_X0_howMany {x1 : Int32} {r : Int}  (X : Cx E p s m args meth c cX0_howMany RX0 1 (some .int)) (hQ : Q = MQ below (QcI E ad shl r h) args s 0 0 (bsA E)) (hG : g_X0_howMany x1.toInt = some r) : Ev E ad shl p l e rm_X0_howMany s m args below meth c 0 0 Q 1 h 0 [some (.int x1)] [] := by
  unfold g_X0_howMany at hG
  refine r_iload_n (pc := 0) X dX0_howMany_0 rfl rfl ?_
  refine r_bipush (pc := 1) X dX0_howMany_1 hG (by decide) (fun z1 hG => ?_)
  refine r_icmp_ne (pc := 3) X dX0_howMany_3 (tgt := 8) (by decide) hG (fun hG => ?_) (fun hG => ?_)
  · skip
    refine r_iload_n (pc := 8) X dX0_howMany_8 rfl rfl ?_
    refine r_join hG (fun a2 => ∀ (y4 : Int32), a2 = y4.toInt → Ev E ad shl p l e rm_X0_howMany s m args below meth c 0 0 Q 1 h 17 [none] [.int y4]) (fun a2 hG => ?_) (fun j3 Hj3 hG => ?_)
    · skip
      intro y4 ha; have ha := ha.symm; subst ha
      exact r_iretP (pc := 17) X dX0_howMany_17 hQ hG
    refine r_if_ne (pc := 9) X dX0_howMany_9 (tgt := 16) (by decide) hG (fun hG => ?_) (fun hG => ?_)
    · skip
      refine r_iconst (pc := 16) X dX0_howMany_16 hG rfl (fun z5 hG => ?_)
      exact r_mask [false] rfl (Hj3 _ hG z5 rfl)
    · skip
      refine r_iconst (pc := 12) X dX0_howMany_12 hG rfl (fun z6 hG => ?_)
      refine r_goto (pc := 13) X dX0_howMany_13 (tgt := 17) (by decide) ?_
      exact r_mask [false] rfl (Hj3 _ hG z6 rfl)
  · skip
    refine r_iconst (pc := 6) X dX0_howMany_6 hG rfl (fun z7 hG => ?_)
    exact r_iretP (pc := 7) X dX0_howMany_7 hQ hG
theorem c_X0_howMany {x1 : Int32} {r : Int}  (hg : g_X0_howMany x1.toInt = some r) : Met l yX0_howMany (wsM yX0_howMany cX0_howMany 1 (some .int)) rm_X0_howMany (va_Pc [.int x1] (World E ad shl h)) (QcI E ad shl r h) 0 0 (bsA E) :=
  met_of (L0 := [some (.int x1)]) rfl rfl rfl (Nat.le_of_ble_eq_true rfl) (fun _ _ _ _ _ _ _ X => w_X0_howMany  X rfl hg)
abbrev rm_X5_need : Room := { frames := 2, cells := 0, slots := 0, locals := 40 }
theorem hdd_X5_need : yX5_need.cls = RX5 ∧ yX5_need.cls ≠ "java/lang/invoke/MethodHandle" ∧ yX5_need.cls ≠ "java/lang/invoke/VarHandle" ∧ (parseMethodDescriptor yX5_need.desc).map (fun d => d.parameters.length) = some 2 := ⟨rfl, by decide +kernel, by decide +kernel, by decide +kernel⟩
set_option maxRecDepth 100000 in
set_option maxHeartbeats 4000000 in
theorem w_X5_need {b0 : Nat} {x1 : Int32} {x2 : Int32} {r : Int × Hp} (Hb0 : At_X5 shl b0) (X : Cx E p s m args meth c cX5_need RX5 3 (some .int)) (hQ : Q = MQ below (QcI E ad shl r.1 r.2) args s 0 0 (bsA E)) (hG : g_X5_need b0 x1.toInt x2.toInt h = some r) : Ev E ad shl p l e rm_X5_need s m args below meth c 0 0 Q 3 h 0 [some (.ref (ad b0)), some (.int x1), some (.int x2)] [] := by
  unfold g_X5_need at hG
  refine r_aload_n (pc := 0) X dX5_need_0 rfl rfl ?_
  refine r_cP (pc := 1) hG (fun _ hg => runV X dX5_need_1 (c_X5_isFaulty Hb0 hg) mM_X5_54 mI_X5_isFaulty mE_X5_isFaulty mN_X5 mK_X5_isFaulty (at_X5_o Hb0) rfl rfl rfl rfl hdd_X5_isFaulty ⟨(Nat.le_of_ble_eq_true rfl), (Nat.le_of_ble_eq_true rfl)⟩ rfl rfl (Nat.le_of_ble_eq_true rfl) ⟨(Nat.le_of_ble_eq_true rfl), (Nat.le_of_ble_eq_true rfl)⟩) (fun z1 hG => ?_)
  refine r_if_eq (pc := 4) X dX5_need_4 (tgt := 9) (by decide) hG (fun hG => ?_) (fun hG => ?_)
  · skip
    refine r_aload_n (pc := 9) X dX5_need_9 rfl rfl ?_
    refine r_cV (pc := 10) hG (fun _ hg => runV X dX5_need_10 (c_X5_advance Hb0 hg) mM_X5_58 mI_X5_advance mE_X5_advance mN_X5 mK_X5_advance (at_X5_o Hb0) rfl rfl rfl rfl hdd_X5_advance ⟨(Nat.le_of_ble_eq_true rfl), (Nat.le_of_ble_eq_true rfl)⟩ rfl rfl (Nat.le_of_ble_eq_true rfl) ⟨(Nat.le_of_ble_eq_true rfl), (Nat.le_of_ble_eq_true rfl)⟩) (fun h2 hG => ?_)
    refine r_aload_n (pc := 13) X dX5_need_13 rfl rfl ?_
    refine r_getI (pc := 14) X (at_X5_o Hb0) rfl mU_X5 (k := 3) (by decide) rfl mF_X5_38 dX5_need_14 hG (fun z3 hG => ?_)
    refine r_iconst (pc := 17) X dX5_need_17 hG rfl (fun z4 hG => ?_)
    refine r_icmp_eq (pc := 18) X dX5_need_18 (tgt := 28) (by decide) hG (fun hG => ?_) (fun hG => ?_)
    · skip
      refine r_aload_n (pc := 28) X dX5_need_28 rfl rfl ?_
      refine r_getI (pc := 29) X (at_X5_o Hb0) rfl mU_X5 (k := 5) (by decide) rfl mF_X5_35 dX5_need_29 hG (fun z5 hG => ?_)
      refine r_iload_n (pc := 32) X dX5_need_32 rfl rfl ?_
      refine r_join hG (fun _ => Ev E ad shl p l e rm_X5_need s m args below meth c 0 0 Q 3 h2 44 [some (.ref (ad b0)), some (.int x1), none] []) (fun a6 hG => ?_) (fun j7 Hj7 hG => ?_)
      · skip
        refine r_aload_n (pc := 44) X dX5_need_44 rfl rfl ?_
        refine r_iconst (pc := 45) X dX5_need_45 hG rfl (fun z8 hG => ?_)
        refine r_cV (pc := 46) hG (fun _ hg => runV X dX5_need_46 (c_X5_refuse Hb0 hg) mM_X5_61 mI_X5_refuse mE_X5_refuse mN_X5 mK_X5_refuse (at_X5_o Hb0) rfl rfl rfl rfl hdd_X5_refuse ⟨(Nat.le_of_ble_eq_true rfl), (Nat.le_of_ble_eq_true rfl)⟩ rfl rfl (Nat.le_of_ble_eq_true rfl) ⟨(Nat.le_of_ble_eq_true rfl), (Nat.le_of_ble_eq_true rfl)⟩) (fun h9 hG => ?_)
        refine r_iload_n (pc := 49) X dX5_need_49 rfl rfl ?_
        exact r_iretW (pc := 50) X dX5_need_50 hQ hG
      refine r_icmp_lt (pc := 33) X dX5_need_33 (tgt := 44) (by decide) hG (fun hG => ?_) (fun hG => ?_)
      · skip
        exact r_mask [true, true, false] rfl (Hj7 _ hG)
      · skip
        refine r_aload_n (pc := 36) X dX5_need_36 rfl rfl ?_
        refine r_getI (pc := 37) X (at_X5_o Hb0) rfl mU_X5 (k := 5) (by decide) rfl mF_X5_35 dX5_need_37 hG (fun z10 hG => ?_)
        refine r_iload_n (pc := 40) X dX5_need_40 rfl rfl ?_
        refine r_icmp_le (pc := 41) X dX5_need_41 (tgt := 51) (by decide) hG (fun hG => ?_) (fun hG => ?_)
        · skip
          refine r_aload_n (pc := 51) X dX5_need_51 rfl rfl ?_
          refine r_getI (pc := 52) X (at_X5_o Hb0) rfl mU_X5 (k := 5) (by decide) rfl mF_X5_35 dX5_need_52 hG (fun z11 hG => ?_)
          exact r_iretW (pc := 55) X dX5_need_55 hQ hG
        · skip
          exact r_mask [true, true, false] rfl (Hj7 _ hG)
    · skip
      refine r_aload_n (pc := 21) X dX5_need_21 rfl rfl ?_
      refine r_iconst (pc := 22) X dX5_need_22 hG rfl (fun z12 hG => ?_)
      refine r_cV (pc := 23) hG (fun _ hg => runV X dX5_need_23 (c_X5_refuse Hb0 hg) mM_X5_61 mI_X5_refuse mE_X5_refuse mN_X5 mK_X5_refuse (at_X5_o Hb0) rfl rfl rfl rfl hdd_X5_refuse ⟨(Nat.le_of_ble_eq_true rfl), (Nat.le_of_ble_eq_true rfl)⟩ rfl rfl (Nat.le_of_ble_eq_true rfl) ⟨(Nat.le_of_ble_eq_true rfl), (Nat.le_of_ble_eq_true rfl)⟩) (fun h13 hG => ?_)
      refine r_iload_n (pc := 26) X dX5_need_26 rfl rfl ?_
      exact r_iretW (pc := 27) X dX5_need_27 hQ hG
  · skip
    refine r_iload_n (pc := 7) X dX5_need_7 rfl rfl ?_
    exact r_iretW (pc := 8) X dX5_need_8 hQ hG
theorem c_X5_need {b0 : Nat} {x1 : Int32} {x2 : Int32} {r : Int × Hp} (Hb0 : At_X5 shl b0) (hg : g_X5_need b0 x1.toInt x2.toInt h = some r) : Met l yX5_need (wsM yX5_need cX5_need 3 (some .int)) rm_X5_need (va_Pc [.ref (ad b0), .int x1, .int x2] (World E ad shl h)) (QcI E ad shl r.1 r.2) 0 0 (bsA E) :=
  met_of (L0 := [some (.ref (ad b0)), some (.int x1), some (.int x2)]) rfl rfl rfl (Nat.le_of_ble_eq_true rfl) (fun _ _ _ _ _ _ _ X => w_X5_need Hb0 X rfl hg)
abbrev rm_X0_readNumbers : Room := { frames := 3, cells := 0, slots := 0, locals := 62 }
theorem hdd_X0_readNumbers : yX0_readNumbers.cls = RX0 ∧ yX0_readNumbers.cls ≠ "java/lang/invoke/MethodHandle" ∧ yX0_readNumbers.cls ≠ "java/lang/invoke/VarHandle" ∧ (parseMethodDescriptor yX0_readNumbers.desc).map (fun d => d.parameters.length) = some 2 := ⟨rfl, by decide +kernel, by decide +kernel, by decide +kernel⟩
set_option maxRecDepth 100000 in
set_option maxHeartbeats 4000000 in
theorem w_X0_readNumbers {b0 : Nat} {b1 : Nat} {x2 : Int32} {r : Hp} (Hb0 : At_X0 shl b0) (Hb1 : At_X5 shl b1) (X : Cx E p s m args meth c cX0_readNumbers RX0 5 none) (hQ : Q = MQ below (QcV E ad shl r) args s 0 0 (bsA E)) (hG : g_X0_readNumbers b0 b1 x2.toInt h = some r) : Ev E ad shl p l e rm_X0_readNumbers s m args below meth c 0 0 Q 5 h 0 [some (.ref (ad b0)), some (.ref (ad b1)), some (.int x2), none, none] [] := by
  unfold g_X0_readNumbers at hG
  refine r_aload_n (pc := 0) X dX0_readNumbers_0 rfl rfl ?_
  refine r_getI (pc := 1) X (at_X0_o Hb0) rfl mU_X0 (k := 7) (by decide) rfl mF_X0_79 dX0_readNumbers_1 hG (fun z1 hG => ?_)
  refine r_iload_n (pc := 4) X dX0_readNumbers_4 rfl rfl ?_
  refine r_ishr (pc := 5) X dX0_readNumbers_5 hG (fun z2 hG => ?_)
  refine r_iconst (pc := 6) X dX0_readNumbers_6 hG rfl (fun z3 hG => ?_)
  refine r_iand (pc := 7) X dX0_readNumbers_7 hG (fun z4 hG => ?_)
  refine r_join hG (fun a5 => ∀ (h7 : Hp), a5 = h7 → Ev E ad shl p l e rm_X0_readNumbers s m args below meth c 0 0 Q 5 h7 35 [some (.ref (ad b0)), some (.ref (ad b1)), some (.int x2), none, none] []) (fun a5 hG => ?_) (fun j6 Hj6 hG => ?_)
  · skip
    intro h7 ha; have ha := ha.symm; subst ha
    refine r_aload_n (pc := 35) X dX0_readNumbers_35 rfl rfl ?_
    refine r_dup (pc := 36) X dX0_readNumbers_36 rfl ?_
    refine r_getI (pc := 37) X (at_X0_o Hb0) rfl mU_X0 (k := 7) (by decide) rfl mF_X0_79 dX0_readNumbers_37 hG (fun z8 hG => ?_)
    refine r_iconst (pc := 40) X dX0_readNumbers_40 hG rfl (fun z9 hG => ?_)
    refine r_iload_n (pc := 41) X dX0_readNumbers_41 rfl rfl ?_
    refine r_ishl (pc := 42) X dX0_readNumbers_42 hG (fun z10 hG => ?_)
    refine r_ior (pc := 43) X dX0_readNumbers_43 hG (fun z11 hG => ?_)
    refine r_putI (pc := 44) X (at_X0_o Hb0) rfl mU_X0 (k := 7) (by decide) rfl rfl rfl mF_X0_79 dX0_readNumbers_44 hG (fun h12 hG => ?_)
    refine r_bipush (pc := 47) X dX0_readNumbers_47 hG (by decide) (fun z13 hG => ?_)
    refine r_iload_n (pc := 49) X dX0_readNumbers_49 rfl rfl ?_
    refine r_iload_n (pc := 50) X dX0_readNumbers_50 rfl rfl ?_
    refine r_cP (pc := 51) hG (fun _ hg => runS X dX0_readNumbers_51 (c_X0_howMany  hg) mM_X0_137 mS_X0_howMany mN_X0 mK_X0_howMany rfl rfl hdd_X0_howMany ⟨(Nat.le_of_ble_eq_true rfl), (Nat.le_of_ble_eq_true rfl)⟩ rfl rfl (Nat.le_of_ble_eq_true rfl) ⟨(Nat.le_of_ble_eq_true rfl), (Nat.le_of_ble_eq_true rfl)⟩) (fun z14 hG => ?_)
    refine r_iadd (pc := 54) X dX0_readNumbers_54 hG (fun z15 hG => ?_)
    refine r_mmin (pc := 55) X dX0_readNumbers_55 mM_X0_141 (Nat.le_of_ble_eq_true rfl) (Nat.le_of_ble_eq_true rfl) (Nat.le_of_ble_eq_true rfl) (Nat.le_of_ble_eq_true rfl) hG (fun z16 hG => ?_)
    refine r_istore_n (pc := 58) (L' := [some (.ref (ad b0)), some (.ref (ad b1)), some (.int x2), some (.int z16), none]) X dX0_readNumbers_58 rfl (by decide) rfl rfl ?_
    refine r_iload_n (pc := 59) X dX0_readNumbers_59 rfl rfl ?_
    refine r_istore (pc := 60) (L' := [some (.ref (ad b0)), some (.ref (ad b1)), some (.int x2), some (.int z16), some (.int x2)]) X dX0_readNumbers_60 (by decide) rfl rfl ?_
    refine r_mask [true, true, false, true, true] rfl (r_loop (fun q17 => ∀ (y19 : Int32) (h20 : Hp), q17 = (y19.toInt, h20) → Ev E ad shl p l e rm_X0_readNumbers s m args below meth c 0 0 Q 5 h20 62 [some (.ref (ad b0)), some (.ref (ad b1)), none, some (.int z16), some (.int y19)] []) (fun l18 Hl18 q17 hG => ?_) FU _ hG x2 h12 rfl)
    intro y19 h20 ha; have ha := ha.symm; subst ha
    unfold g_X0_readNumbers_l18 at hG
    refine r_iload (pc := 62) X dX0_readNumbers_62 rfl ?_
    refine r_iload_n (pc := 64) X dX0_readNumbers_64 rfl rfl ?_
    refine r_icmp_ge (pc := 65) X dX0_readNumbers_65 (tgt := 97) (by decide) hG (fun hG => ?_) (fun hG => ?_)
    · skip
      exact r_vret (pc := 97) X dX0_readNumbers_97 hQ hG
    · skip
      refine r_aload_n (pc := 68) X dX0_readNumbers_68 rfl rfl ?_
      refine r_getC (pc := 69) X (at_X0_o Hb0) rfl mU_X0 (k := 0) (by decide) (q := (b0 + 1)) rfl mF_X0_11 dX0_readNumbers_69 ?_
      refine r_iload (pc := 72) X dX0_readNumbers_72 rfl ?_
      refine r_aload_n (pc := 74) X dX0_readNumbers_74 rfl rfl ?_
      refine r_gets (pc := 75) X (k := 0) rfl mF_X0_146 dX0_readNumbers_75 ?_
      refine r_iload (pc := 78) X dX0_readNumbers_78 rfl ?_
      refine r_tab (pc := 80) X (k := 0) rfl (tabR (k := 0) rfl) dX0_readNumbers_80 hG (fun z21 hG => ?_)
      refine r_gets (pc := 81) X (k := 1) rfl mF_X0_149 dX0_readNumbers_81 ?_
      refine r_iload (pc := 84) X dX0_readNumbers_84 rfl ?_
      refine r_tab (pc := 86) X (k := 1) rfl (tabR (k := 1) rfl) dX0_readNumbers_86 hG (fun z22 hG => ?_)
      refine r_cW (pc := 87) hG (fun _ hg => runV X dX0_readNumbers_87 (c_X5_need Hb1 hg) mM_X0_54 mI_X5_need mE_X5_need mN_X5 mK_X5_need (at_X5_o Hb1) rfl rfl rfl rfl hdd_X5_need ⟨(Nat.le_of_ble_eq_true rfl), (Nat.le_of_ble_eq_true rfl)⟩ rfl rfl (Nat.le_of_ble_eq_true rfl) ⟨(Nat.le_of_ble_eq_true rfl), (Nat.le_of_ble_eq_true rfl)⟩) (fun z23 h24 hG => ?_)
      refine r_iast (pc := 90) X (at_X0_numbers Hb0) dX0_readNumbers_90 hG (fun h25 hG => ?_)
      refine r_iinc (pc := 91) (L' := fun z26 => [some (.ref (ad b0)), some (.ref (ad b1)), none, some (.int z16), some (.int z26)]) X dX0_readNumbers_91 (by decide) rfl rfl (by decide) (fun _ => rfl) hG (fun z26 hG => ?_)
      refine r_goto (pc := 94) X dX0_readNumbers_94 (tgt := 62) (by decide) ?_
      exact r_mask [true, true, false, true, true] rfl (Hl18 _ hG z26 h25 rfl)
  refine r_if_eq (pc := 8) X dX0_readNumbers_8 (tgt := 19) (by decide) hG (fun hG => ?_) (fun hG => ?_)
  · skip
    refine r_iload_n (pc := 19) X dX0_readNumbers_19 rfl rfl ?_
    refine r_if_ne (pc := 20) X dX0_readNumbers_20 (tgt := 35) (by decide) hG (fun hG => ?_) (fun hG => ?_)
    · skip
      exact r_mask [true, true, true, false, false] rfl (Hj6 _ hG h rfl)
    · skip
      refine r_aload_n (pc := 23) X dX0_readNumbers_23 rfl rfl ?_
      refine r_getI (pc := 24) X (at_X0_o Hb0) rfl mU_X0 (k := 8) (by decide) rfl mF_X0_82 dX0_readNumbers_24 hG (fun z27 hG => ?_)
      refine r_if_eq (pc := 27) X dX0_readNumbers_27 (tgt := 35) (by decide) hG (fun hG => ?_) (fun hG => ?_)
      · skip
        exact r_mask [true, true, true, false, false] rfl (Hj6 _ hG h rfl)
      · skip
        refine r_aload_n (pc := 30) X dX0_readNumbers_30 rfl rfl ?_
        refine r_iconst (pc := 31) X dX0_readNumbers_31 hG rfl (fun z28 hG => ?_)
        refine r_cV (pc := 32) hG (fun _ hg => runV X dX0_readNumbers_32 (c_X5_refuse Hb1 hg) mM_X0_117 mI_X5_refuse mE_X5_refuse mN_X5 mK_X5_refuse (at_X5_o Hb1) rfl rfl rfl rfl hdd_X5_refuse ⟨(Nat.le_of_ble_eq_true rfl), (Nat.le_of_ble_eq_true rfl)⟩ rfl rfl (Nat.le_of_ble_eq_true rfl) ⟨(Nat.le_of_ble_eq_true rfl), (Nat.le_of_ble_eq_true rfl)⟩) (fun h29 hG => ?_)
        exact r_mask [true, true, true, false, false] rfl (Hj6 _ hG h29 rfl)
  · skip
    refine r_aload_n (pc := 11) X dX0_readNumbers_11 rfl rfl ?_
    refine r_iconst (pc := 12) X dX0_readNumbers_12 hG rfl (fun z30 hG => ?_)
    refine r_cV (pc := 13) hG (fun _ hg => runV X dX0_readNumbers_13 (c_X5_refuse Hb1 hg) mM_X0_117 mI_X5_refuse mE_X5_refuse mN_X5 mK_X5_refuse (at_X5_o Hb1) rfl rfl rfl rfl hdd_X5_refuse ⟨(Nat.le_of_ble_eq_true rfl), (Nat.le_of_ble_eq_true rfl)⟩ rfl rfl (Nat.le_of_ble_eq_true rfl) ⟨(Nat.le_of_ble_eq_true rfl), (Nat.le_of_ble_eq_true rfl)⟩) (fun h31 hG => ?_)
    refine r_goto (pc := 16) X dX0_readNumbers_16 (tgt := 35) (by decide) ?_
    exact r_mask [true, true, true, false, false] rfl (Hj6 _ hG h31 rfl)
theorem c_X0_readNumbers {b0 : Nat} {b1 : Nat} {x2 : Int32} {r : Hp} (Hb0 : At_X0 shl b0) (Hb1 : At_X5 shl b1) (hg : g_X0_readNumbers b0 b1 x2.toInt h = some r) : Met l yX0_readNumbers (wsM yX0_readNumbers cX0_readNumbers 5 none) rm_X0_readNumbers (va_Pc [.ref (ad b0), .ref (ad b1), .int x2] (World E ad shl h)) (QcV E ad shl r) 0 0 (bsA E) :=
  met_of (L0 := [some (.ref (ad b0)), some (.ref (ad b1)), some (.int x2), none, none]) rfl rfl rfl (Nat.le_of_ble_eq_true rfl) (fun _ _ _ _ _ _ _ X => w_X0_readNumbers Hb0 Hb1 X rfl hg)
abbrev rm_X0_columns : Room := { frames := 0, cells := 0, slots := 0, locals := 0 }
theorem hdd_X0_columns : yX0_columns.cls = RX0 ∧ yX0_columns.cls ≠ "java/lang/invoke/MethodHandle" ∧ yX0_columns.cls ≠ "java/lang/invoke/VarHandle" ∧ (parseMethodDescriptor yX0_columns.desc).map (fun d => d.parameters.length) = some 0 := ⟨rfl, by decide +kernel, by decide +kernel, by decide +kernel⟩
set_option maxRecDepth 100000 in
set_option maxHeartbeats 4000000 in
theorem w_X0_columns {b0 : Nat} {r : Int} (Hb0 : At_X0 shl b0) (X : Cx E p s m args meth c cX0_columns RX0 1 (some .int)) (hQ : Q = MQ below (QcI E ad shl r h) args s 0 0 (bsA E)) (hG : g_X0_columns b0 h = some r) : Ev E ad shl p l e rm_X0_columns s m args below meth c 0 0 Q 1 h 0 [some (.ref (ad b0))] [] := by
  unfold g_X0_columns at hG
  refine r_aload_n (pc := 0) X dX0_columns_0 rfl rfl ?_
  refine r_getC (pc := 1) X (at_X0_o Hb0) rfl mU_X0 (k := 0) (by decide) (q := (b0 + 1)) rfl mF_X0_11 dX0_columns_1 ?_
  refine r_iconst (pc := 4) X dX0_columns_4 hG rfl (fun z1 hG => ?_)
  refine r_iald (pc := 5) X (at_X0_numbers Hb0) dX0_columns_5 hG (fun z2 hG => ?_)
  exact r_iretP (pc := 6) X dX0_columns_6 hQ hG
theorem c_X0_columns {b0 : Nat} {r : Int} (Hb0 : At_X0 shl b0) (hg : g_X0_columns b0 h = some r) : Met l yX0_columns (wsM yX0_columns cX0_columns 1 (some .int)) rm_X0_columns (va_Pc [.ref (ad b0)] (World E ad shl h)) (QcI E ad shl r h) 0 0 (bsA E) :=
  met_of (L0 := [some (.ref (ad b0))]) rfl rfl rfl (Nat.le_of_ble_eq_true rfl) (fun _ _ _ _ _ _ _ X => w_X0_columns Hb0 X rfl hg)
abbrev rm_X0_rows : Room := { frames := 0, cells := 0, slots := 0, locals := 0 }
theorem hdd_X0_rows : yX0_rows.cls = RX0 ∧ yX0_rows.cls ≠ "java/lang/invoke/MethodHandle" ∧ yX0_rows.cls ≠ "java/lang/invoke/VarHandle" ∧ (parseMethodDescriptor yX0_rows.desc).map (fun d => d.parameters.length) = some 0 := ⟨rfl, by decide +kernel, by decide +kernel, by decide +kernel⟩
set_option maxRecDepth 100000 in
set_option maxHeartbeats 4000000 in
theorem w_X0_rows {b0 : Nat} {r : Int} (Hb0 : At_X0 shl b0) (X : Cx E p s m args meth c cX0_rows RX0 1 (some .int)) (hQ : Q = MQ below (QcI E ad shl r h) args s 0 0 (bsA E)) (hG : g_X0_rows b0 h = some r) : Ev E ad shl p l e rm_X0_rows s m args below meth c 0 0 Q 1 h 0 [some (.ref (ad b0))] [] := by
  unfold g_X0_rows at hG
  refine r_aload_n (pc := 0) X dX0_rows_0 rfl rfl ?_
  refine r_getC (pc := 1) X (at_X0_o Hb0) rfl mU_X0 (k := 0) (by decide) (q := (b0 + 1)) rfl mF_X0_11 dX0_rows_1 ?_
  refine r_iconst (pc := 4) X dX0_rows_4 hG rfl (fun z1 hG => ?_)
  refine r_iald (pc := 5) X (at_X0_numbers Hb0) dX0_rows_5 hG (fun z2 hG => ?_)
  exact r_iretP (pc := 6) X dX0_rows_6 hQ hG
theorem c_X0_rows {b0 : Nat} {r : Int} (Hb0 : At_X0 shl b0) (hg : g_X0_rows b0 h = some r) : Met l yX0_rows (wsM yX0_rows cX0_rows 1 (some .int)) rm_X0_rows (va_Pc [.ref (ad b0)] (World E ad shl h)) (QcI E ad shl r h) 0 0 (bsA E) :=
  met_of (L0 := [some (.ref (ad b0))]) rfl rfl rfl (Nat.le_of_ble_eq_true rfl) (fun _ _ _ _ _ _ _ X => w_X0_rows Hb0 X rfl hg)
abbrev rm_X0_needCell : Room := { frames := 3, cells := 0, slots := 0, locals := 62 }
theorem hdd_X0_needCell : yX0_needCell.cls = RX0 ∧ yX0_needCell.cls ≠ "java/lang/invoke/MethodHandle" ∧ yX0_needCell.cls ≠ "java/lang/invoke/VarHandle" ∧ (parseMethodDescriptor yX0_needCell.desc).map (fun d => d.parameters.length) = some 1 := ⟨rfl, by decide +kernel, by decide +kernel, by decide +kernel⟩
set_option maxRecDepth 100000 in
set_option maxHeartbeats 4000000 in
theorem w_X0_needCell {b0 : Nat} {b1 : Nat} {r : Int × Hp} (Hb0 : At_X0 shl b0) (Hb1 : At_X5 shl b1) (X : Cx E p s m args meth c cX0_needCell RX0 4 (some .int)) (hQ : Q = MQ below (QcI E ad shl r.1 r.2) args s 0 0 (bsA E)) (hG : g_X0_needCell b0 b1 h = some r) : Ev E ad shl p l e rm_X0_needCell s m args below meth c 0 0 Q 4 h 0 [some (.ref (ad b0)), some (.ref (ad b1)), none, none] [] := by
  unfold g_X0_needCell at hG
  refine r_aload_n (pc := 0) X dX0_needCell_0 rfl rfl ?_
  refine r_iconst (pc := 1) X dX0_needCell_1 hG rfl (fun z1 hG => ?_)
  refine r_aload_n (pc := 2) X dX0_needCell_2 rfl rfl ?_
  refine r_cP (pc := 3) hG (fun _ hg => runV X dX0_needCell_3 (c_X0_columns Hb0 hg) mM_X0_50 mI_X0_columns mE_X0_columns mN_X0 mK_X0_columns (at_X0_o Hb0) rfl rfl rfl rfl hdd_X0_columns ⟨(Nat.le_of_ble_eq_true rfl), (Nat.le_of_ble_eq_true rfl)⟩ rfl rfl (Nat.le_of_ble_eq_true rfl) ⟨(Nat.le_of_ble_eq_true rfl), (Nat.le_of_ble_eq_true rfl)⟩) (fun z2 hG => ?_)
  refine r_iconst (pc := 6) X dX0_needCell_6 hG rfl (fun z3 hG => ?_)
  refine r_isub (pc := 7) X dX0_needCell_7 hG (fun z4 hG => ?_)
  refine r_cW (pc := 8) hG (fun _ hg => runV X dX0_needCell_8 (c_X5_need Hb1 hg) mM_X0_54 mI_X5_need mE_X5_need mN_X5 mK_X5_need (at_X5_o Hb1) rfl rfl rfl rfl hdd_X5_need ⟨(Nat.le_of_ble_eq_true rfl), (Nat.le_of_ble_eq_true rfl)⟩ rfl rfl (Nat.le_of_ble_eq_true rfl) ⟨(Nat.le_of_ble_eq_true rfl), (Nat.le_of_ble_eq_true rfl)⟩) (fun z5 h6 hG => ?_)
  refine r_istore_n (pc := 11) (L' := [some (.ref (ad b0)), some (.ref (ad b1)), some (.int z5), none]) X dX0_needCell_11 rfl (by decide) rfl rfl ?_
  refine r_aload_n (pc := 12) X dX0_needCell_12 rfl rfl ?_
  refine r_iconst (pc := 13) X dX0_needCell_13 hG rfl (fun z7 hG => ?_)
  refine r_aload_n (pc := 14) X dX0_needCell_14 rfl rfl ?_
  refine r_cP (pc := 15) hG (fun _ hg => runV X dX0_needCell_15 (c_X0_rows Hb0 hg) mM_X0_58 mI_X0_rows mE_X0_rows mN_X0 mK_X0_rows (at_X0_o Hb0) rfl rfl rfl rfl hdd_X0_rows ⟨(Nat.le_of_ble_eq_true rfl), (Nat.le_of_ble_eq_true rfl)⟩ rfl rfl (Nat.le_of_ble_eq_true rfl) ⟨(Nat.le_of_ble_eq_true rfl), (Nat.le_of_ble_eq_true rfl)⟩) (fun z8 hG => ?_)
  refine r_iconst (pc := 18) X dX0_needCell_18 hG rfl (fun z9 hG => ?_)
  refine r_isub (pc := 19) X dX0_needCell_19 hG (fun z10 hG => ?_)
  refine r_cW (pc := 20) hG (fun _ hg => runV X dX0_needCell_20 (c_X5_need Hb1 hg) mM_X0_54 mI_X5_need mE_X5_need mN_X5 mK_X5_need (at_X5_o Hb1) rfl rfl rfl rfl hdd_X5_need ⟨(Nat.le_of_ble_eq_true rfl), (Nat.le_of_ble_eq_true rfl)⟩ rfl rfl (Nat.le_of_ble_eq_true rfl) ⟨(Nat.le_of_ble_eq_true rfl), (Nat.le_of_ble_eq_true rfl)⟩) (fun z11 h12 hG => ?_)
  refine r_istore_n (pc := 23) (L' := [some (.ref (ad b0)), some (.ref (ad b1)), some (.int z5), some (.int z11)]) X dX0_needCell_23 rfl (by decide) rfl rfl ?_
  refine r_iload_n (pc := 24) X dX0_needCell_24 rfl rfl ?_
  refine r_aload_n (pc := 25) X dX0_needCell_25 rfl rfl ?_
  refine r_cP (pc := 26) hG (fun _ hg => runV X dX0_needCell_26 (c_X0_columns Hb0 hg) mM_X0_50 mI_X0_columns mE_X0_columns mN_X0 mK_X0_columns (at_X0_o Hb0) rfl rfl rfl rfl hdd_X0_columns ⟨(Nat.le_of_ble_eq_true rfl), (Nat.le_of_ble_eq_true rfl)⟩ rfl rfl (Nat.le_of_ble_eq_true rfl) ⟨(Nat.le_of_ble_eq_true rfl), (Nat.le_of_ble_eq_true rfl)⟩) (fun z13 hG => ?_)
  refine r_imul (pc := 29) X dX0_needCell_29 hG (fun z14 hG => ?_)
  refine r_iload_n (pc := 30) X dX0_needCell_30 rfl rfl ?_
  refine r_iadd (pc := 31) X dX0_needCell_31 hG (fun z15 hG => ?_)
  exact r_iretW (pc := 32) X dX0_needCell_32 hQ hG
theorem c_X0_needCell {b0 : Nat} {b1 : Nat} {r : Int × Hp} (Hb0 : At_X0 shl b0) (Hb1 : At_X5 shl b1) (hg : g_X0_needCell b0 b1 h = some r) : Met l yX0_needCell (wsM yX0_needCell cX0_needCell 4 (some .int)) rm_X0_needCell (va_Pc [.ref (ad b0), .ref (ad b1)] (World E ad shl h)) (QcI E ad shl r.1 r.2) 0 0 (bsA E) :=
  met_of (L0 := [some (.ref (ad b0)), some (.ref (ad b1)), none, none]) rfl rfl rfl (Nat.le_of_ble_eq_true rfl) (fun _ _ _ _ _ _ _ X => w_X0_needCell Hb0 Hb1 X rfl hg)
abbrev rm_X0_readHeap : Room := { frames := 4, cells := 0, slots := 0, locals := 85 }
theorem hdd_X0_readHeap : yX0_readHeap.cls = RX0 ∧ yX0_readHeap.cls ≠ "java/lang/invoke/MethodHandle" ∧ yX0_readHeap.cls ≠ "java/lang/invoke/VarHandle" ∧ (parseMethodDescriptor yX0_readHeap.desc).map (fun d => d.parameters.length) = some 1 := ⟨rfl, by decide +kernel, by decide +kernel, by decide +kernel⟩
set_option maxRecDepth 100000 in
set_option maxHeartbeats 4000000 in
theorem w_X0_readHeap {b0 : Nat} {b1 : Nat} {r : Hp} (Hb0 : At_X0 shl b0) (Hb1 : At_X5 shl b1) (X : Cx E p s m args meth c cX0_readHeap RX0 4 none) (hQ : Q = MQ below (QcV E ad shl r) args s 0 0 (bsA E)) (hG : g_X0_readHeap b0 b1 h = some r) : Ev E ad shl p l e rm_X0_readHeap s m args below meth c 0 0 Q 4 h 0 [some (.ref (ad b0)), some (.ref (ad b1)), none, none] [] := by
  unfold g_X0_readHeap at hG
  refine r_aload_n (pc := 0) X dX0_readHeap_0 rfl rfl ?_
  refine r_iconst (pc := 1) X dX0_readHeap_1 hG rfl (fun z1 hG => ?_)
  refine r_bipush (pc := 2) X dX0_readHeap_2 hG (by decide) (fun z2 hG => ?_)
  refine r_cW (pc := 4) hG (fun _ hg => runV X dX0_readHeap_4 (c_X5_need Hb1 hg) mM_X0_54 mI_X5_need mE_X5_need mN_X5 mK_X5_need (at_X5_o Hb1) rfl rfl rfl rfl hdd_X5_need ⟨(Nat.le_of_ble_eq_true rfl), (Nat.le_of_ble_eq_true rfl)⟩ rfl rfl (Nat.le_of_ble_eq_true rfl) ⟨(Nat.le_of_ble_eq_true rfl), (Nat.le_of_ble_eq_true rfl)⟩) (fun z3 h4 hG => ?_)
  refine r_istore_n (pc := 7) (L' := [some (.ref (ad b0)), some (.ref (ad b1)), some (.int z3), none]) X dX0_readHeap_7 rfl (by decide) rfl rfl ?_
  refine r_aload_n (pc := 8) X dX0_readHeap_8 rfl rfl ?_
  refine r_aload_n (pc := 9) X dX0_readHeap_9 rfl rfl ?_
  refine r_cW (pc := 10) hG (fun _ hg => runV X dX0_readHeap_10 (c_X0_needCell Hb0 Hb1 hg) mM_X0_152 mI_X0_needCell mE_X0_needCell mN_X0 mK_X0_needCell (at_X0_o Hb0) rfl rfl rfl rfl hdd_X0_needCell ⟨(Nat.le_of_ble_eq_true rfl), (Nat.le_of_ble_eq_true rfl)⟩ rfl rfl (Nat.le_of_ble_eq_true rfl) ⟨(Nat.le_of_ble_eq_true rfl), (Nat.le_of_ble_eq_true rfl)⟩) (fun z5 h6 hG => ?_)
  refine r_istore_n (pc := 13) (L' := [some (.ref (ad b0)), some (.ref (ad b1)), some (.int z3), some (.int z5)]) X dX0_readHeap_13 rfl (by decide) rfl rfl ?_
  refine r_aload_n (pc := 14) X dX0_readHeap_14 rfl rfl ?_
  refine r_cP (pc := 15) hG (fun _ hg => runV X dX0_readHeap_15 (c_X5_isFaulty Hb1 hg) mM_X0_155 mI_X5_isFaulty mE_X5_isFaulty mN_X5 mK_X5_isFaulty (at_X5_o Hb1) rfl rfl rfl rfl hdd_X5_isFaulty ⟨(Nat.le_of_ble_eq_true rfl), (Nat.le_of_ble_eq_true rfl)⟩ rfl rfl (Nat.le_of_ble_eq_true rfl) ⟨(Nat.le_of_ble_eq_true rfl), (Nat.le_of_ble_eq_true rfl)⟩) (fun z7 hG => ?_)
  refine r_join hG (fun _ => Ev E ad shl p l e rm_X0_readHeap s m args below meth c 0 0 Q 4 h6 27 [none, none, none, none] []) (fun a8 hG => ?_) (fun j9 Hj9 hG => ?_)
  · skip
    exact r_vret (pc := 27) X dX0_readHeap_27 hQ hG
  refine r_if_ne (pc := 18) X dX0_readHeap_18 (tgt := 27) (by decide) hG (fun hG => ?_) (fun hG => ?_)
  · skip
    exact r_mask [false, false, false, false] rfl (Hj9 _ hG)
  · skip
    refine r_iload_n (pc := 21) X dX0_readHeap_21 rfl rfl ?_
    refine r_bipush (pc := 22) X dX0_readHeap_22 hG (by decide) (fun z10 hG => ?_)
    refine r_icmp_lt (pc := 24) X dX0_readHeap_24 (tgt := 28) (by decide) hG (fun hG => ?_) (fun hG => ?_)
    · skip
      refine r_aload_n (pc := 28) X dX0_readHeap_28 rfl rfl ?_
      refine r_getC (pc := 29) X (at_X0_o Hb0) rfl mU_X0 (k := 1) (by decide) (q := (b0 + 2)) rfl mF_X0_15 dX0_readHeap_29 ?_
      refine r_iload_n (pc := 32) X dX0_readHeap_32 rfl rfl ?_
      refine r_iald (pc := 33) X (at_X0_heaped Hb0) dX0_readHeap_33 hG (fun z11 hG => ?_)
      refine r_iload_n (pc := 34) X dX0_readHeap_34 rfl rfl ?_
      refine r_iadd (pc := 35) X dX0_readHeap_35 hG (fun z12 hG => ?_)
      refine r_bipush (pc := 36) X dX0_readHeap_36 hG (by decide) (fun z13 hG => ?_)
      refine r_join hG (fun a14 => ∀ (h16 : Hp), a14 = h16 → Ev E ad shl p l e rm_X0_readHeap s m args below meth c 0 0 Q 4 h16 46 [some (.ref (ad b0)), none, some (.int z3), some (.int z5)] []) (fun a14 hG => ?_) (fun j15 Hj15 hG => ?_)
      · skip
        intro h16 ha; have ha := ha.symm; subst ha
        refine r_aload_n (pc := 46) X dX0_readHeap_46 rfl rfl ?_
        refine r_getC (pc := 47) X (at_X0_o Hb0) rfl mU_X0 (k := 1) (by decide) (q := (b0 + 2)) rfl mF_X0_15 dX0_readHeap_47 ?_
        refine r_iload_n (pc := 50) X dX0_readHeap_50 rfl rfl ?_
        refine r_dup2 (pc := 51) X dX0_readHeap_51 rfl rfl ?_
        refine r_iald (pc := 52) X (at_X0_heaped Hb0) dX0_readHeap_52 hG (fun z17 hG => ?_)
        refine r_iload_n (pc := 53) X dX0_readHeap_53 rfl rfl ?_
        refine r_iadd (pc := 54) X dX0_readHeap_54 hG (fun z18 hG => ?_)
        refine r_iast (pc := 55) X (at_X0_heaped Hb0) dX0_readHeap_55 hG (fun h19 hG => ?_)
        refine r_aload_n (pc := 56) X dX0_readHeap_56 rfl rfl ?_
        refine r_iconst (pc := 57) X dX0_readHeap_57 hG rfl (fun z20 hG => ?_)
        refine r_putZ (pc := 58) X (at_X0_o Hb0) rfl mU_X0 (k := 8) (by decide) rfl rfl rfl mF_X0_82 dX0_readHeap_58 hG (fun h21 hG => ?_)
        exact r_vret (pc := 61) X dX0_readHeap_61 hQ hG
      refine r_icmp_le (pc := 38) X dX0_readHeap_38 (tgt := 46) (by decide) hG (fun hG => ?_) (fun hG => ?_)
      · skip
        exact r_mask [true, false, true, true] rfl (Hj15 _ hG h6 rfl)
      · skip
        refine r_aload_n (pc := 41) X dX0_readHeap_41 rfl rfl ?_
        refine r_iconst (pc := 42) X dX0_readHeap_42 hG rfl (fun z22 hG => ?_)
        refine r_cV (pc := 43) hG (fun _ hg => runV X dX0_readHeap_43 (c_X5_refuse Hb1 hg) mM_X0_117 mI_X5_refuse mE_X5_refuse mN_X5 mK_X5_refuse (at_X5_o Hb1) rfl rfl rfl rfl hdd_X5_refuse ⟨(Nat.le_of_ble_eq_true rfl), (Nat.le_of_ble_eq_true rfl)⟩ rfl rfl (Nat.le_of_ble_eq_true rfl) ⟨(Nat.le_of_ble_eq_true rfl), (Nat.le_of_ble_eq_true rfl)⟩) (fun h23 hG => ?_)
        exact r_mask [true, false, true, true] rfl (Hj15 _ hG h23 rfl)
    · skip
      exact r_mask [false, false, false, false] rfl (Hj9 _ hG)
theorem c_X0_readHeap {b0 : Nat} {b1 : Nat} {r : Hp} (Hb0 : At_X0 shl b0) (Hb1 : At_X5 shl b1) (hg : g_X0_readHeap b0 b1 h = some r) : Met l yX0_readHeap (wsM yX0_readHeap cX0_readHeap 4 none) rm_X0_readHeap (va_Pc [.ref (ad b0), .ref (ad b1)] (World E ad shl h)) (QcV E ad shl r) 0 0 (bsA E) :=
  met_of (L0 := [some (.ref (ad b0)), some (.ref (ad b1)), none, none]) rfl rfl rfl (Nat.le_of_ble_eq_true rfl) (fun _ _ _ _ _ _ _ X => w_X0_readHeap Hb0 Hb1 X rfl hg)
abbrev rm_X0_readStone : Room := { frames := 4, cells := 0, slots := 0, locals := 85 }
theorem hdd_X0_readStone : yX0_readStone.cls = RX0 ∧ yX0_readStone.cls ≠ "java/lang/invoke/MethodHandle" ∧ yX0_readStone.cls ≠ "java/lang/invoke/VarHandle" ∧ (parseMethodDescriptor yX0_readStone.desc).map (fun d => d.parameters.length) = some 1 := ⟨rfl, by decide +kernel, by decide +kernel, by decide +kernel⟩
set_option maxRecDepth 100000 in
set_option maxHeartbeats 4000000 in
theorem w_X0_readStone {b0 : Nat} {b1 : Nat} {r : Hp} (Hb0 : At_X0 shl b0) (Hb1 : At_X5 shl b1) (X : Cx E p s m args meth c cX0_readStone RX0 3 none) (hQ : Q = MQ below (QcV E ad shl r) args s 0 0 (bsA E)) (hG : g_X0_readStone b0 b1 h = some r) : Ev E ad shl p l e rm_X0_readStone s m args below meth c 0 0 Q 3 h 0 [some (.ref (ad b0)), some (.ref (ad b1)), none] [] := by
  unfold g_X0_readStone at hG
  refine r_aload_n (pc := 0) X dX0_readStone_0 rfl rfl ?_
  refine r_aload_n (pc := 1) X dX0_readStone_1 rfl rfl ?_
  refine r_cW (pc := 2) hG (fun _ hg => runV X dX0_readStone_2 (c_X0_needCell Hb0 Hb1 hg) mM_X0_152 mI_X0_needCell mE_X0_needCell mN_X0 mK_X0_needCell (at_X0_o Hb0) rfl rfl rfl rfl hdd_X0_needCell ⟨(Nat.le_of_ble_eq_true rfl), (Nat.le_of_ble_eq_true rfl)⟩ rfl rfl (Nat.le_of_ble_eq_true rfl) ⟨(Nat.le_of_ble_eq_true rfl), (Nat.le_of_ble_eq_true rfl)⟩) (fun z1 h2 hG => ?_)
  refine r_istore_n (pc := 5) (L' := [some (.ref (ad b0)), some (.ref (ad b1)), some (.int z1)]) X dX0_readStone_5 rfl (by decide) rfl rfl ?_
  refine r_aload_n (pc := 6) X dX0_readStone_6 rfl rfl ?_
  refine r_cP (pc := 7) hG (fun _ hg => runV X dX0_readStone_7 (c_X5_isFaulty Hb1 hg) mM_X0_155 mI_X5_isFaulty mE_X5_isFaulty mN_X5 mK_X5_isFaulty (at_X5_o Hb1) rfl rfl rfl rfl hdd_X5_isFaulty ⟨(Nat.le_of_ble_eq_true rfl), (Nat.le_of_ble_eq_true rfl)⟩ rfl rfl (Nat.le_of_ble_eq_true rfl) ⟨(Nat.le_of_ble_eq_true rfl), (Nat.le_of_ble_eq_true rfl)⟩) (fun z3 hG => ?_)
  refine r_join hG (fun _ => Ev E ad shl p l e rm_X0_readStone s m args below meth c 0 0 Q 3 h2 19 [none, none, none] []) (fun a4 hG => ?_) (fun j5 Hj5 hG => ?_)
  · skip
    exact r_vret (pc := 19) X dX0_readStone_19 hQ hG
  refine r_if_ne (pc := 10) X dX0_readStone_10 (tgt := 19) (by decide) hG (fun hG => ?_) (fun hG => ?_)
  · skip
    exact r_mask [false, false, false] rfl (Hj5 _ hG)
  · skip
    refine r_iload_n (pc := 13) X dX0_readStone_13 rfl rfl ?_
    refine r_bipush (pc := 14) X dX0_readStone_14 hG (by decide) (fun z6 hG => ?_)
    refine r_icmp_lt (pc := 16) X dX0_readStone_16 (tgt := 20) (by decide) hG (fun hG => ?_) (fun hG => ?_)
    · skip
      refine r_aload_n (pc := 20) X dX0_readStone_20 rfl rfl ?_
      refine r_getC (pc := 21) X (at_X0_o Hb0) rfl mU_X0 (k := 2) (by decide) (q := (b0 + 3)) rfl mF_X0_18 dX0_readStone_21 ?_
      refine r_iload_n (pc := 24) X dX0_readStone_24 rfl rfl ?_
      refine r_iald (pc := 25) X (at_X0_stones Hb0) dX0_readStone_25 hG (fun z7 hG => ?_)
      refine r_join hG (fun a8 => ∀ (h10 : Hp), a8 = h10 → Ev E ad shl p l e rm_X0_readStone s m args below meth c 0 0 Q 3 h10 34 [some (.ref (ad b0)), none, some (.int z1)] []) (fun a8 hG => ?_) (fun j9 Hj9 hG => ?_)
      · skip
        intro h10 ha; have ha := ha.symm; subst ha
        refine r_aload_n (pc := 34) X dX0_readStone_34 rfl rfl ?_
        refine r_getC (pc := 35) X (at_X0_o Hb0) rfl mU_X0 (k := 2) (by decide) (q := (b0 + 3)) rfl mF_X0_18 dX0_readStone_35 ?_
        refine r_iload_n (pc := 38) X dX0_readStone_38 rfl rfl ?_
        refine r_iconst (pc := 39) X dX0_readStone_39 hG rfl (fun z11 hG => ?_)
        refine r_iast (pc := 40) X (at_X0_stones Hb0) dX0_readStone_40 hG (fun h12 hG => ?_)
        refine r_aload_n (pc := 41) X dX0_readStone_41 rfl rfl ?_
        refine r_iconst (pc := 42) X dX0_readStone_42 hG rfl (fun z13 hG => ?_)
        refine r_putZ (pc := 43) X (at_X0_o Hb0) rfl mU_X0 (k := 8) (by decide) rfl rfl rfl mF_X0_82 dX0_readStone_43 hG (fun h14 hG => ?_)
        exact r_vret (pc := 46) X dX0_readStone_46 hQ hG
      refine r_if_eq (pc := 26) X dX0_readStone_26 (tgt := 34) (by decide) hG (fun hG => ?_) (fun hG => ?_)
      · skip
        exact r_mask [true, false, true] rfl (Hj9 _ hG h2 rfl)
      · skip
        refine r_aload_n (pc := 29) X dX0_readStone_29 rfl rfl ?_
        refine r_iconst (pc := 30) X dX0_readStone_30 hG rfl (fun z15 hG => ?_)
        refine r_cV (pc := 31) hG (fun _ hg => runV X dX0_readStone_31 (c_X5_refuse Hb1 hg) mM_X0_117 mI_X5_refuse mE_X5_refuse mN_X5 mK_X5_refuse (at_X5_o Hb1) rfl rfl rfl rfl hdd_X5_refuse ⟨(Nat.le_of_ble_eq_true rfl), (Nat.le_of_ble_eq_true rfl)⟩ rfl rfl (Nat.le_of_ble_eq_true rfl) ⟨(Nat.le_of_ble_eq_true rfl), (Nat.le_of_ble_eq_true rfl)⟩) (fun h16 hG => ?_)
        exact r_mask [true, false, true] rfl (Hj9 _ hG h16 rfl)
    · skip
      exact r_mask [false, false, false] rfl (Hj5 _ hG)
theorem c_X0_readStone {b0 : Nat} {b1 : Nat} {r : Hp} (Hb0 : At_X0 shl b0) (Hb1 : At_X5 shl b1) (hg : g_X0_readStone b0 b1 h = some r) : Met l yX0_readStone (wsM yX0_readStone cX0_readStone 3 none) rm_X0_readStone (va_Pc [.ref (ad b0), .ref (ad b1)] (World E ad shl h)) (QcV E ad shl r) 0 0 (bsA E) :=
  met_of (L0 := [some (.ref (ad b0)), some (.ref (ad b1)), none]) rfl rfl rfl (Nat.le_of_ble_eq_true rfl) (fun _ _ _ _ _ _ _ X => w_X0_readStone Hb0 Hb1 X rfl hg)
abbrev rm_X0_readFlag : Room := { frames := 4, cells := 0, slots := 0, locals := 85 }
theorem hdd_X0_readFlag : yX0_readFlag.cls = RX0 ∧ yX0_readFlag.cls ≠ "java/lang/invoke/MethodHandle" ∧ yX0_readFlag.cls ≠ "java/lang/invoke/VarHandle" ∧ (parseMethodDescriptor yX0_readFlag.desc).map (fun d => d.parameters.length) = some 1 := ⟨rfl, by decide +kernel, by decide +kernel, by decide +kernel⟩
set_option maxRecDepth 100000 in
set_option maxHeartbeats 4000000 in
theorem w_X0_readFlag {b0 : Nat} {b1 : Nat} {r : Hp} (Hb0 : At_X0 shl b0) (Hb1 : At_X5 shl b1) (X : Cx E p s m args meth c cX0_readFlag RX0 4 none) (hQ : Q = MQ below (QcV E ad shl r) args s 0 0 (bsA E)) (hG : g_X0_readFlag b0 b1 h = some r) : Ev E ad shl p l e rm_X0_readFlag s m args below meth c 0 0 Q 4 h 0 [some (.ref (ad b0)), some (.ref (ad b1)), none, none] [] := by
  unfold g_X0_readFlag at hG
  refine r_aload_n (pc := 0) X dX0_readFlag_0 rfl rfl ?_
  refine r_getI (pc := 1) X (at_X0_o Hb0) rfl mU_X0 (k := 5) (by decide) rfl mF_X0_76 dX0_readFlag_1 hG (fun z1 hG => ?_)
  refine r_iconst (pc := 4) X dX0_readFlag_4 hG rfl (fun z2 hG => ?_)
  refine r_icmp_lt (pc := 5) X dX0_readFlag_5 (tgt := 14) (by decide) hG (fun hG => ?_) (fun hG => ?_)
  · skip
    refine r_aload_n (pc := 14) X dX0_readFlag_14 rfl rfl ?_
    refine r_aload_n (pc := 15) X dX0_readFlag_15 rfl rfl ?_
    refine r_cW (pc := 16) hG (fun _ hg => runV X dX0_readFlag_16 (c_X0_needCell Hb0 Hb1 hg) mM_X0_152 mI_X0_needCell mE_X0_needCell mN_X0 mK_X0_needCell (at_X0_o Hb0) rfl rfl rfl rfl hdd_X0_needCell ⟨(Nat.le_of_ble_eq_true rfl), (Nat.le_of_ble_eq_true rfl)⟩ rfl rfl (Nat.le_of_ble_eq_true rfl) ⟨(Nat.le_of_ble_eq_true rfl), (Nat.le_of_ble_eq_true rfl)⟩) (fun z3 h4 hG => ?_)
    refine r_istore_n (pc := 19) (L' := [some (.ref (ad b0)), some (.ref (ad b1)), some (.int z3), none]) X dX0_readFlag_19 rfl (by decide) rfl rfl ?_
    refine r_aload_n (pc := 20) X dX0_readFlag_20 rfl rfl ?_
    refine r_cP (pc := 21) hG (fun _ hg => runV X dX0_readFlag_21 (c_X5_isFaulty Hb1 hg) mM_X0_155 mI_X5_isFaulty mE_X5_isFaulty mN_X5 mK_X5_isFaulty (at_X5_o Hb1) rfl rfl rfl rfl hdd_X5_isFaulty ⟨(Nat.le_of_ble_eq_true rfl), (Nat.le_of_ble_eq_true rfl)⟩ rfl rfl (Nat.le_of_ble_eq_true rfl) ⟨(Nat.le_of_ble_eq_true rfl), (Nat.le_of_ble_eq_true rfl)⟩) (fun z5 hG => ?_)
    refine r_if_eq (pc := 24) X dX0_readFlag_24 (tgt := 28) (by decide) hG (fun hG => ?_) (fun hG => ?_)
    · skip
      refine r_iconst (pc := 28) X dX0_readFlag_28 hG rfl (fun z6 hG => ?_)
      refine r_istore_n (pc := 29) (L' := [some (.ref (ad b0)), some (.ref (ad b1)), some (.int z3), some (.int z6)]) X dX0_readFlag_29 rfl (by decide) rfl rfl ?_
      refine r_join hG (fun a7 => ∀ (h9 : Hp), a7 = h9 → Ev E ad shl p l e rm_X0_readFlag s m args below meth c 0 0 Q 4 h9 59 [some (.ref (ad b0)), none, some (.int z3), none] []) (fun a7 hG => ?_) (fun j8 Hj8 hG => ?_)
      · skip
        intro h9 ha; have ha := ha.symm; subst ha
        refine r_aload_n (pc := 59) X dX0_readFlag_59 rfl rfl ?_
        refine r_getC (pc := 60) X (at_X0_o Hb0) rfl mU_X0 (k := 3) (by decide) (q := (b0 + 4)) rfl mF_X0_21 dX0_readFlag_60 ?_
        refine r_aload_n (pc := 63) X dX0_readFlag_63 rfl rfl ?_
        refine r_getI (pc := 64) X (at_X0_o Hb0) rfl mU_X0 (k := 5) (by decide) rfl mF_X0_76 dX0_readFlag_64 hG (fun z10 hG => ?_)
        refine r_iload_n (pc := 67) X dX0_readFlag_67 rfl rfl ?_
        refine r_iast (pc := 68) X (at_X0_flagCells Hb0) dX0_readFlag_68 hG (fun h11 hG => ?_)
        refine r_aload_n (pc := 69) X dX0_readFlag_69 rfl rfl ?_
        refine r_dup (pc := 70) X dX0_readFlag_70 rfl ?_
        refine r_getI (pc := 71) X (at_X0_o Hb0) rfl mU_X0 (k := 5) (by decide) rfl mF_X0_76 dX0_readFlag_71 hG (fun z12 hG => ?_)
        refine r_iconst (pc := 74) X dX0_readFlag_74 hG rfl (fun z13 hG => ?_)
        refine r_iadd (pc := 75) X dX0_readFlag_75 hG (fun z14 hG => ?_)
        refine r_putI (pc := 76) X (at_X0_o Hb0) rfl mU_X0 (k := 5) (by decide) rfl rfl rfl mF_X0_76 dX0_readFlag_76 hG (fun h15 hG => ?_)
        refine r_aload_n (pc := 79) X dX0_readFlag_79 rfl rfl ?_
        refine r_iconst (pc := 80) X dX0_readFlag_80 hG rfl (fun z16 hG => ?_)
        refine r_putZ (pc := 81) X (at_X0_o Hb0) rfl mU_X0 (k := 8) (by decide) rfl rfl rfl mF_X0_82 dX0_readFlag_81 hG (fun h17 hG => ?_)
        exact r_vret (pc := 84) X dX0_readFlag_84 hQ hG
      refine r_mask [true, true, true, true] rfl (r_loop (fun q18 => ∀ (y20 : Int32) (h21 : Hp), q18 = (y20.toInt, h21) → Ev E ad shl p l e rm_X0_readFlag s m args below meth c 0 0 Q 4 h21 30 [some (.ref (ad b0)), some (.ref (ad b1)), some (.int z3), some (.int y20)] []) (fun l19 Hl19 q18 hG => ?_) FU _ hG z6 h4 rfl)
      intro y20 h21 ha; have ha := ha.symm; subst ha
      unfold g_X0_readFlag_l19 at hG
      refine r_iload_n (pc := 30) X dX0_readFlag_30 rfl rfl ?_
      refine r_aload_n (pc := 31) X dX0_readFlag_31 rfl rfl ?_
      refine r_getI (pc := 32) X (at_X0_o Hb0) rfl mU_X0 (k := 5) (by decide) rfl mF_X0_76 dX0_readFlag_32 hG (fun z22 hG => ?_)
      refine r_icmp_ge (pc := 35) X dX0_readFlag_35 (tgt := 59) (by decide) hG (fun hG => ?_) (fun hG => ?_)
      · skip
        exact r_mask [true, false, true, false] rfl (Hj8 _ hG h21 rfl)
      · skip
        refine r_aload_n (pc := 38) X dX0_readFlag_38 rfl rfl ?_
        refine r_getC (pc := 39) X (at_X0_o Hb0) rfl mU_X0 (k := 3) (by decide) (q := (b0 + 4)) rfl mF_X0_21 dX0_readFlag_39 ?_
        refine r_iload_n (pc := 42) X dX0_readFlag_42 rfl rfl ?_
        refine r_iald (pc := 43) X (at_X0_flagCells Hb0) dX0_readFlag_43 hG (fun z23 hG => ?_)
        refine r_iload_n (pc := 44) X dX0_readFlag_44 rfl rfl ?_
        refine r_join hG (fun a24 => ∀ (h26 : Hp), a24 = h26 → Ev E ad shl p l e rm_X0_readFlag s m args below meth c 0 0 Q 4 h26 53 [some (.ref (ad b0)), some (.ref (ad b1)), some (.int z3), some (.int y20)] []) (fun a24 hG => ?_) (fun j25 Hj25 hG => ?_)
        · skip
          intro h26 ha; have ha := ha.symm; subst ha
          refine r_iinc (pc := 53) (L' := fun z27 => [some (.ref (ad b0)), some (.ref (ad b1)), some (.int z3), some (.int z27)]) X dX0_readFlag_53 (by decide) rfl rfl (by decide) (fun _ => rfl) hG (fun z27 hG => ?_)
          refine r_goto (pc := 56) X dX0_readFlag_56 (tgt := 30) (by decide) ?_
          exact r_mask [true, true, true, true] rfl (Hl19 _ hG z27 h26 rfl)
        refine r_icmp_ne (pc := 45) X dX0_readFlag_45 (tgt := 53) (by decide) hG (fun hG => ?_) (fun hG => ?_)
        · skip
          exact r_mask [true, true, true, true] rfl (Hj25 _ hG h21 rfl)
        · skip
          refine r_aload_n (pc := 48) X dX0_readFlag_48 rfl rfl ?_
          refine r_iconst (pc := 49) X dX0_readFlag_49 hG rfl (fun z28 hG => ?_)
          refine r_cV (pc := 50) hG (fun _ hg => runV X dX0_readFlag_50 (c_X5_refuse Hb1 hg) mM_X0_117 mI_X5_refuse mE_X5_refuse mN_X5 mK_X5_refuse (at_X5_o Hb1) rfl rfl rfl rfl hdd_X5_refuse ⟨(Nat.le_of_ble_eq_true rfl), (Nat.le_of_ble_eq_true rfl)⟩ rfl rfl (Nat.le_of_ble_eq_true rfl) ⟨(Nat.le_of_ble_eq_true rfl), (Nat.le_of_ble_eq_true rfl)⟩) (fun h29 hG => ?_)
          exact r_mask [true, true, true, true] rfl (Hj25 _ hG h29 rfl)
    · skip
      exact r_vret (pc := 27) X dX0_readFlag_27 hQ hG
  · skip
    refine r_aload_n (pc := 8) X dX0_readFlag_8 rfl rfl ?_
    refine r_iconst (pc := 9) X dX0_readFlag_9 hG rfl (fun z30 hG => ?_)
    refine r_cV (pc := 10) hG (fun _ hg => runV X dX0_readFlag_10 (c_X5_refuse Hb1 hg) mM_X0_117 mI_X5_refuse mE_X5_refuse mN_X5 mK_X5_refuse (at_X5_o Hb1) rfl rfl rfl rfl hdd_X5_refuse ⟨(Nat.le_of_ble_eq_true rfl), (Nat.le_of_ble_eq_true rfl)⟩ rfl rfl (Nat.le_of_ble_eq_true rfl) ⟨(Nat.le_of_ble_eq_true rfl), (Nat.le_of_ble_eq_true rfl)⟩) (fun h31 hG => ?_)
    exact r_vret (pc := 13) X dX0_readFlag_13 hQ hG
theorem c_X0_readFlag {b0 : Nat} {b1 : Nat} {r : Hp} (Hb0 : At_X0 shl b0) (Hb1 : At_X5 shl b1) (hg : g_X0_readFlag b0 b1 h = some r) : Met l yX0_readFlag (wsM yX0_readFlag cX0_readFlag 4 none) rm_X0_readFlag (va_Pc [.ref (ad b0), .ref (ad b1)] (World E ad shl h)) (QcV E ad shl r) 0 0 (bsA E) :=
  met_of (L0 := [some (.ref (ad b0)), some (.ref (ad b1)), none, none]) rfl rfl rfl (Nat.le_of_ble_eq_true rfl) (fun _ _ _ _ _ _ _ X => w_X0_readFlag Hb0 Hb1 X rfl hg)
abbrev rm_X0_readClause : Room := { frames := 6, cells := 0, slots := 0, locals := 127 }
theorem hdd_X0_readClause : yX0_readClause.cls = RX0 ∧ yX0_readClause.cls ≠ "java/lang/invoke/MethodHandle" ∧ yX0_readClause.cls ≠ "java/lang/invoke/VarHandle" ∧ (parseMethodDescriptor yX0_readClause.desc).map (fun d => d.parameters.length) = some 1 := ⟨rfl, by decide +kernel, by decide +kernel, by decide +kernel⟩
set_option maxRecDepth 100000 in
set_option maxHeartbeats 4000000 in
theorem w_X0_readClause {b0 : Nat} {b1 : Nat} {r : Hp} (Hb0 : At_X0 shl b0) (Hb1 : At_X5 shl b1) (X : Cx E p s m args meth c cX0_readClause RX0 3 none) (hQ : Q = MQ below (QcV E ad shl r) args s 0 0 (bsA E)) (hG : g_X0_readClause b0 b1 h = some r) : Ev E ad shl p l e rm_X0_readClause s m args below meth c 0 0 Q 3 h 0 [some (.ref (ad b0)), some (.ref (ad b1)), none] [] := by
  unfold g_X0_readClause at hG
  refine r_aload_n (pc := 0) X dX0_readClause_0 rfl rfl ?_
  refine r_cP (pc := 1) hG (fun _ hg => runS X dX0_readClause_1 (c_X0_firstNumberOf Hb1 hg) mM_X0_90 mS_X0_firstNumberOf mN_X0 mK_X0_firstNumberOf rfl rfl hdd_X0_firstNumberOf ⟨(Nat.le_of_ble_eq_true rfl), (Nat.le_of_ble_eq_true rfl)⟩ rfl rfl (Nat.le_of_ble_eq_true rfl) ⟨(Nat.le_of_ble_eq_true rfl), (Nat.le_of_ble_eq_true rfl)⟩) (fun z1 hG => ?_)
  refine r_istore_n (pc := 4) (L' := [some (.ref (ad b0)), some (.ref (ad b1)), some (.int z1)]) X dX0_readClause_4 rfl (by decide) rfl rfl ?_
  refine r_iload_n (pc := 5) X dX0_readClause_5 rfl rfl ?_
  refine r_iconst (pc := 6) X dX0_readClause_6 hG rfl (fun z2 hG => ?_)
  refine r_join hG (fun a3 => ∀ (h5 : Hp), a3 = h5 → Ev E ad shl p l e rm_X0_readClause s m args below meth c 0 0 Q 3 h5 75 [none, none, none] []) (fun a3 hG => ?_) (fun j4 Hj4 hG => ?_)
  · skip
    intro h5 ha; have ha := ha.symm; subst ha
    exact r_vret (pc := 75) X dX0_readClause_75 hQ hG
  refine r_icmp_eq (pc := 7) X dX0_readClause_7 (tgt := 19) (by decide) hG (fun hG => ?_) (fun hG => ?_)
  · skip
    refine r_aload_n (pc := 19) X dX0_readClause_19 rfl rfl ?_
    refine r_ldcS (pc := 20) (k := 8) X rfl rfl rfl dX0_readClause_20 ?_
    refine r_cP (pc := 22) hG (fun _ hg => runV X dX0_readClause_22 (c_X5_isWord Hb1 rfl hg) mM_X0_100 mI_X5_isWord mE_X5_isWord mN_X5 mK_X5_isWord (at_X5_o Hb1) rfl rfl rfl rfl hdd_X5_isWord ⟨(Nat.le_of_ble_eq_true rfl), (Nat.le_of_ble_eq_true rfl)⟩ rfl rfl (Nat.le_of_ble_eq_true rfl) ⟨(Nat.le_of_ble_eq_true rfl), (Nat.le_of_ble_eq_true rfl)⟩) (fun z6 hG => ?_)
    refine r_if_eq (pc := 25) X dX0_readClause_25 (tgt := 36) (by decide) hG (fun hG => ?_) (fun hG => ?_)
    · skip
      refine r_aload_n (pc := 36) X dX0_readClause_36 rfl rfl ?_
      refine r_ldcS (pc := 37) (k := 9) X rfl rfl rfl dX0_readClause_37 ?_
      refine r_cP (pc := 39) hG (fun _ hg => runV X dX0_readClause_39 (c_X5_isWord Hb1 rfl hg) mM_X0_100 mI_X5_isWord mE_X5_isWord mN_X5 mK_X5_isWord (at_X5_o Hb1) rfl rfl rfl rfl hdd_X5_isWord ⟨(Nat.le_of_ble_eq_true rfl), (Nat.le_of_ble_eq_true rfl)⟩ rfl rfl (Nat.le_of_ble_eq_true rfl) ⟨(Nat.le_of_ble_eq_true rfl), (Nat.le_of_ble_eq_true rfl)⟩) (fun z7 hG => ?_)
      refine r_if_eq (pc := 42) X dX0_readClause_42 (tgt := 53) (by decide) hG (fun hG => ?_) (fun hG => ?_)
      · skip
        refine r_aload_n (pc := 53) X dX0_readClause_53 rfl rfl ?_
        refine r_ldcS (pc := 54) (k := 10) X rfl rfl rfl dX0_readClause_54 ?_
        refine r_cP (pc := 56) hG (fun _ hg => runV X dX0_readClause_56 (c_X5_isWord Hb1 rfl hg) mM_X0_100 mI_X5_isWord mE_X5_isWord mN_X5 mK_X5_isWord (at_X5_o Hb1) rfl rfl rfl rfl hdd_X5_isWord ⟨(Nat.le_of_ble_eq_true rfl), (Nat.le_of_ble_eq_true rfl)⟩ rfl rfl (Nat.le_of_ble_eq_true rfl) ⟨(Nat.le_of_ble_eq_true rfl), (Nat.le_of_ble_eq_true rfl)⟩) (fun z8 hG => ?_)
        refine r_if_eq (pc := 59) X dX0_readClause_59 (tgt := 70) (by decide) hG (fun hG => ?_) (fun hG => ?_)
        · skip
          refine r_aload_n (pc := 70) X dX0_readClause_70 rfl rfl ?_
          refine r_iconst (pc := 71) X dX0_readClause_71 hG rfl (fun z9 hG => ?_)
          refine r_cV (pc := 72) hG (fun _ hg => runV X dX0_readClause_72 (c_X5_refuse Hb1 hg) mM_X0_117 mI_X5_refuse mE_X5_refuse mN_X5 mK_X5_refuse (at_X5_o Hb1) rfl rfl rfl rfl hdd_X5_refuse ⟨(Nat.le_of_ble_eq_true rfl), (Nat.le_of_ble_eq_true rfl)⟩ rfl rfl (Nat.le_of_ble_eq_true rfl) ⟨(Nat.le_of_ble_eq_true rfl), (Nat.le_of_ble_eq_true rfl)⟩) (fun h10 hG => ?_)
          exact r_mask [false, false, false] rfl (Hj4 _ hG h10 rfl)
        · skip
          refine r_aload_n (pc := 62) X dX0_readClause_62 rfl rfl ?_
          refine r_aload_n (pc := 63) X dX0_readClause_63 rfl rfl ?_
          refine r_cV (pc := 64) hG (fun _ hg => runV X dX0_readClause_64 (c_X0_readFlag Hb0 Hb1 hg) mM_X0_114 mI_X0_readFlag mE_X0_readFlag mN_X0 mK_X0_readFlag (at_X0_o Hb0) rfl rfl rfl rfl hdd_X0_readFlag ⟨(Nat.le_of_ble_eq_true rfl), (Nat.le_of_ble_eq_true rfl)⟩ rfl rfl (Nat.le_of_ble_eq_true rfl) ⟨(Nat.le_of_ble_eq_true rfl), (Nat.le_of_ble_eq_true rfl)⟩) (fun h11 hG => ?_)
          refine r_goto (pc := 67) X dX0_readClause_67 (tgt := 75) (by decide) ?_
          exact r_mask [false, false, false] rfl (Hj4 _ hG h11 rfl)
      · skip
        refine r_aload_n (pc := 45) X dX0_readClause_45 rfl rfl ?_
        refine r_aload_n (pc := 46) X dX0_readClause_46 rfl rfl ?_
        refine r_cV (pc := 47) hG (fun _ hg => runV X dX0_readClause_47 (c_X0_readStone Hb0 Hb1 hg) mM_X0_109 mI_X0_readStone mE_X0_readStone mN_X0 mK_X0_readStone (at_X0_o Hb0) rfl rfl rfl rfl hdd_X0_readStone ⟨(Nat.le_of_ble_eq_true rfl), (Nat.le_of_ble_eq_true rfl)⟩ rfl rfl (Nat.le_of_ble_eq_true rfl) ⟨(Nat.le_of_ble_eq_true rfl), (Nat.le_of_ble_eq_true rfl)⟩) (fun h12 hG => ?_)
        refine r_goto (pc := 50) X dX0_readClause_50 (tgt := 75) (by decide) ?_
        exact r_mask [false, false, false] rfl (Hj4 _ hG h12 rfl)
    · skip
      refine r_aload_n (pc := 28) X dX0_readClause_28 rfl rfl ?_
      refine r_aload_n (pc := 29) X dX0_readClause_29 rfl rfl ?_
      refine r_cV (pc := 30) hG (fun _ hg => runV X dX0_readClause_30 (c_X0_readHeap Hb0 Hb1 hg) mM_X0_104 mI_X0_readHeap mE_X0_readHeap mN_X0 mK_X0_readHeap (at_X0_o Hb0) rfl rfl rfl rfl hdd_X0_readHeap ⟨(Nat.le_of_ble_eq_true rfl), (Nat.le_of_ble_eq_true rfl)⟩ rfl rfl (Nat.le_of_ble_eq_true rfl) ⟨(Nat.le_of_ble_eq_true rfl), (Nat.le_of_ble_eq_true rfl)⟩) (fun h13 hG => ?_)
      refine r_goto (pc := 33) X dX0_readClause_33 (tgt := 75) (by decide) ?_
      exact r_mask [false, false, false] rfl (Hj4 _ hG h13 rfl)
  · skip
    refine r_aload_n (pc := 10) X dX0_readClause_10 rfl rfl ?_
    refine r_aload_n (pc := 11) X dX0_readClause_11 rfl rfl ?_
    refine r_iload_n (pc := 12) X dX0_readClause_12 rfl rfl ?_
    refine r_cV (pc := 13) hG (fun _ hg => runV X dX0_readClause_13 (c_X0_readNumbers Hb0 Hb1 hg) mM_X0_94 mI_X0_readNumbers mE_X0_readNumbers mN_X0 mK_X0_readNumbers (at_X0_o Hb0) rfl rfl rfl rfl hdd_X0_readNumbers ⟨(Nat.le_of_ble_eq_true rfl), (Nat.le_of_ble_eq_true rfl)⟩ rfl rfl (Nat.le_of_ble_eq_true rfl) ⟨(Nat.le_of_ble_eq_true rfl), (Nat.le_of_ble_eq_true rfl)⟩) (fun h14 hG => ?_)
    refine r_goto (pc := 16) X dX0_readClause_16 (tgt := 75) (by decide) ?_
    exact r_mask [false, false, false] rfl (Hj4 _ hG h14 rfl)
theorem c_X0_readClause {b0 : Nat} {b1 : Nat} {r : Hp} (Hb0 : At_X0 shl b0) (Hb1 : At_X5 shl b1) (hg : g_X0_readClause b0 b1 h = some r) : Met l yX0_readClause (wsM yX0_readClause cX0_readClause 3 none) rm_X0_readClause (va_Pc [.ref (ad b0), .ref (ad b1)] (World E ad shl h)) (QcV E ad shl r) 0 0 (bsA E) :=
  met_of (L0 := [some (.ref (ad b0)), some (.ref (ad b1)), none]) rfl rfl rfl (Nat.le_of_ble_eq_true rfl) (fun _ _ _ _ _ _ _ X => w_X0_readClause Hb0 Hb1 X rfl hg)
abbrev rm_X5_endClause : Room := { frames := 2, cells := 0, slots := 0, locals := 40 }
theorem hdd_X5_endClause : yX5_endClause.cls = RX5 ∧ yX5_endClause.cls ≠ "java/lang/invoke/MethodHandle" ∧ yX5_endClause.cls ≠ "java/lang/invoke/VarHandle" ∧ (parseMethodDescriptor yX5_endClause.desc).map (fun d => d.parameters.length) = some 0 := ⟨rfl, by decide +kernel, by decide +kernel, by decide +kernel⟩
set_option maxRecDepth 100000 in
set_option maxHeartbeats 4000000 in
theorem w_X5_endClause {b0 : Nat} {r : Hp} (Hb0 : At_X5 shl b0) (X : Cx E p s m args meth c cX5_endClause RX5 1 none) (hQ : Q = MQ below (QcV E ad shl r) args s 0 0 (bsA E)) (hG : g_X5_endClause b0 h = some r) : Ev E ad shl p l e rm_X5_endClause s m args below meth c 0 0 Q 1 h 0 [some (.ref (ad b0))] [] := by
  unfold g_X5_endClause at hG
  refine r_aload_n (pc := 0) X dX5_endClause_0 rfl rfl ?_
  refine r_cP (pc := 1) hG (fun _ hg => runV X dX5_endClause_1 (c_X5_isFaulty Hb0 hg) mM_X5_54 mI_X5_isFaulty mE_X5_isFaulty mN_X5 mK_X5_isFaulty (at_X5_o Hb0) rfl rfl rfl rfl hdd_X5_isFaulty ⟨(Nat.le_of_ble_eq_true rfl), (Nat.le_of_ble_eq_true rfl)⟩ rfl rfl (Nat.le_of_ble_eq_true rfl) ⟨(Nat.le_of_ble_eq_true rfl), (Nat.le_of_ble_eq_true rfl)⟩) (fun z1 hG => ?_)
  refine r_if_eq (pc := 4) X dX5_endClause_4 (tgt := 8) (by decide) hG (fun hG => ?_) (fun hG => ?_)
  · skip
    refine r_aload_n (pc := 8) X dX5_endClause_8 rfl rfl ?_
    refine r_cV (pc := 9) hG (fun _ hg => runV X dX5_endClause_9 (c_X5_advance Hb0 hg) mM_X5_58 mI_X5_advance mE_X5_advance mN_X5 mK_X5_advance (at_X5_o Hb0) rfl rfl rfl rfl hdd_X5_advance ⟨(Nat.le_of_ble_eq_true rfl), (Nat.le_of_ble_eq_true rfl)⟩ rfl rfl (Nat.le_of_ble_eq_true rfl) ⟨(Nat.le_of_ble_eq_true rfl), (Nat.le_of_ble_eq_true rfl)⟩) (fun h2 hG => ?_)
    refine r_aload_n (pc := 12) X dX5_endClause_12 rfl rfl ?_
    refine r_getI (pc := 13) X (at_X5_o Hb0) rfl mU_X5 (k := 3) (by decide) rfl mF_X5_38 dX5_endClause_13 hG (fun z3 hG => ?_)
    refine r_iconst (pc := 16) X dX5_endClause_16 hG rfl (fun z4 hG => ?_)
    refine r_join hG (fun a5 => ∀ (h7 : Hp), a5 = h7 → Ev E ad shl p l e rm_X5_endClause s m args below meth c 0 0 Q 1 h7 25 [none] []) (fun a5 hG => ?_) (fun j6 Hj6 hG => ?_)
    · skip
      intro h7 ha; have ha := ha.symm; subst ha
      exact r_vret (pc := 25) X dX5_endClause_25 hQ hG
    refine r_icmp_eq (pc := 17) X dX5_endClause_17 (tgt := 25) (by decide) hG (fun hG => ?_) (fun hG => ?_)
    · skip
      exact r_mask [false] rfl (Hj6 _ hG h2 rfl)
    · skip
      refine r_aload_n (pc := 20) X dX5_endClause_20 rfl rfl ?_
      refine r_iconst (pc := 21) X dX5_endClause_21 hG rfl (fun z8 hG => ?_)
      refine r_cV (pc := 22) hG (fun _ hg => runV X dX5_endClause_22 (c_X5_refuse Hb0 hg) mM_X5_61 mI_X5_refuse mE_X5_refuse mN_X5 mK_X5_refuse (at_X5_o Hb0) rfl rfl rfl rfl hdd_X5_refuse ⟨(Nat.le_of_ble_eq_true rfl), (Nat.le_of_ble_eq_true rfl)⟩ rfl rfl (Nat.le_of_ble_eq_true rfl) ⟨(Nat.le_of_ble_eq_true rfl), (Nat.le_of_ble_eq_true rfl)⟩) (fun h9 hG => ?_)
      exact r_mask [false] rfl (Hj6 _ hG h9 rfl)
  · skip
    exact r_vret (pc := 7) X dX5_endClause_7 hQ hG
theorem c_X5_endClause {b0 : Nat} {r : Hp} (Hb0 : At_X5 shl b0) (hg : g_X5_endClause b0 h = some r) : Met l yX5_endClause (wsM yX5_endClause cX5_endClause 1 none) rm_X5_endClause (va_Pc [.ref (ad b0)] (World E ad shl h)) (QcV E ad shl r) 0 0 (bsA E) :=
  met_of (L0 := [some (.ref (ad b0))]) rfl rfl rfl (Nat.le_of_ble_eq_true rfl) (fun _ _ _ _ _ _ _ X => w_X5_endClause Hb0 X rfl hg)
abbrev rm_X0_readFrom : Room := { frames := 7, cells := 0, slots := 0, locals := 149 }
theorem hdd_X0_readFrom : yX0_readFrom.cls = RX0 ∧ yX0_readFrom.cls ≠ "java/lang/invoke/MethodHandle" ∧ yX0_readFrom.cls ≠ "java/lang/invoke/VarHandle" ∧ (parseMethodDescriptor yX0_readFrom.desc).map (fun d => d.parameters.length) = some 1 := ⟨rfl, by decide +kernel, by decide +kernel, by decide +kernel⟩
set_option maxRecDepth 100000 in
set_option maxHeartbeats 4000000 in
theorem w_X0_readFrom {b0 : Nat} {b1 : Nat} {r : Hp} (Hb0 : At_X0 shl b0) (Hb1 : At_X5 shl b1) (X : Cx E p s m args meth c cX0_readFrom RX0 3 none) (hQ : Q = MQ below (QcV E ad shl r) args s 0 0 (bsA E)) (hG : g_X0_readFrom b0 b1 h = some r) : Ev E ad shl p l e rm_X0_readFrom s m args below meth c 0 0 Q 3 h 0 [some (.ref (ad b0)), some (.ref (ad b1)), none] [] := by
  unfold g_X0_readFrom at hG
  refine r_aload_n (pc := 0) X dX0_readFrom_0 rfl rfl ?_
  refine r_cV (pc := 1) hG (fun _ hg => runV X dX0_readFrom_1 (c_X0_clear Hb0 hg) mM_X0_27 mI_X0_clear mE_X0_clear mN_X0 mK_X0_clear (at_X0_o Hb0) rfl rfl rfl rfl hdd_X0_clear ⟨(Nat.le_of_ble_eq_true rfl), (Nat.le_of_ble_eq_true rfl)⟩ rfl rfl (Nat.le_of_ble_eq_true rfl) ⟨(Nat.le_of_ble_eq_true rfl), (Nat.le_of_ble_eq_true rfl)⟩) (fun h1 hG => ?_)
  refine r_iconst (pc := 4) X dX0_readFrom_4 hG rfl (fun z2 hG => ?_)
  refine r_istore_n (pc := 5) (L' := [some (.ref (ad b0)), some (.ref (ad b1)), some (.int z2)]) X dX0_readFrom_5 rfl (by decide) rfl rfl ?_
  refine r_join hG (fun a3 => ∀ (h5 : Hp), a3 = h5 → Ev E ad shl p l e rm_X0_readFrom s m args below meth c 0 0 Q 3 h5 45 [some (.ref (ad b0)), none, none] []) (fun a3 hG => ?_) (fun j4 Hj4 hG => ?_)
  · skip
    intro h5 ha; have ha := ha.symm; subst ha
    refine r_aload_n (pc := 45) X dX0_readFrom_45 rfl rfl ?_
    refine r_cV (pc := 46) hG (fun _ hg => runV X dX0_readFrom_46 (c_X0_weigh Hb0 hg) mM_X0_30 mI_X0_weigh mE_X0_weigh mN_X0 mK_X0_weigh (at_X0_o Hb0) rfl rfl rfl rfl hdd_X0_weigh ⟨(Nat.le_of_ble_eq_true rfl), (Nat.le_of_ble_eq_true rfl)⟩ rfl rfl (Nat.le_of_ble_eq_true rfl) ⟨(Nat.le_of_ble_eq_true rfl), (Nat.le_of_ble_eq_true rfl)⟩) (fun h6 hG => ?_)
    exact r_vret (pc := 49) X dX0_readFrom_49 hQ hG
  refine r_mask [true, true, true] rfl (r_loop (fun q7 => ∀ (y9 : Int32) (h10 : Hp), q7 = (y9.toInt, h10) → Ev E ad shl p l e rm_X0_readFrom s m args below meth c 0 0 Q 3 h10 6 [some (.ref (ad b0)), some (.ref (ad b1)), some (.int y9)] []) (fun l8 Hl8 q7 hG => ?_) FU _ hG z2 h1 rfl)
  intro y9 h10 ha; have ha := ha.symm; subst ha
  unfold g_X0_readFrom_l8 at hG
  refine r_iload_n (pc := 6) X dX0_readFrom_6 rfl rfl ?_
  refine r_sipush (pc := 7) X dX0_readFrom_7 hG (by decide) (fun z11 hG => ?_)
  refine r_icmp_ge (pc := 10) X dX0_readFrom_10 (tgt := 45) (by decide) hG (fun hG => ?_) (fun hG => ?_)
  · skip
    exact r_mask [true, false, false] rfl (Hj4 _ hG h10 rfl)
  · skip
    refine r_aload_n (pc := 13) X dX0_readFrom_13 rfl rfl ?_
    refine r_cW (pc := 14) hG (fun _ hg => runV X dX0_readFrom_14 (c_X5_hasClause Hb1 hg) mM_X0_35 mI_X5_hasClause mE_X5_hasClause mN_X5 mK_X5_hasClause (at_X5_o Hb1) rfl rfl rfl rfl hdd_X5_hasClause ⟨(Nat.le_of_ble_eq_true rfl), (Nat.le_of_ble_eq_true rfl)⟩ rfl rfl (Nat.le_of_ble_eq_true rfl) ⟨(Nat.le_of_ble_eq_true rfl), (Nat.le_of_ble_eq_true rfl)⟩) (fun z12 h13 hG => ?_)
    refine r_if_eq (pc := 17) X dX0_readFrom_17 (tgt := 45) (by decide) hG (fun hG => ?_) (fun hG => ?_)
    · skip
      exact r_mask [true, false, false] rfl (Hj4 _ hG h13 rfl)
    · skip
      refine r_aload_n (pc := 20) X dX0_readFrom_20 rfl rfl ?_
      refine r_aload_n (pc := 21) X dX0_readFrom_21 rfl rfl ?_
      refine r_cV (pc := 22) hG (fun _ hg => runV X dX0_readFrom_22 (c_X0_readClause Hb0 Hb1 hg) mM_X0_39 mI_X0_readClause mE_X0_readClause mN_X0 mK_X0_readClause (at_X0_o Hb0) rfl rfl rfl rfl hdd_X0_readClause ⟨(Nat.le_of_ble_eq_true rfl), (Nat.le_of_ble_eq_true rfl)⟩ rfl rfl (Nat.le_of_ble_eq_true rfl) ⟨(Nat.le_of_ble_eq_true rfl), (Nat.le_of_ble_eq_true rfl)⟩) (fun h14 hG => ?_)
      refine r_aload_n (pc := 25) X dX0_readFrom_25 rfl rfl ?_
      refine r_cV (pc := 26) hG (fun _ hg => runV X dX0_readFrom_26 (c_X5_endClause Hb1 hg) mM_X0_43 mI_X5_endClause mE_X5_endClause mN_X5 mK_X5_endClause (at_X5_o Hb1) rfl rfl rfl rfl hdd_X5_endClause ⟨(Nat.le_of_ble_eq_true rfl), (Nat.le_of_ble_eq_true rfl)⟩ rfl rfl (Nat.le_of_ble_eq_true rfl) ⟨(Nat.le_of_ble_eq_true rfl), (Nat.le_of_ble_eq_true rfl)⟩) (fun h15 hG => ?_)
      refine r_aload_n (pc := 29) X dX0_readFrom_29 rfl rfl ?_
      refine r_dup (pc := 30) X dX0_readFrom_30 rfl ?_
      refine r_getI (pc := 31) X (at_X0_o Hb0) rfl mU_X0 (k := 6) (by decide) rfl mF_X0_46 dX0_readFrom_31 hG (fun z16 hG => ?_)
      refine r_iconst (pc := 34) X dX0_readFrom_34 hG rfl (fun z17 hG => ?_)
      refine r_iadd (pc := 35) X dX0_readFrom_35 hG (fun z18 hG => ?_)
      refine r_putI (pc := 36) X (at_X0_o Hb0) rfl mU_X0 (k := 6) (by decide) rfl rfl rfl mF_X0_46 dX0_readFrom_36 hG (fun h19 hG => ?_)
      refine r_iinc (pc := 39) (L' := fun z20 => [some (.ref (ad b0)), some (.ref (ad b1)), some (.int z20)]) X dX0_readFrom_39 (by decide) rfl rfl (by decide) (fun _ => rfl) hG (fun z20 hG => ?_)
      refine r_goto (pc := 42) X dX0_readFrom_42 (tgt := 6) (by decide) ?_
      exact r_mask [true, true, true] rfl (Hl8 _ hG z20 h19 rfl)
theorem c_X0_readFrom {b0 : Nat} {b1 : Nat} {r : Hp} (Hb0 : At_X0 shl b0) (Hb1 : At_X5 shl b1) (hg : g_X0_readFrom b0 b1 h = some r) : Met l yX0_readFrom (wsM yX0_readFrom cX0_readFrom 3 none) rm_X0_readFrom (va_Pc [.ref (ad b0), .ref (ad b1)] (World E ad shl h)) (QcV E ad shl r) 0 0 (bsA E) :=
  met_of (L0 := [some (.ref (ad b0)), some (.ref (ad b1)), none]) rfl rfl rfl (Nat.le_of_ble_eq_true rfl) (fun _ _ _ _ _ _ _ X => w_X0_readFrom Hb0 Hb1 X rfl hg)
abbrev rm_X8_beach : Room := { frames := 8, cells := 0, slots := 0, locals := 171 }
theorem hdd_X8_beach : yX8_beach.cls = RX8 ∧ yX8_beach.cls ≠ "java/lang/invoke/MethodHandle" ∧ yX8_beach.cls ≠ "java/lang/invoke/VarHandle" ∧ (parseMethodDescriptor yX8_beach.desc).map (fun d => d.parameters.length) = some 0 := ⟨rfl, by decide +kernel, by decide +kernel, by decide +kernel⟩
set_option maxRecDepth 100000 in
set_option maxHeartbeats 4000000 in
theorem w_X8_beach  {r : Int × Hp} (Hb0 : At_X8 shl) (X : Cx E p s m args meth c cX8_beach RX8 3 (some .int)) (hQ : Q = MQ below (QcI E ad shl r.1 r.2) args s 0 0 (bsA E)) (hG : g_X8_beach h = some r) : Ev E ad shl p l e rm_X8_beach s m args below meth c 0 0 Q 3 h 0 [some (.ref (ad 0)), none, none] [] := by
  unfold g_X8_beach at hG
  refine r_aload_n (pc := 0) X dX8_beach_0 rfl rfl ?_
  refine r_getC (pc := 1) X (at_X8_o Hb0) rfl mU_X8 (k := 0) (by decide) (q := 1) rfl mF_X8_10 dX8_beach_1 ?_
  refine r_cV (pc := 4) hG (fun _ hg => runV X dX8_beach_4 (c_X5_startReading (at_X8_tape Hb0) hg) mM_X8_91 mI_X5_startReading mE_X5_startReading mN_X5 mK_X5_startReading (at_X5_o (at_X8_tape Hb0)) rfl rfl rfl rfl hdd_X5_startReading ⟨(Nat.le_of_ble_eq_true rfl), (Nat.le_of_ble_eq_true rfl)⟩ rfl rfl (Nat.le_of_ble_eq_true rfl) ⟨(Nat.le_of_ble_eq_true rfl), (Nat.le_of_ble_eq_true rfl)⟩) (fun h1 hG => ?_)
  refine r_aload_n (pc := 7) X dX8_beach_7 rfl rfl ?_
  refine r_getR (pc := 8) X (at_X8_o Hb0) rfl mU_X8 (k := 2) (by decide) rfl mF_X8_23 dX8_beach_8 hG (fun q2 Hq2 hG => ?_)
  refine r_aload_n (pc := 11) X dX8_beach_11 rfl rfl ?_
  refine r_getC (pc := 12) X (at_X8_o Hb0) rfl mU_X8 (k := 0) (by decide) (q := 1) rfl mF_X8_10 dX8_beach_12 ?_
  refine r_cV (pc := 15) hG (fun _ hg => runV X dX8_beach_15 (c_X0_readFrom (at_X8_beaches Hb0 _ Hq2) (at_X8_tape Hb0) hg) mM_X8_94 mI_X0_readFrom mE_X0_readFrom mN_X0 mK_X0_readFrom (at_X0_o (at_X8_beaches Hb0 _ Hq2)) rfl rfl rfl rfl hdd_X0_readFrom ⟨(Nat.le_of_ble_eq_true rfl), (Nat.le_of_ble_eq_true rfl)⟩ rfl rfl (Nat.le_of_ble_eq_true rfl) ⟨(Nat.le_of_ble_eq_true rfl), (Nat.le_of_ble_eq_true rfl)⟩) (fun h3 hG => ?_)
  refine r_aload_n (pc := 18) X dX8_beach_18 rfl rfl ?_
  refine r_getC (pc := 19) X (at_X8_o Hb0) rfl mU_X8 (k := 0) (by decide) (q := 1) rfl mF_X8_10 dX8_beach_19 ?_
  refine r_iconst (pc := 22) X dX8_beach_22 hG rfl (fun z4 hG => ?_)
  refine r_putI (pc := 23) X (at_X5_o (at_X8_tape Hb0)) rfl mU_X5 (k := 1) (by decide) rfl rfl rfl mF_X8_83 dX8_beach_23 hG (fun h5 hG => ?_)
  refine r_aload_n (pc := 26) X dX8_beach_26 rfl rfl ?_
  refine r_getC (pc := 27) X (at_X8_o Hb0) rfl mU_X8 (k := 0) (by decide) (q := 1) rfl mF_X8_10 dX8_beach_27 ?_
  refine r_cP (pc := 30) hG (fun _ hg => runV X dX8_beach_30 (c_X5_isFaulty (at_X8_tape Hb0) hg) mM_X8_98 mI_X5_isFaulty mE_X5_isFaulty mN_X5 mK_X5_isFaulty (at_X5_o (at_X8_tape Hb0)) rfl rfl rfl rfl hdd_X5_isFaulty ⟨(Nat.le_of_ble_eq_true rfl), (Nat.le_of_ble_eq_true rfl)⟩ rfl rfl (Nat.le_of_ble_eq_true rfl) ⟨(Nat.le_of_ble_eq_true rfl), (Nat.le_of_ble_eq_true rfl)⟩) (fun z6 hG => ?_)
  refine r_if_eq (pc := 33) X dX8_beach_33 (tgt := 38) (by decide) hG (fun hG => ?_) (fun hG => ?_)
  · skip
    refine r_aload_n (pc := 38) X dX8_beach_38 rfl rfl ?_
    refine r_getR (pc := 39) X (at_X8_o Hb0) rfl mU_X8 (k := 2) (by decide) rfl mF_X8_23 dX8_beach_39 hG (fun q7 Hq7 hG => ?_)
    refine r_astore_n (pc := 42) (L' := [some (.ref (ad 0)), some (.ref (ad q7)), none]) X dX8_beach_42 rfl (by decide) rfl rfl ?_
    refine r_aload_n (pc := 43) X dX8_beach_43 rfl rfl ?_
    refine r_aload_n (pc := 44) X dX8_beach_44 rfl rfl ?_
    refine r_getR (pc := 45) X (at_X8_o Hb0) rfl mU_X8 (k := 1) (by decide) rfl mF_X8_19 dX8_beach_45 hG (fun q8 Hq8 hG => ?_)
    refine r_putR (pc := 48) X (at_X8_o Hb0) rfl mU_X8 (k := 2) (by decide) rfl rfl (D := RX0) (by decide +kernel) mF_X8_23 dX8_beach_48 (by simp at Hq8; omega) hG (fun h9 hG => ?_)
    refine r_aload_n (pc := 51) X dX8_beach_51 rfl rfl ?_
    refine r_aload_n (pc := 52) X dX8_beach_52 rfl rfl ?_
    refine r_putR (pc := 53) X (at_X8_o Hb0) rfl mU_X8 (k := 1) (by decide) rfl rfl (D := RX0) (by decide +kernel) mF_X8_19 dX8_beach_53 (by simp at Hq7; omega) hG (fun h10 hG => ?_)
    refine r_aload_n (pc := 56) X dX8_beach_56 rfl rfl ?_
    refine r_iconst (pc := 57) X dX8_beach_57 hG rfl (fun z11 hG => ?_)
    refine r_putI (pc := 58) X (at_X8_o Hb0) rfl mU_X8 (k := 6) (by decide) rfl rfl rfl mF_X8_102 dX8_beach_58 hG (fun h12 hG => ?_)
    refine r_iconst (pc := 61) X dX8_beach_61 hG rfl (fun z13 hG => ?_)
    refine r_istore_n (pc := 62) (L' := [some (.ref (ad 0)), some (.ref (ad q7)), some (.int z13)]) X dX8_beach_62 rfl (by decide) rfl rfl ?_
    refine r_join hG (fun a14 => ∀ (h16 : Hp), a14 = h16 → Ev E ad shl p l e rm_X8_beach s m args below meth c 0 0 Q 3 h16 81 [some (.ref (ad 0)), none, none] []) (fun a14 hG => ?_) (fun j15 Hj15 hG => ?_)
    · skip
      intro h16 ha; have ha := ha.symm; subst ha
      refine r_aload_n (pc := 81) X dX8_beach_81 rfl rfl ?_
      refine r_getC (pc := 82) X (at_X8_o Hb0) rfl mU_X8 (k := 7) (by decide) (q := 26) rfl mF_X8_45 dX8_beach_82 ?_
      refine r_aload_n (pc := 85) X dX8_beach_85 rfl rfl ?_
      refine r_getR (pc := 86) X (at_X8_o Hb0) rfl mU_X8 (k := 1) (by decide) rfl mF_X8_19 dX8_beach_86 hG (fun q17 Hq17 hG => ?_)
      refine r_cV (pc := 89) hG (fun _ hg => runV X dX8_beach_89 (c_X3_begin (at_X8_now Hb0) (at_X8_beaches Hb0 _ Hq17) hg) mM_X8_79 mI_X3_begin mE_X3_begin mN_X3 mK_X3_begin (at_X3_o (at_X8_now Hb0)) rfl rfl rfl rfl hdd_X3_begin ⟨(Nat.le_of_ble_eq_true rfl), (Nat.le_of_ble_eq_true rfl)⟩ rfl rfl (Nat.le_of_ble_eq_true rfl) ⟨(Nat.le_of_ble_eq_true rfl), (Nat.le_of_ble_eq_true rfl)⟩) (fun h18 hG => ?_)
      refine r_aload_n (pc := 92) X dX8_beach_92 rfl rfl ?_
      refine r_getR (pc := 93) X (at_X8_o Hb0) rfl mU_X8 (k := 1) (by decide) rfl mF_X8_19 dX8_beach_93 hG (fun q19 Hq19 hG => ?_)
      refine r_getI (pc := 96) X (at_X0_o (at_X8_beaches Hb0 _ Hq19)) rfl mU_X0 (k := 6) (by decide) rfl mF_X8_105 dX8_beach_96 hG (fun z20 hG => ?_)
      exact r_iretW (pc := 99) X dX8_beach_99 hQ hG
    refine r_mask [true, false, true] rfl (r_loop (fun q21 => ∀ (y23 : Int32) (h24 : Hp), q21 = (y23.toInt, h24) → Ev E ad shl p l e rm_X8_beach s m args below meth c 0 0 Q 3 h24 63 [some (.ref (ad 0)), none, some (.int y23)] []) (fun l22 Hl22 q21 hG => ?_) FU _ hG z13 h12 rfl)
    intro y23 h24 ha; have ha := ha.symm; subst ha
    unfold g_X8_beach_l22 at hG
    refine r_iload_n (pc := 63) X dX8_beach_63 rfl rfl ?_
    refine r_iconst (pc := 64) X dX8_beach_64 hG rfl (fun z25 hG => ?_)
    refine r_icmp_ge (pc := 65) X dX8_beach_65 (tgt := 81) (by decide) hG (fun hG => ?_) (fun hG => ?_)
    · skip
      exact r_mask [true, false, false] rfl (Hj15 _ hG h24 rfl)
    · skip
      refine r_aload_n (pc := 68) X dX8_beach_68 rfl rfl ?_
      refine r_getC (pc := 69) X (at_X8_o Hb0) rfl mU_X8 (k := 9) (by decide) (q := 35) rfl mF_X8_53 dX8_beach_69 ?_
      refine r_iload_n (pc := 72) X dX8_beach_72 rfl rfl ?_
      refine r_iconst (pc := 73) X dX8_beach_73 hG rfl (fun z26 hG => ?_)
      refine r_zast (pc := 74) X (at_X8_isKept Hb0) dX8_beach_74 hG (fun h27 hG => ?_)
      refine r_iinc (pc := 75) (L' := fun z28 => [some (.ref (ad 0)), none, some (.int z28)]) X dX8_beach_75 (by decide) rfl rfl (by decide) (fun _ => rfl) hG (fun z28 hG => ?_)
      refine r_goto (pc := 78) X dX8_beach_78 (tgt := 63) (by decide) ?_
      exact r_mask [true, false, true] rfl (Hl22 _ hG z28 h27 rfl)
  · skip
    refine r_iconst (pc := 36) X dX8_beach_36 hG rfl (fun z29 hG => ?_)
    exact r_iretW (pc := 37) X dX8_beach_37 hQ hG
theorem c_X8_beach  {r : Int × Hp} (Hb0 : At_X8 shl) (hg : g_X8_beach h = some r) : Met l yX8_beach (wsM yX8_beach cX8_beach 3 (some .int)) rm_X8_beach (va_Pc [.ref (ad 0)] (World E ad shl h)) (QcI E ad shl r.1 r.2) 0 0 (bsA E) :=
  met_of (L0 := [some (.ref (ad 0)), none, none]) rfl rfl rfl (Nat.le_of_ble_eq_true rfl) (fun _ _ _ _ _ _ _ X => w_X8_beach Hb0 X rfl hg)
abbrev rm_X2_readWave : Room := { frames := 3, cells := 0, slots := 0, locals := 62 }
theorem hdd_X2_readWave : yX2_readWave.cls = RX2 ∧ yX2_readWave.cls ≠ "java/lang/invoke/MethodHandle" ∧ yX2_readWave.cls ≠ "java/lang/invoke/VarHandle" ∧ (parseMethodDescriptor yX2_readWave.desc).map (fun d => d.parameters.length) = some 1 := ⟨rfl, by decide +kernel, by decide +kernel, by decide +kernel⟩
set_option maxRecDepth 100000 in
set_option maxHeartbeats 4000000 in
theorem w_X2_readWave {b0 : Nat} {b1 : Nat} {r : Hp} (Hb0 : At_X2 shl b0) (Hb1 : At_X5 shl b1) (X : Cx E p s m args meth c cX2_readWave RX2 2 none) (hQ : Q = MQ below (QcV E ad shl r) args s 0 0 (bsA E)) (hG : g_X2_readWave b0 b1 h = some r) : Ev E ad shl p l e rm_X2_readWave s m args below meth c 0 0 Q 2 h 0 [some (.ref (ad b0)), some (.ref (ad b1))] [] := by
  unfold g_X2_readWave at hG
  refine r_aload_n (pc := 0) X dX2_readWave_0 rfl rfl ?_
  refine r_getI (pc := 1) X (at_X2_o Hb0) rfl mU_X2 (k := 4) (by decide) rfl mF_X2_53 dX2_readWave_1 hG (fun z1 hG => ?_)
  refine r_bipush (pc := 4) X dX2_readWave_4 hG (by decide) (fun z2 hG => ?_)
  refine r_icmp_lt (pc := 6) X dX2_readWave_6 (tgt := 15) (by decide) hG (fun hG => ?_) (fun hG => ?_)
  · skip
    refine r_aload_n (pc := 15) X dX2_readWave_15 rfl rfl ?_
    refine r_getC (pc := 16) X (at_X2_o Hb0) rfl mU_X2 (k := 1) (by decide) (q := (b0 + 2)) rfl mF_X2_15 dX2_readWave_16 ?_
    refine r_aload_n (pc := 19) X dX2_readWave_19 rfl rfl ?_
    refine r_getI (pc := 20) X (at_X2_o Hb0) rfl mU_X2 (k := 4) (by decide) rfl mF_X2_53 dX2_readWave_20 hG (fun z3 hG => ?_)
    refine r_aload_n (pc := 23) X dX2_readWave_23 rfl rfl ?_
    refine r_iconst (pc := 24) X dX2_readWave_24 hG rfl (fun z4 hG => ?_)
    refine r_sipush (pc := 25) X dX2_readWave_25 hG (by decide) (fun z5 hG => ?_)
    refine r_cW (pc := 28) hG (fun _ hg => runV X dX2_readWave_28 (c_X5_need Hb1 hg) mM_X2_84 mI_X5_need mE_X5_need mN_X5 mK_X5_need (at_X5_o Hb1) rfl rfl rfl rfl hdd_X5_need ⟨(Nat.le_of_ble_eq_true rfl), (Nat.le_of_ble_eq_true rfl)⟩ rfl rfl (Nat.le_of_ble_eq_true rfl) ⟨(Nat.le_of_ble_eq_true rfl), (Nat.le_of_ble_eq_true rfl)⟩) (fun z6 h7 hG => ?_)
    refine r_iast (pc := 31) X (at_X2_minutes Hb0) dX2_readWave_31 hG (fun h8 hG => ?_)
    refine r_aload_n (pc := 32) X dX2_readWave_32 rfl rfl ?_
    refine r_getC (pc := 33) X (at_X2_o Hb0) rfl mU_X2 (k := 2) (by decide) (q := (b0 + 3)) rfl mF_X2_18 dX2_readWave_33 ?_
    refine r_aload_n (pc := 36) X dX2_readWave_36 rfl rfl ?_
    refine r_getI (pc := 37) X (at_X2_o Hb0) rfl mU_X2 (k := 4) (by decide) rfl mF_X2_53 dX2_readWave_37 hG (fun z9 hG => ?_)
    refine r_aload_n (pc := 40) X dX2_readWave_40 rfl rfl ?_
    refine r_gets (pc := 41) X (k := 3) rfl mF_X2_88 dX2_readWave_41 ?_
    refine r_iconst (pc := 44) X dX2_readWave_44 hG rfl (fun z10 hG => ?_)
    refine r_tab (pc := 45) X (k := 3) rfl (tabR (k := 3) rfl) dX2_readWave_45 hG (fun z11 hG => ?_)
    refine r_gets (pc := 46) X (k := 4) rfl mF_X2_91 dX2_readWave_46 ?_
    refine r_iconst (pc := 49) X dX2_readWave_49 hG rfl (fun z12 hG => ?_)
    refine r_tab (pc := 50) X (k := 4) rfl (tabR (k := 4) rfl) dX2_readWave_50 hG (fun z13 hG => ?_)
    refine r_cW (pc := 51) hG (fun _ hg => runV X dX2_readWave_51 (c_X5_need Hb1 hg) mM_X2_84 mI_X5_need mE_X5_need mN_X5 mK_X5_need (at_X5_o Hb1) rfl rfl rfl rfl hdd_X5_need ⟨(Nat.le_of_ble_eq_true rfl), (Nat.le_of_ble_eq_true rfl)⟩ rfl rfl (Nat.le_of_ble_eq_true rfl) ⟨(Nat.le_of_ble_eq_true rfl), (Nat.le_of_ble_eq_true rfl)⟩) (fun z14 h15 hG => ?_)
    refine r_iast (pc := 54) X (at_X2_reaches Hb0) dX2_readWave_54 hG (fun h16 hG => ?_)
    refine r_aload_n (pc := 55) X dX2_readWave_55 rfl rfl ?_
    refine r_getC (pc := 56) X (at_X2_o Hb0) rfl mU_X2 (k := 3) (by decide) (q := (b0 + 4)) rfl mF_X2_21 dX2_readWave_56 ?_
    refine r_aload_n (pc := 59) X dX2_readWave_59 rfl rfl ?_
    refine r_getI (pc := 60) X (at_X2_o Hb0) rfl mU_X2 (k := 4) (by decide) rfl mF_X2_53 dX2_readWave_60 hG (fun z17 hG => ?_)
    refine r_aload_n (pc := 63) X dX2_readWave_63 rfl rfl ?_
    refine r_gets (pc := 64) X (k := 3) rfl mF_X2_88 dX2_readWave_64 ?_
    refine r_bipush (pc := 67) X dX2_readWave_67 hG (by decide) (fun z18 hG => ?_)
    refine r_tab (pc := 69) X (k := 3) rfl (tabR (k := 3) rfl) dX2_readWave_69 hG (fun z19 hG => ?_)
    refine r_gets (pc := 70) X (k := 4) rfl mF_X2_91 dX2_readWave_70 ?_
    refine r_bipush (pc := 73) X dX2_readWave_73 hG (by decide) (fun z20 hG => ?_)
    refine r_tab (pc := 75) X (k := 4) rfl (tabR (k := 4) rfl) dX2_readWave_75 hG (fun z21 hG => ?_)
    refine r_cW (pc := 76) hG (fun _ hg => runV X dX2_readWave_76 (c_X5_need Hb1 hg) mM_X2_84 mI_X5_need mE_X5_need mN_X5 mK_X5_need (at_X5_o Hb1) rfl rfl rfl rfl hdd_X5_need ⟨(Nat.le_of_ble_eq_true rfl), (Nat.le_of_ble_eq_true rfl)⟩ rfl rfl (Nat.le_of_ble_eq_true rfl) ⟨(Nat.le_of_ble_eq_true rfl), (Nat.le_of_ble_eq_true rfl)⟩) (fun z22 h23 hG => ?_)
    refine r_iast (pc := 79) X (at_X2_levels Hb0) dX2_readWave_79 hG (fun h24 hG => ?_)
    refine r_aload_n (pc := 80) X dX2_readWave_80 rfl rfl ?_
    refine r_dup (pc := 81) X dX2_readWave_81 rfl ?_
    refine r_getI (pc := 82) X (at_X2_o Hb0) rfl mU_X2 (k := 4) (by decide) rfl mF_X2_53 dX2_readWave_82 hG (fun z25 hG => ?_)
    refine r_iconst (pc := 85) X dX2_readWave_85 hG rfl (fun z26 hG => ?_)
    refine r_iadd (pc := 86) X dX2_readWave_86 hG (fun z27 hG => ?_)
    refine r_putI (pc := 87) X (at_X2_o Hb0) rfl mU_X2 (k := 4) (by decide) rfl rfl rfl mF_X2_53 dX2_readWave_87 hG (fun h28 hG => ?_)
    exact r_vret (pc := 90) X dX2_readWave_90 hQ hG
  · skip
    refine r_aload_n (pc := 9) X dX2_readWave_9 rfl rfl ?_
    refine r_iconst (pc := 10) X dX2_readWave_10 hG rfl (fun z29 hG => ?_)
    refine r_cV (pc := 11) hG (fun _ hg => runV X dX2_readWave_11 (c_X5_refuse Hb1 hg) mM_X2_80 mI_X5_refuse mE_X5_refuse mN_X5 mK_X5_refuse (at_X5_o Hb1) rfl rfl rfl rfl hdd_X5_refuse ⟨(Nat.le_of_ble_eq_true rfl), (Nat.le_of_ble_eq_true rfl)⟩ rfl rfl (Nat.le_of_ble_eq_true rfl) ⟨(Nat.le_of_ble_eq_true rfl), (Nat.le_of_ble_eq_true rfl)⟩) (fun h30 hG => ?_)
    exact r_vret (pc := 14) X dX2_readWave_14 hQ hG
theorem c_X2_readWave {b0 : Nat} {b1 : Nat} {r : Hp} (Hb0 : At_X2 shl b0) (Hb1 : At_X5 shl b1) (hg : g_X2_readWave b0 b1 h = some r) : Met l yX2_readWave (wsM yX2_readWave cX2_readWave 2 none) rm_X2_readWave (va_Pc [.ref (ad b0), .ref (ad b1)] (World E ad shl h)) (QcV E ad shl r) 0 0 (bsA E) :=
  met_of (L0 := [some (.ref (ad b0)), some (.ref (ad b1))]) rfl rfl rfl (Nat.le_of_ble_eq_true rfl) (fun _ _ _ _ _ _ _ X => w_X2_readWave Hb0 Hb1 X rfl hg)
end WALKS
