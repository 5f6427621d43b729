section WALKS
variable {E : EnvT} {ad : Nat → Nat} {shl : List Shp} {p : Program} {l : Launch} {e : Env} {s : State} {m : MethodId} {args : Array Value} {below : List Frame} {meth : Method} {c : Code} {Q : State → Prop} {h : Hp}
abbrev rm_X9_sum : Room := { frames := 0, cells := 0, slots := 0, locals := 0 }
theorem hdd_X9_sum : yX9_sum.cls = RX9 ∧ yX9_sum.cls ≠ "java/lang/invoke/MethodHandle" ∧ yX9_sum.cls ≠ "java/lang/invoke/VarHandle" ∧ (parseMethodDescriptor yX9_sum.desc).map (fun d => d.parameters.length) = some 1 := ⟨rfl, by decide +kernel, by decide +kernel, by decide +kernel⟩
set_option maxRecDepth 100000 in
set_option maxHeartbeats 4000000 in
theorem w_X9_sum {x1 : Int32} {r : Int} (Hb0 : At_X9 shl) (X : Cx E p s m args meth c cX9_sum RX9 4 (some .int)) (hQ : Q = MQ below (QcI E ad shl r h) args s 0 0 (bsA E)) (hG : g_X9_sum x1.toInt h = some r) : Ev E ad shl p l e rm_X9_sum s m args below meth c 0 0 Q 4 h 0 [some (.ref (ad 100)), some (.int x1), none, none] [] := by
  unfold g_X9_sum at hG
  refine r_iconst (pc := 0) X dX9_sum_0 hG rfl (fun z1 hG => ?_)
  refine r_istore_n (pc := 1) (L' := [some (.ref (ad 100)), some (.int x1), some (.int z1), none]) X dX9_sum_1 rfl (by decide) rfl rfl ?_
  refine r_iconst (pc := 2) X dX9_sum_2 hG rfl (fun z2 hG => ?_)
  refine r_istore_n (pc := 3) (L' := [some (.ref (ad 100)), some (.int x1), some (.int z1), some (.int z2)]) X dX9_sum_3 rfl (by decide) rfl rfl ?_
  refine r_join hG (fun a3 => ∀ (y5 : Int32), a3 = y5.toInt → Ev E ad shl p l e rm_X9_sum s m args below meth c 0 0 Q 4 h 34 [some (.ref (ad 100)), some (.int x1), some (.int y5), none] []) (fun a3 hG => ?_) (fun j4 Hj4 hG => ?_)
  · skip
    intro y5 ha; have ha := ha.symm; subst ha
    refine r_iload_n (pc := 34) X dX9_sum_34 rfl rfl ?_
    refine r_ite hG (fun e6 hG => ?_) (fun e6 hG => ?_)
    · refine r_tsIn (pc := 35) X dX9_sum_35 e6 (by decide) (by decide) rfl (tgt := 76) (by decide) ?_
      refine r_iload_n (pc := 76) X dX9_sum_76 rfl rfl ?_
      exact r_iretP (pc := 77) X dX9_sum_77 hQ hG
    refine r_ite hG (fun e7 hG => ?_) (fun e7 hG => ?_)
    · refine r_tsIn (pc := 35) X dX9_sum_35 e7 (by decide) (by decide) rfl (tgt := 78) (by decide) ?_
      refine r_aload_n (pc := 78) X dX9_sum_78 rfl rfl ?_
      refine r_getC (pc := 79) X (at_X9_o Hb0) rfl mU_X9 (k := 46) (by decide) (q := 121) rfl mF_X9_269 dX9_sum_79 ?_
      refine r_sipush (pc := 82) X dX9_sum_82 hG (by decide) (fun z8 hG => ?_)
      refine r_iald (pc := 85) X (at_X9_now Hb0) dX9_sum_85 hG (fun z9 hG => ?_)
      exact r_iretP (pc := 86) X dX9_sum_86 hQ hG
    refine r_ite hG (fun e10 hG => ?_) (fun e10 hG => ?_)
    · refine r_tsIn (pc := 35) X dX9_sum_35 e10 (by decide) (by decide) rfl (tgt := 87) (by decide) ?_
      refine r_aload_n (pc := 87) X dX9_sum_87 rfl rfl ?_
      refine r_getC (pc := 88) X (at_X9_o Hb0) rfl mU_X9 (k := 46) (by decide) (q := 121) rfl mF_X9_269 dX9_sum_88 ?_
      refine r_sipush (pc := 91) X dX9_sum_91 hG (by decide) (fun z11 hG => ?_)
      refine r_iald (pc := 94) X (at_X9_now Hb0) dX9_sum_94 hG (fun z12 hG => ?_)
      exact r_iretP (pc := 95) X dX9_sum_95 hQ hG
    refine r_ite hG (fun e13 hG => ?_) (fun e13 hG => ?_)
    · refine r_tsIn (pc := 35) X dX9_sum_35 e13 (by decide) (by decide) rfl (tgt := 96) (by decide) ?_
      refine r_aload_n (pc := 96) X dX9_sum_96 rfl rfl ?_
      refine r_getC (pc := 97) X (at_X9_o Hb0) rfl mU_X9 (k := 46) (by decide) (q := 121) rfl mF_X9_269 dX9_sum_97 ?_
      refine r_sipush (pc := 100) X dX9_sum_100 hG (by decide) (fun z14 hG => ?_)
      refine r_iald (pc := 103) X (at_X9_now Hb0) dX9_sum_103 hG (fun z15 hG => ?_)
      exact r_iretP (pc := 104) X dX9_sum_104 hQ hG
    refine r_ite hG (fun e16 hG => ?_) (fun e16 hG => ?_)
    · refine r_tsIn (pc := 35) X dX9_sum_35 e16 (by decide) (by decide) rfl (tgt := 105) (by decide) ?_
      refine r_aload_n (pc := 105) X dX9_sum_105 rfl rfl ?_
      refine r_getC (pc := 106) X (at_X9_o Hb0) rfl mU_X9 (k := 46) (by decide) (q := 121) rfl mF_X9_269 dX9_sum_106 ?_
      refine r_sipush (pc := 109) X dX9_sum_109 hG (by decide) (fun z17 hG => ?_)
      refine r_iald (pc := 112) X (at_X9_now Hb0) dX9_sum_112 hG (fun z18 hG => ?_)
      exact r_iretP (pc := 113) X dX9_sum_113 hQ hG
    refine r_ite hG (fun e19 hG => ?_) (fun e19 hG => ?_)
    · refine r_tsIn (pc := 35) X dX9_sum_35 e19 (by decide) (by decide) rfl (tgt := 114) (by decide) ?_
      refine r_aload_n (pc := 114) X dX9_sum_114 rfl rfl ?_
      refine r_getC (pc := 115) X (at_X9_o Hb0) rfl mU_X9 (k := 46) (by decide) (q := 121) rfl mF_X9_269 dX9_sum_115 ?_
      refine r_sipush (pc := 118) X dX9_sum_118 hG (by decide) (fun z20 hG => ?_)
      refine r_iald (pc := 121) X (at_X9_now Hb0) dX9_sum_121 hG (fun z21 hG => ?_)
      exact r_iretP (pc := 122) X dX9_sum_122 hQ hG
    refine r_ite hG (fun e22 hG => ?_) (fun e22 hG => ?_)
    · refine r_tsIn (pc := 35) X dX9_sum_35 e22 (by decide) (by decide) rfl (tgt := 123) (by decide) ?_
      refine r_aload_n (pc := 123) X dX9_sum_123 rfl rfl ?_
      refine r_getC (pc := 124) X (at_X9_o Hb0) rfl mU_X9 (k := 46) (by decide) (q := 121) rfl mF_X9_269 dX9_sum_124 ?_
      refine r_sipush (pc := 127) X dX9_sum_127 hG (by decide) (fun z23 hG => ?_)
      refine r_iald (pc := 130) X (at_X9_now Hb0) dX9_sum_130 hG (fun z24 hG => ?_)
      exact r_iretP (pc := 131) X dX9_sum_131 hQ hG
    refine r_tsOut (pc := 35) X dX9_sum_35 (by omega) (tgt := 132) (by decide) ?_
    refine r_iconst (pc := 132) X dX9_sum_132 hG rfl (fun z25 hG => ?_)
    exact r_iretP (pc := 133) X dX9_sum_133 hQ hG
  refine r_mask [true, true, true, true] rfl (r_loop (fun q26 => ∀ (y28 : Int32) (y29 : Int32), q26 = (y28.toInt, y29.toInt) → Ev E ad shl p l e rm_X9_sum s m args below meth c 0 0 Q 4 h 4 [some (.ref (ad 100)), some (.int x1), some (.int y28), some (.int y29)] []) (fun l27 Hl27 q26 hG => ?_) FU _ hG z1 z2 rfl)
  intro y28 y29 ha; have ha := ha.symm; subst ha
  unfold g_X9_sum_l27 at hG
  refine r_iload_n (pc := 4) X dX9_sum_4 rfl rfl ?_
  refine r_aload_n (pc := 5) X dX9_sum_5 rfl rfl ?_
  refine r_getI (pc := 6) X (at_X9_o Hb0) rfl mU_X9 (k := 10) (by decide) rfl mF_X9_201 dX9_sum_6 hG (fun z30 hG => ?_)
  refine r_aload_n (pc := 9) X dX9_sum_9 rfl rfl ?_
  refine r_getI (pc := 10) X (at_X9_o Hb0) rfl mU_X9 (k := 11) (by decide) rfl mF_X9_204 dX9_sum_10 hG (fun z31 hG => ?_)
  refine r_imul (pc := 13) X dX9_sum_13 hG (fun z32 hG => ?_)
  refine r_icmp_ge (pc := 14) X dX9_sum_14 (tgt := 34) (by decide) hG (fun hG => ?_) (fun hG => ?_)
  · skip
    exact r_mask [true, true, true, false] rfl (Hj4 _ hG y28 rfl)
  · skip
    refine r_iload_n (pc := 17) X dX9_sum_17 rfl rfl ?_
    refine r_aload_n (pc := 18) X dX9_sum_18 rfl rfl ?_
    refine r_getC (pc := 19) X (at_X9_o Hb0) rfl mU_X9 (k := 46) (by decide) (q := 121) rfl mF_X9_269 dX9_sum_19 ?_
    refine r_iconst (pc := 22) X dX9_sum_22 hG rfl (fun z33 hG => ?_)
    refine r_iload_n (pc := 23) X dX9_sum_23 rfl rfl ?_
    refine r_iadd (pc := 24) X dX9_sum_24 hG (fun z34 hG => ?_)
    refine r_iald (pc := 25) X (at_X9_now Hb0) dX9_sum_25 hG (fun z35 hG => ?_)
    refine r_iadd (pc := 26) X dX9_sum_26 hG (fun z36 hG => ?_)
    refine r_istore_n (pc := 27) (L' := [some (.ref (ad 100)), some (.int x1), some (.int z36), some (.int y29)]) X dX9_sum_27 rfl (by decide) rfl rfl ?_
    refine r_iinc (pc := 28) (L' := fun z37 => [some (.ref (ad 100)), some (.int x1), some (.int z36), some (.int z37)]) X dX9_sum_28 (by decide) rfl rfl (by decide) (fun _ => rfl) hG (fun z37 hG => ?_)
    refine r_goto (pc := 31) X dX9_sum_31 (tgt := 4) (by decide) ?_
    exact r_mask [true, true, true, true] rfl (Hl27 _ hG z36 z37 rfl)
theorem c_X9_sum {x1 : Int32} {r : Int} (Hb0 : At_X9 shl) (hg : g_X9_sum x1.toInt h = some r) : Met l yX9_sum (wsM yX9_sum cX9_sum 4 (some .int)) rm_X9_sum (va_Pc [.ref (ad 100), .int x1] (World E ad shl h)) (QcI E ad shl r h) 0 0 (bsA E) :=
  met_of (L0 := [some (.ref (ad 100)), some (.int x1), none, none]) rfl rfl rfl (Nat.le_of_ble_eq_true rfl) (fun _ _ _ _ _ _ _ X => w_X9_sum Hb0 X rfl hg)
abbrev rm_X9_isSlot : Room := { frames := 1, cells := 0, slots := 0, locals := 25 }
theorem hdd_X9_isSlot : yX9_isSlot.cls ≠ "java/lang/invoke/MethodHandle" ∧ yX9_isSlot.cls ≠ "java/lang/invoke/VarHandle" ∧ (parseMethodDescriptor yX9_isSlot.desc).map (fun d => d.parameters.length) = some 1 := ⟨by decide +kernel, by decide +kernel, by decide +kernel⟩
set_option maxRecDepth 100000 in
set_option maxHeartbeats 4000000 in
theorem w_X9_isSlot {x1 : Int32} {r : Int}  (X : Cx E p s m args meth c cX9_isSlot RX9 1 (some .boolean)) (hQ : Q = MQ below (QcI E ad shl r h) args s 0 0 (bsA E)) (hG : g_X9_isSlot x1.toInt = some r) : Ev E ad shl p l e rm_X9_isSlot s m args below meth c 0 0 Q 1 h 0 [some (.int x1)] [] := by
  unfold g_X9_isSlot at hG
  refine r_iload_n (pc := 0) X dX9_isSlot_0 rfl rfl ?_
  refine r_i2l (pc := 1) X dX9_isSlot_1 hG (fun z1 hG => ?_)
  refine r_lconst (pc := 2) X dX9_isSlot_2 hG (by decide) (fun z2 hG => ?_)
  refine r_ldc2 (pc := 3) X dX9_isSlot_3 mW_X9_343 hG (by decide) (fun z3 hG => ?_)
  refine r_cP (pc := 6) hG (fun _ hg => runS X dX9_isSlot_6 (c_X9_in  hg) mM_X9_52 mS_X9_in mN_X9 mK_X9_in rfl rfl hdd_X9_in ⟨(Nat.le_of_ble_eq_true rfl), (Nat.le_of_ble_eq_true rfl)⟩ rfl rfl (Nat.le_of_ble_eq_true rfl) ⟨(Nat.le_of_ble_eq_true rfl), (Nat.le_of_ble_eq_true rfl)⟩) (fun z4 hG => ?_)
  exact r_zretP (pc := 9) X dX9_isSlot_9 hQ hG
theorem c_X9_isSlot {x1 : Int32} {r : Int}  (hg : g_X9_isSlot x1.toInt = some r) : Met l yX9_isSlot (wsM yX9_isSlot cX9_isSlot 1 (some .boolean)) rm_X9_isSlot (va_Pc [.int x1] (World E ad shl h)) (QcI E ad shl r h) 0 0 (bsA E) :=
  met_of (L0 := [some (.int x1)]) rfl rfl rfl (Nat.le_of_ble_eq_true rfl) (fun _ _ _ _ _ _ _ X => w_X9_isSlot  X rfl hg)
abbrev rm_X9_keep : Room := { frames := 2, cells := 0, slots := 0, locals := 45 }
theorem hdd_X9_keep : yX9_keep.cls = RX9 ∧ yX9_keep.cls ≠ "java/lang/invoke/MethodHandle" ∧ yX9_keep.cls ≠ "java/lang/invoke/VarHandle" ∧ (parseMethodDescriptor yX9_keep.desc).map (fun d => d.parameters.length) = some 1 := ⟨rfl, by decide +kernel, by decide +kernel, by decide +kernel⟩
set_option maxRecDepth 100000 in
set_option maxHeartbeats 4000000 in
theorem w_X9_keep {x1 : Int32} {r : Int × Hp} (Hb0 : At_X9 shl) (X : Cx E p s m args meth c cX9_keep RX9 3 (some .int)) (hQ : Q = MQ below (QcI E ad shl r.1 r.2) args s 0 0 (bsA E)) (hG : g_X9_keep x1.toInt h = some r) : Ev E ad shl p l e rm_X9_keep s m args below meth c 0 0 Q 3 h 0 [some (.ref (ad 100)), some (.int x1), none] [] := by
  unfold g_X9_keep at hG
  refine r_iload_n (pc := 0) X dX9_keep_0 rfl rfl ?_
  refine r_cP (pc := 1) hG (fun _ hg => runS X dX9_keep_1 (c_X9_isSlot  hg) mM_X9_432 mS_X9_isSlot mN_X9 mK_X9_isSlot rfl rfl hdd_X9_isSlot ⟨(Nat.le_of_ble_eq_true rfl), (Nat.le_of_ble_eq_true rfl)⟩ rfl rfl (Nat.le_of_ble_eq_true rfl) ⟨(Nat.le_of_ble_eq_true rfl), (Nat.le_of_ble_eq_true rfl)⟩) (fun z1 hG => ?_)
  refine r_if_ne (pc := 4) X dX9_keep_4 (tgt := 10) (by decide) hG (fun hG => ?_) (fun hG => ?_)
  · skip
    refine r_iconst (pc := 10) X dX9_keep_10 hG rfl (fun z2 hG => ?_)
    refine r_istore_n (pc := 11) (L' := [some (.ref (ad 100)), some (.int x1), some (.int z2)]) X dX9_keep_11 rfl (by decide) rfl rfl ?_
    refine r_join hG (fun a3 => ∀ (h5 : Hp), a3 = h5 → Ev E ad shl p l e rm_X9_keep s m args below meth c 0 0 Q 3 h5 43 [some (.ref (ad 100)), some (.int x1), none] []) (fun a3 hG => ?_) (fun j4 Hj4 hG => ?_)
    · skip
      intro h5 ha; have ha := ha.symm; subst ha
      refine r_aload_n (pc := 43) X dX9_keep_43 rfl rfl ?_
      refine r_getC (pc := 44) X (at_X9_o Hb0) rfl mU_X9 (k := 49) (by decide) (q := 124) rfl mF_X9_278 dX9_keep_44 ?_
      refine r_iload_n (pc := 47) X dX9_keep_47 rfl rfl ?_
      refine r_iconst (pc := 48) X dX9_keep_48 hG rfl (fun z6 hG => ?_)
      refine r_zast (pc := 49) X (at_X9_isKept Hb0) dX9_keep_49 hG (fun h7 hG => ?_)
      refine r_aload_n (pc := 50) X dX9_keep_50 rfl rfl ?_
      refine r_getC (pc := 51) X (at_X9_o Hb0) rfl mU_X9 (k := 46) (by decide) (q := 121) rfl mF_X9_269 dX9_keep_51 ?_
      refine r_sipush (pc := 54) X dX9_keep_54 hG (by decide) (fun z8 hG => ?_)
      refine r_iald (pc := 57) X (at_X9_now Hb0) dX9_keep_57 hG (fun z9 hG => ?_)
      exact r_iretW (pc := 58) X dX9_keep_58 hQ hG
    refine r_mask [true, true, true] rfl (r_loop (fun q10 => ∀ (y12 : Int32) (h13 : Hp), q10 = (y12.toInt, h13) → Ev E ad shl p l e rm_X9_keep s m args below meth c 0 0 Q 3 h13 12 [some (.ref (ad 100)), some (.int x1), some (.int y12)] []) (fun l11 Hl11 q10 hG => ?_) FU _ hG z2 h rfl)
    intro y12 h13 ha; have ha := ha.symm; subst ha
    unfold g_X9_keep_l11 at hG
    refine r_iload_n (pc := 12) X dX9_keep_12 rfl rfl ?_
    refine r_sipush (pc := 13) X dX9_keep_13 hG (by decide) (fun z14 hG => ?_)
    refine r_icmp_ge (pc := 16) X dX9_keep_16 (tgt := 43) (by decide) hG (fun hG => ?_) (fun hG => ?_)
    · skip
      exact r_mask [true, true, false] rfl (Hj4 _ hG h13 rfl)
    · skip
      refine r_aload_n (pc := 19) X dX9_keep_19 rfl rfl ?_
      refine r_getC (pc := 20) X (at_X9_o Hb0) rfl mU_X9 (k := 48) (by decide) (q := 123) rfl mF_X9_275 dX9_keep_20 ?_
      refine r_sipush (pc := 23) X dX9_keep_23 hG (by decide) (fun z15 hG => ?_)
      refine r_iload_n (pc := 26) X dX9_keep_26 rfl rfl ?_
      refine r_imul (pc := 27) X dX9_keep_27 hG (fun z16 hG => ?_)
      refine r_iload_n (pc := 28) X dX9_keep_28 rfl rfl ?_
      refine r_iadd (pc := 29) X dX9_keep_29 hG (fun z17 hG => ?_)
      refine r_aload_n (pc := 30) X dX9_keep_30 rfl rfl ?_
      refine r_getC (pc := 31) X (at_X9_o Hb0) rfl mU_X9 (k := 46) (by decide) (q := 121) rfl mF_X9_269 dX9_keep_31 ?_
      refine r_iload_n (pc := 34) X dX9_keep_34 rfl rfl ?_
      refine r_iald (pc := 35) X (at_X9_now Hb0) dX9_keep_35 hG (fun z18 hG => ?_)
      refine r_iast (pc := 36) X (at_X9_kept Hb0) dX9_keep_36 hG (fun h19 hG => ?_)
      refine r_iinc (pc := 37) (L' := fun z20 => [some (.ref (ad 100)), some (.int x1), some (.int z20)]) X dX9_keep_37 (by decide) rfl rfl (by decide) (fun _ => rfl) hG (fun z20 hG => ?_)
      refine r_goto (pc := 40) X dX9_keep_40 (tgt := 12) (by decide) ?_
      exact r_mask [true, true, true] rfl (Hl11 _ hG z20 h19 rfl)
  · skip
    refine r_bipush (pc := 7) X dX9_keep_7 hG (by decide) (fun z21 hG => ?_)
    exact r_iretW (pc := 9) X dX9_keep_9 hQ hG
theorem c_X9_keep {x1 : Int32} {r : Int × Hp} (Hb0 : At_X9 shl) (hg : g_X9_keep x1.toInt h = some r) : Met l yX9_keep (wsM yX9_keep cX9_keep 3 (some .int)) rm_X9_keep (va_Pc [.ref (ad 100), .int x1] (World E ad shl h)) (QcI E ad shl r.1 r.2) 0 0 (bsA E) :=
  met_of (L0 := [some (.ref (ad 100)), some (.int x1), none]) rfl rfl rfl (Nat.le_of_ble_eq_true rfl) (fun _ _ _ _ _ _ _ X => w_X9_keep Hb0 X rfl hg)
abbrev rm_X9_take : Room := { frames := 2, cells := 0, slots := 0, locals := 45 }
theorem hdd_X9_take : yX9_take.cls = RX9 ∧ yX9_take.cls ≠ "java/lang/invoke/MethodHandle" ∧ yX9_take.cls ≠ "java/lang/invoke/VarHandle" ∧ (parseMethodDescriptor yX9_take.desc).map (fun d => d.parameters.length) = some 1 := ⟨rfl, by decide +kernel, by decide +kernel, by decide +kernel⟩
set_option maxRecDepth 100000 in
set_option maxHeartbeats 4000000 in
theorem w_X9_take {x1 : Int32} {r : Int × Hp} (Hb0 : At_X9 shl) (X : Cx E p s m args meth c cX9_take RX9 3 (some .int)) (hQ : Q = MQ below (QcI E ad shl r.1 r.2) args s 0 0 (bsA E)) (hG : g_X9_take x1.toInt h = some r) : Ev E ad shl p l e rm_X9_take s m args below meth c 0 0 Q 3 h 0 [some (.ref (ad 100)), some (.int x1), none] [] := by
  unfold g_X9_take at hG
  refine r_iload_n (pc := 0) X dX9_take_0 rfl rfl ?_
  refine r_cP (pc := 1) hG (fun _ hg => runS X dX9_take_1 (c_X9_isSlot  hg) mM_X9_432 mS_X9_isSlot mN_X9 mK_X9_isSlot rfl rfl hdd_X9_isSlot ⟨(Nat.le_of_ble_eq_true rfl), (Nat.le_of_ble_eq_true rfl)⟩ rfl rfl (Nat.le_of_ble_eq_true rfl) ⟨(Nat.le_of_ble_eq_true rfl), (Nat.le_of_ble_eq_true rfl)⟩) (fun z1 hG => ?_)
  refine r_if_ne (pc := 4) X dX9_take_4 (tgt := 10) (by decide) hG (fun hG => ?_) (fun hG => ?_)
  · skip
    refine r_aload_n (pc := 10) X dX9_take_10 rfl rfl ?_
    refine r_getC (pc := 11) X (at_X9_o Hb0) rfl mU_X9 (k := 49) (by decide) (q := 124) rfl mF_X9_278 dX9_take_11 ?_
    refine r_iload_n (pc := 14) X dX9_take_14 rfl rfl ?_
    refine r_zald (pc := 15) X (at_X9_isKept Hb0) dX9_take_15 hG (fun z2 hG => ?_)
    refine r_if_ne (pc := 16) X dX9_take_16 (tgt := 22) (by decide) hG (fun hG => ?_) (fun hG => ?_)
    · skip
      refine r_iconst (pc := 22) X dX9_take_22 hG rfl (fun z3 hG => ?_)
      refine r_istore_n (pc := 23) (L' := [some (.ref (ad 100)), some (.int x1), some (.int z3)]) X dX9_take_23 rfl (by decide) rfl rfl ?_
      refine r_mask [true, true, true] rfl (r_loop (fun q4 => ∀ (y6 : Int32) (h7 : Hp), q4 = (y6.toInt, h7) → Ev E ad shl p l e rm_X9_take s m args below meth c 0 0 Q 3 h7 24 [some (.ref (ad 100)), some (.int x1), some (.int y6)] []) (fun l5 Hl5 q4 hG => ?_) FU _ hG z3 h rfl)
      intro y6 h7 ha; have ha := ha.symm; subst ha
      unfold g_X9_take_l5 at hG
      refine r_iload_n (pc := 24) X dX9_take_24 rfl rfl ?_
      refine r_sipush (pc := 25) X dX9_take_25 hG (by decide) (fun z8 hG => ?_)
      refine r_icmp_ge (pc := 28) X dX9_take_28 (tgt := 55) (by decide) hG (fun hG => ?_) (fun hG => ?_)
      · skip
        refine r_aload_n (pc := 55) X dX9_take_55 rfl rfl ?_
        refine r_getC (pc := 56) X (at_X9_o Hb0) rfl mU_X9 (k := 46) (by decide) (q := 121) rfl mF_X9_269 dX9_take_56 ?_
        refine r_sipush (pc := 59) X dX9_take_59 hG (by decide) (fun z9 hG => ?_)
        refine r_iald (pc := 62) X (at_X9_now Hb0) dX9_take_62 hG (fun z10 hG => ?_)
        exact r_iretW (pc := 63) X dX9_take_63 hQ hG
      · skip
        refine r_aload_n (pc := 31) X dX9_take_31 rfl rfl ?_
        refine r_getC (pc := 32) X (at_X9_o Hb0) rfl mU_X9 (k := 46) (by decide) (q := 121) rfl mF_X9_269 dX9_take_32 ?_
        refine r_iload_n (pc := 35) X dX9_take_35 rfl rfl ?_
        refine r_aload_n (pc := 36) X dX9_take_36 rfl rfl ?_
        refine r_getC (pc := 37) X (at_X9_o Hb0) rfl mU_X9 (k := 48) (by decide) (q := 123) rfl mF_X9_275 dX9_take_37 ?_
        refine r_sipush (pc := 40) X dX9_take_40 hG (by decide) (fun z11 hG => ?_)
        refine r_iload_n (pc := 43) X dX9_take_43 rfl rfl ?_
        refine r_imul (pc := 44) X dX9_take_44 hG (fun z12 hG => ?_)
        refine r_iload_n (pc := 45) X dX9_take_45 rfl rfl ?_
        refine r_iadd (pc := 46) X dX9_take_46 hG (fun z13 hG => ?_)
        refine r_iald (pc := 47) X (at_X9_kept Hb0) dX9_take_47 hG (fun z14 hG => ?_)
        refine r_iast (pc := 48) X (at_X9_now Hb0) dX9_take_48 hG (fun h15 hG => ?_)
        refine r_iinc (pc := 49) (L' := fun z16 => [some (.ref (ad 100)), some (.int x1), some (.int z16)]) X dX9_take_49 (by decide) rfl rfl (by decide) (fun _ => rfl) hG (fun z16 hG => ?_)
        refine r_goto (pc := 52) X dX9_take_52 (tgt := 24) (by decide) ?_
        exact r_mask [true, true, true] rfl (Hl5 _ hG z16 h15 rfl)
    · skip
      refine r_bipush (pc := 19) X dX9_take_19 hG (by decide) (fun z17 hG => ?_)
      exact r_iretW (pc := 21) X dX9_take_21 hQ hG
  · skip
    refine r_bipush (pc := 7) X dX9_take_7 hG (by decide) (fun z18 hG => ?_)
    exact r_iretW (pc := 9) X dX9_take_9 hQ hG
theorem c_X9_take {x1 : Int32} {r : Int × Hp} (Hb0 : At_X9 shl) (hg : g_X9_take x1.toInt h = some r) : Met l yX9_take (wsM yX9_take cX9_take 3 (some .int)) rm_X9_take (va_Pc [.ref (ad 100), .int x1] (World E ad shl h)) (QcI E ad shl r.1 r.2) 0 0 (bsA E) :=
  met_of (L0 := [some (.ref (ad 100)), some (.int x1), none]) rfl rfl rfl (Nat.le_of_ble_eq_true rfl) (fun _ _ _ _ _ _ _ X => w_X9_take Hb0 X rfl hg)
abbrev rm_X9_isSand : Room := { frames := 1, cells := 0, slots := 0, locals := 25 }
theorem hdd_X9_isSand : yX9_isSand.cls ≠ "java/lang/invoke/MethodHandle" ∧ yX9_isSand.cls ≠ "java/lang/invoke/VarHandle" ∧ (parseMethodDescriptor yX9_isSand.desc).map (fun d => d.parameters.length) = some 2 := ⟨by decide +kernel, by decide +kernel, by decide +kernel⟩
set_option maxRecDepth 100000 in
set_option maxHeartbeats 4000000 in
theorem w_X9_isSand {x1 : Int32} {x2 : Int32} {r : Int}  (X : Cx E p s m args meth c cX9_isSand RX9 2 (some .boolean)) (hQ : Q = MQ below (QcI E ad shl r h) args s 0 0 (bsA E)) (hG : g_X9_isSand x1.toInt x2.toInt = some r) : Ev E ad shl p l e rm_X9_isSand s m args below meth c 0 0 Q 2 h 0 [some (.int x1), some (.int x2)] [] := by
  unfold g_X9_isSand at hG
  refine r_iload_n (pc := 0) X dX9_isSand_0 rfl rfl ?_
  refine r_i2l (pc := 1) X dX9_isSand_1 hG (fun z1 hG => ?_)
  refine r_lconst (pc := 2) X dX9_isSand_2 hG (by decide) (fun z2 hG => ?_)
  refine r_ldc2 (pc := 3) X dX9_isSand_3 mW_X9_349 hG (by decide) (fun z3 hG => ?_)
  refine r_cP (pc := 6) hG (fun _ hg => runS X dX9_isSand_6 (c_X9_in  hg) mM_X9_52 mS_X9_in mN_X9 mK_X9_in rfl rfl hdd_X9_in ⟨(Nat.le_of_ble_eq_true rfl), (Nat.le_of_ble_eq_true rfl)⟩ rfl rfl (Nat.le_of_ble_eq_true rfl) ⟨(Nat.le_of_ble_eq_true rfl), (Nat.le_of_ble_eq_true rfl)⟩) (fun z4 hG => ?_)
  refine r_join hG (fun a5 => ∀ (y7 : Int32), a5 = y7.toInt → Ev E ad shl p l e rm_X9_isSand s m args below meth c 0 0 Q 2 h 29 [none, none] [.int y7]) (fun a5 hG => ?_) (fun j6 Hj6 hG => ?_)
  · skip
    intro y7 ha; have ha := ha.symm; subst ha
    exact r_zretP (pc := 29) X dX9_isSand_29 hQ hG
  refine r_join hG (fun _ => Ev E ad shl p l e rm_X9_isSand s m args below meth c 0 0 Q 2 h 28 [none, none] []) (fun a8 hG => ?_) (fun j9 Hj9 hG => ?_)
  · skip
    refine r_iconst (pc := 28) X dX9_isSand_28 hG rfl (fun z10 hG => ?_)
    exact r_mask [false, false] rfl (Hj6 _ hG z10 rfl)
  refine r_if_eq (pc := 9) X dX9_isSand_9 (tgt := 28) (by decide) hG (fun hG => ?_) (fun hG => ?_)
  · skip
    exact r_mask [false, false] rfl (Hj9 _ hG)
  · skip
    refine r_iload_n (pc := 12) X dX9_isSand_12 rfl rfl ?_
    refine r_i2l (pc := 13) X dX9_isSand_13 hG (fun z11 hG => ?_)
    refine r_lconst (pc := 14) X dX9_isSand_14 hG (by decide) (fun z12 hG => ?_)
    refine r_ldc2 (pc := 15) X dX9_isSand_15 mW_X9_425 hG (by decide) (fun z13 hG => ?_)
    refine r_cP (pc := 18) hG (fun _ hg => runS X dX9_isSand_18 (c_X9_in  hg) mM_X9_52 mS_X9_in mN_X9 mK_X9_in rfl rfl hdd_X9_in ⟨(Nat.le_of_ble_eq_true rfl), (Nat.le_of_ble_eq_true rfl)⟩ rfl rfl (Nat.le_of_ble_eq_true rfl) ⟨(Nat.le_of_ble_eq_true rfl), (Nat.le_of_ble_eq_true rfl)⟩) (fun z14 hG => ?_)
    refine r_if_eq (pc := 21) X dX9_isSand_21 (tgt := 28) (by decide) hG (fun hG => ?_) (fun hG => ?_)
    · skip
      exact r_mask [false, false] rfl (Hj9 _ hG)
    · skip
      refine r_iconst (pc := 24) X dX9_isSand_24 hG rfl (fun z15 hG => ?_)
      refine r_goto (pc := 25) X dX9_isSand_25 (tgt := 29) (by decide) ?_
      exact r_mask [false, false] rfl (Hj6 _ hG z15 rfl)
theorem c_X9_isSand {x1 : Int32} {x2 : Int32} {r : Int}  (hg : g_X9_isSand x1.toInt x2.toInt = some r) : Met l yX9_isSand (wsM yX9_isSand cX9_isSand 2 (some .boolean)) rm_X9_isSand (va_Pc [.int x1, .int x2] (World E ad shl h)) (QcI E ad shl r h) 0 0 (bsA E) :=
  met_of (L0 := [some (.int x1), some (.int x2)]) rfl rfl rfl (Nat.le_of_ble_eq_true rfl) (fun _ _ _ _ _ _ _ X => w_X9_isSand  X rfl hg)
abbrev rm_X9_holds : Room := { frames := 3, cells := 0, slots := 0, locals := 64 }
theorem hdd_X9_holds : yX9_holds.cls = RX9 ∧ yX9_holds.cls ≠ "java/lang/invoke/MethodHandle" ∧ yX9_holds.cls ≠ "java/lang/invoke/VarHandle" ∧ (parseMethodDescriptor yX9_holds.desc).map (fun d => d.parameters.length) = some 2 := ⟨rfl, by decide +kernel, by decide +kernel, by decide +kernel⟩
set_option maxRecDepth 100000 in
set_option maxHeartbeats 4000000 in
theorem w_X9_holds {x1 : Int32} {x2 : Int32} {r : Int} (Hb0 : At_X9 shl) (X : Cx E p s m args meth c cX9_holds RX9 3 (some .int)) (hQ : Q = MQ below (QcI E ad shl r h) args s 0 0 (bsA E)) (hG : g_X9_holds x1.toInt x2.toInt h = some r) : Ev E ad shl p l e rm_X9_holds s m args below meth c 0 0 Q 3 h 0 [some (.ref (ad 100)), some (.int x1), some (.int x2)] [] := by
  unfold g_X9_holds at hG
  refine r_iload_n (pc := 0) X dX9_holds_0 rfl rfl ?_
  refine r_iload_n (pc := 1) X dX9_holds_1 rfl rfl ?_
  refine r_cP (pc := 2) hG (fun _ hg => runS X dX9_holds_2 (c_X9_isSand  hg) mM_X9_435 mS_X9_isSand mN_X9 mK_X9_isSand rfl rfl hdd_X9_isSand ⟨(Nat.le_of_ble_eq_true rfl), (Nat.le_of_ble_eq_true rfl)⟩ rfl rfl (Nat.le_of_ble_eq_true rfl) ⟨(Nat.le_of_ble_eq_true rfl), (Nat.le_of_ble_eq_true rfl)⟩) (fun z1 hG => ?_)
  refine r_join hG (fun a2 => ∀ (y4 : Int32), a2 = y4.toInt → Ev E ad shl p l e rm_X9_holds s m args below meth c 0 0 Q 3 h 19 [none, none, none] [.int y4]) (fun a2 hG => ?_) (fun j3 Hj3 hG => ?_)
  · skip
    intro y4 ha; have ha := ha.symm; subst ha
    exact r_iretP (pc := 19) X dX9_holds_19 hQ hG
  refine r_if_eq (pc := 5) X dX9_holds_5 (tgt := 17) (by decide) hG (fun hG => ?_) (fun hG => ?_)
  · skip
    refine r_bipush (pc := 17) X dX9_holds_17 hG (by decide) (fun z5 hG => ?_)
    exact r_mask [false, false, false] rfl (Hj3 _ hG z5 rfl)
  · skip
    refine r_aload_n (pc := 8) X dX9_holds_8 rfl rfl ?_
    refine r_iload_n (pc := 9) X dX9_holds_9 rfl rfl ?_
    refine r_iload_n (pc := 10) X dX9_holds_10 rfl rfl ?_
    refine r_cP (pc := 11) hG (fun _ hg => runV X dX9_holds_11 (c_X9_holdsOf Hb0 hg) mM_X9_395 mI_X9_holdsOf mE_X9_holdsOf mN_X9 mK_X9_holdsOf (at_X9_o Hb0) rfl rfl rfl rfl hdd_X9_holdsOf ⟨(Nat.le_of_ble_eq_true rfl), (Nat.le_of_ble_eq_true rfl)⟩ rfl rfl (Nat.le_of_ble_eq_true rfl) ⟨(Nat.le_of_ble_eq_true rfl), (Nat.le_of_ble_eq_true rfl)⟩) (fun z6 hG => ?_)
    refine r_goto (pc := 14) X dX9_holds_14 (tgt := 19) (by decide) ?_
    exact r_mask [false, false, false] rfl (Hj3 _ hG z6 rfl)
theorem c_X9_holds {x1 : Int32} {x2 : Int32} {r : Int} (Hb0 : At_X9 shl) (hg : g_X9_holds x1.toInt x2.toInt h = some r) : Met l yX9_holds (wsM yX9_holds cX9_holds 3 (some .int)) rm_X9_holds (va_Pc [.ref (ad 100), .int x1, .int x2] (World E ad shl h)) (QcI E ad shl r h) 0 0 (bsA E) :=
  met_of (L0 := [some (.ref (ad 100)), some (.int x1), some (.int x2)]) rfl rfl rfl (Nat.le_of_ble_eq_true rfl) (fun _ _ _ _ _ _ _ X => w_X9_holds Hb0 X rfl hg)
abbrev rm_X9_high : Room := { frames := 3, cells := 0, slots := 0, locals := 64 }
theorem hdd_X9_high : yX9_high.cls = RX9 ∧ yX9_high.cls ≠ "java/lang/invoke/MethodHandle" ∧ yX9_high.cls ≠ "java/lang/invoke/VarHandle" ∧ (parseMethodDescriptor yX9_high.desc).map (fun d => d.parameters.length) = some 3 := ⟨rfl, by decide +kernel, by decide +kernel, by decide +kernel⟩
set_option maxRecDepth 100000 in
set_option maxHeartbeats 4000000 in
theorem w_X9_high {x1 : Int32} {x2 : Int32} {x3 : Int32} {r : Int} (Hb0 : At_X9 shl) (X : Cx E p s m args meth c cX9_high RX9 4 (some .int)) (hQ : Q = MQ below (QcI E ad shl r h) args s 0 0 (bsA E)) (hG : g_X9_high x1.toInt x2.toInt x3.toInt h = some r) : Ev E ad shl p l e rm_X9_high s m args below meth c 0 0 Q 4 h 0 [some (.ref (ad 100)), some (.int x1), some (.int x2), some (.int x3)] [] := by
  unfold g_X9_high at hG
  refine r_iload_n (pc := 0) X dX9_high_0 rfl rfl ?_
  refine r_i2l (pc := 1) X dX9_high_1 hG (fun z1 hG => ?_)
  refine r_lconst (pc := 2) X dX9_high_2 hG (by decide) (fun z2 hG => ?_)
  refine r_ldc2 (pc := 3) X dX9_high_3 mW_X9_438 hG (by decide) (fun z3 hG => ?_)
  refine r_cP (pc := 6) hG (fun _ hg => runS X dX9_high_6 (c_X9_in  hg) mM_X9_52 mS_X9_in mN_X9 mK_X9_in rfl rfl hdd_X9_in ⟨(Nat.le_of_ble_eq_true rfl), (Nat.le_of_ble_eq_true rfl)⟩ rfl rfl (Nat.le_of_ble_eq_true rfl) ⟨(Nat.le_of_ble_eq_true rfl), (Nat.le_of_ble_eq_true rfl)⟩) (fun z4 hG => ?_)
  refine r_join hG (fun a5 => ∀ (y7 : Int32), a5 = y7.toInt → Ev E ad shl p l e rm_X9_high s m args below meth c 0 0 Q 4 h 37 [none, none, none, none] [.int y7]) (fun a5 hG => ?_) (fun j6 Hj6 hG => ?_)
  · skip
    intro y7 ha; have ha := ha.symm; subst ha
    exact r_iretP (pc := 37) X dX9_high_37 hQ hG
  refine r_join hG (fun _ => Ev E ad shl p l e rm_X9_high s m args below meth c 0 0 Q 4 h 35 [none, none, none, none] []) (fun a8 hG => ?_) (fun j9 Hj9 hG => ?_)
  · skip
    refine r_bipush (pc := 35) X dX9_high_35 hG (by decide) (fun z10 hG => ?_)
    exact r_mask [false, false, false, false] rfl (Hj6 _ hG z10 rfl)
  refine r_if_eq (pc := 9) X dX9_high_9 (tgt := 35) (by decide) hG (fun hG => ?_) (fun hG => ?_)
  · skip
    exact r_mask [false, false, false, false] rfl (Hj9 _ hG)
  · skip
    refine r_iload_n (pc := 12) X dX9_high_12 rfl rfl ?_
    refine r_iload_n (pc := 13) X dX9_high_13 rfl rfl ?_
    refine r_cP (pc := 14) hG (fun _ hg => runS X dX9_high_14 (c_X9_isSand  hg) mM_X9_435 mS_X9_isSand mN_X9 mK_X9_isSand rfl rfl hdd_X9_isSand ⟨(Nat.le_of_ble_eq_true rfl), (Nat.le_of_ble_eq_true rfl)⟩ rfl rfl (Nat.le_of_ble_eq_true rfl) ⟨(Nat.le_of_ble_eq_true rfl), (Nat.le_of_ble_eq_true rfl)⟩) (fun z11 hG => ?_)
    refine r_if_eq (pc := 17) X dX9_high_17 (tgt := 35) (by decide) hG (fun hG => ?_) (fun hG => ?_)
    · skip
      exact r_mask [false, false, false, false] rfl (Hj9 _ hG)
    · skip
      refine r_iload_n (pc := 20) X dX9_high_20 rfl rfl ?_
      refine r_iconst (pc := 21) X dX9_high_21 hG rfl (fun z12 hG => ?_)
      refine r_iadd (pc := 22) X dX9_high_22 hG (fun z13 hG => ?_)
      refine r_iconst (pc := 23) X dX9_high_23 hG rfl (fun z14 hG => ?_)
      refine r_idiv (pc := 24) X dX9_high_24 hG (fun z15 hG => ?_)
      refine r_aload_n (pc := 25) X dX9_high_25 rfl rfl ?_
      refine r_iload_n (pc := 26) X dX9_high_26 rfl rfl ?_
      refine r_iload_n (pc := 27) X dX9_high_27 rfl rfl ?_
      refine r_cP (pc := 28) hG (fun _ hg => runV X dX9_high_28 (c_X9_holdsOf Hb0 hg) mM_X9_395 mI_X9_holdsOf mE_X9_holdsOf mN_X9 mK_X9_holdsOf (at_X9_o Hb0) rfl rfl rfl rfl hdd_X9_holdsOf ⟨(Nat.le_of_ble_eq_true rfl), (Nat.le_of_ble_eq_true rfl)⟩ rfl rfl (Nat.le_of_ble_eq_true rfl) ⟨(Nat.le_of_ble_eq_true rfl), (Nat.le_of_ble_eq_true rfl)⟩) (fun z16 hG => ?_)
      refine r_imul (pc := 31) X dX9_high_31 hG (fun z17 hG => ?_)
      refine r_goto (pc := 32) X dX9_high_32 (tgt := 37) (by decide) ?_
      exact r_mask [false, false, false, false] rfl (Hj6 _ hG z17 rfl)
theorem c_X9_high {x1 : Int32} {x2 : Int32} {x3 : Int32} {r : Int} (Hb0 : At_X9 shl) (hg : g_X9_high x1.toInt x2.toInt x3.toInt h = some r) : Met l yX9_high (wsM yX9_high cX9_high 4 (some .int)) rm_X9_high (va_Pc [.ref (ad 100), .int x1, .int x2, .int x3] (World E ad shl h)) (QcI E ad shl r h) 0 0 (bsA E) :=
  met_of (L0 := [some (.ref (ad 100)), some (.int x1), some (.int x2), some (.int x3)]) rfl rfl rfl (Nat.le_of_ble_eq_true rfl) (fun _ _ _ _ _ _ _ X => w_X9_high Hb0 X rfl hg)
abbrev rm_X9_spill : Room := { frames := 3, cells := 0, slots := 0, locals := 64 }
theorem hdd_X9_spill : yX9_spill.cls = RX9 ∧ yX9_spill.cls ≠ "java/lang/invoke/MethodHandle" ∧ yX9_spill.cls ≠ "java/lang/invoke/VarHandle" ∧ (parseMethodDescriptor yX9_spill.desc).map (fun d => d.parameters.length) = some 4 := ⟨rfl, by decide +kernel, by decide +kernel, by decide +kernel⟩
set_option maxRecDepth 100000 in
set_option maxHeartbeats 4000000 in
theorem w_X9_spill {x1 : Int32} {x2 : Int32} {x3 : Int32} {x4 : Int32} {r : Int × Hp} (Hb0 : At_X9 shl) (X : Cx E p s m args meth c cX9_spill RX9 9 (some .int)) (hQ : Q = MQ below (QcI E ad shl r.1 r.2) args s 0 0 (bsA E)) (hG : g_X9_spill x1.toInt x2.toInt x3.toInt x4.toInt h = some r) : Ev E ad shl p l e rm_X9_spill s m args below meth c 0 0 Q 9 h 0 [some (.ref (ad 100)), some (.int x1), some (.int x2), some (.int x3), some (.int x4), none, none, none, none] [] := by
  unfold g_X9_spill at hG
  refine r_iload_n (pc := 0) X dX9_spill_0 rfl rfl ?_
  refine r_i2l (pc := 1) X dX9_spill_1 hG (fun z1 hG => ?_)
  refine r_lconst (pc := 2) X dX9_spill_2 hG (by decide) (fun z2 hG => ?_)
  refine r_ldc2 (pc := 3) X dX9_spill_3 mW_X9_440 hG (by decide) (fun z3 hG => ?_)
  refine r_cP (pc := 6) hG (fun _ hg => runS X dX9_spill_6 (c_X9_in  hg) mM_X9_52 mS_X9_in mN_X9 mK_X9_in rfl rfl hdd_X9_in ⟨(Nat.le_of_ble_eq_true rfl), (Nat.le_of_ble_eq_true rfl)⟩ rfl rfl (Nat.le_of_ble_eq_true rfl) ⟨(Nat.le_of_ble_eq_true rfl), (Nat.le_of_ble_eq_true rfl)⟩) (fun z4 hG => ?_)
  refine r_join hG (fun _ => Ev E ad shl p l e rm_X9_spill s m args below meth c 0 0 Q 9 h 33 [none, none, none, none, none, none, none, none, none] []) (fun a5 hG => ?_) (fun j6 Hj6 hG => ?_)
  · skip
    refine r_bipush (pc := 33) X dX9_spill_33 hG (by decide) (fun z7 hG => ?_)
    exact r_iretW (pc := 35) X dX9_spill_35 hQ hG
  refine r_if_eq (pc := 9) X dX9_spill_9 (tgt := 33) (by decide) hG (fun hG => ?_) (fun hG => ?_)
  · skip
    exact r_mask [false, false, false, false, false, false, false, false, false] rfl (Hj6 _ hG)
  · skip
    refine r_iload_n (pc := 12) X dX9_spill_12 rfl rfl ?_
    refine r_iload_n (pc := 13) X dX9_spill_13 rfl rfl ?_
    refine r_cP (pc := 14) hG (fun _ hg => runS X dX9_spill_14 (c_X9_isSand  hg) mM_X9_435 mS_X9_isSand mN_X9 mK_X9_isSand rfl rfl hdd_X9_isSand ⟨(Nat.le_of_ble_eq_true rfl), (Nat.le_of_ble_eq_true rfl)⟩ rfl rfl (Nat.le_of_ble_eq_true rfl) ⟨(Nat.le_of_ble_eq_true rfl), (Nat.le_of_ble_eq_true rfl)⟩) (fun z8 hG => ?_)
    refine r_if_eq (pc := 17) X dX9_spill_17 (tgt := 33) (by decide) hG (fun hG => ?_) (fun hG => ?_)
    · skip
      exact r_mask [false, false, false, false, false, false, false, false, false] rfl (Hj6 _ hG)
    · skip
      refine r_iload (pc := 20) X dX9_spill_20 rfl ?_
      refine r_i2l (pc := 22) X dX9_spill_22 hG (fun z9 hG => ?_)
      refine r_lconst (pc := 23) X dX9_spill_23 hG (by decide) (fun z10 hG => ?_)
      refine r_ldc2 (pc := 24) X dX9_spill_24 mW_X9_442 hG (by decide) (fun z11 hG => ?_)
      refine r_cP (pc := 27) hG (fun _ hg => runS X dX9_spill_27 (c_X9_in  hg) mM_X9_52 mS_X9_in mN_X9 mK_X9_in rfl rfl hdd_X9_in ⟨(Nat.le_of_ble_eq_true rfl), (Nat.le_of_ble_eq_true rfl)⟩ rfl rfl (Nat.le_of_ble_eq_true rfl) ⟨(Nat.le_of_ble_eq_true rfl), (Nat.le_of_ble_eq_true rfl)⟩) (fun z12 hG => ?_)
      refine r_if_ne (pc := 30) X dX9_spill_30 (tgt := 36) (by decide) hG (fun hG => ?_) (fun hG => ?_)
      · skip
        refine r_aload_n (pc := 36) X dX9_spill_36 rfl rfl ?_
        refine r_iload_n (pc := 37) X dX9_spill_37 rfl rfl ?_
        refine r_iload_n (pc := 38) X dX9_spill_38 rfl rfl ?_
        refine r_cP (pc := 39) hG (fun _ hg => runV X dX9_spill_39 (c_X9_holdsOf Hb0 hg) mM_X9_395 mI_X9_holdsOf mE_X9_holdsOf mN_X9 mK_X9_holdsOf (at_X9_o Hb0) rfl rfl rfl rfl hdd_X9_holdsOf ⟨(Nat.le_of_ble_eq_true rfl), (Nat.le_of_ble_eq_true rfl)⟩ rfl rfl (Nat.le_of_ble_eq_true rfl) ⟨(Nat.le_of_ble_eq_true rfl), (Nat.le_of_ble_eq_true rfl)⟩) (fun z13 hG => ?_)
        refine r_istore (pc := 42) (L' := [some (.ref (ad 100)), some (.int x1), some (.int x2), some (.int x3), some (.int x4), some (.int z13), none, none, none]) X dX9_spill_42 (by decide) rfl rfl ?_
        refine r_iconst (pc := 44) X dX9_spill_44 hG rfl (fun z14 hG => ?_)
        refine r_istore (pc := 45) (L' := [some (.ref (ad 100)), some (.int x1), some (.int x2), some (.int x3), some (.int x4), some (.int z13), some (.int z14), none, none]) X dX9_spill_45 (by decide) rfl rfl ?_
        refine r_join hG (fun a15 => ∀ (h17 : Hp), a15 = h17 → Ev E ad shl p l e rm_X9_spill s m args below meth c 0 0 Q 9 h17 78 [some (.ref (ad 100)), none, none, none, some (.int x4), some (.int z13), none, none, none] []) (fun a15 hG => ?_) (fun j16 Hj16 hG => ?_)
        · skip
          intro h17 ha; have ha := ha.symm; subst ha
          refine r_iconst (pc := 78) X dX9_spill_78 hG rfl (fun z18 hG => ?_)
          refine r_istore (pc := 79) (L' := [some (.ref (ad 100)), none, none, none, some (.int x4), some (.int z13), some (.int z18), none, none]) X dX9_spill_79 (by decide) rfl rfl ?_
          refine r_mask [true, false, false, false, true, true, true, false, false] rfl (r_loop (fun q19 => ∀ (y21 : Int32) (h22 : Hp), q19 = (y21.toInt, h22) → Ev E ad shl p l e rm_X9_spill s m args below meth c 0 0 Q 9 h22 81 [some (.ref (ad 100)), none, none, none, some (.int x4), some (.int z13), some (.int y21), none, none] []) (fun l20 Hl20 q19 hG => ?_) FU _ hG z18 h17 rfl)
          intro y21 h22 ha; have ha := ha.symm; subst ha
          unfold g_X9_spill_l20 at hG
          refine r_iload (pc := 81) X dX9_spill_81 rfl ?_
          refine r_if_eq (pc := 83) X dX9_spill_83 (tgt := 211) (by decide) hG (fun hG => ?_) (fun hG => ?_)
          · skip
            refine r_aload_n (pc := 211) X dX9_spill_211 rfl rfl ?_
            refine r_getC (pc := 212) X (at_X9_o Hb0) rfl mU_X9 (k := 50) (by decide) (q := 125) rfl mF_X9_281 dX9_spill_212 ?_
            refine r_iload (pc := 215) X dX9_spill_215 rfl ?_
            refine r_iald (pc := 217) X (at_X9_heaped Hb0) dX9_spill_217 hG (fun z23 hG => ?_)
            exact r_iretW (pc := 218) X dX9_spill_218 hQ hG
          · skip
            refine r_iconst (pc := 86) X dX9_spill_86 hG rfl (fun z24 hG => ?_)
            refine r_istore (pc := 87) (L' := [some (.ref (ad 100)), none, none, none, some (.int x4), some (.int z13), some (.int z24), none, none]) X dX9_spill_87 (by decide) rfl rfl ?_
            refine r_iconst (pc := 89) X dX9_spill_89 hG rfl (fun z25 hG => ?_)
            refine r_istore (pc := 90) (L' := [some (.ref (ad 100)), none, none, none, some (.int x4), some (.int z13), some (.int z24), some (.int z25), none]) X dX9_spill_90 (by decide) rfl rfl ?_
            refine r_join hG (fun a26 => ∀ (y28 : Int32) (h29 : Hp), a26 = (y28.toInt, h29) → Ev E ad shl p l e rm_X9_spill s m args below meth c 0 0 Q 9 h29 208 [some (.ref (ad 100)), none, none, none, some (.int x4), some (.int z13), some (.int y28), none, none] []) (fun a26 hG => ?_) (fun j27 Hj27 hG => ?_)
            · skip
              intro y28 h29 ha; have ha := ha.symm; subst ha
              refine r_goto (pc := 208) X dX9_spill_208 (tgt := 81) (by decide) ?_
              exact r_mask [true, false, false, false, true, true, true, false, false] rfl (Hl20 _ hG y28 h29 rfl)
            refine r_mask [true, false, false, false, true, true, true, true, false] rfl (r_loop (fun q30 => ∀ (y32 : Int32) (y33 : Int32) (h34 : Hp), q30 = (y32.toInt, y33.toInt, h34) → Ev E ad shl p l e rm_X9_spill s m args below meth c 0 0 Q 9 h34 92 [some (.ref (ad 100)), none, none, none, some (.int x4), some (.int z13), some (.int y32), some (.int y33), none] []) (fun l31 Hl31 q30 hG => ?_) FU _ hG z24 z25 h22 rfl)
            intro y32 y33 h34 ha; have ha := ha.symm; subst ha
            unfold g_X9_spill_l31 at hG
            refine r_iload (pc := 92) X dX9_spill_92 rfl ?_
            refine r_bipush (pc := 94) X dX9_spill_94 hG (by decide) (fun z35 hG => ?_)
            refine r_icmp_ge (pc := 96) X dX9_spill_96 (tgt := 208) (by decide) hG (fun hG => ?_) (fun hG => ?_)
            · skip
              exact r_mask [true, false, false, false, true, true, true, false, false] rfl (Hj27 _ hG y32 h34 rfl)
            · skip
              refine r_iload (pc := 99) X dX9_spill_99 rfl ?_
              refine r_join hG (fun a36 => ∀ (y38 : Int32), a36 = y38.toInt → Ev E ad shl p l e rm_X9_spill s m args below meth c 0 0 Q 9 h34 152 [some (.ref (ad 100)), none, none, none, some (.int x4), some (.int z13), some (.int y32), some (.int y33), none] [.int y38]) (fun a36 hG => ?_) (fun j37 Hj37 hG => ?_)
              · skip
                intro y38 ha; have ha := ha.symm; subst ha
                refine r_istore (pc := 152) (L' := [some (.ref (ad 100)), none, none, none, some (.int x4), some (.int z13), some (.int y32), some (.int y33), some (.int y38)]) X dX9_spill_152 (by decide) rfl rfl ?_
                refine r_aload_n (pc := 154) X dX9_spill_154 rfl rfl ?_
                refine r_getC (pc := 155) X (at_X9_o Hb0) rfl mU_X9 (k := 50) (by decide) (q := 125) rfl mF_X9_281 dX9_spill_155 ?_
                refine r_iload (pc := 158) X dX9_spill_158 rfl ?_
                refine r_iald (pc := 160) X (at_X9_heaped Hb0) dX9_spill_160 hG (fun z39 hG => ?_)
                refine r_aload_n (pc := 161) X dX9_spill_161 rfl rfl ?_
                refine r_getC (pc := 162) X (at_X9_o Hb0) rfl mU_X9 (k := 50) (by decide) (q := 125) rfl mF_X9_281 dX9_spill_162 ?_
                refine r_iload (pc := 165) X dX9_spill_165 rfl ?_
                refine r_iald (pc := 167) X (at_X9_heaped Hb0) dX9_spill_167 hG (fun z40 hG => ?_)
                refine r_isub (pc := 168) X dX9_spill_168 hG (fun z41 hG => ?_)
                refine r_iload (pc := 169) X dX9_spill_169 rfl ?_
                refine r_join hG (fun a42 => ∀ (y44 : Int32) (h45 : Hp), a42 = (y44.toInt, h45) → Ev E ad shl p l e rm_X9_spill s m args below meth c 0 0 Q 9 h45 202 [some (.ref (ad 100)), none, none, none, some (.int x4), some (.int z13), some (.int y44), some (.int y33), none] []) (fun a42 hG => ?_) (fun j43 Hj43 hG => ?_)
                · skip
                  intro y44 h45 ha; have ha := ha.symm; subst ha
                  refine r_iinc (pc := 202) (L' := fun z46 => [some (.ref (ad 100)), none, none, none, some (.int x4), some (.int z13), some (.int y44), some (.int z46), none]) X dX9_spill_202 (by decide) rfl rfl (by decide) (fun _ => rfl) hG (fun z46 hG => ?_)
                  refine r_goto (pc := 205) X dX9_spill_205 (tgt := 92) (by decide) ?_
                  exact r_mask [true, false, false, false, true, true, true, true, false] rfl (Hl31 _ hG y44 z46 h45 rfl)
                refine r_icmp_gt (pc := 171) X dX9_spill_171 (tgt := 177) (by decide) hG (fun hG => ?_) (fun hG => ?_)
                · skip
                  refine r_aload_n (pc := 177) X dX9_spill_177 rfl rfl ?_
                  refine r_getC (pc := 178) X (at_X9_o Hb0) rfl mU_X9 (k := 50) (by decide) (q := 125) rfl mF_X9_281 dX9_spill_178 ?_
                  refine r_iload (pc := 181) X dX9_spill_181 rfl ?_
                  refine r_dup2 (pc := 183) X dX9_spill_183 rfl rfl ?_
                  refine r_iald (pc := 184) X (at_X9_heaped Hb0) dX9_spill_184 hG (fun z47 hG => ?_)
                  refine r_iconst (pc := 185) X dX9_spill_185 hG rfl (fun z48 hG => ?_)
                  refine r_isub (pc := 186) X dX9_spill_186 hG (fun z49 hG => ?_)
                  refine r_iast (pc := 187) X (at_X9_heaped Hb0) dX9_spill_187 hG (fun h50 hG => ?_)
                  refine r_aload_n (pc := 188) X dX9_spill_188 rfl rfl ?_
                  refine r_getC (pc := 189) X (at_X9_o Hb0) rfl mU_X9 (k := 50) (by decide) (q := 125) rfl mF_X9_281 dX9_spill_189 ?_
                  refine r_iload (pc := 192) X dX9_spill_192 rfl ?_
                  refine r_dup2 (pc := 194) X dX9_spill_194 rfl rfl ?_
                  refine r_iald (pc := 195) X (at_X9_heaped Hb0) dX9_spill_195 hG (fun z51 hG => ?_)
                  refine r_iconst (pc := 196) X dX9_spill_196 hG rfl (fun z52 hG => ?_)
                  refine r_iadd (pc := 197) X dX9_spill_197 hG (fun z53 hG => ?_)
                  refine r_iast (pc := 198) X (at_X9_heaped Hb0) dX9_spill_198 hG (fun h54 hG => ?_)
                  refine r_iconst (pc := 199) X dX9_spill_199 hG rfl (fun z55 hG => ?_)
                  refine r_istore (pc := 200) (L' := [some (.ref (ad 100)), none, none, none, some (.int x4), some (.int z13), some (.int z55), some (.int y33), some (.int y38)]) X dX9_spill_200 (by decide) rfl rfl ?_
                  exact r_mask [true, false, false, false, true, true, true, true, false] rfl (Hj43 _ hG z55 h54 rfl)
                · skip
                  refine r_goto (pc := 174) X dX9_spill_174 (tgt := 202) (by decide) ?_
                  exact r_mask [true, false, false, false, true, true, true, true, false] rfl (Hj43 _ hG y32 h34 rfl)
              refine r_if_ne (pc := 101) X dX9_spill_101 (tgt := 108) (by decide) hG (fun hG => ?_) (fun hG => ?_)
              · skip
                refine r_iload (pc := 108) X dX9_spill_108 rfl ?_
                refine r_bipush (pc := 110) X dX9_spill_110 hG (by decide) (fun z56 hG => ?_)
                refine r_icmp_ne (pc := 112) X dX9_spill_112 (tgt := 120) (by decide) hG (fun hG => ?_) (fun hG => ?_)
                · skip
                  refine r_aload_n (pc := 120) X dX9_spill_120 rfl rfl ?_
                  refine r_getC (pc := 121) X (at_X9_o Hb0) rfl mU_X9 (k := 50) (by decide) (q := 125) rfl mF_X9_281 dX9_spill_121 ?_
                  refine r_iload (pc := 124) X dX9_spill_124 rfl ?_
                  refine r_iconst (pc := 126) X dX9_spill_126 hG rfl (fun z57 hG => ?_)
                  refine r_iadd (pc := 127) X dX9_spill_127 hG (fun z58 hG => ?_)
                  refine r_iald (pc := 128) X (at_X9_heaped Hb0) dX9_spill_128 hG (fun z59 hG => ?_)
                  refine r_aload_n (pc := 129) X dX9_spill_129 rfl rfl ?_
                  refine r_getC (pc := 130) X (at_X9_o Hb0) rfl mU_X9 (k := 50) (by decide) (q := 125) rfl mF_X9_281 dX9_spill_130 ?_
                  refine r_iload (pc := 133) X dX9_spill_133 rfl ?_
                  refine r_iconst (pc := 135) X dX9_spill_135 hG rfl (fun z60 hG => ?_)
                  refine r_isub (pc := 136) X dX9_spill_136 hG (fun z61 hG => ?_)
                  refine r_iald (pc := 137) X (at_X9_heaped Hb0) dX9_spill_137 hG (fun z62 hG => ?_)
                  refine r_icmp_ge (pc := 138) X dX9_spill_138 (tgt := 148) (by decide) hG (fun hG => ?_) (fun hG => ?_)
                  · skip
                    refine r_iload (pc := 148) X dX9_spill_148 rfl ?_
                    refine r_iconst (pc := 150) X dX9_spill_150 hG rfl (fun z63 hG => ?_)
                    refine r_isub (pc := 151) X dX9_spill_151 hG (fun z64 hG => ?_)
                    exact r_mask [true, false, false, false, true, true, true, true, false] rfl (Hj37 _ hG z64 rfl)
                  · skip
                    refine r_iload (pc := 141) X dX9_spill_141 rfl ?_
                    refine r_iconst (pc := 143) X dX9_spill_143 hG rfl (fun z65 hG => ?_)
                    refine r_iadd (pc := 144) X dX9_spill_144 hG (fun z66 hG => ?_)
                    refine r_goto (pc := 145) X dX9_spill_145 (tgt := 152) (by decide) ?_
                    exact r_mask [true, false, false, false, true, true, true, true, false] rfl (Hj37 _ hG z66 rfl)
                · skip
                  refine r_bipush (pc := 115) X dX9_spill_115 hG (by decide) (fun z67 hG => ?_)
                  refine r_goto (pc := 117) X dX9_spill_117 (tgt := 152) (by decide) ?_
                  exact r_mask [true, false, false, false, true, true, true, true, false] rfl (Hj37 _ hG z67 rfl)
              · skip
                refine r_iconst (pc := 104) X dX9_spill_104 hG rfl (fun z68 hG => ?_)
                refine r_goto (pc := 105) X dX9_spill_105 (tgt := 152) (by decide) ?_
                exact r_mask [true, false, false, false, true, true, true, true, false] rfl (Hj37 _ hG z68 rfl)
        refine r_mask [true, true, false, false, true, true, true, false, false] rfl (r_loop (fun q69 => ∀ (y71 : Int32) (h72 : Hp), q69 = (y71.toInt, h72) → Ev E ad shl p l e rm_X9_spill s m args below meth c 0 0 Q 9 h72 47 [some (.ref (ad 100)), some (.int x1), none, none, some (.int x4), some (.int z13), some (.int y71), none, none] []) (fun l70 Hl70 q69 hG => ?_) FU _ hG z14 h rfl)
        intro y71 h72 ha; have ha := ha.symm; subst ha
        unfold g_X9_spill_l70 at hG
        refine r_iload (pc := 47) X dX9_spill_47 rfl ?_
        refine r_bipush (pc := 49) X dX9_spill_49 hG (by decide) (fun z73 hG => ?_)
        refine r_icmp_ge (pc := 51) X dX9_spill_51 (tgt := 78) (by decide) hG (fun hG => ?_) (fun hG => ?_)
        · skip
          exact r_mask [true, false, false, false, true, true, false, false, false] rfl (Hj16 _ hG h72 rfl)
        · skip
          refine r_aload_n (pc := 54) X dX9_spill_54 rfl rfl ?_
          refine r_getC (pc := 55) X (at_X9_o Hb0) rfl mU_X9 (k := 50) (by decide) (q := 125) rfl mF_X9_281 dX9_spill_55 ?_
          refine r_iload (pc := 58) X dX9_spill_58 rfl ?_
          refine r_iload (pc := 60) X dX9_spill_60 rfl ?_
          refine r_iconst (pc := 62) X dX9_spill_62 hG rfl (fun z74 hG => ?_)
          refine r_join hG (fun a75 => ∀ (y77 : Int32), a75 = y77.toInt → Ev E ad shl p l e rm_X9_spill s m args below meth c 0 0 Q 9 h72 71 [some (.ref (ad 100)), some (.int x1), none, none, some (.int x4), some (.int z13), some (.int y71), none, none] [.int y77, .int y71, .ref (ad 125)]) (fun a75 hG => ?_) (fun j76 Hj76 hG => ?_)
          · skip
            intro y77 ha; have ha := ha.symm; subst ha
            refine r_iast (pc := 71) X (at_X9_heaped Hb0) dX9_spill_71 hG (fun h78 hG => ?_)
            refine r_iinc (pc := 72) (L' := fun z79 => [some (.ref (ad 100)), some (.int x1), none, none, some (.int x4), some (.int z13), some (.int z79), none, none]) X dX9_spill_72 (by decide) rfl rfl (by decide) (fun _ => rfl) hG (fun z79 hG => ?_)
            refine r_goto (pc := 75) X dX9_spill_75 (tgt := 47) (by decide) ?_
            exact r_mask [true, true, false, false, true, true, true, false, false] rfl (Hl70 _ hG z79 h78 rfl)
          refine r_icmp_ne (pc := 63) X dX9_spill_63 (tgt := 70) (by decide) hG (fun hG => ?_) (fun hG => ?_)
          · skip
            refine r_iconst (pc := 70) X dX9_spill_70 hG rfl (fun z80 hG => ?_)
            exact r_mask [true, true, false, false, true, true, true, false, false] rfl (Hj76 _ hG z80 rfl)
          · skip
            refine r_iload_n (pc := 66) X dX9_spill_66 rfl rfl ?_
            refine r_goto (pc := 67) X dX9_spill_67 (tgt := 71) (by decide) ?_
            exact r_mask [true, true, false, false, true, true, true, false, false] rfl (Hj76 _ hG x1 rfl)
      · skip
        exact r_mask [false, false, false, false, false, false, false, false, false] rfl (Hj6 _ hG)
theorem c_X9_spill {x1 : Int32} {x2 : Int32} {x3 : Int32} {x4 : Int32} {r : Int × Hp} (Hb0 : At_X9 shl) (hg : g_X9_spill x1.toInt x2.toInt x3.toInt x4.toInt h = some r) : Met l yX9_spill (wsM yX9_spill cX9_spill 9 (some .int)) rm_X9_spill (va_Pc [.ref (ad 100), .int x1, .int x2, .int x3, .int x4] (World E ad shl h)) (QcI E ad shl r.1 r.2) 0 0 (bsA E) :=
  met_of (L0 := [some (.ref (ad 100)), some (.int x1), some (.int x2), some (.int x3), some (.int x4), none, none, none, none]) rfl rfl rfl (Nat.le_of_ble_eq_true rfl) (fun _ _ _ _ _ _ _ X => w_X9_spill Hb0 X rfl hg)
abbrev rm_X9_isTelling : Room := { frames := 1, cells := 0, slots := 0, locals := 25 }
theorem hdd_X9_isTelling : yX9_isTelling.cls = RX9 ∧ yX9_isTelling.cls ≠ "java/lang/invoke/MethodHandle" ∧ yX9_isTelling.cls ≠ "java/lang/invoke/VarHandle" ∧ (parseMethodDescriptor yX9_isTelling.desc).map (fun d => d.parameters.length) = some 1 := ⟨rfl, by decide +kernel, by decide +kernel, by decide +kernel⟩
set_option maxRecDepth 100000 in
set_option maxHeartbeats 4000000 in
theorem w_X9_isTelling {x1 : Int32} {r : Int} (Hb0 : At_X9 shl) (X : Cx E p s m args meth c cX9_isTelling RX9 2 (some .boolean)) (hQ : Q = MQ below (QcI E ad shl r h) args s 0 0 (bsA E)) (hG : g_X9_isTelling x1.toInt h = some r) : Ev E ad shl p l e rm_X9_isTelling s m args below meth c 0 0 Q 2 h 0 [some (.ref (ad 100)), some (.int x1)] [] := by
  unfold g_X9_isTelling at hG
  refine r_iload_n (pc := 0) X dX9_isTelling_0 rfl rfl ?_
  refine r_i2l (pc := 1) X dX9_isTelling_1 hG (fun z1 hG => ?_)
  refine r_aload_n (pc := 2) X dX9_isTelling_2 rfl rfl ?_
  refine r_getI (pc := 3) X (at_X9_o Hb0) rfl mU_X9 (k := 53) (by decide) rfl mF_X9_444 dX9_isTelling_3 hG (fun z2 hG => ?_)
  refine r_i2l (pc := 6) X dX9_isTelling_6 hG (fun z3 hG => ?_)
  refine r_ldc2 (pc := 7) X dX9_isTelling_7 mW_X9_447 hG (by decide) (fun z4 hG => ?_)
  refine r_cP (pc := 10) hG (fun _ hg => runS X dX9_isTelling_10 (c_X9_in  hg) mM_X9_52 mS_X9_in mN_X9 mK_X9_in rfl rfl hdd_X9_in ⟨(Nat.le_of_ble_eq_true rfl), (Nat.le_of_ble_eq_true rfl)⟩ rfl rfl (Nat.le_of_ble_eq_true rfl) ⟨(Nat.le_of_ble_eq_true rfl), (Nat.le_of_ble_eq_true rfl)⟩) (fun z5 hG => ?_)
  exact r_zretP (pc := 13) X dX9_isTelling_13 hQ hG
theorem c_X9_isTelling {x1 : Int32} {r : Int} (Hb0 : At_X9 shl) (hg : g_X9_isTelling x1.toInt h = some r) : Met l yX9_isTelling (wsM yX9_isTelling cX9_isTelling 2 (some .boolean)) rm_X9_isTelling (va_Pc [.ref (ad 100), .int x1] (World E ad shl h)) (QcI E ad shl r h) 0 0 (bsA E) :=
  met_of (L0 := [some (.ref (ad 100)), some (.int x1)]) rfl rfl rfl (Nat.le_of_ble_eq_true rfl) (fun _ _ _ _ _ _ _ X => w_X9_isTelling Hb0 X rfl hg)
abbrev rm_X9_trial : Room := { frames := 2, cells := 0, slots := 0, locals := 46 }
theorem hdd_X9_trial : yX9_trial.cls = RX9 ∧ yX9_trial.cls ≠ "java/lang/invoke/MethodHandle" ∧ yX9_trial.cls ≠ "java/lang/invoke/VarHandle" ∧ (parseMethodDescriptor yX9_trial.desc).map (fun d => d.parameters.length) = some 4 := ⟨rfl, by decide +kernel, by decide +kernel, by decide +kernel⟩
set_option maxRecDepth 100000 in
set_option maxHeartbeats 4000000 in
theorem w_X9_trial {x1 : Int32} {x2 : Int32} {x3 : Int32} {x4 : Int32} {r : Int × Hp} (Hb0 : At_X9 shl) (X : Cx E p s m args meth c cX9_trial RX9 5 (some .int)) (hQ : Q = MQ below (QcI E ad shl r.1 r.2) args s 0 0 (bsA E)) (hG : g_X9_trial x1.toInt x2.toInt x3.toInt x4.toInt h = some r) : Ev E ad shl p l e rm_X9_trial s m args below meth c 0 0 Q 5 h 0 [some (.ref (ad 100)), some (.int x1), some (.int x2), some (.int x3), some (.int x4)] [] := by
  unfold g_X9_trial at hG
  refine r_aload_n (pc := 0) X dX9_trial_0 rfl rfl ?_
  refine r_iload_n (pc := 1) X dX9_trial_1 rfl rfl ?_
  refine r_cP (pc := 2) hG (fun _ hg => runV X dX9_trial_2 (c_X9_isTelling Hb0 hg) mM_X9_449 mI_X9_isTelling mE_X9_isTelling mN_X9 mK_X9_isTelling (at_X9_o Hb0) rfl rfl rfl rfl hdd_X9_isTelling ⟨(Nat.le_of_ble_eq_true rfl), (Nat.le_of_ble_eq_true rfl)⟩ rfl rfl (Nat.le_of_ble_eq_true rfl) ⟨(Nat.le_of_ble_eq_true rfl), (Nat.le_of_ble_eq_true rfl)⟩) (fun z1 hG => ?_)
  refine r_join hG (fun _ => Ev E ad shl p l e rm_X9_trial s m args below meth c 0 0 Q 5 h 43 [none, none, none, none, none] []) (fun a2 hG => ?_) (fun j3 Hj3 hG => ?_)
  · skip
    refine r_bipush (pc := 43) X dX9_trial_43 hG (by decide) (fun z4 hG => ?_)
    exact r_iretW (pc := 45) X dX9_trial_45 hQ hG
  refine r_if_eq (pc := 5) X dX9_trial_5 (tgt := 43) (by decide) hG (fun hG => ?_) (fun hG => ?_)
  · skip
    exact r_mask [false, false, false, false, false] rfl (Hj3 _ hG)
  · skip
    refine r_iload_n (pc := 8) X dX9_trial_8 rfl rfl ?_
    refine r_i2l (pc := 9) X dX9_trial_9 hG (fun z5 hG => ?_)
    refine r_lconst (pc := 10) X dX9_trial_10 hG (by decide) (fun z6 hG => ?_)
    refine r_ldc2 (pc := 11) X dX9_trial_11 mW_X9_452 hG (by decide) (fun z7 hG => ?_)
    refine r_cP (pc := 14) hG (fun _ hg => runS X dX9_trial_14 (c_X9_in  hg) mM_X9_52 mS_X9_in mN_X9 mK_X9_in rfl rfl hdd_X9_in ⟨(Nat.le_of_ble_eq_true rfl), (Nat.le_of_ble_eq_true rfl)⟩ rfl rfl (Nat.le_of_ble_eq_true rfl) ⟨(Nat.le_of_ble_eq_true rfl), (Nat.le_of_ble_eq_true rfl)⟩) (fun z8 hG => ?_)
    refine r_if_eq (pc := 17) X dX9_trial_17 (tgt := 43) (by decide) hG (fun hG => ?_) (fun hG => ?_)
    · skip
      exact r_mask [false, false, false, false, false] rfl (Hj3 _ hG)
    · skip
      refine r_iload_n (pc := 20) X dX9_trial_20 rfl rfl ?_
      refine r_i2l (pc := 21) X dX9_trial_21 hG (fun z9 hG => ?_)
      refine r_lconst (pc := 22) X dX9_trial_22 hG (by decide) (fun z10 hG => ?_)
      refine r_ldc2 (pc := 23) X dX9_trial_23 mW_X9_454 hG (by decide) (fun z11 hG => ?_)
      refine r_cP (pc := 26) hG (fun _ hg => runS X dX9_trial_26 (c_X9_in  hg) mM_X9_52 mS_X9_in mN_X9 mK_X9_in rfl rfl hdd_X9_in ⟨(Nat.le_of_ble_eq_true rfl), (Nat.le_of_ble_eq_true rfl)⟩ rfl rfl (Nat.le_of_ble_eq_true rfl) ⟨(Nat.le_of_ble_eq_true rfl), (Nat.le_of_ble_eq_true rfl)⟩) (fun z12 hG => ?_)
      refine r_if_eq (pc := 29) X dX9_trial_29 (tgt := 43) (by decide) hG (fun hG => ?_) (fun hG => ?_)
      · skip
        exact r_mask [false, false, false, false, false] rfl (Hj3 _ hG)
      · skip
        refine r_iload (pc := 32) X dX9_trial_32 rfl ?_
        refine r_i2l (pc := 34) X dX9_trial_34 hG (fun z13 hG => ?_)
        refine r_lconst (pc := 35) X dX9_trial_35 hG (by decide) (fun z14 hG => ?_)
        refine r_lconst (pc := 36) X dX9_trial_36 hG (by decide) (fun z15 hG => ?_)
        refine r_cP (pc := 37) hG (fun _ hg => runS X dX9_trial_37 (c_X9_in  hg) mM_X9_52 mS_X9_in mN_X9 mK_X9_in rfl rfl hdd_X9_in ⟨(Nat.le_of_ble_eq_true rfl), (Nat.le_of_ble_eq_true rfl)⟩ rfl rfl (Nat.le_of_ble_eq_true rfl) ⟨(Nat.le_of_ble_eq_true rfl), (Nat.le_of_ble_eq_true rfl)⟩) (fun z16 hG => ?_)
        refine r_if_ne (pc := 40) X dX9_trial_40 (tgt := 46) (by decide) hG (fun hG => ?_) (fun hG => ?_)
        · skip
          refine r_aload_n (pc := 46) X dX9_trial_46 rfl rfl ?_
          refine r_getI (pc := 47) X (at_X9_o Hb0) rfl mU_X9 (k := 51) (by decide) rfl mF_X9_456 dX9_trial_47 hG (fun z17 hG => ?_)
          refine r_bipush (pc := 50) X dX9_trial_50 hG (by decide) (fun z18 hG => ?_)
          refine r_icmp_ne (pc := 52) X dX9_trial_52 (tgt := 58) (by decide) hG (fun hG => ?_) (fun hG => ?_)
          · skip
            refine r_aload_n (pc := 58) X dX9_trial_58 rfl rfl ?_
            refine r_iload_n (pc := 59) X dX9_trial_59 rfl rfl ?_
            refine r_putI (pc := 60) X (at_X9_o Hb0) rfl mU_X9 (k := 53) (by decide) rfl rfl rfl mF_X9_444 dX9_trial_60 hG (fun h19 hG => ?_)
            refine r_aload_n (pc := 63) X dX9_trial_63 rfl rfl ?_
            refine r_getC (pc := 64) X (at_X9_o Hb0) rfl mU_X9 (k := 54) (by decide) (q := 126) rfl mF_X9_284 dX9_trial_64 ?_
            refine r_aload_n (pc := 67) X dX9_trial_67 rfl rfl ?_
            refine r_getI (pc := 68) X (at_X9_o Hb0) rfl mU_X9 (k := 51) (by decide) rfl mF_X9_456 dX9_trial_68 hG (fun z20 hG => ?_)
            refine r_iload_n (pc := 71) X dX9_trial_71 rfl rfl ?_
            refine r_iast (pc := 72) X (at_X9_triedWet Hb0) dX9_trial_72 hG (fun h21 hG => ?_)
            refine r_aload_n (pc := 73) X dX9_trial_73 rfl rfl ?_
            refine r_getC (pc := 74) X (at_X9_o Hb0) rfl mU_X9 (k := 55) (by decide) (q := 127) rfl mF_X9_287 dX9_trial_74 ?_
            refine r_aload_n (pc := 77) X dX9_trial_77 rfl rfl ?_
            refine r_getI (pc := 78) X (at_X9_o Hb0) rfl mU_X9 (k := 51) (by decide) rfl mF_X9_456 dX9_trial_78 hG (fun z22 hG => ?_)
            refine r_iload_n (pc := 81) X dX9_trial_81 rfl rfl ?_
            refine r_iast (pc := 82) X (at_X9_triedSteep Hb0) dX9_trial_82 hG (fun h23 hG => ?_)
            refine r_aload_n (pc := 83) X dX9_trial_83 rfl rfl ?_
            refine r_getC (pc := 84) X (at_X9_o Hb0) rfl mU_X9 (k := 56) (by decide) (q := 128) rfl mF_X9_290 dX9_trial_84 ?_
            refine r_aload_n (pc := 87) X dX9_trial_87 rfl rfl ?_
            refine r_getI (pc := 88) X (at_X9_o Hb0) rfl mU_X9 (k := 51) (by decide) rfl mF_X9_456 dX9_trial_88 hG (fun z24 hG => ?_)
            refine r_iload (pc := 91) X dX9_trial_91 rfl ?_
            refine r_iast (pc := 93) X (at_X9_triedStood Hb0) dX9_trial_93 hG (fun h25 hG => ?_)
            refine r_aload_n (pc := 94) X dX9_trial_94 rfl rfl ?_
            refine r_getC (pc := 95) X (at_X9_o Hb0) rfl mU_X9 (k := 57) (by decide) (q := 129) rfl mF_X9_293 dX9_trial_95 ?_
            refine r_aload_n (pc := 98) X dX9_trial_98 rfl rfl ?_
            refine r_getI (pc := 99) X (at_X9_o Hb0) rfl mU_X9 (k := 51) (by decide) rfl mF_X9_456 dX9_trial_99 hG (fun z26 hG => ?_)
            refine r_iload_n (pc := 102) X dX9_trial_102 rfl rfl ?_
            refine r_iast (pc := 103) X (at_X9_triedAt Hb0) dX9_trial_103 hG (fun h27 hG => ?_)
            refine r_aload_n (pc := 104) X dX9_trial_104 rfl rfl ?_
            refine r_dup (pc := 105) X dX9_trial_105 rfl ?_
            refine r_getI (pc := 106) X (at_X9_o Hb0) rfl mU_X9 (k := 51) (by decide) rfl mF_X9_456 dX9_trial_106 hG (fun z28 hG => ?_)
            refine r_iconst (pc := 109) X dX9_trial_109 hG rfl (fun z29 hG => ?_)
            refine r_iadd (pc := 110) X dX9_trial_110 hG (fun z30 hG => ?_)
            refine r_putI (pc := 111) X (at_X9_o Hb0) rfl mU_X9 (k := 51) (by decide) rfl rfl rfl mF_X9_456 dX9_trial_111 hG (fun h31 hG => ?_)
            refine r_aload_n (pc := 114) X dX9_trial_114 rfl rfl ?_
            refine r_getI (pc := 115) X (at_X9_o Hb0) rfl mU_X9 (k := 51) (by decide) rfl mF_X9_456 dX9_trial_115 hG (fun z32 hG => ?_)
            refine r_iconst (pc := 118) X dX9_trial_118 hG rfl (fun z33 hG => ?_)
            refine r_isub (pc := 119) X dX9_trial_119 hG (fun z34 hG => ?_)
            exact r_iretW (pc := 120) X dX9_trial_120 hQ hG
          · skip
            refine r_bipush (pc := 55) X dX9_trial_55 hG (by decide) (fun z35 hG => ?_)
            exact r_iretW (pc := 57) X dX9_trial_57 hQ hG
        · skip
          exact r_mask [false, false, false, false, false] rfl (Hj3 _ hG)
theorem c_X9_trial {x1 : Int32} {x2 : Int32} {x3 : Int32} {x4 : Int32} {r : Int × Hp} (Hb0 : At_X9 shl) (hg : g_X9_trial x1.toInt x2.toInt x3.toInt x4.toInt h = some r) : Met l yX9_trial (wsM yX9_trial cX9_trial 5 (some .int)) rm_X9_trial (va_Pc [.ref (ad 100), .int x1, .int x2, .int x3, .int x4] (World E ad shl h)) (QcI E ad shl r.1 r.2) 0 0 (bsA E) :=
  met_of (L0 := [some (.ref (ad 100)), some (.int x1), some (.int x2), some (.int x3), some (.int x4)]) rfl rfl rfl (Nat.le_of_ble_eq_true rfl) (fun _ _ _ _ _ _ _ X => w_X9_trial Hb0 X rfl hg)
abbrev rm_X9_right : Room := { frames := 2, cells := 0, slots := 0, locals := 46 }
theorem hdd_X9_right : yX9_right.cls = RX9 ∧ yX9_right.cls ≠ "java/lang/invoke/MethodHandle" ∧ yX9_right.cls ≠ "java/lang/invoke/VarHandle" ∧ (parseMethodDescriptor yX9_right.desc).map (fun d => d.parameters.length) = some 3 := ⟨rfl, by decide +kernel, by decide +kernel, by decide +kernel⟩
set_option maxRecDepth 100000 in
set_option maxHeartbeats 4000000 in
theorem w_X9_right {x1 : Int32} {x2 : Int32} {x3 : Int32} {r : Int × Hp} (Hb0 : At_X9 shl) (X : Cx E p s m args meth c cX9_right RX9 6 (some .int)) (hQ : Q = MQ below (QcI E ad shl r.1 r.2) args s 0 0 (bsA E)) (hG : g_X9_right x1.toInt x2.toInt x3.toInt h = some r) : Ev E ad shl p l e rm_X9_right s m args below meth c 0 0 Q 6 h 0 [some (.ref (ad 100)), some (.int x1), some (.int x2), some (.int x3), none, none] [] := by
  unfold g_X9_right at hG
  refine r_aload_n (pc := 0) X dX9_right_0 rfl rfl ?_
  refine r_iload_n (pc := 1) X dX9_right_1 rfl rfl ?_
  refine r_cP (pc := 2) hG (fun _ hg => runV X dX9_right_2 (c_X9_isTelling Hb0 hg) mM_X9_449 mI_X9_isTelling mE_X9_isTelling mN_X9 mK_X9_isTelling (at_X9_o Hb0) rfl rfl rfl rfl hdd_X9_isTelling ⟨(Nat.le_of_ble_eq_true rfl), (Nat.le_of_ble_eq_true rfl)⟩ rfl rfl (Nat.le_of_ble_eq_true rfl) ⟨(Nat.le_of_ble_eq_true rfl), (Nat.le_of_ble_eq_true rfl)⟩) (fun z1 hG => ?_)
  refine r_join hG (fun _ => Ev E ad shl p l e rm_X9_right s m args below meth c 0 0 Q 6 h 34 [none, none, none, none, none, none] []) (fun a2 hG => ?_) (fun j3 Hj3 hG => ?_)
  · skip
    refine r_bipush (pc := 34) X dX9_right_34 hG (by decide) (fun z4 hG => ?_)
    exact r_iretW (pc := 36) X dX9_right_36 hQ hG
  refine r_if_eq (pc := 5) X dX9_right_5 (tgt := 34) (by decide) hG (fun hG => ?_) (fun hG => ?_)
  · skip
    exact r_mask [false, false, false, false, false, false] rfl (Hj3 _ hG)
  · skip
    refine r_iload_n (pc := 8) X dX9_right_8 rfl rfl ?_
    refine r_i2l (pc := 9) X dX9_right_9 hG (fun z5 hG => ?_)
    refine r_lconst (pc := 10) X dX9_right_10 hG (by decide) (fun z6 hG => ?_)
    refine r_aload_n (pc := 11) X dX9_right_11 rfl rfl ?_
    refine r_getI (pc := 12) X (at_X9_o Hb0) rfl mU_X9 (k := 51) (by decide) rfl mF_X9_456 dX9_right_12 hG (fun z7 hG => ?_)
    refine r_i2l (pc := 15) X dX9_right_15 hG (fun z8 hG => ?_)
    refine r_lconst (pc := 16) X dX9_right_16 hG (by decide) (fun z9 hG => ?_)
    refine r_lsub (pc := 17) X dX9_right_17 hG (fun z10 hG => ?_)
    refine r_cP (pc := 18) hG (fun _ hg => runS X dX9_right_18 (c_X9_in  hg) mM_X9_52 mS_X9_in mN_X9 mK_X9_in rfl rfl hdd_X9_in ⟨(Nat.le_of_ble_eq_true rfl), (Nat.le_of_ble_eq_true rfl)⟩ rfl rfl (Nat.le_of_ble_eq_true rfl) ⟨(Nat.le_of_ble_eq_true rfl), (Nat.le_of_ble_eq_true rfl)⟩) (fun z11 hG => ?_)
    refine r_if_eq (pc := 21) X dX9_right_21 (tgt := 34) (by decide) hG (fun hG => ?_) (fun hG => ?_)
    · skip
      exact r_mask [false, false, false, false, false, false] rfl (Hj3 _ hG)
    · skip
      refine r_iload_n (pc := 24) X dX9_right_24 rfl rfl ?_
      refine r_i2l (pc := 25) X dX9_right_25 hG (fun z12 hG => ?_)
      refine r_lconst (pc := 26) X dX9_right_26 hG (by decide) (fun z13 hG => ?_)
      refine r_lconst (pc := 27) X dX9_right_27 hG (by decide) (fun z14 hG => ?_)
      refine r_cP (pc := 28) hG (fun _ hg => runS X dX9_right_28 (c_X9_in  hg) mM_X9_52 mS_X9_in mN_X9 mK_X9_in rfl rfl hdd_X9_in ⟨(Nat.le_of_ble_eq_true rfl), (Nat.le_of_ble_eq_true rfl)⟩ rfl rfl (Nat.le_of_ble_eq_true rfl) ⟨(Nat.le_of_ble_eq_true rfl), (Nat.le_of_ble_eq_true rfl)⟩) (fun z15 hG => ?_)
      refine r_if_ne (pc := 31) X dX9_right_31 (tgt := 37) (by decide) hG (fun hG => ?_) (fun hG => ?_)
      · skip
        refine r_aload_n (pc := 37) X dX9_right_37 rfl rfl ?_
        refine r_getI (pc := 38) X (at_X9_o Hb0) rfl mU_X9 (k := 52) (by decide) rfl mF_X9_459 dX9_right_38 hG (fun z16 hG => ?_)
        refine r_bipush (pc := 41) X dX9_right_41 hG (by decide) (fun z17 hG => ?_)
        refine r_icmp_ne (pc := 43) X dX9_right_43 (tgt := 49) (by decide) hG (fun hG => ?_) (fun hG => ?_)
        · skip
          refine r_aload_n (pc := 49) X dX9_right_49 rfl rfl ?_
          refine r_iload_n (pc := 50) X dX9_right_50 rfl rfl ?_
          refine r_putI (pc := 51) X (at_X9_o Hb0) rfl mU_X9 (k := 53) (by decide) rfl rfl rfl mF_X9_444 dX9_right_51 hG (fun h18 hG => ?_)
          refine r_aload_n (pc := 54) X dX9_right_54 rfl rfl ?_
          refine r_getC (pc := 55) X (at_X9_o Hb0) rfl mU_X9 (k := 58) (by decide) (q := 130) rfl mF_X9_296 dX9_right_55 ?_
          refine r_aload_n (pc := 58) X dX9_right_58 rfl rfl ?_
          refine r_getI (pc := 59) X (at_X9_o Hb0) rfl mU_X9 (k := 52) (by decide) rfl mF_X9_459 dX9_right_59 hG (fun z19 hG => ?_)
          refine r_iload_n (pc := 62) X dX9_right_62 rfl rfl ?_
          refine r_iast (pc := 63) X (at_X9_rightOf Hb0) dX9_right_63 hG (fun h20 hG => ?_)
          refine r_aload_n (pc := 64) X dX9_right_64 rfl rfl ?_
          refine r_getC (pc := 65) X (at_X9_o Hb0) rfl mU_X9 (k := 59) (by decide) (q := 131) rfl mF_X9_299 dX9_right_65 ?_
          refine r_aload_n (pc := 68) X dX9_right_68 rfl rfl ?_
          refine r_getI (pc := 69) X (at_X9_o Hb0) rfl mU_X9 (k := 52) (by decide) rfl mF_X9_459 dX9_right_69 hG (fun z21 hG => ?_)
          refine r_iload_n (pc := 72) X dX9_right_72 rfl rfl ?_
          refine r_iast (pc := 73) X (at_X9_rightStood Hb0) dX9_right_73 hG (fun h22 hG => ?_)
          refine r_aload_n (pc := 74) X dX9_right_74 rfl rfl ?_
          refine r_getC (pc := 75) X (at_X9_o Hb0) rfl mU_X9 (k := 60) (by decide) (q := 132) rfl mF_X9_302 dX9_right_75 ?_
          refine r_aload_n (pc := 78) X dX9_right_78 rfl rfl ?_
          refine r_getI (pc := 79) X (at_X9_o Hb0) rfl mU_X9 (k := 52) (by decide) rfl mF_X9_459 dX9_right_79 hG (fun z23 hG => ?_)
          refine r_iload_n (pc := 82) X dX9_right_82 rfl rfl ?_
          refine r_iast (pc := 83) X (at_X9_rightAt Hb0) dX9_right_83 hG (fun h24 hG => ?_)
          refine r_aload_n (pc := 84) X dX9_right_84 rfl rfl ?_
          refine r_dup (pc := 85) X dX9_right_85 rfl ?_
          refine r_getI (pc := 86) X (at_X9_o Hb0) rfl mU_X9 (k := 52) (by decide) rfl mF_X9_459 dX9_right_86 hG (fun z25 hG => ?_)
          refine r_iconst (pc := 89) X dX9_right_89 hG rfl (fun z26 hG => ?_)
          refine r_iadd (pc := 90) X dX9_right_90 hG (fun z27 hG => ?_)
          refine r_putI (pc := 91) X (at_X9_o Hb0) rfl mU_X9 (k := 52) (by decide) rfl rfl rfl mF_X9_459 dX9_right_91 hG (fun h28 hG => ?_)
          refine r_iconst (pc := 94) X dX9_right_94 hG rfl (fun z29 hG => ?_)
          refine r_istore (pc := 95) (L' := [some (.ref (ad 100)), some (.int x1), some (.int x2), some (.int x3), some (.int z29), none]) X dX9_right_95 (by decide) rfl rfl ?_
          refine r_iconst (pc := 97) X dX9_right_97 hG rfl (fun z30 hG => ?_)
          refine r_istore (pc := 98) (L' := [some (.ref (ad 100)), some (.int x1), some (.int x2), some (.int x3), some (.int z29), some (.int z30)]) X dX9_right_98 (by decide) rfl rfl ?_
          refine r_mask [true, false, true, false, true, true] rfl (r_loop (fun q31 => ∀ (y33 : Int32) (y34 : Int32), q31 = (y33.toInt, y34.toInt) → Ev E ad shl p l e rm_X9_right s m args below meth c 0 0 Q 6 h28 100 [some (.ref (ad 100)), none, some (.int x2), none, some (.int y33), some (.int y34)] []) (fun l32 Hl32 q31 hG => ?_) FU _ hG z29 z30 rfl)
          intro y33 y34 ha; have ha := ha.symm; subst ha
          unfold g_X9_right_l32 at hG
          refine r_iload (pc := 100) X dX9_right_100 rfl ?_
          refine r_aload_n (pc := 102) X dX9_right_102 rfl rfl ?_
          refine r_getI (pc := 103) X (at_X9_o Hb0) rfl mU_X9 (k := 52) (by decide) rfl mF_X9_459 dX9_right_103 hG (fun z35 hG => ?_)
          refine r_icmp_ge (pc := 106) X dX9_right_106 (tgt := 136) (by decide) hG (fun hG => ?_) (fun hG => ?_)
          · skip
            refine r_iload (pc := 136) X dX9_right_136 rfl ?_
            exact r_iretW (pc := 138) X dX9_right_138 hQ hG
          · skip
            refine r_iload (pc := 109) X dX9_right_109 rfl ?_
            refine r_aload_n (pc := 111) X dX9_right_111 rfl rfl ?_
            refine r_getC (pc := 112) X (at_X9_o Hb0) rfl mU_X9 (k := 58) (by decide) (q := 130) rfl mF_X9_296 dX9_right_112 ?_
            refine r_iload (pc := 115) X dX9_right_115 rfl ?_
            refine r_iald (pc := 117) X (at_X9_rightOf Hb0) dX9_right_117 hG (fun z36 hG => ?_)
            refine r_iload_n (pc := 118) X dX9_right_118 rfl rfl ?_
            refine r_join hG (fun a37 => ∀ (y39 : Int32), a37 = y39.toInt → Ev E ad shl p l e rm_X9_right s m args below meth c 0 0 Q 6 h28 127 [some (.ref (ad 100)), none, some (.int x2), none, none, some (.int y34)] [.int y39, .int y33]) (fun a37 hG => ?_) (fun j38 Hj38 hG => ?_)
            · skip
              intro y39 ha; have ha := ha.symm; subst ha
              refine r_iadd (pc := 127) X dX9_right_127 hG (fun z40 hG => ?_)
              refine r_istore (pc := 128) (L' := [some (.ref (ad 100)), none, some (.int x2), none, some (.int z40), some (.int y34)]) X dX9_right_128 (by decide) rfl rfl ?_
              refine r_iinc (pc := 130) (L' := fun z41 => [some (.ref (ad 100)), none, some (.int x2), none, some (.int z40), some (.int z41)]) X dX9_right_130 (by decide) rfl rfl (by decide) (fun _ => rfl) hG (fun z41 hG => ?_)
              refine r_goto (pc := 133) X dX9_right_133 (tgt := 100) (by decide) ?_
              exact r_mask [true, false, true, false, true, true] rfl (Hl32 _ hG z40 z41 rfl)
            refine r_icmp_ne (pc := 119) X dX9_right_119 (tgt := 126) (by decide) hG (fun hG => ?_) (fun hG => ?_)
            · skip
              refine r_iconst (pc := 126) X dX9_right_126 hG rfl (fun z42 hG => ?_)
              exact r_mask [true, false, true, false, false, true] rfl (Hj38 _ hG z42 rfl)
            · skip
              refine r_iconst (pc := 122) X dX9_right_122 hG rfl (fun z43 hG => ?_)
              refine r_goto (pc := 123) X dX9_right_123 (tgt := 127) (by decide) ?_
              exact r_mask [true, false, true, false, false, true] rfl (Hj38 _ hG z43 rfl)
        · skip
          refine r_bipush (pc := 46) X dX9_right_46 hG (by decide) (fun z44 hG => ?_)
          exact r_iretW (pc := 48) X dX9_right_48 hQ hG
      · skip
        exact r_mask [false, false, false, false, false, false] rfl (Hj3 _ hG)
theorem c_X9_right {x1 : Int32} {x2 : Int32} {x3 : Int32} {r : Int × Hp} (Hb0 : At_X9 shl) (hg : g_X9_right x1.toInt x2.toInt x3.toInt h = some r) : Met l yX9_right (wsM yX9_right cX9_right 6 (some .int)) rm_X9_right (va_Pc [.ref (ad 100), .int x1, .int x2, .int x3] (World E ad shl h)) (QcI E ad shl r.1 r.2) 0 0 (bsA E) :=
  met_of (L0 := [some (.ref (ad 100)), some (.int x1), some (.int x2), some (.int x3), none, none]) rfl rfl rfl (Nat.le_of_ble_eq_true rfl) (fun _ _ _ _ _ _ _ X => w_X9_right Hb0 X rfl hg)
abbrev rm_X9_stoodBy : Room := { frames := 0, cells := 0, slots := 0, locals := 0 }
theorem hdd_X9_stoodBy : yX9_stoodBy.cls = RX9 ∧ yX9_stoodBy.cls ≠ "java/lang/invoke/MethodHandle" ∧ yX9_stoodBy.cls ≠ "java/lang/invoke/VarHandle" ∧ (parseMethodDescriptor yX9_stoodBy.desc).map (fun d => d.parameters.length) = some 2 := ⟨rfl, by decide +kernel, by decide +kernel, by decide +kernel⟩
set_option maxRecDepth 100000 in
set_option maxHeartbeats 4000000 in
theorem w_X9_stoodBy {x1 : Int32} {x2 : Int32} {r : Int} (Hb0 : At_X9 shl) (X : Cx E p s m args meth c cX9_stoodBy RX9 5 (some .int)) (hQ : Q = MQ below (QcI E ad shl r h) args s 0 0 (bsA E)) (hG : g_X9_stoodBy x1.toInt x2.toInt h = some r) : Ev E ad shl p l e rm_X9_stoodBy s m args below meth c 0 0 Q 5 h 0 [some (.ref (ad 100)), some (.int x1), some (.int x2), none, none] [] := by
  unfold g_X9_stoodBy at hG
  refine r_aload_n (pc := 0) X dX9_stoodBy_0 rfl rfl ?_
  refine r_getC (pc := 1) X (at_X9_o Hb0) rfl mU_X9 (k := 56) (by decide) (q := 128) rfl mF_X9_290 dX9_stoodBy_1 ?_
  refine r_iload_n (pc := 4) X dX9_stoodBy_4 rfl rfl ?_
  refine r_iald (pc := 5) X (at_X9_triedStood Hb0) dX9_stoodBy_5 hG (fun z1 hG => ?_)
  refine r_istore_n (pc := 6) (L' := [some (.ref (ad 100)), some (.int x1), some (.int x2), some (.int z1), none]) X dX9_stoodBy_6 rfl (by decide) rfl rfl ?_
  refine r_iconst (pc := 7) X dX9_stoodBy_7 hG rfl (fun z2 hG => ?_)
  refine r_istore (pc := 8) (L' := [some (.ref (ad 100)), some (.int x1), some (.int x2), some (.int z1), some (.int z2)]) X dX9_stoodBy_8 (by decide) rfl rfl ?_
  refine r_mask [true, true, true, true, true] rfl (r_loop (fun q3 => ∀ (y5 : Int32) (y6 : Int32), q3 = (y5.toInt, y6.toInt) → Ev E ad shl p l e rm_X9_stoodBy s m args below meth c 0 0 Q 5 h 10 [some (.ref (ad 100)), some (.int x1), some (.int x2), some (.int y5), some (.int y6)] []) (fun l4 Hl4 q3 hG => ?_) FU _ hG z1 z2 rfl)
  intro y5 y6 ha; have ha := ha.symm; subst ha
  unfold g_X9_stoodBy_l4 at hG
  refine r_iload (pc := 10) X dX9_stoodBy_10 rfl ?_
  refine r_aload_n (pc := 12) X dX9_stoodBy_12 rfl rfl ?_
  refine r_getI (pc := 13) X (at_X9_o Hb0) rfl mU_X9 (k := 52) (by decide) rfl mF_X9_459 dX9_stoodBy_13 hG (fun z7 hG => ?_)
  refine r_icmp_ge (pc := 16) X dX9_stoodBy_16 (tgt := 55) (by decide) hG (fun hG => ?_) (fun hG => ?_)
  · skip
    refine r_iload_n (pc := 55) X dX9_stoodBy_55 rfl rfl ?_
    exact r_iretP (pc := 56) X dX9_stoodBy_56 hQ hG
  · skip
    refine r_aload_n (pc := 19) X dX9_stoodBy_19 rfl rfl ?_
    refine r_getC (pc := 20) X (at_X9_o Hb0) rfl mU_X9 (k := 58) (by decide) (q := 130) rfl mF_X9_296 dX9_stoodBy_20 ?_
    refine r_iload (pc := 23) X dX9_stoodBy_23 rfl ?_
    refine r_iald (pc := 25) X (at_X9_rightOf Hb0) dX9_stoodBy_25 hG (fun z8 hG => ?_)
    refine r_iload_n (pc := 26) X dX9_stoodBy_26 rfl rfl ?_
    refine r_join hG (fun a9 => ∀ (y11 : Int32), a9 = y11.toInt → Ev E ad shl p l e rm_X9_stoodBy s m args below meth c 0 0 Q 5 h 49 [some (.ref (ad 100)), some (.int x1), some (.int x2), some (.int y11), some (.int y6)] []) (fun a9 hG => ?_) (fun j10 Hj10 hG => ?_)
    · skip
      intro y11 ha; have ha := ha.symm; subst ha
      refine r_iinc (pc := 49) (L' := fun z12 => [some (.ref (ad 100)), some (.int x1), some (.int x2), some (.int y11), some (.int z12)]) X dX9_stoodBy_49 (by decide) rfl rfl (by decide) (fun _ => rfl) hG (fun z12 hG => ?_)
      refine r_goto (pc := 52) X dX9_stoodBy_52 (tgt := 10) (by decide) ?_
      exact r_mask [true, true, true, true, true] rfl (Hl4 _ hG y11 z12 rfl)
    refine r_icmp_ne (pc := 27) X dX9_stoodBy_27 (tgt := 49) (by decide) hG (fun hG => ?_) (fun hG => ?_)
    · skip
      exact r_mask [true, true, true, true, true] rfl (Hj10 _ hG y5 rfl)
    · skip
      refine r_aload_n (pc := 30) X dX9_stoodBy_30 rfl rfl ?_
      refine r_getC (pc := 31) X (at_X9_o Hb0) rfl mU_X9 (k := 60) (by decide) (q := 132) rfl mF_X9_302 dX9_stoodBy_31 ?_
      refine r_iload (pc := 34) X dX9_stoodBy_34 rfl ?_
      refine r_iald (pc := 36) X (at_X9_rightAt Hb0) dX9_stoodBy_36 hG (fun z13 hG => ?_)
      refine r_iload_n (pc := 37) X dX9_stoodBy_37 rfl rfl ?_
      refine r_icmp_gt (pc := 38) X dX9_stoodBy_38 (tgt := 49) (by decide) hG (fun hG => ?_) (fun hG => ?_)
      · skip
        exact r_mask [true, true, true, true, true] rfl (Hj10 _ hG y5 rfl)
      · skip
        refine r_aload_n (pc := 41) X dX9_stoodBy_41 rfl rfl ?_
        refine r_getC (pc := 42) X (at_X9_o Hb0) rfl mU_X9 (k := 59) (by decide) (q := 131) rfl mF_X9_299 dX9_stoodBy_42 ?_
        refine r_iload (pc := 45) X dX9_stoodBy_45 rfl ?_
        refine r_iald (pc := 47) X (at_X9_rightStood Hb0) dX9_stoodBy_47 hG (fun z14 hG => ?_)
        refine r_istore_n (pc := 48) (L' := [some (.ref (ad 100)), some (.int x1), some (.int x2), some (.int z14), some (.int y6)]) X dX9_stoodBy_48 rfl (by decide) rfl rfl ?_
        exact r_mask [true, true, true, true, true] rfl (Hj10 _ hG z14 rfl)
theorem c_X9_stoodBy {x1 : Int32} {x2 : Int32} {r : Int} (Hb0 : At_X9 shl) (hg : g_X9_stoodBy x1.toInt x2.toInt h = some r) : Met l yX9_stoodBy (wsM yX9_stoodBy cX9_stoodBy 5 (some .int)) rm_X9_stoodBy (va_Pc [.ref (ad 100), .int x1, .int x2] (World E ad shl h)) (QcI E ad shl r h) 0 0 (bsA E) :=
  met_of (L0 := [some (.ref (ad 100)), some (.int x1), some (.int x2), none, none]) rfl rfl rfl (Nat.le_of_ble_eq_true rfl) (fun _ _ _ _ _ _ _ X => w_X9_stoodBy Hb0 X rfl hg)
abbrev rm_X9_stands : Room := { frames := 1, cells := 0, slots := 0, locals := 21 }
theorem hdd_X9_stands : yX9_stands.cls ≠ "java/lang/invoke/MethodHandle" ∧ yX9_stands.cls ≠ "java/lang/invoke/VarHandle" ∧ (parseMethodDescriptor yX9_stands.desc).map (fun d => d.parameters.length) = some 5 := ⟨by decide +kernel, by decide +kernel, by decide +kernel⟩
set_option maxRecDepth 100000 in
set_option maxHeartbeats 4000000 in
theorem w_X9_stands {x1 : Int32} {x2 : Int32} {x3 : Int32} {x4 : Int32} {x5 : Int32} {r : Int}  (X : Cx E p s m args meth c cX9_stands RX9 5 (some .boolean)) (hQ : Q = MQ below (QcI E ad shl r h) args s 0 0 (bsA E)) (hG : g_X9_stands x1.toInt x2.toInt x3.toInt x4.toInt x5.toInt = some r) : Ev E ad shl p l e rm_X9_stands s m args below meth c 0 0 Q 5 h 0 [some (.int x1), some (.int x2), some (.int x3), some (.int x4), some (.int x5)] [] := by
  unfold g_X9_stands at hG
  refine r_iload (pc := 0) X dX9_stands_0 rfl ?_
  refine r_iconst (pc := 2) X dX9_stands_2 hG rfl (fun z1 hG => ?_)
  refine r_iconst (pc := 3) X dX9_stands_3 hG rfl (fun z2 hG => ?_)
  refine r_iload_n (pc := 4) X dX9_stands_4 rfl rfl ?_
  refine r_iload_n (pc := 5) X dX9_stands_5 rfl rfl ?_
  refine r_iload_n (pc := 6) X dX9_stands_6 rfl rfl ?_
  refine r_iload_n (pc := 7) X dX9_stands_7 rfl rfl ?_
  refine r_isub (pc := 8) X dX9_stands_8 hG (fun z3 hG => ?_)
  refine r_mabs (pc := 9) X dX9_stands_9 mM_X9_354 (Nat.le_of_ble_eq_true rfl) (Nat.le_of_ble_eq_true rfl) (Nat.le_of_ble_eq_true rfl) (Nat.le_of_ble_eq_true rfl) hG (fun z4 hG => ?_)
  refine r_imul (pc := 12) X dX9_stands_12 hG (fun z5 hG => ?_)
  refine r_isub (pc := 13) X dX9_stands_13 hG (fun z6 hG => ?_)
  refine r_mmax (pc := 14) X dX9_stands_14 mM_X9_359 (Nat.le_of_ble_eq_true rfl) (Nat.le_of_ble_eq_true rfl) (Nat.le_of_ble_eq_true rfl) (Nat.le_of_ble_eq_true rfl) hG (fun z7 hG => ?_)
  refine r_iadd (pc := 17) X dX9_stands_17 hG (fun z8 hG => ?_)
  refine r_join hG (fun a9 => ∀ (y11 : Int32), a9 = y11.toInt → Ev E ad shl p l e rm_X9_stands s m args below meth c 0 0 Q 5 h 26 [none, none, none, none, none] [.int y11]) (fun a9 hG => ?_) (fun j10 Hj10 hG => ?_)
  · skip
    intro y11 ha; have ha := ha.symm; subst ha
    exact r_zretP (pc := 26) X dX9_stands_26 hQ hG
  refine r_icmp_gt (pc := 18) X dX9_stands_18 (tgt := 25) (by decide) hG (fun hG => ?_) (fun hG => ?_)
  · skip
    refine r_iconst (pc := 25) X dX9_stands_25 hG rfl (fun z12 hG => ?_)
    exact r_mask [false, false, false, false, false] rfl (Hj10 _ hG z12 rfl)
  · skip
    refine r_iconst (pc := 21) X dX9_stands_21 hG rfl (fun z13 hG => ?_)
    refine r_goto (pc := 22) X dX9_stands_22 (tgt := 26) (by decide) ?_
    exact r_mask [false, false, false, false, false] rfl (Hj10 _ hG z13 rfl)
theorem c_X9_stands {x1 : Int32} {x2 : Int32} {x3 : Int32} {x4 : Int32} {x5 : Int32} {r : Int}  (hg : g_X9_stands x1.toInt x2.toInt x3.toInt x4.toInt x5.toInt = some r) : Met l yX9_stands (wsM yX9_stands cX9_stands 5 (some .boolean)) rm_X9_stands (va_Pc [.int x1, .int x2, .int x3, .int x4, .int x5] (World E ad shl h)) (QcI E ad shl r h) 0 0 (bsA E) :=
  met_of (L0 := [some (.int x1), some (.int x2), some (.int x3), some (.int x4), some (.int x5)]) rfl rfl rfl (Nat.le_of_ble_eq_true rfl) (fun _ _ _ _ _ _ _ X => w_X9_stands  X rfl hg)
abbrev rm_X9_fits : Room := { frames := 2, cells := 0, slots := 0, locals := 45 }
theorem hdd_X9_fits : yX9_fits.cls = RX9 ∧ yX9_fits.cls ≠ "java/lang/invoke/MethodHandle" ∧ yX9_fits.cls ≠ "java/lang/invoke/VarHandle" ∧ (parseMethodDescriptor yX9_fits.desc).map (fun d => d.parameters.length) = some 4 := ⟨rfl, by decide +kernel, by decide +kernel, by decide +kernel⟩
set_option maxRecDepth 100000 in
set_option maxHeartbeats 4000000 in
theorem w_X9_fits {x1 : Int32} {x2 : Int32} {x3 : Int32} {x4 : Int32} {r : Int} (Hb0 : At_X9 shl) (X : Cx E p s m args meth c cX9_fits RX9 6 (some .boolean)) (hQ : Q = MQ below (QcI E ad shl r h) args s 0 0 (bsA E)) (hG : g_X9_fits x1.toInt x2.toInt x3.toInt x4.toInt h = some r) : Ev E ad shl p l e rm_X9_fits s m args below meth c 0 0 Q 6 h 0 [some (.ref (ad 100)), some (.int x1), some (.int x2), some (.int x3), some (.int x4), none] [] := by
  unfold g_X9_fits at hG
  refine r_iconst (pc := 0) X dX9_fits_0 hG rfl (fun z1 hG => ?_)
  refine r_istore (pc := 1) (L' := [some (.ref (ad 100)), some (.int x1), some (.int x2), some (.int x3), some (.int x4), some (.int z1)]) X dX9_fits_1 (by decide) rfl rfl ?_
  refine r_mask [true, true, true, true, true, true] rfl (r_loop (fun q2 => ∀ (y4 : Int32), q2 = y4.toInt → Ev E ad shl p l e rm_X9_fits s m args below meth c 0 0 Q 6 h 3 [some (.ref (ad 100)), some (.int x1), some (.int x2), some (.int x3), some (.int x4), some (.int y4)] []) (fun l3 Hl3 q2 hG => ?_) FU _ hG z1 rfl)
  intro y4 ha; have ha := ha.symm; subst ha
  unfold g_X9_fits_l3 at hG
  refine r_iload (pc := 3) X dX9_fits_3 rfl ?_
  refine r_aload_n (pc := 5) X dX9_fits_5 rfl rfl ?_
  refine r_getI (pc := 6) X (at_X9_o Hb0) rfl mU_X9 (k := 51) (by decide) rfl mF_X9_456 dX9_fits_6 hG (fun z5 hG => ?_)
  refine r_icmp_ge (pc := 9) X dX9_fits_9 (tgt := 72) (by decide) hG (fun hG => ?_) (fun hG => ?_)
  · skip
    refine r_iconst (pc := 72) X dX9_fits_72 hG rfl (fun z6 hG => ?_)
    exact r_zretP (pc := 73) X dX9_fits_73 hQ hG
  · skip
    refine r_aload_n (pc := 12) X dX9_fits_12 rfl rfl ?_
    refine r_getC (pc := 13) X (at_X9_o Hb0) rfl mU_X9 (k := 57) (by decide) (q := 129) rfl mF_X9_293 dX9_fits_13 ?_
    refine r_iload (pc := 16) X dX9_fits_16 rfl ?_
    refine r_iald (pc := 18) X (at_X9_triedAt Hb0) dX9_fits_18 hG (fun z7 hG => ?_)
    refine r_iload (pc := 19) X dX9_fits_19 rfl ?_
    refine r_join hG (fun _ => Ev E ad shl p l e rm_X9_fits s m args below meth c 0 0 Q 6 h 66 [some (.ref (ad 100)), some (.int x1), some (.int x2), some (.int x3), some (.int x4), some (.int y4)] []) (fun a8 hG => ?_) (fun j9 Hj9 hG => ?_)
    · skip
      refine r_iinc (pc := 66) (L' := fun z10 => [some (.ref (ad 100)), some (.int x1), some (.int x2), some (.int x3), some (.int x4), some (.int z10)]) X dX9_fits_66 (by decide) rfl rfl (by decide) (fun _ => rfl) hG (fun z10 hG => ?_)
      refine r_goto (pc := 69) X dX9_fits_69 (tgt := 3) (by decide) ?_
      exact r_mask [true, true, true, true, true, true] rfl (Hl3 _ hG z10 rfl)
    refine r_icmp_gt (pc := 21) X dX9_fits_21 (tgt := 66) (by decide) hG (fun hG => ?_) (fun hG => ?_)
    · skip
      exact r_mask [true, true, true, true, true, true] rfl (Hj9 _ hG)
    · skip
      refine r_iload_n (pc := 24) X dX9_fits_24 rfl rfl ?_
      refine r_iload_n (pc := 25) X dX9_fits_25 rfl rfl ?_
      refine r_iload_n (pc := 26) X dX9_fits_26 rfl rfl ?_
      refine r_aload_n (pc := 27) X dX9_fits_27 rfl rfl ?_
      refine r_getC (pc := 28) X (at_X9_o Hb0) rfl mU_X9 (k := 54) (by decide) (q := 126) rfl mF_X9_284 dX9_fits_28 ?_
      refine r_iload (pc := 31) X dX9_fits_31 rfl ?_
      refine r_iald (pc := 33) X (at_X9_triedWet Hb0) dX9_fits_33 hG (fun z11 hG => ?_)
      refine r_aload_n (pc := 34) X dX9_fits_34 rfl rfl ?_
      refine r_getC (pc := 35) X (at_X9_o Hb0) rfl mU_X9 (k := 55) (by decide) (q := 127) rfl mF_X9_287 dX9_fits_35 ?_
      refine r_iload (pc := 38) X dX9_fits_38 rfl ?_
      refine r_iald (pc := 40) X (at_X9_triedSteep Hb0) dX9_fits_40 hG (fun z12 hG => ?_)
      refine r_cP (pc := 41) hG (fun _ hg => runS X dX9_fits_41 (c_X9_stands  hg) mM_X9_462 mS_X9_stands mN_X9 mK_X9_stands rfl rfl hdd_X9_stands ⟨(Nat.le_of_ble_eq_true rfl), (Nat.le_of_ble_eq_true rfl)⟩ rfl rfl (Nat.le_of_ble_eq_true rfl) ⟨(Nat.le_of_ble_eq_true rfl), (Nat.le_of_ble_eq_true rfl)⟩) (fun z13 hG => ?_)
      refine r_aload_n (pc := 44) X dX9_fits_44 rfl rfl ?_
      refine r_iload (pc := 45) X dX9_fits_45 rfl ?_
      refine r_iload (pc := 47) X dX9_fits_47 rfl ?_
      refine r_cP (pc := 49) hG (fun _ hg => runV X dX9_fits_49 (c_X9_stoodBy Hb0 hg) mM_X9_466 mI_X9_stoodBy mE_X9_stoodBy mN_X9 mK_X9_stoodBy (at_X9_o Hb0) rfl rfl rfl rfl hdd_X9_stoodBy ⟨(Nat.le_of_ble_eq_true rfl), (Nat.le_of_ble_eq_true rfl)⟩ rfl rfl (Nat.le_of_ble_eq_true rfl) ⟨(Nat.le_of_ble_eq_true rfl), (Nat.le_of_ble_eq_true rfl)⟩) (fun z14 hG => ?_)
      refine r_iconst (pc := 52) X dX9_fits_52 hG rfl (fun z15 hG => ?_)
      refine r_join hG (fun a16 => ∀ (y18 : Int32), a16 = y18.toInt → Ev E ad shl p l e rm_X9_fits s m args below meth c 0 0 Q 6 h 61 [some (.ref (ad 100)), some (.int x1), some (.int x2), some (.int x3), some (.int x4), some (.int y4)] [.int y18, .int z13]) (fun a16 hG => ?_) (fun j17 Hj17 hG => ?_)
      · skip
        intro y18 ha; have ha := ha.symm; subst ha
        refine r_icmp_eq (pc := 61) X dX9_fits_61 (tgt := 66) (by decide) hG (fun hG => ?_) (fun hG => ?_)
        · skip
          exact r_mask [true, true, true, true, true, true] rfl (Hj9 _ hG)
        · skip
          refine r_iconst (pc := 64) X dX9_fits_64 hG rfl (fun z19 hG => ?_)
          exact r_zretP (pc := 65) X dX9_fits_65 hQ hG
      refine r_icmp_ne (pc := 53) X dX9_fits_53 (tgt := 60) (by decide) hG (fun hG => ?_) (fun hG => ?_)
      · skip
        refine r_iconst (pc := 60) X dX9_fits_60 hG rfl (fun z20 hG => ?_)
        exact r_mask [true, true, true, true, true, true] rfl (Hj17 _ hG z20 rfl)
      · skip
        refine r_iconst (pc := 56) X dX9_fits_56 hG rfl (fun z21 hG => ?_)
        refine r_goto (pc := 57) X dX9_fits_57 (tgt := 61) (by decide) ?_
        exact r_mask [true, true, true, true, true, true] rfl (Hj17 _ hG z21 rfl)
theorem c_X9_fits {x1 : Int32} {x2 : Int32} {x3 : Int32} {x4 : Int32} {r : Int} (Hb0 : At_X9 shl) (hg : g_X9_fits x1.toInt x2.toInt x3.toInt x4.toInt h = some r) : Met l yX9_fits (wsM yX9_fits cX9_fits 6 (some .boolean)) rm_X9_fits (va_Pc [.ref (ad 100), .int x1, .int x2, .int x3, .int x4] (World E ad shl h)) (QcI E ad shl r h) 0 0 (bsA E) :=
  met_of (L0 := [some (.ref (ad 100)), some (.int x1), some (.int x2), some (.int x3), some (.int x4), none]) rfl rfl rfl (Nat.le_of_ble_eq_true rfl) (fun _ _ _ _ _ _ _ X => w_X9_fits Hb0 X rfl hg)
abbrev rm_X9_humps : Room := { frames := 3, cells := 0, slots := 0, locals := 70 }
theorem hdd_X9_humps : yX9_humps.cls = RX9 ∧ yX9_humps.cls ≠ "java/lang/invoke/MethodHandle" ∧ yX9_humps.cls ≠ "java/lang/invoke/VarHandle" ∧ (parseMethodDescriptor yX9_humps.desc).map (fun d => d.parameters.length) = some 2 := ⟨rfl, by decide +kernel, by decide +kernel, by decide +kernel⟩
set_option maxRecDepth 100000 in
set_option maxHeartbeats 4000000 in
theorem w_X9_humps {x1 : Int32} {x2 : Int32} {r : Int} (Hb0 : At_X9 shl) (X : Cx E p s m args meth c cX9_humps RX9 11 (some .int)) (hQ : Q = MQ below (QcI E ad shl r h) args s 0 0 (bsA E)) (hG : g_X9_humps x1.toInt x2.toInt h = some r) : Ev E ad shl p l e rm_X9_humps s m args below meth c 0 0 Q 11 h 0 [some (.ref (ad 100)), some (.int x1), some (.int x2), none, none, none, none, none, none, none, none] [] := by
  unfold g_X9_humps at hG
  refine r_iload_n (pc := 0) X dX9_humps_0 rfl rfl ?_
  refine r_i2l (pc := 1) X dX9_humps_1 hG (fun z1 hG => ?_)
  refine r_lconst (pc := 2) X dX9_humps_2 hG (by decide) (fun z2 hG => ?_)
  refine r_ldc2 (pc := 3) X dX9_humps_3 mW_X9_447 hG (by decide) (fun z3 hG => ?_)
  refine r_cP (pc := 6) hG (fun _ hg => runS X dX9_humps_6 (c_X9_in  hg) mM_X9_52 mS_X9_in mN_X9 mK_X9_in rfl rfl hdd_X9_in ⟨(Nat.le_of_ble_eq_true rfl), (Nat.le_of_ble_eq_true rfl)⟩ rfl rfl (Nat.le_of_ble_eq_true rfl) ⟨(Nat.le_of_ble_eq_true rfl), (Nat.le_of_ble_eq_true rfl)⟩) (fun z4 hG => ?_)
  refine r_join hG (fun _ => Ev E ad shl p l e rm_X9_humps s m args below meth c 0 0 Q 11 h 24 [none, none, none, none, none, none, none, none, none, none, none] []) (fun a5 hG => ?_) (fun j6 Hj6 hG => ?_)
  · skip
    refine r_bipush (pc := 24) X dX9_humps_24 hG (by decide) (fun z7 hG => ?_)
    exact r_iretP (pc := 26) X dX9_humps_26 hQ hG
  refine r_if_eq (pc := 9) X dX9_humps_9 (tgt := 24) (by decide) hG (fun hG => ?_) (fun hG => ?_)
  · skip
    exact r_mask [false, false, false, false, false, false, false, false, false, false, false] rfl (Hj6 _ hG)
  · skip
    refine r_iload_n (pc := 12) X dX9_humps_12 rfl rfl ?_
    refine r_i2l (pc := 13) X dX9_humps_13 hG (fun z8 hG => ?_)
    refine r_lconst (pc := 14) X dX9_humps_14 hG (by decide) (fun z9 hG => ?_)
    refine r_ldc2 (pc := 15) X dX9_humps_15 mW_X9_425 hG (by decide) (fun z10 hG => ?_)
    refine r_cP (pc := 18) hG (fun _ hg => runS X dX9_humps_18 (c_X9_in  hg) mM_X9_52 mS_X9_in mN_X9 mK_X9_in rfl rfl hdd_X9_in ⟨(Nat.le_of_ble_eq_true rfl), (Nat.le_of_ble_eq_true rfl)⟩ rfl rfl (Nat.le_of_ble_eq_true rfl) ⟨(Nat.le_of_ble_eq_true rfl), (Nat.le_of_ble_eq_true rfl)⟩) (fun z11 hG => ?_)
    refine r_if_ne (pc := 21) X dX9_humps_21 (tgt := 27) (by decide) hG (fun hG => ?_) (fun hG => ?_)
    · skip
      refine r_iconst (pc := 27) X dX9_humps_27 hG rfl (fun z12 hG => ?_)
      refine r_istore_n (pc := 28) (L' := [some (.ref (ad 100)), some (.int x1), some (.int x2), some (.int z12), none, none, none, none, none, none, none]) X dX9_humps_28 rfl (by decide) rfl rfl ?_
      refine r_iconst (pc := 29) X dX9_humps_29 hG rfl (fun z13 hG => ?_)
      refine r_istore (pc := 30) (L' := [some (.ref (ad 100)), some (.int x1), some (.int x2), some (.int z12), some (.int z13), none, none, none, none, none, none]) X dX9_humps_30 (by decide) rfl rfl ?_
      refine r_iconst (pc := 32) X dX9_humps_32 hG rfl (fun z14 hG => ?_)
      refine r_istore (pc := 33) (L' := [some (.ref (ad 100)), some (.int x1), some (.int x2), some (.int z12), some (.int z13), some (.int z14), none, none, none, none, none]) X dX9_humps_33 (by decide) rfl rfl ?_
      refine r_iconst (pc := 35) X dX9_humps_35 hG rfl (fun z15 hG => ?_)
      refine r_istore (pc := 36) (L' := [some (.ref (ad 100)), some (.int x1), some (.int x2), some (.int z12), some (.int z13), some (.int z14), some (.int z15), none, none, none, none]) X dX9_humps_36 (by decide) rfl rfl ?_
      refine r_iconst (pc := 38) X dX9_humps_38 hG rfl (fun z16 hG => ?_)
      refine r_istore (pc := 39) (L' := [some (.ref (ad 100)), some (.int x1), some (.int x2), some (.int z12), some (.int z13), some (.int z14), some (.int z15), some (.int z16), none, none, none]) X dX9_humps_39 (by decide) rfl rfl ?_
      refine r_iconst (pc := 41) X dX9_humps_41 hG rfl (fun z17 hG => ?_)
      refine r_istore (pc := 42) (L' := [some (.ref (ad 100)), some (.int x1), some (.int x2), some (.int z12), some (.int z13), some (.int z14), some (.int z15), some (.int z16), some (.int z17), none, none]) X dX9_humps_42 (by decide) rfl rfl ?_
      refine r_join hG (fun a18 => ∀ (y20 : Int32) (y21 : Int32) (y22 : Int32) (y23 : Int32) (y24 : Int32), a18 = (y20.toInt, y21.toInt, y22.toInt, y23.toInt, y24.toInt) → Ev E ad shl p l e rm_X9_humps s m args below meth c 0 0 Q 11 h 156 [none, none, some (.int x2), some (.int y20), some (.int y21), some (.int y22), some (.int y23), some (.int y24), none, none, none] []) (fun a18 hG => ?_) (fun j19 Hj19 hG => ?_)
      · skip
        intro y20 y21 y22 y23 y24 ha; have ha := ha.symm; subst ha
        refine r_iload_n (pc := 156) X dX9_humps_156 rfl rfl ?_
        refine r_join hG (fun a25 => ∀ (y27 : Int32), a25 = y27.toInt → Ev E ad shl p l e rm_X9_humps s m args below meth c 0 0 Q 11 h 196 [none, none, none, none, none, none, none, none, none, none, none] [.int y27]) (fun a25 hG => ?_) (fun j26 Hj26 hG => ?_)
        · skip
          intro y27 ha; have ha := ha.symm; subst ha
          exact r_iretP (pc := 196) X dX9_humps_196 hQ hG
        refine r_if_ne (pc := 157) X dX9_humps_157 (tgt := 164) (by decide) hG (fun hG => ?_) (fun hG => ?_)
        · skip
          refine r_iload_n (pc := 164) X dX9_humps_164 rfl rfl ?_
          refine r_iconst (pc := 165) X dX9_humps_165 hG rfl (fun z28 hG => ?_)
          refine r_icmp_ne (pc := 166) X dX9_humps_166 (tgt := 174) (by decide) hG (fun hG => ?_) (fun hG => ?_)
          · skip
            refine r_iload_n (pc := 174) X dX9_humps_174 rfl rfl ?_
            refine r_iconst (pc := 175) X dX9_humps_175 hG rfl (fun z29 hG => ?_)
            refine r_icmp_ne (pc := 176) X dX9_humps_176 (tgt := 184) (by decide) hG (fun hG => ?_) (fun hG => ?_)
            · skip
              refine r_iload_n (pc := 184) X dX9_humps_184 rfl rfl ?_
              refine r_iconst (pc := 185) X dX9_humps_185 hG rfl (fun z30 hG => ?_)
              refine r_icmp_ne (pc := 186) X dX9_humps_186 (tgt := 194) (by decide) hG (fun hG => ?_) (fun hG => ?_)
              · skip
                refine r_iload (pc := 194) X dX9_humps_194 rfl ?_
                exact r_mask [false, false, false, false, false, false, false, false, false, false, false] rfl (Hj26 _ hG y24 rfl)
              · skip
                refine r_iload (pc := 189) X dX9_humps_189 rfl ?_
                refine r_goto (pc := 191) X dX9_humps_191 (tgt := 196) (by decide) ?_
                exact r_mask [false, false, false, false, false, false, false, false, false, false, false] rfl (Hj26 _ hG y23 rfl)
            · skip
              refine r_iload (pc := 179) X dX9_humps_179 rfl ?_
              refine r_goto (pc := 181) X dX9_humps_181 (tgt := 196) (by decide) ?_
              exact r_mask [false, false, false, false, false, false, false, false, false, false, false] rfl (Hj26 _ hG y22 rfl)
          · skip
            refine r_iload (pc := 169) X dX9_humps_169 rfl ?_
            refine r_goto (pc := 171) X dX9_humps_171 (tgt := 196) (by decide) ?_
            exact r_mask [false, false, false, false, false, false, false, false, false, false, false] rfl (Hj26 _ hG y21 rfl)
        · skip
          refine r_iload_n (pc := 160) X dX9_humps_160 rfl rfl ?_
          refine r_goto (pc := 161) X dX9_humps_161 (tgt := 196) (by decide) ?_
          exact r_mask [false, false, false, false, false, false, false, false, false, false, false] rfl (Hj26 _ hG y20 rfl)
      refine r_mask [true, true, true, true, true, true, true, true, true, false, false] rfl (r_loop (fun q31 => ∀ (y33 : Int32) (y34 : Int32) (y35 : Int32) (y36 : Int32) (y37 : Int32) (y38 : Int32), q31 = (y33.toInt, y34.toInt, y35.toInt, y36.toInt, y37.toInt, y38.toInt) → Ev E ad shl p l e rm_X9_humps s m args below meth c 0 0 Q 11 h 44 [some (.ref (ad 100)), some (.int x1), some (.int x2), some (.int y33), some (.int y34), some (.int y35), some (.int y36), some (.int y37), some (.int y38), none, none] []) (fun l32 Hl32 q31 hG => ?_) FU _ hG z12 z13 z14 z15 z16 z17 rfl)
      intro y33 y34 y35 y36 y37 y38 ha; have ha := ha.symm; subst ha
      unfold g_X9_humps_l32 at hG
      refine r_iload (pc := 44) X dX9_humps_44 rfl ?_
      refine r_bipush (pc := 46) X dX9_humps_46 hG (by decide) (fun z39 hG => ?_)
      refine r_icmp_gt (pc := 48) X dX9_humps_48 (tgt := 156) (by decide) hG (fun hG => ?_) (fun hG => ?_)
      · skip
        exact r_mask [false, false, true, true, true, true, true, true, false, false, false] rfl (Hj19 _ hG y33 y34 y35 y36 y37 rfl)
      · skip
        refine r_iconst (pc := 51) X dX9_humps_51 hG rfl (fun z40 hG => ?_)
        refine r_istore (pc := 52) (L' := [some (.ref (ad 100)), some (.int x1), some (.int x2), some (.int y33), some (.int y34), some (.int y35), some (.int y36), some (.int y37), some (.int y38), some (.int z40), none]) X dX9_humps_52 (by decide) rfl rfl ?_
        refine r_join hG (fun a41 => ∀ (y43 : Int32) (y44 : Int32) (y45 : Int32) (y46 : Int32) (y47 : Int32), a41 = (y43.toInt, y44.toInt, y45.toInt, y46.toInt, y47.toInt) → Ev E ad shl p l e rm_X9_humps s m args below meth c 0 0 Q 11 h 150 [some (.ref (ad 100)), some (.int x1), some (.int x2), some (.int y43), some (.int y44), some (.int y45), some (.int y46), some (.int y47), some (.int y38), none, none] []) (fun a41 hG => ?_) (fun j42 Hj42 hG => ?_)
        · skip
          intro y43 y44 y45 y46 y47 ha; have ha := ha.symm; subst ha
          refine r_iinc (pc := 150) (L' := fun z48 => [some (.ref (ad 100)), some (.int x1), some (.int x2), some (.int y43), some (.int y44), some (.int y45), some (.int y46), some (.int y47), some (.int z48), none, none]) X dX9_humps_150 (by decide) rfl rfl (by decide) (fun _ => rfl) hG (fun z48 hG => ?_)
          refine r_goto (pc := 153) X dX9_humps_153 (tgt := 44) (by decide) ?_
          exact r_mask [true, true, true, true, true, true, true, true, true, false, false] rfl (Hl32 _ hG y43 y44 y45 y46 y47 z48 rfl)
        refine r_mask [true, true, true, true, true, true, true, true, true, true, false] rfl (r_loop (fun q49 => ∀ (y51 : Int32) (y52 : Int32) (y53 : Int32) (y54 : Int32) (y55 : Int32) (y56 : Int32), q49 = (y51.toInt, y52.toInt, y53.toInt, y54.toInt, y55.toInt, y56.toInt) → Ev E ad shl p l e rm_X9_humps s m args below meth c 0 0 Q 11 h 54 [some (.ref (ad 100)), some (.int x1), some (.int x2), some (.int y51), some (.int y52), some (.int y53), some (.int y54), some (.int y55), some (.int y38), some (.int y56), none] []) (fun l50 Hl50 q49 hG => ?_) FU _ hG y33 y34 y35 y36 y37 z40 rfl)
        intro y51 y52 y53 y54 y55 y56 ha; have ha := ha.symm; subst ha
        unfold g_X9_humps_l50 at hG
        refine r_iload (pc := 54) X dX9_humps_54 rfl ?_
        refine r_bipush (pc := 56) X dX9_humps_56 hG (by decide) (fun z57 hG => ?_)
        refine r_icmp_gt (pc := 58) X dX9_humps_58 (tgt := 150) (by decide) hG (fun hG => ?_) (fun hG => ?_)
        · skip
          exact r_mask [true, true, true, true, true, true, true, true, true, false, false] rfl (Hj42 _ hG y51 y52 y53 y54 y55 rfl)
        · skip
          refine r_iconst (pc := 61) X dX9_humps_61 hG rfl (fun z58 hG => ?_)
          refine r_istore (pc := 62) (L' := [some (.ref (ad 100)), some (.int x1), some (.int x2), some (.int y51), some (.int y52), some (.int y53), some (.int y54), some (.int y55), some (.int y38), some (.int y56), some (.int z58)]) X dX9_humps_62 (by decide) rfl rfl ?_
          refine r_join hG (fun a59 => ∀ (y61 : Int32) (y62 : Int32) (y63 : Int32) (y64 : Int32) (y65 : Int32), a59 = (y61.toInt, y62.toInt, y63.toInt, y64.toInt, y65.toInt) → Ev E ad shl p l e rm_X9_humps s m args below meth c 0 0 Q 11 h 144 [some (.ref (ad 100)), some (.int x1), some (.int x2), some (.int y61), some (.int y62), some (.int y63), some (.int y64), some (.int y65), some (.int y38), some (.int y56), none] []) (fun a59 hG => ?_) (fun j60 Hj60 hG => ?_)
          · skip
            intro y61 y62 y63 y64 y65 ha; have ha := ha.symm; subst ha
            refine r_iinc (pc := 144) (L' := fun z66 => [some (.ref (ad 100)), some (.int x1), some (.int x2), some (.int y61), some (.int y62), some (.int y63), some (.int y64), some (.int y65), some (.int y38), some (.int z66), none]) X dX9_humps_144 (by decide) rfl rfl (by decide) (fun _ => rfl) hG (fun z66 hG => ?_)
            refine r_goto (pc := 147) X dX9_humps_147 (tgt := 54) (by decide) ?_
            exact r_mask [true, true, true, true, true, true, true, true, true, true, false] rfl (Hl50 _ hG y61 y62 y63 y64 y65 z66 rfl)
          refine r_mask [true, true, true, true, true, true, true, true, true, true, true] rfl (r_loop (fun q67 => ∀ (y69 : Int32) (y70 : Int32) (y71 : Int32) (y72 : Int32) (y73 : Int32) (y74 : Int32), q67 = (y69.toInt, y70.toInt, y71.toInt, y72.toInt, y73.toInt, y74.toInt) → Ev E ad shl p l e rm_X9_humps s m args below meth c 0 0 Q 11 h 64 [some (.ref (ad 100)), some (.int x1), some (.int x2), some (.int y69), some (.int y70), some (.int y71), some (.int y72), some (.int y73), some (.int y38), some (.int y56), some (.int y74)] []) (fun l68 Hl68 q67 hG => ?_) FU _ hG y51 y52 y53 y54 y55 z58 rfl)
          intro y69 y70 y71 y72 y73 y74 ha; have ha := ha.symm; subst ha
          unfold g_X9_humps_l68 at hG
          refine r_iload (pc := 64) X dX9_humps_64 rfl ?_
          refine r_iconst (pc := 66) X dX9_humps_66 hG rfl (fun z75 hG => ?_)
          refine r_icmp_gt (pc := 67) X dX9_humps_67 (tgt := 144) (by decide) hG (fun hG => ?_) (fun hG => ?_)
          · skip
            exact r_mask [true, true, true, true, true, true, true, true, true, true, false] rfl (Hj60 _ hG y69 y70 y71 y72 y73 rfl)
          · skip
            refine r_aload_n (pc := 70) X dX9_humps_70 rfl rfl ?_
            refine r_iload (pc := 71) X dX9_humps_71 rfl ?_
            refine r_iload (pc := 73) X dX9_humps_73 rfl ?_
            refine r_iload (pc := 75) X dX9_humps_75 rfl ?_
            refine r_iload_n (pc := 77) X dX9_humps_77 rfl rfl ?_
            refine r_cP (pc := 78) hG (fun _ hg => runV X dX9_humps_78 (c_X9_fits Hb0 hg) mM_X9_469 mI_X9_fits mE_X9_fits mN_X9 mK_X9_fits (at_X9_o Hb0) rfl rfl rfl rfl hdd_X9_fits ⟨(Nat.le_of_ble_eq_true rfl), (Nat.le_of_ble_eq_true rfl)⟩ rfl rfl (Nat.le_of_ble_eq_true rfl) ⟨(Nat.le_of_ble_eq_true rfl), (Nat.le_of_ble_eq_true rfl)⟩) (fun z76 hG => ?_)
            refine r_join hG (fun a77 => ∀ (y79 : Int32) (y80 : Int32) (y81 : Int32) (y82 : Int32) (y83 : Int32), a77 = (y79.toInt, y80.toInt, y81.toInt, y82.toInt, y83.toInt) → Ev E ad shl p l e rm_X9_humps s m args below meth c 0 0 Q 11 h 138 [some (.ref (ad 100)), some (.int x1), some (.int x2), some (.int y79), some (.int y80), some (.int y81), some (.int y82), some (.int y83), some (.int y38), some (.int y56), some (.int y74)] []) (fun a77 hG => ?_) (fun j78 Hj78 hG => ?_)
            · skip
              intro y79 y80 y81 y82 y83 ha; have ha := ha.symm; subst ha
              refine r_iinc (pc := 138) (L' := fun z84 => [some (.ref (ad 100)), some (.int x1), some (.int x2), some (.int y79), some (.int y80), some (.int y81), some (.int y82), some (.int y83), some (.int y38), some (.int y56), some (.int z84)]) X dX9_humps_138 (by decide) rfl rfl (by decide) (fun _ => rfl) hG (fun z84 hG => ?_)
              refine r_goto (pc := 141) X dX9_humps_141 (tgt := 64) (by decide) ?_
              exact r_mask [true, true, true, true, true, true, true, true, true, true, true] rfl (Hl68 _ hG y79 y80 y81 y82 y83 z84 rfl)
            refine r_if_ne (pc := 81) X dX9_humps_81 (tgt := 87) (by decide) hG (fun hG => ?_) (fun hG => ?_)
            · skip
              refine r_iinc (pc := 87) (L' := fun z85 => [some (.ref (ad 100)), some (.int x1), some (.int x2), some (.int z85), some (.int y70), some (.int y71), some (.int y72), some (.int y73), some (.int y38), some (.int y56), some (.int y74)]) X dX9_humps_87 (by decide) rfl rfl (by decide) (fun _ => rfl) hG (fun z85 hG => ?_)
              refine r_iload (pc := 90) X dX9_humps_90 rfl ?_
              refine r_iconst (pc := 92) X dX9_humps_92 hG rfl (fun z86 hG => ?_)
              refine r_join hG (fun a87 => ∀ (y89 : Int32), a87 = y89.toInt → Ev E ad shl p l e rm_X9_humps s m args below meth c 0 0 Q 11 h 103 [some (.ref (ad 100)), some (.int x1), some (.int x2), some (.int z85), none, none, some (.int y72), some (.int y73), some (.int y38), some (.int y56), some (.int y74)] [.int y89]) (fun a87 hG => ?_) (fun j88 Hj88 hG => ?_)
              · skip
                intro y89 ha; have ha := ha.symm; subst ha
                refine r_istore (pc := 103) (L' := [some (.ref (ad 100)), some (.int x1), some (.int x2), some (.int z85), some (.int y89), none, some (.int y72), some (.int y73), some (.int y38), some (.int y56), some (.int y74)]) X dX9_humps_103 (by decide) rfl rfl ?_
                refine r_iload (pc := 105) X dX9_humps_105 rfl ?_
                refine r_istore (pc := 107) (L' := [some (.ref (ad 100)), some (.int x1), some (.int x2), some (.int z85), some (.int y89), some (.int y38), some (.int y72), some (.int y73), some (.int y38), some (.int y56), some (.int y74)]) X dX9_humps_107 (by decide) rfl rfl ?_
                refine r_iload (pc := 109) X dX9_humps_109 rfl ?_
                refine r_iconst (pc := 111) X dX9_humps_111 hG rfl (fun z90 hG => ?_)
                refine r_join hG (fun a91 => ∀ (y93 : Int32), a91 = y93.toInt → Ev E ad shl p l e rm_X9_humps s m args below meth c 0 0 Q 11 h 127 [some (.ref (ad 100)), some (.int x1), some (.int x2), some (.int z85), some (.int y89), some (.int y38), none, some (.int y73), some (.int y38), some (.int y56), some (.int y74)] [.int y93]) (fun a91 hG => ?_) (fun j92 Hj92 hG => ?_)
                · skip
                  intro y93 ha; have ha := ha.symm; subst ha
                  refine r_istore (pc := 127) (L' := [some (.ref (ad 100)), some (.int x1), some (.int x2), some (.int z85), some (.int y89), some (.int y38), some (.int y93), some (.int y73), some (.int y38), some (.int y56), some (.int y74)]) X dX9_humps_127 (by decide) rfl rfl ?_
                  refine r_iload (pc := 129) X dX9_humps_129 rfl ?_
                  refine r_iload (pc := 131) X dX9_humps_131 rfl ?_
                  refine r_mmax (pc := 133) X dX9_humps_133 mM_X9_359 (Nat.le_of_ble_eq_true rfl) (Nat.le_of_ble_eq_true rfl) (Nat.le_of_ble_eq_true rfl) (Nat.le_of_ble_eq_true rfl) hG (fun z94 hG => ?_)
                  refine r_istore (pc := 136) (L' := [some (.ref (ad 100)), some (.int x1), some (.int x2), some (.int z85), some (.int y89), some (.int y38), some (.int y93), some (.int z94), some (.int y38), some (.int y56), some (.int y74)]) X dX9_humps_136 (by decide) rfl rfl ?_
                  exact r_mask [true, true, true, true, true, true, true, true, true, true, true] rfl (Hj78 _ hG z85 y89 y38 y93 z94 rfl)
                refine r_icmp_ne (pc := 112) X dX9_humps_112 (tgt := 120) (by decide) hG (fun hG => ?_) (fun hG => ?_)
                · skip
                  refine r_iload (pc := 120) X dX9_humps_120 rfl ?_
                  refine r_iload (pc := 122) X dX9_humps_122 rfl ?_
                  refine r_mmin (pc := 124) X dX9_humps_124 mM_X9_370 (Nat.le_of_ble_eq_true rfl) (Nat.le_of_ble_eq_true rfl) (Nat.le_of_ble_eq_true rfl) (Nat.le_of_ble_eq_true rfl) hG (fun z95 hG => ?_)
                  exact r_mask [true, true, true, true, true, true, false, true, true, true, true] rfl (Hj92 _ hG z95 rfl)
                · skip
                  refine r_iload (pc := 115) X dX9_humps_115 rfl ?_
                  refine r_goto (pc := 117) X dX9_humps_117 (tgt := 127) (by decide) ?_
                  exact r_mask [true, true, true, true, true, true, false, true, true, true, true] rfl (Hj92 _ hG y56 rfl)
              refine r_icmp_ne (pc := 93) X dX9_humps_93 (tgt := 101) (by decide) hG (fun hG => ?_) (fun hG => ?_)
              · skip
                refine r_iload (pc := 101) X dX9_humps_101 rfl ?_
                exact r_mask [true, true, true, true, false, false, true, true, true, true, true] rfl (Hj88 _ hG y70 rfl)
              · skip
                refine r_iload (pc := 96) X dX9_humps_96 rfl ?_
                refine r_goto (pc := 98) X dX9_humps_98 (tgt := 103) (by decide) ?_
                exact r_mask [true, true, true, true, false, false, true, true, true, true, true] rfl (Hj88 _ hG y38 rfl)
            · skip
              refine r_goto (pc := 84) X dX9_humps_84 (tgt := 138) (by decide) ?_
              exact r_mask [true, true, true, true, true, true, true, true, true, true, true] rfl (Hj78 _ hG y69 y70 y71 y72 y73 rfl)
    · skip
      exact r_mask [false, false, false, false, false, false, false, false, false, false, false] rfl (Hj6 _ hG)
theorem c_X9_humps {x1 : Int32} {x2 : Int32} {r : Int} (Hb0 : At_X9 shl) (hg : g_X9_humps x1.toInt x2.toInt h = some r) : Met l yX9_humps (wsM yX9_humps cX9_humps 11 (some .int)) rm_X9_humps (va_Pc [.ref (ad 100), .int x1, .int x2] (World E ad shl h)) (QcI E ad shl r h) 0 0 (bsA E) :=
  met_of (L0 := [some (.ref (ad 100)), some (.int x1), some (.int x2), none, none, none, none, none, none, none, none]) rfl rfl rfl (Nat.le_of_ble_eq_true rfl) (fun _ _ _ _ _ _ _ X => w_X9_humps Hb0 X rfl hg)
abbrev rm_X9_next : Room := { frames := 3, cells := 0, slots := 0, locals := 70 }
theorem hdd_X9_next : yX9_next.cls = RX9 ∧ yX9_next.cls ≠ "java/lang/invoke/MethodHandle" ∧ yX9_next.cls ≠ "java/lang/invoke/VarHandle" ∧ (parseMethodDescriptor yX9_next.desc).map (fun d => d.parameters.length) = some 0 := ⟨rfl, by decide +kernel, by decide +kernel, by decide +kernel⟩
set_option maxRecDepth 100000 in
set_option maxHeartbeats 4000000 in
theorem w_X9_next  {r : Int × Hp} (Hb0 : At_X9 shl) (X : Cx E p s m args meth c cX9_next RX9 7 (some .int)) (hQ : Q = MQ below (QcI E ad shl r.1 r.2) args s 0 0 (bsA E)) (hG : g_X9_next h = some r) : Ev E ad shl p l e rm_X9_next s m args below meth c 0 0 Q 7 h 0 [some (.ref (ad 100)), none, none, none, none, none, none] [] := by
  unfold g_X9_next at hG
  refine r_iconst (pc := 0) X dX9_next_0 hG rfl (fun z1 hG => ?_)
  refine r_istore_n (pc := 1) (L' := [some (.ref (ad 100)), some (.int z1), none, none, none, none, none]) X dX9_next_1 rfl (by decide) rfl rfl ?_
  refine r_iconst (pc := 2) X dX9_next_2 hG rfl (fun z2 hG => ?_)
  refine r_istore_n (pc := 3) (L' := [some (.ref (ad 100)), some (.int z1), some (.int z2), none, none, none, none]) X dX9_next_3 rfl (by decide) rfl rfl ?_
  refine r_join hG (fun a3 => ∀ (h5 : Hp), a3 = h5 → Ev E ad shl p l e rm_X9_next s m args below meth c 0 0 Q 7 h5 26 [some (.ref (ad 100)), some (.int z1), none, none, none, none, none] []) (fun a3 hG => ?_) (fun j4 Hj4 hG => ?_)
  · skip
    intro h5 ha; have ha := ha.symm; subst ha
    refine r_iconst (pc := 26) X dX9_next_26 hG rfl (fun z6 hG => ?_)
    refine r_istore_n (pc := 27) (L' := [some (.ref (ad 100)), some (.int z1), some (.int z6), none, none, none, none]) X dX9_next_27 rfl (by decide) rfl rfl ?_
    refine r_join hG (fun a7 => ∀ (y9 : Int32) (h10 : Hp), a7 = (y9.toInt, h10) → Ev E ad shl p l e rm_X9_next s m args below meth c 0 0 Q 7 h10 156 [some (.ref (ad 100)), some (.int y9), none, none, none, none, none] []) (fun a7 hG => ?_) (fun j8 Hj8 hG => ?_)
    · skip
      intro y9 h10 ha; have ha := ha.symm; subst ha
      refine r_iload_n (pc := 156) X dX9_next_156 rfl rfl ?_
      refine r_istore_n (pc := 157) (L' := [some (.ref (ad 100)), some (.int y9), some (.int y9), none, none, none, none]) X dX9_next_157 rfl (by decide) rfl rfl ?_
      refine r_iconst (pc := 158) X dX9_next_158 hG rfl (fun z11 hG => ?_)
      refine r_istore_n (pc := 159) (L' := [some (.ref (ad 100)), some (.int y9), some (.int y9), some (.int z11), none, none, none]) X dX9_next_159 rfl (by decide) rfl rfl ?_
      refine r_iconst (pc := 160) X dX9_next_160 hG rfl (fun z12 hG => ?_)
      refine r_istore (pc := 161) (L' := [some (.ref (ad 100)), some (.int y9), some (.int y9), some (.int z11), some (.int z12), none, none]) X dX9_next_161 (by decide) rfl rfl ?_
      refine r_mask [true, true, true, true, true, false, false] rfl (r_loop (fun q13 => ∀ (y15 : Int32) (y16 : Int32) (y17 : Int32), q13 = (y15.toInt, y16.toInt, y17.toInt) → Ev E ad shl p l e rm_X9_next s m args below meth c 0 0 Q 7 h10 163 [some (.ref (ad 100)), some (.int y9), some (.int y15), some (.int y16), some (.int y17), none, none] []) (fun l14 Hl14 q13 hG => ?_) FU _ hG y9 z11 z12 rfl)
      intro y15 y16 y17 ha; have ha := ha.symm; subst ha
      unfold g_X9_next_l14 at hG
      refine r_iload (pc := 163) X dX9_next_163 rfl ?_
      refine r_bipush (pc := 165) X dX9_next_165 hG (by decide) (fun z18 hG => ?_)
      refine r_icmp_gt (pc := 167) X dX9_next_167 (tgt := 246) (by decide) hG (fun hG => ?_) (fun hG => ?_)
      · skip
        refine r_iload_n (pc := 246) X dX9_next_246 rfl rfl ?_
        exact r_iretW (pc := 247) X dX9_next_247 hQ hG
      · skip
        refine r_iconst (pc := 170) X dX9_next_170 hG rfl (fun z19 hG => ?_)
        refine r_istore (pc := 171) (L' := [some (.ref (ad 100)), some (.int y9), some (.int y15), some (.int y16), some (.int y17), some (.int z19), none]) X dX9_next_171 (by decide) rfl rfl ?_
        refine r_join hG (fun a20 => ∀ (y22 : Int32) (y23 : Int32), a20 = (y22.toInt, y23.toInt) → Ev E ad shl p l e rm_X9_next s m args below meth c 0 0 Q 7 h10 240 [some (.ref (ad 100)), some (.int y9), some (.int y22), some (.int y23), some (.int y17), none, none] []) (fun a20 hG => ?_) (fun j21 Hj21 hG => ?_)
        · skip
          intro y22 y23 ha; have ha := ha.symm; subst ha
          refine r_iinc (pc := 240) (L' := fun z24 => [some (.ref (ad 100)), some (.int y9), some (.int y22), some (.int y23), some (.int z24), none, none]) X dX9_next_240 (by decide) rfl rfl (by decide) (fun _ => rfl) hG (fun z24 hG => ?_)
          refine r_goto (pc := 243) X dX9_next_243 (tgt := 163) (by decide) ?_
          exact r_mask [true, true, true, true, true, false, false] rfl (Hl14 _ hG y22 y23 z24 rfl)
        refine r_mask [true, true, true, true, true, true, false] rfl (r_loop (fun q25 => ∀ (y27 : Int32) (y28 : Int32) (y29 : Int32), q25 = (y27.toInt, y28.toInt, y29.toInt) → Ev E ad shl p l e rm_X9_next s m args below meth c 0 0 Q 7 h10 173 [some (.ref (ad 100)), some (.int y9), some (.int y27), some (.int y28), some (.int y17), some (.int y29), none] []) (fun l26 Hl26 q25 hG => ?_) FU _ hG y15 y16 z19 rfl)
        intro y27 y28 y29 ha; have ha := ha.symm; subst ha
        unfold g_X9_next_l26 at hG
        refine r_iload (pc := 173) X dX9_next_173 rfl ?_
        refine r_bipush (pc := 175) X dX9_next_175 hG (by decide) (fun z30 hG => ?_)
        refine r_icmp_gt (pc := 177) X dX9_next_177 (tgt := 240) (by decide) hG (fun hG => ?_) (fun hG => ?_)
        · skip
          exact r_mask [true, true, true, true, true, false, false] rfl (Hj21 _ hG y27 y28 rfl)
        · skip
          refine r_aload_n (pc := 180) X dX9_next_180 rfl rfl ?_
          refine r_getC (pc := 181) X (at_X9_o Hb0) rfl mU_X9 (k := 61) (by decide) (q := 133) rfl mF_X9_305 dX9_next_181 ?_
          refine r_bipush (pc := 184) X dX9_next_184 hG (by decide) (fun z31 hG => ?_)
          refine r_iload (pc := 186) X dX9_next_186 rfl ?_
          refine r_imul (pc := 188) X dX9_next_188 hG (fun z32 hG => ?_)
          refine r_iload (pc := 189) X dX9_next_189 rfl ?_
          refine r_iadd (pc := 191) X dX9_next_191 hG (fun z33 hG => ?_)
          refine r_iald (pc := 192) X (at_X9_standing Hb0) dX9_next_192 hG (fun z34 hG => ?_)
          refine r_iload_n (pc := 193) X dX9_next_193 rfl rfl ?_
          refine r_aload_n (pc := 194) X dX9_next_194 rfl rfl ?_
          refine r_getC (pc := 195) X (at_X9_o Hb0) rfl mU_X9 (k := 61) (by decide) (q := 133) rfl mF_X9_305 dX9_next_195 ?_
          refine r_bipush (pc := 198) X dX9_next_198 hG (by decide) (fun z35 hG => ?_)
          refine r_iload (pc := 200) X dX9_next_200 rfl ?_
          refine r_imul (pc := 202) X dX9_next_202 hG (fun z36 hG => ?_)
          refine r_iload (pc := 203) X dX9_next_203 rfl ?_
          refine r_iadd (pc := 205) X dX9_next_205 hG (fun z37 hG => ?_)
          refine r_iald (pc := 206) X (at_X9_standing Hb0) dX9_next_206 hG (fun z38 hG => ?_)
          refine r_isub (pc := 207) X dX9_next_207 hG (fun z39 hG => ?_)
          refine r_mmax (pc := 208) X dX9_next_208 mM_X9_359 (Nat.le_of_ble_eq_true rfl) (Nat.le_of_ble_eq_true rfl) (Nat.le_of_ble_eq_true rfl) (Nat.le_of_ble_eq_true rfl) hG (fun z40 hG => ?_)
          refine r_istore (pc := 211) (L' := [some (.ref (ad 100)), some (.int y9), some (.int y27), some (.int y28), some (.int y17), some (.int y29), some (.int z40)]) X dX9_next_211 (by decide) rfl rfl ?_
          refine r_iload (pc := 213) X dX9_next_213 rfl ?_
          refine r_iload_n (pc := 215) X dX9_next_215 rfl rfl ?_
          refine r_join hG (fun a41 => ∀ (y43 : Int32) (y44 : Int32), a41 = (y43.toInt, y44.toInt) → Ev E ad shl p l e rm_X9_next s m args below meth c 0 0 Q 7 h10 234 [some (.ref (ad 100)), some (.int y9), some (.int y43), some (.int y44), some (.int y17), some (.int y29), none] []) (fun a41 hG => ?_) (fun j42 Hj42 hG => ?_)
          · skip
            intro y43 y44 ha; have ha := ha.symm; subst ha
            refine r_iinc (pc := 234) (L' := fun z45 => [some (.ref (ad 100)), some (.int y9), some (.int y43), some (.int y44), some (.int y17), some (.int z45), none]) X dX9_next_234 (by decide) rfl rfl (by decide) (fun _ => rfl) hG (fun z45 hG => ?_)
            refine r_goto (pc := 237) X dX9_next_237 (tgt := 173) (by decide) ?_
            exact r_mask [true, true, true, true, true, true, false] rfl (Hl26 _ hG y43 y44 z45 rfl)
          refine r_icmp_lt (pc := 216) X dX9_next_216 (tgt := 222) (by decide) hG (fun hG => ?_) (fun hG => ?_)
          · skip
            refine r_iload (pc := 222) X dX9_next_222 rfl ?_
            refine r_istore_n (pc := 224) (L' := [some (.ref (ad 100)), some (.int y9), some (.int z40), some (.int y28), some (.int y17), some (.int y29), some (.int z40)]) X dX9_next_224 rfl (by decide) rfl rfl ?_
            refine r_bipush (pc := 225) X dX9_next_225 hG (by decide) (fun z46 hG => ?_)
            refine r_iload (pc := 227) X dX9_next_227 rfl ?_
            refine r_imul (pc := 229) X dX9_next_229 hG (fun z47 hG => ?_)
            refine r_iload (pc := 230) X dX9_next_230 rfl ?_
            refine r_iadd (pc := 232) X dX9_next_232 hG (fun z48 hG => ?_)
            refine r_istore_n (pc := 233) (L' := [some (.ref (ad 100)), some (.int y9), some (.int z40), some (.int z48), some (.int y17), some (.int y29), some (.int z40)]) X dX9_next_233 rfl (by decide) rfl rfl ?_
            exact r_mask [true, true, true, true, true, true, false] rfl (Hj42 _ hG z40 z48 rfl)
          · skip
            refine r_goto (pc := 219) X dX9_next_219 (tgt := 234) (by decide) ?_
            exact r_mask [true, true, true, true, true, true, false] rfl (Hj42 _ hG y27 y28 rfl)
    refine r_mask [true, true, true, false, false, false, false] rfl (r_loop (fun q49 => ∀ (y51 : Int32) (y52 : Int32) (h53 : Hp), q49 = (y51.toInt, y52.toInt, h53) → Ev E ad shl p l e rm_X9_next s m args below meth c 0 0 Q 7 h53 28 [some (.ref (ad 100)), some (.int y51), some (.int y52), none, none, none, none] []) (fun l50 Hl50 q49 hG => ?_) FU _ hG z1 z6 h5 rfl)
    intro y51 y52 h53 ha; have ha := ha.symm; subst ha
    unfold g_X9_next_l50 at hG
    refine r_iload_n (pc := 28) X dX9_next_28 rfl rfl ?_
    refine r_bipush (pc := 29) X dX9_next_29 hG (by decide) (fun z54 hG => ?_)
    refine r_icmp_gt (pc := 31) X dX9_next_31 (tgt := 156) (by decide) hG (fun hG => ?_) (fun hG => ?_)
    · skip
      exact r_mask [true, true, false, false, false, false, false] rfl (Hj8 _ hG y51 h53 rfl)
    · skip
      refine r_iconst (pc := 34) X dX9_next_34 hG rfl (fun z55 hG => ?_)
      refine r_istore_n (pc := 35) (L' := [some (.ref (ad 100)), some (.int y51), some (.int y52), some (.int z55), none, none, none]) X dX9_next_35 rfl (by decide) rfl rfl ?_
      refine r_join hG (fun a56 => ∀ (y58 : Int32) (h59 : Hp), a56 = (y58.toInt, h59) → Ev E ad shl p l e rm_X9_next s m args below meth c 0 0 Q 7 h59 150 [some (.ref (ad 100)), some (.int y58), some (.int y52), none, none, none, none] []) (fun a56 hG => ?_) (fun j57 Hj57 hG => ?_)
      · skip
        intro y58 h59 ha; have ha := ha.symm; subst ha
        refine r_iinc (pc := 150) (L' := fun z60 => [some (.ref (ad 100)), some (.int y58), some (.int z60), none, none, none, none]) X dX9_next_150 (by decide) rfl rfl (by decide) (fun _ => rfl) hG (fun z60 hG => ?_)
        refine r_goto (pc := 153) X dX9_next_153 (tgt := 28) (by decide) ?_
        exact r_mask [true, true, true, false, false, false, false] rfl (Hl50 _ hG y58 z60 h59 rfl)
      refine r_mask [true, true, true, true, false, false, false] rfl (r_loop (fun q61 => ∀ (y63 : Int32) (y64 : Int32) (h65 : Hp), q61 = (y63.toInt, y64.toInt, h65) → Ev E ad shl p l e rm_X9_next s m args below meth c 0 0 Q 7 h65 36 [some (.ref (ad 100)), some (.int y63), some (.int y52), some (.int y64), none, none, none] []) (fun l62 Hl62 q61 hG => ?_) FU _ hG y51 z55 h53 rfl)
      intro y63 y64 h65 ha; have ha := ha.symm; subst ha
      unfold g_X9_next_l62 at hG
      refine r_iload_n (pc := 36) X dX9_next_36 rfl rfl ?_
      refine r_bipush (pc := 37) X dX9_next_37 hG (by decide) (fun z66 hG => ?_)
      refine r_icmp_gt (pc := 39) X dX9_next_39 (tgt := 150) (by decide) hG (fun hG => ?_) (fun hG => ?_)
      · skip
        exact r_mask [true, true, true, false, false, false, false] rfl (Hj57 _ hG y63 h65 rfl)
      · skip
        refine r_iconst (pc := 42) X dX9_next_42 hG rfl (fun z67 hG => ?_)
        refine r_istore (pc := 43) (L' := [some (.ref (ad 100)), some (.int y63), some (.int y52), some (.int y64), some (.int z67), none, none]) X dX9_next_43 (by decide) rfl rfl ?_
        refine r_join hG (fun a68 => ∀ (y70 : Int32) (h71 : Hp), a68 = (y70.toInt, h71) → Ev E ad shl p l e rm_X9_next s m args below meth c 0 0 Q 7 h71 144 [some (.ref (ad 100)), some (.int y70), some (.int y52), some (.int y64), none, none, none] []) (fun a68 hG => ?_) (fun j69 Hj69 hG => ?_)
        · skip
          intro y70 h71 ha; have ha := ha.symm; subst ha
          refine r_iinc (pc := 144) (L' := fun z72 => [some (.ref (ad 100)), some (.int y70), some (.int y52), some (.int z72), none, none, none]) X dX9_next_144 (by decide) rfl rfl (by decide) (fun _ => rfl) hG (fun z72 hG => ?_)
          refine r_goto (pc := 147) X dX9_next_147 (tgt := 36) (by decide) ?_
          exact r_mask [true, true, true, true, false, false, false] rfl (Hl62 _ hG y70 z72 h71 rfl)
        refine r_mask [true, true, true, true, true, false, false] rfl (r_loop (fun q73 => ∀ (y75 : Int32) (y76 : Int32) (h77 : Hp), q73 = (y75.toInt, y76.toInt, h77) → Ev E ad shl p l e rm_X9_next s m args below meth c 0 0 Q 7 h77 45 [some (.ref (ad 100)), some (.int y75), some (.int y52), some (.int y64), some (.int y76), none, none] []) (fun l74 Hl74 q73 hG => ?_) FU _ hG y63 z67 h65 rfl)
        intro y75 y76 h77 ha; have ha := ha.symm; subst ha
        unfold g_X9_next_l74 at hG
        refine r_iload (pc := 45) X dX9_next_45 rfl ?_
        refine r_iconst (pc := 47) X dX9_next_47 hG rfl (fun z78 hG => ?_)
        refine r_icmp_gt (pc := 48) X dX9_next_48 (tgt := 144) (by decide) hG (fun hG => ?_) (fun hG => ?_)
        · skip
          exact r_mask [true, true, true, true, false, false, false] rfl (Hj69 _ hG y75 h77 rfl)
        · skip
          refine r_aload_n (pc := 51) X dX9_next_51 rfl rfl ?_
          refine r_iload_n (pc := 52) X dX9_next_52 rfl rfl ?_
          refine r_iload_n (pc := 53) X dX9_next_53 rfl rfl ?_
          refine r_iload (pc := 54) X dX9_next_54 rfl ?_
          refine r_sipush (pc := 56) X dX9_next_56 hG (by decide) (fun z79 hG => ?_)
          refine r_cP (pc := 59) hG (fun _ hg => runV X dX9_next_59 (c_X9_fits Hb0 hg) mM_X9_469 mI_X9_fits mE_X9_fits mN_X9 mK_X9_fits (at_X9_o Hb0) rfl rfl rfl rfl hdd_X9_fits ⟨(Nat.le_of_ble_eq_true rfl), (Nat.le_of_ble_eq_true rfl)⟩ rfl rfl (Nat.le_of_ble_eq_true rfl) ⟨(Nat.le_of_ble_eq_true rfl), (Nat.le_of_ble_eq_true rfl)⟩) (fun z80 hG => ?_)
          refine r_join hG (fun a81 => ∀ (y83 : Int32) (h84 : Hp), a81 = (y83.toInt, h84) → Ev E ad shl p l e rm_X9_next s m args below meth c 0 0 Q 7 h84 138 [some (.ref (ad 100)), some (.int y83), some (.int y52), some (.int y64), some (.int y76), none, none] []) (fun a81 hG => ?_) (fun j82 Hj82 hG => ?_)
          · skip
            intro y83 h84 ha; have ha := ha.symm; subst ha
            refine r_iinc (pc := 138) (L' := fun z85 => [some (.ref (ad 100)), some (.int y83), some (.int y52), some (.int y64), some (.int z85), none, none]) X dX9_next_138 (by decide) rfl rfl (by decide) (fun _ => rfl) hG (fun z85 hG => ?_)
            refine r_goto (pc := 141) X dX9_next_141 (tgt := 45) (by decide) ?_
            exact r_mask [true, true, true, true, true, false, false] rfl (Hl74 _ hG y83 z85 h84 rfl)
          refine r_if_ne (pc := 62) X dX9_next_62 (tgt := 68) (by decide) hG (fun hG => ?_) (fun hG => ?_)
          · skip
            refine r_iinc (pc := 68) (L' := fun z86 => [some (.ref (ad 100)), some (.int z86), some (.int y52), some (.int y64), some (.int y76), none, none]) X dX9_next_68 (by decide) rfl rfl (by decide) (fun _ => rfl) hG (fun z86 hG => ?_)
            refine r_iconst (pc := 71) X dX9_next_71 hG rfl (fun z87 hG => ?_)
            refine r_istore (pc := 72) (L' := [some (.ref (ad 100)), some (.int z86), some (.int y52), some (.int y64), some (.int y76), some (.int z87), none]) X dX9_next_72 (by decide) rfl rfl ?_
            refine r_mask [true, true, true, true, true, true, false] rfl (r_loop (fun q88 => ∀ (y90 : Int32) (h91 : Hp), q88 = (y90.toInt, h91) → Ev E ad shl p l e rm_X9_next s m args below meth c 0 0 Q 7 h91 74 [some (.ref (ad 100)), some (.int z86), some (.int y52), some (.int y64), some (.int y76), some (.int y90), none] []) (fun l89 Hl89 q88 hG => ?_) FU _ hG z87 h77 rfl)
            intro y90 h91 ha; have ha := ha.symm; subst ha
            unfold g_X9_next_l89 at hG
            refine r_iload (pc := 74) X dX9_next_74 rfl ?_
            refine r_bipush (pc := 76) X dX9_next_76 hG (by decide) (fun z92 hG => ?_)
            refine r_icmp_gt (pc := 78) X dX9_next_78 (tgt := 138) (by decide) hG (fun hG => ?_) (fun hG => ?_)
            · skip
              exact r_mask [true, true, true, true, true, false, false] rfl (Hj82 _ hG z86 h91 rfl)
            · skip
              refine r_iconst (pc := 81) X dX9_next_81 hG rfl (fun z93 hG => ?_)
              refine r_istore (pc := 82) (L' := [some (.ref (ad 100)), some (.int z86), some (.int y52), some (.int y64), some (.int y76), some (.int y90), some (.int z93)]) X dX9_next_82 (by decide) rfl rfl ?_
              refine r_join hG (fun a94 => ∀ (h96 : Hp), a94 = h96 → Ev E ad shl p l e rm_X9_next s m args below meth c 0 0 Q 7 h96 132 [some (.ref (ad 100)), some (.int z86), some (.int y52), some (.int y64), some (.int y76), some (.int y90), none] []) (fun a94 hG => ?_) (fun j95 Hj95 hG => ?_)
              · skip
                intro h96 ha; have ha := ha.symm; subst ha
                refine r_iinc (pc := 132) (L' := fun z97 => [some (.ref (ad 100)), some (.int z86), some (.int y52), some (.int y64), some (.int y76), some (.int z97), none]) X dX9_next_132 (by decide) rfl rfl (by decide) (fun _ => rfl) hG (fun z97 hG => ?_)
                refine r_goto (pc := 135) X dX9_next_135 (tgt := 74) (by decide) ?_
                exact r_mask [true, true, true, true, true, true, false] rfl (Hl89 _ hG z97 h96 rfl)
              refine r_mask [true, true, true, true, true, true, true] rfl (r_loop (fun q98 => ∀ (y100 : Int32) (h101 : Hp), q98 = (y100.toInt, h101) → Ev E ad shl p l e rm_X9_next s m args below meth c 0 0 Q 7 h101 84 [some (.ref (ad 100)), some (.int z86), some (.int y52), some (.int y64), some (.int y76), some (.int y90), some (.int y100)] []) (fun l99 Hl99 q98 hG => ?_) FU _ hG z93 h91 rfl)
              intro y100 h101 ha; have ha := ha.symm; subst ha
              unfold g_X9_next_l99 at hG
              refine r_iload (pc := 84) X dX9_next_84 rfl ?_
              refine r_bipush (pc := 86) X dX9_next_86 hG (by decide) (fun z102 hG => ?_)
              refine r_icmp_gt (pc := 88) X dX9_next_88 (tgt := 132) (by decide) hG (fun hG => ?_) (fun hG => ?_)
              · skip
                exact r_mask [true, true, true, true, true, true, false] rfl (Hj95 _ hG h101 rfl)
              · skip
                refine r_aload_n (pc := 91) X dX9_next_91 rfl rfl ?_
                refine r_getC (pc := 92) X (at_X9_o Hb0) rfl mU_X9 (k := 61) (by decide) (q := 133) rfl mF_X9_305 dX9_next_92 ?_
                refine r_bipush (pc := 95) X dX9_next_95 hG (by decide) (fun z103 hG => ?_)
                refine r_iload (pc := 97) X dX9_next_97 rfl ?_
                refine r_imul (pc := 99) X dX9_next_99 hG (fun z104 hG => ?_)
                refine r_iload (pc := 100) X dX9_next_100 rfl ?_
                refine r_iadd (pc := 102) X dX9_next_102 hG (fun z105 hG => ?_)
                refine r_dup2 (pc := 103) X dX9_next_103 rfl rfl ?_
                refine r_iald (pc := 104) X (at_X9_standing Hb0) dX9_next_104 hG (fun z106 hG => ?_)
                refine r_iload_n (pc := 105) X dX9_next_105 rfl rfl ?_
                refine r_iload_n (pc := 106) X dX9_next_106 rfl rfl ?_
                refine r_iload (pc := 107) X dX9_next_107 rfl ?_
                refine r_iload (pc := 109) X dX9_next_109 rfl ?_
                refine r_iload (pc := 111) X dX9_next_111 rfl ?_
                refine r_cP (pc := 113) hG (fun _ hg => runS X dX9_next_113 (c_X9_stands  hg) mM_X9_462 mS_X9_stands mN_X9 mK_X9_stands rfl rfl hdd_X9_stands ⟨(Nat.le_of_ble_eq_true rfl), (Nat.le_of_ble_eq_true rfl)⟩ rfl rfl (Nat.le_of_ble_eq_true rfl) ⟨(Nat.le_of_ble_eq_true rfl), (Nat.le_of_ble_eq_true rfl)⟩) (fun z107 hG => ?_)
                refine r_join hG (fun a108 => ∀ (y110 : Int32), a108 = y110.toInt → Ev E ad shl p l e rm_X9_next s m args below meth c 0 0 Q 7 h101 124 [some (.ref (ad 100)), some (.int z86), some (.int y52), some (.int y64), some (.int y76), some (.int y90), some (.int y100)] [.int y110, .int z106, .int z105, .ref (ad 133)]) (fun a108 hG => ?_) (fun j109 Hj109 hG => ?_)
                · skip
                  intro y110 ha; have ha := ha.symm; subst ha
                  refine r_iadd (pc := 124) X dX9_next_124 hG (fun z111 hG => ?_)
                  refine r_iast (pc := 125) X (at_X9_standing Hb0) dX9_next_125 hG (fun h112 hG => ?_)
                  refine r_iinc (pc := 126) (L' := fun z113 => [some (.ref (ad 100)), some (.int z86), some (.int y52), some (.int y64), some (.int y76), some (.int y90), some (.int z113)]) X dX9_next_126 (by decide) rfl rfl (by decide) (fun _ => rfl) hG (fun z113 hG => ?_)
                  refine r_goto (pc := 129) X dX9_next_129 (tgt := 84) (by decide) ?_
                  exact r_mask [true, true, true, true, true, true, true] rfl (Hl99 _ hG z113 h112 rfl)
                refine r_if_eq (pc := 116) X dX9_next_116 (tgt := 123) (by decide) hG (fun hG => ?_) (fun hG => ?_)
                · skip
                  refine r_iconst (pc := 123) X dX9_next_123 hG rfl (fun z114 hG => ?_)
                  exact r_mask [true, true, true, true, true, true, true] rfl (Hj109 _ hG z114 rfl)
                · skip
                  refine r_iconst (pc := 119) X dX9_next_119 hG rfl (fun z115 hG => ?_)
                  refine r_goto (pc := 120) X dX9_next_120 (tgt := 124) (by decide) ?_
                  exact r_mask [true, true, true, true, true, true, true] rfl (Hj109 _ hG z115 rfl)
          · skip
            refine r_goto (pc := 65) X dX9_next_65 (tgt := 138) (by decide) ?_
            exact r_mask [true, true, true, true, true, false, false] rfl (Hj82 _ hG y75 h77 rfl)
  refine r_mask [true, true, true, false, false, false, false] rfl (r_loop (fun q116 => ∀ (y118 : Int32) (h119 : Hp), q116 = (y118.toInt, h119) → Ev E ad shl p l e rm_X9_next s m args below meth c 0 0 Q 7 h119 4 [some (.ref (ad 100)), some (.int z1), some (.int y118), none, none, none, none] []) (fun l117 Hl117 q116 hG => ?_) FU _ hG z2 h rfl)
  intro y118 h119 ha; have ha := ha.symm; subst ha
  unfold g_X9_next_l117 at hG
  refine r_iload_n (pc := 4) X dX9_next_4 rfl rfl ?_
  refine r_aload_n (pc := 5) X dX9_next_5 rfl rfl ?_
  refine r_getC (pc := 6) X (at_X9_o Hb0) rfl mU_X9 (k := 61) (by decide) (q := 133) rfl mF_X9_305 dX9_next_6 ?_
  refine r_alen (pc := 9) X (at_X9_standing Hb0) (by decide) dX9_next_9 (by decide) hG (fun z120 hG => ?_)
  refine r_icmp_ge (pc := 10) X dX9_next_10 (tgt := 26) (by decide) hG (fun hG => ?_) (fun hG => ?_)
  · skip
    exact r_mask [true, true, false, false, false, false, false] rfl (Hj4 _ hG h119 rfl)
  · skip
    refine r_aload_n (pc := 13) X dX9_next_13 rfl rfl ?_
    refine r_getC (pc := 14) X (at_X9_o Hb0) rfl mU_X9 (k := 61) (by decide) (q := 133) rfl mF_X9_305 dX9_next_14 ?_
    refine r_iload_n (pc := 17) X dX9_next_17 rfl rfl ?_
    refine r_iconst (pc := 18) X dX9_next_18 hG rfl (fun z121 hG => ?_)
    refine r_iast (pc := 19) X (at_X9_standing Hb0) dX9_next_19 hG (fun h122 hG => ?_)
    refine r_iinc (pc := 20) (L' := fun z123 => [some (.ref (ad 100)), some (.int z1), some (.int z123), none, none, none, none]) X dX9_next_20 (by decide) rfl rfl (by decide) (fun _ => rfl) hG (fun z123 hG => ?_)
    refine r_goto (pc := 23) X dX9_next_23 (tgt := 4) (by decide) ?_
    exact r_mask [true, true, true, false, false, false, false] rfl (Hl117 _ hG z123 h122 rfl)
theorem c_X9_next  {r : Int × Hp} (Hb0 : At_X9 shl) (hg : g_X9_next h = some r) : Met l yX9_next (wsM yX9_next cX9_next 7 (some .int)) rm_X9_next (va_Pc [.ref (ad 100)] (World E ad shl h)) (QcI E ad shl r.1 r.2) 0 0 (bsA E) :=
  met_of (L0 := [some (.ref (ad 100)), none, none, none, none, none, none]) rfl rfl rfl (Nat.le_of_ble_eq_true rfl) (fun _ _ _ _ _ _ _ X => w_X9_next Hb0 X rfl hg)
abbrev rm_X9_beginTrial : Room := { frames := 1, cells := 0, slots := 0, locals := 22 }
theorem hdd_X9_beginTrial : yX9_beginTrial.cls = RX9 ∧ yX9_beginTrial.cls ≠ "java/lang/invoke/MethodHandle" ∧ yX9_beginTrial.cls ≠ "java/lang/invoke/VarHandle" ∧ (parseMethodDescriptor yX9_beginTrial.desc).map (fun d => d.parameters.length) = some 2 := ⟨rfl, by decide +kernel, by decide +kernel, by decide +kernel⟩
set_option maxRecDepth 100000 in
set_option maxHeartbeats 4000000 in
theorem w_X9_beginTrial {x1 : Int32} {x2 : Int32} {r : Hp} (Hb0 : At_X9 shl) (X : Cx E p s m args meth c cX9_beginTrial RX9 4 none) (hQ : Q = MQ below (QcV E ad shl r) args s 0 0 (bsA E)) (hG : g_X9_beginTrial x1.toInt x2.toInt h = some r) : Ev E ad shl p l e rm_X9_beginTrial s m args below meth c 0 0 Q 4 h 0 [some (.ref (ad 100)), some (.int x1), some (.int x2), none] [] := by
  unfold g_X9_beginTrial at hG
  refine r_iconst (pc := 0) X dX9_beginTrial_0 hG rfl (fun z1 hG => ?_)
  refine r_istore_n (pc := 1) (L' := [some (.ref (ad 100)), some (.int x1), some (.int x2), some (.int z1)]) X dX9_beginTrial_1 rfl (by decide) rfl rfl ?_
  refine r_join hG (fun a2 => ∀ (h4 : Hp), a2 = h4 → Ev E ad shl p l e rm_X9_beginTrial s m args below meth c 0 0 Q 4 h4 27 [some (.ref (ad 100)), some (.int x1), some (.int x2), none] []) (fun a2 hG => ?_) (fun j3 Hj3 hG => ?_)
  · skip
    intro h4 ha; have ha := ha.symm; subst ha
    refine r_aload_n (pc := 27) X dX9_beginTrial_27 rfl rfl ?_
    refine r_getC (pc := 28) X (at_X9_o Hb0) rfl mU_X9 (k := 47) (by decide) (q := 122) rfl mF_X9_272 dX9_beginTrial_28 ?_
    refine r_sipush (pc := 31) X dX9_beginTrial_31 hG (by decide) (fun z5 hG => ?_)
    refine r_iload_n (pc := 34) X dX9_beginTrial_34 rfl rfl ?_
    refine r_iast (pc := 35) X (at_X9_trial Hb0) dX9_beginTrial_35 hG (fun h6 hG => ?_)
    refine r_aload_n (pc := 36) X dX9_beginTrial_36 rfl rfl ?_
    refine r_getC (pc := 37) X (at_X9_o Hb0) rfl mU_X9 (k := 47) (by decide) (q := 122) rfl mF_X9_272 dX9_beginTrial_37 ?_
    refine r_iload_n (pc := 40) X dX9_beginTrial_40 rfl rfl ?_
    refine r_cV (pc := 41) hG (fun _ hg => runS X dX9_beginTrial_41 (c_X9_putPlan (at_X9_trial Hb0) hg) mM_X9_417 mS_X9_putPlan mN_X9 mK_X9_putPlan rfl rfl hdd_X9_putPlan ⟨(Nat.le_of_ble_eq_true rfl), (Nat.le_of_ble_eq_true rfl)⟩ rfl rfl (Nat.le_of_ble_eq_true rfl) ⟨(Nat.le_of_ble_eq_true rfl), (Nat.le_of_ble_eq_true rfl)⟩) (fun h7 hG => ?_)
    exact r_vret (pc := 44) X dX9_beginTrial_44 hQ hG
  refine r_mask [true, true, true, true] rfl (r_loop (fun q8 => ∀ (y10 : Int32) (h11 : Hp), q8 = (y10.toInt, h11) → Ev E ad shl p l e rm_X9_beginTrial s m args below meth c 0 0 Q 4 h11 2 [some (.ref (ad 100)), some (.int x1), some (.int x2), some (.int y10)] []) (fun l9 Hl9 q8 hG => ?_) FU _ hG z1 h rfl)
  intro y10 h11 ha; have ha := ha.symm; subst ha
  unfold g_X9_beginTrial_l9 at hG
  refine r_iload_n (pc := 2) X dX9_beginTrial_2 rfl rfl ?_
  refine r_sipush (pc := 3) X dX9_beginTrial_3 hG (by decide) (fun z12 hG => ?_)
  refine r_icmp_ge (pc := 6) X dX9_beginTrial_6 (tgt := 27) (by decide) hG (fun hG => ?_) (fun hG => ?_)
  · skip
    exact r_mask [true, true, true, false] rfl (Hj3 _ hG h11 rfl)
  · skip
    refine r_aload_n (pc := 9) X dX9_beginTrial_9 rfl rfl ?_
    refine r_getC (pc := 10) X (at_X9_o Hb0) rfl mU_X9 (k := 47) (by decide) (q := 122) rfl mF_X9_272 dX9_beginTrial_10 ?_
    refine r_iload_n (pc := 13) X dX9_beginTrial_13 rfl rfl ?_
    refine r_aload_n (pc := 14) X dX9_beginTrial_14 rfl rfl ?_
    refine r_getC (pc := 15) X (at_X9_o Hb0) rfl mU_X9 (k := 46) (by decide) (q := 121) rfl mF_X9_269 dX9_beginTrial_15 ?_
    refine r_iload_n (pc := 18) X dX9_beginTrial_18 rfl rfl ?_
    refine r_iald (pc := 19) X (at_X9_now Hb0) dX9_beginTrial_19 hG (fun z13 hG => ?_)
    refine r_iast (pc := 20) X (at_X9_trial Hb0) dX9_beginTrial_20 hG (fun h14 hG => ?_)
    refine r_iinc (pc := 21) (L' := fun z15 => [some (.ref (ad 100)), some (.int x1), some (.int x2), some (.int z15)]) X dX9_beginTrial_21 (by decide) rfl rfl (by decide) (fun _ => rfl) hG (fun z15 hG => ?_)
    refine r_goto (pc := 24) X dX9_beginTrial_24 (tgt := 2) (by decide) ?_
    exact r_mask [true, true, true, true] rfl (Hl9 _ hG z15 h14 rfl)
theorem c_X9_beginTrial {x1 : Int32} {x2 : Int32} {r : Hp} (Hb0 : At_X9 shl) (hg : g_X9_beginTrial x1.toInt x2.toInt h = some r) : Met l yX9_beginTrial (wsM yX9_beginTrial cX9_beginTrial 4 none) rm_X9_beginTrial (va_Pc [.ref (ad 100), .int x1, .int x2] (World E ad shl h)) (QcV E ad shl r) 0 0 (bsA E) :=
  met_of (L0 := [some (.ref (ad 100)), some (.int x1), some (.int x2), none]) rfl rfl rfl (Nat.le_of_ble_eq_true rfl) (fun _ _ _ _ _ _ _ X => w_X9_beginTrial Hb0 X rfl hg)
abbrev rm_X9_lastOf : Room := { frames := 1, cells := 0, slots := 0, locals := 21 }
theorem hdd_X9_lastOf : yX9_lastOf.cls = RX9 ∧ yX9_lastOf.cls ≠ "java/lang/invoke/MethodHandle" ∧ yX9_lastOf.cls ≠ "java/lang/invoke/VarHandle" ∧ (parseMethodDescriptor yX9_lastOf.desc).map (fun d => d.parameters.length) = some 2 := ⟨rfl, by decide +kernel, by decide +kernel, by decide +kernel⟩
set_option maxRecDepth 100000 in
set_option maxHeartbeats 4000000 in
theorem w_X9_lastOf {x1 : Int32} {x2 : Int32} {r : Int} (Hb0 : At_X9 shl) (X : Cx E p s m args meth c cX9_lastOf RX9 3 (some .int)) (hQ : Q = MQ below (QcI E ad shl r h) args s 0 0 (bsA E)) (hG : g_X9_lastOf x1.toInt x2.toInt h = some r) : Ev E ad shl p l e rm_X9_lastOf s m args below meth c 0 0 Q 3 h 0 [some (.ref (ad 100)), some (.int x1), some (.int x2)] [] := by
  unfold g_X9_lastOf at hG
  refine r_aload_n (pc := 0) X dX9_lastOf_0 rfl rfl ?_
  refine r_getC (pc := 1) X (at_X9_o Hb0) rfl mU_X9 (k := 47) (by decide) (q := 122) rfl mF_X9_272 dX9_lastOf_1 ?_
  refine r_sipush (pc := 4) X dX9_lastOf_4 hG (by decide) (fun z1 hG => ?_)
  refine r_iload_n (pc := 7) X dX9_lastOf_7 rfl rfl ?_
  refine r_iadd (pc := 8) X dX9_lastOf_8 hG (fun z2 hG => ?_)
  refine r_iald (pc := 9) X (at_X9_trial Hb0) dX9_lastOf_9 hG (fun z3 hG => ?_)
  refine r_iconst (pc := 10) X dX9_lastOf_10 hG rfl (fun z4 hG => ?_)
  refine r_icmp_ne (pc := 11) X dX9_lastOf_11 (tgt := 16) (by decide) hG (fun hG => ?_) (fun hG => ?_)
  · skip
    refine r_iconst (pc := 16) X dX9_lastOf_16 hG rfl (fun z5 hG => ?_)
    refine r_aload_n (pc := 17) X dX9_lastOf_17 rfl rfl ?_
    refine r_getC (pc := 18) X (at_X9_o Hb0) rfl mU_X9 (k := 47) (by decide) (q := 122) rfl mF_X9_272 dX9_lastOf_18 ?_
    refine r_sipush (pc := 21) X dX9_lastOf_21 hG (by decide) (fun z6 hG => ?_)
    refine r_iload_n (pc := 24) X dX9_lastOf_24 rfl rfl ?_
    refine r_iadd (pc := 25) X dX9_lastOf_25 hG (fun z7 hG => ?_)
    refine r_iald (pc := 26) X (at_X9_trial Hb0) dX9_lastOf_26 hG (fun z8 hG => ?_)
    refine r_aload_n (pc := 27) X dX9_lastOf_27 rfl rfl ?_
    refine r_getC (pc := 28) X (at_X9_o Hb0) rfl mU_X9 (k := 46) (by decide) (q := 121) rfl mF_X9_269 dX9_lastOf_28 ?_
    refine r_sipush (pc := 31) X dX9_lastOf_31 hG (by decide) (fun z9 hG => ?_)
    refine r_iald (pc := 34) X (at_X9_now Hb0) dX9_lastOf_34 hG (fun z10 hG => ?_)
    refine r_isub (pc := 35) X dX9_lastOf_35 hG (fun z11 hG => ?_)
    refine r_mmax (pc := 36) X dX9_lastOf_36 mM_X9_359 (Nat.le_of_ble_eq_true rfl) (Nat.le_of_ble_eq_true rfl) (Nat.le_of_ble_eq_true rfl) (Nat.le_of_ble_eq_true rfl) hG (fun z12 hG => ?_)
    exact r_iretP (pc := 39) X dX9_lastOf_39 hQ hG
  · skip
    refine r_iload_n (pc := 14) X dX9_lastOf_14 rfl rfl ?_
    exact r_iretP (pc := 15) X dX9_lastOf_15 hQ hG
theorem c_X9_lastOf {x1 : Int32} {x2 : Int32} {r : Int} (Hb0 : At_X9 shl) (hg : g_X9_lastOf x1.toInt x2.toInt h = some r) : Met l yX9_lastOf (wsM yX9_lastOf cX9_lastOf 3 (some .int)) rm_X9_lastOf (va_Pc [.ref (ad 100), .int x1, .int x2] (World E ad shl h)) (QcI E ad shl r h) 0 0 (bsA E) :=
  met_of (L0 := [some (.ref (ad 100)), some (.int x1), some (.int x2)]) rfl rfl rfl (Nat.le_of_ble_eq_true rfl) (fun _ _ _ _ _ _ _ X => w_X9_lastOf Hb0 X rfl hg)
abbrev rm_X9_areMinutes : Room := { frames := 1, cells := 0, slots := 0, locals := 25 }
theorem hdd_X9_areMinutes : yX9_areMinutes.cls ≠ "java/lang/invoke/MethodHandle" ∧ yX9_areMinutes.cls ≠ "java/lang/invoke/VarHandle" ∧ (parseMethodDescriptor yX9_areMinutes.desc).map (fun d => d.parameters.length) = some 1 := ⟨by decide +kernel, by decide +kernel, by decide +kernel⟩
set_option maxRecDepth 100000 in
set_option maxHeartbeats 4000000 in
theorem w_X9_areMinutes {x1 : Int32} {r : Int}  (X : Cx E p s m args meth c cX9_areMinutes RX9 1 (some .boolean)) (hQ : Q = MQ below (QcI E ad shl r h) args s 0 0 (bsA E)) (hG : g_X9_areMinutes x1.toInt = some r) : Ev E ad shl p l e rm_X9_areMinutes s m args below meth c 0 0 Q 1 h 0 [some (.int x1)] [] := by
  unfold g_X9_areMinutes at hG
  refine r_iload_n (pc := 0) X dX9_areMinutes_0 rfl rfl ?_
  refine r_i2l (pc := 1) X dX9_areMinutes_1 hG (fun z1 hG => ?_)
  refine r_lconst (pc := 2) X dX9_areMinutes_2 hG (by decide) (fun z2 hG => ?_)
  refine r_ldc2 (pc := 3) X dX9_areMinutes_3 mW_X9_473 hG (by decide) (fun z3 hG => ?_)
  refine r_cP (pc := 6) hG (fun _ hg => runS X dX9_areMinutes_6 (c_X9_in  hg) mM_X9_52 mS_X9_in mN_X9 mK_X9_in rfl rfl hdd_X9_in ⟨(Nat.le_of_ble_eq_true rfl), (Nat.le_of_ble_eq_true rfl)⟩ rfl rfl (Nat.le_of_ble_eq_true rfl) ⟨(Nat.le_of_ble_eq_true rfl), (Nat.le_of_ble_eq_true rfl)⟩) (fun z4 hG => ?_)
  exact r_zretP (pc := 9) X dX9_areMinutes_9 hQ hG
theorem c_X9_areMinutes {x1 : Int32} {r : Int}  (hg : g_X9_areMinutes x1.toInt = some r) : Met l yX9_areMinutes (wsM yX9_areMinutes cX9_areMinutes 1 (some .boolean)) rm_X9_areMinutes (va_Pc [.int x1] (World E ad shl h)) (QcI E ad shl r h) 0 0 (bsA E) :=
  met_of (L0 := [some (.int x1)]) rfl rfl rfl (Nat.le_of_ble_eq_true rfl) (fun _ _ _ _ _ _ _ X => w_X9_areMinutes  X rfl hg)
abbrev rm_X9_last : Room := { frames := 6, cells := 0, slots := 0, locals := 132 }
theorem hdd_X9_last : yX9_last.cls = RX9 ∧ yX9_last.cls ≠ "java/lang/invoke/MethodHandle" ∧ yX9_last.cls ≠ "java/lang/invoke/VarHandle" ∧ (parseMethodDescriptor yX9_last.desc).map (fun d => d.parameters.length) = some 4 := ⟨rfl, by decide +kernel, by decide +kernel, by decide +kernel⟩
set_option maxRecDepth 100000 in
set_option maxHeartbeats 4000000 in
theorem w_X9_last {x1 : Int32} {x2 : Int32} {x3 : Int32} {x4 : Int32} {r : Int × Hp} (Hb0 : At_X9 shl) (X : Cx E p s m args meth c cX9_last RX9 6 (some .int)) (hQ : Q = MQ below (QcI E ad shl r.1 r.2) args s 0 0 (bsA E)) (hG : g_X9_last x1.toInt x2.toInt x3.toInt x4.toInt h = some r) : Ev E ad shl p l e rm_X9_last s m args below meth c 0 0 Q 6 h 0 [some (.ref (ad 100)), some (.int x1), some (.int x2), some (.int x3), some (.int x4), none] [] := by
  unfold g_X9_last at hG
  refine r_aload_n (pc := 0) X dX9_last_0 rfl rfl ?_
  refine r_iload_n (pc := 1) X dX9_last_1 rfl rfl ?_
  refine r_cP (pc := 2) hG (fun _ hg => runV X dX9_last_2 (c_X9_isFlag Hb0 hg) mM_X9_427 mI_X9_isFlag mE_X9_isFlag mN_X9 mK_X9_isFlag (at_X9_o Hb0) rfl rfl rfl rfl hdd_X9_isFlag ⟨(Nat.le_of_ble_eq_true rfl), (Nat.le_of_ble_eq_true rfl)⟩ rfl rfl (Nat.le_of_ble_eq_true rfl) ⟨(Nat.le_of_ble_eq_true rfl), (Nat.le_of_ble_eq_true rfl)⟩) (fun z1 hG => ?_)
  refine r_join hG (fun _ => Ev E ad shl p l e rm_X9_last s m args below meth c 0 0 Q 6 h 33 [none, none, none, none, none, none] []) (fun a2 hG => ?_) (fun j3 Hj3 hG => ?_)
  · skip
    refine r_bipush (pc := 33) X dX9_last_33 hG (by decide) (fun z4 hG => ?_)
    exact r_iretW (pc := 35) X dX9_last_35 hQ hG
  refine r_if_eq (pc := 5) X dX9_last_5 (tgt := 33) (by decide) hG (fun hG => ?_) (fun hG => ?_)
  · skip
    exact r_mask [false, false, false, false, false, false] rfl (Hj3 _ hG)
  · skip
    refine r_iload_n (pc := 8) X dX9_last_8 rfl rfl ?_
    refine r_iconst (pc := 9) X dX9_last_9 hG rfl (fun z5 hG => ?_)
    refine r_join hG (fun _ => Ev E ad shl p l e rm_X9_last s m args below meth c 0 0 Q 6 h 21 [some (.ref (ad 100)), some (.int x1), some (.int x2), some (.int x3), some (.int x4), none] []) (fun a6 hG => ?_) (fun j7 Hj7 hG => ?_)
    · skip
      refine r_iload_n (pc := 21) X dX9_last_21 rfl rfl ?_
      refine r_if_lt (pc := 22) X dX9_last_22 (tgt := 33) (by decide) hG (fun hG => ?_) (fun hG => ?_)
      · skip
        exact r_mask [false, false, false, false, false, false] rfl (Hj3 _ hG)
      · skip
        refine r_iload (pc := 25) X dX9_last_25 rfl ?_
        refine r_cP (pc := 27) hG (fun _ hg => runS X dX9_last_27 (c_X9_areMinutes  hg) mM_X9_475 mS_X9_areMinutes mN_X9 mK_X9_areMinutes rfl rfl hdd_X9_areMinutes ⟨(Nat.le_of_ble_eq_true rfl), (Nat.le_of_ble_eq_true rfl)⟩ rfl rfl (Nat.le_of_ble_eq_true rfl) ⟨(Nat.le_of_ble_eq_true rfl), (Nat.le_of_ble_eq_true rfl)⟩) (fun z8 hG => ?_)
        refine r_if_ne (pc := 30) X dX9_last_30 (tgt := 36) (by decide) hG (fun hG => ?_) (fun hG => ?_)
        · skip
          refine r_aload_n (pc := 36) X dX9_last_36 rfl rfl ?_
          refine r_iload_n (pc := 37) X dX9_last_37 rfl rfl ?_
          refine r_iload_n (pc := 38) X dX9_last_38 rfl rfl ?_
          refine r_cV (pc := 39) hG (fun _ hg => runV X dX9_last_39 (c_X9_beginTrial Hb0 hg) mM_X9_478 mI_X9_beginTrial mE_X9_beginTrial mN_X9 mK_X9_beginTrial (at_X9_o Hb0) rfl rfl rfl rfl hdd_X9_beginTrial ⟨(Nat.le_of_ble_eq_true rfl), (Nat.le_of_ble_eq_true rfl)⟩ rfl rfl (Nat.le_of_ble_eq_true rfl) ⟨(Nat.le_of_ble_eq_true rfl), (Nat.le_of_ble_eq_true rfl)⟩) (fun h9 hG => ?_)
          refine r_iconst (pc := 42) X dX9_last_42 hG rfl (fun z10 hG => ?_)
          refine r_istore (pc := 43) (L' := [some (.ref (ad 100)), some (.int x1), some (.int x2), some (.int x3), some (.int x4), some (.int z10)]) X dX9_last_43 (by decide) rfl rfl ?_
          refine r_mask [true, true, false, false, true, true] rfl (r_loop (fun q11 => ∀ (y13 : Int32) (h14 : Hp), q11 = (y13.toInt, h14) → Ev E ad shl p l e rm_X9_last s m args below meth c 0 0 Q 6 h14 45 [some (.ref (ad 100)), some (.int x1), none, none, some (.int x4), some (.int y13)] []) (fun l12 Hl12 q11 hG => ?_) FU _ hG z10 h9 rfl)
          intro y13 h14 ha; have ha := ha.symm; subst ha
          unfold g_X9_last_l12 at hG
          refine r_iload (pc := 45) X dX9_last_45 rfl ?_
          refine r_iload (pc := 47) X dX9_last_47 rfl ?_
          refine r_icmp_ge (pc := 49) X dX9_last_49 (tgt := 66) (by decide) hG (fun hG => ?_) (fun hG => ?_)
          · skip
            refine r_aload_n (pc := 66) X dX9_last_66 rfl rfl ?_
            refine r_iload_n (pc := 67) X dX9_last_67 rfl rfl ?_
            refine r_iload (pc := 68) X dX9_last_68 rfl ?_
            refine r_cP (pc := 70) hG (fun _ hg => runV X dX9_last_70 (c_X9_lastOf Hb0 hg) mM_X9_482 mI_X9_lastOf mE_X9_lastOf mN_X9 mK_X9_lastOf (at_X9_o Hb0) rfl rfl rfl rfl hdd_X9_lastOf ⟨(Nat.le_of_ble_eq_true rfl), (Nat.le_of_ble_eq_true rfl)⟩ rfl rfl (Nat.le_of_ble_eq_true rfl) ⟨(Nat.le_of_ble_eq_true rfl), (Nat.le_of_ble_eq_true rfl)⟩) (fun z15 hG => ?_)
            exact r_iretW (pc := 73) X dX9_last_73 hQ hG
          · skip
            refine r_aload_n (pc := 52) X dX9_last_52 rfl rfl ?_
            refine r_aload_n (pc := 53) X dX9_last_53 rfl rfl ?_
            refine r_getC (pc := 54) X (at_X9_o Hb0) rfl mU_X9 (k := 47) (by decide) (q := 122) rfl mF_X9_272 dX9_last_54 ?_
            refine r_cV (pc := 57) hG (fun _ hg => runV X dX9_last_57 (c_X9_minute Hb0 (at_X9_trial Hb0) hg) mM_X9_422 mI_X9_minute mE_X9_minute mN_X9 mK_X9_minute (at_X9_o Hb0) rfl rfl rfl rfl hdd_X9_minute ⟨(Nat.le_of_ble_eq_true rfl), (Nat.le_of_ble_eq_true rfl)⟩ rfl rfl (Nat.le_of_ble_eq_true rfl) ⟨(Nat.le_of_ble_eq_true rfl), (Nat.le_of_ble_eq_true rfl)⟩) (fun h16 hG => ?_)
            refine r_iinc (pc := 60) (L' := fun z17 => [some (.ref (ad 100)), some (.int x1), none, none, some (.int x4), some (.int z17)]) X dX9_last_60 (by decide) rfl rfl (by decide) (fun _ => rfl) hG (fun z17 hG => ?_)
            refine r_goto (pc := 63) X dX9_last_63 (tgt := 45) (by decide) ?_
            exact r_mask [true, true, false, false, true, true] rfl (Hl12 _ hG z17 h16 rfl)
        · skip
          exact r_mask [false, false, false, false, false, false] rfl (Hj3 _ hG)
    refine r_icmp_eq (pc := 10) X dX9_last_10 (tgt := 21) (by decide) hG (fun hG => ?_) (fun hG => ?_)
    · skip
      exact r_mask [true, true, true, true, true, false] rfl (Hj7 _ hG)
    · skip
      refine r_aload_n (pc := 13) X dX9_last_13 rfl rfl ?_
      refine r_iload_n (pc := 14) X dX9_last_14 rfl rfl ?_
      refine r_cP (pc := 15) hG (fun _ hg => runV X dX9_last_15 (c_X9_isPlan Hb0 hg) mM_X9_351 mI_X9_isPlan mE_X9_isPlan mN_X9 mK_X9_isPlan (at_X9_o Hb0) rfl rfl rfl rfl hdd_X9_isPlan ⟨(Nat.le_of_ble_eq_true rfl), (Nat.le_of_ble_eq_true rfl)⟩ rfl rfl (Nat.le_of_ble_eq_true rfl) ⟨(Nat.le_of_ble_eq_true rfl), (Nat.le_of_ble_eq_true rfl)⟩) (fun z18 hG => ?_)
      refine r_if_eq (pc := 18) X dX9_last_18 (tgt := 33) (by decide) hG (fun hG => ?_) (fun hG => ?_)
      · skip
        exact r_mask [false, false, false, false, false, false] rfl (Hj3 _ hG)
      · skip
        exact r_mask [true, true, true, true, true, false] rfl (Hj7 _ hG)
theorem c_X9_last {x1 : Int32} {x2 : Int32} {x3 : Int32} {x4 : Int32} {r : Int × Hp} (Hb0 : At_X9 shl) (hg : g_X9_last x1.toInt x2.toInt x3.toInt x4.toInt h = some r) : Met l yX9_last (wsM yX9_last cX9_last 6 (some .int)) rm_X9_last (va_Pc [.ref (ad 100), .int x1, .int x2, .int x3, .int x4] (World E ad shl h)) (QcI E ad shl r.1 r.2) 0 0 (bsA E) :=
  met_of (L0 := [some (.ref (ad 100)), some (.int x1), some (.int x2), some (.int x3), some (.int x4), none]) rfl rfl rfl (Nat.le_of_ble_eq_true rfl) (fun _ _ _ _ _ _ _ X => w_X9_last Hb0 X rfl hg)
abbrev rm_X9_works : Room := { frames := 2, cells := 0, slots := 0, locals := 47 }
theorem hdd_X9_works : yX9_works.cls = RX9 ∧ yX9_works.cls ≠ "java/lang/invoke/MethodHandle" ∧ yX9_works.cls ≠ "java/lang/invoke/VarHandle" ∧ (parseMethodDescriptor yX9_works.desc).map (fun d => d.parameters.length) = some 2 := ⟨rfl, by decide +kernel, by decide +kernel, by decide +kernel⟩
set_option maxRecDepth 100000 in
set_option maxHeartbeats 4000000 in
theorem w_X9_works {x1 : Int32} {x2 : Int32} {r : Hp} (Hb0 : At_X9 shl) (X : Cx E p s m args meth c cX9_works RX9 6 none) (hQ : Q = MQ below (QcV E ad shl r) args s 0 0 (bsA E)) (hG : g_X9_works x1.toInt x2.toInt h = some r) : Ev E ad shl p l e rm_X9_works s m args below meth c 0 0 Q 6 h 0 [some (.ref (ad 100)), some (.int x1), some (.int x2), none, none, none] [] := by
  unfold g_X9_works at hG
  refine r_aload_n (pc := 0) X dX9_works_0 rfl rfl ?_
  refine r_getC (pc := 1) X (at_X9_o Hb0) rfl mU_X9 (k := 46) (by decide) (q := 121) rfl mF_X9_269 dX9_works_1 ?_
  refine r_sipush (pc := 4) X dX9_works_4 hG (by decide) (fun z1 hG => ?_)
  refine r_iload_n (pc := 7) X dX9_works_7 rfl rfl ?_
  refine r_iadd (pc := 8) X dX9_works_8 hG (fun z2 hG => ?_)
  refine r_iald (pc := 9) X (at_X9_now Hb0) dX9_works_9 hG (fun z3 hG => ?_)
  refine r_istore_n (pc := 10) (L' := [some (.ref (ad 100)), some (.int x1), some (.int x2), some (.int z3), none, none]) X dX9_works_10 rfl (by decide) rfl rfl ?_
  refine r_iload_n (pc := 11) X dX9_works_11 rfl rfl ?_
  refine r_aload_n (pc := 12) X dX9_works_12 rfl rfl ?_
  refine r_getI (pc := 13) X (at_X9_o Hb0) rfl mU_X9 (k := 10) (by decide) rfl mF_X9_201 dX9_works_13 hG (fun z4 hG => ?_)
  refine r_join hG (fun a5 => ∀ (y7 : Int32), a5 = y7.toInt → Ev E ad shl p l e rm_X9_works s m args below meth c 0 0 Q 6 h 24 [some (.ref (ad 100)), some (.int x1), none, some (.int z3), none, none] [.int y7]) (fun a5 hG => ?_) (fun j6 Hj6 hG => ?_)
  · skip
    intro y7 ha; have ha := ha.symm; subst ha
    refine r_istore (pc := 24) (L' := [some (.ref (ad 100)), some (.int x1), none, some (.int z3), some (.int y7), none]) X dX9_works_24 (by decide) rfl rfl ?_
    refine r_iload_n (pc := 26) X dX9_works_26 rfl rfl ?_
    refine r_aload_n (pc := 27) X dX9_works_27 rfl rfl ?_
    refine r_getI (pc := 28) X (at_X9_o Hb0) rfl mU_X9 (k := 10) (by decide) rfl mF_X9_201 dX9_works_28 hG (fun z8 hG => ?_)
    refine r_iadd (pc := 31) X dX9_works_31 hG (fun z9 hG => ?_)
    refine r_aload_n (pc := 32) X dX9_works_32 rfl rfl ?_
    refine r_getI (pc := 33) X (at_X9_o Hb0) rfl mU_X9 (k := 10) (by decide) rfl mF_X9_201 dX9_works_33 hG (fun z10 hG => ?_)
    refine r_aload_n (pc := 36) X dX9_works_36 rfl rfl ?_
    refine r_getI (pc := 37) X (at_X9_o Hb0) rfl mU_X9 (k := 11) (by decide) rfl mF_X9_204 dX9_works_37 hG (fun z11 hG => ?_)
    refine r_imul (pc := 40) X dX9_works_40 hG (fun z12 hG => ?_)
    refine r_join hG (fun a13 => ∀ (y15 : Int32), a13 = y15.toInt → Ev E ad shl p l e rm_X9_works s m args below meth c 0 0 Q 6 h 49 [some (.ref (ad 100)), some (.int x1), none, some (.int z3), some (.int y7), none] [.int y15]) (fun a13 hG => ?_) (fun j14 Hj14 hG => ?_)
    · skip
      intro y15 ha; have ha := ha.symm; subst ha
      refine r_istore (pc := 49) (L' := [some (.ref (ad 100)), some (.int x1), none, some (.int z3), some (.int y7), some (.int y15)]) X dX9_works_49 (by decide) rfl rfl ?_
      refine r_iload_n (pc := 51) X dX9_works_51 rfl rfl ?_
      refine r_join hG (fun a16 => ∀ (h18 : Hp), a16 = h18 → Ev E ad shl p l e rm_X9_works s m args below meth c 0 0 Q 6 h18 76 [some (.ref (ad 100)), some (.int x1), none, some (.int z3), some (.int y7), some (.int y15)] []) (fun a16 hG => ?_) (fun j17 Hj17 hG => ?_)
      · skip
        intro h18 ha; have ha := ha.symm; subst ha
        refine r_iload_n (pc := 76) X dX9_works_76 rfl rfl ?_
        refine r_iconst (pc := 77) X dX9_works_77 hG rfl (fun z19 hG => ?_)
        refine r_join hG (fun a20 => ∀ (h22 : Hp), a20 = h22 → Ev E ad shl p l e rm_X9_works s m args below meth c 0 0 Q 6 h22 102 [some (.ref (ad 100)), some (.int x1), none, some (.int z3), none, some (.int y15)] []) (fun a20 hG => ?_) (fun j21 Hj21 hG => ?_)
        · skip
          intro h22 ha; have ha := ha.symm; subst ha
          refine r_iload_n (pc := 102) X dX9_works_102 rfl rfl ?_
          refine r_iconst (pc := 103) X dX9_works_103 hG rfl (fun z23 hG => ?_)
          refine r_join hG (fun a24 => ∀ (h26 : Hp), a24 = h26 → Ev E ad shl p l e rm_X9_works s m args below meth c 0 0 Q 6 h26 128 [some (.ref (ad 100)), some (.int x1), none, some (.int z3), none, none] []) (fun a24 hG => ?_) (fun j25 Hj25 hG => ?_)
          · skip
            intro h26 ha; have ha := ha.symm; subst ha
            refine r_iload_n (pc := 128) X dX9_works_128 rfl rfl ?_
            refine r_iconst (pc := 129) X dX9_works_129 hG rfl (fun z27 hG => ?_)
            refine r_join hG (fun a28 => ∀ (h30 : Hp), a28 = h30 → Ev E ad shl p l e rm_X9_works s m args below meth c 0 0 Q 6 h30 144 [none, none, none, none, none, none] []) (fun a28 hG => ?_) (fun j29 Hj29 hG => ?_)
            · skip
              intro h30 ha; have ha := ha.symm; subst ha
              exact r_vret (pc := 144) X dX9_works_144 hQ hG
            refine r_icmp_ne (pc := 130) X dX9_works_130 (tgt := 144) (by decide) hG (fun hG => ?_) (fun hG => ?_)
            · skip
              exact r_mask [false, false, false, false, false, false] rfl (Hj29 _ hG h26 rfl)
            · skip
              refine r_aload_n (pc := 133) X dX9_works_133 rfl rfl ?_
              refine r_aload_n (pc := 134) X dX9_works_134 rfl rfl ?_
              refine r_getC (pc := 135) X (at_X9_o Hb0) rfl mU_X9 (k := 47) (by decide) (q := 122) rfl mF_X9_272 dX9_works_135 ?_
              refine r_iconst (pc := 138) X dX9_works_138 hG rfl (fun z31 hG => ?_)
              refine r_iload_n (pc := 139) X dX9_works_139 rfl rfl ?_
              refine r_iconst (pc := 140) X dX9_works_140 hG rfl (fun z32 hG => ?_)
              refine r_cV (pc := 141) hG (fun _ hg => runV X dX9_works_141 (c_X9_does Hb0 (at_X9_trial Hb0) hg) mM_X9_373 mI_X9_does mE_X9_does mN_X9 mK_X9_does (at_X9_o Hb0) rfl rfl rfl rfl hdd_X9_does ⟨(Nat.le_of_ble_eq_true rfl), (Nat.le_of_ble_eq_true rfl)⟩ rfl rfl (Nat.le_of_ble_eq_true rfl) ⟨(Nat.le_of_ble_eq_true rfl), (Nat.le_of_ble_eq_true rfl)⟩) (fun h33 hG => ?_)
              exact r_mask [false, false, false, false, false, false] rfl (Hj29 _ hG h33 rfl)
          refine r_icmp_ne (pc := 104) X dX9_works_104 (tgt := 128) (by decide) hG (fun hG => ?_) (fun hG => ?_)
          · skip
            exact r_mask [true, true, false, true, false, false] rfl (Hj25 _ hG h22 rfl)
          · skip
            refine r_iload (pc := 107) X dX9_works_107 rfl ?_
            refine r_if_eq (pc := 109) X dX9_works_109 (tgt := 128) (by decide) hG (fun hG => ?_) (fun hG => ?_)
            · skip
              exact r_mask [true, true, false, true, false, false] rfl (Hj25 _ hG h22 rfl)
            · skip
              refine r_aload_n (pc := 112) X dX9_works_112 rfl rfl ?_
              refine r_aload_n (pc := 113) X dX9_works_113 rfl rfl ?_
              refine r_getC (pc := 114) X (at_X9_o Hb0) rfl mU_X9 (k := 47) (by decide) (q := 122) rfl mF_X9_272 dX9_works_114 ?_
              refine r_iconst (pc := 117) X dX9_works_117 hG rfl (fun z34 hG => ?_)
              refine r_iload_n (pc := 118) X dX9_works_118 rfl rfl ?_
              refine r_aload_n (pc := 119) X dX9_works_119 rfl rfl ?_
              refine r_getI (pc := 120) X (at_X9_o Hb0) rfl mU_X9 (k := 10) (by decide) rfl mF_X9_201 dX9_works_120 hG (fun z35 hG => ?_)
              refine r_iadd (pc := 123) X dX9_works_123 hG (fun z36 hG => ?_)
              refine r_iload_n (pc := 124) X dX9_works_124 rfl rfl ?_
              refine r_cV (pc := 125) hG (fun _ hg => runV X dX9_works_125 (c_X9_does Hb0 (at_X9_trial Hb0) hg) mM_X9_373 mI_X9_does mE_X9_does mN_X9 mK_X9_does (at_X9_o Hb0) rfl rfl rfl rfl hdd_X9_does ⟨(Nat.le_of_ble_eq_true rfl), (Nat.le_of_ble_eq_true rfl)⟩ rfl rfl (Nat.le_of_ble_eq_true rfl) ⟨(Nat.le_of_ble_eq_true rfl), (Nat.le_of_ble_eq_true rfl)⟩) (fun h37 hG => ?_)
              exact r_mask [true, true, false, true, false, false] rfl (Hj25 _ hG h37 rfl)
        refine r_icmp_ne (pc := 78) X dX9_works_78 (tgt := 102) (by decide) hG (fun hG => ?_) (fun hG => ?_)
        · skip
          exact r_mask [true, true, false, true, false, true] rfl (Hj21 _ hG h18 rfl)
        · skip
          refine r_iload (pc := 81) X dX9_works_81 rfl ?_
          refine r_if_eq (pc := 83) X dX9_works_83 (tgt := 102) (by decide) hG (fun hG => ?_) (fun hG => ?_)
          · skip
            exact r_mask [true, true, false, true, false, true] rfl (Hj21 _ hG h18 rfl)
          · skip
            refine r_aload_n (pc := 86) X dX9_works_86 rfl rfl ?_
            refine r_aload_n (pc := 87) X dX9_works_87 rfl rfl ?_
            refine r_getC (pc := 88) X (at_X9_o Hb0) rfl mU_X9 (k := 47) (by decide) (q := 122) rfl mF_X9_272 dX9_works_88 ?_
            refine r_iconst (pc := 91) X dX9_works_91 hG rfl (fun z38 hG => ?_)
            refine r_iload_n (pc := 92) X dX9_works_92 rfl rfl ?_
            refine r_aload_n (pc := 93) X dX9_works_93 rfl rfl ?_
            refine r_getI (pc := 94) X (at_X9_o Hb0) rfl mU_X9 (k := 10) (by decide) rfl mF_X9_201 dX9_works_94 hG (fun z39 hG => ?_)
            refine r_isub (pc := 97) X dX9_works_97 hG (fun z40 hG => ?_)
            refine r_iload_n (pc := 98) X dX9_works_98 rfl rfl ?_
            refine r_cV (pc := 99) hG (fun _ hg => runV X dX9_works_99 (c_X9_does Hb0 (at_X9_trial Hb0) hg) mM_X9_373 mI_X9_does mE_X9_does mN_X9 mK_X9_does (at_X9_o Hb0) rfl rfl rfl rfl hdd_X9_does ⟨(Nat.le_of_ble_eq_true rfl), (Nat.le_of_ble_eq_true rfl)⟩ rfl rfl (Nat.le_of_ble_eq_true rfl) ⟨(Nat.le_of_ble_eq_true rfl), (Nat.le_of_ble_eq_true rfl)⟩) (fun h41 hG => ?_)
            exact r_mask [true, true, false, true, false, true] rfl (Hj21 _ hG h41 rfl)
      refine r_if_ne (pc := 52) X dX9_works_52 (tgt := 76) (by decide) hG (fun hG => ?_) (fun hG => ?_)
      · skip
        exact r_mask [true, true, false, true, true, true] rfl (Hj17 _ hG h rfl)
      · skip
        refine r_iload (pc := 55) X dX9_works_55 rfl ?_
        refine r_if_eq (pc := 57) X dX9_works_57 (tgt := 76) (by decide) hG (fun hG => ?_) (fun hG => ?_)
        · skip
          exact r_mask [true, true, false, true, true, true] rfl (Hj17 _ hG h rfl)
        · skip
          refine r_aload_n (pc := 60) X dX9_works_60 rfl rfl ?_
          refine r_aload_n (pc := 61) X dX9_works_61 rfl rfl ?_
          refine r_getC (pc := 62) X (at_X9_o Hb0) rfl mU_X9 (k := 47) (by decide) (q := 122) rfl mF_X9_272 dX9_works_62 ?_
          refine r_iconst (pc := 65) X dX9_works_65 hG rfl (fun z42 hG => ?_)
          refine r_iload_n (pc := 66) X dX9_works_66 rfl rfl ?_
          refine r_aload_n (pc := 67) X dX9_works_67 rfl rfl ?_
          refine r_getI (pc := 68) X (at_X9_o Hb0) rfl mU_X9 (k := 10) (by decide) rfl mF_X9_201 dX9_works_68 hG (fun z43 hG => ?_)
          refine r_isub (pc := 71) X dX9_works_71 hG (fun z44 hG => ?_)
          refine r_iconst (pc := 72) X dX9_works_72 hG rfl (fun z45 hG => ?_)
          refine r_cV (pc := 73) hG (fun _ hg => runV X dX9_works_73 (c_X9_does Hb0 (at_X9_trial Hb0) hg) mM_X9_373 mI_X9_does mE_X9_does mN_X9 mK_X9_does (at_X9_o Hb0) rfl rfl rfl rfl hdd_X9_does ⟨(Nat.le_of_ble_eq_true rfl), (Nat.le_of_ble_eq_true rfl)⟩ rfl rfl (Nat.le_of_ble_eq_true rfl) ⟨(Nat.le_of_ble_eq_true rfl), (Nat.le_of_ble_eq_true rfl)⟩) (fun h46 hG => ?_)
          exact r_mask [true, true, false, true, true, true] rfl (Hj17 _ hG h46 rfl)
    refine r_icmp_ge (pc := 41) X dX9_works_41 (tgt := 48) (by decide) hG (fun hG => ?_) (fun hG => ?_)
    · skip
      refine r_iconst (pc := 48) X dX9_works_48 hG rfl (fun z47 hG => ?_)
      exact r_mask [true, true, false, true, true, false] rfl (Hj14 _ hG z47 rfl)
    · skip
      refine r_iconst (pc := 44) X dX9_works_44 hG rfl (fun z48 hG => ?_)
      refine r_goto (pc := 45) X dX9_works_45 (tgt := 49) (by decide) ?_
      exact r_mask [true, true, false, true, true, false] rfl (Hj14 _ hG z48 rfl)
  refine r_icmp_lt (pc := 16) X dX9_works_16 (tgt := 23) (by decide) hG (fun hG => ?_) (fun hG => ?_)
  · skip
    refine r_iconst (pc := 23) X dX9_works_23 hG rfl (fun z49 hG => ?_)
    exact r_mask [true, true, false, true, false, false] rfl (Hj6 _ hG z49 rfl)
  · skip
    refine r_iconst (pc := 19) X dX9_works_19 hG rfl (fun z50 hG => ?_)
    refine r_goto (pc := 20) X dX9_works_20 (tgt := 24) (by decide) ?_
    exact r_mask [true, true, false, true, false, false] rfl (Hj6 _ hG z50 rfl)
theorem c_X9_works {x1 : Int32} {x2 : Int32} {r : Hp} (Hb0 : At_X9 shl) (hg : g_X9_works x1.toInt x2.toInt h = some r) : Met l yX9_works (wsM yX9_works cX9_works 6 none) rm_X9_works (va_Pc [.ref (ad 100), .int x1, .int x2] (World E ad shl h)) (QcV E ad shl r) 0 0 (bsA E) :=
  met_of (L0 := [some (.ref (ad 100)), some (.int x1), some (.int x2), none, none, none]) rfl rfl rfl (Nat.le_of_ble_eq_true rfl) (fun _ _ _ _ _ _ _ X => w_X9_works Hb0 X rfl hg)
end WALKS
