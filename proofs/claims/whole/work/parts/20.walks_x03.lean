section WALKS
variable {E : EnvT} {ad : Nat → Nat} {shl : List Shp} {p : Program} {l : Launch} {e : Env} {s : State} {m : MethodId} {args : Array Value} {below : List Frame} {meth : Method} {c : Code} {Q : State → Prop} {h : Hp}
abbrev rm_X4_lowestBeside : Room := { frames := 0, cells := 0, slots := 0, locals := 0 }
theorem hdd_X4_lowestBeside : yX4_lowestBeside.cls = RX4 ∧ yX4_lowestBeside.cls ≠ "java/lang/invoke/MethodHandle" ∧ yX4_lowestBeside.cls ≠ "java/lang/invoke/VarHandle" ∧ (parseMethodDescriptor yX4_lowestBeside.desc).map (fun d => d.parameters.length) = some 1 := ⟨rfl, by decide +kernel, by decide +kernel, by decide +kernel⟩
set_option maxRecDepth 100000 in
set_option maxHeartbeats 4000000 in
theorem w_X4_lowestBeside {b0 : Nat} {x1 : Int32} {r : Int} (Hb0 : At_X4 shl b0) (X : Cx E p s m args meth c cX4_lowestBeside RX4 2 (some .int)) (hQ : Q = MQ below (QcI E ad shl r h) args s 0 0 (bsA E)) (hG : g_X4_lowestBeside b0 x1.toInt h = some r) : Ev E ad shl p l e rm_X4_lowestBeside s m args below meth c 0 0 Q 2 h 0 [some (.ref (ad b0)), some (.int x1)] [] := by
  unfold g_X4_lowestBeside at hG
  refine r_iload_n (pc := 0) X dX4_lowestBeside_0 rfl rfl ?_
  refine r_if_gt (pc := 1) X dX4_lowestBeside_1 (tgt := 6) (by decide) hG (fun hG => ?_) (fun hG => ?_)
  · skip
    refine r_iload_n (pc := 6) X dX4_lowestBeside_6 rfl rfl ?_
    refine r_bipush (pc := 7) X dX4_lowestBeside_7 hG (by decide) (fun z1 hG => ?_)
    refine r_icmp_lt (pc := 9) X dX4_lowestBeside_9 (tgt := 15) (by decide) hG (fun hG => ?_) (fun hG => ?_)
    · skip
      refine r_aload_n (pc := 15) X dX4_lowestBeside_15 rfl rfl ?_
      refine r_getC (pc := 16) X (at_X4_o Hb0) rfl mU_X4 (k := 0) (by decide) (q := (b0 + 1)) rfl mF_X4_9 dX4_lowestBeside_16 ?_
      refine r_iload_n (pc := 19) X dX4_lowestBeside_19 rfl rfl ?_
      refine r_iconst (pc := 20) X dX4_lowestBeside_20 hG rfl (fun z2 hG => ?_)
      refine r_iadd (pc := 21) X dX4_lowestBeside_21 hG (fun z3 hG => ?_)
      refine r_iald (pc := 22) X (at_X4_height Hb0) dX4_lowestBeside_22 hG (fun z4 hG => ?_)
      refine r_aload_n (pc := 23) X dX4_lowestBeside_23 rfl rfl ?_
      refine r_getC (pc := 24) X (at_X4_o Hb0) rfl mU_X4 (k := 0) (by decide) (q := (b0 + 1)) rfl mF_X4_9 dX4_lowestBeside_24 ?_
      refine r_iload_n (pc := 27) X dX4_lowestBeside_27 rfl rfl ?_
      refine r_iconst (pc := 28) X dX4_lowestBeside_28 hG rfl (fun z5 hG => ?_)
      refine r_isub (pc := 29) X dX4_lowestBeside_29 hG (fun z6 hG => ?_)
      refine r_iald (pc := 30) X (at_X4_height Hb0) dX4_lowestBeside_30 hG (fun z7 hG => ?_)
      refine r_join hG (fun a8 => ∀ (y10 : Int32), a8 = y10.toInt → Ev E ad shl p l e rm_X4_lowestBeside s m args below meth c 0 0 Q 2 h 43 [none, none] [.int y10]) (fun a8 hG => ?_) (fun j9 Hj9 hG => ?_)
      · skip
        intro y10 ha; have ha := ha.symm; subst ha
        exact r_iretP (pc := 43) X dX4_lowestBeside_43 hQ hG
      refine r_icmp_ge (pc := 31) X dX4_lowestBeside_31 (tgt := 40) (by decide) hG (fun hG => ?_) (fun hG => ?_)
      · skip
        refine r_iload_n (pc := 40) X dX4_lowestBeside_40 rfl rfl ?_
        refine r_iconst (pc := 41) X dX4_lowestBeside_41 hG rfl (fun z11 hG => ?_)
        refine r_isub (pc := 42) X dX4_lowestBeside_42 hG (fun z12 hG => ?_)
        exact r_mask [false, false] rfl (Hj9 _ hG z12 rfl)
      · skip
        refine r_iload_n (pc := 34) X dX4_lowestBeside_34 rfl rfl ?_
        refine r_iconst (pc := 35) X dX4_lowestBeside_35 hG rfl (fun z13 hG => ?_)
        refine r_iadd (pc := 36) X dX4_lowestBeside_36 hG (fun z14 hG => ?_)
        refine r_goto (pc := 37) X dX4_lowestBeside_37 (tgt := 43) (by decide) ?_
        exact r_mask [false, false] rfl (Hj9 _ hG z14 rfl)
    · skip
      refine r_bipush (pc := 12) X dX4_lowestBeside_12 hG (by decide) (fun z15 hG => ?_)
      exact r_iretP (pc := 14) X dX4_lowestBeside_14 hQ hG
  · skip
    refine r_iconst (pc := 4) X dX4_lowestBeside_4 hG rfl (fun z16 hG => ?_)
    exact r_iretP (pc := 5) X dX4_lowestBeside_5 hQ hG
theorem c_X4_lowestBeside {b0 : Nat} {x1 : Int32} {r : Int} (Hb0 : At_X4 shl b0) (hg : g_X4_lowestBeside b0 x1.toInt h = some r) : Met l yX4_lowestBeside (wsM yX4_lowestBeside cX4_lowestBeside 2 (some .int)) rm_X4_lowestBeside (va_Pc [.ref (ad b0), .int x1] (World E ad shl h)) (QcI E ad shl r h) 0 0 (bsA E) :=
  met_of (L0 := [some (.ref (ad b0)), some (.int x1)]) rfl rfl rfl (Nat.le_of_ble_eq_true rfl) (fun _ _ _ _ _ _ _ X => w_X4_lowestBeside Hb0 X rfl hg)
abbrev rm_X4_settle : Room := { frames := 1, cells := 0, slots := 0, locals := 23 }
theorem hdd_X4_settle : yX4_settle.cls = RX4 ∧ yX4_settle.cls ≠ "java/lang/invoke/MethodHandle" ∧ yX4_settle.cls ≠ "java/lang/invoke/VarHandle" ∧ (parseMethodDescriptor yX4_settle.desc).map (fun d => d.parameters.length) = some 2 := ⟨rfl, by decide +kernel, by decide +kernel, by decide +kernel⟩
set_option maxRecDepth 100000 in
set_option maxHeartbeats 4000000 in
theorem w_X4_settle {b0 : Nat} {x1 : Int32} {x2 : Int32} {r : Hp} (Hb0 : At_X4 shl b0) (X : Cx E p s m args meth c cX4_settle RX4 7 none) (hQ : Q = MQ below (QcV E ad shl r) args s 0 0 (bsA E)) (hG : g_X4_settle b0 x1.toInt x2.toInt h = some r) : Ev E ad shl p l e rm_X4_settle s m args below meth c 0 0 Q 7 h 0 [some (.ref (ad b0)), some (.int x1), some (.int x2), none, none, none, none] [] := by
  unfold g_X4_settle at hG
  refine r_aload_n (pc := 0) X dX4_settle_0 rfl rfl ?_
  refine r_getC (pc := 1) X (at_X4_o Hb0) rfl mU_X4 (k := 0) (by decide) (q := (b0 + 1)) rfl mF_X4_9 dX4_settle_1 ?_
  refine r_iconst (pc := 4) X dX4_settle_4 hG rfl (fun z1 hG => ?_)
  refine r_cV (pc := 5) hG (fun _ hg => runS X dX4_settle_5 (c_J7_fill_53178 (at_X4_height Hb0) (by decide) hg) mM_X4_13 mS_J7_fill_53178 mN_J7 mK_J7_fill_53178 rfl rfl hdd_J7_fill_53178 ⟨(Nat.le_of_ble_eq_true rfl), (Nat.le_of_ble_eq_true rfl)⟩ rfl rfl (Nat.le_of_ble_eq_true rfl) ⟨(Nat.le_of_ble_eq_true rfl), (Nat.le_of_ble_eq_true rfl)⟩) (fun h2 hG => ?_)
  refine r_aload_n (pc := 8) X dX4_settle_8 rfl rfl ?_
  refine r_getC (pc := 9) X (at_X4_o Hb0) rfl mU_X4 (k := 0) (by decide) (q := (b0 + 1)) rfl mF_X4_9 dX4_settle_9 ?_
  refine r_iconst (pc := 12) X dX4_settle_12 hG rfl (fun z3 hG => ?_)
  refine r_iload_n (pc := 13) X dX4_settle_13 rfl rfl ?_
  refine r_iast (pc := 14) X (at_X4_height Hb0) dX4_settle_14 hG (fun h4 hG => ?_)
  refine r_iconst (pc := 15) X dX4_settle_15 hG rfl (fun z5 hG => ?_)
  refine r_istore_n (pc := 16) (L' := [some (.ref (ad b0)), some (.int x1), some (.int x2), some (.int z5), none, none, none]) X dX4_settle_16 rfl (by decide) rfl rfl ?_
  refine r_iconst (pc := 17) X dX4_settle_17 hG rfl (fun z6 hG => ?_)
  refine r_istore (pc := 18) (L' := [some (.ref (ad b0)), some (.int x1), some (.int x2), some (.int z5), some (.int z6), none, none]) X dX4_settle_18 (by decide) rfl rfl ?_
  refine r_join hG (fun a7 => ∀ (h9 : Hp), a7 = h9 → Ev E ad shl p l e rm_X4_settle s m args below meth c 0 0 Q 7 h9 107 [none, none, none, none, none, none, none] []) (fun a7 hG => ?_) (fun j8 Hj8 hG => ?_)
  · skip
    intro h9 ha; have ha := ha.symm; subst ha
    exact r_vret (pc := 107) X dX4_settle_107 hQ hG
  refine r_mask [true, false, true, true, true, false, false] rfl (r_loop (fun q10 => ∀ (y12 : Int32) (y13 : Int32) (h14 : Hp), q10 = (y12.toInt, y13.toInt, h14) → Ev E ad shl p l e rm_X4_settle s m args below meth c 0 0 Q 7 h14 20 [some (.ref (ad b0)), none, some (.int x2), some (.int y12), some (.int y13), none, none] []) (fun l11 Hl11 q10 hG => ?_) FU _ hG z5 z6 h4 rfl)
  intro y12 y13 h14 ha; have ha := ha.symm; subst ha
  unfold g_X4_settle_l11 at hG
  refine r_iload (pc := 20) X dX4_settle_20 rfl ?_
  refine r_sipush (pc := 22) X dX4_settle_22 hG (by decide) (fun z15 hG => ?_)
  refine r_icmp_ge (pc := 25) X dX4_settle_25 (tgt := 107) (by decide) hG (fun hG => ?_) (fun hG => ?_)
  · skip
    exact r_mask [false, false, false, false, false, false, false] rfl (Hj8 _ hG h14 rfl)
  · skip
    refine r_iload_n (pc := 28) X dX4_settle_28 rfl rfl ?_
    refine r_if_eq (pc := 29) X dX4_settle_29 (tgt := 107) (by decide) hG (fun hG => ?_) (fun hG => ?_)
    · skip
      exact r_mask [false, false, false, false, false, false, false] rfl (Hj8 _ hG h14 rfl)
    · skip
      refine r_iconst (pc := 32) X dX4_settle_32 hG rfl (fun z16 hG => ?_)
      refine r_istore_n (pc := 33) (L' := [some (.ref (ad b0)), none, some (.int x2), some (.int z16), some (.int y13), none, none]) X dX4_settle_33 rfl (by decide) rfl rfl ?_
      refine r_iconst (pc := 34) X dX4_settle_34 hG rfl (fun z17 hG => ?_)
      refine r_istore (pc := 35) (L' := [some (.ref (ad b0)), none, some (.int x2), some (.int z16), some (.int y13), some (.int z17), none]) X dX4_settle_35 (by decide) rfl rfl ?_
      refine r_join hG (fun a18 => ∀ (y20 : Int32) (h21 : Hp), a18 = (y20.toInt, h21) → Ev E ad shl p l e rm_X4_settle s m args below meth c 0 0 Q 7 h21 101 [some (.ref (ad b0)), none, some (.int x2), some (.int y20), some (.int y13), none, none] []) (fun a18 hG => ?_) (fun j19 Hj19 hG => ?_)
      · skip
        intro y20 h21 ha; have ha := ha.symm; subst ha
        refine r_iinc (pc := 101) (L' := fun z22 => [some (.ref (ad b0)), none, some (.int x2), some (.int y20), some (.int z22), none, none]) X dX4_settle_101 (by decide) rfl rfl (by decide) (fun _ => rfl) hG (fun z22 hG => ?_)
        refine r_goto (pc := 104) X dX4_settle_104 (tgt := 20) (by decide) ?_
        exact r_mask [true, false, true, true, true, false, false] rfl (Hl11 _ hG y20 z22 h21 rfl)
      refine r_mask [true, false, true, true, true, true, false] rfl (r_loop (fun q23 => ∀ (y25 : Int32) (y26 : Int32) (h27 : Hp), q23 = (y25.toInt, y26.toInt, h27) → Ev E ad shl p l e rm_X4_settle s m args below meth c 0 0 Q 7 h27 37 [some (.ref (ad b0)), none, some (.int x2), some (.int y25), some (.int y13), some (.int y26), none] []) (fun l24 Hl24 q23 hG => ?_) FU _ hG z16 z17 h14 rfl)
      intro y25 y26 h27 ha; have ha := ha.symm; subst ha
      unfold g_X4_settle_l24 at hG
      refine r_iload (pc := 37) X dX4_settle_37 rfl ?_
      refine r_bipush (pc := 39) X dX4_settle_39 hG (by decide) (fun z28 hG => ?_)
      refine r_icmp_ge (pc := 41) X dX4_settle_41 (tgt := 101) (by decide) hG (fun hG => ?_) (fun hG => ?_)
      · skip
        exact r_mask [true, false, true, true, true, false, false] rfl (Hj19 _ hG y25 h27 rfl)
      · skip
        refine r_aload_n (pc := 44) X dX4_settle_44 rfl rfl ?_
        refine r_iload (pc := 45) X dX4_settle_45 rfl ?_
        refine r_cP (pc := 47) hG (fun _ hg => runV X dX4_settle_47 (c_X4_lowestBeside Hb0 hg) mM_X4_19 mI_X4_lowestBeside mE_X4_lowestBeside mN_X4 mK_X4_lowestBeside (at_X4_o Hb0) rfl rfl rfl rfl hdd_X4_lowestBeside ⟨(Nat.le_of_ble_eq_true rfl), (Nat.le_of_ble_eq_true rfl)⟩ rfl rfl (Nat.le_of_ble_eq_true rfl) ⟨(Nat.le_of_ble_eq_true rfl), (Nat.le_of_ble_eq_true rfl)⟩) (fun z29 hG => ?_)
        refine r_istore (pc := 50) (L' := [some (.ref (ad b0)), none, some (.int x2), some (.int y25), some (.int y13), some (.int y26), some (.int z29)]) X dX4_settle_50 (by decide) rfl rfl ?_
        refine r_aload_n (pc := 52) X dX4_settle_52 rfl rfl ?_
        refine r_getC (pc := 53) X (at_X4_o Hb0) rfl mU_X4 (k := 0) (by decide) (q := (b0 + 1)) rfl mF_X4_9 dX4_settle_53 ?_
        refine r_iload (pc := 56) X dX4_settle_56 rfl ?_
        refine r_iald (pc := 58) X (at_X4_height Hb0) dX4_settle_58 hG (fun z30 hG => ?_)
        refine r_aload_n (pc := 59) X dX4_settle_59 rfl rfl ?_
        refine r_getC (pc := 60) X (at_X4_o Hb0) rfl mU_X4 (k := 0) (by decide) (q := (b0 + 1)) rfl mF_X4_9 dX4_settle_60 ?_
        refine r_iload (pc := 63) X dX4_settle_63 rfl ?_
        refine r_iald (pc := 65) X (at_X4_height Hb0) dX4_settle_65 hG (fun z31 hG => ?_)
        refine r_isub (pc := 66) X dX4_settle_66 hG (fun z32 hG => ?_)
        refine r_iload_n (pc := 67) X dX4_settle_67 rfl rfl ?_
        refine r_join hG (fun a33 => ∀ (y35 : Int32) (h36 : Hp), a33 = (y35.toInt, h36) → Ev E ad shl p l e rm_X4_settle s m args below meth c 0 0 Q 7 h36 95 [some (.ref (ad b0)), none, some (.int x2), some (.int y35), some (.int y13), some (.int y26), none] []) (fun a33 hG => ?_) (fun j34 Hj34 hG => ?_)
        · skip
          intro y35 h36 ha; have ha := ha.symm; subst ha
          refine r_iinc (pc := 95) (L' := fun z37 => [some (.ref (ad b0)), none, some (.int x2), some (.int y35), some (.int y13), some (.int z37), none]) X dX4_settle_95 (by decide) rfl rfl (by decide) (fun _ => rfl) hG (fun z37 hG => ?_)
          refine r_goto (pc := 98) X dX4_settle_98 (tgt := 37) (by decide) ?_
          exact r_mask [true, false, true, true, true, true, false] rfl (Hl24 _ hG y35 z37 h36 rfl)
        refine r_icmp_le (pc := 68) X dX4_settle_68 (tgt := 95) (by decide) hG (fun hG => ?_) (fun hG => ?_)
        · skip
          exact r_mask [true, false, true, true, true, true, false] rfl (Hj34 _ hG y25 h27 rfl)
        · skip
          refine r_aload_n (pc := 71) X dX4_settle_71 rfl rfl ?_
          refine r_getC (pc := 72) X (at_X4_o Hb0) rfl mU_X4 (k := 0) (by decide) (q := (b0 + 1)) rfl mF_X4_9 dX4_settle_72 ?_
          refine r_iload (pc := 75) X dX4_settle_75 rfl ?_
          refine r_dup2 (pc := 77) X dX4_settle_77 rfl rfl ?_
          refine r_iald (pc := 78) X (at_X4_height Hb0) dX4_settle_78 hG (fun z38 hG => ?_)
          refine r_iconst (pc := 79) X dX4_settle_79 hG rfl (fun z39 hG => ?_)
          refine r_isub (pc := 80) X dX4_settle_80 hG (fun z40 hG => ?_)
          refine r_iast (pc := 81) X (at_X4_height Hb0) dX4_settle_81 hG (fun h41 hG => ?_)
          refine r_aload_n (pc := 82) X dX4_settle_82 rfl rfl ?_
          refine r_getC (pc := 83) X (at_X4_o Hb0) rfl mU_X4 (k := 0) (by decide) (q := (b0 + 1)) rfl mF_X4_9 dX4_settle_83 ?_
          refine r_iload (pc := 86) X dX4_settle_86 rfl ?_
          refine r_dup2 (pc := 88) X dX4_settle_88 rfl rfl ?_
          refine r_iald (pc := 89) X (at_X4_height Hb0) dX4_settle_89 hG (fun z42 hG => ?_)
          refine r_iconst (pc := 90) X dX4_settle_90 hG rfl (fun z43 hG => ?_)
          refine r_iadd (pc := 91) X dX4_settle_91 hG (fun z44 hG => ?_)
          refine r_iast (pc := 92) X (at_X4_height Hb0) dX4_settle_92 hG (fun h45 hG => ?_)
          refine r_iconst (pc := 93) X dX4_settle_93 hG rfl (fun z46 hG => ?_)
          refine r_istore_n (pc := 94) (L' := [some (.ref (ad b0)), none, some (.int x2), some (.int z46), some (.int y13), some (.int y26), some (.int z29)]) X dX4_settle_94 rfl (by decide) rfl rfl ?_
          exact r_mask [true, false, true, true, true, true, false] rfl (Hj34 _ hG z46 h45 rfl)
theorem c_X4_settle {b0 : Nat} {x1 : Int32} {x2 : Int32} {r : Hp} (Hb0 : At_X4 shl b0) (hg : g_X4_settle b0 x1.toInt x2.toInt h = some r) : Met l yX4_settle (wsM yX4_settle cX4_settle 7 none) rm_X4_settle (va_Pc [.ref (ad b0), .int x1, .int x2] (World E ad shl h)) (QcV E ad shl r) 0 0 (bsA E) :=
  met_of (L0 := [some (.ref (ad b0)), some (.int x1), some (.int x2), none, none, none, none]) rfl rfl rfl (Nat.le_of_ble_eq_true rfl) (fun _ _ _ _ _ _ _ X => w_X4_settle Hb0 X rfl hg)
abbrev rm_X8_spill : Room := { frames := 2, cells := 0, slots := 0, locals := 49 }
theorem hdd_X8_spill : yX8_spill.cls = RX8 ∧ yX8_spill.cls ≠ "java/lang/invoke/MethodHandle" ∧ yX8_spill.cls ≠ "java/lang/invoke/VarHandle" ∧ (parseMethodDescriptor yX8_spill.desc).map (fun d => d.parameters.length) = some 4 := ⟨rfl, by decide +kernel, by decide +kernel, by decide +kernel⟩
set_option maxRecDepth 100000 in
set_option maxHeartbeats 4000000 in
theorem w_X8_spill {x1 : Int32} {x2 : Int32} {x3 : Int32} {x4 : Int32} {r : Int × Hp} (Hb0 : At_X8 shl) (X : Cx E p s m args meth c cX8_spill RX8 5 (some .int)) (hQ : Q = MQ below (QcI E ad shl r.1 r.2) args s 0 0 (bsA E)) (hG : g_X8_spill x1.toInt x2.toInt x3.toInt x4.toInt h = some r) : Ev E ad shl p l e rm_X8_spill s m args below meth c 0 0 Q 5 h 0 [some (.ref (ad 0)), some (.int x1), some (.int x2), some (.int x3), some (.int x4)] [] := by
  unfold g_X8_spill at hG
  refine r_iload_n (pc := 0) X dX8_spill_0 rfl rfl ?_
  refine r_join hG (fun _ => Ev E ad shl p l e rm_X8_spill s m args below meth c 0 0 Q 5 h 30 [none, none, none, none, none] []) (fun a1 hG => ?_) (fun j2 Hj2 hG => ?_)
  · skip
    refine r_bipush (pc := 30) X dX8_spill_30 hG (by decide) (fun z3 hG => ?_)
    exact r_iretW (pc := 32) X dX8_spill_32 hQ hG
  refine r_if_lt (pc := 1) X dX8_spill_1 (tgt := 30) (by decide) hG (fun hG => ?_) (fun hG => ?_)
  · skip
    exact r_mask [false, false, false, false, false] rfl (Hj2 _ hG)
  · skip
    refine r_iload_n (pc := 4) X dX8_spill_4 rfl rfl ?_
    refine r_bipush (pc := 5) X dX8_spill_5 hG (by decide) (fun z4 hG => ?_)
    refine r_icmp_gt (pc := 7) X dX8_spill_7 (tgt := 30) (by decide) hG (fun hG => ?_) (fun hG => ?_)
    · skip
      exact r_mask [false, false, false, false, false] rfl (Hj2 _ hG)
    · skip
      refine r_iload_n (pc := 10) X dX8_spill_10 rfl rfl ?_
      refine r_iload_n (pc := 11) X dX8_spill_11 rfl rfl ?_
      refine r_cP (pc := 12) hG (fun _ hg => runS X dX8_spill_12 (c_X8_isSand  hg) mM_X8_238 mS_X8_isSand mN_X8 mK_X8_isSand rfl rfl hdd_X8_isSand ⟨(Nat.le_of_ble_eq_true rfl), (Nat.le_of_ble_eq_true rfl)⟩ rfl rfl (Nat.le_of_ble_eq_true rfl) ⟨(Nat.le_of_ble_eq_true rfl), (Nat.le_of_ble_eq_true rfl)⟩) (fun z5 hG => ?_)
      refine r_if_eq (pc := 15) X dX8_spill_15 (tgt := 30) (by decide) hG (fun hG => ?_) (fun hG => ?_)
      · skip
        exact r_mask [false, false, false, false, false] rfl (Hj2 _ hG)
      · skip
        refine r_iload (pc := 18) X dX8_spill_18 rfl ?_
        refine r_if_lt (pc := 20) X dX8_spill_20 (tgt := 30) (by decide) hG (fun hG => ?_) (fun hG => ?_)
        · skip
          exact r_mask [false, false, false, false, false] rfl (Hj2 _ hG)
        · skip
          refine r_iload (pc := 23) X dX8_spill_23 rfl ?_
          refine r_bipush (pc := 25) X dX8_spill_25 hG (by decide) (fun z6 hG => ?_)
          refine r_icmp_lt (pc := 27) X dX8_spill_27 (tgt := 33) (by decide) hG (fun hG => ?_) (fun hG => ?_)
          · skip
            refine r_aload_n (pc := 33) X dX8_spill_33 rfl rfl ?_
            refine r_getC (pc := 34) X (at_X8_o Hb0) rfl mU_X8 (k := 12) (by decide) (q := 59) rfl mF_X8_74 dX8_spill_34 ?_
            refine r_iload_n (pc := 37) X dX8_spill_37 rfl rfl ?_
            refine r_aload_n (pc := 38) X dX8_spill_38 rfl rfl ?_
            refine r_getR (pc := 39) X (at_X8_o Hb0) rfl mU_X8 (k := 1) (by decide) rfl mF_X8_19 dX8_spill_39 hG (fun q7 Hq7 hG => ?_)
            refine r_iload_n (pc := 42) X dX8_spill_42 rfl rfl ?_
            refine r_iload_n (pc := 43) X dX8_spill_43 rfl rfl ?_
            refine r_cP (pc := 44) hG (fun _ hg => runV X dX8_spill_44 (c_X0_bearing (at_X8_beaches Hb0 _ Hq7) hg) mM_X8_197 mI_X0_bearing mE_X0_bearing mN_X0 mK_X0_bearing (at_X0_o (at_X8_beaches Hb0 _ Hq7)) rfl rfl rfl rfl hdd_X0_bearing ⟨(Nat.le_of_ble_eq_true rfl), (Nat.le_of_ble_eq_true rfl)⟩ rfl rfl (Nat.le_of_ble_eq_true rfl) ⟨(Nat.le_of_ble_eq_true rfl), (Nat.le_of_ble_eq_true rfl)⟩) (fun z8 hG => ?_)
            refine r_cV (pc := 47) hG (fun _ hg => runV X dX8_spill_47 (c_X4_settle (at_X8_pile Hb0) hg) mM_X8_242 mI_X4_settle mE_X4_settle mN_X4 mK_X4_settle (at_X4_o (at_X8_pile Hb0)) rfl rfl rfl rfl hdd_X4_settle ⟨(Nat.le_of_ble_eq_true rfl), (Nat.le_of_ble_eq_true rfl)⟩ rfl rfl (Nat.le_of_ble_eq_true rfl) ⟨(Nat.le_of_ble_eq_true rfl), (Nat.le_of_ble_eq_true rfl)⟩) (fun h9 hG => ?_)
            refine r_aload_n (pc := 50) X dX8_spill_50 rfl rfl ?_
            refine r_getC (pc := 51) X (at_X8_o Hb0) rfl mU_X8 (k := 12) (by decide) (q := 59) rfl mF_X8_74 dX8_spill_51 ?_
            refine r_getC (pc := 54) X (at_X4_o (at_X8_pile Hb0)) rfl mU_X4 (k := 0) (by decide) (q := 60) rfl mF_X8_246 dX8_spill_54 ?_
            refine r_iload (pc := 57) X dX8_spill_57 rfl ?_
            refine r_iald (pc := 59) X (at_X4_height (at_X8_pile Hb0)) dX8_spill_59 hG (fun z10 hG => ?_)
            exact r_iretW (pc := 60) X dX8_spill_60 hQ hG
          · skip
            exact r_mask [false, false, false, false, false] rfl (Hj2 _ hG)
theorem c_X8_spill {x1 : Int32} {x2 : Int32} {x3 : Int32} {x4 : Int32} {r : Int × Hp} (Hb0 : At_X8 shl) (hg : g_X8_spill x1.toInt x2.toInt x3.toInt x4.toInt h = some r) : Met l yX8_spill (wsM yX8_spill cX8_spill 5 (some .int)) rm_X8_spill (va_Pc [.ref (ad 0), .int x1, .int x2, .int x3, .int x4] (World E ad shl h)) (QcI E ad shl r.1 r.2) 0 0 (bsA E) :=
  met_of (L0 := [some (.ref (ad 0)), some (.int x1), some (.int x2), some (.int x3), some (.int x4)]) rfl rfl rfl (Nat.le_of_ble_eq_true rfl) (fun _ _ _ _ _ _ _ X => w_X8_spill Hb0 X rfl hg)
abbrev rm_X7_isNextStep : Room := { frames := 0, cells := 0, slots := 0, locals := 0 }
theorem hdd_X7_isNextStep : yX7_isNextStep.cls = RX7 ∧ yX7_isNextStep.cls ≠ "java/lang/invoke/MethodHandle" ∧ yX7_isNextStep.cls ≠ "java/lang/invoke/VarHandle" ∧ (parseMethodDescriptor yX7_isNextStep.desc).map (fun d => d.parameters.length) = some 1 := ⟨rfl, by decide +kernel, by decide +kernel, by decide +kernel⟩
set_option maxRecDepth 100000 in
set_option maxHeartbeats 4000000 in
theorem w_X7_isNextStep {b0 : Nat} {x1 : Int32} {r : Int} (Hb0 : At_X7 shl b0) (X : Cx E p s m args meth c cX7_isNextStep RX7 2 (some .boolean)) (hQ : Q = MQ below (QcI E ad shl r h) args s 0 0 (bsA E)) (hG : g_X7_isNextStep b0 x1.toInt h = some r) : Ev E ad shl p l e rm_X7_isNextStep s m args below meth c 0 0 Q 2 h 0 [some (.ref (ad b0)), some (.int x1)] [] := by
  unfold g_X7_isNextStep at hG
  refine r_iload_n (pc := 0) X dX7_isNextStep_0 rfl rfl ?_
  refine r_aload_n (pc := 1) X dX7_isNextStep_1 rfl rfl ?_
  refine r_getI (pc := 2) X (at_X7_o Hb0) rfl mU_X7 (k := 2) (by decide) rfl mF_X7_39 dX7_isNextStep_2 hG (fun z1 hG => ?_)
  refine r_join hG (fun a2 => ∀ (y4 : Int32), a2 = y4.toInt → Ev E ad shl p l e rm_X7_isNextStep s m args below meth c 0 0 Q 2 h 20 [none, none] [.int y4]) (fun a2 hG => ?_) (fun j3 Hj3 hG => ?_)
  · skip
    intro y4 ha; have ha := ha.symm; subst ha
    exact r_zretP (pc := 20) X dX7_isNextStep_20 hQ hG
  refine r_join hG (fun _ => Ev E ad shl p l e rm_X7_isNextStep s m args below meth c 0 0 Q 2 h 19 [none, none] []) (fun a5 hG => ?_) (fun j6 Hj6 hG => ?_)
  · skip
    refine r_iconst (pc := 19) X dX7_isNextStep_19 hG rfl (fun z7 hG => ?_)
    exact r_mask [false, false] rfl (Hj3 _ hG z7 rfl)
  refine r_icmp_lt (pc := 5) X dX7_isNextStep_5 (tgt := 19) (by decide) hG (fun hG => ?_) (fun hG => ?_)
  · skip
    exact r_mask [false, false] rfl (Hj6 _ hG)
  · skip
    refine r_iload_n (pc := 8) X dX7_isNextStep_8 rfl rfl ?_
    refine r_sipush (pc := 9) X dX7_isNextStep_9 hG (by decide) (fun z8 hG => ?_)
    refine r_icmp_gt (pc := 12) X dX7_isNextStep_12 (tgt := 19) (by decide) hG (fun hG => ?_) (fun hG => ?_)
    · skip
      exact r_mask [false, false] rfl (Hj6 _ hG)
    · skip
      refine r_iconst (pc := 15) X dX7_isNextStep_15 hG rfl (fun z9 hG => ?_)
      refine r_goto (pc := 16) X dX7_isNextStep_16 (tgt := 20) (by decide) ?_
      exact r_mask [false, false] rfl (Hj3 _ hG z9 rfl)
theorem c_X7_isNextStep {b0 : Nat} {x1 : Int32} {r : Int} (Hb0 : At_X7 shl b0) (hg : g_X7_isNextStep b0 x1.toInt h = some r) : Met l yX7_isNextStep (wsM yX7_isNextStep cX7_isNextStep 2 (some .boolean)) rm_X7_isNextStep (va_Pc [.ref (ad b0), .int x1] (World E ad shl h)) (QcI E ad shl r h) 0 0 (bsA E) :=
  met_of (L0 := [some (.ref (ad b0)), some (.int x1)]) rfl rfl rfl (Nat.le_of_ble_eq_true rfl) (fun _ _ _ _ _ _ _ X => w_X7_isNextStep Hb0 X rfl hg)
abbrev rm_X8_isAnswer : Room := { frames := 0, cells := 0, slots := 0, locals := 0 }
theorem hdd_X8_isAnswer : yX8_isAnswer.cls ≠ "java/lang/invoke/MethodHandle" ∧ yX8_isAnswer.cls ≠ "java/lang/invoke/VarHandle" ∧ (parseMethodDescriptor yX8_isAnswer.desc).map (fun d => d.parameters.length) = some 1 := ⟨by decide +kernel, by decide +kernel, by decide +kernel⟩
set_option maxRecDepth 100000 in
set_option maxHeartbeats 4000000 in
theorem w_X8_isAnswer {x1 : Int32} {r : Int}  (X : Cx E p s m args meth c cX8_isAnswer RX8 1 (some .boolean)) (hQ : Q = MQ below (QcI E ad shl r h) args s 0 0 (bsA E)) (hG : g_X8_isAnswer x1.toInt = some r) : Ev E ad shl p l e rm_X8_isAnswer s m args below meth c 0 0 Q 1 h 0 [some (.int x1)] [] := by
  unfold g_X8_isAnswer at hG
  refine r_iload_n (pc := 0) X dX8_isAnswer_0 rfl rfl ?_
  refine r_join hG (fun a1 => ∀ (y3 : Int32), a1 = y3.toInt → Ev E ad shl p l e rm_X8_isAnswer s m args below meth c 0 0 Q 1 h 14 [none] [.int y3]) (fun a1 hG => ?_) (fun j2 Hj2 hG => ?_)
  · skip
    intro y3 ha; have ha := ha.symm; subst ha
    exact r_zretP (pc := 14) X dX8_isAnswer_14 hQ hG
  refine r_join hG (fun _ => Ev E ad shl p l e rm_X8_isAnswer s m args below meth c 0 0 Q 1 h 9 [none] []) (fun a4 hG => ?_) (fun j5 Hj5 hG => ?_)
  · skip
    refine r_iconst (pc := 9) X dX8_isAnswer_9 hG rfl (fun z6 hG => ?_)
    refine r_goto (pc := 10) X dX8_isAnswer_10 (tgt := 14) (by decide) ?_
    exact r_mask [false] rfl (Hj2 _ hG z6 rfl)
  refine r_if_eq (pc := 1) X dX8_isAnswer_1 (tgt := 9) (by decide) hG (fun hG => ?_) (fun hG => ?_)
  · skip
    exact r_mask [false] rfl (Hj5 _ hG)
  · skip
    refine r_iload_n (pc := 4) X dX8_isAnswer_4 rfl rfl ?_
    refine r_iconst (pc := 5) X dX8_isAnswer_5 hG rfl (fun z7 hG => ?_)
    refine r_icmp_ne (pc := 6) X dX8_isAnswer_6 (tgt := 13) (by decide) hG (fun hG => ?_) (fun hG => ?_)
    · skip
      refine r_iconst (pc := 13) X dX8_isAnswer_13 hG rfl (fun z8 hG => ?_)
      exact r_mask [false] rfl (Hj2 _ hG z8 rfl)
    · skip
      exact r_mask [false] rfl (Hj5 _ hG)
theorem c_X8_isAnswer {x1 : Int32} {r : Int}  (hg : g_X8_isAnswer x1.toInt = some r) : Met l yX8_isAnswer (wsM yX8_isAnswer cX8_isAnswer 1 (some .boolean)) rm_X8_isAnswer (va_Pc [.int x1] (World E ad shl h)) (QcI E ad shl r h) 0 0 (bsA E) :=
  met_of (L0 := [some (.int x1)]) rfl rfl rfl (Nat.le_of_ble_eq_true rfl) (fun _ _ _ _ _ _ _ X => w_X8_isAnswer  X rfl hg)
abbrev rm_X7_tell : Room := { frames := 0, cells := 0, slots := 0, locals := 0 }
theorem hdd_X7_tell : yX7_tell.cls = RX7 ∧ yX7_tell.cls ≠ "java/lang/invoke/MethodHandle" ∧ yX7_tell.cls ≠ "java/lang/invoke/VarHandle" ∧ (parseMethodDescriptor yX7_tell.desc).map (fun d => d.parameters.length) = some 4 := ⟨rfl, by decide +kernel, by decide +kernel, by decide +kernel⟩
set_option maxRecDepth 100000 in
set_option maxHeartbeats 4000000 in
theorem w_X7_tell {b0 : Nat} {x1 : Int32} {x2 : Int32} {x3 : Int32} {x4 : Int32} {r : Int × Hp} (Hb0 : At_X7 shl b0) (X : Cx E p s m args meth c cX7_tell RX7 5 (some .int)) (hQ : Q = MQ below (QcI E ad shl r.1 r.2) args s 0 0 (bsA E)) (hG : g_X7_tell b0 x1.toInt x2.toInt x3.toInt x4.toInt h = some r) : Ev E ad shl p l e rm_X7_tell s m args below meth c 0 0 Q 5 h 0 [some (.ref (ad b0)), some (.int x1), some (.int x2), some (.int x3), some (.int x4)] [] := by
  unfold g_X7_tell at hG
  refine r_aload_n (pc := 0) X dX7_tell_0 rfl rfl ?_
  refine r_getI (pc := 1) X (at_X7_o Hb0) rfl mU_X7 (k := 0) (by decide) rfl mF_X7_43 dX7_tell_1 hG (fun z1 hG => ?_)
  refine r_bipush (pc := 4) X dX7_tell_4 hG (by decide) (fun z2 hG => ?_)
  refine r_icmp_lt (pc := 6) X dX7_tell_6 (tgt := 12) (by decide) hG (fun hG => ?_) (fun hG => ?_)
  · skip
    refine r_aload_n (pc := 12) X dX7_tell_12 rfl rfl ?_
    refine r_getC (pc := 13) X (at_X7_o Hb0) rfl mU_X7 (k := 3) (by decide) (q := (b0 + 1)) rfl mF_X7_11 dX7_tell_13 ?_
    refine r_aload_n (pc := 16) X dX7_tell_16 rfl rfl ?_
    refine r_getI (pc := 17) X (at_X7_o Hb0) rfl mU_X7 (k := 0) (by decide) rfl mF_X7_43 dX7_tell_17 hG (fun z3 hG => ?_)
    refine r_iload_n (pc := 20) X dX7_tell_20 rfl rfl ?_
    refine r_iast (pc := 21) X (at_X7_steps Hb0) dX7_tell_21 hG (fun h4 hG => ?_)
    refine r_aload_n (pc := 22) X dX7_tell_22 rfl rfl ?_
    refine r_getC (pc := 23) X (at_X7_o Hb0) rfl mU_X7 (k := 4) (by decide) (q := (b0 + 2)) rfl mF_X7_15 dX7_tell_23 ?_
    refine r_aload_n (pc := 26) X dX7_tell_26 rfl rfl ?_
    refine r_getI (pc := 27) X (at_X7_o Hb0) rfl mU_X7 (k := 0) (by decide) rfl mF_X7_43 dX7_tell_27 hG (fun z5 hG => ?_)
    refine r_iload_n (pc := 30) X dX7_tell_30 rfl rfl ?_
    refine r_iast (pc := 31) X (at_X7_wets Hb0) dX7_tell_31 hG (fun h6 hG => ?_)
    refine r_aload_n (pc := 32) X dX7_tell_32 rfl rfl ?_
    refine r_getC (pc := 33) X (at_X7_o Hb0) rfl mU_X7 (k := 5) (by decide) (q := (b0 + 3)) rfl mF_X7_18 dX7_tell_33 ?_
    refine r_aload_n (pc := 36) X dX7_tell_36 rfl rfl ?_
    refine r_getI (pc := 37) X (at_X7_o Hb0) rfl mU_X7 (k := 0) (by decide) rfl mF_X7_43 dX7_tell_37 hG (fun z7 hG => ?_)
    refine r_iload_n (pc := 40) X dX7_tell_40 rfl rfl ?_
    refine r_iast (pc := 41) X (at_X7_steeps Hb0) dX7_tell_41 hG (fun h8 hG => ?_)
    refine r_aload_n (pc := 42) X dX7_tell_42 rfl rfl ?_
    refine r_getC (pc := 43) X (at_X7_o Hb0) rfl mU_X7 (k := 6) (by decide) (q := (b0 + 4)) rfl mF_X7_21 dX7_tell_43 ?_
    refine r_aload_n (pc := 46) X dX7_tell_46 rfl rfl ?_
    refine r_getI (pc := 47) X (at_X7_o Hb0) rfl mU_X7 (k := 0) (by decide) rfl mF_X7_43 dX7_tell_47 hG (fun z9 hG => ?_)
    refine r_iload (pc := 50) X dX7_tell_50 rfl ?_
    refine r_iast (pc := 52) X (at_X7_stoods Hb0) dX7_tell_52 hG (fun h10 hG => ?_)
    refine r_aload_n (pc := 53) X dX7_tell_53 rfl rfl ?_
    refine r_iload_n (pc := 54) X dX7_tell_54 rfl rfl ?_
    refine r_putI (pc := 55) X (at_X7_o Hb0) rfl mU_X7 (k := 2) (by decide) rfl rfl rfl mF_X7_39 dX7_tell_55 hG (fun h11 hG => ?_)
    refine r_aload_n (pc := 58) X dX7_tell_58 rfl rfl ?_
    refine r_dup (pc := 59) X dX7_tell_59 rfl ?_
    refine r_getI (pc := 60) X (at_X7_o Hb0) rfl mU_X7 (k := 0) (by decide) rfl mF_X7_43 dX7_tell_60 hG (fun z12 hG => ?_)
    refine r_iconst (pc := 63) X dX7_tell_63 hG rfl (fun z13 hG => ?_)
    refine r_iadd (pc := 64) X dX7_tell_64 hG (fun z14 hG => ?_)
    refine r_putI (pc := 65) X (at_X7_o Hb0) rfl mU_X7 (k := 0) (by decide) rfl rfl rfl mF_X7_43 dX7_tell_65 hG (fun h15 hG => ?_)
    refine r_aload_n (pc := 68) X dX7_tell_68 rfl rfl ?_
    refine r_getI (pc := 69) X (at_X7_o Hb0) rfl mU_X7 (k := 0) (by decide) rfl mF_X7_43 dX7_tell_69 hG (fun z16 hG => ?_)
    refine r_iconst (pc := 72) X dX7_tell_72 hG rfl (fun z17 hG => ?_)
    refine r_isub (pc := 73) X dX7_tell_73 hG (fun z18 hG => ?_)
    exact r_iretW (pc := 74) X dX7_tell_74 hQ hG
  · skip
    refine r_bipush (pc := 9) X dX7_tell_9 hG (by decide) (fun z19 hG => ?_)
    exact r_iretW (pc := 11) X dX7_tell_11 hQ hG
theorem c_X7_tell {b0 : Nat} {x1 : Int32} {x2 : Int32} {x3 : Int32} {x4 : Int32} {r : Int × Hp} (Hb0 : At_X7 shl b0) (hg : g_X7_tell b0 x1.toInt x2.toInt x3.toInt x4.toInt h = some r) : Met l yX7_tell (wsM yX7_tell cX7_tell 5 (some .int)) rm_X7_tell (va_Pc [.ref (ad b0), .int x1, .int x2, .int x3, .int x4] (World E ad shl h)) (QcI E ad shl r.1 r.2) 0 0 (bsA E) :=
  met_of (L0 := [some (.ref (ad b0)), some (.int x1), some (.int x2), some (.int x3), some (.int x4)]) rfl rfl rfl (Nat.le_of_ble_eq_true rfl) (fun _ _ _ _ _ _ _ X => w_X7_tell Hb0 X rfl hg)
abbrev rm_X8_trial : Room := { frames := 1, cells := 0, slots := 0, locals := 24 }
theorem hdd_X8_trial : yX8_trial.cls = RX8 ∧ yX8_trial.cls ≠ "java/lang/invoke/MethodHandle" ∧ yX8_trial.cls ≠ "java/lang/invoke/VarHandle" ∧ (parseMethodDescriptor yX8_trial.desc).map (fun d => d.parameters.length) = some 4 := ⟨rfl, by decide +kernel, by decide +kernel, by decide +kernel⟩
set_option maxRecDepth 100000 in
set_option maxHeartbeats 4000000 in
theorem w_X8_trial {x1 : Int32} {x2 : Int32} {x3 : Int32} {x4 : Int32} {r : Int × Hp} (Hb0 : At_X8 shl) (X : Cx E p s m args meth c cX8_trial RX8 6 (some .int)) (hQ : Q = MQ below (QcI E ad shl r.1 r.2) args s 0 0 (bsA E)) (hG : g_X8_trial x1.toInt x2.toInt x3.toInt x4.toInt h = some r) : Ev E ad shl p l e rm_X8_trial s m args below meth c 0 0 Q 6 h 0 [some (.ref (ad 0)), some (.int x1), some (.int x2), some (.int x3), some (.int x4), none] [] := by
  unfold g_X8_trial at hG
  refine r_aload_n (pc := 0) X dX8_trial_0 rfl rfl ?_
  refine r_getC (pc := 1) X (at_X8_o Hb0) rfl mU_X8 (k := 10) (by decide) (q := 36) rfl mF_X8_60 dX8_trial_1 ?_
  refine r_iload_n (pc := 4) X dX8_trial_4 rfl rfl ?_
  refine r_cP (pc := 5) hG (fun _ hg => runV X dX8_trial_5 (c_X7_isNextStep (at_X8_tries Hb0) hg) mM_X8_247 mI_X7_isNextStep mE_X7_isNextStep mN_X7 mK_X7_isNextStep (at_X7_o (at_X8_tries Hb0)) rfl rfl rfl rfl hdd_X7_isNextStep ⟨(Nat.le_of_ble_eq_true rfl), (Nat.le_of_ble_eq_true rfl)⟩ rfl rfl (Nat.le_of_ble_eq_true rfl) ⟨(Nat.le_of_ble_eq_true rfl), (Nat.le_of_ble_eq_true rfl)⟩) (fun z1 hG => ?_)
  refine r_join hG (fun a2 => ∀ (y4 : Int32), a2 = y4.toInt → Ev E ad shl p l e rm_X8_trial s m args below meth c 0 0 Q 6 h 46 [some (.ref (ad 0)), some (.int x1), some (.int x2), some (.int x3), some (.int x4), none] [.int y4]) (fun a2 hG => ?_) (fun j3 Hj3 hG => ?_)
  · skip
    intro y4 ha; have ha := ha.symm; subst ha
    refine r_istore (pc := 46) (L' := [some (.ref (ad 0)), some (.int x1), some (.int x2), some (.int x3), some (.int x4), some (.int y4)]) X dX8_trial_46 (by decide) rfl rfl ?_
    refine r_iload (pc := 48) X dX8_trial_48 rfl ?_
    refine r_if_ne (pc := 50) X dX8_trial_50 (tgt := 56) (by decide) hG (fun hG => ?_) (fun hG => ?_)
    · skip
      refine r_aload_n (pc := 56) X dX8_trial_56 rfl rfl ?_
      refine r_getC (pc := 57) X (at_X8_o Hb0) rfl mU_X8 (k := 10) (by decide) (q := 36) rfl mF_X8_60 dX8_trial_57 ?_
      refine r_getI (pc := 60) X (at_X7_o (at_X8_tries Hb0)) rfl mU_X7 (k := 0) (by decide) rfl mF_X8_253 dX8_trial_60 hG (fun z5 hG => ?_)
      refine r_bipush (pc := 63) X dX8_trial_63 hG (by decide) (fun z6 hG => ?_)
      refine r_icmp_lt (pc := 65) X dX8_trial_65 (tgt := 71) (by decide) hG (fun hG => ?_) (fun hG => ?_)
      · skip
        refine r_aload_n (pc := 71) X dX8_trial_71 rfl rfl ?_
        refine r_getC (pc := 72) X (at_X8_o Hb0) rfl mU_X8 (k := 10) (by decide) (q := 36) rfl mF_X8_60 dX8_trial_72 ?_
        refine r_iload_n (pc := 75) X dX8_trial_75 rfl rfl ?_
        refine r_iload_n (pc := 76) X dX8_trial_76 rfl rfl ?_
        refine r_iload_n (pc := 77) X dX8_trial_77 rfl rfl ?_
        refine r_iload (pc := 78) X dX8_trial_78 rfl ?_
        refine r_cW (pc := 80) hG (fun _ hg => runV X dX8_trial_80 (c_X7_tell (at_X8_tries Hb0) hg) mM_X8_256 mI_X7_tell mE_X7_tell mN_X7 mK_X7_tell (at_X7_o (at_X8_tries Hb0)) rfl rfl rfl rfl hdd_X7_tell ⟨(Nat.le_of_ble_eq_true rfl), (Nat.le_of_ble_eq_true rfl)⟩ rfl rfl (Nat.le_of_ble_eq_true rfl) ⟨(Nat.le_of_ble_eq_true rfl), (Nat.le_of_ble_eq_true rfl)⟩) (fun z7 h8 hG => ?_)
        exact r_iretW (pc := 83) X dX8_trial_83 hQ hG
      · skip
        refine r_bipush (pc := 68) X dX8_trial_68 hG (by decide) (fun z9 hG => ?_)
        exact r_iretW (pc := 70) X dX8_trial_70 hQ hG
    · skip
      refine r_bipush (pc := 53) X dX8_trial_53 hG (by decide) (fun z10 hG => ?_)
      exact r_iretW (pc := 55) X dX8_trial_55 hQ hG
  refine r_join hG (fun _ => Ev E ad shl p l e rm_X8_trial s m args below meth c 0 0 Q 6 h 45 [some (.ref (ad 0)), some (.int x1), some (.int x2), some (.int x3), some (.int x4), none] []) (fun a11 hG => ?_) (fun j12 Hj12 hG => ?_)
  · skip
    refine r_iconst (pc := 45) X dX8_trial_45 hG rfl (fun z13 hG => ?_)
    exact r_mask [true, true, true, true, true, false] rfl (Hj3 _ hG z13 rfl)
  refine r_if_eq (pc := 8) X dX8_trial_8 (tgt := 45) (by decide) hG (fun hG => ?_) (fun hG => ?_)
  · skip
    exact r_mask [true, true, true, true, true, false] rfl (Hj12 _ hG)
  · skip
    refine r_iload_n (pc := 11) X dX8_trial_11 rfl rfl ?_
    refine r_iconst (pc := 12) X dX8_trial_12 hG rfl (fun z14 hG => ?_)
    refine r_icmp_lt (pc := 13) X dX8_trial_13 (tgt := 45) (by decide) hG (fun hG => ?_) (fun hG => ?_)
    · skip
      exact r_mask [true, true, true, true, true, false] rfl (Hj12 _ hG)
    · skip
      refine r_iload_n (pc := 16) X dX8_trial_16 rfl rfl ?_
      refine r_bipush (pc := 17) X dX8_trial_17 hG (by decide) (fun z15 hG => ?_)
      refine r_icmp_gt (pc := 19) X dX8_trial_19 (tgt := 45) (by decide) hG (fun hG => ?_) (fun hG => ?_)
      · skip
        exact r_mask [true, true, true, true, true, false] rfl (Hj12 _ hG)
      · skip
        refine r_iload_n (pc := 22) X dX8_trial_22 rfl rfl ?_
        refine r_iconst (pc := 23) X dX8_trial_23 hG rfl (fun z16 hG => ?_)
        refine r_icmp_lt (pc := 24) X dX8_trial_24 (tgt := 45) (by decide) hG (fun hG => ?_) (fun hG => ?_)
        · skip
          exact r_mask [true, true, true, true, true, false] rfl (Hj12 _ hG)
        · skip
          refine r_iload_n (pc := 27) X dX8_trial_27 rfl rfl ?_
          refine r_bipush (pc := 28) X dX8_trial_28 hG (by decide) (fun z17 hG => ?_)
          refine r_icmp_gt (pc := 30) X dX8_trial_30 (tgt := 45) (by decide) hG (fun hG => ?_) (fun hG => ?_)
          · skip
            exact r_mask [true, true, true, true, true, false] rfl (Hj12 _ hG)
          · skip
            refine r_iload (pc := 33) X dX8_trial_33 rfl ?_
            refine r_cP (pc := 35) hG (fun _ hg => runS X dX8_trial_35 (c_X8_isAnswer  hg) mM_X8_250 mS_X8_isAnswer mN_X8 mK_X8_isAnswer rfl rfl hdd_X8_isAnswer ⟨(Nat.le_of_ble_eq_true rfl), (Nat.le_of_ble_eq_true rfl)⟩ rfl rfl (Nat.le_of_ble_eq_true rfl) ⟨(Nat.le_of_ble_eq_true rfl), (Nat.le_of_ble_eq_true rfl)⟩) (fun z18 hG => ?_)
            refine r_if_eq (pc := 38) X dX8_trial_38 (tgt := 45) (by decide) hG (fun hG => ?_) (fun hG => ?_)
            · skip
              exact r_mask [true, true, true, true, true, false] rfl (Hj12 _ hG)
            · skip
              refine r_iconst (pc := 41) X dX8_trial_41 hG rfl (fun z19 hG => ?_)
              refine r_goto (pc := 42) X dX8_trial_42 (tgt := 46) (by decide) ?_
              exact r_mask [true, true, true, true, true, false] rfl (Hj3 _ hG z19 rfl)
theorem c_X8_trial {x1 : Int32} {x2 : Int32} {x3 : Int32} {x4 : Int32} {r : Int × Hp} (Hb0 : At_X8 shl) (hg : g_X8_trial x1.toInt x2.toInt x3.toInt x4.toInt h = some r) : Met l yX8_trial (wsM yX8_trial cX8_trial 6 (some .int)) rm_X8_trial (va_Pc [.ref (ad 0), .int x1, .int x2, .int x3, .int x4] (World E ad shl h)) (QcI E ad shl r.1 r.2) 0 0 (bsA E) :=
  met_of (L0 := [some (.ref (ad 0)), some (.int x1), some (.int x2), some (.int x3), some (.int x4), none]) rfl rfl rfl (Nat.le_of_ble_eq_true rfl) (fun _ _ _ _ _ _ _ X => w_X8_trial Hb0 X rfl hg)
abbrev rm_X7_putRight : Room := { frames := 0, cells := 0, slots := 0, locals := 0 }
theorem hdd_X7_putRight : yX7_putRight.cls = RX7 ∧ yX7_putRight.cls ≠ "java/lang/invoke/MethodHandle" ∧ yX7_putRight.cls ≠ "java/lang/invoke/VarHandle" ∧ (parseMethodDescriptor yX7_putRight.desc).map (fun d => d.parameters.length) = some 3 := ⟨rfl, by decide +kernel, by decide +kernel, by decide +kernel⟩
set_option maxRecDepth 100000 in
set_option maxHeartbeats 4000000 in
theorem w_X7_putRight {b0 : Nat} {x1 : Int32} {x2 : Int32} {x3 : Int32} {r : Int × Hp} (Hb0 : At_X7 shl b0) (X : Cx E p s m args meth c cX7_putRight RX7 6 (some .int)) (hQ : Q = MQ below (QcI E ad shl r.1 r.2) args s 0 0 (bsA E)) (hG : g_X7_putRight b0 x1.toInt x2.toInt x3.toInt h = some r) : Ev E ad shl p l e rm_X7_putRight s m args below meth c 0 0 Q 6 h 0 [some (.ref (ad b0)), some (.int x1), some (.int x2), some (.int x3), none, none] [] := by
  unfold g_X7_putRight at hG
  refine r_aload_n (pc := 0) X dX7_putRight_0 rfl rfl ?_
  refine r_getI (pc := 1) X (at_X7_o Hb0) rfl mU_X7 (k := 1) (by decide) rfl mF_X7_46 dX7_putRight_1 hG (fun z1 hG => ?_)
  refine r_bipush (pc := 4) X dX7_putRight_4 hG (by decide) (fun z2 hG => ?_)
  refine r_icmp_lt (pc := 6) X dX7_putRight_6 (tgt := 12) (by decide) hG (fun hG => ?_) (fun hG => ?_)
  · skip
    refine r_aload_n (pc := 12) X dX7_putRight_12 rfl rfl ?_
    refine r_getC (pc := 13) X (at_X7_o Hb0) rfl mU_X7 (k := 7) (by decide) (q := (b0 + 5)) rfl mF_X7_24 dX7_putRight_13 ?_
    refine r_aload_n (pc := 16) X dX7_putRight_16 rfl rfl ?_
    refine r_getI (pc := 17) X (at_X7_o Hb0) rfl mU_X7 (k := 1) (by decide) rfl mF_X7_46 dX7_putRight_17 hG (fun z3 hG => ?_)
    refine r_iload_n (pc := 20) X dX7_putRight_20 rfl rfl ?_
    refine r_iast (pc := 21) X (at_X7_rightSteps Hb0) dX7_putRight_21 hG (fun h4 hG => ?_)
    refine r_aload_n (pc := 22) X dX7_putRight_22 rfl rfl ?_
    refine r_getC (pc := 23) X (at_X7_o Hb0) rfl mU_X7 (k := 8) (by decide) (q := (b0 + 6)) rfl mF_X7_27 dX7_putRight_23 ?_
    refine r_aload_n (pc := 26) X dX7_putRight_26 rfl rfl ?_
    refine r_getI (pc := 27) X (at_X7_o Hb0) rfl mU_X7 (k := 1) (by decide) rfl mF_X7_46 dX7_putRight_27 hG (fun z5 hG => ?_)
    refine r_iload_n (pc := 30) X dX7_putRight_30 rfl rfl ?_
    refine r_iast (pc := 31) X (at_X7_rightOf Hb0) dX7_putRight_31 hG (fun h6 hG => ?_)
    refine r_aload_n (pc := 32) X dX7_putRight_32 rfl rfl ?_
    refine r_getC (pc := 33) X (at_X7_o Hb0) rfl mU_X7 (k := 9) (by decide) (q := (b0 + 7)) rfl mF_X7_30 dX7_putRight_33 ?_
    refine r_aload_n (pc := 36) X dX7_putRight_36 rfl rfl ?_
    refine r_getI (pc := 37) X (at_X7_o Hb0) rfl mU_X7 (k := 1) (by decide) rfl mF_X7_46 dX7_putRight_37 hG (fun z7 hG => ?_)
    refine r_iload_n (pc := 40) X dX7_putRight_40 rfl rfl ?_
    refine r_iast (pc := 41) X (at_X7_rightStoods Hb0) dX7_putRight_41 hG (fun h8 hG => ?_)
    refine r_aload_n (pc := 42) X dX7_putRight_42 rfl rfl ?_
    refine r_iload_n (pc := 43) X dX7_putRight_43 rfl rfl ?_
    refine r_putI (pc := 44) X (at_X7_o Hb0) rfl mU_X7 (k := 2) (by decide) rfl rfl rfl mF_X7_39 dX7_putRight_44 hG (fun h9 hG => ?_)
    refine r_aload_n (pc := 47) X dX7_putRight_47 rfl rfl ?_
    refine r_dup (pc := 48) X dX7_putRight_48 rfl ?_
    refine r_getI (pc := 49) X (at_X7_o Hb0) rfl mU_X7 (k := 1) (by decide) rfl mF_X7_46 dX7_putRight_49 hG (fun z10 hG => ?_)
    refine r_iconst (pc := 52) X dX7_putRight_52 hG rfl (fun z11 hG => ?_)
    refine r_iadd (pc := 53) X dX7_putRight_53 hG (fun z12 hG => ?_)
    refine r_putI (pc := 54) X (at_X7_o Hb0) rfl mU_X7 (k := 1) (by decide) rfl rfl rfl mF_X7_46 dX7_putRight_54 hG (fun h13 hG => ?_)
    refine r_iconst (pc := 57) X dX7_putRight_57 hG rfl (fun z14 hG => ?_)
    refine r_istore (pc := 58) (L' := [some (.ref (ad b0)), some (.int x1), some (.int x2), some (.int x3), some (.int z14), none]) X dX7_putRight_58 (by decide) rfl rfl ?_
    refine r_iconst (pc := 60) X dX7_putRight_60 hG rfl (fun z15 hG => ?_)
    refine r_istore (pc := 61) (L' := [some (.ref (ad b0)), some (.int x1), some (.int x2), some (.int x3), some (.int z14), some (.int z15)]) X dX7_putRight_61 (by decide) rfl rfl ?_
    refine r_mask [true, false, true, false, true, true] rfl (r_loop (fun q16 => ∀ (y18 : Int32) (y19 : Int32), q16 = (y18.toInt, y19.toInt) → Ev E ad shl p l e rm_X7_putRight s m args below meth c 0 0 Q 6 h13 63 [some (.ref (ad b0)), none, some (.int x2), none, some (.int y18), some (.int y19)] []) (fun l17 Hl17 q16 hG => ?_) FU _ hG z14 z15 rfl)
    intro y18 y19 ha; have ha := ha.symm; subst ha
    unfold g_X7_putRight_l17 at hG
    refine r_iload (pc := 63) X dX7_putRight_63 rfl ?_
    refine r_aload_n (pc := 65) X dX7_putRight_65 rfl rfl ?_
    refine r_getI (pc := 66) X (at_X7_o Hb0) rfl mU_X7 (k := 1) (by decide) rfl mF_X7_46 dX7_putRight_66 hG (fun z20 hG => ?_)
    refine r_icmp_ge (pc := 69) X dX7_putRight_69 (tgt := 99) (by decide) hG (fun hG => ?_) (fun hG => ?_)
    · skip
      refine r_iload (pc := 99) X dX7_putRight_99 rfl ?_
      exact r_iretW (pc := 101) X dX7_putRight_101 hQ hG
    · skip
      refine r_iload (pc := 72) X dX7_putRight_72 rfl ?_
      refine r_aload_n (pc := 74) X dX7_putRight_74 rfl rfl ?_
      refine r_getC (pc := 75) X (at_X7_o Hb0) rfl mU_X7 (k := 8) (by decide) (q := (b0 + 6)) rfl mF_X7_27 dX7_putRight_75 ?_
      refine r_iload (pc := 78) X dX7_putRight_78 rfl ?_
      refine r_iald (pc := 80) X (at_X7_rightOf Hb0) dX7_putRight_80 hG (fun z21 hG => ?_)
      refine r_iload_n (pc := 81) X dX7_putRight_81 rfl rfl ?_
      refine r_join hG (fun a22 => ∀ (y24 : Int32), a22 = y24.toInt → Ev E ad shl p l e rm_X7_putRight s m args below meth c 0 0 Q 6 h13 90 [some (.ref (ad b0)), none, some (.int x2), none, none, some (.int y19)] [.int y24, .int y18]) (fun a22 hG => ?_) (fun j23 Hj23 hG => ?_)
      · skip
        intro y24 ha; have ha := ha.symm; subst ha
        refine r_iadd (pc := 90) X dX7_putRight_90 hG (fun z25 hG => ?_)
        refine r_istore (pc := 91) (L' := [some (.ref (ad b0)), none, some (.int x2), none, some (.int z25), some (.int y19)]) X dX7_putRight_91 (by decide) rfl rfl ?_
        refine r_iinc (pc := 93) (L' := fun z26 => [some (.ref (ad b0)), none, some (.int x2), none, some (.int z25), some (.int z26)]) X dX7_putRight_93 (by decide) rfl rfl (by decide) (fun _ => rfl) hG (fun z26 hG => ?_)
        refine r_goto (pc := 96) X dX7_putRight_96 (tgt := 63) (by decide) ?_
        exact r_mask [true, false, true, false, true, true] rfl (Hl17 _ hG z25 z26 rfl)
      refine r_icmp_ne (pc := 82) X dX7_putRight_82 (tgt := 89) (by decide) hG (fun hG => ?_) (fun hG => ?_)
      · skip
        refine r_iconst (pc := 89) X dX7_putRight_89 hG rfl (fun z27 hG => ?_)
        exact r_mask [true, false, true, false, false, true] rfl (Hj23 _ hG z27 rfl)
      · skip
        refine r_iconst (pc := 85) X dX7_putRight_85 hG rfl (fun z28 hG => ?_)
        refine r_goto (pc := 86) X dX7_putRight_86 (tgt := 90) (by decide) ?_
        exact r_mask [true, false, true, false, false, true] rfl (Hj23 _ hG z28 rfl)
  · skip
    refine r_bipush (pc := 9) X dX7_putRight_9 hG (by decide) (fun z29 hG => ?_)
    exact r_iretW (pc := 11) X dX7_putRight_11 hQ hG
theorem c_X7_putRight {b0 : Nat} {x1 : Int32} {x2 : Int32} {x3 : Int32} {r : Int × Hp} (Hb0 : At_X7 shl b0) (hg : g_X7_putRight b0 x1.toInt x2.toInt x3.toInt h = some r) : Met l yX7_putRight (wsM yX7_putRight cX7_putRight 6 (some .int)) rm_X7_putRight (va_Pc [.ref (ad b0), .int x1, .int x2, .int x3] (World E ad shl h)) (QcI E ad shl r.1 r.2) 0 0 (bsA E) :=
  met_of (L0 := [some (.ref (ad b0)), some (.int x1), some (.int x2), some (.int x3), none, none]) rfl rfl rfl (Nat.le_of_ble_eq_true rfl) (fun _ _ _ _ _ _ _ X => w_X7_putRight Hb0 X rfl hg)
abbrev rm_X8_right : Room := { frames := 1, cells := 0, slots := 0, locals := 25 }
theorem hdd_X8_right : yX8_right.cls = RX8 ∧ yX8_right.cls ≠ "java/lang/invoke/MethodHandle" ∧ yX8_right.cls ≠ "java/lang/invoke/VarHandle" ∧ (parseMethodDescriptor yX8_right.desc).map (fun d => d.parameters.length) = some 3 := ⟨rfl, by decide +kernel, by decide +kernel, by decide +kernel⟩
set_option maxRecDepth 100000 in
set_option maxHeartbeats 4000000 in
theorem w_X8_right {x1 : Int32} {x2 : Int32} {x3 : Int32} {r : Int × Hp} (Hb0 : At_X8 shl) (X : Cx E p s m args meth c cX8_right RX8 4 (some .int)) (hQ : Q = MQ below (QcI E ad shl r.1 r.2) args s 0 0 (bsA E)) (hG : g_X8_right x1.toInt x2.toInt x3.toInt h = some r) : Ev E ad shl p l e rm_X8_right s m args below meth c 0 0 Q 4 h 0 [some (.ref (ad 0)), some (.int x1), some (.int x2), some (.int x3)] [] := by
  unfold g_X8_right at hG
  refine r_aload_n (pc := 0) X dX8_right_0 rfl rfl ?_
  refine r_getC (pc := 1) X (at_X8_o Hb0) rfl mU_X8 (k := 10) (by decide) (q := 36) rfl mF_X8_60 dX8_right_1 ?_
  refine r_iload_n (pc := 4) X dX8_right_4 rfl rfl ?_
  refine r_cP (pc := 5) hG (fun _ hg => runV X dX8_right_5 (c_X7_isNextStep (at_X8_tries Hb0) hg) mM_X8_247 mI_X7_isNextStep mE_X7_isNextStep mN_X7 mK_X7_isNextStep (at_X7_o (at_X8_tries Hb0)) rfl rfl rfl rfl hdd_X7_isNextStep ⟨(Nat.le_of_ble_eq_true rfl), (Nat.le_of_ble_eq_true rfl)⟩ rfl rfl (Nat.le_of_ble_eq_true rfl) ⟨(Nat.le_of_ble_eq_true rfl), (Nat.le_of_ble_eq_true rfl)⟩) (fun z1 hG => ?_)
  refine r_join hG (fun _ => Ev E ad shl p l e rm_X8_right s m args below meth c 0 0 Q 4 h 33 [none, none, none, none] []) (fun a2 hG => ?_) (fun j3 Hj3 hG => ?_)
  · skip
    refine r_bipush (pc := 33) X dX8_right_33 hG (by decide) (fun z4 hG => ?_)
    exact r_iretW (pc := 35) X dX8_right_35 hQ hG
  refine r_if_eq (pc := 8) X dX8_right_8 (tgt := 33) (by decide) hG (fun hG => ?_) (fun hG => ?_)
  · skip
    exact r_mask [false, false, false, false] rfl (Hj3 _ hG)
  · skip
    refine r_iload_n (pc := 11) X dX8_right_11 rfl rfl ?_
    refine r_if_lt (pc := 12) X dX8_right_12 (tgt := 33) (by decide) hG (fun hG => ?_) (fun hG => ?_)
    · skip
      exact r_mask [false, false, false, false] rfl (Hj3 _ hG)
    · skip
      refine r_iload_n (pc := 15) X dX8_right_15 rfl rfl ?_
      refine r_aload_n (pc := 16) X dX8_right_16 rfl rfl ?_
      refine r_getC (pc := 17) X (at_X8_o Hb0) rfl mU_X8 (k := 10) (by decide) (q := 36) rfl mF_X8_60 dX8_right_17 ?_
      refine r_getI (pc := 20) X (at_X7_o (at_X8_tries Hb0)) rfl mU_X7 (k := 0) (by decide) rfl mF_X8_253 dX8_right_20 hG (fun z5 hG => ?_)
      refine r_icmp_ge (pc := 23) X dX8_right_23 (tgt := 33) (by decide) hG (fun hG => ?_) (fun hG => ?_)
      · skip
        exact r_mask [false, false, false, false] rfl (Hj3 _ hG)
      · skip
        refine r_iload_n (pc := 26) X dX8_right_26 rfl rfl ?_
        refine r_cP (pc := 27) hG (fun _ hg => runS X dX8_right_27 (c_X8_isAnswer  hg) mM_X8_250 mS_X8_isAnswer mN_X8 mK_X8_isAnswer rfl rfl hdd_X8_isAnswer ⟨(Nat.le_of_ble_eq_true rfl), (Nat.le_of_ble_eq_true rfl)⟩ rfl rfl (Nat.le_of_ble_eq_true rfl) ⟨(Nat.le_of_ble_eq_true rfl), (Nat.le_of_ble_eq_true rfl)⟩) (fun z6 hG => ?_)
        refine r_if_ne (pc := 30) X dX8_right_30 (tgt := 36) (by decide) hG (fun hG => ?_) (fun hG => ?_)
        · skip
          refine r_aload_n (pc := 36) X dX8_right_36 rfl rfl ?_
          refine r_getC (pc := 37) X (at_X8_o Hb0) rfl mU_X8 (k := 10) (by decide) (q := 36) rfl mF_X8_60 dX8_right_37 ?_
          refine r_getI (pc := 40) X (at_X7_o (at_X8_tries Hb0)) rfl mU_X7 (k := 1) (by decide) rfl mF_X8_260 dX8_right_40 hG (fun z7 hG => ?_)
          refine r_bipush (pc := 43) X dX8_right_43 hG (by decide) (fun z8 hG => ?_)
          refine r_icmp_lt (pc := 45) X dX8_right_45 (tgt := 51) (by decide) hG (fun hG => ?_) (fun hG => ?_)
          · skip
            refine r_aload_n (pc := 51) X dX8_right_51 rfl rfl ?_
            refine r_getC (pc := 52) X (at_X8_o Hb0) rfl mU_X8 (k := 10) (by decide) (q := 36) rfl mF_X8_60 dX8_right_52 ?_
            refine r_iload_n (pc := 55) X dX8_right_55 rfl rfl ?_
            refine r_iload_n (pc := 56) X dX8_right_56 rfl rfl ?_
            refine r_iload_n (pc := 57) X dX8_right_57 rfl rfl ?_
            refine r_cW (pc := 58) hG (fun _ hg => runV X dX8_right_58 (c_X7_putRight (at_X8_tries Hb0) hg) mM_X8_263 mI_X7_putRight mE_X7_putRight mN_X7 mK_X7_putRight (at_X7_o (at_X8_tries Hb0)) rfl rfl rfl rfl hdd_X7_putRight ⟨(Nat.le_of_ble_eq_true rfl), (Nat.le_of_ble_eq_true rfl)⟩ rfl rfl (Nat.le_of_ble_eq_true rfl) ⟨(Nat.le_of_ble_eq_true rfl), (Nat.le_of_ble_eq_true rfl)⟩) (fun z9 h10 hG => ?_)
            exact r_iretW (pc := 61) X dX8_right_61 hQ hG
          · skip
            refine r_bipush (pc := 48) X dX8_right_48 hG (by decide) (fun z11 hG => ?_)
            exact r_iretW (pc := 50) X dX8_right_50 hQ hG
        · skip
          exact r_mask [false, false, false, false] rfl (Hj3 _ hG)
theorem c_X8_right {x1 : Int32} {x2 : Int32} {x3 : Int32} {r : Int × Hp} (Hb0 : At_X8 shl) (hg : g_X8_right x1.toInt x2.toInt x3.toInt h = some r) : Met l yX8_right (wsM yX8_right cX8_right 4 (some .int)) rm_X8_right (va_Pc [.ref (ad 0), .int x1, .int x2, .int x3] (World E ad shl h)) (QcI E ad shl r.1 r.2) 0 0 (bsA E) :=
  met_of (L0 := [some (.ref (ad 0)), some (.int x1), some (.int x2), some (.int x3)]) rfl rfl rfl (Nat.le_of_ble_eq_true rfl) (fun _ _ _ _ _ _ _ X => w_X8_right Hb0 X rfl hg)
abbrev rm_X7_lookBackTo : Room := { frames := 0, cells := 0, slots := 0, locals := 0 }
theorem hdd_X7_lookBackTo : yX7_lookBackTo.cls = RX7 ∧ yX7_lookBackTo.cls ≠ "java/lang/invoke/MethodHandle" ∧ yX7_lookBackTo.cls ≠ "java/lang/invoke/VarHandle" ∧ (parseMethodDescriptor yX7_lookBackTo.desc).map (fun d => d.parameters.length) = some 1 := ⟨rfl, by decide +kernel, by decide +kernel, by decide +kernel⟩
set_option maxRecDepth 100000 in
set_option maxHeartbeats 4000000 in
theorem w_X7_lookBackTo {b0 : Nat} {x1 : Int32} {r : Hp} (Hb0 : At_X7 shl b0) (X : Cx E p s m args meth c cX7_lookBackTo RX7 3 none) (hQ : Q = MQ below (QcV E ad shl r) args s 0 0 (bsA E)) (hG : g_X7_lookBackTo b0 x1.toInt h = some r) : Ev E ad shl p l e rm_X7_lookBackTo s m args below meth c 0 0 Q 3 h 0 [some (.ref (ad b0)), some (.int x1), none] [] := by
  unfold g_X7_lookBackTo at hG
  refine r_iconst (pc := 0) X dX7_lookBackTo_0 hG rfl (fun z1 hG => ?_)
  refine r_istore_n (pc := 1) (L' := [some (.ref (ad b0)), some (.int x1), some (.int z1)]) X dX7_lookBackTo_1 rfl (by decide) rfl rfl ?_
  refine r_join hG (fun a2 => ∀ (h4 : Hp), a2 = h4 → Ev E ad shl p l e rm_X7_lookBackTo s m args below meth c 0 0 Q 3 h4 42 [some (.ref (ad b0)), some (.int x1), none] []) (fun a2 hG => ?_) (fun j3 Hj3 hG => ?_)
  · skip
    intro h4 ha; have ha := ha.symm; subst ha
    refine r_iconst (pc := 42) X dX7_lookBackTo_42 hG rfl (fun z5 hG => ?_)
    refine r_istore_n (pc := 43) (L' := [some (.ref (ad b0)), some (.int x1), some (.int z5)]) X dX7_lookBackTo_43 rfl (by decide) rfl rfl ?_
    refine r_mask [true, true, true] rfl (r_loop (fun q6 => ∀ (y8 : Int32) (h9 : Hp), q6 = (y8.toInt, h9) → Ev E ad shl p l e rm_X7_lookBackTo s m args below meth c 0 0 Q 3 h9 44 [some (.ref (ad b0)), some (.int x1), some (.int y8)] []) (fun l7 Hl7 q6 hG => ?_) FU _ hG z5 h4 rfl)
    intro y8 h9 ha; have ha := ha.symm; subst ha
    unfold g_X7_lookBackTo_l7 at hG
    refine r_iload_n (pc := 44) X dX7_lookBackTo_44 rfl rfl ?_
    refine r_aload_n (pc := 45) X dX7_lookBackTo_45 rfl rfl ?_
    refine r_getI (pc := 46) X (at_X7_o Hb0) rfl mU_X7 (k := 1) (by decide) rfl mF_X7_46 dX7_lookBackTo_46 hG (fun z10 hG => ?_)
    refine r_icmp_ge (pc := 49) X dX7_lookBackTo_49 (tgt := 96) (by decide) hG (fun hG => ?_) (fun hG => ?_)
    · skip
      exact r_vret (pc := 96) X dX7_lookBackTo_96 hQ hG
    · skip
      refine r_aload_n (pc := 52) X dX7_lookBackTo_52 rfl rfl ?_
      refine r_getC (pc := 53) X (at_X7_o Hb0) rfl mU_X7 (k := 7) (by decide) (q := (b0 + 5)) rfl mF_X7_24 dX7_lookBackTo_53 ?_
      refine r_iload_n (pc := 56) X dX7_lookBackTo_56 rfl rfl ?_
      refine r_iald (pc := 57) X (at_X7_rightSteps Hb0) dX7_lookBackTo_57 hG (fun z11 hG => ?_)
      refine r_iload_n (pc := 58) X dX7_lookBackTo_58 rfl rfl ?_
      refine r_join hG (fun a12 => ∀ (h14 : Hp), a12 = h14 → Ev E ad shl p l e rm_X7_lookBackTo s m args below meth c 0 0 Q 3 h14 90 [some (.ref (ad b0)), some (.int x1), some (.int y8)] []) (fun a12 hG => ?_) (fun j13 Hj13 hG => ?_)
      · skip
        intro h14 ha; have ha := ha.symm; subst ha
        refine r_iinc (pc := 90) (L' := fun z15 => [some (.ref (ad b0)), some (.int x1), some (.int z15)]) X dX7_lookBackTo_90 (by decide) rfl rfl (by decide) (fun _ => rfl) hG (fun z15 hG => ?_)
        refine r_goto (pc := 93) X dX7_lookBackTo_93 (tgt := 44) (by decide) ?_
        exact r_mask [true, true, true] rfl (Hl7 _ hG z15 h14 rfl)
      refine r_icmp_gt (pc := 59) X dX7_lookBackTo_59 (tgt := 90) (by decide) hG (fun hG => ?_) (fun hG => ?_)
      · skip
        exact r_mask [true, true, true] rfl (Hj13 _ hG h9 rfl)
      · skip
        refine r_aload_n (pc := 62) X dX7_lookBackTo_62 rfl rfl ?_
        refine r_getC (pc := 63) X (at_X7_o Hb0) rfl mU_X7 (k := 8) (by decide) (q := (b0 + 6)) rfl mF_X7_27 dX7_lookBackTo_63 ?_
        refine r_iload_n (pc := 66) X dX7_lookBackTo_66 rfl rfl ?_
        refine r_iald (pc := 67) X (at_X7_rightOf Hb0) dX7_lookBackTo_67 hG (fun z16 hG => ?_)
        refine r_bipush (pc := 68) X dX7_lookBackTo_68 hG (by decide) (fun z17 hG => ?_)
        refine r_icmp_ge (pc := 70) X dX7_lookBackTo_70 (tgt := 90) (by decide) hG (fun hG => ?_) (fun hG => ?_)
        · skip
          exact r_mask [true, true, true] rfl (Hj13 _ hG h9 rfl)
        · skip
          refine r_aload_n (pc := 73) X dX7_lookBackTo_73 rfl rfl ?_
          refine r_getC (pc := 74) X (at_X7_o Hb0) rfl mU_X7 (k := 10) (by decide) (q := (b0 + 8)) rfl mF_X7_33 dX7_lookBackTo_74 ?_
          refine r_aload_n (pc := 77) X dX7_lookBackTo_77 rfl rfl ?_
          refine r_getC (pc := 78) X (at_X7_o Hb0) rfl mU_X7 (k := 8) (by decide) (q := (b0 + 6)) rfl mF_X7_27 dX7_lookBackTo_78 ?_
          refine r_iload_n (pc := 81) X dX7_lookBackTo_81 rfl rfl ?_
          refine r_iald (pc := 82) X (at_X7_rightOf Hb0) dX7_lookBackTo_82 hG (fun z18 hG => ?_)
          refine r_aload_n (pc := 83) X dX7_lookBackTo_83 rfl rfl ?_
          refine r_getC (pc := 84) X (at_X7_o Hb0) rfl mU_X7 (k := 9) (by decide) (q := (b0 + 7)) rfl mF_X7_30 dX7_lookBackTo_84 ?_
          refine r_iload_n (pc := 87) X dX7_lookBackTo_87 rfl rfl ?_
          refine r_iald (pc := 88) X (at_X7_rightStoods Hb0) dX7_lookBackTo_88 hG (fun z19 hG => ?_)
          refine r_iast (pc := 89) X (at_X7_known Hb0) dX7_lookBackTo_89 hG (fun h20 hG => ?_)
          exact r_mask [true, true, true] rfl (Hj13 _ hG h20 rfl)
  refine r_mask [true, true, true] rfl (r_loop (fun q21 => ∀ (y23 : Int32) (h24 : Hp), q21 = (y23.toInt, h24) → Ev E ad shl p l e rm_X7_lookBackTo s m args below meth c 0 0 Q 3 h24 2 [some (.ref (ad b0)), some (.int x1), some (.int y23)] []) (fun l22 Hl22 q21 hG => ?_) FU _ hG z1 h rfl)
  intro y23 h24 ha; have ha := ha.symm; subst ha
  unfold g_X7_lookBackTo_l22 at hG
  refine r_iload_n (pc := 2) X dX7_lookBackTo_2 rfl rfl ?_
  refine r_aload_n (pc := 3) X dX7_lookBackTo_3 rfl rfl ?_
  refine r_getI (pc := 4) X (at_X7_o Hb0) rfl mU_X7 (k := 0) (by decide) rfl mF_X7_43 dX7_lookBackTo_4 hG (fun z25 hG => ?_)
  refine r_icmp_ge (pc := 7) X dX7_lookBackTo_7 (tgt := 42) (by decide) hG (fun hG => ?_) (fun hG => ?_)
  · skip
    exact r_mask [true, true, false] rfl (Hj3 _ hG h24 rfl)
  · skip
    refine r_aload_n (pc := 10) X dX7_lookBackTo_10 rfl rfl ?_
    refine r_getC (pc := 11) X (at_X7_o Hb0) rfl mU_X7 (k := 10) (by decide) (q := (b0 + 8)) rfl mF_X7_33 dX7_lookBackTo_11 ?_
    refine r_iload_n (pc := 14) X dX7_lookBackTo_14 rfl rfl ?_
    refine r_aload_n (pc := 15) X dX7_lookBackTo_15 rfl rfl ?_
    refine r_getC (pc := 16) X (at_X7_o Hb0) rfl mU_X7 (k := 3) (by decide) (q := (b0 + 1)) rfl mF_X7_11 dX7_lookBackTo_16 ?_
    refine r_iload_n (pc := 19) X dX7_lookBackTo_19 rfl rfl ?_
    refine r_iald (pc := 20) X (at_X7_steps Hb0) dX7_lookBackTo_20 hG (fun z26 hG => ?_)
    refine r_iload_n (pc := 21) X dX7_lookBackTo_21 rfl rfl ?_
    refine r_join hG (fun a27 => ∀ (y29 : Int32), a27 = y29.toInt → Ev E ad shl p l e rm_X7_lookBackTo s m args below meth c 0 0 Q 3 h24 35 [some (.ref (ad b0)), some (.int x1), some (.int y23)] [.int y29, .int y23, .ref (ad (b0 + 8))]) (fun a27 hG => ?_) (fun j28 Hj28 hG => ?_)
    · skip
      intro y29 ha; have ha := ha.symm; subst ha
      refine r_iast (pc := 35) X (at_X7_known Hb0) dX7_lookBackTo_35 hG (fun h30 hG => ?_)
      refine r_iinc (pc := 36) (L' := fun z31 => [some (.ref (ad b0)), some (.int x1), some (.int z31)]) X dX7_lookBackTo_36 (by decide) rfl rfl (by decide) (fun _ => rfl) hG (fun z31 hG => ?_)
      refine r_goto (pc := 39) X dX7_lookBackTo_39 (tgt := 2) (by decide) ?_
      exact r_mask [true, true, true] rfl (Hl22 _ hG z31 h30 rfl)
    refine r_icmp_gt (pc := 22) X dX7_lookBackTo_22 (tgt := 34) (by decide) hG (fun hG => ?_) (fun hG => ?_)
    · skip
      refine r_iconst (pc := 34) X dX7_lookBackTo_34 hG rfl (fun z32 hG => ?_)
      exact r_mask [true, true, true] rfl (Hj28 _ hG z32 rfl)
    · skip
      refine r_aload_n (pc := 25) X dX7_lookBackTo_25 rfl rfl ?_
      refine r_getC (pc := 26) X (at_X7_o Hb0) rfl mU_X7 (k := 6) (by decide) (q := (b0 + 4)) rfl mF_X7_21 dX7_lookBackTo_26 ?_
      refine r_iload_n (pc := 29) X dX7_lookBackTo_29 rfl rfl ?_
      refine r_iald (pc := 30) X (at_X7_stoods Hb0) dX7_lookBackTo_30 hG (fun z33 hG => ?_)
      refine r_goto (pc := 31) X dX7_lookBackTo_31 (tgt := 35) (by decide) ?_
      exact r_mask [true, true, true] rfl (Hj28 _ hG z33 rfl)
theorem c_X7_lookBackTo {b0 : Nat} {x1 : Int32} {r : Hp} (Hb0 : At_X7 shl b0) (hg : g_X7_lookBackTo b0 x1.toInt h = some r) : Met l yX7_lookBackTo (wsM yX7_lookBackTo cX7_lookBackTo 3 none) rm_X7_lookBackTo (va_Pc [.ref (ad b0), .int x1] (World E ad shl h)) (QcV E ad shl r) 0 0 (bsA E) :=
  met_of (L0 := [some (.ref (ad b0)), some (.int x1), none]) rfl rfl rfl (Nat.le_of_ble_eq_true rfl) (fun _ _ _ _ _ _ _ X => w_X7_lookBackTo Hb0 X rfl hg)
abbrev rm_X7_fits : Room := { frames := 2, cells := 0, slots := 0, locals := 44 }
theorem hdd_X7_fits : yX7_fits.cls = RX7 ∧ yX7_fits.cls ≠ "java/lang/invoke/MethodHandle" ∧ yX7_fits.cls ≠ "java/lang/invoke/VarHandle" ∧ (parseMethodDescriptor yX7_fits.desc).map (fun d => d.parameters.length) = some 3 := ⟨rfl, by decide +kernel, by decide +kernel, by decide +kernel⟩
set_option maxRecDepth 100000 in
set_option maxHeartbeats 4000000 in
theorem w_X7_fits {b0 : Nat} {x1 : Int32} {x2 : Int32} {x3 : Int32} {r : Int} (Hb0 : At_X7 shl b0) (X : Cx E p s m args meth c cX7_fits RX7 6 (some .boolean)) (hQ : Q = MQ below (QcI E ad shl r h) args s 0 0 (bsA E)) (hG : g_X7_fits b0 x1.toInt x2.toInt x3.toInt h = some r) : Ev E ad shl p l e rm_X7_fits s m args below meth c 0 0 Q 6 h 0 [some (.ref (ad b0)), some (.int x1), some (.int x2), some (.int x3), none, none] [] := by
  unfold g_X7_fits at hG
  refine r_iconst (pc := 0) X dX7_fits_0 hG rfl (fun z1 hG => ?_)
  refine r_istore (pc := 1) (L' := [some (.ref (ad b0)), some (.int x1), some (.int x2), some (.int x3), some (.int z1), none]) X dX7_fits_1 (by decide) rfl rfl ?_
  refine r_mask [true, true, true, true, true, false] rfl (r_loop (fun q2 => ∀ (y4 : Int32), q2 = y4.toInt → Ev E ad shl p l e rm_X7_fits s m args below meth c 0 0 Q 6 h 3 [some (.ref (ad b0)), some (.int x1), some (.int x2), some (.int x3), some (.int y4), none] []) (fun l3 Hl3 q2 hG => ?_) FU _ hG z1 rfl)
  intro y4 ha; have ha := ha.symm; subst ha
  unfold g_X7_fits_l3 at hG
  refine r_iload (pc := 3) X dX7_fits_3 rfl ?_
  refine r_aload_n (pc := 5) X dX7_fits_5 rfl rfl ?_
  refine r_getI (pc := 6) X (at_X7_o Hb0) rfl mU_X7 (k := 0) (by decide) rfl mF_X7_43 dX7_fits_6 hG (fun z5 hG => ?_)
  refine r_icmp_ge (pc := 9) X dX7_fits_9 (tgt := 75) (by decide) hG (fun hG => ?_) (fun hG => ?_)
  · skip
    refine r_iconst (pc := 75) X dX7_fits_75 hG rfl (fun z6 hG => ?_)
    exact r_zretP (pc := 76) X dX7_fits_76 hQ hG
  · skip
    refine r_aload_n (pc := 12) X dX7_fits_12 rfl rfl ?_
    refine r_getC (pc := 13) X (at_X7_o Hb0) rfl mU_X7 (k := 5) (by decide) (q := (b0 + 3)) rfl mF_X7_18 dX7_fits_13 ?_
    refine r_iload (pc := 16) X dX7_fits_16 rfl ?_
    refine r_iald (pc := 18) X (at_X7_steeps Hb0) dX7_fits_18 hG (fun z7 hG => ?_)
    refine r_iconst (pc := 19) X dX7_fits_19 hG rfl (fun z8 hG => ?_)
    refine r_aload_n (pc := 20) X dX7_fits_20 rfl rfl ?_
    refine r_getC (pc := 21) X (at_X7_o Hb0) rfl mU_X7 (k := 4) (by decide) (q := (b0 + 2)) rfl mF_X7_15 dX7_fits_21 ?_
    refine r_iload (pc := 24) X dX7_fits_24 rfl ?_
    refine r_iald (pc := 26) X (at_X7_wets Hb0) dX7_fits_26 hG (fun z9 hG => ?_)
    refine r_iload_n (pc := 27) X dX7_fits_27 rfl rfl ?_
    refine r_iload_n (pc := 28) X dX7_fits_28 rfl rfl ?_
    refine r_iload_n (pc := 29) X dX7_fits_29 rfl rfl ?_
    refine r_cP (pc := 30) hG (fun _ hg => runSN X dX7_fits_30 (c_X8_strengthOf  hg) nest_X7_49 mS_X8_strengthOf mN_X8 mK_X8_strengthOf rfl rfl hdd_X8_strengthOf ⟨(Nat.le_of_ble_eq_true rfl), (Nat.le_of_ble_eq_true rfl)⟩ rfl rfl (Nat.le_of_ble_eq_true rfl) ⟨(Nat.le_of_ble_eq_true rfl), (Nat.le_of_ble_eq_true rfl)⟩) (fun z10 hG => ?_)
    refine r_iadd (pc := 33) X dX7_fits_33 hG (fun z11 hG => ?_)
    refine r_join hG (fun a12 => ∀ (y14 : Int32), a12 = y14.toInt → Ev E ad shl p l e rm_X7_fits s m args below meth c 0 0 Q 6 h 42 [some (.ref (ad b0)), some (.int x1), some (.int x2), some (.int x3), some (.int y4), none] [.int y14]) (fun a12 hG => ?_) (fun j13 Hj13 hG => ?_)
    · skip
      intro y14 ha; have ha := ha.symm; subst ha
      refine r_istore (pc := 42) (L' := [some (.ref (ad b0)), some (.int x1), some (.int x2), some (.int x3), some (.int y4), some (.int y14)]) X dX7_fits_42 (by decide) rfl rfl ?_
      refine r_aload_n (pc := 44) X dX7_fits_44 rfl rfl ?_
      refine r_getC (pc := 45) X (at_X7_o Hb0) rfl mU_X7 (k := 10) (by decide) (q := (b0 + 8)) rfl mF_X7_33 dX7_fits_45 ?_
      refine r_iload (pc := 48) X dX7_fits_48 rfl ?_
      refine r_iald (pc := 50) X (at_X7_known Hb0) dX7_fits_50 hG (fun z15 hG => ?_)
      refine r_iconst (pc := 51) X dX7_fits_51 hG rfl (fun z16 hG => ?_)
      refine r_join hG (fun _ => Ev E ad shl p l e rm_X7_fits s m args below meth c 0 0 Q 6 h 69 [some (.ref (ad b0)), some (.int x1), some (.int x2), some (.int x3), some (.int y4), none] []) (fun a17 hG => ?_) (fun j18 Hj18 hG => ?_)
      · skip
        refine r_iinc (pc := 69) (L' := fun z19 => [some (.ref (ad b0)), some (.int x1), some (.int x2), some (.int x3), some (.int z19), none]) X dX7_fits_69 (by decide) rfl rfl (by decide) (fun _ => rfl) hG (fun z19 hG => ?_)
        refine r_goto (pc := 72) X dX7_fits_72 (tgt := 3) (by decide) ?_
        exact r_mask [true, true, true, true, true, false] rfl (Hl3 _ hG z19 rfl)
      refine r_icmp_eq (pc := 52) X dX7_fits_52 (tgt := 69) (by decide) hG (fun hG => ?_) (fun hG => ?_)
      · skip
        exact r_mask [true, true, true, true, true, false] rfl (Hj18 _ hG)
      · skip
        refine r_aload_n (pc := 55) X dX7_fits_55 rfl rfl ?_
        refine r_getC (pc := 56) X (at_X7_o Hb0) rfl mU_X7 (k := 10) (by decide) (q := (b0 + 8)) rfl mF_X7_33 dX7_fits_56 ?_
        refine r_iload (pc := 59) X dX7_fits_59 rfl ?_
        refine r_iald (pc := 61) X (at_X7_known Hb0) dX7_fits_61 hG (fun z20 hG => ?_)
        refine r_iload (pc := 62) X dX7_fits_62 rfl ?_
        refine r_icmp_eq (pc := 64) X dX7_fits_64 (tgt := 69) (by decide) hG (fun hG => ?_) (fun hG => ?_)
        · skip
          exact r_mask [true, true, true, true, true, false] rfl (Hj18 _ hG)
        · skip
          refine r_iconst (pc := 67) X dX7_fits_67 hG rfl (fun z21 hG => ?_)
          exact r_zretP (pc := 68) X dX7_fits_68 hQ hG
    refine r_icmp_gt (pc := 34) X dX7_fits_34 (tgt := 41) (by decide) hG (fun hG => ?_) (fun hG => ?_)
    · skip
      refine r_iconst (pc := 41) X dX7_fits_41 hG rfl (fun z22 hG => ?_)
      exact r_mask [true, true, true, true, true, false] rfl (Hj13 _ hG z22 rfl)
    · skip
      refine r_iconst (pc := 37) X dX7_fits_37 hG rfl (fun z23 hG => ?_)
      refine r_goto (pc := 38) X dX7_fits_38 (tgt := 42) (by decide) ?_
      exact r_mask [true, true, true, true, true, false] rfl (Hj13 _ hG z23 rfl)
theorem c_X7_fits {b0 : Nat} {x1 : Int32} {x2 : Int32} {x3 : Int32} {r : Int} (Hb0 : At_X7 shl b0) (hg : g_X7_fits b0 x1.toInt x2.toInt x3.toInt h = some r) : Met l yX7_fits (wsM yX7_fits cX7_fits 6 (some .boolean)) rm_X7_fits (va_Pc [.ref (ad b0), .int x1, .int x2, .int x3] (World E ad shl h)) (QcI E ad shl r h) 0 0 (bsA E) :=
  met_of (L0 := [some (.ref (ad b0)), some (.int x1), some (.int x2), some (.int x3), none, none]) rfl rfl rfl (Nat.le_of_ble_eq_true rfl) (fun _ _ _ _ _ _ _ X => w_X7_fits Hb0 X rfl hg)
abbrev rm_X7_howManyFit : Room := { frames := 3, cells := 0, slots := 0, locals := 69 }
theorem hdd_X7_howManyFit : yX7_howManyFit.cls = RX7 ∧ yX7_howManyFit.cls ≠ "java/lang/invoke/MethodHandle" ∧ yX7_howManyFit.cls ≠ "java/lang/invoke/VarHandle" ∧ (parseMethodDescriptor yX7_howManyFit.desc).map (fun d => d.parameters.length) = some 2 := ⟨rfl, by decide +kernel, by decide +kernel, by decide +kernel⟩
set_option maxRecDepth 100000 in
set_option maxHeartbeats 4000000 in
theorem w_X7_howManyFit {b0 : Nat} {x1 : Int32} {x2 : Int32} {r : Int} (Hb0 : At_X7 shl b0) (X : Cx E p s m args meth c cX7_howManyFit RX7 5 (some .int)) (hQ : Q = MQ below (QcI E ad shl r h) args s 0 0 (bsA E)) (hG : g_X7_howManyFit b0 x1.toInt x2.toInt h = some r) : Ev E ad shl p l e rm_X7_howManyFit s m args below meth c 0 0 Q 5 h 0 [some (.ref (ad b0)), some (.int x1), some (.int x2), none, none] [] := by
  unfold g_X7_howManyFit at hG
  refine r_iconst (pc := 0) X dX7_howManyFit_0 hG rfl (fun z1 hG => ?_)
  refine r_istore_n (pc := 1) (L' := [some (.ref (ad b0)), some (.int x1), some (.int x2), some (.int z1), none]) X dX7_howManyFit_1 rfl (by decide) rfl rfl ?_
  refine r_iconst (pc := 2) X dX7_howManyFit_2 hG rfl (fun z2 hG => ?_)
  refine r_istore (pc := 3) (L' := [some (.ref (ad b0)), some (.int x1), some (.int x2), some (.int z1), some (.int z2)]) X dX7_howManyFit_3 (by decide) rfl rfl ?_
  refine r_mask [true, true, true, true, true] rfl (r_loop (fun q3 => ∀ (y5 : Int32) (y6 : Int32), q3 = (y5.toInt, y6.toInt) → Ev E ad shl p l e rm_X7_howManyFit s m args below meth c 0 0 Q 5 h 5 [some (.ref (ad b0)), some (.int x1), some (.int x2), some (.int y5), some (.int y6)] []) (fun l4 Hl4 q3 hG => ?_) FU _ hG z1 z2 rfl)
  intro y5 y6 ha; have ha := ha.symm; subst ha
  unfold g_X7_howManyFit_l4 at hG
  refine r_iload (pc := 5) X dX7_howManyFit_5 rfl ?_
  refine r_iconst (pc := 7) X dX7_howManyFit_7 hG rfl (fun z7 hG => ?_)
  refine r_icmp_gt (pc := 8) X dX7_howManyFit_8 (tgt := 36) (by decide) hG (fun hG => ?_) (fun hG => ?_)
  · skip
    refine r_iload_n (pc := 36) X dX7_howManyFit_36 rfl rfl ?_
    exact r_iretP (pc := 37) X dX7_howManyFit_37 hQ hG
  · skip
    refine r_iload_n (pc := 11) X dX7_howManyFit_11 rfl rfl ?_
    refine r_aload_n (pc := 12) X dX7_howManyFit_12 rfl rfl ?_
    refine r_iload_n (pc := 13) X dX7_howManyFit_13 rfl rfl ?_
    refine r_iload_n (pc := 14) X dX7_howManyFit_14 rfl rfl ?_
    refine r_iload (pc := 15) X dX7_howManyFit_15 rfl ?_
    refine r_cP (pc := 17) hG (fun _ hg => runV X dX7_howManyFit_17 (c_X7_fits Hb0 hg) mM_X7_69 mI_X7_fits mE_X7_fits mN_X7 mK_X7_fits (at_X7_o Hb0) rfl rfl rfl rfl hdd_X7_fits ⟨(Nat.le_of_ble_eq_true rfl), (Nat.le_of_ble_eq_true rfl)⟩ rfl rfl (Nat.le_of_ble_eq_true rfl) ⟨(Nat.le_of_ble_eq_true rfl), (Nat.le_of_ble_eq_true rfl)⟩) (fun z8 hG => ?_)
    refine r_join hG (fun a9 => ∀ (y11 : Int32), a9 = y11.toInt → Ev E ad shl p l e rm_X7_howManyFit s m args below meth c 0 0 Q 5 h 28 [some (.ref (ad b0)), some (.int x1), some (.int x2), none, some (.int y6)] [.int y11, .int y5]) (fun a9 hG => ?_) (fun j10 Hj10 hG => ?_)
    · skip
      intro y11 ha; have ha := ha.symm; subst ha
      refine r_iadd (pc := 28) X dX7_howManyFit_28 hG (fun z12 hG => ?_)
      refine r_istore_n (pc := 29) (L' := [some (.ref (ad b0)), some (.int x1), some (.int x2), some (.int z12), some (.int y6)]) X dX7_howManyFit_29 rfl (by decide) rfl rfl ?_
      refine r_iinc (pc := 30) (L' := fun z13 => [some (.ref (ad b0)), some (.int x1), some (.int x2), some (.int z12), some (.int z13)]) X dX7_howManyFit_30 (by decide) rfl rfl (by decide) (fun _ => rfl) hG (fun z13 hG => ?_)
      refine r_goto (pc := 33) X dX7_howManyFit_33 (tgt := 5) (by decide) ?_
      exact r_mask [true, true, true, true, true] rfl (Hl4 _ hG z12 z13 rfl)
    refine r_if_eq (pc := 20) X dX7_howManyFit_20 (tgt := 27) (by decide) hG (fun hG => ?_) (fun hG => ?_)
    · skip
      refine r_iconst (pc := 27) X dX7_howManyFit_27 hG rfl (fun z14 hG => ?_)
      exact r_mask [true, true, true, false, true] rfl (Hj10 _ hG z14 rfl)
    · skip
      refine r_iconst (pc := 23) X dX7_howManyFit_23 hG rfl (fun z15 hG => ?_)
      refine r_goto (pc := 24) X dX7_howManyFit_24 (tgt := 28) (by decide) ?_
      exact r_mask [true, true, true, false, true] rfl (Hj10 _ hG z15 rfl)
theorem c_X7_howManyFit {b0 : Nat} {x1 : Int32} {x2 : Int32} {r : Int} (Hb0 : At_X7 shl b0) (hg : g_X7_howManyFit b0 x1.toInt x2.toInt h = some r) : Met l yX7_howManyFit (wsM yX7_howManyFit cX7_howManyFit 5 (some .int)) rm_X7_howManyFit (va_Pc [.ref (ad b0), .int x1, .int x2] (World E ad shl h)) (QcI E ad shl r h) 0 0 (bsA E) :=
  met_of (L0 := [some (.ref (ad b0)), some (.int x1), some (.int x2), none, none]) rfl rfl rfl (Nat.le_of_ble_eq_true rfl) (fun _ _ _ _ _ _ _ X => w_X7_howManyFit Hb0 X rfl hg)
abbrev rm_X7_ofHumps : Room := { frames := 4, cells := 0, slots := 0, locals := 93 }
theorem hdd_X7_ofHumps : yX7_ofHumps.cls = RX7 ∧ yX7_ofHumps.cls ≠ "java/lang/invoke/MethodHandle" ∧ yX7_ofHumps.cls ≠ "java/lang/invoke/VarHandle" ∧ (parseMethodDescriptor yX7_ofHumps.desc).map (fun d => d.parameters.length) = some 2 := ⟨rfl, by decide +kernel, by decide +kernel, by decide +kernel⟩
set_option maxRecDepth 100000 in
set_option maxHeartbeats 4000000 in
theorem w_X7_ofHumps {b0 : Nat} {x1 : Int32} {x2 : Int32} {r : Int × Hp} (Hb0 : At_X7 shl b0) (X : Cx E p s m args meth c cX7_ofHumps RX7 11 (some .int)) (hQ : Q = MQ below (QcI E ad shl r.1 r.2) args s 0 0 (bsA E)) (hG : g_X7_ofHumps b0 x1.toInt x2.toInt h = some r) : Ev E ad shl p l e rm_X7_ofHumps s m args below meth c 0 0 Q 11 h 0 [some (.ref (ad b0)), some (.int x1), some (.int x2), none, none, none, none, none, none, none, none] [] := by
  unfold g_X7_ofHumps at hG
  refine r_aload_n (pc := 0) X dX7_ofHumps_0 rfl rfl ?_
  refine r_iload_n (pc := 1) X dX7_ofHumps_1 rfl rfl ?_
  refine r_cV (pc := 2) hG (fun _ hg => runV X dX7_ofHumps_2 (c_X7_lookBackTo Hb0 hg) mM_X7_53 mI_X7_lookBackTo mE_X7_lookBackTo mN_X7 mK_X7_lookBackTo (at_X7_o Hb0) rfl rfl rfl rfl hdd_X7_lookBackTo ⟨(Nat.le_of_ble_eq_true rfl), (Nat.le_of_ble_eq_true rfl)⟩ rfl rfl (Nat.le_of_ble_eq_true rfl) ⟨(Nat.le_of_ble_eq_true rfl), (Nat.le_of_ble_eq_true rfl)⟩) (fun h1 hG => ?_)
  refine r_iconst (pc := 5) X dX7_ofHumps_5 hG rfl (fun z2 hG => ?_)
  refine r_istore_n (pc := 6) (L' := [some (.ref (ad b0)), some (.int x1), some (.int x2), some (.int z2), none, none, none, none, none, none, none]) X dX7_ofHumps_6 rfl (by decide) rfl rfl ?_
  refine r_iconst (pc := 7) X dX7_ofHumps_7 hG rfl (fun z3 hG => ?_)
  refine r_istore (pc := 8) (L' := [some (.ref (ad b0)), some (.int x1), some (.int x2), some (.int z2), some (.int z3), none, none, none, none, none, none]) X dX7_ofHumps_8 (by decide) rfl rfl ?_
  refine r_iconst (pc := 10) X dX7_ofHumps_10 hG rfl (fun z4 hG => ?_)
  refine r_istore (pc := 11) (L' := [some (.ref (ad b0)), some (.int x1), some (.int x2), some (.int z2), some (.int z3), some (.int z4), none, none, none, none, none]) X dX7_ofHumps_11 (by decide) rfl rfl ?_
  refine r_iconst (pc := 13) X dX7_ofHumps_13 hG rfl (fun z5 hG => ?_)
  refine r_istore (pc := 14) (L' := [some (.ref (ad b0)), some (.int x1), some (.int x2), some (.int z2), some (.int z3), some (.int z4), some (.int z5), none, none, none, none]) X dX7_ofHumps_14 (by decide) rfl rfl ?_
  refine r_iconst (pc := 16) X dX7_ofHumps_16 hG rfl (fun z6 hG => ?_)
  refine r_istore (pc := 17) (L' := [some (.ref (ad b0)), some (.int x1), some (.int x2), some (.int z2), some (.int z3), some (.int z4), some (.int z5), some (.int z6), none, none, none]) X dX7_ofHumps_17 (by decide) rfl rfl ?_
  refine r_iconst (pc := 19) X dX7_ofHumps_19 hG rfl (fun z7 hG => ?_)
  refine r_istore (pc := 20) (L' := [some (.ref (ad b0)), some (.int x1), some (.int x2), some (.int z2), some (.int z3), some (.int z4), some (.int z5), some (.int z6), some (.int z7), none, none]) X dX7_ofHumps_20 (by decide) rfl rfl ?_
  refine r_join hG (fun a8 => ∀ (y10 : Int32) (y11 : Int32) (y12 : Int32) (y13 : Int32) (y14 : Int32), a8 = (y10.toInt, y11.toInt, y12.toInt, y13.toInt, y14.toInt) → Ev E ad shl p l e rm_X7_ofHumps s m args below meth c 0 0 Q 11 h1 119 [none, none, some (.int x2), some (.int y10), some (.int y11), some (.int y12), some (.int y13), some (.int y14), none, none, none] []) (fun a8 hG => ?_) (fun j9 Hj9 hG => ?_)
  · skip
    intro y10 y11 y12 y13 y14 ha; have ha := ha.symm; subst ha
    refine r_iload_n (pc := 119) X dX7_ofHumps_119 rfl rfl ?_
    refine r_join hG (fun a15 => ∀ (y17 : Int32), a15 = y17.toInt → Ev E ad shl p l e rm_X7_ofHumps s m args below meth c 0 0 Q 11 h1 173 [none, none, none, none, none, none, none, none, none, none, none] [.int y17]) (fun a15 hG => ?_) (fun j16 Hj16 hG => ?_)
    · skip
      intro y17 ha; have ha := ha.symm; subst ha
      exact r_iretW (pc := 173) X dX7_ofHumps_173 hQ hG
    refine r_ite hG (fun e18 hG => ?_) (fun e18 hG => ?_)
    · refine r_tsIn (pc := 120) X dX7_ofHumps_120 e18 (by decide) (by decide) rfl (tgt := 152) (by decide) ?_
      refine r_iload_n (pc := 152) X dX7_ofHumps_152 rfl rfl ?_
      refine r_goto (pc := 153) X dX7_ofHumps_153 (tgt := 173) (by decide) ?_
      exact r_mask [false, false, false, false, false, false, false, false, false, false, false] rfl (Hj16 _ hG y10 rfl)
    refine r_ite hG (fun e19 hG => ?_) (fun e19 hG => ?_)
    · refine r_tsIn (pc := 120) X dX7_ofHumps_120 e19 (by decide) (by decide) rfl (tgt := 156) (by decide) ?_
      refine r_iload (pc := 156) X dX7_ofHumps_156 rfl ?_
      refine r_goto (pc := 158) X dX7_ofHumps_158 (tgt := 173) (by decide) ?_
      exact r_mask [false, false, false, false, false, false, false, false, false, false, false] rfl (Hj16 _ hG y11 rfl)
    refine r_ite hG (fun e20 hG => ?_) (fun e20 hG => ?_)
    · refine r_tsIn (pc := 120) X dX7_ofHumps_120 e20 (by decide) (by decide) rfl (tgt := 161) (by decide) ?_
      refine r_iload (pc := 161) X dX7_ofHumps_161 rfl ?_
      refine r_goto (pc := 163) X dX7_ofHumps_163 (tgt := 173) (by decide) ?_
      exact r_mask [false, false, false, false, false, false, false, false, false, false, false] rfl (Hj16 _ hG y12 rfl)
    refine r_ite hG (fun e21 hG => ?_) (fun e21 hG => ?_)
    · refine r_tsIn (pc := 120) X dX7_ofHumps_120 e21 (by decide) (by decide) rfl (tgt := 166) (by decide) ?_
      refine r_iload (pc := 166) X dX7_ofHumps_166 rfl ?_
      refine r_goto (pc := 168) X dX7_ofHumps_168 (tgt := 173) (by decide) ?_
      exact r_mask [false, false, false, false, false, false, false, false, false, false, false] rfl (Hj16 _ hG y13 rfl)
    refine r_tsOut (pc := 120) X dX7_ofHumps_120 (by omega) (tgt := 171) (by decide) ?_
    refine r_iload (pc := 171) X dX7_ofHumps_171 rfl ?_
    exact r_mask [false, false, false, false, false, false, false, false, false, false, false] rfl (Hj16 _ hG y14 rfl)
  refine r_mask [true, false, true, true, true, true, true, true, true, false, false] rfl (r_loop (fun q22 => ∀ (y24 : Int32) (y25 : Int32) (y26 : Int32) (y27 : Int32) (y28 : Int32) (y29 : Int32), q22 = (y24.toInt, y25.toInt, y26.toInt, y27.toInt, y28.toInt, y29.toInt) → Ev E ad shl p l e rm_X7_ofHumps s m args below meth c 0 0 Q 11 h1 22 [some (.ref (ad b0)), none, some (.int x2), some (.int y24), some (.int y25), some (.int y26), some (.int y27), some (.int y28), some (.int y29), none, none] []) (fun l23 Hl23 q22 hG => ?_) FU _ hG z2 z3 z4 z5 z6 z7 rfl)
  intro y24 y25 y26 y27 y28 y29 ha; have ha := ha.symm; subst ha
  unfold g_X7_ofHumps_l23 at hG
  refine r_iload (pc := 22) X dX7_ofHumps_22 rfl ?_
  refine r_bipush (pc := 24) X dX7_ofHumps_24 hG (by decide) (fun z30 hG => ?_)
  refine r_icmp_gt (pc := 26) X dX7_ofHumps_26 (tgt := 119) (by decide) hG (fun hG => ?_) (fun hG => ?_)
  · skip
    exact r_mask [false, false, true, true, true, true, true, true, false, false, false] rfl (Hj9 _ hG y24 y25 y26 y27 y28 rfl)
  · skip
    refine r_iconst (pc := 29) X dX7_ofHumps_29 hG rfl (fun z31 hG => ?_)
    refine r_istore (pc := 30) (L' := [some (.ref (ad b0)), none, some (.int x2), some (.int y24), some (.int y25), some (.int y26), some (.int y27), some (.int y28), some (.int y29), some (.int z31), none]) X dX7_ofHumps_30 (by decide) rfl rfl ?_
    refine r_join hG (fun a32 => ∀ (y34 : Int32) (y35 : Int32) (y36 : Int32) (y37 : Int32) (y38 : Int32), a32 = (y34.toInt, y35.toInt, y36.toInt, y37.toInt, y38.toInt) → Ev E ad shl p l e rm_X7_ofHumps s m args below meth c 0 0 Q 11 h1 113 [some (.ref (ad b0)), none, some (.int x2), some (.int y34), some (.int y35), some (.int y36), some (.int y37), some (.int y38), some (.int y29), none, none] []) (fun a32 hG => ?_) (fun j33 Hj33 hG => ?_)
    · skip
      intro y34 y35 y36 y37 y38 ha; have ha := ha.symm; subst ha
      refine r_iinc (pc := 113) (L' := fun z39 => [some (.ref (ad b0)), none, some (.int x2), some (.int y34), some (.int y35), some (.int y36), some (.int y37), some (.int y38), some (.int z39), none, none]) X dX7_ofHumps_113 (by decide) rfl rfl (by decide) (fun _ => rfl) hG (fun z39 hG => ?_)
      refine r_goto (pc := 116) X dX7_ofHumps_116 (tgt := 22) (by decide) ?_
      exact r_mask [true, false, true, true, true, true, true, true, true, false, false] rfl (Hl23 _ hG y34 y35 y36 y37 y38 z39 rfl)
    refine r_mask [true, false, true, true, true, true, true, true, true, true, false] rfl (r_loop (fun q40 => ∀ (y42 : Int32) (y43 : Int32) (y44 : Int32) (y45 : Int32) (y46 : Int32) (y47 : Int32), q40 = (y42.toInt, y43.toInt, y44.toInt, y45.toInt, y46.toInt, y47.toInt) → Ev E ad shl p l e rm_X7_ofHumps s m args below meth c 0 0 Q 11 h1 32 [some (.ref (ad b0)), none, some (.int x2), some (.int y42), some (.int y43), some (.int y44), some (.int y45), some (.int y46), some (.int y29), some (.int y47), none] []) (fun l41 Hl41 q40 hG => ?_) FU _ hG y24 y25 y26 y27 y28 z31 rfl)
    intro y42 y43 y44 y45 y46 y47 ha; have ha := ha.symm; subst ha
    unfold g_X7_ofHumps_l41 at hG
    refine r_iload (pc := 32) X dX7_ofHumps_32 rfl ?_
    refine r_bipush (pc := 34) X dX7_ofHumps_34 hG (by decide) (fun z48 hG => ?_)
    refine r_icmp_gt (pc := 36) X dX7_ofHumps_36 (tgt := 113) (by decide) hG (fun hG => ?_) (fun hG => ?_)
    · skip
      exact r_mask [true, false, true, true, true, true, true, true, true, false, false] rfl (Hj33 _ hG y42 y43 y44 y45 y46 rfl)
    · skip
      refine r_aload_n (pc := 39) X dX7_ofHumps_39 rfl rfl ?_
      refine r_iload (pc := 40) X dX7_ofHumps_40 rfl ?_
      refine r_iload (pc := 42) X dX7_ofHumps_42 rfl ?_
      refine r_cP (pc := 44) hG (fun _ hg => runV X dX7_ofHumps_44 (c_X7_howManyFit Hb0 hg) mM_X7_57 mI_X7_howManyFit mE_X7_howManyFit mN_X7 mK_X7_howManyFit (at_X7_o Hb0) rfl rfl rfl rfl hdd_X7_howManyFit ⟨(Nat.le_of_ble_eq_true rfl), (Nat.le_of_ble_eq_true rfl)⟩ rfl rfl (Nat.le_of_ble_eq_true rfl) ⟨(Nat.le_of_ble_eq_true rfl), (Nat.le_of_ble_eq_true rfl)⟩) (fun z49 hG => ?_)
      refine r_istore (pc := 47) (L' := [some (.ref (ad b0)), none, some (.int x2), some (.int y42), some (.int y43), some (.int y44), some (.int y45), some (.int y46), some (.int y29), some (.int y47), some (.int z49)]) X dX7_ofHumps_47 (by decide) rfl rfl ?_
      refine r_iload (pc := 49) X dX7_ofHumps_49 rfl ?_
      refine r_join hG (fun a50 => ∀ (y52 : Int32) (y53 : Int32) (y54 : Int32) (y55 : Int32) (y56 : Int32), a50 = (y52.toInt, y53.toInt, y54.toInt, y55.toInt, y56.toInt) → Ev E ad shl p l e rm_X7_ofHumps s m args below meth c 0 0 Q 11 h1 107 [some (.ref (ad b0)), none, some (.int x2), some (.int y52), some (.int y53), some (.int y54), some (.int y55), some (.int y56), some (.int y29), some (.int y47), none] []) (fun a50 hG => ?_) (fun j51 Hj51 hG => ?_)
      · skip
        intro y52 y53 y54 y55 y56 ha; have ha := ha.symm; subst ha
        refine r_iinc (pc := 107) (L' := fun z57 => [some (.ref (ad b0)), none, some (.int x2), some (.int y52), some (.int y53), some (.int y54), some (.int y55), some (.int y56), some (.int y29), some (.int z57), none]) X dX7_ofHumps_107 (by decide) rfl rfl (by decide) (fun _ => rfl) hG (fun z57 hG => ?_)
        refine r_goto (pc := 110) X dX7_ofHumps_110 (tgt := 32) (by decide) ?_
        exact r_mask [true, false, true, true, true, true, true, true, true, true, false] rfl (Hl41 _ hG y52 y53 y54 y55 y56 z57 rfl)
      refine r_if_le (pc := 51) X dX7_ofHumps_51 (tgt := 107) (by decide) hG (fun hG => ?_) (fun hG => ?_)
      · skip
        exact r_mask [true, false, true, true, true, true, true, true, true, true, false] rfl (Hj51 _ hG y42 y43 y44 y45 y46 rfl)
      · skip
        refine r_iload_n (pc := 54) X dX7_ofHumps_54 rfl rfl ?_
        refine r_iload (pc := 55) X dX7_ofHumps_55 rfl ?_
        refine r_iadd (pc := 57) X dX7_ofHumps_57 hG (fun z58 hG => ?_)
        refine r_istore_n (pc := 58) (L' := [some (.ref (ad b0)), none, some (.int x2), some (.int z58), some (.int y43), some (.int y44), some (.int y45), some (.int y46), some (.int y29), some (.int y47), some (.int z49)]) X dX7_ofHumps_58 rfl (by decide) rfl rfl ?_
        refine r_iload (pc := 59) X dX7_ofHumps_59 rfl ?_
        refine r_iconst (pc := 61) X dX7_ofHumps_61 hG rfl (fun z59 hG => ?_)
        refine r_join hG (fun a60 => ∀ (y62 : Int32), a60 = y62.toInt → Ev E ad shl p l e rm_X7_ofHumps s m args below meth c 0 0 Q 11 h1 72 [some (.ref (ad b0)), none, some (.int x2), some (.int z58), none, none, some (.int y45), some (.int y46), some (.int y29), some (.int y47), none] [.int y62]) (fun a60 hG => ?_) (fun j61 Hj61 hG => ?_)
        · skip
          intro y62 ha; have ha := ha.symm; subst ha
          refine r_istore (pc := 72) (L' := [some (.ref (ad b0)), none, some (.int x2), some (.int z58), some (.int y62), none, some (.int y45), some (.int y46), some (.int y29), some (.int y47), none]) X dX7_ofHumps_72 (by decide) rfl rfl ?_
          refine r_iload (pc := 74) X dX7_ofHumps_74 rfl ?_
          refine r_istore (pc := 76) (L' := [some (.ref (ad b0)), none, some (.int x2), some (.int z58), some (.int y62), some (.int y29), some (.int y45), some (.int y46), some (.int y29), some (.int y47), none]) X dX7_ofHumps_76 (by decide) rfl rfl ?_
          refine r_iload (pc := 78) X dX7_ofHumps_78 rfl ?_
          refine r_iconst (pc := 80) X dX7_ofHumps_80 hG rfl (fun z63 hG => ?_)
          refine r_join hG (fun a64 => ∀ (y66 : Int32), a64 = y66.toInt → Ev E ad shl p l e rm_X7_ofHumps s m args below meth c 0 0 Q 11 h1 96 [some (.ref (ad b0)), none, some (.int x2), some (.int z58), some (.int y62), some (.int y29), none, some (.int y46), some (.int y29), some (.int y47), none] [.int y66]) (fun a64 hG => ?_) (fun j65 Hj65 hG => ?_)
          · skip
            intro y66 ha; have ha := ha.symm; subst ha
            refine r_istore (pc := 96) (L' := [some (.ref (ad b0)), none, some (.int x2), some (.int z58), some (.int y62), some (.int y29), some (.int y66), some (.int y46), some (.int y29), some (.int y47), none]) X dX7_ofHumps_96 (by decide) rfl rfl ?_
            refine r_iload (pc := 98) X dX7_ofHumps_98 rfl ?_
            refine r_iload (pc := 100) X dX7_ofHumps_100 rfl ?_
            refine r_mmax (pc := 102) X dX7_ofHumps_102 mM_X7_66 (Nat.le_of_ble_eq_true rfl) (Nat.le_of_ble_eq_true rfl) (Nat.le_of_ble_eq_true rfl) (Nat.le_of_ble_eq_true rfl) hG (fun z67 hG => ?_)
            refine r_istore (pc := 105) (L' := [some (.ref (ad b0)), none, some (.int x2), some (.int z58), some (.int y62), some (.int y29), some (.int y66), some (.int z67), some (.int y29), some (.int y47), none]) X dX7_ofHumps_105 (by decide) rfl rfl ?_
            exact r_mask [true, false, true, true, true, true, true, true, true, true, false] rfl (Hj51 _ hG z58 y62 y29 y66 z67 rfl)
          refine r_icmp_ne (pc := 81) X dX7_ofHumps_81 (tgt := 89) (by decide) hG (fun hG => ?_) (fun hG => ?_)
          · skip
            refine r_iload (pc := 89) X dX7_ofHumps_89 rfl ?_
            refine r_iload (pc := 91) X dX7_ofHumps_91 rfl ?_
            refine r_mmin (pc := 93) X dX7_ofHumps_93 mM_X7_61 (Nat.le_of_ble_eq_true rfl) (Nat.le_of_ble_eq_true rfl) (Nat.le_of_ble_eq_true rfl) (Nat.le_of_ble_eq_true rfl) hG (fun z68 hG => ?_)
            exact r_mask [true, false, true, true, true, true, false, true, true, true, false] rfl (Hj65 _ hG z68 rfl)
          · skip
            refine r_iload (pc := 84) X dX7_ofHumps_84 rfl ?_
            refine r_goto (pc := 86) X dX7_ofHumps_86 (tgt := 96) (by decide) ?_
            exact r_mask [true, false, true, true, true, true, false, true, true, true, false] rfl (Hj65 _ hG y47 rfl)
        refine r_icmp_ne (pc := 62) X dX7_ofHumps_62 (tgt := 70) (by decide) hG (fun hG => ?_) (fun hG => ?_)
        · skip
          refine r_iload (pc := 70) X dX7_ofHumps_70 rfl ?_
          exact r_mask [true, false, true, true, false, false, true, true, true, true, false] rfl (Hj61 _ hG y43 rfl)
        · skip
          refine r_iload (pc := 65) X dX7_ofHumps_65 rfl ?_
          refine r_goto (pc := 67) X dX7_ofHumps_67 (tgt := 72) (by decide) ?_
          exact r_mask [true, false, true, true, false, false, true, true, true, true, false] rfl (Hj61 _ hG y29 rfl)
theorem c_X7_ofHumps {b0 : Nat} {x1 : Int32} {x2 : Int32} {r : Int × Hp} (Hb0 : At_X7 shl b0) (hg : g_X7_ofHumps b0 x1.toInt x2.toInt h = some r) : Met l yX7_ofHumps (wsM yX7_ofHumps cX7_ofHumps 11 (some .int)) rm_X7_ofHumps (va_Pc [.ref (ad b0), .int x1, .int x2] (World E ad shl h)) (QcI E ad shl r.1 r.2) 0 0 (bsA E) :=
  met_of (L0 := [some (.ref (ad b0)), some (.int x1), some (.int x2), none, none, none, none, none, none, none, none]) rfl rfl rfl (Nat.le_of_ble_eq_true rfl) (fun _ _ _ _ _ _ _ X => w_X7_ofHumps Hb0 X rfl hg)
abbrev rm_X8_humps : Room := { frames := 5, cells := 0, slots := 0, locals := 123 }
theorem hdd_X8_humps : yX8_humps.cls = RX8 ∧ yX8_humps.cls ≠ "java/lang/invoke/MethodHandle" ∧ yX8_humps.cls ≠ "java/lang/invoke/VarHandle" ∧ (parseMethodDescriptor yX8_humps.desc).map (fun d => d.parameters.length) = some 2 := ⟨rfl, by decide +kernel, by decide +kernel, by decide +kernel⟩
set_option maxRecDepth 100000 in
set_option maxHeartbeats 4000000 in
theorem w_X8_humps {x1 : Int32} {x2 : Int32} {r : Int × Hp} (Hb0 : At_X8 shl) (X : Cx E p s m args meth c cX8_humps RX8 3 (some .int)) (hQ : Q = MQ below (QcI E ad shl r.1 r.2) args s 0 0 (bsA E)) (hG : g_X8_humps x1.toInt x2.toInt h = some r) : Ev E ad shl p l e rm_X8_humps s m args below meth c 0 0 Q 3 h 0 [some (.ref (ad 0)), some (.int x1), some (.int x2)] [] := by
  unfold g_X8_humps at hG
  refine r_iload_n (pc := 0) X dX8_humps_0 rfl rfl ?_
  refine r_join hG (fun _ => Ev E ad shl p l e rm_X8_humps s m args below meth c 0 0 Q 3 h 20 [none, none, none] []) (fun a1 hG => ?_) (fun j2 Hj2 hG => ?_)
  · skip
    refine r_bipush (pc := 20) X dX8_humps_20 hG (by decide) (fun z3 hG => ?_)
    exact r_iretW (pc := 22) X dX8_humps_22 hQ hG
  refine r_if_lt (pc := 1) X dX8_humps_1 (tgt := 20) (by decide) hG (fun hG => ?_) (fun hG => ?_)
  · skip
    exact r_mask [false, false, false] rfl (Hj2 _ hG)
  · skip
    refine r_iload_n (pc := 4) X dX8_humps_4 rfl rfl ?_
    refine r_sipush (pc := 5) X dX8_humps_5 hG (by decide) (fun z4 hG => ?_)
    refine r_icmp_gt (pc := 8) X dX8_humps_8 (tgt := 20) (by decide) hG (fun hG => ?_) (fun hG => ?_)
    · skip
      exact r_mask [false, false, false] rfl (Hj2 _ hG)
    · skip
      refine r_iload_n (pc := 11) X dX8_humps_11 rfl rfl ?_
      refine r_if_lt (pc := 12) X dX8_humps_12 (tgt := 20) (by decide) hG (fun hG => ?_) (fun hG => ?_)
      · skip
        exact r_mask [false, false, false] rfl (Hj2 _ hG)
      · skip
        refine r_iload_n (pc := 15) X dX8_humps_15 rfl rfl ?_
        refine r_iconst (pc := 16) X dX8_humps_16 hG rfl (fun z5 hG => ?_)
        refine r_icmp_le (pc := 17) X dX8_humps_17 (tgt := 23) (by decide) hG (fun hG => ?_) (fun hG => ?_)
        · skip
          refine r_aload_n (pc := 23) X dX8_humps_23 rfl rfl ?_
          refine r_getC (pc := 24) X (at_X8_o Hb0) rfl mU_X8 (k := 10) (by decide) (q := 36) rfl mF_X8_60 dX8_humps_24 ?_
          refine r_iload_n (pc := 27) X dX8_humps_27 rfl rfl ?_
          refine r_iload_n (pc := 28) X dX8_humps_28 rfl rfl ?_
          refine r_cW (pc := 29) hG (fun _ hg => runV X dX8_humps_29 (c_X7_ofHumps (at_X8_tries Hb0) hg) mM_X8_267 mI_X7_ofHumps mE_X7_ofHumps mN_X7 mK_X7_ofHumps (at_X7_o (at_X8_tries Hb0)) rfl rfl rfl rfl hdd_X7_ofHumps ⟨(Nat.le_of_ble_eq_true rfl), (Nat.le_of_ble_eq_true rfl)⟩ rfl rfl (Nat.le_of_ble_eq_true rfl) ⟨(Nat.le_of_ble_eq_true rfl), (Nat.le_of_ble_eq_true rfl)⟩) (fun z6 h7 hG => ?_)
          exact r_iretW (pc := 32) X dX8_humps_32 hQ hG
        · skip
          exact r_mask [false, false, false] rfl (Hj2 _ hG)
theorem c_X8_humps {x1 : Int32} {x2 : Int32} {r : Int × Hp} (Hb0 : At_X8 shl) (hg : g_X8_humps x1.toInt x2.toInt h = some r) : Met l yX8_humps (wsM yX8_humps cX8_humps 3 (some .int)) rm_X8_humps (va_Pc [.ref (ad 0), .int x1, .int x2] (World E ad shl h)) (QcI E ad shl r.1 r.2) 0 0 (bsA E) :=
  met_of (L0 := [some (.ref (ad 0)), some (.int x1), some (.int x2)]) rfl rfl rfl (Nat.le_of_ble_eq_true rfl) (fun _ _ _ _ _ _ _ X => w_X8_humps Hb0 X rfl hg)
abbrev rm_X7_tallyHump : Room := { frames := 2, cells := 0, slots := 0, locals := 44 }
theorem hdd_X7_tallyHump : yX7_tallyHump.cls = RX7 ∧ yX7_tallyHump.cls ≠ "java/lang/invoke/MethodHandle" ∧ yX7_tallyHump.cls ≠ "java/lang/invoke/VarHandle" ∧ (parseMethodDescriptor yX7_tallyHump.desc).map (fun d => d.parameters.length) = some 3 := ⟨rfl, by decide +kernel, by decide +kernel, by decide +kernel⟩
set_option maxRecDepth 100000 in
set_option maxHeartbeats 4000000 in
theorem w_X7_tallyHump {b0 : Nat} {x1 : Int32} {x2 : Int32} {x3 : Int32} {r : Hp} (Hb0 : At_X7 shl b0) (X : Cx E p s m args meth c cX7_tallyHump RX7 5 none) (hQ : Q = MQ below (QcV E ad shl r) args s 0 0 (bsA E)) (hG : g_X7_tallyHump b0 x1.toInt x2.toInt x3.toInt h = some r) : Ev E ad shl p l e rm_X7_tallyHump s m args below meth c 0 0 Q 5 h 0 [some (.ref (ad b0)), some (.int x1), some (.int x2), some (.int x3), none] [] := by
  unfold g_X7_tallyHump at hG
  refine r_iconst (pc := 0) X dX7_tallyHump_0 hG rfl (fun z1 hG => ?_)
  refine r_istore (pc := 1) (L' := [some (.ref (ad b0)), some (.int x1), some (.int x2), some (.int x3), some (.int z1)]) X dX7_tallyHump_1 (by decide) rfl rfl ?_
  refine r_mask [true, true, true, true, true] rfl (r_loop (fun q2 => ∀ (y4 : Int32) (h5 : Hp), q2 = (y4.toInt, h5) → Ev E ad shl p l e rm_X7_tallyHump s m args below meth c 0 0 Q 5 h5 3 [some (.ref (ad b0)), some (.int x1), some (.int x2), some (.int x3), some (.int y4)] []) (fun l3 Hl3 q2 hG => ?_) FU _ hG z1 h rfl)
  intro y4 h5 ha; have ha := ha.symm; subst ha
  unfold g_X7_tallyHump_l3 at hG
  refine r_iload (pc := 3) X dX7_tallyHump_3 rfl ?_
  refine r_bipush (pc := 5) X dX7_tallyHump_5 hG (by decide) (fun z6 hG => ?_)
  refine r_icmp_ge (pc := 7) X dX7_tallyHump_7 (tgt := 39) (by decide) hG (fun hG => ?_) (fun hG => ?_)
  · skip
    exact r_vret (pc := 39) X dX7_tallyHump_39 hQ hG
  · skip
    refine r_aload_n (pc := 10) X dX7_tallyHump_10 rfl rfl ?_
    refine r_getC (pc := 11) X (at_X7_o Hb0) rfl mU_X7 (k := 11) (by decide) (q := (b0 + 9)) rfl mF_X7_36 dX7_tallyHump_11 ?_
    refine r_iload (pc := 14) X dX7_tallyHump_14 rfl ?_
    refine r_bipush (pc := 16) X dX7_tallyHump_16 hG (by decide) (fun z7 hG => ?_)
    refine r_imul (pc := 18) X dX7_tallyHump_18 hG (fun z8 hG => ?_)
    refine r_iload (pc := 19) X dX7_tallyHump_19 rfl ?_
    refine r_iload_n (pc := 21) X dX7_tallyHump_21 rfl rfl ?_
    refine r_iload_n (pc := 22) X dX7_tallyHump_22 rfl rfl ?_
    refine r_iload_n (pc := 23) X dX7_tallyHump_23 rfl rfl ?_
    refine r_cP (pc := 24) hG (fun _ hg => runSN X dX7_tallyHump_24 (c_X8_strengthOf  hg) nest_X7_49 mS_X8_strengthOf mN_X8 mK_X8_strengthOf rfl rfl hdd_X8_strengthOf ⟨(Nat.le_of_ble_eq_true rfl), (Nat.le_of_ble_eq_true rfl)⟩ rfl rfl (Nat.le_of_ble_eq_true rfl) ⟨(Nat.le_of_ble_eq_true rfl), (Nat.le_of_ble_eq_true rfl)⟩) (fun z9 hG => ?_)
    refine r_iadd (pc := 27) X dX7_tallyHump_27 hG (fun z10 hG => ?_)
    refine r_dup2 (pc := 28) X dX7_tallyHump_28 rfl rfl ?_
    refine r_iald (pc := 29) X (at_X7_tally Hb0) dX7_tallyHump_29 hG (fun z11 hG => ?_)
    refine r_iconst (pc := 30) X dX7_tallyHump_30 hG rfl (fun z12 hG => ?_)
    refine r_iadd (pc := 31) X dX7_tallyHump_31 hG (fun z13 hG => ?_)
    refine r_iast (pc := 32) X (at_X7_tally Hb0) dX7_tallyHump_32 hG (fun h14 hG => ?_)
    refine r_iinc (pc := 33) (L' := fun z15 => [some (.ref (ad b0)), some (.int x1), some (.int x2), some (.int x3), some (.int z15)]) X dX7_tallyHump_33 (by decide) rfl rfl (by decide) (fun _ => rfl) hG (fun z15 hG => ?_)
    refine r_goto (pc := 36) X dX7_tallyHump_36 (tgt := 3) (by decide) ?_
    exact r_mask [true, true, true, true, true] rfl (Hl3 _ hG z15 h14 rfl)
theorem c_X7_tallyHump {b0 : Nat} {x1 : Int32} {x2 : Int32} {x3 : Int32} {r : Hp} (Hb0 : At_X7 shl b0) (hg : g_X7_tallyHump b0 x1.toInt x2.toInt x3.toInt h = some r) : Met l yX7_tallyHump (wsM yX7_tallyHump cX7_tallyHump 5 none) rm_X7_tallyHump (va_Pc [.ref (ad b0), .int x1, .int x2, .int x3] (World E ad shl h)) (QcV E ad shl r) 0 0 (bsA E) :=
  met_of (L0 := [some (.ref (ad b0)), some (.int x1), some (.int x2), some (.int x3), none]) rfl rfl rfl (Nat.le_of_ble_eq_true rfl) (fun _ _ _ _ _ _ _ X => w_X7_tallyHump Hb0 X rfl hg)
abbrev rm_X7_tallyAll : Room := { frames := 3, cells := 0, slots := 0, locals := 69 }
theorem hdd_X7_tallyAll : yX7_tallyAll.cls = RX7 ∧ yX7_tallyAll.cls ≠ "java/lang/invoke/MethodHandle" ∧ yX7_tallyAll.cls ≠ "java/lang/invoke/VarHandle" ∧ (parseMethodDescriptor yX7_tallyAll.desc).map (fun d => d.parameters.length) = some 0 := ⟨rfl, by decide +kernel, by decide +kernel, by decide +kernel⟩
set_option maxRecDepth 100000 in
set_option maxHeartbeats 4000000 in
theorem w_X7_tallyAll {b0 : Nat} {r : Int × Hp} (Hb0 : At_X7 shl b0) (X : Cx E p s m args meth c cX7_tallyAll RX7 5 (some .int)) (hQ : Q = MQ below (QcI E ad shl r.1 r.2) args s 0 0 (bsA E)) (hG : g_X7_tallyAll b0 h = some r) : Ev E ad shl p l e rm_X7_tallyAll s m args below meth c 0 0 Q 5 h 0 [some (.ref (ad b0)), none, none, none, none] [] := by
  unfold g_X7_tallyAll at hG
  refine r_aload_n (pc := 0) X dX7_tallyAll_0 rfl rfl ?_
  refine r_sipush (pc := 1) X dX7_tallyAll_1 hG (by decide) (fun z1 hG => ?_)
  refine r_cV (pc := 4) hG (fun _ hg => runV X dX7_tallyAll_4 (c_X7_lookBackTo Hb0 hg) mM_X7_53 mI_X7_lookBackTo mE_X7_lookBackTo mN_X7 mK_X7_lookBackTo (at_X7_o Hb0) rfl rfl rfl rfl hdd_X7_lookBackTo ⟨(Nat.le_of_ble_eq_true rfl), (Nat.le_of_ble_eq_true rfl)⟩ rfl rfl (Nat.le_of_ble_eq_true rfl) ⟨(Nat.le_of_ble_eq_true rfl), (Nat.le_of_ble_eq_true rfl)⟩) (fun h2 hG => ?_)
  refine r_aload_n (pc := 7) X dX7_tallyAll_7 rfl rfl ?_
  refine r_getC (pc := 8) X (at_X7_o Hb0) rfl mU_X7 (k := 11) (by decide) (q := (b0 + 9)) rfl mF_X7_36 dX7_tallyAll_8 ?_
  refine r_iconst (pc := 11) X dX7_tallyAll_11 hG rfl (fun z3 hG => ?_)
  refine r_cV (pc := 12) hG (fun _ hg => runS X dX7_tallyAll_12 (c_J7_fill_53178 (at_X7_tally Hb0) (by decide) hg) mM_X7_80 mS_J7_fill_53178 mN_J7 mK_J7_fill_53178 rfl rfl hdd_J7_fill_53178 ⟨(Nat.le_of_ble_eq_true rfl), (Nat.le_of_ble_eq_true rfl)⟩ rfl rfl (Nat.le_of_ble_eq_true rfl) ⟨(Nat.le_of_ble_eq_true rfl), (Nat.le_of_ble_eq_true rfl)⟩) (fun h4 hG => ?_)
  refine r_iconst (pc := 15) X dX7_tallyAll_15 hG rfl (fun z5 hG => ?_)
  refine r_istore_n (pc := 16) (L' := [some (.ref (ad b0)), some (.int z5), none, none, none]) X dX7_tallyAll_16 rfl (by decide) rfl rfl ?_
  refine r_iconst (pc := 17) X dX7_tallyAll_17 hG rfl (fun z6 hG => ?_)
  refine r_istore_n (pc := 18) (L' := [some (.ref (ad b0)), some (.int z5), some (.int z6), none, none]) X dX7_tallyAll_18 rfl (by decide) rfl rfl ?_
  refine r_mask [true, true, true, false, false] rfl (r_loop (fun q7 => ∀ (y9 : Int32) (y10 : Int32) (h11 : Hp), q7 = (y9.toInt, y10.toInt, h11) → Ev E ad shl p l e rm_X7_tallyAll s m args below meth c 0 0 Q 5 h11 19 [some (.ref (ad b0)), some (.int y9), some (.int y10), none, none] []) (fun l8 Hl8 q7 hG => ?_) FU _ hG z5 z6 h4 rfl)
  intro y9 y10 h11 ha; have ha := ha.symm; subst ha
  unfold g_X7_tallyAll_l8 at hG
  refine r_iload_n (pc := 19) X dX7_tallyAll_19 rfl rfl ?_
  refine r_bipush (pc := 20) X dX7_tallyAll_20 hG (by decide) (fun z12 hG => ?_)
  refine r_icmp_gt (pc := 22) X dX7_tallyAll_22 (tgt := 82) (by decide) hG (fun hG => ?_) (fun hG => ?_)
  · skip
    refine r_iload_n (pc := 82) X dX7_tallyAll_82 rfl rfl ?_
    exact r_iretW (pc := 83) X dX7_tallyAll_83 hQ hG
  · skip
    refine r_iconst (pc := 25) X dX7_tallyAll_25 hG rfl (fun z13 hG => ?_)
    refine r_istore_n (pc := 26) (L' := [some (.ref (ad b0)), some (.int y9), some (.int y10), some (.int z13), none]) X dX7_tallyAll_26 rfl (by decide) rfl rfl ?_
    refine r_join hG (fun a14 => ∀ (y16 : Int32) (h17 : Hp), a14 = (y16.toInt, h17) → Ev E ad shl p l e rm_X7_tallyAll s m args below meth c 0 0 Q 5 h17 76 [some (.ref (ad b0)), some (.int y16), some (.int y10), none, none] []) (fun a14 hG => ?_) (fun j15 Hj15 hG => ?_)
    · skip
      intro y16 h17 ha; have ha := ha.symm; subst ha
      refine r_iinc (pc := 76) (L' := fun z18 => [some (.ref (ad b0)), some (.int y16), some (.int z18), none, none]) X dX7_tallyAll_76 (by decide) rfl rfl (by decide) (fun _ => rfl) hG (fun z18 hG => ?_)
      refine r_goto (pc := 79) X dX7_tallyAll_79 (tgt := 19) (by decide) ?_
      exact r_mask [true, true, true, false, false] rfl (Hl8 _ hG y16 z18 h17 rfl)
    refine r_mask [true, true, true, true, false] rfl (r_loop (fun q19 => ∀ (y21 : Int32) (y22 : Int32) (h23 : Hp), q19 = (y21.toInt, y22.toInt, h23) → Ev E ad shl p l e rm_X7_tallyAll s m args below meth c 0 0 Q 5 h23 27 [some (.ref (ad b0)), some (.int y21), some (.int y10), some (.int y22), none] []) (fun l20 Hl20 q19 hG => ?_) FU _ hG y9 z13 h11 rfl)
    intro y21 y22 h23 ha; have ha := ha.symm; subst ha
    unfold g_X7_tallyAll_l20 at hG
    refine r_iload_n (pc := 27) X dX7_tallyAll_27 rfl rfl ?_
    refine r_bipush (pc := 28) X dX7_tallyAll_28 hG (by decide) (fun z24 hG => ?_)
    refine r_icmp_gt (pc := 30) X dX7_tallyAll_30 (tgt := 76) (by decide) hG (fun hG => ?_) (fun hG => ?_)
    · skip
      exact r_mask [true, true, true, false, false] rfl (Hj15 _ hG y21 h23 rfl)
    · skip
      refine r_iconst (pc := 33) X dX7_tallyAll_33 hG rfl (fun z25 hG => ?_)
      refine r_istore (pc := 34) (L' := [some (.ref (ad b0)), some (.int y21), some (.int y10), some (.int y22), some (.int z25)]) X dX7_tallyAll_34 (by decide) rfl rfl ?_
      refine r_join hG (fun a26 => ∀ (y28 : Int32) (h29 : Hp), a26 = (y28.toInt, h29) → Ev E ad shl p l e rm_X7_tallyAll s m args below meth c 0 0 Q 5 h29 70 [some (.ref (ad b0)), some (.int y28), some (.int y10), some (.int y22), none] []) (fun a26 hG => ?_) (fun j27 Hj27 hG => ?_)
      · skip
        intro y28 h29 ha; have ha := ha.symm; subst ha
        refine r_iinc (pc := 70) (L' := fun z30 => [some (.ref (ad b0)), some (.int y28), some (.int y10), some (.int z30), none]) X dX7_tallyAll_70 (by decide) rfl rfl (by decide) (fun _ => rfl) hG (fun z30 hG => ?_)
        refine r_goto (pc := 73) X dX7_tallyAll_73 (tgt := 27) (by decide) ?_
        exact r_mask [true, true, true, true, false] rfl (Hl20 _ hG y28 z30 h29 rfl)
      refine r_mask [true, true, true, true, true] rfl (r_loop (fun q31 => ∀ (y33 : Int32) (y34 : Int32) (h35 : Hp), q31 = (y33.toInt, y34.toInt, h35) → Ev E ad shl p l e rm_X7_tallyAll s m args below meth c 0 0 Q 5 h35 36 [some (.ref (ad b0)), some (.int y33), some (.int y10), some (.int y22), some (.int y34)] []) (fun l32 Hl32 q31 hG => ?_) FU _ hG y21 z25 h23 rfl)
      intro y33 y34 h35 ha; have ha := ha.symm; subst ha
      unfold g_X7_tallyAll_l32 at hG
      refine r_iload (pc := 36) X dX7_tallyAll_36 rfl ?_
      refine r_iconst (pc := 38) X dX7_tallyAll_38 hG rfl (fun z36 hG => ?_)
      refine r_icmp_gt (pc := 39) X dX7_tallyAll_39 (tgt := 70) (by decide) hG (fun hG => ?_) (fun hG => ?_)
      · skip
        exact r_mask [true, true, true, true, false] rfl (Hj27 _ hG y33 h35 rfl)
      · skip
        refine r_aload_n (pc := 42) X dX7_tallyAll_42 rfl rfl ?_
        refine r_iload_n (pc := 43) X dX7_tallyAll_43 rfl rfl ?_
        refine r_iload_n (pc := 44) X dX7_tallyAll_44 rfl rfl ?_
        refine r_iload (pc := 45) X dX7_tallyAll_45 rfl ?_
        refine r_cP (pc := 47) hG (fun _ hg => runV X dX7_tallyAll_47 (c_X7_fits Hb0 hg) mM_X7_69 mI_X7_fits mE_X7_fits mN_X7 mK_X7_fits (at_X7_o Hb0) rfl rfl rfl rfl hdd_X7_fits ⟨(Nat.le_of_ble_eq_true rfl), (Nat.le_of_ble_eq_true rfl)⟩ rfl rfl (Nat.le_of_ble_eq_true rfl) ⟨(Nat.le_of_ble_eq_true rfl), (Nat.le_of_ble_eq_true rfl)⟩) (fun z37 hG => ?_)
        refine r_join hG (fun a38 => ∀ (y40 : Int32) (h41 : Hp), a38 = (y40.toInt, h41) → Ev E ad shl p l e rm_X7_tallyAll s m args below meth c 0 0 Q 5 h41 64 [some (.ref (ad b0)), some (.int y40), some (.int y10), some (.int y22), some (.int y34)] []) (fun a38 hG => ?_) (fun j39 Hj39 hG => ?_)
        · skip
          intro y40 h41 ha; have ha := ha.symm; subst ha
          refine r_iinc (pc := 64) (L' := fun z42 => [some (.ref (ad b0)), some (.int y40), some (.int y10), some (.int y22), some (.int z42)]) X dX7_tallyAll_64 (by decide) rfl rfl (by decide) (fun _ => rfl) hG (fun z42 hG => ?_)
          refine r_goto (pc := 67) X dX7_tallyAll_67 (tgt := 36) (by decide) ?_
          exact r_mask [true, true, true, true, true] rfl (Hl32 _ hG y40 z42 h41 rfl)
        refine r_if_eq (pc := 50) X dX7_tallyAll_50 (tgt := 64) (by decide) hG (fun hG => ?_) (fun hG => ?_)
        · skip
          exact r_mask [true, true, true, true, true] rfl (Hj39 _ hG y33 h35 rfl)
        · skip
          refine r_iinc (pc := 53) (L' := fun z43 => [some (.ref (ad b0)), some (.int z43), some (.int y10), some (.int y22), some (.int y34)]) X dX7_tallyAll_53 (by decide) rfl rfl (by decide) (fun _ => rfl) hG (fun z43 hG => ?_)
          refine r_aload_n (pc := 56) X dX7_tallyAll_56 rfl rfl ?_
          refine r_iload_n (pc := 57) X dX7_tallyAll_57 rfl rfl ?_
          refine r_iload_n (pc := 58) X dX7_tallyAll_58 rfl rfl ?_
          refine r_iload (pc := 59) X dX7_tallyAll_59 rfl ?_
          refine r_cV (pc := 61) hG (fun _ hg => runV X dX7_tallyAll_61 (c_X7_tallyHump Hb0 hg) mM_X7_86 mI_X7_tallyHump mE_X7_tallyHump mN_X7 mK_X7_tallyHump (at_X7_o Hb0) rfl rfl rfl rfl hdd_X7_tallyHump ⟨(Nat.le_of_ble_eq_true rfl), (Nat.le_of_ble_eq_true rfl)⟩ rfl rfl (Nat.le_of_ble_eq_true rfl) ⟨(Nat.le_of_ble_eq_true rfl), (Nat.le_of_ble_eq_true rfl)⟩) (fun h44 hG => ?_)
          exact r_mask [true, true, true, true, true] rfl (Hj39 _ hG z43 h44 rfl)
theorem c_X7_tallyAll {b0 : Nat} {r : Int × Hp} (Hb0 : At_X7 shl b0) (hg : g_X7_tallyAll b0 h = some r) : Met l yX7_tallyAll (wsM yX7_tallyAll cX7_tallyAll 5 (some .int)) rm_X7_tallyAll (va_Pc [.ref (ad b0)] (World E ad shl h)) (QcI E ad shl r.1 r.2) 0 0 (bsA E) :=
  met_of (L0 := [some (.ref (ad b0)), none, none, none, none]) rfl rfl rfl (Nat.le_of_ble_eq_true rfl) (fun _ _ _ _ _ _ _ X => w_X7_tallyAll Hb0 X rfl hg)
abbrev rm_X7_weakerBy : Room := { frames := 0, cells := 0, slots := 0, locals := 0 }
theorem hdd_X7_weakerBy : yX7_weakerBy.cls = RX7 ∧ yX7_weakerBy.cls ≠ "java/lang/invoke/MethodHandle" ∧ yX7_weakerBy.cls ≠ "java/lang/invoke/VarHandle" ∧ (parseMethodDescriptor yX7_weakerBy.desc).map (fun d => d.parameters.length) = some 2 := ⟨rfl, by decide +kernel, by decide +kernel, by decide +kernel⟩
set_option maxRecDepth 100000 in
set_option maxHeartbeats 4000000 in
theorem w_X7_weakerBy {b0 : Nat} {x1 : Int32} {x2 : Int32} {r : Int} (Hb0 : At_X7 shl b0) (X : Cx E p s m args meth c cX7_weakerBy RX7 4 (some .int)) (hQ : Q = MQ below (QcI E ad shl r h) args s 0 0 (bsA E)) (hG : g_X7_weakerBy b0 x1.toInt x2.toInt h = some r) : Ev E ad shl p l e rm_X7_weakerBy s m args below meth c 0 0 Q 4 h 0 [some (.ref (ad b0)), some (.int x1), some (.int x2), none] [] := by
  unfold g_X7_weakerBy at hG
  refine r_iload_n (pc := 0) X dX7_weakerBy_0 rfl rfl ?_
  refine r_iconst (pc := 1) X dX7_weakerBy_1 hG rfl (fun z1 hG => ?_)
  refine r_isub (pc := 2) X dX7_weakerBy_2 hG (fun z2 hG => ?_)
  refine r_istore_n (pc := 3) (L' := [some (.ref (ad b0)), some (.int x1), some (.int x2), some (.int z2)]) X dX7_weakerBy_3 rfl (by decide) rfl rfl ?_
  refine r_iload_n (pc := 4) X dX7_weakerBy_4 rfl rfl ?_
  refine r_join hG (fun a3 => ∀ (y5 : Int32), a3 = y5.toInt → Ev E ad shl p l e rm_X7_weakerBy s m args below meth c 0 0 Q 4 h 29 [none, none, none, none] [.int y5]) (fun a3 hG => ?_) (fun j4 Hj4 hG => ?_)
  · skip
    intro y5 ha; have ha := ha.symm; subst ha
    exact r_iretP (pc := 29) X dX7_weakerBy_29 hQ hG
  refine r_join hG (fun _ => Ev E ad shl p l e rm_X7_weakerBy s m args below meth c 0 0 Q 4 h 28 [none, none, none, none] []) (fun a6 hG => ?_) (fun j7 Hj7 hG => ?_)
  · skip
    refine r_iconst (pc := 28) X dX7_weakerBy_28 hG rfl (fun z8 hG => ?_)
    exact r_mask [false, false, false, false] rfl (Hj4 _ hG z8 rfl)
  refine r_if_lt (pc := 5) X dX7_weakerBy_5 (tgt := 28) (by decide) hG (fun hG => ?_) (fun hG => ?_)
  · skip
    exact r_mask [false, false, false, false] rfl (Hj7 _ hG)
  · skip
    refine r_iload_n (pc := 8) X dX7_weakerBy_8 rfl rfl ?_
    refine r_bipush (pc := 9) X dX7_weakerBy_9 hG (by decide) (fun z9 hG => ?_)
    refine r_icmp_ge (pc := 11) X dX7_weakerBy_11 (tgt := 28) (by decide) hG (fun hG => ?_) (fun hG => ?_)
    · skip
      exact r_mask [false, false, false, false] rfl (Hj7 _ hG)
    · skip
      refine r_aload_n (pc := 14) X dX7_weakerBy_14 rfl rfl ?_
      refine r_getC (pc := 15) X (at_X7_o Hb0) rfl mU_X7 (k := 11) (by decide) (q := (b0 + 9)) rfl mF_X7_36 dX7_weakerBy_15 ?_
      refine r_iload_n (pc := 18) X dX7_weakerBy_18 rfl rfl ?_
      refine r_bipush (pc := 19) X dX7_weakerBy_19 hG (by decide) (fun z10 hG => ?_)
      refine r_imul (pc := 21) X dX7_weakerBy_21 hG (fun z11 hG => ?_)
      refine r_iload_n (pc := 22) X dX7_weakerBy_22 rfl rfl ?_
      refine r_iadd (pc := 23) X dX7_weakerBy_23 hG (fun z12 hG => ?_)
      refine r_iald (pc := 24) X (at_X7_tally Hb0) dX7_weakerBy_24 hG (fun z13 hG => ?_)
      refine r_goto (pc := 25) X dX7_weakerBy_25 (tgt := 29) (by decide) ?_
      exact r_mask [false, false, false, false] rfl (Hj4 _ hG z13 rfl)
theorem c_X7_weakerBy {b0 : Nat} {x1 : Int32} {x2 : Int32} {r : Int} (Hb0 : At_X7 shl b0) (hg : g_X7_weakerBy b0 x1.toInt x2.toInt h = some r) : Met l yX7_weakerBy (wsM yX7_weakerBy cX7_weakerBy 4 (some .int)) rm_X7_weakerBy (va_Pc [.ref (ad b0), .int x1, .int x2] (World E ad shl h)) (QcI E ad shl r h) 0 0 (bsA E) :=
  met_of (L0 := [some (.ref (ad b0)), some (.int x1), some (.int x2), none]) rfl rfl rfl (Nat.le_of_ble_eq_true rfl) (fun _ _ _ _ _ _ _ X => w_X7_weakerBy Hb0 X rfl hg)
abbrev rm_X7_bestQuestion : Room := { frames := 4, cells := 0, slots := 0, locals := 93 }
theorem hdd_X7_bestQuestion : yX7_bestQuestion.cls = RX7 ∧ yX7_bestQuestion.cls ≠ "java/lang/invoke/MethodHandle" ∧ yX7_bestQuestion.cls ≠ "java/lang/invoke/VarHandle" ∧ (parseMethodDescriptor yX7_bestQuestion.desc).map (fun d => d.parameters.length) = some 0 := ⟨rfl, by decide +kernel, by decide +kernel, by decide +kernel⟩
set_option maxRecDepth 100000 in
set_option maxHeartbeats 4000000 in
theorem w_X7_bestQuestion {b0 : Nat} {r : Int × Hp} (Hb0 : At_X7 shl b0) (X : Cx E p s m args meth c cX7_bestQuestion RX7 8 (some .int)) (hQ : Q = MQ below (QcI E ad shl r.1 r.2) args s 0 0 (bsA E)) (hG : g_X7_bestQuestion b0 h = some r) : Ev E ad shl p l e rm_X7_bestQuestion s m args below meth c 0 0 Q 8 h 0 [some (.ref (ad b0)), none, none, none, none, none, none, none] [] := by
  unfold g_X7_bestQuestion at hG
  refine r_aload_n (pc := 0) X dX7_bestQuestion_0 rfl rfl ?_
  refine r_cW (pc := 1) hG (fun _ hg => runV X dX7_bestQuestion_1 (c_X7_tallyAll Hb0 hg) mM_X7_73 mI_X7_tallyAll mE_X7_tallyAll mN_X7 mK_X7_tallyAll (at_X7_o Hb0) rfl rfl rfl rfl hdd_X7_tallyAll ⟨(Nat.le_of_ble_eq_true rfl), (Nat.le_of_ble_eq_true rfl)⟩ rfl rfl (Nat.le_of_ble_eq_true rfl) ⟨(Nat.le_of_ble_eq_true rfl), (Nat.le_of_ble_eq_true rfl)⟩) (fun z1 h2 hG => ?_)
  refine r_istore_n (pc := 4) (L' := [some (.ref (ad b0)), some (.int z1), none, none, none, none, none, none]) X dX7_bestQuestion_4 rfl (by decide) rfl rfl ?_
  refine r_iload_n (pc := 5) X dX7_bestQuestion_5 rfl rfl ?_
  refine r_istore_n (pc := 6) (L' := [some (.ref (ad b0)), some (.int z1), some (.int z1), none, none, none, none, none]) X dX7_bestQuestion_6 rfl (by decide) rfl rfl ?_
  refine r_iconst (pc := 7) X dX7_bestQuestion_7 hG rfl (fun z3 hG => ?_)
  refine r_istore_n (pc := 8) (L' := [some (.ref (ad b0)), some (.int z1), some (.int z1), some (.int z3), none, none, none, none]) X dX7_bestQuestion_8 rfl (by decide) rfl rfl ?_
  refine r_iconst (pc := 9) X dX7_bestQuestion_9 hG rfl (fun z4 hG => ?_)
  refine r_istore (pc := 10) (L' := [some (.ref (ad b0)), some (.int z1), some (.int z1), some (.int z3), some (.int z4), none, none, none]) X dX7_bestQuestion_10 (by decide) rfl rfl ?_
  refine r_mask [true, true, true, true, true, false, false, false] rfl (r_loop (fun q5 => ∀ (y7 : Int32) (y8 : Int32) (y9 : Int32), q5 = (y7.toInt, y8.toInt, y9.toInt) → Ev E ad shl p l e rm_X7_bestQuestion s m args below meth c 0 0 Q 8 h2 12 [some (.ref (ad b0)), some (.int z1), some (.int y7), some (.int y8), some (.int y9), none, none, none] []) (fun l6 Hl6 q5 hG => ?_) FU _ hG z1 z3 z4 rfl)
  intro y7 y8 y9 ha; have ha := ha.symm; subst ha
  unfold g_X7_bestQuestion_l6 at hG
  refine r_iload (pc := 12) X dX7_bestQuestion_12 rfl ?_
  refine r_bipush (pc := 14) X dX7_bestQuestion_14 hG (by decide) (fun z10 hG => ?_)
  refine r_icmp_ge (pc := 16) X dX7_bestQuestion_16 (tgt := 86) (by decide) hG (fun hG => ?_) (fun hG => ?_)
  · skip
    refine r_iload_n (pc := 86) X dX7_bestQuestion_86 rfl rfl ?_
    exact r_iretW (pc := 87) X dX7_bestQuestion_87 hQ hG
  · skip
    refine r_iload_n (pc := 19) X dX7_bestQuestion_19 rfl rfl ?_
    refine r_istore (pc := 20) (L' := [some (.ref (ad b0)), some (.int z1), some (.int y7), some (.int y8), some (.int y9), some (.int z1), none, none]) X dX7_bestQuestion_20 (by decide) rfl rfl ?_
    refine r_iconst (pc := 22) X dX7_bestQuestion_22 hG rfl (fun z11 hG => ?_)
    refine r_istore (pc := 23) (L' := [some (.ref (ad b0)), some (.int z1), some (.int y7), some (.int y8), some (.int y9), some (.int z1), some (.int z11), none]) X dX7_bestQuestion_23 (by decide) rfl rfl ?_
    refine r_join hG (fun a12 => ∀ (y14 : Int32) (y15 : Int32), a12 = (y14.toInt, y15.toInt) → Ev E ad shl p l e rm_X7_bestQuestion s m args below meth c 0 0 Q 8 h2 80 [some (.ref (ad b0)), some (.int z1), some (.int y14), some (.int y15), some (.int y9), none, none, none] []) (fun a12 hG => ?_) (fun j13 Hj13 hG => ?_)
    · skip
      intro y14 y15 ha; have ha := ha.symm; subst ha
      refine r_iinc (pc := 80) (L' := fun z16 => [some (.ref (ad b0)), some (.int z1), some (.int y14), some (.int y15), some (.int z16), none, none, none]) X dX7_bestQuestion_80 (by decide) rfl rfl (by decide) (fun _ => rfl) hG (fun z16 hG => ?_)
      refine r_goto (pc := 83) X dX7_bestQuestion_83 (tgt := 12) (by decide) ?_
      exact r_mask [true, true, true, true, true, false, false, false] rfl (Hl6 _ hG y14 y15 z16 rfl)
    refine r_mask [true, true, true, true, true, true, true, false] rfl (r_loop (fun q17 => ∀ (y19 : Int32) (y20 : Int32) (y21 : Int32) (y22 : Int32), q17 = (y19.toInt, y20.toInt, y21.toInt, y22.toInt) → Ev E ad shl p l e rm_X7_bestQuestion s m args below meth c 0 0 Q 8 h2 25 [some (.ref (ad b0)), some (.int z1), some (.int y19), some (.int y20), some (.int y9), some (.int y21), some (.int y22), none] []) (fun l18 Hl18 q17 hG => ?_) FU _ hG y7 y8 z1 z11 rfl)
    intro y19 y20 y21 y22 ha; have ha := ha.symm; subst ha
    unfold g_X7_bestQuestion_l18 at hG
    refine r_iload (pc := 25) X dX7_bestQuestion_25 rfl ?_
    refine r_bipush (pc := 27) X dX7_bestQuestion_27 hG (by decide) (fun z23 hG => ?_)
    refine r_icmp_gt (pc := 29) X dX7_bestQuestion_29 (tgt := 80) (by decide) hG (fun hG => ?_) (fun hG => ?_)
    · skip
      exact r_mask [true, true, true, true, true, false, false, false] rfl (Hj13 _ hG y19 y20 rfl)
    · skip
      refine r_iload (pc := 32) X dX7_bestQuestion_32 rfl ?_
      refine r_aload_n (pc := 34) X dX7_bestQuestion_34 rfl rfl ?_
      refine r_iload (pc := 35) X dX7_bestQuestion_35 rfl ?_
      refine r_iload (pc := 37) X dX7_bestQuestion_37 rfl ?_
      refine r_cP (pc := 39) hG (fun _ hg => runV X dX7_bestQuestion_39 (c_X7_weakerBy Hb0 hg) mM_X7_77 mI_X7_weakerBy mE_X7_weakerBy mN_X7 mK_X7_weakerBy (at_X7_o Hb0) rfl rfl rfl rfl hdd_X7_weakerBy ⟨(Nat.le_of_ble_eq_true rfl), (Nat.le_of_ble_eq_true rfl)⟩ rfl rfl (Nat.le_of_ble_eq_true rfl) ⟨(Nat.le_of_ble_eq_true rfl), (Nat.le_of_ble_eq_true rfl)⟩) (fun z24 hG => ?_)
      refine r_isub (pc := 42) X dX7_bestQuestion_42 hG (fun z25 hG => ?_)
      refine r_istore (pc := 43) (L' := [some (.ref (ad b0)), some (.int z1), some (.int y19), some (.int y20), some (.int y9), some (.int z25), some (.int y22), none]) X dX7_bestQuestion_43 (by decide) rfl rfl ?_
      refine r_iload (pc := 45) X dX7_bestQuestion_45 rfl ?_
      refine r_iload_n (pc := 47) X dX7_bestQuestion_47 rfl rfl ?_
      refine r_iload (pc := 48) X dX7_bestQuestion_48 rfl ?_
      refine r_isub (pc := 50) X dX7_bestQuestion_50 hG (fun z26 hG => ?_)
      refine r_mmax (pc := 51) X dX7_bestQuestion_51 mM_X7_66 (Nat.le_of_ble_eq_true rfl) (Nat.le_of_ble_eq_true rfl) (Nat.le_of_ble_eq_true rfl) (Nat.le_of_ble_eq_true rfl) hG (fun z27 hG => ?_)
      refine r_istore (pc := 54) (L' := [some (.ref (ad b0)), some (.int z1), some (.int y19), some (.int y20), some (.int y9), some (.int z25), some (.int y22), some (.int z27)]) X dX7_bestQuestion_54 (by decide) rfl rfl ?_
      refine r_iload (pc := 56) X dX7_bestQuestion_56 rfl ?_
      refine r_iload_n (pc := 58) X dX7_bestQuestion_58 rfl rfl ?_
      refine r_join hG (fun a28 => ∀ (y30 : Int32) (y31 : Int32), a28 = (y30.toInt, y31.toInt) → Ev E ad shl p l e rm_X7_bestQuestion s m args below meth c 0 0 Q 8 h2 74 [some (.ref (ad b0)), some (.int z1), some (.int y30), some (.int y31), some (.int y9), some (.int z25), some (.int y22), none] []) (fun a28 hG => ?_) (fun j29 Hj29 hG => ?_)
      · skip
        intro y30 y31 ha; have ha := ha.symm; subst ha
        refine r_iinc (pc := 74) (L' := fun z32 => [some (.ref (ad b0)), some (.int z1), some (.int y30), some (.int y31), some (.int y9), some (.int z25), some (.int z32), none]) X dX7_bestQuestion_74 (by decide) rfl rfl (by decide) (fun _ => rfl) hG (fun z32 hG => ?_)
        refine r_goto (pc := 77) X dX7_bestQuestion_77 (tgt := 25) (by decide) ?_
        exact r_mask [true, true, true, true, true, true, true, false] rfl (Hl18 _ hG y30 y31 z25 z32 rfl)
      refine r_icmp_ge (pc := 59) X dX7_bestQuestion_59 (tgt := 74) (by decide) hG (fun hG => ?_) (fun hG => ?_)
      · skip
        exact r_mask [true, true, true, true, true, true, true, false] rfl (Hj29 _ hG y19 y20 rfl)
      · skip
        refine r_iload (pc := 62) X dX7_bestQuestion_62 rfl ?_
        refine r_istore_n (pc := 64) (L' := [some (.ref (ad b0)), some (.int z1), some (.int z27), some (.int y20), some (.int y9), some (.int z25), some (.int y22), some (.int z27)]) X dX7_bestQuestion_64 rfl (by decide) rfl rfl ?_
        refine r_bipush (pc := 65) X dX7_bestQuestion_65 hG (by decide) (fun z33 hG => ?_)
        refine r_iload (pc := 67) X dX7_bestQuestion_67 rfl ?_
        refine r_imul (pc := 69) X dX7_bestQuestion_69 hG (fun z34 hG => ?_)
        refine r_iload (pc := 70) X dX7_bestQuestion_70 rfl ?_
        refine r_iadd (pc := 72) X dX7_bestQuestion_72 hG (fun z35 hG => ?_)
        refine r_istore_n (pc := 73) (L' := [some (.ref (ad b0)), some (.int z1), some (.int z27), some (.int z35), some (.int y9), some (.int z25), some (.int y22), some (.int z27)]) X dX7_bestQuestion_73 rfl (by decide) rfl rfl ?_
        exact r_mask [true, true, true, true, true, true, true, false] rfl (Hj29 _ hG z27 z35 rfl)
theorem c_X7_bestQuestion {b0 : Nat} {r : Int × Hp} (Hb0 : At_X7 shl b0) (hg : g_X7_bestQuestion b0 h = some r) : Met l yX7_bestQuestion (wsM yX7_bestQuestion cX7_bestQuestion 8 (some .int)) rm_X7_bestQuestion (va_Pc [.ref (ad b0)] (World E ad shl h)) (QcI E ad shl r.1 r.2) 0 0 (bsA E) :=
  met_of (L0 := [some (.ref (ad b0)), none, none, none, none, none, none, none]) rfl rfl rfl (Nat.le_of_ble_eq_true rfl) (fun _ _ _ _ _ _ _ X => w_X7_bestQuestion Hb0 X rfl hg)
abbrev rm_X8_next : Room := { frames := 5, cells := 0, slots := 0, locals := 120 }
theorem hdd_X8_next : yX8_next.cls = RX8 ∧ yX8_next.cls ≠ "java/lang/invoke/MethodHandle" ∧ yX8_next.cls ≠ "java/lang/invoke/VarHandle" ∧ (parseMethodDescriptor yX8_next.desc).map (fun d => d.parameters.length) = some 0 := ⟨rfl, by decide +kernel, by decide +kernel, by decide +kernel⟩
set_option maxRecDepth 100000 in
set_option maxHeartbeats 4000000 in
theorem w_X8_next  {r : Int × Hp} (Hb0 : At_X8 shl) (X : Cx E p s m args meth c cX8_next RX8 1 (some .int)) (hQ : Q = MQ below (QcI E ad shl r.1 r.2) args s 0 0 (bsA E)) (hG : g_X8_next h = some r) : Ev E ad shl p l e rm_X8_next s m args below meth c 0 0 Q 1 h 0 [some (.ref (ad 0))] [] := by
  unfold g_X8_next at hG
  refine r_aload_n (pc := 0) X dX8_next_0 rfl rfl ?_
  refine r_getC (pc := 1) X (at_X8_o Hb0) rfl mU_X8 (k := 10) (by decide) (q := 36) rfl mF_X8_60 dX8_next_1 ?_
  refine r_cW (pc := 4) hG (fun _ hg => runV X dX8_next_4 (c_X7_bestQuestion (at_X8_tries Hb0) hg) mM_X8_270 mI_X7_bestQuestion mE_X7_bestQuestion mN_X7 mK_X7_bestQuestion (at_X7_o (at_X8_tries Hb0)) rfl rfl rfl rfl hdd_X7_bestQuestion ⟨(Nat.le_of_ble_eq_true rfl), (Nat.le_of_ble_eq_true rfl)⟩ rfl rfl (Nat.le_of_ble_eq_true rfl) ⟨(Nat.le_of_ble_eq_true rfl), (Nat.le_of_ble_eq_true rfl)⟩) (fun z1 h2 hG => ?_)
  exact r_iretW (pc := 7) X dX8_next_7 hQ hG
theorem c_X8_next  {r : Int × Hp} (Hb0 : At_X8 shl) (hg : g_X8_next h = some r) : Met l yX8_next (wsM yX8_next cX8_next 1 (some .int)) rm_X8_next (va_Pc [.ref (ad 0)] (World E ad shl h)) (QcI E ad shl r.1 r.2) 0 0 (bsA E) :=
  met_of (L0 := [some (.ref (ad 0))]) rfl rfl rfl (Nat.le_of_ble_eq_true rfl) (fun _ _ _ _ _ _ _ X => w_X8_next Hb0 X rfl hg)
abbrev rm_X8_isSpan : Room := { frames := 0, cells := 0, slots := 0, locals := 0 }
theorem hdd_X8_isSpan : yX8_isSpan.cls ≠ "java/lang/invoke/MethodHandle" ∧ yX8_isSpan.cls ≠ "java/lang/invoke/VarHandle" ∧ (parseMethodDescriptor yX8_isSpan.desc).map (fun d => d.parameters.length) = some 1 := ⟨by decide +kernel, by decide +kernel, by decide +kernel⟩
set_option maxRecDepth 100000 in
set_option maxHeartbeats 4000000 in
theorem w_X8_isSpan {x1 : Int32} {r : Int}  (X : Cx E p s m args meth c cX8_isSpan RX8 1 (some .boolean)) (hQ : Q = MQ below (QcI E ad shl r h) args s 0 0 (bsA E)) (hG : g_X8_isSpan x1.toInt = some r) : Ev E ad shl p l e rm_X8_isSpan s m args below meth c 0 0 Q 1 h 0 [some (.int x1)] [] := by
  unfold g_X8_isSpan at hG
  refine r_iload_n (pc := 0) X dX8_isSpan_0 rfl rfl ?_
  refine r_iconst (pc := 1) X dX8_isSpan_1 hG rfl (fun z1 hG => ?_)
  refine r_join hG (fun a2 => ∀ (y4 : Int32), a2 = y4.toInt → Ev E ad shl p l e rm_X8_isSpan s m args below meth c 0 0 Q 1 h 16 [none] [.int y4]) (fun a2 hG => ?_) (fun j3 Hj3 hG => ?_)
  · skip
    intro y4 ha; have ha := ha.symm; subst ha
    exact r_zretP (pc := 16) X dX8_isSpan_16 hQ hG
  refine r_join hG (fun _ => Ev E ad shl p l e rm_X8_isSpan s m args below meth c 0 0 Q 1 h 15 [none] []) (fun a5 hG => ?_) (fun j6 Hj6 hG => ?_)
  · skip
    refine r_iconst (pc := 15) X dX8_isSpan_15 hG rfl (fun z7 hG => ?_)
    exact r_mask [false] rfl (Hj3 _ hG z7 rfl)
  refine r_icmp_lt (pc := 2) X dX8_isSpan_2 (tgt := 15) (by decide) hG (fun hG => ?_) (fun hG => ?_)
  · skip
    exact r_mask [false] rfl (Hj6 _ hG)
  · skip
    refine r_iload_n (pc := 5) X dX8_isSpan_5 rfl rfl ?_
    refine r_bipush (pc := 6) X dX8_isSpan_6 hG (by decide) (fun z8 hG => ?_)
    refine r_icmp_gt (pc := 8) X dX8_isSpan_8 (tgt := 15) (by decide) hG (fun hG => ?_) (fun hG => ?_)
    · skip
      exact r_mask [false] rfl (Hj6 _ hG)
    · skip
      refine r_iconst (pc := 11) X dX8_isSpan_11 hG rfl (fun z9 hG => ?_)
      refine r_goto (pc := 12) X dX8_isSpan_12 (tgt := 16) (by decide) ?_
      exact r_mask [false] rfl (Hj3 _ hG z9 rfl)
theorem c_X8_isSpan {x1 : Int32} {r : Int}  (hg : g_X8_isSpan x1.toInt = some r) : Met l yX8_isSpan (wsM yX8_isSpan cX8_isSpan 1 (some .boolean)) rm_X8_isSpan (va_Pc [.int x1] (World E ad shl h)) (QcI E ad shl r h) 0 0 (bsA E) :=
  met_of (L0 := [some (.int x1)]) rfl rfl rfl (Nat.le_of_ble_eq_true rfl) (fun _ _ _ _ _ _ _ X => w_X8_isSpan  X rfl hg)
abbrev rm_X6_start : Room := { frames := 2, cells := 0, slots := 0, locals := 47 }
theorem hdd_X6_start : yX6_start.cls = RX6 ∧ yX6_start.cls ≠ "java/lang/invoke/MethodHandle" ∧ yX6_start.cls ≠ "java/lang/invoke/VarHandle" ∧ (parseMethodDescriptor yX6_start.desc).map (fun d => d.parameters.length) = some 3 := ⟨rfl, by decide +kernel, by decide +kernel, by decide +kernel⟩
set_option maxRecDepth 100000 in
set_option maxHeartbeats 4000000 in
theorem w_X6_start {b0 : Nat} {b1 : Nat} {x2 : Int32} {x3 : Int32} {r : Hp} (Hb0 : At_X6 shl b0) (Hb1 : At_X3 shl b1) (X : Cx E p s m args meth c cX6_start RX6 4 none) (hQ : Q = MQ below (QcV E ad shl r) args s 0 0 (bsA E)) (hG : g_X6_start b0 b1 x2.toInt x3.toInt h = some r) : Ev E ad shl p l e rm_X6_start s m args below meth c 0 0 Q 4 h 0 [some (.ref (ad b0)), some (.ref (ad b1)), some (.int x2), some (.int x3)] [] := by
  unfold g_X6_start at hG
  refine r_aload_n (pc := 0) X dX6_start_0 rfl rfl ?_
  refine r_getC (pc := 1) X (at_X6_o Hb0) rfl mU_X6 (k := 0) (by decide) (q := (b0 + 1)) rfl mF_X6_12 dX6_start_1 ?_
  refine r_aload_n (pc := 4) X dX6_start_4 rfl rfl ?_
  refine r_cV (pc := 5) hG (fun _ hg => runV X dX6_start_5 (c_X3_copyFrom (at_X6_shore Hb0) Hb1 hg) mM_X6_31 mI_X3_copyFrom mE_X3_copyFrom mN_X3 mK_X3_copyFrom (at_X3_o (at_X6_shore Hb0)) rfl rfl rfl rfl hdd_X3_copyFrom ⟨(Nat.le_of_ble_eq_true rfl), (Nat.le_of_ble_eq_true rfl)⟩ rfl rfl (Nat.le_of_ble_eq_true rfl) ⟨(Nat.le_of_ble_eq_true rfl), (Nat.le_of_ble_eq_true rfl)⟩) (fun h1 hG => ?_)
  refine r_aload_n (pc := 8) X dX6_start_8 rfl rfl ?_
  refine r_getC (pc := 9) X (at_X6_o Hb0) rfl mU_X6 (k := 0) (by decide) (q := (b0 + 1)) rfl mF_X6_12 dX6_start_9 ?_
  refine r_iload_n (pc := 12) X dX6_start_12 rfl rfl ?_
  refine r_cV (pc := 13) hG (fun _ hg => runV X dX6_start_13 (c_X3_hold (at_X6_shore Hb0) hg) mM_X6_35 mI_X3_hold mE_X3_hold mN_X3 mK_X3_hold (at_X3_o (at_X6_shore Hb0)) rfl rfl rfl rfl hdd_X3_hold ⟨(Nat.le_of_ble_eq_true rfl), (Nat.le_of_ble_eq_true rfl)⟩ rfl rfl (Nat.le_of_ble_eq_true rfl) ⟨(Nat.le_of_ble_eq_true rfl), (Nat.le_of_ble_eq_true rfl)⟩) (fun h2 hG => ?_)
  refine r_aload_n (pc := 16) X dX6_start_16 rfl rfl ?_
  refine r_getC (pc := 17) X (at_X6_o Hb0) rfl mU_X6 (k := 0) (by decide) (q := (b0 + 1)) rfl mF_X6_12 dX6_start_17 ?_
  refine r_iload_n (pc := 20) X dX6_start_20 rfl rfl ?_
  refine r_putI (pc := 21) X (at_X3_o (at_X6_shore Hb0)) rfl mU_X3 (k := 8) (by decide) rfl rfl rfl mF_X6_39 dX6_start_21 hG (fun h3 hG => ?_)
  refine r_aload_n (pc := 24) X dX6_start_24 rfl rfl ?_
  refine r_getC (pc := 25) X (at_X6_o Hb0) rfl mU_X6 (k := 4) (by decide) (q := (b0 + 12)) rfl mF_X6_28 dX6_start_25 ?_
  refine r_iconst (pc := 28) X dX6_start_28 hG rfl (fun z4 hG => ?_)
  refine r_cV (pc := 29) hG (fun _ hg => runS X dX6_start_29 (c_J7_fill_53178 (at_X6_works Hb0) (by decide) hg) mM_X6_43 mS_J7_fill_53178 mN_J7 mK_J7_fill_53178 rfl rfl hdd_J7_fill_53178 ⟨(Nat.le_of_ble_eq_true rfl), (Nat.le_of_ble_eq_true rfl)⟩ rfl rfl (Nat.le_of_ble_eq_true rfl) ⟨(Nat.le_of_ble_eq_true rfl), (Nat.le_of_ble_eq_true rfl)⟩) (fun h5 hG => ?_)
  refine r_aload_n (pc := 32) X dX6_start_32 rfl rfl ?_
  refine r_iconst (pc := 33) X dX6_start_33 hG rfl (fun z6 hG => ?_)
  refine r_putI (pc := 34) X (at_X6_o Hb0) rfl mU_X6 (k := 5) (by decide) rfl rfl rfl mF_X6_49 dX6_start_34 hG (fun h7 hG => ?_)
  exact r_vret (pc := 37) X dX6_start_37 hQ hG
theorem c_X6_start {b0 : Nat} {b1 : Nat} {x2 : Int32} {x3 : Int32} {r : Hp} (Hb0 : At_X6 shl b0) (Hb1 : At_X3 shl b1) (hg : g_X6_start b0 b1 x2.toInt x3.toInt h = some r) : Met l yX6_start (wsM yX6_start cX6_start 4 none) rm_X6_start (va_Pc [.ref (ad b0), .ref (ad b1), .int x2, .int x3] (World E ad shl h)) (QcV E ad shl r) 0 0 (bsA E) :=
  met_of (L0 := [some (.ref (ad b0)), some (.ref (ad b1)), some (.int x2), some (.int x3)]) rfl rfl rfl (Nat.le_of_ble_eq_true rfl) (fun _ _ _ _ _ _ _ X => w_X6_start Hb0 Hb1 X rfl hg)
abbrev rm_X6_watch : Room := { frames := 0, cells := 0, slots := 0, locals := 0 }
theorem hdd_X6_watch : yX6_watch.cls = RX6 ∧ yX6_watch.cls ≠ "java/lang/invoke/MethodHandle" ∧ yX6_watch.cls ≠ "java/lang/invoke/VarHandle" ∧ (parseMethodDescriptor yX6_watch.desc).map (fun d => d.parameters.length) = some 2 := ⟨rfl, by decide +kernel, by decide +kernel, by decide +kernel⟩
set_option maxRecDepth 100000 in
set_option maxHeartbeats 4000000 in
theorem w_X6_watch {b0 : Nat} {x1 : Int32} {x2 : Int32} {r : Hp} (Hb0 : At_X6 shl b0) (X : Cx E p s m args meth c cX6_watch RX6 3 none) (hQ : Q = MQ below (QcV E ad shl r) args s 0 0 (bsA E)) (hG : g_X6_watch b0 x1.toInt x2.toInt h = some r) : Ev E ad shl p l e rm_X6_watch s m args below meth c 0 0 Q 3 h 0 [some (.ref (ad b0)), some (.int x1), some (.int x2)] [] := by
  unfold g_X6_watch at hG
  refine r_aload_n (pc := 0) X dX6_watch_0 rfl rfl ?_
  refine r_getI (pc := 1) X (at_X6_o Hb0) rfl mU_X6 (k := 5) (by decide) rfl mF_X6_49 dX6_watch_1 hG (fun z1 hG => ?_)
  refine r_iconst (pc := 4) X dX6_watch_4 hG rfl (fun z2 hG => ?_)
  refine r_join hG (fun a3 => ∀ (h5 : Hp), a3 = h5 → Ev E ad shl p l e rm_X6_watch s m args below meth c 0 0 Q 3 h5 38 [none, none, none] []) (fun a3 hG => ?_) (fun j4 Hj4 hG => ?_)
  · skip
    intro h5 ha; have ha := ha.symm; subst ha
    exact r_vret (pc := 38) X dX6_watch_38 hQ hG
  refine r_icmp_ge (pc := 5) X dX6_watch_5 (tgt := 38) (by decide) hG (fun hG => ?_) (fun hG => ?_)
  · skip
    exact r_mask [false, false, false] rfl (Hj4 _ hG h rfl)
  · skip
    refine r_aload_n (pc := 8) X dX6_watch_8 rfl rfl ?_
    refine r_getC (pc := 9) X (at_X6_o Hb0) rfl mU_X6 (k := 2) (by decide) (q := (b0 + 10)) rfl mF_X6_22 dX6_watch_9 ?_
    refine r_aload_n (pc := 12) X dX6_watch_12 rfl rfl ?_
    refine r_getI (pc := 13) X (at_X6_o Hb0) rfl mU_X6 (k := 5) (by decide) rfl mF_X6_49 dX6_watch_13 hG (fun z6 hG => ?_)
    refine r_iload_n (pc := 16) X dX6_watch_16 rfl rfl ?_
    refine r_iast (pc := 17) X (at_X6_watchedCells Hb0) dX6_watch_17 hG (fun h7 hG => ?_)
    refine r_aload_n (pc := 18) X dX6_watch_18 rfl rfl ?_
    refine r_getC (pc := 19) X (at_X6_o Hb0) rfl mU_X6 (k := 3) (by decide) (q := (b0 + 11)) rfl mF_X6_25 dX6_watch_19 ?_
    refine r_aload_n (pc := 22) X dX6_watch_22 rfl rfl ?_
    refine r_getI (pc := 23) X (at_X6_o Hb0) rfl mU_X6 (k := 5) (by decide) rfl mF_X6_49 dX6_watch_23 hG (fun z8 hG => ?_)
    refine r_iload_n (pc := 26) X dX6_watch_26 rfl rfl ?_
    refine r_iast (pc := 27) X (at_X6_floors Hb0) dX6_watch_27 hG (fun h9 hG => ?_)
    refine r_aload_n (pc := 28) X dX6_watch_28 rfl rfl ?_
    refine r_dup (pc := 29) X dX6_watch_29 rfl ?_
    refine r_getI (pc := 30) X (at_X6_o Hb0) rfl mU_X6 (k := 5) (by decide) rfl mF_X6_49 dX6_watch_30 hG (fun z10 hG => ?_)
    refine r_iconst (pc := 33) X dX6_watch_33 hG rfl (fun z11 hG => ?_)
    refine r_iadd (pc := 34) X dX6_watch_34 hG (fun z12 hG => ?_)
    refine r_putI (pc := 35) X (at_X6_o Hb0) rfl mU_X6 (k := 5) (by decide) rfl rfl rfl mF_X6_49 dX6_watch_35 hG (fun h13 hG => ?_)
    exact r_mask [false, false, false] rfl (Hj4 _ hG h13 rfl)
theorem c_X6_watch {b0 : Nat} {x1 : Int32} {x2 : Int32} {r : Hp} (Hb0 : At_X6 shl b0) (hg : g_X6_watch b0 x1.toInt x2.toInt h = some r) : Met l yX6_watch (wsM yX6_watch cX6_watch 3 none) rm_X6_watch (va_Pc [.ref (ad b0), .int x1, .int x2] (World E ad shl h)) (QcV E ad shl r) 0 0 (bsA E) :=
  met_of (L0 := [some (.ref (ad b0)), some (.int x1), some (.int x2)]) rfl rfl rfl (Nat.le_of_ble_eq_true rfl) (fun _ _ _ _ _ _ _ X => w_X6_watch Hb0 X rfl hg)
abbrev rm_X6_watchFlag : Room := { frames := 1, cells := 0, slots := 0, locals := 22 }
theorem hdd_X6_watchFlag : yX6_watchFlag.cls = RX6 ∧ yX6_watchFlag.cls ≠ "java/lang/invoke/MethodHandle" ∧ yX6_watchFlag.cls ≠ "java/lang/invoke/VarHandle" ∧ (parseMethodDescriptor yX6_watchFlag.desc).map (fun d => d.parameters.length) = some 2 := ⟨rfl, by decide +kernel, by decide +kernel, by decide +kernel⟩
set_option maxRecDepth 100000 in
set_option maxHeartbeats 4000000 in
theorem w_X6_watchFlag {b0 : Nat} {b1 : Nat} {x2 : Int32} {r : Hp} (Hb0 : At_X6 shl b0) (Hb1 : At_X0 shl b1) (X : Cx E p s m args meth c cX6_watchFlag RX6 5 none) (hQ : Q = MQ below (QcV E ad shl r) args s 0 0 (bsA E)) (hG : g_X6_watchFlag b0 b1 x2.toInt h = some r) : Ev E ad shl p l e rm_X6_watchFlag s m args below meth c 0 0 Q 5 h 0 [some (.ref (ad b0)), some (.ref (ad b1)), some (.int x2), none, none] [] := by
  unfold g_X6_watchFlag at hG
  refine r_aload_n (pc := 0) X dX6_watchFlag_0 rfl rfl ?_
  refine r_getC (pc := 1) X (at_X0_o Hb1) rfl mU_X0 (k := 3) (by decide) (q := (b1 + 4)) rfl mF_X6_52 dX6_watchFlag_1 ?_
  refine r_iload_n (pc := 4) X dX6_watchFlag_4 rfl rfl ?_
  refine r_iald (pc := 5) X (at_X0_flagCells Hb1) dX6_watchFlag_5 hG (fun z1 hG => ?_)
  refine r_istore_n (pc := 6) (L' := [some (.ref (ad b0)), some (.ref (ad b1)), some (.int x2), some (.int z1), none]) X dX6_watchFlag_6 rfl (by decide) rfl rfl ?_
  refine r_aload_n (pc := 7) X dX6_watchFlag_7 rfl rfl ?_
  refine r_getC (pc := 8) X (at_X6_o Hb0) rfl mU_X6 (k := 0) (by decide) (q := (b0 + 1)) rfl mF_X6_12 dX6_watchFlag_8 ?_
  refine r_getC (pc := 11) X (at_X3_o (at_X6_shore Hb0)) rfl mU_X3 (k := 4) (by decide) (q := (b0 + 6)) rfl mF_X6_57 dX6_watchFlag_11 ?_
  refine r_iload_n (pc := 14) X dX6_watchFlag_14 rfl rfl ?_
  refine r_iald (pc := 15) X (at_X3_fell (at_X6_shore Hb0)) dX6_watchFlag_15 hG (fun z2 hG => ?_)
  refine r_iconst (pc := 16) X dX6_watchFlag_16 hG rfl (fun z3 hG => ?_)
  refine r_join hG (fun a4 => ∀ (y6 : Int32), a4 = y6.toInt → Ev E ad shl p l e rm_X6_watchFlag s m args below meth c 0 0 Q 5 h 25 [some (.ref (ad b0)), some (.ref (ad b1)), none, some (.int z1), none] [.int y6]) (fun a4 hG => ?_) (fun j5 Hj5 hG => ?_)
  · skip
    intro y6 ha; have ha := ha.symm; subst ha
    refine r_istore (pc := 25) (L' := [some (.ref (ad b0)), some (.ref (ad b1)), none, some (.int z1), some (.int y6)]) X dX6_watchFlag_25 (by decide) rfl rfl ?_
    refine r_aload_n (pc := 27) X dX6_watchFlag_27 rfl rfl ?_
    refine r_iload_n (pc := 28) X dX6_watchFlag_28 rfl rfl ?_
    refine r_iload (pc := 29) X dX6_watchFlag_29 rfl ?_
    refine r_join hG (fun a7 => ∀ (y9 : Int32), a7 = y9.toInt → Ev E ad shl p l e rm_X6_watchFlag s m args below meth c 0 0 Q 5 h 49 [none, none, none, none, none] [.int y9, .int z1, .ref (ad b0)]) (fun a7 hG => ?_) (fun j8 Hj8 hG => ?_)
    · skip
      intro y9 ha; have ha := ha.symm; subst ha
      refine r_cV (pc := 49) hG (fun _ hg => runV X dX6_watchFlag_49 (c_X6_watch Hb0 hg) mM_X6_69 mI_X6_watch mE_X6_watch mN_X6 mK_X6_watch (at_X6_o Hb0) rfl rfl rfl rfl hdd_X6_watch ⟨(Nat.le_of_ble_eq_true rfl), (Nat.le_of_ble_eq_true rfl)⟩ rfl rfl (Nat.le_of_ble_eq_true rfl) ⟨(Nat.le_of_ble_eq_true rfl), (Nat.le_of_ble_eq_true rfl)⟩) (fun h10 hG => ?_)
      exact r_vret (pc := 52) X dX6_watchFlag_52 hQ hG
    refine r_if_eq (pc := 31) X dX6_watchFlag_31 (tgt := 39) (by decide) hG (fun hG => ?_) (fun hG => ?_)
    · skip
      refine r_aload_n (pc := 39) X dX6_watchFlag_39 rfl rfl ?_
      refine r_iload_n (pc := 40) X dX6_watchFlag_40 rfl rfl ?_
      refine r_cP (pc := 41) hG (fun _ hg => runV X dX6_watchFlag_41 (c_X0_firstHeight Hb1 hg) mM_X6_61 mI_X0_firstHeight mE_X0_firstHeight mN_X0 mK_X0_firstHeight (at_X0_o Hb1) rfl rfl rfl rfl hdd_X0_firstHeight ⟨(Nat.le_of_ble_eq_true rfl), (Nat.le_of_ble_eq_true rfl)⟩ rfl rfl (Nat.le_of_ble_eq_true rfl) ⟨(Nat.le_of_ble_eq_true rfl), (Nat.le_of_ble_eq_true rfl)⟩) (fun z11 hG => ?_)
      refine r_aload_n (pc := 44) X dX6_watchFlag_44 rfl rfl ?_
      refine r_cP (pc := 45) hG (fun _ hg => runV X dX6_watchFlag_45 (c_X0_fall Hb1 hg) mM_X6_65 mI_X0_fall mE_X0_fall mN_X0 mK_X0_fall (at_X0_o Hb1) rfl rfl rfl rfl hdd_X0_fall ⟨(Nat.le_of_ble_eq_true rfl), (Nat.le_of_ble_eq_true rfl)⟩ rfl rfl (Nat.le_of_ble_eq_true rfl) ⟨(Nat.le_of_ble_eq_true rfl), (Nat.le_of_ble_eq_true rfl)⟩) (fun z12 hG => ?_)
      refine r_isub (pc := 48) X dX6_watchFlag_48 hG (fun z13 hG => ?_)
      exact r_mask [false, false, false, false, false] rfl (Hj8 _ hG z13 rfl)
    · skip
      refine r_ldc (pc := 34) X dX6_watchFlag_34 mV_X6_60 hG (by decide) (fun z14 hG => ?_)
      refine r_goto (pc := 36) X dX6_watchFlag_36 (tgt := 49) (by decide) ?_
      exact r_mask [false, false, false, false, false] rfl (Hj8 _ hG z14 rfl)
  refine r_icmp_eq (pc := 17) X dX6_watchFlag_17 (tgt := 24) (by decide) hG (fun hG => ?_) (fun hG => ?_)
  · skip
    refine r_iconst (pc := 24) X dX6_watchFlag_24 hG rfl (fun z15 hG => ?_)
    exact r_mask [true, true, false, true, false] rfl (Hj5 _ hG z15 rfl)
  · skip
    refine r_iconst (pc := 20) X dX6_watchFlag_20 hG rfl (fun z16 hG => ?_)
    refine r_goto (pc := 21) X dX6_watchFlag_21 (tgt := 25) (by decide) ?_
    exact r_mask [true, true, false, true, false] rfl (Hj5 _ hG z16 rfl)
theorem c_X6_watchFlag {b0 : Nat} {b1 : Nat} {x2 : Int32} {r : Hp} (Hb0 : At_X6 shl b0) (Hb1 : At_X0 shl b1) (hg : g_X6_watchFlag b0 b1 x2.toInt h = some r) : Met l yX6_watchFlag (wsM yX6_watchFlag cX6_watchFlag 5 none) rm_X6_watchFlag (va_Pc [.ref (ad b0), .ref (ad b1), .int x2] (World E ad shl h)) (QcV E ad shl r) 0 0 (bsA E) :=
  met_of (L0 := [some (.ref (ad b0)), some (.ref (ad b1)), some (.int x2), none, none]) rfl rfl rfl (Nat.le_of_ble_eq_true rfl) (fun _ _ _ _ _ _ _ X => w_X6_watchFlag Hb0 Hb1 X rfl hg)
abbrev rm_X6_doWork : Room := { frames := 3, cells := 0, slots := 0, locals := 68 }
theorem hdd_X6_doWork : yX6_doWork.cls = RX6 ∧ yX6_doWork.cls ≠ "java/lang/invoke/MethodHandle" ∧ yX6_doWork.cls ≠ "java/lang/invoke/VarHandle" ∧ (parseMethodDescriptor yX6_doWork.desc).map (fun d => d.parameters.length) = some 2 := ⟨rfl, by decide +kernel, by decide +kernel, by decide +kernel⟩
set_option maxRecDepth 100000 in
set_option maxHeartbeats 4000000 in
theorem w_X6_doWork {b0 : Nat} {b1 : Nat} {x2 : Int32} {r : Hp} (Hb0 : At_X6 shl b0) (Hb1 : At_X0 shl b1) (X : Cx E p s m args meth c cX6_doWork RX6 6 none) (hQ : Q = MQ below (QcV E ad shl r) args s 0 0 (bsA E)) (hG : g_X6_doWork b0 b1 x2.toInt h = some r) : Ev E ad shl p l e rm_X6_doWork s m args below meth c 0 0 Q 6 h 0 [some (.ref (ad b0)), some (.ref (ad b1)), some (.int x2), none, none, none] [] := by
  unfold g_X6_doWork at hG
  refine r_aload_n (pc := 0) X dX6_doWork_0 rfl rfl ?_
  refine r_getC (pc := 1) X (at_X6_o Hb0) rfl mU_X6 (k := 2) (by decide) (q := (b0 + 10)) rfl mF_X6_22 dX6_doWork_1 ?_
  refine r_iconst (pc := 4) X dX6_doWork_4 hG rfl (fun z1 hG => ?_)
  refine r_iald (pc := 5) X (at_X6_watchedCells Hb0) dX6_doWork_5 hG (fun z2 hG => ?_)
  refine r_istore_n (pc := 6) (L' := [some (.ref (ad b0)), some (.ref (ad b1)), some (.int x2), some (.int z2), none, none]) X dX6_doWork_6 rfl (by decide) rfl rfl ?_
  refine r_iload_n (pc := 7) X dX6_doWork_7 rfl rfl ?_
  refine r_aload_n (pc := 8) X dX6_doWork_8 rfl rfl ?_
  refine r_cP (pc := 9) hG (fun _ hg => runV X dX6_doWork_9 (c_X0_columns Hb1 hg) mM_X6_87 mI_X0_columns mE_X0_columns mN_X0 mK_X0_columns (at_X0_o Hb1) rfl rfl rfl rfl hdd_X0_columns ⟨(Nat.le_of_ble_eq_true rfl), (Nat.le_of_ble_eq_true rfl)⟩ rfl rfl (Nat.le_of_ble_eq_true rfl) ⟨(Nat.le_of_ble_eq_true rfl), (Nat.le_of_ble_eq_true rfl)⟩) (fun z3 hG => ?_)
  refine r_isub (pc := 12) X dX6_doWork_12 hG (fun z4 hG => ?_)
  refine r_istore (pc := 13) (L' := [some (.ref (ad b0)), some (.ref (ad b1)), some (.int x2), some (.int z2), some (.int z4), none]) X dX6_doWork_13 (by decide) rfl rfl ?_
  refine r_iload_n (pc := 15) X dX6_doWork_15 rfl rfl ?_
  refine r_aload_n (pc := 16) X dX6_doWork_16 rfl rfl ?_
  refine r_cP (pc := 17) hG (fun _ hg => runV X dX6_doWork_17 (c_X0_columns Hb1 hg) mM_X6_87 mI_X0_columns mE_X0_columns mN_X0 mK_X0_columns (at_X0_o Hb1) rfl rfl rfl rfl hdd_X0_columns ⟨(Nat.le_of_ble_eq_true rfl), (Nat.le_of_ble_eq_true rfl)⟩ rfl rfl (Nat.le_of_ble_eq_true rfl) ⟨(Nat.le_of_ble_eq_true rfl), (Nat.le_of_ble_eq_true rfl)⟩) (fun z5 hG => ?_)
  refine r_iadd (pc := 20) X dX6_doWork_20 hG (fun z6 hG => ?_)
  refine r_istore (pc := 21) (L' := [some (.ref (ad b0)), some (.ref (ad b1)), some (.int x2), some (.int z2), some (.int z4), some (.int z6)]) X dX6_doWork_21 (by decide) rfl rfl ?_
  refine r_iload_n (pc := 23) X dX6_doWork_23 rfl rfl ?_
  refine r_iconst (pc := 24) X dX6_doWork_24 hG rfl (fun z7 hG => ?_)
  refine r_join hG (fun a8 => ∀ (h10 : Hp), a8 = h10 → Ev E ad shl p l e rm_X6_doWork s m args below meth c 0 0 Q 6 h10 113 [none, none, none, none, none, none] []) (fun a8 hG => ?_) (fun j9 Hj9 hG => ?_)
  · skip
    intro h10 ha; have ha := ha.symm; subst ha
    exact r_vret (pc := 113) X dX6_doWork_113 hQ hG
  refine r_icmp_ne (pc := 25) X dX6_doWork_25 (tgt := 41) (by decide) hG (fun hG => ?_) (fun hG => ?_)
  · skip
    refine r_iload_n (pc := 41) X dX6_doWork_41 rfl rfl ?_
    refine r_iconst (pc := 42) X dX6_doWork_42 hG rfl (fun z11 hG => ?_)
    refine r_join hG (fun _ => Ev E ad shl p l e rm_X6_doWork s m args below meth c 0 0 Q 6 h 69 [some (.ref (ad b0)), none, some (.int x2), some (.int z2), some (.int z4), none] []) (fun a12 hG => ?_) (fun j13 Hj13 hG => ?_)
    · skip
      refine r_iload_n (pc := 69) X dX6_doWork_69 rfl rfl ?_
      refine r_iconst (pc := 70) X dX6_doWork_70 hG rfl (fun z14 hG => ?_)
      refine r_join hG (fun _ => Ev E ad shl p l e rm_X6_doWork s m args below meth c 0 0 Q 6 h 93 [some (.ref (ad b0)), none, some (.int x2), none, some (.int z4), none] []) (fun a15 hG => ?_) (fun j16 Hj16 hG => ?_)
      · skip
        refine r_iload_n (pc := 93) X dX6_doWork_93 rfl rfl ?_
        refine r_if_ne (pc := 94) X dX6_doWork_94 (tgt := 113) (by decide) hG (fun hG => ?_) (fun hG => ?_)
        · skip
          exact r_mask [false, false, false, false, false, false] rfl (Hj9 _ hG h rfl)
        · skip
          refine r_iload (pc := 97) X dX6_doWork_97 rfl ?_
          refine r_if_lt (pc := 99) X dX6_doWork_99 (tgt := 113) (by decide) hG (fun hG => ?_) (fun hG => ?_)
          · skip
            exact r_mask [false, false, false, false, false, false] rfl (Hj9 _ hG h rfl)
          · skip
            refine r_aload_n (pc := 102) X dX6_doWork_102 rfl rfl ?_
            refine r_getC (pc := 103) X (at_X6_o Hb0) rfl mU_X6 (k := 0) (by decide) (q := (b0 + 1)) rfl mF_X6_12 dX6_doWork_103 ?_
            refine r_iconst (pc := 106) X dX6_doWork_106 hG rfl (fun z17 hG => ?_)
            refine r_iload (pc := 107) X dX6_doWork_107 rfl ?_
            refine r_iconst (pc := 109) X dX6_doWork_109 hG rfl (fun z18 hG => ?_)
            refine r_cV (pc := 110) hG (fun _ hg => runV X dX6_doWork_110 (c_X3_perform (at_X6_shore Hb0) hg) mM_X6_90 mI_X3_perform mE_X3_perform mN_X3 mK_X3_perform (at_X3_o (at_X6_shore Hb0)) rfl rfl rfl rfl hdd_X3_perform ⟨(Nat.le_of_ble_eq_true rfl), (Nat.le_of_ble_eq_true rfl)⟩ rfl rfl (Nat.le_of_ble_eq_true rfl) ⟨(Nat.le_of_ble_eq_true rfl), (Nat.le_of_ble_eq_true rfl)⟩) (fun h19 hG => ?_)
            exact r_mask [false, false, false, false, false, false] rfl (Hj9 _ hG h19 rfl)
      refine r_icmp_ne (pc := 71) X dX6_doWork_71 (tgt := 93) (by decide) hG (fun hG => ?_) (fun hG => ?_)
      · skip
        exact r_mask [true, false, true, false, true, false] rfl (Hj16 _ hG)
      · skip
        refine r_iload (pc := 74) X dX6_doWork_74 rfl ?_
        refine r_if_lt (pc := 76) X dX6_doWork_76 (tgt := 93) (by decide) hG (fun hG => ?_) (fun hG => ?_)
        · skip
          exact r_mask [true, false, true, false, true, false] rfl (Hj16 _ hG)
        · skip
          refine r_aload_n (pc := 79) X dX6_doWork_79 rfl rfl ?_
          refine r_getC (pc := 80) X (at_X6_o Hb0) rfl mU_X6 (k := 0) (by decide) (q := (b0 + 1)) rfl mF_X6_12 dX6_doWork_80 ?_
          refine r_iconst (pc := 83) X dX6_doWork_83 hG rfl (fun z20 hG => ?_)
          refine r_iload (pc := 84) X dX6_doWork_84 rfl ?_
          refine r_iload_n (pc := 86) X dX6_doWork_86 rfl rfl ?_
          refine r_cV (pc := 87) hG (fun _ hg => runV X dX6_doWork_87 (c_X3_perform (at_X6_shore Hb0) hg) mM_X6_90 mI_X3_perform mE_X3_perform mN_X3 mK_X3_perform (at_X3_o (at_X6_shore Hb0)) rfl rfl rfl rfl hdd_X3_perform ⟨(Nat.le_of_ble_eq_true rfl), (Nat.le_of_ble_eq_true rfl)⟩ rfl rfl (Nat.le_of_ble_eq_true rfl) ⟨(Nat.le_of_ble_eq_true rfl), (Nat.le_of_ble_eq_true rfl)⟩) (fun h21 hG => ?_)
          refine r_goto (pc := 90) X dX6_doWork_90 (tgt := 113) (by decide) ?_
          exact r_mask [false, false, false, false, false, false] rfl (Hj9 _ hG h21 rfl)
    refine r_icmp_ne (pc := 43) X dX6_doWork_43 (tgt := 69) (by decide) hG (fun hG => ?_) (fun hG => ?_)
    · skip
      exact r_mask [true, false, true, true, true, false] rfl (Hj13 _ hG)
    · skip
      refine r_iload (pc := 46) X dX6_doWork_46 rfl ?_
      refine r_aload_n (pc := 48) X dX6_doWork_48 rfl rfl ?_
      refine r_cP (pc := 49) hG (fun _ hg => runV X dX6_doWork_49 (c_X0_cells Hb1 hg) mM_X6_94 mI_X0_cells mE_X0_cells mN_X0 mK_X0_cells (at_X0_o Hb1) rfl rfl rfl rfl hdd_X0_cells ⟨(Nat.le_of_ble_eq_true rfl), (Nat.le_of_ble_eq_true rfl)⟩ rfl rfl (Nat.le_of_ble_eq_true rfl) ⟨(Nat.le_of_ble_eq_true rfl), (Nat.le_of_ble_eq_true rfl)⟩) (fun z22 hG => ?_)
      refine r_icmp_ge (pc := 52) X dX6_doWork_52 (tgt := 69) (by decide) hG (fun hG => ?_) (fun hG => ?_)
      · skip
        exact r_mask [true, false, true, true, true, false] rfl (Hj13 _ hG)
      · skip
        refine r_aload_n (pc := 55) X dX6_doWork_55 rfl rfl ?_
        refine r_getC (pc := 56) X (at_X6_o Hb0) rfl mU_X6 (k := 0) (by decide) (q := (b0 + 1)) rfl mF_X6_12 dX6_doWork_56 ?_
        refine r_iconst (pc := 59) X dX6_doWork_59 hG rfl (fun z23 hG => ?_)
        refine r_iload (pc := 60) X dX6_doWork_60 rfl ?_
        refine r_iload_n (pc := 62) X dX6_doWork_62 rfl rfl ?_
        refine r_cV (pc := 63) hG (fun _ hg => runV X dX6_doWork_63 (c_X3_perform (at_X6_shore Hb0) hg) mM_X6_90 mI_X3_perform mE_X3_perform mN_X3 mK_X3_perform (at_X3_o (at_X6_shore Hb0)) rfl rfl rfl rfl hdd_X3_perform ⟨(Nat.le_of_ble_eq_true rfl), (Nat.le_of_ble_eq_true rfl)⟩ rfl rfl (Nat.le_of_ble_eq_true rfl) ⟨(Nat.le_of_ble_eq_true rfl), (Nat.le_of_ble_eq_true rfl)⟩) (fun h24 hG => ?_)
        refine r_goto (pc := 66) X dX6_doWork_66 (tgt := 113) (by decide) ?_
        exact r_mask [false, false, false, false, false, false] rfl (Hj9 _ hG h24 rfl)
  · skip
    refine r_aload_n (pc := 28) X dX6_doWork_28 rfl rfl ?_
    refine r_getC (pc := 29) X (at_X6_o Hb0) rfl mU_X6 (k := 0) (by decide) (q := (b0 + 1)) rfl mF_X6_12 dX6_doWork_29 ?_
    refine r_iconst (pc := 32) X dX6_doWork_32 hG rfl (fun z25 hG => ?_)
    refine r_iload_n (pc := 33) X dX6_doWork_33 rfl rfl ?_
    refine r_iconst (pc := 34) X dX6_doWork_34 hG rfl (fun z26 hG => ?_)
    refine r_cV (pc := 35) hG (fun _ hg => runV X dX6_doWork_35 (c_X3_perform (at_X6_shore Hb0) hg) mM_X6_90 mI_X3_perform mE_X3_perform mN_X3 mK_X3_perform (at_X3_o (at_X6_shore Hb0)) rfl rfl rfl rfl hdd_X3_perform ⟨(Nat.le_of_ble_eq_true rfl), (Nat.le_of_ble_eq_true rfl)⟩ rfl rfl (Nat.le_of_ble_eq_true rfl) ⟨(Nat.le_of_ble_eq_true rfl), (Nat.le_of_ble_eq_true rfl)⟩) (fun h27 hG => ?_)
    refine r_goto (pc := 38) X dX6_doWork_38 (tgt := 113) (by decide) ?_
    exact r_mask [false, false, false, false, false, false] rfl (Hj9 _ hG h27 rfl)
theorem c_X6_doWork {b0 : Nat} {b1 : Nat} {x2 : Int32} {r : Hp} (Hb0 : At_X6 shl b0) (Hb1 : At_X0 shl b1) (hg : g_X6_doWork b0 b1 x2.toInt h = some r) : Met l yX6_doWork (wsM yX6_doWork cX6_doWork 6 none) rm_X6_doWork (va_Pc [.ref (ad b0), .ref (ad b1), .int x2] (World E ad shl h)) (QcV E ad shl r) 0 0 (bsA E) :=
  met_of (L0 := [some (.ref (ad b0)), some (.ref (ad b1)), some (.int x2), none, none, none]) rfl rfl rfl (Nat.le_of_ble_eq_true rfl) (fun _ _ _ _ _ _ _ X => w_X6_doWork Hb0 Hb1 X rfl hg)
abbrev rm_X6_lookAtFlags : Room := { frames := 0, cells := 0, slots := 0, locals := 0 }
theorem hdd_X6_lookAtFlags : yX6_lookAtFlags.cls = RX6 ∧ yX6_lookAtFlags.cls ≠ "java/lang/invoke/MethodHandle" ∧ yX6_lookAtFlags.cls ≠ "java/lang/invoke/VarHandle" ∧ (parseMethodDescriptor yX6_lookAtFlags.desc).map (fun d => d.parameters.length) = some 1 := ⟨rfl, by decide +kernel, by decide +kernel, by decide +kernel⟩
set_option maxRecDepth 100000 in
set_option maxHeartbeats 4000000 in
theorem w_X6_lookAtFlags {b0 : Nat} {x1 : Int32} {r : Hp} (Hb0 : At_X6 shl b0) (X : Cx E p s m args meth c cX6_lookAtFlags RX6 3 none) (hQ : Q = MQ below (QcV E ad shl r) args s 0 0 (bsA E)) (hG : g_X6_lookAtFlags b0 x1.toInt h = some r) : Ev E ad shl p l e rm_X6_lookAtFlags s m args below meth c 0 0 Q 3 h 0 [some (.ref (ad b0)), some (.int x1), none] [] := by
  unfold g_X6_lookAtFlags at hG
  refine r_iconst (pc := 0) X dX6_lookAtFlags_0 hG rfl (fun z1 hG => ?_)
  refine r_istore_n (pc := 1) (L' := [some (.ref (ad b0)), some (.int x1), some (.int z1)]) X dX6_lookAtFlags_1 rfl (by decide) rfl rfl ?_
  refine r_mask [true, true, true] rfl (r_loop (fun q2 => ∀ (y4 : Int32) (h5 : Hp), q2 = (y4.toInt, h5) → Ev E ad shl p l e rm_X6_lookAtFlags s m args below meth c 0 0 Q 3 h5 2 [some (.ref (ad b0)), some (.int x1), some (.int y4)] []) (fun l3 Hl3 q2 hG => ?_) FU _ hG z1 h rfl)
  intro y4 h5 ha; have ha := ha.symm; subst ha
  unfold g_X6_lookAtFlags_l3 at hG
  refine r_iload_n (pc := 2) X dX6_lookAtFlags_2 rfl rfl ?_
  refine r_aload_n (pc := 3) X dX6_lookAtFlags_3 rfl rfl ?_
  refine r_getI (pc := 4) X (at_X6_o Hb0) rfl mU_X6 (k := 5) (by decide) rfl mF_X6_49 dX6_lookAtFlags_4 hG (fun z6 hG => ?_)
  refine r_icmp_ge (pc := 7) X dX6_lookAtFlags_7 (tgt := 66) (by decide) hG (fun hG => ?_) (fun hG => ?_)
  · skip
    exact r_vret (pc := 66) X dX6_lookAtFlags_66 hQ hG
  · skip
    refine r_aload_n (pc := 10) X dX6_lookAtFlags_10 rfl rfl ?_
    refine r_getC (pc := 11) X (at_X6_o Hb0) rfl mU_X6 (k := 1) (by decide) (q := (b0 + 9)) rfl mF_X6_18 dX6_lookAtFlags_11 ?_
    refine r_iload_n (pc := 14) X dX6_lookAtFlags_14 rfl rfl ?_
    refine r_iald (pc := 15) X (at_X6_lasts Hb0) dX6_lookAtFlags_15 hG (fun z7 hG => ?_)
    refine r_iconst (pc := 16) X dX6_lookAtFlags_16 hG rfl (fun z8 hG => ?_)
    refine r_join hG (fun a9 => ∀ (h11 : Hp), a9 = h11 → Ev E ad shl p l e rm_X6_lookAtFlags s m args below meth c 0 0 Q 3 h11 60 [some (.ref (ad b0)), some (.int x1), some (.int y4)] []) (fun a9 hG => ?_) (fun j10 Hj10 hG => ?_)
    · skip
      intro h11 ha; have ha := ha.symm; subst ha
      refine r_iinc (pc := 60) (L' := fun z12 => [some (.ref (ad b0)), some (.int x1), some (.int z12)]) X dX6_lookAtFlags_60 (by decide) rfl rfl (by decide) (fun _ => rfl) hG (fun z12 hG => ?_)
      refine r_goto (pc := 63) X dX6_lookAtFlags_63 (tgt := 2) (by decide) ?_
      exact r_mask [true, true, true] rfl (Hl3 _ hG z12 h11 rfl)
    refine r_icmp_ne (pc := 17) X dX6_lookAtFlags_17 (tgt := 60) (by decide) hG (fun hG => ?_) (fun hG => ?_)
    · skip
      exact r_mask [true, true, true] rfl (Hj10 _ hG h5 rfl)
    · skip
      refine r_aload_n (pc := 20) X dX6_lookAtFlags_20 rfl rfl ?_
      refine r_getC (pc := 21) X (at_X6_o Hb0) rfl mU_X6 (k := 0) (by decide) (q := (b0 + 1)) rfl mF_X6_12 dX6_lookAtFlags_21 ?_
      refine r_getC (pc := 24) X (at_X3_o (at_X6_shore Hb0)) rfl mU_X3 (k := 0) (by decide) (q := (b0 + 2)) rfl mF_X6_97 dX6_lookAtFlags_24 ?_
      refine r_aload_n (pc := 27) X dX6_lookAtFlags_27 rfl rfl ?_
      refine r_getC (pc := 28) X (at_X6_o Hb0) rfl mU_X6 (k := 2) (by decide) (q := (b0 + 10)) rfl mF_X6_22 dX6_lookAtFlags_28 ?_
      refine r_iload_n (pc := 31) X dX6_lookAtFlags_31 rfl rfl ?_
      refine r_iald (pc := 32) X (at_X6_watchedCells Hb0) dX6_lookAtFlags_32 hG (fun z13 hG => ?_)
      refine r_iald (pc := 33) X (at_X3_height (at_X6_shore Hb0)) dX6_lookAtFlags_33 hG (fun z14 hG => ?_)
      refine r_aload_n (pc := 34) X dX6_lookAtFlags_34 rfl rfl ?_
      refine r_getC (pc := 35) X (at_X6_o Hb0) rfl mU_X6 (k := 3) (by decide) (q := (b0 + 11)) rfl mF_X6_25 dX6_lookAtFlags_35 ?_
      refine r_iload_n (pc := 38) X dX6_lookAtFlags_38 rfl rfl ?_
      refine r_iald (pc := 39) X (at_X6_floors Hb0) dX6_lookAtFlags_39 hG (fun z15 hG => ?_)
      refine r_icmp_ge (pc := 40) X dX6_lookAtFlags_40 (tgt := 60) (by decide) hG (fun hG => ?_) (fun hG => ?_)
      · skip
        exact r_mask [true, true, true] rfl (Hj10 _ hG h5 rfl)
      · skip
        refine r_aload_n (pc := 43) X dX6_lookAtFlags_43 rfl rfl ?_
        refine r_getC (pc := 44) X (at_X6_o Hb0) rfl mU_X6 (k := 1) (by decide) (q := (b0 + 9)) rfl mF_X6_18 dX6_lookAtFlags_44 ?_
        refine r_iload_n (pc := 47) X dX6_lookAtFlags_47 rfl rfl ?_
        refine r_iload_n (pc := 48) X dX6_lookAtFlags_48 rfl rfl ?_
        refine r_iast (pc := 49) X (at_X6_lasts Hb0) dX6_lookAtFlags_49 hG (fun h16 hG => ?_)
        refine r_aload_n (pc := 50) X dX6_lookAtFlags_50 rfl rfl ?_
        refine r_dup (pc := 51) X dX6_lookAtFlags_51 rfl ?_
        refine r_getI (pc := 52) X (at_X6_o Hb0) rfl mU_X6 (k := 6) (by decide) rfl mF_X6_73 dX6_lookAtFlags_52 hG (fun z17 hG => ?_)
        refine r_iconst (pc := 55) X dX6_lookAtFlags_55 hG rfl (fun z18 hG => ?_)
        refine r_isub (pc := 56) X dX6_lookAtFlags_56 hG (fun z19 hG => ?_)
        refine r_putI (pc := 57) X (at_X6_o Hb0) rfl mU_X6 (k := 6) (by decide) rfl rfl rfl mF_X6_73 dX6_lookAtFlags_57 hG (fun h20 hG => ?_)
        exact r_mask [true, true, true] rfl (Hj10 _ hG h20 rfl)
theorem c_X6_lookAtFlags {b0 : Nat} {x1 : Int32} {r : Hp} (Hb0 : At_X6 shl b0) (hg : g_X6_lookAtFlags b0 x1.toInt h = some r) : Met l yX6_lookAtFlags (wsM yX6_lookAtFlags cX6_lookAtFlags 3 none) rm_X6_lookAtFlags (va_Pc [.ref (ad b0), .int x1] (World E ad shl h)) (QcV E ad shl r) 0 0 (bsA E) :=
  met_of (L0 := [some (.ref (ad b0)), some (.int x1), none]) rfl rfl rfl (Nat.le_of_ble_eq_true rfl) (fun _ _ _ _ _ _ _ X => w_X6_lookAtFlags Hb0 X rfl hg)
abbrev rm_X6_run : Room := { frames := 5, cells := 0, slots := 0, locals := 124 }
theorem hdd_X6_run : yX6_run.cls = RX6 ∧ yX6_run.cls ≠ "java/lang/invoke/MethodHandle" ∧ yX6_run.cls ≠ "java/lang/invoke/VarHandle" ∧ (parseMethodDescriptor yX6_run.desc).map (fun d => d.parameters.length) = some 4 := ⟨rfl, by decide +kernel, by decide +kernel, by decide +kernel⟩
set_option maxRecDepth 100000 in
set_option maxHeartbeats 4000000 in
theorem w_X6_run {b0 : Nat} {b1 : Nat} {b2 : Nat} {n3 : Int} {x4 : Int32} {r : Hp} (Hb0 : At_X6 shl b0) (Hb1 : At_X0 shl b1) (Hb2 : At_X2 shl b2) (Hn3 : 0 ≤ n3 → At_X1 shl n3.toNat) (X : Cx E p s m args meth c cX6_run RX6 6 none) (hQ : Q = MQ below (QcV E ad shl r) args s 0 0 (bsA E)) (hG : g_X6_run b0 b1 b2 n3 x4.toInt h = some r) : Ev E ad shl p l e rm_X6_run s m args below meth c 0 0 Q 6 h 0 [some (.ref (ad b0)), some (.ref (ad b1)), some (.ref (ad b2)), some (npv ad n3), some (.int x4), none] [] := by
  unfold g_X6_run at hG
  refine r_aload_n (pc := 0) X dX6_run_0 rfl rfl ?_
  refine r_aload_n (pc := 1) X dX6_run_1 rfl rfl ?_
  refine r_getI (pc := 2) X (at_X6_o Hb0) rfl mU_X6 (k := 5) (by decide) rfl mF_X6_49 dX6_run_2 hG (fun z1 hG => ?_)
  refine r_putI (pc := 5) X (at_X6_o Hb0) rfl mU_X6 (k := 6) (by decide) rfl rfl rfl mF_X6_73 dX6_run_5 hG (fun h2 hG => ?_)
  refine r_iconst (pc := 8) X dX6_run_8 hG rfl (fun z3 hG => ?_)
  refine r_istore (pc := 9) (L' := [some (.ref (ad b0)), some (.ref (ad b1)), some (.ref (ad b2)), some (npv ad n3), some (.int x4), some (.int z3)]) X dX6_run_9 (by decide) rfl rfl ?_
  refine r_join hG (fun a4 => ∀ (h6 : Hp), a4 = h6 → Ev E ad shl p l e rm_X6_run s m args below meth c 0 0 Q 6 h6 34 [some (.ref (ad b0)), some (.ref (ad b1)), some (.ref (ad b2)), some (npv ad n3), some (.int x4), none] []) (fun a4 hG => ?_) (fun j5 Hj5 hG => ?_)
  · skip
    intro h6 ha; have ha := ha.symm; subst ha
    refine r_iconst (pc := 34) X dX6_run_34 hG rfl (fun z7 hG => ?_)
    refine r_istore (pc := 35) (L' := [some (.ref (ad b0)), some (.ref (ad b1)), some (.ref (ad b2)), some (npv ad n3), some (.int x4), some (.int z7)]) X dX6_run_35 (by decide) rfl rfl ?_
    refine r_join hG (fun a8 => ∀ (h10 : Hp), a8 = h10 → Ev E ad shl p l e rm_X6_run s m args below meth c 0 0 Q 6 h10 110 [some (.ref (ad b0)), none, none, none, some (.int x4), none] []) (fun a8 hG => ?_) (fun j9 Hj9 hG => ?_)
    · skip
      intro h10 ha; have ha := ha.symm; subst ha
      refine r_iconst (pc := 110) X dX6_run_110 hG rfl (fun z11 hG => ?_)
      refine r_istore (pc := 111) (L' := [some (.ref (ad b0)), none, none, none, some (.int x4), some (.int z11)]) X dX6_run_111 (by decide) rfl rfl ?_
      refine r_mask [true, false, false, false, true, true] rfl (r_loop (fun q12 => ∀ (y14 : Int32) (h15 : Hp), q12 = (y14.toInt, h15) → Ev E ad shl p l e rm_X6_run s m args below meth c 0 0 Q 6 h15 113 [some (.ref (ad b0)), none, none, none, some (.int x4), some (.int y14)] []) (fun l13 Hl13 q12 hG => ?_) FU _ hG z11 h10 rfl)
      intro y14 h15 ha; have ha := ha.symm; subst ha
      unfold g_X6_run_l13 at hG
      refine r_iload (pc := 113) X dX6_run_113 rfl ?_
      refine r_aload_n (pc := 115) X dX6_run_115 rfl rfl ?_
      refine r_getI (pc := 116) X (at_X6_o Hb0) rfl mU_X6 (k := 5) (by decide) rfl mF_X6_49 dX6_run_116 hG (fun z16 hG => ?_)
      refine r_icmp_ge (pc := 119) X dX6_run_119 (tgt := 148) (by decide) hG (fun hG => ?_) (fun hG => ?_)
      · skip
        exact r_vret (pc := 148) X dX6_run_148 hQ hG
      · skip
        refine r_aload_n (pc := 122) X dX6_run_122 rfl rfl ?_
        refine r_getC (pc := 123) X (at_X6_o Hb0) rfl mU_X6 (k := 1) (by decide) (q := (b0 + 9)) rfl mF_X6_18 dX6_run_123 ?_
        refine r_iload (pc := 126) X dX6_run_126 rfl ?_
        refine r_iald (pc := 128) X (at_X6_lasts Hb0) dX6_run_128 hG (fun z17 hG => ?_)
        refine r_iconst (pc := 129) X dX6_run_129 hG rfl (fun z18 hG => ?_)
        refine r_join hG (fun a19 => ∀ (h21 : Hp), a19 = h21 → Ev E ad shl p l e rm_X6_run s m args below meth c 0 0 Q 6 h21 142 [some (.ref (ad b0)), none, none, none, some (.int x4), some (.int y14)] []) (fun a19 hG => ?_) (fun j20 Hj20 hG => ?_)
        · skip
          intro h21 ha; have ha := ha.symm; subst ha
          refine r_iinc (pc := 142) (L' := fun z22 => [some (.ref (ad b0)), none, none, none, some (.int x4), some (.int z22)]) X dX6_run_142 (by decide) rfl rfl (by decide) (fun _ => rfl) hG (fun z22 hG => ?_)
          refine r_goto (pc := 145) X dX6_run_145 (tgt := 113) (by decide) ?_
          exact r_mask [true, false, false, false, true, true] rfl (Hl13 _ hG z22 h21 rfl)
        refine r_icmp_ne (pc := 130) X dX6_run_130 (tgt := 142) (by decide) hG (fun hG => ?_) (fun hG => ?_)
        · skip
          exact r_mask [true, false, false, false, true, true] rfl (Hj20 _ hG h15 rfl)
        · skip
          refine r_aload_n (pc := 133) X dX6_run_133 rfl rfl ?_
          refine r_getC (pc := 134) X (at_X6_o Hb0) rfl mU_X6 (k := 1) (by decide) (q := (b0 + 9)) rfl mF_X6_18 dX6_run_134 ?_
          refine r_iload (pc := 137) X dX6_run_137 rfl ?_
          refine r_iload (pc := 139) X dX6_run_139 rfl ?_
          refine r_iast (pc := 141) X (at_X6_lasts Hb0) dX6_run_141 hG (fun h23 hG => ?_)
          exact r_mask [true, false, false, false, true, true] rfl (Hj20 _ hG h23 rfl)
    refine r_mask [true, true, true, true, true, true] rfl (r_loop (fun q24 => ∀ (y26 : Int32) (h27 : Hp), q24 = (y26.toInt, h27) → Ev E ad shl p l e rm_X6_run s m args below meth c 0 0 Q 6 h27 37 [some (.ref (ad b0)), some (.ref (ad b1)), some (.ref (ad b2)), some (npv ad n3), some (.int x4), some (.int y26)] []) (fun l25 Hl25 q24 hG => ?_) FU _ hG z7 h6 rfl)
    intro y26 h27 ha; have ha := ha.symm; subst ha
    unfold g_X6_run_l25 at hG
    refine r_iload (pc := 37) X dX6_run_37 rfl ?_
    refine r_iload (pc := 39) X dX6_run_39 rfl ?_
    refine r_icmp_ge (pc := 41) X dX6_run_41 (tgt := 110) (by decide) hG (fun hG => ?_) (fun hG => ?_)
    · skip
      exact r_mask [true, false, false, false, true, false] rfl (Hj9 _ hG h27 rfl)
    · skip
      refine r_aload_n (pc := 44) X dX6_run_44 rfl rfl ?_
      refine r_getI (pc := 45) X (at_X6_o Hb0) rfl mU_X6 (k := 5) (by decide) rfl mF_X6_49 dX6_run_45 hG (fun z28 hG => ?_)
      refine r_join hG (fun _ => Ev E ad shl p l e rm_X6_run s m args below meth c 0 0 Q 6 h27 58 [some (.ref (ad b0)), some (.ref (ad b1)), some (.ref (ad b2)), some (npv ad n3), some (.int x4), some (.int y26)] []) (fun a29 hG => ?_) (fun j30 Hj30 hG => ?_)
      · skip
        refine r_iload (pc := 58) X dX6_run_58 rfl ?_
        refine r_bipush (pc := 60) X dX6_run_60 hG (by decide) (fun z31 hG => ?_)
        refine r_join hG (fun a32 => ∀ (h34 : Hp), a32 = h34 → Ev E ad shl p l e rm_X6_run s m args below meth c 0 0 Q 6 h34 88 [some (.ref (ad b0)), some (.ref (ad b1)), some (.ref (ad b2)), some (npv ad n3), some (.int x4), some (.int y26)] []) (fun a32 hG => ?_) (fun j33 Hj33 hG => ?_)
        · skip
          intro h34 ha; have ha := ha.symm; subst ha
          refine r_aload_n (pc := 88) X dX6_run_88 rfl rfl ?_
          refine r_getC (pc := 89) X (at_X6_o Hb0) rfl mU_X6 (k := 0) (by decide) (q := (b0 + 1)) rfl mF_X6_12 dX6_run_89 ?_
          refine r_aload_n (pc := 92) X dX6_run_92 rfl rfl ?_
          refine r_aload_n (pc := 93) X dX6_run_93 rfl rfl ?_
          refine r_aloadV_n (pc := 94) X dX6_run_94 rfl rfl ?_
          refine r_cV (pc := 95) hG (fun _ hg => runV X dX6_run_95 (c_X3_live (at_X6_shore Hb0) Hb1 Hb2 Hn3 hg) mM_X6_80 mI_X3_live mE_X3_live mN_X3 mK_X3_live (at_X3_o (at_X6_shore Hb0)) rfl rfl rfl rfl hdd_X3_live ⟨(Nat.le_of_ble_eq_true rfl), (Nat.le_of_ble_eq_true rfl)⟩ rfl rfl (Nat.le_of_ble_eq_true rfl) ⟨(Nat.le_of_ble_eq_true rfl), (Nat.le_of_ble_eq_true rfl)⟩) (fun h35 hG => ?_)
          refine r_aload_n (pc := 98) X dX6_run_98 rfl rfl ?_
          refine r_iload (pc := 99) X dX6_run_99 rfl ?_
          refine r_cV (pc := 101) hG (fun _ hg => runV X dX6_run_101 (c_X6_lookAtFlags Hb0 hg) mM_X6_84 mI_X6_lookAtFlags mE_X6_lookAtFlags mN_X6 mK_X6_lookAtFlags (at_X6_o Hb0) rfl rfl rfl rfl hdd_X6_lookAtFlags ⟨(Nat.le_of_ble_eq_true rfl), (Nat.le_of_ble_eq_true rfl)⟩ rfl rfl (Nat.le_of_ble_eq_true rfl) ⟨(Nat.le_of_ble_eq_true rfl), (Nat.le_of_ble_eq_true rfl)⟩) (fun h36 hG => ?_)
          refine r_iinc (pc := 104) (L' := fun z37 => [some (.ref (ad b0)), some (.ref (ad b1)), some (.ref (ad b2)), some (npv ad n3), some (.int x4), some (.int z37)]) X dX6_run_104 (by decide) rfl rfl (by decide) (fun _ => rfl) hG (fun z37 hG => ?_)
          refine r_goto (pc := 107) X dX6_run_107 (tgt := 37) (by decide) ?_
          exact r_mask [true, true, true, true, true, true] rfl (Hl25 _ hG z37 h36 rfl)
        refine r_icmp_ge (pc := 62) X dX6_run_62 (tgt := 88) (by decide) hG (fun hG => ?_) (fun hG => ?_)
        · skip
          exact r_mask [true, true, true, true, true, true] rfl (Hj33 _ hG h27 rfl)
        · skip
          refine r_aload_n (pc := 65) X dX6_run_65 rfl rfl ?_
          refine r_getC (pc := 66) X (at_X6_o Hb0) rfl mU_X6 (k := 4) (by decide) (q := (b0 + 12)) rfl mF_X6_28 dX6_run_66 ?_
          refine r_iload (pc := 69) X dX6_run_69 rfl ?_
          refine r_iald (pc := 71) X (at_X6_works Hb0) dX6_run_71 hG (fun z38 hG => ?_)
          refine r_iconst (pc := 72) X dX6_run_72 hG rfl (fun z39 hG => ?_)
          refine r_icmp_eq (pc := 73) X dX6_run_73 (tgt := 88) (by decide) hG (fun hG => ?_) (fun hG => ?_)
          · skip
            exact r_mask [true, true, true, true, true, true] rfl (Hj33 _ hG h27 rfl)
          · skip
            refine r_aload_n (pc := 76) X dX6_run_76 rfl rfl ?_
            refine r_aload_n (pc := 77) X dX6_run_77 rfl rfl ?_
            refine r_aload_n (pc := 78) X dX6_run_78 rfl rfl ?_
            refine r_getC (pc := 79) X (at_X6_o Hb0) rfl mU_X6 (k := 4) (by decide) (q := (b0 + 12)) rfl mF_X6_28 dX6_run_79 ?_
            refine r_iload (pc := 82) X dX6_run_82 rfl ?_
            refine r_iald (pc := 84) X (at_X6_works Hb0) dX6_run_84 hG (fun z40 hG => ?_)
            refine r_cV (pc := 85) hG (fun _ hg => runV X dX6_run_85 (c_X6_doWork Hb0 Hb1 hg) mM_X6_76 mI_X6_doWork mE_X6_doWork mN_X6 mK_X6_doWork (at_X6_o Hb0) rfl rfl rfl rfl hdd_X6_doWork ⟨(Nat.le_of_ble_eq_true rfl), (Nat.le_of_ble_eq_true rfl)⟩ rfl rfl (Nat.le_of_ble_eq_true rfl) ⟨(Nat.le_of_ble_eq_true rfl), (Nat.le_of_ble_eq_true rfl)⟩) (fun h41 hG => ?_)
            exact r_mask [true, true, true, true, true, true] rfl (Hj33 _ hG h41 rfl)
      refine r_if_eq (pc := 48) X dX6_run_48 (tgt := 58) (by decide) hG (fun hG => ?_) (fun hG => ?_)
      · skip
        exact r_mask [true, true, true, true, true, true] rfl (Hj30 _ hG)
      · skip
        refine r_aload_n (pc := 51) X dX6_run_51 rfl rfl ?_
        refine r_getI (pc := 52) X (at_X6_o Hb0) rfl mU_X6 (k := 6) (by decide) rfl mF_X6_73 dX6_run_52 hG (fun z42 hG => ?_)
        refine r_if_le (pc := 55) X dX6_run_55 (tgt := 110) (by decide) hG (fun hG => ?_) (fun hG => ?_)
        · skip
          exact r_mask [true, false, false, false, true, false] rfl (Hj9 _ hG h27 rfl)
        · skip
          exact r_mask [true, true, true, true, true, true] rfl (Hj30 _ hG)
  refine r_mask [true, true, true, true, true, true] rfl (r_loop (fun q43 => ∀ (y45 : Int32) (h46 : Hp), q43 = (y45.toInt, h46) → Ev E ad shl p l e rm_X6_run s m args below meth c 0 0 Q 6 h46 11 [some (.ref (ad b0)), some (.ref (ad b1)), some (.ref (ad b2)), some (npv ad n3), some (.int x4), some (.int y45)] []) (fun l44 Hl44 q43 hG => ?_) FU _ hG z3 h2 rfl)
  intro y45 h46 ha; have ha := ha.symm; subst ha
  unfold g_X6_run_l44 at hG
  refine r_iload (pc := 11) X dX6_run_11 rfl ?_
  refine r_aload_n (pc := 13) X dX6_run_13 rfl rfl ?_
  refine r_getI (pc := 14) X (at_X6_o Hb0) rfl mU_X6 (k := 5) (by decide) rfl mF_X6_49 dX6_run_14 hG (fun z47 hG => ?_)
  refine r_icmp_ge (pc := 17) X dX6_run_17 (tgt := 34) (by decide) hG (fun hG => ?_) (fun hG => ?_)
  · skip
    exact r_mask [true, true, true, true, true, false] rfl (Hj5 _ hG h46 rfl)
  · skip
    refine r_aload_n (pc := 20) X dX6_run_20 rfl rfl ?_
    refine r_getC (pc := 21) X (at_X6_o Hb0) rfl mU_X6 (k := 1) (by decide) (q := (b0 + 9)) rfl mF_X6_18 dX6_run_21 ?_
    refine r_iload (pc := 24) X dX6_run_24 rfl ?_
    refine r_iconst (pc := 26) X dX6_run_26 hG rfl (fun z48 hG => ?_)
    refine r_iast (pc := 27) X (at_X6_lasts Hb0) dX6_run_27 hG (fun h49 hG => ?_)
    refine r_iinc (pc := 28) (L' := fun z50 => [some (.ref (ad b0)), some (.ref (ad b1)), some (.ref (ad b2)), some (npv ad n3), some (.int x4), some (.int z50)]) X dX6_run_28 (by decide) rfl rfl (by decide) (fun _ => rfl) hG (fun z50 hG => ?_)
    refine r_goto (pc := 31) X dX6_run_31 (tgt := 11) (by decide) ?_
    exact r_mask [true, true, true, true, true, true] rfl (Hl44 _ hG z50 h49 rfl)
theorem c_X6_run {b0 : Nat} {b1 : Nat} {b2 : Nat} {n3 : Int} {x4 : Int32} {r : Hp} (Hb0 : At_X6 shl b0) (Hb1 : At_X0 shl b1) (Hb2 : At_X2 shl b2) (Hn3 : 0 ≤ n3 → At_X1 shl n3.toNat) (hg : g_X6_run b0 b1 b2 n3 x4.toInt h = some r) : Met l yX6_run (wsM yX6_run cX6_run 6 none) rm_X6_run (va_Pc [.ref (ad b0), .ref (ad b1), .ref (ad b2), npv ad n3, .int x4] (World E ad shl h)) (QcV E ad shl r) 0 0 (bsA E) :=
  met_of (L0 := [some (.ref (ad b0)), some (.ref (ad b1)), some (.ref (ad b2)), some (npv ad n3), some (.int x4), none]) rfl rfl (by simp only [lvp, lv_args, npv_cat, cat_int, cat_ref]; rfl) (by simp only [lg_sl, List.flatMap_cons, List.flatMap_nil, npv_cat, cat_int, cat_ref]; exact Nat.le_of_ble_eq_true rfl) (fun _ _ _ _ _ _ _ X => w_X6_run Hb0 Hb1 Hb2 Hn3 X rfl hg)
end WALKS
