section WALKS
variable {E : EnvT} {ad : Nat → Nat} {shl : List Shp} {p : Program} {l : Launch} {e : Env} {s : State} {m : MethodId} {args : Array Value} {below : List Frame} {meth : Method} {c : Code} {Q : State → Prop} {h : Hp}
abbrev rm_X2_isEndOfSpan : Room := { frames := 0, cells := 0, slots := 0, locals := 0 }
theorem hdd_X2_isEndOfSpan : yX2_isEndOfSpan.cls ≠ "java/lang/invoke/MethodHandle" ∧ yX2_isEndOfSpan.cls ≠ "java/lang/invoke/VarHandle" ∧ (parseMethodDescriptor yX2_isEndOfSpan.desc).map (fun d => d.parameters.length) = some 1 := ⟨by decide +kernel, by decide +kernel, by decide +kernel⟩
set_option maxRecDepth 100000 in
set_option maxHeartbeats 4000000 in
theorem w_X2_isEndOfSpan {x1 : Int32} {r : Int}  (X : Cx E p s m args meth c cX2_isEndOfSpan RX2 1 (some .boolean)) (hQ : Q = MQ below (QcI E ad shl r h) args s 0 0 (bsA E)) (hG : g_X2_isEndOfSpan x1.toInt = some r) : Ev E ad shl p l e rm_X2_isEndOfSpan s m args below meth c 0 0 Q 1 h 0 [some (.int x1)] [] := by
  unfold g_X2_isEndOfSpan at hG
  refine r_iload_n (pc := 0) X dX2_isEndOfSpan_0 rfl rfl ?_
  refine r_iconst (pc := 1) X dX2_isEndOfSpan_1 hG rfl (fun z1 hG => ?_)
  refine r_join hG (fun a2 => ∀ (y4 : Int32), a2 = y4.toInt → Ev E ad shl p l e rm_X2_isEndOfSpan s m args below meth c 0 0 Q 1 h 21 [none] [.int y4]) (fun a2 hG => ?_) (fun j3 Hj3 hG => ?_)
  · skip
    intro y4 ha; have ha := ha.symm; subst ha
    exact r_zretP (pc := 21) X dX2_isEndOfSpan_21 hQ hG
  refine r_join hG (fun _ => Ev E ad shl p l e rm_X2_isEndOfSpan s m args below meth c 0 0 Q 1 h 16 [none] []) (fun a5 hG => ?_) (fun j6 Hj6 hG => ?_)
  · skip
    refine r_iconst (pc := 16) X dX2_isEndOfSpan_16 hG rfl (fun z7 hG => ?_)
    refine r_goto (pc := 17) X dX2_isEndOfSpan_17 (tgt := 21) (by decide) ?_
    exact r_mask [false] rfl (Hj3 _ hG z7 rfl)
  refine r_icmp_eq (pc := 2) X dX2_isEndOfSpan_2 (tgt := 16) (by decide) hG (fun hG => ?_) (fun hG => ?_)
  · skip
    exact r_mask [false] rfl (Hj6 _ hG)
  · skip
    refine r_iload_n (pc := 5) X dX2_isEndOfSpan_5 rfl rfl ?_
    refine r_iconst (pc := 6) X dX2_isEndOfSpan_6 hG rfl (fun z8 hG => ?_)
    refine r_icmp_eq (pc := 7) X dX2_isEndOfSpan_7 (tgt := 16) (by decide) hG (fun hG => ?_) (fun hG => ?_)
    · skip
      exact r_mask [false] rfl (Hj6 _ hG)
    · skip
      refine r_iload_n (pc := 10) X dX2_isEndOfSpan_10 rfl rfl ?_
      refine r_bipush (pc := 11) X dX2_isEndOfSpan_11 hG (by decide) (fun z9 hG => ?_)
      refine r_icmp_ne (pc := 13) X dX2_isEndOfSpan_13 (tgt := 20) (by decide) hG (fun hG => ?_) (fun hG => ?_)
      · skip
        refine r_iconst (pc := 20) X dX2_isEndOfSpan_20 hG rfl (fun z10 hG => ?_)
        exact r_mask [false] rfl (Hj3 _ hG z10 rfl)
      · skip
        exact r_mask [false] rfl (Hj6 _ hG)
theorem c_X2_isEndOfSpan {x1 : Int32} {r : Int}  (hg : g_X2_isEndOfSpan x1.toInt = some r) : Met l yX2_isEndOfSpan (wsM yX2_isEndOfSpan cX2_isEndOfSpan 1 (some .boolean)) rm_X2_isEndOfSpan (va_Pc [.int x1] (World E ad shl h)) (QcI E ad shl r h) 0 0 (bsA E) :=
  met_of (L0 := [some (.int x1)]) rfl rfl rfl (Nat.le_of_ble_eq_true rfl) (fun _ _ _ _ _ _ _ X => w_X2_isEndOfSpan  X rfl hg)
abbrev rm_X2_readNumbers : Room := { frames := 3, cells := 0, slots := 0, locals := 62 }
theorem hdd_X2_readNumbers : yX2_readNumbers.cls = RX2 ∧ yX2_readNumbers.cls ≠ "java/lang/invoke/MethodHandle" ∧ yX2_readNumbers.cls ≠ "java/lang/invoke/VarHandle" ∧ (parseMethodDescriptor yX2_readNumbers.desc).map (fun d => d.parameters.length) = some 3 := ⟨rfl, by decide +kernel, by decide +kernel, by decide +kernel⟩
set_option maxRecDepth 100000 in
set_option maxHeartbeats 4000000 in
theorem w_X2_readNumbers {b0 : Nat} {b1 : Nat} {x2 : Int32} {x3 : Int32} {r : Hp} (Hb0 : At_X2 shl b0) (Hb1 : At_X5 shl b1) (X : Cx E p s m args meth c cX2_readNumbers RX2 7 none) (hQ : Q = MQ below (QcV E ad shl r) args s 0 0 (bsA E)) (hG : g_X2_readNumbers b0 b1 x2.toInt x3.toInt h = some r) : Ev E ad shl p l e rm_X2_readNumbers s m args below meth c 0 0 Q 7 h 0 [some (.ref (ad b0)), some (.ref (ad b1)), some (.int x2), some (.int x3), none, none, none] [] := by
  unfold g_X2_readNumbers at hG
  refine r_aload_n (pc := 0) X dX2_readNumbers_0 rfl rfl ?_
  refine r_getI (pc := 1) X (at_X2_o Hb0) rfl mU_X2 (k := 6) (by decide) rfl mF_X2_56 dX2_readNumbers_1 hG (fun z1 hG => ?_)
  refine r_iload_n (pc := 4) X dX2_readNumbers_4 rfl rfl ?_
  refine r_ishr (pc := 5) X dX2_readNumbers_5 hG (fun z2 hG => ?_)
  refine r_iconst (pc := 6) X dX2_readNumbers_6 hG rfl (fun z3 hG => ?_)
  refine r_iand (pc := 7) X dX2_readNumbers_7 hG (fun z4 hG => ?_)
  refine r_join hG (fun a5 => ∀ (h7 : Hp), a5 = h7 → Ev E ad shl p l e rm_X2_readNumbers s m args below meth c 0 0 Q 7 h7 16 [some (.ref (ad b0)), some (.ref (ad b1)), some (.int x2), some (.int x3), none, none, none] []) (fun a5 hG => ?_) (fun j6 Hj6 hG => ?_)
  · skip
    intro h7 ha; have ha := ha.symm; subst ha
    refine r_aload_n (pc := 16) X dX2_readNumbers_16 rfl rfl ?_
    refine r_dup (pc := 17) X dX2_readNumbers_17 rfl ?_
    refine r_getI (pc := 18) X (at_X2_o Hb0) rfl mU_X2 (k := 6) (by decide) rfl mF_X2_56 dX2_readNumbers_18 hG (fun z8 hG => ?_)
    refine r_iconst (pc := 21) X dX2_readNumbers_21 hG rfl (fun z9 hG => ?_)
    refine r_iload_n (pc := 22) X dX2_readNumbers_22 rfl rfl ?_
    refine r_ishl (pc := 23) X dX2_readNumbers_23 hG (fun z10 hG => ?_)
    refine r_ior (pc := 24) X dX2_readNumbers_24 hG (fun z11 hG => ?_)
    refine r_putI (pc := 25) X (at_X2_o Hb0) rfl mU_X2 (k := 6) (by decide) rfl rfl rfl mF_X2_56 dX2_readNumbers_25 hG (fun h12 hG => ?_)
    refine r_bipush (pc := 28) X dX2_readNumbers_28 hG (by decide) (fun z13 hG => ?_)
    refine r_iload_n (pc := 30) X dX2_readNumbers_30 rfl rfl ?_
    refine r_iload_n (pc := 31) X dX2_readNumbers_31 rfl rfl ?_
    refine r_iadd (pc := 32) X dX2_readNumbers_32 hG (fun z14 hG => ?_)
    refine r_mmin (pc := 33) X dX2_readNumbers_33 mM_X2_94 (Nat.le_of_ble_eq_true rfl) (Nat.le_of_ble_eq_true rfl) (Nat.le_of_ble_eq_true rfl) (Nat.le_of_ble_eq_true rfl) hG (fun z15 hG => ?_)
    refine r_istore (pc := 36) (L' := [some (.ref (ad b0)), some (.ref (ad b1)), some (.int x2), some (.int x3), some (.int z15), none, none]) X dX2_readNumbers_36 (by decide) rfl rfl ?_
    refine r_iload_n (pc := 38) X dX2_readNumbers_38 rfl rfl ?_
    refine r_istore (pc := 39) (L' := [some (.ref (ad b0)), some (.ref (ad b1)), some (.int x2), some (.int x3), some (.int z15), some (.int x2), none]) X dX2_readNumbers_39 (by decide) rfl rfl ?_
    refine r_mask [true, true, false, false, true, true, false] rfl (r_loop (fun q16 => ∀ (y18 : Int32) (h19 : Hp), q16 = (y18.toInt, h19) → Ev E ad shl p l e rm_X2_readNumbers s m args below meth c 0 0 Q 7 h19 41 [some (.ref (ad b0)), some (.ref (ad b1)), none, none, some (.int z15), some (.int y18), none] []) (fun l17 Hl17 q16 hG => ?_) FU _ hG x2 h12 rfl)
    intro y18 h19 ha; have ha := ha.symm; subst ha
    unfold g_X2_readNumbers_l17 at hG
    refine r_iload (pc := 41) X dX2_readNumbers_41 rfl ?_
    refine r_iload (pc := 43) X dX2_readNumbers_43 rfl ?_
    refine r_icmp_ge (pc := 45) X dX2_readNumbers_45 (tgt := 101) (by decide) hG (fun hG => ?_) (fun hG => ?_)
    · skip
      exact r_vret (pc := 101) X dX2_readNumbers_101 hQ hG
    · skip
      refine r_iload (pc := 48) X dX2_readNumbers_48 rfl ?_
      refine r_cP (pc := 50) hG (fun _ hg => runS X dX2_readNumbers_50 (c_X2_isEndOfSpan  hg) mM_X2_99 mS_X2_isEndOfSpan mN_X2 mK_X2_isEndOfSpan rfl rfl hdd_X2_isEndOfSpan ⟨(Nat.le_of_ble_eq_true rfl), (Nat.le_of_ble_eq_true rfl)⟩ rfl rfl (Nat.le_of_ble_eq_true rfl) ⟨(Nat.le_of_ble_eq_true rfl), (Nat.le_of_ble_eq_true rfl)⟩) (fun z20 hG => ?_)
      refine r_join hG (fun a21 => ∀ (y23 : Int32), a21 = y23.toInt → Ev E ad shl p l e rm_X2_readNumbers s m args below meth c 0 0 Q 7 h19 74 [some (.ref (ad b0)), some (.ref (ad b1)), none, none, some (.int z15), some (.int y18), none] [.int y23]) (fun a21 hG => ?_) (fun j22 Hj22 hG => ?_)
      · skip
        intro y23 ha; have ha := ha.symm; subst ha
        refine r_istore (pc := 74) (L' := [some (.ref (ad b0)), some (.ref (ad b1)), none, none, some (.int z15), some (.int y18), some (.int y23)]) X dX2_readNumbers_74 (by decide) rfl rfl ?_
        refine r_aload_n (pc := 76) X dX2_readNumbers_76 rfl rfl ?_
        refine r_getC (pc := 77) X (at_X2_o Hb0) rfl mU_X2 (k := 0) (by decide) (q := (b0 + 1)) rfl mF_X2_11 dX2_readNumbers_77 ?_
        refine r_iload (pc := 80) X dX2_readNumbers_80 rfl ?_
        refine r_aload_n (pc := 82) X dX2_readNumbers_82 rfl rfl ?_
        refine r_iload (pc := 83) X dX2_readNumbers_83 rfl ?_
        refine r_gets (pc := 85) X (k := 4) rfl mF_X2_91 dX2_readNumbers_85 ?_
        refine r_iload (pc := 88) X dX2_readNumbers_88 rfl ?_
        refine r_tab (pc := 90) X (k := 4) rfl (tabR (k := 4) rfl) dX2_readNumbers_90 hG (fun z24 hG => ?_)
        refine r_cW (pc := 91) hG (fun _ hg => runV X dX2_readNumbers_91 (c_X5_need Hb1 hg) mM_X2_84 mI_X5_need mE_X5_need mN_X5 mK_X5_need (at_X5_o Hb1) rfl rfl rfl rfl hdd_X5_need ⟨(Nat.le_of_ble_eq_true rfl), (Nat.le_of_ble_eq_true rfl)⟩ rfl rfl (Nat.le_of_ble_eq_true rfl) ⟨(Nat.le_of_ble_eq_true rfl), (Nat.le_of_ble_eq_true rfl)⟩) (fun z25 h26 hG => ?_)
        refine r_iast (pc := 94) X (at_X2_numbers Hb0) dX2_readNumbers_94 hG (fun h27 hG => ?_)
        refine r_iinc (pc := 95) (L' := fun z28 => [some (.ref (ad b0)), some (.ref (ad b1)), none, none, some (.int z15), some (.int z28), some (.int y23)]) X dX2_readNumbers_95 (by decide) rfl rfl (by decide) (fun _ => rfl) hG (fun z28 hG => ?_)
        refine r_goto (pc := 98) X dX2_readNumbers_98 (tgt := 41) (by decide) ?_
        exact r_mask [true, true, false, false, true, true, false] rfl (Hl17 _ hG z28 h27 rfl)
      refine r_if_eq (pc := 53) X dX2_readNumbers_53 (tgt := 68) (by decide) hG (fun hG => ?_) (fun hG => ?_)
      · skip
        refine r_gets (pc := 68) X (k := 3) rfl mF_X2_88 dX2_readNumbers_68 ?_
        refine r_iload (pc := 71) X dX2_readNumbers_71 rfl ?_
        refine r_tab (pc := 73) X (k := 3) rfl (tabR (k := 3) rfl) dX2_readNumbers_73 hG (fun z29 hG => ?_)
        exact r_mask [true, true, false, false, true, true, false] rfl (Hj22 _ hG z29 rfl)
      · skip
        refine r_aload_n (pc := 56) X dX2_readNumbers_56 rfl rfl ?_
        refine r_getC (pc := 57) X (at_X2_o Hb0) rfl mU_X2 (k := 0) (by decide) (q := (b0 + 1)) rfl mF_X2_11 dX2_readNumbers_57 ?_
        refine r_iload (pc := 60) X dX2_readNumbers_60 rfl ?_
        refine r_iconst (pc := 62) X dX2_readNumbers_62 hG rfl (fun z30 hG => ?_)
        refine r_isub (pc := 63) X dX2_readNumbers_63 hG (fun z31 hG => ?_)
        refine r_iald (pc := 64) X (at_X2_numbers Hb0) dX2_readNumbers_64 hG (fun z32 hG => ?_)
        refine r_goto (pc := 65) X dX2_readNumbers_65 (tgt := 74) (by decide) ?_
        exact r_mask [true, true, false, false, true, true, false] rfl (Hj22 _ hG z32 rfl)
  refine r_if_eq (pc := 8) X dX2_readNumbers_8 (tgt := 16) (by decide) hG (fun hG => ?_) (fun hG => ?_)
  · skip
    exact r_mask [true, true, true, true, false, false, false] rfl (Hj6 _ hG h rfl)
  · skip
    refine r_aload_n (pc := 11) X dX2_readNumbers_11 rfl rfl ?_
    refine r_iconst (pc := 12) X dX2_readNumbers_12 hG rfl (fun z33 hG => ?_)
    refine r_cV (pc := 13) hG (fun _ hg => runV X dX2_readNumbers_13 (c_X5_refuse Hb1 hg) mM_X2_80 mI_X5_refuse mE_X5_refuse mN_X5 mK_X5_refuse (at_X5_o Hb1) rfl rfl rfl rfl hdd_X5_refuse ⟨(Nat.le_of_ble_eq_true rfl), (Nat.le_of_ble_eq_true rfl)⟩ rfl rfl (Nat.le_of_ble_eq_true rfl) ⟨(Nat.le_of_ble_eq_true rfl), (Nat.le_of_ble_eq_true rfl)⟩) (fun h34 hG => ?_)
    exact r_mask [true, true, true, true, false, false, false] rfl (Hj6 _ hG h34 rfl)
theorem c_X2_readNumbers {b0 : Nat} {b1 : Nat} {x2 : Int32} {x3 : Int32} {r : Hp} (Hb0 : At_X2 shl b0) (Hb1 : At_X5 shl b1) (hg : g_X2_readNumbers b0 b1 x2.toInt x3.toInt h = some r) : Met l yX2_readNumbers (wsM yX2_readNumbers cX2_readNumbers 7 none) rm_X2_readNumbers (va_Pc [.ref (ad b0), .ref (ad b1), .int x2, .int x3] (World E ad shl h)) (QcV E ad shl r) 0 0 (bsA E) :=
  met_of (L0 := [some (.ref (ad b0)), some (.ref (ad b1)), some (.int x2), some (.int x3), none, none, none]) rfl rfl rfl (Nat.le_of_ble_eq_true rfl) (fun _ _ _ _ _ _ _ X => w_X2_readNumbers Hb0 Hb1 X rfl hg)
abbrev rm_X2_readClause : Room := { frames := 5, cells := 0, slots := 0, locals := 107 }
theorem hdd_X2_readClause : yX2_readClause.cls = RX2 ∧ yX2_readClause.cls ≠ "java/lang/invoke/MethodHandle" ∧ yX2_readClause.cls ≠ "java/lang/invoke/VarHandle" ∧ (parseMethodDescriptor yX2_readClause.desc).map (fun d => d.parameters.length) = some 1 := ⟨rfl, by decide +kernel, by decide +kernel, by decide +kernel⟩
set_option maxRecDepth 100000 in
set_option maxHeartbeats 4000000 in
theorem w_X2_readClause {b0 : Nat} {b1 : Nat} {r : Hp} (Hb0 : At_X2 shl b0) (Hb1 : At_X5 shl b1) (X : Cx E p s m args meth c cX2_readClause RX2 2 none) (hQ : Q = MQ below (QcV E ad shl r) args s 0 0 (bsA E)) (hG : g_X2_readClause b0 b1 h = some r) : Ev E ad shl p l e rm_X2_readClause s m args below meth c 0 0 Q 2 h 0 [some (.ref (ad b0)), some (.ref (ad b1))] [] := by
  unfold g_X2_readClause at hG
  refine r_aload_n (pc := 0) X dX2_readClause_0 rfl rfl ?_
  refine r_ldcS (pc := 1) (k := 11) X rfl rfl rfl dX2_readClause_1 ?_
  refine r_cP (pc := 3) hG (fun _ hg => runV X dX2_readClause_3 (c_X5_isWord Hb1 rfl hg) mM_X2_61 mI_X5_isWord mE_X5_isWord mN_X5 mK_X5_isWord (at_X5_o Hb1) rfl rfl rfl rfl hdd_X5_isWord ⟨(Nat.le_of_ble_eq_true rfl), (Nat.le_of_ble_eq_true rfl)⟩ rfl rfl (Nat.le_of_ble_eq_true rfl) ⟨(Nat.le_of_ble_eq_true rfl), (Nat.le_of_ble_eq_true rfl)⟩) (fun z1 hG => ?_)
  refine r_join hG (fun a2 => ∀ (h4 : Hp), a2 = h4 → Ev E ad shl p l e rm_X2_readClause s m args below meth c 0 0 Q 2 h4 100 [none, none] []) (fun a2 hG => ?_) (fun j3 Hj3 hG => ?_)
  · skip
    intro h4 ha; have ha := ha.symm; subst ha
    exact r_vret (pc := 100) X dX2_readClause_100 hQ hG
  refine r_if_eq (pc := 6) X dX2_readClause_6 (tgt := 17) (by decide) hG (fun hG => ?_) (fun hG => ?_)
  · skip
    refine r_aload_n (pc := 17) X dX2_readClause_17 rfl rfl ?_
    refine r_ldcS (pc := 18) (k := 12) X rfl rfl rfl dX2_readClause_18 ?_
    refine r_cP (pc := 20) hG (fun _ hg => runV X dX2_readClause_20 (c_X5_isWord Hb1 rfl hg) mM_X2_61 mI_X5_isWord mE_X5_isWord mN_X5 mK_X5_isWord (at_X5_o Hb1) rfl rfl rfl rfl hdd_X5_isWord ⟨(Nat.le_of_ble_eq_true rfl), (Nat.le_of_ble_eq_true rfl)⟩ rfl rfl (Nat.le_of_ble_eq_true rfl) ⟨(Nat.le_of_ble_eq_true rfl), (Nat.le_of_ble_eq_true rfl)⟩) (fun z5 hG => ?_)
    refine r_if_eq (pc := 23) X dX2_readClause_23 (tgt := 36) (by decide) hG (fun hG => ?_) (fun hG => ?_)
    · skip
      refine r_aload_n (pc := 36) X dX2_readClause_36 rfl rfl ?_
      refine r_ldcS (pc := 37) (k := 13) X rfl rfl rfl dX2_readClause_37 ?_
      refine r_cP (pc := 39) hG (fun _ hg => runV X dX2_readClause_39 (c_X5_isWord Hb1 rfl hg) mM_X2_61 mI_X5_isWord mE_X5_isWord mN_X5 mK_X5_isWord (at_X5_o Hb1) rfl rfl rfl rfl hdd_X5_isWord ⟨(Nat.le_of_ble_eq_true rfl), (Nat.le_of_ble_eq_true rfl)⟩ rfl rfl (Nat.le_of_ble_eq_true rfl) ⟨(Nat.le_of_ble_eq_true rfl), (Nat.le_of_ble_eq_true rfl)⟩) (fun z6 hG => ?_)
      refine r_if_eq (pc := 42) X dX2_readClause_42 (tgt := 55) (by decide) hG (fun hG => ?_) (fun hG => ?_)
      · skip
        refine r_aload_n (pc := 55) X dX2_readClause_55 rfl rfl ?_
        refine r_ldcS (pc := 56) (k := 14) X rfl rfl rfl dX2_readClause_56 ?_
        refine r_cP (pc := 58) hG (fun _ hg => runV X dX2_readClause_58 (c_X5_isWord Hb1 rfl hg) mM_X2_61 mI_X5_isWord mE_X5_isWord mN_X5 mK_X5_isWord (at_X5_o Hb1) rfl rfl rfl rfl hdd_X5_isWord ⟨(Nat.le_of_ble_eq_true rfl), (Nat.le_of_ble_eq_true rfl)⟩ rfl rfl (Nat.le_of_ble_eq_true rfl) ⟨(Nat.le_of_ble_eq_true rfl), (Nat.le_of_ble_eq_true rfl)⟩) (fun z7 hG => ?_)
        refine r_if_eq (pc := 61) X dX2_readClause_61 (tgt := 75) (by decide) hG (fun hG => ?_) (fun hG => ?_)
        · skip
          refine r_aload_n (pc := 75) X dX2_readClause_75 rfl rfl ?_
          refine r_ldcS (pc := 76) (k := 15) X rfl rfl rfl dX2_readClause_76 ?_
          refine r_cP (pc := 78) hG (fun _ hg => runV X dX2_readClause_78 (c_X5_isWord Hb1 rfl hg) mM_X2_61 mI_X5_isWord mE_X5_isWord mN_X5 mK_X5_isWord (at_X5_o Hb1) rfl rfl rfl rfl hdd_X5_isWord ⟨(Nat.le_of_ble_eq_true rfl), (Nat.le_of_ble_eq_true rfl)⟩ rfl rfl (Nat.le_of_ble_eq_true rfl) ⟨(Nat.le_of_ble_eq_true rfl), (Nat.le_of_ble_eq_true rfl)⟩) (fun z8 hG => ?_)
          refine r_if_eq (pc := 81) X dX2_readClause_81 (tgt := 95) (by decide) hG (fun hG => ?_) (fun hG => ?_)
          · skip
            refine r_aload_n (pc := 95) X dX2_readClause_95 rfl rfl ?_
            refine r_iconst (pc := 96) X dX2_readClause_96 hG rfl (fun z9 hG => ?_)
            refine r_cV (pc := 97) hG (fun _ hg => runV X dX2_readClause_97 (c_X5_refuse Hb1 hg) mM_X2_80 mI_X5_refuse mE_X5_refuse mN_X5 mK_X5_refuse (at_X5_o Hb1) rfl rfl rfl rfl hdd_X5_refuse ⟨(Nat.le_of_ble_eq_true rfl), (Nat.le_of_ble_eq_true rfl)⟩ rfl rfl (Nat.le_of_ble_eq_true rfl) ⟨(Nat.le_of_ble_eq_true rfl), (Nat.le_of_ble_eq_true rfl)⟩) (fun h10 hG => ?_)
            exact r_mask [false, false] rfl (Hj3 _ hG h10 rfl)
          · skip
            refine r_aload_n (pc := 84) X dX2_readClause_84 rfl rfl ?_
            refine r_aload_n (pc := 85) X dX2_readClause_85 rfl rfl ?_
            refine r_bipush (pc := 86) X dX2_readClause_86 hG (by decide) (fun z11 hG => ?_)
            refine r_iconst (pc := 88) X dX2_readClause_88 hG rfl (fun z12 hG => ?_)
            refine r_cV (pc := 89) hG (fun _ hg => runV X dX2_readClause_89 (c_X2_readNumbers Hb0 Hb1 hg) mM_X2_70 mI_X2_readNumbers mE_X2_readNumbers mN_X2 mK_X2_readNumbers (at_X2_o Hb0) rfl rfl rfl rfl hdd_X2_readNumbers ⟨(Nat.le_of_ble_eq_true rfl), (Nat.le_of_ble_eq_true rfl)⟩ rfl rfl (Nat.le_of_ble_eq_true rfl) ⟨(Nat.le_of_ble_eq_true rfl), (Nat.le_of_ble_eq_true rfl)⟩) (fun h13 hG => ?_)
            refine r_goto (pc := 92) X dX2_readClause_92 (tgt := 100) (by decide) ?_
            exact r_mask [false, false] rfl (Hj3 _ hG h13 rfl)
        · skip
          refine r_aload_n (pc := 64) X dX2_readClause_64 rfl rfl ?_
          refine r_aload_n (pc := 65) X dX2_readClause_65 rfl rfl ?_
          refine r_bipush (pc := 66) X dX2_readClause_66 hG (by decide) (fun z14 hG => ?_)
          refine r_iconst (pc := 68) X dX2_readClause_68 hG rfl (fun z15 hG => ?_)
          refine r_cV (pc := 69) hG (fun _ hg => runV X dX2_readClause_69 (c_X2_readNumbers Hb0 Hb1 hg) mM_X2_70 mI_X2_readNumbers mE_X2_readNumbers mN_X2 mK_X2_readNumbers (at_X2_o Hb0) rfl rfl rfl rfl hdd_X2_readNumbers ⟨(Nat.le_of_ble_eq_true rfl), (Nat.le_of_ble_eq_true rfl)⟩ rfl rfl (Nat.le_of_ble_eq_true rfl) ⟨(Nat.le_of_ble_eq_true rfl), (Nat.le_of_ble_eq_true rfl)⟩) (fun h16 hG => ?_)
          refine r_goto (pc := 72) X dX2_readClause_72 (tgt := 100) (by decide) ?_
          exact r_mask [false, false] rfl (Hj3 _ hG h16 rfl)
      · skip
        refine r_aload_n (pc := 45) X dX2_readClause_45 rfl rfl ?_
        refine r_aload_n (pc := 46) X dX2_readClause_46 rfl rfl ?_
        refine r_iconst (pc := 47) X dX2_readClause_47 hG rfl (fun z17 hG => ?_)
        refine r_iconst (pc := 48) X dX2_readClause_48 hG rfl (fun z18 hG => ?_)
        refine r_cV (pc := 49) hG (fun _ hg => runV X dX2_readClause_49 (c_X2_readNumbers Hb0 Hb1 hg) mM_X2_70 mI_X2_readNumbers mE_X2_readNumbers mN_X2 mK_X2_readNumbers (at_X2_o Hb0) rfl rfl rfl rfl hdd_X2_readNumbers ⟨(Nat.le_of_ble_eq_true rfl), (Nat.le_of_ble_eq_true rfl)⟩ rfl rfl (Nat.le_of_ble_eq_true rfl) ⟨(Nat.le_of_ble_eq_true rfl), (Nat.le_of_ble_eq_true rfl)⟩) (fun h19 hG => ?_)
        refine r_goto (pc := 52) X dX2_readClause_52 (tgt := 100) (by decide) ?_
        exact r_mask [false, false] rfl (Hj3 _ hG h19 rfl)
    · skip
      refine r_aload_n (pc := 26) X dX2_readClause_26 rfl rfl ?_
      refine r_aload_n (pc := 27) X dX2_readClause_27 rfl rfl ?_
      refine r_iconst (pc := 28) X dX2_readClause_28 hG rfl (fun z20 hG => ?_)
      refine r_iconst (pc := 29) X dX2_readClause_29 hG rfl (fun z21 hG => ?_)
      refine r_cV (pc := 30) hG (fun _ hg => runV X dX2_readClause_30 (c_X2_readNumbers Hb0 Hb1 hg) mM_X2_70 mI_X2_readNumbers mE_X2_readNumbers mN_X2 mK_X2_readNumbers (at_X2_o Hb0) rfl rfl rfl rfl hdd_X2_readNumbers ⟨(Nat.le_of_ble_eq_true rfl), (Nat.le_of_ble_eq_true rfl)⟩ rfl rfl (Nat.le_of_ble_eq_true rfl) ⟨(Nat.le_of_ble_eq_true rfl), (Nat.le_of_ble_eq_true rfl)⟩) (fun h22 hG => ?_)
      refine r_goto (pc := 33) X dX2_readClause_33 (tgt := 100) (by decide) ?_
      exact r_mask [false, false] rfl (Hj3 _ hG h22 rfl)
  · skip
    refine r_aload_n (pc := 9) X dX2_readClause_9 rfl rfl ?_
    refine r_aload_n (pc := 10) X dX2_readClause_10 rfl rfl ?_
    refine r_cV (pc := 11) hG (fun _ hg => runV X dX2_readClause_11 (c_X2_readWave Hb0 Hb1 hg) mM_X2_65 mI_X2_readWave mE_X2_readWave mN_X2 mK_X2_readWave (at_X2_o Hb0) rfl rfl rfl rfl hdd_X2_readWave ⟨(Nat.le_of_ble_eq_true rfl), (Nat.le_of_ble_eq_true rfl)⟩ rfl rfl (Nat.le_of_ble_eq_true rfl) ⟨(Nat.le_of_ble_eq_true rfl), (Nat.le_of_ble_eq_true rfl)⟩) (fun h23 hG => ?_)
    refine r_goto (pc := 14) X dX2_readClause_14 (tgt := 100) (by decide) ?_
    exact r_mask [false, false] rfl (Hj3 _ hG h23 rfl)
theorem c_X2_readClause {b0 : Nat} {b1 : Nat} {r : Hp} (Hb0 : At_X2 shl b0) (Hb1 : At_X5 shl b1) (hg : g_X2_readClause b0 b1 h = some r) : Met l yX2_readClause (wsM yX2_readClause cX2_readClause 2 none) rm_X2_readClause (va_Pc [.ref (ad b0), .ref (ad b1)] (World E ad shl h)) (QcV E ad shl r) 0 0 (bsA E) :=
  met_of (L0 := [some (.ref (ad b0)), some (.ref (ad b1))]) rfl rfl rfl (Nat.le_of_ble_eq_true rfl) (fun _ _ _ _ _ _ _ X => w_X2_readClause Hb0 Hb1 X rfl hg)
abbrev rm_X2_readFrom : Room := { frames := 6, cells := 0, slots := 0, locals := 128 }
theorem hdd_X2_readFrom : yX2_readFrom.cls = RX2 ∧ yX2_readFrom.cls ≠ "java/lang/invoke/MethodHandle" ∧ yX2_readFrom.cls ≠ "java/lang/invoke/VarHandle" ∧ (parseMethodDescriptor yX2_readFrom.desc).map (fun d => d.parameters.length) = some 1 := ⟨rfl, by decide +kernel, by decide +kernel, by decide +kernel⟩
set_option maxRecDepth 100000 in
set_option maxHeartbeats 4000000 in
theorem w_X2_readFrom {b0 : Nat} {b1 : Nat} {r : Hp} (Hb0 : At_X2 shl b0) (Hb1 : At_X5 shl b1) (X : Cx E p s m args meth c cX2_readFrom RX2 3 none) (hQ : Q = MQ below (QcV E ad shl r) args s 0 0 (bsA E)) (hG : g_X2_readFrom b0 b1 h = some r) : Ev E ad shl p l e rm_X2_readFrom s m args below meth c 0 0 Q 3 h 0 [some (.ref (ad b0)), some (.ref (ad b1)), none] [] := by
  unfold g_X2_readFrom at hG
  refine r_aload_n (pc := 0) X dX2_readFrom_0 rfl rfl ?_
  refine r_cV (pc := 1) hG (fun _ hg => runV X dX2_readFrom_1 (c_X2_clear Hb0 hg) mM_X2_24 mI_X2_clear mE_X2_clear mN_X2 mK_X2_clear (at_X2_o Hb0) rfl rfl rfl rfl hdd_X2_clear ⟨(Nat.le_of_ble_eq_true rfl), (Nat.le_of_ble_eq_true rfl)⟩ rfl rfl (Nat.le_of_ble_eq_true rfl) ⟨(Nat.le_of_ble_eq_true rfl), (Nat.le_of_ble_eq_true rfl)⟩) (fun h1 hG => ?_)
  refine r_iconst (pc := 4) X dX2_readFrom_4 hG rfl (fun z2 hG => ?_)
  refine r_istore_n (pc := 5) (L' := [some (.ref (ad b0)), some (.ref (ad b1)), some (.int z2)]) X dX2_readFrom_5 rfl (by decide) rfl rfl ?_
  refine r_join hG (fun a3 => ∀ (h5 : Hp), a3 = h5 → Ev E ad shl p l e rm_X2_readFrom s m args below meth c 0 0 Q 3 h5 45 [none, none, none] []) (fun a3 hG => ?_) (fun j4 Hj4 hG => ?_)
  · skip
    intro h5 ha; have ha := ha.symm; subst ha
    exact r_vret (pc := 45) X dX2_readFrom_45 hQ hG
  refine r_mask [true, true, true] rfl (r_loop (fun q6 => ∀ (y8 : Int32) (h9 : Hp), q6 = (y8.toInt, h9) → Ev E ad shl p l e rm_X2_readFrom s m args below meth c 0 0 Q 3 h9 6 [some (.ref (ad b0)), some (.ref (ad b1)), some (.int y8)] []) (fun l7 Hl7 q6 hG => ?_) FU _ hG z2 h1 rfl)
  intro y8 h9 ha; have ha := ha.symm; subst ha
  unfold g_X2_readFrom_l7 at hG
  refine r_iload_n (pc := 6) X dX2_readFrom_6 rfl rfl ?_
  refine r_sipush (pc := 7) X dX2_readFrom_7 hG (by decide) (fun z10 hG => ?_)
  refine r_icmp_ge (pc := 10) X dX2_readFrom_10 (tgt := 45) (by decide) hG (fun hG => ?_) (fun hG => ?_)
  · skip
    exact r_mask [false, false, false] rfl (Hj4 _ hG h9 rfl)
  · skip
    refine r_aload_n (pc := 13) X dX2_readFrom_13 rfl rfl ?_
    refine r_cW (pc := 14) hG (fun _ hg => runV X dX2_readFrom_14 (c_X5_hasClause Hb1 hg) mM_X2_29 mI_X5_hasClause mE_X5_hasClause mN_X5 mK_X5_hasClause (at_X5_o Hb1) rfl rfl rfl rfl hdd_X5_hasClause ⟨(Nat.le_of_ble_eq_true rfl), (Nat.le_of_ble_eq_true rfl)⟩ rfl rfl (Nat.le_of_ble_eq_true rfl) ⟨(Nat.le_of_ble_eq_true rfl), (Nat.le_of_ble_eq_true rfl)⟩) (fun z11 h12 hG => ?_)
    refine r_if_eq (pc := 17) X dX2_readFrom_17 (tgt := 45) (by decide) hG (fun hG => ?_) (fun hG => ?_)
    · skip
      exact r_mask [false, false, false] rfl (Hj4 _ hG h12 rfl)
    · skip
      refine r_aload_n (pc := 20) X dX2_readFrom_20 rfl rfl ?_
      refine r_aload_n (pc := 21) X dX2_readFrom_21 rfl rfl ?_
      refine r_cV (pc := 22) hG (fun _ hg => runV X dX2_readFrom_22 (c_X2_readClause Hb0 Hb1 hg) mM_X2_33 mI_X2_readClause mE_X2_readClause mN_X2 mK_X2_readClause (at_X2_o Hb0) rfl rfl rfl rfl hdd_X2_readClause ⟨(Nat.le_of_ble_eq_true rfl), (Nat.le_of_ble_eq_true rfl)⟩ rfl rfl (Nat.le_of_ble_eq_true rfl) ⟨(Nat.le_of_ble_eq_true rfl), (Nat.le_of_ble_eq_true rfl)⟩) (fun h13 hG => ?_)
      refine r_aload_n (pc := 25) X dX2_readFrom_25 rfl rfl ?_
      refine r_cV (pc := 26) hG (fun _ hg => runV X dX2_readFrom_26 (c_X5_endClause Hb1 hg) mM_X2_37 mI_X5_endClause mE_X5_endClause mN_X5 mK_X5_endClause (at_X5_o Hb1) rfl rfl rfl rfl hdd_X5_endClause ⟨(Nat.le_of_ble_eq_true rfl), (Nat.le_of_ble_eq_true rfl)⟩ rfl rfl (Nat.le_of_ble_eq_true rfl) ⟨(Nat.le_of_ble_eq_true rfl), (Nat.le_of_ble_eq_true rfl)⟩) (fun h14 hG => ?_)
      refine r_aload_n (pc := 29) X dX2_readFrom_29 rfl rfl ?_
      refine r_dup (pc := 30) X dX2_readFrom_30 rfl ?_
      refine r_getI (pc := 31) X (at_X2_o Hb0) rfl mU_X2 (k := 5) (by decide) rfl mF_X2_40 dX2_readFrom_31 hG (fun z15 hG => ?_)
      refine r_iconst (pc := 34) X dX2_readFrom_34 hG rfl (fun z16 hG => ?_)
      refine r_iadd (pc := 35) X dX2_readFrom_35 hG (fun z17 hG => ?_)
      refine r_putI (pc := 36) X (at_X2_o Hb0) rfl mU_X2 (k := 5) (by decide) rfl rfl rfl mF_X2_40 dX2_readFrom_36 hG (fun h18 hG => ?_)
      refine r_iinc (pc := 39) (L' := fun z19 => [some (.ref (ad b0)), some (.ref (ad b1)), some (.int z19)]) X dX2_readFrom_39 (by decide) rfl rfl (by decide) (fun _ => rfl) hG (fun z19 hG => ?_)
      refine r_goto (pc := 42) X dX2_readFrom_42 (tgt := 6) (by decide) ?_
      exact r_mask [true, true, true] rfl (Hl7 _ hG z19 h18 rfl)
theorem c_X2_readFrom {b0 : Nat} {b1 : Nat} {r : Hp} (Hb0 : At_X2 shl b0) (Hb1 : At_X5 shl b1) (hg : g_X2_readFrom b0 b1 h = some r) : Met l yX2_readFrom (wsM yX2_readFrom cX2_readFrom 3 none) rm_X2_readFrom (va_Pc [.ref (ad b0), .ref (ad b1)] (World E ad shl h)) (QcV E ad shl r) 0 0 (bsA E) :=
  met_of (L0 := [some (.ref (ad b0)), some (.ref (ad b1)), none]) rfl rfl rfl (Nat.le_of_ble_eq_true rfl) (fun _ _ _ _ _ _ _ X => w_X2_readFrom Hb0 Hb1 X rfl hg)
abbrev rm_X8_sea : Room := { frames := 7, cells := 0, slots := 0, locals := 150 }
theorem hdd_X8_sea : yX8_sea.cls = RX8 ∧ yX8_sea.cls ≠ "java/lang/invoke/MethodHandle" ∧ yX8_sea.cls ≠ "java/lang/invoke/VarHandle" ∧ (parseMethodDescriptor yX8_sea.desc).map (fun d => d.parameters.length) = some 0 := ⟨rfl, by decide +kernel, by decide +kernel, by decide +kernel⟩
set_option maxRecDepth 100000 in
set_option maxHeartbeats 4000000 in
theorem w_X8_sea  {r : Int × Hp} (Hb0 : At_X8 shl) (X : Cx E p s m args meth c cX8_sea RX8 2 (some .int)) (hQ : Q = MQ below (QcI E ad shl r.1 r.2) args s 0 0 (bsA E)) (hG : g_X8_sea h = some r) : Ev E ad shl p l e rm_X8_sea s m args below meth c 0 0 Q 2 h 0 [some (.ref (ad 0)), none] [] := by
  unfold g_X8_sea at hG
  refine r_aload_n (pc := 0) X dX8_sea_0 rfl rfl ?_
  refine r_getC (pc := 1) X (at_X8_o Hb0) rfl mU_X8 (k := 0) (by decide) (q := 1) rfl mF_X8_10 dX8_sea_1 ?_
  refine r_cV (pc := 4) hG (fun _ hg => runV X dX8_sea_4 (c_X5_startReading (at_X8_tape Hb0) hg) mM_X8_91 mI_X5_startReading mE_X5_startReading mN_X5 mK_X5_startReading (at_X5_o (at_X8_tape Hb0)) rfl rfl rfl rfl hdd_X5_startReading ⟨(Nat.le_of_ble_eq_true rfl), (Nat.le_of_ble_eq_true rfl)⟩ rfl rfl (Nat.le_of_ble_eq_true rfl) ⟨(Nat.le_of_ble_eq_true rfl), (Nat.le_of_ble_eq_true rfl)⟩) (fun h1 hG => ?_)
  refine r_aload_n (pc := 7) X dX8_sea_7 rfl rfl ?_
  refine r_getR (pc := 8) X (at_X8_o Hb0) rfl mU_X8 (k := 4) (by decide) rfl mF_X8_33 dX8_sea_8 hG (fun q2 Hq2 hG => ?_)
  refine r_aload_n (pc := 11) X dX8_sea_11 rfl rfl ?_
  refine r_getC (pc := 12) X (at_X8_o Hb0) rfl mU_X8 (k := 0) (by decide) (q := 1) rfl mF_X8_10 dX8_sea_12 ?_
  refine r_cV (pc := 15) hG (fun _ hg => runV X dX8_sea_15 (c_X2_readFrom (at_X8_seas Hb0 _ Hq2) (at_X8_tape Hb0) hg) mM_X8_108 mI_X2_readFrom mE_X2_readFrom mN_X2 mK_X2_readFrom (at_X2_o (at_X8_seas Hb0 _ Hq2)) rfl rfl rfl rfl hdd_X2_readFrom ⟨(Nat.le_of_ble_eq_true rfl), (Nat.le_of_ble_eq_true rfl)⟩ rfl rfl (Nat.le_of_ble_eq_true rfl) ⟨(Nat.le_of_ble_eq_true rfl), (Nat.le_of_ble_eq_true rfl)⟩) (fun h3 hG => ?_)
  refine r_aload_n (pc := 18) X dX8_sea_18 rfl rfl ?_
  refine r_getC (pc := 19) X (at_X8_o Hb0) rfl mU_X8 (k := 0) (by decide) (q := 1) rfl mF_X8_10 dX8_sea_19 ?_
  refine r_iconst (pc := 22) X dX8_sea_22 hG rfl (fun z4 hG => ?_)
  refine r_putI (pc := 23) X (at_X5_o (at_X8_tape Hb0)) rfl mU_X5 (k := 1) (by decide) rfl rfl rfl mF_X8_83 dX8_sea_23 hG (fun h5 hG => ?_)
  refine r_aload_n (pc := 26) X dX8_sea_26 rfl rfl ?_
  refine r_getC (pc := 27) X (at_X8_o Hb0) rfl mU_X8 (k := 0) (by decide) (q := 1) rfl mF_X8_10 dX8_sea_27 ?_
  refine r_cP (pc := 30) hG (fun _ hg => runV X dX8_sea_30 (c_X5_isFaulty (at_X8_tape Hb0) hg) mM_X8_98 mI_X5_isFaulty mE_X5_isFaulty mN_X5 mK_X5_isFaulty (at_X5_o (at_X8_tape Hb0)) rfl rfl rfl rfl hdd_X5_isFaulty ⟨(Nat.le_of_ble_eq_true rfl), (Nat.le_of_ble_eq_true rfl)⟩ rfl rfl (Nat.le_of_ble_eq_true rfl) ⟨(Nat.le_of_ble_eq_true rfl), (Nat.le_of_ble_eq_true rfl)⟩) (fun z6 hG => ?_)
  refine r_if_eq (pc := 33) X dX8_sea_33 (tgt := 38) (by decide) hG (fun hG => ?_) (fun hG => ?_)
  · skip
    refine r_aload_n (pc := 38) X dX8_sea_38 rfl rfl ?_
    refine r_getR (pc := 39) X (at_X8_o Hb0) rfl mU_X8 (k := 4) (by decide) rfl mF_X8_33 dX8_sea_39 hG (fun q7 Hq7 hG => ?_)
    refine r_astore_n (pc := 42) (L' := [some (.ref (ad 0)), some (.ref (ad q7))]) X dX8_sea_42 rfl (by decide) rfl rfl ?_
    refine r_aload_n (pc := 43) X dX8_sea_43 rfl rfl ?_
    refine r_aload_n (pc := 44) X dX8_sea_44 rfl rfl ?_
    refine r_getR (pc := 45) X (at_X8_o Hb0) rfl mU_X8 (k := 3) (by decide) rfl mF_X8_29 dX8_sea_45 hG (fun q8 Hq8 hG => ?_)
    refine r_putR (pc := 48) X (at_X8_o Hb0) rfl mU_X8 (k := 4) (by decide) rfl rfl (D := RX2) (by decide +kernel) mF_X8_33 dX8_sea_48 (by simp at Hq8; omega) hG (fun h9 hG => ?_)
    refine r_aload_n (pc := 51) X dX8_sea_51 rfl rfl ?_
    refine r_aload_n (pc := 52) X dX8_sea_52 rfl rfl ?_
    refine r_putR (pc := 53) X (at_X8_o Hb0) rfl mU_X8 (k := 3) (by decide) rfl rfl (D := RX2) (by decide +kernel) mF_X8_29 dX8_sea_53 (by simp at Hq7; omega) hG (fun h10 hG => ?_)
    refine r_aload_n (pc := 56) X dX8_sea_56 rfl rfl ?_
    refine r_getR (pc := 57) X (at_X8_o Hb0) rfl mU_X8 (k := 3) (by decide) rfl mF_X8_29 dX8_sea_57 hG (fun q11 Hq11 hG => ?_)
    refine r_getI (pc := 60) X (at_X2_o (at_X8_seas Hb0 _ Hq11)) rfl mU_X2 (k := 5) (by decide) rfl mF_X8_109 dX8_sea_60 hG (fun z12 hG => ?_)
    exact r_iretW (pc := 63) X dX8_sea_63 hQ hG
  · skip
    refine r_iconst (pc := 36) X dX8_sea_36 hG rfl (fun z13 hG => ?_)
    exact r_iretW (pc := 37) X dX8_sea_37 hQ hG
theorem c_X8_sea  {r : Int × Hp} (Hb0 : At_X8 shl) (hg : g_X8_sea h = some r) : Met l yX8_sea (wsM yX8_sea cX8_sea 2 (some .int)) rm_X8_sea (va_Pc [.ref (ad 0)] (World E ad shl h)) (QcI E ad shl r.1 r.2) 0 0 (bsA E) :=
  met_of (L0 := [some (.ref (ad 0)), none]) rfl rfl rfl (Nat.le_of_ble_eq_true rfl) (fun _ _ _ _ _ _ _ X => w_X8_sea Hb0 X rfl hg)
abbrev rm_X1_kindOf : Room := { frames := 5, cells := 0, slots := 0, locals := 107 }
theorem hdd_X1_kindOf : yX1_kindOf.cls ≠ "java/lang/invoke/MethodHandle" ∧ yX1_kindOf.cls ≠ "java/lang/invoke/VarHandle" ∧ (parseMethodDescriptor yX1_kindOf.desc).map (fun d => d.parameters.length) = some 1 := ⟨by decide +kernel, by decide +kernel, by decide +kernel⟩
set_option maxRecDepth 100000 in
set_option maxHeartbeats 4000000 in
theorem w_X1_kindOf {b1 : Nat} {r : Int} (Hb1 : At_X5 shl b1) (X : Cx E p s m args meth c cX1_kindOf RX1 1 (some .int)) (hQ : Q = MQ below (QcI E ad shl r h) args s 0 0 (bsA E)) (hG : g_X1_kindOf b1 h = some r) : Ev E ad shl p l e rm_X1_kindOf s m args below meth c 0 0 Q 1 h 0 [some (.ref (ad b1))] [] := by
  unfold g_X1_kindOf at hG
  refine r_aload_n (pc := 0) X dX1_kindOf_0 rfl rfl ?_
  refine r_ldcS (pc := 1) (k := 17) X rfl rfl rfl dX1_kindOf_1 ?_
  refine r_cP (pc := 3) hG (fun _ hg => runV X dX1_kindOf_3 (c_X5_isWord Hb1 rfl hg) mM_X1_40 mI_X5_isWord mE_X5_isWord mN_X5 mK_X5_isWord (at_X5_o Hb1) rfl rfl rfl rfl hdd_X5_isWord ⟨(Nat.le_of_ble_eq_true rfl), (Nat.le_of_ble_eq_true rfl)⟩ rfl rfl (Nat.le_of_ble_eq_true rfl) ⟨(Nat.le_of_ble_eq_true rfl), (Nat.le_of_ble_eq_true rfl)⟩) (fun z1 hG => ?_)
  refine r_if_eq (pc := 6) X dX1_kindOf_6 (tgt := 11) (by decide) hG (fun hG => ?_) (fun hG => ?_)
  · skip
    refine r_aload_n (pc := 11) X dX1_kindOf_11 rfl rfl ?_
    refine r_ldcS (pc := 12) (k := 18) X rfl rfl rfl dX1_kindOf_12 ?_
    refine r_cP (pc := 14) hG (fun _ hg => runV X dX1_kindOf_14 (c_X5_isWord Hb1 rfl hg) mM_X1_40 mI_X5_isWord mE_X5_isWord mN_X5 mK_X5_isWord (at_X5_o Hb1) rfl rfl rfl rfl hdd_X5_isWord ⟨(Nat.le_of_ble_eq_true rfl), (Nat.le_of_ble_eq_true rfl)⟩ rfl rfl (Nat.le_of_ble_eq_true rfl) ⟨(Nat.le_of_ble_eq_true rfl), (Nat.le_of_ble_eq_true rfl)⟩) (fun z2 hG => ?_)
    refine r_if_eq (pc := 17) X dX1_kindOf_17 (tgt := 22) (by decide) hG (fun hG => ?_) (fun hG => ?_)
    · skip
      refine r_aload_n (pc := 22) X dX1_kindOf_22 rfl rfl ?_
      refine r_ldcS (pc := 23) (k := 19) X rfl rfl rfl dX1_kindOf_23 ?_
      refine r_cP (pc := 25) hG (fun _ hg => runV X dX1_kindOf_25 (c_X5_isWord Hb1 rfl hg) mM_X1_40 mI_X5_isWord mE_X5_isWord mN_X5 mK_X5_isWord (at_X5_o Hb1) rfl rfl rfl rfl hdd_X5_isWord ⟨(Nat.le_of_ble_eq_true rfl), (Nat.le_of_ble_eq_true rfl)⟩ rfl rfl (Nat.le_of_ble_eq_true rfl) ⟨(Nat.le_of_ble_eq_true rfl), (Nat.le_of_ble_eq_true rfl)⟩) (fun z3 hG => ?_)
      refine r_if_eq (pc := 28) X dX1_kindOf_28 (tgt := 33) (by decide) hG (fun hG => ?_) (fun hG => ?_)
      · skip
        refine r_aload_n (pc := 33) X dX1_kindOf_33 rfl rfl ?_
        refine r_ldcS (pc := 34) (k := 20) X rfl rfl rfl dX1_kindOf_34 ?_
        refine r_cP (pc := 36) hG (fun _ hg => runV X dX1_kindOf_36 (c_X5_isWord Hb1 rfl hg) mM_X1_40 mI_X5_isWord mE_X5_isWord mN_X5 mK_X5_isWord (at_X5_o Hb1) rfl rfl rfl rfl hdd_X5_isWord ⟨(Nat.le_of_ble_eq_true rfl), (Nat.le_of_ble_eq_true rfl)⟩ rfl rfl (Nat.le_of_ble_eq_true rfl) ⟨(Nat.le_of_ble_eq_true rfl), (Nat.le_of_ble_eq_true rfl)⟩) (fun z4 hG => ?_)
        refine r_if_eq (pc := 39) X dX1_kindOf_39 (tgt := 44) (by decide) hG (fun hG => ?_) (fun hG => ?_)
        · skip
          refine r_aload_n (pc := 44) X dX1_kindOf_44 rfl rfl ?_
          refine r_ldcS (pc := 45) (k := 21) X rfl rfl rfl dX1_kindOf_45 ?_
          refine r_cP (pc := 47) hG (fun _ hg => runV X dX1_kindOf_47 (c_X5_isWord Hb1 rfl hg) mM_X1_40 mI_X5_isWord mE_X5_isWord mN_X5 mK_X5_isWord (at_X5_o Hb1) rfl rfl rfl rfl hdd_X5_isWord ⟨(Nat.le_of_ble_eq_true rfl), (Nat.le_of_ble_eq_true rfl)⟩ rfl rfl (Nat.le_of_ble_eq_true rfl) ⟨(Nat.le_of_ble_eq_true rfl), (Nat.le_of_ble_eq_true rfl)⟩) (fun z5 hG => ?_)
          refine r_join hG (fun a6 => ∀ (y8 : Int32), a6 = y8.toInt → Ev E ad shl p l e rm_X1_kindOf s m args below meth c 0 0 Q 1 h 58 [none] [.int y8]) (fun a6 hG => ?_) (fun j7 Hj7 hG => ?_)
          · skip
            intro y8 ha; have ha := ha.symm; subst ha
            exact r_iretP (pc := 58) X dX1_kindOf_58 hQ hG
          refine r_if_eq (pc := 50) X dX1_kindOf_50 (tgt := 57) (by decide) hG (fun hG => ?_) (fun hG => ?_)
          · skip
            refine r_iconst (pc := 57) X dX1_kindOf_57 hG rfl (fun z9 hG => ?_)
            exact r_mask [false] rfl (Hj7 _ hG z9 rfl)
          · skip
            refine r_iconst (pc := 53) X dX1_kindOf_53 hG rfl (fun z10 hG => ?_)
            refine r_goto (pc := 54) X dX1_kindOf_54 (tgt := 58) (by decide) ?_
            exact r_mask [false] rfl (Hj7 _ hG z10 rfl)
        · skip
          refine r_iconst (pc := 42) X dX1_kindOf_42 hG rfl (fun z11 hG => ?_)
          exact r_iretP (pc := 43) X dX1_kindOf_43 hQ hG
      · skip
        refine r_iconst (pc := 31) X dX1_kindOf_31 hG rfl (fun z12 hG => ?_)
        exact r_iretP (pc := 32) X dX1_kindOf_32 hQ hG
    · skip
      refine r_iconst (pc := 20) X dX1_kindOf_20 hG rfl (fun z13 hG => ?_)
      exact r_iretP (pc := 21) X dX1_kindOf_21 hQ hG
  · skip
    refine r_iconst (pc := 9) X dX1_kindOf_9 hG rfl (fun z14 hG => ?_)
    exact r_iretP (pc := 10) X dX1_kindOf_10 hQ hG
theorem c_X1_kindOf {b1 : Nat} {r : Int} (Hb1 : At_X5 shl b1) (hg : g_X1_kindOf b1 h = some r) : Met l yX1_kindOf (wsM yX1_kindOf cX1_kindOf 1 (some .int)) rm_X1_kindOf (va_Pc [.ref (ad b1)] (World E ad shl h)) (QcI E ad shl r h) 0 0 (bsA E) :=
  met_of (L0 := [some (.ref (ad b1))]) rfl rfl rfl (Nat.le_of_ble_eq_true rfl) (fun _ _ _ _ _ _ _ X => w_X1_kindOf Hb1 X rfl hg)
abbrev rm_X1_readAct : Room := { frames := 6, cells := 0, slots := 0, locals := 127 }
theorem hdd_X1_readAct : yX1_readAct.cls = RX1 ∧ yX1_readAct.cls ≠ "java/lang/invoke/MethodHandle" ∧ yX1_readAct.cls ≠ "java/lang/invoke/VarHandle" ∧ (parseMethodDescriptor yX1_readAct.desc).map (fun d => d.parameters.length) = some 2 := ⟨rfl, by decide +kernel, by decide +kernel, by decide +kernel⟩
set_option maxRecDepth 100000 in
set_option maxHeartbeats 4000000 in
theorem w_X1_readAct {b0 : Nat} {b1 : Nat} {b2 : Nat} {r : Hp} (Hb0 : At_X1 shl b0) (Hb1 : At_X5 shl b1) (Hb2 : At_X0 shl b2) (X : Cx E p s m args meth c cX1_readAct RX1 5 none) (hQ : Q = MQ below (QcV E ad shl r) args s 0 0 (bsA E)) (hG : g_X1_readAct b0 b1 b2 h = some r) : Ev E ad shl p l e rm_X1_readAct s m args below meth c 0 0 Q 5 h 0 [some (.ref (ad b0)), some (.ref (ad b1)), some (.ref (ad b2)), none, none] [] := by
  unfold g_X1_readAct at hG
  refine r_aload_n (pc := 0) X dX1_readAct_0 rfl rfl ?_
  refine r_cP (pc := 1) hG (fun _ hg => runS X dX1_readAct_1 (c_X1_kindOf Hb1 hg) mM_X1_60 mS_X1_kindOf mN_X1 mK_X1_kindOf rfl rfl hdd_X1_kindOf ⟨(Nat.le_of_ble_eq_true rfl), (Nat.le_of_ble_eq_true rfl)⟩ rfl rfl (Nat.le_of_ble_eq_true rfl) ⟨(Nat.le_of_ble_eq_true rfl), (Nat.le_of_ble_eq_true rfl)⟩) (fun z1 hG => ?_)
  refine r_istore_n (pc := 4) (L' := [some (.ref (ad b0)), some (.ref (ad b1)), some (.ref (ad b2)), some (.int z1), none]) X dX1_readAct_4 rfl (by decide) rfl rfl ?_
  refine r_iload_n (pc := 5) X dX1_readAct_5 rfl rfl ?_
  refine r_iconst (pc := 6) X dX1_readAct_6 hG rfl (fun z2 hG => ?_)
  refine r_icmp_ne (pc := 7) X dX1_readAct_7 (tgt := 16) (by decide) hG (fun hG => ?_) (fun hG => ?_)
  · skip
    refine r_aload_n (pc := 16) X dX1_readAct_16 rfl rfl ?_
    refine r_getC (pc := 17) X (at_X1_o Hb0) rfl mU_X1 (k := 0) (by decide) (q := (b0 + 1)) rfl mF_X1_9 dX1_readAct_17 ?_
    refine r_aload_n (pc := 20) X dX1_readAct_20 rfl rfl ?_
    refine r_getI (pc := 21) X (at_X1_o Hb0) rfl mU_X1 (k := 4) (by decide) rfl mF_X1_24 dX1_readAct_21 hG (fun z3 hG => ?_)
    refine r_iald (pc := 24) X (at_X1_acts Hb0) dX1_readAct_24 hG (fun z4 hG => ?_)
    refine r_bipush (pc := 25) X dX1_readAct_25 hG (by decide) (fun z5 hG => ?_)
    refine r_icmp_lt (pc := 27) X dX1_readAct_27 (tgt := 36) (by decide) hG (fun hG => ?_) (fun hG => ?_)
    · skip
      refine r_aload_n (pc := 36) X dX1_readAct_36 rfl rfl ?_
      refine r_getI (pc := 37) X (at_X1_o Hb0) rfl mU_X1 (k := 4) (by decide) rfl mF_X1_24 dX1_readAct_37 hG (fun z6 hG => ?_)
      refine r_bipush (pc := 40) X dX1_readAct_40 hG (by decide) (fun z7 hG => ?_)
      refine r_imul (pc := 42) X dX1_readAct_42 hG (fun z8 hG => ?_)
      refine r_aload_n (pc := 43) X dX1_readAct_43 rfl rfl ?_
      refine r_getC (pc := 44) X (at_X1_o Hb0) rfl mU_X1 (k := 0) (by decide) (q := (b0 + 1)) rfl mF_X1_9 dX1_readAct_44 ?_
      refine r_aload_n (pc := 47) X dX1_readAct_47 rfl rfl ?_
      refine r_getI (pc := 48) X (at_X1_o Hb0) rfl mU_X1 (k := 4) (by decide) rfl mF_X1_24 dX1_readAct_48 hG (fun z9 hG => ?_)
      refine r_iald (pc := 51) X (at_X1_acts Hb0) dX1_readAct_51 hG (fun z10 hG => ?_)
      refine r_iadd (pc := 52) X dX1_readAct_52 hG (fun z11 hG => ?_)
      refine r_istore (pc := 53) (L' := [some (.ref (ad b0)), some (.ref (ad b1)), some (.ref (ad b2)), some (.int z1), some (.int z11)]) X dX1_readAct_53 (by decide) rfl rfl ?_
      refine r_aload_n (pc := 55) X dX1_readAct_55 rfl rfl ?_
      refine r_getC (pc := 56) X (at_X1_o Hb0) rfl mU_X1 (k := 1) (by decide) (q := (b0 + 2)) rfl mF_X1_15 dX1_readAct_56 ?_
      refine r_iload (pc := 59) X dX1_readAct_59 rfl ?_
      refine r_iload_n (pc := 61) X dX1_readAct_61 rfl rfl ?_
      refine r_iast (pc := 62) X (at_X1_kinds Hb0) dX1_readAct_62 hG (fun h12 hG => ?_)
      refine r_aload_n (pc := 63) X dX1_readAct_63 rfl rfl ?_
      refine r_getC (pc := 64) X (at_X1_o Hb0) rfl mU_X1 (k := 2) (by decide) (q := (b0 + 3)) rfl mF_X1_18 dX1_readAct_64 ?_
      refine r_iload (pc := 67) X dX1_readAct_67 rfl ?_
      refine r_iload_n (pc := 69) X dX1_readAct_69 rfl rfl ?_
      refine r_iconst (pc := 70) X dX1_readAct_70 hG rfl (fun z13 hG => ?_)
      refine r_join hG (fun a14 => ∀ (y16 : Int32) (h17 : Hp), a14 = (y16.toInt, h17) → Ev E ad shl p l e rm_X1_readAct s m args below meth c 0 0 Q 5 h17 83 [some (.ref (ad b0)), some (.ref (ad b1)), some (.ref (ad b2)), some (.int z1), some (.int z11)] [.int y16, .int z11, .ref (ad (b0 + 3))]) (fun a14 hG => ?_) (fun j15 Hj15 hG => ?_)
      · skip
        intro y16 h17 ha; have ha := ha.symm; subst ha
        refine r_iast (pc := 83) X (at_X1_cells Hb0) dX1_readAct_83 hG (fun h18 hG => ?_)
        refine r_aload_n (pc := 84) X dX1_readAct_84 rfl rfl ?_
        refine r_getC (pc := 85) X (at_X1_o Hb0) rfl mU_X1 (k := 3) (by decide) (q := (b0 + 4)) rfl mF_X1_21 dX1_readAct_85 ?_
        refine r_iload (pc := 88) X dX1_readAct_88 rfl ?_
        refine r_iload_n (pc := 90) X dX1_readAct_90 rfl rfl ?_
        refine r_join hG (fun a19 => ∀ (y21 : Int32) (h22 : Hp), a19 = (y21.toInt, h22) → Ev E ad shl p l e rm_X1_readAct s m args below meth c 0 0 Q 5 h22 103 [some (.ref (ad b0)), some (.ref (ad b1)), none, some (.int z1), some (.int z11)] [.int y21, .int z11, .ref (ad (b0 + 4))]) (fun a19 hG => ?_) (fun j20 Hj20 hG => ?_)
        · skip
          intro y21 h22 ha; have ha := ha.symm; subst ha
          refine r_iast (pc := 103) X (at_X1_targets Hb0) dX1_readAct_103 hG (fun h23 hG => ?_)
          refine r_iload_n (pc := 104) X dX1_readAct_104 rfl rfl ?_
          refine r_join hG (fun a24 => ∀ (h26 : Hp), a24 = h26 → Ev E ad shl p l e rm_X1_readAct s m args below meth c 0 0 Q 5 h26 130 [some (.ref (ad b0)), none, none, none, none] []) (fun a24 hG => ?_) (fun j25 Hj25 hG => ?_)
          · skip
            intro h26 ha; have ha := ha.symm; subst ha
            refine r_aload_n (pc := 130) X dX1_readAct_130 rfl rfl ?_
            refine r_getC (pc := 131) X (at_X1_o Hb0) rfl mU_X1 (k := 0) (by decide) (q := (b0 + 1)) rfl mF_X1_9 dX1_readAct_131 ?_
            refine r_aload_n (pc := 134) X dX1_readAct_134 rfl rfl ?_
            refine r_getI (pc := 135) X (at_X1_o Hb0) rfl mU_X1 (k := 4) (by decide) rfl mF_X1_24 dX1_readAct_135 hG (fun z27 hG => ?_)
            refine r_dup2 (pc := 138) X dX1_readAct_138 rfl rfl ?_
            refine r_iald (pc := 139) X (at_X1_acts Hb0) dX1_readAct_139 hG (fun z28 hG => ?_)
            refine r_iconst (pc := 140) X dX1_readAct_140 hG rfl (fun z29 hG => ?_)
            refine r_iadd (pc := 141) X dX1_readAct_141 hG (fun z30 hG => ?_)
            refine r_iast (pc := 142) X (at_X1_acts Hb0) dX1_readAct_142 hG (fun h31 hG => ?_)
            exact r_vret (pc := 143) X dX1_readAct_143 hQ hG
          refine r_if_ne (pc := 105) X dX1_readAct_105 (tgt := 130) (by decide) hG (fun hG => ?_) (fun hG => ?_)
          · skip
            exact r_mask [true, false, false, false, false] rfl (Hj25 _ hG h23 rfl)
          · skip
            refine r_aload_n (pc := 108) X dX1_readAct_108 rfl rfl ?_
            refine r_getC (pc := 109) X (at_X1_o Hb0) rfl mU_X1 (k := 3) (by decide) (q := (b0 + 4)) rfl mF_X1_21 dX1_readAct_109 ?_
            refine r_iload (pc := 112) X dX1_readAct_112 rfl ?_
            refine r_iald (pc := 114) X (at_X1_targets Hb0) dX1_readAct_114 hG (fun z32 hG => ?_)
            refine r_aload_n (pc := 115) X dX1_readAct_115 rfl rfl ?_
            refine r_getC (pc := 116) X (at_X1_o Hb0) rfl mU_X1 (k := 2) (by decide) (q := (b0 + 3)) rfl mF_X1_18 dX1_readAct_116 ?_
            refine r_iload (pc := 119) X dX1_readAct_119 rfl ?_
            refine r_iald (pc := 121) X (at_X1_cells Hb0) dX1_readAct_121 hG (fun z33 hG => ?_)
            refine r_icmp_ne (pc := 122) X dX1_readAct_122 (tgt := 130) (by decide) hG (fun hG => ?_) (fun hG => ?_)
            · skip
              exact r_mask [true, false, false, false, false] rfl (Hj25 _ hG h23 rfl)
            · skip
              refine r_aload_n (pc := 125) X dX1_readAct_125 rfl rfl ?_
              refine r_iconst (pc := 126) X dX1_readAct_126 hG rfl (fun z34 hG => ?_)
              refine r_cV (pc := 127) hG (fun _ hg => runV X dX1_readAct_127 (c_X5_refuse Hb1 hg) mM_X1_44 mI_X5_refuse mE_X5_refuse mN_X5 mK_X5_refuse (at_X5_o Hb1) rfl rfl rfl rfl hdd_X5_refuse ⟨(Nat.le_of_ble_eq_true rfl), (Nat.le_of_ble_eq_true rfl)⟩ rfl rfl (Nat.le_of_ble_eq_true rfl) ⟨(Nat.le_of_ble_eq_true rfl), (Nat.le_of_ble_eq_true rfl)⟩) (fun h35 hG => ?_)
              exact r_mask [true, false, false, false, false] rfl (Hj25 _ hG h35 rfl)
        refine r_if_ne (pc := 91) X dX1_readAct_91 (tgt := 102) (by decide) hG (fun hG => ?_) (fun hG => ?_)
        · skip
          refine r_iconst (pc := 102) X dX1_readAct_102 hG rfl (fun z36 hG => ?_)
          exact r_mask [true, true, false, true, true] rfl (Hj20 _ hG z36 h18 rfl)
        · skip
          refine r_aload_n (pc := 94) X dX1_readAct_94 rfl rfl ?_
          refine r_aload_n (pc := 95) X dX1_readAct_95 rfl rfl ?_
          refine r_cW (pc := 96) hG (fun _ hg => runV X dX1_readAct_96 (c_X0_needCell Hb2 Hb1 hg) mM_X1_64 mI_X0_needCell mE_X0_needCell mN_X0 mK_X0_needCell (at_X0_o Hb2) rfl rfl rfl rfl hdd_X0_needCell ⟨(Nat.le_of_ble_eq_true rfl), (Nat.le_of_ble_eq_true rfl)⟩ rfl rfl (Nat.le_of_ble_eq_true rfl) ⟨(Nat.le_of_ble_eq_true rfl), (Nat.le_of_ble_eq_true rfl)⟩) (fun z37 h38 hG => ?_)
          refine r_goto (pc := 99) X dX1_readAct_99 (tgt := 103) (by decide) ?_
          exact r_mask [true, true, false, true, true] rfl (Hj20 _ hG z37 h38 rfl)
      refine r_icmp_ne (pc := 71) X dX1_readAct_71 (tgt := 78) (by decide) hG (fun hG => ?_) (fun hG => ?_)
      · skip
        refine r_aload_n (pc := 78) X dX1_readAct_78 rfl rfl ?_
        refine r_aload_n (pc := 79) X dX1_readAct_79 rfl rfl ?_
        refine r_cW (pc := 80) hG (fun _ hg => runV X dX1_readAct_80 (c_X0_needCell Hb2 Hb1 hg) mM_X1_64 mI_X0_needCell mE_X0_needCell mN_X0 mK_X0_needCell (at_X0_o Hb2) rfl rfl rfl rfl hdd_X0_needCell ⟨(Nat.le_of_ble_eq_true rfl), (Nat.le_of_ble_eq_true rfl)⟩ rfl rfl (Nat.le_of_ble_eq_true rfl) ⟨(Nat.le_of_ble_eq_true rfl), (Nat.le_of_ble_eq_true rfl)⟩) (fun z39 h40 hG => ?_)
        exact r_mask [true, true, true, true, true] rfl (Hj15 _ hG z39 h40 rfl)
      · skip
        refine r_iconst (pc := 74) X dX1_readAct_74 hG rfl (fun z41 hG => ?_)
        refine r_goto (pc := 75) X dX1_readAct_75 (tgt := 83) (by decide) ?_
        exact r_mask [true, true, true, true, true] rfl (Hj15 _ hG z41 h12 rfl)
    · skip
      refine r_aload_n (pc := 30) X dX1_readAct_30 rfl rfl ?_
      refine r_iconst (pc := 31) X dX1_readAct_31 hG rfl (fun z42 hG => ?_)
      refine r_cV (pc := 32) hG (fun _ hg => runV X dX1_readAct_32 (c_X5_refuse Hb1 hg) mM_X1_44 mI_X5_refuse mE_X5_refuse mN_X5 mK_X5_refuse (at_X5_o Hb1) rfl rfl rfl rfl hdd_X5_refuse ⟨(Nat.le_of_ble_eq_true rfl), (Nat.le_of_ble_eq_true rfl)⟩ rfl rfl (Nat.le_of_ble_eq_true rfl) ⟨(Nat.le_of_ble_eq_true rfl), (Nat.le_of_ble_eq_true rfl)⟩) (fun h43 hG => ?_)
      exact r_vret (pc := 35) X dX1_readAct_35 hQ hG
  · skip
    refine r_aload_n (pc := 10) X dX1_readAct_10 rfl rfl ?_
    refine r_iconst (pc := 11) X dX1_readAct_11 hG rfl (fun z44 hG => ?_)
    refine r_cV (pc := 12) hG (fun _ hg => runV X dX1_readAct_12 (c_X5_refuse Hb1 hg) mM_X1_44 mI_X5_refuse mE_X5_refuse mN_X5 mK_X5_refuse (at_X5_o Hb1) rfl rfl rfl rfl hdd_X5_refuse ⟨(Nat.le_of_ble_eq_true rfl), (Nat.le_of_ble_eq_true rfl)⟩ rfl rfl (Nat.le_of_ble_eq_true rfl) ⟨(Nat.le_of_ble_eq_true rfl), (Nat.le_of_ble_eq_true rfl)⟩) (fun h45 hG => ?_)
    exact r_vret (pc := 15) X dX1_readAct_15 hQ hG
theorem c_X1_readAct {b0 : Nat} {b1 : Nat} {b2 : Nat} {r : Hp} (Hb0 : At_X1 shl b0) (Hb1 : At_X5 shl b1) (Hb2 : At_X0 shl b2) (hg : g_X1_readAct b0 b1 b2 h = some r) : Met l yX1_readAct (wsM yX1_readAct cX1_readAct 5 none) rm_X1_readAct (va_Pc [.ref (ad b0), .ref (ad b1), .ref (ad b2)] (World E ad shl h)) (QcV E ad shl r) 0 0 (bsA E) :=
  met_of (L0 := [some (.ref (ad b0)), some (.ref (ad b1)), some (.ref (ad b2)), none, none]) rfl rfl rfl (Nat.le_of_ble_eq_true rfl) (fun _ _ _ _ _ _ _ X => w_X1_readAct Hb0 Hb1 Hb2 X rfl hg)
abbrev rm_X1_readHand : Room := { frames := 7, cells := 0, slots := 0, locals := 151 }
theorem hdd_X1_readHand : yX1_readHand.cls = RX1 ∧ yX1_readHand.cls ≠ "java/lang/invoke/MethodHandle" ∧ yX1_readHand.cls ≠ "java/lang/invoke/VarHandle" ∧ (parseMethodDescriptor yX1_readHand.desc).map (fun d => d.parameters.length) = some 2 := ⟨rfl, by decide +kernel, by decide +kernel, by decide +kernel⟩
set_option maxRecDepth 100000 in
set_option maxHeartbeats 4000000 in
theorem w_X1_readHand {b0 : Nat} {b1 : Nat} {b2 : Nat} {r : Hp} (Hb0 : At_X1 shl b0) (Hb1 : At_X5 shl b1) (Hb2 : At_X0 shl b2) (X : Cx E p s m args meth c cX1_readHand RX1 4 none) (hQ : Q = MQ below (QcV E ad shl r) args s 0 0 (bsA E)) (hG : g_X1_readHand b0 b1 b2 h = some r) : Ev E ad shl p l e rm_X1_readHand s m args below meth c 0 0 Q 4 h 0 [some (.ref (ad b0)), some (.ref (ad b1)), some (.ref (ad b2)), none] [] := by
  unfold g_X1_readHand at hG
  refine r_aload_n (pc := 0) X dX1_readHand_0 rfl rfl ?_
  refine r_ldcS (pc := 1) (k := 16) X rfl rfl rfl dX1_readHand_1 ?_
  refine r_cP (pc := 3) hG (fun _ hg => runV X dX1_readHand_3 (c_X5_isWord Hb1 rfl hg) mM_X1_40 mI_X5_isWord mE_X5_isWord mN_X5 mK_X5_isWord (at_X5_o Hb1) rfl rfl rfl rfl hdd_X5_isWord ⟨(Nat.le_of_ble_eq_true rfl), (Nat.le_of_ble_eq_true rfl)⟩ rfl rfl (Nat.le_of_ble_eq_true rfl) ⟨(Nat.le_of_ble_eq_true rfl), (Nat.le_of_ble_eq_true rfl)⟩) (fun z1 hG => ?_)
  refine r_if_ne (pc := 6) X dX1_readHand_6 (tgt := 15) (by decide) hG (fun hG => ?_) (fun hG => ?_)
  · skip
    refine r_aload_n (pc := 15) X dX1_readHand_15 rfl rfl ?_
    refine r_getI (pc := 16) X (at_X1_o Hb0) rfl mU_X1 (k := 4) (by decide) rfl mF_X1_24 dX1_readHand_16 hG (fun z2 hG => ?_)
    refine r_iconst (pc := 19) X dX1_readHand_19 hG rfl (fun z3 hG => ?_)
    refine r_icmp_lt (pc := 20) X dX1_readHand_20 (tgt := 29) (by decide) hG (fun hG => ?_) (fun hG => ?_)
    · skip
      refine r_aload_n (pc := 29) X dX1_readHand_29 rfl rfl ?_
      refine r_getC (pc := 30) X (at_X1_o Hb0) rfl mU_X1 (k := 0) (by decide) (q := (b0 + 1)) rfl mF_X1_9 dX1_readHand_30 ?_
      refine r_aload_n (pc := 33) X dX1_readHand_33 rfl rfl ?_
      refine r_getI (pc := 34) X (at_X1_o Hb0) rfl mU_X1 (k := 4) (by decide) rfl mF_X1_24 dX1_readHand_34 hG (fun z4 hG => ?_)
      refine r_iconst (pc := 37) X dX1_readHand_37 hG rfl (fun z5 hG => ?_)
      refine r_iast (pc := 38) X (at_X1_acts Hb0) dX1_readHand_38 hG (fun h6 hG => ?_)
      refine r_aload_n (pc := 39) X dX1_readHand_39 rfl rfl ?_
      refine r_cV (pc := 40) hG (fun _ hg => runV X dX1_readHand_40 (c_X5_advance Hb1 hg) mM_X1_48 mI_X5_advance mE_X5_advance mN_X5 mK_X5_advance (at_X5_o Hb1) rfl rfl rfl rfl hdd_X5_advance ⟨(Nat.le_of_ble_eq_true rfl), (Nat.le_of_ble_eq_true rfl)⟩ rfl rfl (Nat.le_of_ble_eq_true rfl) ⟨(Nat.le_of_ble_eq_true rfl), (Nat.le_of_ble_eq_true rfl)⟩) (fun h7 hG => ?_)
      refine r_iconst (pc := 43) X dX1_readHand_43 hG rfl (fun z8 hG => ?_)
      refine r_istore_n (pc := 44) (L' := [some (.ref (ad b0)), some (.ref (ad b1)), some (.ref (ad b2)), some (.int z8)]) X dX1_readHand_44 rfl (by decide) rfl rfl ?_
      refine r_join hG (fun a9 => ∀ (h11 : Hp), a9 = h11 → Ev E ad shl p l e rm_X1_readHand s m args below meth c 0 0 Q 4 h11 89 [some (.ref (ad b0)), none, none, none] []) (fun a9 hG => ?_) (fun j10 Hj10 hG => ?_)
      · skip
        intro h11 ha; have ha := ha.symm; subst ha
        refine r_aload_n (pc := 89) X dX1_readHand_89 rfl rfl ?_
        refine r_dup (pc := 90) X dX1_readHand_90 rfl ?_
        refine r_getI (pc := 91) X (at_X1_o Hb0) rfl mU_X1 (k := 4) (by decide) rfl mF_X1_24 dX1_readHand_91 hG (fun z12 hG => ?_)
        refine r_iconst (pc := 94) X dX1_readHand_94 hG rfl (fun z13 hG => ?_)
        refine r_iadd (pc := 95) X dX1_readHand_95 hG (fun z14 hG => ?_)
        refine r_putI (pc := 96) X (at_X1_o Hb0) rfl mU_X1 (k := 4) (by decide) rfl rfl rfl mF_X1_24 dX1_readHand_96 hG (fun h15 hG => ?_)
        exact r_vret (pc := 99) X dX1_readHand_99 hQ hG
      refine r_join hG (fun a16 => ∀ (h18 : Hp), a16 = h18 → Ev E ad shl p l e rm_X1_readHand s m args below meth c 0 0 Q 4 h18 70 [some (.ref (ad b0)), none, none, none] []) (fun a16 hG => ?_) (fun j17 Hj17 hG => ?_)
      · skip
        intro h18 ha; have ha := ha.symm; subst ha
        refine r_goto (pc := 70) X dX1_readHand_70 (tgt := 89) (by decide) ?_
        exact r_mask [true, false, false, false] rfl (Hj10 _ hG h18 rfl)
      refine r_mask [true, true, true, true] rfl (r_loop (fun q19 => ∀ (y21 : Int32) (h22 : Hp), q19 = (y21.toInt, h22) → Ev E ad shl p l e rm_X1_readHand s m args below meth c 0 0 Q 4 h22 45 [some (.ref (ad b0)), some (.ref (ad b1)), some (.ref (ad b2)), some (.int y21)] []) (fun l20 Hl20 q19 hG => ?_) FU _ hG z8 h7 rfl)
      intro y21 h22 ha; have ha := ha.symm; subst ha
      unfold g_X1_readHand_l20 at hG
      refine r_iload_n (pc := 45) X dX1_readHand_45 rfl rfl ?_
      refine r_bipush (pc := 46) X dX1_readHand_46 hG (by decide) (fun z23 hG => ?_)
      refine r_icmp_gt (pc := 48) X dX1_readHand_48 (tgt := 89) (by decide) hG (fun hG => ?_) (fun hG => ?_)
      · skip
        exact r_mask [true, false, false, false] rfl (Hj10 _ hG h22 rfl)
      · skip
        refine r_aload_n (pc := 51) X dX1_readHand_51 rfl rfl ?_
        refine r_cP (pc := 52) hG (fun _ hg => runV X dX1_readHand_52 (c_X5_isFaulty Hb1 hg) mM_X1_51 mI_X5_isFaulty mE_X5_isFaulty mN_X5 mK_X5_isFaulty (at_X5_o Hb1) rfl rfl rfl rfl hdd_X5_isFaulty ⟨(Nat.le_of_ble_eq_true rfl), (Nat.le_of_ble_eq_true rfl)⟩ rfl rfl (Nat.le_of_ble_eq_true rfl) ⟨(Nat.le_of_ble_eq_true rfl), (Nat.le_of_ble_eq_true rfl)⟩) (fun z24 hG => ?_)
        refine r_if_ne (pc := 55) X dX1_readHand_55 (tgt := 89) (by decide) hG (fun hG => ?_) (fun hG => ?_)
        · skip
          exact r_mask [true, false, false, false] rfl (Hj10 _ hG h22 rfl)
        · skip
          refine r_iload_n (pc := 58) X dX1_readHand_58 rfl rfl ?_
          refine r_join hG (fun _ => Ev E ad shl p l e rm_X1_readHand s m args below meth c 0 0 Q 4 h22 73 [some (.ref (ad b0)), some (.ref (ad b1)), some (.ref (ad b2)), some (.int y21)] []) (fun a25 hG => ?_) (fun j26 Hj26 hG => ?_)
          · skip
            refine r_aload_n (pc := 73) X dX1_readHand_73 rfl rfl ?_
            refine r_aload_n (pc := 74) X dX1_readHand_74 rfl rfl ?_
            refine r_aload_n (pc := 75) X dX1_readHand_75 rfl rfl ?_
            refine r_cV (pc := 76) hG (fun _ hg => runV X dX1_readHand_76 (c_X1_readAct Hb0 Hb1 Hb2 hg) mM_X1_57 mI_X1_readAct mE_X1_readAct mN_X1 mK_X1_readAct (at_X1_o Hb0) rfl rfl rfl rfl hdd_X1_readAct ⟨(Nat.le_of_ble_eq_true rfl), (Nat.le_of_ble_eq_true rfl)⟩ rfl rfl (Nat.le_of_ble_eq_true rfl) ⟨(Nat.le_of_ble_eq_true rfl), (Nat.le_of_ble_eq_true rfl)⟩) (fun h27 hG => ?_)
            refine r_aload_n (pc := 79) X dX1_readHand_79 rfl rfl ?_
            refine r_cV (pc := 80) hG (fun _ hg => runV X dX1_readHand_80 (c_X5_advance Hb1 hg) mM_X1_48 mI_X5_advance mE_X5_advance mN_X5 mK_X5_advance (at_X5_o Hb1) rfl rfl rfl rfl hdd_X5_advance ⟨(Nat.le_of_ble_eq_true rfl), (Nat.le_of_ble_eq_true rfl)⟩ rfl rfl (Nat.le_of_ble_eq_true rfl) ⟨(Nat.le_of_ble_eq_true rfl), (Nat.le_of_ble_eq_true rfl)⟩) (fun h28 hG => ?_)
            refine r_iinc (pc := 83) (L' := fun z29 => [some (.ref (ad b0)), some (.ref (ad b1)), some (.ref (ad b2)), some (.int z29)]) X dX1_readHand_83 (by decide) rfl rfl (by decide) (fun _ => rfl) hG (fun z29 hG => ?_)
            refine r_goto (pc := 86) X dX1_readHand_86 (tgt := 45) (by decide) ?_
            exact r_mask [true, true, true, true] rfl (Hl20 _ hG z29 h28 rfl)
          refine r_if_le (pc := 59) X dX1_readHand_59 (tgt := 73) (by decide) hG (fun hG => ?_) (fun hG => ?_)
          · skip
            exact r_mask [true, true, true, true] rfl (Hj26 _ hG)
          · skip
            refine r_aload_n (pc := 62) X dX1_readHand_62 rfl rfl ?_
            refine r_getI (pc := 63) X (at_X5_o Hb1) rfl mU_X5 (k := 3) (by decide) rfl mF_X1_54 dX1_readHand_63 hG (fun z30 hG => ?_)
            refine r_iconst (pc := 66) X dX1_readHand_66 hG rfl (fun z31 hG => ?_)
            refine r_icmp_ne (pc := 67) X dX1_readHand_67 (tgt := 73) (by decide) hG (fun hG => ?_) (fun hG => ?_)
            · skip
              exact r_mask [true, true, true, true] rfl (Hj26 _ hG)
            · skip
              exact r_mask [true, false, false, false] rfl (Hj17 _ hG h22 rfl)
    · skip
      refine r_aload_n (pc := 23) X dX1_readHand_23 rfl rfl ?_
      refine r_iconst (pc := 24) X dX1_readHand_24 hG rfl (fun z32 hG => ?_)
      refine r_cV (pc := 25) hG (fun _ hg => runV X dX1_readHand_25 (c_X5_refuse Hb1 hg) mM_X1_44 mI_X5_refuse mE_X5_refuse mN_X5 mK_X5_refuse (at_X5_o Hb1) rfl rfl rfl rfl hdd_X5_refuse ⟨(Nat.le_of_ble_eq_true rfl), (Nat.le_of_ble_eq_true rfl)⟩ rfl rfl (Nat.le_of_ble_eq_true rfl) ⟨(Nat.le_of_ble_eq_true rfl), (Nat.le_of_ble_eq_true rfl)⟩) (fun h33 hG => ?_)
      exact r_vret (pc := 28) X dX1_readHand_28 hQ hG
  · skip
    refine r_aload_n (pc := 9) X dX1_readHand_9 rfl rfl ?_
    refine r_iconst (pc := 10) X dX1_readHand_10 hG rfl (fun z34 hG => ?_)
    refine r_cV (pc := 11) hG (fun _ hg => runV X dX1_readHand_11 (c_X5_refuse Hb1 hg) mM_X1_44 mI_X5_refuse mE_X5_refuse mN_X5 mK_X5_refuse (at_X5_o Hb1) rfl rfl rfl rfl hdd_X5_refuse ⟨(Nat.le_of_ble_eq_true rfl), (Nat.le_of_ble_eq_true rfl)⟩ rfl rfl (Nat.le_of_ble_eq_true rfl) ⟨(Nat.le_of_ble_eq_true rfl), (Nat.le_of_ble_eq_true rfl)⟩) (fun h35 hG => ?_)
    exact r_vret (pc := 14) X dX1_readHand_14 hQ hG
theorem c_X1_readHand {b0 : Nat} {b1 : Nat} {b2 : Nat} {r : Hp} (Hb0 : At_X1 shl b0) (Hb1 : At_X5 shl b1) (Hb2 : At_X0 shl b2) (hg : g_X1_readHand b0 b1 b2 h = some r) : Met l yX1_readHand (wsM yX1_readHand cX1_readHand 4 none) rm_X1_readHand (va_Pc [.ref (ad b0), .ref (ad b1), .ref (ad b2)] (World E ad shl h)) (QcV E ad shl r) 0 0 (bsA E) :=
  met_of (L0 := [some (.ref (ad b0)), some (.ref (ad b1)), some (.ref (ad b2)), none]) rfl rfl rfl (Nat.le_of_ble_eq_true rfl) (fun _ _ _ _ _ _ _ X => w_X1_readHand Hb0 Hb1 Hb2 X rfl hg)
abbrev rm_X1_readFrom : Room := { frames := 8, cells := 0, slots := 0, locals := 174 }
theorem hdd_X1_readFrom : yX1_readFrom.cls = RX1 ∧ yX1_readFrom.cls ≠ "java/lang/invoke/MethodHandle" ∧ yX1_readFrom.cls ≠ "java/lang/invoke/VarHandle" ∧ (parseMethodDescriptor yX1_readFrom.desc).map (fun d => d.parameters.length) = some 2 := ⟨rfl, by decide +kernel, by decide +kernel, by decide +kernel⟩
set_option maxRecDepth 100000 in
set_option maxHeartbeats 4000000 in
theorem w_X1_readFrom {b0 : Nat} {b1 : Nat} {b2 : Nat} {r : Hp} (Hb0 : At_X1 shl b0) (Hb1 : At_X5 shl b1) (Hb2 : At_X0 shl b2) (X : Cx E p s m args meth c cX1_readFrom RX1 4 none) (hQ : Q = MQ below (QcV E ad shl r) args s 0 0 (bsA E)) (hG : g_X1_readFrom b0 b1 b2 h = some r) : Ev E ad shl p l e rm_X1_readFrom s m args below meth c 0 0 Q 4 h 0 [some (.ref (ad b0)), some (.ref (ad b1)), some (.ref (ad b2)), none] [] := by
  unfold g_X1_readFrom at hG
  refine r_aload_n (pc := 0) X dX1_readFrom_0 rfl rfl ?_
  refine r_iconst (pc := 1) X dX1_readFrom_1 hG rfl (fun z1 hG => ?_)
  refine r_putI (pc := 2) X (at_X1_o Hb0) rfl mU_X1 (k := 4) (by decide) rfl rfl rfl mF_X1_24 dX1_readFrom_2 hG (fun h2 hG => ?_)
  refine r_iconst (pc := 5) X dX1_readFrom_5 hG rfl (fun z3 hG => ?_)
  refine r_istore_n (pc := 6) (L' := [some (.ref (ad b0)), some (.ref (ad b1)), some (.ref (ad b2)), some (.int z3)]) X dX1_readFrom_6 rfl (by decide) rfl rfl ?_
  refine r_join hG (fun a4 => ∀ (h6 : Hp), a4 = h6 → Ev E ad shl p l e rm_X1_readFrom s m args below meth c 0 0 Q 4 h6 33 [none, none, none, none] []) (fun a4 hG => ?_) (fun j5 Hj5 hG => ?_)
  · skip
    intro h6 ha; have ha := ha.symm; subst ha
    exact r_vret (pc := 33) X dX1_readFrom_33 hQ hG
  refine r_mask [true, true, true, true] rfl (r_loop (fun q7 => ∀ (y9 : Int32) (h10 : Hp), q7 = (y9.toInt, h10) → Ev E ad shl p l e rm_X1_readFrom s m args below meth c 0 0 Q 4 h10 7 [some (.ref (ad b0)), some (.ref (ad b1)), some (.ref (ad b2)), some (.int y9)] []) (fun l8 Hl8 q7 hG => ?_) FU _ hG z3 h2 rfl)
  intro y9 h10 ha; have ha := ha.symm; subst ha
  unfold g_X1_readFrom_l8 at hG
  refine r_iload_n (pc := 7) X dX1_readFrom_7 rfl rfl ?_
  refine r_sipush (pc := 8) X dX1_readFrom_8 hG (by decide) (fun z11 hG => ?_)
  refine r_icmp_ge (pc := 11) X dX1_readFrom_11 (tgt := 33) (by decide) hG (fun hG => ?_) (fun hG => ?_)
  · skip
    exact r_mask [false, false, false, false] rfl (Hj5 _ hG h10 rfl)
  · skip
    refine r_aload_n (pc := 14) X dX1_readFrom_14 rfl rfl ?_
    refine r_cW (pc := 15) hG (fun _ hg => runV X dX1_readFrom_15 (c_X5_hasClause Hb1 hg) mM_X1_30 mI_X5_hasClause mE_X5_hasClause mN_X5 mK_X5_hasClause (at_X5_o Hb1) rfl rfl rfl rfl hdd_X5_hasClause ⟨(Nat.le_of_ble_eq_true rfl), (Nat.le_of_ble_eq_true rfl)⟩ rfl rfl (Nat.le_of_ble_eq_true rfl) ⟨(Nat.le_of_ble_eq_true rfl), (Nat.le_of_ble_eq_true rfl)⟩) (fun z12 h13 hG => ?_)
    refine r_if_eq (pc := 18) X dX1_readFrom_18 (tgt := 33) (by decide) hG (fun hG => ?_) (fun hG => ?_)
    · skip
      exact r_mask [false, false, false, false] rfl (Hj5 _ hG h13 rfl)
    · skip
      refine r_aload_n (pc := 21) X dX1_readFrom_21 rfl rfl ?_
      refine r_aload_n (pc := 22) X dX1_readFrom_22 rfl rfl ?_
      refine r_aload_n (pc := 23) X dX1_readFrom_23 rfl rfl ?_
      refine r_cV (pc := 24) hG (fun _ hg => runV X dX1_readFrom_24 (c_X1_readHand Hb0 Hb1 Hb2 hg) mM_X1_34 mI_X1_readHand mE_X1_readHand mN_X1 mK_X1_readHand (at_X1_o Hb0) rfl rfl rfl rfl hdd_X1_readHand ⟨(Nat.le_of_ble_eq_true rfl), (Nat.le_of_ble_eq_true rfl)⟩ rfl rfl (Nat.le_of_ble_eq_true rfl) ⟨(Nat.le_of_ble_eq_true rfl), (Nat.le_of_ble_eq_true rfl)⟩) (fun h14 hG => ?_)
      refine r_iinc (pc := 27) (L' := fun z15 => [some (.ref (ad b0)), some (.ref (ad b1)), some (.ref (ad b2)), some (.int z15)]) X dX1_readFrom_27 (by decide) rfl rfl (by decide) (fun _ => rfl) hG (fun z15 hG => ?_)
      refine r_goto (pc := 30) X dX1_readFrom_30 (tgt := 7) (by decide) ?_
      exact r_mask [true, true, true, true] rfl (Hl8 _ hG z15 h14 rfl)
theorem c_X1_readFrom {b0 : Nat} {b1 : Nat} {b2 : Nat} {r : Hp} (Hb0 : At_X1 shl b0) (Hb1 : At_X5 shl b1) (Hb2 : At_X0 shl b2) (hg : g_X1_readFrom b0 b1 b2 h = some r) : Met l yX1_readFrom (wsM yX1_readFrom cX1_readFrom 4 none) rm_X1_readFrom (va_Pc [.ref (ad b0), .ref (ad b1), .ref (ad b2)] (World E ad shl h)) (QcV E ad shl r) 0 0 (bsA E) :=
  met_of (L0 := [some (.ref (ad b0)), some (.ref (ad b1)), some (.ref (ad b2)), none]) rfl rfl rfl (Nat.le_of_ble_eq_true rfl) (fun _ _ _ _ _ _ _ X => w_X1_readFrom Hb0 Hb1 Hb2 X rfl hg)
abbrev rm_X8_plan : Room := { frames := 9, cells := 0, slots := 0, locals := 197 }
theorem hdd_X8_plan : yX8_plan.cls = RX8 ∧ yX8_plan.cls ≠ "java/lang/invoke/MethodHandle" ∧ yX8_plan.cls ≠ "java/lang/invoke/VarHandle" ∧ (parseMethodDescriptor yX8_plan.desc).map (fun d => d.parameters.length) = some 0 := ⟨rfl, by decide +kernel, by decide +kernel, by decide +kernel⟩
set_option maxRecDepth 100000 in
set_option maxHeartbeats 4000000 in
theorem w_X8_plan  {r : Int × Hp} (Hb0 : At_X8 shl) (X : Cx E p s m args meth c cX8_plan RX8 1 (some .int)) (hQ : Q = MQ below (QcI E ad shl r.1 r.2) args s 0 0 (bsA E)) (hG : g_X8_plan h = some r) : Ev E ad shl p l e rm_X8_plan s m args below meth c 0 0 Q 1 h 0 [some (.ref (ad 0))] [] := by
  unfold g_X8_plan at hG
  refine r_aload_n (pc := 0) X dX8_plan_0 rfl rfl ?_
  refine r_getI (pc := 1) X (at_X8_o Hb0) rfl mU_X8 (k := 6) (by decide) rfl mF_X8_102 dX8_plan_1 hG (fun z1 hG => ?_)
  refine r_iconst (pc := 4) X dX8_plan_4 hG rfl (fun z2 hG => ?_)
  refine r_icmp_lt (pc := 5) X dX8_plan_5 (tgt := 19) (by decide) hG (fun hG => ?_) (fun hG => ?_)
  · skip
    refine r_aload_n (pc := 19) X dX8_plan_19 rfl rfl ?_
    refine r_getC (pc := 20) X (at_X8_o Hb0) rfl mU_X8 (k := 0) (by decide) (q := 1) rfl mF_X8_10 dX8_plan_20 ?_
    refine r_cV (pc := 23) hG (fun _ hg => runV X dX8_plan_23 (c_X5_startReading (at_X8_tape Hb0) hg) mM_X8_91 mI_X5_startReading mE_X5_startReading mN_X5 mK_X5_startReading (at_X5_o (at_X8_tape Hb0)) rfl rfl rfl rfl hdd_X5_startReading ⟨(Nat.le_of_ble_eq_true rfl), (Nat.le_of_ble_eq_true rfl)⟩ rfl rfl (Nat.le_of_ble_eq_true rfl) ⟨(Nat.le_of_ble_eq_true rfl), (Nat.le_of_ble_eq_true rfl)⟩) (fun h3 hG => ?_)
    refine r_aload_n (pc := 26) X dX8_plan_26 rfl rfl ?_
    refine r_getC (pc := 27) X (at_X8_o Hb0) rfl mU_X8 (k := 5) (by decide) (q := 25) rfl mF_X8_38 dX8_plan_27 ?_
    refine r_aload_n (pc := 30) X dX8_plan_30 rfl rfl ?_
    refine r_getI (pc := 31) X (at_X8_o Hb0) rfl mU_X8 (k := 6) (by decide) rfl mF_X8_102 dX8_plan_31 hG (fun z4 hG => ?_)
    refine r_aald (pc := 34) X (at_X8_plans Hb0) (by decide) rfl (by decide) dX8_plan_34 hG (fun q5 Hq5 hG => ?_)
    refine r_aload_n (pc := 35) X dX8_plan_35 rfl rfl ?_
    refine r_getC (pc := 36) X (at_X8_o Hb0) rfl mU_X8 (k := 0) (by decide) (q := 1) rfl mF_X8_10 dX8_plan_36 ?_
    refine r_aload_n (pc := 39) X dX8_plan_39 rfl rfl ?_
    refine r_getR (pc := 40) X (at_X8_o Hb0) rfl mU_X8 (k := 1) (by decide) rfl mF_X8_19 dX8_plan_40 hG (fun q6 Hq6 hG => ?_)
    refine r_cV (pc := 43) hG (fun _ hg => runV X dX8_plan_43 (c_X1_readFrom (at_X8_planAt Hb0 _ Hq5) (at_X8_tape Hb0) (at_X8_beaches Hb0 _ Hq6) hg) mM_X8_110 mI_X1_readFrom mE_X1_readFrom mN_X1 mK_X1_readFrom (at_X1_o (at_X8_planAt Hb0 _ Hq5)) rfl rfl rfl rfl hdd_X1_readFrom ⟨(Nat.le_of_ble_eq_true rfl), (Nat.le_of_ble_eq_true rfl)⟩ rfl rfl (Nat.le_of_ble_eq_true rfl) ⟨(Nat.le_of_ble_eq_true rfl), (Nat.le_of_ble_eq_true rfl)⟩) (fun h7 hG => ?_)
    refine r_aload_n (pc := 46) X dX8_plan_46 rfl rfl ?_
    refine r_getC (pc := 47) X (at_X8_o Hb0) rfl mU_X8 (k := 0) (by decide) (q := 1) rfl mF_X8_10 dX8_plan_47 ?_
    refine r_iconst (pc := 50) X dX8_plan_50 hG rfl (fun z8 hG => ?_)
    refine r_putI (pc := 51) X (at_X5_o (at_X8_tape Hb0)) rfl mU_X5 (k := 1) (by decide) rfl rfl rfl mF_X8_83 dX8_plan_51 hG (fun h9 hG => ?_)
    refine r_aload_n (pc := 54) X dX8_plan_54 rfl rfl ?_
    refine r_getC (pc := 55) X (at_X8_o Hb0) rfl mU_X8 (k := 0) (by decide) (q := 1) rfl mF_X8_10 dX8_plan_55 ?_
    refine r_cP (pc := 58) hG (fun _ hg => runV X dX8_plan_58 (c_X5_isFaulty (at_X8_tape Hb0) hg) mM_X8_98 mI_X5_isFaulty mE_X5_isFaulty mN_X5 mK_X5_isFaulty (at_X5_o (at_X8_tape Hb0)) rfl rfl rfl rfl hdd_X5_isFaulty ⟨(Nat.le_of_ble_eq_true rfl), (Nat.le_of_ble_eq_true rfl)⟩ rfl rfl (Nat.le_of_ble_eq_true rfl) ⟨(Nat.le_of_ble_eq_true rfl), (Nat.le_of_ble_eq_true rfl)⟩) (fun z10 hG => ?_)
    refine r_if_eq (pc := 61) X dX8_plan_61 (tgt := 66) (by decide) hG (fun hG => ?_) (fun hG => ?_)
    · skip
      refine r_aload_n (pc := 66) X dX8_plan_66 rfl rfl ?_
      refine r_dup (pc := 67) X dX8_plan_67 rfl ?_
      refine r_getI (pc := 68) X (at_X8_o Hb0) rfl mU_X8 (k := 6) (by decide) rfl mF_X8_102 dX8_plan_68 hG (fun z11 hG => ?_)
      refine r_iconst (pc := 71) X dX8_plan_71 hG rfl (fun z12 hG => ?_)
      refine r_iadd (pc := 72) X dX8_plan_72 hG (fun z13 hG => ?_)
      refine r_putI (pc := 73) X (at_X8_o Hb0) rfl mU_X8 (k := 6) (by decide) rfl rfl rfl mF_X8_102 dX8_plan_73 hG (fun h14 hG => ?_)
      refine r_aload_n (pc := 76) X dX8_plan_76 rfl rfl ?_
      refine r_getI (pc := 77) X (at_X8_o Hb0) rfl mU_X8 (k := 6) (by decide) rfl mF_X8_102 dX8_plan_77 hG (fun z15 hG => ?_)
      refine r_iconst (pc := 80) X dX8_plan_80 hG rfl (fun z16 hG => ?_)
      refine r_isub (pc := 81) X dX8_plan_81 hG (fun z17 hG => ?_)
      exact r_iretW (pc := 82) X dX8_plan_82 hQ hG
    · skip
      refine r_iconst (pc := 64) X dX8_plan_64 hG rfl (fun z18 hG => ?_)
      exact r_iretW (pc := 65) X dX8_plan_65 hQ hG
  · skip
    refine r_aload_n (pc := 8) X dX8_plan_8 rfl rfl ?_
    refine r_getC (pc := 9) X (at_X8_o Hb0) rfl mU_X8 (k := 0) (by decide) (q := 1) rfl mF_X8_10 dX8_plan_9 ?_
    refine r_iconst (pc := 12) X dX8_plan_12 hG rfl (fun z19 hG => ?_)
    refine r_putI (pc := 13) X (at_X5_o (at_X8_tape Hb0)) rfl mU_X5 (k := 1) (by decide) rfl rfl rfl mF_X8_83 dX8_plan_13 hG (fun h20 hG => ?_)
    refine r_bipush (pc := 16) X dX8_plan_16 hG (by decide) (fun z21 hG => ?_)
    exact r_iretW (pc := 18) X dX8_plan_18 hQ hG
theorem c_X8_plan  {r : Int × Hp} (Hb0 : At_X8 shl) (hg : g_X8_plan h = some r) : Met l yX8_plan (wsM yX8_plan cX8_plan 1 (some .int)) rm_X8_plan (va_Pc [.ref (ad 0)] (World E ad shl h)) (QcI E ad shl r.1 r.2) 0 0 (bsA E) :=
  met_of (L0 := [some (.ref (ad 0))]) rfl rfl rfl (Nat.le_of_ble_eq_true rfl) (fun _ _ _ _ _ _ _ X => w_X8_plan Hb0 X rfl hg)
abbrev rm_X8_fault : Room := { frames := 0, cells := 0, slots := 0, locals := 0 }
theorem hdd_X8_fault : yX8_fault.cls = RX8 ∧ yX8_fault.cls ≠ "java/lang/invoke/MethodHandle" ∧ yX8_fault.cls ≠ "java/lang/invoke/VarHandle" ∧ (parseMethodDescriptor yX8_fault.desc).map (fun d => d.parameters.length) = some 1 := ⟨rfl, by decide +kernel, by decide +kernel, by decide +kernel⟩
set_option maxRecDepth 100000 in
set_option maxHeartbeats 4000000 in
theorem w_X8_fault {x1 : Int32} {r : Int} (Hb0 : At_X8 shl) (X : Cx E p s m args meth c cX8_fault RX8 2 (some .int)) (hQ : Q = MQ below (QcI E ad shl r h) args s 0 0 (bsA E)) (hG : g_X8_fault x1.toInt h = some r) : Ev E ad shl p l e rm_X8_fault s m args below meth c 0 0 Q 2 h 0 [some (.ref (ad 0)), some (.int x1)] [] := by
  unfold g_X8_fault at hG
  refine r_iload_n (pc := 0) X dX8_fault_0 rfl rfl ?_
  refine r_join hG (fun a1 => ∀ (y3 : Int32), a1 = y3.toInt → Ev E ad shl p l e rm_X8_fault s m args below meth c 0 0 Q 2 h 49 [none, none] [.int y3]) (fun a1 hG => ?_) (fun j2 Hj2 hG => ?_)
  · skip
    intro y3 ha; have ha := ha.symm; subst ha
    exact r_iretP (pc := 49) X dX8_fault_49 hQ hG
  refine r_ite hG (fun e4 hG => ?_) (fun e4 hG => ?_)
  · refine r_lsIn (pc := 1) X dX8_fault_1 e4 (by decide) rfl (tgt := 28) (by decide) ?_
    refine r_aload_n (pc := 28) X dX8_fault_28 rfl rfl ?_
    refine r_getC (pc := 29) X (at_X8_o Hb0) rfl mU_X8 (k := 0) (by decide) (q := 1) rfl mF_X8_10 dX8_fault_29 ?_
    refine r_getI (pc := 32) X (at_X5_o (at_X8_tape Hb0)) rfl mU_X5 (k := 6) (by decide) rfl mF_X8_113 dX8_fault_32 hG (fun z5 hG => ?_)
    refine r_goto (pc := 35) X dX8_fault_35 (tgt := 49) (by decide) ?_
    exact r_mask [false, false] rfl (Hj2 _ hG z5 rfl)
  refine r_ite hG (fun e6 hG => ?_) (fun e6 hG => ?_)
  · refine r_lsIn (pc := 1) X dX8_fault_1 e6 (by decide) rfl (tgt := 38) (by decide) ?_
    refine r_aload_n (pc := 38) X dX8_fault_38 rfl rfl ?_
    refine r_getC (pc := 39) X (at_X8_o Hb0) rfl mU_X8 (k := 0) (by decide) (q := 1) rfl mF_X8_10 dX8_fault_39 ?_
    refine r_getI (pc := 42) X (at_X5_o (at_X8_tape Hb0)) rfl mU_X5 (k := 7) (by decide) rfl mF_X8_116 dX8_fault_42 hG (fun z7 hG => ?_)
    refine r_goto (pc := 45) X dX8_fault_45 (tgt := 49) (by decide) ?_
    exact r_mask [false, false] rfl (Hj2 _ hG z7 rfl)
  refine r_lsOut (pc := 1) X dX8_fault_1 (lsw e4 (lsw e6 (rfl))) (by decide) (tgt := 48) (by decide) ?_
  refine r_iconst (pc := 48) X dX8_fault_48 hG rfl (fun z8 hG => ?_)
  exact r_mask [false, false] rfl (Hj2 _ hG z8 rfl)
theorem c_X8_fault {x1 : Int32} {r : Int} (Hb0 : At_X8 shl) (hg : g_X8_fault x1.toInt h = some r) : Met l yX8_fault (wsM yX8_fault cX8_fault 2 (some .int)) rm_X8_fault (va_Pc [.ref (ad 0), .int x1] (World E ad shl h)) (QcI E ad shl r h) 0 0 (bsA E) :=
  met_of (L0 := [some (.ref (ad 0)), some (.int x1)]) rfl rfl rfl (Nat.le_of_ble_eq_true rfl) (fun _ _ _ _ _ _ _ X => w_X8_fault Hb0 X rfl hg)
abbrev rm_X8_told : Room := { frames := 0, cells := 0, slots := 0, locals := 0 }
theorem hdd_X8_told : yX8_told.cls = RX8 ∧ yX8_told.cls ≠ "java/lang/invoke/MethodHandle" ∧ yX8_told.cls ≠ "java/lang/invoke/VarHandle" ∧ (parseMethodDescriptor yX8_told.desc).map (fun d => d.parameters.length) = some 1 := ⟨rfl, by decide +kernel, by decide +kernel, by decide +kernel⟩
set_option maxRecDepth 100000 in
set_option maxHeartbeats 4000000 in
theorem w_X8_told {x1 : Int32} {r : Int} (Hb0 : At_X8 shl) (X : Cx E p s m args meth c cX8_told RX8 3 (some .int)) (hQ : Q = MQ below (QcI E ad shl r h) args s 0 0 (bsA E)) (hG : g_X8_told x1.toInt h = some r) : Ev E ad shl p l e rm_X8_told s m args below meth c 0 0 Q 3 h 0 [some (.ref (ad 0)), some (.int x1), none] [] := by
  unfold g_X8_told at hG
  refine r_iload_n (pc := 0) X dX8_told_0 rfl rfl ?_
  refine r_join hG (fun _ => Ev E ad shl p l e rm_X8_told s m args below meth c 0 0 Q 3 h 20 [some (.ref (ad 0)), some (.int x1), none] []) (fun a1 hG => ?_) (fun j2 Hj2 hG => ?_)
  · skip
    refine r_iload_n (pc := 20) X dX8_told_20 rfl rfl ?_
    refine r_bipush (pc := 21) X dX8_told_21 hG (by decide) (fun z3 hG => ?_)
    refine r_isub (pc := 23) X dX8_told_23 hG (fun z4 hG => ?_)
    refine r_istore_n (pc := 24) (L' := [some (.ref (ad 0)), some (.int x1), some (.int z4)]) X dX8_told_24 rfl (by decide) rfl rfl ?_
    refine r_iload_n (pc := 25) X dX8_told_25 rfl rfl ?_
    refine r_join hG (fun _ => Ev E ad shl p l e rm_X8_told s m args below meth c 0 0 Q 3 h 45 [some (.ref (ad 0)), some (.int x1), none] []) (fun a5 hG => ?_) (fun j6 Hj6 hG => ?_)
    · skip
      refine r_iload_n (pc := 45) X dX8_told_45 rfl rfl ?_
      refine r_join hG (fun a7 => ∀ (y9 : Int32), a7 = y9.toInt → Ev E ad shl p l e rm_X8_told s m args below meth c 0 0 Q 3 h 126 [none, none, none] [.int y9]) (fun a7 hG => ?_) (fun j8 Hj8 hG => ?_)
      · skip
        intro y9 ha; have ha := ha.symm; subst ha
        exact r_iretP (pc := 126) X dX8_told_126 hQ hG
      refine r_ite hG (fun e10 hG => ?_) (fun e10 hG => ?_)
      · refine r_lsIn (pc := 46) X dX8_told_46 e10 (by decide) rfl (tgt := 88) (by decide) ?_
        refine r_aload_n (pc := 88) X dX8_told_88 rfl rfl ?_
        refine r_getR (pc := 89) X (at_X8_o Hb0) rfl mU_X8 (k := 1) (by decide) rfl mF_X8_19 dX8_told_89 hG (fun q11 Hq11 hG => ?_)
        refine r_getI (pc := 92) X (at_X0_o (at_X8_beaches Hb0 _ Hq11)) rfl mU_X0 (k := 5) (by decide) rfl mF_X8_124 dX8_told_92 hG (fun z12 hG => ?_)
        refine r_goto (pc := 95) X dX8_told_95 (tgt := 126) (by decide) ?_
        exact r_mask [false, false, false] rfl (Hj8 _ hG z12 rfl)
      refine r_ite hG (fun e13 hG => ?_) (fun e13 hG => ?_)
      · refine r_lsIn (pc := 46) X dX8_told_46 e13 (by decide) rfl (tgt := 98) (by decide) ?_
        refine r_aload_n (pc := 98) X dX8_told_98 rfl rfl ?_
        refine r_getR (pc := 99) X (at_X8_o Hb0) rfl mU_X8 (k := 3) (by decide) rfl mF_X8_29 dX8_told_99 hG (fun q14 Hq14 hG => ?_)
        refine r_getI (pc := 102) X (at_X2_o (at_X8_seas Hb0 _ Hq14)) rfl mU_X2 (k := 4) (by decide) rfl mF_X8_127 dX8_told_102 hG (fun z15 hG => ?_)
        refine r_goto (pc := 105) X dX8_told_105 (tgt := 126) (by decide) ?_
        exact r_mask [false, false, false] rfl (Hj8 _ hG z15 rfl)
      refine r_ite hG (fun e16 hG => ?_) (fun e16 hG => ?_)
      · refine r_lsIn (pc := 46) X dX8_told_46 e16 (by decide) rfl (tgt := 108) (by decide) ?_
        refine r_aload_n (pc := 108) X dX8_told_108 rfl rfl ?_
        refine r_getI (pc := 109) X (at_X8_o Hb0) rfl mU_X8 (k := 6) (by decide) rfl mF_X8_102 dX8_told_109 hG (fun z17 hG => ?_)
        refine r_goto (pc := 112) X dX8_told_112 (tgt := 126) (by decide) ?_
        exact r_mask [false, false, false] rfl (Hj8 _ hG z17 rfl)
      refine r_ite hG (fun e18 hG => ?_) (fun e18 hG => ?_)
      · refine r_lsIn (pc := 46) X dX8_told_46 e18 (by decide) rfl (tgt := 115) (by decide) ?_
        refine r_aload_n (pc := 115) X dX8_told_115 rfl rfl ?_
        refine r_getC (pc := 116) X (at_X8_o Hb0) rfl mU_X8 (k := 7) (by decide) (q := 26) rfl mF_X8_45 dX8_told_116 ?_
        refine r_getI (pc := 119) X (at_X3_o (at_X8_now Hb0)) rfl mU_X3 (k := 7) (by decide) rfl mF_X8_130 dX8_told_119 hG (fun z19 hG => ?_)
        refine r_goto (pc := 122) X dX8_told_122 (tgt := 126) (by decide) ?_
        exact r_mask [false, false, false] rfl (Hj8 _ hG z19 rfl)
      refine r_lsOut (pc := 46) X dX8_told_46 (lsw e10 (lsw e13 (lsw e16 (lsw e18 (rfl))))) (by decide) (tgt := 125) (by decide) ?_
      refine r_iconst (pc := 125) X dX8_told_125 hG rfl (fun z20 hG => ?_)
      exact r_mask [false, false, false] rfl (Hj8 _ hG z20 rfl)
    refine r_if_lt (pc := 26) X dX8_told_26 (tgt := 45) (by decide) hG (fun hG => ?_) (fun hG => ?_)
    · skip
      exact r_mask [true, true, false] rfl (Hj6 _ hG)
    · skip
      refine r_iload_n (pc := 29) X dX8_told_29 rfl rfl ?_
      refine r_bipush (pc := 30) X dX8_told_30 hG (by decide) (fun z21 hG => ?_)
      refine r_icmp_ge (pc := 32) X dX8_told_32 (tgt := 45) (by decide) hG (fun hG => ?_) (fun hG => ?_)
      · skip
        exact r_mask [true, true, false] rfl (Hj6 _ hG)
      · skip
        refine r_aload_n (pc := 35) X dX8_told_35 rfl rfl ?_
        refine r_getR (pc := 36) X (at_X8_o Hb0) rfl mU_X8 (k := 3) (by decide) rfl mF_X8_29 dX8_told_36 hG (fun q22 Hq22 hG => ?_)
        refine r_getC (pc := 39) X (at_X2_o (at_X8_seas Hb0 _ Hq22)) rfl mU_X2 (k := 0) (by decide) (q := (q22 + 1)) rfl mF_X8_123 dX8_told_39 ?_
        refine r_iload_n (pc := 42) X dX8_told_42 rfl rfl ?_
        refine r_iald (pc := 43) X (at_X2_numbers (at_X8_seas Hb0 _ Hq22)) dX8_told_43 hG (fun z23 hG => ?_)
        exact r_iretP (pc := 44) X dX8_told_44 hQ hG
  refine r_if_lt (pc := 1) X dX8_told_1 (tgt := 20) (by decide) hG (fun hG => ?_) (fun hG => ?_)
  · skip
    exact r_mask [true, true, false] rfl (Hj2 _ hG)
  · skip
    refine r_iload_n (pc := 4) X dX8_told_4 rfl rfl ?_
    refine r_bipush (pc := 5) X dX8_told_5 hG (by decide) (fun z24 hG => ?_)
    refine r_icmp_ge (pc := 7) X dX8_told_7 (tgt := 20) (by decide) hG (fun hG => ?_) (fun hG => ?_)
    · skip
      exact r_mask [true, true, false] rfl (Hj2 _ hG)
    · skip
      refine r_aload_n (pc := 10) X dX8_told_10 rfl rfl ?_
      refine r_getR (pc := 11) X (at_X8_o Hb0) rfl mU_X8 (k := 1) (by decide) rfl mF_X8_19 dX8_told_11 hG (fun q25 Hq25 hG => ?_)
      refine r_getC (pc := 14) X (at_X0_o (at_X8_beaches Hb0 _ Hq25)) rfl mU_X0 (k := 0) (by decide) (q := (q25 + 1)) rfl mF_X8_119 dX8_told_14 ?_
      refine r_iload_n (pc := 17) X dX8_told_17 rfl rfl ?_
      refine r_iald (pc := 18) X (at_X0_numbers (at_X8_beaches Hb0 _ Hq25)) dX8_told_18 hG (fun z26 hG => ?_)
      exact r_iretP (pc := 19) X dX8_told_19 hQ hG
theorem c_X8_told {x1 : Int32} {r : Int} (Hb0 : At_X8 shl) (hg : g_X8_told x1.toInt h = some r) : Met l yX8_told (wsM yX8_told cX8_told 3 (some .int)) rm_X8_told (va_Pc [.ref (ad 0), .int x1] (World E ad shl h)) (QcI E ad shl r h) 0 0 (bsA E) :=
  met_of (L0 := [some (.ref (ad 0)), some (.int x1), none]) rfl rfl rfl (Nat.le_of_ble_eq_true rfl) (fun _ _ _ _ _ _ _ X => w_X8_told Hb0 X rfl hg)
abbrev rm_X8_wave : Room := { frames := 0, cells := 0, slots := 0, locals := 0 }
theorem hdd_X8_wave : yX8_wave.cls = RX8 ∧ yX8_wave.cls ≠ "java/lang/invoke/MethodHandle" ∧ yX8_wave.cls ≠ "java/lang/invoke/VarHandle" ∧ (parseMethodDescriptor yX8_wave.desc).map (fun d => d.parameters.length) = some 2 := ⟨rfl, by decide +kernel, by decide +kernel, by decide +kernel⟩
set_option maxRecDepth 100000 in
set_option maxHeartbeats 4000000 in
theorem w_X8_wave {x1 : Int32} {x2 : Int32} {r : Int} (Hb0 : At_X8 shl) (X : Cx E p s m args meth c cX8_wave RX8 3 (some .int)) (hQ : Q = MQ below (QcI E ad shl r h) args s 0 0 (bsA E)) (hG : g_X8_wave x1.toInt x2.toInt h = some r) : Ev E ad shl p l e rm_X8_wave s m args below meth c 0 0 Q 3 h 0 [some (.ref (ad 0)), some (.int x1), some (.int x2)] [] := by
  unfold g_X8_wave at hG
  refine r_iload_n (pc := 0) X dX8_wave_0 rfl rfl ?_
  refine r_join hG (fun _ => Ev E ad shl p l e rm_X8_wave s m args below meth c 0 0 Q 3 h 15 [none, none, none] []) (fun a1 hG => ?_) (fun j2 Hj2 hG => ?_)
  · skip
    refine r_bipush (pc := 15) X dX8_wave_15 hG (by decide) (fun z3 hG => ?_)
    exact r_iretP (pc := 17) X dX8_wave_17 hQ hG
  refine r_if_lt (pc := 1) X dX8_wave_1 (tgt := 15) (by decide) hG (fun hG => ?_) (fun hG => ?_)
  · skip
    exact r_mask [false, false, false] rfl (Hj2 _ hG)
  · skip
    refine r_iload_n (pc := 4) X dX8_wave_4 rfl rfl ?_
    refine r_aload_n (pc := 5) X dX8_wave_5 rfl rfl ?_
    refine r_getR (pc := 6) X (at_X8_o Hb0) rfl mU_X8 (k := 3) (by decide) rfl mF_X8_29 dX8_wave_6 hG (fun q4 Hq4 hG => ?_)
    refine r_getI (pc := 9) X (at_X2_o (at_X8_seas Hb0 _ Hq4)) rfl mU_X2 (k := 4) (by decide) rfl mF_X8_127 dX8_wave_9 hG (fun z5 hG => ?_)
    refine r_icmp_lt (pc := 12) X dX8_wave_12 (tgt := 18) (by decide) hG (fun hG => ?_) (fun hG => ?_)
    · skip
      refine r_iload_n (pc := 18) X dX8_wave_18 rfl rfl ?_
      refine r_join hG (fun a6 => ∀ (y8 : Int32), a6 = y8.toInt → Ev E ad shl p l e rm_X8_wave s m args below meth c 0 0 Q 3 h 82 [none, none, none] [.int y8]) (fun a6 hG => ?_) (fun j7 Hj7 hG => ?_)
      · skip
        intro y8 ha; have ha := ha.symm; subst ha
        exact r_iretP (pc := 82) X dX8_wave_82 hQ hG
      refine r_ite hG (fun e9 hG => ?_) (fun e9 hG => ?_)
      · refine r_tsIn (pc := 19) X dX8_wave_19 e9 (by decide) (by decide) rfl (tgt := 44) (by decide) ?_
        refine r_aload_n (pc := 44) X dX8_wave_44 rfl rfl ?_
        refine r_getR (pc := 45) X (at_X8_o Hb0) rfl mU_X8 (k := 3) (by decide) rfl mF_X8_29 dX8_wave_45 hG (fun q10 Hq10 hG => ?_)
        refine r_getC (pc := 48) X (at_X2_o (at_X8_seas Hb0 _ Hq10)) rfl mU_X2 (k := 1) (by decide) (q := (q10 + 2)) rfl mF_X8_133 dX8_wave_48 ?_
        refine r_iload_n (pc := 51) X dX8_wave_51 rfl rfl ?_
        refine r_iald (pc := 52) X (at_X2_minutes (at_X8_seas Hb0 _ Hq10)) dX8_wave_52 hG (fun z11 hG => ?_)
        refine r_goto (pc := 53) X dX8_wave_53 (tgt := 82) (by decide) ?_
        exact r_mask [false, false, false] rfl (Hj7 _ hG z11 rfl)
      refine r_ite hG (fun e12 hG => ?_) (fun e12 hG => ?_)
      · refine r_tsIn (pc := 19) X dX8_wave_19 e12 (by decide) (by decide) rfl (tgt := 56) (by decide) ?_
        refine r_aload_n (pc := 56) X dX8_wave_56 rfl rfl ?_
        refine r_getR (pc := 57) X (at_X8_o Hb0) rfl mU_X8 (k := 3) (by decide) rfl mF_X8_29 dX8_wave_57 hG (fun q13 Hq13 hG => ?_)
        refine r_getC (pc := 60) X (at_X2_o (at_X8_seas Hb0 _ Hq13)) rfl mU_X2 (k := 2) (by decide) (q := (q13 + 3)) rfl mF_X8_136 dX8_wave_60 ?_
        refine r_iload_n (pc := 63) X dX8_wave_63 rfl rfl ?_
        refine r_iald (pc := 64) X (at_X2_reaches (at_X8_seas Hb0 _ Hq13)) dX8_wave_64 hG (fun z14 hG => ?_)
        refine r_goto (pc := 65) X dX8_wave_65 (tgt := 82) (by decide) ?_
        exact r_mask [false, false, false] rfl (Hj7 _ hG z14 rfl)
      refine r_ite hG (fun e15 hG => ?_) (fun e15 hG => ?_)
      · refine r_tsIn (pc := 19) X dX8_wave_19 e15 (by decide) (by decide) rfl (tgt := 68) (by decide) ?_
        refine r_aload_n (pc := 68) X dX8_wave_68 rfl rfl ?_
        refine r_getR (pc := 69) X (at_X8_o Hb0) rfl mU_X8 (k := 3) (by decide) rfl mF_X8_29 dX8_wave_69 hG (fun q16 Hq16 hG => ?_)
        refine r_getC (pc := 72) X (at_X2_o (at_X8_seas Hb0 _ Hq16)) rfl mU_X2 (k := 3) (by decide) (q := (q16 + 4)) rfl mF_X8_139 dX8_wave_72 ?_
        refine r_iload_n (pc := 75) X dX8_wave_75 rfl rfl ?_
        refine r_iald (pc := 76) X (at_X2_levels (at_X8_seas Hb0 _ Hq16)) dX8_wave_76 hG (fun z17 hG => ?_)
        refine r_goto (pc := 77) X dX8_wave_77 (tgt := 82) (by decide) ?_
        exact r_mask [false, false, false] rfl (Hj7 _ hG z17 rfl)
      refine r_tsOut (pc := 19) X dX8_wave_19 (by omega) (tgt := 80) (by decide) ?_
      refine r_bipush (pc := 80) X dX8_wave_80 hG (by decide) (fun z18 hG => ?_)
      exact r_mask [false, false, false] rfl (Hj7 _ hG z18 rfl)
    · skip
      exact r_mask [false, false, false] rfl (Hj2 _ hG)
theorem c_X8_wave {x1 : Int32} {x2 : Int32} {r : Int} (Hb0 : At_X8 shl) (hg : g_X8_wave x1.toInt x2.toInt h = some r) : Met l yX8_wave (wsM yX8_wave cX8_wave 3 (some .int)) rm_X8_wave (va_Pc [.ref (ad 0), .int x1, .int x2] (World E ad shl h)) (QcI E ad shl r h) 0 0 (bsA E) :=
  met_of (L0 := [some (.ref (ad 0)), some (.int x1), some (.int x2)]) rfl rfl rfl (Nat.le_of_ble_eq_true rfl) (fun _ _ _ _ _ _ _ X => w_X8_wave Hb0 X rfl hg)
abbrev rm_X8_act : Room := { frames := 0, cells := 0, slots := 0, locals := 0 }
theorem hdd_X8_act : yX8_act.cls = RX8 ∧ yX8_act.cls ≠ "java/lang/invoke/MethodHandle" ∧ yX8_act.cls ≠ "java/lang/invoke/VarHandle" ∧ (parseMethodDescriptor yX8_act.desc).map (fun d => d.parameters.length) = some 4 := ⟨rfl, by decide +kernel, by decide +kernel, by decide +kernel⟩
set_option maxRecDepth 100000 in
set_option maxHeartbeats 4000000 in
theorem w_X8_act {x1 : Int32} {x2 : Int32} {x3 : Int32} {x4 : Int32} {r : Int} (Hb0 : At_X8 shl) (X : Cx E p s m args meth c cX8_act RX8 7 (some .int)) (hQ : Q = MQ below (QcI E ad shl r h) args s 0 0 (bsA E)) (hG : g_X8_act x1.toInt x2.toInt x3.toInt x4.toInt h = some r) : Ev E ad shl p l e rm_X8_act s m args below meth c 0 0 Q 7 h 0 [some (.ref (ad 0)), some (.int x1), some (.int x2), some (.int x3), some (.int x4), none, none] [] := by
  unfold g_X8_act at hG
  refine r_iload_n (pc := 0) X dX8_act_0 rfl rfl ?_
  refine r_join hG (fun _ => Ev E ad shl p l e rm_X8_act s m args below meth c 0 0 Q 7 h 12 [none, none, none, none, none, none, none] []) (fun a1 hG => ?_) (fun j2 Hj2 hG => ?_)
  · skip
    refine r_bipush (pc := 12) X dX8_act_12 hG (by decide) (fun z3 hG => ?_)
    exact r_iretP (pc := 14) X dX8_act_14 hQ hG
  refine r_if_lt (pc := 1) X dX8_act_1 (tgt := 12) (by decide) hG (fun hG => ?_) (fun hG => ?_)
  · skip
    exact r_mask [false, false, false, false, false, false, false] rfl (Hj2 _ hG)
  · skip
    refine r_iload_n (pc := 4) X dX8_act_4 rfl rfl ?_
    refine r_aload_n (pc := 5) X dX8_act_5 rfl rfl ?_
    refine r_getI (pc := 6) X (at_X8_o Hb0) rfl mU_X8 (k := 6) (by decide) rfl mF_X8_102 dX8_act_6 hG (fun z4 hG => ?_)
    refine r_icmp_lt (pc := 9) X dX8_act_9 (tgt := 15) (by decide) hG (fun hG => ?_) (fun hG => ?_)
    · skip
      refine r_aload_n (pc := 15) X dX8_act_15 rfl rfl ?_
      refine r_getC (pc := 16) X (at_X8_o Hb0) rfl mU_X8 (k := 5) (by decide) (q := 25) rfl mF_X8_38 dX8_act_16 ?_
      refine r_iload_n (pc := 19) X dX8_act_19 rfl rfl ?_
      refine r_aald (pc := 20) X (at_X8_plans Hb0) (by decide) rfl (by decide) dX8_act_20 hG (fun q5 Hq5 hG => ?_)
      refine r_astore (pc := 21) (L' := [some (.ref (ad 0)), some (.int x1), some (.int x2), some (.int x3), some (.int x4), some (.ref (ad (61 + 5 * q5))), none]) X dX8_act_21 (by decide) rfl rfl ?_
      refine r_iload_n (pc := 23) X dX8_act_23 rfl rfl ?_
      refine r_iconst (pc := 24) X dX8_act_24 hG rfl (fun z6 hG => ?_)
      refine r_icmp_ne (pc := 25) X dX8_act_25 (tgt := 34) (by decide) hG (fun hG => ?_) (fun hG => ?_)
      · skip
        refine r_iload_n (pc := 34) X dX8_act_34 rfl rfl ?_
        refine r_join hG (fun _ => Ev E ad shl p l e rm_X8_act s m args below meth c 0 0 Q 7 h 47 [none, none, none, none, none, none, none] []) (fun a7 hG => ?_) (fun j8 Hj8 hG => ?_)
        · skip
          refine r_bipush (pc := 47) X dX8_act_47 hG (by decide) (fun z9 hG => ?_)
          exact r_iretP (pc := 49) X dX8_act_49 hQ hG
        refine r_if_lt (pc := 35) X dX8_act_35 (tgt := 47) (by decide) hG (fun hG => ?_) (fun hG => ?_)
        · skip
          exact r_mask [false, false, false, false, false, false, false] rfl (Hj8 _ hG)
        · skip
          refine r_iload_n (pc := 38) X dX8_act_38 rfl rfl ?_
          refine r_aload (pc := 39) X dX8_act_39 rfl ?_
          refine r_getI (pc := 41) X (at_X1_o (at_X8_planAt Hb0 _ Hq5)) rfl mU_X1 (k := 4) (by decide) rfl mF_X8_142 dX8_act_41 hG (fun z10 hG => ?_)
          refine r_icmp_lt (pc := 44) X dX8_act_44 (tgt := 50) (by decide) hG (fun hG => ?_) (fun hG => ?_)
          · skip
            refine r_iload_n (pc := 50) X dX8_act_50 rfl rfl ?_
            refine r_iconst (pc := 51) X dX8_act_51 hG rfl (fun z11 hG => ?_)
            refine r_icmp_ne (pc := 52) X dX8_act_52 (tgt := 63) (by decide) hG (fun hG => ?_) (fun hG => ?_)
            · skip
              refine r_iload_n (pc := 63) X dX8_act_63 rfl rfl ?_
              refine r_join hG (fun _ => Ev E ad shl p l e rm_X8_act s m args below meth c 0 0 Q 7 h 78 [none, none, none, none, none, none, none] []) (fun a12 hG => ?_) (fun j13 Hj13 hG => ?_)
              · skip
                refine r_bipush (pc := 78) X dX8_act_78 hG (by decide) (fun z14 hG => ?_)
                exact r_iretP (pc := 80) X dX8_act_80 hQ hG
              refine r_if_lt (pc := 64) X dX8_act_64 (tgt := 78) (by decide) hG (fun hG => ?_) (fun hG => ?_)
              · skip
                exact r_mask [false, false, false, false, false, false, false] rfl (Hj13 _ hG)
              · skip
                refine r_iload_n (pc := 67) X dX8_act_67 rfl rfl ?_
                refine r_aload (pc := 68) X dX8_act_68 rfl ?_
                refine r_getC (pc := 70) X (at_X1_o (at_X8_planAt Hb0 _ Hq5)) rfl mU_X1 (k := 0) (by decide) (q := ((61 + 5 * q5) + 1)) rfl mF_X8_145 dX8_act_70 ?_
                refine r_iload_n (pc := 73) X dX8_act_73 rfl rfl ?_
                refine r_iald (pc := 74) X (at_X1_acts (at_X8_planAt Hb0 _ Hq5)) dX8_act_74 hG (fun z15 hG => ?_)
                refine r_icmp_lt (pc := 75) X dX8_act_75 (tgt := 81) (by decide) hG (fun hG => ?_) (fun hG => ?_)
                · skip
                  refine r_iload_n (pc := 81) X dX8_act_81 rfl rfl ?_
                  refine r_bipush (pc := 82) X dX8_act_82 hG (by decide) (fun z16 hG => ?_)
                  refine r_imul (pc := 84) X dX8_act_84 hG (fun z17 hG => ?_)
                  refine r_iload_n (pc := 85) X dX8_act_85 rfl rfl ?_
                  refine r_iadd (pc := 86) X dX8_act_86 hG (fun z18 hG => ?_)
                  refine r_istore (pc := 87) (L' := [some (.ref (ad 0)), some (.int x1), some (.int x2), some (.int x3), some (.int x4), some (.ref (ad (61 + 5 * q5))), some (.int z18)]) X dX8_act_87 (by decide) rfl rfl ?_
                  refine r_iload (pc := 89) X dX8_act_89 rfl ?_
                  refine r_join hG (fun a19 => ∀ (y21 : Int32), a19 = y21.toInt → Ev E ad shl p l e rm_X8_act s m args below meth c 0 0 Q 7 h 151 [none, none, none, none, none, none, none] [.int y21]) (fun a19 hG => ?_) (fun j20 Hj20 hG => ?_)
                  · skip
                    intro y21 ha; have ha := ha.symm; subst ha
                    exact r_iretP (pc := 151) X dX8_act_151 hQ hG
                  refine r_ite hG (fun e22 hG => ?_) (fun e22 hG => ?_)
                  · refine r_tsIn (pc := 91) X dX8_act_91 e22 (by decide) (by decide) rfl (tgt := 116) (by decide) ?_
                    refine r_aload (pc := 116) X dX8_act_116 rfl ?_
                    refine r_getC (pc := 118) X (at_X1_o (at_X8_planAt Hb0 _ Hq5)) rfl mU_X1 (k := 1) (by decide) (q := ((61 + 5 * q5) + 2)) rfl mF_X8_148 dX8_act_118 ?_
                    refine r_iload (pc := 121) X dX8_act_121 rfl ?_
                    refine r_iald (pc := 123) X (at_X1_kinds (at_X8_planAt Hb0 _ Hq5)) dX8_act_123 hG (fun z23 hG => ?_)
                    refine r_goto (pc := 124) X dX8_act_124 (tgt := 151) (by decide) ?_
                    exact r_mask [false, false, false, false, false, false, false] rfl (Hj20 _ hG z23 rfl)
                  refine r_ite hG (fun e24 hG => ?_) (fun e24 hG => ?_)
                  · refine r_tsIn (pc := 91) X dX8_act_91 e24 (by decide) (by decide) rfl (tgt := 127) (by decide) ?_
                    refine r_aload (pc := 127) X dX8_act_127 rfl ?_
                    refine r_getC (pc := 129) X (at_X1_o (at_X8_planAt Hb0 _ Hq5)) rfl mU_X1 (k := 2) (by decide) (q := ((61 + 5 * q5) + 3)) rfl mF_X8_151 dX8_act_129 ?_
                    refine r_iload (pc := 132) X dX8_act_132 rfl ?_
                    refine r_iald (pc := 134) X (at_X1_cells (at_X8_planAt Hb0 _ Hq5)) dX8_act_134 hG (fun z25 hG => ?_)
                    refine r_goto (pc := 135) X dX8_act_135 (tgt := 151) (by decide) ?_
                    exact r_mask [false, false, false, false, false, false, false] rfl (Hj20 _ hG z25 rfl)
                  refine r_ite hG (fun e26 hG => ?_) (fun e26 hG => ?_)
                  · refine r_tsIn (pc := 91) X dX8_act_91 e26 (by decide) (by decide) rfl (tgt := 138) (by decide) ?_
                    refine r_aload (pc := 138) X dX8_act_138 rfl ?_
                    refine r_getC (pc := 140) X (at_X1_o (at_X8_planAt Hb0 _ Hq5)) rfl mU_X1 (k := 3) (by decide) (q := ((61 + 5 * q5) + 4)) rfl mF_X8_154 dX8_act_140 ?_
                    refine r_iload (pc := 143) X dX8_act_143 rfl ?_
                    refine r_iald (pc := 145) X (at_X1_targets (at_X8_planAt Hb0 _ Hq5)) dX8_act_145 hG (fun z27 hG => ?_)
                    refine r_goto (pc := 146) X dX8_act_146 (tgt := 151) (by decide) ?_
                    exact r_mask [false, false, false, false, false, false, false] rfl (Hj20 _ hG z27 rfl)
                  refine r_tsOut (pc := 91) X dX8_act_91 (by omega) (tgt := 149) (by decide) ?_
                  refine r_bipush (pc := 149) X dX8_act_149 hG (by decide) (fun z28 hG => ?_)
                  exact r_mask [false, false, false, false, false, false, false] rfl (Hj20 _ hG z28 rfl)
                · skip
                  exact r_mask [false, false, false, false, false, false, false] rfl (Hj13 _ hG)
            · skip
              refine r_aload (pc := 55) X dX8_act_55 rfl ?_
              refine r_getC (pc := 57) X (at_X1_o (at_X8_planAt Hb0 _ Hq5)) rfl mU_X1 (k := 0) (by decide) (q := ((61 + 5 * q5) + 1)) rfl mF_X8_145 dX8_act_57 ?_
              refine r_iload_n (pc := 60) X dX8_act_60 rfl rfl ?_
              refine r_iald (pc := 61) X (at_X1_acts (at_X8_planAt Hb0 _ Hq5)) dX8_act_61 hG (fun z29 hG => ?_)
              exact r_iretP (pc := 62) X dX8_act_62 hQ hG
          · skip
            exact r_mask [false, false, false, false, false, false, false] rfl (Hj8 _ hG)
      · skip
        refine r_aload (pc := 28) X dX8_act_28 rfl ?_
        refine r_getI (pc := 30) X (at_X1_o (at_X8_planAt Hb0 _ Hq5)) rfl mU_X1 (k := 4) (by decide) rfl mF_X8_142 dX8_act_30 hG (fun z30 hG => ?_)
        exact r_iretP (pc := 33) X dX8_act_33 hQ hG
    · skip
      exact r_mask [false, false, false, false, false, false, false] rfl (Hj2 _ hG)
theorem c_X8_act {x1 : Int32} {x2 : Int32} {x3 : Int32} {x4 : Int32} {r : Int} (Hb0 : At_X8 shl) (hg : g_X8_act x1.toInt x2.toInt x3.toInt x4.toInt h = some r) : Met l yX8_act (wsM yX8_act cX8_act 7 (some .int)) rm_X8_act (va_Pc [.ref (ad 0), .int x1, .int x2, .int x3, .int x4] (World E ad shl h)) (QcI E ad shl r h) 0 0 (bsA E) :=
  met_of (L0 := [some (.ref (ad 0)), some (.int x1), some (.int x2), some (.int x3), some (.int x4), none, none]) rfl rfl rfl (Nat.le_of_ble_eq_true rfl) (fun _ _ _ _ _ _ _ X => w_X8_act Hb0 X rfl hg)
abbrev rm_X8_chance : Room := { frames := 0, cells := 0, slots := 0, locals := 0 }
theorem hdd_X8_chance : yX8_chance.cls = RX8 ∧ yX8_chance.cls ≠ "java/lang/invoke/MethodHandle" ∧ yX8_chance.cls ≠ "java/lang/invoke/VarHandle" ∧ (parseMethodDescriptor yX8_chance.desc).map (fun d => d.parameters.length) = some 1 := ⟨rfl, by decide +kernel, by decide +kernel, by decide +kernel⟩
set_option maxRecDepth 100000 in
set_option maxHeartbeats 4000000 in
theorem w_X8_chance {x1 : Int32} {r : Int × Hp} (Hb0 : At_X8 shl) (X : Cx E p s m args meth c cX8_chance RX8 2 (some .int)) (hQ : Q = MQ below (QcI E ad shl r.1 r.2) args s 0 0 (bsA E)) (hG : g_X8_chance x1.toInt h = some r) : Ev E ad shl p l e rm_X8_chance s m args below meth c 0 0 Q 2 h 0 [some (.ref (ad 0)), some (.int x1)] [] := by
  unfold g_X8_chance at hG
  refine r_iload_n (pc := 0) X dX8_chance_0 rfl rfl ?_
  refine r_if_ge (pc := 1) X dX8_chance_1 (tgt := 7) (by decide) hG (fun hG => ?_) (fun hG => ?_)
  · skip
    refine r_aload_n (pc := 7) X dX8_chance_7 rfl rfl ?_
    refine r_getC (pc := 8) X (at_X8_o Hb0) rfl mU_X8 (k := 7) (by decide) (q := 26) rfl mF_X8_45 dX8_chance_8 ?_
    refine r_iload_n (pc := 11) X dX8_chance_11 rfl rfl ?_
    refine r_putI (pc := 12) X (at_X3_o (at_X8_now Hb0)) rfl mU_X3 (k := 8) (by decide) rfl rfl rfl mF_X8_157 dX8_chance_12 hG (fun h1 hG => ?_)
    refine r_iconst (pc := 15) X dX8_chance_15 hG rfl (fun z2 hG => ?_)
    exact r_iretW (pc := 16) X dX8_chance_16 hQ hG
  · skip
    refine r_bipush (pc := 4) X dX8_chance_4 hG (by decide) (fun z3 hG => ?_)
    exact r_iretW (pc := 6) X dX8_chance_6 hQ hG
theorem c_X8_chance {x1 : Int32} {r : Int × Hp} (Hb0 : At_X8 shl) (hg : g_X8_chance x1.toInt h = some r) : Met l yX8_chance (wsM yX8_chance cX8_chance 2 (some .int)) rm_X8_chance (va_Pc [.ref (ad 0), .int x1] (World E ad shl h)) (QcI E ad shl r.1 r.2) 0 0 (bsA E) :=
  met_of (L0 := [some (.ref (ad 0)), some (.int x1)]) rfl rfl rfl (Nat.le_of_ble_eq_true rfl) (fun _ _ _ _ _ _ _ X => w_X8_chance Hb0 X rfl hg)
abbrev rm_X8_isPlanOrNone : Room := { frames := 0, cells := 0, slots := 0, locals := 0 }
theorem hdd_X8_isPlanOrNone : yX8_isPlanOrNone.cls = RX8 ∧ yX8_isPlanOrNone.cls ≠ "java/lang/invoke/MethodHandle" ∧ yX8_isPlanOrNone.cls ≠ "java/lang/invoke/VarHandle" ∧ (parseMethodDescriptor yX8_isPlanOrNone.desc).map (fun d => d.parameters.length) = some 1 := ⟨rfl, by decide +kernel, by decide +kernel, by decide +kernel⟩
set_option maxRecDepth 100000 in
set_option maxHeartbeats 4000000 in
theorem w_X8_isPlanOrNone {x1 : Int32} {r : Int} (Hb0 : At_X8 shl) (X : Cx E p s m args meth c cX8_isPlanOrNone RX8 2 (some .boolean)) (hQ : Q = MQ below (QcI E ad shl r h) args s 0 0 (bsA E)) (hG : g_X8_isPlanOrNone x1.toInt h = some r) : Ev E ad shl p l e rm_X8_isPlanOrNone s m args below meth c 0 0 Q 2 h 0 [some (.ref (ad 0)), some (.int x1)] [] := by
  unfold g_X8_isPlanOrNone at hG
  refine r_iload_n (pc := 0) X dX8_isPlanOrNone_0 rfl rfl ?_
  refine r_iconst (pc := 1) X dX8_isPlanOrNone_1 hG rfl (fun z1 hG => ?_)
  refine r_join hG (fun a2 => ∀ (y4 : Int32), a2 = y4.toInt → Ev E ad shl p l e rm_X8_isPlanOrNone s m args below meth c 0 0 Q 2 h 18 [none, none] [.int y4]) (fun a2 hG => ?_) (fun j3 Hj3 hG => ?_)
  · skip
    intro y4 ha; have ha := ha.symm; subst ha
    exact r_zretP (pc := 18) X dX8_isPlanOrNone_18 hQ hG
  refine r_join hG (fun _ => Ev E ad shl p l e rm_X8_isPlanOrNone s m args below meth c 0 0 Q 2 h 17 [none, none] []) (fun a5 hG => ?_) (fun j6 Hj6 hG => ?_)
  · skip
    refine r_iconst (pc := 17) X dX8_isPlanOrNone_17 hG rfl (fun z7 hG => ?_)
    exact r_mask [false, false] rfl (Hj3 _ hG z7 rfl)
  refine r_icmp_lt (pc := 2) X dX8_isPlanOrNone_2 (tgt := 17) (by decide) hG (fun hG => ?_) (fun hG => ?_)
  · skip
    exact r_mask [false, false] rfl (Hj6 _ hG)
  · skip
    refine r_iload_n (pc := 5) X dX8_isPlanOrNone_5 rfl rfl ?_
    refine r_aload_n (pc := 6) X dX8_isPlanOrNone_6 rfl rfl ?_
    refine r_getI (pc := 7) X (at_X8_o Hb0) rfl mU_X8 (k := 6) (by decide) rfl mF_X8_102 dX8_isPlanOrNone_7 hG (fun z8 hG => ?_)
    refine r_icmp_ge (pc := 10) X dX8_isPlanOrNone_10 (tgt := 17) (by decide) hG (fun hG => ?_) (fun hG => ?_)
    · skip
      exact r_mask [false, false] rfl (Hj6 _ hG)
    · skip
      refine r_iconst (pc := 13) X dX8_isPlanOrNone_13 hG rfl (fun z9 hG => ?_)
      refine r_goto (pc := 14) X dX8_isPlanOrNone_14 (tgt := 18) (by decide) ?_
      exact r_mask [false, false] rfl (Hj3 _ hG z9 rfl)
theorem c_X8_isPlanOrNone {x1 : Int32} {r : Int} (Hb0 : At_X8 shl) (hg : g_X8_isPlanOrNone x1.toInt h = some r) : Met l yX8_isPlanOrNone (wsM yX8_isPlanOrNone cX8_isPlanOrNone 2 (some .boolean)) rm_X8_isPlanOrNone (va_Pc [.ref (ad 0), .int x1] (World E ad shl h)) (QcI E ad shl r h) 0 0 (bsA E) :=
  met_of (L0 := [some (.ref (ad 0)), some (.int x1)]) rfl rfl rfl (Nat.le_of_ble_eq_true rfl) (fun _ _ _ _ _ _ _ X => w_X8_isPlanOrNone Hb0 X rfl hg)
abbrev rm_X8_work : Room := { frames := 2, cells := 0, slots := 0, locals := 44 }
theorem hdd_X8_work : yX8_work.cls = RX8 ∧ yX8_work.cls ≠ "java/lang/invoke/MethodHandle" ∧ yX8_work.cls ≠ "java/lang/invoke/VarHandle" ∧ (parseMethodDescriptor yX8_work.desc).map (fun d => d.parameters.length) = some 1 := ⟨rfl, by decide +kernel, by decide +kernel, by decide +kernel⟩
set_option maxRecDepth 100000 in
set_option maxHeartbeats 4000000 in
theorem w_X8_work {x1 : Int32} {r : Int × Hp} (Hb0 : At_X8 shl) (X : Cx E p s m args meth c cX8_work RX8 2 (some .int)) (hQ : Q = MQ below (QcI E ad shl r.1 r.2) args s 0 0 (bsA E)) (hG : g_X8_work x1.toInt h = some r) : Ev E ad shl p l e rm_X8_work s m args below meth c 0 0 Q 2 h 0 [some (.ref (ad 0)), some (.int x1)] [] := by
  unfold g_X8_work at hG
  refine r_aload_n (pc := 0) X dX8_work_0 rfl rfl ?_
  refine r_iload_n (pc := 1) X dX8_work_1 rfl rfl ?_
  refine r_cP (pc := 2) hG (fun _ hg => runV X dX8_work_2 (c_X8_isPlanOrNone Hb0 hg) mM_X8_160 mI_X8_isPlanOrNone mE_X8_isPlanOrNone mN_X8 mK_X8_isPlanOrNone (at_X8_o Hb0) rfl rfl rfl rfl hdd_X8_isPlanOrNone ⟨(Nat.le_of_ble_eq_true rfl), (Nat.le_of_ble_eq_true rfl)⟩ rfl rfl (Nat.le_of_ble_eq_true rfl) ⟨(Nat.le_of_ble_eq_true rfl), (Nat.le_of_ble_eq_true rfl)⟩) (fun z1 hG => ?_)
  refine r_if_ne (pc := 5) X dX8_work_5 (tgt := 11) (by decide) hG (fun hG => ?_) (fun hG => ?_)
  · skip
    refine r_aload_n (pc := 11) X dX8_work_11 rfl rfl ?_
    refine r_getC (pc := 12) X (at_X8_o Hb0) rfl mU_X8 (k := 7) (by decide) (q := 26) rfl mF_X8_45 dX8_work_12 ?_
    refine r_iload_n (pc := 15) X dX8_work_15 rfl rfl ?_
    refine r_cV (pc := 16) hG (fun _ hg => runV X dX8_work_16 (c_X3_hold (at_X8_now Hb0) hg) mM_X8_164 mI_X3_hold mE_X3_hold mN_X3 mK_X3_hold (at_X3_o (at_X8_now Hb0)) rfl rfl rfl rfl hdd_X3_hold ⟨(Nat.le_of_ble_eq_true rfl), (Nat.le_of_ble_eq_true rfl)⟩ rfl rfl (Nat.le_of_ble_eq_true rfl) ⟨(Nat.le_of_ble_eq_true rfl), (Nat.le_of_ble_eq_true rfl)⟩) (fun h2 hG => ?_)
    refine r_iconst (pc := 19) X dX8_work_19 hG rfl (fun z3 hG => ?_)
    exact r_iretW (pc := 20) X dX8_work_20 hQ hG
  · skip
    refine r_bipush (pc := 8) X dX8_work_8 hG (by decide) (fun z4 hG => ?_)
    exact r_iretW (pc := 10) X dX8_work_10 hQ hG
theorem c_X8_work {x1 : Int32} {r : Int × Hp} (Hb0 : At_X8 shl) (hg : g_X8_work x1.toInt h = some r) : Met l yX8_work (wsM yX8_work cX8_work 2 (some .int)) rm_X8_work (va_Pc [.ref (ad 0), .int x1] (World E ad shl h)) (QcI E ad shl r.1 r.2) 0 0 (bsA E) :=
  met_of (L0 := [some (.ref (ad 0)), some (.int x1)]) rfl rfl rfl (Nat.le_of_ble_eq_true rfl) (fun _ _ _ _ _ _ _ X => w_X8_work Hb0 X rfl hg)
abbrev rm_X3_isPlace : Room := { frames := 0, cells := 0, slots := 0, locals := 0 }
theorem hdd_X3_isPlace : yX3_isPlace.cls ≠ "java/lang/invoke/MethodHandle" ∧ yX3_isPlace.cls ≠ "java/lang/invoke/VarHandle" ∧ (parseMethodDescriptor yX3_isPlace.desc).map (fun d => d.parameters.length) = some 1 := ⟨by decide +kernel, by decide +kernel, by decide +kernel⟩
set_option maxRecDepth 100000 in
set_option maxHeartbeats 4000000 in
theorem w_X3_isPlace {x1 : Int32} {r : Int}  (X : Cx E p s m args meth c cX3_isPlace RX3 1 (some .boolean)) (hQ : Q = MQ below (QcI E ad shl r h) args s 0 0 (bsA E)) (hG : g_X3_isPlace x1.toInt = some r) : Ev E ad shl p l e rm_X3_isPlace s m args below meth c 0 0 Q 1 h 0 [some (.int x1)] [] := by
  unfold g_X3_isPlace at hG
  refine r_iload_n (pc := 0) X dX3_isPlace_0 rfl rfl ?_
  refine r_join hG (fun a1 => ∀ (y3 : Int32), a1 = y3.toInt → Ev E ad shl p l e rm_X3_isPlace s m args below meth c 0 0 Q 1 h 15 [none] [.int y3]) (fun a1 hG => ?_) (fun j2 Hj2 hG => ?_)
  · skip
    intro y3 ha; have ha := ha.symm; subst ha
    exact r_zretP (pc := 15) X dX3_isPlace_15 hQ hG
  refine r_join hG (fun _ => Ev E ad shl p l e rm_X3_isPlace s m args below meth c 0 0 Q 1 h 14 [none] []) (fun a4 hG => ?_) (fun j5 Hj5 hG => ?_)
  · skip
    refine r_iconst (pc := 14) X dX3_isPlace_14 hG rfl (fun z6 hG => ?_)
    exact r_mask [false] rfl (Hj2 _ hG z6 rfl)
  refine r_if_lt (pc := 1) X dX3_isPlace_1 (tgt := 14) (by decide) hG (fun hG => ?_) (fun hG => ?_)
  · skip
    exact r_mask [false] rfl (Hj5 _ hG)
  · skip
    refine r_iload_n (pc := 4) X dX3_isPlace_4 rfl rfl ?_
    refine r_bipush (pc := 5) X dX3_isPlace_5 hG (by decide) (fun z7 hG => ?_)
    refine r_icmp_ge (pc := 7) X dX3_isPlace_7 (tgt := 14) (by decide) hG (fun hG => ?_) (fun hG => ?_)
    · skip
      exact r_mask [false] rfl (Hj5 _ hG)
    · skip
      refine r_iconst (pc := 10) X dX3_isPlace_10 hG rfl (fun z8 hG => ?_)
      refine r_goto (pc := 11) X dX3_isPlace_11 (tgt := 15) (by decide) ?_
      exact r_mask [false] rfl (Hj2 _ hG z8 rfl)
theorem c_X3_isPlace {x1 : Int32} {r : Int}  (hg : g_X3_isPlace x1.toInt = some r) : Met l yX3_isPlace (wsM yX3_isPlace cX3_isPlace 1 (some .boolean)) rm_X3_isPlace (va_Pc [.int x1] (World E ad shl h)) (QcI E ad shl r h) 0 0 (bsA E) :=
  met_of (L0 := [some (.int x1)]) rfl rfl rfl (Nat.le_of_ble_eq_true rfl) (fun _ _ _ _ _ _ _ X => w_X3_isPlace  X rfl hg)
abbrev rm_X3_moveUnit : Room := { frames := 0, cells := 0, slots := 0, locals := 0 }
theorem hdd_X3_moveUnit : yX3_moveUnit.cls = RX3 ∧ yX3_moveUnit.cls ≠ "java/lang/invoke/MethodHandle" ∧ yX3_moveUnit.cls ≠ "java/lang/invoke/VarHandle" ∧ (parseMethodDescriptor yX3_moveUnit.desc).map (fun d => d.parameters.length) = some 2 := ⟨rfl, by decide +kernel, by decide +kernel, by decide +kernel⟩
set_option maxRecDepth 100000 in
set_option maxHeartbeats 4000000 in
theorem w_X3_moveUnit {b0 : Nat} {x1 : Int32} {x2 : Int32} {r : Hp} (Hb0 : At_X3 shl b0) (X : Cx E p s m args meth c cX3_moveUnit RX3 4 none) (hQ : Q = MQ below (QcV E ad shl r) args s 0 0 (bsA E)) (hG : g_X3_moveUnit b0 x1.toInt x2.toInt h = some r) : Ev E ad shl p l e rm_X3_moveUnit s m args below meth c 0 0 Q 4 h 0 [some (.ref (ad b0)), some (.int x1), some (.int x2), none] [] := by
  unfold g_X3_moveUnit at hG
  refine r_aload_n (pc := 0) X dX3_moveUnit_0 rfl rfl ?_
  refine r_getC (pc := 1) X (at_X3_o Hb0) rfl mU_X3 (k := 0) (by decide) (q := (b0 + 1)) rfl mF_X3_9 dX3_moveUnit_1 ?_
  refine r_iload_n (pc := 4) X dX3_moveUnit_4 rfl rfl ?_
  refine r_iald (pc := 5) X (at_X3_height Hb0) dX3_moveUnit_5 hG (fun z1 hG => ?_)
  refine r_join hG (fun a2 => ∀ (y4 : Int32), a2 = y4.toInt → Ev E ad shl p l e rm_X3_moveUnit s m args below meth c 0 0 Q 4 h 19 [some (.ref (ad b0)), some (.int x1), some (.int x2), none] [.int y4]) (fun a2 hG => ?_) (fun j3 Hj3 hG => ?_)
  · skip
    intro y4 ha; have ha := ha.symm; subst ha
    refine r_istore_n (pc := 19) (L' := [some (.ref (ad b0)), some (.int x1), some (.int x2), some (.int y4)]) X dX3_moveUnit_19 rfl (by decide) rfl rfl ?_
    refine r_aload_n (pc := 20) X dX3_moveUnit_20 rfl rfl ?_
    refine r_getC (pc := 21) X (at_X3_o Hb0) rfl mU_X3 (k := 1) (by decide) (q := (b0 + 2)) rfl mF_X3_15 dX3_moveUnit_21 ?_
    refine r_iload_n (pc := 24) X dX3_moveUnit_24 rfl rfl ?_
    refine r_aload_n (pc := 25) X dX3_moveUnit_25 rfl rfl ?_
    refine r_getC (pc := 26) X (at_X3_o Hb0) rfl mU_X3 (k := 1) (by decide) (q := (b0 + 2)) rfl mF_X3_15 dX3_moveUnit_26 ?_
    refine r_iload_n (pc := 29) X dX3_moveUnit_29 rfl rfl ?_
    refine r_iald (pc := 30) X (at_X3_wet Hb0) dX3_moveUnit_30 hG (fun z5 hG => ?_)
    refine r_iload_n (pc := 31) X dX3_moveUnit_31 rfl rfl ?_
    refine r_imul (pc := 32) X dX3_moveUnit_32 hG (fun z6 hG => ?_)
    refine r_aload_n (pc := 33) X dX3_moveUnit_33 rfl rfl ?_
    refine r_getC (pc := 34) X (at_X3_o Hb0) rfl mU_X3 (k := 1) (by decide) (q := (b0 + 2)) rfl mF_X3_15 dX3_moveUnit_34 ?_
    refine r_iload_n (pc := 37) X dX3_moveUnit_37 rfl rfl ?_
    refine r_iald (pc := 38) X (at_X3_wet Hb0) dX3_moveUnit_38 hG (fun z7 hG => ?_)
    refine r_iadd (pc := 39) X dX3_moveUnit_39 hG (fun z8 hG => ?_)
    refine r_iload_n (pc := 40) X dX3_moveUnit_40 rfl rfl ?_
    refine r_iconst (pc := 41) X dX3_moveUnit_41 hG rfl (fun z9 hG => ?_)
    refine r_iadd (pc := 42) X dX3_moveUnit_42 hG (fun z10 hG => ?_)
    refine r_idiv (pc := 43) X dX3_moveUnit_43 hG (fun z11 hG => ?_)
    refine r_iast (pc := 44) X (at_X3_wet Hb0) dX3_moveUnit_44 hG (fun h12 hG => ?_)
    refine r_aload_n (pc := 45) X dX3_moveUnit_45 rfl rfl ?_
    refine r_getC (pc := 46) X (at_X3_o Hb0) rfl mU_X3 (k := 2) (by decide) (q := (b0 + 3)) rfl mF_X3_18 dX3_moveUnit_46 ?_
    refine r_iload_n (pc := 49) X dX3_moveUnit_49 rfl rfl ?_
    refine r_iconst (pc := 50) X dX3_moveUnit_50 hG rfl (fun z13 hG => ?_)
    refine r_iast (pc := 51) X (at_X3_pack Hb0) dX3_moveUnit_51 hG (fun h14 hG => ?_)
    refine r_aload_n (pc := 52) X dX3_moveUnit_52 rfl rfl ?_
    refine r_getC (pc := 53) X (at_X3_o Hb0) rfl mU_X3 (k := 0) (by decide) (q := (b0 + 1)) rfl mF_X3_9 dX3_moveUnit_53 ?_
    refine r_iload_n (pc := 56) X dX3_moveUnit_56 rfl rfl ?_
    refine r_dup2 (pc := 57) X dX3_moveUnit_57 rfl rfl ?_
    refine r_iald (pc := 58) X (at_X3_height Hb0) dX3_moveUnit_58 hG (fun z15 hG => ?_)
    refine r_iconst (pc := 59) X dX3_moveUnit_59 hG rfl (fun z16 hG => ?_)
    refine r_isub (pc := 60) X dX3_moveUnit_60 hG (fun z17 hG => ?_)
    refine r_iast (pc := 61) X (at_X3_height Hb0) dX3_moveUnit_61 hG (fun h18 hG => ?_)
    refine r_aload_n (pc := 62) X dX3_moveUnit_62 rfl rfl ?_
    refine r_getC (pc := 63) X (at_X3_o Hb0) rfl mU_X3 (k := 0) (by decide) (q := (b0 + 1)) rfl mF_X3_9 dX3_moveUnit_63 ?_
    refine r_iload_n (pc := 66) X dX3_moveUnit_66 rfl rfl ?_
    refine r_dup2 (pc := 67) X dX3_moveUnit_67 rfl rfl ?_
    refine r_iald (pc := 68) X (at_X3_height Hb0) dX3_moveUnit_68 hG (fun z19 hG => ?_)
    refine r_iconst (pc := 69) X dX3_moveUnit_69 hG rfl (fun z20 hG => ?_)
    refine r_iadd (pc := 70) X dX3_moveUnit_70 hG (fun z21 hG => ?_)
    refine r_iast (pc := 71) X (at_X3_height Hb0) dX3_moveUnit_71 hG (fun h22 hG => ?_)
    exact r_vret (pc := 72) X dX3_moveUnit_72 hQ hG
  refine r_if_le (pc := 6) X dX3_moveUnit_6 (tgt := 18) (by decide) hG (fun hG => ?_) (fun hG => ?_)
  · skip
    refine r_iconst (pc := 18) X dX3_moveUnit_18 hG rfl (fun z23 hG => ?_)
    exact r_mask [true, true, true, false] rfl (Hj3 _ hG z23 rfl)
  · skip
    refine r_aload_n (pc := 9) X dX3_moveUnit_9 rfl rfl ?_
    refine r_getC (pc := 10) X (at_X3_o Hb0) rfl mU_X3 (k := 0) (by decide) (q := (b0 + 1)) rfl mF_X3_9 dX3_moveUnit_10 ?_
    refine r_iload_n (pc := 13) X dX3_moveUnit_13 rfl rfl ?_
    refine r_iald (pc := 14) X (at_X3_height Hb0) dX3_moveUnit_14 hG (fun z24 hG => ?_)
    refine r_goto (pc := 15) X dX3_moveUnit_15 (tgt := 19) (by decide) ?_
    exact r_mask [true, true, true, false] rfl (Hj3 _ hG z24 rfl)
theorem c_X3_moveUnit {b0 : Nat} {x1 : Int32} {x2 : Int32} {r : Hp} (Hb0 : At_X3 shl b0) (hg : g_X3_moveUnit b0 x1.toInt x2.toInt h = some r) : Met l yX3_moveUnit (wsM yX3_moveUnit cX3_moveUnit 4 none) rm_X3_moveUnit (va_Pc [.ref (ad b0), .int x1, .int x2] (World E ad shl h)) (QcV E ad shl r) 0 0 (bsA E) :=
  met_of (L0 := [some (.ref (ad b0)), some (.int x1), some (.int x2), none]) rfl rfl rfl (Nat.le_of_ble_eq_true rfl) (fun _ _ _ _ _ _ _ X => w_X3_moveUnit Hb0 X rfl hg)
abbrev rm_X3_dig : Room := { frames := 1, cells := 0, slots := 0, locals := 23 }
theorem hdd_X3_dig : yX3_dig.cls = RX3 ∧ yX3_dig.cls ≠ "java/lang/invoke/MethodHandle" ∧ yX3_dig.cls ≠ "java/lang/invoke/VarHandle" ∧ (parseMethodDescriptor yX3_dig.desc).map (fun d => d.parameters.length) = some 2 := ⟨rfl, by decide +kernel, by decide +kernel, by decide +kernel⟩
set_option maxRecDepth 100000 in
set_option maxHeartbeats 4000000 in
theorem w_X3_dig {b0 : Nat} {x1 : Int32} {x2 : Int32} {r : Hp} (Hb0 : At_X3 shl b0) (X : Cx E p s m args meth c cX3_dig RX3 3 none) (hQ : Q = MQ below (QcV E ad shl r) args s 0 0 (bsA E)) (hG : g_X3_dig b0 x1.toInt x2.toInt h = some r) : Ev E ad shl p l e rm_X3_dig s m args below meth c 0 0 Q 3 h 0 [some (.ref (ad b0)), some (.int x1), some (.int x2)] [] := by
  unfold g_X3_dig at hG
  refine r_iload_n (pc := 0) X dX3_dig_0 rfl rfl ?_
  refine r_cP (pc := 1) hG (fun _ hg => runS X dX3_dig_1 (c_X3_isPlace  hg) mM_X3_129 mS_X3_isPlace mN_X3 mK_X3_isPlace rfl rfl hdd_X3_isPlace ⟨(Nat.le_of_ble_eq_true rfl), (Nat.le_of_ble_eq_true rfl)⟩ rfl rfl (Nat.le_of_ble_eq_true rfl) ⟨(Nat.le_of_ble_eq_true rfl), (Nat.le_of_ble_eq_true rfl)⟩) (fun z1 hG => ?_)
  refine r_join hG (fun _ => Ev E ad shl p l e rm_X3_dig s m args below meth c 0 0 Q 3 h 35 [none, none, none] []) (fun a2 hG => ?_) (fun j3 Hj3 hG => ?_)
  · skip
    exact r_vret (pc := 35) X dX3_dig_35 hQ hG
  refine r_if_eq (pc := 4) X dX3_dig_4 (tgt := 35) (by decide) hG (fun hG => ?_) (fun hG => ?_)
  · skip
    exact r_mask [false, false, false] rfl (Hj3 _ hG)
  · skip
    refine r_aload_n (pc := 7) X dX3_dig_7 rfl rfl ?_
    refine r_getC (pc := 8) X (at_X3_o Hb0) rfl mU_X3 (k := 0) (by decide) (q := (b0 + 1)) rfl mF_X3_9 dX3_dig_8 ?_
    refine r_iload_n (pc := 11) X dX3_dig_11 rfl rfl ?_
    refine r_iald (pc := 12) X (at_X3_height Hb0) dX3_dig_12 hG (fun z4 hG => ?_)
    refine r_iconst (pc := 13) X dX3_dig_13 hG rfl (fun z5 hG => ?_)
    refine r_icmp_lt (pc := 14) X dX3_dig_14 (tgt := 35) (by decide) hG (fun hG => ?_) (fun hG => ?_)
    · skip
      exact r_mask [false, false, false] rfl (Hj3 _ hG)
    · skip
      refine r_aload_n (pc := 17) X dX3_dig_17 rfl rfl ?_
      refine r_getC (pc := 18) X (at_X3_o Hb0) rfl mU_X3 (k := 3) (by decide) (q := (b0 + 4)) rfl mF_X3_21 dX3_dig_18 ?_
      refine r_iload_n (pc := 21) X dX3_dig_21 rfl rfl ?_
      refine r_iald (pc := 22) X (at_X3_stone Hb0) dX3_dig_22 hG (fun z6 hG => ?_)
      refine r_if_ne (pc := 23) X dX3_dig_23 (tgt := 35) (by decide) hG (fun hG => ?_) (fun hG => ?_)
      · skip
        exact r_mask [false, false, false] rfl (Hj3 _ hG)
      · skip
        refine r_aload_n (pc := 26) X dX3_dig_26 rfl rfl ?_
        refine r_getC (pc := 27) X (at_X3_o Hb0) rfl mU_X3 (k := 3) (by decide) (q := (b0 + 4)) rfl mF_X3_21 dX3_dig_27 ?_
        refine r_iload_n (pc := 30) X dX3_dig_30 rfl rfl ?_
        refine r_iald (pc := 31) X (at_X3_stone Hb0) dX3_dig_31 hG (fun z7 hG => ?_)
        refine r_if_eq (pc := 32) X dX3_dig_32 (tgt := 36) (by decide) hG (fun hG => ?_) (fun hG => ?_)
        · skip
          refine r_aload_n (pc := 36) X dX3_dig_36 rfl rfl ?_
          refine r_iload_n (pc := 37) X dX3_dig_37 rfl rfl ?_
          refine r_iload_n (pc := 38) X dX3_dig_38 rfl rfl ?_
          refine r_cV (pc := 39) hG (fun _ hg => runV X dX3_dig_39 (c_X3_moveUnit Hb0 hg) mM_X3_143 mI_X3_moveUnit mE_X3_moveUnit mN_X3 mK_X3_moveUnit (at_X3_o Hb0) rfl rfl rfl rfl hdd_X3_moveUnit ⟨(Nat.le_of_ble_eq_true rfl), (Nat.le_of_ble_eq_true rfl)⟩ rfl rfl (Nat.le_of_ble_eq_true rfl) ⟨(Nat.le_of_ble_eq_true rfl), (Nat.le_of_ble_eq_true rfl)⟩) (fun h8 hG => ?_)
          refine r_aload_n (pc := 42) X dX3_dig_42 rfl rfl ?_
          refine r_getC (pc := 43) X (at_X3_o Hb0) rfl mU_X3 (k := 2) (by decide) (q := (b0 + 3)) rfl mF_X3_18 dX3_dig_43 ?_
          refine r_iload_n (pc := 46) X dX3_dig_46 rfl rfl ?_
          refine r_iconst (pc := 47) X dX3_dig_47 hG rfl (fun z9 hG => ?_)
          refine r_iast (pc := 48) X (at_X3_pack Hb0) dX3_dig_48 hG (fun h10 hG => ?_)
          exact r_vret (pc := 49) X dX3_dig_49 hQ hG
        · skip
          exact r_mask [false, false, false] rfl (Hj3 _ hG)
theorem c_X3_dig {b0 : Nat} {x1 : Int32} {x2 : Int32} {r : Hp} (Hb0 : At_X3 shl b0) (hg : g_X3_dig b0 x1.toInt x2.toInt h = some r) : Met l yX3_dig (wsM yX3_dig cX3_dig 3 none) rm_X3_dig (va_Pc [.ref (ad b0), .int x1, .int x2] (World E ad shl h)) (QcV E ad shl r) 0 0 (bsA E) :=
  met_of (L0 := [some (.ref (ad b0)), some (.int x1), some (.int x2)]) rfl rfl rfl (Nat.le_of_ble_eq_true rfl) (fun _ _ _ _ _ _ _ X => w_X3_dig Hb0 X rfl hg)
abbrev rm_X3_perform : Room := { frames := 2, cells := 0, slots := 0, locals := 45 }
theorem hdd_X3_perform : yX3_perform.cls = RX3 ∧ yX3_perform.cls ≠ "java/lang/invoke/MethodHandle" ∧ yX3_perform.cls ≠ "java/lang/invoke/VarHandle" ∧ (parseMethodDescriptor yX3_perform.desc).map (fun d => d.parameters.length) = some 3 := ⟨rfl, by decide +kernel, by decide +kernel, by decide +kernel⟩
set_option maxRecDepth 100000 in
set_option maxHeartbeats 4000000 in
theorem w_X3_perform {b0 : Nat} {x1 : Int32} {x2 : Int32} {x3 : Int32} {r : Hp} (Hb0 : At_X3 shl b0) (X : Cx E p s m args meth c cX3_perform RX3 4 none) (hQ : Q = MQ below (QcV E ad shl r) args s 0 0 (bsA E)) (hG : g_X3_perform b0 x1.toInt x2.toInt x3.toInt h = some r) : Ev E ad shl p l e rm_X3_perform s m args below meth c 0 0 Q 4 h 0 [some (.ref (ad b0)), some (.int x1), some (.int x2), some (.int x3)] [] := by
  unfold g_X3_perform at hG
  refine r_iload_n (pc := 0) X dX3_perform_0 rfl rfl ?_
  refine r_iconst (pc := 1) X dX3_perform_1 hG rfl (fun z1 hG => ?_)
  refine r_join hG (fun _ => Ev E ad shl p l e rm_X3_perform s m args below meth c 0 0 Q 4 h 12 [none, none, none, none] []) (fun a2 hG => ?_) (fun j3 Hj3 hG => ?_)
  · skip
    exact r_vret (pc := 12) X dX3_perform_12 hQ hG
  refine r_icmp_eq (pc := 2) X dX3_perform_2 (tgt := 12) (by decide) hG (fun hG => ?_) (fun hG => ?_)
  · skip
    exact r_mask [false, false, false, false] rfl (Hj3 _ hG)
  · skip
    refine r_iload_n (pc := 5) X dX3_perform_5 rfl rfl ?_
    refine r_cP (pc := 6) hG (fun _ hg => runS X dX3_perform_6 (c_X3_isPlace  hg) mM_X3_129 mS_X3_isPlace mN_X3 mK_X3_isPlace rfl rfl hdd_X3_isPlace ⟨(Nat.le_of_ble_eq_true rfl), (Nat.le_of_ble_eq_true rfl)⟩ rfl rfl (Nat.le_of_ble_eq_true rfl) ⟨(Nat.le_of_ble_eq_true rfl), (Nat.le_of_ble_eq_true rfl)⟩) (fun z4 hG => ?_)
    refine r_if_ne (pc := 9) X dX3_perform_9 (tgt := 13) (by decide) hG (fun hG => ?_) (fun hG => ?_)
    · skip
      refine r_aload_n (pc := 13) X dX3_perform_13 rfl rfl ?_
      refine r_iconst (pc := 14) X dX3_perform_14 hG rfl (fun z5 hG => ?_)
      refine r_putZ (pc := 15) X (at_X3_o Hb0) rfl mU_X3 (k := 15) (by decide) rfl rfl rfl mF_X3_80 dX3_perform_15 hG (fun h6 hG => ?_)
      refine r_iload_n (pc := 18) X dX3_perform_18 rfl rfl ?_
      refine r_join hG (fun a7 => ∀ (h9 : Hp), a7 = h9 → Ev E ad shl p l e rm_X3_perform s m args below meth c 0 0 Q 4 h9 96 [none, none, none, none] []) (fun a7 hG => ?_) (fun j8 Hj8 hG => ?_)
      · skip
        intro h9 ha; have ha := ha.symm; subst ha
        exact r_vret (pc := 96) X dX3_perform_96 hQ hG
      refine r_if_ne (pc := 19) X dX3_perform_19 (tgt := 31) (by decide) hG (fun hG => ?_) (fun hG => ?_)
      · skip
        refine r_iload_n (pc := 31) X dX3_perform_31 rfl rfl ?_
        refine r_iconst (pc := 32) X dX3_perform_32 hG rfl (fun z10 hG => ?_)
        refine r_icmp_ne (pc := 33) X dX3_perform_33 (tgt := 57) (by decide) hG (fun hG => ?_) (fun hG => ?_)
        · skip
          refine r_iload_n (pc := 57) X dX3_perform_57 rfl rfl ?_
          refine r_iconst (pc := 58) X dX3_perform_58 hG rfl (fun z11 hG => ?_)
          refine r_icmp_ne (pc := 59) X dX3_perform_59 (tgt := 84) (by decide) hG (fun hG => ?_) (fun hG => ?_)
          · skip
            refine r_iload_n (pc := 84) X dX3_perform_84 rfl rfl ?_
            refine r_iconst (pc := 85) X dX3_perform_85 hG rfl (fun z12 hG => ?_)
            refine r_icmp_ne (pc := 86) X dX3_perform_86 (tgt := 96) (by decide) hG (fun hG => ?_) (fun hG => ?_)
            · skip
              exact r_mask [false, false, false, false] rfl (Hj8 _ hG h6 rfl)
            · skip
              refine r_aload_n (pc := 89) X dX3_perform_89 rfl rfl ?_
              refine r_getC (pc := 90) X (at_X3_o Hb0) rfl mU_X3 (k := 3) (by decide) (q := (b0 + 4)) rfl mF_X3_21 dX3_perform_90 ?_
              refine r_iload_n (pc := 93) X dX3_perform_93 rfl rfl ?_
              refine r_iconst (pc := 94) X dX3_perform_94 hG rfl (fun z13 hG => ?_)
              refine r_iast (pc := 95) X (at_X3_stone Hb0) dX3_perform_95 hG (fun h14 hG => ?_)
              exact r_mask [false, false, false, false] rfl (Hj8 _ hG h14 rfl)
          · skip
            refine r_aload_n (pc := 62) X dX3_perform_62 rfl rfl ?_
            refine r_getC (pc := 63) X (at_X3_o Hb0) rfl mU_X3 (k := 1) (by decide) (q := (b0 + 2)) rfl mF_X3_15 dX3_perform_63 ?_
            refine r_iload_n (pc := 66) X dX3_perform_66 rfl rfl ?_
            refine r_bipush (pc := 67) X dX3_perform_67 hG (by decide) (fun z15 hG => ?_)
            refine r_aload_n (pc := 69) X dX3_perform_69 rfl rfl ?_
            refine r_getC (pc := 70) X (at_X3_o Hb0) rfl mU_X3 (k := 1) (by decide) (q := (b0 + 2)) rfl mF_X3_15 dX3_perform_70 ?_
            refine r_iload_n (pc := 73) X dX3_perform_73 rfl rfl ?_
            refine r_iald (pc := 74) X (at_X3_wet Hb0) dX3_perform_74 hG (fun z16 hG => ?_)
            refine r_iconst (pc := 75) X dX3_perform_75 hG rfl (fun z17 hG => ?_)
            refine r_iadd (pc := 76) X dX3_perform_76 hG (fun z18 hG => ?_)
            refine r_mmin (pc := 77) X dX3_perform_77 mM_X3_137 (Nat.le_of_ble_eq_true rfl) (Nat.le_of_ble_eq_true rfl) (Nat.le_of_ble_eq_true rfl) (Nat.le_of_ble_eq_true rfl) hG (fun z19 hG => ?_)
            refine r_iast (pc := 80) X (at_X3_wet Hb0) dX3_perform_80 hG (fun h20 hG => ?_)
            refine r_goto (pc := 81) X dX3_perform_81 (tgt := 96) (by decide) ?_
            exact r_mask [false, false, false, false] rfl (Hj8 _ hG h20 rfl)
        · skip
          refine r_aload_n (pc := 36) X dX3_perform_36 rfl rfl ?_
          refine r_getC (pc := 37) X (at_X3_o Hb0) rfl mU_X3 (k := 2) (by decide) (q := (b0 + 3)) rfl mF_X3_18 dX3_perform_37 ?_
          refine r_iload_n (pc := 40) X dX3_perform_40 rfl rfl ?_
          refine r_iconst (pc := 41) X dX3_perform_41 hG rfl (fun z21 hG => ?_)
          refine r_aload_n (pc := 42) X dX3_perform_42 rfl rfl ?_
          refine r_getC (pc := 43) X (at_X3_o Hb0) rfl mU_X3 (k := 2) (by decide) (q := (b0 + 3)) rfl mF_X3_18 dX3_perform_43 ?_
          refine r_iload_n (pc := 46) X dX3_perform_46 rfl rfl ?_
          refine r_iald (pc := 47) X (at_X3_pack Hb0) dX3_perform_47 hG (fun z22 hG => ?_)
          refine r_iconst (pc := 48) X dX3_perform_48 hG rfl (fun z23 hG => ?_)
          refine r_iadd (pc := 49) X dX3_perform_49 hG (fun z24 hG => ?_)
          refine r_mmin (pc := 50) X dX3_perform_50 mM_X3_137 (Nat.le_of_ble_eq_true rfl) (Nat.le_of_ble_eq_true rfl) (Nat.le_of_ble_eq_true rfl) (Nat.le_of_ble_eq_true rfl) hG (fun z25 hG => ?_)
          refine r_iast (pc := 53) X (at_X3_pack Hb0) dX3_perform_53 hG (fun h26 hG => ?_)
          refine r_goto (pc := 54) X dX3_perform_54 (tgt := 96) (by decide) ?_
          exact r_mask [false, false, false, false] rfl (Hj8 _ hG h26 rfl)
      · skip
        refine r_aload_n (pc := 22) X dX3_perform_22 rfl rfl ?_
        refine r_iload_n (pc := 23) X dX3_perform_23 rfl rfl ?_
        refine r_iload_n (pc := 24) X dX3_perform_24 rfl rfl ?_
        refine r_cV (pc := 25) hG (fun _ hg => runV X dX3_perform_25 (c_X3_dig Hb0 hg) mM_X3_133 mI_X3_dig mE_X3_dig mN_X3 mK_X3_dig (at_X3_o Hb0) rfl rfl rfl rfl hdd_X3_dig ⟨(Nat.le_of_ble_eq_true rfl), (Nat.le_of_ble_eq_true rfl)⟩ rfl rfl (Nat.le_of_ble_eq_true rfl) ⟨(Nat.le_of_ble_eq_true rfl), (Nat.le_of_ble_eq_true rfl)⟩) (fun h27 hG => ?_)
        refine r_goto (pc := 28) X dX3_perform_28 (tgt := 96) (by decide) ?_
        exact r_mask [false, false, false, false] rfl (Hj8 _ hG h27 rfl)
    · skip
      exact r_mask [false, false, false, false] rfl (Hj3 _ hG)
theorem c_X3_perform {b0 : Nat} {x1 : Int32} {x2 : Int32} {x3 : Int32} {r : Hp} (Hb0 : At_X3 shl b0) (hg : g_X3_perform b0 x1.toInt x2.toInt x3.toInt h = some r) : Met l yX3_perform (wsM yX3_perform cX3_perform 4 none) rm_X3_perform (va_Pc [.ref (ad b0), .int x1, .int x2, .int x3] (World E ad shl h)) (QcV E ad shl r) 0 0 (bsA E) :=
  met_of (L0 := [some (.ref (ad b0)), some (.int x1), some (.int x2), some (.int x3)]) rfl rfl rfl (Nat.le_of_ble_eq_true rfl) (fun _ _ _ _ _ _ _ X => w_X3_perform Hb0 X rfl hg)
abbrev rm_X3_moveHands : Room := { frames := 3, cells := 0, slots := 0, locals := 68 }
theorem hdd_X3_moveHands : yX3_moveHands.cls = RX3 ∧ yX3_moveHands.cls ≠ "java/lang/invoke/MethodHandle" ∧ yX3_moveHands.cls ≠ "java/lang/invoke/VarHandle" ∧ (parseMethodDescriptor yX3_moveHands.desc).map (fun d => d.parameters.length) = some 2 := ⟨rfl, by decide +kernel, by decide +kernel, by decide +kernel⟩
set_option maxRecDepth 100000 in
set_option maxHeartbeats 4000000 in
theorem w_X3_moveHands {b0 : Nat} {b1 : Nat} {x2 : Int32} {r : Hp} (Hb0 : At_X3 shl b0) (Hb1 : At_X1 shl b1) (X : Cx E p s m args meth c cX3_moveHands RX3 6 none) (hQ : Q = MQ below (QcV E ad shl r) args s 0 0 (bsA E)) (hG : g_X3_moveHands b0 b1 x2.toInt h = some r) : Ev E ad shl p l e rm_X3_moveHands s m args below meth c 0 0 Q 6 h 0 [some (.ref (ad b0)), some (.ref (ad b1)), some (.int x2), none, none, none] [] := by
  unfold g_X3_moveHands at hG
  refine r_iconst (pc := 0) X dX3_moveHands_0 hG rfl (fun z1 hG => ?_)
  refine r_istore_n (pc := 1) (L' := [some (.ref (ad b0)), some (.ref (ad b1)), some (.int x2), some (.int z1), none, none]) X dX3_moveHands_1 rfl (by decide) rfl rfl ?_
  refine r_join hG (fun a2 => ∀ (h4 : Hp), a2 = h4 → Ev E ad shl p l e rm_X3_moveHands s m args below meth c 0 0 Q 6 h4 126 [none, none, none, none, none, none] []) (fun a2 hG => ?_) (fun j3 Hj3 hG => ?_)
  · skip
    intro h4 ha; have ha := ha.symm; subst ha
    exact r_vret (pc := 126) X dX3_moveHands_126 hQ hG
  refine r_mask [true, true, true, true, false, false] rfl (r_loop (fun q5 => ∀ (y7 : Int32) (h8 : Hp), q5 = (y7.toInt, h8) → Ev E ad shl p l e rm_X3_moveHands s m args below meth c 0 0 Q 6 h8 2 [some (.ref (ad b0)), some (.ref (ad b1)), some (.int x2), some (.int y7), none, none] []) (fun l6 Hl6 q5 hG => ?_) FU _ hG z1 h rfl)
  intro y7 h8 ha; have ha := ha.symm; subst ha
  unfold g_X3_moveHands_l6 at hG
  refine r_iload_n (pc := 2) X dX3_moveHands_2 rfl rfl ?_
  refine r_aload_n (pc := 3) X dX3_moveHands_3 rfl rfl ?_
  refine r_getI (pc := 4) X (at_X1_o Hb1) rfl mU_X1 (k := 4) (by decide) rfl mF_X3_108 dX3_moveHands_4 hG (fun z9 hG => ?_)
  refine r_icmp_ge (pc := 7) X dX3_moveHands_7 (tgt := 126) (by decide) hG (fun hG => ?_) (fun hG => ?_)
  · skip
    exact r_mask [false, false, false, false, false, false] rfl (Hj3 _ hG h8 rfl)
  · skip
    refine r_iload_n (pc := 10) X dX3_moveHands_10 rfl rfl ?_
    refine r_iconst (pc := 11) X dX3_moveHands_11 hG rfl (fun z10 hG => ?_)
    refine r_icmp_ge (pc := 12) X dX3_moveHands_12 (tgt := 126) (by decide) hG (fun hG => ?_) (fun hG => ?_)
    · skip
      exact r_mask [false, false, false, false, false, false] rfl (Hj3 _ hG h8 rfl)
    · skip
      refine r_iload_n (pc := 15) X dX3_moveHands_15 rfl rfl ?_
      refine r_join hG (fun a11 => ∀ (h13 : Hp), a11 = h13 → Ev E ad shl p l e rm_X3_moveHands s m args below meth c 0 0 Q 6 h13 120 [some (.ref (ad b0)), some (.ref (ad b1)), some (.int x2), some (.int y7), none, none] []) (fun a11 hG => ?_) (fun j12 Hj12 hG => ?_)
      · skip
        intro h13 ha; have ha := ha.symm; subst ha
        refine r_iinc (pc := 120) (L' := fun z14 => [some (.ref (ad b0)), some (.ref (ad b1)), some (.int x2), some (.int z14), none, none]) X dX3_moveHands_120 (by decide) rfl rfl (by decide) (fun _ => rfl) hG (fun z14 hG => ?_)
        refine r_goto (pc := 123) X dX3_moveHands_123 (tgt := 2) (by decide) ?_
        exact r_mask [true, true, true, true, false, false] rfl (Hl6 _ hG z14 h13 rfl)
      refine r_join hG (fun _ => Ev E ad shl p l e rm_X3_moveHands s m args below meth c 0 0 Q 6 h8 39 [some (.ref (ad b0)), some (.ref (ad b1)), some (.int x2), some (.int y7), none, none] []) (fun a15 hG => ?_) (fun j16 Hj16 hG => ?_)
      · skip
        refine r_aload_n (pc := 39) X dX3_moveHands_39 rfl rfl ?_
        refine r_getC (pc := 40) X (at_X3_o Hb0) rfl mU_X3 (k := 5) (by decide) (q := (b0 + 6)) rfl mF_X3_27 dX3_moveHands_40 ?_
        refine r_iload_n (pc := 43) X dX3_moveHands_43 rfl rfl ?_
        refine r_iald (pc := 44) X (at_X3_nextAct Hb0) dX3_moveHands_44 hG (fun z17 hG => ?_)
        refine r_aload_n (pc := 45) X dX3_moveHands_45 rfl rfl ?_
        refine r_getC (pc := 46) X (at_X1_o Hb1) rfl mU_X1 (k := 0) (by decide) (q := (b1 + 1)) rfl mF_X3_113 dX3_moveHands_46 ?_
        refine r_iload_n (pc := 49) X dX3_moveHands_49 rfl rfl ?_
        refine r_iald (pc := 50) X (at_X1_acts Hb1) dX3_moveHands_50 hG (fun z18 hG => ?_)
        refine r_join hG (fun a19 => ∀ (y21 : Int32), a19 = y21.toInt → Ev E ad shl p l e rm_X3_moveHands s m args below meth c 0 0 Q 6 h8 64 [some (.ref (ad b0)), some (.ref (ad b1)), some (.int x2), some (.int y7), none, none] [.int y21]) (fun a19 hG => ?_) (fun j20 Hj20 hG => ?_)
        · skip
          intro y21 ha; have ha := ha.symm; subst ha
          refine r_istore (pc := 64) (L' := [some (.ref (ad b0)), some (.ref (ad b1)), some (.int x2), some (.int y7), some (.int y21), none]) X dX3_moveHands_64 (by decide) rfl rfl ?_
          refine r_iload_n (pc := 66) X dX3_moveHands_66 rfl rfl ?_
          refine r_bipush (pc := 67) X dX3_moveHands_67 hG (by decide) (fun z22 hG => ?_)
          refine r_imul (pc := 69) X dX3_moveHands_69 hG (fun z23 hG => ?_)
          refine r_iload (pc := 70) X dX3_moveHands_70 rfl ?_
          refine r_iadd (pc := 72) X dX3_moveHands_72 hG (fun z24 hG => ?_)
          refine r_istore (pc := 73) (L' := [some (.ref (ad b0)), some (.ref (ad b1)), some (.int x2), some (.int y7), some (.int y21), some (.int z24)]) X dX3_moveHands_73 (by decide) rfl rfl ?_
          refine r_aload_n (pc := 75) X dX3_moveHands_75 rfl rfl ?_
          refine r_aload_n (pc := 76) X dX3_moveHands_76 rfl rfl ?_
          refine r_getC (pc := 77) X (at_X1_o Hb1) rfl mU_X1 (k := 1) (by decide) (q := (b1 + 2)) rfl mF_X3_116 dX3_moveHands_77 ?_
          refine r_iload (pc := 80) X dX3_moveHands_80 rfl ?_
          refine r_iald (pc := 82) X (at_X1_kinds Hb1) dX3_moveHands_82 hG (fun z25 hG => ?_)
          refine r_aload_n (pc := 83) X dX3_moveHands_83 rfl rfl ?_
          refine r_getC (pc := 84) X (at_X1_o Hb1) rfl mU_X1 (k := 2) (by decide) (q := (b1 + 3)) rfl mF_X3_119 dX3_moveHands_84 ?_
          refine r_iload (pc := 87) X dX3_moveHands_87 rfl ?_
          refine r_iald (pc := 89) X (at_X1_cells Hb1) dX3_moveHands_89 hG (fun z26 hG => ?_)
          refine r_aload_n (pc := 90) X dX3_moveHands_90 rfl rfl ?_
          refine r_getC (pc := 91) X (at_X1_o Hb1) rfl mU_X1 (k := 3) (by decide) (q := (b1 + 4)) rfl mF_X3_122 dX3_moveHands_91 ?_
          refine r_iload (pc := 94) X dX3_moveHands_94 rfl ?_
          refine r_iald (pc := 96) X (at_X1_targets Hb1) dX3_moveHands_96 hG (fun z27 hG => ?_)
          refine r_cV (pc := 97) hG (fun _ hg => runV X dX3_moveHands_97 (c_X3_perform Hb0 hg) mM_X3_125 mI_X3_perform mE_X3_perform mN_X3 mK_X3_perform (at_X3_o Hb0) rfl rfl rfl rfl hdd_X3_perform ⟨(Nat.le_of_ble_eq_true rfl), (Nat.le_of_ble_eq_true rfl)⟩ rfl rfl (Nat.le_of_ble_eq_true rfl) ⟨(Nat.le_of_ble_eq_true rfl), (Nat.le_of_ble_eq_true rfl)⟩) (fun h28 hG => ?_)
          refine r_aload_n (pc := 100) X dX3_moveHands_100 rfl rfl ?_
          refine r_getC (pc := 101) X (at_X3_o Hb0) rfl mU_X3 (k := 5) (by decide) (q := (b0 + 6)) rfl mF_X3_27 dX3_moveHands_101 ?_
          refine r_iload_n (pc := 104) X dX3_moveHands_104 rfl rfl ?_
          refine r_iload (pc := 105) X dX3_moveHands_105 rfl ?_
          refine r_iconst (pc := 107) X dX3_moveHands_107 hG rfl (fun z29 hG => ?_)
          refine r_iadd (pc := 108) X dX3_moveHands_108 hG (fun z30 hG => ?_)
          refine r_iast (pc := 109) X (at_X3_nextAct Hb0) dX3_moveHands_109 hG (fun h31 hG => ?_)
          refine r_aload_n (pc := 110) X dX3_moveHands_110 rfl rfl ?_
          refine r_getC (pc := 111) X (at_X3_o Hb0) rfl mU_X3 (k := 6) (by decide) (q := (b0 + 7)) rfl mF_X3_30 dX3_moveHands_111 ?_
          refine r_iload_n (pc := 114) X dX3_moveHands_114 rfl rfl ?_
          refine r_dup2 (pc := 115) X dX3_moveHands_115 rfl rfl ?_
          refine r_iald (pc := 116) X (at_X3_actsSinceRest Hb0) dX3_moveHands_116 hG (fun z32 hG => ?_)
          refine r_iconst (pc := 117) X dX3_moveHands_117 hG rfl (fun z33 hG => ?_)
          refine r_iadd (pc := 118) X dX3_moveHands_118 hG (fun z34 hG => ?_)
          refine r_iast (pc := 119) X (at_X3_actsSinceRest Hb0) dX3_moveHands_119 hG (fun h35 hG => ?_)
          exact r_mask [true, true, true, true, false, false] rfl (Hj12 _ hG h35 rfl)
        refine r_icmp_ge (pc := 51) X dX3_moveHands_51 (tgt := 63) (by decide) hG (fun hG => ?_) (fun hG => ?_)
        · skip
          refine r_iconst (pc := 63) X dX3_moveHands_63 hG rfl (fun z36 hG => ?_)
          exact r_mask [true, true, true, true, false, false] rfl (Hj20 _ hG z36 rfl)
        · skip
          refine r_aload_n (pc := 54) X dX3_moveHands_54 rfl rfl ?_
          refine r_getC (pc := 55) X (at_X3_o Hb0) rfl mU_X3 (k := 5) (by decide) (q := (b0 + 6)) rfl mF_X3_27 dX3_moveHands_55 ?_
          refine r_iload_n (pc := 58) X dX3_moveHands_58 rfl rfl ?_
          refine r_iald (pc := 59) X (at_X3_nextAct Hb0) dX3_moveHands_59 hG (fun z37 hG => ?_)
          refine r_goto (pc := 60) X dX3_moveHands_60 (tgt := 64) (by decide) ?_
          exact r_mask [true, true, true, true, false, false] rfl (Hj20 _ hG z37 rfl)
      refine r_if_le (pc := 16) X dX3_moveHands_16 (tgt := 39) (by decide) hG (fun hG => ?_) (fun hG => ?_)
      · skip
        exact r_mask [true, true, true, true, false, false] rfl (Hj16 _ hG)
      · skip
        refine r_aload_n (pc := 19) X dX3_moveHands_19 rfl rfl ?_
        refine r_getC (pc := 20) X (at_X3_o Hb0) rfl mU_X3 (k := 6) (by decide) (q := (b0 + 7)) rfl mF_X3_30 dX3_moveHands_20 ?_
        refine r_iload_n (pc := 23) X dX3_moveHands_23 rfl rfl ?_
        refine r_iald (pc := 24) X (at_X3_actsSinceRest Hb0) dX3_moveHands_24 hG (fun z38 hG => ?_)
        refine r_iload_n (pc := 25) X dX3_moveHands_25 rfl rfl ?_
        refine r_icmp_lt (pc := 26) X dX3_moveHands_26 (tgt := 39) (by decide) hG (fun hG => ?_) (fun hG => ?_)
        · skip
          exact r_mask [true, true, true, true, false, false] rfl (Hj16 _ hG)
        · skip
          refine r_aload_n (pc := 29) X dX3_moveHands_29 rfl rfl ?_
          refine r_getC (pc := 30) X (at_X3_o Hb0) rfl mU_X3 (k := 6) (by decide) (q := (b0 + 7)) rfl mF_X3_30 dX3_moveHands_30 ?_
          refine r_iload_n (pc := 33) X dX3_moveHands_33 rfl rfl ?_
          refine r_iconst (pc := 34) X dX3_moveHands_34 hG rfl (fun z39 hG => ?_)
          refine r_iast (pc := 35) X (at_X3_actsSinceRest Hb0) dX3_moveHands_35 hG (fun h40 hG => ?_)
          refine r_goto (pc := 36) X dX3_moveHands_36 (tgt := 120) (by decide) ?_
          exact r_mask [true, true, true, true, false, false] rfl (Hj12 _ hG h40 rfl)
theorem c_X3_moveHands {b0 : Nat} {b1 : Nat} {x2 : Int32} {r : Hp} (Hb0 : At_X3 shl b0) (Hb1 : At_X1 shl b1) (hg : g_X3_moveHands b0 b1 x2.toInt h = some r) : Met l yX3_moveHands (wsM yX3_moveHands cX3_moveHands 6 none) rm_X3_moveHands (va_Pc [.ref (ad b0), .ref (ad b1), .int x2] (World E ad shl h)) (QcV E ad shl r) 0 0 (bsA E) :=
  met_of (L0 := [some (.ref (ad b0)), some (.ref (ad b1)), some (.int x2), none, none, none]) rfl rfl rfl (Nat.le_of_ble_eq_true rfl) (fun _ _ _ _ _ _ _ X => w_X3_moveHands Hb0 Hb1 X rfl hg)
abbrev rm_X2_cut : Room := { frames := 0, cells := 0, slots := 0, locals := 0 }
theorem hdd_X2_cut : yX2_cut.cls = RX2 ∧ yX2_cut.cls ≠ "java/lang/invoke/MethodHandle" ∧ yX2_cut.cls ≠ "java/lang/invoke/VarHandle" ∧ (parseMethodDescriptor yX2_cut.desc).map (fun d => d.parameters.length) = some 0 := ⟨rfl, by decide +kernel, by decide +kernel, by decide +kernel⟩
set_option maxRecDepth 100000 in
set_option maxHeartbeats 4000000 in
theorem w_X2_cut {b0 : Nat} {r : Int} (Hb0 : At_X2 shl b0) (X : Cx E p s m args meth c cX2_cut RX2 1 (some .int)) (hQ : Q = MQ below (QcI E ad shl r h) args s 0 0 (bsA E)) (hG : g_X2_cut b0 h = some r) : Ev E ad shl p l e rm_X2_cut s m args below meth c 0 0 Q 1 h 0 [some (.ref (ad b0))] [] := by
  unfold g_X2_cut at hG
  refine r_aload_n (pc := 0) X dX2_cut_0 rfl rfl ?_
  refine r_getC (pc := 1) X (at_X2_o Hb0) rfl mU_X2 (k := 0) (by decide) (q := (b0 + 1)) rfl mF_X2_11 dX2_cut_1 ?_
  refine r_bipush (pc := 4) X dX2_cut_4 hG (by decide) (fun z1 hG => ?_)
  refine r_iald (pc := 6) X (at_X2_numbers Hb0) dX2_cut_6 hG (fun z2 hG => ?_)
  exact r_iretP (pc := 7) X dX2_cut_7 hQ hG
theorem c_X2_cut {b0 : Nat} {r : Int} (Hb0 : At_X2 shl b0) (hg : g_X2_cut b0 h = some r) : Met l yX2_cut (wsM yX2_cut cX2_cut 1 (some .int)) rm_X2_cut (va_Pc [.ref (ad b0)] (World E ad shl h)) (QcI E ad shl r h) 0 0 (bsA E) :=
  met_of (L0 := [some (.ref (ad b0))]) rfl rfl rfl (Nat.le_of_ble_eq_true rfl) (fun _ _ _ _ _ _ _ X => w_X2_cut Hb0 X rfl hg)
abbrev rm_X0_cells : Room := { frames := 0, cells := 0, slots := 0, locals := 0 }
theorem hdd_X0_cells : yX0_cells.cls = RX0 ∧ yX0_cells.cls ≠ "java/lang/invoke/MethodHandle" ∧ yX0_cells.cls ≠ "java/lang/invoke/VarHandle" ∧ (parseMethodDescriptor yX0_cells.desc).map (fun d => d.parameters.length) = some 0 := ⟨rfl, by decide +kernel, by decide +kernel, by decide +kernel⟩
set_option maxRecDepth 100000 in
set_option maxHeartbeats 4000000 in
theorem w_X0_cells {b0 : Nat} {r : Int} (Hb0 : At_X0 shl b0) (X : Cx E p s m args meth c cX0_cells RX0 1 (some .int)) (hQ : Q = MQ below (QcI E ad shl r h) args s 0 0 (bsA E)) (hG : g_X0_cells b0 h = some r) : Ev E ad shl p l e rm_X0_cells s m args below meth c 0 0 Q 1 h 0 [some (.ref (ad b0))] [] := by
  unfold g_X0_cells at hG
  refine r_aload_n (pc := 0) X dX0_cells_0 rfl rfl ?_
  refine r_getC (pc := 1) X (at_X0_o Hb0) rfl mU_X0 (k := 0) (by decide) (q := (b0 + 1)) rfl mF_X0_11 dX0_cells_1 ?_
  refine r_iconst (pc := 4) X dX0_cells_4 hG rfl (fun z1 hG => ?_)
  refine r_iald (pc := 5) X (at_X0_numbers Hb0) dX0_cells_5 hG (fun z2 hG => ?_)
  refine r_aload_n (pc := 6) X dX0_cells_6 rfl rfl ?_
  refine r_getC (pc := 7) X (at_X0_o Hb0) rfl mU_X0 (k := 0) (by decide) (q := (b0 + 1)) rfl mF_X0_11 dX0_cells_7 ?_
  refine r_iconst (pc := 10) X dX0_cells_10 hG rfl (fun z3 hG => ?_)
  refine r_iald (pc := 11) X (at_X0_numbers Hb0) dX0_cells_11 hG (fun z4 hG => ?_)
  refine r_imul (pc := 12) X dX0_cells_12 hG (fun z5 hG => ?_)
  exact r_iretP (pc := 13) X dX0_cells_13 hQ hG
theorem c_X0_cells {b0 : Nat} {r : Int} (Hb0 : At_X0 shl b0) (hg : g_X0_cells b0 h = some r) : Met l yX0_cells (wsM yX0_cells cX0_cells 1 (some .int)) rm_X0_cells (va_Pc [.ref (ad b0)] (World E ad shl h)) (QcI E ad shl r h) 0 0 (bsA E) :=
  met_of (L0 := [some (.ref (ad b0))]) rfl rfl rfl (Nat.le_of_ble_eq_true rfl) (fun _ _ _ _ _ _ _ X => w_X0_cells Hb0 X rfl hg)
abbrev rm_X3_soak : Room := { frames := 0, cells := 0, slots := 0, locals := 0 }
theorem hdd_X3_soak : yX3_soak.cls = RX3 ∧ yX3_soak.cls ≠ "java/lang/invoke/MethodHandle" ∧ yX3_soak.cls ≠ "java/lang/invoke/VarHandle" ∧ (parseMethodDescriptor yX3_soak.desc).map (fun d => d.parameters.length) = some 1 := ⟨rfl, by decide +kernel, by decide +kernel, by decide +kernel⟩
set_option maxRecDepth 100000 in
set_option maxHeartbeats 4000000 in
theorem w_X3_soak {b0 : Nat} {x1 : Int32} {r : Hp} (Hb0 : At_X3 shl b0) (X : Cx E p s m args meth c cX3_soak RX3 2 none) (hQ : Q = MQ below (QcV E ad shl r) args s 0 0 (bsA E)) (hG : g_X3_soak b0 x1.toInt h = some r) : Ev E ad shl p l e rm_X3_soak s m args below meth c 0 0 Q 2 h 0 [some (.ref (ad b0)), some (.int x1)] [] := by
  unfold g_X3_soak at hG
  refine r_aload_n (pc := 0) X dX3_soak_0 rfl rfl ?_
  refine r_getC (pc := 1) X (at_X3_o Hb0) rfl mU_X3 (k := 1) (by decide) (q := (b0 + 2)) rfl mF_X3_15 dX3_soak_1 ?_
  refine r_iload_n (pc := 4) X dX3_soak_4 rfl rfl ?_
  refine r_iald (pc := 5) X (at_X3_wet Hb0) dX3_soak_5 hG (fun z1 hG => ?_)
  refine r_bipush (pc := 6) X dX3_soak_6 hG (by decide) (fun z2 hG => ?_)
  refine r_join hG (fun a3 => ∀ (h5 : Hp), a3 = h5 → Ev E ad shl p l e rm_X3_soak s m args below meth c 0 0 Q 2 h5 24 [none, none] []) (fun a3 hG => ?_) (fun j4 Hj4 hG => ?_)
  · skip
    intro h5 ha; have ha := ha.symm; subst ha
    exact r_vret (pc := 24) X dX3_soak_24 hQ hG
  refine r_icmp_eq (pc := 8) X dX3_soak_8 (tgt := 24) (by decide) hG (fun hG => ?_) (fun hG => ?_)
  · skip
    exact r_mask [false, false] rfl (Hj4 _ hG h rfl)
  · skip
    refine r_aload_n (pc := 11) X dX3_soak_11 rfl rfl ?_
    refine r_getC (pc := 12) X (at_X3_o Hb0) rfl mU_X3 (k := 1) (by decide) (q := (b0 + 2)) rfl mF_X3_15 dX3_soak_12 ?_
    refine r_iload_n (pc := 15) X dX3_soak_15 rfl rfl ?_
    refine r_bipush (pc := 16) X dX3_soak_16 hG (by decide) (fun z6 hG => ?_)
    refine r_iast (pc := 18) X (at_X3_wet Hb0) dX3_soak_18 hG (fun h7 hG => ?_)
    refine r_aload_n (pc := 19) X dX3_soak_19 rfl rfl ?_
    refine r_iconst (pc := 20) X dX3_soak_20 hG rfl (fun z8 hG => ?_)
    refine r_putZ (pc := 21) X (at_X3_o Hb0) rfl mU_X3 (k := 15) (by decide) rfl rfl rfl mF_X3_80 dX3_soak_21 hG (fun h9 hG => ?_)
    exact r_mask [false, false] rfl (Hj4 _ hG h9 rfl)
theorem c_X3_soak {b0 : Nat} {x1 : Int32} {r : Hp} (Hb0 : At_X3 shl b0) (hg : g_X3_soak b0 x1.toInt h = some r) : Met l yX3_soak (wsM yX3_soak cX3_soak 2 none) rm_X3_soak (va_Pc [.ref (ad b0), .int x1] (World E ad shl h)) (QcV E ad shl r) 0 0 (bsA E) :=
  met_of (L0 := [some (.ref (ad b0)), some (.int x1)]) rfl rfl rfl (Nat.le_of_ble_eq_true rfl) (fun _ _ _ _ _ _ _ X => w_X3_soak Hb0 X rfl hg)
abbrev rm_X3_carryOff : Room := { frames := 0, cells := 0, slots := 0, locals := 0 }
theorem hdd_X3_carryOff : yX3_carryOff.cls = RX3 ∧ yX3_carryOff.cls ≠ "java/lang/invoke/MethodHandle" ∧ yX3_carryOff.cls ≠ "java/lang/invoke/VarHandle" ∧ (parseMethodDescriptor yX3_carryOff.desc).map (fun d => d.parameters.length) = some 2 := ⟨rfl, by decide +kernel, by decide +kernel, by decide +kernel⟩
set_option maxRecDepth 100000 in
set_option maxHeartbeats 4000000 in
theorem w_X3_carryOff {b0 : Nat} {x1 : Int32} {x2 : Int32} {r : Hp} (Hb0 : At_X3 shl b0) (X : Cx E p s m args meth c cX3_carryOff RX3 3 none) (hQ : Q = MQ below (QcV E ad shl r) args s 0 0 (bsA E)) (hG : g_X3_carryOff b0 x1.toInt x2.toInt h = some r) : Ev E ad shl p l e rm_X3_carryOff s m args below meth c 0 0 Q 3 h 0 [some (.ref (ad b0)), some (.int x1), some (.int x2)] [] := by
  unfold g_X3_carryOff at hG
  refine r_iload_n (pc := 0) X dX3_carryOff_0 rfl rfl ?_
  refine r_join hG (fun a1 => ∀ (h3 : Hp), a1 = h3 → Ev E ad shl p l e rm_X3_carryOff s m args below meth c 0 0 Q 3 h3 29 [none, none, none] []) (fun a1 hG => ?_) (fun j2 Hj2 hG => ?_)
  · skip
    intro h3 ha; have ha := ha.symm; subst ha
    exact r_vret (pc := 29) X dX3_carryOff_29 hQ hG
  refine r_if_le (pc := 1) X dX3_carryOff_1 (tgt := 29) (by decide) hG (fun hG => ?_) (fun hG => ?_)
  · skip
    exact r_mask [false, false, false] rfl (Hj2 _ hG h rfl)
  · skip
    refine r_aload_n (pc := 4) X dX3_carryOff_4 rfl rfl ?_
    refine r_getC (pc := 5) X (at_X3_o Hb0) rfl mU_X3 (k := 0) (by decide) (q := (b0 + 1)) rfl mF_X3_9 dX3_carryOff_5 ?_
    refine r_iload_n (pc := 8) X dX3_carryOff_8 rfl rfl ?_
    refine r_dup2 (pc := 9) X dX3_carryOff_9 rfl rfl ?_
    refine r_iald (pc := 10) X (at_X3_height Hb0) dX3_carryOff_10 hG (fun z4 hG => ?_)
    refine r_iload_n (pc := 11) X dX3_carryOff_11 rfl rfl ?_
    refine r_isub (pc := 12) X dX3_carryOff_12 hG (fun z5 hG => ?_)
    refine r_iast (pc := 13) X (at_X3_height Hb0) dX3_carryOff_13 hG (fun h6 hG => ?_)
    refine r_aload_n (pc := 14) X dX3_carryOff_14 rfl rfl ?_
    refine r_dup (pc := 15) X dX3_carryOff_15 rfl ?_
    refine r_getI (pc := 16) X (at_X3_o Hb0) rfl mU_X3 (k := 10) (by decide) rfl mF_X3_65 dX3_carryOff_16 hG (fun z7 hG => ?_)
    refine r_iload_n (pc := 19) X dX3_carryOff_19 rfl rfl ?_
    refine r_iadd (pc := 20) X dX3_carryOff_20 hG (fun z8 hG => ?_)
    refine r_putI (pc := 21) X (at_X3_o Hb0) rfl mU_X3 (k := 10) (by decide) rfl rfl rfl mF_X3_65 dX3_carryOff_21 hG (fun h9 hG => ?_)
    refine r_aload_n (pc := 24) X dX3_carryOff_24 rfl rfl ?_
    refine r_iconst (pc := 25) X dX3_carryOff_25 hG rfl (fun z10 hG => ?_)
    refine r_putZ (pc := 26) X (at_X3_o Hb0) rfl mU_X3 (k := 15) (by decide) rfl rfl rfl mF_X3_80 dX3_carryOff_26 hG (fun h11 hG => ?_)
    exact r_mask [false, false, false] rfl (Hj2 _ hG h11 rfl)
theorem c_X3_carryOff {b0 : Nat} {x1 : Int32} {x2 : Int32} {r : Hp} (Hb0 : At_X3 shl b0) (hg : g_X3_carryOff b0 x1.toInt x2.toInt h = some r) : Met l yX3_carryOff (wsM yX3_carryOff cX3_carryOff 3 none) rm_X3_carryOff (va_Pc [.ref (ad b0), .int x1, .int x2] (World E ad shl h)) (QcV E ad shl r) 0 0 (bsA E) :=
  met_of (L0 := [some (.ref (ad b0)), some (.int x1), some (.int x2)]) rfl rfl rfl (Nat.le_of_ble_eq_true rfl) (fun _ _ _ _ _ _ _ X => w_X3_carryOff Hb0 X rfl hg)
abbrev rm_X3_runUpColumn : Room := { frames := 1, cells := 0, slots := 0, locals := 22 }
theorem hdd_X3_runUpColumn : yX3_runUpColumn.cls = RX3 ∧ yX3_runUpColumn.cls ≠ "java/lang/invoke/MethodHandle" ∧ yX3_runUpColumn.cls ≠ "java/lang/invoke/VarHandle" ∧ (parseMethodDescriptor yX3_runUpColumn.desc).map (fun d => d.parameters.length) = some 5 := ⟨rfl, by decide +kernel, by decide +kernel, by decide +kernel⟩
set_option maxRecDepth 100000 in
set_option maxHeartbeats 4000000 in
theorem w_X3_runUpColumn {b0 : Nat} {b1 : Nat} {x2 : Int32} {x3 : Int32} {x4 : Int32} {x5 : Int32} {r : Hp} (Hb0 : At_X3 shl b0) (Hb1 : At_X0 shl b1) (X : Cx E p s m args meth c cX3_runUpColumn RX3 10 none) (hQ : Q = MQ below (QcV E ad shl r) args s 0 0 (bsA E)) (hG : g_X3_runUpColumn b0 b1 x2.toInt x3.toInt x4.toInt x5.toInt h = some r) : Ev E ad shl p l e rm_X3_runUpColumn s m args below meth c 0 0 Q 10 h 0 [some (.ref (ad b0)), some (.ref (ad b1)), some (.int x2), some (.int x3), some (.int x4), some (.int x5), none, none, none, none] [] := by
  unfold g_X3_runUpColumn at hG
  refine r_aload_n (pc := 0) X dX3_runUpColumn_0 rfl rfl ?_
  refine r_cP (pc := 1) hG (fun _ hg => runV X dX3_runUpColumn_1 (c_X0_columns Hb1 hg) mM_X3_180 mI_X0_columns mE_X0_columns mN_X0 mK_X0_columns (at_X0_o Hb1) rfl rfl rfl rfl hdd_X0_columns ⟨(Nat.le_of_ble_eq_true rfl), (Nat.le_of_ble_eq_true rfl)⟩ rfl rfl (Nat.le_of_ble_eq_true rfl) ⟨(Nat.le_of_ble_eq_true rfl), (Nat.le_of_ble_eq_true rfl)⟩) (fun z1 hG => ?_)
  refine r_istore (pc := 4) (L' := [some (.ref (ad b0)), some (.ref (ad b1)), some (.int x2), some (.int x3), some (.int x4), some (.int x5), some (.int z1), none, none, none]) X dX3_runUpColumn_4 (by decide) rfl rfl ?_
  refine r_aload_n (pc := 6) X dX3_runUpColumn_6 rfl rfl ?_
  refine r_cP (pc := 7) hG (fun _ hg => runV X dX3_runUpColumn_7 (c_X0_cells Hb1 hg) mM_X3_187 mI_X0_cells mE_X0_cells mN_X0 mK_X0_cells (at_X0_o Hb1) rfl rfl rfl rfl hdd_X0_cells ⟨(Nat.le_of_ble_eq_true rfl), (Nat.le_of_ble_eq_true rfl)⟩ rfl rfl (Nat.le_of_ble_eq_true rfl) ⟨(Nat.le_of_ble_eq_true rfl), (Nat.le_of_ble_eq_true rfl)⟩) (fun z2 hG => ?_)
  refine r_istore (pc := 10) (L' := [some (.ref (ad b0)), some (.ref (ad b1)), some (.int x2), some (.int x3), some (.int x4), some (.int x5), some (.int z1), some (.int z2), none, none]) X dX3_runUpColumn_10 (by decide) rfl rfl ?_
  refine r_iload_n (pc := 12) X dX3_runUpColumn_12 rfl rfl ?_
  refine r_istore (pc := 13) (L' := [some (.ref (ad b0)), some (.ref (ad b1)), some (.int x2), some (.int x3), some (.int x4), some (.int x5), some (.int z1), some (.int z2), some (.int x2), none]) X dX3_runUpColumn_13 (by decide) rfl rfl ?_
  refine r_iconst (pc := 15) X dX3_runUpColumn_15 hG rfl (fun z3 hG => ?_)
  refine r_istore (pc := 16) (L' := [some (.ref (ad b0)), some (.ref (ad b1)), some (.int x2), some (.int x3), some (.int x4), some (.int x5), some (.int z1), some (.int z2), some (.int x2), some (.int z3)]) X dX3_runUpColumn_16 (by decide) rfl rfl ?_
  refine r_join hG (fun a4 => ∀ (h6 : Hp), a4 = h6 → Ev E ad shl p l e rm_X3_runUpColumn s m args below meth c 0 0 Q 10 h6 111 [none, none, none, none, none, none, none, none, none, none] []) (fun a4 hG => ?_) (fun j5 Hj5 hG => ?_)
  · skip
    intro h6 ha; have ha := ha.symm; subst ha
    exact r_vret (pc := 111) X dX3_runUpColumn_111 hQ hG
  refine r_join hG (fun a7 => ∀ (y9 : Int32) (h10 : Hp), a7 = (y9.toInt, h10) → Ev E ad shl p l e rm_X3_runUpColumn s m args below meth c 0 0 Q 10 h10 79 [some (.ref (ad b0)), none, none, none, none, some (.int x5), none, none, some (.int y9), none] []) (fun a7 hG => ?_) (fun j8 Hj8 hG => ?_)
  · skip
    intro y9 h10 ha; have ha := ha.symm; subst ha
    refine r_aload_n (pc := 79) X dX3_runUpColumn_79 rfl rfl ?_
    refine r_iload (pc := 80) X dX3_runUpColumn_80 rfl ?_
    refine r_iload (pc := 82) X dX3_runUpColumn_82 rfl ?_
    refine r_aload_n (pc := 84) X dX3_runUpColumn_84 rfl rfl ?_
    refine r_getC (pc := 85) X (at_X3_o Hb0) rfl mU_X3 (k := 0) (by decide) (q := (b0 + 1)) rfl mF_X3_9 dX3_runUpColumn_85 ?_
    refine r_iload (pc := 88) X dX3_runUpColumn_88 rfl ?_
    refine r_iald (pc := 90) X (at_X3_height Hb0) dX3_runUpColumn_90 hG (fun z11 hG => ?_)
    refine r_mmin (pc := 91) X dX3_runUpColumn_91 mM_X3_137 (Nat.le_of_ble_eq_true rfl) (Nat.le_of_ble_eq_true rfl) (Nat.le_of_ble_eq_true rfl) (Nat.le_of_ble_eq_true rfl) hG (fun z12 hG => ?_)
    refine r_cV (pc := 94) hG (fun _ hg => runV X dX3_runUpColumn_94 (c_X3_carryOff Hb0 hg) mM_X3_192 mI_X3_carryOff mE_X3_carryOff mN_X3 mK_X3_carryOff (at_X3_o Hb0) rfl rfl rfl rfl hdd_X3_carryOff ⟨(Nat.le_of_ble_eq_true rfl), (Nat.le_of_ble_eq_true rfl)⟩ rfl rfl (Nat.le_of_ble_eq_true rfl) ⟨(Nat.le_of_ble_eq_true rfl), (Nat.le_of_ble_eq_true rfl)⟩) (fun h13 hG => ?_)
    exact r_vret (pc := 97) X dX3_runUpColumn_97 hQ hG
  refine r_join hG (fun a14 => ∀ (y16 : Int32) (h17 : Hp), a14 = (y16.toInt, h17) → Ev E ad shl p l e rm_X3_runUpColumn s m args below meth c 0 0 Q 10 h17 41 [some (.ref (ad b0)), none, none, none, none, none, some (.int z1), some (.int z2), some (.int y16), none] []) (fun a14 hG => ?_) (fun j15 Hj15 hG => ?_)
  · skip
    intro y16 h17 ha; have ha := ha.symm; subst ha
    refine r_iload (pc := 41) X dX3_runUpColumn_41 rfl ?_
    refine r_iload (pc := 43) X dX3_runUpColumn_43 rfl ?_
    refine r_iadd (pc := 45) X dX3_runUpColumn_45 hG (fun z18 hG => ?_)
    refine r_iload (pc := 46) X dX3_runUpColumn_46 rfl ?_
    refine r_join hG (fun a19 => ∀ (h21 : Hp), a19 = h21 → Ev E ad shl p l e rm_X3_runUpColumn s m args below meth c 0 0 Q 10 h21 60 [none, none, none, none, none, none, none, none, none, none] []) (fun a19 hG => ?_) (fun j20 Hj20 hG => ?_)
    · skip
      intro h21 ha; have ha := ha.symm; subst ha
      exact r_vret (pc := 60) X dX3_runUpColumn_60 hQ hG
    refine r_icmp_ge (pc := 48) X dX3_runUpColumn_48 (tgt := 60) (by decide) hG (fun hG => ?_) (fun hG => ?_)
    · skip
      exact r_mask [false, false, false, false, false, false, false, false, false, false] rfl (Hj20 _ hG h17 rfl)
    · skip
      refine r_aload_n (pc := 51) X dX3_runUpColumn_51 rfl rfl ?_
      refine r_iload (pc := 52) X dX3_runUpColumn_52 rfl ?_
      refine r_iload (pc := 54) X dX3_runUpColumn_54 rfl ?_
      refine r_iadd (pc := 56) X dX3_runUpColumn_56 hG (fun z22 hG => ?_)
      refine r_cV (pc := 57) hG (fun _ hg => runV X dX3_runUpColumn_57 (c_X3_soak Hb0 hg) mM_X3_189 mI_X3_soak mE_X3_soak mN_X3 mK_X3_soak (at_X3_o Hb0) rfl rfl rfl rfl hdd_X3_soak ⟨(Nat.le_of_ble_eq_true rfl), (Nat.le_of_ble_eq_true rfl)⟩ rfl rfl (Nat.le_of_ble_eq_true rfl) ⟨(Nat.le_of_ble_eq_true rfl), (Nat.le_of_ble_eq_true rfl)⟩) (fun h23 hG => ?_)
      exact r_mask [false, false, false, false, false, false, false, false, false, false] rfl (Hj20 _ hG h23 rfl)
  refine r_mask [true, false, false, true, true, true, true, true, true, true] rfl (r_loop (fun q24 => ∀ (y26 : Int32) (y27 : Int32) (h28 : Hp), q24 = (y26.toInt, y27.toInt, h28) → Ev E ad shl p l e rm_X3_runUpColumn s m args below meth c 0 0 Q 10 h28 18 [some (.ref (ad b0)), none, none, some (.int x3), some (.int x4), some (.int x5), some (.int z1), some (.int z2), some (.int y26), some (.int y27)] []) (fun l25 Hl25 q24 hG => ?_) FU _ hG x2 z3 h rfl)
  intro y26 y27 h28 ha; have ha := ha.symm; subst ha
  unfold g_X3_runUpColumn_l25 at hG
  refine r_iload (pc := 18) X dX3_runUpColumn_18 rfl ?_
  refine r_iload_n (pc := 20) X dX3_runUpColumn_20 rfl rfl ?_
  refine r_icmp_ge (pc := 21) X dX3_runUpColumn_21 (tgt := 111) (by decide) hG (fun hG => ?_) (fun hG => ?_)
  · skip
    exact r_mask [false, false, false, false, false, false, false, false, false, false] rfl (Hj5 _ hG h28 rfl)
  · skip
    refine r_iload (pc := 24) X dX3_runUpColumn_24 rfl ?_
    refine r_iload (pc := 26) X dX3_runUpColumn_26 rfl ?_
    refine r_icmp_ge (pc := 28) X dX3_runUpColumn_28 (tgt := 111) (by decide) hG (fun hG => ?_) (fun hG => ?_)
    · skip
      exact r_mask [false, false, false, false, false, false, false, false, false, false] rfl (Hj5 _ hG h28 rfl)
    · skip
      refine r_aload_n (pc := 31) X dX3_runUpColumn_31 rfl rfl ?_
      refine r_getC (pc := 32) X (at_X3_o Hb0) rfl mU_X3 (k := 3) (by decide) (q := (b0 + 4)) rfl mF_X3_21 dX3_runUpColumn_32 ?_
      refine r_iload (pc := 35) X dX3_runUpColumn_35 rfl ?_
      refine r_iald (pc := 37) X (at_X3_stone Hb0) dX3_runUpColumn_37 hG (fun z29 hG => ?_)
      refine r_if_eq (pc := 38) X dX3_runUpColumn_38 (tgt := 61) (by decide) hG (fun hG => ?_) (fun hG => ?_)
      · skip
        refine r_aload_n (pc := 61) X dX3_runUpColumn_61 rfl rfl ?_
        refine r_iload (pc := 62) X dX3_runUpColumn_62 rfl ?_
        refine r_cV (pc := 64) hG (fun _ hg => runV X dX3_runUpColumn_64 (c_X3_soak Hb0 hg) mM_X3_189 mI_X3_soak mE_X3_soak mN_X3 mK_X3_soak (at_X3_o Hb0) rfl rfl rfl rfl hdd_X3_soak ⟨(Nat.le_of_ble_eq_true rfl), (Nat.le_of_ble_eq_true rfl)⟩ rfl rfl (Nat.le_of_ble_eq_true rfl) ⟨(Nat.le_of_ble_eq_true rfl), (Nat.le_of_ble_eq_true rfl)⟩) (fun h30 hG => ?_)
        refine r_aload_n (pc := 67) X dX3_runUpColumn_67 rfl rfl ?_
        refine r_getC (pc := 68) X (at_X3_o Hb0) rfl mU_X3 (k := 0) (by decide) (q := (b0 + 1)) rfl mF_X3_9 dX3_runUpColumn_68 ?_
        refine r_iload (pc := 71) X dX3_runUpColumn_71 rfl ?_
        refine r_iald (pc := 73) X (at_X3_height Hb0) dX3_runUpColumn_73 hG (fun z31 hG => ?_)
        refine r_iload (pc := 74) X dX3_runUpColumn_74 rfl ?_
        refine r_icmp_le (pc := 76) X dX3_runUpColumn_76 (tgt := 98) (by decide) hG (fun hG => ?_) (fun hG => ?_)
        · skip
          refine r_iload (pc := 98) X dX3_runUpColumn_98 rfl ?_
          refine r_iload (pc := 100) X dX3_runUpColumn_100 rfl ?_
          refine r_iadd (pc := 102) X dX3_runUpColumn_102 hG (fun z32 hG => ?_)
          refine r_istore (pc := 103) (L' := [some (.ref (ad b0)), none, none, some (.int x3), some (.int x4), some (.int x5), some (.int z1), some (.int z2), some (.int z32), some (.int y27)]) X dX3_runUpColumn_103 (by decide) rfl rfl ?_
          refine r_iinc (pc := 105) (L' := fun z33 => [some (.ref (ad b0)), none, none, some (.int x3), some (.int x4), some (.int x5), some (.int z1), some (.int z2), some (.int z32), some (.int z33)]) X dX3_runUpColumn_105 (by decide) rfl rfl (by decide) (fun _ => rfl) hG (fun z33 hG => ?_)
          refine r_goto (pc := 108) X dX3_runUpColumn_108 (tgt := 18) (by decide) ?_
          exact r_mask [true, false, false, true, true, true, true, true, true, true] rfl (Hl25 _ hG z32 z33 h30 rfl)
        · skip
          exact r_mask [true, false, false, false, false, true, false, false, true, false] rfl (Hj8 _ hG y26 h30 rfl)
      · skip
        exact r_mask [true, false, false, false, false, false, true, true, true, false] rfl (Hj15 _ hG y26 h28 rfl)
theorem c_X3_runUpColumn {b0 : Nat} {b1 : Nat} {x2 : Int32} {x3 : Int32} {x4 : Int32} {x5 : Int32} {r : Hp} (Hb0 : At_X3 shl b0) (Hb1 : At_X0 shl b1) (hg : g_X3_runUpColumn b0 b1 x2.toInt x3.toInt x4.toInt x5.toInt h = some r) : Met l yX3_runUpColumn (wsM yX3_runUpColumn cX3_runUpColumn 10 none) rm_X3_runUpColumn (va_Pc [.ref (ad b0), .ref (ad b1), .int x2, .int x3, .int x4, .int x5] (World E ad shl h)) (QcV E ad shl r) 0 0 (bsA E) :=
  met_of (L0 := [some (.ref (ad b0)), some (.ref (ad b1)), some (.int x2), some (.int x3), some (.int x4), some (.int x5), none, none, none, none]) rfl rfl rfl (Nat.le_of_ble_eq_true rfl) (fun _ _ _ _ _ _ _ X => w_X3_runUpColumn Hb0 Hb1 X rfl hg)
end WALKS
