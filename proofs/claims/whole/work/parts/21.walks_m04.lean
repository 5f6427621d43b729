section WALKS
variable {E : EnvT} {ad : Nat → Nat} {shl : List Shp} {p : Program} {l : Launch} {e : Env} {s : State} {m : MethodId} {args : Array Value} {below : List Frame} {meth : Method} {c : Code} {Q : State → Prop} {h : Hp}
abbrev rm_X9_lastByRow : Room := { frames := 5, cells := 0, slots := 0, locals := 111 }
theorem hdd_X9_lastByRow : yX9_lastByRow.cls = RX9 ∧ yX9_lastByRow.cls ≠ "java/lang/invoke/MethodHandle" ∧ yX9_lastByRow.cls ≠ "java/lang/invoke/VarHandle" ∧ (parseMethodDescriptor yX9_lastByRow.desc).map (fun d => d.parameters.length) = some 5 := ⟨rfl, by decide +kernel, by decide +kernel, by decide +kernel⟩
set_option maxRecDepth 100000 in
set_option maxHeartbeats 4000000 in
theorem w_X9_lastByRow {x1 : Int32} {x2 : Int32} {x3 : Int32} {x4 : Int32} {x5 : Int32} {r : Int × Hp} (Hb0 : At_X9 shl) (X : Cx E p s m args meth c cX9_lastByRow RX9 7 (some .int)) (hQ : Q = MQ below (QcI E ad shl r.1 r.2) args s 0 0 (bsA E)) (hG : g_X9_lastByRow x1.toInt x2.toInt x3.toInt x4.toInt x5.toInt h = some r) : Ev E ad shl p l e rm_X9_lastByRow s m args below meth c 0 0 Q 7 h 0 [some (.ref (ad 100)), some (.int x1), some (.int x2), some (.int x3), some (.int x4), some (.int x5), none] [] := by
  unfold g_X9_lastByRow at hG
  refine r_aload_n (pc := 0) X dX9_lastByRow_0 rfl rfl ?_
  refine r_iconst (pc := 1) X dX9_lastByRow_1 hG rfl (fun z1 hG => ?_)
  refine r_iload (pc := 2) X dX9_lastByRow_2 rfl ?_
  refine r_cV (pc := 4) hG (fun _ hg => runV X dX9_lastByRow_4 (c_X9_beginTrial Hb0 hg) mM_X9_478 mI_X9_beginTrial mE_X9_beginTrial mN_X9 mK_X9_beginTrial (at_X9_o Hb0) rfl rfl rfl rfl hdd_X9_beginTrial ⟨(Nat.le_of_ble_eq_true rfl), (Nat.le_of_ble_eq_true rfl)⟩ rfl rfl (Nat.le_of_ble_eq_true rfl) ⟨(Nat.le_of_ble_eq_true rfl), (Nat.le_of_ble_eq_true rfl)⟩) (fun h2 hG => ?_)
  refine r_iconst (pc := 7) X dX9_lastByRow_7 hG rfl (fun z3 hG => ?_)
  refine r_istore (pc := 8) (L' := [some (.ref (ad 100)), some (.int x1), some (.int x2), some (.int x3), some (.int x4), some (.int x5), some (.int z3)]) X dX9_lastByRow_8 (by decide) rfl rfl ?_
  refine r_mask [true, true, true, true, false, true, true] rfl (r_loop (fun q4 => ∀ (y6 : Int32) (h7 : Hp), q4 = (y6.toInt, h7) → Ev E ad shl p l e rm_X9_lastByRow s m args below meth c 0 0 Q 7 h7 10 [some (.ref (ad 100)), some (.int x1), some (.int x2), some (.int x3), none, some (.int x5), some (.int y6)] []) (fun l5 Hl5 q4 hG => ?_) FU _ hG z3 h2 rfl)
  intro y6 h7 ha; have ha := ha.symm; subst ha
  unfold g_X9_lastByRow_l5 at hG
  refine r_iload (pc := 10) X dX9_lastByRow_10 rfl ?_
  refine r_iload (pc := 12) X dX9_lastByRow_12 rfl ?_
  refine r_icmp_ge (pc := 14) X dX9_lastByRow_14 (tgt := 54) (by decide) hG (fun hG => ?_) (fun hG => ?_)
  · skip
    refine r_aload_n (pc := 54) X dX9_lastByRow_54 rfl rfl ?_
    refine r_iload_n (pc := 55) X dX9_lastByRow_55 rfl rfl ?_
    refine r_iload (pc := 56) X dX9_lastByRow_56 rfl ?_
    refine r_cP (pc := 58) hG (fun _ hg => runV X dX9_lastByRow_58 (c_X9_lastOf Hb0 hg) mM_X9_482 mI_X9_lastOf mE_X9_lastOf mN_X9 mK_X9_lastOf (at_X9_o Hb0) rfl rfl rfl rfl hdd_X9_lastOf ⟨(Nat.le_of_ble_eq_true rfl), (Nat.le_of_ble_eq_true rfl)⟩ rfl rfl (Nat.le_of_ble_eq_true rfl) ⟨(Nat.le_of_ble_eq_true rfl), (Nat.le_of_ble_eq_true rfl)⟩) (fun z8 hG => ?_)
    exact r_iretW (pc := 61) X dX9_lastByRow_61 hQ hG
  · skip
    refine r_iload (pc := 17) X dX9_lastByRow_17 rfl ?_
    refine r_iload_n (pc := 19) X dX9_lastByRow_19 rfl rfl ?_
    refine r_join hG (fun a9 => ∀ (h11 : Hp), a9 = h11 → Ev E ad shl p l e rm_X9_lastByRow s m args below meth c 0 0 Q 7 h11 40 [some (.ref (ad 100)), some (.int x1), some (.int x2), some (.int x3), none, some (.int x5), some (.int y6)] []) (fun a9 hG => ?_) (fun j10 Hj10 hG => ?_)
    · skip
      intro h11 ha; have ha := ha.symm; subst ha
      refine r_aload_n (pc := 40) X dX9_lastByRow_40 rfl rfl ?_
      refine r_aload_n (pc := 41) X dX9_lastByRow_41 rfl rfl ?_
      refine r_getC (pc := 42) X (at_X9_o Hb0) rfl mU_X9 (k := 47) (by decide) (q := 122) rfl mF_X9_272 dX9_lastByRow_42 ?_
      refine r_cV (pc := 45) hG (fun _ hg => runV X dX9_lastByRow_45 (c_X9_finish Hb0 (at_X9_trial Hb0) hg) mM_X9_414 mI_X9_finish mE_X9_finish mN_X9 mK_X9_finish (at_X9_o Hb0) rfl rfl rfl rfl hdd_X9_finish ⟨(Nat.le_of_ble_eq_true rfl), (Nat.le_of_ble_eq_true rfl)⟩ rfl rfl (Nat.le_of_ble_eq_true rfl) ⟨(Nat.le_of_ble_eq_true rfl), (Nat.le_of_ble_eq_true rfl)⟩) (fun h12 hG => ?_)
      refine r_iinc (pc := 48) (L' := fun z13 => [some (.ref (ad 100)), some (.int x1), some (.int x2), some (.int x3), none, some (.int x5), some (.int z13)]) X dX9_lastByRow_48 (by decide) rfl rfl (by decide) (fun _ => rfl) hG (fun z13 hG => ?_)
      refine r_goto (pc := 51) X dX9_lastByRow_51 (tgt := 10) (by decide) ?_
      exact r_mask [true, true, true, true, false, true, true] rfl (Hl5 _ hG z13 h12 rfl)
    refine r_icmp_ge (pc := 20) X dX9_lastByRow_20 (tgt := 40) (by decide) hG (fun hG => ?_) (fun hG => ?_)
    · skip
      exact r_mask [true, true, true, true, false, true, true] rfl (Hj10 _ hG h7 rfl)
    · skip
      refine r_aload_n (pc := 23) X dX9_lastByRow_23 rfl rfl ?_
      refine r_iload_n (pc := 24) X dX9_lastByRow_24 rfl rfl ?_
      refine r_iconst (pc := 25) X dX9_lastByRow_25 hG rfl (fun z14 hG => ?_)
      refine r_iload_n (pc := 26) X dX9_lastByRow_26 rfl rfl ?_
      refine r_iconst (pc := 27) X dX9_lastByRow_27 hG rfl (fun z15 hG => ?_)
      refine r_isub (pc := 28) X dX9_lastByRow_28 hG (fun z16 hG => ?_)
      refine r_iload (pc := 29) X dX9_lastByRow_29 rfl ?_
      refine r_isub (pc := 31) X dX9_lastByRow_31 hG (fun z17 hG => ?_)
      refine r_imul (pc := 32) X dX9_lastByRow_32 hG (fun z18 hG => ?_)
      refine r_ishr (pc := 33) X dX9_lastByRow_33 hG (fun z19 hG => ?_)
      refine r_iconst (pc := 34) X dX9_lastByRow_34 hG rfl (fun z20 hG => ?_)
      refine r_iand (pc := 35) X dX9_lastByRow_35 hG (fun z21 hG => ?_)
      refine r_iload_n (pc := 36) X dX9_lastByRow_36 rfl rfl ?_
      refine r_cV (pc := 37) hG (fun _ hg => runV X dX9_lastByRow_37 (c_X9_works Hb0 hg) mM_X9_485 mI_X9_works mE_X9_works mN_X9 mK_X9_works (at_X9_o Hb0) rfl rfl rfl rfl hdd_X9_works ⟨(Nat.le_of_ble_eq_true rfl), (Nat.le_of_ble_eq_true rfl)⟩ rfl rfl (Nat.le_of_ble_eq_true rfl) ⟨(Nat.le_of_ble_eq_true rfl), (Nat.le_of_ble_eq_true rfl)⟩) (fun h22 hG => ?_)
      exact r_mask [true, true, true, true, false, true, true] rfl (Hj10 _ hG h22 rfl)
theorem c_X9_lastByRow {x1 : Int32} {x2 : Int32} {x3 : Int32} {x4 : Int32} {x5 : Int32} {r : Int × Hp} (Hb0 : At_X9 shl) (hg : g_X9_lastByRow x1.toInt x2.toInt x3.toInt x4.toInt x5.toInt h = some r) : Met l yX9_lastByRow (wsM yX9_lastByRow cX9_lastByRow 7 (some .int)) rm_X9_lastByRow (va_Pc [.ref (ad 100), .int x1, .int x2, .int x3, .int x4, .int x5] (World E ad shl h)) (QcI E ad shl r.1 r.2) 0 0 (bsA E) :=
  met_of (L0 := [some (.ref (ad 100)), some (.int x1), some (.int x2), some (.int x3), some (.int x4), some (.int x5), none]) rfl rfl rfl (Nat.le_of_ble_eq_true rfl) (fun _ _ _ _ _ _ _ X => w_X9_lastByRow Hb0 X rfl hg)
abbrev rm_X9_bestRow : Room := { frames := 6, cells := 0, slots := 0, locals := 137 }
theorem hdd_X9_bestRow : yX9_bestRow.cls = RX9 ∧ yX9_bestRow.cls ≠ "java/lang/invoke/MethodHandle" ∧ yX9_bestRow.cls ≠ "java/lang/invoke/VarHandle" ∧ (parseMethodDescriptor yX9_bestRow.desc).map (fun d => d.parameters.length) = some 4 := ⟨rfl, by decide +kernel, by decide +kernel, by decide +kernel⟩
set_option maxRecDepth 100000 in
set_option maxHeartbeats 4000000 in
theorem w_X9_bestRow {x1 : Int32} {x2 : Int32} {x3 : Int32} {x4 : Int32} {r : Int × Hp} (Hb0 : At_X9 shl) (X : Cx E p s m args meth c cX9_bestRow RX9 9 (some .int)) (hQ : Q = MQ below (QcI E ad shl r.1 r.2) args s 0 0 (bsA E)) (hG : g_X9_bestRow x1.toInt x2.toInt x3.toInt x4.toInt h = some r) : Ev E ad shl p l e rm_X9_bestRow s m args below meth c 0 0 Q 9 h 0 [some (.ref (ad 100)), some (.int x1), some (.int x2), some (.int x3), some (.int x4), none, none, none, none] [] := by
  unfold g_X9_bestRow at hG
  refine r_iconst (pc := 0) X dX9_bestRow_0 hG rfl (fun z1 hG => ?_)
  refine r_istore (pc := 1) (L' := [some (.ref (ad 100)), some (.int x1), some (.int x2), some (.int x3), some (.int x4), some (.int z1), none, none, none]) X dX9_bestRow_1 (by decide) rfl rfl ?_
  refine r_iconst (pc := 3) X dX9_bestRow_3 hG rfl (fun z2 hG => ?_)
  refine r_istore (pc := 4) (L' := [some (.ref (ad 100)), some (.int x1), some (.int x2), some (.int x3), some (.int x4), some (.int z1), some (.int z2), none, none]) X dX9_bestRow_4 (by decide) rfl rfl ?_
  refine r_iconst (pc := 6) X dX9_bestRow_6 hG rfl (fun z3 hG => ?_)
  refine r_istore (pc := 7) (L' := [some (.ref (ad 100)), some (.int x1), some (.int x2), some (.int x3), some (.int x4), some (.int z1), some (.int z2), some (.int z3), none]) X dX9_bestRow_7 (by decide) rfl rfl ?_
  refine r_join hG (fun a4 => ∀ (y6 : Int32) (h7 : Hp), a4 = (y6.toInt, h7) → Ev E ad shl p l e rm_X9_bestRow s m args below meth c 0 0 Q 9 h7 56 [none, none, some (.int x2), none, none, some (.int y6), none, none, none] []) (fun a4 hG => ?_) (fun j5 Hj5 hG => ?_)
  · skip
    intro y6 h7 ha; have ha := ha.symm; subst ha
    refine r_iconst (pc := 56) X dX9_bestRow_56 hG rfl (fun z8 hG => ?_)
    refine r_istore (pc := 57) (L' := [none, none, some (.int x2), none, none, some (.int y6), none, some (.int z8), none]) X dX9_bestRow_57 (by decide) rfl rfl ?_
    refine r_iload_n (pc := 59) X dX9_bestRow_59 rfl rfl ?_
    refine r_iconst (pc := 60) X dX9_bestRow_60 hG rfl (fun z9 hG => ?_)
    refine r_isub (pc := 61) X dX9_bestRow_61 hG (fun z10 hG => ?_)
    refine r_istore (pc := 62) (L' := [none, none, some (.int x2), none, none, some (.int y6), none, some (.int z8), some (.int z10)]) X dX9_bestRow_62 (by decide) rfl rfl ?_
    refine r_mask [false, false, false, false, false, true, false, true, true] rfl (r_loop (fun q11 => ∀ (y13 : Int32) (y14 : Int32), q11 = (y13.toInt, y14.toInt) → Ev E ad shl p l e rm_X9_bestRow s m args below meth c 0 0 Q 9 h7 64 [none, none, none, none, none, some (.int y6), none, some (.int y13), some (.int y14)] []) (fun l12 Hl12 q11 hG => ?_) FU _ hG z8 z10 rfl)
    intro y13 y14 ha; have ha := ha.symm; subst ha
    unfold g_X9_bestRow_l12 at hG
    refine r_iload (pc := 64) X dX9_bestRow_64 rfl ?_
    refine r_if_lt (pc := 66) X dX9_bestRow_66 (tgt := 92) (by decide) hG (fun hG => ?_) (fun hG => ?_)
    · skip
      refine r_iload (pc := 92) X dX9_bestRow_92 rfl ?_
      exact r_iretW (pc := 94) X dX9_bestRow_94 hQ hG
    · skip
      refine r_bipush (pc := 69) X dX9_bestRow_69 hG (by decide) (fun z15 hG => ?_)
      refine r_iload (pc := 71) X dX9_bestRow_71 rfl ?_
      refine r_imul (pc := 73) X dX9_bestRow_73 hG (fun z16 hG => ?_)
      refine r_iload (pc := 74) X dX9_bestRow_74 rfl ?_
      refine r_iconst (pc := 76) X dX9_bestRow_76 hG rfl (fun z17 hG => ?_)
      refine r_iload (pc := 77) X dX9_bestRow_77 rfl ?_
      refine r_imul (pc := 79) X dX9_bestRow_79 hG (fun z18 hG => ?_)
      refine r_ishr (pc := 80) X dX9_bestRow_80 hG (fun z19 hG => ?_)
      refine r_iconst (pc := 81) X dX9_bestRow_81 hG rfl (fun z20 hG => ?_)
      refine r_iand (pc := 82) X dX9_bestRow_82 hG (fun z21 hG => ?_)
      refine r_iadd (pc := 83) X dX9_bestRow_83 hG (fun z22 hG => ?_)
      refine r_istore (pc := 84) (L' := [none, none, none, none, none, some (.int y6), none, some (.int z22), some (.int y14)]) X dX9_bestRow_84 (by decide) rfl rfl ?_
      refine r_iinc (pc := 86) (L' := fun z23 => [none, none, none, none, none, some (.int y6), none, some (.int z22), some (.int z23)]) X dX9_bestRow_86 (by decide) rfl rfl (by decide) (fun _ => rfl) hG (fun z23 hG => ?_)
      refine r_goto (pc := 89) X dX9_bestRow_89 (tgt := 64) (by decide) ?_
      exact r_mask [false, false, false, false, false, true, false, true, true] rfl (Hl12 _ hG z22 z23 rfl)
  refine r_mask [true, true, true, true, true, true, true, true, false] rfl (r_loop (fun q24 => ∀ (y26 : Int32) (y27 : Int32) (y28 : Int32) (h29 : Hp), q24 = (y26.toInt, y27.toInt, y28.toInt, h29) → Ev E ad shl p l e rm_X9_bestRow s m args below meth c 0 0 Q 9 h29 9 [some (.ref (ad 100)), some (.int x1), some (.int x2), some (.int x3), some (.int x4), some (.int y26), some (.int y27), some (.int y28), none] []) (fun l25 Hl25 q24 hG => ?_) FU _ hG z1 z2 z3 h rfl)
  intro y26 y27 y28 h29 ha; have ha := ha.symm; subst ha
  unfold g_X9_bestRow_l25 at hG
  refine r_iload (pc := 9) X dX9_bestRow_9 rfl ?_
  refine r_iconst (pc := 11) X dX9_bestRow_11 hG rfl (fun z30 hG => ?_)
  refine r_iconst (pc := 12) X dX9_bestRow_12 hG rfl (fun z31 hG => ?_)
  refine r_iload_n (pc := 13) X dX9_bestRow_13 rfl rfl ?_
  refine r_imul (pc := 14) X dX9_bestRow_14 hG (fun z32 hG => ?_)
  refine r_ishl (pc := 15) X dX9_bestRow_15 hG (fun z33 hG => ?_)
  refine r_icmp_ge (pc := 16) X dX9_bestRow_16 (tgt := 56) (by decide) hG (fun hG => ?_) (fun hG => ?_)
  · skip
    exact r_mask [false, false, true, false, false, true, false, false, false] rfl (Hj5 _ hG y26 h29 rfl)
  · skip
    refine r_aload_n (pc := 19) X dX9_bestRow_19 rfl rfl ?_
    refine r_iload_n (pc := 20) X dX9_bestRow_20 rfl rfl ?_
    refine r_iload_n (pc := 21) X dX9_bestRow_21 rfl rfl ?_
    refine r_iload (pc := 22) X dX9_bestRow_22 rfl ?_
    refine r_iload_n (pc := 24) X dX9_bestRow_24 rfl rfl ?_
    refine r_iload (pc := 25) X dX9_bestRow_25 rfl ?_
    refine r_cW (pc := 27) hG (fun _ hg => runV X dX9_bestRow_27 (c_X9_lastByRow Hb0 hg) mM_X9_488 mI_X9_lastByRow mE_X9_lastByRow mN_X9 mK_X9_lastByRow (at_X9_o Hb0) rfl rfl rfl rfl hdd_X9_lastByRow ⟨(Nat.le_of_ble_eq_true rfl), (Nat.le_of_ble_eq_true rfl)⟩ rfl rfl (Nat.le_of_ble_eq_true rfl) ⟨(Nat.le_of_ble_eq_true rfl), (Nat.le_of_ble_eq_true rfl)⟩) (fun z34 h35 hG => ?_)
    refine r_istore (pc := 30) (L' := [some (.ref (ad 100)), some (.int x1), some (.int x2), some (.int x3), some (.int x4), some (.int y26), some (.int y27), some (.int y28), some (.int z34)]) X dX9_bestRow_30 (by decide) rfl rfl ?_
    refine r_iload (pc := 32) X dX9_bestRow_32 rfl ?_
    refine r_iload (pc := 34) X dX9_bestRow_34 rfl ?_
    refine r_join hG (fun a36 => ∀ (y38 : Int32) (y39 : Int32), a36 = (y38.toInt, y39.toInt) → Ev E ad shl p l e rm_X9_bestRow s m args below meth c 0 0 Q 9 h35 50 [some (.ref (ad 100)), some (.int x1), some (.int x2), some (.int x3), some (.int x4), some (.int y38), some (.int y39), some (.int y28), none] []) (fun a36 hG => ?_) (fun j37 Hj37 hG => ?_)
    · skip
      intro y38 y39 ha; have ha := ha.symm; subst ha
      refine r_iinc (pc := 50) (L' := fun z40 => [some (.ref (ad 100)), some (.int x1), some (.int x2), some (.int x3), some (.int x4), some (.int y38), some (.int y39), some (.int z40), none]) X dX9_bestRow_50 (by decide) rfl rfl (by decide) (fun _ => rfl) hG (fun z40 hG => ?_)
      refine r_goto (pc := 53) X dX9_bestRow_53 (tgt := 9) (by decide) ?_
      exact r_mask [true, true, true, true, true, true, true, true, false] rfl (Hl25 _ hG y38 y39 z40 h35 rfl)
    refine r_icmp_gt (pc := 36) X dX9_bestRow_36 (tgt := 42) (by decide) hG (fun hG => ?_) (fun hG => ?_)
    · skip
      refine r_iload (pc := 42) X dX9_bestRow_42 rfl ?_
      refine r_istore (pc := 44) (L' := [some (.ref (ad 100)), some (.int x1), some (.int x2), some (.int x3), some (.int x4), some (.int y26), some (.int z34), some (.int y28), some (.int z34)]) X dX9_bestRow_44 (by decide) rfl rfl ?_
      refine r_iload (pc := 46) X dX9_bestRow_46 rfl ?_
      refine r_istore (pc := 48) (L' := [some (.ref (ad 100)), some (.int x1), some (.int x2), some (.int x3), some (.int x4), some (.int y28), some (.int z34), some (.int y28), some (.int z34)]) X dX9_bestRow_48 (by decide) rfl rfl ?_
      exact r_mask [true, true, true, true, true, true, true, true, false] rfl (Hj37 _ hG y28 z34 rfl)
    · skip
      refine r_goto (pc := 39) X dX9_bestRow_39 (tgt := 50) (by decide) ?_
      exact r_mask [true, true, true, true, true, true, true, true, false] rfl (Hj37 _ hG y26 y27 rfl)
theorem c_X9_bestRow {x1 : Int32} {x2 : Int32} {x3 : Int32} {x4 : Int32} {r : Int × Hp} (Hb0 : At_X9 shl) (hg : g_X9_bestRow x1.toInt x2.toInt x3.toInt x4.toInt h = some r) : Met l yX9_bestRow (wsM yX9_bestRow cX9_bestRow 9 (some .int)) rm_X9_bestRow (va_Pc [.ref (ad 100), .int x1, .int x2, .int x3, .int x4] (World E ad shl h)) (QcI E ad shl r.1 r.2) 0 0 (bsA E) :=
  met_of (L0 := [some (.ref (ad 100)), some (.int x1), some (.int x2), some (.int x3), some (.int x4), none, none, none, none]) rfl rfl rfl (Nat.le_of_ble_eq_true rfl) (fun _ _ _ _ _ _ _ X => w_X9_bestRow Hb0 X rfl hg)
abbrev rm_X9_isAsked : Room := { frames := 2, cells := 0, slots := 0, locals := 46 }
theorem hdd_X9_isAsked : yX9_isAsked.cls = RX9 ∧ yX9_isAsked.cls ≠ "java/lang/invoke/MethodHandle" ∧ yX9_isAsked.cls ≠ "java/lang/invoke/VarHandle" ∧ (parseMethodDescriptor yX9_isAsked.desc).map (fun d => d.parameters.length) = some 3 := ⟨rfl, by decide +kernel, by decide +kernel, by decide +kernel⟩
set_option maxRecDepth 100000 in
set_option maxHeartbeats 4000000 in
theorem w_X9_isAsked {x1 : Int32} {x2 : Int32} {x3 : Int32} {r : Int} (Hb0 : At_X9 shl) (X : Cx E p s m args meth c cX9_isAsked RX9 4 (some .boolean)) (hQ : Q = MQ below (QcI E ad shl r h) args s 0 0 (bsA E)) (hG : g_X9_isAsked x1.toInt x2.toInt x3.toInt h = some r) : Ev E ad shl p l e rm_X9_isAsked s m args below meth c 0 0 Q 4 h 0 [some (.ref (ad 100)), some (.int x1), some (.int x2), some (.int x3)] [] := by
  unfold g_X9_isAsked at hG
  refine r_aload_n (pc := 0) X dX9_isAsked_0 rfl rfl ?_
  refine r_iload_n (pc := 1) X dX9_isAsked_1 rfl rfl ?_
  refine r_cP (pc := 2) hG (fun _ hg => runV X dX9_isAsked_2 (c_X9_isFlag Hb0 hg) mM_X9_427 mI_X9_isFlag mE_X9_isFlag mN_X9 mK_X9_isFlag (at_X9_o Hb0) rfl rfl rfl rfl hdd_X9_isFlag ⟨(Nat.le_of_ble_eq_true rfl), (Nat.le_of_ble_eq_true rfl)⟩ rfl rfl (Nat.le_of_ble_eq_true rfl) ⟨(Nat.le_of_ble_eq_true rfl), (Nat.le_of_ble_eq_true rfl)⟩) (fun z1 hG => ?_)
  refine r_join hG (fun a2 => ∀ (y4 : Int32), a2 = y4.toInt → Ev E ad shl p l e rm_X9_isAsked s m args below meth c 0 0 Q 4 h 24 [none, none, none, none] [.int y4]) (fun a2 hG => ?_) (fun j3 Hj3 hG => ?_)
  · skip
    intro y4 ha; have ha := ha.symm; subst ha
    exact r_zretP (pc := 24) X dX9_isAsked_24 hQ hG
  refine r_join hG (fun _ => Ev E ad shl p l e rm_X9_isAsked s m args below meth c 0 0 Q 4 h 23 [none, none, none, none] []) (fun a5 hG => ?_) (fun j6 Hj6 hG => ?_)
  · skip
    refine r_iconst (pc := 23) X dX9_isAsked_23 hG rfl (fun z7 hG => ?_)
    exact r_mask [false, false, false, false] rfl (Hj3 _ hG z7 rfl)
  refine r_if_eq (pc := 5) X dX9_isAsked_5 (tgt := 23) (by decide) hG (fun hG => ?_) (fun hG => ?_)
  · skip
    exact r_mask [false, false, false, false] rfl (Hj6 _ hG)
  · skip
    refine r_iload_n (pc := 8) X dX9_isAsked_8 rfl rfl ?_
    refine r_if_lt (pc := 9) X dX9_isAsked_9 (tgt := 23) (by decide) hG (fun hG => ?_) (fun hG => ?_)
    · skip
      exact r_mask [false, false, false, false] rfl (Hj6 _ hG)
    · skip
      refine r_iload_n (pc := 12) X dX9_isAsked_12 rfl rfl ?_
      refine r_cP (pc := 13) hG (fun _ hg => runS X dX9_isAsked_13 (c_X9_areMinutes  hg) mM_X9_475 mS_X9_areMinutes mN_X9 mK_X9_areMinutes rfl rfl hdd_X9_areMinutes ⟨(Nat.le_of_ble_eq_true rfl), (Nat.le_of_ble_eq_true rfl)⟩ rfl rfl (Nat.le_of_ble_eq_true rfl) ⟨(Nat.le_of_ble_eq_true rfl), (Nat.le_of_ble_eq_true rfl)⟩) (fun z8 hG => ?_)
      refine r_if_eq (pc := 16) X dX9_isAsked_16 (tgt := 23) (by decide) hG (fun hG => ?_) (fun hG => ?_)
      · skip
        exact r_mask [false, false, false, false] rfl (Hj6 _ hG)
      · skip
        refine r_iconst (pc := 19) X dX9_isAsked_19 hG rfl (fun z9 hG => ?_)
        refine r_goto (pc := 20) X dX9_isAsked_20 (tgt := 24) (by decide) ?_
        exact r_mask [false, false, false, false] rfl (Hj3 _ hG z9 rfl)
theorem c_X9_isAsked {x1 : Int32} {x2 : Int32} {x3 : Int32} {r : Int} (Hb0 : At_X9 shl) (hg : g_X9_isAsked x1.toInt x2.toInt x3.toInt h = some r) : Met l yX9_isAsked (wsM yX9_isAsked cX9_isAsked 4 (some .boolean)) rm_X9_isAsked (va_Pc [.ref (ad 100), .int x1, .int x2, .int x3] (World E ad shl h)) (QcI E ad shl r h) 0 0 (bsA E) :=
  met_of (L0 := [some (.ref (ad 100)), some (.int x1), some (.int x2), some (.int x3)]) rfl rfl rfl (Nat.le_of_ble_eq_true rfl) (fun _ _ _ _ _ _ _ X => w_X9_isAsked Hb0 X rfl hg)
abbrev rm_X9_pail : Room := { frames := 7, cells := 0, slots := 0, locals := 165 }
theorem hdd_X9_pail : yX9_pail.cls = RX9 ∧ yX9_pail.cls ≠ "java/lang/invoke/MethodHandle" ∧ yX9_pail.cls ≠ "java/lang/invoke/VarHandle" ∧ (parseMethodDescriptor yX9_pail.desc).map (fun d => d.parameters.length) = some 3 := ⟨rfl, by decide +kernel, by decide +kernel, by decide +kernel⟩
set_option maxRecDepth 100000 in
set_option maxHeartbeats 4000000 in
theorem w_X9_pail {x1 : Int32} {x2 : Int32} {x3 : Int32} {r : Int × Hp} (Hb0 : At_X9 shl) (X : Cx E p s m args meth c cX9_pail RX9 4 (some .int)) (hQ : Q = MQ below (QcI E ad shl r.1 r.2) args s 0 0 (bsA E)) (hG : g_X9_pail x1.toInt x2.toInt x3.toInt h = some r) : Ev E ad shl p l e rm_X9_pail s m args below meth c 0 0 Q 4 h 0 [some (.ref (ad 100)), some (.int x1), some (.int x2), some (.int x3)] [] := by
  unfold g_X9_pail at hG
  refine r_aload_n (pc := 0) X dX9_pail_0 rfl rfl ?_
  refine r_iload_n (pc := 1) X dX9_pail_1 rfl rfl ?_
  refine r_iload_n (pc := 2) X dX9_pail_2 rfl rfl ?_
  refine r_iload_n (pc := 3) X dX9_pail_3 rfl rfl ?_
  refine r_cP (pc := 4) hG (fun _ hg => runV X dX9_pail_4 (c_X9_isAsked Hb0 hg) mM_X9_492 mI_X9_isAsked mE_X9_isAsked mN_X9 mK_X9_isAsked (at_X9_o Hb0) rfl rfl rfl rfl hdd_X9_isAsked ⟨(Nat.le_of_ble_eq_true rfl), (Nat.le_of_ble_eq_true rfl)⟩ rfl rfl (Nat.le_of_ble_eq_true rfl) ⟨(Nat.le_of_ble_eq_true rfl), (Nat.le_of_ble_eq_true rfl)⟩) (fun z1 hG => ?_)
  refine r_join hG (fun a2 => ∀ (y4 : Int32) (h5 : Hp), a2 = (y4.toInt, h5) → Ev E ad shl p l e rm_X9_pail s m args below meth c 0 0 Q 4 h5 23 [none, none, none, none] [.int y4]) (fun a2 hG => ?_) (fun j3 Hj3 hG => ?_)
  · skip
    intro y4 h5 ha; have ha := ha.symm; subst ha
    exact r_iretW (pc := 23) X dX9_pail_23 hQ hG
  refine r_if_eq (pc := 7) X dX9_pail_7 (tgt := 21) (by decide) hG (fun hG => ?_) (fun hG => ?_)
  · skip
    refine r_bipush (pc := 21) X dX9_pail_21 hG (by decide) (fun z6 hG => ?_)
    exact r_mask [false, false, false, false] rfl (Hj3 _ hG z6 h rfl)
  · skip
    refine r_aload_n (pc := 10) X dX9_pail_10 rfl rfl ?_
    refine r_iload_n (pc := 11) X dX9_pail_11 rfl rfl ?_
    refine r_iconst (pc := 12) X dX9_pail_12 hG rfl (fun z7 hG => ?_)
    refine r_iload_n (pc := 13) X dX9_pail_13 rfl rfl ?_
    refine r_iload_n (pc := 14) X dX9_pail_14 rfl rfl ?_
    refine r_cW (pc := 15) hG (fun _ hg => runV X dX9_pail_15 (c_X9_bestRow Hb0 hg) mM_X9_495 mI_X9_bestRow mE_X9_bestRow mN_X9 mK_X9_bestRow (at_X9_o Hb0) rfl rfl rfl rfl hdd_X9_bestRow ⟨(Nat.le_of_ble_eq_true rfl), (Nat.le_of_ble_eq_true rfl)⟩ rfl rfl (Nat.le_of_ble_eq_true rfl) ⟨(Nat.le_of_ble_eq_true rfl), (Nat.le_of_ble_eq_true rfl)⟩) (fun z8 h9 hG => ?_)
    refine r_goto (pc := 18) X dX9_pail_18 (tgt := 23) (by decide) ?_
    exact r_mask [false, false, false, false] rfl (Hj3 _ hG z8 h9 rfl)
theorem c_X9_pail {x1 : Int32} {x2 : Int32} {x3 : Int32} {r : Int × Hp} (Hb0 : At_X9 shl) (hg : g_X9_pail x1.toInt x2.toInt x3.toInt h = some r) : Met l yX9_pail (wsM yX9_pail cX9_pail 4 (some .int)) rm_X9_pail (va_Pc [.ref (ad 100), .int x1, .int x2, .int x3] (World E ad shl h)) (QcI E ad shl r.1 r.2) 0 0 (bsA E) :=
  met_of (L0 := [some (.ref (ad 100)), some (.int x1), some (.int x2), some (.int x3)]) rfl rfl rfl (Nat.le_of_ble_eq_true rfl) (fun _ _ _ _ _ _ _ X => w_X9_pail Hb0 X rfl hg)
abbrev rm_X9_row : Room := { frames := 7, cells := 0, slots := 0, locals := 165 }
theorem hdd_X9_row : yX9_row.cls = RX9 ∧ yX9_row.cls ≠ "java/lang/invoke/MethodHandle" ∧ yX9_row.cls ≠ "java/lang/invoke/VarHandle" ∧ (parseMethodDescriptor yX9_row.desc).map (fun d => d.parameters.length) = some 4 := ⟨rfl, by decide +kernel, by decide +kernel, by decide +kernel⟩
set_option maxRecDepth 100000 in
set_option maxHeartbeats 4000000 in
theorem w_X9_row {x1 : Int32} {x2 : Int32} {x3 : Int32} {x4 : Int32} {r : Int × Hp} (Hb0 : At_X9 shl) (X : Cx E p s m args meth c cX9_row RX9 5 (some .int)) (hQ : Q = MQ below (QcI E ad shl r.1 r.2) args s 0 0 (bsA E)) (hG : g_X9_row x1.toInt x2.toInt x3.toInt x4.toInt h = some r) : Ev E ad shl p l e rm_X9_row s m args below meth c 0 0 Q 5 h 0 [some (.ref (ad 100)), some (.int x1), some (.int x2), some (.int x3), some (.int x4)] [] := by
  unfold g_X9_row at hG
  refine r_aload_n (pc := 0) X dX9_row_0 rfl rfl ?_
  refine r_iload_n (pc := 1) X dX9_row_1 rfl rfl ?_
  refine r_iload_n (pc := 2) X dX9_row_2 rfl rfl ?_
  refine r_iload (pc := 3) X dX9_row_3 rfl ?_
  refine r_cP (pc := 5) hG (fun _ hg => runV X dX9_row_5 (c_X9_isAsked Hb0 hg) mM_X9_492 mI_X9_isAsked mE_X9_isAsked mN_X9 mK_X9_isAsked (at_X9_o Hb0) rfl rfl rfl rfl hdd_X9_isAsked ⟨(Nat.le_of_ble_eq_true rfl), (Nat.le_of_ble_eq_true rfl)⟩ rfl rfl (Nat.le_of_ble_eq_true rfl) ⟨(Nat.le_of_ble_eq_true rfl), (Nat.le_of_ble_eq_true rfl)⟩) (fun z1 hG => ?_)
  refine r_join hG (fun a2 => ∀ (y4 : Int32) (h5 : Hp), a2 = (y4.toInt, h5) → Ev E ad shl p l e rm_X9_row s m args below meth c 0 0 Q 5 h5 37 [none, none, none, none, none] [.int y4]) (fun a2 hG => ?_) (fun j3 Hj3 hG => ?_)
  · skip
    intro y4 h5 ha; have ha := ha.symm; subst ha
    exact r_iretW (pc := 37) X dX9_row_37 hQ hG
  refine r_join hG (fun _ => Ev E ad shl p l e rm_X9_row s m args below meth c 0 0 Q 5 h 35 [none, none, none, none, none] []) (fun a6 hG => ?_) (fun j7 Hj7 hG => ?_)
  · skip
    refine r_bipush (pc := 35) X dX9_row_35 hG (by decide) (fun z8 hG => ?_)
    exact r_mask [false, false, false, false, false] rfl (Hj3 _ hG z8 h rfl)
  refine r_if_eq (pc := 8) X dX9_row_8 (tgt := 35) (by decide) hG (fun hG => ?_) (fun hG => ?_)
  · skip
    exact r_mask [false, false, false, false, false] rfl (Hj7 _ hG)
  · skip
    refine r_iload_n (pc := 11) X dX9_row_11 rfl rfl ?_
    refine r_i2l (pc := 12) X dX9_row_12 hG (fun z9 hG => ?_)
    refine r_lconst (pc := 13) X dX9_row_13 hG (by decide) (fun z10 hG => ?_)
    refine r_ldc2 (pc := 14) X dX9_row_14 mW_X9_425 hG (by decide) (fun z11 hG => ?_)
    refine r_cP (pc := 17) hG (fun _ hg => runS X dX9_row_17 (c_X9_in  hg) mM_X9_52 mS_X9_in mN_X9 mK_X9_in rfl rfl hdd_X9_in ⟨(Nat.le_of_ble_eq_true rfl), (Nat.le_of_ble_eq_true rfl)⟩ rfl rfl (Nat.le_of_ble_eq_true rfl) ⟨(Nat.le_of_ble_eq_true rfl), (Nat.le_of_ble_eq_true rfl)⟩) (fun z12 hG => ?_)
    refine r_if_eq (pc := 20) X dX9_row_20 (tgt := 35) (by decide) hG (fun hG => ?_) (fun hG => ?_)
    · skip
      exact r_mask [false, false, false, false, false] rfl (Hj7 _ hG)
    · skip
      refine r_aload_n (pc := 23) X dX9_row_23 rfl rfl ?_
      refine r_iload_n (pc := 24) X dX9_row_24 rfl rfl ?_
      refine r_iload_n (pc := 25) X dX9_row_25 rfl rfl ?_
      refine r_iload_n (pc := 26) X dX9_row_26 rfl rfl ?_
      refine r_iload (pc := 27) X dX9_row_27 rfl ?_
      refine r_cW (pc := 29) hG (fun _ hg => runV X dX9_row_29 (c_X9_bestRow Hb0 hg) mM_X9_495 mI_X9_bestRow mE_X9_bestRow mN_X9 mK_X9_bestRow (at_X9_o Hb0) rfl rfl rfl rfl hdd_X9_bestRow ⟨(Nat.le_of_ble_eq_true rfl), (Nat.le_of_ble_eq_true rfl)⟩ rfl rfl (Nat.le_of_ble_eq_true rfl) ⟨(Nat.le_of_ble_eq_true rfl), (Nat.le_of_ble_eq_true rfl)⟩) (fun z13 h14 hG => ?_)
      refine r_goto (pc := 32) X dX9_row_32 (tgt := 37) (by decide) ?_
      exact r_mask [false, false, false, false, false] rfl (Hj3 _ hG z13 h14 rfl)
theorem c_X9_row {x1 : Int32} {x2 : Int32} {x3 : Int32} {x4 : Int32} {r : Int × Hp} (Hb0 : At_X9 shl) (hg : g_X9_row x1.toInt x2.toInt x3.toInt x4.toInt h = some r) : Met l yX9_row (wsM yX9_row cX9_row 5 (some .int)) rm_X9_row (va_Pc [.ref (ad 100), .int x1, .int x2, .int x3, .int x4] (World E ad shl h)) (QcI E ad shl r.1 r.2) 0 0 (bsA E) :=
  met_of (L0 := [some (.ref (ad 100)), some (.int x1), some (.int x2), some (.int x3), some (.int x4)]) rfl rfl rfl (Nat.le_of_ble_eq_true rfl) (fun _ _ _ _ _ _ _ X => w_X9_row Hb0 X rfl hg)
abbrev rm_X9_lastByWet : Room := { frames := 5, cells := 0, slots := 0, locals := 111 }
theorem hdd_X9_lastByWet : yX9_lastByWet.cls = RX9 ∧ yX9_lastByWet.cls ≠ "java/lang/invoke/MethodHandle" ∧ yX9_lastByWet.cls ≠ "java/lang/invoke/VarHandle" ∧ (parseMethodDescriptor yX9_lastByWet.desc).map (fun d => d.parameters.length) = some 4 := ⟨rfl, by decide +kernel, by decide +kernel, by decide +kernel⟩
set_option maxRecDepth 100000 in
set_option maxHeartbeats 4000000 in
theorem w_X9_lastByWet {x1 : Int32} {x2 : Int32} {x3 : Int32} {x4 : Int32} {r : Int × Hp} (Hb0 : At_X9 shl) (X : Cx E p s m args meth c cX9_lastByWet RX9 6 (some .int)) (hQ : Q = MQ below (QcI E ad shl r.1 r.2) args s 0 0 (bsA E)) (hG : g_X9_lastByWet x1.toInt x2.toInt x3.toInt x4.toInt h = some r) : Ev E ad shl p l e rm_X9_lastByWet s m args below meth c 0 0 Q 6 h 0 [some (.ref (ad 100)), some (.int x1), some (.int x2), some (.int x3), some (.int x4), none] [] := by
  unfold g_X9_lastByWet at hG
  refine r_aload_n (pc := 0) X dX9_lastByWet_0 rfl rfl ?_
  refine r_iconst (pc := 1) X dX9_lastByWet_1 hG rfl (fun z1 hG => ?_)
  refine r_iload_n (pc := 2) X dX9_lastByWet_2 rfl rfl ?_
  refine r_cV (pc := 3) hG (fun _ hg => runV X dX9_lastByWet_3 (c_X9_beginTrial Hb0 hg) mM_X9_478 mI_X9_beginTrial mE_X9_beginTrial mN_X9 mK_X9_beginTrial (at_X9_o Hb0) rfl rfl rfl rfl hdd_X9_beginTrial ⟨(Nat.le_of_ble_eq_true rfl), (Nat.le_of_ble_eq_true rfl)⟩ rfl rfl (Nat.le_of_ble_eq_true rfl) ⟨(Nat.le_of_ble_eq_true rfl), (Nat.le_of_ble_eq_true rfl)⟩) (fun h2 hG => ?_)
  refine r_iconst (pc := 6) X dX9_lastByWet_6 hG rfl (fun z3 hG => ?_)
  refine r_istore (pc := 7) (L' := [some (.ref (ad 100)), some (.int x1), some (.int x2), some (.int x3), some (.int x4), some (.int z3)]) X dX9_lastByWet_7 (by decide) rfl rfl ?_
  refine r_mask [true, true, true, false, true, true] rfl (r_loop (fun q4 => ∀ (y6 : Int32) (h7 : Hp), q4 = (y6.toInt, h7) → Ev E ad shl p l e rm_X9_lastByWet s m args below meth c 0 0 Q 6 h7 9 [some (.ref (ad 100)), some (.int x1), some (.int x2), none, some (.int x4), some (.int y6)] []) (fun l5 Hl5 q4 hG => ?_) FU _ hG z3 h2 rfl)
  intro y6 h7 ha; have ha := ha.symm; subst ha
  unfold g_X9_lastByWet_l5 at hG
  refine r_iload (pc := 9) X dX9_lastByWet_9 rfl ?_
  refine r_iload (pc := 11) X dX9_lastByWet_11 rfl ?_
  refine r_icmp_ge (pc := 13) X dX9_lastByWet_13 (tgt := 42) (by decide) hG (fun hG => ?_) (fun hG => ?_)
  · skip
    refine r_aload_n (pc := 42) X dX9_lastByWet_42 rfl rfl ?_
    refine r_iload_n (pc := 43) X dX9_lastByWet_43 rfl rfl ?_
    refine r_iload (pc := 44) X dX9_lastByWet_44 rfl ?_
    refine r_cP (pc := 46) hG (fun _ hg => runV X dX9_lastByWet_46 (c_X9_lastOf Hb0 hg) mM_X9_482 mI_X9_lastOf mE_X9_lastOf mN_X9 mK_X9_lastOf (at_X9_o Hb0) rfl rfl rfl rfl hdd_X9_lastOf ⟨(Nat.le_of_ble_eq_true rfl), (Nat.le_of_ble_eq_true rfl)⟩ rfl rfl (Nat.le_of_ble_eq_true rfl) ⟨(Nat.le_of_ble_eq_true rfl), (Nat.le_of_ble_eq_true rfl)⟩) (fun z8 hG => ?_)
    exact r_iretW (pc := 49) X dX9_lastByWet_49 hQ hG
  · skip
    refine r_iload (pc := 16) X dX9_lastByWet_16 rfl ?_
    refine r_iload_n (pc := 18) X dX9_lastByWet_18 rfl rfl ?_
    refine r_join hG (fun a9 => ∀ (h11 : Hp), a9 = h11 → Ev E ad shl p l e rm_X9_lastByWet s m args below meth c 0 0 Q 6 h11 28 [some (.ref (ad 100)), some (.int x1), some (.int x2), none, some (.int x4), some (.int y6)] []) (fun a9 hG => ?_) (fun j10 Hj10 hG => ?_)
    · skip
      intro h11 ha; have ha := ha.symm; subst ha
      refine r_aload_n (pc := 28) X dX9_lastByWet_28 rfl rfl ?_
      refine r_aload_n (pc := 29) X dX9_lastByWet_29 rfl rfl ?_
      refine r_getC (pc := 30) X (at_X9_o Hb0) rfl mU_X9 (k := 47) (by decide) (q := 122) rfl mF_X9_272 dX9_lastByWet_30 ?_
      refine r_cV (pc := 33) hG (fun _ hg => runV X dX9_lastByWet_33 (c_X9_finish Hb0 (at_X9_trial Hb0) hg) mM_X9_414 mI_X9_finish mE_X9_finish mN_X9 mK_X9_finish (at_X9_o Hb0) rfl rfl rfl rfl hdd_X9_finish ⟨(Nat.le_of_ble_eq_true rfl), (Nat.le_of_ble_eq_true rfl)⟩ rfl rfl (Nat.le_of_ble_eq_true rfl) ⟨(Nat.le_of_ble_eq_true rfl), (Nat.le_of_ble_eq_true rfl)⟩) (fun h12 hG => ?_)
      refine r_iinc (pc := 36) (L' := fun z13 => [some (.ref (ad 100)), some (.int x1), some (.int x2), none, some (.int x4), some (.int z13)]) X dX9_lastByWet_36 (by decide) rfl rfl (by decide) (fun _ => rfl) hG (fun z13 hG => ?_)
      refine r_goto (pc := 39) X dX9_lastByWet_39 (tgt := 9) (by decide) ?_
      exact r_mask [true, true, true, false, true, true] rfl (Hl5 _ hG z13 h12 rfl)
    refine r_icmp_ne (pc := 19) X dX9_lastByWet_19 (tgt := 28) (by decide) hG (fun hG => ?_) (fun hG => ?_)
    · skip
      exact r_mask [true, true, true, false, true, true] rfl (Hj10 _ hG h7 rfl)
    · skip
      refine r_aload_n (pc := 22) X dX9_lastByWet_22 rfl rfl ?_
      refine r_iconst (pc := 23) X dX9_lastByWet_23 hG rfl (fun z14 hG => ?_)
      refine r_iload_n (pc := 24) X dX9_lastByWet_24 rfl rfl ?_
      refine r_cV (pc := 25) hG (fun _ hg => runV X dX9_lastByWet_25 (c_X9_works Hb0 hg) mM_X9_485 mI_X9_works mE_X9_works mN_X9 mK_X9_works (at_X9_o Hb0) rfl rfl rfl rfl hdd_X9_works ⟨(Nat.le_of_ble_eq_true rfl), (Nat.le_of_ble_eq_true rfl)⟩ rfl rfl (Nat.le_of_ble_eq_true rfl) ⟨(Nat.le_of_ble_eq_true rfl), (Nat.le_of_ble_eq_true rfl)⟩) (fun h15 hG => ?_)
      exact r_mask [true, true, true, false, true, true] rfl (Hj10 _ hG h15 rfl)
theorem c_X9_lastByWet {x1 : Int32} {x2 : Int32} {x3 : Int32} {x4 : Int32} {r : Int × Hp} (Hb0 : At_X9 shl) (hg : g_X9_lastByWet x1.toInt x2.toInt x3.toInt x4.toInt h = some r) : Met l yX9_lastByWet (wsM yX9_lastByWet cX9_lastByWet 6 (some .int)) rm_X9_lastByWet (va_Pc [.ref (ad 100), .int x1, .int x2, .int x3, .int x4] (World E ad shl h)) (QcI E ad shl r.1 r.2) 0 0 (bsA E) :=
  met_of (L0 := [some (.ref (ad 100)), some (.int x1), some (.int x2), some (.int x3), some (.int x4), none]) rfl rfl rfl (Nat.le_of_ble_eq_true rfl) (fun _ _ _ _ _ _ _ X => w_X9_lastByWet Hb0 X rfl hg)
abbrev rm_X9_again : Room := { frames := 6, cells := 0, slots := 0, locals := 136 }
theorem hdd_X9_again : yX9_again.cls = RX9 ∧ yX9_again.cls ≠ "java/lang/invoke/MethodHandle" ∧ yX9_again.cls ≠ "java/lang/invoke/VarHandle" ∧ (parseMethodDescriptor yX9_again.desc).map (fun d => d.parameters.length) = some 3 := ⟨rfl, by decide +kernel, by decide +kernel, by decide +kernel⟩
set_option maxRecDepth 100000 in
set_option maxHeartbeats 4000000 in
theorem w_X9_again {x1 : Int32} {x2 : Int32} {x3 : Int32} {r : Int × Hp} (Hb0 : At_X9 shl) (X : Cx E p s m args meth c cX9_again RX9 8 (some .int)) (hQ : Q = MQ below (QcI E ad shl r.1 r.2) args s 0 0 (bsA E)) (hG : g_X9_again x1.toInt x2.toInt x3.toInt h = some r) : Ev E ad shl p l e rm_X9_again s m args below meth c 0 0 Q 8 h 0 [some (.ref (ad 100)), some (.int x1), some (.int x2), some (.int x3), none, none, none, none] [] := by
  unfold g_X9_again at hG
  refine r_aload_n (pc := 0) X dX9_again_0 rfl rfl ?_
  refine r_iload_n (pc := 1) X dX9_again_1 rfl rfl ?_
  refine r_iload_n (pc := 2) X dX9_again_2 rfl rfl ?_
  refine r_iload_n (pc := 3) X dX9_again_3 rfl rfl ?_
  refine r_cP (pc := 4) hG (fun _ hg => runV X dX9_again_4 (c_X9_isAsked Hb0 hg) mM_X9_492 mI_X9_isAsked mE_X9_isAsked mN_X9 mK_X9_isAsked (at_X9_o Hb0) rfl rfl rfl rfl hdd_X9_isAsked ⟨(Nat.le_of_ble_eq_true rfl), (Nat.le_of_ble_eq_true rfl)⟩ rfl rfl (Nat.le_of_ble_eq_true rfl) ⟨(Nat.le_of_ble_eq_true rfl), (Nat.le_of_ble_eq_true rfl)⟩) (fun z1 hG => ?_)
  refine r_if_ne (pc := 7) X dX9_again_7 (tgt := 13) (by decide) hG (fun hG => ?_) (fun hG => ?_)
  · skip
    refine r_aload_n (pc := 13) X dX9_again_13 rfl rfl ?_
    refine r_iload_n (pc := 14) X dX9_again_14 rfl rfl ?_
    refine r_iconst (pc := 15) X dX9_again_15 hG rfl (fun z2 hG => ?_)
    refine r_iload_n (pc := 16) X dX9_again_16 rfl rfl ?_
    refine r_iload_n (pc := 17) X dX9_again_17 rfl rfl ?_
    refine r_cW (pc := 18) hG (fun _ hg => runV X dX9_again_18 (c_X9_lastByWet Hb0 hg) mM_X9_499 mI_X9_lastByWet mE_X9_lastByWet mN_X9 mK_X9_lastByWet (at_X9_o Hb0) rfl rfl rfl rfl hdd_X9_lastByWet ⟨(Nat.le_of_ble_eq_true rfl), (Nat.le_of_ble_eq_true rfl)⟩ rfl rfl (Nat.le_of_ble_eq_true rfl) ⟨(Nat.le_of_ble_eq_true rfl), (Nat.le_of_ble_eq_true rfl)⟩) (fun z3 h4 hG => ?_)
    refine r_istore (pc := 21) (L' := [some (.ref (ad 100)), some (.int x1), some (.int x2), some (.int x3), some (.int z3), none, none, none]) X dX9_again_21 (by decide) rfl rfl ?_
    refine r_iconst (pc := 23) X dX9_again_23 hG rfl (fun z5 hG => ?_)
    refine r_istore (pc := 24) (L' := [some (.ref (ad 100)), some (.int x1), some (.int x2), some (.int x3), some (.int z3), some (.int z5), none, none]) X dX9_again_24 (by decide) rfl rfl ?_
    refine r_iconst (pc := 26) X dX9_again_26 hG rfl (fun z6 hG => ?_)
    refine r_istore (pc := 27) (L' := [some (.ref (ad 100)), some (.int x1), some (.int x2), some (.int x3), some (.int z3), some (.int z5), some (.int z6), none]) X dX9_again_27 (by decide) rfl rfl ?_
    refine r_mask [true, true, true, true, true, true, true, false] rfl (r_loop (fun q7 => ∀ (y9 : Int32) (y10 : Int32) (y11 : Int32) (h12 : Hp), q7 = (y9.toInt, y10.toInt, y11.toInt, h12) → Ev E ad shl p l e rm_X9_again s m args below meth c 0 0 Q 8 h12 29 [some (.ref (ad 100)), some (.int x1), some (.int x2), some (.int x3), some (.int y9), some (.int y10), some (.int y11), none] []) (fun l8 Hl8 q7 hG => ?_) FU _ hG z3 z5 z6 h4 rfl)
    intro y9 y10 y11 h12 ha; have ha := ha.symm; subst ha
    unfold g_X9_again_l8 at hG
    refine r_iload (pc := 29) X dX9_again_29 rfl ?_
    refine r_iload_n (pc := 31) X dX9_again_31 rfl rfl ?_
    refine r_icmp_ge (pc := 32) X dX9_again_32 (tgt := 70) (by decide) hG (fun hG => ?_) (fun hG => ?_)
    · skip
      refine r_iload (pc := 70) X dX9_again_70 rfl ?_
      exact r_iretW (pc := 72) X dX9_again_72 hQ hG
    · skip
      refine r_aload_n (pc := 35) X dX9_again_35 rfl rfl ?_
      refine r_iload_n (pc := 36) X dX9_again_36 rfl rfl ?_
      refine r_iload (pc := 37) X dX9_again_37 rfl ?_
      refine r_iload_n (pc := 39) X dX9_again_39 rfl rfl ?_
      refine r_iload_n (pc := 40) X dX9_again_40 rfl rfl ?_
      refine r_cW (pc := 41) hG (fun _ hg => runV X dX9_again_41 (c_X9_lastByWet Hb0 hg) mM_X9_499 mI_X9_lastByWet mE_X9_lastByWet mN_X9 mK_X9_lastByWet (at_X9_o Hb0) rfl rfl rfl rfl hdd_X9_lastByWet ⟨(Nat.le_of_ble_eq_true rfl), (Nat.le_of_ble_eq_true rfl)⟩ rfl rfl (Nat.le_of_ble_eq_true rfl) ⟨(Nat.le_of_ble_eq_true rfl), (Nat.le_of_ble_eq_true rfl)⟩) (fun z13 h14 hG => ?_)
      refine r_istore (pc := 44) (L' := [some (.ref (ad 100)), some (.int x1), some (.int x2), some (.int x3), some (.int y9), some (.int y10), some (.int y11), some (.int z13)]) X dX9_again_44 (by decide) rfl rfl ?_
      refine r_iload (pc := 46) X dX9_again_46 rfl ?_
      refine r_iload (pc := 48) X dX9_again_48 rfl ?_
      refine r_join hG (fun a15 => ∀ (y17 : Int32) (y18 : Int32), a15 = (y17.toInt, y18.toInt) → Ev E ad shl p l e rm_X9_again s m args below meth c 0 0 Q 8 h14 64 [some (.ref (ad 100)), some (.int x1), some (.int x2), some (.int x3), some (.int y17), some (.int y18), some (.int y11), none] []) (fun a15 hG => ?_) (fun j16 Hj16 hG => ?_)
      · skip
        intro y17 y18 ha; have ha := ha.symm; subst ha
        refine r_iinc (pc := 64) (L' := fun z19 => [some (.ref (ad 100)), some (.int x1), some (.int x2), some (.int x3), some (.int y17), some (.int y18), some (.int z19), none]) X dX9_again_64 (by decide) rfl rfl (by decide) (fun _ => rfl) hG (fun z19 hG => ?_)
        refine r_goto (pc := 67) X dX9_again_67 (tgt := 29) (by decide) ?_
        exact r_mask [true, true, true, true, true, true, true, false] rfl (Hl8 _ hG y17 y18 z19 h14 rfl)
      refine r_icmp_gt (pc := 50) X dX9_again_50 (tgt := 56) (by decide) hG (fun hG => ?_) (fun hG => ?_)
      · skip
        refine r_iload (pc := 56) X dX9_again_56 rfl ?_
        refine r_istore (pc := 58) (L' := [some (.ref (ad 100)), some (.int x1), some (.int x2), some (.int x3), some (.int z13), some (.int y10), some (.int y11), some (.int z13)]) X dX9_again_58 (by decide) rfl rfl ?_
        refine r_iload (pc := 60) X dX9_again_60 rfl ?_
        refine r_istore (pc := 62) (L' := [some (.ref (ad 100)), some (.int x1), some (.int x2), some (.int x3), some (.int z13), some (.int y11), some (.int y11), some (.int z13)]) X dX9_again_62 (by decide) rfl rfl ?_
        exact r_mask [true, true, true, true, true, true, true, false] rfl (Hj16 _ hG z13 y11 rfl)
      · skip
        refine r_goto (pc := 53) X dX9_again_53 (tgt := 64) (by decide) ?_
        exact r_mask [true, true, true, true, true, true, true, false] rfl (Hj16 _ hG y9 y10 rfl)
  · skip
    refine r_bipush (pc := 10) X dX9_again_10 hG (by decide) (fun z20 hG => ?_)
    exact r_iretW (pc := 12) X dX9_again_12 hQ hG
theorem c_X9_again {x1 : Int32} {x2 : Int32} {x3 : Int32} {r : Int × Hp} (Hb0 : At_X9 shl) (hg : g_X9_again x1.toInt x2.toInt x3.toInt h = some r) : Met l yX9_again (wsM yX9_again cX9_again 8 (some .int)) rm_X9_again (va_Pc [.ref (ad 100), .int x1, .int x2, .int x3] (World E ad shl h)) (QcI E ad shl r.1 r.2) 0 0 (bsA E) :=
  met_of (L0 := [some (.ref (ad 100)), some (.int x1), some (.int x2), some (.int x3), none, none, none, none]) rfl rfl rfl (Nat.le_of_ble_eq_true rfl) (fun _ _ _ _ _ _ _ X => w_X9_again Hb0 X rfl hg)
abbrev rm_X9_areSeeds : Room := { frames := 1, cells := 0, slots := 0, locals := 25 }
theorem hdd_X9_areSeeds : yX9_areSeeds.cls ≠ "java/lang/invoke/MethodHandle" ∧ yX9_areSeeds.cls ≠ "java/lang/invoke/VarHandle" ∧ (parseMethodDescriptor yX9_areSeeds.desc).map (fun d => d.parameters.length) = some 1 := ⟨by decide +kernel, by decide +kernel, by decide +kernel⟩
set_option maxRecDepth 100000 in
set_option maxHeartbeats 4000000 in
theorem w_X9_areSeeds {x1 : Int32} {r : Int}  (X : Cx E p s m args meth c cX9_areSeeds RX9 1 (some .boolean)) (hQ : Q = MQ below (QcI E ad shl r h) args s 0 0 (bsA E)) (hG : g_X9_areSeeds x1.toInt = some r) : Ev E ad shl p l e rm_X9_areSeeds s m args below meth c 0 0 Q 1 h 0 [some (.int x1)] [] := by
  unfold g_X9_areSeeds at hG
  refine r_iload_n (pc := 0) X dX9_areSeeds_0 rfl rfl ?_
  refine r_i2l (pc := 1) X dX9_areSeeds_1 hG (fun z1 hG => ?_)
  refine r_lconst (pc := 2) X dX9_areSeeds_2 hG (by decide) (fun z2 hG => ?_)
  refine r_ldc2 (pc := 3) X dX9_areSeeds_3 mW_X9_502 hG (by decide) (fun z3 hG => ?_)
  refine r_cP (pc := 6) hG (fun _ hg => runS X dX9_areSeeds_6 (c_X9_in  hg) mM_X9_52 mS_X9_in mN_X9 mK_X9_in rfl rfl hdd_X9_in ⟨(Nat.le_of_ble_eq_true rfl), (Nat.le_of_ble_eq_true rfl)⟩ rfl rfl (Nat.le_of_ble_eq_true rfl) ⟨(Nat.le_of_ble_eq_true rfl), (Nat.le_of_ble_eq_true rfl)⟩) (fun z4 hG => ?_)
  exact r_zretP (pc := 9) X dX9_areSeeds_9 hQ hG
theorem c_X9_areSeeds {x1 : Int32} {r : Int}  (hg : g_X9_areSeeds x1.toInt = some r) : Met l yX9_areSeeds (wsM yX9_areSeeds cX9_areSeeds 1 (some .boolean)) rm_X9_areSeeds (va_Pc [.int x1] (World E ad shl h)) (QcI E ad shl r h) 0 0 (bsA E) :=
  met_of (L0 := [some (.int x1)]) rfl rfl rfl (Nat.le_of_ble_eq_true rfl) (fun _ _ _ _ _ _ _ X => w_X9_areSeeds  X rfl hg)
abbrev rm_X9_stand : Room := { frames := 6, cells := 0, slots := 0, locals := 132 }
theorem hdd_X9_stand : yX9_stand.cls = RX9 ∧ yX9_stand.cls ≠ "java/lang/invoke/MethodHandle" ∧ yX9_stand.cls ≠ "java/lang/invoke/VarHandle" ∧ (parseMethodDescriptor yX9_stand.desc).map (fun d => d.parameters.length) = some 3 := ⟨rfl, by decide +kernel, by decide +kernel, by decide +kernel⟩
set_option maxRecDepth 100000 in
set_option maxHeartbeats 4000000 in
theorem w_X9_stand {x1 : Int32} {x2 : Int32} {x3 : Int32} {r : Int × Hp} (Hb0 : At_X9 shl) (X : Cx E p s m args meth c cX9_stand RX9 10 (some .int)) (hQ : Q = MQ below (QcI E ad shl r.1 r.2) args s 0 0 (bsA E)) (hG : g_X9_stand x1.toInt x2.toInt x3.toInt h = some r) : Ev E ad shl p l e rm_X9_stand s m args below meth c 0 0 Q 10 h 0 [some (.ref (ad 100)), some (.int x1), some (.int x2), some (.int x3), none, none, none, none, none, none] [] := by
  unfold g_X9_stand at hG
  refine r_iload_n (pc := 0) X dX9_stand_0 rfl rfl ?_
  refine r_i2l (pc := 1) X dX9_stand_1 hG (fun z1 hG => ?_)
  refine r_lconst (pc := 2) X dX9_stand_2 hG (by decide) (fun z2 hG => ?_)
  refine r_ldc2 (pc := 3) X dX9_stand_3 mW_X9_454 hG (by decide) (fun z3 hG => ?_)
  refine r_cP (pc := 6) hG (fun _ hg => runS X dX9_stand_6 (c_X9_in  hg) mM_X9_52 mS_X9_in mN_X9 mK_X9_in rfl rfl hdd_X9_in ⟨(Nat.le_of_ble_eq_true rfl), (Nat.le_of_ble_eq_true rfl)⟩ rfl rfl (Nat.le_of_ble_eq_true rfl) ⟨(Nat.le_of_ble_eq_true rfl), (Nat.le_of_ble_eq_true rfl)⟩) (fun z4 hG => ?_)
  refine r_join hG (fun _ => Ev E ad shl p l e rm_X9_stand s m args below meth c 0 0 Q 10 h 26 [none, none, none, none, none, none, none, none, none, none] []) (fun a5 hG => ?_) (fun j6 Hj6 hG => ?_)
  · skip
    refine r_bipush (pc := 26) X dX9_stand_26 hG (by decide) (fun z7 hG => ?_)
    exact r_iretW (pc := 28) X dX9_stand_28 hQ hG
  refine r_if_eq (pc := 9) X dX9_stand_9 (tgt := 26) (by decide) hG (fun hG => ?_) (fun hG => ?_)
  · skip
    exact r_mask [false, false, false, false, false, false, false, false, false, false] rfl (Hj6 _ hG)
  · skip
    refine r_iload_n (pc := 12) X dX9_stand_12 rfl rfl ?_
    refine r_cP (pc := 13) hG (fun _ hg => runS X dX9_stand_13 (c_X9_areSeeds  hg) mM_X9_504 mS_X9_areSeeds mN_X9 mK_X9_areSeeds rfl rfl hdd_X9_areSeeds ⟨(Nat.le_of_ble_eq_true rfl), (Nat.le_of_ble_eq_true rfl)⟩ rfl rfl (Nat.le_of_ble_eq_true rfl) ⟨(Nat.le_of_ble_eq_true rfl), (Nat.le_of_ble_eq_true rfl)⟩) (fun z8 hG => ?_)
    refine r_if_eq (pc := 16) X dX9_stand_16 (tgt := 26) (by decide) hG (fun hG => ?_) (fun hG => ?_)
    · skip
      exact r_mask [false, false, false, false, false, false, false, false, false, false] rfl (Hj6 _ hG)
    · skip
      refine r_iload_n (pc := 19) X dX9_stand_19 rfl rfl ?_
      refine r_cP (pc := 20) hG (fun _ hg => runS X dX9_stand_20 (c_X9_areMinutes  hg) mM_X9_475 mS_X9_areMinutes mN_X9 mK_X9_areMinutes rfl rfl hdd_X9_areMinutes ⟨(Nat.le_of_ble_eq_true rfl), (Nat.le_of_ble_eq_true rfl)⟩ rfl rfl (Nat.le_of_ble_eq_true rfl) ⟨(Nat.le_of_ble_eq_true rfl), (Nat.le_of_ble_eq_true rfl)⟩) (fun z9 hG => ?_)
      refine r_if_ne (pc := 23) X dX9_stand_23 (tgt := 29) (by decide) hG (fun hG => ?_) (fun hG => ?_)
      · skip
        refine r_iconst (pc := 29) X dX9_stand_29 hG rfl (fun z10 hG => ?_)
        refine r_istore (pc := 30) (L' := [some (.ref (ad 100)), some (.int x1), some (.int x2), some (.int x3), some (.int z10), none, none, none, none, none]) X dX9_stand_30 (by decide) rfl rfl ?_
        refine r_iconst (pc := 32) X dX9_stand_32 hG rfl (fun z11 hG => ?_)
        refine r_istore (pc := 33) (L' := [some (.ref (ad 100)), some (.int x1), some (.int x2), some (.int x3), some (.int z10), some (.int z11), none, none, none, none]) X dX9_stand_33 (by decide) rfl rfl ?_
        refine r_iconst (pc := 35) X dX9_stand_35 hG rfl (fun z12 hG => ?_)
        refine r_istore (pc := 36) (L' := [some (.ref (ad 100)), some (.int x1), some (.int x2), some (.int x3), some (.int z10), some (.int z11), some (.int z12), none, none, none]) X dX9_stand_36 (by decide) rfl rfl ?_
        refine r_mask [true, true, true, true, true, true, true, false, false, false] rfl (r_loop (fun q13 => ∀ (y15 : Int32) (y16 : Int32) (y17 : Int32) (h18 : Hp), q13 = (y15.toInt, y16.toInt, y17.toInt, h18) → Ev E ad shl p l e rm_X9_stand s m args below meth c 0 0 Q 10 h18 38 [some (.ref (ad 100)), some (.int x1), some (.int x2), some (.int x3), some (.int y15), some (.int y16), some (.int y17), none, none, none] []) (fun l14 Hl14 q13 hG => ?_) FU _ hG z10 z11 z12 h rfl)
        intro y15 y16 y17 h18 ha; have ha := ha.symm; subst ha
        unfold g_X9_stand_l14 at hG
        refine r_iload (pc := 38) X dX9_stand_38 rfl ?_
        refine r_aload_n (pc := 40) X dX9_stand_40 rfl rfl ?_
        refine r_getI (pc := 41) X (at_X9_o Hb0) rfl mU_X9 (k := 10) (by decide) rfl mF_X9_201 dX9_stand_41 hG (fun z19 hG => ?_)
        refine r_aload_n (pc := 44) X dX9_stand_44 rfl rfl ?_
        refine r_getI (pc := 45) X (at_X9_o Hb0) rfl mU_X9 (k := 11) (by decide) rfl mF_X9_204 dX9_stand_45 hG (fun z20 hG => ?_)
        refine r_imul (pc := 48) X dX9_stand_48 hG (fun z21 hG => ?_)
        refine r_icmp_ge (pc := 49) X dX9_stand_49 (tgt := 178) (by decide) hG (fun hG => ?_) (fun hG => ?_)
        · skip
          refine r_iload (pc := 178) X dX9_stand_178 rfl ?_
          exact r_iretW (pc := 180) X dX9_stand_180 hQ hG
        · skip
          refine r_aload_n (pc := 52) X dX9_stand_52 rfl rfl ?_
          refine r_getC (pc := 53) X (at_X9_o Hb0) rfl mU_X9 (k := 46) (by decide) (q := 121) rfl mF_X9_269 dX9_stand_53 ?_
          refine r_sipush (pc := 56) X dX9_stand_56 hG (by decide) (fun z22 hG => ?_)
          refine r_iload (pc := 59) X dX9_stand_59 rfl ?_
          refine r_iadd (pc := 61) X dX9_stand_61 hG (fun z23 hG => ?_)
          refine r_iald (pc := 62) X (at_X9_now Hb0) dX9_stand_62 hG (fun z24 hG => ?_)
          refine r_iconst (pc := 63) X dX9_stand_63 hG rfl (fun z25 hG => ?_)
          refine r_join hG (fun a26 => ∀ (y28 : Int32) (y29 : Int32) (h30 : Hp), a26 = (y28.toInt, y29.toInt, h30) → Ev E ad shl p l e rm_X9_stand s m args below meth c 0 0 Q 10 h30 172 [some (.ref (ad 100)), some (.int x1), some (.int x2), some (.int x3), some (.int y28), some (.int y29), some (.int y17), none, none, none] []) (fun a26 hG => ?_) (fun j27 Hj27 hG => ?_)
          · skip
            intro y28 y29 h30 ha; have ha := ha.symm; subst ha
            refine r_iinc (pc := 172) (L' := fun z31 => [some (.ref (ad 100)), some (.int x1), some (.int x2), some (.int x3), some (.int y28), some (.int y29), some (.int z31), none, none, none]) X dX9_stand_172 (by decide) rfl rfl (by decide) (fun _ => rfl) hG (fun z31 hG => ?_)
            refine r_goto (pc := 175) X dX9_stand_175 (tgt := 38) (by decide) ?_
            exact r_mask [true, true, true, true, true, true, true, false, false, false] rfl (Hl14 _ hG y28 y29 z31 h30 rfl)
          refine r_icmp_ne (pc := 64) X dX9_stand_64 (tgt := 70) (by decide) hG (fun hG => ?_) (fun hG => ?_)
          · skip
            refine r_iconst (pc := 70) X dX9_stand_70 hG rfl (fun z32 hG => ?_)
            refine r_istore (pc := 71) (L' := [some (.ref (ad 100)), some (.int x1), some (.int x2), some (.int x3), some (.int y15), some (.int y16), some (.int y17), some (.int z32), none, none]) X dX9_stand_71 (by decide) rfl rfl ?_
            refine r_iconst (pc := 73) X dX9_stand_73 hG rfl (fun z33 hG => ?_)
            refine r_istore (pc := 74) (L' := [some (.ref (ad 100)), some (.int x1), some (.int x2), some (.int x3), some (.int y15), some (.int y16), some (.int y17), some (.int z32), some (.int z33), none]) X dX9_stand_74 (by decide) rfl rfl ?_
            refine r_join hG (fun a34 => ∀ (y36 : Int32) (h37 : Hp), a34 = (y36.toInt, h37) → Ev E ad shl p l e rm_X9_stand s m args below meth c 0 0 Q 10 h37 154 [some (.ref (ad 100)), some (.int x1), some (.int x2), some (.int x3), some (.int y15), some (.int y16), some (.int y17), some (.int y36), none, none] []) (fun a34 hG => ?_) (fun j35 Hj35 hG => ?_)
            · skip
              intro y36 h37 ha; have ha := ha.symm; subst ha
              refine r_iload (pc := 154) X dX9_stand_154 rfl ?_
              refine r_iload (pc := 156) X dX9_stand_156 rfl ?_
              refine r_icmp_gt (pc := 158) X dX9_stand_158 (tgt := 164) (by decide) hG (fun hG => ?_) (fun hG => ?_)
              · skip
                refine r_iload (pc := 164) X dX9_stand_164 rfl ?_
                refine r_istore (pc := 166) (L' := [some (.ref (ad 100)), some (.int x1), some (.int x2), some (.int x3), some (.int y15), some (.int y36), some (.int y17), some (.int y36), none, none]) X dX9_stand_166 (by decide) rfl rfl ?_
                refine r_iload (pc := 168) X dX9_stand_168 rfl ?_
                refine r_istore (pc := 170) (L' := [some (.ref (ad 100)), some (.int x1), some (.int x2), some (.int x3), some (.int y17), some (.int y36), some (.int y17), some (.int y36), none, none]) X dX9_stand_170 (by decide) rfl rfl ?_
                exact r_mask [true, true, true, true, true, true, true, false, false, false] rfl (Hj27 _ hG y17 y36 h37 rfl)
              · skip
                refine r_goto (pc := 161) X dX9_stand_161 (tgt := 172) (by decide) ?_
                exact r_mask [true, true, true, true, true, true, true, false, false, false] rfl (Hj27 _ hG y15 y16 h37 rfl)
            refine r_mask [true, true, true, true, true, true, true, true, true, false] rfl (r_loop (fun q38 => ∀ (y40 : Int32) (y41 : Int32) (h42 : Hp), q38 = (y40.toInt, y41.toInt, h42) → Ev E ad shl p l e rm_X9_stand s m args below meth c 0 0 Q 10 h42 76 [some (.ref (ad 100)), some (.int x1), some (.int x2), some (.int x3), some (.int y15), some (.int y16), some (.int y17), some (.int y40), some (.int y41), none] []) (fun l39 Hl39 q38 hG => ?_) FU _ hG z32 z33 h18 rfl)
            intro y40 y41 h42 ha; have ha := ha.symm; subst ha
            unfold g_X9_stand_l39 at hG
            refine r_iload (pc := 76) X dX9_stand_76 rfl ?_
            refine r_iload_n (pc := 78) X dX9_stand_78 rfl rfl ?_
            refine r_icmp_gt (pc := 79) X dX9_stand_79 (tgt := 154) (by decide) hG (fun hG => ?_) (fun hG => ?_)
            · skip
              exact r_mask [true, true, true, true, true, true, true, true, false, false] rfl (Hj35 _ hG y40 h42 rfl)
            · skip
              refine r_aload_n (pc := 82) X dX9_stand_82 rfl rfl ?_
              refine r_iconst (pc := 83) X dX9_stand_83 hG rfl (fun z43 hG => ?_)
              refine r_iload (pc := 84) X dX9_stand_84 rfl ?_
              refine r_cV (pc := 86) hG (fun _ hg => runV X dX9_stand_86 (c_X9_beginTrial Hb0 hg) mM_X9_478 mI_X9_beginTrial mE_X9_beginTrial mN_X9 mK_X9_beginTrial (at_X9_o Hb0) rfl rfl rfl rfl hdd_X9_beginTrial ⟨(Nat.le_of_ble_eq_true rfl), (Nat.le_of_ble_eq_true rfl)⟩ rfl rfl (Nat.le_of_ble_eq_true rfl) ⟨(Nat.le_of_ble_eq_true rfl), (Nat.le_of_ble_eq_true rfl)⟩) (fun h44 hG => ?_)
              refine r_aload_n (pc := 89) X dX9_stand_89 rfl rfl ?_
              refine r_getC (pc := 90) X (at_X9_o Hb0) rfl mU_X9 (k := 47) (by decide) (q := 122) rfl mF_X9_272 dX9_stand_90 ?_
              refine r_iconst (pc := 93) X dX9_stand_93 hG rfl (fun z45 hG => ?_)
              refine r_iload (pc := 94) X dX9_stand_94 rfl ?_
              refine r_iadd (pc := 96) X dX9_stand_96 hG (fun z46 hG => ?_)
              refine r_dup2 (pc := 97) X dX9_stand_97 rfl rfl ?_
              refine r_iald (pc := 98) X (at_X9_trial Hb0) dX9_stand_98 hG (fun z47 hG => ?_)
              refine r_iload_n (pc := 99) X dX9_stand_99 rfl rfl ?_
              refine r_iadd (pc := 100) X dX9_stand_100 hG (fun z48 hG => ?_)
              refine r_iast (pc := 101) X (at_X9_trial Hb0) dX9_stand_101 hG (fun h49 hG => ?_)
              refine r_aload_n (pc := 102) X dX9_stand_102 rfl rfl ?_
              refine r_getC (pc := 103) X (at_X9_o Hb0) rfl mU_X9 (k := 47) (by decide) (q := 122) rfl mF_X9_272 dX9_stand_103 ?_
              refine r_iload (pc := 106) X dX9_stand_106 rfl ?_
              refine r_cV (pc := 108) hG (fun _ hg => runS X dX9_stand_108 (c_X9_putFlag (at_X9_trial Hb0) hg) mM_X9_314 mS_X9_putFlag mN_X9 mK_X9_putFlag rfl rfl hdd_X9_putFlag ⟨(Nat.le_of_ble_eq_true rfl), (Nat.le_of_ble_eq_true rfl)⟩ rfl rfl (Nat.le_of_ble_eq_true rfl) ⟨(Nat.le_of_ble_eq_true rfl), (Nat.le_of_ble_eq_true rfl)⟩) (fun h50 hG => ?_)
              refine r_iconst (pc := 111) X dX9_stand_111 hG rfl (fun z51 hG => ?_)
              refine r_istore (pc := 112) (L' := [some (.ref (ad 100)), some (.int x1), some (.int x2), some (.int x3), some (.int y15), some (.int y16), some (.int y17), some (.int y40), some (.int y41), some (.int z51)]) X dX9_stand_112 (by decide) rfl rfl ?_
              refine r_join hG (fun a52 => ∀ (h54 : Hp), a52 = h54 → Ev E ad shl p l e rm_X9_stand s m args below meth c 0 0 Q 10 h54 134 [some (.ref (ad 100)), some (.int x1), some (.int x2), some (.int x3), some (.int y15), some (.int y16), some (.int y17), some (.int y40), some (.int y41), none] []) (fun a52 hG => ?_) (fun j53 Hj53 hG => ?_)
              · skip
                intro h54 ha; have ha := ha.symm; subst ha
                refine r_iload (pc := 134) X dX9_stand_134 rfl ?_
                refine r_aload_n (pc := 136) X dX9_stand_136 rfl rfl ?_
                refine r_aload_n (pc := 137) X dX9_stand_137 rfl rfl ?_
                refine r_getI (pc := 138) X (at_X9_o Hb0) rfl mU_X9 (k := 12) (by decide) rfl mF_X9_311 dX9_stand_138 hG (fun z55 hG => ?_)
                refine r_iload_n (pc := 141) X dX9_stand_141 rfl rfl ?_
                refine r_cP (pc := 142) hG (fun _ hg => runV X dX9_stand_142 (c_X9_lastOf Hb0 hg) mM_X9_482 mI_X9_lastOf mE_X9_lastOf mN_X9 mK_X9_lastOf (at_X9_o Hb0) rfl rfl rfl rfl hdd_X9_lastOf ⟨(Nat.le_of_ble_eq_true rfl), (Nat.le_of_ble_eq_true rfl)⟩ rfl rfl (Nat.le_of_ble_eq_true rfl) ⟨(Nat.le_of_ble_eq_true rfl), (Nat.le_of_ble_eq_true rfl)⟩) (fun z56 hG => ?_)
                refine r_iadd (pc := 145) X dX9_stand_145 hG (fun z57 hG => ?_)
                refine r_istore (pc := 146) (L' := [some (.ref (ad 100)), some (.int x1), some (.int x2), some (.int x3), some (.int y15), some (.int y16), some (.int y17), some (.int z57), some (.int y41), none]) X dX9_stand_146 (by decide) rfl rfl ?_
                refine r_iinc (pc := 148) (L' := fun z58 => [some (.ref (ad 100)), some (.int x1), some (.int x2), some (.int x3), some (.int y15), some (.int y16), some (.int y17), some (.int z57), some (.int z58), none]) X dX9_stand_148 (by decide) rfl rfl (by decide) (fun _ => rfl) hG (fun z58 hG => ?_)
                refine r_goto (pc := 151) X dX9_stand_151 (tgt := 76) (by decide) ?_
                exact r_mask [true, true, true, true, true, true, true, true, true, false] rfl (Hl39 _ hG z57 z58 h54 rfl)
              refine r_mask [true, true, true, true, true, true, true, true, true, true] rfl (r_loop (fun q59 => ∀ (y61 : Int32) (h62 : Hp), q59 = (y61.toInt, h62) → Ev E ad shl p l e rm_X9_stand s m args below meth c 0 0 Q 10 h62 114 [some (.ref (ad 100)), some (.int x1), some (.int x2), some (.int x3), some (.int y15), some (.int y16), some (.int y17), some (.int y40), some (.int y41), some (.int y61)] []) (fun l60 Hl60 q59 hG => ?_) FU _ hG z51 h50 rfl)
              intro y61 h62 ha; have ha := ha.symm; subst ha
              unfold g_X9_stand_l60 at hG
              refine r_iload (pc := 114) X dX9_stand_114 rfl ?_
              refine r_iload_n (pc := 116) X dX9_stand_116 rfl rfl ?_
              refine r_icmp_ge (pc := 117) X dX9_stand_117 (tgt := 134) (by decide) hG (fun hG => ?_) (fun hG => ?_)
              · skip
                exact r_mask [true, true, true, true, true, true, true, true, true, false] rfl (Hj53 _ hG h62 rfl)
              · skip
                refine r_aload_n (pc := 120) X dX9_stand_120 rfl rfl ?_
                refine r_aload_n (pc := 121) X dX9_stand_121 rfl rfl ?_
                refine r_getC (pc := 122) X (at_X9_o Hb0) rfl mU_X9 (k := 47) (by decide) (q := 122) rfl mF_X9_272 dX9_stand_122 ?_
                refine r_cV (pc := 125) hG (fun _ hg => runV X dX9_stand_125 (c_X9_minute Hb0 (at_X9_trial Hb0) hg) mM_X9_422 mI_X9_minute mE_X9_minute mN_X9 mK_X9_minute (at_X9_o Hb0) rfl rfl rfl rfl hdd_X9_minute ⟨(Nat.le_of_ble_eq_true rfl), (Nat.le_of_ble_eq_true rfl)⟩ rfl rfl (Nat.le_of_ble_eq_true rfl) ⟨(Nat.le_of_ble_eq_true rfl), (Nat.le_of_ble_eq_true rfl)⟩) (fun h63 hG => ?_)
                refine r_iinc (pc := 128) (L' := fun z64 => [some (.ref (ad 100)), some (.int x1), some (.int x2), some (.int x3), some (.int y15), some (.int y16), some (.int y17), some (.int y40), some (.int y41), some (.int z64)]) X dX9_stand_128 (by decide) rfl rfl (by decide) (fun _ => rfl) hG (fun z64 hG => ?_)
                refine r_goto (pc := 131) X dX9_stand_131 (tgt := 114) (by decide) ?_
                exact r_mask [true, true, true, true, true, true, true, true, true, true] rfl (Hl60 _ hG z64 h63 rfl)
          · skip
            refine r_goto (pc := 67) X dX9_stand_67 (tgt := 172) (by decide) ?_
            exact r_mask [true, true, true, true, true, true, true, false, false, false] rfl (Hj27 _ hG y15 y16 h18 rfl)
      · skip
        exact r_mask [false, false, false, false, false, false, false, false, false, false] rfl (Hj6 _ hG)
theorem c_X9_stand {x1 : Int32} {x2 : Int32} {x3 : Int32} {r : Int × Hp} (Hb0 : At_X9 shl) (hg : g_X9_stand x1.toInt x2.toInt x3.toInt h = some r) : Met l yX9_stand (wsM yX9_stand cX9_stand 10 (some .int)) rm_X9_stand (va_Pc [.ref (ad 100), .int x1, .int x2, .int x3] (World E ad shl h)) (QcI E ad shl r.1 r.2) 0 0 (bsA E) :=
  met_of (L0 := [some (.ref (ad 100)), some (.int x1), some (.int x2), some (.int x3), none, none, none, none, none, none]) rfl rfl rfl (Nat.le_of_ble_eq_true rfl) (fun _ _ _ _ _ _ _ X => w_X9_stand Hb0 X rfl hg)
abbrev rm_X9_common : Room := { frames := 0, cells := 0, slots := 0, locals := 0 }
theorem hdd_X9_common : yX9_common.cls ≠ "java/lang/invoke/MethodHandle" ∧ yX9_common.cls ≠ "java/lang/invoke/VarHandle" ∧ (parseMethodDescriptor yX9_common.desc).map (fun d => d.parameters.length) = some 2 := ⟨by decide +kernel, by decide +kernel, by decide +kernel⟩
set_option maxRecDepth 100000 in
set_option maxHeartbeats 4000000 in
theorem w_X9_common {x1 : Int32} {x2 : Int32} {r : Int}  (X : Cx E p s m args meth c cX9_common RX9 5 (some .int)) (hQ : Q = MQ below (QcI E ad shl r h) args s 0 0 (bsA E)) (hG : g_X9_common x1.toInt x2.toInt = some r) : Ev E ad shl p l e rm_X9_common s m args below meth c 0 0 Q 5 h 0 [some (.int x1), some (.int x2), none, none, none] [] := by
  unfold g_X9_common at hG
  refine r_iload_n (pc := 0) X dX9_common_0 rfl rfl ?_
  refine r_istore_n (pc := 1) (L' := [some (.int x1), some (.int x2), some (.int x1), none, none]) X dX9_common_1 rfl (by decide) rfl rfl ?_
  refine r_iload_n (pc := 2) X dX9_common_2 rfl rfl ?_
  refine r_istore_n (pc := 3) (L' := [some (.int x1), some (.int x2), some (.int x1), some (.int x2), none]) X dX9_common_3 rfl (by decide) rfl rfl ?_
  refine r_mask [false, false, true, true, false] rfl (r_loop (fun q1 => ∀ (y3 : Int32) (y4 : Int32), q1 = (y3.toInt, y4.toInt) → Ev E ad shl p l e rm_X9_common s m args below meth c 0 0 Q 5 h 4 [none, none, some (.int y3), some (.int y4), none] []) (fun l2 Hl2 q1 hG => ?_) FU _ hG x1 x2 rfl)
  intro y3 y4 ha; have ha := ha.symm; subst ha
  unfold g_X9_common_l2 at hG
  refine r_iload_n (pc := 4) X dX9_common_4 rfl rfl ?_
  refine r_if_eq (pc := 5) X dX9_common_5 (tgt := 21) (by decide) hG (fun hG => ?_) (fun hG => ?_)
  · skip
    refine r_iload_n (pc := 21) X dX9_common_21 rfl rfl ?_
    exact r_iretP (pc := 22) X dX9_common_22 hQ hG
  · skip
    refine r_iload_n (pc := 8) X dX9_common_8 rfl rfl ?_
    refine r_iload_n (pc := 9) X dX9_common_9 rfl rfl ?_
    refine r_irem (pc := 10) X dX9_common_10 hG (fun z5 hG => ?_)
    refine r_istore (pc := 11) (L' := [none, none, some (.int y3), some (.int y4), some (.int z5)]) X dX9_common_11 (by decide) rfl rfl ?_
    refine r_iload_n (pc := 13) X dX9_common_13 rfl rfl ?_
    refine r_istore_n (pc := 14) (L' := [none, none, some (.int y4), some (.int y4), some (.int z5)]) X dX9_common_14 rfl (by decide) rfl rfl ?_
    refine r_iload (pc := 15) X dX9_common_15 rfl ?_
    refine r_istore_n (pc := 17) (L' := [none, none, some (.int y4), some (.int z5), some (.int z5)]) X dX9_common_17 rfl (by decide) rfl rfl ?_
    refine r_goto (pc := 18) X dX9_common_18 (tgt := 4) (by decide) ?_
    exact r_mask [false, false, true, true, false] rfl (Hl2 _ hG y4 z5 rfl)
theorem c_X9_common {x1 : Int32} {x2 : Int32} {r : Int}  (hg : g_X9_common x1.toInt x2.toInt = some r) : Met l yX9_common (wsM yX9_common cX9_common 5 (some .int)) rm_X9_common (va_Pc [.int x1, .int x2] (World E ad shl h)) (QcI E ad shl r h) 0 0 (bsA E) :=
  met_of (L0 := [some (.int x1), some (.int x2), none, none, none]) rfl rfl rfl (Nat.le_of_ble_eq_true rfl) (fun _ _ _ _ _ _ _ X => w_X9_common  X rfl hg)
abbrev rm_X9_outlasts : Room := { frames := 6, cells := 0, slots := 0, locals := 132 }
theorem hdd_X9_outlasts : yX9_outlasts.cls = RX9 ∧ yX9_outlasts.cls ≠ "java/lang/invoke/MethodHandle" ∧ yX9_outlasts.cls ≠ "java/lang/invoke/VarHandle" ∧ (parseMethodDescriptor yX9_outlasts.desc).map (fun d => d.parameters.length) = some 5 := ⟨rfl, by decide +kernel, by decide +kernel, by decide +kernel⟩
set_option maxRecDepth 100000 in
set_option maxHeartbeats 4000000 in
theorem w_X9_outlasts {x1 : Int32} {x2 : Int32} {x3 : Int32} {x4 : Int32} {x5 : Int32} {r : Int × Hp} (Hb0 : At_X9 shl) (X : Cx E p s m args meth c cX9_outlasts RX9 9 (some .int)) (hQ : Q = MQ below (QcI E ad shl r.1 r.2) args s 0 0 (bsA E)) (hG : g_X9_outlasts x1.toInt x2.toInt x3.toInt x4.toInt x5.toInt h = some r) : Ev E ad shl p l e rm_X9_outlasts s m args below meth c 0 0 Q 9 h 0 [some (.ref (ad 100)), some (.int x1), some (.int x2), some (.int x3), some (.int x4), some (.int x5), none, none, none] [] := by
  unfold g_X9_outlasts at hG
  refine r_aload_n (pc := 0) X dX9_outlasts_0 rfl rfl ?_
  refine r_iload_n (pc := 1) X dX9_outlasts_1 rfl rfl ?_
  refine r_cP (pc := 2) hG (fun _ hg => runV X dX9_outlasts_2 (c_X9_isFlag Hb0 hg) mM_X9_427 mI_X9_isFlag mE_X9_isFlag mN_X9 mK_X9_isFlag (at_X9_o Hb0) rfl rfl rfl rfl hdd_X9_isFlag ⟨(Nat.le_of_ble_eq_true rfl), (Nat.le_of_ble_eq_true rfl)⟩ rfl rfl (Nat.le_of_ble_eq_true rfl) ⟨(Nat.le_of_ble_eq_true rfl), (Nat.le_of_ble_eq_true rfl)⟩) (fun z1 hG => ?_)
  refine r_join hG (fun _ => Ev E ad shl p l e rm_X9_outlasts s m args below meth c 0 0 Q 9 h 36 [none, none, none, none, none, none, none, none, none] []) (fun a2 hG => ?_) (fun j3 Hj3 hG => ?_)
  · skip
    refine r_bipush (pc := 36) X dX9_outlasts_36 hG (by decide) (fun z4 hG => ?_)
    exact r_iretW (pc := 38) X dX9_outlasts_38 hQ hG
  refine r_if_eq (pc := 5) X dX9_outlasts_5 (tgt := 36) (by decide) hG (fun hG => ?_) (fun hG => ?_)
  · skip
    exact r_mask [false, false, false, false, false, false, false, false, false] rfl (Hj3 _ hG)
  · skip
    refine r_aload_n (pc := 8) X dX9_outlasts_8 rfl rfl ?_
    refine r_iload_n (pc := 9) X dX9_outlasts_9 rfl rfl ?_
    refine r_cP (pc := 10) hG (fun _ hg => runV X dX9_outlasts_10 (c_X9_isFlag Hb0 hg) mM_X9_427 mI_X9_isFlag mE_X9_isFlag mN_X9 mK_X9_isFlag (at_X9_o Hb0) rfl rfl rfl rfl hdd_X9_isFlag ⟨(Nat.le_of_ble_eq_true rfl), (Nat.le_of_ble_eq_true rfl)⟩ rfl rfl (Nat.le_of_ble_eq_true rfl) ⟨(Nat.le_of_ble_eq_true rfl), (Nat.le_of_ble_eq_true rfl)⟩) (fun z5 hG => ?_)
    refine r_if_eq (pc := 13) X dX9_outlasts_13 (tgt := 36) (by decide) hG (fun hG => ?_) (fun hG => ?_)
    · skip
      exact r_mask [false, false, false, false, false, false, false, false, false] rfl (Hj3 _ hG)
    · skip
      refine r_iload_n (pc := 16) X dX9_outlasts_16 rfl rfl ?_
      refine r_iload_n (pc := 17) X dX9_outlasts_17 rfl rfl ?_
      refine r_icmp_eq (pc := 18) X dX9_outlasts_18 (tgt := 36) (by decide) hG (fun hG => ?_) (fun hG => ?_)
      · skip
        exact r_mask [false, false, false, false, false, false, false, false, false] rfl (Hj3 _ hG)
      · skip
        refine r_iload_n (pc := 21) X dX9_outlasts_21 rfl rfl ?_
        refine r_cP (pc := 22) hG (fun _ hg => runS X dX9_outlasts_22 (c_X9_areSeeds  hg) mM_X9_504 mS_X9_areSeeds mN_X9 mK_X9_areSeeds rfl rfl hdd_X9_areSeeds ⟨(Nat.le_of_ble_eq_true rfl), (Nat.le_of_ble_eq_true rfl)⟩ rfl rfl (Nat.le_of_ble_eq_true rfl) ⟨(Nat.le_of_ble_eq_true rfl), (Nat.le_of_ble_eq_true rfl)⟩) (fun z6 hG => ?_)
        refine r_if_eq (pc := 25) X dX9_outlasts_25 (tgt := 36) (by decide) hG (fun hG => ?_) (fun hG => ?_)
        · skip
          exact r_mask [false, false, false, false, false, false, false, false, false] rfl (Hj3 _ hG)
        · skip
          refine r_iload (pc := 28) X dX9_outlasts_28 rfl ?_
          refine r_cP (pc := 30) hG (fun _ hg => runS X dX9_outlasts_30 (c_X9_areMinutes  hg) mM_X9_475 mS_X9_areMinutes mN_X9 mK_X9_areMinutes rfl rfl hdd_X9_areMinutes ⟨(Nat.le_of_ble_eq_true rfl), (Nat.le_of_ble_eq_true rfl)⟩ rfl rfl (Nat.le_of_ble_eq_true rfl) ⟨(Nat.le_of_ble_eq_true rfl), (Nat.le_of_ble_eq_true rfl)⟩) (fun z7 hG => ?_)
          refine r_if_ne (pc := 33) X dX9_outlasts_33 (tgt := 39) (by decide) hG (fun hG => ?_) (fun hG => ?_)
          · skip
            refine r_iconst (pc := 39) X dX9_outlasts_39 hG rfl (fun z8 hG => ?_)
            refine r_istore (pc := 40) (L' := [some (.ref (ad 100)), some (.int x1), some (.int x2), some (.int x3), some (.int x4), some (.int x5), some (.int z8), none, none]) X dX9_outlasts_40 (by decide) rfl rfl ?_
            refine r_iconst (pc := 42) X dX9_outlasts_42 hG rfl (fun z9 hG => ?_)
            refine r_istore (pc := 43) (L' := [some (.ref (ad 100)), some (.int x1), some (.int x2), some (.int x3), some (.int x4), some (.int x5), some (.int z8), some (.int z9), none]) X dX9_outlasts_43 (by decide) rfl rfl ?_
            refine r_join hG (fun a10 => ∀ (y12 : Int32) (h13 : Hp), a10 = (y12.toInt, h13) → Ev E ad shl p l e rm_X9_outlasts s m args below meth c 0 0 Q 9 h13 115 [none, none, none, some (.int x3), none, some (.int x5), some (.int y12), none, none] []) (fun a10 hG => ?_) (fun j11 Hj11 hG => ?_)
            · skip
              intro y12 h13 ha; have ha := ha.symm; subst ha
              refine r_iload (pc := 115) X dX9_outlasts_115 rfl ?_
              refine r_join hG (fun a14 => ∀ (y16 : Int32), a14 = y16.toInt → Ev E ad shl p l e rm_X9_outlasts s m args below meth c 0 0 Q 9 h13 126 [none, none, none, some (.int x3), none, none, some (.int y12), none, none] [.int y16]) (fun a14 hG => ?_) (fun j15 Hj15 hG => ?_)
              · skip
                intro y16 ha; have ha := ha.symm; subst ha
                refine r_iload (pc := 126) X dX9_outlasts_126 rfl ?_
                refine r_iload_n (pc := 128) X dX9_outlasts_128 rfl rfl ?_
                refine r_cP (pc := 129) hG (fun _ hg => runS X dX9_outlasts_129 (c_X9_common  hg) mM_X9_507 mS_X9_common mN_X9 mK_X9_common rfl rfl hdd_X9_common ⟨(Nat.le_of_ble_eq_true rfl), (Nat.le_of_ble_eq_true rfl)⟩ rfl rfl (Nat.le_of_ble_eq_true rfl) ⟨(Nat.le_of_ble_eq_true rfl), (Nat.le_of_ble_eq_true rfl)⟩) (fun z17 hG => ?_)
                refine r_idiv (pc := 132) X dX9_outlasts_132 hG (fun z18 hG => ?_)
                exact r_iretW (pc := 133) X dX9_outlasts_133 hQ hG
              refine r_if_eq (pc := 117) X dX9_outlasts_117 (tgt := 124) (by decide) hG (fun hG => ?_) (fun hG => ?_)
              · skip
                refine r_iload (pc := 124) X dX9_outlasts_124 rfl ?_
                exact r_mask [false, false, false, true, false, false, true, false, false] rfl (Hj15 _ hG y12 rfl)
              · skip
                refine r_iload_n (pc := 120) X dX9_outlasts_120 rfl rfl ?_
                refine r_goto (pc := 121) X dX9_outlasts_121 (tgt := 126) (by decide) ?_
                exact r_mask [false, false, false, true, false, false, true, false, false] rfl (Hj15 _ hG x3 rfl)
            refine r_mask [true, true, true, true, true, true, true, true, false] rfl (r_loop (fun q19 => ∀ (y21 : Int32) (y22 : Int32) (h23 : Hp), q19 = (y21.toInt, y22.toInt, h23) → Ev E ad shl p l e rm_X9_outlasts s m args below meth c 0 0 Q 9 h23 45 [some (.ref (ad 100)), some (.int x1), some (.int x2), some (.int x3), some (.int x4), some (.int x5), some (.int y21), some (.int y22), none] []) (fun l20 Hl20 q19 hG => ?_) FU _ hG z8 z9 h rfl)
            intro y21 y22 h23 ha; have ha := ha.symm; subst ha
            unfold g_X9_outlasts_l20 at hG
            refine r_iload (pc := 45) X dX9_outlasts_45 rfl ?_
            refine r_iload_n (pc := 47) X dX9_outlasts_47 rfl rfl ?_
            refine r_icmp_gt (pc := 48) X dX9_outlasts_48 (tgt := 115) (by decide) hG (fun hG => ?_) (fun hG => ?_)
            · skip
              exact r_mask [false, false, false, true, false, true, true, false, false] rfl (Hj11 _ hG y21 h23 rfl)
            · skip
              refine r_aload_n (pc := 51) X dX9_outlasts_51 rfl rfl ?_
              refine r_iconst (pc := 52) X dX9_outlasts_52 hG rfl (fun z24 hG => ?_)
              refine r_iload (pc := 53) X dX9_outlasts_53 rfl ?_
              refine r_cV (pc := 55) hG (fun _ hg => runV X dX9_outlasts_55 (c_X9_beginTrial Hb0 hg) mM_X9_478 mI_X9_beginTrial mE_X9_beginTrial mN_X9 mK_X9_beginTrial (at_X9_o Hb0) rfl rfl rfl rfl hdd_X9_beginTrial ⟨(Nat.le_of_ble_eq_true rfl), (Nat.le_of_ble_eq_true rfl)⟩ rfl rfl (Nat.le_of_ble_eq_true rfl) ⟨(Nat.le_of_ble_eq_true rfl), (Nat.le_of_ble_eq_true rfl)⟩) (fun h25 hG => ?_)
              refine r_iconst (pc := 58) X dX9_outlasts_58 hG rfl (fun z26 hG => ?_)
              refine r_istore (pc := 59) (L' := [some (.ref (ad 100)), some (.int x1), some (.int x2), some (.int x3), some (.int x4), some (.int x5), some (.int y21), some (.int y22), some (.int z26)]) X dX9_outlasts_59 (by decide) rfl rfl ?_
              refine r_join hG (fun a27 => ∀ (h29 : Hp), a27 = h29 → Ev E ad shl p l e rm_X9_outlasts s m args below meth c 0 0 Q 9 h29 82 [some (.ref (ad 100)), some (.int x1), some (.int x2), some (.int x3), some (.int x4), some (.int x5), some (.int y21), some (.int y22), none] []) (fun a27 hG => ?_) (fun j28 Hj28 hG => ?_)
              · skip
                intro h29 ha; have ha := ha.symm; subst ha
                refine r_iload (pc := 82) X dX9_outlasts_82 rfl ?_
                refine r_aload_n (pc := 84) X dX9_outlasts_84 rfl rfl ?_
                refine r_iload_n (pc := 85) X dX9_outlasts_85 rfl rfl ?_
                refine r_iload (pc := 86) X dX9_outlasts_86 rfl ?_
                refine r_cP (pc := 88) hG (fun _ hg => runV X dX9_outlasts_88 (c_X9_lastOf Hb0 hg) mM_X9_482 mI_X9_lastOf mE_X9_lastOf mN_X9 mK_X9_lastOf (at_X9_o Hb0) rfl rfl rfl rfl hdd_X9_lastOf ⟨(Nat.le_of_ble_eq_true rfl), (Nat.le_of_ble_eq_true rfl)⟩ rfl rfl (Nat.le_of_ble_eq_true rfl) ⟨(Nat.le_of_ble_eq_true rfl), (Nat.le_of_ble_eq_true rfl)⟩) (fun z30 hG => ?_)
                refine r_aload_n (pc := 91) X dX9_outlasts_91 rfl rfl ?_
                refine r_iload_n (pc := 92) X dX9_outlasts_92 rfl rfl ?_
                refine r_iload (pc := 93) X dX9_outlasts_93 rfl ?_
                refine r_cP (pc := 95) hG (fun _ hg => runV X dX9_outlasts_95 (c_X9_lastOf Hb0 hg) mM_X9_482 mI_X9_lastOf mE_X9_lastOf mN_X9 mK_X9_lastOf (at_X9_o Hb0) rfl rfl rfl rfl hdd_X9_lastOf ⟨(Nat.le_of_ble_eq_true rfl), (Nat.le_of_ble_eq_true rfl)⟩ rfl rfl (Nat.le_of_ble_eq_true rfl) ⟨(Nat.le_of_ble_eq_true rfl), (Nat.le_of_ble_eq_true rfl)⟩) (fun z31 hG => ?_)
                refine r_join hG (fun a32 => ∀ (y34 : Int32), a32 = y34.toInt → Ev E ad shl p l e rm_X9_outlasts s m args below meth c 0 0 Q 9 h29 106 [some (.ref (ad 100)), some (.int x1), some (.int x2), some (.int x3), some (.int x4), some (.int x5), none, some (.int y22), none] [.int y34, .int y21]) (fun a32 hG => ?_) (fun j33 Hj33 hG => ?_)
                · skip
                  intro y34 ha; have ha := ha.symm; subst ha
                  refine r_iadd (pc := 106) X dX9_outlasts_106 hG (fun z35 hG => ?_)
                  refine r_istore (pc := 107) (L' := [some (.ref (ad 100)), some (.int x1), some (.int x2), some (.int x3), some (.int x4), some (.int x5), some (.int z35), some (.int y22), none]) X dX9_outlasts_107 (by decide) rfl rfl ?_
                  refine r_iinc (pc := 109) (L' := fun z36 => [some (.ref (ad 100)), some (.int x1), some (.int x2), some (.int x3), some (.int x4), some (.int x5), some (.int z35), some (.int z36), none]) X dX9_outlasts_109 (by decide) rfl rfl (by decide) (fun _ => rfl) hG (fun z36 hG => ?_)
                  refine r_goto (pc := 112) X dX9_outlasts_112 (tgt := 45) (by decide) ?_
                  exact r_mask [true, true, true, true, true, true, true, true, false] rfl (Hl20 _ hG z35 z36 h29 rfl)
                refine r_icmp_le (pc := 98) X dX9_outlasts_98 (tgt := 105) (by decide) hG (fun hG => ?_) (fun hG => ?_)
                · skip
                  refine r_iconst (pc := 105) X dX9_outlasts_105 hG rfl (fun z37 hG => ?_)
                  exact r_mask [true, true, true, true, true, true, false, true, false] rfl (Hj33 _ hG z37 rfl)
                · skip
                  refine r_iconst (pc := 101) X dX9_outlasts_101 hG rfl (fun z38 hG => ?_)
                  refine r_goto (pc := 102) X dX9_outlasts_102 (tgt := 106) (by decide) ?_
                  exact r_mask [true, true, true, true, true, true, false, true, false] rfl (Hj33 _ hG z38 rfl)
              refine r_mask [true, true, true, true, true, true, true, true, true] rfl (r_loop (fun q39 => ∀ (y41 : Int32) (h42 : Hp), q39 = (y41.toInt, h42) → Ev E ad shl p l e rm_X9_outlasts s m args below meth c 0 0 Q 9 h42 61 [some (.ref (ad 100)), some (.int x1), some (.int x2), some (.int x3), some (.int x4), some (.int x5), some (.int y21), some (.int y22), some (.int y41)] []) (fun l40 Hl40 q39 hG => ?_) FU _ hG z26 h25 rfl)
              intro y41 h42 ha; have ha := ha.symm; subst ha
              unfold g_X9_outlasts_l40 at hG
              refine r_iload (pc := 61) X dX9_outlasts_61 rfl ?_
              refine r_iload (pc := 63) X dX9_outlasts_63 rfl ?_
              refine r_icmp_ge (pc := 65) X dX9_outlasts_65 (tgt := 82) (by decide) hG (fun hG => ?_) (fun hG => ?_)
              · skip
                exact r_mask [true, true, true, true, true, true, true, true, false] rfl (Hj28 _ hG h42 rfl)
              · skip
                refine r_aload_n (pc := 68) X dX9_outlasts_68 rfl rfl ?_
                refine r_aload_n (pc := 69) X dX9_outlasts_69 rfl rfl ?_
                refine r_getC (pc := 70) X (at_X9_o Hb0) rfl mU_X9 (k := 47) (by decide) (q := 122) rfl mF_X9_272 dX9_outlasts_70 ?_
                refine r_cV (pc := 73) hG (fun _ hg => runV X dX9_outlasts_73 (c_X9_minute Hb0 (at_X9_trial Hb0) hg) mM_X9_422 mI_X9_minute mE_X9_minute mN_X9 mK_X9_minute (at_X9_o Hb0) rfl rfl rfl rfl hdd_X9_minute ⟨(Nat.le_of_ble_eq_true rfl), (Nat.le_of_ble_eq_true rfl)⟩ rfl rfl (Nat.le_of_ble_eq_true rfl) ⟨(Nat.le_of_ble_eq_true rfl), (Nat.le_of_ble_eq_true rfl)⟩) (fun h43 hG => ?_)
                refine r_iinc (pc := 76) (L' := fun z44 => [some (.ref (ad 100)), some (.int x1), some (.int x2), some (.int x3), some (.int x4), some (.int x5), some (.int y21), some (.int y22), some (.int z44)]) X dX9_outlasts_76 (by decide) rfl rfl (by decide) (fun _ => rfl) hG (fun z44 hG => ?_)
                refine r_goto (pc := 79) X dX9_outlasts_79 (tgt := 61) (by decide) ?_
                exact r_mask [true, true, true, true, true, true, true, true, true] rfl (Hl40 _ hG z44 h43 rfl)
          · skip
            exact r_mask [false, false, false, false, false, false, false, false, false] rfl (Hj3 _ hG)
theorem c_X9_outlasts {x1 : Int32} {x2 : Int32} {x3 : Int32} {x4 : Int32} {x5 : Int32} {r : Int × Hp} (Hb0 : At_X9 shl) (hg : g_X9_outlasts x1.toInt x2.toInt x3.toInt x4.toInt x5.toInt h = some r) : Met l yX9_outlasts (wsM yX9_outlasts cX9_outlasts 9 (some .int)) rm_X9_outlasts (va_Pc [.ref (ad 100), .int x1, .int x2, .int x3, .int x4, .int x5] (World E ad shl h)) (QcI E ad shl r.1 r.2) 0 0 (bsA E) :=
  met_of (L0 := [some (.ref (ad 100)), some (.int x1), some (.int x2), some (.int x3), some (.int x4), some (.int x5), none, none, none]) rfl rfl rfl (Nat.le_of_ble_eq_true rfl) (fun _ _ _ _ _ _ _ X => w_X9_outlasts Hb0 X rfl hg)
abbrev rm_X9_contest : Room := { frames := 6, cells := 0, slots := 0, locals := 132 }
theorem hdd_X9_contest : yX9_contest.cls = RX9 ∧ yX9_contest.cls ≠ "java/lang/invoke/MethodHandle" ∧ yX9_contest.cls ≠ "java/lang/invoke/VarHandle" ∧ (parseMethodDescriptor yX9_contest.desc).map (fun d => d.parameters.length) = some 3 := ⟨rfl, by decide +kernel, by decide +kernel, by decide +kernel⟩
set_option maxRecDepth 100000 in
set_option maxHeartbeats 4000000 in
theorem w_X9_contest {x1 : Int32} {x2 : Int32} {x3 : Int32} {r : Int × Hp} (Hb0 : At_X9 shl) (X : Cx E p s m args meth c cX9_contest RX9 10 (some .int)) (hQ : Q = MQ below (QcI E ad shl r.1 r.2) args s 0 0 (bsA E)) (hG : g_X9_contest x1.toInt x2.toInt x3.toInt h = some r) : Ev E ad shl p l e rm_X9_contest s m args below meth c 0 0 Q 10 h 0 [some (.ref (ad 100)), some (.int x1), some (.int x2), some (.int x3), none, none, none, none, none, none] [] := by
  unfold g_X9_contest at hG
  refine r_iload_n (pc := 0) X dX9_contest_0 rfl rfl ?_
  refine r_i2l (pc := 1) X dX9_contest_1 hG (fun z1 hG => ?_)
  refine r_lconst (pc := 2) X dX9_contest_2 hG (by decide) (fun z2 hG => ?_)
  refine r_lconst (pc := 3) X dX9_contest_3 hG (by decide) (fun z3 hG => ?_)
  refine r_cP (pc := 4) hG (fun _ hg => runS X dX9_contest_4 (c_X9_in  hg) mM_X9_52 mS_X9_in mN_X9 mK_X9_in rfl rfl hdd_X9_in ⟨(Nat.le_of_ble_eq_true rfl), (Nat.le_of_ble_eq_true rfl)⟩ rfl rfl (Nat.le_of_ble_eq_true rfl) ⟨(Nat.le_of_ble_eq_true rfl), (Nat.le_of_ble_eq_true rfl)⟩) (fun z4 hG => ?_)
  refine r_join hG (fun _ => Ev E ad shl p l e rm_X9_contest s m args below meth c 0 0 Q 10 h 24 [none, none, none, none, none, none, none, none, none, none] []) (fun a5 hG => ?_) (fun j6 Hj6 hG => ?_)
  · skip
    refine r_bipush (pc := 24) X dX9_contest_24 hG (by decide) (fun z7 hG => ?_)
    exact r_iretW (pc := 26) X dX9_contest_26 hQ hG
  refine r_if_eq (pc := 7) X dX9_contest_7 (tgt := 24) (by decide) hG (fun hG => ?_) (fun hG => ?_)
  · skip
    exact r_mask [false, false, false, false, false, false, false, false, false, false] rfl (Hj6 _ hG)
  · skip
    refine r_iload_n (pc := 10) X dX9_contest_10 rfl rfl ?_
    refine r_cP (pc := 11) hG (fun _ hg => runS X dX9_contest_11 (c_X9_areSeeds  hg) mM_X9_504 mS_X9_areSeeds mN_X9 mK_X9_areSeeds rfl rfl hdd_X9_areSeeds ⟨(Nat.le_of_ble_eq_true rfl), (Nat.le_of_ble_eq_true rfl)⟩ rfl rfl (Nat.le_of_ble_eq_true rfl) ⟨(Nat.le_of_ble_eq_true rfl), (Nat.le_of_ble_eq_true rfl)⟩) (fun z8 hG => ?_)
    refine r_if_eq (pc := 14) X dX9_contest_14 (tgt := 24) (by decide) hG (fun hG => ?_) (fun hG => ?_)
    · skip
      exact r_mask [false, false, false, false, false, false, false, false, false, false] rfl (Hj6 _ hG)
    · skip
      refine r_iload_n (pc := 17) X dX9_contest_17 rfl rfl ?_
      refine r_cP (pc := 18) hG (fun _ hg => runS X dX9_contest_18 (c_X9_areMinutes  hg) mM_X9_475 mS_X9_areMinutes mN_X9 mK_X9_areMinutes rfl rfl hdd_X9_areMinutes ⟨(Nat.le_of_ble_eq_true rfl), (Nat.le_of_ble_eq_true rfl)⟩ rfl rfl (Nat.le_of_ble_eq_true rfl) ⟨(Nat.le_of_ble_eq_true rfl), (Nat.le_of_ble_eq_true rfl)⟩) (fun z9 hG => ?_)
      refine r_if_ne (pc := 21) X dX9_contest_21 (tgt := 27) (by decide) hG (fun hG => ?_) (fun hG => ?_)
      · skip
        refine r_aload_n (pc := 27) X dX9_contest_27 rfl rfl ?_
        refine r_getI (pc := 28) X (at_X9_o Hb0) rfl mU_X9 (k := 12) (by decide) rfl mF_X9_311 dX9_contest_28 hG (fun z10 hG => ?_)
        refine r_if_ne (pc := 31) X dX9_contest_31 (tgt := 37) (by decide) hG (fun hG => ?_) (fun hG => ?_)
        · skip
          refine r_iconst (pc := 37) X dX9_contest_37 hG rfl (fun z11 hG => ?_)
          refine r_istore (pc := 38) (L' := [some (.ref (ad 100)), some (.int x1), some (.int x2), some (.int x3), some (.int z11), none, none, none, none, none]) X dX9_contest_38 (by decide) rfl rfl ?_
          refine r_iconst (pc := 40) X dX9_contest_40 hG rfl (fun z12 hG => ?_)
          refine r_istore (pc := 41) (L' := [some (.ref (ad 100)), some (.int x1), some (.int x2), some (.int x3), some (.int z11), some (.int z12), none, none, none, none]) X dX9_contest_41 (by decide) rfl rfl ?_
          refine r_iconst (pc := 43) X dX9_contest_43 hG rfl (fun z13 hG => ?_)
          refine r_istore (pc := 44) (L' := [some (.ref (ad 100)), some (.int x1), some (.int x2), some (.int x3), some (.int z11), some (.int z12), some (.int z13), none, none, none]) X dX9_contest_44 (by decide) rfl rfl ?_
          refine r_mask [true, true, true, true, true, true, true, false, false, false] rfl (r_loop (fun q14 => ∀ (y16 : Int32) (y17 : Int32) (y18 : Int32) (h19 : Hp), q14 = (y16.toInt, y17.toInt, y18.toInt, h19) → Ev E ad shl p l e rm_X9_contest s m args below meth c 0 0 Q 10 h19 46 [some (.ref (ad 100)), some (.int x1), some (.int x2), some (.int x3), some (.int y16), some (.int y17), some (.int y18), none, none, none] []) (fun l15 Hl15 q14 hG => ?_) FU _ hG z11 z12 z13 h rfl)
          intro y16 y17 y18 h19 ha; have ha := ha.symm; subst ha
          unfold g_X9_contest_l15 at hG
          refine r_iload (pc := 46) X dX9_contest_46 rfl ?_
          refine r_aload_n (pc := 48) X dX9_contest_48 rfl rfl ?_
          refine r_getI (pc := 49) X (at_X9_o Hb0) rfl mU_X9 (k := 41) (by decide) rfl mF_X9_225 dX9_contest_49 hG (fun z20 hG => ?_)
          refine r_icmp_ge (pc := 52) X dX9_contest_52 (tgt := 161) (by decide) hG (fun hG => ?_) (fun hG => ?_)
          · skip
            refine r_iload (pc := 161) X dX9_contest_161 rfl ?_
            exact r_iretW (pc := 163) X dX9_contest_163 hQ hG
          · skip
            refine r_iconst (pc := 55) X dX9_contest_55 hG rfl (fun z21 hG => ?_)
            refine r_istore (pc := 56) (L' := [some (.ref (ad 100)), some (.int x1), some (.int x2), some (.int x3), some (.int y16), some (.int y17), some (.int y18), some (.int z21), none, none]) X dX9_contest_56 (by decide) rfl rfl ?_
            refine r_iconst (pc := 58) X dX9_contest_58 hG rfl (fun z22 hG => ?_)
            refine r_istore (pc := 59) (L' := [some (.ref (ad 100)), some (.int x1), some (.int x2), some (.int x3), some (.int y16), some (.int y17), some (.int y18), some (.int z21), some (.int z22), none]) X dX9_contest_59 (by decide) rfl rfl ?_
            refine r_join hG (fun a23 => ∀ (y25 : Int32) (h26 : Hp), a23 = (y25.toInt, h26) → Ev E ad shl p l e rm_X9_contest s m args below meth c 0 0 Q 10 h26 137 [some (.ref (ad 100)), some (.int x1), some (.int x2), some (.int x3), some (.int y16), some (.int y17), some (.int y18), some (.int y25), none, none] []) (fun a23 hG => ?_) (fun j24 Hj24 hG => ?_)
            · skip
              intro y25 h26 ha; have ha := ha.symm; subst ha
              refine r_iload (pc := 137) X dX9_contest_137 rfl ?_
              refine r_iload (pc := 139) X dX9_contest_139 rfl ?_
              refine r_join hG (fun a27 => ∀ (y29 : Int32) (y30 : Int32), a27 = (y29.toInt, y30.toInt) → Ev E ad shl p l e rm_X9_contest s m args below meth c 0 0 Q 10 h26 155 [some (.ref (ad 100)), some (.int x1), some (.int x2), some (.int x3), some (.int y29), some (.int y30), some (.int y18), none, none, none] []) (fun a27 hG => ?_) (fun j28 Hj28 hG => ?_)
              · skip
                intro y29 y30 ha; have ha := ha.symm; subst ha
                refine r_iinc (pc := 155) (L' := fun z31 => [some (.ref (ad 100)), some (.int x1), some (.int x2), some (.int x3), some (.int y29), some (.int y30), some (.int z31), none, none, none]) X dX9_contest_155 (by decide) rfl rfl (by decide) (fun _ => rfl) hG (fun z31 hG => ?_)
                refine r_goto (pc := 158) X dX9_contest_158 (tgt := 46) (by decide) ?_
                exact r_mask [true, true, true, true, true, true, true, false, false, false] rfl (Hl15 _ hG y29 y30 z31 h26 rfl)
              refine r_icmp_gt (pc := 141) X dX9_contest_141 (tgt := 147) (by decide) hG (fun hG => ?_) (fun hG => ?_)
              · skip
                refine r_iload (pc := 147) X dX9_contest_147 rfl ?_
                refine r_istore (pc := 149) (L' := [some (.ref (ad 100)), some (.int x1), some (.int x2), some (.int x3), some (.int y16), some (.int y25), some (.int y18), some (.int y25), none, none]) X dX9_contest_149 (by decide) rfl rfl ?_
                refine r_iload (pc := 151) X dX9_contest_151 rfl ?_
                refine r_istore (pc := 153) (L' := [some (.ref (ad 100)), some (.int x1), some (.int x2), some (.int x3), some (.int y18), some (.int y25), some (.int y18), some (.int y25), none, none]) X dX9_contest_153 (by decide) rfl rfl ?_
                exact r_mask [true, true, true, true, true, true, true, false, false, false] rfl (Hj28 _ hG y18 y25 rfl)
              · skip
                refine r_goto (pc := 144) X dX9_contest_144 (tgt := 155) (by decide) ?_
                exact r_mask [true, true, true, true, true, true, true, false, false, false] rfl (Hj28 _ hG y16 y17 rfl)
            refine r_mask [true, true, true, true, true, true, true, true, true, false] rfl (r_loop (fun q32 => ∀ (y34 : Int32) (y35 : Int32) (h36 : Hp), q32 = (y34.toInt, y35.toInt, h36) → Ev E ad shl p l e rm_X9_contest s m args below meth c 0 0 Q 10 h36 61 [some (.ref (ad 100)), some (.int x1), some (.int x2), some (.int x3), some (.int y16), some (.int y17), some (.int y18), some (.int y34), some (.int y35), none] []) (fun l33 Hl33 q32 hG => ?_) FU _ hG z21 z22 h19 rfl)
            intro y34 y35 h36 ha; have ha := ha.symm; subst ha
            unfold g_X9_contest_l33 at hG
            refine r_iload (pc := 61) X dX9_contest_61 rfl ?_
            refine r_iload_n (pc := 63) X dX9_contest_63 rfl rfl ?_
            refine r_icmp_gt (pc := 64) X dX9_contest_64 (tgt := 137) (by decide) hG (fun hG => ?_) (fun hG => ?_)
            · skip
              exact r_mask [true, true, true, true, true, true, true, true, false, false] rfl (Hj24 _ hG y34 h36 rfl)
            · skip
              refine r_aload_n (pc := 67) X dX9_contest_67 rfl rfl ?_
              refine r_iload (pc := 68) X dX9_contest_68 rfl ?_
              refine r_iload (pc := 70) X dX9_contest_70 rfl ?_
              refine r_cV (pc := 72) hG (fun _ hg => runV X dX9_contest_72 (c_X9_beginTrial Hb0 hg) mM_X9_478 mI_X9_beginTrial mE_X9_beginTrial mN_X9 mK_X9_beginTrial (at_X9_o Hb0) rfl rfl rfl rfl hdd_X9_beginTrial ⟨(Nat.le_of_ble_eq_true rfl), (Nat.le_of_ble_eq_true rfl)⟩ rfl rfl (Nat.le_of_ble_eq_true rfl) ⟨(Nat.le_of_ble_eq_true rfl), (Nat.le_of_ble_eq_true rfl)⟩) (fun h37 hG => ?_)
              refine r_iconst (pc := 75) X dX9_contest_75 hG rfl (fun z38 hG => ?_)
              refine r_istore (pc := 76) (L' := [some (.ref (ad 100)), some (.int x1), some (.int x2), some (.int x3), some (.int y16), some (.int y17), some (.int y18), some (.int y34), some (.int y35), some (.int z38)]) X dX9_contest_76 (by decide) rfl rfl ?_
              refine r_join hG (fun a39 => ∀ (h41 : Hp), a39 = h41 → Ev E ad shl p l e rm_X9_contest s m args below meth c 0 0 Q 10 h41 98 [some (.ref (ad 100)), some (.int x1), some (.int x2), some (.int x3), some (.int y16), some (.int y17), some (.int y18), some (.int y34), some (.int y35), none] []) (fun a39 hG => ?_) (fun j40 Hj40 hG => ?_)
              · skip
                intro h41 ha; have ha := ha.symm; subst ha
                refine r_iload (pc := 98) X dX9_contest_98 rfl ?_
                refine r_iload_n (pc := 100) X dX9_contest_100 rfl rfl ?_
                refine r_join hG (fun a42 => ∀ (y44 : Int32), a42 = y44.toInt → Ev E ad shl p l e rm_X9_contest s m args below meth c 0 0 Q 10 h41 128 [some (.ref (ad 100)), some (.int x1), some (.int x2), some (.int x3), some (.int y16), some (.int y17), some (.int y18), none, some (.int y35), none] [.int y44, .int y34]) (fun a42 hG => ?_) (fun j43 Hj43 hG => ?_)
                · skip
                  intro y44 ha; have ha := ha.symm; subst ha
                  refine r_iadd (pc := 128) X dX9_contest_128 hG (fun z45 hG => ?_)
                  refine r_istore (pc := 129) (L' := [some (.ref (ad 100)), some (.int x1), some (.int x2), some (.int x3), some (.int y16), some (.int y17), some (.int y18), some (.int z45), some (.int y35), none]) X dX9_contest_129 (by decide) rfl rfl ?_
                  refine r_iinc (pc := 131) (L' := fun z46 => [some (.ref (ad 100)), some (.int x1), some (.int x2), some (.int x3), some (.int y16), some (.int y17), some (.int y18), some (.int z45), some (.int z46), none]) X dX9_contest_131 (by decide) rfl rfl (by decide) (fun _ => rfl) hG (fun z46 hG => ?_)
                  refine r_goto (pc := 134) X dX9_contest_134 (tgt := 61) (by decide) ?_
                  exact r_mask [true, true, true, true, true, true, true, true, true, false] rfl (Hl33 _ hG z45 z46 h41 rfl)
                refine r_if_ne (pc := 101) X dX9_contest_101 (tgt := 113) (by decide) hG (fun hG => ?_) (fun hG => ?_)
                · skip
                  refine r_aload_n (pc := 113) X dX9_contest_113 rfl rfl ?_
                  refine r_getC (pc := 114) X (at_X9_o Hb0) rfl mU_X9 (k := 47) (by decide) (q := 122) rfl mF_X9_272 dX9_contest_114 ?_
                  refine r_iconst (pc := 117) X dX9_contest_117 hG rfl (fun z47 hG => ?_)
                  refine r_aload_n (pc := 118) X dX9_contest_118 rfl rfl ?_
                  refine r_getC (pc := 119) X (at_X9_o Hb0) rfl mU_X9 (k := 47) (by decide) (q := 122) rfl mF_X9_272 dX9_contest_119 ?_
                  refine r_sipush (pc := 122) X dX9_contest_122 hG (by decide) (fun z48 hG => ?_)
                  refine r_iald (pc := 125) X (at_X9_trial Hb0) dX9_contest_125 hG (fun z49 hG => ?_)
                  refine r_iadd (pc := 126) X dX9_contest_126 hG (fun z50 hG => ?_)
                  refine r_iald (pc := 127) X (at_X9_trial Hb0) dX9_contest_127 hG (fun z51 hG => ?_)
                  exact r_mask [true, true, true, true, true, true, true, false, true, false] rfl (Hj43 _ hG z51 rfl)
                · skip
                  refine r_aload_n (pc := 104) X dX9_contest_104 rfl rfl ?_
                  refine r_iconst (pc := 105) X dX9_contest_105 hG rfl (fun z52 hG => ?_)
                  refine r_iload_n (pc := 106) X dX9_contest_106 rfl rfl ?_
                  refine r_cP (pc := 107) hG (fun _ hg => runV X dX9_contest_107 (c_X9_lastOf Hb0 hg) mM_X9_482 mI_X9_lastOf mE_X9_lastOf mN_X9 mK_X9_lastOf (at_X9_o Hb0) rfl rfl rfl rfl hdd_X9_lastOf ⟨(Nat.le_of_ble_eq_true rfl), (Nat.le_of_ble_eq_true rfl)⟩ rfl rfl (Nat.le_of_ble_eq_true rfl) ⟨(Nat.le_of_ble_eq_true rfl), (Nat.le_of_ble_eq_true rfl)⟩) (fun z53 hG => ?_)
                  refine r_goto (pc := 110) X dX9_contest_110 (tgt := 128) (by decide) ?_
                  exact r_mask [true, true, true, true, true, true, true, false, true, false] rfl (Hj43 _ hG z53 rfl)
              refine r_mask [true, true, true, true, true, true, true, true, true, true] rfl (r_loop (fun q54 => ∀ (y56 : Int32) (h57 : Hp), q54 = (y56.toInt, h57) → Ev E ad shl p l e rm_X9_contest s m args below meth c 0 0 Q 10 h57 78 [some (.ref (ad 100)), some (.int x1), some (.int x2), some (.int x3), some (.int y16), some (.int y17), some (.int y18), some (.int y34), some (.int y35), some (.int y56)] []) (fun l55 Hl55 q54 hG => ?_) FU _ hG z38 h37 rfl)
              intro y56 h57 ha; have ha := ha.symm; subst ha
              unfold g_X9_contest_l55 at hG
              refine r_iload (pc := 78) X dX9_contest_78 rfl ?_
              refine r_iload_n (pc := 80) X dX9_contest_80 rfl rfl ?_
              refine r_icmp_ge (pc := 81) X dX9_contest_81 (tgt := 98) (by decide) hG (fun hG => ?_) (fun hG => ?_)
              · skip
                exact r_mask [true, true, true, true, true, true, true, true, true, false] rfl (Hj40 _ hG h57 rfl)
              · skip
                refine r_aload_n (pc := 84) X dX9_contest_84 rfl rfl ?_
                refine r_aload_n (pc := 85) X dX9_contest_85 rfl rfl ?_
                refine r_getC (pc := 86) X (at_X9_o Hb0) rfl mU_X9 (k := 47) (by decide) (q := 122) rfl mF_X9_272 dX9_contest_86 ?_
                refine r_cV (pc := 89) hG (fun _ hg => runV X dX9_contest_89 (c_X9_minute Hb0 (at_X9_trial Hb0) hg) mM_X9_422 mI_X9_minute mE_X9_minute mN_X9 mK_X9_minute (at_X9_o Hb0) rfl rfl rfl rfl hdd_X9_minute ⟨(Nat.le_of_ble_eq_true rfl), (Nat.le_of_ble_eq_true rfl)⟩ rfl rfl (Nat.le_of_ble_eq_true rfl) ⟨(Nat.le_of_ble_eq_true rfl), (Nat.le_of_ble_eq_true rfl)⟩) (fun h58 hG => ?_)
                refine r_iinc (pc := 92) (L' := fun z59 => [some (.ref (ad 100)), some (.int x1), some (.int x2), some (.int x3), some (.int y16), some (.int y17), some (.int y18), some (.int y34), some (.int y35), some (.int z59)]) X dX9_contest_92 (by decide) rfl rfl (by decide) (fun _ => rfl) hG (fun z59 hG => ?_)
                refine r_goto (pc := 95) X dX9_contest_95 (tgt := 78) (by decide) ?_
                exact r_mask [true, true, true, true, true, true, true, true, true, true] rfl (Hl55 _ hG z59 h58 rfl)
        · skip
          refine r_bipush (pc := 34) X dX9_contest_34 hG (by decide) (fun z60 hG => ?_)
          exact r_iretW (pc := 36) X dX9_contest_36 hQ hG
      · skip
        exact r_mask [false, false, false, false, false, false, false, false, false, false] rfl (Hj6 _ hG)
theorem c_X9_contest {x1 : Int32} {x2 : Int32} {x3 : Int32} {r : Int × Hp} (Hb0 : At_X9 shl) (hg : g_X9_contest x1.toInt x2.toInt x3.toInt h = some r) : Met l yX9_contest (wsM yX9_contest cX9_contest 10 (some .int)) rm_X9_contest (va_Pc [.ref (ad 100), .int x1, .int x2, .int x3] (World E ad shl h)) (QcI E ad shl r.1 r.2) 0 0 (bsA E) :=
  met_of (L0 := [some (.ref (ad 100)), some (.int x1), some (.int x2), some (.int x3), none, none, none, none, none, none]) rfl rfl rfl (Nat.le_of_ble_eq_true rfl) (fun _ _ _ _ _ _ _ X => w_X9_contest Hb0 X rfl hg)
abbrev rm_X9_which : Room := { frames := 4, cells := 0, slots := 0, locals := 90 }
theorem hdd_X9_which : yX9_which.cls = RX9 ∧ yX9_which.cls ≠ "java/lang/invoke/MethodHandle" ∧ yX9_which.cls ≠ "java/lang/invoke/VarHandle" ∧ (parseMethodDescriptor yX9_which.desc).map (fun d => d.parameters.length) = some 0 := ⟨rfl, by decide +kernel, by decide +kernel, by decide +kernel⟩
set_option maxRecDepth 100000 in
set_option maxHeartbeats 4000000 in
theorem w_X9_which  {r : Int × Hp} (Hb0 : At_X9 shl) (X : Cx E p s m args meth c cX9_which RX9 6 (some .int)) (hQ : Q = MQ below (QcI E ad shl r.1 r.2) args s 0 0 (bsA E)) (hG : g_X9_which h = some r) : Ev E ad shl p l e rm_X9_which s m args below meth c 0 0 Q 6 h 0 [some (.ref (ad 100)), none, none, none, none, none] [] := by
  unfold g_X9_which at hG
  refine r_aload_n (pc := 0) X dX9_which_0 rfl rfl ?_
  refine r_getI (pc := 1) X (at_X9_o Hb0) rfl mU_X9 (k := 1) (by decide) rfl mF_X9_67 dX9_which_1 hG (fun z1 hG => ?_)
  refine r_istore_n (pc := 4) (L' := [some (.ref (ad 100)), some (.int z1), none, none, none, none]) X dX9_which_4 rfl (by decide) rfl rfl ?_
  refine r_aload_n (pc := 5) X dX9_which_5 rfl rfl ?_
  refine r_iconst (pc := 6) X dX9_which_6 hG rfl (fun z2 hG => ?_)
  refine r_putI (pc := 7) X (at_X9_o Hb0) rfl mU_X9 (k := 1) (by decide) rfl rfl rfl mF_X9_67 dX9_which_7 hG (fun h3 hG => ?_)
  refine r_iload_n (pc := 10) X dX9_which_10 rfl rfl ?_
  refine r_aload_n (pc := 11) X dX9_which_11 rfl rfl ?_
  refine r_getI (pc := 12) X (at_X9_o Hb0) rfl mU_X9 (k := 10) (by decide) rfl mF_X9_201 dX9_which_12 hG (fun z4 hG => ?_)
  refine r_aload_n (pc := 15) X dX9_which_15 rfl rfl ?_
  refine r_getI (pc := 16) X (at_X9_o Hb0) rfl mU_X9 (k := 11) (by decide) rfl mF_X9_204 dX9_which_16 hG (fun z5 hG => ?_)
  refine r_imul (pc := 19) X dX9_which_19 hG (fun z6 hG => ?_)
  refine r_icmp_eq (pc := 20) X dX9_which_20 (tgt := 25) (by decide) hG (fun hG => ?_) (fun hG => ?_)
  · skip
    refine r_iconst (pc := 25) X dX9_which_25 hG rfl (fun z7 hG => ?_)
    refine r_istore_n (pc := 26) (L' := [some (.ref (ad 100)), some (.int z1), some (.int z7), none, none, none]) X dX9_which_26 rfl (by decide) rfl rfl ?_
    refine r_join hG (fun _ => Ev E ad shl p l e rm_X9_which s m args below meth c 0 0 Q 6 h3 59 [some (.ref (ad 100)), some (.int z1), none, none, none, none] []) (fun a8 hG => ?_) (fun j9 Hj9 hG => ?_)
    · skip
      refine r_iconst (pc := 59) X dX9_which_59 hG rfl (fun z10 hG => ?_)
      refine r_istore_n (pc := 60) (L' := [some (.ref (ad 100)), some (.int z1), some (.int z10), none, none, none]) X dX9_which_60 rfl (by decide) rfl rfl ?_
      refine r_iconst (pc := 61) X dX9_which_61 hG rfl (fun z11 hG => ?_)
      refine r_istore_n (pc := 62) (L' := [some (.ref (ad 100)), some (.int z1), some (.int z10), some (.int z11), none, none]) X dX9_which_62 rfl (by decide) rfl rfl ?_
      refine r_mask [true, true, true, true, false, false] rfl (r_loop (fun q12 => ∀ (y14 : Int32) (y15 : Int32) (h16 : Hp), q12 = (y14.toInt, y15.toInt, h16) → Ev E ad shl p l e rm_X9_which s m args below meth c 0 0 Q 6 h16 63 [some (.ref (ad 100)), some (.int z1), some (.int y14), some (.int y15), none, none] []) (fun l13 Hl13 q12 hG => ?_) FU _ hG z10 z11 h3 rfl)
      intro y14 y15 h16 ha; have ha := ha.symm; subst ha
      unfold g_X9_which_l13 at hG
      refine r_iload_n (pc := 63) X dX9_which_63 rfl rfl ?_
      refine r_aload_n (pc := 64) X dX9_which_64 rfl rfl ?_
      refine r_getI (pc := 65) X (at_X9_o Hb0) rfl mU_X9 (k := 28) (by decide) rfl mF_X9_334 dX9_which_65 hG (fun z17 hG => ?_)
      refine r_icmp_ge (pc := 68) X dX9_which_68 (tgt := 186) (by decide) hG (fun hG => ?_) (fun hG => ?_)
      · skip
        refine r_iload_n (pc := 186) X dX9_which_186 rfl rfl ?_
        exact r_iretW (pc := 187) X dX9_which_187 hQ hG
      · skip
        refine r_aload_n (pc := 71) X dX9_which_71 rfl rfl ?_
        refine r_iconst (pc := 72) X dX9_which_72 hG rfl (fun z18 hG => ?_)
        refine r_iconst (pc := 73) X dX9_which_73 hG rfl (fun z19 hG => ?_)
        refine r_cV (pc := 74) hG (fun _ hg => runV X dX9_which_74 (c_X9_beginTrial Hb0 hg) mM_X9_478 mI_X9_beginTrial mE_X9_beginTrial mN_X9 mK_X9_beginTrial (at_X9_o Hb0) rfl rfl rfl rfl hdd_X9_beginTrial ⟨(Nat.le_of_ble_eq_true rfl), (Nat.le_of_ble_eq_true rfl)⟩ rfl rfl (Nat.le_of_ble_eq_true rfl) ⟨(Nat.le_of_ble_eq_true rfl), (Nat.le_of_ble_eq_true rfl)⟩) (fun h20 hG => ?_)
        refine r_aload_n (pc := 77) X dX9_which_77 rfl rfl ?_
        refine r_aload_n (pc := 78) X dX9_which_78 rfl rfl ?_
        refine r_getC (pc := 79) X (at_X9_o Hb0) rfl mU_X9 (k := 47) (by decide) (q := 122) rfl mF_X9_272 dX9_which_79 ?_
        refine r_aload_n (pc := 82) X dX9_which_82 rfl rfl ?_
        refine r_getC (pc := 83) X (at_X9_o Hb0) rfl mU_X9 (k := 31) (by decide) (q := 110) rfl mF_X9_256 dX9_which_83 ?_
        refine r_iconst (pc := 86) X dX9_which_86 hG rfl (fun z21 hG => ?_)
        refine r_iload_n (pc := 87) X dX9_which_87 rfl rfl ?_
        refine r_imul (pc := 88) X dX9_which_88 hG (fun z22 hG => ?_)
        refine r_iconst (pc := 89) X dX9_which_89 hG rfl (fun z23 hG => ?_)
        refine r_iadd (pc := 90) X dX9_which_90 hG (fun z24 hG => ?_)
        refine r_iald (pc := 91) X (at_X9_wave Hb0) dX9_which_91 hG (fun z25 hG => ?_)
        refine r_aload_n (pc := 92) X dX9_which_92 rfl rfl ?_
        refine r_getC (pc := 93) X (at_X9_o Hb0) rfl mU_X9 (k := 31) (by decide) (q := 110) rfl mF_X9_256 dX9_which_93 ?_
        refine r_iconst (pc := 96) X dX9_which_96 hG rfl (fun z26 hG => ?_)
        refine r_iload_n (pc := 97) X dX9_which_97 rfl rfl ?_
        refine r_imul (pc := 98) X dX9_which_98 hG (fun z27 hG => ?_)
        refine r_iconst (pc := 99) X dX9_which_99 hG rfl (fun z28 hG => ?_)
        refine r_iadd (pc := 100) X dX9_which_100 hG (fun z29 hG => ?_)
        refine r_iald (pc := 101) X (at_X9_wave Hb0) dX9_which_101 hG (fun z30 hG => ?_)
        refine r_cV (pc := 102) hG (fun _ hg => runV X dX9_which_102 (c_X9_waveComes Hb0 (at_X9_trial Hb0) hg) mM_X9_385 mI_X9_waveComes mE_X9_waveComes mN_X9 mK_X9_waveComes (at_X9_o Hb0) rfl rfl rfl rfl hdd_X9_waveComes ⟨(Nat.le_of_ble_eq_true rfl), (Nat.le_of_ble_eq_true rfl)⟩ rfl rfl (Nat.le_of_ble_eq_true rfl) ⟨(Nat.le_of_ble_eq_true rfl), (Nat.le_of_ble_eq_true rfl)⟩) (fun h31 hG => ?_)
        refine r_aload_n (pc := 105) X dX9_which_105 rfl rfl ?_
        refine r_aload_n (pc := 106) X dX9_which_106 rfl rfl ?_
        refine r_getC (pc := 107) X (at_X9_o Hb0) rfl mU_X9 (k := 47) (by decide) (q := 122) rfl mF_X9_272 dX9_which_107 ?_
        refine r_cV (pc := 110) hG (fun _ hg => runV X dX9_which_110 (c_X9_slides Hb0 (at_X9_trial Hb0) hg) mM_X9_405 mI_X9_slides mE_X9_slides mN_X9 mK_X9_slides (at_X9_o Hb0) rfl rfl rfl rfl hdd_X9_slides ⟨(Nat.le_of_ble_eq_true rfl), (Nat.le_of_ble_eq_true rfl)⟩ rfl rfl (Nat.le_of_ble_eq_true rfl) ⟨(Nat.le_of_ble_eq_true rfl), (Nat.le_of_ble_eq_true rfl)⟩) (fun h32 hG => ?_)
        refine r_iconst (pc := 113) X dX9_which_113 hG rfl (fun z33 hG => ?_)
        refine r_istore (pc := 114) (L' := [some (.ref (ad 100)), some (.int z1), some (.int y14), some (.int y15), some (.int z33), none]) X dX9_which_114 (by decide) rfl rfl ?_
        refine r_iconst (pc := 116) X dX9_which_116 hG rfl (fun z34 hG => ?_)
        refine r_istore (pc := 117) (L' := [some (.ref (ad 100)), some (.int z1), some (.int y14), some (.int y15), some (.int z33), some (.int z34)]) X dX9_which_117 (by decide) rfl rfl ?_
        refine r_join hG (fun a35 => ∀ (y37 : Int32), a35 = y37.toInt → Ev E ad shl p l e rm_X9_which s m args below meth c 0 0 Q 6 h32 165 [some (.ref (ad 100)), some (.int z1), some (.int y14), some (.int y15), some (.int y37), none] []) (fun a35 hG => ?_) (fun j36 Hj36 hG => ?_)
        · skip
          intro y37 ha; have ha := ha.symm; subst ha
          refine r_iload_n (pc := 165) X dX9_which_165 rfl rfl ?_
          refine r_iload (pc := 166) X dX9_which_166 rfl ?_
          refine r_join hG (fun a38 => ∀ (y40 : Int32), a38 = y40.toInt → Ev E ad shl p l e rm_X9_which s m args below meth c 0 0 Q 6 h32 178 [some (.ref (ad 100)), some (.int z1), none, some (.int y15), none, none] [.int y40, .int y14]) (fun a38 hG => ?_) (fun j39 Hj39 hG => ?_)
          · skip
            intro y40 ha; have ha := ha.symm; subst ha
            refine r_ior (pc := 178) X dX9_which_178 hG (fun z41 hG => ?_)
            refine r_istore_n (pc := 179) (L' := [some (.ref (ad 100)), some (.int z1), some (.int z41), some (.int y15), none, none]) X dX9_which_179 rfl (by decide) rfl rfl ?_
            refine r_iinc (pc := 180) (L' := fun z42 => [some (.ref (ad 100)), some (.int z1), some (.int z41), some (.int z42), none, none]) X dX9_which_180 (by decide) rfl rfl (by decide) (fun _ => rfl) hG (fun z42 hG => ?_)
            refine r_goto (pc := 183) X dX9_which_183 (tgt := 63) (by decide) ?_
            exact r_mask [true, true, true, true, false, false] rfl (Hl13 _ hG z41 z42 h32 rfl)
          refine r_if_eq (pc := 168) X dX9_which_168 (tgt := 177) (by decide) hG (fun hG => ?_) (fun hG => ?_)
          · skip
            refine r_iconst (pc := 177) X dX9_which_177 hG rfl (fun z43 hG => ?_)
            exact r_mask [true, true, false, true, false, false] rfl (Hj39 _ hG z43 rfl)
          · skip
            refine r_iconst (pc := 171) X dX9_which_171 hG rfl (fun z44 hG => ?_)
            refine r_iload_n (pc := 172) X dX9_which_172 rfl rfl ?_
            refine r_ishl (pc := 173) X dX9_which_173 hG (fun z45 hG => ?_)
            refine r_goto (pc := 174) X dX9_which_174 (tgt := 178) (by decide) ?_
            exact r_mask [true, true, false, true, false, false] rfl (Hj39 _ hG z45 rfl)
        refine r_mask [true, true, true, true, true, true] rfl (r_loop (fun q46 => ∀ (y48 : Int32) (y49 : Int32), q46 = (y48.toInt, y49.toInt) → Ev E ad shl p l e rm_X9_which s m args below meth c 0 0 Q 6 h32 119 [some (.ref (ad 100)), some (.int z1), some (.int y14), some (.int y15), some (.int y48), some (.int y49)] []) (fun l47 Hl47 q46 hG => ?_) FU _ hG z33 z34 rfl)
        intro y48 y49 ha; have ha := ha.symm; subst ha
        unfold g_X9_which_l47 at hG
        refine r_iload (pc := 119) X dX9_which_119 rfl ?_
        refine r_iload_n (pc := 121) X dX9_which_121 rfl rfl ?_
        refine r_icmp_ge (pc := 122) X dX9_which_122 (tgt := 165) (by decide) hG (fun hG => ?_) (fun hG => ?_)
        · skip
          exact r_mask [true, true, true, true, true, false] rfl (Hj36 _ hG y48 rfl)
        · skip
          refine r_iload (pc := 125) X dX9_which_125 rfl ?_
          refine r_join hG (fun a50 => ∀ (y52 : Int32), a50 = y52.toInt → Ev E ad shl p l e rm_X9_which s m args below meth c 0 0 Q 6 h32 157 [some (.ref (ad 100)), some (.int z1), some (.int y14), some (.int y15), none, some (.int y49)] [.int y52]) (fun a50 hG => ?_) (fun j51 Hj51 hG => ?_)
          · skip
            intro y52 ha; have ha := ha.symm; subst ha
            refine r_istore (pc := 157) (L' := [some (.ref (ad 100)), some (.int z1), some (.int y14), some (.int y15), some (.int y52), some (.int y49)]) X dX9_which_157 (by decide) rfl rfl ?_
            refine r_iinc (pc := 159) (L' := fun z53 => [some (.ref (ad 100)), some (.int z1), some (.int y14), some (.int y15), some (.int y52), some (.int z53)]) X dX9_which_159 (by decide) rfl rfl (by decide) (fun _ => rfl) hG (fun z53 hG => ?_)
            refine r_goto (pc := 162) X dX9_which_162 (tgt := 119) (by decide) ?_
            exact r_mask [true, true, true, true, true, true] rfl (Hl47 _ hG y52 z53 rfl)
          refine r_join hG (fun _ => Ev E ad shl p l e rm_X9_which s m args below meth c 0 0 Q 6 h32 156 [some (.ref (ad 100)), some (.int z1), some (.int y14), some (.int y15), none, some (.int y49)] []) (fun a54 hG => ?_) (fun j55 Hj55 hG => ?_)
          · skip
            refine r_iconst (pc := 156) X dX9_which_156 hG rfl (fun z56 hG => ?_)
            exact r_mask [true, true, true, true, false, true] rfl (Hj51 _ hG z56 rfl)
          refine r_if_eq (pc := 127) X dX9_which_127 (tgt := 156) (by decide) hG (fun hG => ?_) (fun hG => ?_)
          · skip
            exact r_mask [true, true, true, true, false, true] rfl (Hj55 _ hG)
          · skip
            refine r_aload_n (pc := 130) X dX9_which_130 rfl rfl ?_
            refine r_getC (pc := 131) X (at_X9_o Hb0) rfl mU_X9 (k := 47) (by decide) (q := 122) rfl mF_X9_272 dX9_which_131 ?_
            refine r_iconst (pc := 134) X dX9_which_134 hG rfl (fun z57 hG => ?_)
            refine r_iload (pc := 135) X dX9_which_135 rfl ?_
            refine r_iadd (pc := 137) X dX9_which_137 hG (fun z58 hG => ?_)
            refine r_iald (pc := 138) X (at_X9_trial Hb0) dX9_which_138 hG (fun z59 hG => ?_)
            refine r_aload_n (pc := 139) X dX9_which_139 rfl rfl ?_
            refine r_getC (pc := 140) X (at_X9_o Hb0) rfl mU_X9 (k := 0) (by decide) (q := 101) rfl mF_X9_16 dX9_which_140 ?_
            refine r_iload (pc := 143) X dX9_which_143 rfl ?_
            refine r_bald (pc := 145) X (at_X9_tape Hb0) dX9_which_145 hG (fun z60 hG => ?_)
            refine r_bipush (pc := 146) X dX9_which_146 hG (by decide) (fun z61 hG => ?_)
            refine r_isub (pc := 148) X dX9_which_148 hG (fun z62 hG => ?_)
            refine r_icmp_ne (pc := 149) X dX9_which_149 (tgt := 156) (by decide) hG (fun hG => ?_) (fun hG => ?_)
            · skip
              exact r_mask [true, true, true, true, false, true] rfl (Hj55 _ hG)
            · skip
              refine r_iconst (pc := 152) X dX9_which_152 hG rfl (fun z63 hG => ?_)
              refine r_goto (pc := 153) X dX9_which_153 (tgt := 157) (by decide) ?_
              exact r_mask [true, true, true, true, false, true] rfl (Hj51 _ hG z63 rfl)
    refine r_mask [true, true, true, false, false, false] rfl (r_loop (fun q64 => ∀ (y66 : Int32), q64 = y66.toInt → Ev E ad shl p l e rm_X9_which s m args below meth c 0 0 Q 6 h3 27 [some (.ref (ad 100)), some (.int z1), some (.int y66), none, none, none] []) (fun l65 Hl65 q64 hG => ?_) FU _ hG z7 rfl)
    intro y66 ha; have ha := ha.symm; subst ha
    unfold g_X9_which_l65 at hG
    refine r_iload_n (pc := 27) X dX9_which_27 rfl rfl ?_
    refine r_iload_n (pc := 28) X dX9_which_28 rfl rfl ?_
    refine r_icmp_ge (pc := 29) X dX9_which_29 (tgt := 59) (by decide) hG (fun hG => ?_) (fun hG => ?_)
    · skip
      exact r_mask [true, true, false, false, false, false] rfl (Hj9 _ hG)
    · skip
      refine r_aload_n (pc := 32) X dX9_which_32 rfl rfl ?_
      refine r_getC (pc := 33) X (at_X9_o Hb0) rfl mU_X9 (k := 0) (by decide) (q := 101) rfl mF_X9_16 dX9_which_33 ?_
      refine r_iload_n (pc := 36) X dX9_which_36 rfl rfl ?_
      refine r_bald (pc := 37) X (at_X9_tape Hb0) dX9_which_37 hG (fun z67 hG => ?_)
      refine r_i2l (pc := 38) X dX9_which_38 hG (fun z68 hG => ?_)
      refine r_ldc2 (pc := 39) X dX9_which_39 mW_X9_510 hG (by decide) (fun z69 hG => ?_)
      refine r_ldc2 (pc := 42) X dX9_which_42 mW_X9_512 hG (by decide) (fun z70 hG => ?_)
      refine r_cP (pc := 45) hG (fun _ hg => runS X dX9_which_45 (c_X9_in  hg) mM_X9_52 mS_X9_in mN_X9 mK_X9_in rfl rfl hdd_X9_in ⟨(Nat.le_of_ble_eq_true rfl), (Nat.le_of_ble_eq_true rfl)⟩ rfl rfl (Nat.le_of_ble_eq_true rfl) ⟨(Nat.le_of_ble_eq_true rfl), (Nat.le_of_ble_eq_true rfl)⟩) (fun z71 hG => ?_)
      refine r_if_ne (pc := 48) X dX9_which_48 (tgt := 53) (by decide) hG (fun hG => ?_) (fun hG => ?_)
      · skip
        refine r_iinc (pc := 53) (L' := fun z72 => [some (.ref (ad 100)), some (.int z1), some (.int z72), none, none, none]) X dX9_which_53 (by decide) rfl rfl (by decide) (fun _ => rfl) hG (fun z72 hG => ?_)
        refine r_goto (pc := 56) X dX9_which_56 (tgt := 27) (by decide) ?_
        exact r_mask [true, true, true, false, false, false] rfl (Hl65 _ hG z72 rfl)
      · skip
        refine r_iconst (pc := 51) X dX9_which_51 hG rfl (fun z73 hG => ?_)
        exact r_iretW (pc := 52) X dX9_which_52 hQ hG
  · skip
    refine r_iconst (pc := 23) X dX9_which_23 hG rfl (fun z74 hG => ?_)
    exact r_iretW (pc := 24) X dX9_which_24 hQ hG
theorem c_X9_which  {r : Int × Hp} (Hb0 : At_X9 shl) (hg : g_X9_which h = some r) : Met l yX9_which (wsM yX9_which cX9_which 6 (some .int)) rm_X9_which (va_Pc [.ref (ad 100)] (World E ad shl h)) (QcI E ad shl r.1 r.2) 0 0 (bsA E) :=
  met_of (L0 := [some (.ref (ad 100)), none, none, none, none, none]) rfl rfl rfl (Nat.le_of_ble_eq_true rfl) (fun _ _ _ _ _ _ _ X => w_X9_which Hb0 X rfl hg)
abbrev rm_X9_joinLeft : Room := { frames := 1, cells := 0, slots := 0, locals := 21 }
theorem hdd_X9_joinLeft : yX9_joinLeft.cls ≠ "java/lang/invoke/MethodHandle" ∧ yX9_joinLeft.cls ≠ "java/lang/invoke/VarHandle" ∧ (parseMethodDescriptor yX9_joinLeft.desc).map (fun d => d.parameters.length) = some 2 := ⟨by decide +kernel, by decide +kernel, by decide +kernel⟩
set_option maxRecDepth 100000 in
set_option maxHeartbeats 4000000 in
theorem w_X9_joinLeft {x1 : Int32} {x2 : Int32} {r : Int}  (X : Cx E p s m args meth c cX9_joinLeft RX9 2 (some .int)) (hQ : Q = MQ below (QcI E ad shl r h) args s 0 0 (bsA E)) (hG : g_X9_joinLeft x1.toInt x2.toInt = some r) : Ev E ad shl p l e rm_X9_joinLeft s m args below meth c 0 0 Q 2 h 0 [some (.int x1), some (.int x2)] [] := by
  unfold g_X9_joinLeft at hG
  refine r_iconst (pc := 0) X dX9_joinLeft_0 hG rfl (fun z1 hG => ?_)
  refine r_iload_n (pc := 1) X dX9_joinLeft_1 rfl rfl ?_
  refine r_iload_n (pc := 2) X dX9_joinLeft_2 rfl rfl ?_
  refine r_isub (pc := 3) X dX9_joinLeft_3 hG (fun z2 hG => ?_)
  refine r_mmax (pc := 4) X dX9_joinLeft_4 mM_X9_359 (Nat.le_of_ble_eq_true rfl) (Nat.le_of_ble_eq_true rfl) (Nat.le_of_ble_eq_true rfl) (Nat.le_of_ble_eq_true rfl) hG (fun z3 hG => ?_)
  exact r_iretP (pc := 7) X dX9_joinLeft_7 hQ hG
theorem c_X9_joinLeft {x1 : Int32} {x2 : Int32} {r : Int}  (hg : g_X9_joinLeft x1.toInt x2.toInt = some r) : Met l yX9_joinLeft (wsM yX9_joinLeft cX9_joinLeft 2 (some .int)) rm_X9_joinLeft (va_Pc [.int x1, .int x2] (World E ad shl h)) (QcI E ad shl r h) 0 0 (bsA E) :=
  met_of (L0 := [some (.int x1), some (.int x2)]) rfl rfl rfl (Nat.le_of_ble_eq_true rfl) (fun _ _ _ _ _ _ _ X => w_X9_joinLeft  X rfl hg)
abbrev rm_X9_join : Room := { frames := 2, cells := 0, slots := 0, locals := 42 }
theorem hdd_X9_join : yX9_join.cls = RX9 ∧ yX9_join.cls ≠ "java/lang/invoke/MethodHandle" ∧ yX9_join.cls ≠ "java/lang/invoke/VarHandle" ∧ (parseMethodDescriptor yX9_join.desc).map (fun d => d.parameters.length) = some 6 := ⟨rfl, by decide +kernel, by decide +kernel, by decide +kernel⟩
set_option maxRecDepth 100000 in
set_option maxHeartbeats 4000000 in
theorem w_X9_join {x1 : Int32} {x2 : Int32} {x3 : Int32} {x4 : Int32} {x5 : Int32} {x6 : Int32} {r : Int} (Hb0 : At_X9 shl) (X : Cx E p s m args meth c cX9_join RX9 14 (some .int)) (hQ : Q = MQ below (QcI E ad shl r h) args s 0 0 (bsA E)) (hG : g_X9_join x1.toInt x2.toInt x3.toInt x4.toInt x5.toInt x6.toInt = some r) : Ev E ad shl p l e rm_X9_join s m args below meth c 0 0 Q 14 h 0 [some (.ref (ad 100)), some (.int x1), some (.int x2), some (.int x3), some (.int x4), some (.int x5), some (.int x6), none, none, none, none, none, none, none] [] := by
  unfold g_X9_join at hG
  refine r_iload_n (pc := 0) X dX9_join_0 rfl rfl ?_
  refine r_i2l (pc := 1) X dX9_join_1 hG (fun z1 hG => ?_)
  refine r_lconst (pc := 2) X dX9_join_2 hG (by decide) (fun z2 hG => ?_)
  refine r_ldc2 (pc := 3) X dX9_join_3 mW_X9_473 hG (by decide) (fun z3 hG => ?_)
  refine r_cP (pc := 6) hG (fun _ hg => runS X dX9_join_6 (c_X9_in  hg) mM_X9_52 mS_X9_in mN_X9 mK_X9_in rfl rfl hdd_X9_in ⟨(Nat.le_of_ble_eq_true rfl), (Nat.le_of_ble_eq_true rfl)⟩ rfl rfl (Nat.le_of_ble_eq_true rfl) ⟨(Nat.le_of_ble_eq_true rfl), (Nat.le_of_ble_eq_true rfl)⟩) (fun z4 hG => ?_)
  refine r_join hG (fun _ => Ev E ad shl p l e rm_X9_join s m args below meth c 0 0 Q 14 h 73 [none, none, none, none, none, none, none, none, none, none, none, none, none, none] []) (fun a5 hG => ?_) (fun j6 Hj6 hG => ?_)
  · skip
    refine r_bipush (pc := 73) X dX9_join_73 hG (by decide) (fun z7 hG => ?_)
    exact r_iretP (pc := 75) X dX9_join_75 hQ hG
  refine r_if_eq (pc := 9) X dX9_join_9 (tgt := 73) (by decide) hG (fun hG => ?_) (fun hG => ?_)
  · skip
    exact r_mask [false, false, false, false, false, false, false, false, false, false, false, false, false, false] rfl (Hj6 _ hG)
  · skip
    refine r_iload_n (pc := 12) X dX9_join_12 rfl rfl ?_
    refine r_i2l (pc := 13) X dX9_join_13 hG (fun z8 hG => ?_)
    refine r_lconst (pc := 14) X dX9_join_14 hG (by decide) (fun z9 hG => ?_)
    refine r_ldc2 (pc := 15) X dX9_join_15 mW_X9_473 hG (by decide) (fun z10 hG => ?_)
    refine r_cP (pc := 18) hG (fun _ hg => runS X dX9_join_18 (c_X9_in  hg) mM_X9_52 mS_X9_in mN_X9 mK_X9_in rfl rfl hdd_X9_in ⟨(Nat.le_of_ble_eq_true rfl), (Nat.le_of_ble_eq_true rfl)⟩ rfl rfl (Nat.le_of_ble_eq_true rfl) ⟨(Nat.le_of_ble_eq_true rfl), (Nat.le_of_ble_eq_true rfl)⟩) (fun z11 hG => ?_)
    refine r_if_eq (pc := 21) X dX9_join_21 (tgt := 73) (by decide) hG (fun hG => ?_) (fun hG => ?_)
    · skip
      exact r_mask [false, false, false, false, false, false, false, false, false, false, false, false, false, false] rfl (Hj6 _ hG)
    · skip
      refine r_iload_n (pc := 24) X dX9_join_24 rfl rfl ?_
      refine r_i2l (pc := 25) X dX9_join_25 hG (fun z12 hG => ?_)
      refine r_lconst (pc := 26) X dX9_join_26 hG (by decide) (fun z13 hG => ?_)
      refine r_ldc2 (pc := 27) X dX9_join_27 mW_X9_514 hG (by decide) (fun z14 hG => ?_)
      refine r_cP (pc := 30) hG (fun _ hg => runS X dX9_join_30 (c_X9_in  hg) mM_X9_52 mS_X9_in mN_X9 mK_X9_in rfl rfl hdd_X9_in ⟨(Nat.le_of_ble_eq_true rfl), (Nat.le_of_ble_eq_true rfl)⟩ rfl rfl (Nat.le_of_ble_eq_true rfl) ⟨(Nat.le_of_ble_eq_true rfl), (Nat.le_of_ble_eq_true rfl)⟩) (fun z15 hG => ?_)
      refine r_if_eq (pc := 33) X dX9_join_33 (tgt := 73) (by decide) hG (fun hG => ?_) (fun hG => ?_)
      · skip
        exact r_mask [false, false, false, false, false, false, false, false, false, false, false, false, false, false] rfl (Hj6 _ hG)
      · skip
        refine r_iload (pc := 36) X dX9_join_36 rfl ?_
        refine r_i2l (pc := 38) X dX9_join_38 hG (fun z16 hG => ?_)
        refine r_lconst (pc := 39) X dX9_join_39 hG (by decide) (fun z17 hG => ?_)
        refine r_ldc2 (pc := 40) X dX9_join_40 mW_X9_514 hG (by decide) (fun z18 hG => ?_)
        refine r_cP (pc := 43) hG (fun _ hg => runS X dX9_join_43 (c_X9_in  hg) mM_X9_52 mS_X9_in mN_X9 mK_X9_in rfl rfl hdd_X9_in ⟨(Nat.le_of_ble_eq_true rfl), (Nat.le_of_ble_eq_true rfl)⟩ rfl rfl (Nat.le_of_ble_eq_true rfl) ⟨(Nat.le_of_ble_eq_true rfl), (Nat.le_of_ble_eq_true rfl)⟩) (fun z19 hG => ?_)
        refine r_if_eq (pc := 46) X dX9_join_46 (tgt := 73) (by decide) hG (fun hG => ?_) (fun hG => ?_)
        · skip
          exact r_mask [false, false, false, false, false, false, false, false, false, false, false, false, false, false] rfl (Hj6 _ hG)
        · skip
          refine r_iload (pc := 49) X dX9_join_49 rfl ?_
          refine r_i2l (pc := 51) X dX9_join_51 hG (fun z20 hG => ?_)
          refine r_lconst (pc := 52) X dX9_join_52 hG (by decide) (fun z21 hG => ?_)
          refine r_ldc2 (pc := 53) X dX9_join_53 mW_X9_516 hG (by decide) (fun z22 hG => ?_)
          refine r_cP (pc := 56) hG (fun _ hg => runS X dX9_join_56 (c_X9_in  hg) mM_X9_52 mS_X9_in mN_X9 mK_X9_in rfl rfl hdd_X9_in ⟨(Nat.le_of_ble_eq_true rfl), (Nat.le_of_ble_eq_true rfl)⟩ rfl rfl (Nat.le_of_ble_eq_true rfl) ⟨(Nat.le_of_ble_eq_true rfl), (Nat.le_of_ble_eq_true rfl)⟩) (fun z23 hG => ?_)
          refine r_if_eq (pc := 59) X dX9_join_59 (tgt := 73) (by decide) hG (fun hG => ?_) (fun hG => ?_)
          · skip
            exact r_mask [false, false, false, false, false, false, false, false, false, false, false, false, false, false] rfl (Hj6 _ hG)
          · skip
            refine r_iload (pc := 62) X dX9_join_62 rfl ?_
            refine r_i2l (pc := 64) X dX9_join_64 hG (fun z24 hG => ?_)
            refine r_lconst (pc := 65) X dX9_join_65 hG (by decide) (fun z25 hG => ?_)
            refine r_lconst (pc := 66) X dX9_join_66 hG (by decide) (fun z26 hG => ?_)
            refine r_cP (pc := 67) hG (fun _ hg => runS X dX9_join_67 (c_X9_in  hg) mM_X9_52 mS_X9_in mN_X9 mK_X9_in rfl rfl hdd_X9_in ⟨(Nat.le_of_ble_eq_true rfl), (Nat.le_of_ble_eq_true rfl)⟩ rfl rfl (Nat.le_of_ble_eq_true rfl) ⟨(Nat.le_of_ble_eq_true rfl), (Nat.le_of_ble_eq_true rfl)⟩) (fun z27 hG => ?_)
            refine r_if_ne (pc := 70) X dX9_join_70 (tgt := 76) (by decide) hG (fun hG => ?_) (fun hG => ?_)
            · skip
              refine r_iload_n (pc := 76) X dX9_join_76 rfl rfl ?_
              refine r_istore (pc := 77) (L' := [some (.ref (ad 100)), some (.int x1), some (.int x2), some (.int x3), some (.int x4), some (.int x5), some (.int x6), some (.int x1), none, none, none, none, none, none]) X dX9_join_77 (by decide) rfl rfl ?_
              refine r_iload_n (pc := 79) X dX9_join_79 rfl rfl ?_
              refine r_iload_n (pc := 80) X dX9_join_80 rfl rfl ?_
              refine r_isub (pc := 81) X dX9_join_81 hG (fun z28 hG => ?_)
              refine r_istore (pc := 82) (L' := [some (.ref (ad 100)), some (.int x1), some (.int x2), some (.int x3), some (.int x4), some (.int x5), some (.int x6), some (.int x1), some (.int z28), none, none, none, none, none]) X dX9_join_82 (by decide) rfl rfl ?_
              refine r_join hG (fun a29 => ∀ (y31 : Int32), a29 = y31.toInt → Ev E ad shl p l e rm_X9_join s m args below meth c 0 0 Q 14 h 107 [none, none, none, some (.int x3), some (.int x4), some (.int x5), some (.int x6), some (.int y31), none, none, none, none, none, none] []) (fun a29 hG => ?_) (fun j30 Hj30 hG => ?_)
              · skip
                intro y31 ha; have ha := ha.symm; subst ha
                refine r_iconst (pc := 107) X dX9_join_107 hG rfl (fun z32 hG => ?_)
                refine r_istore (pc := 108) (L' := [none, none, none, some (.int x3), some (.int x4), some (.int x5), some (.int x6), some (.int y31), some (.int z32), none, none, none, none, none]) X dX9_join_108 (by decide) rfl rfl ?_
                refine r_iconst (pc := 110) X dX9_join_110 hG rfl (fun z33 hG => ?_)
                refine r_istore (pc := 111) (L' := [none, none, none, some (.int x3), some (.int x4), some (.int x5), some (.int x6), some (.int y31), some (.int z32), some (.int z33), none, none, none, none]) X dX9_join_111 (by decide) rfl rfl ?_
                refine r_iconst (pc := 113) X dX9_join_113 hG rfl (fun z34 hG => ?_)
                refine r_istore (pc := 114) (L' := [none, none, none, some (.int x3), some (.int x4), some (.int x5), some (.int x6), some (.int y31), some (.int z32), some (.int z33), some (.int z34), none, none, none]) X dX9_join_114 (by decide) rfl rfl ?_
                refine r_join hG (fun a35 => ∀ (y37 : Int32) (y38 : Int32), a35 = (y37.toInt, y38.toInt) → Ev E ad shl p l e rm_X9_join s m args below meth c 0 0 Q 14 h 202 [none, none, none, none, none, none, some (.int x6), none, some (.int y37), some (.int y38), none, none, none, none] []) (fun a35 hG => ?_) (fun j36 Hj36 hG => ?_)
                · skip
                  intro y37 y38 ha; have ha := ha.symm; subst ha
                  refine r_iload (pc := 202) X dX9_join_202 rfl ?_
                  refine r_join hG (fun a39 => ∀ (y41 : Int32), a39 = y41.toInt → Ev E ad shl p l e rm_X9_join s m args below meth c 0 0 Q 14 h 214 [none, none, none, none, none, none, none, none, none, none, none, none, none, none] [.int y41]) (fun a39 hG => ?_) (fun j40 Hj40 hG => ?_)
                  · skip
                    intro y41 ha; have ha := ha.symm; subst ha
                    exact r_iretP (pc := 214) X dX9_join_214 hQ hG
                  refine r_if_ne (pc := 204) X dX9_join_204 (tgt := 212) (by decide) hG (fun hG => ?_) (fun hG => ?_)
                  · skip
                    refine r_iload (pc := 212) X dX9_join_212 rfl ?_
                    exact r_mask [false, false, false, false, false, false, false, false, false, false, false, false, false, false] rfl (Hj40 _ hG y38 rfl)
                  · skip
                    refine r_iload (pc := 207) X dX9_join_207 rfl ?_
                    refine r_goto (pc := 209) X dX9_join_209 (tgt := 214) (by decide) ?_
                    exact r_mask [false, false, false, false, false, false, false, false, false, false, false, false, false, false] rfl (Hj40 _ hG y37 rfl)
                refine r_mask [false, false, false, true, true, true, true, true, true, true, true, false, false, false] rfl (r_loop (fun q42 => ∀ (y44 : Int32) (y45 : Int32) (y46 : Int32), q42 = (y44.toInt, y45.toInt, y46.toInt) → Ev E ad shl p l e rm_X9_join s m args below meth c 0 0 Q 14 h 116 [none, none, none, some (.int x3), some (.int x4), some (.int x5), some (.int x6), some (.int y31), some (.int y44), some (.int y45), some (.int y46), none, none, none] []) (fun l43 Hl43 q42 hG => ?_) FU _ hG z32 z33 z34 rfl)
                intro y44 y45 y46 ha; have ha := ha.symm; subst ha
                unfold g_X9_join_l43 at hG
                refine r_iload (pc := 116) X dX9_join_116 rfl ?_
                refine r_bipush (pc := 118) X dX9_join_118 hG (by decide) (fun z47 hG => ?_)
                refine r_icmp_gt (pc := 120) X dX9_join_120 (tgt := 202) (by decide) hG (fun hG => ?_) (fun hG => ?_)
                · skip
                  exact r_mask [false, false, false, false, false, false, true, false, true, true, false, false, false, false] rfl (Hj36 _ hG y44 y45 rfl)
                · skip
                  refine r_iload (pc := 123) X dX9_join_123 rfl ?_
                  refine r_iload_n (pc := 125) X dX9_join_125 rfl rfl ?_
                  refine r_iload (pc := 126) X dX9_join_126 rfl ?_
                  refine r_imul (pc := 128) X dX9_join_128 hG (fun z48 hG => ?_)
                  refine r_cP (pc := 129) hG (fun _ hg => runS X dX9_join_129 (c_X9_joinLeft  hg) mM_X9_518 mS_X9_joinLeft mN_X9 mK_X9_joinLeft rfl rfl hdd_X9_joinLeft ⟨(Nat.le_of_ble_eq_true rfl), (Nat.le_of_ble_eq_true rfl)⟩ rfl rfl (Nat.le_of_ble_eq_true rfl) ⟨(Nat.le_of_ble_eq_true rfl), (Nat.le_of_ble_eq_true rfl)⟩) (fun z49 hG => ?_)
                  refine r_iload (pc := 132) X dX9_join_132 rfl ?_
                  refine r_iload (pc := 134) X dX9_join_134 rfl ?_
                  refine r_iload (pc := 136) X dX9_join_136 rfl ?_
                  refine r_imul (pc := 138) X dX9_join_138 hG (fun z50 hG => ?_)
                  refine r_cP (pc := 139) hG (fun _ hg => runS X dX9_join_139 (c_X9_joinLeft  hg) mM_X9_518 mS_X9_joinLeft mN_X9 mK_X9_joinLeft rfl rfl hdd_X9_joinLeft ⟨(Nat.le_of_ble_eq_true rfl), (Nat.le_of_ble_eq_true rfl)⟩ rfl rfl (Nat.le_of_ble_eq_true rfl) ⟨(Nat.le_of_ble_eq_true rfl), (Nat.le_of_ble_eq_true rfl)⟩) (fun z51 hG => ?_)
                  refine r_iadd (pc := 142) X dX9_join_142 hG (fun z52 hG => ?_)
                  refine r_istore (pc := 143) (L' := [none, none, none, some (.int x3), some (.int x4), some (.int x5), some (.int x6), some (.int y31), some (.int y44), some (.int y45), some (.int y46), some (.int z52), none, none]) X dX9_join_143 (by decide) rfl rfl ?_
                  refine r_iload_n (pc := 145) X dX9_join_145 rfl rfl ?_
                  refine r_iload (pc := 146) X dX9_join_146 rfl ?_
                  refine r_iadd (pc := 148) X dX9_join_148 hG (fun z53 hG => ?_)
                  refine r_iload (pc := 149) X dX9_join_149 rfl ?_
                  refine r_imul (pc := 151) X dX9_join_151 hG (fun z54 hG => ?_)
                  refine r_istore (pc := 152) (L' := [none, none, none, some (.int x3), some (.int x4), some (.int x5), some (.int x6), some (.int y31), some (.int y44), some (.int y45), some (.int y46), some (.int z52), some (.int z54), none]) X dX9_join_152 (by decide) rfl rfl ?_
                  refine r_iload (pc := 154) X dX9_join_154 rfl ?_
                  refine r_bipush (pc := 156) X dX9_join_156 hG (by decide) (fun z55 hG => ?_)
                  refine r_iload (pc := 158) X dX9_join_158 rfl ?_
                  refine r_imul (pc := 160) X dX9_join_160 hG (fun z56 hG => ?_)
                  refine r_iload (pc := 161) X dX9_join_161 rfl ?_
                  refine r_iadd (pc := 163) X dX9_join_163 hG (fun z57 hG => ?_)
                  refine r_iconst (pc := 164) X dX9_join_164 hG rfl (fun z58 hG => ?_)
                  refine r_isub (pc := 165) X dX9_join_165 hG (fun z59 hG => ?_)
                  refine r_iload (pc := 166) X dX9_join_166 rfl ?_
                  refine r_idiv (pc := 168) X dX9_join_168 hG (fun z60 hG => ?_)
                  refine r_iadd (pc := 169) X dX9_join_169 hG (fun z61 hG => ?_)
                  refine r_istore (pc := 170) (L' := [none, none, none, some (.int x3), some (.int x4), some (.int x5), some (.int x6), some (.int y31), some (.int y44), some (.int y45), some (.int y46), some (.int z52), some (.int z54), some (.int z61)]) X dX9_join_170 (by decide) rfl rfl ?_
                  refine r_iload (pc := 172) X dX9_join_172 rfl ?_
                  refine r_iconst (pc := 174) X dX9_join_174 hG rfl (fun z62 hG => ?_)
                  refine r_join hG (fun a63 => ∀ (y65 : Int32) (y66 : Int32), a63 = (y65.toInt, y66.toInt) → Ev E ad shl p l e rm_X9_join s m args below meth c 0 0 Q 14 h 196 [none, none, none, some (.int x3), some (.int x4), some (.int x5), some (.int x6), some (.int y31), some (.int y65), some (.int y66), some (.int y46), none, none, none] []) (fun a63 hG => ?_) (fun j64 Hj64 hG => ?_)
                  · skip
                    intro y65 y66 ha; have ha := ha.symm; subst ha
                    refine r_iinc (pc := 196) (L' := fun z67 => [none, none, none, some (.int x3), some (.int x4), some (.int x5), some (.int x6), some (.int y31), some (.int y65), some (.int y66), some (.int z67), none, none, none]) X dX9_join_196 (by decide) rfl rfl (by decide) (fun _ => rfl) hG (fun z67 hG => ?_)
                    refine r_goto (pc := 199) X dX9_join_199 (tgt := 116) (by decide) ?_
                    exact r_mask [false, false, false, true, true, true, true, true, true, true, true, false, false, false] rfl (Hl43 _ hG y65 y66 z67 rfl)
                  refine r_join hG (fun _ => Ev E ad shl p l e rm_X9_join s m args below meth c 0 0 Q 14 h 188 [none, none, none, some (.int x3), some (.int x4), some (.int x5), some (.int x6), some (.int y31), none, none, some (.int y46), none, none, some (.int z61)] []) (fun a68 hG => ?_) (fun j69 Hj69 hG => ?_)
                  · skip
                    refine r_iload (pc := 188) X dX9_join_188 rfl ?_
                    refine r_istore (pc := 190) (L' := [none, none, none, some (.int x3), some (.int x4), some (.int x5), some (.int x6), some (.int y31), none, some (.int z61), some (.int y46), none, none, some (.int z61)]) X dX9_join_190 (by decide) rfl rfl ?_
                    refine r_iload (pc := 192) X dX9_join_192 rfl ?_
                    refine r_istore (pc := 194) (L' := [none, none, none, some (.int x3), some (.int x4), some (.int x5), some (.int x6), some (.int y31), some (.int y46), some (.int z61), some (.int y46), none, none, some (.int z61)]) X dX9_join_194 (by decide) rfl rfl ?_
                    exact r_mask [false, false, false, true, true, true, true, true, true, true, true, false, false, false] rfl (Hj64 _ hG y46 z61 rfl)
                  refine r_icmp_eq (pc := 175) X dX9_join_175 (tgt := 188) (by decide) hG (fun hG => ?_) (fun hG => ?_)
                  · skip
                    exact r_mask [false, false, false, true, true, true, true, true, false, false, true, false, false, true] rfl (Hj69 _ hG)
                  · skip
                    refine r_iload (pc := 178) X dX9_join_178 rfl ?_
                    refine r_iload (pc := 180) X dX9_join_180 rfl ?_
                    refine r_icmp_lt (pc := 182) X dX9_join_182 (tgt := 188) (by decide) hG (fun hG => ?_) (fun hG => ?_)
                    · skip
                      exact r_mask [false, false, false, true, true, true, true, true, false, false, true, false, false, true] rfl (Hj69 _ hG)
                    · skip
                      refine r_goto (pc := 185) X dX9_join_185 (tgt := 196) (by decide) ?_
                      exact r_mask [false, false, false, true, true, true, true, true, true, true, true, false, false, false] rfl (Hj64 _ hG y44 y45 rfl)
              refine r_mask [false, false, true, true, true, true, true, true, true, false, false, false, false, false] rfl (r_loop (fun q70 => ∀ (y72 : Int32) (y73 : Int32), q70 = (y72.toInt, y73.toInt) → Ev E ad shl p l e rm_X9_join s m args below meth c 0 0 Q 14 h 84 [none, none, some (.int x2), some (.int x3), some (.int x4), some (.int x5), some (.int x6), some (.int y72), some (.int y73), none, none, none, none, none] []) (fun l71 Hl71 q70 hG => ?_) FU _ hG x1 z28 rfl)
              intro y72 y73 ha; have ha := ha.symm; subst ha
              unfold g_X9_join_l71 at hG
              refine r_iload (pc := 84) X dX9_join_84 rfl ?_
              refine r_if_le (pc := 86) X dX9_join_86 (tgt := 107) (by decide) hG (fun hG => ?_) (fun hG => ?_)
              · skip
                exact r_mask [false, false, false, true, true, true, true, true, false, false, false, false, false, false] rfl (Hj30 _ hG y72 rfl)
              · skip
                refine r_iload (pc := 89) X dX9_join_89 rfl ?_
                refine r_iconst (pc := 91) X dX9_join_91 hG rfl (fun z74 hG => ?_)
                refine r_iload (pc := 92) X dX9_join_92 rfl ?_
                refine r_imul (pc := 94) X dX9_join_94 hG (fun z75 hG => ?_)
                refine r_iadd (pc := 95) X dX9_join_95 hG (fun z76 hG => ?_)
                refine r_istore (pc := 96) (L' := [none, none, some (.int x2), some (.int x3), some (.int x4), some (.int x5), some (.int x6), some (.int z76), some (.int y73), none, none, none, none, none]) X dX9_join_96 (by decide) rfl rfl ?_
                refine r_iload (pc := 98) X dX9_join_98 rfl ?_
                refine r_iload_n (pc := 100) X dX9_join_100 rfl rfl ?_
                refine r_isub (pc := 101) X dX9_join_101 hG (fun z77 hG => ?_)
                refine r_istore (pc := 102) (L' := [none, none, some (.int x2), some (.int x3), some (.int x4), some (.int x5), some (.int x6), some (.int z76), some (.int z77), none, none, none, none, none]) X dX9_join_102 (by decide) rfl rfl ?_
                refine r_goto (pc := 104) X dX9_join_104 (tgt := 84) (by decide) ?_
                exact r_mask [false, false, true, true, true, true, true, true, true, false, false, false, false, false] rfl (Hl71 _ hG z76 z77 rfl)
            · skip
              exact r_mask [false, false, false, false, false, false, false, false, false, false, false, false, false, false] rfl (Hj6 _ hG)
theorem c_X9_join {x1 : Int32} {x2 : Int32} {x3 : Int32} {x4 : Int32} {x5 : Int32} {x6 : Int32} {r : Int} (Hb0 : At_X9 shl) (hg : g_X9_join x1.toInt x2.toInt x3.toInt x4.toInt x5.toInt x6.toInt = some r) : Met l yX9_join (wsM yX9_join cX9_join 14 (some .int)) rm_X9_join (va_Pc [.ref (ad 100), .int x1, .int x2, .int x3, .int x4, .int x5, .int x6] (World E ad shl h)) (QcI E ad shl r h) 0 0 (bsA E) :=
  met_of (L0 := [some (.ref (ad 100)), some (.int x1), some (.int x2), some (.int x3), some (.int x4), some (.int x5), some (.int x6), none, none, none, none, none, none, none]) rfl rfl rfl (Nat.le_of_ble_eq_true rfl) (fun _ _ _ _ _ _ _ X => w_X9_join Hb0 X rfl hg)
abbrev rm_X9_count : Room := { frames := 0, cells := 0, slots := 0, locals := 0 }
theorem hdd_X9_count : yX9_count.cls = RX9 ∧ yX9_count.cls ≠ "java/lang/invoke/MethodHandle" ∧ yX9_count.cls ≠ "java/lang/invoke/VarHandle" ∧ (parseMethodDescriptor yX9_count.desc).map (fun d => d.parameters.length) = some 1 := ⟨rfl, by decide +kernel, by decide +kernel, by decide +kernel⟩
set_option maxRecDepth 100000 in
set_option maxHeartbeats 4000000 in
theorem w_X9_count {x1 : Int32} {r : Int} (Hb0 : At_X9 shl) (X : Cx E p s m args meth c cX9_count RX9 2 (some .int)) (hQ : Q = MQ below (QcI E ad shl r h) args s 0 0 (bsA E)) (hG : g_X9_count x1.toInt h = some r) : Ev E ad shl p l e rm_X9_count s m args below meth c 0 0 Q 2 h 0 [some (.ref (ad 100)), some (.int x1)] [] := by
  unfold g_X9_count at hG
  refine r_iload_n (pc := 0) X dX9_count_0 rfl rfl ?_
  refine r_ite hG (fun e1 hG => ?_) (fun e1 hG => ?_)
  · refine r_tsIn (pc := 1) X dX9_count_1 e1 (by decide) (by decide) rfl (tgt := 36) (by decide) ?_
    refine r_aload_n (pc := 36) X dX9_count_36 rfl rfl ?_
    refine r_getI (pc := 37) X (at_X9_o Hb0) rfl mU_X9 (k := 13) (by decide) rfl mF_X9_328 dX9_count_37 hG (fun z2 hG => ?_)
    exact r_iretP (pc := 40) X dX9_count_40 hQ hG
  refine r_ite hG (fun e3 hG => ?_) (fun e3 hG => ?_)
  · refine r_tsIn (pc := 1) X dX9_count_1 e3 (by decide) (by decide) rfl (tgt := 41) (by decide) ?_
    refine r_aload_n (pc := 41) X dX9_count_41 rfl rfl ?_
    refine r_getI (pc := 42) X (at_X9_o Hb0) rfl mU_X9 (k := 29) (by decide) rfl mF_X9_337 dX9_count_42 hG (fun z4 hG => ?_)
    exact r_iretP (pc := 45) X dX9_count_45 hQ hG
  refine r_ite hG (fun e5 hG => ?_) (fun e5 hG => ?_)
  · refine r_tsIn (pc := 1) X dX9_count_1 e5 (by decide) (by decide) rfl (tgt := 46) (by decide) ?_
    refine r_aload_n (pc := 46) X dX9_count_46 rfl rfl ?_
    refine r_getI (pc := 47) X (at_X9_o Hb0) rfl mU_X9 (k := 51) (by decide) rfl mF_X9_456 dX9_count_47 hG (fun z6 hG => ?_)
    exact r_iretP (pc := 50) X dX9_count_50 hQ hG
  refine r_ite hG (fun e7 hG => ?_) (fun e7 hG => ?_)
  · refine r_tsIn (pc := 1) X dX9_count_1 e7 (by decide) (by decide) rfl (tgt := 51) (by decide) ?_
    refine r_aload_n (pc := 51) X dX9_count_51 rfl rfl ?_
    refine r_getI (pc := 52) X (at_X9_o Hb0) rfl mU_X9 (k := 52) (by decide) rfl mF_X9_459 dX9_count_52 hG (fun z8 hG => ?_)
    exact r_iretP (pc := 55) X dX9_count_55 hQ hG
  refine r_ite hG (fun e9 hG => ?_) (fun e9 hG => ?_)
  · refine r_tsIn (pc := 1) X dX9_count_1 e9 (by decide) (by decide) rfl (tgt := 56) (by decide) ?_
    refine r_aload_n (pc := 56) X dX9_count_56 rfl rfl ?_
    refine r_getI (pc := 57) X (at_X9_o Hb0) rfl mU_X9 (k := 1) (by decide) rfl mF_X9_67 dX9_count_57 hG (fun z10 hG => ?_)
    exact r_iretP (pc := 60) X dX9_count_60 hQ hG
  refine r_tsOut (pc := 1) X dX9_count_1 (by omega) (tgt := 61) (by decide) ?_
  refine r_iconst (pc := 61) X dX9_count_61 hG rfl (fun z11 hG => ?_)
  exact r_iretP (pc := 62) X dX9_count_62 hQ hG
theorem c_X9_count {x1 : Int32} {r : Int} (Hb0 : At_X9 shl) (hg : g_X9_count x1.toInt h = some r) : Met l yX9_count (wsM yX9_count cX9_count 2 (some .int)) rm_X9_count (va_Pc [.ref (ad 100), .int x1] (World E ad shl h)) (QcI E ad shl r h) 0 0 (bsA E) :=
  met_of (L0 := [some (.ref (ad 100)), some (.int x1)]) rfl rfl rfl (Nat.le_of_ble_eq_true rfl) (fun _ _ _ _ _ _ _ X => w_X9_count Hb0 X rfl hg)
end WALKS
