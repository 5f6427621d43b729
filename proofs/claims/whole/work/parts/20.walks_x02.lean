section WALKS
variable {E : EnvT} {ad : Nat → Nat} {shl : List Shp} {p : Program} {l : Launch} {e : Env} {s : State} {m : MethodId} {args : Array Value} {below : List Frame} {meth : Method} {c : Code} {Q : State → Prop} {h : Hp}
abbrev rm_X3_runUp : Room := { frames := 2, cells := 0, slots := 0, locals := 51 }
theorem hdd_X3_runUp : yX3_runUp.cls = RX3 ∧ yX3_runUp.cls ≠ "java/lang/invoke/MethodHandle" ∧ yX3_runUp.cls ≠ "java/lang/invoke/VarHandle" ∧ (parseMethodDescriptor yX3_runUp.desc).map (fun d => d.parameters.length) = some 4 := ⟨rfl, by decide +kernel, by decide +kernel, by decide +kernel⟩
set_option maxRecDepth 100000 in
set_option maxHeartbeats 4000000 in
theorem w_X3_runUp {b0 : Nat} {b1 : Nat} {x2 : Int32} {x3 : Int32} {x4 : Int32} {r : Hp} (Hb0 : At_X3 shl b0) (Hb1 : At_X0 shl b1) (X : Cx E p s m args meth c cX3_runUp RX3 6 none) (hQ : Q = MQ below (QcV E ad shl r) args s 0 0 (bsA E)) (hG : g_X3_runUp b0 b1 x2.toInt x3.toInt x4.toInt h = some r) : Ev E ad shl p l e rm_X3_runUp s m args below meth c 0 0 Q 6 h 0 [some (.ref (ad b0)), some (.ref (ad b1)), some (.int x2), some (.int x3), some (.int x4), none] [] := by
  unfold g_X3_runUp at hG
  refine r_aload_n (pc := 0) X dX3_runUp_0 rfl rfl ?_
  refine r_dup (pc := 1) X dX3_runUp_1 rfl ?_
  refine r_getI (pc := 2) X (at_X3_o Hb0) rfl mU_X3 (k := 14) (by decide) rfl mF_X3_77 dX3_runUp_2 hG (fun z1 hG => ?_)
  refine r_iconst (pc := 5) X dX3_runUp_5 hG rfl (fun z2 hG => ?_)
  refine r_iadd (pc := 6) X dX3_runUp_6 hG (fun z3 hG => ?_)
  refine r_putI (pc := 7) X (at_X3_o Hb0) rfl mU_X3 (k := 14) (by decide) rfl rfl rfl mF_X3_77 dX3_runUp_7 hG (fun h4 hG => ?_)
  refine r_iconst (pc := 10) X dX3_runUp_10 hG rfl (fun z5 hG => ?_)
  refine r_istore (pc := 11) (L' := [some (.ref (ad b0)), some (.ref (ad b1)), some (.int x2), some (.int x3), some (.int x4), some (.int z5)]) X dX3_runUp_11 (by decide) rfl rfl ?_
  refine r_mask [true, true, true, true, true, true] rfl (r_loop (fun q6 => ∀ (y8 : Int32) (h9 : Hp), q6 = (y8.toInt, h9) → Ev E ad shl p l e rm_X3_runUp s m args below meth c 0 0 Q 6 h9 13 [some (.ref (ad b0)), some (.ref (ad b1)), some (.int x2), some (.int x3), some (.int x4), some (.int y8)] []) (fun l7 Hl7 q6 hG => ?_) FU _ hG z5 h4 rfl)
  intro y8 h9 ha; have ha := ha.symm; subst ha
  unfold g_X3_runUp_l7 at hG
  refine r_iload (pc := 13) X dX3_runUp_13 rfl ?_
  refine r_aload_n (pc := 15) X dX3_runUp_15 rfl rfl ?_
  refine r_cP (pc := 16) hG (fun _ hg => runV X dX3_runUp_16 (c_X0_columns Hb1 hg) mM_X3_180 mI_X0_columns mE_X0_columns mN_X0 mK_X0_columns (at_X0_o Hb1) rfl rfl rfl rfl hdd_X0_columns ⟨(Nat.le_of_ble_eq_true rfl), (Nat.le_of_ble_eq_true rfl)⟩ rfl rfl (Nat.le_of_ble_eq_true rfl) ⟨(Nat.le_of_ble_eq_true rfl), (Nat.le_of_ble_eq_true rfl)⟩) (fun z10 hG => ?_)
  refine r_icmp_ge (pc := 19) X dX3_runUp_19 (tgt := 39) (by decide) hG (fun hG => ?_) (fun hG => ?_)
  · skip
    exact r_vret (pc := 39) X dX3_runUp_39 hQ hG
  · skip
    refine r_aload_n (pc := 22) X dX3_runUp_22 rfl rfl ?_
    refine r_aload_n (pc := 23) X dX3_runUp_23 rfl rfl ?_
    refine r_iload (pc := 24) X dX3_runUp_24 rfl ?_
    refine r_iload_n (pc := 26) X dX3_runUp_26 rfl rfl ?_
    refine r_iload_n (pc := 27) X dX3_runUp_27 rfl rfl ?_
    refine r_iload (pc := 28) X dX3_runUp_28 rfl ?_
    refine r_cV (pc := 30) hG (fun _ hg => runV X dX3_runUp_30 (c_X3_runUpColumn Hb0 Hb1 hg) mM_X3_183 mI_X3_runUpColumn mE_X3_runUpColumn mN_X3 mK_X3_runUpColumn (at_X3_o Hb0) rfl rfl rfl rfl hdd_X3_runUpColumn ⟨(Nat.le_of_ble_eq_true rfl), (Nat.le_of_ble_eq_true rfl)⟩ rfl rfl (Nat.le_of_ble_eq_true rfl) ⟨(Nat.le_of_ble_eq_true rfl), (Nat.le_of_ble_eq_true rfl)⟩) (fun h11 hG => ?_)
    refine r_iinc (pc := 33) (L' := fun z12 => [some (.ref (ad b0)), some (.ref (ad b1)), some (.int x2), some (.int x3), some (.int x4), some (.int z12)]) X dX3_runUp_33 (by decide) rfl rfl (by decide) (fun _ => rfl) hG (fun z12 hG => ?_)
    refine r_goto (pc := 36) X dX3_runUp_36 (tgt := 13) (by decide) ?_
    exact r_mask [true, true, true, true, true, true] rfl (Hl7 _ hG z12 h11 rfl)
theorem c_X3_runUp {b0 : Nat} {b1 : Nat} {x2 : Int32} {x3 : Int32} {x4 : Int32} {r : Hp} (Hb0 : At_X3 shl b0) (Hb1 : At_X0 shl b1) (hg : g_X3_runUp b0 b1 x2.toInt x3.toInt x4.toInt h = some r) : Met l yX3_runUp (wsM yX3_runUp cX3_runUp 6 none) rm_X3_runUp (va_Pc [.ref (ad b0), .ref (ad b1), .int x2, .int x3, .int x4] (World E ad shl h)) (QcV E ad shl r) 0 0 (bsA E) :=
  met_of (L0 := [some (.ref (ad b0)), some (.ref (ad b1)), some (.int x2), some (.int x3), some (.int x4), none]) rfl rfl rfl (Nat.le_of_ble_eq_true rfl) (fun _ _ _ _ _ _ _ X => w_X3_runUp Hb0 Hb1 X rfl hg)
abbrev rm_X2_isTideMinute : Room := { frames := 0, cells := 0, slots := 0, locals := 0 }
theorem hdd_X2_isTideMinute : yX2_isTideMinute.cls = RX2 ∧ yX2_isTideMinute.cls ≠ "java/lang/invoke/MethodHandle" ∧ yX2_isTideMinute.cls ≠ "java/lang/invoke/VarHandle" ∧ (parseMethodDescriptor yX2_isTideMinute.desc).map (fun d => d.parameters.length) = some 1 := ⟨rfl, by decide +kernel, by decide +kernel, by decide +kernel⟩
set_option maxRecDepth 100000 in
set_option maxHeartbeats 4000000 in
theorem w_X2_isTideMinute {b0 : Nat} {x1 : Int32} {r : Int} (Hb0 : At_X2 shl b0) (X : Cx E p s m args meth c cX2_isTideMinute RX2 3 (some .boolean)) (hQ : Q = MQ below (QcI E ad shl r h) args s 0 0 (bsA E)) (hG : g_X2_isTideMinute b0 x1.toInt h = some r) : Ev E ad shl p l e rm_X2_isTideMinute s m args below meth c 0 0 Q 3 h 0 [some (.ref (ad b0)), some (.int x1), none] [] := by
  unfold g_X2_isTideMinute at hG
  refine r_aload_n (pc := 0) X dX2_isTideMinute_0 rfl rfl ?_
  refine r_getC (pc := 1) X (at_X2_o Hb0) rfl mU_X2 (k := 0) (by decide) (q := (b0 + 1)) rfl mF_X2_11 dX2_isTideMinute_1 ?_
  refine r_iconst (pc := 4) X dX2_isTideMinute_4 hG rfl (fun z1 hG => ?_)
  refine r_iald (pc := 5) X (at_X2_numbers Hb0) dX2_isTideMinute_5 hG (fun z2 hG => ?_)
  refine r_istore_n (pc := 6) (L' := [some (.ref (ad b0)), some (.int x1), some (.int z2)]) X dX2_isTideMinute_6 rfl (by decide) rfl rfl ?_
  refine r_iload_n (pc := 7) X dX2_isTideMinute_7 rfl rfl ?_
  refine r_join hG (fun a3 => ∀ (y5 : Int32), a3 = y5.toInt → Ev E ad shl p l e rm_X2_isTideMinute s m args below meth c 0 0 Q 3 h 49 [none, none, none] [.int y5]) (fun a3 hG => ?_) (fun j4 Hj4 hG => ?_)
  · skip
    intro y5 ha; have ha := ha.symm; subst ha
    exact r_zretP (pc := 49) X dX2_isTideMinute_49 hQ hG
  refine r_join hG (fun _ => Ev E ad shl p l e rm_X2_isTideMinute s m args below meth c 0 0 Q 3 h 48 [none, none, none] []) (fun a6 hG => ?_) (fun j7 Hj7 hG => ?_)
  · skip
    refine r_iconst (pc := 48) X dX2_isTideMinute_48 hG rfl (fun z8 hG => ?_)
    exact r_mask [false, false, false] rfl (Hj4 _ hG z8 rfl)
  refine r_if_le (pc := 8) X dX2_isTideMinute_8 (tgt := 48) (by decide) hG (fun hG => ?_) (fun hG => ?_)
  · skip
    exact r_mask [false, false, false] rfl (Hj7 _ hG)
  · skip
    refine r_iload_n (pc := 11) X dX2_isTideMinute_11 rfl rfl ?_
    refine r_aload_n (pc := 12) X dX2_isTideMinute_12 rfl rfl ?_
    refine r_getC (pc := 13) X (at_X2_o Hb0) rfl mU_X2 (k := 0) (by decide) (q := (b0 + 1)) rfl mF_X2_11 dX2_isTideMinute_13 ?_
    refine r_iconst (pc := 16) X dX2_isTideMinute_16 hG rfl (fun z9 hG => ?_)
    refine r_iald (pc := 17) X (at_X2_numbers Hb0) dX2_isTideMinute_17 hG (fun z10 hG => ?_)
    refine r_icmp_lt (pc := 18) X dX2_isTideMinute_18 (tgt := 48) (by decide) hG (fun hG => ?_) (fun hG => ?_)
    · skip
      exact r_mask [false, false, false] rfl (Hj7 _ hG)
    · skip
      refine r_iload_n (pc := 21) X dX2_isTideMinute_21 rfl rfl ?_
      refine r_aload_n (pc := 22) X dX2_isTideMinute_22 rfl rfl ?_
      refine r_getC (pc := 23) X (at_X2_o Hb0) rfl mU_X2 (k := 0) (by decide) (q := (b0 + 1)) rfl mF_X2_11 dX2_isTideMinute_23 ?_
      refine r_iconst (pc := 26) X dX2_isTideMinute_26 hG rfl (fun z11 hG => ?_)
      refine r_iald (pc := 27) X (at_X2_numbers Hb0) dX2_isTideMinute_27 hG (fun z12 hG => ?_)
      refine r_icmp_gt (pc := 28) X dX2_isTideMinute_28 (tgt := 48) (by decide) hG (fun hG => ?_) (fun hG => ?_)
      · skip
        exact r_mask [false, false, false] rfl (Hj7 _ hG)
      · skip
        refine r_iload_n (pc := 31) X dX2_isTideMinute_31 rfl rfl ?_
        refine r_aload_n (pc := 32) X dX2_isTideMinute_32 rfl rfl ?_
        refine r_getC (pc := 33) X (at_X2_o Hb0) rfl mU_X2 (k := 0) (by decide) (q := (b0 + 1)) rfl mF_X2_11 dX2_isTideMinute_33 ?_
        refine r_iconst (pc := 36) X dX2_isTideMinute_36 hG rfl (fun z13 hG => ?_)
        refine r_iald (pc := 37) X (at_X2_numbers Hb0) dX2_isTideMinute_37 hG (fun z14 hG => ?_)
        refine r_isub (pc := 38) X dX2_isTideMinute_38 hG (fun z15 hG => ?_)
        refine r_iload_n (pc := 39) X dX2_isTideMinute_39 rfl rfl ?_
        refine r_irem (pc := 40) X dX2_isTideMinute_40 hG (fun z16 hG => ?_)
        refine r_if_ne (pc := 41) X dX2_isTideMinute_41 (tgt := 48) (by decide) hG (fun hG => ?_) (fun hG => ?_)
        · skip
          exact r_mask [false, false, false] rfl (Hj7 _ hG)
        · skip
          refine r_iconst (pc := 44) X dX2_isTideMinute_44 hG rfl (fun z17 hG => ?_)
          refine r_goto (pc := 45) X dX2_isTideMinute_45 (tgt := 49) (by decide) ?_
          exact r_mask [false, false, false] rfl (Hj4 _ hG z17 rfl)
theorem c_X2_isTideMinute {b0 : Nat} {x1 : Int32} {r : Int} (Hb0 : At_X2 shl b0) (hg : g_X2_isTideMinute b0 x1.toInt h = some r) : Met l yX2_isTideMinute (wsM yX2_isTideMinute cX2_isTideMinute 3 (some .boolean)) rm_X2_isTideMinute (va_Pc [.ref (ad b0), .int x1] (World E ad shl h)) (QcI E ad shl r h) 0 0 (bsA E) :=
  met_of (L0 := [some (.ref (ad b0)), some (.int x1), none]) rfl rfl rfl (Nat.le_of_ble_eq_true rfl) (fun _ _ _ _ _ _ _ X => w_X2_isTideMinute Hb0 X rfl hg)
abbrev rm_X3_draw : Room := { frames := 0, cells := 0, slots := 0, locals := 0 }
theorem hdd_X3_draw : yX3_draw.cls = RX3 ∧ yX3_draw.cls ≠ "java/lang/invoke/MethodHandle" ∧ yX3_draw.cls ≠ "java/lang/invoke/VarHandle" ∧ (parseMethodDescriptor yX3_draw.desc).map (fun d => d.parameters.length) = some 1 := ⟨rfl, by decide +kernel, by decide +kernel, by decide +kernel⟩
set_option maxRecDepth 100000 in
set_option maxHeartbeats 4000000 in
theorem w_X3_draw {b0 : Nat} {x1 : Int32} {r : Int × Hp} (Hb0 : At_X3 shl b0) (X : Cx E p s m args meth c cX3_draw RX3 2 (some .int)) (hQ : Q = MQ below (QcI E ad shl r.1 r.2) args s 0 0 (bsA E)) (hG : g_X3_draw b0 x1.toInt h = some r) : Ev E ad shl p l e rm_X3_draw s m args below meth c 0 0 Q 2 h 0 [some (.ref (ad b0)), some (.int x1)] [] := by
  unfold g_X3_draw at hG
  refine r_aload_n (pc := 0) X dX3_draw_0 rfl rfl ?_
  refine r_ldc (pc := 1) X dX3_draw_1 mV_X3_178 hG (by decide) (fun z1 hG => ?_)
  refine r_aload_n (pc := 3) X dX3_draw_3 rfl rfl ?_
  refine r_getI (pc := 4) X (at_X3_o Hb0) rfl mU_X3 (k := 8) (by decide) rfl mF_X3_37 dX3_draw_4 hG (fun z2 hG => ?_)
  refine r_imul (pc := 7) X dX3_draw_7 hG (fun z3 hG => ?_)
  refine r_sipush (pc := 8) X dX3_draw_8 hG (by decide) (fun z4 hG => ?_)
  refine r_iadd (pc := 11) X dX3_draw_11 hG (fun z5 hG => ?_)
  refine r_ldc (pc := 12) X dX3_draw_12 mV_X3_179 hG (by decide) (fun z6 hG => ?_)
  refine r_iand (pc := 14) X dX3_draw_14 hG (fun z7 hG => ?_)
  refine r_putI (pc := 15) X (at_X3_o Hb0) rfl mU_X3 (k := 8) (by decide) rfl rfl rfl mF_X3_37 dX3_draw_15 hG (fun h8 hG => ?_)
  refine r_iload_n (pc := 18) X dX3_draw_18 rfl rfl ?_
  refine r_join hG (fun a9 => ∀ (y11 : Int32), a9 = y11.toInt → Ev E ad shl p l e rm_X3_draw s m args below meth c 0 0 Q 2 h8 35 [none, none] [.int y11]) (fun a9 hG => ?_) (fun j10 Hj10 hG => ?_)
  · skip
    intro y11 ha; have ha := ha.symm; subst ha
    exact r_iretW (pc := 35) X dX3_draw_35 hQ hG
  refine r_if_le (pc := 19) X dX3_draw_19 (tgt := 34) (by decide) hG (fun hG => ?_) (fun hG => ?_)
  · skip
    refine r_iconst (pc := 34) X dX3_draw_34 hG rfl (fun z12 hG => ?_)
    exact r_mask [false, false] rfl (Hj10 _ hG z12 rfl)
  · skip
    refine r_aload_n (pc := 22) X dX3_draw_22 rfl rfl ?_
    refine r_getI (pc := 23) X (at_X3_o Hb0) rfl mU_X3 (k := 8) (by decide) rfl mF_X3_37 dX3_draw_23 hG (fun z13 hG => ?_)
    refine r_bipush (pc := 26) X dX3_draw_26 hG (by decide) (fun z14 hG => ?_)
    refine r_ishr (pc := 28) X dX3_draw_28 hG (fun z15 hG => ?_)
    refine r_iload_n (pc := 29) X dX3_draw_29 rfl rfl ?_
    refine r_irem (pc := 30) X dX3_draw_30 hG (fun z16 hG => ?_)
    refine r_goto (pc := 31) X dX3_draw_31 (tgt := 35) (by decide) ?_
    exact r_mask [false, false] rfl (Hj10 _ hG z16 rfl)
theorem c_X3_draw {b0 : Nat} {x1 : Int32} {r : Int × Hp} (Hb0 : At_X3 shl b0) (hg : g_X3_draw b0 x1.toInt h = some r) : Met l yX3_draw (wsM yX3_draw cX3_draw 2 (some .int)) rm_X3_draw (va_Pc [.ref (ad b0), .int x1] (World E ad shl h)) (QcI E ad shl r.1 r.2) 0 0 (bsA E) :=
  met_of (L0 := [some (.ref (ad b0)), some (.int x1)]) rfl rfl rfl (Nat.le_of_ble_eq_true rfl) (fun _ _ _ _ _ _ _ X => w_X3_draw Hb0 X rfl hg)
abbrev rm_X3_drawFrom : Room := { frames := 1, cells := 0, slots := 0, locals := 21 }
theorem hdd_X3_drawFrom : yX3_drawFrom.cls = RX3 ∧ yX3_drawFrom.cls ≠ "java/lang/invoke/MethodHandle" ∧ yX3_drawFrom.cls ≠ "java/lang/invoke/VarHandle" ∧ (parseMethodDescriptor yX3_drawFrom.desc).map (fun d => d.parameters.length) = some 2 := ⟨rfl, by decide +kernel, by decide +kernel, by decide +kernel⟩
set_option maxRecDepth 100000 in
set_option maxHeartbeats 4000000 in
theorem w_X3_drawFrom {b0 : Nat} {x1 : Int32} {x2 : Int32} {r : Int × Hp} (Hb0 : At_X3 shl b0) (X : Cx E p s m args meth c cX3_drawFrom RX3 3 (some .int)) (hQ : Q = MQ below (QcI E ad shl r.1 r.2) args s 0 0 (bsA E)) (hG : g_X3_drawFrom b0 x1.toInt x2.toInt h = some r) : Ev E ad shl p l e rm_X3_drawFrom s m args below meth c 0 0 Q 3 h 0 [some (.ref (ad b0)), some (.int x1), some (.int x2)] [] := by
  unfold g_X3_drawFrom at hG
  refine r_iload_n (pc := 0) X dX3_drawFrom_0 rfl rfl ?_
  refine r_aload_n (pc := 1) X dX3_drawFrom_1 rfl rfl ?_
  refine r_iload_n (pc := 2) X dX3_drawFrom_2 rfl rfl ?_
  refine r_iload_n (pc := 3) X dX3_drawFrom_3 rfl rfl ?_
  refine r_isub (pc := 4) X dX3_drawFrom_4 hG (fun z1 hG => ?_)
  refine r_iconst (pc := 5) X dX3_drawFrom_5 hG rfl (fun z2 hG => ?_)
  refine r_iadd (pc := 6) X dX3_drawFrom_6 hG (fun z3 hG => ?_)
  refine r_cW (pc := 7) hG (fun _ hg => runV X dX3_drawFrom_7 (c_X3_draw Hb0 hg) mM_X3_171 mI_X3_draw mE_X3_draw mN_X3 mK_X3_draw (at_X3_o Hb0) rfl rfl rfl rfl hdd_X3_draw ⟨(Nat.le_of_ble_eq_true rfl), (Nat.le_of_ble_eq_true rfl)⟩ rfl rfl (Nat.le_of_ble_eq_true rfl) ⟨(Nat.le_of_ble_eq_true rfl), (Nat.le_of_ble_eq_true rfl)⟩) (fun z4 h5 hG => ?_)
  refine r_iadd (pc := 10) X dX3_drawFrom_10 hG (fun z6 hG => ?_)
  exact r_iretW (pc := 11) X dX3_drawFrom_11 hQ hG
theorem c_X3_drawFrom {b0 : Nat} {x1 : Int32} {x2 : Int32} {r : Int × Hp} (Hb0 : At_X3 shl b0) (hg : g_X3_drawFrom b0 x1.toInt x2.toInt h = some r) : Met l yX3_drawFrom (wsM yX3_drawFrom cX3_drawFrom 3 (some .int)) rm_X3_drawFrom (va_Pc [.ref (ad b0), .int x1, .int x2] (World E ad shl h)) (QcI E ad shl r.1 r.2) 0 0 (bsA E) :=
  met_of (L0 := [some (.ref (ad b0)), some (.int x1), some (.int x2)]) rfl rfl rfl (Nat.le_of_ble_eq_true rfl) (fun _ _ _ _ _ _ _ X => w_X3_drawFrom Hb0 X rfl hg)
abbrev rm_X3_meetWaves : Room := { frames := 3, cells := 0, slots := 0, locals := 76 }
theorem hdd_X3_meetWaves : yX3_meetWaves.cls = RX3 ∧ yX3_meetWaves.cls ≠ "java/lang/invoke/MethodHandle" ∧ yX3_meetWaves.cls ≠ "java/lang/invoke/VarHandle" ∧ (parseMethodDescriptor yX3_meetWaves.desc).map (fun d => d.parameters.length) = some 2 := ⟨rfl, by decide +kernel, by decide +kernel, by decide +kernel⟩
set_option maxRecDepth 100000 in
set_option maxHeartbeats 4000000 in
theorem w_X3_meetWaves {b0 : Nat} {b1 : Nat} {b2 : Nat} {r : Hp} (Hb0 : At_X3 shl b0) (Hb1 : At_X0 shl b1) (Hb2 : At_X2 shl b2) (X : Cx E p s m args meth c cX3_meetWaves RX3 5 none) (hQ : Q = MQ below (QcV E ad shl r) args s 0 0 (bsA E)) (hG : g_X3_meetWaves b0 b1 b2 h = some r) : Ev E ad shl p l e rm_X3_meetWaves s m args below meth c 0 0 Q 5 h 0 [some (.ref (ad b0)), some (.ref (ad b1)), some (.ref (ad b2)), none, none] [] := by
  unfold g_X3_meetWaves at hG
  refine r_iconst (pc := 0) X dX3_meetWaves_0 hG rfl (fun z1 hG => ?_)
  refine r_istore_n (pc := 1) (L' := [some (.ref (ad b0)), some (.ref (ad b1)), some (.ref (ad b2)), some (.int z1), none]) X dX3_meetWaves_1 rfl (by decide) rfl rfl ?_
  refine r_join hG (fun a2 => ∀ (h4 : Hp), a2 = h4 → Ev E ad shl p l e rm_X3_meetWaves s m args below meth c 0 0 Q 5 h4 56 [some (.ref (ad b0)), some (.ref (ad b1)), some (.ref (ad b2)), none, none] []) (fun a2 hG => ?_) (fun j3 Hj3 hG => ?_)
  · skip
    intro h4 ha; have ha := ha.symm; subst ha
    refine r_aload_n (pc := 56) X dX3_meetWaves_56 rfl rfl ?_
    refine r_aload_n (pc := 57) X dX3_meetWaves_57 rfl rfl ?_
    refine r_getI (pc := 58) X (at_X3_o Hb0) rfl mU_X3 (k := 9) (by decide) rfl mF_X3_62 dX3_meetWaves_58 hG (fun z5 hG => ?_)
    refine r_cP (pc := 61) hG (fun _ hg => runV X dX3_meetWaves_61 (c_X2_isTideMinute Hb2 hg) mM_X3_168 mI_X2_isTideMinute mE_X2_isTideMinute mN_X2 mK_X2_isTideMinute (at_X2_o Hb2) rfl rfl rfl rfl hdd_X2_isTideMinute ⟨(Nat.le_of_ble_eq_true rfl), (Nat.le_of_ble_eq_true rfl)⟩ rfl rfl (Nat.le_of_ble_eq_true rfl) ⟨(Nat.le_of_ble_eq_true rfl), (Nat.le_of_ble_eq_true rfl)⟩) (fun z6 hG => ?_)
    refine r_join hG (fun a7 => ∀ (h9 : Hp), a7 = h9 → Ev E ad shl p l e rm_X3_meetWaves s m args below meth c 0 0 Q 5 h9 131 [none, none, none, none, none] []) (fun a7 hG => ?_) (fun j8 Hj8 hG => ?_)
    · skip
      intro h9 ha; have ha := ha.symm; subst ha
      exact r_vret (pc := 131) X dX3_meetWaves_131 hQ hG
    refine r_if_eq (pc := 64) X dX3_meetWaves_64 (tgt := 131) (by decide) hG (fun hG => ?_) (fun hG => ?_)
    · skip
      exact r_mask [false, false, false, false, false] rfl (Hj8 _ hG h4 rfl)
    · skip
      refine r_aload_n (pc := 67) X dX3_meetWaves_67 rfl rfl ?_
      refine r_bipush (pc := 68) X dX3_meetWaves_68 hG (by decide) (fun z10 hG => ?_)
      refine r_cW (pc := 70) hG (fun _ hg => runV X dX3_meetWaves_70 (c_X3_draw Hb0 hg) mM_X3_171 mI_X3_draw mE_X3_draw mN_X3 mK_X3_draw (at_X3_o Hb0) rfl rfl rfl rfl hdd_X3_draw ⟨(Nat.le_of_ble_eq_true rfl), (Nat.le_of_ble_eq_true rfl)⟩ rfl rfl (Nat.le_of_ble_eq_true rfl) ⟨(Nat.le_of_ble_eq_true rfl), (Nat.le_of_ble_eq_true rfl)⟩) (fun z11 h12 hG => ?_)
      refine r_aload_n (pc := 73) X dX3_meetWaves_73 rfl rfl ?_
      refine r_getC (pc := 74) X (at_X2_o Hb2) rfl mU_X2 (k := 0) (by decide) (q := (b2 + 1)) rfl mF_X3_174 dX3_meetWaves_74 ?_
      refine r_iconst (pc := 77) X dX3_meetWaves_77 hG rfl (fun z13 hG => ?_)
      refine r_iald (pc := 78) X (at_X2_numbers Hb2) dX3_meetWaves_78 hG (fun z14 hG => ?_)
      refine r_icmp_ge (pc := 79) X dX3_meetWaves_79 (tgt := 131) (by decide) hG (fun hG => ?_) (fun hG => ?_)
      · skip
        exact r_mask [false, false, false, false, false] rfl (Hj8 _ hG h12 rfl)
      · skip
        refine r_aload_n (pc := 82) X dX3_meetWaves_82 rfl rfl ?_
        refine r_aload_n (pc := 83) X dX3_meetWaves_83 rfl rfl ?_
        refine r_getC (pc := 84) X (at_X2_o Hb2) rfl mU_X2 (k := 0) (by decide) (q := (b2 + 1)) rfl mF_X3_174 dX3_meetWaves_84 ?_
        refine r_iconst (pc := 87) X dX3_meetWaves_87 hG rfl (fun z15 hG => ?_)
        refine r_iald (pc := 88) X (at_X2_numbers Hb2) dX3_meetWaves_88 hG (fun z16 hG => ?_)
        refine r_aload_n (pc := 89) X dX3_meetWaves_89 rfl rfl ?_
        refine r_getC (pc := 90) X (at_X2_o Hb2) rfl mU_X2 (k := 0) (by decide) (q := (b2 + 1)) rfl mF_X3_174 dX3_meetWaves_90 ?_
        refine r_iconst (pc := 93) X dX3_meetWaves_93 hG rfl (fun z17 hG => ?_)
        refine r_iald (pc := 94) X (at_X2_numbers Hb2) dX3_meetWaves_94 hG (fun z18 hG => ?_)
        refine r_cW (pc := 95) hG (fun _ hg => runV X dX3_meetWaves_95 (c_X3_drawFrom Hb0 hg) mM_X3_175 mI_X3_drawFrom mE_X3_drawFrom mN_X3 mK_X3_drawFrom (at_X3_o Hb0) rfl rfl rfl rfl hdd_X3_drawFrom ⟨(Nat.le_of_ble_eq_true rfl), (Nat.le_of_ble_eq_true rfl)⟩ rfl rfl (Nat.le_of_ble_eq_true rfl) ⟨(Nat.le_of_ble_eq_true rfl), (Nat.le_of_ble_eq_true rfl)⟩) (fun z19 h20 hG => ?_)
        refine r_istore_n (pc := 98) (L' := [some (.ref (ad b0)), some (.ref (ad b1)), some (.ref (ad b2)), some (.int z19), none]) X dX3_meetWaves_98 rfl (by decide) rfl rfl ?_
        refine r_aload_n (pc := 99) X dX3_meetWaves_99 rfl rfl ?_
        refine r_aload_n (pc := 100) X dX3_meetWaves_100 rfl rfl ?_
        refine r_getC (pc := 101) X (at_X2_o Hb2) rfl mU_X2 (k := 0) (by decide) (q := (b2 + 1)) rfl mF_X3_174 dX3_meetWaves_101 ?_
        refine r_bipush (pc := 104) X dX3_meetWaves_104 hG (by decide) (fun z21 hG => ?_)
        refine r_iald (pc := 106) X (at_X2_numbers Hb2) dX3_meetWaves_106 hG (fun z22 hG => ?_)
        refine r_aload_n (pc := 107) X dX3_meetWaves_107 rfl rfl ?_
        refine r_getC (pc := 108) X (at_X2_o Hb2) rfl mU_X2 (k := 0) (by decide) (q := (b2 + 1)) rfl mF_X3_174 dX3_meetWaves_108 ?_
        refine r_bipush (pc := 111) X dX3_meetWaves_111 hG (by decide) (fun z23 hG => ?_)
        refine r_iald (pc := 113) X (at_X2_numbers Hb2) dX3_meetWaves_113 hG (fun z24 hG => ?_)
        refine r_cW (pc := 114) hG (fun _ hg => runV X dX3_meetWaves_114 (c_X3_drawFrom Hb0 hg) mM_X3_175 mI_X3_drawFrom mE_X3_drawFrom mN_X3 mK_X3_drawFrom (at_X3_o Hb0) rfl rfl rfl rfl hdd_X3_drawFrom ⟨(Nat.le_of_ble_eq_true rfl), (Nat.le_of_ble_eq_true rfl)⟩ rfl rfl (Nat.le_of_ble_eq_true rfl) ⟨(Nat.le_of_ble_eq_true rfl), (Nat.le_of_ble_eq_true rfl)⟩) (fun z25 h26 hG => ?_)
        refine r_istore (pc := 117) (L' := [some (.ref (ad b0)), some (.ref (ad b1)), some (.ref (ad b2)), some (.int z19), some (.int z25)]) X dX3_meetWaves_117 (by decide) rfl rfl ?_
        refine r_aload_n (pc := 119) X dX3_meetWaves_119 rfl rfl ?_
        refine r_aload_n (pc := 120) X dX3_meetWaves_120 rfl rfl ?_
        refine r_iload_n (pc := 121) X dX3_meetWaves_121 rfl rfl ?_
        refine r_iload (pc := 122) X dX3_meetWaves_122 rfl ?_
        refine r_aload_n (pc := 124) X dX3_meetWaves_124 rfl rfl ?_
        refine r_cP (pc := 125) hG (fun _ hg => runV X dX3_meetWaves_125 (c_X2_cut Hb2 hg) mM_X3_160 mI_X2_cut mE_X2_cut mN_X2 mK_X2_cut (at_X2_o Hb2) rfl rfl rfl rfl hdd_X2_cut ⟨(Nat.le_of_ble_eq_true rfl), (Nat.le_of_ble_eq_true rfl)⟩ rfl rfl (Nat.le_of_ble_eq_true rfl) ⟨(Nat.le_of_ble_eq_true rfl), (Nat.le_of_ble_eq_true rfl)⟩) (fun z27 hG => ?_)
        refine r_cV (pc := 128) hG (fun _ hg => runV X dX3_meetWaves_128 (c_X3_runUp Hb0 Hb1 hg) mM_X3_164 mI_X3_runUp mE_X3_runUp mN_X3 mK_X3_runUp (at_X3_o Hb0) rfl rfl rfl rfl hdd_X3_runUp ⟨(Nat.le_of_ble_eq_true rfl), (Nat.le_of_ble_eq_true rfl)⟩ rfl rfl (Nat.le_of_ble_eq_true rfl) ⟨(Nat.le_of_ble_eq_true rfl), (Nat.le_of_ble_eq_true rfl)⟩) (fun h28 hG => ?_)
        exact r_mask [false, false, false, false, false] rfl (Hj8 _ hG h28 rfl)
  refine r_mask [true, true, true, true, false] rfl (r_loop (fun q29 => ∀ (y31 : Int32) (h32 : Hp), q29 = (y31.toInt, h32) → Ev E ad shl p l e rm_X3_meetWaves s m args below meth c 0 0 Q 5 h32 2 [some (.ref (ad b0)), some (.ref (ad b1)), some (.ref (ad b2)), some (.int y31), none] []) (fun l30 Hl30 q29 hG => ?_) FU _ hG z1 h rfl)
  intro y31 h32 ha; have ha := ha.symm; subst ha
  unfold g_X3_meetWaves_l30 at hG
  refine r_iload_n (pc := 2) X dX3_meetWaves_2 rfl rfl ?_
  refine r_aload_n (pc := 3) X dX3_meetWaves_3 rfl rfl ?_
  refine r_getI (pc := 4) X (at_X2_o Hb2) rfl mU_X2 (k := 4) (by decide) rfl mF_X3_146 dX3_meetWaves_4 hG (fun z33 hG => ?_)
  refine r_icmp_ge (pc := 7) X dX3_meetWaves_7 (tgt := 56) (by decide) hG (fun hG => ?_) (fun hG => ?_)
  · skip
    exact r_mask [true, true, true, false, false] rfl (Hj3 _ hG h32 rfl)
  · skip
    refine r_iload_n (pc := 10) X dX3_meetWaves_10 rfl rfl ?_
    refine r_bipush (pc := 11) X dX3_meetWaves_11 hG (by decide) (fun z34 hG => ?_)
    refine r_icmp_ge (pc := 13) X dX3_meetWaves_13 (tgt := 56) (by decide) hG (fun hG => ?_) (fun hG => ?_)
    · skip
      exact r_mask [true, true, true, false, false] rfl (Hj3 _ hG h32 rfl)
    · skip
      refine r_aload_n (pc := 16) X dX3_meetWaves_16 rfl rfl ?_
      refine r_getC (pc := 17) X (at_X2_o Hb2) rfl mU_X2 (k := 1) (by decide) (q := (b2 + 2)) rfl mF_X3_151 dX3_meetWaves_17 ?_
      refine r_iload_n (pc := 20) X dX3_meetWaves_20 rfl rfl ?_
      refine r_iald (pc := 21) X (at_X2_minutes Hb2) dX3_meetWaves_21 hG (fun z35 hG => ?_)
      refine r_aload_n (pc := 22) X dX3_meetWaves_22 rfl rfl ?_
      refine r_getI (pc := 23) X (at_X3_o Hb0) rfl mU_X3 (k := 9) (by decide) rfl mF_X3_62 dX3_meetWaves_23 hG (fun z36 hG => ?_)
      refine r_join hG (fun a37 => ∀ (h39 : Hp), a37 = h39 → Ev E ad shl p l e rm_X3_meetWaves s m args below meth c 0 0 Q 5 h39 50 [some (.ref (ad b0)), some (.ref (ad b1)), some (.ref (ad b2)), some (.int y31), none] []) (fun a37 hG => ?_) (fun j38 Hj38 hG => ?_)
      · skip
        intro h39 ha; have ha := ha.symm; subst ha
        refine r_iinc (pc := 50) (L' := fun z40 => [some (.ref (ad b0)), some (.ref (ad b1)), some (.ref (ad b2)), some (.int z40), none]) X dX3_meetWaves_50 (by decide) rfl rfl (by decide) (fun _ => rfl) hG (fun z40 hG => ?_)
        refine r_goto (pc := 53) X dX3_meetWaves_53 (tgt := 2) (by decide) ?_
        exact r_mask [true, true, true, true, false] rfl (Hl30 _ hG z40 h39 rfl)
      refine r_icmp_ne (pc := 26) X dX3_meetWaves_26 (tgt := 50) (by decide) hG (fun hG => ?_) (fun hG => ?_)
      · skip
        exact r_mask [true, true, true, true, false] rfl (Hj38 _ hG h32 rfl)
      · skip
        refine r_aload_n (pc := 29) X dX3_meetWaves_29 rfl rfl ?_
        refine r_aload_n (pc := 30) X dX3_meetWaves_30 rfl rfl ?_
        refine r_aload_n (pc := 31) X dX3_meetWaves_31 rfl rfl ?_
        refine r_getC (pc := 32) X (at_X2_o Hb2) rfl mU_X2 (k := 2) (by decide) (q := (b2 + 3)) rfl mF_X3_154 dX3_meetWaves_32 ?_
        refine r_iload_n (pc := 35) X dX3_meetWaves_35 rfl rfl ?_
        refine r_iald (pc := 36) X (at_X2_reaches Hb2) dX3_meetWaves_36 hG (fun z41 hG => ?_)
        refine r_aload_n (pc := 37) X dX3_meetWaves_37 rfl rfl ?_
        refine r_getC (pc := 38) X (at_X2_o Hb2) rfl mU_X2 (k := 3) (by decide) (q := (b2 + 4)) rfl mF_X3_157 dX3_meetWaves_38 ?_
        refine r_iload_n (pc := 41) X dX3_meetWaves_41 rfl rfl ?_
        refine r_iald (pc := 42) X (at_X2_levels Hb2) dX3_meetWaves_42 hG (fun z42 hG => ?_)
        refine r_aload_n (pc := 43) X dX3_meetWaves_43 rfl rfl ?_
        refine r_cP (pc := 44) hG (fun _ hg => runV X dX3_meetWaves_44 (c_X2_cut Hb2 hg) mM_X3_160 mI_X2_cut mE_X2_cut mN_X2 mK_X2_cut (at_X2_o Hb2) rfl rfl rfl rfl hdd_X2_cut ⟨(Nat.le_of_ble_eq_true rfl), (Nat.le_of_ble_eq_true rfl)⟩ rfl rfl (Nat.le_of_ble_eq_true rfl) ⟨(Nat.le_of_ble_eq_true rfl), (Nat.le_of_ble_eq_true rfl)⟩) (fun z43 hG => ?_)
        refine r_cV (pc := 47) hG (fun _ hg => runV X dX3_meetWaves_47 (c_X3_runUp Hb0 Hb1 hg) mM_X3_164 mI_X3_runUp mE_X3_runUp mN_X3 mK_X3_runUp (at_X3_o Hb0) rfl rfl rfl rfl hdd_X3_runUp ⟨(Nat.le_of_ble_eq_true rfl), (Nat.le_of_ble_eq_true rfl)⟩ rfl rfl (Nat.le_of_ble_eq_true rfl) ⟨(Nat.le_of_ble_eq_true rfl), (Nat.le_of_ble_eq_true rfl)⟩) (fun h44 hG => ?_)
        exact r_mask [true, true, true, true, false] rfl (Hj38 _ hG h44 rfl)
theorem c_X3_meetWaves {b0 : Nat} {b1 : Nat} {b2 : Nat} {r : Hp} (Hb0 : At_X3 shl b0) (Hb1 : At_X0 shl b1) (Hb2 : At_X2 shl b2) (hg : g_X3_meetWaves b0 b1 b2 h = some r) : Met l yX3_meetWaves (wsM yX3_meetWaves cX3_meetWaves 5 none) rm_X3_meetWaves (va_Pc [.ref (ad b0), .ref (ad b1), .ref (ad b2)] (World E ad shl h)) (QcV E ad shl r) 0 0 (bsA E) :=
  met_of (L0 := [some (.ref (ad b0)), some (.ref (ad b1)), some (.ref (ad b2)), none, none]) rfl rfl rfl (Nat.le_of_ble_eq_true rfl) (fun _ _ _ _ _ _ _ X => w_X3_meetWaves Hb0 Hb1 Hb2 X rfl hg)
abbrev rm_X3_shine : Room := { frames := 1, cells := 0, slots := 0, locals := 21 }
theorem hdd_X3_shine : yX3_shine.cls = RX3 ∧ yX3_shine.cls ≠ "java/lang/invoke/MethodHandle" ∧ yX3_shine.cls ≠ "java/lang/invoke/VarHandle" ∧ (parseMethodDescriptor yX3_shine.desc).map (fun d => d.parameters.length) = some 1 := ⟨rfl, by decide +kernel, by decide +kernel, by decide +kernel⟩
set_option maxRecDepth 100000 in
set_option maxHeartbeats 4000000 in
theorem w_X3_shine {b0 : Nat} {b1 : Nat} {r : Hp} (Hb0 : At_X3 shl b0) (Hb1 : At_X0 shl b1) (X : Cx E p s m args meth c cX3_shine RX3 4 none) (hQ : Q = MQ below (QcV E ad shl r) args s 0 0 (bsA E)) (hG : g_X3_shine b0 b1 h = some r) : Ev E ad shl p l e rm_X3_shine s m args below meth c 0 0 Q 4 h 0 [some (.ref (ad b0)), some (.ref (ad b1)), none, none] [] := by
  unfold g_X3_shine at hG
  refine r_aload_n (pc := 0) X dX3_shine_0 rfl rfl ?_
  refine r_cP (pc := 1) hG (fun _ hg => runV X dX3_shine_1 (c_X0_cells Hb1 hg) mM_X3_187 mI_X0_cells mE_X0_cells mN_X0 mK_X0_cells (at_X0_o Hb1) rfl rfl rfl rfl hdd_X0_cells ⟨(Nat.le_of_ble_eq_true rfl), (Nat.le_of_ble_eq_true rfl)⟩ rfl rfl (Nat.le_of_ble_eq_true rfl) ⟨(Nat.le_of_ble_eq_true rfl), (Nat.le_of_ble_eq_true rfl)⟩) (fun z1 hG => ?_)
  refine r_istore_n (pc := 4) (L' := [some (.ref (ad b0)), some (.ref (ad b1)), some (.int z1), none]) X dX3_shine_4 rfl (by decide) rfl rfl ?_
  refine r_aload_n (pc := 5) X dX3_shine_5 rfl rfl ?_
  refine r_cP (pc := 6) hG (fun _ hg => runV X dX3_shine_6 (c_X0_columns Hb1 hg) mM_X3_180 mI_X0_columns mE_X0_columns mN_X0 mK_X0_columns (at_X0_o Hb1) rfl rfl rfl rfl hdd_X0_columns ⟨(Nat.le_of_ble_eq_true rfl), (Nat.le_of_ble_eq_true rfl)⟩ rfl rfl (Nat.le_of_ble_eq_true rfl) ⟨(Nat.le_of_ble_eq_true rfl), (Nat.le_of_ble_eq_true rfl)⟩) (fun z2 hG => ?_)
  refine r_istore_n (pc := 9) (L' := [some (.ref (ad b0)), some (.ref (ad b1)), some (.int z1), some (.int z2)]) X dX3_shine_9 rfl (by decide) rfl rfl ?_
  refine r_mask [true, false, true, true] rfl (r_loop (fun q3 => ∀ (y5 : Int32) (h6 : Hp), q3 = (y5.toInt, h6) → Ev E ad shl p l e rm_X3_shine s m args below meth c 0 0 Q 4 h6 10 [some (.ref (ad b0)), none, some (.int z1), some (.int y5)] []) (fun l4 Hl4 q3 hG => ?_) FU _ hG z2 h rfl)
  intro y5 h6 ha; have ha := ha.symm; subst ha
  unfold g_X3_shine_l4 at hG
  refine r_iload_n (pc := 10) X dX3_shine_10 rfl rfl ?_
  refine r_iload_n (pc := 11) X dX3_shine_11 rfl rfl ?_
  refine r_icmp_ge (pc := 12) X dX3_shine_12 (tgt := 68) (by decide) hG (fun hG => ?_) (fun hG => ?_)
  · skip
    exact r_vret (pc := 68) X dX3_shine_68 hQ hG
  · skip
    refine r_aload_n (pc := 15) X dX3_shine_15 rfl rfl ?_
    refine r_getC (pc := 16) X (at_X3_o Hb0) rfl mU_X3 (k := 1) (by decide) (q := (b0 + 2)) rfl mF_X3_15 dX3_shine_16 ?_
    refine r_iload_n (pc := 19) X dX3_shine_19 rfl rfl ?_
    refine r_iald (pc := 20) X (at_X3_wet Hb0) dX3_shine_20 hG (fun z7 hG => ?_)
    refine r_join hG (fun a8 => ∀ (h10 : Hp), a8 = h10 → Ev E ad shl p l e rm_X3_shine s m args below meth c 0 0 Q 4 h10 62 [some (.ref (ad b0)), none, some (.int z1), some (.int y5)] []) (fun a8 hG => ?_) (fun j9 Hj9 hG => ?_)
    · skip
      intro h10 ha; have ha := ha.symm; subst ha
      refine r_iinc (pc := 62) (L' := fun z11 => [some (.ref (ad b0)), none, some (.int z1), some (.int z11)]) X dX3_shine_62 (by decide) rfl rfl (by decide) (fun _ => rfl) hG (fun z11 hG => ?_)
      refine r_goto (pc := 65) X dX3_shine_65 (tgt := 10) (by decide) ?_
      exact r_mask [true, false, true, true] rfl (Hl4 _ hG z11 h10 rfl)
    refine r_if_le (pc := 21) X dX3_shine_21 (tgt := 62) (by decide) hG (fun hG => ?_) (fun hG => ?_)
    · skip
      exact r_mask [true, false, true, true] rfl (Hj9 _ hG h6 rfl)
    · skip
      refine r_aload_n (pc := 24) X dX3_shine_24 rfl rfl ?_
      refine r_getC (pc := 25) X (at_X3_o Hb0) rfl mU_X3 (k := 1) (by decide) (q := (b0 + 2)) rfl mF_X3_15 dX3_shine_25 ?_
      refine r_iload_n (pc := 28) X dX3_shine_28 rfl rfl ?_
      refine r_iconst (pc := 29) X dX3_shine_29 hG rfl (fun z12 hG => ?_)
      refine r_aload_n (pc := 30) X dX3_shine_30 rfl rfl ?_
      refine r_getC (pc := 31) X (at_X3_o Hb0) rfl mU_X3 (k := 1) (by decide) (q := (b0 + 2)) rfl mF_X3_15 dX3_shine_31 ?_
      refine r_iload_n (pc := 34) X dX3_shine_34 rfl rfl ?_
      refine r_iald (pc := 35) X (at_X3_wet Hb0) dX3_shine_35 hG (fun z13 hG => ?_)
      refine r_aload_n (pc := 36) X dX3_shine_36 rfl rfl ?_
      refine r_getC (pc := 37) X (at_X3_o Hb0) rfl mU_X3 (k := 0) (by decide) (q := (b0 + 1)) rfl mF_X3_9 dX3_shine_37 ?_
      refine r_iload_n (pc := 40) X dX3_shine_40 rfl rfl ?_
      refine r_iald (pc := 41) X (at_X3_height Hb0) dX3_shine_41 hG (fun z14 hG => ?_)
      refine r_bipush (pc := 42) X dX3_shine_42 hG (by decide) (fun z15 hG => ?_)
      refine r_join hG (fun a16 => ∀ (y18 : Int32), a16 = y18.toInt → Ev E ad shl p l e rm_X3_shine s m args below meth c 0 0 Q 4 h6 52 [some (.ref (ad b0)), none, some (.int z1), some (.int y5)] [.int y18, .int z13, .int z12, .int y5, .ref (ad (b0 + 2))]) (fun a16 hG => ?_) (fun j17 Hj17 hG => ?_)
      · skip
        intro y18 ha; have ha := ha.symm; subst ha
        refine r_isub (pc := 52) X dX3_shine_52 hG (fun z19 hG => ?_)
        refine r_mmax (pc := 53) X dX3_shine_53 mM_X3_195 (Nat.le_of_ble_eq_true rfl) (Nat.le_of_ble_eq_true rfl) (Nat.le_of_ble_eq_true rfl) (Nat.le_of_ble_eq_true rfl) hG (fun z20 hG => ?_)
        refine r_iast (pc := 56) X (at_X3_wet Hb0) dX3_shine_56 hG (fun h21 hG => ?_)
        refine r_aload_n (pc := 57) X dX3_shine_57 rfl rfl ?_
        refine r_iconst (pc := 58) X dX3_shine_58 hG rfl (fun z22 hG => ?_)
        refine r_putZ (pc := 59) X (at_X3_o Hb0) rfl mU_X3 (k := 15) (by decide) rfl rfl rfl mF_X3_80 dX3_shine_59 hG (fun h23 hG => ?_)
        exact r_mask [true, false, true, true] rfl (Hj9 _ hG h23 rfl)
      refine r_icmp_lt (pc := 44) X dX3_shine_44 (tgt := 51) (by decide) hG (fun hG => ?_) (fun hG => ?_)
      · skip
        refine r_iconst (pc := 51) X dX3_shine_51 hG rfl (fun z24 hG => ?_)
        exact r_mask [true, false, true, true] rfl (Hj17 _ hG z24 rfl)
      · skip
        refine r_iconst (pc := 47) X dX3_shine_47 hG rfl (fun z25 hG => ?_)
        refine r_goto (pc := 48) X dX3_shine_48 (tgt := 52) (by decide) ?_
        exact r_mask [true, false, true, true] rfl (Hj17 _ hG z25 rfl)
theorem c_X3_shine {b0 : Nat} {b1 : Nat} {r : Hp} (Hb0 : At_X3 shl b0) (Hb1 : At_X0 shl b1) (hg : g_X3_shine b0 b1 h = some r) : Met l yX3_shine (wsM yX3_shine cX3_shine 4 none) rm_X3_shine (va_Pc [.ref (ad b0), .ref (ad b1)] (World E ad shl h)) (QcV E ad shl r) 0 0 (bsA E) :=
  met_of (L0 := [some (.ref (ad b0)), some (.ref (ad b1)), none, none]) rfl rfl rfl (Nat.le_of_ble_eq_true rfl) (fun _ _ _ _ _ _ _ X => w_X3_shine Hb0 Hb1 X rfl hg)
abbrev rm_X3_lowerOf : Room := { frames := 0, cells := 0, slots := 0, locals := 0 }
theorem hdd_X3_lowerOf : yX3_lowerOf.cls = RX3 ∧ yX3_lowerOf.cls ≠ "java/lang/invoke/MethodHandle" ∧ yX3_lowerOf.cls ≠ "java/lang/invoke/VarHandle" ∧ (parseMethodDescriptor yX3_lowerOf.desc).map (fun d => d.parameters.length) = some 2 := ⟨rfl, by decide +kernel, by decide +kernel, by decide +kernel⟩
set_option maxRecDepth 100000 in
set_option maxHeartbeats 4000000 in
theorem w_X3_lowerOf {b0 : Nat} {x1 : Int32} {x2 : Int32} {r : Int} (Hb0 : At_X3 shl b0) (X : Cx E p s m args meth c cX3_lowerOf RX3 3 (some .int)) (hQ : Q = MQ below (QcI E ad shl r h) args s 0 0 (bsA E)) (hG : g_X3_lowerOf b0 x1.toInt x2.toInt h = some r) : Ev E ad shl p l e rm_X3_lowerOf s m args below meth c 0 0 Q 3 h 0 [some (.ref (ad b0)), some (.int x1), some (.int x2)] [] := by
  unfold g_X3_lowerOf at hG
  refine r_aload_n (pc := 0) X dX3_lowerOf_0 rfl rfl ?_
  refine r_getC (pc := 1) X (at_X3_o Hb0) rfl mU_X3 (k := 3) (by decide) (q := (b0 + 4)) rfl mF_X3_21 dX3_lowerOf_1 ?_
  refine r_iload_n (pc := 4) X dX3_lowerOf_4 rfl rfl ?_
  refine r_iald (pc := 5) X (at_X3_stone Hb0) dX3_lowerOf_5 hG (fun z1 hG => ?_)
  refine r_join hG (fun _ => Ev E ad shl p l e rm_X3_lowerOf s m args below meth c 0 0 Q 3 h 29 [none, some (.int x1), none] []) (fun a2 hG => ?_) (fun j3 Hj3 hG => ?_)
  · skip
    refine r_iload_n (pc := 29) X dX3_lowerOf_29 rfl rfl ?_
    exact r_iretP (pc := 30) X dX3_lowerOf_30 hQ hG
  refine r_if_ne (pc := 6) X dX3_lowerOf_6 (tgt := 29) (by decide) hG (fun hG => ?_) (fun hG => ?_)
  · skip
    exact r_mask [false, true, false] rfl (Hj3 _ hG)
  · skip
    refine r_iload_n (pc := 9) X dX3_lowerOf_9 rfl rfl ?_
    refine r_iconst (pc := 10) X dX3_lowerOf_10 hG rfl (fun z4 hG => ?_)
    refine r_join hG (fun _ => Ev E ad shl p l e rm_X3_lowerOf s m args below meth c 0 0 Q 3 h 31 [none, none, some (.int x2)] []) (fun a5 hG => ?_) (fun j6 Hj6 hG => ?_)
    · skip
      refine r_iload_n (pc := 31) X dX3_lowerOf_31 rfl rfl ?_
      exact r_iretP (pc := 32) X dX3_lowerOf_32 hQ hG
    refine r_icmp_eq (pc := 11) X dX3_lowerOf_11 (tgt := 31) (by decide) hG (fun hG => ?_) (fun hG => ?_)
    · skip
      exact r_mask [false, false, true] rfl (Hj6 _ hG)
    · skip
      refine r_aload_n (pc := 14) X dX3_lowerOf_14 rfl rfl ?_
      refine r_getC (pc := 15) X (at_X3_o Hb0) rfl mU_X3 (k := 0) (by decide) (q := (b0 + 1)) rfl mF_X3_9 dX3_lowerOf_15 ?_
      refine r_iload_n (pc := 18) X dX3_lowerOf_18 rfl rfl ?_
      refine r_iald (pc := 19) X (at_X3_height Hb0) dX3_lowerOf_19 hG (fun z7 hG => ?_)
      refine r_aload_n (pc := 20) X dX3_lowerOf_20 rfl rfl ?_
      refine r_getC (pc := 21) X (at_X3_o Hb0) rfl mU_X3 (k := 0) (by decide) (q := (b0 + 1)) rfl mF_X3_9 dX3_lowerOf_21 ?_
      refine r_iload_n (pc := 24) X dX3_lowerOf_24 rfl rfl ?_
      refine r_iald (pc := 25) X (at_X3_height Hb0) dX3_lowerOf_25 hG (fun z8 hG => ?_)
      refine r_icmp_gt (pc := 26) X dX3_lowerOf_26 (tgt := 31) (by decide) hG (fun hG => ?_) (fun hG => ?_)
      · skip
        exact r_mask [false, false, true] rfl (Hj6 _ hG)
      · skip
        exact r_mask [false, true, false] rfl (Hj3 _ hG)
theorem c_X3_lowerOf {b0 : Nat} {x1 : Int32} {x2 : Int32} {r : Int} (Hb0 : At_X3 shl b0) (hg : g_X3_lowerOf b0 x1.toInt x2.toInt h = some r) : Met l yX3_lowerOf (wsM yX3_lowerOf cX3_lowerOf 3 (some .int)) rm_X3_lowerOf (va_Pc [.ref (ad b0), .int x1, .int x2] (World E ad shl h)) (QcI E ad shl r h) 0 0 (bsA E) :=
  met_of (L0 := [some (.ref (ad b0)), some (.int x1), some (.int x2)]) rfl rfl rfl (Nat.le_of_ble_eq_true rfl) (fun _ _ _ _ _ _ _ X => w_X3_lowerOf Hb0 X rfl hg)
abbrev rm_X3_lowestBeside : Room := { frames := 1, cells := 0, slots := 0, locals := 22 }
theorem hdd_X3_lowestBeside : yX3_lowestBeside.cls = RX3 ∧ yX3_lowestBeside.cls ≠ "java/lang/invoke/MethodHandle" ∧ yX3_lowestBeside.cls ≠ "java/lang/invoke/VarHandle" ∧ (parseMethodDescriptor yX3_lowestBeside.desc).map (fun d => d.parameters.length) = some 3 := ⟨rfl, by decide +kernel, by decide +kernel, by decide +kernel⟩
set_option maxRecDepth 100000 in
set_option maxHeartbeats 4000000 in
theorem w_X3_lowestBeside {b0 : Nat} {b1 : Nat} {x2 : Int32} {x3 : Int32} {r : Int} (Hb0 : At_X3 shl b0) (Hb1 : At_X0 shl b1) (X : Cx E p s m args meth c cX3_lowestBeside RX3 6 (some .int)) (hQ : Q = MQ below (QcI E ad shl r h) args s 0 0 (bsA E)) (hG : g_X3_lowestBeside b0 b1 x2.toInt x3.toInt h = some r) : Ev E ad shl p l e rm_X3_lowestBeside s m args below meth c 0 0 Q 6 h 0 [some (.ref (ad b0)), some (.ref (ad b1)), some (.int x2), some (.int x3), none, none] [] := by
  unfold g_X3_lowestBeside at hG
  refine r_aload_n (pc := 0) X dX3_lowestBeside_0 rfl rfl ?_
  refine r_cP (pc := 1) hG (fun _ hg => runV X dX3_lowestBeside_1 (c_X0_columns Hb1 hg) mM_X3_180 mI_X0_columns mE_X0_columns mN_X0 mK_X0_columns (at_X0_o Hb1) rfl rfl rfl rfl hdd_X0_columns ⟨(Nat.le_of_ble_eq_true rfl), (Nat.le_of_ble_eq_true rfl)⟩ rfl rfl (Nat.le_of_ble_eq_true rfl) ⟨(Nat.le_of_ble_eq_true rfl), (Nat.le_of_ble_eq_true rfl)⟩) (fun z1 hG => ?_)
  refine r_istore (pc := 4) (L' := [some (.ref (ad b0)), some (.ref (ad b1)), some (.int x2), some (.int x3), some (.int z1), none]) X dX3_lowestBeside_4 (by decide) rfl rfl ?_
  refine r_iconst (pc := 6) X dX3_lowestBeside_6 hG rfl (fun z2 hG => ?_)
  refine r_istore (pc := 7) (L' := [some (.ref (ad b0)), some (.ref (ad b1)), some (.int x2), some (.int x3), some (.int z1), some (.int z2)]) X dX3_lowestBeside_7 (by decide) rfl rfl ?_
  refine r_iload_n (pc := 9) X dX3_lowestBeside_9 rfl rfl ?_
  refine r_iload (pc := 10) X dX3_lowestBeside_10 rfl ?_
  refine r_join hG (fun a3 => ∀ (y5 : Int32), a3 = y5.toInt → Ev E ad shl p l e rm_X3_lowestBeside s m args below meth c 0 0 Q 6 h 27 [some (.ref (ad b0)), some (.ref (ad b1)), some (.int x2), some (.int x3), some (.int z1), some (.int y5)] []) (fun a3 hG => ?_) (fun j4 Hj4 hG => ?_)
  · skip
    intro y5 ha; have ha := ha.symm; subst ha
    refine r_iload_n (pc := 27) X dX3_lowestBeside_27 rfl rfl ?_
    refine r_join hG (fun a6 => ∀ (y8 : Int32), a6 = y8.toInt → Ev E ad shl p l e rm_X3_lowestBeside s m args below meth c 0 0 Q 6 h 42 [some (.ref (ad b0)), some (.ref (ad b1)), some (.int x2), some (.int x3), some (.int z1), some (.int y8)] []) (fun a6 hG => ?_) (fun j7 Hj7 hG => ?_)
    · skip
      intro y8 ha; have ha := ha.symm; subst ha
      refine r_iload_n (pc := 42) X dX3_lowestBeside_42 rfl rfl ?_
      refine r_iconst (pc := 43) X dX3_lowestBeside_43 hG rfl (fun z9 hG => ?_)
      refine r_iadd (pc := 44) X dX3_lowestBeside_44 hG (fun z10 hG => ?_)
      refine r_iload (pc := 45) X dX3_lowestBeside_45 rfl ?_
      refine r_join hG (fun a11 => ∀ (y13 : Int32), a11 = y13.toInt → Ev E ad shl p l e rm_X3_lowestBeside s m args below meth c 0 0 Q 6 h 61 [some (.ref (ad b0)), some (.ref (ad b1)), some (.int x2), none, some (.int z1), some (.int y13)] []) (fun a11 hG => ?_) (fun j12 Hj12 hG => ?_)
      · skip
        intro y13 ha; have ha := ha.symm; subst ha
        refine r_iload_n (pc := 61) X dX3_lowestBeside_61 rfl rfl ?_
        refine r_iload (pc := 62) X dX3_lowestBeside_62 rfl ?_
        refine r_iadd (pc := 64) X dX3_lowestBeside_64 hG (fun z14 hG => ?_)
        refine r_aload_n (pc := 65) X dX3_lowestBeside_65 rfl rfl ?_
        refine r_cP (pc := 66) hG (fun _ hg => runV X dX3_lowestBeside_66 (c_X0_cells Hb1 hg) mM_X3_187 mI_X0_cells mE_X0_cells mN_X0 mK_X0_cells (at_X0_o Hb1) rfl rfl rfl rfl hdd_X0_cells ⟨(Nat.le_of_ble_eq_true rfl), (Nat.le_of_ble_eq_true rfl)⟩ rfl rfl (Nat.le_of_ble_eq_true rfl) ⟨(Nat.le_of_ble_eq_true rfl), (Nat.le_of_ble_eq_true rfl)⟩) (fun z15 hG => ?_)
        refine r_join hG (fun a16 => ∀ (y18 : Int32), a16 = y18.toInt → Ev E ad shl p l e rm_X3_lowestBeside s m args below meth c 0 0 Q 6 h 84 [none, none, none, none, none, some (.int y18)] []) (fun a16 hG => ?_) (fun j17 Hj17 hG => ?_)
        · skip
          intro y18 ha; have ha := ha.symm; subst ha
          refine r_iload (pc := 84) X dX3_lowestBeside_84 rfl ?_
          exact r_iretP (pc := 86) X dX3_lowestBeside_86 hQ hG
        refine r_icmp_ge (pc := 69) X dX3_lowestBeside_69 (tgt := 84) (by decide) hG (fun hG => ?_) (fun hG => ?_)
        · skip
          exact r_mask [false, false, false, false, false, true] rfl (Hj17 _ hG y13 rfl)
        · skip
          refine r_aload_n (pc := 72) X dX3_lowestBeside_72 rfl rfl ?_
          refine r_iload (pc := 73) X dX3_lowestBeside_73 rfl ?_
          refine r_iload_n (pc := 75) X dX3_lowestBeside_75 rfl rfl ?_
          refine r_iload (pc := 76) X dX3_lowestBeside_76 rfl ?_
          refine r_iadd (pc := 78) X dX3_lowestBeside_78 hG (fun z19 hG => ?_)
          refine r_cP (pc := 79) hG (fun _ hg => runV X dX3_lowestBeside_79 (c_X3_lowerOf Hb0 hg) mM_X3_211 mI_X3_lowerOf mE_X3_lowerOf mN_X3 mK_X3_lowerOf (at_X3_o Hb0) rfl rfl rfl rfl hdd_X3_lowerOf ⟨(Nat.le_of_ble_eq_true rfl), (Nat.le_of_ble_eq_true rfl)⟩ rfl rfl (Nat.le_of_ble_eq_true rfl) ⟨(Nat.le_of_ble_eq_true rfl), (Nat.le_of_ble_eq_true rfl)⟩) (fun z20 hG => ?_)
          refine r_istore (pc := 82) (L' := [some (.ref (ad b0)), some (.ref (ad b1)), some (.int x2), none, some (.int z1), some (.int z20)]) X dX3_lowestBeside_82 (by decide) rfl rfl ?_
          exact r_mask [false, false, false, false, false, true] rfl (Hj17 _ hG z20 rfl)
      refine r_icmp_ge (pc := 47) X dX3_lowestBeside_47 (tgt := 61) (by decide) hG (fun hG => ?_) (fun hG => ?_)
      · skip
        exact r_mask [true, true, true, false, true, true] rfl (Hj12 _ hG y8 rfl)
      · skip
        refine r_aload_n (pc := 50) X dX3_lowestBeside_50 rfl rfl ?_
        refine r_iload (pc := 51) X dX3_lowestBeside_51 rfl ?_
        refine r_iload_n (pc := 53) X dX3_lowestBeside_53 rfl rfl ?_
        refine r_iconst (pc := 54) X dX3_lowestBeside_54 hG rfl (fun z21 hG => ?_)
        refine r_iadd (pc := 55) X dX3_lowestBeside_55 hG (fun z22 hG => ?_)
        refine r_cP (pc := 56) hG (fun _ hg => runV X dX3_lowestBeside_56 (c_X3_lowerOf Hb0 hg) mM_X3_211 mI_X3_lowerOf mE_X3_lowerOf mN_X3 mK_X3_lowerOf (at_X3_o Hb0) rfl rfl rfl rfl hdd_X3_lowerOf ⟨(Nat.le_of_ble_eq_true rfl), (Nat.le_of_ble_eq_true rfl)⟩ rfl rfl (Nat.le_of_ble_eq_true rfl) ⟨(Nat.le_of_ble_eq_true rfl), (Nat.le_of_ble_eq_true rfl)⟩) (fun z23 hG => ?_)
        refine r_istore (pc := 59) (L' := [some (.ref (ad b0)), some (.ref (ad b1)), some (.int x2), some (.int x3), some (.int z1), some (.int z23)]) X dX3_lowestBeside_59 (by decide) rfl rfl ?_
        exact r_mask [true, true, true, false, true, true] rfl (Hj12 _ hG z23 rfl)
    refine r_if_le (pc := 28) X dX3_lowestBeside_28 (tgt := 42) (by decide) hG (fun hG => ?_) (fun hG => ?_)
    · skip
      exact r_mask [true, true, true, true, true, true] rfl (Hj7 _ hG y5 rfl)
    · skip
      refine r_aload_n (pc := 31) X dX3_lowestBeside_31 rfl rfl ?_
      refine r_iload (pc := 32) X dX3_lowestBeside_32 rfl ?_
      refine r_iload_n (pc := 34) X dX3_lowestBeside_34 rfl rfl ?_
      refine r_iconst (pc := 35) X dX3_lowestBeside_35 hG rfl (fun z24 hG => ?_)
      refine r_isub (pc := 36) X dX3_lowestBeside_36 hG (fun z25 hG => ?_)
      refine r_cP (pc := 37) hG (fun _ hg => runV X dX3_lowestBeside_37 (c_X3_lowerOf Hb0 hg) mM_X3_211 mI_X3_lowerOf mE_X3_lowerOf mN_X3 mK_X3_lowerOf (at_X3_o Hb0) rfl rfl rfl rfl hdd_X3_lowerOf ⟨(Nat.le_of_ble_eq_true rfl), (Nat.le_of_ble_eq_true rfl)⟩ rfl rfl (Nat.le_of_ble_eq_true rfl) ⟨(Nat.le_of_ble_eq_true rfl), (Nat.le_of_ble_eq_true rfl)⟩) (fun z26 hG => ?_)
      refine r_istore (pc := 40) (L' := [some (.ref (ad b0)), some (.ref (ad b1)), some (.int x2), some (.int x3), some (.int z1), some (.int z26)]) X dX3_lowestBeside_40 (by decide) rfl rfl ?_
      exact r_mask [true, true, true, true, true, true] rfl (Hj7 _ hG z26 rfl)
  refine r_icmp_lt (pc := 12) X dX3_lowestBeside_12 (tgt := 27) (by decide) hG (fun hG => ?_) (fun hG => ?_)
  · skip
    exact r_mask [true, true, true, true, true, true] rfl (Hj4 _ hG z2 rfl)
  · skip
    refine r_aload_n (pc := 15) X dX3_lowestBeside_15 rfl rfl ?_
    refine r_iload (pc := 16) X dX3_lowestBeside_16 rfl ?_
    refine r_iload_n (pc := 18) X dX3_lowestBeside_18 rfl rfl ?_
    refine r_iload (pc := 19) X dX3_lowestBeside_19 rfl ?_
    refine r_isub (pc := 21) X dX3_lowestBeside_21 hG (fun z27 hG => ?_)
    refine r_cP (pc := 22) hG (fun _ hg => runV X dX3_lowestBeside_22 (c_X3_lowerOf Hb0 hg) mM_X3_211 mI_X3_lowerOf mE_X3_lowerOf mN_X3 mK_X3_lowerOf (at_X3_o Hb0) rfl rfl rfl rfl hdd_X3_lowerOf ⟨(Nat.le_of_ble_eq_true rfl), (Nat.le_of_ble_eq_true rfl)⟩ rfl rfl (Nat.le_of_ble_eq_true rfl) ⟨(Nat.le_of_ble_eq_true rfl), (Nat.le_of_ble_eq_true rfl)⟩) (fun z28 hG => ?_)
    refine r_istore (pc := 25) (L' := [some (.ref (ad b0)), some (.ref (ad b1)), some (.int x2), some (.int x3), some (.int z1), some (.int z28)]) X dX3_lowestBeside_25 (by decide) rfl rfl ?_
    exact r_mask [true, true, true, true, true, true] rfl (Hj4 _ hG z28 rfl)
theorem c_X3_lowestBeside {b0 : Nat} {b1 : Nat} {x2 : Int32} {x3 : Int32} {r : Int} (Hb0 : At_X3 shl b0) (Hb1 : At_X0 shl b1) (hg : g_X3_lowestBeside b0 b1 x2.toInt x3.toInt h = some r) : Met l yX3_lowestBeside (wsM yX3_lowestBeside cX3_lowestBeside 6 (some .int)) rm_X3_lowestBeside (va_Pc [.ref (ad b0), .ref (ad b1), .int x2, .int x3] (World E ad shl h)) (QcI E ad shl r h) 0 0 (bsA E) :=
  met_of (L0 := [some (.ref (ad b0)), some (.ref (ad b1)), some (.int x2), some (.int x3), none, none]) rfl rfl rfl (Nat.le_of_ble_eq_true rfl) (fun _ _ _ _ _ _ _ X => w_X3_lowestBeside Hb0 Hb1 X rfl hg)
abbrev rm_X0_bearing : Room := { frames := 0, cells := 0, slots := 0, locals := 0 }
theorem hdd_X0_bearing : yX0_bearing.cls = RX0 ∧ yX0_bearing.cls ≠ "java/lang/invoke/MethodHandle" ∧ yX0_bearing.cls ≠ "java/lang/invoke/VarHandle" ∧ (parseMethodDescriptor yX0_bearing.desc).map (fun d => d.parameters.length) = some 2 := ⟨rfl, by decide +kernel, by decide +kernel, by decide +kernel⟩
set_option maxRecDepth 100000 in
set_option maxHeartbeats 4000000 in
theorem w_X0_bearing {b0 : Nat} {x1 : Int32} {x2 : Int32} {r : Int} (Hb0 : At_X0 shl b0) (X : Cx E p s m args meth c cX0_bearing RX0 4 (some .int)) (hQ : Q = MQ below (QcI E ad shl r h) args s 0 0 (bsA E)) (hG : g_X0_bearing b0 x1.toInt x2.toInt h = some r) : Ev E ad shl p l e rm_X0_bearing s m args below meth c 0 0 Q 4 h 0 [some (.ref (ad b0)), some (.int x1), some (.int x2), none] [] := by
  unfold g_X0_bearing at hG
  refine r_iload_n (pc := 0) X dX0_bearing_0 rfl rfl ?_
  refine r_join hG (fun a1 => ∀ (y3 : Int32), a1 = y3.toInt → Ev E ad shl p l e rm_X0_bearing s m args below meth c 0 0 Q 4 h 20 [some (.ref (ad b0)), none, some (.int x2), none] [.int y3]) (fun a1 hG => ?_) (fun j2 Hj2 hG => ?_)
  · skip
    intro y3 ha; have ha := ha.symm; subst ha
    refine r_istore_n (pc := 20) (L' := [some (.ref (ad b0)), none, some (.int x2), some (.int y3)]) X dX0_bearing_20 rfl (by decide) rfl rfl ?_
    refine r_iconst (pc := 21) X dX0_bearing_21 hG rfl (fun z4 hG => ?_)
    refine r_iload_n (pc := 22) X dX0_bearing_22 rfl rfl ?_
    refine r_iadd (pc := 23) X dX0_bearing_23 hG (fun z5 hG => ?_)
    refine r_iload_n (pc := 24) X dX0_bearing_24 rfl rfl ?_
    refine r_aload_n (pc := 25) X dX0_bearing_25 rfl rfl ?_
    refine r_getC (pc := 26) X (at_X0_o Hb0) rfl mU_X0 (k := 0) (by decide) (q := (b0 + 1)) rfl mF_X0_11 dX0_bearing_26 ?_
    refine r_iconst (pc := 29) X dX0_bearing_29 hG rfl (fun z6 hG => ?_)
    refine r_iald (pc := 30) X (at_X0_numbers Hb0) dX0_bearing_30 hG (fun z7 hG => ?_)
    refine r_imul (pc := 31) X dX0_bearing_31 hG (fun z8 hG => ?_)
    refine r_iadd (pc := 32) X dX0_bearing_32 hG (fun z9 hG => ?_)
    exact r_iretP (pc := 33) X dX0_bearing_33 hQ hG
  refine r_join hG (fun _ => Ev E ad shl p l e rm_X0_bearing s m args below meth c 0 0 Q 4 h 19 [some (.ref (ad b0)), none, some (.int x2), none] []) (fun a10 hG => ?_) (fun j11 Hj11 hG => ?_)
  · skip
    refine r_iconst (pc := 19) X dX0_bearing_19 hG rfl (fun z12 hG => ?_)
    exact r_mask [true, false, true, false] rfl (Hj2 _ hG z12 rfl)
  refine r_if_lt (pc := 1) X dX0_bearing_1 (tgt := 19) (by decide) hG (fun hG => ?_) (fun hG => ?_)
  · skip
    exact r_mask [true, false, true, false] rfl (Hj11 _ hG)
  · skip
    refine r_iload_n (pc := 4) X dX0_bearing_4 rfl rfl ?_
    refine r_bipush (pc := 5) X dX0_bearing_5 hG (by decide) (fun z13 hG => ?_)
    refine r_icmp_gt (pc := 7) X dX0_bearing_7 (tgt := 19) (by decide) hG (fun hG => ?_) (fun hG => ?_)
    · skip
      exact r_mask [true, false, true, false] rfl (Hj11 _ hG)
    · skip
      refine r_aload_n (pc := 10) X dX0_bearing_10 rfl rfl ?_
      refine r_getC (pc := 11) X (at_X0_o Hb0) rfl mU_X0 (k := 4) (by decide) (q := (b0 + 5)) rfl mF_X0_24 dX0_bearing_11 ?_
      refine r_iload_n (pc := 14) X dX0_bearing_14 rfl rfl ?_
      refine r_iald (pc := 15) X (at_X0_strength Hb0) dX0_bearing_15 hG (fun z14 hG => ?_)
      refine r_goto (pc := 16) X dX0_bearing_16 (tgt := 20) (by decide) ?_
      exact r_mask [true, false, true, false] rfl (Hj2 _ hG z14 rfl)
theorem c_X0_bearing {b0 : Nat} {x1 : Int32} {x2 : Int32} {r : Int} (Hb0 : At_X0 shl b0) (hg : g_X0_bearing b0 x1.toInt x2.toInt h = some r) : Met l yX0_bearing (wsM yX0_bearing cX0_bearing 4 (some .int)) rm_X0_bearing (va_Pc [.ref (ad b0), .int x1, .int x2] (World E ad shl h)) (QcI E ad shl r h) 0 0 (bsA E) :=
  met_of (L0 := [some (.ref (ad b0)), some (.int x1), some (.int x2), none]) rfl rfl rfl (Nat.le_of_ble_eq_true rfl) (fun _ _ _ _ _ _ _ X => w_X0_bearing Hb0 X rfl hg)
abbrev rm_X3_slideFrom : Room := { frames := 2, cells := 0, slots := 0, locals := 47 }
theorem hdd_X3_slideFrom : yX3_slideFrom.cls = RX3 ∧ yX3_slideFrom.cls ≠ "java/lang/invoke/MethodHandle" ∧ yX3_slideFrom.cls ≠ "java/lang/invoke/VarHandle" ∧ (parseMethodDescriptor yX3_slideFrom.desc).map (fun d => d.parameters.length) = some 3 := ⟨rfl, by decide +kernel, by decide +kernel, by decide +kernel⟩
set_option maxRecDepth 100000 in
set_option maxHeartbeats 4000000 in
theorem w_X3_slideFrom {b0 : Nat} {b1 : Nat} {x2 : Int32} {x3 : Int32} {r : Int × Hp} (Hb0 : At_X3 shl b0) (Hb1 : At_X0 shl b1) (X : Cx E p s m args meth c cX3_slideFrom RX3 5 (some .int)) (hQ : Q = MQ below (QcI E ad shl r.1 r.2) args s 0 0 (bsA E)) (hG : g_X3_slideFrom b0 b1 x2.toInt x3.toInt h = some r) : Ev E ad shl p l e rm_X3_slideFrom s m args below meth c 0 0 Q 5 h 0 [some (.ref (ad b0)), some (.ref (ad b1)), some (.int x2), some (.int x3), none] [] := by
  unfold g_X3_slideFrom at hG
  refine r_aload_n (pc := 0) X dX3_slideFrom_0 rfl rfl ?_
  refine r_aload_n (pc := 1) X dX3_slideFrom_1 rfl rfl ?_
  refine r_iload_n (pc := 2) X dX3_slideFrom_2 rfl rfl ?_
  refine r_iload_n (pc := 3) X dX3_slideFrom_3 rfl rfl ?_
  refine r_cP (pc := 4) hG (fun _ hg => runV X dX3_slideFrom_4 (c_X3_lowestBeside Hb0 Hb1 hg) mM_X3_205 mI_X3_lowestBeside mE_X3_lowestBeside mN_X3 mK_X3_lowestBeside (at_X3_o Hb0) rfl rfl rfl rfl hdd_X3_lowestBeside ⟨(Nat.le_of_ble_eq_true rfl), (Nat.le_of_ble_eq_true rfl)⟩ rfl rfl (Nat.le_of_ble_eq_true rfl) ⟨(Nat.le_of_ble_eq_true rfl), (Nat.le_of_ble_eq_true rfl)⟩) (fun z1 hG => ?_)
  refine r_istore (pc := 7) (L' := [some (.ref (ad b0)), some (.ref (ad b1)), some (.int x2), some (.int x3), some (.int z1)]) X dX3_slideFrom_7 (by decide) rfl rfl ?_
  refine r_iload (pc := 9) X dX3_slideFrom_9 rfl ?_
  refine r_iconst (pc := 11) X dX3_slideFrom_11 hG rfl (fun z2 hG => ?_)
  refine r_join hG (fun _ => Ev E ad shl p l e rm_X3_slideFrom s m args below meth c 0 0 Q 5 h 48 [none, none, none, none, none] []) (fun a3 hG => ?_) (fun j4 Hj4 hG => ?_)
  · skip
    refine r_iconst (pc := 48) X dX3_slideFrom_48 hG rfl (fun z5 hG => ?_)
    exact r_iretW (pc := 49) X dX3_slideFrom_49 hQ hG
  refine r_icmp_eq (pc := 12) X dX3_slideFrom_12 (tgt := 48) (by decide) hG (fun hG => ?_) (fun hG => ?_)
  · skip
    exact r_mask [false, false, false, false, false] rfl (Hj4 _ hG)
  · skip
    refine r_aload_n (pc := 15) X dX3_slideFrom_15 rfl rfl ?_
    refine r_getC (pc := 16) X (at_X3_o Hb0) rfl mU_X3 (k := 0) (by decide) (q := (b0 + 1)) rfl mF_X3_9 dX3_slideFrom_16 ?_
    refine r_iload_n (pc := 19) X dX3_slideFrom_19 rfl rfl ?_
    refine r_iald (pc := 20) X (at_X3_height Hb0) dX3_slideFrom_20 hG (fun z6 hG => ?_)
    refine r_aload_n (pc := 21) X dX3_slideFrom_21 rfl rfl ?_
    refine r_getC (pc := 22) X (at_X3_o Hb0) rfl mU_X3 (k := 0) (by decide) (q := (b0 + 1)) rfl mF_X3_9 dX3_slideFrom_22 ?_
    refine r_iload (pc := 25) X dX3_slideFrom_25 rfl ?_
    refine r_iald (pc := 27) X (at_X3_height Hb0) dX3_slideFrom_27 hG (fun z7 hG => ?_)
    refine r_isub (pc := 28) X dX3_slideFrom_28 hG (fun z8 hG => ?_)
    refine r_aload_n (pc := 29) X dX3_slideFrom_29 rfl rfl ?_
    refine r_aload_n (pc := 30) X dX3_slideFrom_30 rfl rfl ?_
    refine r_getC (pc := 31) X (at_X3_o Hb0) rfl mU_X3 (k := 1) (by decide) (q := (b0 + 2)) rfl mF_X3_15 dX3_slideFrom_31 ?_
    refine r_iload_n (pc := 34) X dX3_slideFrom_34 rfl rfl ?_
    refine r_iald (pc := 35) X (at_X3_wet Hb0) dX3_slideFrom_35 hG (fun z9 hG => ?_)
    refine r_aload_n (pc := 36) X dX3_slideFrom_36 rfl rfl ?_
    refine r_getC (pc := 37) X (at_X3_o Hb0) rfl mU_X3 (k := 2) (by decide) (q := (b0 + 3)) rfl mF_X3_18 dX3_slideFrom_37 ?_
    refine r_iload_n (pc := 40) X dX3_slideFrom_40 rfl rfl ?_
    refine r_iald (pc := 41) X (at_X3_pack Hb0) dX3_slideFrom_41 hG (fun z10 hG => ?_)
    refine r_cP (pc := 42) hG (fun _ hg => runV X dX3_slideFrom_42 (c_X0_bearing Hb1 hg) mM_X3_208 mI_X0_bearing mE_X0_bearing mN_X0 mK_X0_bearing (at_X0_o Hb1) rfl rfl rfl rfl hdd_X0_bearing ⟨(Nat.le_of_ble_eq_true rfl), (Nat.le_of_ble_eq_true rfl)⟩ rfl rfl (Nat.le_of_ble_eq_true rfl) ⟨(Nat.le_of_ble_eq_true rfl), (Nat.le_of_ble_eq_true rfl)⟩) (fun z11 hG => ?_)
    refine r_icmp_gt (pc := 45) X dX3_slideFrom_45 (tgt := 50) (by decide) hG (fun hG => ?_) (fun hG => ?_)
    · skip
      refine r_aload_n (pc := 50) X dX3_slideFrom_50 rfl rfl ?_
      refine r_iload_n (pc := 51) X dX3_slideFrom_51 rfl rfl ?_
      refine r_iload (pc := 52) X dX3_slideFrom_52 rfl ?_
      refine r_cV (pc := 54) hG (fun _ hg => runV X dX3_slideFrom_54 (c_X3_moveUnit Hb0 hg) mM_X3_143 mI_X3_moveUnit mE_X3_moveUnit mN_X3 mK_X3_moveUnit (at_X3_o Hb0) rfl rfl rfl rfl hdd_X3_moveUnit ⟨(Nat.le_of_ble_eq_true rfl), (Nat.le_of_ble_eq_true rfl)⟩ rfl rfl (Nat.le_of_ble_eq_true rfl) ⟨(Nat.le_of_ble_eq_true rfl), (Nat.le_of_ble_eq_true rfl)⟩) (fun h12 hG => ?_)
      refine r_iconst (pc := 57) X dX3_slideFrom_57 hG rfl (fun z13 hG => ?_)
      exact r_iretW (pc := 58) X dX3_slideFrom_58 hQ hG
    · skip
      exact r_mask [false, false, false, false, false] rfl (Hj4 _ hG)
theorem c_X3_slideFrom {b0 : Nat} {b1 : Nat} {x2 : Int32} {x3 : Int32} {r : Int × Hp} (Hb0 : At_X3 shl b0) (Hb1 : At_X0 shl b1) (hg : g_X3_slideFrom b0 b1 x2.toInt x3.toInt h = some r) : Met l yX3_slideFrom (wsM yX3_slideFrom cX3_slideFrom 5 (some .int)) rm_X3_slideFrom (va_Pc [.ref (ad b0), .ref (ad b1), .int x2, .int x3] (World E ad shl h)) (QcI E ad shl r.1 r.2) 0 0 (bsA E) :=
  met_of (L0 := [some (.ref (ad b0)), some (.ref (ad b1)), some (.int x2), some (.int x3), none]) rfl rfl rfl (Nat.le_of_ble_eq_true rfl) (fun _ _ _ _ _ _ _ X => w_X3_slideFrom Hb0 Hb1 X rfl hg)
abbrev rm_X3_slide : Room := { frames := 3, cells := 0, slots := 0, locals := 71 }
theorem hdd_X3_slide : yX3_slide.cls = RX3 ∧ yX3_slide.cls ≠ "java/lang/invoke/MethodHandle" ∧ yX3_slide.cls ≠ "java/lang/invoke/VarHandle" ∧ (parseMethodDescriptor yX3_slide.desc).map (fun d => d.parameters.length) = some 1 := ⟨rfl, by decide +kernel, by decide +kernel, by decide +kernel⟩
set_option maxRecDepth 100000 in
set_option maxHeartbeats 4000000 in
theorem w_X3_slide {b0 : Nat} {b1 : Nat} {r : Hp} (Hb0 : At_X3 shl b0) (Hb1 : At_X0 shl b1) (X : Cx E p s m args meth c cX3_slide RX3 9 none) (hQ : Q = MQ below (QcV E ad shl r) args s 0 0 (bsA E)) (hG : g_X3_slide b0 b1 h = some r) : Ev E ad shl p l e rm_X3_slide s m args below meth c 0 0 Q 9 h 0 [some (.ref (ad b0)), some (.ref (ad b1)), none, none, none, none, none, none, none] [] := by
  unfold g_X3_slide at hG
  refine r_aload_n (pc := 0) X dX3_slide_0 rfl rfl ?_
  refine r_cP (pc := 1) hG (fun _ hg => runV X dX3_slide_1 (c_X0_columns Hb1 hg) mM_X3_180 mI_X0_columns mE_X0_columns mN_X0 mK_X0_columns (at_X0_o Hb1) rfl rfl rfl rfl hdd_X0_columns ⟨(Nat.le_of_ble_eq_true rfl), (Nat.le_of_ble_eq_true rfl)⟩ rfl rfl (Nat.le_of_ble_eq_true rfl) ⟨(Nat.le_of_ble_eq_true rfl), (Nat.le_of_ble_eq_true rfl)⟩) (fun z1 hG => ?_)
  refine r_istore_n (pc := 4) (L' := [some (.ref (ad b0)), some (.ref (ad b1)), some (.int z1), none, none, none, none, none, none]) X dX3_slide_4 rfl (by decide) rfl rfl ?_
  refine r_aload_n (pc := 5) X dX3_slide_5 rfl rfl ?_
  refine r_cP (pc := 6) hG (fun _ hg => runV X dX3_slide_6 (c_X0_rows Hb1 hg) mM_X3_198 mI_X0_rows mE_X0_rows mN_X0 mK_X0_rows (at_X0_o Hb1) rfl rfl rfl rfl hdd_X0_rows ⟨(Nat.le_of_ble_eq_true rfl), (Nat.le_of_ble_eq_true rfl)⟩ rfl rfl (Nat.le_of_ble_eq_true rfl) ⟨(Nat.le_of_ble_eq_true rfl), (Nat.le_of_ble_eq_true rfl)⟩) (fun z2 hG => ?_)
  refine r_istore_n (pc := 9) (L' := [some (.ref (ad b0)), some (.ref (ad b1)), some (.int z1), some (.int z2), none, none, none, none, none]) X dX3_slide_9 rfl (by decide) rfl rfl ?_
  refine r_aload_n (pc := 10) X dX3_slide_10 rfl rfl ?_
  refine r_iconst (pc := 11) X dX3_slide_11 hG rfl (fun z3 hG => ?_)
  refine r_putI (pc := 12) X (at_X3_o Hb0) rfl mU_X3 (k := 12) (by decide) rfl rfl rfl mF_X3_71 dX3_slide_12 hG (fun h4 hG => ?_)
  refine r_aload_n (pc := 15) X dX3_slide_15 rfl rfl ?_
  refine r_iconst (pc := 16) X dX3_slide_16 hG rfl (fun z5 hG => ?_)
  refine r_putI (pc := 17) X (at_X3_o Hb0) rfl mU_X3 (k := 13) (by decide) rfl rfl rfl mF_X3_74 dX3_slide_17 hG (fun h6 hG => ?_)
  refine r_iconst (pc := 20) X dX3_slide_20 hG rfl (fun z7 hG => ?_)
  refine r_istore (pc := 21) (L' := [some (.ref (ad b0)), some (.ref (ad b1)), some (.int z1), some (.int z2), some (.int z7), none, none, none, none]) X dX3_slide_21 (by decide) rfl rfl ?_
  refine r_join hG (fun a8 => ∀ (h10 : Hp), a8 = h10 → Ev E ad shl p l e rm_X3_slide s m args below meth c 0 0 Q 9 h10 161 [some (.ref (ad b0)), none, none, none, none, none, none, none, none] []) (fun a8 hG => ?_) (fun j9 Hj9 hG => ?_)
  · skip
    intro h10 ha; have ha := ha.symm; subst ha
    refine r_aload_n (pc := 161) X dX3_slide_161 rfl rfl ?_
    refine r_dup (pc := 162) X dX3_slide_162 rfl ?_
    refine r_getI (pc := 163) X (at_X3_o Hb0) rfl mU_X3 (k := 11) (by decide) rfl mF_X3_68 dX3_slide_163 hG (fun z11 hG => ?_)
    refine r_aload_n (pc := 166) X dX3_slide_166 rfl rfl ?_
    refine r_getI (pc := 167) X (at_X3_o Hb0) rfl mU_X3 (k := 12) (by decide) rfl mF_X3_71 dX3_slide_167 hG (fun z12 hG => ?_)
    refine r_iadd (pc := 170) X dX3_slide_170 hG (fun z13 hG => ?_)
    refine r_putI (pc := 171) X (at_X3_o Hb0) rfl mU_X3 (k := 11) (by decide) rfl rfl rfl mF_X3_68 dX3_slide_171 hG (fun h14 hG => ?_)
    exact r_vret (pc := 174) X dX3_slide_174 hQ hG
  refine r_mask [true, true, true, true, true, false, false, false, false] rfl (r_loop (fun q15 => ∀ (y17 : Int32) (h18 : Hp), q15 = (y17.toInt, h18) → Ev E ad shl p l e rm_X3_slide s m args below meth c 0 0 Q 9 h18 23 [some (.ref (ad b0)), some (.ref (ad b1)), some (.int z1), some (.int z2), some (.int y17), none, none, none, none] []) (fun l16 Hl16 q15 hG => ?_) FU _ hG z7 h6 rfl)
  intro y17 h18 ha; have ha := ha.symm; subst ha
  unfold g_X3_slide_l16 at hG
  refine r_iload (pc := 23) X dX3_slide_23 rfl ?_
  refine r_bipush (pc := 25) X dX3_slide_25 hG (by decide) (fun z19 hG => ?_)
  refine r_icmp_ge (pc := 27) X dX3_slide_27 (tgt := 161) (by decide) hG (fun hG => ?_) (fun hG => ?_)
  · skip
    exact r_mask [true, false, false, false, false, false, false, false, false] rfl (Hj9 _ hG h18 rfl)
  · skip
    refine r_aload_n (pc := 30) X dX3_slide_30 rfl rfl ?_
    refine r_getI (pc := 31) X (at_X3_o Hb0) rfl mU_X3 (k := 15) (by decide) rfl mF_X3_80 dX3_slide_31 hG (fun z20 hG => ?_)
    refine r_if_ne (pc := 34) X dX3_slide_34 (tgt := 161) (by decide) hG (fun hG => ?_) (fun hG => ?_)
    · skip
      exact r_mask [true, false, false, false, false, false, false, false, false] rfl (Hj9 _ hG h18 rfl)
    · skip
      refine r_iconst (pc := 37) X dX3_slide_37 hG rfl (fun z21 hG => ?_)
      refine r_istore (pc := 38) (L' := [some (.ref (ad b0)), some (.ref (ad b1)), some (.int z1), some (.int z2), some (.int y17), some (.int z21), none, none, none]) X dX3_slide_38 (by decide) rfl rfl ?_
      refine r_iconst (pc := 40) X dX3_slide_40 hG rfl (fun z22 hG => ?_)
      refine r_istore (pc := 41) (L' := [some (.ref (ad b0)), some (.ref (ad b1)), some (.int z1), some (.int z2), some (.int y17), some (.int z21), some (.int z22), none, none]) X dX3_slide_41 (by decide) rfl rfl ?_
      refine r_iconst (pc := 43) X dX3_slide_43 hG rfl (fun z23 hG => ?_)
      refine r_istore (pc := 44) (L' := [some (.ref (ad b0)), some (.ref (ad b1)), some (.int z1), some (.int z2), some (.int y17), some (.int z21), some (.int z22), some (.int z23), none]) X dX3_slide_44 (by decide) rfl rfl ?_
      refine r_join hG (fun a24 => ∀ (y26 : Int32) (h27 : Hp), a24 = (y26.toInt, h27) → Ev E ad shl p l e rm_X3_slide s m args below meth c 0 0 Q 9 h27 111 [some (.ref (ad b0)), some (.ref (ad b1)), some (.int z1), some (.int z2), some (.int y17), some (.int y26), none, none, none] []) (fun a24 hG => ?_) (fun j25 Hj25 hG => ?_)
      · skip
        intro y26 h27 ha; have ha := ha.symm; subst ha
        refine r_aload_n (pc := 111) X dX3_slide_111 rfl rfl ?_
        refine r_dup (pc := 112) X dX3_slide_112 rfl ?_
        refine r_getI (pc := 113) X (at_X3_o Hb0) rfl mU_X3 (k := 12) (by decide) rfl mF_X3_71 dX3_slide_113 hG (fun z28 hG => ?_)
        refine r_iload (pc := 116) X dX3_slide_116 rfl ?_
        refine r_iadd (pc := 118) X dX3_slide_118 hG (fun z29 hG => ?_)
        refine r_putI (pc := 119) X (at_X3_o Hb0) rfl mU_X3 (k := 12) (by decide) rfl rfl rfl mF_X3_71 dX3_slide_119 hG (fun h30 hG => ?_)
        refine r_aload_n (pc := 122) X dX3_slide_122 rfl rfl ?_
        refine r_dup (pc := 123) X dX3_slide_123 rfl ?_
        refine r_getI (pc := 124) X (at_X3_o Hb0) rfl mU_X3 (k := 13) (by decide) rfl mF_X3_74 dX3_slide_124 hG (fun z31 hG => ?_)
        refine r_iload (pc := 127) X dX3_slide_127 rfl ?_
        refine r_join hG (fun a32 => ∀ (y34 : Int32), a32 = y34.toInt → Ev E ad shl p l e rm_X3_slide s m args below meth c 0 0 Q 9 h30 137 [some (.ref (ad b0)), some (.ref (ad b1)), some (.int z1), some (.int z2), some (.int y17), some (.int y26), none, none, none] [.int y34, .int z31, .ref (ad b0)]) (fun a32 hG => ?_) (fun j33 Hj33 hG => ?_)
        · skip
          intro y34 ha; have ha := ha.symm; subst ha
          refine r_iadd (pc := 137) X dX3_slide_137 hG (fun z35 hG => ?_)
          refine r_putI (pc := 138) X (at_X3_o Hb0) rfl mU_X3 (k := 13) (by decide) rfl rfl rfl mF_X3_74 dX3_slide_138 hG (fun h36 hG => ?_)
          refine r_aload_n (pc := 141) X dX3_slide_141 rfl rfl ?_
          refine r_iload (pc := 142) X dX3_slide_142 rfl ?_
          refine r_join hG (fun a37 => ∀ (y39 : Int32), a37 = y39.toInt → Ev E ad shl p l e rm_X3_slide s m args below meth c 0 0 Q 9 h36 152 [some (.ref (ad b0)), some (.ref (ad b1)), some (.int z1), some (.int z2), some (.int y17), none, none, none, none] [.int y39, .ref (ad b0)]) (fun a37 hG => ?_) (fun j38 Hj38 hG => ?_)
          · skip
            intro y39 ha; have ha := ha.symm; subst ha
            refine r_putZ (pc := 152) X (at_X3_o Hb0) rfl mU_X3 (k := 15) (by decide) rfl rfl rfl mF_X3_80 dX3_slide_152 hG (fun h40 hG => ?_)
            refine r_iinc (pc := 155) (L' := fun z41 => [some (.ref (ad b0)), some (.ref (ad b1)), some (.int z1), some (.int z2), some (.int z41), none, none, none, none]) X dX3_slide_155 (by decide) rfl rfl (by decide) (fun _ => rfl) hG (fun z41 hG => ?_)
            refine r_goto (pc := 158) X dX3_slide_158 (tgt := 23) (by decide) ?_
            exact r_mask [true, true, true, true, true, false, false, false, false] rfl (Hl16 _ hG z41 h40 rfl)
          refine r_if_ne (pc := 144) X dX3_slide_144 (tgt := 151) (by decide) hG (fun hG => ?_) (fun hG => ?_)
          · skip
            refine r_iconst (pc := 151) X dX3_slide_151 hG rfl (fun z42 hG => ?_)
            exact r_mask [true, true, true, true, true, false, false, false, false] rfl (Hj38 _ hG z42 rfl)
          · skip
            refine r_iconst (pc := 147) X dX3_slide_147 hG rfl (fun z43 hG => ?_)
            refine r_goto (pc := 148) X dX3_slide_148 (tgt := 152) (by decide) ?_
            exact r_mask [true, true, true, true, true, false, false, false, false] rfl (Hj38 _ hG z43 rfl)
        refine r_if_le (pc := 129) X dX3_slide_129 (tgt := 136) (by decide) hG (fun hG => ?_) (fun hG => ?_)
        · skip
          refine r_iconst (pc := 136) X dX3_slide_136 hG rfl (fun z44 hG => ?_)
          exact r_mask [true, true, true, true, true, true, false, false, false] rfl (Hj33 _ hG z44 rfl)
        · skip
          refine r_iconst (pc := 132) X dX3_slide_132 hG rfl (fun z45 hG => ?_)
          refine r_goto (pc := 133) X dX3_slide_133 (tgt := 137) (by decide) ?_
          exact r_mask [true, true, true, true, true, true, false, false, false] rfl (Hj33 _ hG z45 rfl)
      refine r_mask [true, true, true, true, true, true, true, true, false] rfl (r_loop (fun q46 => ∀ (y48 : Int32) (y49 : Int32) (y50 : Int32) (h51 : Hp), q46 = (y48.toInt, y49.toInt, y50.toInt, h51) → Ev E ad shl p l e rm_X3_slide s m args below meth c 0 0 Q 9 h51 46 [some (.ref (ad b0)), some (.ref (ad b1)), some (.int z1), some (.int z2), some (.int y17), some (.int y48), some (.int y49), some (.int y50), none] []) (fun l47 Hl47 q46 hG => ?_) FU _ hG z21 z22 z23 h18 rfl)
      intro y48 y49 y50 h51 ha; have ha := ha.symm; subst ha
      unfold g_X3_slide_l47 at hG
      refine r_iload (pc := 46) X dX3_slide_46 rfl ?_
      refine r_iload_n (pc := 48) X dX3_slide_48 rfl rfl ?_
      refine r_icmp_ge (pc := 49) X dX3_slide_49 (tgt := 111) (by decide) hG (fun hG => ?_) (fun hG => ?_)
      · skip
        exact r_mask [true, true, true, true, true, true, false, false, false] rfl (Hj25 _ hG y48 h51 rfl)
      · skip
        refine r_iconst (pc := 52) X dX3_slide_52 hG rfl (fun z52 hG => ?_)
        refine r_istore (pc := 53) (L' := [some (.ref (ad b0)), some (.ref (ad b1)), some (.int z1), some (.int z2), some (.int y17), some (.int y48), some (.int y49), some (.int y50), some (.int z52)]) X dX3_slide_53 (by decide) rfl rfl ?_
        refine r_join hG (fun a53 => ∀ (y55 : Int32) (y56 : Int32) (h57 : Hp), a53 = (y55.toInt, y56.toInt, h57) → Ev E ad shl p l e rm_X3_slide s m args below meth c 0 0 Q 9 h57 105 [some (.ref (ad b0)), some (.ref (ad b1)), some (.int z1), some (.int z2), some (.int y17), some (.int y55), some (.int y56), some (.int y50), none] []) (fun a53 hG => ?_) (fun j54 Hj54 hG => ?_)
        · skip
          intro y55 y56 h57 ha; have ha := ha.symm; subst ha
          refine r_iinc (pc := 105) (L' := fun z58 => [some (.ref (ad b0)), some (.ref (ad b1)), some (.int z1), some (.int z2), some (.int y17), some (.int y55), some (.int y56), some (.int z58), none]) X dX3_slide_105 (by decide) rfl rfl (by decide) (fun _ => rfl) hG (fun z58 hG => ?_)
          refine r_goto (pc := 108) X dX3_slide_108 (tgt := 46) (by decide) ?_
          exact r_mask [true, true, true, true, true, true, true, true, false] rfl (Hl47 _ hG y55 y56 z58 h57 rfl)
        refine r_mask [true, true, true, true, true, true, true, true, true] rfl (r_loop (fun q59 => ∀ (y61 : Int32) (y62 : Int32) (y63 : Int32) (h64 : Hp), q59 = (y61.toInt, y62.toInt, y63.toInt, h64) → Ev E ad shl p l e rm_X3_slide s m args below meth c 0 0 Q 9 h64 55 [some (.ref (ad b0)), some (.ref (ad b1)), some (.int z1), some (.int z2), some (.int y17), some (.int y61), some (.int y62), some (.int y50), some (.int y63)] []) (fun l60 Hl60 q59 hG => ?_) FU _ hG y48 y49 z52 h51 rfl)
        intro y61 y62 y63 h64 ha; have ha := ha.symm; subst ha
        unfold g_X3_slide_l60 at hG
        refine r_iload (pc := 55) X dX3_slide_55 rfl ?_
        refine r_iload_n (pc := 57) X dX3_slide_57 rfl rfl ?_
        refine r_icmp_ge (pc := 58) X dX3_slide_58 (tgt := 105) (by decide) hG (fun hG => ?_) (fun hG => ?_)
        · skip
          exact r_mask [true, true, true, true, true, true, true, true, false] rfl (Hj54 _ hG y61 y62 h64 rfl)
        · skip
          refine r_aload_n (pc := 61) X dX3_slide_61 rfl rfl ?_
          refine r_getC (pc := 62) X (at_X3_o Hb0) rfl mU_X3 (k := 0) (by decide) (q := (b0 + 1)) rfl mF_X3_9 dX3_slide_62 ?_
          refine r_iload (pc := 65) X dX3_slide_65 rfl ?_
          refine r_iald (pc := 67) X (at_X3_height Hb0) dX3_slide_67 hG (fun z65 hG => ?_)
          refine r_iconst (pc := 68) X dX3_slide_68 hG rfl (fun z66 hG => ?_)
          refine r_join hG (fun a67 => ∀ (y69 : Int32) (h70 : Hp), a67 = (y69.toInt, h70) → Ev E ad shl p l e rm_X3_slide s m args below meth c 0 0 Q 9 h70 96 [some (.ref (ad b0)), some (.ref (ad b1)), some (.int z1), some (.int z2), some (.int y17), some (.int y69), some (.int y62), some (.int y50), some (.int y63)] []) (fun a67 hG => ?_) (fun j68 Hj68 hG => ?_)
          · skip
            intro y69 h70 ha; have ha := ha.symm; subst ha
            refine r_iinc (pc := 96) (L' := fun z71 => [some (.ref (ad b0)), some (.ref (ad b1)), some (.int z1), some (.int z2), some (.int y17), some (.int y69), some (.int z71), some (.int y50), some (.int y63)]) X dX3_slide_96 (by decide) rfl rfl (by decide) (fun _ => rfl) hG (fun z71 hG => ?_)
            refine r_iinc (pc := 99) (L' := fun z72 => [some (.ref (ad b0)), some (.ref (ad b1)), some (.int z1), some (.int z2), some (.int y17), some (.int y69), some (.int z71), some (.int y50), some (.int z72)]) X dX3_slide_99 (by decide) rfl rfl (by decide) (fun _ => rfl) hG (fun z72 hG => ?_)
            refine r_goto (pc := 102) X dX3_slide_102 (tgt := 55) (by decide) ?_
            exact r_mask [true, true, true, true, true, true, true, true, true] rfl (Hl60 _ hG y69 z71 z72 h70 rfl)
          refine r_icmp_le (pc := 69) X dX3_slide_69 (tgt := 96) (by decide) hG (fun hG => ?_) (fun hG => ?_)
          · skip
            exact r_mask [true, true, true, true, true, true, true, true, true] rfl (Hj68 _ hG y61 h64 rfl)
          · skip
            refine r_aload_n (pc := 72) X dX3_slide_72 rfl rfl ?_
            refine r_getC (pc := 73) X (at_X3_o Hb0) rfl mU_X3 (k := 3) (by decide) (q := (b0 + 4)) rfl mF_X3_21 dX3_slide_73 ?_
            refine r_iload (pc := 76) X dX3_slide_76 rfl ?_
            refine r_iald (pc := 78) X (at_X3_stone Hb0) dX3_slide_78 hG (fun z73 hG => ?_)
            refine r_if_ne (pc := 79) X dX3_slide_79 (tgt := 96) (by decide) hG (fun hG => ?_) (fun hG => ?_)
            · skip
              exact r_mask [true, true, true, true, true, true, true, true, true] rfl (Hj68 _ hG y61 h64 rfl)
            · skip
              refine r_iload (pc := 82) X dX3_slide_82 rfl ?_
              refine r_aload_n (pc := 84) X dX3_slide_84 rfl rfl ?_
              refine r_aload_n (pc := 85) X dX3_slide_85 rfl rfl ?_
              refine r_iload (pc := 86) X dX3_slide_86 rfl ?_
              refine r_iload (pc := 88) X dX3_slide_88 rfl ?_
              refine r_cW (pc := 90) hG (fun _ hg => runV X dX3_slide_90 (c_X3_slideFrom Hb0 Hb1 hg) mM_X3_201 mI_X3_slideFrom mE_X3_slideFrom mN_X3 mK_X3_slideFrom (at_X3_o Hb0) rfl rfl rfl rfl hdd_X3_slideFrom ⟨(Nat.le_of_ble_eq_true rfl), (Nat.le_of_ble_eq_true rfl)⟩ rfl rfl (Nat.le_of_ble_eq_true rfl) ⟨(Nat.le_of_ble_eq_true rfl), (Nat.le_of_ble_eq_true rfl)⟩) (fun z74 h75 hG => ?_)
              refine r_iadd (pc := 93) X dX3_slide_93 hG (fun z76 hG => ?_)
              refine r_istore (pc := 94) (L' := [some (.ref (ad b0)), some (.ref (ad b1)), some (.int z1), some (.int z2), some (.int y17), some (.int z76), some (.int y62), some (.int y50), some (.int y63)]) X dX3_slide_94 (by decide) rfl rfl ?_
              exact r_mask [true, true, true, true, true, true, true, true, true] rfl (Hj68 _ hG z76 h75 rfl)
theorem c_X3_slide {b0 : Nat} {b1 : Nat} {r : Hp} (Hb0 : At_X3 shl b0) (Hb1 : At_X0 shl b1) (hg : g_X3_slide b0 b1 h = some r) : Met l yX3_slide (wsM yX3_slide cX3_slide 9 none) rm_X3_slide (va_Pc [.ref (ad b0), .ref (ad b1)] (World E ad shl h)) (QcV E ad shl r) 0 0 (bsA E) :=
  met_of (L0 := [some (.ref (ad b0)), some (.ref (ad b1)), none, none, none, none, none, none, none]) rfl rfl rfl (Nat.le_of_ble_eq_true rfl) (fun _ _ _ _ _ _ _ X => w_X3_slide Hb0 Hb1 X rfl hg)
abbrev rm_X0_fall : Room := { frames := 0, cells := 0, slots := 0, locals := 0 }
theorem hdd_X0_fall : yX0_fall.cls = RX0 ∧ yX0_fall.cls ≠ "java/lang/invoke/MethodHandle" ∧ yX0_fall.cls ≠ "java/lang/invoke/VarHandle" ∧ (parseMethodDescriptor yX0_fall.desc).map (fun d => d.parameters.length) = some 0 := ⟨rfl, by decide +kernel, by decide +kernel, by decide +kernel⟩
set_option maxRecDepth 100000 in
set_option maxHeartbeats 4000000 in
theorem w_X0_fall {b0 : Nat} {r : Int} (Hb0 : At_X0 shl b0) (X : Cx E p s m args meth c cX0_fall RX0 1 (some .int)) (hQ : Q = MQ below (QcI E ad shl r h) args s 0 0 (bsA E)) (hG : g_X0_fall b0 h = some r) : Ev E ad shl p l e rm_X0_fall s m args below meth c 0 0 Q 1 h 0 [some (.ref (ad b0))] [] := by
  unfold g_X0_fall at hG
  refine r_aload_n (pc := 0) X dX0_fall_0 rfl rfl ?_
  refine r_getC (pc := 1) X (at_X0_o Hb0) rfl mU_X0 (k := 0) (by decide) (q := (b0 + 1)) rfl mF_X0_11 dX0_fall_1 ?_
  refine r_bipush (pc := 4) X dX0_fall_4 hG (by decide) (fun z1 hG => ?_)
  refine r_iald (pc := 6) X (at_X0_numbers Hb0) dX0_fall_6 hG (fun z2 hG => ?_)
  exact r_iretP (pc := 7) X dX0_fall_7 hQ hG
theorem c_X0_fall {b0 : Nat} {r : Int} (Hb0 : At_X0 shl b0) (hg : g_X0_fall b0 h = some r) : Met l yX0_fall (wsM yX0_fall cX0_fall 1 (some .int)) rm_X0_fall (va_Pc [.ref (ad b0)] (World E ad shl h)) (QcI E ad shl r h) 0 0 (bsA E) :=
  met_of (L0 := [some (.ref (ad b0))]) rfl rfl rfl (Nat.le_of_ble_eq_true rfl) (fun _ _ _ _ _ _ _ X => w_X0_fall Hb0 X rfl hg)
abbrev rm_X3_dropFlags : Room := { frames := 1, cells := 0, slots := 0, locals := 21 }
theorem hdd_X3_dropFlags : yX3_dropFlags.cls = RX3 ∧ yX3_dropFlags.cls ≠ "java/lang/invoke/MethodHandle" ∧ yX3_dropFlags.cls ≠ "java/lang/invoke/VarHandle" ∧ (parseMethodDescriptor yX3_dropFlags.desc).map (fun d => d.parameters.length) = some 1 := ⟨rfl, by decide +kernel, by decide +kernel, by decide +kernel⟩
set_option maxRecDepth 100000 in
set_option maxHeartbeats 4000000 in
theorem w_X3_dropFlags {b0 : Nat} {b1 : Nat} {r : Hp} (Hb0 : At_X3 shl b0) (Hb1 : At_X0 shl b1) (X : Cx E p s m args meth c cX3_dropFlags RX3 4 none) (hQ : Q = MQ below (QcV E ad shl r) args s 0 0 (bsA E)) (hG : g_X3_dropFlags b0 b1 h = some r) : Ev E ad shl p l e rm_X3_dropFlags s m args below meth c 0 0 Q 4 h 0 [some (.ref (ad b0)), some (.ref (ad b1)), none, none] [] := by
  unfold g_X3_dropFlags at hG
  refine r_iconst (pc := 0) X dX3_dropFlags_0 hG rfl (fun z1 hG => ?_)
  refine r_istore_n (pc := 1) (L' := [some (.ref (ad b0)), some (.ref (ad b1)), some (.int z1), none]) X dX3_dropFlags_1 rfl (by decide) rfl rfl ?_
  refine r_join hG (fun a2 => ∀ (h4 : Hp), a2 = h4 → Ev E ad shl p l e rm_X3_dropFlags s m args below meth c 0 0 Q 4 h4 67 [none, none, none, none] []) (fun a2 hG => ?_) (fun j3 Hj3 hG => ?_)
  · skip
    intro h4 ha; have ha := ha.symm; subst ha
    exact r_vret (pc := 67) X dX3_dropFlags_67 hQ hG
  refine r_mask [true, true, true, false] rfl (r_loop (fun q5 => ∀ (y7 : Int32) (h8 : Hp), q5 = (y7.toInt, h8) → Ev E ad shl p l e rm_X3_dropFlags s m args below meth c 0 0 Q 4 h8 2 [some (.ref (ad b0)), some (.ref (ad b1)), some (.int y7), none] []) (fun l6 Hl6 q5 hG => ?_) FU _ hG z1 h rfl)
  intro y7 h8 ha; have ha := ha.symm; subst ha
  unfold g_X3_dropFlags_l6 at hG
  refine r_iload_n (pc := 2) X dX3_dropFlags_2 rfl rfl ?_
  refine r_aload_n (pc := 3) X dX3_dropFlags_3 rfl rfl ?_
  refine r_getI (pc := 4) X (at_X0_o Hb1) rfl mU_X0 (k := 5) (by decide) rfl mF_X3_214 dX3_dropFlags_4 hG (fun z9 hG => ?_)
  refine r_icmp_ge (pc := 7) X dX3_dropFlags_7 (tgt := 67) (by decide) hG (fun hG => ?_) (fun hG => ?_)
  · skip
    exact r_mask [false, false, false, false] rfl (Hj3 _ hG h8 rfl)
  · skip
    refine r_iload_n (pc := 10) X dX3_dropFlags_10 rfl rfl ?_
    refine r_iconst (pc := 11) X dX3_dropFlags_11 hG rfl (fun z10 hG => ?_)
    refine r_icmp_ge (pc := 12) X dX3_dropFlags_12 (tgt := 67) (by decide) hG (fun hG => ?_) (fun hG => ?_)
    · skip
      exact r_mask [false, false, false, false] rfl (Hj3 _ hG h8 rfl)
    · skip
      refine r_aload_n (pc := 15) X dX3_dropFlags_15 rfl rfl ?_
      refine r_getC (pc := 16) X (at_X0_o Hb1) rfl mU_X0 (k := 3) (by decide) (q := (b1 + 4)) rfl mF_X3_217 dX3_dropFlags_16 ?_
      refine r_iload_n (pc := 19) X dX3_dropFlags_19 rfl rfl ?_
      refine r_iald (pc := 20) X (at_X0_flagCells Hb1) dX3_dropFlags_20 hG (fun z11 hG => ?_)
      refine r_istore_n (pc := 21) (L' := [some (.ref (ad b0)), some (.ref (ad b1)), some (.int y7), some (.int z11)]) X dX3_dropFlags_21 rfl (by decide) rfl rfl ?_
      refine r_aload_n (pc := 22) X dX3_dropFlags_22 rfl rfl ?_
      refine r_getC (pc := 23) X (at_X3_o Hb0) rfl mU_X3 (k := 4) (by decide) (q := (b0 + 5)) rfl mF_X3_24 dX3_dropFlags_23 ?_
      refine r_iload_n (pc := 26) X dX3_dropFlags_26 rfl rfl ?_
      refine r_iald (pc := 27) X (at_X3_fell Hb0) dX3_dropFlags_27 hG (fun z12 hG => ?_)
      refine r_iconst (pc := 28) X dX3_dropFlags_28 hG rfl (fun z13 hG => ?_)
      refine r_join hG (fun a14 => ∀ (h16 : Hp), a14 = h16 → Ev E ad shl p l e rm_X3_dropFlags s m args below meth c 0 0 Q 4 h16 61 [some (.ref (ad b0)), some (.ref (ad b1)), some (.int y7), none] []) (fun a14 hG => ?_) (fun j15 Hj15 hG => ?_)
      · skip
        intro h16 ha; have ha := ha.symm; subst ha
        refine r_iinc (pc := 61) (L' := fun z17 => [some (.ref (ad b0)), some (.ref (ad b1)), some (.int z17), none]) X dX3_dropFlags_61 (by decide) rfl rfl (by decide) (fun _ => rfl) hG (fun z17 hG => ?_)
        refine r_goto (pc := 64) X dX3_dropFlags_64 (tgt := 2) (by decide) ?_
        exact r_mask [true, true, true, false] rfl (Hl6 _ hG z17 h16 rfl)
      refine r_icmp_ne (pc := 29) X dX3_dropFlags_29 (tgt := 61) (by decide) hG (fun hG => ?_) (fun hG => ?_)
      · skip
        exact r_mask [true, true, true, false] rfl (Hj15 _ hG h8 rfl)
      · skip
        refine r_aload_n (pc := 32) X dX3_dropFlags_32 rfl rfl ?_
        refine r_getC (pc := 33) X (at_X3_o Hb0) rfl mU_X3 (k := 0) (by decide) (q := (b0 + 1)) rfl mF_X3_9 dX3_dropFlags_33 ?_
        refine r_iload_n (pc := 36) X dX3_dropFlags_36 rfl rfl ?_
        refine r_iald (pc := 37) X (at_X3_height Hb0) dX3_dropFlags_37 hG (fun z18 hG => ?_)
        refine r_aload_n (pc := 38) X dX3_dropFlags_38 rfl rfl ?_
        refine r_iload_n (pc := 39) X dX3_dropFlags_39 rfl rfl ?_
        refine r_cP (pc := 40) hG (fun _ hg => runV X dX3_dropFlags_40 (c_X0_firstHeight Hb1 hg) mM_X3_40 mI_X0_firstHeight mE_X0_firstHeight mN_X0 mK_X0_firstHeight (at_X0_o Hb1) rfl rfl rfl rfl hdd_X0_firstHeight ⟨(Nat.le_of_ble_eq_true rfl), (Nat.le_of_ble_eq_true rfl)⟩ rfl rfl (Nat.le_of_ble_eq_true rfl) ⟨(Nat.le_of_ble_eq_true rfl), (Nat.le_of_ble_eq_true rfl)⟩) (fun z19 hG => ?_)
        refine r_aload_n (pc := 43) X dX3_dropFlags_43 rfl rfl ?_
        refine r_cP (pc := 44) hG (fun _ hg => runV X dX3_dropFlags_44 (c_X0_fall Hb1 hg) mM_X3_220 mI_X0_fall mE_X0_fall mN_X0 mK_X0_fall (at_X0_o Hb1) rfl rfl rfl rfl hdd_X0_fall ⟨(Nat.le_of_ble_eq_true rfl), (Nat.le_of_ble_eq_true rfl)⟩ rfl rfl (Nat.le_of_ble_eq_true rfl) ⟨(Nat.le_of_ble_eq_true rfl), (Nat.le_of_ble_eq_true rfl)⟩) (fun z20 hG => ?_)
        refine r_isub (pc := 47) X dX3_dropFlags_47 hG (fun z21 hG => ?_)
        refine r_icmp_ge (pc := 48) X dX3_dropFlags_48 (tgt := 61) (by decide) hG (fun hG => ?_) (fun hG => ?_)
        · skip
          exact r_mask [true, true, true, false] rfl (Hj15 _ hG h8 rfl)
        · skip
          refine r_aload_n (pc := 51) X dX3_dropFlags_51 rfl rfl ?_
          refine r_getC (pc := 52) X (at_X3_o Hb0) rfl mU_X3 (k := 4) (by decide) (q := (b0 + 5)) rfl mF_X3_24 dX3_dropFlags_52 ?_
          refine r_iload_n (pc := 55) X dX3_dropFlags_55 rfl rfl ?_
          refine r_aload_n (pc := 56) X dX3_dropFlags_56 rfl rfl ?_
          refine r_getI (pc := 57) X (at_X3_o Hb0) rfl mU_X3 (k := 9) (by decide) rfl mF_X3_62 dX3_dropFlags_57 hG (fun z22 hG => ?_)
          refine r_iast (pc := 60) X (at_X3_fell Hb0) dX3_dropFlags_60 hG (fun h23 hG => ?_)
          exact r_mask [true, true, true, false] rfl (Hj15 _ hG h23 rfl)
theorem c_X3_dropFlags {b0 : Nat} {b1 : Nat} {r : Hp} (Hb0 : At_X3 shl b0) (Hb1 : At_X0 shl b1) (hg : g_X3_dropFlags b0 b1 h = some r) : Met l yX3_dropFlags (wsM yX3_dropFlags cX3_dropFlags 4 none) rm_X3_dropFlags (va_Pc [.ref (ad b0), .ref (ad b1)] (World E ad shl h)) (QcV E ad shl r) 0 0 (bsA E) :=
  met_of (L0 := [some (.ref (ad b0)), some (.ref (ad b1)), none, none]) rfl rfl rfl (Nat.le_of_ble_eq_true rfl) (fun _ _ _ _ _ _ _ X => w_X3_dropFlags Hb0 Hb1 X rfl hg)
abbrev rm_X3_live : Room := { frames := 4, cells := 0, slots := 0, locals := 100 }
theorem hdd_X3_live : yX3_live.cls = RX3 ∧ yX3_live.cls ≠ "java/lang/invoke/MethodHandle" ∧ yX3_live.cls ≠ "java/lang/invoke/VarHandle" ∧ (parseMethodDescriptor yX3_live.desc).map (fun d => d.parameters.length) = some 3 := ⟨rfl, by decide +kernel, by decide +kernel, by decide +kernel⟩
set_option maxRecDepth 100000 in
set_option maxHeartbeats 4000000 in
theorem w_X3_live {b0 : Nat} {b1 : Nat} {b2 : Nat} {n3 : Int} {r : Hp} (Hb0 : At_X3 shl b0) (Hb1 : At_X0 shl b1) (Hb2 : At_X2 shl b2) (Hn3 : 0 ≤ n3 → At_X1 shl n3.toNat) (X : Cx E p s m args meth c cX3_live RX3 5 none) (hQ : Q = MQ below (QcV E ad shl r) args s 0 0 (bsA E)) (hG : g_X3_live b0 b1 b2 n3 h = some r) : Ev E ad shl p l e rm_X3_live s m args below meth c 0 0 Q 5 h 0 [some (.ref (ad b0)), some (.ref (ad b1)), some (.ref (ad b2)), some (npv ad n3), none] [] := by
  unfold g_X3_live at hG
  refine r_aloadV_n (pc := 0) X dX3_live_0 rfl rfl ?_
  refine r_join hG (fun a1 => ∀ (h3 : Hp), a1 = h3 → Ev E ad shl p l e rm_X3_live s m args below meth c 0 0 Q 5 h3 16 [some (.ref (ad b0)), some (.ref (ad b1)), some (.ref (ad b2)), none, none] []) (fun a1 hG => ?_) (fun j2 Hj2 hG => ?_)
  · skip
    intro h3 ha; have ha := ha.symm; subst ha
    refine r_aload_n (pc := 16) X dX3_live_16 rfl rfl ?_
    refine r_aload_n (pc := 17) X dX3_live_17 rfl rfl ?_
    refine r_aload_n (pc := 18) X dX3_live_18 rfl rfl ?_
    refine r_cV (pc := 19) hG (fun _ hg => runV X dX3_live_19 (c_X3_meetWaves Hb0 Hb1 Hb2 hg) mM_X3_94 mI_X3_meetWaves mE_X3_meetWaves mN_X3 mK_X3_meetWaves (at_X3_o Hb0) rfl rfl rfl rfl hdd_X3_meetWaves ⟨(Nat.le_of_ble_eq_true rfl), (Nat.le_of_ble_eq_true rfl)⟩ rfl rfl (Nat.le_of_ble_eq_true rfl) ⟨(Nat.le_of_ble_eq_true rfl), (Nat.le_of_ble_eq_true rfl)⟩) (fun h4 hG => ?_)
    refine r_aload_n (pc := 22) X dX3_live_22 rfl rfl ?_
    refine r_getC (pc := 23) X (at_X0_o Hb1) rfl mU_X0 (k := 0) (by decide) (q := (b1 + 1)) rfl mF_X3_49 dX3_live_23 ?_
    refine r_iconst (pc := 26) X dX3_live_26 hG rfl (fun z5 hG => ?_)
    refine r_iald (pc := 27) X (at_X0_numbers Hb1) dX3_live_27 hG (fun z6 hG => ?_)
    refine r_istore (pc := 28) (L' := [some (.ref (ad b0)), some (.ref (ad b1)), some (.ref (ad b2)), none, some (.int z6)]) X dX3_live_28 (by decide) rfl rfl ?_
    refine r_iload (pc := 30) X dX3_live_30 rfl ?_
    refine r_join hG (fun a7 => ∀ (h9 : Hp), a7 = h9 → Ev E ad shl p l e rm_X3_live s m args below meth c 0 0 Q 5 h9 52 [some (.ref (ad b0)), some (.ref (ad b1)), none, none, none] []) (fun a7 hG => ?_) (fun j8 Hj8 hG => ?_)
    · skip
      intro h9 ha; have ha := ha.symm; subst ha
      refine r_aload_n (pc := 52) X dX3_live_52 rfl rfl ?_
      refine r_aload_n (pc := 53) X dX3_live_53 rfl rfl ?_
      refine r_cV (pc := 54) hG (fun _ hg => runV X dX3_live_54 (c_X3_slide Hb0 Hb1 hg) mM_X3_102 mI_X3_slide mE_X3_slide mN_X3 mK_X3_slide (at_X3_o Hb0) rfl rfl rfl rfl hdd_X3_slide ⟨(Nat.le_of_ble_eq_true rfl), (Nat.le_of_ble_eq_true rfl)⟩ rfl rfl (Nat.le_of_ble_eq_true rfl) ⟨(Nat.le_of_ble_eq_true rfl), (Nat.le_of_ble_eq_true rfl)⟩) (fun h10 hG => ?_)
      refine r_aload_n (pc := 57) X dX3_live_57 rfl rfl ?_
      refine r_aload_n (pc := 58) X dX3_live_58 rfl rfl ?_
      refine r_cV (pc := 59) hG (fun _ hg => runV X dX3_live_59 (c_X3_dropFlags Hb0 Hb1 hg) mM_X3_105 mI_X3_dropFlags mE_X3_dropFlags mN_X3 mK_X3_dropFlags (at_X3_o Hb0) rfl rfl rfl rfl hdd_X3_dropFlags ⟨(Nat.le_of_ble_eq_true rfl), (Nat.le_of_ble_eq_true rfl)⟩ rfl rfl (Nat.le_of_ble_eq_true rfl) ⟨(Nat.le_of_ble_eq_true rfl), (Nat.le_of_ble_eq_true rfl)⟩) (fun h11 hG => ?_)
      refine r_aload_n (pc := 62) X dX3_live_62 rfl rfl ?_
      refine r_dup (pc := 63) X dX3_live_63 rfl ?_
      refine r_getI (pc := 64) X (at_X3_o Hb0) rfl mU_X3 (k := 9) (by decide) rfl mF_X3_62 dX3_live_64 hG (fun z12 hG => ?_)
      refine r_iconst (pc := 67) X dX3_live_67 hG rfl (fun z13 hG => ?_)
      refine r_iadd (pc := 68) X dX3_live_68 hG (fun z14 hG => ?_)
      refine r_putI (pc := 69) X (at_X3_o Hb0) rfl mU_X3 (k := 9) (by decide) rfl rfl rfl mF_X3_62 dX3_live_69 hG (fun h15 hG => ?_)
      exact r_vret (pc := 72) X dX3_live_72 hQ hG
    refine r_if_le (pc := 32) X dX3_live_32 (tgt := 52) (by decide) hG (fun hG => ?_) (fun hG => ?_)
    · skip
      exact r_mask [true, true, false, false, false] rfl (Hj8 _ hG h4 rfl)
    · skip
      refine r_aload_n (pc := 35) X dX3_live_35 rfl rfl ?_
      refine r_getI (pc := 36) X (at_X3_o Hb0) rfl mU_X3 (k := 9) (by decide) rfl mF_X3_62 dX3_live_36 hG (fun z16 hG => ?_)
      refine r_iconst (pc := 39) X dX3_live_39 hG rfl (fun z17 hG => ?_)
      refine r_iadd (pc := 40) X dX3_live_40 hG (fun z18 hG => ?_)
      refine r_iload (pc := 41) X dX3_live_41 rfl ?_
      refine r_irem (pc := 43) X dX3_live_43 hG (fun z19 hG => ?_)
      refine r_if_ne (pc := 44) X dX3_live_44 (tgt := 52) (by decide) hG (fun hG => ?_) (fun hG => ?_)
      · skip
        exact r_mask [true, true, false, false, false] rfl (Hj8 _ hG h4 rfl)
      · skip
        refine r_aload_n (pc := 47) X dX3_live_47 rfl rfl ?_
        refine r_aload_n (pc := 48) X dX3_live_48 rfl rfl ?_
        refine r_cV (pc := 49) hG (fun _ hg => runV X dX3_live_49 (c_X3_shine Hb0 Hb1 hg) mM_X3_98 mI_X3_shine mE_X3_shine mN_X3 mK_X3_shine (at_X3_o Hb0) rfl rfl rfl rfl hdd_X3_shine ⟨(Nat.le_of_ble_eq_true rfl), (Nat.le_of_ble_eq_true rfl)⟩ rfl rfl (Nat.le_of_ble_eq_true rfl) ⟨(Nat.le_of_ble_eq_true rfl), (Nat.le_of_ble_eq_true rfl)⟩) (fun h20 hG => ?_)
        exact r_mask [true, true, false, false, false] rfl (Hj8 _ hG h20 rfl)
  refine r_ifnull (pc := 1) X dX3_live_1 (tgt := 16) (by decide) hG (fun hG => ?_) (fun hn21 hG => ?_)
  · skip
    exact r_mask [true, true, true, false, false] rfl (Hj2 _ hG h rfl)
  · rw [npv_pos hn21]
    refine r_aload_n (pc := 4) X dX3_live_4 rfl rfl ?_
    refine r_aload_n (pc := 5) X dX3_live_5 rfl rfl ?_
    refine r_aload_n (pc := 6) X dX3_live_6 rfl rfl ?_
    refine r_getC (pc := 7) X (at_X0_o Hb1) rfl mU_X0 (k := 0) (by decide) (q := (b1 + 1)) rfl mF_X3_49 dX3_live_7 ?_
    refine r_bipush (pc := 10) X dX3_live_10 hG (by decide) (fun z22 hG => ?_)
    refine r_iald (pc := 12) X (at_X0_numbers Hb1) dX3_live_12 hG (fun z23 hG => ?_)
    refine r_cV (pc := 13) hG (fun _ hg => runV X dX3_live_13 (c_X3_moveHands Hb0 (Hn3 hn21) hg) mM_X3_90 mI_X3_moveHands mE_X3_moveHands mN_X3 mK_X3_moveHands (at_X3_o Hb0) rfl rfl rfl rfl hdd_X3_moveHands ⟨(Nat.le_of_ble_eq_true rfl), (Nat.le_of_ble_eq_true rfl)⟩ rfl rfl (Nat.le_of_ble_eq_true rfl) ⟨(Nat.le_of_ble_eq_true rfl), (Nat.le_of_ble_eq_true rfl)⟩) (fun h24 hG => ?_)
    exact r_mask [true, true, true, false, false] rfl (Hj2 _ hG h24 rfl)
theorem c_X3_live {b0 : Nat} {b1 : Nat} {b2 : Nat} {n3 : Int} {r : Hp} (Hb0 : At_X3 shl b0) (Hb1 : At_X0 shl b1) (Hb2 : At_X2 shl b2) (Hn3 : 0 ≤ n3 → At_X1 shl n3.toNat) (hg : g_X3_live b0 b1 b2 n3 h = some r) : Met l yX3_live (wsM yX3_live cX3_live 5 none) rm_X3_live (va_Pc [.ref (ad b0), .ref (ad b1), .ref (ad b2), npv ad n3] (World E ad shl h)) (QcV E ad shl r) 0 0 (bsA E) :=
  met_of (L0 := [some (.ref (ad b0)), some (.ref (ad b1)), some (.ref (ad b2)), some (npv ad n3), none]) rfl rfl (by simp only [lvp, lv_args, npv_cat, cat_int, cat_ref]; rfl) (by simp only [lg_sl, List.flatMap_cons, List.flatMap_nil, npv_cat, cat_int, cat_ref]; exact Nat.le_of_ble_eq_true rfl) (fun _ _ _ _ _ _ _ X => w_X3_live Hb0 Hb1 Hb2 Hn3 X rfl hg)
abbrev rm_X8_pass : Room := { frames := 5, cells := 0, slots := 0, locals := 124 }
theorem hdd_X8_pass : yX8_pass.cls = RX8 ∧ yX8_pass.cls ≠ "java/lang/invoke/MethodHandle" ∧ yX8_pass.cls ≠ "java/lang/invoke/VarHandle" ∧ (parseMethodDescriptor yX8_pass.desc).map (fun d => d.parameters.length) = some 1 := ⟨rfl, by decide +kernel, by decide +kernel, by decide +kernel⟩
set_option maxRecDepth 100000 in
set_option maxHeartbeats 4000000 in
theorem w_X8_pass {x1 : Int32} {r : Int × Hp} (Hb0 : At_X8 shl) (X : Cx E p s m args meth c cX8_pass RX8 4 (some .int)) (hQ : Q = MQ below (QcI E ad shl r.1 r.2) args s 0 0 (bsA E)) (hG : g_X8_pass x1.toInt h = some r) : Ev E ad shl p l e rm_X8_pass s m args below meth c 0 0 Q 4 h 0 [some (.ref (ad 0)), some (.int x1), none, none] [] := by
  unfold g_X8_pass at hG
  refine r_iload_n (pc := 0) X dX8_pass_0 rfl rfl ?_
  refine r_join hG (fun _ => Ev E ad shl p l e rm_X8_pass s m args below meth c 0 0 Q 4 h 11 [none, none, none, none] []) (fun a1 hG => ?_) (fun j2 Hj2 hG => ?_)
  · skip
    refine r_bipush (pc := 11) X dX8_pass_11 hG (by decide) (fun z3 hG => ?_)
    exact r_iretW (pc := 13) X dX8_pass_13 hQ hG
  refine r_if_lt (pc := 1) X dX8_pass_1 (tgt := 11) (by decide) hG (fun hG => ?_) (fun hG => ?_)
  · skip
    exact r_mask [false, false, false, false] rfl (Hj2 _ hG)
  · skip
    refine r_iload_n (pc := 4) X dX8_pass_4 rfl rfl ?_
    refine r_sipush (pc := 5) X dX8_pass_5 hG (by decide) (fun z4 hG => ?_)
    refine r_icmp_le (pc := 8) X dX8_pass_8 (tgt := 14) (by decide) hG (fun hG => ?_) (fun hG => ?_)
    · skip
      refine r_aload_n (pc := 14) X dX8_pass_14 rfl rfl ?_
      refine r_aload_n (pc := 15) X dX8_pass_15 rfl rfl ?_
      refine r_getC (pc := 16) X (at_X8_o Hb0) rfl mU_X8 (k := 7) (by decide) (q := 26) rfl mF_X8_45 dX8_pass_16 ?_
      refine r_getI (pc := 19) X (at_X3_o (at_X8_now Hb0)) rfl mU_X3 (k := 7) (by decide) rfl mF_X8_130 dX8_pass_19 hG (fun z5 hG => ?_)
      refine r_cN (pc := 22) hG (fun _ hg => runV X dX8_pass_22 (c_X8_planOrNull Hb0 hg) mM_X8_167 mI_X8_planOrNull mE_X8_planOrNull mN_X8 mK_X8_planOrNull (at_X8_o Hb0) rfl rfl rfl rfl hdd_X8_planOrNull ⟨(Nat.le_of_ble_eq_true rfl), (Nat.le_of_ble_eq_true rfl)⟩ rfl rfl (Nat.le_of_ble_eq_true rfl) ⟨(Nat.le_of_ble_eq_true rfl), (Nat.le_of_ble_eq_true rfl)⟩) (fun n6 Hn6 hG => ?_)
      refine r_astoreV_n (pc := 25) (L' := [some (.ref (ad 0)), some (.int x1), some (npv ad n6), none]) X dX8_pass_25 rfl (by decide) rfl rfl ?_
      refine r_iconst (pc := 26) X dX8_pass_26 hG rfl (fun z7 hG => ?_)
      refine r_istore_n (pc := 27) (L' := [some (.ref (ad 0)), some (.int x1), some (npv ad n6), some (.int z7)]) X dX8_pass_27 rfl (by decide) (okSet_npv rfl) rfl ?_
      refine r_mask [true, true, true, true] rfl (r_loop (fun q8 => ∀ (y10 : Int32) (h11 : Hp), q8 = (y10.toInt, h11) → Ev E ad shl p l e rm_X8_pass s m args below meth c 0 0 Q 4 h11 28 [some (.ref (ad 0)), some (.int x1), some (npv ad n6), some (.int y10)] []) (fun l9 Hl9 q8 hG => ?_) FU _ hG z7 h rfl)
      intro y10 h11 ha; have ha := ha.symm; subst ha
      unfold g_X8_pass_l9 at hG
      refine r_iload_n (pc := 28) X dX8_pass_28 rfl rfl ?_
      refine r_iload_n (pc := 29) X dX8_pass_29 rfl rfl ?_
      refine r_icmp_ge (pc := 30) X dX8_pass_30 (tgt := 55) (by decide) hG (fun hG => ?_) (fun hG => ?_)
      · skip
        refine r_aload_n (pc := 55) X dX8_pass_55 rfl rfl ?_
        refine r_getC (pc := 56) X (at_X8_o Hb0) rfl mU_X8 (k := 7) (by decide) (q := 26) rfl mF_X8_45 dX8_pass_56 ?_
        refine r_getI (pc := 59) X (at_X3_o (at_X8_now Hb0)) rfl mU_X3 (k := 9) (by decide) rfl mF_X8_175 dX8_pass_59 hG (fun z12 hG => ?_)
        exact r_iretW (pc := 62) X dX8_pass_62 hQ hG
      · skip
        refine r_aload_n (pc := 33) X dX8_pass_33 rfl rfl ?_
        refine r_getC (pc := 34) X (at_X8_o Hb0) rfl mU_X8 (k := 7) (by decide) (q := 26) rfl mF_X8_45 dX8_pass_34 ?_
        refine r_aload_n (pc := 37) X dX8_pass_37 rfl rfl ?_
        refine r_getR (pc := 38) X (at_X8_o Hb0) rfl mU_X8 (k := 1) (by decide) rfl mF_X8_19 dX8_pass_38 hG (fun q13 Hq13 hG => ?_)
        refine r_aload_n (pc := 41) X dX8_pass_41 rfl rfl ?_
        refine r_getR (pc := 42) X (at_X8_o Hb0) rfl mU_X8 (k := 3) (by decide) rfl mF_X8_29 dX8_pass_42 hG (fun q14 Hq14 hG => ?_)
        refine r_aloadV_n (pc := 45) X dX8_pass_45 rfl rfl ?_
        refine r_cV (pc := 46) hG (fun _ hg => runV X dX8_pass_46 (c_X3_live (at_X8_now Hb0) (at_X8_beaches Hb0 _ Hq13) (at_X8_seas Hb0 _ Hq14) (planN Hb0 Hn6) hg) mM_X8_171 mI_X3_live mE_X3_live mN_X3 mK_X3_live (at_X3_o (at_X8_now Hb0)) rfl rfl rfl rfl hdd_X3_live ⟨(Nat.le_of_ble_eq_true rfl), (Nat.le_of_ble_eq_true rfl)⟩ rfl rfl (Nat.le_of_ble_eq_true rfl) ⟨(Nat.le_of_ble_eq_true rfl), (Nat.le_of_ble_eq_true rfl)⟩) (fun h15 hG => ?_)
        refine r_iinc (pc := 49) (L' := fun z16 => [some (.ref (ad 0)), some (.int x1), some (npv ad n6), some (.int z16)]) X dX8_pass_49 (by decide) (okSet_npv rfl) rfl (by decide) (fun _ => rfl) hG (fun z16 hG => ?_)
        refine r_goto (pc := 52) X dX8_pass_52 (tgt := 28) (by decide) ?_
        exact r_mask [true, true, true, true] rfl (Hl9 _ hG z16 h15 rfl)
    · skip
      exact r_mask [false, false, false, false] rfl (Hj2 _ hG)
theorem c_X8_pass {x1 : Int32} {r : Int × Hp} (Hb0 : At_X8 shl) (hg : g_X8_pass x1.toInt h = some r) : Met l yX8_pass (wsM yX8_pass cX8_pass 4 (some .int)) rm_X8_pass (va_Pc [.ref (ad 0), .int x1] (World E ad shl h)) (QcI E ad shl r.1 r.2) 0 0 (bsA E) :=
  met_of (L0 := [some (.ref (ad 0)), some (.int x1), none, none]) rfl rfl rfl (Nat.le_of_ble_eq_true rfl) (fun _ _ _ _ _ _ _ X => w_X8_pass Hb0 X rfl hg)
abbrev rm_X8_cell : Room := { frames := 1, cells := 0, slots := 0, locals := 23 }
theorem hdd_X8_cell : yX8_cell.cls = RX8 ∧ yX8_cell.cls ≠ "java/lang/invoke/MethodHandle" ∧ yX8_cell.cls ≠ "java/lang/invoke/VarHandle" ∧ (parseMethodDescriptor yX8_cell.desc).map (fun d => d.parameters.length) = some 3 := ⟨rfl, by decide +kernel, by decide +kernel, by decide +kernel⟩
set_option maxRecDepth 100000 in
set_option maxHeartbeats 4000000 in
theorem w_X8_cell {x1 : Int32} {x2 : Int32} {x3 : Int32} {r : Int} (Hb0 : At_X8 shl) (X : Cx E p s m args meth c cX8_cell RX8 5 (some .int)) (hQ : Q = MQ below (QcI E ad shl r h) args s 0 0 (bsA E)) (hG : g_X8_cell x1.toInt x2.toInt x3.toInt h = some r) : Ev E ad shl p l e rm_X8_cell s m args below meth c 0 0 Q 5 h 0 [some (.ref (ad 0)), some (.int x1), some (.int x2), some (.int x3), none] [] := by
  unfold g_X8_cell at hG
  refine r_iload_n (pc := 0) X dX8_cell_0 rfl rfl ?_
  refine r_join hG (fun _ => Ev E ad shl p l e rm_X8_cell s m args below meth c 0 0 Q 5 h 30 [none, none, none, none, none] []) (fun a1 hG => ?_) (fun j2 Hj2 hG => ?_)
  · skip
    refine r_bipush (pc := 30) X dX8_cell_30 hG (by decide) (fun z3 hG => ?_)
    exact r_iretP (pc := 32) X dX8_cell_32 hQ hG
  refine r_if_lt (pc := 1) X dX8_cell_1 (tgt := 30) (by decide) hG (fun hG => ?_) (fun hG => ?_)
  · skip
    exact r_mask [false, false, false, false, false] rfl (Hj2 _ hG)
  · skip
    refine r_iload_n (pc := 4) X dX8_cell_4 rfl rfl ?_
    refine r_aload_n (pc := 5) X dX8_cell_5 rfl rfl ?_
    refine r_getR (pc := 6) X (at_X8_o Hb0) rfl mU_X8 (k := 1) (by decide) rfl mF_X8_19 dX8_cell_6 hG (fun q4 Hq4 hG => ?_)
    refine r_cP (pc := 9) hG (fun _ hg => runV X dX8_cell_9 (c_X0_columns (at_X8_beaches Hb0 _ Hq4) hg) mM_X8_178 mI_X0_columns mE_X0_columns mN_X0 mK_X0_columns (at_X0_o (at_X8_beaches Hb0 _ Hq4)) rfl rfl rfl rfl hdd_X0_columns ⟨(Nat.le_of_ble_eq_true rfl), (Nat.le_of_ble_eq_true rfl)⟩ rfl rfl (Nat.le_of_ble_eq_true rfl) ⟨(Nat.le_of_ble_eq_true rfl), (Nat.le_of_ble_eq_true rfl)⟩) (fun z5 hG => ?_)
    refine r_icmp_ge (pc := 12) X dX8_cell_12 (tgt := 30) (by decide) hG (fun hG => ?_) (fun hG => ?_)
    · skip
      exact r_mask [false, false, false, false, false] rfl (Hj2 _ hG)
    · skip
      refine r_iload_n (pc := 15) X dX8_cell_15 rfl rfl ?_
      refine r_if_lt (pc := 16) X dX8_cell_16 (tgt := 30) (by decide) hG (fun hG => ?_) (fun hG => ?_)
      · skip
        exact r_mask [false, false, false, false, false] rfl (Hj2 _ hG)
      · skip
        refine r_iload_n (pc := 19) X dX8_cell_19 rfl rfl ?_
        refine r_aload_n (pc := 20) X dX8_cell_20 rfl rfl ?_
        refine r_getR (pc := 21) X (at_X8_o Hb0) rfl mU_X8 (k := 1) (by decide) rfl mF_X8_19 dX8_cell_21 hG (fun q6 Hq6 hG => ?_)
        refine r_cP (pc := 24) hG (fun _ hg => runV X dX8_cell_24 (c_X0_rows (at_X8_beaches Hb0 _ Hq6) hg) mM_X8_182 mI_X0_rows mE_X0_rows mN_X0 mK_X0_rows (at_X0_o (at_X8_beaches Hb0 _ Hq6)) rfl rfl rfl rfl hdd_X0_rows ⟨(Nat.le_of_ble_eq_true rfl), (Nat.le_of_ble_eq_true rfl)⟩ rfl rfl (Nat.le_of_ble_eq_true rfl) ⟨(Nat.le_of_ble_eq_true rfl), (Nat.le_of_ble_eq_true rfl)⟩) (fun z7 hG => ?_)
        refine r_icmp_lt (pc := 27) X dX8_cell_27 (tgt := 33) (by decide) hG (fun hG => ?_) (fun hG => ?_)
        · skip
          refine r_iload_n (pc := 33) X dX8_cell_33 rfl rfl ?_
          refine r_aload_n (pc := 34) X dX8_cell_34 rfl rfl ?_
          refine r_getR (pc := 35) X (at_X8_o Hb0) rfl mU_X8 (k := 1) (by decide) rfl mF_X8_19 dX8_cell_35 hG (fun q8 Hq8 hG => ?_)
          refine r_cP (pc := 38) hG (fun _ hg => runV X dX8_cell_38 (c_X0_columns (at_X8_beaches Hb0 _ Hq8) hg) mM_X8_178 mI_X0_columns mE_X0_columns mN_X0 mK_X0_columns (at_X0_o (at_X8_beaches Hb0 _ Hq8)) rfl rfl rfl rfl hdd_X0_columns ⟨(Nat.le_of_ble_eq_true rfl), (Nat.le_of_ble_eq_true rfl)⟩ rfl rfl (Nat.le_of_ble_eq_true rfl) ⟨(Nat.le_of_ble_eq_true rfl), (Nat.le_of_ble_eq_true rfl)⟩) (fun z9 hG => ?_)
          refine r_imul (pc := 41) X dX8_cell_41 hG (fun z10 hG => ?_)
          refine r_iload_n (pc := 42) X dX8_cell_42 rfl rfl ?_
          refine r_iadd (pc := 43) X dX8_cell_43 hG (fun z11 hG => ?_)
          refine r_istore (pc := 44) (L' := [some (.ref (ad 0)), some (.int x1), some (.int x2), some (.int x3), some (.int z11)]) X dX8_cell_44 (by decide) rfl rfl ?_
          refine r_iload_n (pc := 46) X dX8_cell_46 rfl rfl ?_
          refine r_join hG (fun a12 => ∀ (y14 : Int32), a12 = y14.toInt → Ev E ad shl p l e rm_X8_cell s m args below meth c 0 0 Q 5 h 164 [none, none, none, none, none] [.int y14]) (fun a12 hG => ?_) (fun j13 Hj13 hG => ?_)
          · skip
            intro y14 ha; have ha := ha.symm; subst ha
            exact r_iretP (pc := 164) X dX8_cell_164 hQ hG
          refine r_ite hG (fun e15 hG => ?_) (fun e15 hG => ?_)
          · refine r_tsIn (pc := 47) X dX8_cell_47 e15 (by decide) (by decide) rfl (tgt := 80) (by decide) ?_
            refine r_aload_n (pc := 80) X dX8_cell_80 rfl rfl ?_
            refine r_getC (pc := 81) X (at_X8_o Hb0) rfl mU_X8 (k := 7) (by decide) (q := 26) rfl mF_X8_45 dX8_cell_81 ?_
            refine r_getC (pc := 84) X (at_X3_o (at_X8_now Hb0)) rfl mU_X3 (k := 0) (by decide) (q := 27) rfl mF_X8_185 dX8_cell_84 ?_
            refine r_iload (pc := 87) X dX8_cell_87 rfl ?_
            refine r_iald (pc := 89) X (at_X3_height (at_X8_now Hb0)) dX8_cell_89 hG (fun z16 hG => ?_)
            refine r_goto (pc := 90) X dX8_cell_90 (tgt := 164) (by decide) ?_
            exact r_mask [false, false, false, false, false] rfl (Hj13 _ hG z16 rfl)
          refine r_ite hG (fun e17 hG => ?_) (fun e17 hG => ?_)
          · refine r_tsIn (pc := 47) X dX8_cell_47 e17 (by decide) (by decide) rfl (tgt := 93) (by decide) ?_
            refine r_aload_n (pc := 93) X dX8_cell_93 rfl rfl ?_
            refine r_getC (pc := 94) X (at_X8_o Hb0) rfl mU_X8 (k := 7) (by decide) (q := 26) rfl mF_X8_45 dX8_cell_94 ?_
            refine r_getC (pc := 97) X (at_X3_o (at_X8_now Hb0)) rfl mU_X3 (k := 1) (by decide) (q := 28) rfl mF_X8_188 dX8_cell_97 ?_
            refine r_iload (pc := 100) X dX8_cell_100 rfl ?_
            refine r_iald (pc := 102) X (at_X3_wet (at_X8_now Hb0)) dX8_cell_102 hG (fun z18 hG => ?_)
            refine r_goto (pc := 103) X dX8_cell_103 (tgt := 164) (by decide) ?_
            exact r_mask [false, false, false, false, false] rfl (Hj13 _ hG z18 rfl)
          refine r_ite hG (fun e19 hG => ?_) (fun e19 hG => ?_)
          · refine r_tsIn (pc := 47) X dX8_cell_47 e19 (by decide) (by decide) rfl (tgt := 106) (by decide) ?_
            refine r_aload_n (pc := 106) X dX8_cell_106 rfl rfl ?_
            refine r_getC (pc := 107) X (at_X8_o Hb0) rfl mU_X8 (k := 7) (by decide) (q := 26) rfl mF_X8_45 dX8_cell_107 ?_
            refine r_getC (pc := 110) X (at_X3_o (at_X8_now Hb0)) rfl mU_X3 (k := 2) (by decide) (q := 29) rfl mF_X8_191 dX8_cell_110 ?_
            refine r_iload (pc := 113) X dX8_cell_113 rfl ?_
            refine r_iald (pc := 115) X (at_X3_pack (at_X8_now Hb0)) dX8_cell_115 hG (fun z20 hG => ?_)
            refine r_goto (pc := 116) X dX8_cell_116 (tgt := 164) (by decide) ?_
            exact r_mask [false, false, false, false, false] rfl (Hj13 _ hG z20 rfl)
          refine r_ite hG (fun e21 hG => ?_) (fun e21 hG => ?_)
          · refine r_tsIn (pc := 47) X dX8_cell_47 e21 (by decide) (by decide) rfl (tgt := 119) (by decide) ?_
            refine r_aload_n (pc := 119) X dX8_cell_119 rfl rfl ?_
            refine r_getC (pc := 120) X (at_X8_o Hb0) rfl mU_X8 (k := 7) (by decide) (q := 26) rfl mF_X8_45 dX8_cell_120 ?_
            refine r_getC (pc := 123) X (at_X3_o (at_X8_now Hb0)) rfl mU_X3 (k := 3) (by decide) (q := 30) rfl mF_X8_194 dX8_cell_123 ?_
            refine r_iload (pc := 126) X dX8_cell_126 rfl ?_
            refine r_iald (pc := 128) X (at_X3_stone (at_X8_now Hb0)) dX8_cell_128 hG (fun z22 hG => ?_)
            refine r_goto (pc := 129) X dX8_cell_129 (tgt := 164) (by decide) ?_
            exact r_mask [false, false, false, false, false] rfl (Hj13 _ hG z22 rfl)
          refine r_ite hG (fun e23 hG => ?_) (fun e23 hG => ?_)
          · refine r_tsIn (pc := 47) X dX8_cell_47 e23 (by decide) (by decide) rfl (tgt := 132) (by decide) ?_
            refine r_aload_n (pc := 132) X dX8_cell_132 rfl rfl ?_
            refine r_getR (pc := 133) X (at_X8_o Hb0) rfl mU_X8 (k := 1) (by decide) rfl mF_X8_19 dX8_cell_133 hG (fun q24 Hq24 hG => ?_)
            refine r_aload_n (pc := 136) X dX8_cell_136 rfl rfl ?_
            refine r_getC (pc := 137) X (at_X8_o Hb0) rfl mU_X8 (k := 7) (by decide) (q := 26) rfl mF_X8_45 dX8_cell_137 ?_
            refine r_getC (pc := 140) X (at_X3_o (at_X8_now Hb0)) rfl mU_X3 (k := 1) (by decide) (q := 28) rfl mF_X8_188 dX8_cell_140 ?_
            refine r_iload (pc := 143) X dX8_cell_143 rfl ?_
            refine r_iald (pc := 145) X (at_X3_wet (at_X8_now Hb0)) dX8_cell_145 hG (fun z25 hG => ?_)
            refine r_aload_n (pc := 146) X dX8_cell_146 rfl rfl ?_
            refine r_getC (pc := 147) X (at_X8_o Hb0) rfl mU_X8 (k := 7) (by decide) (q := 26) rfl mF_X8_45 dX8_cell_147 ?_
            refine r_getC (pc := 150) X (at_X3_o (at_X8_now Hb0)) rfl mU_X3 (k := 2) (by decide) (q := 29) rfl mF_X8_191 dX8_cell_150 ?_
            refine r_iload (pc := 153) X dX8_cell_153 rfl ?_
            refine r_iald (pc := 155) X (at_X3_pack (at_X8_now Hb0)) dX8_cell_155 hG (fun z26 hG => ?_)
            refine r_cP (pc := 156) hG (fun _ hg => runV X dX8_cell_156 (c_X0_bearing (at_X8_beaches Hb0 _ Hq24) hg) mM_X8_197 mI_X0_bearing mE_X0_bearing mN_X0 mK_X0_bearing (at_X0_o (at_X8_beaches Hb0 _ Hq24)) rfl rfl rfl rfl hdd_X0_bearing ⟨(Nat.le_of_ble_eq_true rfl), (Nat.le_of_ble_eq_true rfl)⟩ rfl rfl (Nat.le_of_ble_eq_true rfl) ⟨(Nat.le_of_ble_eq_true rfl), (Nat.le_of_ble_eq_true rfl)⟩) (fun z27 hG => ?_)
            refine r_goto (pc := 159) X dX8_cell_159 (tgt := 164) (by decide) ?_
            exact r_mask [false, false, false, false, false] rfl (Hj13 _ hG z27 rfl)
          refine r_tsOut (pc := 47) X dX8_cell_47 (by omega) (tgt := 162) (by decide) ?_
          refine r_bipush (pc := 162) X dX8_cell_162 hG (by decide) (fun z28 hG => ?_)
          exact r_mask [false, false, false, false, false] rfl (Hj13 _ hG z28 rfl)
        · skip
          exact r_mask [false, false, false, false, false] rfl (Hj2 _ hG)
theorem c_X8_cell {x1 : Int32} {x2 : Int32} {x3 : Int32} {r : Int} (Hb0 : At_X8 shl) (hg : g_X8_cell x1.toInt x2.toInt x3.toInt h = some r) : Met l yX8_cell (wsM yX8_cell cX8_cell 5 (some .int)) rm_X8_cell (va_Pc [.ref (ad 0), .int x1, .int x2, .int x3] (World E ad shl h)) (QcI E ad shl r h) 0 0 (bsA E) :=
  met_of (L0 := [some (.ref (ad 0)), some (.int x1), some (.int x2), some (.int x3), none]) rfl rfl rfl (Nat.le_of_ble_eq_true rfl) (fun _ _ _ _ _ _ _ X => w_X8_cell Hb0 X rfl hg)
abbrev rm_X8_isFlag : Room := { frames := 0, cells := 0, slots := 0, locals := 0 }
theorem hdd_X8_isFlag : yX8_isFlag.cls = RX8 ∧ yX8_isFlag.cls ≠ "java/lang/invoke/MethodHandle" ∧ yX8_isFlag.cls ≠ "java/lang/invoke/VarHandle" ∧ (parseMethodDescriptor yX8_isFlag.desc).map (fun d => d.parameters.length) = some 1 := ⟨rfl, by decide +kernel, by decide +kernel, by decide +kernel⟩
set_option maxRecDepth 100000 in
set_option maxHeartbeats 4000000 in
theorem w_X8_isFlag {x1 : Int32} {r : Int} (Hb0 : At_X8 shl) (X : Cx E p s m args meth c cX8_isFlag RX8 2 (some .boolean)) (hQ : Q = MQ below (QcI E ad shl r h) args s 0 0 (bsA E)) (hG : g_X8_isFlag x1.toInt h = some r) : Ev E ad shl p l e rm_X8_isFlag s m args below meth c 0 0 Q 2 h 0 [some (.ref (ad 0)), some (.int x1)] [] := by
  unfold g_X8_isFlag at hG
  refine r_iload_n (pc := 0) X dX8_isFlag_0 rfl rfl ?_
  refine r_join hG (fun a1 => ∀ (y3 : Int32), a1 = y3.toInt → Ev E ad shl p l e rm_X8_isFlag s m args below meth c 0 0 Q 2 h 20 [none, none] [.int y3]) (fun a1 hG => ?_) (fun j2 Hj2 hG => ?_)
  · skip
    intro y3 ha; have ha := ha.symm; subst ha
    exact r_zretP (pc := 20) X dX8_isFlag_20 hQ hG
  refine r_join hG (fun _ => Ev E ad shl p l e rm_X8_isFlag s m args below meth c 0 0 Q 2 h 19 [none, none] []) (fun a4 hG => ?_) (fun j5 Hj5 hG => ?_)
  · skip
    refine r_iconst (pc := 19) X dX8_isFlag_19 hG rfl (fun z6 hG => ?_)
    exact r_mask [false, false] rfl (Hj2 _ hG z6 rfl)
  refine r_if_lt (pc := 1) X dX8_isFlag_1 (tgt := 19) (by decide) hG (fun hG => ?_) (fun hG => ?_)
  · skip
    exact r_mask [false, false] rfl (Hj5 _ hG)
  · skip
    refine r_iload_n (pc := 4) X dX8_isFlag_4 rfl rfl ?_
    refine r_aload_n (pc := 5) X dX8_isFlag_5 rfl rfl ?_
    refine r_getR (pc := 6) X (at_X8_o Hb0) rfl mU_X8 (k := 1) (by decide) rfl mF_X8_19 dX8_isFlag_6 hG (fun q7 Hq7 hG => ?_)
    refine r_getI (pc := 9) X (at_X0_o (at_X8_beaches Hb0 _ Hq7)) rfl mU_X0 (k := 5) (by decide) rfl mF_X8_124 dX8_isFlag_9 hG (fun z8 hG => ?_)
    refine r_icmp_ge (pc := 12) X dX8_isFlag_12 (tgt := 19) (by decide) hG (fun hG => ?_) (fun hG => ?_)
    · skip
      exact r_mask [false, false] rfl (Hj5 _ hG)
    · skip
      refine r_iconst (pc := 15) X dX8_isFlag_15 hG rfl (fun z9 hG => ?_)
      refine r_goto (pc := 16) X dX8_isFlag_16 (tgt := 20) (by decide) ?_
      exact r_mask [false, false] rfl (Hj2 _ hG z9 rfl)
theorem c_X8_isFlag {x1 : Int32} {r : Int} (Hb0 : At_X8 shl) (hg : g_X8_isFlag x1.toInt h = some r) : Met l yX8_isFlag (wsM yX8_isFlag cX8_isFlag 2 (some .boolean)) rm_X8_isFlag (va_Pc [.ref (ad 0), .int x1] (World E ad shl h)) (QcI E ad shl r h) 0 0 (bsA E) :=
  met_of (L0 := [some (.ref (ad 0)), some (.int x1)]) rfl rfl rfl (Nat.le_of_ble_eq_true rfl) (fun _ _ _ _ _ _ _ X => w_X8_isFlag Hb0 X rfl hg)
abbrev rm_X8_flag : Room := { frames := 1, cells := 0, slots := 0, locals := 21 }
theorem hdd_X8_flag : yX8_flag.cls = RX8 ∧ yX8_flag.cls ≠ "java/lang/invoke/MethodHandle" ∧ yX8_flag.cls ≠ "java/lang/invoke/VarHandle" ∧ (parseMethodDescriptor yX8_flag.desc).map (fun d => d.parameters.length) = some 2 := ⟨rfl, by decide +kernel, by decide +kernel, by decide +kernel⟩
set_option maxRecDepth 100000 in
set_option maxHeartbeats 4000000 in
theorem w_X8_flag {x1 : Int32} {x2 : Int32} {r : Int} (Hb0 : At_X8 shl) (X : Cx E p s m args meth c cX8_flag RX8 3 (some .int)) (hQ : Q = MQ below (QcI E ad shl r h) args s 0 0 (bsA E)) (hG : g_X8_flag x1.toInt x2.toInt h = some r) : Ev E ad shl p l e rm_X8_flag s m args below meth c 0 0 Q 3 h 0 [some (.ref (ad 0)), some (.int x1), some (.int x2)] [] := by
  unfold g_X8_flag at hG
  refine r_aload_n (pc := 0) X dX8_flag_0 rfl rfl ?_
  refine r_iload_n (pc := 1) X dX8_flag_1 rfl rfl ?_
  refine r_cP (pc := 2) hG (fun _ hg => runV X dX8_flag_2 (c_X8_isFlag Hb0 hg) mM_X8_201 mI_X8_isFlag mE_X8_isFlag mN_X8 mK_X8_isFlag (at_X8_o Hb0) rfl rfl rfl rfl hdd_X8_isFlag ⟨(Nat.le_of_ble_eq_true rfl), (Nat.le_of_ble_eq_true rfl)⟩ rfl rfl (Nat.le_of_ble_eq_true rfl) ⟨(Nat.le_of_ble_eq_true rfl), (Nat.le_of_ble_eq_true rfl)⟩) (fun z1 hG => ?_)
  refine r_if_ne (pc := 5) X dX8_flag_5 (tgt := 11) (by decide) hG (fun hG => ?_) (fun hG => ?_)
  · skip
    refine r_iload_n (pc := 11) X dX8_flag_11 rfl rfl ?_
    refine r_join hG (fun a2 => ∀ (y4 : Int32), a2 = y4.toInt → Ev E ad shl p l e rm_X8_flag s m args below meth c 0 0 Q 3 h 110 [none, none, none] [.int y4]) (fun a2 hG => ?_) (fun j3 Hj3 hG => ?_)
    · skip
      intro y4 ha; have ha := ha.symm; subst ha
      exact r_iretP (pc := 110) X dX8_flag_110 hQ hG
    refine r_ite hG (fun e5 hG => ?_) (fun e5 hG => ?_)
    · refine r_tsIn (pc := 12) X dX8_flag_12 e5 (by decide) (by decide) rfl (tgt := 44) (by decide) ?_
      refine r_aload_n (pc := 44) X dX8_flag_44 rfl rfl ?_
      refine r_getC (pc := 45) X (at_X8_o Hb0) rfl mU_X8 (k := 7) (by decide) (q := 26) rfl mF_X8_45 dX8_flag_45 ?_
      refine r_getC (pc := 48) X (at_X3_o (at_X8_now Hb0)) rfl mU_X3 (k := 4) (by decide) (q := 31) rfl mF_X8_204 dX8_flag_48 ?_
      refine r_iload_n (pc := 51) X dX8_flag_51 rfl rfl ?_
      refine r_iald (pc := 52) X (at_X3_fell (at_X8_now Hb0)) dX8_flag_52 hG (fun z6 hG => ?_)
      refine r_iconst (pc := 53) X dX8_flag_53 hG rfl (fun z7 hG => ?_)
      refine r_icmp_ne (pc := 54) X dX8_flag_54 (tgt := 61) (by decide) hG (fun hG => ?_) (fun hG => ?_)
      · skip
        refine r_iconst (pc := 61) X dX8_flag_61 hG rfl (fun z8 hG => ?_)
        refine r_goto (pc := 62) X dX8_flag_62 (tgt := 110) (by decide) ?_
        exact r_mask [false, false, false] rfl (Hj3 _ hG z8 rfl)
      · skip
        refine r_iconst (pc := 57) X dX8_flag_57 hG rfl (fun z9 hG => ?_)
        refine r_goto (pc := 58) X dX8_flag_58 (tgt := 110) (by decide) ?_
        exact r_mask [false, false, false] rfl (Hj3 _ hG z9 rfl)
    refine r_ite hG (fun e10 hG => ?_) (fun e10 hG => ?_)
    · refine r_tsIn (pc := 12) X dX8_flag_12 e10 (by decide) (by decide) rfl (tgt := 65) (by decide) ?_
      refine r_aload_n (pc := 65) X dX8_flag_65 rfl rfl ?_
      refine r_getR (pc := 66) X (at_X8_o Hb0) rfl mU_X8 (k := 1) (by decide) rfl mF_X8_19 dX8_flag_66 hG (fun q11 Hq11 hG => ?_)
      refine r_getC (pc := 69) X (at_X0_o (at_X8_beaches Hb0 _ Hq11)) rfl mU_X0 (k := 3) (by decide) (q := (q11 + 4)) rfl mF_X8_207 dX8_flag_69 ?_
      refine r_iload_n (pc := 72) X dX8_flag_72 rfl rfl ?_
      refine r_iald (pc := 73) X (at_X0_flagCells (at_X8_beaches Hb0 _ Hq11)) dX8_flag_73 hG (fun z12 hG => ?_)
      refine r_goto (pc := 74) X dX8_flag_74 (tgt := 110) (by decide) ?_
      exact r_mask [false, false, false] rfl (Hj3 _ hG z12 rfl)
    refine r_ite hG (fun e13 hG => ?_) (fun e13 hG => ?_)
    · refine r_tsIn (pc := 12) X dX8_flag_12 e13 (by decide) (by decide) rfl (tgt := 77) (by decide) ?_
      refine r_aload_n (pc := 77) X dX8_flag_77 rfl rfl ?_
      refine r_getR (pc := 78) X (at_X8_o Hb0) rfl mU_X8 (k := 1) (by decide) rfl mF_X8_19 dX8_flag_78 hG (fun q14 Hq14 hG => ?_)
      refine r_aload_n (pc := 81) X dX8_flag_81 rfl rfl ?_
      refine r_getR (pc := 82) X (at_X8_o Hb0) rfl mU_X8 (k := 1) (by decide) rfl mF_X8_19 dX8_flag_82 hG (fun q15 Hq15 hG => ?_)
      refine r_getC (pc := 85) X (at_X0_o (at_X8_beaches Hb0 _ Hq15)) rfl mU_X0 (k := 3) (by decide) (q := (q15 + 4)) rfl mF_X8_207 dX8_flag_85 ?_
      refine r_iload_n (pc := 88) X dX8_flag_88 rfl rfl ?_
      refine r_iald (pc := 89) X (at_X0_flagCells (at_X8_beaches Hb0 _ Hq15)) dX8_flag_89 hG (fun z16 hG => ?_)
      refine r_cP (pc := 90) hG (fun _ hg => runV X dX8_flag_90 (c_X0_firstHeight (at_X8_beaches Hb0 _ Hq14) hg) mM_X8_210 mI_X0_firstHeight mE_X0_firstHeight mN_X0 mK_X0_firstHeight (at_X0_o (at_X8_beaches Hb0 _ Hq14)) rfl rfl rfl rfl hdd_X0_firstHeight ⟨(Nat.le_of_ble_eq_true rfl), (Nat.le_of_ble_eq_true rfl)⟩ rfl rfl (Nat.le_of_ble_eq_true rfl) ⟨(Nat.le_of_ble_eq_true rfl), (Nat.le_of_ble_eq_true rfl)⟩) (fun z17 hG => ?_)
      refine r_goto (pc := 93) X dX8_flag_93 (tgt := 110) (by decide) ?_
      exact r_mask [false, false, false] rfl (Hj3 _ hG z17 rfl)
    refine r_ite hG (fun e18 hG => ?_) (fun e18 hG => ?_)
    · refine r_tsIn (pc := 12) X dX8_flag_12 e18 (by decide) (by decide) rfl (tgt := 96) (by decide) ?_
      refine r_aload_n (pc := 96) X dX8_flag_96 rfl rfl ?_
      refine r_getC (pc := 97) X (at_X8_o Hb0) rfl mU_X8 (k := 7) (by decide) (q := 26) rfl mF_X8_45 dX8_flag_97 ?_
      refine r_getC (pc := 100) X (at_X3_o (at_X8_now Hb0)) rfl mU_X3 (k := 4) (by decide) (q := 31) rfl mF_X8_204 dX8_flag_100 ?_
      refine r_iload_n (pc := 103) X dX8_flag_103 rfl rfl ?_
      refine r_iald (pc := 104) X (at_X3_fell (at_X8_now Hb0)) dX8_flag_104 hG (fun z19 hG => ?_)
      refine r_goto (pc := 105) X dX8_flag_105 (tgt := 110) (by decide) ?_
      exact r_mask [false, false, false] rfl (Hj3 _ hG z19 rfl)
    refine r_tsOut (pc := 12) X dX8_flag_12 (by omega) (tgt := 108) (by decide) ?_
    refine r_bipush (pc := 108) X dX8_flag_108 hG (by decide) (fun z20 hG => ?_)
    exact r_mask [false, false, false] rfl (Hj3 _ hG z20 rfl)
  · skip
    refine r_bipush (pc := 8) X dX8_flag_8 hG (by decide) (fun z21 hG => ?_)
    exact r_iretP (pc := 10) X dX8_flag_10 hQ hG
theorem c_X8_flag {x1 : Int32} {x2 : Int32} {r : Int} (Hb0 : At_X8 shl) (hg : g_X8_flag x1.toInt x2.toInt h = some r) : Met l yX8_flag (wsM yX8_flag cX8_flag 3 (some .int)) rm_X8_flag (va_Pc [.ref (ad 0), .int x1, .int x2] (World E ad shl h)) (QcI E ad shl r h) 0 0 (bsA E) :=
  met_of (L0 := [some (.ref (ad 0)), some (.int x1), some (.int x2)]) rfl rfl rfl (Nat.le_of_ble_eq_true rfl) (fun _ _ _ _ _ _ _ X => w_X8_flag Hb0 X rfl hg)
abbrev rm_X3_heights : Room := { frames := 0, cells := 0, slots := 0, locals := 0 }
theorem hdd_X3_heights : yX3_heights.cls = RX3 ∧ yX3_heights.cls ≠ "java/lang/invoke/MethodHandle" ∧ yX3_heights.cls ≠ "java/lang/invoke/VarHandle" ∧ (parseMethodDescriptor yX3_heights.desc).map (fun d => d.parameters.length) = some 1 := ⟨rfl, by decide +kernel, by decide +kernel, by decide +kernel⟩
set_option maxRecDepth 100000 in
set_option maxHeartbeats 4000000 in
theorem w_X3_heights {b0 : Nat} {x1 : Int32} {r : Int} (Hb0 : At_X3 shl b0) (X : Cx E p s m args meth c cX3_heights RX3 4 (some .int)) (hQ : Q = MQ below (QcI E ad shl r h) args s 0 0 (bsA E)) (hG : g_X3_heights b0 x1.toInt h = some r) : Ev E ad shl p l e rm_X3_heights s m args below meth c 0 0 Q 4 h 0 [some (.ref (ad b0)), some (.int x1), none, none] [] := by
  unfold g_X3_heights at hG
  refine r_iconst (pc := 0) X dX3_heights_0 hG rfl (fun z1 hG => ?_)
  refine r_istore_n (pc := 1) (L' := [some (.ref (ad b0)), some (.int x1), some (.int z1), none]) X dX3_heights_1 rfl (by decide) rfl rfl ?_
  refine r_iconst (pc := 2) X dX3_heights_2 hG rfl (fun z2 hG => ?_)
  refine r_istore_n (pc := 3) (L' := [some (.ref (ad b0)), some (.int x1), some (.int z1), some (.int z2)]) X dX3_heights_3 rfl (by decide) rfl rfl ?_
  refine r_join hG (fun a3 => ∀ (y5 : Int32), a3 = y5.toInt → Ev E ad shl p l e rm_X3_heights s m args below meth c 0 0 Q 4 h 30 [none, none, some (.int y5), none] []) (fun a3 hG => ?_) (fun j4 Hj4 hG => ?_)
  · skip
    intro y5 ha; have ha := ha.symm; subst ha
    refine r_iload_n (pc := 30) X dX3_heights_30 rfl rfl ?_
    exact r_iretP (pc := 31) X dX3_heights_31 hQ hG
  refine r_mask [true, true, true, true] rfl (r_loop (fun q6 => ∀ (y8 : Int32) (y9 : Int32), q6 = (y8.toInt, y9.toInt) → Ev E ad shl p l e rm_X3_heights s m args below meth c 0 0 Q 4 h 4 [some (.ref (ad b0)), some (.int x1), some (.int y8), some (.int y9)] []) (fun l7 Hl7 q6 hG => ?_) FU _ hG z1 z2 rfl)
  intro y8 y9 ha; have ha := ha.symm; subst ha
  unfold g_X3_heights_l7 at hG
  refine r_iload_n (pc := 4) X dX3_heights_4 rfl rfl ?_
  refine r_iload_n (pc := 5) X dX3_heights_5 rfl rfl ?_
  refine r_icmp_ge (pc := 6) X dX3_heights_6 (tgt := 30) (by decide) hG (fun hG => ?_) (fun hG => ?_)
  · skip
    exact r_mask [false, false, true, false] rfl (Hj4 _ hG y8 rfl)
  · skip
    refine r_iload_n (pc := 9) X dX3_heights_9 rfl rfl ?_
    refine r_bipush (pc := 10) X dX3_heights_10 hG (by decide) (fun z10 hG => ?_)
    refine r_icmp_ge (pc := 12) X dX3_heights_12 (tgt := 30) (by decide) hG (fun hG => ?_) (fun hG => ?_)
    · skip
      exact r_mask [false, false, true, false] rfl (Hj4 _ hG y8 rfl)
    · skip
      refine r_iload_n (pc := 15) X dX3_heights_15 rfl rfl ?_
      refine r_aload_n (pc := 16) X dX3_heights_16 rfl rfl ?_
      refine r_getC (pc := 17) X (at_X3_o Hb0) rfl mU_X3 (k := 0) (by decide) (q := (b0 + 1)) rfl mF_X3_9 dX3_heights_17 ?_
      refine r_iload_n (pc := 20) X dX3_heights_20 rfl rfl ?_
      refine r_iald (pc := 21) X (at_X3_height Hb0) dX3_heights_21 hG (fun z11 hG => ?_)
      refine r_iadd (pc := 22) X dX3_heights_22 hG (fun z12 hG => ?_)
      refine r_istore_n (pc := 23) (L' := [some (.ref (ad b0)), some (.int x1), some (.int z12), some (.int y9)]) X dX3_heights_23 rfl (by decide) rfl rfl ?_
      refine r_iinc (pc := 24) (L' := fun z13 => [some (.ref (ad b0)), some (.int x1), some (.int z12), some (.int z13)]) X dX3_heights_24 (by decide) rfl rfl (by decide) (fun _ => rfl) hG (fun z13 hG => ?_)
      refine r_goto (pc := 27) X dX3_heights_27 (tgt := 4) (by decide) ?_
      exact r_mask [true, true, true, true] rfl (Hl7 _ hG z12 z13 rfl)
theorem c_X3_heights {b0 : Nat} {x1 : Int32} {r : Int} (Hb0 : At_X3 shl b0) (hg : g_X3_heights b0 x1.toInt h = some r) : Met l yX3_heights (wsM yX3_heights cX3_heights 4 (some .int)) rm_X3_heights (va_Pc [.ref (ad b0), .int x1] (World E ad shl h)) (QcI E ad shl r h) 0 0 (bsA E) :=
  met_of (L0 := [some (.ref (ad b0)), some (.int x1), none, none]) rfl rfl rfl (Nat.le_of_ble_eq_true rfl) (fun _ _ _ _ _ _ _ X => w_X3_heights Hb0 X rfl hg)
abbrev rm_X8_sum : Room := { frames := 1, cells := 0, slots := 0, locals := 23 }
theorem hdd_X8_sum : yX8_sum.cls = RX8 ∧ yX8_sum.cls ≠ "java/lang/invoke/MethodHandle" ∧ yX8_sum.cls ≠ "java/lang/invoke/VarHandle" ∧ (parseMethodDescriptor yX8_sum.desc).map (fun d => d.parameters.length) = some 1 := ⟨rfl, by decide +kernel, by decide +kernel, by decide +kernel⟩
set_option maxRecDepth 100000 in
set_option maxHeartbeats 4000000 in
theorem w_X8_sum {x1 : Int32} {r : Int} (Hb0 : At_X8 shl) (X : Cx E p s m args meth c cX8_sum RX8 2 (some .int)) (hQ : Q = MQ below (QcI E ad shl r h) args s 0 0 (bsA E)) (hG : g_X8_sum x1.toInt h = some r) : Ev E ad shl p l e rm_X8_sum s m args below meth c 0 0 Q 2 h 0 [some (.ref (ad 0)), some (.int x1)] [] := by
  unfold g_X8_sum at hG
  refine r_iload_n (pc := 0) X dX8_sum_0 rfl rfl ?_
  refine r_join hG (fun a1 => ∀ (y3 : Int32), a1 = y3.toInt → Ev E ad shl p l e rm_X8_sum s m args below meth c 0 0 Q 2 h 122 [none, none] [.int y3]) (fun a1 hG => ?_) (fun j2 Hj2 hG => ?_)
  · skip
    intro y3 ha; have ha := ha.symm; subst ha
    exact r_iretP (pc := 122) X dX8_sum_122 hQ hG
  refine r_ite hG (fun e4 hG => ?_) (fun e4 hG => ?_)
  · refine r_tsIn (pc := 1) X dX8_sum_1 e4 (by decide) (by decide) rfl (tgt := 44) (by decide) ?_
    refine r_aload_n (pc := 44) X dX8_sum_44 rfl rfl ?_
    refine r_getC (pc := 45) X (at_X8_o Hb0) rfl mU_X8 (k := 7) (by decide) (q := 26) rfl mF_X8_45 dX8_sum_45 ?_
    refine r_aload_n (pc := 48) X dX8_sum_48 rfl rfl ?_
    refine r_getR (pc := 49) X (at_X8_o Hb0) rfl mU_X8 (k := 1) (by decide) rfl mF_X8_19 dX8_sum_49 hG (fun q5 Hq5 hG => ?_)
    refine r_cP (pc := 52) hG (fun _ hg => runV X dX8_sum_52 (c_X0_cells (at_X8_beaches Hb0 _ Hq5) hg) mM_X8_214 mI_X0_cells mE_X0_cells mN_X0 mK_X0_cells (at_X0_o (at_X8_beaches Hb0 _ Hq5)) rfl rfl rfl rfl hdd_X0_cells ⟨(Nat.le_of_ble_eq_true rfl), (Nat.le_of_ble_eq_true rfl)⟩ rfl rfl (Nat.le_of_ble_eq_true rfl) ⟨(Nat.le_of_ble_eq_true rfl), (Nat.le_of_ble_eq_true rfl)⟩) (fun z6 hG => ?_)
    refine r_cP (pc := 55) hG (fun _ hg => runV X dX8_sum_55 (c_X3_heights (at_X8_now Hb0) hg) mM_X8_216 mI_X3_heights mE_X3_heights mN_X3 mK_X3_heights (at_X3_o (at_X8_now Hb0)) rfl rfl rfl rfl hdd_X3_heights ⟨(Nat.le_of_ble_eq_true rfl), (Nat.le_of_ble_eq_true rfl)⟩ rfl rfl (Nat.le_of_ble_eq_true rfl) ⟨(Nat.le_of_ble_eq_true rfl), (Nat.le_of_ble_eq_true rfl)⟩) (fun z7 hG => ?_)
    refine r_goto (pc := 58) X dX8_sum_58 (tgt := 122) (by decide) ?_
    exact r_mask [false, false] rfl (Hj2 _ hG z7 rfl)
  refine r_ite hG (fun e8 hG => ?_) (fun e8 hG => ?_)
  · refine r_tsIn (pc := 1) X dX8_sum_1 e8 (by decide) (by decide) rfl (tgt := 61) (by decide) ?_
    refine r_aload_n (pc := 61) X dX8_sum_61 rfl rfl ?_
    refine r_getC (pc := 62) X (at_X8_o Hb0) rfl mU_X8 (k := 7) (by decide) (q := 26) rfl mF_X8_45 dX8_sum_62 ?_
    refine r_getI (pc := 65) X (at_X3_o (at_X8_now Hb0)) rfl mU_X3 (k := 10) (by decide) rfl mF_X8_219 dX8_sum_65 hG (fun z9 hG => ?_)
    refine r_goto (pc := 68) X dX8_sum_68 (tgt := 122) (by decide) ?_
    exact r_mask [false, false] rfl (Hj2 _ hG z9 rfl)
  refine r_ite hG (fun e10 hG => ?_) (fun e10 hG => ?_)
  · refine r_tsIn (pc := 1) X dX8_sum_1 e10 (by decide) (by decide) rfl (tgt := 71) (by decide) ?_
    refine r_aload_n (pc := 71) X dX8_sum_71 rfl rfl ?_
    refine r_getC (pc := 72) X (at_X8_o Hb0) rfl mU_X8 (k := 7) (by decide) (q := 26) rfl mF_X8_45 dX8_sum_72 ?_
    refine r_getI (pc := 75) X (at_X3_o (at_X8_now Hb0)) rfl mU_X3 (k := 9) (by decide) rfl mF_X8_175 dX8_sum_75 hG (fun z11 hG => ?_)
    refine r_goto (pc := 78) X dX8_sum_78 (tgt := 122) (by decide) ?_
    exact r_mask [false, false] rfl (Hj2 _ hG z11 rfl)
  refine r_ite hG (fun e12 hG => ?_) (fun e12 hG => ?_)
  · refine r_tsIn (pc := 1) X dX8_sum_1 e12 (by decide) (by decide) rfl (tgt := 81) (by decide) ?_
    refine r_aload_n (pc := 81) X dX8_sum_81 rfl rfl ?_
    refine r_getC (pc := 82) X (at_X8_o Hb0) rfl mU_X8 (k := 7) (by decide) (q := 26) rfl mF_X8_45 dX8_sum_82 ?_
    refine r_getI (pc := 85) X (at_X3_o (at_X8_now Hb0)) rfl mU_X3 (k := 11) (by decide) rfl mF_X8_222 dX8_sum_85 hG (fun z13 hG => ?_)
    refine r_goto (pc := 88) X dX8_sum_88 (tgt := 122) (by decide) ?_
    exact r_mask [false, false] rfl (Hj2 _ hG z13 rfl)
  refine r_ite hG (fun e14 hG => ?_) (fun e14 hG => ?_)
  · refine r_tsIn (pc := 1) X dX8_sum_1 e14 (by decide) (by decide) rfl (tgt := 91) (by decide) ?_
    refine r_aload_n (pc := 91) X dX8_sum_91 rfl rfl ?_
    refine r_getC (pc := 92) X (at_X8_o Hb0) rfl mU_X8 (k := 7) (by decide) (q := 26) rfl mF_X8_45 dX8_sum_92 ?_
    refine r_getI (pc := 95) X (at_X3_o (at_X8_now Hb0)) rfl mU_X3 (k := 12) (by decide) rfl mF_X8_225 dX8_sum_95 hG (fun z15 hG => ?_)
    refine r_goto (pc := 98) X dX8_sum_98 (tgt := 122) (by decide) ?_
    exact r_mask [false, false] rfl (Hj2 _ hG z15 rfl)
  refine r_ite hG (fun e16 hG => ?_) (fun e16 hG => ?_)
  · refine r_tsIn (pc := 1) X dX8_sum_1 e16 (by decide) (by decide) rfl (tgt := 101) (by decide) ?_
    refine r_aload_n (pc := 101) X dX8_sum_101 rfl rfl ?_
    refine r_getC (pc := 102) X (at_X8_o Hb0) rfl mU_X8 (k := 7) (by decide) (q := 26) rfl mF_X8_45 dX8_sum_102 ?_
    refine r_getI (pc := 105) X (at_X3_o (at_X8_now Hb0)) rfl mU_X3 (k := 13) (by decide) rfl mF_X8_228 dX8_sum_105 hG (fun z17 hG => ?_)
    refine r_goto (pc := 108) X dX8_sum_108 (tgt := 122) (by decide) ?_
    exact r_mask [false, false] rfl (Hj2 _ hG z17 rfl)
  refine r_ite hG (fun e18 hG => ?_) (fun e18 hG => ?_)
  · refine r_tsIn (pc := 1) X dX8_sum_1 e18 (by decide) (by decide) rfl (tgt := 111) (by decide) ?_
    refine r_aload_n (pc := 111) X dX8_sum_111 rfl rfl ?_
    refine r_getC (pc := 112) X (at_X8_o Hb0) rfl mU_X8 (k := 7) (by decide) (q := 26) rfl mF_X8_45 dX8_sum_112 ?_
    refine r_getI (pc := 115) X (at_X3_o (at_X8_now Hb0)) rfl mU_X3 (k := 14) (by decide) rfl mF_X8_231 dX8_sum_115 hG (fun z19 hG => ?_)
    refine r_goto (pc := 118) X dX8_sum_118 (tgt := 122) (by decide) ?_
    exact r_mask [false, false] rfl (Hj2 _ hG z19 rfl)
  refine r_tsOut (pc := 1) X dX8_sum_1 (by omega) (tgt := 121) (by decide) ?_
  refine r_iconst (pc := 121) X dX8_sum_121 hG rfl (fun z20 hG => ?_)
  exact r_mask [false, false] rfl (Hj2 _ hG z20 rfl)
theorem c_X8_sum {x1 : Int32} {r : Int} (Hb0 : At_X8 shl) (hg : g_X8_sum x1.toInt h = some r) : Met l yX8_sum (wsM yX8_sum cX8_sum 2 (some .int)) rm_X8_sum (va_Pc [.ref (ad 0), .int x1] (World E ad shl h)) (QcI E ad shl r h) 0 0 (bsA E) :=
  met_of (L0 := [some (.ref (ad 0)), some (.int x1)]) rfl rfl rfl (Nat.le_of_ble_eq_true rfl) (fun _ _ _ _ _ _ _ X => w_X8_sum Hb0 X rfl hg)
abbrev rm_X3_copyFrom : Room := { frames := 1, cells := 0, slots := 0, locals := 26 }
theorem hdd_X3_copyFrom : yX3_copyFrom.cls = RX3 ∧ yX3_copyFrom.cls ≠ "java/lang/invoke/MethodHandle" ∧ yX3_copyFrom.cls ≠ "java/lang/invoke/VarHandle" ∧ (parseMethodDescriptor yX3_copyFrom.desc).map (fun d => d.parameters.length) = some 1 := ⟨rfl, by decide +kernel, by decide +kernel, by decide +kernel⟩
set_option maxRecDepth 100000 in
set_option maxHeartbeats 4000000 in
theorem w_X3_copyFrom {b0 : Nat} {b1 : Nat} {r : Hp} (Hb0 : At_X3 shl b0) (Hb1 : At_X3 shl b1) (X : Cx E p s m args meth c cX3_copyFrom RX3 2 none) (hQ : Q = MQ below (QcV E ad shl r) args s 0 0 (bsA E)) (hG : g_X3_copyFrom b0 b1 h = some r) : Ev E ad shl p l e rm_X3_copyFrom s m args below meth c 0 0 Q 2 h 0 [some (.ref (ad b0)), some (.ref (ad b1))] [] := by
  unfold g_X3_copyFrom at hG
  refine r_aload_n (pc := 0) X dX3_copyFrom_0 rfl rfl ?_
  refine r_getC (pc := 1) X (at_X3_o Hb1) rfl mU_X3 (k := 0) (by decide) (q := (b1 + 1)) rfl mF_X3_9 dX3_copyFrom_1 ?_
  refine r_iconst (pc := 4) X dX3_copyFrom_4 hG rfl (fun z1 hG => ?_)
  refine r_aload_n (pc := 5) X dX3_copyFrom_5 rfl rfl ?_
  refine r_getC (pc := 6) X (at_X3_o Hb0) rfl mU_X3 (k := 0) (by decide) (q := (b0 + 1)) rfl mF_X3_9 dX3_copyFrom_6 ?_
  refine r_iconst (pc := 9) X dX3_copyFrom_9 hG rfl (fun z2 hG => ?_)
  refine r_bipush (pc := 10) X dX3_copyFrom_10 hG (by decide) (fun z3 hG => ?_)
  refine r_copy (pc := 12) X dX3_copyFrom_12 mM_X3_84 (at_X3_height Hb1) (at_X3_height Hb0) (Nat.le_of_ble_eq_true rfl) (Nat.le_of_ble_eq_true rfl) hG (fun h4 hG => ?_)
  refine r_aload_n (pc := 15) X dX3_copyFrom_15 rfl rfl ?_
  refine r_getC (pc := 16) X (at_X3_o Hb1) rfl mU_X3 (k := 1) (by decide) (q := (b1 + 2)) rfl mF_X3_15 dX3_copyFrom_16 ?_
  refine r_iconst (pc := 19) X dX3_copyFrom_19 hG rfl (fun z5 hG => ?_)
  refine r_aload_n (pc := 20) X dX3_copyFrom_20 rfl rfl ?_
  refine r_getC (pc := 21) X (at_X3_o Hb0) rfl mU_X3 (k := 1) (by decide) (q := (b0 + 2)) rfl mF_X3_15 dX3_copyFrom_21 ?_
  refine r_iconst (pc := 24) X dX3_copyFrom_24 hG rfl (fun z6 hG => ?_)
  refine r_bipush (pc := 25) X dX3_copyFrom_25 hG (by decide) (fun z7 hG => ?_)
  refine r_copy (pc := 27) X dX3_copyFrom_27 mM_X3_84 (at_X3_wet Hb1) (at_X3_wet Hb0) (Nat.le_of_ble_eq_true rfl) (Nat.le_of_ble_eq_true rfl) hG (fun h8 hG => ?_)
  refine r_aload_n (pc := 30) X dX3_copyFrom_30 rfl rfl ?_
  refine r_getC (pc := 31) X (at_X3_o Hb1) rfl mU_X3 (k := 2) (by decide) (q := (b1 + 3)) rfl mF_X3_18 dX3_copyFrom_31 ?_
  refine r_iconst (pc := 34) X dX3_copyFrom_34 hG rfl (fun z9 hG => ?_)
  refine r_aload_n (pc := 35) X dX3_copyFrom_35 rfl rfl ?_
  refine r_getC (pc := 36) X (at_X3_o Hb0) rfl mU_X3 (k := 2) (by decide) (q := (b0 + 3)) rfl mF_X3_18 dX3_copyFrom_36 ?_
  refine r_iconst (pc := 39) X dX3_copyFrom_39 hG rfl (fun z10 hG => ?_)
  refine r_bipush (pc := 40) X dX3_copyFrom_40 hG (by decide) (fun z11 hG => ?_)
  refine r_copy (pc := 42) X dX3_copyFrom_42 mM_X3_84 (at_X3_pack Hb1) (at_X3_pack Hb0) (Nat.le_of_ble_eq_true rfl) (Nat.le_of_ble_eq_true rfl) hG (fun h12 hG => ?_)
  refine r_aload_n (pc := 45) X dX3_copyFrom_45 rfl rfl ?_
  refine r_getC (pc := 46) X (at_X3_o Hb1) rfl mU_X3 (k := 3) (by decide) (q := (b1 + 4)) rfl mF_X3_21 dX3_copyFrom_46 ?_
  refine r_iconst (pc := 49) X dX3_copyFrom_49 hG rfl (fun z13 hG => ?_)
  refine r_aload_n (pc := 50) X dX3_copyFrom_50 rfl rfl ?_
  refine r_getC (pc := 51) X (at_X3_o Hb0) rfl mU_X3 (k := 3) (by decide) (q := (b0 + 4)) rfl mF_X3_21 dX3_copyFrom_51 ?_
  refine r_iconst (pc := 54) X dX3_copyFrom_54 hG rfl (fun z14 hG => ?_)
  refine r_bipush (pc := 55) X dX3_copyFrom_55 hG (by decide) (fun z15 hG => ?_)
  refine r_copy (pc := 57) X dX3_copyFrom_57 mM_X3_84 (at_X3_stone Hb1) (at_X3_stone Hb0) (Nat.le_of_ble_eq_true rfl) (Nat.le_of_ble_eq_true rfl) hG (fun h16 hG => ?_)
  refine r_aload_n (pc := 60) X dX3_copyFrom_60 rfl rfl ?_
  refine r_getC (pc := 61) X (at_X3_o Hb1) rfl mU_X3 (k := 4) (by decide) (q := (b1 + 5)) rfl mF_X3_24 dX3_copyFrom_61 ?_
  refine r_iconst (pc := 64) X dX3_copyFrom_64 hG rfl (fun z17 hG => ?_)
  refine r_aload_n (pc := 65) X dX3_copyFrom_65 rfl rfl ?_
  refine r_getC (pc := 66) X (at_X3_o Hb0) rfl mU_X3 (k := 4) (by decide) (q := (b0 + 5)) rfl mF_X3_24 dX3_copyFrom_66 ?_
  refine r_iconst (pc := 69) X dX3_copyFrom_69 hG rfl (fun z18 hG => ?_)
  refine r_iconst (pc := 70) X dX3_copyFrom_70 hG rfl (fun z19 hG => ?_)
  refine r_copy (pc := 71) X dX3_copyFrom_71 mM_X3_84 (at_X3_fell Hb1) (at_X3_fell Hb0) (Nat.le_of_ble_eq_true rfl) (Nat.le_of_ble_eq_true rfl) hG (fun h20 hG => ?_)
  refine r_aload_n (pc := 74) X dX3_copyFrom_74 rfl rfl ?_
  refine r_getC (pc := 75) X (at_X3_o Hb1) rfl mU_X3 (k := 5) (by decide) (q := (b1 + 6)) rfl mF_X3_27 dX3_copyFrom_75 ?_
  refine r_iconst (pc := 78) X dX3_copyFrom_78 hG rfl (fun z21 hG => ?_)
  refine r_aload_n (pc := 79) X dX3_copyFrom_79 rfl rfl ?_
  refine r_getC (pc := 80) X (at_X3_o Hb0) rfl mU_X3 (k := 5) (by decide) (q := (b0 + 6)) rfl mF_X3_27 dX3_copyFrom_80 ?_
  refine r_iconst (pc := 83) X dX3_copyFrom_83 hG rfl (fun z22 hG => ?_)
  refine r_iconst (pc := 84) X dX3_copyFrom_84 hG rfl (fun z23 hG => ?_)
  refine r_copy (pc := 85) X dX3_copyFrom_85 mM_X3_84 (at_X3_nextAct Hb1) (at_X3_nextAct Hb0) (Nat.le_of_ble_eq_true rfl) (Nat.le_of_ble_eq_true rfl) hG (fun h24 hG => ?_)
  refine r_aload_n (pc := 88) X dX3_copyFrom_88 rfl rfl ?_
  refine r_getC (pc := 89) X (at_X3_o Hb1) rfl mU_X3 (k := 6) (by decide) (q := (b1 + 7)) rfl mF_X3_30 dX3_copyFrom_89 ?_
  refine r_iconst (pc := 92) X dX3_copyFrom_92 hG rfl (fun z25 hG => ?_)
  refine r_aload_n (pc := 93) X dX3_copyFrom_93 rfl rfl ?_
  refine r_getC (pc := 94) X (at_X3_o Hb0) rfl mU_X3 (k := 6) (by decide) (q := (b0 + 7)) rfl mF_X3_30 dX3_copyFrom_94 ?_
  refine r_iconst (pc := 97) X dX3_copyFrom_97 hG rfl (fun z26 hG => ?_)
  refine r_iconst (pc := 98) X dX3_copyFrom_98 hG rfl (fun z27 hG => ?_)
  refine r_copy (pc := 99) X dX3_copyFrom_99 mM_X3_84 (at_X3_actsSinceRest Hb1) (at_X3_actsSinceRest Hb0) (Nat.le_of_ble_eq_true rfl) (Nat.le_of_ble_eq_true rfl) hG (fun h28 hG => ?_)
  refine r_aload_n (pc := 102) X dX3_copyFrom_102 rfl rfl ?_
  refine r_aload_n (pc := 103) X dX3_copyFrom_103 rfl rfl ?_
  refine r_getI (pc := 104) X (at_X3_o Hb1) rfl mU_X3 (k := 7) (by decide) rfl mF_X3_33 dX3_copyFrom_104 hG (fun z29 hG => ?_)
  refine r_putI (pc := 107) X (at_X3_o Hb0) rfl mU_X3 (k := 7) (by decide) rfl rfl rfl mF_X3_33 dX3_copyFrom_107 hG (fun h30 hG => ?_)
  refine r_aload_n (pc := 110) X dX3_copyFrom_110 rfl rfl ?_
  refine r_aload_n (pc := 111) X dX3_copyFrom_111 rfl rfl ?_
  refine r_getI (pc := 112) X (at_X3_o Hb1) rfl mU_X3 (k := 8) (by decide) rfl mF_X3_37 dX3_copyFrom_112 hG (fun z31 hG => ?_)
  refine r_putI (pc := 115) X (at_X3_o Hb0) rfl mU_X3 (k := 8) (by decide) rfl rfl rfl mF_X3_37 dX3_copyFrom_115 hG (fun h32 hG => ?_)
  refine r_aload_n (pc := 118) X dX3_copyFrom_118 rfl rfl ?_
  refine r_aload_n (pc := 119) X dX3_copyFrom_119 rfl rfl ?_
  refine r_getI (pc := 120) X (at_X3_o Hb1) rfl mU_X3 (k := 9) (by decide) rfl mF_X3_62 dX3_copyFrom_120 hG (fun z33 hG => ?_)
  refine r_putI (pc := 123) X (at_X3_o Hb0) rfl mU_X3 (k := 9) (by decide) rfl rfl rfl mF_X3_62 dX3_copyFrom_123 hG (fun h34 hG => ?_)
  refine r_aload_n (pc := 126) X dX3_copyFrom_126 rfl rfl ?_
  refine r_aload_n (pc := 127) X dX3_copyFrom_127 rfl rfl ?_
  refine r_getI (pc := 128) X (at_X3_o Hb1) rfl mU_X3 (k := 10) (by decide) rfl mF_X3_65 dX3_copyFrom_128 hG (fun z35 hG => ?_)
  refine r_putI (pc := 131) X (at_X3_o Hb0) rfl mU_X3 (k := 10) (by decide) rfl rfl rfl mF_X3_65 dX3_copyFrom_131 hG (fun h36 hG => ?_)
  refine r_aload_n (pc := 134) X dX3_copyFrom_134 rfl rfl ?_
  refine r_aload_n (pc := 135) X dX3_copyFrom_135 rfl rfl ?_
  refine r_getI (pc := 136) X (at_X3_o Hb1) rfl mU_X3 (k := 11) (by decide) rfl mF_X3_68 dX3_copyFrom_136 hG (fun z37 hG => ?_)
  refine r_putI (pc := 139) X (at_X3_o Hb0) rfl mU_X3 (k := 11) (by decide) rfl rfl rfl mF_X3_68 dX3_copyFrom_139 hG (fun h38 hG => ?_)
  refine r_aload_n (pc := 142) X dX3_copyFrom_142 rfl rfl ?_
  refine r_aload_n (pc := 143) X dX3_copyFrom_143 rfl rfl ?_
  refine r_getI (pc := 144) X (at_X3_o Hb1) rfl mU_X3 (k := 12) (by decide) rfl mF_X3_71 dX3_copyFrom_144 hG (fun z39 hG => ?_)
  refine r_putI (pc := 147) X (at_X3_o Hb0) rfl mU_X3 (k := 12) (by decide) rfl rfl rfl mF_X3_71 dX3_copyFrom_147 hG (fun h40 hG => ?_)
  refine r_aload_n (pc := 150) X dX3_copyFrom_150 rfl rfl ?_
  refine r_aload_n (pc := 151) X dX3_copyFrom_151 rfl rfl ?_
  refine r_getI (pc := 152) X (at_X3_o Hb1) rfl mU_X3 (k := 13) (by decide) rfl mF_X3_74 dX3_copyFrom_152 hG (fun z41 hG => ?_)
  refine r_putI (pc := 155) X (at_X3_o Hb0) rfl mU_X3 (k := 13) (by decide) rfl rfl rfl mF_X3_74 dX3_copyFrom_155 hG (fun h42 hG => ?_)
  refine r_aload_n (pc := 158) X dX3_copyFrom_158 rfl rfl ?_
  refine r_aload_n (pc := 159) X dX3_copyFrom_159 rfl rfl ?_
  refine r_getI (pc := 160) X (at_X3_o Hb1) rfl mU_X3 (k := 14) (by decide) rfl mF_X3_77 dX3_copyFrom_160 hG (fun z43 hG => ?_)
  refine r_putI (pc := 163) X (at_X3_o Hb0) rfl mU_X3 (k := 14) (by decide) rfl rfl rfl mF_X3_77 dX3_copyFrom_163 hG (fun h44 hG => ?_)
  refine r_aload_n (pc := 166) X dX3_copyFrom_166 rfl rfl ?_
  refine r_aload_n (pc := 167) X dX3_copyFrom_167 rfl rfl ?_
  refine r_getI (pc := 168) X (at_X3_o Hb1) rfl mU_X3 (k := 15) (by decide) rfl mF_X3_80 dX3_copyFrom_168 hG (fun z45 hG => ?_)
  refine r_putZ (pc := 171) X (at_X3_o Hb0) rfl mU_X3 (k := 15) (by decide) rfl rfl rfl mF_X3_80 dX3_copyFrom_171 hG (fun h46 hG => ?_)
  exact r_vret (pc := 174) X dX3_copyFrom_174 hQ hG
theorem c_X3_copyFrom {b0 : Nat} {b1 : Nat} {r : Hp} (Hb0 : At_X3 shl b0) (Hb1 : At_X3 shl b1) (hg : g_X3_copyFrom b0 b1 h = some r) : Met l yX3_copyFrom (wsM yX3_copyFrom cX3_copyFrom 2 none) rm_X3_copyFrom (va_Pc [.ref (ad b0), .ref (ad b1)] (World E ad shl h)) (QcV E ad shl r) 0 0 (bsA E) :=
  met_of (L0 := [some (.ref (ad b0)), some (.ref (ad b1))]) rfl rfl rfl (Nat.le_of_ble_eq_true rfl) (fun _ _ _ _ _ _ _ X => w_X3_copyFrom Hb0 Hb1 X rfl hg)
abbrev rm_X8_keep : Room := { frames := 2, cells := 0, slots := 0, locals := 47 }
theorem hdd_X8_keep : yX8_keep.cls = RX8 ∧ yX8_keep.cls ≠ "java/lang/invoke/MethodHandle" ∧ yX8_keep.cls ≠ "java/lang/invoke/VarHandle" ∧ (parseMethodDescriptor yX8_keep.desc).map (fun d => d.parameters.length) = some 1 := ⟨rfl, by decide +kernel, by decide +kernel, by decide +kernel⟩
set_option maxRecDepth 100000 in
set_option maxHeartbeats 4000000 in
theorem w_X8_keep {x1 : Int32} {r : Int × Hp} (Hb0 : At_X8 shl) (X : Cx E p s m args meth c cX8_keep RX8 2 (some .int)) (hQ : Q = MQ below (QcI E ad shl r.1 r.2) args s 0 0 (bsA E)) (hG : g_X8_keep x1.toInt h = some r) : Ev E ad shl p l e rm_X8_keep s m args below meth c 0 0 Q 2 h 0 [some (.ref (ad 0)), some (.int x1)] [] := by
  unfold g_X8_keep at hG
  refine r_iload_n (pc := 0) X dX8_keep_0 rfl rfl ?_
  refine r_join hG (fun _ => Ev E ad shl p l e rm_X8_keep s m args below meth c 0 0 Q 2 h 9 [none, none] []) (fun a1 hG => ?_) (fun j2 Hj2 hG => ?_)
  · skip
    refine r_bipush (pc := 9) X dX8_keep_9 hG (by decide) (fun z3 hG => ?_)
    exact r_iretW (pc := 11) X dX8_keep_11 hQ hG
  refine r_if_lt (pc := 1) X dX8_keep_1 (tgt := 9) (by decide) hG (fun hG => ?_) (fun hG => ?_)
  · skip
    exact r_mask [false, false] rfl (Hj2 _ hG)
  · skip
    refine r_iload_n (pc := 4) X dX8_keep_4 rfl rfl ?_
    refine r_iconst (pc := 5) X dX8_keep_5 hG rfl (fun z4 hG => ?_)
    refine r_icmp_lt (pc := 6) X dX8_keep_6 (tgt := 12) (by decide) hG (fun hG => ?_) (fun hG => ?_)
    · skip
      refine r_aload_n (pc := 12) X dX8_keep_12 rfl rfl ?_
      refine r_getC (pc := 13) X (at_X8_o Hb0) rfl mU_X8 (k := 8) (by decide) (q := 34) rfl mF_X8_49 dX8_keep_13 ?_
      refine r_iload_n (pc := 16) X dX8_keep_16 rfl rfl ?_
      refine r_aald (pc := 17) X (at_X8_slots Hb0) (by decide) rfl (by decide) dX8_keep_17 hG (fun q5 Hq5 hG => ?_)
      refine r_aload_n (pc := 18) X dX8_keep_18 rfl rfl ?_
      refine r_getC (pc := 19) X (at_X8_o Hb0) rfl mU_X8 (k := 7) (by decide) (q := 26) rfl mF_X8_45 dX8_keep_19 ?_
      refine r_cV (pc := 22) hG (fun _ hg => runV X dX8_keep_22 (c_X3_copyFrom (at_X8_slotAt Hb0 _ Hq5) (at_X8_now Hb0) hg) mM_X8_234 mI_X3_copyFrom mE_X3_copyFrom mN_X3 mK_X3_copyFrom (at_X3_o (at_X8_slotAt Hb0 _ Hq5)) rfl rfl rfl rfl hdd_X3_copyFrom ⟨(Nat.le_of_ble_eq_true rfl), (Nat.le_of_ble_eq_true rfl)⟩ rfl rfl (Nat.le_of_ble_eq_true rfl) ⟨(Nat.le_of_ble_eq_true rfl), (Nat.le_of_ble_eq_true rfl)⟩) (fun h6 hG => ?_)
      refine r_aload_n (pc := 25) X dX8_keep_25 rfl rfl ?_
      refine r_getC (pc := 26) X (at_X8_o Hb0) rfl mU_X8 (k := 9) (by decide) (q := 35) rfl mF_X8_53 dX8_keep_26 ?_
      refine r_iload_n (pc := 29) X dX8_keep_29 rfl rfl ?_
      refine r_iconst (pc := 30) X dX8_keep_30 hG rfl (fun z7 hG => ?_)
      refine r_zast (pc := 31) X (at_X8_isKept Hb0) dX8_keep_31 hG (fun h8 hG => ?_)
      refine r_aload_n (pc := 32) X dX8_keep_32 rfl rfl ?_
      refine r_getC (pc := 33) X (at_X8_o Hb0) rfl mU_X8 (k := 7) (by decide) (q := 26) rfl mF_X8_45 dX8_keep_33 ?_
      refine r_getI (pc := 36) X (at_X3_o (at_X8_now Hb0)) rfl mU_X3 (k := 9) (by decide) rfl mF_X8_175 dX8_keep_36 hG (fun z9 hG => ?_)
      exact r_iretW (pc := 39) X dX8_keep_39 hQ hG
    · skip
      exact r_mask [false, false] rfl (Hj2 _ hG)
theorem c_X8_keep {x1 : Int32} {r : Int × Hp} (Hb0 : At_X8 shl) (hg : g_X8_keep x1.toInt h = some r) : Met l yX8_keep (wsM yX8_keep cX8_keep 2 (some .int)) rm_X8_keep (va_Pc [.ref (ad 0), .int x1] (World E ad shl h)) (QcI E ad shl r.1 r.2) 0 0 (bsA E) :=
  met_of (L0 := [some (.ref (ad 0)), some (.int x1)]) rfl rfl rfl (Nat.le_of_ble_eq_true rfl) (fun _ _ _ _ _ _ _ X => w_X8_keep Hb0 X rfl hg)
abbrev rm_X8_take : Room := { frames := 2, cells := 0, slots := 0, locals := 47 }
theorem hdd_X8_take : yX8_take.cls = RX8 ∧ yX8_take.cls ≠ "java/lang/invoke/MethodHandle" ∧ yX8_take.cls ≠ "java/lang/invoke/VarHandle" ∧ (parseMethodDescriptor yX8_take.desc).map (fun d => d.parameters.length) = some 1 := ⟨rfl, by decide +kernel, by decide +kernel, by decide +kernel⟩
set_option maxRecDepth 100000 in
set_option maxHeartbeats 4000000 in
theorem w_X8_take {x1 : Int32} {r : Int × Hp} (Hb0 : At_X8 shl) (X : Cx E p s m args meth c cX8_take RX8 2 (some .int)) (hQ : Q = MQ below (QcI E ad shl r.1 r.2) args s 0 0 (bsA E)) (hG : g_X8_take x1.toInt h = some r) : Ev E ad shl p l e rm_X8_take s m args below meth c 0 0 Q 2 h 0 [some (.ref (ad 0)), some (.int x1)] [] := by
  unfold g_X8_take at hG
  refine r_iload_n (pc := 0) X dX8_take_0 rfl rfl ?_
  refine r_join hG (fun _ => Ev E ad shl p l e rm_X8_take s m args below meth c 0 0 Q 2 h 9 [none, none] []) (fun a1 hG => ?_) (fun j2 Hj2 hG => ?_)
  · skip
    refine r_bipush (pc := 9) X dX8_take_9 hG (by decide) (fun z3 hG => ?_)
    exact r_iretW (pc := 11) X dX8_take_11 hQ hG
  refine r_if_lt (pc := 1) X dX8_take_1 (tgt := 9) (by decide) hG (fun hG => ?_) (fun hG => ?_)
  · skip
    exact r_mask [false, false] rfl (Hj2 _ hG)
  · skip
    refine r_iload_n (pc := 4) X dX8_take_4 rfl rfl ?_
    refine r_iconst (pc := 5) X dX8_take_5 hG rfl (fun z4 hG => ?_)
    refine r_icmp_lt (pc := 6) X dX8_take_6 (tgt := 12) (by decide) hG (fun hG => ?_) (fun hG => ?_)
    · skip
      refine r_aload_n (pc := 12) X dX8_take_12 rfl rfl ?_
      refine r_getC (pc := 13) X (at_X8_o Hb0) rfl mU_X8 (k := 9) (by decide) (q := 35) rfl mF_X8_53 dX8_take_13 ?_
      refine r_iload_n (pc := 16) X dX8_take_16 rfl rfl ?_
      refine r_zald (pc := 17) X (at_X8_isKept Hb0) dX8_take_17 hG (fun z5 hG => ?_)
      refine r_if_ne (pc := 18) X dX8_take_18 (tgt := 24) (by decide) hG (fun hG => ?_) (fun hG => ?_)
      · skip
        refine r_aload_n (pc := 24) X dX8_take_24 rfl rfl ?_
        refine r_getC (pc := 25) X (at_X8_o Hb0) rfl mU_X8 (k := 7) (by decide) (q := 26) rfl mF_X8_45 dX8_take_25 ?_
        refine r_aload_n (pc := 28) X dX8_take_28 rfl rfl ?_
        refine r_getC (pc := 29) X (at_X8_o Hb0) rfl mU_X8 (k := 8) (by decide) (q := 34) rfl mF_X8_49 dX8_take_29 ?_
        refine r_iload_n (pc := 32) X dX8_take_32 rfl rfl ?_
        refine r_aald (pc := 33) X (at_X8_slots Hb0) (by decide) rfl (by decide) dX8_take_33 hG (fun q6 Hq6 hG => ?_)
        refine r_cV (pc := 34) hG (fun _ hg => runV X dX8_take_34 (c_X3_copyFrom (at_X8_now Hb0) (at_X8_slotAt Hb0 _ Hq6) hg) mM_X8_234 mI_X3_copyFrom mE_X3_copyFrom mN_X3 mK_X3_copyFrom (at_X3_o (at_X8_now Hb0)) rfl rfl rfl rfl hdd_X3_copyFrom ⟨(Nat.le_of_ble_eq_true rfl), (Nat.le_of_ble_eq_true rfl)⟩ rfl rfl (Nat.le_of_ble_eq_true rfl) ⟨(Nat.le_of_ble_eq_true rfl), (Nat.le_of_ble_eq_true rfl)⟩) (fun h7 hG => ?_)
        refine r_aload_n (pc := 37) X dX8_take_37 rfl rfl ?_
        refine r_getC (pc := 38) X (at_X8_o Hb0) rfl mU_X8 (k := 7) (by decide) (q := 26) rfl mF_X8_45 dX8_take_38 ?_
        refine r_getI (pc := 41) X (at_X3_o (at_X8_now Hb0)) rfl mU_X3 (k := 9) (by decide) rfl mF_X8_175 dX8_take_41 hG (fun z8 hG => ?_)
        exact r_iretW (pc := 44) X dX8_take_44 hQ hG
      · skip
        refine r_bipush (pc := 21) X dX8_take_21 hG (by decide) (fun z9 hG => ?_)
        exact r_iretW (pc := 23) X dX8_take_23 hQ hG
    · skip
      exact r_mask [false, false] rfl (Hj2 _ hG)
theorem c_X8_take {x1 : Int32} {r : Int × Hp} (Hb0 : At_X8 shl) (hg : g_X8_take x1.toInt h = some r) : Met l yX8_take (wsM yX8_take cX8_take 2 (some .int)) rm_X8_take (va_Pc [.ref (ad 0), .int x1] (World E ad shl h)) (QcI E ad shl r.1 r.2) 0 0 (bsA E) :=
  met_of (L0 := [some (.ref (ad 0)), some (.int x1)]) rfl rfl rfl (Nat.le_of_ble_eq_true rfl) (fun _ _ _ _ _ _ _ X => w_X8_take Hb0 X rfl hg)
abbrev rm_X8_isSand : Room := { frames := 0, cells := 0, slots := 0, locals := 0 }
theorem hdd_X8_isSand : yX8_isSand.cls ≠ "java/lang/invoke/MethodHandle" ∧ yX8_isSand.cls ≠ "java/lang/invoke/VarHandle" ∧ (parseMethodDescriptor yX8_isSand.desc).map (fun d => d.parameters.length) = some 2 := ⟨by decide +kernel, by decide +kernel, by decide +kernel⟩
set_option maxRecDepth 100000 in
set_option maxHeartbeats 4000000 in
theorem w_X8_isSand {x1 : Int32} {x2 : Int32} {r : Int}  (X : Cx E p s m args meth c cX8_isSand RX8 2 (some .boolean)) (hQ : Q = MQ below (QcI E ad shl r h) args s 0 0 (bsA E)) (hG : g_X8_isSand x1.toInt x2.toInt = some r) : Ev E ad shl p l e rm_X8_isSand s m args below meth c 0 0 Q 2 h 0 [some (.int x1), some (.int x2)] [] := by
  unfold g_X8_isSand at hG
  refine r_iload_n (pc := 0) X dX8_isSand_0 rfl rfl ?_
  refine r_join hG (fun a1 => ∀ (y3 : Int32), a1 = y3.toInt → Ev E ad shl p l e rm_X8_isSand s m args below meth c 0 0 Q 2 h 24 [none, none] [.int y3]) (fun a1 hG => ?_) (fun j2 Hj2 hG => ?_)
  · skip
    intro y3 ha; have ha := ha.symm; subst ha
    exact r_zretP (pc := 24) X dX8_isSand_24 hQ hG
  refine r_join hG (fun _ => Ev E ad shl p l e rm_X8_isSand s m args below meth c 0 0 Q 2 h 23 [none, none] []) (fun a4 hG => ?_) (fun j5 Hj5 hG => ?_)
  · skip
    refine r_iconst (pc := 23) X dX8_isSand_23 hG rfl (fun z6 hG => ?_)
    exact r_mask [false, false] rfl (Hj2 _ hG z6 rfl)
  refine r_if_lt (pc := 1) X dX8_isSand_1 (tgt := 23) (by decide) hG (fun hG => ?_) (fun hG => ?_)
  · skip
    exact r_mask [false, false] rfl (Hj5 _ hG)
  · skip
    refine r_iload_n (pc := 4) X dX8_isSand_4 rfl rfl ?_
    refine r_bipush (pc := 5) X dX8_isSand_5 hG (by decide) (fun z7 hG => ?_)
    refine r_icmp_gt (pc := 7) X dX8_isSand_7 (tgt := 23) (by decide) hG (fun hG => ?_) (fun hG => ?_)
    · skip
      exact r_mask [false, false] rfl (Hj5 _ hG)
    · skip
      refine r_iload_n (pc := 10) X dX8_isSand_10 rfl rfl ?_
      refine r_if_lt (pc := 11) X dX8_isSand_11 (tgt := 23) (by decide) hG (fun hG => ?_) (fun hG => ?_)
      · skip
        exact r_mask [false, false] rfl (Hj5 _ hG)
      · skip
        refine r_iload_n (pc := 14) X dX8_isSand_14 rfl rfl ?_
        refine r_iconst (pc := 15) X dX8_isSand_15 hG rfl (fun z8 hG => ?_)
        refine r_icmp_gt (pc := 16) X dX8_isSand_16 (tgt := 23) (by decide) hG (fun hG => ?_) (fun hG => ?_)
        · skip
          exact r_mask [false, false] rfl (Hj5 _ hG)
        · skip
          refine r_iconst (pc := 19) X dX8_isSand_19 hG rfl (fun z9 hG => ?_)
          refine r_goto (pc := 20) X dX8_isSand_20 (tgt := 24) (by decide) ?_
          exact r_mask [false, false] rfl (Hj2 _ hG z9 rfl)
theorem c_X8_isSand {x1 : Int32} {x2 : Int32} {r : Int}  (hg : g_X8_isSand x1.toInt x2.toInt = some r) : Met l yX8_isSand (wsM yX8_isSand cX8_isSand 2 (some .boolean)) rm_X8_isSand (va_Pc [.int x1, .int x2] (World E ad shl h)) (QcI E ad shl r h) 0 0 (bsA E) :=
  met_of (L0 := [some (.int x1), some (.int x2)]) rfl rfl rfl (Nat.le_of_ble_eq_true rfl) (fun _ _ _ _ _ _ _ X => w_X8_isSand  X rfl hg)
abbrev rm_X8_holds : Room := { frames := 1, cells := 0, slots := 0, locals := 23 }
theorem hdd_X8_holds : yX8_holds.cls = RX8 ∧ yX8_holds.cls ≠ "java/lang/invoke/MethodHandle" ∧ yX8_holds.cls ≠ "java/lang/invoke/VarHandle" ∧ (parseMethodDescriptor yX8_holds.desc).map (fun d => d.parameters.length) = some 2 := ⟨rfl, by decide +kernel, by decide +kernel, by decide +kernel⟩
set_option maxRecDepth 100000 in
set_option maxHeartbeats 4000000 in
theorem w_X8_holds {x1 : Int32} {x2 : Int32} {r : Int} (Hb0 : At_X8 shl) (X : Cx E p s m args meth c cX8_holds RX8 3 (some .int)) (hQ : Q = MQ below (QcI E ad shl r h) args s 0 0 (bsA E)) (hG : g_X8_holds x1.toInt x2.toInt h = some r) : Ev E ad shl p l e rm_X8_holds s m args below meth c 0 0 Q 3 h 0 [some (.ref (ad 0)), some (.int x1), some (.int x2)] [] := by
  unfold g_X8_holds at hG
  refine r_iload_n (pc := 0) X dX8_holds_0 rfl rfl ?_
  refine r_iload_n (pc := 1) X dX8_holds_1 rfl rfl ?_
  refine r_cP (pc := 2) hG (fun _ hg => runS X dX8_holds_2 (c_X8_isSand  hg) mM_X8_238 mS_X8_isSand mN_X8 mK_X8_isSand rfl rfl hdd_X8_isSand ⟨(Nat.le_of_ble_eq_true rfl), (Nat.le_of_ble_eq_true rfl)⟩ rfl rfl (Nat.le_of_ble_eq_true rfl) ⟨(Nat.le_of_ble_eq_true rfl), (Nat.le_of_ble_eq_true rfl)⟩) (fun z1 hG => ?_)
  refine r_join hG (fun a2 => ∀ (y4 : Int32), a2 = y4.toInt → Ev E ad shl p l e rm_X8_holds s m args below meth c 0 0 Q 3 h 22 [none, none, none] [.int y4]) (fun a2 hG => ?_) (fun j3 Hj3 hG => ?_)
  · skip
    intro y4 ha; have ha := ha.symm; subst ha
    exact r_iretP (pc := 22) X dX8_holds_22 hQ hG
  refine r_if_eq (pc := 5) X dX8_holds_5 (tgt := 20) (by decide) hG (fun hG => ?_) (fun hG => ?_)
  · skip
    refine r_bipush (pc := 20) X dX8_holds_20 hG (by decide) (fun z5 hG => ?_)
    exact r_mask [false, false, false] rfl (Hj3 _ hG z5 rfl)
  · skip
    refine r_aload_n (pc := 8) X dX8_holds_8 rfl rfl ?_
    refine r_getR (pc := 9) X (at_X8_o Hb0) rfl mU_X8 (k := 1) (by decide) rfl mF_X8_19 dX8_holds_9 hG (fun q6 Hq6 hG => ?_)
    refine r_iload_n (pc := 12) X dX8_holds_12 rfl rfl ?_
    refine r_iload_n (pc := 13) X dX8_holds_13 rfl rfl ?_
    refine r_cP (pc := 14) hG (fun _ hg => runV X dX8_holds_14 (c_X0_bearing (at_X8_beaches Hb0 _ Hq6) hg) mM_X8_197 mI_X0_bearing mE_X0_bearing mN_X0 mK_X0_bearing (at_X0_o (at_X8_beaches Hb0 _ Hq6)) rfl rfl rfl rfl hdd_X0_bearing ⟨(Nat.le_of_ble_eq_true rfl), (Nat.le_of_ble_eq_true rfl)⟩ rfl rfl (Nat.le_of_ble_eq_true rfl) ⟨(Nat.le_of_ble_eq_true rfl), (Nat.le_of_ble_eq_true rfl)⟩) (fun z7 hG => ?_)
    refine r_goto (pc := 17) X dX8_holds_17 (tgt := 22) (by decide) ?_
    exact r_mask [false, false, false] rfl (Hj3 _ hG z7 rfl)
theorem c_X8_holds {x1 : Int32} {x2 : Int32} {r : Int} (Hb0 : At_X8 shl) (hg : g_X8_holds x1.toInt x2.toInt h = some r) : Met l yX8_holds (wsM yX8_holds cX8_holds 3 (some .int)) rm_X8_holds (va_Pc [.ref (ad 0), .int x1, .int x2] (World E ad shl h)) (QcI E ad shl r h) 0 0 (bsA E) :=
  met_of (L0 := [some (.ref (ad 0)), some (.int x1), some (.int x2)]) rfl rfl rfl (Nat.le_of_ble_eq_true rfl) (fun _ _ _ _ _ _ _ X => w_X8_holds Hb0 X rfl hg)
abbrev rm_X8_high : Room := { frames := 1, cells := 0, slots := 0, locals := 23 }
theorem hdd_X8_high : yX8_high.cls = RX8 ∧ yX8_high.cls ≠ "java/lang/invoke/MethodHandle" ∧ yX8_high.cls ≠ "java/lang/invoke/VarHandle" ∧ (parseMethodDescriptor yX8_high.desc).map (fun d => d.parameters.length) = some 3 := ⟨rfl, by decide +kernel, by decide +kernel, by decide +kernel⟩
set_option maxRecDepth 100000 in
set_option maxHeartbeats 4000000 in
theorem w_X8_high {x1 : Int32} {x2 : Int32} {x3 : Int32} {r : Int} (Hb0 : At_X8 shl) (X : Cx E p s m args meth c cX8_high RX8 4 (some .int)) (hQ : Q = MQ below (QcI E ad shl r h) args s 0 0 (bsA E)) (hG : g_X8_high x1.toInt x2.toInt x3.toInt h = some r) : Ev E ad shl p l e rm_X8_high s m args below meth c 0 0 Q 4 h 0 [some (.ref (ad 0)), some (.int x1), some (.int x2), some (.int x3)] [] := by
  unfold g_X8_high at hG
  refine r_iload_n (pc := 0) X dX8_high_0 rfl rfl ?_
  refine r_iconst (pc := 1) X dX8_high_1 hG rfl (fun z1 hG => ?_)
  refine r_join hG (fun _ => Ev E ad shl p l e rm_X8_high s m args below meth c 0 0 Q 4 h 19 [none, none, none, none] []) (fun a2 hG => ?_) (fun j3 Hj3 hG => ?_)
  · skip
    refine r_bipush (pc := 19) X dX8_high_19 hG (by decide) (fun z4 hG => ?_)
    exact r_iretP (pc := 21) X dX8_high_21 hQ hG
  refine r_icmp_lt (pc := 2) X dX8_high_2 (tgt := 19) (by decide) hG (fun hG => ?_) (fun hG => ?_)
  · skip
    exact r_mask [false, false, false, false] rfl (Hj3 _ hG)
  · skip
    refine r_iload_n (pc := 5) X dX8_high_5 rfl rfl ?_
    refine r_bipush (pc := 6) X dX8_high_6 hG (by decide) (fun z5 hG => ?_)
    refine r_icmp_gt (pc := 8) X dX8_high_8 (tgt := 19) (by decide) hG (fun hG => ?_) (fun hG => ?_)
    · skip
      exact r_mask [false, false, false, false] rfl (Hj3 _ hG)
    · skip
      refine r_iload_n (pc := 11) X dX8_high_11 rfl rfl ?_
      refine r_iload_n (pc := 12) X dX8_high_12 rfl rfl ?_
      refine r_cP (pc := 13) hG (fun _ hg => runS X dX8_high_13 (c_X8_isSand  hg) mM_X8_238 mS_X8_isSand mN_X8 mK_X8_isSand rfl rfl hdd_X8_isSand ⟨(Nat.le_of_ble_eq_true rfl), (Nat.le_of_ble_eq_true rfl)⟩ rfl rfl (Nat.le_of_ble_eq_true rfl) ⟨(Nat.le_of_ble_eq_true rfl), (Nat.le_of_ble_eq_true rfl)⟩) (fun z6 hG => ?_)
      refine r_if_ne (pc := 16) X dX8_high_16 (tgt := 22) (by decide) hG (fun hG => ?_) (fun hG => ?_)
      · skip
        refine r_aload_n (pc := 22) X dX8_high_22 rfl rfl ?_
        refine r_getR (pc := 23) X (at_X8_o Hb0) rfl mU_X8 (k := 1) (by decide) rfl mF_X8_19 dX8_high_23 hG (fun q7 Hq7 hG => ?_)
        refine r_iload_n (pc := 26) X dX8_high_26 rfl rfl ?_
        refine r_iload_n (pc := 27) X dX8_high_27 rfl rfl ?_
        refine r_cP (pc := 28) hG (fun _ hg => runV X dX8_high_28 (c_X0_bearing (at_X8_beaches Hb0 _ Hq7) hg) mM_X8_197 mI_X0_bearing mE_X0_bearing mN_X0 mK_X0_bearing (at_X0_o (at_X8_beaches Hb0 _ Hq7)) rfl rfl rfl rfl hdd_X0_bearing ⟨(Nat.le_of_ble_eq_true rfl), (Nat.le_of_ble_eq_true rfl)⟩ rfl rfl (Nat.le_of_ble_eq_true rfl) ⟨(Nat.le_of_ble_eq_true rfl), (Nat.le_of_ble_eq_true rfl)⟩) (fun z8 hG => ?_)
        refine r_iload_n (pc := 31) X dX8_high_31 rfl rfl ?_
        refine r_iconst (pc := 32) X dX8_high_32 hG rfl (fun z9 hG => ?_)
        refine r_iadd (pc := 33) X dX8_high_33 hG (fun z10 hG => ?_)
        refine r_iconst (pc := 34) X dX8_high_34 hG rfl (fun z11 hG => ?_)
        refine r_idiv (pc := 35) X dX8_high_35 hG (fun z12 hG => ?_)
        refine r_imul (pc := 36) X dX8_high_36 hG (fun z13 hG => ?_)
        exact r_iretP (pc := 37) X dX8_high_37 hQ hG
      · skip
        exact r_mask [false, false, false, false] rfl (Hj3 _ hG)
theorem c_X8_high {x1 : Int32} {x2 : Int32} {x3 : Int32} {r : Int} (Hb0 : At_X8 shl) (hg : g_X8_high x1.toInt x2.toInt x3.toInt h = some r) : Met l yX8_high (wsM yX8_high cX8_high 4 (some .int)) rm_X8_high (va_Pc [.ref (ad 0), .int x1, .int x2, .int x3] (World E ad shl h)) (QcI E ad shl r h) 0 0 (bsA E) :=
  met_of (L0 := [some (.ref (ad 0)), some (.int x1), some (.int x2), some (.int x3)]) rfl rfl rfl (Nat.le_of_ble_eq_true rfl) (fun _ _ _ _ _ _ _ X => w_X8_high Hb0 X rfl hg)
end WALKS
