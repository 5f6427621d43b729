section WALKS
variable {E : EnvT} {ad : Nat → Nat} {shl : List Shp} {p : Program} {l : Launch} {e : Env} {s : State} {m : MethodId} {args : Array Value} {below : List Frame} {meth : Method} {c : Code} {Q : State → Prop} {h : Hp}
abbrev rm_X8_last : Room := { frames := 6, cells := 0, slots := 0, locals := 149 }
theorem hdd_X8_last : yX8_last.cls = RX8 ∧ yX8_last.cls ≠ "java/lang/invoke/MethodHandle" ∧ yX8_last.cls ≠ "java/lang/invoke/VarHandle" ∧ (parseMethodDescriptor yX8_last.desc).map (fun d => d.parameters.length) = some 4 := ⟨rfl, by decide +kernel, by decide +kernel, by decide +kernel⟩
set_option maxRecDepth 100000 in
set_option maxHeartbeats 4000000 in
theorem w_X8_last {x1 : Int32} {x2 : Int32} {x3 : Int32} {x4 : Int32} {r : Int × Hp} (Hb0 : At_X8 shl) (X : Cx E p s m args meth c cX8_last RX8 5 (some .int)) (hQ : Q = MQ below (QcI E ad shl r.1 r.2) args s 0 0 (bsA E)) (hG : g_X8_last x1.toInt x2.toInt x3.toInt x4.toInt h = some r) : Ev E ad shl p l e rm_X8_last s m args below meth c 0 0 Q 5 h 0 [some (.ref (ad 0)), some (.int x1), some (.int x2), some (.int x3), some (.int x4)] [] := by
  unfold g_X8_last at hG
  refine r_aload_n (pc := 0) X dX8_last_0 rfl rfl ?_
  refine r_iload_n (pc := 1) X dX8_last_1 rfl rfl ?_
  refine r_cP (pc := 2) hG (fun _ hg => runV X dX8_last_2 (c_X8_isFlag Hb0 hg) mM_X8_201 mI_X8_isFlag mE_X8_isFlag mN_X8 mK_X8_isFlag (at_X8_o Hb0) rfl rfl rfl rfl hdd_X8_isFlag ⟨(Nat.le_of_ble_eq_true rfl), (Nat.le_of_ble_eq_true rfl)⟩ rfl rfl (Nat.le_of_ble_eq_true rfl) ⟨(Nat.le_of_ble_eq_true rfl), (Nat.le_of_ble_eq_true rfl)⟩) (fun z1 hG => ?_)
  refine r_join hG (fun _ => Ev E ad shl p l e rm_X8_last s m args below meth c 0 0 Q 5 h 28 [none, none, none, none, none] []) (fun a2 hG => ?_) (fun j3 Hj3 hG => ?_)
  · skip
    refine r_bipush (pc := 28) X dX8_last_28 hG (by decide) (fun z4 hG => ?_)
    exact r_iretW (pc := 30) X dX8_last_30 hQ hG
  refine r_if_eq (pc := 5) X dX8_last_5 (tgt := 28) (by decide) hG (fun hG => ?_) (fun hG => ?_)
  · skip
    exact r_mask [false, false, false, false, false] rfl (Hj3 _ hG)
  · skip
    refine r_aload_n (pc := 8) X dX8_last_8 rfl rfl ?_
    refine r_iload_n (pc := 9) X dX8_last_9 rfl rfl ?_
    refine r_cP (pc := 10) hG (fun _ hg => runV X dX8_last_10 (c_X8_isPlanOrNone Hb0 hg) mM_X8_160 mI_X8_isPlanOrNone mE_X8_isPlanOrNone mN_X8 mK_X8_isPlanOrNone (at_X8_o Hb0) rfl rfl rfl rfl hdd_X8_isPlanOrNone ⟨(Nat.le_of_ble_eq_true rfl), (Nat.le_of_ble_eq_true rfl)⟩ rfl rfl (Nat.le_of_ble_eq_true rfl) ⟨(Nat.le_of_ble_eq_true rfl), (Nat.le_of_ble_eq_true rfl)⟩) (fun z5 hG => ?_)
    refine r_if_eq (pc := 13) X dX8_last_13 (tgt := 28) (by decide) hG (fun hG => ?_) (fun hG => ?_)
    · skip
      exact r_mask [false, false, false, false, false] rfl (Hj3 _ hG)
    · skip
      refine r_iload_n (pc := 16) X dX8_last_16 rfl rfl ?_
      refine r_if_lt (pc := 17) X dX8_last_17 (tgt := 28) (by decide) hG (fun hG => ?_) (fun hG => ?_)
      · skip
        exact r_mask [false, false, false, false, false] rfl (Hj3 _ hG)
      · skip
        refine r_iload (pc := 20) X dX8_last_20 rfl ?_
        refine r_cP (pc := 22) hG (fun _ hg => runS X dX8_last_22 (c_X8_isSpan  hg) mM_X8_273 mS_X8_isSpan mN_X8 mK_X8_isSpan rfl rfl hdd_X8_isSpan ⟨(Nat.le_of_ble_eq_true rfl), (Nat.le_of_ble_eq_true rfl)⟩ rfl rfl (Nat.le_of_ble_eq_true rfl) ⟨(Nat.le_of_ble_eq_true rfl), (Nat.le_of_ble_eq_true rfl)⟩) (fun z6 hG => ?_)
        refine r_if_ne (pc := 25) X dX8_last_25 (tgt := 31) (by decide) hG (fun hG => ?_) (fun hG => ?_)
        · skip
          refine r_aload_n (pc := 31) X dX8_last_31 rfl rfl ?_
          refine r_getC (pc := 32) X (at_X8_o Hb0) rfl mU_X8 (k := 11) (by decide) (q := 46) rfl mF_X8_67 dX8_last_32 ?_
          refine r_aload_n (pc := 35) X dX8_last_35 rfl rfl ?_
          refine r_getC (pc := 36) X (at_X8_o Hb0) rfl mU_X8 (k := 7) (by decide) (q := 26) rfl mF_X8_45 dX8_last_36 ?_
          refine r_iload_n (pc := 39) X dX8_last_39 rfl rfl ?_
          refine r_iload_n (pc := 40) X dX8_last_40 rfl rfl ?_
          refine r_cV (pc := 41) hG (fun _ hg => runV X dX8_last_41 (c_X6_start (at_X8_trial Hb0) (at_X8_now Hb0) hg) mM_X8_276 mI_X6_start mE_X6_start mN_X6 mK_X6_start (at_X6_o (at_X8_trial Hb0)) rfl rfl rfl rfl hdd_X6_start ⟨(Nat.le_of_ble_eq_true rfl), (Nat.le_of_ble_eq_true rfl)⟩ rfl rfl (Nat.le_of_ble_eq_true rfl) ⟨(Nat.le_of_ble_eq_true rfl), (Nat.le_of_ble_eq_true rfl)⟩) (fun h7 hG => ?_)
          refine r_aload_n (pc := 44) X dX8_last_44 rfl rfl ?_
          refine r_getC (pc := 45) X (at_X8_o Hb0) rfl mU_X8 (k := 11) (by decide) (q := 46) rfl mF_X8_67 dX8_last_45 ?_
          refine r_aload_n (pc := 48) X dX8_last_48 rfl rfl ?_
          refine r_getR (pc := 49) X (at_X8_o Hb0) rfl mU_X8 (k := 1) (by decide) rfl mF_X8_19 dX8_last_49 hG (fun q8 Hq8 hG => ?_)
          refine r_iload_n (pc := 52) X dX8_last_52 rfl rfl ?_
          refine r_cV (pc := 53) hG (fun _ hg => runV X dX8_last_53 (c_X6_watchFlag (at_X8_trial Hb0) (at_X8_beaches Hb0 _ Hq8) hg) mM_X8_280 mI_X6_watchFlag mE_X6_watchFlag mN_X6 mK_X6_watchFlag (at_X6_o (at_X8_trial Hb0)) rfl rfl rfl rfl hdd_X6_watchFlag ⟨(Nat.le_of_ble_eq_true rfl), (Nat.le_of_ble_eq_true rfl)⟩ rfl rfl (Nat.le_of_ble_eq_true rfl) ⟨(Nat.le_of_ble_eq_true rfl), (Nat.le_of_ble_eq_true rfl)⟩) (fun h9 hG => ?_)
          refine r_aload_n (pc := 56) X dX8_last_56 rfl rfl ?_
          refine r_getC (pc := 57) X (at_X8_o Hb0) rfl mU_X8 (k := 11) (by decide) (q := 46) rfl mF_X8_67 dX8_last_57 ?_
          refine r_aload_n (pc := 60) X dX8_last_60 rfl rfl ?_
          refine r_getR (pc := 61) X (at_X8_o Hb0) rfl mU_X8 (k := 1) (by decide) rfl mF_X8_19 dX8_last_61 hG (fun q10 Hq10 hG => ?_)
          refine r_aload_n (pc := 64) X dX8_last_64 rfl rfl ?_
          refine r_getR (pc := 65) X (at_X8_o Hb0) rfl mU_X8 (k := 3) (by decide) rfl mF_X8_29 dX8_last_65 hG (fun q11 Hq11 hG => ?_)
          refine r_aload_n (pc := 68) X dX8_last_68 rfl rfl ?_
          refine r_iload_n (pc := 69) X dX8_last_69 rfl rfl ?_
          refine r_cN (pc := 70) hG (fun _ hg => runV X dX8_last_70 (c_X8_planOrNull Hb0 hg) mM_X8_167 mI_X8_planOrNull mE_X8_planOrNull mN_X8 mK_X8_planOrNull (at_X8_o Hb0) rfl rfl rfl rfl hdd_X8_planOrNull ⟨(Nat.le_of_ble_eq_true rfl), (Nat.le_of_ble_eq_true rfl)⟩ rfl rfl (Nat.le_of_ble_eq_true rfl) ⟨(Nat.le_of_ble_eq_true rfl), (Nat.le_of_ble_eq_true rfl)⟩) (fun n12 Hn12 hG => ?_)
          refine r_iload (pc := 73) X dX8_last_73 rfl ?_
          refine r_cV (pc := 75) hG (fun _ hg => runV X dX8_last_75 (c_X6_run (at_X8_trial Hb0) (at_X8_beaches Hb0 _ Hq10) (at_X8_seas Hb0 _ Hq11) (planN Hb0 Hn12) hg) mM_X8_284 mI_X6_run mE_X6_run mN_X6 mK_X6_run (at_X6_o (at_X8_trial Hb0)) rfl rfl rfl rfl hdd_X6_run ⟨(Nat.le_of_ble_eq_true rfl), (Nat.le_of_ble_eq_true rfl)⟩ rfl rfl (Nat.le_of_ble_eq_true rfl) ⟨(Nat.le_of_ble_eq_true rfl), (Nat.le_of_ble_eq_true rfl)⟩) (fun h13 hG => ?_)
          refine r_aload_n (pc := 78) X dX8_last_78 rfl rfl ?_
          refine r_getC (pc := 79) X (at_X8_o Hb0) rfl mU_X8 (k := 11) (by decide) (q := 46) rfl mF_X8_67 dX8_last_79 ?_
          refine r_getC (pc := 82) X (at_X6_o (at_X8_trial Hb0)) rfl mU_X6 (k := 1) (by decide) (q := 55) rfl mF_X8_288 dX8_last_82 ?_
          refine r_iconst (pc := 85) X dX8_last_85 hG rfl (fun z14 hG => ?_)
          refine r_iald (pc := 86) X (at_X6_lasts (at_X8_trial Hb0)) dX8_last_86 hG (fun z15 hG => ?_)
          exact r_iretW (pc := 87) X dX8_last_87 hQ hG
        · skip
          exact r_mask [false, false, false, false, false] rfl (Hj3 _ hG)
theorem c_X8_last {x1 : Int32} {x2 : Int32} {x3 : Int32} {x4 : Int32} {r : Int × Hp} (Hb0 : At_X8 shl) (hg : g_X8_last x1.toInt x2.toInt x3.toInt x4.toInt h = some r) : Met l yX8_last (wsM yX8_last cX8_last 5 (some .int)) rm_X8_last (va_Pc [.ref (ad 0), .int x1, .int x2, .int x3, .int x4] (World E ad shl h)) (QcI E ad shl r.1 r.2) 0 0 (bsA E) :=
  met_of (L0 := [some (.ref (ad 0)), some (.int x1), some (.int x2), some (.int x3), some (.int x4)]) rfl rfl rfl (Nat.le_of_ble_eq_true rfl) (fun _ _ _ _ _ _ _ X => w_X8_last Hb0 X rfl hg)
abbrev rm_X6_setWork : Room := { frames := 0, cells := 0, slots := 0, locals := 0 }
theorem hdd_X6_setWork : yX6_setWork.cls = RX6 ∧ yX6_setWork.cls ≠ "java/lang/invoke/MethodHandle" ∧ yX6_setWork.cls ≠ "java/lang/invoke/VarHandle" ∧ (parseMethodDescriptor yX6_setWork.desc).map (fun d => d.parameters.length) = some 2 := ⟨rfl, by decide +kernel, by decide +kernel, by decide +kernel⟩
set_option maxRecDepth 100000 in
set_option maxHeartbeats 4000000 in
theorem w_X6_setWork {b0 : Nat} {x1 : Int32} {x2 : Int32} {r : Hp} (Hb0 : At_X6 shl b0) (X : Cx E p s m args meth c cX6_setWork RX6 3 none) (hQ : Q = MQ below (QcV E ad shl r) args s 0 0 (bsA E)) (hG : g_X6_setWork b0 x1.toInt x2.toInt h = some r) : Ev E ad shl p l e rm_X6_setWork s m args below meth c 0 0 Q 3 h 0 [some (.ref (ad b0)), some (.int x1), some (.int x2)] [] := by
  unfold g_X6_setWork at hG
  refine r_iload_n (pc := 0) X dX6_setWork_0 rfl rfl ?_
  refine r_join hG (fun a1 => ∀ (h3 : Hp), a1 = h3 → Ev E ad shl p l e rm_X6_setWork s m args below meth c 0 0 Q 3 h3 17 [none, none, none] []) (fun a1 hG => ?_) (fun j2 Hj2 hG => ?_)
  · skip
    intro h3 ha; have ha := ha.symm; subst ha
    exact r_vret (pc := 17) X dX6_setWork_17 hQ hG
  refine r_if_lt (pc := 1) X dX6_setWork_1 (tgt := 17) (by decide) hG (fun hG => ?_) (fun hG => ?_)
  · skip
    exact r_mask [false, false, false] rfl (Hj2 _ hG h rfl)
  · skip
    refine r_iload_n (pc := 4) X dX6_setWork_4 rfl rfl ?_
    refine r_bipush (pc := 5) X dX6_setWork_5 hG (by decide) (fun z4 hG => ?_)
    refine r_icmp_ge (pc := 7) X dX6_setWork_7 (tgt := 17) (by decide) hG (fun hG => ?_) (fun hG => ?_)
    · skip
      exact r_mask [false, false, false] rfl (Hj2 _ hG h rfl)
    · skip
      refine r_aload_n (pc := 10) X dX6_setWork_10 rfl rfl ?_
      refine r_getC (pc := 11) X (at_X6_o Hb0) rfl mU_X6 (k := 4) (by decide) (q := (b0 + 12)) rfl mF_X6_28 dX6_setWork_11 ?_
      refine r_iload_n (pc := 14) X dX6_setWork_14 rfl rfl ?_
      refine r_iload_n (pc := 15) X dX6_setWork_15 rfl rfl ?_
      refine r_iast (pc := 16) X (at_X6_works Hb0) dX6_setWork_16 hG (fun h5 hG => ?_)
      exact r_mask [false, false, false] rfl (Hj2 _ hG h5 rfl)
theorem c_X6_setWork {b0 : Nat} {x1 : Int32} {x2 : Int32} {r : Hp} (Hb0 : At_X6 shl b0) (hg : g_X6_setWork b0 x1.toInt x2.toInt h = some r) : Met l yX6_setWork (wsM yX6_setWork cX6_setWork 3 none) rm_X6_setWork (va_Pc [.ref (ad b0), .int x1, .int x2] (World E ad shl h)) (QcV E ad shl r) 0 0 (bsA E) :=
  met_of (L0 := [some (.ref (ad b0)), some (.int x1), some (.int x2)]) rfl rfl rfl (Nat.le_of_ble_eq_true rfl) (fun _ _ _ _ _ _ _ X => w_X6_setWork Hb0 X rfl hg)
abbrev rm_X8_bestRow : Room := { frames := 6, cells := 0, slots := 0, locals := 149 }
theorem hdd_X8_bestRow : yX8_bestRow.cls = RX8 ∧ yX8_bestRow.cls ≠ "java/lang/invoke/MethodHandle" ∧ yX8_bestRow.cls ≠ "java/lang/invoke/VarHandle" ∧ (parseMethodDescriptor yX8_bestRow.desc).map (fun d => d.parameters.length) = some 4 := ⟨rfl, by decide +kernel, by decide +kernel, by decide +kernel⟩
set_option maxRecDepth 100000 in
set_option maxHeartbeats 4000000 in
theorem w_X8_bestRow {x1 : Int32} {x2 : Int32} {x3 : Int32} {x4 : Int32} {r : Int × Hp} (Hb0 : At_X8 shl) (X : Cx E p s m args meth c cX8_bestRow RX8 10 (some .int)) (hQ : Q = MQ below (QcI E ad shl r.1 r.2) args s 0 0 (bsA E)) (hG : g_X8_bestRow x1.toInt x2.toInt x3.toInt x4.toInt h = some r) : Ev E ad shl p l e rm_X8_bestRow s m args below meth c 0 0 Q 10 h 0 [some (.ref (ad 0)), some (.int x1), some (.int x2), some (.int x3), some (.int x4), none, none, none, none, none] [] := by
  unfold g_X8_bestRow at hG
  refine r_iconst (pc := 0) X dX8_bestRow_0 hG rfl (fun z1 hG => ?_)
  refine r_iconst (pc := 1) X dX8_bestRow_1 hG rfl (fun z2 hG => ?_)
  refine r_iload_n (pc := 2) X dX8_bestRow_2 rfl rfl ?_
  refine r_imul (pc := 3) X dX8_bestRow_3 hG (fun z3 hG => ?_)
  refine r_ishl (pc := 4) X dX8_bestRow_4 hG (fun z4 hG => ?_)
  refine r_istore (pc := 5) (L' := [some (.ref (ad 0)), some (.int x1), some (.int x2), some (.int x3), some (.int x4), some (.int z4), none, none, none, none]) X dX8_bestRow_5 (by decide) rfl rfl ?_
  refine r_iconst (pc := 7) X dX8_bestRow_7 hG rfl (fun z5 hG => ?_)
  refine r_istore (pc := 8) (L' := [some (.ref (ad 0)), some (.int x1), some (.int x2), some (.int x3), some (.int x4), some (.int z4), some (.int z5), none, none, none]) X dX8_bestRow_8 (by decide) rfl rfl ?_
  refine r_iconst (pc := 10) X dX8_bestRow_10 hG rfl (fun z6 hG => ?_)
  refine r_istore (pc := 11) (L' := [some (.ref (ad 0)), some (.int x1), some (.int x2), some (.int x3), some (.int x4), some (.int z4), some (.int z5), some (.int z6), none, none]) X dX8_bestRow_11 (by decide) rfl rfl ?_
  refine r_iconst (pc := 13) X dX8_bestRow_13 hG rfl (fun z7 hG => ?_)
  refine r_istore (pc := 14) (L' := [some (.ref (ad 0)), some (.int x1), some (.int x2), some (.int x3), some (.int x4), some (.int z4), some (.int z5), some (.int z6), some (.int z7), none]) X dX8_bestRow_14 (by decide) rfl rfl ?_
  refine r_join hG (fun a8 => ∀ (y10 : Int32) (h11 : Hp), a8 = (y10.toInt, h11) → Ev E ad shl p l e rm_X8_bestRow s m args below meth c 0 0 Q 10 h11 145 [none, none, some (.int x2), none, none, none, some (.int y10), none, none, none] []) (fun a8 hG => ?_) (fun j9 Hj9 hG => ?_)
  · skip
    intro y10 h11 ha; have ha := ha.symm; subst ha
    refine r_iconst (pc := 145) X dX8_bestRow_145 hG rfl (fun z12 hG => ?_)
    refine r_istore (pc := 146) (L' := [none, none, some (.int x2), none, none, none, some (.int y10), none, some (.int z12), none]) X dX8_bestRow_146 (by decide) rfl rfl ?_
    refine r_iload_n (pc := 148) X dX8_bestRow_148 rfl rfl ?_
    refine r_iconst (pc := 149) X dX8_bestRow_149 hG rfl (fun z13 hG => ?_)
    refine r_isub (pc := 150) X dX8_bestRow_150 hG (fun z14 hG => ?_)
    refine r_istore (pc := 151) (L' := [none, none, some (.int x2), none, none, none, some (.int y10), none, some (.int z12), some (.int z14)]) X dX8_bestRow_151 (by decide) rfl rfl ?_
    refine r_mask [false, false, false, false, false, false, true, false, true, true] rfl (r_loop (fun q15 => ∀ (y17 : Int32) (y18 : Int32), q15 = (y17.toInt, y18.toInt) → Ev E ad shl p l e rm_X8_bestRow s m args below meth c 0 0 Q 10 h11 153 [none, none, none, none, none, none, some (.int y10), none, some (.int y17), some (.int y18)] []) (fun l16 Hl16 q15 hG => ?_) FU _ hG z12 z14 rfl)
    intro y17 y18 ha; have ha := ha.symm; subst ha
    unfold g_X8_bestRow_l16 at hG
    refine r_iload (pc := 153) X dX8_bestRow_153 rfl ?_
    refine r_if_lt (pc := 155) X dX8_bestRow_155 (tgt := 181) (by decide) hG (fun hG => ?_) (fun hG => ?_)
    · skip
      refine r_iload (pc := 181) X dX8_bestRow_181 rfl ?_
      exact r_iretW (pc := 183) X dX8_bestRow_183 hQ hG
    · skip
      refine r_iload (pc := 158) X dX8_bestRow_158 rfl ?_
      refine r_bipush (pc := 160) X dX8_bestRow_160 hG (by decide) (fun z19 hG => ?_)
      refine r_imul (pc := 162) X dX8_bestRow_162 hG (fun z20 hG => ?_)
      refine r_iload (pc := 163) X dX8_bestRow_163 rfl ?_
      refine r_iconst (pc := 165) X dX8_bestRow_165 hG rfl (fun z21 hG => ?_)
      refine r_iload (pc := 166) X dX8_bestRow_166 rfl ?_
      refine r_imul (pc := 168) X dX8_bestRow_168 hG (fun z22 hG => ?_)
      refine r_ishr (pc := 169) X dX8_bestRow_169 hG (fun z23 hG => ?_)
      refine r_iconst (pc := 170) X dX8_bestRow_170 hG rfl (fun z24 hG => ?_)
      refine r_iand (pc := 171) X dX8_bestRow_171 hG (fun z25 hG => ?_)
      refine r_iadd (pc := 172) X dX8_bestRow_172 hG (fun z26 hG => ?_)
      refine r_istore (pc := 173) (L' := [none, none, none, none, none, none, some (.int y10), none, some (.int z26), some (.int y18)]) X dX8_bestRow_173 (by decide) rfl rfl ?_
      refine r_iinc (pc := 175) (L' := fun z27 => [none, none, none, none, none, none, some (.int y10), none, some (.int z26), some (.int z27)]) X dX8_bestRow_175 (by decide) rfl rfl (by decide) (fun _ => rfl) hG (fun z27 hG => ?_)
      refine r_goto (pc := 178) X dX8_bestRow_178 (tgt := 153) (by decide) ?_
      exact r_mask [false, false, false, false, false, false, true, false, true, true] rfl (Hl16 _ hG z26 z27 rfl)
  refine r_mask [true, true, true, true, true, true, true, true, true, false] rfl (r_loop (fun q28 => ∀ (y30 : Int32) (y31 : Int32) (y32 : Int32) (h33 : Hp), q28 = (y30.toInt, y31.toInt, y32.toInt, h33) → Ev E ad shl p l e rm_X8_bestRow s m args below meth c 0 0 Q 10 h33 16 [some (.ref (ad 0)), some (.int x1), some (.int x2), some (.int x3), some (.int x4), some (.int z4), some (.int y30), some (.int y31), some (.int y32), none] []) (fun l29 Hl29 q28 hG => ?_) FU _ hG z5 z6 z7 h rfl)
  intro y30 y31 y32 h33 ha; have ha := ha.symm; subst ha
  unfold g_X8_bestRow_l29 at hG
  refine r_iload (pc := 16) X dX8_bestRow_16 rfl ?_
  refine r_iload (pc := 18) X dX8_bestRow_18 rfl ?_
  refine r_icmp_ge (pc := 20) X dX8_bestRow_20 (tgt := 145) (by decide) hG (fun hG => ?_) (fun hG => ?_)
  · skip
    exact r_mask [false, false, true, false, false, false, true, false, false, false] rfl (Hj9 _ hG y30 h33 rfl)
  · skip
    refine r_iload (pc := 23) X dX8_bestRow_23 rfl ?_
    refine r_iload (pc := 25) X dX8_bestRow_25 rfl ?_
    refine r_icmp_ge (pc := 27) X dX8_bestRow_27 (tgt := 145) (by decide) hG (fun hG => ?_) (fun hG => ?_)
    · skip
      exact r_mask [false, false, true, false, false, false, true, false, false, false] rfl (Hj9 _ hG y30 h33 rfl)
    · skip
      refine r_aload_n (pc := 30) X dX8_bestRow_30 rfl rfl ?_
      refine r_getC (pc := 31) X (at_X8_o Hb0) rfl mU_X8 (k := 11) (by decide) (q := 46) rfl mF_X8_67 dX8_bestRow_31 ?_
      refine r_aload_n (pc := 34) X dX8_bestRow_34 rfl rfl ?_
      refine r_getC (pc := 35) X (at_X8_o Hb0) rfl mU_X8 (k := 7) (by decide) (q := 26) rfl mF_X8_45 dX8_bestRow_35 ?_
      refine r_iconst (pc := 38) X dX8_bestRow_38 hG rfl (fun z34 hG => ?_)
      refine r_iload_n (pc := 39) X dX8_bestRow_39 rfl rfl ?_
      refine r_cV (pc := 40) hG (fun _ hg => runV X dX8_bestRow_40 (c_X6_start (at_X8_trial Hb0) (at_X8_now Hb0) hg) mM_X8_276 mI_X6_start mE_X6_start mN_X6 mK_X6_start (at_X6_o (at_X8_trial Hb0)) rfl rfl rfl rfl hdd_X6_start ⟨(Nat.le_of_ble_eq_true rfl), (Nat.le_of_ble_eq_true rfl)⟩ rfl rfl (Nat.le_of_ble_eq_true rfl) ⟨(Nat.le_of_ble_eq_true rfl), (Nat.le_of_ble_eq_true rfl)⟩) (fun h35 hG => ?_)
      refine r_aload_n (pc := 43) X dX8_bestRow_43 rfl rfl ?_
      refine r_getC (pc := 44) X (at_X8_o Hb0) rfl mU_X8 (k := 11) (by decide) (q := 46) rfl mF_X8_67 dX8_bestRow_44 ?_
      refine r_aload_n (pc := 47) X dX8_bestRow_47 rfl rfl ?_
      refine r_getR (pc := 48) X (at_X8_o Hb0) rfl mU_X8 (k := 1) (by decide) rfl mF_X8_19 dX8_bestRow_48 hG (fun q36 Hq36 hG => ?_)
      refine r_iload_n (pc := 51) X dX8_bestRow_51 rfl rfl ?_
      refine r_cV (pc := 52) hG (fun _ hg => runV X dX8_bestRow_52 (c_X6_watchFlag (at_X8_trial Hb0) (at_X8_beaches Hb0 _ Hq36) hg) mM_X8_280 mI_X6_watchFlag mE_X6_watchFlag mN_X6 mK_X6_watchFlag (at_X6_o (at_X8_trial Hb0)) rfl rfl rfl rfl hdd_X6_watchFlag ⟨(Nat.le_of_ble_eq_true rfl), (Nat.le_of_ble_eq_true rfl)⟩ rfl rfl (Nat.le_of_ble_eq_true rfl) ⟨(Nat.le_of_ble_eq_true rfl), (Nat.le_of_ble_eq_true rfl)⟩) (fun h37 hG => ?_)
      refine r_iconst (pc := 55) X dX8_bestRow_55 hG rfl (fun z38 hG => ?_)
      refine r_istore (pc := 56) (L' := [some (.ref (ad 0)), some (.int x1), some (.int x2), some (.int x3), some (.int x4), some (.int z4), some (.int y30), some (.int y31), some (.int y32), some (.int z38)]) X dX8_bestRow_56 (by decide) rfl rfl ?_
      refine r_join hG (fun a39 => ∀ (h41 : Hp), a39 = h41 → Ev E ad shl p l e rm_X8_bestRow s m args below meth c 0 0 Q 10 h41 92 [some (.ref (ad 0)), some (.int x1), some (.int x2), some (.int x3), some (.int x4), some (.int z4), some (.int y30), some (.int y31), some (.int y32), none] []) (fun a39 hG => ?_) (fun j40 Hj40 hG => ?_)
      · skip
        intro h41 ha; have ha := ha.symm; subst ha
        refine r_aload_n (pc := 92) X dX8_bestRow_92 rfl rfl ?_
        refine r_getC (pc := 93) X (at_X8_o Hb0) rfl mU_X8 (k := 11) (by decide) (q := 46) rfl mF_X8_67 dX8_bestRow_93 ?_
        refine r_aload_n (pc := 96) X dX8_bestRow_96 rfl rfl ?_
        refine r_getR (pc := 97) X (at_X8_o Hb0) rfl mU_X8 (k := 1) (by decide) rfl mF_X8_19 dX8_bestRow_97 hG (fun q42 Hq42 hG => ?_)
        refine r_aload_n (pc := 100) X dX8_bestRow_100 rfl rfl ?_
        refine r_getR (pc := 101) X (at_X8_o Hb0) rfl mU_X8 (k := 3) (by decide) rfl mF_X8_29 dX8_bestRow_101 hG (fun q43 Hq43 hG => ?_)
        refine r_null (pc := 104) X dX8_bestRow_104 ?_
        refine r_iload (pc := 105) X dX8_bestRow_105 rfl ?_
        refine r_cV (pc := 107) hG (fun _ hg => runV X dX8_bestRow_107 (c_X6_run (at_X8_trial Hb0) (at_X8_beaches Hb0 _ Hq42) (at_X8_seas Hb0 _ Hq43) nullAt hg) mM_X8_284 mI_X6_run mE_X6_run mN_X6 mK_X6_run (at_X6_o (at_X8_trial Hb0)) rfl rfl rfl rfl hdd_X6_run ⟨(Nat.le_of_ble_eq_true rfl), (Nat.le_of_ble_eq_true rfl)⟩ rfl rfl (Nat.le_of_ble_eq_true rfl) ⟨(Nat.le_of_ble_eq_true rfl), (Nat.le_of_ble_eq_true rfl)⟩) (fun h44 hG => ?_)
        refine r_aload_n (pc := 110) X dX8_bestRow_110 rfl rfl ?_
        refine r_getC (pc := 111) X (at_X8_o Hb0) rfl mU_X8 (k := 11) (by decide) (q := 46) rfl mF_X8_67 dX8_bestRow_111 ?_
        refine r_getC (pc := 114) X (at_X6_o (at_X8_trial Hb0)) rfl mU_X6 (k := 1) (by decide) (q := 55) rfl mF_X8_288 dX8_bestRow_114 ?_
        refine r_iconst (pc := 117) X dX8_bestRow_117 hG rfl (fun z45 hG => ?_)
        refine r_iald (pc := 118) X (at_X6_lasts (at_X8_trial Hb0)) dX8_bestRow_118 hG (fun z46 hG => ?_)
        refine r_iload (pc := 119) X dX8_bestRow_119 rfl ?_
        refine r_join hG (fun a47 => ∀ (y49 : Int32) (y50 : Int32), a47 = (y49.toInt, y50.toInt) → Ev E ad shl p l e rm_X8_bestRow s m args below meth c 0 0 Q 10 h44 139 [some (.ref (ad 0)), some (.int x1), some (.int x2), some (.int x3), some (.int x4), some (.int z4), some (.int y49), some (.int y50), some (.int y32), none] []) (fun a47 hG => ?_) (fun j48 Hj48 hG => ?_)
        · skip
          intro y49 y50 ha; have ha := ha.symm; subst ha
          refine r_iinc (pc := 139) (L' := fun z51 => [some (.ref (ad 0)), some (.int x1), some (.int x2), some (.int x3), some (.int x4), some (.int z4), some (.int y49), some (.int y50), some (.int z51), none]) X dX8_bestRow_139 (by decide) rfl rfl (by decide) (fun _ => rfl) hG (fun z51 hG => ?_)
          refine r_goto (pc := 142) X dX8_bestRow_142 (tgt := 16) (by decide) ?_
          exact r_mask [true, true, true, true, true, true, true, true, true, false] rfl (Hl29 _ hG y49 y50 z51 h44 rfl)
        refine r_icmp_le (pc := 121) X dX8_bestRow_121 (tgt := 139) (by decide) hG (fun hG => ?_) (fun hG => ?_)
        · skip
          exact r_mask [true, true, true, true, true, true, true, true, true, false] rfl (Hj48 _ hG y30 y31 rfl)
        · skip
          refine r_aload_n (pc := 124) X dX8_bestRow_124 rfl rfl ?_
          refine r_getC (pc := 125) X (at_X8_o Hb0) rfl mU_X8 (k := 11) (by decide) (q := 46) rfl mF_X8_67 dX8_bestRow_125 ?_
          refine r_getC (pc := 128) X (at_X6_o (at_X8_trial Hb0)) rfl mU_X6 (k := 1) (by decide) (q := 55) rfl mF_X8_288 dX8_bestRow_128 ?_
          refine r_iconst (pc := 131) X dX8_bestRow_131 hG rfl (fun z52 hG => ?_)
          refine r_iald (pc := 132) X (at_X6_lasts (at_X8_trial Hb0)) dX8_bestRow_132 hG (fun z53 hG => ?_)
          refine r_istore (pc := 133) (L' := [some (.ref (ad 0)), some (.int x1), some (.int x2), some (.int x3), some (.int x4), some (.int z4), some (.int y30), some (.int z53), some (.int y32), none]) X dX8_bestRow_133 (by decide) rfl rfl ?_
          refine r_iload (pc := 135) X dX8_bestRow_135 rfl ?_
          refine r_istore (pc := 137) (L' := [some (.ref (ad 0)), some (.int x1), some (.int x2), some (.int x3), some (.int x4), some (.int z4), some (.int y32), some (.int z53), some (.int y32), none]) X dX8_bestRow_137 (by decide) rfl rfl ?_
          exact r_mask [true, true, true, true, true, true, true, true, true, false] rfl (Hj48 _ hG y32 z53 rfl)
      refine r_mask [true, true, true, true, true, true, true, true, true, true] rfl (r_loop (fun q54 => ∀ (y56 : Int32) (h57 : Hp), q54 = (y56.toInt, h57) → Ev E ad shl p l e rm_X8_bestRow s m args below meth c 0 0 Q 10 h57 58 [some (.ref (ad 0)), some (.int x1), some (.int x2), some (.int x3), some (.int x4), some (.int z4), some (.int y30), some (.int y31), some (.int y32), some (.int y56)] []) (fun l55 Hl55 q54 hG => ?_) FU _ hG z38 h37 rfl)
      intro y56 h57 ha; have ha := ha.symm; subst ha
      unfold g_X8_bestRow_l55 at hG
      refine r_iload (pc := 58) X dX8_bestRow_58 rfl ?_
      refine r_iload_n (pc := 60) X dX8_bestRow_60 rfl rfl ?_
      refine r_icmp_ge (pc := 61) X dX8_bestRow_61 (tgt := 92) (by decide) hG (fun hG => ?_) (fun hG => ?_)
      · skip
        exact r_mask [true, true, true, true, true, true, true, true, true, false] rfl (Hj40 _ hG h57 rfl)
      · skip
        refine r_aload_n (pc := 64) X dX8_bestRow_64 rfl rfl ?_
        refine r_getC (pc := 65) X (at_X8_o Hb0) rfl mU_X8 (k := 11) (by decide) (q := 46) rfl mF_X8_67 dX8_bestRow_65 ?_
        refine r_iload (pc := 68) X dX8_bestRow_68 rfl ?_
        refine r_iload (pc := 70) X dX8_bestRow_70 rfl ?_
        refine r_iconst (pc := 72) X dX8_bestRow_72 hG rfl (fun z58 hG => ?_)
        refine r_iload_n (pc := 73) X dX8_bestRow_73 rfl rfl ?_
        refine r_iconst (pc := 74) X dX8_bestRow_74 hG rfl (fun z59 hG => ?_)
        refine r_isub (pc := 75) X dX8_bestRow_75 hG (fun z60 hG => ?_)
        refine r_iload (pc := 76) X dX8_bestRow_76 rfl ?_
        refine r_isub (pc := 78) X dX8_bestRow_78 hG (fun z61 hG => ?_)
        refine r_imul (pc := 79) X dX8_bestRow_79 hG (fun z62 hG => ?_)
        refine r_ishr (pc := 80) X dX8_bestRow_80 hG (fun z63 hG => ?_)
        refine r_iconst (pc := 81) X dX8_bestRow_81 hG rfl (fun z64 hG => ?_)
        refine r_iand (pc := 82) X dX8_bestRow_82 hG (fun z65 hG => ?_)
        refine r_cV (pc := 83) hG (fun _ hg => runV X dX8_bestRow_83 (c_X6_setWork (at_X8_trial Hb0) hg) mM_X8_294 mI_X6_setWork mE_X6_setWork mN_X6 mK_X6_setWork (at_X6_o (at_X8_trial Hb0)) rfl rfl rfl rfl hdd_X6_setWork ⟨(Nat.le_of_ble_eq_true rfl), (Nat.le_of_ble_eq_true rfl)⟩ rfl rfl (Nat.le_of_ble_eq_true rfl) ⟨(Nat.le_of_ble_eq_true rfl), (Nat.le_of_ble_eq_true rfl)⟩) (fun h66 hG => ?_)
        refine r_iinc (pc := 86) (L' := fun z67 => [some (.ref (ad 0)), some (.int x1), some (.int x2), some (.int x3), some (.int x4), some (.int z4), some (.int y30), some (.int y31), some (.int y32), some (.int z67)]) X dX8_bestRow_86 (by decide) rfl rfl (by decide) (fun _ => rfl) hG (fun z67 hG => ?_)
        refine r_goto (pc := 89) X dX8_bestRow_89 (tgt := 58) (by decide) ?_
        exact r_mask [true, true, true, true, true, true, true, true, true, true] rfl (Hl55 _ hG z67 h66 rfl)
theorem c_X8_bestRow {x1 : Int32} {x2 : Int32} {x3 : Int32} {x4 : Int32} {r : Int × Hp} (Hb0 : At_X8 shl) (hg : g_X8_bestRow x1.toInt x2.toInt x3.toInt x4.toInt h = some r) : Met l yX8_bestRow (wsM yX8_bestRow cX8_bestRow 10 (some .int)) rm_X8_bestRow (va_Pc [.ref (ad 0), .int x1, .int x2, .int x3, .int x4] (World E ad shl h)) (QcI E ad shl r.1 r.2) 0 0 (bsA E) :=
  met_of (L0 := [some (.ref (ad 0)), some (.int x1), some (.int x2), some (.int x3), some (.int x4), none, none, none, none, none]) rfl rfl rfl (Nat.le_of_ble_eq_true rfl) (fun _ _ _ _ _ _ _ X => w_X8_bestRow Hb0 X rfl hg)
abbrev rm_X8_pail : Room := { frames := 7, cells := 0, slots := 0, locals := 178 }
theorem hdd_X8_pail : yX8_pail.cls = RX8 ∧ yX8_pail.cls ≠ "java/lang/invoke/MethodHandle" ∧ yX8_pail.cls ≠ "java/lang/invoke/VarHandle" ∧ (parseMethodDescriptor yX8_pail.desc).map (fun d => d.parameters.length) = some 3 := ⟨rfl, by decide +kernel, by decide +kernel, by decide +kernel⟩
set_option maxRecDepth 100000 in
set_option maxHeartbeats 4000000 in
theorem w_X8_pail {x1 : Int32} {x2 : Int32} {x3 : Int32} {r : Int × Hp} (Hb0 : At_X8 shl) (X : Cx E p s m args meth c cX8_pail RX8 4 (some .int)) (hQ : Q = MQ below (QcI E ad shl r.1 r.2) args s 0 0 (bsA E)) (hG : g_X8_pail x1.toInt x2.toInt x3.toInt h = some r) : Ev E ad shl p l e rm_X8_pail s m args below meth c 0 0 Q 4 h 0 [some (.ref (ad 0)), some (.int x1), some (.int x2), some (.int x3)] [] := by
  unfold g_X8_pail at hG
  refine r_aload_n (pc := 0) X dX8_pail_0 rfl rfl ?_
  refine r_iload_n (pc := 1) X dX8_pail_1 rfl rfl ?_
  refine r_cP (pc := 2) hG (fun _ hg => runV X dX8_pail_2 (c_X8_isFlag Hb0 hg) mM_X8_201 mI_X8_isFlag mE_X8_isFlag mN_X8 mK_X8_isFlag (at_X8_o Hb0) rfl rfl rfl rfl hdd_X8_isFlag ⟨(Nat.le_of_ble_eq_true rfl), (Nat.le_of_ble_eq_true rfl)⟩ rfl rfl (Nat.le_of_ble_eq_true rfl) ⟨(Nat.le_of_ble_eq_true rfl), (Nat.le_of_ble_eq_true rfl)⟩) (fun z1 hG => ?_)
  refine r_join hG (fun _ => Ev E ad shl p l e rm_X8_pail s m args below meth c 0 0 Q 4 h 19 [none, none, none, none] []) (fun a2 hG => ?_) (fun j3 Hj3 hG => ?_)
  · skip
    refine r_bipush (pc := 19) X dX8_pail_19 hG (by decide) (fun z4 hG => ?_)
    exact r_iretW (pc := 21) X dX8_pail_21 hQ hG
  refine r_if_eq (pc := 5) X dX8_pail_5 (tgt := 19) (by decide) hG (fun hG => ?_) (fun hG => ?_)
  · skip
    exact r_mask [false, false, false, false] rfl (Hj3 _ hG)
  · skip
    refine r_iload_n (pc := 8) X dX8_pail_8 rfl rfl ?_
    refine r_if_lt (pc := 9) X dX8_pail_9 (tgt := 19) (by decide) hG (fun hG => ?_) (fun hG => ?_)
    · skip
      exact r_mask [false, false, false, false] rfl (Hj3 _ hG)
    · skip
      refine r_iload_n (pc := 12) X dX8_pail_12 rfl rfl ?_
      refine r_cP (pc := 13) hG (fun _ hg => runS X dX8_pail_13 (c_X8_isSpan  hg) mM_X8_273 mS_X8_isSpan mN_X8 mK_X8_isSpan rfl rfl hdd_X8_isSpan ⟨(Nat.le_of_ble_eq_true rfl), (Nat.le_of_ble_eq_true rfl)⟩ rfl rfl (Nat.le_of_ble_eq_true rfl) ⟨(Nat.le_of_ble_eq_true rfl), (Nat.le_of_ble_eq_true rfl)⟩) (fun z5 hG => ?_)
      refine r_if_ne (pc := 16) X dX8_pail_16 (tgt := 22) (by decide) hG (fun hG => ?_) (fun hG => ?_)
      · skip
        refine r_aload_n (pc := 22) X dX8_pail_22 rfl rfl ?_
        refine r_iload_n (pc := 23) X dX8_pail_23 rfl rfl ?_
        refine r_iconst (pc := 24) X dX8_pail_24 hG rfl (fun z6 hG => ?_)
        refine r_iload_n (pc := 25) X dX8_pail_25 rfl rfl ?_
        refine r_iload_n (pc := 26) X dX8_pail_26 rfl rfl ?_
        refine r_cW (pc := 27) hG (fun _ hg => runV X dX8_pail_27 (c_X8_bestRow Hb0 hg) mM_X8_291 mI_X8_bestRow mE_X8_bestRow mN_X8 mK_X8_bestRow (at_X8_o Hb0) rfl rfl rfl rfl hdd_X8_bestRow ⟨(Nat.le_of_ble_eq_true rfl), (Nat.le_of_ble_eq_true rfl)⟩ rfl rfl (Nat.le_of_ble_eq_true rfl) ⟨(Nat.le_of_ble_eq_true rfl), (Nat.le_of_ble_eq_true rfl)⟩) (fun z7 h8 hG => ?_)
        exact r_iretW (pc := 30) X dX8_pail_30 hQ hG
      · skip
        exact r_mask [false, false, false, false] rfl (Hj3 _ hG)
theorem c_X8_pail {x1 : Int32} {x2 : Int32} {x3 : Int32} {r : Int × Hp} (Hb0 : At_X8 shl) (hg : g_X8_pail x1.toInt x2.toInt x3.toInt h = some r) : Met l yX8_pail (wsM yX8_pail cX8_pail 4 (some .int)) rm_X8_pail (va_Pc [.ref (ad 0), .int x1, .int x2, .int x3] (World E ad shl h)) (QcI E ad shl r.1 r.2) 0 0 (bsA E) :=
  met_of (L0 := [some (.ref (ad 0)), some (.int x1), some (.int x2), some (.int x3)]) rfl rfl rfl (Nat.le_of_ble_eq_true rfl) (fun _ _ _ _ _ _ _ X => w_X8_pail Hb0 X rfl hg)
abbrev rm_X8_row : Room := { frames := 7, cells := 0, slots := 0, locals := 178 }
theorem hdd_X8_row : yX8_row.cls = RX8 ∧ yX8_row.cls ≠ "java/lang/invoke/MethodHandle" ∧ yX8_row.cls ≠ "java/lang/invoke/VarHandle" ∧ (parseMethodDescriptor yX8_row.desc).map (fun d => d.parameters.length) = some 4 := ⟨rfl, by decide +kernel, by decide +kernel, by decide +kernel⟩
set_option maxRecDepth 100000 in
set_option maxHeartbeats 4000000 in
theorem w_X8_row {x1 : Int32} {x2 : Int32} {x3 : Int32} {x4 : Int32} {r : Int × Hp} (Hb0 : At_X8 shl) (X : Cx E p s m args meth c cX8_row RX8 5 (some .int)) (hQ : Q = MQ below (QcI E ad shl r.1 r.2) args s 0 0 (bsA E)) (hG : g_X8_row x1.toInt x2.toInt x3.toInt x4.toInt h = some r) : Ev E ad shl p l e rm_X8_row s m args below meth c 0 0 Q 5 h 0 [some (.ref (ad 0)), some (.int x1), some (.int x2), some (.int x3), some (.int x4)] [] := by
  unfold g_X8_row at hG
  refine r_aload_n (pc := 0) X dX8_row_0 rfl rfl ?_
  refine r_iload_n (pc := 1) X dX8_row_1 rfl rfl ?_
  refine r_cP (pc := 2) hG (fun _ hg => runV X dX8_row_2 (c_X8_isFlag Hb0 hg) mM_X8_201 mI_X8_isFlag mE_X8_isFlag mN_X8 mK_X8_isFlag (at_X8_o Hb0) rfl rfl rfl rfl hdd_X8_isFlag ⟨(Nat.le_of_ble_eq_true rfl), (Nat.le_of_ble_eq_true rfl)⟩ rfl rfl (Nat.le_of_ble_eq_true rfl) ⟨(Nat.le_of_ble_eq_true rfl), (Nat.le_of_ble_eq_true rfl)⟩) (fun z1 hG => ?_)
  refine r_join hG (fun _ => Ev E ad shl p l e rm_X8_row s m args below meth c 0 0 Q 5 h 30 [none, none, none, none, none] []) (fun a2 hG => ?_) (fun j3 Hj3 hG => ?_)
  · skip
    refine r_bipush (pc := 30) X dX8_row_30 hG (by decide) (fun z4 hG => ?_)
    exact r_iretW (pc := 32) X dX8_row_32 hQ hG
  refine r_if_eq (pc := 5) X dX8_row_5 (tgt := 30) (by decide) hG (fun hG => ?_) (fun hG => ?_)
  · skip
    exact r_mask [false, false, false, false, false] rfl (Hj3 _ hG)
  · skip
    refine r_iload_n (pc := 8) X dX8_row_8 rfl rfl ?_
    refine r_iconst (pc := 9) X dX8_row_9 hG rfl (fun z5 hG => ?_)
    refine r_icmp_lt (pc := 10) X dX8_row_10 (tgt := 30) (by decide) hG (fun hG => ?_) (fun hG => ?_)
    · skip
      exact r_mask [false, false, false, false, false] rfl (Hj3 _ hG)
    · skip
      refine r_iload_n (pc := 13) X dX8_row_13 rfl rfl ?_
      refine r_iconst (pc := 14) X dX8_row_14 hG rfl (fun z6 hG => ?_)
      refine r_icmp_gt (pc := 15) X dX8_row_15 (tgt := 30) (by decide) hG (fun hG => ?_) (fun hG => ?_)
      · skip
        exact r_mask [false, false, false, false, false] rfl (Hj3 _ hG)
      · skip
        refine r_iload_n (pc := 18) X dX8_row_18 rfl rfl ?_
        refine r_if_lt (pc := 19) X dX8_row_19 (tgt := 30) (by decide) hG (fun hG => ?_) (fun hG => ?_)
        · skip
          exact r_mask [false, false, false, false, false] rfl (Hj3 _ hG)
        · skip
          refine r_iload (pc := 22) X dX8_row_22 rfl ?_
          refine r_cP (pc := 24) hG (fun _ hg => runS X dX8_row_24 (c_X8_isSpan  hg) mM_X8_273 mS_X8_isSpan mN_X8 mK_X8_isSpan rfl rfl hdd_X8_isSpan ⟨(Nat.le_of_ble_eq_true rfl), (Nat.le_of_ble_eq_true rfl)⟩ rfl rfl (Nat.le_of_ble_eq_true rfl) ⟨(Nat.le_of_ble_eq_true rfl), (Nat.le_of_ble_eq_true rfl)⟩) (fun z7 hG => ?_)
          refine r_if_ne (pc := 27) X dX8_row_27 (tgt := 33) (by decide) hG (fun hG => ?_) (fun hG => ?_)
          · skip
            refine r_aload_n (pc := 33) X dX8_row_33 rfl rfl ?_
            refine r_iload_n (pc := 34) X dX8_row_34 rfl rfl ?_
            refine r_iload_n (pc := 35) X dX8_row_35 rfl rfl ?_
            refine r_iload_n (pc := 36) X dX8_row_36 rfl rfl ?_
            refine r_iload (pc := 37) X dX8_row_37 rfl ?_
            refine r_cW (pc := 39) hG (fun _ hg => runV X dX8_row_39 (c_X8_bestRow Hb0 hg) mM_X8_291 mI_X8_bestRow mE_X8_bestRow mN_X8 mK_X8_bestRow (at_X8_o Hb0) rfl rfl rfl rfl hdd_X8_bestRow ⟨(Nat.le_of_ble_eq_true rfl), (Nat.le_of_ble_eq_true rfl)⟩ rfl rfl (Nat.le_of_ble_eq_true rfl) ⟨(Nat.le_of_ble_eq_true rfl), (Nat.le_of_ble_eq_true rfl)⟩) (fun z8 h9 hG => ?_)
            exact r_iretW (pc := 42) X dX8_row_42 hQ hG
          · skip
            exact r_mask [false, false, false, false, false] rfl (Hj3 _ hG)
theorem c_X8_row {x1 : Int32} {x2 : Int32} {x3 : Int32} {x4 : Int32} {r : Int × Hp} (Hb0 : At_X8 shl) (hg : g_X8_row x1.toInt x2.toInt x3.toInt x4.toInt h = some r) : Met l yX8_row (wsM yX8_row cX8_row 5 (some .int)) rm_X8_row (va_Pc [.ref (ad 0), .int x1, .int x2, .int x3, .int x4] (World E ad shl h)) (QcI E ad shl r.1 r.2) 0 0 (bsA E) :=
  met_of (L0 := [some (.ref (ad 0)), some (.int x1), some (.int x2), some (.int x3), some (.int x4)]) rfl rfl rfl (Nat.le_of_ble_eq_true rfl) (fun _ _ _ _ _ _ _ X => w_X8_row Hb0 X rfl hg)
abbrev rm_X8_again : Room := { frames := 6, cells := 0, slots := 0, locals := 149 }
theorem hdd_X8_again : yX8_again.cls = RX8 ∧ yX8_again.cls ≠ "java/lang/invoke/MethodHandle" ∧ yX8_again.cls ≠ "java/lang/invoke/VarHandle" ∧ (parseMethodDescriptor yX8_again.desc).map (fun d => d.parameters.length) = some 3 := ⟨rfl, by decide +kernel, by decide +kernel, by decide +kernel⟩
set_option maxRecDepth 100000 in
set_option maxHeartbeats 4000000 in
theorem w_X8_again {x1 : Int32} {x2 : Int32} {x3 : Int32} {r : Int × Hp} (Hb0 : At_X8 shl) (X : Cx E p s m args meth c cX8_again RX8 8 (some .int)) (hQ : Q = MQ below (QcI E ad shl r.1 r.2) args s 0 0 (bsA E)) (hG : g_X8_again x1.toInt x2.toInt x3.toInt h = some r) : Ev E ad shl p l e rm_X8_again s m args below meth c 0 0 Q 8 h 0 [some (.ref (ad 0)), some (.int x1), some (.int x2), some (.int x3), none, none, none, none] [] := by
  unfold g_X8_again at hG
  refine r_aload_n (pc := 0) X dX8_again_0 rfl rfl ?_
  refine r_iload_n (pc := 1) X dX8_again_1 rfl rfl ?_
  refine r_cP (pc := 2) hG (fun _ hg => runV X dX8_again_2 (c_X8_isFlag Hb0 hg) mM_X8_201 mI_X8_isFlag mE_X8_isFlag mN_X8 mK_X8_isFlag (at_X8_o Hb0) rfl rfl rfl rfl hdd_X8_isFlag ⟨(Nat.le_of_ble_eq_true rfl), (Nat.le_of_ble_eq_true rfl)⟩ rfl rfl (Nat.le_of_ble_eq_true rfl) ⟨(Nat.le_of_ble_eq_true rfl), (Nat.le_of_ble_eq_true rfl)⟩) (fun z1 hG => ?_)
  refine r_join hG (fun _ => Ev E ad shl p l e rm_X8_again s m args below meth c 0 0 Q 8 h 19 [none, none, none, none, none, none, none, none] []) (fun a2 hG => ?_) (fun j3 Hj3 hG => ?_)
  · skip
    refine r_bipush (pc := 19) X dX8_again_19 hG (by decide) (fun z4 hG => ?_)
    exact r_iretW (pc := 21) X dX8_again_21 hQ hG
  refine r_if_eq (pc := 5) X dX8_again_5 (tgt := 19) (by decide) hG (fun hG => ?_) (fun hG => ?_)
  · skip
    exact r_mask [false, false, false, false, false, false, false, false] rfl (Hj3 _ hG)
  · skip
    refine r_iload_n (pc := 8) X dX8_again_8 rfl rfl ?_
    refine r_if_lt (pc := 9) X dX8_again_9 (tgt := 19) (by decide) hG (fun hG => ?_) (fun hG => ?_)
    · skip
      exact r_mask [false, false, false, false, false, false, false, false] rfl (Hj3 _ hG)
    · skip
      refine r_iload_n (pc := 12) X dX8_again_12 rfl rfl ?_
      refine r_cP (pc := 13) hG (fun _ hg => runS X dX8_again_13 (c_X8_isSpan  hg) mM_X8_273 mS_X8_isSpan mN_X8 mK_X8_isSpan rfl rfl hdd_X8_isSpan ⟨(Nat.le_of_ble_eq_true rfl), (Nat.le_of_ble_eq_true rfl)⟩ rfl rfl (Nat.le_of_ble_eq_true rfl) ⟨(Nat.le_of_ble_eq_true rfl), (Nat.le_of_ble_eq_true rfl)⟩) (fun z5 hG => ?_)
      refine r_if_ne (pc := 16) X dX8_again_16 (tgt := 22) (by decide) hG (fun hG => ?_) (fun hG => ?_)
      · skip
        refine r_aload_n (pc := 22) X dX8_again_22 rfl rfl ?_
        refine r_getC (pc := 23) X (at_X8_o Hb0) rfl mU_X8 (k := 11) (by decide) (q := 46) rfl mF_X8_67 dX8_again_23 ?_
        refine r_aload_n (pc := 26) X dX8_again_26 rfl rfl ?_
        refine r_getC (pc := 27) X (at_X8_o Hb0) rfl mU_X8 (k := 7) (by decide) (q := 26) rfl mF_X8_45 dX8_again_27 ?_
        refine r_iconst (pc := 30) X dX8_again_30 hG rfl (fun z6 hG => ?_)
        refine r_iload_n (pc := 31) X dX8_again_31 rfl rfl ?_
        refine r_cV (pc := 32) hG (fun _ hg => runV X dX8_again_32 (c_X6_start (at_X8_trial Hb0) (at_X8_now Hb0) hg) mM_X8_276 mI_X6_start mE_X6_start mN_X6 mK_X6_start (at_X6_o (at_X8_trial Hb0)) rfl rfl rfl rfl hdd_X6_start ⟨(Nat.le_of_ble_eq_true rfl), (Nat.le_of_ble_eq_true rfl)⟩ rfl rfl (Nat.le_of_ble_eq_true rfl) ⟨(Nat.le_of_ble_eq_true rfl), (Nat.le_of_ble_eq_true rfl)⟩) (fun h7 hG => ?_)
        refine r_aload_n (pc := 35) X dX8_again_35 rfl rfl ?_
        refine r_getC (pc := 36) X (at_X8_o Hb0) rfl mU_X8 (k := 11) (by decide) (q := 46) rfl mF_X8_67 dX8_again_36 ?_
        refine r_aload_n (pc := 39) X dX8_again_39 rfl rfl ?_
        refine r_getR (pc := 40) X (at_X8_o Hb0) rfl mU_X8 (k := 1) (by decide) rfl mF_X8_19 dX8_again_40 hG (fun q8 Hq8 hG => ?_)
        refine r_iload_n (pc := 43) X dX8_again_43 rfl rfl ?_
        refine r_cV (pc := 44) hG (fun _ hg => runV X dX8_again_44 (c_X6_watchFlag (at_X8_trial Hb0) (at_X8_beaches Hb0 _ Hq8) hg) mM_X8_280 mI_X6_watchFlag mE_X6_watchFlag mN_X6 mK_X6_watchFlag (at_X6_o (at_X8_trial Hb0)) rfl rfl rfl rfl hdd_X6_watchFlag ⟨(Nat.le_of_ble_eq_true rfl), (Nat.le_of_ble_eq_true rfl)⟩ rfl rfl (Nat.le_of_ble_eq_true rfl) ⟨(Nat.le_of_ble_eq_true rfl), (Nat.le_of_ble_eq_true rfl)⟩) (fun h9 hG => ?_)
        refine r_aload_n (pc := 47) X dX8_again_47 rfl rfl ?_
        refine r_getC (pc := 48) X (at_X8_o Hb0) rfl mU_X8 (k := 11) (by decide) (q := 46) rfl mF_X8_67 dX8_again_48 ?_
        refine r_aload_n (pc := 51) X dX8_again_51 rfl rfl ?_
        refine r_getR (pc := 52) X (at_X8_o Hb0) rfl mU_X8 (k := 1) (by decide) rfl mF_X8_19 dX8_again_52 hG (fun q10 Hq10 hG => ?_)
        refine r_aload_n (pc := 55) X dX8_again_55 rfl rfl ?_
        refine r_getR (pc := 56) X (at_X8_o Hb0) rfl mU_X8 (k := 3) (by decide) rfl mF_X8_29 dX8_again_56 hG (fun q11 Hq11 hG => ?_)
        refine r_null (pc := 59) X dX8_again_59 ?_
        refine r_iload_n (pc := 60) X dX8_again_60 rfl rfl ?_
        refine r_cV (pc := 61) hG (fun _ hg => runV X dX8_again_61 (c_X6_run (at_X8_trial Hb0) (at_X8_beaches Hb0 _ Hq10) (at_X8_seas Hb0 _ Hq11) nullAt hg) mM_X8_284 mI_X6_run mE_X6_run mN_X6 mK_X6_run (at_X6_o (at_X8_trial Hb0)) rfl rfl rfl rfl hdd_X6_run ⟨(Nat.le_of_ble_eq_true rfl), (Nat.le_of_ble_eq_true rfl)⟩ rfl rfl (Nat.le_of_ble_eq_true rfl) ⟨(Nat.le_of_ble_eq_true rfl), (Nat.le_of_ble_eq_true rfl)⟩) (fun h12 hG => ?_)
        refine r_aload_n (pc := 64) X dX8_again_64 rfl rfl ?_
        refine r_getC (pc := 65) X (at_X8_o Hb0) rfl mU_X8 (k := 11) (by decide) (q := 46) rfl mF_X8_67 dX8_again_65 ?_
        refine r_getC (pc := 68) X (at_X6_o (at_X8_trial Hb0)) rfl mU_X6 (k := 1) (by decide) (q := 55) rfl mF_X8_288 dX8_again_68 ?_
        refine r_iconst (pc := 71) X dX8_again_71 hG rfl (fun z13 hG => ?_)
        refine r_iald (pc := 72) X (at_X6_lasts (at_X8_trial Hb0)) dX8_again_72 hG (fun z14 hG => ?_)
        refine r_istore (pc := 73) (L' := [some (.ref (ad 0)), some (.int x1), some (.int x2), some (.int x3), some (.int z14), none, none, none]) X dX8_again_73 (by decide) rfl rfl ?_
        refine r_iload (pc := 75) X dX8_again_75 rfl ?_
        refine r_istore (pc := 77) (L' := [some (.ref (ad 0)), some (.int x1), some (.int x2), some (.int x3), some (.int z14), some (.int z14), none, none]) X dX8_again_77 (by decide) rfl rfl ?_
        refine r_iconst (pc := 79) X dX8_again_79 hG rfl (fun z15 hG => ?_)
        refine r_istore (pc := 80) (L' := [some (.ref (ad 0)), some (.int x1), some (.int x2), some (.int x3), some (.int z14), some (.int z14), some (.int z15), none]) X dX8_again_80 (by decide) rfl rfl ?_
        refine r_iconst (pc := 82) X dX8_again_82 hG rfl (fun z16 hG => ?_)
        refine r_istore (pc := 83) (L' := [some (.ref (ad 0)), some (.int x1), some (.int x2), some (.int x3), some (.int z14), some (.int z14), some (.int z15), some (.int z16)]) X dX8_again_83 (by decide) rfl rfl ?_
        refine r_join hG (fun a17 => ∀ (y19 : Int32) (h20 : Hp), a17 = (y19.toInt, h20) → Ev E ad shl p l e rm_X8_again s m args below meth c 0 0 Q 8 h20 191 [none, none, none, none, none, none, some (.int y19), none] []) (fun a17 hG => ?_) (fun j18 Hj18 hG => ?_)
        · skip
          intro y19 h20 ha; have ha := ha.symm; subst ha
          refine r_iload (pc := 191) X dX8_again_191 rfl ?_
          exact r_iretW (pc := 193) X dX8_again_193 hQ hG
        refine r_mask [true, true, true, true, true, true, true, true] rfl (r_loop (fun q21 => ∀ (y23 : Int32) (y24 : Int32) (y25 : Int32) (h26 : Hp), q21 = (y23.toInt, y24.toInt, y25.toInt, h26) → Ev E ad shl p l e rm_X8_again s m args below meth c 0 0 Q 8 h26 85 [some (.ref (ad 0)), some (.int x1), some (.int x2), some (.int x3), some (.int z14), some (.int y23), some (.int y24), some (.int y25)] []) (fun l22 Hl22 q21 hG => ?_) FU _ hG z14 z15 z16 h12 rfl)
        intro y23 y24 y25 h26 ha; have ha := ha.symm; subst ha
        unfold g_X8_again_l22 at hG
        refine r_iload (pc := 85) X dX8_again_85 rfl ?_
        refine r_iload (pc := 87) X dX8_again_87 rfl ?_
        refine r_icmp_gt (pc := 89) X dX8_again_89 (tgt := 191) (by decide) hG (fun hG => ?_) (fun hG => ?_)
        · skip
          exact r_mask [false, false, false, false, false, false, true, false] rfl (Hj18 _ hG y24 h26 rfl)
        · skip
          refine r_iload (pc := 92) X dX8_again_92 rfl ?_
          refine r_iload_n (pc := 94) X dX8_again_94 rfl rfl ?_
          refine r_icmp_ge (pc := 95) X dX8_again_95 (tgt := 191) (by decide) hG (fun hG => ?_) (fun hG => ?_)
          · skip
            exact r_mask [false, false, false, false, false, false, true, false] rfl (Hj18 _ hG y24 h26 rfl)
          · skip
            refine r_iload (pc := 98) X dX8_again_98 rfl ?_
            refine r_iload_n (pc := 100) X dX8_again_100 rfl rfl ?_
            refine r_icmp_ge (pc := 101) X dX8_again_101 (tgt := 191) (by decide) hG (fun hG => ?_) (fun hG => ?_)
            · skip
              exact r_mask [false, false, false, false, false, false, true, false] rfl (Hj18 _ hG y24 h26 rfl)
            · skip
              refine r_aload_n (pc := 104) X dX8_again_104 rfl rfl ?_
              refine r_getC (pc := 105) X (at_X8_o Hb0) rfl mU_X8 (k := 11) (by decide) (q := 46) rfl mF_X8_67 dX8_again_105 ?_
              refine r_aload_n (pc := 108) X dX8_again_108 rfl rfl ?_
              refine r_getC (pc := 109) X (at_X8_o Hb0) rfl mU_X8 (k := 7) (by decide) (q := 26) rfl mF_X8_45 dX8_again_109 ?_
              refine r_iconst (pc := 112) X dX8_again_112 hG rfl (fun z27 hG => ?_)
              refine r_iload_n (pc := 113) X dX8_again_113 rfl rfl ?_
              refine r_cV (pc := 114) hG (fun _ hg => runV X dX8_again_114 (c_X6_start (at_X8_trial Hb0) (at_X8_now Hb0) hg) mM_X8_276 mI_X6_start mE_X6_start mN_X6 mK_X6_start (at_X6_o (at_X8_trial Hb0)) rfl rfl rfl rfl hdd_X6_start ⟨(Nat.le_of_ble_eq_true rfl), (Nat.le_of_ble_eq_true rfl)⟩ rfl rfl (Nat.le_of_ble_eq_true rfl) ⟨(Nat.le_of_ble_eq_true rfl), (Nat.le_of_ble_eq_true rfl)⟩) (fun h28 hG => ?_)
              refine r_aload_n (pc := 117) X dX8_again_117 rfl rfl ?_
              refine r_getC (pc := 118) X (at_X8_o Hb0) rfl mU_X8 (k := 11) (by decide) (q := 46) rfl mF_X8_67 dX8_again_118 ?_
              refine r_aload_n (pc := 121) X dX8_again_121 rfl rfl ?_
              refine r_getR (pc := 122) X (at_X8_o Hb0) rfl mU_X8 (k := 1) (by decide) rfl mF_X8_19 dX8_again_122 hG (fun q29 Hq29 hG => ?_)
              refine r_iload_n (pc := 125) X dX8_again_125 rfl rfl ?_
              refine r_cV (pc := 126) hG (fun _ hg => runV X dX8_again_126 (c_X6_watchFlag (at_X8_trial Hb0) (at_X8_beaches Hb0 _ Hq29) hg) mM_X8_280 mI_X6_watchFlag mE_X6_watchFlag mN_X6 mK_X6_watchFlag (at_X6_o (at_X8_trial Hb0)) rfl rfl rfl rfl hdd_X6_watchFlag ⟨(Nat.le_of_ble_eq_true rfl), (Nat.le_of_ble_eq_true rfl)⟩ rfl rfl (Nat.le_of_ble_eq_true rfl) ⟨(Nat.le_of_ble_eq_true rfl), (Nat.le_of_ble_eq_true rfl)⟩) (fun h30 hG => ?_)
              refine r_aload_n (pc := 129) X dX8_again_129 rfl rfl ?_
              refine r_getC (pc := 130) X (at_X8_o Hb0) rfl mU_X8 (k := 11) (by decide) (q := 46) rfl mF_X8_67 dX8_again_130 ?_
              refine r_iload (pc := 133) X dX8_again_133 rfl ?_
              refine r_iconst (pc := 135) X dX8_again_135 hG rfl (fun z31 hG => ?_)
              refine r_cV (pc := 136) hG (fun _ hg => runV X dX8_again_136 (c_X6_setWork (at_X8_trial Hb0) hg) mM_X8_294 mI_X6_setWork mE_X6_setWork mN_X6 mK_X6_setWork (at_X6_o (at_X8_trial Hb0)) rfl rfl rfl rfl hdd_X6_setWork ⟨(Nat.le_of_ble_eq_true rfl), (Nat.le_of_ble_eq_true rfl)⟩ rfl rfl (Nat.le_of_ble_eq_true rfl) ⟨(Nat.le_of_ble_eq_true rfl), (Nat.le_of_ble_eq_true rfl)⟩) (fun h32 hG => ?_)
              refine r_aload_n (pc := 139) X dX8_again_139 rfl rfl ?_
              refine r_getC (pc := 140) X (at_X8_o Hb0) rfl mU_X8 (k := 11) (by decide) (q := 46) rfl mF_X8_67 dX8_again_140 ?_
              refine r_aload_n (pc := 143) X dX8_again_143 rfl rfl ?_
              refine r_getR (pc := 144) X (at_X8_o Hb0) rfl mU_X8 (k := 1) (by decide) rfl mF_X8_19 dX8_again_144 hG (fun q33 Hq33 hG => ?_)
              refine r_aload_n (pc := 147) X dX8_again_147 rfl rfl ?_
              refine r_getR (pc := 148) X (at_X8_o Hb0) rfl mU_X8 (k := 3) (by decide) rfl mF_X8_29 dX8_again_148 hG (fun q34 Hq34 hG => ?_)
              refine r_null (pc := 151) X dX8_again_151 ?_
              refine r_iload_n (pc := 152) X dX8_again_152 rfl rfl ?_
              refine r_cV (pc := 153) hG (fun _ hg => runV X dX8_again_153 (c_X6_run (at_X8_trial Hb0) (at_X8_beaches Hb0 _ Hq33) (at_X8_seas Hb0 _ Hq34) nullAt hg) mM_X8_284 mI_X6_run mE_X6_run mN_X6 mK_X6_run (at_X6_o (at_X8_trial Hb0)) rfl rfl rfl rfl hdd_X6_run ⟨(Nat.le_of_ble_eq_true rfl), (Nat.le_of_ble_eq_true rfl)⟩ rfl rfl (Nat.le_of_ble_eq_true rfl) ⟨(Nat.le_of_ble_eq_true rfl), (Nat.le_of_ble_eq_true rfl)⟩) (fun h35 hG => ?_)
              refine r_aload_n (pc := 156) X dX8_again_156 rfl rfl ?_
              refine r_getC (pc := 157) X (at_X8_o Hb0) rfl mU_X8 (k := 11) (by decide) (q := 46) rfl mF_X8_67 dX8_again_157 ?_
              refine r_getC (pc := 160) X (at_X6_o (at_X8_trial Hb0)) rfl mU_X6 (k := 1) (by decide) (q := 55) rfl mF_X8_288 dX8_again_160 ?_
              refine r_iconst (pc := 163) X dX8_again_163 hG rfl (fun z36 hG => ?_)
              refine r_iald (pc := 164) X (at_X6_lasts (at_X8_trial Hb0)) dX8_again_164 hG (fun z37 hG => ?_)
              refine r_iload (pc := 165) X dX8_again_165 rfl ?_
              refine r_join hG (fun a38 => ∀ (y40 : Int32) (y41 : Int32), a38 = (y40.toInt, y41.toInt) → Ev E ad shl p l e rm_X8_again s m args below meth c 0 0 Q 8 h35 185 [some (.ref (ad 0)), some (.int x1), some (.int x2), some (.int x3), some (.int z14), some (.int y40), some (.int y41), some (.int y25)] []) (fun a38 hG => ?_) (fun j39 Hj39 hG => ?_)
              · skip
                intro y40 y41 ha; have ha := ha.symm; subst ha
                refine r_iinc (pc := 185) (L' := fun z42 => [some (.ref (ad 0)), some (.int x1), some (.int x2), some (.int x3), some (.int z14), some (.int y40), some (.int y41), some (.int z42)]) X dX8_again_185 (by decide) rfl rfl (by decide) (fun _ => rfl) hG (fun z42 hG => ?_)
                refine r_goto (pc := 188) X dX8_again_188 (tgt := 85) (by decide) ?_
                exact r_mask [true, true, true, true, true, true, true, true] rfl (Hl22 _ hG y40 y41 z42 h35 rfl)
              refine r_icmp_le (pc := 167) X dX8_again_167 (tgt := 185) (by decide) hG (fun hG => ?_) (fun hG => ?_)
              · skip
                exact r_mask [true, true, true, true, true, true, true, true] rfl (Hj39 _ hG y23 y24 rfl)
              · skip
                refine r_aload_n (pc := 170) X dX8_again_170 rfl rfl ?_
                refine r_getC (pc := 171) X (at_X8_o Hb0) rfl mU_X8 (k := 11) (by decide) (q := 46) rfl mF_X8_67 dX8_again_171 ?_
                refine r_getC (pc := 174) X (at_X6_o (at_X8_trial Hb0)) rfl mU_X6 (k := 1) (by decide) (q := 55) rfl mF_X8_288 dX8_again_174 ?_
                refine r_iconst (pc := 177) X dX8_again_177 hG rfl (fun z43 hG => ?_)
                refine r_iald (pc := 178) X (at_X6_lasts (at_X8_trial Hb0)) dX8_again_178 hG (fun z44 hG => ?_)
                refine r_istore (pc := 179) (L' := [some (.ref (ad 0)), some (.int x1), some (.int x2), some (.int x3), some (.int z14), some (.int z44), some (.int y24), some (.int y25)]) X dX8_again_179 (by decide) rfl rfl ?_
                refine r_iload (pc := 181) X dX8_again_181 rfl ?_
                refine r_istore (pc := 183) (L' := [some (.ref (ad 0)), some (.int x1), some (.int x2), some (.int x3), some (.int z14), some (.int z44), some (.int y25), some (.int y25)]) X dX8_again_183 (by decide) rfl rfl ?_
                exact r_mask [true, true, true, true, true, true, true, true] rfl (Hj39 _ hG z44 y25 rfl)
      · skip
        exact r_mask [false, false, false, false, false, false, false, false] rfl (Hj3 _ hG)
theorem c_X8_again {x1 : Int32} {x2 : Int32} {x3 : Int32} {r : Int × Hp} (Hb0 : At_X8 shl) (hg : g_X8_again x1.toInt x2.toInt x3.toInt h = some r) : Met l yX8_again (wsM yX8_again cX8_again 8 (some .int)) rm_X8_again (va_Pc [.ref (ad 0), .int x1, .int x2, .int x3] (World E ad shl h)) (QcI E ad shl r.1 r.2) 0 0 (bsA E) :=
  met_of (L0 := [some (.ref (ad 0)), some (.int x1), some (.int x2), some (.int x3), none, none, none, none]) rfl rfl rfl (Nat.le_of_ble_eq_true rfl) (fun _ _ _ _ _ _ _ X => w_X8_again Hb0 X rfl hg)
abbrev rm_X8_isSeeds : Room := { frames := 0, cells := 0, slots := 0, locals := 0 }
theorem hdd_X8_isSeeds : yX8_isSeeds.cls ≠ "java/lang/invoke/MethodHandle" ∧ yX8_isSeeds.cls ≠ "java/lang/invoke/VarHandle" ∧ (parseMethodDescriptor yX8_isSeeds.desc).map (fun d => d.parameters.length) = some 1 := ⟨by decide +kernel, by decide +kernel, by decide +kernel⟩
set_option maxRecDepth 100000 in
set_option maxHeartbeats 4000000 in
theorem w_X8_isSeeds {x1 : Int32} {r : Int}  (X : Cx E p s m args meth c cX8_isSeeds RX8 1 (some .boolean)) (hQ : Q = MQ below (QcI E ad shl r h) args s 0 0 (bsA E)) (hG : g_X8_isSeeds x1.toInt = some r) : Ev E ad shl p l e rm_X8_isSeeds s m args below meth c 0 0 Q 1 h 0 [some (.int x1)] [] := by
  unfold g_X8_isSeeds at hG
  refine r_iload_n (pc := 0) X dX8_isSeeds_0 rfl rfl ?_
  refine r_iconst (pc := 1) X dX8_isSeeds_1 hG rfl (fun z1 hG => ?_)
  refine r_join hG (fun a2 => ∀ (y4 : Int32), a2 = y4.toInt → Ev E ad shl p l e rm_X8_isSeeds s m args below meth c 0 0 Q 1 h 16 [none] [.int y4]) (fun a2 hG => ?_) (fun j3 Hj3 hG => ?_)
  · skip
    intro y4 ha; have ha := ha.symm; subst ha
    exact r_zretP (pc := 16) X dX8_isSeeds_16 hQ hG
  refine r_join hG (fun _ => Ev E ad shl p l e rm_X8_isSeeds s m args below meth c 0 0 Q 1 h 15 [none] []) (fun a5 hG => ?_) (fun j6 Hj6 hG => ?_)
  · skip
    refine r_iconst (pc := 15) X dX8_isSeeds_15 hG rfl (fun z7 hG => ?_)
    exact r_mask [false] rfl (Hj3 _ hG z7 rfl)
  refine r_icmp_lt (pc := 2) X dX8_isSeeds_2 (tgt := 15) (by decide) hG (fun hG => ?_) (fun hG => ?_)
  · skip
    exact r_mask [false] rfl (Hj6 _ hG)
  · skip
    refine r_iload_n (pc := 5) X dX8_isSeeds_5 rfl rfl ?_
    refine r_bipush (pc := 6) X dX8_isSeeds_6 hG (by decide) (fun z8 hG => ?_)
    refine r_icmp_gt (pc := 8) X dX8_isSeeds_8 (tgt := 15) (by decide) hG (fun hG => ?_) (fun hG => ?_)
    · skip
      exact r_mask [false] rfl (Hj6 _ hG)
    · skip
      refine r_iconst (pc := 11) X dX8_isSeeds_11 hG rfl (fun z9 hG => ?_)
      refine r_goto (pc := 12) X dX8_isSeeds_12 (tgt := 16) (by decide) ?_
      exact r_mask [false] rfl (Hj3 _ hG z9 rfl)
theorem c_X8_isSeeds {x1 : Int32} {r : Int}  (hg : g_X8_isSeeds x1.toInt = some r) : Met l yX8_isSeeds (wsM yX8_isSeeds cX8_isSeeds 1 (some .boolean)) rm_X8_isSeeds (va_Pc [.int x1] (World E ad shl h)) (QcI E ad shl r h) 0 0 (bsA E) :=
  met_of (L0 := [some (.int x1)]) rfl rfl rfl (Nat.le_of_ble_eq_true rfl) (fun _ _ _ _ _ _ _ X => w_X8_isSeeds  X rfl hg)
abbrev rm_X2_isDrawn : Room := { frames := 0, cells := 0, slots := 0, locals := 0 }
theorem hdd_X2_isDrawn : yX2_isDrawn.cls = RX2 ∧ yX2_isDrawn.cls ≠ "java/lang/invoke/MethodHandle" ∧ yX2_isDrawn.cls ≠ "java/lang/invoke/VarHandle" ∧ (parseMethodDescriptor yX2_isDrawn.desc).map (fun d => d.parameters.length) = some 0 := ⟨rfl, by decide +kernel, by decide +kernel, by decide +kernel⟩
set_option maxRecDepth 100000 in
set_option maxHeartbeats 4000000 in
theorem w_X2_isDrawn {b0 : Nat} {r : Int} (Hb0 : At_X2 shl b0) (X : Cx E p s m args meth c cX2_isDrawn RX2 1 (some .boolean)) (hQ : Q = MQ below (QcI E ad shl r h) args s 0 0 (bsA E)) (hG : g_X2_isDrawn b0 h = some r) : Ev E ad shl p l e rm_X2_isDrawn s m args below meth c 0 0 Q 1 h 0 [some (.ref (ad b0))] [] := by
  unfold g_X2_isDrawn at hG
  refine r_aload_n (pc := 0) X dX2_isDrawn_0 rfl rfl ?_
  refine r_getC (pc := 1) X (at_X2_o Hb0) rfl mU_X2 (k := 0) (by decide) (q := (b0 + 1)) rfl mF_X2_11 dX2_isDrawn_1 ?_
  refine r_iconst (pc := 4) X dX2_isDrawn_4 hG rfl (fun z1 hG => ?_)
  refine r_iald (pc := 5) X (at_X2_numbers Hb0) dX2_isDrawn_5 hG (fun z2 hG => ?_)
  refine r_iconst (pc := 6) X dX2_isDrawn_6 hG rfl (fun z3 hG => ?_)
  refine r_join hG (fun a4 => ∀ (y6 : Int32), a4 = y6.toInt → Ev E ad shl p l e rm_X2_isDrawn s m args below meth c 0 0 Q 1 h 15 [none] [.int y6]) (fun a4 hG => ?_) (fun j5 Hj5 hG => ?_)
  · skip
    intro y6 ha; have ha := ha.symm; subst ha
    exact r_zretP (pc := 15) X dX2_isDrawn_15 hQ hG
  refine r_icmp_eq (pc := 7) X dX2_isDrawn_7 (tgt := 14) (by decide) hG (fun hG => ?_) (fun hG => ?_)
  · skip
    refine r_iconst (pc := 14) X dX2_isDrawn_14 hG rfl (fun z7 hG => ?_)
    exact r_mask [false] rfl (Hj5 _ hG z7 rfl)
  · skip
    refine r_iconst (pc := 10) X dX2_isDrawn_10 hG rfl (fun z8 hG => ?_)
    refine r_goto (pc := 11) X dX2_isDrawn_11 (tgt := 15) (by decide) ?_
    exact r_mask [false] rfl (Hj5 _ hG z8 rfl)
theorem c_X2_isDrawn {b0 : Nat} {r : Int} (Hb0 : At_X2 shl b0) (hg : g_X2_isDrawn b0 h = some r) : Met l yX2_isDrawn (wsM yX2_isDrawn cX2_isDrawn 1 (some .boolean)) rm_X2_isDrawn (va_Pc [.ref (ad b0)] (World E ad shl h)) (QcI E ad shl r h) 0 0 (bsA E) :=
  met_of (L0 := [some (.ref (ad b0))]) rfl rfl rfl (Nat.le_of_ble_eq_true rfl) (fun _ _ _ _ _ _ _ X => w_X2_isDrawn Hb0 X rfl hg)
abbrev rm_X8_seedsThatDiffer : Room := { frames := 1, cells := 0, slots := 0, locals := 20 }
theorem hdd_X8_seedsThatDiffer : yX8_seedsThatDiffer.cls = RX8 ∧ yX8_seedsThatDiffer.cls ≠ "java/lang/invoke/MethodHandle" ∧ yX8_seedsThatDiffer.cls ≠ "java/lang/invoke/VarHandle" ∧ (parseMethodDescriptor yX8_seedsThatDiffer.desc).map (fun d => d.parameters.length) = some 1 := ⟨rfl, by decide +kernel, by decide +kernel, by decide +kernel⟩
set_option maxRecDepth 100000 in
set_option maxHeartbeats 4000000 in
theorem w_X8_seedsThatDiffer {x1 : Int32} {r : Int} (Hb0 : At_X8 shl) (X : Cx E p s m args meth c cX8_seedsThatDiffer RX8 2 (some .int)) (hQ : Q = MQ below (QcI E ad shl r h) args s 0 0 (bsA E)) (hG : g_X8_seedsThatDiffer x1.toInt h = some r) : Ev E ad shl p l e rm_X8_seedsThatDiffer s m args below meth c 0 0 Q 2 h 0 [some (.ref (ad 0)), some (.int x1)] [] := by
  unfold g_X8_seedsThatDiffer at hG
  refine r_aload_n (pc := 0) X dX8_seedsThatDiffer_0 rfl rfl ?_
  refine r_getR (pc := 1) X (at_X8_o Hb0) rfl mU_X8 (k := 3) (by decide) rfl mF_X8_29 dX8_seedsThatDiffer_1 hG (fun q1 Hq1 hG => ?_)
  refine r_cP (pc := 4) hG (fun _ hg => runV X dX8_seedsThatDiffer_4 (c_X2_isDrawn (at_X8_seas Hb0 _ Hq1) hg) mM_X8_327 mI_X2_isDrawn mE_X2_isDrawn mN_X2 mK_X2_isDrawn (at_X2_o (at_X8_seas Hb0 _ Hq1)) rfl rfl rfl rfl hdd_X2_isDrawn ⟨(Nat.le_of_ble_eq_true rfl), (Nat.le_of_ble_eq_true rfl)⟩ rfl rfl (Nat.le_of_ble_eq_true rfl) ⟨(Nat.le_of_ble_eq_true rfl), (Nat.le_of_ble_eq_true rfl)⟩) (fun z2 hG => ?_)
  refine r_join hG (fun a3 => ∀ (y5 : Int32), a3 = y5.toInt → Ev E ad shl p l e rm_X8_seedsThatDiffer s m args below meth c 0 0 Q 2 h 15 [none, none] [.int y5]) (fun a3 hG => ?_) (fun j4 Hj4 hG => ?_)
  · skip
    intro y5 ha; have ha := ha.symm; subst ha
    exact r_iretP (pc := 15) X dX8_seedsThatDiffer_15 hQ hG
  refine r_if_eq (pc := 7) X dX8_seedsThatDiffer_7 (tgt := 14) (by decide) hG (fun hG => ?_) (fun hG => ?_)
  · skip
    refine r_iconst (pc := 14) X dX8_seedsThatDiffer_14 hG rfl (fun z6 hG => ?_)
    exact r_mask [false, false] rfl (Hj4 _ hG z6 rfl)
  · skip
    refine r_iload_n (pc := 10) X dX8_seedsThatDiffer_10 rfl rfl ?_
    refine r_goto (pc := 11) X dX8_seedsThatDiffer_11 (tgt := 15) (by decide) ?_
    exact r_mask [false, false] rfl (Hj4 _ hG x1 rfl)
theorem c_X8_seedsThatDiffer {x1 : Int32} {r : Int} (Hb0 : At_X8 shl) (hg : g_X8_seedsThatDiffer x1.toInt h = some r) : Met l yX8_seedsThatDiffer (wsM yX8_seedsThatDiffer cX8_seedsThatDiffer 2 (some .int)) rm_X8_seedsThatDiffer (va_Pc [.ref (ad 0), .int x1] (World E ad shl h)) (QcI E ad shl r h) 0 0 (bsA E) :=
  met_of (L0 := [some (.ref (ad 0)), some (.int x1)]) rfl rfl rfl (Nat.le_of_ble_eq_true rfl) (fun _ _ _ _ _ _ _ X => w_X8_seedsThatDiffer Hb0 X rfl hg)
abbrev rm_X3_heapUp : Room := { frames := 1, cells := 0, slots := 0, locals := 20 }
theorem hdd_X3_heapUp : yX3_heapUp.cls = RX3 ∧ yX3_heapUp.cls ≠ "java/lang/invoke/MethodHandle" ∧ yX3_heapUp.cls ≠ "java/lang/invoke/VarHandle" ∧ (parseMethodDescriptor yX3_heapUp.desc).map (fun d => d.parameters.length) = some 2 := ⟨rfl, by decide +kernel, by decide +kernel, by decide +kernel⟩
set_option maxRecDepth 100000 in
set_option maxHeartbeats 4000000 in
theorem w_X3_heapUp {b0 : Nat} {x1 : Int32} {x2 : Int32} {r : Hp} (Hb0 : At_X3 shl b0) (X : Cx E p s m args meth c cX3_heapUp RX3 3 none) (hQ : Q = MQ below (QcV E ad shl r) args s 0 0 (bsA E)) (hG : g_X3_heapUp b0 x1.toInt x2.toInt h = some r) : Ev E ad shl p l e rm_X3_heapUp s m args below meth c 0 0 Q 3 h 0 [some (.ref (ad b0)), some (.int x1), some (.int x2)] [] := by
  unfold g_X3_heapUp at hG
  refine r_iload_n (pc := 0) X dX3_heapUp_0 rfl rfl ?_
  refine r_cP (pc := 1) hG (fun _ hg => runS X dX3_heapUp_1 (c_X3_isPlace  hg) mM_X3_129 mS_X3_isPlace mN_X3 mK_X3_isPlace rfl rfl hdd_X3_isPlace ⟨(Nat.le_of_ble_eq_true rfl), (Nat.le_of_ble_eq_true rfl)⟩ rfl rfl (Nat.le_of_ble_eq_true rfl) ⟨(Nat.le_of_ble_eq_true rfl), (Nat.le_of_ble_eq_true rfl)⟩) (fun z1 hG => ?_)
  refine r_join hG (fun a2 => ∀ (h4 : Hp), a2 = h4 → Ev E ad shl p l e rm_X3_heapUp s m args below meth c 0 0 Q 3 h4 22 [none, none, none] []) (fun a2 hG => ?_) (fun j3 Hj3 hG => ?_)
  · skip
    intro h4 ha; have ha := ha.symm; subst ha
    exact r_vret (pc := 22) X dX3_heapUp_22 hQ hG
  refine r_if_eq (pc := 4) X dX3_heapUp_4 (tgt := 22) (by decide) hG (fun hG => ?_) (fun hG => ?_)
  · skip
    exact r_mask [false, false, false] rfl (Hj3 _ hG h rfl)
  · skip
    refine r_aload_n (pc := 7) X dX3_heapUp_7 rfl rfl ?_
    refine r_getC (pc := 8) X (at_X3_o Hb0) rfl mU_X3 (k := 0) (by decide) (q := (b0 + 1)) rfl mF_X3_9 dX3_heapUp_8 ?_
    refine r_iload_n (pc := 11) X dX3_heapUp_11 rfl rfl ?_
    refine r_dup2 (pc := 12) X dX3_heapUp_12 rfl rfl ?_
    refine r_iald (pc := 13) X (at_X3_height Hb0) dX3_heapUp_13 hG (fun z5 hG => ?_)
    refine r_iload_n (pc := 14) X dX3_heapUp_14 rfl rfl ?_
    refine r_iadd (pc := 15) X dX3_heapUp_15 hG (fun z6 hG => ?_)
    refine r_iast (pc := 16) X (at_X3_height Hb0) dX3_heapUp_16 hG (fun h7 hG => ?_)
    refine r_aload_n (pc := 17) X dX3_heapUp_17 rfl rfl ?_
    refine r_iconst (pc := 18) X dX3_heapUp_18 hG rfl (fun z8 hG => ?_)
    refine r_putZ (pc := 19) X (at_X3_o Hb0) rfl mU_X3 (k := 15) (by decide) rfl rfl rfl mF_X3_80 dX3_heapUp_19 hG (fun h9 hG => ?_)
    exact r_mask [false, false, false] rfl (Hj3 _ hG h9 rfl)
theorem c_X3_heapUp {b0 : Nat} {x1 : Int32} {x2 : Int32} {r : Hp} (Hb0 : At_X3 shl b0) (hg : g_X3_heapUp b0 x1.toInt x2.toInt h = some r) : Met l yX3_heapUp (wsM yX3_heapUp cX3_heapUp 3 none) rm_X3_heapUp (va_Pc [.ref (ad b0), .int x1, .int x2] (World E ad shl h)) (QcV E ad shl r) 0 0 (bsA E) :=
  met_of (L0 := [some (.ref (ad b0)), some (.int x1), some (.int x2)]) rfl rfl rfl (Nat.le_of_ble_eq_true rfl) (fun _ _ _ _ _ _ _ X => w_X3_heapUp Hb0 X rfl hg)
abbrev rm_X8_sumOfTower : Room := { frames := 6, cells := 0, slots := 0, locals := 149 }
theorem hdd_X8_sumOfTower : yX8_sumOfTower.cls = RX8 ∧ yX8_sumOfTower.cls ≠ "java/lang/invoke/MethodHandle" ∧ yX8_sumOfTower.cls ≠ "java/lang/invoke/VarHandle" ∧ (parseMethodDescriptor yX8_sumOfTower.desc).map (fun d => d.parameters.length) = some 4 := ⟨rfl, by decide +kernel, by decide +kernel, by decide +kernel⟩
set_option maxRecDepth 100000 in
set_option maxHeartbeats 4000000 in
theorem w_X8_sumOfTower {x1 : Int32} {x2 : Int32} {x3 : Int32} {x4 : Int32} {r : Int × Hp} (Hb0 : At_X8 shl) (X : Cx E p s m args meth c cX8_sumOfTower RX8 7 (some .int)) (hQ : Q = MQ below (QcI E ad shl r.1 r.2) args s 0 0 (bsA E)) (hG : g_X8_sumOfTower x1.toInt x2.toInt x3.toInt x4.toInt h = some r) : Ev E ad shl p l e rm_X8_sumOfTower s m args below meth c 0 0 Q 7 h 0 [some (.ref (ad 0)), some (.int x1), some (.int x2), some (.int x3), some (.int x4), none, none] [] := by
  unfold g_X8_sumOfTower at hG
  refine r_iconst (pc := 0) X dX8_sumOfTower_0 hG rfl (fun z1 hG => ?_)
  refine r_istore (pc := 1) (L' := [some (.ref (ad 0)), some (.int x1), some (.int x2), some (.int x3), some (.int x4), some (.int z1), none]) X dX8_sumOfTower_1 (by decide) rfl rfl ?_
  refine r_iconst (pc := 3) X dX8_sumOfTower_3 hG rfl (fun z2 hG => ?_)
  refine r_istore (pc := 4) (L' := [some (.ref (ad 0)), some (.int x1), some (.int x2), some (.int x3), some (.int x4), some (.int z1), some (.int z2)]) X dX8_sumOfTower_4 (by decide) rfl rfl ?_
  refine r_mask [true, true, true, true, true, true, true] rfl (r_loop (fun q3 => ∀ (y5 : Int32) (y6 : Int32) (h7 : Hp), q3 = (y5.toInt, y6.toInt, h7) → Ev E ad shl p l e rm_X8_sumOfTower s m args below meth c 0 0 Q 7 h7 6 [some (.ref (ad 0)), some (.int x1), some (.int x2), some (.int x3), some (.int x4), some (.int y5), some (.int y6)] []) (fun l4 Hl4 q3 hG => ?_) FU _ hG z1 z2 h rfl)
  intro y5 y6 h7 ha; have ha := ha.symm; subst ha
  unfold g_X8_sumOfTower_l4 at hG
  refine r_iload (pc := 6) X dX8_sumOfTower_6 rfl ?_
  refine r_iload_n (pc := 8) X dX8_sumOfTower_8 rfl rfl ?_
  refine r_icmp_gt (pc := 9) X dX8_sumOfTower_9 (tgt := 104) (by decide) hG (fun hG => ?_) (fun hG => ?_)
  · skip
    refine r_iload (pc := 104) X dX8_sumOfTower_104 rfl ?_
    exact r_iretW (pc := 106) X dX8_sumOfTower_106 hQ hG
  · skip
    refine r_aload_n (pc := 12) X dX8_sumOfTower_12 rfl rfl ?_
    refine r_getC (pc := 13) X (at_X8_o Hb0) rfl mU_X8 (k := 11) (by decide) (q := 46) rfl mF_X8_67 dX8_sumOfTower_13 ?_
    refine r_aload_n (pc := 16) X dX8_sumOfTower_16 rfl rfl ?_
    refine r_getC (pc := 17) X (at_X8_o Hb0) rfl mU_X8 (k := 7) (by decide) (q := 26) rfl mF_X8_45 dX8_sumOfTower_17 ?_
    refine r_iconst (pc := 20) X dX8_sumOfTower_20 hG rfl (fun z8 hG => ?_)
    refine r_iload (pc := 21) X dX8_sumOfTower_21 rfl ?_
    refine r_cV (pc := 23) hG (fun _ hg => runV X dX8_sumOfTower_23 (c_X6_start (at_X8_trial Hb0) (at_X8_now Hb0) hg) mM_X8_276 mI_X6_start mE_X6_start mN_X6 mK_X6_start (at_X6_o (at_X8_trial Hb0)) rfl rfl rfl rfl hdd_X6_start ⟨(Nat.le_of_ble_eq_true rfl), (Nat.le_of_ble_eq_true rfl)⟩ rfl rfl (Nat.le_of_ble_eq_true rfl) ⟨(Nat.le_of_ble_eq_true rfl), (Nat.le_of_ble_eq_true rfl)⟩) (fun h9 hG => ?_)
    refine r_aload_n (pc := 26) X dX8_sumOfTower_26 rfl rfl ?_
    refine r_getC (pc := 27) X (at_X8_o Hb0) rfl mU_X8 (k := 11) (by decide) (q := 46) rfl mF_X8_67 dX8_sumOfTower_27 ?_
    refine r_getC (pc := 30) X (at_X6_o (at_X8_trial Hb0)) rfl mU_X6 (k := 0) (by decide) (q := 47) rfl mF_X8_330 dX8_sumOfTower_30 ?_
    refine r_iload_n (pc := 33) X dX8_sumOfTower_33 rfl rfl ?_
    refine r_iload_n (pc := 34) X dX8_sumOfTower_34 rfl rfl ?_
    refine r_cV (pc := 35) hG (fun _ hg => runV X dX8_sumOfTower_35 (c_X3_heapUp (at_X6_shore (at_X8_trial Hb0)) hg) mM_X8_333 mI_X3_heapUp mE_X3_heapUp mN_X3 mK_X3_heapUp (at_X3_o (at_X6_shore (at_X8_trial Hb0))) rfl rfl rfl rfl hdd_X3_heapUp ⟨(Nat.le_of_ble_eq_true rfl), (Nat.le_of_ble_eq_true rfl)⟩ rfl rfl (Nat.le_of_ble_eq_true rfl) ⟨(Nat.le_of_ble_eq_true rfl), (Nat.le_of_ble_eq_true rfl)⟩) (fun h10 hG => ?_)
    refine r_aload_n (pc := 38) X dX8_sumOfTower_38 rfl rfl ?_
    refine r_getC (pc := 39) X (at_X8_o Hb0) rfl mU_X8 (k := 11) (by decide) (q := 46) rfl mF_X8_67 dX8_sumOfTower_39 ?_
    refine r_iload_n (pc := 42) X dX8_sumOfTower_42 rfl rfl ?_
    refine r_aload_n (pc := 43) X dX8_sumOfTower_43 rfl rfl ?_
    refine r_getC (pc := 44) X (at_X8_o Hb0) rfl mU_X8 (k := 11) (by decide) (q := 46) rfl mF_X8_67 dX8_sumOfTower_44 ?_
    refine r_getC (pc := 47) X (at_X6_o (at_X8_trial Hb0)) rfl mU_X6 (k := 0) (by decide) (q := 47) rfl mF_X8_330 dX8_sumOfTower_47 ?_
    refine r_getC (pc := 50) X (at_X3_o (at_X6_shore (at_X8_trial Hb0))) rfl mU_X3 (k := 0) (by decide) (q := 48) rfl mF_X8_185 dX8_sumOfTower_50 ?_
    refine r_iload_n (pc := 53) X dX8_sumOfTower_53 rfl rfl ?_
    refine r_iald (pc := 54) X (at_X3_height (at_X6_shore (at_X8_trial Hb0))) dX8_sumOfTower_54 hG (fun z11 hG => ?_)
    refine r_aload_n (pc := 55) X dX8_sumOfTower_55 rfl rfl ?_
    refine r_getR (pc := 56) X (at_X8_o Hb0) rfl mU_X8 (k := 1) (by decide) rfl mF_X8_19 dX8_sumOfTower_56 hG (fun q12 Hq12 hG => ?_)
    refine r_cP (pc := 59) hG (fun _ hg => runV X dX8_sumOfTower_59 (c_X0_fall (at_X8_beaches Hb0 _ Hq12) hg) mM_X8_336 mI_X0_fall mE_X0_fall mN_X0 mK_X0_fall (at_X0_o (at_X8_beaches Hb0 _ Hq12)) rfl rfl rfl rfl hdd_X0_fall ⟨(Nat.le_of_ble_eq_true rfl), (Nat.le_of_ble_eq_true rfl)⟩ rfl rfl (Nat.le_of_ble_eq_true rfl) ⟨(Nat.le_of_ble_eq_true rfl), (Nat.le_of_ble_eq_true rfl)⟩) (fun z13 hG => ?_)
    refine r_isub (pc := 62) X dX8_sumOfTower_62 hG (fun z14 hG => ?_)
    refine r_cV (pc := 63) hG (fun _ hg => runV X dX8_sumOfTower_63 (c_X6_watch (at_X8_trial Hb0) hg) mM_X8_339 mI_X6_watch mE_X6_watch mN_X6 mK_X6_watch (at_X6_o (at_X8_trial Hb0)) rfl rfl rfl rfl hdd_X6_watch ⟨(Nat.le_of_ble_eq_true rfl), (Nat.le_of_ble_eq_true rfl)⟩ rfl rfl (Nat.le_of_ble_eq_true rfl) ⟨(Nat.le_of_ble_eq_true rfl), (Nat.le_of_ble_eq_true rfl)⟩) (fun h15 hG => ?_)
    refine r_aload_n (pc := 66) X dX8_sumOfTower_66 rfl rfl ?_
    refine r_getC (pc := 67) X (at_X8_o Hb0) rfl mU_X8 (k := 11) (by decide) (q := 46) rfl mF_X8_67 dX8_sumOfTower_67 ?_
    refine r_aload_n (pc := 70) X dX8_sumOfTower_70 rfl rfl ?_
    refine r_getR (pc := 71) X (at_X8_o Hb0) rfl mU_X8 (k := 1) (by decide) rfl mF_X8_19 dX8_sumOfTower_71 hG (fun q16 Hq16 hG => ?_)
    refine r_aload_n (pc := 74) X dX8_sumOfTower_74 rfl rfl ?_
    refine r_getR (pc := 75) X (at_X8_o Hb0) rfl mU_X8 (k := 3) (by decide) rfl mF_X8_29 dX8_sumOfTower_75 hG (fun q17 Hq17 hG => ?_)
    refine r_null (pc := 78) X dX8_sumOfTower_78 ?_
    refine r_iload (pc := 79) X dX8_sumOfTower_79 rfl ?_
    refine r_cV (pc := 81) hG (fun _ hg => runV X dX8_sumOfTower_81 (c_X6_run (at_X8_trial Hb0) (at_X8_beaches Hb0 _ Hq16) (at_X8_seas Hb0 _ Hq17) nullAt hg) mM_X8_284 mI_X6_run mE_X6_run mN_X6 mK_X6_run (at_X6_o (at_X8_trial Hb0)) rfl rfl rfl rfl hdd_X6_run ⟨(Nat.le_of_ble_eq_true rfl), (Nat.le_of_ble_eq_true rfl)⟩ rfl rfl (Nat.le_of_ble_eq_true rfl) ⟨(Nat.le_of_ble_eq_true rfl), (Nat.le_of_ble_eq_true rfl)⟩) (fun h18 hG => ?_)
    refine r_iload (pc := 84) X dX8_sumOfTower_84 rfl ?_
    refine r_aload_n (pc := 86) X dX8_sumOfTower_86 rfl rfl ?_
    refine r_getC (pc := 87) X (at_X8_o Hb0) rfl mU_X8 (k := 11) (by decide) (q := 46) rfl mF_X8_67 dX8_sumOfTower_87 ?_
    refine r_getC (pc := 90) X (at_X6_o (at_X8_trial Hb0)) rfl mU_X6 (k := 1) (by decide) (q := 55) rfl mF_X8_288 dX8_sumOfTower_90 ?_
    refine r_iconst (pc := 93) X dX8_sumOfTower_93 hG rfl (fun z19 hG => ?_)
    refine r_iald (pc := 94) X (at_X6_lasts (at_X8_trial Hb0)) dX8_sumOfTower_94 hG (fun z20 hG => ?_)
    refine r_iadd (pc := 95) X dX8_sumOfTower_95 hG (fun z21 hG => ?_)
    refine r_istore (pc := 96) (L' := [some (.ref (ad 0)), some (.int x1), some (.int x2), some (.int x3), some (.int x4), some (.int z21), some (.int y6)]) X dX8_sumOfTower_96 (by decide) rfl rfl ?_
    refine r_iinc (pc := 98) (L' := fun z22 => [some (.ref (ad 0)), some (.int x1), some (.int x2), some (.int x3), some (.int x4), some (.int z21), some (.int z22)]) X dX8_sumOfTower_98 (by decide) rfl rfl (by decide) (fun _ => rfl) hG (fun z22 hG => ?_)
    refine r_goto (pc := 101) X dX8_sumOfTower_101 (tgt := 6) (by decide) ?_
    exact r_mask [true, true, true, true, true, true, true] rfl (Hl4 _ hG z21 z22 h18 rfl)
theorem c_X8_sumOfTower {x1 : Int32} {x2 : Int32} {x3 : Int32} {x4 : Int32} {r : Int × Hp} (Hb0 : At_X8 shl) (hg : g_X8_sumOfTower x1.toInt x2.toInt x3.toInt x4.toInt h = some r) : Met l yX8_sumOfTower (wsM yX8_sumOfTower cX8_sumOfTower 7 (some .int)) rm_X8_sumOfTower (va_Pc [.ref (ad 0), .int x1, .int x2, .int x3, .int x4] (World E ad shl h)) (QcI E ad shl r.1 r.2) 0 0 (bsA E) :=
  met_of (L0 := [some (.ref (ad 0)), some (.int x1), some (.int x2), some (.int x3), some (.int x4), none, none]) rfl rfl rfl (Nat.le_of_ble_eq_true rfl) (fun _ _ _ _ _ _ _ X => w_X8_sumOfTower Hb0 X rfl hg)
abbrev rm_X8_stand : Room := { frames := 7, cells := 0, slots := 0, locals := 175 }
theorem hdd_X8_stand : yX8_stand.cls = RX8 ∧ yX8_stand.cls ≠ "java/lang/invoke/MethodHandle" ∧ yX8_stand.cls ≠ "java/lang/invoke/VarHandle" ∧ (parseMethodDescriptor yX8_stand.desc).map (fun d => d.parameters.length) = some 3 := ⟨rfl, by decide +kernel, by decide +kernel, by decide +kernel⟩
set_option maxRecDepth 100000 in
set_option maxHeartbeats 4000000 in
theorem w_X8_stand {x1 : Int32} {x2 : Int32} {x3 : Int32} {r : Int × Hp} (Hb0 : At_X8 shl) (X : Cx E p s m args meth c cX8_stand RX8 9 (some .int)) (hQ : Q = MQ below (QcI E ad shl r.1 r.2) args s 0 0 (bsA E)) (hG : g_X8_stand x1.toInt x2.toInt x3.toInt h = some r) : Ev E ad shl p l e rm_X8_stand s m args below meth c 0 0 Q 9 h 0 [some (.ref (ad 0)), some (.int x1), some (.int x2), some (.int x3), none, none, none, none, none] [] := by
  unfold g_X8_stand at hG
  refine r_iload_n (pc := 0) X dX8_stand_0 rfl rfl ?_
  refine r_iconst (pc := 1) X dX8_stand_1 hG rfl (fun z1 hG => ?_)
  refine r_join hG (fun _ => Ev E ad shl p l e rm_X8_stand s m args below meth c 0 0 Q 9 h 25 [none, none, none, none, none, none, none, none, none] []) (fun a2 hG => ?_) (fun j3 Hj3 hG => ?_)
  · skip
    refine r_bipush (pc := 25) X dX8_stand_25 hG (by decide) (fun z4 hG => ?_)
    exact r_iretW (pc := 27) X dX8_stand_27 hQ hG
  refine r_icmp_lt (pc := 2) X dX8_stand_2 (tgt := 25) (by decide) hG (fun hG => ?_) (fun hG => ?_)
  · skip
    exact r_mask [false, false, false, false, false, false, false, false, false] rfl (Hj3 _ hG)
  · skip
    refine r_iload_n (pc := 5) X dX8_stand_5 rfl rfl ?_
    refine r_bipush (pc := 6) X dX8_stand_6 hG (by decide) (fun z5 hG => ?_)
    refine r_icmp_gt (pc := 8) X dX8_stand_8 (tgt := 25) (by decide) hG (fun hG => ?_) (fun hG => ?_)
    · skip
      exact r_mask [false, false, false, false, false, false, false, false, false] rfl (Hj3 _ hG)
    · skip
      refine r_iload_n (pc := 11) X dX8_stand_11 rfl rfl ?_
      refine r_cP (pc := 12) hG (fun _ hg => runS X dX8_stand_12 (c_X8_isSeeds  hg) mM_X8_297 mS_X8_isSeeds mN_X8 mK_X8_isSeeds rfl rfl hdd_X8_isSeeds ⟨(Nat.le_of_ble_eq_true rfl), (Nat.le_of_ble_eq_true rfl)⟩ rfl rfl (Nat.le_of_ble_eq_true rfl) ⟨(Nat.le_of_ble_eq_true rfl), (Nat.le_of_ble_eq_true rfl)⟩) (fun z6 hG => ?_)
      refine r_if_eq (pc := 15) X dX8_stand_15 (tgt := 25) (by decide) hG (fun hG => ?_) (fun hG => ?_)
      · skip
        exact r_mask [false, false, false, false, false, false, false, false, false] rfl (Hj3 _ hG)
      · skip
        refine r_iload_n (pc := 18) X dX8_stand_18 rfl rfl ?_
        refine r_cP (pc := 19) hG (fun _ hg => runS X dX8_stand_19 (c_X8_isSpan  hg) mM_X8_273 mS_X8_isSpan mN_X8 mK_X8_isSpan rfl rfl hdd_X8_isSpan ⟨(Nat.le_of_ble_eq_true rfl), (Nat.le_of_ble_eq_true rfl)⟩ rfl rfl (Nat.le_of_ble_eq_true rfl) ⟨(Nat.le_of_ble_eq_true rfl), (Nat.le_of_ble_eq_true rfl)⟩) (fun z7 hG => ?_)
        refine r_if_ne (pc := 22) X dX8_stand_22 (tgt := 28) (by decide) hG (fun hG => ?_) (fun hG => ?_)
        · skip
          refine r_aload_n (pc := 28) X dX8_stand_28 rfl rfl ?_
          refine r_iload_n (pc := 29) X dX8_stand_29 rfl rfl ?_
          refine r_cP (pc := 30) hG (fun _ hg => runV X dX8_stand_30 (c_X8_seedsThatDiffer Hb0 hg) mM_X8_300 mI_X8_seedsThatDiffer mE_X8_seedsThatDiffer mN_X8 mK_X8_seedsThatDiffer (at_X8_o Hb0) rfl rfl rfl rfl hdd_X8_seedsThatDiffer ⟨(Nat.le_of_ble_eq_true rfl), (Nat.le_of_ble_eq_true rfl)⟩ rfl rfl (Nat.le_of_ble_eq_true rfl) ⟨(Nat.le_of_ble_eq_true rfl), (Nat.le_of_ble_eq_true rfl)⟩) (fun z8 hG => ?_)
          refine r_istore (pc := 33) (L' := [some (.ref (ad 0)), some (.int x1), some (.int x2), some (.int x3), some (.int z8), none, none, none, none]) X dX8_stand_33 (by decide) rfl rfl ?_
          refine r_iconst (pc := 35) X dX8_stand_35 hG rfl (fun z9 hG => ?_)
          refine r_istore (pc := 36) (L' := [some (.ref (ad 0)), some (.int x1), some (.int x2), some (.int x3), some (.int z8), some (.int z9), none, none, none]) X dX8_stand_36 (by decide) rfl rfl ?_
          refine r_iconst (pc := 38) X dX8_stand_38 hG rfl (fun z10 hG => ?_)
          refine r_istore (pc := 39) (L' := [some (.ref (ad 0)), some (.int x1), some (.int x2), some (.int x3), some (.int z8), some (.int z9), some (.int z10), none, none]) X dX8_stand_39 (by decide) rfl rfl ?_
          refine r_iconst (pc := 41) X dX8_stand_41 hG rfl (fun z11 hG => ?_)
          refine r_istore (pc := 42) (L' := [some (.ref (ad 0)), some (.int x1), some (.int x2), some (.int x3), some (.int z8), some (.int z9), some (.int z10), some (.int z11), none]) X dX8_stand_42 (by decide) rfl rfl ?_
          refine r_join hG (fun a12 => ∀ (y14 : Int32) (h15 : Hp), a12 = (y14.toInt, h15) → Ev E ad shl p l e rm_X8_stand s m args below meth c 0 0 Q 9 h15 114 [none, none, none, none, none, some (.int y14), none, none, none] []) (fun a12 hG => ?_) (fun j13 Hj13 hG => ?_)
          · skip
            intro y14 h15 ha; have ha := ha.symm; subst ha
            refine r_iload (pc := 114) X dX8_stand_114 rfl ?_
            exact r_iretW (pc := 116) X dX8_stand_116 hQ hG
          refine r_mask [true, true, false, true, true, true, true, true, false] rfl (r_loop (fun q16 => ∀ (y18 : Int32) (y19 : Int32) (y20 : Int32) (h21 : Hp), q16 = (y18.toInt, y19.toInt, y20.toInt, h21) → Ev E ad shl p l e rm_X8_stand s m args below meth c 0 0 Q 9 h21 44 [some (.ref (ad 0)), some (.int x1), none, some (.int x3), some (.int z8), some (.int y18), some (.int y19), some (.int y20), none] []) (fun l17 Hl17 q16 hG => ?_) FU _ hG z9 z10 z11 h rfl)
          intro y18 y19 y20 h21 ha; have ha := ha.symm; subst ha
          unfold g_X8_stand_l17 at hG
          refine r_iload (pc := 44) X dX8_stand_44 rfl ?_
          refine r_aload_n (pc := 46) X dX8_stand_46 rfl rfl ?_
          refine r_getR (pc := 47) X (at_X8_o Hb0) rfl mU_X8 (k := 1) (by decide) rfl mF_X8_19 dX8_stand_47 hG (fun q22 Hq22 hG => ?_)
          refine r_cP (pc := 50) hG (fun _ hg => runV X dX8_stand_50 (c_X0_cells (at_X8_beaches Hb0 _ Hq22) hg) mM_X8_214 mI_X0_cells mE_X0_cells mN_X0 mK_X0_cells (at_X0_o (at_X8_beaches Hb0 _ Hq22)) rfl rfl rfl rfl hdd_X0_cells ⟨(Nat.le_of_ble_eq_true rfl), (Nat.le_of_ble_eq_true rfl)⟩ rfl rfl (Nat.le_of_ble_eq_true rfl) ⟨(Nat.le_of_ble_eq_true rfl), (Nat.le_of_ble_eq_true rfl)⟩) (fun z23 hG => ?_)
          refine r_icmp_ge (pc := 53) X dX8_stand_53 (tgt := 114) (by decide) hG (fun hG => ?_) (fun hG => ?_)
          · skip
            exact r_mask [false, false, false, false, false, true, false, false, false] rfl (Hj13 _ hG y18 h21 rfl)
          · skip
            refine r_iload (pc := 56) X dX8_stand_56 rfl ?_
            refine r_iload (pc := 58) X dX8_stand_58 rfl ?_
            refine r_iload_n (pc := 60) X dX8_stand_60 rfl rfl ?_
            refine r_imul (pc := 61) X dX8_stand_61 hG (fun z24 hG => ?_)
            refine r_icmp_ge (pc := 62) X dX8_stand_62 (tgt := 114) (by decide) hG (fun hG => ?_) (fun hG => ?_)
            · skip
              exact r_mask [false, false, false, false, false, true, false, false, false] rfl (Hj13 _ hG y18 h21 rfl)
            · skip
              refine r_aload_n (pc := 65) X dX8_stand_65 rfl rfl ?_
              refine r_getC (pc := 66) X (at_X8_o Hb0) rfl mU_X8 (k := 7) (by decide) (q := 26) rfl mF_X8_45 dX8_stand_66 ?_
              refine r_getC (pc := 69) X (at_X3_o (at_X8_now Hb0)) rfl mU_X3 (k := 3) (by decide) (q := 30) rfl mF_X8_194 dX8_stand_69 ?_
              refine r_iload (pc := 72) X dX8_stand_72 rfl ?_
              refine r_iald (pc := 74) X (at_X3_stone (at_X8_now Hb0)) dX8_stand_74 hG (fun z25 hG => ?_)
              refine r_join hG (fun a26 => ∀ (y28 : Int32) (y29 : Int32) (h30 : Hp), a26 = (y28.toInt, y29.toInt, h30) → Ev E ad shl p l e rm_X8_stand s m args below meth c 0 0 Q 9 h30 108 [some (.ref (ad 0)), some (.int x1), none, some (.int x3), some (.int z8), some (.int y28), some (.int y29), some (.int y20), none] []) (fun a26 hG => ?_) (fun j27 Hj27 hG => ?_)
              · skip
                intro y28 y29 h30 ha; have ha := ha.symm; subst ha
                refine r_iinc (pc := 108) (L' := fun z31 => [some (.ref (ad 0)), some (.int x1), none, some (.int x3), some (.int z8), some (.int y28), some (.int y29), some (.int z31), none]) X dX8_stand_108 (by decide) rfl rfl (by decide) (fun _ => rfl) hG (fun z31 hG => ?_)
                refine r_goto (pc := 111) X dX8_stand_111 (tgt := 44) (by decide) ?_
                exact r_mask [true, true, false, true, true, true, true, true, false] rfl (Hl17 _ hG y28 y29 z31 h30 rfl)
              refine r_if_eq (pc := 75) X dX8_stand_75 (tgt := 81) (by decide) hG (fun hG => ?_) (fun hG => ?_)
              · skip
                refine r_aload_n (pc := 81) X dX8_stand_81 rfl rfl ?_
                refine r_iload (pc := 82) X dX8_stand_82 rfl ?_
                refine r_iload_n (pc := 84) X dX8_stand_84 rfl rfl ?_
                refine r_iload (pc := 85) X dX8_stand_85 rfl ?_
                refine r_iload_n (pc := 87) X dX8_stand_87 rfl rfl ?_
                refine r_cW (pc := 88) hG (fun _ hg => runV X dX8_stand_88 (c_X8_sumOfTower Hb0 hg) mM_X8_303 mI_X8_sumOfTower mE_X8_sumOfTower mN_X8 mK_X8_sumOfTower (at_X8_o Hb0) rfl rfl rfl rfl hdd_X8_sumOfTower ⟨(Nat.le_of_ble_eq_true rfl), (Nat.le_of_ble_eq_true rfl)⟩ rfl rfl (Nat.le_of_ble_eq_true rfl) ⟨(Nat.le_of_ble_eq_true rfl), (Nat.le_of_ble_eq_true rfl)⟩) (fun z32 h33 hG => ?_)
                refine r_istore (pc := 91) (L' := [some (.ref (ad 0)), some (.int x1), none, some (.int x3), some (.int z8), some (.int y18), some (.int y19), some (.int y20), some (.int z32)]) X dX8_stand_91 (by decide) rfl rfl ?_
                refine r_iload (pc := 93) X dX8_stand_93 rfl ?_
                refine r_iload (pc := 95) X dX8_stand_95 rfl ?_
                refine r_icmp_le (pc := 97) X dX8_stand_97 (tgt := 108) (by decide) hG (fun hG => ?_) (fun hG => ?_)
                · skip
                  exact r_mask [true, true, false, true, true, true, true, true, false] rfl (Hj27 _ hG y18 y19 h33 rfl)
                · skip
                  refine r_iload (pc := 100) X dX8_stand_100 rfl ?_
                  refine r_istore (pc := 102) (L' := [some (.ref (ad 0)), some (.int x1), none, some (.int x3), some (.int z8), some (.int y18), some (.int z32), some (.int y20), some (.int z32)]) X dX8_stand_102 (by decide) rfl rfl ?_
                  refine r_iload (pc := 104) X dX8_stand_104 rfl ?_
                  refine r_istore (pc := 106) (L' := [some (.ref (ad 0)), some (.int x1), none, some (.int x3), some (.int z8), some (.int y20), some (.int z32), some (.int y20), some (.int z32)]) X dX8_stand_106 (by decide) rfl rfl ?_
                  exact r_mask [true, true, false, true, true, true, true, true, false] rfl (Hj27 _ hG y20 z32 h33 rfl)
              · skip
                refine r_goto (pc := 78) X dX8_stand_78 (tgt := 108) (by decide) ?_
                exact r_mask [true, true, false, true, true, true, true, true, false] rfl (Hj27 _ hG y18 y19 h21 rfl)
        · skip
          exact r_mask [false, false, false, false, false, false, false, false, false] rfl (Hj3 _ hG)
theorem c_X8_stand {x1 : Int32} {x2 : Int32} {x3 : Int32} {r : Int × Hp} (Hb0 : At_X8 shl) (hg : g_X8_stand x1.toInt x2.toInt x3.toInt h = some r) : Met l yX8_stand (wsM yX8_stand cX8_stand 9 (some .int)) rm_X8_stand (va_Pc [.ref (ad 0), .int x1, .int x2, .int x3] (World E ad shl h)) (QcI E ad shl r.1 r.2) 0 0 (bsA E) :=
  met_of (L0 := [some (.ref (ad 0)), some (.int x1), some (.int x2), some (.int x3), none, none, none, none, none]) rfl rfl rfl (Nat.le_of_ble_eq_true rfl) (fun _ _ _ _ _ _ _ X => w_X8_stand Hb0 X rfl hg)
abbrev rm_X8_greatestDivisor : Room := { frames := 0, cells := 0, slots := 0, locals := 0 }
theorem hdd_X8_greatestDivisor : yX8_greatestDivisor.cls ≠ "java/lang/invoke/MethodHandle" ∧ yX8_greatestDivisor.cls ≠ "java/lang/invoke/VarHandle" ∧ (parseMethodDescriptor yX8_greatestDivisor.desc).map (fun d => d.parameters.length) = some 2 := ⟨by decide +kernel, by decide +kernel, by decide +kernel⟩
set_option maxRecDepth 100000 in
set_option maxHeartbeats 4000000 in
theorem w_X8_greatestDivisor {x1 : Int32} {x2 : Int32} {r : Int}  (X : Cx E p s m args meth c cX8_greatestDivisor RX8 3 (some .int)) (hQ : Q = MQ below (QcI E ad shl r h) args s 0 0 (bsA E)) (hG : g_X8_greatestDivisor x1.toInt x2.toInt = some r) : Ev E ad shl p l e rm_X8_greatestDivisor s m args below meth c 0 0 Q 3 h 0 [some (.int x1), some (.int x2), none] [] := by
  unfold g_X8_greatestDivisor at hG
  refine r_iload_n (pc := 0) X dX8_greatestDivisor_0 rfl rfl ?_
  refine r_istore_n (pc := 1) (L' := [some (.int x1), some (.int x2), some (.int x2)]) X dX8_greatestDivisor_1 rfl (by decide) rfl rfl ?_
  refine r_mask [true, true, true] rfl (r_loop (fun q1 => ∀ (y3 : Int32), q1 = y3.toInt → Ev E ad shl p l e rm_X8_greatestDivisor s m args below meth c 0 0 Q 3 h 2 [some (.int x1), some (.int x2), some (.int y3)] []) (fun l2 Hl2 q1 hG => ?_) FU _ hG x2 rfl)
  intro y3 ha; have ha := ha.symm; subst ha
  unfold g_X8_greatestDivisor_l2 at hG
  refine r_iload_n (pc := 2) X dX8_greatestDivisor_2 rfl rfl ?_
  refine r_iconst (pc := 3) X dX8_greatestDivisor_3 hG rfl (fun z4 hG => ?_)
  refine r_icmp_le (pc := 4) X dX8_greatestDivisor_4 (tgt := 27) (by decide) hG (fun hG => ?_) (fun hG => ?_)
  · skip
    refine r_iconst (pc := 27) X dX8_greatestDivisor_27 hG rfl (fun z5 hG => ?_)
    exact r_iretP (pc := 28) X dX8_greatestDivisor_28 hQ hG
  · skip
    refine r_iload_n (pc := 7) X dX8_greatestDivisor_7 rfl rfl ?_
    refine r_iload_n (pc := 8) X dX8_greatestDivisor_8 rfl rfl ?_
    refine r_irem (pc := 9) X dX8_greatestDivisor_9 hG (fun z6 hG => ?_)
    refine r_join hG (fun _ => Ev E ad shl p l e rm_X8_greatestDivisor s m args below meth c 0 0 Q 3 h 21 [some (.int x1), some (.int x2), some (.int y3)] []) (fun a7 hG => ?_) (fun j8 Hj8 hG => ?_)
    · skip
      refine r_iinc (pc := 21) (L' := fun z9 => [some (.int x1), some (.int x2), some (.int z9)]) X dX8_greatestDivisor_21 (by decide) rfl rfl (by decide) (fun _ => rfl) hG (fun z9 hG => ?_)
      refine r_goto (pc := 24) X dX8_greatestDivisor_24 (tgt := 2) (by decide) ?_
      exact r_mask [true, true, true] rfl (Hl2 _ hG z9 rfl)
    refine r_if_ne (pc := 10) X dX8_greatestDivisor_10 (tgt := 21) (by decide) hG (fun hG => ?_) (fun hG => ?_)
    · skip
      exact r_mask [true, true, true] rfl (Hj8 _ hG)
    · skip
      refine r_iload_n (pc := 13) X dX8_greatestDivisor_13 rfl rfl ?_
      refine r_iload_n (pc := 14) X dX8_greatestDivisor_14 rfl rfl ?_
      refine r_irem (pc := 15) X dX8_greatestDivisor_15 hG (fun z10 hG => ?_)
      refine r_if_ne (pc := 16) X dX8_greatestDivisor_16 (tgt := 21) (by decide) hG (fun hG => ?_) (fun hG => ?_)
      · skip
        exact r_mask [true, true, true] rfl (Hj8 _ hG)
      · skip
        refine r_iload_n (pc := 19) X dX8_greatestDivisor_19 rfl rfl ?_
        exact r_iretP (pc := 20) X dX8_greatestDivisor_20 hQ hG
theorem c_X8_greatestDivisor {x1 : Int32} {x2 : Int32} {r : Int}  (hg : g_X8_greatestDivisor x1.toInt x2.toInt = some r) : Met l yX8_greatestDivisor (wsM yX8_greatestDivisor cX8_greatestDivisor 3 (some .int)) rm_X8_greatestDivisor (va_Pc [.int x1, .int x2] (World E ad shl h)) (QcI E ad shl r h) 0 0 (bsA E) :=
  met_of (L0 := [some (.int x1), some (.int x2), none]) rfl rfl rfl (Nat.le_of_ble_eq_true rfl) (fun _ _ _ _ _ _ _ X => w_X8_greatestDivisor  X rfl hg)
abbrev rm_X8_outlasts : Room := { frames := 6, cells := 0, slots := 0, locals := 149 }
theorem hdd_X8_outlasts : yX8_outlasts.cls = RX8 ∧ yX8_outlasts.cls ≠ "java/lang/invoke/MethodHandle" ∧ yX8_outlasts.cls ≠ "java/lang/invoke/VarHandle" ∧ (parseMethodDescriptor yX8_outlasts.desc).map (fun d => d.parameters.length) = some 5 := ⟨rfl, by decide +kernel, by decide +kernel, by decide +kernel⟩
set_option maxRecDepth 100000 in
set_option maxHeartbeats 4000000 in
theorem w_X8_outlasts {x1 : Int32} {x2 : Int32} {x3 : Int32} {x4 : Int32} {x5 : Int32} {r : Int × Hp} (Hb0 : At_X8 shl) (X : Cx E p s m args meth c cX8_outlasts RX8 9 (some .int)) (hQ : Q = MQ below (QcI E ad shl r.1 r.2) args s 0 0 (bsA E)) (hG : g_X8_outlasts x1.toInt x2.toInt x3.toInt x4.toInt x5.toInt h = some r) : Ev E ad shl p l e rm_X8_outlasts s m args below meth c 0 0 Q 9 h 0 [some (.ref (ad 0)), some (.int x1), some (.int x2), some (.int x3), some (.int x4), some (.int x5), none, none, none] [] := by
  unfold g_X8_outlasts at hG
  refine r_aload_n (pc := 0) X dX8_outlasts_0 rfl rfl ?_
  refine r_iload_n (pc := 1) X dX8_outlasts_1 rfl rfl ?_
  refine r_cP (pc := 2) hG (fun _ hg => runV X dX8_outlasts_2 (c_X8_isFlag Hb0 hg) mM_X8_201 mI_X8_isFlag mE_X8_isFlag mN_X8 mK_X8_isFlag (at_X8_o Hb0) rfl rfl rfl rfl hdd_X8_isFlag ⟨(Nat.le_of_ble_eq_true rfl), (Nat.le_of_ble_eq_true rfl)⟩ rfl rfl (Nat.le_of_ble_eq_true rfl) ⟨(Nat.le_of_ble_eq_true rfl), (Nat.le_of_ble_eq_true rfl)⟩) (fun z1 hG => ?_)
  refine r_join hG (fun _ => Ev E ad shl p l e rm_X8_outlasts s m args below meth c 0 0 Q 9 h 36 [none, none, none, none, none, none, none, none, none] []) (fun a2 hG => ?_) (fun j3 Hj3 hG => ?_)
  · skip
    refine r_bipush (pc := 36) X dX8_outlasts_36 hG (by decide) (fun z4 hG => ?_)
    exact r_iretW (pc := 38) X dX8_outlasts_38 hQ hG
  refine r_if_eq (pc := 5) X dX8_outlasts_5 (tgt := 36) (by decide) hG (fun hG => ?_) (fun hG => ?_)
  · skip
    exact r_mask [false, false, false, false, false, false, false, false, false] rfl (Hj3 _ hG)
  · skip
    refine r_aload_n (pc := 8) X dX8_outlasts_8 rfl rfl ?_
    refine r_iload_n (pc := 9) X dX8_outlasts_9 rfl rfl ?_
    refine r_cP (pc := 10) hG (fun _ hg => runV X dX8_outlasts_10 (c_X8_isFlag Hb0 hg) mM_X8_201 mI_X8_isFlag mE_X8_isFlag mN_X8 mK_X8_isFlag (at_X8_o Hb0) rfl rfl rfl rfl hdd_X8_isFlag ⟨(Nat.le_of_ble_eq_true rfl), (Nat.le_of_ble_eq_true rfl)⟩ rfl rfl (Nat.le_of_ble_eq_true rfl) ⟨(Nat.le_of_ble_eq_true rfl), (Nat.le_of_ble_eq_true rfl)⟩) (fun z5 hG => ?_)
    refine r_if_eq (pc := 13) X dX8_outlasts_13 (tgt := 36) (by decide) hG (fun hG => ?_) (fun hG => ?_)
    · skip
      exact r_mask [false, false, false, false, false, false, false, false, false] rfl (Hj3 _ hG)
    · skip
      refine r_iload_n (pc := 16) X dX8_outlasts_16 rfl rfl ?_
      refine r_iload_n (pc := 17) X dX8_outlasts_17 rfl rfl ?_
      refine r_icmp_eq (pc := 18) X dX8_outlasts_18 (tgt := 36) (by decide) hG (fun hG => ?_) (fun hG => ?_)
      · skip
        exact r_mask [false, false, false, false, false, false, false, false, false] rfl (Hj3 _ hG)
      · skip
        refine r_iload_n (pc := 21) X dX8_outlasts_21 rfl rfl ?_
        refine r_cP (pc := 22) hG (fun _ hg => runS X dX8_outlasts_22 (c_X8_isSeeds  hg) mM_X8_297 mS_X8_isSeeds mN_X8 mK_X8_isSeeds rfl rfl hdd_X8_isSeeds ⟨(Nat.le_of_ble_eq_true rfl), (Nat.le_of_ble_eq_true rfl)⟩ rfl rfl (Nat.le_of_ble_eq_true rfl) ⟨(Nat.le_of_ble_eq_true rfl), (Nat.le_of_ble_eq_true rfl)⟩) (fun z6 hG => ?_)
        refine r_if_eq (pc := 25) X dX8_outlasts_25 (tgt := 36) (by decide) hG (fun hG => ?_) (fun hG => ?_)
        · skip
          exact r_mask [false, false, false, false, false, false, false, false, false] rfl (Hj3 _ hG)
        · skip
          refine r_iload (pc := 28) X dX8_outlasts_28 rfl ?_
          refine r_cP (pc := 30) hG (fun _ hg => runS X dX8_outlasts_30 (c_X8_isSpan  hg) mM_X8_273 mS_X8_isSpan mN_X8 mK_X8_isSpan rfl rfl hdd_X8_isSpan ⟨(Nat.le_of_ble_eq_true rfl), (Nat.le_of_ble_eq_true rfl)⟩ rfl rfl (Nat.le_of_ble_eq_true rfl) ⟨(Nat.le_of_ble_eq_true rfl), (Nat.le_of_ble_eq_true rfl)⟩) (fun z7 hG => ?_)
          refine r_if_ne (pc := 33) X dX8_outlasts_33 (tgt := 39) (by decide) hG (fun hG => ?_) (fun hG => ?_)
          · skip
            refine r_aload_n (pc := 39) X dX8_outlasts_39 rfl rfl ?_
            refine r_iload_n (pc := 40) X dX8_outlasts_40 rfl rfl ?_
            refine r_cP (pc := 41) hG (fun _ hg => runV X dX8_outlasts_41 (c_X8_seedsThatDiffer Hb0 hg) mM_X8_300 mI_X8_seedsThatDiffer mE_X8_seedsThatDiffer mN_X8 mK_X8_seedsThatDiffer (at_X8_o Hb0) rfl rfl rfl rfl hdd_X8_seedsThatDiffer ⟨(Nat.le_of_ble_eq_true rfl), (Nat.le_of_ble_eq_true rfl)⟩ rfl rfl (Nat.le_of_ble_eq_true rfl) ⟨(Nat.le_of_ble_eq_true rfl), (Nat.le_of_ble_eq_true rfl)⟩) (fun z8 hG => ?_)
            refine r_istore (pc := 44) (L' := [some (.ref (ad 0)), some (.int x1), some (.int x2), some (.int x3), some (.int x4), some (.int x5), some (.int z8), none, none]) X dX8_outlasts_44 (by decide) rfl rfl ?_
            refine r_iconst (pc := 46) X dX8_outlasts_46 hG rfl (fun z9 hG => ?_)
            refine r_istore (pc := 47) (L' := [some (.ref (ad 0)), some (.int x1), some (.int x2), some (.int x3), some (.int x4), some (.int x5), some (.int z8), some (.int z9), none]) X dX8_outlasts_47 (by decide) rfl rfl ?_
            refine r_iconst (pc := 49) X dX8_outlasts_49 hG rfl (fun z10 hG => ?_)
            refine r_istore (pc := 50) (L' := [some (.ref (ad 0)), some (.int x1), some (.int x2), some (.int x3), some (.int x4), some (.int x5), some (.int z8), some (.int z9), some (.int z10)]) X dX8_outlasts_50 (by decide) rfl rfl ?_
            refine r_join hG (fun a11 => ∀ (y13 : Int32) (h14 : Hp), a11 = (y13.toInt, h14) → Ev E ad shl p l e rm_X8_outlasts s m args below meth c 0 0 Q 9 h14 145 [none, none, none, none, none, some (.int x5), some (.int z8), some (.int y13), none] []) (fun a11 hG => ?_) (fun j12 Hj12 hG => ?_)
            · skip
              intro y13 h14 ha; have ha := ha.symm; subst ha
              refine r_iload (pc := 145) X dX8_outlasts_145 rfl ?_
              refine r_iload (pc := 147) X dX8_outlasts_147 rfl ?_
              refine r_cP (pc := 149) hG (fun _ hg => runS X dX8_outlasts_149 (c_X8_greatestDivisor  hg) mM_X8_306 mS_X8_greatestDivisor mN_X8 mK_X8_greatestDivisor rfl rfl hdd_X8_greatestDivisor ⟨(Nat.le_of_ble_eq_true rfl), (Nat.le_of_ble_eq_true rfl)⟩ rfl rfl (Nat.le_of_ble_eq_true rfl) ⟨(Nat.le_of_ble_eq_true rfl), (Nat.le_of_ble_eq_true rfl)⟩) (fun z15 hG => ?_)
              refine r_istore (pc := 152) (L' := [none, none, none, none, none, some (.int x5), some (.int z8), some (.int y13), some (.int z15)]) X dX8_outlasts_152 (by decide) rfl rfl ?_
              refine r_iload (pc := 154) X dX8_outlasts_154 rfl ?_
              refine r_join hG (fun a16 => ∀ (y18 : Int32), a16 = y18.toInt → Ev E ad shl p l e rm_X8_outlasts s m args below meth c 0 0 Q 9 h14 172 [none, none, none, none, none, none, none, none, none] [.int y18]) (fun a16 hG => ?_) (fun j17 Hj17 hG => ?_)
              · skip
                intro y18 ha; have ha := ha.symm; subst ha
                exact r_iretW (pc := 172) X dX8_outlasts_172 hQ hG
              refine r_if_eq (pc := 156) X dX8_outlasts_156 (tgt := 167) (by decide) hG (fun hG => ?_) (fun hG => ?_)
              · skip
                refine r_iload (pc := 167) X dX8_outlasts_167 rfl ?_
                refine r_iload (pc := 169) X dX8_outlasts_169 rfl ?_
                refine r_idiv (pc := 171) X dX8_outlasts_171 hG (fun z19 hG => ?_)
                exact r_mask [false, false, false, false, false, false, false, false, false] rfl (Hj17 _ hG z19 rfl)
              · skip
                refine r_iload (pc := 159) X dX8_outlasts_159 rfl ?_
                refine r_iload (pc := 161) X dX8_outlasts_161 rfl ?_
                refine r_idiv (pc := 163) X dX8_outlasts_163 hG (fun z20 hG => ?_)
                refine r_goto (pc := 164) X dX8_outlasts_164 (tgt := 172) (by decide) ?_
                exact r_mask [false, false, false, false, false, false, false, false, false] rfl (Hj17 _ hG z20 rfl)
            refine r_mask [true, true, true, false, true, true, true, true, true] rfl (r_loop (fun q21 => ∀ (y23 : Int32) (y24 : Int32) (h25 : Hp), q21 = (y23.toInt, y24.toInt, h25) → Ev E ad shl p l e rm_X8_outlasts s m args below meth c 0 0 Q 9 h25 52 [some (.ref (ad 0)), some (.int x1), some (.int x2), none, some (.int x4), some (.int x5), some (.int z8), some (.int y23), some (.int y24)] []) (fun l22 Hl22 q21 hG => ?_) FU _ hG z9 z10 h rfl)
            intro y23 y24 h25 ha; have ha := ha.symm; subst ha
            unfold g_X8_outlasts_l22 at hG
            refine r_iload (pc := 52) X dX8_outlasts_52 rfl ?_
            refine r_iload (pc := 54) X dX8_outlasts_54 rfl ?_
            refine r_icmp_gt (pc := 56) X dX8_outlasts_56 (tgt := 145) (by decide) hG (fun hG => ?_) (fun hG => ?_)
            · skip
              exact r_mask [false, false, false, false, false, true, true, true, false] rfl (Hj12 _ hG y23 h25 rfl)
            · skip
              refine r_aload_n (pc := 59) X dX8_outlasts_59 rfl rfl ?_
              refine r_getC (pc := 60) X (at_X8_o Hb0) rfl mU_X8 (k := 11) (by decide) (q := 46) rfl mF_X8_67 dX8_outlasts_60 ?_
              refine r_aload_n (pc := 63) X dX8_outlasts_63 rfl rfl ?_
              refine r_getC (pc := 64) X (at_X8_o Hb0) rfl mU_X8 (k := 7) (by decide) (q := 26) rfl mF_X8_45 dX8_outlasts_64 ?_
              refine r_iconst (pc := 67) X dX8_outlasts_67 hG rfl (fun z26 hG => ?_)
              refine r_iload (pc := 68) X dX8_outlasts_68 rfl ?_
              refine r_cV (pc := 70) hG (fun _ hg => runV X dX8_outlasts_70 (c_X6_start (at_X8_trial Hb0) (at_X8_now Hb0) hg) mM_X8_276 mI_X6_start mE_X6_start mN_X6 mK_X6_start (at_X6_o (at_X8_trial Hb0)) rfl rfl rfl rfl hdd_X6_start ⟨(Nat.le_of_ble_eq_true rfl), (Nat.le_of_ble_eq_true rfl)⟩ rfl rfl (Nat.le_of_ble_eq_true rfl) ⟨(Nat.le_of_ble_eq_true rfl), (Nat.le_of_ble_eq_true rfl)⟩) (fun h27 hG => ?_)
              refine r_aload_n (pc := 73) X dX8_outlasts_73 rfl rfl ?_
              refine r_getC (pc := 74) X (at_X8_o Hb0) rfl mU_X8 (k := 11) (by decide) (q := 46) rfl mF_X8_67 dX8_outlasts_74 ?_
              refine r_aload_n (pc := 77) X dX8_outlasts_77 rfl rfl ?_
              refine r_getR (pc := 78) X (at_X8_o Hb0) rfl mU_X8 (k := 1) (by decide) rfl mF_X8_19 dX8_outlasts_78 hG (fun q28 Hq28 hG => ?_)
              refine r_iload_n (pc := 81) X dX8_outlasts_81 rfl rfl ?_
              refine r_cV (pc := 82) hG (fun _ hg => runV X dX8_outlasts_82 (c_X6_watchFlag (at_X8_trial Hb0) (at_X8_beaches Hb0 _ Hq28) hg) mM_X8_280 mI_X6_watchFlag mE_X6_watchFlag mN_X6 mK_X6_watchFlag (at_X6_o (at_X8_trial Hb0)) rfl rfl rfl rfl hdd_X6_watchFlag ⟨(Nat.le_of_ble_eq_true rfl), (Nat.le_of_ble_eq_true rfl)⟩ rfl rfl (Nat.le_of_ble_eq_true rfl) ⟨(Nat.le_of_ble_eq_true rfl), (Nat.le_of_ble_eq_true rfl)⟩) (fun h29 hG => ?_)
              refine r_aload_n (pc := 85) X dX8_outlasts_85 rfl rfl ?_
              refine r_getC (pc := 86) X (at_X8_o Hb0) rfl mU_X8 (k := 11) (by decide) (q := 46) rfl mF_X8_67 dX8_outlasts_86 ?_
              refine r_aload_n (pc := 89) X dX8_outlasts_89 rfl rfl ?_
              refine r_getR (pc := 90) X (at_X8_o Hb0) rfl mU_X8 (k := 1) (by decide) rfl mF_X8_19 dX8_outlasts_90 hG (fun q30 Hq30 hG => ?_)
              refine r_iload_n (pc := 93) X dX8_outlasts_93 rfl rfl ?_
              refine r_cV (pc := 94) hG (fun _ hg => runV X dX8_outlasts_94 (c_X6_watchFlag (at_X8_trial Hb0) (at_X8_beaches Hb0 _ Hq30) hg) mM_X8_280 mI_X6_watchFlag mE_X6_watchFlag mN_X6 mK_X6_watchFlag (at_X6_o (at_X8_trial Hb0)) rfl rfl rfl rfl hdd_X6_watchFlag ⟨(Nat.le_of_ble_eq_true rfl), (Nat.le_of_ble_eq_true rfl)⟩ rfl rfl (Nat.le_of_ble_eq_true rfl) ⟨(Nat.le_of_ble_eq_true rfl), (Nat.le_of_ble_eq_true rfl)⟩) (fun h31 hG => ?_)
              refine r_aload_n (pc := 97) X dX8_outlasts_97 rfl rfl ?_
              refine r_getC (pc := 98) X (at_X8_o Hb0) rfl mU_X8 (k := 11) (by decide) (q := 46) rfl mF_X8_67 dX8_outlasts_98 ?_
              refine r_aload_n (pc := 101) X dX8_outlasts_101 rfl rfl ?_
              refine r_getR (pc := 102) X (at_X8_o Hb0) rfl mU_X8 (k := 1) (by decide) rfl mF_X8_19 dX8_outlasts_102 hG (fun q32 Hq32 hG => ?_)
              refine r_aload_n (pc := 105) X dX8_outlasts_105 rfl rfl ?_
              refine r_getR (pc := 106) X (at_X8_o Hb0) rfl mU_X8 (k := 3) (by decide) rfl mF_X8_29 dX8_outlasts_106 hG (fun q33 Hq33 hG => ?_)
              refine r_null (pc := 109) X dX8_outlasts_109 ?_
              refine r_iload (pc := 110) X dX8_outlasts_110 rfl ?_
              refine r_cV (pc := 112) hG (fun _ hg => runV X dX8_outlasts_112 (c_X6_run (at_X8_trial Hb0) (at_X8_beaches Hb0 _ Hq32) (at_X8_seas Hb0 _ Hq33) nullAt hg) mM_X8_284 mI_X6_run mE_X6_run mN_X6 mK_X6_run (at_X6_o (at_X8_trial Hb0)) rfl rfl rfl rfl hdd_X6_run ⟨(Nat.le_of_ble_eq_true rfl), (Nat.le_of_ble_eq_true rfl)⟩ rfl rfl (Nat.le_of_ble_eq_true rfl) ⟨(Nat.le_of_ble_eq_true rfl), (Nat.le_of_ble_eq_true rfl)⟩) (fun h34 hG => ?_)
              refine r_aload_n (pc := 115) X dX8_outlasts_115 rfl rfl ?_
              refine r_getC (pc := 116) X (at_X8_o Hb0) rfl mU_X8 (k := 11) (by decide) (q := 46) rfl mF_X8_67 dX8_outlasts_116 ?_
              refine r_getC (pc := 119) X (at_X6_o (at_X8_trial Hb0)) rfl mU_X6 (k := 1) (by decide) (q := 55) rfl mF_X8_288 dX8_outlasts_119 ?_
              refine r_iconst (pc := 122) X dX8_outlasts_122 hG rfl (fun z35 hG => ?_)
              refine r_iald (pc := 123) X (at_X6_lasts (at_X8_trial Hb0)) dX8_outlasts_123 hG (fun z36 hG => ?_)
              refine r_aload_n (pc := 124) X dX8_outlasts_124 rfl rfl ?_
              refine r_getC (pc := 125) X (at_X8_o Hb0) rfl mU_X8 (k := 11) (by decide) (q := 46) rfl mF_X8_67 dX8_outlasts_125 ?_
              refine r_getC (pc := 128) X (at_X6_o (at_X8_trial Hb0)) rfl mU_X6 (k := 1) (by decide) (q := 55) rfl mF_X8_288 dX8_outlasts_128 ?_
              refine r_iconst (pc := 131) X dX8_outlasts_131 hG rfl (fun z37 hG => ?_)
              refine r_iald (pc := 132) X (at_X6_lasts (at_X8_trial Hb0)) dX8_outlasts_132 hG (fun z38 hG => ?_)
              refine r_join hG (fun a39 => ∀ (y41 : Int32), a39 = y41.toInt → Ev E ad shl p l e rm_X8_outlasts s m args below meth c 0 0 Q 9 h34 139 [some (.ref (ad 0)), some (.int x1), some (.int x2), none, some (.int x4), some (.int x5), some (.int z8), some (.int y41), some (.int y24)] []) (fun a39 hG => ?_) (fun j40 Hj40 hG => ?_)
              · skip
                intro y41 ha; have ha := ha.symm; subst ha
                refine r_iinc (pc := 139) (L' := fun z42 => [some (.ref (ad 0)), some (.int x1), some (.int x2), none, some (.int x4), some (.int x5), some (.int z8), some (.int y41), some (.int z42)]) X dX8_outlasts_139 (by decide) rfl rfl (by decide) (fun _ => rfl) hG (fun z42 hG => ?_)
                refine r_goto (pc := 142) X dX8_outlasts_142 (tgt := 52) (by decide) ?_
                exact r_mask [true, true, true, false, true, true, true, true, true] rfl (Hl22 _ hG y41 z42 h34 rfl)
              refine r_icmp_le (pc := 133) X dX8_outlasts_133 (tgt := 139) (by decide) hG (fun hG => ?_) (fun hG => ?_)
              · skip
                exact r_mask [true, true, true, false, true, true, true, true, true] rfl (Hj40 _ hG y23 rfl)
              · skip
                refine r_iinc (pc := 136) (L' := fun z43 => [some (.ref (ad 0)), some (.int x1), some (.int x2), none, some (.int x4), some (.int x5), some (.int z8), some (.int z43), some (.int y24)]) X dX8_outlasts_136 (by decide) rfl rfl (by decide) (fun _ => rfl) hG (fun z43 hG => ?_)
                exact r_mask [true, true, true, false, true, true, true, true, true] rfl (Hj40 _ hG z43 rfl)
          · skip
            exact r_mask [false, false, false, false, false, false, false, false, false] rfl (Hj3 _ hG)
theorem c_X8_outlasts {x1 : Int32} {x2 : Int32} {x3 : Int32} {x4 : Int32} {x5 : Int32} {r : Int × Hp} (Hb0 : At_X8 shl) (hg : g_X8_outlasts x1.toInt x2.toInt x3.toInt x4.toInt x5.toInt h = some r) : Met l yX8_outlasts (wsM yX8_outlasts cX8_outlasts 9 (some .int)) rm_X8_outlasts (va_Pc [.ref (ad 0), .int x1, .int x2, .int x3, .int x4, .int x5] (World E ad shl h)) (QcI E ad shl r.1 r.2) 0 0 (bsA E) :=
  met_of (L0 := [some (.ref (ad 0)), some (.int x1), some (.int x2), some (.int x3), some (.int x4), some (.int x5), none, none, none]) rfl rfl rfl (Nat.le_of_ble_eq_true rfl) (fun _ _ _ _ _ _ _ X => w_X8_outlasts Hb0 X rfl hg)
abbrev rm_X8_worthOfPlan : Room := { frames := 6, cells := 0, slots := 0, locals := 149 }
theorem hdd_X8_worthOfPlan : yX8_worthOfPlan.cls = RX8 ∧ yX8_worthOfPlan.cls ≠ "java/lang/invoke/MethodHandle" ∧ yX8_worthOfPlan.cls ≠ "java/lang/invoke/VarHandle" ∧ (parseMethodDescriptor yX8_worthOfPlan.desc).map (fun d => d.parameters.length) = some 4 := ⟨rfl, by decide +kernel, by decide +kernel, by decide +kernel⟩
set_option maxRecDepth 100000 in
set_option maxHeartbeats 4000000 in
theorem w_X8_worthOfPlan {x1 : Int32} {x2 : Int32} {x3 : Int32} {x4 : Int32} {r : Int × Hp} (Hb0 : At_X8 shl) (X : Cx E p s m args meth c cX8_worthOfPlan RX8 5 (some .int)) (hQ : Q = MQ below (QcI E ad shl r.1 r.2) args s 0 0 (bsA E)) (hG : g_X8_worthOfPlan x1.toInt x2.toInt x3.toInt x4.toInt h = some r) : Ev E ad shl p l e rm_X8_worthOfPlan s m args below meth c 0 0 Q 5 h 0 [some (.ref (ad 0)), some (.int x1), some (.int x2), some (.int x3), some (.int x4)] [] := by
  unfold g_X8_worthOfPlan at hG
  refine r_aload_n (pc := 0) X dX8_worthOfPlan_0 rfl rfl ?_
  refine r_getC (pc := 1) X (at_X8_o Hb0) rfl mU_X8 (k := 11) (by decide) (q := 46) rfl mF_X8_67 dX8_worthOfPlan_1 ?_
  refine r_aload_n (pc := 4) X dX8_worthOfPlan_4 rfl rfl ?_
  refine r_getC (pc := 5) X (at_X8_o Hb0) rfl mU_X8 (k := 7) (by decide) (q := 26) rfl mF_X8_45 dX8_worthOfPlan_5 ?_
  refine r_iload_n (pc := 8) X dX8_worthOfPlan_8 rfl rfl ?_
  refine r_iload_n (pc := 9) X dX8_worthOfPlan_9 rfl rfl ?_
  refine r_cV (pc := 10) hG (fun _ hg => runV X dX8_worthOfPlan_10 (c_X6_start (at_X8_trial Hb0) (at_X8_now Hb0) hg) mM_X8_276 mI_X6_start mE_X6_start mN_X6 mK_X6_start (at_X6_o (at_X8_trial Hb0)) rfl rfl rfl rfl hdd_X6_start ⟨(Nat.le_of_ble_eq_true rfl), (Nat.le_of_ble_eq_true rfl)⟩ rfl rfl (Nat.le_of_ble_eq_true rfl) ⟨(Nat.le_of_ble_eq_true rfl), (Nat.le_of_ble_eq_true rfl)⟩) (fun h1 hG => ?_)
  refine r_iload_n (pc := 13) X dX8_worthOfPlan_13 rfl rfl ?_
  refine r_join hG (fun a2 => ∀ (h4 : Hp), a2 = h4 → Ev E ad shl p l e rm_X8_worthOfPlan s m args below meth c 0 0 Q 5 h4 29 [some (.ref (ad 0)), some (.int x1), some (.int x2), none, some (.int x4)] []) (fun a2 hG => ?_) (fun j3 Hj3 hG => ?_)
  · skip
    intro h4 ha; have ha := ha.symm; subst ha
    refine r_aload_n (pc := 29) X dX8_worthOfPlan_29 rfl rfl ?_
    refine r_getC (pc := 30) X (at_X8_o Hb0) rfl mU_X8 (k := 11) (by decide) (q := 46) rfl mF_X8_67 dX8_worthOfPlan_30 ?_
    refine r_aload_n (pc := 33) X dX8_worthOfPlan_33 rfl rfl ?_
    refine r_getR (pc := 34) X (at_X8_o Hb0) rfl mU_X8 (k := 1) (by decide) rfl mF_X8_19 dX8_worthOfPlan_34 hG (fun q5 Hq5 hG => ?_)
    refine r_aload_n (pc := 37) X dX8_worthOfPlan_37 rfl rfl ?_
    refine r_getR (pc := 38) X (at_X8_o Hb0) rfl mU_X8 (k := 3) (by decide) rfl mF_X8_29 dX8_worthOfPlan_38 hG (fun q6 Hq6 hG => ?_)
    refine r_aload_n (pc := 41) X dX8_worthOfPlan_41 rfl rfl ?_
    refine r_iload_n (pc := 42) X dX8_worthOfPlan_42 rfl rfl ?_
    refine r_cN (pc := 43) hG (fun _ hg => runV X dX8_worthOfPlan_43 (c_X8_planOrNull Hb0 hg) mM_X8_167 mI_X8_planOrNull mE_X8_planOrNull mN_X8 mK_X8_planOrNull (at_X8_o Hb0) rfl rfl rfl rfl hdd_X8_planOrNull ⟨(Nat.le_of_ble_eq_true rfl), (Nat.le_of_ble_eq_true rfl)⟩ rfl rfl (Nat.le_of_ble_eq_true rfl) ⟨(Nat.le_of_ble_eq_true rfl), (Nat.le_of_ble_eq_true rfl)⟩) (fun n7 Hn7 hG => ?_)
    refine r_iload (pc := 46) X dX8_worthOfPlan_46 rfl ?_
    refine r_cV (pc := 48) hG (fun _ hg => runV X dX8_worthOfPlan_48 (c_X6_run (at_X8_trial Hb0) (at_X8_beaches Hb0 _ Hq5) (at_X8_seas Hb0 _ Hq6) (planN Hb0 Hn7) hg) mM_X8_284 mI_X6_run mE_X6_run mN_X6 mK_X6_run (at_X6_o (at_X8_trial Hb0)) rfl rfl rfl rfl hdd_X6_run ⟨(Nat.le_of_ble_eq_true rfl), (Nat.le_of_ble_eq_true rfl)⟩ rfl rfl (Nat.le_of_ble_eq_true rfl) ⟨(Nat.le_of_ble_eq_true rfl), (Nat.le_of_ble_eq_true rfl)⟩) (fun h8 hG => ?_)
    refine r_iload_n (pc := 51) X dX8_worthOfPlan_51 rfl rfl ?_
    refine r_join hG (fun a9 => ∀ (y11 : Int32), a9 = y11.toInt → Ev E ad shl p l e rm_X8_worthOfPlan s m args below meth c 0 0 Q 5 h8 87 [none, none, none, none, none] [.int y11]) (fun a9 hG => ?_) (fun j10 Hj10 hG => ?_)
    · skip
      intro y11 ha; have ha := ha.symm; subst ha
      exact r_iretW (pc := 87) X dX8_worthOfPlan_87 hQ hG
    refine r_if_ne (pc := 52) X dX8_worthOfPlan_52 (tgt := 67) (by decide) hG (fun hG => ?_) (fun hG => ?_)
    · skip
      refine r_aload_n (pc := 67) X dX8_worthOfPlan_67 rfl rfl ?_
      refine r_getC (pc := 68) X (at_X8_o Hb0) rfl mU_X8 (k := 11) (by decide) (q := 46) rfl mF_X8_67 dX8_worthOfPlan_68 ?_
      refine r_getC (pc := 71) X (at_X6_o (at_X8_trial Hb0)) rfl mU_X6 (k := 0) (by decide) (q := 47) rfl mF_X8_330 dX8_worthOfPlan_71 ?_
      refine r_getC (pc := 74) X (at_X3_o (at_X6_shore (at_X8_trial Hb0))) rfl mU_X3 (k := 0) (by decide) (q := 48) rfl mF_X8_185 dX8_worthOfPlan_74 ?_
      refine r_aload_n (pc := 77) X dX8_worthOfPlan_77 rfl rfl ?_
      refine r_getR (pc := 78) X (at_X8_o Hb0) rfl mU_X8 (k := 1) (by decide) rfl mF_X8_19 dX8_worthOfPlan_78 hG (fun q12 Hq12 hG => ?_)
      refine r_getC (pc := 81) X (at_X0_o (at_X8_beaches Hb0 _ Hq12)) rfl mU_X0 (k := 3) (by decide) (q := (q12 + 4)) rfl mF_X8_207 dX8_worthOfPlan_81 ?_
      refine r_iconst (pc := 84) X dX8_worthOfPlan_84 hG rfl (fun z13 hG => ?_)
      refine r_iald (pc := 85) X (at_X0_flagCells (at_X8_beaches Hb0 _ Hq12)) dX8_worthOfPlan_85 hG (fun z14 hG => ?_)
      refine r_iald (pc := 86) X (at_X3_height (at_X6_shore (at_X8_trial Hb0))) dX8_worthOfPlan_86 hG (fun z15 hG => ?_)
      exact r_mask [false, false, false, false, false] rfl (Hj10 _ hG z15 rfl)
    · skip
      refine r_aload_n (pc := 55) X dX8_worthOfPlan_55 rfl rfl ?_
      refine r_getC (pc := 56) X (at_X8_o Hb0) rfl mU_X8 (k := 11) (by decide) (q := 46) rfl mF_X8_67 dX8_worthOfPlan_56 ?_
      refine r_getC (pc := 59) X (at_X6_o (at_X8_trial Hb0)) rfl mU_X6 (k := 1) (by decide) (q := 55) rfl mF_X8_288 dX8_worthOfPlan_59 ?_
      refine r_iconst (pc := 62) X dX8_worthOfPlan_62 hG rfl (fun z16 hG => ?_)
      refine r_iald (pc := 63) X (at_X6_lasts (at_X8_trial Hb0)) dX8_worthOfPlan_63 hG (fun z17 hG => ?_)
      refine r_goto (pc := 64) X dX8_worthOfPlan_64 (tgt := 87) (by decide) ?_
      exact r_mask [false, false, false, false, false] rfl (Hj10 _ hG z17 rfl)
  refine r_if_ne (pc := 14) X dX8_worthOfPlan_14 (tgt := 29) (by decide) hG (fun hG => ?_) (fun hG => ?_)
  · skip
    exact r_mask [true, true, true, false, true] rfl (Hj3 _ hG h1 rfl)
  · skip
    refine r_aload_n (pc := 17) X dX8_worthOfPlan_17 rfl rfl ?_
    refine r_getC (pc := 18) X (at_X8_o Hb0) rfl mU_X8 (k := 11) (by decide) (q := 46) rfl mF_X8_67 dX8_worthOfPlan_18 ?_
    refine r_aload_n (pc := 21) X dX8_worthOfPlan_21 rfl rfl ?_
    refine r_getR (pc := 22) X (at_X8_o Hb0) rfl mU_X8 (k := 1) (by decide) rfl mF_X8_19 dX8_worthOfPlan_22 hG (fun q18 Hq18 hG => ?_)
    refine r_iconst (pc := 25) X dX8_worthOfPlan_25 hG rfl (fun z19 hG => ?_)
    refine r_cV (pc := 26) hG (fun _ hg => runV X dX8_worthOfPlan_26 (c_X6_watchFlag (at_X8_trial Hb0) (at_X8_beaches Hb0 _ Hq18) hg) mM_X8_280 mI_X6_watchFlag mE_X6_watchFlag mN_X6 mK_X6_watchFlag (at_X6_o (at_X8_trial Hb0)) rfl rfl rfl rfl hdd_X6_watchFlag ⟨(Nat.le_of_ble_eq_true rfl), (Nat.le_of_ble_eq_true rfl)⟩ rfl rfl (Nat.le_of_ble_eq_true rfl) ⟨(Nat.le_of_ble_eq_true rfl), (Nat.le_of_ble_eq_true rfl)⟩) (fun h20 hG => ?_)
    exact r_mask [true, true, true, false, true] rfl (Hj3 _ hG h20 rfl)
theorem c_X8_worthOfPlan {x1 : Int32} {x2 : Int32} {x3 : Int32} {x4 : Int32} {r : Int × Hp} (Hb0 : At_X8 shl) (hg : g_X8_worthOfPlan x1.toInt x2.toInt x3.toInt x4.toInt h = some r) : Met l yX8_worthOfPlan (wsM yX8_worthOfPlan cX8_worthOfPlan 5 (some .int)) rm_X8_worthOfPlan (va_Pc [.ref (ad 0), .int x1, .int x2, .int x3, .int x4] (World E ad shl h)) (QcI E ad shl r.1 r.2) 0 0 (bsA E) :=
  met_of (L0 := [some (.ref (ad 0)), some (.int x1), some (.int x2), some (.int x3), some (.int x4)]) rfl rfl rfl (Nat.le_of_ble_eq_true rfl) (fun _ _ _ _ _ _ _ X => w_X8_worthOfPlan Hb0 X rfl hg)
abbrev rm_X8_contest : Room := { frames := 7, cells := 0, slots := 0, locals := 173 }
theorem hdd_X8_contest : yX8_contest.cls = RX8 ∧ yX8_contest.cls ≠ "java/lang/invoke/MethodHandle" ∧ yX8_contest.cls ≠ "java/lang/invoke/VarHandle" ∧ (parseMethodDescriptor yX8_contest.desc).map (fun d => d.parameters.length) = some 3 := ⟨rfl, by decide +kernel, by decide +kernel, by decide +kernel⟩
set_option maxRecDepth 100000 in
set_option maxHeartbeats 4000000 in
theorem w_X8_contest {x1 : Int32} {x2 : Int32} {x3 : Int32} {r : Int × Hp} (Hb0 : At_X8 shl) (X : Cx E p s m args meth c cX8_contest RX8 10 (some .int)) (hQ : Q = MQ below (QcI E ad shl r.1 r.2) args s 0 0 (bsA E)) (hG : g_X8_contest x1.toInt x2.toInt x3.toInt h = some r) : Ev E ad shl p l e rm_X8_contest s m args below meth c 0 0 Q 10 h 0 [some (.ref (ad 0)), some (.int x1), some (.int x2), some (.int x3), none, none, none, none, none, none] [] := by
  unfold g_X8_contest at hG
  refine r_iload_n (pc := 0) X dX8_contest_0 rfl rfl ?_
  refine r_join hG (fun _ => Ev E ad shl p l e rm_X8_contest s m args below meth c 0 0 Q 10 h 23 [none, none, none, none, none, none, none, none, none, none] []) (fun a1 hG => ?_) (fun j2 Hj2 hG => ?_)
  · skip
    refine r_bipush (pc := 23) X dX8_contest_23 hG (by decide) (fun z3 hG => ?_)
    exact r_iretW (pc := 25) X dX8_contest_25 hQ hG
  refine r_if_lt (pc := 1) X dX8_contest_1 (tgt := 23) (by decide) hG (fun hG => ?_) (fun hG => ?_)
  · skip
    exact r_mask [false, false, false, false, false, false, false, false, false, false] rfl (Hj2 _ hG)
  · skip
    refine r_iload_n (pc := 4) X dX8_contest_4 rfl rfl ?_
    refine r_iconst (pc := 5) X dX8_contest_5 hG rfl (fun z4 hG => ?_)
    refine r_icmp_gt (pc := 6) X dX8_contest_6 (tgt := 23) (by decide) hG (fun hG => ?_) (fun hG => ?_)
    · skip
      exact r_mask [false, false, false, false, false, false, false, false, false, false] rfl (Hj2 _ hG)
    · skip
      refine r_iload_n (pc := 9) X dX8_contest_9 rfl rfl ?_
      refine r_cP (pc := 10) hG (fun _ hg => runS X dX8_contest_10 (c_X8_isSeeds  hg) mM_X8_297 mS_X8_isSeeds mN_X8 mK_X8_isSeeds rfl rfl hdd_X8_isSeeds ⟨(Nat.le_of_ble_eq_true rfl), (Nat.le_of_ble_eq_true rfl)⟩ rfl rfl (Nat.le_of_ble_eq_true rfl) ⟨(Nat.le_of_ble_eq_true rfl), (Nat.le_of_ble_eq_true rfl)⟩) (fun z5 hG => ?_)
      refine r_if_eq (pc := 13) X dX8_contest_13 (tgt := 23) (by decide) hG (fun hG => ?_) (fun hG => ?_)
      · skip
        exact r_mask [false, false, false, false, false, false, false, false, false, false] rfl (Hj2 _ hG)
      · skip
        refine r_iload_n (pc := 16) X dX8_contest_16 rfl rfl ?_
        refine r_cP (pc := 17) hG (fun _ hg => runS X dX8_contest_17 (c_X8_isSpan  hg) mM_X8_273 mS_X8_isSpan mN_X8 mK_X8_isSpan rfl rfl hdd_X8_isSpan ⟨(Nat.le_of_ble_eq_true rfl), (Nat.le_of_ble_eq_true rfl)⟩ rfl rfl (Nat.le_of_ble_eq_true rfl) ⟨(Nat.le_of_ble_eq_true rfl), (Nat.le_of_ble_eq_true rfl)⟩) (fun z6 hG => ?_)
        refine r_if_ne (pc := 20) X dX8_contest_20 (tgt := 26) (by decide) hG (fun hG => ?_) (fun hG => ?_)
        · skip
          refine r_aload_n (pc := 26) X dX8_contest_26 rfl rfl ?_
          refine r_getR (pc := 27) X (at_X8_o Hb0) rfl mU_X8 (k := 1) (by decide) rfl mF_X8_19 dX8_contest_27 hG (fun q7 Hq7 hG => ?_)
          refine r_getI (pc := 30) X (at_X0_o (at_X8_beaches Hb0 _ Hq7)) rfl mU_X0 (k := 5) (by decide) rfl mF_X8_124 dX8_contest_30 hG (fun z8 hG => ?_)
          refine r_if_ne (pc := 33) X dX8_contest_33 (tgt := 39) (by decide) hG (fun hG => ?_) (fun hG => ?_)
          · skip
            refine r_aload_n (pc := 39) X dX8_contest_39 rfl rfl ?_
            refine r_iload_n (pc := 40) X dX8_contest_40 rfl rfl ?_
            refine r_cP (pc := 41) hG (fun _ hg => runV X dX8_contest_41 (c_X8_seedsThatDiffer Hb0 hg) mM_X8_300 mI_X8_seedsThatDiffer mE_X8_seedsThatDiffer mN_X8 mK_X8_seedsThatDiffer (at_X8_o Hb0) rfl rfl rfl rfl hdd_X8_seedsThatDiffer ⟨(Nat.le_of_ble_eq_true rfl), (Nat.le_of_ble_eq_true rfl)⟩ rfl rfl (Nat.le_of_ble_eq_true rfl) ⟨(Nat.le_of_ble_eq_true rfl), (Nat.le_of_ble_eq_true rfl)⟩) (fun z9 hG => ?_)
            refine r_istore (pc := 44) (L' := [some (.ref (ad 0)), some (.int x1), some (.int x2), some (.int x3), some (.int z9), none, none, none, none, none]) X dX8_contest_44 (by decide) rfl rfl ?_
            refine r_iconst (pc := 46) X dX8_contest_46 hG rfl (fun z10 hG => ?_)
            refine r_istore (pc := 47) (L' := [some (.ref (ad 0)), some (.int x1), some (.int x2), some (.int x3), some (.int z9), some (.int z10), none, none, none, none]) X dX8_contest_47 (by decide) rfl rfl ?_
            refine r_iconst (pc := 49) X dX8_contest_49 hG rfl (fun z11 hG => ?_)
            refine r_istore (pc := 50) (L' := [some (.ref (ad 0)), some (.int x1), some (.int x2), some (.int x3), some (.int z9), some (.int z10), some (.int z11), none, none, none]) X dX8_contest_50 (by decide) rfl rfl ?_
            refine r_iconst (pc := 52) X dX8_contest_52 hG rfl (fun z12 hG => ?_)
            refine r_istore (pc := 53) (L' := [some (.ref (ad 0)), some (.int x1), some (.int x2), some (.int x3), some (.int z9), some (.int z10), some (.int z11), some (.int z12), none, none]) X dX8_contest_53 (by decide) rfl rfl ?_
            refine r_mask [true, true, false, true, true, true, true, true, false, false] rfl (r_loop (fun q13 => ∀ (y15 : Int32) (y16 : Int32) (y17 : Int32) (h18 : Hp), q13 = (y15.toInt, y16.toInt, y17.toInt, h18) → Ev E ad shl p l e rm_X8_contest s m args below meth c 0 0 Q 10 h18 55 [some (.ref (ad 0)), some (.int x1), none, some (.int x3), some (.int z9), some (.int y15), some (.int y16), some (.int y17), none, none] []) (fun l14 Hl14 q13 hG => ?_) FU _ hG z10 z11 z12 h rfl)
            intro y15 y16 y17 h18 ha; have ha := ha.symm; subst ha
            unfold g_X8_contest_l14 at hG
            refine r_iload (pc := 55) X dX8_contest_55 rfl ?_
            refine r_aload_n (pc := 57) X dX8_contest_57 rfl rfl ?_
            refine r_getI (pc := 58) X (at_X8_o Hb0) rfl mU_X8 (k := 6) (by decide) rfl mF_X8_102 dX8_contest_58 hG (fun z19 hG => ?_)
            refine r_icmp_ge (pc := 61) X dX8_contest_61 (tgt := 119) (by decide) hG (fun hG => ?_) (fun hG => ?_)
            · skip
              refine r_iload (pc := 119) X dX8_contest_119 rfl ?_
              exact r_iretW (pc := 121) X dX8_contest_121 hQ hG
            · skip
              refine r_iconst (pc := 64) X dX8_contest_64 hG rfl (fun z20 hG => ?_)
              refine r_istore (pc := 65) (L' := [some (.ref (ad 0)), some (.int x1), none, some (.int x3), some (.int z9), some (.int y15), some (.int y16), some (.int y17), some (.int z20), none]) X dX8_contest_65 (by decide) rfl rfl ?_
              refine r_iconst (pc := 67) X dX8_contest_67 hG rfl (fun z21 hG => ?_)
              refine r_istore (pc := 68) (L' := [some (.ref (ad 0)), some (.int x1), none, some (.int x3), some (.int z9), some (.int y15), some (.int y16), some (.int y17), some (.int z20), some (.int z21)]) X dX8_contest_68 (by decide) rfl rfl ?_
              refine r_join hG (fun a22 => ∀ (y24 : Int32) (h25 : Hp), a22 = (y24.toInt, h25) → Ev E ad shl p l e rm_X8_contest s m args below meth c 0 0 Q 10 h25 98 [some (.ref (ad 0)), some (.int x1), none, some (.int x3), some (.int z9), some (.int y15), some (.int y16), some (.int y17), some (.int y24), none] []) (fun a22 hG => ?_) (fun j23 Hj23 hG => ?_)
              · skip
                intro y24 h25 ha; have ha := ha.symm; subst ha
                refine r_iload (pc := 98) X dX8_contest_98 rfl ?_
                refine r_iload (pc := 100) X dX8_contest_100 rfl ?_
                refine r_join hG (fun a26 => ∀ (y28 : Int32) (y29 : Int32), a26 = (y28.toInt, y29.toInt) → Ev E ad shl p l e rm_X8_contest s m args below meth c 0 0 Q 10 h25 113 [some (.ref (ad 0)), some (.int x1), none, some (.int x3), some (.int z9), some (.int y28), some (.int y29), some (.int y17), none, none] []) (fun a26 hG => ?_) (fun j27 Hj27 hG => ?_)
                · skip
                  intro y28 y29 ha; have ha := ha.symm; subst ha
                  refine r_iinc (pc := 113) (L' := fun z30 => [some (.ref (ad 0)), some (.int x1), none, some (.int x3), some (.int z9), some (.int y28), some (.int y29), some (.int z30), none, none]) X dX8_contest_113 (by decide) rfl rfl (by decide) (fun _ => rfl) hG (fun z30 hG => ?_)
                  refine r_goto (pc := 116) X dX8_contest_116 (tgt := 55) (by decide) ?_
                  exact r_mask [true, true, false, true, true, true, true, true, false, false] rfl (Hl14 _ hG y28 y29 z30 h25 rfl)
                refine r_icmp_le (pc := 102) X dX8_contest_102 (tgt := 113) (by decide) hG (fun hG => ?_) (fun hG => ?_)
                · skip
                  exact r_mask [true, true, false, true, true, true, true, true, false, false] rfl (Hj27 _ hG y15 y16 rfl)
                · skip
                  refine r_iload (pc := 105) X dX8_contest_105 rfl ?_
                  refine r_istore (pc := 107) (L' := [some (.ref (ad 0)), some (.int x1), none, some (.int x3), some (.int z9), some (.int y15), some (.int y24), some (.int y17), some (.int y24), none]) X dX8_contest_107 (by decide) rfl rfl ?_
                  refine r_iload (pc := 109) X dX8_contest_109 rfl ?_
                  refine r_istore (pc := 111) (L' := [some (.ref (ad 0)), some (.int x1), none, some (.int x3), some (.int z9), some (.int y17), some (.int y24), some (.int y17), some (.int y24), none]) X dX8_contest_111 (by decide) rfl rfl ?_
                  exact r_mask [true, true, false, true, true, true, true, true, false, false] rfl (Hj27 _ hG y17 y24 rfl)
              refine r_mask [true, true, false, true, true, true, true, true, true, true] rfl (r_loop (fun q31 => ∀ (y33 : Int32) (y34 : Int32) (h35 : Hp), q31 = (y33.toInt, y34.toInt, h35) → Ev E ad shl p l e rm_X8_contest s m args below meth c 0 0 Q 10 h35 70 [some (.ref (ad 0)), some (.int x1), none, some (.int x3), some (.int z9), some (.int y15), some (.int y16), some (.int y17), some (.int y33), some (.int y34)] []) (fun l32 Hl32 q31 hG => ?_) FU _ hG z20 z21 h18 rfl)
              intro y33 y34 h35 ha; have ha := ha.symm; subst ha
              unfold g_X8_contest_l32 at hG
              refine r_iload (pc := 70) X dX8_contest_70 rfl ?_
              refine r_iload (pc := 72) X dX8_contest_72 rfl ?_
              refine r_icmp_gt (pc := 74) X dX8_contest_74 (tgt := 98) (by decide) hG (fun hG => ?_) (fun hG => ?_)
              · skip
                exact r_mask [true, true, false, true, true, true, true, true, true, false] rfl (Hj23 _ hG y33 h35 rfl)
              · skip
                refine r_iload (pc := 77) X dX8_contest_77 rfl ?_
                refine r_aload_n (pc := 79) X dX8_contest_79 rfl rfl ?_
                refine r_iload (pc := 80) X dX8_contest_80 rfl ?_
                refine r_iload_n (pc := 82) X dX8_contest_82 rfl rfl ?_
                refine r_iload (pc := 83) X dX8_contest_83 rfl ?_
                refine r_iload_n (pc := 85) X dX8_contest_85 rfl rfl ?_
                refine r_cW (pc := 86) hG (fun _ hg => runV X dX8_contest_86 (c_X8_worthOfPlan Hb0 hg) mM_X8_309 mI_X8_worthOfPlan mE_X8_worthOfPlan mN_X8 mK_X8_worthOfPlan (at_X8_o Hb0) rfl rfl rfl rfl hdd_X8_worthOfPlan ⟨(Nat.le_of_ble_eq_true rfl), (Nat.le_of_ble_eq_true rfl)⟩ rfl rfl (Nat.le_of_ble_eq_true rfl) ⟨(Nat.le_of_ble_eq_true rfl), (Nat.le_of_ble_eq_true rfl)⟩) (fun z36 h37 hG => ?_)
                refine r_iadd (pc := 89) X dX8_contest_89 hG (fun z38 hG => ?_)
                refine r_istore (pc := 90) (L' := [some (.ref (ad 0)), some (.int x1), none, some (.int x3), some (.int z9), some (.int y15), some (.int y16), some (.int y17), some (.int z38), some (.int y34)]) X dX8_contest_90 (by decide) rfl rfl ?_
                refine r_iinc (pc := 92) (L' := fun z39 => [some (.ref (ad 0)), some (.int x1), none, some (.int x3), some (.int z9), some (.int y15), some (.int y16), some (.int y17), some (.int z38), some (.int z39)]) X dX8_contest_92 (by decide) rfl rfl (by decide) (fun _ => rfl) hG (fun z39 hG => ?_)
                refine r_goto (pc := 95) X dX8_contest_95 (tgt := 70) (by decide) ?_
                exact r_mask [true, true, false, true, true, true, true, true, true, true] rfl (Hl32 _ hG z38 z39 h37 rfl)
          · skip
            refine r_bipush (pc := 36) X dX8_contest_36 hG (by decide) (fun z40 hG => ?_)
            exact r_iretW (pc := 38) X dX8_contest_38 hQ hG
        · skip
          exact r_mask [false, false, false, false, false, false, false, false, false, false] rfl (Hj2 _ hG)
theorem c_X8_contest {x1 : Int32} {x2 : Int32} {x3 : Int32} {r : Int × Hp} (Hb0 : At_X8 shl) (hg : g_X8_contest x1.toInt x2.toInt x3.toInt h = some r) : Met l yX8_contest (wsM yX8_contest cX8_contest 10 (some .int)) rm_X8_contest (va_Pc [.ref (ad 0), .int x1, .int x2, .int x3] (World E ad shl h)) (QcI E ad shl r.1 r.2) 0 0 (bsA E) :=
  met_of (L0 := [some (.ref (ad 0)), some (.int x1), some (.int x2), some (.int x3), none, none, none, none, none, none]) rfl rfl rfl (Nat.le_of_ble_eq_true rfl) (fun _ _ _ _ _ _ _ X => w_X8_contest Hb0 X rfl hg)
abbrev rm_X5_isHeights : Room := { frames := 0, cells := 0, slots := 0, locals := 0 }
theorem hdd_X5_isHeights : yX5_isHeights.cls = RX5 ∧ yX5_isHeights.cls ≠ "java/lang/invoke/MethodHandle" ∧ yX5_isHeights.cls ≠ "java/lang/invoke/VarHandle" ∧ (parseMethodDescriptor yX5_isHeights.desc).map (fun d => d.parameters.length) = some 1 := ⟨rfl, by decide +kernel, by decide +kernel, by decide +kernel⟩
set_option maxRecDepth 100000 in
set_option maxHeartbeats 4000000 in
theorem w_X5_isHeights {b0 : Nat} {x1 : Int32} {r : Int} (Hb0 : At_X5 shl b0) (X : Cx E p s m args meth c cX5_isHeights RX5 3 (some .boolean)) (hQ : Q = MQ below (QcI E ad shl r h) args s 0 0 (bsA E)) (hG : g_X5_isHeights b0 x1.toInt h = some r) : Ev E ad shl p l e rm_X5_isHeights s m args below meth c 0 0 Q 3 h 0 [some (.ref (ad b0)), some (.int x1), none] [] := by
  unfold g_X5_isHeights at hG
  refine r_aload_n (pc := 0) X dX5_isHeights_0 rfl rfl ?_
  refine r_getI (pc := 1) X (at_X5_o Hb0) rfl mU_X5 (k := 1) (by decide) rfl mF_X5_19 dX5_isHeights_1 hG (fun z1 hG => ?_)
  refine r_iload_n (pc := 4) X dX5_isHeights_4 rfl rfl ?_
  refine r_icmp_eq (pc := 5) X dX5_isHeights_5 (tgt := 10) (by decide) hG (fun hG => ?_) (fun hG => ?_)
  · skip
    refine r_iconst (pc := 10) X dX5_isHeights_10 hG rfl (fun z2 hG => ?_)
    refine r_istore_n (pc := 11) (L' := [some (.ref (ad b0)), some (.int x1), some (.int z2)]) X dX5_isHeights_11 rfl (by decide) rfl rfl ?_
    refine r_join hG (fun _ => Ev E ad shl p l e rm_X5_isHeights s m args below meth c 0 0 Q 3 h 42 [none, none, none] []) (fun a3 hG => ?_) (fun j4 Hj4 hG => ?_)
    · skip
      refine r_iconst (pc := 42) X dX5_isHeights_42 hG rfl (fun z5 hG => ?_)
      exact r_zretP (pc := 43) X dX5_isHeights_43 hQ hG
    refine r_mask [true, false, true] rfl (r_loop (fun q6 => ∀ (y8 : Int32), q6 = y8.toInt → Ev E ad shl p l e rm_X5_isHeights s m args below meth c 0 0 Q 3 h 12 [some (.ref (ad b0)), none, some (.int y8)] []) (fun l7 Hl7 q6 hG => ?_) FU _ hG z2 rfl)
    intro y8 ha; have ha := ha.symm; subst ha
    unfold g_X5_isHeights_l7 at hG
    refine r_iload_n (pc := 12) X dX5_isHeights_12 rfl rfl ?_
    refine r_aload_n (pc := 13) X dX5_isHeights_13 rfl rfl ?_
    refine r_getI (pc := 14) X (at_X5_o Hb0) rfl mU_X5 (k := 1) (by decide) rfl mF_X5_19 dX5_isHeights_14 hG (fun z9 hG => ?_)
    refine r_icmp_ge (pc := 17) X dX5_isHeights_17 (tgt := 50) (by decide) hG (fun hG => ?_) (fun hG => ?_)
    · skip
      refine r_iconst (pc := 50) X dX5_isHeights_50 hG rfl (fun z10 hG => ?_)
      exact r_zretP (pc := 51) X dX5_isHeights_51 hQ hG
    · skip
      refine r_aload_n (pc := 20) X dX5_isHeights_20 rfl rfl ?_
      refine r_getC (pc := 21) X (at_X5_o Hb0) rfl mU_X5 (k := 0) (by decide) (q := (b0 + 1)) rfl mF_X5_11 dX5_isHeights_21 ?_
      refine r_iload_n (pc := 24) X dX5_isHeights_24 rfl rfl ?_
      refine r_iald (pc := 25) X (at_X5_bytes Hb0) dX5_isHeights_25 hG (fun z11 hG => ?_)
      refine r_bipush (pc := 26) X dX5_isHeights_26 hG (by decide) (fun z12 hG => ?_)
      refine r_icmp_lt (pc := 28) X dX5_isHeights_28 (tgt := 42) (by decide) hG (fun hG => ?_) (fun hG => ?_)
      · skip
        exact r_mask [false, false, false] rfl (Hj4 _ hG)
      · skip
        refine r_aload_n (pc := 31) X dX5_isHeights_31 rfl rfl ?_
        refine r_getC (pc := 32) X (at_X5_o Hb0) rfl mU_X5 (k := 0) (by decide) (q := (b0 + 1)) rfl mF_X5_11 dX5_isHeights_32 ?_
        refine r_iload_n (pc := 35) X dX5_isHeights_35 rfl rfl ?_
        refine r_iald (pc := 36) X (at_X5_bytes Hb0) dX5_isHeights_36 hG (fun z13 hG => ?_)
        refine r_bipush (pc := 37) X dX5_isHeights_37 hG (by decide) (fun z14 hG => ?_)
        refine r_icmp_le (pc := 39) X dX5_isHeights_39 (tgt := 44) (by decide) hG (fun hG => ?_) (fun hG => ?_)
        · skip
          refine r_iinc (pc := 44) (L' := fun z15 => [some (.ref (ad b0)), none, some (.int z15)]) X dX5_isHeights_44 (by decide) rfl rfl (by decide) (fun _ => rfl) hG (fun z15 hG => ?_)
          refine r_goto (pc := 47) X dX5_isHeights_47 (tgt := 12) (by decide) ?_
          exact r_mask [true, false, true] rfl (Hl7 _ hG z15 rfl)
        · skip
          exact r_mask [false, false, false] rfl (Hj4 _ hG)
  · skip
    refine r_iconst (pc := 8) X dX5_isHeights_8 hG rfl (fun z16 hG => ?_)
    exact r_zretP (pc := 9) X dX5_isHeights_9 hQ hG
theorem c_X5_isHeights {b0 : Nat} {x1 : Int32} {r : Int} (Hb0 : At_X5 shl b0) (hg : g_X5_isHeights b0 x1.toInt h = some r) : Met l yX5_isHeights (wsM yX5_isHeights cX5_isHeights 3 (some .boolean)) rm_X5_isHeights (va_Pc [.ref (ad b0), .int x1] (World E ad shl h)) (QcI E ad shl r h) 0 0 (bsA E) :=
  met_of (L0 := [some (.ref (ad b0)), some (.int x1), none]) rfl rfl rfl (Nat.le_of_ble_eq_true rfl) (fun _ _ _ _ _ _ _ X => w_X5_isHeights Hb0 X rfl hg)
abbrev rm_X5_areHeights : Room := { frames := 0, cells := 0, slots := 0, locals := 0 }
theorem hdd_X5_areHeights : yX5_areHeights.cls = RX5 ∧ yX5_areHeights.cls ≠ "java/lang/invoke/MethodHandle" ∧ yX5_areHeights.cls ≠ "java/lang/invoke/VarHandle" ∧ (parseMethodDescriptor yX5_areHeights.desc).map (fun d => d.parameters.length) = some 2 := ⟨rfl, by decide +kernel, by decide +kernel, by decide +kernel⟩
set_option maxRecDepth 100000 in
set_option maxHeartbeats 4000000 in
theorem w_X5_areHeights {b0 : Nat} {b1 : Nat} {x2 : Int32} {r : Int} (Hb0 : At_X5 shl b0) (Hb1 : shl[b1]? = some (.inr (0, 64, []))) (X : Cx E p s m args meth c cX5_areHeights RX5 4 (some .boolean)) (hQ : Q = MQ below (QcI E ad shl r h) args s 0 0 (bsA E)) (hG : g_X5_areHeights b0 b1 x2.toInt h = some r) : Ev E ad shl p l e rm_X5_areHeights s m args below meth c 0 0 Q 4 h 0 [some (.ref (ad b0)), some (.ref (ad b1)), some (.int x2), none] [] := by
  unfold g_X5_areHeights at hG
  refine r_iconst (pc := 0) X dX5_areHeights_0 hG rfl (fun z1 hG => ?_)
  refine r_istore_n (pc := 1) (L' := [some (.ref (ad b0)), some (.ref (ad b1)), some (.int x2), some (.int z1)]) X dX5_areHeights_1 rfl (by decide) rfl rfl ?_
  refine r_join hG (fun _ => Ev E ad shl p l e rm_X5_areHeights s m args below meth c 0 0 Q 4 h 36 [none, none, none, none] []) (fun a2 hG => ?_) (fun j3 Hj3 hG => ?_)
  · skip
    refine r_iconst (pc := 36) X dX5_areHeights_36 hG rfl (fun z4 hG => ?_)
    exact r_zretP (pc := 37) X dX5_areHeights_37 hQ hG
  refine r_mask [true, true, true, true] rfl (r_loop (fun q5 => ∀ (y7 : Int32), q5 = y7.toInt → Ev E ad shl p l e rm_X5_areHeights s m args below meth c 0 0 Q 4 h 2 [some (.ref (ad b0)), some (.ref (ad b1)), some (.int x2), some (.int y7)] []) (fun l6 Hl6 q5 hG => ?_) FU _ hG z1 rfl)
  intro y7 ha; have ha := ha.symm; subst ha
  unfold g_X5_areHeights_l6 at hG
  refine r_iload_n (pc := 2) X dX5_areHeights_2 rfl rfl ?_
  refine r_iload_n (pc := 3) X dX5_areHeights_3 rfl rfl ?_
  refine r_icmp_ge (pc := 4) X dX5_areHeights_4 (tgt := 36) (by decide) hG (fun hG => ?_) (fun hG => ?_)
  · skip
    exact r_mask [false, false, false, false] rfl (Hj3 _ hG)
  · skip
    refine r_iload_n (pc := 7) X dX5_areHeights_7 rfl rfl ?_
    refine r_aload_n (pc := 8) X dX5_areHeights_8 rfl rfl ?_
    refine r_alen (pc := 9) X Hb1 (by decide) dX5_areHeights_9 (by decide) hG (fun z8 hG => ?_)
    refine r_icmp_ge (pc := 10) X dX5_areHeights_10 (tgt := 36) (by decide) hG (fun hG => ?_) (fun hG => ?_)
    · skip
      exact r_mask [false, false, false, false] rfl (Hj3 _ hG)
    · skip
      refine r_aload_n (pc := 13) X dX5_areHeights_13 rfl rfl ?_
      refine r_iload_n (pc := 14) X dX5_areHeights_14 rfl rfl ?_
      refine r_iald (pc := 15) X Hb1 dX5_areHeights_15 hG (fun z9 hG => ?_)
      refine r_aload_n (pc := 16) X dX5_areHeights_16 rfl rfl ?_
      refine r_getC (pc := 17) X (at_X5_o Hb0) rfl mU_X5 (k := 0) (by decide) (q := (b0 + 1)) rfl mF_X5_11 dX5_areHeights_17 ?_
      refine r_iload_n (pc := 20) X dX5_areHeights_20 rfl rfl ?_
      refine r_iald (pc := 21) X (at_X5_bytes Hb0) dX5_areHeights_21 hG (fun z10 hG => ?_)
      refine r_bipush (pc := 22) X dX5_areHeights_22 hG (by decide) (fun z11 hG => ?_)
      refine r_isub (pc := 24) X dX5_areHeights_24 hG (fun z12 hG => ?_)
      refine r_icmp_eq (pc := 25) X dX5_areHeights_25 (tgt := 30) (by decide) hG (fun hG => ?_) (fun hG => ?_)
      · skip
        refine r_iinc (pc := 30) (L' := fun z13 => [some (.ref (ad b0)), some (.ref (ad b1)), some (.int x2), some (.int z13)]) X dX5_areHeights_30 (by decide) rfl rfl (by decide) (fun _ => rfl) hG (fun z13 hG => ?_)
        refine r_goto (pc := 33) X dX5_areHeights_33 (tgt := 2) (by decide) ?_
        exact r_mask [true, true, true, true] rfl (Hl6 _ hG z13 rfl)
      · skip
        refine r_iconst (pc := 28) X dX5_areHeights_28 hG rfl (fun z14 hG => ?_)
        exact r_zretP (pc := 29) X dX5_areHeights_29 hQ hG
theorem c_X5_areHeights {b0 : Nat} {b1 : Nat} {x2 : Int32} {r : Int} (Hb0 : At_X5 shl b0) (Hb1 : shl[b1]? = some (.inr (0, 64, []))) (hg : g_X5_areHeights b0 b1 x2.toInt h = some r) : Met l yX5_areHeights (wsM yX5_areHeights cX5_areHeights 4 (some .boolean)) rm_X5_areHeights (va_Pc [.ref (ad b0), .ref (ad b1), .int x2] (World E ad shl h)) (QcI E ad shl r h) 0 0 (bsA E) :=
  met_of (L0 := [some (.ref (ad b0)), some (.ref (ad b1)), some (.int x2), none]) rfl rfl rfl (Nat.le_of_ble_eq_true rfl) (fun _ _ _ _ _ _ _ X => w_X5_areHeights Hb0 Hb1 X rfl hg)
abbrev rm_X8_wavesThatFit : Room := { frames := 4, cells := 0, slots := 0, locals := 99 }
theorem hdd_X8_wavesThatFit : yX8_wavesThatFit.cls = RX8 ∧ yX8_wavesThatFit.cls ≠ "java/lang/invoke/MethodHandle" ∧ yX8_wavesThatFit.cls ≠ "java/lang/invoke/VarHandle" ∧ (parseMethodDescriptor yX8_wavesThatFit.desc).map (fun d => d.parameters.length) = some 0 := ⟨rfl, by decide +kernel, by decide +kernel, by decide +kernel⟩
set_option maxRecDepth 100000 in
set_option maxHeartbeats 4000000 in
theorem w_X8_wavesThatFit  {r : Int × Hp} (Hb0 : At_X8 shl) (X : Cx E p s m args meth c cX8_wavesThatFit RX8 4 (some .int)) (hQ : Q = MQ below (QcI E ad shl r.1 r.2) args s 0 0 (bsA E)) (hG : g_X8_wavesThatFit h = some r) : Ev E ad shl p l e rm_X8_wavesThatFit s m args below meth c 0 0 Q 4 h 0 [some (.ref (ad 0)), none, none, none] [] := by
  unfold g_X8_wavesThatFit at hG
  refine r_iconst (pc := 0) X dX8_wavesThatFit_0 hG rfl (fun z1 hG => ?_)
  refine r_istore_n (pc := 1) (L' := [some (.ref (ad 0)), some (.int z1), none, none]) X dX8_wavesThatFit_1 rfl (by decide) rfl rfl ?_
  refine r_aload_n (pc := 2) X dX8_wavesThatFit_2 rfl rfl ?_
  refine r_getC (pc := 3) X (at_X8_o Hb0) rfl mU_X8 (k := 11) (by decide) (q := 46) rfl mF_X8_67 dX8_wavesThatFit_3 ?_
  refine r_getC (pc := 6) X (at_X6_o (at_X8_trial Hb0)) rfl mU_X6 (k := 0) (by decide) (q := 47) rfl mF_X8_330 dX8_wavesThatFit_6 ?_
  refine r_astore_n (pc := 9) (L' := [some (.ref (ad 0)), some (.int z1), some (.ref (ad 47)), none]) X dX8_wavesThatFit_9 rfl (by decide) rfl rfl ?_
  refine r_iconst (pc := 10) X dX8_wavesThatFit_10 hG rfl (fun z2 hG => ?_)
  refine r_istore_n (pc := 11) (L' := [some (.ref (ad 0)), some (.int z1), some (.ref (ad 47)), some (.int z2)]) X dX8_wavesThatFit_11 rfl (by decide) rfl rfl ?_
  refine r_mask [true, true, true, true] rfl (r_loop (fun q3 => ∀ (y5 : Int32) (y6 : Int32) (h7 : Hp), q3 = (y5.toInt, y6.toInt, h7) → Ev E ad shl p l e rm_X8_wavesThatFit s m args below meth c 0 0 Q 4 h7 12 [some (.ref (ad 0)), some (.int y5), some (.ref (ad 47)), some (.int y6)] []) (fun l4 Hl4 q3 hG => ?_) FU _ hG z1 z2 h rfl)
  intro y5 y6 h7 ha; have ha := ha.symm; subst ha
  unfold g_X8_wavesThatFit_l4 at hG
  refine r_iload_n (pc := 12) X dX8_wavesThatFit_12 rfl rfl ?_
  refine r_aload_n (pc := 13) X dX8_wavesThatFit_13 rfl rfl ?_
  refine r_getR (pc := 14) X (at_X8_o Hb0) rfl mU_X8 (k := 3) (by decide) rfl mF_X8_29 dX8_wavesThatFit_14 hG (fun q8 Hq8 hG => ?_)
  refine r_getI (pc := 17) X (at_X2_o (at_X8_seas Hb0 _ Hq8)) rfl mU_X2 (k := 4) (by decide) rfl mF_X8_127 dX8_wavesThatFit_17 hG (fun z9 hG => ?_)
  refine r_icmp_ge (pc := 20) X dX8_wavesThatFit_20 (tgt := 105) (by decide) hG (fun hG => ?_) (fun hG => ?_)
  · skip
    refine r_iload_n (pc := 105) X dX8_wavesThatFit_105 rfl rfl ?_
    exact r_iretW (pc := 106) X dX8_wavesThatFit_106 hQ hG
  · skip
    refine r_aload_n (pc := 23) X dX8_wavesThatFit_23 rfl rfl ?_
    refine r_aload_n (pc := 24) X dX8_wavesThatFit_24 rfl rfl ?_
    refine r_getC (pc := 25) X (at_X8_o Hb0) rfl mU_X8 (k := 7) (by decide) (q := 26) rfl mF_X8_45 dX8_wavesThatFit_25 ?_
    refine r_cV (pc := 28) hG (fun _ hg => runV X dX8_wavesThatFit_28 (c_X3_copyFrom (at_X6_shore (at_X8_trial Hb0)) (at_X8_now Hb0) hg) mM_X8_234 mI_X3_copyFrom mE_X3_copyFrom mN_X3 mK_X3_copyFrom (at_X3_o (at_X6_shore (at_X8_trial Hb0))) rfl rfl rfl rfl hdd_X3_copyFrom ⟨(Nat.le_of_ble_eq_true rfl), (Nat.le_of_ble_eq_true rfl)⟩ rfl rfl (Nat.le_of_ble_eq_true rfl) ⟨(Nat.le_of_ble_eq_true rfl), (Nat.le_of_ble_eq_true rfl)⟩) (fun h10 hG => ?_)
    refine r_aload_n (pc := 31) X dX8_wavesThatFit_31 rfl rfl ?_
    refine r_aload_n (pc := 32) X dX8_wavesThatFit_32 rfl rfl ?_
    refine r_getR (pc := 33) X (at_X8_o Hb0) rfl mU_X8 (k := 1) (by decide) rfl mF_X8_19 dX8_wavesThatFit_33 hG (fun q11 Hq11 hG => ?_)
    refine r_aload_n (pc := 36) X dX8_wavesThatFit_36 rfl rfl ?_
    refine r_getR (pc := 37) X (at_X8_o Hb0) rfl mU_X8 (k := 3) (by decide) rfl mF_X8_29 dX8_wavesThatFit_37 hG (fun q12 Hq12 hG => ?_)
    refine r_getC (pc := 40) X (at_X2_o (at_X8_seas Hb0 _ Hq12)) rfl mU_X2 (k := 2) (by decide) (q := (q12 + 3)) rfl mF_X8_136 dX8_wavesThatFit_40 ?_
    refine r_iload_n (pc := 43) X dX8_wavesThatFit_43 rfl rfl ?_
    refine r_iald (pc := 44) X (at_X2_reaches (at_X8_seas Hb0 _ Hq12)) dX8_wavesThatFit_44 hG (fun z13 hG => ?_)
    refine r_aload_n (pc := 45) X dX8_wavesThatFit_45 rfl rfl ?_
    refine r_getR (pc := 46) X (at_X8_o Hb0) rfl mU_X8 (k := 3) (by decide) rfl mF_X8_29 dX8_wavesThatFit_46 hG (fun q14 Hq14 hG => ?_)
    refine r_getC (pc := 49) X (at_X2_o (at_X8_seas Hb0 _ Hq14)) rfl mU_X2 (k := 3) (by decide) (q := (q14 + 4)) rfl mF_X8_139 dX8_wavesThatFit_49 ?_
    refine r_iload_n (pc := 52) X dX8_wavesThatFit_52 rfl rfl ?_
    refine r_iald (pc := 53) X (at_X2_levels (at_X8_seas Hb0 _ Hq14)) dX8_wavesThatFit_53 hG (fun z15 hG => ?_)
    refine r_aload_n (pc := 54) X dX8_wavesThatFit_54 rfl rfl ?_
    refine r_getR (pc := 55) X (at_X8_o Hb0) rfl mU_X8 (k := 3) (by decide) rfl mF_X8_29 dX8_wavesThatFit_55 hG (fun q16 Hq16 hG => ?_)
    refine r_cP (pc := 58) hG (fun _ hg => runV X dX8_wavesThatFit_58 (c_X2_cut (at_X8_seas Hb0 _ Hq16) hg) mM_X8_342 mI_X2_cut mE_X2_cut mN_X2 mK_X2_cut (at_X2_o (at_X8_seas Hb0 _ Hq16)) rfl rfl rfl rfl hdd_X2_cut ⟨(Nat.le_of_ble_eq_true rfl), (Nat.le_of_ble_eq_true rfl)⟩ rfl rfl (Nat.le_of_ble_eq_true rfl) ⟨(Nat.le_of_ble_eq_true rfl), (Nat.le_of_ble_eq_true rfl)⟩) (fun z17 hG => ?_)
    refine r_cV (pc := 61) hG (fun _ hg => runV X dX8_wavesThatFit_61 (c_X3_runUp (at_X6_shore (at_X8_trial Hb0)) (at_X8_beaches Hb0 _ Hq11) hg) mM_X8_345 mI_X3_runUp mE_X3_runUp mN_X3 mK_X3_runUp (at_X3_o (at_X6_shore (at_X8_trial Hb0))) rfl rfl rfl rfl hdd_X3_runUp ⟨(Nat.le_of_ble_eq_true rfl), (Nat.le_of_ble_eq_true rfl)⟩ rfl rfl (Nat.le_of_ble_eq_true rfl) ⟨(Nat.le_of_ble_eq_true rfl), (Nat.le_of_ble_eq_true rfl)⟩) (fun h18 hG => ?_)
    refine r_aload_n (pc := 64) X dX8_wavesThatFit_64 rfl rfl ?_
    refine r_aload_n (pc := 65) X dX8_wavesThatFit_65 rfl rfl ?_
    refine r_getR (pc := 66) X (at_X8_o Hb0) rfl mU_X8 (k := 1) (by decide) rfl mF_X8_19 dX8_wavesThatFit_66 hG (fun q19 Hq19 hG => ?_)
    refine r_cV (pc := 69) hG (fun _ hg => runV X dX8_wavesThatFit_69 (c_X3_slide (at_X6_shore (at_X8_trial Hb0)) (at_X8_beaches Hb0 _ Hq19) hg) mM_X8_349 mI_X3_slide mE_X3_slide mN_X3 mK_X3_slide (at_X3_o (at_X6_shore (at_X8_trial Hb0))) rfl rfl rfl rfl hdd_X3_slide ⟨(Nat.le_of_ble_eq_true rfl), (Nat.le_of_ble_eq_true rfl)⟩ rfl rfl (Nat.le_of_ble_eq_true rfl) ⟨(Nat.le_of_ble_eq_true rfl), (Nat.le_of_ble_eq_true rfl)⟩) (fun h20 hG => ?_)
    refine r_aload_n (pc := 72) X dX8_wavesThatFit_72 rfl rfl ?_
    refine r_getC (pc := 73) X (at_X8_o Hb0) rfl mU_X8 (k := 0) (by decide) (q := 1) rfl mF_X8_10 dX8_wavesThatFit_73 ?_
    refine r_aload_n (pc := 76) X dX8_wavesThatFit_76 rfl rfl ?_
    refine r_getC (pc := 77) X (at_X3_o (at_X6_shore (at_X8_trial Hb0))) rfl mU_X3 (k := 0) (by decide) (q := 48) rfl mF_X8_185 dX8_wavesThatFit_77 ?_
    refine r_aload_n (pc := 80) X dX8_wavesThatFit_80 rfl rfl ?_
    refine r_getR (pc := 81) X (at_X8_o Hb0) rfl mU_X8 (k := 1) (by decide) rfl mF_X8_19 dX8_wavesThatFit_81 hG (fun q21 Hq21 hG => ?_)
    refine r_cP (pc := 84) hG (fun _ hg => runV X dX8_wavesThatFit_84 (c_X0_cells (at_X8_beaches Hb0 _ Hq21) hg) mM_X8_214 mI_X0_cells mE_X0_cells mN_X0 mK_X0_cells (at_X0_o (at_X8_beaches Hb0 _ Hq21)) rfl rfl rfl rfl hdd_X0_cells ⟨(Nat.le_of_ble_eq_true rfl), (Nat.le_of_ble_eq_true rfl)⟩ rfl rfl (Nat.le_of_ble_eq_true rfl) ⟨(Nat.le_of_ble_eq_true rfl), (Nat.le_of_ble_eq_true rfl)⟩) (fun z22 hG => ?_)
    refine r_cP (pc := 87) hG (fun _ hg => runV X dX8_wavesThatFit_87 (c_X5_areHeights (at_X8_tape Hb0) (at_X3_height (at_X6_shore (at_X8_trial Hb0))) hg) mM_X8_352 mI_X5_areHeights mE_X5_areHeights mN_X5 mK_X5_areHeights (at_X5_o (at_X8_tape Hb0)) rfl rfl rfl rfl hdd_X5_areHeights ⟨(Nat.le_of_ble_eq_true rfl), (Nat.le_of_ble_eq_true rfl)⟩ rfl rfl (Nat.le_of_ble_eq_true rfl) ⟨(Nat.le_of_ble_eq_true rfl), (Nat.le_of_ble_eq_true rfl)⟩) (fun z23 hG => ?_)
    refine r_join hG (fun a24 => ∀ (y26 : Int32), a24 = y26.toInt → Ev E ad shl p l e rm_X8_wavesThatFit s m args below meth c 0 0 Q 4 h20 99 [some (.ref (ad 0)), some (.int y26), some (.ref (ad 47)), some (.int y6)] []) (fun a24 hG => ?_) (fun j25 Hj25 hG => ?_)
    · skip
      intro y26 ha; have ha := ha.symm; subst ha
      refine r_iinc (pc := 99) (L' := fun z27 => [some (.ref (ad 0)), some (.int y26), some (.ref (ad 47)), some (.int z27)]) X dX8_wavesThatFit_99 (by decide) rfl rfl (by decide) (fun _ => rfl) hG (fun z27 hG => ?_)
      refine r_goto (pc := 102) X dX8_wavesThatFit_102 (tgt := 12) (by decide) ?_
      exact r_mask [true, true, true, true] rfl (Hl4 _ hG y26 z27 h20 rfl)
    refine r_if_eq (pc := 90) X dX8_wavesThatFit_90 (tgt := 99) (by decide) hG (fun hG => ?_) (fun hG => ?_)
    · skip
      exact r_mask [true, true, true, true] rfl (Hj25 _ hG y5 rfl)
    · skip
      refine r_iload_n (pc := 93) X dX8_wavesThatFit_93 rfl rfl ?_
      refine r_iconst (pc := 94) X dX8_wavesThatFit_94 hG rfl (fun z28 hG => ?_)
      refine r_iload_n (pc := 95) X dX8_wavesThatFit_95 rfl rfl ?_
      refine r_ishl (pc := 96) X dX8_wavesThatFit_96 hG (fun z29 hG => ?_)
      refine r_ior (pc := 97) X dX8_wavesThatFit_97 hG (fun z30 hG => ?_)
      refine r_istore_n (pc := 98) (L' := [some (.ref (ad 0)), some (.int z30), some (.ref (ad 47)), some (.int y6)]) X dX8_wavesThatFit_98 rfl (by decide) rfl rfl ?_
      exact r_mask [true, true, true, true] rfl (Hj25 _ hG z30 rfl)
theorem c_X8_wavesThatFit  {r : Int × Hp} (Hb0 : At_X8 shl) (hg : g_X8_wavesThatFit h = some r) : Met l yX8_wavesThatFit (wsM yX8_wavesThatFit cX8_wavesThatFit 4 (some .int)) rm_X8_wavesThatFit (va_Pc [.ref (ad 0)] (World E ad shl h)) (QcI E ad shl r.1 r.2) 0 0 (bsA E) :=
  met_of (L0 := [some (.ref (ad 0)), none, none, none]) rfl rfl rfl (Nat.le_of_ble_eq_true rfl) (fun _ _ _ _ _ _ _ X => w_X8_wavesThatFit Hb0 X rfl hg)
abbrev rm_X8_which : Room := { frames := 5, cells := 0, slots := 0, locals := 122 }
theorem hdd_X8_which : yX8_which.cls = RX8 ∧ yX8_which.cls ≠ "java/lang/invoke/MethodHandle" ∧ yX8_which.cls ≠ "java/lang/invoke/VarHandle" ∧ (parseMethodDescriptor yX8_which.desc).map (fun d => d.parameters.length) = some 0 := ⟨rfl, by decide +kernel, by decide +kernel, by decide +kernel⟩
set_option maxRecDepth 100000 in
set_option maxHeartbeats 4000000 in
theorem w_X8_which  {r : Int × Hp} (Hb0 : At_X8 shl) (X : Cx E p s m args meth c cX8_which RX8 2 (some .int)) (hQ : Q = MQ below (QcI E ad shl r.1 r.2) args s 0 0 (bsA E)) (hG : g_X8_which h = some r) : Ev E ad shl p l e rm_X8_which s m args below meth c 0 0 Q 2 h 0 [some (.ref (ad 0)), none] [] := by
  unfold g_X8_which at hG
  refine r_aload_n (pc := 0) X dX8_which_0 rfl rfl ?_
  refine r_getC (pc := 1) X (at_X8_o Hb0) rfl mU_X8 (k := 0) (by decide) (q := 1) rfl mF_X8_10 dX8_which_1 ?_
  refine r_aload_n (pc := 4) X dX8_which_4 rfl rfl ?_
  refine r_getR (pc := 5) X (at_X8_o Hb0) rfl mU_X8 (k := 1) (by decide) rfl mF_X8_19 dX8_which_5 hG (fun q1 Hq1 hG => ?_)
  refine r_cP (pc := 8) hG (fun _ hg => runV X dX8_which_8 (c_X0_cells (at_X8_beaches Hb0 _ Hq1) hg) mM_X8_214 mI_X0_cells mE_X0_cells mN_X0 mK_X0_cells (at_X0_o (at_X8_beaches Hb0 _ Hq1)) rfl rfl rfl rfl hdd_X0_cells ⟨(Nat.le_of_ble_eq_true rfl), (Nat.le_of_ble_eq_true rfl)⟩ rfl rfl (Nat.le_of_ble_eq_true rfl) ⟨(Nat.le_of_ble_eq_true rfl), (Nat.le_of_ble_eq_true rfl)⟩) (fun z2 hG => ?_)
  refine r_cP (pc := 11) hG (fun _ hg => runV X dX8_which_11 (c_X5_isHeights (at_X8_tape Hb0) hg) mM_X8_312 mI_X5_isHeights mE_X5_isHeights mN_X5 mK_X5_isHeights (at_X5_o (at_X8_tape Hb0)) rfl rfl rfl rfl hdd_X5_isHeights ⟨(Nat.le_of_ble_eq_true rfl), (Nat.le_of_ble_eq_true rfl)⟩ rfl rfl (Nat.le_of_ble_eq_true rfl) ⟨(Nat.le_of_ble_eq_true rfl), (Nat.le_of_ble_eq_true rfl)⟩) (fun z3 hG => ?_)
  refine r_join hG (fun a4 => ∀ (y6 : Int32) (h7 : Hp), a4 = (y6.toInt, h7) → Ev E ad shl p l e rm_X8_which s m args below meth c 0 0 Q 2 h7 25 [some (.ref (ad 0)), none] [.int y6]) (fun a4 hG => ?_) (fun j5 Hj5 hG => ?_)
  · skip
    intro y6 h7 ha; have ha := ha.symm; subst ha
    refine r_istore_n (pc := 25) (L' := [some (.ref (ad 0)), some (.int y6)]) X dX8_which_25 rfl (by decide) rfl rfl ?_
    refine r_aload_n (pc := 26) X dX8_which_26 rfl rfl ?_
    refine r_getC (pc := 27) X (at_X8_o Hb0) rfl mU_X8 (k := 0) (by decide) (q := 1) rfl mF_X8_10 dX8_which_27 ?_
    refine r_iconst (pc := 30) X dX8_which_30 hG rfl (fun z8 hG => ?_)
    refine r_putI (pc := 31) X (at_X5_o (at_X8_tape Hb0)) rfl mU_X5 (k := 1) (by decide) rfl rfl rfl mF_X8_83 dX8_which_31 hG (fun h9 hG => ?_)
    refine r_iload_n (pc := 34) X dX8_which_34 rfl rfl ?_
    exact r_iretW (pc := 35) X dX8_which_35 hQ hG
  refine r_if_eq (pc := 14) X dX8_which_14 (tgt := 24) (by decide) hG (fun hG => ?_) (fun hG => ?_)
  · skip
    refine r_iconst (pc := 24) X dX8_which_24 hG rfl (fun z10 hG => ?_)
    exact r_mask [true, false] rfl (Hj5 _ hG z10 h rfl)
  · skip
    refine r_aload_n (pc := 17) X dX8_which_17 rfl rfl ?_
    refine r_cW (pc := 18) hG (fun _ hg => runV X dX8_which_18 (c_X8_wavesThatFit Hb0 hg) mM_X8_315 mI_X8_wavesThatFit mE_X8_wavesThatFit mN_X8 mK_X8_wavesThatFit (at_X8_o Hb0) rfl rfl rfl rfl hdd_X8_wavesThatFit ⟨(Nat.le_of_ble_eq_true rfl), (Nat.le_of_ble_eq_true rfl)⟩ rfl rfl (Nat.le_of_ble_eq_true rfl) ⟨(Nat.le_of_ble_eq_true rfl), (Nat.le_of_ble_eq_true rfl)⟩) (fun z11 h12 hG => ?_)
    refine r_goto (pc := 21) X dX8_which_21 (tgt := 25) (by decide) ?_
    exact r_mask [true, false] rfl (Hj5 _ hG z11 h12 rfl)
theorem c_X8_which  {r : Int × Hp} (Hb0 : At_X8 shl) (hg : g_X8_which h = some r) : Met l yX8_which (wsM yX8_which cX8_which 2 (some .int)) rm_X8_which (va_Pc [.ref (ad 0)] (World E ad shl h)) (QcI E ad shl r.1 r.2) 0 0 (bsA E) :=
  met_of (L0 := [some (.ref (ad 0)), none]) rfl rfl rfl (Nat.le_of_ble_eq_true rfl) (fun _ _ _ _ _ _ _ X => w_X8_which Hb0 X rfl hg)
abbrev rm_X8_unitsOfTower : Room := { frames := 0, cells := 0, slots := 0, locals := 0 }
theorem hdd_X8_unitsOfTower : yX8_unitsOfTower.cls ≠ "java/lang/invoke/MethodHandle" ∧ yX8_unitsOfTower.cls ≠ "java/lang/invoke/VarHandle" ∧ (parseMethodDescriptor yX8_unitsOfTower.desc).map (fun d => d.parameters.length) = some 2 := ⟨by decide +kernel, by decide +kernel, by decide +kernel⟩
set_option maxRecDepth 100000 in
set_option maxHeartbeats 4000000 in
theorem w_X8_unitsOfTower {x1 : Int32} {x2 : Int32} {r : Int}  (X : Cx E p s m args meth c cX8_unitsOfTower RX8 4 (some .int)) (hQ : Q = MQ below (QcI E ad shl r h) args s 0 0 (bsA E)) (hG : g_X8_unitsOfTower x1.toInt x2.toInt = some r) : Ev E ad shl p l e rm_X8_unitsOfTower s m args below meth c 0 0 Q 4 h 0 [some (.int x1), some (.int x2), none, none] [] := by
  unfold g_X8_unitsOfTower at hG
  refine r_iload_n (pc := 0) X dX8_unitsOfTower_0 rfl rfl ?_
  refine r_istore_n (pc := 1) (L' := [some (.int x1), some (.int x2), some (.int x1), none]) X dX8_unitsOfTower_1 rfl (by decide) rfl rfl ?_
  refine r_iconst (pc := 2) X dX8_unitsOfTower_2 hG rfl (fun z1 hG => ?_)
  refine r_istore_n (pc := 3) (L' := [some (.int x1), some (.int x2), some (.int x1), some (.int z1)]) X dX8_unitsOfTower_3 rfl (by decide) rfl rfl ?_
  refine r_join hG (fun a2 => ∀ (y4 : Int32), a2 = y4.toInt → Ev E ad shl p l e rm_X8_unitsOfTower s m args below meth c 0 0 Q 4 h 33 [none, none, some (.int y4), none] []) (fun a2 hG => ?_) (fun j3 Hj3 hG => ?_)
  · skip
    intro y4 ha; have ha := ha.symm; subst ha
    refine r_iload_n (pc := 33) X dX8_unitsOfTower_33 rfl rfl ?_
    exact r_iretP (pc := 34) X dX8_unitsOfTower_34 hQ hG
  refine r_mask [true, true, true, true] rfl (r_loop (fun q5 => ∀ (y7 : Int32) (y8 : Int32), q5 = (y7.toInt, y8.toInt) → Ev E ad shl p l e rm_X8_unitsOfTower s m args below meth c 0 0 Q 4 h 4 [some (.int x1), some (.int x2), some (.int y7), some (.int y8)] []) (fun l6 Hl6 q5 hG => ?_) FU _ hG x1 z1 rfl)
  intro y7 y8 ha; have ha := ha.symm; subst ha
  unfold g_X8_unitsOfTower_l6 at hG
  refine r_iload_n (pc := 4) X dX8_unitsOfTower_4 rfl rfl ?_
  refine r_iload_n (pc := 5) X dX8_unitsOfTower_5 rfl rfl ?_
  refine r_icmp_ge (pc := 6) X dX8_unitsOfTower_6 (tgt := 33) (by decide) hG (fun hG => ?_) (fun hG => ?_)
  · skip
    exact r_mask [false, false, true, false] rfl (Hj3 _ hG y7 rfl)
  · skip
    refine r_iload_n (pc := 9) X dX8_unitsOfTower_9 rfl rfl ?_
    refine r_iload_n (pc := 10) X dX8_unitsOfTower_10 rfl rfl ?_
    refine r_iload_n (pc := 11) X dX8_unitsOfTower_11 rfl rfl ?_
    refine r_imul (pc := 12) X dX8_unitsOfTower_12 hG (fun z9 hG => ?_)
    refine r_isub (pc := 13) X dX8_unitsOfTower_13 hG (fun z10 hG => ?_)
    refine r_if_le (pc := 14) X dX8_unitsOfTower_14 (tgt := 33) (by decide) hG (fun hG => ?_) (fun hG => ?_)
    · skip
      exact r_mask [false, false, true, false] rfl (Hj3 _ hG y7 rfl)
    · skip
      refine r_iload_n (pc := 17) X dX8_unitsOfTower_17 rfl rfl ?_
      refine r_iconst (pc := 18) X dX8_unitsOfTower_18 hG rfl (fun z11 hG => ?_)
      refine r_iload_n (pc := 19) X dX8_unitsOfTower_19 rfl rfl ?_
      refine r_iload_n (pc := 20) X dX8_unitsOfTower_20 rfl rfl ?_
      refine r_iload_n (pc := 21) X dX8_unitsOfTower_21 rfl rfl ?_
      refine r_imul (pc := 22) X dX8_unitsOfTower_22 hG (fun z12 hG => ?_)
      refine r_isub (pc := 23) X dX8_unitsOfTower_23 hG (fun z13 hG => ?_)
      refine r_imul (pc := 24) X dX8_unitsOfTower_24 hG (fun z14 hG => ?_)
      refine r_iadd (pc := 25) X dX8_unitsOfTower_25 hG (fun z15 hG => ?_)
      refine r_istore_n (pc := 26) (L' := [some (.int x1), some (.int x2), some (.int z15), some (.int y8)]) X dX8_unitsOfTower_26 rfl (by decide) rfl rfl ?_
      refine r_iinc (pc := 27) (L' := fun z16 => [some (.int x1), some (.int x2), some (.int z15), some (.int z16)]) X dX8_unitsOfTower_27 (by decide) rfl rfl (by decide) (fun _ => rfl) hG (fun z16 hG => ?_)
      refine r_goto (pc := 30) X dX8_unitsOfTower_30 (tgt := 4) (by decide) ?_
      exact r_mask [true, true, true, true] rfl (Hl6 _ hG z15 z16 rfl)
theorem c_X8_unitsOfTower {x1 : Int32} {x2 : Int32} {r : Int}  (hg : g_X8_unitsOfTower x1.toInt x2.toInt = some r) : Met l yX8_unitsOfTower (wsM yX8_unitsOfTower cX8_unitsOfTower 4 (some .int)) rm_X8_unitsOfTower (va_Pc [.int x1, .int x2] (World E ad shl h)) (QcI E ad shl r h) 0 0 (bsA E) :=
  met_of (L0 := [some (.int x1), some (.int x2), none, none]) rfl rfl rfl (Nat.le_of_ble_eq_true rfl) (fun _ _ _ _ _ _ _ X => w_X8_unitsOfTower  X rfl hg)
abbrev rm_X8_join : Room := { frames := 1, cells := 0, slots := 0, locals := 23 }
theorem hdd_X8_join : yX8_join.cls = RX8 ∧ yX8_join.cls ≠ "java/lang/invoke/MethodHandle" ∧ yX8_join.cls ≠ "java/lang/invoke/VarHandle" ∧ (parseMethodDescriptor yX8_join.desc).map (fun d => d.parameters.length) = some 6 := ⟨rfl, by decide +kernel, by decide +kernel, by decide +kernel⟩
set_option maxRecDepth 100000 in
set_option maxHeartbeats 4000000 in
theorem w_X8_join {x1 : Int32} {x2 : Int32} {x3 : Int32} {x4 : Int32} {x5 : Int32} {x6 : Int32} {r : Int} (Hb0 : At_X8 shl) (X : Cx E p s m args meth c cX8_join RX8 15 (some .int)) (hQ : Q = MQ below (QcI E ad shl r h) args s 0 0 (bsA E)) (hG : g_X8_join x1.toInt x2.toInt x3.toInt x4.toInt x5.toInt x6.toInt = some r) : Ev E ad shl p l e rm_X8_join s m args below meth c 0 0 Q 15 h 0 [some (.ref (ad 0)), some (.int x1), some (.int x2), some (.int x3), some (.int x4), some (.int x5), some (.int x6), none, none, none, none, none, none, none, none] [] := by
  unfold g_X8_join at hG
  refine r_iload_n (pc := 0) X dX8_join_0 rfl rfl ?_
  refine r_iconst (pc := 1) X dX8_join_1 hG rfl (fun z1 hG => ?_)
  refine r_join hG (fun a2 => ∀ (y4 : Int32), a2 = y4.toInt → Ev E ad shl p l e rm_X8_join s m args below meth c 0 0 Q 15 h 75 [none, some (.int x1), some (.int x2), some (.int x3), some (.int x4), some (.int x5), some (.int x6), none, none, none, none, none, none, none, none] [.int y4]) (fun a2 hG => ?_) (fun j3 Hj3 hG => ?_)
  · skip
    intro y4 ha; have ha := ha.symm; subst ha
    refine r_istore (pc := 75) (L' := [none, some (.int x1), some (.int x2), some (.int x3), some (.int x4), some (.int x5), some (.int x6), some (.int y4), none, none, none, none, none, none, none]) X dX8_join_75 (by decide) rfl rfl ?_
    refine r_iload (pc := 77) X dX8_join_77 rfl ?_
    refine r_if_ne (pc := 79) X dX8_join_79 (tgt := 85) (by decide) hG (fun hG => ?_) (fun hG => ?_)
    · skip
      refine r_iload_n (pc := 85) X dX8_join_85 rfl rfl ?_
      refine r_iload_n (pc := 86) X dX8_join_86 rfl rfl ?_
      refine r_cP (pc := 87) hG (fun _ hg => runS X dX8_join_87 (c_X8_unitsOfTower  hg) mM_X8_318 mS_X8_unitsOfTower mN_X8 mK_X8_unitsOfTower rfl rfl hdd_X8_unitsOfTower ⟨(Nat.le_of_ble_eq_true rfl), (Nat.le_of_ble_eq_true rfl)⟩ rfl rfl (Nat.le_of_ble_eq_true rfl) ⟨(Nat.le_of_ble_eq_true rfl), (Nat.le_of_ble_eq_true rfl)⟩) (fun z5 hG => ?_)
      refine r_istore (pc := 90) (L' := [none, some (.int x1), some (.int x2), some (.int x3), some (.int x4), some (.int x5), some (.int x6), some (.int y4), some (.int z5), none, none, none, none, none, none]) X dX8_join_90 (by decide) rfl rfl ?_
      refine r_iload_n (pc := 92) X dX8_join_92 rfl rfl ?_
      refine r_iload (pc := 93) X dX8_join_93 rfl ?_
      refine r_iadd (pc := 95) X dX8_join_95 hG (fun z6 hG => ?_)
      refine r_iload (pc := 96) X dX8_join_96 rfl ?_
      refine r_imul (pc := 98) X dX8_join_98 hG (fun z7 hG => ?_)
      refine r_istore (pc := 99) (L' := [none, some (.int x1), some (.int x2), some (.int x3), some (.int x4), some (.int x5), some (.int x6), some (.int y4), some (.int z5), some (.int z7), none, none, none, none, none]) X dX8_join_99 (by decide) rfl rfl ?_
      refine r_iconst (pc := 101) X dX8_join_101 hG rfl (fun z8 hG => ?_)
      refine r_istore (pc := 102) (L' := [none, some (.int x1), some (.int x2), some (.int x3), some (.int x4), some (.int x5), some (.int x6), some (.int y4), some (.int z5), some (.int z7), some (.int z8), none, none, none, none]) X dX8_join_102 (by decide) rfl rfl ?_
      refine r_ldc_w (pc := 104) X dX8_join_104 mV_X8_321 hG (by decide) (fun z9 hG => ?_)
      refine r_istore (pc := 107) (L' := [none, some (.int x1), some (.int x2), some (.int x3), some (.int x4), some (.int x5), some (.int x6), some (.int y4), some (.int z5), some (.int z7), some (.int z8), some (.int z9), none, none, none]) X dX8_join_107 (by decide) rfl rfl ?_
      refine r_iconst (pc := 109) X dX8_join_109 hG rfl (fun z10 hG => ?_)
      refine r_istore (pc := 110) (L' := [none, some (.int x1), some (.int x2), some (.int x3), some (.int x4), some (.int x5), some (.int x6), some (.int y4), some (.int z5), some (.int z7), some (.int z8), some (.int z9), some (.int z10), none, none]) X dX8_join_110 (by decide) rfl rfl ?_
      refine r_join hG (fun a11 => ∀ (y13 : Int32) (y14 : Int32), a11 = (y13.toInt, y14.toInt) → Ev E ad shl p l e rm_X8_join s m args below meth c 0 0 Q 15 h 184 [none, none, none, none, none, none, some (.int x6), none, none, none, some (.int y13), some (.int y14), none, none, none] []) (fun a11 hG => ?_) (fun j12 Hj12 hG => ?_)
      · skip
        intro y13 y14 ha; have ha := ha.symm; subst ha
        refine r_iload (pc := 184) X dX8_join_184 rfl ?_
        refine r_join hG (fun a15 => ∀ (y17 : Int32), a15 = y17.toInt → Ev E ad shl p l e rm_X8_join s m args below meth c 0 0 Q 15 h 196 [none, none, none, none, none, none, none, none, none, none, none, none, none, none, none] [.int y17]) (fun a15 hG => ?_) (fun j16 Hj16 hG => ?_)
        · skip
          intro y17 ha; have ha := ha.symm; subst ha
          exact r_iretP (pc := 196) X dX8_join_196 hQ hG
        refine r_if_ne (pc := 186) X dX8_join_186 (tgt := 194) (by decide) hG (fun hG => ?_) (fun hG => ?_)
        · skip
          refine r_iload (pc := 194) X dX8_join_194 rfl ?_
          exact r_mask [false, false, false, false, false, false, false, false, false, false, false, false, false, false, false] rfl (Hj16 _ hG y14 rfl)
        · skip
          refine r_iload (pc := 189) X dX8_join_189 rfl ?_
          refine r_goto (pc := 191) X dX8_join_191 (tgt := 196) (by decide) ?_
          exact r_mask [false, false, false, false, false, false, false, false, false, false, false, false, false, false, false] rfl (Hj16 _ hG y13 rfl)
      refine r_mask [false, false, false, true, true, false, true, false, true, true, true, true, true, false, false] rfl (r_loop (fun q18 => ∀ (y20 : Int32) (y21 : Int32) (y22 : Int32), q18 = (y20.toInt, y21.toInt, y22.toInt) → Ev E ad shl p l e rm_X8_join s m args below meth c 0 0 Q 15 h 112 [none, none, none, some (.int x3), some (.int x4), none, some (.int x6), none, some (.int z5), some (.int z7), some (.int y20), some (.int y21), some (.int y22), none, none] []) (fun l19 Hl19 q18 hG => ?_) FU _ hG z8 z9 z10 rfl)
      intro y20 y21 y22 ha; have ha := ha.symm; subst ha
      unfold g_X8_join_l19 at hG
      refine r_iload (pc := 112) X dX8_join_112 rfl ?_
      refine r_bipush (pc := 114) X dX8_join_114 hG (by decide) (fun z23 hG => ?_)
      refine r_icmp_gt (pc := 116) X dX8_join_116 (tgt := 184) (by decide) hG (fun hG => ?_) (fun hG => ?_)
      · skip
        exact r_mask [false, false, false, false, false, false, true, false, false, false, true, true, false, false, false] rfl (Hj12 _ hG y20 y21 rfl)
      · skip
        refine r_iconst (pc := 119) X dX8_join_119 hG rfl (fun z24 hG => ?_)
        refine r_iload (pc := 120) X dX8_join_120 rfl ?_
        refine r_iload_n (pc := 122) X dX8_join_122 rfl rfl ?_
        refine r_iload (pc := 123) X dX8_join_123 rfl ?_
        refine r_imul (pc := 125) X dX8_join_125 hG (fun z25 hG => ?_)
        refine r_isub (pc := 126) X dX8_join_126 hG (fun z26 hG => ?_)
        refine r_mmax (pc := 127) X dX8_join_127 mM_X8_322 (Nat.le_of_ble_eq_true rfl) (Nat.le_of_ble_eq_true rfl) (Nat.le_of_ble_eq_true rfl) (Nat.le_of_ble_eq_true rfl) hG (fun z27 hG => ?_)
        refine r_iconst (pc := 130) X dX8_join_130 hG rfl (fun z28 hG => ?_)
        refine r_iload (pc := 131) X dX8_join_131 rfl ?_
        refine r_iload (pc := 133) X dX8_join_133 rfl ?_
        refine r_iload (pc := 135) X dX8_join_135 rfl ?_
        refine r_imul (pc := 137) X dX8_join_137 hG (fun z29 hG => ?_)
        refine r_isub (pc := 138) X dX8_join_138 hG (fun z30 hG => ?_)
        refine r_mmax (pc := 139) X dX8_join_139 mM_X8_322 (Nat.le_of_ble_eq_true rfl) (Nat.le_of_ble_eq_true rfl) (Nat.le_of_ble_eq_true rfl) (Nat.le_of_ble_eq_true rfl) hG (fun z31 hG => ?_)
        refine r_iadd (pc := 142) X dX8_join_142 hG (fun z32 hG => ?_)
        refine r_istore (pc := 143) (L' := [none, none, none, some (.int x3), some (.int x4), none, some (.int x6), none, some (.int z5), some (.int z7), some (.int y20), some (.int y21), some (.int y22), some (.int z32), none]) X dX8_join_143 (by decide) rfl rfl ?_
        refine r_iload (pc := 145) X dX8_join_145 rfl ?_
        refine r_iload (pc := 147) X dX8_join_147 rfl ?_
        refine r_bipush (pc := 149) X dX8_join_149 hG (by decide) (fun z33 hG => ?_)
        refine r_imul (pc := 151) X dX8_join_151 hG (fun z34 hG => ?_)
        refine r_iload (pc := 152) X dX8_join_152 rfl ?_
        refine r_iadd (pc := 154) X dX8_join_154 hG (fun z35 hG => ?_)
        refine r_iconst (pc := 155) X dX8_join_155 hG rfl (fun z36 hG => ?_)
        refine r_isub (pc := 156) X dX8_join_156 hG (fun z37 hG => ?_)
        refine r_iload (pc := 157) X dX8_join_157 rfl ?_
        refine r_idiv (pc := 159) X dX8_join_159 hG (fun z38 hG => ?_)
        refine r_iadd (pc := 160) X dX8_join_160 hG (fun z39 hG => ?_)
        refine r_istore (pc := 161) (L' := [none, none, none, some (.int x3), some (.int x4), none, some (.int x6), none, some (.int z5), some (.int z7), some (.int y20), some (.int y21), some (.int y22), some (.int z32), some (.int z39)]) X dX8_join_161 (by decide) rfl rfl ?_
        refine r_iload (pc := 163) X dX8_join_163 rfl ?_
        refine r_iload (pc := 165) X dX8_join_165 rfl ?_
        refine r_join hG (fun a40 => ∀ (y42 : Int32) (y43 : Int32), a40 = (y42.toInt, y43.toInt) → Ev E ad shl p l e rm_X8_join s m args below meth c 0 0 Q 15 h 178 [none, none, none, some (.int x3), some (.int x4), none, some (.int x6), none, some (.int z5), some (.int z7), some (.int y42), some (.int y43), some (.int y22), none, none] []) (fun a40 hG => ?_) (fun j41 Hj41 hG => ?_)
        · skip
          intro y42 y43 ha; have ha := ha.symm; subst ha
          refine r_iinc (pc := 178) (L' := fun z44 => [none, none, none, some (.int x3), some (.int x4), none, some (.int x6), none, some (.int z5), some (.int z7), some (.int y42), some (.int y43), some (.int z44), none, none]) X dX8_join_178 (by decide) rfl rfl (by decide) (fun _ => rfl) hG (fun z44 hG => ?_)
          refine r_goto (pc := 181) X dX8_join_181 (tgt := 112) (by decide) ?_
          exact r_mask [false, false, false, true, true, false, true, false, true, true, true, true, true, false, false] rfl (Hl19 _ hG y42 y43 z44 rfl)
        refine r_icmp_ge (pc := 167) X dX8_join_167 (tgt := 178) (by decide) hG (fun hG => ?_) (fun hG => ?_)
        · skip
          exact r_mask [false, false, false, true, true, false, true, false, true, true, true, true, true, false, false] rfl (Hj41 _ hG y20 y21 rfl)
        · skip
          refine r_iload (pc := 170) X dX8_join_170 rfl ?_
          refine r_istore (pc := 172) (L' := [none, none, none, some (.int x3), some (.int x4), none, some (.int x6), none, some (.int z5), some (.int z7), some (.int y20), some (.int z39), some (.int y22), some (.int z32), some (.int z39)]) X dX8_join_172 (by decide) rfl rfl ?_
          refine r_iload (pc := 174) X dX8_join_174 rfl ?_
          refine r_istore (pc := 176) (L' := [none, none, none, some (.int x3), some (.int x4), none, some (.int x6), none, some (.int z5), some (.int z7), some (.int y22), some (.int z39), some (.int y22), some (.int z32), some (.int z39)]) X dX8_join_176 (by decide) rfl rfl ?_
          exact r_mask [false, false, false, true, true, false, true, false, true, true, true, true, true, false, false] rfl (Hj41 _ hG y22 z39 rfl)
    · skip
      refine r_bipush (pc := 82) X dX8_join_82 hG (by decide) (fun z45 hG => ?_)
      exact r_iretP (pc := 84) X dX8_join_84 hQ hG
  refine r_join hG (fun _ => Ev E ad shl p l e rm_X8_join s m args below meth c 0 0 Q 15 h 74 [none, some (.int x1), some (.int x2), some (.int x3), some (.int x4), some (.int x5), some (.int x6), none, none, none, none, none, none, none, none] []) (fun a46 hG => ?_) (fun j47 Hj47 hG => ?_)
  · skip
    refine r_iconst (pc := 74) X dX8_join_74 hG rfl (fun z48 hG => ?_)
    exact r_mask [false, true, true, true, true, true, true, false, false, false, false, false, false, false, false] rfl (Hj3 _ hG z48 rfl)
  refine r_icmp_lt (pc := 2) X dX8_join_2 (tgt := 74) (by decide) hG (fun hG => ?_) (fun hG => ?_)
  · skip
    exact r_mask [false, true, true, true, true, true, true, false, false, false, false, false, false, false, false] rfl (Hj47 _ hG)
  · skip
    refine r_iload_n (pc := 5) X dX8_join_5 rfl rfl ?_
    refine r_bipush (pc := 6) X dX8_join_6 hG (by decide) (fun z49 hG => ?_)
    refine r_icmp_gt (pc := 8) X dX8_join_8 (tgt := 74) (by decide) hG (fun hG => ?_) (fun hG => ?_)
    · skip
      exact r_mask [false, true, true, true, true, true, true, false, false, false, false, false, false, false, false] rfl (Hj47 _ hG)
    · skip
      refine r_iload_n (pc := 11) X dX8_join_11 rfl rfl ?_
      refine r_iconst (pc := 12) X dX8_join_12 hG rfl (fun z50 hG => ?_)
      refine r_icmp_lt (pc := 13) X dX8_join_13 (tgt := 74) (by decide) hG (fun hG => ?_) (fun hG => ?_)
      · skip
        exact r_mask [false, true, true, true, true, true, true, false, false, false, false, false, false, false, false] rfl (Hj47 _ hG)
      · skip
        refine r_iload_n (pc := 16) X dX8_join_16 rfl rfl ?_
        refine r_bipush (pc := 17) X dX8_join_17 hG (by decide) (fun z51 hG => ?_)
        refine r_icmp_gt (pc := 19) X dX8_join_19 (tgt := 74) (by decide) hG (fun hG => ?_) (fun hG => ?_)
        · skip
          exact r_mask [false, true, true, true, true, true, true, false, false, false, false, false, false, false, false] rfl (Hj47 _ hG)
        · skip
          refine r_iload_n (pc := 22) X dX8_join_22 rfl rfl ?_
          refine r_iconst (pc := 23) X dX8_join_23 hG rfl (fun z52 hG => ?_)
          refine r_icmp_lt (pc := 24) X dX8_join_24 (tgt := 74) (by decide) hG (fun hG => ?_) (fun hG => ?_)
          · skip
            exact r_mask [false, true, true, true, true, true, true, false, false, false, false, false, false, false, false] rfl (Hj47 _ hG)
          · skip
            refine r_iload_n (pc := 27) X dX8_join_27 rfl rfl ?_
            refine r_bipush (pc := 28) X dX8_join_28 hG (by decide) (fun z53 hG => ?_)
            refine r_icmp_gt (pc := 30) X dX8_join_30 (tgt := 74) (by decide) hG (fun hG => ?_) (fun hG => ?_)
            · skip
              exact r_mask [false, true, true, true, true, true, true, false, false, false, false, false, false, false, false] rfl (Hj47 _ hG)
            · skip
              refine r_iload (pc := 33) X dX8_join_33 rfl ?_
              refine r_iconst (pc := 35) X dX8_join_35 hG rfl (fun z54 hG => ?_)
              refine r_icmp_lt (pc := 36) X dX8_join_36 (tgt := 74) (by decide) hG (fun hG => ?_) (fun hG => ?_)
              · skip
                exact r_mask [false, true, true, true, true, true, true, false, false, false, false, false, false, false, false] rfl (Hj47 _ hG)
              · skip
                refine r_iload (pc := 39) X dX8_join_39 rfl ?_
                refine r_bipush (pc := 41) X dX8_join_41 hG (by decide) (fun z55 hG => ?_)
                refine r_icmp_gt (pc := 43) X dX8_join_43 (tgt := 74) (by decide) hG (fun hG => ?_) (fun hG => ?_)
                · skip
                  exact r_mask [false, true, true, true, true, true, true, false, false, false, false, false, false, false, false] rfl (Hj47 _ hG)
                · skip
                  refine r_iload (pc := 46) X dX8_join_46 rfl ?_
                  refine r_iconst (pc := 48) X dX8_join_48 hG rfl (fun z56 hG => ?_)
                  refine r_icmp_lt (pc := 49) X dX8_join_49 (tgt := 74) (by decide) hG (fun hG => ?_) (fun hG => ?_)
                  · skip
                    exact r_mask [false, true, true, true, true, true, true, false, false, false, false, false, false, false, false] rfl (Hj47 _ hG)
                  · skip
                    refine r_iload (pc := 52) X dX8_join_52 rfl ?_
                    refine r_bipush (pc := 54) X dX8_join_54 hG (by decide) (fun z57 hG => ?_)
                    refine r_icmp_gt (pc := 56) X dX8_join_56 (tgt := 74) (by decide) hG (fun hG => ?_) (fun hG => ?_)
                    · skip
                      exact r_mask [false, true, true, true, true, true, true, false, false, false, false, false, false, false, false] rfl (Hj47 _ hG)
                    · skip
                      refine r_iload (pc := 59) X dX8_join_59 rfl ?_
                      refine r_if_lt (pc := 61) X dX8_join_61 (tgt := 74) (by decide) hG (fun hG => ?_) (fun hG => ?_)
                      · skip
                        exact r_mask [false, true, true, true, true, true, true, false, false, false, false, false, false, false, false] rfl (Hj47 _ hG)
                      · skip
                        refine r_iload (pc := 64) X dX8_join_64 rfl ?_
                        refine r_iconst (pc := 66) X dX8_join_66 hG rfl (fun z58 hG => ?_)
                        refine r_icmp_gt (pc := 67) X dX8_join_67 (tgt := 74) (by decide) hG (fun hG => ?_) (fun hG => ?_)
                        · skip
                          exact r_mask [false, true, true, true, true, true, true, false, false, false, false, false, false, false, false] rfl (Hj47 _ hG)
                        · skip
                          refine r_iconst (pc := 70) X dX8_join_70 hG rfl (fun z59 hG => ?_)
                          refine r_goto (pc := 71) X dX8_join_71 (tgt := 75) (by decide) ?_
                          exact r_mask [false, true, true, true, true, true, true, false, false, false, false, false, false, false, false] rfl (Hj3 _ hG z59 rfl)
theorem c_X8_join {x1 : Int32} {x2 : Int32} {x3 : Int32} {x4 : Int32} {x5 : Int32} {x6 : Int32} {r : Int} (Hb0 : At_X8 shl) (hg : g_X8_join x1.toInt x2.toInt x3.toInt x4.toInt x5.toInt x6.toInt = some r) : Met l yX8_join (wsM yX8_join cX8_join 15 (some .int)) rm_X8_join (va_Pc [.ref (ad 0), .int x1, .int x2, .int x3, .int x4, .int x5, .int x6] (World E ad shl h)) (QcI E ad shl r h) 0 0 (bsA E) :=
  met_of (L0 := [some (.ref (ad 0)), some (.int x1), some (.int x2), some (.int x3), some (.int x4), some (.int x5), some (.int x6), none, none, none, none, none, none, none, none]) rfl rfl rfl (Nat.le_of_ble_eq_true rfl) (fun _ _ _ _ _ _ _ X => w_X8_join Hb0 X rfl hg)
end WALKS
