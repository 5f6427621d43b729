section WALKS
variable {E : EnvT} {ad : Nat → Nat} {shl : List Shp} {p : Program} {l : Launch} {e : Env} {s : State} {m : MethodId} {args : Array Value} {below : List Frame} {meth : Method} {c : Code} {Q : State → Prop} {h : Hp}
abbrev rm_X8_count : Room := { frames := 0, cells := 0, slots := 0, locals := 0 }
theorem hdd_X8_count : yX8_count.cls = RX8 ∧ yX8_count.cls ≠ "java/lang/invoke/MethodHandle" ∧ yX8_count.cls ≠ "java/lang/invoke/VarHandle" ∧ (parseMethodDescriptor yX8_count.desc).map (fun d => d.parameters.length) = some 1 := ⟨rfl, by decide +kernel, by decide +kernel, by decide +kernel⟩
set_option maxRecDepth 100000 in
set_option maxHeartbeats 4000000 in
theorem w_X8_count {x1 : Int32} {r : Int} (Hb0 : At_X8 shl) (X : Cx E p s m args meth c cX8_count RX8 2 (some .int)) (hQ : Q = MQ below (QcI E ad shl r h) args s 0 0 (bsA E)) (hG : g_X8_count x1.toInt h = some r) : Ev E ad shl p l e rm_X8_count s m args below meth c 0 0 Q 2 h 0 [some (.ref (ad 0)), some (.int x1)] [] := by
  unfold g_X8_count at hG
  refine r_iload_n (pc := 0) X dX8_count_0 rfl rfl ?_
  refine r_join hG (fun a1 => ∀ (y3 : Int32), a1 = y3.toInt → Ev E ad shl p l e rm_X8_count s m args below meth c 0 0 Q 2 h 87 [none, none] [.int y3]) (fun a1 hG => ?_) (fun j2 Hj2 hG => ?_)
  · skip
    intro y3 ha; have ha := ha.symm; subst ha
    exact r_iretP (pc := 87) X dX8_count_87 hQ hG
  refine r_ite hG (fun e4 hG => ?_) (fun e4 hG => ?_)
  · refine r_tsIn (pc := 1) X dX8_count_1 e4 (by decide) (by decide) rfl (tgt := 36) (by decide) ?_
    refine r_aload_n (pc := 36) X dX8_count_36 rfl rfl ?_
    refine r_getR (pc := 37) X (at_X8_o Hb0) rfl mU_X8 (k := 1) (by decide) rfl mF_X8_19 dX8_count_37 hG (fun q5 Hq5 hG => ?_)
    refine r_getI (pc := 40) X (at_X0_o (at_X8_beaches Hb0 _ Hq5)) rfl mU_X0 (k := 6) (by decide) rfl mF_X8_105 dX8_count_40 hG (fun z6 hG => ?_)
    refine r_goto (pc := 43) X dX8_count_43 (tgt := 87) (by decide) ?_
    exact r_mask [false, false] rfl (Hj2 _ hG z6 rfl)
  refine r_ite hG (fun e7 hG => ?_) (fun e7 hG => ?_)
  · refine r_tsIn (pc := 1) X dX8_count_1 e7 (by decide) (by decide) rfl (tgt := 46) (by decide) ?_
    refine r_aload_n (pc := 46) X dX8_count_46 rfl rfl ?_
    refine r_getR (pc := 47) X (at_X8_o Hb0) rfl mU_X8 (k := 3) (by decide) rfl mF_X8_29 dX8_count_47 hG (fun q8 Hq8 hG => ?_)
    refine r_getI (pc := 50) X (at_X2_o (at_X8_seas Hb0 _ Hq8)) rfl mU_X2 (k := 5) (by decide) rfl mF_X8_109 dX8_count_50 hG (fun z9 hG => ?_)
    refine r_goto (pc := 53) X dX8_count_53 (tgt := 87) (by decide) ?_
    exact r_mask [false, false] rfl (Hj2 _ hG z9 rfl)
  refine r_ite hG (fun e10 hG => ?_) (fun e10 hG => ?_)
  · refine r_tsIn (pc := 1) X dX8_count_1 e10 (by decide) (by decide) rfl (tgt := 56) (by decide) ?_
    refine r_aload_n (pc := 56) X dX8_count_56 rfl rfl ?_
    refine r_getC (pc := 57) X (at_X8_o Hb0) rfl mU_X8 (k := 10) (by decide) (q := 36) rfl mF_X8_60 dX8_count_57 ?_
    refine r_getI (pc := 60) X (at_X7_o (at_X8_tries Hb0)) rfl mU_X7 (k := 0) (by decide) rfl mF_X8_253 dX8_count_60 hG (fun z11 hG => ?_)
    refine r_goto (pc := 63) X dX8_count_63 (tgt := 87) (by decide) ?_
    exact r_mask [false, false] rfl (Hj2 _ hG z11 rfl)
  refine r_ite hG (fun e12 hG => ?_) (fun e12 hG => ?_)
  · refine r_tsIn (pc := 1) X dX8_count_1 e12 (by decide) (by decide) rfl (tgt := 66) (by decide) ?_
    refine r_aload_n (pc := 66) X dX8_count_66 rfl rfl ?_
    refine r_getC (pc := 67) X (at_X8_o Hb0) rfl mU_X8 (k := 10) (by decide) (q := 36) rfl mF_X8_60 dX8_count_67 ?_
    refine r_getI (pc := 70) X (at_X7_o (at_X8_tries Hb0)) rfl mU_X7 (k := 1) (by decide) rfl mF_X8_260 dX8_count_70 hG (fun z13 hG => ?_)
    refine r_goto (pc := 73) X dX8_count_73 (tgt := 87) (by decide) ?_
    exact r_mask [false, false] rfl (Hj2 _ hG z13 rfl)
  refine r_ite hG (fun e14 hG => ?_) (fun e14 hG => ?_)
  · refine r_tsIn (pc := 1) X dX8_count_1 e14 (by decide) (by decide) rfl (tgt := 76) (by decide) ?_
    refine r_aload_n (pc := 76) X dX8_count_76 rfl rfl ?_
    refine r_getC (pc := 77) X (at_X8_o Hb0) rfl mU_X8 (k := 0) (by decide) (q := 1) rfl mF_X8_10 dX8_count_77 ?_
    refine r_getI (pc := 80) X (at_X5_o (at_X8_tape Hb0)) rfl mU_X5 (k := 1) (by decide) rfl mF_X8_83 dX8_count_80 hG (fun z15 hG => ?_)
    refine r_goto (pc := 83) X dX8_count_83 (tgt := 87) (by decide) ?_
    exact r_mask [false, false] rfl (Hj2 _ hG z15 rfl)
  refine r_tsOut (pc := 1) X dX8_count_1 (by omega) (tgt := 86) (by decide) ?_
  refine r_iconst (pc := 86) X dX8_count_86 hG rfl (fun z16 hG => ?_)
  exact r_mask [false, false] rfl (Hj2 _ hG z16 rfl)
theorem c_X8_count {x1 : Int32} {r : Int} (Hb0 : At_X8 shl) (hg : g_X8_count x1.toInt h = some r) : Met l yX8_count (wsM yX8_count cX8_count 2 (some .int)) rm_X8_count (va_Pc [.ref (ad 0), .int x1] (World E ad shl h)) (QcI E ad shl r h) 0 0 (bsA E) :=
  met_of (L0 := [some (.ref (ad 0)), some (.int x1)]) rfl rfl rfl (Nat.le_of_ble_eq_true rfl) (fun _ _ _ _ _ _ _ X => w_X8_count Hb0 X rfl hg)
end WALKS
