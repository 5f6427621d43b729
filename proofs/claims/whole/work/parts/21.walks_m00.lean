section WALKS
variable {E : EnvT} {ad : Nat → Nat} {shl : List Shp} {p : Program} {l : Launch} {e : Env} {s : State} {m : MethodId} {args : Array Value} {below : List Frame} {meth : Method} {c : Code} {Q : State → Prop} {h : Hp}
abbrev rm_X9_in : Room := { frames := 0, cells := 0, slots := 0, locals := 0 }
theorem hdd_X9_in : yX9_in.cls ≠ "java/lang/invoke/MethodHandle" ∧ yX9_in.cls ≠ "java/lang/invoke/VarHandle" ∧ (parseMethodDescriptor yX9_in.desc).map (fun d => d.parameters.length) = some 3 := ⟨by decide +kernel, by decide +kernel, by decide +kernel⟩
set_option maxRecDepth 100000 in
set_option maxHeartbeats 4000000 in
theorem w_X9_in {x1 : Int64} {x2 : Int64} {x3 : Int64} {r : Int}  (X : Cx E p s m args meth c cX9_in RX9 6 (some .boolean)) (hQ : Q = MQ below (QcI E ad shl r h) args s 0 0 (bsA E)) (hG : g_X9_in x1.toInt x2.toInt x3.toInt = some r) : Ev E ad shl p l e rm_X9_in s m args below meth c 0 0 Q 6 h 0 [some (.long x1), none, some (.long x2), none, some (.long x3), none] [] := by
  unfold g_X9_in at hG
  refine r_lload_n (pc := 0) X dX9_in_0 rfl rfl ?_
  refine r_lload_n (pc := 1) X dX9_in_1 rfl rfl ?_
  refine r_lcmp (pc := 2) X dX9_in_2 hG (fun z1 hG => ?_)
  refine r_join hG (fun a2 => ∀ (y4 : Int32), a2 = y4.toInt → Ev E ad shl p l e rm_X9_in s m args below meth c 0 0 Q 6 h 18 [none, none, none, none, none, none] [.int y4]) (fun a2 hG => ?_) (fun j3 Hj3 hG => ?_)
  · skip
    intro y4 ha; have ha := ha.symm; subst ha
    exact r_zretP (pc := 18) X dX9_in_18 hQ hG
  refine r_join hG (fun _ => Ev E ad shl p l e rm_X9_in s m args below meth c 0 0 Q 6 h 17 [none, none, none, none, none, none] []) (fun a5 hG => ?_) (fun j6 Hj6 hG => ?_)
  · skip
    refine r_iconst (pc := 17) X dX9_in_17 hG rfl (fun z7 hG => ?_)
    exact r_mask [false, false, false, false, false, false] rfl (Hj3 _ hG z7 rfl)
  refine r_if_lt (pc := 3) X dX9_in_3 (tgt := 17) (by decide) hG (fun hG => ?_) (fun hG => ?_)
  · skip
    exact r_mask [false, false, false, false, false, false] rfl (Hj6 _ hG)
  · skip
    refine r_lload_n (pc := 6) X dX9_in_6 rfl rfl ?_
    refine r_lload (pc := 7) X dX9_in_7 rfl ?_
    refine r_lcmp (pc := 9) X dX9_in_9 hG (fun z8 hG => ?_)
    refine r_if_gt (pc := 10) X dX9_in_10 (tgt := 17) (by decide) hG (fun hG => ?_) (fun hG => ?_)
    · skip
      exact r_mask [false, false, false, false, false, false] rfl (Hj6 _ hG)
    · skip
      refine r_iconst (pc := 13) X dX9_in_13 hG rfl (fun z9 hG => ?_)
      refine r_goto (pc := 14) X dX9_in_14 (tgt := 18) (by decide) ?_
      exact r_mask [false, false, false, false, false, false] rfl (Hj3 _ hG z9 rfl)
theorem c_X9_in {x1 : Int64} {x2 : Int64} {x3 : Int64} {r : Int}  (hg : g_X9_in x1.toInt x2.toInt x3.toInt = some r) : Met l yX9_in (wsM yX9_in cX9_in 6 (some .boolean)) rm_X9_in (va_Pc [.long x1, .long x2, .long x3] (World E ad shl h)) (QcI E ad shl r h) 0 0 (bsA E) :=
  met_of (L0 := [some (.long x1), none, some (.long x2), none, some (.long x3), none]) rfl rfl rfl (Nat.le_of_ble_eq_true rfl) (fun _ _ _ _ _ _ _ X => w_X9_in  X rfl hg)
abbrev rm_X9_bad : Room := { frames := 0, cells := 0, slots := 0, locals := 0 }
theorem hdd_X9_bad : yX9_bad.cls = RX9 ∧ yX9_bad.cls ≠ "java/lang/invoke/MethodHandle" ∧ yX9_bad.cls ≠ "java/lang/invoke/VarHandle" ∧ (parseMethodDescriptor yX9_bad.desc).map (fun d => d.parameters.length) = some 1 := ⟨rfl, by decide +kernel, by decide +kernel, by decide +kernel⟩
set_option maxRecDepth 100000 in
set_option maxHeartbeats 4000000 in
theorem w_X9_bad {x1 : Int32} {r : Int × Hp} (Hb0 : At_X9 shl) (X : Cx E p s m args meth c cX9_bad RX9 2 (some .boolean)) (hQ : Q = MQ below (QcI E ad shl r.1 r.2) args s 0 0 (bsA E)) (hG : g_X9_bad x1.toInt h = some r) : Ev E ad shl p l e rm_X9_bad s m args below meth c 0 0 Q 2 h 0 [some (.ref (ad 100)), some (.int x1)] [] := by
  unfold g_X9_bad at hG
  refine r_aload_n (pc := 0) X dX9_bad_0 rfl rfl ?_
  refine r_iload_n (pc := 1) X dX9_bad_1 rfl rfl ?_
  refine r_putI (pc := 2) X (at_X9_o Hb0) rfl mU_X9 (k := 8) (by decide) rfl rfl rfl mF_X9_1 dX9_bad_2 hG (fun h1 hG => ?_)
  refine r_aload_n (pc := 5) X dX9_bad_5 rfl rfl ?_
  refine r_aload_n (pc := 6) X dX9_bad_6 rfl rfl ?_
  refine r_getI (pc := 7) X (at_X9_o Hb0) rfl mU_X9 (k := 3) (by decide) rfl mF_X9_7 dX9_bad_7 hG (fun z2 hG => ?_)
  refine r_putI (pc := 10) X (at_X9_o Hb0) rfl mU_X9 (k := 9) (by decide) rfl rfl rfl mF_X9_10 dX9_bad_10 hG (fun h3 hG => ?_)
  refine r_iconst (pc := 13) X dX9_bad_13 hG rfl (fun z4 hG => ?_)
  exact r_zretW (pc := 14) X dX9_bad_14 hQ hG
theorem c_X9_bad {x1 : Int32} {r : Int × Hp} (Hb0 : At_X9 shl) (hg : g_X9_bad x1.toInt h = some r) : Met l yX9_bad (wsM yX9_bad cX9_bad 2 (some .boolean)) rm_X9_bad (va_Pc [.ref (ad 100), .int x1] (World E ad shl h)) (QcI E ad shl r.1 r.2) 0 0 (bsA E) :=
  met_of (L0 := [some (.ref (ad 100)), some (.int x1)]) rfl rfl rfl (Nat.le_of_ble_eq_true rfl) (fun _ _ _ _ _ _ _ X => w_X9_bad Hb0 X rfl hg)
abbrev rm_X9_byteAt : Room := { frames := 0, cells := 0, slots := 0, locals := 0 }
theorem hdd_X9_byteAt : yX9_byteAt.cls = RX9 ∧ yX9_byteAt.cls ≠ "java/lang/invoke/MethodHandle" ∧ yX9_byteAt.cls ≠ "java/lang/invoke/VarHandle" ∧ (parseMethodDescriptor yX9_byteAt.desc).map (fun d => d.parameters.length) = some 1 := ⟨rfl, by decide +kernel, by decide +kernel, by decide +kernel⟩
set_option maxRecDepth 100000 in
set_option maxHeartbeats 4000000 in
theorem w_X9_byteAt {x1 : Int32} {r : Int} (Hb0 : At_X9 shl) (X : Cx E p s m args meth c cX9_byteAt RX9 2 (some .int)) (hQ : Q = MQ below (QcI E ad shl r h) args s 0 0 (bsA E)) (hG : g_X9_byteAt x1.toInt h = some r) : Ev E ad shl p l e rm_X9_byteAt s m args below meth c 0 0 Q 2 h 0 [some (.ref (ad 100)), some (.int x1)] [] := by
  unfold g_X9_byteAt at hG
  refine r_iload_n (pc := 0) X dX9_byteAt_0 rfl rfl ?_
  refine r_aload_n (pc := 1) X dX9_byteAt_1 rfl rfl ?_
  refine r_getI (pc := 2) X (at_X9_o Hb0) rfl mU_X9 (k := 2) (by decide) rfl mF_X9_13 dX9_byteAt_2 hG (fun z1 hG => ?_)
  refine r_join hG (fun a2 => ∀ (y4 : Int32), a2 = y4.toInt → Ev E ad shl p l e rm_X9_byteAt s m args below meth c 0 0 Q 2 h 22 [none, none] [.int y4]) (fun a2 hG => ?_) (fun j3 Hj3 hG => ?_)
  · skip
    intro y4 ha; have ha := ha.symm; subst ha
    exact r_iretP (pc := 22) X dX9_byteAt_22 hQ hG
  refine r_icmp_ge (pc := 5) X dX9_byteAt_5 (tgt := 21) (by decide) hG (fun hG => ?_) (fun hG => ?_)
  · skip
    refine r_iconst (pc := 21) X dX9_byteAt_21 hG rfl (fun z5 hG => ?_)
    exact r_mask [false, false] rfl (Hj3 _ hG z5 rfl)
  · skip
    refine r_aload_n (pc := 8) X dX9_byteAt_8 rfl rfl ?_
    refine r_getC (pc := 9) X (at_X9_o Hb0) rfl mU_X9 (k := 0) (by decide) (q := 101) rfl mF_X9_16 dX9_byteAt_9 ?_
    refine r_iload_n (pc := 12) X dX9_byteAt_12 rfl rfl ?_
    refine r_bald (pc := 13) X (at_X9_tape Hb0) dX9_byteAt_13 hG (fun z6 hG => ?_)
    refine r_sipush (pc := 14) X dX9_byteAt_14 hG (by decide) (fun z7 hG => ?_)
    refine r_iand (pc := 17) X dX9_byteAt_17 hG (fun z8 hG => ?_)
    refine r_goto (pc := 18) X dX9_byteAt_18 (tgt := 22) (by decide) ?_
    exact r_mask [false, false] rfl (Hj3 _ hG z8 rfl)
theorem c_X9_byteAt {x1 : Int32} {r : Int} (Hb0 : At_X9 shl) (hg : g_X9_byteAt x1.toInt h = some r) : Met l yX9_byteAt (wsM yX9_byteAt cX9_byteAt 2 (some .int)) rm_X9_byteAt (va_Pc [.ref (ad 100), .int x1] (World E ad shl h)) (QcI E ad shl r h) 0 0 (bsA E) :=
  met_of (L0 := [some (.ref (ad 100)), some (.int x1)]) rfl rfl rfl (Nat.le_of_ble_eq_true rfl) (fun _ _ _ _ _ _ _ X => w_X9_byteAt Hb0 X rfl hg)
abbrev rm_X9_isSmall : Room := { frames := 0, cells := 0, slots := 0, locals := 0 }
theorem hdd_X9_isSmall : yX9_isSmall.cls ≠ "java/lang/invoke/MethodHandle" ∧ yX9_isSmall.cls ≠ "java/lang/invoke/VarHandle" ∧ (parseMethodDescriptor yX9_isSmall.desc).map (fun d => d.parameters.length) = some 1 := ⟨by decide +kernel, by decide +kernel, by decide +kernel⟩
set_option maxRecDepth 100000 in
set_option maxHeartbeats 4000000 in
theorem w_X9_isSmall {x1 : Int32} {r : Int}  (X : Cx E p s m args meth c cX9_isSmall RX9 1 (some .boolean)) (hQ : Q = MQ below (QcI E ad shl r h) args s 0 0 (bsA E)) (hG : g_X9_isSmall x1.toInt = some r) : Ev E ad shl p l e rm_X9_isSmall s m args below meth c 0 0 Q 1 h 0 [some (.int x1)] [] := by
  unfold g_X9_isSmall at hG
  refine r_iload_n (pc := 0) X dX9_isSmall_0 rfl rfl ?_
  refine r_bipush (pc := 1) X dX9_isSmall_1 hG (by decide) (fun z1 hG => ?_)
  refine r_join hG (fun a2 => ∀ (y4 : Int32), a2 = y4.toInt → Ev E ad shl p l e rm_X9_isSmall s m args below meth c 0 0 Q 1 h 17 [none] [.int y4]) (fun a2 hG => ?_) (fun j3 Hj3 hG => ?_)
  · skip
    intro y4 ha; have ha := ha.symm; subst ha
    exact r_zretP (pc := 17) X dX9_isSmall_17 hQ hG
  refine r_join hG (fun _ => Ev E ad shl p l e rm_X9_isSmall s m args below meth c 0 0 Q 1 h 16 [none] []) (fun a5 hG => ?_) (fun j6 Hj6 hG => ?_)
  · skip
    refine r_iconst (pc := 16) X dX9_isSmall_16 hG rfl (fun z7 hG => ?_)
    exact r_mask [false] rfl (Hj3 _ hG z7 rfl)
  refine r_icmp_lt (pc := 3) X dX9_isSmall_3 (tgt := 16) (by decide) hG (fun hG => ?_) (fun hG => ?_)
  · skip
    exact r_mask [false] rfl (Hj6 _ hG)
  · skip
    refine r_iload_n (pc := 6) X dX9_isSmall_6 rfl rfl ?_
    refine r_bipush (pc := 7) X dX9_isSmall_7 hG (by decide) (fun z8 hG => ?_)
    refine r_icmp_gt (pc := 9) X dX9_isSmall_9 (tgt := 16) (by decide) hG (fun hG => ?_) (fun hG => ?_)
    · skip
      exact r_mask [false] rfl (Hj6 _ hG)
    · skip
      refine r_iconst (pc := 12) X dX9_isSmall_12 hG rfl (fun z9 hG => ?_)
      refine r_goto (pc := 13) X dX9_isSmall_13 (tgt := 17) (by decide) ?_
      exact r_mask [false] rfl (Hj3 _ hG z9 rfl)
theorem c_X9_isSmall {x1 : Int32} {r : Int}  (hg : g_X9_isSmall x1.toInt = some r) : Met l yX9_isSmall (wsM yX9_isSmall cX9_isSmall 1 (some .boolean)) rm_X9_isSmall (va_Pc [.int x1] (World E ad shl h)) (QcI E ad shl r h) 0 0 (bsA E) :=
  met_of (L0 := [some (.int x1)]) rfl rfl rfl (Nat.le_of_ble_eq_true rfl) (fun _ _ _ _ _ _ _ X => w_X9_isSmall  X rfl hg)
abbrev rm_X9_isDigit : Room := { frames := 0, cells := 0, slots := 0, locals := 0 }
theorem hdd_X9_isDigit : yX9_isDigit.cls ≠ "java/lang/invoke/MethodHandle" ∧ yX9_isDigit.cls ≠ "java/lang/invoke/VarHandle" ∧ (parseMethodDescriptor yX9_isDigit.desc).map (fun d => d.parameters.length) = some 1 := ⟨by decide +kernel, by decide +kernel, by decide +kernel⟩
set_option maxRecDepth 100000 in
set_option maxHeartbeats 4000000 in
theorem w_X9_isDigit {x1 : Int32} {r : Int}  (X : Cx E p s m args meth c cX9_isDigit RX9 1 (some .boolean)) (hQ : Q = MQ below (QcI E ad shl r h) args s 0 0 (bsA E)) (hG : g_X9_isDigit x1.toInt = some r) : Ev E ad shl p l e rm_X9_isDigit s m args below meth c 0 0 Q 1 h 0 [some (.int x1)] [] := by
  unfold g_X9_isDigit at hG
  refine r_iload_n (pc := 0) X dX9_isDigit_0 rfl rfl ?_
  refine r_bipush (pc := 1) X dX9_isDigit_1 hG (by decide) (fun z1 hG => ?_)
  refine r_join hG (fun a2 => ∀ (y4 : Int32), a2 = y4.toInt → Ev E ad shl p l e rm_X9_isDigit s m args below meth c 0 0 Q 1 h 17 [none] [.int y4]) (fun a2 hG => ?_) (fun j3 Hj3 hG => ?_)
  · skip
    intro y4 ha; have ha := ha.symm; subst ha
    exact r_zretP (pc := 17) X dX9_isDigit_17 hQ hG
  refine r_join hG (fun _ => Ev E ad shl p l e rm_X9_isDigit s m args below meth c 0 0 Q 1 h 16 [none] []) (fun a5 hG => ?_) (fun j6 Hj6 hG => ?_)
  · skip
    refine r_iconst (pc := 16) X dX9_isDigit_16 hG rfl (fun z7 hG => ?_)
    exact r_mask [false] rfl (Hj3 _ hG z7 rfl)
  refine r_icmp_lt (pc := 3) X dX9_isDigit_3 (tgt := 16) (by decide) hG (fun hG => ?_) (fun hG => ?_)
  · skip
    exact r_mask [false] rfl (Hj6 _ hG)
  · skip
    refine r_iload_n (pc := 6) X dX9_isDigit_6 rfl rfl ?_
    refine r_bipush (pc := 7) X dX9_isDigit_7 hG (by decide) (fun z8 hG => ?_)
    refine r_icmp_gt (pc := 9) X dX9_isDigit_9 (tgt := 16) (by decide) hG (fun hG => ?_) (fun hG => ?_)
    · skip
      exact r_mask [false] rfl (Hj6 _ hG)
    · skip
      refine r_iconst (pc := 12) X dX9_isDigit_12 hG rfl (fun z9 hG => ?_)
      refine r_goto (pc := 13) X dX9_isDigit_13 (tgt := 17) (by decide) ?_
      exact r_mask [false] rfl (Hj3 _ hG z9 rfl)
theorem c_X9_isDigit {x1 : Int32} {r : Int}  (hg : g_X9_isDigit x1.toInt = some r) : Met l yX9_isDigit (wsM yX9_isDigit cX9_isDigit 1 (some .boolean)) rm_X9_isDigit (va_Pc [.int x1] (World E ad shl h)) (QcI E ad shl r h) 0 0 (bsA E) :=
  met_of (L0 := [some (.int x1)]) rfl rfl rfl (Nat.le_of_ble_eq_true rfl) (fun _ _ _ _ _ _ _ X => w_X9_isDigit  X rfl hg)
abbrev rm_X9_scan : Room := { frames := 1, cells := 0, slots := 0, locals := 21 }
theorem hdd_X9_scan : yX9_scan.cls = RX9 ∧ yX9_scan.cls ≠ "java/lang/invoke/MethodHandle" ∧ yX9_scan.cls ≠ "java/lang/invoke/VarHandle" ∧ (parseMethodDescriptor yX9_scan.desc).map (fun d => d.parameters.length) = some 0 := ⟨rfl, by decide +kernel, by decide +kernel, by decide +kernel⟩
set_option maxRecDepth 100000 in
set_option maxHeartbeats 4000000 in
theorem w_X9_scan  {r : Hp} (Hb0 : At_X9 shl) (X : Cx E p s m args meth c cX9_scan RX9 2 none) (hQ : Q = MQ below (QcV E ad shl r) args s 0 0 (bsA E)) (hG : g_X9_scan h = some r) : Ev E ad shl p l e rm_X9_scan s m args below meth c 0 0 Q 2 h 0 [some (.ref (ad 100)), none] [] := by
  unfold g_X9_scan at hG
  refine r_join hG (fun a1 => ∀ (h3 : Hp), a1 = h3 → Ev E ad shl p l e rm_X9_scan s m args below meth c 0 0 Q 2 h3 52 [some (.ref (ad 100)), none] []) (fun a1 hG => ?_) (fun j2 Hj2 hG => ?_)
  · skip
    intro h3 ha; have ha := ha.symm; subst ha
    refine r_aload_n (pc := 52) X dX9_scan_52 rfl rfl ?_
    refine r_aload_n (pc := 53) X dX9_scan_53 rfl rfl ?_
    refine r_getI (pc := 54) X (at_X9_o Hb0) rfl mU_X9 (k := 4) (by decide) rfl mF_X9_20 dX9_scan_54 hG (fun z4 hG => ?_)
    refine r_putI (pc := 57) X (at_X9_o Hb0) rfl mU_X9 (k := 3) (by decide) rfl rfl rfl mF_X9_7 dX9_scan_57 hG (fun h5 hG => ?_)
    refine r_aload_n (pc := 60) X dX9_scan_60 rfl rfl ?_
    refine r_aload_n (pc := 61) X dX9_scan_61 rfl rfl ?_
    refine r_getI (pc := 62) X (at_X9_o Hb0) rfl mU_X9 (k := 3) (by decide) rfl mF_X9_7 dX9_scan_62 hG (fun z6 hG => ?_)
    refine r_cP (pc := 65) hG (fun _ hg => runV X dX9_scan_65 (c_X9_byteAt Hb0 hg) mM_X9_23 mI_X9_byteAt mE_X9_byteAt mN_X9 mK_X9_byteAt (at_X9_o Hb0) rfl rfl rfl rfl hdd_X9_byteAt ⟨(Nat.le_of_ble_eq_true rfl), (Nat.le_of_ble_eq_true rfl)⟩ rfl rfl (Nat.le_of_ble_eq_true rfl) ⟨(Nat.le_of_ble_eq_true rfl), (Nat.le_of_ble_eq_true rfl)⟩) (fun z7 hG => ?_)
    refine r_istore_n (pc := 68) (L' := [some (.ref (ad 100)), some (.int z7)]) X dX9_scan_68 rfl (by decide) rfl rfl ?_
    refine r_aload_n (pc := 69) X dX9_scan_69 rfl rfl ?_
    refine r_getI (pc := 70) X (at_X9_o Hb0) rfl mU_X9 (k := 3) (by decide) rfl mF_X9_7 dX9_scan_70 hG (fun z8 hG => ?_)
    refine r_aload_n (pc := 73) X dX9_scan_73 rfl rfl ?_
    refine r_getI (pc := 74) X (at_X9_o Hb0) rfl mU_X9 (k := 2) (by decide) rfl mF_X9_13 dX9_scan_74 hG (fun z9 hG => ?_)
    refine r_join hG (fun a10 => ∀ (h12 : Hp), a10 = h12 → Ev E ad shl p l e rm_X9_scan s m args below meth c 0 0 Q 2 h12 273 [none, none] []) (fun a10 hG => ?_) (fun j11 Hj11 hG => ?_)
    · skip
      intro h12 ha; have ha := ha.symm; subst ha
      exact r_vret (pc := 273) X dX9_scan_273 hQ hG
    refine r_icmp_ne (pc := 77) X dX9_scan_77 (tgt := 88) (by decide) hG (fun hG => ?_) (fun hG => ?_)
    · skip
      refine r_iload_n (pc := 88) X dX9_scan_88 rfl rfl ?_
      refine r_cP (pc := 89) hG (fun _ hg => runS X dX9_scan_89 (c_X9_isSmall  hg) mM_X9_30 mS_X9_isSmall mN_X9 mK_X9_isSmall rfl rfl hdd_X9_isSmall ⟨(Nat.le_of_ble_eq_true rfl), (Nat.le_of_ble_eq_true rfl)⟩ rfl rfl (Nat.le_of_ble_eq_true rfl) ⟨(Nat.le_of_ble_eq_true rfl), (Nat.le_of_ble_eq_true rfl)⟩) (fun z13 hG => ?_)
      refine r_if_eq (pc := 92) X dX9_scan_92 (tgt := 148) (by decide) hG (fun hG => ?_) (fun hG => ?_)
      · skip
        refine r_iload_n (pc := 148) X dX9_scan_148 rfl rfl ?_
        refine r_cP (pc := 149) hG (fun _ hg => runS X dX9_scan_149 (c_X9_isDigit  hg) mM_X9_34 mS_X9_isDigit mN_X9 mK_X9_isDigit rfl rfl hdd_X9_isDigit ⟨(Nat.le_of_ble_eq_true rfl), (Nat.le_of_ble_eq_true rfl)⟩ rfl rfl (Nat.le_of_ble_eq_true rfl) ⟨(Nat.le_of_ble_eq_true rfl), (Nat.le_of_ble_eq_true rfl)⟩) (fun z14 hG => ?_)
        refine r_if_eq (pc := 152) X dX9_scan_152 (tgt := 248) (by decide) hG (fun hG => ?_) (fun hG => ?_)
        · skip
          refine r_aload_n (pc := 248) X dX9_scan_248 rfl rfl ?_
          refine r_iload_n (pc := 249) X dX9_scan_249 rfl rfl ?_
          refine r_bipush (pc := 250) X dX9_scan_250 hG (by decide) (fun z15 hG => ?_)
          refine r_join hG (fun a16 => ∀ (y18 : Int32), a16 = y18.toInt → Ev E ad shl p l e rm_X9_scan s m args below meth c 0 0 Q 2 h5 260 [some (.ref (ad 100)), none] [.int y18, .ref (ad 100)]) (fun a16 hG => ?_) (fun j17 Hj17 hG => ?_)
          · skip
            intro y18 ha; have ha := ha.symm; subst ha
            refine r_putI (pc := 260) X (at_X9_o Hb0) rfl mU_X9 (k := 5) (by decide) rfl rfl rfl mF_X9_27 dX9_scan_260 hG (fun h19 hG => ?_)
            refine r_aload_n (pc := 263) X dX9_scan_263 rfl rfl ?_
            refine r_dup (pc := 264) X dX9_scan_264 rfl ?_
            refine r_getI (pc := 265) X (at_X9_o Hb0) rfl mU_X9 (k := 4) (by decide) rfl mF_X9_20 dX9_scan_265 hG (fun z20 hG => ?_)
            refine r_iconst (pc := 268) X dX9_scan_268 hG rfl (fun z21 hG => ?_)
            refine r_iadd (pc := 269) X dX9_scan_269 hG (fun z22 hG => ?_)
            refine r_putI (pc := 270) X (at_X9_o Hb0) rfl mU_X9 (k := 4) (by decide) rfl rfl rfl mF_X9_20 dX9_scan_270 hG (fun h23 hG => ?_)
            exact r_mask [false, false] rfl (Hj11 _ hG h23 rfl)
          refine r_icmp_ne (pc := 252) X dX9_scan_252 (tgt := 259) (by decide) hG (fun hG => ?_) (fun hG => ?_)
          · skip
            refine r_iconst (pc := 259) X dX9_scan_259 hG rfl (fun z24 hG => ?_)
            exact r_mask [true, false] rfl (Hj17 _ hG z24 rfl)
          · skip
            refine r_iconst (pc := 255) X dX9_scan_255 hG rfl (fun z25 hG => ?_)
            refine r_goto (pc := 256) X dX9_scan_256 (tgt := 260) (by decide) ?_
            exact r_mask [true, false] rfl (Hj17 _ hG z25 rfl)
        · skip
          refine r_aload_n (pc := 155) X dX9_scan_155 rfl rfl ?_
          refine r_iconst (pc := 156) X dX9_scan_156 hG rfl (fun z26 hG => ?_)
          refine r_putI (pc := 157) X (at_X9_o Hb0) rfl mU_X9 (k := 6) (by decide) rfl rfl rfl mF_X9_37 dX9_scan_157 hG (fun h27 hG => ?_)
          refine r_join hG (fun a28 => ∀ (h30 : Hp), a28 = h30 → Ev E ad shl p l e rm_X9_scan s m args below meth c 0 0 Q 2 h30 223 [some (.ref (ad 100)), none] []) (fun a28 hG => ?_) (fun j29 Hj29 hG => ?_)
          · skip
            intro h30 ha; have ha := ha.symm; subst ha
            refine r_aload_n (pc := 223) X dX9_scan_223 rfl rfl ?_
            refine r_aload_n (pc := 224) X dX9_scan_224 rfl rfl ?_
            refine r_getI (pc := 225) X (at_X9_o Hb0) rfl mU_X9 (k := 4) (by decide) rfl mF_X9_20 dX9_scan_225 hG (fun z31 hG => ?_)
            refine r_aload_n (pc := 228) X dX9_scan_228 rfl rfl ?_
            refine r_getI (pc := 229) X (at_X9_o Hb0) rfl mU_X9 (k := 3) (by decide) rfl mF_X9_7 dX9_scan_229 hG (fun z32 hG => ?_)
            refine r_isub (pc := 232) X dX9_scan_232 hG (fun z33 hG => ?_)
            refine r_iconst (pc := 233) X dX9_scan_233 hG rfl (fun z34 hG => ?_)
            refine r_join hG (fun a35 => ∀ (y37 : Int32), a35 = y37.toInt → Ev E ad shl p l e rm_X9_scan s m args below meth c 0 0 Q 2 h30 242 [none, none] [.int y37, .ref (ad 100)]) (fun a35 hG => ?_) (fun j36 Hj36 hG => ?_)
            · skip
              intro y37 ha; have ha := ha.symm; subst ha
              refine r_putI (pc := 242) X (at_X9_o Hb0) rfl mU_X9 (k := 5) (by decide) rfl rfl rfl mF_X9_27 dX9_scan_242 hG (fun h38 hG => ?_)
              refine r_goto (pc := 245) X dX9_scan_245 (tgt := 273) (by decide) ?_
              exact r_mask [false, false] rfl (Hj11 _ hG h38 rfl)
            refine r_icmp_le (pc := 234) X dX9_scan_234 (tgt := 241) (by decide) hG (fun hG => ?_) (fun hG => ?_)
            · skip
              refine r_iconst (pc := 241) X dX9_scan_241 hG rfl (fun z39 hG => ?_)
              exact r_mask [false, false] rfl (Hj36 _ hG z39 rfl)
            · skip
              refine r_iconst (pc := 237) X dX9_scan_237 hG rfl (fun z40 hG => ?_)
              refine r_goto (pc := 238) X dX9_scan_238 (tgt := 242) (by decide) ?_
              exact r_mask [false, false] rfl (Hj36 _ hG z40 rfl)
          refine r_mask [true, false] rfl (r_loop (fun q41 => ∀ (h43 : Hp), q41 = h43 → Ev E ad shl p l e rm_X9_scan s m args below meth c 0 0 Q 2 h43 160 [some (.ref (ad 100)), none] []) (fun l42 Hl42 q41 hG => ?_) FU _ hG h27 rfl)
          intro h43 ha; have ha := ha.symm; subst ha
          unfold g_X9_scan_l42 at hG
          refine r_aload_n (pc := 160) X dX9_scan_160 rfl rfl ?_
          refine r_aload_n (pc := 161) X dX9_scan_161 rfl rfl ?_
          refine r_getI (pc := 162) X (at_X9_o Hb0) rfl mU_X9 (k := 4) (by decide) rfl mF_X9_20 dX9_scan_162 hG (fun z44 hG => ?_)
          refine r_cP (pc := 165) hG (fun _ hg => runV X dX9_scan_165 (c_X9_byteAt Hb0 hg) mM_X9_23 mI_X9_byteAt mE_X9_byteAt mN_X9 mK_X9_byteAt (at_X9_o Hb0) rfl rfl rfl rfl hdd_X9_byteAt ⟨(Nat.le_of_ble_eq_true rfl), (Nat.le_of_ble_eq_true rfl)⟩ rfl rfl (Nat.le_of_ble_eq_true rfl) ⟨(Nat.le_of_ble_eq_true rfl), (Nat.le_of_ble_eq_true rfl)⟩) (fun z45 hG => ?_)
          refine r_cP (pc := 168) hG (fun _ hg => runS X dX9_scan_168 (c_X9_isDigit  hg) mM_X9_34 mS_X9_isDigit mN_X9 mK_X9_isDigit rfl rfl hdd_X9_isDigit ⟨(Nat.le_of_ble_eq_true rfl), (Nat.le_of_ble_eq_true rfl)⟩ rfl rfl (Nat.le_of_ble_eq_true rfl) ⟨(Nat.le_of_ble_eq_true rfl), (Nat.le_of_ble_eq_true rfl)⟩) (fun z46 hG => ?_)
          refine r_if_eq (pc := 171) X dX9_scan_171 (tgt := 223) (by decide) hG (fun hG => ?_) (fun hG => ?_)
          · skip
            exact r_mask [true, false] rfl (Hj29 _ hG h43 rfl)
          · skip
            refine r_aload_n (pc := 174) X dX9_scan_174 rfl rfl ?_
            refine r_getI (pc := 175) X (at_X9_o Hb0) rfl mU_X9 (k := 4) (by decide) rfl mF_X9_20 dX9_scan_175 hG (fun z47 hG => ?_)
            refine r_aload_n (pc := 178) X dX9_scan_178 rfl rfl ?_
            refine r_getI (pc := 179) X (at_X9_o Hb0) rfl mU_X9 (k := 3) (by decide) rfl mF_X9_7 dX9_scan_179 hG (fun z48 hG => ?_)
            refine r_isub (pc := 182) X dX9_scan_182 hG (fun z49 hG => ?_)
            refine r_iconst (pc := 183) X dX9_scan_183 hG rfl (fun z50 hG => ?_)
            refine r_join hG (fun a51 => ∀ (h53 : Hp), a51 = h53 → Ev E ad shl p l e rm_X9_scan s m args below meth c 0 0 Q 2 h53 210 [some (.ref (ad 100)), none] []) (fun a51 hG => ?_) (fun j52 Hj52 hG => ?_)
            · skip
              intro h53 ha; have ha := ha.symm; subst ha
              refine r_aload_n (pc := 210) X dX9_scan_210 rfl rfl ?_
              refine r_dup (pc := 211) X dX9_scan_211 rfl ?_
              refine r_getI (pc := 212) X (at_X9_o Hb0) rfl mU_X9 (k := 4) (by decide) rfl mF_X9_20 dX9_scan_212 hG (fun z54 hG => ?_)
              refine r_iconst (pc := 215) X dX9_scan_215 hG rfl (fun z55 hG => ?_)
              refine r_iadd (pc := 216) X dX9_scan_216 hG (fun z56 hG => ?_)
              refine r_putI (pc := 217) X (at_X9_o Hb0) rfl mU_X9 (k := 4) (by decide) rfl rfl rfl mF_X9_20 dX9_scan_217 hG (fun h57 hG => ?_)
              refine r_goto (pc := 220) X dX9_scan_220 (tgt := 160) (by decide) ?_
              exact r_mask [true, false] rfl (Hl42 _ hG h57 rfl)
            refine r_icmp_ge (pc := 184) X dX9_scan_184 (tgt := 210) (by decide) hG (fun hG => ?_) (fun hG => ?_)
            · skip
              exact r_mask [true, false] rfl (Hj52 _ hG h43 rfl)
            · skip
              refine r_aload_n (pc := 187) X dX9_scan_187 rfl rfl ?_
              refine r_bipush (pc := 188) X dX9_scan_188 hG (by decide) (fun z58 hG => ?_)
              refine r_aload_n (pc := 190) X dX9_scan_190 rfl rfl ?_
              refine r_getI (pc := 191) X (at_X9_o Hb0) rfl mU_X9 (k := 6) (by decide) rfl mF_X9_37 dX9_scan_191 hG (fun z59 hG => ?_)
              refine r_imul (pc := 194) X dX9_scan_194 hG (fun z60 hG => ?_)
              refine r_aload_n (pc := 195) X dX9_scan_195 rfl rfl ?_
              refine r_aload_n (pc := 196) X dX9_scan_196 rfl rfl ?_
              refine r_getI (pc := 197) X (at_X9_o Hb0) rfl mU_X9 (k := 4) (by decide) rfl mF_X9_20 dX9_scan_197 hG (fun z61 hG => ?_)
              refine r_cP (pc := 200) hG (fun _ hg => runV X dX9_scan_200 (c_X9_byteAt Hb0 hg) mM_X9_23 mI_X9_byteAt mE_X9_byteAt mN_X9 mK_X9_byteAt (at_X9_o Hb0) rfl rfl rfl rfl hdd_X9_byteAt ⟨(Nat.le_of_ble_eq_true rfl), (Nat.le_of_ble_eq_true rfl)⟩ rfl rfl (Nat.le_of_ble_eq_true rfl) ⟨(Nat.le_of_ble_eq_true rfl), (Nat.le_of_ble_eq_true rfl)⟩) (fun z62 hG => ?_)
              refine r_iadd (pc := 203) X dX9_scan_203 hG (fun z63 hG => ?_)
              refine r_bipush (pc := 204) X dX9_scan_204 hG (by decide) (fun z64 hG => ?_)
              refine r_isub (pc := 206) X dX9_scan_206 hG (fun z65 hG => ?_)
              refine r_putI (pc := 207) X (at_X9_o Hb0) rfl mU_X9 (k := 6) (by decide) rfl rfl rfl mF_X9_37 dX9_scan_207 hG (fun h66 hG => ?_)
              exact r_mask [true, false] rfl (Hj52 _ hG h66 rfl)
      · skip
        refine r_join hG (fun a67 => ∀ (h69 : Hp), a67 = h69 → Ev E ad shl p l e rm_X9_scan s m args below meth c 0 0 Q 2 h69 122 [some (.ref (ad 100)), none] []) (fun a67 hG => ?_) (fun j68 Hj68 hG => ?_)
        · skip
          intro h69 ha; have ha := ha.symm; subst ha
          refine r_aload_n (pc := 122) X dX9_scan_122 rfl rfl ?_
          refine r_aload_n (pc := 123) X dX9_scan_123 rfl rfl ?_
          refine r_getI (pc := 124) X (at_X9_o Hb0) rfl mU_X9 (k := 4) (by decide) rfl mF_X9_20 dX9_scan_124 hG (fun z70 hG => ?_)
          refine r_aload_n (pc := 127) X dX9_scan_127 rfl rfl ?_
          refine r_getI (pc := 128) X (at_X9_o Hb0) rfl mU_X9 (k := 3) (by decide) rfl mF_X9_7 dX9_scan_128 hG (fun z71 hG => ?_)
          refine r_isub (pc := 131) X dX9_scan_131 hG (fun z72 hG => ?_)
          refine r_bipush (pc := 132) X dX9_scan_132 hG (by decide) (fun z73 hG => ?_)
          refine r_join hG (fun a74 => ∀ (y76 : Int32), a74 = y76.toInt → Ev E ad shl p l e rm_X9_scan s m args below meth c 0 0 Q 2 h69 142 [none, none] [.int y76, .ref (ad 100)]) (fun a74 hG => ?_) (fun j75 Hj75 hG => ?_)
          · skip
            intro y76 ha; have ha := ha.symm; subst ha
            refine r_putI (pc := 142) X (at_X9_o Hb0) rfl mU_X9 (k := 5) (by decide) rfl rfl rfl mF_X9_27 dX9_scan_142 hG (fun h77 hG => ?_)
            refine r_goto (pc := 145) X dX9_scan_145 (tgt := 273) (by decide) ?_
            exact r_mask [false, false] rfl (Hj11 _ hG h77 rfl)
          refine r_icmp_le (pc := 134) X dX9_scan_134 (tgt := 141) (by decide) hG (fun hG => ?_) (fun hG => ?_)
          · skip
            refine r_iconst (pc := 141) X dX9_scan_141 hG rfl (fun z78 hG => ?_)
            exact r_mask [false, false] rfl (Hj75 _ hG z78 rfl)
          · skip
            refine r_iconst (pc := 137) X dX9_scan_137 hG rfl (fun z79 hG => ?_)
            refine r_goto (pc := 138) X dX9_scan_138 (tgt := 142) (by decide) ?_
            exact r_mask [false, false] rfl (Hj75 _ hG z79 rfl)
        refine r_mask [true, false] rfl (r_loop (fun q80 => ∀ (h82 : Hp), q80 = h82 → Ev E ad shl p l e rm_X9_scan s m args below meth c 0 0 Q 2 h82 95 [some (.ref (ad 100)), none] []) (fun l81 Hl81 q80 hG => ?_) FU _ hG h5 rfl)
        intro h82 ha; have ha := ha.symm; subst ha
        unfold g_X9_scan_l81 at hG
        refine r_aload_n (pc := 95) X dX9_scan_95 rfl rfl ?_
        refine r_aload_n (pc := 96) X dX9_scan_96 rfl rfl ?_
        refine r_getI (pc := 97) X (at_X9_o Hb0) rfl mU_X9 (k := 4) (by decide) rfl mF_X9_20 dX9_scan_97 hG (fun z83 hG => ?_)
        refine r_cP (pc := 100) hG (fun _ hg => runV X dX9_scan_100 (c_X9_byteAt Hb0 hg) mM_X9_23 mI_X9_byteAt mE_X9_byteAt mN_X9 mK_X9_byteAt (at_X9_o Hb0) rfl rfl rfl rfl hdd_X9_byteAt ⟨(Nat.le_of_ble_eq_true rfl), (Nat.le_of_ble_eq_true rfl)⟩ rfl rfl (Nat.le_of_ble_eq_true rfl) ⟨(Nat.le_of_ble_eq_true rfl), (Nat.le_of_ble_eq_true rfl)⟩) (fun z84 hG => ?_)
        refine r_cP (pc := 103) hG (fun _ hg => runS X dX9_scan_103 (c_X9_isSmall  hg) mM_X9_30 mS_X9_isSmall mN_X9 mK_X9_isSmall rfl rfl hdd_X9_isSmall ⟨(Nat.le_of_ble_eq_true rfl), (Nat.le_of_ble_eq_true rfl)⟩ rfl rfl (Nat.le_of_ble_eq_true rfl) ⟨(Nat.le_of_ble_eq_true rfl), (Nat.le_of_ble_eq_true rfl)⟩) (fun z85 hG => ?_)
        refine r_if_eq (pc := 106) X dX9_scan_106 (tgt := 122) (by decide) hG (fun hG => ?_) (fun hG => ?_)
        · skip
          exact r_mask [true, false] rfl (Hj68 _ hG h82 rfl)
        · skip
          refine r_aload_n (pc := 109) X dX9_scan_109 rfl rfl ?_
          refine r_dup (pc := 110) X dX9_scan_110 rfl ?_
          refine r_getI (pc := 111) X (at_X9_o Hb0) rfl mU_X9 (k := 4) (by decide) rfl mF_X9_20 dX9_scan_111 hG (fun z86 hG => ?_)
          refine r_iconst (pc := 114) X dX9_scan_114 hG rfl (fun z87 hG => ?_)
          refine r_iadd (pc := 115) X dX9_scan_115 hG (fun z88 hG => ?_)
          refine r_putI (pc := 116) X (at_X9_o Hb0) rfl mU_X9 (k := 4) (by decide) rfl rfl rfl mF_X9_20 dX9_scan_116 hG (fun h89 hG => ?_)
          refine r_goto (pc := 119) X dX9_scan_119 (tgt := 95) (by decide) ?_
          exact r_mask [true, false] rfl (Hl81 _ hG h89 rfl)
    · skip
      refine r_aload_n (pc := 80) X dX9_scan_80 rfl rfl ?_
      refine r_iconst (pc := 81) X dX9_scan_81 hG rfl (fun z90 hG => ?_)
      refine r_putI (pc := 82) X (at_X9_o Hb0) rfl mU_X9 (k := 5) (by decide) rfl rfl rfl mF_X9_27 dX9_scan_82 hG (fun h91 hG => ?_)
      refine r_goto (pc := 85) X dX9_scan_85 (tgt := 273) (by decide) ?_
      exact r_mask [false, false] rfl (Hj11 _ hG h91 rfl)
  refine r_mask [true, false] rfl (r_loop (fun q92 => ∀ (h94 : Hp), q92 = h94 → Ev E ad shl p l e rm_X9_scan s m args below meth c 0 0 Q 2 h94 0 [some (.ref (ad 100)), none] []) (fun l93 Hl93 q92 hG => ?_) FU _ hG h rfl)
  intro h94 ha; have ha := ha.symm; subst ha
  unfold g_X9_scan_l93 at hG
  refine r_aload_n (pc := 0) X dX9_scan_0 rfl rfl ?_
  refine r_getI (pc := 1) X (at_X9_o Hb0) rfl mU_X9 (k := 4) (by decide) rfl mF_X9_20 dX9_scan_1 hG (fun z95 hG => ?_)
  refine r_aload_n (pc := 4) X dX9_scan_4 rfl rfl ?_
  refine r_getI (pc := 5) X (at_X9_o Hb0) rfl mU_X9 (k := 2) (by decide) rfl mF_X9_13 dX9_scan_5 hG (fun z96 hG => ?_)
  refine r_icmp_ge (pc := 8) X dX9_scan_8 (tgt := 52) (by decide) hG (fun hG => ?_) (fun hG => ?_)
  · skip
    exact r_mask [true, false] rfl (Hj2 _ hG h94 rfl)
  · skip
    refine r_aload_n (pc := 11) X dX9_scan_11 rfl rfl ?_
    refine r_getC (pc := 12) X (at_X9_o Hb0) rfl mU_X9 (k := 0) (by decide) (q := 101) rfl mF_X9_16 dX9_scan_12 ?_
    refine r_aload_n (pc := 15) X dX9_scan_15 rfl rfl ?_
    refine r_getI (pc := 16) X (at_X9_o Hb0) rfl mU_X9 (k := 4) (by decide) rfl mF_X9_20 dX9_scan_16 hG (fun z97 hG => ?_)
    refine r_bald (pc := 19) X (at_X9_tape Hb0) dX9_scan_19 hG (fun z98 hG => ?_)
    refine r_bipush (pc := 20) X dX9_scan_20 hG (by decide) (fun z99 hG => ?_)
    refine r_join hG (fun _ => Ev E ad shl p l e rm_X9_scan s m args below meth c 0 0 Q 2 h94 39 [some (.ref (ad 100)), none] []) (fun a100 hG => ?_) (fun j101 Hj101 hG => ?_)
    · skip
      refine r_aload_n (pc := 39) X dX9_scan_39 rfl rfl ?_
      refine r_dup (pc := 40) X dX9_scan_40 rfl ?_
      refine r_getI (pc := 41) X (at_X9_o Hb0) rfl mU_X9 (k := 4) (by decide) rfl mF_X9_20 dX9_scan_41 hG (fun z102 hG => ?_)
      refine r_iconst (pc := 44) X dX9_scan_44 hG rfl (fun z103 hG => ?_)
      refine r_iadd (pc := 45) X dX9_scan_45 hG (fun z104 hG => ?_)
      refine r_putI (pc := 46) X (at_X9_o Hb0) rfl mU_X9 (k := 4) (by decide) rfl rfl rfl mF_X9_20 dX9_scan_46 hG (fun h105 hG => ?_)
      refine r_goto (pc := 49) X dX9_scan_49 (tgt := 0) (by decide) ?_
      exact r_mask [true, false] rfl (Hl93 _ hG h105 rfl)
    refine r_icmp_eq (pc := 22) X dX9_scan_22 (tgt := 39) (by decide) hG (fun hG => ?_) (fun hG => ?_)
    · skip
      exact r_mask [true, false] rfl (Hj101 _ hG)
    · skip
      refine r_aload_n (pc := 25) X dX9_scan_25 rfl rfl ?_
      refine r_getC (pc := 26) X (at_X9_o Hb0) rfl mU_X9 (k := 0) (by decide) (q := 101) rfl mF_X9_16 dX9_scan_26 ?_
      refine r_aload_n (pc := 29) X dX9_scan_29 rfl rfl ?_
      refine r_getI (pc := 30) X (at_X9_o Hb0) rfl mU_X9 (k := 4) (by decide) rfl mF_X9_20 dX9_scan_30 hG (fun z106 hG => ?_)
      refine r_bald (pc := 33) X (at_X9_tape Hb0) dX9_scan_33 hG (fun z107 hG => ?_)
      refine r_bipush (pc := 34) X dX9_scan_34 hG (by decide) (fun z108 hG => ?_)
      refine r_icmp_ne (pc := 36) X dX9_scan_36 (tgt := 52) (by decide) hG (fun hG => ?_) (fun hG => ?_)
      · skip
        exact r_mask [true, false] rfl (Hj2 _ hG h94 rfl)
      · skip
        exact r_mask [true, false] rfl (Hj101 _ hG)
theorem c_X9_scan  {r : Hp} (Hb0 : At_X9 shl) (hg : g_X9_scan h = some r) : Met l yX9_scan (wsM yX9_scan cX9_scan 2 none) rm_X9_scan (va_Pc [.ref (ad 100)] (World E ad shl h)) (QcV E ad shl r) 0 0 (bsA E) :=
  met_of (L0 := [some (.ref (ad 100)), none]) rfl rfl rfl (Nat.le_of_ble_eq_true rfl) (fun _ _ _ _ _ _ _ X => w_X9_scan Hb0 X rfl hg)
abbrev rm_X9_is : Room := { frames := 4, cells := 0, slots := 0, locals := 85 }
theorem hdd_X9_is : yX9_is.cls = RX9 ∧ yX9_is.cls ≠ "java/lang/invoke/MethodHandle" ∧ yX9_is.cls ≠ "java/lang/invoke/VarHandle" ∧ (parseMethodDescriptor yX9_is.desc).map (fun d => d.parameters.length) = some 1 := ⟨rfl, by decide +kernel, by decide +kernel, by decide +kernel⟩
set_option maxRecDepth 100000 in
set_option maxHeartbeats 4000000 in
theorem w_X9_is {k1 : Nat} {q1 : String × Nat × String} {r : Int} (Hb0 : At_X9 shl) (Hq1 : strL[k1]? = some q1) (X : Cx E p s m args meth c cX9_is RX9 4 (some .boolean)) (hQ : Q = MQ below (QcI E ad shl r h) args s 0 0 (bsA E)) (hG : g_X9_is (strC k1) h = some r) : Ev E ad shl p l e rm_X9_is s m args below meth c 0 0 Q 4 h 0 [some (.ref (ad 100)), some (.ref (E.2.2.2.2.1 k1)), none, none] [] := by
  unfold g_X9_is at hG
  refine r_aload_n (pc := 0) X dX9_is_0 rfl rfl ?_
  refine r_getI (pc := 1) X (at_X9_o Hb0) rfl mU_X9 (k := 5) (by decide) rfl mF_X9_27 dX9_is_1 hG (fun z1 hG => ?_)
  refine r_iconst (pc := 4) X dX9_is_4 hG rfl (fun z2 hG => ?_)
  refine r_join hG (fun a3 => ∀ (y5 : Int32), a3 = y5.toInt → Ev E ad shl p l e rm_X9_is s m args below meth c 0 0 Q 4 h 29 [some (.ref (ad 100)), some (.ref (E.2.2.2.2.1 k1)), none, none] [.int y5]) (fun a3 hG => ?_) (fun j4 Hj4 hG => ?_)
  · skip
    intro y5 ha; have ha := ha.symm; subst ha
    refine r_istore_n (pc := 29) (L' := [some (.ref (ad 100)), some (.ref (E.2.2.2.2.1 k1)), some (.int y5), none]) X dX9_is_29 rfl (by decide) rfl rfl ?_
    refine r_iconst (pc := 30) X dX9_is_30 hG rfl (fun z6 hG => ?_)
    refine r_istore_n (pc := 31) (L' := [some (.ref (ad 100)), some (.ref (E.2.2.2.2.1 k1)), some (.int y5), some (.int z6)]) X dX9_is_31 rfl (by decide) rfl rfl ?_
    refine r_join hG (fun a7 => ∀ (y9 : Int32), a7 = y9.toInt → Ev E ad shl p l e rm_X9_is s m args below meth c 0 0 Q 4 h 75 [none, none, some (.int y9), none] []) (fun a7 hG => ?_) (fun j8 Hj8 hG => ?_)
    · skip
      intro y9 ha; have ha := ha.symm; subst ha
      refine r_iload_n (pc := 75) X dX9_is_75 rfl rfl ?_
      exact r_zretP (pc := 76) X dX9_is_76 hQ hG
    refine r_mask [true, true, true, true] rfl (r_loop (fun q10 => ∀ (y12 : Int32) (y13 : Int32), q10 = (y12.toInt, y13.toInt) → Ev E ad shl p l e rm_X9_is s m args below meth c 0 0 Q 4 h 32 [some (.ref (ad 100)), some (.ref (E.2.2.2.2.1 k1)), some (.int y12), some (.int y13)] []) (fun l11 Hl11 q10 hG => ?_) FU _ hG y5 z6 rfl)
    intro y12 y13 ha; have ha := ha.symm; subst ha
    unfold g_X9_is_l11 at hG
    refine r_iload_n (pc := 32) X dX9_is_32 rfl rfl ?_
    refine r_aload_n (pc := 33) X dX9_is_33 rfl rfl ?_
    refine r_cP (pc := 34) hG (fun _ hg => runStr X dX9_is_34 Hq1 (c_J0_length_8abf5 Hq1 hg) mM_X9_40 mI_J0_length_8abf5 mE_J0_length_8abf5 mK_J0_length_8abf5 rfl rfl hdd_J0_length_8abf5 ⟨(Nat.le_of_ble_eq_true rfl), (Nat.le_of_ble_eq_true rfl)⟩ rfl rfl (Nat.le_of_ble_eq_true rfl) ⟨(Nat.le_of_ble_eq_true rfl), (Nat.le_of_ble_eq_true rfl)⟩) (fun z14 hG => ?_)
    refine r_icmp_ge (pc := 37) X dX9_is_37 (tgt := 75) (by decide) hG (fun hG => ?_) (fun hG => ?_)
    · skip
      exact r_mask [false, false, true, false] rfl (Hj8 _ hG y12 rfl)
    · skip
      refine r_iload_n (pc := 40) X dX9_is_40 rfl rfl ?_
      refine r_if_eq (pc := 41) X dX9_is_41 (tgt := 75) (by decide) hG (fun hG => ?_) (fun hG => ?_)
      · skip
        exact r_mask [false, false, true, false] rfl (Hj8 _ hG y12 rfl)
      · skip
        refine r_aload_n (pc := 44) X dX9_is_44 rfl rfl ?_
        refine r_getC (pc := 45) X (at_X9_o Hb0) rfl mU_X9 (k := 0) (by decide) (q := 101) rfl mF_X9_16 dX9_is_45 ?_
        refine r_aload_n (pc := 48) X dX9_is_48 rfl rfl ?_
        refine r_getI (pc := 49) X (at_X9_o Hb0) rfl mU_X9 (k := 3) (by decide) rfl mF_X9_7 dX9_is_49 hG (fun z15 hG => ?_)
        refine r_iload_n (pc := 52) X dX9_is_52 rfl rfl ?_
        refine r_iadd (pc := 53) X dX9_is_53 hG (fun z16 hG => ?_)
        refine r_bald (pc := 54) X (at_X9_tape Hb0) dX9_is_54 hG (fun z17 hG => ?_)
        refine r_aload_n (pc := 55) X dX9_is_55 rfl rfl ?_
        refine r_iload_n (pc := 56) X dX9_is_56 rfl rfl ?_
        refine r_cP (pc := 57) hG (fun _ hg => runStr X dX9_is_57 Hq1 (c_J0_charAt_5068e Hq1 hg) mM_X9_45 mI_J0_charAt_5068e mE_J0_charAt_5068e mK_J0_charAt_5068e rfl rfl hdd_J0_charAt_5068e ⟨(Nat.le_of_ble_eq_true rfl), (Nat.le_of_ble_eq_true rfl)⟩ rfl rfl (Nat.le_of_ble_eq_true rfl) ⟨(Nat.le_of_ble_eq_true rfl), (Nat.le_of_ble_eq_true rfl)⟩) (fun z18 hG => ?_)
        refine r_join hG (fun a19 => ∀ (y21 : Int32), a19 = y21.toInt → Ev E ad shl p l e rm_X9_is s m args below meth c 0 0 Q 4 h 68 [some (.ref (ad 100)), some (.ref (E.2.2.2.2.1 k1)), none, some (.int y13)] [.int y21]) (fun a19 hG => ?_) (fun j20 Hj20 hG => ?_)
        · skip
          intro y21 ha; have ha := ha.symm; subst ha
          refine r_istore_n (pc := 68) (L' := [some (.ref (ad 100)), some (.ref (E.2.2.2.2.1 k1)), some (.int y21), some (.int y13)]) X dX9_is_68 rfl (by decide) rfl rfl ?_
          refine r_iinc (pc := 69) (L' := fun z22 => [some (.ref (ad 100)), some (.ref (E.2.2.2.2.1 k1)), some (.int y21), some (.int z22)]) X dX9_is_69 (by decide) rfl rfl (by decide) (fun _ => rfl) hG (fun z22 hG => ?_)
          refine r_goto (pc := 72) X dX9_is_72 (tgt := 32) (by decide) ?_
          exact r_mask [true, true, true, true] rfl (Hl11 _ hG y21 z22 rfl)
        refine r_icmp_ne (pc := 60) X dX9_is_60 (tgt := 67) (by decide) hG (fun hG => ?_) (fun hG => ?_)
        · skip
          refine r_iconst (pc := 67) X dX9_is_67 hG rfl (fun z23 hG => ?_)
          exact r_mask [true, true, false, true] rfl (Hj20 _ hG z23 rfl)
        · skip
          refine r_iconst (pc := 63) X dX9_is_63 hG rfl (fun z24 hG => ?_)
          refine r_goto (pc := 64) X dX9_is_64 (tgt := 68) (by decide) ?_
          exact r_mask [true, true, false, true] rfl (Hj20 _ hG z24 rfl)
  refine r_join hG (fun _ => Ev E ad shl p l e rm_X9_is s m args below meth c 0 0 Q 4 h 28 [some (.ref (ad 100)), some (.ref (E.2.2.2.2.1 k1)), none, none] []) (fun a25 hG => ?_) (fun j26 Hj26 hG => ?_)
  · skip
    refine r_iconst (pc := 28) X dX9_is_28 hG rfl (fun z27 hG => ?_)
    exact r_mask [true, true, false, false] rfl (Hj4 _ hG z27 rfl)
  refine r_icmp_ne (pc := 5) X dX9_is_5 (tgt := 28) (by decide) hG (fun hG => ?_) (fun hG => ?_)
  · skip
    exact r_mask [true, true, false, false] rfl (Hj26 _ hG)
  · skip
    refine r_aload_n (pc := 8) X dX9_is_8 rfl rfl ?_
    refine r_getI (pc := 9) X (at_X9_o Hb0) rfl mU_X9 (k := 4) (by decide) rfl mF_X9_20 dX9_is_9 hG (fun z28 hG => ?_)
    refine r_aload_n (pc := 12) X dX9_is_12 rfl rfl ?_
    refine r_getI (pc := 13) X (at_X9_o Hb0) rfl mU_X9 (k := 3) (by decide) rfl mF_X9_7 dX9_is_13 hG (fun z29 hG => ?_)
    refine r_isub (pc := 16) X dX9_is_16 hG (fun z30 hG => ?_)
    refine r_aload_n (pc := 17) X dX9_is_17 rfl rfl ?_
    refine r_cP (pc := 18) hG (fun _ hg => runStr X dX9_is_18 Hq1 (c_J0_length_8abf5 Hq1 hg) mM_X9_40 mI_J0_length_8abf5 mE_J0_length_8abf5 mK_J0_length_8abf5 rfl rfl hdd_J0_length_8abf5 ⟨(Nat.le_of_ble_eq_true rfl), (Nat.le_of_ble_eq_true rfl)⟩ rfl rfl (Nat.le_of_ble_eq_true rfl) ⟨(Nat.le_of_ble_eq_true rfl), (Nat.le_of_ble_eq_true rfl)⟩) (fun z31 hG => ?_)
    refine r_icmp_ne (pc := 21) X dX9_is_21 (tgt := 28) (by decide) hG (fun hG => ?_) (fun hG => ?_)
    · skip
      exact r_mask [true, true, false, false] rfl (Hj26 _ hG)
    · skip
      refine r_iconst (pc := 24) X dX9_is_24 hG rfl (fun z32 hG => ?_)
      refine r_goto (pc := 25) X dX9_is_25 (tgt := 29) (by decide) ?_
      exact r_mask [true, true, false, false] rfl (Hj4 _ hG z32 rfl)
theorem c_X9_is {k1 : Nat} {q1 : String × Nat × String} {r : Int} (Hb0 : At_X9 shl) (Hq1 : strL[k1]? = some q1) (hg : g_X9_is (strC k1) h = some r) : Met l yX9_is (wsM yX9_is cX9_is 4 (some .boolean)) rm_X9_is (va_Pc [.ref (ad 100), .ref (E.2.2.2.2.1 k1)] (World E ad shl h)) (QcI E ad shl r h) 0 0 (bsA E) :=
  met_of (L0 := [some (.ref (ad 100)), some (.ref (E.2.2.2.2.1 k1)), none, none]) rfl rfl rfl (Nat.le_of_ble_eq_true rfl) (fun _ _ _ _ _ _ _ X => w_X9_is Hb0 Hq1 X rfl hg)
abbrev rm_X9_peek : Room := { frames := 1, cells := 0, slots := 0, locals := 25 }
theorem hdd_X9_peek : yX9_peek.cls = RX9 ∧ yX9_peek.cls ≠ "java/lang/invoke/MethodHandle" ∧ yX9_peek.cls ≠ "java/lang/invoke/VarHandle" ∧ (parseMethodDescriptor yX9_peek.desc).map (fun d => d.parameters.length) = some 2 := ⟨rfl, by decide +kernel, by decide +kernel, by decide +kernel⟩
set_option maxRecDepth 100000 in
set_option maxHeartbeats 4000000 in
theorem w_X9_peek {x1 : Int32} {x2 : Int32} {r : Int × Hp} (Hb0 : At_X9 shl) (X : Cx E p s m args meth c cX9_peek RX9 3 (some .boolean)) (hQ : Q = MQ below (QcI E ad shl r.1 r.2) args s 0 0 (bsA E)) (hG : g_X9_peek x1.toInt x2.toInt h = some r) : Ev E ad shl p l e rm_X9_peek s m args below meth c 0 0 Q 3 h 0 [some (.ref (ad 100)), some (.int x1), some (.int x2)] [] := by
  unfold g_X9_peek at hG
  refine r_aload_n (pc := 0) X dX9_peek_0 rfl rfl ?_
  refine r_getI (pc := 1) X (at_X9_o Hb0) rfl mU_X9 (k := 5) (by decide) rfl mF_X9_27 dX9_peek_1 hG (fun z1 hG => ?_)
  refine r_iconst (pc := 4) X dX9_peek_4 hG rfl (fun z2 hG => ?_)
  refine r_icmp_eq (pc := 5) X dX9_peek_5 (tgt := 14) (by decide) hG (fun hG => ?_) (fun hG => ?_)
  · skip
    refine r_aload_n (pc := 14) X dX9_peek_14 rfl rfl ?_
    refine r_getI (pc := 15) X (at_X9_o Hb0) rfl mU_X9 (k := 6) (by decide) rfl mF_X9_37 dX9_peek_15 hG (fun z3 hG => ?_)
    refine r_i2l (pc := 18) X dX9_peek_18 hG (fun z4 hG => ?_)
    refine r_iload_n (pc := 19) X dX9_peek_19 rfl rfl ?_
    refine r_i2l (pc := 20) X dX9_peek_20 hG (fun z5 hG => ?_)
    refine r_iload_n (pc := 21) X dX9_peek_21 rfl rfl ?_
    refine r_i2l (pc := 22) X dX9_peek_22 hG (fun z6 hG => ?_)
    refine r_cP (pc := 23) hG (fun _ hg => runS X dX9_peek_23 (c_X9_in  hg) mM_X9_52 mS_X9_in mN_X9 mK_X9_in rfl rfl hdd_X9_in ⟨(Nat.le_of_ble_eq_true rfl), (Nat.le_of_ble_eq_true rfl)⟩ rfl rfl (Nat.le_of_ble_eq_true rfl) ⟨(Nat.le_of_ble_eq_true rfl), (Nat.le_of_ble_eq_true rfl)⟩) (fun z7 hG => ?_)
    refine r_if_ne (pc := 26) X dX9_peek_26 (tgt := 35) (by decide) hG (fun hG => ?_) (fun hG => ?_)
    · skip
      refine r_aload_n (pc := 35) X dX9_peek_35 rfl rfl ?_
      refine r_aload_n (pc := 36) X dX9_peek_36 rfl rfl ?_
      refine r_getI (pc := 37) X (at_X9_o Hb0) rfl mU_X9 (k := 6) (by decide) rfl mF_X9_37 dX9_peek_37 hG (fun z8 hG => ?_)
      refine r_putI (pc := 40) X (at_X9_o Hb0) rfl mU_X9 (k := 7) (by decide) rfl rfl rfl mF_X9_56 dX9_peek_40 hG (fun h9 hG => ?_)
      refine r_iconst (pc := 43) X dX9_peek_43 hG rfl (fun z10 hG => ?_)
      exact r_zretW (pc := 44) X dX9_peek_44 hQ hG
    · skip
      refine r_aload_n (pc := 29) X dX9_peek_29 rfl rfl ?_
      refine r_iconst (pc := 30) X dX9_peek_30 hG rfl (fun z11 hG => ?_)
      refine r_cW (pc := 31) hG (fun _ hg => runV X dX9_peek_31 (c_X9_bad Hb0 hg) mM_X9_49 mI_X9_bad mE_X9_bad mN_X9 mK_X9_bad (at_X9_o Hb0) rfl rfl rfl rfl hdd_X9_bad ⟨(Nat.le_of_ble_eq_true rfl), (Nat.le_of_ble_eq_true rfl)⟩ rfl rfl (Nat.le_of_ble_eq_true rfl) ⟨(Nat.le_of_ble_eq_true rfl), (Nat.le_of_ble_eq_true rfl)⟩) (fun z12 h13 hG => ?_)
      exact r_zretW (pc := 34) X dX9_peek_34 hQ hG
  · skip
    refine r_aload_n (pc := 8) X dX9_peek_8 rfl rfl ?_
    refine r_iconst (pc := 9) X dX9_peek_9 hG rfl (fun z14 hG => ?_)
    refine r_cW (pc := 10) hG (fun _ hg => runV X dX9_peek_10 (c_X9_bad Hb0 hg) mM_X9_49 mI_X9_bad mE_X9_bad mN_X9 mK_X9_bad (at_X9_o Hb0) rfl rfl rfl rfl hdd_X9_bad ⟨(Nat.le_of_ble_eq_true rfl), (Nat.le_of_ble_eq_true rfl)⟩ rfl rfl (Nat.le_of_ble_eq_true rfl) ⟨(Nat.le_of_ble_eq_true rfl), (Nat.le_of_ble_eq_true rfl)⟩) (fun z15 h16 hG => ?_)
    exact r_zretW (pc := 13) X dX9_peek_13 hQ hG
theorem c_X9_peek {x1 : Int32} {x2 : Int32} {r : Int × Hp} (Hb0 : At_X9 shl) (hg : g_X9_peek x1.toInt x2.toInt h = some r) : Met l yX9_peek (wsM yX9_peek cX9_peek 3 (some .boolean)) rm_X9_peek (va_Pc [.ref (ad 100), .int x1, .int x2] (World E ad shl h)) (QcI E ad shl r.1 r.2) 0 0 (bsA E) :=
  met_of (L0 := [some (.ref (ad 100)), some (.int x1), some (.int x2)]) rfl rfl rfl (Nat.le_of_ble_eq_true rfl) (fun _ _ _ _ _ _ _ X => w_X9_peek Hb0 X rfl hg)
abbrev rm_X9_number : Room := { frames := 2, cells := 0, slots := 0, locals := 47 }
theorem hdd_X9_number : yX9_number.cls = RX9 ∧ yX9_number.cls ≠ "java/lang/invoke/MethodHandle" ∧ yX9_number.cls ≠ "java/lang/invoke/VarHandle" ∧ (parseMethodDescriptor yX9_number.desc).map (fun d => d.parameters.length) = some 2 := ⟨rfl, by decide +kernel, by decide +kernel, by decide +kernel⟩
set_option maxRecDepth 100000 in
set_option maxHeartbeats 4000000 in
theorem w_X9_number {x1 : Int32} {x2 : Int32} {r : Int × Hp} (Hb0 : At_X9 shl) (X : Cx E p s m args meth c cX9_number RX9 3 (some .boolean)) (hQ : Q = MQ below (QcI E ad shl r.1 r.2) args s 0 0 (bsA E)) (hG : g_X9_number x1.toInt x2.toInt h = some r) : Ev E ad shl p l e rm_X9_number s m args below meth c 0 0 Q 3 h 0 [some (.ref (ad 100)), some (.int x1), some (.int x2)] [] := by
  unfold g_X9_number at hG
  refine r_aload_n (pc := 0) X dX9_number_0 rfl rfl ?_
  refine r_iload_n (pc := 1) X dX9_number_1 rfl rfl ?_
  refine r_iload_n (pc := 2) X dX9_number_2 rfl rfl ?_
  refine r_cW (pc := 3) hG (fun _ hg => runV X dX9_number_3 (c_X9_peek Hb0 hg) mM_X9_59 mI_X9_peek mE_X9_peek mN_X9 mK_X9_peek (at_X9_o Hb0) rfl rfl rfl rfl hdd_X9_peek ⟨(Nat.le_of_ble_eq_true rfl), (Nat.le_of_ble_eq_true rfl)⟩ rfl rfl (Nat.le_of_ble_eq_true rfl) ⟨(Nat.le_of_ble_eq_true rfl), (Nat.le_of_ble_eq_true rfl)⟩) (fun z1 h2 hG => ?_)
  refine r_if_ne (pc := 6) X dX9_number_6 (tgt := 11) (by decide) hG (fun hG => ?_) (fun hG => ?_)
  · skip
    refine r_aload_n (pc := 11) X dX9_number_11 rfl rfl ?_
    refine r_cV (pc := 12) hG (fun _ hg => runV X dX9_number_12 (c_X9_scan Hb0 hg) mM_X9_63 mI_X9_scan mE_X9_scan mN_X9 mK_X9_scan (at_X9_o Hb0) rfl rfl rfl rfl hdd_X9_scan ⟨(Nat.le_of_ble_eq_true rfl), (Nat.le_of_ble_eq_true rfl)⟩ rfl rfl (Nat.le_of_ble_eq_true rfl) ⟨(Nat.le_of_ble_eq_true rfl), (Nat.le_of_ble_eq_true rfl)⟩) (fun h3 hG => ?_)
    refine r_iconst (pc := 15) X dX9_number_15 hG rfl (fun z4 hG => ?_)
    exact r_zretW (pc := 16) X dX9_number_16 hQ hG
  · skip
    refine r_iconst (pc := 9) X dX9_number_9 hG rfl (fun z5 hG => ?_)
    exact r_zretW (pc := 10) X dX9_number_10 hQ hG
theorem c_X9_number {x1 : Int32} {x2 : Int32} {r : Int × Hp} (Hb0 : At_X9 shl) (hg : g_X9_number x1.toInt x2.toInt h = some r) : Met l yX9_number (wsM yX9_number cX9_number 3 (some .boolean)) rm_X9_number (va_Pc [.ref (ad 100), .int x1, .int x2] (World E ad shl h)) (QcI E ad shl r.1 r.2) 0 0 (bsA E) :=
  met_of (L0 := [some (.ref (ad 100)), some (.int x1), some (.int x2)]) rfl rfl rfl (Nat.le_of_ble_eq_true rfl) (fun _ _ _ _ _ _ _ X => w_X9_number Hb0 X rfl hg)
abbrev rm_X9_open : Room := { frames := 2, cells := 0, slots := 0, locals := 42 }
theorem hdd_X9_open : yX9_open.cls = RX9 ∧ yX9_open.cls ≠ "java/lang/invoke/MethodHandle" ∧ yX9_open.cls ≠ "java/lang/invoke/VarHandle" ∧ (parseMethodDescriptor yX9_open.desc).map (fun d => d.parameters.length) = some 0 := ⟨rfl, by decide +kernel, by decide +kernel, by decide +kernel⟩
set_option maxRecDepth 100000 in
set_option maxHeartbeats 4000000 in
theorem w_X9_open  {r : Hp} (Hb0 : At_X9 shl) (X : Cx E p s m args meth c cX9_open RX9 1 none) (hQ : Q = MQ below (QcV E ad shl r) args s 0 0 (bsA E)) (hG : g_X9_open h = some r) : Ev E ad shl p l e rm_X9_open s m args below meth c 0 0 Q 1 h 0 [some (.ref (ad 100))] [] := by
  unfold g_X9_open at hG
  refine r_aload_n (pc := 0) X dX9_open_0 rfl rfl ?_
  refine r_aload_n (pc := 1) X dX9_open_1 rfl rfl ?_
  refine r_getI (pc := 2) X (at_X9_o Hb0) rfl mU_X9 (k := 1) (by decide) rfl mF_X9_67 dX9_open_2 hG (fun z1 hG => ?_)
  refine r_putI (pc := 5) X (at_X9_o Hb0) rfl mU_X9 (k := 2) (by decide) rfl rfl rfl mF_X9_13 dX9_open_5 hG (fun h2 hG => ?_)
  refine r_aload_n (pc := 8) X dX9_open_8 rfl rfl ?_
  refine r_iconst (pc := 9) X dX9_open_9 hG rfl (fun z3 hG => ?_)
  refine r_putI (pc := 10) X (at_X9_o Hb0) rfl mU_X9 (k := 1) (by decide) rfl rfl rfl mF_X9_67 dX9_open_10 hG (fun h4 hG => ?_)
  refine r_aload_n (pc := 13) X dX9_open_13 rfl rfl ?_
  refine r_iconst (pc := 14) X dX9_open_14 hG rfl (fun z5 hG => ?_)
  refine r_putI (pc := 15) X (at_X9_o Hb0) rfl mU_X9 (k := 4) (by decide) rfl rfl rfl mF_X9_20 dX9_open_15 hG (fun h6 hG => ?_)
  refine r_aload_n (pc := 18) X dX9_open_18 rfl rfl ?_
  refine r_iconst (pc := 19) X dX9_open_19 hG rfl (fun z7 hG => ?_)
  refine r_putI (pc := 20) X (at_X9_o Hb0) rfl mU_X9 (k := 8) (by decide) rfl rfl rfl mF_X9_1 dX9_open_20 hG (fun h8 hG => ?_)
  refine r_aload_n (pc := 23) X dX9_open_23 rfl rfl ?_
  refine r_iconst (pc := 24) X dX9_open_24 hG rfl (fun z9 hG => ?_)
  refine r_putI (pc := 25) X (at_X9_o Hb0) rfl mU_X9 (k := 9) (by decide) rfl rfl rfl mF_X9_10 dX9_open_25 hG (fun h10 hG => ?_)
  refine r_aload_n (pc := 28) X dX9_open_28 rfl rfl ?_
  refine r_cV (pc := 29) hG (fun _ hg => runV X dX9_open_29 (c_X9_scan Hb0 hg) mM_X9_63 mI_X9_scan mE_X9_scan mN_X9 mK_X9_scan (at_X9_o Hb0) rfl rfl rfl rfl hdd_X9_scan ⟨(Nat.le_of_ble_eq_true rfl), (Nat.le_of_ble_eq_true rfl)⟩ rfl rfl (Nat.le_of_ble_eq_true rfl) ⟨(Nat.le_of_ble_eq_true rfl), (Nat.le_of_ble_eq_true rfl)⟩) (fun h11 hG => ?_)
  exact r_vret (pc := 32) X dX9_open_32 hQ hG
theorem c_X9_open  {r : Hp} (Hb0 : At_X9 shl) (hg : g_X9_open h = some r) : Met l yX9_open (wsM yX9_open cX9_open 1 none) rm_X9_open (va_Pc [.ref (ad 100)] (World E ad shl h)) (QcV E ad shl r) 0 0 (bsA E) :=
  met_of (L0 := [some (.ref (ad 100))]) rfl rfl rfl (Nat.le_of_ble_eq_true rfl) (fun _ _ _ _ _ _ _ X => w_X9_open Hb0 X rfl hg)
abbrev rm_X9_close : Room := { frames := 2, cells := 0, slots := 0, locals := 42 }
theorem hdd_X9_close : yX9_close.cls = RX9 ∧ yX9_close.cls ≠ "java/lang/invoke/MethodHandle" ∧ yX9_close.cls ≠ "java/lang/invoke/VarHandle" ∧ (parseMethodDescriptor yX9_close.desc).map (fun d => d.parameters.length) = some 0 := ⟨rfl, by decide +kernel, by decide +kernel, by decide +kernel⟩
set_option maxRecDepth 100000 in
set_option maxHeartbeats 4000000 in
theorem w_X9_close  {r : Int × Hp} (Hb0 : At_X9 shl) (X : Cx E p s m args meth c cX9_close RX9 1 (some .boolean)) (hQ : Q = MQ below (QcI E ad shl r.1 r.2) args s 0 0 (bsA E)) (hG : g_X9_close h = some r) : Ev E ad shl p l e rm_X9_close s m args below meth c 0 0 Q 1 h 0 [some (.ref (ad 100))] [] := by
  unfold g_X9_close at hG
  refine r_aload_n (pc := 0) X dX9_close_0 rfl rfl ?_
  refine r_getI (pc := 1) X (at_X9_o Hb0) rfl mU_X9 (k := 5) (by decide) rfl mF_X9_27 dX9_close_1 hG (fun z1 hG => ?_)
  refine r_iconst (pc := 4) X dX9_close_4 hG rfl (fun z2 hG => ?_)
  refine r_icmp_eq (pc := 5) X dX9_close_5 (tgt := 14) (by decide) hG (fun hG => ?_) (fun hG => ?_)
  · skip
    refine r_aload_n (pc := 14) X dX9_close_14 rfl rfl ?_
    refine r_cV (pc := 15) hG (fun _ hg => runV X dX9_close_15 (c_X9_scan Hb0 hg) mM_X9_63 mI_X9_scan mE_X9_scan mN_X9 mK_X9_scan (at_X9_o Hb0) rfl rfl rfl rfl hdd_X9_scan ⟨(Nat.le_of_ble_eq_true rfl), (Nat.le_of_ble_eq_true rfl)⟩ rfl rfl (Nat.le_of_ble_eq_true rfl) ⟨(Nat.le_of_ble_eq_true rfl), (Nat.le_of_ble_eq_true rfl)⟩) (fun h3 hG => ?_)
    refine r_iconst (pc := 18) X dX9_close_18 hG rfl (fun z4 hG => ?_)
    exact r_zretW (pc := 19) X dX9_close_19 hQ hG
  · skip
    refine r_aload_n (pc := 8) X dX9_close_8 rfl rfl ?_
    refine r_iconst (pc := 9) X dX9_close_9 hG rfl (fun z5 hG => ?_)
    refine r_cW (pc := 10) hG (fun _ hg => runV X dX9_close_10 (c_X9_bad Hb0 hg) mM_X9_49 mI_X9_bad mE_X9_bad mN_X9 mK_X9_bad (at_X9_o Hb0) rfl rfl rfl rfl hdd_X9_bad ⟨(Nat.le_of_ble_eq_true rfl), (Nat.le_of_ble_eq_true rfl)⟩ rfl rfl (Nat.le_of_ble_eq_true rfl) ⟨(Nat.le_of_ble_eq_true rfl), (Nat.le_of_ble_eq_true rfl)⟩) (fun z6 h7 hG => ?_)
    exact r_zretW (pc := 13) X dX9_close_13 hQ hG
theorem c_X9_close  {r : Int × Hp} (Hb0 : At_X9 shl) (hg : g_X9_close h = some r) : Met l yX9_close (wsM yX9_close cX9_close 1 (some .boolean)) rm_X9_close (va_Pc [.ref (ad 100)] (World E ad shl h)) (QcI E ad shl r.1 r.2) 0 0 (bsA E) :=
  met_of (L0 := [some (.ref (ad 100))]) rfl rfl rfl (Nat.le_of_ble_eq_true rfl) (fun _ _ _ _ _ _ _ X => w_X9_close Hb0 X rfl hg)
abbrev rm_X9_usual : Room := { frames := 0, cells := 0, slots := 0, locals := 0 }
theorem hdd_X9_usual : yX9_usual.cls ≠ "java/lang/invoke/MethodHandle" ∧ yX9_usual.cls ≠ "java/lang/invoke/VarHandle" ∧ (parseMethodDescriptor yX9_usual.desc).map (fun d => d.parameters.length) = some 1 := ⟨by decide +kernel, by decide +kernel, by decide +kernel⟩
set_option maxRecDepth 100000 in
set_option maxHeartbeats 4000000 in
theorem w_X9_usual {x1 : Int32} {r : Int}  (X : Cx E p s m args meth c cX9_usual RX9 1 (some .int)) (hQ : Q = MQ below (QcI E ad shl r h) args s 0 0 (bsA E)) (hG : g_X9_usual x1.toInt = some r) : Ev E ad shl p l e rm_X9_usual s m args below meth c 0 0 Q 1 h 0 [some (.int x1)] [] := by
  unfold g_X9_usual at hG
  refine r_iload_n (pc := 0) X dX9_usual_0 rfl rfl ?_
  refine r_join hG (fun _ => Ev E ad shl p l e rm_X9_usual s m args below meth c 0 0 Q 1 h 48 [none] []) (fun a1 hG => ?_) (fun j2 Hj2 hG => ?_)
  · skip
    refine r_bipush (pc := 48) X dX9_usual_48 hG (by decide) (fun z3 hG => ?_)
    exact r_iretP (pc := 50) X dX9_usual_50 hQ hG
  refine r_join hG (fun _ => Ev E ad shl p l e rm_X9_usual s m args below meth c 0 0 Q 1 h 56 [none] []) (fun a4 hG => ?_) (fun j5 Hj5 hG => ?_)
  · skip
    refine r_iconst (pc := 56) X dX9_usual_56 hG rfl (fun z6 hG => ?_)
    exact r_iretP (pc := 57) X dX9_usual_57 hQ hG
  refine r_join hG (fun _ => Ev E ad shl p l e rm_X9_usual s m args below meth c 0 0 Q 1 h 60 [none] []) (fun a7 hG => ?_) (fun j8 Hj8 hG => ?_)
  · skip
    refine r_iconst (pc := 60) X dX9_usual_60 hG rfl (fun z9 hG => ?_)
    exact r_iretP (pc := 61) X dX9_usual_61 hQ hG
  refine r_ite hG (fun e10 hG => ?_) (fun e10 hG => ?_)
  · refine r_tsIn (pc := 1) X dX9_usual_1 e10 (by decide) (by decide) rfl (tgt := 48) (by decide) ?_
    exact r_mask [false] rfl (Hj2 _ hG)
  refine r_ite hG (fun e11 hG => ?_) (fun e11 hG => ?_)
  · refine r_tsIn (pc := 1) X dX9_usual_1 e11 (by decide) (by decide) rfl (tgt := 51) (by decide) ?_
    refine r_iconst (pc := 51) X dX9_usual_51 hG rfl (fun z12 hG => ?_)
    exact r_iretP (pc := 52) X dX9_usual_52 hQ hG
  refine r_ite hG (fun e13 hG => ?_) (fun e13 hG => ?_)
  · refine r_tsIn (pc := 1) X dX9_usual_1 e13 (by decide) (by decide) rfl (tgt := 53) (by decide) ?_
    refine r_bipush (pc := 53) X dX9_usual_53 hG (by decide) (fun z14 hG => ?_)
    exact r_iretP (pc := 55) X dX9_usual_55 hQ hG
  refine r_ite hG (fun e15 hG => ?_) (fun e15 hG => ?_)
  · refine r_tsIn (pc := 1) X dX9_usual_1 e15 (by decide) (by decide) rfl (tgt := 56) (by decide) ?_
    exact r_mask [false] rfl (Hj5 _ hG)
  refine r_ite hG (fun e16 hG => ?_) (fun e16 hG => ?_)
  · refine r_tsIn (pc := 1) X dX9_usual_1 e16 (by decide) (by decide) rfl (tgt := 60) (by decide) ?_
    exact r_mask [false] rfl (Hj8 _ hG)
  refine r_ite hG (fun e17 hG => ?_) (fun e17 hG => ?_)
  · refine r_tsIn (pc := 1) X dX9_usual_1 e17 (by decide) (by decide) rfl (tgt := 58) (by decide) ?_
    refine r_iconst (pc := 58) X dX9_usual_58 hG rfl (fun z18 hG => ?_)
    exact r_iretP (pc := 59) X dX9_usual_59 hQ hG
  refine r_ite hG (fun e19 hG => ?_) (fun e19 hG => ?_)
  · refine r_tsIn (pc := 1) X dX9_usual_1 e19 (by decide) (by decide) rfl (tgt := 56) (by decide) ?_
    exact r_mask [false] rfl (Hj5 _ hG)
  refine r_ite hG (fun e20 hG => ?_) (fun e20 hG => ?_)
  · refine r_tsIn (pc := 1) X dX9_usual_1 e20 (by decide) (by decide) rfl (tgt := 48) (by decide) ?_
    exact r_mask [false] rfl (Hj2 _ hG)
  refine r_tsOut (pc := 1) X dX9_usual_1 (by omega) (tgt := 60) (by decide) ?_
  exact r_mask [false] rfl (Hj8 _ hG)
theorem c_X9_usual {x1 : Int32} {r : Int}  (hg : g_X9_usual x1.toInt = some r) : Met l yX9_usual (wsM yX9_usual cX9_usual 1 (some .int)) rm_X9_usual (va_Pc [.int x1] (World E ad shl h)) (QcI E ad shl r h) 0 0 (bsA E) :=
  met_of (L0 := [some (.int x1)]) rfl rfl rfl (Nat.le_of_ble_eq_true rfl) (fun _ _ _ _ _ _ _ X => w_X9_usual  X rfl hg)
abbrev rm_X9_greatest : Room := { frames := 0, cells := 0, slots := 0, locals := 0 }
theorem hdd_X9_greatest : yX9_greatest.cls ≠ "java/lang/invoke/MethodHandle" ∧ yX9_greatest.cls ≠ "java/lang/invoke/VarHandle" ∧ (parseMethodDescriptor yX9_greatest.desc).map (fun d => d.parameters.length) = some 1 := ⟨by decide +kernel, by decide +kernel, by decide +kernel⟩
set_option maxRecDepth 100000 in
set_option maxHeartbeats 4000000 in
theorem w_X9_greatest {x1 : Int32} {r : Int}  (X : Cx E p s m args meth c cX9_greatest RX9 1 (some .int)) (hQ : Q = MQ below (QcI E ad shl r h) args s 0 0 (bsA E)) (hG : g_X9_greatest x1.toInt = some r) : Ev E ad shl p l e rm_X9_greatest s m args below meth c 0 0 Q 1 h 0 [some (.int x1)] [] := by
  unfold g_X9_greatest at hG
  refine r_iload_n (pc := 0) X dX9_greatest_0 rfl rfl ?_
  refine r_join hG (fun _ => Ev E ad shl p l e rm_X9_greatest s m args below meth c 0 0 Q 1 h 69 [none] []) (fun a1 hG => ?_) (fun j2 Hj2 hG => ?_)
  · skip
    refine r_bipush (pc := 69) X dX9_greatest_69 hG (by decide) (fun z3 hG => ?_)
    exact r_iretP (pc := 71) X dX9_greatest_71 hQ hG
  refine r_ite hG (fun e4 hG => ?_) (fun e4 hG => ?_)
  · refine r_tsIn (pc := 1) X dX9_greatest_1 e4 (by decide) (by decide) rfl (tgt := 52) (by decide) ?_
    refine r_bipush (pc := 52) X dX9_greatest_52 hG (by decide) (fun z5 hG => ?_)
    exact r_iretP (pc := 54) X dX9_greatest_54 hQ hG
  refine r_ite hG (fun e6 hG => ?_) (fun e6 hG => ?_)
  · refine r_tsIn (pc := 1) X dX9_greatest_1 e6 (by decide) (by decide) rfl (tgt := 55) (by decide) ?_
    refine r_iconst (pc := 55) X dX9_greatest_55 hG rfl (fun z7 hG => ?_)
    exact r_iretP (pc := 56) X dX9_greatest_56 hQ hG
  refine r_ite hG (fun e8 hG => ?_) (fun e8 hG => ?_)
  · refine r_tsIn (pc := 1) X dX9_greatest_1 e8 (by decide) (by decide) rfl (tgt := 57) (by decide) ?_
    refine r_bipush (pc := 57) X dX9_greatest_57 hG (by decide) (fun z9 hG => ?_)
    exact r_iretP (pc := 59) X dX9_greatest_59 hQ hG
  refine r_ite hG (fun e10 hG => ?_) (fun e10 hG => ?_)
  · refine r_tsIn (pc := 1) X dX9_greatest_1 e10 (by decide) (by decide) rfl (tgt := 60) (by decide) ?_
    refine r_bipush (pc := 60) X dX9_greatest_60 hG (by decide) (fun z11 hG => ?_)
    exact r_iretP (pc := 62) X dX9_greatest_62 hQ hG
  refine r_ite hG (fun e12 hG => ?_) (fun e12 hG => ?_)
  · refine r_tsIn (pc := 1) X dX9_greatest_1 e12 (by decide) (by decide) rfl (tgt := 69) (by decide) ?_
    exact r_mask [false] rfl (Hj2 _ hG)
  refine r_ite hG (fun e13 hG => ?_) (fun e13 hG => ?_)
  · refine r_tsIn (pc := 1) X dX9_greatest_1 e13 (by decide) (by decide) rfl (tgt := 69) (by decide) ?_
    exact r_mask [false] rfl (Hj2 _ hG)
  refine r_ite hG (fun e14 hG => ?_) (fun e14 hG => ?_)
  · refine r_tsIn (pc := 1) X dX9_greatest_1 e14 (by decide) (by decide) rfl (tgt := 63) (by decide) ?_
    refine r_bipush (pc := 63) X dX9_greatest_63 hG (by decide) (fun z15 hG => ?_)
    exact r_iretP (pc := 65) X dX9_greatest_65 hQ hG
  refine r_ite hG (fun e16 hG => ?_) (fun e16 hG => ?_)
  · refine r_tsIn (pc := 1) X dX9_greatest_1 e16 (by decide) (by decide) rfl (tgt := 69) (by decide) ?_
    exact r_mask [false] rfl (Hj2 _ hG)
  refine r_ite hG (fun e17 hG => ?_) (fun e17 hG => ?_)
  · refine r_tsIn (pc := 1) X dX9_greatest_1 e17 (by decide) (by decide) rfl (tgt := 66) (by decide) ?_
    refine r_bipush (pc := 66) X dX9_greatest_66 hG (by decide) (fun z18 hG => ?_)
    exact r_iretP (pc := 68) X dX9_greatest_68 hQ hG
  refine r_tsOut (pc := 1) X dX9_greatest_1 (by omega) (tgt := 69) (by decide) ?_
  exact r_mask [false] rfl (Hj2 _ hG)
theorem c_X9_greatest {x1 : Int32} {r : Int}  (hg : g_X9_greatest x1.toInt = some r) : Met l yX9_greatest (wsM yX9_greatest cX9_greatest 1 (some .int)) rm_X9_greatest (va_Pc [.int x1] (World E ad shl h)) (QcI E ad shl r h) 0 0 (bsA E) :=
  met_of (L0 := [some (.int x1)]) rfl rfl rfl (Nat.le_of_ble_eq_true rfl) (fun _ _ _ _ _ _ _ X => w_X9_greatest  X rfl hg)
abbrev rm_X9_cellAt : Room := { frames := 2, cells := 0, slots := 0, locals := 47 }
theorem hdd_X9_cellAt : yX9_cellAt.cls = RX9 ∧ yX9_cellAt.cls ≠ "java/lang/invoke/MethodHandle" ∧ yX9_cellAt.cls ≠ "java/lang/invoke/VarHandle" ∧ (parseMethodDescriptor yX9_cellAt.desc).map (fun d => d.parameters.length) = some 3 := ⟨rfl, by decide +kernel, by decide +kernel, by decide +kernel⟩
set_option maxRecDepth 100000 in
set_option maxHeartbeats 4000000 in
theorem w_X9_cellAt {x1 : Int32} {x2 : Int32} {x3 : Int32} {r : Int × Hp} (Hb0 : At_X9 shl) (X : Cx E p s m args meth c cX9_cellAt RX9 4 (some .boolean)) (hQ : Q = MQ below (QcI E ad shl r.1 r.2) args s 0 0 (bsA E)) (hG : g_X9_cellAt x1.toInt x2.toInt x3.toInt h = some r) : Ev E ad shl p l e rm_X9_cellAt s m args below meth c 0 0 Q 4 h 0 [some (.ref (ad 100)), some (.int x1), some (.int x2), some (.int x3)] [] := by
  unfold g_X9_cellAt at hG
  refine r_aload_n (pc := 0) X dX9_cellAt_0 rfl rfl ?_
  refine r_iconst (pc := 1) X dX9_cellAt_1 hG rfl (fun z1 hG => ?_)
  refine r_iload_n (pc := 2) X dX9_cellAt_2 rfl rfl ?_
  refine r_iconst (pc := 3) X dX9_cellAt_3 hG rfl (fun z2 hG => ?_)
  refine r_isub (pc := 4) X dX9_cellAt_4 hG (fun z3 hG => ?_)
  refine r_cW (pc := 5) hG (fun _ hg => runV X dX9_cellAt_5 (c_X9_peek Hb0 hg) mM_X9_59 mI_X9_peek mE_X9_peek mN_X9 mK_X9_peek (at_X9_o Hb0) rfl rfl rfl rfl hdd_X9_peek ⟨(Nat.le_of_ble_eq_true rfl), (Nat.le_of_ble_eq_true rfl)⟩ rfl rfl (Nat.le_of_ble_eq_true rfl) ⟨(Nat.le_of_ble_eq_true rfl), (Nat.le_of_ble_eq_true rfl)⟩) (fun z4 h5 hG => ?_)
  refine r_if_ne (pc := 8) X dX9_cellAt_8 (tgt := 13) (by decide) hG (fun hG => ?_) (fun hG => ?_)
  · skip
    refine r_aload_n (pc := 13) X dX9_cellAt_13 rfl rfl ?_
    refine r_iload_n (pc := 14) X dX9_cellAt_14 rfl rfl ?_
    refine r_aload_n (pc := 15) X dX9_cellAt_15 rfl rfl ?_
    refine r_getI (pc := 16) X (at_X9_o Hb0) rfl mU_X9 (k := 7) (by decide) rfl mF_X9_56 dX9_cellAt_16 hG (fun z6 hG => ?_)
    refine r_imul (pc := 19) X dX9_cellAt_19 hG (fun z7 hG => ?_)
    refine r_iload_n (pc := 20) X dX9_cellAt_20 rfl rfl ?_
    refine r_iadd (pc := 21) X dX9_cellAt_21 hG (fun z8 hG => ?_)
    refine r_putI (pc := 22) X (at_X9_o Hb0) rfl mU_X9 (k := 7) (by decide) rfl rfl rfl mF_X9_56 dX9_cellAt_22 hG (fun h9 hG => ?_)
    refine r_iconst (pc := 25) X dX9_cellAt_25 hG rfl (fun z10 hG => ?_)
    exact r_zretW (pc := 26) X dX9_cellAt_26 hQ hG
  · skip
    refine r_iconst (pc := 11) X dX9_cellAt_11 hG rfl (fun z11 hG => ?_)
    exact r_zretW (pc := 12) X dX9_cellAt_12 hQ hG
theorem c_X9_cellAt {x1 : Int32} {x2 : Int32} {x3 : Int32} {r : Int × Hp} (Hb0 : At_X9 shl) (hg : g_X9_cellAt x1.toInt x2.toInt x3.toInt h = some r) : Met l yX9_cellAt (wsM yX9_cellAt cX9_cellAt 4 (some .boolean)) rm_X9_cellAt (va_Pc [.ref (ad 100), .int x1, .int x2, .int x3] (World E ad shl h)) (QcI E ad shl r.1 r.2) 0 0 (bsA E) :=
  met_of (L0 := [some (.ref (ad 100)), some (.int x1), some (.int x2), some (.int x3)]) rfl rfl rfl (Nat.le_of_ble_eq_true rfl) (fun _ _ _ _ _ _ _ X => w_X9_cellAt Hb0 X rfl hg)
abbrev rm_X9_readHeap : Room := { frames := 3, cells := 0, slots := 0, locals := 70 }
theorem hdd_X9_readHeap : yX9_readHeap.cls = RX9 ∧ yX9_readHeap.cls ≠ "java/lang/invoke/MethodHandle" ∧ yX9_readHeap.cls ≠ "java/lang/invoke/VarHandle" ∧ (parseMethodDescriptor yX9_readHeap.desc).map (fun d => d.parameters.length) = some 0 := ⟨rfl, by decide +kernel, by decide +kernel, by decide +kernel⟩
set_option maxRecDepth 100000 in
set_option maxHeartbeats 4000000 in
theorem w_X9_readHeap  {r : Int × Hp} (Hb0 : At_X9 shl) (X : Cx E p s m args meth c cX9_readHeap RX9 2 (some .boolean)) (hQ : Q = MQ below (QcI E ad shl r.1 r.2) args s 0 0 (bsA E)) (hG : g_X9_readHeap h = some r) : Ev E ad shl p l e rm_X9_readHeap s m args below meth c 0 0 Q 2 h 0 [some (.ref (ad 100)), none] [] := by
  unfold g_X9_readHeap at hG
  refine r_aload_n (pc := 0) X dX9_readHeap_0 rfl rfl ?_
  refine r_cV (pc := 1) hG (fun _ hg => runV X dX9_readHeap_1 (c_X9_scan Hb0 hg) mM_X9_63 mI_X9_scan mE_X9_scan mN_X9 mK_X9_scan (at_X9_o Hb0) rfl rfl rfl rfl hdd_X9_scan ⟨(Nat.le_of_ble_eq_true rfl), (Nat.le_of_ble_eq_true rfl)⟩ rfl rfl (Nat.le_of_ble_eq_true rfl) ⟨(Nat.le_of_ble_eq_true rfl), (Nat.le_of_ble_eq_true rfl)⟩) (fun h1 hG => ?_)
  refine r_aload_n (pc := 4) X dX9_readHeap_4 rfl rfl ?_
  refine r_iconst (pc := 5) X dX9_readHeap_5 hG rfl (fun z2 hG => ?_)
  refine r_bipush (pc := 6) X dX9_readHeap_6 hG (by decide) (fun z3 hG => ?_)
  refine r_cW (pc := 8) hG (fun _ hg => runV X dX9_readHeap_8 (c_X9_number Hb0 hg) mM_X9_70 mI_X9_number mE_X9_number mN_X9 mK_X9_number (at_X9_o Hb0) rfl rfl rfl rfl hdd_X9_number ⟨(Nat.le_of_ble_eq_true rfl), (Nat.le_of_ble_eq_true rfl)⟩ rfl rfl (Nat.le_of_ble_eq_true rfl) ⟨(Nat.le_of_ble_eq_true rfl), (Nat.le_of_ble_eq_true rfl)⟩) (fun z4 h5 hG => ?_)
  refine r_if_ne (pc := 11) X dX9_readHeap_11 (tgt := 16) (by decide) hG (fun hG => ?_) (fun hG => ?_)
  · skip
    refine r_aload_n (pc := 16) X dX9_readHeap_16 rfl rfl ?_
    refine r_getI (pc := 17) X (at_X9_o Hb0) rfl mU_X9 (k := 7) (by decide) rfl mF_X9_56 dX9_readHeap_17 hG (fun z6 hG => ?_)
    refine r_istore_n (pc := 20) (L' := [some (.ref (ad 100)), some (.int z6)]) X dX9_readHeap_20 rfl (by decide) rfl rfl ?_
    refine r_aload_n (pc := 21) X dX9_readHeap_21 rfl rfl ?_
    refine r_iconst (pc := 22) X dX9_readHeap_22 hG rfl (fun z7 hG => ?_)
    refine r_aload_n (pc := 23) X dX9_readHeap_23 rfl rfl ?_
    refine r_getI (pc := 24) X (at_X9_o Hb0) rfl mU_X9 (k := 14) (by decide) rfl mF_X9_73 dX9_readHeap_24 hG (fun z8 hG => ?_)
    refine r_iconst (pc := 27) X dX9_readHeap_27 hG rfl (fun z9 hG => ?_)
    refine r_isub (pc := 28) X dX9_readHeap_28 hG (fun z10 hG => ?_)
    refine r_cW (pc := 29) hG (fun _ hg => runV X dX9_readHeap_29 (c_X9_number Hb0 hg) mM_X9_70 mI_X9_number mE_X9_number mN_X9 mK_X9_number (at_X9_o Hb0) rfl rfl rfl rfl hdd_X9_number ⟨(Nat.le_of_ble_eq_true rfl), (Nat.le_of_ble_eq_true rfl)⟩ rfl rfl (Nat.le_of_ble_eq_true rfl) ⟨(Nat.le_of_ble_eq_true rfl), (Nat.le_of_ble_eq_true rfl)⟩) (fun z11 h12 hG => ?_)
    refine r_join hG (fun a13 => ∀ (h15 : Hp), a13 = h15 → Ev E ad shl p l e rm_X9_readHeap s m args below meth c 0 0 Q 2 h15 54 [none, none] []) (fun a13 hG => ?_) (fun j14 Hj14 hG => ?_)
    · skip
      intro h15 ha; have ha := ha.symm; subst ha
      refine r_iconst (pc := 54) X dX9_readHeap_54 hG rfl (fun z16 hG => ?_)
      exact r_zretW (pc := 55) X dX9_readHeap_55 hQ hG
    refine r_if_eq (pc := 32) X dX9_readHeap_32 (tgt := 54) (by decide) hG (fun hG => ?_) (fun hG => ?_)
    · skip
      exact r_mask [false, false] rfl (Hj14 _ hG h12 rfl)
    · skip
      refine r_aload_n (pc := 35) X dX9_readHeap_35 rfl rfl ?_
      refine r_aload_n (pc := 36) X dX9_readHeap_36 rfl rfl ?_
      refine r_getI (pc := 37) X (at_X9_o Hb0) rfl mU_X9 (k := 7) (by decide) rfl mF_X9_56 dX9_readHeap_37 hG (fun z17 hG => ?_)
      refine r_aload_n (pc := 40) X dX9_readHeap_40 rfl rfl ?_
      refine r_getI (pc := 41) X (at_X9_o Hb0) rfl mU_X9 (k := 14) (by decide) rfl mF_X9_73 dX9_readHeap_41 hG (fun z18 hG => ?_)
      refine r_aload_n (pc := 44) X dX9_readHeap_44 rfl rfl ?_
      refine r_getI (pc := 45) X (at_X9_o Hb0) rfl mU_X9 (k := 15) (by decide) rfl mF_X9_76 dX9_readHeap_45 hG (fun z19 hG => ?_)
      refine r_cW (pc := 48) hG (fun _ hg => runV X dX9_readHeap_48 (c_X9_cellAt Hb0 hg) mM_X9_79 mI_X9_cellAt mE_X9_cellAt mN_X9 mK_X9_cellAt (at_X9_o Hb0) rfl rfl rfl rfl hdd_X9_cellAt ⟨(Nat.le_of_ble_eq_true rfl), (Nat.le_of_ble_eq_true rfl)⟩ rfl rfl (Nat.le_of_ble_eq_true rfl) ⟨(Nat.le_of_ble_eq_true rfl), (Nat.le_of_ble_eq_true rfl)⟩) (fun z20 h21 hG => ?_)
      refine r_if_ne (pc := 51) X dX9_readHeap_51 (tgt := 56) (by decide) hG (fun hG => ?_) (fun hG => ?_)
      · skip
        refine r_aload_n (pc := 56) X dX9_readHeap_56 rfl rfl ?_
        refine r_getC (pc := 57) X (at_X9_o Hb0) rfl mU_X9 (k := 22) (by decide) (q := 105) rfl mF_X9_83 dX9_readHeap_57 ?_
        refine r_aload_n (pc := 60) X dX9_readHeap_60 rfl rfl ?_
        refine r_getI (pc := 61) X (at_X9_o Hb0) rfl mU_X9 (k := 7) (by decide) rfl mF_X9_56 dX9_readHeap_61 hG (fun z22 hG => ?_)
        refine r_iald (pc := 64) X (at_X9_readHeap Hb0) dX9_readHeap_64 hG (fun z23 hG => ?_)
        refine r_iload_n (pc := 65) X dX9_readHeap_65 rfl rfl ?_
        refine r_iadd (pc := 66) X dX9_readHeap_66 hG (fun z24 hG => ?_)
        refine r_bipush (pc := 67) X dX9_readHeap_67 hG (by decide) (fun z25 hG => ?_)
        refine r_icmp_le (pc := 69) X dX9_readHeap_69 (tgt := 78) (by decide) hG (fun hG => ?_) (fun hG => ?_)
        · skip
          refine r_aload_n (pc := 78) X dX9_readHeap_78 rfl rfl ?_
          refine r_getC (pc := 79) X (at_X9_o Hb0) rfl mU_X9 (k := 22) (by decide) (q := 105) rfl mF_X9_83 dX9_readHeap_79 ?_
          refine r_aload_n (pc := 82) X dX9_readHeap_82 rfl rfl ?_
          refine r_getI (pc := 83) X (at_X9_o Hb0) rfl mU_X9 (k := 7) (by decide) rfl mF_X9_56 dX9_readHeap_83 hG (fun z26 hG => ?_)
          refine r_dup2 (pc := 86) X dX9_readHeap_86 rfl rfl ?_
          refine r_iald (pc := 87) X (at_X9_readHeap Hb0) dX9_readHeap_87 hG (fun z27 hG => ?_)
          refine r_iload_n (pc := 88) X dX9_readHeap_88 rfl rfl ?_
          refine r_iadd (pc := 89) X dX9_readHeap_89 hG (fun z28 hG => ?_)
          refine r_iast (pc := 90) X (at_X9_readHeap Hb0) dX9_readHeap_90 hG (fun h29 hG => ?_)
          refine r_aload_n (pc := 91) X dX9_readHeap_91 rfl rfl ?_
          refine r_iconst (pc := 92) X dX9_readHeap_92 hG rfl (fun z30 hG => ?_)
          refine r_putZ (pc := 93) X (at_X9_o Hb0) rfl mU_X9 (k := 27) (by decide) rfl rfl rfl mF_X9_87 dX9_readHeap_93 hG (fun h31 hG => ?_)
          refine r_aload_n (pc := 96) X dX9_readHeap_96 rfl rfl ?_
          refine r_cV (pc := 97) hG (fun _ hg => runV X dX9_readHeap_97 (c_X9_scan Hb0 hg) mM_X9_63 mI_X9_scan mE_X9_scan mN_X9 mK_X9_scan (at_X9_o Hb0) rfl rfl rfl rfl hdd_X9_scan ⟨(Nat.le_of_ble_eq_true rfl), (Nat.le_of_ble_eq_true rfl)⟩ rfl rfl (Nat.le_of_ble_eq_true rfl) ⟨(Nat.le_of_ble_eq_true rfl), (Nat.le_of_ble_eq_true rfl)⟩) (fun h32 hG => ?_)
          refine r_iconst (pc := 100) X dX9_readHeap_100 hG rfl (fun z33 hG => ?_)
          exact r_zretW (pc := 101) X dX9_readHeap_101 hQ hG
        · skip
          refine r_aload_n (pc := 72) X dX9_readHeap_72 rfl rfl ?_
          refine r_iconst (pc := 73) X dX9_readHeap_73 hG rfl (fun z34 hG => ?_)
          refine r_cW (pc := 74) hG (fun _ hg => runV X dX9_readHeap_74 (c_X9_bad Hb0 hg) mM_X9_49 mI_X9_bad mE_X9_bad mN_X9 mK_X9_bad (at_X9_o Hb0) rfl rfl rfl rfl hdd_X9_bad ⟨(Nat.le_of_ble_eq_true rfl), (Nat.le_of_ble_eq_true rfl)⟩ rfl rfl (Nat.le_of_ble_eq_true rfl) ⟨(Nat.le_of_ble_eq_true rfl), (Nat.le_of_ble_eq_true rfl)⟩) (fun z35 h36 hG => ?_)
          exact r_zretW (pc := 77) X dX9_readHeap_77 hQ hG
      · skip
        exact r_mask [false, false] rfl (Hj14 _ hG h21 rfl)
  · skip
    refine r_iconst (pc := 14) X dX9_readHeap_14 hG rfl (fun z37 hG => ?_)
    exact r_zretW (pc := 15) X dX9_readHeap_15 hQ hG
theorem c_X9_readHeap  {r : Int × Hp} (Hb0 : At_X9 shl) (hg : g_X9_readHeap h = some r) : Met l yX9_readHeap (wsM yX9_readHeap cX9_readHeap 2 (some .boolean)) rm_X9_readHeap (va_Pc [.ref (ad 100)] (World E ad shl h)) (QcI E ad shl r.1 r.2) 0 0 (bsA E) :=
  met_of (L0 := [some (.ref (ad 100)), none]) rfl rfl rfl (Nat.le_of_ble_eq_true rfl) (fun _ _ _ _ _ _ _ X => w_X9_readHeap Hb0 X rfl hg)
abbrev rm_X9_readStone : Room := { frames := 3, cells := 0, slots := 0, locals := 70 }
theorem hdd_X9_readStone : yX9_readStone.cls = RX9 ∧ yX9_readStone.cls ≠ "java/lang/invoke/MethodHandle" ∧ yX9_readStone.cls ≠ "java/lang/invoke/VarHandle" ∧ (parseMethodDescriptor yX9_readStone.desc).map (fun d => d.parameters.length) = some 0 := ⟨rfl, by decide +kernel, by decide +kernel, by decide +kernel⟩
set_option maxRecDepth 100000 in
set_option maxHeartbeats 4000000 in
theorem w_X9_readStone  {r : Int × Hp} (Hb0 : At_X9 shl) (X : Cx E p s m args meth c cX9_readStone RX9 1 (some .boolean)) (hQ : Q = MQ below (QcI E ad shl r.1 r.2) args s 0 0 (bsA E)) (hG : g_X9_readStone h = some r) : Ev E ad shl p l e rm_X9_readStone s m args below meth c 0 0 Q 1 h 0 [some (.ref (ad 100))] [] := by
  unfold g_X9_readStone at hG
  refine r_aload_n (pc := 0) X dX9_readStone_0 rfl rfl ?_
  refine r_cV (pc := 1) hG (fun _ hg => runV X dX9_readStone_1 (c_X9_scan Hb0 hg) mM_X9_63 mI_X9_scan mE_X9_scan mN_X9 mK_X9_scan (at_X9_o Hb0) rfl rfl rfl rfl hdd_X9_scan ⟨(Nat.le_of_ble_eq_true rfl), (Nat.le_of_ble_eq_true rfl)⟩ rfl rfl (Nat.le_of_ble_eq_true rfl) ⟨(Nat.le_of_ble_eq_true rfl), (Nat.le_of_ble_eq_true rfl)⟩) (fun h1 hG => ?_)
  refine r_aload_n (pc := 4) X dX9_readStone_4 rfl rfl ?_
  refine r_iconst (pc := 5) X dX9_readStone_5 hG rfl (fun z2 hG => ?_)
  refine r_aload_n (pc := 6) X dX9_readStone_6 rfl rfl ?_
  refine r_getI (pc := 7) X (at_X9_o Hb0) rfl mU_X9 (k := 14) (by decide) rfl mF_X9_73 dX9_readStone_7 hG (fun z3 hG => ?_)
  refine r_iconst (pc := 10) X dX9_readStone_10 hG rfl (fun z4 hG => ?_)
  refine r_isub (pc := 11) X dX9_readStone_11 hG (fun z5 hG => ?_)
  refine r_cW (pc := 12) hG (fun _ hg => runV X dX9_readStone_12 (c_X9_number Hb0 hg) mM_X9_70 mI_X9_number mE_X9_number mN_X9 mK_X9_number (at_X9_o Hb0) rfl rfl rfl rfl hdd_X9_number ⟨(Nat.le_of_ble_eq_true rfl), (Nat.le_of_ble_eq_true rfl)⟩ rfl rfl (Nat.le_of_ble_eq_true rfl) ⟨(Nat.le_of_ble_eq_true rfl), (Nat.le_of_ble_eq_true rfl)⟩) (fun z6 h7 hG => ?_)
  refine r_join hG (fun a8 => ∀ (h10 : Hp), a8 = h10 → Ev E ad shl p l e rm_X9_readStone s m args below meth c 0 0 Q 1 h10 37 [none] []) (fun a8 hG => ?_) (fun j9 Hj9 hG => ?_)
  · skip
    intro h10 ha; have ha := ha.symm; subst ha
    refine r_iconst (pc := 37) X dX9_readStone_37 hG rfl (fun z11 hG => ?_)
    exact r_zretW (pc := 38) X dX9_readStone_38 hQ hG
  refine r_if_eq (pc := 15) X dX9_readStone_15 (tgt := 37) (by decide) hG (fun hG => ?_) (fun hG => ?_)
  · skip
    exact r_mask [false] rfl (Hj9 _ hG h7 rfl)
  · skip
    refine r_aload_n (pc := 18) X dX9_readStone_18 rfl rfl ?_
    refine r_aload_n (pc := 19) X dX9_readStone_19 rfl rfl ?_
    refine r_getI (pc := 20) X (at_X9_o Hb0) rfl mU_X9 (k := 7) (by decide) rfl mF_X9_56 dX9_readStone_20 hG (fun z12 hG => ?_)
    refine r_aload_n (pc := 23) X dX9_readStone_23 rfl rfl ?_
    refine r_getI (pc := 24) X (at_X9_o Hb0) rfl mU_X9 (k := 14) (by decide) rfl mF_X9_73 dX9_readStone_24 hG (fun z13 hG => ?_)
    refine r_aload_n (pc := 27) X dX9_readStone_27 rfl rfl ?_
    refine r_getI (pc := 28) X (at_X9_o Hb0) rfl mU_X9 (k := 15) (by decide) rfl mF_X9_76 dX9_readStone_28 hG (fun z14 hG => ?_)
    refine r_cW (pc := 31) hG (fun _ hg => runV X dX9_readStone_31 (c_X9_cellAt Hb0 hg) mM_X9_79 mI_X9_cellAt mE_X9_cellAt mN_X9 mK_X9_cellAt (at_X9_o Hb0) rfl rfl rfl rfl hdd_X9_cellAt ⟨(Nat.le_of_ble_eq_true rfl), (Nat.le_of_ble_eq_true rfl)⟩ rfl rfl (Nat.le_of_ble_eq_true rfl) ⟨(Nat.le_of_ble_eq_true rfl), (Nat.le_of_ble_eq_true rfl)⟩) (fun z15 h16 hG => ?_)
    refine r_if_ne (pc := 34) X dX9_readStone_34 (tgt := 39) (by decide) hG (fun hG => ?_) (fun hG => ?_)
    · skip
      refine r_aload_n (pc := 39) X dX9_readStone_39 rfl rfl ?_
      refine r_getC (pc := 40) X (at_X9_o Hb0) rfl mU_X9 (k := 26) (by decide) (q := 109) rfl mF_X9_91 dX9_readStone_40 ?_
      refine r_aload_n (pc := 43) X dX9_readStone_43 rfl rfl ?_
      refine r_getI (pc := 44) X (at_X9_o Hb0) rfl mU_X9 (k := 7) (by decide) rfl mF_X9_56 dX9_readStone_44 hG (fun z17 hG => ?_)
      refine r_zald (pc := 47) X (at_X9_readStone Hb0) dX9_readStone_47 hG (fun z18 hG => ?_)
      refine r_if_eq (pc := 48) X dX9_readStone_48 (tgt := 57) (by decide) hG (fun hG => ?_) (fun hG => ?_)
      · skip
        refine r_aload_n (pc := 57) X dX9_readStone_57 rfl rfl ?_
        refine r_getC (pc := 58) X (at_X9_o Hb0) rfl mU_X9 (k := 26) (by decide) (q := 109) rfl mF_X9_91 dX9_readStone_58 ?_
        refine r_aload_n (pc := 61) X dX9_readStone_61 rfl rfl ?_
        refine r_getI (pc := 62) X (at_X9_o Hb0) rfl mU_X9 (k := 7) (by decide) rfl mF_X9_56 dX9_readStone_62 hG (fun z19 hG => ?_)
        refine r_iconst (pc := 65) X dX9_readStone_65 hG rfl (fun z20 hG => ?_)
        refine r_zast (pc := 66) X (at_X9_readStone Hb0) dX9_readStone_66 hG (fun h21 hG => ?_)
        refine r_aload_n (pc := 67) X dX9_readStone_67 rfl rfl ?_
        refine r_iconst (pc := 68) X dX9_readStone_68 hG rfl (fun z22 hG => ?_)
        refine r_putZ (pc := 69) X (at_X9_o Hb0) rfl mU_X9 (k := 27) (by decide) rfl rfl rfl mF_X9_87 dX9_readStone_69 hG (fun h23 hG => ?_)
        refine r_aload_n (pc := 72) X dX9_readStone_72 rfl rfl ?_
        refine r_cV (pc := 73) hG (fun _ hg => runV X dX9_readStone_73 (c_X9_scan Hb0 hg) mM_X9_63 mI_X9_scan mE_X9_scan mN_X9 mK_X9_scan (at_X9_o Hb0) rfl rfl rfl rfl hdd_X9_scan ⟨(Nat.le_of_ble_eq_true rfl), (Nat.le_of_ble_eq_true rfl)⟩ rfl rfl (Nat.le_of_ble_eq_true rfl) ⟨(Nat.le_of_ble_eq_true rfl), (Nat.le_of_ble_eq_true rfl)⟩) (fun h24 hG => ?_)
        refine r_iconst (pc := 76) X dX9_readStone_76 hG rfl (fun z25 hG => ?_)
        exact r_zretW (pc := 77) X dX9_readStone_77 hQ hG
      · skip
        refine r_aload_n (pc := 51) X dX9_readStone_51 rfl rfl ?_
        refine r_iconst (pc := 52) X dX9_readStone_52 hG rfl (fun z26 hG => ?_)
        refine r_cW (pc := 53) hG (fun _ hg => runV X dX9_readStone_53 (c_X9_bad Hb0 hg) mM_X9_49 mI_X9_bad mE_X9_bad mN_X9 mK_X9_bad (at_X9_o Hb0) rfl rfl rfl rfl hdd_X9_bad ⟨(Nat.le_of_ble_eq_true rfl), (Nat.le_of_ble_eq_true rfl)⟩ rfl rfl (Nat.le_of_ble_eq_true rfl) ⟨(Nat.le_of_ble_eq_true rfl), (Nat.le_of_ble_eq_true rfl)⟩) (fun z27 h28 hG => ?_)
        exact r_zretW (pc := 56) X dX9_readStone_56 hQ hG
    · skip
      exact r_mask [false] rfl (Hj9 _ hG h16 rfl)
theorem c_X9_readStone  {r : Int × Hp} (Hb0 : At_X9 shl) (hg : g_X9_readStone h = some r) : Met l yX9_readStone (wsM yX9_readStone cX9_readStone 1 (some .boolean)) rm_X9_readStone (va_Pc [.ref (ad 100)] (World E ad shl h)) (QcI E ad shl r.1 r.2) 0 0 (bsA E) :=
  met_of (L0 := [some (.ref (ad 100))]) rfl rfl rfl (Nat.le_of_ble_eq_true rfl) (fun _ _ _ _ _ _ _ X => w_X9_readStone Hb0 X rfl hg)
abbrev rm_X9_readFlag : Room := { frames := 3, cells := 0, slots := 0, locals := 70 }
theorem hdd_X9_readFlag : yX9_readFlag.cls = RX9 ∧ yX9_readFlag.cls ≠ "java/lang/invoke/MethodHandle" ∧ yX9_readFlag.cls ≠ "java/lang/invoke/VarHandle" ∧ (parseMethodDescriptor yX9_readFlag.desc).map (fun d => d.parameters.length) = some 0 := ⟨rfl, by decide +kernel, by decide +kernel, by decide +kernel⟩
set_option maxRecDepth 100000 in
set_option maxHeartbeats 4000000 in
theorem w_X9_readFlag  {r : Int × Hp} (Hb0 : At_X9 shl) (X : Cx E p s m args meth c cX9_readFlag RX9 2 (some .boolean)) (hQ : Q = MQ below (QcI E ad shl r.1 r.2) args s 0 0 (bsA E)) (hG : g_X9_readFlag h = some r) : Ev E ad shl p l e rm_X9_readFlag s m args below meth c 0 0 Q 2 h 0 [some (.ref (ad 100)), none] [] := by
  unfold g_X9_readFlag at hG
  refine r_aload_n (pc := 0) X dX9_readFlag_0 rfl rfl ?_
  refine r_getI (pc := 1) X (at_X9_o Hb0) rfl mU_X9 (k := 16) (by decide) rfl mF_X9_95 dX9_readFlag_1 hG (fun z1 hG => ?_)
  refine r_iconst (pc := 4) X dX9_readFlag_4 hG rfl (fun z2 hG => ?_)
  refine r_icmp_ne (pc := 5) X dX9_readFlag_5 (tgt := 14) (by decide) hG (fun hG => ?_) (fun hG => ?_)
  · skip
    refine r_aload_n (pc := 14) X dX9_readFlag_14 rfl rfl ?_
    refine r_cV (pc := 15) hG (fun _ hg => runV X dX9_readFlag_15 (c_X9_scan Hb0 hg) mM_X9_63 mI_X9_scan mE_X9_scan mN_X9 mK_X9_scan (at_X9_o Hb0) rfl rfl rfl rfl hdd_X9_scan ⟨(Nat.le_of_ble_eq_true rfl), (Nat.le_of_ble_eq_true rfl)⟩ rfl rfl (Nat.le_of_ble_eq_true rfl) ⟨(Nat.le_of_ble_eq_true rfl), (Nat.le_of_ble_eq_true rfl)⟩) (fun h3 hG => ?_)
    refine r_aload_n (pc := 18) X dX9_readFlag_18 rfl rfl ?_
    refine r_iconst (pc := 19) X dX9_readFlag_19 hG rfl (fun z4 hG => ?_)
    refine r_aload_n (pc := 20) X dX9_readFlag_20 rfl rfl ?_
    refine r_getI (pc := 21) X (at_X9_o Hb0) rfl mU_X9 (k := 14) (by decide) rfl mF_X9_73 dX9_readFlag_21 hG (fun z5 hG => ?_)
    refine r_iconst (pc := 24) X dX9_readFlag_24 hG rfl (fun z6 hG => ?_)
    refine r_isub (pc := 25) X dX9_readFlag_25 hG (fun z7 hG => ?_)
    refine r_cW (pc := 26) hG (fun _ hg => runV X dX9_readFlag_26 (c_X9_number Hb0 hg) mM_X9_70 mI_X9_number mE_X9_number mN_X9 mK_X9_number (at_X9_o Hb0) rfl rfl rfl rfl hdd_X9_number ⟨(Nat.le_of_ble_eq_true rfl), (Nat.le_of_ble_eq_true rfl)⟩ rfl rfl (Nat.le_of_ble_eq_true rfl) ⟨(Nat.le_of_ble_eq_true rfl), (Nat.le_of_ble_eq_true rfl)⟩) (fun z8 h9 hG => ?_)
    refine r_join hG (fun a10 => ∀ (h12 : Hp), a10 = h12 → Ev E ad shl p l e rm_X9_readFlag s m args below meth c 0 0 Q 2 h12 51 [none, none] []) (fun a10 hG => ?_) (fun j11 Hj11 hG => ?_)
    · skip
      intro h12 ha; have ha := ha.symm; subst ha
      refine r_iconst (pc := 51) X dX9_readFlag_51 hG rfl (fun z13 hG => ?_)
      exact r_zretW (pc := 52) X dX9_readFlag_52 hQ hG
    refine r_if_eq (pc := 29) X dX9_readFlag_29 (tgt := 51) (by decide) hG (fun hG => ?_) (fun hG => ?_)
    · skip
      exact r_mask [false, false] rfl (Hj11 _ hG h9 rfl)
    · skip
      refine r_aload_n (pc := 32) X dX9_readFlag_32 rfl rfl ?_
      refine r_aload_n (pc := 33) X dX9_readFlag_33 rfl rfl ?_
      refine r_getI (pc := 34) X (at_X9_o Hb0) rfl mU_X9 (k := 7) (by decide) rfl mF_X9_56 dX9_readFlag_34 hG (fun z14 hG => ?_)
      refine r_aload_n (pc := 37) X dX9_readFlag_37 rfl rfl ?_
      refine r_getI (pc := 38) X (at_X9_o Hb0) rfl mU_X9 (k := 14) (by decide) rfl mF_X9_73 dX9_readFlag_38 hG (fun z15 hG => ?_)
      refine r_aload_n (pc := 41) X dX9_readFlag_41 rfl rfl ?_
      refine r_getI (pc := 42) X (at_X9_o Hb0) rfl mU_X9 (k := 15) (by decide) rfl mF_X9_76 dX9_readFlag_42 hG (fun z16 hG => ?_)
      refine r_cW (pc := 45) hG (fun _ hg => runV X dX9_readFlag_45 (c_X9_cellAt Hb0 hg) mM_X9_79 mI_X9_cellAt mE_X9_cellAt mN_X9 mK_X9_cellAt (at_X9_o Hb0) rfl rfl rfl rfl hdd_X9_cellAt ⟨(Nat.le_of_ble_eq_true rfl), (Nat.le_of_ble_eq_true rfl)⟩ rfl rfl (Nat.le_of_ble_eq_true rfl) ⟨(Nat.le_of_ble_eq_true rfl), (Nat.le_of_ble_eq_true rfl)⟩) (fun z17 h18 hG => ?_)
      refine r_if_ne (pc := 48) X dX9_readFlag_48 (tgt := 53) (by decide) hG (fun hG => ?_) (fun hG => ?_)
      · skip
        refine r_iconst (pc := 53) X dX9_readFlag_53 hG rfl (fun z19 hG => ?_)
        refine r_istore_n (pc := 54) (L' := [some (.ref (ad 100)), some (.int z19)]) X dX9_readFlag_54 rfl (by decide) rfl rfl ?_
        refine r_join hG (fun _ => Ev E ad shl p l e rm_X9_readFlag s m args below meth c 0 0 Q 2 h18 88 [some (.ref (ad 100)), none] []) (fun a20 hG => ?_) (fun j21 Hj21 hG => ?_)
        · skip
          refine r_aload_n (pc := 88) X dX9_readFlag_88 rfl rfl ?_
          refine r_getC (pc := 89) X (at_X9_o Hb0) rfl mU_X9 (k := 24) (by decide) (q := 107) rfl mF_X9_98 dX9_readFlag_89 ?_
          refine r_aload_n (pc := 92) X dX9_readFlag_92 rfl rfl ?_
          refine r_getI (pc := 93) X (at_X9_o Hb0) rfl mU_X9 (k := 16) (by decide) rfl mF_X9_95 dX9_readFlag_93 hG (fun z22 hG => ?_)
          refine r_aload_n (pc := 96) X dX9_readFlag_96 rfl rfl ?_
          refine r_getI (pc := 97) X (at_X9_o Hb0) rfl mU_X9 (k := 7) (by decide) rfl mF_X9_56 dX9_readFlag_97 hG (fun z23 hG => ?_)
          refine r_iast (pc := 100) X (at_X9_readFlagAt Hb0) dX9_readFlag_100 hG (fun h24 hG => ?_)
          refine r_aload_n (pc := 101) X dX9_readFlag_101 rfl rfl ?_
          refine r_dup (pc := 102) X dX9_readFlag_102 rfl ?_
          refine r_getI (pc := 103) X (at_X9_o Hb0) rfl mU_X9 (k := 16) (by decide) rfl mF_X9_95 dX9_readFlag_103 hG (fun z25 hG => ?_)
          refine r_iconst (pc := 106) X dX9_readFlag_106 hG rfl (fun z26 hG => ?_)
          refine r_iadd (pc := 107) X dX9_readFlag_107 hG (fun z27 hG => ?_)
          refine r_putI (pc := 108) X (at_X9_o Hb0) rfl mU_X9 (k := 16) (by decide) rfl rfl rfl mF_X9_95 dX9_readFlag_108 hG (fun h28 hG => ?_)
          refine r_aload_n (pc := 111) X dX9_readFlag_111 rfl rfl ?_
          refine r_iconst (pc := 112) X dX9_readFlag_112 hG rfl (fun z29 hG => ?_)
          refine r_putZ (pc := 113) X (at_X9_o Hb0) rfl mU_X9 (k := 27) (by decide) rfl rfl rfl mF_X9_87 dX9_readFlag_113 hG (fun h30 hG => ?_)
          refine r_aload_n (pc := 116) X dX9_readFlag_116 rfl rfl ?_
          refine r_cV (pc := 117) hG (fun _ hg => runV X dX9_readFlag_117 (c_X9_scan Hb0 hg) mM_X9_63 mI_X9_scan mE_X9_scan mN_X9 mK_X9_scan (at_X9_o Hb0) rfl rfl rfl rfl hdd_X9_scan ⟨(Nat.le_of_ble_eq_true rfl), (Nat.le_of_ble_eq_true rfl)⟩ rfl rfl (Nat.le_of_ble_eq_true rfl) ⟨(Nat.le_of_ble_eq_true rfl), (Nat.le_of_ble_eq_true rfl)⟩) (fun h31 hG => ?_)
          refine r_iconst (pc := 120) X dX9_readFlag_120 hG rfl (fun z32 hG => ?_)
          exact r_zretW (pc := 121) X dX9_readFlag_121 hQ hG
        refine r_mask [true, true] rfl (r_loop (fun q33 => ∀ (y35 : Int32), q33 = y35.toInt → Ev E ad shl p l e rm_X9_readFlag s m args below meth c 0 0 Q 2 h18 55 [some (.ref (ad 100)), some (.int y35)] []) (fun l34 Hl34 q33 hG => ?_) FU _ hG z19 rfl)
        intro y35 ha; have ha := ha.symm; subst ha
        unfold g_X9_readFlag_l34 at hG
        refine r_iload_n (pc := 55) X dX9_readFlag_55 rfl rfl ?_
        refine r_aload_n (pc := 56) X dX9_readFlag_56 rfl rfl ?_
        refine r_getI (pc := 57) X (at_X9_o Hb0) rfl mU_X9 (k := 16) (by decide) rfl mF_X9_95 dX9_readFlag_57 hG (fun z36 hG => ?_)
        refine r_icmp_ge (pc := 60) X dX9_readFlag_60 (tgt := 88) (by decide) hG (fun hG => ?_) (fun hG => ?_)
        · skip
          exact r_mask [true, false] rfl (Hj21 _ hG)
        · skip
          refine r_aload_n (pc := 63) X dX9_readFlag_63 rfl rfl ?_
          refine r_getC (pc := 64) X (at_X9_o Hb0) rfl mU_X9 (k := 24) (by decide) (q := 107) rfl mF_X9_98 dX9_readFlag_64 ?_
          refine r_iload_n (pc := 67) X dX9_readFlag_67 rfl rfl ?_
          refine r_iald (pc := 68) X (at_X9_readFlagAt Hb0) dX9_readFlag_68 hG (fun z37 hG => ?_)
          refine r_aload_n (pc := 69) X dX9_readFlag_69 rfl rfl ?_
          refine r_getI (pc := 70) X (at_X9_o Hb0) rfl mU_X9 (k := 7) (by decide) rfl mF_X9_56 dX9_readFlag_70 hG (fun z38 hG => ?_)
          refine r_icmp_ne (pc := 73) X dX9_readFlag_73 (tgt := 82) (by decide) hG (fun hG => ?_) (fun hG => ?_)
          · skip
            refine r_iinc (pc := 82) (L' := fun z39 => [some (.ref (ad 100)), some (.int z39)]) X dX9_readFlag_82 (by decide) rfl rfl (by decide) (fun _ => rfl) hG (fun z39 hG => ?_)
            refine r_goto (pc := 85) X dX9_readFlag_85 (tgt := 55) (by decide) ?_
            exact r_mask [true, true] rfl (Hl34 _ hG z39 rfl)
          · skip
            refine r_aload_n (pc := 76) X dX9_readFlag_76 rfl rfl ?_
            refine r_iconst (pc := 77) X dX9_readFlag_77 hG rfl (fun z40 hG => ?_)
            refine r_cW (pc := 78) hG (fun _ hg => runV X dX9_readFlag_78 (c_X9_bad Hb0 hg) mM_X9_49 mI_X9_bad mE_X9_bad mN_X9 mK_X9_bad (at_X9_o Hb0) rfl rfl rfl rfl hdd_X9_bad ⟨(Nat.le_of_ble_eq_true rfl), (Nat.le_of_ble_eq_true rfl)⟩ rfl rfl (Nat.le_of_ble_eq_true rfl) ⟨(Nat.le_of_ble_eq_true rfl), (Nat.le_of_ble_eq_true rfl)⟩) (fun z41 h42 hG => ?_)
            exact r_zretW (pc := 81) X dX9_readFlag_81 hQ hG
      · skip
        exact r_mask [false, false] rfl (Hj11 _ hG h18 rfl)
  · skip
    refine r_aload_n (pc := 8) X dX9_readFlag_8 rfl rfl ?_
    refine r_iconst (pc := 9) X dX9_readFlag_9 hG rfl (fun z43 hG => ?_)
    refine r_cW (pc := 10) hG (fun _ hg => runV X dX9_readFlag_10 (c_X9_bad Hb0 hg) mM_X9_49 mI_X9_bad mE_X9_bad mN_X9 mK_X9_bad (at_X9_o Hb0) rfl rfl rfl rfl hdd_X9_bad ⟨(Nat.le_of_ble_eq_true rfl), (Nat.le_of_ble_eq_true rfl)⟩ rfl rfl (Nat.le_of_ble_eq_true rfl) ⟨(Nat.le_of_ble_eq_true rfl), (Nat.le_of_ble_eq_true rfl)⟩) (fun z44 h45 hG => ?_)
    exact r_zretW (pc := 13) X dX9_readFlag_13 hQ hG
theorem c_X9_readFlag  {r : Int × Hp} (Hb0 : At_X9 shl) (hg : g_X9_readFlag h = some r) : Met l yX9_readFlag (wsM yX9_readFlag cX9_readFlag 2 (some .boolean)) rm_X9_readFlag (va_Pc [.ref (ad 100)] (World E ad shl h)) (QcI E ad shl r.1 r.2) 0 0 (bsA E) :=
  met_of (L0 := [some (.ref (ad 100)), none]) rfl rfl rfl (Nat.le_of_ble_eq_true rfl) (fun _ _ _ _ _ _ _ X => w_X9_readFlag Hb0 X rfl hg)
abbrev rm_X9_readShape : Room := { frames := 3, cells := 0, slots := 0, locals := 69 }
theorem hdd_X9_readShape : yX9_readShape.cls = RX9 ∧ yX9_readShape.cls ≠ "java/lang/invoke/MethodHandle" ∧ yX9_readShape.cls ≠ "java/lang/invoke/VarHandle" ∧ (parseMethodDescriptor yX9_readShape.desc).map (fun d => d.parameters.length) = some 0 := ⟨rfl, by decide +kernel, by decide +kernel, by decide +kernel⟩
set_option maxRecDepth 100000 in
set_option maxHeartbeats 4000000 in
theorem w_X9_readShape  {r : Int × Hp} (Hb0 : At_X9 shl) (X : Cx E p s m args meth c cX9_readShape RX9 1 (some .boolean)) (hQ : Q = MQ below (QcI E ad shl r.1 r.2) args s 0 0 (bsA E)) (hG : g_X9_readShape h = some r) : Ev E ad shl p l e rm_X9_readShape s m args below meth c 0 0 Q 1 h 0 [some (.ref (ad 100))] [] := by
  unfold g_X9_readShape at hG
  refine r_aload_n (pc := 0) X dX9_readShape_0 rfl rfl ?_
  refine r_getI (pc := 1) X (at_X9_o Hb0) rfl mU_X9 (k := 18) (by decide) rfl mF_X9_101 dX9_readShape_1 hG (fun z1 hG => ?_)
  refine r_iconst (pc := 4) X dX9_readShape_4 hG rfl (fun z2 hG => ?_)
  refine r_iand (pc := 5) X dX9_readShape_5 hG (fun z3 hG => ?_)
  refine r_iconst (pc := 6) X dX9_readShape_6 hG rfl (fun z4 hG => ?_)
  refine r_icmp_ne (pc := 7) X dX9_readShape_7 (tgt := 16) (by decide) hG (fun hG => ?_) (fun hG => ?_)
  · skip
    refine r_aload_n (pc := 16) X dX9_readShape_16 rfl rfl ?_
    refine r_getI (pc := 17) X (at_X9_o Hb0) rfl mU_X9 (k := 27) (by decide) rfl mF_X9_87 dX9_readShape_17 hG (fun z5 hG => ?_)
    refine r_if_eq (pc := 20) X dX9_readShape_20 (tgt := 29) (by decide) hG (fun hG => ?_) (fun hG => ?_)
    · skip
      refine r_aload_n (pc := 29) X dX9_readShape_29 rfl rfl ?_
      refine r_dup (pc := 30) X dX9_readShape_30 rfl ?_
      refine r_getI (pc := 31) X (at_X9_o Hb0) rfl mU_X9 (k := 18) (by decide) rfl mF_X9_101 dX9_readShape_31 hG (fun z6 hG => ?_)
      refine r_iconst (pc := 34) X dX9_readShape_34 hG rfl (fun z7 hG => ?_)
      refine r_ior (pc := 35) X dX9_readShape_35 hG (fun z8 hG => ?_)
      refine r_putI (pc := 36) X (at_X9_o Hb0) rfl mU_X9 (k := 18) (by decide) rfl rfl rfl mF_X9_101 dX9_readShape_36 hG (fun h9 hG => ?_)
      refine r_aload_n (pc := 39) X dX9_readShape_39 rfl rfl ?_
      refine r_cV (pc := 40) hG (fun _ hg => runV X dX9_readShape_40 (c_X9_scan Hb0 hg) mM_X9_63 mI_X9_scan mE_X9_scan mN_X9 mK_X9_scan (at_X9_o Hb0) rfl rfl rfl rfl hdd_X9_scan ⟨(Nat.le_of_ble_eq_true rfl), (Nat.le_of_ble_eq_true rfl)⟩ rfl rfl (Nat.le_of_ble_eq_true rfl) ⟨(Nat.le_of_ble_eq_true rfl), (Nat.le_of_ble_eq_true rfl)⟩) (fun h10 hG => ?_)
      refine r_aload_n (pc := 43) X dX9_readShape_43 rfl rfl ?_
      refine r_iconst (pc := 44) X dX9_readShape_44 hG rfl (fun z11 hG => ?_)
      refine r_bipush (pc := 45) X dX9_readShape_45 hG (by decide) (fun z12 hG => ?_)
      refine r_cW (pc := 47) hG (fun _ hg => runV X dX9_readShape_47 (c_X9_number Hb0 hg) mM_X9_70 mI_X9_number mE_X9_number mN_X9 mK_X9_number (at_X9_o Hb0) rfl rfl rfl rfl hdd_X9_number ⟨(Nat.le_of_ble_eq_true rfl), (Nat.le_of_ble_eq_true rfl)⟩ rfl rfl (Nat.le_of_ble_eq_true rfl) ⟨(Nat.le_of_ble_eq_true rfl), (Nat.le_of_ble_eq_true rfl)⟩) (fun z13 h14 hG => ?_)
      refine r_if_ne (pc := 50) X dX9_readShape_50 (tgt := 55) (by decide) hG (fun hG => ?_) (fun hG => ?_)
      · skip
        refine r_aload_n (pc := 55) X dX9_readShape_55 rfl rfl ?_
        refine r_aload_n (pc := 56) X dX9_readShape_56 rfl rfl ?_
        refine r_getI (pc := 57) X (at_X9_o Hb0) rfl mU_X9 (k := 7) (by decide) rfl mF_X9_56 dX9_readShape_57 hG (fun z15 hG => ?_)
        refine r_putI (pc := 60) X (at_X9_o Hb0) rfl mU_X9 (k := 14) (by decide) rfl rfl rfl mF_X9_73 dX9_readShape_60 hG (fun h16 hG => ?_)
        refine r_aload_n (pc := 63) X dX9_readShape_63 rfl rfl ?_
        refine r_iconst (pc := 64) X dX9_readShape_64 hG rfl (fun z17 hG => ?_)
        refine r_bipush (pc := 65) X dX9_readShape_65 hG (by decide) (fun z18 hG => ?_)
        refine r_cW (pc := 67) hG (fun _ hg => runV X dX9_readShape_67 (c_X9_number Hb0 hg) mM_X9_70 mI_X9_number mE_X9_number mN_X9 mK_X9_number (at_X9_o Hb0) rfl rfl rfl rfl hdd_X9_number ⟨(Nat.le_of_ble_eq_true rfl), (Nat.le_of_ble_eq_true rfl)⟩ rfl rfl (Nat.le_of_ble_eq_true rfl) ⟨(Nat.le_of_ble_eq_true rfl), (Nat.le_of_ble_eq_true rfl)⟩) (fun z19 h20 hG => ?_)
        refine r_if_ne (pc := 70) X dX9_readShape_70 (tgt := 75) (by decide) hG (fun hG => ?_) (fun hG => ?_)
        · skip
          refine r_aload_n (pc := 75) X dX9_readShape_75 rfl rfl ?_
          refine r_aload_n (pc := 76) X dX9_readShape_76 rfl rfl ?_
          refine r_getI (pc := 77) X (at_X9_o Hb0) rfl mU_X9 (k := 7) (by decide) rfl mF_X9_56 dX9_readShape_77 hG (fun z21 hG => ?_)
          refine r_putI (pc := 80) X (at_X9_o Hb0) rfl mU_X9 (k := 15) (by decide) rfl rfl rfl mF_X9_76 dX9_readShape_80 hG (fun h22 hG => ?_)
          refine r_iconst (pc := 83) X dX9_readShape_83 hG rfl (fun z23 hG => ?_)
          exact r_zretW (pc := 84) X dX9_readShape_84 hQ hG
        · skip
          refine r_iconst (pc := 73) X dX9_readShape_73 hG rfl (fun z24 hG => ?_)
          exact r_zretW (pc := 74) X dX9_readShape_74 hQ hG
      · skip
        refine r_iconst (pc := 53) X dX9_readShape_53 hG rfl (fun z25 hG => ?_)
        exact r_zretW (pc := 54) X dX9_readShape_54 hQ hG
    · skip
      refine r_aload_n (pc := 23) X dX9_readShape_23 rfl rfl ?_
      refine r_iconst (pc := 24) X dX9_readShape_24 hG rfl (fun z26 hG => ?_)
      refine r_cW (pc := 25) hG (fun _ hg => runV X dX9_readShape_25 (c_X9_bad Hb0 hg) mM_X9_49 mI_X9_bad mE_X9_bad mN_X9 mK_X9_bad (at_X9_o Hb0) rfl rfl rfl rfl hdd_X9_bad ⟨(Nat.le_of_ble_eq_true rfl), (Nat.le_of_ble_eq_true rfl)⟩ rfl rfl (Nat.le_of_ble_eq_true rfl) ⟨(Nat.le_of_ble_eq_true rfl), (Nat.le_of_ble_eq_true rfl)⟩) (fun z27 h28 hG => ?_)
      exact r_zretW (pc := 28) X dX9_readShape_28 hQ hG
  · skip
    refine r_aload_n (pc := 10) X dX9_readShape_10 rfl rfl ?_
    refine r_iconst (pc := 11) X dX9_readShape_11 hG rfl (fun z29 hG => ?_)
    refine r_cW (pc := 12) hG (fun _ hg => runV X dX9_readShape_12 (c_X9_bad Hb0 hg) mM_X9_49 mI_X9_bad mE_X9_bad mN_X9 mK_X9_bad (at_X9_o Hb0) rfl rfl rfl rfl hdd_X9_bad ⟨(Nat.le_of_ble_eq_true rfl), (Nat.le_of_ble_eq_true rfl)⟩ rfl rfl (Nat.le_of_ble_eq_true rfl) ⟨(Nat.le_of_ble_eq_true rfl), (Nat.le_of_ble_eq_true rfl)⟩) (fun z30 h31 hG => ?_)
    exact r_zretW (pc := 15) X dX9_readShape_15 hQ hG
theorem c_X9_readShape  {r : Int × Hp} (Hb0 : At_X9 shl) (hg : g_X9_readShape h = some r) : Met l yX9_readShape (wsM yX9_readShape cX9_readShape 1 (some .boolean)) rm_X9_readShape (va_Pc [.ref (ad 100)] (World E ad shl h)) (QcI E ad shl r.1 r.2) 0 0 (bsA E) :=
  met_of (L0 := [some (.ref (ad 100))]) rfl rfl rfl (Nat.le_of_ble_eq_true rfl) (fun _ _ _ _ _ _ _ X => w_X9_readShape Hb0 X rfl hg)
abbrev rm_X9_wordAt : Room := { frames := 5, cells := 0, slots := 0, locals := 108 }
theorem hdd_X9_wordAt : yX9_wordAt.cls = RX9 ∧ yX9_wordAt.cls ≠ "java/lang/invoke/MethodHandle" ∧ yX9_wordAt.cls ≠ "java/lang/invoke/VarHandle" ∧ (parseMethodDescriptor yX9_wordAt.desc).map (fun d => d.parameters.length) = some 0 := ⟨rfl, by decide +kernel, by decide +kernel, by decide +kernel⟩
set_option maxRecDepth 100000 in
set_option maxHeartbeats 4000000 in
theorem w_X9_wordAt  {r : Int} (Hb0 : At_X9 shl) (X : Cx E p s m args meth c cX9_wordAt RX9 1 (some .int)) (hQ : Q = MQ below (QcI E ad shl r h) args s 0 0 (bsA E)) (hG : g_X9_wordAt h = some r) : Ev E ad shl p l e rm_X9_wordAt s m args below meth c 0 0 Q 1 h 0 [some (.ref (ad 100))] [] := by
  unfold g_X9_wordAt at hG
  refine r_aload_n (pc := 0) X dX9_wordAt_0 rfl rfl ?_
  refine r_ldcS (pc := 1) (k := 26) X rfl rfl rfl dX9_wordAt_1 ?_
  refine r_cP (pc := 3) hG (fun _ hg => runV X dX9_wordAt_3 (c_X9_is Hb0 rfl hg) mM_X9_106 mI_X9_is mE_X9_is mN_X9 mK_X9_is (at_X9_o Hb0) rfl rfl rfl rfl hdd_X9_is ⟨(Nat.le_of_ble_eq_true rfl), (Nat.le_of_ble_eq_true rfl)⟩ rfl rfl (Nat.le_of_ble_eq_true rfl) ⟨(Nat.le_of_ble_eq_true rfl), (Nat.le_of_ble_eq_true rfl)⟩) (fun z1 hG => ?_)
  refine r_join hG (fun a2 => ∀ (y4 : Int32), a2 = y4.toInt → Ev E ad shl p l e rm_X9_wordAt s m args below meth c 0 0 Q 1 h 93 [none] [.int y4]) (fun a2 hG => ?_) (fun j3 Hj3 hG => ?_)
  · skip
    intro y4 ha; have ha := ha.symm; subst ha
    exact r_iretP (pc := 93) X dX9_wordAt_93 hQ hG
  refine r_if_eq (pc := 6) X dX9_wordAt_6 (tgt := 13) (by decide) hG (fun hG => ?_) (fun hG => ?_)
  · skip
    refine r_aload_n (pc := 13) X dX9_wordAt_13 rfl rfl ?_
    refine r_ldcS (pc := 14) (k := 27) X rfl rfl rfl dX9_wordAt_14 ?_
    refine r_cP (pc := 16) hG (fun _ hg => runV X dX9_wordAt_16 (c_X9_is Hb0 rfl hg) mM_X9_106 mI_X9_is mE_X9_is mN_X9 mK_X9_is (at_X9_o Hb0) rfl rfl rfl rfl hdd_X9_is ⟨(Nat.le_of_ble_eq_true rfl), (Nat.le_of_ble_eq_true rfl)⟩ rfl rfl (Nat.le_of_ble_eq_true rfl) ⟨(Nat.le_of_ble_eq_true rfl), (Nat.le_of_ble_eq_true rfl)⟩) (fun z5 hG => ?_)
    refine r_if_eq (pc := 19) X dX9_wordAt_19 (tgt := 26) (by decide) hG (fun hG => ?_) (fun hG => ?_)
    · skip
      refine r_aload_n (pc := 26) X dX9_wordAt_26 rfl rfl ?_
      refine r_ldcS (pc := 27) (k := 28) X rfl rfl rfl dX9_wordAt_27 ?_
      refine r_cP (pc := 29) hG (fun _ hg => runV X dX9_wordAt_29 (c_X9_is Hb0 rfl hg) mM_X9_106 mI_X9_is mE_X9_is mN_X9 mK_X9_is (at_X9_o Hb0) rfl rfl rfl rfl hdd_X9_is ⟨(Nat.le_of_ble_eq_true rfl), (Nat.le_of_ble_eq_true rfl)⟩ rfl rfl (Nat.le_of_ble_eq_true rfl) ⟨(Nat.le_of_ble_eq_true rfl), (Nat.le_of_ble_eq_true rfl)⟩) (fun z6 hG => ?_)
      refine r_if_eq (pc := 32) X dX9_wordAt_32 (tgt := 39) (by decide) hG (fun hG => ?_) (fun hG => ?_)
      · skip
        refine r_aload_n (pc := 39) X dX9_wordAt_39 rfl rfl ?_
        refine r_ldcS (pc := 40) (k := 29) X rfl rfl rfl dX9_wordAt_40 ?_
        refine r_cP (pc := 42) hG (fun _ hg => runV X dX9_wordAt_42 (c_X9_is Hb0 rfl hg) mM_X9_106 mI_X9_is mE_X9_is mN_X9 mK_X9_is (at_X9_o Hb0) rfl rfl rfl rfl hdd_X9_is ⟨(Nat.le_of_ble_eq_true rfl), (Nat.le_of_ble_eq_true rfl)⟩ rfl rfl (Nat.le_of_ble_eq_true rfl) ⟨(Nat.le_of_ble_eq_true rfl), (Nat.le_of_ble_eq_true rfl)⟩) (fun z7 hG => ?_)
        refine r_if_eq (pc := 45) X dX9_wordAt_45 (tgt := 52) (by decide) hG (fun hG => ?_) (fun hG => ?_)
        · skip
          refine r_aload_n (pc := 52) X dX9_wordAt_52 rfl rfl ?_
          refine r_ldcS (pc := 53) (k := 30) X rfl rfl rfl dX9_wordAt_53 ?_
          refine r_cP (pc := 55) hG (fun _ hg => runV X dX9_wordAt_55 (c_X9_is Hb0 rfl hg) mM_X9_106 mI_X9_is mE_X9_is mN_X9 mK_X9_is (at_X9_o Hb0) rfl rfl rfl rfl hdd_X9_is ⟨(Nat.le_of_ble_eq_true rfl), (Nat.le_of_ble_eq_true rfl)⟩ rfl rfl (Nat.le_of_ble_eq_true rfl) ⟨(Nat.le_of_ble_eq_true rfl), (Nat.le_of_ble_eq_true rfl)⟩) (fun z8 hG => ?_)
          refine r_if_eq (pc := 58) X dX9_wordAt_58 (tgt := 65) (by decide) hG (fun hG => ?_) (fun hG => ?_)
          · skip
            refine r_aload_n (pc := 65) X dX9_wordAt_65 rfl rfl ?_
            refine r_ldcS (pc := 66) (k := 31) X rfl rfl rfl dX9_wordAt_66 ?_
            refine r_cP (pc := 68) hG (fun _ hg => runV X dX9_wordAt_68 (c_X9_is Hb0 rfl hg) mM_X9_106 mI_X9_is mE_X9_is mN_X9 mK_X9_is (at_X9_o Hb0) rfl rfl rfl rfl hdd_X9_is ⟨(Nat.le_of_ble_eq_true rfl), (Nat.le_of_ble_eq_true rfl)⟩ rfl rfl (Nat.le_of_ble_eq_true rfl) ⟨(Nat.le_of_ble_eq_true rfl), (Nat.le_of_ble_eq_true rfl)⟩) (fun z9 hG => ?_)
            refine r_if_eq (pc := 71) X dX9_wordAt_71 (tgt := 78) (by decide) hG (fun hG => ?_) (fun hG => ?_)
            · skip
              refine r_aload_n (pc := 78) X dX9_wordAt_78 rfl rfl ?_
              refine r_ldcS (pc := 79) (k := 32) X rfl rfl rfl dX9_wordAt_79 ?_
              refine r_cP (pc := 81) hG (fun _ hg => runV X dX9_wordAt_81 (c_X9_is Hb0 rfl hg) mM_X9_106 mI_X9_is mE_X9_is mN_X9 mK_X9_is (at_X9_o Hb0) rfl rfl rfl rfl hdd_X9_is ⟨(Nat.le_of_ble_eq_true rfl), (Nat.le_of_ble_eq_true rfl)⟩ rfl rfl (Nat.le_of_ble_eq_true rfl) ⟨(Nat.le_of_ble_eq_true rfl), (Nat.le_of_ble_eq_true rfl)⟩) (fun z10 hG => ?_)
              refine r_if_eq (pc := 84) X dX9_wordAt_84 (tgt := 92) (by decide) hG (fun hG => ?_) (fun hG => ?_)
              · skip
                refine r_iconst (pc := 92) X dX9_wordAt_92 hG rfl (fun z11 hG => ?_)
                exact r_mask [false] rfl (Hj3 _ hG z11 rfl)
              · skip
                refine r_bipush (pc := 87) X dX9_wordAt_87 hG (by decide) (fun z12 hG => ?_)
                refine r_goto (pc := 89) X dX9_wordAt_89 (tgt := 93) (by decide) ?_
                exact r_mask [false] rfl (Hj3 _ hG z12 rfl)
            · skip
              refine r_iconst (pc := 74) X dX9_wordAt_74 hG rfl (fun z13 hG => ?_)
              refine r_goto (pc := 75) X dX9_wordAt_75 (tgt := 93) (by decide) ?_
              exact r_mask [false] rfl (Hj3 _ hG z13 rfl)
          · skip
            refine r_iconst (pc := 61) X dX9_wordAt_61 hG rfl (fun z14 hG => ?_)
            refine r_goto (pc := 62) X dX9_wordAt_62 (tgt := 93) (by decide) ?_
            exact r_mask [false] rfl (Hj3 _ hG z14 rfl)
        · skip
          refine r_iconst (pc := 48) X dX9_wordAt_48 hG rfl (fun z15 hG => ?_)
          refine r_goto (pc := 49) X dX9_wordAt_49 (tgt := 93) (by decide) ?_
          exact r_mask [false] rfl (Hj3 _ hG z15 rfl)
      · skip
        refine r_iconst (pc := 35) X dX9_wordAt_35 hG rfl (fun z16 hG => ?_)
        refine r_goto (pc := 36) X dX9_wordAt_36 (tgt := 93) (by decide) ?_
        exact r_mask [false] rfl (Hj3 _ hG z16 rfl)
    · skip
      refine r_iconst (pc := 22) X dX9_wordAt_22 hG rfl (fun z17 hG => ?_)
      refine r_goto (pc := 23) X dX9_wordAt_23 (tgt := 93) (by decide) ?_
      exact r_mask [false] rfl (Hj3 _ hG z17 rfl)
  · skip
    refine r_iconst (pc := 9) X dX9_wordAt_9 hG rfl (fun z18 hG => ?_)
    refine r_goto (pc := 10) X dX9_wordAt_10 (tgt := 93) (by decide) ?_
    exact r_mask [false] rfl (Hj3 _ hG z18 rfl)
theorem c_X9_wordAt  {r : Int} (Hb0 : At_X9 shl) (hg : g_X9_wordAt h = some r) : Met l yX9_wordAt (wsM yX9_wordAt cX9_wordAt 1 (some .int)) rm_X9_wordAt (va_Pc [.ref (ad 100)] (World E ad shl h)) (QcI E ad shl r h) 0 0 (bsA E) :=
  met_of (L0 := [some (.ref (ad 100))]) rfl rfl rfl (Nat.le_of_ble_eq_true rfl) (fun _ _ _ _ _ _ _ X => w_X9_wordAt Hb0 X rfl hg)
abbrev rm_X9_readSmall : Room := { frames := 6, cells := 0, slots := 0, locals := 128 }
theorem hdd_X9_readSmall : yX9_readSmall.cls = RX9 ∧ yX9_readSmall.cls ≠ "java/lang/invoke/MethodHandle" ∧ yX9_readSmall.cls ≠ "java/lang/invoke/VarHandle" ∧ (parseMethodDescriptor yX9_readSmall.desc).map (fun d => d.parameters.length) = some 0 := ⟨rfl, by decide +kernel, by decide +kernel, by decide +kernel⟩
set_option maxRecDepth 100000 in
set_option maxHeartbeats 4000000 in
theorem w_X9_readSmall  {r : Int × Hp} (Hb0 : At_X9 shl) (X : Cx E p s m args meth c cX9_readSmall RX9 3 (some .boolean)) (hQ : Q = MQ below (QcI E ad shl r.1 r.2) args s 0 0 (bsA E)) (hG : g_X9_readSmall h = some r) : Ev E ad shl p l e rm_X9_readSmall s m args below meth c 0 0 Q 3 h 0 [some (.ref (ad 100)), none, none] [] := by
  unfold g_X9_readSmall at hG
  refine r_aload_n (pc := 0) X dX9_readSmall_0 rfl rfl ?_
  refine r_cP (pc := 1) hG (fun _ hg => runV X dX9_readSmall_1 (c_X9_wordAt Hb0 hg) mM_X9_122 mI_X9_wordAt mE_X9_wordAt mN_X9 mK_X9_wordAt (at_X9_o Hb0) rfl rfl rfl rfl hdd_X9_wordAt ⟨(Nat.le_of_ble_eq_true rfl), (Nat.le_of_ble_eq_true rfl)⟩ rfl rfl (Nat.le_of_ble_eq_true rfl) ⟨(Nat.le_of_ble_eq_true rfl), (Nat.le_of_ble_eq_true rfl)⟩) (fun z1 hG => ?_)
  refine r_istore_n (pc := 4) (L' := [some (.ref (ad 100)), some (.int z1), none]) X dX9_readSmall_4 rfl (by decide) rfl rfl ?_
  refine r_iload_n (pc := 5) X dX9_readSmall_5 rfl rfl ?_
  refine r_iconst (pc := 6) X dX9_readSmall_6 hG rfl (fun z2 hG => ?_)
  refine r_icmp_ne (pc := 7) X dX9_readSmall_7 (tgt := 16) (by decide) hG (fun hG => ?_) (fun hG => ?_)
  · skip
    refine r_aload_n (pc := 16) X dX9_readSmall_16 rfl rfl ?_
    refine r_getI (pc := 17) X (at_X9_o Hb0) rfl mU_X9 (k := 18) (by decide) rfl mF_X9_101 dX9_readSmall_17 hG (fun z3 hG => ?_)
    refine r_iload_n (pc := 20) X dX9_readSmall_20 rfl rfl ?_
    refine r_iconst (pc := 21) X dX9_readSmall_21 hG rfl (fun z4 hG => ?_)
    refine r_iadd (pc := 22) X dX9_readSmall_22 hG (fun z5 hG => ?_)
    refine r_ishr (pc := 23) X dX9_readSmall_23 hG (fun z6 hG => ?_)
    refine r_iconst (pc := 24) X dX9_readSmall_24 hG rfl (fun z7 hG => ?_)
    refine r_iand (pc := 25) X dX9_readSmall_25 hG (fun z8 hG => ?_)
    refine r_iconst (pc := 26) X dX9_readSmall_26 hG rfl (fun z9 hG => ?_)
    refine r_icmp_ne (pc := 27) X dX9_readSmall_27 (tgt := 36) (by decide) hG (fun hG => ?_) (fun hG => ?_)
    · skip
      refine r_aload_n (pc := 36) X dX9_readSmall_36 rfl rfl ?_
      refine r_dup (pc := 37) X dX9_readSmall_37 rfl ?_
      refine r_getI (pc := 38) X (at_X9_o Hb0) rfl mU_X9 (k := 18) (by decide) rfl mF_X9_101 dX9_readSmall_38 hG (fun z10 hG => ?_)
      refine r_iconst (pc := 41) X dX9_readSmall_41 hG rfl (fun z11 hG => ?_)
      refine r_iload_n (pc := 42) X dX9_readSmall_42 rfl rfl ?_
      refine r_ishl (pc := 43) X dX9_readSmall_43 hG (fun z12 hG => ?_)
      refine r_ior (pc := 44) X dX9_readSmall_44 hG (fun z13 hG => ?_)
      refine r_putI (pc := 45) X (at_X9_o Hb0) rfl mU_X9 (k := 18) (by decide) rfl rfl rfl mF_X9_101 dX9_readSmall_45 hG (fun h14 hG => ?_)
      refine r_aload_n (pc := 48) X dX9_readSmall_48 rfl rfl ?_
      refine r_cV (pc := 49) hG (fun _ hg => runV X dX9_readSmall_49 (c_X9_scan Hb0 hg) mM_X9_63 mI_X9_scan mE_X9_scan mN_X9 mK_X9_scan (at_X9_o Hb0) rfl rfl rfl rfl hdd_X9_scan ⟨(Nat.le_of_ble_eq_true rfl), (Nat.le_of_ble_eq_true rfl)⟩ rfl rfl (Nat.le_of_ble_eq_true rfl) ⟨(Nat.le_of_ble_eq_true rfl), (Nat.le_of_ble_eq_true rfl)⟩) (fun h15 hG => ?_)
      refine r_iload_n (pc := 52) X dX9_readSmall_52 rfl rfl ?_
      refine r_istore_n (pc := 53) (L' := [some (.ref (ad 100)), some (.int z1), some (.int z1)]) X dX9_readSmall_53 rfl (by decide) rfl rfl ?_
      refine r_mask [true, true, true] rfl (r_loop (fun q16 => ∀ (y18 : Int32) (h19 : Hp), q16 = (y18.toInt, h19) → Ev E ad shl p l e rm_X9_readSmall s m args below meth c 0 0 Q 3 h19 54 [some (.ref (ad 100)), some (.int z1), some (.int y18)] []) (fun l17 Hl17 q16 hG => ?_) FU _ hG z1 h15 rfl)
      intro y18 h19 ha; have ha := ha.symm; subst ha
      unfold g_X9_readSmall_l17 at hG
      refine r_iload_n (pc := 54) X dX9_readSmall_54 rfl rfl ?_
      refine r_iload_n (pc := 55) X dX9_readSmall_55 rfl rfl ?_
      refine r_bipush (pc := 56) X dX9_readSmall_56 hG (by decide) (fun z20 hG => ?_)
      refine r_join hG (fun a21 => ∀ (y23 : Int32), a21 = y23.toInt → Ev E ad shl p l e rm_X9_readSmall s m args below meth c 0 0 Q 3 h19 67 [some (.ref (ad 100)), some (.int z1), some (.int y18)] [.int y23, .int y18]) (fun a21 hG => ?_) (fun j22 Hj22 hG => ?_)
      · skip
        intro y23 ha; have ha := ha.symm; subst ha
        refine r_icmp_gt (pc := 67) X dX9_readSmall_67 (tgt := 115) (by decide) hG (fun hG => ?_) (fun hG => ?_)
        · skip
          refine r_iconst (pc := 115) X dX9_readSmall_115 hG rfl (fun z24 hG => ?_)
          exact r_zretW (pc := 116) X dX9_readSmall_116 hQ hG
        · skip
          refine r_aload_n (pc := 70) X dX9_readSmall_70 rfl rfl ?_
          refine r_iload_n (pc := 71) X dX9_readSmall_71 rfl rfl ?_
          refine r_iconst (pc := 72) X dX9_readSmall_72 hG rfl (fun z25 hG => ?_)
          refine r_join hG (fun a26 => ∀ (y28 : Int32), a26 = y28.toInt → Ev E ad shl p l e rm_X9_readSmall s m args below meth c 0 0 Q 3 h19 87 [some (.ref (ad 100)), some (.int z1), some (.int y18)] [.int y28, .ref (ad 100)]) (fun a26 hG => ?_) (fun j27 Hj27 hG => ?_)
          · skip
            intro y28 ha; have ha := ha.symm; subst ha
            refine r_iload_n (pc := 87) X dX9_readSmall_87 rfl rfl ?_
            refine r_cP (pc := 88) hG (fun _ hg => runS X dX9_readSmall_88 (c_X9_greatest  hg) mM_X9_125 mS_X9_greatest mN_X9 mK_X9_greatest rfl rfl hdd_X9_greatest ⟨(Nat.le_of_ble_eq_true rfl), (Nat.le_of_ble_eq_true rfl)⟩ rfl rfl (Nat.le_of_ble_eq_true rfl) ⟨(Nat.le_of_ble_eq_true rfl), (Nat.le_of_ble_eq_true rfl)⟩) (fun z29 hG => ?_)
            refine r_cW (pc := 91) hG (fun _ hg => runV X dX9_readSmall_91 (c_X9_number Hb0 hg) mM_X9_70 mI_X9_number mE_X9_number mN_X9 mK_X9_number (at_X9_o Hb0) rfl rfl rfl rfl hdd_X9_number ⟨(Nat.le_of_ble_eq_true rfl), (Nat.le_of_ble_eq_true rfl)⟩ rfl rfl (Nat.le_of_ble_eq_true rfl) ⟨(Nat.le_of_ble_eq_true rfl), (Nat.le_of_ble_eq_true rfl)⟩) (fun z30 h31 hG => ?_)
            refine r_if_ne (pc := 94) X dX9_readSmall_94 (tgt := 99) (by decide) hG (fun hG => ?_) (fun hG => ?_)
            · skip
              refine r_aload_n (pc := 99) X dX9_readSmall_99 rfl rfl ?_
              refine r_getC (pc := 100) X (at_X9_o Hb0) rfl mU_X9 (k := 20) (by decide) (q := 103) rfl mF_X9_128 dX9_readSmall_100 ?_
              refine r_iload_n (pc := 103) X dX9_readSmall_103 rfl rfl ?_
              refine r_aload_n (pc := 104) X dX9_readSmall_104 rfl rfl ?_
              refine r_getI (pc := 105) X (at_X9_o Hb0) rfl mU_X9 (k := 7) (by decide) rfl mF_X9_56 dX9_readSmall_105 hG (fun z32 hG => ?_)
              refine r_iast (pc := 108) X (at_X9_readLaw Hb0) dX9_readSmall_108 hG (fun h33 hG => ?_)
              refine r_iinc (pc := 109) (L' := fun z34 => [some (.ref (ad 100)), some (.int z1), some (.int z34)]) X dX9_readSmall_109 (by decide) rfl rfl (by decide) (fun _ => rfl) hG (fun z34 hG => ?_)
              refine r_goto (pc := 112) X dX9_readSmall_112 (tgt := 54) (by decide) ?_
              exact r_mask [true, true, true] rfl (Hl17 _ hG z34 h33 rfl)
            · skip
              refine r_iconst (pc := 97) X dX9_readSmall_97 hG rfl (fun z35 hG => ?_)
              exact r_zretW (pc := 98) X dX9_readSmall_98 hQ hG
          refine r_join hG (fun _ => Ev E ad shl p l e rm_X9_readSmall s m args below meth c 0 0 Q 3 h19 82 [some (.ref (ad 100)), some (.int z1), some (.int y18)] [.ref (ad 100)]) (fun a36 hG => ?_) (fun j37 Hj37 hG => ?_)
          · skip
            refine r_iconst (pc := 82) X dX9_readSmall_82 hG rfl (fun z38 hG => ?_)
            refine r_goto (pc := 83) X dX9_readSmall_83 (tgt := 87) (by decide) ?_
            exact r_mask [true, true, true] rfl (Hj27 _ hG z38 rfl)
          refine r_icmp_eq (pc := 73) X dX9_readSmall_73 (tgt := 82) (by decide) hG (fun hG => ?_) (fun hG => ?_)
          · skip
            exact r_mask [true, true, true] rfl (Hj37 _ hG)
          · skip
            refine r_iload_n (pc := 76) X dX9_readSmall_76 rfl rfl ?_
            refine r_bipush (pc := 77) X dX9_readSmall_77 hG (by decide) (fun z39 hG => ?_)
            refine r_icmp_ne (pc := 79) X dX9_readSmall_79 (tgt := 86) (by decide) hG (fun hG => ?_) (fun hG => ?_)
            · skip
              refine r_iconst (pc := 86) X dX9_readSmall_86 hG rfl (fun z40 hG => ?_)
              exact r_mask [true, true, true] rfl (Hj27 _ hG z40 rfl)
            · skip
              exact r_mask [true, true, true] rfl (Hj37 _ hG)
      refine r_icmp_ne (pc := 58) X dX9_readSmall_58 (tgt := 66) (by decide) hG (fun hG => ?_) (fun hG => ?_)
      · skip
        refine r_iload_n (pc := 66) X dX9_readSmall_66 rfl rfl ?_
        exact r_mask [true, true, true] rfl (Hj22 _ hG z1 rfl)
      · skip
        refine r_bipush (pc := 61) X dX9_readSmall_61 hG (by decide) (fun z41 hG => ?_)
        refine r_goto (pc := 63) X dX9_readSmall_63 (tgt := 67) (by decide) ?_
        exact r_mask [true, true, true] rfl (Hj22 _ hG z41 rfl)
    · skip
      refine r_aload_n (pc := 30) X dX9_readSmall_30 rfl rfl ?_
      refine r_iconst (pc := 31) X dX9_readSmall_31 hG rfl (fun z42 hG => ?_)
      refine r_cW (pc := 32) hG (fun _ hg => runV X dX9_readSmall_32 (c_X9_bad Hb0 hg) mM_X9_49 mI_X9_bad mE_X9_bad mN_X9 mK_X9_bad (at_X9_o Hb0) rfl rfl rfl rfl hdd_X9_bad ⟨(Nat.le_of_ble_eq_true rfl), (Nat.le_of_ble_eq_true rfl)⟩ rfl rfl (Nat.le_of_ble_eq_true rfl) ⟨(Nat.le_of_ble_eq_true rfl), (Nat.le_of_ble_eq_true rfl)⟩) (fun z43 h44 hG => ?_)
      exact r_zretW (pc := 35) X dX9_readSmall_35 hQ hG
  · skip
    refine r_aload_n (pc := 10) X dX9_readSmall_10 rfl rfl ?_
    refine r_iconst (pc := 11) X dX9_readSmall_11 hG rfl (fun z45 hG => ?_)
    refine r_cW (pc := 12) hG (fun _ hg => runV X dX9_readSmall_12 (c_X9_bad Hb0 hg) mM_X9_49 mI_X9_bad mE_X9_bad mN_X9 mK_X9_bad (at_X9_o Hb0) rfl rfl rfl rfl hdd_X9_bad ⟨(Nat.le_of_ble_eq_true rfl), (Nat.le_of_ble_eq_true rfl)⟩ rfl rfl (Nat.le_of_ble_eq_true rfl) ⟨(Nat.le_of_ble_eq_true rfl), (Nat.le_of_ble_eq_true rfl)⟩) (fun z46 h47 hG => ?_)
    exact r_zretW (pc := 15) X dX9_readSmall_15 hQ hG
theorem c_X9_readSmall  {r : Int × Hp} (Hb0 : At_X9 shl) (hg : g_X9_readSmall h = some r) : Met l yX9_readSmall (wsM yX9_readSmall cX9_readSmall 3 (some .boolean)) rm_X9_readSmall (va_Pc [.ref (ad 100)] (World E ad shl h)) (QcI E ad shl r.1 r.2) 0 0 (bsA E) :=
  met_of (L0 := [some (.ref (ad 100)), none, none]) rfl rfl rfl (Nat.le_of_ble_eq_true rfl) (fun _ _ _ _ _ _ _ X => w_X9_readSmall Hb0 X rfl hg)
abbrev rm_X9_readBeach : Room := { frames := 7, cells := 0, slots := 0, locals := 150 }
theorem hdd_X9_readBeach : yX9_readBeach.cls = RX9 ∧ yX9_readBeach.cls ≠ "java/lang/invoke/MethodHandle" ∧ yX9_readBeach.cls ≠ "java/lang/invoke/VarHandle" ∧ (parseMethodDescriptor yX9_readBeach.desc).map (fun d => d.parameters.length) = some 0 := ⟨rfl, by decide +kernel, by decide +kernel, by decide +kernel⟩
set_option maxRecDepth 100000 in
set_option maxHeartbeats 4000000 in
theorem w_X9_readBeach  {r : Int × Hp} (Hb0 : At_X9 shl) (X : Cx E p s m args meth c cX9_readBeach RX9 2 (some .boolean)) (hQ : Q = MQ below (QcI E ad shl r.1 r.2) args s 0 0 (bsA E)) (hG : g_X9_readBeach h = some r) : Ev E ad shl p l e rm_X9_readBeach s m args below meth c 0 0 Q 2 h 0 [some (.ref (ad 100)), none] [] := by
  unfold g_X9_readBeach at hG
  refine r_aload_n (pc := 0) X dX9_readBeach_0 rfl rfl ?_
  refine r_iconst (pc := 1) X dX9_readBeach_1 hG rfl (fun z1 hG => ?_)
  refine r_putI (pc := 2) X (at_X9_o Hb0) rfl mU_X9 (k := 14) (by decide) rfl rfl rfl mF_X9_73 dX9_readBeach_2 hG (fun h2 hG => ?_)
  refine r_aload_n (pc := 5) X dX9_readBeach_5 rfl rfl ?_
  refine r_iconst (pc := 6) X dX9_readBeach_6 hG rfl (fun z3 hG => ?_)
  refine r_putI (pc := 7) X (at_X9_o Hb0) rfl mU_X9 (k := 15) (by decide) rfl rfl rfl mF_X9_76 dX9_readBeach_7 hG (fun h4 hG => ?_)
  refine r_aload_n (pc := 10) X dX9_readBeach_10 rfl rfl ?_
  refine r_iconst (pc := 11) X dX9_readBeach_11 hG rfl (fun z5 hG => ?_)
  refine r_putI (pc := 12) X (at_X9_o Hb0) rfl mU_X9 (k := 16) (by decide) rfl rfl rfl mF_X9_95 dX9_readBeach_12 hG (fun h6 hG => ?_)
  refine r_aload_n (pc := 15) X dX9_readBeach_15 rfl rfl ?_
  refine r_iconst (pc := 16) X dX9_readBeach_16 hG rfl (fun z7 hG => ?_)
  refine r_putI (pc := 17) X (at_X9_o Hb0) rfl mU_X9 (k := 18) (by decide) rfl rfl rfl mF_X9_101 dX9_readBeach_17 hG (fun h8 hG => ?_)
  refine r_aload_n (pc := 20) X dX9_readBeach_20 rfl rfl ?_
  refine r_iconst (pc := 21) X dX9_readBeach_21 hG rfl (fun z9 hG => ?_)
  refine r_putZ (pc := 22) X (at_X9_o Hb0) rfl mU_X9 (k := 27) (by decide) rfl rfl rfl mF_X9_87 dX9_readBeach_22 hG (fun h10 hG => ?_)
  refine r_aload_n (pc := 25) X dX9_readBeach_25 rfl rfl ?_
  refine r_iconst (pc := 26) X dX9_readBeach_26 hG rfl (fun z11 hG => ?_)
  refine r_putI (pc := 27) X (at_X9_o Hb0) rfl mU_X9 (k := 17) (by decide) rfl rfl rfl mF_X9_131 dX9_readBeach_27 hG (fun h12 hG => ?_)
  refine r_iconst (pc := 30) X dX9_readBeach_30 hG rfl (fun z13 hG => ?_)
  refine r_istore_n (pc := 31) (L' := [some (.ref (ad 100)), some (.int z13)]) X dX9_readBeach_31 rfl (by decide) rfl rfl ?_
  refine r_join hG (fun a14 => ∀ (h16 : Hp), a14 = h16 → Ev E ad shl p l e rm_X9_readBeach s m args below meth c 0 0 Q 2 h16 54 [some (.ref (ad 100)), none] []) (fun a14 hG => ?_) (fun j15 Hj15 hG => ?_)
  · skip
    intro h16 ha; have ha := ha.symm; subst ha
    refine r_iconst (pc := 54) X dX9_readBeach_54 hG rfl (fun z17 hG => ?_)
    refine r_istore_n (pc := 55) (L' := [some (.ref (ad 100)), some (.int z17)]) X dX9_readBeach_55 rfl (by decide) rfl rfl ?_
    refine r_join hG (fun a18 => ∀ (h20 : Hp), a18 = h20 → Ev E ad shl p l e rm_X9_readBeach s m args below meth c 0 0 Q 2 h20 82 [some (.ref (ad 100)), none] []) (fun a18 hG => ?_) (fun j19 Hj19 hG => ?_)
    · skip
      intro h20 ha; have ha := ha.symm; subst ha
      refine r_join hG (fun a21 => ∀ (h23 : Hp), a21 = h23 → Ev E ad shl p l e rm_X9_readBeach s m args below meth c 0 0 Q 2 h23 169 [none, none] []) (fun a21 hG => ?_) (fun j22 Hj22 hG => ?_)
      · skip
        intro h23 ha; have ha := ha.symm; subst ha
        refine r_iconst (pc := 169) X dX9_readBeach_169 hG rfl (fun z24 hG => ?_)
        exact r_zretW (pc := 170) X dX9_readBeach_170 hQ hG
      refine r_mask [true, false] rfl (r_loop (fun q25 => ∀ (h27 : Hp), q25 = h27 → Ev E ad shl p l e rm_X9_readBeach s m args below meth c 0 0 Q 2 h27 82 [some (.ref (ad 100)), none] []) (fun l26 Hl26 q25 hG => ?_) FU _ hG h20 rfl)
      intro h27 ha; have ha := ha.symm; subst ha
      unfold g_X9_readBeach_l26 at hG
      refine r_aload_n (pc := 82) X dX9_readBeach_82 rfl rfl ?_
      refine r_getI (pc := 83) X (at_X9_o Hb0) rfl mU_X9 (k := 5) (by decide) rfl mF_X9_27 dX9_readBeach_83 hG (fun z28 hG => ?_)
      refine r_if_eq (pc := 86) X dX9_readBeach_86 (tgt := 184) (by decide) hG (fun hG => ?_) (fun hG => ?_)
      · skip
        refine r_iconst (pc := 184) X dX9_readBeach_184 hG rfl (fun z29 hG => ?_)
        exact r_zretW (pc := 185) X dX9_readBeach_185 hQ hG
      · skip
        refine r_aload_n (pc := 89) X dX9_readBeach_89 rfl rfl ?_
        refine r_ldcS (pc := 90) (k := 22) X rfl rfl rfl dX9_readBeach_90 ?_
        refine r_cP (pc := 92) hG (fun _ hg => runV X dX9_readBeach_92 (c_X9_is Hb0 rfl hg) mM_X9_106 mI_X9_is mE_X9_is mN_X9 mK_X9_is (at_X9_o Hb0) rfl rfl rfl rfl hdd_X9_is ⟨(Nat.le_of_ble_eq_true rfl), (Nat.le_of_ble_eq_true rfl)⟩ rfl rfl (Nat.le_of_ble_eq_true rfl) ⟨(Nat.le_of_ble_eq_true rfl), (Nat.le_of_ble_eq_true rfl)⟩) (fun z30 hG => ?_)
        refine r_join hG (fun a31 => ∀ (y33 : Int32) (h34 : Hp), a31 = (y33.toInt, h34) → Ev E ad shl p l e rm_X9_readBeach s m args below meth c 0 0 Q 2 h34 157 [some (.ref (ad 100)), none] [.int y33]) (fun a31 hG => ?_) (fun j32 Hj32 hG => ?_)
        · skip
          intro y33 h34 ha; have ha := ha.symm; subst ha
          refine r_istore_n (pc := 157) (L' := [some (.ref (ad 100)), some (.int y33)]) X dX9_readBeach_157 rfl (by decide) rfl rfl ?_
          refine r_iload_n (pc := 158) X dX9_readBeach_158 rfl rfl ?_
          refine r_if_eq (pc := 159) X dX9_readBeach_159 (tgt := 169) (by decide) hG (fun hG => ?_) (fun hG => ?_)
          · skip
            exact r_mask [false, false] rfl (Hj22 _ hG h34 rfl)
          · skip
            refine r_aload_n (pc := 162) X dX9_readBeach_162 rfl rfl ?_
            refine r_cW (pc := 163) hG (fun _ hg => runV X dX9_readBeach_163 (c_X9_close Hb0 hg) mM_X9_159 mI_X9_close mE_X9_close mN_X9 mK_X9_close (at_X9_o Hb0) rfl rfl rfl rfl hdd_X9_close ⟨(Nat.le_of_ble_eq_true rfl), (Nat.le_of_ble_eq_true rfl)⟩ rfl rfl (Nat.le_of_ble_eq_true rfl) ⟨(Nat.le_of_ble_eq_true rfl), (Nat.le_of_ble_eq_true rfl)⟩) (fun z35 h36 hG => ?_)
            refine r_if_ne (pc := 166) X dX9_readBeach_166 (tgt := 171) (by decide) hG (fun hG => ?_) (fun hG => ?_)
            · skip
              refine r_aload_n (pc := 171) X dX9_readBeach_171 rfl rfl ?_
              refine r_dup (pc := 172) X dX9_readBeach_172 rfl ?_
              refine r_getI (pc := 173) X (at_X9_o Hb0) rfl mU_X9 (k := 17) (by decide) rfl mF_X9_131 dX9_readBeach_173 hG (fun z37 hG => ?_)
              refine r_iconst (pc := 176) X dX9_readBeach_176 hG rfl (fun z38 hG => ?_)
              refine r_iadd (pc := 177) X dX9_readBeach_177 hG (fun z39 hG => ?_)
              refine r_putI (pc := 178) X (at_X9_o Hb0) rfl mU_X9 (k := 17) (by decide) rfl rfl rfl mF_X9_131 dX9_readBeach_178 hG (fun h40 hG => ?_)
              refine r_goto (pc := 181) X dX9_readBeach_181 (tgt := 82) (by decide) ?_
              exact r_mask [true, false] rfl (Hl26 _ hG h40 rfl)
            · skip
              exact r_mask [false, false] rfl (Hj22 _ hG h36 rfl)
        refine r_if_eq (pc := 95) X dX9_readBeach_95 (tgt := 105) (by decide) hG (fun hG => ?_) (fun hG => ?_)
        · skip
          refine r_aload_n (pc := 105) X dX9_readBeach_105 rfl rfl ?_
          refine r_ldcS (pc := 106) (k := 23) X rfl rfl rfl dX9_readBeach_106 ?_
          refine r_cP (pc := 108) hG (fun _ hg => runV X dX9_readBeach_108 (c_X9_is Hb0 rfl hg) mM_X9_106 mI_X9_is mE_X9_is mN_X9 mK_X9_is (at_X9_o Hb0) rfl rfl rfl rfl hdd_X9_is ⟨(Nat.le_of_ble_eq_true rfl), (Nat.le_of_ble_eq_true rfl)⟩ rfl rfl (Nat.le_of_ble_eq_true rfl) ⟨(Nat.le_of_ble_eq_true rfl), (Nat.le_of_ble_eq_true rfl)⟩) (fun z41 hG => ?_)
          refine r_if_eq (pc := 111) X dX9_readBeach_111 (tgt := 121) (by decide) hG (fun hG => ?_) (fun hG => ?_)
          · skip
            refine r_aload_n (pc := 121) X dX9_readBeach_121 rfl rfl ?_
            refine r_ldcS (pc := 122) (k := 24) X rfl rfl rfl dX9_readBeach_122 ?_
            refine r_cP (pc := 124) hG (fun _ hg => runV X dX9_readBeach_124 (c_X9_is Hb0 rfl hg) mM_X9_106 mI_X9_is mE_X9_is mN_X9 mK_X9_is (at_X9_o Hb0) rfl rfl rfl rfl hdd_X9_is ⟨(Nat.le_of_ble_eq_true rfl), (Nat.le_of_ble_eq_true rfl)⟩ rfl rfl (Nat.le_of_ble_eq_true rfl) ⟨(Nat.le_of_ble_eq_true rfl), (Nat.le_of_ble_eq_true rfl)⟩) (fun z42 hG => ?_)
            refine r_if_eq (pc := 127) X dX9_readBeach_127 (tgt := 137) (by decide) hG (fun hG => ?_) (fun hG => ?_)
            · skip
              refine r_aload_n (pc := 137) X dX9_readBeach_137 rfl rfl ?_
              refine r_ldcS (pc := 138) (k := 25) X rfl rfl rfl dX9_readBeach_138 ?_
              refine r_cP (pc := 140) hG (fun _ hg => runV X dX9_readBeach_140 (c_X9_is Hb0 rfl hg) mM_X9_106 mI_X9_is mE_X9_is mN_X9 mK_X9_is (at_X9_o Hb0) rfl rfl rfl rfl hdd_X9_is ⟨(Nat.le_of_ble_eq_true rfl), (Nat.le_of_ble_eq_true rfl)⟩ rfl rfl (Nat.le_of_ble_eq_true rfl) ⟨(Nat.le_of_ble_eq_true rfl), (Nat.le_of_ble_eq_true rfl)⟩) (fun z43 hG => ?_)
              refine r_if_eq (pc := 143) X dX9_readBeach_143 (tgt := 153) (by decide) hG (fun hG => ?_) (fun hG => ?_)
              · skip
                refine r_aload_n (pc := 153) X dX9_readBeach_153 rfl rfl ?_
                refine r_cW (pc := 154) hG (fun _ hg => runV X dX9_readBeach_154 (c_X9_readSmall Hb0 hg) mM_X9_156 mI_X9_readSmall mE_X9_readSmall mN_X9 mK_X9_readSmall (at_X9_o Hb0) rfl rfl rfl rfl hdd_X9_readSmall ⟨(Nat.le_of_ble_eq_true rfl), (Nat.le_of_ble_eq_true rfl)⟩ rfl rfl (Nat.le_of_ble_eq_true rfl) ⟨(Nat.le_of_ble_eq_true rfl), (Nat.le_of_ble_eq_true rfl)⟩) (fun z44 h45 hG => ?_)
                exact r_mask [true, false] rfl (Hj32 _ hG z44 h45 rfl)
              · skip
                refine r_aload_n (pc := 146) X dX9_readBeach_146 rfl rfl ?_
                refine r_cW (pc := 147) hG (fun _ hg => runV X dX9_readBeach_147 (c_X9_readFlag Hb0 hg) mM_X9_153 mI_X9_readFlag mE_X9_readFlag mN_X9 mK_X9_readFlag (at_X9_o Hb0) rfl rfl rfl rfl hdd_X9_readFlag ⟨(Nat.le_of_ble_eq_true rfl), (Nat.le_of_ble_eq_true rfl)⟩ rfl rfl (Nat.le_of_ble_eq_true rfl) ⟨(Nat.le_of_ble_eq_true rfl), (Nat.le_of_ble_eq_true rfl)⟩) (fun z46 h47 hG => ?_)
                refine r_goto (pc := 150) X dX9_readBeach_150 (tgt := 157) (by decide) ?_
                exact r_mask [true, false] rfl (Hj32 _ hG z46 h47 rfl)
            · skip
              refine r_aload_n (pc := 130) X dX9_readBeach_130 rfl rfl ?_
              refine r_cW (pc := 131) hG (fun _ hg => runV X dX9_readBeach_131 (c_X9_readStone Hb0 hg) mM_X9_149 mI_X9_readStone mE_X9_readStone mN_X9 mK_X9_readStone (at_X9_o Hb0) rfl rfl rfl rfl hdd_X9_readStone ⟨(Nat.le_of_ble_eq_true rfl), (Nat.le_of_ble_eq_true rfl)⟩ rfl rfl (Nat.le_of_ble_eq_true rfl) ⟨(Nat.le_of_ble_eq_true rfl), (Nat.le_of_ble_eq_true rfl)⟩) (fun z48 h49 hG => ?_)
              refine r_goto (pc := 134) X dX9_readBeach_134 (tgt := 157) (by decide) ?_
              exact r_mask [true, false] rfl (Hj32 _ hG z48 h49 rfl)
          · skip
            refine r_aload_n (pc := 114) X dX9_readBeach_114 rfl rfl ?_
            refine r_cW (pc := 115) hG (fun _ hg => runV X dX9_readBeach_115 (c_X9_readHeap Hb0 hg) mM_X9_145 mI_X9_readHeap mE_X9_readHeap mN_X9 mK_X9_readHeap (at_X9_o Hb0) rfl rfl rfl rfl hdd_X9_readHeap ⟨(Nat.le_of_ble_eq_true rfl), (Nat.le_of_ble_eq_true rfl)⟩ rfl rfl (Nat.le_of_ble_eq_true rfl) ⟨(Nat.le_of_ble_eq_true rfl), (Nat.le_of_ble_eq_true rfl)⟩) (fun z50 h51 hG => ?_)
            refine r_goto (pc := 118) X dX9_readBeach_118 (tgt := 157) (by decide) ?_
            exact r_mask [true, false] rfl (Hj32 _ hG z50 h51 rfl)
        · skip
          refine r_aload_n (pc := 98) X dX9_readBeach_98 rfl rfl ?_
          refine r_cW (pc := 99) hG (fun _ hg => runV X dX9_readBeach_99 (c_X9_readShape Hb0 hg) mM_X9_139 mI_X9_readShape mE_X9_readShape mN_X9 mK_X9_readShape (at_X9_o Hb0) rfl rfl rfl rfl hdd_X9_readShape ⟨(Nat.le_of_ble_eq_true rfl), (Nat.le_of_ble_eq_true rfl)⟩ rfl rfl (Nat.le_of_ble_eq_true rfl) ⟨(Nat.le_of_ble_eq_true rfl), (Nat.le_of_ble_eq_true rfl)⟩) (fun z52 h53 hG => ?_)
          refine r_goto (pc := 102) X dX9_readBeach_102 (tgt := 157) (by decide) ?_
          exact r_mask [true, false] rfl (Hj32 _ hG z52 h53 rfl)
    refine r_mask [true, true] rfl (r_loop (fun q54 => ∀ (y56 : Int32) (h57 : Hp), q54 = (y56.toInt, h57) → Ev E ad shl p l e rm_X9_readBeach s m args below meth c 0 0 Q 2 h57 56 [some (.ref (ad 100)), some (.int y56)] []) (fun l55 Hl55 q54 hG => ?_) FU _ hG z17 h16 rfl)
    intro y56 h57 ha; have ha := ha.symm; subst ha
    unfold g_X9_readBeach_l55 at hG
    refine r_iload_n (pc := 56) X dX9_readBeach_56 rfl rfl ?_
    refine r_bipush (pc := 57) X dX9_readBeach_57 hG (by decide) (fun z58 hG => ?_)
    refine r_icmp_ge (pc := 59) X dX9_readBeach_59 (tgt := 82) (by decide) hG (fun hG => ?_) (fun hG => ?_)
    · skip
      exact r_mask [true, false] rfl (Hj19 _ hG h57 rfl)
    · skip
      refine r_aload_n (pc := 62) X dX9_readBeach_62 rfl rfl ?_
      refine r_getC (pc := 63) X (at_X9_o Hb0) rfl mU_X9 (k := 22) (by decide) (q := 105) rfl mF_X9_83 dX9_readBeach_63 ?_
      refine r_iload_n (pc := 66) X dX9_readBeach_66 rfl rfl ?_
      refine r_iconst (pc := 67) X dX9_readBeach_67 hG rfl (fun z59 hG => ?_)
      refine r_iast (pc := 68) X (at_X9_readHeap Hb0) dX9_readBeach_68 hG (fun h60 hG => ?_)
      refine r_aload_n (pc := 69) X dX9_readBeach_69 rfl rfl ?_
      refine r_getC (pc := 70) X (at_X9_o Hb0) rfl mU_X9 (k := 26) (by decide) (q := 109) rfl mF_X9_91 dX9_readBeach_70 ?_
      refine r_iload_n (pc := 73) X dX9_readBeach_73 rfl rfl ?_
      refine r_iconst (pc := 74) X dX9_readBeach_74 hG rfl (fun z61 hG => ?_)
      refine r_zast (pc := 75) X (at_X9_readStone Hb0) dX9_readBeach_75 hG (fun h62 hG => ?_)
      refine r_iinc (pc := 76) (L' := fun z63 => [some (.ref (ad 100)), some (.int z63)]) X dX9_readBeach_76 (by decide) rfl rfl (by decide) (fun _ => rfl) hG (fun z63 hG => ?_)
      refine r_goto (pc := 79) X dX9_readBeach_79 (tgt := 56) (by decide) ?_
      exact r_mask [true, true] rfl (Hl55 _ hG z63 h62 rfl)
  refine r_mask [true, true] rfl (r_loop (fun q64 => ∀ (y66 : Int32) (h67 : Hp), q64 = (y66.toInt, h67) → Ev E ad shl p l e rm_X9_readBeach s m args below meth c 0 0 Q 2 h67 32 [some (.ref (ad 100)), some (.int y66)] []) (fun l65 Hl65 q64 hG => ?_) FU _ hG z13 h12 rfl)
  intro y66 h67 ha; have ha := ha.symm; subst ha
  unfold g_X9_readBeach_l65 at hG
  refine r_iload_n (pc := 32) X dX9_readBeach_32 rfl rfl ?_
  refine r_bipush (pc := 33) X dX9_readBeach_33 hG (by decide) (fun z68 hG => ?_)
  refine r_icmp_ge (pc := 35) X dX9_readBeach_35 (tgt := 54) (by decide) hG (fun hG => ?_) (fun hG => ?_)
  · skip
    exact r_mask [true, false] rfl (Hj15 _ hG h67 rfl)
  · skip
    refine r_aload_n (pc := 38) X dX9_readBeach_38 rfl rfl ?_
    refine r_getC (pc := 39) X (at_X9_o Hb0) rfl mU_X9 (k := 20) (by decide) (q := 103) rfl mF_X9_128 dX9_readBeach_39 ?_
    refine r_iload_n (pc := 42) X dX9_readBeach_42 rfl rfl ?_
    refine r_iload_n (pc := 43) X dX9_readBeach_43 rfl rfl ?_
    refine r_cP (pc := 44) hG (fun _ hg => runS X dX9_readBeach_44 (c_X9_usual  hg) mM_X9_134 mS_X9_usual mN_X9 mK_X9_usual rfl rfl hdd_X9_usual ⟨(Nat.le_of_ble_eq_true rfl), (Nat.le_of_ble_eq_true rfl)⟩ rfl rfl (Nat.le_of_ble_eq_true rfl) ⟨(Nat.le_of_ble_eq_true rfl), (Nat.le_of_ble_eq_true rfl)⟩) (fun z69 hG => ?_)
    refine r_iast (pc := 47) X (at_X9_readLaw Hb0) dX9_readBeach_47 hG (fun h70 hG => ?_)
    refine r_iinc (pc := 48) (L' := fun z71 => [some (.ref (ad 100)), some (.int z71)]) X dX9_readBeach_48 (by decide) rfl rfl (by decide) (fun _ => rfl) hG (fun z71 hG => ?_)
    refine r_goto (pc := 51) X dX9_readBeach_51 (tgt := 32) (by decide) ?_
    exact r_mask [true, true] rfl (Hl65 _ hG z71 h70 rfl)
theorem c_X9_readBeach  {r : Int × Hp} (Hb0 : At_X9 shl) (hg : g_X9_readBeach h = some r) : Met l yX9_readBeach (wsM yX9_readBeach cX9_readBeach 2 (some .boolean)) rm_X9_readBeach (va_Pc [.ref (ad 100)] (World E ad shl h)) (QcI E ad shl r.1 r.2) 0 0 (bsA E) :=
  met_of (L0 := [some (.ref (ad 100)), none]) rfl rfl rfl (Nat.le_of_ble_eq_true rfl) (fun _ _ _ _ _ _ _ X => w_X9_readBeach Hb0 X rfl hg)
abbrev rm_X9_readWave : Room := { frames := 3, cells := 0, slots := 0, locals := 69 }
theorem hdd_X9_readWave : yX9_readWave.cls = RX9 ∧ yX9_readWave.cls ≠ "java/lang/invoke/MethodHandle" ∧ yX9_readWave.cls ≠ "java/lang/invoke/VarHandle" ∧ (parseMethodDescriptor yX9_readWave.desc).map (fun d => d.parameters.length) = some 0 := ⟨rfl, by decide +kernel, by decide +kernel, by decide +kernel⟩
set_option maxRecDepth 100000 in
set_option maxHeartbeats 4000000 in
theorem w_X9_readWave  {r : Int × Hp} (Hb0 : At_X9 shl) (X : Cx E p s m args meth c cX9_readWave RX9 1 (some .boolean)) (hQ : Q = MQ below (QcI E ad shl r.1 r.2) args s 0 0 (bsA E)) (hG : g_X9_readWave h = some r) : Ev E ad shl p l e rm_X9_readWave s m args below meth c 0 0 Q 1 h 0 [some (.ref (ad 100))] [] := by
  unfold g_X9_readWave at hG
  refine r_aload_n (pc := 0) X dX9_readWave_0 rfl rfl ?_
  refine r_getI (pc := 1) X (at_X9_o Hb0) rfl mU_X9 (k := 30) (by decide) rfl mF_X9_162 dX9_readWave_1 hG (fun z1 hG => ?_)
  refine r_bipush (pc := 4) X dX9_readWave_4 hG (by decide) (fun z2 hG => ?_)
  refine r_icmp_ne (pc := 6) X dX9_readWave_6 (tgt := 15) (by decide) hG (fun hG => ?_) (fun hG => ?_)
  · skip
    refine r_aload_n (pc := 15) X dX9_readWave_15 rfl rfl ?_
    refine r_cV (pc := 16) hG (fun _ hg => runV X dX9_readWave_16 (c_X9_scan Hb0 hg) mM_X9_63 mI_X9_scan mE_X9_scan mN_X9 mK_X9_scan (at_X9_o Hb0) rfl rfl rfl rfl hdd_X9_scan ⟨(Nat.le_of_ble_eq_true rfl), (Nat.le_of_ble_eq_true rfl)⟩ rfl rfl (Nat.le_of_ble_eq_true rfl) ⟨(Nat.le_of_ble_eq_true rfl), (Nat.le_of_ble_eq_true rfl)⟩) (fun h3 hG => ?_)
    refine r_aload_n (pc := 19) X dX9_readWave_19 rfl rfl ?_
    refine r_iconst (pc := 20) X dX9_readWave_20 hG rfl (fun z4 hG => ?_)
    refine r_sipush (pc := 21) X dX9_readWave_21 hG (by decide) (fun z5 hG => ?_)
    refine r_cW (pc := 24) hG (fun _ hg => runV X dX9_readWave_24 (c_X9_number Hb0 hg) mM_X9_70 mI_X9_number mE_X9_number mN_X9 mK_X9_number (at_X9_o Hb0) rfl rfl rfl rfl hdd_X9_number ⟨(Nat.le_of_ble_eq_true rfl), (Nat.le_of_ble_eq_true rfl)⟩ rfl rfl (Nat.le_of_ble_eq_true rfl) ⟨(Nat.le_of_ble_eq_true rfl), (Nat.le_of_ble_eq_true rfl)⟩) (fun z6 h7 hG => ?_)
    refine r_if_ne (pc := 27) X dX9_readWave_27 (tgt := 32) (by decide) hG (fun hG => ?_) (fun hG => ?_)
    · skip
      refine r_aload_n (pc := 32) X dX9_readWave_32 rfl rfl ?_
      refine r_getC (pc := 33) X (at_X9_o Hb0) rfl mU_X9 (k := 32) (by decide) (q := 111) rfl mF_X9_165 dX9_readWave_33 ?_
      refine r_iconst (pc := 36) X dX9_readWave_36 hG rfl (fun z8 hG => ?_)
      refine r_aload_n (pc := 37) X dX9_readWave_37 rfl rfl ?_
      refine r_getI (pc := 38) X (at_X9_o Hb0) rfl mU_X9 (k := 30) (by decide) rfl mF_X9_162 dX9_readWave_38 hG (fun z9 hG => ?_)
      refine r_imul (pc := 41) X dX9_readWave_41 hG (fun z10 hG => ?_)
      refine r_aload_n (pc := 42) X dX9_readWave_42 rfl rfl ?_
      refine r_getI (pc := 43) X (at_X9_o Hb0) rfl mU_X9 (k := 7) (by decide) rfl mF_X9_56 dX9_readWave_43 hG (fun z11 hG => ?_)
      refine r_iast (pc := 46) X (at_X9_readWave Hb0) dX9_readWave_46 hG (fun h12 hG => ?_)
      refine r_aload_n (pc := 47) X dX9_readWave_47 rfl rfl ?_
      refine r_iconst (pc := 48) X dX9_readWave_48 hG rfl (fun z13 hG => ?_)
      refine r_bipush (pc := 49) X dX9_readWave_49 hG (by decide) (fun z14 hG => ?_)
      refine r_cW (pc := 51) hG (fun _ hg => runV X dX9_readWave_51 (c_X9_number Hb0 hg) mM_X9_70 mI_X9_number mE_X9_number mN_X9 mK_X9_number (at_X9_o Hb0) rfl rfl rfl rfl hdd_X9_number ⟨(Nat.le_of_ble_eq_true rfl), (Nat.le_of_ble_eq_true rfl)⟩ rfl rfl (Nat.le_of_ble_eq_true rfl) ⟨(Nat.le_of_ble_eq_true rfl), (Nat.le_of_ble_eq_true rfl)⟩) (fun z15 h16 hG => ?_)
      refine r_if_ne (pc := 54) X dX9_readWave_54 (tgt := 59) (by decide) hG (fun hG => ?_) (fun hG => ?_)
      · skip
        refine r_aload_n (pc := 59) X dX9_readWave_59 rfl rfl ?_
        refine r_getC (pc := 60) X (at_X9_o Hb0) rfl mU_X9 (k := 32) (by decide) (q := 111) rfl mF_X9_165 dX9_readWave_60 ?_
        refine r_iconst (pc := 63) X dX9_readWave_63 hG rfl (fun z17 hG => ?_)
        refine r_aload_n (pc := 64) X dX9_readWave_64 rfl rfl ?_
        refine r_getI (pc := 65) X (at_X9_o Hb0) rfl mU_X9 (k := 30) (by decide) rfl mF_X9_162 dX9_readWave_65 hG (fun z18 hG => ?_)
        refine r_imul (pc := 68) X dX9_readWave_68 hG (fun z19 hG => ?_)
        refine r_iconst (pc := 69) X dX9_readWave_69 hG rfl (fun z20 hG => ?_)
        refine r_iadd (pc := 70) X dX9_readWave_70 hG (fun z21 hG => ?_)
        refine r_aload_n (pc := 71) X dX9_readWave_71 rfl rfl ?_
        refine r_getI (pc := 72) X (at_X9_o Hb0) rfl mU_X9 (k := 7) (by decide) rfl mF_X9_56 dX9_readWave_72 hG (fun z22 hG => ?_)
        refine r_iast (pc := 75) X (at_X9_readWave Hb0) dX9_readWave_75 hG (fun h23 hG => ?_)
        refine r_aload_n (pc := 76) X dX9_readWave_76 rfl rfl ?_
        refine r_iconst (pc := 77) X dX9_readWave_77 hG rfl (fun z24 hG => ?_)
        refine r_bipush (pc := 78) X dX9_readWave_78 hG (by decide) (fun z25 hG => ?_)
        refine r_cW (pc := 80) hG (fun _ hg => runV X dX9_readWave_80 (c_X9_number Hb0 hg) mM_X9_70 mI_X9_number mE_X9_number mN_X9 mK_X9_number (at_X9_o Hb0) rfl rfl rfl rfl hdd_X9_number ⟨(Nat.le_of_ble_eq_true rfl), (Nat.le_of_ble_eq_true rfl)⟩ rfl rfl (Nat.le_of_ble_eq_true rfl) ⟨(Nat.le_of_ble_eq_true rfl), (Nat.le_of_ble_eq_true rfl)⟩) (fun z26 h27 hG => ?_)
        refine r_if_ne (pc := 83) X dX9_readWave_83 (tgt := 88) (by decide) hG (fun hG => ?_) (fun hG => ?_)
        · skip
          refine r_aload_n (pc := 88) X dX9_readWave_88 rfl rfl ?_
          refine r_getC (pc := 89) X (at_X9_o Hb0) rfl mU_X9 (k := 32) (by decide) (q := 111) rfl mF_X9_165 dX9_readWave_89 ?_
          refine r_iconst (pc := 92) X dX9_readWave_92 hG rfl (fun z28 hG => ?_)
          refine r_aload_n (pc := 93) X dX9_readWave_93 rfl rfl ?_
          refine r_getI (pc := 94) X (at_X9_o Hb0) rfl mU_X9 (k := 30) (by decide) rfl mF_X9_162 dX9_readWave_94 hG (fun z29 hG => ?_)
          refine r_imul (pc := 97) X dX9_readWave_97 hG (fun z30 hG => ?_)
          refine r_iconst (pc := 98) X dX9_readWave_98 hG rfl (fun z31 hG => ?_)
          refine r_iadd (pc := 99) X dX9_readWave_99 hG (fun z32 hG => ?_)
          refine r_aload_n (pc := 100) X dX9_readWave_100 rfl rfl ?_
          refine r_getI (pc := 101) X (at_X9_o Hb0) rfl mU_X9 (k := 7) (by decide) rfl mF_X9_56 dX9_readWave_101 hG (fun z33 hG => ?_)
          refine r_iast (pc := 104) X (at_X9_readWave Hb0) dX9_readWave_104 hG (fun h34 hG => ?_)
          refine r_aload_n (pc := 105) X dX9_readWave_105 rfl rfl ?_
          refine r_dup (pc := 106) X dX9_readWave_106 rfl ?_
          refine r_getI (pc := 107) X (at_X9_o Hb0) rfl mU_X9 (k := 30) (by decide) rfl mF_X9_162 dX9_readWave_107 hG (fun z35 hG => ?_)
          refine r_iconst (pc := 110) X dX9_readWave_110 hG rfl (fun z36 hG => ?_)
          refine r_iadd (pc := 111) X dX9_readWave_111 hG (fun z37 hG => ?_)
          refine r_putI (pc := 112) X (at_X9_o Hb0) rfl mU_X9 (k := 30) (by decide) rfl rfl rfl mF_X9_162 dX9_readWave_112 hG (fun h38 hG => ?_)
          refine r_iconst (pc := 115) X dX9_readWave_115 hG rfl (fun z39 hG => ?_)
          exact r_zretW (pc := 116) X dX9_readWave_116 hQ hG
        · skip
          refine r_iconst (pc := 86) X dX9_readWave_86 hG rfl (fun z40 hG => ?_)
          exact r_zretW (pc := 87) X dX9_readWave_87 hQ hG
      · skip
        refine r_iconst (pc := 57) X dX9_readWave_57 hG rfl (fun z41 hG => ?_)
        exact r_zretW (pc := 58) X dX9_readWave_58 hQ hG
    · skip
      refine r_iconst (pc := 30) X dX9_readWave_30 hG rfl (fun z42 hG => ?_)
      exact r_zretW (pc := 31) X dX9_readWave_31 hQ hG
  · skip
    refine r_aload_n (pc := 9) X dX9_readWave_9 rfl rfl ?_
    refine r_iconst (pc := 10) X dX9_readWave_10 hG rfl (fun z43 hG => ?_)
    refine r_cW (pc := 11) hG (fun _ hg => runV X dX9_readWave_11 (c_X9_bad Hb0 hg) mM_X9_49 mI_X9_bad mE_X9_bad mN_X9 mK_X9_bad (at_X9_o Hb0) rfl rfl rfl rfl hdd_X9_bad ⟨(Nat.le_of_ble_eq_true rfl), (Nat.le_of_ble_eq_true rfl)⟩ rfl rfl (Nat.le_of_ble_eq_true rfl) ⟨(Nat.le_of_ble_eq_true rfl), (Nat.le_of_ble_eq_true rfl)⟩) (fun z44 h45 hG => ?_)
    exact r_zretW (pc := 14) X dX9_readWave_14 hQ hG
theorem c_X9_readWave  {r : Int × Hp} (Hb0 : At_X9 shl) (hg : g_X9_readWave h = some r) : Met l yX9_readWave (wsM yX9_readWave cX9_readWave 1 (some .boolean)) rm_X9_readWave (va_Pc [.ref (ad 100)] (World E ad shl h)) (QcI E ad shl r.1 r.2) 0 0 (bsA E) :=
  met_of (L0 := [some (.ref (ad 100))]) rfl rfl rfl (Nat.le_of_ble_eq_true rfl) (fun _ _ _ _ _ _ _ X => w_X9_readWave Hb0 X rfl hg)
abbrev rm_X9_readTide : Room := { frames := 3, cells := 0, slots := 0, locals := 69 }
theorem hdd_X9_readTide : yX9_readTide.cls = RX9 ∧ yX9_readTide.cls ≠ "java/lang/invoke/MethodHandle" ∧ yX9_readTide.cls ≠ "java/lang/invoke/VarHandle" ∧ (parseMethodDescriptor yX9_readTide.desc).map (fun d => d.parameters.length) = some 0 := ⟨rfl, by decide +kernel, by decide +kernel, by decide +kernel⟩
set_option maxRecDepth 100000 in
set_option maxHeartbeats 4000000 in
theorem w_X9_readTide  {r : Int × Hp} (Hb0 : At_X9 shl) (X : Cx E p s m args meth c cX9_readTide RX9 1 (some .boolean)) (hQ : Q = MQ below (QcI E ad shl r.1 r.2) args s 0 0 (bsA E)) (hG : g_X9_readTide h = some r) : Ev E ad shl p l e rm_X9_readTide s m args below meth c 0 0 Q 1 h 0 [some (.ref (ad 100))] [] := by
  unfold g_X9_readTide at hG
  refine r_aload_n (pc := 0) X dX9_readTide_0 rfl rfl ?_
  refine r_iconst (pc := 1) X dX9_readTide_1 hG rfl (fun z1 hG => ?_)
  refine r_sipush (pc := 2) X dX9_readTide_2 hG (by decide) (fun z2 hG => ?_)
  refine r_cW (pc := 5) hG (fun _ hg => runV X dX9_readTide_5 (c_X9_number Hb0 hg) mM_X9_70 mI_X9_number mE_X9_number mN_X9 mK_X9_number (at_X9_o Hb0) rfl rfl rfl rfl hdd_X9_number ⟨(Nat.le_of_ble_eq_true rfl), (Nat.le_of_ble_eq_true rfl)⟩ rfl rfl (Nat.le_of_ble_eq_true rfl) ⟨(Nat.le_of_ble_eq_true rfl), (Nat.le_of_ble_eq_true rfl)⟩) (fun z3 h4 hG => ?_)
  refine r_if_ne (pc := 8) X dX9_readTide_8 (tgt := 13) (by decide) hG (fun hG => ?_) (fun hG => ?_)
  · skip
    refine r_aload_n (pc := 13) X dX9_readTide_13 rfl rfl ?_
    refine r_getC (pc := 14) X (at_X9_o Hb0) rfl mU_X9 (k := 34) (by decide) (q := 113) rfl mF_X9_168 dX9_readTide_14 ?_
    refine r_iconst (pc := 17) X dX9_readTide_17 hG rfl (fun z5 hG => ?_)
    refine r_aload_n (pc := 18) X dX9_readTide_18 rfl rfl ?_
    refine r_getI (pc := 19) X (at_X9_o Hb0) rfl mU_X9 (k := 7) (by decide) rfl mF_X9_56 dX9_readTide_19 hG (fun z6 hG => ?_)
    refine r_iast (pc := 22) X (at_X9_readTide Hb0) dX9_readTide_22 hG (fun h7 hG => ?_)
    refine r_aload_n (pc := 23) X dX9_readTide_23 rfl rfl ?_
    refine r_aload_n (pc := 24) X dX9_readTide_24 rfl rfl ?_
    refine r_getI (pc := 25) X (at_X9_o Hb0) rfl mU_X9 (k := 7) (by decide) rfl mF_X9_56 dX9_readTide_25 hG (fun z8 hG => ?_)
    refine r_sipush (pc := 28) X dX9_readTide_28 hG (by decide) (fun z9 hG => ?_)
    refine r_cW (pc := 31) hG (fun _ hg => runV X dX9_readTide_31 (c_X9_number Hb0 hg) mM_X9_70 mI_X9_number mE_X9_number mN_X9 mK_X9_number (at_X9_o Hb0) rfl rfl rfl rfl hdd_X9_number ⟨(Nat.le_of_ble_eq_true rfl), (Nat.le_of_ble_eq_true rfl)⟩ rfl rfl (Nat.le_of_ble_eq_true rfl) ⟨(Nat.le_of_ble_eq_true rfl), (Nat.le_of_ble_eq_true rfl)⟩) (fun z10 h11 hG => ?_)
    refine r_if_ne (pc := 34) X dX9_readTide_34 (tgt := 39) (by decide) hG (fun hG => ?_) (fun hG => ?_)
    · skip
      refine r_aload_n (pc := 39) X dX9_readTide_39 rfl rfl ?_
      refine r_getC (pc := 40) X (at_X9_o Hb0) rfl mU_X9 (k := 34) (by decide) (q := 113) rfl mF_X9_168 dX9_readTide_40 ?_
      refine r_iconst (pc := 43) X dX9_readTide_43 hG rfl (fun z12 hG => ?_)
      refine r_aload_n (pc := 44) X dX9_readTide_44 rfl rfl ?_
      refine r_getI (pc := 45) X (at_X9_o Hb0) rfl mU_X9 (k := 7) (by decide) rfl mF_X9_56 dX9_readTide_45 hG (fun z13 hG => ?_)
      refine r_iast (pc := 48) X (at_X9_readTide Hb0) dX9_readTide_48 hG (fun h14 hG => ?_)
      refine r_aload_n (pc := 49) X dX9_readTide_49 rfl rfl ?_
      refine r_iconst (pc := 50) X dX9_readTide_50 hG rfl (fun z15 hG => ?_)
      refine r_bipush (pc := 51) X dX9_readTide_51 hG (by decide) (fun z16 hG => ?_)
      refine r_cW (pc := 53) hG (fun _ hg => runV X dX9_readTide_53 (c_X9_number Hb0 hg) mM_X9_70 mI_X9_number mE_X9_number mN_X9 mK_X9_number (at_X9_o Hb0) rfl rfl rfl rfl hdd_X9_number ⟨(Nat.le_of_ble_eq_true rfl), (Nat.le_of_ble_eq_true rfl)⟩ rfl rfl (Nat.le_of_ble_eq_true rfl) ⟨(Nat.le_of_ble_eq_true rfl), (Nat.le_of_ble_eq_true rfl)⟩) (fun z17 h18 hG => ?_)
      refine r_if_ne (pc := 56) X dX9_readTide_56 (tgt := 61) (by decide) hG (fun hG => ?_) (fun hG => ?_)
      · skip
        refine r_aload_n (pc := 61) X dX9_readTide_61 rfl rfl ?_
        refine r_getC (pc := 62) X (at_X9_o Hb0) rfl mU_X9 (k := 34) (by decide) (q := 113) rfl mF_X9_168 dX9_readTide_62 ?_
        refine r_iconst (pc := 65) X dX9_readTide_65 hG rfl (fun z19 hG => ?_)
        refine r_aload_n (pc := 66) X dX9_readTide_66 rfl rfl ?_
        refine r_getI (pc := 67) X (at_X9_o Hb0) rfl mU_X9 (k := 7) (by decide) rfl mF_X9_56 dX9_readTide_67 hG (fun z20 hG => ?_)
        refine r_iast (pc := 70) X (at_X9_readTide Hb0) dX9_readTide_70 hG (fun h21 hG => ?_)
        refine r_aload_n (pc := 71) X dX9_readTide_71 rfl rfl ?_
        refine r_iconst (pc := 72) X dX9_readTide_72 hG rfl (fun z22 hG => ?_)
        refine r_bipush (pc := 73) X dX9_readTide_73 hG (by decide) (fun z23 hG => ?_)
        refine r_cW (pc := 75) hG (fun _ hg => runV X dX9_readTide_75 (c_X9_number Hb0 hg) mM_X9_70 mI_X9_number mE_X9_number mN_X9 mK_X9_number (at_X9_o Hb0) rfl rfl rfl rfl hdd_X9_number ⟨(Nat.le_of_ble_eq_true rfl), (Nat.le_of_ble_eq_true rfl)⟩ rfl rfl (Nat.le_of_ble_eq_true rfl) ⟨(Nat.le_of_ble_eq_true rfl), (Nat.le_of_ble_eq_true rfl)⟩) (fun z24 h25 hG => ?_)
        refine r_if_ne (pc := 78) X dX9_readTide_78 (tgt := 83) (by decide) hG (fun hG => ?_) (fun hG => ?_)
        · skip
          refine r_aload_n (pc := 83) X dX9_readTide_83 rfl rfl ?_
          refine r_getC (pc := 84) X (at_X9_o Hb0) rfl mU_X9 (k := 34) (by decide) (q := 113) rfl mF_X9_168 dX9_readTide_84 ?_
          refine r_iconst (pc := 87) X dX9_readTide_87 hG rfl (fun z26 hG => ?_)
          refine r_aload_n (pc := 88) X dX9_readTide_88 rfl rfl ?_
          refine r_getI (pc := 89) X (at_X9_o Hb0) rfl mU_X9 (k := 7) (by decide) rfl mF_X9_56 dX9_readTide_89 hG (fun z27 hG => ?_)
          refine r_iast (pc := 92) X (at_X9_readTide Hb0) dX9_readTide_92 hG (fun h28 hG => ?_)
          refine r_iconst (pc := 93) X dX9_readTide_93 hG rfl (fun z29 hG => ?_)
          exact r_zretW (pc := 94) X dX9_readTide_94 hQ hG
        · skip
          refine r_iconst (pc := 81) X dX9_readTide_81 hG rfl (fun z30 hG => ?_)
          exact r_zretW (pc := 82) X dX9_readTide_82 hQ hG
      · skip
        refine r_iconst (pc := 59) X dX9_readTide_59 hG rfl (fun z31 hG => ?_)
        exact r_zretW (pc := 60) X dX9_readTide_60 hQ hG
    · skip
      refine r_iconst (pc := 37) X dX9_readTide_37 hG rfl (fun z32 hG => ?_)
      exact r_zretW (pc := 38) X dX9_readTide_38 hQ hG
  · skip
    refine r_iconst (pc := 11) X dX9_readTide_11 hG rfl (fun z33 hG => ?_)
    exact r_zretW (pc := 12) X dX9_readTide_12 hQ hG
theorem c_X9_readTide  {r : Int × Hp} (Hb0 : At_X9 shl) (hg : g_X9_readTide h = some r) : Met l yX9_readTide (wsM yX9_readTide cX9_readTide 1 (some .boolean)) rm_X9_readTide (va_Pc [.ref (ad 100)] (World E ad shl h)) (QcI E ad shl r.1 r.2) 0 0 (bsA E) :=
  met_of (L0 := [some (.ref (ad 100))]) rfl rfl rfl (Nat.le_of_ble_eq_true rfl) (fun _ _ _ _ _ _ _ X => w_X9_readTide Hb0 X rfl hg)
abbrev rm_X9_readTwo : Room := { frames := 3, cells := 0, slots := 0, locals := 69 }
theorem hdd_X9_readTwo : yX9_readTwo.cls = RX9 ∧ yX9_readTwo.cls ≠ "java/lang/invoke/MethodHandle" ∧ yX9_readTwo.cls ≠ "java/lang/invoke/VarHandle" ∧ (parseMethodDescriptor yX9_readTwo.desc).map (fun d => d.parameters.length) = some 3 := ⟨rfl, by decide +kernel, by decide +kernel, by decide +kernel⟩
set_option maxRecDepth 100000 in
set_option maxHeartbeats 4000000 in
theorem w_X9_readTwo {b1 : Nat} {x2 : Int32} {x3 : Int32} {r : Int × Hp} (Hb0 : At_X9 shl) (Hb1 : shl[b1]? = some (.inr (0, 2, []))) (X : Cx E p s m args meth c cX9_readTwo RX9 4 (some .boolean)) (hQ : Q = MQ below (QcI E ad shl r.1 r.2) args s 0 0 (bsA E)) (hG : g_X9_readTwo b1 x2.toInt x3.toInt h = some r) : Ev E ad shl p l e rm_X9_readTwo s m args below meth c 0 0 Q 4 h 0 [some (.ref (ad 100)), some (.ref (ad b1)), some (.int x2), some (.int x3)] [] := by
  unfold g_X9_readTwo at hG
  refine r_aload_n (pc := 0) X dX9_readTwo_0 rfl rfl ?_
  refine r_iload_n (pc := 1) X dX9_readTwo_1 rfl rfl ?_
  refine r_iload_n (pc := 2) X dX9_readTwo_2 rfl rfl ?_
  refine r_cW (pc := 3) hG (fun _ hg => runV X dX9_readTwo_3 (c_X9_number Hb0 hg) mM_X9_70 mI_X9_number mE_X9_number mN_X9 mK_X9_number (at_X9_o Hb0) rfl rfl rfl rfl hdd_X9_number ⟨(Nat.le_of_ble_eq_true rfl), (Nat.le_of_ble_eq_true rfl)⟩ rfl rfl (Nat.le_of_ble_eq_true rfl) ⟨(Nat.le_of_ble_eq_true rfl), (Nat.le_of_ble_eq_true rfl)⟩) (fun z1 h2 hG => ?_)
  refine r_if_ne (pc := 6) X dX9_readTwo_6 (tgt := 11) (by decide) hG (fun hG => ?_) (fun hG => ?_)
  · skip
    refine r_aload_n (pc := 11) X dX9_readTwo_11 rfl rfl ?_
    refine r_iconst (pc := 12) X dX9_readTwo_12 hG rfl (fun z3 hG => ?_)
    refine r_aload_n (pc := 13) X dX9_readTwo_13 rfl rfl ?_
    refine r_getI (pc := 14) X (at_X9_o Hb0) rfl mU_X9 (k := 7) (by decide) rfl mF_X9_56 dX9_readTwo_14 hG (fun z4 hG => ?_)
    refine r_iast (pc := 17) X Hb1 dX9_readTwo_17 hG (fun h5 hG => ?_)
    refine r_aload_n (pc := 18) X dX9_readTwo_18 rfl rfl ?_
    refine r_aload_n (pc := 19) X dX9_readTwo_19 rfl rfl ?_
    refine r_getI (pc := 20) X (at_X9_o Hb0) rfl mU_X9 (k := 7) (by decide) rfl mF_X9_56 dX9_readTwo_20 hG (fun z6 hG => ?_)
    refine r_iload_n (pc := 23) X dX9_readTwo_23 rfl rfl ?_
    refine r_cW (pc := 24) hG (fun _ hg => runV X dX9_readTwo_24 (c_X9_number Hb0 hg) mM_X9_70 mI_X9_number mE_X9_number mN_X9 mK_X9_number (at_X9_o Hb0) rfl rfl rfl rfl hdd_X9_number ⟨(Nat.le_of_ble_eq_true rfl), (Nat.le_of_ble_eq_true rfl)⟩ rfl rfl (Nat.le_of_ble_eq_true rfl) ⟨(Nat.le_of_ble_eq_true rfl), (Nat.le_of_ble_eq_true rfl)⟩) (fun z7 h8 hG => ?_)
    refine r_if_ne (pc := 27) X dX9_readTwo_27 (tgt := 32) (by decide) hG (fun hG => ?_) (fun hG => ?_)
    · skip
      refine r_aload_n (pc := 32) X dX9_readTwo_32 rfl rfl ?_
      refine r_iconst (pc := 33) X dX9_readTwo_33 hG rfl (fun z9 hG => ?_)
      refine r_aload_n (pc := 34) X dX9_readTwo_34 rfl rfl ?_
      refine r_getI (pc := 35) X (at_X9_o Hb0) rfl mU_X9 (k := 7) (by decide) rfl mF_X9_56 dX9_readTwo_35 hG (fun z10 hG => ?_)
      refine r_iast (pc := 38) X Hb1 dX9_readTwo_38 hG (fun h11 hG => ?_)
      refine r_iconst (pc := 39) X dX9_readTwo_39 hG rfl (fun z12 hG => ?_)
      exact r_zretW (pc := 40) X dX9_readTwo_40 hQ hG
    · skip
      refine r_iconst (pc := 30) X dX9_readTwo_30 hG rfl (fun z13 hG => ?_)
      exact r_zretW (pc := 31) X dX9_readTwo_31 hQ hG
  · skip
    refine r_iconst (pc := 9) X dX9_readTwo_9 hG rfl (fun z14 hG => ?_)
    exact r_zretW (pc := 10) X dX9_readTwo_10 hQ hG
theorem c_X9_readTwo {b1 : Nat} {x2 : Int32} {x3 : Int32} {r : Int × Hp} (Hb0 : At_X9 shl) (Hb1 : shl[b1]? = some (.inr (0, 2, []))) (hg : g_X9_readTwo b1 x2.toInt x3.toInt h = some r) : Met l yX9_readTwo (wsM yX9_readTwo cX9_readTwo 4 (some .boolean)) rm_X9_readTwo (va_Pc [.ref (ad 100), .ref (ad b1), .int x2, .int x3] (World E ad shl h)) (QcI E ad shl r.1 r.2) 0 0 (bsA E) :=
  met_of (L0 := [some (.ref (ad 100)), some (.ref (ad b1)), some (.int x2), some (.int x3)]) rfl rfl rfl (Nat.le_of_ble_eq_true rfl) (fun _ _ _ _ _ _ _ X => w_X9_readTwo Hb0 Hb1 X rfl hg)
end WALKS
