section WALKS
variable {E : EnvT} {ad : Nat → Nat} {shl : List Shp} {p : Program} {l : Launch} {e : Env} {s : State} {m : MethodId} {args : Array Value} {below : List Frame} {meth : Method} {c : Code} {Q : State → Prop} {h : Hp}
abbrev rm_X9_readSeaWord : Room := { frames := 5, cells := 0, slots := 0, locals := 108 }
theorem hdd_X9_readSeaWord : yX9_readSeaWord.cls = RX9 ∧ yX9_readSeaWord.cls ≠ "java/lang/invoke/MethodHandle" ∧ yX9_readSeaWord.cls ≠ "java/lang/invoke/VarHandle" ∧ (parseMethodDescriptor yX9_readSeaWord.desc).map (fun d => d.parameters.length) = some 0 := ⟨rfl, by decide +kernel, by decide +kernel, by decide +kernel⟩
set_option maxRecDepth 100000 in
set_option maxHeartbeats 4000000 in
theorem w_X9_readSeaWord  {r : Int × Hp} (Hb0 : At_X9 shl) (X : Cx E p s m args meth c cX9_readSeaWord RX9 2 (some .boolean)) (hQ : Q = MQ below (QcI E ad shl r.1 r.2) args s 0 0 (bsA E)) (hG : g_X9_readSeaWord h = some r) : Ev E ad shl p l e rm_X9_readSeaWord s m args below meth c 0 0 Q 2 h 0 [some (.ref (ad 100)), none] [] := by
  unfold g_X9_readSeaWord at hG
  refine r_aload_n (pc := 0) X dX9_readSeaWord_0 rfl rfl ?_
  refine r_ldcS (pc := 1) (k := 34) X rfl rfl rfl dX9_readSeaWord_1 ?_
  refine r_cP (pc := 3) hG (fun _ hg => runV X dX9_readSeaWord_3 (c_X9_is Hb0 rfl hg) mM_X9_106 mI_X9_is mE_X9_is mN_X9 mK_X9_is (at_X9_o Hb0) rfl rfl rfl rfl hdd_X9_is ⟨(Nat.le_of_ble_eq_true rfl), (Nat.le_of_ble_eq_true rfl)⟩ rfl rfl (Nat.le_of_ble_eq_true rfl) ⟨(Nat.le_of_ble_eq_true rfl), (Nat.le_of_ble_eq_true rfl)⟩) (fun z1 hG => ?_)
  refine r_join hG (fun a2 => ∀ (y4 : Int32), a2 = y4.toInt → Ev E ad shl p l e rm_X9_readSeaWord s m args below meth c 0 0 Q 2 h 53 [some (.ref (ad 100)), none] [.int y4]) (fun a2 hG => ?_) (fun j3 Hj3 hG => ?_)
  · skip
    intro y4 ha; have ha := ha.symm; subst ha
    refine r_istore_n (pc := 53) (L' := [some (.ref (ad 100)), some (.int y4)]) X dX9_readSeaWord_53 rfl (by decide) rfl rfl ?_
    refine r_iload_n (pc := 54) X dX9_readSeaWord_54 rfl rfl ?_
    refine r_iconst (pc := 55) X dX9_readSeaWord_55 hG rfl (fun z5 hG => ?_)
    refine r_icmp_ne (pc := 56) X dX9_readSeaWord_56 (tgt := 65) (by decide) hG (fun hG => ?_) (fun hG => ?_)
    · skip
      refine r_aload_n (pc := 65) X dX9_readSeaWord_65 rfl rfl ?_
      refine r_getI (pc := 66) X (at_X9_o Hb0) rfl mU_X9 (k := 18) (by decide) rfl mF_X9_101 dX9_readSeaWord_66 hG (fun z6 hG => ?_)
      refine r_iload_n (pc := 69) X dX9_readSeaWord_69 rfl rfl ?_
      refine r_ishr (pc := 70) X dX9_readSeaWord_70 hG (fun z7 hG => ?_)
      refine r_iconst (pc := 71) X dX9_readSeaWord_71 hG rfl (fun z8 hG => ?_)
      refine r_iand (pc := 72) X dX9_readSeaWord_72 hG (fun z9 hG => ?_)
      refine r_iconst (pc := 73) X dX9_readSeaWord_73 hG rfl (fun z10 hG => ?_)
      refine r_icmp_ne (pc := 74) X dX9_readSeaWord_74 (tgt := 83) (by decide) hG (fun hG => ?_) (fun hG => ?_)
      · skip
        refine r_aload_n (pc := 83) X dX9_readSeaWord_83 rfl rfl ?_
        refine r_dup (pc := 84) X dX9_readSeaWord_84 rfl ?_
        refine r_getI (pc := 85) X (at_X9_o Hb0) rfl mU_X9 (k := 18) (by decide) rfl mF_X9_101 dX9_readSeaWord_85 hG (fun z11 hG => ?_)
        refine r_iconst (pc := 88) X dX9_readSeaWord_88 hG rfl (fun z12 hG => ?_)
        refine r_iload_n (pc := 89) X dX9_readSeaWord_89 rfl rfl ?_
        refine r_ishl (pc := 90) X dX9_readSeaWord_90 hG (fun z13 hG => ?_)
        refine r_ior (pc := 91) X dX9_readSeaWord_91 hG (fun z14 hG => ?_)
        refine r_putI (pc := 92) X (at_X9_o Hb0) rfl mU_X9 (k := 18) (by decide) rfl rfl rfl mF_X9_101 dX9_readSeaWord_92 hG (fun h15 hG => ?_)
        refine r_aload_n (pc := 95) X dX9_readSeaWord_95 rfl rfl ?_
        refine r_cV (pc := 96) hG (fun _ hg => runV X dX9_readSeaWord_96 (c_X9_scan Hb0 hg) mM_X9_63 mI_X9_scan mE_X9_scan mN_X9 mK_X9_scan (at_X9_o Hb0) rfl rfl rfl rfl hdd_X9_scan ⟨(Nat.le_of_ble_eq_true rfl), (Nat.le_of_ble_eq_true rfl)⟩ rfl rfl (Nat.le_of_ble_eq_true rfl) ⟨(Nat.le_of_ble_eq_true rfl), (Nat.le_of_ble_eq_true rfl)⟩) (fun h16 hG => ?_)
        refine r_iload_n (pc := 99) X dX9_readSeaWord_99 rfl rfl ?_
        refine r_if_ne (pc := 100) X dX9_readSeaWord_100 (tgt := 108) (by decide) hG (fun hG => ?_) (fun hG => ?_)
        · skip
          refine r_iload_n (pc := 108) X dX9_readSeaWord_108 rfl rfl ?_
          refine r_iconst (pc := 109) X dX9_readSeaWord_109 hG rfl (fun z17 hG => ?_)
          refine r_icmp_ne (pc := 110) X dX9_readSeaWord_110 (tgt := 125) (by decide) hG (fun hG => ?_) (fun hG => ?_)
          · skip
            refine r_iload_n (pc := 125) X dX9_readSeaWord_125 rfl rfl ?_
            refine r_iconst (pc := 126) X dX9_readSeaWord_126 hG rfl (fun z18 hG => ?_)
            refine r_icmp_ne (pc := 127) X dX9_readSeaWord_127 (tgt := 142) (by decide) hG (fun hG => ?_) (fun hG => ?_)
            · skip
              refine r_aload_n (pc := 142) X dX9_readSeaWord_142 rfl rfl ?_
              refine r_iconst (pc := 143) X dX9_readSeaWord_143 hG rfl (fun z19 hG => ?_)
              refine r_bipush (pc := 144) X dX9_readSeaWord_144 hG (by decide) (fun z20 hG => ?_)
              refine r_cW (pc := 146) hG (fun _ hg => runV X dX9_readSeaWord_146 (c_X9_number Hb0 hg) mM_X9_70 mI_X9_number mE_X9_number mN_X9 mK_X9_number (at_X9_o Hb0) rfl rfl rfl rfl hdd_X9_number ⟨(Nat.le_of_ble_eq_true rfl), (Nat.le_of_ble_eq_true rfl)⟩ rfl rfl (Nat.le_of_ble_eq_true rfl) ⟨(Nat.le_of_ble_eq_true rfl), (Nat.le_of_ble_eq_true rfl)⟩) (fun z21 h22 hG => ?_)
              refine r_if_ne (pc := 149) X dX9_readSeaWord_149 (tgt := 154) (by decide) hG (fun hG => ?_) (fun hG => ?_)
              · skip
                refine r_aload_n (pc := 154) X dX9_readSeaWord_154 rfl rfl ?_
                refine r_aload_n (pc := 155) X dX9_readSeaWord_155 rfl rfl ?_
                refine r_getI (pc := 156) X (at_X9_o Hb0) rfl mU_X9 (k := 7) (by decide) rfl mF_X9_56 dX9_readSeaWord_156 hG (fun z23 hG => ?_)
                refine r_putI (pc := 159) X (at_X9_o Hb0) rfl mU_X9 (k := 40) (by decide) rfl rfl rfl mF_X9_191 dX9_readSeaWord_159 hG (fun h24 hG => ?_)
                refine r_iconst (pc := 162) X dX9_readSeaWord_162 hG rfl (fun z25 hG => ?_)
                exact r_zretW (pc := 163) X dX9_readSeaWord_163 hQ hG
              · skip
                refine r_iconst (pc := 152) X dX9_readSeaWord_152 hG rfl (fun z26 hG => ?_)
                exact r_zretW (pc := 153) X dX9_readSeaWord_153 hQ hG
            · skip
              refine r_aload_n (pc := 130) X dX9_readSeaWord_130 rfl rfl ?_
              refine r_aload_n (pc := 131) X dX9_readSeaWord_131 rfl rfl ?_
              refine r_getC (pc := 132) X (at_X9_o Hb0) rfl mU_X9 (k := 38) (by decide) (q := 117) rfl mF_X9_188 dX9_readSeaWord_132 ?_
              refine r_iconst (pc := 135) X dX9_readSeaWord_135 hG rfl (fun z27 hG => ?_)
              refine r_bipush (pc := 136) X dX9_readSeaWord_136 hG (by decide) (fun z28 hG => ?_)
              refine r_cW (pc := 138) hG (fun _ hg => runV X dX9_readSeaWord_138 (c_X9_readTwo Hb0 (at_X9_readLevel Hb0) hg) mM_X9_184 mI_X9_readTwo mE_X9_readTwo mN_X9 mK_X9_readTwo (at_X9_o Hb0) rfl rfl rfl rfl hdd_X9_readTwo ⟨(Nat.le_of_ble_eq_true rfl), (Nat.le_of_ble_eq_true rfl)⟩ rfl rfl (Nat.le_of_ble_eq_true rfl) ⟨(Nat.le_of_ble_eq_true rfl), (Nat.le_of_ble_eq_true rfl)⟩) (fun z29 h30 hG => ?_)
              exact r_zretW (pc := 141) X dX9_readSeaWord_141 hQ hG
          · skip
            refine r_aload_n (pc := 113) X dX9_readSeaWord_113 rfl rfl ?_
            refine r_aload_n (pc := 114) X dX9_readSeaWord_114 rfl rfl ?_
            refine r_getC (pc := 115) X (at_X9_o Hb0) rfl mU_X9 (k := 37) (by decide) (q := 116) rfl mF_X9_181 dX9_readSeaWord_115 ?_
            refine r_iconst (pc := 118) X dX9_readSeaWord_118 hG rfl (fun z31 hG => ?_)
            refine r_bipush (pc := 119) X dX9_readSeaWord_119 hG (by decide) (fun z32 hG => ?_)
            refine r_cW (pc := 121) hG (fun _ hg => runV X dX9_readSeaWord_121 (c_X9_readTwo Hb0 (at_X9_readReach Hb0) hg) mM_X9_184 mI_X9_readTwo mE_X9_readTwo mN_X9 mK_X9_readTwo (at_X9_o Hb0) rfl rfl rfl rfl hdd_X9_readTwo ⟨(Nat.le_of_ble_eq_true rfl), (Nat.le_of_ble_eq_true rfl)⟩ rfl rfl (Nat.le_of_ble_eq_true rfl) ⟨(Nat.le_of_ble_eq_true rfl), (Nat.le_of_ble_eq_true rfl)⟩) (fun z33 h34 hG => ?_)
            exact r_zretW (pc := 124) X dX9_readSeaWord_124 hQ hG
        · skip
          refine r_aload_n (pc := 103) X dX9_readSeaWord_103 rfl rfl ?_
          refine r_cW (pc := 104) hG (fun _ hg => runV X dX9_readSeaWord_104 (c_X9_readTide Hb0 hg) mM_X9_179 mI_X9_readTide mE_X9_readTide mN_X9 mK_X9_readTide (at_X9_o Hb0) rfl rfl rfl rfl hdd_X9_readTide ⟨(Nat.le_of_ble_eq_true rfl), (Nat.le_of_ble_eq_true rfl)⟩ rfl rfl (Nat.le_of_ble_eq_true rfl) ⟨(Nat.le_of_ble_eq_true rfl), (Nat.le_of_ble_eq_true rfl)⟩) (fun z35 h36 hG => ?_)
          exact r_zretW (pc := 107) X dX9_readSeaWord_107 hQ hG
      · skip
        refine r_aload_n (pc := 77) X dX9_readSeaWord_77 rfl rfl ?_
        refine r_iconst (pc := 78) X dX9_readSeaWord_78 hG rfl (fun z37 hG => ?_)
        refine r_cW (pc := 79) hG (fun _ hg => runV X dX9_readSeaWord_79 (c_X9_bad Hb0 hg) mM_X9_49 mI_X9_bad mE_X9_bad mN_X9 mK_X9_bad (at_X9_o Hb0) rfl rfl rfl rfl hdd_X9_bad ⟨(Nat.le_of_ble_eq_true rfl), (Nat.le_of_ble_eq_true rfl)⟩ rfl rfl (Nat.le_of_ble_eq_true rfl) ⟨(Nat.le_of_ble_eq_true rfl), (Nat.le_of_ble_eq_true rfl)⟩) (fun z38 h39 hG => ?_)
        exact r_zretW (pc := 82) X dX9_readSeaWord_82 hQ hG
    · skip
      refine r_aload_n (pc := 59) X dX9_readSeaWord_59 rfl rfl ?_
      refine r_iconst (pc := 60) X dX9_readSeaWord_60 hG rfl (fun z40 hG => ?_)
      refine r_cW (pc := 61) hG (fun _ hg => runV X dX9_readSeaWord_61 (c_X9_bad Hb0 hg) mM_X9_49 mI_X9_bad mE_X9_bad mN_X9 mK_X9_bad (at_X9_o Hb0) rfl rfl rfl rfl hdd_X9_bad ⟨(Nat.le_of_ble_eq_true rfl), (Nat.le_of_ble_eq_true rfl)⟩ rfl rfl (Nat.le_of_ble_eq_true rfl) ⟨(Nat.le_of_ble_eq_true rfl), (Nat.le_of_ble_eq_true rfl)⟩) (fun z41 h42 hG => ?_)
      exact r_zretW (pc := 64) X dX9_readSeaWord_64 hQ hG
  refine r_if_eq (pc := 6) X dX9_readSeaWord_6 (tgt := 13) (by decide) hG (fun hG => ?_) (fun hG => ?_)
  · skip
    refine r_aload_n (pc := 13) X dX9_readSeaWord_13 rfl rfl ?_
    refine r_ldcS (pc := 14) (k := 35) X rfl rfl rfl dX9_readSeaWord_14 ?_
    refine r_cP (pc := 16) hG (fun _ hg => runV X dX9_readSeaWord_16 (c_X9_is Hb0 rfl hg) mM_X9_106 mI_X9_is mE_X9_is mN_X9 mK_X9_is (at_X9_o Hb0) rfl rfl rfl rfl hdd_X9_is ⟨(Nat.le_of_ble_eq_true rfl), (Nat.le_of_ble_eq_true rfl)⟩ rfl rfl (Nat.le_of_ble_eq_true rfl) ⟨(Nat.le_of_ble_eq_true rfl), (Nat.le_of_ble_eq_true rfl)⟩) (fun z43 hG => ?_)
    refine r_if_eq (pc := 19) X dX9_readSeaWord_19 (tgt := 26) (by decide) hG (fun hG => ?_) (fun hG => ?_)
    · skip
      refine r_aload_n (pc := 26) X dX9_readSeaWord_26 rfl rfl ?_
      refine r_ldcS (pc := 27) (k := 36) X rfl rfl rfl dX9_readSeaWord_27 ?_
      refine r_cP (pc := 29) hG (fun _ hg => runV X dX9_readSeaWord_29 (c_X9_is Hb0 rfl hg) mM_X9_106 mI_X9_is mE_X9_is mN_X9 mK_X9_is (at_X9_o Hb0) rfl rfl rfl rfl hdd_X9_is ⟨(Nat.le_of_ble_eq_true rfl), (Nat.le_of_ble_eq_true rfl)⟩ rfl rfl (Nat.le_of_ble_eq_true rfl) ⟨(Nat.le_of_ble_eq_true rfl), (Nat.le_of_ble_eq_true rfl)⟩) (fun z44 hG => ?_)
      refine r_if_eq (pc := 32) X dX9_readSeaWord_32 (tgt := 39) (by decide) hG (fun hG => ?_) (fun hG => ?_)
      · skip
        refine r_aload_n (pc := 39) X dX9_readSeaWord_39 rfl rfl ?_
        refine r_ldcS (pc := 40) (k := 37) X rfl rfl rfl dX9_readSeaWord_40 ?_
        refine r_cP (pc := 42) hG (fun _ hg => runV X dX9_readSeaWord_42 (c_X9_is Hb0 rfl hg) mM_X9_106 mI_X9_is mE_X9_is mN_X9 mK_X9_is (at_X9_o Hb0) rfl rfl rfl rfl hdd_X9_is ⟨(Nat.le_of_ble_eq_true rfl), (Nat.le_of_ble_eq_true rfl)⟩ rfl rfl (Nat.le_of_ble_eq_true rfl) ⟨(Nat.le_of_ble_eq_true rfl), (Nat.le_of_ble_eq_true rfl)⟩) (fun z45 hG => ?_)
        refine r_if_eq (pc := 45) X dX9_readSeaWord_45 (tgt := 52) (by decide) hG (fun hG => ?_) (fun hG => ?_)
        · skip
          refine r_iconst (pc := 52) X dX9_readSeaWord_52 hG rfl (fun z46 hG => ?_)
          exact r_mask [true, false] rfl (Hj3 _ hG z46 rfl)
        · skip
          refine r_iconst (pc := 48) X dX9_readSeaWord_48 hG rfl (fun z47 hG => ?_)
          refine r_goto (pc := 49) X dX9_readSeaWord_49 (tgt := 53) (by decide) ?_
          exact r_mask [true, false] rfl (Hj3 _ hG z47 rfl)
      · skip
        refine r_iconst (pc := 35) X dX9_readSeaWord_35 hG rfl (fun z48 hG => ?_)
        refine r_goto (pc := 36) X dX9_readSeaWord_36 (tgt := 53) (by decide) ?_
        exact r_mask [true, false] rfl (Hj3 _ hG z48 rfl)
    · skip
      refine r_iconst (pc := 22) X dX9_readSeaWord_22 hG rfl (fun z49 hG => ?_)
      refine r_goto (pc := 23) X dX9_readSeaWord_23 (tgt := 53) (by decide) ?_
      exact r_mask [true, false] rfl (Hj3 _ hG z49 rfl)
  · skip
    refine r_iconst (pc := 9) X dX9_readSeaWord_9 hG rfl (fun z50 hG => ?_)
    refine r_goto (pc := 10) X dX9_readSeaWord_10 (tgt := 53) (by decide) ?_
    exact r_mask [true, false] rfl (Hj3 _ hG z50 rfl)
theorem c_X9_readSeaWord  {r : Int × Hp} (Hb0 : At_X9 shl) (hg : g_X9_readSeaWord h = some r) : Met l yX9_readSeaWord (wsM yX9_readSeaWord cX9_readSeaWord 2 (some .boolean)) rm_X9_readSeaWord (va_Pc [.ref (ad 100)] (World E ad shl h)) (QcI E ad shl r.1 r.2) 0 0 (bsA E) :=
  met_of (L0 := [some (.ref (ad 100)), none]) rfl rfl rfl (Nat.le_of_ble_eq_true rfl) (fun _ _ _ _ _ _ _ X => w_X9_readSeaWord Hb0 X rfl hg)
abbrev rm_X9_readSea : Room := { frames := 6, cells := 0, slots := 0, locals := 129 }
theorem hdd_X9_readSea : yX9_readSea.cls = RX9 ∧ yX9_readSea.cls ≠ "java/lang/invoke/MethodHandle" ∧ yX9_readSea.cls ≠ "java/lang/invoke/VarHandle" ∧ (parseMethodDescriptor yX9_readSea.desc).map (fun d => d.parameters.length) = some 0 := ⟨rfl, by decide +kernel, by decide +kernel, by decide +kernel⟩
set_option maxRecDepth 100000 in
set_option maxHeartbeats 4000000 in
theorem w_X9_readSea  {r : Int × Hp} (Hb0 : At_X9 shl) (X : Cx E p s m args meth c cX9_readSea RX9 2 (some .boolean)) (hQ : Q = MQ below (QcI E ad shl r.1 r.2) args s 0 0 (bsA E)) (hG : g_X9_readSea h = some r) : Ev E ad shl p l e rm_X9_readSea s m args below meth c 0 0 Q 2 h 0 [some (.ref (ad 100)), none] [] := by
  unfold g_X9_readSea at hG
  refine r_aload_n (pc := 0) X dX9_readSea_0 rfl rfl ?_
  refine r_iconst (pc := 1) X dX9_readSea_1 hG rfl (fun z1 hG => ?_)
  refine r_putI (pc := 2) X (at_X9_o Hb0) rfl mU_X9 (k := 30) (by decide) rfl rfl rfl mF_X9_162 dX9_readSea_2 hG (fun h2 hG => ?_)
  refine r_aload_n (pc := 5) X dX9_readSea_5 rfl rfl ?_
  refine r_iconst (pc := 6) X dX9_readSea_6 hG rfl (fun z3 hG => ?_)
  refine r_putI (pc := 7) X (at_X9_o Hb0) rfl mU_X9 (k := 18) (by decide) rfl rfl rfl mF_X9_101 dX9_readSea_7 hG (fun h4 hG => ?_)
  refine r_aload_n (pc := 10) X dX9_readSea_10 rfl rfl ?_
  refine r_iconst (pc := 11) X dX9_readSea_11 hG rfl (fun z5 hG => ?_)
  refine r_putI (pc := 12) X (at_X9_o Hb0) rfl mU_X9 (k := 17) (by decide) rfl rfl rfl mF_X9_131 dX9_readSea_12 hG (fun h6 hG => ?_)
  refine r_iconst (pc := 15) X dX9_readSea_15 hG rfl (fun z7 hG => ?_)
  refine r_istore_n (pc := 16) (L' := [some (.ref (ad 100)), some (.int z7)]) X dX9_readSea_16 rfl (by decide) rfl rfl ?_
  refine r_join hG (fun a8 => ∀ (h10 : Hp), a8 = h10 → Ev E ad shl p l e rm_X9_readSea s m args below meth c 0 0 Q 2 h10 35 [some (.ref (ad 100)), none] []) (fun a8 hG => ?_) (fun j9 Hj9 hG => ?_)
  · skip
    intro h10 ha; have ha := ha.symm; subst ha
    refine r_aload_n (pc := 35) X dX9_readSea_35 rfl rfl ?_
    refine r_getC (pc := 36) X (at_X9_o Hb0) rfl mU_X9 (k := 37) (by decide) (q := 116) rfl mF_X9_181 dX9_readSea_36 ?_
    refine r_iconst (pc := 39) X dX9_readSea_39 hG rfl (fun z11 hG => ?_)
    refine r_iconst (pc := 40) X dX9_readSea_40 hG rfl (fun z12 hG => ?_)
    refine r_iast (pc := 41) X (at_X9_readReach Hb0) dX9_readSea_41 hG (fun h13 hG => ?_)
    refine r_aload_n (pc := 42) X dX9_readSea_42 rfl rfl ?_
    refine r_getC (pc := 43) X (at_X9_o Hb0) rfl mU_X9 (k := 37) (by decide) (q := 116) rfl mF_X9_181 dX9_readSea_43 ?_
    refine r_iconst (pc := 46) X dX9_readSea_46 hG rfl (fun z14 hG => ?_)
    refine r_iconst (pc := 47) X dX9_readSea_47 hG rfl (fun z15 hG => ?_)
    refine r_iast (pc := 48) X (at_X9_readReach Hb0) dX9_readSea_48 hG (fun h16 hG => ?_)
    refine r_aload_n (pc := 49) X dX9_readSea_49 rfl rfl ?_
    refine r_getC (pc := 50) X (at_X9_o Hb0) rfl mU_X9 (k := 38) (by decide) (q := 117) rfl mF_X9_188 dX9_readSea_50 ?_
    refine r_iconst (pc := 53) X dX9_readSea_53 hG rfl (fun z17 hG => ?_)
    refine r_iconst (pc := 54) X dX9_readSea_54 hG rfl (fun z18 hG => ?_)
    refine r_iast (pc := 55) X (at_X9_readLevel Hb0) dX9_readSea_55 hG (fun h19 hG => ?_)
    refine r_aload_n (pc := 56) X dX9_readSea_56 rfl rfl ?_
    refine r_getC (pc := 57) X (at_X9_o Hb0) rfl mU_X9 (k := 38) (by decide) (q := 117) rfl mF_X9_188 dX9_readSea_57 ?_
    refine r_iconst (pc := 60) X dX9_readSea_60 hG rfl (fun z20 hG => ?_)
    refine r_bipush (pc := 61) X dX9_readSea_61 hG (by decide) (fun z21 hG => ?_)
    refine r_iast (pc := 63) X (at_X9_readLevel Hb0) dX9_readSea_63 hG (fun h22 hG => ?_)
    refine r_aload_n (pc := 64) X dX9_readSea_64 rfl rfl ?_
    refine r_iconst (pc := 65) X dX9_readSea_65 hG rfl (fun z23 hG => ?_)
    refine r_putI (pc := 66) X (at_X9_o Hb0) rfl mU_X9 (k := 40) (by decide) rfl rfl rfl mF_X9_191 dX9_readSea_66 hG (fun h24 hG => ?_)
    refine r_join hG (fun a25 => ∀ (h27 : Hp), a25 = h27 → Ev E ad shl p l e rm_X9_readSea s m args below meth c 0 0 Q 2 h27 109 [none, none] []) (fun a25 hG => ?_) (fun j26 Hj26 hG => ?_)
    · skip
      intro h27 ha; have ha := ha.symm; subst ha
      refine r_iconst (pc := 109) X dX9_readSea_109 hG rfl (fun z28 hG => ?_)
      exact r_zretW (pc := 110) X dX9_readSea_110 hQ hG
    refine r_mask [true, false] rfl (r_loop (fun q29 => ∀ (h31 : Hp), q29 = h31 → Ev E ad shl p l e rm_X9_readSea s m args below meth c 0 0 Q 2 h31 69 [some (.ref (ad 100)), none] []) (fun l30 Hl30 q29 hG => ?_) FU _ hG h24 rfl)
    intro h31 ha; have ha := ha.symm; subst ha
    unfold g_X9_readSea_l30 at hG
    refine r_aload_n (pc := 69) X dX9_readSea_69 rfl rfl ?_
    refine r_getI (pc := 70) X (at_X9_o Hb0) rfl mU_X9 (k := 5) (by decide) rfl mF_X9_27 dX9_readSea_70 hG (fun z32 hG => ?_)
    refine r_if_eq (pc := 73) X dX9_readSea_73 (tgt := 124) (by decide) hG (fun hG => ?_) (fun hG => ?_)
    · skip
      refine r_iconst (pc := 124) X dX9_readSea_124 hG rfl (fun z33 hG => ?_)
      exact r_zretW (pc := 125) X dX9_readSea_125 hQ hG
    · skip
      refine r_aload_n (pc := 76) X dX9_readSea_76 rfl rfl ?_
      refine r_ldcS (pc := 77) (k := 33) X rfl rfl rfl dX9_readSea_77 ?_
      refine r_cP (pc := 79) hG (fun _ hg => runV X dX9_readSea_79 (c_X9_is Hb0 rfl hg) mM_X9_106 mI_X9_is mE_X9_is mN_X9 mK_X9_is (at_X9_o Hb0) rfl rfl rfl rfl hdd_X9_is ⟨(Nat.le_of_ble_eq_true rfl), (Nat.le_of_ble_eq_true rfl)⟩ rfl rfl (Nat.le_of_ble_eq_true rfl) ⟨(Nat.le_of_ble_eq_true rfl), (Nat.le_of_ble_eq_true rfl)⟩) (fun z34 hG => ?_)
      refine r_join hG (fun a35 => ∀ (h37 : Hp), a35 = h37 → Ev E ad shl p l e rm_X9_readSea s m args below meth c 0 0 Q 2 h37 102 [some (.ref (ad 100)), none] []) (fun a35 hG => ?_) (fun j36 Hj36 hG => ?_)
      · skip
        intro h37 ha; have ha := ha.symm; subst ha
        refine r_aload_n (pc := 102) X dX9_readSea_102 rfl rfl ?_
        refine r_cW (pc := 103) hG (fun _ hg => runV X dX9_readSea_103 (c_X9_close Hb0 hg) mM_X9_159 mI_X9_close mE_X9_close mN_X9 mK_X9_close (at_X9_o Hb0) rfl rfl rfl rfl hdd_X9_close ⟨(Nat.le_of_ble_eq_true rfl), (Nat.le_of_ble_eq_true rfl)⟩ rfl rfl (Nat.le_of_ble_eq_true rfl) ⟨(Nat.le_of_ble_eq_true rfl), (Nat.le_of_ble_eq_true rfl)⟩) (fun z38 h39 hG => ?_)
        refine r_if_ne (pc := 106) X dX9_readSea_106 (tgt := 111) (by decide) hG (fun hG => ?_) (fun hG => ?_)
        · skip
          refine r_aload_n (pc := 111) X dX9_readSea_111 rfl rfl ?_
          refine r_dup (pc := 112) X dX9_readSea_112 rfl ?_
          refine r_getI (pc := 113) X (at_X9_o Hb0) rfl mU_X9 (k := 17) (by decide) rfl mF_X9_131 dX9_readSea_113 hG (fun z40 hG => ?_)
          refine r_iconst (pc := 116) X dX9_readSea_116 hG rfl (fun z41 hG => ?_)
          refine r_iadd (pc := 117) X dX9_readSea_117 hG (fun z42 hG => ?_)
          refine r_putI (pc := 118) X (at_X9_o Hb0) rfl mU_X9 (k := 17) (by decide) rfl rfl rfl mF_X9_131 dX9_readSea_118 hG (fun h43 hG => ?_)
          refine r_goto (pc := 121) X dX9_readSea_121 (tgt := 69) (by decide) ?_
          exact r_mask [true, false] rfl (Hl30 _ hG h43 rfl)
        · skip
          exact r_mask [false, false] rfl (Hj26 _ hG h39 rfl)
      refine r_if_eq (pc := 82) X dX9_readSea_82 (tgt := 95) (by decide) hG (fun hG => ?_) (fun hG => ?_)
      · skip
        refine r_aload_n (pc := 95) X dX9_readSea_95 rfl rfl ?_
        refine r_cW (pc := 96) hG (fun _ hg => runV X dX9_readSea_96 (c_X9_readSeaWord Hb0 hg) mM_X9_198 mI_X9_readSeaWord mE_X9_readSeaWord mN_X9 mK_X9_readSeaWord (at_X9_o Hb0) rfl rfl rfl rfl hdd_X9_readSeaWord ⟨(Nat.le_of_ble_eq_true rfl), (Nat.le_of_ble_eq_true rfl)⟩ rfl rfl (Nat.le_of_ble_eq_true rfl) ⟨(Nat.le_of_ble_eq_true rfl), (Nat.le_of_ble_eq_true rfl)⟩) (fun z44 h45 hG => ?_)
        refine r_if_eq (pc := 99) X dX9_readSea_99 (tgt := 109) (by decide) hG (fun hG => ?_) (fun hG => ?_)
        · skip
          exact r_mask [false, false] rfl (Hj26 _ hG h45 rfl)
        · skip
          exact r_mask [true, false] rfl (Hj36 _ hG h45 rfl)
      · skip
        refine r_aload_n (pc := 85) X dX9_readSea_85 rfl rfl ?_
        refine r_cW (pc := 86) hG (fun _ hg => runV X dX9_readSea_86 (c_X9_readWave Hb0 hg) mM_X9_196 mI_X9_readWave mE_X9_readWave mN_X9 mK_X9_readWave (at_X9_o Hb0) rfl rfl rfl rfl hdd_X9_readWave ⟨(Nat.le_of_ble_eq_true rfl), (Nat.le_of_ble_eq_true rfl)⟩ rfl rfl (Nat.le_of_ble_eq_true rfl) ⟨(Nat.le_of_ble_eq_true rfl), (Nat.le_of_ble_eq_true rfl)⟩) (fun z46 h47 hG => ?_)
        refine r_if_eq (pc := 89) X dX9_readSea_89 (tgt := 109) (by decide) hG (fun hG => ?_) (fun hG => ?_)
        · skip
          exact r_mask [false, false] rfl (Hj26 _ hG h47 rfl)
        · skip
          refine r_goto (pc := 92) X dX9_readSea_92 (tgt := 102) (by decide) ?_
          exact r_mask [true, false] rfl (Hj36 _ hG h47 rfl)
  refine r_mask [true, true] rfl (r_loop (fun q48 => ∀ (y50 : Int32) (h51 : Hp), q48 = (y50.toInt, h51) → Ev E ad shl p l e rm_X9_readSea s m args below meth c 0 0 Q 2 h51 17 [some (.ref (ad 100)), some (.int y50)] []) (fun l49 Hl49 q48 hG => ?_) FU _ hG z7 h6 rfl)
  intro y50 h51 ha; have ha := ha.symm; subst ha
  unfold g_X9_readSea_l49 at hG
  refine r_iload_n (pc := 17) X dX9_readSea_17 rfl rfl ?_
  refine r_iconst (pc := 18) X dX9_readSea_18 hG rfl (fun z52 hG => ?_)
  refine r_icmp_ge (pc := 19) X dX9_readSea_19 (tgt := 35) (by decide) hG (fun hG => ?_) (fun hG => ?_)
  · skip
    exact r_mask [true, false] rfl (Hj9 _ hG h51 rfl)
  · skip
    refine r_aload_n (pc := 22) X dX9_readSea_22 rfl rfl ?_
    refine r_getC (pc := 23) X (at_X9_o Hb0) rfl mU_X9 (k := 34) (by decide) (q := 113) rfl mF_X9_168 dX9_readSea_23 ?_
    refine r_iload_n (pc := 26) X dX9_readSea_26 rfl rfl ?_
    refine r_iconst (pc := 27) X dX9_readSea_27 hG rfl (fun z53 hG => ?_)
    refine r_iast (pc := 28) X (at_X9_readTide Hb0) dX9_readSea_28 hG (fun h54 hG => ?_)
    refine r_iinc (pc := 29) (L' := fun z55 => [some (.ref (ad 100)), some (.int z55)]) X dX9_readSea_29 (by decide) rfl rfl (by decide) (fun _ => rfl) hG (fun z55 hG => ?_)
    refine r_goto (pc := 32) X dX9_readSea_32 (tgt := 17) (by decide) ?_
    exact r_mask [true, true] rfl (Hl49 _ hG z55 h54 rfl)
theorem c_X9_readSea  {r : Int × Hp} (Hb0 : At_X9 shl) (hg : g_X9_readSea h = some r) : Met l yX9_readSea (wsM yX9_readSea cX9_readSea 2 (some .boolean)) rm_X9_readSea (va_Pc [.ref (ad 100)] (World E ad shl h)) (QcI E ad shl r.1 r.2) 0 0 (bsA E) :=
  met_of (L0 := [some (.ref (ad 100)), none]) rfl rfl rfl (Nat.le_of_ble_eq_true rfl) (fun _ _ _ _ _ _ _ X => w_X9_readSea Hb0 X rfl hg)
abbrev rm_X9_readCell : Room := { frames := 3, cells := 0, slots := 0, locals := 70 }
theorem hdd_X9_readCell : yX9_readCell.cls = RX9 ∧ yX9_readCell.cls ≠ "java/lang/invoke/MethodHandle" ∧ yX9_readCell.cls ≠ "java/lang/invoke/VarHandle" ∧ (parseMethodDescriptor yX9_readCell.desc).map (fun d => d.parameters.length) = some 0 := ⟨rfl, by decide +kernel, by decide +kernel, by decide +kernel⟩
set_option maxRecDepth 100000 in
set_option maxHeartbeats 4000000 in
theorem w_X9_readCell  {r : Int × Hp} (Hb0 : At_X9 shl) (X : Cx E p s m args meth c cX9_readCell RX9 1 (some .boolean)) (hQ : Q = MQ below (QcI E ad shl r.1 r.2) args s 0 0 (bsA E)) (hG : g_X9_readCell h = some r) : Ev E ad shl p l e rm_X9_readCell s m args below meth c 0 0 Q 1 h 0 [some (.ref (ad 100))] [] := by
  unfold g_X9_readCell at hG
  refine r_aload_n (pc := 0) X dX9_readCell_0 rfl rfl ?_
  refine r_iconst (pc := 1) X dX9_readCell_1 hG rfl (fun z1 hG => ?_)
  refine r_aload_n (pc := 2) X dX9_readCell_2 rfl rfl ?_
  refine r_getI (pc := 3) X (at_X9_o Hb0) rfl mU_X9 (k := 10) (by decide) rfl mF_X9_201 dX9_readCell_3 hG (fun z2 hG => ?_)
  refine r_iconst (pc := 6) X dX9_readCell_6 hG rfl (fun z3 hG => ?_)
  refine r_isub (pc := 7) X dX9_readCell_7 hG (fun z4 hG => ?_)
  refine r_cW (pc := 8) hG (fun _ hg => runV X dX9_readCell_8 (c_X9_number Hb0 hg) mM_X9_70 mI_X9_number mE_X9_number mN_X9 mK_X9_number (at_X9_o Hb0) rfl rfl rfl rfl hdd_X9_number ⟨(Nat.le_of_ble_eq_true rfl), (Nat.le_of_ble_eq_true rfl)⟩ rfl rfl (Nat.le_of_ble_eq_true rfl) ⟨(Nat.le_of_ble_eq_true rfl), (Nat.le_of_ble_eq_true rfl)⟩) (fun z5 h6 hG => ?_)
  refine r_join hG (fun a7 => ∀ (h9 : Hp), a7 = h9 → Ev E ad shl p l e rm_X9_readCell s m args below meth c 0 0 Q 1 h9 33 [none] []) (fun a7 hG => ?_) (fun j8 Hj8 hG => ?_)
  · skip
    intro h9 ha; have ha := ha.symm; subst ha
    refine r_iconst (pc := 33) X dX9_readCell_33 hG rfl (fun z10 hG => ?_)
    exact r_zretW (pc := 34) X dX9_readCell_34 hQ hG
  refine r_if_eq (pc := 11) X dX9_readCell_11 (tgt := 33) (by decide) hG (fun hG => ?_) (fun hG => ?_)
  · skip
    exact r_mask [false] rfl (Hj8 _ hG h6 rfl)
  · skip
    refine r_aload_n (pc := 14) X dX9_readCell_14 rfl rfl ?_
    refine r_aload_n (pc := 15) X dX9_readCell_15 rfl rfl ?_
    refine r_getI (pc := 16) X (at_X9_o Hb0) rfl mU_X9 (k := 7) (by decide) rfl mF_X9_56 dX9_readCell_16 hG (fun z11 hG => ?_)
    refine r_aload_n (pc := 19) X dX9_readCell_19 rfl rfl ?_
    refine r_getI (pc := 20) X (at_X9_o Hb0) rfl mU_X9 (k := 10) (by decide) rfl mF_X9_201 dX9_readCell_20 hG (fun z12 hG => ?_)
    refine r_aload_n (pc := 23) X dX9_readCell_23 rfl rfl ?_
    refine r_getI (pc := 24) X (at_X9_o Hb0) rfl mU_X9 (k := 11) (by decide) rfl mF_X9_204 dX9_readCell_24 hG (fun z13 hG => ?_)
    refine r_cW (pc := 27) hG (fun _ hg => runV X dX9_readCell_27 (c_X9_cellAt Hb0 hg) mM_X9_79 mI_X9_cellAt mE_X9_cellAt mN_X9 mK_X9_cellAt (at_X9_o Hb0) rfl rfl rfl rfl hdd_X9_cellAt ⟨(Nat.le_of_ble_eq_true rfl), (Nat.le_of_ble_eq_true rfl)⟩ rfl rfl (Nat.le_of_ble_eq_true rfl) ⟨(Nat.le_of_ble_eq_true rfl), (Nat.le_of_ble_eq_true rfl)⟩) (fun z14 h15 hG => ?_)
    refine r_if_ne (pc := 30) X dX9_readCell_30 (tgt := 35) (by decide) hG (fun hG => ?_) (fun hG => ?_)
    · skip
      refine r_iconst (pc := 35) X dX9_readCell_35 hG rfl (fun z16 hG => ?_)
      exact r_zretW (pc := 36) X dX9_readCell_36 hQ hG
    · skip
      exact r_mask [false] rfl (Hj8 _ hG h15 rfl)
theorem c_X9_readCell  {r : Int × Hp} (Hb0 : At_X9 shl) (hg : g_X9_readCell h = some r) : Met l yX9_readCell (wsM yX9_readCell cX9_readCell 1 (some .boolean)) rm_X9_readCell (va_Pc [.ref (ad 100)] (World E ad shl h)) (QcI E ad shl r.1 r.2) 0 0 (bsA E) :=
  met_of (L0 := [some (.ref (ad 100))]) rfl rfl rfl (Nat.le_of_ble_eq_true rfl) (fun _ _ _ _ _ _ _ X => w_X9_readCell Hb0 X rfl hg)
abbrev rm_X9_readAct : Room := { frames := 4, cells := 0, slots := 0, locals := 90 }
theorem hdd_X9_readAct : yX9_readAct.cls = RX9 ∧ yX9_readAct.cls ≠ "java/lang/invoke/MethodHandle" ∧ yX9_readAct.cls ≠ "java/lang/invoke/VarHandle" ∧ (parseMethodDescriptor yX9_readAct.desc).map (fun d => d.parameters.length) = some 2 := ⟨rfl, by decide +kernel, by decide +kernel, by decide +kernel⟩
set_option maxRecDepth 100000 in
set_option maxHeartbeats 4000000 in
theorem w_X9_readAct {x1 : Int32} {x2 : Int32} {r : Int × Hp} (Hb0 : At_X9 shl) (X : Cx E p s m args meth c cX9_readAct RX9 3 (some .boolean)) (hQ : Q = MQ below (QcI E ad shl r.1 r.2) args s 0 0 (bsA E)) (hG : g_X9_readAct x1.toInt x2.toInt h = some r) : Ev E ad shl p l e rm_X9_readAct s m args below meth c 0 0 Q 3 h 0 [some (.ref (ad 100)), some (.int x1), some (.int x2)] [] := by
  unfold g_X9_readAct at hG
  refine r_aload_n (pc := 0) X dX9_readAct_0 rfl rfl ?_
  refine r_cV (pc := 1) hG (fun _ hg => runV X dX9_readAct_1 (c_X9_scan Hb0 hg) mM_X9_63 mI_X9_scan mE_X9_scan mN_X9 mK_X9_scan (at_X9_o Hb0) rfl rfl rfl rfl hdd_X9_scan ⟨(Nat.le_of_ble_eq_true rfl), (Nat.le_of_ble_eq_true rfl)⟩ rfl rfl (Nat.le_of_ble_eq_true rfl) ⟨(Nat.le_of_ble_eq_true rfl), (Nat.le_of_ble_eq_true rfl)⟩) (fun h1 hG => ?_)
  refine r_aload_n (pc := 4) X dX9_readAct_4 rfl rfl ?_
  refine r_getC (pc := 5) X (at_X9_o Hb0) rfl mU_X9 (k := 45) (by decide) (q := 120) rfl mF_X9_207 dX9_readAct_5 ?_
  refine r_iload_n (pc := 8) X dX9_readAct_8 rfl rfl ?_
  refine r_iload_n (pc := 9) X dX9_readAct_9 rfl rfl ?_
  refine r_iast (pc := 10) X (at_X9_act Hb0) dX9_readAct_10 hG (fun h2 hG => ?_)
  refine r_aload_n (pc := 11) X dX9_readAct_11 rfl rfl ?_
  refine r_getC (pc := 12) X (at_X9_o Hb0) rfl mU_X9 (k := 45) (by decide) (q := 120) rfl mF_X9_207 dX9_readAct_12 ?_
  refine r_iload_n (pc := 15) X dX9_readAct_15 rfl rfl ?_
  refine r_iconst (pc := 16) X dX9_readAct_16 hG rfl (fun z3 hG => ?_)
  refine r_iadd (pc := 17) X dX9_readAct_17 hG (fun z4 hG => ?_)
  refine r_iconst (pc := 18) X dX9_readAct_18 hG rfl (fun z5 hG => ?_)
  refine r_iast (pc := 19) X (at_X9_act Hb0) dX9_readAct_19 hG (fun h6 hG => ?_)
  refine r_aload_n (pc := 20) X dX9_readAct_20 rfl rfl ?_
  refine r_getC (pc := 21) X (at_X9_o Hb0) rfl mU_X9 (k := 45) (by decide) (q := 120) rfl mF_X9_207 dX9_readAct_21 ?_
  refine r_iload_n (pc := 24) X dX9_readAct_24 rfl rfl ?_
  refine r_iconst (pc := 25) X dX9_readAct_25 hG rfl (fun z7 hG => ?_)
  refine r_iadd (pc := 26) X dX9_readAct_26 hG (fun z8 hG => ?_)
  refine r_iconst (pc := 27) X dX9_readAct_27 hG rfl (fun z9 hG => ?_)
  refine r_iast (pc := 28) X (at_X9_act Hb0) dX9_readAct_28 hG (fun h10 hG => ?_)
  refine r_iload_n (pc := 29) X dX9_readAct_29 rfl rfl ?_
  refine r_iconst (pc := 30) X dX9_readAct_30 hG rfl (fun z11 hG => ?_)
  refine r_icmp_le (pc := 31) X dX9_readAct_31 (tgt := 36) (by decide) hG (fun hG => ?_) (fun hG => ?_)
  · skip
    refine r_aload_n (pc := 36) X dX9_readAct_36 rfl rfl ?_
    refine r_cW (pc := 37) hG (fun _ hg => runV X dX9_readAct_37 (c_X9_readCell Hb0 hg) mM_X9_210 mI_X9_readCell mE_X9_readCell mN_X9 mK_X9_readCell (at_X9_o Hb0) rfl rfl rfl rfl hdd_X9_readCell ⟨(Nat.le_of_ble_eq_true rfl), (Nat.le_of_ble_eq_true rfl)⟩ rfl rfl (Nat.le_of_ble_eq_true rfl) ⟨(Nat.le_of_ble_eq_true rfl), (Nat.le_of_ble_eq_true rfl)⟩) (fun z12 h13 hG => ?_)
    refine r_if_ne (pc := 40) X dX9_readAct_40 (tgt := 45) (by decide) hG (fun hG => ?_) (fun hG => ?_)
    · skip
      refine r_aload_n (pc := 45) X dX9_readAct_45 rfl rfl ?_
      refine r_getC (pc := 46) X (at_X9_o Hb0) rfl mU_X9 (k := 45) (by decide) (q := 120) rfl mF_X9_207 dX9_readAct_46 ?_
      refine r_iload_n (pc := 49) X dX9_readAct_49 rfl rfl ?_
      refine r_iconst (pc := 50) X dX9_readAct_50 hG rfl (fun z14 hG => ?_)
      refine r_iadd (pc := 51) X dX9_readAct_51 hG (fun z15 hG => ?_)
      refine r_aload_n (pc := 52) X dX9_readAct_52 rfl rfl ?_
      refine r_getI (pc := 53) X (at_X9_o Hb0) rfl mU_X9 (k := 7) (by decide) rfl mF_X9_56 dX9_readAct_53 hG (fun z16 hG => ?_)
      refine r_iast (pc := 56) X (at_X9_act Hb0) dX9_readAct_56 hG (fun h17 hG => ?_)
      refine r_aload_n (pc := 57) X dX9_readAct_57 rfl rfl ?_
      refine r_cV (pc := 58) hG (fun _ hg => runV X dX9_readAct_58 (c_X9_scan Hb0 hg) mM_X9_63 mI_X9_scan mE_X9_scan mN_X9 mK_X9_scan (at_X9_o Hb0) rfl rfl rfl rfl hdd_X9_scan ⟨(Nat.le_of_ble_eq_true rfl), (Nat.le_of_ble_eq_true rfl)⟩ rfl rfl (Nat.le_of_ble_eq_true rfl) ⟨(Nat.le_of_ble_eq_true rfl), (Nat.le_of_ble_eq_true rfl)⟩) (fun h18 hG => ?_)
      refine r_iload_n (pc := 61) X dX9_readAct_61 rfl rfl ?_
      refine r_if_eq (pc := 62) X dX9_readAct_62 (tgt := 67) (by decide) hG (fun hG => ?_) (fun hG => ?_)
      · skip
        refine r_aload_n (pc := 67) X dX9_readAct_67 rfl rfl ?_
        refine r_cW (pc := 68) hG (fun _ hg => runV X dX9_readAct_68 (c_X9_readCell Hb0 hg) mM_X9_210 mI_X9_readCell mE_X9_readCell mN_X9 mK_X9_readCell (at_X9_o Hb0) rfl rfl rfl rfl hdd_X9_readCell ⟨(Nat.le_of_ble_eq_true rfl), (Nat.le_of_ble_eq_true rfl)⟩ rfl rfl (Nat.le_of_ble_eq_true rfl) ⟨(Nat.le_of_ble_eq_true rfl), (Nat.le_of_ble_eq_true rfl)⟩) (fun z19 h20 hG => ?_)
        refine r_if_ne (pc := 71) X dX9_readAct_71 (tgt := 76) (by decide) hG (fun hG => ?_) (fun hG => ?_)
        · skip
          refine r_aload_n (pc := 76) X dX9_readAct_76 rfl rfl ?_
          refine r_getI (pc := 77) X (at_X9_o Hb0) rfl mU_X9 (k := 7) (by decide) rfl mF_X9_56 dX9_readAct_77 hG (fun z21 hG => ?_)
          refine r_aload_n (pc := 80) X dX9_readAct_80 rfl rfl ?_
          refine r_getC (pc := 81) X (at_X9_o Hb0) rfl mU_X9 (k := 45) (by decide) (q := 120) rfl mF_X9_207 dX9_readAct_81 ?_
          refine r_iload_n (pc := 84) X dX9_readAct_84 rfl rfl ?_
          refine r_iconst (pc := 85) X dX9_readAct_85 hG rfl (fun z22 hG => ?_)
          refine r_iadd (pc := 86) X dX9_readAct_86 hG (fun z23 hG => ?_)
          refine r_iald (pc := 87) X (at_X9_act Hb0) dX9_readAct_87 hG (fun z24 hG => ?_)
          refine r_icmp_ne (pc := 88) X dX9_readAct_88 (tgt := 97) (by decide) hG (fun hG => ?_) (fun hG => ?_)
          · skip
            refine r_aload_n (pc := 97) X dX9_readAct_97 rfl rfl ?_
            refine r_getC (pc := 98) X (at_X9_o Hb0) rfl mU_X9 (k := 45) (by decide) (q := 120) rfl mF_X9_207 dX9_readAct_98 ?_
            refine r_iload_n (pc := 101) X dX9_readAct_101 rfl rfl ?_
            refine r_iconst (pc := 102) X dX9_readAct_102 hG rfl (fun z25 hG => ?_)
            refine r_iadd (pc := 103) X dX9_readAct_103 hG (fun z26 hG => ?_)
            refine r_aload_n (pc := 104) X dX9_readAct_104 rfl rfl ?_
            refine r_getI (pc := 105) X (at_X9_o Hb0) rfl mU_X9 (k := 7) (by decide) rfl mF_X9_56 dX9_readAct_105 hG (fun z27 hG => ?_)
            refine r_iast (pc := 108) X (at_X9_act Hb0) dX9_readAct_108 hG (fun h28 hG => ?_)
            refine r_aload_n (pc := 109) X dX9_readAct_109 rfl rfl ?_
            refine r_cV (pc := 110) hG (fun _ hg => runV X dX9_readAct_110 (c_X9_scan Hb0 hg) mM_X9_63 mI_X9_scan mE_X9_scan mN_X9 mK_X9_scan (at_X9_o Hb0) rfl rfl rfl rfl hdd_X9_scan ⟨(Nat.le_of_ble_eq_true rfl), (Nat.le_of_ble_eq_true rfl)⟩ rfl rfl (Nat.le_of_ble_eq_true rfl) ⟨(Nat.le_of_ble_eq_true rfl), (Nat.le_of_ble_eq_true rfl)⟩) (fun h29 hG => ?_)
            refine r_iconst (pc := 113) X dX9_readAct_113 hG rfl (fun z30 hG => ?_)
            exact r_zretW (pc := 114) X dX9_readAct_114 hQ hG
          · skip
            refine r_aload_n (pc := 91) X dX9_readAct_91 rfl rfl ?_
            refine r_iconst (pc := 92) X dX9_readAct_92 hG rfl (fun z31 hG => ?_)
            refine r_cW (pc := 93) hG (fun _ hg => runV X dX9_readAct_93 (c_X9_bad Hb0 hg) mM_X9_49 mI_X9_bad mE_X9_bad mN_X9 mK_X9_bad (at_X9_o Hb0) rfl rfl rfl rfl hdd_X9_bad ⟨(Nat.le_of_ble_eq_true rfl), (Nat.le_of_ble_eq_true rfl)⟩ rfl rfl (Nat.le_of_ble_eq_true rfl) ⟨(Nat.le_of_ble_eq_true rfl), (Nat.le_of_ble_eq_true rfl)⟩) (fun z32 h33 hG => ?_)
            exact r_zretW (pc := 96) X dX9_readAct_96 hQ hG
        · skip
          refine r_iconst (pc := 74) X dX9_readAct_74 hG rfl (fun z34 hG => ?_)
          exact r_zretW (pc := 75) X dX9_readAct_75 hQ hG
      · skip
        refine r_iconst (pc := 65) X dX9_readAct_65 hG rfl (fun z35 hG => ?_)
        exact r_zretW (pc := 66) X dX9_readAct_66 hQ hG
    · skip
      refine r_iconst (pc := 43) X dX9_readAct_43 hG rfl (fun z36 hG => ?_)
      exact r_zretW (pc := 44) X dX9_readAct_44 hQ hG
  · skip
    refine r_iconst (pc := 34) X dX9_readAct_34 hG rfl (fun z37 hG => ?_)
    exact r_zretW (pc := 35) X dX9_readAct_35 hQ hG
theorem c_X9_readAct {x1 : Int32} {x2 : Int32} {r : Int × Hp} (Hb0 : At_X9 shl) (hg : g_X9_readAct x1.toInt x2.toInt h = some r) : Met l yX9_readAct (wsM yX9_readAct cX9_readAct 3 (some .boolean)) rm_X9_readAct (va_Pc [.ref (ad 100), .int x1, .int x2] (World E ad shl h)) (QcI E ad shl r.1 r.2) 0 0 (bsA E) :=
  met_of (L0 := [some (.ref (ad 100)), some (.int x1), some (.int x2)]) rfl rfl rfl (Nat.le_of_ble_eq_true rfl) (fun _ _ _ _ _ _ _ X => w_X9_readAct Hb0 X rfl hg)
abbrev rm_X9_actAt : Room := { frames := 5, cells := 0, slots := 0, locals := 108 }
theorem hdd_X9_actAt : yX9_actAt.cls = RX9 ∧ yX9_actAt.cls ≠ "java/lang/invoke/MethodHandle" ∧ yX9_actAt.cls ≠ "java/lang/invoke/VarHandle" ∧ (parseMethodDescriptor yX9_actAt.desc).map (fun d => d.parameters.length) = some 0 := ⟨rfl, by decide +kernel, by decide +kernel, by decide +kernel⟩
set_option maxRecDepth 100000 in
set_option maxHeartbeats 4000000 in
theorem w_X9_actAt  {r : Int} (Hb0 : At_X9 shl) (X : Cx E p s m args meth c cX9_actAt RX9 1 (some .int)) (hQ : Q = MQ below (QcI E ad shl r h) args s 0 0 (bsA E)) (hG : g_X9_actAt h = some r) : Ev E ad shl p l e rm_X9_actAt s m args below meth c 0 0 Q 1 h 0 [some (.ref (ad 100))] [] := by
  unfold g_X9_actAt at hG
  refine r_aload_n (pc := 0) X dX9_actAt_0 rfl rfl ?_
  refine r_ldcS (pc := 1) (k := 39) X rfl rfl rfl dX9_actAt_1 ?_
  refine r_cP (pc := 3) hG (fun _ hg => runV X dX9_actAt_3 (c_X9_is Hb0 rfl hg) mM_X9_106 mI_X9_is mE_X9_is mN_X9 mK_X9_is (at_X9_o Hb0) rfl rfl rfl rfl hdd_X9_is ⟨(Nat.le_of_ble_eq_true rfl), (Nat.le_of_ble_eq_true rfl)⟩ rfl rfl (Nat.le_of_ble_eq_true rfl) ⟨(Nat.le_of_ble_eq_true rfl), (Nat.le_of_ble_eq_true rfl)⟩) (fun z1 hG => ?_)
  refine r_join hG (fun a2 => ∀ (y4 : Int32), a2 = y4.toInt → Ev E ad shl p l e rm_X9_actAt s m args below meth c 0 0 Q 1 h 66 [none] [.int y4]) (fun a2 hG => ?_) (fun j3 Hj3 hG => ?_)
  · skip
    intro y4 ha; have ha := ha.symm; subst ha
    exact r_iretP (pc := 66) X dX9_actAt_66 hQ hG
  refine r_if_eq (pc := 6) X dX9_actAt_6 (tgt := 13) (by decide) hG (fun hG => ?_) (fun hG => ?_)
  · skip
    refine r_aload_n (pc := 13) X dX9_actAt_13 rfl rfl ?_
    refine r_ldcS (pc := 14) (k := 27) X rfl rfl rfl dX9_actAt_14 ?_
    refine r_cP (pc := 16) hG (fun _ hg => runV X dX9_actAt_16 (c_X9_is Hb0 rfl hg) mM_X9_106 mI_X9_is mE_X9_is mN_X9 mK_X9_is (at_X9_o Hb0) rfl rfl rfl rfl hdd_X9_is ⟨(Nat.le_of_ble_eq_true rfl), (Nat.le_of_ble_eq_true rfl)⟩ rfl rfl (Nat.le_of_ble_eq_true rfl) ⟨(Nat.le_of_ble_eq_true rfl), (Nat.le_of_ble_eq_true rfl)⟩) (fun z5 hG => ?_)
    refine r_if_eq (pc := 19) X dX9_actAt_19 (tgt := 26) (by decide) hG (fun hG => ?_) (fun hG => ?_)
    · skip
      refine r_aload_n (pc := 26) X dX9_actAt_26 rfl rfl ?_
      refine r_ldcS (pc := 27) (k := 40) X rfl rfl rfl dX9_actAt_27 ?_
      refine r_cP (pc := 29) hG (fun _ hg => runV X dX9_actAt_29 (c_X9_is Hb0 rfl hg) mM_X9_106 mI_X9_is mE_X9_is mN_X9 mK_X9_is (at_X9_o Hb0) rfl rfl rfl rfl hdd_X9_is ⟨(Nat.le_of_ble_eq_true rfl), (Nat.le_of_ble_eq_true rfl)⟩ rfl rfl (Nat.le_of_ble_eq_true rfl) ⟨(Nat.le_of_ble_eq_true rfl), (Nat.le_of_ble_eq_true rfl)⟩) (fun z6 hG => ?_)
      refine r_if_eq (pc := 32) X dX9_actAt_32 (tgt := 39) (by decide) hG (fun hG => ?_) (fun hG => ?_)
      · skip
        refine r_aload_n (pc := 39) X dX9_actAt_39 rfl rfl ?_
        refine r_ldcS (pc := 40) (k := 41) X rfl rfl rfl dX9_actAt_40 ?_
        refine r_cP (pc := 42) hG (fun _ hg => runV X dX9_actAt_42 (c_X9_is Hb0 rfl hg) mM_X9_106 mI_X9_is mE_X9_is mN_X9 mK_X9_is (at_X9_o Hb0) rfl rfl rfl rfl hdd_X9_is ⟨(Nat.le_of_ble_eq_true rfl), (Nat.le_of_ble_eq_true rfl)⟩ rfl rfl (Nat.le_of_ble_eq_true rfl) ⟨(Nat.le_of_ble_eq_true rfl), (Nat.le_of_ble_eq_true rfl)⟩) (fun z7 hG => ?_)
        refine r_if_eq (pc := 45) X dX9_actAt_45 (tgt := 52) (by decide) hG (fun hG => ?_) (fun hG => ?_)
        · skip
          refine r_aload_n (pc := 52) X dX9_actAt_52 rfl rfl ?_
          refine r_ldcS (pc := 53) (k := 42) X rfl rfl rfl dX9_actAt_53 ?_
          refine r_cP (pc := 55) hG (fun _ hg => runV X dX9_actAt_55 (c_X9_is Hb0 rfl hg) mM_X9_106 mI_X9_is mE_X9_is mN_X9 mK_X9_is (at_X9_o Hb0) rfl rfl rfl rfl hdd_X9_is ⟨(Nat.le_of_ble_eq_true rfl), (Nat.le_of_ble_eq_true rfl)⟩ rfl rfl (Nat.le_of_ble_eq_true rfl) ⟨(Nat.le_of_ble_eq_true rfl), (Nat.le_of_ble_eq_true rfl)⟩) (fun z8 hG => ?_)
          refine r_if_eq (pc := 58) X dX9_actAt_58 (tgt := 65) (by decide) hG (fun hG => ?_) (fun hG => ?_)
          · skip
            refine r_iconst (pc := 65) X dX9_actAt_65 hG rfl (fun z9 hG => ?_)
            exact r_mask [false] rfl (Hj3 _ hG z9 rfl)
          · skip
            refine r_iconst (pc := 61) X dX9_actAt_61 hG rfl (fun z10 hG => ?_)
            refine r_goto (pc := 62) X dX9_actAt_62 (tgt := 66) (by decide) ?_
            exact r_mask [false] rfl (Hj3 _ hG z10 rfl)
        · skip
          refine r_iconst (pc := 48) X dX9_actAt_48 hG rfl (fun z11 hG => ?_)
          refine r_goto (pc := 49) X dX9_actAt_49 (tgt := 66) (by decide) ?_
          exact r_mask [false] rfl (Hj3 _ hG z11 rfl)
      · skip
        refine r_iconst (pc := 35) X dX9_actAt_35 hG rfl (fun z12 hG => ?_)
        refine r_goto (pc := 36) X dX9_actAt_36 (tgt := 66) (by decide) ?_
        exact r_mask [false] rfl (Hj3 _ hG z12 rfl)
    · skip
      refine r_iconst (pc := 22) X dX9_actAt_22 hG rfl (fun z13 hG => ?_)
      refine r_goto (pc := 23) X dX9_actAt_23 (tgt := 66) (by decide) ?_
      exact r_mask [false] rfl (Hj3 _ hG z13 rfl)
  · skip
    refine r_iconst (pc := 9) X dX9_actAt_9 hG rfl (fun z14 hG => ?_)
    refine r_goto (pc := 10) X dX9_actAt_10 (tgt := 66) (by decide) ?_
    exact r_mask [false] rfl (Hj3 _ hG z14 rfl)
theorem c_X9_actAt  {r : Int} (Hb0 : At_X9 shl) (hg : g_X9_actAt h = some r) : Met l yX9_actAt (wsM yX9_actAt cX9_actAt 1 (some .int)) rm_X9_actAt (va_Pc [.ref (ad 100)] (World E ad shl h)) (QcI E ad shl r h) 0 0 (bsA E) :=
  met_of (L0 := [some (.ref (ad 100))]) rfl rfl rfl (Nat.le_of_ble_eq_true rfl) (fun _ _ _ _ _ _ _ X => w_X9_actAt Hb0 X rfl hg)
abbrev rm_X9_readHand : Room := { frames := 6, cells := 0, slots := 0, locals := 128 }
theorem hdd_X9_readHand : yX9_readHand.cls = RX9 ∧ yX9_readHand.cls ≠ "java/lang/invoke/MethodHandle" ∧ yX9_readHand.cls ≠ "java/lang/invoke/VarHandle" ∧ (parseMethodDescriptor yX9_readHand.desc).map (fun d => d.parameters.length) = some 0 := ⟨rfl, by decide +kernel, by decide +kernel, by decide +kernel⟩
set_option maxRecDepth 100000 in
set_option maxHeartbeats 4000000 in
theorem w_X9_readHand  {r : Int × Hp} (Hb0 : At_X9 shl) (X : Cx E p s m args meth c cX9_readHand RX9 3 (some .boolean)) (hQ : Q = MQ below (QcI E ad shl r.1 r.2) args s 0 0 (bsA E)) (hG : g_X9_readHand h = some r) : Ev E ad shl p l e rm_X9_readHand s m args below meth c 0 0 Q 3 h 0 [some (.ref (ad 100)), none, none] [] := by
  unfold g_X9_readHand at hG
  refine r_aload_n (pc := 0) X dX9_readHand_0 rfl rfl ?_
  refine r_ldcS (pc := 1) (k := 38) X rfl rfl rfl dX9_readHand_1 ?_
  refine r_cP (pc := 3) hG (fun _ hg => runV X dX9_readHand_3 (c_X9_is Hb0 rfl hg) mM_X9_106 mI_X9_is mE_X9_is mN_X9 mK_X9_is (at_X9_o Hb0) rfl rfl rfl rfl hdd_X9_is ⟨(Nat.le_of_ble_eq_true rfl), (Nat.le_of_ble_eq_true rfl)⟩ rfl rfl (Nat.le_of_ble_eq_true rfl) ⟨(Nat.le_of_ble_eq_true rfl), (Nat.le_of_ble_eq_true rfl)⟩) (fun z1 hG => ?_)
  refine r_if_ne (pc := 6) X dX9_readHand_6 (tgt := 15) (by decide) hG (fun hG => ?_) (fun hG => ?_)
  · skip
    refine r_aload_n (pc := 15) X dX9_readHand_15 rfl rfl ?_
    refine r_getI (pc := 16) X (at_X9_o Hb0) rfl mU_X9 (k := 42) (by decide) rfl mF_X9_222 dX9_readHand_16 hG (fun z2 hG => ?_)
    refine r_iconst (pc := 19) X dX9_readHand_19 hG rfl (fun z3 hG => ?_)
    refine r_icmp_ne (pc := 20) X dX9_readHand_20 (tgt := 29) (by decide) hG (fun hG => ?_) (fun hG => ?_)
    · skip
      refine r_iconst (pc := 29) X dX9_readHand_29 hG rfl (fun z4 hG => ?_)
      refine r_aload_n (pc := 30) X dX9_readHand_30 rfl rfl ?_
      refine r_getI (pc := 31) X (at_X9_o Hb0) rfl mU_X9 (k := 41) (by decide) rfl mF_X9_225 dX9_readHand_31 hG (fun z5 hG => ?_)
      refine r_imul (pc := 34) X dX9_readHand_34 hG (fun z6 hG => ?_)
      refine r_aload_n (pc := 35) X dX9_readHand_35 rfl rfl ?_
      refine r_getI (pc := 36) X (at_X9_o Hb0) rfl mU_X9 (k := 42) (by decide) rfl mF_X9_222 dX9_readHand_36 hG (fun z7 hG => ?_)
      refine r_iadd (pc := 39) X dX9_readHand_39 hG (fun z8 hG => ?_)
      refine r_istore_n (pc := 40) (L' := [some (.ref (ad 100)), some (.int z8), none]) X dX9_readHand_40 rfl (by decide) rfl rfl ?_
      refine r_aload_n (pc := 41) X dX9_readHand_41 rfl rfl ?_
      refine r_cV (pc := 42) hG (fun _ hg => runV X dX9_readHand_42 (c_X9_scan Hb0 hg) mM_X9_63 mI_X9_scan mE_X9_scan mN_X9 mK_X9_scan (at_X9_o Hb0) rfl rfl rfl rfl hdd_X9_scan ⟨(Nat.le_of_ble_eq_true rfl), (Nat.le_of_ble_eq_true rfl)⟩ rfl rfl (Nat.le_of_ble_eq_true rfl) ⟨(Nat.le_of_ble_eq_true rfl), (Nat.le_of_ble_eq_true rfl)⟩) (fun h9 hG => ?_)
      refine r_aload_n (pc := 45) X dX9_readHand_45 rfl rfl ?_
      refine r_getC (pc := 46) X (at_X9_o Hb0) rfl mU_X9 (k := 44) (by decide) (q := 119) rfl mF_X9_228 dX9_readHand_46 ?_
      refine r_iload_n (pc := 49) X dX9_readHand_49 rfl rfl ?_
      refine r_iconst (pc := 50) X dX9_readHand_50 hG rfl (fun z10 hG => ?_)
      refine r_iast (pc := 51) X (at_X9_acts Hb0) dX9_readHand_51 hG (fun h11 hG => ?_)
      refine r_aload_n (pc := 52) X dX9_readHand_52 rfl rfl ?_
      refine r_cP (pc := 53) hG (fun _ hg => runV X dX9_readHand_53 (c_X9_actAt Hb0 hg) mM_X9_231 mI_X9_actAt mE_X9_actAt mN_X9 mK_X9_actAt (at_X9_o Hb0) rfl rfl rfl rfl hdd_X9_actAt ⟨(Nat.le_of_ble_eq_true rfl), (Nat.le_of_ble_eq_true rfl)⟩ rfl rfl (Nat.le_of_ble_eq_true rfl) ⟨(Nat.le_of_ble_eq_true rfl), (Nat.le_of_ble_eq_true rfl)⟩) (fun z12 hG => ?_)
      refine r_iconst (pc := 56) X dX9_readHand_56 hG rfl (fun z13 hG => ?_)
      refine r_icmp_ne (pc := 57) X dX9_readHand_57 (tgt := 66) (by decide) hG (fun hG => ?_) (fun hG => ?_)
      · skip
        refine r_aload_n (pc := 66) X dX9_readHand_66 rfl rfl ?_
        refine r_cP (pc := 67) hG (fun _ hg => runV X dX9_readHand_67 (c_X9_actAt Hb0 hg) mM_X9_231 mI_X9_actAt mE_X9_actAt mN_X9 mK_X9_actAt (at_X9_o Hb0) rfl rfl rfl rfl hdd_X9_actAt ⟨(Nat.le_of_ble_eq_true rfl), (Nat.le_of_ble_eq_true rfl)⟩ rfl rfl (Nat.le_of_ble_eq_true rfl) ⟨(Nat.le_of_ble_eq_true rfl), (Nat.le_of_ble_eq_true rfl)⟩) (fun z14 hG => ?_)
        refine r_istore_n (pc := 70) (L' := [some (.ref (ad 100)), some (.int z8), some (.int z14)]) X dX9_readHand_70 rfl (by decide) rfl rfl ?_
        refine r_join hG (fun a15 => ∀ (h17 : Hp), a15 = h17 → Ev E ad shl p l e rm_X9_readHand s m args below meth c 0 0 Q 3 h17 134 [some (.ref (ad 100)), none, none] []) (fun a15 hG => ?_) (fun j16 Hj16 hG => ?_)
        · skip
          intro h17 ha; have ha := ha.symm; subst ha
          refine r_aload_n (pc := 134) X dX9_readHand_134 rfl rfl ?_
          refine r_dup (pc := 135) X dX9_readHand_135 rfl ?_
          refine r_getI (pc := 136) X (at_X9_o Hb0) rfl mU_X9 (k := 42) (by decide) rfl mF_X9_222 dX9_readHand_136 hG (fun z18 hG => ?_)
          refine r_iconst (pc := 139) X dX9_readHand_139 hG rfl (fun z19 hG => ?_)
          refine r_iadd (pc := 140) X dX9_readHand_140 hG (fun z20 hG => ?_)
          refine r_putI (pc := 141) X (at_X9_o Hb0) rfl mU_X9 (k := 42) (by decide) rfl rfl rfl mF_X9_222 dX9_readHand_141 hG (fun h21 hG => ?_)
          refine r_iconst (pc := 144) X dX9_readHand_144 hG rfl (fun z22 hG => ?_)
          exact r_zretW (pc := 145) X dX9_readHand_145 hQ hG
        refine r_mask [true, true, true] rfl (r_loop (fun q23 => ∀ (y25 : Int32) (h26 : Hp), q23 = (y25.toInt, h26) → Ev E ad shl p l e rm_X9_readHand s m args below meth c 0 0 Q 3 h26 71 [some (.ref (ad 100)), some (.int z8), some (.int y25)] []) (fun l24 Hl24 q23 hG => ?_) FU _ hG z14 h11 rfl)
        intro y25 h26 ha; have ha := ha.symm; subst ha
        unfold g_X9_readHand_l24 at hG
        refine r_iload_n (pc := 71) X dX9_readHand_71 rfl rfl ?_
        refine r_iconst (pc := 72) X dX9_readHand_72 hG rfl (fun z27 hG => ?_)
        refine r_icmp_eq (pc := 73) X dX9_readHand_73 (tgt := 134) (by decide) hG (fun hG => ?_) (fun hG => ?_)
        · skip
          exact r_mask [true, false, false] rfl (Hj16 _ hG h26 rfl)
        · skip
          refine r_aload_n (pc := 76) X dX9_readHand_76 rfl rfl ?_
          refine r_getC (pc := 77) X (at_X9_o Hb0) rfl mU_X9 (k := 44) (by decide) (q := 119) rfl mF_X9_228 dX9_readHand_77 ?_
          refine r_iload_n (pc := 80) X dX9_readHand_80 rfl rfl ?_
          refine r_iald (pc := 81) X (at_X9_acts Hb0) dX9_readHand_81 hG (fun z28 hG => ?_)
          refine r_bipush (pc := 82) X dX9_readHand_82 hG (by decide) (fun z29 hG => ?_)
          refine r_icmp_ne (pc := 84) X dX9_readHand_84 (tgt := 93) (by decide) hG (fun hG => ?_) (fun hG => ?_)
          · skip
            refine r_aload_n (pc := 93) X dX9_readHand_93 rfl rfl ?_
            refine r_iconst (pc := 94) X dX9_readHand_94 hG rfl (fun z30 hG => ?_)
            refine r_bipush (pc := 95) X dX9_readHand_95 hG (by decide) (fun z31 hG => ?_)
            refine r_iload_n (pc := 97) X dX9_readHand_97 rfl rfl ?_
            refine r_imul (pc := 98) X dX9_readHand_98 hG (fun z32 hG => ?_)
            refine r_aload_n (pc := 99) X dX9_readHand_99 rfl rfl ?_
            refine r_getC (pc := 100) X (at_X9_o Hb0) rfl mU_X9 (k := 44) (by decide) (q := 119) rfl mF_X9_228 dX9_readHand_100 ?_
            refine r_iload_n (pc := 103) X dX9_readHand_103 rfl rfl ?_
            refine r_iald (pc := 104) X (at_X9_acts Hb0) dX9_readHand_104 hG (fun z33 hG => ?_)
            refine r_iadd (pc := 105) X dX9_readHand_105 hG (fun z34 hG => ?_)
            refine r_imul (pc := 106) X dX9_readHand_106 hG (fun z35 hG => ?_)
            refine r_iload_n (pc := 107) X dX9_readHand_107 rfl rfl ?_
            refine r_cW (pc := 108) hG (fun _ hg => runV X dX9_readHand_108 (c_X9_readAct Hb0 hg) mM_X9_234 mI_X9_readAct mE_X9_readAct mN_X9 mK_X9_readAct (at_X9_o Hb0) rfl rfl rfl rfl hdd_X9_readAct ⟨(Nat.le_of_ble_eq_true rfl), (Nat.le_of_ble_eq_true rfl)⟩ rfl rfl (Nat.le_of_ble_eq_true rfl) ⟨(Nat.le_of_ble_eq_true rfl), (Nat.le_of_ble_eq_true rfl)⟩) (fun z36 h37 hG => ?_)
            refine r_if_ne (pc := 111) X dX9_readHand_111 (tgt := 116) (by decide) hG (fun hG => ?_) (fun hG => ?_)
            · skip
              refine r_aload_n (pc := 116) X dX9_readHand_116 rfl rfl ?_
              refine r_getC (pc := 117) X (at_X9_o Hb0) rfl mU_X9 (k := 44) (by decide) (q := 119) rfl mF_X9_228 dX9_readHand_117 ?_
              refine r_iload_n (pc := 120) X dX9_readHand_120 rfl rfl ?_
              refine r_dup2 (pc := 121) X dX9_readHand_121 rfl rfl ?_
              refine r_iald (pc := 122) X (at_X9_acts Hb0) dX9_readHand_122 hG (fun z38 hG => ?_)
              refine r_iconst (pc := 123) X dX9_readHand_123 hG rfl (fun z39 hG => ?_)
              refine r_iadd (pc := 124) X dX9_readHand_124 hG (fun z40 hG => ?_)
              refine r_iast (pc := 125) X (at_X9_acts Hb0) dX9_readHand_125 hG (fun h41 hG => ?_)
              refine r_aload_n (pc := 126) X dX9_readHand_126 rfl rfl ?_
              refine r_cP (pc := 127) hG (fun _ hg => runV X dX9_readHand_127 (c_X9_actAt Hb0 hg) mM_X9_231 mI_X9_actAt mE_X9_actAt mN_X9 mK_X9_actAt (at_X9_o Hb0) rfl rfl rfl rfl hdd_X9_actAt ⟨(Nat.le_of_ble_eq_true rfl), (Nat.le_of_ble_eq_true rfl)⟩ rfl rfl (Nat.le_of_ble_eq_true rfl) ⟨(Nat.le_of_ble_eq_true rfl), (Nat.le_of_ble_eq_true rfl)⟩) (fun z42 hG => ?_)
              refine r_istore_n (pc := 130) (L' := [some (.ref (ad 100)), some (.int z8), some (.int z42)]) X dX9_readHand_130 rfl (by decide) rfl rfl ?_
              refine r_goto (pc := 131) X dX9_readHand_131 (tgt := 71) (by decide) ?_
              exact r_mask [true, true, true] rfl (Hl24 _ hG z42 h41 rfl)
            · skip
              refine r_iconst (pc := 114) X dX9_readHand_114 hG rfl (fun z43 hG => ?_)
              exact r_zretW (pc := 115) X dX9_readHand_115 hQ hG
          · skip
            refine r_aload_n (pc := 87) X dX9_readHand_87 rfl rfl ?_
            refine r_iconst (pc := 88) X dX9_readHand_88 hG rfl (fun z44 hG => ?_)
            refine r_cW (pc := 89) hG (fun _ hg => runV X dX9_readHand_89 (c_X9_bad Hb0 hg) mM_X9_49 mI_X9_bad mE_X9_bad mN_X9 mK_X9_bad (at_X9_o Hb0) rfl rfl rfl rfl hdd_X9_bad ⟨(Nat.le_of_ble_eq_true rfl), (Nat.le_of_ble_eq_true rfl)⟩ rfl rfl (Nat.le_of_ble_eq_true rfl) ⟨(Nat.le_of_ble_eq_true rfl), (Nat.le_of_ble_eq_true rfl)⟩) (fun z45 h46 hG => ?_)
            exact r_zretW (pc := 92) X dX9_readHand_92 hQ hG
      · skip
        refine r_aload_n (pc := 60) X dX9_readHand_60 rfl rfl ?_
        refine r_iconst (pc := 61) X dX9_readHand_61 hG rfl (fun z47 hG => ?_)
        refine r_cW (pc := 62) hG (fun _ hg => runV X dX9_readHand_62 (c_X9_bad Hb0 hg) mM_X9_49 mI_X9_bad mE_X9_bad mN_X9 mK_X9_bad (at_X9_o Hb0) rfl rfl rfl rfl hdd_X9_bad ⟨(Nat.le_of_ble_eq_true rfl), (Nat.le_of_ble_eq_true rfl)⟩ rfl rfl (Nat.le_of_ble_eq_true rfl) ⟨(Nat.le_of_ble_eq_true rfl), (Nat.le_of_ble_eq_true rfl)⟩) (fun z48 h49 hG => ?_)
        exact r_zretW (pc := 65) X dX9_readHand_65 hQ hG
    · skip
      refine r_aload_n (pc := 23) X dX9_readHand_23 rfl rfl ?_
      refine r_iconst (pc := 24) X dX9_readHand_24 hG rfl (fun z50 hG => ?_)
      refine r_cW (pc := 25) hG (fun _ hg => runV X dX9_readHand_25 (c_X9_bad Hb0 hg) mM_X9_49 mI_X9_bad mE_X9_bad mN_X9 mK_X9_bad (at_X9_o Hb0) rfl rfl rfl rfl hdd_X9_bad ⟨(Nat.le_of_ble_eq_true rfl), (Nat.le_of_ble_eq_true rfl)⟩ rfl rfl (Nat.le_of_ble_eq_true rfl) ⟨(Nat.le_of_ble_eq_true rfl), (Nat.le_of_ble_eq_true rfl)⟩) (fun z51 h52 hG => ?_)
      exact r_zretW (pc := 28) X dX9_readHand_28 hQ hG
  · skip
    refine r_aload_n (pc := 9) X dX9_readHand_9 rfl rfl ?_
    refine r_iconst (pc := 10) X dX9_readHand_10 hG rfl (fun z53 hG => ?_)
    refine r_cW (pc := 11) hG (fun _ hg => runV X dX9_readHand_11 (c_X9_bad Hb0 hg) mM_X9_49 mI_X9_bad mE_X9_bad mN_X9 mK_X9_bad (at_X9_o Hb0) rfl rfl rfl rfl hdd_X9_bad ⟨(Nat.le_of_ble_eq_true rfl), (Nat.le_of_ble_eq_true rfl)⟩ rfl rfl (Nat.le_of_ble_eq_true rfl) ⟨(Nat.le_of_ble_eq_true rfl), (Nat.le_of_ble_eq_true rfl)⟩) (fun z54 h55 hG => ?_)
    exact r_zretW (pc := 14) X dX9_readHand_14 hQ hG
theorem c_X9_readHand  {r : Int × Hp} (Hb0 : At_X9 shl) (hg : g_X9_readHand h = some r) : Met l yX9_readHand (wsM yX9_readHand cX9_readHand 3 (some .boolean)) rm_X9_readHand (va_Pc [.ref (ad 100)] (World E ad shl h)) (QcI E ad shl r.1 r.2) 0 0 (bsA E) :=
  met_of (L0 := [some (.ref (ad 100)), none, none]) rfl rfl rfl (Nat.le_of_ble_eq_true rfl) (fun _ _ _ _ _ _ _ X => w_X9_readHand Hb0 X rfl hg)
abbrev rm_X9_readPlan : Room := { frames := 7, cells := 0, slots := 0, locals := 150 }
theorem hdd_X9_readPlan : yX9_readPlan.cls = RX9 ∧ yX9_readPlan.cls ≠ "java/lang/invoke/MethodHandle" ∧ yX9_readPlan.cls ≠ "java/lang/invoke/VarHandle" ∧ (parseMethodDescriptor yX9_readPlan.desc).map (fun d => d.parameters.length) = some 0 := ⟨rfl, by decide +kernel, by decide +kernel, by decide +kernel⟩
set_option maxRecDepth 100000 in
set_option maxHeartbeats 4000000 in
theorem w_X9_readPlan  {r : Int × Hp} (Hb0 : At_X9 shl) (X : Cx E p s m args meth c cX9_readPlan RX9 1 (some .boolean)) (hQ : Q = MQ below (QcI E ad shl r.1 r.2) args s 0 0 (bsA E)) (hG : g_X9_readPlan h = some r) : Ev E ad shl p l e rm_X9_readPlan s m args below meth c 0 0 Q 1 h 0 [some (.ref (ad 100))] [] := by
  unfold g_X9_readPlan at hG
  refine r_aload_n (pc := 0) X dX9_readPlan_0 rfl rfl ?_
  refine r_iconst (pc := 1) X dX9_readPlan_1 hG rfl (fun z1 hG => ?_)
  refine r_putI (pc := 2) X (at_X9_o Hb0) rfl mU_X9 (k := 42) (by decide) rfl rfl rfl mF_X9_222 dX9_readPlan_2 hG (fun h2 hG => ?_)
  refine r_join hG (fun a3 => ∀ (h5 : Hp), a3 = h5 → Ev E ad shl p l e rm_X9_readPlan s m args below meth c 0 0 Q 1 h5 26 [none] []) (fun a3 hG => ?_) (fun j4 Hj4 hG => ?_)
  · skip
    intro h5 ha; have ha := ha.symm; subst ha
    refine r_iconst (pc := 26) X dX9_readPlan_26 hG rfl (fun z6 hG => ?_)
    exact r_zretW (pc := 27) X dX9_readPlan_27 hQ hG
  refine r_mask [true] rfl (r_loop (fun q7 => ∀ (h9 : Hp), q7 = h9 → Ev E ad shl p l e rm_X9_readPlan s m args below meth c 0 0 Q 1 h9 5 [some (.ref (ad 100))] []) (fun l8 Hl8 q7 hG => ?_) FU _ hG h2 rfl)
  intro h9 ha; have ha := ha.symm; subst ha
  unfold g_X9_readPlan_l8 at hG
  refine r_aload_n (pc := 5) X dX9_readPlan_5 rfl rfl ?_
  refine r_getI (pc := 6) X (at_X9_o Hb0) rfl mU_X9 (k := 5) (by decide) rfl mF_X9_27 dX9_readPlan_6 hG (fun z10 hG => ?_)
  refine r_if_eq (pc := 9) X dX9_readPlan_9 (tgt := 28) (by decide) hG (fun hG => ?_) (fun hG => ?_)
  · skip
    refine r_iconst (pc := 28) X dX9_readPlan_28 hG rfl (fun z11 hG => ?_)
    exact r_zretW (pc := 29) X dX9_readPlan_29 hQ hG
  · skip
    refine r_aload_n (pc := 12) X dX9_readPlan_12 rfl rfl ?_
    refine r_cW (pc := 13) hG (fun _ hg => runV X dX9_readPlan_13 (c_X9_readHand Hb0 hg) mM_X9_237 mI_X9_readHand mE_X9_readHand mN_X9 mK_X9_readHand (at_X9_o Hb0) rfl rfl rfl rfl hdd_X9_readHand ⟨(Nat.le_of_ble_eq_true rfl), (Nat.le_of_ble_eq_true rfl)⟩ rfl rfl (Nat.le_of_ble_eq_true rfl) ⟨(Nat.le_of_ble_eq_true rfl), (Nat.le_of_ble_eq_true rfl)⟩) (fun z12 h13 hG => ?_)
    refine r_if_eq (pc := 16) X dX9_readPlan_16 (tgt := 26) (by decide) hG (fun hG => ?_) (fun hG => ?_)
    · skip
      exact r_mask [false] rfl (Hj4 _ hG h13 rfl)
    · skip
      refine r_aload_n (pc := 19) X dX9_readPlan_19 rfl rfl ?_
      refine r_cW (pc := 20) hG (fun _ hg => runV X dX9_readPlan_20 (c_X9_close Hb0 hg) mM_X9_159 mI_X9_close mE_X9_close mN_X9 mK_X9_close (at_X9_o Hb0) rfl rfl rfl rfl hdd_X9_close ⟨(Nat.le_of_ble_eq_true rfl), (Nat.le_of_ble_eq_true rfl)⟩ rfl rfl (Nat.le_of_ble_eq_true rfl) ⟨(Nat.le_of_ble_eq_true rfl), (Nat.le_of_ble_eq_true rfl)⟩) (fun z14 h15 hG => ?_)
      refine r_if_ne (pc := 23) X dX9_readPlan_23 (tgt := 5) (by decide) hG (fun hG => ?_) (fun hG => ?_)
      · skip
        exact r_mask [true] rfl (Hl8 _ hG h15 rfl)
      · skip
        exact r_mask [false] rfl (Hj4 _ hG h15 rfl)
theorem c_X9_readPlan  {r : Int × Hp} (Hb0 : At_X9 shl) (hg : g_X9_readPlan h = some r) : Met l yX9_readPlan (wsM yX9_readPlan cX9_readPlan 1 (some .boolean)) rm_X9_readPlan (va_Pc [.ref (ad 100)] (World E ad shl h)) (QcI E ad shl r.1 r.2) 0 0 (bsA E) :=
  met_of (L0 := [some (.ref (ad 100))]) rfl rfl rfl (Nat.le_of_ble_eq_true rfl) (fun _ _ _ _ _ _ _ X => w_X9_readPlan Hb0 X rfl hg)
abbrev rm_X9_putFlag : Room := { frames := 0, cells := 0, slots := 0, locals := 0 }
theorem hdd_X9_putFlag : yX9_putFlag.cls ≠ "java/lang/invoke/MethodHandle" ∧ yX9_putFlag.cls ≠ "java/lang/invoke/VarHandle" ∧ (parseMethodDescriptor yX9_putFlag.desc).map (fun d => d.parameters.length) = some 2 := ⟨by decide +kernel, by decide +kernel, by decide +kernel⟩
set_option maxRecDepth 100000 in
set_option maxHeartbeats 4000000 in
theorem w_X9_putFlag {b1 : Nat} {x2 : Int32} {r : Hp} (Hb1 : shl[b1]? = some (.inr (0, 289, []))) (X : Cx E p s m args meth c cX9_putFlag RX9 3 none) (hQ : Q = MQ below (QcV E ad shl r) args s 0 0 (bsA E)) (hG : g_X9_putFlag b1 x2.toInt h = some r) : Ev E ad shl p l e rm_X9_putFlag s m args below meth c 0 0 Q 3 h 0 [some (.ref (ad b1)), some (.int x2), none] [] := by
  unfold g_X9_putFlag at hG
  refine r_aload_n (pc := 0) X dX9_putFlag_0 rfl rfl ?_
  refine r_sipush (pc := 1) X dX9_putFlag_1 hG (by decide) (fun z1 hG => ?_)
  refine r_iald (pc := 4) X Hb1 dX9_putFlag_4 hG (fun z2 hG => ?_)
  refine r_istore_n (pc := 5) (L' := [some (.ref (ad b1)), some (.int x2), some (.int z2)]) X dX9_putFlag_5 rfl (by decide) rfl rfl ?_
  refine r_aload_n (pc := 6) X dX9_putFlag_6 rfl rfl ?_
  refine r_sipush (pc := 7) X dX9_putFlag_7 hG (by decide) (fun z3 hG => ?_)
  refine r_iload_n (pc := 10) X dX9_putFlag_10 rfl rfl ?_
  refine r_iadd (pc := 11) X dX9_putFlag_11 hG (fun z4 hG => ?_)
  refine r_iload_n (pc := 12) X dX9_putFlag_12 rfl rfl ?_
  refine r_iast (pc := 13) X Hb1 dX9_putFlag_13 hG (fun h5 hG => ?_)
  refine r_aload_n (pc := 14) X dX9_putFlag_14 rfl rfl ?_
  refine r_sipush (pc := 15) X dX9_putFlag_15 hG (by decide) (fun z6 hG => ?_)
  refine r_iload_n (pc := 18) X dX9_putFlag_18 rfl rfl ?_
  refine r_iadd (pc := 19) X dX9_putFlag_19 hG (fun z7 hG => ?_)
  refine r_aload_n (pc := 20) X dX9_putFlag_20 rfl rfl ?_
  refine r_iconst (pc := 21) X dX9_putFlag_21 hG rfl (fun z8 hG => ?_)
  refine r_iload_n (pc := 22) X dX9_putFlag_22 rfl rfl ?_
  refine r_iadd (pc := 23) X dX9_putFlag_23 hG (fun z9 hG => ?_)
  refine r_iald (pc := 24) X Hb1 dX9_putFlag_24 hG (fun z10 hG => ?_)
  refine r_iast (pc := 25) X Hb1 dX9_putFlag_25 hG (fun h11 hG => ?_)
  refine r_aload_n (pc := 26) X dX9_putFlag_26 rfl rfl ?_
  refine r_sipush (pc := 27) X dX9_putFlag_27 hG (by decide) (fun z12 hG => ?_)
  refine r_iload_n (pc := 30) X dX9_putFlag_30 rfl rfl ?_
  refine r_iadd (pc := 31) X dX9_putFlag_31 hG (fun z13 hG => ?_)
  refine r_iconst (pc := 32) X dX9_putFlag_32 hG rfl (fun z14 hG => ?_)
  refine r_iast (pc := 33) X Hb1 dX9_putFlag_33 hG (fun h15 hG => ?_)
  refine r_aload_n (pc := 34) X dX9_putFlag_34 rfl rfl ?_
  refine r_sipush (pc := 35) X dX9_putFlag_35 hG (by decide) (fun z16 hG => ?_)
  refine r_dup2 (pc := 38) X dX9_putFlag_38 rfl rfl ?_
  refine r_iald (pc := 39) X Hb1 dX9_putFlag_39 hG (fun z17 hG => ?_)
  refine r_iconst (pc := 40) X dX9_putFlag_40 hG rfl (fun z18 hG => ?_)
  refine r_iadd (pc := 41) X dX9_putFlag_41 hG (fun z19 hG => ?_)
  refine r_iast (pc := 42) X Hb1 dX9_putFlag_42 hG (fun h20 hG => ?_)
  exact r_vret (pc := 43) X dX9_putFlag_43 hQ hG
theorem c_X9_putFlag {b1 : Nat} {x2 : Int32} {r : Hp} (Hb1 : shl[b1]? = some (.inr (0, 289, []))) (hg : g_X9_putFlag b1 x2.toInt h = some r) : Met l yX9_putFlag (wsM yX9_putFlag cX9_putFlag 3 none) rm_X9_putFlag (va_Pc [.ref (ad b1), .int x2] (World E ad shl h)) (QcV E ad shl r) 0 0 (bsA E) :=
  met_of (L0 := [some (.ref (ad b1)), some (.int x2), none]) rfl rfl rfl (Nat.le_of_ble_eq_true rfl) (fun _ _ _ _ _ _ _ X => w_X9_putFlag Hb1 X rfl hg)
abbrev rm_X9_beginNow : Room := { frames := 1, cells := 0, slots := 0, locals := 22 }
theorem hdd_X9_beginNow : yX9_beginNow.cls = RX9 ∧ yX9_beginNow.cls ≠ "java/lang/invoke/MethodHandle" ∧ yX9_beginNow.cls ≠ "java/lang/invoke/VarHandle" ∧ (parseMethodDescriptor yX9_beginNow.desc).map (fun d => d.parameters.length) = some 0 := ⟨rfl, by decide +kernel, by decide +kernel, by decide +kernel⟩
set_option maxRecDepth 100000 in
set_option maxHeartbeats 4000000 in
theorem w_X9_beginNow  {r : Hp} (Hb0 : At_X9 shl) (X : Cx E p s m args meth c cX9_beginNow RX9 3 none) (hQ : Q = MQ below (QcV E ad shl r) args s 0 0 (bsA E)) (hG : g_X9_beginNow h = some r) : Ev E ad shl p l e rm_X9_beginNow s m args below meth c 0 0 Q 3 h 0 [some (.ref (ad 100)), none, none] [] := by
  unfold g_X9_beginNow at hG
  refine r_aload_n (pc := 0) X dX9_beginNow_0 rfl rfl ?_
  refine r_getC (pc := 1) X (at_X9_o Hb0) rfl mU_X9 (k := 46) (by decide) (q := 121) rfl mF_X9_269 dX9_beginNow_1 ?_
  refine r_sipush (pc := 4) X dX9_beginNow_4 hG (by decide) (fun z1 hG => ?_)
  refine r_iald (pc := 7) X (at_X9_now Hb0) dX9_beginNow_7 hG (fun z2 hG => ?_)
  refine r_istore_n (pc := 8) (L' := [some (.ref (ad 100)), some (.int z2), none]) X dX9_beginNow_8 rfl (by decide) rfl rfl ?_
  refine r_iconst (pc := 9) X dX9_beginNow_9 hG rfl (fun z3 hG => ?_)
  refine r_istore_n (pc := 10) (L' := [some (.ref (ad 100)), some (.int z2), some (.int z3)]) X dX9_beginNow_10 rfl (by decide) rfl rfl ?_
  refine r_join hG (fun a4 => ∀ (h6 : Hp), a4 = h6 → Ev E ad shl p l e rm_X9_beginNow s m args below meth c 0 0 Q 3 h6 31 [some (.ref (ad 100)), some (.int z2), none] []) (fun a4 hG => ?_) (fun j5 Hj5 hG => ?_)
  · skip
    intro h6 ha; have ha := ha.symm; subst ha
    refine r_iconst (pc := 31) X dX9_beginNow_31 hG rfl (fun z7 hG => ?_)
    refine r_istore_n (pc := 32) (L' := [some (.ref (ad 100)), some (.int z2), some (.int z7)]) X dX9_beginNow_32 rfl (by decide) rfl rfl ?_
    refine r_join hG (fun a8 => ∀ (h10 : Hp), a8 = h10 → Ev E ad shl p l e rm_X9_beginNow s m args below meth c 0 0 Q 3 h10 112 [some (.ref (ad 100)), some (.int z2), none] []) (fun a8 hG => ?_) (fun j9 Hj9 hG => ?_)
    · skip
      intro h10 ha; have ha := ha.symm; subst ha
      refine r_iconst (pc := 112) X dX9_beginNow_112 hG rfl (fun z11 hG => ?_)
      refine r_istore_n (pc := 113) (L' := [some (.ref (ad 100)), some (.int z2), some (.int z11)]) X dX9_beginNow_113 rfl (by decide) rfl rfl ?_
      refine r_join hG (fun a12 => ∀ (h14 : Hp), a12 = h14 → Ev E ad shl p l e rm_X9_beginNow s m args below meth c 0 0 Q 3 h14 141 [some (.ref (ad 100)), some (.int z2), none] []) (fun a12 hG => ?_) (fun j13 Hj13 hG => ?_)
      · skip
        intro h14 ha; have ha := ha.symm; subst ha
        refine r_aload_n (pc := 141) X dX9_beginNow_141 rfl rfl ?_
        refine r_getC (pc := 142) X (at_X9_o Hb0) rfl mU_X9 (k := 46) (by decide) (q := 121) rfl mF_X9_269 dX9_beginNow_142 ?_
        refine r_sipush (pc := 145) X dX9_beginNow_145 hG (by decide) (fun z15 hG => ?_)
        refine r_iconst (pc := 148) X dX9_beginNow_148 hG rfl (fun z16 hG => ?_)
        refine r_iast (pc := 149) X (at_X9_now Hb0) dX9_beginNow_149 hG (fun h17 hG => ?_)
        refine r_aload_n (pc := 150) X dX9_beginNow_150 rfl rfl ?_
        refine r_getC (pc := 151) X (at_X9_o Hb0) rfl mU_X9 (k := 46) (by decide) (q := 121) rfl mF_X9_269 dX9_beginNow_151 ?_
        refine r_sipush (pc := 154) X dX9_beginNow_154 hG (by decide) (fun z18 hG => ?_)
        refine r_iload_n (pc := 157) X dX9_beginNow_157 rfl rfl ?_
        refine r_iast (pc := 158) X (at_X9_now Hb0) dX9_beginNow_158 hG (fun h19 hG => ?_)
        exact r_vret (pc := 159) X dX9_beginNow_159 hQ hG
      refine r_mask [true, true, true] rfl (r_loop (fun q20 => ∀ (y22 : Int32) (h23 : Hp), q20 = (y22.toInt, h23) → Ev E ad shl p l e rm_X9_beginNow s m args below meth c 0 0 Q 3 h23 114 [some (.ref (ad 100)), some (.int z2), some (.int y22)] []) (fun l21 Hl21 q20 hG => ?_) FU _ hG z11 h10 rfl)
      intro y22 h23 ha; have ha := ha.symm; subst ha
      unfold g_X9_beginNow_l21 at hG
      refine r_iload_n (pc := 114) X dX9_beginNow_114 rfl rfl ?_
      refine r_aload_n (pc := 115) X dX9_beginNow_115 rfl rfl ?_
      refine r_getI (pc := 116) X (at_X9_o Hb0) rfl mU_X9 (k := 12) (by decide) rfl mF_X9_311 dX9_beginNow_116 hG (fun z24 hG => ?_)
      refine r_icmp_ge (pc := 119) X dX9_beginNow_119 (tgt := 141) (by decide) hG (fun hG => ?_) (fun hG => ?_)
      · skip
        exact r_mask [true, true, false] rfl (Hj13 _ hG h23 rfl)
      · skip
        refine r_aload_n (pc := 122) X dX9_beginNow_122 rfl rfl ?_
        refine r_getC (pc := 123) X (at_X9_o Hb0) rfl mU_X9 (k := 46) (by decide) (q := 121) rfl mF_X9_269 dX9_beginNow_123 ?_
        refine r_aload_n (pc := 126) X dX9_beginNow_126 rfl rfl ?_
        refine r_getC (pc := 127) X (at_X9_o Hb0) rfl mU_X9 (k := 23) (by decide) (q := 106) rfl mF_X9_250 dX9_beginNow_127 ?_
        refine r_iload_n (pc := 130) X dX9_beginNow_130 rfl rfl ?_
        refine r_iald (pc := 131) X (at_X9_flagAt Hb0) dX9_beginNow_131 hG (fun z25 hG => ?_)
        refine r_cV (pc := 132) hG (fun _ hg => runS X dX9_beginNow_132 (c_X9_putFlag (at_X9_now Hb0) hg) mM_X9_314 mS_X9_putFlag mN_X9 mK_X9_putFlag rfl rfl hdd_X9_putFlag ⟨(Nat.le_of_ble_eq_true rfl), (Nat.le_of_ble_eq_true rfl)⟩ rfl rfl (Nat.le_of_ble_eq_true rfl) ⟨(Nat.le_of_ble_eq_true rfl), (Nat.le_of_ble_eq_true rfl)⟩) (fun h26 hG => ?_)
        refine r_iinc (pc := 135) (L' := fun z27 => [some (.ref (ad 100)), some (.int z2), some (.int z27)]) X dX9_beginNow_135 (by decide) rfl rfl (by decide) (fun _ => rfl) hG (fun z27 hG => ?_)
        refine r_goto (pc := 138) X dX9_beginNow_138 (tgt := 114) (by decide) ?_
        exact r_mask [true, true, true] rfl (Hl21 _ hG z27 h26 rfl)
    refine r_mask [true, true, true] rfl (r_loop (fun q28 => ∀ (y30 : Int32) (h31 : Hp), q28 = (y30.toInt, h31) → Ev E ad shl p l e rm_X9_beginNow s m args below meth c 0 0 Q 3 h31 33 [some (.ref (ad 100)), some (.int z2), some (.int y30)] []) (fun l29 Hl29 q28 hG => ?_) FU _ hG z7 h6 rfl)
    intro y30 h31 ha; have ha := ha.symm; subst ha
    unfold g_X9_beginNow_l29 at hG
    refine r_iload_n (pc := 33) X dX9_beginNow_33 rfl rfl ?_
    refine r_aload_n (pc := 34) X dX9_beginNow_34 rfl rfl ?_
    refine r_getI (pc := 35) X (at_X9_o Hb0) rfl mU_X9 (k := 10) (by decide) rfl mF_X9_201 dX9_beginNow_35 hG (fun z32 hG => ?_)
    refine r_aload_n (pc := 38) X dX9_beginNow_38 rfl rfl ?_
    refine r_getI (pc := 39) X (at_X9_o Hb0) rfl mU_X9 (k := 11) (by decide) rfl mF_X9_204 dX9_beginNow_39 hG (fun z33 hG => ?_)
    refine r_imul (pc := 42) X dX9_beginNow_42 hG (fun z34 hG => ?_)
    refine r_icmp_ge (pc := 43) X dX9_beginNow_43 (tgt := 112) (by decide) hG (fun hG => ?_) (fun hG => ?_)
    · skip
      exact r_mask [true, true, false] rfl (Hj9 _ hG h31 rfl)
    · skip
      refine r_aload_n (pc := 46) X dX9_beginNow_46 rfl rfl ?_
      refine r_getC (pc := 47) X (at_X9_o Hb0) rfl mU_X9 (k := 46) (by decide) (q := 121) rfl mF_X9_269 dX9_beginNow_47 ?_
      refine r_iconst (pc := 50) X dX9_beginNow_50 hG rfl (fun z35 hG => ?_)
      refine r_iload_n (pc := 51) X dX9_beginNow_51 rfl rfl ?_
      refine r_iadd (pc := 52) X dX9_beginNow_52 hG (fun z36 hG => ?_)
      refine r_aload_n (pc := 53) X dX9_beginNow_53 rfl rfl ?_
      refine r_getC (pc := 54) X (at_X9_o Hb0) rfl mU_X9 (k := 19) (by decide) (q := 102) rfl mF_X9_245 dX9_beginNow_54 ?_
      refine r_iconst (pc := 57) X dX9_beginNow_57 hG rfl (fun z37 hG => ?_)
      refine r_iald (pc := 58) X (at_X9_law Hb0) dX9_beginNow_58 hG (fun z38 hG => ?_)
      refine r_aload_n (pc := 59) X dX9_beginNow_59 rfl rfl ?_
      refine r_getC (pc := 60) X (at_X9_o Hb0) rfl mU_X9 (k := 21) (by decide) (q := 104) rfl mF_X9_248 dX9_beginNow_60 ?_
      refine r_iload_n (pc := 63) X dX9_beginNow_63 rfl rfl ?_
      refine r_iald (pc := 64) X (at_X9_heap Hb0) dX9_beginNow_64 hG (fun z39 hG => ?_)
      refine r_iadd (pc := 65) X dX9_beginNow_65 hG (fun z40 hG => ?_)
      refine r_iast (pc := 66) X (at_X9_now Hb0) dX9_beginNow_66 hG (fun h41 hG => ?_)
      refine r_aload_n (pc := 67) X dX9_beginNow_67 rfl rfl ?_
      refine r_getC (pc := 68) X (at_X9_o Hb0) rfl mU_X9 (k := 46) (by decide) (q := 121) rfl mF_X9_269 dX9_beginNow_68 ?_
      refine r_bipush (pc := 71) X dX9_beginNow_71 hG (by decide) (fun z42 hG => ?_)
      refine r_iload_n (pc := 73) X dX9_beginNow_73 rfl rfl ?_
      refine r_iadd (pc := 74) X dX9_beginNow_74 hG (fun z43 hG => ?_)
      refine r_aload_n (pc := 75) X dX9_beginNow_75 rfl rfl ?_
      refine r_getC (pc := 76) X (at_X9_o Hb0) rfl mU_X9 (k := 19) (by decide) (q := 102) rfl mF_X9_245 dX9_beginNow_76 ?_
      refine r_iconst (pc := 79) X dX9_beginNow_79 hG rfl (fun z44 hG => ?_)
      refine r_iald (pc := 80) X (at_X9_law Hb0) dX9_beginNow_80 hG (fun z45 hG => ?_)
      refine r_iast (pc := 81) X (at_X9_now Hb0) dX9_beginNow_81 hG (fun h46 hG => ?_)
      refine r_aload_n (pc := 82) X dX9_beginNow_82 rfl rfl ?_
      refine r_getC (pc := 83) X (at_X9_o Hb0) rfl mU_X9 (k := 46) (by decide) (q := 121) rfl mF_X9_269 dX9_beginNow_83 ?_
      refine r_sipush (pc := 86) X dX9_beginNow_86 hG (by decide) (fun z47 hG => ?_)
      refine r_iload_n (pc := 89) X dX9_beginNow_89 rfl rfl ?_
      refine r_iadd (pc := 90) X dX9_beginNow_90 hG (fun z48 hG => ?_)
      refine r_aload_n (pc := 91) X dX9_beginNow_91 rfl rfl ?_
      refine r_getC (pc := 92) X (at_X9_o Hb0) rfl mU_X9 (k := 25) (by decide) (q := 108) rfl mF_X9_253 dX9_beginNow_92 ?_
      refine r_iload_n (pc := 95) X dX9_beginNow_95 rfl rfl ?_
      refine r_zald (pc := 96) X (at_X9_isStone Hb0) dX9_beginNow_96 hG (fun z49 hG => ?_)
      refine r_join hG (fun a50 => ∀ (y52 : Int32), a50 = y52.toInt → Ev E ad shl p l e rm_X9_beginNow s m args below meth c 0 0 Q 3 h46 105 [some (.ref (ad 100)), some (.int z2), some (.int y30)] [.int y52, .int z48, .ref (ad 121)]) (fun a50 hG => ?_) (fun j51 Hj51 hG => ?_)
      · skip
        intro y52 ha; have ha := ha.symm; subst ha
        refine r_iast (pc := 105) X (at_X9_now Hb0) dX9_beginNow_105 hG (fun h53 hG => ?_)
        refine r_iinc (pc := 106) (L' := fun z54 => [some (.ref (ad 100)), some (.int z2), some (.int z54)]) X dX9_beginNow_106 (by decide) rfl rfl (by decide) (fun _ => rfl) hG (fun z54 hG => ?_)
        refine r_goto (pc := 109) X dX9_beginNow_109 (tgt := 33) (by decide) ?_
        exact r_mask [true, true, true] rfl (Hl29 _ hG z54 h53 rfl)
      refine r_if_eq (pc := 97) X dX9_beginNow_97 (tgt := 104) (by decide) hG (fun hG => ?_) (fun hG => ?_)
      · skip
        refine r_iconst (pc := 104) X dX9_beginNow_104 hG rfl (fun z55 hG => ?_)
        exact r_mask [true, true, true] rfl (Hj51 _ hG z55 rfl)
      · skip
        refine r_iconst (pc := 100) X dX9_beginNow_100 hG rfl (fun z56 hG => ?_)
        refine r_goto (pc := 101) X dX9_beginNow_101 (tgt := 105) (by decide) ?_
        exact r_mask [true, true, true] rfl (Hj51 _ hG z56 rfl)
  refine r_mask [true, true, true] rfl (r_loop (fun q57 => ∀ (y59 : Int32) (h60 : Hp), q57 = (y59.toInt, h60) → Ev E ad shl p l e rm_X9_beginNow s m args below meth c 0 0 Q 3 h60 11 [some (.ref (ad 100)), some (.int z2), some (.int y59)] []) (fun l58 Hl58 q57 hG => ?_) FU _ hG z3 h rfl)
  intro y59 h60 ha; have ha := ha.symm; subst ha
  unfold g_X9_beginNow_l58 at hG
  refine r_iload_n (pc := 11) X dX9_beginNow_11 rfl rfl ?_
  refine r_sipush (pc := 12) X dX9_beginNow_12 hG (by decide) (fun z61 hG => ?_)
  refine r_icmp_ge (pc := 15) X dX9_beginNow_15 (tgt := 31) (by decide) hG (fun hG => ?_) (fun hG => ?_)
  · skip
    exact r_mask [true, true, false] rfl (Hj5 _ hG h60 rfl)
  · skip
    refine r_aload_n (pc := 18) X dX9_beginNow_18 rfl rfl ?_
    refine r_getC (pc := 19) X (at_X9_o Hb0) rfl mU_X9 (k := 46) (by decide) (q := 121) rfl mF_X9_269 dX9_beginNow_19 ?_
    refine r_iload_n (pc := 22) X dX9_beginNow_22 rfl rfl ?_
    refine r_iconst (pc := 23) X dX9_beginNow_23 hG rfl (fun z62 hG => ?_)
    refine r_iast (pc := 24) X (at_X9_now Hb0) dX9_beginNow_24 hG (fun h63 hG => ?_)
    refine r_iinc (pc := 25) (L' := fun z64 => [some (.ref (ad 100)), some (.int z2), some (.int z64)]) X dX9_beginNow_25 (by decide) rfl rfl (by decide) (fun _ => rfl) hG (fun z64 hG => ?_)
    refine r_goto (pc := 28) X dX9_beginNow_28 (tgt := 11) (by decide) ?_
    exact r_mask [true, true, true] rfl (Hl58 _ hG z64 h63 rfl)
theorem c_X9_beginNow  {r : Hp} (Hb0 : At_X9 shl) (hg : g_X9_beginNow h = some r) : Met l yX9_beginNow (wsM yX9_beginNow cX9_beginNow 3 none) rm_X9_beginNow (va_Pc [.ref (ad 100)] (World E ad shl h)) (QcV E ad shl r) 0 0 (bsA E) :=
  met_of (L0 := [some (.ref (ad 100)), none, none]) rfl rfl rfl (Nat.le_of_ble_eq_true rfl) (fun _ _ _ _ _ _ _ X => w_X9_beginNow Hb0 X rfl hg)
abbrev rm_X9_putFour : Room := { frames := 0, cells := 0, slots := 0, locals := 0 }
theorem hdd_X9_putFour : yX9_putFour.cls = RX9 ∧ yX9_putFour.cls ≠ "java/lang/invoke/MethodHandle" ∧ yX9_putFour.cls ≠ "java/lang/invoke/VarHandle" ∧ (parseMethodDescriptor yX9_putFour.desc).map (fun d => d.parameters.length) = some 1 := ⟨rfl, by decide +kernel, by decide +kernel, by decide +kernel⟩
set_option maxRecDepth 100000 in
set_option maxHeartbeats 4000000 in
theorem w_X9_putFour {x1 : Int32} {r : Hp} (Hb0 : At_X9 shl) (X : Cx E p s m args meth c cX9_putFour RX9 3 none) (hQ : Q = MQ below (QcV E ad shl r) args s 0 0 (bsA E)) (hG : g_X9_putFour x1.toInt h = some r) : Ev E ad shl p l e rm_X9_putFour s m args below meth c 0 0 Q 3 h 0 [some (.ref (ad 100)), some (.int x1), none] [] := by
  unfold g_X9_putFour at hG
  refine r_bipush (pc := 0) X dX9_putFour_0 hG (by decide) (fun z1 hG => ?_)
  refine r_istore_n (pc := 2) (L' := [some (.ref (ad 100)), some (.int x1), some (.int z1)]) X dX9_putFour_2 rfl (by decide) rfl rfl ?_
  refine r_mask [true, true, true] rfl (r_loop (fun q2 => ∀ (y4 : Int32) (h5 : Hp), q2 = (y4.toInt, h5) → Ev E ad shl p l e rm_X9_putFour s m args below meth c 0 0 Q 3 h5 3 [some (.ref (ad 100)), some (.int x1), some (.int y4)] []) (fun l3 Hl3 q2 hG => ?_) FU _ hG z1 h rfl)
  intro y4 h5 ha; have ha := ha.symm; subst ha
  unfold g_X9_putFour_l3 at hG
  refine r_iload_n (pc := 3) X dX9_putFour_3 rfl rfl ?_
  refine r_if_lt (pc := 4) X dX9_putFour_4 (tgt := 36) (by decide) hG (fun hG => ?_) (fun hG => ?_)
  · skip
    exact r_vret (pc := 36) X dX9_putFour_36 hQ hG
  · skip
    refine r_aload_n (pc := 7) X dX9_putFour_7 rfl rfl ?_
    refine r_getC (pc := 8) X (at_X9_o Hb0) rfl mU_X9 (k := 0) (by decide) (q := 101) rfl mF_X9_16 dX9_putFour_8 ?_
    refine r_aload_n (pc := 11) X dX9_putFour_11 rfl rfl ?_
    refine r_getI (pc := 12) X (at_X9_o Hb0) rfl mU_X9 (k := 1) (by decide) rfl mF_X9_67 dX9_putFour_12 hG (fun z6 hG => ?_)
    refine r_iload_n (pc := 15) X dX9_putFour_15 rfl rfl ?_
    refine r_iload_n (pc := 16) X dX9_putFour_16 rfl rfl ?_
    refine r_ishr (pc := 17) X dX9_putFour_17 hG (fun z7 hG => ?_)
    refine r_i2b (pc := 18) X dX9_putFour_18 hG (fun z8 hG => ?_)
    refine r_bast (pc := 19) X (at_X9_tape Hb0) dX9_putFour_19 hG (fun h9 hG => ?_)
    refine r_aload_n (pc := 20) X dX9_putFour_20 rfl rfl ?_
    refine r_dup (pc := 21) X dX9_putFour_21 rfl ?_
    refine r_getI (pc := 22) X (at_X9_o Hb0) rfl mU_X9 (k := 1) (by decide) rfl mF_X9_67 dX9_putFour_22 hG (fun z10 hG => ?_)
    refine r_iconst (pc := 25) X dX9_putFour_25 hG rfl (fun z11 hG => ?_)
    refine r_iadd (pc := 26) X dX9_putFour_26 hG (fun z12 hG => ?_)
    refine r_putI (pc := 27) X (at_X9_o Hb0) rfl mU_X9 (k := 1) (by decide) rfl rfl rfl mF_X9_67 dX9_putFour_27 hG (fun h13 hG => ?_)
    refine r_iinc (pc := 30) (L' := fun z14 => [some (.ref (ad 100)), some (.int x1), some (.int z14)]) X dX9_putFour_30 (by decide) rfl rfl (by decide) (fun _ => rfl) hG (fun z14 hG => ?_)
    refine r_goto (pc := 33) X dX9_putFour_33 (tgt := 3) (by decide) ?_
    exact r_mask [true, true, true] rfl (Hl3 _ hG z14 h13 rfl)
theorem c_X9_putFour {x1 : Int32} {r : Hp} (Hb0 : At_X9 shl) (hg : g_X9_putFour x1.toInt h = some r) : Met l yX9_putFour (wsM yX9_putFour cX9_putFour 3 none) rm_X9_putFour (va_Pc [.ref (ad 100), .int x1] (World E ad shl h)) (QcV E ad shl r) 0 0 (bsA E) :=
  met_of (L0 := [some (.ref (ad 100)), some (.int x1), none]) rfl rfl rfl (Nat.le_of_ble_eq_true rfl) (fun _ _ _ _ _ _ _ X => w_X9_putFour Hb0 X rfl hg)
abbrev rm_X9_feed : Room := { frames := 1, cells := 0, slots := 0, locals := 22 }
theorem hdd_X9_feed : yX9_feed.cls = RX9 ∧ yX9_feed.cls ≠ "java/lang/invoke/MethodHandle" ∧ yX9_feed.cls ≠ "java/lang/invoke/VarHandle" ∧ (parseMethodDescriptor yX9_feed.desc).map (fun d => d.parameters.length) = some 5 := ⟨rfl, by decide +kernel, by decide +kernel, by decide +kernel⟩
set_option maxRecDepth 100000 in
set_option maxHeartbeats 4000000 in
theorem w_X9_feed {x1 : Int32} {x2 : Int32} {x3 : Int32} {x4 : Int32} {x5 : Int32} {r : Int × Hp} (Hb0 : At_X9 shl) (X : Cx E p s m args meth c cX9_feed RX9 6 (some .int)) (hQ : Q = MQ below (QcI E ad shl r.1 r.2) args s 0 0 (bsA E)) (hG : g_X9_feed x1.toInt x2.toInt x3.toInt x4.toInt x5.toInt h = some r) : Ev E ad shl p l e rm_X9_feed s m args below meth c 0 0 Q 6 h 0 [some (.ref (ad 100)), some (.int x1), some (.int x2), some (.int x3), some (.int x4), some (.int x5)] [] := by
  unfold g_X9_feed at hG
  refine r_aload_n (pc := 0) X dX9_feed_0 rfl rfl ?_
  refine r_getI (pc := 1) X (at_X9_o Hb0) rfl mU_X9 (k := 1) (by decide) rfl mF_X9_67 dX9_feed_1 hG (fun z1 hG => ?_)
  refine r_bipush (pc := 4) X dX9_feed_4 hG (by decide) (fun z2 hG => ?_)
  refine r_iadd (pc := 6) X dX9_feed_6 hG (fun z3 hG => ?_)
  refine r_sipush (pc := 7) X dX9_feed_7 hG (by decide) (fun z4 hG => ?_)
  refine r_icmp_le (pc := 10) X dX9_feed_10 (tgt := 16) (by decide) hG (fun hG => ?_) (fun hG => ?_)
  · skip
    refine r_aload_n (pc := 16) X dX9_feed_16 rfl rfl ?_
    refine r_iload_n (pc := 17) X dX9_feed_17 rfl rfl ?_
    refine r_cV (pc := 18) hG (fun _ hg => runV X dX9_feed_18 (c_X9_putFour Hb0 hg) mM_X9_318 mI_X9_putFour mE_X9_putFour mN_X9 mK_X9_putFour (at_X9_o Hb0) rfl rfl rfl rfl hdd_X9_putFour ⟨(Nat.le_of_ble_eq_true rfl), (Nat.le_of_ble_eq_true rfl)⟩ rfl rfl (Nat.le_of_ble_eq_true rfl) ⟨(Nat.le_of_ble_eq_true rfl), (Nat.le_of_ble_eq_true rfl)⟩) (fun h5 hG => ?_)
    refine r_aload_n (pc := 21) X dX9_feed_21 rfl rfl ?_
    refine r_iload_n (pc := 22) X dX9_feed_22 rfl rfl ?_
    refine r_cV (pc := 23) hG (fun _ hg => runV X dX9_feed_23 (c_X9_putFour Hb0 hg) mM_X9_318 mI_X9_putFour mE_X9_putFour mN_X9 mK_X9_putFour (at_X9_o Hb0) rfl rfl rfl rfl hdd_X9_putFour ⟨(Nat.le_of_ble_eq_true rfl), (Nat.le_of_ble_eq_true rfl)⟩ rfl rfl (Nat.le_of_ble_eq_true rfl) ⟨(Nat.le_of_ble_eq_true rfl), (Nat.le_of_ble_eq_true rfl)⟩) (fun h6 hG => ?_)
    refine r_aload_n (pc := 26) X dX9_feed_26 rfl rfl ?_
    refine r_iload_n (pc := 27) X dX9_feed_27 rfl rfl ?_
    refine r_cV (pc := 28) hG (fun _ hg => runV X dX9_feed_28 (c_X9_putFour Hb0 hg) mM_X9_318 mI_X9_putFour mE_X9_putFour mN_X9 mK_X9_putFour (at_X9_o Hb0) rfl rfl rfl rfl hdd_X9_putFour ⟨(Nat.le_of_ble_eq_true rfl), (Nat.le_of_ble_eq_true rfl)⟩ rfl rfl (Nat.le_of_ble_eq_true rfl) ⟨(Nat.le_of_ble_eq_true rfl), (Nat.le_of_ble_eq_true rfl)⟩) (fun h7 hG => ?_)
    refine r_aload_n (pc := 31) X dX9_feed_31 rfl rfl ?_
    refine r_iload (pc := 32) X dX9_feed_32 rfl ?_
    refine r_cV (pc := 34) hG (fun _ hg => runV X dX9_feed_34 (c_X9_putFour Hb0 hg) mM_X9_318 mI_X9_putFour mE_X9_putFour mN_X9 mK_X9_putFour (at_X9_o Hb0) rfl rfl rfl rfl hdd_X9_putFour ⟨(Nat.le_of_ble_eq_true rfl), (Nat.le_of_ble_eq_true rfl)⟩ rfl rfl (Nat.le_of_ble_eq_true rfl) ⟨(Nat.le_of_ble_eq_true rfl), (Nat.le_of_ble_eq_true rfl)⟩) (fun h8 hG => ?_)
    refine r_aload_n (pc := 37) X dX9_feed_37 rfl rfl ?_
    refine r_iload (pc := 38) X dX9_feed_38 rfl ?_
    refine r_cV (pc := 40) hG (fun _ hg => runV X dX9_feed_40 (c_X9_putFour Hb0 hg) mM_X9_318 mI_X9_putFour mE_X9_putFour mN_X9 mK_X9_putFour (at_X9_o Hb0) rfl rfl rfl rfl hdd_X9_putFour ⟨(Nat.le_of_ble_eq_true rfl), (Nat.le_of_ble_eq_true rfl)⟩ rfl rfl (Nat.le_of_ble_eq_true rfl) ⟨(Nat.le_of_ble_eq_true rfl), (Nat.le_of_ble_eq_true rfl)⟩) (fun h9 hG => ?_)
    refine r_aload_n (pc := 43) X dX9_feed_43 rfl rfl ?_
    refine r_getI (pc := 44) X (at_X9_o Hb0) rfl mU_X9 (k := 1) (by decide) rfl mF_X9_67 dX9_feed_44 hG (fun z10 hG => ?_)
    exact r_iretW (pc := 47) X dX9_feed_47 hQ hG
  · skip
    refine r_bipush (pc := 13) X dX9_feed_13 hG (by decide) (fun z11 hG => ?_)
    exact r_iretW (pc := 15) X dX9_feed_15 hQ hG
theorem c_X9_feed {x1 : Int32} {x2 : Int32} {x3 : Int32} {x4 : Int32} {x5 : Int32} {r : Int × Hp} (Hb0 : At_X9 shl) (hg : g_X9_feed x1.toInt x2.toInt x3.toInt x4.toInt x5.toInt h = some r) : Met l yX9_feed (wsM yX9_feed cX9_feed 6 (some .int)) rm_X9_feed (va_Pc [.ref (ad 100), .int x1, .int x2, .int x3, .int x4, .int x5] (World E ad shl h)) (QcI E ad shl r.1 r.2) 0 0 (bsA E) :=
  met_of (L0 := [some (.ref (ad 100)), some (.int x1), some (.int x2), some (.int x3), some (.int x4), some (.int x5)]) rfl rfl rfl (Nat.le_of_ble_eq_true rfl) (fun _ _ _ _ _ _ _ X => w_X9_feed Hb0 X rfl hg)
abbrev rm_X9_end : Room := { frames := 1, cells := 0, slots := 0, locals := 25 }
theorem hdd_X9_end : yX9_end.cls = RX9 ∧ yX9_end.cls ≠ "java/lang/invoke/MethodHandle" ∧ yX9_end.cls ≠ "java/lang/invoke/VarHandle" ∧ (parseMethodDescriptor yX9_end.desc).map (fun d => d.parameters.length) = some 1 := ⟨rfl, by decide +kernel, by decide +kernel, by decide +kernel⟩
set_option maxRecDepth 100000 in
set_option maxHeartbeats 4000000 in
theorem w_X9_end {x1 : Int32} {r : Int × Hp} (Hb0 : At_X9 shl) (X : Cx E p s m args meth c cX9_end RX9 2 (some .int)) (hQ : Q = MQ below (QcI E ad shl r.1 r.2) args s 0 0 (bsA E)) (hG : g_X9_end x1.toInt h = some r) : Ev E ad shl p l e rm_X9_end s m args below meth c 0 0 Q 2 h 0 [some (.ref (ad 100)), some (.int x1)] [] := by
  unfold g_X9_end at hG
  refine r_iload_n (pc := 0) X dX9_end_0 rfl rfl ?_
  refine r_i2l (pc := 1) X dX9_end_1 hG (fun z1 hG => ?_)
  refine r_lconst (pc := 2) X dX9_end_2 hG (by decide) (fun z2 hG => ?_)
  refine r_aload_n (pc := 3) X dX9_end_3 rfl rfl ?_
  refine r_getI (pc := 4) X (at_X9_o Hb0) rfl mU_X9 (k := 1) (by decide) rfl mF_X9_67 dX9_end_4 hG (fun z3 hG => ?_)
  refine r_i2l (pc := 7) X dX9_end_7 hG (fun z4 hG => ?_)
  refine r_cP (pc := 8) hG (fun _ hg => runS X dX9_end_8 (c_X9_in  hg) mM_X9_52 mS_X9_in mN_X9 mK_X9_in rfl rfl hdd_X9_in ⟨(Nat.le_of_ble_eq_true rfl), (Nat.le_of_ble_eq_true rfl)⟩ rfl rfl (Nat.le_of_ble_eq_true rfl) ⟨(Nat.le_of_ble_eq_true rfl), (Nat.le_of_ble_eq_true rfl)⟩) (fun z5 hG => ?_)
  refine r_if_ne (pc := 11) X dX9_end_11 (tgt := 16) (by decide) hG (fun hG => ?_) (fun hG => ?_)
  · skip
    refine r_aload_n (pc := 16) X dX9_end_16 rfl rfl ?_
    refine r_iload_n (pc := 17) X dX9_end_17 rfl rfl ?_
    refine r_putI (pc := 18) X (at_X9_o Hb0) rfl mU_X9 (k := 1) (by decide) rfl rfl rfl mF_X9_67 dX9_end_18 hG (fun h6 hG => ?_)
    refine r_iload_n (pc := 21) X dX9_end_21 rfl rfl ?_
    exact r_iretW (pc := 22) X dX9_end_22 hQ hG
  · skip
    refine r_iconst (pc := 14) X dX9_end_14 hG rfl (fun z7 hG => ?_)
    exact r_iretW (pc := 15) X dX9_end_15 hQ hG
theorem c_X9_end {x1 : Int32} {r : Int × Hp} (Hb0 : At_X9 shl) (hg : g_X9_end x1.toInt h = some r) : Met l yX9_end (wsM yX9_end cX9_end 2 (some .int)) rm_X9_end (va_Pc [.ref (ad 100), .int x1] (World E ad shl h)) (QcI E ad shl r.1 r.2) 0 0 (bsA E) :=
  met_of (L0 := [some (.ref (ad 100)), some (.int x1)]) rfl rfl rfl (Nat.le_of_ble_eq_true rfl) (fun _ _ _ _ _ _ _ X => w_X9_end Hb0 X rfl hg)
abbrev rm_X9_beach : Room := { frames := 8, cells := 0, slots := 0, locals := 171 }
theorem hdd_X9_beach : yX9_beach.cls = RX9 ∧ yX9_beach.cls ≠ "java/lang/invoke/MethodHandle" ∧ yX9_beach.cls ≠ "java/lang/invoke/VarHandle" ∧ (parseMethodDescriptor yX9_beach.desc).map (fun d => d.parameters.length) = some 0 := ⟨rfl, by decide +kernel, by decide +kernel, by decide +kernel⟩
set_option maxRecDepth 100000 in
set_option maxHeartbeats 4000000 in
theorem w_X9_beach  {r : Int × Hp} (Hb0 : At_X9 shl) (X : Cx E p s m args meth c cX9_beach RX9 2 (some .int)) (hQ : Q = MQ below (QcI E ad shl r.1 r.2) args s 0 0 (bsA E)) (hG : g_X9_beach h = some r) : Ev E ad shl p l e rm_X9_beach s m args below meth c 0 0 Q 2 h 0 [some (.ref (ad 100)), none] [] := by
  unfold g_X9_beach at hG
  refine r_aload_n (pc := 0) X dX9_beach_0 rfl rfl ?_
  refine r_cV (pc := 1) hG (fun _ hg => runV X dX9_beach_1 (c_X9_open Hb0 hg) mM_X9_322 mI_X9_open mE_X9_open mN_X9 mK_X9_open (at_X9_o Hb0) rfl rfl rfl rfl hdd_X9_open ⟨(Nat.le_of_ble_eq_true rfl), (Nat.le_of_ble_eq_true rfl)⟩ rfl rfl (Nat.le_of_ble_eq_true rfl) ⟨(Nat.le_of_ble_eq_true rfl), (Nat.le_of_ble_eq_true rfl)⟩) (fun h1 hG => ?_)
  refine r_aload_n (pc := 4) X dX9_beach_4 rfl rfl ?_
  refine r_cW (pc := 5) hG (fun _ hg => runV X dX9_beach_5 (c_X9_readBeach Hb0 hg) mM_X9_325 mI_X9_readBeach mE_X9_readBeach mN_X9 mK_X9_readBeach (at_X9_o Hb0) rfl rfl rfl rfl hdd_X9_readBeach ⟨(Nat.le_of_ble_eq_true rfl), (Nat.le_of_ble_eq_true rfl)⟩ rfl rfl (Nat.le_of_ble_eq_true rfl) ⟨(Nat.le_of_ble_eq_true rfl), (Nat.le_of_ble_eq_true rfl)⟩) (fun z2 h3 hG => ?_)
  refine r_if_ne (pc := 8) X dX9_beach_8 (tgt := 13) (by decide) hG (fun hG => ?_) (fun hG => ?_)
  · skip
    refine r_aload_n (pc := 13) X dX9_beach_13 rfl rfl ?_
    refine r_aload_n (pc := 14) X dX9_beach_14 rfl rfl ?_
    refine r_getI (pc := 15) X (at_X9_o Hb0) rfl mU_X9 (k := 14) (by decide) rfl mF_X9_73 dX9_beach_15 hG (fun z4 hG => ?_)
    refine r_putI (pc := 18) X (at_X9_o Hb0) rfl mU_X9 (k := 10) (by decide) rfl rfl rfl mF_X9_201 dX9_beach_18 hG (fun h5 hG => ?_)
    refine r_aload_n (pc := 21) X dX9_beach_21 rfl rfl ?_
    refine r_aload_n (pc := 22) X dX9_beach_22 rfl rfl ?_
    refine r_getI (pc := 23) X (at_X9_o Hb0) rfl mU_X9 (k := 15) (by decide) rfl mF_X9_76 dX9_beach_23 hG (fun z6 hG => ?_)
    refine r_putI (pc := 26) X (at_X9_o Hb0) rfl mU_X9 (k := 11) (by decide) rfl rfl rfl mF_X9_204 dX9_beach_26 hG (fun h7 hG => ?_)
    refine r_aload_n (pc := 29) X dX9_beach_29 rfl rfl ?_
    refine r_aload_n (pc := 30) X dX9_beach_30 rfl rfl ?_
    refine r_getI (pc := 31) X (at_X9_o Hb0) rfl mU_X9 (k := 16) (by decide) rfl mF_X9_95 dX9_beach_31 hG (fun z8 hG => ?_)
    refine r_putI (pc := 34) X (at_X9_o Hb0) rfl mU_X9 (k := 12) (by decide) rfl rfl rfl mF_X9_311 dX9_beach_34 hG (fun h9 hG => ?_)
    refine r_aload_n (pc := 37) X dX9_beach_37 rfl rfl ?_
    refine r_aload_n (pc := 38) X dX9_beach_38 rfl rfl ?_
    refine r_getI (pc := 39) X (at_X9_o Hb0) rfl mU_X9 (k := 17) (by decide) rfl mF_X9_131 dX9_beach_39 hG (fun z10 hG => ?_)
    refine r_putI (pc := 42) X (at_X9_o Hb0) rfl mU_X9 (k := 13) (by decide) rfl rfl rfl mF_X9_328 dX9_beach_42 hG (fun h11 hG => ?_)
    refine r_iconst (pc := 45) X dX9_beach_45 hG rfl (fun z12 hG => ?_)
    refine r_istore_n (pc := 46) (L' := [some (.ref (ad 100)), some (.int z12)]) X dX9_beach_46 rfl (by decide) rfl rfl ?_
    refine r_join hG (fun a13 => ∀ (h15 : Hp), a13 = h15 → Ev E ad shl p l e rm_X9_beach s m args below meth c 0 0 Q 2 h15 71 [some (.ref (ad 100)), none] []) (fun a13 hG => ?_) (fun j14 Hj14 hG => ?_)
    · skip
      intro h15 ha; have ha := ha.symm; subst ha
      refine r_iconst (pc := 71) X dX9_beach_71 hG rfl (fun z16 hG => ?_)
      refine r_istore_n (pc := 72) (L' := [some (.ref (ad 100)), some (.int z16)]) X dX9_beach_72 rfl (by decide) rfl rfl ?_
      refine r_join hG (fun a17 => ∀ (h19 : Hp), a17 = h19 → Ev E ad shl p l e rm_X9_beach s m args below meth c 0 0 Q 2 h19 109 [some (.ref (ad 100)), none] []) (fun a17 hG => ?_) (fun j18 Hj18 hG => ?_)
      · skip
        intro h19 ha; have ha := ha.symm; subst ha
        refine r_iconst (pc := 109) X dX9_beach_109 hG rfl (fun z20 hG => ?_)
        refine r_istore_n (pc := 110) (L' := [some (.ref (ad 100)), some (.int z20)]) X dX9_beach_110 rfl (by decide) rfl rfl ?_
        refine r_join hG (fun a21 => ∀ (h23 : Hp), a21 = h23 → Ev E ad shl p l e rm_X9_beach s m args below meth c 0 0 Q 2 h23 137 [some (.ref (ad 100)), none] []) (fun a21 hG => ?_) (fun j22 Hj22 hG => ?_)
        · skip
          intro h23 ha; have ha := ha.symm; subst ha
          refine r_aload_n (pc := 137) X dX9_beach_137 rfl rfl ?_
          refine r_iconst (pc := 138) X dX9_beach_138 hG rfl (fun z24 hG => ?_)
          refine r_putI (pc := 139) X (at_X9_o Hb0) rfl mU_X9 (k := 41) (by decide) rfl rfl rfl mF_X9_225 dX9_beach_139 hG (fun h25 hG => ?_)
          refine r_iconst (pc := 142) X dX9_beach_142 hG rfl (fun z26 hG => ?_)
          refine r_istore_n (pc := 143) (L' := [some (.ref (ad 100)), some (.int z26)]) X dX9_beach_143 rfl (by decide) rfl rfl ?_
          refine r_mask [true, true] rfl (r_loop (fun q27 => ∀ (y29 : Int32) (h30 : Hp), q27 = (y29.toInt, h30) → Ev E ad shl p l e rm_X9_beach s m args below meth c 0 0 Q 2 h30 144 [some (.ref (ad 100)), some (.int y29)] []) (fun l28 Hl28 q27 hG => ?_) FU _ hG z26 h25 rfl)
          intro y29 h30 ha; have ha := ha.symm; subst ha
          unfold g_X9_beach_l28 at hG
          refine r_iload_n (pc := 144) X dX9_beach_144 rfl rfl ?_
          refine r_iconst (pc := 145) X dX9_beach_145 hG rfl (fun z31 hG => ?_)
          refine r_icmp_ge (pc := 146) X dX9_beach_146 (tgt := 162) (by decide) hG (fun hG => ?_) (fun hG => ?_)
          · skip
            refine r_aload_n (pc := 162) X dX9_beach_162 rfl rfl ?_
            refine r_cV (pc := 163) hG (fun _ hg => runV X dX9_beach_163 (c_X9_beginNow Hb0 hg) mM_X9_308 mI_X9_beginNow mE_X9_beginNow mN_X9 mK_X9_beginNow (at_X9_o Hb0) rfl rfl rfl rfl hdd_X9_beginNow ⟨(Nat.le_of_ble_eq_true rfl), (Nat.le_of_ble_eq_true rfl)⟩ rfl rfl (Nat.le_of_ble_eq_true rfl) ⟨(Nat.le_of_ble_eq_true rfl), (Nat.le_of_ble_eq_true rfl)⟩) (fun h32 hG => ?_)
            refine r_aload_n (pc := 166) X dX9_beach_166 rfl rfl ?_
            refine r_getI (pc := 167) X (at_X9_o Hb0) rfl mU_X9 (k := 13) (by decide) rfl mF_X9_328 dX9_beach_167 hG (fun z33 hG => ?_)
            exact r_iretW (pc := 170) X dX9_beach_170 hQ hG
          · skip
            refine r_aload_n (pc := 149) X dX9_beach_149 rfl rfl ?_
            refine r_getC (pc := 150) X (at_X9_o Hb0) rfl mU_X9 (k := 49) (by decide) (q := 124) rfl mF_X9_278 dX9_beach_150 ?_
            refine r_iload_n (pc := 153) X dX9_beach_153 rfl rfl ?_
            refine r_iconst (pc := 154) X dX9_beach_154 hG rfl (fun z34 hG => ?_)
            refine r_zast (pc := 155) X (at_X9_isKept Hb0) dX9_beach_155 hG (fun h35 hG => ?_)
            refine r_iinc (pc := 156) (L' := fun z36 => [some (.ref (ad 100)), some (.int z36)]) X dX9_beach_156 (by decide) rfl rfl (by decide) (fun _ => rfl) hG (fun z36 hG => ?_)
            refine r_goto (pc := 159) X dX9_beach_159 (tgt := 144) (by decide) ?_
            exact r_mask [true, true] rfl (Hl28 _ hG z36 h35 rfl)
        refine r_mask [true, true] rfl (r_loop (fun q37 => ∀ (y39 : Int32) (h40 : Hp), q37 = (y39.toInt, h40) → Ev E ad shl p l e rm_X9_beach s m args below meth c 0 0 Q 2 h40 111 [some (.ref (ad 100)), some (.int y39)] []) (fun l38 Hl38 q37 hG => ?_) FU _ hG z20 h19 rfl)
        intro y39 h40 ha; have ha := ha.symm; subst ha
        unfold g_X9_beach_l38 at hG
        refine r_iload_n (pc := 111) X dX9_beach_111 rfl rfl ?_
        refine r_aload_n (pc := 112) X dX9_beach_112 rfl rfl ?_
        refine r_getI (pc := 113) X (at_X9_o Hb0) rfl mU_X9 (k := 12) (by decide) rfl mF_X9_311 dX9_beach_113 hG (fun z41 hG => ?_)
        refine r_icmp_ge (pc := 116) X dX9_beach_116 (tgt := 137) (by decide) hG (fun hG => ?_) (fun hG => ?_)
        · skip
          exact r_mask [true, false] rfl (Hj22 _ hG h40 rfl)
        · skip
          refine r_aload_n (pc := 119) X dX9_beach_119 rfl rfl ?_
          refine r_getC (pc := 120) X (at_X9_o Hb0) rfl mU_X9 (k := 23) (by decide) (q := 106) rfl mF_X9_250 dX9_beach_120 ?_
          refine r_iload_n (pc := 123) X dX9_beach_123 rfl rfl ?_
          refine r_aload_n (pc := 124) X dX9_beach_124 rfl rfl ?_
          refine r_getC (pc := 125) X (at_X9_o Hb0) rfl mU_X9 (k := 24) (by decide) (q := 107) rfl mF_X9_98 dX9_beach_125 ?_
          refine r_iload_n (pc := 128) X dX9_beach_128 rfl rfl ?_
          refine r_iald (pc := 129) X (at_X9_readFlagAt Hb0) dX9_beach_129 hG (fun z42 hG => ?_)
          refine r_iast (pc := 130) X (at_X9_flagAt Hb0) dX9_beach_130 hG (fun h43 hG => ?_)
          refine r_iinc (pc := 131) (L' := fun z44 => [some (.ref (ad 100)), some (.int z44)]) X dX9_beach_131 (by decide) rfl rfl (by decide) (fun _ => rfl) hG (fun z44 hG => ?_)
          refine r_goto (pc := 134) X dX9_beach_134 (tgt := 111) (by decide) ?_
          exact r_mask [true, true] rfl (Hl38 _ hG z44 h43 rfl)
      refine r_mask [true, true] rfl (r_loop (fun q45 => ∀ (y47 : Int32) (h48 : Hp), q45 = (y47.toInt, h48) → Ev E ad shl p l e rm_X9_beach s m args below meth c 0 0 Q 2 h48 73 [some (.ref (ad 100)), some (.int y47)] []) (fun l46 Hl46 q45 hG => ?_) FU _ hG z16 h15 rfl)
      intro y47 h48 ha; have ha := ha.symm; subst ha
      unfold g_X9_beach_l46 at hG
      refine r_iload_n (pc := 73) X dX9_beach_73 rfl rfl ?_
      refine r_bipush (pc := 74) X dX9_beach_74 hG (by decide) (fun z49 hG => ?_)
      refine r_icmp_ge (pc := 76) X dX9_beach_76 (tgt := 109) (by decide) hG (fun hG => ?_) (fun hG => ?_)
      · skip
        exact r_mask [true, false] rfl (Hj18 _ hG h48 rfl)
      · skip
        refine r_aload_n (pc := 79) X dX9_beach_79 rfl rfl ?_
        refine r_getC (pc := 80) X (at_X9_o Hb0) rfl mU_X9 (k := 21) (by decide) (q := 104) rfl mF_X9_248 dX9_beach_80 ?_
        refine r_iload_n (pc := 83) X dX9_beach_83 rfl rfl ?_
        refine r_aload_n (pc := 84) X dX9_beach_84 rfl rfl ?_
        refine r_getC (pc := 85) X (at_X9_o Hb0) rfl mU_X9 (k := 22) (by decide) (q := 105) rfl mF_X9_83 dX9_beach_85 ?_
        refine r_iload_n (pc := 88) X dX9_beach_88 rfl rfl ?_
        refine r_iald (pc := 89) X (at_X9_readHeap Hb0) dX9_beach_89 hG (fun z50 hG => ?_)
        refine r_iast (pc := 90) X (at_X9_heap Hb0) dX9_beach_90 hG (fun h51 hG => ?_)
        refine r_aload_n (pc := 91) X dX9_beach_91 rfl rfl ?_
        refine r_getC (pc := 92) X (at_X9_o Hb0) rfl mU_X9 (k := 25) (by decide) (q := 108) rfl mF_X9_253 dX9_beach_92 ?_
        refine r_iload_n (pc := 95) X dX9_beach_95 rfl rfl ?_
        refine r_aload_n (pc := 96) X dX9_beach_96 rfl rfl ?_
        refine r_getC (pc := 97) X (at_X9_o Hb0) rfl mU_X9 (k := 26) (by decide) (q := 109) rfl mF_X9_91 dX9_beach_97 ?_
        refine r_iload_n (pc := 100) X dX9_beach_100 rfl rfl ?_
        refine r_zald (pc := 101) X (at_X9_readStone Hb0) dX9_beach_101 hG (fun z52 hG => ?_)
        refine r_zast (pc := 102) X (at_X9_isStone Hb0) dX9_beach_102 hG (fun h53 hG => ?_)
        refine r_iinc (pc := 103) (L' := fun z54 => [some (.ref (ad 100)), some (.int z54)]) X dX9_beach_103 (by decide) rfl rfl (by decide) (fun _ => rfl) hG (fun z54 hG => ?_)
        refine r_goto (pc := 106) X dX9_beach_106 (tgt := 73) (by decide) ?_
        exact r_mask [true, true] rfl (Hl46 _ hG z54 h53 rfl)
    refine r_mask [true, true] rfl (r_loop (fun q55 => ∀ (y57 : Int32) (h58 : Hp), q55 = (y57.toInt, h58) → Ev E ad shl p l e rm_X9_beach s m args below meth c 0 0 Q 2 h58 47 [some (.ref (ad 100)), some (.int y57)] []) (fun l56 Hl56 q55 hG => ?_) FU _ hG z12 h11 rfl)
    intro y57 h58 ha; have ha := ha.symm; subst ha
    unfold g_X9_beach_l56 at hG
    refine r_iload_n (pc := 47) X dX9_beach_47 rfl rfl ?_
    refine r_bipush (pc := 48) X dX9_beach_48 hG (by decide) (fun z59 hG => ?_)
    refine r_icmp_ge (pc := 50) X dX9_beach_50 (tgt := 71) (by decide) hG (fun hG => ?_) (fun hG => ?_)
    · skip
      exact r_mask [true, false] rfl (Hj14 _ hG h58 rfl)
    · skip
      refine r_aload_n (pc := 53) X dX9_beach_53 rfl rfl ?_
      refine r_getC (pc := 54) X (at_X9_o Hb0) rfl mU_X9 (k := 19) (by decide) (q := 102) rfl mF_X9_245 dX9_beach_54 ?_
      refine r_iload_n (pc := 57) X dX9_beach_57 rfl rfl ?_
      refine r_aload_n (pc := 58) X dX9_beach_58 rfl rfl ?_
      refine r_getC (pc := 59) X (at_X9_o Hb0) rfl mU_X9 (k := 20) (by decide) (q := 103) rfl mF_X9_128 dX9_beach_59 ?_
      refine r_iload_n (pc := 62) X dX9_beach_62 rfl rfl ?_
      refine r_iald (pc := 63) X (at_X9_readLaw Hb0) dX9_beach_63 hG (fun z60 hG => ?_)
      refine r_iast (pc := 64) X (at_X9_law Hb0) dX9_beach_64 hG (fun h61 hG => ?_)
      refine r_iinc (pc := 65) (L' := fun z62 => [some (.ref (ad 100)), some (.int z62)]) X dX9_beach_65 (by decide) rfl rfl (by decide) (fun _ => rfl) hG (fun z62 hG => ?_)
      refine r_goto (pc := 68) X dX9_beach_68 (tgt := 47) (by decide) ?_
      exact r_mask [true, true] rfl (Hl56 _ hG z62 h61 rfl)
  · skip
    refine r_iconst (pc := 11) X dX9_beach_11 hG rfl (fun z63 hG => ?_)
    exact r_iretW (pc := 12) X dX9_beach_12 hQ hG
theorem c_X9_beach  {r : Int × Hp} (Hb0 : At_X9 shl) (hg : g_X9_beach h = some r) : Met l yX9_beach (wsM yX9_beach cX9_beach 2 (some .int)) rm_X9_beach (va_Pc [.ref (ad 100)] (World E ad shl h)) (QcI E ad shl r.1 r.2) 0 0 (bsA E) :=
  met_of (L0 := [some (.ref (ad 100)), none]) rfl rfl rfl (Nat.le_of_ble_eq_true rfl) (fun _ _ _ _ _ _ _ X => w_X9_beach Hb0 X rfl hg)
abbrev rm_X9_sea : Room := { frames := 7, cells := 0, slots := 0, locals := 150 }
theorem hdd_X9_sea : yX9_sea.cls = RX9 ∧ yX9_sea.cls ≠ "java/lang/invoke/MethodHandle" ∧ yX9_sea.cls ≠ "java/lang/invoke/VarHandle" ∧ (parseMethodDescriptor yX9_sea.desc).map (fun d => d.parameters.length) = some 0 := ⟨rfl, by decide +kernel, by decide +kernel, by decide +kernel⟩
set_option maxRecDepth 100000 in
set_option maxHeartbeats 4000000 in
theorem w_X9_sea  {r : Int × Hp} (Hb0 : At_X9 shl) (X : Cx E p s m args meth c cX9_sea RX9 2 (some .int)) (hQ : Q = MQ below (QcI E ad shl r.1 r.2) args s 0 0 (bsA E)) (hG : g_X9_sea h = some r) : Ev E ad shl p l e rm_X9_sea s m args below meth c 0 0 Q 2 h 0 [some (.ref (ad 100)), none] [] := by
  unfold g_X9_sea at hG
  refine r_aload_n (pc := 0) X dX9_sea_0 rfl rfl ?_
  refine r_cV (pc := 1) hG (fun _ hg => runV X dX9_sea_1 (c_X9_open Hb0 hg) mM_X9_322 mI_X9_open mE_X9_open mN_X9 mK_X9_open (at_X9_o Hb0) rfl rfl rfl rfl hdd_X9_open ⟨(Nat.le_of_ble_eq_true rfl), (Nat.le_of_ble_eq_true rfl)⟩ rfl rfl (Nat.le_of_ble_eq_true rfl) ⟨(Nat.le_of_ble_eq_true rfl), (Nat.le_of_ble_eq_true rfl)⟩) (fun h1 hG => ?_)
  refine r_aload_n (pc := 4) X dX9_sea_4 rfl rfl ?_
  refine r_cW (pc := 5) hG (fun _ hg => runV X dX9_sea_5 (c_X9_readSea Hb0 hg) mM_X9_331 mI_X9_readSea mE_X9_readSea mN_X9 mK_X9_readSea (at_X9_o Hb0) rfl rfl rfl rfl hdd_X9_readSea ⟨(Nat.le_of_ble_eq_true rfl), (Nat.le_of_ble_eq_true rfl)⟩ rfl rfl (Nat.le_of_ble_eq_true rfl) ⟨(Nat.le_of_ble_eq_true rfl), (Nat.le_of_ble_eq_true rfl)⟩) (fun z2 h3 hG => ?_)
  refine r_if_ne (pc := 8) X dX9_sea_8 (tgt := 13) (by decide) hG (fun hG => ?_) (fun hG => ?_)
  · skip
    refine r_aload_n (pc := 13) X dX9_sea_13 rfl rfl ?_
    refine r_aload_n (pc := 14) X dX9_sea_14 rfl rfl ?_
    refine r_getI (pc := 15) X (at_X9_o Hb0) rfl mU_X9 (k := 30) (by decide) rfl mF_X9_162 dX9_sea_15 hG (fun z4 hG => ?_)
    refine r_putI (pc := 18) X (at_X9_o Hb0) rfl mU_X9 (k := 28) (by decide) rfl rfl rfl mF_X9_334 dX9_sea_18 hG (fun h5 hG => ?_)
    refine r_aload_n (pc := 21) X dX9_sea_21 rfl rfl ?_
    refine r_aload_n (pc := 22) X dX9_sea_22 rfl rfl ?_
    refine r_getI (pc := 23) X (at_X9_o Hb0) rfl mU_X9 (k := 17) (by decide) rfl mF_X9_131 dX9_sea_23 hG (fun z6 hG => ?_)
    refine r_putI (pc := 26) X (at_X9_o Hb0) rfl mU_X9 (k := 29) (by decide) rfl rfl rfl mF_X9_337 dX9_sea_26 hG (fun h7 hG => ?_)
    refine r_iconst (pc := 29) X dX9_sea_29 hG rfl (fun z8 hG => ?_)
    refine r_istore_n (pc := 30) (L' := [some (.ref (ad 100)), some (.int z8)]) X dX9_sea_30 rfl (by decide) rfl rfl ?_
    refine r_join hG (fun a9 => ∀ (h11 : Hp), a9 = h11 → Ev E ad shl p l e rm_X9_sea s m args below meth c 0 0 Q 2 h11 59 [some (.ref (ad 100)), none] []) (fun a9 hG => ?_) (fun j10 Hj10 hG => ?_)
    · skip
      intro h11 ha; have ha := ha.symm; subst ha
      refine r_iconst (pc := 59) X dX9_sea_59 hG rfl (fun z12 hG => ?_)
      refine r_istore_n (pc := 60) (L' := [some (.ref (ad 100)), some (.int z12)]) X dX9_sea_60 rfl (by decide) rfl rfl ?_
      refine r_join hG (fun a13 => ∀ (h15 : Hp), a13 = h15 → Ev E ad shl p l e rm_X9_sea s m args below meth c 0 0 Q 2 h15 84 [some (.ref (ad 100)), none] []) (fun a13 hG => ?_) (fun j14 Hj14 hG => ?_)
      · skip
        intro h15 ha; have ha := ha.symm; subst ha
        refine r_iconst (pc := 84) X dX9_sea_84 hG rfl (fun z16 hG => ?_)
        refine r_istore_n (pc := 85) (L' := [some (.ref (ad 100)), some (.int z16)]) X dX9_sea_85 rfl (by decide) rfl rfl ?_
        refine r_join hG (fun a17 => ∀ (h19 : Hp), a17 = h19 → Ev E ad shl p l e rm_X9_sea s m args below meth c 0 0 Q 2 h19 121 [some (.ref (ad 100)), none] []) (fun a17 hG => ?_) (fun j18 Hj18 hG => ?_)
        · skip
          intro h19 ha; have ha := ha.symm; subst ha
          refine r_aload_n (pc := 121) X dX9_sea_121 rfl rfl ?_
          refine r_aload_n (pc := 122) X dX9_sea_122 rfl rfl ?_
          refine r_getI (pc := 123) X (at_X9_o Hb0) rfl mU_X9 (k := 40) (by decide) rfl mF_X9_191 dX9_sea_123 hG (fun z20 hG => ?_)
          refine r_putI (pc := 126) X (at_X9_o Hb0) rfl mU_X9 (k := 39) (by decide) rfl rfl rfl mF_X9_264 dX9_sea_126 hG (fun h21 hG => ?_)
          refine r_aload_n (pc := 129) X dX9_sea_129 rfl rfl ?_
          refine r_getI (pc := 130) X (at_X9_o Hb0) rfl mU_X9 (k := 29) (by decide) rfl mF_X9_337 dX9_sea_130 hG (fun z22 hG => ?_)
          exact r_iretW (pc := 133) X dX9_sea_133 hQ hG
        refine r_mask [true, true] rfl (r_loop (fun q23 => ∀ (y25 : Int32) (h26 : Hp), q23 = (y25.toInt, h26) → Ev E ad shl p l e rm_X9_sea s m args below meth c 0 0 Q 2 h26 86 [some (.ref (ad 100)), some (.int y25)] []) (fun l24 Hl24 q23 hG => ?_) FU _ hG z16 h15 rfl)
        intro y25 h26 ha; have ha := ha.symm; subst ha
        unfold g_X9_sea_l24 at hG
        refine r_iload_n (pc := 86) X dX9_sea_86 rfl rfl ?_
        refine r_iconst (pc := 87) X dX9_sea_87 hG rfl (fun z27 hG => ?_)
        refine r_icmp_ge (pc := 88) X dX9_sea_88 (tgt := 121) (by decide) hG (fun hG => ?_) (fun hG => ?_)
        · skip
          exact r_mask [true, false] rfl (Hj18 _ hG h26 rfl)
        · skip
          refine r_aload_n (pc := 91) X dX9_sea_91 rfl rfl ?_
          refine r_getC (pc := 92) X (at_X9_o Hb0) rfl mU_X9 (k := 35) (by decide) (q := 114) rfl mF_X9_260 dX9_sea_92 ?_
          refine r_iload_n (pc := 95) X dX9_sea_95 rfl rfl ?_
          refine r_aload_n (pc := 96) X dX9_sea_96 rfl rfl ?_
          refine r_getC (pc := 97) X (at_X9_o Hb0) rfl mU_X9 (k := 37) (by decide) (q := 116) rfl mF_X9_181 dX9_sea_97 ?_
          refine r_iload_n (pc := 100) X dX9_sea_100 rfl rfl ?_
          refine r_iald (pc := 101) X (at_X9_readReach Hb0) dX9_sea_101 hG (fun z28 hG => ?_)
          refine r_iast (pc := 102) X (at_X9_reach Hb0) dX9_sea_102 hG (fun h29 hG => ?_)
          refine r_aload_n (pc := 103) X dX9_sea_103 rfl rfl ?_
          refine r_getC (pc := 104) X (at_X9_o Hb0) rfl mU_X9 (k := 36) (by decide) (q := 115) rfl mF_X9_262 dX9_sea_104 ?_
          refine r_iload_n (pc := 107) X dX9_sea_107 rfl rfl ?_
          refine r_aload_n (pc := 108) X dX9_sea_108 rfl rfl ?_
          refine r_getC (pc := 109) X (at_X9_o Hb0) rfl mU_X9 (k := 38) (by decide) (q := 117) rfl mF_X9_188 dX9_sea_109 ?_
          refine r_iload_n (pc := 112) X dX9_sea_112 rfl rfl ?_
          refine r_iald (pc := 113) X (at_X9_readLevel Hb0) dX9_sea_113 hG (fun z30 hG => ?_)
          refine r_iast (pc := 114) X (at_X9_level Hb0) dX9_sea_114 hG (fun h31 hG => ?_)
          refine r_iinc (pc := 115) (L' := fun z32 => [some (.ref (ad 100)), some (.int z32)]) X dX9_sea_115 (by decide) rfl rfl (by decide) (fun _ => rfl) hG (fun z32 hG => ?_)
          refine r_goto (pc := 118) X dX9_sea_118 (tgt := 86) (by decide) ?_
          exact r_mask [true, true] rfl (Hl24 _ hG z32 h31 rfl)
      refine r_mask [true, true] rfl (r_loop (fun q33 => ∀ (y35 : Int32) (h36 : Hp), q33 = (y35.toInt, h36) → Ev E ad shl p l e rm_X9_sea s m args below meth c 0 0 Q 2 h36 61 [some (.ref (ad 100)), some (.int y35)] []) (fun l34 Hl34 q33 hG => ?_) FU _ hG z12 h11 rfl)
      intro y35 h36 ha; have ha := ha.symm; subst ha
      unfold g_X9_sea_l34 at hG
      refine r_iload_n (pc := 61) X dX9_sea_61 rfl rfl ?_
      refine r_iconst (pc := 62) X dX9_sea_62 hG rfl (fun z37 hG => ?_)
      refine r_icmp_ge (pc := 63) X dX9_sea_63 (tgt := 84) (by decide) hG (fun hG => ?_) (fun hG => ?_)
      · skip
        exact r_mask [true, false] rfl (Hj14 _ hG h36 rfl)
      · skip
        refine r_aload_n (pc := 66) X dX9_sea_66 rfl rfl ?_
        refine r_getC (pc := 67) X (at_X9_o Hb0) rfl mU_X9 (k := 33) (by decide) (q := 112) rfl mF_X9_258 dX9_sea_67 ?_
        refine r_iload_n (pc := 70) X dX9_sea_70 rfl rfl ?_
        refine r_aload_n (pc := 71) X dX9_sea_71 rfl rfl ?_
        refine r_getC (pc := 72) X (at_X9_o Hb0) rfl mU_X9 (k := 34) (by decide) (q := 113) rfl mF_X9_168 dX9_sea_72 ?_
        refine r_iload_n (pc := 75) X dX9_sea_75 rfl rfl ?_
        refine r_iald (pc := 76) X (at_X9_readTide Hb0) dX9_sea_76 hG (fun z38 hG => ?_)
        refine r_iast (pc := 77) X (at_X9_tide Hb0) dX9_sea_77 hG (fun h39 hG => ?_)
        refine r_iinc (pc := 78) (L' := fun z40 => [some (.ref (ad 100)), some (.int z40)]) X dX9_sea_78 (by decide) rfl rfl (by decide) (fun _ => rfl) hG (fun z40 hG => ?_)
        refine r_goto (pc := 81) X dX9_sea_81 (tgt := 61) (by decide) ?_
        exact r_mask [true, true] rfl (Hl34 _ hG z40 h39 rfl)
    refine r_mask [true, true] rfl (r_loop (fun q41 => ∀ (y43 : Int32) (h44 : Hp), q41 = (y43.toInt, h44) → Ev E ad shl p l e rm_X9_sea s m args below meth c 0 0 Q 2 h44 31 [some (.ref (ad 100)), some (.int y43)] []) (fun l42 Hl42 q41 hG => ?_) FU _ hG z8 h7 rfl)
    intro y43 h44 ha; have ha := ha.symm; subst ha
    unfold g_X9_sea_l42 at hG
    refine r_iload_n (pc := 31) X dX9_sea_31 rfl rfl ?_
    refine r_iconst (pc := 32) X dX9_sea_32 hG rfl (fun z45 hG => ?_)
    refine r_aload_n (pc := 33) X dX9_sea_33 rfl rfl ?_
    refine r_getI (pc := 34) X (at_X9_o Hb0) rfl mU_X9 (k := 28) (by decide) rfl mF_X9_334 dX9_sea_34 hG (fun z46 hG => ?_)
    refine r_imul (pc := 37) X dX9_sea_37 hG (fun z47 hG => ?_)
    refine r_icmp_ge (pc := 38) X dX9_sea_38 (tgt := 59) (by decide) hG (fun hG => ?_) (fun hG => ?_)
    · skip
      exact r_mask [true, false] rfl (Hj10 _ hG h44 rfl)
    · skip
      refine r_aload_n (pc := 41) X dX9_sea_41 rfl rfl ?_
      refine r_getC (pc := 42) X (at_X9_o Hb0) rfl mU_X9 (k := 31) (by decide) (q := 110) rfl mF_X9_256 dX9_sea_42 ?_
      refine r_iload_n (pc := 45) X dX9_sea_45 rfl rfl ?_
      refine r_aload_n (pc := 46) X dX9_sea_46 rfl rfl ?_
      refine r_getC (pc := 47) X (at_X9_o Hb0) rfl mU_X9 (k := 32) (by decide) (q := 111) rfl mF_X9_165 dX9_sea_47 ?_
      refine r_iload_n (pc := 50) X dX9_sea_50 rfl rfl ?_
      refine r_iald (pc := 51) X (at_X9_readWave Hb0) dX9_sea_51 hG (fun z48 hG => ?_)
      refine r_iast (pc := 52) X (at_X9_wave Hb0) dX9_sea_52 hG (fun h49 hG => ?_)
      refine r_iinc (pc := 53) (L' := fun z50 => [some (.ref (ad 100)), some (.int z50)]) X dX9_sea_53 (by decide) rfl rfl (by decide) (fun _ => rfl) hG (fun z50 hG => ?_)
      refine r_goto (pc := 56) X dX9_sea_56 (tgt := 31) (by decide) ?_
      exact r_mask [true, true] rfl (Hl42 _ hG z50 h49 rfl)
  · skip
    refine r_iconst (pc := 11) X dX9_sea_11 hG rfl (fun z51 hG => ?_)
    exact r_iretW (pc := 12) X dX9_sea_12 hQ hG
theorem c_X9_sea  {r : Int × Hp} (Hb0 : At_X9 shl) (hg : g_X9_sea h = some r) : Met l yX9_sea (wsM yX9_sea cX9_sea 2 (some .int)) rm_X9_sea (va_Pc [.ref (ad 100)] (World E ad shl h)) (QcI E ad shl r.1 r.2) 0 0 (bsA E) :=
  met_of (L0 := [some (.ref (ad 100)), none]) rfl rfl rfl (Nat.le_of_ble_eq_true rfl) (fun _ _ _ _ _ _ _ X => w_X9_sea Hb0 X rfl hg)
abbrev rm_X9_plan : Room := { frames := 8, cells := 0, slots := 0, locals := 170 }
theorem hdd_X9_plan : yX9_plan.cls = RX9 ∧ yX9_plan.cls ≠ "java/lang/invoke/MethodHandle" ∧ yX9_plan.cls ≠ "java/lang/invoke/VarHandle" ∧ (parseMethodDescriptor yX9_plan.desc).map (fun d => d.parameters.length) = some 0 := ⟨rfl, by decide +kernel, by decide +kernel, by decide +kernel⟩
set_option maxRecDepth 100000 in
set_option maxHeartbeats 4000000 in
theorem w_X9_plan  {r : Int × Hp} (Hb0 : At_X9 shl) (X : Cx E p s m args meth c cX9_plan RX9 1 (some .int)) (hQ : Q = MQ below (QcI E ad shl r.1 r.2) args s 0 0 (bsA E)) (hG : g_X9_plan h = some r) : Ev E ad shl p l e rm_X9_plan s m args below meth c 0 0 Q 1 h 0 [some (.ref (ad 100))] [] := by
  unfold g_X9_plan at hG
  refine r_aload_n (pc := 0) X dX9_plan_0 rfl rfl ?_
  refine r_getI (pc := 1) X (at_X9_o Hb0) rfl mU_X9 (k := 41) (by decide) rfl mF_X9_225 dX9_plan_1 hG (fun z1 hG => ?_)
  refine r_iconst (pc := 4) X dX9_plan_4 hG rfl (fun z2 hG => ?_)
  refine r_icmp_ne (pc := 5) X dX9_plan_5 (tgt := 16) (by decide) hG (fun hG => ?_) (fun hG => ?_)
  · skip
    refine r_aload_n (pc := 16) X dX9_plan_16 rfl rfl ?_
    refine r_cV (pc := 17) hG (fun _ hg => runV X dX9_plan_17 (c_X9_open Hb0 hg) mM_X9_322 mI_X9_open mE_X9_open mN_X9 mK_X9_open (at_X9_o Hb0) rfl rfl rfl rfl hdd_X9_open ⟨(Nat.le_of_ble_eq_true rfl), (Nat.le_of_ble_eq_true rfl)⟩ rfl rfl (Nat.le_of_ble_eq_true rfl) ⟨(Nat.le_of_ble_eq_true rfl), (Nat.le_of_ble_eq_true rfl)⟩) (fun h3 hG => ?_)
    refine r_aload_n (pc := 20) X dX9_plan_20 rfl rfl ?_
    refine r_cW (pc := 21) hG (fun _ hg => runV X dX9_plan_21 (c_X9_readPlan Hb0 hg) mM_X9_340 mI_X9_readPlan mE_X9_readPlan mN_X9 mK_X9_readPlan (at_X9_o Hb0) rfl rfl rfl rfl hdd_X9_readPlan ⟨(Nat.le_of_ble_eq_true rfl), (Nat.le_of_ble_eq_true rfl)⟩ rfl rfl (Nat.le_of_ble_eq_true rfl) ⟨(Nat.le_of_ble_eq_true rfl), (Nat.le_of_ble_eq_true rfl)⟩) (fun z4 h5 hG => ?_)
    refine r_if_ne (pc := 24) X dX9_plan_24 (tgt := 29) (by decide) hG (fun hG => ?_) (fun hG => ?_)
    · skip
      refine r_aload_n (pc := 29) X dX9_plan_29 rfl rfl ?_
      refine r_getC (pc := 30) X (at_X9_o Hb0) rfl mU_X9 (k := 43) (by decide) (q := 118) rfl mF_X9_266 dX9_plan_30 ?_
      refine r_aload_n (pc := 33) X dX9_plan_33 rfl rfl ?_
      refine r_getI (pc := 34) X (at_X9_o Hb0) rfl mU_X9 (k := 41) (by decide) rfl mF_X9_225 dX9_plan_34 hG (fun z6 hG => ?_)
      refine r_aload_n (pc := 37) X dX9_plan_37 rfl rfl ?_
      refine r_getI (pc := 38) X (at_X9_o Hb0) rfl mU_X9 (k := 42) (by decide) rfl mF_X9_222 dX9_plan_38 hG (fun z7 hG => ?_)
      refine r_iast (pc := 41) X (at_X9_hands Hb0) dX9_plan_41 hG (fun h8 hG => ?_)
      refine r_aload_n (pc := 42) X dX9_plan_42 rfl rfl ?_
      refine r_dup (pc := 43) X dX9_plan_43 rfl ?_
      refine r_getI (pc := 44) X (at_X9_o Hb0) rfl mU_X9 (k := 41) (by decide) rfl mF_X9_225 dX9_plan_44 hG (fun z9 hG => ?_)
      refine r_iconst (pc := 47) X dX9_plan_47 hG rfl (fun z10 hG => ?_)
      refine r_iadd (pc := 48) X dX9_plan_48 hG (fun z11 hG => ?_)
      refine r_putI (pc := 49) X (at_X9_o Hb0) rfl mU_X9 (k := 41) (by decide) rfl rfl rfl mF_X9_225 dX9_plan_49 hG (fun h12 hG => ?_)
      refine r_aload_n (pc := 52) X dX9_plan_52 rfl rfl ?_
      refine r_getI (pc := 53) X (at_X9_o Hb0) rfl mU_X9 (k := 41) (by decide) rfl mF_X9_225 dX9_plan_53 hG (fun z13 hG => ?_)
      refine r_iconst (pc := 56) X dX9_plan_56 hG rfl (fun z14 hG => ?_)
      refine r_isub (pc := 57) X dX9_plan_57 hG (fun z15 hG => ?_)
      exact r_iretW (pc := 58) X dX9_plan_58 hQ hG
    · skip
      refine r_iconst (pc := 27) X dX9_plan_27 hG rfl (fun z16 hG => ?_)
      exact r_iretW (pc := 28) X dX9_plan_28 hQ hG
  · skip
    refine r_aload_n (pc := 8) X dX9_plan_8 rfl rfl ?_
    refine r_iconst (pc := 9) X dX9_plan_9 hG rfl (fun z17 hG => ?_)
    refine r_putI (pc := 10) X (at_X9_o Hb0) rfl mU_X9 (k := 1) (by decide) rfl rfl rfl mF_X9_67 dX9_plan_10 hG (fun h18 hG => ?_)
    refine r_bipush (pc := 13) X dX9_plan_13 hG (by decide) (fun z19 hG => ?_)
    exact r_iretW (pc := 15) X dX9_plan_15 hQ hG
theorem c_X9_plan  {r : Int × Hp} (Hb0 : At_X9 shl) (hg : g_X9_plan h = some r) : Met l yX9_plan (wsM yX9_plan cX9_plan 1 (some .int)) rm_X9_plan (va_Pc [.ref (ad 100)] (World E ad shl h)) (QcI E ad shl r.1 r.2) 0 0 (bsA E) :=
  met_of (L0 := [some (.ref (ad 100))]) rfl rfl rfl (Nat.le_of_ble_eq_true rfl) (fun _ _ _ _ _ _ _ X => w_X9_plan Hb0 X rfl hg)
abbrev rm_X9_fault : Room := { frames := 0, cells := 0, slots := 0, locals := 0 }
theorem hdd_X9_fault : yX9_fault.cls = RX9 ∧ yX9_fault.cls ≠ "java/lang/invoke/MethodHandle" ∧ yX9_fault.cls ≠ "java/lang/invoke/VarHandle" ∧ (parseMethodDescriptor yX9_fault.desc).map (fun d => d.parameters.length) = some 1 := ⟨rfl, by decide +kernel, by decide +kernel, by decide +kernel⟩
set_option maxRecDepth 100000 in
set_option maxHeartbeats 4000000 in
theorem w_X9_fault {x1 : Int32} {r : Int} (Hb0 : At_X9 shl) (X : Cx E p s m args meth c cX9_fault RX9 2 (some .int)) (hQ : Q = MQ below (QcI E ad shl r h) args s 0 0 (bsA E)) (hG : g_X9_fault x1.toInt h = some r) : Ev E ad shl p l e rm_X9_fault s m args below meth c 0 0 Q 2 h 0 [some (.ref (ad 100)), some (.int x1)] [] := by
  unfold g_X9_fault at hG
  refine r_iload_n (pc := 0) X dX9_fault_0 rfl rfl ?_
  refine r_join hG (fun a1 => ∀ (y3 : Int32), a1 = y3.toInt → Ev E ad shl p l e rm_X9_fault s m args below meth c 0 0 Q 2 h 24 [none, none] [.int y3]) (fun a1 hG => ?_) (fun j2 Hj2 hG => ?_)
  · skip
    intro y3 ha; have ha := ha.symm; subst ha
    exact r_iretP (pc := 24) X dX9_fault_24 hQ hG
  refine r_if_ne (pc := 1) X dX9_fault_1 (tgt := 11) (by decide) hG (fun hG => ?_) (fun hG => ?_)
  · skip
    refine r_iload_n (pc := 11) X dX9_fault_11 rfl rfl ?_
    refine r_iconst (pc := 12) X dX9_fault_12 hG rfl (fun z4 hG => ?_)
    refine r_icmp_ne (pc := 13) X dX9_fault_13 (tgt := 23) (by decide) hG (fun hG => ?_) (fun hG => ?_)
    · skip
      refine r_iconst (pc := 23) X dX9_fault_23 hG rfl (fun z5 hG => ?_)
      exact r_mask [false, false] rfl (Hj2 _ hG z5 rfl)
    · skip
      refine r_aload_n (pc := 16) X dX9_fault_16 rfl rfl ?_
      refine r_getI (pc := 17) X (at_X9_o Hb0) rfl mU_X9 (k := 9) (by decide) rfl mF_X9_10 dX9_fault_17 hG (fun z6 hG => ?_)
      refine r_goto (pc := 20) X dX9_fault_20 (tgt := 24) (by decide) ?_
      exact r_mask [false, false] rfl (Hj2 _ hG z6 rfl)
  · skip
    refine r_aload_n (pc := 4) X dX9_fault_4 rfl rfl ?_
    refine r_getI (pc := 5) X (at_X9_o Hb0) rfl mU_X9 (k := 8) (by decide) rfl mF_X9_1 dX9_fault_5 hG (fun z7 hG => ?_)
    refine r_goto (pc := 8) X dX9_fault_8 (tgt := 24) (by decide) ?_
    exact r_mask [false, false] rfl (Hj2 _ hG z7 rfl)
theorem c_X9_fault {x1 : Int32} {r : Int} (Hb0 : At_X9 shl) (hg : g_X9_fault x1.toInt h = some r) : Met l yX9_fault (wsM yX9_fault cX9_fault 2 (some .int)) rm_X9_fault (va_Pc [.ref (ad 100), .int x1] (World E ad shl h)) (QcI E ad shl r h) 0 0 (bsA E) :=
  met_of (L0 := [some (.ref (ad 100)), some (.int x1)]) rfl rfl rfl (Nat.le_of_ble_eq_true rfl) (fun _ _ _ _ _ _ _ X => w_X9_fault Hb0 X rfl hg)
abbrev rm_X9_told : Room := { frames := 1, cells := 0, slots := 0, locals := 25 }
theorem hdd_X9_told : yX9_told.cls = RX9 ∧ yX9_told.cls ≠ "java/lang/invoke/MethodHandle" ∧ yX9_told.cls ≠ "java/lang/invoke/VarHandle" ∧ (parseMethodDescriptor yX9_told.desc).map (fun d => d.parameters.length) = some 1 := ⟨rfl, by decide +kernel, by decide +kernel, by decide +kernel⟩
set_option maxRecDepth 100000 in
set_option maxHeartbeats 4000000 in
theorem w_X9_told {x1 : Int32} {r : Int} (Hb0 : At_X9 shl) (X : Cx E p s m args meth c cX9_told RX9 2 (some .int)) (hQ : Q = MQ below (QcI E ad shl r h) args s 0 0 (bsA E)) (hG : g_X9_told x1.toInt h = some r) : Ev E ad shl p l e rm_X9_told s m args below meth c 0 0 Q 2 h 0 [some (.ref (ad 100)), some (.int x1)] [] := by
  unfold g_X9_told at hG
  refine r_iload_n (pc := 0) X dX9_told_0 rfl rfl ?_
  refine r_i2l (pc := 1) X dX9_told_1 hG (fun z1 hG => ?_)
  refine r_ldc2 (pc := 2) X dX9_told_2 mW_X9_343 hG (by decide) (fun z2 hG => ?_)
  refine r_ldc2 (pc := 5) X dX9_told_5 mW_X9_345 hG (by decide) (fun z3 hG => ?_)
  refine r_cP (pc := 8) hG (fun _ hg => runS X dX9_told_8 (c_X9_in  hg) mM_X9_52 mS_X9_in mN_X9 mK_X9_in rfl rfl hdd_X9_in ⟨(Nat.le_of_ble_eq_true rfl), (Nat.le_of_ble_eq_true rfl)⟩ rfl rfl (Nat.le_of_ble_eq_true rfl) ⟨(Nat.le_of_ble_eq_true rfl), (Nat.le_of_ble_eq_true rfl)⟩) (fun z4 hG => ?_)
  refine r_if_eq (pc := 11) X dX9_told_11 (tgt := 23) (by decide) hG (fun hG => ?_) (fun hG => ?_)
  · skip
    refine r_iload_n (pc := 23) X dX9_told_23 rfl rfl ?_
    refine r_i2l (pc := 24) X dX9_told_24 hG (fun z5 hG => ?_)
    refine r_ldc2 (pc := 25) X dX9_told_25 mW_X9_347 hG (by decide) (fun z6 hG => ?_)
    refine r_ldc2 (pc := 28) X dX9_told_28 mW_X9_349 hG (by decide) (fun z7 hG => ?_)
    refine r_cP (pc := 31) hG (fun _ hg => runS X dX9_told_31 (c_X9_in  hg) mM_X9_52 mS_X9_in mN_X9 mK_X9_in rfl rfl hdd_X9_in ⟨(Nat.le_of_ble_eq_true rfl), (Nat.le_of_ble_eq_true rfl)⟩ rfl rfl (Nat.le_of_ble_eq_true rfl) ⟨(Nat.le_of_ble_eq_true rfl), (Nat.le_of_ble_eq_true rfl)⟩) (fun z8 hG => ?_)
    refine r_if_eq (pc := 34) X dX9_told_34 (tgt := 47) (by decide) hG (fun hG => ?_) (fun hG => ?_)
    · skip
      refine r_iload_n (pc := 47) X dX9_told_47 rfl rfl ?_
      refine r_join hG (fun _ => Ev E ad shl p l e rm_X9_told s m args below meth c 0 0 Q 2 h 227 [none, none] []) (fun a9 hG => ?_) (fun j10 Hj10 hG => ?_)
      · skip
        refine r_iconst (pc := 227) X dX9_told_227 hG rfl (fun z11 hG => ?_)
        exact r_iretP (pc := 228) X dX9_told_228 hQ hG
      refine r_ite hG (fun e12 hG => ?_) (fun e12 hG => ?_)
      · refine r_tsIn (pc := 48) X dX9_told_48 e12 (by decide) (by decide) rfl (tgt := 160) (by decide) ?_
        refine r_aload_n (pc := 160) X dX9_told_160 rfl rfl ?_
        refine r_getI (pc := 161) X (at_X9_o Hb0) rfl mU_X9 (k := 10) (by decide) rfl mF_X9_201 dX9_told_161 hG (fun z13 hG => ?_)
        exact r_iretP (pc := 164) X dX9_told_164 hQ hG
      refine r_ite hG (fun e14 hG => ?_) (fun e14 hG => ?_)
      · refine r_tsIn (pc := 48) X dX9_told_48 e14 (by decide) (by decide) rfl (tgt := 165) (by decide) ?_
        refine r_aload_n (pc := 165) X dX9_told_165 rfl rfl ?_
        refine r_getI (pc := 166) X (at_X9_o Hb0) rfl mU_X9 (k := 11) (by decide) rfl mF_X9_204 dX9_told_166 hG (fun z15 hG => ?_)
        exact r_iretP (pc := 169) X dX9_told_169 hQ hG
      refine r_ite hG (fun e16 hG => ?_) (fun e16 hG => ?_)
      · refine r_tsIn (pc := 48) X dX9_told_48 e16 (by decide) (by decide) rfl (tgt := 227) (by decide) ?_
        exact r_mask [false, false] rfl (Hj10 _ hG)
      refine r_ite hG (fun e17 hG => ?_) (fun e17 hG => ?_)
      · refine r_tsIn (pc := 48) X dX9_told_48 e17 (by decide) (by decide) rfl (tgt := 227) (by decide) ?_
        exact r_mask [false, false] rfl (Hj10 _ hG)
      refine r_ite hG (fun e18 hG => ?_) (fun e18 hG => ?_)
      · refine r_tsIn (pc := 48) X dX9_told_48 e18 (by decide) (by decide) rfl (tgt := 227) (by decide) ?_
        exact r_mask [false, false] rfl (Hj10 _ hG)
      refine r_ite hG (fun e19 hG => ?_) (fun e19 hG => ?_)
      · refine r_tsIn (pc := 48) X dX9_told_48 e19 (by decide) (by decide) rfl (tgt := 227) (by decide) ?_
        exact r_mask [false, false] rfl (Hj10 _ hG)
      refine r_ite hG (fun e20 hG => ?_) (fun e20 hG => ?_)
      · refine r_tsIn (pc := 48) X dX9_told_48 e20 (by decide) (by decide) rfl (tgt := 227) (by decide) ?_
        exact r_mask [false, false] rfl (Hj10 _ hG)
      refine r_ite hG (fun e21 hG => ?_) (fun e21 hG => ?_)
      · refine r_tsIn (pc := 48) X dX9_told_48 e21 (by decide) (by decide) rfl (tgt := 227) (by decide) ?_
        exact r_mask [false, false] rfl (Hj10 _ hG)
      refine r_ite hG (fun e22 hG => ?_) (fun e22 hG => ?_)
      · refine r_tsIn (pc := 48) X dX9_told_48 e22 (by decide) (by decide) rfl (tgt := 227) (by decide) ?_
        exact r_mask [false, false] rfl (Hj10 _ hG)
      refine r_ite hG (fun e23 hG => ?_) (fun e23 hG => ?_)
      · refine r_tsIn (pc := 48) X dX9_told_48 e23 (by decide) (by decide) rfl (tgt := 227) (by decide) ?_
        exact r_mask [false, false] rfl (Hj10 _ hG)
      refine r_ite hG (fun e24 hG => ?_) (fun e24 hG => ?_)
      · refine r_tsIn (pc := 48) X dX9_told_48 e24 (by decide) (by decide) rfl (tgt := 227) (by decide) ?_
        exact r_mask [false, false] rfl (Hj10 _ hG)
      refine r_ite hG (fun e25 hG => ?_) (fun e25 hG => ?_)
      · refine r_tsIn (pc := 48) X dX9_told_48 e25 (by decide) (by decide) rfl (tgt := 170) (by decide) ?_
        refine r_aload_n (pc := 170) X dX9_told_170 rfl rfl ?_
        refine r_getI (pc := 171) X (at_X9_o Hb0) rfl mU_X9 (k := 12) (by decide) rfl mF_X9_311 dX9_told_171 hG (fun z26 hG => ?_)
        exact r_iretP (pc := 174) X dX9_told_174 hQ hG
      refine r_ite hG (fun e27 hG => ?_) (fun e27 hG => ?_)
      · refine r_tsIn (pc := 48) X dX9_told_48 e27 (by decide) (by decide) rfl (tgt := 175) (by decide) ?_
        refine r_aload_n (pc := 175) X dX9_told_175 rfl rfl ?_
        refine r_getI (pc := 176) X (at_X9_o Hb0) rfl mU_X9 (k := 28) (by decide) rfl mF_X9_334 dX9_told_176 hG (fun z28 hG => ?_)
        exact r_iretP (pc := 179) X dX9_told_179 hQ hG
      refine r_ite hG (fun e29 hG => ?_) (fun e29 hG => ?_)
      · refine r_tsIn (pc := 48) X dX9_told_48 e29 (by decide) (by decide) rfl (tgt := 227) (by decide) ?_
        exact r_mask [false, false] rfl (Hj10 _ hG)
      refine r_ite hG (fun e30 hG => ?_) (fun e30 hG => ?_)
      · refine r_tsIn (pc := 48) X dX9_told_48 e30 (by decide) (by decide) rfl (tgt := 227) (by decide) ?_
        exact r_mask [false, false] rfl (Hj10 _ hG)
      refine r_ite hG (fun e31 hG => ?_) (fun e31 hG => ?_)
      · refine r_tsIn (pc := 48) X dX9_told_48 e31 (by decide) (by decide) rfl (tgt := 227) (by decide) ?_
        exact r_mask [false, false] rfl (Hj10 _ hG)
      refine r_ite hG (fun e32 hG => ?_) (fun e32 hG => ?_)
      · refine r_tsIn (pc := 48) X dX9_told_48 e32 (by decide) (by decide) rfl (tgt := 227) (by decide) ?_
        exact r_mask [false, false] rfl (Hj10 _ hG)
      refine r_ite hG (fun e33 hG => ?_) (fun e33 hG => ?_)
      · refine r_tsIn (pc := 48) X dX9_told_48 e33 (by decide) (by decide) rfl (tgt := 180) (by decide) ?_
        refine r_aload_n (pc := 180) X dX9_told_180 rfl rfl ?_
        refine r_getC (pc := 181) X (at_X9_o Hb0) rfl mU_X9 (k := 35) (by decide) (q := 114) rfl mF_X9_260 dX9_told_181 ?_
        refine r_iconst (pc := 184) X dX9_told_184 hG rfl (fun z34 hG => ?_)
        refine r_iald (pc := 185) X (at_X9_reach Hb0) dX9_told_185 hG (fun z35 hG => ?_)
        exact r_iretP (pc := 186) X dX9_told_186 hQ hG
      refine r_ite hG (fun e36 hG => ?_) (fun e36 hG => ?_)
      · refine r_tsIn (pc := 48) X dX9_told_48 e36 (by decide) (by decide) rfl (tgt := 187) (by decide) ?_
        refine r_aload_n (pc := 187) X dX9_told_187 rfl rfl ?_
        refine r_getC (pc := 188) X (at_X9_o Hb0) rfl mU_X9 (k := 35) (by decide) (q := 114) rfl mF_X9_260 dX9_told_188 ?_
        refine r_iconst (pc := 191) X dX9_told_191 hG rfl (fun z37 hG => ?_)
        refine r_iald (pc := 192) X (at_X9_reach Hb0) dX9_told_192 hG (fun z38 hG => ?_)
        exact r_iretP (pc := 193) X dX9_told_193 hQ hG
      refine r_ite hG (fun e39 hG => ?_) (fun e39 hG => ?_)
      · refine r_tsIn (pc := 48) X dX9_told_48 e39 (by decide) (by decide) rfl (tgt := 194) (by decide) ?_
        refine r_aload_n (pc := 194) X dX9_told_194 rfl rfl ?_
        refine r_getC (pc := 195) X (at_X9_o Hb0) rfl mU_X9 (k := 36) (by decide) (q := 115) rfl mF_X9_262 dX9_told_195 ?_
        refine r_iconst (pc := 198) X dX9_told_198 hG rfl (fun z40 hG => ?_)
        refine r_iald (pc := 199) X (at_X9_level Hb0) dX9_told_199 hG (fun z41 hG => ?_)
        exact r_iretP (pc := 200) X dX9_told_200 hQ hG
      refine r_ite hG (fun e42 hG => ?_) (fun e42 hG => ?_)
      · refine r_tsIn (pc := 48) X dX9_told_48 e42 (by decide) (by decide) rfl (tgt := 201) (by decide) ?_
        refine r_aload_n (pc := 201) X dX9_told_201 rfl rfl ?_
        refine r_getC (pc := 202) X (at_X9_o Hb0) rfl mU_X9 (k := 36) (by decide) (q := 115) rfl mF_X9_262 dX9_told_202 ?_
        refine r_iconst (pc := 205) X dX9_told_205 hG rfl (fun z43 hG => ?_)
        refine r_iald (pc := 206) X (at_X9_level Hb0) dX9_told_206 hG (fun z44 hG => ?_)
        exact r_iretP (pc := 207) X dX9_told_207 hQ hG
      refine r_ite hG (fun e45 hG => ?_) (fun e45 hG => ?_)
      · refine r_tsIn (pc := 48) X dX9_told_48 e45 (by decide) (by decide) rfl (tgt := 208) (by decide) ?_
        refine r_aload_n (pc := 208) X dX9_told_208 rfl rfl ?_
        refine r_getI (pc := 209) X (at_X9_o Hb0) rfl mU_X9 (k := 39) (by decide) rfl mF_X9_264 dX9_told_209 hG (fun z46 hG => ?_)
        exact r_iretP (pc := 212) X dX9_told_212 hQ hG
      refine r_ite hG (fun e47 hG => ?_) (fun e47 hG => ?_)
      · refine r_tsIn (pc := 48) X dX9_told_48 e47 (by decide) (by decide) rfl (tgt := 213) (by decide) ?_
        refine r_aload_n (pc := 213) X dX9_told_213 rfl rfl ?_
        refine r_getI (pc := 214) X (at_X9_o Hb0) rfl mU_X9 (k := 41) (by decide) rfl mF_X9_225 dX9_told_214 hG (fun z48 hG => ?_)
        exact r_iretP (pc := 217) X dX9_told_217 hQ hG
      refine r_ite hG (fun e49 hG => ?_) (fun e49 hG => ?_)
      · refine r_tsIn (pc := 48) X dX9_told_48 e49 (by decide) (by decide) rfl (tgt := 218) (by decide) ?_
        refine r_aload_n (pc := 218) X dX9_told_218 rfl rfl ?_
        refine r_getC (pc := 219) X (at_X9_o Hb0) rfl mU_X9 (k := 46) (by decide) (q := 121) rfl mF_X9_269 dX9_told_219 ?_
        refine r_sipush (pc := 222) X dX9_told_222 hG (by decide) (fun z50 hG => ?_)
        refine r_iald (pc := 225) X (at_X9_now Hb0) dX9_told_225 hG (fun z51 hG => ?_)
        exact r_iretP (pc := 226) X dX9_told_226 hQ hG
      refine r_tsOut (pc := 48) X dX9_told_48 (by omega) (tgt := 227) (by decide) ?_
      exact r_mask [false, false] rfl (Hj10 _ hG)
    · skip
      refine r_aload_n (pc := 37) X dX9_told_37 rfl rfl ?_
      refine r_getC (pc := 38) X (at_X9_o Hb0) rfl mU_X9 (k := 33) (by decide) (q := 112) rfl mF_X9_258 dX9_told_38 ?_
      refine r_iload_n (pc := 41) X dX9_told_41 rfl rfl ?_
      refine r_bipush (pc := 42) X dX9_told_42 hG (by decide) (fun z52 hG => ?_)
      refine r_isub (pc := 44) X dX9_told_44 hG (fun z53 hG => ?_)
      refine r_iald (pc := 45) X (at_X9_tide Hb0) dX9_told_45 hG (fun z54 hG => ?_)
      exact r_iretP (pc := 46) X dX9_told_46 hQ hG
  · skip
    refine r_aload_n (pc := 14) X dX9_told_14 rfl rfl ?_
    refine r_getC (pc := 15) X (at_X9_o Hb0) rfl mU_X9 (k := 19) (by decide) (q := 102) rfl mF_X9_245 dX9_told_15 ?_
    refine r_iload_n (pc := 18) X dX9_told_18 rfl rfl ?_
    refine r_iconst (pc := 19) X dX9_told_19 hG rfl (fun z55 hG => ?_)
    refine r_isub (pc := 20) X dX9_told_20 hG (fun z56 hG => ?_)
    refine r_iald (pc := 21) X (at_X9_law Hb0) dX9_told_21 hG (fun z57 hG => ?_)
    exact r_iretP (pc := 22) X dX9_told_22 hQ hG
theorem c_X9_told {x1 : Int32} {r : Int} (Hb0 : At_X9 shl) (hg : g_X9_told x1.toInt h = some r) : Met l yX9_told (wsM yX9_told cX9_told 2 (some .int)) rm_X9_told (va_Pc [.ref (ad 100), .int x1] (World E ad shl h)) (QcI E ad shl r h) 0 0 (bsA E) :=
  met_of (L0 := [some (.ref (ad 100)), some (.int x1)]) rfl rfl rfl (Nat.le_of_ble_eq_true rfl) (fun _ _ _ _ _ _ _ X => w_X9_told Hb0 X rfl hg)
abbrev rm_X9_wave : Room := { frames := 1, cells := 0, slots := 0, locals := 25 }
theorem hdd_X9_wave : yX9_wave.cls = RX9 ∧ yX9_wave.cls ≠ "java/lang/invoke/MethodHandle" ∧ yX9_wave.cls ≠ "java/lang/invoke/VarHandle" ∧ (parseMethodDescriptor yX9_wave.desc).map (fun d => d.parameters.length) = some 2 := ⟨rfl, by decide +kernel, by decide +kernel, by decide +kernel⟩
set_option maxRecDepth 100000 in
set_option maxHeartbeats 4000000 in
theorem w_X9_wave {x1 : Int32} {x2 : Int32} {r : Int} (Hb0 : At_X9 shl) (X : Cx E p s m args meth c cX9_wave RX9 3 (some .int)) (hQ : Q = MQ below (QcI E ad shl r h) args s 0 0 (bsA E)) (hG : g_X9_wave x1.toInt x2.toInt h = some r) : Ev E ad shl p l e rm_X9_wave s m args below meth c 0 0 Q 3 h 0 [some (.ref (ad 100)), some (.int x1), some (.int x2)] [] := by
  unfold g_X9_wave at hG
  refine r_iload_n (pc := 0) X dX9_wave_0 rfl rfl ?_
  refine r_i2l (pc := 1) X dX9_wave_1 hG (fun z1 hG => ?_)
  refine r_lconst (pc := 2) X dX9_wave_2 hG (by decide) (fun z2 hG => ?_)
  refine r_aload_n (pc := 3) X dX9_wave_3 rfl rfl ?_
  refine r_getI (pc := 4) X (at_X9_o Hb0) rfl mU_X9 (k := 28) (by decide) rfl mF_X9_334 dX9_wave_4 hG (fun z3 hG => ?_)
  refine r_i2l (pc := 7) X dX9_wave_7 hG (fun z4 hG => ?_)
  refine r_lconst (pc := 8) X dX9_wave_8 hG (by decide) (fun z5 hG => ?_)
  refine r_lsub (pc := 9) X dX9_wave_9 hG (fun z6 hG => ?_)
  refine r_cP (pc := 10) hG (fun _ hg => runS X dX9_wave_10 (c_X9_in  hg) mM_X9_52 mS_X9_in mN_X9 mK_X9_in rfl rfl hdd_X9_in ⟨(Nat.le_of_ble_eq_true rfl), (Nat.le_of_ble_eq_true rfl)⟩ rfl rfl (Nat.le_of_ble_eq_true rfl) ⟨(Nat.le_of_ble_eq_true rfl), (Nat.le_of_ble_eq_true rfl)⟩) (fun z7 hG => ?_)
  refine r_join hG (fun a8 => ∀ (y10 : Int32), a8 = y10.toInt → Ev E ad shl p l e rm_X9_wave s m args below meth c 0 0 Q 3 h 43 [none, none, none] [.int y10]) (fun a8 hG => ?_) (fun j9 Hj9 hG => ?_)
  · skip
    intro y10 ha; have ha := ha.symm; subst ha
    exact r_iretP (pc := 43) X dX9_wave_43 hQ hG
  refine r_join hG (fun _ => Ev E ad shl p l e rm_X9_wave s m args below meth c 0 0 Q 3 h 41 [none, none, none] []) (fun a11 hG => ?_) (fun j12 Hj12 hG => ?_)
  · skip
    refine r_bipush (pc := 41) X dX9_wave_41 hG (by decide) (fun z13 hG => ?_)
    exact r_mask [false, false, false] rfl (Hj9 _ hG z13 rfl)
  refine r_if_eq (pc := 13) X dX9_wave_13 (tgt := 41) (by decide) hG (fun hG => ?_) (fun hG => ?_)
  · skip
    exact r_mask [false, false, false] rfl (Hj12 _ hG)
  · skip
    refine r_iload_n (pc := 16) X dX9_wave_16 rfl rfl ?_
    refine r_i2l (pc := 17) X dX9_wave_17 hG (fun z14 hG => ?_)
    refine r_lconst (pc := 18) X dX9_wave_18 hG (by decide) (fun z15 hG => ?_)
    refine r_ldc2 (pc := 19) X dX9_wave_19 mW_X9_343 hG (by decide) (fun z16 hG => ?_)
    refine r_cP (pc := 22) hG (fun _ hg => runS X dX9_wave_22 (c_X9_in  hg) mM_X9_52 mS_X9_in mN_X9 mK_X9_in rfl rfl hdd_X9_in ⟨(Nat.le_of_ble_eq_true rfl), (Nat.le_of_ble_eq_true rfl)⟩ rfl rfl (Nat.le_of_ble_eq_true rfl) ⟨(Nat.le_of_ble_eq_true rfl), (Nat.le_of_ble_eq_true rfl)⟩) (fun z17 hG => ?_)
    refine r_if_eq (pc := 25) X dX9_wave_25 (tgt := 41) (by decide) hG (fun hG => ?_) (fun hG => ?_)
    · skip
      exact r_mask [false, false, false] rfl (Hj12 _ hG)
    · skip
      refine r_aload_n (pc := 28) X dX9_wave_28 rfl rfl ?_
      refine r_getC (pc := 29) X (at_X9_o Hb0) rfl mU_X9 (k := 31) (by decide) (q := 110) rfl mF_X9_256 dX9_wave_29 ?_
      refine r_iconst (pc := 32) X dX9_wave_32 hG rfl (fun z18 hG => ?_)
      refine r_iload_n (pc := 33) X dX9_wave_33 rfl rfl ?_
      refine r_imul (pc := 34) X dX9_wave_34 hG (fun z19 hG => ?_)
      refine r_iload_n (pc := 35) X dX9_wave_35 rfl rfl ?_
      refine r_iadd (pc := 36) X dX9_wave_36 hG (fun z20 hG => ?_)
      refine r_iald (pc := 37) X (at_X9_wave Hb0) dX9_wave_37 hG (fun z21 hG => ?_)
      refine r_goto (pc := 38) X dX9_wave_38 (tgt := 43) (by decide) ?_
      exact r_mask [false, false, false] rfl (Hj9 _ hG z21 rfl)
theorem c_X9_wave {x1 : Int32} {x2 : Int32} {r : Int} (Hb0 : At_X9 shl) (hg : g_X9_wave x1.toInt x2.toInt h = some r) : Met l yX9_wave (wsM yX9_wave cX9_wave 3 (some .int)) rm_X9_wave (va_Pc [.ref (ad 100), .int x1, .int x2] (World E ad shl h)) (QcI E ad shl r h) 0 0 (bsA E) :=
  met_of (L0 := [some (.ref (ad 100)), some (.int x1), some (.int x2)]) rfl rfl rfl (Nat.le_of_ble_eq_true rfl) (fun _ _ _ _ _ _ _ X => w_X9_wave Hb0 X rfl hg)
abbrev rm_X9_isPlan : Room := { frames := 1, cells := 0, slots := 0, locals := 25 }
theorem hdd_X9_isPlan : yX9_isPlan.cls = RX9 ∧ yX9_isPlan.cls ≠ "java/lang/invoke/MethodHandle" ∧ yX9_isPlan.cls ≠ "java/lang/invoke/VarHandle" ∧ (parseMethodDescriptor yX9_isPlan.desc).map (fun d => d.parameters.length) = some 1 := ⟨rfl, by decide +kernel, by decide +kernel, by decide +kernel⟩
set_option maxRecDepth 100000 in
set_option maxHeartbeats 4000000 in
theorem w_X9_isPlan {x1 : Int32} {r : Int} (Hb0 : At_X9 shl) (X : Cx E p s m args meth c cX9_isPlan RX9 2 (some .boolean)) (hQ : Q = MQ below (QcI E ad shl r h) args s 0 0 (bsA E)) (hG : g_X9_isPlan x1.toInt h = some r) : Ev E ad shl p l e rm_X9_isPlan s m args below meth c 0 0 Q 2 h 0 [some (.ref (ad 100)), some (.int x1)] [] := by
  unfold g_X9_isPlan at hG
  refine r_iload_n (pc := 0) X dX9_isPlan_0 rfl rfl ?_
  refine r_i2l (pc := 1) X dX9_isPlan_1 hG (fun z1 hG => ?_)
  refine r_lconst (pc := 2) X dX9_isPlan_2 hG (by decide) (fun z2 hG => ?_)
  refine r_aload_n (pc := 3) X dX9_isPlan_3 rfl rfl ?_
  refine r_getI (pc := 4) X (at_X9_o Hb0) rfl mU_X9 (k := 41) (by decide) rfl mF_X9_225 dX9_isPlan_4 hG (fun z3 hG => ?_)
  refine r_i2l (pc := 7) X dX9_isPlan_7 hG (fun z4 hG => ?_)
  refine r_lconst (pc := 8) X dX9_isPlan_8 hG (by decide) (fun z5 hG => ?_)
  refine r_lsub (pc := 9) X dX9_isPlan_9 hG (fun z6 hG => ?_)
  refine r_cP (pc := 10) hG (fun _ hg => runS X dX9_isPlan_10 (c_X9_in  hg) mM_X9_52 mS_X9_in mN_X9 mK_X9_in rfl rfl hdd_X9_in ⟨(Nat.le_of_ble_eq_true rfl), (Nat.le_of_ble_eq_true rfl)⟩ rfl rfl (Nat.le_of_ble_eq_true rfl) ⟨(Nat.le_of_ble_eq_true rfl), (Nat.le_of_ble_eq_true rfl)⟩) (fun z7 hG => ?_)
  exact r_zretP (pc := 13) X dX9_isPlan_13 hQ hG
theorem c_X9_isPlan {x1 : Int32} {r : Int} (Hb0 : At_X9 shl) (hg : g_X9_isPlan x1.toInt h = some r) : Met l yX9_isPlan (wsM yX9_isPlan cX9_isPlan 2 (some .boolean)) rm_X9_isPlan (va_Pc [.ref (ad 100), .int x1] (World E ad shl h)) (QcI E ad shl r h) 0 0 (bsA E) :=
  met_of (L0 := [some (.ref (ad 100)), some (.int x1)]) rfl rfl rfl (Nat.le_of_ble_eq_true rfl) (fun _ _ _ _ _ _ _ X => w_X9_isPlan Hb0 X rfl hg)
abbrev rm_X9_act : Room := { frames := 2, cells := 0, slots := 0, locals := 46 }
theorem hdd_X9_act : yX9_act.cls = RX9 ∧ yX9_act.cls ≠ "java/lang/invoke/MethodHandle" ∧ yX9_act.cls ≠ "java/lang/invoke/VarHandle" ∧ (parseMethodDescriptor yX9_act.desc).map (fun d => d.parameters.length) = some 4 := ⟨rfl, by decide +kernel, by decide +kernel, by decide +kernel⟩
set_option maxRecDepth 100000 in
set_option maxHeartbeats 4000000 in
theorem w_X9_act {x1 : Int32} {x2 : Int32} {x3 : Int32} {x4 : Int32} {r : Int} (Hb0 : At_X9 shl) (X : Cx E p s m args meth c cX9_act RX9 6 (some .int)) (hQ : Q = MQ below (QcI E ad shl r h) args s 0 0 (bsA E)) (hG : g_X9_act x1.toInt x2.toInt x3.toInt x4.toInt h = some r) : Ev E ad shl p l e rm_X9_act s m args below meth c 0 0 Q 6 h 0 [some (.ref (ad 100)), some (.int x1), some (.int x2), some (.int x3), some (.int x4), none] [] := by
  unfold g_X9_act at hG
  refine r_aload_n (pc := 0) X dX9_act_0 rfl rfl ?_
  refine r_iload_n (pc := 1) X dX9_act_1 rfl rfl ?_
  refine r_cP (pc := 2) hG (fun _ hg => runV X dX9_act_2 (c_X9_isPlan Hb0 hg) mM_X9_351 mI_X9_isPlan mE_X9_isPlan mN_X9 mK_X9_isPlan (at_X9_o Hb0) rfl rfl rfl rfl hdd_X9_isPlan ⟨(Nat.le_of_ble_eq_true rfl), (Nat.le_of_ble_eq_true rfl)⟩ rfl rfl (Nat.le_of_ble_eq_true rfl) ⟨(Nat.le_of_ble_eq_true rfl), (Nat.le_of_ble_eq_true rfl)⟩) (fun z1 hG => ?_)
  refine r_if_ne (pc := 5) X dX9_act_5 (tgt := 11) (by decide) hG (fun hG => ?_) (fun hG => ?_)
  · skip
    refine r_iload_n (pc := 11) X dX9_act_11 rfl rfl ?_
    refine r_iconst (pc := 12) X dX9_act_12 hG rfl (fun z2 hG => ?_)
    refine r_icmp_ne (pc := 13) X dX9_act_13 (tgt := 23) (by decide) hG (fun hG => ?_) (fun hG => ?_)
    · skip
      refine r_iload_n (pc := 23) X dX9_act_23 rfl rfl ?_
      refine r_i2l (pc := 24) X dX9_act_24 hG (fun z3 hG => ?_)
      refine r_lconst (pc := 25) X dX9_act_25 hG (by decide) (fun z4 hG => ?_)
      refine r_aload_n (pc := 26) X dX9_act_26 rfl rfl ?_
      refine r_getC (pc := 27) X (at_X9_o Hb0) rfl mU_X9 (k := 43) (by decide) (q := 118) rfl mF_X9_266 dX9_act_27 ?_
      refine r_iload_n (pc := 30) X dX9_act_30 rfl rfl ?_
      refine r_iald (pc := 31) X (at_X9_hands Hb0) dX9_act_31 hG (fun z5 hG => ?_)
      refine r_i2l (pc := 32) X dX9_act_32 hG (fun z6 hG => ?_)
      refine r_lconst (pc := 33) X dX9_act_33 hG (by decide) (fun z7 hG => ?_)
      refine r_lsub (pc := 34) X dX9_act_34 hG (fun z8 hG => ?_)
      refine r_cP (pc := 35) hG (fun _ hg => runS X dX9_act_35 (c_X9_in  hg) mM_X9_52 mS_X9_in mN_X9 mK_X9_in rfl rfl hdd_X9_in ⟨(Nat.le_of_ble_eq_true rfl), (Nat.le_of_ble_eq_true rfl)⟩ rfl rfl (Nat.le_of_ble_eq_true rfl) ⟨(Nat.le_of_ble_eq_true rfl), (Nat.le_of_ble_eq_true rfl)⟩) (fun z9 hG => ?_)
      refine r_if_ne (pc := 38) X dX9_act_38 (tgt := 44) (by decide) hG (fun hG => ?_) (fun hG => ?_)
      · skip
        refine r_iconst (pc := 44) X dX9_act_44 hG rfl (fun z10 hG => ?_)
        refine r_iload_n (pc := 45) X dX9_act_45 rfl rfl ?_
        refine r_imul (pc := 46) X dX9_act_46 hG (fun z11 hG => ?_)
        refine r_iload_n (pc := 47) X dX9_act_47 rfl rfl ?_
        refine r_iadd (pc := 48) X dX9_act_48 hG (fun z12 hG => ?_)
        refine r_istore (pc := 49) (L' := [some (.ref (ad 100)), some (.int x1), some (.int x2), some (.int x3), some (.int x4), some (.int z12)]) X dX9_act_49 (by decide) rfl rfl ?_
        refine r_iload_n (pc := 51) X dX9_act_51 rfl rfl ?_
        refine r_iconst (pc := 52) X dX9_act_52 hG rfl (fun z13 hG => ?_)
        refine r_icmp_ne (pc := 53) X dX9_act_53 (tgt := 64) (by decide) hG (fun hG => ?_) (fun hG => ?_)
        · skip
          refine r_iload_n (pc := 64) X dX9_act_64 rfl rfl ?_
          refine r_i2l (pc := 65) X dX9_act_65 hG (fun z14 hG => ?_)
          refine r_lconst (pc := 66) X dX9_act_66 hG (by decide) (fun z15 hG => ?_)
          refine r_aload_n (pc := 67) X dX9_act_67 rfl rfl ?_
          refine r_getC (pc := 68) X (at_X9_o Hb0) rfl mU_X9 (k := 44) (by decide) (q := 119) rfl mF_X9_228 dX9_act_68 ?_
          refine r_iload (pc := 71) X dX9_act_71 rfl ?_
          refine r_iald (pc := 73) X (at_X9_acts Hb0) dX9_act_73 hG (fun z16 hG => ?_)
          refine r_i2l (pc := 74) X dX9_act_74 hG (fun z17 hG => ?_)
          refine r_lconst (pc := 75) X dX9_act_75 hG (by decide) (fun z18 hG => ?_)
          refine r_lsub (pc := 76) X dX9_act_76 hG (fun z19 hG => ?_)
          refine r_cP (pc := 77) hG (fun _ hg => runS X dX9_act_77 (c_X9_in  hg) mM_X9_52 mS_X9_in mN_X9 mK_X9_in rfl rfl hdd_X9_in ⟨(Nat.le_of_ble_eq_true rfl), (Nat.le_of_ble_eq_true rfl)⟩ rfl rfl (Nat.le_of_ble_eq_true rfl) ⟨(Nat.le_of_ble_eq_true rfl), (Nat.le_of_ble_eq_true rfl)⟩) (fun z20 hG => ?_)
          refine r_join hG (fun a21 => ∀ (y23 : Int32), a21 = y23.toInt → Ev E ad shl p l e rm_X9_act s m args below meth c 0 0 Q 6 h 118 [none, none, none, none, none, none] [.int y23]) (fun a21 hG => ?_) (fun j22 Hj22 hG => ?_)
          · skip
            intro y23 ha; have ha := ha.symm; subst ha
            exact r_iretP (pc := 118) X dX9_act_118 hQ hG
          refine r_join hG (fun _ => Ev E ad shl p l e rm_X9_act s m args below meth c 0 0 Q 6 h 116 [none, none, none, none, none, none] []) (fun a24 hG => ?_) (fun j25 Hj25 hG => ?_)
          · skip
            refine r_bipush (pc := 116) X dX9_act_116 hG (by decide) (fun z26 hG => ?_)
            exact r_mask [false, false, false, false, false, false] rfl (Hj22 _ hG z26 rfl)
          refine r_if_eq (pc := 80) X dX9_act_80 (tgt := 116) (by decide) hG (fun hG => ?_) (fun hG => ?_)
          · skip
            exact r_mask [false, false, false, false, false, false] rfl (Hj25 _ hG)
          · skip
            refine r_iload (pc := 83) X dX9_act_83 rfl ?_
            refine r_i2l (pc := 85) X dX9_act_85 hG (fun z27 hG => ?_)
            refine r_lconst (pc := 86) X dX9_act_86 hG (by decide) (fun z28 hG => ?_)
            refine r_ldc2 (pc := 87) X dX9_act_87 mW_X9_343 hG (by decide) (fun z29 hG => ?_)
            refine r_cP (pc := 90) hG (fun _ hg => runS X dX9_act_90 (c_X9_in  hg) mM_X9_52 mS_X9_in mN_X9 mK_X9_in rfl rfl hdd_X9_in ⟨(Nat.le_of_ble_eq_true rfl), (Nat.le_of_ble_eq_true rfl)⟩ rfl rfl (Nat.le_of_ble_eq_true rfl) ⟨(Nat.le_of_ble_eq_true rfl), (Nat.le_of_ble_eq_true rfl)⟩) (fun z30 hG => ?_)
            refine r_if_eq (pc := 93) X dX9_act_93 (tgt := 116) (by decide) hG (fun hG => ?_) (fun hG => ?_)
            · skip
              exact r_mask [false, false, false, false, false, false] rfl (Hj25 _ hG)
            · skip
              refine r_aload_n (pc := 96) X dX9_act_96 rfl rfl ?_
              refine r_getC (pc := 97) X (at_X9_o Hb0) rfl mU_X9 (k := 45) (by decide) (q := 120) rfl mF_X9_207 dX9_act_97 ?_
              refine r_iconst (pc := 100) X dX9_act_100 hG rfl (fun z31 hG => ?_)
              refine r_bipush (pc := 101) X dX9_act_101 hG (by decide) (fun z32 hG => ?_)
              refine r_iload (pc := 103) X dX9_act_103 rfl ?_
              refine r_imul (pc := 105) X dX9_act_105 hG (fun z33 hG => ?_)
              refine r_iload_n (pc := 106) X dX9_act_106 rfl rfl ?_
              refine r_iadd (pc := 107) X dX9_act_107 hG (fun z34 hG => ?_)
              refine r_imul (pc := 108) X dX9_act_108 hG (fun z35 hG => ?_)
              refine r_iload (pc := 109) X dX9_act_109 rfl ?_
              refine r_iadd (pc := 111) X dX9_act_111 hG (fun z36 hG => ?_)
              refine r_iald (pc := 112) X (at_X9_act Hb0) dX9_act_112 hG (fun z37 hG => ?_)
              refine r_goto (pc := 113) X dX9_act_113 (tgt := 118) (by decide) ?_
              exact r_mask [false, false, false, false, false, false] rfl (Hj22 _ hG z37 rfl)
        · skip
          refine r_aload_n (pc := 56) X dX9_act_56 rfl rfl ?_
          refine r_getC (pc := 57) X (at_X9_o Hb0) rfl mU_X9 (k := 44) (by decide) (q := 119) rfl mF_X9_228 dX9_act_57 ?_
          refine r_iload (pc := 60) X dX9_act_60 rfl ?_
          refine r_iald (pc := 62) X (at_X9_acts Hb0) dX9_act_62 hG (fun z38 hG => ?_)
          exact r_iretP (pc := 63) X dX9_act_63 hQ hG
      · skip
        refine r_bipush (pc := 41) X dX9_act_41 hG (by decide) (fun z39 hG => ?_)
        exact r_iretP (pc := 43) X dX9_act_43 hQ hG
    · skip
      refine r_aload_n (pc := 16) X dX9_act_16 rfl rfl ?_
      refine r_getC (pc := 17) X (at_X9_o Hb0) rfl mU_X9 (k := 43) (by decide) (q := 118) rfl mF_X9_266 dX9_act_17 ?_
      refine r_iload_n (pc := 20) X dX9_act_20 rfl rfl ?_
      refine r_iald (pc := 21) X (at_X9_hands Hb0) dX9_act_21 hG (fun z40 hG => ?_)
      exact r_iretP (pc := 22) X dX9_act_22 hQ hG
  · skip
    refine r_bipush (pc := 8) X dX9_act_8 hG (by decide) (fun z41 hG => ?_)
    exact r_iretP (pc := 10) X dX9_act_10 hQ hG
theorem c_X9_act {x1 : Int32} {x2 : Int32} {x3 : Int32} {x4 : Int32} {r : Int} (Hb0 : At_X9 shl) (hg : g_X9_act x1.toInt x2.toInt x3.toInt x4.toInt h = some r) : Met l yX9_act (wsM yX9_act cX9_act 6 (some .int)) rm_X9_act (va_Pc [.ref (ad 100), .int x1, .int x2, .int x3, .int x4] (World E ad shl h)) (QcI E ad shl r h) 0 0 (bsA E) :=
  met_of (L0 := [some (.ref (ad 100)), some (.int x1), some (.int x2), some (.int x3), some (.int x4), none]) rfl rfl rfl (Nat.le_of_ble_eq_true rfl) (fun _ _ _ _ _ _ _ X => w_X9_act Hb0 X rfl hg)
end WALKS
