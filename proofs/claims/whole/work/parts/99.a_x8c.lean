/-! CONSTRUCTOR of TideKeep: further objects -/
theorem nest_X8_44 : (RX8, 44, yX3_init, "TideKeep") ∈ nestL := by decide +kernel
theorem nest_X8_59 : (RX8, 59, yX7_init, "TideKeep") ∈ nestL := by decide +kernel
theorem nest_X8_66 : (RX8, 66, yX6_init, "TideKeep") ∈ nestL := by decide +kernel
theorem nest_X8_73 : (RX8, 73, yX4_init, "TideKeep") ∈ nestL := by decide +kernel
theorem S6_keep {shl : List Shp} {h : Hp} {b ci2 : Nat} {cs2 : List Nat} (m : MK shl h b ci2 cs2) : MK (S6 shl) (H6 shl h) b ci2 cs2 := by
  have n0 := MK.new (ci := 6) (cs := c6i) m.2.2 (i01_ok rfl)
  have k3 := S3_keep n0
  have kf := k3.fin (k := 0) (q := (shl ++ [(Sum.inl (6, c6i) : Shp)]).length) (by rw [S3_len]; omega)
  have ks := MK.mkS [(1, 2), (2, 2), (3, 2), (4, 99)] kf
  refine ⟨?_, ?_, ks.2.2⟩
  · rw [S6_eq, List.getElem?_append_left m.2.1]; exact m.1
  · rw [S6_eq, List.length_append]; have := m.2.1; omega
theorem H6_0 {shl : List Shp} {h : Hp} (hs : 0 < shl.length) : H6 shl h 0 = h 0 := by
  have hb : 0 < (b6 shl).length := by unfold b6; rw [List.length_set, S3_len]; omega
  unfold H6
  rw [mkHp_lo _ hb]
  unfold H3
  rw [set2_ne 0 (by simp), set2_ne 0 (by simp), mkHp_lo _ (by simp), nH_ne (by simp), nH_ne (by omega)]
theorem H3_0 {shl : List Shp} {h : Hp} (hs : 0 < shl.length) : H3 shl h 0 = h 0 := by
  unfold H3
  rw [set2_ne 0 (by omega), set2_ne 0 (by omega), mkHp_lo _ (by simp), nH_ne (by omega)]
section X8C
variable {E : EnvT} {ad : Nat → Nat} {p : Program} {l : Launch} {e : Env} {Rm : Room} {s : State} {m : MethodId} {args : Array Value} {below : List Frame} {meth : Method} {c : Code} {Q : State → Prop} {h g1 g2 : Hp}
set_option maxRecDepth 100000 in
set_option maxHeartbeats 4000000 in
theorem x8_c {cells slots : Nat} (X : Cx E p s m args meth c cX8_init RX8 2 none) (hnm : meth.name = "<init>") (hS : E.1 ≤ s.heap.size) (M1 : MK k8_2 h 0 8 [3, 1, 1, 1, 1, 1, 0, 1, 1, 1, 1, 1, 1]) (hfr : 6 ≤ Rm.frames ∧ 200 ≤ Rm.locals) (hce : cells + 100 ≤ Rm.cells) (hsl : slots + 5000 ≤ Rm.slots) (E2 : g_X0_clear k8_2.length (HX 0 c0i s0i k8_2 h) = some g1) (E3 : g_X0_weigh k8_2.length g1 = some g2)
    (kk : ∀ ad', ad' 0 = ad 0 → MK k8_3 (set2 g2 0 2 9) 0 8 [3, 1, 1, 1, 1, 1, 0, 1, 1, 1, 1, 1, 1] → Ev E ad' k8_3 p l e Rm s m args below meth c (cells + 1 + 5) (slots + 9 + 159) Q 2 (set2 g2 0 2 9) 37 [some (.ref (ad' 0)), none] []) : Ev E ad k8_2 p l e Rm s m args below meth c cells slots Q 2 h 26 [some (.ref (ad 0)), none] [] := by
  refine r_aload_n (pc := 26) X dX8_init_26 rfl rfl ?_
  refine r_beach (pc := 27) X hS M1.2.2 E2 E3 mC_X8_16 mM_X8_18 (by omega) (by omega) ⟨by omega, by omega⟩ (Nat.le_of_ble_eq_true rfl) dX8_init_27 dX8_init_30 dX8_init_31 (fun a1 hd1 => ?_)
  refine Ev.sh te_2 ?_
  have h0 : a1 0 = ad 0 := hd1 0 (by decide +kernel)
  refine Ev.to (L2 := [some (.ref (a1 0)), none]) (S2 := [.ref (a1 9), .ref (a1 0)]) (by rw [h0]) (by rw [h0]; rfl) ?_
  have e0 : g2 0 = HX 0 c0i s0i k8_2 h 0 := by rw [weigh_0 (by decide +kernel) E3, clear_0 (by decide +kernel) E2]
  have MT : MK t8_2 g2 0 8 [3, 1, 1, 1, 1, 1, 0, 1, 1, 1, 1, 1, 1] := ((SX_keep (ci := 0) (cs := c0i) (st := s0i) M1 (i01_ok rfl)).to te_2 rfl).r0 (by decide +kernel) e0
  refine r_putR (pc := 34) (b := 0) (ci := 8) (k := 2) (q := 9) (D := RX0) (K := fun g => some g) (res := set2 g2 0 2 9) X MT.1 rfl mU_X8 (by decide) rfl rfl (by decide +kernel) mF_X8_23 dX8_init_34 (by omega) rfl (fun h2 hG => ?_)
  have eh : h2 = set2 g2 0 2 9 := Option.some.inj hG
  rw [eh]
  have ek : t8_2 = k8_3 := by decide +kernel
  refine Ev.sh ek ?_
  exact kk a1 h0 ((MT.ref (k := 2) (q := 9) (by decide +kernel) (by decide +kernel)).to ek rfl)
set_option maxRecDepth 100000 in
set_option maxHeartbeats 4000000 in
theorem x8_d {cells slots : Nat} (X : Cx E p s m args meth c cX8_init RX8 2 none) (hnm : meth.name = "<init>") (hS : E.1 ≤ s.heap.size) (M1 : MK k8_3 h 0 8 [3, 1, 1, 1, 1, 1, 0, 1, 1, 1, 1, 1, 1]) (hfr : 6 ≤ Rm.frames ∧ 200 ≤ Rm.locals) (hce : cells + 100 ≤ Rm.cells) (hsl : slots + 5000 ≤ Rm.slots) (E2 : g_X2_clear k8_3.length (HX 2 c2i s2i k8_3 h) = some g1)
    (kk : ∀ ad', ad' 0 = ad 0 → MK k8_4 (set2 g1 0 3 15) 0 8 [3, 1, 1, 1, 1, 1, 0, 1, 1, 1, 1, 1, 1] → Ev E ad' k8_4 p l e Rm s m args below meth c (cells + 1 + 4) (slots + 7 + 45) Q 2 (set2 g1 0 3 15) 48 [some (.ref (ad' 0)), none] []) : Ev E ad k8_3 p l e Rm s m args below meth c cells slots Q 2 h 37 [some (.ref (ad 0)), none] [] := by
  refine r_aload_n (pc := 37) X dX8_init_37 rfl rfl ?_
  refine r_sea (pc := 38) X hS M1.2.2 E2 mC_X8_26 mM_X8_28 (by omega) (by omega) ⟨by omega, by omega⟩ (Nat.le_of_ble_eq_true rfl) dX8_init_38 dX8_init_41 dX8_init_42 (fun a1 hd1 => ?_)
  refine Ev.sh te_3 ?_
  have h0 : a1 0 = ad 0 := hd1 0 (by decide +kernel)
  refine Ev.to (L2 := [some (.ref (a1 0)), none]) (S2 := [.ref (a1 15), .ref (a1 0)]) (by rw [h0]) (by rw [h0]; rfl) ?_
  have e0 : g1 0 = HX 2 c2i s2i k8_3 h 0 := sclear_0 (by decide +kernel) E2
  have MT : MK t8_3 g1 0 8 [3, 1, 1, 1, 1, 1, 0, 1, 1, 1, 1, 1, 1] := ((SX_keep (ci := 2) (cs := c2i) (st := s2i) M1 (i01_ok rfl)).to te_3 rfl).r0 (by decide +kernel) e0
  refine r_putR (pc := 45) (b := 0) (ci := 8) (k := 3) (q := 15) (D := RX2) (K := fun g => some g) (res := set2 g1 0 3 15) X MT.1 rfl mU_X8 (by decide) rfl rfl (by decide +kernel) mF_X8_29 dX8_init_45 (by omega) rfl (fun h2 hG => ?_)
  have eh : h2 = set2 g1 0 3 15 := Option.some.inj hG
  rw [eh]
  have ek : t8_3 = k8_4 := by decide +kernel
  refine Ev.sh ek ?_
  exact kk a1 h0 ((MT.ref (k := 3) (q := 15) (by decide +kernel) (by decide +kernel)).to ek rfl)
set_option maxRecDepth 100000 in
set_option maxHeartbeats 4000000 in
theorem x8_e {cells slots : Nat} (X : Cx E p s m args meth c cX8_init RX8 2 none) (hnm : meth.name = "<init>") (hS : E.1 ≤ s.heap.size) (M1 : MK k8_4 h 0 8 [3, 1, 1, 1, 1, 1, 0, 1, 1, 1, 1, 1, 1]) (hfr : 6 ≤ Rm.frames ∧ 200 ≤ Rm.locals) (hce : cells + 100 ≤ Rm.cells) (hsl : slots + 5000 ≤ Rm.slots) (E2 : g_X2_clear k8_4.length (HX 2 c2i s2i k8_4 h) = some g1)
    (kk : ∀ ad', ad' 0 = ad 0 → MK k8_5 (set2 g1 0 4 20) 0 8 [3, 1, 1, 1, 1, 1, 0, 1, 1, 1, 1, 1, 1] → Ev E ad' k8_5 p l e Rm s m args below meth c (cells + 1 + 4) (slots + 7 + 45) Q 2 (set2 g1 0 4 20) 59 [some (.ref (ad' 0)), none] []) : Ev E ad k8_4 p l e Rm s m args below meth c cells slots Q 2 h 48 [some (.ref (ad 0)), none] [] := by
  refine r_aload_n (pc := 48) X dX8_init_48 rfl rfl ?_
  refine r_sea (pc := 49) X hS M1.2.2 E2 mC_X8_26 mM_X8_28 (by omega) (by omega) ⟨by omega, by omega⟩ (Nat.le_of_ble_eq_true rfl) dX8_init_49 dX8_init_52 dX8_init_53 (fun a1 hd1 => ?_)
  refine Ev.sh te_4 ?_
  have h0 : a1 0 = ad 0 := hd1 0 (by decide +kernel)
  refine Ev.to (L2 := [some (.ref (a1 0)), none]) (S2 := [.ref (a1 20), .ref (a1 0)]) (by rw [h0]) (by rw [h0]; rfl) ?_
  have e0 : g1 0 = HX 2 c2i s2i k8_4 h 0 := sclear_0 (by decide +kernel) E2
  have MT : MK t8_4 g1 0 8 [3, 1, 1, 1, 1, 1, 0, 1, 1, 1, 1, 1, 1] := ((SX_keep (ci := 2) (cs := c2i) (st := s2i) M1 (i01_ok rfl)).to te_4 rfl).r0 (by decide +kernel) e0
  refine r_putR (pc := 56) (b := 0) (ci := 8) (k := 4) (q := 20) (D := RX2) (K := fun g => some g) (res := set2 g1 0 4 20) X MT.1 rfl mU_X8 (by decide) rfl rfl (by decide +kernel) mF_X8_33 dX8_init_56 (by omega) rfl (fun h2 hG => ?_)
  have eh : h2 = set2 g1 0 4 20 := Option.some.inj hG
  rw [eh]
  have ek : t8_4 = k8_5 := by decide +kernel
  refine Ev.sh ek ?_
  exact kk a1 h0 ((MT.ref (k := 4) (q := 20) (by decide +kernel) (by decide +kernel)).to ek rfl)
set_option maxRecDepth 100000 in
set_option maxHeartbeats 4000000 in
theorem x8_f {cells slots : Nat} (X : Cx E p s m args meth c cX8_init RX8 2 none) (hnm : meth.name = "<init>") (hS : E.1 ≤ s.heap.size) (M1 : MK k8_6 h 0 8 [3, 1, 1, 1, 1, 27, 0, 1, 1, 1, 1, 1, 1]) (hfr : 6 ≤ Rm.frames ∧ 200 ≤ Rm.locals) (hce : cells + 100 ≤ Rm.cells) (hsl : slots + 5000 ≤ Rm.slots)
    (kk : ∀ ad', ad' 0 = ad 0 → MK k8_7 (H3 k8_6 h) 0 8 [3, 1, 1, 1, 1, 27, 0, 28, 1, 1, 1, 1, 1] → Ev E ad' k8_7 p l e Rm s m args below meth c (cells + 1 + 7) (slots + 16 + 267) Q 2 (H3 k8_6 h) 78 [some (.ref (ad' 0)), none] []) : Ev E ad k8_6 p l e Rm s m args below meth c cells slots Q 2 h 67 [some (.ref (ad 0)), none] [] := by
  refine r_aload_n (pc := 67) X dX8_init_67 rfl rfl ?_
  refine r_shore (pc := 68) (host := "TideKeep") X hS M1.2.2 mC_X8_42 nest_X8_44 (by omega) (by omega) ⟨by omega, by omega⟩ (Nat.le_of_ble_eq_true rfl) dX8_init_68 dX8_init_71 dX8_init_72 (fun a1 hd1 => ?_)
  refine Ev.sh te_6 ?_
  have h0 : a1 0 = ad 0 := hd1 0 (by decide +kernel)
  refine Ev.to (L2 := [some (.ref (a1 0)), none]) (S2 := [.ref (a1 26), .ref (a1 0)]) (by rw [h0]) (by rw [h0]; rfl) ?_
  have MT : MK t8_6 (H3 k8_6 h) 0 8 [3, 1, 1, 1, 1, 27, 0, 1, 1, 1, 1, 1, 1] := (S3_keep M1).to te_6 rfl
  refine r_putFin (pc := 75) (b := 0) (ci := 8) (k := 7) (q := 26) (ty := .object RX3) X hnm MT.1 rfl mU_X8 (by decide) (by decide) rfl rfl (by decide +kernel) rfl rfl mF_X8_45 dX8_init_75 ?_
  have ek : t8_6.set 0 (.inl (8, [3, 1, 1, 1, 1, 27, 0, 1, 1, 1, 1, 1, 1].set 7 (26 + 2))) = k8_7 := by decide +kernel
  refine Ev.sh ek ?_
  exact kk a1 h0 ((MT.fin (k := 7) (q := 26) (by decide +kernel)).to ek rfl)
set_option maxRecDepth 100000 in
set_option maxHeartbeats 4000000 in
theorem x8_g {cells slots : Nat} (X : Cx E p s m args meth c cX8_init RX8 2 none) (hnm : meth.name = "<init>") (hS : E.1 ≤ s.heap.size) (M1 : MK k8_9 h 0 8 [3, 1, 1, 1, 1, 27, 0, 28, 36, 37, 1, 1, 1]) (hfr : 6 ≤ Rm.frames ∧ 200 ≤ Rm.locals) (hce : cells + 100 ≤ Rm.cells) (hsl : slots + 5000 ≤ Rm.slots)
    (kk : ∀ ad', ad' 0 = ad 0 → MK k8_10 (HX 7 c7i s7i k8_9 h) 0 8 [3, 1, 1, 1, 1, 27, 0, 28, 36, 37, 38, 1, 1] → Ev E ad' k8_10 p l e Rm s m args below meth c (cells + 1 + 9) (slots + 12 + 476) Q 2 (HX 7 c7i s7i k8_9 h) 104 [some (.ref (ad' 0)), none] []) : Ev E ad k8_9 p l e Rm s m args below meth c cells slots Q 2 h 93 [some (.ref (ad 0)), none] [] := by
  refine r_aload_n (pc := 93) X dX8_init_93 rfl rfl ?_
  refine r_tries (pc := 94) (host := "TideKeep") X hS M1.2.2 mC_X8_57 nest_X8_59 (by omega) (by omega) ⟨by omega, by omega⟩ (Nat.le_of_ble_eq_true rfl) dX8_init_94 dX8_init_97 dX8_init_98 (fun a1 hd1 => ?_)
  refine Ev.sh te_9 ?_
  have h0 : a1 0 = ad 0 := hd1 0 (by decide +kernel)
  refine Ev.to (L2 := [some (.ref (a1 0)), none]) (S2 := [.ref (a1 36), .ref (a1 0)]) (by rw [h0]) (by rw [h0]; rfl) ?_
  have MT : MK t8_9 (HX 7 c7i s7i k8_9 h) 0 8 [3, 1, 1, 1, 1, 27, 0, 28, 36, 37, 1, 1, 1] := ((SX_keep (ci := 7) (cs := c7i) (st := s7i) M1 (i01_ok rfl)).to te_9 rfl)
  refine r_putFin (pc := 101) (b := 0) (ci := 8) (k := 10) (q := 36) (ty := .object RX7) X hnm MT.1 rfl mU_X8 (by decide) (by decide) rfl rfl (by decide +kernel) rfl rfl mF_X8_60 dX8_init_101 ?_
  have ek : t8_9.set 0 (.inl (8, [3, 1, 1, 1, 1, 27, 0, 28, 36, 37, 1, 1, 1].set 10 (36 + 2))) = k8_10 := by decide +kernel
  refine Ev.sh ek ?_
  exact kk a1 h0 ((MT.fin (k := 10) (q := 36) (by decide +kernel)).to ek rfl)
set_option maxRecDepth 100000 in
set_option maxHeartbeats 4000000 in
theorem x8_h {cells slots : Nat} (X : Cx E p s m args meth c cX8_init RX8 2 none) (hnm : meth.name = "<init>") (hS : E.1 ≤ s.heap.size) (M1 : MK k8_10 h 0 8 [3, 1, 1, 1, 1, 27, 0, 28, 36, 37, 38, 1, 1]) (hfr : 6 ≤ Rm.frames ∧ 200 ≤ Rm.locals) (hce : cells + 100 ≤ Rm.cells) (hsl : slots + 5000 ≤ Rm.slots)
    (kk : ∀ ad', ad' 0 = ad 0 → MK k8_11 (H6 k8_10 h) 0 8 [3, 1, 1, 1, 1, 27, 0, 28, 36, 37, 38, 48, 1] → Ev E ad' k8_11 p l e Rm s m args below meth c (cells + 1 + 12) (slots + 7 + 388) Q 2 (H6 k8_10 h) 115 [some (.ref (ad' 0)), none] []) : Ev E ad k8_10 p l e Rm s m args below meth c cells slots Q 2 h 104 [some (.ref (ad 0)), none] [] := by
  refine r_aload_n (pc := 104) X dX8_init_104 rfl rfl ?_
  refine r_trial (pc := 105) (host := "TideKeep") X hS M1.2.2 mC_X8_64 nest_X8_66 (by omega) (by omega) ⟨by omega, by omega⟩ (Nat.le_of_ble_eq_true rfl) dX8_init_105 dX8_init_108 dX8_init_109 (fun a1 hd1 => ?_)
  refine Ev.sh te_10 ?_
  have h0 : a1 0 = ad 0 := hd1 0 (by decide +kernel)
  refine Ev.to (L2 := [some (.ref (a1 0)), none]) (S2 := [.ref (a1 46), .ref (a1 0)]) (by rw [h0]) (by rw [h0]; rfl) ?_
  have MT : MK t8_10 (H6 k8_10 h) 0 8 [3, 1, 1, 1, 1, 27, 0, 28, 36, 37, 38, 1, 1] := (S6_keep M1).to te_10 rfl
  refine r_putFin (pc := 112) (b := 0) (ci := 8) (k := 11) (q := 46) (ty := .object RX6) X hnm MT.1 rfl mU_X8 (by decide) (by decide) rfl rfl (by decide +kernel) rfl rfl mF_X8_67 dX8_init_112 ?_
  have ek : t8_10.set 0 (.inl (8, [3, 1, 1, 1, 1, 27, 0, 28, 36, 37, 38, 1, 1].set 11 (46 + 2))) = k8_11 := by decide +kernel
  refine Ev.sh ek ?_
  exact kk a1 h0 ((MT.fin (k := 11) (q := 46) (by decide +kernel)).to ek rfl)
set_option maxRecDepth 100000 in
set_option maxHeartbeats 4000000 in
theorem x8_i {cells slots : Nat} (X : Cx E p s m args meth c cX8_init RX8 2 none) (hnm : meth.name = "<init>") (hS : E.1 ≤ s.heap.size) (M1 : MK k8_11 h 0 8 [3, 1, 1, 1, 1, 27, 0, 28, 36, 37, 38, 48, 1]) (hfr : 6 ≤ Rm.frames ∧ 200 ≤ Rm.locals) (hce : cells + 100 ≤ Rm.cells) (hsl : slots + 5000 ≤ Rm.slots)
    (kk : ∀ ad', ad' 0 = ad 0 → MK k8_12 (HX 4 c4i s4i k8_11 h) 0 8 [3, 1, 1, 1, 1, 27, 0, 28, 36, 37, 38, 48, 61] → Ev E ad' k8_12 p l e Rm s m args below meth c (cells + 1 + 1) (slots + 1 + 9) Q 2 (HX 4 c4i s4i k8_11 h) 126 [some (.ref (ad' 0)), none] []) : Ev E ad k8_11 p l e Rm s m args below meth c cells slots Q 2 h 115 [some (.ref (ad 0)), none] [] := by
  refine r_aload_n (pc := 115) X dX8_init_115 rfl rfl ?_
  refine r_spill (pc := 116) (host := "TideKeep") X hS M1.2.2 mC_X8_71 nest_X8_73 (by omega) (by omega) ⟨by omega, by omega⟩ (Nat.le_of_ble_eq_true rfl) dX8_init_116 dX8_init_119 dX8_init_120 (fun a1 hd1 => ?_)
  refine Ev.sh te_11 ?_
  have h0 : a1 0 = ad 0 := hd1 0 (by decide +kernel)
  refine Ev.to (L2 := [some (.ref (a1 0)), none]) (S2 := [.ref (a1 59), .ref (a1 0)]) (by rw [h0]) (by rw [h0]; rfl) ?_
  have MT : MK t8_11 (HX 4 c4i s4i k8_11 h) 0 8 [3, 1, 1, 1, 1, 27, 0, 28, 36, 37, 38, 48, 1] := ((SX_keep (ci := 4) (cs := c4i) (st := s4i) M1 (i01_ok rfl)).to te_11 rfl)
  refine r_putFin (pc := 123) (b := 0) (ci := 8) (k := 12) (q := 59) (ty := .object RX4) X hnm MT.1 rfl mU_X8 (by decide) (by decide) rfl rfl (by decide +kernel) rfl rfl mF_X8_74 dX8_init_123 ?_
  have ek : t8_11.set 0 (.inl (8, [3, 1, 1, 1, 1, 27, 0, 28, 36, 37, 38, 48, 1].set 12 (59 + 2))) = k8_12 := by decide +kernel
  refine Ev.sh ek ?_
  exact kk a1 h0 ((MT.fin (k := 12) (q := 59) (by decide +kernel)).to ek rfl)
end X8C
