/-! CONSTRUCTOR of TideKeep: rows of references, loops, begin -/
theorem nest_X8_78 : (RX8, 78, yX1_init, "TideKeep") ∈ nestL := by decide +kernel
theorem MK.push {l : List Shp} {h : Hp} {ci : Nat} {cs : List Nat} {s : Shp} (m : MK l h 0 ci cs) (hs : ClS (l.length + 1) s (fun _ => 0)) : MK (l ++ [s]) (zR h l.length) 0 ci cs := by
  obtain ⟨m1, m2, m3⟩ := m
  exact ⟨by rw [List.getElem?_append_left m2]; exact m1, by rw [List.length_append]; omega, m3.push hs⟩
theorem cls_row {t n N : Nat} {rs : List Nat} (hr : rs.all (fun x => decide (x ≤ N)) = true) (f : Nat → Int) : ClS N (.inr (t, n, rs)) f := by
  intro j
  show rs.getD j 0 ≤ N
  rw [List.getD_eq_getElem?_getD]
  cases hj : rs[j]? with
  | none => exact Nat.zero_le _
  | some x => exact of_decide_eq_true (List.all_eq_true.mp hr x (List.mem_of_getElem? hj))
theorem MK.aset {l : List Shp} {h : Hp} {ci : Nat} {cs : List Nat} (m : MK l h 0 ci cs) {a t n : Nat} {rs : List Nat} (ha : a ≠ 0) (hr : rs.all (fun x => decide (x ≤ l.length)) = true) : MK (l.set a (.inr (t, n, rs))) h 0 ci cs := by
  obtain ⟨m1, m2, m3⟩ := m
  refine ⟨by rw [List.getElem?_set_ne ha]; exact m1, by rw [List.length_set]; exact m2, fun p s hp => ?_⟩
  rw [List.length_set]
  by_cases y : p = a
  · subst y
    have hl := (List.getElem?_eq_some_iff.mp hp).1
    rw [List.length_set] at hl
    rw [List.getElem?_set_self hl] at hp
    cases hp
    exact cls_row hr _
  · rw [List.getElem?_set_ne (fun z => y z.symm)] at hp
    exact m3 p s hp
section X8D
variable {E : EnvT} {ad : Nat → Nat} {p : Program} {l : Launch} {e : Env} {Rm : Room} {s : State} {m : MethodId} {args : Array Value} {below : List Frame} {meth : Method} {c : Code} {Q : State → Prop} {h : Hp}
set_option maxRecDepth 100000 in
set_option maxHeartbeats 4000000 in
theorem x8_j {cells slots : Nat} (X : Cx E p s m args meth c cX8_init RX8 2 none) (hnm : meth.name = "<init>") (hS : E.1 ≤ s.heap.size) (hao : va_AO RX1 s) (M1 : MK k8_5 h 0 8 [3, 1, 1, 1, 1, 1, 0, 1, 1, 1, 1, 1, 1]) (hfr : 6 ≤ Rm.frames ∧ 200 ≤ Rm.locals) (hce : cells + 100 ≤ Rm.cells) (hsl : slots + 5000 ≤ Rm.slots)
    (kk : ∀ ad', ad' 0 = ad 0 → MK k8_6 (zR h 25) 0 8 [3, 1, 1, 1, 1, 27, 0, 1, 1, 1, 1, 1, 1] → Ev E ad' k8_6 p l e Rm s m args below meth c (cells + 1) (slots + 3) Q 2 (zR h 25) 67 [some (.ref (ad' 0)), none] []) : Ev E ad k8_5 p l e Rm s m args below meth c cells slots Q 2 h 59 [some (.ref (ad 0)), none] [] := by
  refine r_aload_n (pc := 59) X dX8_init_59 rfl rfl ?_
  refine r_icw (pc := 60) X dX8_init_60 ?_
  refine r_newq (pc := 61) (t := 3) (N := 3) (rs := [0, 0, 0]) (C := RX1) X M1.2.2 (by decide) (by decide) (by decide) rfl (by decide) mC_X8_36 hao (by omega) (by omega) hS dX8_init_61 (fun q => ?_)
  have hn : k8_5.length = 25 := rfl
  rw [hn]
  have h0 : upA ad 25 q 0 = ad 0 := upA_ne (by decide)
  have h1 : upA ad 25 q 25 = q := upA_same
  refine Ev.to (L2 := [some (.ref (upA ad 25 q 0)), none]) (S2 := [.ref (upA ad 25 q 25), .ref (upA ad 25 q 0)]) (by rw [h0]) (by rw [h0, h1]) ?_
  have MP := M1.push (s := .inr (3, 3, [0, 0, 0])) (cls_row (by decide) _)
  rw [hn] at MP
  refine r_putFin (pc := 64) (b := 0) (ci := 8) (k := 5) (q := 25) (ty := .array (.object RX1)) X hnm MP.1 rfl mU_X8 (by decide) (by decide) rfl rfl (by decide +kernel) rfl rfl mF_X8_38 dX8_init_64 ?_
  have ek : (k8_5 ++ [(Sum.inr (3, 3, [0, 0, 0]) : Shp)]).set 0 (.inl (8, [3, 1, 1, 1, 1, 1, 0, 1, 1, 1, 1, 1, 1].set 5 (25 + 2))) = k8_6 := by decide +kernel
  refine Ev.sh ek ?_
  exact kk _ h0 ((MP.fin (k := 5) (q := 25) (by decide +kernel)).to ek rfl)
set_option maxRecDepth 100000 in
set_option maxHeartbeats 4000000 in
theorem x8_k {cells slots : Nat} (X : Cx E p s m args meth c cX8_init RX8 2 none) (hnm : meth.name = "<init>") (hS : E.1 ≤ s.heap.size) (hao : va_AO RX3 s) (M1 : MK k8_7 h 0 8 [3, 1, 1, 1, 1, 27, 0, 28, 1, 1, 1, 1, 1]) (hfr : 6 ≤ Rm.frames ∧ 200 ≤ Rm.locals) (hce : cells + 100 ≤ Rm.cells) (hsl : slots + 5000 ≤ Rm.slots)
    (kk : ∀ ad', ad' 0 = ad 0 → MK k8_8 (zR h 34) 0 8 [3, 1, 1, 1, 1, 27, 0, 28, 36, 1, 1, 1, 1] → Ev E ad' k8_8 p l e Rm s m args below meth c (cells + 1) (slots + 3) Q 2 (zR h 34) 86 [some (.ref (ad' 0)), none] []) : Ev E ad k8_7 p l e Rm s m args below meth c cells slots Q 2 h 78 [some (.ref (ad 0)), none] [] := by
  refine r_aload_n (pc := 78) X dX8_init_78 rfl rfl ?_
  refine r_icw (pc := 79) X dX8_init_79 ?_
  refine r_newq (pc := 80) (t := 4) (N := 3) (rs := [0, 0, 0]) (C := RX3) X M1.2.2 (by decide) (by decide) (by decide) rfl (by decide) mC_X8_42 hao (by omega) (by omega) hS dX8_init_80 (fun q => ?_)
  have hn : k8_7.length = 34 := rfl
  rw [hn]
  have h0 : upA ad 34 q 0 = ad 0 := upA_ne (by decide)
  have h1 : upA ad 34 q 34 = q := upA_same
  refine Ev.to (L2 := [some (.ref (upA ad 34 q 0)), none]) (S2 := [.ref (upA ad 34 q 34), .ref (upA ad 34 q 0)]) (by rw [h0]) (by rw [h0, h1]) ?_
  have MP := M1.push (s := .inr (4, 3, [0, 0, 0])) (cls_row (by decide) _)
  rw [hn] at MP
  refine r_putFin (pc := 83) (b := 0) (ci := 8) (k := 8) (q := 34) (ty := .array (.object RX3)) X hnm MP.1 rfl mU_X8 (by decide) (by decide) rfl rfl (by decide +kernel) rfl rfl mF_X8_49 dX8_init_83 ?_
  have ek : (k8_7 ++ [(Sum.inr (4, 3, [0, 0, 0]) : Shp)]).set 0 (.inl (8, [3, 1, 1, 1, 1, 27, 0, 28, 1, 1, 1, 1, 1].set 8 (34 + 2))) = k8_8 := by decide +kernel
  refine Ev.sh ek ?_
  exact kk _ h0 ((MP.fin (k := 8) (q := 34) (by decide +kernel)).to ek rfl)
set_option maxRecDepth 100000 in
set_option maxHeartbeats 4000000 in
theorem x8_l {cells slots : Nat} (X : Cx E p s m args meth c cX8_init RX8 2 none) (hnm : meth.name = "<init>") (hS : E.1 ≤ s.heap.size) (M1 : MK k8_8 h 0 8 [3, 1, 1, 1, 1, 27, 0, 28, 36, 1, 1, 1, 1]) (hfr : 6 ≤ Rm.frames ∧ 200 ≤ Rm.locals) (hce : cells + 100 ≤ Rm.cells) (hsl : slots + 5000 ≤ Rm.slots)
    (kk : ∀ ad', ad' 0 = ad 0 → MK k8_9 (zR h 35) 0 8 [3, 1, 1, 1, 1, 27, 0, 28, 36, 37, 1, 1, 1] → Ev E ad' k8_9 p l e Rm s m args below meth c (cells + 1) (slots + 3) Q 2 (zR h 35) 93 [some (.ref (ad' 0)), none] []) : Ev E ad k8_8 p l e Rm s m args below meth c cells slots Q 2 h 86 [some (.ref (ad 0)), none] [] := by
  refine r_aload_n (pc := 86) X dX8_init_86 rfl rfl ?_
  refine r_icw (pc := 87) X dX8_init_87 ?_
  refine r_newZ (pc := 88) (N := 3) X M1.2.2 (by decide) (by decide) (by omega) (by omega) hS dX8_init_88 (fun q => ?_)
  have hn : k8_8.length = 35 := rfl
  rw [hn]
  have h0 : upA ad 35 q 0 = ad 0 := upA_ne (by decide)
  have h1 : upA ad 35 q 35 = q := upA_same
  refine Ev.to (L2 := [some (.ref (upA ad 35 q 0)), none]) (S2 := [.ref (upA ad 35 q 35), .ref (upA ad 35 q 0)]) (by rw [h0]) (by rw [h0, h1]) ?_
  have MP := M1.push (s := .inr (2, 3, [])) (cls_row (by decide) _)
  rw [hn] at MP
  refine r_putFin (pc := 90) (b := 0) (ci := 8) (k := 9) (q := 35) (ty := .array .boolean) X hnm MP.1 rfl mU_X8 (by decide) (by decide) rfl rfl (by decide +kernel) rfl rfl mF_X8_53 dX8_init_90 ?_
  have ek : (k8_8 ++ [(Sum.inr (2, 3, []) : Shp)]).set 0 (.inl (8, [3, 1, 1, 1, 1, 27, 0, 28, 36, 1, 1, 1, 1].set 9 (35 + 2))) = k8_9 := by decide +kernel
  refine Ev.sh ek ?_
  exact kk _ h0 ((MP.fin (k := 9) (q := 35) (by decide +kernel)).to ek rfl)
set_option maxRecDepth 100000 in
set_option maxHeartbeats 4000000 in
theorem x8_p0 {Z : Int32} (hZ : Z.toInt = 0) {cells slots : Nat} (X : Cx E p s m args meth c cX8_init RX8 2 none) (hnm : meth.name = "<init>") (hS : E.1 ≤ s.heap.size) (M1 : MK k8_12 h 0 8 [3, 1, 1, 1, 1, 27, 0, 28, 36, 37, 38, 48, 61]) (hfr : 6 ≤ Rm.frames ∧ 200 ≤ Rm.locals) (hce : cells + 100 ≤ Rm.cells) (hsl : slots + 5000 ≤ Rm.slots)
    (kk : ∀ ad', ad' 0 = ad 0 → ∀ Z' : Int32, Z'.toInt = 1 → MK k8_13 (HX 1 c1i s1i k8_12 h) 0 8 [3, 1, 1, 1, 1, 27, 0, 28, 36, 37, 38, 48, 61] → Ev E ad' k8_13 p l e Rm s m args below meth c (cells + 1 + 4) (slots + 5 + 100) Q 2 (HX 1 c1i s1i k8_12 h) 128 [some (.ref (ad' 0)), some (.int Z')] []) : Ev E ad k8_12 p l e Rm s m args below meth c cells slots Q 2 h 128 [some (.ref (ad 0)), some (.int Z)] [] := by
  refine r_iload_n (pc := 128) X dX8_init_128 rfl rfl ?_
  refine r_icw (pc := 129) X dX8_init_129 ?_
  refine r_icmp_ge (pc := 130) (tgt := 152) (A := none) (B := some ()) (res := ()) X dX8_init_130 (by decide) (by rw [hZ, if_neg (by decide)]) (fun q => by cases q) (fun _ => ?_)
  refine r_aload_n (pc := 133) X dX8_init_133 rfl rfl ?_
  refine r_getC (pc := 134) (b := 0) (ci := 8) (k := 5) (q := 25) X M1.1 rfl mU_X8 (by decide) rfl mF_X8_38 dX8_init_134 ?_
  refine r_iload_n (pc := 137) X dX8_init_137 rfl rfl ?_
  refine r_plan (pc := 138) (host := "TideKeep") X hS M1.2.2 mC_X8_36 nest_X8_78 (by omega) (by omega) ⟨by omega, by omega⟩ (Nat.le_of_ble_eq_true rfl) dX8_init_138 dX8_init_141 dX8_init_142 (fun a1 hd1 => ?_)
  refine Ev.sh te_12 ?_
  have h0 : a1 0 = ad 0 := hd1 0 (by decide +kernel)
  have h1 : a1 25 = ad 25 := hd1 25 (by decide +kernel)
  refine Ev.to (L2 := [some (.ref (a1 0)), some (.int Z)]) (S2 := [.ref (a1 61), .int Z, .ref (a1 25)]) (by rw [h0]) (by rw [h1]; rfl) ?_
  have MT : MK t8_12 (HX 1 c1i s1i k8_12 h) 0 8 [3, 1, 1, 1, 1, 27, 0, 28, 36, 37, 38, 48, 61] := (SX_keep (ci := 1) (cs := c1i) (st := s1i) M1 (i01_ok rfl)).to te_12 rfl
  have ha : t8_12[25]? = some (.inr (3, 3, [0, 0, 0])) := by decide +kernel
  have hv : t8_12[61]? = some (.inl (1, [64, 65, 66, 67, 0])) := by decide +kernel
  refine r_aast (pc := 145) (a := 25) (k := 61) (j := 0) (t := 3) (ci := 1) (r := (RX1, TX1, 5)) X ha (by decide) rfl hv rfl hZ (by decide) (by decide) dX8_init_145 ?_
  have ek : t8_12.set 25 (.inr (3, 3, [0, 0, 0].set 0 (61 + 1))) = k8_13 := by decide +kernel
  refine Ev.sh ek ?_
  refine r_iinc (pc := 146) (K := fun z => if z = 1 then some () else none) (res := ()) (L' := fun Z => [some (.ref (a1 0)), some (.int Z)]) X dX8_init_146 (by decide) rfl rfl (by decide) (fun _ => rfl) (by rw [hZ]; decide) (fun Z2 hZ2 => ?_)
  have hZ3 : Z2.toInt = 1 := by
    by_cases q : Z2.toInt = 1
    · exact q
    · rw [if_neg q] at hZ2; cases hZ2
  refine r_goto (pc := 149) (tgt := 128) X dX8_init_149 (by decide) ?_
  exact kk a1 h0 Z2 hZ3 ((MT.aset (a := 25) (t := 3) (n := 3) (rs := [0, 0, 0].set 0 (61 + 1)) (by decide) (by decide +kernel)).to ek rfl)
set_option maxRecDepth 100000 in
set_option maxHeartbeats 4000000 in
theorem x8_p1 {Z : Int32} (hZ : Z.toInt = 1) {cells slots : Nat} (X : Cx E p s m args meth c cX8_init RX8 2 none) (hnm : meth.name = "<init>") (hS : E.1 ≤ s.heap.size) (M1 : MK k8_13 h 0 8 [3, 1, 1, 1, 1, 27, 0, 28, 36, 37, 38, 48, 61]) (hfr : 6 ≤ Rm.frames ∧ 200 ≤ Rm.locals) (hce : cells + 100 ≤ Rm.cells) (hsl : slots + 5000 ≤ Rm.slots)
    (kk : ∀ ad', ad' 0 = ad 0 → ∀ Z' : Int32, Z'.toInt = 2 → MK k8_14 (HX 1 c1i s1i k8_13 h) 0 8 [3, 1, 1, 1, 1, 27, 0, 28, 36, 37, 38, 48, 61] → Ev E ad' k8_14 p l e Rm s m args below meth c (cells + 1 + 4) (slots + 5 + 100) Q 2 (HX 1 c1i s1i k8_13 h) 128 [some (.ref (ad' 0)), some (.int Z')] []) : Ev E ad k8_13 p l e Rm s m args below meth c cells slots Q 2 h 128 [some (.ref (ad 0)), some (.int Z)] [] := by
  refine r_iload_n (pc := 128) X dX8_init_128 rfl rfl ?_
  refine r_icw (pc := 129) X dX8_init_129 ?_
  refine r_icmp_ge (pc := 130) (tgt := 152) (A := none) (B := some ()) (res := ()) X dX8_init_130 (by decide) (by rw [hZ, if_neg (by decide)]) (fun q => by cases q) (fun _ => ?_)
  refine r_aload_n (pc := 133) X dX8_init_133 rfl rfl ?_
  refine r_getC (pc := 134) (b := 0) (ci := 8) (k := 5) (q := 25) X M1.1 rfl mU_X8 (by decide) rfl mF_X8_38 dX8_init_134 ?_
  refine r_iload_n (pc := 137) X dX8_init_137 rfl rfl ?_
  refine r_plan (pc := 138) (host := "TideKeep") X hS M1.2.2 mC_X8_36 nest_X8_78 (by omega) (by omega) ⟨by omega, by omega⟩ (Nat.le_of_ble_eq_true rfl) dX8_init_138 dX8_init_141 dX8_init_142 (fun a1 hd1 => ?_)
  refine Ev.sh te_13 ?_
  have h0 : a1 0 = ad 0 := hd1 0 (by decide +kernel)
  have h1 : a1 25 = ad 25 := hd1 25 (by decide +kernel)
  refine Ev.to (L2 := [some (.ref (a1 0)), some (.int Z)]) (S2 := [.ref (a1 66), .int Z, .ref (a1 25)]) (by rw [h0]) (by rw [h1]; rfl) ?_
  have MT : MK t8_13 (HX 1 c1i s1i k8_13 h) 0 8 [3, 1, 1, 1, 1, 27, 0, 28, 36, 37, 38, 48, 61] := (SX_keep (ci := 1) (cs := c1i) (st := s1i) M1 (i01_ok rfl)).to te_13 rfl
  have ha : t8_13[25]? = some (.inr (3, 3, [62, 0, 0])) := by decide +kernel
  have hv : t8_13[66]? = some (.inl (1, [69, 70, 71, 72, 0])) := by decide +kernel
  refine r_aast (pc := 145) (a := 25) (k := 66) (j := 1) (t := 3) (ci := 1) (r := (RX1, TX1, 5)) X ha (by decide) rfl hv rfl hZ (by decide) (by decide) dX8_init_145 ?_
  have ek : t8_13.set 25 (.inr (3, 3, [62, 0, 0].set 1 (66 + 1))) = k8_14 := by decide +kernel
  refine Ev.sh ek ?_
  refine r_iinc (pc := 146) (K := fun z => if z = 2 then some () else none) (res := ()) (L' := fun Z => [some (.ref (a1 0)), some (.int Z)]) X dX8_init_146 (by decide) rfl rfl (by decide) (fun _ => rfl) (by rw [hZ]; decide) (fun Z2 hZ2 => ?_)
  have hZ3 : Z2.toInt = 2 := by
    by_cases q : Z2.toInt = 2
    · exact q
    · rw [if_neg q] at hZ2; cases hZ2
  refine r_goto (pc := 149) (tgt := 128) X dX8_init_149 (by decide) ?_
  exact kk a1 h0 Z2 hZ3 ((MT.aset (a := 25) (t := 3) (n := 3) (rs := [62, 0, 0].set 1 (66 + 1)) (by decide) (by decide +kernel)).to ek rfl)
set_option maxRecDepth 100000 in
set_option maxHeartbeats 4000000 in
theorem x8_p2 {Z : Int32} (hZ : Z.toInt = 2) {cells slots : Nat} (X : Cx E p s m args meth c cX8_init RX8 2 none) (hnm : meth.name = "<init>") (hS : E.1 ≤ s.heap.size) (M1 : MK k8_14 h 0 8 [3, 1, 1, 1, 1, 27, 0, 28, 36, 37, 38, 48, 61]) (hfr : 6 ≤ Rm.frames ∧ 200 ≤ Rm.locals) (hce : cells + 100 ≤ Rm.cells) (hsl : slots + 5000 ≤ Rm.slots)
    (kk : ∀ ad', ad' 0 = ad 0 → ∀ Z' : Int32, Z'.toInt = 3 → MK k8_15 (HX 1 c1i s1i k8_14 h) 0 8 [3, 1, 1, 1, 1, 27, 0, 28, 36, 37, 38, 48, 61] → Ev E ad' k8_15 p l e Rm s m args below meth c (cells + 1 + 4) (slots + 5 + 100) Q 2 (HX 1 c1i s1i k8_14 h) 128 [some (.ref (ad' 0)), some (.int Z')] []) : Ev E ad k8_14 p l e Rm s m args below meth c cells slots Q 2 h 128 [some (.ref (ad 0)), some (.int Z)] [] := by
  refine r_iload_n (pc := 128) X dX8_init_128 rfl rfl ?_
  refine r_icw (pc := 129) X dX8_init_129 ?_
  refine r_icmp_ge (pc := 130) (tgt := 152) (A := none) (B := some ()) (res := ()) X dX8_init_130 (by decide) (by rw [hZ, if_neg (by decide)]) (fun q => by cases q) (fun _ => ?_)
  refine r_aload_n (pc := 133) X dX8_init_133 rfl rfl ?_
  refine r_getC (pc := 134) (b := 0) (ci := 8) (k := 5) (q := 25) X M1.1 rfl mU_X8 (by decide) rfl mF_X8_38 dX8_init_134 ?_
  refine r_iload_n (pc := 137) X dX8_init_137 rfl rfl ?_
  refine r_plan (pc := 138) (host := "TideKeep") X hS M1.2.2 mC_X8_36 nest_X8_78 (by omega) (by omega) ⟨by omega, by omega⟩ (Nat.le_of_ble_eq_true rfl) dX8_init_138 dX8_init_141 dX8_init_142 (fun a1 hd1 => ?_)
  refine Ev.sh te_14 ?_
  have h0 : a1 0 = ad 0 := hd1 0 (by decide +kernel)
  have h1 : a1 25 = ad 25 := hd1 25 (by decide +kernel)
  refine Ev.to (L2 := [some (.ref (a1 0)), some (.int Z)]) (S2 := [.ref (a1 71), .int Z, .ref (a1 25)]) (by rw [h0]) (by rw [h1]; rfl) ?_
  have MT : MK t8_14 (HX 1 c1i s1i k8_14 h) 0 8 [3, 1, 1, 1, 1, 27, 0, 28, 36, 37, 38, 48, 61] := (SX_keep (ci := 1) (cs := c1i) (st := s1i) M1 (i01_ok rfl)).to te_14 rfl
  have ha : t8_14[25]? = some (.inr (3, 3, [62, 67, 0])) := by decide +kernel
  have hv : t8_14[71]? = some (.inl (1, [74, 75, 76, 77, 0])) := by decide +kernel
  refine r_aast (pc := 145) (a := 25) (k := 71) (j := 2) (t := 3) (ci := 1) (r := (RX1, TX1, 5)) X ha (by decide) rfl hv rfl hZ (by decide) (by decide) dX8_init_145 ?_
  have ek : t8_14.set 25 (.inr (3, 3, [62, 67, 0].set 2 (71 + 1))) = k8_15 := by decide +kernel
  refine Ev.sh ek ?_
  refine r_iinc (pc := 146) (K := fun z => if z = 3 then some () else none) (res := ()) (L' := fun Z => [some (.ref (a1 0)), some (.int Z)]) X dX8_init_146 (by decide) rfl rfl (by decide) (fun _ => rfl) (by rw [hZ]; decide) (fun Z2 hZ2 => ?_)
  have hZ3 : Z2.toInt = 3 := by
    by_cases q : Z2.toInt = 3
    · exact q
    · rw [if_neg q] at hZ2; cases hZ2
  refine r_goto (pc := 149) (tgt := 128) X dX8_init_149 (by decide) ?_
  exact kk a1 h0 Z2 hZ3 ((MT.aset (a := 25) (t := 3) (n := 3) (rs := [62, 67, 0].set 2 (71 + 1)) (by decide) (by decide +kernel)).to ek rfl)
set_option maxRecDepth 100000 in
set_option maxHeartbeats 4000000 in
theorem x8_s0 {Z : Int32} (hZ : Z.toInt = 0) {cells slots : Nat} (X : Cx E p s m args meth c cX8_init RX8 2 none) (hnm : meth.name = "<init>") (hS : E.1 ≤ s.heap.size) (M1 : MK k8_15 h 0 8 [3, 1, 1, 1, 1, 27, 0, 28, 36, 37, 38, 48, 61]) (hfr : 6 ≤ Rm.frames ∧ 200 ≤ Rm.locals) (hce : cells + 100 ≤ Rm.cells) (hsl : slots + 5000 ≤ Rm.slots)
    (kk : ∀ ad', ad' 0 = ad 0 → ∀ Z' : Int32, Z'.toInt = 1 → MK k8_16 (H3 k8_15 h) 0 8 [3, 1, 1, 1, 1, 27, 0, 28, 36, 37, 38, 48, 61] → Ev E ad' k8_16 p l e Rm s m args below meth c (cells + 1 + 7) (slots + 16 + 267) Q 2 (H3 k8_15 h) 154 [some (.ref (ad' 0)), some (.int Z')] []) : Ev E ad k8_15 p l e Rm s m args below meth c cells slots Q 2 h 154 [some (.ref (ad 0)), some (.int Z)] [] := by
  refine r_iload_n (pc := 154) X dX8_init_154 rfl rfl ?_
  refine r_icw (pc := 155) X dX8_init_155 ?_
  refine r_icmp_ge (pc := 156) (tgt := 178) (A := none) (B := some ()) (res := ()) X dX8_init_156 (by decide) (by rw [hZ, if_neg (by decide)]) (fun q => by cases q) (fun _ => ?_)
  refine r_aload_n (pc := 159) X dX8_init_159 rfl rfl ?_
  refine r_getC (pc := 160) (b := 0) (ci := 8) (k := 8) (q := 34) X M1.1 rfl mU_X8 (by decide) rfl mF_X8_49 dX8_init_160 ?_
  refine r_iload_n (pc := 163) X dX8_init_163 rfl rfl ?_
  refine r_shore (pc := 164) (host := "TideKeep") X hS M1.2.2 mC_X8_42 nest_X8_44 (by omega) (by omega) ⟨by omega, by omega⟩ (Nat.le_of_ble_eq_true rfl) dX8_init_164 dX8_init_167 dX8_init_168 (fun a1 hd1 => ?_)
  refine Ev.sh te_15 ?_
  have h0 : a1 0 = ad 0 := hd1 0 (by decide +kernel)
  have h1 : a1 34 = ad 34 := hd1 34 (by decide +kernel)
  refine Ev.to (L2 := [some (.ref (a1 0)), some (.int Z)]) (S2 := [.ref (a1 76), .int Z, .ref (a1 34)]) (by rw [h0]) (by rw [h1]; rfl) ?_
  have MT : MK t8_15 (H3 k8_15 h) 0 8 [3, 1, 1, 1, 1, 27, 0, 28, 36, 37, 38, 48, 61] := (S3_keep M1).to te_15 rfl
  have ha : t8_15[34]? = some (.inr (4, 3, [0, 0, 0])) := by decide +kernel
  have hv : t8_15[76]? = some (.inl (3, [79, 80, 81, 82, 83, 84, 85, 0, 0, 0, 0, 0, 0, 0, 0, 0])) := by decide +kernel
  refine r_aast (pc := 171) (a := 34) (k := 76) (j := 0) (t := 4) (ci := 3) (r := (RX3, TX3, 16)) X ha (by decide) rfl hv rfl hZ (by decide) (by decide) dX8_init_171 ?_
  have ek : t8_15.set 34 (.inr (4, 3, [0, 0, 0].set 0 (76 + 1))) = k8_16 := by decide +kernel
  refine Ev.sh ek ?_
  refine r_iinc (pc := 172) (K := fun z => if z = 1 then some () else none) (res := ()) (L' := fun Z => [some (.ref (a1 0)), some (.int Z)]) X dX8_init_172 (by decide) rfl rfl (by decide) (fun _ => rfl) (by rw [hZ]; decide) (fun Z2 hZ2 => ?_)
  have hZ3 : Z2.toInt = 1 := by
    by_cases q : Z2.toInt = 1
    · exact q
    · rw [if_neg q] at hZ2; cases hZ2
  refine r_goto (pc := 175) (tgt := 154) X dX8_init_175 (by decide) ?_
  exact kk a1 h0 Z2 hZ3 ((MT.aset (a := 34) (t := 4) (n := 3) (rs := [0, 0, 0].set 0 (76 + 1)) (by decide) (by decide +kernel)).to ek rfl)
set_option maxRecDepth 100000 in
set_option maxHeartbeats 4000000 in
theorem x8_s1 {Z : Int32} (hZ : Z.toInt = 1) {cells slots : Nat} (X : Cx E p s m args meth c cX8_init RX8 2 none) (hnm : meth.name = "<init>") (hS : E.1 ≤ s.heap.size) (M1 : MK k8_16 h 0 8 [3, 1, 1, 1, 1, 27, 0, 28, 36, 37, 38, 48, 61]) (hfr : 6 ≤ Rm.frames ∧ 200 ≤ Rm.locals) (hce : cells + 100 ≤ Rm.cells) (hsl : slots + 5000 ≤ Rm.slots)
    (kk : ∀ ad', ad' 0 = ad 0 → ∀ Z' : Int32, Z'.toInt = 2 → MK k8_17 (H3 k8_16 h) 0 8 [3, 1, 1, 1, 1, 27, 0, 28, 36, 37, 38, 48, 61] → Ev E ad' k8_17 p l e Rm s m args below meth c (cells + 1 + 7) (slots + 16 + 267) Q 2 (H3 k8_16 h) 154 [some (.ref (ad' 0)), some (.int Z')] []) : Ev E ad k8_16 p l e Rm s m args below meth c cells slots Q 2 h 154 [some (.ref (ad 0)), some (.int Z)] [] := by
  refine r_iload_n (pc := 154) X dX8_init_154 rfl rfl ?_
  refine r_icw (pc := 155) X dX8_init_155 ?_
  refine r_icmp_ge (pc := 156) (tgt := 178) (A := none) (B := some ()) (res := ()) X dX8_init_156 (by decide) (by rw [hZ, if_neg (by decide)]) (fun q => by cases q) (fun _ => ?_)
  refine r_aload_n (pc := 159) X dX8_init_159 rfl rfl ?_
  refine r_getC (pc := 160) (b := 0) (ci := 8) (k := 8) (q := 34) X M1.1 rfl mU_X8 (by decide) rfl mF_X8_49 dX8_init_160 ?_
  refine r_iload_n (pc := 163) X dX8_init_163 rfl rfl ?_
  refine r_shore (pc := 164) (host := "TideKeep") X hS M1.2.2 mC_X8_42 nest_X8_44 (by omega) (by omega) ⟨by omega, by omega⟩ (Nat.le_of_ble_eq_true rfl) dX8_init_164 dX8_init_167 dX8_init_168 (fun a1 hd1 => ?_)
  refine Ev.sh te_16 ?_
  have h0 : a1 0 = ad 0 := hd1 0 (by decide +kernel)
  have h1 : a1 34 = ad 34 := hd1 34 (by decide +kernel)
  refine Ev.to (L2 := [some (.ref (a1 0)), some (.int Z)]) (S2 := [.ref (a1 84), .int Z, .ref (a1 34)]) (by rw [h0]) (by rw [h1]; rfl) ?_
  have MT : MK t8_16 (H3 k8_16 h) 0 8 [3, 1, 1, 1, 1, 27, 0, 28, 36, 37, 38, 48, 61] := (S3_keep M1).to te_16 rfl
  have ha : t8_16[34]? = some (.inr (4, 3, [77, 0, 0])) := by decide +kernel
  have hv : t8_16[84]? = some (.inl (3, [87, 88, 89, 90, 91, 92, 93, 0, 0, 0, 0, 0, 0, 0, 0, 0])) := by decide +kernel
  refine r_aast (pc := 171) (a := 34) (k := 84) (j := 1) (t := 4) (ci := 3) (r := (RX3, TX3, 16)) X ha (by decide) rfl hv rfl hZ (by decide) (by decide) dX8_init_171 ?_
  have ek : t8_16.set 34 (.inr (4, 3, [77, 0, 0].set 1 (84 + 1))) = k8_17 := by decide +kernel
  refine Ev.sh ek ?_
  refine r_iinc (pc := 172) (K := fun z => if z = 2 then some () else none) (res := ()) (L' := fun Z => [some (.ref (a1 0)), some (.int Z)]) X dX8_init_172 (by decide) rfl rfl (by decide) (fun _ => rfl) (by rw [hZ]; decide) (fun Z2 hZ2 => ?_)
  have hZ3 : Z2.toInt = 2 := by
    by_cases q : Z2.toInt = 2
    · exact q
    · rw [if_neg q] at hZ2; cases hZ2
  refine r_goto (pc := 175) (tgt := 154) X dX8_init_175 (by decide) ?_
  exact kk a1 h0 Z2 hZ3 ((MT.aset (a := 34) (t := 4) (n := 3) (rs := [77, 0, 0].set 1 (84 + 1)) (by decide) (by decide +kernel)).to ek rfl)
set_option maxRecDepth 100000 in
set_option maxHeartbeats 4000000 in
theorem x8_s2 {Z : Int32} (hZ : Z.toInt = 2) {cells slots : Nat} (X : Cx E p s m args meth c cX8_init RX8 2 none) (hnm : meth.name = "<init>") (hS : E.1 ≤ s.heap.size) (M1 : MK k8_17 h 0 8 [3, 1, 1, 1, 1, 27, 0, 28, 36, 37, 38, 48, 61]) (hfr : 6 ≤ Rm.frames ∧ 200 ≤ Rm.locals) (hce : cells + 100 ≤ Rm.cells) (hsl : slots + 5000 ≤ Rm.slots)
    (kk : ∀ ad', ad' 0 = ad 0 → ∀ Z' : Int32, Z'.toInt = 3 → MK k8_18 (H3 k8_17 h) 0 8 [3, 1, 1, 1, 1, 27, 0, 28, 36, 37, 38, 48, 61] → Ev E ad' k8_18 p l e Rm s m args below meth c (cells + 1 + 7) (slots + 16 + 267) Q 2 (H3 k8_17 h) 154 [some (.ref (ad' 0)), some (.int Z')] []) : Ev E ad k8_17 p l e Rm s m args below meth c cells slots Q 2 h 154 [some (.ref (ad 0)), some (.int Z)] [] := by
  refine r_iload_n (pc := 154) X dX8_init_154 rfl rfl ?_
  refine r_icw (pc := 155) X dX8_init_155 ?_
  refine r_icmp_ge (pc := 156) (tgt := 178) (A := none) (B := some ()) (res := ()) X dX8_init_156 (by decide) (by rw [hZ, if_neg (by decide)]) (fun q => by cases q) (fun _ => ?_)
  refine r_aload_n (pc := 159) X dX8_init_159 rfl rfl ?_
  refine r_getC (pc := 160) (b := 0) (ci := 8) (k := 8) (q := 34) X M1.1 rfl mU_X8 (by decide) rfl mF_X8_49 dX8_init_160 ?_
  refine r_iload_n (pc := 163) X dX8_init_163 rfl rfl ?_
  refine r_shore (pc := 164) (host := "TideKeep") X hS M1.2.2 mC_X8_42 nest_X8_44 (by omega) (by omega) ⟨by omega, by omega⟩ (Nat.le_of_ble_eq_true rfl) dX8_init_164 dX8_init_167 dX8_init_168 (fun a1 hd1 => ?_)
  refine Ev.sh te_17 ?_
  have h0 : a1 0 = ad 0 := hd1 0 (by decide +kernel)
  have h1 : a1 34 = ad 34 := hd1 34 (by decide +kernel)
  refine Ev.to (L2 := [some (.ref (a1 0)), some (.int Z)]) (S2 := [.ref (a1 92), .int Z, .ref (a1 34)]) (by rw [h0]) (by rw [h1]; rfl) ?_
  have MT : MK t8_17 (H3 k8_17 h) 0 8 [3, 1, 1, 1, 1, 27, 0, 28, 36, 37, 38, 48, 61] := (S3_keep M1).to te_17 rfl
  have ha : t8_17[34]? = some (.inr (4, 3, [77, 85, 0])) := by decide +kernel
  have hv : t8_17[92]? = some (.inl (3, [95, 96, 97, 98, 99, 100, 101, 0, 0, 0, 0, 0, 0, 0, 0, 0])) := by decide +kernel
  refine r_aast (pc := 171) (a := 34) (k := 92) (j := 2) (t := 4) (ci := 3) (r := (RX3, TX3, 16)) X ha (by decide) rfl hv rfl hZ (by decide) (by decide) dX8_init_171 ?_
  have ek : t8_17.set 34 (.inr (4, 3, [77, 85, 0].set 2 (92 + 1))) = k8_18 := by decide +kernel
  refine Ev.sh ek ?_
  refine r_iinc (pc := 172) (K := fun z => if z = 3 then some () else none) (res := ()) (L' := fun Z => [some (.ref (a1 0)), some (.int Z)]) X dX8_init_172 (by decide) rfl rfl (by decide) (fun _ => rfl) (by rw [hZ]; decide) (fun Z2 hZ2 => ?_)
  have hZ3 : Z2.toInt = 3 := by
    by_cases q : Z2.toInt = 3
    · exact q
    · rw [if_neg q] at hZ2; cases hZ2
  refine r_goto (pc := 175) (tgt := 154) X dX8_init_175 (by decide) ?_
  exact kk a1 h0 Z2 hZ3 ((MT.aset (a := 34) (t := 4) (n := 3) (rs := [77, 85, 0].set 2 (92 + 1)) (by decide) (by decide +kernel)).to ek rfl)
set_option maxRecDepth 100000 in
set_option maxHeartbeats 4000000 in
theorem x8_z1 {shl : List Shp} {cells slots : Nat} (X : Cx E p s m args meth c cX8_init RX8 2 none)
    (kk : ∀ Z' : Int32, Z'.toInt = 0 → Ev E ad shl p l e Rm s m args below meth c cells slots Q 2 h 128 [some (.ref (ad 0)), some (.int Z')] []) : Ev E ad shl p l e Rm s m args below meth c cells slots Q 2 h 126 [some (.ref (ad 0)), none] [] := by
  refine r_icw (pc := 126) X dX8_init_126 ?_
  refine r_istore_n (pc := 127) (L' := [some (.ref (ad 0)), some (.int (Int32.ofInt 0))]) X dX8_init_127 rfl (by decide) rfl rfl ?_
  exact kk _ (by decide)
set_option maxRecDepth 100000 in
set_option maxHeartbeats 4000000 in
theorem x8_z2 {shl : List Shp} {cells slots : Nat} {Z : Int32} (hZ : Z.toInt = 3) (X : Cx E p s m args meth c cX8_init RX8 2 none)
    (kk : ∀ Z' : Int32, Z'.toInt = 0 → Ev E ad shl p l e Rm s m args below meth c cells slots Q 2 h 154 [some (.ref (ad 0)), some (.int Z')] []) : Ev E ad shl p l e Rm s m args below meth c cells slots Q 2 h 128 [some (.ref (ad 0)), some (.int Z)] [] := by
  refine r_iload_n (pc := 128) X dX8_init_128 rfl rfl ?_
  refine r_icw (pc := 129) X dX8_init_129 ?_
  refine r_icmp_ge (pc := 130) (tgt := 152) (A := some ()) (B := none) (res := ()) X dX8_init_130 (by decide) (by rw [hZ, if_pos (by decide)]) (fun _ => ?_) (fun q => by cases q)
  refine r_icw (pc := 152) X dX8_init_152 ?_
  refine r_istore_n (pc := 153) (L' := [some (.ref (ad 0)), some (.int (Int32.ofInt 0))]) X dX8_init_153 rfl (by decide) rfl rfl ?_
  exact kk _ (by decide)
set_option maxRecDepth 100000 in
set_option maxHeartbeats 4000000 in
theorem x8_z3 {cells slots : Nat} {Z : Int32} {g : Hp} (hZ : Z.toInt = 3) (X : Cx E p s m args meth c cX8_init RX8 2 none) (h01 : h 0 1 = 3) (hg : g_X3_begin 26 3 h = some g) (hfr : 6 ≤ Rm.frames ∧ 200 ≤ Rm.locals) (hce : cells ≤ Rm.cells ∧ slots ≤ Rm.slots)
    (kk : Ev E ad k8_18 p l e Rm s m args below meth c cells slots Q 2 g 189 [some (.ref (ad 0)), some (.int Z)] []) : Ev E ad k8_18 p l e Rm s m args below meth c cells slots Q 2 h 154 [some (.ref (ad 0)), some (.int Z)] [] := by
  refine r_iload_n (pc := 154) X dX8_init_154 rfl rfl ?_
  refine r_icw (pc := 155) X dX8_init_155 ?_
  refine r_icmp_ge (pc := 156) (tgt := 178) (A := some ()) (B := none) (res := ()) X dX8_init_156 (by decide) (by rw [hZ, if_pos (by decide)]) (fun _ => ?_) (fun q => by cases q)
  refine r_aload_n (pc := 178) X dX8_init_178 rfl rfl ?_
  refine r_getC (pc := 179) (b := 0) (ci := 8) (k := 7) (q := 26) X k8_at.1 rfl mU_X8 (by decide) rfl mF_X8_45 dX8_init_179 ?_
  refine r_aload_n (pc := 182) X dX8_init_182 rfl rfl ?_
  refine r_getR (pc := 183) (b := 0) (ci := 8) (k := 1) (ql := [3]) (K := fun q => if q = 3 then some () else none) (res := ()) X k8_at.1 rfl mU_X8 (by decide) rfl mF_X8_19 dX8_init_183 (by unfold gR; rw [h01]; decide) (fun q hq _ => ?_)
  obtain rfl : q = 3 := by simpa using hq
  refine r_cV (pc := 186) (G := g_X3_begin 26 3 h) (K := fun g => some g) (res := g) (by rw [hg]; rfl) (fun _ hg => runV X dX8_init_186 (c_X3_begin (at_X8_now k8_at) (at_X8_beaches k8_at 3 (by decide)) hg) mM_X8_79 mI_X3_begin mE_X3_begin mN_X3 mK_X3_begin (at_X3_o (at_X8_now k8_at)) rfl rfl rfl rfl hdd_X3_begin ⟨Nat.le_trans (by decide) hfr.1, Nat.le_trans (by decide) hfr.2⟩ rfl rfl (Nat.le_of_ble_eq_true rfl) hce) (fun g2 hG => ?_)
  obtain rfl : g2 = g := Option.some.inj hG
  exact kk
end X8D
