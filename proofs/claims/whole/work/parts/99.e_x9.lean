/-! CONSTRUCTOR of the model, step by step -/
section X9A
variable {E : EnvT} {ad : Nat → Nat} {p : Program} {l : Launch} {e : Env} {Rm : Room} {s : State} {m : MethodId} {args : Array Value} {below : List Frame} {meth : Method} {c : Code} {Q : State → Prop} {h : Hp} {pre : List Shp}
set_option maxRecDepth 100000 in
set_option maxHeartbeats 4000000 in
theorem x9_0 {cells slots : Nat} (X : Cx E p s m args meth c cX9_init RX9 1 none) (hnm : meth.name = "<init>") (hS : E.1 ≤ s.heap.size) (hb : pre.length = 100) (K0 : MK (pre ++ m9_0) h 100 9 cs9_0) (hce : cells + 1 ≤ Rm.cells) (hsl : slots + 900 ≤ Rm.slots)
    (kk : ∀ ad', (∀ p, p < 101 → ad' p = ad p) → MK (pre ++ m9_1) (zR h 101) 100 9 cs9_1 → Ev E ad' (pre ++ m9_1) p l e Rm s m args below meth c (cells + 1) (slots + 900) Q 1 (zR h 101) 13 [some (.ref (ad' 100))] []) : Ev E ad (pre ++ m9_0) p l e Rm s m args below meth c cells slots Q 1 h 4 [some (.ref (ad 100))] [] := by
  have hn : (pre ++ m9_0).length = 101 := by rw [List.length_append, hb]; rfl
  refine r_mk0B (pc := 4) (N := 900) (w := 3) (Z := (Int16.ofInt (900)).toInt32) X hS K0 hn (by decide) (by decide) hce hsl dX9_init_4 (fun q => lv_sipush X.1 X.2.1 dX9_init_5 rfl q) dX9_init_8 (fun a1 hd1 => ?_)
  have e1 : mkL (pre ++ m9_0) 100 9 cs9_0 0 1 900 = pre ++ m9_1 := (mkL_pre hb).trans (congrArg (pre ++ ·) (by decide +kernel))
  refine r_mkF (pc := 10) (b := 100) (ci := 9) (k := 0) (n := 101) (ty := .array .byte) X hnm K0.1 K0.2.1 hn rfl mU_X9 (by decide) (by decide) rfl rfl (by decide +kernel) rfl rfl mF_X9_16 dX9_init_10 ?_
  refine Ev.sh e1 ?_
  have K1 := K0.mk9 hn e1 (cs2 := cs9_1) (by decide +kernel) (by decide)
  exact kk a1 (fun p hp => hd1 p (by omega)) K1
set_option maxRecDepth 100000 in
set_option maxHeartbeats 4000000 in
theorem x9_1 {cells slots : Nat} (X : Cx E p s m args meth c cX9_init RX9 1 none) (K0 : MK (pre ++ m9_1) h 100 9 cs9_1)
    (kk : MK (pre ++ m9_1) (set2 h 100 9 (-1)) 100 9 cs9_1 → Ev E ad (pre ++ m9_1) p l e Rm s m args below meth c cells slots Q 1 (set2 h 100 9 (-1)) 18 [some (.ref (ad 100))] []) : Ev E ad (pre ++ m9_1) p l e Rm s m args below meth c cells slots Q 1 h 13 [some (.ref (ad 100))] [] := by
  refine r_stI (pc := 13) (b := 100) (k := 9) (w := 1) (Z := Int32.ofInt (-1)) (v := -1) X K0.1 rfl mU_X9 (by decide) rfl rfl rfl mF_X9_10 (by decide) rfl dX9_init_13 (fun q => lv_iconst X.1 X.2.1 dX9_init_14 rfl q) dX9_init_15 ?_
  exact kk (K0.set (k := 9) (x := -1) rfl)
set_option maxRecDepth 100000 in
set_option maxHeartbeats 4000000 in
theorem x9_2 {cells slots : Nat} (X : Cx E p s m args meth c cX9_init RX9 1 none) (K0 : MK (pre ++ m9_1) h 100 9 cs9_1)
    (kk : MK (pre ++ m9_1) (set2 h 100 10 (5)) 100 9 cs9_1 → Ev E ad (pre ++ m9_1) p l e Rm s m args below meth c cells slots Q 1 (set2 h 100 10 (5)) 23 [some (.ref (ad 100))] []) : Ev E ad (pre ++ m9_1) p l e Rm s m args below meth c cells slots Q 1 h 18 [some (.ref (ad 100))] [] := by
  refine r_stI (pc := 18) (b := 100) (k := 10) (w := 1) (Z := Int32.ofInt (5)) (v := 5) X K0.1 rfl mU_X9 (by decide) rfl rfl rfl mF_X9_201 (by decide) rfl dX9_init_18 (fun q => lv_iconst X.1 X.2.1 dX9_init_19 rfl q) dX9_init_20 ?_
  exact kk (K0.set (k := 10) (x := 5) rfl)
set_option maxRecDepth 100000 in
set_option maxHeartbeats 4000000 in
theorem x9_3 {cells slots : Nat} (X : Cx E p s m args meth c cX9_init RX9 1 none) (K0 : MK (pre ++ m9_1) h 100 9 cs9_1)
    (kk : MK (pre ++ m9_1) (set2 h 100 11 (5)) 100 9 cs9_1 → Ev E ad (pre ++ m9_1) p l e Rm s m args below meth c cells slots Q 1 (set2 h 100 11 (5)) 28 [some (.ref (ad 100))] []) : Ev E ad (pre ++ m9_1) p l e Rm s m args below meth c cells slots Q 1 h 23 [some (.ref (ad 100))] [] := by
  refine r_stI (pc := 23) (b := 100) (k := 11) (w := 1) (Z := Int32.ofInt (5)) (v := 5) X K0.1 rfl mU_X9 (by decide) rfl rfl rfl mF_X9_204 (by decide) rfl dX9_init_23 (fun q => lv_iconst X.1 X.2.1 dX9_init_24 rfl q) dX9_init_25 ?_
  exact kk (K0.set (k := 11) (x := 5) rfl)
set_option maxRecDepth 100000 in
set_option maxHeartbeats 4000000 in
theorem x9_4 {cells slots : Nat} (X : Cx E p s m args meth c cX9_init RX9 1 none) (hnm : meth.name = "<init>") (hS : E.1 ≤ s.heap.size) (hb : pre.length = 100) (K0 : MK (pre ++ m9_1) h 100 9 cs9_1) (hce : cells + 1 ≤ Rm.cells) (hsl : slots + 9 ≤ Rm.slots)
    (kk : ∀ ad', (∀ p, p < 101 → ad' p = ad p) → MK (pre ++ m9_2) (set2 (set2 (set2 (set2 (set2 (set2 (set2 (set2 (set2 (zR h 102) 102 0 (6)) 102 1 (2)) 102 2 (10)) 102 3 (4)) 102 4 (1)) 102 5 (0)) 102 6 (4)) 102 7 (6)) 102 8 (1)) 100 9 cs9_2 → Ev E ad' (pre ++ m9_2) p l e Rm s m args below meth c (cells + 1) (slots + 9) Q 1 (set2 (set2 (set2 (set2 (set2 (set2 (set2 (set2 (set2 (zR h 102) 102 0 (6)) 102 1 (2)) 102 2 (10)) 102 3 (4)) 102 4 (1)) 102 5 (0)) 102 6 (4)) 102 7 (6)) 102 8 (1)) 78 [some (.ref (ad' 100))] []) : Ev E ad (pre ++ m9_1) p l e Rm s m args below meth c cells slots Q 1 h 28 [some (.ref (ad 100))] [] := by
  have hn : (pre ++ m9_1).length = 102 := by rw [List.length_append, hb]; rfl
  refine r_mk0I (pc := 28) (N := 9) (w := 2) (Z := (Int8.ofInt (9)).toInt32) X hS K0 hn (by decide) (by decide) hce hsl dX9_init_28 (fun q => lv_bipush X.1 X.2.1 dX9_init_29 rfl q) dX9_init_31 (fun a1 hd1 => ?_)
  refine r_ini (pc := 33) (a := 102) (n := 9) (i := 0) (v := 6) (w1 := 1) (w2 := 2) (I := Int32.ofInt (0)) (V := (Int8.ofInt (6)).toInt32) X (row_last hn) (by decide) (by decide) (by decide) dX9_init_33 (fun q => lv_iconst X.1 X.2.1 dX9_init_34 rfl q) (fun q => lv_bipush X.1 X.2.1 dX9_init_35 rfl q) dX9_init_37 ?_
  refine r_ini (pc := 38) (a := 102) (n := 9) (i := 1) (v := 2) (w1 := 1) (w2 := 1) (I := Int32.ofInt (1)) (V := Int32.ofInt (2)) X (row_last hn) (by decide) (by decide) (by decide) dX9_init_38 (fun q => lv_iconst X.1 X.2.1 dX9_init_39 rfl q) (fun q => lv_iconst X.1 X.2.1 dX9_init_40 rfl q) dX9_init_41 ?_
  refine r_ini (pc := 42) (a := 102) (n := 9) (i := 2) (v := 10) (w1 := 1) (w2 := 2) (I := Int32.ofInt (2)) (V := (Int8.ofInt (10)).toInt32) X (row_last hn) (by decide) (by decide) (by decide) dX9_init_42 (fun q => lv_iconst X.1 X.2.1 dX9_init_43 rfl q) (fun q => lv_bipush X.1 X.2.1 dX9_init_44 rfl q) dX9_init_46 ?_
  refine r_ini (pc := 47) (a := 102) (n := 9) (i := 3) (v := 4) (w1 := 1) (w2 := 1) (I := Int32.ofInt (3)) (V := Int32.ofInt (4)) X (row_last hn) (by decide) (by decide) (by decide) dX9_init_47 (fun q => lv_iconst X.1 X.2.1 dX9_init_48 rfl q) (fun q => lv_iconst X.1 X.2.1 dX9_init_49 rfl q) dX9_init_50 ?_
  refine r_ini (pc := 51) (a := 102) (n := 9) (i := 4) (v := 1) (w1 := 1) (w2 := 1) (I := Int32.ofInt (4)) (V := Int32.ofInt (1)) X (row_last hn) (by decide) (by decide) (by decide) dX9_init_51 (fun q => lv_iconst X.1 X.2.1 dX9_init_52 rfl q) (fun q => lv_iconst X.1 X.2.1 dX9_init_53 rfl q) dX9_init_54 ?_
  refine r_ini (pc := 55) (a := 102) (n := 9) (i := 5) (v := 0) (w1 := 1) (w2 := 1) (I := Int32.ofInt (5)) (V := Int32.ofInt (0)) X (row_last hn) (by decide) (by decide) (by decide) dX9_init_55 (fun q => lv_iconst X.1 X.2.1 dX9_init_56 rfl q) (fun q => lv_iconst X.1 X.2.1 dX9_init_57 rfl q) dX9_init_58 ?_
  refine r_ini (pc := 59) (a := 102) (n := 9) (i := 6) (v := 4) (w1 := 2) (w2 := 1) (I := (Int8.ofInt (6)).toInt32) (V := Int32.ofInt (4)) X (row_last hn) (by decide) (by decide) (by decide) dX9_init_59 (fun q => lv_bipush X.1 X.2.1 dX9_init_60 rfl q) (fun q => lv_iconst X.1 X.2.1 dX9_init_62 rfl q) dX9_init_63 ?_
  refine r_ini (pc := 64) (a := 102) (n := 9) (i := 7) (v := 6) (w1 := 2) (w2 := 2) (I := (Int8.ofInt (7)).toInt32) (V := (Int8.ofInt (6)).toInt32) X (row_last hn) (by decide) (by decide) (by decide) dX9_init_64 (fun q => lv_bipush X.1 X.2.1 dX9_init_65 rfl q) (fun q => lv_bipush X.1 X.2.1 dX9_init_67 rfl q) dX9_init_69 ?_
  refine r_ini (pc := 70) (a := 102) (n := 9) (i := 8) (v := 1) (w1 := 2) (w2 := 1) (I := (Int8.ofInt (8)).toInt32) (V := Int32.ofInt (1)) X (row_last hn) (by decide) (by decide) (by decide) dX9_init_70 (fun q => lv_bipush X.1 X.2.1 dX9_init_71 rfl q) (fun q => lv_iconst X.1 X.2.1 dX9_init_73 rfl q) dX9_init_74 ?_
  have e1 : mkL (pre ++ m9_1) 100 9 cs9_1 19 0 9 = pre ++ m9_2 := (mkL_pre hb).trans (congrArg (pre ++ ·) (by decide +kernel))
  refine r_mkF (pc := 75) (b := 100) (ci := 9) (k := 19) (n := 102) (ty := .array .int) X hnm K0.1 K0.2.1 hn rfl mU_X9 (by decide) (by decide) rfl rfl (by decide +kernel) rfl rfl mF_X9_245 dX9_init_75 ?_
  refine Ev.sh e1 ?_
  have K1 := K0.mk9 hn e1 (cs2 := cs9_2) (by decide +kernel) (by decide)
  have ha : (pre ++ m9_2)[102]? = some (.inr (0, 9, [])) := (pre_get (j := 2) hb).trans rfl
  exact kk a1 (fun p hp => hd1 p (by omega)) (((((((((K1.arr ha).arr ha).arr ha).arr ha).arr ha).arr ha).arr ha).arr ha).arr ha)
set_option maxRecDepth 100000 in
set_option maxHeartbeats 4000000 in
theorem x9_5 {cells slots : Nat} (X : Cx E p s m args meth c cX9_init RX9 1 none) (hnm : meth.name = "<init>") (hS : E.1 ≤ s.heap.size) (hb : pre.length = 100) (K0 : MK (pre ++ m9_2) h 100 9 cs9_2) (hce : cells + 1 ≤ Rm.cells) (hsl : slots + 9 ≤ Rm.slots)
    (kk : ∀ ad', (∀ p, p < 101 → ad' p = ad p) → MK (pre ++ m9_3) (zR h 103) 100 9 cs9_3 → Ev E ad' (pre ++ m9_3) p l e Rm s m args below meth c (cells + 1) (slots + 9) Q 1 (zR h 103) 86 [some (.ref (ad' 100))] []) : Ev E ad (pre ++ m9_2) p l e Rm s m args below meth c cells slots Q 1 h 78 [some (.ref (ad 100))] [] := by
  have hn : (pre ++ m9_2).length = 103 := by rw [List.length_append, hb]; rfl
  refine r_mk0I (pc := 78) (N := 9) (w := 2) (Z := (Int8.ofInt (9)).toInt32) X hS K0 hn (by decide) (by decide) hce hsl dX9_init_78 (fun q => lv_bipush X.1 X.2.1 dX9_init_79 rfl q) dX9_init_81 (fun a1 hd1 => ?_)
  have e1 : mkL (pre ++ m9_2) 100 9 cs9_2 20 0 9 = pre ++ m9_3 := (mkL_pre hb).trans (congrArg (pre ++ ·) (by decide +kernel))
  refine r_mkF (pc := 83) (b := 100) (ci := 9) (k := 20) (n := 103) (ty := .array .int) X hnm K0.1 K0.2.1 hn rfl mU_X9 (by decide) (by decide) rfl rfl (by decide +kernel) rfl rfl mF_X9_128 dX9_init_83 ?_
  refine Ev.sh e1 ?_
  have K1 := K0.mk9 hn e1 (cs2 := cs9_3) (by decide +kernel) (by decide)
  exact kk a1 (fun p hp => hd1 p (by omega)) K1
set_option maxRecDepth 100000 in
set_option maxHeartbeats 4000000 in
theorem x9_6 {cells slots : Nat} (X : Cx E p s m args meth c cX9_init RX9 1 none) (hnm : meth.name = "<init>") (hS : E.1 ≤ s.heap.size) (hb : pre.length = 100) (K0 : MK (pre ++ m9_3) h 100 9 cs9_3) (hce : cells + 1 ≤ Rm.cells) (hsl : slots + 64 ≤ Rm.slots)
    (kk : ∀ ad', (∀ p, p < 101 → ad' p = ad p) → MK (pre ++ m9_4) (zR h 104) 100 9 cs9_4 → Ev E ad' (pre ++ m9_4) p l e Rm s m args below meth c (cells + 1) (slots + 64) Q 1 (zR h 104) 94 [some (.ref (ad' 100))] []) : Ev E ad (pre ++ m9_3) p l e Rm s m args below meth c cells slots Q 1 h 86 [some (.ref (ad 100))] [] := by
  have hn : (pre ++ m9_3).length = 104 := by rw [List.length_append, hb]; rfl
  refine r_mk0I (pc := 86) (N := 64) (w := 2) (Z := (Int8.ofInt (64)).toInt32) X hS K0 hn (by decide) (by decide) hce hsl dX9_init_86 (fun q => lv_bipush X.1 X.2.1 dX9_init_87 rfl q) dX9_init_89 (fun a1 hd1 => ?_)
  have e1 : mkL (pre ++ m9_3) 100 9 cs9_3 21 0 64 = pre ++ m9_4 := (mkL_pre hb).trans (congrArg (pre ++ ·) (by decide +kernel))
  refine r_mkF (pc := 91) (b := 100) (ci := 9) (k := 21) (n := 104) (ty := .array .int) X hnm K0.1 K0.2.1 hn rfl mU_X9 (by decide) (by decide) rfl rfl (by decide +kernel) rfl rfl mF_X9_248 dX9_init_91 ?_
  refine Ev.sh e1 ?_
  have K1 := K0.mk9 hn e1 (cs2 := cs9_4) (by decide +kernel) (by decide)
  exact kk a1 (fun p hp => hd1 p (by omega)) K1
set_option maxRecDepth 100000 in
set_option maxHeartbeats 4000000 in
theorem x9_7 {cells slots : Nat} (X : Cx E p s m args meth c cX9_init RX9 1 none) (hnm : meth.name = "<init>") (hS : E.1 ≤ s.heap.size) (hb : pre.length = 100) (K0 : MK (pre ++ m9_4) h 100 9 cs9_4) (hce : cells + 1 ≤ Rm.cells) (hsl : slots + 64 ≤ Rm.slots)
    (kk : ∀ ad', (∀ p, p < 101 → ad' p = ad p) → MK (pre ++ m9_5) (zR h 105) 100 9 cs9_5 → Ev E ad' (pre ++ m9_5) p l e Rm s m args below meth c (cells + 1) (slots + 64) Q 1 (zR h 105) 102 [some (.ref (ad' 100))] []) : Ev E ad (pre ++ m9_4) p l e Rm s m args below meth c cells slots Q 1 h 94 [some (.ref (ad 100))] [] := by
  have hn : (pre ++ m9_4).length = 105 := by rw [List.length_append, hb]; rfl
  refine r_mk0I (pc := 94) (N := 64) (w := 2) (Z := (Int8.ofInt (64)).toInt32) X hS K0 hn (by decide) (by decide) hce hsl dX9_init_94 (fun q => lv_bipush X.1 X.2.1 dX9_init_95 rfl q) dX9_init_97 (fun a1 hd1 => ?_)
  have e1 : mkL (pre ++ m9_4) 100 9 cs9_4 22 0 64 = pre ++ m9_5 := (mkL_pre hb).trans (congrArg (pre ++ ·) (by decide +kernel))
  refine r_mkF (pc := 99) (b := 100) (ci := 9) (k := 22) (n := 105) (ty := .array .int) X hnm K0.1 K0.2.1 hn rfl mU_X9 (by decide) (by decide) rfl rfl (by decide +kernel) rfl rfl mF_X9_83 dX9_init_99 ?_
  refine Ev.sh e1 ?_
  have K1 := K0.mk9 hn e1 (cs2 := cs9_5) (by decide +kernel) (by decide)
  exact kk a1 (fun p hp => hd1 p (by omega)) K1
set_option maxRecDepth 100000 in
set_option maxHeartbeats 4000000 in
theorem x9_8 {cells slots : Nat} (X : Cx E p s m args meth c cX9_init RX9 1 none) (hnm : meth.name = "<init>") (hS : E.1 ≤ s.heap.size) (hb : pre.length = 100) (K0 : MK (pre ++ m9_5) h 100 9 cs9_5) (hce : cells + 1 ≤ Rm.cells) (hsl : slots + 3 ≤ Rm.slots)
    (kk : ∀ ad', (∀ p, p < 101 → ad' p = ad p) → MK (pre ++ m9_6) (zR h 106) 100 9 cs9_6 → Ev E ad' (pre ++ m9_6) p l e Rm s m args below meth c (cells + 1) (slots + 3) Q 1 (zR h 106) 109 [some (.ref (ad' 100))] []) : Ev E ad (pre ++ m9_5) p l e Rm s m args below meth c cells slots Q 1 h 102 [some (.ref (ad 100))] [] := by
  have hn : (pre ++ m9_5).length = 106 := by rw [List.length_append, hb]; rfl
  refine r_mk0I (pc := 102) (N := 3) (w := 1) (Z := Int32.ofInt (3)) X hS K0 hn (by decide) (by decide) hce hsl dX9_init_102 (fun q => lv_iconst X.1 X.2.1 dX9_init_103 rfl q) dX9_init_104 (fun a1 hd1 => ?_)
  have e1 : mkL (pre ++ m9_5) 100 9 cs9_5 23 0 3 = pre ++ m9_6 := (mkL_pre hb).trans (congrArg (pre ++ ·) (by decide +kernel))
  refine r_mkF (pc := 106) (b := 100) (ci := 9) (k := 23) (n := 106) (ty := .array .int) X hnm K0.1 K0.2.1 hn rfl mU_X9 (by decide) (by decide) rfl rfl (by decide +kernel) rfl rfl mF_X9_250 dX9_init_106 ?_
  refine Ev.sh e1 ?_
  have K1 := K0.mk9 hn e1 (cs2 := cs9_6) (by decide +kernel) (by decide)
  exact kk a1 (fun p hp => hd1 p (by omega)) K1
set_option maxRecDepth 100000 in
set_option maxHeartbeats 4000000 in
theorem x9_9 {cells slots : Nat} (X : Cx E p s m args meth c cX9_init RX9 1 none) (hnm : meth.name = "<init>") (hS : E.1 ≤ s.heap.size) (hb : pre.length = 100) (K0 : MK (pre ++ m9_6) h 100 9 cs9_6) (hce : cells + 1 ≤ Rm.cells) (hsl : slots + 3 ≤ Rm.slots)
    (kk : ∀ ad', (∀ p, p < 101 → ad' p = ad p) → MK (pre ++ m9_7) (zR h 107) 100 9 cs9_7 → Ev E ad' (pre ++ m9_7) p l e Rm s m args below meth c (cells + 1) (slots + 3) Q 1 (zR h 107) 116 [some (.ref (ad' 100))] []) : Ev E ad (pre ++ m9_6) p l e Rm s m args below meth c cells slots Q 1 h 109 [some (.ref (ad 100))] [] := by
  have hn : (pre ++ m9_6).length = 107 := by rw [List.length_append, hb]; rfl
  refine r_mk0I (pc := 109) (N := 3) (w := 1) (Z := Int32.ofInt (3)) X hS K0 hn (by decide) (by decide) hce hsl dX9_init_109 (fun q => lv_iconst X.1 X.2.1 dX9_init_110 rfl q) dX9_init_111 (fun a1 hd1 => ?_)
  have e1 : mkL (pre ++ m9_6) 100 9 cs9_6 24 0 3 = pre ++ m9_7 := (mkL_pre hb).trans (congrArg (pre ++ ·) (by decide +kernel))
  refine r_mkF (pc := 113) (b := 100) (ci := 9) (k := 24) (n := 107) (ty := .array .int) X hnm K0.1 K0.2.1 hn rfl mU_X9 (by decide) (by decide) rfl rfl (by decide +kernel) rfl rfl mF_X9_98 dX9_init_113 ?_
  refine Ev.sh e1 ?_
  have K1 := K0.mk9 hn e1 (cs2 := cs9_7) (by decide +kernel) (by decide)
  exact kk a1 (fun p hp => hd1 p (by omega)) K1
set_option maxRecDepth 100000 in
set_option maxHeartbeats 4000000 in
theorem x9_10 {cells slots : Nat} (X : Cx E p s m args meth c cX9_init RX9 1 none) (hnm : meth.name = "<init>") (hS : E.1 ≤ s.heap.size) (hb : pre.length = 100) (K0 : MK (pre ++ m9_7) h 100 9 cs9_7) (hce : cells + 1 ≤ Rm.cells) (hsl : slots + 64 ≤ Rm.slots)
    (kk : ∀ ad', (∀ p, p < 101 → ad' p = ad p) → MK (pre ++ m9_8) (zR h 108) 100 9 cs9_8 → Ev E ad' (pre ++ m9_8) p l e Rm s m args below meth c (cells + 1) (slots + 64) Q 1 (zR h 108) 124 [some (.ref (ad' 100))] []) : Ev E ad (pre ++ m9_7) p l e Rm s m args below meth c cells slots Q 1 h 116 [some (.ref (ad 100))] [] := by
  have hn : (pre ++ m9_7).length = 108 := by rw [List.length_append, hb]; rfl
  refine r_mk0Z (pc := 116) (N := 64) (w := 2) (Z := (Int8.ofInt (64)).toInt32) X hS K0 hn (by decide) (by decide) hce hsl dX9_init_116 (fun q => lv_bipush X.1 X.2.1 dX9_init_117 rfl q) dX9_init_119 (fun a1 hd1 => ?_)
  have e1 : mkL (pre ++ m9_7) 100 9 cs9_7 25 2 64 = pre ++ m9_8 := (mkL_pre hb).trans (congrArg (pre ++ ·) (by decide +kernel))
  refine r_mkF (pc := 121) (b := 100) (ci := 9) (k := 25) (n := 108) (ty := .array .boolean) X hnm K0.1 K0.2.1 hn rfl mU_X9 (by decide) (by decide) rfl rfl (by decide +kernel) rfl rfl mF_X9_253 dX9_init_121 ?_
  refine Ev.sh e1 ?_
  have K1 := K0.mk9 hn e1 (cs2 := cs9_8) (by decide +kernel) (by decide)
  exact kk a1 (fun p hp => hd1 p (by omega)) K1
set_option maxRecDepth 100000 in
set_option maxHeartbeats 4000000 in
theorem x9_11 {cells slots : Nat} (X : Cx E p s m args meth c cX9_init RX9 1 none) (hnm : meth.name = "<init>") (hS : E.1 ≤ s.heap.size) (hb : pre.length = 100) (K0 : MK (pre ++ m9_8) h 100 9 cs9_8) (hce : cells + 1 ≤ Rm.cells) (hsl : slots + 64 ≤ Rm.slots)
    (kk : ∀ ad', (∀ p, p < 101 → ad' p = ad p) → MK (pre ++ m9_9) (zR h 109) 100 9 cs9_9 → Ev E ad' (pre ++ m9_9) p l e Rm s m args below meth c (cells + 1) (slots + 64) Q 1 (zR h 109) 132 [some (.ref (ad' 100))] []) : Ev E ad (pre ++ m9_8) p l e Rm s m args below meth c cells slots Q 1 h 124 [some (.ref (ad 100))] [] := by
  have hn : (pre ++ m9_8).length = 109 := by rw [List.length_append, hb]; rfl
  refine r_mk0Z (pc := 124) (N := 64) (w := 2) (Z := (Int8.ofInt (64)).toInt32) X hS K0 hn (by decide) (by decide) hce hsl dX9_init_124 (fun q => lv_bipush X.1 X.2.1 dX9_init_125 rfl q) dX9_init_127 (fun a1 hd1 => ?_)
  have e1 : mkL (pre ++ m9_8) 100 9 cs9_8 26 2 64 = pre ++ m9_9 := (mkL_pre hb).trans (congrArg (pre ++ ·) (by decide +kernel))
  refine r_mkF (pc := 129) (b := 100) (ci := 9) (k := 26) (n := 109) (ty := .array .boolean) X hnm K0.1 K0.2.1 hn rfl mU_X9 (by decide) (by decide) rfl rfl (by decide +kernel) rfl rfl mF_X9_91 dX9_init_129 ?_
  refine Ev.sh e1 ?_
  have K1 := K0.mk9 hn e1 (cs2 := cs9_9) (by decide +kernel) (by decide)
  exact kk a1 (fun p hp => hd1 p (by omega)) K1
set_option maxRecDepth 100000 in
set_option maxHeartbeats 4000000 in
theorem x9_12 {cells slots : Nat} (X : Cx E p s m args meth c cX9_init RX9 1 none) (hnm : meth.name = "<init>") (hS : E.1 ≤ s.heap.size) (hb : pre.length = 100) (K0 : MK (pre ++ m9_9) h 100 9 cs9_9) (hce : cells + 1 ≤ Rm.cells) (hsl : slots + 36 ≤ Rm.slots)
    (kk : ∀ ad', (∀ p, p < 101 → ad' p = ad p) → MK (pre ++ m9_10) (zR h 110) 100 9 cs9_10 → Ev E ad' (pre ++ m9_10) p l e Rm s m args below meth c (cells + 1) (slots + 36) Q 1 (zR h 110) 140 [some (.ref (ad' 100))] []) : Ev E ad (pre ++ m9_9) p l e Rm s m args below meth c cells slots Q 1 h 132 [some (.ref (ad 100))] [] := by
  have hn : (pre ++ m9_9).length = 110 := by rw [List.length_append, hb]; rfl
  refine r_mk0I (pc := 132) (N := 36) (w := 2) (Z := (Int8.ofInt (36)).toInt32) X hS K0 hn (by decide) (by decide) hce hsl dX9_init_132 (fun q => lv_bipush X.1 X.2.1 dX9_init_133 rfl q) dX9_init_135 (fun a1 hd1 => ?_)
  have e1 : mkL (pre ++ m9_9) 100 9 cs9_9 31 0 36 = pre ++ m9_10 := (mkL_pre hb).trans (congrArg (pre ++ ·) (by decide +kernel))
  refine r_mkF (pc := 137) (b := 100) (ci := 9) (k := 31) (n := 110) (ty := .array .int) X hnm K0.1 K0.2.1 hn rfl mU_X9 (by decide) (by decide) rfl rfl (by decide +kernel) rfl rfl mF_X9_256 dX9_init_137 ?_
  refine Ev.sh e1 ?_
  have K1 := K0.mk9 hn e1 (cs2 := cs9_10) (by decide +kernel) (by decide)
  exact kk a1 (fun p hp => hd1 p (by omega)) K1
set_option maxRecDepth 100000 in
set_option maxHeartbeats 4000000 in
theorem x9_13 {cells slots : Nat} (X : Cx E p s m args meth c cX9_init RX9 1 none) (hnm : meth.name = "<init>") (hS : E.1 ≤ s.heap.size) (hb : pre.length = 100) (K0 : MK (pre ++ m9_10) h 100 9 cs9_10) (hce : cells + 1 ≤ Rm.cells) (hsl : slots + 36 ≤ Rm.slots)
    (kk : ∀ ad', (∀ p, p < 101 → ad' p = ad p) → MK (pre ++ m9_11) (zR h 111) 100 9 cs9_11 → Ev E ad' (pre ++ m9_11) p l e Rm s m args below meth c (cells + 1) (slots + 36) Q 1 (zR h 111) 148 [some (.ref (ad' 100))] []) : Ev E ad (pre ++ m9_10) p l e Rm s m args below meth c cells slots Q 1 h 140 [some (.ref (ad 100))] [] := by
  have hn : (pre ++ m9_10).length = 111 := by rw [List.length_append, hb]; rfl
  refine r_mk0I (pc := 140) (N := 36) (w := 2) (Z := (Int8.ofInt (36)).toInt32) X hS K0 hn (by decide) (by decide) hce hsl dX9_init_140 (fun q => lv_bipush X.1 X.2.1 dX9_init_141 rfl q) dX9_init_143 (fun a1 hd1 => ?_)
  have e1 : mkL (pre ++ m9_10) 100 9 cs9_10 32 0 36 = pre ++ m9_11 := (mkL_pre hb).trans (congrArg (pre ++ ·) (by decide +kernel))
  refine r_mkF (pc := 145) (b := 100) (ci := 9) (k := 32) (n := 111) (ty := .array .int) X hnm K0.1 K0.2.1 hn rfl mU_X9 (by decide) (by decide) rfl rfl (by decide +kernel) rfl rfl mF_X9_165 dX9_init_145 ?_
  refine Ev.sh e1 ?_
  have K1 := K0.mk9 hn e1 (cs2 := cs9_11) (by decide +kernel) (by decide)
  exact kk a1 (fun p hp => hd1 p (by omega)) K1
set_option maxRecDepth 100000 in
set_option maxHeartbeats 4000000 in
theorem x9_14 {cells slots : Nat} (X : Cx E p s m args meth c cX9_init RX9 1 none) (hnm : meth.name = "<init>") (hS : E.1 ≤ s.heap.size) (hb : pre.length = 100) (K0 : MK (pre ++ m9_11) h 100 9 cs9_11) (hce : cells + 1 ≤ Rm.cells) (hsl : slots + 4 ≤ Rm.slots)
    (kk : ∀ ad', (∀ p, p < 101 → ad' p = ad p) → MK (pre ++ m9_12) (set2 (set2 (set2 (set2 (zR h 112) 112 0 (-1)) 112 1 (-1)) 112 2 (-1)) 112 3 (-1)) 100 9 cs9_12 → Ev E ad' (pre ++ m9_12) p l e Rm s m args below meth c (cells + 1) (slots + 4) Q 1 (set2 (set2 (set2 (set2 (zR h 112) 112 0 (-1)) 112 1 (-1)) 112 2 (-1)) 112 3 (-1)) 171 [some (.ref (ad' 100))] []) : Ev E ad (pre ++ m9_11) p l e Rm s m args below meth c cells slots Q 1 h 148 [some (.ref (ad 100))] [] := by
  have hn : (pre ++ m9_11).length = 112 := by rw [List.length_append, hb]; rfl
  refine r_mk0I (pc := 148) (N := 4) (w := 1) (Z := Int32.ofInt (4)) X hS K0 hn (by decide) (by decide) hce hsl dX9_init_148 (fun q => lv_iconst X.1 X.2.1 dX9_init_149 rfl q) dX9_init_150 (fun a1 hd1 => ?_)
  refine r_ini (pc := 152) (a := 112) (n := 4) (i := 0) (v := -1) (w1 := 1) (w2 := 1) (I := Int32.ofInt (0)) (V := Int32.ofInt (-1)) X (row_last hn) (by decide) (by decide) (by decide) dX9_init_152 (fun q => lv_iconst X.1 X.2.1 dX9_init_153 rfl q) (fun q => lv_iconst X.1 X.2.1 dX9_init_154 rfl q) dX9_init_155 ?_
  refine r_ini (pc := 156) (a := 112) (n := 4) (i := 1) (v := -1) (w1 := 1) (w2 := 1) (I := Int32.ofInt (1)) (V := Int32.ofInt (-1)) X (row_last hn) (by decide) (by decide) (by decide) dX9_init_156 (fun q => lv_iconst X.1 X.2.1 dX9_init_157 rfl q) (fun q => lv_iconst X.1 X.2.1 dX9_init_158 rfl q) dX9_init_159 ?_
  refine r_ini (pc := 160) (a := 112) (n := 4) (i := 2) (v := -1) (w1 := 1) (w2 := 1) (I := Int32.ofInt (2)) (V := Int32.ofInt (-1)) X (row_last hn) (by decide) (by decide) (by decide) dX9_init_160 (fun q => lv_iconst X.1 X.2.1 dX9_init_161 rfl q) (fun q => lv_iconst X.1 X.2.1 dX9_init_162 rfl q) dX9_init_163 ?_
  refine r_ini (pc := 164) (a := 112) (n := 4) (i := 3) (v := -1) (w1 := 1) (w2 := 1) (I := Int32.ofInt (3)) (V := Int32.ofInt (-1)) X (row_last hn) (by decide) (by decide) (by decide) dX9_init_164 (fun q => lv_iconst X.1 X.2.1 dX9_init_165 rfl q) (fun q => lv_iconst X.1 X.2.1 dX9_init_166 rfl q) dX9_init_167 ?_
  have e1 : mkL (pre ++ m9_11) 100 9 cs9_11 33 0 4 = pre ++ m9_12 := (mkL_pre hb).trans (congrArg (pre ++ ·) (by decide +kernel))
  refine r_mkF (pc := 168) (b := 100) (ci := 9) (k := 33) (n := 112) (ty := .array .int) X hnm K0.1 K0.2.1 hn rfl mU_X9 (by decide) (by decide) rfl rfl (by decide +kernel) rfl rfl mF_X9_258 dX9_init_168 ?_
  refine Ev.sh e1 ?_
  have K1 := K0.mk9 hn e1 (cs2 := cs9_12) (by decide +kernel) (by decide)
  have ha : (pre ++ m9_12)[112]? = some (.inr (0, 4, [])) := (pre_get (j := 12) hb).trans rfl
  exact kk a1 (fun p hp => hd1 p (by omega)) ((((K1.arr ha).arr ha).arr ha).arr ha)
set_option maxRecDepth 100000 in
set_option maxHeartbeats 4000000 in
theorem x9_15 {cells slots : Nat} (X : Cx E p s m args meth c cX9_init RX9 1 none) (hnm : meth.name = "<init>") (hS : E.1 ≤ s.heap.size) (hb : pre.length = 100) (K0 : MK (pre ++ m9_12) h 100 9 cs9_12) (hce : cells + 1 ≤ Rm.cells) (hsl : slots + 4 ≤ Rm.slots)
    (kk : ∀ ad', (∀ p, p < 101 → ad' p = ad p) → MK (pre ++ m9_13) (zR h 113) 100 9 cs9_13 → Ev E ad' (pre ++ m9_13) p l e Rm s m args below meth c (cells + 1) (slots + 4) Q 1 (zR h 113) 178 [some (.ref (ad' 100))] []) : Ev E ad (pre ++ m9_12) p l e Rm s m args below meth c cells slots Q 1 h 171 [some (.ref (ad 100))] [] := by
  have hn : (pre ++ m9_12).length = 113 := by rw [List.length_append, hb]; rfl
  refine r_mk0I (pc := 171) (N := 4) (w := 1) (Z := Int32.ofInt (4)) X hS K0 hn (by decide) (by decide) hce hsl dX9_init_171 (fun q => lv_iconst X.1 X.2.1 dX9_init_172 rfl q) dX9_init_173 (fun a1 hd1 => ?_)
  have e1 : mkL (pre ++ m9_12) 100 9 cs9_12 34 0 4 = pre ++ m9_13 := (mkL_pre hb).trans (congrArg (pre ++ ·) (by decide +kernel))
  refine r_mkF (pc := 175) (b := 100) (ci := 9) (k := 34) (n := 113) (ty := .array .int) X hnm K0.1 K0.2.1 hn rfl mU_X9 (by decide) (by decide) rfl rfl (by decide +kernel) rfl rfl mF_X9_168 dX9_init_175 ?_
  refine Ev.sh e1 ?_
  have K1 := K0.mk9 hn e1 (cs2 := cs9_13) (by decide +kernel) (by decide)
  exact kk a1 (fun p hp => hd1 p (by omega)) K1
set_option maxRecDepth 100000 in
set_option maxHeartbeats 4000000 in
theorem x9_16 {cells slots : Nat} (X : Cx E p s m args meth c cX9_init RX9 1 none) (hnm : meth.name = "<init>") (hS : E.1 ≤ s.heap.size) (hb : pre.length = 100) (K0 : MK (pre ++ m9_13) h 100 9 cs9_13) (hce : cells + 1 ≤ Rm.cells) (hsl : slots + 2 ≤ Rm.slots)
    (kk : ∀ ad', (∀ p, p < 101 → ad' p = ad p) → MK (pre ++ m9_14) (set2 (set2 (zR h 114) 114 0 (1)) 114 1 (3)) 100 9 cs9_14 → Ev E ad' (pre ++ m9_14) p l e Rm s m args below meth c (cells + 1) (slots + 2) Q 1 (set2 (set2 (zR h 114) 114 0 (1)) 114 1 (3)) 193 [some (.ref (ad' 100))] []) : Ev E ad (pre ++ m9_13) p l e Rm s m args below meth c cells slots Q 1 h 178 [some (.ref (ad 100))] [] := by
  have hn : (pre ++ m9_13).length = 114 := by rw [List.length_append, hb]; rfl
  refine r_mk0I (pc := 178) (N := 2) (w := 1) (Z := Int32.ofInt (2)) X hS K0 hn (by decide) (by decide) hce hsl dX9_init_178 (fun q => lv_iconst X.1 X.2.1 dX9_init_179 rfl q) dX9_init_180 (fun a1 hd1 => ?_)
  refine r_ini (pc := 182) (a := 114) (n := 2) (i := 0) (v := 1) (w1 := 1) (w2 := 1) (I := Int32.ofInt (0)) (V := Int32.ofInt (1)) X (row_last hn) (by decide) (by decide) (by decide) dX9_init_182 (fun q => lv_iconst X.1 X.2.1 dX9_init_183 rfl q) (fun q => lv_iconst X.1 X.2.1 dX9_init_184 rfl q) dX9_init_185 ?_
  refine r_ini (pc := 186) (a := 114) (n := 2) (i := 1) (v := 3) (w1 := 1) (w2 := 1) (I := Int32.ofInt (1)) (V := Int32.ofInt (3)) X (row_last hn) (by decide) (by decide) (by decide) dX9_init_186 (fun q => lv_iconst X.1 X.2.1 dX9_init_187 rfl q) (fun q => lv_iconst X.1 X.2.1 dX9_init_188 rfl q) dX9_init_189 ?_
  have e1 : mkL (pre ++ m9_13) 100 9 cs9_13 35 0 2 = pre ++ m9_14 := (mkL_pre hb).trans (congrArg (pre ++ ·) (by decide +kernel))
  refine r_mkF (pc := 190) (b := 100) (ci := 9) (k := 35) (n := 114) (ty := .array .int) X hnm K0.1 K0.2.1 hn rfl mU_X9 (by decide) (by decide) rfl rfl (by decide +kernel) rfl rfl mF_X9_260 dX9_init_190 ?_
  refine Ev.sh e1 ?_
  have K1 := K0.mk9 hn e1 (cs2 := cs9_14) (by decide +kernel) (by decide)
  have ha : (pre ++ m9_14)[114]? = some (.inr (0, 2, [])) := (pre_get (j := 14) hb).trans rfl
  exact kk a1 (fun p hp => hd1 p (by omega)) ((K1.arr ha).arr ha)
set_option maxRecDepth 100000 in
set_option maxHeartbeats 4000000 in
theorem x9_17 {cells slots : Nat} (X : Cx E p s m args meth c cX9_init RX9 1 none) (hnm : meth.name = "<init>") (hS : E.1 ≤ s.heap.size) (hb : pre.length = 100) (K0 : MK (pre ++ m9_14) h 100 9 cs9_14) (hce : cells + 1 ≤ Rm.cells) (hsl : slots + 2 ≤ Rm.slots)
    (kk : ∀ ad', (∀ p, p < 101 → ad' p = ad p) → MK (pre ++ m9_15) (set2 (set2 (zR h 115) 115 0 (4)) 115 1 (8)) 100 9 cs9_15 → Ev E ad' (pre ++ m9_15) p l e Rm s m args below meth c (cells + 1) (slots + 2) Q 1 (set2 (set2 (zR h 115) 115 0 (4)) 115 1 (8)) 209 [some (.ref (ad' 100))] []) : Ev E ad (pre ++ m9_14) p l e Rm s m args below meth c cells slots Q 1 h 193 [some (.ref (ad 100))] [] := by
  have hn : (pre ++ m9_14).length = 115 := by rw [List.length_append, hb]; rfl
  refine r_mk0I (pc := 193) (N := 2) (w := 1) (Z := Int32.ofInt (2)) X hS K0 hn (by decide) (by decide) hce hsl dX9_init_193 (fun q => lv_iconst X.1 X.2.1 dX9_init_194 rfl q) dX9_init_195 (fun a1 hd1 => ?_)
  refine r_ini (pc := 197) (a := 115) (n := 2) (i := 0) (v := 4) (w1 := 1) (w2 := 1) (I := Int32.ofInt (0)) (V := Int32.ofInt (4)) X (row_last hn) (by decide) (by decide) (by decide) dX9_init_197 (fun q => lv_iconst X.1 X.2.1 dX9_init_198 rfl q) (fun q => lv_iconst X.1 X.2.1 dX9_init_199 rfl q) dX9_init_200 ?_
  refine r_ini (pc := 201) (a := 115) (n := 2) (i := 1) (v := 8) (w1 := 1) (w2 := 2) (I := Int32.ofInt (1)) (V := (Int8.ofInt (8)).toInt32) X (row_last hn) (by decide) (by decide) (by decide) dX9_init_201 (fun q => lv_iconst X.1 X.2.1 dX9_init_202 rfl q) (fun q => lv_bipush X.1 X.2.1 dX9_init_203 rfl q) dX9_init_205 ?_
  have e1 : mkL (pre ++ m9_14) 100 9 cs9_14 36 0 2 = pre ++ m9_15 := (mkL_pre hb).trans (congrArg (pre ++ ·) (by decide +kernel))
  refine r_mkF (pc := 206) (b := 100) (ci := 9) (k := 36) (n := 115) (ty := .array .int) X hnm K0.1 K0.2.1 hn rfl mU_X9 (by decide) (by decide) rfl rfl (by decide +kernel) rfl rfl mF_X9_262 dX9_init_206 ?_
  refine Ev.sh e1 ?_
  have K1 := K0.mk9 hn e1 (cs2 := cs9_15) (by decide +kernel) (by decide)
  have ha : (pre ++ m9_15)[115]? = some (.inr (0, 2, [])) := (pre_get (j := 15) hb).trans rfl
  exact kk a1 (fun p hp => hd1 p (by omega)) ((K1.arr ha).arr ha)
set_option maxRecDepth 100000 in
set_option maxHeartbeats 4000000 in
theorem x9_18 {cells slots : Nat} (X : Cx E p s m args meth c cX9_init RX9 1 none) (hnm : meth.name = "<init>") (hS : E.1 ≤ s.heap.size) (hb : pre.length = 100) (K0 : MK (pre ++ m9_15) h 100 9 cs9_15) (hce : cells + 1 ≤ Rm.cells) (hsl : slots + 2 ≤ Rm.slots)
    (kk : ∀ ad', (∀ p, p < 101 → ad' p = ad p) → MK (pre ++ m9_16) (zR h 116) 100 9 cs9_16 → Ev E ad' (pre ++ m9_16) p l e Rm s m args below meth c (cells + 1) (slots + 2) Q 1 (zR h 116) 216 [some (.ref (ad' 100))] []) : Ev E ad (pre ++ m9_15) p l e Rm s m args below meth c cells slots Q 1 h 209 [some (.ref (ad 100))] [] := by
  have hn : (pre ++ m9_15).length = 116 := by rw [List.length_append, hb]; rfl
  refine r_mk0I (pc := 209) (N := 2) (w := 1) (Z := Int32.ofInt (2)) X hS K0 hn (by decide) (by decide) hce hsl dX9_init_209 (fun q => lv_iconst X.1 X.2.1 dX9_init_210 rfl q) dX9_init_211 (fun a1 hd1 => ?_)
  have e1 : mkL (pre ++ m9_15) 100 9 cs9_15 37 0 2 = pre ++ m9_16 := (mkL_pre hb).trans (congrArg (pre ++ ·) (by decide +kernel))
  refine r_mkF (pc := 213) (b := 100) (ci := 9) (k := 37) (n := 116) (ty := .array .int) X hnm K0.1 K0.2.1 hn rfl mU_X9 (by decide) (by decide) rfl rfl (by decide +kernel) rfl rfl mF_X9_181 dX9_init_213 ?_
  refine Ev.sh e1 ?_
  have K1 := K0.mk9 hn e1 (cs2 := cs9_16) (by decide +kernel) (by decide)
  exact kk a1 (fun p hp => hd1 p (by omega)) K1
set_option maxRecDepth 100000 in
set_option maxHeartbeats 4000000 in
theorem x9_19 {cells slots : Nat} (X : Cx E p s m args meth c cX9_init RX9 1 none) (hnm : meth.name = "<init>") (hS : E.1 ≤ s.heap.size) (hb : pre.length = 100) (K0 : MK (pre ++ m9_16) h 100 9 cs9_16) (hce : cells + 1 ≤ Rm.cells) (hsl : slots + 2 ≤ Rm.slots)
    (kk : ∀ ad', (∀ p, p < 101 → ad' p = ad p) → MK (pre ++ m9_17) (zR h 117) 100 9 cs9_17 → Ev E ad' (pre ++ m9_17) p l e Rm s m args below meth c (cells + 1) (slots + 2) Q 1 (zR h 117) 223 [some (.ref (ad' 100))] []) : Ev E ad (pre ++ m9_16) p l e Rm s m args below meth c cells slots Q 1 h 216 [some (.ref (ad 100))] [] := by
  have hn : (pre ++ m9_16).length = 117 := by rw [List.length_append, hb]; rfl
  refine r_mk0I (pc := 216) (N := 2) (w := 1) (Z := Int32.ofInt (2)) X hS K0 hn (by decide) (by decide) hce hsl dX9_init_216 (fun q => lv_iconst X.1 X.2.1 dX9_init_217 rfl q) dX9_init_218 (fun a1 hd1 => ?_)
  have e1 : mkL (pre ++ m9_16) 100 9 cs9_16 38 0 2 = pre ++ m9_17 := (mkL_pre hb).trans (congrArg (pre ++ ·) (by decide +kernel))
  refine r_mkF (pc := 220) (b := 100) (ci := 9) (k := 38) (n := 117) (ty := .array .int) X hnm K0.1 K0.2.1 hn rfl mU_X9 (by decide) (by decide) rfl rfl (by decide +kernel) rfl rfl mF_X9_188 dX9_init_220 ?_
  refine Ev.sh e1 ?_
  have K1 := K0.mk9 hn e1 (cs2 := cs9_17) (by decide +kernel) (by decide)
  exact kk a1 (fun p hp => hd1 p (by omega)) K1
set_option maxRecDepth 100000 in
set_option maxHeartbeats 4000000 in
theorem x9_20 {cells slots : Nat} (X : Cx E p s m args meth c cX9_init RX9 1 none) (K0 : MK (pre ++ m9_17) h 100 9 cs9_17)
    (kk : MK (pre ++ m9_17) (set2 h 100 39 (1)) 100 9 cs9_17 → Ev E ad (pre ++ m9_17) p l e Rm s m args below meth c cells slots Q 1 (set2 h 100 39 (1)) 228 [some (.ref (ad 100))] []) : Ev E ad (pre ++ m9_17) p l e Rm s m args below meth c cells slots Q 1 h 223 [some (.ref (ad 100))] [] := by
  refine r_stI (pc := 223) (b := 100) (k := 39) (w := 1) (Z := Int32.ofInt (1)) (v := 1) X K0.1 rfl mU_X9 (by decide) rfl rfl rfl mF_X9_264 (by decide) rfl dX9_init_223 (fun q => lv_iconst X.1 X.2.1 dX9_init_224 rfl q) dX9_init_225 ?_
  exact kk (K0.set (k := 39) (x := 1) rfl)
set_option maxRecDepth 100000 in
set_option maxHeartbeats 4000000 in
theorem x9_21 {cells slots : Nat} (X : Cx E p s m args meth c cX9_init RX9 1 none) (hnm : meth.name = "<init>") (hS : E.1 ≤ s.heap.size) (hb : pre.length = 100) (K0 : MK (pre ++ m9_17) h 100 9 cs9_17) (hce : cells + 1 ≤ Rm.cells) (hsl : slots + 3 ≤ Rm.slots)
    (kk : ∀ ad', (∀ p, p < 101 → ad' p = ad p) → MK (pre ++ m9_18) (zR h 118) 100 9 cs9_18 → Ev E ad' (pre ++ m9_18) p l e Rm s m args below meth c (cells + 1) (slots + 3) Q 1 (zR h 118) 235 [some (.ref (ad' 100))] []) : Ev E ad (pre ++ m9_17) p l e Rm s m args below meth c cells slots Q 1 h 228 [some (.ref (ad 100))] [] := by
  have hn : (pre ++ m9_17).length = 118 := by rw [List.length_append, hb]; rfl
  refine r_mk0I (pc := 228) (N := 3) (w := 1) (Z := Int32.ofInt (3)) X hS K0 hn (by decide) (by decide) hce hsl dX9_init_228 (fun q => lv_iconst X.1 X.2.1 dX9_init_229 rfl q) dX9_init_230 (fun a1 hd1 => ?_)
  have e1 : mkL (pre ++ m9_17) 100 9 cs9_17 43 0 3 = pre ++ m9_18 := (mkL_pre hb).trans (congrArg (pre ++ ·) (by decide +kernel))
  refine r_mkF (pc := 232) (b := 100) (ci := 9) (k := 43) (n := 118) (ty := .array .int) X hnm K0.1 K0.2.1 hn rfl mU_X9 (by decide) (by decide) rfl rfl (by decide +kernel) rfl rfl mF_X9_266 dX9_init_232 ?_
  refine Ev.sh e1 ?_
  have K1 := K0.mk9 hn e1 (cs2 := cs9_18) (by decide +kernel) (by decide)
  exact kk a1 (fun p hp => hd1 p (by omega)) K1
set_option maxRecDepth 100000 in
set_option maxHeartbeats 4000000 in
theorem x9_22 {cells slots : Nat} (X : Cx E p s m args meth c cX9_init RX9 1 none) (hnm : meth.name = "<init>") (hS : E.1 ≤ s.heap.size) (hb : pre.length = 100) (K0 : MK (pre ++ m9_18) h 100 9 cs9_18) (hce : cells + 1 ≤ Rm.cells) (hsl : slots + 12 ≤ Rm.slots)
    (kk : ∀ ad', (∀ p, p < 101 → ad' p = ad p) → MK (pre ++ m9_19) (zR h 119) 100 9 cs9_19 → Ev E ad' (pre ++ m9_19) p l e Rm s m args below meth c (cells + 1) (slots + 12) Q 1 (zR h 119) 243 [some (.ref (ad' 100))] []) : Ev E ad (pre ++ m9_18) p l e Rm s m args below meth c cells slots Q 1 h 235 [some (.ref (ad 100))] [] := by
  have hn : (pre ++ m9_18).length = 119 := by rw [List.length_append, hb]; rfl
  refine r_mk0I (pc := 235) (N := 12) (w := 2) (Z := (Int8.ofInt (12)).toInt32) X hS K0 hn (by decide) (by decide) hce hsl dX9_init_235 (fun q => lv_bipush X.1 X.2.1 dX9_init_236 rfl q) dX9_init_238 (fun a1 hd1 => ?_)
  have e1 : mkL (pre ++ m9_18) 100 9 cs9_18 44 0 12 = pre ++ m9_19 := (mkL_pre hb).trans (congrArg (pre ++ ·) (by decide +kernel))
  refine r_mkF (pc := 240) (b := 100) (ci := 9) (k := 44) (n := 119) (ty := .array .int) X hnm K0.1 K0.2.1 hn rfl mU_X9 (by decide) (by decide) rfl rfl (by decide +kernel) rfl rfl mF_X9_228 dX9_init_240 ?_
  refine Ev.sh e1 ?_
  have K1 := K0.mk9 hn e1 (cs2 := cs9_19) (by decide +kernel) (by decide)
  exact kk a1 (fun p hp => hd1 p (by omega)) K1
set_option maxRecDepth 100000 in
set_option maxHeartbeats 4000000 in
theorem x9_23 {cells slots : Nat} (X : Cx E p s m args meth c cX9_init RX9 1 none) (hnm : meth.name = "<init>") (hS : E.1 ≤ s.heap.size) (hb : pre.length = 100) (K0 : MK (pre ++ m9_19) h 100 9 cs9_19) (hce : cells + 1 ≤ Rm.cells) (hsl : slots + 288 ≤ Rm.slots)
    (kk : ∀ ad', (∀ p, p < 101 → ad' p = ad p) → MK (pre ++ m9_20) (zR h 120) 100 9 cs9_20 → Ev E ad' (pre ++ m9_20) p l e Rm s m args below meth c (cells + 1) (slots + 288) Q 1 (zR h 120) 252 [some (.ref (ad' 100))] []) : Ev E ad (pre ++ m9_19) p l e Rm s m args below meth c cells slots Q 1 h 243 [some (.ref (ad 100))] [] := by
  have hn : (pre ++ m9_19).length = 120 := by rw [List.length_append, hb]; rfl
  refine r_mk0I (pc := 243) (N := 288) (w := 3) (Z := (Int16.ofInt (288)).toInt32) X hS K0 hn (by decide) (by decide) hce hsl dX9_init_243 (fun q => lv_sipush X.1 X.2.1 dX9_init_244 rfl q) dX9_init_247 (fun a1 hd1 => ?_)
  have e1 : mkL (pre ++ m9_19) 100 9 cs9_19 45 0 288 = pre ++ m9_20 := (mkL_pre hb).trans (congrArg (pre ++ ·) (by decide +kernel))
  refine r_mkF (pc := 249) (b := 100) (ci := 9) (k := 45) (n := 120) (ty := .array .int) X hnm K0.1 K0.2.1 hn rfl mU_X9 (by decide) (by decide) rfl rfl (by decide +kernel) rfl rfl mF_X9_207 dX9_init_249 ?_
  refine Ev.sh e1 ?_
  have K1 := K0.mk9 hn e1 (cs2 := cs9_20) (by decide +kernel) (by decide)
  exact kk a1 (fun p hp => hd1 p (by omega)) K1
set_option maxRecDepth 100000 in
set_option maxHeartbeats 4000000 in
theorem x9_24 {cells slots : Nat} (X : Cx E p s m args meth c cX9_init RX9 1 none) (hnm : meth.name = "<init>") (hS : E.1 ≤ s.heap.size) (hb : pre.length = 100) (K0 : MK (pre ++ m9_20) h 100 9 cs9_20) (hce : cells + 1 ≤ Rm.cells) (hsl : slots + 289 ≤ Rm.slots)
    (kk : ∀ ad', (∀ p, p < 101 → ad' p = ad p) → MK (pre ++ m9_21) (zR h 121) 100 9 cs9_21 → Ev E ad' (pre ++ m9_21) p l e Rm s m args below meth c (cells + 1) (slots + 289) Q 1 (zR h 121) 261 [some (.ref (ad' 100))] []) : Ev E ad (pre ++ m9_20) p l e Rm s m args below meth c cells slots Q 1 h 252 [some (.ref (ad 100))] [] := by
  have hn : (pre ++ m9_20).length = 121 := by rw [List.length_append, hb]; rfl
  refine r_mk0I (pc := 252) (N := 289) (w := 3) (Z := (Int16.ofInt (289)).toInt32) X hS K0 hn (by decide) (by decide) hce hsl dX9_init_252 (fun q => lv_sipush X.1 X.2.1 dX9_init_253 rfl q) dX9_init_256 (fun a1 hd1 => ?_)
  have e1 : mkL (pre ++ m9_20) 100 9 cs9_20 46 0 289 = pre ++ m9_21 := (mkL_pre hb).trans (congrArg (pre ++ ·) (by decide +kernel))
  refine r_mkF (pc := 258) (b := 100) (ci := 9) (k := 46) (n := 121) (ty := .array .int) X hnm K0.1 K0.2.1 hn rfl mU_X9 (by decide) (by decide) rfl rfl (by decide +kernel) rfl rfl mF_X9_269 dX9_init_258 ?_
  refine Ev.sh e1 ?_
  have K1 := K0.mk9 hn e1 (cs2 := cs9_21) (by decide +kernel) (by decide)
  exact kk a1 (fun p hp => hd1 p (by omega)) K1
set_option maxRecDepth 100000 in
set_option maxHeartbeats 4000000 in
theorem x9_25 {cells slots : Nat} (X : Cx E p s m args meth c cX9_init RX9 1 none) (hnm : meth.name = "<init>") (hS : E.1 ≤ s.heap.size) (hb : pre.length = 100) (K0 : MK (pre ++ m9_21) h 100 9 cs9_21) (hce : cells + 1 ≤ Rm.cells) (hsl : slots + 289 ≤ Rm.slots)
    (kk : ∀ ad', (∀ p, p < 101 → ad' p = ad p) → MK (pre ++ m9_22) (zR h 122) 100 9 cs9_22 → Ev E ad' (pre ++ m9_22) p l e Rm s m args below meth c (cells + 1) (slots + 289) Q 1 (zR h 122) 270 [some (.ref (ad' 100))] []) : Ev E ad (pre ++ m9_21) p l e Rm s m args below meth c cells slots Q 1 h 261 [some (.ref (ad 100))] [] := by
  have hn : (pre ++ m9_21).length = 122 := by rw [List.length_append, hb]; rfl
  refine r_mk0I (pc := 261) (N := 289) (w := 3) (Z := (Int16.ofInt (289)).toInt32) X hS K0 hn (by decide) (by decide) hce hsl dX9_init_261 (fun q => lv_sipush X.1 X.2.1 dX9_init_262 rfl q) dX9_init_265 (fun a1 hd1 => ?_)
  have e1 : mkL (pre ++ m9_21) 100 9 cs9_21 47 0 289 = pre ++ m9_22 := (mkL_pre hb).trans (congrArg (pre ++ ·) (by decide +kernel))
  refine r_mkF (pc := 267) (b := 100) (ci := 9) (k := 47) (n := 122) (ty := .array .int) X hnm K0.1 K0.2.1 hn rfl mU_X9 (by decide) (by decide) rfl rfl (by decide +kernel) rfl rfl mF_X9_272 dX9_init_267 ?_
  refine Ev.sh e1 ?_
  have K1 := K0.mk9 hn e1 (cs2 := cs9_22) (by decide +kernel) (by decide)
  exact kk a1 (fun p hp => hd1 p (by omega)) K1
set_option maxRecDepth 100000 in
set_option maxHeartbeats 4000000 in
theorem x9_26 {cells slots : Nat} (X : Cx E p s m args meth c cX9_init RX9 1 none) (hnm : meth.name = "<init>") (hS : E.1 ≤ s.heap.size) (hb : pre.length = 100) (K0 : MK (pre ++ m9_22) h 100 9 cs9_22) (hce : cells + 1 ≤ Rm.cells) (hsl : slots + 867 ≤ Rm.slots)
    (kk : ∀ ad', (∀ p, p < 101 → ad' p = ad p) → MK (pre ++ m9_23) (zR h 123) 100 9 cs9_23 → Ev E ad' (pre ++ m9_23) p l e Rm s m args below meth c (cells + 1) (slots + 867) Q 1 (zR h 123) 279 [some (.ref (ad' 100))] []) : Ev E ad (pre ++ m9_22) p l e Rm s m args below meth c cells slots Q 1 h 270 [some (.ref (ad 100))] [] := by
  have hn : (pre ++ m9_22).length = 123 := by rw [List.length_append, hb]; rfl
  refine r_mk0I (pc := 270) (N := 867) (w := 3) (Z := (Int16.ofInt (867)).toInt32) X hS K0 hn (by decide) (by decide) hce hsl dX9_init_270 (fun q => lv_sipush X.1 X.2.1 dX9_init_271 rfl q) dX9_init_274 (fun a1 hd1 => ?_)
  have e1 : mkL (pre ++ m9_22) 100 9 cs9_22 48 0 867 = pre ++ m9_23 := (mkL_pre hb).trans (congrArg (pre ++ ·) (by decide +kernel))
  refine r_mkF (pc := 276) (b := 100) (ci := 9) (k := 48) (n := 123) (ty := .array .int) X hnm K0.1 K0.2.1 hn rfl mU_X9 (by decide) (by decide) rfl rfl (by decide +kernel) rfl rfl mF_X9_275 dX9_init_276 ?_
  refine Ev.sh e1 ?_
  have K1 := K0.mk9 hn e1 (cs2 := cs9_23) (by decide +kernel) (by decide)
  exact kk a1 (fun p hp => hd1 p (by omega)) K1
set_option maxRecDepth 100000 in
set_option maxHeartbeats 4000000 in
theorem x9_27 {cells slots : Nat} (X : Cx E p s m args meth c cX9_init RX9 1 none) (hnm : meth.name = "<init>") (hS : E.1 ≤ s.heap.size) (hb : pre.length = 100) (K0 : MK (pre ++ m9_23) h 100 9 cs9_23) (hce : cells + 1 ≤ Rm.cells) (hsl : slots + 3 ≤ Rm.slots)
    (kk : ∀ ad', (∀ p, p < 101 → ad' p = ad p) → MK (pre ++ m9_24) (zR h 124) 100 9 cs9_24 → Ev E ad' (pre ++ m9_24) p l e Rm s m args below meth c (cells + 1) (slots + 3) Q 1 (zR h 124) 286 [some (.ref (ad' 100))] []) : Ev E ad (pre ++ m9_23) p l e Rm s m args below meth c cells slots Q 1 h 279 [some (.ref (ad 100))] [] := by
  have hn : (pre ++ m9_23).length = 124 := by rw [List.length_append, hb]; rfl
  refine r_mk0Z (pc := 279) (N := 3) (w := 1) (Z := Int32.ofInt (3)) X hS K0 hn (by decide) (by decide) hce hsl dX9_init_279 (fun q => lv_iconst X.1 X.2.1 dX9_init_280 rfl q) dX9_init_281 (fun a1 hd1 => ?_)
  have e1 : mkL (pre ++ m9_23) 100 9 cs9_23 49 2 3 = pre ++ m9_24 := (mkL_pre hb).trans (congrArg (pre ++ ·) (by decide +kernel))
  refine r_mkF (pc := 283) (b := 100) (ci := 9) (k := 49) (n := 124) (ty := .array .boolean) X hnm K0.1 K0.2.1 hn rfl mU_X9 (by decide) (by decide) rfl rfl (by decide +kernel) rfl rfl mF_X9_278 dX9_init_283 ?_
  refine Ev.sh e1 ?_
  have K1 := K0.mk9 hn e1 (cs2 := cs9_24) (by decide +kernel) (by decide)
  exact kk a1 (fun p hp => hd1 p (by omega)) K1
set_option maxRecDepth 100000 in
set_option maxHeartbeats 4000000 in
theorem x9_28 {cells slots : Nat} (X : Cx E p s m args meth c cX9_init RX9 1 none) (hnm : meth.name = "<init>") (hS : E.1 ≤ s.heap.size) (hb : pre.length = 100) (K0 : MK (pre ++ m9_24) h 100 9 cs9_24) (hce : cells + 1 ≤ Rm.cells) (hsl : slots + 9 ≤ Rm.slots)
    (kk : ∀ ad', (∀ p, p < 101 → ad' p = ad p) → MK (pre ++ m9_25) (zR h 125) 100 9 cs9_25 → Ev E ad' (pre ++ m9_25) p l e Rm s m args below meth c (cells + 1) (slots + 9) Q 1 (zR h 125) 294 [some (.ref (ad' 100))] []) : Ev E ad (pre ++ m9_24) p l e Rm s m args below meth c cells slots Q 1 h 286 [some (.ref (ad 100))] [] := by
  have hn : (pre ++ m9_24).length = 125 := by rw [List.length_append, hb]; rfl
  refine r_mk0I (pc := 286) (N := 9) (w := 2) (Z := (Int8.ofInt (9)).toInt32) X hS K0 hn (by decide) (by decide) hce hsl dX9_init_286 (fun q => lv_bipush X.1 X.2.1 dX9_init_287 rfl q) dX9_init_289 (fun a1 hd1 => ?_)
  have e1 : mkL (pre ++ m9_24) 100 9 cs9_24 50 0 9 = pre ++ m9_25 := (mkL_pre hb).trans (congrArg (pre ++ ·) (by decide +kernel))
  refine r_mkF (pc := 291) (b := 100) (ci := 9) (k := 50) (n := 125) (ty := .array .int) X hnm K0.1 K0.2.1 hn rfl mU_X9 (by decide) (by decide) rfl rfl (by decide +kernel) rfl rfl mF_X9_281 dX9_init_291 ?_
  refine Ev.sh e1 ?_
  have K1 := K0.mk9 hn e1 (cs2 := cs9_25) (by decide +kernel) (by decide)
  exact kk a1 (fun p hp => hd1 p (by omega)) K1
set_option maxRecDepth 100000 in
set_option maxHeartbeats 4000000 in
theorem x9_29 {cells slots : Nat} (X : Cx E p s m args meth c cX9_init RX9 1 none) (hnm : meth.name = "<init>") (hS : E.1 ≤ s.heap.size) (hb : pre.length = 100) (K0 : MK (pre ++ m9_25) h 100 9 cs9_25) (hce : cells + 1 ≤ Rm.cells) (hsl : slots + 16 ≤ Rm.slots)
    (kk : ∀ ad', (∀ p, p < 101 → ad' p = ad p) → MK (pre ++ m9_26) (zR h 126) 100 9 cs9_26 → Ev E ad' (pre ++ m9_26) p l e Rm s m args below meth c (cells + 1) (slots + 16) Q 1 (zR h 126) 302 [some (.ref (ad' 100))] []) : Ev E ad (pre ++ m9_25) p l e Rm s m args below meth c cells slots Q 1 h 294 [some (.ref (ad 100))] [] := by
  have hn : (pre ++ m9_25).length = 126 := by rw [List.length_append, hb]; rfl
  refine r_mk0I (pc := 294) (N := 16) (w := 2) (Z := (Int8.ofInt (16)).toInt32) X hS K0 hn (by decide) (by decide) hce hsl dX9_init_294 (fun q => lv_bipush X.1 X.2.1 dX9_init_295 rfl q) dX9_init_297 (fun a1 hd1 => ?_)
  have e1 : mkL (pre ++ m9_25) 100 9 cs9_25 54 0 16 = pre ++ m9_26 := (mkL_pre hb).trans (congrArg (pre ++ ·) (by decide +kernel))
  refine r_mkF (pc := 299) (b := 100) (ci := 9) (k := 54) (n := 126) (ty := .array .int) X hnm K0.1 K0.2.1 hn rfl mU_X9 (by decide) (by decide) rfl rfl (by decide +kernel) rfl rfl mF_X9_284 dX9_init_299 ?_
  refine Ev.sh e1 ?_
  have K1 := K0.mk9 hn e1 (cs2 := cs9_26) (by decide +kernel) (by decide)
  exact kk a1 (fun p hp => hd1 p (by omega)) K1
set_option maxRecDepth 100000 in
set_option maxHeartbeats 4000000 in
theorem x9_30 {cells slots : Nat} (X : Cx E p s m args meth c cX9_init RX9 1 none) (hnm : meth.name = "<init>") (hS : E.1 ≤ s.heap.size) (hb : pre.length = 100) (K0 : MK (pre ++ m9_26) h 100 9 cs9_26) (hce : cells + 1 ≤ Rm.cells) (hsl : slots + 16 ≤ Rm.slots)
    (kk : ∀ ad', (∀ p, p < 101 → ad' p = ad p) → MK (pre ++ m9_27) (zR h 127) 100 9 cs9_27 → Ev E ad' (pre ++ m9_27) p l e Rm s m args below meth c (cells + 1) (slots + 16) Q 1 (zR h 127) 310 [some (.ref (ad' 100))] []) : Ev E ad (pre ++ m9_26) p l e Rm s m args below meth c cells slots Q 1 h 302 [some (.ref (ad 100))] [] := by
  have hn : (pre ++ m9_26).length = 127 := by rw [List.length_append, hb]; rfl
  refine r_mk0I (pc := 302) (N := 16) (w := 2) (Z := (Int8.ofInt (16)).toInt32) X hS K0 hn (by decide) (by decide) hce hsl dX9_init_302 (fun q => lv_bipush X.1 X.2.1 dX9_init_303 rfl q) dX9_init_305 (fun a1 hd1 => ?_)
  have e1 : mkL (pre ++ m9_26) 100 9 cs9_26 55 0 16 = pre ++ m9_27 := (mkL_pre hb).trans (congrArg (pre ++ ·) (by decide +kernel))
  refine r_mkF (pc := 307) (b := 100) (ci := 9) (k := 55) (n := 127) (ty := .array .int) X hnm K0.1 K0.2.1 hn rfl mU_X9 (by decide) (by decide) rfl rfl (by decide +kernel) rfl rfl mF_X9_287 dX9_init_307 ?_
  refine Ev.sh e1 ?_
  have K1 := K0.mk9 hn e1 (cs2 := cs9_27) (by decide +kernel) (by decide)
  exact kk a1 (fun p hp => hd1 p (by omega)) K1
set_option maxRecDepth 100000 in
set_option maxHeartbeats 4000000 in
theorem x9_31 {cells slots : Nat} (X : Cx E p s m args meth c cX9_init RX9 1 none) (hnm : meth.name = "<init>") (hS : E.1 ≤ s.heap.size) (hb : pre.length = 100) (K0 : MK (pre ++ m9_27) h 100 9 cs9_27) (hce : cells + 1 ≤ Rm.cells) (hsl : slots + 16 ≤ Rm.slots)
    (kk : ∀ ad', (∀ p, p < 101 → ad' p = ad p) → MK (pre ++ m9_28) (zR h 128) 100 9 cs9_28 → Ev E ad' (pre ++ m9_28) p l e Rm s m args below meth c (cells + 1) (slots + 16) Q 1 (zR h 128) 318 [some (.ref (ad' 100))] []) : Ev E ad (pre ++ m9_27) p l e Rm s m args below meth c cells slots Q 1 h 310 [some (.ref (ad 100))] [] := by
  have hn : (pre ++ m9_27).length = 128 := by rw [List.length_append, hb]; rfl
  refine r_mk0I (pc := 310) (N := 16) (w := 2) (Z := (Int8.ofInt (16)).toInt32) X hS K0 hn (by decide) (by decide) hce hsl dX9_init_310 (fun q => lv_bipush X.1 X.2.1 dX9_init_311 rfl q) dX9_init_313 (fun a1 hd1 => ?_)
  have e1 : mkL (pre ++ m9_27) 100 9 cs9_27 56 0 16 = pre ++ m9_28 := (mkL_pre hb).trans (congrArg (pre ++ ·) (by decide +kernel))
  refine r_mkF (pc := 315) (b := 100) (ci := 9) (k := 56) (n := 128) (ty := .array .int) X hnm K0.1 K0.2.1 hn rfl mU_X9 (by decide) (by decide) rfl rfl (by decide +kernel) rfl rfl mF_X9_290 dX9_init_315 ?_
  refine Ev.sh e1 ?_
  have K1 := K0.mk9 hn e1 (cs2 := cs9_28) (by decide +kernel) (by decide)
  exact kk a1 (fun p hp => hd1 p (by omega)) K1
set_option maxRecDepth 100000 in
set_option maxHeartbeats 4000000 in
theorem x9_32 {cells slots : Nat} (X : Cx E p s m args meth c cX9_init RX9 1 none) (hnm : meth.name = "<init>") (hS : E.1 ≤ s.heap.size) (hb : pre.length = 100) (K0 : MK (pre ++ m9_28) h 100 9 cs9_28) (hce : cells + 1 ≤ Rm.cells) (hsl : slots + 16 ≤ Rm.slots)
    (kk : ∀ ad', (∀ p, p < 101 → ad' p = ad p) → MK (pre ++ m9_29) (zR h 129) 100 9 cs9_29 → Ev E ad' (pre ++ m9_29) p l e Rm s m args below meth c (cells + 1) (slots + 16) Q 1 (zR h 129) 326 [some (.ref (ad' 100))] []) : Ev E ad (pre ++ m9_28) p l e Rm s m args below meth c cells slots Q 1 h 318 [some (.ref (ad 100))] [] := by
  have hn : (pre ++ m9_28).length = 129 := by rw [List.length_append, hb]; rfl
  refine r_mk0I (pc := 318) (N := 16) (w := 2) (Z := (Int8.ofInt (16)).toInt32) X hS K0 hn (by decide) (by decide) hce hsl dX9_init_318 (fun q => lv_bipush X.1 X.2.1 dX9_init_319 rfl q) dX9_init_321 (fun a1 hd1 => ?_)
  have e1 : mkL (pre ++ m9_28) 100 9 cs9_28 57 0 16 = pre ++ m9_29 := (mkL_pre hb).trans (congrArg (pre ++ ·) (by decide +kernel))
  refine r_mkF (pc := 323) (b := 100) (ci := 9) (k := 57) (n := 129) (ty := .array .int) X hnm K0.1 K0.2.1 hn rfl mU_X9 (by decide) (by decide) rfl rfl (by decide +kernel) rfl rfl mF_X9_293 dX9_init_323 ?_
  refine Ev.sh e1 ?_
  have K1 := K0.mk9 hn e1 (cs2 := cs9_29) (by decide +kernel) (by decide)
  exact kk a1 (fun p hp => hd1 p (by omega)) K1
set_option maxRecDepth 100000 in
set_option maxHeartbeats 4000000 in
theorem x9_33 {cells slots : Nat} (X : Cx E p s m args meth c cX9_init RX9 1 none) (hnm : meth.name = "<init>") (hS : E.1 ≤ s.heap.size) (hb : pre.length = 100) (K0 : MK (pre ++ m9_29) h 100 9 cs9_29) (hce : cells + 1 ≤ Rm.cells) (hsl : slots + 20 ≤ Rm.slots)
    (kk : ∀ ad', (∀ p, p < 101 → ad' p = ad p) → MK (pre ++ m9_30) (zR h 130) 100 9 cs9_30 → Ev E ad' (pre ++ m9_30) p l e Rm s m args below meth c (cells + 1) (slots + 20) Q 1 (zR h 130) 334 [some (.ref (ad' 100))] []) : Ev E ad (pre ++ m9_29) p l e Rm s m args below meth c cells slots Q 1 h 326 [some (.ref (ad 100))] [] := by
  have hn : (pre ++ m9_29).length = 130 := by rw [List.length_append, hb]; rfl
  refine r_mk0I (pc := 326) (N := 20) (w := 2) (Z := (Int8.ofInt (20)).toInt32) X hS K0 hn (by decide) (by decide) hce hsl dX9_init_326 (fun q => lv_bipush X.1 X.2.1 dX9_init_327 rfl q) dX9_init_329 (fun a1 hd1 => ?_)
  have e1 : mkL (pre ++ m9_29) 100 9 cs9_29 58 0 20 = pre ++ m9_30 := (mkL_pre hb).trans (congrArg (pre ++ ·) (by decide +kernel))
  refine r_mkF (pc := 331) (b := 100) (ci := 9) (k := 58) (n := 130) (ty := .array .int) X hnm K0.1 K0.2.1 hn rfl mU_X9 (by decide) (by decide) rfl rfl (by decide +kernel) rfl rfl mF_X9_296 dX9_init_331 ?_
  refine Ev.sh e1 ?_
  have K1 := K0.mk9 hn e1 (cs2 := cs9_30) (by decide +kernel) (by decide)
  exact kk a1 (fun p hp => hd1 p (by omega)) K1
set_option maxRecDepth 100000 in
set_option maxHeartbeats 4000000 in
theorem x9_34 {cells slots : Nat} (X : Cx E p s m args meth c cX9_init RX9 1 none) (hnm : meth.name = "<init>") (hS : E.1 ≤ s.heap.size) (hb : pre.length = 100) (K0 : MK (pre ++ m9_30) h 100 9 cs9_30) (hce : cells + 1 ≤ Rm.cells) (hsl : slots + 20 ≤ Rm.slots)
    (kk : ∀ ad', (∀ p, p < 101 → ad' p = ad p) → MK (pre ++ m9_31) (zR h 131) 100 9 cs9_31 → Ev E ad' (pre ++ m9_31) p l e Rm s m args below meth c (cells + 1) (slots + 20) Q 1 (zR h 131) 342 [some (.ref (ad' 100))] []) : Ev E ad (pre ++ m9_30) p l e Rm s m args below meth c cells slots Q 1 h 334 [some (.ref (ad 100))] [] := by
  have hn : (pre ++ m9_30).length = 131 := by rw [List.length_append, hb]; rfl
  refine r_mk0I (pc := 334) (N := 20) (w := 2) (Z := (Int8.ofInt (20)).toInt32) X hS K0 hn (by decide) (by decide) hce hsl dX9_init_334 (fun q => lv_bipush X.1 X.2.1 dX9_init_335 rfl q) dX9_init_337 (fun a1 hd1 => ?_)
  have e1 : mkL (pre ++ m9_30) 100 9 cs9_30 59 0 20 = pre ++ m9_31 := (mkL_pre hb).trans (congrArg (pre ++ ·) (by decide +kernel))
  refine r_mkF (pc := 339) (b := 100) (ci := 9) (k := 59) (n := 131) (ty := .array .int) X hnm K0.1 K0.2.1 hn rfl mU_X9 (by decide) (by decide) rfl rfl (by decide +kernel) rfl rfl mF_X9_299 dX9_init_339 ?_
  refine Ev.sh e1 ?_
  have K1 := K0.mk9 hn e1 (cs2 := cs9_31) (by decide +kernel) (by decide)
  exact kk a1 (fun p hp => hd1 p (by omega)) K1
set_option maxRecDepth 100000 in
set_option maxHeartbeats 4000000 in
theorem x9_35 {cells slots : Nat} (X : Cx E p s m args meth c cX9_init RX9 1 none) (hnm : meth.name = "<init>") (hS : E.1 ≤ s.heap.size) (hb : pre.length = 100) (K0 : MK (pre ++ m9_31) h 100 9 cs9_31) (hce : cells + 1 ≤ Rm.cells) (hsl : slots + 20 ≤ Rm.slots)
    (kk : ∀ ad', (∀ p, p < 101 → ad' p = ad p) → MK (pre ++ m9_32) (zR h 132) 100 9 cs9_32 → Ev E ad' (pre ++ m9_32) p l e Rm s m args below meth c (cells + 1) (slots + 20) Q 1 (zR h 132) 350 [some (.ref (ad' 100))] []) : Ev E ad (pre ++ m9_31) p l e Rm s m args below meth c cells slots Q 1 h 342 [some (.ref (ad 100))] [] := by
  have hn : (pre ++ m9_31).length = 132 := by rw [List.length_append, hb]; rfl
  refine r_mk0I (pc := 342) (N := 20) (w := 2) (Z := (Int8.ofInt (20)).toInt32) X hS K0 hn (by decide) (by decide) hce hsl dX9_init_342 (fun q => lv_bipush X.1 X.2.1 dX9_init_343 rfl q) dX9_init_345 (fun a1 hd1 => ?_)
  have e1 : mkL (pre ++ m9_31) 100 9 cs9_31 60 0 20 = pre ++ m9_32 := (mkL_pre hb).trans (congrArg (pre ++ ·) (by decide +kernel))
  refine r_mkF (pc := 347) (b := 100) (ci := 9) (k := 60) (n := 132) (ty := .array .int) X hnm K0.1 K0.2.1 hn rfl mU_X9 (by decide) (by decide) rfl rfl (by decide +kernel) rfl rfl mF_X9_302 dX9_init_347 ?_
  refine Ev.sh e1 ?_
  have K1 := K0.mk9 hn e1 (cs2 := cs9_32) (by decide +kernel) (by decide)
  exact kk a1 (fun p hp => hd1 p (by omega)) K1
set_option maxRecDepth 100000 in
set_option maxHeartbeats 4000000 in
theorem x9_36 {cells slots : Nat} (X : Cx E p s m args meth c cX9_init RX9 1 none) (hnm : meth.name = "<init>") (hS : E.1 ≤ s.heap.size) (hb : pre.length = 100) (K0 : MK (pre ++ m9_32) h 100 9 cs9_32) (hce : cells + 1 ≤ Rm.cells) (hsl : slots + 496 ≤ Rm.slots)
    (kk : ∀ ad', (∀ p, p < 101 → ad' p = ad p) → MK (pre ++ m9_33) (zR h 133) 100 9 cs9_33 → Ev E ad' (pre ++ m9_33) p l e Rm s m args below meth c (cells + 1) (slots + 496) Q 1 (zR h 133) 359 [some (.ref (ad' 100))] []) : Ev E ad (pre ++ m9_32) p l e Rm s m args below meth c cells slots Q 1 h 350 [some (.ref (ad 100))] [] := by
  have hn : (pre ++ m9_32).length = 133 := by rw [List.length_append, hb]; rfl
  refine r_mk0I (pc := 350) (N := 496) (w := 3) (Z := (Int16.ofInt (496)).toInt32) X hS K0 hn (by decide) (by decide) hce hsl dX9_init_350 (fun q => lv_sipush X.1 X.2.1 dX9_init_351 rfl q) dX9_init_354 (fun a1 hd1 => ?_)
  have e1 : mkL (pre ++ m9_32) 100 9 cs9_32 61 0 496 = pre ++ m9_33 := (mkL_pre hb).trans (congrArg (pre ++ ·) (by decide +kernel))
  refine r_mkF (pc := 356) (b := 100) (ci := 9) (k := 61) (n := 133) (ty := .array .int) X hnm K0.1 K0.2.1 hn rfl mU_X9 (by decide) (by decide) rfl rfl (by decide +kernel) rfl rfl mF_X9_305 dX9_init_356 ?_
  refine Ev.sh e1 ?_
  have K1 := K0.mk9 hn e1 (cs2 := cs9_33) (by decide +kernel) (by decide)
  exact kk a1 (fun p hp => hd1 p (by omega)) K1
theorem at9_pre (hb : pre.length = 100) : At_X9 (pre ++ m9_33) := ⟨(pre_get (j := 0) hb).trans rfl, (pre_get (j := 1) hb).trans rfl, (pre_get (j := 2) hb).trans rfl, (pre_get (j := 3) hb).trans rfl, (pre_get (j := 4) hb).trans rfl, (pre_get (j := 5) hb).trans rfl, (pre_get (j := 6) hb).trans rfl, (pre_get (j := 7) hb).trans rfl, (pre_get (j := 8) hb).trans rfl, (pre_get (j := 9) hb).trans rfl, (pre_get (j := 10) hb).trans rfl, (pre_get (j := 11) hb).trans rfl, (pre_get (j := 12) hb).trans rfl, (pre_get (j := 13) hb).trans rfl, (pre_get (j := 14) hb).trans rfl, (pre_get (j := 15) hb).trans rfl, (pre_get (j := 16) hb).trans rfl, (pre_get (j := 17) hb).trans rfl, (pre_get (j := 18) hb).trans rfl, (pre_get (j := 19) hb).trans rfl, (pre_get (j := 20) hb).trans rfl, (pre_get (j := 21) hb).trans rfl, (pre_get (j := 22) hb).trans rfl, (pre_get (j := 23) hb).trans rfl, (pre_get (j := 24) hb).trans rfl, (pre_get (j := 25) hb).trans rfl, (pre_get (j := 26) hb).trans rfl, (pre_get (j := 27) hb).trans rfl, (pre_get (j := 28) hb).trans rfl, (pre_get (j := 29) hb).trans rfl, (pre_get (j := 30) hb).trans rfl, (pre_get (j := 31) hb).trans rfl, (pre_get (j := 32) hb).trans rfl, (pre_get (j := 33) hb).trans rfl⟩
set_option maxRecDepth 100000 in
set_option maxHeartbeats 4000000 in
theorem x9_last {cells slots : Nat} {g : Hp} (X : Cx E p s m args meth c cX9_init RX9 1 none) (hb : pre.length = 100) (K0 : MK (pre ++ m9_33) h 100 9 cs9_33) (hg : g_X9_beginNow (set2 h 121 288 1) = some g) (hfr : 6 ≤ Rm.frames ∧ 200 ≤ Rm.locals) (hce : cells ≤ Rm.cells ∧ slots ≤ Rm.slots)
    (kk : Ev E ad (pre ++ m9_33) p l e Rm s m args below meth c cells slots Q 1 g 372 [some (.ref (ad 100))] []) : Ev E ad (pre ++ m9_33) p l e Rm s m args below meth c cells slots Q 1 h 359 [some (.ref (ad 100))] [] := by
  have Hb9 := at9_pre hb
  refine r_aload_n (pc := 359) X dX9_init_359 rfl rfl ?_
  refine r_getC (pc := 360) (b := 100) (ci := 9) (k := 46) (q := 121) X K0.1 rfl mU_X9 (by decide) rfl mF_X9_269 dX9_init_360 ?_
  intro H locs ls hc hs hl
  refine lv_sipush X.1 X.2.1 dX9_init_363 rfl (lv_iconst X.1 X.2.1 dX9_init_366 rfl (r_iast (pc := 367) (q := 121) (n := 289) (K := fun g => some g) (res := set2 h 121 288 1) X ((pre_get (j := 21) hb).trans rfl) dX9_init_367 ?_ (fun g2 hG => ?_) H locs ls hc hs hl))
  · unfold wrI
    rw [if_pos (by decide)]
    rfl
  · obtain rfl : g2 = set2 h 121 288 1 := Option.some.inj hG
    refine r_aload_n (pc := 368) X dX9_init_368 rfl rfl ?_
    refine r_cV (pc := 369) (G := g_X9_beginNow (set2 h 121 288 1)) (K := fun g => some g) (res := g) (by rw [hg]; rfl) (fun _ hg => runV X dX9_init_369 (c_X9_beginNow Hb9 hg) mM_X9_308 mI_X9_beginNow mE_X9_beginNow mN_X9 mK_X9_beginNow (at_X9_o Hb9) rfl rfl rfl rfl hdd_X9_beginNow ⟨Nat.le_trans (by decide) hfr.1, Nat.le_trans (by decide) hfr.2⟩ rfl rfl (Nat.le_of_ble_eq_true rfl) hce) (fun g2 hG => ?_)
    obtain rfl : g2 = g := Option.some.inj hG
    exact kk
end X9A
