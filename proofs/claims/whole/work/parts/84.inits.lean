/-! CONSTRUCTORS, one class at a time -/
def mkS (b ci : Nat) : List (Nat × Nat) → List Shp → List Nat → List Shp
  | [], shl, _ => shl
  | x :: r, shl, cs => mkS b ci r (mkL shl b ci cs x.1 0 x.2) (cs.set x.1 (shl.length + 2))
def zS : List (Nat × Nat) → Nat → Hp → Hp
  | [], _, h => h
  | _ :: r, n, h => zS r (n + 1) (zR h n)
def mkHp (b ci : Nat) : List (Nat × Nat) → List Shp → List Nat → Hp → Hp
  | [], _, _, h => h
  | x :: r, shl, cs, h => mkHp b ci r (mkL shl b ci cs x.1 0 x.2) (cs.set x.1 (shl.length + 2)) (zR h shl.length)
theorem mkHp_eq {b ci : Nat} : ∀ (r : List (Nat × Nat)) (shl : List Shp) (cs : List Nat) (h : Hp), zS r shl.length h = mkHp b ci r shl cs h
  | [], _, _, _ => rfl
  | x :: r, shl, cs, h => by
    show zS r (shl.length + 1) (zR h shl.length) = mkHp b ci r (mkL shl b ci cs x.1 0 x.2) (cs.set x.1 (shl.length + 2)) (zR h shl.length)
    rw [← mkHp_eq r, mkL_len]
section MAKE3
variable {E : EnvT} {ad : Nat → Nat} {shl : List Shp} {p : Program} {l : Launch} {e : Env} {Rm : Room} {s : State} {m : MethodId} {args : Array Value} {below : List Frame} {meth : Method} {c : Code} {cells slots : Nat} {Q : State → Prop} {nL : Nat} {cc : ByteArray} {own : String} {ret : Option FieldType}
variable {h : Hp} {pc : Nat} {L : List (Option Value)} {S : List Value}
theorem r_stI (X : Cx E p s m args meth c cc own nL ret) {b ci k index NF w : Nat} {cs : List Nat} {T : u_T} {Z : Int32} {v : Int} (hb : shl[b]? = some (.inl (ci, cs))) (hcl : vwCl[ci]? = some (own, T, NF)) (hin : ∀ w ∈ u_ws own T NF, w ∈ gw) (hk : k < NF) (hck : cs[k]? = some 0) (hfin : (T k).2.2.2 = false) (hty : (T k).2.2.1 = "I") (hlink : Cond.fieldLink own index (T k).1 (T k).2.1 (T k).2.2.1 ∈ gw)
    (hZ : Z.toInt = v) (hL : L[0]? = some (some (.ref (ad b)))) (d0 : decode cc pc = .ok (.aload_n 0, 1)) (row : ∀ {H : Heap} {locs : List Loc} {ls : Array Slot} {st : List Value}, W p l e Rm s m args below meth c H locs cells slots Q (F0 m (pc + 1 + w) ls (.int Z :: st)) → W p l e Rm s m args below meth c H locs cells slots Q (F0 m (pc + 1) ls st))
    (d2 : decode cc (pc + 1 + w) = .ok (.putfield index, 3)) (kk : Ev E ad shl p l e Rm s m args below meth c cells slots Q nL (set2 h b k v) (pc + 1 + w + 3) L S) : Ev E ad shl p l e Rm s m args below meth c cells slots Q nL h pc L S := by
  refine r_aload_n X d0 rfl hL ?_
  intro H locs ls hc hs hl
  refine row (r_putI (K := fun g => some g) (res := set2 h b k v) X hb hcl hin hk hck hfin hty hlink d2 (by rw [e_pF, hZ]) (fun g hG => ?_) H locs ls hc hs hl)
  injection hG with hG
  subst hG
  exact kk
end MAKE3
section INITS
variable {E : EnvT} {ad : Nat → Nat} {shl : List Shp} {l : Launch} {h : Hp}
abbrev rm_X5_init : Room := { frames := 1, cells := 1, slots := 900, locals := 12 }
set_option maxRecDepth 100000 in
set_option maxHeartbeats 4000000 in
theorem c_X5_init {b : Nat} (K0 : MK shl h b 5 [1, 0, 0, 0, 0, 0, 0, 0]) : Met l yX5_init (wsM yX5_init cX5_init 1 none) rm_X5_init (va_Pc [.ref (ad b)] (WorldG E ad shl h)) (QcG E shl.length ad (mkS b 5 [(0, 900)] shl [1, 0, 0, 0, 0, 0, 0, 0]) (set2 (zS [(0, 900)] shl.length h) b 7 (-1))) 1 900 (bsA E) := by
  refine met_ofG (L0 := [some (.ref (ad b))]) rfl rfl rfl (Nat.le_of_ble_eq_true rfl) (fun p e s m below meth c X hnm hA => ?_)
  refine r_aload_n (pc := 0) X dX5_init_0 rfl rfl ?_
  refine r_objInit (pc := 1) X mM_X5_3 mI_objectInit mK_objectInit (Nat.le_of_ble_eq_true rfl) (Nat.le_of_ble_eq_true rfl) dX5_init_1 (by decide) ?_
  have K1 := K0.mk (k := 0) (t := 0) (N := 900) (by decide)
  refine r_mkI (pc := 4) (b := b) (ci := 5) (k := 0) (N := 900) (w := 3) (Z := (Int16.ofInt (900)).toInt32) X hnm hA K0 rfl mU_X5 (by decide) (by simp) rfl rfl (by decide +kernel) mF_X5_11 (by decide) (by decide) (Nat.le_of_ble_eq_true rfl) (Nat.le_of_ble_eq_true rfl) dX5_init_4 (fun q => lv_sipush X.1 X.2.1 dX5_init_5 rfl q) dX5_init_8 dX5_init_10 (fun ad1 hd1 => ?_)
  refine r_stI (pc := 13) (b := b) (k := 7) (w := 1) (Z := Int32.ofInt (-1)) (v := -1) X K1.1 rfl mU_X5 (by decide) rfl rfl rfl mF_X5_15 (by decide) rfl dX5_init_13 (fun q => lv_iconst X.1 X.2.1 dX5_init_14 rfl q) dX5_init_15 ?_
  have K101 := K1.set (k := 7) (x := -1) rfl
  have K1 := K101
  exact r_vretG (pc := 18) (mc := 1) (ms := 900) (n := shl.length) (ad0 := ad) X dX5_init_18 (by rw [mkHp_eq (b := b) (ci := 5) _ shl [1, 0, 0, 0, 0, 0, 0, 0]]; rfl) (fun p hp => by rw [hd1 p (by (try simp only [mkL_len]); omega)])
abbrev rm_X1_init : Room := { frames := 1, cells := 4, slots := 100, locals := 12 }
set_option maxRecDepth 100000 in
set_option maxHeartbeats 4000000 in
theorem c_X1_init {b : Nat} (K0 : MK shl h b 1 [1, 1, 1, 1, 0]) : Met l yX1_init (wsM yX1_init cX1_init 1 none) rm_X1_init (va_Pc [.ref (ad b)] (WorldG E ad shl h)) (QcG E shl.length ad (mkS b 1 [(0, 4), (1, 32), (2, 32), (3, 32)] shl [1, 1, 1, 1, 0]) (zS [(0, 4), (1, 32), (2, 32), (3, 32)] shl.length h)) 4 100 (bsA E) := by
  refine met_ofG (L0 := [some (.ref (ad b))]) rfl rfl rfl (Nat.le_of_ble_eq_true rfl) (fun p e s m below meth c X hnm hA => ?_)
  refine r_aload_n (pc := 0) X dX1_init_0 rfl rfl ?_
  refine r_objInit (pc := 1) X mM_X1_3 mI_objectInit mK_objectInit (Nat.le_of_ble_eq_true rfl) (Nat.le_of_ble_eq_true rfl) dX1_init_1 (by decide) ?_
  have K1 := K0.mk (k := 0) (t := 0) (N := 4) (by decide)
  refine r_mkI (pc := 4) (b := b) (ci := 1) (k := 0) (N := 4) (w := 1) (Z := Int32.ofInt (4)) X hnm hA K0 rfl mU_X1 (by decide) (by simp) rfl rfl (by decide +kernel) mF_X1_9 (by decide) (by decide) (Nat.le_of_ble_eq_true rfl) (Nat.le_of_ble_eq_true rfl) dX1_init_4 (fun q => lv_iconst X.1 X.2.1 dX1_init_5 rfl q) dX1_init_6 dX1_init_8 (fun ad1 hd1 => ?_)
  have K2 := K1.mk (k := 1) (t := 0) (N := 32) (by decide)
  refine r_mkI (pc := 11) (b := b) (ci := 1) (k := 1) (N := 32) (w := 2) (Z := (Int8.ofInt (32)).toInt32) X hnm hA K1 rfl mU_X1 (by decide) (by simp) rfl rfl (by decide +kernel) mF_X1_15 (by decide) (by decide) (Nat.le_of_ble_eq_true rfl) (Nat.le_of_ble_eq_true rfl) dX1_init_11 (fun q => lv_bipush X.1 X.2.1 dX1_init_12 rfl q) dX1_init_14 dX1_init_16 (fun ad2 hd2 => ?_)
  have K3 := K2.mk (k := 2) (t := 0) (N := 32) (by decide)
  refine r_mkI (pc := 19) (b := b) (ci := 1) (k := 2) (N := 32) (w := 2) (Z := (Int8.ofInt (32)).toInt32) X hnm hA K2 rfl mU_X1 (by decide) (by simp) rfl rfl (by decide +kernel) mF_X1_18 (by decide) (by decide) (Nat.le_of_ble_eq_true rfl) (Nat.le_of_ble_eq_true rfl) dX1_init_19 (fun q => lv_bipush X.1 X.2.1 dX1_init_20 rfl q) dX1_init_22 dX1_init_24 (fun ad3 hd3 => ?_)
  have K4 := K3.mk (k := 3) (t := 0) (N := 32) (by decide)
  refine r_mkI (pc := 27) (b := b) (ci := 1) (k := 3) (N := 32) (w := 2) (Z := (Int8.ofInt (32)).toInt32) X hnm hA K3 rfl mU_X1 (by decide) (by simp) rfl rfl (by decide +kernel) mF_X1_21 (by decide) (by decide) (Nat.le_of_ble_eq_true rfl) (Nat.le_of_ble_eq_true rfl) dX1_init_27 (fun q => lv_bipush X.1 X.2.1 dX1_init_28 rfl q) dX1_init_30 dX1_init_32 (fun ad4 hd4 => ?_)
  exact r_vretG (pc := 35) (mc := 4) (ms := 100) (n := shl.length) (ad0 := ad) X dX1_init_35 (by rw [mkHp_eq (b := b) (ci := 1) _ shl [1, 1, 1, 1, 0]]; rfl) (fun p hp => by rw [hd4 p (by (try simp only [mkL_len]); omega), hd3 p (by (try simp only [mkL_len]); omega), hd2 p (by (try simp only [mkL_len]); omega), hd1 p (by (try simp only [mkL_len]); omega)])
abbrev rm_X4_init : Room := { frames := 1, cells := 1, slots := 9, locals := 12 }
set_option maxRecDepth 100000 in
set_option maxHeartbeats 4000000 in
theorem c_X4_init {b : Nat} (K0 : MK shl h b 4 [1]) : Met l yX4_init (wsM yX4_init cX4_init 1 none) rm_X4_init (va_Pc [.ref (ad b)] (WorldG E ad shl h)) (QcG E shl.length ad (mkS b 4 [(0, 9)] shl [1]) (zS [(0, 9)] shl.length h)) 1 9 (bsA E) := by
  refine met_ofG (L0 := [some (.ref (ad b))]) rfl rfl rfl (Nat.le_of_ble_eq_true rfl) (fun p e s m below meth c X hnm hA => ?_)
  refine r_aload_n (pc := 0) X dX4_init_0 rfl rfl ?_
  refine r_objInit (pc := 1) X mM_X4_1 mI_objectInit mK_objectInit (Nat.le_of_ble_eq_true rfl) (Nat.le_of_ble_eq_true rfl) dX4_init_1 (by decide) ?_
  have K1 := K0.mk (k := 0) (t := 0) (N := 9) (by decide)
  refine r_mkI (pc := 4) (b := b) (ci := 4) (k := 0) (N := 9) (w := 2) (Z := (Int8.ofInt (9)).toInt32) X hnm hA K0 rfl mU_X4 (by decide) (by simp) rfl rfl (by decide +kernel) mF_X4_9 (by decide) (by decide) (Nat.le_of_ble_eq_true rfl) (Nat.le_of_ble_eq_true rfl) dX4_init_4 (fun q => lv_bipush X.1 X.2.1 dX4_init_5 rfl q) dX4_init_7 dX4_init_9 (fun ad1 hd1 => ?_)
  exact r_vretG (pc := 12) (mc := 1) (ms := 9) (n := shl.length) (ad0 := ad) X dX4_init_12 (by rw [mkHp_eq (b := b) (ci := 4) _ shl [1]]; rfl) (fun p hp => by rw [hd1 p (by (try simp only [mkL_len]); omega)])
abbrev rm_X3_init : Room := { frames := 1, cells := 7, slots := 267, locals := 12 }
set_option maxRecDepth 100000 in
set_option maxHeartbeats 4000000 in
theorem c_X3_init {b : Nat} (K0 : MK shl h b 3 [1, 1, 1, 1, 1, 1, 1, 0, 0, 0, 0, 0, 0, 0, 0, 0]) : Met l yX3_init (wsM yX3_init cX3_init 1 none) rm_X3_init (va_Pc [.ref (ad b)] (WorldG E ad shl h)) (QcG E shl.length ad (mkS b 3 [(0, 64), (1, 64), (2, 64), (3, 64), (4, 3), (5, 4), (6, 4)] shl [1, 1, 1, 1, 1, 1, 1, 0, 0, 0, 0, 0, 0, 0, 0, 0]) (set2 (set2 (zS [(0, 64), (1, 64), (2, 64), (3, 64), (4, 3), (5, 4), (6, 4)] shl.length h) b 7 (-1)) b 8 (1))) 7 267 (bsA E) := by
  refine met_ofG (L0 := [some (.ref (ad b))]) rfl rfl rfl (Nat.le_of_ble_eq_true rfl) (fun p e s m below meth c X hnm hA => ?_)
  refine r_aload_n (pc := 0) X dX3_init_0 rfl rfl ?_
  refine r_objInit (pc := 1) X mM_X3_3 mI_objectInit mK_objectInit (Nat.le_of_ble_eq_true rfl) (Nat.le_of_ble_eq_true rfl) dX3_init_1 (by decide) ?_
  have K1 := K0.mk (k := 0) (t := 0) (N := 64) (by decide)
  refine r_mkI (pc := 4) (b := b) (ci := 3) (k := 0) (N := 64) (w := 2) (Z := (Int8.ofInt (64)).toInt32) X hnm hA K0 rfl mU_X3 (by decide) (by simp) rfl rfl (by decide +kernel) mF_X3_9 (by decide) (by decide) (Nat.le_of_ble_eq_true rfl) (Nat.le_of_ble_eq_true rfl) dX3_init_4 (fun q => lv_bipush X.1 X.2.1 dX3_init_5 rfl q) dX3_init_7 dX3_init_9 (fun ad1 hd1 => ?_)
  have K2 := K1.mk (k := 1) (t := 0) (N := 64) (by decide)
  refine r_mkI (pc := 12) (b := b) (ci := 3) (k := 1) (N := 64) (w := 2) (Z := (Int8.ofInt (64)).toInt32) X hnm hA K1 rfl mU_X3 (by decide) (by simp) rfl rfl (by decide +kernel) mF_X3_15 (by decide) (by decide) (Nat.le_of_ble_eq_true rfl) (Nat.le_of_ble_eq_true rfl) dX3_init_12 (fun q => lv_bipush X.1 X.2.1 dX3_init_13 rfl q) dX3_init_15 dX3_init_17 (fun ad2 hd2 => ?_)
  have K3 := K2.mk (k := 2) (t := 0) (N := 64) (by decide)
  refine r_mkI (pc := 20) (b := b) (ci := 3) (k := 2) (N := 64) (w := 2) (Z := (Int8.ofInt (64)).toInt32) X hnm hA K2 rfl mU_X3 (by decide) (by simp) rfl rfl (by decide +kernel) mF_X3_18 (by decide) (by decide) (Nat.le_of_ble_eq_true rfl) (Nat.le_of_ble_eq_true rfl) dX3_init_20 (fun q => lv_bipush X.1 X.2.1 dX3_init_21 rfl q) dX3_init_23 dX3_init_25 (fun ad3 hd3 => ?_)
  have K4 := K3.mk (k := 3) (t := 0) (N := 64) (by decide)
  refine r_mkI (pc := 28) (b := b) (ci := 3) (k := 3) (N := 64) (w := 2) (Z := (Int8.ofInt (64)).toInt32) X hnm hA K3 rfl mU_X3 (by decide) (by simp) rfl rfl (by decide +kernel) mF_X3_21 (by decide) (by decide) (Nat.le_of_ble_eq_true rfl) (Nat.le_of_ble_eq_true rfl) dX3_init_28 (fun q => lv_bipush X.1 X.2.1 dX3_init_29 rfl q) dX3_init_31 dX3_init_33 (fun ad4 hd4 => ?_)
  have K5 := K4.mk (k := 4) (t := 0) (N := 3) (by decide)
  refine r_mkI (pc := 36) (b := b) (ci := 3) (k := 4) (N := 3) (w := 1) (Z := Int32.ofInt (3)) X hnm hA K4 rfl mU_X3 (by decide) (by simp) rfl rfl (by decide +kernel) mF_X3_24 (by decide) (by decide) (Nat.le_of_ble_eq_true rfl) (Nat.le_of_ble_eq_true rfl) dX3_init_36 (fun q => lv_iconst X.1 X.2.1 dX3_init_37 rfl q) dX3_init_38 dX3_init_40 (fun ad5 hd5 => ?_)
  have K6 := K5.mk (k := 5) (t := 0) (N := 4) (by decide)
  refine r_mkI (pc := 43) (b := b) (ci := 3) (k := 5) (N := 4) (w := 1) (Z := Int32.ofInt (4)) X hnm hA K5 rfl mU_X3 (by decide) (by simp) rfl rfl (by decide +kernel) mF_X3_27 (by decide) (by decide) (Nat.le_of_ble_eq_true rfl) (Nat.le_of_ble_eq_true rfl) dX3_init_43 (fun q => lv_iconst X.1 X.2.1 dX3_init_44 rfl q) dX3_init_45 dX3_init_47 (fun ad6 hd6 => ?_)
  have K7 := K6.mk (k := 6) (t := 0) (N := 4) (by decide)
  refine r_mkI (pc := 50) (b := b) (ci := 3) (k := 6) (N := 4) (w := 1) (Z := Int32.ofInt (4)) X hnm hA K6 rfl mU_X3 (by decide) (by simp) rfl rfl (by decide +kernel) mF_X3_30 (by decide) (by decide) (Nat.le_of_ble_eq_true rfl) (Nat.le_of_ble_eq_true rfl) dX3_init_50 (fun q => lv_iconst X.1 X.2.1 dX3_init_51 rfl q) dX3_init_52 dX3_init_54 (fun ad7 hd7 => ?_)
  refine r_stI (pc := 57) (b := b) (k := 7) (w := 1) (Z := Int32.ofInt (-1)) (v := -1) X K7.1 rfl mU_X3 (by decide) rfl rfl rfl mF_X3_33 (by decide) rfl dX3_init_57 (fun q => lv_iconst X.1 X.2.1 dX3_init_58 rfl q) dX3_init_59 ?_
  have K107 := K7.set (k := 7) (x := -1) rfl
  have K7 := K107
  refine r_stI (pc := 62) (b := b) (k := 8) (w := 1) (Z := Int32.ofInt (1)) (v := 1) X K7.1 rfl mU_X3 (by decide) rfl rfl rfl mF_X3_37 (by decide) rfl dX3_init_62 (fun q => lv_iconst X.1 X.2.1 dX3_init_63 rfl q) dX3_init_64 ?_
  have K107 := K7.set (k := 8) (x := 1) rfl
  have K7 := K107
  exact r_vretG (pc := 67) (mc := 7) (ms := 267) (n := shl.length) (ad0 := ad) X dX3_init_67 (by rw [mkHp_eq (b := b) (ci := 3) _ shl [1, 1, 1, 1, 1, 1, 1, 0, 0, 0, 0, 0, 0, 0, 0, 0]]; rfl) (fun p hp => by rw [hd7 p (by (try simp only [mkL_len]); omega), hd6 p (by (try simp only [mkL_len]); omega), hd5 p (by (try simp only [mkL_len]); omega), hd4 p (by (try simp only [mkL_len]); omega), hd3 p (by (try simp only [mkL_len]); omega), hd2 p (by (try simp only [mkL_len]); omega), hd1 p (by (try simp only [mkL_len]); omega)])
abbrev rm_X7_init : Room := { frames := 1, cells := 9, slots := 476, locals := 12 }
set_option maxRecDepth 100000 in
set_option maxHeartbeats 4000000 in
theorem c_X7_init {b : Nat} (K0 : MK shl h b 7 [0, 0, 0, 1, 1, 1, 1, 1, 1, 1, 1, 1]) : Met l yX7_init (wsM yX7_init cX7_init 1 none) rm_X7_init (va_Pc [.ref (ad b)] (WorldG E ad shl h)) (QcG E shl.length ad (mkS b 7 [(3, 16), (4, 16), (5, 16), (6, 16), (7, 20), (8, 20), (9, 20), (10, 16), (11, 336)] shl [0, 0, 0, 1, 1, 1, 1, 1, 1, 1, 1, 1]) (zS [(3, 16), (4, 16), (5, 16), (6, 16), (7, 20), (8, 20), (9, 20), (10, 16), (11, 336)] shl.length h)) 9 476 (bsA E) := by
  refine met_ofG (L0 := [some (.ref (ad b))]) rfl rfl rfl (Nat.le_of_ble_eq_true rfl) (fun p e s m below meth c X hnm hA => ?_)
  refine r_aload_n (pc := 0) X dX7_init_0 rfl rfl ?_
  refine r_objInit (pc := 1) X mM_X7_5 mI_objectInit mK_objectInit (Nat.le_of_ble_eq_true rfl) (Nat.le_of_ble_eq_true rfl) dX7_init_1 (by decide) ?_
  have K1 := K0.mk (k := 3) (t := 0) (N := 16) (by decide)
  refine r_mkI (pc := 4) (b := b) (ci := 7) (k := 3) (N := 16) (w := 2) (Z := (Int8.ofInt (16)).toInt32) X hnm hA K0 rfl mU_X7 (by decide) (by simp) rfl rfl (by decide +kernel) mF_X7_11 (by decide) (by decide) (Nat.le_of_ble_eq_true rfl) (Nat.le_of_ble_eq_true rfl) dX7_init_4 (fun q => lv_bipush X.1 X.2.1 dX7_init_5 rfl q) dX7_init_7 dX7_init_9 (fun ad1 hd1 => ?_)
  have K2 := K1.mk (k := 4) (t := 0) (N := 16) (by decide)
  refine r_mkI (pc := 12) (b := b) (ci := 7) (k := 4) (N := 16) (w := 2) (Z := (Int8.ofInt (16)).toInt32) X hnm hA K1 rfl mU_X7 (by decide) (by simp) rfl rfl (by decide +kernel) mF_X7_15 (by decide) (by decide) (Nat.le_of_ble_eq_true rfl) (Nat.le_of_ble_eq_true rfl) dX7_init_12 (fun q => lv_bipush X.1 X.2.1 dX7_init_13 rfl q) dX7_init_15 dX7_init_17 (fun ad2 hd2 => ?_)
  have K3 := K2.mk (k := 5) (t := 0) (N := 16) (by decide)
  refine r_mkI (pc := 20) (b := b) (ci := 7) (k := 5) (N := 16) (w := 2) (Z := (Int8.ofInt (16)).toInt32) X hnm hA K2 rfl mU_X7 (by decide) (by simp) rfl rfl (by decide +kernel) mF_X7_18 (by decide) (by decide) (Nat.le_of_ble_eq_true rfl) (Nat.le_of_ble_eq_true rfl) dX7_init_20 (fun q => lv_bipush X.1 X.2.1 dX7_init_21 rfl q) dX7_init_23 dX7_init_25 (fun ad3 hd3 => ?_)
  have K4 := K3.mk (k := 6) (t := 0) (N := 16) (by decide)
  refine r_mkI (pc := 28) (b := b) (ci := 7) (k := 6) (N := 16) (w := 2) (Z := (Int8.ofInt (16)).toInt32) X hnm hA K3 rfl mU_X7 (by decide) (by simp) rfl rfl (by decide +kernel) mF_X7_21 (by decide) (by decide) (Nat.le_of_ble_eq_true rfl) (Nat.le_of_ble_eq_true rfl) dX7_init_28 (fun q => lv_bipush X.1 X.2.1 dX7_init_29 rfl q) dX7_init_31 dX7_init_33 (fun ad4 hd4 => ?_)
  have K5 := K4.mk (k := 7) (t := 0) (N := 20) (by decide)
  refine r_mkI (pc := 36) (b := b) (ci := 7) (k := 7) (N := 20) (w := 2) (Z := (Int8.ofInt (20)).toInt32) X hnm hA K4 rfl mU_X7 (by decide) (by simp) rfl rfl (by decide +kernel) mF_X7_24 (by decide) (by decide) (Nat.le_of_ble_eq_true rfl) (Nat.le_of_ble_eq_true rfl) dX7_init_36 (fun q => lv_bipush X.1 X.2.1 dX7_init_37 rfl q) dX7_init_39 dX7_init_41 (fun ad5 hd5 => ?_)
  have K6 := K5.mk (k := 8) (t := 0) (N := 20) (by decide)
  refine r_mkI (pc := 44) (b := b) (ci := 7) (k := 8) (N := 20) (w := 2) (Z := (Int8.ofInt (20)).toInt32) X hnm hA K5 rfl mU_X7 (by decide) (by simp) rfl rfl (by decide +kernel) mF_X7_27 (by decide) (by decide) (Nat.le_of_ble_eq_true rfl) (Nat.le_of_ble_eq_true rfl) dX7_init_44 (fun q => lv_bipush X.1 X.2.1 dX7_init_45 rfl q) dX7_init_47 dX7_init_49 (fun ad6 hd6 => ?_)
  have K7 := K6.mk (k := 9) (t := 0) (N := 20) (by decide)
  refine r_mkI (pc := 52) (b := b) (ci := 7) (k := 9) (N := 20) (w := 2) (Z := (Int8.ofInt (20)).toInt32) X hnm hA K6 rfl mU_X7 (by decide) (by simp) rfl rfl (by decide +kernel) mF_X7_30 (by decide) (by decide) (Nat.le_of_ble_eq_true rfl) (Nat.le_of_ble_eq_true rfl) dX7_init_52 (fun q => lv_bipush X.1 X.2.1 dX7_init_53 rfl q) dX7_init_55 dX7_init_57 (fun ad7 hd7 => ?_)
  have K8 := K7.mk (k := 10) (t := 0) (N := 16) (by decide)
  refine r_mkI (pc := 60) (b := b) (ci := 7) (k := 10) (N := 16) (w := 2) (Z := (Int8.ofInt (16)).toInt32) X hnm hA K7 rfl mU_X7 (by decide) (by simp) rfl rfl (by decide +kernel) mF_X7_33 (by decide) (by decide) (Nat.le_of_ble_eq_true rfl) (Nat.le_of_ble_eq_true rfl) dX7_init_60 (fun q => lv_bipush X.1 X.2.1 dX7_init_61 rfl q) dX7_init_63 dX7_init_65 (fun ad8 hd8 => ?_)
  have K9 := K8.mk (k := 11) (t := 0) (N := 336) (by decide)
  refine r_mkI (pc := 68) (b := b) (ci := 7) (k := 11) (N := 336) (w := 3) (Z := (Int16.ofInt (336)).toInt32) X hnm hA K8 rfl mU_X7 (by decide) (by simp) rfl rfl (by decide +kernel) mF_X7_36 (by decide) (by decide) (Nat.le_of_ble_eq_true rfl) (Nat.le_of_ble_eq_true rfl) dX7_init_68 (fun q => lv_sipush X.1 X.2.1 dX7_init_69 rfl q) dX7_init_72 dX7_init_74 (fun ad9 hd9 => ?_)
  exact r_vretG (pc := 77) (mc := 9) (ms := 476) (n := shl.length) (ad0 := ad) X dX7_init_77 (by rw [mkHp_eq (b := b) (ci := 7) _ shl [0, 0, 0, 1, 1, 1, 1, 1, 1, 1, 1, 1]]; rfl) (fun p hp => by rw [hd9 p (by (try simp only [mkL_len]); omega), hd8 p (by (try simp only [mkL_len]); omega), hd7 p (by (try simp only [mkL_len]); omega), hd6 p (by (try simp only [mkL_len]); omega), hd5 p (by (try simp only [mkL_len]); omega), hd4 p (by (try simp only [mkL_len]); omega), hd3 p (by (try simp only [mkL_len]); omega), hd2 p (by (try simp only [mkL_len]); omega), hd1 p (by (try simp only [mkL_len]); omega)])
end INITS
