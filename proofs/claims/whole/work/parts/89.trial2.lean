/-! CONSTRUCTOR of a trial -/
theorem nest_X6_11 : (RX6, 11, yX3_init, "TideKeep") ∈ nestL := by decide +kernel
theorem Ev.to {E : EnvT} {ad : Nat → Nat} {shl : List Shp} {p : Program} {l : Launch} {e : Env} {Rm : Room} {s : State} {m : MethodId} {args : Array Value} {below : List Frame} {meth : Method} {c : Code} {cells slots : Nat} {Q : State → Prop} {nL : Nat} {h : Hp} {pc : Nat} {L L2 : List (Option Value)} {S S2 : List Value} (hL : L = L2) (hS : S = S2) (k : Ev E ad shl p l e Rm s m args below meth c cells slots Q nL h pc L2 S2) : Ev E ad shl p l e Rm s m args below meth c cells slots Q nL h pc L S := by
  subst hL hS
  exact k
theorem Ev.sh {E : EnvT} {ad : Nat → Nat} {shl shl2 : List Shp} {p : Program} {l : Launch} {e : Env} {Rm : Room} {s : State} {m : MethodId} {args : Array Value} {below : List Frame} {meth : Method} {c : Code} {cells slots : Nat} {Q : State → Prop} {nL : Nat} {h : Hp} {pc : Nat} {L : List (Option Value)} {S : List Value} (hL : shl = shl2) (k : Ev E ad shl2 p l e Rm s m args below meth c cells slots Q nL h pc L S) : Ev E ad shl p l e Rm s m args below meth c cells slots Q nL h pc L S := by
  subst hL
  exact k
section INITS3
variable {E : EnvT} {ad : Nat → Nat} {shl : List Shp} {l : Launch} {h : Hp}
abbrev rm_X6_init : Room := { frames := 3, cells := 12, slots := 388, locals := 40 }
set_option maxRecDepth 100000 in
set_option maxHeartbeats 4000000 in
theorem c_X6_init {b : Nat} (K0 : MK shl h b 6 [1, 1, 1, 1, 1, 0, 0]) : Met l yX6_init (wsM yX6_init cX6_init 1 none) rm_X6_init (va_Pc [.ref (ad b)] (WorldG E ad shl h)) (QcG E shl.length ad (mkS b 6 [(1, 2), (2, 2), (3, 2), (4, 99)] ((S3 shl).set b (.inl (6, [1, 1, 1, 1, 1, 0, 0].set 0 (shl.length + 2)))) ([1, 1, 1, 1, 1, 0, 0].set 0 (shl.length + 2))) (mkHp b 6 [(1, 2), (2, 2), (3, 2), (4, 99)] ((S3 shl).set b (.inl (6, [1, 1, 1, 1, 1, 0, 0].set 0 (shl.length + 2)))) ([1, 1, 1, 1, 1, 0, 0].set 0 (shl.length + 2)) (H3 shl h))) 12 388 (bsA E) := by
  have hb := K0.2.1
  refine met_ofG (L0 := [some (.ref (ad b))]) rfl rfl rfl (Nat.le_of_ble_eq_true rfl) (fun p e s m below meth c X hnm hA => ?_)
  refine r_aload_n (pc := 0) X dX6_init_0 rfl rfl ?_
  refine r_objInit (pc := 1) X mM_X6_3 mI_objectInit mK_objectInit (Nat.le_of_ble_eq_true rfl) (Nat.le_of_ble_eq_true rfl) dX6_init_1 (by decide) ?_
  refine r_aload_n (pc := 4) X dX6_init_4 rfl rfl ?_
  refine r_shore (pc := 5) (host := "TideKeep") X hA K0.2.2 mC_X6_9 nest_X6_11 (Nat.le_of_ble_eq_true rfl) (Nat.le_of_ble_eq_true rfl) ⟨(Nat.le_of_ble_eq_true rfl), (Nat.le_of_ble_eq_true rfl)⟩ (Nat.le_of_ble_eq_true rfl) dX6_init_5 dX6_init_8 dX6_init_9 (fun ad1 hd1 => ?_)
  refine Ev.to (L2 := [some (.ref (ad1 b))]) (S2 := [.ref (ad1 shl.length), .ref (ad1 b)]) (by rw [hd1 b hb]) (by rw [hd1 b hb]) ?_
  have KS := S3_keep K0
  refine r_putFin (pc := 12) (ci := 6) (k := 0) (ty := .object "TideKeep$Shore") X hnm KS.1 rfl mU_X6 (by decide) (by decide) rfl rfl (by decide +kernel) rfl rfl mF_X6_12 dX6_init_12 ?_
  have K1 := KS.fin (k := 0) (q := shl.length) (by rw [S3_len]; omega)
  have K2 := K1.mk (k := 1) (t := 0) (N := 2) (by decide)
  refine r_mkI (pc := 15) (b := b) (ci := 6) (k := 1) (N := 2) (w := 1) (Z := Int32.ofInt (2)) X hnm hA K1 rfl mU_X6 (by decide) (by simp) rfl rfl (by decide +kernel) mF_X6_18 (by decide) (by decide) (Nat.le_of_ble_eq_true rfl) (Nat.le_of_ble_eq_true rfl) dX6_init_15 (fun q => lv_iconst X.1 X.2.1 dX6_init_16 rfl q) dX6_init_17 dX6_init_19 (fun ad2 hd2 => ?_)
  have K3 := K2.mk (k := 2) (t := 0) (N := 2) (by decide)
  refine r_mkI (pc := 22) (b := b) (ci := 6) (k := 2) (N := 2) (w := 1) (Z := Int32.ofInt (2)) X hnm hA K2 rfl mU_X6 (by decide) (by simp) rfl rfl (by decide +kernel) mF_X6_22 (by decide) (by decide) (Nat.le_of_ble_eq_true rfl) (Nat.le_of_ble_eq_true rfl) dX6_init_22 (fun q => lv_iconst X.1 X.2.1 dX6_init_23 rfl q) dX6_init_24 dX6_init_26 (fun ad3 hd3 => ?_)
  have K4 := K3.mk (k := 3) (t := 0) (N := 2) (by decide)
  refine r_mkI (pc := 29) (b := b) (ci := 6) (k := 3) (N := 2) (w := 1) (Z := Int32.ofInt (2)) X hnm hA K3 rfl mU_X6 (by decide) (by simp) rfl rfl (by decide +kernel) mF_X6_25 (by decide) (by decide) (Nat.le_of_ble_eq_true rfl) (Nat.le_of_ble_eq_true rfl) dX6_init_29 (fun q => lv_iconst X.1 X.2.1 dX6_init_30 rfl q) dX6_init_31 dX6_init_33 (fun ad4 hd4 => ?_)
  have K5 := K4.mk (k := 4) (t := 0) (N := 99) (by decide)
  refine r_mkI (pc := 36) (b := b) (ci := 6) (k := 4) (N := 99) (w := 2) (Z := (Int8.ofInt (99)).toInt32) X hnm hA K4 rfl mU_X6 (by decide) (by simp) rfl rfl (by decide +kernel) mF_X6_28 (by decide) (by decide) (Nat.le_of_ble_eq_true rfl) (Nat.le_of_ble_eq_true rfl) dX6_init_36 (fun q => lv_bipush X.1 X.2.1 dX6_init_37 rfl q) dX6_init_39 dX6_init_41 (fun ad5 hd5 => ?_)
  exact r_vretG (pc := 44) (mc := 12) (ms := 388) (n := shl.length) (ad0 := ad) X dX6_init_44 rfl (fun p hp => by rw [hd5 p (by (try simp only [mkL_len, List.length_set, S3_len]); omega), hd4 p (by (try simp only [mkL_len, List.length_set, S3_len]); omega), hd3 p (by (try simp only [mkL_len, List.length_set, S3_len]); omega), hd2 p (by (try simp only [mkL_len, List.length_set, S3_len]); omega), hd1 p hp])
end INITS3
