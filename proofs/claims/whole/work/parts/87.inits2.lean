/-! CONSTRUCTORS of a beach and of a sea -/
section INITS2
variable {E : EnvT} {ad : Nat → Nat} {shl : List Shp} {l : Launch} {h : Hp}
abbrev rm_X0_init : Room := { frames := 4, cells := 5, slots := 159, locals := 100 }
set_option maxRecDepth 100000 in
set_option maxHeartbeats 4000000 in
theorem c_X0_init {b : Nat} {g1 g2 : Hp} (K0 : MK shl h b 0 [1, 1, 1, 1, 1, 0, 0, 0, 0]) (hn : shl.length = b + 1) (e1 : g_X0_clear b (zS [(0, 11), (1, 64), (2, 64), (3, 3), (4, 17)] shl.length h) = some g1) (e2 : g_X0_weigh b g1 = some g2) : Met l yX0_init (wsM yX0_init cX0_init 1 none) rm_X0_init (va_Pc [.ref (ad b)] (WorldG E ad shl h)) (QcG E shl.length ad (mkS b 0 [(0, 11), (1, 64), (2, 64), (3, 3), (4, 17)] shl [1, 1, 1, 1, 1, 0, 0, 0, 0]) g2) 5 159 (bsA E) := by
  have Hb0 := mk_at0 K0.1 hn
  rw [mkHp_eq (b := b) (ci := 0) _ shl [1, 1, 1, 1, 1, 0, 0, 0, 0]] at e1
  refine met_ofG (L0 := [some (.ref (ad b))]) rfl rfl rfl (Nat.le_of_ble_eq_true rfl) (fun p e s m below meth c X hnm hA => ?_)
  refine r_aload_n (pc := 0) X dX0_init_0 rfl rfl ?_
  refine r_objInit (pc := 1) X mM_X0_3 mI_objectInit mK_objectInit (Nat.le_of_ble_eq_true rfl) (Nat.le_of_ble_eq_true rfl) dX0_init_1 (by decide) ?_
  have K1 := K0.mk (k := 0) (t := 0) (N := 11) (by decide)
  refine r_mkI (pc := 4) (b := b) (ci := 0) (k := 0) (N := 11) (w := 2) (Z := (Int8.ofInt (11)).toInt32) X hnm hA K0 rfl mU_X0 (by decide) (by simp) rfl rfl (by decide +kernel) mF_X0_11 (by decide) (by decide) (Nat.le_of_ble_eq_true rfl) (Nat.le_of_ble_eq_true rfl) dX0_init_4 (fun q => lv_bipush X.1 X.2.1 dX0_init_5 rfl q) dX0_init_7 dX0_init_9 (fun ad1 hd1 => ?_)
  have K2 := K1.mk (k := 1) (t := 0) (N := 64) (by decide)
  refine r_mkI (pc := 12) (b := b) (ci := 0) (k := 1) (N := 64) (w := 2) (Z := (Int8.ofInt (64)).toInt32) X hnm hA K1 rfl mU_X0 (by decide) (by simp) rfl rfl (by decide +kernel) mF_X0_15 (by decide) (by decide) (Nat.le_of_ble_eq_true rfl) (Nat.le_of_ble_eq_true rfl) dX0_init_12 (fun q => lv_bipush X.1 X.2.1 dX0_init_13 rfl q) dX0_init_15 dX0_init_17 (fun ad2 hd2 => ?_)
  have K3 := K2.mk (k := 2) (t := 0) (N := 64) (by decide)
  refine r_mkI (pc := 20) (b := b) (ci := 0) (k := 2) (N := 64) (w := 2) (Z := (Int8.ofInt (64)).toInt32) X hnm hA K2 rfl mU_X0 (by decide) (by simp) rfl rfl (by decide +kernel) mF_X0_18 (by decide) (by decide) (Nat.le_of_ble_eq_true rfl) (Nat.le_of_ble_eq_true rfl) dX0_init_20 (fun q => lv_bipush X.1 X.2.1 dX0_init_21 rfl q) dX0_init_23 dX0_init_25 (fun ad3 hd3 => ?_)
  have K4 := K3.mk (k := 3) (t := 0) (N := 3) (by decide)
  refine r_mkI (pc := 28) (b := b) (ci := 0) (k := 3) (N := 3) (w := 1) (Z := Int32.ofInt (3)) X hnm hA K3 rfl mU_X0 (by decide) (by simp) rfl rfl (by decide +kernel) mF_X0_21 (by decide) (by decide) (Nat.le_of_ble_eq_true rfl) (Nat.le_of_ble_eq_true rfl) dX0_init_28 (fun q => lv_iconst X.1 X.2.1 dX0_init_29 rfl q) dX0_init_30 dX0_init_32 (fun ad4 hd4 => ?_)
  have K5 := K4.mk (k := 4) (t := 0) (N := 17) (by decide)
  refine r_mkI (pc := 35) (b := b) (ci := 0) (k := 4) (N := 17) (w := 2) (Z := (Int8.ofInt (17)).toInt32) X hnm hA K4 rfl mU_X0 (by decide) (by simp) rfl rfl (by decide +kernel) mF_X0_24 (by decide) (by decide) (Nat.le_of_ble_eq_true rfl) (Nat.le_of_ble_eq_true rfl) dX0_init_35 (fun q => lv_bipush X.1 X.2.1 dX0_init_36 rfl q) dX0_init_38 dX0_init_40 (fun ad5 hd5 => ?_)
  refine r_aload_n (pc := 43) X dX0_init_43 rfl rfl ?_
  refine r_cV (pc := 44) (K := fun g => some g) (res := g1) (G := g_X0_clear b (mkHp b 0 [(0, 11), (1, 64), (2, 64), (3, 3), (4, 17)] shl [1, 1, 1, 1, 1, 0, 0, 0, 0] h)) (by rw [e1]; rfl) (fun _ hg => runV X dX0_init_44 (c_X0_clear Hb0 hg) mM_X0_27 mI_X0_clear mE_X0_clear mN_X0 mK_X0_clear (at_X0_o Hb0) rfl rfl rfl rfl hdd_X0_clear ⟨(Nat.le_of_ble_eq_true rfl), (Nat.le_of_ble_eq_true rfl)⟩ rfl rfl (Nat.le_of_ble_eq_true rfl) ⟨(Nat.le_of_ble_eq_true rfl), (Nat.le_of_ble_eq_true rfl)⟩) (fun g hG => ?_)
  injection hG with hG
  rw [hG]
  clear hG
  refine r_aload_n (pc := 47) X dX0_init_47 rfl rfl ?_
  refine r_cV (pc := 48) (K := fun g => some g) (res := g2) (G := g_X0_weigh b g1) (by rw [e2]; rfl) (fun _ hg => runV X dX0_init_48 (c_X0_weigh Hb0 hg) mM_X0_30 mI_X0_weigh mE_X0_weigh mN_X0 mK_X0_weigh (at_X0_o Hb0) rfl rfl rfl rfl hdd_X0_weigh ⟨(Nat.le_of_ble_eq_true rfl), (Nat.le_of_ble_eq_true rfl)⟩ rfl rfl (Nat.le_of_ble_eq_true rfl) ⟨(Nat.le_of_ble_eq_true rfl), (Nat.le_of_ble_eq_true rfl)⟩) (fun g hG => ?_)
  injection hG with hG
  rw [hG]
  clear hG
  exact r_vretG (pc := 51) (mc := 5) (ms := 159) (n := shl.length) (ad0 := ad) X dX0_init_51 rfl (fun p hp => by rw [hd5 p (by (try simp only [mkL_len]); omega), hd4 p (by (try simp only [mkL_len]); omega), hd3 p (by (try simp only [mkL_len]); omega), hd2 p (by (try simp only [mkL_len]); omega), hd1 p (by (try simp only [mkL_len]); omega)])
abbrev rm_X2_init : Room := { frames := 4, cells := 4, slots := 45, locals := 100 }
set_option maxRecDepth 100000 in
set_option maxHeartbeats 4000000 in
theorem c_X2_init {b : Nat} {g1 : Hp} (K0 : MK shl h b 2 [1, 1, 1, 1, 0, 0, 0]) (hn : shl.length = b + 1) (e1 : g_X2_clear b (zS [(0, 9), (1, 12), (2, 12), (3, 12)] shl.length h) = some g1) : Met l yX2_init (wsM yX2_init cX2_init 1 none) rm_X2_init (va_Pc [.ref (ad b)] (WorldG E ad shl h)) (QcG E shl.length ad (mkS b 2 [(0, 9), (1, 12), (2, 12), (3, 12)] shl [1, 1, 1, 1, 0, 0, 0]) g1) 4 45 (bsA E) := by
  have Hb0 := mk_at2 K0.1 hn
  rw [mkHp_eq (b := b) (ci := 2) _ shl [1, 1, 1, 1, 0, 0, 0]] at e1
  refine met_ofG (L0 := [some (.ref (ad b))]) rfl rfl rfl (Nat.le_of_ble_eq_true rfl) (fun p e s m below meth c X hnm hA => ?_)
  refine r_aload_n (pc := 0) X dX2_init_0 rfl rfl ?_
  refine r_objInit (pc := 1) X mM_X2_3 mI_objectInit mK_objectInit (Nat.le_of_ble_eq_true rfl) (Nat.le_of_ble_eq_true rfl) dX2_init_1 (by decide) ?_
  have K1 := K0.mk (k := 0) (t := 0) (N := 9) (by decide)
  refine r_mkI (pc := 4) (b := b) (ci := 2) (k := 0) (N := 9) (w := 2) (Z := (Int8.ofInt (9)).toInt32) X hnm hA K0 rfl mU_X2 (by decide) (by simp) rfl rfl (by decide +kernel) mF_X2_11 (by decide) (by decide) (Nat.le_of_ble_eq_true rfl) (Nat.le_of_ble_eq_true rfl) dX2_init_4 (fun q => lv_bipush X.1 X.2.1 dX2_init_5 rfl q) dX2_init_7 dX2_init_9 (fun ad1 hd1 => ?_)
  have K2 := K1.mk (k := 1) (t := 0) (N := 12) (by decide)
  refine r_mkI (pc := 12) (b := b) (ci := 2) (k := 1) (N := 12) (w := 2) (Z := (Int8.ofInt (12)).toInt32) X hnm hA K1 rfl mU_X2 (by decide) (by simp) rfl rfl (by decide +kernel) mF_X2_15 (by decide) (by decide) (Nat.le_of_ble_eq_true rfl) (Nat.le_of_ble_eq_true rfl) dX2_init_12 (fun q => lv_bipush X.1 X.2.1 dX2_init_13 rfl q) dX2_init_15 dX2_init_17 (fun ad2 hd2 => ?_)
  have K3 := K2.mk (k := 2) (t := 0) (N := 12) (by decide)
  refine r_mkI (pc := 20) (b := b) (ci := 2) (k := 2) (N := 12) (w := 2) (Z := (Int8.ofInt (12)).toInt32) X hnm hA K2 rfl mU_X2 (by decide) (by simp) rfl rfl (by decide +kernel) mF_X2_18 (by decide) (by decide) (Nat.le_of_ble_eq_true rfl) (Nat.le_of_ble_eq_true rfl) dX2_init_20 (fun q => lv_bipush X.1 X.2.1 dX2_init_21 rfl q) dX2_init_23 dX2_init_25 (fun ad3 hd3 => ?_)
  have K4 := K3.mk (k := 3) (t := 0) (N := 12) (by decide)
  refine r_mkI (pc := 28) (b := b) (ci := 2) (k := 3) (N := 12) (w := 2) (Z := (Int8.ofInt (12)).toInt32) X hnm hA K3 rfl mU_X2 (by decide) (by simp) rfl rfl (by decide +kernel) mF_X2_21 (by decide) (by decide) (Nat.le_of_ble_eq_true rfl) (Nat.le_of_ble_eq_true rfl) dX2_init_28 (fun q => lv_bipush X.1 X.2.1 dX2_init_29 rfl q) dX2_init_31 dX2_init_33 (fun ad4 hd4 => ?_)
  refine r_aload_n (pc := 36) X dX2_init_36 rfl rfl ?_
  refine r_cV (pc := 37) (K := fun g => some g) (res := g1) (G := g_X2_clear b (mkHp b 2 [(0, 9), (1, 12), (2, 12), (3, 12)] shl [1, 1, 1, 1, 0, 0, 0] h)) (by rw [e1]; rfl) (fun _ hg => runV X dX2_init_37 (c_X2_clear Hb0 hg) mM_X2_24 mI_X2_clear mE_X2_clear mN_X2 mK_X2_clear (at_X2_o Hb0) rfl rfl rfl rfl hdd_X2_clear ⟨(Nat.le_of_ble_eq_true rfl), (Nat.le_of_ble_eq_true rfl)⟩ rfl rfl (Nat.le_of_ble_eq_true rfl) ⟨(Nat.le_of_ble_eq_true rfl), (Nat.le_of_ble_eq_true rfl)⟩) (fun g hG => ?_)
  injection hG with hG
  rw [hG]
  clear hG
  exact r_vretG (pc := 40) (mc := 4) (ms := 45) (n := shl.length) (ad0 := ad) X dX2_init_40 rfl (fun p hp => by rw [hd4 p (by (try simp only [mkL_len]); omega), hd3 p (by (try simp only [mkL_len]); omega), hd2 p (by (try simp only [mkL_len]); omega), hd1 p (by (try simp only [mkL_len]); omega)])
end INITS2
