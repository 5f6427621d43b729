/-! THE LAW: its loop -/
theorem and63 (x : Int) : 0 ≤ (iI x &&& iI 63).toInt ∧ (iI x &&& iI 63).toInt ≤ 63 := by
  have e := pk_and (iI x) (m := iI 63) 6 (by decide +kernel)
  rw [e, nI_toInt (by omega)]
  omega
theorem ofNat_toInt {n : Nat} (h : n ≤ 3584) : (Int32.ofNat n).toInt = (n : Int) := Int32.toInt_ofNat_of_lt (by omega)
section LAWLOOP
variable {E : EnvT} {ad : Nat → Nat} {shl : List Shp} {p : Program} {l : Launch} {e : Env} {s : State} {m : MethodId} {args : Array Value} {below : List Frame} {meth : Method} {c : Code} {Q : State → Prop} {b Ln : Nat} {xs : Nat → Int32}
set_option maxRecDepth 100000 in
set_option maxHeartbeats 4000000 in
theorem law_step (X : Cx E p s m args meth c cL_law RL 4 ret) (Hb8 : At_X8 shl) (Hb9 : At_X9 shl) {N i : Nat} {iv : Int32} {h : Hp} (C : SC E s b Ln xs iv i) (hN : N ≤ 600) (r : Rel N h)
    (kk : ∀ h', Rel (N + 1) h' → Ev E ad shl p l e room_1 s m args below meth c 600000 7302250 Q 4 h' 1394 (LL b ad iv) []) : Ev E ad shl p l e room_1 s m args below meth c 600000 7302250 Q 4 h 33 (LL b ad iv) [.int (xs (i + 0) &&& 63)] := by
  have hz : (xs (i + 0) &&& 63).toInt = (iI (xs (i + 0)).toInt &&& iI 63).toInt := by rw [iI_of]; rfl
  have hb := and63 (xs (i + 0)).toInt
  rw [← hz] at hb
  by_cases big : 33 < (xs (i + 0) &&& 63).toInt
  · exact r_tableOut (pc := 33) X dL_law_33 (Or.inr big) (tgt := 1394) (by decide) (kk h r.next)
  obtain ⟨v, hv⟩ := Int.eq_ofNat_of_zero_le hb.1
  have hv33 : v ≤ 33 := by omega
  have go : ∀ (k : Nat) (off : Int) (tgt : Nat), v = k → (#[151, 214, 237, 250, 263, 276, 299, 322, 355, 408, 431, 454, 477, 520, 553, 576, 599, 622, 655, 698, 751, 804, 847, 880, 893, 946, 989, 1042, 1085, 1128, 1207, 1250, 1263, 1338] : Array Int)[k]? = some off → (33 : Int) + off = (tgt : Int) → Ev E ad shl p l e room_1 s m args below meth c 600000 7302250 Q 4 h tgt (LL b ad iv) [] → Ev E ad shl p l e room_1 s m args below meth c 600000 7302250 Q 4 h 33 (LL b ad iv) [.int (xs (i + 0) &&& 63)] := by
    intro k off tgt hk ho ht kk
    refine r_tableIn (pc := 33) X dL_law_33 (by omega) (by omega) ?_ ht kk
    rw [hv, show ((v : Int) - 0).toNat = k by omega]
    exact ho
  rcases (by omega : v = 0 ∨ v = 1 ∨ v = 2 ∨ v = 3 ∨ v = 4 ∨ v = 5 ∨ v = 6 ∨ v = 7 ∨ v = 8 ∨ v = 9 ∨ v = 10 ∨ v = 11 ∨ v = 12 ∨ v = 13 ∨ v = 14 ∨ v = 15 ∨ v = 16 ∨ v = 17 ∨ v = 18 ∨ v = 19 ∨ v = 20 ∨ v = 21 ∨ v = 22 ∨ v = 23 ∨ v = 24 ∨ v = 25 ∨ v = 26 ∨ v = 27 ∨ v = 28 ∨ v = 29 ∨ v = 30 ∨ v = 31 ∨ v = 32 ∨ v = 33) with q | q | q | q | q | q | q | q | q | q | q | q | q | q | q | q | q | q | q | q | q | q | q | q | q | q | q | q | q | q | q | q | q | q
  · obtain ⟨z, h1, h2, e1, e2, r2⟩ := s_feed (x1 := (xs (i + 1)).toInt) (x2 := (xs (i + 2)).toInt) (x3 := (xs (i + 3)).toInt) (x4 := (xs (i + 4)).toInt) (x5 := (xs (i + 5)).toInt) r
    exact go 0 151 184 q rfl (by decide) (lc_feed X Hb8 Hb9 C (res := h2) (by rw [e1, e_cW, e2, e_cW, if_pos rfl]) (kk h2 r2))
  · obtain ⟨z, h1, h2, e1, e2, r2⟩ := s_end (x1 := (xs (i + 1)).toInt) r
    exact go 1 214 247 q rfl (by decide) (lc_end X Hb8 Hb9 C (res := h2) (by rw [e1, e_cW, e2, e_cW, if_pos rfl]) (kk h2 r2))
  · obtain ⟨z, h1, h2, e1, e2, r2⟩ := s_beach  r
    exact go 2 237 270 q rfl (by decide) (lc_beach X Hb8 Hb9 C (res := h2) (by rw [e1, e_cW, e2, e_cW, if_pos rfl]) (kk h2 r2))
  · obtain ⟨z, h1, h2, e1, e2, r2⟩ := s_sea  r
    exact go 3 250 283 q rfl (by decide) (lc_sea X Hb8 Hb9 C (res := h2) (by rw [e1, e_cW, e2, e_cW, if_pos rfl]) (kk h2 r2))
  · obtain ⟨z, h1, h2, e1, e2, r2⟩ := s_plan  r
    exact go 4 263 296 q rfl (by decide) (lc_plan X Hb8 Hb9 C (res := h2) (by rw [e1, e_cW, e2, e_cW, if_pos rfl]) (kk h2 r2))
  · obtain ⟨z, e1, e2⟩ := s_fault (x1 := (xs (i + 1)).toInt) r
    exact go 5 276 309 q rfl (by decide) (lc_fault X Hb8 Hb9 C (res := h) (by rw [e1, e_cP, e2, e_cP, if_pos rfl]) (kk h r.next))
  · obtain ⟨z, e1, e2⟩ := s_told (x1 := (xs (i + 1)).toInt) (tI_inR _) r
    exact go 6 299 332 q rfl (by decide) (lc_told X Hb8 Hb9 C (res := h) (by rw [e1, e_cP, e2, e_cP, if_pos rfl]) (kk h r.next))
  · obtain ⟨z, e1, e2⟩ := s_wave (x1 := (xs (i + 1)).toInt) (x2 := (xs (i + 2)).toInt) (tI_inR _) (tI_inR _) r
    exact go 7 322 355 q rfl (by decide) (lc_wave X Hb8 Hb9 C (res := h) (by rw [e1, e_cP, e2, e_cP, if_pos rfl]) (kk h r.next))
  · obtain ⟨z, e1, e2⟩ := s_act (x1 := (xs (i + 1)).toInt) (x2 := (xs (i + 2)).toInt) (x3 := (xs (i + 3)).toInt) (x4 := (xs (i + 4)).toInt) (tI_inR _) (tI_inR _) (tI_inR _) (tI_inR _) r
    exact go 8 355 388 q rfl (by decide) (lc_act X Hb8 Hb9 C (res := h) (by rw [e1, e_cP, e2, e_cP, if_pos rfl]) (kk h r.next))
  · obtain ⟨z, h1, h2, e1, e2, r2⟩ := s_chance (x1 := (xs (i + 1)).toInt) (tI_inR _) r
    exact go 9 408 441 q rfl (by decide) (lc_chance X Hb8 Hb9 C (res := h2) (by rw [e1, e_cW, e2, e_cW, if_pos rfl]) (kk h2 r2))
  · obtain ⟨z, h1, h2, e1, e2, r2⟩ := s_work (x1 := (xs (i + 1)).toInt) r
    exact go 10 431 464 q rfl (by decide) (lc_work X Hb8 Hb9 C (res := h2) (by rw [e1, e_cW, e2, e_cW, if_pos rfl]) (kk h2 r2))
  · obtain ⟨z, h1, h2, e1, e2, r2⟩ := s_pass (x1 := (xs (i + 1)).toInt) hN r
    exact go 11 454 487 q rfl (by decide) (lc_pass X Hb8 Hb9 C (res := h2) (by rw [e1, e_cW, e2, e_cW, if_pos rfl]) (kk h2 r2))
  · obtain ⟨z, e1, e2⟩ := s_cell (x1 := (xs (i + 1)).toInt) (x2 := (xs (i + 2)).toInt) (x3 := (xs (i + 3)).toInt) (tI_inR _) (tI_inR _) (tI_inR _) r
    exact go 12 477 510 q rfl (by decide) (lc_cell X Hb8 Hb9 C (res := h) (by rw [e1, e_cP, e2, e_cP, if_pos rfl]) (kk h r.next))
  · obtain ⟨z, e1, e2⟩ := s_flag (x1 := (xs (i + 1)).toInt) (x2 := (xs (i + 2)).toInt) (tI_inR _) (tI_inR _) r
    exact go 13 520 553 q rfl (by decide) (lc_flag X Hb8 Hb9 C (res := h) (by rw [e1, e_cP, e2, e_cP, if_pos rfl]) (kk h r.next))
  · obtain ⟨z, e1, e2⟩ := s_sum (x1 := (xs (i + 1)).toInt) r
    exact go 14 553 586 q rfl (by decide) (lc_sum X Hb8 Hb9 C (res := h) (by rw [e1, e_cP, e2, e_cP, if_pos rfl]) (kk h r.next))
  · obtain ⟨z, h1, h2, e1, e2, r2⟩ := s_keep (x1 := (xs (i + 1)).toInt) r
    exact go 15 576 609 q rfl (by decide) (lc_keep X Hb8 Hb9 C (res := h2) (by rw [e1, e_cW, e2, e_cW, if_pos rfl]) (kk h2 r2))
  · obtain ⟨z, h1, h2, e1, e2, r2⟩ := s_take (x1 := (xs (i + 1)).toInt) r
    exact go 16 599 632 q rfl (by decide) (lc_take X Hb8 Hb9 C (res := h2) (by rw [e1, e_cW, e2, e_cW, if_pos rfl]) (kk h2 r2))
  · obtain ⟨z, e1, e2⟩ := s_holds (x1 := (xs (i + 1)).toInt) (x2 := (xs (i + 2)).toInt) r
    exact go 17 622 655 q rfl (by decide) (lc_holds X Hb8 Hb9 C (res := h) (by rw [e1, e_cP, e2, e_cP, if_pos rfl]) (kk h r.next))
  · obtain ⟨z, e1, e2⟩ := s_high (x1 := (xs (i + 1)).toInt) (x2 := (xs (i + 2)).toInt) (x3 := (xs (i + 3)).toInt) r
    exact go 18 655 688 q rfl (by decide) (lc_high X Hb8 Hb9 C (res := h) (by rw [e1, e_cP, e2, e_cP, if_pos rfl]) (kk h r.next))
  · obtain ⟨z, h1, h2, e1, e2, r2⟩ := s_spill (x1 := (xs (i + 1)).toInt) (x2 := (xs (i + 2)).toInt) (x3 := (xs (i + 3)).toInt) (x4 := (xs (i + 4)).toInt) r
    exact go 19 698 731 q rfl (by decide) (lc_spill X Hb8 Hb9 C (res := h2) (by rw [e1, e_cW, e2, e_cW, if_pos rfl]) (kk h2 r2))
  · obtain ⟨z, h1, h2, e1, e2, r2⟩ := s_trial (x1 := (xs (i + 1)).toInt) (x2 := (xs (i + 2)).toInt) (x3 := (xs (i + 3)).toInt) (x4 := (xs (i + 4)).toInt) r
    exact go 20 751 784 q rfl (by decide) (lc_trial X Hb8 Hb9 C (res := h2) (by rw [e1, e_cW, e2, e_cW, if_pos rfl]) (kk h2 r2))
  · obtain ⟨z, h1, h2, e1, e2, r2⟩ := s_right (x1 := (xs (i + 1)).toInt) (x2 := (xs (i + 2)).toInt) (x3 := (xs (i + 3)).toInt) r
    exact go 21 804 837 q rfl (by decide) (lc_right X Hb8 Hb9 C (res := h2) (by rw [e1, e_cW, e2, e_cW, if_pos rfl]) (kk h2 r2))
  · obtain ⟨z, h1, e1, e2, r2⟩ := s_humps (x1 := (xs (i + 1)).toInt) (x2 := (xs (i + 2)).toInt) r
    exact go 22 847 880 q rfl (by decide) (lc_humps X Hb8 Hb9 C (res := h1) (by rw [e1, e_cW, e2, e_cP, if_pos rfl]) (kk h1 r2))
  · obtain ⟨z, h1, h2, e1, e2, r2⟩ := s_next  r
    exact go 23 880 913 q rfl (by decide) (lc_next X Hb8 Hb9 C (res := h2) (by rw [e1, e_cW, e2, e_cW, if_pos rfl]) (kk h2 r2))
  · obtain ⟨z, h1, h2, e1, e2, r2⟩ := s_last (x1 := (xs (i + 1)).toInt) (x2 := (xs (i + 2)).toInt) (x3 := (xs (i + 3)).toInt) (x4 := (xs (i + 4)).toInt) hN (tI_inR _) r
    exact go 24 893 926 q rfl (by decide) (lc_last X Hb8 Hb9 C (res := h2) (by rw [e1, e_cW, e2, e_cW, if_pos rfl]) (kk h2 r2))
  · obtain ⟨z, h1, h2, e1, e2, r2⟩ := s_pail (x1 := (xs (i + 1)).toInt) (x2 := (xs (i + 2)).toInt) (x3 := (xs (i + 3)).toInt) hN (tI_inR _) r
    exact go 25 946 979 q rfl (by decide) (lc_pail X Hb8 Hb9 C (res := h2) (by rw [e1, e_cW, e2, e_cW, if_pos rfl]) (kk h2 r2))
  · obtain ⟨z, h1, h2, e1, e2, r2⟩ := s_row (x1 := (xs (i + 1)).toInt) (x2 := (xs (i + 2)).toInt) (x3 := (xs (i + 3)).toInt) (x4 := (xs (i + 4)).toInt) hN (tI_inR _) r
    exact go 26 989 1022 q rfl (by decide) (lc_row X Hb8 Hb9 C (res := h2) (by rw [e1, e_cW, e2, e_cW, if_pos rfl]) (kk h2 r2))
  · obtain ⟨z, h1, h2, e1, e2, r2⟩ := s_again (x1 := (xs (i + 1)).toInt) (x2 := (xs (i + 2)).toInt) (x3 := (xs (i + 3)).toInt) hN (tI_inR _) r
    exact go 27 1042 1075 q rfl (by decide) (lc_again X Hb8 Hb9 C (res := h2) (by rw [e1, e_cW, e2, e_cW, if_pos rfl]) (kk h2 r2))
  · obtain ⟨z, h1, h2, e1, e2, r2⟩ := s_stand (x1 := (xs (i + 1)).toInt) (x2 := (xs (i + 2)).toInt) (x3 := (xs (i + 3)).toInt) hN r
    exact go 28 1085 1118 q rfl (by decide) (lc_stand X Hb8 Hb9 C (res := h2) (by rw [e1, e_cW, e2, e_cW, if_pos rfl]) (kk h2 r2))
  · obtain ⟨z, h1, h2, e1, e2, r2⟩ := s_outlasts (x1 := (xs (i + 1)).toInt) (x2 := (xs (i + 2)).toInt) (x3 := (xs (i + 3)).toInt) (x4 := (xs (i + 4)).toInt) (x5 := (if (xs (i + 5)).toInt = 0 then 0 else 1)) hN r
    exact go 29 1128 1161 q rfl (by decide) (lc_outlasts X Hb8 Hb9 C (res := h2) (by rw [e1, e_cW, e2, e_cW, if_pos rfl]) (kk h2 r2))
  · obtain ⟨z, h1, h2, e1, e2, r2⟩ := s_contest (x1 := (xs (i + 1)).toInt) (x2 := (xs (i + 2)).toInt) (x3 := (xs (i + 3)).toInt) hN r
    exact go 30 1207 1240 q rfl (by decide) (lc_contest X Hb8 Hb9 C (res := h2) (by rw [e1, e_cW, e2, e_cW, if_pos rfl]) (kk h2 r2))
  · obtain ⟨z, h1, h2, e1, e2, r2⟩ := s_which  hN r
    exact go 31 1250 1283 q rfl (by decide) (lc_which X Hb8 Hb9 C (res := h2) (by rw [e1, e_cW, e2, e_cW, if_pos rfl]) (kk h2 r2))
  · obtain ⟨z, e1, e2⟩ := s_join (x1 := (xs (i + 1)).toInt) (x2 := (xs (i + 2)).toInt) (x3 := (xs (i + 3)).toInt) (x4 := (xs (i + 4)).toInt) (x5 := (xs (i + 5)).toInt) (x6 := (xs (i + 6)).toInt) 
    exact go 32 1263 1296 q rfl (by decide) (lc_join X Hb8 Hb9 C (res := h) (by rw [e1, e_cP, e2, e_cP, if_pos rfl]) (kk h r.next))
  · obtain ⟨z, e1, e2⟩ := s_count (x1 := (xs (i + 1)).toInt) r
    exact go 33 1338 1371 q rfl (by decide) (lc_count X Hb8 Hb9 C (res := h) (by rw [e1, e_cP, e2, e_cP, if_pos rfl]) (kk h r.next))
set_option maxRecDepth 100000 in
set_option maxHeartbeats 4000000 in
theorem law_loop (X : Cx E p s m args meth c cL_law RL 4 ret) (Hb8 : At_X8 shl) (Hb9 : At_X9 shl) (hX : va_X b Ln xs s s.heap) (hbl : b < s.heap.size) (hbA : ¬ bsA E b) (hLn : Ln ≤ 3584)
    (fin : ∀ (h : Hp) (iv : Int32), Ev E ad shl p l e room_1 s m args below meth c 600000 7302250 Q 4 h 1400 (LL b ad iv) []) : ∀ (n N : Nat) (iv : Int32) (h : Hp), iv.toInt = ((7 * N : Nat) : Int) → Ln < 7 * N + 7 * n → Rel N h → Ev E ad shl p l e room_1 s m args below meth c 600000 7302250 Q 4 h 18 (LL b ad iv) []
  | 0, N, iv, h, hi, hn, r => by
    have hG : (cI 7 fun z => subI (Int32.ofNat Ln).toInt z fun w => if w < iv.toInt then some () else none) = some () := by
      rw [e_cI, ofNat_toInt hLn, e_sub _ _ _ (by omega), if_pos (by omega)]
    refine r_iload_n (pc := 18) X dL_law_18 rfl rfl ?_
    refine r_aload_n (pc := 19) X dL_law_19 rfl rfl ?_
    refine r_lawlen (pc := 20) X hX hbl hbA dL_law_20 ?_
    refine r_bipush (pc := 21) X dL_law_21 hG (by decide) (fun z hG => ?_)
    refine r_isub (pc := 23) X dL_law_23 hG (fun w hG => ?_)
    exact r_icmp_gt (pc := 24) X dL_law_24 (tgt := 1400) (by decide) hG (fun _ => fin h iv) (fun q => by cases q)
  | n + 1, N, iv, h, hi, hn, r => by
    by_cases last : (Ln : Int) - 7 < ((7 * N : Nat) : Int)
    · have hG : (cI 7 fun z => subI (Int32.ofNat Ln).toInt z fun w => if w < iv.toInt then some () else none) = some () := by
        rw [e_cI, ofNat_toInt hLn, e_sub _ _ _ (by omega), if_pos (by omega)]
      refine r_iload_n (pc := 18) X dL_law_18 rfl rfl ?_
      refine r_aload_n (pc := 19) X dL_law_19 rfl rfl ?_
      refine r_lawlen (pc := 20) X hX hbl hbA dL_law_20 ?_
      refine r_bipush (pc := 21) X dL_law_21 hG (by decide) (fun z hG => ?_)
      refine r_isub (pc := 23) X dL_law_23 hG (fun w hG => ?_)
      exact r_icmp_gt (pc := 24) X dL_law_24 (tgt := 1400) (by decide) hG (fun _ => fin h iv) (fun q => by cases q)
    have hG : (cI 7 fun z => subI (Int32.ofNat Ln).toInt z fun w => if w < iv.toInt then none else some ()) = some () := by
      rw [e_cI, ofNat_toInt hLn, e_sub _ _ _ (by omega), if_neg (by omega)]
    have C : SC E s b Ln xs iv (7 * N) := ⟨hX, hbl, hbA, hLn, hi, by omega⟩
    refine r_iload_n (pc := 18) X dL_law_18 rfl rfl ?_
    refine r_aload_n (pc := 19) X dL_law_19 rfl rfl ?_
    refine r_lawlen (pc := 20) X hX hbl hbA dL_law_20 ?_
    refine r_bipush (pc := 21) X dL_law_21 hG (by decide) (fun z hG => ?_)
    refine r_isub (pc := 23) X dL_law_23 hG (fun w hG => ?_)
    refine r_icmp_gt (pc := 24) X dL_law_24 (tgt := 1400) (by decide) hG (fun q => by cases q) (fun _ => ?_)
    refine r_aload_n (pc := 27) X dL_law_27 rfl rfl ?_
    refine r_iload_n (pc := 28) X dL_law_28 rfl rfl ?_
    refine r_argc (pc := 29) X C (k := 0) (by omega) (by omega) dL_law_29 ?_
    refine fun H locs ls hc hs hl => lv_bipush X.1 X.2.1 dL_law_30 rfl (lv_iand X.1 X.2.1 dL_law_32 ?_)
    refine law_step X Hb8 Hb9 C (by omega) r (fun h' r' => ?_) H locs ls hc hs hl
    have hI : addI iv.toInt 7 (fun z => if z = ((7 * (N + 1) : Nat) : Int) then some () else none) = some () := by
      rw [e_add _ _ _ (by omega), if_pos (by omega)]
    refine r_iinc (pc := 1394) X (L' := fun Z => LL b ad Z) dL_law_1394 (by decide) rfl rfl (by decide) (fun _ => rfl) hI (fun Z hZ => ?_)
    refine r_goto (pc := 1397) X dL_law_1397 (tgt := 18) (by decide) ?_
    refine law_loop X Hb8 Hb9 hX hbl hbA hLn fin n (N + 1) Z h' ?_ (by omega) r'
    by_cases y : Z.toInt = ((7 * (N + 1) : Nat) : Int)
    · exact y
    · rw [if_neg y] at hZ; cases hZ
end LAWLOOP
