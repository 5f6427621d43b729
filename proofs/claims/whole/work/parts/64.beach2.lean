/-! READING a beach: shape, cells, clauses -/
section BEACH2
variable {b : Nat → Int} {L d : Nat} {hc hm : Hp}
theorem q_columns {g : Hp} : g_X0_columns d g = some (g (d + 1) 0) := by
  unfold g_X0_columns
  rw [e_cI, e_rd _ _ _ _ _ (by omega)]
  rfl
theorem q_rows {g : Hp} : g_X0_rows d g = some (g (d + 1) 1) := by
  unfold g_X0_rows
  rw [e_cI, e_rd _ _ _ _ _ (by omega)]
  rfl
theorem BB.shape0 {z : Int} (s : BB d hc hm) (h27 : hm 100 27 = 0) (hz : 1 ≤ z ∧ z ≤ 8) : BB d (set2 hc (d + 1) 0 z) (set2 hm 100 14 z) := by
  obtain ⟨⟨⟨s1, s1b⟩, s2⟩, s3, s4, s5, s6, s7, s8, s9⟩ := s
  have e1 : ∀ j, j ≠ 14 → set2 hm 100 14 z 100 j = hm 100 j := fun j hj => set2_nk _ _ _ _ _ _ hj
  have e2 : ∀ j, j ≠ 0 → set2 hc (d + 1) 0 z (d + 1) j = hc (d + 1) j := fun j hj => set2_nk _ _ _ _ _ _ hj
  have e3 : ∀ p, p ≠ d + 1 → set2 hc (d + 1) 0 z p = hc p := fun p hp => set2_ne p hp
  have e4 : ∀ p, p ≠ 100 → set2 hm 100 14 z p = hm p := fun p hp => set2_ne p hp
  have e5 : set2 hm 100 14 z 100 14 = z := set2_same _ _ _ _
  have e6 : set2 hc (d + 1) 0 z (d + 1) 0 = z := set2_same _ _ _ _
  generalize set2 hc (d + 1) 0 z = gc at *
  generalize set2 hm 100 14 z = gm at *
  unfold BB
  rw [e3 d (by omega), e3 (d + 2) (by omega), e3 (d + 3) (by omega), e3 (d + 4) (by omega), e4 103 (by omega), e4 105 (by omega), e4 107 (by omega), e4 109 (by omega), e1 15 (by omega), e1 16 (by omega), e1 17 (by omega), e1 18 (by omega), e1 27 (by omega), e2 1 (by omega), e5, e6]
  refine ⟨⟨⟨rfl, s1b⟩, hz, s2.2⟩, fun k hk => by rw [e2 (2 + k) (by omega)]; exact s3 k hk, s4, ⟨s5.1, fun k hk => ?_⟩, s6, s7, s8, s9⟩
  rw [s9 h27] at hk
  exact absurd hk (by omega)
theorem BB.shape1 {z : Int} (s : BB d hc hm) (h27 : hm 100 27 = 0) (hz : 1 ≤ z ∧ z ≤ 8) : BB d (set2 hc (d + 1) 1 z) (set2 hm 100 15 z) := by
  obtain ⟨⟨⟨s1, s1b⟩, s2⟩, s3, s4, s5, s6, s7, s8, s9⟩ := s
  have e1 : ∀ j, j ≠ 15 → set2 hm 100 15 z 100 j = hm 100 j := fun j hj => set2_nk _ _ _ _ _ _ hj
  have e2 : ∀ j, j ≠ 1 → set2 hc (d + 1) 1 z (d + 1) j = hc (d + 1) j := fun j hj => set2_nk _ _ _ _ _ _ hj
  have e3 : ∀ p, p ≠ d + 1 → set2 hc (d + 1) 1 z p = hc p := fun p hp => set2_ne p hp
  have e4 : ∀ p, p ≠ 100 → set2 hm 100 15 z p = hm p := fun p hp => set2_ne p hp
  have e5 : set2 hm 100 15 z 100 15 = z := set2_same _ _ _ _
  have e6 : set2 hc (d + 1) 1 z (d + 1) 1 = z := set2_same _ _ _ _
  generalize set2 hc (d + 1) 1 z = gc at *
  generalize set2 hm 100 15 z = gm at *
  unfold BB
  rw [e3 d (by omega), e3 (d + 2) (by omega), e3 (d + 3) (by omega), e3 (d + 4) (by omega), e4 103 (by omega), e4 105 (by omega), e4 107 (by omega), e4 109 (by omega), e1 14 (by omega), e1 16 (by omega), e1 17 (by omega), e1 18 (by omega), e1 27 (by omega), e2 0 (by omega), e5, e6]
  refine ⟨⟨⟨s1, rfl⟩, s2.1, hz⟩, fun k hk => by rw [e2 (2 + k) (by omega)]; exact s3 k hk, s4, ⟨s5.1, fun k hk => ?_⟩, s6, s7, s8, s9⟩
  rw [s9 h27] at hk
  exact absurd hk (by omega)
theorem k_numstep {i N F : Nat} {g : Hp} (h : i < N) (hN : N ≤ 11) : loopF (g_X0_readNumbers_l18 d 1 (N : Int)) (F + 1) ((i : Int), g) = cW (g_X5_need 1 (T_X0_LEAST.getD i 0) (T_X0_MOST.getD i 0) g) fun z h => loopF (g_X0_readNumbers_l18 d 1 (N : Int)) F (((i + 1 : Nat) : Int), set2 h (d + 1) i z) := by
  have hL : T_X0_LEAST.length = 11 := rfl
  have hM : T_X0_MOST.length = 11 := rfl
  show g_X0_readNumbers_l18 d 1 _ (loopF _ F) ((i : Int), g) = _
  generalize loopF (g_X0_readNumbers_l18 d 1 (N : Int)) F = self
  unfold g_X0_readNumbers_l18
  dsimp only
  rw [b_neg (by omega), k_rdT (by omega), k_rdT (by omega)]
  congr 1
  funext z h
  rw [e_wrn _ _ _ _ _ _ (by omega), e_add _ _ _ (by omega), show (i : Int) + 1 = ((i + 1 : Nat) : Int) by omega]
theorem NF.m {hm' : Hp} (n : NF hc hm) (t4 : ∀ j, (j < 3 ∨ 6 < j) → hm' 100 j = hm 100 j) : NF hc hm' := ⟨n.1, by rw [t4 8 (by omega)]; exact n.2.1, n.2.2.1, by rw [t4 9 (by omega)]; exact n.2.2.2⟩
theorem y_shape (hd : 3 ≤ d) (x : TX b L hc hm) (s : SS b L hc hm) (n : NF hc hm) (bb : BB d hc hm) : RD b L d hc hm (g_X0_readNumbers d 1 0 hc) (g_X9_readShape hm) := by
  have b7 := bb.2.2.2.2.2.1
  have b8 := bb.2.2.2.2.2.2.1
  obtain ⟨q1, q2, q3, q4⟩ := bits_b b7.1
  unfold g_X0_readNumbers g_X9_readShape
  have anI : ∀ (x y : Int) (K : Int → Option (Int × Hp)), andI x y K = K ((iI x &&& iI y).toInt) := fun _ _ _ => rfl
  have orI' : ∀ (x y : Int) (K : Int → Option (Int × Hp)), orI x y K = K ((iI x ||| iI y).toInt) := fun _ _ _ => rfl
  have tail : ∀ (g : Hp), (gF g d 7 fun z8 => cI 1 fun z9 => shlI z9 0 fun z10 => orI z8 z10 fun z11 => pF g d 7 z11 fun h12 => cI 11 fun z13 => cP (g_X0_howMany 0) fun z14 => addI 0 z14 fun z15 => minI z13 z15 fun z16 => loopF (g_X0_readNumbers_l18 d 1 z16) FU (0, h12)) = loopF (g_X0_readNumbers_l18 d 1 ((0 + 2 : Nat) : Int)) FU (((0 : Nat) : Int), set2 g d 7 (orS (g d 7) 1 0)) := by
    intro g
    rw [e_gF, e_cI, e_orS, e_pF, e_cI, k_howMany, e_cP, if_neg (by decide), if_pos rfl, e_add _ _ _ (by omega), e_min, if_pos (by omega)]
    rfl
  rw [e_gF hc, b7.2, e_bit, e_gF hm, e_cI 1, anI, ← q1, e_cI 1]
  rcases q2 with z | z
  rotate_left
  · -- told twice
    obtain ⟨hc1, u1, ⟨hm2, u2, u3, u4⟩, u5, u6⟩ := y_refuse (f := 3) s n (by decide)
    obtain ⟨hc2, v1, v2, v3⟩ := k_nums_f (d := d) hd 2 0 FU (set2 hc1 d 7 (orS (hc1 d 7) 1 0)) (by omega) (fu _ (by omega)) (by rw [set2_np _ _ _ _ _ _ (by omega)]; exact u6)
    refine ⟨hc2, ?_, (u5.cf.tr (CF.set (by omega) hd)).tr v2, Or.inr ⟨hm2, ?_, ?_, u4.mf⟩⟩
    · refine join_gen (fun j6 hj6 => ?_)
      rw [b_neg (by omega), e_cI 3, u1, e_cV, hj6, tail]
      exact v1
    · rw [b_pos z, e_cI 3, u2, e_cW, retZW_0]
    · have := u3.outC (p := d) (k := 7) (x := orS (hc1 d 7) 1 0) (by omega)
      unfold FF at this ⊢
      rw [v3]
      exact this
  by_cases th : hm 100 27 = 0
  rotate_left
  · obtain ⟨hc1, u1, ⟨hm2, u2, u3, u4⟩, u5, u6⟩ := y_refuse (f := 5) s n (by decide)
    obtain ⟨hc2, v1, v2, v3⟩ := k_nums_f (d := d) hd 2 0 FU (set2 hc1 d 7 (orS (hc1 d 7) 1 0)) (by omega) (fu _ (by omega)) (by rw [set2_np _ _ _ _ _ _ (by omega)]; exact u6)
    refine ⟨hc2, ?_, (u5.cf.tr (CF.set (by omega) hd)).tr v2, Or.inr ⟨hm2, ?_, ?_, u4.mf⟩⟩
    · refine join_gen (fun j6 hj6 => ?_)
      rw [b_pos z, b_pos rfl, e_gF hc, b8.1, b_neg th, e_cI 5, u1, e_cV, hj6, tail]
      exact v1
    · rw [b_neg (by omega), e_gF hm, b_neg th, e_cI 5, u2, e_cW, retZW_0]
    · have := u3.outC (p := d) (k := 7) (x := orS (hc1 d 7) 1 0) (by omega)
      unfold FF at this ⊢
      rw [v3]
      exact this
  have s1 : BB d (set2 hc d 7 (cbB ((iI (hm 100 18) ||| iI 1).toInt))) (set2 hm 100 18 ((iI (hm 100 18) ||| iI 1).toInt)) := bb.bits q4
  have ss1 : SS b L (set2 hc d 7 (cbB ((iI (hm 100 18) ||| iI 1).toInt))) (set2 hm 100 18 ((iI (hm 100 18) ||| iI 1).toInt)) := (s.outC (by omega)).outM (by omega)
  have x1 : TX b L (set2 hc d 7 (cbB ((iI (hm 100 18) ||| iI 1).toInt))) (set2 hm 100 18 ((iI (hm 100 18) ||| iI 1).toInt)) := x.cf hd (CF.set (by omega) hd) (MF.set (by omega))
  have n1 : NF (set2 hc d 7 (cbB ((iI (hm 100 18) ||| iI 1).toInt))) (set2 hm 100 18 ((iI (hm 100 18) ||| iI 1).toInt)) := (n.outC (by omega)).outM (by omega)
  have f1 : CF d hc (set2 hc d 7 (cbB ((iI (hm 100 18) ||| iI 1).toInt))) := CF.set (by omega) hd
  have f2 : MF hm (set2 hm 100 18 ((iI (hm 100 18) ||| iI 1).toInt)) := MF.set (by omega)
  have th1 : set2 hm 100 18 ((iI (hm 100 18) ||| iI 1).toInt) 100 27 = 0 := by rw [set2_nk _ _ _ _ _ _ (by omega)]; exact th
  have m1 : hc 1 2 ≤ set2 hc d 7 (cbB ((iI (hm 100 18) ||| iI 1).toInt)) 1 2 := by rw [set2_np _ _ _ _ _ _ (by omega)]; exact Int.le_refl _
  have cls : (joinF (fun (a5 : Hp) => gF a5 d 7 fun z8 => cI 1 fun z9 => shlI z9 0 fun z10 => orI z8 z10 fun z11 => pF a5 d 7 z11 fun h12 => cI 11 fun z13 => cP (g_X0_howMany 0) fun z14 => addI 0 z14 fun z15 => minI z13 z15 fun z16 => loopF (g_X0_readNumbers_l18 d 1 z16) FU (0, h12)) fun j6 => if bsC (cbB (hm 100 18)) 0 = 0 then if (0 : Int) = 0 then gF hc d 8 fun z27 => if z27 = 0 then j6 hc else cI 5 fun z28 => cV (g_X5_refuse 1 z28 hc) fun h29 => j6 h29 else j6 hc else cI 3 fun z30 => cV (g_X5_refuse 1 z30 hc) fun h31 => j6 h31) = loopF (g_X0_readNumbers_l18 d 1 ((0 + 2 : Nat) : Int)) FU (((0 : Nat) : Int), set2 hc d 7 (cbB ((iI (hm 100 18) ||| iI 1).toInt))) := by
    refine join_gen (fun j6 hj6 => ?_)
    rw [b_pos z, b_pos rfl, e_gF hc, b8.1, b_pos th, hj6, tail, b7.2, q3]
  rw [cls, b_neg (by omega), e_gF hm, b_pos th, e_gF hm, e_cI, orI', e_pF]
  generalize set2 hc d 7 (cbB ((iI (hm 100 18) ||| iI 1).toInt)) = hc0 at *
  generalize set2 hm 100 18 ((iI (hm 100 18) ||| iI 1).toInt) = hm0 at *
  obtain ⟨hmA, t1, t2, t3, t4⟩ := y_scan x1 ss1
  have nA : NF hc0 hmA := n1.m t4
  have sA : BB d hc0 hmA := s1.cm hd TC.rf t3
  have thA : hmA 100 27 = 0 := by rw [t4 27 (by omega)]; exact th1
  obtain ⟨F, hF⟩ : ∃ F, FU = F + 1 + 1 + 1 := ⟨999997, rfl⟩
  obtain ⟨z1, hc1, w1, w2, w3⟩ := y_number (l := 1) (u := 8) (x1.m t3) t2 nA
  have w1' : g_X5_need 1 (T_X0_LEAST.getD 0 0) (T_X0_MOST.getD 0 0) hc0 = some (z1, hc1) := w1
  rw [hF, k_numstep (by omega) (by omega), w1', e_cW, t1, e_cV, e_cI 1, e_cI 8]
  rcases w3 with ⟨y, hm1, v1, v2, v3, v4, v5⟩ | ⟨y, hm1, v1, v2, v3⟩
  rotate_left
  · obtain ⟨hc2, r1, r2, r3⟩ := k_nums_f (d := d) hd 1 1 (F + 1 + 1) (set2 hc1 (d + 1) 0 z1) (by omega) (by omega) (by rw [set2_np _ _ _ _ _ _ (by omega)]; exact v2.1)
    rw [v1, e_cW, b_pos rfl, e_cI, retZW_0]
    refine ⟨hc2, r1, ((f1.tr w2.cf).tr (CF.set (by omega) hd)).tr r2, Or.inr ⟨hm1, rfl, ?_, (f2.tr t3.mf).tr v3.mf⟩⟩
    have := v2.outC (p := d + 1) (k := 0) (x := z1) (by omega)
    unfold FF at this ⊢
    rw [r3]
    exact this
  have thB : hm1 100 27 = 0 := by rw [v5.2 27 (by omega)]; exact thA
  have sB : BB d (set2 hc1 (d + 1) 0 z1) (set2 hm1 100 14 z1) := (sA.cm hd w2 v5).shape0 thB y
  have aB : AA b L (set2 hc1 (d + 1) 0 z1) (set2 hm1 100 14 z1) := v2.out (by omega) (by omega)
  have nB : NF (set2 hc1 (d + 1) 0 z1) (set2 hm1 100 14 z1) := (v3.outC (by omega)).outM (by omega)
  have xB : TX b L (set2 hc1 (d + 1) 0 z1) (set2 hm1 100 14 z1) := (((x1.m t3).c w2).m v5).cf hd (CF.set (by omega) hd) (MF.set (by omega))
  have g1 : CF d hc (set2 hc1 (d + 1) 0 z1) := (f1.tr w2.cf).tr (CF.set (by omega) hd)
  have g2 : MF hm (set2 hm1 100 14 z1) := ((f2.tr t3.mf).tr v5.mf).tr (MF.set (by omega))
  have thC : set2 hm1 100 14 z1 100 27 = 0 := by rw [set2_nk _ _ _ _ _ _ (by omega)]; exact thB
  have m2 : hc 1 2 ≤ set2 hc1 (d + 1) 0 z1 1 2 := by rw [set2_np _ _ _ _ _ _ (by omega)]; exact Int.le_trans m1 w2.2.2
  rw [v1, e_cW, b_neg (by decide), e_gF hm1, v4, e_pF]
  generalize set2 hc1 (d + 1) 0 z1 = hcB at *
  generalize set2 hm1 100 14 z1 = hmB at *
  obtain ⟨z2, hc2, w4, w5, w6⟩ := y_number (l := 1) (u := 8) xB aB nB
  have w4' : g_X5_need 1 (T_X0_LEAST.getD (0 + 1) 0) (T_X0_MOST.getD (0 + 1) 0) hcB = some (z2, hc2) := w4
  rw [k_numstep (by omega) (by omega), w4', e_cW, e_cI 1, e_cI 8]
  rcases w6 with ⟨y2, hm2, v6, v7, v8, v9, v10⟩ | ⟨y2, hm2, v6, v7, v8⟩
  rotate_left
  · rw [v6, e_cW, b_pos rfl, e_cI, retZW_0]
    refine ⟨set2 hc2 (d + 1) 1 z2, ?_, (g1.tr w5.cf).tr (CF.set (by omega) hd), Or.inr ⟨hm2, rfl, v7.outC (by omega), g2.tr v8.mf⟩⟩
    show g_X0_readNumbers_l18 d 1 ((0 + 2 : Nat) : Int) (loopF _ F) (((0 + 1 + 1 : Nat) : Int), _) = _
    unfold g_X0_readNumbers_l18
    dsimp only
    rw [b_pos (by omega)]
  · rw [v6, e_cW, b_neg (by decide), e_gF hm2, v9, e_pF, e_cI, retZW_1]
    have thD : hm2 100 27 = 0 := by rw [v10.2 27 (by omega)]; exact thC
    refine ⟨set2 hc2 (d + 1) 1 z2, ?_, (g1.tr w5.cf).tr (CF.set (by omega) hd), Or.inl ⟨_, rfl, v7.out (by omega) (by omega), (v8.outC (by omega)).outM (by omega), (sB.cm hd w5 v10).shape1 thD y2, (g2.tr v10.mf).tr (MF.set (by omega)), ?_⟩⟩
    · show g_X0_readNumbers_l18 d 1 ((0 + 2 : Nat) : Int) (loopF _ F) (((0 + 1 + 1 : Nat) : Int), _) = _
      unfold g_X0_readNumbers_l18
      dsimp only
      rw [b_pos (by omega)]
    · rw [set2_np _ _ _ _ _ _ (by omega)]
      exact Int.le_trans m2 w5.2.2
/-- a cell -/
def mC (h : Hp) (K : Hp → Option (Int × Hp)) : Option (Int × Hp) := cI 0 fun z2 => gF h 100 14 fun z3 => cI 1 fun z4 => subI z3 z4 fun z5 => cW (g_X9_number z2 z5 h) fun z6 h7 => joinF (fun (a8 : Hp) => cI 0 fun z11 => retZW z11 a8) fun j9 => if z6 = 0 then j9 h7 else gF h7 100 7 fun z12 => gF h7 100 14 fun z13 => gF h7 100 15 fun z14 => cW (g_X9_cellAt z12 z13 z14 h7) fun z15 h16 => if z15 = 0 then j9 h16 else K h16
theorem k_cell_f (h : hc 1 6 ≠ 0) : g_X0_needCell d 1 hc = some (0, hc) := by
  have sb : ∀ (x y : Int) (K : Int → Option (Int × Hp)), subI x y K = K (wr (x - y)) := fun _ _ _ => rfl
  unfold g_X0_needCell
  rw [e_cI, q_columns, e_cP, e_cI, sb, k_need_f h, e_cW, e_cI, q_rows, e_cP, e_cI, sb, k_need_f h, e_cW, q_columns, e_cP, e_mul _ _ _ (by rw [Int.zero_mul]; omega), Int.zero_mul, e_add _ _ _ (by omega)]
  rfl
theorem y_cell (hd : 3 ≤ d) (x : TX b L hc hm) (a : AA b L hc hm) (n : NF hc hm) (sh : (hc (d + 1) 0 = hm 100 14 ∧ hc (d + 1) 1 = hm 100 15) ∧ (1 ≤ hm 100 14 ∧ hm 100 14 ≤ 8) ∧ (1 ≤ hm 100 15 ∧ hm 100 15 ≤ 8)) :
    ∃ z hc', g_X0_needCell d 1 hc = some (z, hc') ∧ TC hc hc' ∧ (((0 ≤ z ∧ z < hm 100 14 * hm 100 15) ∧ ∃ hm2, (∀ K, mC hm K = K hm2) ∧ SS b L hc' hm2 ∧ NF hc' hm2 ∧ TM hm hm2 ∧ hm2 100 7 = z) ∨ ∃ hm2, (∀ K, mC hm K = some (0, hm2)) ∧ FF hc' hm2 ∧ TM hm hm2) := by
  obtain ⟨⟨sh1, sh2⟩, sc, sr⟩ := sh
  obtain ⟨z1, hc1, w1, w2, w3⟩ := y_number (l := 0) (u := hm 100 14 - 1) x a n
  have sb : ∀ (x y : Int) (K : Int → Option (Int × Hp)), subI x y K = K (wr (x - y)) := fun _ _ _ => rfl
  unfold g_X0_needCell
  rw [e_cI, q_columns, e_cP, e_cI, sh1, e_sub _ _ _ (by omega), w1, e_cW, e_cI, q_rows, e_cP, e_cI, w2.1 (d + 1) (by omega), sh2, e_sub _ _ _ (by omega)]
  rcases w3 with ⟨y, hm1, v1, v2, v3, v4, v5⟩ | ⟨y, hm1, v1, v2, v3⟩
  rotate_left
  · rw [k_need_f v2.1, e_cW, q_columns, e_cP, e_mul _ _ _ (by rw [Int.zero_mul]; omega), Int.zero_mul, e_add _ _ _ (by omega)]
    refine ⟨_, hc1, rfl, w2, Or.inr ⟨hm1, fun K => ?_, v2, v3⟩⟩
    unfold mC
    rw [e_cI, e_gF, e_cI, e_sub _ _ _ (by omega), v1, e_cW]
    refine join_gen (fun j9 hj9 => ?_)
    rw [b_pos rfl, hj9, e_cI, retZW_0]
  obtain ⟨z2, hc2, u1, u2, u3⟩ := y_need (l := 0) (u := hm 100 15 - 1) ((x.c w2).m v5) v2 v3
  have hz2 : 0 ≤ z2 ∧ z2 ≤ hm 100 15 - 1 := by
    rcases u3 with q | q
    · exact q.1
    · have := q.1
      omega
  have a1 : z2 * hm 100 14 ≤ (hm 100 15 - 1) * hm 100 14 := Int.mul_le_mul_of_nonneg_right hz2.2 (by omega)
  have a2 : (hm 100 15 - 1) * hm 100 14 = hm 100 14 * hm 100 15 - hm 100 14 := by rw [Int.sub_mul, Int.one_mul, Int.mul_comm]
  have a3 : 0 ≤ z2 * hm 100 14 := Int.mul_nonneg hz2.1 (by omega)
  have a4 : hm 100 14 * hm 100 15 ≤ 8 * 8 := Int.mul_le_mul sc.2 sr.2 (by omega) (by omega)
  have a5 : hm 100 14 * z2 = z2 * hm 100 14 := Int.mul_comm _ _
  have hk : ∀ (g : Hp), g (d + 1) 0 = hm 100 14 → (cP (g_X0_columns d g) fun z13 => mulI z2 z13 fun z14 => addI z14 z1 fun z15 => some (z15, g)) = some (z2 * hm 100 14 + z1, g) := by
    intro g hg
    rw [q_columns, e_cP, hg, e_mul _ _ _ (by omega), e_add _ _ _ (by omega)]
  rw [u1, e_cW, hk hc2 (by rw [u2.1 (d + 1) (by omega), w2.1 (d + 1) (by omega), sh1])]
  have mc : ∀ K, mC hm K = cW (g_X9_cellAt z1 (hm 100 14) (hm 100 15) hm1) fun z15 h16 => if z15 = 0 then some (0, h16) else K h16 := by
    intro K
    unfold mC
    rw [e_cI, e_gF, e_cI, e_sub _ _ _ (by omega), v1, e_cW]
    refine join_gen (fun j9 hj9 => ?_)
    rw [b_neg (by decide), e_gF, v4, e_gF, v5.2 14 (by omega), e_gF, v5.2 15 (by omega)]
    congr 1
    funext z h
    split
    · rw [hj9, e_cI, retZW_0]
    · rfl
  have ca : ∀ (r : Option (Int × Hp)), g_X9_peek 0 (hm 100 15 - 1) hm1 = r → g_X9_cellAt z1 (hm 100 14) (hm 100 15) hm1 = cW r fun z4 h5 => if z4 = 0 then cI 0 fun z11 => retZW z11 h5 else gF h5 100 7 fun z6 => mulI (hm 100 14) z6 fun z7 => addI z7 z1 fun z8 => pF h5 100 7 z8 fun h9 => cI 1 fun z10 => retZW z10 h9 := by
    intro r hr
    unfold g_X9_cellAt
    rw [e_cI, e_cI, e_sub _ _ _ (by omega), hr]
  rcases u3 with ⟨y2, p1, p2, p3⟩ | ⟨y2, hm2, p1, p2, p3⟩
  · refine ⟨_, hc2, rfl, w2.tr u2, Or.inl ⟨by omega, set2 (set2 hm1 100 7 z2) 100 7 (z2 * hm 100 14 + z1), fun K => ?_, p1.outM (by omega), p2.outM (by omega), (v5.tr (TM.set (by omega))).tr (TM.set (by omega)), set2_same _ _ _ _⟩⟩
    rw [mc, ca _ p3, e_cW, b_neg (by decide), e_gF, set2_same, e_mul _ _ _ (by omega), e_add _ _ _ (by omega), e_pF, e_cI, retZW_1, e_cW, b_neg (by decide), a5]
  · refine ⟨_, hc2, rfl, w2.tr u2, Or.inr ⟨hm2, fun K => ?_, p2, v5.tr p3⟩⟩
    rw [mc, ca _ p1, e_cW, b_pos rfl, e_cI, retZW_0, e_cW, b_pos rfl]
theorem BB.heap {c : Nat} {v : Int} (s : BB d hc hm) (hc64 : c < 64) (hv : 0 ≤ v ∧ v ≤ 59) : BB d (set2 (set2 hc (d + 2) c v) d 8 1) (set2 (set2 hm 105 c v) 100 27 1) := by
  obtain ⟨s2, s3, s4, s5, s6, s7, s8, s9⟩ := s
  have e1 : ∀ j, j ≠ 27 → set2 (set2 hm 105 c v) 100 27 1 100 j = hm 100 j := fun j hj => by rw [set2_nk _ _ _ _ _ _ hj, set2_np _ _ _ _ _ _ (by omega)]
  have e2 : ∀ j, j ≠ 8 → set2 (set2 hc (d + 2) c v) d 8 1 d j = hc d j := fun j hj => by rw [set2_nk _ _ _ _ _ _ hj, set2_np _ _ _ _ _ _ (by omega)]
  have e3 : ∀ p, p ≠ d → p ≠ d + 2 → set2 (set2 hc (d + 2) c v) d 8 1 p = hc p := fun p hp hq => by rw [set2_ne p hp, set2_ne p hq]
  have e4 : ∀ p, p ≠ 100 → p ≠ 105 → set2 (set2 hm 105 c v) 100 27 1 p = hm p := fun p hp hq => by rw [set2_ne p hp, set2_ne p hq]
  have e5 : set2 (set2 hm 105 c v) 100 27 1 100 27 = 1 := set2_same _ _ _ _
  have e6 : set2 (set2 hc (d + 2) c v) d 8 1 d 8 = 1 := set2_same _ _ _ _
  have e7 : ∀ k, set2 (set2 hc (d + 2) c v) d 8 1 (d + 2) k = if k = c then v else hc (d + 2) k := fun k => by
    rw [set2_np _ _ _ _ _ _ (by omega)]
    by_cases y : k = c
    · rw [if_pos y, y, set2_same]
    · rw [if_neg y, set2_nk _ _ _ _ _ _ y]
  have e8 : ∀ k, set2 (set2 hm 105 c v) 100 27 1 105 k = if k = c then v else hm 105 k := fun k => by
    rw [set2_np _ _ _ _ _ _ (by omega)]
    by_cases y : k = c
    · rw [if_pos y, y, set2_same]
    · rw [if_neg y, set2_nk _ _ _ _ _ _ y]
  generalize set2 (set2 hc (d + 2) c v) d 8 1 = gc at *
  generalize set2 (set2 hm 105 c v) 100 27 1 = gm at *
  unfold BB
  rw [e3 (d + 1) (by omega) (by omega), e3 (d + 3) (by omega) (by omega), e3 (d + 4) (by omega) (by omega), e4 103 (by omega) (by omega), e4 107 (by omega) (by omega), e4 109 (by omega) (by omega), e1 14 (by omega), e1 15 (by omega), e1 16 (by omega), e1 17 (by omega), e1 18 (by omega), e2 5 (by omega), e2 6 (by omega), e2 7 (by omega), e5, e6]
  refine ⟨s2, s3, fun k hk => ?_, s5, s6, s7, ⟨rfl, Or.inr rfl⟩, fun y => absurd y (by decide)⟩
  rw [e7, e8]
  by_cases y : k = c
  · rw [if_pos y, if_pos y]; exact ⟨⟨rfl, hv⟩, (s4 k hk).2⟩
  · rw [if_neg y, if_neg y]; exact s4 k hk
theorem BB.stone {c : Nat} (s : BB d hc hm) (hc64 : c < 64) : BB d (set2 (set2 hc (d + 3) c 1) d 8 1) (set2 (set2 hm 109 c 1) 100 27 1) := by
  obtain ⟨s2, s3, s4, s5, s6, s7, s8, s9⟩ := s
  have e1 : ∀ j, j ≠ 27 → set2 (set2 hm 109 c 1) 100 27 1 100 j = hm 100 j := fun j hj => by rw [set2_nk _ _ _ _ _ _ hj, set2_np _ _ _ _ _ _ (by omega)]
  have e2 : ∀ j, j ≠ 8 → set2 (set2 hc (d + 3) c 1) d 8 1 d j = hc d j := fun j hj => by rw [set2_nk _ _ _ _ _ _ hj, set2_np _ _ _ _ _ _ (by omega)]
  have e3 : ∀ p, p ≠ d → p ≠ d + 3 → set2 (set2 hc (d + 3) c 1) d 8 1 p = hc p := fun p hp hq => by rw [set2_ne p hp, set2_ne p hq]
  have e4 : ∀ p, p ≠ 100 → p ≠ 109 → set2 (set2 hm 109 c 1) 100 27 1 p = hm p := fun p hp hq => by rw [set2_ne p hp, set2_ne p hq]
  have e5 : set2 (set2 hm 109 c 1) 100 27 1 100 27 = 1 := set2_same _ _ _ _
  have e6 : set2 (set2 hc (d + 3) c 1) d 8 1 d 8 = 1 := set2_same _ _ _ _
  have e7 : ∀ k, set2 (set2 hc (d + 3) c 1) d 8 1 (d + 3) k = if k = c then 1 else hc (d + 3) k := fun k => by
    rw [set2_np _ _ _ _ _ _ (by omega)]
    by_cases y : k = c
    · rw [if_pos y, y, set2_same]
    · rw [if_neg y, set2_nk _ _ _ _ _ _ y]
  have e8 : ∀ k, set2 (set2 hm 109 c 1) 100 27 1 109 k = if k = c then 1 else hm 109 k := fun k => by
    rw [set2_np _ _ _ _ _ _ (by omega)]
    by_cases y : k = c
    · rw [if_pos y, y, set2_same]
    · rw [if_neg y, set2_nk _ _ _ _ _ _ y]
  generalize set2 (set2 hc (d + 3) c 1) d 8 1 = gc at *
  generalize set2 (set2 hm 109 c 1) 100 27 1 = gm at *
  unfold BB
  rw [e3 (d + 1) (by omega) (by omega), e3 (d + 2) (by omega) (by omega), e3 (d + 4) (by omega) (by omega), e4 103 (by omega) (by omega), e4 107 (by omega) (by omega), e4 105 (by omega) (by omega), e1 14 (by omega), e1 15 (by omega), e1 16 (by omega), e1 17 (by omega), e1 18 (by omega), e2 5 (by omega), e2 6 (by omega), e2 7 (by omega), e5, e6]
  refine ⟨s2, s3, fun k hk => ?_, s5, s6, s7, ⟨rfl, Or.inr rfl⟩, fun y => absurd y (by decide)⟩
  rw [e7, e8]
  by_cases y : k = c
  · rw [if_pos y, if_pos y]; exact ⟨(s4 k hk).1, rfl, Or.inr rfl⟩
  · rw [if_neg y, if_neg y]; exact s4 k hk
theorem BB.flag {n : Nat} {z : Int} (s : BB d hc hm) (hn : hm 100 16 = (n : Int)) (hn3 : n < 3) (hz : 0 ≤ z ∧ z < hm 100 14 * hm 100 15) : BB d (set2 (set2 (set2 hc (d + 4) n z) d 5 ((n + 1 : Nat) : Int)) d 8 1) (set2 (set2 (set2 hm 107 n z) 100 16 ((n + 1 : Nat) : Int)) 100 27 1) := by
  obtain ⟨s2, s3, s4, ⟨s5, s5b⟩, s6, s7, s8, s9⟩ := s
  have e1 : ∀ j, j ≠ 27 → j ≠ 16 → set2 (set2 (set2 hm 107 n z) 100 16 ((n + 1 : Nat) : Int)) 100 27 1 100 j = hm 100 j := fun j hj hk => by rw [set2_nk _ _ _ _ _ _ hj, set2_nk _ _ _ _ _ _ hk, set2_np _ _ _ _ _ _ (by omega)]
  have e2 : ∀ j, j ≠ 8 → j ≠ 5 → set2 (set2 (set2 hc (d + 4) n z) d 5 ((n + 1 : Nat) : Int)) d 8 1 d j = hc d j := fun j hj hk => by rw [set2_nk _ _ _ _ _ _ hj, set2_nk _ _ _ _ _ _ hk, set2_np _ _ _ _ _ _ (by omega)]
  have e3 : ∀ p, p ≠ d → p ≠ d + 4 → set2 (set2 (set2 hc (d + 4) n z) d 5 ((n + 1 : Nat) : Int)) d 8 1 p = hc p := fun p hp hq => by rw [set2_ne p hp, set2_ne p hp, set2_ne p hq]
  have e4 : ∀ p, p ≠ 100 → p ≠ 107 → set2 (set2 (set2 hm 107 n z) 100 16 ((n + 1 : Nat) : Int)) 100 27 1 p = hm p := fun p hp hq => by rw [set2_ne p hp, set2_ne p hp, set2_ne p hq]
  have e5 : set2 (set2 (set2 hm 107 n z) 100 16 ((n + 1 : Nat) : Int)) 100 27 1 100 27 = 1 := set2_same _ _ _ _
  have e6 : set2 (set2 (set2 hc (d + 4) n z) d 5 ((n + 1 : Nat) : Int)) d 8 1 d 8 = 1 := set2_same _ _ _ _
  have e5b : set2 (set2 (set2 hm 107 n z) 100 16 ((n + 1 : Nat) : Int)) 100 27 1 100 16 = ((n + 1 : Nat) : Int) := by rw [set2_nk _ _ _ _ _ _ (by omega), set2_same]
  have e6b : set2 (set2 (set2 hc (d + 4) n z) d 5 ((n + 1 : Nat) : Int)) d 8 1 d 5 = ((n + 1 : Nat) : Int) := by rw [set2_nk _ _ _ _ _ _ (by omega), set2_same]
  have e7 : ∀ k, set2 (set2 (set2 hc (d + 4) n z) d 5 ((n + 1 : Nat) : Int)) d 8 1 (d + 4) k = if k = n then z else hc (d + 4) k := fun k => by
    rw [set2_np _ _ _ _ _ _ (by omega), set2_np _ _ _ _ _ _ (by omega)]
    by_cases y : k = n
    · rw [if_pos y, y, set2_same]
    · rw [if_neg y, set2_nk _ _ _ _ _ _ y]
  have e8 : ∀ k, set2 (set2 (set2 hm 107 n z) 100 16 ((n + 1 : Nat) : Int)) 100 27 1 107 k = if k = n then z else hm 107 k := fun k => by
    rw [set2_np _ _ _ _ _ _ (by omega), set2_np _ _ _ _ _ _ (by omega)]
    by_cases y : k = n
    · rw [if_pos y, y, set2_same]
    · rw [if_neg y, set2_nk _ _ _ _ _ _ y]
  generalize set2 (set2 (set2 hc (d + 4) n z) d 5 ((n + 1 : Nat) : Int)) d 8 1 = gc at *
  generalize set2 (set2 (set2 hm 107 n z) 100 16 ((n + 1 : Nat) : Int)) 100 27 1 = gm at *
  unfold BB
  rw [e3 (d + 1) (by omega) (by omega), e3 (d + 2) (by omega) (by omega), e3 (d + 3) (by omega) (by omega), e4 103 (by omega) (by omega), e4 109 (by omega) (by omega), e4 105 (by omega) (by omega), e1 14 (by omega) (by omega), e1 15 (by omega) (by omega), e1 17 (by omega) (by omega), e1 18 (by omega) (by omega), e2 6 (by omega) (by omega), e2 7 (by omega) (by omega), e5, e6, e5b, e6b]
  refine ⟨s2, s3, s4, ⟨⟨rfl, by omega, by omega⟩, fun k hk => ?_⟩, s6, s7, ⟨rfl, Or.inr rfl⟩, fun y => absurd y (by decide)⟩
  rw [e7, e8]
  by_cases y : k = n
  · rw [if_pos y, if_pos y]; exact ⟨rfl, hz⟩
  · rw [if_neg y, if_neg y]; exact s5b k (by omega)
theorem BB.n64 (s : BB d hc hm) : hm 100 14 * hm 100 15 ≤ 64 := Int.mul_le_mul s.1.2.1.2 s.1.2.2.2 (by have := s.1.2.2.1; omega) (by omega)
theorem y_heap (hd : 3 ≤ d) (x : TX b L hc hm) (s : SS b L hc hm) (n : NF hc hm) (bb : BB d hc hm) : RD b L d hc hm (g_X0_readHeap d 1 hc) (g_X9_readHeap hm) := by
  obtain ⟨hmA, t1, t2, t3, t4⟩ := y_scan x s
  have nA : NF hc hmA := n.m t4
  have bbA := bb.cm hd TC.rf t3
  obtain ⟨zu, hc1, w1, w2, w3⟩ := y_number (l := 1) (u := 40) (x.m t3) t2 nA
  have hM : g_X9_readHeap hm = cV (g_X9_scan hm) fun h1 => cI 1 fun z2 => cI 40 fun z3 => cW (g_X9_number z2 z3 h1) fun z4 h5 => if z4 = 0 then cI 0 fun z37 => retZW z37 h5 else gF h5 100 7 fun z6 => mC h5 (fun h21 => gF h21 100 7 fun z22 => rdI h21 105 64 z22 fun z23 => addI z23 z6 fun z24 => cI 59 fun z25 => if z24 ≤ z25 then gF h21 100 7 fun z26 => rdI h21 105 64 z26 fun z27 => addI z27 z6 fun z28 => wrI h21 105 64 z26 z28 fun h29 => cI 1 fun z30 => pZ h29 100 27 z30 fun h31 => cV (g_X9_scan h31) fun h32 => cI 1 fun z33 => retZW z33 h32 else cI 2 fun z34 => cW (g_X9_bad z34 h21) fun z35 h36 => retZW z35 h36) := by unfold g_X9_readHeap mC; rfl
  rw [hM, t1, e_cV, e_cI 1 (R := Int × Hp), e_cI 40 (R := Int × Hp)]
  have cls0 : g_X0_readHeap d 1 hc = cW (g_X0_needCell d 1 hc1) fun z5 h6 => cP (g_X5_isFaulty 1 h6) fun z7 => joinF (fun (a8 : Unit) => some h6) fun j9 => if z7 = 0 then cI 64 fun z10 => if z5 < z10 then rdI h6 (d + 2) 64 z5 fun z11 => addI z11 zu fun z12 => cI 59 fun z13 => joinF (fun (a14 : Hp) => rdI a14 (d + 2) 64 z5 fun z17 => addI z17 zu fun z18 => wrI a14 (d + 2) 64 z5 z18 fun h19 => cI 1 fun z20 => pZ h19 d 8 z20 fun h21 => some h21) fun j15 => if z12 ≤ z13 then j15 h6 else cI 2 fun z22 => cV (g_X5_refuse 1 z22 h6) fun h23 => j15 h23 else j9 () else j9 () := by
    unfold g_X0_readHeap
    rw [e_cI, e_cI, w1, e_cW]
  rw [cls0]
  rcases w3 with ⟨y, hm1, v1, v2, v3, v4, v5⟩ | ⟨y, hm1, v1, v2, v3⟩
  rotate_left
  · rw [v1, e_cW, b_pos rfl, e_cI, retZW_0]
    refine ⟨hc1, ?_, w2.cf, Or.inr ⟨hm1, rfl, v2, t3.mf.tr v3.mf⟩⟩
    rw [k_cell_f v2.1, e_cW, k_isFaulty, if_neg v2.1, e_cP]
    refine join_gen (fun j9 hj9 => ?_)
    rw [b_neg (by decide), hj9]
  have bb1 : BB d hc1 hm1 := bbA.cm hd w2 v5
  have x1 : TX b L hc1 hm1 := ((x.m t3).c w2).m v5
  have n64 := bb1.n64
  obtain ⟨z, hc2, c1, c2, c3⟩ := y_cell hd x1 v2 v3 bb1.1
  rw [v1, e_cW, b_neg (by decide), e_gF hm1, v4, c1, e_cW, k_isFaulty]
  rcases c3 with ⟨zb, hm2, p1, p2, p3, p4, p5⟩ | ⟨hm2, p1, p2, p3⟩
  rotate_left
  · rw [p1]
    refine ⟨hc2, ?_, w2.cf.tr c2.cf, Or.inr ⟨hm2, rfl, p2, (t3.mf.tr v5.mf).tr p3.mf⟩⟩
    rw [if_neg p2.1, e_cP]
    refine join_gen (fun j9 hj9 => ?_)
    rw [b_neg (by decide), hj9]
  obtain ⟨c, rfl⟩ := Int.eq_ofNat_of_zero_le zb.1
  have bb2 : BB d hc2 hm2 := bb1.cm hd c2 p4
  have vv := bb2.2.2.1 c (by omega)
  have f1 : CF d hc hc2 := w2.cf.tr c2.cf
  have f2 : MF hm hm2 := (t3.mf.tr v5.mf).tr p4.mf
  have x2 : TX b L hc2 hm2 := (x1.c c2).m p4
  have mn : hc 1 2 ≤ hc2 1 2 := Int.le_trans w2.2.2 c2.2.2
  rw [p1, if_pos p3.1, e_cP, e_gF hm2, p5, e_rdn hm2 _ _ _ _ (by omega), e_add (hm2 105 c) _ _ (by omega), e_cI 59 (R := Int × Hp)]
  have cls1 : ∀ (o : Option Hp), (∀ j15 : Hp → Option Hp, (∀ g : Hp, g (d + 2) c = hm2 105 c → j15 g = some (set2 (set2 g (d + 2) c (hm2 105 c + zu)) d 8 1)) → (if hm2 105 c + zu ≤ 59 then j15 hc2 else cI 2 fun z22 => cV (g_X5_refuse 1 z22 hc2) fun h23 => j15 h23) = o) → (joinF (fun (a8 : Unit) => some hc2) fun j9 => if (0 : Int) = 0 then cI 64 fun z10 => if (c : Int) < z10 then rdI hc2 (d + 2) 64 (c : Int) fun z11 => addI z11 zu fun z12 => cI 59 fun z13 => joinF (fun (a14 : Hp) => rdI a14 (d + 2) 64 (c : Int) fun z17 => addI z17 zu fun z18 => wrI a14 (d + 2) 64 (c : Int) z18 fun h19 => cI 1 fun z20 => pZ h19 d 8 z20 fun h21 => some h21) fun j15 => if z12 ≤ z13 then j15 hc2 else cI 2 fun z22 => cV (g_X5_refuse 1 z22 hc2) fun h23 => j15 h23 else j9 () else j9 ()) = o := by
    intro o ho
    refine join_gen (fun j9 hj9 => ?_)
    rw [b_pos rfl, e_cI, b_pos (by omega), e_rdn _ _ _ _ _ (by omega), vv.1.1, e_add _ _ _ (by omega), e_cI]
    refine join_gen (fun j15 hj15 => ho j15 (fun g hg => ?_))
    rw [hj15, e_rdn _ _ _ _ _ (by omega), hg, e_add _ _ _ (by omega), e_wrn _ _ _ _ _ _ (by omega), e_cI, e_pZ _ _ _ _ _ (by omega)]
  by_cases q : hm2 105 c + zu ≤ 59
  · have ssB : SS b L (set2 (set2 hc2 (d + 2) c (hm2 105 c + zu)) d 8 1) (set2 (set2 hm2 105 c (hm2 105 c + zu)) 100 27 1) := (((p2.outC (by omega)).outC (by omega)).outM (by omega)).outM (by omega)
    have nB : NF (set2 (set2 hc2 (d + 2) c (hm2 105 c + zu)) d 8 1) (set2 (set2 hm2 105 c (hm2 105 c + zu)) 100 27 1) := (((p3.outC (by omega)).outC (by omega)).outM (by omega)).outM (by omega)
    have bbB : BB d (set2 (set2 hc2 (d + 2) c (hm2 105 c + zu)) d 8 1) (set2 (set2 hm2 105 c (hm2 105 c + zu)) 100 27 1) := bb2.heap (by omega) (by omega)
    have cB : CF d hc2 (set2 (set2 hc2 (d + 2) c (hm2 105 c + zu)) d 8 1) := (CF.set (by omega) hd).tr (CF.set (by omega) hd)
    have mB : MF hm2 (set2 (set2 hm2 105 c (hm2 105 c + zu)) 100 27 1) := (MF.row (by omega)).tr (MF.set (by omega))
    obtain ⟨hm3, r1, r2, r3, r4⟩ := y_scan (x2.cf hd cB mB) ssB
    rw [b_pos q, e_gF hm2, p5, e_rdn hm2 _ _ _ _ (by omega), e_add (hm2 105 c) _ _ (by omega), e_wrn hm2 _ _ _ _ _ (by omega), e_cI, e_pZ _ _ _ _ _ (by omega), r1, e_cV, e_cI, retZW_1]
    refine ⟨_, cls1 _ (fun j15 hj15 => ?_), f1.tr cB, Or.inl ⟨hm3, rfl, r2, nB.m r4, bbB.cm hd TC.rf r3, (f2.tr mB).tr r3.mf, ?_⟩⟩
    · rw [b_pos q, hj15 _ vv.1.1]
    · rw [set2_np _ _ _ _ _ _ (by omega), set2_np _ _ _ _ _ _ (by omega)]; exact mn
  · obtain ⟨hc3, u1, ⟨hm3, u2, u3, u4⟩, u5, u6⟩ := y_refuse (f := 2) p2 p3 (by decide)
    rw [b_neg q, e_cI, u2, e_cW, retZW_0]
    have ff : FF (set2 (set2 hc3 (d + 2) c (hm2 105 c + zu)) d 8 1) hm3 := (u3.outC (by omega)).outC (by omega)
    refine ⟨_, cls1 _ (fun j15 hj15 => ?_), (f1.tr u5.cf).tr ((CF.set (by omega) hd).tr (CF.set (by omega) hd)), Or.inr ⟨hm3, rfl, ff, f2.tr u4.mf⟩⟩
    rw [b_neg q, e_cI, u1, e_cV, hj15 _ (by rw [u5.1 (d + 2) (by omega)]; exact vv.1.1)]
theorem y_stone (hd : 3 ≤ d) (x : TX b L hc hm) (s : SS b L hc hm) (n : NF hc hm) (bb : BB d hc hm) : RD b L d hc hm (g_X0_readStone d 1 hc) (g_X9_readStone hm) := by
  obtain ⟨hmA, t1, t2, t3, t4⟩ := y_scan x s
  have nA : NF hc hmA := n.m t4
  have bb1 := bb.cm hd TC.rf t3
  have n64 := bb1.n64
  have hM : g_X9_readStone hm = cV (g_X9_scan hm) fun h1 => mC h1 (fun h16 => gF h16 100 7 fun z17 => rdI h16 109 64 z17 fun z18 => if z18 = 0 then gF h16 100 7 fun z19 => cI 1 fun z20 => wrZ h16 109 64 z19 z20 fun h21 => cI 1 fun z22 => pZ h21 100 27 z22 fun h23 => cV (g_X9_scan h23) fun h24 => cI 1 fun z25 => retZW z25 h24 else cI 3 fun z26 => cW (g_X9_bad z26 h16) fun z27 h28 => retZW z27 h28) := by unfold g_X9_readStone mC; rfl
  obtain ⟨z, hc2, c1, c2, c3⟩ := y_cell hd (x.m t3) t2 nA bb1.1
  rw [hM, t1, e_cV]
  unfold g_X0_readStone
  rw [c1, e_cW, k_isFaulty]
  rcases c3 with ⟨zb, hm2, p1, p2, p3, p4, p5⟩ | ⟨hm2, p1, p2, p3⟩
  rotate_left
  · rw [p1]
    refine ⟨hc2, ?_, c2.cf, Or.inr ⟨hm2, rfl, p2, t3.mf.tr p3.mf⟩⟩
    rw [if_neg p2.1, e_cP]
    refine join_gen (fun j9 hj9 => ?_)
    rw [b_neg (by decide), hj9]
  obtain ⟨c, rfl⟩ := Int.eq_ofNat_of_zero_le zb.1
  have bb2 : BB d hc2 hm2 := bb1.cm hd c2 p4
  have vv := bb2.2.2.1 c (by omega)
  have f1 : CF d hc hc2 := c2.cf
  have f2 : MF hm hm2 := t3.mf.tr p4.mf
  have x2 : TX b L hc2 hm2 := ((x.m t3).c c2).m p4
  rw [p1, if_pos p3.1, e_cP, e_gF hm2, p5, e_rdn hm2 _ _ _ _ (by omega)]
  have cls1 : ∀ (o : Option Hp), (∀ j9 : Hp → Option Hp, (∀ g : Hp, j9 g = some (set2 (set2 g (d + 3) c 1) d 8 1)) → (if hm2 109 c = 0 then j9 hc2 else cI 3 fun z15 => cV (g_X5_refuse 1 z15 hc2) fun h16 => j9 h16) = o) → (joinF (fun (a4 : Unit) => some hc2) fun j5 => if (0 : Int) = 0 then cI 64 fun z6 => if (c : Int) < z6 then rdI hc2 (d + 3) 64 (c : Int) fun z7 => joinF (fun (a8 : Hp) => cI 1 fun z11 => wrI a8 (d + 3) 64 (c : Int) z11 fun h12 => cI 1 fun z13 => pZ h12 d 8 z13 fun h14 => some h14) fun j9 => if z7 = 0 then j9 hc2 else cI 3 fun z15 => cV (g_X5_refuse 1 z15 hc2) fun h16 => j9 h16 else j5 () else j5 ()) = o := by
    intro o ho
    refine join_gen (fun j5 hj5 => ?_)
    rw [b_pos rfl, e_cI, b_pos (by omega), e_rdn _ _ _ _ _ (by omega), vv.2.1]
    refine join_gen (fun j9 hj9 => ho j9 (fun g => ?_))
    rw [hj9, e_cI, e_wrn _ _ _ _ _ _ (by omega), e_cI, e_pZ _ _ _ _ _ (by omega)]
  by_cases q : hm2 109 c = 0
  · have ssB : SS b L (set2 (set2 hc2 (d + 3) c 1) d 8 1) (set2 (set2 hm2 109 c 1) 100 27 1) := (((p2.outC (by omega)).outC (by omega)).outM (by omega)).outM (by omega)
    have nB : NF (set2 (set2 hc2 (d + 3) c 1) d 8 1) (set2 (set2 hm2 109 c 1) 100 27 1) := (((p3.outC (by omega)).outC (by omega)).outM (by omega)).outM (by omega)
    have bbB : BB d (set2 (set2 hc2 (d + 3) c 1) d 8 1) (set2 (set2 hm2 109 c 1) 100 27 1) := bb2.stone (by omega)
    have cB : CF d hc2 (set2 (set2 hc2 (d + 3) c 1) d 8 1) := (CF.set (by omega) hd).tr (CF.set (by omega) hd)
    have mB : MF hm2 (set2 (set2 hm2 109 c 1) 100 27 1) := (MF.row (by omega)).tr (MF.set (by omega))
    obtain ⟨hm3, r1, r2, r3, r4⟩ := y_scan (x2.cf hd cB mB) ssB
    rw [b_pos q, e_gF hm2, p5, e_cI 1 (R := Int × Hp), e_wrZ _ _ _ _ _ _ (by omega) (by omega), e_cI, e_pZ _ _ _ _ _ (by omega), r1, e_cV, e_cI, retZW_1]
    refine ⟨_, cls1 _ (fun j9 hj9 => ?_), f1.tr cB, Or.inl ⟨hm3, rfl, r2, nB.m r4, bbB.cm hd TC.rf r3, (f2.tr mB).tr r3.mf, ?_⟩⟩
    · rw [b_pos q, hj9]
    · rw [set2_np _ _ _ _ _ _ (by omega), set2_np _ _ _ _ _ _ (by omega)]; exact c2.2.2
  · obtain ⟨hc3, u1, ⟨hm3, u2, u3, u4⟩, u5, u6⟩ := y_refuse (f := 3) p2 p3 (by decide)
    rw [b_neg q, e_cI 3 (R := Int × Hp), u2, e_cW, retZW_0]
    have ff : FF (set2 (set2 hc3 (d + 3) c 1) d 8 1) hm3 := (u3.outC (by omega)).outC (by omega)
    refine ⟨_, cls1 _ (fun j9 hj9 => ?_), (f1.tr u5.cf).tr ((CF.set (by omega) hd).tr (CF.set (by omega) hd)), Or.inr ⟨hm3, rfl, ff, f2.tr u4.mf⟩⟩
    rw [b_neg q, e_cI, u1, e_cV, hj9]
theorem k_flagloop_f {j8 : Hp → Option Hp} {z3 : Int} {N : Nat} (hf : hc 1 6 ≠ 0) (hN : hc d 5 = (N : Int)) (hN3 : N ≤ 3) : ∀ (n i F : Nat), i + n = N → n < F → loopF (g_X0_readFlag_l19 d 1 j8 z3) F ((i : Int), hc) = j8 hc
  | 0, i, F, h1, h2 => by
    obtain ⟨F, rfl⟩ : ∃ z, F = z + 1 := ⟨F - 1, by omega⟩
    show g_X0_readFlag_l19 d 1 j8 z3 (loopF _ F) ((i : Int), hc) = _
    unfold g_X0_readFlag_l19
    dsimp only
    rw [e_gF, hN, b_pos (by omega)]
  | n + 1, i, F, h1, h2 => by
    obtain ⟨F, rfl⟩ : ∃ z, F = z + 1 := ⟨F - 1, by omega⟩
    have ih := k_flagloop_f (j8 := j8) (z3 := z3) hf hN hN3 n (i + 1) F (by omega) (by omega)
    show g_X0_readFlag_l19 d 1 j8 z3 (loopF _ F) ((i : Int), hc) = _
    generalize loopF (g_X0_readFlag_l19 d 1 j8 z3) F = self at ih
    unfold g_X0_readFlag_l19
    dsimp only
    rw [e_gF, hN, b_neg (by omega), e_rdn _ _ _ _ _ (by omega)]
    refine join_gen (fun j25 hj25 => ?_)
    have go : j25 hc = j8 hc := by rw [hj25, e_add _ _ _ (by omega), show (i : Int) + 1 = ((i + 1 : Nat) : Int) by omega]; exact ih
    by_cases y : hc (d + 4) i = z3
    · rw [b_pos y, e_cI, k_refuse, if_neg hf, e_cV, go]
    · rw [b_neg y, go]
theorem y_flagloop {j8 : Hp → Option Hp} {j21 : Unit → Option (Int × Hp)} {N : Nat} (hd : 3 ≤ d) (s : SS b L hc hm) (nf : NF hc hm) (bb : BB d hc hm) (hN : hm 100 16 = (N : Int)) : ∀ (n i F F2 : Nat), i + n = N → n < F → n < F2 →
    (loopF (g_X0_readFlag_l19 d 1 j8 (hm 100 7)) F ((i : Int), hc) = j8 hc ∧ loopF (g_X9_readFlag_l34 hm j21) F2 (i : Int) = j21 ()) ∨
    (∃ hc' hm', loopF (g_X0_readFlag_l19 d 1 j8 (hm 100 7)) F ((i : Int), hc) = j8 hc' ∧ TC hc hc' ∧ loopF (g_X9_readFlag_l34 hm j21) F2 (i : Int) = some (0, hm') ∧ FF hc' hm' ∧ TM hm hm')
  | 0, i, F, F2, h1, h2, h3 => by
    obtain ⟨F, rfl⟩ : ∃ z, F = z + 1 := ⟨F - 1, by omega⟩
    obtain ⟨F2, rfl⟩ : ∃ z, F2 = z + 1 := ⟨F2 - 1, by omega⟩
    left
    constructor
    · show g_X0_readFlag_l19 d 1 j8 _ (loopF _ F) ((i : Int), hc) = _
      unfold g_X0_readFlag_l19
      dsimp only
      rw [e_gF, bb.2.2.2.1.1.1, hN, b_pos (by omega)]
    · show g_X9_readFlag_l34 hm j21 (loopF _ F2) (i : Int) = _
      unfold g_X9_readFlag_l34
      rw [e_gF, hN, b_pos (by omega)]
  | n + 1, i, F, F2, h1, h2, h3 => by
    obtain ⟨F, rfl⟩ : ∃ z, F = z + 1 := ⟨F - 1, by omega⟩
    obtain ⟨F2, rfl⟩ : ∃ z, F2 = z + 1 := ⟨F2 - 1, by omega⟩
    have b5 := bb.2.2.2.1
    have ih := y_flagloop (j8 := j8) (j21 := j21) hd s nf bb hN n (i + 1) F F2 (by omega) (by omega) (by omega)
    have vf := b5.2 i (by omega)
    have mstep : g_X9_readFlag_l34 hm j21 (loopF (g_X9_readFlag_l34 hm j21) F2) (i : Int) = if hm 107 i = hm 100 7 then (cI 3 fun z40 => cW (g_X9_bad z40 hm) fun z41 h42 => retZW z41 h42) else loopF (g_X9_readFlag_l34 hm j21) F2 ((i + 1 : Nat) : Int) := by
      generalize loopF (g_X9_readFlag_l34 hm j21) F2 = self
      unfold g_X9_readFlag_l34
      rw [e_gF, hN, b_neg (by omega), e_rdn _ _ _ _ _ (by omega), e_gF, e_add _ _ _ (by omega), show (i : Int) + 1 = ((i + 1 : Nat) : Int) by omega]
    have cstep : g_X0_readFlag_l19 d 1 j8 (hm 100 7) (loopF (g_X0_readFlag_l19 d 1 j8 (hm 100 7)) F) ((i : Int), hc) = if hm 107 i = hm 100 7 then (cV (g_X5_refuse 1 3 hc) fun h29 => loopF (g_X0_readFlag_l19 d 1 j8 (hm 100 7)) F (((i + 1 : Nat) : Int), h29)) else loopF (g_X0_readFlag_l19 d 1 j8 (hm 100 7)) F (((i + 1 : Nat) : Int), hc) := by
      generalize loopF (g_X0_readFlag_l19 d 1 j8 (hm 100 7)) F = self
      unfold g_X0_readFlag_l19
      dsimp only
      rw [e_gF, b5.1.1, hN, b_neg (by omega), e_rdn _ _ _ _ _ (by omega), vf.1]
      refine join_gen (fun j25 hj25 => ?_)
      have go : ∀ g, j25 g = self (((i + 1 : Nat) : Int), g) := fun g => by rw [hj25, e_add _ _ _ (by omega), show (i : Int) + 1 = ((i + 1 : Nat) : Int) by omega]
      by_cases y : hm 107 i = hm 100 7
      · rw [b_pos y, e_cI, if_pos y]
        congr 1
        funext g
        exact go g
      · rw [b_neg y, if_neg y, go]
    show (g_X0_readFlag_l19 d 1 j8 (hm 100 7) (loopF _ F) ((i : Int), hc) = _ ∧ g_X9_readFlag_l34 hm j21 (loopF _ F2) (i : Int) = _) ∨ (∃ hc' hm', g_X0_readFlag_l19 d 1 j8 (hm 100 7) (loopF _ F) ((i : Int), hc) = j8 hc' ∧ _ ∧ g_X9_readFlag_l34 hm j21 (loopF _ F2) (i : Int) = _ ∧ _)
    rw [mstep, cstep]
    by_cases y : hm 107 i = hm 100 7
    · right
      obtain ⟨hc3, u1, ⟨hm3, u2, u3, u4⟩, u5, u6⟩ := y_refuse (f := 3) s nf (by decide)
      rw [if_pos y, if_pos y, u1, e_cV, e_cI, u2, e_cW, retZW_0]
      exact ⟨hc3, hm3, k_flagloop_f u6 (by rw [u5.1 d (by omega), b5.1.1, hN]) (by omega) n (i + 1) F (by omega) (by omega), u5, rfl, u3, u4⟩
    · rw [if_neg y, if_neg y]
      exact ih
theorem y_flag (hd : 3 ≤ d) (x : TX b L hc hm) (s : SS b L hc hm) (n : NF hc hm) (bb : BB d hc hm) : RD b L d hc hm (g_X0_readFlag d 1 hc) (g_X9_readFlag hm) := by
  have b5 := bb.2.2.2.1
  unfold g_X0_readFlag
  rw [e_gF hc, b5.1.1, e_cI 3]
  by_cases q3 : hm 100 16 = 3
  · obtain ⟨hc3, u1, ⟨hm3, u2, u3, u4⟩, u5, u6⟩ := y_refuse (f := 4) s n (by decide)
    unfold g_X9_readFlag
    rw [b_neg (by omega), e_cI 4, u1, e_cV, e_gF hm, e_cI 3, b_pos q3, e_cI, u2, e_cW, retZW_0]
    exact ⟨hc3, rfl, u5.cf, Or.inr ⟨hm3, rfl, u3, u4.mf⟩⟩
  obtain ⟨hmA, t1, t2, t3, t4⟩ := y_scan x s
  have nA : NF hc hmA := n.m t4
  have bb1 := bb.cm hd TC.rf t3
  have n64 := bb1.n64
  have hM : g_X9_readFlag hm = cV (g_X9_scan hm) fun h3 => mC h3 (fun h18 => cI 0 fun z19 => joinF (fun (a20 : Unit) => gF h18 100 16 fun z22 => gF h18 100 7 fun z23 => wrI h18 107 3 z22 z23 fun h24 => gF h24 100 16 fun z25 => cI 1 fun z26 => addI z25 z26 fun z27 => pF h24 100 16 z27 fun h28 => cI 1 fun z29 => pZ h28 100 27 z29 fun h30 => cV (g_X9_scan h30) fun h31 => cI 1 fun z32 => retZW z32 h31) fun j21 => loopF (g_X9_readFlag_l34 h18 j21) FU z19) := by
    unfold g_X9_readFlag mC
    rw [e_gF hm, e_cI 3, b_neg q3]
  obtain ⟨z, hc2, c1, c2, c3⟩ := y_cell hd (x.m t3) t2 nA bb1.1
  rw [hM, t1, e_cV, b_pos (by omega), c1, e_cW, k_isFaulty]
  rcases c3 with ⟨zb, hm2, p1, p2, p3, p4, p5⟩ | ⟨hm2, p1, p2, p3⟩
  rotate_left
  · rw [p1]
    refine ⟨hc2, ?_, c2.cf, Or.inr ⟨hm2, rfl, p2, t3.mf.tr p3.mf⟩⟩
    rw [if_neg p2.1, e_cP, b_neg (by decide)]
  have bb2 : BB d hc2 hm2 := bb1.cm hd c2 p4
  have f1 : CF d hc hc2 := c2.cf
  have f2 : MF hm hm2 := t3.mf.tr p4.mf
  have x2 : TX b L hc2 hm2 := ((x.m t3).c c2).m p4
  have q16 : hm2 100 16 = hm 100 16 := by rw [p4.2 16 (by omega), t4 16 (by omega)]
  obtain ⟨N, hN⟩ := Int.eq_ofNat_of_zero_le b5.1.2.1
  have hN2 : hm2 100 16 = (N : Int) := by rw [q16, hN]
  have q14 : hm2 100 14 = hmA 100 14 ∧ hm2 100 15 = hmA 100 15 := ⟨p4.2 14 (by omega), p4.2 15 (by omega)⟩
  have fin : ∀ (g : Hp), g d 5 = (N : Int) → (gF g d 5 fun z10 => wrI g (d + 4) 3 z10 z fun h11 => gF h11 d 5 fun z12 => cI 1 fun z13 => addI z12 z13 fun z14 => pF h11 d 5 z14 fun h15 => cI 1 fun z16 => pZ h15 d 8 z16 fun h17 => some h17) = some (set2 (set2 (set2 g (d + 4) N z) d 5 ((N + 1 : Nat) : Int)) d 8 1) := by
    intro g hg
    rw [e_gF, hg, e_wrn _ _ _ _ _ _ (by omega), e_gF, set2_np _ _ _ _ _ _ (by omega), hg, e_cI, e_add _ _ _ (by omega), show (N : Int) + 1 = ((N + 1 : Nat) : Int) by omega, e_pF, e_cI, e_pZ _ _ _ _ _ (by omega)]
  have d5 : hc2 d 5 = (N : Int) := by rw [bb2.2.2.2.1.1.1, hN2]
  rw [p1, if_pos p3.1, e_cP, b_pos rfl, e_cI 0, e_cI 0]
  have fl := fun j8 j21 => y_flagloop (j8 := j8) (j21 := j21) hd p2 p3 bb2 hN2 N 0 FU FU (by omega) (fu _ (by omega)) (fu _ (by omega))
  rw [p5, show ((0 : Nat) : Int) = 0 from rfl] at fl
  (rw [e_join]; (try dsimp only); rw [e_join]; (try dsimp only))
  rcases fl (fun (a7 : Hp) => gF a7 d 5 fun z10 => wrI a7 (d + 4) 3 z10 z fun h11 => gF h11 d 5 fun z12 => cI 1 fun z13 => addI z12 z13 fun z14 => pF h11 d 5 z14 fun h15 => cI 1 fun z16 => pZ h15 d 8 z16 fun h17 => some h17) (fun (a20 : Unit) => gF hm2 100 16 fun z22 => gF hm2 100 7 fun z23 => wrI hm2 107 3 z22 z23 fun h24 => gF h24 100 16 fun z25 => cI 1 fun z26 => addI z25 z26 fun z27 => pF h24 100 16 z27 fun h28 => cI 1 fun z29 => pZ h28 100 27 z29 fun h30 => cV (g_X9_scan h30) fun h31 => cI 1 fun z32 => retZW z32 h31) with ⟨g1, g2⟩ | ⟨hc3, hm3, g1, g2, g3, g4, g5⟩
  · rw [g1, g2]
    have ssB : SS b L (set2 (set2 (set2 hc2 (d + 4) N z) d 5 ((N + 1 : Nat) : Int)) d 8 1) (set2 (set2 (set2 hm2 107 N z) 100 16 ((N + 1 : Nat) : Int)) 100 27 1) := (((((p2.outC (by omega)).outC (by omega)).outC (by omega)).outM (by omega)).outM (by omega)).outM (by omega)
    have nB : NF (set2 (set2 (set2 hc2 (d + 4) N z) d 5 ((N + 1 : Nat) : Int)) d 8 1) (set2 (set2 (set2 hm2 107 N z) 100 16 ((N + 1 : Nat) : Int)) 100 27 1) := (((((p3.outC (by omega)).outC (by omega)).outC (by omega)).outM (by omega)).outM (by omega)).outM (by omega)
    have bbB : BB d (set2 (set2 (set2 hc2 (d + 4) N z) d 5 ((N + 1 : Nat) : Int)) d 8 1) (set2 (set2 (set2 hm2 107 N z) 100 16 ((N + 1 : Nat) : Int)) 100 27 1) := bb2.flag hN2 (by omega) (by rw [q14.1, q14.2]; exact zb)
    have cB : CF d hc2 (set2 (set2 (set2 hc2 (d + 4) N z) d 5 ((N + 1 : Nat) : Int)) d 8 1) := ((CF.set (by omega) hd).tr (CF.set (by omega) hd)).tr (CF.set (by omega) hd)
    have mB : MF hm2 (set2 (set2 (set2 hm2 107 N z) 100 16 ((N + 1 : Nat) : Int)) 100 27 1) := ((MF.row (by omega)).tr (MF.set (by omega))).tr (MF.set (by omega))
    obtain ⟨hm3, r1, r2, r3, r4⟩ := y_scan (x2.cf hd cB mB) ssB
    rw [fin _ d5, e_gF hm2, hN2, e_gF hm2, p5, e_wrn hm2 _ _ _ _ _ (by omega), e_gF, set2_np _ _ _ _ _ _ (by omega), hN2, e_cI, e_add _ _ _ (by omega), show (N : Int) + 1 = ((N + 1 : Nat) : Int) by omega, e_pF, e_cI, e_pZ _ _ _ _ _ (by omega), r1, e_cV, e_cI, retZW_1]
    refine ⟨_, rfl, f1.tr cB, Or.inl ⟨hm3, rfl, r2, nB.m r4, bbB.cm hd TC.rf r3, (f2.tr mB).tr r3.mf, ?_⟩⟩
    rw [set2_np _ _ _ _ _ _ (by omega), set2_np _ _ _ _ _ _ (by omega), set2_np _ _ _ _ _ _ (by omega)]; exact c2.2.2
  · rw [g1, g3]
    rw [fin _ (by rw [g2.1 d (by omega)]; exact d5)]
    exact ⟨_, rfl, (f1.tr g2.cf).tr (((CF.set (by omega) hd).tr (CF.set (by omega) hd)).tr (CF.set (by omega) hd)), Or.inr ⟨hm3, rfl, ((g4.outC (by omega)).outC (by omega)).outC (by omega), f2.tr g5.mf⟩⟩
end BEACH2
