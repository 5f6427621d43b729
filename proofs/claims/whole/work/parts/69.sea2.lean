/-! READING a sea: clauses, and the call -/
def mN (a2 : Int) (h : Hp) : Option (Int × Hp) := cI (-1) fun z5 => if a2 = z5 then cI 1 fun z40 => cW (g_X9_bad z40 h) fun z41 h42 => retZW z41 h42 else gF h 100 18 fun z6 => shrI z6 a2 fun z7 => cI 1 fun z8 => andI z7 z8 fun z9 => cI 1 fun z10 => if z9 = z10 then cI 3 fun z37 => cW (g_X9_bad z37 h) fun z38 h39 => retZW z38 h39 else gF h 100 18 fun z11 => cI 1 fun z12 => shlI z12 a2 fun z13 => orI z11 z13 fun z14 => pF h 100 18 z14 fun h15 => cV (g_X9_scan h15) fun h16 => if a2 = 0 then cW (g_X9_readTide h16) fun z35 h36 => retZW z35 h36 else cI 1 fun z17 => if a2 = z17 then cI 1 fun z31 => cI 8 fun z32 => cW (g_X9_readTwo 116 z31 z32 h16) fun z33 h34 => retZW z33 h34 else cI 2 fun z18 => if a2 = z18 then cI 0 fun z27 => cI 99 fun z28 => cW (g_X9_readTwo 117 z27 z28 h16) fun z29 h30 => retZW z29 h30 else cI 0 fun z19 => cI 9 fun z20 => cW (g_X9_number z19 z20 h16) fun z21 h22 => if z21 = 0 then cI 0 fun z26 => retZW z26 h22 else gF h22 100 7 fun z23 => pF h22 100 40 z23 fun h24 => cI 1 fun z25 => retZW z25 h24
def mS (h : Hp) (K0 K1 : Hp → Option (Int × Hp)) : Option (Int × Hp) := cP (g_X9_is (strC 33) h) fun z34 => if z34 = 0 then cW (g_X9_readSeaWord h) fun z44 h45 => if z44 = 0 then K0 h45 else K1 h45 else cW (g_X9_readWave h) fun z46 h47 => if z46 = 0 then K0 h47 else K1 h47
def swP (j : Nat) : Int := if j = 1 then 0 else if j = 2 then 1 else if j = 3 then 2 else if j = 4 then 3 else -1
def cnS (w : Nat) : Nat := if w = 0 then 4 else if w = 1 then 2 else if w = 2 then 2 else 1
theorem strC_ne2 : ∀ i : Fin 5, ∀ j : Fin 5, i ≠ j → strC (11 + i.val) ≠ strC (11 + j.val) := by decide +kernel
theorem strC_m2 : strC 33 = strC 11 ∧ strC 34 = strC 12 ∧ strC 35 = strC 13 ∧ strC 36 = strC 14 ∧ strC 37 = strC 15 := by decide +kernel
theorem bits_s : ∀ m : Fin 16, ∀ w : Fin 4, bsC (csB (m.val : Int)) ((fsP w.val : Nat) : Int) = bsC (m.val : Int) (w.val : Int) ∧ (bsC (m.val : Int) (w.val : Int) = 0 ∨ bsC (m.val : Int) (w.val : Int) = 1) ∧ orS (csB (m.val : Int)) 1 ((fsP w.val : Nat) : Int) = csB (orS (m.val : Int) 1 (w.val : Int)) ∧ 0 ≤ orS (m.val : Int) 1 (w.val : Int) ∧ orS (m.val : Int) 1 (w.val : Int) < 16 := by
  decide +kernel
section SEA2
variable {b : Nat → Int} {L v : Nat} {hc hm : Hp}
theorem bits_w {m : Int} {w : Nat} (hm : 0 ≤ m ∧ m < 16) (hw : w < 4) : bsC (csB m) ((fsP w : Nat) : Int) = bsC m (w : Int) ∧ (bsC m (w : Int) = 0 ∨ bsC m (w : Int) = 1) ∧ orS (csB m) 1 ((fsP w : Nat) : Int) = csB (orS m 1 (w : Int)) ∧ 0 ≤ orS m 1 (w : Int) ∧ orS m 1 (w : Int) < 16 := by
  obtain ⟨n, rfl⟩ := Int.eq_ofNat_of_zero_le hm.1
  exact bits_s ⟨n, by omega⟩ ⟨w, hw⟩
theorem EQ.bits {m : Int} (s : EQ v hc hm) : EQ v (set2 hc v 6 (csB m)) (set2 hm 100 18 m) := by
  obtain ⟨s1, s2, s3, s4⟩ := s
  have e1 : ∀ j, j ≠ 18 → set2 hm 100 18 m 100 j = hm 100 j := fun j hj => set2_nk _ _ _ _ _ _ hj
  have e2 : ∀ j, j ≠ 6 → set2 hc v 6 (csB m) v j = hc v j := fun j hj => set2_nk _ _ _ _ _ _ hj
  have e3 : ∀ p, p ≠ v → set2 hc v 6 (csB m) p = hc p := fun p hp => set2_ne p hp
  have e4 : ∀ p, p ≠ 100 → set2 hm 100 18 m p = hm p := fun p hp => set2_ne p hp
  have e5 : set2 hm 100 18 m 100 18 = m := set2_same _ _ _ _
  have e6 : set2 hc v 6 (csB m) v 6 = csB m := set2_same _ _ _ _
  generalize set2 hc v 6 (csB m) = gc at *
  generalize set2 hm 100 18 m = gm at *
  unfold EQ
  rw [e3 (v + 1) (by omega), e3 (v + 2) (by omega), e3 (v + 3) (by omega), e3 (v + 4) (by omega), e4 111 (by omega), e4 113 (by omega), e4 116 (by omega), e4 117 (by omega), e1 17 (by omega), e1 30 (by omega), e1 40 (by omega), e2 4 (by omega), e2 5 (by omega), e5, e6]
  exact ⟨s1, s2, s3, rfl⟩
theorem EQ.count {x : Int} (s : EQ v hc hm) : EQ v (set2 hc v 5 x) (set2 hm 100 17 x) := by
  obtain ⟨s1, s2, s3, s4⟩ := s
  have e1 : ∀ j, j ≠ 17 → set2 hm 100 17 x 100 j = hm 100 j := fun j hj => set2_nk _ _ _ _ _ _ hj
  have e2 : ∀ j, j ≠ 5 → set2 hc v 5 x v j = hc v j := fun j hj => set2_nk _ _ _ _ _ _ hj
  have e3 : ∀ p, p ≠ v → set2 hc v 5 x p = hc p := fun p hp => set2_ne p hp
  have e4 : ∀ p, p ≠ 100 → set2 hm 100 17 x p = hm p := fun p hp => set2_ne p hp
  have e5 : set2 hm 100 17 x 100 17 = x := set2_same _ _ _ _
  have e6 : set2 hc v 5 x v 5 = x := set2_same _ _ _ _
  generalize set2 hc v 5 x = gc at *
  generalize set2 hm 100 17 x = gm at *
  unfold EQ
  rw [e3 (v + 1) (by omega), e3 (v + 2) (by omega), e3 (v + 3) (by omega), e3 (v + 4) (by omega), e4 111 (by omega), e4 113 (by omega), e4 116 (by omega), e4 117 (by omega), e1 18 (by omega), e1 30 (by omega), e1 40 (by omega), e2 4 (by omega), e2 6 (by omega), e5, e6]
  exact ⟨s1, s2, rfl, s4⟩
theorem SBd.j {x : Int} {j : Nat} (s : SBd hm) (hj : j = 17 ∨ (j = 18 ∧ 0 ≤ x ∧ x < 16)) : SBd (set2 hm 100 j x) := by
  unfold SBd TB0 WB at s ⊢
  rw [set2_ne 111 (by omega), set2_ne 113 (by omega), set2_ne 116 (by omega), set2_ne 117 (by omega), set2_nk _ _ _ _ _ 30 (by omega), set2_nk _ _ _ _ _ 40 (by omega)]
  rcases hj with rfl | ⟨rfl, h⟩
  · rw [set2_nk _ _ _ _ _ 18 (by omega)]; exact s
  · rw [set2_same]; exact ⟨s.1, s.2.1, s.2.2.1, s.2.2.2.1, s.2.2.2.2.1, h⟩
theorem SD.ret {C : Option Hp} {M : Option (Int × Hp)} (r : SD b L v hc hm C M) : SD b L v hc hm C (cW M fun z h => retZW z h) := by
  obtain ⟨hc', r1, r2, r3⟩ := r
  refine ⟨hc', r1, r2, ?_⟩
  rcases r3 with ⟨hm', t1, t2⟩ | ⟨hm', t1, t2⟩
  · exact Or.inl ⟨hm', by rw [t1]; rfl, t2⟩
  · exact Or.inr ⟨hm', by rw [t1]; rfl, t2⟩
theorem SD.from {hc0 hm0 : Hp} {C : Option Hp} {M : Option (Int × Hp)} (r : SD b L v hc hm C M) (c : CS v hc0 hc) (m : MS hm0 hm) (t : hc0 1 2 ≤ hc 1 2) : SD b L v hc0 hm0 C M := by
  obtain ⟨hc', r1, r2, r3⟩ := r
  refine ⟨hc', r1, c.tr r2, ?_⟩
  rcases r3 with ⟨hm', t1, t2, t3, t4, t5, t6⟩ | ⟨hm', t1, t2, t3⟩
  · exact Or.inl ⟨hm', t1, t2, t3, t4, m.tr t5, Int.le_trans t t6⟩
  · exact Or.inr ⟨hm', t1, t2, m.tr t3⟩
theorem y_seaword {w : Nat} (hv : 15 ≤ v) (hw : w < 4) (x : TX b L hc hm) (s : SS b L hc hm) (n : NF hc hm) (eq : EQ v hc hm) (sb : SBd hm) : SD b L v hc hm (g_X2_readNumbers v 1 ((fsP w : Nat) : Int) ((cnS w : Nat) : Int) hc) (mN (w : Int) hm) := by
  have b18 := sb.2.2.2.2.2
  obtain ⟨q1, q2, q3, q4⟩ := bits_w b18 hw
  have e6 := eq.2.2.2
  have fs8 : fsP w ≤ 8 ∧ fsP w + cnS w ≤ 9 := by
    rcases (by omega : w = 0 ∨ w = 1 ∨ w = 2 ∨ w = 3) with rfl | rfl | rfl | rfl <;> decide
  unfold g_X2_readNumbers mN
  have tail : ∀ (g : Hp), (gF g v 6 fun z8 => cI 1 fun z9 => shlI z9 ((fsP w : Nat) : Int) fun z10 => orI z8 z10 fun z11 => pF g v 6 z11 fun h12 => cI 9 fun z13 => addI ((fsP w : Nat) : Int) ((cnS w : Nat) : Int) fun z14 => minI z13 z14 fun z15 => loopF (g_X2_readNumbers_l17 v 1 z15) FU (((fsP w : Nat) : Int), h12)) = loopF (g_X2_readNumbers_l17 v 1 ((fsP w + cnS w : Nat) : Int)) FU (((fsP w : Nat) : Int), set2 g v 6 (orS (g v 6) 1 ((fsP w : Nat) : Int))) := by
    intro g
    rw [e_gF, e_cI, e_orS, e_pF, e_cI, e_add _ _ _ (by omega), e_min]
    by_cases y : (fsP w : Int) + (cnS w : Int) < 9
    · rw [if_pos y]; rfl
    · rw [if_neg y, show (9 : Int) = ((fsP w + cnS w : Nat) : Int) by omega]
  rw [e_gF hc, e6, e_bit, q1, e_cI (-1), b_neg (show ¬ (w : Int) = -1 by omega), e_gF hm, e_bit, e_cI 1]
  rcases q2 with z | z
  rotate_left
  · obtain ⟨hc1, u1, ⟨hm2, u2, u3, u4⟩, u5, u6⟩ := y_refuse (f := 3) s n (by decide)
    obtain ⟨hc2, v1, v2, v3⟩ := k_snums_f (v := v) hv (cnS w) (fsP w) FU (set2 hc1 v 6 (orS (hc1 v 6) 1 ((fsP w : Nat) : Int))) (by omega) (fu _ (by omega)) (by rw [set2_np _ _ _ _ _ _ (by omega)]; exact u6)
    refine ⟨hc2, ?_, (u5.cs.tr (CS.set (by omega) hv)).tr v2, Or.inr ⟨hm2, ?_, ?_, u4.ms⟩⟩
    · refine join_gen (fun j6 hj6 => ?_)
      rw [b_neg (by omega), e_cI 3, u1, e_cV, hj6, tail]
      exact v1
    · rw [b_pos z, e_cI 3, u2, e_cW, retZW_0]
    · have := u3.outC (p := v) (k := 6) (x := orS (hc1 v 6) 1 ((fsP w : Nat) : Int)) (by omega)
      unfold FF at this ⊢
      rw [v3]
      exact this
  have cls : ∀ o, loopF (g_X2_readNumbers_l17 v 1 ((fsP w + cnS w : Nat) : Int)) FU (((fsP w : Nat) : Int), set2 hc v 6 (csB (orS (hm 100 18) 1 (w : Int)))) = o → (joinF (fun (a5 : Hp) => gF a5 v 6 fun z8 => cI 1 fun z9 => shlI z9 ((fsP w : Nat) : Int) fun z10 => orI z8 z10 fun z11 => pF a5 v 6 z11 fun h12 => cI 9 fun z13 => addI ((fsP w : Nat) : Int) ((cnS w : Nat) : Int) fun z14 => minI z13 z14 fun z15 => loopF (g_X2_readNumbers_l17 v 1 z15) FU (((fsP w : Nat) : Int), h12)) fun j6 => if bsC (hm 100 18) (w : Int) = 0 then j6 hc else cI 3 fun z33 => cV (g_X5_refuse 1 z33 hc) fun h34 => j6 h34) = o := by
    intro o ho
    refine join_gen (fun j6 hj6 => ?_)
    rw [b_pos z, hj6, tail, e6, q3]
    exact ho
  rw [cls _ rfl, b_neg (by omega), e_gF hm, e_cI 1, e_orS, e_pF]
  have s1 : EQ v (set2 hc v 6 (csB (orS (hm 100 18) 1 (w : Int)))) (set2 hm 100 18 (orS (hm 100 18) 1 (w : Int))) := eq.bits
  have d1 : SBd (set2 hm 100 18 (orS (hm 100 18) 1 (w : Int))) := sb.j (Or.inr ⟨rfl, q4⟩)
  have ss1 : SS b L (set2 hc v 6 (csB (orS (hm 100 18) 1 (w : Int)))) (set2 hm 100 18 (orS (hm 100 18) 1 (w : Int))) := (s.outC (by omega)).outM (by omega)
  have x1 : TX b L (set2 hc v 6 (csB (orS (hm 100 18) 1 (w : Int)))) (set2 hm 100 18 (orS (hm 100 18) 1 (w : Int))) := x.cs hv (CS.set (by omega) hv) (MS.set (by omega))
  have n1 : NF (set2 hc v 6 (csB (orS (hm 100 18) 1 (w : Int)))) (set2 hm 100 18 (orS (hm 100 18) 1 (w : Int))) := (n.outC (by omega)).outM (by omega)
  have f1 : CS v hc (set2 hc v 6 (csB (orS (hm 100 18) 1 (w : Int)))) := CS.set (by omega) hv
  have f2 : MS hm (set2 hm 100 18 (orS (hm 100 18) 1 (w : Int))) := MS.set (by omega)
  have m1 : hc 1 2 ≤ set2 hc v 6 (csB (orS (hm 100 18) 1 (w : Int))) 1 2 := by rw [set2_np _ _ _ _ _ _ (by omega)]; exact Int.le_refl _
  generalize set2 hc v 6 (csB (orS (hm 100 18) 1 (w : Int))) = hc0 at *
  generalize set2 hm 100 18 (orS (hm 100 18) 1 (w : Int)) = hm0 at *
  obtain ⟨hmA, t1, t2, t3, t4⟩ := y_scan x1 ss1
  rw [t1, e_cV]
  have xA := x1.m t3
  have nA : NF hc0 hmA := n1.m t4
  have eA : EQ v hc0 hmA := s1.cm hv TC.rf t3
  have dA : SBd hmA := d1.m t3
  refine SD.from (hc := hc0) (hm := hmA) ?_ f1 (f2.tr t3.ms) m1
  have hFU : 10 < FU := fu _ (by omega)
  rcases (by omega : w = 0 ∨ w = 1 ∨ w = 2 ∨ w = 3) with rfl | rfl | rfl | rfl
  · rw [b_pos (show ((0 : Nat) : Int) = 0 from rfl)]
    exact (y_tide hv hFU xA t2 nA eA dA).ret
  · rw [b_neg (show ¬ ((1 : Nat) : Int) = 0 by decide), e_cI, b_pos (show ((1 : Nat) : Int) = 1 from rfl), e_cI, e_cI]
    exact (y_reach hv hFU xA t2 nA eA dA).ret
  · rw [b_neg (show ¬ ((2 : Nat) : Int) = 0 by decide), e_cI, b_neg (show ¬ ((2 : Nat) : Int) = 1 by decide), e_cI, b_pos (show ((2 : Nat) : Int) = 2 from rfl), e_cI, e_cI]
    exact (y_level hv hFU xA t2 nA eA dA).ret
  · rw [b_neg (show ¬ ((3 : Nat) : Int) = 0 by decide), e_cI 1, b_neg (show ¬ ((3 : Nat) : Int) = 1 by decide), e_cI 2, b_neg (show ¬ ((3 : Nat) : Int) = 2 by decide)]
    exact y_cut hv hFU xA t2 nA eA dA
theorem y_wave (hv : 15 ≤ v) (x : TX b L hc hm) (s : SS b L hc hm) (n : NF hc hm) (eq : EQ v hc hm) (sb : SBd hm) : SD b L v hc hm (g_X2_readWave v 1 hc) (g_X9_readWave hm) := by
  obtain ⟨sb1, sb2, sb3, sb4, ⟨sb5, sb5b⟩, sb6⟩ := sb
  have e4 := eq.2.1.1
  obtain ⟨N, hN⟩ := Int.eq_ofNat_of_zero_le sb5.1
  have hL : T_X2_LEAST.length = 9 := rfl
  have hM : T_X2_MOST.length = 9 := rfl
  unfold g_X2_readWave g_X9_readWave
  rw [e_gF hc, e4, e_gF hm, e_cI 12 (R := Hp), e_cI 12 (R := Int × Hp)]
  by_cases q : N = 12
  · obtain ⟨hc3, u1, ⟨hm3, u2, u3, u4⟩, u5, u6⟩ := y_refuse (f := 4) s n (by decide)
    rw [b_neg (by omega), e_cI 4, u1, e_cV, b_pos (by omega), e_cI, u2, e_cW, retZW_0]
    exact ⟨hc3, rfl, u5.cs, Or.inr ⟨hm3, rfl, u3, u4.ms⟩⟩
  obtain ⟨hmA, t1, t2, t3, t4⟩ := y_scan x s
  have xA := x.m t3
  have nA : NF hc hmA := n.m t4
  have fin : ∀ g : Hp, g v 4 = (N : Int) → (gF g v 4 fun z25 => cI 1 fun z26 => addI z25 z26 fun z27 => pF g v 4 z27 fun h28 => some h28) = some (set2 g v 4 ((N + 1 : Nat) : Int)) := by
    intro g hg
    rw [e_gF, hg, e_cI, e_add _ _ _ (by omega), e_pF, show (N : Int) + 1 = ((N + 1 : Nat) : Int) by omega]
  have third : ∀ (g : Hp) (z : Int) (g2 : Hp), g v 4 = (N : Int) → g_X5_need 1 0 99 g = some (z, g2) → g2 v 4 = (N : Int) → (gF g v 4 fun z17 => cI 7 fun z18 => rdT T_X2_LEAST z18 fun z19 => cI 7 fun z20 => rdT T_X2_MOST z20 fun z21 => cW (g_X5_need 1 z19 z21 g) fun z22 h23 => wrI h23 (v + 4) 12 z17 z22 fun h24 => gF h24 v 4 fun z25 => cI 1 fun z26 => addI z25 z26 fun z27 => pF h24 v 4 z27 fun h28 => some h28) = some (set2 (set2 g2 (v + 4) N z) v 4 ((N + 1 : Nat) : Int)) := by
    intro g z g2 hg hn hg2
    have k7 : ∀ (t : List Int) (K : Int → Option Hp), 7 < t.length → rdT t 7 K = K (t.getD 7 0) := fun t K ht => k_rdT (i := 7) ht K
    rw [e_gF, hg, e_cI, k7 _ _ (by omega), e_cI, k7 _ _ (by omega)]
    show cW (g_X5_need 1 0 99 g) _ = _
    rw [hn, e_cW, e_wrn _ _ _ _ _ _ (by omega), fin _ (by rw [set2_np _ _ _ _ _ _ (by omega)]; exact hg2)]
  have second : ∀ (g : Hp) (z : Int) (g2 : Hp) (z3 : Int) (g3 : Hp), g v 4 = (N : Int) → g_X5_need 1 1 8 g = some (z, g2) → g2 v 4 = (N : Int) → g_X5_need 1 0 99 (set2 g2 (v + 3) N z) = some (z3, g3) → g3 v 4 = (N : Int) → (gF g v 4 fun z9 => cI 5 fun z10 => rdT T_X2_LEAST z10 fun z11 => cI 5 fun z12 => rdT T_X2_MOST z12 fun z13 => cW (g_X5_need 1 z11 z13 g) fun z14 h15 => wrI h15 (v + 3) 12 z9 z14 fun h16 => gF h16 v 4 fun z17 => cI 7 fun z18 => rdT T_X2_LEAST z18 fun z19 => cI 7 fun z20 => rdT T_X2_MOST z20 fun z21 => cW (g_X5_need 1 z19 z21 h16) fun z22 h23 => wrI h23 (v + 4) 12 z17 z22 fun h24 => gF h24 v 4 fun z25 => cI 1 fun z26 => addI z25 z26 fun z27 => pF h24 v 4 z27 fun h28 => some h28) = some (set2 (set2 g3 (v + 4) N z3) v 4 ((N + 1 : Nat) : Int)) := by
    intro g z g2 z3 g3 hg hn hg2 hn3 hg3
    have k5 : ∀ (t : List Int) (K : Int → Option Hp), 5 < t.length → rdT t 5 K = K (t.getD 5 0) := fun t K ht => k_rdT (i := 5) ht K
    rw [e_gF, hg, e_cI, k5 _ _ (by omega), e_cI, k5 _ _ (by omega)]
    show cW (g_X5_need 1 1 8 g) _ = _
    rw [hn, e_cW, e_wrn _ _ _ _ _ _ (by omega), third _ _ _ (by rw [set2_np _ _ _ _ _ _ (by omega)]; exact hg2) hn3 hg3]
  obtain ⟨z1, hc1, w1, w2, w3⟩ := y_number (l := 0) (u := 359) xA t2 nA
  have c1v : hc1 v 4 = (N : Int) := by rw [w2.1 v (by omega), e4, hN]
  rw [b_pos (by omega), e_gF hc, e4, e_cI 0 (R := Hp), e_cI 359 (R := Hp), w1, e_cW, hN, e_wrn _ _ _ _ _ _ (by omega), b_neg (by omega), t1, e_cV, e_cI 0, e_cI 359]
  have av : set2 hc1 (v + 2) N z1 v 4 = (N : Int) := by rw [set2_np _ _ _ _ _ _ (by omega)]; exact c1v
  rcases w3 with ⟨y1, m1, v1, v2, v3, v4, v5⟩ | ⟨y1, m1, v1, v2, v3⟩
  rotate_left
  · have f1 : set2 hc1 (v + 2) N z1 1 6 ≠ 0 := by rw [set2_np _ _ _ _ _ _ (by omega)]; exact v2.1
    have f2 : set2 (set2 hc1 (v + 2) N z1) (v + 3) N 1 1 6 ≠ 0 := by rw [set2_np _ _ _ _ _ _ (by omega)]; exact f1
    rw [second _ _ _ _ _ av (k_need_f f1) av (k_need_f f2) (by rw [set2_np _ _ _ _ _ _ (by omega)]; exact av), v1, e_cW, b_pos rfl, e_cI, retZW_0]
    exact ⟨_, rfl, ((((w2.cs (v := v)).tr (CS.set (by omega) hv)).tr (CS.set (by omega) hv)).tr (CS.set (by omega) hv)).tr (CS.set (by omega) hv), Or.inr ⟨m1, rfl, (((v2.outC (p := v + 2) (k := N) (x := z1) (by omega)).outC (p := v + 3) (k := N) (x := 1) (by omega)).outC (p := v + 4) (k := N) (x := 0) (by omega)).outC (p := v) (k := 4) (by omega), (t3.tr v3).ms⟩⟩
  have n30 : m1 100 30 = (N : Int) := by rw [v5.2 30 (by omega), t4 30 (by omega), hN]
  have xB : TX b L (set2 hc1 (v + 2) N z1) (set2 m1 111 (3 * N) z1) := ((xA.c w2).m v5).cs hv (CS.set (by omega) hv) (MS.row (by omega))
  have aB : AA b L (set2 hc1 (v + 2) N z1) (set2 m1 111 (3 * N) z1) := v2.out (by omega) (by omega)
  have nB : NF (set2 hc1 (v + 2) N z1) (set2 m1 111 (3 * N) z1) := (v3.outC (by omega)).outM (by omega)
  rw [v1, e_cW, b_neg (by decide), e_cI 3, e_gF m1, n30, e_mul _ _ _ (by omega), e_gF m1, v4, show (3 : Int) * (N : Int) = ((3 * N : Nat) : Int) by omega, e_wrn m1 _ _ _ _ _ (by omega), e_cI 1 (R := Int × Hp), e_cI 8 (R := Int × Hp)]
  obtain ⟨z2, hc2, w4, w5, w6⟩ := y_number (l := 1) (u := 8) xB aB nB
  have c2v : hc2 v 4 = (N : Int) := by rw [w5.1 v (by omega)]; exact av
  have av2 : set2 hc2 (v + 3) N z2 v 4 = (N : Int) := by rw [set2_np _ _ _ _ _ _ (by omega)]; exact c2v
  rcases w6 with ⟨y2, m2, u1, u2, u3, u4, u5⟩ | ⟨y2, m2, u1, u2, u3⟩
  rotate_left
  · have f2 : set2 hc2 (v + 3) N z2 1 6 ≠ 0 := by rw [set2_np _ _ _ _ _ _ (by omega)]; exact u2.1
    rw [second _ _ _ _ _ av w4 c2v (k_need_f f2) av2, u1, e_cW, b_pos rfl, e_cI, retZW_0]
    exact ⟨_, rfl, (((((w2.cs (v := v)).tr (CS.set (by omega) hv)).tr w5.cs).tr (CS.set (by omega) hv)).tr (CS.set (by omega) hv)).tr (CS.set (by omega) hv), Or.inr ⟨m2, rfl, ((u2.outC (p := v + 3) (k := N) (x := z2) (by omega)).outC (p := v + 4) (k := N) (x := 0) (by omega)).outC (p := v) (k := 4) (by omega), ((t3.tr v5).ms.tr (MS.row (by omega))).tr u3.ms⟩⟩
  have n30b : m2 100 30 = (N : Int) := by rw [u5.2 30 (by omega), set2_np _ _ _ _ _ _ (by omega)]; exact n30
  have xC : TX b L (set2 hc2 (v + 3) N z2) (set2 m2 111 (3 * N + 1) z2) := ((xB.c w5).m u5).cs hv (CS.set (by omega) hv) (MS.row (by omega))
  have aC : AA b L (set2 hc2 (v + 3) N z2) (set2 m2 111 (3 * N + 1) z2) := u2.out (by omega) (by omega)
  have nC : NF (set2 hc2 (v + 3) N z2) (set2 m2 111 (3 * N + 1) z2) := (u3.outC (by omega)).outM (by omega)
  rw [u1, e_cW, b_neg (by decide), e_cI 3, e_gF m2, n30b, e_mul _ _ _ (by omega), e_cI 1 (R := Int × Hp), e_add _ _ _ (by omega), e_gF m2, u4, show (3 : Int) * (N : Int) + 1 = ((3 * N + 1 : Nat) : Int) by omega, e_wrn m2 _ _ _ _ _ (by omega), e_cI 0 (R := Int × Hp), e_cI 99 (R := Int × Hp)]
  obtain ⟨z3, hc3, w7, w8, w9⟩ := y_number (l := 0) (u := 99) xC aC nC
  have c3v : hc3 v 4 = (N : Int) := by rw [w8.1 v (by omega)]; exact av2
  rw [second _ _ _ _ _ av w4 c2v w7 c3v]
  have cf : CS v hc (set2 (set2 hc3 (v + 4) N z3) v 4 ((N + 1 : Nat) : Int)) := ((((((w2.cs (v := v)).tr (CS.set (by omega) hv)).tr w5.cs).tr (CS.set (by omega) hv)).tr w8.cs).tr (CS.set (by omega) hv)).tr (CS.set (by omega) hv)
  rcases w9 with ⟨y3, m3, o1, o2, o3, o4, o5⟩ | ⟨y3, m3, o1, o2, o3⟩
  rotate_left
  · rw [o1, e_cW, b_pos rfl, e_cI, retZW_0]
    exact ⟨_, rfl, cf, Or.inr ⟨m3, rfl, (o2.outC (p := v + 4) (k := N) (x := z3) (by omega)).outC (p := v) (k := 4) (by omega), ((((t3.tr v5).ms.tr (MS.row (by omega))).tr u5.ms).tr (MS.row (by omega))).tr o3.ms⟩⟩
  have n30c : m3 100 30 = (N : Int) := by rw [o5.2 30 (by omega), set2_np _ _ _ _ _ _ (by omega)]; exact n30b
  rw [o1, e_cW, b_neg (by decide), e_cI 3, e_gF m3, n30c, e_mul _ _ _ (by omega), e_cI 2 (R := Int × Hp), e_add _ _ _ (by omega), e_gF m3, o4, show (3 : Int) * (N : Int) + 2 = ((3 * N + 2 : Nat) : Int) by omega, e_wrn m3 _ _ _ _ _ (by omega), e_gF, set2_np _ _ _ _ _ _ (by omega), n30c, e_cI, e_add _ _ _ (by omega), e_pF, e_cI, retZW_1, show (N : Int) + 1 = ((N + 1 : Nat) : Int) by omega]
  -- what is told now
  have r2 : ∀ k, hc3 (v + 2) k = if k = N then z1 else hc (v + 2) k := fun k => by
    rw [w8.1 (v + 2) (by omega), set2_np _ _ _ _ _ _ (by omega), w5.1 (v + 2) (by omega)]
    by_cases y : k = N
    · rw [if_pos y, y, set2_same]
    · rw [if_neg y, set2_nk _ _ _ _ _ _ y, w2.1 (v + 2) (by omega)]
  have r3 : ∀ k, hc3 (v + 3) k = if k = N then z2 else hc (v + 3) k := fun k => by
    rw [w8.1 (v + 3) (by omega)]
    by_cases y : k = N
    · rw [if_pos y, y, set2_same]
    · rw [if_neg y, set2_nk _ _ _ _ _ _ y, w5.1 (v + 3) (by omega), set2_np _ _ _ _ _ _ (by omega), w2.1 (v + 3) (by omega)]
  have r4 : ∀ k, hc3 (v + 4) k = hc (v + 4) k := fun k => by rw [w8.1 (v + 4) (by omega), set2_np _ _ _ _ _ _ (by omega), w5.1 (v + 4) (by omega), set2_np _ _ _ _ _ _ (by omega), w2.1 (v + 4) (by omega)]
  have r1 : ∀ k, hc3 (v + 1) k = hc (v + 1) k := fun k => by rw [w8.1 (v + 1) (by omega), set2_np _ _ _ _ _ _ (by omega), w5.1 (v + 1) (by omega), set2_np _ _ _ _ _ _ (by omega), w2.1 (v + 1) (by omega)]
  have r0 : ∀ k, hc3 v k = hc v k := fun k => by rw [w8.1 v (by omega), set2_np _ _ _ _ _ _ (by omega), w5.1 v (by omega), set2_np _ _ _ _ _ _ (by omega), w2.1 v (by omega)]
  have g111 : ∀ k, m3 111 k = if k = 3 * N then z1 else if k = 3 * N + 1 then z2 else hm 111 k := fun k => by
    rw [o5.1 111 (by omega)]
    by_cases y : k = 3 * N + 1
    · rw [y, set2_same, if_neg (by omega), if_pos rfl]
    · rw [set2_nk _ _ _ _ _ _ y, u5.1 111 (by omega)]
      by_cases y2 : k = 3 * N
      · rw [y2, set2_same, if_pos rfl]
      · rw [set2_nk _ _ _ _ _ _ y2, if_neg y2, if_neg y, v5.1 111 (by omega), t3.1 111 (by omega)]
  have gr : ∀ p, p = 113 ∨ p = 116 ∨ p = 117 → m3 p = hm p := fun p hp => by rw [o5.1 p (by omega), set2_ne p (by omega), u5.1 p (by omega), set2_ne p (by omega), v5.1 p (by omega), t3.1 p (by omega)]
  have gj : ∀ j, 9 < j → m3 100 j = hm 100 j := fun j hj => by rw [o5.2 j (by omega), set2_np _ _ _ _ _ _ (by omega), u5.2 j (by omega), set2_np _ _ _ _ _ _ (by omega), v5.2 j (by omega), t3.2 j (by omega)]
  refine ⟨_, rfl, cf, Or.inl ⟨_, rfl, (o2.out (by omega) (by omega)).out (by omega) (by omega), (((o3.outC (by omega)).outC (by omega)).outM (by omega)).outM (by omega), ⟨?_, ?_⟩, (((((t3.tr v5).ms.tr (MS.row (by omega))).tr u5.ms).tr (MS.row (by omega))).tr o5.ms).tr ((MS.row (by omega)).tr (MS.set (by omega))), ?_⟩⟩
  · have E1 : ∀ p, p ≠ v → p ≠ v + 4 → set2 (set2 hc3 (v + 4) N z3) v 4 ((N + 1 : Nat) : Int) p = hc3 p := fun p a1 a2 => by rw [set2_ne p a1, set2_ne p a2]
    have E2 : ∀ k, set2 (set2 hc3 (v + 4) N z3) v 4 ((N + 1 : Nat) : Int) (v + 4) k = if k = N then z3 else hc (v + 4) k := fun k => by
      rw [set2_np _ _ _ _ _ _ (by omega)]
      by_cases y : k = N
      · rw [if_pos y, y, set2_same]
      · rw [if_neg y, set2_nk _ _ _ _ _ _ y, r4]
    have E3 : set2 (set2 hc3 (v + 4) N z3) v 4 ((N + 1 : Nat) : Int) v 4 = ((N + 1 : Nat) : Int) := set2_same _ _ _ _
    have E4 : ∀ k, k ≠ 4 → set2 (set2 hc3 (v + 4) N z3) v 4 ((N + 1 : Nat) : Int) v k = hc v k := fun k hk => by rw [set2_nk _ _ _ _ _ _ hk, set2_np _ _ _ _ _ _ (by omega), r0]
    have F1 : ∀ k, set2 (set2 m3 111 (3 * N + 2) z3) 100 30 ((N + 1 : Nat) : Int) 111 k = if k = 3 * N + 2 then z3 else m3 111 k := fun k => by
      rw [set2_np _ _ _ _ _ _ (by omega)]
      by_cases y : k = 3 * N + 2
      · rw [if_pos y, y, set2_same]
      · rw [if_neg y, set2_nk _ _ _ _ _ _ y]
    have F2 : ∀ p, p = 113 ∨ p = 116 ∨ p = 117 → set2 (set2 m3 111 (3 * N + 2) z3) 100 30 ((N + 1 : Nat) : Int) p = hm p := fun p hp => by rw [set2_ne p (by omega), set2_ne p (by omega), gr p hp]
    have F3 : set2 (set2 m3 111 (3 * N + 2) z3) 100 30 ((N + 1 : Nat) : Int) 100 30 = ((N + 1 : Nat) : Int) := set2_same _ _ _ _
    have F4 : ∀ j, 9 < j → j ≠ 30 → set2 (set2 m3 111 (3 * N + 2) z3) 100 30 ((N + 1 : Nat) : Int) 100 j = hm 100 j := fun j a1 a2 => by rw [set2_nk _ _ _ _ _ _ a2, set2_np _ _ _ _ _ _ (by omega), gj j a1]
    generalize set2 (set2 hc3 (v + 4) N z3) v 4 ((N + 1 : Nat) : Int) = gc at *
    generalize set2 (set2 m3 111 (3 * N + 2) z3) 100 30 ((N + 1 : Nat) : Int) = gm at *
    obtain ⟨s1, ⟨s2, s2b⟩, s3, s4⟩ := eq
    unfold EQ
    rw [E1 (v + 1) (by omega) (by omega), E3, E4 5 (by omega), E4 6 (by omega), F2 113 (by omega), F2 116 (by omega), F2 117 (by omega), F3, F4 40 (by omega) (by omega), F4 17 (by omega) (by omega), F4 18 (by omega) (by omega)]
    simp only [r1]
    refine ⟨s1, ⟨True.intro, fun k hk => ?_⟩, s3, s4⟩
    rw [E1 (v + 2) (by omega) (by omega), E1 (v + 3) (by omega) (by omega), E2, r2, r3, F1, F1, F1, g111, g111]
    by_cases y : k = N
    · subst y
      rw [if_pos rfl, if_pos rfl, if_pos rfl, if_neg (by omega), if_pos rfl, if_neg (by omega), if_neg (by omega), if_pos rfl, if_pos rfl]
      exact ⟨rfl, rfl, rfl⟩
    · rw [if_neg y, if_neg y, if_neg y, if_neg (by omega), if_neg (by omega), if_neg (by omega), if_neg (by omega), if_neg (by omega), if_neg (by omega), if_neg (by omega), g111, if_neg (by omega), if_neg (by omega)]
      exact s2b k (by rw [hN]; omega)
  · have F1 : ∀ k, set2 (set2 m3 111 (3 * N + 2) z3) 100 30 ((N + 1 : Nat) : Int) 111 k = if k = 3 * N + 2 then z3 else m3 111 k := fun k => by
      rw [set2_np _ _ _ _ _ _ (by omega)]
      by_cases y : k = 3 * N + 2
      · rw [if_pos y, y, set2_same]
      · rw [if_neg y, set2_nk _ _ _ _ _ _ y]
    have F2 : ∀ p, p = 113 ∨ p = 116 ∨ p = 117 → set2 (set2 m3 111 (3 * N + 2) z3) 100 30 ((N + 1 : Nat) : Int) p = hm p := fun p hp => by rw [set2_ne p (by omega), set2_ne p (by omega), gr p hp]
    have F3 : set2 (set2 m3 111 (3 * N + 2) z3) 100 30 ((N + 1 : Nat) : Int) 100 30 = ((N + 1 : Nat) : Int) := set2_same _ _ _ _
    have F4 : ∀ j, 9 < j → j ≠ 30 → set2 (set2 m3 111 (3 * N + 2) z3) 100 30 ((N + 1 : Nat) : Int) 100 j = hm 100 j := fun j a1 a2 => by rw [set2_nk _ _ _ _ _ _ a2, set2_np _ _ _ _ _ _ (by omega), gj j a1]
    generalize set2 (set2 m3 111 (3 * N + 2) z3) 100 30 ((N + 1 : Nat) : Int) = gm at *
    unfold SBd TB0 WB
    rw [F2 113 (by omega), F2 116 (by omega), F2 117 (by omega), F3, F4 40 (by omega) (by omega), F4 18 (by omega) (by omega)]
    refine ⟨sb1, sb2, sb3, sb4, ⟨by omega, fun k hk => ?_⟩, sb6⟩
    rw [F1, F1, F1, g111, g111]
    by_cases y : k = N
    · subst y
      rw [if_neg (by omega), if_pos rfl, if_neg (by omega), if_neg (by omega), if_pos rfl, if_pos rfl]
      exact ⟨y1, y2, y3⟩
    · rw [if_neg (by omega), if_neg (by omega), if_neg (by omega), if_neg (by omega), if_neg (by omega), if_neg (by omega), if_neg (by omega), g111, if_neg (by omega), if_neg (by omega)]
      exact sb5b k (by rw [hN]; omega)
  · rw [set2_np _ _ _ _ _ _ (by omega), set2_np _ _ _ _ _ _ (by omega)]
    have a1 := w2.2.2
    have a2 := w5.2.2
    have a3 := w8.2.2
    rw [set2_np _ _ _ _ _ _ (by omega)] at a2 a3
    omega
end SEA2
