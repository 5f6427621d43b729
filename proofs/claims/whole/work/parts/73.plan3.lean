/-! READING a plan: clauses, and the call -/
def mH (h : Hp) (J L8 : Hp → Option (Int × Hp)) : Option (Int × Hp) := cW (g_X9_readHand h) fun z12 h13 => if z12 = 0 then J h13 else cW (g_X9_close h13) fun z14 h15 => if z14 = 0 then J h15 else L8 h15
/-- hands that are told -/
def PR (q p H : Nat) (hc hm : Hp) (N : Int) : Prop := (hc q 4 = (H : Int) ∧ hm 100 42 = (H : Int)) ∧ ∀ i, i < H → ∃ A : Nat, (1 ≤ A ∧ A ≤ 8) ∧ HD q p i A hc hm N
/-- what moves in the model while it reads a plan -/
def MPl (p : Nat) (hm hm' : Hp) : Prop := (∀ r, r ≠ 100 → r ≠ 119 → r ≠ 120 → hm' r = hm r) ∧ (∀ j, j < 3 ∨ (9 < j ∧ j ≠ 42) → hm' 100 j = hm 100 j) ∧ (∀ j, j < 4 * p → hm' 119 j = hm 119 j) ∧ (∀ j, j < 96 * p → hm' 120 j = hm 120 j)
theorem MPl.rf {p : Nat} {a : Hp} : MPl p a a := ⟨fun _ _ _ _ => rfl, fun _ _ => rfl, fun _ _ => rfl, fun _ _ => rfl⟩
theorem MPl.tr {p : Nat} {a b c : Hp} (x : MPl p a b) (y : MPl p b c) : MPl p a c := ⟨fun r h1 h2 h3 => (y.1 r h1 h2 h3).trans (x.1 r h1 h2 h3), fun j hj => (y.2.1 j hj).trans (x.2.1 j hj), fun j hj => (y.2.2.1 j hj).trans (x.2.2.1 j hj), fun j hj => (y.2.2.2 j hj).trans (x.2.2.2 j hj)⟩
theorem HN.mp {p H X : Nat} {a b : Hp} (x : HN p H X a b) (h : 96 * p ≤ X) : MPl p a b := ⟨x.1, fun j hj => x.2.1 j (by omega), fun j hj => x.2.2.1 j (by omega), fun j hj => x.2.2.2 j (by omega)⟩
theorem TM.mp {p : Nat} {a b : Hp} (x : TM a b) : MPl p a b := ⟨fun r h1 _ _ => x.1 r h1, fun j hj => x.2 j (by omega), fun _ _ => by rw [x.1 119 (by omega)], fun _ _ => by rw [x.1 120 (by omega)]⟩
theorem shape.cm {c q p : Nat} {hc hm hc' hm' : Hp} (s : shape c hc hm) (hc9 : 3 ≤ c ∧ c ≤ 9) (hq : 15 ≤ q) (h : CP q hc hc') (m : MPl p hm hm') : shape c hc' hm' := by
  unfold shape at s ⊢
  rw [h.1 (c + 1) (by omega) (by omega), m.2.1 10 (by omega), m.2.1 11 (by omega)]
  exact s
theorem TX.cp {b : Nat → Int} {L q p : Nat} {hc hm hc' hm' : Hp} (x : TX b L hc hm) (hq : 3 ≤ q) (c : CP q hc hc') (m : MPl p hm hm') : TX b L hc' hm' :=
  x.mv ⟨c.1 2 (by omega) (by omega), c.2 1 (by omega)⟩ ⟨m.1 101 (by omega) (by omega) (by omega), m.2.1 2 (by omega)⟩
theorem HD.rows {q p i K : Nat} {hc hm hc' hm' : Hp} {N : Int} (s : HD q p i K hc hm N) (c : ∀ r, q + 1 ≤ r → r ≤ q + 4 → hc' r = hc r) (m : hm' 119 = hm 119 ∧ hm' 120 = hm 120) : HD q p i K hc' hm' N := by
  unfold HD AC at s ⊢
  rw [c (q + 1) (by omega) (by omega), c (q + 2) (by omega) (by omega), c (q + 3) (by omega) (by omega), c (q + 4) (by omega) (by omega), m.1, m.2]
  exact s
theorem PR.rows {q p H : Nat} {hc hm hc' hm' : Hp} {N : Int} (s : PR q p H hc hm N) (c : ∀ r, q ≤ r → r ≤ q + 4 → hc' r = hc r) (m : hm' 119 = hm 119 ∧ hm' 120 = hm 120) (m2 : hm' 100 42 = hm 100 42) : PR q p H hc' hm' N := by
  obtain ⟨⟨s1, s2⟩, s3⟩ := s
  refine ⟨⟨by rw [c q (by omega) (by omega)]; exact s1, by rw [m2]; exact s2⟩, fun i hi => ?_⟩
  obtain ⟨A, a1, a2⟩ := s3 i hi
  exact ⟨A, a1, a2.rows (fun r h1 h2 => c r (by omega) h2) m⟩
section HANDS
variable {b : Nat → Int} {L : Nat} {hc hm : Hp}
theorem y_close3 {x : Int} (hx : hm 100 5 ≠ 3) : g_X9_close (set2 hm 100 42 x) = some (0, set2 (set2 (set2 hm 100 42 x) 100 8 1) 100 9 (hm 100 3)) := by
  unfold g_X9_close
  rw [e_gF, set2_nk _ _ _ _ _ _ (by omega), e_cI, b_neg hx, e_cI, m_bad, e_cW, retZW_0, set2_nk _ _ _ _ _ _ (by omega)]
theorem y_hand {q c p H : Nat} {N : Int} (hq : 15 ≤ q) (hc9 : 3 ≤ c ∧ c ≤ 9) (hp : p < 3) (x : TX b L hc hm) (s : SS b L hc hm) (nf : NF hc hm) (sh : shape c hc hm) (hN : hm 100 10 * hm 100 11 = N) (h41 : hm 100 41 = (p : Int)) (hH : H ≤ 4) (pr : PR q p H hc hm N) :
    ∃ hc', g_X1_readHand q 1 c hc = some hc' ∧ CP q hc hc' ∧ hc 1 2 ≤ hc' 1 2 ∧
      ((∃ hm', (∀ J L8, mH hm J L8 = L8 hm') ∧ AA b L hc' hm' ∧ NF hc' hm' ∧ H < 4 ∧ PR q p (H + 1) hc' hm' N ∧ MPl p hm hm') ∨ ∃ hm', (∀ J L8, mH hm J L8 = J hm') ∧ FF hc' hm' ∧ MPl p hm hm') := by
  obtain ⟨⟨e4, e42⟩, prs⟩ := pr
  have s0 := strC_m3.1
  unfold g_X1_readHand
  have bad : ∀ f : Int, f ≠ 0 → (∀ J L8, mH hm J L8 = cW (g_X9_bad f hm) fun z12 h13 => if z12 = 0 then J h13 else cW (g_X9_close h13) fun z14 h15 => if z14 = 0 then J h15 else L8 h15) → ∃ hc', (cV (g_X5_refuse 1 f hc) fun h35 => some h35) = some hc' ∧ CP q hc hc' ∧ hc 1 2 ≤ hc' 1 2 ∧
      ((∃ hm', (∀ J L8, mH hm J L8 = L8 hm') ∧ AA b L hc' hm' ∧ NF hc' hm' ∧ H < 4 ∧ PR q p (H + 1) hc' hm' N ∧ MPl p hm hm') ∨ ∃ hm', (∀ J L8, mH hm J L8 = J hm') ∧ FF hc' hm' ∧ MPl p hm hm') := by
    intro f hf hJ
    obtain ⟨hc1, u1, ⟨hm2, u2, u3, u4⟩, u5, u6⟩ := y_refuse (f := f) s nf hf
    exact ⟨hc1, by rw [u1, e_cV], u5.cp, u5.2.2, Or.inr ⟨hm2, fun J L8 => by rw [hJ, u2, e_cW, b_pos rfl], u3, u4.mp⟩⟩
  rcases y_word (w := strC 16) x s (strC_len8 ⟨16, by omega⟩) with ⟨wa, wk, wm⟩ | ⟨wa, wk, wm⟩
  rotate_left
  · rw [wk, e_cP, b_pos rfl, e_cI]
    refine bad 1 (by decide) (fun J L8 => ?_)
    unfold mH g_X9_readHand
    rw [s0, wm, e_cP, b_pos rfl, e_cI]
    rfl
  rw [wk, e_cP, b_neg (by decide), e_gF, e4, e_cI]
  by_cases h4 : H = 4
  · rw [b_neg (by omega), e_cI]
    refine bad 4 (by decide) (fun J L8 => ?_)
    unfold mH g_X9_readHand
    rw [s0, wm, e_cP, b_neg (by decide), e_gF, e42, e_cI, b_pos (by omega), e_cI]
    rfl
  have hH4 : H < 4 := by omega
  rw [b_pos (by omega), e_gF, e4, e_cI, e_wrn _ _ _ _ _ _ (by omega)]
  -- the hand begins
  obtain ⟨hmA, t1, t2, t3, t4⟩ := y_scan x s
  have mh : ∀ J L8, mH hm J L8 = cW (cP (g_X9_actAt (set2 hmA 119 (4 * p + H) 0)) fun z12 => cI (-1) fun z13 => if z12 = z13 then cI 1 fun z47 => cW (g_X9_bad z47 (set2 hmA 119 (4 * p + H) 0)) fun z48 h49 => retZW z48 h49 else cP (g_X9_actAt (set2 hmA 119 (4 * p + H) 0)) fun z14 => joinF (fun (a15 : Hp) => gF a15 100 42 fun z18 => cI 1 fun z19 => addI z18 z19 fun z20 => pF a15 100 42 z20 fun h21 => cI 1 fun z22 => retZW z22 h21) fun j16 => loopF (g_X9_readHand_l24 j16 ((4 * p + H : Nat) : Int)) FU (z14, set2 hmA 119 (4 * p + H) 0)) fun z12 h13 => if z12 = 0 then J h13 else cW (g_X9_close h13) fun z14 h15 => if z14 = 0 then J h15 else L8 h15 := by
    intro J L8
    unfold mH g_X9_readHand
    rw [s0, wm, e_cP, b_neg (by decide), e_gF, e42, e_cI, b_neg (by omega), e_cI, e_gF, h41, e_mul _ _ _ (by omega), e_gF, e42, e_add _ _ _ (by omega), show (4 : Int) * (p : Int) + (H : Int) = ((4 * p + H : Nat) : Int) by omega, t1, e_cV, e_cI, e_wrn _ _ _ _ _ _ (by omega)]
  have c1f : HF q H 0 hc (set2 hc (q + 1) H 0) := HF.set (by omega) (Or.inl ⟨rfl, rfl⟩)
  have m1f : HN p H (3 * (8 * (4 * p + H) + 0)) hm (set2 hmA 119 (4 * p + H) 0) := (t3.hm.hn).tr HN.set (Nat.le_refl _)
  have a0 : AA b L (set2 hc (q + 1) H 0) (set2 hmA 119 (4 * p + H) 0) := t2.out (by omega) (by omega)
  have n0 : NF (set2 hc (q + 1) H 0) (set2 hmA 119 (4 * p + H) 0) := ((nf.m t4).outC (by omega)).outM (by omega)
  have x0 : TX b L (set2 hc (q + 1) H 0) (set2 hmA 119 (4 * p + H) 0) := x.hn (by omega) c1f m1f
  have m119 : set2 hmA 119 (4 * p + H) 0 119 (4 * p + H) = 0 := set2_same _ _ _ _
  have c1H : set2 hc (q + 1) H 0 (q + 1) H = 0 := set2_same _ _ _ _
  have at0 : set2 hc (q + 1) H 0 1 2 = hc 1 2 := set2_np _ _ _ _ _ _ (by omega)
  generalize set2 hc (q + 1) H 0 = c0 at *
  generalize set2 hmA 119 (4 * p + H) 0 = m0 at *
  obtain ⟨hc1, w1, w2, w3, w4, w5, -⟩ := y_advance x0 a0
  have n1 : NF hc1 m0 := ⟨by rw [w4]; exact n0.1, n0.2.1, by rw [w5]; exact n0.2.2.1, n0.2.2.2⟩
  have x1 : TX b L hc1 m0 := x0.c w3
  have f1 : HF q H 0 hc hc1 := c1f.tr (w3.hf (A := 0) (by omega)) (by omega)
  have c4 : hc1 q 4 = (H : Int) := by rw [f1.2.1]; exact e4
  have fin : ∀ (g : Hp), g q 4 = (H : Int) → (gF g q 4 fun z12 => cI 1 fun z13 => addI z12 z13 fun z14 => pF g q 4 z14 fun h15 => some h15) = some (set2 g q 4 ((H + 1 : Nat) : Int)) := by
    intro g hg
    rw [e_gF, hg, e_cI, e_add _ _ _ (by omega), e_pF, show (H : Int) + 1 = ((H + 1 : Nat) : Int) by omega]
  have cls : ∀ (hc' : Hp), hc' q 4 = (H : Int) → (∀ j10 j17 : Hp → Option Hp, (∀ a, j17 a = j10 a) → loopF (g_X1_readHand_l20 q 1 c j10 j17) FU (((0 : Nat) : Int), hc1) = j10 hc') → (cV (g_X5_advance 1 c0) fun h7 => cI 0 fun z8 => joinF (fun (a9 : Hp) => gF a9 q 4 fun z12 => cI 1 fun z13 => addI z12 z13 fun z14 => pF a9 q 4 z14 fun h15 => some h15) fun j10 => joinF (fun (a16 : Hp) => j10 a16) fun j17 => loopF (g_X1_readHand_l20 q 1 c j10 j17) FU (z8, h7)) = some (set2 hc' q 4 ((H + 1 : Nat) : Int)) := by
    intro hc' hq4 hl
    rw [w1, e_cV, e_cI]
    refine join_gen (fun j10 hj10 => join_gen (fun j17 hj17 => ?_))
    rw [show (0 : Int) = ((0 : Nat) : Int) from rfl, hl j10 j17 hj17, hj10, fin hc' hq4]
  have top : hc 1 2 ≤ hc1 1 2 := by rw [← at0]; exact w3.2.2
  obtain ⟨k, u1, u2, u3⟩ := y_kind x1 w2
  have cpE : ∀ g, HF q H 0 hc g → CP q hc (set2 g q 4 ((H + 1 : Nat) : Int)) := fun g f => f.1.tr ⟨fun r _ hr => set2_ne r (by omega), fun j _ => set2_np _ _ _ _ _ _ (by omega)⟩
  by_cases km : k = -1
  · -- no act
    have pp := SS.pp x1 w2
    have rfs := k_refuse hc1 1
    rw [if_pos n1.1] at rfs
    have pr1 := k_refuse_pos pp rfs
    obtain ⟨h2, v1, v2, v3, v4, v5⟩ := k_adv_pos pr1
    have q6 : set2 (set2 hc1 1 6 1) 1 7 (hc1 1 4) 1 6 = 1 := by rw [set2_nk _ _ _ _ _ _ (by omega), set2_same]
    have q7 : set2 (set2 hc1 1 6 1) 1 7 (hc1 1 4) 1 7 = hc1 1 4 := set2_same _ _ _ _
    have tc : TC hc1 (set2 (set2 hc1 1 6 1) 1 7 (hc1 1 4)) := ⟨fun r hr => by rw [set2_ne r hr, set2_ne r hr], fun j hj => by rw [set2_nk _ _ _ _ _ _ (by omega), set2_nk _ _ _ _ _ _ (by omega)], by rw [set2_nk _ _ _ _ _ _ (by omega), set2_nk _ _ _ _ _ _ (by omega)]; exact Int.le_refl _⟩
    have f2 : HF q H 0 hc h2 := f1.tr ((tc.tr v2).hf (A := 0) (by omega)) (by omega)
    have sc : hc1 1 4 = m0 100 3 := by
      obtain ⟨q0, e0, kk, vv, ⟨s1, s2, s3, -⟩, ⟨m1, m2, m3, -⟩, -⟩ := w2
      rw [s3, m1]
    refine ⟨set2 h2 q 4 ((H + 1 : Nat) : Int), cls h2 (by rw [f2.2.1]; exact e4) (fun j10 j17 hj => ?_), cpE h2 f2, ?_, Or.inr ⟨set2 (set2 m0 100 8 1) 100 9 (m0 100 3), fun J L8 => ?_, ?_, (m1f.mp (by omega)).tr ⟨fun r h1 _ _ => by rw [set2_ne r h1, set2_ne r h1], fun j hj => by rw [set2_nk _ _ _ _ _ _ (by omega), set2_nk _ _ _ _ _ _ (by omega)], fun j _ => by rw [set2_np _ _ _ _ _ _ (by omega), set2_np _ _ _ _ _ _ (by omega)], fun j _ => by rw [set2_np _ _ _ _ _ _ (by omega), set2_np _ _ _ _ _ _ (by omega)]⟩⟩⟩
    · obtain ⟨F, hF⟩ : ∃ F, FU = F + 1 + 1 := ⟨999998, rfl⟩
      rw [hF]
      show g_X1_readHand_l20 q 1 c j10 j17 (loopF _ (F + 1)) (((0 : Nat) : Int), hc1) = _
      have cf := k_acts_f (q := q) (c := c) (F := F + 1) (i := 1) (j10 := j10) (j17 := j17) (hc := h2) (by rw [v3, q6]; decide) (by omega)
      generalize loopF (g_X1_readHand_l20 q 1 c j10 j17) (F + 1) = self at cf
      unfold g_X1_readHand_l20
      dsimp only
      rw [e_cI, b_neg (by omega), k_isFaulty, if_pos n1.1, e_cP, b_pos rfl]
      refine join_gen (fun j26 hj26 => ?_)
      rw [b_pos (by omega), hj26]
      unfold g_X1_readAct
      rw [u1, e_cP, e_cI, b_pos km, e_cI, rfs, e_cV, e_cV, v1, e_cV, e_add _ _ _ (by omega), show ((0 : Nat) : Int) + 1 = 1 from rfl]
      exact cf
    · rw [set2_np _ _ _ _ _ _ (by omega)]
      exact Int.le_trans top (tc.tr v2).2.2
    · rw [mh, u2, e_cP, e_cI, b_pos km, e_cI, m_bad, e_cW, retZW_0, e_cW, b_pos rfl]
    · refine FF.outC ⟨by rw [v3, q6]; decide, ?_, ?_⟩ (by omega)
      · rw [v3, q6, set2_nk _ _ _ _ _ _ (by omega), set2_same]
      · rw [v4, q7, sc, set2_same]
  have hd0 : HD q p H 0 hc1 m0 N := ⟨⟨by rw [w3.1 (q + 1) (by omega), c1H]; rfl, by rw [m119]; rfl⟩, fun k hk => absurd hk (by omega)⟩
  have hN0 : m0 100 10 * m0 100 11 = N := by rw [m1f.2.1 10 (by omega), m1f.2.1 11 (by omega)]; exact hN
  obtain ⟨hc', r1, r2, r3, r4, r5⟩ := y_acts (b := b) (L := L) (q := q) (c := c) (p := p) (H := H) (N := N) hq hc9 hp hH4 8 0 FU FU hc1 m0 k (by omega) (fu _ (by omega)) (fu _ (by omega)) x1 w2 n1 (sh.mv hc9 hq f1 m1f) hN0 c4 hd0 u2 (fun _ => km)
  have f2 : HF q H 0 hc hc' := f1.tr r2 (by omega)
  have q4 : hc' q 4 = (H : Int) := by rw [f2.2.1]; exact e4
  have mm : ∀ J L8, mH hm J L8 = cW (joinF (fun (a15 : Hp) => gF a15 100 42 fun z18 => cI 1 fun z19 => addI z18 z19 fun z20 => pF a15 100 42 z20 fun h21 => cI 1 fun z22 => retZW z22 h21) fun j16 => loopF (g_X9_readHand_l24 j16 ((4 * p + H : Nat) : Int)) FU (k, m0)) fun z12 h13 => if z12 = 0 then J h13 else cW (g_X9_close h13) fun z14 h15 => if z14 = 0 then J h15 else L8 h15 := fun J L8 => by
    rw [mh, u2, e_cP, e_cI, b_neg km, e_cP]
  have j16e : ∀ g : Hp, g 100 42 = (H : Int) → (gF g 100 42 fun z18 => cI 1 fun z19 => addI z18 z19 fun z20 => pF g 100 42 z20 fun h21 => cI 1 fun z22 => retZW z22 h21) = some (1, set2 g 100 42 ((H + 1 : Nat) : Int)) := by
    intro g hg
    rw [e_gF, hg, e_cI, e_add _ _ _ (by omega), e_pF, e_cI, retZW_1, show (H : Int) + 1 = ((H + 1 : Nat) : Int) by omega]
  refine ⟨set2 hc' q 4 ((H + 1 : Nat) : Int), cls hc' q4 r1, cpE hc' f2, by rw [set2_np _ _ _ _ _ _ (by omega)]; exact Int.le_trans top r4, ?_⟩
  rcases r5 with ⟨hm', A', o1, o2, o3, o4, o5, o6, o7⟩ | ⟨hm', o1, o2, o3⟩ | ⟨hm', o1, o2, o3⟩
  · -- the clause ends
    have gN : HN p H (3 * (8 * (4 * p + H) + 0)) hm hm' := m1f.tr o7 (Nat.le_refl _)
    have g42 : hm' 100 42 = (H : Int) := by rw [gN.2.1 42 (by omega)]; exact e42
    have ssE : SS b L (set2 hc' q 4 ((H + 1 : Nat) : Int)) (set2 hm' 100 42 ((H + 1 : Nat) : Int)) := (o3.outC (by omega)).outM (by omega)
    have nE : NF (set2 hc' q 4 ((H + 1 : Nat) : Int)) (set2 hm' 100 42 ((H + 1 : Nat) : Int)) := (o4.outC (by omega)).outM (by omega)
    have mpE : MPl p hm (set2 hm' 100 42 ((H + 1 : Nat) : Int)) := (gN.mp (by omega)).tr ⟨fun r h1 _ _ => set2_ne r h1, fun j hj => set2_nk _ _ _ _ _ _ (by omega), fun j _ => set2_np _ _ _ _ _ _ (by omega), fun j _ => set2_np _ _ _ _ _ _ (by omega)⟩
    have k5 : hm' 100 5 = 3 := by
      obtain ⟨q0, e0, kk, vv, ⟨s1, s2, s3, -⟩, ⟨m1, m2, m3, -⟩, -⟩ := o3
      rw [m3, ← s2, o5]; rfl
    obtain ⟨hm2, z1, z2, z3, z4⟩ := y_scan (x.cp (by omega) (cpE hc' f2) mpE) ssE
    left
    refine ⟨hm2, fun J L8 => ?_, z2, nE.m z4, hH4, ⟨⟨set2_same _ _ _ _, by rw [z4 42 (by omega), set2_same]⟩, fun i hi => ?_⟩, mpE.tr z3.mp⟩
    · (rw [mm, e_join]; (try dsimp only); rw [o2, j16e hm' g42, e_cW, b_neg (by decide)])
      unfold g_X9_close
      rw [e_gF, set2_nk _ _ _ _ _ _ (by omega), e_cI, b_pos k5, z1, e_cV, e_cI, retZW_1, e_cW, b_neg (by decide)]
    · have rr : ∀ {K : Nat}, HD q p i K hc' hm' N → HD q p i K (set2 hc' q 4 ((H + 1 : Nat) : Int)) hm2 N := fun {K} hd => hd.rows (fun r h1 h2 => set2_ne r (by omega)) ⟨by rw [z3.1 119 (by omega), set2_ne 119 (by omega)], by rw [z3.1 120 (by omega), set2_ne 120 (by omega)]⟩
      by_cases y : i = H
      · subst y
        exact ⟨A', o1, rr o6⟩
      · obtain ⟨K, k1, k2⟩ := prs i (by omega)
        exact ⟨K, k1, rr (k2.far (A := 0) f2 gN (by omega) k1.2 (by omega))⟩
  · right
    have gN : HN p H (3 * (8 * (4 * p + H) + 0)) hm hm' := m1f.tr o3 (Nat.le_refl _)
    have g42 : hm' 100 42 = (H : Int) := by rw [gN.2.1 42 (by omega)]; exact e42
    refine ⟨_, fun J L8 => by (rw [mm, e_join]; (try dsimp only); rw [o1, j16e hm' g42, e_cW, b_neg (by decide), y_close3 o2.2.2, e_cW, b_pos rfl]), ?_, (gN.mp (by omega)).tr ⟨fun r h1 _ _ => by rw [set2_ne r h1, set2_ne r h1, set2_ne r h1], fun j hj => by rw [set2_nk _ _ _ _ _ _ (by omega), set2_nk _ _ _ _ _ _ (by omega), set2_nk _ _ _ _ _ _ (by omega)], fun j _ => by rw [set2_np _ _ _ _ _ _ (by omega), set2_np _ _ _ _ _ _ (by omega), set2_np _ _ _ _ _ _ (by omega)], fun j _ => by rw [set2_np _ _ _ _ _ _ (by omega), set2_np _ _ _ _ _ _ (by omega), set2_np _ _ _ _ _ _ (by omega)]⟩⟩
    refine FF.outC ⟨by rw [o2.1]; decide, ?_, ?_⟩ (by omega)
    · rw [o2.1, set2_nk _ _ _ _ _ _ (by omega), set2_same]
    · rw [o2.2.1, set2_same]
  · right
    have gN : HN p H (3 * (8 * (4 * p + H) + 0)) hm hm' := m1f.tr o3 (Nat.le_refl _)
    exact ⟨hm', fun J L8 => by (rw [mm, e_join]; (try dsimp only); rw [o1, e_cW, b_pos rfl]), o2.outC (by omega), gN.mp (by omega)⟩
theorem k_hand_f {q c i F : Nat} {j5 : Hp → Option Hp} (h : hc 1 6 ≠ 0) (hi : i ≤ 900) (hF : 0 < F) : loopF (g_X1_readFrom_l8 q 1 c j5) F ((i : Int), hc) = j5 hc := by
  obtain ⟨F, rfl⟩ : ∃ z, F = z + 1 := ⟨F - 1, by omega⟩
  show g_X1_readFrom_l8 q 1 c j5 (loopF _ F) ((i : Int), hc) = _
  generalize loopF (g_X1_readFrom_l8 q 1 c j5) F = self
  unfold g_X1_readFrom_l8
  dsimp only
  rw [e_cI]
  by_cases y : i = 900
  · rw [b_pos (by omega)]
  · rw [b_neg (by omega), k_has_f h, e_cW, b_pos rfl]
/-- all hands -/
theorem y_hands {q c p : Nat} {N : Int} {j5 : Hp → Option Hp} {j4 : Hp → Option (Int × Hp)} (hq : 15 ≤ q) (hc9 : 3 ≤ c ∧ c ≤ 9) (hp : p < 3) : ∀ (n F F2 i H : Nat) (hc hm : Hp), TX b L hc hm → AA b L hc hm → NF hc hm → shape c hc hm → hm 100 10 * hm 100 11 = N → hm 100 41 = (p : Int) → H ≤ 4 → PR q p H hc hm N → (i : Int) ≤ hc 1 2 → (L : Int) - hc 1 2 < (n : Int) → n < F → n < F2 → i ≤ 900 →
    ∃ hc', loopF (g_X1_readFrom_l8 q 1 c j5) F ((i : Int), hc) = j5 hc' ∧ CP q hc hc' ∧ ((∃ hm' H', loopF (g_X9_readPlan_l8 j4) F2 hm = some (1, hm') ∧ NF hc' hm' ∧ H' ≤ 4 ∧ PR q p H' hc' hm' N ∧ MPl p hm hm') ∨ ∃ hm', loopF (g_X9_readPlan_l8 j4) F2 hm = j4 hm' ∧ FF hc' hm' ∧ MPl p hm hm')
  | 0, F, F2, i, H, hc, hm, x, a, nf, sh, hN, h41, hH, pr, h1, h2, h3, h4, h5 => by
    obtain ⟨p, a1, a2, -⟩ := a
    exact absurd h2 (by omega)
  | n + 1, F, F2, i, H, hc, hm, x, a, nf, sh, hN, h41, hH, pr, h1, h2, h3, h4, h5 => by
    obtain ⟨F, rfl⟩ : ∃ z, F = z + 1 := ⟨F - 1, by omega⟩
    obtain ⟨F2, rfl⟩ : ∃ z, F2 = z + 1 := ⟨F2 - 1, by omega⟩
    have ih := y_hands (N := N) (j5 := j5) (j4 := j4) hq hc9 hp n F F2
    have cf := fun g (hg : g 1 6 ≠ 0) (hi : i + 1 ≤ 900) => k_hand_f (q := q) (c := c) (j5 := j5) (i := i + 1) (F := F) (hc := g) hg hi (by omega)
    show ∃ hc', g_X1_readFrom_l8 q 1 c j5 (loopF _ F) ((i : Int), hc) = _ ∧ _ ∧ ((∃ hm' H', g_X9_readPlan_l8 j4 (loopF _ F2) hm = _ ∧ _) ∨ ∃ hm', g_X9_readPlan_l8 j4 (loopF _ F2) hm = _ ∧ _)
    generalize loopF (g_X1_readFrom_l8 q 1 c j5) F = self at ih cf
    generalize loopF (g_X9_readPlan_l8 j4) F2 = self2 at ih
    have mend : hm 100 5 = 0 → g_X9_readPlan_l8 j4 self2 hm = some (1, hm) := by
      intro y
      unfold g_X9_readPlan_l8
      rw [e_gF, b_pos y, e_cI, retZW_1]
    have mgo : hm 100 5 ≠ 0 → g_X9_readPlan_l8 j4 self2 hm = mH hm j4 self2 := by
      intro y
      unfold g_X9_readPlan_l8
      rw [e_gF, b_neg y]
      rfl
    have cgo : ∀ (o : Option Hp), (i ≠ 900 → (cW (g_X5_hasClause 1 hc) fun z12 h13 => if z12 = 0 then j5 h13 else cV (g_X1_readHand q 1 c h13) fun h14 => self (((i + 1 : Nat) : Int), h14)) = o) → i ≠ 900 → g_X1_readFrom_l8 q 1 c j5 self ((i : Int), hc) = o := by
      intro o ho hi
      rw [← ho hi]
      unfold g_X1_readFrom_l8
      dsimp only
      rw [e_cI, b_neg (by omega)]
      refine cW_cg (fun z12 h13 => ?_)
      by_cases z : z12 = 0
      · rw [b_pos z, b_pos z]
      rw [b_neg z, b_neg z]
      refine cV_cg (fun h14 => ?_)
      rw [e_add _ _ _ (by omega), show (i : Int) + 1 = ((i + 1 : Nat) : Int) by omega]
    by_cases y : i = 900
    · have aa := a
      obtain ⟨p0, a1, a2, a3, a4, a5, -⟩ := a
      have l9 := x.2.2.2.2
      have hq' := (tok_in (b := b) a2).1
      have pe : tk b L p0 = 4 := by unfold tk; rw [if_pos (by omega)]
      refine ⟨hc, ?_, CP.rf, Or.inl ⟨hm, H, mend (by rw [a5, pe]; rfl), nf, hH, pr, MPl.rf⟩⟩
      unfold g_X1_readFrom_l8
      dsimp only
      rw [e_cI, b_pos (by omega)]
    obtain ⟨hc1, w1, w2, w3, w4⟩ := y_has x a nf
    have pr1 : PR q p H hc1 hm N := pr.rows (fun r h1 h2 => w1.1 r (by omega)) ⟨rfl, rfl⟩ rfl
    rcases w4 with ⟨y1, y2, y3⟩ | ⟨y1, y2, y3, y4⟩
    · exact ⟨hc1, cgo _ (fun _ => by rw [y3, e_cW, b_pos rfl]) y, w1.cp, Or.inl ⟨hm, H, mend y1, w3, hH, pr1, MPl.rf⟩⟩
    have x1 := x.c w1
    obtain ⟨hc2, r1, r2, r3, r4⟩ := y_hand hq hc9 hp x1 w2 w3 (sh.cm hc9 hq w1.cp (MPl.rf (p := p))) hN h41 hH pr1
    have bse : g_X1_readFrom_l8 q 1 c j5 self ((i : Int), hc) = self (((i + 1 : Nat) : Int), hc2) := cgo _ (fun _ => by rw [y3, e_cW, b_neg (by decide), r1, e_cV]) y
    have fr : CP q hc hc2 := w1.cp.tr r2
    rw [bse, mgo y1]
    rcases r4 with ⟨hm2, t1, t2, t3, t4, t5, t6⟩ | ⟨hm2, t1, t2, t3⟩
    rotate_left
    · rw [t1]
      exact ⟨hc2, cf _ t2.1 (by omega), fr, Or.inr ⟨hm2, rfl, t2, t3⟩⟩
    · rw [t1]
      obtain ⟨hc5, z1, z2, z3⟩ := ih (i + 1) (H + 1) hc2 hm2 (x.cp (by omega) fr t6) t2 t3 (sh.cm hc9 hq fr t6) (by rw [t6.2.1 10 (by omega), t6.2.1 11 (by omega)]; exact hN) (by rw [t6.2.1 41 (by omega)]; exact h41) (by omega) t5 (by omega) (by omega) (by omega) (by omega) (by omega)
      refine ⟨hc5, z1, fr.tr z2, ?_⟩
      rcases z3 with ⟨hm5, H', o1, o2, o3, o4, o5⟩ | ⟨hm5, o1, o2, o3⟩
      · exact Or.inl ⟨hm5, H', o1, o2, o3, o4, t6.tr o5⟩
      · exact Or.inr ⟨hm5, o1, o2, t6.tr o3⟩
theorem y_readPlan {q c p : Nat} {N : Int} (hq : 15 ≤ q) (hc9 : 3 ≤ c ∧ c ≤ 9) (hp : p < 3) (x : TX b L hc hm) (a : AA b L hc hm) (nf : NF hc hm) (sh : shape c hc hm) (hN : hm 100 10 * hm 100 11 = N) (h41 : hm 100 41 = (p : Int)) :
    ∃ hc', g_X1_readFrom q 1 c hc = some hc' ∧ CP q hc hc' ∧ ((∃ hm' H', g_X9_readPlan hm = some (1, hm') ∧ NF hc' hm' ∧ H' ≤ 4 ∧ PR q p H' hc' hm' N ∧ MPl p hm hm') ∨ ∃ hm', g_X9_readPlan hm = some (0, hm') ∧ FF hc' hm' ∧ MPl p hm hm') := by
  unfold g_X1_readFrom g_X9_readPlan
  rw [e_cI, e_pF, e_cI, e_cI 0 (R := Int × Hp), e_pF]
  have cp0 : CP q hc (set2 hc q 4 0) := ⟨fun r _ hr => set2_ne r (by omega), fun j _ => set2_np _ _ _ _ _ _ (by omega)⟩
  have mp0 : MPl p hm (set2 hm 100 42 0) := ⟨fun r h1 _ _ => set2_ne r h1, fun j hj => set2_nk _ _ _ _ _ _ (by omega), fun j _ => set2_np _ _ _ _ _ _ (by omega), fun j _ => set2_np _ _ _ _ _ _ (by omega)⟩
  have x0 := x.cp (by omega) cp0 mp0
  have a0 : AA b L (set2 hc q 4 0) (set2 hm 100 42 0) := a.out (by omega) (by omega)
  have n0 : NF (set2 hc q 4 0) (set2 hm 100 42 0) := (nf.outC (by omega)).outM (by omega)
  have pr0 : PR q p 0 (set2 hc q 4 0) (set2 hm 100 42 0) N := ⟨⟨set2_same _ _ _ _, set2_same _ _ _ _⟩, fun i hi => absurd hi (by omega)⟩
  have sh0 := sh.cm hc9 hq cp0 mp0
  have hN0 : set2 hm 100 42 0 100 10 * set2 hm 100 42 0 100 11 = N := by rw [mp0.2.1 10 (by omega), mp0.2.1 11 (by omega)]; exact hN
  have h410 : set2 hm 100 42 0 100 41 = (p : Int) := by rw [mp0.2.1 41 (by omega)]; exact h41
  have l9 := x.2.2.2.2
  generalize set2 hc q 4 0 = c0 at *
  generalize set2 hm 100 42 0 = m0 at *
  have at0 : 0 ≤ c0 1 2 := by obtain ⟨p0, a1, -⟩ := a0; omega
  have go := fun j5 j4 => y_hands (b := b) (L := L) (N := N) (j5 := j5) (j4 := j4) hq hc9 hp (L + 1) FU FU 0 0 c0 m0 x0 a0 n0 sh0 hN0 h410 (by omega) pr0 (by omega) (by omega) (fu _ (by omega)) (fu _ (by omega)) (by omega)
  (rw [e_join]; (try dsimp only); rw [e_join]; (try dsimp only))
  obtain ⟨hc1, g1, g2, g3⟩ := go (fun (a4 : Hp) => some a4) (fun (a3 : Hp) => cI 0 fun z6 => retZW z6 a3)
  rw [show ((0 : Nat) : Int) = 0 from rfl] at g1
  rw [g1]
  refine ⟨hc1, rfl, cp0.tr g2, ?_⟩
  rcases g3 with ⟨hm1, H', o1, o2, o3, o4, o5⟩ | ⟨hm1, o1, o2, o3⟩
  · exact Or.inl ⟨hm1, H', o1, o2, o3, o4, mp0.tr o5⟩
  · exact Or.inr ⟨hm1, by rw [o1, e_cI, retZW_0], o2, mp0.tr o3⟩
end HANDS
