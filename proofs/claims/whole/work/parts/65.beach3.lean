/-! READING a beach: clauses, all of them -/
/-- what a clause ends with, whatever comes behind -/
def mB (h : Hp) (J : Int × Hp → Option (Int × Hp)) : Option (Int × Hp) := cP (g_X9_is (strC 22) h) fun z30 => if z30 = 0 then cP (g_X9_is (strC 23) h) fun z41 => if z41 = 0 then cP (g_X9_is (strC 24) h) fun z42 => if z42 = 0 then cP (g_X9_is (strC 25) h) fun z43 => if z43 = 0 then cW (g_X9_readSmall h) fun z44 h45 => J (z44, h45) else cW (g_X9_readFlag h) fun z46 h47 => J (z46, h47) else cW (g_X9_readStone h) fun z48 h49 => J (z48, h49) else cW (g_X9_readHeap h) fun z50 h51 => J (z50, h51) else cW (g_X9_readShape h) fun z52 h53 => J (z52, h53)
theorem cV_cg {R : Type} {o : Option Hp} {K K' : Hp → Option R} (h : ∀ g, K g = K' g) : cV o K = cV o K' := by rw [funext h]
theorem cW_cg {R : Type} {o : Option (Int × Hp)} {K K' : Int → Hp → Option R} (h : ∀ z g, K z g = K' z g) : cW o K = cW o K' := by rw [show K = K' from funext (fun z => funext (fun g => h z g))]
def RB (b : Nat → Int) (L d : Nat) (hc hm : Hp) : Prop :=
  ∃ hc', g_X0_readClause d 1 hc = some hc' ∧ CF d hc hc' ∧ ((∃ hm', (∀ J, mB hm J = J (1, hm')) ∧ AA b L hc' hm' ∧ NF hc' hm' ∧ BB d hc' hm' ∧ MF hm hm' ∧ hc 1 2 ≤ hc' 1 2) ∨ ∃ hm', (∀ J, mB hm J = J (0, hm')) ∧ FF hc' hm' ∧ MF hm hm')
theorem RD.rb {b : Nat → Int} {L d : Nat} {hc hm : Hp} {C : Option Hp} {M : Option (Int × Hp)} (r : RD b L d hc hm C M) (hC : g_X0_readClause d 1 hc = cV C some) (hM : ∀ J, mB hm J = cW M fun z h => J (z, h)) : RB b L d hc hm := by
  obtain ⟨hc', r1, r2, r3⟩ := r
  refine ⟨hc', by rw [hC, r1]; rfl, r2, ?_⟩
  rcases r3 with ⟨hm', t1, t2⟩ | ⟨hm', t1, t2⟩
  · exact Or.inl ⟨hm', fun J => by rw [hM, t1, e_cW], t2⟩
  · exact Or.inr ⟨hm', fun J => by rw [hM, t1, e_cW], t2⟩
def fnP (j : Nat) : Int := if j = 0 then 0 else if j ≤ 7 then (j : Int) + 1 else -1
def woP (j : Nat) : Int := if j = 0 then -1 else if j ≤ 7 then (j : Int) - 1 else -1
theorem strC_ne : ∀ i : Fin 11, ∀ j : Fin 11, i ≠ j → strC i.val ≠ strC j.val := by decide +kernel
theorem strC_len8 : ∀ i : Fin 43, (strC i.val).length ≤ 8 := by decide +kernel
theorem strC_m : strC 22 = strC 0 ∧ strC 23 = strC 8 ∧ strC 24 = strC 9 ∧ strC 25 = strC 10 ∧ strC 26 = strC 1 ∧ strC 27 = strC 2 ∧ strC 28 = strC 3 ∧ strC 29 = strC 4 ∧ strC 30 = strC 5 ∧ strC 31 = strC 6 ∧ strC 32 = strC 7 := by decide +kernel
section BEACH3
variable {b : Nat → Int} {L d : Nat} {hc hm : Hp}
theorem y_words (x : TX b L hc hm) (s : SS b L hc hm) : ∃ j : Nat, j ≤ 11 ∧ ∀ i : Nat, i < 11 → g_X5_isWord 1 (strC i) hc = some (if i = j then 1 else 0) ∧ g_X9_is (strC i) hm = some (if i = j then 1 else 0) := by
  by_cases e : ∃ j : Nat, j < 11 ∧ wd b (strC j) hc
  · obtain ⟨j, hj, w⟩ := e
    refine ⟨j, by omega, fun i hi => ?_⟩
    rcases y_word (w := strC i) x s (strC_len8 ⟨i, by omega⟩) with ⟨a, k, m⟩ | ⟨a, k, m⟩
    · have : i = j := by
        by_cases q : i = j
        · exact q
        · exact absurd (wd_one a w) (strC_ne ⟨i, hi⟩ ⟨j, hj⟩ (fun y => q (congrArg Fin.val y)))
      rw [if_pos this]; exact ⟨k, m⟩
    · have : i ≠ j := fun y => a (by rw [y]; exact w)
      rw [if_neg this]; exact ⟨k, m⟩
  · refine ⟨11, by omega, fun i hi => ?_⟩
    rw [if_neg (by omega)]
    rcases y_word (w := strC i) x s (strC_len8 ⟨i, by omega⟩) with ⟨a, k, m⟩ | ⟨a, k, m⟩
    · exact absurd ⟨i, hi, a⟩ e
    · exact ⟨k, m⟩
theorem y_clause (hd : 3 ≤ d) (x : TX b L hc hm) (s : SS b L hc hm) (n : NF hc hm) (bb : BB d hc hm) : RB b L d hc hm := by
  obtain ⟨j, hj, W⟩ := y_words x s
  have fn : g_X0_firstNumberOf 1 hc = some (fnP j) := by
    unfold g_X0_firstNumberOf
    rw [(W 0 (by omega)).1, (W 1 (by omega)).1, (W 2 (by omega)).1, (W 3 (by omega)).1, (W 4 (by omega)).1, (W 5 (by omega)).1, (W 6 (by omega)).1, (W 7 (by omega)).1]
    rcases (by omega : j = 0 ∨ j = 1 ∨ j = 2 ∨ j = 3 ∨ j = 4 ∨ j = 5 ∨ j = 6 ∨ j = 7 ∨ j = 8 ∨ j = 9 ∨ j = 10 ∨ j = 11) with rfl | rfl | rfl | rfl | rfl | rfl | rfl | rfl | rfl | rfl | rfl | rfl <;> rfl
  obtain ⟨s0, s1, s2, s3, s4, s5, s6, s7, s8, s9, s10⟩ := strC_m
  have wo : g_X9_wordAt hm = some (woP j) := by
    unfold g_X9_wordAt
    rw [s4, s5, s6, s7, s8, s9, s10, (W 1 (by omega)).2, (W 2 (by omega)).2, (W 3 (by omega)).2, (W 4 (by omega)).2, (W 5 (by omega)).2, (W 6 (by omega)).2, (W 7 (by omega)).2]
    rcases (by omega : j = 0 ∨ j = 1 ∨ j = 2 ∨ j = 3 ∨ j = 4 ∨ j = 5 ∨ j = 6 ∨ j = 7 ∨ j = 8 ∨ j = 9 ∨ j = 10 ∨ j = 11) with rfl | rfl | rfl | rfl | rfl | rfl | rfl | rfl | rfl | rfl | rfl | rfl <;> rfl
  have mb : ∀ J, mB hm J = if j = 0 then (cW (g_X9_readShape hm) fun z h => J (z, h)) else if j = 8 then (cW (g_X9_readHeap hm) fun z h => J (z, h)) else if j = 9 then (cW (g_X9_readStone hm) fun z h => J (z, h)) else if j = 10 then (cW (g_X9_readFlag hm) fun z h => J (z, h)) else (cW (g_X9_readSmall hm) fun z h => J (z, h)) := by
    intro J
    unfold mB
    rw [s0, s1, s2, s3, (W 0 (by omega)).2, (W 8 (by omega)).2, (W 9 (by omega)).2, (W 10 (by omega)).2]
    rcases (by omega : j = 0 ∨ j = 1 ∨ j = 2 ∨ j = 3 ∨ j = 4 ∨ j = 5 ∨ j = 6 ∨ j = 7 ∨ j = 8 ∨ j = 9 ∨ j = 10 ∨ j = 11) with rfl | rfl | rfl | rfl | rfl | rfl | rfl | rfl | rfl | rfl | rfl | rfl <;> rfl
  have num : ∀ w : Nat, fnP j = (w : Int) → g_X0_readClause d 1 hc = cV (g_X0_readNumbers d 1 (w : Int) hc) some := by
    intro w hw
    unfold g_X0_readClause
    rw [fn, e_cP, hw, e_cI]
    refine join_gen (fun j4 hj4 => ?_)
    rw [b_neg (by omega)]
    congr 1
    funext g
    exact hj4 g
  have oth : j = 8 ∨ j = 9 ∨ j = 10 ∨ j = 11 → g_X0_readClause d 1 hc = if j = 8 then cV (g_X0_readHeap d 1 hc) some else if j = 9 then cV (g_X0_readStone d 1 hc) some else if j = 10 then cV (g_X0_readFlag d 1 hc) some else cV (g_X5_refuse 1 1 hc) some := by
    intro hj8
    unfold g_X0_readClause
    rw [fn, e_cP, (W 8 (by omega)).1, (W 9 (by omega)).1, (W 10 (by omega)).1, e_cI]
    have e : fnP j = -1 := by unfold fnP; rw [if_neg (by omega), if_neg (by omega)]
    refine join_gen (fun j4 hj4 => ?_)
    have j4e : ∀ C : Option Hp, (cV C fun h => j4 h) = cV C some := fun C => by congr 1; funext g; exact hj4 g
    rw [b_pos e]
    rcases hj8 with rfl | rfl | rfl | rfl
    · exact j4e _
    · exact j4e _
    · exact j4e _
    · exact j4e _
  by_cases j0 : j = 0
  · refine (y_shape hd x s n bb).rb ?_ (fun J => by rw [mb, if_pos j0])
    exact num 0 (by rw [j0]; rfl)
  by_cases j7 : j ≤ 7
  · obtain ⟨w, rfl⟩ : ∃ w, j = w + 1 := ⟨j - 1, by omega⟩
    refine (y_readSmall (w := w) hd (by omega) x s n bb ?_).rb (num (2 + w) ?_) (fun J => ?_)
    · rw [wo]; unfold woP; rw [if_neg (by omega), if_pos j7]; congr 1; omega
    · unfold fnP; rw [if_neg (by omega), if_pos j7]; omega
    · rw [mb, if_neg (by omega), if_neg (by omega), if_neg (by omega), if_neg (by omega)]
  by_cases j8 : j = 8
  · exact (y_heap hd x s n bb).rb (by rw [oth (by omega), if_pos j8]) (fun J => by rw [mb, if_neg j0, if_pos j8])
  by_cases j9 : j = 9
  · exact (y_stone hd x s n bb).rb (by rw [oth (by omega), if_neg j8, if_pos j9]) (fun J => by rw [mb, if_neg j0, if_neg j8, if_pos j9])
  by_cases j10 : j = 10
  · exact (y_flag hd x s n bb).rb (by rw [oth (by omega), if_neg j8, if_neg j9, if_pos j10]) (fun J => by rw [mb, if_neg j0, if_neg j8, if_neg j9, if_pos j10])
  obtain ⟨hc1, u1, ⟨hm2, u2, u3, u4⟩, u5, u6⟩ := y_refuse (f := 1) s n (by decide)
  have rd : RD b L d hc hm (g_X5_refuse 1 1 hc) (g_X9_bad 1 hm) := ⟨hc1, u1, u5.cf, Or.inr ⟨hm2, u2, u3, u4.mf⟩⟩
  refine rd.rb (by rw [oth (by omega), if_neg j8, if_neg j9, if_neg j10]) (fun J => ?_)
  rw [mb, if_neg j0, if_neg j8, if_neg j9, if_neg j10]
  congr 1
  unfold g_X9_readSmall
  rw [wo, show woP j = -1 by unfold woP; rw [if_neg (by omega), if_neg (by omega)], e_cP, e_cI, b_pos rfl, e_cI, u2, e_cW, retZW_0]
theorem k_clause_f {j4 : Hp → Option Hp} {i F : Nat} (h : hc 1 6 ≠ 0) (hi : i ≤ 900) (hF : 0 < F) : loopF (g_X0_readFrom_l8 d 1 j4) F ((i : Int), hc) = j4 hc := by
  obtain ⟨F, rfl⟩ : ∃ z, F = z + 1 := ⟨F - 1, by omega⟩
  show g_X0_readFrom_l8 d 1 j4 (loopF _ F) ((i : Int), hc) = _
  generalize loopF (g_X0_readFrom_l8 d 1 j4) F = self
  unfold g_X0_readFrom_l8
  dsimp only
  rw [e_cI]
  by_cases y : i = 900
  · rw [b_pos (by omega)]
  · rw [b_neg (by omega), k_has_f h, e_cW, b_pos rfl]
theorem BB.count {x : Int} (s : BB d hc hm) : BB d (set2 hc d 6 x) (set2 hm 100 17 x) := by
  obtain ⟨s2, s3, s4, s5, s6, s7, s8, s9⟩ := s
  have e1 : ∀ j, j ≠ 17 → set2 hm 100 17 x 100 j = hm 100 j := fun j hj => set2_nk _ _ _ _ _ _ hj
  have e2 : ∀ j, j ≠ 6 → set2 hc d 6 x d j = hc d j := fun j hj => set2_nk _ _ _ _ _ _ hj
  have e3 : ∀ p, p ≠ d → set2 hc d 6 x p = hc p := fun p hp => set2_ne p hp
  have e4 : ∀ p, p ≠ 100 → set2 hm 100 17 x p = hm p := fun p hp => set2_ne p hp
  have e5 : set2 hm 100 17 x 100 17 = x := set2_same _ _ _ _
  have e6 : set2 hc d 6 x d 6 = x := set2_same _ _ _ _
  generalize set2 hc d 6 x = gc at *
  generalize set2 hm 100 17 x = gm at *
  unfold BB
  rw [e3 (d + 1) (by omega), e3 (d + 2) (by omega), e3 (d + 3) (by omega), e3 (d + 4) (by omega), e4 103 (by omega), e4 105 (by omega), e4 107 (by omega), e4 109 (by omega), e1 14 (by omega), e1 15 (by omega), e1 16 (by omega), e1 18 (by omega), e1 27 (by omega), e2 5 (by omega), e2 7 (by omega), e2 8 (by omega), e5, e6]
  exact ⟨s2, s3, s4, s5, rfl, s7, s8, s9⟩
/-- all clauses -/
theorem y_clauses {j4 : Hp → Option Hp} {j22 : Hp → Option (Int × Hp)} (hd : 3 ≤ d) : ∀ (n F F2 i : Nat) (hc hm : Hp), TX b L hc hm → AA b L hc hm → NF hc hm → BB d hc hm → (i : Int) ≤ hc 1 2 → (L : Int) - hc 1 2 < (n : Int) → n < F → n < F2 → i ≤ 900 →
    ∃ hc', loopF (g_X0_readFrom_l8 d 1 j4) F ((i : Int), hc) = j4 hc' ∧ CF d hc hc' ∧ ((∃ hm', loopF (g_X9_readBeach_l26 j22) F2 hm = some (1, hm') ∧ NF hc' hm' ∧ BB d hc' hm' ∧ MF hm hm') ∨ ∃ hm', loopF (g_X9_readBeach_l26 j22) F2 hm = j22 hm' ∧ FF hc' hm' ∧ MF hm hm')
  | 0, F, F2, i, hc, hm, x, a, nf, bb, h1, h2, h3, h4, h5 => by
    obtain ⟨p, a1, a2, -⟩ := a
    exact absurd h2 (by omega)
  | n + 1, F, F2, i, hc, hm, x, a, nf, bb, h1, h2, h3, h4, h5 => by
    obtain ⟨F, rfl⟩ : ∃ z, F = z + 1 := ⟨F - 1, by omega⟩
    obtain ⟨F2, rfl⟩ : ∃ z, F2 = z + 1 := ⟨F2 - 1, by omega⟩
    have ih := y_clauses (j4 := j4) (j22 := j22) hd n F F2
    have cf := fun g (hg : g 1 6 ≠ 0) (hi : i + 1 ≤ 900) => k_clause_f (d := d) (j4 := j4) (i := i + 1) (F := F) (hc := g) hg hi (by omega)
    show ∃ hc', g_X0_readFrom_l8 d 1 j4 (loopF _ F) ((i : Int), hc) = _ ∧ _ ∧ ((∃ hm', g_X9_readBeach_l26 j22 (loopF _ F2) hm = _ ∧ _) ∨ ∃ hm', g_X9_readBeach_l26 j22 (loopF _ F2) hm = _ ∧ _)
    generalize loopF (g_X0_readFrom_l8 d 1 j4) F = self at ih cf
    generalize loopF (g_X9_readBeach_l26 j22) F2 = self2 at ih
    have mend : hm 100 5 = 0 → g_X9_readBeach_l26 j22 self2 hm = some (1, hm) := by
      intro y
      unfold g_X9_readBeach_l26
      rw [e_gF, b_pos y, e_cI, retZW_1]
    have mgo : hm 100 5 ≠ 0 → g_X9_readBeach_l26 j22 self2 hm = mB hm (fun a31 => if a31.1 = 0 then j22 a31.2 else cW (g_X9_close a31.2) fun z35 h36 => if z35 = 0 then j22 h36 else gF h36 100 17 fun z37 => cI 1 fun z38 => addI z37 z38 fun z39 => pF h36 100 17 z39 fun h40 => self2 h40) := by
      intro y
      unfold g_X9_readBeach_l26
      rw [e_gF, b_neg y]
      rfl
    have cgo : ∀ (o : Option Hp), (i ≠ 900 → (cW (g_X5_hasClause 1 hc) fun z12 h13 => if z12 = 0 then j4 h13 else cV (g_X0_readClause d 1 h13) fun h14 => cV (g_X5_endClause 1 h14) fun h15 => self (((i + 1 : Nat) : Int), set2 h15 d 6 (wr (h15 d 6 + 1)))) = o) → i ≠ 900 → g_X0_readFrom_l8 d 1 j4 self ((i : Int), hc) = o := by
      intro o ho hi
      rw [← ho hi]
      unfold g_X0_readFrom_l8
      dsimp only
      rw [e_cI, b_neg (by omega)]
      refine cW_cg (fun z12 h13 => ?_)
      by_cases z : z12 = 0
      · rw [b_pos z, b_pos z]
      rw [b_neg z, b_neg z]
      refine cV_cg (fun h14 => cV_cg (fun h15 => ?_))
      rw [e_gF, e_cI, e_addw, e_pF, e_add _ _ _ (by omega), show (i : Int) + 1 = ((i + 1 : Nat) : Int) by omega]
    by_cases y : i = 900
    · have aa := a
      obtain ⟨p, a1, a2, a3, a4, a5, -⟩ := a
      have l9 := x.2.2.2.2
      have hq := (tok_in (b := b) a2).1
      have pe : tk b L p = 4 := by unfold tk; rw [if_pos (by omega)]
      refine ⟨hc, ?_, CF.rf, Or.inl ⟨hm, mend (by rw [a5, pe]; rfl), nf, bb, MF.rf⟩⟩
      unfold g_X0_readFrom_l8
      dsimp only
      rw [e_cI, b_pos (by omega)]
    obtain ⟨hc1, w1, w2, w3, w4⟩ := y_has x a nf
    rcases w4 with ⟨y1, y2, y3⟩ | ⟨y1, y2, y3, y4⟩
    · exact ⟨hc1, cgo _ (fun _ => by rw [y3, e_cW, b_pos rfl]) y, w1.cf, Or.inl ⟨hm, mend y1, w3, bb.cm hd w1 TM.rf, MF.rf⟩⟩
    have bb1 := bb.cm hd w1 (TM.rf (h := hm))
    have x1 := x.c w1
    obtain ⟨hc2, r1, r2, r3⟩ := y_clause hd x1 w2 w3 bb1
    rcases r3 with ⟨hm2, t1, t2, t3, t4, t5, t6⟩ | ⟨hm2, t1, t2, t3⟩
    rotate_left
    · refine ⟨set2 hc2 d 6 (wr (hc2 d 6 + 1)), cgo _ (fun _ => ?_) y, (w1.cf.tr r2).tr (CF.set (by omega) hd), Or.inr ⟨hm2, ?_, t2.outC (by omega), t3⟩⟩
      · rw [y3, e_cW, b_neg (by decide), r1, e_cV, k_end_f t2.1, e_cV]
        exact cf _ (by rw [set2_np _ _ _ _ _ _ (by omega)]; exact t2.1) (by omega)
      · rw [mgo y1, t1]
        dsimp only
        rw [b_pos rfl]
    have x2 : TX b L hc2 hm2 := x1.cf hd r2 t5
    obtain ⟨hc3, v1, v2, v3⟩ := y_end x2 t2 t3
    have bse : g_X0_readFrom_l8 d 1 j4 self ((i : Int), hc) = self (((i + 1 : Nat) : Int), set2 hc3 d 6 (wr (hc3 d 6 + 1))) := cgo _ (fun _ => by rw [y3, e_cW, b_neg (by decide), r1, e_cV, v1, e_cV]) y
    have fr : CF d hc (set2 hc3 d 6 (wr (hc3 d 6 + 1))) := ((w1.cf.tr r2).tr v2.cf).tr (CF.set (by omega) hd)
    rw [bse, mgo y1, t1]
    dsimp only
    rw [b_neg (show ¬ (1 : Int) = 0 by decide)]
    rcases v3 with ⟨hm3, q1, q2, q3, q4, q5⟩ | ⟨hm3, q1, q2, q3⟩
    rotate_left
    · rw [q1, e_cW, b_pos rfl]
      exact ⟨_, cf _ (by rw [set2_np _ _ _ _ _ _ (by omega)]; exact q2.1) (by omega), fr, Or.inr ⟨hm3, rfl, q2.outC (by omega), t5.tr q3.mf⟩⟩
    · have b3 : BB d hc3 hm3 := t4.cm hd v2 q4
      have c6 : hc3 d 6 = hm3 100 17 := b3.2.2.2.2.1
      have at3 : set2 hc3 d 6 (wr (hc3 d 6 + 1)) 1 2 = hc3 1 2 := set2_np _ _ _ _ _ _ (by omega)
      have b4 : BB d (set2 hc3 d 6 (wr (hc3 d 6 + 1))) (set2 hm3 100 17 (wr (hc3 d 6 + 1))) := b3.count
      have x4 : TX b L (set2 hc3 d 6 (wr (hc3 d 6 + 1))) (set2 hm3 100 17 (wr (hc3 d 6 + 1))) := ((x2.c v2).m q4).cf hd (CF.set (by omega) hd) (MF.set (by omega))
      have a4 : AA b L (set2 hc3 d 6 (wr (hc3 d 6 + 1))) (set2 hm3 100 17 (wr (hc3 d 6 + 1))) := q2.out (by omega) (by omega)
      have n4 : NF (set2 hc3 d 6 (wr (hc3 d 6 + 1))) (set2 hm3 100 17 (wr (hc3 d 6 + 1))) := (q3.outC (by omega)).outM (by omega)
      obtain ⟨hc5, z1, z2, z3⟩ := ih (i + 1) _ _ x4 a4 n4 b4 (by rw [at3]; omega) (by rw [at3]; omega) (by omega) (by omega) (by omega)
      rw [q1, e_cW, b_neg (by decide), e_gF, e_cI, e_addw, e_pF, ← c6]
      refine ⟨hc5, z1, fr.tr z2, ?_⟩
      rcases z3 with ⟨hm5, o1, o2, o3, o4⟩ | ⟨hm5, o1, o2, o3⟩
      · exact Or.inl ⟨hm5, o1, o2, o3, ((t5.tr q4.mf).tr (MF.set (by omega))).tr o4⟩
      · exact Or.inr ⟨hm5, o1, o2, ((t5.tr q4.mf).tr (MF.set (by omega))).tr o3⟩
/-! before and behind -/
def pw (h : Hp) (q i : Nat) (f : Nat → Int) : Hp := fun p j => if p = q ∧ j < i then f j else h p j
theorem pw_in {h : Hp} {q i j : Nat} {f : Nat → Int} (hj : j < i) : pw h q i f q j = f j := by unfold pw; rw [if_pos ⟨rfl, hj⟩]
theorem pw_ne {h : Hp} {q i p : Nat} {f : Nat → Int} (hp : p ≠ q) : pw h q i f p = h p := by funext j; unfold pw; rw [if_neg (by omega)]
theorem pw_0 {h : Hp} {q : Nat} {f : Nat → Int} : pw h q 0 f = h := by funext p j; unfold pw; rw [if_neg (by omega)]
theorem pw_step {h : Hp} {q i : Nat} {f : Nat → Int} : set2 (pw h q i f) q i (f i) = pw h q (i + 1) f := by
  funext p j
  unfold set2 pw
  by_cases y : p = q ∧ j = i
  · obtain ⟨rfl, rfl⟩ := y
    rw [if_pos ⟨rfl, rfl⟩, if_pos ⟨rfl, by omega⟩]
  · rw [if_neg y]
    by_cases z : p = q ∧ j < i
    · rw [if_pos z, if_pos ⟨z.1, by omega⟩]
    · rw [if_neg z, if_neg (by omega)]
theorem pw_set {h : Hp} {q i p k : Nat} {f : Nat → Int} {x : Int} (hp : p ≠ q) : set2 (pw h q i f) p k x = pw (set2 h p k x) q i f := by
  funext a j
  show (if a = p ∧ j = k then x else if a = q ∧ j < i then f j else h a j) = if a = q ∧ j < i then f j else if a = p ∧ j = k then x else h a j
  by_cases y : a = p ∧ j = k
  · obtain ⟨rfl, rfl⟩ := y
    rw [if_pos ⟨rfl, rfl⟩, if_neg (by omega), if_pos ⟨rfl, rfl⟩]
  · rw [if_neg y, if_neg y]
theorem e_cpT {R : Type} {t : List Int} {h : Hp} {q n1 n : Nat} {K : Hp → Option R} (ht : n ≤ t.length) (hn : n ≤ n1) : cpT t 0 h q n1 0 (n : Int) K = K (pw h q n (fun j => t.getD j 0)) := by
  unfold cpT
  rw [if_pos (by omega)]
  congr 1
  funext p j
  unfold pw
  simp
theorem k_clear (hd : 3 ≤ d) : ∃ hc', g_X0_clear d hc = some hc' ∧ CF d hc hc' ∧ hc' 1 = hc 1 ∧ (∀ j, j < 11 → hc' (d + 1) j = T_X0_UNTOLD.getD j 0) ∧ (∀ c, c < 64 → hc' (d + 2) c = 0 ∧ hc' (d + 3) c = 0) ∧ hc' d 5 = 0 ∧ hc' d 6 = 0 ∧ hc' d 7 = 0 ∧ hc' d 8 = 0 := by
  unfold g_X0_clear
  have e := fun K => e_cpT (R := Hp) (t := T_X0_UNTOLD) (h := hc) (q := d + 1) (n1 := 11) (n := 11) (K := K) (by decide) (by omega)
  rw [e_cI, e_cI, e_cI, show (11 : Int) = ((11 : Nat) : Int) from rfl, e, e_cI, e_fill, e_cV, e_cI, e_fill, e_cV, e_cI, e_pF, e_cI, e_pF, e_cI, e_pF, e_cI, e_pZ _ _ _ _ _ (by omega)]
  have r1 : ∀ p, p ≠ d → set2 (set2 (set2 (set2 (fillR (fillR (pw hc (d + 1) 11 fun j => T_X0_UNTOLD.getD j 0) (d + 2) 64 0) (d + 3) 64 0) d 5 0) d 6 0) d 7 0) d 8 0 p = fillR (fillR (pw hc (d + 1) 11 fun j => T_X0_UNTOLD.getD j 0) (d + 2) 64 0) (d + 3) 64 0 p := fun p hp => by
    rw [set2_ne p hp, set2_ne p hp, set2_ne p hp, set2_ne p hp]
  refine ⟨_, rfl, ⟨fun p hp hq => ?_, fun j hj => ?_⟩, ?_, fun j hj => ?_, fun c hc64 => ⟨?_, ?_⟩, ?_, ?_, ?_, ?_⟩
  · rw [r1 p (by omega), fillR_ne (by omega), fillR_ne (by omega), pw_ne (by omega)]
  · rw [r1 1 (by omega), fillR_ne (by omega), fillR_ne (by omega), pw_ne (by omega)]
  · rw [r1 1 (by omega), fillR_ne (by omega), fillR_ne (by omega), pw_ne (by omega)]
  · rw [r1 _ (by omega), fillR_ne (by omega), fillR_ne (by omega), pw_in hj]
  · rw [r1 _ (by omega), fillR_ne (by omega), fillR_in hc64]
  · rw [r1 _ (by omega), fillR_in hc64]
  · rw [set2_nk _ _ _ _ _ _ (by omega), set2_nk _ _ _ _ _ _ (by omega), set2_nk _ _ _ _ _ _ (by omega), set2_same]
  · rw [set2_nk _ _ _ _ _ _ (by omega), set2_nk _ _ _ _ _ _ (by omega), set2_same]
  · rw [set2_nk _ _ _ _ _ _ (by omega), set2_same]
  · rw [set2_same]
theorem usl : ∀ k : Fin 9, g_X9_usual (k.val : Int) = some (T_X0_UNTOLD.getD (2 + k.val) 0) := by decide +kernel
theorem unt : ∀ k : Fin 9, lbB k.val ≤ T_X0_UNTOLD.getD (2 + k.val) 0 ∧ T_X0_UNTOLD.getD (2 + k.val) 0 ≤ ubB k.val := by decide +kernel
def iM (h : Hp) : Hp := pw (pw (pw (set2 (set2 (set2 (set2 (set2 (set2 h 100 14 5) 100 15 5) 100 16 0) 100 18 0) 100 27 0) 100 17 0) 103 9 (fun k => T_X0_UNTOLD.getD (2 + k) 0)) 105 64 (fun _ => 0)) 109 64 (fun _ => 0)
theorem m_init : g_X9_readBeach hm = joinF (fun (a21 : Hp) => cI 0 fun z24 => retZW z24 a21) fun j22 => loopF (g_X9_readBeach_l26 j22) FU (iM hm) := by
  unfold g_X9_readBeach iM
  rw [e_cI, e_pF, e_cI, e_pF, e_cI, e_pF, e_cI, e_pF, e_cI, e_pZ _ _ _ _ _ (by omega), e_cI, e_pF, e_cI]
  generalize set2 (set2 (set2 (set2 (set2 (set2 hm 100 14 5) 100 15 5) 100 16 0) 100 18 0) 100 27 0) 100 17 0 = g
  refine join_gen (fun j15 hj15 => ?_)
  refine loopF_for' 9 (fun i => ((i : Int), pw g 103 i (fun k => T_X0_UNTOLD.getD (2 + k) 0))) ?_ ?_ ?_ (fu _ (by omega))
  · intro i hi self
    unfold g_X9_readBeach_l65
    dsimp only
    rw [e_cI, b_neg (by omega), usl ⟨i, hi⟩, e_cP, e_wrn _ _ _ _ _ _ (by omega), pw_step, e_add _ _ _ (by omega), show (i : Int) + 1 = ((i + 1 : Nat) : Int) by omega]
  · intro self
    unfold g_X9_readBeach_l65
    dsimp only
    rw [e_cI, b_pos (by omega), hj15, e_cI]
    generalize pw g 103 9 (fun k => T_X0_UNTOLD.getD (2 + k) 0) = g2
    refine join_gen (fun j19 hj19 => ?_)
    refine loopF_for' 64 (fun i => ((i : Int), pw (pw g2 105 i (fun _ => 0)) 109 i (fun _ => 0))) ?_ ?_ ?_ (fu _ (by omega))
    · intro i hi self
      unfold g_X9_readBeach_l55
      dsimp only
      rw [e_cI, b_neg (by omega), e_cI, e_wrn _ _ _ _ _ _ (by omega), pw_set (by omega), e_cI, e_wrZ _ _ _ _ _ _ (by omega) (by omega), e_add _ _ _ (by omega), show (i : Int) + 1 = ((i + 1 : Nat) : Int) by omega]
      congr 1
      refine Prod.ext rfl ?_
      show set2 (pw (set2 (pw g2 105 i (fun _ => 0)) 105 i ((fun _ => (0 : Int)) i)) 109 i (fun _ => 0)) 109 i ((fun _ => (0 : Int)) i) = _
      rw [pw_step, pw_step]
    · intro self
      unfold g_X9_readBeach_l55
      dsimp only
      rw [e_cI, b_pos (by omega), hj19]
    · rw [pw_0, pw_0]
      rfl
  · rw [pw_0]
    rfl
theorem iM_f {h : Hp} : iM h 100 14 = 5 ∧ iM h 100 15 = 5 ∧ iM h 100 16 = 0 ∧ iM h 100 18 = 0 ∧ iM h 100 27 = 0 ∧ iM h 100 17 = 0 ∧ (∀ j, j < 14 ∨ (18 < j ∧ j ≠ 27) → iM h 100 j = h 100 j) ∧ (∀ k, k < 9 → iM h 103 k = T_X0_UNTOLD.getD (2 + k) 0) ∧ (∀ c, c < 64 → iM h 105 c = 0 ∧ iM h 109 c = 0) ∧ ∀ p, p ≠ 100 → p ≠ 103 → p ≠ 105 → p ≠ 109 → iM h p = h p := by
  unfold iM
  refine ⟨?_, ?_, ?_, ?_, ?_, ?_, fun j hj => ?_, fun k hk => ?_, fun c hc => ⟨?_, ?_⟩, fun p h1 h2 h3 h4 => ?_⟩
  · rw [pw_ne (by omega), pw_ne (by omega), pw_ne (by omega)]; rfl
  · rw [pw_ne (by omega), pw_ne (by omega), pw_ne (by omega)]; rfl
  · rw [pw_ne (by omega), pw_ne (by omega), pw_ne (by omega)]; rfl
  · rw [pw_ne (by omega), pw_ne (by omega), pw_ne (by omega)]; rfl
  · rw [pw_ne (by omega), pw_ne (by omega), pw_ne (by omega)]; rfl
  · rw [pw_ne (by omega), pw_ne (by omega), pw_ne (by omega)]; rfl
  · rw [pw_ne (by omega), pw_ne (by omega), pw_ne (by omega), set2_nk _ _ _ _ _ _ (by omega), set2_nk _ _ _ _ _ _ (by omega), set2_nk _ _ _ _ _ _ (by omega), set2_nk _ _ _ _ _ _ (by omega), set2_nk _ _ _ _ _ _ (by omega), set2_nk _ _ _ _ _ _ (by omega)]
  · rw [pw_ne (by omega), pw_ne (by omega), pw_in hk]
  · rw [pw_ne (by omega), pw_in hc]
  · rw [pw_in hc]
  · rw [pw_ne h4, pw_ne h3, pw_ne h2, set2_ne p h1, set2_ne p h1, set2_ne p h1, set2_ne p h1, set2_ne p h1, set2_ne p h1]
theorem iM_mf {h : Hp} : MF h (iM h) := by
  have f := iM_f (h := h)
  exact ⟨fun p h1 h2 h3 _ h5 => f.2.2.2.2.2.2.2.2.2 p h1 h2 h3 h5, fun j hj => f.2.2.2.2.2.2.1 j (by omega)⟩
theorem k_strengthAny {w b t l : Int} : ∃ z, g_X8_strengthOf w b t l = some z ∧ ((w = 0 ∨ w = 16) → z = 0) := by
  unfold g_X8_strengthOf
  rw [e_join]
  by_cases y : w ≤ 0
  · rw [b_pos y]; exact ⟨0, rfl, fun _ => rfl⟩
  rw [b_neg y, e_cI]
  by_cases z : w < 16
  · rw [b_pos z]
    exact ⟨_, rfl, fun q => absurd q (by omega)⟩
  · rw [b_neg z]; exact ⟨0, rfl, fun _ => rfl⟩
theorem k_weigh (hd : 3 ≤ d) : ∃ hc', g_X0_weigh d hc = some hc' ∧ (∀ p, p ≠ d + 5 → hc' p = hc p) ∧ ∀ w : Nat, w ≤ 16 → g_X8_strengthOf (w : Int) (hc (d + 1) 8) (hc (d + 1) 9) (hc (d + 1) 10) = some (hc' (d + 5) w) := by
  obtain ⟨f, hf⟩ : ∃ f : Nat → Int, ∀ w : Nat, g_X8_strengthOf (w : Int) (hc (d + 1) 8) (hc (d + 1) 9) (hc (d + 1) 10) = some (f w) := ⟨fun w => Classical.choose (k_strengthAny (w := (w : Int)) (b := hc (d + 1) 8) (t := hc (d + 1) 9) (l := hc (d + 1) 10)), fun w => (Classical.choose_spec (k_strengthAny (w := (w : Int)) (b := hc (d + 1) 8) (t := hc (d + 1) 9) (l := hc (d + 1) 10))).1⟩
  have k8 : ∀ (g : Hp) (K : Int → Option Hp), rdI g (d + 1) 11 8 K = K (g (d + 1) 8) := fun g K => e_rd _ _ _ _ _ (by omega)
  have k9 : ∀ (g : Hp) (K : Int → Option Hp), rdI g (d + 1) 11 9 K = K (g (d + 1) 9) := fun g K => e_rd _ _ _ _ _ (by omega)
  have k10 : ∀ (g : Hp) (K : Int → Option Hp), rdI g (d + 1) 11 10 K = K (g (d + 1) 10) := fun g K => e_rd _ _ _ _ _ (by omega)
  refine ⟨pw hc (d + 5) 17 f, ?_, fun p hp => pw_ne hp, fun w hw => by rw [pw_in (by omega)]; exact hf w⟩
  unfold g_X0_weigh
  rw [e_cI]
  refine loopF_for' 17 (fun i => ((i : Int), pw hc (d + 5) i f)) ?_ ?_ ?_ (fu _ (by omega))
  · intro i hi self
    unfold g_X0_weigh_l3
    dsimp only
    rw [e_cI, b_neg (by omega), e_cI, k8, e_cI, k9, e_cI, k10, pw_ne (by omega), hf i, e_cP, e_wrn _ _ _ _ _ _ (by omega), pw_step, e_add _ _ _ (by omega), show (i : Int) + 1 = ((i + 1 : Nat) : Int) by omega]
  · intro self
    unfold g_X0_weigh_l3
    dsimp only
    rw [e_cI, b_pos (by omega)]
  · rw [pw_0]
    rfl
theorem y_readBeach (hd : 3 ≤ d) (x : TX b L hc hm) (a : AA b L hc hm) (n : NF hc hm) : ∃ hc', g_X0_readFrom d 1 hc = some hc' ∧ CF d hc hc' ∧
    ((∃ hm', g_X9_readBeach hm = some (1, hm') ∧ NF hc' hm' ∧ BB d hc' hm' ∧ MF hm hm' ∧ ∀ w : Nat, w ≤ 16 → g_X8_strengthOf (w : Int) (hm' 103 6) (hm' 103 7) (hm' 103 8) = some (hc' (d + 5) w)) ∨ ∃ hm', g_X9_readBeach hm = some (0, hm') ∧ FF hc' hm' ∧ MF hm hm') := by
  obtain ⟨hc0, c1, c2, c3, c4, c5, c6, c7, c8, c9⟩ := k_clear (d := d) (hc := hc) hd
  obtain ⟨i1, i2, i3, i4, i5, i6, i7, i8, i9, i10⟩ := iM_f (h := hm)
  have bb0 : BB d hc0 (iM hm) := by
    unfold BB
    rw [i1, i2, i3, i4, i5, i6, c6, c7, c8, c9, c4 0 (by omega), c4 1 (by omega)]
    refine ⟨⟨⟨rfl, rfl⟩, by omega, by omega⟩, fun k hk => ?_, fun c hc64 => ?_, ⟨⟨rfl, by omega, by omega⟩, fun k hk => absurd hk (by omega)⟩, rfl, ⟨by omega, rfl⟩, ⟨rfl, Or.inl rfl⟩, fun _ => rfl⟩
    · rw [c4 (2 + k) (by omega), i8 k hk]; exact ⟨rfl, unt ⟨k, hk⟩⟩
    · rw [(c5 c hc64).1, (c5 c hc64).2, (i9 c hc64).1, (i9 c hc64).2]; exact ⟨⟨rfl, by omega, by omega⟩, rfl, Or.inl rfl⟩
  have x0 : TX b L hc0 (iM hm) := x.cf hd c2 iM_mf
  have a0 : AA b L hc0 (iM hm) := a.mv (by rw [c3]) ⟨i7 3 (by omega), i7 4 (by omega), i7 5 (by omega), i7 6 (by omega)⟩
  have n0 : NF hc0 (iM hm) := by
    unfold NF at n ⊢
    rw [c3, i7 8 (by omega), i7 9 (by omega)]
    exact n
  have l9 := x.2.2.2.2
  have at0 : 0 ≤ hc0 1 2 := by obtain ⟨p, a1, -⟩ := a0; omega
  unfold g_X0_readFrom
  rw [m_init, c1, e_cV, e_cI]
  have go := fun j4 j22 => y_clauses (b := b) (L := L) (j4 := j4) (j22 := j22) hd (L + 1) FU FU 0 hc0 (iM hm) x0 a0 n0 bb0 (by omega) (by omega) (fu _ (by omega)) (fu _ (by omega)) (by omega)
  (rw [e_join]; (try dsimp only); rw [e_join]; (try dsimp only))
  obtain ⟨hc1, g1, g2, g3⟩ := go (fun (a3 : Hp) => cV (g_X0_weigh d a3) fun h6 => some h6) (fun (a21 : Hp) => cI 0 fun z24 => retZW z24 a21)
  obtain ⟨hc2, w1, w2, w3⟩ := k_weigh (d := d) (hc := hc1) hd
  have f2 : CF d hc1 hc2 := ⟨fun p _ hq => w2 p (by omega), fun j _ => by rw [w2 1 (by omega)]⟩
  rw [show ((0 : Nat) : Int) = 0 from rfl] at g1
  rw [g1, w1, e_cV]
  refine ⟨hc2, rfl, (c2.tr g2).tr f2, ?_⟩
  rcases g3 with ⟨hm1, o1, o2, o3, o4⟩ | ⟨hm1, o1, o2, o3⟩
  · left
    have b8 := (o3.2.1 6 (by omega)).1
    have b9 := (o3.2.1 7 (by omega)).1
    have b10 := (o3.2.1 8 (by omega)).1
    refine ⟨hm1, o1, ?_, (by
      unfold BB at o3 ⊢
      rw [w2 d (by omega), w2 (d + 1) (by omega), w2 (d + 2) (by omega), w2 (d + 3) (by omega), w2 (d + 4) (by omega)]
      exact o3), iM_mf.tr o4, fun w hw => ?_⟩
    · unfold NF at o2 ⊢
      rw [w2 1 (by omega)]
      exact o2
    · rw [← b8, ← b9, ← b10]
      exact w3 w hw
  · right
    refine ⟨hm1, by rw [o1, e_cI, retZW_0], ?_, iM_mf.tr o3⟩
    unfold FF at o2 ⊢
    rw [w2 1 (by omega)]
    exact o2
end BEACH3
