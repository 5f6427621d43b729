/-! READING a sea: all clauses, and the call -/
def SR (b : Nat → Int) (L v : Nat) (hc hm : Hp) : Prop :=
  ∃ hc', g_X2_readClause v 1 hc = some hc' ∧ CS v hc hc' ∧ ((∃ hm', (∀ K0 K1, mS hm K0 K1 = K1 hm') ∧ AA b L hc' hm' ∧ NF hc' hm' ∧ (EQ v hc' hm' ∧ SBd hm') ∧ MS hm hm' ∧ hc 1 2 ≤ hc' 1 2) ∨ ∃ hm', (∀ K0 K1, mS hm K0 K1 = K0 hm') ∧ FF hc' hm' ∧ MS hm hm')
theorem SD.sr {b : Nat → Int} {L v : Nat} {hc hm : Hp} {C : Option Hp} {M : Option (Int × Hp)} (r : SD b L v hc hm C M) (hC : g_X2_readClause v 1 hc = cV C some) (hM : ∀ K0 K1, mS hm K0 K1 = cW M fun z h => if z = 0 then K0 h else K1 h) : SR b L v hc hm := by
  obtain ⟨hc', r1, r2, r3⟩ := r
  refine ⟨hc', by rw [hC, r1]; rfl, r2, ?_⟩
  rcases r3 with ⟨hm', t1, t2⟩ | ⟨hm', t1, t2⟩
  · exact Or.inl ⟨hm', fun K0 K1 => by rw [hM, t1, e_cW, b_neg (by decide)], t2⟩
  · exact Or.inr ⟨hm', fun K0 K1 => by rw [hM, t1, e_cW, b_pos rfl], t2⟩
section SEA3
variable {b : Nat → Int} {L v : Nat} {hc hm : Hp}
theorem y_words2 (x : TX b L hc hm) (s : SS b L hc hm) : ∃ j : Nat, j ≤ 5 ∧ ∀ i : Nat, i < 5 → g_X5_isWord 1 (strC (11 + i)) hc = some (if i = j then 1 else 0) ∧ g_X9_is (strC (11 + i)) hm = some (if i = j then 1 else 0) := by
  by_cases e : ∃ j : Nat, j < 5 ∧ wd b (strC (11 + j)) hc
  · obtain ⟨j, hj, w⟩ := e
    refine ⟨j, by omega, fun i hi => ?_⟩
    rcases y_word (w := strC (11 + i)) x s (strC_len8 ⟨11 + i, by omega⟩) with ⟨a, k, m⟩ | ⟨a, k, m⟩
    · have : i = j := by
        by_cases q : i = j
        · exact q
        · exact absurd (wd_one a w) (strC_ne2 ⟨i, hi⟩ ⟨j, hj⟩ (fun y => q (congrArg Fin.val y)))
      rw [if_pos this]; exact ⟨k, m⟩
    · have : i ≠ j := fun y => a (by rw [y]; exact w)
      rw [if_neg this]; exact ⟨k, m⟩
  · refine ⟨5, by omega, fun i hi => ?_⟩
    rw [if_neg (by omega)]
    rcases y_word (w := strC (11 + i)) x s (strC_len8 ⟨11 + i, by omega⟩) with ⟨a, k, m⟩ | ⟨a, k, m⟩
    · exact absurd ⟨i, hi, a⟩ e
    · exact ⟨k, m⟩
theorem y_sclause (hv : 15 ≤ v) (x : TX b L hc hm) (s : SS b L hc hm) (n : NF hc hm) (eq : EQ v hc hm) (sb : SBd hm) : SR b L v hc hm := by
  obtain ⟨j, hj, W⟩ := y_words2 x s
  obtain ⟨s0, s1, s2, s3, s4⟩ := strC_m2
  have W0 := W 0 (by omega)
  have W1 := W 1 (by omega)
  have W2 := W 2 (by omega)
  have W3 := W 3 (by omega)
  have W4 := W 4 (by omega)
  rw [show 11 + 0 = 11 from rfl] at W0
  rw [show 11 + 1 = 12 from rfl] at W1
  rw [show 11 + 2 = 13 from rfl] at W2
  rw [show 11 + 3 = 14 from rfl] at W3
  rw [show 11 + 4 = 15 from rfl] at W4
  have wo : g_X9_readSeaWord hm = mN (swP j) hm := by
    unfold g_X9_readSeaWord
    rw [s1, s2, s3, s4, W1.2, W2.2, W3.2, W4.2]
    rcases (by omega : j = 0 ∨ j = 1 ∨ j = 2 ∨ j = 3 ∨ j = 4 ∨ j = 5) with rfl | rfl | rfl | rfl | rfl | rfl <;> rfl
  have ms : ∀ K0 K1, mS hm K0 K1 = if j = 0 then (cW (g_X9_readWave hm) fun z h => if z = 0 then K0 h else K1 h) else (cW (mN (swP j) hm) fun z h => if z = 0 then K0 h else K1 h) := by
    intro K0 K1
    unfold mS
    rw [s0, W0.2, e_cP, wo]
    by_cases y : j = 0
    · rw [if_pos y, if_pos (show 0 = j by omega), b_neg (by decide)]
    · rw [if_neg y, if_neg (show ¬ 0 = j by omega), b_pos rfl]
  have cl : g_X2_readClause v 1 hc = if j = 0 then cV (g_X2_readWave v 1 hc) some else if j = 5 then cV (g_X5_refuse 1 1 hc) some else cV (g_X2_readNumbers v 1 ((fsP (j - 1) : Nat) : Int) ((cnS (j - 1) : Nat) : Int) hc) some := by
    unfold g_X2_readClause
    rw [W0.1, W1.1, W2.1, W3.1, W4.1, e_cP]
    refine join_gen (fun j3 hj3 => ?_)
    have j3e : ∀ C : Option Hp, (cV C fun h => j3 h) = cV C some := fun C => cV_cg (fun g => hj3 g)
    rcases (by omega : j = 0 ∨ j = 1 ∨ j = 2 ∨ j = 3 ∨ j = 4 ∨ j = 5) with rfl | rfl | rfl | rfl | rfl | rfl
    · exact j3e _
    · exact j3e _
    · exact j3e _
    · exact j3e _
    · exact j3e _
    · exact j3e _
  by_cases j0 : j = 0
  · exact (y_wave hv x s n eq sb).sr (by rw [cl, if_pos j0]) (fun K0 K1 => by rw [ms, if_pos j0])
  by_cases j5 : j = 5
  · obtain ⟨hc1, u1, ⟨hm2, u2, u3, u4⟩, u5, u6⟩ := y_refuse (f := 1) s n (by decide)
    have rd : SD b L v hc hm (g_X5_refuse 1 1 hc) (g_X9_bad 1 hm) := ⟨hc1, u1, u5.cs, Or.inr ⟨hm2, u2, u3, u4.ms⟩⟩
    refine rd.sr (by rw [cl, if_neg j0, if_pos j5]) (fun K0 K1 => ?_)
    rw [ms, if_neg j0, j5]
    unfold mN
    rw [show swP 5 = -1 from rfl, e_cI, b_pos rfl, e_cI, u2, e_cW, retZW_0]
  · obtain ⟨w, rfl⟩ : ∃ w, j = w + 1 := ⟨j - 1, by omega⟩
    have sw : swP (w + 1) = (w : Int) := by
      rcases (by omega : w = 0 ∨ w = 1 ∨ w = 2 ∨ w = 3) with rfl | rfl | rfl | rfl <;> rfl
    refine (y_seaword (w := w) hv (by omega) x s n eq sb).sr (by rw [cl, if_neg j0, if_neg j5, show w + 1 - 1 = w from rfl]) (fun K0 K1 => ?_)
    rw [ms, if_neg j0, sw]
theorem k_sclause_f {j4 : Hp → Option Hp} {i F : Nat} (h : hc 1 6 ≠ 0) (hi : i ≤ 900) (hF : 0 < F) : loopF (g_X2_readFrom_l7 v 1 j4) F ((i : Int), hc) = j4 hc := by
  obtain ⟨F, rfl⟩ : ∃ z, F = z + 1 := ⟨F - 1, by omega⟩
  show g_X2_readFrom_l7 v 1 j4 (loopF _ F) ((i : Int), hc) = _
  generalize loopF (g_X2_readFrom_l7 v 1 j4) F = self
  unfold g_X2_readFrom_l7
  dsimp only
  rw [e_cI]
  by_cases y : i = 900
  · rw [b_pos (by omega)]
  · rw [b_neg (by omega), k_has_f h, e_cW, b_pos rfl]
/-- all clauses -/
theorem y_sclauses {j4 : Hp → Option Hp} {j26 : Hp → Option (Int × Hp)} (hv : 15 ≤ v) : ∀ (n F F2 i : Nat) (hc hm : Hp), TX b L hc hm → AA b L hc hm → NF hc hm → EQ v hc hm → SBd hm → (i : Int) ≤ hc 1 2 → (L : Int) - hc 1 2 < (n : Int) → n < F → n < F2 → i ≤ 900 →
    ∃ hc', loopF (g_X2_readFrom_l7 v 1 j4) F ((i : Int), hc) = j4 hc' ∧ CS v hc hc' ∧ ((∃ hm', loopF (g_X9_readSea_l30 j26) F2 hm = some (1, hm') ∧ NF hc' hm' ∧ (EQ v hc' hm' ∧ SBd hm') ∧ MS hm hm') ∨ ∃ hm', loopF (g_X9_readSea_l30 j26) F2 hm = j26 hm' ∧ FF hc' hm' ∧ MS hm hm')
  | 0, F, F2, i, hc, hm, x, a, nf, eq, sb, h1, h2, h3, h4, h5 => by
    obtain ⟨p, a1, a2, -⟩ := a
    exact absurd h2 (by omega)
  | n + 1, F, F2, i, hc, hm, x, a, nf, eq, sb, h1, h2, h3, h4, h5 => by
    obtain ⟨F, rfl⟩ : ∃ z, F = z + 1 := ⟨F - 1, by omega⟩
    obtain ⟨F2, rfl⟩ : ∃ z, F2 = z + 1 := ⟨F2 - 1, by omega⟩
    have ih := y_sclauses (j4 := j4) (j26 := j26) hv n F F2
    have cf := fun g (hg : g 1 6 ≠ 0) (hi : i + 1 ≤ 900) => k_sclause_f (v := v) (j4 := j4) (i := i + 1) (F := F) (hc := g) hg hi (by omega)
    show ∃ hc', g_X2_readFrom_l7 v 1 j4 (loopF _ F) ((i : Int), hc) = _ ∧ _ ∧ ((∃ hm', g_X9_readSea_l30 j26 (loopF _ F2) hm = _ ∧ _) ∨ ∃ hm', g_X9_readSea_l30 j26 (loopF _ F2) hm = _ ∧ _)
    generalize loopF (g_X2_readFrom_l7 v 1 j4) F = self at ih cf
    generalize loopF (g_X9_readSea_l30 j26) F2 = self2 at ih
    have mend : hm 100 5 = 0 → g_X9_readSea_l30 j26 self2 hm = some (1, hm) := by
      intro y
      unfold g_X9_readSea_l30
      rw [e_gF, b_pos y, e_cI, retZW_1]
    have mgo : hm 100 5 ≠ 0 → g_X9_readSea_l30 j26 self2 hm = mS hm j26 (fun a35 => cW (g_X9_close a35) fun z35 h36 => if z35 = 0 then j26 h36 else gF h36 100 17 fun z37 => cI 1 fun z38 => addI z37 z38 fun z39 => pF h36 100 17 z39 fun h40 => self2 h40) := by
      intro y
      unfold g_X9_readSea_l30
      rw [e_gF, b_neg y]
      rfl
    have cgo : ∀ (o : Option Hp), (i ≠ 900 → (cW (g_X5_hasClause 1 hc) fun z12 h13 => if z12 = 0 then j4 h13 else cV (g_X2_readClause v 1 h13) fun h14 => cV (g_X5_endClause 1 h14) fun h15 => self (((i + 1 : Nat) : Int), set2 h15 v 5 (wr (h15 v 5 + 1)))) = o) → i ≠ 900 → g_X2_readFrom_l7 v 1 j4 self ((i : Int), hc) = o := by
      intro o ho hi
      rw [← ho hi]
      unfold g_X2_readFrom_l7
      dsimp only
      rw [e_cI, b_neg (by omega)]
      refine cW_cg (fun z12 h13 => ?_)
      by_cases z : z12 = 0
      · rw [b_pos z, b_pos z]
      rw [b_neg z, b_neg z]
      refine cV_cg (fun h14 => cV_cg (fun h15 => ?_))
      rw [e_gF, e_cI, e_addw, e_pF, e_add _ _ _ (by omega), show (i : Int) + 1 = ((i + 1 : Nat) : Int) by omega]
    by_cases y : i = 900
    · have aa := a
      obtain ⟨p, a1, a2, a3, a4, a5, -⟩ := a
      have l9 := x.2.2.2.2
      have hq := (tok_in (b := b) a2).1
      have pe : tk b L p = 4 := by unfold tk; rw [if_pos (by omega)]
      refine ⟨hc, ?_, CS.rf, Or.inl ⟨hm, mend (by rw [a5, pe]; rfl), nf, ⟨eq, sb⟩, MS.rf⟩⟩
      unfold g_X2_readFrom_l7
      dsimp only
      rw [e_cI, b_pos (by omega)]
    obtain ⟨hc1, w1, w2, w3, w4⟩ := y_has x a nf
    rcases w4 with ⟨y1, y2, y3⟩ | ⟨y1, y2, y3, y4⟩
    · exact ⟨hc1, cgo _ (fun _ => by rw [y3, e_cW, b_pos rfl]) y, w1.cs, Or.inl ⟨hm, mend y1, w3, ⟨eq.cm hv w1 TM.rf, sb⟩, MS.rf⟩⟩
    have eq1 := eq.cm hv w1 (TM.rf (h := hm))
    have x1 := x.c w1
    obtain ⟨hc2, r1, r2, r3⟩ := y_sclause hv x1 w2 w3 eq1 sb
    rcases r3 with ⟨hm2, t1, t2, t3, ⟨t4, t4b⟩, t5, t6⟩ | ⟨hm2, t1, t2, t3⟩
    rotate_left
    · refine ⟨set2 hc2 v 5 (wr (hc2 v 5 + 1)), cgo _ (fun _ => ?_) y, (w1.cs.tr r2).tr (CS.set (by omega) hv), Or.inr ⟨hm2, ?_, t2.outC (by omega), t3⟩⟩
      · rw [y3, e_cW, b_neg (by decide), r1, e_cV, k_end_f t2.1, e_cV]
        exact cf _ (by rw [set2_np _ _ _ _ _ _ (by omega)]; exact t2.1) (by omega)
      · rw [mgo y1, t1]
    have x2 : TX b L hc2 hm2 := x1.cs hv r2 t5
    obtain ⟨hc3, v1, v2, v3⟩ := y_end x2 t2 t3
    have bse : g_X2_readFrom_l7 v 1 j4 self ((i : Int), hc) = self (((i + 1 : Nat) : Int), set2 hc3 v 5 (wr (hc3 v 5 + 1))) := cgo _ (fun _ => by rw [y3, e_cW, b_neg (by decide), r1, e_cV, v1, e_cV]) y
    have fr : CS v hc (set2 hc3 v 5 (wr (hc3 v 5 + 1))) := ((w1.cs.tr r2).tr v2.cs).tr (CS.set (by omega) hv)
    rw [bse, mgo y1, t1]
    rcases v3 with ⟨hm3, q1, q2, q3, q4, q5⟩ | ⟨hm3, q1, q2, q3⟩
    rotate_left
    · rw [q1, e_cW, b_pos rfl]
      exact ⟨_, cf _ (by rw [set2_np _ _ _ _ _ _ (by omega)]; exact q2.1) (by omega), fr, Or.inr ⟨hm3, rfl, q2.outC (by omega), t5.tr q3.ms⟩⟩
    · have b3 : EQ v hc3 hm3 := t4.cm hv v2 q4
      have d3 : SBd hm3 := t4b.m q4
      have c6 : hc3 v 5 = hm3 100 17 := b3.2.2.1
      have at3 : set2 hc3 v 5 (wr (hc3 v 5 + 1)) 1 2 = hc3 1 2 := set2_np _ _ _ _ _ _ (by omega)
      have b4 : EQ v (set2 hc3 v 5 (wr (hc3 v 5 + 1))) (set2 hm3 100 17 (wr (hc3 v 5 + 1))) := b3.count
      have d4 : SBd (set2 hm3 100 17 (wr (hc3 v 5 + 1))) := d3.j (Or.inl rfl)
      have x4 : TX b L (set2 hc3 v 5 (wr (hc3 v 5 + 1))) (set2 hm3 100 17 (wr (hc3 v 5 + 1))) := ((x2.c v2).m q4).cs hv (CS.set (by omega) hv) (MS.set (by omega))
      have a4 : AA b L (set2 hc3 v 5 (wr (hc3 v 5 + 1))) (set2 hm3 100 17 (wr (hc3 v 5 + 1))) := q2.out (by omega) (by omega)
      have n4 : NF (set2 hc3 v 5 (wr (hc3 v 5 + 1))) (set2 hm3 100 17 (wr (hc3 v 5 + 1))) := (q3.outC (by omega)).outM (by omega)
      obtain ⟨hc5, z1, z2, z3⟩ := ih (i + 1) _ _ x4 a4 n4 b4 d4 (by rw [at3]; omega) (by rw [at3]; omega) (by omega) (by omega) (by omega)
      rw [q1, e_cW, b_neg (by decide), e_gF, e_cI, e_addw, e_pF, ← c6]
      refine ⟨hc5, z1, fr.tr z2, ?_⟩
      rcases z3 with ⟨hm5, o1, o2, o3, o4⟩ | ⟨hm5, o1, o2, o3⟩
      · exact Or.inl ⟨hm5, o1, o2, o3, ((t5.tr q4.ms).tr (MS.set (by omega))).tr o4⟩
      · exact Or.inr ⟨hm5, o1, o2, ((t5.tr q4.ms).tr (MS.set (by omega))).tr o3⟩
def clS (v : Nat) (h : Hp) : Hp := set2 (set2 (set2 (pw h (v + 1) 9 (fun j => T_X2_UNTOLD.getD j 0)) v 4 0) v 5 0) v 6 0
theorem k_sclear : g_X2_clear v hc = some (clS v hc) := by
  unfold g_X2_clear
  have e := fun K => e_cpT (R := Hp) (t := T_X2_UNTOLD) (h := hc) (q := v + 1) (n1 := 9) (n := 9) (K := K) (by decide) (by omega)
  rw [e_cI, e_cI, e_cI, show (9 : Int) = ((9 : Nat) : Int) from rfl, e, e_cI, e_pF, e_cI, e_pF, e_cI, e_pF]
  rfl
def iS (h : Hp) : Hp := set2 (set2 (set2 (set2 (set2 (pw (set2 (set2 (set2 h 100 30 0) 100 18 0) 100 17 0) 113 4 (fun _ => -1)) 116 0 1) 116 1 3) 117 0 4) 117 1 8) 100 40 1
theorem m_sinit : g_X9_readSea hm = joinF (fun (a25 : Hp) => cI 0 fun z28 => retZW z28 a25) fun j26 => loopF (g_X9_readSea_l30 j26) FU (iS hm) := by
  unfold g_X9_readSea iS
  rw [e_cI, e_pF, e_cI, e_pF, e_cI, e_pF, e_cI]
  generalize set2 (set2 (set2 hm 100 30 0) 100 18 0) 100 17 0 = g
  refine join_gen (fun j9 hj9 => ?_)
  refine loopF_for' 4 (fun i => ((i : Int), pw g 113 i (fun _ => -1))) ?_ ?_ (by rw [pw_0]; rfl) (fu _ (by omega))
  · intro i hi self
    unfold g_X9_readSea_l49
    dsimp only
    rw [e_cI, b_neg (by omega), e_cI, e_wrn _ _ _ _ _ _ (by omega), pw_step0, e_add _ _ _ (by omega), show (i : Int) + 1 = ((i + 1 : Nat) : Int) by omega]
  · intro self
    unfold g_X9_readSea_l49
    dsimp only
    rw [e_cI, b_pos (by omega), hj9, e_cI, e_cI, e_wr _ _ _ _ _ _ (by omega), e_cI, e_cI, e_wr _ _ _ _ _ _ (by omega), e_cI, e_cI, e_wr _ _ _ _ _ _ (by omega), e_cI, e_cI, e_wr _ _ _ _ _ _ (by omega), e_cI, e_pF]
    rfl
theorem iS_f {h : Hp} : (iS h 100 30 = 0 ∧ iS h 100 18 = 0 ∧ iS h 100 17 = 0 ∧ iS h 100 40 = 1) ∧ (∀ k, k < 4 → iS h 113 k = -1) ∧ (iS h 116 0 = 1 ∧ iS h 116 1 = 3 ∧ iS h 117 0 = 4 ∧ iS h 117 1 = 8) ∧ (∀ j, j ≠ 30 → j ≠ 18 → j ≠ 17 → j ≠ 40 → iS h 100 j = h 100 j) ∧ ∀ p, p ≠ 100 → p ≠ 113 → p ≠ 116 → p ≠ 117 → iS h p = h p := by
  unfold iS
  refine ⟨⟨?_, ?_, ?_, ?_⟩, fun k hk => ?_, ⟨?_, ?_, ?_, ?_⟩, fun j a1 a2 a3 a4 => ?_, fun p a1 a2 a3 a4 => ?_⟩
  · rw [set2_nk _ _ _ _ _ _ (by omega), set2_np _ _ _ _ _ _ (by omega), set2_np _ _ _ _ _ _ (by omega), set2_np _ _ _ _ _ _ (by omega), set2_np _ _ _ _ _ _ (by omega), pw_ne (by omega)]; rfl
  · rw [set2_nk _ _ _ _ _ _ (by omega), set2_np _ _ _ _ _ _ (by omega), set2_np _ _ _ _ _ _ (by omega), set2_np _ _ _ _ _ _ (by omega), set2_np _ _ _ _ _ _ (by omega), pw_ne (by omega)]; rfl
  · rw [set2_nk _ _ _ _ _ _ (by omega), set2_np _ _ _ _ _ _ (by omega), set2_np _ _ _ _ _ _ (by omega), set2_np _ _ _ _ _ _ (by omega), set2_np _ _ _ _ _ _ (by omega), pw_ne (by omega)]; rfl
  · rw [set2_same]
  · rw [set2_np _ _ _ _ _ _ (by omega), set2_np _ _ _ _ _ _ (by omega), set2_np _ _ _ _ _ _ (by omega), set2_np _ _ _ _ _ _ (by omega), set2_np _ _ _ _ _ _ (by omega), pw_in hk]
  · rw [set2_np _ _ _ _ _ _ (by omega), set2_np _ _ _ _ _ _ (by omega), set2_np _ _ _ _ _ _ (by omega), set2_nk _ _ _ _ _ _ (by omega), set2_same]
  · rw [set2_np _ _ _ _ _ _ (by omega), set2_np _ _ _ _ _ _ (by omega), set2_np _ _ _ _ _ _ (by omega), set2_same]
  · rw [set2_np _ _ _ _ _ _ (by omega), set2_nk _ _ _ _ _ _ (by omega), set2_same]
  · rw [set2_np _ _ _ _ _ _ (by omega), set2_same]
  · rw [set2_nk _ _ _ _ _ _ a4, set2_np _ _ _ _ _ _ (by omega), set2_np _ _ _ _ _ _ (by omega), set2_np _ _ _ _ _ _ (by omega), set2_np _ _ _ _ _ _ (by omega), pw_ne (by omega), set2_nk _ _ _ _ _ _ a3, set2_nk _ _ _ _ _ _ a2, set2_nk _ _ _ _ _ _ a1]
  · rw [set2_ne p a1, set2_ne p a4, set2_ne p a4, set2_ne p a3, set2_ne p a3, pw_ne a2, set2_ne p a1, set2_ne p a1, set2_ne p a1]
theorem clS_f {h : Hp} : clS v h v 4 = 0 ∧ clS v h v 5 = 0 ∧ clS v h v 6 = 0 ∧ (∀ j, j < 9 → clS v h (v + 1) j = T_X2_UNTOLD.getD j 0) ∧ ∀ p, p ≠ v → p ≠ v + 1 → clS v h p = h p := by
  unfold clS
  refine ⟨?_, ?_, ?_, fun j hj => ?_, fun p a1 a2 => ?_⟩
  · rw [set2_nk _ _ _ _ _ _ (by omega), set2_nk _ _ _ _ _ _ (by omega), set2_same]
  · rw [set2_nk _ _ _ _ _ _ (by omega), set2_same]
  · rw [set2_same]
  · rw [set2_np _ _ _ _ _ _ (by omega), set2_np _ _ _ _ _ _ (by omega), set2_np _ _ _ _ _ _ (by omega), pw_in hj]
  · rw [set2_ne p a1, set2_ne p a1, set2_ne p a1, pw_ne a2]
theorem y_readSea (hv : 15 ≤ v) (x : TX b L hc hm) (a : AA b L hc hm) (n : NF hc hm) : ∃ hc', g_X2_readFrom v 1 hc = some hc' ∧ CS v hc hc' ∧
    ((∃ hm', g_X9_readSea hm = some (1, hm') ∧ NF hc' hm' ∧ (EQ v hc' hm' ∧ SBd hm') ∧ MS hm hm') ∨ ∃ hm', g_X9_readSea hm = some (0, hm') ∧ FF hc' hm' ∧ MS hm hm') := by
  obtain ⟨⟨i1, i2, i3, i4⟩, i5, ⟨i6, i7, i8, i9⟩, i10, i11⟩ := iS_f (h := hm)
  obtain ⟨c1, c2, c3, c4, c5⟩ := clS_f (v := v) (h := hc)
  have cs0 : CS v hc (clS v hc) := ⟨fun p h1 h2 => c5 p (by omega) (by omega), fun j _ => by rw [c5 1 (by omega) (by omega)]⟩
  have ms0 : MS hm (iS hm) := ⟨fun p h1 h2 h3 h4 h5 => i11 p h1 h3 h4 h5, fun j hj => i10 j (by omega) (by omega) (by omega) (by omega)⟩
  have eq0 : EQ v (clS v hc) (iS hm) := by
    unfold EQ
    rw [c1, c2, c3, i1, i2, i3, i4, i6, i7, i8, i9, i5 0 (by omega), i5 1 (by omega), i5 2 (by omega), i5 3 (by omega), c4 0 (by omega), c4 1 (by omega), c4 2 (by omega), c4 3 (by omega), c4 4 (by omega), c4 5 (by omega), c4 6 (by omega), c4 7 (by omega), c4 8 (by omega)]
    exact ⟨⟨⟨rfl, rfl, rfl, rfl⟩, rfl, rfl, rfl, rfl, rfl⟩, ⟨rfl, fun k hk => absurd hk (by omega)⟩, rfl, rfl⟩
  have sb0 : SBd (iS hm) := by
    unfold SBd TB0 WB
    rw [i1, i2, i4, i6, i7, i8, i9, i5 0 (by omega), i5 2 (by omega)]
    exact ⟨Or.inl ⟨rfl, rfl⟩, by omega, by omega, by omega, ⟨by omega, fun k hk => absurd hk (by omega)⟩, by omega⟩
  have x0 : TX b L (clS v hc) (iS hm) := x.cs hv cs0 ms0
  have cr : clS v hc 1 = hc 1 := c5 1 (by omega) (by omega)
  have a0 : AA b L (clS v hc) (iS hm) := a.mv (by rw [cr]) ⟨i10 3 (by omega) (by omega) (by omega) (by omega), i10 4 (by omega) (by omega) (by omega) (by omega), i10 5 (by omega) (by omega) (by omega) (by omega), i10 6 (by omega) (by omega) (by omega) (by omega)⟩
  have n0 : NF (clS v hc) (iS hm) := by
    unfold NF at n ⊢
    rw [cr, i10 8 (by omega) (by omega) (by omega) (by omega), i10 9 (by omega) (by omega) (by omega) (by omega)]
    exact n
  have l9 := x.2.2.2.2
  have at0 : 0 ≤ clS v hc 1 2 := by obtain ⟨p, a1, -⟩ := a0; omega
  unfold g_X2_readFrom
  rw [m_sinit, k_sclear, e_cV, e_cI]
  have go := fun j4 j26 => y_sclauses (b := b) (L := L) (j4 := j4) (j26 := j26) hv (L + 1) FU FU 0 (clS v hc) (iS hm) x0 a0 n0 eq0 sb0 (by omega) (by omega) (fu _ (by omega)) (fu _ (by omega)) (by omega)
  (rw [e_join]; (try dsimp only); rw [e_join]; (try dsimp only))
  obtain ⟨hc1, g1, g2, g3⟩ := go (fun (a3 : Hp) => some a3) (fun (a25 : Hp) => cI 0 fun z28 => retZW z28 a25)
  rw [show ((0 : Nat) : Int) = 0 from rfl] at g1
  rw [g1]
  refine ⟨hc1, rfl, cs0.tr g2, ?_⟩
  rcases g3 with ⟨hm1, o1, o2, o3, o4⟩ | ⟨hm1, o1, o2, o3⟩
  · exact Or.inl ⟨hm1, o1, o2, o3, ms0.tr o4⟩
  · exact Or.inr ⟨hm1, by rw [o1, e_cI, retZW_0], o2, ms0.tr o3⟩
end SEA3
/-- the model commits a sea -/
theorem m_sea_ok {g hO hm : Hp} (sb : SBd hm) (o : g_X9_open g = some hO) (rs : g_X9_readSea hO = some (1, hm)) :
    ∃ h2, g_X9_sea g = some (hm 100 17, h2) ∧ (∀ p, p ≠ 100 → p ≠ 110 → p ≠ 112 → p ≠ 114 → p ≠ 115 → h2 p = hm p) ∧ (∀ j, j ≠ 28 → j ≠ 29 → j ≠ 39 → h2 100 j = hm 100 j) ∧
      (h2 100 28 = hm 100 30 ∧ h2 100 29 = hm 100 17 ∧ h2 100 39 = hm 100 40) ∧ (∀ k, k < 4 → h2 112 k = hm 113 k) ∧ (∀ k, k < 2 → h2 114 k = hm 116 k ∧ h2 115 k = hm 117 k) ∧ (∀ k, k < 3 * (hm 100 30).toNat → h2 110 k = hm 111 k) := by
  obtain ⟨-, -, -, -, ⟨w30, -⟩, -⟩ := sb
  obtain ⟨N, hN⟩ := Int.eq_ofNat_of_zero_le w30.1
  generalize hP1 : set2 (set2 hm 100 28 (hm 100 30)) 100 29 (hm 100 17) = P1
  have p28 : P1 100 28 = hm 100 30 := by rw [← hP1, set2_nk _ _ _ _ _ _ (by omega), set2_same]
  have p29 : P1 100 29 = hm 100 17 := by rw [← hP1, set2_same]
  have p1f : ∀ j, j ≠ 28 → j ≠ 29 → P1 100 j = hm 100 j := fun j a1 a2 => by rw [← hP1, set2_nk _ _ _ _ _ _ a2, set2_nk _ _ _ _ _ _ a1]
  have p1r : ∀ p, p ≠ 100 → P1 p = hm p := fun p hp => by rw [← hP1, set2_ne p hp, set2_ne p hp]
  generalize hP2 : pw P1 110 (3 * N) (hm 111) = P2
  have p2r : ∀ p, p ≠ 110 → P2 p = P1 p := fun p hp => by rw [← hP2, pw_ne hp]
  have p2i : ∀ k, k < 3 * N → P2 110 k = hm 111 k := fun k hk => by rw [← hP2, pw_in hk]
  generalize hP3 : pw P2 112 4 (hm 113) = P3
  have p3r : ∀ p, p ≠ 112 → P3 p = P2 p := fun p hp => by rw [← hP3, pw_ne hp]
  have p3i : ∀ k, k < 4 → P3 112 k = hm 113 k := fun k hk => by rw [← hP3, pw_in hk]
  generalize hP4 : pw (pw P3 114 2 (hm 116)) 115 2 (hm 117) = P4
  have p4r : ∀ p, p ≠ 114 → p ≠ 115 → P4 p = P3 p := fun p h1 h2 => by rw [← hP4, pw_ne h2, pw_ne h1]
  have p4i : ∀ k, k < 2 → P4 114 k = hm 116 k ∧ P4 115 k = hm 117 k := fun k hk => by
    rw [← hP4]
    exact ⟨by rw [pw_ne (by omega), pw_in hk], by rw [pw_in hk]⟩
  have p4c : ∀ j, P4 100 j = P1 100 j := fun j => by rw [p4r 100 (by omega) (by omega), p3r 100 (by omega), p2r 100 (by omega)]
  refine ⟨set2 P4 100 39 (hm 100 40), ?_, fun p a1 a2 a3 a4 a5 => ?_, fun j a1 a2 a3 => ?_, ⟨?_, ?_, ?_⟩, fun k hk => ?_, fun k hk => ⟨?_, ?_⟩, fun k hk => ?_⟩
  · unfold g_X9_sea
    rw [o, e_cV, rs, e_cW, b_neg (by decide), e_gF, e_pF, e_gF, set2_nk _ _ _ _ _ _ (by omega), e_pF, hP1, e_cI]
    refine join_gen (fun j10 hj10 => ?_)
    refine loopF_for' (3 * N) (fun i => ((i : Int), pw P1 110 i (hm 111))) ?_ ?_ (by rw [pw_0]; rfl) (fu _ (by omega))
    · intro i hi self
      unfold g_X9_sea_l42
      dsimp only
      rw [e_cI, e_gF, pw_ne (by omega), p28, hN, e_mul _ _ _ (by omega), b_neg (by omega), e_rdn _ _ _ _ _ (by omega), pw_ne (by omega), p1r 111 (by omega), e_wrn _ _ _ _ _ _ (by omega), pw_step, e_add _ _ _ (by omega), show (i : Int) + 1 = ((i + 1 : Nat) : Int) by omega]
    intro self
    unfold g_X9_sea_l42
    dsimp only
    rw [e_cI, hP2, e_gF, p2r 100 (by omega), p28, hN, e_mul _ _ _ (by omega), b_pos (by omega), hj10, e_cI]
    refine join_gen (fun j14 hj14 => ?_)
    refine loopF_for' 4 (fun i => ((i : Int), pw P2 112 i (hm 113))) ?_ ?_ (by rw [pw_0]; rfl) (fu _ (by omega))
    · intro i hi self
      unfold g_X9_sea_l34
      dsimp only
      rw [e_cI, b_neg (by omega), e_rdn _ _ _ _ _ (by omega), pw_ne (by omega), p2r 113 (by omega), p1r 113 (by omega), e_wrn _ _ _ _ _ _ (by omega), pw_step, e_add _ _ _ (by omega), show (i : Int) + 1 = ((i + 1 : Nat) : Int) by omega]
    intro self
    unfold g_X9_sea_l34
    dsimp only
    rw [e_cI, b_pos (by omega), hj14, e_cI, hP3]
    refine join_gen (fun j18 hj18 => ?_)
    refine loopF_for' 2 (fun i => ((i : Int), pw (pw P3 114 i (hm 116)) 115 i (hm 117))) ?_ ?_ (by rw [pw_0, pw_0]; rfl) (fu _ (by omega))
    · intro i hi self
      unfold g_X9_sea_l24
      dsimp only
      rw [e_cI, b_neg (by omega), e_rdn _ _ _ _ _ (by omega), pw_ne (by omega), pw_ne (by omega), p3r 116 (by omega), p2r 116 (by omega), p1r 116 (by omega), e_wrn _ _ _ _ _ _ (by omega), pw_set (by omega), pw_step, e_rdn _ _ _ _ _ (by omega), pw_ne (by omega), pw_ne (by omega), p3r 117 (by omega), p2r 117 (by omega), p1r 117 (by omega), e_wrn _ _ _ _ _ _ (by omega), pw_step, e_add _ _ _ (by omega), show (i : Int) + 1 = ((i + 1 : Nat) : Int) by omega]
    intro self
    unfold g_X9_sea_l24
    dsimp only
    rw [e_cI, b_pos (by omega), hj18, hP4, e_gF, p4c, p1f 40 (by omega) (by omega), e_pF, e_gF, set2_nk _ _ _ _ _ _ (by omega), p4c, p29]
  · rw [set2_ne p a1, p4r p a4 a5, p3r p a3, p2r p a2, p1r p a1]
  · rw [set2_nk _ _ _ _ _ _ a3, p4c, p1f j a1 a2]
  · rw [set2_nk _ _ _ _ _ _ (by omega), p4c, p28]
  · rw [set2_nk _ _ _ _ _ _ (by omega), p4c, p29]
  · rw [set2_same]
  · rw [set2_ne 112 (by omega), p4r 112 (by omega) (by omega), p3i k hk]
  · rw [set2_ne 114 (by omega), (p4i k hk).1]
  · rw [set2_ne 115 (by omega), (p4i k hk).2]
  · rw [set2_ne 110 (by omega), p4r 110 (by omega) (by omega), p3r 110 (by omega), p2i k (by rw [hN] at hk; omega)]
/-- a shore and plans do not know the sea -/
def TN (P Q : Hp) : Prop := (Q 100 10 = P 100 10 ∧ Q 100 11 = P 100 11 ∧ Q 100 12 = P 100 12 ∧ Q 100 41 = P 100 41) ∧ (Q 102 = P 102 ∧ Q 104 = P 104 ∧ Q 106 = P 106 ∧ Q 108 = P 108) ∧ (Q 118 = P 118 ∧ Q 119 = P 119 ∧ Q 120 = P 120)
theorem TN.cn {P Q : Hp} (e : TN P Q) : cN Q = cN P ∧ rN Q = rN P ∧ nN Q = nN P := by
  obtain ⟨⟨e1, e2, e3, e4⟩, -⟩ := e
  unfold nN cN rN
  rw [e1, e2]
  exact ⟨rfl, rfl, rfl⟩
theorem TN.iv {P Q : Hp} {B T : Int} {s : Nat → Int} (e : TN P Q) (h : IV P B T s) : IV Q B T s := by
  obtain ⟨-, -, en⟩ := e.cn
  obtain ⟨⟨e1, e2, e3, e4⟩, ⟨f1, f2, f3, f4⟩, g1, g2, g3⟩ := e
  unfold IV CV SV FV HV at h ⊢
  rw [en, e4, f1, g1, g2]
  exact h
theorem TN.rs {P Q h : Hp} {b : Nat} {s : Nat → Int} (e : TN P Q) (h0 : RS P h b s) : RS Q h b s := by
  obtain ⟨ec, er, en⟩ := e.cn
  obtain ⟨⟨e1, e2, e3, e4⟩, ⟨f1, f2, f3, f4⟩, g1, g2, g3⟩ := e
  unfold RS RS0 SE HR Settled quietP lowP candP holdsP strP at h0 ⊢
  rw [en, ec, e3, f1, f2, f3, g1, g2]
  exact h0
theorem TN.pb {P Q h : Hp} {c : Nat} (e : TN P Q) (h0 : PB P h c) : PB Q h c := by
  obtain ⟨⟨e1, e2, e3, e4⟩, ⟨f1, f2, f3, f4⟩, -⟩ := e
  unfold PB strP at h0 ⊢
  rw [e1, e2, e3, f1, f2, f3, f4]
  exact h0
theorem TN.pl {P Q h : Hp} {p : Nat} (e : TN P Q) (h0 : PL P h p) : PL Q h p := by
  obtain ⟨-, -, g1, g2, g3⟩ := e
  unfold PL actAtP at h0 ⊢
  rw [g1, g2, g3]
  exact h0
theorem TN.pv {P Q : Hp} (e : TN P Q) (h : PV P) (s1 : 0 ≤ Q 100 39 ∧ Q 100 39 ≤ 9) (s2 : 0 ≤ Q 100 28 ∧ Q 100 28 ≤ 12) (s3 : ∀ k : Nat, k < (Q 100 28).toNat → (0 ≤ Q 110 (3 * k) ∧ Q 110 (3 * k) ≤ 359) ∧ (1 ≤ Q 110 (3 * k + 1) ∧ Q 110 (3 * k + 1) ≤ 8) ∧ (0 ≤ Q 110 (3 * k + 2) ∧ Q 110 (3 * k + 2) ≤ 99))
    (s4 : (Q 112 0 = -1) ∨ ((0 ≤ Q 112 0 ∧ Q 112 0 ≤ 359) ∧ (Q 112 0 ≤ Q 112 1 ∧ Q 112 1 ≤ 359) ∧ (1 ≤ Q 112 2 ∧ Q 112 2 ≤ 60) ∧ (0 ≤ Q 112 3 ∧ Q 112 3 ≤ 100))) (s5 : 1 ≤ Q 114 0 ∧ Q 114 0 ≤ Q 114 1 ∧ Q 114 1 ≤ 8) (s6 : 0 ≤ Q 115 0 ∧ Q 115 0 ≤ Q 115 1 ∧ Q 115 1 ≤ 99) : PV Q := by
  obtain ⟨-, -, en⟩ := e.cn
  obtain ⟨⟨e1, e2, e3, e4⟩, ⟨f1, f2, f3, f4⟩, g1, g2, g3⟩ := e
  obtain ⟨p1, p2, p3, p4, p5, p6, p7, p8, p9, p10, p11, -, -, -, -, -, -, p18⟩ := h
  unfold actAtP at p18
  refine ⟨by rw [e1]; exact p1, by rw [e2]; exact p2, by rw [f1]; exact p3, by rw [f1]; exact p4, by rw [f1]; exact p5, by rw [f1]; exact p6, by rw [f1]; exact p7, by rw [f1]; exact p8, by rw [f1]; exact p9, by rw [f1]; exact p10, by rw [f1]; exact p11, s1, s2, s3, s4, s5, s6, ?_⟩
  unfold actAtP
  rw [en, e4, e3, f3, f2, f4, g1, g2, g3]
  exact p18
theorem s_sea {n : Nat} {h : Hp} (r : Rel n h) : ∃ z h1 h2, g_X8_sea h = some (z, h1) ∧ g_X9_sea h1 = some (z, h2) ∧ Rel (n + 1) h2 := by
  have r0 := r
  obtain ⟨hv, ⟨c, rb⟩, ⟨v, rs⟩, rp, rn, rsl, rt, rf, ru⟩ := r
  obtain ⟨rc, r12, rpb, rc6⟩ := rb
  obtain ⟨rv, ⟨r03, r04⟩, rps, rv5⟩ := rs
  obtain ⟨d, hd⟩ : ∃ d : Nat, d = 35 - v := ⟨35 - v, rfl⟩
  have hd3 : d = 15 ∨ d = 20 := by omega
  have e04 : stK h 0 4 = (d : Int) := by rw [stK_p (by omega), r04]; omega
  obtain ⟨LA, hmA, oA, xA, aA, nA, -, -, -⟩ := y_open r0 (g := h) (fun _ _ => rfl)
  obtain ⟨hc', k1, k2, k3⟩ := y_readSea (v := d) (by omega) xA aA nA
  have keep : ∀ g : Hp, (∀ p, 100 ≤ p → g p = h p) → ∃ hO, g_X9_open g = some hO ∧ (∀ p, p ≠ 100 → hO p = g p) ∧ (∀ j, 10 ≤ j → hO 100 j = g 100 j) ∧ hO 100 1 = 0 ∧
      ((∃ hm', g_X9_readSea hO = some (1, hm') ∧ NF hc' hm' ∧ (EQ d hc' hm' ∧ SBd hm') ∧ MS hO hm') ∨ ∃ hm', g_X9_readSea hO = some (0, hm') ∧ FF hc' hm' ∧ MS hO hm') := by
    intro g hg
    obtain ⟨L, hm, o, x, a, n, f1, f2, f3⟩ := y_open r0 hg
    obtain ⟨hc2, q1, q2, q3⟩ := y_readSea (v := d) (by omega) x a n
    rw [k1] at q1
    injection q1 with q1
    subst q1
    exact ⟨hm, o, f1, f2, f3, q3⟩
  have cfr : ∀ p, p ≠ 1 → (p < d ∨ d + 4 < p) → hc' p = h p := fun p h1 h2 => by rw [k2.1 p h1 h2, stK_p h1]
  have t3 : ∀ k : Nat, k < 900 → BT (h 2 k) (h 101 k) := rt.2.2
  have f0 : hc' 0 = h 0 := cfr 0 (by omega) (by omega)
  unfold g_X8_sea
  rw [k_start, e_cV, e_gR (stK h) 0 4 d _ _ e04 (by rcases hd3 with q | q <;> subst q <;> simp), k1, e_cV, e_cI, e_pF, k_isFaulty, set2_nk _ _ _ _ _ _ (by omega)]
  have hg : ∀ p, 100 ≤ p → set2 hc' 1 1 0 p = h p := fun p hp => by rw [set2_ne p (by omega), cfr p (by omega) (by omega)]
  by_cases flt : hc' 1 6 = 0
  rotate_left
  · obtain ⟨hO, o1, o2, o3, o4, o5⟩ := keep (set2 hc' 1 1 0) hg
    rcases o5 with ⟨hm, u1, u2, -⟩ | ⟨hm, u1, u2, u3⟩
    · exact absurd u2.1 flt
    rw [if_neg flt, e_cP, b_neg (by decide), e_cI]
    refine ⟨-1, _, hm, rfl, ?_, ?_⟩
    · unfold g_X9_sea
      rw [o1, e_cV, u1, e_cW, b_pos rfl, e_cI]
    have fr : ∀ p, p ≠ 1 → (p < d ∨ d + 4 < p) → p ≠ 100 → p ≠ 111 → p ≠ 113 → p ≠ 116 → p ≠ 117 → hm p = h p := fun p h1 h2 h3 h4 h5 h6 h7 => by
      rw [u3.1 p h3 h4 h5 h6 h7, o2 p h3, set2_ne p h1, cfr p h1 h2]
    have f100 : ∀ j, 9 < j → j ≠ 17 → j ≠ 18 → j ≠ 30 → j ≠ 40 → hm 100 j = h 100 j := fun j a1 a2 a3 a4 a5 => by
      rw [u3.2 j (by omega), o3 j (by omega), set2_ne 100 (by omega), cfr 100 (by omega) (by omega)]
    have te : TE h hm := by
      unfold TE
      rw [f100 10 (by omega) (by omega) (by omega) (by omega) (by omega), f100 11 (by omega) (by omega) (by omega) (by omega) (by omega), f100 12 (by omega) (by omega) (by omega) (by omega) (by omega), f100 28 (by omega) (by omega) (by omega) (by omega) (by omega), f100 39 (by omega) (by omega) (by omega) (by omega) (by omega), f100 41 (by omega) (by omega) (by omega) (by omega) (by omega), fr 102 (by omega) (by omega) (by omega) (by omega) (by omega) (by omega) (by omega), fr 104 (by omega) (by omega) (by omega) (by omega) (by omega) (by omega) (by omega), fr 106 (by omega) (by omega) (by omega) (by omega) (by omega) (by omega) (by omega), fr 108 (by omega) (by omega) (by omega) (by omega) (by omega) (by omega) (by omega), fr 110 (by omega) (by omega) (by omega) (by omega) (by omega) (by omega) (by omega), fr 112 (by omega) (by omega) (by omega) (by omega) (by omega) (by omega) (by omega), fr 114 (by omega) (by omega) (by omega) (by omega) (by omega) (by omega) (by omega), fr 115 (by omega) (by omega) (by omega) (by omega) (by omega) (by omega) (by omega), fr 118 (by omega) (by omega) (by omega) (by omega) (by omega) (by omega) (by omega), fr 119 (by omega) (by omega) (by omega) (by omega) (by omega) (by omega) (by omega), fr 120 (by omega) (by omega) (by omega) (by omega) (by omega) (by omega) (by omega)]
      exact ⟨⟨rfl, rfl, rfl, rfl, rfl, rfl⟩, ⟨rfl, rfl, rfl, rfl, rfl⟩, rfl, rfl, rfl, rfl, rfl, rfl⟩
    have g0 : hm 0 = h 0 := fr 0 (by omega) (by omega) (by omega) (by omega) (by omega) (by omega) (by omega)
    have fq : ∀ p, 2 ≤ p → p < 100 → (p < 15 ∨ 24 < p) → hm p = h p := fun p h1 h2 h3 => fr p (by omega) (by omega) (by omega) (by omega) (by omega) (by omega) (by omega)
    have fq2 : ∀ p, 118 ≤ p → hm p = h p := fun p h1 => fr p (by omega) (by omega) (by omega) (by omega) (by omega) (by omega) (by omega)
    have fM1 : hm 1 = set2 hc' 1 1 0 1 := by rw [u3.1 1 (by omega) (by omega) (by omega) (by omega) (by omega), o2 1 (by omega)]
    refine ⟨hv.te te, ⟨c, BchR.mv ⟨rc, r12, rpb, rc6⟩ te (fun k _ => by rw [g0]) (fun p _ _ => fq p (by omega) (by omega) (by omega)) (f100 13 (by omega) (by omega) (by omega) (by omega) (by omega))⟩, ⟨v, rv, ⟨by rw [g0]; exact r03, by rw [g0]; exact r04⟩, (rps.te te).hp (fun p h1 h2 => fr p (by omega) (by omega) (by omega) (by omega) (by omega) (by omega) (by omega)), ?_⟩, rp.mv hv te (by rw [g0]) (fun p _ _ => fq p (by omega) (by omega) (by omega)), rn.mv (by omega) te (fun p _ _ => fq p (by omega) (by omega) (by omega)) (fq2 121 (by omega)), fun j hj => (rsl j hj).mv hj (by omega) te (fun p _ _ => fq p (by omega) (by omega) (by omega)) ⟨fq2 123 (by omega), fq2 124 (by omega), fq 35 (by omega) (by omega) (by omega)⟩, ⟨?_, ?_, ?_⟩, ⟨?_, ?_⟩, ru.mv (fun p _ _ => fq p (by omega) (by omega) (by omega)) (fun p _ _ => fq2 p (by omega)) ⟨f100 51 (by omega) (by omega) (by omega) (by omega) (by omega), f100 52 (by omega) (by omega) (by omega) (by omega) (by omega), f100 53 (by omega) (by omega) (by omega) (by omega) (by omega)⟩⟩
    · rw [fr v (by omega) (by omega) (by omega) (by omega) (by omega) (by omega) (by omega), f100 29 (by omega) (by omega) (by omega) (by omega) (by omega)]; exact rv5
    · rw [fM1, set2_same, u3.2 1 (by omega), o4]
    · rw [fM1, set2_same]; omega
    · rw [fq 2 (by omega) (by omega) (by omega), fr 101 (by omega) (by omega) (by omega) (by omega) (by omega) (by omega) (by omega)]; exact t3
    · rw [fM1, set2_nk _ _ _ _ _ _ (by omega)]; exact u2.2.1
    · rw [fM1, set2_nk _ _ _ _ _ _ (by omega)]; exact u2.2.2
  -- a sea
  have e_pR : ∀ {R : Type} (g : Hp) (b k q : Nat) (K : Hp → Option R), pR g b k q K = K (set2 g b k (q : Int)) := fun _ _ _ _ _ => rfl
  rw [if_pos flt, e_cP, b_pos rfl, e_gR (set2 hc' 1 1 0) 0 4 d _ _ (by rw [set2_np _ _ _ _ _ _ (by omega), f0, r04]; omega) (by rcases hd3 with q | q <;> subst q <;> simp), e_gR (set2 hc' 1 1 0) 0 3 v _ _ (by rw [set2_np _ _ _ _ _ _ (by omega), f0, r03]) (by rcases rv with q | q <;> subst q <;> simp), e_pR, e_pR, e_gR _ 0 3 d _ _ (set2_same _ _ _ _) (by rcases hd3 with q | q <;> subst q <;> simp), e_gF]
  have z03 : set2 (set2 (set2 hc' 1 1 0) 0 4 (v : Int)) 0 3 (d : Int) 0 3 = (d : Int) := set2_same _ _ _ _
  have z04 : set2 (set2 (set2 hc' 1 1 0) 0 4 (v : Int)) 0 3 (d : Int) 0 4 = (v : Int) := by rw [set2_nk _ _ _ _ _ _ (by omega), set2_same]
  have z0 : ∀ k, k ≠ 3 → k ≠ 4 → set2 (set2 (set2 hc' 1 1 0) 0 4 (v : Int)) 0 3 (d : Int) 0 k = h 0 k := fun k a1 a2 => by rw [set2_nk _ _ _ _ _ _ a1, set2_nk _ _ _ _ _ _ a2, set2_np _ _ _ _ _ _ (by omega), f0]
  have z1 : ∀ j, j ≠ 1 → set2 (set2 (set2 hc' 1 1 0) 0 4 (v : Int)) 0 3 (d : Int) 1 j = hc' 1 j := fun j hj => by rw [set2_ne 1 (by omega), set2_ne 1 (by omega), set2_nk _ _ _ _ _ _ hj]
  have z11 : set2 (set2 (set2 hc' 1 1 0) 0 4 (v : Int)) 0 3 (d : Int) 1 1 = 0 := by rw [set2_ne 1 (by omega), set2_ne 1 (by omega), set2_same]
  have zp : ∀ p, 2 ≤ p → set2 (set2 (set2 hc' 1 1 0) 0 4 (v : Int)) 0 3 (d : Int) p = hc' p := fun p h1 => by rw [set2_ne p (by omega), set2_ne p (by omega), set2_ne p (by omega)]
  generalize set2 (set2 (set2 hc' 1 1 0) 0 4 (v : Int)) 0 3 (d : Int) = h1 at *
  have hg1 : ∀ p, 100 ≤ p → h1 p = h p := fun p hp => by rw [zp p (by omega), cfr p (by omega) (by omega)]
  obtain ⟨hO, o1, o2, o3, o4, o5⟩ := keep h1 hg1
  rcases o5 with ⟨hm, u1, u2, ⟨u3, u3b⟩, u4⟩ | ⟨hm, u1, u2, -⟩
  rotate_left
  · exact absurd flt u2.1
  obtain ⟨h2, w1, w2, w3, ⟨w28, w29, w39⟩, w4, w5, w6⟩ := m_sea_ok u3b o1 u1
  obtain ⟨q1, ⟨q4, q4b⟩, q5, q6⟩ := u3
  obtain ⟨b1, b2, b3, b4, ⟨b5, b5b⟩, b6⟩ := u3b
  have g100 : ∀ j, 9 < j → j ≠ 17 → j ≠ 18 → j ≠ 30 → j ≠ 40 → j ≠ 28 → j ≠ 29 → j ≠ 39 → h2 100 j = h 100 j := fun j a1 a2 a3 a4 a5 a6 a7 a8 => by rw [w3 j a6 a7 a8, u4.2 j (by omega), o3 j (by omega), hg1 100 (by omega)]
  have gp : ∀ p, p ≠ 100 → (p < 110 ∨ 117 < p) → h2 p = h1 p := fun p a1 a2 => by rw [w2 p a1 (by omega) (by omega) (by omega) (by omega), u4.1 p a1 (by omega) (by omega) (by omega) (by omega), o2 p a1]
  refine ⟨_, h1, h2, rfl, by rw [w1, zp d (by omega), q5], ?_⟩
  have lo : ∀ p, 2 ≤ p → p < 100 → (p < d ∨ d + 4 < p) → h2 p = h p := fun p a1 a2 a3 => by rw [gp p (by omega) (by omega), zp p a1, cfr p (by omega) a3]
  have hi : ∀ p, 100 < p → (p < 110 ∨ 117 < p) → h2 p = h p := fun p a1 a2 => by rw [gp p (by omega) a2, hg1 p (by omega)]
  have hb : ∀ p, d ≤ p → p ≤ d + 4 → h2 p = hc' p := fun p a1 a2 => by rw [gp p (by omega) (by omega), zp p (by omega)]
  have h20 : h2 0 = h1 0 := gp 0 (by omega) (by omega)
  have tn : TN h h2 := by
    unfold TN
    rw [g100 10 (by omega) (by omega) (by omega) (by omega) (by omega) (by omega) (by omega) (by omega), g100 11 (by omega) (by omega) (by omega) (by omega) (by omega) (by omega) (by omega) (by omega), g100 12 (by omega) (by omega) (by omega) (by omega) (by omega) (by omega) (by omega) (by omega), g100 41 (by omega) (by omega) (by omega) (by omega) (by omega) (by omega) (by omega) (by omega), hi 102 (by omega) (by omega), hi 104 (by omega) (by omega), hi 106 (by omega) (by omega), hi 108 (by omega) (by omega), hi 118 (by omega) (by omega), hi 119 (by omega) (by omega), hi 120 (by omega) (by omega)]
    exact ⟨⟨rfl, rfl, rfl, rfl⟩, ⟨rfl, rfl, rfl, rfl⟩, rfl, rfl, rfl⟩
  have v110 : ∀ k : Nat, k < (hm 100 30).toNat → h2 110 (3 * k) = hm 111 (3 * k) ∧ h2 110 (3 * k + 1) = hm 111 (3 * k + 1) ∧ h2 110 (3 * k + 2) = hm 111 (3 * k + 2) := fun k hk => ⟨w6 _ (by omega), w6 _ (by omega), w6 _ (by omega)⟩
  have pv2 : PV h2 := by
    refine tn.pv hv (by rw [w39]; exact b4) (by rw [w28]; exact b5) (fun k hk => ?_) ?_ ?_ ?_
    · rw [w28] at hk
      obtain ⟨e1, e2, e3⟩ := v110 k hk
      rw [e1, e2, e3]; exact b5b k hk
    · rw [w4 0 (by omega), w4 1 (by omega), w4 2 (by omega), w4 3 (by omega)]
      rcases b1 with y | y
      · exact Or.inl y.1
      · exact Or.inr y
    · rw [(w5 0 (by omega)).1, (w5 1 (by omega)).1]; exact b2
    · rw [(w5 0 (by omega)).2, (w5 1 (by omega)).2]; exact b3
  have e41 : h2 100 41 = h 100 41 := tn.1.2.2.2
  refine ⟨pv2, ⟨c, rc, ⟨?_, ?_⟩, (tn.pb rpb).hp (fun p h1 h2 => lo p (by omega) (by omega) (by omega)), ?_⟩, ⟨d, hd3, ⟨?_, ?_⟩, ⟨fun k hk => ?_, ⟨?_, ?_, ?_, ?_, ?_⟩, ?_, fun k hk => ?_, fun y => ?_⟩, ?_⟩, ⟨?_, fun p hp => ?_⟩, ⟨?_, ?_, ?_⟩, fun j hj => ?_, ⟨?_, ?_, ?_⟩, ⟨?_, ?_⟩, ?_⟩
  · rw [h20, z0 1 (by omega) (by omega)]; exact r12.1
  · rw [h20, z0 2 (by omega) (by omega)]; exact r12.2
  · rw [lo c (by omega) (by omega) (by omega), g100 13 (by omega) (by omega) (by omega) (by omega) (by omega) (by omega) (by omega) (by omega)]; exact rc6
  · rw [h20]; exact z03
  · rw [h20, z04]; omega
  · rw [hb (d + 1) (by omega) (by omega), w4 k hk]
    rcases (by omega : k = 0 ∨ k = 1 ∨ k = 2 ∨ k = 3) with rfl | rfl | rfl | rfl
    · exact q1.1.1
    · exact q1.1.2.1
    · exact q1.1.2.2.1
    · exact q1.1.2.2.2
  · rw [hb (d + 1) (by omega) (by omega), (w5 0 (by omega)).1]; exact q1.2.1
  · rw [hb (d + 1) (by omega) (by omega), (w5 1 (by omega)).1]; exact q1.2.2.1
  · rw [hb (d + 1) (by omega) (by omega), (w5 0 (by omega)).2]; exact q1.2.2.2.1
  · rw [hb (d + 1) (by omega) (by omega), (w5 1 (by omega)).2]; exact q1.2.2.2.2.1
  · rw [hb (d + 1) (by omega) (by omega), w39]; exact q1.2.2.2.2.2
  · rw [hb d (by omega) (by omega), w28]; exact q4
  · rw [w28] at hk
    obtain ⟨e1, e2, e3⟩ := v110 k hk
    rw [hb (d + 2) (by omega) (by omega), hb (d + 3) (by omega) (by omega), hb (d + 4) (by omega) (by omega), e1, e2, e3]
    exact q4b k hk
  · rw [w4 0 (by omega)] at y
    rw [w4 2 (by omega)]
    rcases b1 with z | z
    · exact z.2
    · exact absurd y (by omega)
  · rw [hb d (by omega) (by omega), w29]; exact q5
  · rw [h20, z0 6 (by omega) (by omega), e41]; exact rp.1
  · rw [e41] at hp
    have h41 := (pv_plan hv).1
    exact (tn.pl (rp.2 p hp)).hp (fun q a1 a2 => lo q (by omega) (by omega) (by omega))
  · rw [hi 121 (by omega) (by omega)]; exact tn.iv (rn.1.mono (by omega))
  · rw [hi 121 (by omega) (by omega)]; exact (tn.rs rn.2.1).hp (fun p a1 a2 => lo p (by omega) (by omega) (by omega))
  · rw [hi 121 (by omega) (by omega), tn.1.2.2.1]; exact rn.2.2
  · have e35 := lo 35 (by omega) (by omega) (by omega)
    have es : slotR h2 j = slotR h j := by unfold slotR; rw [hi 123 (by omega) (by omega)]
    obtain ⟨s1, s2⟩ := rsl j hj
    refine ⟨by rw [e35, hi 124 (by omega) (by omega)]; exact s1, ?_⟩
    rw [e35, es]
    rcases s2 with y | ⟨y1, y2, y3, y4⟩
    · exact Or.inl y
    · exact Or.inr ⟨y1, tn.iv (y2.mono (by omega)), (tn.rs y3).hp (fun p a1 a2 => lo p (by omega) (by omega) (by omega)), by rw [tn.1.2.2.1]; exact y4⟩
  · rw [gp 1 (by omega) (by omega), z11, w3 1 (by omega) (by omega) (by omega), u4.2 1 (by omega), o4]
  · rw [gp 1 (by omega) (by omega), z11]; omega
  · rw [lo 2 (by omega) (by omega) (by omega), hi 101 (by omega) (by omega)]; exact t3
  · rw [gp 1 (by omega) (by omega), z1 6 (by omega), w3 8 (by omega) (by omega) (by omega), u2.1, u2.2.1]
  · rw [gp 1 (by omega) (by omega), z1 7 (by omega), w3 9 (by omega) (by omega) (by omega), u2.2.2.1, u2.2.2.2]
  · exact ru.mv (fun p _ _ => lo p (by omega) (by omega) (by omega)) (fun p _ _ => hi p (by omega) (by omega)) ⟨g100 51 (by omega) (by omega) (by omega) (by omega) (by omega) (by omega) (by omega) (by omega), g100 52 (by omega) (by omega) (by omega) (by omega) (by omega) (by omega) (by omega) (by omega), g100 53 (by omega) (by omega) (by omega) (by omega) (by omega) (by omega) (by omega) (by omega)⟩
