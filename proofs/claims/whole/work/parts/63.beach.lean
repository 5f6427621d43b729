/-! READING a beach -/
def cbB (m : Int) : Int := m % 2 + 4 * (m / 2)
def lbB (k : Nat) : Int := T_X0_LEAST.getD (2 + k) 0
def ubB (k : Nat) : Int := T_X0_MOST.getD (2 + k) 0
def BB (d : Nat) (hc hm : Hp) : Prop :=
  ((hc (d + 1) 0 = hm 100 14 ∧ hc (d + 1) 1 = hm 100 15) ∧ (1 ≤ hm 100 14 ∧ hm 100 14 ≤ 8) ∧ (1 ≤ hm 100 15 ∧ hm 100 15 ≤ 8)) ∧
  (∀ k : Nat, k < 9 → hc (d + 1) (2 + k) = hm 103 k ∧ lbB k ≤ hm 103 k ∧ hm 103 k ≤ ubB k) ∧
  (∀ c : Nat, c < 64 → (hc (d + 2) c = hm 105 c ∧ 0 ≤ hm 105 c ∧ hm 105 c ≤ 59) ∧ hc (d + 3) c = hm 109 c ∧ (hm 109 c = 0 ∨ hm 109 c = 1)) ∧
  ((hc d 5 = hm 100 16 ∧ 0 ≤ hm 100 16 ∧ hm 100 16 ≤ 3) ∧ ∀ k : Nat, k < (hm 100 16).toNat → hc (d + 4) k = hm 107 k ∧ 0 ≤ hm 107 k ∧ hm 107 k < hm 100 14 * hm 100 15) ∧
  hc d 6 = hm 100 17 ∧ ((0 ≤ hm 100 18 ∧ hm 100 18 < 256) ∧ hc d 7 = cbB (hm 100 18)) ∧ (hc d 8 = hm 100 27 ∧ (hm 100 27 = 0 ∨ hm 100 27 = 1)) ∧ (hm 100 27 = 0 → hm 100 16 = 0)
theorem BB.mv {d : Nat} {hc hm hc' hm' : Hp} (s : BB d hc hm) (c : ∀ p, d ≤ p → p ≤ d + 5 → hc' p = hc p) (m : hm' 103 = hm 103 ∧ hm' 105 = hm 105 ∧ hm' 107 = hm 107 ∧ hm' 109 = hm 109) (m2 : ∀ j, (14 ≤ j ∧ j ≤ 18) ∨ j = 27 → hm' 100 j = hm 100 j) : BB d hc' hm' := by
  unfold BB at s ⊢
  rw [c d (by omega) (by omega), c (d + 1) (by omega) (by omega), c (d + 2) (by omega) (by omega), c (d + 3) (by omega) (by omega), c (d + 4) (by omega) (by omega), m.1, m.2.1, m.2.2.1, m.2.2.2, m2 14 (by omega), m2 15 (by omega), m2 16 (by omega), m2 17 (by omega), m2 18 (by omega), m2 27 (by omega)]
  exact s
theorem BB.cm {d : Nat} {hc hm hc' hm' : Hp} (s : BB d hc hm) (hd : 3 ≤ d) (c : TC hc hc') (m : TM hm hm') : BB d hc' hm' :=
  s.mv (fun p h1 h2 => c.1 p (by omega)) ⟨m.1 103 (by omega), m.1 105 (by omega), m.1 107 (by omega), m.1 109 (by omega)⟩ (fun j hj => m.2 j (by omega))
def CF (d : Nat) (hc hc' : Hp) : Prop := (∀ p, p ≠ 1 → (p < d ∨ d + 5 < p) → hc' p = hc p) ∧ (∀ j, j < 2 → hc' 1 j = hc 1 j)
def MF (hm hm' : Hp) : Prop := (∀ p, p ≠ 100 → p ≠ 103 → p ≠ 105 → p ≠ 107 → p ≠ 109 → hm' p = hm p) ∧ (∀ j, j < 3 ∨ (9 < j ∧ j < 14) ∨ (18 < j ∧ j ≠ 27) → hm' 100 j = hm 100 j)
theorem CF.rf {d : Nat} {h : Hp} : CF d h h := ⟨fun _ _ _ => rfl, fun _ _ => rfl⟩
theorem CF.tr {d : Nat} {a b c : Hp} (x : CF d a b) (y : CF d b c) : CF d a c := ⟨fun p hp hq => (y.1 p hp hq).trans (x.1 p hp hq), fun j hj => (y.2 j hj).trans (x.2 j hj)⟩
theorem MF.rf {h : Hp} : MF h h := ⟨fun _ _ _ _ _ _ => rfl, fun _ _ => rfl⟩
theorem MF.tr {a b c : Hp} (x : MF a b) (y : MF b c) : MF a c := ⟨fun p h1 h2 h3 h4 h5 => (y.1 p h1 h2 h3 h4 h5).trans (x.1 p h1 h2 h3 h4 h5), fun j hj => (y.2 j hj).trans (x.2 j hj)⟩
theorem TC.cf {d : Nat} {a b : Hp} (x : TC a b) : CF d a b := ⟨fun p hp _ => x.1 p hp, fun j hj => x.2.1 j (by omega)⟩
theorem TM.mf {a b : Hp} (x : TM a b) : MF a b := ⟨fun p h1 _ _ _ _ => x.1 p h1, fun j hj => x.2 j (by omega)⟩
theorem CF.set {d p k : Nat} {h : Hp} {x : Int} (hp : d ≤ p ∧ p ≤ d + 5) (hd : 3 ≤ d) : CF d h (set2 h p k x) := ⟨fun q _ hq => set2_ne q (by omega), fun j _ => set2_np _ _ _ _ _ _ (by omega)⟩
theorem MF.set {h : Hp} {j : Nat} {x : Int} (hj : (3 ≤ j ∧ j ≤ 9) ∨ (14 ≤ j ∧ j ≤ 18) ∨ j = 27) : MF h (set2 h 100 j x) := ⟨fun p h1 _ _ _ _ => set2_ne p h1, fun k hk => set2_nk _ _ _ _ _ _ (by omega)⟩
theorem MF.row {h : Hp} {p k : Nat} {x : Int} (hp : p = 103 ∨ p = 105 ∨ p = 107 ∨ p = 109) : MF h (set2 h p k x) := ⟨fun q _ h1 h2 h3 h4 => set2_ne q (by omega), fun j _ => set2_np _ _ _ _ _ _ (by omega)⟩
theorem TX.cf {b : Nat → Int} {L d : Nat} {hc hm hc' hm' : Hp} (x : TX b L hc hm) (hd : 3 ≤ d) (c : CF d hc hc') (m : MF hm hm') : TX b L hc' hm' :=
  x.mv ⟨c.1 2 (by omega) (by omega), c.2 1 (by omega)⟩ ⟨m.1 101 (by omega) (by omega) (by omega) (by omega) (by omega), m.2 2 (by omega)⟩
/-- what a reader of a clause ends with -/
def RD (b : Nat → Int) (L d : Nat) (hc hm : Hp) (C : Option Hp) (M : Option (Int × Hp)) : Prop :=
  ∃ hc', C = some hc' ∧ CF d hc hc' ∧ ((∃ hm', M = some (1, hm') ∧ AA b L hc' hm' ∧ NF hc' hm' ∧ BB d hc' hm' ∧ MF hm hm' ∧ hc 1 2 ≤ hc' 1 2) ∨ ∃ hm', M = some (0, hm') ∧ FF hc' hm' ∧ MF hm hm')
section BEACH
variable {b : Nat → Int} {L d : Nat} {hc hm : Hp}
theorem AA.out {p k j q : Nat} {x y : Int} (a : AA b L hc hm) (hp : p ≠ 1) (hj : q ≠ 100 ∨ j < 3 ∨ 6 < j) : AA b L (set2 hc p k x) (set2 hm q j y) :=
  a.mv (by rw [set2_np _ _ _ _ _ _ (by omega)]) (by
    unfold set2
    refine ⟨?_, ?_, ?_, ?_⟩ <;> rw [if_neg (by omega)])
theorem AA.outC {p k : Nat} {x : Int} (a : AA b L hc hm) (hp : p ≠ 1) : AA b L (set2 hc p k x) hm := a.mv (by rw [set2_np _ _ _ _ _ _ (by omega)]) ⟨rfl, rfl, rfl, rfl⟩
theorem AA.outM {j q : Nat} {y : Int} (a : AA b L hc hm) (hj : q ≠ 100 ∨ j < 3 ∨ 6 < j) : AA b L hc (set2 hm q j y) :=
  a.mv rfl (by
    unfold set2
    refine ⟨?_, ?_, ?_, ?_⟩ <;> rw [if_neg (by omega)])
theorem SS.outC {p k : Nat} {x : Int} (a : SS b L hc hm) (hp : p ≠ 1) : SS b L (set2 hc p k x) hm := a.mv ⟨by rw [set2_np _ _ _ _ _ _ (by omega)], by rw [set2_np _ _ _ _ _ _ (by omega)], by rw [set2_np _ _ _ _ _ _ (by omega)], by rw [set2_np _ _ _ _ _ _ (by omega)]⟩ ⟨rfl, rfl, rfl, rfl⟩
theorem SS.outM {j q : Nat} {y : Int} (a : SS b L hc hm) (hj : q ≠ 100 ∨ j < 3 ∨ 6 < j) : SS b L hc (set2 hm q j y) :=
  a.mv ⟨rfl, rfl, rfl, rfl⟩ (by
    unfold set2
    refine ⟨?_, ?_, ?_, ?_⟩ <;> rw [if_neg (by omega)])
theorem NF.outC {p k : Nat} {x : Int} (a : NF hc hm) (hp : p ≠ 1) : NF (set2 hc p k x) hm := ⟨by rw [set2_np _ _ _ _ _ _ (by omega)]; exact a.1, a.2.1, by rw [set2_np _ _ _ _ _ _ (by omega)]; exact a.2.2.1, a.2.2.2⟩
theorem NF.outM {j q : Nat} {y : Int} (a : NF hc hm) (hj : q ≠ 100 ∨ j < 8 ∨ 9 < j) : NF hc (set2 hm q j y) := by
  refine ⟨a.1, ?_, a.2.2.1, ?_⟩
  · unfold set2; rw [if_neg (by omega)]; exact a.2.1
  · unfold set2; rw [if_neg (by omega)]; exact a.2.2.2
theorem FF.outC {p k : Nat} {x : Int} (a : FF hc hm) (hp : p ≠ 1) : FF (set2 hc p k x) hm := ⟨by rw [set2_np _ _ _ _ _ _ (by omega)]; exact a.1, by rw [set2_np _ _ _ _ _ _ (by omega)]; exact a.2.1, by rw [set2_np _ _ _ _ _ _ (by omega)]; exact a.2.2⟩
/-- a law's number is told -/
theorem BB.law {k : Nat} {z : Int} (s : BB d hc hm) (hk : k < 9) (hz : lbB k ≤ z ∧ z ≤ ubB k) : BB d (set2 hc (d + 1) (2 + k) z) (set2 hm 103 k z) := by
  obtain ⟨⟨⟨s1, s1b⟩, s2⟩, s3, s4, s5, s6, s7, s8, s9⟩ := s
  refine ⟨⟨⟨by rw [set2_nk _ _ _ _ _ _ (by omega), set2_np _ _ _ _ _ _ (by omega)]; exact s1, by rw [set2_nk _ _ _ _ _ _ (by omega), set2_np _ _ _ _ _ _ (by omega)]; exact s1b⟩, by rw [set2_np _ _ _ _ _ _ (by omega), set2_np _ _ _ _ _ _ (by omega)]; exact s2⟩, fun j hj => ?_, fun c hcn => ?_, ⟨?_, fun j hj => ?_⟩, ?_, ?_, ?_, ?_⟩
  · by_cases y : j = k
    · subst y
      rw [set2_same, set2_same]; exact ⟨rfl, hz⟩
    · rw [set2_nk _ _ _ _ _ _ (by omega), set2_nk _ _ _ _ _ _ y]; exact s3 j hj
  · rw [set2_np _ _ _ _ (d + 2) _ (by omega), set2_np _ _ _ _ (d + 3) _ (by omega), set2_np _ _ _ _ 105 _ (by omega), set2_np _ _ _ _ 109 _ (by omega)]
    exact s4 c hcn
  · rw [set2_np _ _ _ _ _ _ (by omega), set2_np _ _ _ _ _ _ (by omega)]; exact s5.1
  · rw [set2_np _ _ _ _ _ _ (by omega)] at hj
    rw [set2_np _ _ _ _ (d + 4) _ (by omega), set2_np _ _ _ _ 107 _ (by omega), set2_np _ _ _ _ 100 14 (by omega), set2_np _ _ _ _ 100 15 (by omega)]
    exact s5.2 j hj
  · rw [set2_np _ _ _ _ _ _ (by omega), set2_np _ _ _ _ _ _ (by omega)]; exact s6
  · rw [set2_np _ _ _ _ _ _ (by omega), set2_np _ _ _ _ _ _ (by omega)]; exact s7
  · rw [set2_np _ _ _ _ _ _ (by omega), set2_np _ _ _ _ _ _ (by omega)]; exact s8
  · rw [set2_np _ _ _ _ _ _ (by omega), set2_np _ _ _ _ _ _ (by omega)]; exact s9
theorem k_rdT {R : Type} {t : List Int} {i : Nat} (hi : i < t.length) (K : Int → Option R) : rdT t (i : Int) K = K (t.getD i 0) := by
  unfold rdT
  rw [if_pos (by omega), Int.toNat_natCast]
/-- the class reads on behind a fault -/
theorem k_nums_f (hd : 3 ≤ d) : ∀ (n i F : Nat) (g : Hp), i + n ≤ 11 → n < F → g 1 6 ≠ 0 → ∃ g', loopF (g_X0_readNumbers_l18 d 1 ((i + n : Nat) : Int)) F ((i : Int), g) = some g' ∧ CF d g g' ∧ g' 1 = g 1
  | 0, i, F, g, h1, h2, h3 => by
    obtain ⟨F, rfl⟩ : ∃ z, F = z + 1 := ⟨F - 1, by omega⟩
    refine ⟨g, ?_, CF.rf, rfl⟩
    show g_X0_readNumbers_l18 d 1 _ (loopF _ F) ((i : Int), g) = _
    unfold g_X0_readNumbers_l18
    dsimp only
    rw [b_pos (by omega)]
  | n + 1, i, F, g, h1, h2, h3 => by
    obtain ⟨F, rfl⟩ : ∃ z, F = z + 1 := ⟨F - 1, by omega⟩
    have hL : T_X0_LEAST.length = 11 := rfl
    have hM : T_X0_MOST.length = 11 := rfl
    obtain ⟨g', u1, u2, u3⟩ := k_nums_f hd n (i + 1) F (set2 g (d + 1) i (T_X0_LEAST.getD i 0)) (by omega) (by omega) (by rw [set2_np _ _ _ _ _ _ (by omega)]; exact h3)
    refine ⟨g', ?_, (CF.set (by omega) hd).tr u2, by rw [u3, set2_ne 1 (by omega)]⟩
    rw [show i + 1 + n = i + (n + 1) by omega] at u1
    show g_X0_readNumbers_l18 d 1 _ (loopF _ F) ((i : Int), g) = _
    generalize loopF (g_X0_readNumbers_l18 d 1 ((i + (n + 1) : Nat) : Int)) F = self at u1
    unfold g_X0_readNumbers_l18
    dsimp only
    rw [b_neg (by omega), k_rdT (by omega), k_rdT (by omega), k_need_f h3, e_cW, e_wrn _ _ _ _ _ _ (by omega), e_add _ _ _ (by omega), show (i : Int) + 1 = ((i + 1 : Nat) : Int) by omega]
    exact u1
theorem grt {k : Nat} (hk : k < 9) : g_X9_greatest (k : Int) = some (ubB k) := by
  rcases (by omega : k = 0 ∨ k = 1 ∨ k = 2 ∨ k = 3 ∨ k = 4 ∨ k = 5 ∨ k = 6 ∨ k = 7 ∨ k = 8) with rfl | rfl | rfl | rfl | rfl | rfl | rfl | rfl | rfl <;> decide +kernel
theorem lbk {k : Nat} (hk : k < 9) : lbB k = if k = 2 then 1 else if k = 6 then 1 else 0 := by
  rcases (by omega : k = 0 ∨ k = 1 ∨ k = 2 ∨ k = 3 ∨ k = 4 ∨ k = 5 ∨ k = 6 ∨ k = 7 ∨ k = 8) with rfl | rfl | rfl | rfl | rfl | rfl | rfl | rfl | rfl <;> decide +kernel
/-- numbers of the law, one behind the other -/
theorem y_small {w : Nat} (hd : 3 ≤ d) (hw : w = 6 ∨ w < 6) : ∀ (n k F F2 : Nat) (hc hm : Hp), k + n = (if w = 6 then 9 else w + 1) → n < F → n < F2 → TX b L hc hm → AA b L hc hm → NF hc hm → BB d hc hm → RD b L d hc hm (loopF (g_X0_readNumbers_l18 d 1 ((2 + k + n : Nat) : Int)) F (((2 + k : Nat) : Int), hc)) (loopF (g_X9_readSmall_l17 (w : Int)) F2 ((k : Int), hm))
  | 0, k, F, F2, hc, hm, h1, h2, h3, x, a, nf, s => by
    obtain ⟨F, rfl⟩ : ∃ z, F = z + 1 := ⟨F - 1, by omega⟩
    obtain ⟨F2, rfl⟩ : ∃ z, F2 = z + 1 := ⟨F2 - 1, by omega⟩
    refine ⟨hc, ?_, CF.rf, Or.inl ⟨hm, ?_, a, nf, s, MF.rf, Int.le_refl _⟩⟩
    · show g_X0_readNumbers_l18 d 1 _ (loopF _ F) (((2 + k : Nat) : Int), hc) = _
      unfold g_X0_readNumbers_l18
      dsimp only
      rw [b_pos (by omega)]
    · show g_X9_readSmall_l17 (w : Int) (loopF _ F2) ((k : Int), hm) = _
      unfold g_X9_readSmall_l17
      dsimp only
      (rw [e_cI, e_join]; (try dsimp only))
      by_cases z : w = 6
      · rw [if_pos z] at h1
        rw [b_pos (by omega), e_cI, b_pos (by omega), e_cI, retZW_1]
      · rw [if_neg z] at h1
        rw [b_neg (by omega), b_pos (by omega), e_cI, retZW_1]
  | n + 1, k, F, F2, hc, hm, h1, h2, h3, x, a, nf, s => by
    obtain ⟨F, rfl⟩ : ∃ z, F = z + 1 := ⟨F - 1, by omega⟩
    obtain ⟨F2, rfl⟩ : ∃ z, F2 = z + 1 := ⟨F2 - 1, by omega⟩
    have hL : T_X0_LEAST.length = 11 := rfl
    have hM : T_X0_MOST.length = 11 := rfl
    have hk : k < 9 := by split at h1 <;> omega
    obtain ⟨z, hc1, w1, w2, w3⟩ := y_number (l := lbB k) (u := ubB k) x a nf
    have model : ∀ (self : Int × Hp → Option (Int × Hp)), g_X9_readSmall_l17 (w : Int) self ((k : Int), hm) = cW (g_X9_number (lbB k) (ubB k) hm) fun z30 h31 => if z30 = 0 then cI 0 fun z35 => retZW z35 h31 else gF h31 100 7 fun z32 => wrI h31 103 9 (k : Int) z32 fun h33 => addI (k : Int) 1 fun z34 => self (z34, h33) := by
      intro self
      unfold g_X9_readSmall_l17
      dsimp only
      (rw [e_cI, e_join]; (try dsimp only))
      have mid : ∀ a21 : Int, ¬ a21 < (k : Int) → (if a21 < (k : Int) then cI 1 fun z24 => retZW z24 hm else cI 2 fun z25 => joinF (fun (a26 : Int) => cP (g_X9_greatest (k : Int)) fun z29 => cW (g_X9_number a26 z29 hm) fun z30 h31 => if z30 = 0 then cI 0 fun z35 => retZW z35 h31 else gF h31 100 7 fun z32 => wrI h31 103 9 (k : Int) z32 fun h33 => addI (k : Int) 1 fun z34 => self (z34, h33)) fun j27 => joinF (fun (a36 : Unit) => cI 1 fun z38 => j27 z38) fun j37 => if (k : Int) = z25 then j37 () else cI 6 fun z39 => if (k : Int) = z39 then j37 () else cI 0 fun z40 => j27 z40) = cW (g_X9_number (lbB k) (ubB k) hm) fun z30 h31 => if z30 = 0 then cI 0 fun z35 => retZW z35 h31 else gF h31 100 7 fun z32 => wrI h31 103 9 (k : Int) z32 fun h33 => addI (k : Int) 1 fun z34 => self (z34, h33) := by
        intro a21 ha
        rw [b_neg ha, e_cI, grt hk]
        refine join_gen (fun j27 hj27 => ?_)
        rw [e_join]
        have lb := lbk hk
        by_cases y2 : k = 2
        · rw [if_pos y2] at lb
          rw [b_pos (by omega), e_cI, hj27, e_cP, lb]
        rw [if_neg y2] at lb
        by_cases y6 : k = 6
        · rw [if_pos y6] at lb
          rw [b_neg (by omega), e_cI, b_pos (by omega), e_cI, hj27, e_cP, lb]
        · rw [if_neg y6] at lb
          rw [b_neg (by omega), e_cI, b_neg (by omega), e_cI, hj27, e_cP, lb]
      by_cases y : w = 6
      · rw [b_pos (by omega), e_cI, mid 8 (by omega)]
      · rw [if_neg y] at h1
        rw [b_neg (by omega), mid (w : Int) (by omega)]
    have cls : ∀ (self : Int × Hp → Option Hp), g_X0_readNumbers_l18 d 1 ((2 + k + (n + 1) : Nat) : Int) self (((2 + k : Nat) : Int), hc) = self (((2 + (k + 1) : Nat) : Int), set2 hc1 (d + 1) (2 + k) z) := by
      intro self
      unfold g_X0_readNumbers_l18
      dsimp only
      rw [b_neg (by omega), k_rdT (by omega), k_rdT (by omega)]
      show cW (g_X5_need 1 (lbB k) (ubB k) hc) _ = _
      rw [w1, e_cW, e_wrn _ _ _ _ _ _ (by omega), e_add _ _ _ (by omega), show ((2 + k : Nat) : Int) + 1 = ((2 + (k + 1) : Nat) : Int) by omega]
    unfold RD
    show ∃ hc', g_X0_readNumbers_l18 d 1 _ (loopF _ F) (((2 + k : Nat) : Int), hc) = some hc' ∧ CF d hc hc' ∧ ((∃ hm', g_X9_readSmall_l17 (w : Int) (loopF _ F2) ((k : Int), hm) = some (1, hm') ∧ _) ∨ (∃ hm', g_X9_readSmall_l17 (w : Int) (loopF _ F2) ((k : Int), hm) = some (0, hm') ∧ _))
    rw [cls, model]
    rcases w3 with ⟨y, hm1, v1, v2, v3, v4, v5⟩ | ⟨y, hm1, v1, v2, v3⟩
    · have s1 : BB d (set2 hc1 (d + 1) (2 + k) z) (set2 hm1 103 k z) := (s.cm hd w2 v5).law hk y
      have a1 : AA b L (set2 hc1 (d + 1) (2 + k) z) (set2 hm1 103 k z) := v2.out (by omega) (by omega)
      have n1 : NF (set2 hc1 (d + 1) (2 + k) z) (set2 hm1 103 k z) := (v3.outC (by omega)).outM (by omega)
      have x1 : TX b L (set2 hc1 (d + 1) (2 + k) z) (set2 hm1 103 k z) := ((x.c w2).m v5).cf hd (CF.set (by omega) hd) (MF.row (by omega))
      obtain ⟨hc2, r1, r2, r3⟩ := y_small hd hw n (k + 1) F F2 _ _ (by omega) (by omega) (by omega) x1 a1 n1 s1
      rw [show 2 + (k + 1) + n = 2 + k + (n + 1) by omega] at r1
      rw [v1, e_cW, b_neg (by decide), e_gF, v4, e_wrn _ _ _ _ _ _ hk, e_add _ _ _ (by omega), show (k : Int) + 1 = ((k + 1 : Nat) : Int) by omega]
      have mono : hc 1 2 ≤ set2 hc1 (d + 1) (2 + k) z 1 2 := by rw [set2_np _ _ _ _ _ _ (by omega)]; exact w2.2.2
      refine ⟨hc2, r1, (w2.cf.tr (CF.set (by omega) hd)).tr r2, ?_⟩
      rcases r3 with ⟨hm2, t1, t2, t3, t4, t5, t6⟩ | ⟨hm2, t1, t2, t3⟩
      · exact Or.inl ⟨hm2, t1, t2, t3, t4, (v5.mf.tr (MF.row (by omega))).tr t5, Int.le_trans mono t6⟩
      · exact Or.inr ⟨hm2, t1, t2, (v5.mf.tr (MF.row (by omega))).tr t3⟩
    · obtain ⟨hc2, u1, u2, u3⟩ := k_nums_f (d := d) hd n (2 + (k + 1)) F (set2 hc1 (d + 1) (2 + k) z) (by split at h1 <;> omega) (by omega) (by rw [set2_np _ _ _ _ _ _ (by omega)]; exact v2.1)
      rw [show 2 + (k + 1) + n = 2 + k + (n + 1) by omega] at u1
      rw [v1, e_cW, b_pos rfl, e_cI, retZW_0]
      refine ⟨hc2, u1, (w2.cf.tr (CF.set (by omega) hd)).tr u2, Or.inr ⟨hm1, rfl, ?_, v3.mf⟩⟩
      have := v2.outC (p := d + 1) (k := 2 + k) (x := z) (by omega)
      unfold FF at this ⊢
      rw [u3]
      exact this
/-- bits -/
def bsC (x : Int) (i : Int) : Int := (iI (shP x i) &&& iI 1).toInt
def orS (x y i : Int) : Int := (iI x ||| iI ((iI y <<< (iI i &&& 31)).toInt)).toInt
theorem e_bit {R : Type} (x i : Int) (K : Int → Option R) : (shrI x i fun z2 => cI 1 fun z3 => andI z2 z3 K) = K (bsC x i) := nrfl rfl
theorem e_orS {R : Type} (x y i : Int) (K : Int → Option R) : (shlI y i fun z => orI x z K) = K (orS x y i) := nrfl rfl
theorem bits_all : ∀ m : Fin 256, ∀ k : Fin 7, bsC (cbB (m.val : Int)) ((2 + k.val : Nat) : Int) = bsC (m.val : Int) ((k.val + 1 : Nat) : Int) ∧ (bsC (m.val : Int) ((k.val + 1 : Nat) : Int) = 0 ∨ bsC (m.val : Int) ((k.val + 1 : Nat) : Int) = 1) ∧ orS (cbB (m.val : Int)) 1 ((2 + k.val : Nat) : Int) = cbB (orS (m.val : Int) 2 (k.val : Int)) ∧ 0 ≤ orS (m.val : Int) 2 (k.val : Int) ∧ orS (m.val : Int) 2 (k.val : Int) < 256 := by
  decide +kernel
theorem bits_0 : ∀ m : Fin 256, bsC (cbB (m.val : Int)) 0 = (iI (m.val : Int) &&& iI 1).toInt ∧ (bsC (cbB (m.val : Int)) 0 = 0 ∨ bsC (cbB (m.val : Int)) 0 = 1) ∧ orS (cbB (m.val : Int)) 1 0 = cbB ((iI (m.val : Int) ||| iI 1).toInt) ∧ 0 ≤ (iI (m.val : Int) ||| iI 1).toInt ∧ (iI (m.val : Int) ||| iI 1).toInt < 256 := by
  decide +kernel
theorem bits_k {m : Int} {k : Nat} (hm : 0 ≤ m ∧ m < 256) (hk : k < 7) : bsC (cbB m) ((2 + k : Nat) : Int) = bsC m ((k + 1 : Nat) : Int) ∧ (bsC m ((k + 1 : Nat) : Int) = 0 ∨ bsC m ((k + 1 : Nat) : Int) = 1) ∧ orS (cbB m) 1 ((2 + k : Nat) : Int) = cbB (orS m 2 (k : Int)) ∧ 0 ≤ orS m 2 (k : Int) ∧ orS m 2 (k : Int) < 256 := by
  obtain ⟨n, rfl⟩ := Int.eq_ofNat_of_zero_le hm.1
  exact bits_all ⟨n, by omega⟩ ⟨k, hk⟩
theorem bits_b {m : Int} (hm : 0 ≤ m ∧ m < 256) : bsC (cbB m) 0 = (iI m &&& iI 1).toInt ∧ (bsC (cbB m) 0 = 0 ∨ bsC (cbB m) 0 = 1) ∧ orS (cbB m) 1 0 = cbB ((iI m ||| iI 1).toInt) ∧ 0 ≤ (iI m ||| iI 1).toInt ∧ (iI m ||| iI 1).toInt < 256 := by
  obtain ⟨n, rfl⟩ := Int.eq_ofNat_of_zero_le hm.1
  exact bits_0 ⟨n, by omega⟩
theorem BB.bits {m : Int} (s : BB d hc hm) (hm' : 0 ≤ m ∧ m < 256) : BB d (set2 hc d 7 (cbB m)) (set2 hm 100 18 m) := by
  obtain ⟨s2, s3, s4, s5, s6, s7, s8, s9⟩ := s
  have e1 : ∀ j, j ≠ 18 → set2 hm 100 18 m 100 j = hm 100 j := fun j hj => set2_nk _ _ _ _ _ _ hj
  have e2 : ∀ j, j ≠ 7 → set2 hc d 7 (cbB m) d j = hc d j := fun j hj => set2_nk _ _ _ _ _ _ hj
  have e3 : ∀ p, p ≠ d → set2 hc d 7 (cbB m) p = hc p := fun p hp => set2_ne p hp
  have e4 : ∀ p, p ≠ 100 → set2 hm 100 18 m p = hm p := fun p hp => set2_ne p hp
  have e5 : set2 hm 100 18 m 100 18 = m := set2_same _ _ _ _
  have e6 : set2 hc d 7 (cbB m) d 7 = cbB m := set2_same _ _ _ _
  generalize set2 hc d 7 (cbB m) = gc at *
  generalize set2 hm 100 18 m = gm at *
  unfold BB
  rw [e3 (d + 1) (by omega), e3 (d + 2) (by omega), e3 (d + 3) (by omega), e3 (d + 4) (by omega), e4 103 (by omega), e4 105 (by omega), e4 107 (by omega), e4 109 (by omega), e1 14 (by omega), e1 15 (by omega), e1 16 (by omega), e1 17 (by omega), e1 27 (by omega), e2 5 (by omega), e2 6 (by omega), e2 8 (by omega), e5, e6]
  exact ⟨s2, s3, s4, s5, s6, ⟨hm', rfl⟩, s8, s9⟩
theorem k_howMany (x : Int) : g_X0_howMany x = some (if x = 8 then 3 else if x = 0 then 2 else 1) := by
  unfold g_X0_howMany
  rw [e_cI]
  by_cases z : x = 8
  · rw [b_pos z, e_cI, if_pos z]
  (rw [b_neg z, e_join]; (try dsimp only); rw [if_neg z])
  by_cases y : x = 0
  · rw [b_pos y, e_cI, if_pos y]
  · rw [b_neg y, e_cI, if_neg y]
theorem y_readSmall {w : Nat} (hd : 3 ≤ d) (hw : w < 7) (x : TX b L hc hm) (s : SS b L hc hm) (n : NF hc hm) (bb : BB d hc hm) (hwd : g_X9_wordAt hm = some (w : Int)) : RD b L d hc hm (g_X0_readNumbers d 1 ((2 + w : Nat) : Int) hc) (g_X9_readSmall hm) := by
  have b7 := bb.2.2.2.2.2.1
  obtain ⟨q1, q2, q3, q4⟩ := bits_k (k := w) b7.1 hw
  unfold g_X0_readNumbers g_X9_readSmall
  rw [e_gF hc, b7.2, e_bit, q1, hwd, e_cP, e_cI (-1), b_neg (show ¬ (w : Int) = -1 by omega), e_gF hm, e_cI 1, e_add (w : Int) 1 _ (by omega), show (w : Int) + 1 = ((w + 1 : Nat) : Int) by omega, e_bit, e_cI 1]
  have tail : ∀ (g : Hp), (gF g d 7 fun z8 => cI 1 fun z9 => shlI z9 ((2 + w : Nat) : Int) fun z10 => orI z8 z10 fun z11 => pF g d 7 z11 fun h12 => cI 11 fun z13 => cP (g_X0_howMany ((2 + w : Nat) : Int)) fun z14 => addI ((2 + w : Nat) : Int) z14 fun z15 => minI z13 z15 fun z16 => loopF (g_X0_readNumbers_l18 d 1 z16) FU (((2 + w : Nat) : Int), h12)) = loopF (g_X0_readNumbers_l18 d 1 ((2 + w + (if w = 6 then 3 else 1) : Nat) : Int)) FU (((2 + w : Nat) : Int), set2 g d 7 (orS (g d 7) 1 ((2 + w : Nat) : Int))) := by
    intro g
    rw [e_gF, e_cI, e_orS, e_pF, e_cI, k_howMany, e_cP]
    by_cases y : w = 6
    · rw [if_pos (show ((2 + w : Nat) : Int) = 8 by omega), e_add _ _ _ (by omega), e_min, if_neg (by omega), if_pos y, show ((2 + w + 3 : Nat) : Int) = 11 by omega]
    · rw [if_neg (show ¬ ((2 + w : Nat) : Int) = 8 by omega), if_neg (show ¬ ((2 + w : Nat) : Int) = 0 by omega), e_add _ _ _ (by omega), e_min, if_pos (by omega), if_neg y]
      rfl
  rcases q2 with z | z
  · -- not told yet
    have s1 : BB d (set2 hc d 7 (cbB (orS (hm 100 18) 2 (w : Int)))) (set2 hm 100 18 (orS (hm 100 18) 2 (w : Int))) := bb.bits q4
    have ss1 : SS b L (set2 hc d 7 (cbB (orS (hm 100 18) 2 (w : Int)))) (set2 hm 100 18 (orS (hm 100 18) 2 (w : Int))) := (s.outC (by omega)).outM (by omega)
    have x1 : TX b L (set2 hc d 7 (cbB (orS (hm 100 18) 2 (w : Int)))) (set2 hm 100 18 (orS (hm 100 18) 2 (w : Int))) := x.cf hd (CF.set (by omega) hd) (MF.set (by omega))
    have n1 : NF (set2 hc d 7 (cbB (orS (hm 100 18) 2 (w : Int)))) (set2 hm 100 18 (orS (hm 100 18) 2 (w : Int))) := (n.outC (by omega)).outM (by omega)
    obtain ⟨hm2, u1, u2, u3, u4⟩ := y_scan x1 ss1
    have n2 : NF (set2 hc d 7 (cbB (orS (hm 100 18) 2 (w : Int)))) hm2 := ⟨n1.1, by rw [u4 8 (by omega)]; exact n1.2.1, n1.2.2.1, by rw [u4 9 (by omega)]; exact n1.2.2.2⟩
    have s2 : BB d (set2 hc d 7 (cbB (orS (hm 100 18) 2 (w : Int)))) hm2 := s1.cm hd TC.rf u3
    obtain ⟨hc', r1, r2, r3⟩ := y_small (b := b) (L := L) (w := w) hd (by omega) (if w = 6 then 3 else 1) w FU FU _ _ (by split <;> omega) (by split <;> exact fu _ (by omega)) (by split <;> exact fu _ (by omega)) (x1.m u3) u2 n2 s2
    refine ⟨hc', ?_, (CF.set (by omega) hd).tr r2, ?_⟩
    · refine join_gen (fun j6 hj6 => ?_)
      rw [b_pos z, b_neg (show ¬ ((2 + w : Nat) : Int) = 0 by omega), hj6, tail, b7.2, q3]
      exact r1
    · rw [b_neg (show ¬ bsC (hm 100 18) ((w + 1 : Nat) : Int) = 1 by omega), e_gF hm, e_cI 2, e_orS, e_pF, u1, e_cV]
      have mono : hc 1 2 = set2 hc d 7 (cbB (orS (hm 100 18) 2 (w : Int))) 1 2 := by rw [set2_np _ _ _ _ _ _ (by omega)]
      rcases r3 with ⟨hm3, t1, t2, t3, t4, t5, t6⟩ | ⟨hm3, t1, t2, t3⟩
      · exact Or.inl ⟨hm3, t1, t2, t3, t4, ((MF.set (by omega)).tr u3.mf).tr t5, by rw [mono]; exact t6⟩
      · exact Or.inr ⟨hm3, t1, t2, ((MF.set (by omega)).tr u3.mf).tr t3⟩
  · obtain ⟨hc1, u1, ⟨hm2, u2, u3, u4⟩, u5, u6⟩ := y_refuse (f := 3) s n (by decide)
    obtain ⟨hc2, v1, v2, v3⟩ := k_nums_f (d := d) hd (if w = 6 then 3 else 1) (2 + w) FU (set2 hc1 d 7 (orS (hc1 d 7) 1 ((2 + w : Nat) : Int))) (by split <;> omega) (by split <;> exact fu _ (by omega)) (by rw [set2_np _ _ _ _ _ _ (by omega)]; exact u6)
    refine ⟨hc2, ?_, (u5.cf.tr (CF.set (by omega) hd)).tr v2, Or.inr ⟨hm2, ?_, ?_, u4.mf⟩⟩
    · refine join_gen (fun j6 hj6 => ?_)
      rw [b_neg (by omega), e_cI 3, u1, e_cV, hj6, tail]
      exact v1
    · rw [b_pos z, e_cI 3, u2, e_cW, retZW_0]
    · have := u3.outC (p := d) (k := 7) (x := orS (hc1 d 7) 1 ((2 + w : Nat) : Int)) (by omega)
      unfold FF at this ⊢
      rw [v3]
      exact this
end BEACH
