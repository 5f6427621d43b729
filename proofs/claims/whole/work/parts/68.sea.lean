/-! READING a sea -/
def csB (m : Int) : Int := m % 2 + 16 * (m / 2 % 2) + 64 * (m / 4 % 2) + 256 * (m / 8 % 2)
def fsP (w : Nat) : Nat := if w = 0 then 0 else if w = 1 then 4 else if w = 2 then 6 else 8
def EQ (v : Nat) (hc hm : Hp) : Prop :=
  ((hc (v + 1) 0 = hm 113 0 ∧ hc (v + 1) 1 = hm 113 1 ∧ hc (v + 1) 2 = hm 113 2 ∧ hc (v + 1) 3 = hm 113 3) ∧ (hc (v + 1) 4 = hm 116 0 ∧ hc (v + 1) 5 = hm 116 1 ∧ hc (v + 1) 6 = hm 117 0 ∧ hc (v + 1) 7 = hm 117 1 ∧ hc (v + 1) 8 = hm 100 40)) ∧
  (hc v 4 = hm 100 30 ∧ ∀ k : Nat, k < (hm 100 30).toNat → hc (v + 2) k = hm 111 (3 * k) ∧ hc (v + 3) k = hm 111 (3 * k + 1) ∧ hc (v + 4) k = hm 111 (3 * k + 2)) ∧
  hc v 5 = hm 100 17 ∧ hc v 6 = csB (hm 100 18)
def TB0 (hm : Hp) : Prop := (hm 113 0 = -1 ∧ hm 113 2 = -1) ∨ ((0 ≤ hm 113 0 ∧ hm 113 0 ≤ 359) ∧ (hm 113 0 ≤ hm 113 1 ∧ hm 113 1 ≤ 359) ∧ (1 ≤ hm 113 2 ∧ hm 113 2 ≤ 60) ∧ (0 ≤ hm 113 3 ∧ hm 113 3 ≤ 100))
def WB (hm : Hp) : Prop := (0 ≤ hm 100 30 ∧ hm 100 30 ≤ 12) ∧ ∀ k : Nat, k < (hm 100 30).toNat → (0 ≤ hm 111 (3 * k) ∧ hm 111 (3 * k) ≤ 359) ∧ (1 ≤ hm 111 (3 * k + 1) ∧ hm 111 (3 * k + 1) ≤ 8) ∧ (0 ≤ hm 111 (3 * k + 2) ∧ hm 111 (3 * k + 2) ≤ 99)
def SBd (hm : Hp) : Prop := TB0 hm ∧ (1 ≤ hm 116 0 ∧ hm 116 0 ≤ hm 116 1 ∧ hm 116 1 ≤ 8) ∧ (0 ≤ hm 117 0 ∧ hm 117 0 ≤ hm 117 1 ∧ hm 117 1 ≤ 99) ∧ (0 ≤ hm 100 40 ∧ hm 100 40 ≤ 9) ∧ WB hm ∧ (0 ≤ hm 100 18 ∧ hm 100 18 < 16)
def CS (v : Nat) (hc hc' : Hp) : Prop := (∀ p, p ≠ 1 → (p < v ∨ v + 4 < p) → hc' p = hc p) ∧ (∀ j, j < 2 → hc' 1 j = hc 1 j)
def MS (hm hm' : Hp) : Prop := (∀ p, p ≠ 100 → p ≠ 111 → p ≠ 113 → p ≠ 116 → p ≠ 117 → hm' p = hm p) ∧ (∀ j, j < 3 ∨ (9 < j ∧ j ≠ 17 ∧ j ≠ 18 ∧ j ≠ 30 ∧ j ≠ 40) → hm' 100 j = hm 100 j)
theorem CS.rf {v : Nat} {h : Hp} : CS v h h := ⟨fun _ _ _ => rfl, fun _ _ => rfl⟩
theorem CS.tr {v : Nat} {a b c : Hp} (x : CS v a b) (y : CS v b c) : CS v a c := ⟨fun p hp hq => (y.1 p hp hq).trans (x.1 p hp hq), fun j hj => (y.2 j hj).trans (x.2 j hj)⟩
theorem MS.rf {h : Hp} : MS h h := ⟨fun _ _ _ _ _ _ => rfl, fun _ _ => rfl⟩
theorem MS.tr {a b c : Hp} (x : MS a b) (y : MS b c) : MS a c := ⟨fun p h1 h2 h3 h4 h5 => (y.1 p h1 h2 h3 h4 h5).trans (x.1 p h1 h2 h3 h4 h5), fun j hj => (y.2 j hj).trans (x.2 j hj)⟩
theorem TC.cs {v : Nat} {a b : Hp} (x : TC a b) : CS v a b := ⟨fun p hp _ => x.1 p hp, fun j hj => x.2.1 j (by omega)⟩
theorem TM.ms {a b : Hp} (x : TM a b) : MS a b := ⟨fun p h1 _ _ _ _ => x.1 p h1, fun j hj => x.2 j (by omega)⟩
theorem CS.set {v p k : Nat} {h : Hp} {x : Int} (hp : v ≤ p ∧ p ≤ v + 4) (hv : 15 ≤ v) : CS v h (set2 h p k x) := ⟨fun q _ hq => set2_ne q (by omega), fun j _ => set2_np _ _ _ _ _ _ (by omega)⟩
theorem MS.set {h : Hp} {j : Nat} {x : Int} (hj : (3 ≤ j ∧ j ≤ 9) ∨ j = 17 ∨ j = 18 ∨ j = 30 ∨ j = 40) : MS h (set2 h 100 j x) := ⟨fun p h1 _ _ _ _ => set2_ne p h1, fun k hk => set2_nk _ _ _ _ _ _ (by omega)⟩
theorem MS.row {h : Hp} {p k : Nat} {x : Int} (hp : p = 111 ∨ p = 113 ∨ p = 116 ∨ p = 117) : MS h (set2 h p k x) := ⟨fun q _ h1 h2 h3 h4 => set2_ne q (by omega), fun j _ => set2_np _ _ _ _ _ _ (by omega)⟩
theorem TX.cs {b : Nat → Int} {L v : Nat} {hc hm hc' hm' : Hp} (x : TX b L hc hm) (hv : 15 ≤ v) (c : CS v hc hc') (m : MS hm hm') : TX b L hc' hm' :=
  x.mv ⟨c.1 2 (by omega) (by omega), c.2 1 (by omega)⟩ ⟨m.1 101 (by omega) (by omega) (by omega) (by omega) (by omega), m.2 2 (by omega)⟩
theorem EQ.mv {v : Nat} {hc hm hc' hm' : Hp} (s : EQ v hc hm) (c : ∀ p, v ≤ p → p ≤ v + 4 → hc' p = hc p) (m : hm' 111 = hm 111 ∧ hm' 113 = hm 113 ∧ hm' 116 = hm 116 ∧ hm' 117 = hm 117) (m2 : ∀ j, j = 17 ∨ j = 18 ∨ j = 30 ∨ j = 40 → hm' 100 j = hm 100 j) : EQ v hc' hm' := by
  unfold EQ at s ⊢
  rw [c v (by omega) (by omega), c (v + 1) (by omega) (by omega), c (v + 2) (by omega) (by omega), c (v + 3) (by omega) (by omega), c (v + 4) (by omega) (by omega), m.1, m.2.1, m.2.2.1, m.2.2.2, m2 17 (by omega), m2 18 (by omega), m2 30 (by omega), m2 40 (by omega)]
  exact s
theorem EQ.cm {v : Nat} {hc hm hc' hm' : Hp} (s : EQ v hc hm) (hv : 15 ≤ v) (c : TC hc hc') (m : TM hm hm') : EQ v hc' hm' :=
  s.mv (fun p h1 h2 => c.1 p (by omega)) ⟨m.1 111 (by omega), m.1 113 (by omega), m.1 116 (by omega), m.1 117 (by omega)⟩ (fun j hj => m.2 j (by omega))
theorem SBd.m {hm hm' : Hp} (s : SBd hm) (m : TM hm hm') : SBd hm' := by
  unfold SBd TB0 WB at s ⊢
  rw [m.1 111 (by omega), m.1 113 (by omega), m.1 116 (by omega), m.1 117 (by omega), m.2 18 (by omega), m.2 30 (by omega), m.2 40 (by omega)]
  exact s
def SD (b : Nat → Int) (L v : Nat) (hc hm : Hp) (C : Option Hp) (M : Option (Int × Hp)) : Prop :=
  ∃ hc', C = some hc' ∧ CS v hc hc' ∧ ((∃ hm', M = some (1, hm') ∧ AA b L hc' hm' ∧ NF hc' hm' ∧ (EQ v hc' hm' ∧ SBd hm') ∧ MS hm hm' ∧ hc 1 2 ≤ hc' 1 2) ∨ ∃ hm', M = some (0, hm') ∧ FF hc' hm' ∧ MS hm hm')
def loS (v i : Nat) (g : Hp) : Int := if i = 1 then g (v + 1) 0 else if i = 5 then g (v + 1) 4 else if i = 7 then g (v + 1) 6 else T_X2_LEAST.getD i 0
def mW (i : Nat) (z : Int) (g : Hp) : Hp := if i = 0 then set2 g 113 0 z else if i = 1 then set2 g 113 1 z else if i = 2 then set2 g 113 2 z else if i = 3 then set2 g 113 3 z else if i = 4 then set2 g 116 0 z else if i = 5 then set2 g 116 1 z else if i = 6 then set2 g 117 0 z else if i = 7 then set2 g 117 1 z else set2 g 100 40 z
section SEA
variable {b : Nat → Int} {L v : Nat} {hc hm : Hp}
theorem mW_ms {i : Nat} {z : Int} {g : Hp} : MS g (mW i z g) := by
  unfold mW
  (repeat' split) <;> first | exact MS.row (by omega) | exact MS.set (by omega)
theorem mW_cell {i : Nat} {z : Int} {g : Hp} : ∃ q j, mW i z g = set2 g q j z ∧ (q ≠ 100 ∨ j = 40) := by
  unfold mW
  (repeat' split) <;> exact ⟨_, _, rfl, by omega⟩
theorem csW {x z : Int} {g : Hp} (k : Nat) {i : Nat} : set2 g (v + 1) i z (v + 1) k = if k = i then z else g (v + 1) k := by
  by_cases y : k = i
  · rw [if_pos y, y, set2_same]
  · rw [if_neg y, set2_nk _ _ _ _ _ _ y]
theorem EQ.num {i : Nat} {z : Int} (s : EQ v hc hm) (hi : i < 9) : EQ v (set2 hc (v + 1) i z) (mW i z hm) := by
  obtain ⟨⟨⟨s0, s1, s2, s3⟩, s4, s5, s6, s7, s8⟩, ⟨w1, w2⟩, c1, c2⟩ := s
  have e3 : ∀ p, p ≠ v + 1 → set2 hc (v + 1) i z p = hc p := fun p hp => set2_ne p hp
  have e7 : ∀ k, set2 hc (v + 1) i z (v + 1) k = if k = i then z else hc (v + 1) k := fun k => csW (x := 0) k
  generalize set2 hc (v + 1) i z = gc at *
  unfold EQ
  rw [e3 v (by omega), e3 (v + 2) (by omega), e3 (v + 3) (by omega), e3 (v + 4) (by omega)]
  simp only [e7]
  rcases (by omega : i = 0 ∨ i = 1 ∨ i = 2 ∨ i = 3 ∨ i = 4 ∨ i = 5 ∨ i = 6 ∨ i = 7 ∨ i = 8) with rfl | rfl | rfl | rfl | rfl | rfl | rfl | rfl | rfl <;>
    (refine ⟨⟨⟨?_, ?_, ?_, ?_⟩, ?_, ?_, ?_, ?_, ?_⟩, ⟨?_, ?_⟩, ?_, ?_⟩ <;> first | rfl | assumption)
theorem k_sstep {i N F : Nat} {g : Hp} (h : i < N) (hN : N ≤ 9) : loopF (g_X2_readNumbers_l17 v 1 (N : Int)) (F + 1) ((i : Int), g) = cW (g_X5_need 1 (loS v i g) (T_X2_MOST.getD i 0) g) fun z h => loopF (g_X2_readNumbers_l17 v 1 (N : Int)) F (((i + 1 : Nat) : Int), set2 h (v + 1) i z) := by
  have hL : T_X2_LEAST.length = 9 := rfl
  have hM : T_X2_MOST.length = 9 := rfl
  show g_X2_readNumbers_l17 v 1 _ (loopF _ F) ((i : Int), g) = _
  generalize loopF (g_X2_readNumbers_l17 v 1 (N : Int)) F = self
  unfold g_X2_readNumbers_l17
  dsimp only
  rw [b_neg (by omega)]
  have es : g_X2_isEndOfSpan (i : Int) = some (if i = 1 ∨ i = 5 ∨ i = 7 then 1 else 0) := by
    rcases (by omega : i = 0 ∨ i = 1 ∨ i = 2 ∨ i = 3 ∨ i = 4 ∨ i = 5 ∨ i = 6 ∨ i = 7 ∨ i = 8) with rfl | rfl | rfl | rfl | rfl | rfl | rfl | rfl | rfl <;> decide +kernel
  rw [es, e_cP]
  refine join_gen (fun j22 hj22 => ?_)
  have go : ∀ a, j22 a = cW (g_X5_need 1 a (T_X2_MOST.getD i 0) g) fun z h => self (((i + 1 : Nat) : Int), set2 h (v + 1) i z) := by
    intro a
    rw [hj22, k_rdT (by omega)]
    refine cW_cg (fun z u => ?_)
    rw [e_wrn _ _ _ _ _ _ (by omega), e_add _ _ _ (by omega), show (i : Int) + 1 = ((i + 1 : Nat) : Int) by omega]
  by_cases y : i = 1 ∨ i = 5 ∨ i = 7
  · obtain ⟨k, hk⟩ : ∃ k, i = k + 1 := ⟨i - 1, by omega⟩
    rw [if_pos y, b_neg (by decide), e_cI, e_sub _ _ _ (by omega), show (i : Int) - 1 = (k : Int) by omega, e_rdn _ _ _ _ _ (by omega), go]
    have : loS v i g = g (v + 1) k := by
      unfold loS
      rcases y with y | y | y
      · rw [if_pos y, show k = 0 by omega]
      · rw [if_neg (by omega), if_pos y, show k = 4 by omega]
      · rw [if_neg (by omega), if_neg (by omega), if_pos y, show k = 6 by omega]
    rw [this]
  · rw [if_neg y, b_pos rfl, k_rdT (by omega), go]
    have : loS v i g = T_X2_LEAST.getD i 0 := by
      unfold loS
      rw [if_neg (by omega), if_neg (by omega), if_neg (by omega)]
    rw [this]
theorem k_send {N F : Nat} {g : Hp} : loopF (g_X2_readNumbers_l17 v 1 (N : Int)) (F + 1) ((N : Int), g) = some g := by
  show g_X2_readNumbers_l17 v 1 _ (loopF _ F) ((N : Int), g) = _
  unfold g_X2_readNumbers_l17
  dsimp only
  rw [b_pos (by omega)]
theorem k_snums_f (hv : 15 ≤ v) : ∀ (n i F : Nat) (g : Hp), i + n ≤ 9 → n < F → g 1 6 ≠ 0 → ∃ g', loopF (g_X2_readNumbers_l17 v 1 ((i + n : Nat) : Int)) F ((i : Int), g) = some g' ∧ CS v g g' ∧ g' 1 = g 1
  | 0, i, F, g, h1, h2, h3 => by
    obtain ⟨F, rfl⟩ : ∃ z, F = z + 1 := ⟨F - 1, by omega⟩
    exact ⟨g, k_send, CS.rf, rfl⟩
  | n + 1, i, F, g, h1, h2, h3 => by
    obtain ⟨F, rfl⟩ : ∃ z, F = z + 1 := ⟨F - 1, by omega⟩
    obtain ⟨g', u1, u2, u3⟩ := k_snums_f hv n (i + 1) F (set2 g (v + 1) i (loS v i g)) (by omega) (by omega) (by rw [set2_np _ _ _ _ _ _ (by omega)]; exact h3)
    refine ⟨g', ?_, (CS.set (by omega) hv).tr u2, by rw [u3, set2_ne 1 (by omega)]⟩
    rw [k_sstep (by omega) h1, k_need_f h3, e_cW, show i + (n + 1) = i + 1 + n by omega]
    exact u1
/-- one number of several -/
theorem y_sstep {i n F : Nat} {l u : Int} (hv : 15 ≤ v) (hi : i + (n + 1) ≤ 9) (hF : n + 1 < F + 1) (x : TX b L hc hm) (a : AA b L hc hm) (nf : NF hc hm) (eq : EQ v hc hm) (hl : loS v i hc = l) (hu : T_X2_MOST.getD i 0 = u) :
    (∃ z hc1 hm1, (l ≤ z ∧ z ≤ u) ∧ loopF (g_X2_readNumbers_l17 v 1 ((i + (n + 1) : Nat) : Int)) (F + 1) ((i : Int), hc) = loopF (g_X2_readNumbers_l17 v 1 ((i + (n + 1) : Nat) : Int)) F (((i + 1 : Nat) : Int), hc1) ∧ hc1 (v + 1) i = z ∧ g_X9_number l u hm = some (1, hm1) ∧ hm1 100 7 = z ∧
      TX b L hc1 (mW i z hm1) ∧ AA b L hc1 (mW i z hm1) ∧ NF hc1 (mW i z hm1) ∧ EQ v hc1 (mW i z hm1) ∧ CS v hc hc1 ∧ TM hm hm1 ∧ hc 1 2 ≤ hc1 1 2 ∧ (∀ k, k ≠ i → hc1 (v + 1) k = hc (v + 1) k)) ∨
    (∃ hc' hm1, loopF (g_X2_readNumbers_l17 v 1 ((i + (n + 1) : Nat) : Int)) (F + 1) ((i : Int), hc) = some hc' ∧ CS v hc hc' ∧ g_X9_number l u hm = some (0, hm1) ∧ FF hc' hm1 ∧ TM hm hm1) := by
  obtain ⟨z, hc1, w1, w2, w3⟩ := y_number (l := l) (u := u) x a nf
  rw [k_sstep (by omega) hi, hl, hu, w1, e_cW]
  rcases w3 with ⟨y, hm1, v1, v2, v3, v4, v5⟩ | ⟨y, hm1, v1, v2, v3⟩
  · left
    have cs : CS v hc1 (set2 hc1 (v + 1) i z) := CS.set (by omega) hv
    obtain ⟨q, j, m1, m2⟩ := mW_cell (i := i) (z := z) (g := hm1)
    refine ⟨z, set2 hc1 (v + 1) i z, hm1, y, rfl, set2_same _ _ _ _, v1, v4, ((x.c w2).m v5).cs hv cs mW_ms, ?_, ?_, (eq.cm hv w2 v5).num (by omega), w2.cs.tr cs, v5, ?_, fun k hk => by rw [set2_nk _ _ _ _ _ _ hk, w2.1 (v + 1) (by omega)]⟩
    · rw [m1]; exact v2.out (by omega) (by omega)
    · rw [m1]; exact (v3.outC (by omega)).outM (by omega)
    · rw [set2_np _ _ _ _ _ _ (by omega)]; exact w2.2.2
  · right
    obtain ⟨hc2, r1, r2, r3⟩ := k_snums_f (v := v) hv n (i + 1) F (set2 hc1 (v + 1) i z) (by omega) (by omega) (by rw [set2_np _ _ _ _ _ _ (by omega)]; exact v2.1)
    rw [show i + 1 + n = i + (n + 1) by omega] at r1
    refine ⟨hc2, hm1, r1, (w2.cs.tr (CS.set (by omega) hv)).tr r2, v1, ?_, v3⟩
    have := v2.outC (p := v + 1) (k := i) (x := z) (by omega)
    unfold FF at this ⊢
    rw [r3]
    exact this
/-- the tide -/
theorem y_tide {F : Nat} (hv : 15 ≤ v) (hF : 10 < F) (x : TX b L hc hm) (a : AA b L hc hm) (nf : NF hc hm) (eq : EQ v hc hm) (sb : SBd hm) : SD b L v hc hm (loopF (g_X2_readNumbers_l17 v 1 ((0 + (3 + 1) : Nat) : Int)) F (((0 : Nat) : Int), hc)) (g_X9_readTide hm) := by
  obtain ⟨F, rfl⟩ : ∃ z, F = z + 1 + 1 + 1 + 1 + 1 := ⟨F - 5, by omega⟩
  obtain ⟨-, sb2, sb3, sb4, sb5, sb6⟩ := sb
  unfold g_X9_readTide
  rw [e_cI, e_cI]
  rcases y_sstep (i := 0) (n := 3) (l := 0) (u := 359) (F := F + 1 + 1 + 1 + 1) hv (by omega) (by omega) x a nf eq rfl rfl with ⟨z0, c0, m0, y0, p1, p2, p3, p4, p5, p6, p7, p8, p9, p10, p11, -⟩ | ⟨hc', m0, p1, p2, p3, p4, p5⟩
  rotate_left
  · rw [p1, p3, e_cW, b_pos rfl, e_cI, retZW_0]
    exact ⟨hc', rfl, p2, Or.inr ⟨m0, rfl, p4, p5.ms⟩⟩
  have w0 : mW 0 z0 m0 = set2 m0 113 0 z0 := rfl
  rw [p1, p3, e_cW, b_neg (by decide), e_cI, e_gF m0, p4, e_wr _ _ _ _ _ _ (by omega), show (0 : Int).toNat = 0 from rfl, ← w0, e_gF (mW 0 z0 m0), show mW 0 z0 m0 100 7 = z0 by rw [w0, set2_np _ _ _ _ _ _ (by omega), p4], e_cI]
  have f0 : MS hm (mW 0 z0 m0) := p10.ms.tr mW_ms
  have b0 : mW 0 z0 m0 113 0 = z0 ∧ mW 0 z0 m0 116 = hm 116 ∧ mW 0 z0 m0 117 = hm 117 ∧ mW 0 z0 m0 111 = hm 111 ∧ ∀ j, 9 < j → mW 0 z0 m0 100 j = hm 100 j := by
    rw [w0]
    exact ⟨set2_same _ _ _ _, by rw [set2_ne _ (by omega), p10.1 116 (by omega)], by rw [set2_ne _ (by omega), p10.1 117 (by omega)], by rw [set2_ne _ (by omega), p10.1 111 (by omega)], fun j hj => by rw [set2_np _ _ _ _ _ _ (by omega), p10.2 j (by omega)]⟩
  generalize mW 0 z0 m0 = M0 at *
  rcases y_sstep (i := 1) (n := 2) (l := z0) (u := 359) (F := F + 1 + 1 + 1) hv (by omega) (by omega) p5 p6 p7 p8 (by unfold loS; rw [if_pos rfl]; exact p2) rfl with ⟨z1, c1, m1, y1, q1, q2, q3, q4, q5, q6, q7, q8, q9, q10, q11, -⟩ | ⟨hc', m1, q1, q2, q3, q4, q5⟩
  rotate_left
  · rw [show ((0 + (3 + 1) : Nat) : Int) = ((1 + (2 + 1) : Nat) : Int) from rfl, q1, q3, e_cW, b_pos rfl, e_cI, retZW_0]
    exact ⟨hc', rfl, p9.tr q2, Or.inr ⟨m1, rfl, q4, f0.tr q5.ms⟩⟩
  have w1 : mW 1 z1 m1 = set2 m1 113 1 z1 := rfl
  rw [show ((0 + (3 + 1) : Nat) : Int) = ((1 + (2 + 1) : Nat) : Int) from rfl, q1, q3, e_cW, b_neg (by decide), e_cI, e_gF m1, q4, e_wr _ _ _ _ _ _ (by omega), show (1 : Int).toNat = 1 from rfl, ← w1, e_cI, e_cI]
  have f1 : MS hm (mW 1 z1 m1) := (f0.tr q10.ms).tr mW_ms
  have b1 : mW 1 z1 m1 113 0 = z0 ∧ mW 1 z1 m1 113 1 = z1 ∧ mW 1 z1 m1 116 = hm 116 ∧ mW 1 z1 m1 117 = hm 117 ∧ mW 1 z1 m1 111 = hm 111 ∧ ∀ j, 9 < j → mW 1 z1 m1 100 j = hm 100 j := by
    rw [w1]
    exact ⟨by rw [set2_nk _ _ _ _ _ _ (by omega), q10.1 113 (by omega), b0.1], set2_same _ _ _ _, by rw [set2_ne _ (by omega), q10.1 116 (by omega), b0.2.1], by rw [set2_ne _ (by omega), q10.1 117 (by omega), b0.2.2.1], by rw [set2_ne _ (by omega), q10.1 111 (by omega), b0.2.2.2.1], fun j hj => by rw [set2_np _ _ _ _ _ _ (by omega), q10.2 j (by omega), b0.2.2.2.2 j hj]⟩
  generalize mW 1 z1 m1 = M1 at *
  rcases y_sstep (i := 2) (n := 1) (l := 1) (u := 60) (F := F + 1 + 1) hv (by omega) (by omega) q5 q6 q7 q8 rfl rfl with ⟨z2, c2, m2, y2, r1, r2, r3, r4, r5, r6, r7, r8, r9, r10, r11, -⟩ | ⟨hc', m2, r1, r2, r3, r4, r5⟩
  rotate_left
  · rw [show ((1 + (2 + 1) : Nat) : Int) = ((2 + (1 + 1) : Nat) : Int) from rfl, r1, r3, e_cW, b_pos rfl, e_cI, retZW_0]
    exact ⟨hc', rfl, (p9.tr q9).tr r2, Or.inr ⟨m2, rfl, r4, f1.tr r5.ms⟩⟩
  have w2 : mW 2 z2 m2 = set2 m2 113 2 z2 := rfl
  rw [show ((1 + (2 + 1) : Nat) : Int) = ((2 + (1 + 1) : Nat) : Int) from rfl, r1, r3, e_cW, b_neg (by decide), e_cI, e_gF m2, r4, e_wr _ _ _ _ _ _ (by omega), show (2 : Int).toNat = 2 from rfl, ← w2, e_cI, e_cI]
  have f2 : MS hm (mW 2 z2 m2) := (f1.tr r10.ms).tr mW_ms
  have b2 : mW 2 z2 m2 113 0 = z0 ∧ mW 2 z2 m2 113 1 = z1 ∧ mW 2 z2 m2 113 2 = z2 ∧ mW 2 z2 m2 116 = hm 116 ∧ mW 2 z2 m2 117 = hm 117 ∧ mW 2 z2 m2 111 = hm 111 ∧ ∀ j, 9 < j → mW 2 z2 m2 100 j = hm 100 j := by
    rw [w2]
    exact ⟨by rw [set2_nk _ _ _ _ _ _ (by omega), r10.1 113 (by omega), b1.1], by rw [set2_nk _ _ _ _ _ _ (by omega), r10.1 113 (by omega), b1.2.1], set2_same _ _ _ _, by rw [set2_ne _ (by omega), r10.1 116 (by omega), b1.2.2.1], by rw [set2_ne _ (by omega), r10.1 117 (by omega), b1.2.2.2.1], by rw [set2_ne _ (by omega), r10.1 111 (by omega), b1.2.2.2.2.1], fun j hj => by rw [set2_np _ _ _ _ _ _ (by omega), r10.2 j (by omega), b1.2.2.2.2.2 j hj]⟩
  generalize mW 2 z2 m2 = M2 at *
  rcases y_sstep (i := 3) (n := 0) (l := 0) (u := 100) (F := F + 1) hv (by omega) (by omega) r5 r6 r7 r8 rfl rfl with ⟨z3, c3, m3, y3, s1, s2, s3, s4, s5, s6, s7, s8, s9, s10, s11, -⟩ | ⟨hc', m3, s1, s2, s3, s4, s5⟩
  rotate_left
  · rw [show ((2 + (1 + 1) : Nat) : Int) = ((3 + (0 + 1) : Nat) : Int) from rfl, s1, s3, e_cW, b_pos rfl, e_cI, retZW_0]
    exact ⟨hc', rfl, ((p9.tr q9).tr r9).tr s2, Or.inr ⟨m3, rfl, s4, f2.tr s5.ms⟩⟩
  have w3 : mW 3 z3 m3 = set2 m3 113 3 z3 := rfl
  rw [show ((2 + (1 + 1) : Nat) : Int) = ((3 + (0 + 1) : Nat) : Int) from rfl, s1, s3, e_cW, b_neg (by decide), e_cI, e_gF m3, s4, e_wr _ _ _ _ _ _ (by omega), show (3 : Int).toNat = 3 from rfl, ← w3, e_cI, retZW_1]
  have f3 : MS hm (mW 3 z3 m3) := (f2.tr s10.ms).tr mW_ms
  have b3 : mW 3 z3 m3 113 0 = z0 ∧ mW 3 z3 m3 113 1 = z1 ∧ mW 3 z3 m3 113 2 = z2 ∧ mW 3 z3 m3 113 3 = z3 ∧ mW 3 z3 m3 116 = hm 116 ∧ mW 3 z3 m3 117 = hm 117 ∧ mW 3 z3 m3 111 = hm 111 ∧ ∀ j, 9 < j → mW 3 z3 m3 100 j = hm 100 j := by
    rw [w3]
    exact ⟨by rw [set2_nk _ _ _ _ _ _ (by omega), s10.1 113 (by omega), b2.1], by rw [set2_nk _ _ _ _ _ _ (by omega), s10.1 113 (by omega), b2.2.1], by rw [set2_nk _ _ _ _ _ _ (by omega), s10.1 113 (by omega), b2.2.2.1], set2_same _ _ _ _, by rw [set2_ne _ (by omega), s10.1 116 (by omega), b2.2.2.2.1], by rw [set2_ne _ (by omega), s10.1 117 (by omega), b2.2.2.2.2.1], by rw [set2_ne _ (by omega), s10.1 111 (by omega), b2.2.2.2.2.2.1], fun j hj => by rw [set2_np _ _ _ _ _ _ (by omega), s10.2 j (by omega), b2.2.2.2.2.2.2 j hj]⟩
  generalize mW 3 z3 m3 = M3 at *
  obtain ⟨t0, t1, t2, t3, t116, t117, t111, tf⟩ := b3
  refine ⟨c3, k_send, ((p9.tr q9).tr r9).tr s9, Or.inl ⟨M3, rfl, s6, s7, ⟨s8, Or.inr ?_, ?_, ?_, ?_, ?_, ?_⟩, f3, by omega⟩⟩
  · rw [t0, t1, t2, t3]; exact ⟨y0, y1, y2, y3⟩
  · rw [t116]; exact sb2
  · rw [t117]; exact sb3
  · rw [tf 40 (by omega)]; exact sb4
  · unfold WB at sb5 ⊢; rw [t111, tf 30 (by omega)]; exact sb5
  · rw [tf 18 (by omega)]; exact sb6
theorem y_reach {F : Nat} (hv : 15 ≤ v) (hF : 10 < F) (x : TX b L hc hm) (a : AA b L hc hm) (nf : NF hc hm) (eq : EQ v hc hm) (sb : SBd hm) : SD b L v hc hm (loopF (g_X2_readNumbers_l17 v 1 ((4 + (1 + 1) : Nat) : Int)) F (((4 : Nat) : Int), hc)) (g_X9_readTwo 116 1 8 hm) := by
  obtain ⟨F, rfl⟩ : ∃ z, F = z + 1 + 1 + 1 := ⟨F - 3, by omega⟩
  obtain ⟨sb1, -, sb3, sb4, sb5, sb6⟩ := sb
  unfold g_X9_readTwo
  rcases y_sstep (i := 4) (n := 1) (l := 1) (u := 8) (F := F + 1 + 1) hv (by omega) (by omega) x a nf eq rfl rfl with ⟨z0, c0, m0, y0, p1, p2, p3, p4, p5, p6, p7, p8, p9, p10, p11, -⟩ | ⟨hc', m0, p1, p2, p3, p4, p5⟩
  rotate_left
  · rw [p1, p3, e_cW, b_pos rfl, e_cI, retZW_0]
    exact ⟨hc', rfl, p2, Or.inr ⟨m0, rfl, p4, p5.ms⟩⟩
  have w0 : mW 4 z0 m0 = set2 m0 116 0 z0 := rfl
  rw [p1, p3, e_cW, b_neg (by decide), e_cI, e_gF m0, p4, e_wr _ _ _ _ _ _ (by omega), show (0 : Int).toNat = 0 from rfl, ← w0, e_gF (mW 4 z0 m0), show mW 4 z0 m0 100 7 = z0 by rw [w0, set2_np _ _ _ _ _ _ (by omega), p4]]
  have f0 : MS hm (mW 4 z0 m0) := p10.ms.tr mW_ms
  have b0 : mW 4 z0 m0 116 0 = z0 ∧ mW 4 z0 m0 113 = hm 113 ∧ mW 4 z0 m0 117 = hm 117 ∧ mW 4 z0 m0 111 = hm 111 ∧ ∀ j, 9 < j → mW 4 z0 m0 100 j = hm 100 j := by
    rw [w0]
    exact ⟨set2_same _ _ _ _, by rw [set2_ne _ (by omega), p10.1 113 (by omega)], by rw [set2_ne _ (by omega), p10.1 117 (by omega)], by rw [set2_ne _ (by omega), p10.1 111 (by omega)], fun j hj => by rw [set2_np _ _ _ _ _ _ (by omega), p10.2 j (by omega)]⟩
  generalize mW 4 z0 m0 = M0 at *
  rcases y_sstep (i := 5) (n := 0) (l := z0) (u := 8) (F := F + 1) hv (by omega) (by omega) p5 p6 p7 p8 (by unfold loS; rw [if_neg (by omega), if_pos rfl]; exact p2) rfl with ⟨z1, c1, m1, y1, q1, q2, q3, q4, q5, q6, q7, q8, q9, q10, q11, -⟩ | ⟨hc', m1, q1, q2, q3, q4, q5⟩
  rotate_left
  · rw [show ((4 + (1 + 1) : Nat) : Int) = ((5 + (0 + 1) : Nat) : Int) from rfl, q1, q3, e_cW, b_pos rfl, e_cI, retZW_0]
    exact ⟨hc', rfl, p9.tr q2, Or.inr ⟨m1, rfl, q4, f0.tr q5.ms⟩⟩
  have w1 : mW 5 z1 m1 = set2 m1 116 1 z1 := rfl
  rw [show ((4 + (1 + 1) : Nat) : Int) = ((5 + (0 + 1) : Nat) : Int) from rfl, q1, q3, e_cW, b_neg (by decide), e_cI, e_gF m1, q4, e_wr _ _ _ _ _ _ (by omega), show (1 : Int).toNat = 1 from rfl, ← w1, e_cI, retZW_1]
  have f1 : MS hm (mW 5 z1 m1) := (f0.tr q10.ms).tr mW_ms
  have b1 : mW 5 z1 m1 116 0 = z0 ∧ mW 5 z1 m1 116 1 = z1 ∧ mW 5 z1 m1 113 = hm 113 ∧ mW 5 z1 m1 117 = hm 117 ∧ mW 5 z1 m1 111 = hm 111 ∧ ∀ j, 9 < j → mW 5 z1 m1 100 j = hm 100 j := by
    rw [w1]
    exact ⟨by rw [set2_nk _ _ _ _ _ _ (by omega), q10.1 116 (by omega), b0.1], set2_same _ _ _ _, by rw [set2_ne _ (by omega), q10.1 113 (by omega), b0.2.1], by rw [set2_ne _ (by omega), q10.1 117 (by omega), b0.2.2.1], by rw [set2_ne _ (by omega), q10.1 111 (by omega), b0.2.2.2.1], fun j hj => by rw [set2_np _ _ _ _ _ _ (by omega), q10.2 j (by omega), b0.2.2.2.2 j hj]⟩
  generalize mW 5 z1 m1 = M1 at *
  obtain ⟨t0, t1, t113, t117, t111, tf⟩ := b1
  refine ⟨c1, k_send, p9.tr q9, Or.inl ⟨M1, rfl, q6, q7, ⟨q8, ?_, ?_, ?_, ?_, ?_, ?_⟩, f1, by omega⟩⟩
  · unfold TB0 at sb1 ⊢; rw [t113]; exact sb1
  · rw [t0, t1]; omega
  · rw [t117]; exact sb3
  · rw [tf 40 (by omega)]; exact sb4
  · unfold WB at sb5 ⊢; rw [t111, tf 30 (by omega)]; exact sb5
  · rw [tf 18 (by omega)]; exact sb6
theorem y_level {F : Nat} (hv : 15 ≤ v) (hF : 10 < F) (x : TX b L hc hm) (a : AA b L hc hm) (nf : NF hc hm) (eq : EQ v hc hm) (sb : SBd hm) : SD b L v hc hm (loopF (g_X2_readNumbers_l17 v 1 ((6 + (1 + 1) : Nat) : Int)) F (((6 : Nat) : Int), hc)) (g_X9_readTwo 117 0 99 hm) := by
  obtain ⟨F, rfl⟩ : ∃ z, F = z + 1 + 1 + 1 := ⟨F - 3, by omega⟩
  obtain ⟨sb1, sb2, -, sb4, sb5, sb6⟩ := sb
  unfold g_X9_readTwo
  rcases y_sstep (i := 6) (n := 1) (l := 0) (u := 99) (F := F + 1 + 1) hv (by omega) (by omega) x a nf eq rfl rfl with ⟨z0, c0, m0, y0, p1, p2, p3, p4, p5, p6, p7, p8, p9, p10, p11, -⟩ | ⟨hc', m0, p1, p2, p3, p4, p5⟩
  rotate_left
  · rw [p1, p3, e_cW, b_pos rfl, e_cI, retZW_0]
    exact ⟨hc', rfl, p2, Or.inr ⟨m0, rfl, p4, p5.ms⟩⟩
  have w0 : mW 6 z0 m0 = set2 m0 117 0 z0 := rfl
  rw [p1, p3, e_cW, b_neg (by decide), e_cI, e_gF m0, p4, e_wr _ _ _ _ _ _ (by omega), show (0 : Int).toNat = 0 from rfl, ← w0, e_gF (mW 6 z0 m0), show mW 6 z0 m0 100 7 = z0 by rw [w0, set2_np _ _ _ _ _ _ (by omega), p4]]
  have f0 : MS hm (mW 6 z0 m0) := p10.ms.tr mW_ms
  have b0 : mW 6 z0 m0 117 0 = z0 ∧ mW 6 z0 m0 113 = hm 113 ∧ mW 6 z0 m0 116 = hm 116 ∧ mW 6 z0 m0 111 = hm 111 ∧ ∀ j, 9 < j → mW 6 z0 m0 100 j = hm 100 j := by
    rw [w0]
    exact ⟨set2_same _ _ _ _, by rw [set2_ne _ (by omega), p10.1 113 (by omega)], by rw [set2_ne _ (by omega), p10.1 116 (by omega)], by rw [set2_ne _ (by omega), p10.1 111 (by omega)], fun j hj => by rw [set2_np _ _ _ _ _ _ (by omega), p10.2 j (by omega)]⟩
  generalize mW 6 z0 m0 = M0 at *
  rcases y_sstep (i := 7) (n := 0) (l := z0) (u := 99) (F := F + 1) hv (by omega) (by omega) p5 p6 p7 p8 (by unfold loS; rw [if_neg (by omega), if_neg (by omega), if_pos rfl]; exact p2) rfl with ⟨z1, c1, m1, y1, q1, q2, q3, q4, q5, q6, q7, q8, q9, q10, q11, -⟩ | ⟨hc', m1, q1, q2, q3, q4, q5⟩
  rotate_left
  · rw [show ((6 + (1 + 1) : Nat) : Int) = ((7 + (0 + 1) : Nat) : Int) from rfl, q1, q3, e_cW, b_pos rfl, e_cI, retZW_0]
    exact ⟨hc', rfl, p9.tr q2, Or.inr ⟨m1, rfl, q4, f0.tr q5.ms⟩⟩
  have w1 : mW 7 z1 m1 = set2 m1 117 1 z1 := rfl
  rw [show ((6 + (1 + 1) : Nat) : Int) = ((7 + (0 + 1) : Nat) : Int) from rfl, q1, q3, e_cW, b_neg (by decide), e_cI, e_gF m1, q4, e_wr _ _ _ _ _ _ (by omega), show (1 : Int).toNat = 1 from rfl, ← w1, e_cI, retZW_1]
  have f1 : MS hm (mW 7 z1 m1) := (f0.tr q10.ms).tr mW_ms
  have b1 : mW 7 z1 m1 117 0 = z0 ∧ mW 7 z1 m1 117 1 = z1 ∧ mW 7 z1 m1 113 = hm 113 ∧ mW 7 z1 m1 116 = hm 116 ∧ mW 7 z1 m1 111 = hm 111 ∧ ∀ j, 9 < j → mW 7 z1 m1 100 j = hm 100 j := by
    rw [w1]
    exact ⟨by rw [set2_nk _ _ _ _ _ _ (by omega), q10.1 117 (by omega), b0.1], set2_same _ _ _ _, by rw [set2_ne _ (by omega), q10.1 113 (by omega), b0.2.1], by rw [set2_ne _ (by omega), q10.1 116 (by omega), b0.2.2.1], by rw [set2_ne _ (by omega), q10.1 111 (by omega), b0.2.2.2.1], fun j hj => by rw [set2_np _ _ _ _ _ _ (by omega), q10.2 j (by omega), b0.2.2.2.2 j hj]⟩
  generalize mW 7 z1 m1 = M1 at *
  obtain ⟨t0, t1, t113, t116, t111, tf⟩ := b1
  refine ⟨c1, k_send, p9.tr q9, Or.inl ⟨M1, rfl, q6, q7, ⟨q8, ?_, ?_, ?_, ?_, ?_, ?_⟩, f1, by omega⟩⟩
  · unfold TB0 at sb1 ⊢; rw [t113]; exact sb1
  · rw [t116]; exact sb2
  · rw [t0, t1]; omega
  · rw [tf 40 (by omega)]; exact sb4
  · unfold WB at sb5 ⊢; rw [t111, tf 30 (by omega)]; exact sb5
  · rw [tf 18 (by omega)]; exact sb6
theorem y_cut {F : Nat} (hv : 15 ≤ v) (hF : 10 < F) (x : TX b L hc hm) (a : AA b L hc hm) (nf : NF hc hm) (eq : EQ v hc hm) (sb : SBd hm) : SD b L v hc hm (loopF (g_X2_readNumbers_l17 v 1 ((8 + (0 + 1) : Nat) : Int)) F (((8 : Nat) : Int), hc)) (cI 0 fun z19 => cI 9 fun z20 => cW (g_X9_number z19 z20 hm) fun z21 h22 => if z21 = 0 then cI 0 fun z26 => retZW z26 h22 else gF h22 100 7 fun z23 => pF h22 100 40 z23 fun h24 => cI 1 fun z25 => retZW z25 h24) := by
  obtain ⟨F, rfl⟩ : ∃ z, F = z + 1 + 1 := ⟨F - 2, by omega⟩
  obtain ⟨sb1, sb2, sb3, -, sb5, sb6⟩ := sb
  rw [e_cI, e_cI]
  rcases y_sstep (i := 8) (n := 0) (l := 0) (u := 9) (F := F + 1) hv (by omega) (by omega) x a nf eq rfl rfl with ⟨z0, c0, m0, y0, p1, p2, p3, p4, p5, p6, p7, p8, p9, p10, p11, -⟩ | ⟨hc', m0, p1, p2, p3, p4, p5⟩
  rotate_left
  · rw [p1, p3, e_cW, b_pos rfl, e_cI, retZW_0]
    exact ⟨hc', rfl, p2, Or.inr ⟨m0, rfl, p4, p5.ms⟩⟩
  have w0 : mW 8 z0 m0 = set2 m0 100 40 z0 := rfl
  rw [p1, p3, e_cW, b_neg (by decide), e_gF m0, p4, e_pF, ← w0, e_cI, retZW_1]
  have f0 : MS hm (mW 8 z0 m0) := p10.ms.tr mW_ms
  have b0 : mW 8 z0 m0 100 40 = z0 ∧ mW 8 z0 m0 113 = hm 113 ∧ mW 8 z0 m0 116 = hm 116 ∧ mW 8 z0 m0 117 = hm 117 ∧ mW 8 z0 m0 111 = hm 111 ∧ ∀ j, 9 < j → j ≠ 40 → mW 8 z0 m0 100 j = hm 100 j := by
    rw [w0]
    exact ⟨set2_same _ _ _ _, by rw [set2_ne _ (by omega), p10.1 113 (by omega)], by rw [set2_ne _ (by omega), p10.1 116 (by omega)], by rw [set2_ne _ (by omega), p10.1 117 (by omega)], by rw [set2_ne _ (by omega), p10.1 111 (by omega)], fun j hj hk => by rw [set2_nk _ _ _ _ _ _ hk, p10.2 j (by omega)]⟩
  generalize mW 8 z0 m0 = M0 at *
  obtain ⟨t0, t113, t116, t117, t111, tf⟩ := b0
  refine ⟨c0, k_send, p9, Or.inl ⟨M0, rfl, p6, p7, ⟨p8, ?_, ?_, ?_, ?_, ?_, ?_⟩, f0, by omega⟩⟩
  · unfold TB0 at sb1 ⊢; rw [t113]; exact sb1
  · rw [t116]; exact sb2
  · rw [t117]; exact sb3
  · rw [t0]; exact y0
  · unfold WB at sb5 ⊢; rw [t111, tf 30 (by omega) (by omega)]; exact sb5
  · rw [tf 18 (by omega) (by omega)]; exact sb6
end SEA
