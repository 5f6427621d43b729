/-! READING a plan: hands -/
def HN (p H X : Nat) (hm hm' : Hp) : Prop := (∀ r, r ≠ 100 → r ≠ 119 → r ≠ 120 → hm' r = hm r) ∧ (∀ j, j < 3 ∨ 9 < j → hm' 100 j = hm 100 j) ∧ (∀ j, j ≠ 4 * p + H → hm' 119 j = hm 119 j) ∧ (∀ j, j < X → hm' 120 j = hm 120 j)
theorem HN.rf {p H X : Nat} {a : Hp} : HN p H X a a := ⟨fun _ _ _ _ => rfl, fun _ _ => rfl, fun _ _ => rfl, fun _ _ => rfl⟩
theorem HN.tr {p H X X' : Nat} {a b c : Hp} (x : HN p H X a b) (y : HN p H X' b c) (h : X ≤ X') : HN p H X a c := ⟨fun r h1 h2 h3 => (y.1 r h1 h2 h3).trans (x.1 r h1 h2 h3), fun j hj => (y.2.1 j hj).trans (x.2.1 j hj), fun j hj => (y.2.2.1 j hj).trans (x.2.2.1 j hj), fun j hj => (y.2.2.2 j (by omega)).trans (x.2.2.2 j hj)⟩
theorem HM.hn {p H X : Nat} {a b : Hp} (x : HM X a b) : HN p H X a b := ⟨fun r h1 _ h3 => x.1 r h1 h3, fun j hj => x.2.1 j (by omega), fun j _ => by rw [x.1 119 (by omega) (by omega)], x.2.2⟩
theorem HN.set {p H X : Nat} {a : Hp} {x : Int} : HN p H X a (set2 a 119 (4 * p + H) x) := ⟨fun r _ h2 _ => set2_ne r h2, fun j _ => set2_np _ _ _ _ _ _ (by omega), fun j hj => set2_nk _ _ _ _ _ _ hj, fun j _ => set2_np _ _ _ _ _ _ (by omega)⟩
theorem TX.hn {b : Nat → Int} {L q H A p X : Nat} {hc hm hc' hm' : Hp} (x : TX b L hc hm) (hq : 3 ≤ q) (c : HF q H A hc hc') (m : HN p H X hm hm') : TX b L hc' hm' :=
  x.mv ⟨c.1.1 2 (by omega) (by omega), c.1.2 1 (by omega)⟩ ⟨m.1 101 (by omega) (by omega) (by omega), m.2.1 2 (by omega)⟩
/-- a hand that has A acts -/
def AC (q p H k : Nat) (hc hm : Hp) (N : Int) : Prop := (hc (q + 2) (8 * H + k) = hm 120 (3 * (8 * (4 * p + H) + k)) ∧ hc (q + 3) (8 * H + k) = hm 120 (3 * (8 * (4 * p + H) + k) + 1) ∧ hc (q + 4) (8 * H + k) = hm 120 (3 * (8 * (4 * p + H) + k) + 2)) ∧ AB (hm 120 (3 * (8 * (4 * p + H) + k))) (hm 120 (3 * (8 * (4 * p + H) + k) + 1)) (hm 120 (3 * (8 * (4 * p + H) + k) + 2)) N
def HD (q p H A : Nat) (hc hm : Hp) (N : Int) : Prop := (hc (q + 1) H = (A : Int) ∧ hm 119 (4 * p + H) = (A : Int)) ∧ ∀ k, k < A → AC q p H k hc hm N
theorem AC.mv {q p H A k X : Nat} {hc hm hc' hm' : Hp} {N : Int} (s : AC q p H k hc hm N) (h : HF q H A hc hc') (m : HN p H X hm hm') (hk : k < A) (hX : 3 * (8 * (4 * p + H) + A) ≤ X) : AC q p H k hc' hm' N := by
  have u := h.2.2.2 (8 * H + k) (by omega)
  unfold AC at s ⊢
  rw [u.1, u.2.1, u.2.2, m.2.2.2 _ (by omega), m.2.2.2 _ (by omega), m.2.2.2 _ (by omega)]
  exact s
theorem HD.far {q p H A i X : Nat} {hc hm hc' hm' : Hp} {N : Int} {K : Nat} (s : HD q p i K hc hm N) (h : HF q H A hc hc') (m : HN p H X hm hm') (hi : i < H) (hK : K ≤ 8) (hX : 3 * (8 * (4 * p + H)) ≤ X) : HD q p i K hc' hm' N := by
  obtain ⟨⟨s1, s2⟩, s3⟩ := s
  refine ⟨⟨by rw [h.2.2.1 i (by omega)]; exact s1, by rw [m.2.2.1 _ (by omega)]; exact s2⟩, fun k hk => ?_⟩
  have s := s3 k hk
  have u := h.2.2.2 (8 * i + k) (by omega)
  unfold AC at s ⊢
  rw [u.1, u.2.1, u.2.2, m.2.2.2 _ (by omega), m.2.2.2 _ (by omega), m.2.2.2 _ (by omega)]
  exact s
def shape (c : Nat) (hc hm : Hp) : Prop := (hc (c + 1) 0 = hm 100 10 ∧ hc (c + 1) 1 = hm 100 11) ∧ (1 ≤ hm 100 10 ∧ hm 100 10 ≤ 8) ∧ (1 ≤ hm 100 11 ∧ hm 100 11 ≤ 8)
theorem shape.mv {q c H A p X : Nat} {hc hm hc' hm' : Hp} (s : shape c hc hm) (hc9 : 3 ≤ c ∧ c ≤ 9) (hq : 15 ≤ q) (h : HF q H A hc hc') (m : HN p H X hm hm') : shape c hc' hm' := by
  unfold shape at s ⊢
  rw [h.1.1 (c + 1) (by omega) (by omega), m.2.1 10 (by omega), m.2.1 11 (by omega)]
  exact s
section HAND
variable {b : Nat → Int} {L : Nat} {hc hm : Hp}
theorem k_acts_f {q c F : Nat} {i : Int} {j10 j17 : Hp → Option Hp} (h : hc 1 6 ≠ 0) (hF : 0 < F) : loopF (g_X1_readHand_l20 q 1 c j10 j17) F (i, hc) = j10 hc := by
  obtain ⟨F, rfl⟩ : ∃ z, F = z + 1 := ⟨F - 1, by omega⟩
  show g_X1_readHand_l20 q 1 c j10 j17 (loopF _ F) (i, hc) = _
  generalize loopF (g_X1_readHand_l20 q 1 c j10 j17) F = self
  unfold g_X1_readHand_l20
  dsimp only
  rw [e_cI]
  by_cases y : 8 < i
  · rw [b_pos y]
  · rw [b_neg y, k_isFaulty, if_neg h, e_cP, b_neg (by decide)]
theorem y_acts {q c p H : Nat} {N : Int} (hq : 15 ≤ q) (hc9 : 3 ≤ c ∧ c ≤ 9) (hp : p < 3) (hH : H < 4) : ∀ (n A F F2 : Nat) (hc hm : Hp) (κ : Int), A + n = 8 → n + 2 < F → n + 2 < F2 → TX b L hc hm → SS b L hc hm → NF hc hm → shape c hc hm → hm 100 10 * hm 100 11 = N → hc q 4 = (H : Int) → HD q p H A hc hm N → g_X9_actAt hm = some κ → (A = 0 → κ ≠ -1) →
    ∃ hc', (∀ j10 j17 : Hp → Option Hp, (∀ a, j17 a = j10 a) → loopF (g_X1_readHand_l20 q 1 c j10 j17) F ((A : Int), hc) = j10 hc') ∧ HF q H A hc hc' ∧ PP L hc' ∧ hc 1 2 ≤ hc' 1 2 ∧
      ((∃ hm' A', (1 ≤ A' ∧ A' ≤ 8) ∧ (∀ j16, loopF (g_X9_readHand_l24 j16 ((4 * p + H : Nat) : Int)) F2 (κ, hm) = j16 hm') ∧ SS b L hc' hm' ∧ NF hc' hm' ∧ hc' 1 3 = 3 ∧ HD q p H A' hc' hm' N ∧ HN p H (3 * (8 * (4 * p + H) + A)) hm hm') ∨
       (∃ hm', (∀ j16, loopF (g_X9_readHand_l24 j16 ((4 * p + H : Nat) : Int)) F2 (κ, hm) = j16 hm') ∧ (hc' 1 6 = 1 ∧ hc' 1 7 = hm' 100 3 ∧ hm' 100 5 ≠ 3) ∧ HN p H (3 * (8 * (4 * p + H) + A)) hm hm') ∨
       ∃ hm', (∀ j16, loopF (g_X9_readHand_l24 j16 ((4 * p + H : Nat) : Int)) F2 (κ, hm) = some (0, hm')) ∧ FF hc' hm' ∧ HN p H (3 * (8 * (4 * p + H) + A)) hm hm') := by
  intro n
  induction n with
  | zero =>
    intro A F F2 hc hm κ hA hF hF2 x s nf sh hN e4 hd hκ h0
    obtain ⟨F, rfl⟩ : ∃ z, F = z + 1 := ⟨F - 1, by omega⟩
    obtain ⟨F2, rfl⟩ : ∃ z, F2 = z + 1 := ⟨F2 - 1, by omega⟩
    obtain rfl : A = 8 := by omega
    have e1 := hd.1.1
    obtain ⟨k, u1, u2, u3⟩ := y_kind x s
    rw [u2] at hκ
    injection hκ with hκ
    subst hκ
    have md : ∀ j16 : Hp → Option (Int × Hp), k ≠ -1 → loopF (g_X9_readHand_l24 j16 ((4 * p + H : Nat) : Int)) (F2 + 1) (k, hm) = cW (g_X9_bad 4 hm) fun z45 h46 => retZW z45 h46 := by
      intro j16 hk
      show g_X9_readHand_l24 j16 _ (loopF _ F2) (k, hm) = _
      unfold g_X9_readHand_l24
      dsimp only
      rw [e_cI, b_neg hk, e_rdn _ _ _ _ _ (by omega), hd.1.2, e_cI, b_pos (by omega), e_cI]
    have me : ∀ j16 : Hp → Option (Int × Hp), k = -1 → loopF (g_X9_readHand_l24 j16 ((4 * p + H : Nat) : Int)) (F2 + 1) (k, hm) = j16 hm := by
      intro j16 hk
      show g_X9_readHand_l24 j16 _ (loopF _ F2) (k, hm) = _
      unfold g_X9_readHand_l24
      dsimp only
      rw [e_cI, b_pos hk]
    have ce : ∀ (j10 j17 : Hp → Option Hp) (o : Option Hp), (if hc 1 3 = 3 then j17 hc else cV (g_X1_readAct q 1 c hc) fun h27 => cV (g_X5_advance 1 h27) fun h28 => loopF (g_X1_readHand_l20 q 1 c j10 j17) F (((8 + 1 : Nat) : Int), h28)) = o → loopF (g_X1_readHand_l20 q 1 c j10 j17) (F + 1) (((8 : Nat) : Int), hc) = o := by
      intro j10 j17 o ho
      rw [← ho]
      show g_X1_readHand_l20 q 1 c j10 j17 (loopF _ F) (((8 : Nat) : Int), hc) = _
      generalize loopF (g_X1_readHand_l20 q 1 c j10 j17) F = self
      unfold g_X1_readHand_l20
      dsimp only
      rw [e_cI, b_neg (by omega), k_isFaulty, if_pos nf.1, e_cP, b_pos rfl]
      refine join_gen (fun j26 hj26 => ?_)
      rw [b_neg (by omega), e_gF, e_cI]
      by_cases y : hc 1 3 = 3
      · rw [b_pos y, b_pos y]
      · rw [b_neg y, b_neg y, hj26]
        refine cV_cg (fun h27 => cV_cg (fun h28 => ?_))
        rw [e_add _ _ _ (by omega), show ((8 : Nat) : Int) + 1 = ((8 + 1 : Nat) : Int) by omega]
    have bad : ∀ (f : Int), f ≠ 0 → g_X1_readAct q 1 c hc = (cV (g_X5_refuse 1 f hc) fun g => some g) → hc 1 3 ≠ 3 → ∃ hc', (∀ j10 j17 : Hp → Option Hp, (∀ a, j17 a = j10 a) → loopF (g_X1_readHand_l20 q 1 c j10 j17) (F + 1) (((8 : Nat) : Int), hc) = j10 hc') ∧ HF q H 8 hc hc' ∧ PP L hc' ∧ hc 1 2 ≤ hc' 1 2 ∧ hc' 1 6 = f ∧ hc' 1 7 = hc 1 4 := by
      intro f hf hr h3
      have pp := SS.pp x s
      have rfs := k_refuse hc f
      rw [if_pos nf.1] at rfs
      have pr := k_refuse_pos pp rfs
      obtain ⟨h2, w1, w2, w3, w4, w5⟩ := k_adv_pos pr
      have q6 : set2 (set2 hc 1 6 f) 1 7 (hc 1 4) 1 6 = f := by rw [set2_nk _ _ _ _ _ _ (by omega), set2_same]
      have q7 : set2 (set2 hc 1 6 f) 1 7 (hc 1 4) 1 7 = hc 1 4 := set2_same _ _ _ _
      have tc : TC hc (set2 (set2 hc 1 6 f) 1 7 (hc 1 4)) := ⟨fun r hr => by rw [set2_ne r hr, set2_ne r hr], fun j hj => by rw [set2_nk _ _ _ _ _ _ (by omega), set2_nk _ _ _ _ _ _ (by omega)], by rw [set2_nk _ _ _ _ _ _ (by omega), set2_nk _ _ _ _ _ _ (by omega)]; exact Int.le_refl _⟩
      refine ⟨h2, fun j10 j17 hj => ce j10 j17 _ ?_, (tc.tr w2).hf (by omega), w5, (tc.tr w2).2.2, by rw [w3, q6], by rw [w4, q7]⟩
      rw [b_neg h3, hr, rfs, e_cV, e_cV, w1, e_cV]
      exact k_acts_f (by rw [w3, q6]; exact hf) (by omega)
    by_cases t3 : hc 1 3 = 3
    · have km : k = -1 := by
        rcases u3 with y | y
        · exact y
        · exact absurd t3 (by omega)
      exact ⟨hc, fun j10 j17 hj => ce j10 j17 _ (by rw [b_pos t3, hj]), HF.rf, SS.pp x s, Int.le_refl _, Or.inl ⟨hm, 8, by omega, fun j16 => me j16 km, s, nf, t3, hd, HN.rf⟩⟩
    by_cases km : k = -1
    · obtain ⟨hc', r1, r2, r3, r4, r5, r6⟩ := bad 1 (by decide) (by unfold g_X1_readAct; rw [u1, e_cP, e_cI, b_pos km, e_cI]) t3
      obtain ⟨q0, e0, kk, vv, ⟨s1, s2, s3, -⟩, ⟨m1, m2, m3, -⟩, -⟩ := s
      exact ⟨hc', r1, r2, r3, r4, Or.inr (Or.inl ⟨hm, fun j16 => me j16 km, ⟨r5, by rw [r6, s3, m1], by rw [m3]; unfold mkT; split <;> (try split) <;> omega⟩, HN.rf⟩)⟩
    · obtain ⟨hc', r1, r2, r3, r4, r5, r6⟩ := bad 4 (by decide) (by
        unfold g_X1_readAct
        rw [u1, e_cP, e_cI, b_neg km, e_gF, e4, e_rdn _ _ _ _ _ (by omega), e1, e_cI, b_neg (by omega), e_cI]) t3
      obtain ⟨q0, e0, kk, vv, ⟨s1, s2, s3, -⟩, ⟨m1, m2, m3, -⟩, -⟩ := s
      refine ⟨hc', r1, r2, r3, r4, Or.inr (Or.inr ⟨set2 (set2 hm 100 8 4) 100 9 (hm 100 3), fun j16 => by rw [md j16 km, m_bad, e_cW, retZW_0], ⟨by rw [r5]; decide, ?_, ?_⟩, ⟨fun r h1 _ _ => by rw [set2_ne r h1, set2_ne r h1], fun j hj => by rw [set2_nk _ _ _ _ _ _ (by omega), set2_nk _ _ _ _ _ _ (by omega)], fun j _ => by rw [set2_np _ _ _ _ _ _ (by omega), set2_np _ _ _ _ _ _ (by omega)], fun j _ => by rw [set2_np _ _ _ _ _ _ (by omega), set2_np _ _ _ _ _ _ (by omega)]⟩⟩)⟩
      · rw [r5, set2_nk _ _ _ _ _ _ (by omega), set2_same]
      · rw [r6, s3, set2_same, m1]
  | succ n ih =>
    intro A F F2 hc hm κ hA hF hF2 x s nf sh hN e4 hd hκ h0
    obtain ⟨F, rfl⟩ : ∃ z, F = z + 1 := ⟨F - 1, by omega⟩
    obtain ⟨F2, rfl⟩ : ∃ z, F2 = z + 1 := ⟨F2 - 1, by omega⟩
    have e1 := hd.1.1
    obtain ⟨k, u1, u2, u3⟩ := y_kind x s
    rw [u2] at hκ
    injection hκ with hκ
    subst hκ
    have md : ∀ j16 : Hp → Option (Int × Hp), k ≠ -1 → loopF (g_X9_readHand_l24 j16 ((4 * p + H : Nat) : Int)) (F2 + 1) (k, hm) = cW (g_X9_readAct ((3 * (8 * (4 * p + H) + A) : Nat) : Int) k hm) fun z36 h37 => if z36 = 0 then cI 0 fun z43 => retZW z43 h37 else rdI h37 119 12 ((4 * p + H : Nat) : Int) fun z38 => cI 1 fun z39 => addI z38 z39 fun z40 => wrI h37 119 12 ((4 * p + H : Nat) : Int) z40 fun h41 => cP (g_X9_actAt h41) fun z42 => loopF (g_X9_readHand_l24 j16 ((4 * p + H : Nat) : Int)) F2 (z42, h41) := by
      intro j16 hk
      show g_X9_readHand_l24 j16 _ (loopF _ F2) (k, hm) = _
      generalize loopF (g_X9_readHand_l24 j16 ((4 * p + H : Nat) : Int)) F2 = self
      unfold g_X9_readHand_l24
      dsimp only
      rw [e_cI, b_neg hk, e_rdn _ _ _ _ _ (by omega), hd.1.2, e_cI, b_neg (by omega), e_cI, e_cI, e_mul _ _ _ (by omega), e_rdn _ _ _ _ _ (by omega), hd.1.2, e_add _ _ _ (by omega), e_mul _ _ _ (by omega), show (3 : Int) * (8 * ((4 * p + H : Nat) : Int) + (A : Int)) = ((3 * (8 * (4 * p + H) + A) : Nat) : Int) by omega]
    have me : ∀ j16 : Hp → Option (Int × Hp), k = -1 → loopF (g_X9_readHand_l24 j16 ((4 * p + H : Nat) : Int)) (F2 + 1) (k, hm) = j16 hm := by
      intro j16 hk
      show g_X9_readHand_l24 j16 _ (loopF _ F2) (k, hm) = _
      unfold g_X9_readHand_l24
      dsimp only
      rw [e_cI, b_pos hk]
    have ce : ∀ (j10 j17 : Hp → Option Hp) (o : Option Hp), (if A ≠ 0 ∧ hc 1 3 = 3 then j17 hc else cV (g_X1_readAct q 1 c hc) fun h27 => cV (g_X5_advance 1 h27) fun h28 => loopF (g_X1_readHand_l20 q 1 c j10 j17) F (((A + 1 : Nat) : Int), h28)) = o → loopF (g_X1_readHand_l20 q 1 c j10 j17) (F + 1) ((A : Int), hc) = o := by
      intro j10 j17 o ho
      rw [← ho]
      show g_X1_readHand_l20 q 1 c j10 j17 (loopF _ F) ((A : Int), hc) = _
      generalize loopF (g_X1_readHand_l20 q 1 c j10 j17) F = self
      unfold g_X1_readHand_l20
      dsimp only
      rw [e_cI, b_neg (by omega), k_isFaulty, if_pos nf.1, e_cP, b_pos rfl]
      refine join_gen (fun j26 hj26 => ?_)
      have j26e : j26 () = cV (g_X1_readAct q 1 c hc) fun h27 => cV (g_X5_advance 1 h27) fun h28 => self (((A + 1 : Nat) : Int), h28) := by
        rw [hj26]
        refine cV_cg (fun h27 => cV_cg (fun h28 => ?_))
        rw [e_add _ _ _ (by omega), show (A : Int) + 1 = ((A + 1 : Nat) : Int) by omega]
      by_cases y0 : A = 0
      · rw [b_pos (show (A : Int) ≤ 0 by omega), j26e, if_neg (fun t => t.1 y0)]
      · rw [b_neg (by omega), e_gF, e_cI]
        by_cases y : hc 1 3 = 3
        · rw [b_pos y, if_pos ⟨y0, y⟩]
        · rw [b_neg y, if_neg (fun t => y t.2), j26e]
    by_cases km : k = -1
    · have hA0 : A ≠ 0 := fun t => h0 t km
      by_cases t3 : hc 1 3 = 3
      · exact ⟨hc, fun j10 j17 hj => ce j10 j17 _ (by rw [if_pos ⟨hA0, t3⟩, hj]), HF.rf, SS.pp x s, Int.le_refl _, Or.inl ⟨hm, A, by omega, fun j16 => me j16 km, s, nf, t3, hd, HN.rf⟩⟩
      have pp := SS.pp x s
      have rfs := k_refuse hc 1
      rw [if_pos nf.1] at rfs
      have pr := k_refuse_pos pp rfs
      obtain ⟨h2, w1, w2, w3, w4, w5⟩ := k_adv_pos pr
      have q6 : set2 (set2 hc 1 6 1) 1 7 (hc 1 4) 1 6 = 1 := by rw [set2_nk _ _ _ _ _ _ (by omega), set2_same]
      have q7 : set2 (set2 hc 1 6 1) 1 7 (hc 1 4) 1 7 = hc 1 4 := set2_same _ _ _ _
      have tc : TC hc (set2 (set2 hc 1 6 1) 1 7 (hc 1 4)) := ⟨fun r hr => by rw [set2_ne r hr, set2_ne r hr], fun j hj => by rw [set2_nk _ _ _ _ _ _ (by omega), set2_nk _ _ _ _ _ _ (by omega)], by rw [set2_nk _ _ _ _ _ _ (by omega), set2_nk _ _ _ _ _ _ (by omega)]; exact Int.le_refl _⟩
      obtain ⟨q0, e0, kk, vv, ⟨s1, s2, s3, -⟩, ⟨m1, m2, m3, -⟩, -⟩ := s
      refine ⟨h2, fun j10 j17 hj => ce j10 j17 _ ?_, (tc.tr w2).hf (by omega), w5, (tc.tr w2).2.2, Or.inr (Or.inl ⟨hm, fun j16 => me j16 km, ⟨by rw [w3, q6], by rw [w4, q7, s3, m1], by rw [m3]; unfold mkT; split <;> (try split) <;> omega⟩, HN.rf⟩)⟩
      rw [if_neg (fun t => t3 t.2)]
      unfold g_X1_readAct
      rw [u1, e_cP, e_cI, b_pos km, e_cI, rfs, e_cV, e_cV, w1, e_cV]
      exact k_acts_f (by rw [w3, q6]; decide) (by omega)
    have u4 : (0 ≤ k ∧ k ≤ 4) ∧ hc 1 3 = 1 := by
      rcases u3 with y | y
      · exact absurd y km
      · exact y
    have t3 : ¬ (A ≠ 0 ∧ hc 1 3 = 3) := fun t => by omega
    obtain ⟨hc1, a1, a2, a3, a4, a5⟩ := y_act (q := q) (c := c) (H := H) (A := A) (X := 3 * (8 * (4 * p + H) + A)) hq hc9 hH (by omega) (by omega) x s nf u1 u4.1 sh e4 e1
    rcases a5 with ⟨hm1, b1, b2, b3, b4, b5, b6, b7⟩ | ⟨hm1, b1, b2, b3⟩
    rotate_left
    · obtain ⟨h2, w1, w2, w3, w4, w5⟩ := k_adv_pos a3
      refine ⟨h2, fun j10 j17 hj => ce j10 j17 _ ?_, a2.tr (w2.hf (A := A) (by omega)) (by omega), w5, Int.le_trans a4 w2.2.2, Or.inr (Or.inr ⟨hm1, fun j16 => by rw [md j16 km, b1, e_cW, b_pos rfl, e_cI, retZW_0], ?_, b3.hn⟩)⟩
      · rw [if_neg t3, a1, e_cV, w1, e_cV]
        exact k_acts_f (by rw [w3]; exact b2.1) (by omega)
      · unfold FF at b2 ⊢
        rw [w3, w4]
        exact b2
    -- on to the next act
    have x1 : TX b L hc1 hm1 := x.h (by omega) a2 b4
    obtain ⟨hc2, c1, c2, c3, c4, c5, -⟩ := y_advance x1 b2
    have nf2 : NF hc2 hm1 := ⟨by rw [c4]; exact b3.1, b3.2.1, by rw [c5]; exact b3.2.2.1, b3.2.2.2⟩
    have f2 : HF q H A hc hc2 := a2.tr (c3.hf (A := A) (by omega)) (by omega)
    have g2 : HN p H (3 * (8 * (4 * p + H) + A)) hm (set2 hm1 119 (4 * p + H) ((A + 1 : Nat) : Int)) := b4.hn.tr HN.set (Nat.le_refl _)
    have s2 : SS b L hc2 (set2 hm1 119 (4 * p + H) ((A + 1 : Nat) : Int)) := c2.outM (by omega)
    have n2 : NF hc2 (set2 hm1 119 (4 * p + H) ((A + 1 : Nat) : Int)) := nf2.outM (by omega)
    have x2 : TX b L hc2 (set2 hm1 119 (4 * p + H) ((A + 1 : Nat) : Int)) := x.hn (by omega) f2 g2
    have m119 : hm1 119 (4 * p + H) = (A : Int) := by rw [b4.1 119 (by omega) (by omega)]; exact hd.1.2
    have hd2 : HD q p H (A + 1) hc2 (set2 hm1 119 (4 * p + H) ((A + 1 : Nat) : Int)) N := by
      refine ⟨⟨by rw [c3.1 (q + 1) (by omega)]; exact b5, set2_same _ _ _ _⟩, fun i hi => ?_⟩
      by_cases y : i = A
      · subst y
        unfold AC
        rw [c3.1 (q + 2) (by omega), c3.1 (q + 3) (by omega), c3.1 (q + 4) (by omega), set2_ne 120 (by omega), ← hN]
        exact ⟨b6, b7⟩
      · exact (hd.2 i (by omega)).mv f2 g2 (by omega) (Nat.le_refl _)
    obtain ⟨k2, -, v2, -⟩ := y_kind x2 s2
    have hN2 : set2 hm1 119 (4 * p + H) ((A + 1 : Nat) : Int) 100 10 * set2 hm1 119 (4 * p + H) ((A + 1 : Nat) : Int) 100 11 = N := by rw [g2.2.1 10 (by omega), g2.2.1 11 (by omega)]; exact hN
    obtain ⟨hc', r1, r2, r3, r4, r5⟩ := ih (A + 1) F F2 hc2 _ k2 (by omega) (by omega) (by omega) x2 s2 n2 (sh.mv hc9 hq f2 g2) hN2 (by rw [f2.2.1]; exact e4) hd2 v2 (fun t => absurd t (by omega))
    have mg : ∀ j16, loopF (g_X9_readHand_l24 j16 ((4 * p + H : Nat) : Int)) (F2 + 1) (k, hm) = loopF (g_X9_readHand_l24 j16 ((4 * p + H : Nat) : Int)) F2 (k2, set2 hm1 119 (4 * p + H) ((A + 1 : Nat) : Int)) := fun j16 => by
      rw [md j16 km, b1, e_cW, b_neg (by decide), e_rdn _ _ _ _ _ (by omega), m119, e_cI, e_add _ _ _ (by omega), e_wrn _ _ _ _ _ _ (by omega), show (A : Int) + 1 = ((A + 1 : Nat) : Int) by omega, v2, e_cP]
    refine ⟨hc', fun j10 j17 hj => ce j10 j17 _ (by rw [if_neg t3, a1, e_cV, c1, e_cV]; exact r1 j10 j17 hj), f2.tr r2 (by omega), r3, Int.le_trans (Int.le_trans a4 c3.2.2) r4, ?_⟩
    rcases r5 with ⟨hm', A', o1, o2, o3, o4, o5, o6, o7⟩ | ⟨hm', o1, o2, o3⟩ | ⟨hm', o1, o2, o3⟩
    · exact Or.inl ⟨hm', A', o1, fun j16 => by rw [mg, o2], o3, o4, o5, o6, g2.tr o7 (by omega)⟩
    · exact Or.inr (Or.inl ⟨hm', fun j16 => by rw [mg, o1], o2, g2.tr o3 (by omega)⟩)
    · exact Or.inr (Or.inr ⟨hm', fun j16 => by rw [mg, o1], o2, g2.tr o3 (by omega)⟩)
end HAND
