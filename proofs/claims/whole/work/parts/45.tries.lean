/-! CALLS: trial and right -/
theorem Rel.tries {n : Nat} {h h2 : Hp} (r : Rel n h) (ht : TriR h2) (f : ∀ p, (p < 36 ∨ 43 < p) → (p < 126 ∨ 132 < p) → p ≠ 100 → h2 p = h p) (f2 : ∀ k, k ≠ 51 → k ≠ 52 → k ≠ 53 → h2 100 k = h 100 k) : Rel (n + 1) h2 := by
  obtain ⟨r0, ⟨c, r1⟩, ⟨v, r2⟩, r3, r4, r5, r6, r7, r8⟩ := r
  have e : TE h h2 := TE.of2 (fun p _ _ _ => f p (by omega) (by omega) (by omega)) (fun k _ _ => f2 k (by omega) (by omega) (by omega))
  have e0 : h2 0 = h 0 := f 0 (by omega) (by omega) (by omega)
  have e1 : h2 1 = h 1 := f 1 (by omega) (by omega) (by omega)
  exact ⟨r0.te e, ⟨c, r1.mv e (fun k _ => by rw [e0]) (fun p _ _ => f p (by omega) (by omega) (by omega)) (f2 13 (by omega) (by omega) (by omega))⟩, ⟨v, r2.mv e (fun k _ => by rw [e0]) (fun p _ _ => f p (by omega) (by omega) (by omega)) (f2 29 (by omega) (by omega) (by omega))⟩, r3.mv r0 e (by rw [e0]) (fun p _ _ => f p (by omega) (by omega) (by omega)), r4.mv (by omega) e (fun p _ _ => f p (by omega) (by omega) (by omega)) (f 121 (by omega) (by omega) (by omega)),
    fun j hj => (r5 j hj).mv hj (by omega) e (fun p _ _ => f p (by omega) (by omega) (by omega)) ⟨f 123 (by omega) (by omega) (by omega), f 124 (by omega) (by omega) (by omega), f 35 (by omega) (by omega) (by omega)⟩, r6.mv ⟨by rw [e1], f 2 (by omega) (by omega) (by omega), f2 1 (by omega) (by omega) (by omega), f 101 (by omega) (by omega) (by omega)⟩, r7.mv ⟨by rw [e1], by rw [e1], f2 8 (by omega) (by omega) (by omega), f2 9 (by omega) (by omega) (by omega)⟩, ht⟩
theorem k_isNextStep {h : Hp} {x : Int} : g_X7_isNextStep 36 x h = some (if x < h 36 2 then 0 else if 999 < x then 0 else 1) := by
  unfold g_X7_isNextStep
  by_cases b : x < h 36 2
  · (repeat (first | rw [e_i2l] | rw [e_cI] | rw [e_join] | rw [e_cP] | rw [e_gF] | rw [e_pF] | rw [e_cW] | rw [e_cV] | rw [e_in_t _ _ _ _ (by omega)] | rw [e_in_f _ _ _ _ (by omega)] | rw [b_pos (by omega)] | rw [b_neg (by omega)] | rw [e_add _ _ _ (by omega)] | rw [e_sub _ _ _ (by omega)] | rw [e_mul _ _ _ (by omega)] | rw [e_lsub _ _ _ (by omega)] | rw [e_rd _ _ _ _ _ (by omega)] | rw [b_pos True.intro] | rw [b_neg not_false] | simp only [Int.reduceToNat, Int.reduceSub, Int.reduceAdd, Int.reduceMul]))
    exact e_retZ0
  · by_cases b1 : 999 < x
    · (repeat (first | rw [e_i2l] | rw [e_cI] | rw [e_join] | rw [e_cP] | rw [e_gF] | rw [e_pF] | rw [e_cW] | rw [e_cV] | rw [e_in_t _ _ _ _ (by omega)] | rw [e_in_f _ _ _ _ (by omega)] | rw [b_pos (by omega)] | rw [b_neg (by omega)] | rw [e_add _ _ _ (by omega)] | rw [e_sub _ _ _ (by omega)] | rw [e_mul _ _ _ (by omega)] | rw [e_lsub _ _ _ (by omega)] | rw [e_rd _ _ _ _ _ (by omega)] | rw [b_pos True.intro] | rw [b_neg not_false] | simp only [Int.reduceToNat, Int.reduceSub, Int.reduceAdd, Int.reduceMul]))
      exact e_retZ0
    · (repeat (first | rw [e_i2l] | rw [e_cI] | rw [e_join] | rw [e_cP] | rw [e_gF] | rw [e_pF] | rw [e_cW] | rw [e_cV] | rw [e_in_t _ _ _ _ (by omega)] | rw [e_in_f _ _ _ _ (by omega)] | rw [b_pos (by omega)] | rw [b_neg (by omega)] | rw [e_add _ _ _ (by omega)] | rw [e_sub _ _ _ (by omega)] | rw [e_mul _ _ _ (by omega)] | rw [e_lsub _ _ _ (by omega)] | rw [e_rd _ _ _ _ _ (by omega)] | rw [b_pos True.intro] | rw [b_neg not_false] | simp only [Int.reduceToNat, Int.reduceSub, Int.reduceAdd, Int.reduceMul]))
      exact e_retZ1
theorem k_isAnswer {x : Int} : g_X8_isAnswer x = some (if x = 0 then 1 else if x = 1 then 1 else 0) := by
  unfold g_X8_isAnswer
  by_cases b : x = 0
  · (repeat (first | rw [e_i2l] | rw [e_cI] | rw [e_join] | rw [e_cP] | rw [e_gF] | rw [e_pF] | rw [e_cW] | rw [e_cV] | rw [e_in_t _ _ _ _ (by omega)] | rw [e_in_f _ _ _ _ (by omega)] | rw [b_pos (by omega)] | rw [b_neg (by omega)] | rw [e_add _ _ _ (by omega)] | rw [e_sub _ _ _ (by omega)] | rw [e_mul _ _ _ (by omega)] | rw [e_lsub _ _ _ (by omega)] | rw [e_rd _ _ _ _ _ (by omega)] | rw [b_pos True.intro] | rw [b_neg not_false] | simp only [Int.reduceToNat, Int.reduceSub, Int.reduceAdd, Int.reduceMul]))
    exact e_retZ1
  · by_cases b1 : x = 1
    · (repeat (first | rw [e_i2l] | rw [e_cI] | rw [e_join] | rw [e_cP] | rw [e_gF] | rw [e_pF] | rw [e_cW] | rw [e_cV] | rw [e_in_t _ _ _ _ (by omega)] | rw [e_in_f _ _ _ _ (by omega)] | rw [b_pos (by omega)] | rw [b_neg (by omega)] | rw [e_add _ _ _ (by omega)] | rw [e_sub _ _ _ (by omega)] | rw [e_mul _ _ _ (by omega)] | rw [e_lsub _ _ _ (by omega)] | rw [e_rd _ _ _ _ _ (by omega)] | rw [b_pos True.intro] | rw [b_neg not_false] | simp only [Int.reduceToNat, Int.reduceSub, Int.reduceAdd, Int.reduceMul]))
      exact e_retZ1
    · (repeat (first | rw [e_i2l] | rw [e_cI] | rw [e_join] | rw [e_cP] | rw [e_gF] | rw [e_pF] | rw [e_cW] | rw [e_cV] | rw [e_in_t _ _ _ _ (by omega)] | rw [e_in_f _ _ _ _ (by omega)] | rw [b_pos (by omega)] | rw [b_neg (by omega)] | rw [e_add _ _ _ (by omega)] | rw [e_sub _ _ _ (by omega)] | rw [e_mul _ _ _ (by omega)] | rw [e_lsub _ _ _ (by omega)] | rw [e_rd _ _ _ _ _ (by omega)] | rw [b_pos True.intro] | rw [b_neg not_false] | simp only [Int.reduceToNat, Int.reduceSub, Int.reduceAdd, Int.reduceMul]))
      exact e_retZ0
theorem m_isTelling {h : Hp} {x : Int} : g_X9_isTelling x h = some (if x < h 100 53 then 0 else if 999 < x then 0 else 1) := by
  unfold g_X9_isTelling
  rw [e_i2l, e_gF, e_i2l, e_cI, m_in, e_cP]
  by_cases b : x < h 100 53
  · rw [if_pos b]; exact e_retZ0
  · rw [if_neg b]
    by_cases b1 : 999 < x
    · rw [if_pos b1]; exact e_retZ0
    · rw [if_neg b1]; exact e_retZ1
theorem s_trial {n : Nat} {h : Hp} {x1 x2 x3 x4 : Int} (r : Rel n h) : ∃ z h1 h2, g_X8_trial x1 x2 x3 x4 h = some (z, h1) ∧ g_X9_trial x1 x2 x3 x4 h1 = some (z, h2) ∧ Rel (n + 1) h2 := by
  have r' := r
  obtain ⟨-, -, -, -, -, -, -, -, ⟨u1, u2, u3⟩, ⟨v1, v2, v3⟩, ⟨w1, w2, w3⟩, a, q⟩ := r'
  unfold g_X8_trial g_X9_trial
  by_cases b0 : (h 36 2 ≤ x1 ∧ x1 ≤ 999) ∧ (1 ≤ x2 ∧ x2 ≤ 15) ∧ (1 ≤ x3 ∧ x3 ≤ 30) ∧ (x4 = 0 ∨ x4 = 1)
  rotate_left
  · refine ⟨-2, h, h, ?_, ?_, r.next⟩
    · rw [k_isNextStep, e_cP]
      by_cases c1 : h 36 2 ≤ x1 ∧ x1 ≤ 999
      rotate_left
      · rw [show (if x1 < h 36 2 then (0 : Int) else if 999 < x1 then 0 else 1) = 0 by split <;> (try split) <;> omega]
        (repeat (first | rw [e_i2l] | rw [e_cI] | rw [e_join] | rw [e_cP] | rw [e_gF] | rw [e_pF] | rw [e_cW] | rw [e_cV] | rw [e_in_t _ _ _ _ (by omega)] | rw [e_in_f _ _ _ _ (by omega)] | rw [b_pos (by omega)] | rw [b_neg (by omega)] | rw [e_add _ _ _ (by omega)] | rw [e_sub _ _ _ (by omega)] | rw [e_mul _ _ _ (by omega)] | rw [e_lsub _ _ _ (by omega)] | rw [e_rd _ _ _ _ _ (by omega)] | rw [b_pos True.intro] | rw [b_neg not_false] | simp only [Int.reduceToNat, Int.reduceSub, Int.reduceAdd, Int.reduceMul]))
      rw [if_neg (show ¬ x1 < h 36 2 by omega), if_neg (show ¬ 999 < x1 by omega)]
      by_cases c2 : x2 < 1
      · (repeat (first | rw [e_i2l] | rw [e_cI] | rw [e_join] | rw [e_cP] | rw [e_gF] | rw [e_pF] | rw [e_cW] | rw [e_cV] | rw [e_in_t _ _ _ _ (by omega)] | rw [e_in_f _ _ _ _ (by omega)] | rw [b_pos (by omega)] | rw [b_neg (by omega)] | rw [e_add _ _ _ (by omega)] | rw [e_sub _ _ _ (by omega)] | rw [e_mul _ _ _ (by omega)] | rw [e_lsub _ _ _ (by omega)] | rw [e_rd _ _ _ _ _ (by omega)] | rw [b_pos True.intro] | rw [b_neg not_false] | simp only [Int.reduceToNat, Int.reduceSub, Int.reduceAdd, Int.reduceMul]))
      by_cases c3 : 15 < x2
      · (repeat (first | rw [e_i2l] | rw [e_cI] | rw [e_join] | rw [e_cP] | rw [e_gF] | rw [e_pF] | rw [e_cW] | rw [e_cV] | rw [e_in_t _ _ _ _ (by omega)] | rw [e_in_f _ _ _ _ (by omega)] | rw [b_pos (by omega)] | rw [b_neg (by omega)] | rw [e_add _ _ _ (by omega)] | rw [e_sub _ _ _ (by omega)] | rw [e_mul _ _ _ (by omega)] | rw [e_lsub _ _ _ (by omega)] | rw [e_rd _ _ _ _ _ (by omega)] | rw [b_pos True.intro] | rw [b_neg not_false] | simp only [Int.reduceToNat, Int.reduceSub, Int.reduceAdd, Int.reduceMul]))
      by_cases c4 : x3 < 1
      · (repeat (first | rw [e_i2l] | rw [e_cI] | rw [e_join] | rw [e_cP] | rw [e_gF] | rw [e_pF] | rw [e_cW] | rw [e_cV] | rw [e_in_t _ _ _ _ (by omega)] | rw [e_in_f _ _ _ _ (by omega)] | rw [b_pos (by omega)] | rw [b_neg (by omega)] | rw [e_add _ _ _ (by omega)] | rw [e_sub _ _ _ (by omega)] | rw [e_mul _ _ _ (by omega)] | rw [e_lsub _ _ _ (by omega)] | rw [e_rd _ _ _ _ _ (by omega)] | rw [b_pos True.intro] | rw [b_neg not_false] | simp only [Int.reduceToNat, Int.reduceSub, Int.reduceAdd, Int.reduceMul]))
      by_cases c5 : 30 < x3
      · (repeat (first | rw [e_i2l] | rw [e_cI] | rw [e_join] | rw [e_cP] | rw [e_gF] | rw [e_pF] | rw [e_cW] | rw [e_cV] | rw [e_in_t _ _ _ _ (by omega)] | rw [e_in_f _ _ _ _ (by omega)] | rw [b_pos (by omega)] | rw [b_neg (by omega)] | rw [e_add _ _ _ (by omega)] | rw [e_sub _ _ _ (by omega)] | rw [e_mul _ _ _ (by omega)] | rw [e_lsub _ _ _ (by omega)] | rw [e_rd _ _ _ _ _ (by omega)] | rw [b_pos True.intro] | rw [b_neg not_false] | simp only [Int.reduceToNat, Int.reduceSub, Int.reduceAdd, Int.reduceMul]))
      have e : g_X8_isAnswer x4 = some 0 := by rw [k_isAnswer, if_neg (by omega), if_neg (by omega)]
      (repeat (first | rw [e] | rw [e_i2l] | rw [e_cI] | rw [e_join] | rw [e_cP] | rw [e_gF] | rw [e_pF] | rw [e_cW] | rw [e_cV] | rw [e_in_t _ _ _ _ (by omega)] | rw [e_in_f _ _ _ _ (by omega)] | rw [b_pos (by omega)] | rw [b_neg (by omega)] | rw [e_add _ _ _ (by omega)] | rw [e_sub _ _ _ (by omega)] | rw [e_mul _ _ _ (by omega)] | rw [e_lsub _ _ _ (by omega)] | rw [e_rd _ _ _ _ _ (by omega)] | rw [b_pos True.intro] | rw [b_neg not_false] | simp only [Int.reduceToNat, Int.reduceSub, Int.reduceAdd, Int.reduceMul]))
    · rw [m_isTelling, e_cP, ← w1]
      by_cases c1 : h 36 2 ≤ x1 ∧ x1 ≤ 999
      rotate_left
      · rw [show (if x1 < h 36 2 then (0 : Int) else if 999 < x1 then 0 else 1) = 0 by split <;> (try split) <;> omega]
        (repeat (first | rw [e_i2l] | rw [e_cI] | rw [e_join] | rw [e_cP] | rw [e_gF] | rw [e_pF] | rw [e_cW] | rw [e_cV] | rw [e_in_t _ _ _ _ (by omega)] | rw [e_in_f _ _ _ _ (by omega)] | rw [b_pos (by omega)] | rw [b_neg (by omega)] | rw [e_add _ _ _ (by omega)] | rw [e_sub _ _ _ (by omega)] | rw [e_mul _ _ _ (by omega)] | rw [e_lsub _ _ _ (by omega)] | rw [e_rd _ _ _ _ _ (by omega)] | rw [b_pos True.intro] | rw [b_neg not_false] | simp only [Int.reduceToNat, Int.reduceSub, Int.reduceAdd, Int.reduceMul]))
      rw [if_neg (show ¬ x1 < h 36 2 by omega), if_neg (show ¬ 999 < x1 by omega)]
      by_cases c2 : x2 < 1 ∨ 15 < x2
      · (repeat (first | rw [e_i2l] | rw [e_cI] | rw [e_join] | rw [e_cP] | rw [e_gF] | rw [e_pF] | rw [e_cW] | rw [e_cV] | rw [e_in_t _ _ _ _ (by omega)] | rw [e_in_f _ _ _ _ (by omega)] | rw [b_pos (by omega)] | rw [b_neg (by omega)] | rw [e_add _ _ _ (by omega)] | rw [e_sub _ _ _ (by omega)] | rw [e_mul _ _ _ (by omega)] | rw [e_lsub _ _ _ (by omega)] | rw [e_rd _ _ _ _ _ (by omega)] | rw [b_pos True.intro] | rw [b_neg not_false] | simp only [Int.reduceToNat, Int.reduceSub, Int.reduceAdd, Int.reduceMul]))
      by_cases c4 : x3 < 1 ∨ 30 < x3
      · (repeat (first | rw [e_i2l] | rw [e_cI] | rw [e_join] | rw [e_cP] | rw [e_gF] | rw [e_pF] | rw [e_cW] | rw [e_cV] | rw [e_in_t _ _ _ _ (by omega)] | rw [e_in_f _ _ _ _ (by omega)] | rw [b_pos (by omega)] | rw [b_neg (by omega)] | rw [e_add _ _ _ (by omega)] | rw [e_sub _ _ _ (by omega)] | rw [e_mul _ _ _ (by omega)] | rw [e_lsub _ _ _ (by omega)] | rw [e_rd _ _ _ _ _ (by omega)] | rw [b_pos True.intro] | rw [b_neg not_false] | simp only [Int.reduceToNat, Int.reduceSub, Int.reduceAdd, Int.reduceMul]))
      (repeat (first | rw [e_i2l] | rw [e_cI] | rw [e_join] | rw [e_cP] | rw [e_gF] | rw [e_pF] | rw [e_cW] | rw [e_cV] | rw [e_in_t _ _ _ _ (by omega)] | rw [e_in_f _ _ _ _ (by omega)] | rw [b_pos (by omega)] | rw [b_neg (by omega)] | rw [e_add _ _ _ (by omega)] | rw [e_sub _ _ _ (by omega)] | rw [e_mul _ _ _ (by omega)] | rw [e_lsub _ _ _ (by omega)] | rw [e_rd _ _ _ _ _ (by omega)] | rw [b_pos True.intro] | rw [b_neg not_false] | simp only [Int.reduceToNat, Int.reduceSub, Int.reduceAdd, Int.reduceMul]))
  obtain ⟨b1, b2, b3, b4⟩ := b0
  have e : g_X8_isAnswer x4 = some 1 := by
    rw [k_isAnswer]
    rcases b4 with b4 | b4
    · rw [if_pos b4]
    · rw [if_neg (by omega), if_pos b4]
  rw [k_isNextStep, if_neg (show ¬ x1 < h 36 2 by omega), if_neg (show ¬ 999 < x1 by omega)]
  by_cases b5 : h 36 0 = 16
  · refine ⟨-3, h, h, ?_, ?_, r.next⟩
    · (repeat (first | rw [e] | rw [e_i2l] | rw [e_cI] | rw [e_join] | rw [e_cP] | rw [e_gF] | rw [e_pF] | rw [e_cW] | rw [e_cV] | rw [e_in_t _ _ _ _ (by omega)] | rw [e_in_f _ _ _ _ (by omega)] | rw [b_pos (by omega)] | rw [b_neg (by omega)] | rw [e_add _ _ _ (by omega)] | rw [e_sub _ _ _ (by omega)] | rw [e_mul _ _ _ (by omega)] | rw [e_lsub _ _ _ (by omega)] | rw [e_rd _ _ _ _ _ (by omega)] | rw [b_pos True.intro] | rw [b_neg not_false] | simp only [Int.reduceToNat, Int.reduceSub, Int.reduceAdd, Int.reduceMul]))
    · rw [m_isTelling, ← w1, if_neg (show ¬ x1 < h 36 2 by omega), if_neg (show ¬ 999 < x1 by omega)]
      (repeat (first | rw [← u1] | rw [e_i2l] | rw [e_cI] | rw [e_join] | rw [e_cP] | rw [e_gF] | rw [e_pF] | rw [e_cW] | rw [e_cV] | rw [e_in_t _ _ _ _ (by omega)] | rw [e_in_f _ _ _ _ (by omega)] | rw [b_pos (by omega)] | rw [b_neg (by omega)] | rw [e_add _ _ _ (by omega)] | rw [e_sub _ _ _ (by omega)] | rw [e_mul _ _ _ (by omega)] | rw [e_lsub _ _ _ (by omega)] | rw [e_rd _ _ _ _ _ (by omega)] | rw [b_pos True.intro] | rw [b_neg not_false] | simp only [Int.reduceToNat, Int.reduceSub, Int.reduceAdd, Int.reduceMul]))
  obtain ⟨k, hk⟩ := Int.eq_ofNat_of_zero_le u2
  have hk16 : k < 16 := by omega
  have f0 : ∀ p x y, p ≠ 36 → set2 h p x y 36 0 = (k : Int) := fun p x y hp => by rw [set2_np _ _ _ _ _ _ (by omega), hk]
  let h1 : Hp := set2 (set2 (set2 (set2 (set2 (set2 h 37 k x1) 38 k x2) 39 k x3) 40 k x4) 36 2 x1) 36 0 ((k : Int) + 1)
  have eh1 : h1 = set2 (set2 (set2 (set2 (set2 (set2 h 37 k x1) 38 k x2) 39 k x3) 40 k x4) 36 2 x1) 36 0 ((k : Int) + 1) := rfl
  have g100 : h1 100 = h 100 := by rw [eh1, set2_ne 100 (by omega), set2_ne 100 (by omega), set2_ne 100 (by omega), set2_ne 100 (by omega), set2_ne 100 (by omega), set2_ne 100 (by omega)]
  refine ⟨(k : Int), h1, set2 (set2 (set2 (set2 (set2 (set2 h1 100 53 x1) 126 k x2) 127 k x3) 128 k x4) 129 k x1) 100 51 ((k : Int) + 1), ?_, ?_, ?_⟩
  · (rw [e_cP, e_join]; (try dsimp only); rw [e_join]; (try dsimp only); rw [b_neg (by decide), e_cI, b_neg (by omega), e_cI, b_neg (by omega), e_cI, b_neg (by omega), e_cI, b_neg (by omega), e, e_cP, b_neg (by decide), e_cI, b_neg (by decide), e_gF, e_cI, b_pos (by omega)])
    unfold g_X7_tell
    rw [e_gF, e_cI, b_pos (by omega), e_gF, hk, e_wrn _ _ _ _ _ _ hk16, e_gF, f0 _ _ _ (by omega), e_wrn _ _ _ _ _ _ hk16, e_gF, set2_np _ _ _ _ _ _ (by omega), f0 _ _ _ (by omega), e_wrn _ _ _ _ _ _ hk16, e_gF, set2_np _ _ _ _ _ _ (by omega), set2_np _ _ _ _ _ _ (by omega), f0 _ _ _ (by omega), e_wrn _ _ _ _ _ _ hk16, e_pF, e_gF, set2_nk _ _ _ _ _ _ (by omega), set2_np _ _ _ _ _ _ (by omega), set2_np _ _ _ _ _ _ (by omega), set2_np _ _ _ _ _ _ (by omega), f0 _ _ _ (by omega), e_cI, e_add _ _ _ (by omega), e_pF, e_gF, set2_same, e_cI, e_sub _ _ _ (by omega), e_cW, show (k : Int) + 1 - 1 = k by omega]
  · have g51 : ∀ p x y, p ≠ 100 ∨ x ≠ 51 → set2 h1 p x y 100 51 = (k : Int) := by
      intro p x y hp
      rw [← hk, u1, ← g100]
      unfold set2
      rw [if_neg (by omega)]
    (rw [m_isTelling, e_cP, g100, ← w1, if_neg (show ¬ x1 < h 36 2 by omega), if_neg (show ¬ 999 < x1 by omega), e_join]; (try dsimp only); rw [b_neg (by decide), e_i2l, e_cI, e_cI, e_in_t _ _ _ _ (by omega), b_neg (by decide), e_i2l, e_cI, e_cI, e_in_t _ _ _ _ (by omega), b_neg (by decide), e_i2l, e_cI, e_cI, e_in_t _ _ _ _ (by omega), b_neg (by decide), e_gF, g100, ← u1, e_cI, b_neg (by omega), e_pF, e_gF, g51 _ _ _ (by omega), e_wrn _ _ _ _ _ _ hk16, e_gF, set2_np _ _ _ _ _ _ (by omega), g51 _ _ _ (by omega), e_wrn _ _ _ _ _ _ hk16, e_gF, set2_np _ _ _ _ _ _ (by omega), set2_np _ _ _ _ _ _ (by omega), g51 _ _ _ (by omega), e_wrn _ _ _ _ _ _ hk16, e_gF, set2_np _ _ _ _ _ _ (by omega), set2_np _ _ _ _ _ _ (by omega), set2_np _ _ _ _ _ _ (by omega), g51 _ _ _ (by omega), e_wrn _ _ _ _ _ _ hk16, e_gF, set2_np _ _ _ _ _ _ (by omega), set2_np _ _ _ _ _ _ (by omega), set2_np _ _ _ _ _ _ (by omega), set2_np _ _ _ _ _ _ (by omega), g51 _ _ _ (by omega), e_cI, e_add _ _ _ (by omega), e_pF, e_gF, set2_same, e_cI, e_sub _ _ _ (by omega), show (k : Int) + 1 - 1 = k by omega])
  · have fr : ∀ p, (p < 36 ∨ 40 < p) → (p < 126 ∨ 129 < p) → p ≠ 100 → set2 (set2 (set2 (set2 (set2 (set2 h1 100 53 x1) 126 k x2) 127 k x3) 128 k x4) 129 k x1) 100 51 ((k : Int) + 1) p = h p := by
      intro p a1 a2 a3
      rw [set2_ne p a3, set2_ne p (by omega), set2_ne p (by omega), set2_ne p (by omega), set2_ne p (by omega), set2_ne p a3, eh1, set2_ne p (by omega), set2_ne p (by omega), set2_ne p (by omega), set2_ne p (by omega), set2_ne p (by omega), set2_ne p (by omega)]
    have v36 : ∀ j, set2 (set2 (set2 (set2 (set2 (set2 h1 100 53 x1) 126 k x2) 127 k x3) 128 k x4) 129 k x1) 100 51 ((k : Int) + 1) 36 j = if j = 0 then (k : Int) + 1 else if j = 2 then x1 else h 36 j := by
      intro j
      rw [eh1]
      simp [set2]
    have v100 : ∀ j, set2 (set2 (set2 (set2 (set2 (set2 h1 100 53 x1) 126 k x2) 127 k x3) 128 k x4) 129 k x1) 100 51 ((k : Int) + 1) 100 j = if j = 51 then (k : Int) + 1 else if j = 53 then x1 else h 100 j := by
      intro j
      rw [eh1]
      simp [set2]
    have vv : ∀ j, ∀ (a : Nat) (x : Int), (a = 37 ∧ x = x1 ∨ a = 38 ∧ x = x2 ∨ a = 39 ∧ x = x3 ∨ a = 40 ∧ x = x4 ∨ a = 126 ∧ x = x2 ∨ a = 127 ∧ x = x3 ∨ a = 128 ∧ x = x4 ∨ a = 129 ∧ x = x1) → set2 (set2 (set2 (set2 (set2 (set2 h1 100 53 x1) 126 k x2) 127 k x3) 128 k x4) 129 k x1) 100 51 ((k : Int) + 1) a j = if j = k then x else h a j := by
      intro j a x ha
      rw [eh1]
      rcases ha with ⟨rfl, rfl⟩ | ⟨rfl, rfl⟩ | ⟨rfl, rfl⟩ | ⟨rfl, rfl⟩ | ⟨rfl, rfl⟩ | ⟨rfl, rfl⟩ | ⟨rfl, rfl⟩ | ⟨rfl, rfl⟩ <;> simp [set2]
    generalize set2 (set2 (set2 (set2 (set2 (set2 h1 100 53 x1) 126 k x2) 127 k x3) 128 k x4) 129 k x1) 100 51 ((k : Int) + 1) = h2 at fr v36 v100 vv
    refine r.tries ⟨?_, ?_, ?_, fun j hj => ?_, fun j hj => ?_⟩ (fun p a1 a2 a3 => fr p (by omega) (by omega) a3) (fun j a1 a2 a3 => by rw [v100, if_neg a1, if_neg a3])
    · rw [v36, v100, if_pos rfl, if_pos rfl]; omega
    · rw [v36, v100, if_neg (by omega), if_neg (by omega), if_neg (by omega), if_neg (by omega)]; exact ⟨v1, v2, v3⟩
    · rw [v36, v100, if_neg (by omega), if_pos rfl, if_neg (by omega), if_pos rfl]; exact ⟨rfl, by omega, by omega⟩
    · rw [v36, if_pos rfl] at hj
      rw [vv j 37 x1 (by simp), vv j 38 x2 (by simp), vv j 39 x3 (by simp), vv j 40 x4 (by simp), vv j 126 x2 (by simp), vv j 127 x3 (by simp), vv j 128 x4 (by simp), vv j 129 x1 (by simp), v36, if_neg (show ¬ (2 : Nat) = 0 by omega), if_pos rfl]
      by_cases q : j = k
      · simp only [if_pos q]
        exact ⟨⟨trivial, trivial, trivial, trivial⟩, by omega, b2, b3, b4, by omega⟩
      · have := a j (by omega)
        simp only [if_neg q]
        exact ⟨this.1, this.2.1, this.2.2.1, this.2.2.2.1, this.2.2.2.2.1, by omega⟩
    · rw [v36, if_neg (show ¬ (1 : Nat) = 0 by omega), if_neg (show ¬ (1 : Nat) = 2 by omega)] at hj
      obtain ⟨y1, y2, y3, y4, y5⟩ := q j hj
      rw [fr 41 (by omega) (by omega) (by omega), fr 42 (by omega) (by omega) (by omega), fr 43 (by omega) (by omega) (by omega), fr 130 (by omega) (by omega) (by omega), fr 131 (by omega) (by omega) (by omega), fr 132 (by omega) (by omega) (by omega), v36, if_pos rfl, vv _ 37 x1 (by simp), if_neg (by omega)]
      exact ⟨y1, y2, ⟨y3.1, by omega⟩, y4, y5⟩
