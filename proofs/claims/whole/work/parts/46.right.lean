/-! CALLS: right; how humps fit -/
def cntP (f : Nat → Int) (x : Int) : Nat → Int
  | 0 => 0
  | i + 1 => cntP f x i + (if f i = x then 1 else 0)
theorem cntP_in {f : Nat → Int} {x : Int} : ∀ n : Nat, 0 ≤ cntP f x n ∧ cntP f x n ≤ n
  | 0 => by unfold cntP; omega
  | n + 1 => by
    have := cntP_in (f := f) (x := x) n
    unfold cntP
    split <;> omega
theorem cntP_congr {f g : Nat → Int} {x : Int} : ∀ n : Nat, (∀ i, i < n → f i = g i) → cntP f x n = cntP g x n
  | 0, _ => rfl
  | n + 1, h => by
    unfold cntP
    rw [cntP_congr n (fun i hi => h i (by omega)), h n (by omega)]
theorem k_often {h : Hp} {b m : Nat} {x : Int} (hm : h b 1 = (m : Int)) (h20 : m ≤ 20) : loopF (g_X7_putRight_l17 b h x) FU (0, 0) = some (cntP (h (b + 6)) x m, h) := by
  refine loopF_for' m (fun i => (cntP (h (b + 6)) x i, (i : Int))) ?_ ?_ rfl (fu _ (by omega))
  · intro i hi self
    have hc := cntP_in (f := h (b + 6)) (x := x) i
    unfold g_X7_putRight_l17
    dsimp only
    rw [e_gF, hm, b_neg (by omega), e_rdn _ _ _ _ _ (by omega)]
    refine join_gen (fun j hj => ?_)
    by_cases q : h (b + 6) i = x
    · rw [b_pos q, e_cI, hj, e_add _ _ _ (by omega), e_add _ _ _ (by omega), show ((i + 1 : Nat) : Int) = (i : Int) + 1 by omega, show cntP (h (b + 6)) x (i + 1) = cntP (h (b + 6)) x i + 1 by simp only [cntP, if_pos q]]
    · rw [b_neg q, e_cI, hj, e_add _ _ _ (by omega), e_add _ _ _ (by omega), show ((i + 1 : Nat) : Int) = (i : Int) + 1 by omega, show cntP (h (b + 6)) x (i + 1) = cntP (h (b + 6)) x i + 0 by simp only [cntP, if_neg q]]
  · intro self
    unfold g_X7_putRight_l17
    dsimp only
    rw [e_gF, hm, b_pos (by omega)]
theorem m_often {h : Hp} {m : Nat} {x : Int} (hm : h 100 52 = (m : Int)) (h20 : m ≤ 20) : loopF (g_X9_right_l32 h x) FU (0, 0) = some (cntP (h 130) x m, h) := by
  refine loopF_for' m (fun i => (cntP (h 130) x i, (i : Int))) ?_ ?_ rfl (fu _ (by omega))
  · intro i hi self
    have hc := cntP_in (f := h 130) (x := x) i
    unfold g_X9_right_l32
    dsimp only
    rw [e_gF, hm, b_neg (by omega), e_rdn _ _ _ _ _ (by omega)]
    refine join_gen (fun j hj => ?_)
    by_cases q : h 130 i = x
    · rw [b_pos q, e_cI, hj, e_add _ _ _ (by omega), e_add _ _ _ (by omega), show ((i + 1 : Nat) : Int) = (i : Int) + 1 by omega, show cntP (h 130) x (i + 1) = cntP (h 130) x i + 1 by simp only [cntP, if_pos q]]
    · rw [b_neg q, e_cI, hj, e_add _ _ _ (by omega), e_add _ _ _ (by omega), show ((i + 1 : Nat) : Int) = (i : Int) + 1 by omega, show cntP (h 130) x (i + 1) = cntP (h 130) x i + 0 by simp only [cntP, if_neg q]]
  · intro self
    unfold g_X9_right_l32
    dsimp only
    rw [e_gF, hm, b_pos (by omega)]
theorem s_right {n : Nat} {h : Hp} {x1 x2 x3 : Int} (r : Rel n h) : ∃ z h1 h2, g_X8_right x1 x2 x3 h = some (z, h1) ∧ g_X9_right x1 x2 x3 h1 = some (z, h2) ∧ Rel (n + 1) h2 := by
  have r' := r
  obtain ⟨-, -, -, -, -, -, -, -, ⟨u1, u2, u3⟩, ⟨v1, v2, v3⟩, ⟨w1, w2, w3⟩, a, q⟩ := r'
  unfold g_X8_right g_X9_right
  by_cases b0 : (h 36 2 ≤ x1 ∧ x1 ≤ 999) ∧ (0 ≤ x2 ∧ x2 < h 36 0) ∧ (x3 = 0 ∨ x3 = 1)
  rotate_left
  · refine ⟨-2, h, h, ?_, ?_, r.next⟩
    · rw [k_isNextStep, e_cP]
      by_cases c1 : h 36 2 ≤ x1 ∧ x1 ≤ 999
      rotate_left
      · rw [show (if x1 < h 36 2 then (0 : Int) else if 999 < x1 then 0 else 1) = 0 by split <;> (try split) <;> omega]
        (repeat (first | rw [e_i2l] | rw [e_cI] | rw [e_join] | rw [e_cP] | rw [e_gF] | rw [e_pF] | rw [e_cW] | rw [e_cV] | rw [e_in_t _ _ _ _ (by omega)] | rw [e_in_f _ _ _ _ (by omega)] | rw [b_pos (by omega)] | rw [b_neg (by omega)] | rw [e_add _ _ _ (by omega)] | rw [e_sub _ _ _ (by omega)] | rw [e_mul _ _ _ (by omega)] | rw [e_lsub _ _ _ (by omega)] | rw [e_rd _ _ _ _ _ (by omega)] | rw [b_pos True.intro] | rw [b_neg not_false] | simp only [Int.reduceToNat, Int.reduceSub, Int.reduceAdd, Int.reduceMul]))
      rw [if_neg (show ¬ x1 < h 36 2 by omega), if_neg (show ¬ 999 < x1 by omega)]
      by_cases c2 : x2 < 0
      · (repeat (first | rw [e_i2l] | rw [e_cI] | rw [e_join] | rw [e_cP] | rw [e_gF] | rw [e_pF] | rw [e_cW] | rw [e_cV] | rw [e_in_t _ _ _ _ (by omega)] | rw [e_in_f _ _ _ _ (by omega)] | rw [b_pos (by omega)] | rw [b_neg (by omega)] | rw [e_add _ _ _ (by omega)] | rw [e_sub _ _ _ (by omega)] | rw [e_mul _ _ _ (by omega)] | rw [e_lsub _ _ _ (by omega)] | rw [e_rd _ _ _ _ _ (by omega)] | rw [b_pos True.intro] | rw [b_neg not_false] | simp only [Int.reduceToNat, Int.reduceSub, Int.reduceAdd, Int.reduceMul]))
      by_cases c3 : h 36 0 ≤ x2
      · (repeat (first | rw [e_i2l] | rw [e_cI] | rw [e_join] | rw [e_cP] | rw [e_gF] | rw [e_pF] | rw [e_cW] | rw [e_cV] | rw [e_in_t _ _ _ _ (by omega)] | rw [e_in_f _ _ _ _ (by omega)] | rw [b_pos (by omega)] | rw [b_neg (by omega)] | rw [e_add _ _ _ (by omega)] | rw [e_sub _ _ _ (by omega)] | rw [e_mul _ _ _ (by omega)] | rw [e_lsub _ _ _ (by omega)] | rw [e_rd _ _ _ _ _ (by omega)] | rw [b_pos True.intro] | rw [b_neg not_false] | simp only [Int.reduceToNat, Int.reduceSub, Int.reduceAdd, Int.reduceMul]))
      have e : g_X8_isAnswer x3 = some 0 := by rw [k_isAnswer, if_neg (by omega), if_neg (by omega)]
      (repeat (first | rw [e] | rw [e_i2l] | rw [e_cI] | rw [e_join] | rw [e_cP] | rw [e_gF] | rw [e_pF] | rw [e_cW] | rw [e_cV] | rw [e_in_t _ _ _ _ (by omega)] | rw [e_in_f _ _ _ _ (by omega)] | rw [b_pos (by omega)] | rw [b_neg (by omega)] | rw [e_add _ _ _ (by omega)] | rw [e_sub _ _ _ (by omega)] | rw [e_mul _ _ _ (by omega)] | rw [e_lsub _ _ _ (by omega)] | rw [e_rd _ _ _ _ _ (by omega)] | rw [b_pos True.intro] | rw [b_neg not_false] | simp only [Int.reduceToNat, Int.reduceSub, Int.reduceAdd, Int.reduceMul]))
    · rw [m_isTelling, e_cP, ← w1]
      by_cases c1 : h 36 2 ≤ x1 ∧ x1 ≤ 999
      rotate_left
      · rw [show (if x1 < h 36 2 then (0 : Int) else if 999 < x1 then 0 else 1) = 0 by split <;> (try split) <;> omega]
        (repeat (first | rw [e_i2l] | rw [e_cI] | rw [e_join] | rw [e_cP] | rw [e_gF] | rw [e_pF] | rw [e_cW] | rw [e_cV] | rw [e_in_t _ _ _ _ (by omega)] | rw [e_in_f _ _ _ _ (by omega)] | rw [b_pos (by omega)] | rw [b_neg (by omega)] | rw [e_add _ _ _ (by omega)] | rw [e_sub _ _ _ (by omega)] | rw [e_mul _ _ _ (by omega)] | rw [e_lsub _ _ _ (by omega)] | rw [e_rd _ _ _ _ _ (by omega)] | rw [b_pos True.intro] | rw [b_neg not_false] | simp only [Int.reduceToNat, Int.reduceSub, Int.reduceAdd, Int.reduceMul]))
      rw [if_neg (show ¬ x1 < h 36 2 by omega), if_neg (show ¬ 999 < x1 by omega)]
      by_cases c2 : x2 < 0 ∨ h 36 0 ≤ x2
      · (repeat (first | rw [← u1] | rw [e_i2l] | rw [e_cI] | rw [e_join] | rw [e_cP] | rw [e_gF] | rw [e_pF] | rw [e_cW] | rw [e_cV] | rw [e_in_t _ _ _ _ (by omega)] | rw [e_in_f _ _ _ _ (by omega)] | rw [b_pos (by omega)] | rw [b_neg (by omega)] | rw [e_add _ _ _ (by omega)] | rw [e_sub _ _ _ (by omega)] | rw [e_mul _ _ _ (by omega)] | rw [e_lsub _ _ _ (by omega)] | rw [e_rd _ _ _ _ _ (by omega)] | rw [b_pos True.intro] | rw [b_neg not_false] | simp only [Int.reduceToNat, Int.reduceSub, Int.reduceAdd, Int.reduceMul]))
      (repeat (first | rw [← u1] | rw [e_i2l] | rw [e_cI] | rw [e_join] | rw [e_cP] | rw [e_gF] | rw [e_pF] | rw [e_cW] | rw [e_cV] | rw [e_in_t _ _ _ _ (by omega)] | rw [e_in_f _ _ _ _ (by omega)] | rw [b_pos (by omega)] | rw [b_neg (by omega)] | rw [e_add _ _ _ (by omega)] | rw [e_sub _ _ _ (by omega)] | rw [e_mul _ _ _ (by omega)] | rw [e_lsub _ _ _ (by omega)] | rw [e_rd _ _ _ _ _ (by omega)] | rw [b_pos True.intro] | rw [b_neg not_false] | simp only [Int.reduceToNat, Int.reduceSub, Int.reduceAdd, Int.reduceMul]))
  obtain ⟨b1, b2, b4⟩ := b0
  have e : g_X8_isAnswer x3 = some 1 := by
    rw [k_isAnswer]
    rcases b4 with b4 | b4
    · rw [if_pos b4]
    · rw [if_neg (by omega), if_pos b4]
  rw [k_isNextStep, if_neg (show ¬ x1 < h 36 2 by omega), if_neg (show ¬ 999 < x1 by omega)]
  by_cases b5 : h 36 1 = 20
  · refine ⟨-3, h, h, ?_, ?_, r.next⟩
    · (repeat (first | rw [e] | rw [e_i2l] | rw [e_cI] | rw [e_join] | rw [e_cP] | rw [e_gF] | rw [e_pF] | rw [e_cW] | rw [e_cV] | rw [e_in_t _ _ _ _ (by omega)] | rw [e_in_f _ _ _ _ (by omega)] | rw [b_pos (by omega)] | rw [b_neg (by omega)] | rw [e_add _ _ _ (by omega)] | rw [e_sub _ _ _ (by omega)] | rw [e_mul _ _ _ (by omega)] | rw [e_lsub _ _ _ (by omega)] | rw [e_rd _ _ _ _ _ (by omega)] | rw [b_pos True.intro] | rw [b_neg not_false] | simp only [Int.reduceToNat, Int.reduceSub, Int.reduceAdd, Int.reduceMul]))
    · rw [m_isTelling, ← w1, if_neg (show ¬ x1 < h 36 2 by omega), if_neg (show ¬ 999 < x1 by omega)]
      (repeat (first | rw [← u1] | rw [← v1] | rw [e_i2l] | rw [e_cI] | rw [e_join] | rw [e_cP] | rw [e_gF] | rw [e_pF] | rw [e_cW] | rw [e_cV] | rw [e_in_t _ _ _ _ (by omega)] | rw [e_in_f _ _ _ _ (by omega)] | rw [b_pos (by omega)] | rw [b_neg (by omega)] | rw [e_add _ _ _ (by omega)] | rw [e_sub _ _ _ (by omega)] | rw [e_mul _ _ _ (by omega)] | rw [e_lsub _ _ _ (by omega)] | rw [e_rd _ _ _ _ _ (by omega)] | rw [b_pos True.intro] | rw [b_neg not_false] | simp only [Int.reduceToNat, Int.reduceSub, Int.reduceAdd, Int.reduceMul]))
  obtain ⟨k, hk⟩ := Int.eq_ofNat_of_zero_le v2
  have hk20 : k < 20 := by omega
  let h1 : Hp := set2 (set2 (set2 (set2 (set2 h 41 k x1) 42 k x2) 43 k x3) 36 2 x1) 36 1 ((k : Int) + 1)
  have eh1 : h1 = set2 (set2 (set2 (set2 (set2 h 41 k x1) 42 k x2) 43 k x3) 36 2 x1) 36 1 ((k : Int) + 1) := rfl
  have g100 : h1 100 = h 100 := by rw [eh1, set2_ne 100 (by omega), set2_ne 100 (by omega), set2_ne 100 (by omega), set2_ne 100 (by omega), set2_ne 100 (by omega)]
  let h2 : Hp := set2 (set2 (set2 (set2 (set2 h1 100 53 x1) 130 k x2) 131 k x3) 132 k x1) 100 52 ((k : Int) + 1)
  have eh2 : h2 = set2 (set2 (set2 (set2 (set2 h1 100 53 x1) 130 k x2) 131 k x3) 132 k x1) 100 52 ((k : Int) + 1) := rfl
  have fr : ∀ p, (p < 36 ∨ (36 < p ∧ p < 41) ∨ 43 < p) → (p < 130 ∨ 132 < p) → p ≠ 100 → h2 p = h p := by
    intro p a1 a2 a3
    rw [eh2, set2_ne p a3, set2_ne p (by omega), set2_ne p (by omega), set2_ne p (by omega), set2_ne p a3, eh1, set2_ne p (by omega), set2_ne p (by omega), set2_ne p (by omega), set2_ne p (by omega), set2_ne p (by omega)]
  have v36 : ∀ j, h2 36 j = if j = 1 then (k : Int) + 1 else if j = 2 then x1 else h 36 j := by
    intro j
    rw [eh2, eh1]
    simp [set2]
  have v100 : ∀ j, h2 100 j = if j = 52 then (k : Int) + 1 else if j = 53 then x1 else h 100 j := by
    intro j
    rw [eh2, eh1]
    simp [set2]
  have vv : ∀ j, ∀ (a : Nat) (x : Int), (a = 41 ∧ x = x1 ∨ a = 42 ∧ x = x2 ∨ a = 43 ∧ x = x3 ∨ a = 130 ∧ x = x2 ∨ a = 131 ∧ x = x3 ∨ a = 132 ∧ x = x1) → h2 a j = if j = k then x else h a j := by
    intro j a x ha
    rw [eh2, eh1]
    rcases ha with ⟨rfl, rfl⟩ | ⟨rfl, rfl⟩ | ⟨rfl, rfl⟩ | ⟨rfl, rfl⟩ | ⟨rfl, rfl⟩ | ⟨rfl, rfl⟩ <;> simp [set2]
  have e42 : h1 42 = h2 42 := by rw [eh2, set2_ne 42 (by omega), set2_ne 42 (by omega), set2_ne 42 (by omega), set2_ne 42 (by omega), set2_ne 42 (by omega)]
  have k1 := k_often (h := h1) (b := 36) (m := k + 1) (x := x2) (by rw [eh1, set2_same]; omega) (by omega)
  have m1 := m_often (h := h2) (m := k + 1) (x := x2) (by rw [v100, if_pos rfl]; omega) (by omega)
  have ec : cntP (h1 (36 + 6)) x2 (k + 1) = cntP (h2 130) x2 (k + 1) := by
    refine cntP_congr _ (fun i hi => ?_)
    rw [show 36 + 6 = 42 from rfl, e42, vv i 42 x2 (by simp), vv i 130 x2 (by simp)]
    split
    · rfl
    · exact (q i (by omega)).1.2.1
  refine ⟨cntP (h2 130) x2 (k + 1), h1, h2, ?_, ?_, ?_⟩
  · (rw [e_cP, e_join]; (try dsimp only); rw [b_neg (by decide), b_neg (by omega), e_gF, b_neg (by omega), e, e_cP, b_neg (by decide), e_gF, e_cI, b_pos (by omega)])
    unfold g_X7_putRight
    rw [e_gF, e_cI, b_pos (by omega), e_gF, hk, e_wrn _ _ _ _ _ _ hk20, e_gF, set2_np _ _ _ _ _ _ (by omega), hk, e_wrn _ _ _ _ _ _ hk20, e_gF, set2_np _ _ _ _ _ _ (by omega), set2_np _ _ _ _ _ _ (by omega), hk, e_wrn _ _ _ _ _ _ hk20, e_pF, e_gF, set2_nk _ _ _ _ _ _ (by omega), set2_np _ _ _ _ _ _ (by omega), set2_np _ _ _ _ _ _ (by omega), set2_np _ _ _ _ _ _ (by omega), hk, e_cI, e_add _ _ _ (by omega), e_pF, e_cI, e_cI]
    have := k1
    rw [ec] at this
    rw [eh1] at this ⊢
    rw [this, e_cW]
  · have g52 : ∀ p x y, p ≠ 100 ∨ x ≠ 52 → set2 h1 p x y 100 52 = (k : Int) := by
      intro p x y hp
      rw [← hk, v1, ← g100]
      unfold set2
      rw [if_neg (by omega)]
    (rw [m_isTelling, e_cP, g100, ← w1, if_neg (show ¬ x1 < h 36 2 by omega), if_neg (show ¬ 999 < x1 by omega), e_join]; (try dsimp only); rw [b_neg (by decide), e_i2l, e_cI, e_gF, g100, ← u1, e_i2l, e_cI, e_lsub _ _ _ (by omega), e_in_t _ _ _ _ (by omega), b_neg (by decide), e_i2l, e_cI, e_cI, e_in_t _ _ _ _ (by omega), b_neg (by decide), e_gF, g100, ← v1, e_cI, b_neg (by omega), e_pF, e_gF, g52 _ _ _ (by omega), e_wrn _ _ _ _ _ _ hk20, e_gF, set2_np _ _ _ _ _ _ (by omega), g52 _ _ _ (by omega), e_wrn _ _ _ _ _ _ hk20, e_gF, set2_np _ _ _ _ _ _ (by omega), set2_np _ _ _ _ _ _ (by omega), g52 _ _ _ (by omega), e_wrn _ _ _ _ _ _ hk20, e_gF, set2_np _ _ _ _ _ _ (by omega), set2_np _ _ _ _ _ _ (by omega), set2_np _ _ _ _ _ _ (by omega), g52 _ _ _ (by omega), e_cI, e_add _ _ _ (by omega), e_pF, e_cI, e_cI])
    exact m1
  · clear k1 m1 ec e42
    generalize h2 = h2 at *
    refine r.tries ⟨?_, ?_, ?_, fun j hj => ?_, fun j hj => ?_⟩ (fun p a1 a2 a3 => fr p (by omega) (by omega) a3) (fun j a1 a2 a3 => by rw [v100, if_neg a2, if_neg a3])
    · rw [v36, v100, if_neg (by omega), if_neg (by omega), if_neg (by omega), if_neg (by omega)]; exact ⟨u1, u2, u3⟩
    · rw [v36, v100, if_pos rfl, if_pos rfl]; omega
    · rw [v36, v100, if_neg (by omega), if_pos rfl, if_neg (by omega), if_pos rfl]; exact ⟨rfl, by omega, by omega⟩
    · rw [v36, if_neg (show ¬ (0 : Nat) = 1 by omega), if_neg (show ¬ (0 : Nat) = 2 by omega)] at hj
      obtain ⟨y1, y2, y3, y4, y5, y6⟩ := a j hj
      rw [fr 37 (by omega) (by omega) (by omega), fr 38 (by omega) (by omega) (by omega), fr 39 (by omega) (by omega) (by omega), fr 40 (by omega) (by omega) (by omega), fr 126 (by omega) (by omega) (by omega), fr 127 (by omega) (by omega) (by omega), fr 128 (by omega) (by omega) (by omega), fr 129 (by omega) (by omega) (by omega), v36, if_neg (show ¬ (2 : Nat) = 1 by omega), if_pos rfl]
      exact ⟨y1, y2, y3, y4, y5, by omega⟩
    · rw [v36, if_pos rfl] at hj
      rw [vv j 41 x1 (by simp), vv j 42 x2 (by simp), vv j 43 x3 (by simp), vv j 130 x2 (by simp), vv j 131 x3 (by simp), vv j 132 x1 (by simp), v36, if_neg (show ¬ (0 : Nat) = 1 by omega), if_neg (show ¬ (0 : Nat) = 2 by omega), fr 37 (by omega) (by omega) (by omega)]
      by_cases z : j = k
      · simp only [if_pos z]
        have := a x2.toNat (by omega)
        exact ⟨⟨trivial, trivial, trivial⟩, by omega, b2, b4, by omega⟩
      · have := q j (by omega)
        simp only [if_neg z]
        exact this
