/-! CALLS that only read: cells, flags, sums, sand -/
def sandP (x y : Int) : Prop := (0 ≤ x ∧ x ≤ 16) ∧ (0 ≤ y ∧ y ≤ 4)
theorem k_isSand_t {x y : Int} (h : sandP x y) : g_X8_isSand x y = some 1 := by
  unfold sandP at h
  unfold g_X8_isSand
  (repeat (first | rw [e_i2l] | rw [e_cI] | rw [e_join] | rw [e_cP] | rw [e_gF] | rw [e_pF] | rw [e_cW] | rw [e_cV] | rw [e_in_t _ _ _ _ (by omega)] | rw [e_in_f _ _ _ _ (by omega)] | rw [b_pos (by omega)] | rw [b_neg (by omega)] | rw [e_add _ _ _ (by omega)] | rw [e_sub _ _ _ (by omega)] | rw [e_mul _ _ _ (by omega)] | rw [e_lsub _ _ _ (by omega)] | rw [e_rd _ _ _ _ _ (by omega)] | rw [b_pos True.intro] | rw [b_neg not_false] | simp only [Int.reduceToNat, Int.reduceSub, Int.reduceAdd, Int.reduceMul]))
  exact e_retZ1
theorem k_isSand_f {x y : Int} (h : ¬ sandP x y) : g_X8_isSand x y = some 0 := by
  unfold sandP at h
  unfold g_X8_isSand
  by_cases h1 : x < 0
  · (repeat (first | rw [e_i2l] | rw [e_cI] | rw [e_join] | rw [e_cP] | rw [e_gF] | rw [e_pF] | rw [e_cW] | rw [e_cV] | rw [e_in_t _ _ _ _ (by omega)] | rw [e_in_f _ _ _ _ (by omega)] | rw [b_pos (by omega)] | rw [b_neg (by omega)] | rw [e_add _ _ _ (by omega)] | rw [e_sub _ _ _ (by omega)] | rw [e_mul _ _ _ (by omega)] | rw [e_lsub _ _ _ (by omega)] | rw [e_rd _ _ _ _ _ (by omega)] | rw [b_pos True.intro] | rw [b_neg not_false] | simp only [Int.reduceToNat, Int.reduceSub, Int.reduceAdd, Int.reduceMul]))
    exact e_retZ0
  by_cases h2 : 16 < x
  · (repeat (first | rw [e_i2l] | rw [e_cI] | rw [e_join] | rw [e_cP] | rw [e_gF] | rw [e_pF] | rw [e_cW] | rw [e_cV] | rw [e_in_t _ _ _ _ (by omega)] | rw [e_in_f _ _ _ _ (by omega)] | rw [b_pos (by omega)] | rw [b_neg (by omega)] | rw [e_add _ _ _ (by omega)] | rw [e_sub _ _ _ (by omega)] | rw [e_mul _ _ _ (by omega)] | rw [e_lsub _ _ _ (by omega)] | rw [e_rd _ _ _ _ _ (by omega)] | rw [b_pos True.intro] | rw [b_neg not_false] | simp only [Int.reduceToNat, Int.reduceSub, Int.reduceAdd, Int.reduceMul]))
    exact e_retZ0
  by_cases h3 : y < 0
  · (repeat (first | rw [e_i2l] | rw [e_cI] | rw [e_join] | rw [e_cP] | rw [e_gF] | rw [e_pF] | rw [e_cW] | rw [e_cV] | rw [e_in_t _ _ _ _ (by omega)] | rw [e_in_f _ _ _ _ (by omega)] | rw [b_pos (by omega)] | rw [b_neg (by omega)] | rw [e_add _ _ _ (by omega)] | rw [e_sub _ _ _ (by omega)] | rw [e_mul _ _ _ (by omega)] | rw [e_lsub _ _ _ (by omega)] | rw [e_rd _ _ _ _ _ (by omega)] | rw [b_pos True.intro] | rw [b_neg not_false] | simp only [Int.reduceToNat, Int.reduceSub, Int.reduceAdd, Int.reduceMul]))
    exact e_retZ0
  (repeat (first | rw [e_i2l] | rw [e_cI] | rw [e_join] | rw [e_cP] | rw [e_gF] | rw [e_pF] | rw [e_cW] | rw [e_cV] | rw [e_in_t _ _ _ _ (by omega)] | rw [e_in_f _ _ _ _ (by omega)] | rw [b_pos (by omega)] | rw [b_neg (by omega)] | rw [e_add _ _ _ (by omega)] | rw [e_sub _ _ _ (by omega)] | rw [e_mul _ _ _ (by omega)] | rw [e_lsub _ _ _ (by omega)] | rw [e_rd _ _ _ _ _ (by omega)] | rw [b_pos True.intro] | rw [b_neg not_false] | simp only [Int.reduceToNat, Int.reduceSub, Int.reduceAdd, Int.reduceMul]))
  exact e_retZ0
theorem m_isSand_t {x y : Int} (h : sandP x y) : g_X9_isSand x y = some 1 := by
  unfold sandP at h
  unfold g_X9_isSand
  (repeat (first | rw [e_i2l] | rw [e_cI] | rw [e_join] | rw [e_cP] | rw [e_gF] | rw [e_pF] | rw [e_cW] | rw [e_cV] | rw [e_in_t _ _ _ _ (by omega)] | rw [e_in_f _ _ _ _ (by omega)] | rw [b_pos (by omega)] | rw [b_neg (by omega)] | rw [e_add _ _ _ (by omega)] | rw [e_sub _ _ _ (by omega)] | rw [e_mul _ _ _ (by omega)] | rw [e_lsub _ _ _ (by omega)] | rw [e_rd _ _ _ _ _ (by omega)] | rw [b_pos True.intro] | rw [b_neg not_false] | simp only [Int.reduceToNat, Int.reduceSub, Int.reduceAdd, Int.reduceMul]))
  exact e_retZ1
theorem m_isSand_f {x y : Int} (h : ¬ sandP x y) : g_X9_isSand x y = some 0 := by
  unfold sandP at h
  unfold g_X9_isSand
  by_cases h1 : x < 0 ∨ 16 < x
  · (repeat (first | rw [e_i2l] | rw [e_cI] | rw [e_join] | rw [e_cP] | rw [e_gF] | rw [e_pF] | rw [e_cW] | rw [e_cV] | rw [e_in_t _ _ _ _ (by omega)] | rw [e_in_f _ _ _ _ (by omega)] | rw [b_pos (by omega)] | rw [b_neg (by omega)] | rw [e_add _ _ _ (by omega)] | rw [e_sub _ _ _ (by omega)] | rw [e_mul _ _ _ (by omega)] | rw [e_lsub _ _ _ (by omega)] | rw [e_rd _ _ _ _ _ (by omega)] | rw [b_pos True.intro] | rw [b_neg not_false] | simp only [Int.reduceToNat, Int.reduceSub, Int.reduceAdd, Int.reduceMul]))
    exact e_retZ0
  (repeat (first | rw [e_i2l] | rw [e_cI] | rw [e_join] | rw [e_cP] | rw [e_gF] | rw [e_pF] | rw [e_cW] | rw [e_cV] | rw [e_in_t _ _ _ _ (by omega)] | rw [e_in_f _ _ _ _ (by omega)] | rw [b_pos (by omega)] | rw [b_neg (by omega)] | rw [e_add _ _ _ (by omega)] | rw [e_sub _ _ _ (by omega)] | rw [e_mul _ _ _ (by omega)] | rw [e_lsub _ _ _ (by omega)] | rw [e_rd _ _ _ _ _ (by omega)] | rw [b_pos True.intro] | rw [b_neg not_false] | simp only [Int.reduceToNat, Int.reduceSub, Int.reduceAdd, Int.reduceMul]))
  exact e_retZ0
theorem s_holds {n : Nat} {h : Hp} {x1 x2 : Int} (r : Rel n h) : ∃ z, g_X8_holds x1 x2 h = some z ∧ g_X9_holds x1 x2 h = some z := by
  obtain ⟨hv, ⟨c, rb⟩, -⟩ := r
  have eb := fun (R : Type) (K : Nat → Option R) => e_gR h 0 1 c [3, 9] K rb.ref.1 rb.ref.2
  unfold g_X8_holds g_X9_holds
  by_cases b : sandP x1 x2
  · rw [k_isSand_t b, m_isSand_t b]
    (repeat (first | rw [eb] | rw [k_bearing rb.2.2.1 hv b.1 b.2] | rw [m_holdsOf Rel.pm hv b.1 b.2] | rw [e_i2l] | rw [e_cI] | rw [e_join] | rw [e_cP] | rw [e_gF] | rw [e_pF] | rw [e_cW] | rw [e_cV] | rw [e_in_t _ _ _ _ (by omega)] | rw [e_in_f _ _ _ _ (by omega)] | rw [b_pos (by omega)] | rw [b_neg (by omega)] | rw [e_add _ _ _ (by omega)] | rw [e_sub _ _ _ (by omega)] | rw [e_mul _ _ _ (by omega)] | rw [e_lsub _ _ _ (by omega)] | rw [e_rd _ _ _ _ _ (by omega)] | rw [b_pos True.intro] | rw [b_neg not_false] | simp only [Int.reduceToNat, Int.reduceSub, Int.reduceAdd, Int.reduceMul]))
    exact ⟨_, rfl, rfl⟩
  · rw [k_isSand_f b, m_isSand_f b]
    (repeat (first | rw [e_i2l] | rw [e_cI] | rw [e_join] | rw [e_cP] | rw [e_gF] | rw [e_pF] | rw [e_cW] | rw [e_cV] | rw [e_in_t _ _ _ _ (by omega)] | rw [e_in_f _ _ _ _ (by omega)] | rw [b_pos (by omega)] | rw [b_neg (by omega)] | rw [e_add _ _ _ (by omega)] | rw [e_sub _ _ _ (by omega)] | rw [e_mul _ _ _ (by omega)] | rw [e_lsub _ _ _ (by omega)] | rw [e_rd _ _ _ _ _ (by omega)] | rw [b_pos True.intro] | rw [b_neg not_false] | simp only [Int.reduceToNat, Int.reduceSub, Int.reduceAdd, Int.reduceMul]))
    exact ⟨_, rfl, rfl⟩
theorem s_high {n : Nat} {h : Hp} {x1 x2 x3 : Int} (r : Rel n h) : ∃ z, g_X8_high x1 x2 x3 h = some z ∧ g_X9_high x1 x2 x3 h = some z := by
  obtain ⟨hv, ⟨c, rb⟩, -⟩ := r
  have eb := fun (R : Type) (K : Nat → Option R) => e_gR h 0 1 c [3, 9] K rb.ref.1 rb.ref.2
  unfold g_X8_high g_X9_high
  by_cases b0 : 1 ≤ x1 ∧ x1 ≤ 40
  rotate_left
  · by_cases b1 : x1 < 1
    · (repeat (first | rw [e_i2l] | rw [e_cI] | rw [e_join] | rw [e_cP] | rw [e_gF] | rw [e_pF] | rw [e_cW] | rw [e_cV] | rw [e_in_t _ _ _ _ (by omega)] | rw [e_in_f _ _ _ _ (by omega)] | rw [b_pos (by omega)] | rw [b_neg (by omega)] | rw [e_add _ _ _ (by omega)] | rw [e_sub _ _ _ (by omega)] | rw [e_mul _ _ _ (by omega)] | rw [e_lsub _ _ _ (by omega)] | rw [e_rd _ _ _ _ _ (by omega)] | rw [b_pos True.intro] | rw [b_neg not_false] | simp only [Int.reduceToNat, Int.reduceSub, Int.reduceAdd, Int.reduceMul]))
      exact ⟨_, rfl, rfl⟩
    · (repeat (first | rw [e_i2l] | rw [e_cI] | rw [e_join] | rw [e_cP] | rw [e_gF] | rw [e_pF] | rw [e_cW] | rw [e_cV] | rw [e_in_t _ _ _ _ (by omega)] | rw [e_in_f _ _ _ _ (by omega)] | rw [b_pos (by omega)] | rw [b_neg (by omega)] | rw [e_add _ _ _ (by omega)] | rw [e_sub _ _ _ (by omega)] | rw [e_mul _ _ _ (by omega)] | rw [e_lsub _ _ _ (by omega)] | rw [e_rd _ _ _ _ _ (by omega)] | rw [b_pos True.intro] | rw [b_neg not_false] | simp only [Int.reduceToNat, Int.reduceSub, Int.reduceAdd, Int.reduceMul]))
      exact ⟨_, rfl, rfl⟩
  by_cases b : sandP x2 x3
  · have hh := holdsP_pos hv b.1 b.2
    rw [k_isSand_t b, m_isSand_t b]
    (repeat (first | rw [eb] | rw [k_bearing rb.2.2.1 hv b.1 b.2] | rw [m_holdsOf Rel.pm hv b.1 b.2] | rw [e_div _ _ _ (by omega)] | rw [e_i2l] | rw [e_cI] | rw [e_join] | rw [e_cP] | rw [e_gF] | rw [e_pF] | rw [e_cW] | rw [e_cV] | rw [e_in_t _ _ _ _ (by omega)] | rw [e_in_f _ _ _ _ (by omega)] | rw [b_pos (by omega)] | rw [b_neg (by omega)] | rw [e_add _ _ _ (by omega)] | rw [e_sub _ _ _ (by omega)] | rw [e_mul _ _ _ (by omega)] | rw [e_lsub _ _ _ (by omega)] | rw [e_rd _ _ _ _ _ (by omega)] | rw [b_pos True.intro] | rw [b_neg not_false] | simp only [Int.reduceToNat, Int.reduceSub, Int.reduceAdd, Int.reduceMul]))
    have h1 : 0 ≤ (x1 + 1) / 2 ∧ (x1 + 1) / 2 ≤ 20 := by omega
    generalize holdsP h x2 x3 = w at hh ⊢
    generalize (x1 + 1) / 2 = u at h1 ⊢
    have hm : 0 ≤ u * w := Int.mul_nonneg h1.1 (by omega)
    have hm2 : u * w ≤ 20 * 41 := Int.mul_le_mul h1.2 hh.2 (by omega) (by omega)
    rw [e_mul w u _ (by rw [Int.mul_comm]; omega), e_mul u w _ (by omega), Int.mul_comm]
    exact ⟨_, rfl, rfl⟩
  · rw [k_isSand_f b, m_isSand_f b]
    (repeat (first | rw [e_i2l] | rw [e_cI] | rw [e_join] | rw [e_cP] | rw [e_gF] | rw [e_pF] | rw [e_cW] | rw [e_cV] | rw [e_in_t _ _ _ _ (by omega)] | rw [e_in_f _ _ _ _ (by omega)] | rw [b_pos (by omega)] | rw [b_neg (by omega)] | rw [e_add _ _ _ (by omega)] | rw [e_sub _ _ _ (by omega)] | rw [e_mul _ _ _ (by omega)] | rw [e_lsub _ _ _ (by omega)] | rw [e_rd _ _ _ _ _ (by omega)] | rw [b_pos True.intro] | rw [b_neg not_false] | simp only [Int.reduceToNat, Int.reduceSub, Int.reduceAdd, Int.reduceMul]))
    exact ⟨_, rfl, rfl⟩
theorem s_cell {n : Nat} {h : Hp} {x1 x2 x3 : Int} (hx : inR x1) (hx2 : inR x2) (hx3 : inR x3) (r : Rel n h) : ∃ z, g_X8_cell x1 x2 x3 h = some z ∧ g_X9_cell x1 x2 x3 h = some z := by
  obtain ⟨hv, ⟨c, rb⟩, -, -, ⟨hI, hR, -⟩, -⟩ := r
  unfold inR at hx hx2 hx3
  obtain ⟨c10, c11, a1, a2, a3, a4⟩ := hv.cr
  have hN := hv.n
  have eb := fun (R : Type) (K : Nat → Option R) => e_gR h 0 1 c [3, 9] K rb.ref.1 rb.ref.2
  have ec := k_columns rb.2.2.1 hv
  have er := k_rows rb.2.2.1 hv
  unfold g_X8_cell g_X9_cell
  by_cases b0 : 0 ≤ x1 ∧ x1 < cN h
  rotate_left
  · by_cases b1 : x1 < 0
    · (repeat (first | rw [c10] | rw [e_i2l] | rw [e_cI] | rw [e_join] | rw [e_cP] | rw [e_gF] | rw [e_pF] | rw [e_cW] | rw [e_cV] | rw [e_in_t _ _ _ _ (by omega)] | rw [e_in_f _ _ _ _ (by omega)] | rw [b_pos (by omega)] | rw [b_neg (by omega)] | rw [e_add _ _ _ (by omega)] | rw [e_sub _ _ _ (by omega)] | rw [e_mul _ _ _ (by omega)] | rw [e_lsub _ _ _ (by omega)] | rw [e_rd _ _ _ _ _ (by omega)] | rw [b_pos True.intro] | rw [b_neg not_false] | simp only [Int.reduceToNat, Int.reduceSub, Int.reduceAdd, Int.reduceMul]))
      exact ⟨_, rfl, rfl⟩
    · (repeat (first | rw [eb] | rw [ec] | rw [c10] | rw [e_i2l] | rw [e_cI] | rw [e_join] | rw [e_cP] | rw [e_gF] | rw [e_pF] | rw [e_cW] | rw [e_cV] | rw [e_in_t _ _ _ _ (by omega)] | rw [e_in_f _ _ _ _ (by omega)] | rw [b_pos (by omega)] | rw [b_neg (by omega)] | rw [e_add _ _ _ (by omega)] | rw [e_sub _ _ _ (by omega)] | rw [e_mul _ _ _ (by omega)] | rw [e_lsub _ _ _ (by omega)] | rw [e_rd _ _ _ _ _ (by omega)] | rw [b_pos True.intro] | rw [b_neg not_false] | simp only [Int.reduceToNat, Int.reduceSub, Int.reduceAdd, Int.reduceMul]))
      exact ⟨_, rfl, rfl⟩
  by_cases b1 : 0 ≤ x2 ∧ x2 < rN h
  rotate_left
  · by_cases b1 : x2 < 0
    · (repeat (first | rw [eb] | rw [ec] | rw [er] | rw [c10] | rw [c11] | rw [e_i2l] | rw [e_cI] | rw [e_join] | rw [e_cP] | rw [e_gF] | rw [e_pF] | rw [e_cW] | rw [e_cV] | rw [e_in_t _ _ _ _ (by omega)] | rw [e_in_f _ _ _ _ (by omega)] | rw [b_pos (by omega)] | rw [b_neg (by omega)] | rw [e_add _ _ _ (by omega)] | rw [e_sub _ _ _ (by omega)] | rw [e_mul _ _ _ (by omega)] | rw [e_lsub _ _ _ (by omega)] | rw [e_rd _ _ _ _ _ (by omega)] | rw [b_pos True.intro] | rw [b_neg not_false] | simp only [Int.reduceToNat, Int.reduceSub, Int.reduceAdd, Int.reduceMul]))
      exact ⟨_, rfl, rfl⟩
    · (repeat (first | rw [eb] | rw [ec] | rw [er] | rw [c10] | rw [c11] | rw [e_i2l] | rw [e_cI] | rw [e_join] | rw [e_cP] | rw [e_gF] | rw [e_pF] | rw [e_cW] | rw [e_cV] | rw [e_in_t _ _ _ _ (by omega)] | rw [e_in_f _ _ _ _ (by omega)] | rw [b_pos (by omega)] | rw [b_neg (by omega)] | rw [e_add _ _ _ (by omega)] | rw [e_sub _ _ _ (by omega)] | rw [e_mul _ _ _ (by omega)] | rw [e_lsub _ _ _ (by omega)] | rw [e_rd _ _ _ _ _ (by omega)] | rw [b_pos True.intro] | rw [b_neg not_false] | simp only [Int.reduceToNat, Int.reduceSub, Int.reduceAdd, Int.reduceMul]))
      exact ⟨_, rfl, rfl⟩
  obtain ⟨x, rfl⟩ := Int.eq_ofNat_of_zero_le b0.1
  obtain ⟨y, rfl⟩ := Int.eq_ofNat_of_zero_le b1.1
  have hc := cell_lt (P := h) (show x < cN h by omega) (show y < rN h by omega)
  have em : ∀ K : Int → Option Int, mulI (y : Int) (cN h : Int) K = K ((cN h * y : Nat) : Int) := by
    intro K
    have e : (y : Int) * (cN h : Int) = ((cN h * y : Nat) : Int) := by push_cast; rw [Int.mul_comm]
    rw [e_mul _ _ _ (by rw [e]; omega), e]
  have em2 : ∀ K : Int → Option Int, mulI (cN h : Int) (y : Int) K = K ((cN h * y : Nat) : Int) := by
    intro K
    have e : (cN h : Int) * (y : Int) = ((cN h * y : Nat) : Int) := by push_cast; rfl
    rw [e_mul _ _ _ (by rw [e]; omega), e]
  have e1 : ((cN h * y : Nat) : Int) + (x : Int) = ((cN h * y + x : Nat) : Int) := by push_cast; rfl
  generalize hk : cN h * y + x = k at hc e1
  have rk := hR.1.1 k hc
  have ik := hI.1 k hc
  have f1 : ∀ a : Nat, (a : Int) + (k : Int) = ((a + k : Nat) : Int) := fun a => by omega
  by_cases b5 : x3 < 0 ∨ 4 < x3
  · (repeat (first | rw [eb] | rw [ec] | rw [er] | rw [c10] | rw [c11] | rw [em] | rw [em2] | rw [e1] | rw [e_i2l] | rw [e_cI] | rw [e_join] | rw [e_cP] | rw [e_gF] | rw [e_pF] | rw [e_cW] | rw [e_cV] | rw [e_in_t _ _ _ _ (by omega)] | rw [e_in_f _ _ _ _ (by omega)] | rw [b_pos (by omega)] | rw [b_neg (by omega)] | rw [e_add _ _ _ (by omega)] | rw [e_sub _ _ _ (by omega)] | rw [e_mul _ _ _ (by omega)] | rw [e_lsub _ _ _ (by omega)] | rw [e_rd _ _ _ _ _ (by omega)] | rw [b_pos True.intro] | rw [b_neg not_false] | simp only [Int.reduceToNat, Int.reduceSub, Int.reduceAdd, Int.reduceMul]))
    exact ⟨_, rfl, rfl⟩
  rcases (by omega : x3 = 0 ∨ x3 = 1 ∨ x3 = 2 ∨ x3 = 3 ∨ x3 = 4) with rfl | rfl | rfl | rfl | rfl
  · (repeat (first | rw [eb] | rw [ec] | rw [er] | rw [c10] | rw [c11] | rw [em] | rw [em2] | rw [e1] | rw [e_rdn _ _ _ _ _ (by omega)] | rw [tn_0] | rw [rk.1] | rw [e_i2l] | rw [e_cI] | rw [e_join] | rw [e_cP] | rw [e_gF] | rw [e_pF] | rw [e_cW] | rw [e_cV] | rw [e_in_t _ _ _ _ (by omega)] | rw [e_in_f _ _ _ _ (by omega)] | rw [b_pos (by omega)] | rw [b_neg (by omega)] | rw [e_add _ _ _ (by omega)] | rw [e_sub _ _ _ (by omega)] | rw [e_mul _ _ _ (by omega)] | rw [e_lsub _ _ _ (by omega)] | rw [e_rd _ _ _ _ _ (by omega)] | rw [b_pos True.intro] | rw [b_neg not_false] | simp only [Int.reduceToNat, Int.reduceSub, Int.reduceAdd, Int.reduceMul]))
    exact ⟨_, rfl, rfl⟩
  · (repeat (first | rw [eb] | rw [ec] | rw [er] | rw [c10] | rw [c11] | rw [em] | rw [em2] | rw [e1] | rw [e_rdn _ _ _ _ _ (by omega)] | rw [tn_64] | rw [rk.2.1] | rw [e_i2l] | rw [e_cI] | rw [e_join] | rw [e_cP] | rw [e_gF] | rw [e_pF] | rw [e_cW] | rw [e_cV] | rw [e_in_t _ _ _ _ (by omega)] | rw [e_in_f _ _ _ _ (by omega)] | rw [b_pos (by omega)] | rw [b_neg (by omega)] | rw [e_add _ _ _ (by omega)] | rw [e_sub _ _ _ (by omega)] | rw [e_mul _ _ _ (by omega)] | rw [e_lsub _ _ _ (by omega)] | rw [e_rd _ _ _ _ _ (by omega)] | rw [b_pos True.intro] | rw [b_neg not_false] | simp only [Int.reduceToNat, Int.reduceSub, Int.reduceAdd, Int.reduceMul]))
    exact ⟨_, rfl, rfl⟩
  · (repeat (first | rw [eb] | rw [ec] | rw [er] | rw [c10] | rw [c11] | rw [em] | rw [em2] | rw [e1] | rw [e_rdn _ _ _ _ _ (by omega)] | rw [tn_128] | rw [rk.2.2.1] | rw [e_i2l] | rw [e_cI] | rw [e_join] | rw [e_cP] | rw [e_gF] | rw [e_pF] | rw [e_cW] | rw [e_cV] | rw [e_in_t _ _ _ _ (by omega)] | rw [e_in_f _ _ _ _ (by omega)] | rw [b_pos (by omega)] | rw [b_neg (by omega)] | rw [e_add _ _ _ (by omega)] | rw [e_sub _ _ _ (by omega)] | rw [e_mul _ _ _ (by omega)] | rw [e_lsub _ _ _ (by omega)] | rw [e_rd _ _ _ _ _ (by omega)] | rw [b_pos True.intro] | rw [b_neg not_false] | simp only [Int.reduceToNat, Int.reduceSub, Int.reduceAdd, Int.reduceMul]))
    exact ⟨_, rfl, rfl⟩
  · (repeat (first | rw [eb] | rw [ec] | rw [er] | rw [c10] | rw [c11] | rw [em] | rw [em2] | rw [e1] | rw [e_rdn _ _ _ _ _ (by omega)] | rw [tn_192] | rw [rk.2.2.2] | rw [e_i2l] | rw [e_cI] | rw [e_join] | rw [e_cP] | rw [e_gF] | rw [e_pF] | rw [e_cW] | rw [e_cV] | rw [e_in_t _ _ _ _ (by omega)] | rw [e_in_f _ _ _ _ (by omega)] | rw [b_pos (by omega)] | rw [b_neg (by omega)] | rw [e_add _ _ _ (by omega)] | rw [e_sub _ _ _ (by omega)] | rw [e_mul _ _ _ (by omega)] | rw [e_lsub _ _ _ (by omega)] | rw [e_rd _ _ _ _ _ (by omega)] | rw [b_pos True.intro] | rw [b_neg not_false] | simp only [Int.reduceToNat, Int.reduceSub, Int.reduceAdd, Int.reduceMul]))
    exact ⟨_, rfl, rfl⟩
  · (repeat (first | rw [eb] | rw [ec] | rw [er] | rw [c10] | rw [c11] | rw [em] | rw [em2] | rw [e1] | rw [e_rdn _ _ _ _ _ (by omega)] | rw [tn_64] | rw [tn_128] | rw [rk.2.1] | rw [rk.2.2.1] | rw [k_bearing rb.2.2.1 hv ik.2.1 ik.2.2.1] | rw [m_holdsOf Rel.pm hv ik.2.1 ik.2.2.1] | rw [e_i2l] | rw [e_cI] | rw [e_join] | rw [e_cP] | rw [e_gF] | rw [e_pF] | rw [e_cW] | rw [e_cV] | rw [e_in_t _ _ _ _ (by omega)] | rw [e_in_f _ _ _ _ (by omega)] | rw [b_pos (by omega)] | rw [b_neg (by omega)] | rw [e_add _ _ _ (by omega)] | rw [e_sub _ _ _ (by omega)] | rw [e_mul _ _ _ (by omega)] | rw [e_lsub _ _ _ (by omega)] | rw [e_rd _ _ _ _ _ (by omega)] | rw [b_pos True.intro] | rw [b_neg not_false] | simp only [Int.reduceToNat, Int.reduceSub, Int.reduceAdd, Int.reduceMul]))
    exact ⟨_, rfl, rfl⟩
theorem s_flag {n : Nat} {h : Hp} {x1 x2 : Int} (hx : inR x1) (hx2 : inR x2) (r : Rel n h) : ∃ z, g_X8_flag x1 x2 h = some z ∧ g_X9_flag x1 x2 h = some z := by
  obtain ⟨hv, ⟨c, rb⟩, -, -, ⟨hI, hR, -⟩, -⟩ := r
  unfold inR at hx hx2
  obtain ⟨h12, hfl, hhp⟩ := pv_flags hv
  have hN := hv.n
  have eb := fun (R : Type) (K : Nat → Option R) => e_gR h 0 1 c [3, 9] K rb.ref.1 rb.ref.2
  unfold g_X8_flag g_X9_flag
  rw [m_isFlag hv, k_isFlag rb]
  by_cases b0 : 0 ≤ x1 ∧ x1 < h 100 12
  rotate_left
  · rw [show (if x1 < 0 then (0 : Int) else if h 100 12 - 1 < x1 then 0 else 1) = 0 by split <;> (try split) <;> omega]
    (repeat (first | rw [e_i2l] | rw [e_cI] | rw [e_join] | rw [e_cP] | rw [e_gF] | rw [e_pF] | rw [e_cW] | rw [e_cV] | rw [e_in_t _ _ _ _ (by omega)] | rw [e_in_f _ _ _ _ (by omega)] | rw [b_pos (by omega)] | rw [b_neg (by omega)] | rw [e_add _ _ _ (by omega)] | rw [e_sub _ _ _ (by omega)] | rw [e_mul _ _ _ (by omega)] | rw [e_lsub _ _ _ (by omega)] | rw [e_rd _ _ _ _ _ (by omega)] | rw [b_pos True.intro] | rw [b_neg not_false] | simp only [Int.reduceToNat, Int.reduceSub, Int.reduceAdd, Int.reduceMul]))
    exact ⟨_, rfl, rfl⟩
  rw [show (if x1 < 0 then (0 : Int) else if h 100 12 - 1 < x1 then 0 else 1) = 1 by split <;> (try split) <;> omega]
  obtain ⟨k, rfl⟩ := Int.eq_ofNat_of_zero_le b0.1
  obtain ⟨f1, f2, f3⟩ := hR.1.2.2.1.2 k (by omega)
  have hci := hfl k (by omega)
  have hbk := rb.2.2.1.2.2.2.1 k (by omega)
  obtain ⟨m, hm⟩ := Int.eq_ofNat_of_zero_le hci.1
  rw [hm] at hci f2 f3 hbk
  simp only [Int.toNat_natCast] at f3
  have hfh := k_firstHeight (k := m) rb.2.2.1 hv (by omega)
  by_cases b5 : x2 < 0 ∨ 3 < x2
  · (repeat (first | rw [e_i2l] | rw [e_cI] | rw [e_join] | rw [e_cP] | rw [e_gF] | rw [e_pF] | rw [e_cW] | rw [e_cV] | rw [e_in_t _ _ _ _ (by omega)] | rw [e_in_f _ _ _ _ (by omega)] | rw [b_pos (by omega)] | rw [b_neg (by omega)] | rw [e_add _ _ _ (by omega)] | rw [e_sub _ _ _ (by omega)] | rw [e_mul _ _ _ (by omega)] | rw [e_lsub _ _ _ (by omega)] | rw [e_rd _ _ _ _ _ (by omega)] | rw [b_pos True.intro] | rw [b_neg not_false] | simp only [Int.reduceToNat, Int.reduceSub, Int.reduceAdd, Int.reduceMul]))
    exact ⟨_, rfl, rfl⟩
  rcases (by omega : x2 = 0 ∨ x2 = 1 ∨ x2 = 2 ∨ x2 = 3) with rfl | rfl | rfl | rfl
  · by_cases b6 : h 121 (264 + k) = -1
    · (repeat (first | rw [e_rdn _ _ _ _ _ (by omega)] | rw [tn_264] | rw [f1] | rw [e_i2l] | rw [e_cI] | rw [e_join] | rw [e_cP] | rw [e_gF] | rw [e_pF] | rw [e_cW] | rw [e_cV] | rw [e_in_t _ _ _ _ (by omega)] | rw [e_in_f _ _ _ _ (by omega)] | rw [b_pos (by omega)] | rw [b_neg (by omega)] | rw [e_add _ _ _ (by omega)] | rw [e_sub _ _ _ (by omega)] | rw [e_mul _ _ _ (by omega)] | rw [e_lsub _ _ _ (by omega)] | rw [e_rd _ _ _ _ _ (by omega)] | rw [b_pos True.intro] | rw [b_neg not_false] | simp only [Int.reduceToNat, Int.reduceSub, Int.reduceAdd, Int.reduceMul]))
      exact ⟨_, rfl, rfl⟩
    · (repeat (first | rw [e_rdn _ _ _ _ _ (by omega)] | rw [tn_264] | rw [f1] | rw [e_i2l] | rw [e_cI] | rw [e_join] | rw [e_cP] | rw [e_gF] | rw [e_pF] | rw [e_cW] | rw [e_cV] | rw [e_in_t _ _ _ _ (by omega)] | rw [e_in_f _ _ _ _ (by omega)] | rw [b_pos (by omega)] | rw [b_neg (by omega)] | rw [e_add _ _ _ (by omega)] | rw [e_sub _ _ _ (by omega)] | rw [e_mul _ _ _ (by omega)] | rw [e_lsub _ _ _ (by omega)] | rw [e_rd _ _ _ _ _ (by omega)] | rw [b_pos True.intro] | rw [b_neg not_false] | simp only [Int.reduceToNat, Int.reduceSub, Int.reduceAdd, Int.reduceMul]))
      exact ⟨_, rfl, rfl⟩
  · (repeat (first | rw [eb] | rw [e_rdn _ _ _ _ _ (by omega)] | rw [tn_256] | rw [hbk] | rw [f2] | rw [e_i2l] | rw [e_cI] | rw [e_join] | rw [e_cP] | rw [e_gF] | rw [e_pF] | rw [e_cW] | rw [e_cV] | rw [e_in_t _ _ _ _ (by omega)] | rw [e_in_f _ _ _ _ (by omega)] | rw [b_pos (by omega)] | rw [b_neg (by omega)] | rw [e_add _ _ _ (by omega)] | rw [e_sub _ _ _ (by omega)] | rw [e_mul _ _ _ (by omega)] | rw [e_lsub _ _ _ (by omega)] | rw [e_rd _ _ _ _ _ (by omega)] | rw [b_pos True.intro] | rw [b_neg not_false] | simp only [Int.reduceToNat, Int.reduceSub, Int.reduceAdd, Int.reduceMul]))
    exact ⟨_, rfl, rfl⟩
  · (repeat (first | rw [eb] | rw [e_rdn _ _ _ _ _ (by omega)] | rw [tn_260] | rw [hbk] | rw [f3] | rw [hfh] | rw [e_i2l] | rw [e_cI] | rw [e_join] | rw [e_cP] | rw [e_gF] | rw [e_pF] | rw [e_cW] | rw [e_cV] | rw [e_in_t _ _ _ _ (by omega)] | rw [e_in_f _ _ _ _ (by omega)] | rw [b_pos (by omega)] | rw [b_neg (by omega)] | rw [e_add _ _ _ (by omega)] | rw [e_sub _ _ _ (by omega)] | rw [e_mul _ _ _ (by omega)] | rw [e_lsub _ _ _ (by omega)] | rw [e_rd _ _ _ _ _ (by omega)] | rw [b_pos True.intro] | rw [b_neg not_false] | simp only [Int.reduceToNat, Int.reduceSub, Int.reduceAdd, Int.reduceMul]))
    exact ⟨_, rfl, rfl⟩
  · (repeat (first | rw [e_rdn _ _ _ _ _ (by omega)] | rw [tn_264] | rw [f1] | rw [e_i2l] | rw [e_cI] | rw [e_join] | rw [e_cP] | rw [e_gF] | rw [e_pF] | rw [e_cW] | rw [e_cV] | rw [e_in_t _ _ _ _ (by omega)] | rw [e_in_f _ _ _ _ (by omega)] | rw [b_pos (by omega)] | rw [b_neg (by omega)] | rw [e_add _ _ _ (by omega)] | rw [e_sub _ _ _ (by omega)] | rw [e_mul _ _ _ (by omega)] | rw [e_lsub _ _ _ (by omega)] | rw [e_rd _ _ _ _ _ (by omega)] | rw [b_pos True.intro] | rw [b_neg not_false] | simp only [Int.reduceToNat, Int.reduceSub, Int.reduceAdd, Int.reduceMul]))
    exact ⟨_, rfl, rfl⟩
theorem s_sum {n : Nat} {h : Hp} {x1 : Int} (r : Rel n h) : ∃ z, g_X8_sum x1 h = some z ∧ g_X9_sum x1 h = some z := by
  obtain ⟨hv, ⟨c, rb⟩, -, -, ⟨hI, hR, -⟩, -⟩ := r
  obtain ⟨c10, c11, a1, a2, a3, a4⟩ := hv.cr
  have hN := hv.n
  have hnn := PV.nn (P := h)
  have eb := fun (R : Type) (K : Nat → Option R) => e_gR h 0 1 c [3, 9] K rb.ref.1 rb.ref.2
  obtain ⟨p1, p2, p3, p4, p5, p6⟩ := hR.1.2.1
  have hS := hI.2.1
  unfold SV at hS
  have hsum : ∀ i, i ≤ nN h → 0 ≤ sumN (h 121) i ∧ sumN (h 121) i ≤ 6336 := by
    intro i hi
    have h1 := sumN_nonneg (f := h 121) (n := i) (fun k hk => hI.nn (by omega))
    have h2 := sumN_mono (f := h 121) (n := nN h) (fun k hk => hI.nn hk) hi
    omega
  have ec := k_cells rb.2.2.1 hv
  -- both sums
  have hm : ∀ j4 : Int → Option Int, loopF (g_X9_sum_l27 h j4) FU (0, 0) = j4 (sumN (h 121) (nN h)) := by
    intro j4
    refine loopF_for' (nN h) (fun i => (sumN (h 121) i, (i : Int))) ?_ ?_ rfl (fu _ (by omega))
    · intro i hi self
      have s1 := hsum i (by omega)
      have s2 := hsum (i + 1) (by omega)
      have e1 : sumN (h 121) (i + 1) = sumN (h 121) i + h 121 i := rfl
      unfold g_X9_sum_l27
      dsimp only
      rw [e1] at s2 ⊢
      rw [e_gF, e_gF, c10, c11, e_mul _ _ _ (by omega), hnn, b_neg (by omega), e_cI, e_add _ _ _ (by omega), e_rd _ _ _ _ _ (by omega), tn_0, e_add _ _ _ (by omega), e_add _ _ _ (by omega), show ((i + 1 : Nat) : Int) = (i : Int) + 1 by omega]
    · intro self
      unfold g_X9_sum_l27
      dsimp only
      rw [e_gF, e_gF, c10, c11, e_mul _ _ _ (by omega), hnn, b_pos (by omega)]
  have hk : g_X3_heights 26 (nN h : Int) h = some (sumN (h 121) (nN h)) := by
    unfold g_X3_heights
    rw [e_cI, e_cI]
    refine join_gen (fun j4 hj4 => ?_)
    refine loopF_for' (nN h) (fun i => (sumN (h 121) i, (i : Int))) ?_ ?_ rfl (fu _ (by omega))
    · intro i hi self
      have s1 := hsum i (by omega)
      have s2 := hsum (i + 1) (by omega)
      have e1 : sumN (h 121) (i + 1) = sumN (h 121) i + h 121 i := rfl
      unfold g_X3_heights_l7
      dsimp only
      rw [e1] at s2 ⊢
      rw [b_neg (by omega), e_cI, b_neg (by omega), e_rdn _ _ _ _ _ (by omega), (hR.1.1 i hi).1, e_add _ _ _ (by omega), e_add _ _ _ (by omega), show ((i + 1 : Nat) : Int) = (i : Int) + 1 by omega]
    · intro self
      unfold g_X3_heights_l7
      dsimp only
      rw [b_pos (by omega), hj4]
  unfold g_X8_sum g_X9_sum
  rw [e_cI, e_cI, e_join, e_join, hm]
  by_cases b0 : x1 = 0
  · (repeat (first | rw [eb] | rw [ec] | rw [hk] | rw [e_i2l] | rw [e_cI] | rw [e_join] | rw [e_cP] | rw [e_gF] | rw [e_pF] | rw [e_cW] | rw [e_cV] | rw [e_in_t _ _ _ _ (by omega)] | rw [e_in_f _ _ _ _ (by omega)] | rw [b_pos (by omega)] | rw [b_neg (by omega)] | rw [e_add _ _ _ (by omega)] | rw [e_sub _ _ _ (by omega)] | rw [e_mul _ _ _ (by omega)] | rw [e_lsub _ _ _ (by omega)] | rw [e_rd _ _ _ _ _ (by omega)] | rw [b_pos True.intro] | rw [b_neg not_false] | simp only [Int.reduceToNat, Int.reduceSub, Int.reduceAdd, Int.reduceMul]))
    exact ⟨_, rfl, rfl⟩
  by_cases b1 : x1 = 1
  · (repeat (first | rw [p2] | rw [e_i2l] | rw [e_cI] | rw [e_join] | rw [e_cP] | rw [e_gF] | rw [e_pF] | rw [e_cW] | rw [e_cV] | rw [e_in_t _ _ _ _ (by omega)] | rw [e_in_f _ _ _ _ (by omega)] | rw [b_pos (by omega)] | rw [b_neg (by omega)] | rw [e_add _ _ _ (by omega)] | rw [e_sub _ _ _ (by omega)] | rw [e_mul _ _ _ (by omega)] | rw [e_lsub _ _ _ (by omega)] | rw [e_rd _ _ _ _ _ (by omega)] | rw [b_pos True.intro] | rw [b_neg not_false] | simp only [Int.reduceToNat, Int.reduceSub, Int.reduceAdd, Int.reduceMul]))
    exact ⟨_, rfl, rfl⟩
  by_cases b2 : x1 = 2
  · (repeat (first | rw [p1] | rw [e_i2l] | rw [e_cI] | rw [e_join] | rw [e_cP] | rw [e_gF] | rw [e_pF] | rw [e_cW] | rw [e_cV] | rw [e_in_t _ _ _ _ (by omega)] | rw [e_in_f _ _ _ _ (by omega)] | rw [b_pos (by omega)] | rw [b_neg (by omega)] | rw [e_add _ _ _ (by omega)] | rw [e_sub _ _ _ (by omega)] | rw [e_mul _ _ _ (by omega)] | rw [e_lsub _ _ _ (by omega)] | rw [e_rd _ _ _ _ _ (by omega)] | rw [b_pos True.intro] | rw [b_neg not_false] | simp only [Int.reduceToNat, Int.reduceSub, Int.reduceAdd, Int.reduceMul]))
    exact ⟨_, rfl, rfl⟩
  by_cases b3 : x1 = 3
  · (repeat (first | rw [p3] | rw [e_i2l] | rw [e_cI] | rw [e_join] | rw [e_cP] | rw [e_gF] | rw [e_pF] | rw [e_cW] | rw [e_cV] | rw [e_in_t _ _ _ _ (by omega)] | rw [e_in_f _ _ _ _ (by omega)] | rw [b_pos (by omega)] | rw [b_neg (by omega)] | rw [e_add _ _ _ (by omega)] | rw [e_sub _ _ _ (by omega)] | rw [e_mul _ _ _ (by omega)] | rw [e_lsub _ _ _ (by omega)] | rw [e_rd _ _ _ _ _ (by omega)] | rw [b_pos True.intro] | rw [b_neg not_false] | simp only [Int.reduceToNat, Int.reduceSub, Int.reduceAdd, Int.reduceMul]))
    exact ⟨_, rfl, rfl⟩
  by_cases b4 : x1 = 4
  · (repeat (first | rw [p4] | rw [e_i2l] | rw [e_cI] | rw [e_join] | rw [e_cP] | rw [e_gF] | rw [e_pF] | rw [e_cW] | rw [e_cV] | rw [e_in_t _ _ _ _ (by omega)] | rw [e_in_f _ _ _ _ (by omega)] | rw [b_pos (by omega)] | rw [b_neg (by omega)] | rw [e_add _ _ _ (by omega)] | rw [e_sub _ _ _ (by omega)] | rw [e_mul _ _ _ (by omega)] | rw [e_lsub _ _ _ (by omega)] | rw [e_rd _ _ _ _ _ (by omega)] | rw [b_pos True.intro] | rw [b_neg not_false] | simp only [Int.reduceToNat, Int.reduceSub, Int.reduceAdd, Int.reduceMul]))
    exact ⟨_, rfl, rfl⟩
  by_cases b5 : x1 = 5
  · (repeat (first | rw [p5] | rw [e_i2l] | rw [e_cI] | rw [e_join] | rw [e_cP] | rw [e_gF] | rw [e_pF] | rw [e_cW] | rw [e_cV] | rw [e_in_t _ _ _ _ (by omega)] | rw [e_in_f _ _ _ _ (by omega)] | rw [b_pos (by omega)] | rw [b_neg (by omega)] | rw [e_add _ _ _ (by omega)] | rw [e_sub _ _ _ (by omega)] | rw [e_mul _ _ _ (by omega)] | rw [e_lsub _ _ _ (by omega)] | rw [e_rd _ _ _ _ _ (by omega)] | rw [b_pos True.intro] | rw [b_neg not_false] | simp only [Int.reduceToNat, Int.reduceSub, Int.reduceAdd, Int.reduceMul]))
    exact ⟨_, rfl, rfl⟩
  by_cases b6 : x1 = 6
  · (repeat (first | rw [p6] | rw [e_i2l] | rw [e_cI] | rw [e_join] | rw [e_cP] | rw [e_gF] | rw [e_pF] | rw [e_cW] | rw [e_cV] | rw [e_in_t _ _ _ _ (by omega)] | rw [e_in_f _ _ _ _ (by omega)] | rw [b_pos (by omega)] | rw [b_neg (by omega)] | rw [e_add _ _ _ (by omega)] | rw [e_sub _ _ _ (by omega)] | rw [e_mul _ _ _ (by omega)] | rw [e_lsub _ _ _ (by omega)] | rw [e_rd _ _ _ _ _ (by omega)] | rw [b_pos True.intro] | rw [b_neg not_false] | simp only [Int.reduceToNat, Int.reduceSub, Int.reduceAdd, Int.reduceMul]))
    exact ⟨_, rfl, rfl⟩
  (repeat (first | rw [e_i2l] | rw [e_cI] | rw [e_join] | rw [e_cP] | rw [e_gF] | rw [e_pF] | rw [e_cW] | rw [e_cV] | rw [e_in_t _ _ _ _ (by omega)] | rw [e_in_f _ _ _ _ (by omega)] | rw [b_pos (by omega)] | rw [b_neg (by omega)] | rw [e_add _ _ _ (by omega)] | rw [e_sub _ _ _ (by omega)] | rw [e_mul _ _ _ (by omega)] | rw [e_lsub _ _ _ (by omega)] | rw [e_rd _ _ _ _ _ (by omega)] | rw [b_pos True.intro] | rw [b_neg not_false] | simp only [Int.reduceToNat, Int.reduceSub, Int.reduceAdd, Int.reduceMul]))
  exact ⟨_, rfl, rfl⟩
