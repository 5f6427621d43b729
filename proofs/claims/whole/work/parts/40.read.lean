/-! CALLS that only read -/
theorem e_i2l {R : Type} (x : Int) (K : Int → Option R) : i2lI x K = K x := nrfl rfl
theorem e_lsub {R : Type} (x y : Int) (K : Int → Option R) (h : -9223372036854775808 ≤ x - y ∧ x - y < 9223372036854775808) : lsubI x y K = K (x - y) := by unfold lsubI; rw [wl_eq h]
theorem e_lcmp {R : Type} (x y : Int) (K : Int → Option R) : lcmpI x y K = K (if y < x then 1 else if x = y then 0 else -1) := nrfl rfl
theorem e_gR {R : Type} (h : Hp) (b k c : Nat) (l : List Nat) (K : Nat → Option R) (e : h b k = (c : Int)) (hc : c ∈ l) : gR h b k l K = K c := by
  unfold gR
  rw [e, if_pos ⟨by omega, by simpa using hc⟩]
  simp
theorem e_rdQ {R : Type} (n base stride k : Nat) (K : Nat → Option R) (h : k < n) : rdQ n base stride (k : Int) K = K (base + stride * k) := by unfold rdQ; rw [if_pos (by omega), Int.toNat_natCast]
theorem m_in (x lo hi : Int) : g_X9_in x lo hi = some (if x < lo then 0 else if hi < x then 0 else 1) := by
  unfold g_X9_in
  rw [e_lcmp, e_join, e_join]
  by_cases h1 : x < lo
  · rw [if_neg (show ¬ lo < x by omega), if_neg (show ¬ x = lo by omega), b_pos (by decide), e_cI, if_pos h1]
    exact e_retZ0
  rw [b_neg (by split <;> (try split) <;> omega), e_lcmp, if_neg h1]
  by_cases h2 : hi < x
  · rw [if_pos h2, b_pos (by decide), e_cI, if_pos h2]
    exact e_retZ0
  · rw [if_neg h2, b_neg (by split <;> omega), e_cI, if_neg h2]
    exact e_retZ1
theorem e_in_t {R : Type} (x lo hi : Int) (K : Int → Option R) (h : lo ≤ x ∧ x ≤ hi) : cP (g_X9_in x lo hi) K = K 1 := by rw [m_in, if_neg (by omega), if_neg (by omega), e_cP]
theorem e_in_f {R : Type} (x lo hi : Int) (K : Int → Option R) (h : x < lo ∨ hi < x) : cP (g_X9_in x lo hi) K = K 0 := by
  rw [m_in]
  by_cases h1 : x < lo
  · rw [if_pos h1, e_cP]
  · rw [if_neg h1, if_pos (by omega), e_cP]
theorem BchR.ref {h : Hp} {c : Nat} (r : BchR h c) : h 0 1 = (c : Int) ∧ c ∈ [3, 9] := ⟨r.2.1.1, by rcases r.1 with q | q <;> simp [q]⟩
theorem SeaR.ref {h : Hp} {c : Nat} (r : SeaR h c) : h 0 3 = (c : Int) ∧ c ∈ [15, 20] := ⟨r.2.1.1, by rcases r.1 with q | q <;> simp [q]⟩
theorem s_fault {n : Nat} {h : Hp} {x1 : Int} (r : Rel n h) : ∃ z, g_X8_fault x1 h = some z ∧ g_X9_fault x1 h = some z := by
  obtain ⟨-, -, -, -, -, -, -, ⟨r1, r2⟩, -⟩ := r
  unfold g_X8_fault g_X9_fault
  by_cases b0 : x1 = 0
  · (repeat (first | rw [r1] | rw [e_i2l] | rw [e_cI] | rw [e_join] | rw [e_cP] | rw [e_gF] | rw [e_pF] | rw [e_cW] | rw [e_cV] | rw [e_in_t _ _ _ _ (by omega)] | rw [e_in_f _ _ _ _ (by omega)] | rw [b_pos (by omega)] | rw [b_neg (by omega)] | rw [e_add _ _ _ (by omega)] | rw [e_sub _ _ _ (by omega)] | rw [e_mul _ _ _ (by omega)] | rw [e_lsub _ _ _ (by omega)] | rw [e_rd _ _ _ _ _ (by omega)] | rw [b_pos True.intro] | rw [b_neg not_false] | simp only [Int.reduceToNat, Int.reduceSub, Int.reduceAdd, Int.reduceMul]))
    exact ⟨_, rfl, rfl⟩
  by_cases b1 : x1 = 1
  · (repeat (first | rw [r2] | rw [e_i2l] | rw [e_cI] | rw [e_join] | rw [e_cP] | rw [e_gF] | rw [e_pF] | rw [e_cW] | rw [e_cV] | rw [e_in_t _ _ _ _ (by omega)] | rw [e_in_f _ _ _ _ (by omega)] | rw [b_pos (by omega)] | rw [b_neg (by omega)] | rw [e_add _ _ _ (by omega)] | rw [e_sub _ _ _ (by omega)] | rw [e_mul _ _ _ (by omega)] | rw [e_lsub _ _ _ (by omega)] | rw [e_rd _ _ _ _ _ (by omega)] | rw [b_pos True.intro] | rw [b_neg not_false] | simp only [Int.reduceToNat, Int.reduceSub, Int.reduceAdd, Int.reduceMul]))
    exact ⟨_, rfl, rfl⟩
  (repeat (first | rw [e_i2l] | rw [e_cI] | rw [e_join] | rw [e_cP] | rw [e_gF] | rw [e_pF] | rw [e_cW] | rw [e_cV] | rw [e_in_t _ _ _ _ (by omega)] | rw [e_in_f _ _ _ _ (by omega)] | rw [b_pos (by omega)] | rw [b_neg (by omega)] | rw [e_add _ _ _ (by omega)] | rw [e_sub _ _ _ (by omega)] | rw [e_mul _ _ _ (by omega)] | rw [e_lsub _ _ _ (by omega)] | rw [e_rd _ _ _ _ _ (by omega)] | rw [b_pos True.intro] | rw [b_neg not_false] | simp only [Int.reduceToNat, Int.reduceSub, Int.reduceAdd, Int.reduceMul]))
  exact ⟨_, rfl, rfl⟩
theorem s_count {n : Nat} {h : Hp} {x1 : Int} (r : Rel n h) : ∃ z, g_X8_count x1 h = some z ∧ g_X9_count x1 h = some z := by
  obtain ⟨-, ⟨c, rb⟩, ⟨v, rs⟩, -, -, -, rt, -, ru⟩ := r
  have eb := fun (R : Type) (K : Nat → Option R) => e_gR h 0 1 c [3, 9] K rb.ref.1 rb.ref.2
  have es := fun (R : Type) (K : Nat → Option R) => e_gR h 0 3 v [15, 20] K rs.ref.1 rs.ref.2
  have q0 := rb.2.2.2
  have q1 := rs.2.2.2
  have q2 := ru.1.1
  have q3 := ru.2.1.1
  have q4 := rt.1
  unfold g_X8_count g_X9_count
  by_cases b0 : x1 = 0
  · (repeat (first | rw [eb] | rw [q0] | rw [e_i2l] | rw [e_cI] | rw [e_join] | rw [e_cP] | rw [e_gF] | rw [e_pF] | rw [e_cW] | rw [e_cV] | rw [e_in_t _ _ _ _ (by omega)] | rw [e_in_f _ _ _ _ (by omega)] | rw [b_pos (by omega)] | rw [b_neg (by omega)] | rw [e_add _ _ _ (by omega)] | rw [e_sub _ _ _ (by omega)] | rw [e_mul _ _ _ (by omega)] | rw [e_lsub _ _ _ (by omega)] | rw [e_rd _ _ _ _ _ (by omega)] | rw [b_pos True.intro] | rw [b_neg not_false] | simp only [Int.reduceToNat, Int.reduceSub, Int.reduceAdd, Int.reduceMul]))
    exact ⟨_, rfl, rfl⟩
  by_cases b1 : x1 = 1
  · (repeat (first | rw [es] | rw [q1] | rw [e_i2l] | rw [e_cI] | rw [e_join] | rw [e_cP] | rw [e_gF] | rw [e_pF] | rw [e_cW] | rw [e_cV] | rw [e_in_t _ _ _ _ (by omega)] | rw [e_in_f _ _ _ _ (by omega)] | rw [b_pos (by omega)] | rw [b_neg (by omega)] | rw [e_add _ _ _ (by omega)] | rw [e_sub _ _ _ (by omega)] | rw [e_mul _ _ _ (by omega)] | rw [e_lsub _ _ _ (by omega)] | rw [e_rd _ _ _ _ _ (by omega)] | rw [b_pos True.intro] | rw [b_neg not_false] | simp only [Int.reduceToNat, Int.reduceSub, Int.reduceAdd, Int.reduceMul]))
    exact ⟨_, rfl, rfl⟩
  by_cases b2 : x1 = 2
  · (repeat (first | rw [q2] | rw [e_i2l] | rw [e_cI] | rw [e_join] | rw [e_cP] | rw [e_gF] | rw [e_pF] | rw [e_cW] | rw [e_cV] | rw [e_in_t _ _ _ _ (by omega)] | rw [e_in_f _ _ _ _ (by omega)] | rw [b_pos (by omega)] | rw [b_neg (by omega)] | rw [e_add _ _ _ (by omega)] | rw [e_sub _ _ _ (by omega)] | rw [e_mul _ _ _ (by omega)] | rw [e_lsub _ _ _ (by omega)] | rw [e_rd _ _ _ _ _ (by omega)] | rw [b_pos True.intro] | rw [b_neg not_false] | simp only [Int.reduceToNat, Int.reduceSub, Int.reduceAdd, Int.reduceMul]))
    exact ⟨_, rfl, rfl⟩
  by_cases b3 : x1 = 3
  · (repeat (first | rw [q3] | rw [e_i2l] | rw [e_cI] | rw [e_join] | rw [e_cP] | rw [e_gF] | rw [e_pF] | rw [e_cW] | rw [e_cV] | rw [e_in_t _ _ _ _ (by omega)] | rw [e_in_f _ _ _ _ (by omega)] | rw [b_pos (by omega)] | rw [b_neg (by omega)] | rw [e_add _ _ _ (by omega)] | rw [e_sub _ _ _ (by omega)] | rw [e_mul _ _ _ (by omega)] | rw [e_lsub _ _ _ (by omega)] | rw [e_rd _ _ _ _ _ (by omega)] | rw [b_pos True.intro] | rw [b_neg not_false] | simp only [Int.reduceToNat, Int.reduceSub, Int.reduceAdd, Int.reduceMul]))
    exact ⟨_, rfl, rfl⟩
  by_cases b4 : x1 = 4
  · (repeat (first | rw [q4] | rw [e_i2l] | rw [e_cI] | rw [e_join] | rw [e_cP] | rw [e_gF] | rw [e_pF] | rw [e_cW] | rw [e_cV] | rw [e_in_t _ _ _ _ (by omega)] | rw [e_in_f _ _ _ _ (by omega)] | rw [b_pos (by omega)] | rw [b_neg (by omega)] | rw [e_add _ _ _ (by omega)] | rw [e_sub _ _ _ (by omega)] | rw [e_mul _ _ _ (by omega)] | rw [e_lsub _ _ _ (by omega)] | rw [e_rd _ _ _ _ _ (by omega)] | rw [b_pos True.intro] | rw [b_neg not_false] | simp only [Int.reduceToNat, Int.reduceSub, Int.reduceAdd, Int.reduceMul]))
    exact ⟨_, rfl, rfl⟩
  (repeat (first | rw [e_i2l] | rw [e_cI] | rw [e_join] | rw [e_cP] | rw [e_gF] | rw [e_pF] | rw [e_cW] | rw [e_cV] | rw [e_in_t _ _ _ _ (by omega)] | rw [e_in_f _ _ _ _ (by omega)] | rw [b_pos (by omega)] | rw [b_neg (by omega)] | rw [e_add _ _ _ (by omega)] | rw [e_sub _ _ _ (by omega)] | rw [e_mul _ _ _ (by omega)] | rw [e_lsub _ _ _ (by omega)] | rw [e_rd _ _ _ _ _ (by omega)] | rw [b_pos True.intro] | rw [b_neg not_false] | simp only [Int.reduceToNat, Int.reduceSub, Int.reduceAdd, Int.reduceMul]))
  exact ⟨_, rfl, rfl⟩
theorem s_told {n : Nat} {h : Hp} {x1 : Int} (hx : inR x1) (r : Rel n h) : ∃ z, g_X8_told x1 h = some z ∧ g_X9_told x1 h = some z := by
  obtain ⟨hv, ⟨c, rb⟩, ⟨v, rs⟩, rp, rn, -, rt, -, ru⟩ := r
  unfold inR at hx
  have rbn := rb.2.2.1.1
  have rb5 := rb.2.2.1.2.2.1
  obtain ⟨⟨s0, s1, s2, s3⟩, s4, s5, s6, s7, s8⟩ := rs.2.2.1.num
  have s9 := rs.2.2.1.2.2.1
  have eb := fun (R : Type) (K : Nat → Option R) => e_gR h 0 1 c [3, 9] K rb.ref.1 rb.ref.2
  have es := fun (R : Type) (K : Nat → Option R) => e_gR h 0 3 v [15, 20] K rs.ref.1 rs.ref.2
  have q0 := rbn.1
  have q1 := rbn.2.1
  have q2 := rp.1
  have q3 := rn.2.1.1.2.2.2.1.1
  unfold g_X8_told g_X9_told
  by_cases b0 : 2 ≤ x1 ∧ x1 ≤ 10
  · (repeat (first | rw [eb] | rw [e_i2l] | rw [e_cI] | rw [e_join] | rw [e_cP] | rw [e_gF] | rw [e_pF] | rw [e_cW] | rw [e_cV] | rw [e_in_t _ _ _ _ (by omega)] | rw [e_in_f _ _ _ _ (by omega)] | rw [b_pos (by omega)] | rw [b_neg (by omega)] | rw [e_add _ _ _ (by omega)] | rw [e_sub _ _ _ (by omega)] | rw [e_mul _ _ _ (by omega)] | rw [e_lsub _ _ _ (by omega)] | rw [e_rd _ _ _ _ _ (by omega)] | rw [b_pos True.intro] | rw [b_neg not_false] | simp only [Int.reduceToNat, Int.reduceSub, Int.reduceAdd, Int.reduceMul]))
    have := rbn.2.2 (x1 - 2).toNat (by omega)
    rw [show 2 + (x1 - 2).toNat = x1.toNat by omega] at this
    rw [this]
    exact ⟨_, rfl, rfl⟩
  by_cases b1 : 13 ≤ x1 ∧ x1 ≤ 16
  · (repeat (first | rw [es] | rw [e_i2l] | rw [e_cI] | rw [e_join] | rw [e_cP] | rw [e_gF] | rw [e_pF] | rw [e_cW] | rw [e_cV] | rw [e_in_t _ _ _ _ (by omega)] | rw [e_in_f _ _ _ _ (by omega)] | rw [b_pos (by omega)] | rw [b_neg (by omega)] | rw [e_add _ _ _ (by omega)] | rw [e_sub _ _ _ (by omega)] | rw [e_mul _ _ _ (by omega)] | rw [e_lsub _ _ _ (by omega)] | rw [e_rd _ _ _ _ _ (by omega)] | rw [b_pos True.intro] | rw [b_neg not_false] | simp only [Int.reduceToNat, Int.reduceSub, Int.reduceAdd, Int.reduceMul]))
    have := rs.2.2.1.1 (x1 - 13).toNat (by omega)
    rw [this]
    exact ⟨_, rfl, rfl⟩
  by_cases c0 : x1 = 0
  · subst c0
    (repeat (first | rw [eb] | rw [q0] | rw [e_i2l] | rw [e_cI] | rw [e_join] | rw [e_cP] | rw [e_gF] | rw [e_pF] | rw [e_cW] | rw [e_cV] | rw [e_in_t _ _ _ _ (by omega)] | rw [e_in_f _ _ _ _ (by omega)] | rw [b_pos (by omega)] | rw [b_neg (by omega)] | rw [e_add _ _ _ (by omega)] | rw [e_sub _ _ _ (by omega)] | rw [e_mul _ _ _ (by omega)] | rw [e_lsub _ _ _ (by omega)] | rw [e_rd _ _ _ _ _ (by omega)] | rw [b_pos True.intro] | rw [b_neg not_false] | simp only [Int.reduceToNat, Int.reduceSub, Int.reduceAdd, Int.reduceMul]))
    exact ⟨_, rfl, rfl⟩
  by_cases c1 : x1 = 1
  · subst c1
    (repeat (first | rw [eb] | rw [q1] | rw [e_i2l] | rw [e_cI] | rw [e_join] | rw [e_cP] | rw [e_gF] | rw [e_pF] | rw [e_cW] | rw [e_cV] | rw [e_in_t _ _ _ _ (by omega)] | rw [e_in_f _ _ _ _ (by omega)] | rw [b_pos (by omega)] | rw [b_neg (by omega)] | rw [e_add _ _ _ (by omega)] | rw [e_sub _ _ _ (by omega)] | rw [e_mul _ _ _ (by omega)] | rw [e_lsub _ _ _ (by omega)] | rw [e_rd _ _ _ _ _ (by omega)] | rw [b_pos True.intro] | rw [b_neg not_false] | simp only [Int.reduceToNat, Int.reduceSub, Int.reduceAdd, Int.reduceMul]))
    exact ⟨_, rfl, rfl⟩
  by_cases c11 : x1 = 11
  · subst c11
    (repeat (first | rw [eb] | rw [rb5] | rw [e_i2l] | rw [e_cI] | rw [e_join] | rw [e_cP] | rw [e_gF] | rw [e_pF] | rw [e_cW] | rw [e_cV] | rw [e_in_t _ _ _ _ (by omega)] | rw [e_in_f _ _ _ _ (by omega)] | rw [b_pos (by omega)] | rw [b_neg (by omega)] | rw [e_add _ _ _ (by omega)] | rw [e_sub _ _ _ (by omega)] | rw [e_mul _ _ _ (by omega)] | rw [e_lsub _ _ _ (by omega)] | rw [e_rd _ _ _ _ _ (by omega)] | rw [b_pos True.intro] | rw [b_neg not_false] | simp only [Int.reduceToNat, Int.reduceSub, Int.reduceAdd, Int.reduceMul]))
    exact ⟨_, rfl, rfl⟩
  by_cases c12 : x1 = 12
  · subst c12
    (repeat (first | rw [es] | rw [s9] | rw [e_i2l] | rw [e_cI] | rw [e_join] | rw [e_cP] | rw [e_gF] | rw [e_pF] | rw [e_cW] | rw [e_cV] | rw [e_in_t _ _ _ _ (by omega)] | rw [e_in_f _ _ _ _ (by omega)] | rw [b_pos (by omega)] | rw [b_neg (by omega)] | rw [e_add _ _ _ (by omega)] | rw [e_sub _ _ _ (by omega)] | rw [e_mul _ _ _ (by omega)] | rw [e_lsub _ _ _ (by omega)] | rw [e_rd _ _ _ _ _ (by omega)] | rw [b_pos True.intro] | rw [b_neg not_false] | simp only [Int.reduceToNat, Int.reduceSub, Int.reduceAdd, Int.reduceMul]))
    exact ⟨_, rfl, rfl⟩
  by_cases c17 : x1 = 17
  · subst c17
    (repeat (first | rw [es] | rw [s4] | rw [e_i2l] | rw [e_cI] | rw [e_join] | rw [e_cP] | rw [e_gF] | rw [e_pF] | rw [e_cW] | rw [e_cV] | rw [e_in_t _ _ _ _ (by omega)] | rw [e_in_f _ _ _ _ (by omega)] | rw [b_pos (by omega)] | rw [b_neg (by omega)] | rw [e_add _ _ _ (by omega)] | rw [e_sub _ _ _ (by omega)] | rw [e_mul _ _ _ (by omega)] | rw [e_lsub _ _ _ (by omega)] | rw [e_rd _ _ _ _ _ (by omega)] | rw [b_pos True.intro] | rw [b_neg not_false] | simp only [Int.reduceToNat, Int.reduceSub, Int.reduceAdd, Int.reduceMul]))
    exact ⟨_, rfl, rfl⟩
  by_cases c18 : x1 = 18
  · subst c18
    (repeat (first | rw [es] | rw [s5] | rw [e_i2l] | rw [e_cI] | rw [e_join] | rw [e_cP] | rw [e_gF] | rw [e_pF] | rw [e_cW] | rw [e_cV] | rw [e_in_t _ _ _ _ (by omega)] | rw [e_in_f _ _ _ _ (by omega)] | rw [b_pos (by omega)] | rw [b_neg (by omega)] | rw [e_add _ _ _ (by omega)] | rw [e_sub _ _ _ (by omega)] | rw [e_mul _ _ _ (by omega)] | rw [e_lsub _ _ _ (by omega)] | rw [e_rd _ _ _ _ _ (by omega)] | rw [b_pos True.intro] | rw [b_neg not_false] | simp only [Int.reduceToNat, Int.reduceSub, Int.reduceAdd, Int.reduceMul]))
    exact ⟨_, rfl, rfl⟩
  by_cases c19 : x1 = 19
  · subst c19
    (repeat (first | rw [es] | rw [s6] | rw [e_i2l] | rw [e_cI] | rw [e_join] | rw [e_cP] | rw [e_gF] | rw [e_pF] | rw [e_cW] | rw [e_cV] | rw [e_in_t _ _ _ _ (by omega)] | rw [e_in_f _ _ _ _ (by omega)] | rw [b_pos (by omega)] | rw [b_neg (by omega)] | rw [e_add _ _ _ (by omega)] | rw [e_sub _ _ _ (by omega)] | rw [e_mul _ _ _ (by omega)] | rw [e_lsub _ _ _ (by omega)] | rw [e_rd _ _ _ _ _ (by omega)] | rw [b_pos True.intro] | rw [b_neg not_false] | simp only [Int.reduceToNat, Int.reduceSub, Int.reduceAdd, Int.reduceMul]))
    exact ⟨_, rfl, rfl⟩
  by_cases c20 : x1 = 20
  · subst c20
    (repeat (first | rw [es] | rw [s7] | rw [e_i2l] | rw [e_cI] | rw [e_join] | rw [e_cP] | rw [e_gF] | rw [e_pF] | rw [e_cW] | rw [e_cV] | rw [e_in_t _ _ _ _ (by omega)] | rw [e_in_f _ _ _ _ (by omega)] | rw [b_pos (by omega)] | rw [b_neg (by omega)] | rw [e_add _ _ _ (by omega)] | rw [e_sub _ _ _ (by omega)] | rw [e_mul _ _ _ (by omega)] | rw [e_lsub _ _ _ (by omega)] | rw [e_rd _ _ _ _ _ (by omega)] | rw [b_pos True.intro] | rw [b_neg not_false] | simp only [Int.reduceToNat, Int.reduceSub, Int.reduceAdd, Int.reduceMul]))
    exact ⟨_, rfl, rfl⟩
  by_cases c21 : x1 = 21
  · subst c21
    (repeat (first | rw [es] | rw [s8] | rw [e_i2l] | rw [e_cI] | rw [e_join] | rw [e_cP] | rw [e_gF] | rw [e_pF] | rw [e_cW] | rw [e_cV] | rw [e_in_t _ _ _ _ (by omega)] | rw [e_in_f _ _ _ _ (by omega)] | rw [b_pos (by omega)] | rw [b_neg (by omega)] | rw [e_add _ _ _ (by omega)] | rw [e_sub _ _ _ (by omega)] | rw [e_mul _ _ _ (by omega)] | rw [e_lsub _ _ _ (by omega)] | rw [e_rd _ _ _ _ _ (by omega)] | rw [b_pos True.intro] | rw [b_neg not_false] | simp only [Int.reduceToNat, Int.reduceSub, Int.reduceAdd, Int.reduceMul]))
    exact ⟨_, rfl, rfl⟩
  by_cases c22 : x1 = 22
  · subst c22
    (repeat (first | rw [q2] | rw [e_i2l] | rw [e_cI] | rw [e_join] | rw [e_cP] | rw [e_gF] | rw [e_pF] | rw [e_cW] | rw [e_cV] | rw [e_in_t _ _ _ _ (by omega)] | rw [e_in_f _ _ _ _ (by omega)] | rw [b_pos (by omega)] | rw [b_neg (by omega)] | rw [e_add _ _ _ (by omega)] | rw [e_sub _ _ _ (by omega)] | rw [e_mul _ _ _ (by omega)] | rw [e_lsub _ _ _ (by omega)] | rw [e_rd _ _ _ _ _ (by omega)] | rw [b_pos True.intro] | rw [b_neg not_false] | simp only [Int.reduceToNat, Int.reduceSub, Int.reduceAdd, Int.reduceMul]))
    exact ⟨_, rfl, rfl⟩
  by_cases c23 : x1 = 23
  · subst c23
    (repeat (first | rw [q3] | rw [e_i2l] | rw [e_cI] | rw [e_join] | rw [e_cP] | rw [e_gF] | rw [e_pF] | rw [e_cW] | rw [e_cV] | rw [e_in_t _ _ _ _ (by omega)] | rw [e_in_f _ _ _ _ (by omega)] | rw [b_pos (by omega)] | rw [b_neg (by omega)] | rw [e_add _ _ _ (by omega)] | rw [e_sub _ _ _ (by omega)] | rw [e_mul _ _ _ (by omega)] | rw [e_lsub _ _ _ (by omega)] | rw [e_rd _ _ _ _ _ (by omega)] | rw [b_pos True.intro] | rw [b_neg not_false] | simp only [Int.reduceToNat, Int.reduceSub, Int.reduceAdd, Int.reduceMul]))
    exact ⟨_, rfl, rfl⟩
  have cc : x1 < 0 ∨ 23 < x1 := by omega
  by_cases cn : x1 < 0
  · have e1 : ∀ K : Int → Option Int, subI x1 13 K = K (wr (x1 - 13)) := fun _ => rfl
    have e2 : wr (x1 - 13) < 0 ∨ 9 ≤ wr (x1 - 13) := by unfold wr; omega
    rcases e2 with e2 | e2
    · (repeat (first | rw [e1] | rw [e_i2l] | rw [e_cI] | rw [e_join] | rw [e_cP] | rw [e_gF] | rw [e_pF] | rw [e_cW] | rw [e_cV] | rw [e_in_t _ _ _ _ (by omega)] | rw [e_in_f _ _ _ _ (by omega)] | rw [b_pos (by omega)] | rw [b_neg (by omega)] | rw [e_add _ _ _ (by omega)] | rw [e_sub _ _ _ (by omega)] | rw [e_mul _ _ _ (by omega)] | rw [e_lsub _ _ _ (by omega)] | rw [e_rd _ _ _ _ _ (by omega)] | rw [b_pos True.intro] | rw [b_neg not_false] | simp only [Int.reduceToNat, Int.reduceSub, Int.reduceAdd, Int.reduceMul]))
      exact ⟨_, rfl, rfl⟩
    · (repeat (first | rw [e1] | rw [e_i2l] | rw [e_cI] | rw [e_join] | rw [e_cP] | rw [e_gF] | rw [e_pF] | rw [e_cW] | rw [e_cV] | rw [e_in_t _ _ _ _ (by omega)] | rw [e_in_f _ _ _ _ (by omega)] | rw [b_pos (by omega)] | rw [b_neg (by omega)] | rw [e_add _ _ _ (by omega)] | rw [e_sub _ _ _ (by omega)] | rw [e_mul _ _ _ (by omega)] | rw [e_lsub _ _ _ (by omega)] | rw [e_rd _ _ _ _ _ (by omega)] | rw [b_pos True.intro] | rw [b_neg not_false] | simp only [Int.reduceToNat, Int.reduceSub, Int.reduceAdd, Int.reduceMul]))
      exact ⟨_, rfl, rfl⟩
  · (repeat (first | rw [e_i2l] | rw [e_cI] | rw [e_join] | rw [e_cP] | rw [e_gF] | rw [e_pF] | rw [e_cW] | rw [e_cV] | rw [e_in_t _ _ _ _ (by omega)] | rw [e_in_f _ _ _ _ (by omega)] | rw [b_pos (by omega)] | rw [b_neg (by omega)] | rw [e_add _ _ _ (by omega)] | rw [e_sub _ _ _ (by omega)] | rw [e_mul _ _ _ (by omega)] | rw [e_lsub _ _ _ (by omega)] | rw [e_rd _ _ _ _ _ (by omega)] | rw [b_pos True.intro] | rw [b_neg not_false] | simp only [Int.reduceToNat, Int.reduceSub, Int.reduceAdd, Int.reduceMul]))
    exact ⟨_, rfl, rfl⟩
theorem s_wave {n : Nat} {h : Hp} {x1 x2 : Int} (hx : inR x1) (hx2 : inR x2) (r : Rel n h) : ∃ z, g_X8_wave x1 x2 h = some z ∧ g_X9_wave x1 x2 h = some z := by
  obtain ⟨hv, ⟨c, rb⟩, ⟨v, rs⟩, rp, rn, -, rt, -, ru⟩ := r
  unfold inR at hx hx2
  have s9 := rs.2.2.1.2.2.1
  have sw := rs.2.2.1.2.2.2.1
  have hw := (pv_sea hv).1
  have es := fun (R : Type) (K : Nat → Option R) => e_gR h 0 3 v [15, 20] K rs.ref.1 rs.ref.2
  unfold g_X8_wave g_X9_wave
  by_cases b0 : 0 ≤ x1 ∧ x1 < h 100 28
  rotate_left
  · by_cases b1 : x1 < 0
    · (repeat (first | rw [e_i2l] | rw [e_cI] | rw [e_join] | rw [e_cP] | rw [e_gF] | rw [e_pF] | rw [e_cW] | rw [e_cV] | rw [e_in_t _ _ _ _ (by omega)] | rw [e_in_f _ _ _ _ (by omega)] | rw [b_pos (by omega)] | rw [b_neg (by omega)] | rw [e_add _ _ _ (by omega)] | rw [e_sub _ _ _ (by omega)] | rw [e_mul _ _ _ (by omega)] | rw [e_lsub _ _ _ (by omega)] | rw [e_rd _ _ _ _ _ (by omega)] | rw [b_pos True.intro] | rw [b_neg not_false] | simp only [Int.reduceToNat, Int.reduceSub, Int.reduceAdd, Int.reduceMul]))
      exact ⟨_, rfl, rfl⟩
    · (repeat (first | rw [es] | rw [s9] | rw [e_i2l] | rw [e_cI] | rw [e_join] | rw [e_cP] | rw [e_gF] | rw [e_pF] | rw [e_cW] | rw [e_cV] | rw [e_in_t _ _ _ _ (by omega)] | rw [e_in_f _ _ _ _ (by omega)] | rw [b_pos (by omega)] | rw [b_neg (by omega)] | rw [e_add _ _ _ (by omega)] | rw [e_sub _ _ _ (by omega)] | rw [e_mul _ _ _ (by omega)] | rw [e_lsub _ _ _ (by omega)] | rw [e_rd _ _ _ _ _ (by omega)] | rw [b_pos True.intro] | rw [b_neg not_false] | simp only [Int.reduceToNat, Int.reduceSub, Int.reduceAdd, Int.reduceMul]))
      exact ⟨_, rfl, rfl⟩
  obtain ⟨k, rfl⟩ := Int.eq_ofNat_of_zero_le b0.1
  have hk := sw k (by omega)
  by_cases b1 : x2 < 0 ∨ 2 < x2
  · (repeat (first | rw [es] | rw [s9] | rw [e_i2l] | rw [e_cI] | rw [e_join] | rw [e_cP] | rw [e_gF] | rw [e_pF] | rw [e_cW] | rw [e_cV] | rw [e_in_t _ _ _ _ (by omega)] | rw [e_in_f _ _ _ _ (by omega)] | rw [b_pos (by omega)] | rw [b_neg (by omega)] | rw [e_add _ _ _ (by omega)] | rw [e_sub _ _ _ (by omega)] | rw [e_mul _ _ _ (by omega)] | rw [e_lsub _ _ _ (by omega)] | rw [e_rd _ _ _ _ _ (by omega)] | rw [b_pos True.intro] | rw [b_neg not_false] | simp only [Int.reduceToNat, Int.reduceSub, Int.reduceAdd, Int.reduceMul]))
    exact ⟨_, rfl, rfl⟩
  rcases (by omega : x2 = 0 ∨ x2 = 1 ∨ x2 = 2) with rfl | rfl | rfl
  · (repeat (first | rw [es] | rw [s9] | rw [e_rdn _ _ _ _ _ (by omega)] | rw [e_i2l] | rw [e_cI] | rw [e_join] | rw [e_cP] | rw [e_gF] | rw [e_pF] | rw [e_cW] | rw [e_cV] | rw [e_in_t _ _ _ _ (by omega)] | rw [e_in_f _ _ _ _ (by omega)] | rw [b_pos (by omega)] | rw [b_neg (by omega)] | rw [e_add _ _ _ (by omega)] | rw [e_sub _ _ _ (by omega)] | rw [e_mul _ _ _ (by omega)] | rw [e_lsub _ _ _ (by omega)] | rw [e_rd _ _ _ _ _ (by omega)] | rw [b_pos True.intro] | rw [b_neg not_false] | simp only [Int.reduceToNat, Int.reduceSub, Int.reduceAdd, Int.reduceMul]))
    rw [show (3 * (k : Int) + 0).toNat = 3 * k by omega, hk.1]
    exact ⟨_, rfl, rfl⟩
  · (repeat (first | rw [es] | rw [s9] | rw [e_rdn _ _ _ _ _ (by omega)] | rw [e_i2l] | rw [e_cI] | rw [e_join] | rw [e_cP] | rw [e_gF] | rw [e_pF] | rw [e_cW] | rw [e_cV] | rw [e_in_t _ _ _ _ (by omega)] | rw [e_in_f _ _ _ _ (by omega)] | rw [b_pos (by omega)] | rw [b_neg (by omega)] | rw [e_add _ _ _ (by omega)] | rw [e_sub _ _ _ (by omega)] | rw [e_mul _ _ _ (by omega)] | rw [e_lsub _ _ _ (by omega)] | rw [e_rd _ _ _ _ _ (by omega)] | rw [b_pos True.intro] | rw [b_neg not_false] | simp only [Int.reduceToNat, Int.reduceSub, Int.reduceAdd, Int.reduceMul]))
    rw [show (3 * (k : Int) + 1).toNat = 3 * k + 1 by omega, hk.2.1]
    exact ⟨_, rfl, rfl⟩
  · (repeat (first | rw [es] | rw [s9] | rw [e_rdn _ _ _ _ _ (by omega)] | rw [e_i2l] | rw [e_cI] | rw [e_join] | rw [e_cP] | rw [e_gF] | rw [e_pF] | rw [e_cW] | rw [e_cV] | rw [e_in_t _ _ _ _ (by omega)] | rw [e_in_f _ _ _ _ (by omega)] | rw [b_pos (by omega)] | rw [b_neg (by omega)] | rw [e_add _ _ _ (by omega)] | rw [e_sub _ _ _ (by omega)] | rw [e_mul _ _ _ (by omega)] | rw [e_lsub _ _ _ (by omega)] | rw [e_rd _ _ _ _ _ (by omega)] | rw [b_pos True.intro] | rw [b_neg not_false] | simp only [Int.reduceToNat, Int.reduceSub, Int.reduceAdd, Int.reduceMul]))
    rw [show (3 * (k : Int) + 2).toNat = 3 * k + 2 by omega, hk.2.2]
    exact ⟨_, rfl, rfl⟩
theorem e_retZ_in {R : Type} {z : Int} {K : Int → Option R} (h : z = 0 ∨ z = 1) : cP (retZ z) K = K z := by unfold retZ; rw [if_pos h, e_cP]
theorem m_isPlan {h : Hp} {x : Int} (hv : PV h) : g_X9_isPlan x h = some (if x < 0 then 0 else if h 100 41 - 1 < x then 0 else 1) := by
  have hw := (pv_plan hv).1
  unfold g_X9_isPlan
  rw [e_i2l, e_cI, e_gF, e_i2l, e_cI, e_lsub _ _ _ (by omega), m_in, e_cP]
  by_cases b : x < 0
  · rw [if_pos b]; exact e_retZ0
  · rw [if_neg b]
    by_cases b1 : h 100 41 - 1 < x
    · rw [if_pos b1]; exact e_retZ0
    · rw [if_neg b1]; exact e_retZ1
theorem m_isFlag {h : Hp} {x : Int} (hv : PV h) : g_X9_isFlag x h = some (if x < 0 then 0 else if h 100 12 - 1 < x then 0 else 1) := by
  have hw := (pv_flags hv).1
  unfold g_X9_isFlag
  rw [e_i2l, e_cI, e_gF, e_i2l, e_cI, e_lsub _ _ _ (by omega), m_in, e_cP]
  by_cases b : x < 0
  · rw [if_pos b]; exact e_retZ0
  · rw [if_neg b]
    by_cases b1 : h 100 12 - 1 < x
    · rw [if_pos b1]; exact e_retZ0
    · rw [if_neg b1]; exact e_retZ1
theorem k_isFlag {h : Hp} {c : Nat} {x : Int} (rb : BchR h c) : g_X8_isFlag x h = some (if x < 0 then 0 else if h 100 12 - 1 < x then 0 else 1) := by
  have eb := fun (R : Type) (K : Nat → Option R) => e_gR h 0 1 c [3, 9] K rb.ref.1 rb.ref.2
  have rb5 := rb.2.2.1.2.2.1
  unfold g_X8_isFlag
  by_cases b : x < 0
  · (repeat (first | rw [e_i2l] | rw [e_cI] | rw [e_join] | rw [e_cP] | rw [e_gF] | rw [e_pF] | rw [e_cW] | rw [e_cV] | rw [e_in_t _ _ _ _ (by omega)] | rw [e_in_f _ _ _ _ (by omega)] | rw [b_pos (by omega)] | rw [b_neg (by omega)] | rw [e_add _ _ _ (by omega)] | rw [e_sub _ _ _ (by omega)] | rw [e_mul _ _ _ (by omega)] | rw [e_lsub _ _ _ (by omega)] | rw [e_rd _ _ _ _ _ (by omega)] | rw [b_pos True.intro] | rw [b_neg not_false] | simp only [Int.reduceToNat, Int.reduceSub, Int.reduceAdd, Int.reduceMul]))
    exact e_retZ0
  · by_cases b1 : h 100 12 - 1 < x
    · (repeat (first | rw [eb] | rw [rb5] | rw [e_i2l] | rw [e_cI] | rw [e_join] | rw [e_cP] | rw [e_gF] | rw [e_pF] | rw [e_cW] | rw [e_cV] | rw [e_in_t _ _ _ _ (by omega)] | rw [e_in_f _ _ _ _ (by omega)] | rw [b_pos (by omega)] | rw [b_neg (by omega)] | rw [e_add _ _ _ (by omega)] | rw [e_sub _ _ _ (by omega)] | rw [e_mul _ _ _ (by omega)] | rw [e_lsub _ _ _ (by omega)] | rw [e_rd _ _ _ _ _ (by omega)] | rw [b_pos True.intro] | rw [b_neg not_false] | simp only [Int.reduceToNat, Int.reduceSub, Int.reduceAdd, Int.reduceMul]))
      exact e_retZ0
    · (repeat (first | rw [eb] | rw [rb5] | rw [e_i2l] | rw [e_cI] | rw [e_join] | rw [e_cP] | rw [e_gF] | rw [e_pF] | rw [e_cW] | rw [e_cV] | rw [e_in_t _ _ _ _ (by omega)] | rw [e_in_f _ _ _ _ (by omega)] | rw [b_pos (by omega)] | rw [b_neg (by omega)] | rw [e_add _ _ _ (by omega)] | rw [e_sub _ _ _ (by omega)] | rw [e_mul _ _ _ (by omega)] | rw [e_lsub _ _ _ (by omega)] | rw [e_rd _ _ _ _ _ (by omega)] | rw [b_pos True.intro] | rw [b_neg not_false] | simp only [Int.reduceToNat, Int.reduceSub, Int.reduceAdd, Int.reduceMul]))
      exact e_retZ1
theorem k_isPlanOrNone {h : Hp} {x : Int} (rp : PlsR h) : g_X8_isPlanOrNone x h = some (if x < -1 then 0 else if h 100 41 - 1 < x then 0 else 1) := by
  have r1 := rp.1
  unfold g_X8_isPlanOrNone
  by_cases b : x < -1
  · (repeat (first | rw [e_i2l] | rw [e_cI] | rw [e_join] | rw [e_cP] | rw [e_gF] | rw [e_pF] | rw [e_cW] | rw [e_cV] | rw [e_in_t _ _ _ _ (by omega)] | rw [e_in_f _ _ _ _ (by omega)] | rw [b_pos (by omega)] | rw [b_neg (by omega)] | rw [e_add _ _ _ (by omega)] | rw [e_sub _ _ _ (by omega)] | rw [e_mul _ _ _ (by omega)] | rw [e_lsub _ _ _ (by omega)] | rw [e_rd _ _ _ _ _ (by omega)] | rw [b_pos True.intro] | rw [b_neg not_false] | simp only [Int.reduceToNat, Int.reduceSub, Int.reduceAdd, Int.reduceMul]))
    exact e_retZ0
  · by_cases b1 : h 100 41 - 1 < x
    · (repeat (first | rw [r1] | rw [e_i2l] | rw [e_cI] | rw [e_join] | rw [e_cP] | rw [e_gF] | rw [e_pF] | rw [e_cW] | rw [e_cV] | rw [e_in_t _ _ _ _ (by omega)] | rw [e_in_f _ _ _ _ (by omega)] | rw [b_pos (by omega)] | rw [b_neg (by omega)] | rw [e_add _ _ _ (by omega)] | rw [e_sub _ _ _ (by omega)] | rw [e_mul _ _ _ (by omega)] | rw [e_lsub _ _ _ (by omega)] | rw [e_rd _ _ _ _ _ (by omega)] | rw [b_pos True.intro] | rw [b_neg not_false] | simp only [Int.reduceToNat, Int.reduceSub, Int.reduceAdd, Int.reduceMul]))
      exact e_retZ0
    · (repeat (first | rw [r1] | rw [e_i2l] | rw [e_cI] | rw [e_join] | rw [e_cP] | rw [e_gF] | rw [e_pF] | rw [e_cW] | rw [e_cV] | rw [e_in_t _ _ _ _ (by omega)] | rw [e_in_f _ _ _ _ (by omega)] | rw [b_pos (by omega)] | rw [b_neg (by omega)] | rw [e_add _ _ _ (by omega)] | rw [e_sub _ _ _ (by omega)] | rw [e_mul _ _ _ (by omega)] | rw [e_lsub _ _ _ (by omega)] | rw [e_rd _ _ _ _ _ (by omega)] | rw [b_pos True.intro] | rw [b_neg not_false] | simp only [Int.reduceToNat, Int.reduceSub, Int.reduceAdd, Int.reduceMul]))
      exact e_retZ1
theorem s_act {n : Nat} {h : Hp} {x1 x2 x3 x4 : Int} (hx : inR x1) (hx2 : inR x2) (hx3 : inR x3) (hx4 : inR x4) (r : Rel n h) : ∃ z, g_X8_act x1 x2 x3 x4 h = some z ∧ g_X9_act x1 x2 x3 x4 h = some z := by
  obtain ⟨hv, ⟨c, rb⟩, ⟨v, rs⟩, rp, rn, -, rt, -, ru⟩ := r
  unfold inR at hx hx2 hx3 hx4
  have hpl := pv_plan hv
  have r1 := rp.1
  unfold g_X8_act g_X9_act
  rw [m_isPlan hv, e_cP]
  by_cases b0 : 0 ≤ x1 ∧ x1 < h 100 41
  rotate_left
  · by_cases b1 : x1 < 0
    · rw [if_pos b1]
      (repeat (first | rw [e_i2l] | rw [e_cI] | rw [e_join] | rw [e_cP] | rw [e_gF] | rw [e_pF] | rw [e_cW] | rw [e_cV] | rw [e_in_t _ _ _ _ (by omega)] | rw [e_in_f _ _ _ _ (by omega)] | rw [b_pos (by omega)] | rw [b_neg (by omega)] | rw [e_add _ _ _ (by omega)] | rw [e_sub _ _ _ (by omega)] | rw [e_mul _ _ _ (by omega)] | rw [e_lsub _ _ _ (by omega)] | rw [e_rd _ _ _ _ _ (by omega)] | rw [b_pos True.intro] | rw [b_neg not_false] | simp only [Int.reduceToNat, Int.reduceSub, Int.reduceAdd, Int.reduceMul]))
      exact ⟨_, rfl, rfl⟩
    · rw [if_neg b1, if_pos (show h 100 41 - 1 < x1 by omega)]
      (repeat (first | rw [r1] | rw [e_i2l] | rw [e_cI] | rw [e_join] | rw [e_cP] | rw [e_gF] | rw [e_pF] | rw [e_cW] | rw [e_cV] | rw [e_in_t _ _ _ _ (by omega)] | rw [e_in_f _ _ _ _ (by omega)] | rw [b_pos (by omega)] | rw [b_neg (by omega)] | rw [e_add _ _ _ (by omega)] | rw [e_sub _ _ _ (by omega)] | rw [e_mul _ _ _ (by omega)] | rw [e_lsub _ _ _ (by omega)] | rw [e_rd _ _ _ _ _ (by omega)] | rw [b_pos True.intro] | rw [b_neg not_false] | simp only [Int.reduceToNat, Int.reduceSub, Int.reduceAdd, Int.reduceMul]))
      exact ⟨_, rfl, rfl⟩
  rw [if_neg (show ¬ x1 < 0 by omega), if_neg (show ¬ h 100 41 - 1 < x1 by omega)]
  obtain ⟨p, rfl⟩ := Int.eq_ofNat_of_zero_le b0.1
  have hpp := hpl.2 p (by omega)
  obtain ⟨q1, q2⟩ := rp.2 p (by omega)
  by_cases b1 : x2 = -1
  · (repeat (first | rw [r1] | rw [e_rdQ _ _ _ _ _ (by omega)] | rw [e_rdn _ _ _ _ _ (by omega)] | rw [q1] | rw [e_i2l] | rw [e_cI] | rw [e_join] | rw [e_cP] | rw [e_gF] | rw [e_pF] | rw [e_cW] | rw [e_cV] | rw [e_in_t _ _ _ _ (by omega)] | rw [e_in_f _ _ _ _ (by omega)] | rw [b_pos (by omega)] | rw [b_neg (by omega)] | rw [e_add _ _ _ (by omega)] | rw [e_sub _ _ _ (by omega)] | rw [e_mul _ _ _ (by omega)] | rw [e_lsub _ _ _ (by omega)] | rw [e_rd _ _ _ _ _ (by omega)] | rw [b_pos True.intro] | rw [b_neg not_false] | simp only [Int.reduceToNat, Int.reduceSub, Int.reduceAdd, Int.reduceMul]))
    exact ⟨_, rfl, rfl⟩
  by_cases b2 : 0 ≤ x2 ∧ x2 < h 118 p
  rotate_left
  · by_cases b3 : x2 < 0
    · (repeat (first | rw [r1] | rw [e_rdQ _ _ _ _ _ (by omega)] | rw [e_rdn _ _ _ _ _ (by omega)] | rw [q1] | rw [e_i2l] | rw [e_cI] | rw [e_join] | rw [e_cP] | rw [e_gF] | rw [e_pF] | rw [e_cW] | rw [e_cV] | rw [e_in_t _ _ _ _ (by omega)] | rw [e_in_f _ _ _ _ (by omega)] | rw [b_pos (by omega)] | rw [b_neg (by omega)] | rw [e_add _ _ _ (by omega)] | rw [e_sub _ _ _ (by omega)] | rw [e_mul _ _ _ (by omega)] | rw [e_lsub _ _ _ (by omega)] | rw [e_rd _ _ _ _ _ (by omega)] | rw [b_pos True.intro] | rw [b_neg not_false] | simp only [Int.reduceToNat, Int.reduceSub, Int.reduceAdd, Int.reduceMul]))
      exact ⟨_, rfl, rfl⟩
    · (repeat (first | rw [r1] | rw [e_rdQ _ _ _ _ _ (by omega)] | rw [e_rdn _ _ _ _ _ (by omega)] | rw [q1] | rw [e_i2l] | rw [e_cI] | rw [e_join] | rw [e_cP] | rw [e_gF] | rw [e_pF] | rw [e_cW] | rw [e_cV] | rw [e_in_t _ _ _ _ (by omega)] | rw [e_in_f _ _ _ _ (by omega)] | rw [b_pos (by omega)] | rw [b_neg (by omega)] | rw [e_add _ _ _ (by omega)] | rw [e_sub _ _ _ (by omega)] | rw [e_mul _ _ _ (by omega)] | rw [e_lsub _ _ _ (by omega)] | rw [e_rd _ _ _ _ _ (by omega)] | rw [b_pos True.intro] | rw [b_neg not_false] | simp only [Int.reduceToNat, Int.reduceSub, Int.reduceAdd, Int.reduceMul]))
      exact ⟨_, rfl, rfl⟩
  obtain ⟨i, rfl⟩ := Int.eq_ofNat_of_zero_le b2.1
  have hi := hpp.2 i (by omega)
  obtain ⟨w1, w2⟩ := q2 i (by omega)
  have e1 : (4 * (p : Int) + (i : Int)) = ((4 * p + i : Nat) : Int) := by omega
  by_cases b3 : x3 = -1
  · (repeat (first | rw [r1] | rw [e_rdQ _ _ _ _ _ (by omega)] | rw [e_rdn _ _ _ _ _ (by omega)] | rw [q1] | rw [w1] | rw [e1] | rw [e_i2l] | rw [e_cI] | rw [e_join] | rw [e_cP] | rw [e_gF] | rw [e_pF] | rw [e_cW] | rw [e_cV] | rw [e_in_t _ _ _ _ (by omega)] | rw [e_in_f _ _ _ _ (by omega)] | rw [b_pos (by omega)] | rw [b_neg (by omega)] | rw [e_add _ _ _ (by omega)] | rw [e_sub _ _ _ (by omega)] | rw [e_mul _ _ _ (by omega)] | rw [e_lsub _ _ _ (by omega)] | rw [e_rd _ _ _ _ _ (by omega)] | rw [b_pos True.intro] | rw [b_neg not_false] | simp only [Int.reduceToNat, Int.reduceSub, Int.reduceAdd, Int.reduceMul]))
    exact ⟨_, rfl, rfl⟩
  by_cases b4 : 0 ≤ x3 ∧ x3 < h 119 (4 * p + i)
  rotate_left
  · by_cases b5 : x3 < 0
    · (repeat (first | rw [r1] | rw [e_rdQ _ _ _ _ _ (by omega)] | rw [e_rdn _ _ _ _ _ (by omega)] | rw [q1] | rw [w1] | rw [e1] | rw [e_i2l] | rw [e_cI] | rw [e_join] | rw [e_cP] | rw [e_gF] | rw [e_pF] | rw [e_cW] | rw [e_cV] | rw [e_in_t _ _ _ _ (by omega)] | rw [e_in_f _ _ _ _ (by omega)] | rw [b_pos (by omega)] | rw [b_neg (by omega)] | rw [e_add _ _ _ (by omega)] | rw [e_sub _ _ _ (by omega)] | rw [e_mul _ _ _ (by omega)] | rw [e_lsub _ _ _ (by omega)] | rw [e_rd _ _ _ _ _ (by omega)] | rw [b_pos True.intro] | rw [b_neg not_false] | simp only [Int.reduceToNat, Int.reduceSub, Int.reduceAdd, Int.reduceMul]))
      exact ⟨_, rfl, rfl⟩
    · (repeat (first | rw [r1] | rw [e_rdQ _ _ _ _ _ (by omega)] | rw [e_rdn _ _ _ _ _ (by omega)] | rw [q1] | rw [w1] | rw [e1] | rw [e_i2l] | rw [e_cI] | rw [e_join] | rw [e_cP] | rw [e_gF] | rw [e_pF] | rw [e_cW] | rw [e_cV] | rw [e_in_t _ _ _ _ (by omega)] | rw [e_in_f _ _ _ _ (by omega)] | rw [b_pos (by omega)] | rw [b_neg (by omega)] | rw [e_add _ _ _ (by omega)] | rw [e_sub _ _ _ (by omega)] | rw [e_mul _ _ _ (by omega)] | rw [e_lsub _ _ _ (by omega)] | rw [e_rd _ _ _ _ _ (by omega)] | rw [b_pos True.intro] | rw [b_neg not_false] | simp only [Int.reduceToNat, Int.reduceSub, Int.reduceAdd, Int.reduceMul]))
      exact ⟨_, rfl, rfl⟩
  obtain ⟨k, rfl⟩ := Int.eq_ofNat_of_zero_le b4.1
  obtain ⟨a0, a1, a2⟩ := w2 k (by omega)
  have e2 : (8 * ((4 * p + i : Nat) : Int) + (k : Int)) = ((8 * (4 * p + i) + k : Nat) : Int) := by omega
  have e3 : ((i : Int) * 8 + (k : Int)) = ((8 * i + k : Nat) : Int) := by omega
  have hi4 : i < 4 := by omega
  have hp3 : p < 3 := by omega
  by_cases b5 : x4 < 0 ∨ 2 < x4
  · (repeat (first | rw [r1] | rw [e_rdQ _ _ _ _ _ (by omega)] | rw [e_rdn _ _ _ _ _ (by omega)] | rw [q1] | rw [w1] | rw [e1] | rw [e2] | rw [e3] | rw [e_i2l] | rw [e_cI] | rw [e_join] | rw [e_cP] | rw [e_gF] | rw [e_pF] | rw [e_cW] | rw [e_cV] | rw [e_in_t _ _ _ _ (by omega)] | rw [e_in_f _ _ _ _ (by omega)] | rw [b_pos (by omega)] | rw [b_neg (by omega)] | rw [e_add _ _ _ (by omega)] | rw [e_sub _ _ _ (by omega)] | rw [e_mul _ _ _ (by omega)] | rw [e_lsub _ _ _ (by omega)] | rw [e_rd _ _ _ _ _ (by omega)] | rw [b_pos True.intro] | rw [b_neg not_false] | simp only [Int.reduceToNat, Int.reduceSub, Int.reduceAdd, Int.reduceMul]))
    exact ⟨_, rfl, rfl⟩
  obtain ⟨j, rfl⟩ := Int.eq_ofNat_of_zero_le (show 0 ≤ x4 by omega)
  have e4 : (3 * ((8 * (4 * p + i) + k : Nat) : Int) + (j : Int)) = ((3 * (8 * (4 * p + i) + k) + j : Nat) : Int) := by omega
  unfold actAtP at a0 a1 a2
  rcases (by omega : j = 0 ∨ j = 1 ∨ j = 2) with rfl | rfl | rfl
  · (repeat (first | rw [r1] | rw [e_rdQ _ _ _ _ _ (by omega)] | rw [e_rdn _ _ _ _ _ (by omega)] | rw [q1] | rw [w1] | rw [e1] | rw [e2] | rw [e3] | rw [e4] | rw [a0] | rw [e_i2l] | rw [e_cI] | rw [e_join] | rw [e_cP] | rw [e_gF] | rw [e_pF] | rw [e_cW] | rw [e_cV] | rw [e_in_t _ _ _ _ (by omega)] | rw [e_in_f _ _ _ _ (by omega)] | rw [b_pos (by omega)] | rw [b_neg (by omega)] | rw [e_add _ _ _ (by omega)] | rw [e_sub _ _ _ (by omega)] | rw [e_mul _ _ _ (by omega)] | rw [e_lsub _ _ _ (by omega)] | rw [e_rd _ _ _ _ _ (by omega)] | rw [b_pos True.intro] | rw [b_neg not_false] | simp only [Int.reduceToNat, Int.reduceSub, Int.reduceAdd, Int.reduceMul]))
    exact ⟨_, rfl, rfl⟩
  · (repeat (first | rw [r1] | rw [e_rdQ _ _ _ _ _ (by omega)] | rw [e_rdn _ _ _ _ _ (by omega)] | rw [q1] | rw [w1] | rw [e1] | rw [e2] | rw [e3] | rw [e4] | rw [a1] | rw [e_i2l] | rw [e_cI] | rw [e_join] | rw [e_cP] | rw [e_gF] | rw [e_pF] | rw [e_cW] | rw [e_cV] | rw [e_in_t _ _ _ _ (by omega)] | rw [e_in_f _ _ _ _ (by omega)] | rw [b_pos (by omega)] | rw [b_neg (by omega)] | rw [e_add _ _ _ (by omega)] | rw [e_sub _ _ _ (by omega)] | rw [e_mul _ _ _ (by omega)] | rw [e_lsub _ _ _ (by omega)] | rw [e_rd _ _ _ _ _ (by omega)] | rw [b_pos True.intro] | rw [b_neg not_false] | simp only [Int.reduceToNat, Int.reduceSub, Int.reduceAdd, Int.reduceMul]))
    exact ⟨_, rfl, rfl⟩
  · (repeat (first | rw [r1] | rw [e_rdQ _ _ _ _ _ (by omega)] | rw [e_rdn _ _ _ _ _ (by omega)] | rw [q1] | rw [w1] | rw [e1] | rw [e2] | rw [e3] | rw [e4] | rw [a2] | rw [e_i2l] | rw [e_cI] | rw [e_join] | rw [e_cP] | rw [e_gF] | rw [e_pF] | rw [e_cW] | rw [e_cV] | rw [e_in_t _ _ _ _ (by omega)] | rw [e_in_f _ _ _ _ (by omega)] | rw [b_pos (by omega)] | rw [b_neg (by omega)] | rw [e_add _ _ _ (by omega)] | rw [e_sub _ _ _ (by omega)] | rw [e_mul _ _ _ (by omega)] | rw [e_lsub _ _ _ (by omega)] | rw [e_rd _ _ _ _ _ (by omega)] | rw [b_pos True.intro] | rw [b_neg not_false] | simp only [Int.reduceToNat, Int.reduceSub, Int.reduceAdd, Int.reduceMul]))
    exact ⟨_, rfl, rfl⟩
