/-! THE MODEL'S MINUTES do what the specification says -/
def PM (P h : Hp) : Prop := ∀ p, 100 ≤ p ∧ p ≤ 120 → h p = P p
theorem PM.row {P h : Hp} {q : Nat} {s : Nat → Int} (hp : PM P h) (hq : 120 < q) : PM P (setRow h q s) := fun p hr => by rw [setRow_ne h q s p (by omega)]; exact hp p hr
theorem strP_le {P : Hp} (hv : PV P) {w : Int} (hw : 0 ≤ w ∧ w ≤ 16) : 0 ≤ strP P w ∧ strP P w ≤ 20 := by
  obtain ⟨-, -, -, -, -, -, -, -, h6, h7, h8, -⟩ := hv
  unfold strP
  split
  · omega
  split
  · omega
  have hm : 0 ≤ P 102 8 * (if 0 ≤ w - P 102 6 then w - P 102 6 else 0 - (w - P 102 6)) := Int.mul_nonneg h8.1 (by split <;> omega)
  generalize P 102 8 * (if 0 ≤ w - P 102 6 then w - P 102 6 else 0 - (w - P 102 6)) = X at *
  split <;> omega
theorem m_strength {P h : Hp} (hp : PM P h) (hv : PV P) {w : Int} (hw : 0 ≤ w ∧ w ≤ 16) : g_X9_strength w h = some (strP P w) := by
  have e2 := hp 102 (by omega)
  obtain ⟨-, -, -, -, -, -, -, -, h6, h7, h8, -⟩ := hv
  unfold g_X9_strength strP
  simp only [e_join, e_cI]
  by_cases h0 : w = 0
  · rw [if_pos h0, if_pos h0]
  rw [if_neg h0, if_neg h0]
  by_cases h1 : w = 16
  · rw [if_pos h1, if_pos h1]
  rw [if_neg h1, if_neg h1]
  have ha : 0 ≤ (if 0 ≤ w - P 102 6 then w - P 102 6 else 0 - (w - P 102 6)) ∧ (if 0 ≤ w - P 102 6 then w - P 102 6 else 0 - (w - P 102 6)) ≤ 16 := by split <;> omega
  have hm : 0 ≤ P 102 8 * (if 0 ≤ w - P 102 6 then w - P 102 6 else 0 - (w - P 102 6)) := Int.mul_nonneg h8.1 ha.1
  have hm2 : P 102 8 * (if 0 ≤ w - P 102 6 then w - P 102 6 else 0 - (w - P 102 6)) ≤ 9 * 16 := Int.mul_le_mul h8.2 ha.2 ha.1 (by omega)
  (try simp (disch := (first | omega | (simp (disch := omega) only [set2_same, set2_np, set2_nk, setRow_same, setRow_ne, upd1_same, upd1_ne, upd1_le, setRow_setRow, Int.toNat_natCast, tn_0, tn_64, tn_128, tn_192, tn_256, tn_260, tn_264, tn_276, tn_280, tn_284, Int.reduceToNat, e2]; omega))) only [↓reduceIte, ↓e_cI, ↓e_add, ↓e_sub, ↓e_mul, ↓e_div, ↓e_rem, ↓e_max, ↓e_min, ↓e_abs, ↓e_gF, ↓e_pF, ↓e_pZ, ↓e_rd, ↓e_wrR, ↓e_cP, ↓e_cW, ↓e_cV, ↓e_join, c_le_t, c_le_f, c_lt_t, c_lt_f, c_eq_t, c_eq_f, Int.toNat_natCast, set2_same, set2_np, set2_nk, setRow_same, setRow_ne, upd1_same, upd1_ne, upd1_le, setRow_setRow, Int.toNat_natCast, tn_0, tn_64, tn_128, tn_192, tn_256, tn_260, tn_264, tn_276, tn_280, tn_284, Int.reduceToNat, e2])
theorem m_holdsOf {P h : Hp} (hp : PM P h) (hv : PV P) {w p : Int} (hw : 0 ≤ w ∧ w ≤ 16) (hk : 0 ≤ p ∧ p ≤ 4) : g_X9_holdsOf w p h = some (holdsP P w p) := by
  have e2 := hp 102 (by omega)
  have hs := strP_le hv hw
  have h1 := hv.2.2.2.1
  unfold g_X9_holdsOf holdsP
  rw [m_strength hp hv hw]
  have hm : 0 ≤ P 102 1 * p := Int.mul_nonneg h1.1 hk.1
  have hm2 : P 102 1 * p ≤ 5 * 4 := Int.mul_le_mul h1.2 hk.2 hk.1 (by omega)
  (try simp (disch := (first | omega | (simp (disch := omega) only [set2_same, set2_np, set2_nk, setRow_same, setRow_ne, upd1_same, upd1_ne, upd1_le, setRow_setRow, Int.toNat_natCast, tn_0, tn_64, tn_128, tn_192, tn_256, tn_260, tn_264, tn_276, tn_280, tn_284, Int.reduceToNat, e2]; omega))) only [↓reduceIte, ↓e_cI, ↓e_add, ↓e_sub, ↓e_mul, ↓e_div, ↓e_rem, ↓e_max, ↓e_min, ↓e_abs, ↓e_gF, ↓e_pF, ↓e_pZ, ↓e_rd, ↓e_wrR, ↓e_cP, ↓e_cW, ↓e_cV, ↓e_join, c_le_t, c_le_f, c_lt_t, c_lt_f, c_eq_t, c_eq_f, Int.toNat_natCast, set2_same, set2_np, set2_nk, setRow_same, setRow_ne, upd1_same, upd1_ne, upd1_le, setRow_setRow, Int.toNat_natCast, tn_0, tn_64, tn_128, tn_192, tn_256, tn_260, tn_264, tn_276, tn_280, tn_284, Int.reduceToNat, e2])
theorem m_unitGoes {h : Hp} {q a b : Nat} {s : Nat → Int} (hab : a ≠ b) (ha : a < 64) (hb : b < 64) (h1 : 0 ≤ s a ∧ s a ≤ 10000) (h2 : 0 ≤ s b ∧ s b ≤ 10000) (h3 : 0 ≤ s (64 + a) ∧ s (64 + a) ≤ 16) (h4 : 0 ≤ s (64 + b) ∧ s (64 + b) ≤ 16) :
    g_X9_unitGoes q a b (setRow h q s) = some (setRow h q (unitP s a b)) := by
  have hm : 0 ≤ s (64 + b) * s b := Int.mul_nonneg h4.1 h2.1
  have hm2 : s (64 + b) * s b ≤ 16 * 10000 := Int.mul_le_mul h4.2 h2.2 h2.1 (by omega)
  unfold g_X9_unitGoes
  (try simp (disch := (first | omega | (simp (disch := omega) only [set2_same, set2_np, set2_nk, setRow_same, setRow_ne, upd1_same, upd1_ne, upd1_le, setRow_setRow, Int.toNat_natCast, tn_0, tn_64, tn_128, tn_192, tn_256, tn_260, tn_264, tn_276, tn_280, tn_284, Int.reduceToNat]; omega))) only [↓reduceIte, ↓e_cI, ↓e_add, ↓e_sub, ↓e_mul, ↓e_div, ↓e_rem, ↓e_max, ↓e_min, ↓e_abs, ↓e_gF, ↓e_pF, ↓e_pZ, ↓e_rd, ↓e_cP, ↓e_cW, ↓e_cV, ↓e_join, c_le_t, c_le_f, c_lt_t, c_lt_f, c_eq_t, c_eq_f, Int.toNat_natCast, set2_same, set2_np, set2_nk, setRow_same, setRow_ne, upd1_same, upd1_ne, upd1_le, setRow_setRow, Int.toNat_natCast, tn_0, tn_64, tn_128, tn_192, tn_256, tn_260, tn_264, tn_276, tn_280, tn_284, Int.reduceToNat])
  refine w_row (by first | omega | (simp (disch := omega) only [set2_same, set2_np, set2_nk, setRow_same, setRow_ne, upd1_same, upd1_ne, upd1_le, setRow_setRow, Int.toNat_natCast, tn_0, tn_64, tn_128, tn_192, tn_256, tn_260, tn_264, tn_276, tn_280, tn_284, Int.reduceToNat]; omega)) (fun s1 e1 => ?_)

  (try simp (disch := (first | omega | (simp (disch := omega) only [set2_same, set2_np, set2_nk, setRow_same, setRow_ne, upd1_same, upd1_ne, upd1_le, setRow_setRow, Int.toNat_natCast, tn_0, tn_64, tn_128, tn_192, tn_256, tn_260, tn_264, tn_276, tn_280, tn_284, Int.reduceToNat, e1]; omega))) only [↓reduceIte, ↓e_cI, ↓e_add, ↓e_sub, ↓e_mul, ↓e_div, ↓e_rem, ↓e_max, ↓e_min, ↓e_abs, ↓e_gF, ↓e_pF, ↓e_pZ, ↓e_rd, ↓e_cP, ↓e_cW, ↓e_cV, ↓e_join, c_le_t, c_le_f, c_lt_t, c_lt_f, c_eq_t, c_eq_f, Int.toNat_natCast, set2_same, set2_np, set2_nk, setRow_same, setRow_ne, upd1_same, upd1_ne, upd1_le, setRow_setRow, Int.toNat_natCast, tn_0, tn_64, tn_128, tn_192, tn_256, tn_260, tn_264, tn_276, tn_280, tn_284, Int.reduceToNat])
  refine w_row (by first | omega | (simp (disch := omega) only [set2_same, set2_np, set2_nk, setRow_same, setRow_ne, upd1_same, upd1_ne, upd1_le, setRow_setRow, Int.toNat_natCast, tn_0, tn_64, tn_128, tn_192, tn_256, tn_260, tn_264, tn_276, tn_280, tn_284, Int.reduceToNat]; omega)) (fun s2 e2 => ?_)
  (try simp (disch := (first | omega | (simp (disch := omega) only [set2_same, set2_np, set2_nk, setRow_same, setRow_ne, upd1_same, upd1_ne, upd1_le, setRow_setRow, Int.toNat_natCast, tn_0, tn_64, tn_128, tn_192, tn_256, tn_260, tn_264, tn_276, tn_280, tn_284, Int.reduceToNat, e1, e2]; omega))) only [↓reduceIte, ↓e_cI, ↓e_add, ↓e_sub, ↓e_mul, ↓e_div, ↓e_rem, ↓e_max, ↓e_min, ↓e_abs, ↓e_gF, ↓e_pF, ↓e_pZ, ↓e_rd, ↓e_cP, ↓e_cW, ↓e_cV, ↓e_join, c_le_t, c_le_f, c_lt_t, c_lt_f, c_eq_t, c_eq_f, Int.toNat_natCast, set2_same, set2_np, set2_nk, setRow_same, setRow_ne, upd1_same, upd1_ne, upd1_le, setRow_setRow, Int.toNat_natCast, tn_0, tn_64, tn_128, tn_192, tn_256, tn_260, tn_264, tn_276, tn_280, tn_284, Int.reduceToNat])
  refine w_row (by first | omega | (simp (disch := omega) only [set2_same, set2_np, set2_nk, setRow_same, setRow_ne, upd1_same, upd1_ne, upd1_le, setRow_setRow, Int.toNat_natCast, tn_0, tn_64, tn_128, tn_192, tn_256, tn_260, tn_264, tn_276, tn_280, tn_284, Int.reduceToNat]; omega)) (fun s3 e3 => ?_)
  (try simp (disch := (first | omega | (simp (disch := omega) only [set2_same, set2_np, set2_nk, setRow_same, setRow_ne, upd1_same, upd1_ne, upd1_le, setRow_setRow, Int.toNat_natCast, tn_0, tn_64, tn_128, tn_192, tn_256, tn_260, tn_264, tn_276, tn_280, tn_284, Int.reduceToNat, e1, e2, e3]; omega))) only [↓reduceIte, ↓e_cI, ↓e_add, ↓e_sub, ↓e_mul, ↓e_div, ↓e_rem, ↓e_max, ↓e_min, ↓e_abs, ↓e_gF, ↓e_pF, ↓e_pZ, ↓e_rd, ↓e_cP, ↓e_cW, ↓e_cV, ↓e_join, c_le_t, c_le_f, c_lt_t, c_lt_f, c_eq_t, c_eq_f, Int.toNat_natCast, set2_same, set2_np, set2_nk, setRow_same, setRow_ne, upd1_same, upd1_ne, upd1_le, setRow_setRow, Int.toNat_natCast, tn_0, tn_64, tn_128, tn_192, tn_256, tn_260, tn_264, tn_276, tn_280, tn_284, Int.reduceToNat])
  refine w_row (by first | omega | (simp (disch := omega) only [set2_same, set2_np, set2_nk, setRow_same, setRow_ne, upd1_same, upd1_ne, upd1_le, setRow_setRow, Int.toNat_natCast, tn_0, tn_64, tn_128, tn_192, tn_256, tn_260, tn_264, tn_276, tn_280, tn_284, Int.reduceToNat]; omega)) (fun s4 e4 => ?_)
  unfold unitP mixW
  rw [e4, e3, e2, e1]
  simp (disch := omega) only [set2_same, set2_np, set2_nk, setRow_same, setRow_ne, upd1_same, upd1_ne, upd1_le, setRow_setRow, Int.toNat_natCast, tn_0, tn_64, tn_128, tn_192, tn_256, tn_260, tn_264, tn_276, tn_280, tn_284, Int.reduceToNat]
theorem m_does {h : Hp} {q : Nat} {s : Nat → Int} {k c t : Int} (hk : 0 ≤ k ∧ k ≤ 4) (hc : k ≤ 3 → 0 ≤ c ∧ c < 64) (ht : k = 0 → (0 ≤ t ∧ t < 64) ∧ t ≠ c)
    (hs : ∀ j : Nat, (j : Int) = c ∨ (j : Int) = t → (0 ≤ s j ∧ s j ≤ 10000) ∧ (0 ≤ s (64 + j) ∧ s (64 + j) ≤ 16) ∧ (0 ≤ s (128 + j) ∧ s (128 + j) ≤ 4)) :
    g_X9_does q k c t (setRow h q s) = some (setRow h q (doesP s k c.toNat t.toNat)) := by
  unfold g_X9_does doesP
  simp only [e_join]
  by_cases k4 : k = 4
  · subst k4
    (try simp (disch := (first | omega | (simp (disch := omega) only [set2_same, set2_np, set2_nk, setRow_same, setRow_ne, upd1_same, upd1_ne, upd1_le, setRow_setRow, Int.toNat_natCast, tn_0, tn_64, tn_128, tn_192, tn_256, tn_260, tn_264, tn_276, tn_280, tn_284, Int.reduceToNat]; omega))) only [↓reduceIte, ↓e_cI, ↓e_add, ↓e_sub, ↓e_mul, ↓e_div, ↓e_rem, ↓e_max, ↓e_min, ↓e_abs, ↓e_gF, ↓e_pF, ↓e_pZ, ↓e_rd, ↓e_cP, ↓e_cW, ↓e_cV, ↓e_join, c_le_t, c_le_f, c_lt_t, c_lt_f, c_eq_t, c_eq_f, Int.toNat_natCast, set2_same, set2_np, set2_nk, setRow_same, setRow_ne, upd1_same, upd1_ne, upd1_le, setRow_setRow, Int.toNat_natCast, tn_0, tn_64, tn_128, tn_192, tn_256, tn_260, tn_264, tn_276, tn_280, tn_284, Int.reduceToNat])
  obtain ⟨c', rfl⟩ := Int.eq_ofNat_of_zero_le (hc (by omega)).1
  have hcc := hs c' (Or.inl rfl)
  have hcl := (hc (by omega)).2
  by_cases k0 : k = 0
  · subst k0
    obtain ⟨⟨ht0, ht1⟩, htc⟩ := ht rfl
    obtain ⟨t', rfl⟩ := Int.eq_ofNat_of_zero_le ht0
    have htt := hs t' (Or.inr rfl)
    (try simp (disch := (first | omega | (simp (disch := omega) only [set2_same, set2_np, set2_nk, setRow_same, setRow_ne, upd1_same, upd1_ne, upd1_le, setRow_setRow, Int.toNat_natCast, tn_0, tn_64, tn_128, tn_192, tn_256, tn_260, tn_264, tn_276, tn_280, tn_284, Int.reduceToNat]; omega))) only [↓reduceIte, ↓e_cI, ↓e_add, ↓e_sub, ↓e_mul, ↓e_div, ↓e_rem, ↓e_max, ↓e_min, ↓e_abs, ↓e_gF, ↓e_pF, ↓e_pZ, ↓e_rd, ↓e_cP, ↓e_cW, ↓e_cV, ↓e_join, c_le_t, c_le_f, c_lt_t, c_lt_f, c_eq_t, c_eq_f, Int.toNat_natCast, set2_same, set2_np, set2_nk, setRow_same, setRow_ne, upd1_same, upd1_ne, upd1_le, setRow_setRow, Int.toNat_natCast, tn_0, tn_64, tn_128, tn_192, tn_256, tn_260, tn_264, tn_276, tn_280, tn_284, Int.reduceToNat])
    by_cases b1 : s c' = 0
    · simp only [b1, if_true]
    by_cases b2 : s (192 + c') = 1
    · simp only [b1, b2, if_true, if_false]
    by_cases b3 : s (192 + t') = 1
    · simp only [b1, b2, b3, if_true, if_false]
    simp only [b1, b2, b3, if_false]
    rw [m_unitGoes (by omega) (by omega) (by omega) hcc.1 htt.1 hcc.2.1 htt.2.1]
    (try simp (disch := (first | omega | (simp (disch := omega) only [set2_same, set2_np, set2_nk, setRow_same, setRow_ne, upd1_same, upd1_ne, upd1_le, setRow_setRow, Int.toNat_natCast, tn_0, tn_64, tn_128, tn_192, tn_256, tn_260, tn_264, tn_276, tn_280, tn_284, Int.reduceToNat]; omega))) only [↓reduceIte, ↓e_cI, ↓e_add, ↓e_sub, ↓e_mul, ↓e_div, ↓e_rem, ↓e_max, ↓e_min, ↓e_abs, ↓e_gF, ↓e_pF, ↓e_pZ, ↓e_rd, ↓e_cP, ↓e_cW, ↓e_cV, ↓e_join, c_le_t, c_le_f, c_lt_t, c_lt_f, c_eq_t, c_eq_f, Int.toNat_natCast, set2_same, set2_np, set2_nk, setRow_same, setRow_ne, upd1_same, upd1_ne, upd1_le, setRow_setRow, Int.toNat_natCast, tn_0, tn_64, tn_128, tn_192, tn_256, tn_260, tn_264, tn_276, tn_280, tn_284, Int.reduceToNat])
    rw [e_wrR _ _ _ _ _ _ (by omega)]
    simp (disch := omega) only [set2_same, set2_np, set2_nk, setRow_same, setRow_ne, upd1_same, upd1_ne, upd1_le, setRow_setRow, Int.toNat_natCast, tn_0, tn_64, tn_128, tn_192, tn_256, tn_260, tn_264, tn_276, tn_280, tn_284, Int.reduceToNat]
  by_cases k1 : k = 1
  · subst k1
    (try simp (disch := (first | omega | (simp (disch := omega) only [set2_same, set2_np, set2_nk, setRow_same, setRow_ne, upd1_same, upd1_ne, upd1_le, setRow_setRow, Int.toNat_natCast, tn_0, tn_64, tn_128, tn_192, tn_256, tn_260, tn_264, tn_276, tn_280, tn_284, Int.reduceToNat]; omega))) only [↓reduceIte, ↓e_cI, ↓e_add, ↓e_sub, ↓e_mul, ↓e_div, ↓e_rem, ↓e_max, ↓e_min, ↓e_abs, ↓e_gF, ↓e_pF, ↓e_pZ, ↓e_rd, ↓e_cP, ↓e_cW, ↓e_cV, ↓e_join, c_le_t, c_le_f, c_lt_t, c_lt_f, c_eq_t, c_eq_f, Int.toNat_natCast, set2_same, set2_np, set2_nk, setRow_same, setRow_ne, upd1_same, upd1_ne, upd1_le, setRow_setRow, Int.toNat_natCast, tn_0, tn_64, tn_128, tn_192, tn_256, tn_260, tn_264, tn_276, tn_280, tn_284, Int.reduceToNat])
    rw [e_wrR _ _ _ _ _ _ (by omega)]
    simp (disch := omega) only [set2_same, set2_np, set2_nk, setRow_same, setRow_ne, upd1_same, upd1_ne, upd1_le, setRow_setRow, Int.toNat_natCast, tn_0, tn_64, tn_128, tn_192, tn_256, tn_260, tn_264, tn_276, tn_280, tn_284, Int.reduceToNat]
  by_cases k2 : k = 2
  · subst k2
    (try simp (disch := (first | omega | (simp (disch := omega) only [set2_same, set2_np, set2_nk, setRow_same, setRow_ne, upd1_same, upd1_ne, upd1_le, setRow_setRow, Int.toNat_natCast, tn_0, tn_64, tn_128, tn_192, tn_256, tn_260, tn_264, tn_276, tn_280, tn_284, Int.reduceToNat]; omega))) only [↓reduceIte, ↓e_cI, ↓e_add, ↓e_sub, ↓e_mul, ↓e_div, ↓e_rem, ↓e_max, ↓e_min, ↓e_abs, ↓e_gF, ↓e_pF, ↓e_pZ, ↓e_rd, ↓e_cP, ↓e_cW, ↓e_cV, ↓e_join, c_le_t, c_le_f, c_lt_t, c_lt_f, c_eq_t, c_eq_f, Int.toNat_natCast, set2_same, set2_np, set2_nk, setRow_same, setRow_ne, upd1_same, upd1_ne, upd1_le, setRow_setRow, Int.toNat_natCast, tn_0, tn_64, tn_128, tn_192, tn_256, tn_260, tn_264, tn_276, tn_280, tn_284, Int.reduceToNat])
    rw [e_wrR _ _ _ _ _ _ (by omega)]
    simp (disch := omega) only [set2_same, set2_np, set2_nk, setRow_same, setRow_ne, upd1_same, upd1_ne, upd1_le, setRow_setRow, Int.toNat_natCast, tn_0, tn_64, tn_128, tn_192, tn_256, tn_260, tn_264, tn_276, tn_280, tn_284, Int.reduceToNat]
  have k3 : k = 3 := by omega
  subst k3
  (try simp (disch := (first | omega | (simp (disch := omega) only [set2_same, set2_np, set2_nk, setRow_same, setRow_ne, upd1_same, upd1_ne, upd1_le, setRow_setRow, Int.toNat_natCast, tn_0, tn_64, tn_128, tn_192, tn_256, tn_260, tn_264, tn_276, tn_280, tn_284, Int.reduceToNat]; omega))) only [↓reduceIte, ↓e_cI, ↓e_add, ↓e_sub, ↓e_mul, ↓e_div, ↓e_rem, ↓e_max, ↓e_min, ↓e_abs, ↓e_gF, ↓e_pF, ↓e_pZ, ↓e_rd, ↓e_cP, ↓e_cW, ↓e_cV, ↓e_join, c_le_t, c_le_f, c_lt_t, c_lt_f, c_eq_t, c_eq_f, Int.toNat_natCast, set2_same, set2_np, set2_nk, setRow_same, setRow_ne, upd1_same, upd1_ne, upd1_le, setRow_setRow, Int.toNat_natCast, tn_0, tn_64, tn_128, tn_192, tn_256, tn_260, tn_264, tn_276, tn_280, tn_284, Int.reduceToNat])
  rw [e_wrR _ _ _ _ _ _ (by omega)]
  simp (disch := omega) only [set2_same, set2_np, set2_nk, setRow_same, setRow_ne, upd1_same, upd1_ne, upd1_le, setRow_setRow, Int.toNat_natCast, tn_0, tn_64, tn_128, tn_192, tn_256, tn_260, tn_264, tn_276, tn_280, tn_284, Int.reduceToNat]
theorem PV.nn {P : Hp} : (cN P : Int) * (rN P : Int) = (nN P : Int) := by unfold nN; push_cast; rfl
theorem emodN (a b : Nat) : (a : Int) % (b : Int) = ((a % b : Nat) : Int) := by push_cast; rfl
theorem m_low1 {P h : Hp} {q : Nat} {s : Nat → Int} {best o : Int} {k : Nat} (hp : PM P h) (hv : PV P) (hq : 120 < q) (hb : best = -1 ∨ (0 ≤ best ∧ best < 64)) (hk : k < 4) (self : Int × Int → Option Int) (ho : -100 ≤ o ∧ o ≤ 100) :
    (if o < 0 then addI (k : Int) 1 fun z16 => self (best, z16) else
      gF (setRow h q s) 100 10 fun z17 => gF (setRow h q s) 100 11 fun z18 => mulI z17 z18 fun z19 =>
      if z19 ≤ o then addI (k : Int) 1 fun z16 => self (best, z16) else
      cI (192) fun z20 => addI z20 o fun z21 => rdI (setRow h q s) q 289 z21 fun z22 => cI (1) fun z23 =>
      if z22 = z23 then addI (k : Int) 1 fun z16 => self (best, z16) else
      cI (-1) fun z24 =>
      if best = z24 then addI (k : Int) 1 fun z16 => self (o, z16) else
      cI (0) fun z27 => addI z27 o fun z28 => rdI (setRow h q s) q 289 z28 fun z29 => cI (0) fun z30 => addI z30 best fun z31 => rdI (setRow h q s) q 289 z31 fun z32 =>
      if z32 ≤ z29 then addI (k : Int) 1 fun z16 => self (best, z16) else addI (k : Int) 1 fun z16 => self (o, z16)) = self (candP P s best o, ((k + 1 : Nat) : Int)) := by
  have e1 := hp 100 (by omega)
  obtain ⟨c10, c11, a1, a2, a3, a4⟩ := hv.cr
  have hn := hv.n
  have hnn := PV.nn (P := P)
  have hk1 : ((k + 1 : Nat) : Int) = (k : Int) + 1 := by omega
  rw [hk1]
  unfold candP
  by_cases h1 : o < 0
  · rw [if_pos h1, if_pos h1]; (try simp (disch := (first | omega | (simp (disch := omega) only [set2_same, set2_np, set2_nk, setRow_same, setRow_ne, upd1_same, upd1_ne, upd1_le, setRow_setRow, Int.toNat_natCast, tn_0, tn_64, tn_128, tn_192, tn_256, tn_260, tn_264, tn_276, tn_280, tn_284, Int.reduceToNat]; omega))) only [↓reduceIte, ↓e_cI, ↓e_add, ↓e_sub, ↓e_mul, ↓e_div, ↓e_rem, ↓e_max, ↓e_min, ↓e_abs, ↓e_gF, ↓e_pF, ↓e_pZ, ↓e_rd, ↓e_cP, ↓e_cW, ↓e_cV, ↓e_join, c_le_t, c_le_f, c_lt_t, c_lt_f, c_eq_t, c_eq_f, Int.toNat_natCast, set2_same, set2_np, set2_nk, setRow_same, setRow_ne, upd1_same, upd1_ne, upd1_le, setRow_setRow, Int.toNat_natCast, tn_0, tn_64, tn_128, tn_192, tn_256, tn_260, tn_264, tn_276, tn_280, tn_284, Int.reduceToNat])
  rw [if_neg h1, if_neg h1]
  by_cases h2 : (nN P : Int) ≤ o
  · rw [if_pos h2]; (try simp (disch := (first | omega | (simp (disch := omega) only [set2_same, set2_np, set2_nk, setRow_same, setRow_ne, upd1_same, upd1_ne, upd1_le, setRow_setRow, Int.toNat_natCast, tn_0, tn_64, tn_128, tn_192, tn_256, tn_260, tn_264, tn_276, tn_280, tn_284, Int.reduceToNat, e1, c10, c11, hnn]; omega))) only [↓reduceIte, ↓e_cI, ↓e_add, ↓e_sub, ↓e_mul, ↓e_div, ↓e_rem, ↓e_max, ↓e_min, ↓e_abs, ↓e_gF, ↓e_pF, ↓e_pZ, ↓e_rd, ↓e_cP, ↓e_cW, ↓e_cV, ↓e_join, c_le_t, c_le_f, c_lt_t, c_lt_f, c_eq_t, c_eq_f, Int.toNat_natCast, set2_same, set2_np, set2_nk, setRow_same, setRow_ne, upd1_same, upd1_ne, upd1_le, setRow_setRow, Int.toNat_natCast, tn_0, tn_64, tn_128, tn_192, tn_256, tn_260, tn_264, tn_276, tn_280, tn_284, Int.reduceToNat, e1, c10, c11, hnn])
  rw [if_neg h2]
  obtain ⟨o', rfl⟩ := Int.eq_ofNat_of_zero_le (show 0 ≤ o by omega)
  by_cases h3 : s (192 + o') = 1
  · (try simp (disch := (first | omega | (simp (disch := omega) only [set2_same, set2_np, set2_nk, setRow_same, setRow_ne, upd1_same, upd1_ne, upd1_le, setRow_setRow, Int.toNat_natCast, tn_0, tn_64, tn_128, tn_192, tn_256, tn_260, tn_264, tn_276, tn_280, tn_284, Int.reduceToNat, e1, c10, c11, hnn, h3]; omega))) only [↓reduceIte, ↓e_cI, ↓e_add, ↓e_sub, ↓e_mul, ↓e_div, ↓e_rem, ↓e_max, ↓e_min, ↓e_abs, ↓e_gF, ↓e_pF, ↓e_pZ, ↓e_rd, ↓e_cP, ↓e_cW, ↓e_cV, ↓e_join, c_le_t, c_le_f, c_lt_t, c_lt_f, c_eq_t, c_eq_f, Int.toNat_natCast, set2_same, set2_np, set2_nk, setRow_same, setRow_ne, upd1_same, upd1_ne, upd1_le, setRow_setRow, Int.toNat_natCast, tn_0, tn_64, tn_128, tn_192, tn_256, tn_260, tn_264, tn_276, tn_280, tn_284, Int.reduceToNat, e1, c10, c11, hnn, h3])
  by_cases h4 : best = -1
  · subst h4; (try simp (disch := (first | omega | (simp (disch := omega) only [set2_same, set2_np, set2_nk, setRow_same, setRow_ne, upd1_same, upd1_ne, upd1_le, setRow_setRow, Int.toNat_natCast, tn_0, tn_64, tn_128, tn_192, tn_256, tn_260, tn_264, tn_276, tn_280, tn_284, Int.reduceToNat, e1, c10, c11, hnn, h3]; omega))) only [↓reduceIte, ↓e_cI, ↓e_add, ↓e_sub, ↓e_mul, ↓e_div, ↓e_rem, ↓e_max, ↓e_min, ↓e_abs, ↓e_gF, ↓e_pF, ↓e_pZ, ↓e_rd, ↓e_cP, ↓e_cW, ↓e_cV, ↓e_join, c_le_t, c_le_f, c_lt_t, c_lt_f, c_eq_t, c_eq_f, Int.toNat_natCast, set2_same, set2_np, set2_nk, setRow_same, setRow_ne, upd1_same, upd1_ne, upd1_le, setRow_setRow, Int.toNat_natCast, tn_0, tn_64, tn_128, tn_192, tn_256, tn_260, tn_264, tn_276, tn_280, tn_284, Int.reduceToNat, e1, c10, c11, hnn, h3])
  obtain ⟨b', rfl⟩ := Int.eq_ofNat_of_zero_le (show 0 ≤ best by omega)
  by_cases h5 : s b' ≤ s o'
  · (try simp (disch := (first | omega | (simp (disch := omega) only [set2_same, set2_np, set2_nk, setRow_same, setRow_ne, upd1_same, upd1_ne, upd1_le, setRow_setRow, Int.toNat_natCast, tn_0, tn_64, tn_128, tn_192, tn_256, tn_260, tn_264, tn_276, tn_280, tn_284, Int.reduceToNat, e1, c10, c11, hnn, h3]; omega))) only [↓reduceIte, ↓e_cI, ↓e_add, ↓e_sub, ↓e_mul, ↓e_div, ↓e_rem, ↓e_max, ↓e_min, ↓e_abs, ↓e_gF, ↓e_pF, ↓e_pZ, ↓e_rd, ↓e_cP, ↓e_cW, ↓e_cV, ↓e_join, c_le_t, c_le_f, c_lt_t, c_lt_f, c_eq_t, c_eq_f, Int.toNat_natCast, set2_same, set2_np, set2_nk, setRow_same, setRow_ne, upd1_same, upd1_ne, upd1_le, setRow_setRow, Int.toNat_natCast, tn_0, tn_64, tn_128, tn_192, tn_256, tn_260, tn_264, tn_276, tn_280, tn_284, Int.reduceToNat, e1, c10, c11, hnn, h3])
  · (try simp (disch := (first | omega | (simp (disch := omega) only [set2_same, set2_np, set2_nk, setRow_same, setRow_ne, upd1_same, upd1_ne, upd1_le, setRow_setRow, Int.toNat_natCast, tn_0, tn_64, tn_128, tn_192, tn_256, tn_260, tn_264, tn_276, tn_280, tn_284, Int.reduceToNat, e1, c10, c11, hnn, h3]; omega))) only [↓reduceIte, ↓e_cI, ↓e_add, ↓e_sub, ↓e_mul, ↓e_div, ↓e_rem, ↓e_max, ↓e_min, ↓e_abs, ↓e_gF, ↓e_pF, ↓e_pZ, ↓e_rd, ↓e_cP, ↓e_cW, ↓e_cV, ↓e_join, c_le_t, c_le_f, c_lt_t, c_lt_f, c_eq_t, c_eq_f, Int.toNat_natCast, set2_same, set2_np, set2_nk, setRow_same, setRow_ne, upd1_same, upd1_ne, upd1_le, setRow_setRow, Int.toNat_natCast, tn_0, tn_64, tn_128, tn_192, tn_256, tn_260, tn_264, tn_276, tn_280, tn_284, Int.reduceToNat, e1, c10, c11, hnn, h3])
theorem candP_in {P : Hp} {s : Nat → Int} {best o : Int} (hv : PV P) (hb : best = -1 ∨ (0 ≤ best ∧ best < 64)) : candP P s best o = -1 ∨ (0 ≤ candP P s best o ∧ candP P s best o < 64) := by
  have hn := hv.n
  rcases candP_spec (P := P) (s := s) (best := best) (o := o) with h | ⟨h, h1, h2, -⟩
  · rw [h]; exact hb
  · rw [h]; omega
theorem m_lowestBeside {P h : Hp} {q : Nat} {s : Nat → Int} {c : Nat} (hp : PM P h) (hv : PV P) (hq : 120 < q) (hc : c < nN P) :
    g_X9_lowestBeside q c (setRow h q s) = some (lowP P s c) := by
  have e1 := hp 100 (by omega)
  obtain ⟨c10, c11, a1, a2, a3, a4⟩ := hv.cr
  have hn := hv.n
  have hx : (c : Int) % (cN P : Int) = ((c % cN P : Nat) : Int) := emodN _ _
  have hxl : c % cN P < cN P := Nat.mod_lt _ (by omega)
  have b1 := candP_in (P := P) (s := s) (best := -1) (o := (c : Int) - cN P) hv (Or.inl rfl)
  have b2 := candP_in (P := P) (s := s) (o := if 0 < c % cN P then (c : Int) - 1 else -1) hv b1
  have b3 := candP_in (P := P) (s := s) (o := if c % cN P + 1 < cN P then (c : Int) + 1 else -1) hv b2
  unfold g_X9_lowestBeside
  (try simp (disch := (first | omega | (simp (disch := omega) only [set2_same, set2_np, set2_nk, setRow_same, setRow_ne, upd1_same, upd1_ne, upd1_le, setRow_setRow, Int.toNat_natCast, tn_0, tn_64, tn_128, tn_192, tn_256, tn_260, tn_264, tn_276, tn_280, tn_284, Int.reduceToNat, e1, c10, c11, hx]; omega))) only [↓reduceIte, ↓e_cI, ↓e_add, ↓e_sub, ↓e_mul, ↓e_div, ↓e_rem, ↓e_max, ↓e_min, ↓e_abs, ↓e_gF, ↓e_pF, ↓e_pZ, ↓e_rd, ↓e_cP, ↓e_cW, ↓e_cV, ↓e_join, c_le_t, c_le_f, c_lt_t, c_lt_f, c_eq_t, c_eq_f, Int.toNat_natCast, set2_same, set2_np, set2_nk, setRow_same, setRow_ne, upd1_same, upd1_ne, upd1_le, setRow_setRow, Int.toNat_natCast, tn_0, tn_64, tn_128, tn_192, tn_256, tn_260, tn_264, tn_276, tn_280, tn_284, Int.reduceToNat, e1, c10, c11, hx])
  refine loopF_for' 4 (fun i => (match i with
    | 0 => -1
    | 1 => candP P s (-1) ((c : Int) - cN P)
    | 2 => candP P s (candP P s (-1) ((c : Int) - cN P)) (if 0 < c % cN P then (c : Int) - 1 else -1)
    | 3 => candP P s (candP P s (candP P s (-1) ((c : Int) - cN P)) (if 0 < c % cN P then (c : Int) - 1 else -1)) (if c % cN P + 1 < cN P then (c : Int) + 1 else -1)
    | _ => lowP P s c, (i : Int))) ?_ ?_ rfl (Nat.lt_of_lt_of_le (show 4 < 1000 by decide) (by unfold FU; decide))
  · intro i hi self
    unfold g_X9_lowestBeside_l6
    match i, hi with
    | 0, _ =>
      dsimp only
      rw [e_cI, b_neg (by omega)]
      refine join_gen (fun j11 hj => ?_)
      (try simp (disch := (first | omega | (simp (disch := omega) only [set2_same, set2_np, set2_nk, setRow_same, setRow_ne, upd1_same, upd1_ne, upd1_le, setRow_setRow, Int.toNat_natCast, tn_0, tn_64, tn_128, tn_192, tn_256, tn_260, tn_264, tn_276, tn_280, tn_284, Int.reduceToNat, e1, c10, c11]; omega))) only [↓reduceIte, ↓e_cI, ↓e_add, ↓e_sub, ↓e_mul, ↓e_div, ↓e_rem, ↓e_max, ↓e_min, ↓e_abs, ↓e_gF, ↓e_pF, ↓e_pZ, ↓e_rd, ↓e_cP, ↓e_cW, ↓e_cV, ↓e_join, c_le_t, c_le_f, c_lt_t, c_lt_f, c_eq_t, c_eq_f, Int.toNat_natCast, set2_same, set2_np, set2_nk, setRow_same, setRow_ne, upd1_same, upd1_ne, upd1_le, setRow_setRow, Int.toNat_natCast, tn_0, tn_64, tn_128, tn_192, tn_256, tn_260, tn_264, tn_276, tn_280, tn_284, Int.reduceToNat, e1, c10, c11])
      rw [hj]
      simp only [e_join]
      exact m_low1 (k := 0) hp hv hq (Or.inl rfl) (by omega) self (by omega)
    | 1, _ =>
      dsimp only
      rw [e_cI, b_neg (by omega)]
      refine join_gen (fun j11 hj => ?_)
      by_cases hx0 : 0 < c % cN P
      · rw [if_pos hx0]
        (try simp (disch := (first | omega | (simp (disch := omega) only [set2_same, set2_np, set2_nk, setRow_same, setRow_ne, upd1_same, upd1_ne, upd1_le, setRow_setRow, Int.toNat_natCast, tn_0, tn_64, tn_128, tn_192, tn_256, tn_260, tn_264, tn_276, tn_280, tn_284, Int.reduceToNat, e1, c10, c11]; omega))) only [↓reduceIte, ↓e_cI, ↓e_add, ↓e_sub, ↓e_mul, ↓e_div, ↓e_rem, ↓e_max, ↓e_min, ↓e_abs, ↓e_gF, ↓e_pF, ↓e_pZ, ↓e_rd, ↓e_cP, ↓e_cW, ↓e_cV, ↓e_join, c_le_t, c_le_f, c_lt_t, c_lt_f, c_eq_t, c_eq_f, Int.toNat_natCast, set2_same, set2_np, set2_nk, setRow_same, setRow_ne, upd1_same, upd1_ne, upd1_le, setRow_setRow, Int.toNat_natCast, tn_0, tn_64, tn_128, tn_192, tn_256, tn_260, tn_264, tn_276, tn_280, tn_284, Int.reduceToNat, e1, c10, c11])
        rw [hj]
        simp only [e_join]
        exact m_low1 (k := 1) hp hv hq b1 (by omega) self (by omega)
      · rw [if_neg hx0]
        (try simp (disch := (first | omega | (simp (disch := omega) only [set2_same, set2_np, set2_nk, setRow_same, setRow_ne, upd1_same, upd1_ne, upd1_le, setRow_setRow, Int.toNat_natCast, tn_0, tn_64, tn_128, tn_192, tn_256, tn_260, tn_264, tn_276, tn_280, tn_284, Int.reduceToNat, e1, c10, c11]; omega))) only [↓reduceIte, ↓e_cI, ↓e_add, ↓e_sub, ↓e_mul, ↓e_div, ↓e_rem, ↓e_max, ↓e_min, ↓e_abs, ↓e_gF, ↓e_pF, ↓e_pZ, ↓e_rd, ↓e_cP, ↓e_cW, ↓e_cV, ↓e_join, c_le_t, c_le_f, c_lt_t, c_lt_f, c_eq_t, c_eq_f, Int.toNat_natCast, set2_same, set2_np, set2_nk, setRow_same, setRow_ne, upd1_same, upd1_ne, upd1_le, setRow_setRow, Int.toNat_natCast, tn_0, tn_64, tn_128, tn_192, tn_256, tn_260, tn_264, tn_276, tn_280, tn_284, Int.reduceToNat, e1, c10, c11])
        rw [hj]
        simp only [e_join]
        exact m_low1 (k := 1) hp hv hq b1 (by omega) self (by omega)
    | 2, _ =>
      dsimp only
      rw [e_cI, b_neg (by omega)]
      refine join_gen (fun j11 hj => ?_)
      by_cases hx0 : c % cN P + 1 < cN P
      · rw [if_pos hx0] at b3 ⊢
        (try simp (disch := (first | omega | (simp (disch := omega) only [set2_same, set2_np, set2_nk, setRow_same, setRow_ne, upd1_same, upd1_ne, upd1_le, setRow_setRow, Int.toNat_natCast, tn_0, tn_64, tn_128, tn_192, tn_256, tn_260, tn_264, tn_276, tn_280, tn_284, Int.reduceToNat, e1, c10, c11]; omega))) only [↓reduceIte, ↓e_cI, ↓e_add, ↓e_sub, ↓e_mul, ↓e_div, ↓e_rem, ↓e_max, ↓e_min, ↓e_abs, ↓e_gF, ↓e_pF, ↓e_pZ, ↓e_rd, ↓e_cP, ↓e_cW, ↓e_cV, ↓e_join, c_le_t, c_le_f, c_lt_t, c_lt_f, c_eq_t, c_eq_f, Int.toNat_natCast, set2_same, set2_np, set2_nk, setRow_same, setRow_ne, upd1_same, upd1_ne, upd1_le, setRow_setRow, Int.toNat_natCast, tn_0, tn_64, tn_128, tn_192, tn_256, tn_260, tn_264, tn_276, tn_280, tn_284, Int.reduceToNat, e1, c10, c11])
        rw [hj]
        simp only [e_join]
        exact m_low1 (k := 2) hp hv hq b2 (by omega) self (by omega)
      · rw [if_neg hx0] at b3 ⊢
        (try simp (disch := (first | omega | (simp (disch := omega) only [set2_same, set2_np, set2_nk, setRow_same, setRow_ne, upd1_same, upd1_ne, upd1_le, setRow_setRow, Int.toNat_natCast, tn_0, tn_64, tn_128, tn_192, tn_256, tn_260, tn_264, tn_276, tn_280, tn_284, Int.reduceToNat, e1, c10, c11]; omega))) only [↓reduceIte, ↓e_cI, ↓e_add, ↓e_sub, ↓e_mul, ↓e_div, ↓e_rem, ↓e_max, ↓e_min, ↓e_abs, ↓e_gF, ↓e_pF, ↓e_pZ, ↓e_rd, ↓e_cP, ↓e_cW, ↓e_cV, ↓e_join, c_le_t, c_le_f, c_lt_t, c_lt_f, c_eq_t, c_eq_f, Int.toNat_natCast, set2_same, set2_np, set2_nk, setRow_same, setRow_ne, upd1_same, upd1_ne, upd1_le, setRow_setRow, Int.toNat_natCast, tn_0, tn_64, tn_128, tn_192, tn_256, tn_260, tn_264, tn_276, tn_280, tn_284, Int.reduceToNat, e1, c10, c11])
        rw [hj]
        simp only [e_join]
        exact m_low1 (k := 2) hp hv hq b2 (by omega) self (by omega)
    | 3, _ =>
      dsimp only
      rw [e_cI, b_neg (by omega)]
      refine join_gen (fun j11 hj => ?_)
      (try simp (disch := (first | omega | (simp (disch := omega) only [set2_same, set2_np, set2_nk, setRow_same, setRow_ne, upd1_same, upd1_ne, upd1_le, setRow_setRow, Int.toNat_natCast, tn_0, tn_64, tn_128, tn_192, tn_256, tn_260, tn_264, tn_276, tn_280, tn_284, Int.reduceToNat, e1, c10, c11]; omega))) only [↓reduceIte, ↓e_cI, ↓e_add, ↓e_sub, ↓e_mul, ↓e_div, ↓e_rem, ↓e_max, ↓e_min, ↓e_abs, ↓e_gF, ↓e_pF, ↓e_pZ, ↓e_rd, ↓e_cP, ↓e_cW, ↓e_cV, ↓e_join, c_le_t, c_le_f, c_lt_t, c_lt_f, c_eq_t, c_eq_f, Int.toNat_natCast, set2_same, set2_np, set2_nk, setRow_same, setRow_ne, upd1_same, upd1_ne, upd1_le, setRow_setRow, Int.toNat_natCast, tn_0, tn_64, tn_128, tn_192, tn_256, tn_260, tn_264, tn_276, tn_280, tn_284, Int.reduceToNat, e1, c10, c11])
      rw [hj]
      simp only [e_join]
      exact m_low1 (k := 3) hp hv hq b3 (by omega) self (by omega)
  · intro self
    unfold g_X9_lowestBeside_l6
    (try simp (disch := (first | omega | (simp (disch := omega) only [set2_same, set2_np, set2_nk, setRow_same, setRow_ne, upd1_same, upd1_ne, upd1_le, setRow_setRow, Int.toNat_natCast, tn_0, tn_64, tn_128, tn_192, tn_256, tn_260, tn_264, tn_276, tn_280, tn_284, Int.reduceToNat]; omega))) only [↓reduceIte, ↓e_cI, ↓e_add, ↓e_sub, ↓e_mul, ↓e_div, ↓e_rem, ↓e_max, ↓e_min, ↓e_abs, ↓e_gF, ↓e_pF, ↓e_pZ, ↓e_rd, ↓e_cP, ↓e_cW, ↓e_cV, ↓e_join, c_le_t, c_le_f, c_lt_t, c_lt_f, c_eq_t, c_eq_f, Int.toNat_natCast, set2_same, set2_np, set2_nk, setRow_same, setRow_ne, upd1_same, upd1_ne, upd1_le, setRow_setRow, Int.toNat_natCast, tn_0, tn_64, tn_128, tn_192, tn_256, tn_260, tn_264, tn_276, tn_280, tn_284, Int.reduceToNat])
theorem fu (n : Nat) (h : n < 100000) : n < FU := Nat.lt_of_lt_of_le h (by unfold FU; decide)
theorem r272 {P : Hp} {s : Nat → Int} (hv : PV P) : ∀ n, n ≤ nN P → s 272 ≤ roundP P s n 272 ∧ roundP P s n 272 ≤ s 272 + n
  | 0, _ => by simp [roundP]
  | n + 1, hn => by
    have hN := hv.n
    have h1 := r272 (s := s) hv n (by omega)
    have h2 : slideC P (roundP P s n) n 272 = roundP P s n 272 ∨ slideC P (roundP P s n) n 272 = roundP P s n 272 + 1 := by
      unfold slideC
      split
      · exact Or.inl rfl
      split
      · exact Or.inl rfl
      split
      · exact Or.inl rfl
      · exact Or.inr (by rw [upd1_same])
    show s 272 ≤ slideC P (roundP P s n) n 272 ∧ slideC P (roundP P s n) n 272 ≤ s 272 + ((n + 1 : Nat) : Int)
    omega
theorem m_round {P h : Hp} {q : Nat} {s : Nat → Int} {B T : Int} (j : Hp → Option Hp) (hp : PM P h) (hv : PV P) (hq : 120 < q) (hI : IV P B T s) (hB : B ≤ 10000) (h272 : 0 ≤ s 272 ∧ s 272 ≤ 100000) :
    loopF (g_X9_slides_l48 q j) FU (0, setRow h q s) = j (setRow h q (roundP P s (nN P))) := by
  have e1 := hp 100 (by omega)
  obtain ⟨c10, c11, a1, a2, a3, a4⟩ := hv.cr
  have hn := hv.n
  have hnn := PV.nn (P := P)
  refine loopF_for' (nN P) (fun i => ((i : Int), setRow h q (roundP P s i))) ?_ ?_ rfl (fu _ (by omega))
  · intro i hi self
    have hIi := iv_roundP hI hv i (by omega)
    have hr := r272 (s := s) hv i (by omega)
    show g_X9_slides_l48 q j self ((i : Int), setRow h q (roundP P s i)) = self (((i + 1 : Nat) : Int), setRow h q (slideC P (roundP P s i) i))
    generalize roundP P s i = t at hIi hr ⊢
    have hk1 : ((i + 1 : Nat) : Int) = (i : Int) + 1 := by omega
    have h0 := hIi.1 i hi
    have hle := hIi.le hi
    rw [hk1]
    unfold g_X9_slides_l48 slideC
    dsimp only
    by_cases b1 : t (192 + i) = 1
    · rw [if_pos b1]
      (try simp (disch := (first | omega | (simp (disch := omega) only [set2_same, set2_np, set2_nk, setRow_same, setRow_ne, upd1_same, upd1_ne, upd1_le, setRow_setRow, Int.toNat_natCast, tn_0, tn_64, tn_128, tn_192, tn_256, tn_260, tn_264, tn_276, tn_280, tn_284, Int.reduceToNat, e1, c10, c11, hnn, b1]; omega))) only [↓reduceIte, ↓e_cI, ↓e_add, ↓e_sub, ↓e_mul, ↓e_div, ↓e_rem, ↓e_max, ↓e_min, ↓e_abs, ↓e_gF, ↓e_pF, ↓e_pZ, ↓e_rd, ↓e_cP, ↓e_cW, ↓e_cV, ↓e_join, c_le_t, c_le_f, c_lt_t, c_lt_f, c_eq_t, c_eq_f, Int.toNat_natCast, set2_same, set2_np, set2_nk, setRow_same, setRow_ne, upd1_same, upd1_ne, upd1_le, setRow_setRow, Int.toNat_natCast, tn_0, tn_64, tn_128, tn_192, tn_256, tn_260, tn_264, tn_276, tn_280, tn_284, Int.reduceToNat, e1, c10, c11, hnn, b1])
    rw [if_neg b1]
    rw [e_gF, e_gF, show setRow h q t 100 10 = cN P by rw [setRow_ne _ _ _ _ (by omega), e1, c10], show setRow h q t 100 11 = rN P by rw [setRow_ne _ _ _ _ (by omega), e1, c11], e_mul _ _ _ (by omega), hnn, b_neg (by omega), e_cI, e_add _ _ _ (by omega), e_rd _ _ _ _ _ (by omega), setRow_same, tn_192, e_cI]
    refine join_gen (fun j59 hj => ?_)
    rw [b_neg b1, m_lowestBeside hp hv hq hi, e_cP, e_cI]
    by_cases b2 : lowP P t i = -1
    · rw [if_pos b2, b_pos b2, hj]
      (try simp (disch := (first | omega | (simp (disch := omega) only [set2_same, set2_np, set2_nk, setRow_same, setRow_ne, upd1_same, upd1_ne, upd1_le, setRow_setRow, Int.toNat_natCast, tn_0, tn_64, tn_128, tn_192, tn_256, tn_260, tn_264, tn_276, tn_280, tn_284, Int.reduceToNat]; omega))) only [↓reduceIte, ↓e_cI, ↓e_add, ↓e_sub, ↓e_mul, ↓e_div, ↓e_rem, ↓e_max, ↓e_min, ↓e_abs, ↓e_gF, ↓e_pF, ↓e_pZ, ↓e_rd, ↓e_cP, ↓e_cW, ↓e_cV, ↓e_join, c_le_t, c_le_f, c_lt_t, c_lt_f, c_eq_t, c_eq_f, Int.toNat_natCast, set2_same, set2_np, set2_nk, setRow_same, setRow_ne, upd1_same, upd1_ne, upd1_le, setRow_setRow, Int.toNat_natCast, tn_0, tn_64, tn_128, tn_192, tn_256, tn_260, tn_264, tn_276, tn_280, tn_284, Int.reduceToNat])
    rw [if_neg b2, b_neg b2]
    rcases lowP_spec (s := t) (c := i) hv with z | ⟨q1, q2, q3, q4⟩
    · exact absurd z b2
    obtain ⟨o, ho⟩ := Int.eq_ofNat_of_zero_le q1
    rw [ho] at q2 q3 q4 ⊢
    have ho0 := hIi.1 o (by omega)
    have hol := hIi.le (c := o) (by omega)
    have hhp := holdsP_pos hv h0.2.1 h0.2.2.1
    simp only [Int.toNat_natCast]
    rw [e_cI, e_add _ _ _ (by omega), e_rd _ _ _ _ _ (by omega), setRow_same, tn_0, e_cI, e_add _ _ _ (by omega), e_rd _ _ _ _ _ (by omega), setRow_same, tn_0, e_sub _ _ _ (by omega), e_cI, e_add _ _ _ (by omega), e_rd _ _ _ _ _ (by omega), setRow_same, tn_64, e_cI, e_add _ _ _ (by omega), e_rd _ _ _ _ _ (by omega), setRow_same, tn_128, m_holdsOf (hp.row hq) hv h0.2.1 h0.2.2.1, e_cP]
    by_cases b3 : t i - t o ≤ holdsP P (t (64 + i)) (t (128 + i))
    · rw [if_pos b3, b_neg (by omega), hj]
      (try simp (disch := (first | omega | (simp (disch := omega) only [set2_same, set2_np, set2_nk, setRow_same, setRow_ne, upd1_same, upd1_ne, upd1_le, setRow_setRow, Int.toNat_natCast, tn_0, tn_64, tn_128, tn_192, tn_256, tn_260, tn_264, tn_276, tn_280, tn_284, Int.reduceToNat]; omega))) only [↓reduceIte, ↓e_cI, ↓e_add, ↓e_sub, ↓e_mul, ↓e_div, ↓e_rem, ↓e_max, ↓e_min, ↓e_abs, ↓e_gF, ↓e_pF, ↓e_pZ, ↓e_rd, ↓e_cP, ↓e_cW, ↓e_cV, ↓e_join, c_le_t, c_le_f, c_lt_t, c_lt_f, c_eq_t, c_eq_f, Int.toNat_natCast, set2_same, set2_np, set2_nk, setRow_same, setRow_ne, upd1_same, upd1_ne, upd1_le, setRow_setRow, Int.toNat_natCast, tn_0, tn_64, tn_128, tn_192, tn_256, tn_260, tn_264, tn_276, tn_280, tn_284, Int.reduceToNat])
    rw [if_neg b3, b_pos (by omega), m_unitGoes (by omega) (by omega) (by omega) ⟨h0.1, by omega⟩ ⟨ho0.1, by omega⟩ h0.2.1 ho0.2.1, e_cV, e_cI, e_rd _ _ _ _ _ (by omega), setRow_same]
    have e272 : unitP t i o 272 = t 272 := unitP_far (by omega) (by omega) (by omega) (by omega)
    simp only [Int.reduceToNat]
    rw [e272, e_cI, e_add _ _ _ (by omega)]
    refine w_row (by first | omega | (simp (disch := omega) only [set2_same, set2_np, set2_nk, setRow_same, setRow_ne, upd1_same, upd1_ne, upd1_le, setRow_setRow, Int.toNat_natCast, tn_0, tn_64, tn_128, tn_192, tn_256, tn_260, tn_264, tn_276, tn_280, tn_284, Int.reduceToNat]; omega)) (fun s1 es => ?_)
    rw [hj, es]
    (try simp (disch := (first | omega | (simp (disch := omega) only [set2_same, set2_np, set2_nk, setRow_same, setRow_ne, upd1_same, upd1_ne, upd1_le, setRow_setRow, Int.toNat_natCast, tn_0, tn_64, tn_128, tn_192, tn_256, tn_260, tn_264, tn_276, tn_280, tn_284, Int.reduceToNat]; omega))) only [↓reduceIte, ↓e_cI, ↓e_add, ↓e_sub, ↓e_mul, ↓e_div, ↓e_rem, ↓e_max, ↓e_min, ↓e_abs, ↓e_gF, ↓e_pF, ↓e_pZ, ↓e_rd, ↓e_cP, ↓e_cW, ↓e_cV, ↓e_join, c_le_t, c_le_f, c_lt_t, c_lt_f, c_eq_t, c_eq_f, Int.toNat_natCast, set2_same, set2_np, set2_nk, setRow_same, setRow_ne, upd1_same, upd1_ne, upd1_le, setRow_setRow, Int.toNat_natCast, tn_0, tn_64, tn_128, tn_192, tn_256, tn_260, tn_264, tn_276, tn_280, tn_284, Int.reduceToNat])
  · intro self
    unfold g_X9_slides_l48
    (try simp (disch := (first | omega | (simp (disch := omega) only [set2_same, set2_np, set2_nk, setRow_same, setRow_ne, upd1_same, upd1_ne, upd1_le, setRow_setRow, Int.toNat_natCast, tn_0, tn_64, tn_128, tn_192, tn_256, tn_260, tn_264, tn_276, tn_280, tn_284, Int.reduceToNat, e1, c10, c11, hnn]; omega))) only [↓reduceIte, ↓e_cI, ↓e_add, ↓e_sub, ↓e_mul, ↓e_div, ↓e_rem, ↓e_max, ↓e_min, ↓e_abs, ↓e_gF, ↓e_pF, ↓e_pZ, ↓e_rd, ↓e_cP, ↓e_cW, ↓e_cV, ↓e_join, c_le_t, c_le_f, c_lt_t, c_lt_f, c_eq_t, c_eq_f, Int.toNat_natCast, set2_same, set2_np, set2_nk, setRow_same, setRow_ne, upd1_same, upd1_ne, upd1_le, setRow_setRow, Int.toNat_natCast, tn_0, tn_64, tn_128, tn_192, tn_256, tn_260, tn_264, tn_276, tn_280, tn_284, Int.reduceToNat, e1, c10, c11, hnn])
theorem m_rounds {P h : Hp} {q : Nat} {B T : Int} (j : Hp → Option Hp) (hp : PM P h) (hv : PV P) (hq : 120 < q) (hB : B ≤ 10000) : ∀ (n : Nat) (k : Nat) (s : Nat → Int), k ≤ 50 → 50 - k < n → IV P B T s → (0 ≤ s 272 ∧ s 272 ≤ 64 * k) → (0 ≤ s 273 ∧ s 273 ≤ k) →
    loopF (g_X9_slides_l19 q j) n (1, (k : Int), setRow h q s) = j (setRow h q (roundsP P (50 - k) s))
  | 0, k, s, hk, hn, hI, h2, h3 => by omega
  | n + 1, k, s, hk, hn, hI, h2, h3 => by
    show g_X9_slides_l19 q j (loopF (g_X9_slides_l19 q j) n) (1, (k : Int), setRow h q s) = _
    have hN := hv.n
    generalize hself : loopF (g_X9_slides_l19 q j) n = self
    unfold g_X9_slides_l19
    dsimp only
    by_cases hk50 : k = 50
    · subst hk50
      (try simp (disch := (first | omega | (simp (disch := omega) only [set2_same, set2_np, set2_nk, setRow_same, setRow_ne, upd1_same, upd1_ne, upd1_le, setRow_setRow, Int.toNat_natCast, tn_0, tn_64, tn_128, tn_192, tn_256, tn_260, tn_264, tn_276, tn_280, tn_284, Int.reduceToNat]; omega))) only [↓reduceIte, ↓e_cI, ↓e_add, ↓e_sub, ↓e_mul, ↓e_div, ↓e_rem, ↓e_max, ↓e_min, ↓e_abs, ↓e_gF, ↓e_pF, ↓e_pZ, ↓e_rd, ↓e_cP, ↓e_cW, ↓e_cV, ↓e_join, c_le_t, c_le_f, c_lt_t, c_lt_f, c_eq_t, c_eq_f, Int.toNat_natCast, set2_same, set2_np, set2_nk, setRow_same, setRow_ne, upd1_same, upd1_ne, upd1_le, setRow_setRow, Int.toNat_natCast, tn_0, tn_64, tn_128, tn_192, tn_256, tn_260, tn_264, tn_276, tn_280, tn_284, Int.reduceToNat])
      rfl
    obtain ⟨m, hm⟩ : ∃ m, 50 - k = m + 1 := ⟨50 - k - 1, by omega⟩
    rw [hm]
    rw [e_cI, b_neg (by omega), b_neg (by omega), e_cI, e_rd _ _ _ _ _ (by omega), setRow_same, e_cI]
    refine join_gen (fun j28 hj28 => ?_)
    rw [m_round j28 hp hv hq hI hB (by omega), hj28]
    have hI1 := iv_roundP hI hv (nN P) (Nat.le_refl _)
    have hr := r272 (s := s) hv (nN P) (Nat.le_refl _)
    have e273 : roundP P s (nN P) 273 = s 273 := by
      have : ∀ n, n ≤ nN P → roundP P s n 273 = s 273 := by
        intro n
        induction n with
        | zero => intro _; rfl
        | succ n ih =>
          intro hn
          have i1 := ih (by omega)
          show slideC P (roundP P s n) n 273 = s 273
          unfold slideC
          split
          · exact i1
          split
          · exact i1
          split
          · exact i1
          next h5 h6 h7 =>
            rcases lowP_spec (s := roundP P s n) (c := n) hv with z | ⟨q1, q2, q3, q4⟩
            · exact absurd z h6
            rw [upd1_ne _ _ _ _ (by omega), unitP_far (by omega) (by omega) (by omega) (by omega)]
            exact i1
      exact this _ (Nat.le_refl _)
    show _ = j (setRow h q (if s 272 < roundP P s (nN P) 272 then roundsP P m (upd1 (roundP P s (nN P)) 273 (roundP P s (nN P) 273 + 1)) else roundP P s (nN P)))
    generalize hu : roundP P s (nN P) = u at hI1 hr e273 ⊢
    rw [e_cI, e_rd _ _ _ _ _ (by omega), setRow_same]
    simp only [Int.reduceToNat]
    refine join_gen (fun j33 hj33 => ?_)
    by_cases hmv : s 272 < u 272
    · rw [if_pos hmv, b_neg (by omega), e_cI, hj33, e_cI, e_rd _ _ _ _ _ (by omega), setRow_same]
      refine join_gen (fun j38 hj38 => ?_)
      rw [b_neg (by omega), e_cI, hj38]
      simp only [Int.reduceToNat]
      rw [e_add _ _ _ (by omega)]
      refine w_row (by first | omega | (simp (disch := omega) only [set2_same, set2_np, set2_nk, setRow_same, setRow_ne, upd1_same, upd1_ne, upd1_le, setRow_setRow, Int.toNat_natCast, tn_0, tn_64, tn_128, tn_192, tn_256, tn_260, tn_264, tn_276, tn_280, tn_284, Int.reduceToNat]; omega)) (fun s1 es => ?_)
      rw [e_add _ _ _ (by omega)]
      have := m_rounds j hp hv hq hB n (k + 1) s1 (by omega) (by omega) (by rw [es]; exact hI1.side hv (by omega)) (by rw [es]; simp (disch := omega) only [set2_same, set2_np, set2_nk, setRow_same, setRow_ne, upd1_same, upd1_ne, upd1_le, setRow_setRow, Int.toNat_natCast, tn_0, tn_64, tn_128, tn_192, tn_256, tn_260, tn_264, tn_276, tn_280, tn_284, Int.reduceToNat]; omega) (by rw [es]; simp (disch := omega) only [set2_same, set2_np, set2_nk, setRow_same, setRow_ne, upd1_same, upd1_ne, upd1_le, setRow_setRow, Int.toNat_natCast, tn_0, tn_64, tn_128, tn_192, tn_256, tn_260, tn_264, tn_276, tn_280, tn_284, Int.reduceToNat]; omega)
      rw [show ((k + 1 : Nat) : Int) = (k : Int) + 1 by omega] at this
      rw [← hself, this, show 50 - (k + 1) = m by omega, es]
      rfl
    · rw [if_neg hmv, b_pos (by omega), e_cI, hj33, e_cI, e_rd _ _ _ _ _ (by omega), setRow_same]
      refine join_gen (fun j38 hj38 => ?_)
      rw [b_pos rfl, e_cI, hj38]
      simp only [Int.reduceToNat]
      rw [e_add _ _ _ (by omega)]
      refine w_row (by first | omega | (simp (disch := omega) only [set2_same, set2_np, set2_nk, setRow_same, setRow_ne, upd1_same, upd1_ne, upd1_le, setRow_setRow, Int.toNat_natCast, tn_0, tn_64, tn_128, tn_192, tn_256, tn_260, tn_264, tn_276, tn_280, tn_284, Int.reduceToNat]; omega)) (fun s1 es => ?_)
      rw [e_add _ _ _ (by omega)]
      have es1 : s1 = u := by
        rw [es]; funext i; unfold upd1
        split
        next h9 => simp only [Int.reduceToNat] at h9; rw [h9]; omega
        next => rfl
      rw [es1, ← hself]
      cases n with
      | zero => omega
      | succ n =>
        show g_X9_slides_l19 q j (loopF (g_X9_slides_l19 q j) n) (0, (k : Int) + 1, setRow h q u) = _
        generalize loopF (g_X9_slides_l19 q j) n = self
        unfold g_X9_slides_l19
        dsimp only
        rw [e_cI]
        by_cases h50 : (50 : Int) ≤ (k : Int) + 1
        · rw [b_pos h50]
        · rw [b_neg h50, b_pos rfl]
theorem m_slides {P h : Hp} {q : Nat} {s : Nat → Int} {B T : Int} (hp : PM P h) (hv : PV P) (hq : 120 < q) (hI : IV P B T s) (hB : B ≤ 10000) :
    g_X9_slides q (setRow h q s) = some (setRow h q (slidesP P s)) := by
  unfold g_X9_slides
  rw [e_cI, e_cI]
  refine w_row (by first | omega | (simp (disch := omega) only [set2_same, set2_np, set2_nk, setRow_same, setRow_ne, upd1_same, upd1_ne, upd1_le, setRow_setRow, Int.toNat_natCast, tn_0, tn_64, tn_128, tn_192, tn_256, tn_260, tn_264, tn_276, tn_280, tn_284, Int.reduceToNat]; omega)) (fun s1 e1 => ?_)
  rw [e_cI, e_cI]
  refine w_row (by first | omega | (simp (disch := omega) only [set2_same, set2_np, set2_nk, setRow_same, setRow_ne, upd1_same, upd1_ne, upd1_le, setRow_setRow, Int.toNat_natCast, tn_0, tn_64, tn_128, tn_192, tn_256, tn_260, tn_264, tn_276, tn_280, tn_284, Int.reduceToNat]; omega)) (fun s2 e2 => ?_)
  rw [e_cI, e_cI]
  refine join_gen (fun j10 hj => ?_)
  simp only [Int.reduceToNat] at e1 e2
  have hI2 : IV P B T s2 := by rw [e2, e1]; exact (hI.side hv (by omega)).side hv (by omega)
  have := m_rounds j10 hp hv hq hB FU 0 s2 (by omega) (fu _ (by omega)) hI2 (by rw [e2, e1]; simp (disch := omega) only [set2_same, set2_np, set2_nk, setRow_same, setRow_ne, upd1_same, upd1_ne, upd1_le, setRow_setRow, Int.toNat_natCast, tn_0, tn_64, tn_128, tn_192, tn_256, tn_260, tn_264, tn_276, tn_280, tn_284, Int.reduceToNat]; omega) (by rw [e2, e1]; simp (disch := omega) only [set2_same, set2_np, set2_nk, setRow_same, setRow_ne, upd1_same, upd1_ne, upd1_le, setRow_setRow, Int.toNat_natCast, tn_0, tn_64, tn_128, tn_192, tn_256, tn_260, tn_264, tn_276, tn_280, tn_284, Int.reduceToNat]; omega)
  rw [show ((0 : Nat) : Int) = 0 from rfl] at this
  rw [this, hj, show 50 - 0 = 50 from rfl]
  unfold slidesP
  rw [e1] at e2
  rw [← e2]
  generalize roundsP P 50 s2 = u
  rw [e_cI, e_rd _ _ _ _ _ (by omega), setRow_same, e_cI, e_rd _ _ _ _ _ (by omega), setRow_same, e_addw]
  simp only [Int.reduceToNat]
  refine w_row (by first | omega | (simp (disch := omega) only [set2_same, set2_np, set2_nk, setRow_same, setRow_ne, upd1_same, upd1_ne, upd1_le, setRow_setRow, Int.toNat_natCast, tn_0, tn_64, tn_128, tn_192, tn_256, tn_260, tn_264, tn_276, tn_280, tn_284, Int.reduceToNat]; omega)) (fun s3 e3 => ?_)
  rw [e3]
  rfl
theorem m_flagsFall {P h : Hp} {q : Nat} {s : Nat → Int} {B T : Int} (hp : PM P h) (hv : PV P) (hq : 120 < q) (hI : IV P B T s) (hB : B ≤ 10000) (hT : T ≤ 1000000) :
    g_X9_flagsFall q (setRow h q s) = some (setRow h q (flagsP P s (s 268).toNat)) := by
  have e2 := hp 102 (by omega)
  have hN := hv.n
  have h268 := hI.2.2.1.2.1
  have hfall := hv.2.2.2.2.2.2.1
  have key : ∀ n, n ≤ 4 → flagsP P s n 268 = s 268 := by
    intro n
    induction n with
    | zero => intro _; rfl
    | succ n ih =>
      intro hn
      have i1 := ih (by omega)
      show flagP P (flagsP P s n) n 268 = s 268
      unfold flagP
      split
      · split
        · rw [upd1_ne _ _ _ _ (by omega)]; exact i1
        · exact i1
      · exact i1
  unfold g_X9_flagsFall
  rw [e_cI]
  refine loopF_for' (s 268).toNat (fun i => ((i : Int), setRow h q (flagsP P s i))) ?_ ?_ rfl (fu _ (by omega))
  · intro i hi self
    have hIi := iv_flagsP hI hv i (by omega)
    have hk := key i (by omega)
    show g_X9_flagsFall_l3 q self ((i : Int), setRow h q (flagsP P s i)) = self (((i + 1 : Nat) : Int), setRow h q (flagP P (flagsP P s i) i))
    generalize flagsP P s i = t at hIi hk ⊢
    have hF := hIi.2.2.1.2.2 i (by omega)
    rw [show ((i + 1 : Nat) : Int) = (i : Int) + 1 by omega]
    unfold g_X9_flagsFall_l3 flagP
    dsimp only
    rw [e_cI, e_rd _ _ _ _ _ (by omega), setRow_same]
    simp only [Int.reduceToNat]
    rw [b_neg (by omega), e_cI, e_add _ _ _ (by omega), e_rd _ _ _ _ _ (by omega), setRow_same, tn_264, e_cI]
    refine join_gen (fun j13 hj => ?_)
    by_cases b1 : t (264 + i) = -1
    · rw [if_pos b1, b_pos b1]
      obtain ⟨c, hc⟩ := Int.eq_ofNat_of_zero_le hF.1.1
      have hcl : c < nN P := by omega
      have hcB := hIi.le hcl
      have hc0 := hIi.nn hcl
      rw [e_cI, e_cI, e_add _ _ _ (by omega), e_rd _ _ _ _ _ (by omega), setRow_same, tn_256, hc, e_add _ _ _ (by omega), e_rd _ _ _ _ _ (by omega), setRow_same, tn_0, e_cI, e_add _ _ _ (by omega), e_rd _ _ _ _ _ (by omega), setRow_same, tn_260, e_cI, e_rd _ _ _ _ _ (by omega), setRow_ne _ _ _ _ (by omega), e2]
      simp only [Int.reduceToNat, Int.toNat_natCast]
      rw [e_sub _ _ _ (by omega)]
      by_cases b2 : t c < t (260 + i) - P 102 4
      · rw [if_pos b2, b_neg (by omega), e_cI, e_add _ _ _ (by omega), e_cI, e_rd _ _ _ _ _ (by omega), setRow_same]
        simp only [Int.reduceToNat]
        refine w_row (by first | omega | (simp (disch := omega) only [set2_same, set2_np, set2_nk, setRow_same, setRow_ne, upd1_same, upd1_ne, upd1_le, setRow_setRow, Int.toNat_natCast, tn_0, tn_64, tn_128, tn_192, tn_256, tn_260, tn_264, tn_276, tn_280, tn_284, Int.reduceToNat]; omega)) (fun s1 es => ?_)
        rw [hj, es, tn_264]
        (try simp (disch := (first | omega | (simp (disch := omega) only [set2_same, set2_np, set2_nk, setRow_same, setRow_ne, upd1_same, upd1_ne, upd1_le, setRow_setRow, Int.toNat_natCast, tn_0, tn_64, tn_128, tn_192, tn_256, tn_260, tn_264, tn_276, tn_280, tn_284, Int.reduceToNat]; omega))) only [↓reduceIte, ↓e_cI, ↓e_add, ↓e_sub, ↓e_mul, ↓e_div, ↓e_rem, ↓e_max, ↓e_min, ↓e_abs, ↓e_gF, ↓e_pF, ↓e_pZ, ↓e_rd, ↓e_cP, ↓e_cW, ↓e_cV, ↓e_join, c_le_t, c_le_f, c_lt_t, c_lt_f, c_eq_t, c_eq_f, Int.toNat_natCast, set2_same, set2_np, set2_nk, setRow_same, setRow_ne, upd1_same, upd1_ne, upd1_le, setRow_setRow, Int.toNat_natCast, tn_0, tn_64, tn_128, tn_192, tn_256, tn_260, tn_264, tn_276, tn_280, tn_284, Int.reduceToNat])
      · rw [if_neg b2, b_pos (by omega), hj]
        (try simp (disch := (first | omega | (simp (disch := omega) only [set2_same, set2_np, set2_nk, setRow_same, setRow_ne, upd1_same, upd1_ne, upd1_le, setRow_setRow, Int.toNat_natCast, tn_0, tn_64, tn_128, tn_192, tn_256, tn_260, tn_264, tn_276, tn_280, tn_284, Int.reduceToNat]; omega))) only [↓reduceIte, ↓e_cI, ↓e_add, ↓e_sub, ↓e_mul, ↓e_div, ↓e_rem, ↓e_max, ↓e_min, ↓e_abs, ↓e_gF, ↓e_pF, ↓e_pZ, ↓e_rd, ↓e_cP, ↓e_cW, ↓e_cV, ↓e_join, c_le_t, c_le_f, c_lt_t, c_lt_f, c_eq_t, c_eq_f, Int.toNat_natCast, set2_same, set2_np, set2_nk, setRow_same, setRow_ne, upd1_same, upd1_ne, upd1_le, setRow_setRow, Int.toNat_natCast, tn_0, tn_64, tn_128, tn_192, tn_256, tn_260, tn_264, tn_276, tn_280, tn_284, Int.reduceToNat])
    · rw [if_neg b1, b_neg b1, hj]
      (try simp (disch := (first | omega | (simp (disch := omega) only [set2_same, set2_np, set2_nk, setRow_same, setRow_ne, upd1_same, upd1_ne, upd1_le, setRow_setRow, Int.toNat_natCast, tn_0, tn_64, tn_128, tn_192, tn_256, tn_260, tn_264, tn_276, tn_280, tn_284, Int.reduceToNat]; omega))) only [↓reduceIte, ↓e_cI, ↓e_add, ↓e_sub, ↓e_mul, ↓e_div, ↓e_rem, ↓e_max, ↓e_min, ↓e_abs, ↓e_gF, ↓e_pF, ↓e_pZ, ↓e_rd, ↓e_cP, ↓e_cW, ↓e_cV, ↓e_join, c_le_t, c_le_f, c_lt_t, c_lt_f, c_eq_t, c_eq_f, Int.toNat_natCast, set2_same, set2_np, set2_nk, setRow_same, setRow_ne, upd1_same, upd1_ne, upd1_le, setRow_setRow, Int.toNat_natCast, tn_0, tn_64, tn_128, tn_192, tn_256, tn_260, tn_264, tn_276, tn_280, tn_284, Int.reduceToNat])
  · intro self
    have hk := key (s 268).toNat (by omega)
    unfold g_X9_flagsFall_l3
    dsimp only
    rw [e_cI, e_rd _ _ _ _ _ (by omega), setRow_same]
    simp only [Int.reduceToNat]
    rw [b_pos (by omega)]
theorem m_sun {P h : Hp} {q : Nat} {s : Nat → Int} {B T : Int} (hp : PM P h) (hv : PV P) (hq : 120 < q) (hI : IV P B T s) (hB : B ≤ 10000) (hT : T ≤ 1000000) :
    g_X9_sun q (setRow h q s) = some (setRow h q (sunP P s)) := by
  have e1 := hp 100 (by omega)
  have e2 := hp 102 (by omega)
  obtain ⟨c10, c11, a1, a2, a3, a4⟩ := hv.cr
  have hN := hv.n
  have hnn := PV.nn (P := P)
  have hcn := cN_le hv
  have hdry := hv.2.2.2.2.1
  have h270 := hI.2.2.1.1
  unfold g_X9_sun sunP
  rw [e_cI, e_rd _ _ _ _ _ (by omega), setRow_same, e_cI]
  simp only [Int.reduceToNat]
  rw [e_add _ _ _ (by omega), e_cI, e_rd _ _ _ _ _ (by omega), setRow_ne _ _ _ _ (by omega), e2]
  simp only [Int.reduceToNat]
  rw [e_rem _ _ _ (by omega)]
  by_cases b0 : (s 270 + 1) % P 102 2 = 0
  · rw [if_pos b0, b_pos b0, e_gF, setRow_ne _ _ _ _ (by omega), e1, c10]
    refine loopF_for' (nN P - cN P) (fun i => (((cN P + i : Nat) : Int), setRow h q (dryP s (cN P) i))) ?_ ?_ rfl (fu _ (by omega))
    · intro i hi self
      have hIi := iv_dryP (a := cN P) hI hv i (by omega)
      show g_X9_sun_l10 q self (((cN P + i : Nat) : Int), setRow h q (dryP s (cN P) i)) = self (((cN P + (i + 1) : Nat) : Int), setRow h q (dryC (dryP s (cN P) i) (cN P + i)))
      generalize dryP s (cN P) i = t at hIi ⊢
      generalize hc : cN P + i = c
      rw [show ((cN P + (i + 1) : Nat) : Int) = (c : Int) + 1 by omega]
      have h0 := hIi.1 c (by omega)
      unfold g_X9_sun_l10 dryC
      dsimp only
      rw [e_gF, e_gF, setRow_ne _ _ _ _ (by omega), e1, c10, c11, e_mul _ _ _ (by omega), hnn, b_neg (by omega), e_cI, e_add _ _ _ (by omega), e_cI, e_cI, e_add _ _ _ (by omega), e_rd _ _ _ _ _ (by omega), setRow_same, tn_64, e_cI, e_add _ _ _ (by omega), e_rd _ _ _ _ _ (by omega), setRow_same, tn_0, e_cI]
      refine join_gen (fun j27 hj => ?_)
      by_cases b1 : 10 ≤ t c
      · rw [b_neg (by omega), e_cI, hj, e_sub _ _ _ (by omega), e_max]
        refine w_row (by first | omega | (simp (disch := omega) only [set2_same, set2_np, set2_nk, setRow_same, setRow_ne, upd1_same, upd1_ne, upd1_le, setRow_setRow, Int.toNat_natCast, tn_0, tn_64, tn_128, tn_192, tn_256, tn_260, tn_264, tn_276, tn_280, tn_284, Int.reduceToNat]; omega)) (fun s1 es => ?_)
        rw [e_add _ _ _ (by omega), es, tn_64, if_pos b1]
      · rw [b_pos (by omega), e_cI, hj, e_sub _ _ _ (by omega), e_max]
        refine w_row (by first | omega | (simp (disch := omega) only [set2_same, set2_np, set2_nk, setRow_same, setRow_ne, upd1_same, upd1_ne, upd1_le, setRow_setRow, Int.toNat_natCast, tn_0, tn_64, tn_128, tn_192, tn_256, tn_260, tn_264, tn_276, tn_280, tn_284, Int.reduceToNat]; omega)) (fun s1 es => ?_)
        rw [e_add _ _ _ (by omega), es, tn_64, if_neg b1]
    · intro self
      unfold g_X9_sun_l10
      dsimp only
      rw [e_gF, e_gF, setRow_ne _ _ _ _ (by omega), e1, c10, c11, e_mul _ _ _ (by omega), hnn, b_pos (by omega)]
  · rw [if_neg b0, b_neg b0]
