/-! THE MODEL'S MINUTES do what the specification says -/
def PM (P h : Hp) : Prop := ∀ p, 100 ≤ p ∧ p ≤ 120 → h p = P p
theorem PM.row {P h : Hp} {q : Nat} {s : Nat → Int} (hp : PM P h) (hq : 120 < q) : PM P (setRow h q s) := fun p hr => by rw [setRow_ne h q s p (by omega)]; exact hp p hr
theorem strP_le {P : Hp} (hv : PV P) {w : Int} (hw : 0 ≤ w ∧ w ≤ 16) : 0 ≤ strP P w ∧ strP P w ≤ 20 := by
  obtain ⟨-, -, -, -, -, -, -, -, h6, h7, h8, -⟩ := hv
  unfold strP
  split
  · omega
  split
  · omega
  have hm : 0 ≤ P 102 8 * (if 0 ≤ w - P 102 6 then w - P 102 6 else 0 - (w - P 102 6)) := Int.mul_nonneg h8.1 (by split <;> omega)
  generalize P 102 8 * (if 0 ≤ w - P 102 6 then w - P 102 6 else 0 - (w - P 102 6)) = X at *
  split <;> omega
theorem m_strength {P h : Hp} (hp : PM P h) (hv : PV P) {w : Int} (hw : 0 ≤ w ∧ w ≤ 16) : g_X9_strength w h = some (strP P w) := by
  have e2 := hp 102 (by omega)
  obtain ⟨-, -, -, -, -, -, -, -, h6, h7, h8, -⟩ := hv
  unfold g_X9_strength strP
  simp only [e_join, e_cI]
  by_cases h0 : w = 0
  · rw [if_pos h0, if_pos h0]
  rw [if_neg h0, if_neg h0]
  by_cases h1 : w = 16
  · rw [if_pos h1, if_pos h1]
  rw [if_neg h1, if_neg h1]
  have ha : 0 ≤ (if 0 ≤ w - P 102 6 then w - P 102 6 else 0 - (w - P 102 6)) ∧ (if 0 ≤ w - P 102 6 then w - P 102 6 else 0 - (w - P 102 6)) ≤ 16 := by split <;> omega
  have hm : 0 ≤ P 102 8 * (if 0 ≤ w - P 102 6 then w - P 102 6 else 0 - (w - P 102 6)) := Int.mul_nonneg h8.1 ha.1
  have hm2 : P 102 8 * (if 0 ≤ w - P 102 6 then w - P 102 6 else 0 - (w - P 102 6)) ≤ 9 * 16 := Int.mul_le_mul h8.2 ha.2 ha.1 (by omega)
  (try simp (disch := (first | omega | (simp (disch := omega) only [set2_same, set2_np, set2_nk, setRow_same, setRow_ne, upd1_same, upd1_ne, upd1_le, setRow_setRow, Int.toNat_natCast, tn_0, tn_64, tn_128, tn_192, tn_256, tn_260, tn_264, tn_276, tn_280, tn_284, Int.reduceToNat, e2]; omega))) only [↓reduceIte, ↓e_cI, ↓e_add, ↓e_sub, ↓e_mul, ↓e_div, ↓e_rem, ↓e_max, ↓e_min, ↓e_abs, ↓e_gF, ↓e_pF, ↓e_pZ, ↓e_rd, ↓e_wrR, ↓e_cP, ↓e_cW, ↓e_cV, ↓e_join, c_le_t, c_le_f, c_lt_t, c_lt_f, c_eq_t, c_eq_f, Int.toNat_natCast, set2_same, set2_np, set2_nk, setRow_same, setRow_ne, upd1_same, upd1_ne, upd1_le, setRow_setRow, Int.toNat_natCast, tn_0, tn_64, tn_128, tn_192, tn_256, tn_260, tn_264, tn_276, tn_280, tn_284, Int.reduceToNat, e2])
theorem m_holdsOf {P h : Hp} (hp : PM P h) (hv : PV P) {w p : Int} (hw : 0 ≤ w ∧ w ≤ 16) (hk : 0 ≤ p ∧ p ≤ 4) : g_X9_holdsOf w p h = some (holdsP P w p) := by
  have e2 := hp 102 (by omega)
  have hs := strP_le hv hw
  have h1 := hv.2.2.2.1
  unfold g_X9_holdsOf holdsP
  rw [m_strength hp hv hw]
  have hm : 0 ≤ P 102 1 * p := Int.mul_nonneg h1.1 hk.1
  have hm2 : P 102 1 * p ≤ 5 * 4 := Int.mul_le_mul h1.2 hk.2 hk.1 (by omega)
  (try simp (disch := (first | omega | (simp (disch := omega) only [set2_same, set2_np, set2_nk, setRow_same, setRow_ne, upd1_same, upd1_ne, upd1_le, setRow_setRow, Int.toNat_natCast, tn_0, tn_64, tn_128, tn_192, tn_256, tn_260, tn_264, tn_276, tn_280, tn_284, Int.reduceToNat, e2]; omega))) only [↓reduceIte, ↓e_cI, ↓e_add, ↓e_sub, ↓e_mul, ↓e_div, ↓e_rem, ↓e_max, ↓e_min, ↓e_abs, ↓e_gF, ↓e_pF, ↓e_pZ, ↓e_rd, ↓e_wrR, ↓e_cP, ↓e_cW, ↓e_cV, ↓e_join, c_le_t, c_le_f, c_lt_t, c_lt_f, c_eq_t, c_eq_f, Int.toNat_natCast, set2_same, set2_np, set2_nk, setRow_same, setRow_ne, upd1_same, upd1_ne, upd1_le, setRow_setRow, Int.toNat_natCast, tn_0, tn_64, tn_128, tn_192, tn_256, tn_260, tn_264, tn_276, tn_280, tn_284, Int.reduceToNat, e2])
theorem m_unitGoes {h : Hp} {q a b : Nat} {s : Nat → Int} (hab : a ≠ b) (ha : a < 64) (hb : b < 64) (h1 : 0 ≤ s a ∧ s a ≤ 10000) (h2 : 0 ≤ s b ∧ s b ≤ 10000) (h3 : 0 ≤ s (64 + a) ∧ s (64 + a) ≤ 16) (h4 : 0 ≤ s (64 + b) ∧ s (64 + b) ≤ 16) :
    g_X9_unitGoes q a b (setRow h q s) = some (setRow h q (unitP s a b)) := by
  have hm : 0 ≤ s (64 + b) * s b := Int.mul_nonneg h4.1 h2.1
  have hm2 : s (64 + b) * s b ≤ 16 * 10000 := Int.mul_le_mul h4.2 h2.2 h2.1 (by omega)
  unfold g_X9_unitGoes
  (try simp (disch := (first | omega | (simp (disch := omega) only [set2_same, set2_np, set2_nk, setRow_same, setRow_ne, upd1_same, upd1_ne, upd1_le, setRow_setRow, Int.toNat_natCast, tn_0, tn_64, tn_128, tn_192, tn_256, tn_260, tn_264, tn_276, tn_280, tn_284, Int.reduceToNat]; omega))) only [↓reduceIte, ↓e_cI, ↓e_add, ↓e_sub, ↓e_mul, ↓e_div, ↓e_rem, ↓e_max, ↓e_min, ↓e_abs, ↓e_gF, ↓e_pF, ↓e_pZ, ↓e_rd, ↓e_cP, ↓e_cW, ↓e_cV, ↓e_join, c_le_t, c_le_f, c_lt_t, c_lt_f, c_eq_t, c_eq_f, Int.toNat_natCast, set2_same, set2_np, set2_nk, setRow_same, setRow_ne, upd1_same, upd1_ne, upd1_le, setRow_setRow, Int.toNat_natCast, tn_0, tn_64, tn_128, tn_192, tn_256, tn_260, tn_264, tn_276, tn_280, tn_284, Int.reduceToNat])
  refine w_row (by first | omega | (simp (disch := omega) only [set2_same, set2_np, set2_nk, setRow_same, setRow_ne, upd1_same, upd1_ne, upd1_le, setRow_setRow, Int.toNat_natCast, tn_0, tn_64, tn_128, tn_192, tn_256, tn_260, tn_264, tn_276, tn_280, tn_284, Int.reduceToNat]; omega)) (fun s1 e1 => ?_)

  (try simp (disch := (first | omega | (simp (disch := omega) only [set2_same, set2_np, set2_nk, setRow_same, setRow_ne, upd1_same, upd1_ne, upd1_le, setRow_setRow, Int.toNat_natCast, tn_0, tn_64, tn_128, tn_192, tn_256, tn_260, tn_264, tn_276, tn_280, tn_284, Int.reduceToNat, e1]; omega))) only [↓reduceIte, ↓e_cI, ↓e_add, ↓e_sub, ↓e_mul, ↓e_div, ↓e_rem, ↓e_max, ↓e_min, ↓e_abs, ↓e_gF, ↓e_pF, ↓e_pZ, ↓e_rd, ↓e_cP, ↓e_cW, ↓e_cV, ↓e_join, c_le_t, c_le_f, c_lt_t, c_lt_f, c_eq_t, c_eq_f, Int.toNat_natCast, set2_same, set2_np, set2_nk, setRow_same, setRow_ne, upd1_same, upd1_ne, upd1_le, setRow_setRow, Int.toNat_natCast, tn_0, tn_64, tn_128, tn_192, tn_256, tn_260, tn_264, tn_276, tn_280, tn_284, Int.reduceToNat])
  refine w_row (by first | omega | (simp (disch := omega) only [set2_same, set2_np, set2_nk, setRow_same, setRow_ne, upd1_same, upd1_ne, upd1_le, setRow_setRow, Int.toNat_natCast, tn_0, tn_64, tn_128, tn_192, tn_256, tn_260, tn_264, tn_276, tn_280, tn_284, Int.reduceToNat]; omega)) (fun s2 e2 => ?_)
  (try simp (disch := (first | omega | (simp (disch := omega) only [set2_same, set2_np, set2_nk, setRow_same, setRow_ne, upd1_same, upd1_ne, upd1_le, setRow_setRow, Int.toNat_natCast, tn_0, tn_64, tn_128, tn_192, tn_256, tn_260, tn_264, tn_276, tn_280, tn_284, Int.reduceToNat, e1, e2]; omega))) only [↓reduceIte, ↓e_cI, ↓e_add, ↓e_sub, ↓e_mul, ↓e_div, ↓e_rem, ↓e_max, ↓e_min, ↓e_abs, ↓e_gF, ↓e_pF, ↓e_pZ, ↓e_rd, ↓e_cP, ↓e_cW, ↓e_cV, ↓e_join, c_le_t, c_le_f, c_lt_t, c_lt_f, c_eq_t, c_eq_f, Int.toNat_natCast, set2_same, set2_np, set2_nk, setRow_same, setRow_ne, upd1_same, upd1_ne, upd1_le, setRow_setRow, Int.toNat_natCast, tn_0, tn_64, tn_128, tn_192, tn_256, tn_260, tn_264, tn_276, tn_280, tn_284, Int.reduceToNat])
  refine w_row (by first | omega | (simp (disch := omega) only [set2_same, set2_np, set2_nk, setRow_same, setRow_ne, upd1_same, upd1_ne, upd1_le, setRow_setRow, Int.toNat_natCast, tn_0, tn_64, tn_128, tn_192, tn_256, tn_260, tn_264, tn_276, tn_280, tn_284, Int.reduceToNat]; omega)) (fun s3 e3 => ?_)
  (try simp (disch := (first | omega | (simp (disch := omega) only [set2_same, set2_np, set2_nk, setRow_same, setRow_ne, upd1_same, upd1_ne, upd1_le, setRow_setRow, Int.toNat_natCast, tn_0, tn_64, tn_128, tn_192, tn_256, tn_260, tn_264, tn_276, tn_280, tn_284, Int.reduceToNat, e1, e2, e3]; omega))) only [↓reduceIte, ↓e_cI, ↓e_add, ↓e_sub, ↓e_mul, ↓e_div, ↓e_rem, ↓e_max, ↓e_min, ↓e_abs, ↓e_gF, ↓e_pF, ↓e_pZ, ↓e_rd, ↓e_cP, ↓e_cW, ↓e_cV, ↓e_join, c_le_t, c_le_f, c_lt_t, c_lt_f, c_eq_t, c_eq_f, Int.toNat_natCast, set2_same, set2_np, set2_nk, setRow_same, setRow_ne, upd1_same, upd1_ne, upd1_le, setRow_setRow, Int.toNat_natCast, tn_0, tn_64, tn_128, tn_192, tn_256, tn_260, tn_264, tn_276, tn_280, tn_284, Int.reduceToNat])
  refine w_row (by first | omega | (simp (disch := omega) only [set2_same, set2_np, set2_nk, setRow_same, setRow_ne, upd1_same, upd1_ne, upd1_le, setRow_setRow, Int.toNat_natCast, tn_0, tn_64, tn_128, tn_192, tn_256, tn_260, tn_264, tn_276, tn_280, tn_284, Int.reduceToNat]; omega)) (fun s4 e4 => ?_)
  unfold unitP mixW
  rw [e4, e3, e2, e1]
  simp (disch := omega) only [set2_same, set2_np, set2_nk, setRow_same, setRow_ne, upd1_same, upd1_ne, upd1_le, setRow_setRow, Int.toNat_natCast, tn_0, tn_64, tn_128, tn_192, tn_256, tn_260, tn_264, tn_276, tn_280, tn_284, Int.reduceToNat]
