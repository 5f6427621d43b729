/-! .. waves, the tide, hands, a minute -/
theorem m_col {P h hh : Hp} {q x far : Nat} {lvl B T : Int} {j14 : Hp → Option Hp} {j18 : Int × Hp → Option Hp} {j36 : Int × Int × Hp → Option Hp} (hp : PM P h) (hv : PV P) (hq : 120 < q) (hB : B ≤ 10000) (hx : x < cN P) (hfar : far ≤ 8)
    (h18 : ∀ (c : Nat) (t : Nat → Int), c < nN P → IV P B T t → j18 (c, setRow h q t) = j14 (setRow h q (cutP P t c)))
    (h36 : ∀ (y : Nat) (t : Nat → Int), y < rN P → IV P B T t → j36 (y, ((cN P * y + x : Nat) : Int), setRow h q t) = j14 (setRow h q (if y + 1 < rN P then upd1 t (64 + (cN P * y + x) + cN P) 16 else t))) :
    ∀ (f y : Nat) (s : Nat → Int) (n : Nat), f + y = 8 → f < n → IV P B T s → loopF (g_X9_waveComes_l50 q j14 j18 j36 ((x : Int), hh) far lvl) n ((y : Int), setRow h q s) = j14 (setRow h q (colP P x far lvl f y s)) := by
  have e1 := hp 100 (by omega)
  obtain ⟨c10, c11, a1, a2, a3, a4⟩ := hv.cr
  have hN := hv.n
  intro f
  induction f with
  | zero =>
    intro y s n hy hn hI
    obtain ⟨n, rfl⟩ : ∃ k, n = k + 1 := ⟨n - 1, by omega⟩
    show g_X9_waveComes_l50 q j14 j18 j36 ((x : Int), hh) far lvl (loopF (g_X9_waveComes_l50 q j14 j18 j36 ((x : Int), hh) far lvl) n) ((y : Int), setRow h q s) = _
    generalize loopF (g_X9_waveComes_l50 q j14 j18 j36 ((x : Int), hh) far lvl) n = self
    unfold g_X9_waveComes_l50
    dsimp only
    rw [e_gF, setRow_ne _ _ _ _ (by omega), e1, c11, e_min, b_pos (by split <;> omega)]
    rfl
  | succ f ih =>
    intro y s n hy hn hI
    obtain ⟨n, rfl⟩ : ∃ k, n = k + 1 := ⟨n - 1, by omega⟩
    show g_X9_waveComes_l50 q j14 j18 j36 ((x : Int), hh) far lvl (loopF (g_X9_waveComes_l50 q j14 j18 j36 ((x : Int), hh) far lvl) n) ((y : Int), setRow h q s) = _
    have hself := fun (s1 : Nat → Int) (h1 : IV P B T s1) => ih (y + 1) s1 n (by omega) (by omega) h1
    generalize loopF (g_X9_waveComes_l50 q j14 j18 j36 ((x : Int), hh) far lvl) n = self at hself ⊢
    unfold g_X9_waveComes_l50
    dsimp only
    unfold colP
    rw [e_gF, setRow_ne _ _ _ _ (by omega), e1, c11, e_min]
    by_cases h1 : far ≤ y
    · rw [if_pos h1, b_pos (by split <;> omega)]
    rw [if_neg h1]
    by_cases h2 : rN P ≤ y
    · rw [if_pos h2, b_pos (by split <;> omega)]
    rw [if_neg h2, b_neg (by split <;> omega)]
    have hc := cell_lt (P := P) hx (show y < rN P by omega)
    have hmul : (cN P : Int) * (y : Int) + (x : Int) = ((cN P * y + x : Nat) : Int) := by push_cast; rfl
    generalize hcc : cN P * y + x = c at hc hmul ⊢
    have hI0 := hI.1 c hc
    have hle := hI.le hc
    rw [e_gF, setRow_ne _ _ _ _ (by omega), e1, c10, e_mul _ _ _ (by omega), e_add _ _ _ (by omega), hmul, e_cI, e_add _ _ _ (by omega), e_rd _ _ _ _ _ (by omega), setRow_same, tn_192, e_cI]
    by_cases b1 : s (192 + c) = 1
    · rw [if_pos b1, b_pos b1, ← hcc, h36 y s (by omega) hI]
    rw [if_neg b1, b_neg b1, e_cI, e_add _ _ _ (by omega), e_cI]
    refine w_row (by first | omega | (simp (disch := omega) only [set2_same, set2_np, set2_nk, setRow_same, setRow_ne, upd1_same, upd1_ne, upd1_le, setRow_setRow, Int.toNat_natCast, tn_0, tn_64, tn_128, tn_192, tn_256, tn_260, tn_264, tn_276, tn_280, tn_284, Int.reduceToNat]; omega)) (fun s1 es => ?_)
    rw [tn_64] at es
    have hI1 : IV P B T s1 := by rw [es]; exact iv_wet hI hv hc (by omega)
    have e1c : s1 c = s c := by rw [es]; simp (disch := omega) only [set2_same, set2_np, set2_nk, setRow_same, setRow_ne, upd1_same, upd1_ne, upd1_le, setRow_setRow, Int.toNat_natCast, tn_0, tn_64, tn_128, tn_192, tn_256, tn_260, tn_264, tn_276, tn_280, tn_284, Int.reduceToNat]
    rw [e_cI, e_add _ _ _ (by omega), e_rd _ _ _ _ _ (by omega), setRow_same, tn_0, ← es]
    rw [e1c]
    by_cases b2 : lvl < s c
    · rw [if_pos b2, b_pos b2, h18 c s1 hc hI1]
    · rw [if_neg b2, b_neg b2, e_add _ _ _ (by omega)]
      have := hself s1 hI1
      rw [show ((y + 1 : Nat) : Int) = (y : Int) + 1 by omega] at this
      exact this
theorem m_wave {P h : Hp} {q far : Nat} {lvl B T : Int} {s : Nat → Int} (hp : PM P h) (hv : PV P) (hq : 120 < q) (hB : B ≤ 10000) (hI : IV P B T s) (hfar : far ≤ 8) :
    g_X9_waveComes q far lvl (setRow h q s) = some (setRow h q (waveP P far lvl s)) := by
  have e1 := hp 100 (by omega)
  obtain ⟨c10, c11, a1, a2, a3, a4⟩ := hv.cr
  have hN := hv.n
  have hcut := hv.2.2.2.2.2.2.2.2.2.2.2.1
  unfold g_X9_waveComes
  rw [e_cI, e_rd _ _ _ _ _ (by omega), setRow_same, e_cI, e_addw]
  simp only [Int.reduceToNat]
  refine w_row (by first | omega | (simp (disch := omega) only [set2_same, set2_np, set2_nk, setRow_same, setRow_ne, upd1_same, upd1_ne, upd1_le, setRow_setRow, Int.toNat_natCast, tn_0, tn_64, tn_128, tn_192, tn_256, tn_260, tn_264, tn_276, tn_280, tn_284, Int.reduceToNat]; omega)) (fun s1 es => ?_)
  simp only [Int.reduceToNat] at es
  have hI1 : IV P B T s1 := by rw [es]; exact hI.side hv (by omega)
  rw [e_cI]
  unfold waveP
  rw [← es]
  refine loopF_for' (cN P) (fun i => ((i : Int), setRow h q (colsP P far lvl s1 i))) ?_ ?_ rfl (fu _ (by omega))
  · intro i hi self
    have hIi := iv_colsP (far := far) (lvl := lvl) hI1 hv i (by omega)
    show g_X9_waveComes_l8 q far lvl self ((i : Int), setRow h q (colsP P far lvl s1 i)) = self (((i + 1 : Nat) : Int), setRow h q (colP P i far lvl 8 0 (colsP P far lvl s1 i)))
    generalize colsP P far lvl s1 i = t at hIi ⊢
    rw [show ((i + 1 : Nat) : Int) = (i : Int) + 1 by omega]
    unfold g_X9_waveComes_l8
    dsimp only
    rw [e_gF, setRow_ne _ _ _ _ (by omega), e1, c10, b_neg (by omega), e_cI]
    refine join_gen (fun j14 hj14 => ?_)
    refine join_gen (fun j18 hj18 => ?_)
    refine join_gen (fun j36 hj36 => ?_)
    have hcol := m_col (lvl := lvl) (hh := setRow h q t) (j14 := j14) (j18 := j18) (j36 := j36) hp hv hq hB hi hfar ?_ ?_ 8 0 t FU (by omega) (fu _ (by omega)) hIi
    · rw [show ((0 : Nat) : Int) = 0 from rfl] at hcol
      rw [hcol, hj14, e_add _ _ _ (by omega)]
    · intro c u hc hu
      have hu0 := hu.nn hc
      have huB := hu.le hc
      have ho := offP_in hu hv hc
      have hS := hu.2.1
      have hsum := sumN_nonneg (f := u) (n := nN P) (fun k hk => hu.nn hk)
      unfold SV at hS
      rw [hj18]
      dsimp only
      rw [e_gF, setRow_ne _ _ _ _ (by omega), e1, e_cI, e_add _ _ _ (by omega), e_rd _ _ _ _ _ (by omega), setRow_same, tn_0, e_min, e_cI, e_add _ _ _ (by omega), e_rd _ _ _ _ _ (by omega), setRow_same, tn_0]
      rw [show (if u c < P 100 39 then u c else P 100 39) = offP P u c from rfl, e_sub _ _ _ (by omega)]
      refine w_row (by first | omega | (simp (disch := omega) only [set2_same, set2_np, set2_nk, setRow_same, setRow_ne, upd1_same, upd1_ne, upd1_le, setRow_setRow, Int.toNat_natCast, tn_0, tn_64, tn_128, tn_192, tn_256, tn_260, tn_264, tn_276, tn_280, tn_284, Int.reduceToNat]; omega)) (fun u1 eu => ?_)
      rw [tn_0] at eu
      have e269 : u1 269 = u 269 := by rw [eu]; simp (disch := omega) only [set2_same, set2_np, set2_nk, setRow_same, setRow_ne, upd1_same, upd1_ne, upd1_le, setRow_setRow, Int.toNat_natCast, tn_0, tn_64, tn_128, tn_192, tn_256, tn_260, tn_264, tn_276, tn_280, tn_284, Int.reduceToNat]
      rw [e_cI, e_rd _ _ _ _ _ (by omega), setRow_same]
      simp only [Int.reduceToNat]
      rw [e269, e_add _ _ _ (by omega)]
      refine w_row (by first | omega | (simp (disch := omega) only [set2_same, set2_np, set2_nk, setRow_same, setRow_ne, upd1_same, upd1_ne, upd1_le, setRow_setRow, Int.toNat_natCast, tn_0, tn_64, tn_128, tn_192, tn_256, tn_260, tn_264, tn_276, tn_280, tn_284, Int.reduceToNat]; omega)) (fun u2 eu2 => ?_)
      rw [eu2, eu]
      rfl
    · intro y u hy hu
      rw [hj36]
      dsimp only
      rw [e_cI, e_add _ _ _ (by omega), e_gF, setRow_ne _ _ _ _ (by omega), e1, c11]
      by_cases b : y + 1 < rN P
      · have hc := cell_lt (P := P) hi b
        rw [Nat.mul_add] at hc
        rw [if_pos b, b_neg (by omega), e_cI, e_add _ _ _ (by omega), e_gF, setRow_ne _ _ _ _ (by omega), e1, c10, e_add _ _ _ (by omega), e_cI]
        refine w_row (by first | omega | (simp (disch := omega) only [set2_same, set2_np, set2_nk, setRow_same, setRow_ne, upd1_same, upd1_ne, upd1_le, setRow_setRow, Int.toNat_natCast, tn_0, tn_64, tn_128, tn_192, tn_256, tn_260, tn_264, tn_276, tn_280, tn_284, Int.reduceToNat]; omega)) (fun u1 eu => ?_)
        rw [eu, show (64 + ((cN P * y + i : Nat) : Int) + (cN P : Int)).toNat = 64 + (cN P * y + i) + cN P by omega]
      · rw [if_neg b, b_pos (by omega)]
  · intro self
    unfold g_X9_waveComes_l8
    dsimp only
    rw [e_gF, setRow_ne _ _ _ _ (by omega), e1, c10, b_pos (by omega)]
theorem m_draw {h : Hp} {q : Nat} {s : Nat → Int} {n : Int} (hs : KV s) (hn : 1 ≤ n ∧ n ≤ 1000) : g_X9_draw q n (setRow h q s) = some (drawnP s n, setRow h q (drawP s)) := by
  unfold KV at hs
  unfold g_X9_draw
  have hc := chanceP_in (s 288)
  have e1 : wl (wl (1103515245 * s 288) + 12345) = 1103515245 * s 288 + 12345 := by rw [wl_eq (x := 1103515245 * s 288) (by omega), wl_eq (by omega)]
  have e2 : Int.tmod (1103515245 * s 288 + 12345) 2147483648 = chanceP (s 288) := by rw [Int.tmod_eq_emod_of_nonneg (by omega)]; rfl
  have e3 : Int.tdiv (chanceP (s 288)) 65536 = chanceP (s 288) / 65536 := Int.tdiv_eq_ediv_of_nonneg hc.1
  have e4 : 0 ≤ chanceP (s 288) / 65536 ∧ chanceP (s 288) / 65536 < 32768 := by omega
  have e5 : Int.tmod (chanceP (s 288) / 65536) n = drawnP s n := by rw [Int.tmod_eq_emod_of_nonneg (by omega)]; rfl
  have e6 : 0 ≤ drawnP s n ∧ drawnP s n < n := ⟨Int.emod_nonneg _ (by omega), Int.emod_lt_of_pos _ (by omega)⟩
  rw [e_cI, e_cI, e_rd _ _ _ _ _ (by omega), setRow_same]
  simp only [Int.reduceToNat, i2lI, lmulI, laddI, l2iI, cI]
  rw [e1]
  unfold lremI
  rw [if_neg (by decide), e2]
  try dsimp only
  rw [wr_eq (by omega)]
  refine w_row (by first | omega | (simp (disch := omega) only [set2_same, set2_np, set2_nk, setRow_same, setRow_ne, upd1_same, upd1_ne, upd1_le, setRow_setRow, Int.toNat_natCast, tn_0, tn_64, tn_128, tn_192, tn_256, tn_260, tn_264, tn_276, tn_280, tn_284, Int.reduceToNat]; omega)) (fun s1 es => ?_)
  unfold ldivI
  rw [if_neg (by decide), e3, wl_eq (by omega)]
  try dsimp only
  rw [if_neg (by omega), e5]
  try dsimp only
  rw [wr_eq (by omega), es]
  rfl
theorem drawnP_in (s : Nat → Int) {n : Int} (hn : 1 ≤ n) : 0 ≤ drawnP s n ∧ drawnP s n < n := ⟨Int.emod_nonneg _ (by omega), Int.emod_lt_of_pos _ (by omega)⟩
theorem pv_sea {P : Hp} (hv : PV P) : (0 ≤ P 100 28 ∧ P 100 28 ≤ 12) ∧
  (∀ k : Nat, k < (P 100 28).toNat → (0 ≤ P 110 (3 * k) ∧ P 110 (3 * k) ≤ 359) ∧ (1 ≤ P 110 (3 * k + 1) ∧ P 110 (3 * k + 1) ≤ 8) ∧ (0 ≤ P 110 (3 * k + 2) ∧ P 110 (3 * k + 2) ≤ 99)) ∧
  ((P 112 0 = -1) ∨ ((0 ≤ P 112 0 ∧ P 112 0 ≤ 359) ∧ (P 112 0 ≤ P 112 1 ∧ P 112 1 ≤ 359) ∧ (1 ≤ P 112 2 ∧ P 112 2 ≤ 60) ∧ (0 ≤ P 112 3 ∧ P 112 3 ≤ 100))) ∧
  (1 ≤ P 114 0 ∧ P 114 0 ≤ P 114 1 ∧ P 114 1 ≤ 8) ∧ (0 ≤ P 115 0 ∧ P 115 0 ≤ P 115 1 ∧ P 115 1 ≤ 99) := by
  obtain ⟨-, -, -, -, -, -, -, -, -, -, -, -, h1, h2, h3, h4, h5, -⟩ := hv
  exact ⟨h1, h2, h3, h4, h5⟩
theorem m_sea {P h : Hp} {q : Nat} {B T : Int} {s : Nat → Int} (hp : PM P h) (hv : PV P) (hq : 120 < q) (hB : B ≤ 10000) (hT : T ≤ 1000000) (hI : IV P B T s) :
    g_X9_seaComes q (setRow h q s) = some (setRow h q (seaP P s)) := by
  have e1 := hp 100 (by omega)
  have e10 := hp 110 (by omega)
  have e12 := hp 112 (by omega)
  have e14 := hp 114 (by omega)
  have e15 := hp 115 (by omega)
  obtain ⟨hw, hwv, htd, hre, hlv⟩ := pv_sea hv
  have h270 := hI.2.2.1.1
  unfold g_X9_seaComes seaP
  rw [e_cI, e_rd _ _ _ _ _ (by omega), setRow_same, e_cI]
  simp only [Int.reduceToNat]
  refine join_gen (fun j5 hj5 => ?_)
  refine loopF_for' (P 100 28).toNat (fun i => ((i : Int), setRow h q (toldP P (s 270) s i))) ?_ ?_ rfl (fu _ (by omega))
  · intro i hi self
    have hIi := iv_toldP (m := s 270) hI hv i
    have hwi := hwv i hi
    show g_X9_seaComes_l53 q j5 (s 270) self ((i : Int), setRow h q (toldP P (s 270) s i)) = self (((i + 1 : Nat) : Int), setRow h q (if P 110 (3 * i) = s 270 then waveP P (P 110 (3 * i + 1)).toNat (P 110 (3 * i + 2)) (toldP P (s 270) s i) else toldP P (s 270) s i))
    generalize toldP P (s 270) s i = t at hIi ⊢
    rw [show ((i + 1 : Nat) : Int) = (i : Int) + 1 by omega]
    unfold g_X9_seaComes_l53
    dsimp only
    rw [e_gF, setRow_ne _ _ _ _ (by omega), e1, b_neg (by omega), e_cI, e_mul _ _ _ (by omega), e_rd _ _ _ _ _ (by omega), setRow_ne _ _ _ _ (by omega), e10, show (3 * (i : Int)).toNat = 3 * i by omega]
    refine join_gen (fun j61 hj => ?_)
    by_cases b1 : P 110 (3 * i) = s 270
    · rw [if_pos b1, b_pos b1, e_cI, e_mul _ _ _ (by omega), e_cI, e_add _ _ _ (by omega), e_rd _ _ _ _ _ (by omega), setRow_ne _ _ _ _ (by omega), e10, e_cI, e_mul _ _ _ (by omega), e_cI, e_add _ _ _ (by omega), e_rd _ _ _ _ _ (by omega), setRow_ne _ _ _ _ (by omega), e10, show (3 * (i : Int) + 1).toNat = 3 * i + 1 by omega, show (3 * (i : Int) + 2).toNat = 3 * i + 2 by omega]
      obtain ⟨far, hf⟩ := Int.eq_ofNat_of_zero_le (show 0 ≤ P 110 (3 * i + 1) by omega)
      rw [hf, m_wave hp hv hq hB hIi (by omega), e_cV, hj, e_add _ _ _ (by omega)]
      rfl
    · rw [if_neg b1, b_neg b1, hj, e_add _ _ _ (by omega)]
  · intro self
    have hIi := iv_toldP (m := s 270) hI hv (P 100 28).toNat
    generalize toldP P (s 270) s (P 100 28).toNat = t at hIi ⊢
    generalize s 270 = mi at *
    unfold g_X9_seaComes_l53
    dsimp only
    rw [e_gF, setRow_ne _ _ _ _ (by omega), e1, b_pos (by omega), hj5, e_cI, e_rd _ _ _ _ _ (by omega), setRow_ne _ _ _ _ (by omega), e12, e_cI]
    simp only [Int.reduceToNat]
    unfold tideP
    refine join_gen (fun j11 hj11 => ?_)
    by_cases b0 : P 112 0 = -1
    · rw [if_pos b0, b_pos b0, hj11]
    rw [if_neg b0, b_neg b0]
    obtain ⟨h0, h1, h2, h3⟩ := htd.resolve_left b0
    rw [e_cI, e_rd _ _ _ _ _ (by omega), setRow_ne _ _ _ _ (by omega), e12]
    simp only [Int.reduceToNat]
    by_cases b1 : mi < P 112 0
    · rw [if_pos b1, b_pos b1, hj11]
    rw [if_neg b1, b_neg b1, e_cI, e_rd _ _ _ _ _ (by omega), setRow_ne _ _ _ _ (by omega), e12]
    simp only [Int.reduceToNat]
    by_cases b2 : P 112 1 < mi
    · rw [if_pos b2, b_pos b2, hj11]
    rw [if_neg b2, b_neg b2, e_cI, e_rd _ _ _ _ _ (by omega), setRow_ne _ _ _ _ (by omega), e12]
    simp only [Int.reduceToNat]
    rw [e_sub _ _ _ (by omega), e_cI, e_rd _ _ _ _ _ (by omega), setRow_ne _ _ _ _ (by omega), e12]
    simp only [Int.reduceToNat]
    rw [e_rem _ _ _ (by omega)]
    by_cases b3 : (mi - P 112 0) % P 112 2 = 0
    rotate_left
    · rw [if_neg b3, b_neg b3, hj11]
    rw [if_pos b3, b_pos b3, e_cI, m_draw hIi.2.2.2.2 (by omega), e_cW, e_cI, e_rd _ _ _ _ _ (by omega), setRow_ne _ _ _ _ (by omega), e12]
    simp only [Int.reduceToNat]
    have hI1 := iv_drawP hIi hv
    by_cases b4 : drawnP t 100 < P 112 3
    rotate_left
    · rw [if_neg b4, b_neg b4]
    have hI2 := iv_drawP hI1 hv
    have hI3 := iv_drawP hI2 hv
    have d1 := drawnP_in (drawP t) (n := P 114 1 - P 114 0 + 1) (by omega)
    have d2 := drawnP_in (drawP (drawP t)) (n := P 115 1 - P 115 0 + 1) (by omega)
    rw [if_pos b4, b_pos b4, e_cI, e_rd _ _ _ _ _ (by omega), setRow_ne _ _ _ _ (by omega), e14, e_cI, e_rd _ _ _ _ _ (by omega), setRow_ne _ _ _ _ (by omega), e14, e_cI, e_rd _ _ _ _ _ (by omega), setRow_ne _ _ _ _ (by omega), e14]
    simp only [Int.reduceToNat]
    rw [e_sub _ _ _ (by omega), e_cI, e_add _ _ _ (by omega), m_draw hI1.2.2.2.2 (by omega), e_cW, e_add _ _ _ (by omega), e_cI, e_rd _ _ _ _ _ (by omega), setRow_ne _ _ _ _ (by omega), e15, e_cI, e_rd _ _ _ _ _ (by omega), setRow_ne _ _ _ _ (by omega), e15, e_cI, e_rd _ _ _ _ _ (by omega), setRow_ne _ _ _ _ (by omega), e15]
    simp only [Int.reduceToNat]
    rw [e_sub _ _ _ (by omega), e_cI, e_add _ _ _ (by omega), m_draw hI2.2.2.2.2 (by omega), e_cW, e_add _ _ _ (by omega)]
    obtain ⟨far, hf⟩ := Int.eq_ofNat_of_zero_le (show 0 ≤ P 114 0 + drawnP (drawP t) (P 114 1 - P 114 0 + 1) by omega)
    rw [hf, m_wave hp hv hq hB hI3 (by omega), e_cV]
    rfl
theorem m_finish {P h : Hp} {q : Nat} {B T : Int} {s : Nat → Int} (hp : PM P h) (hv : PV P) (hq : 120 < q) (hB : B ≤ 10000) (hT : T ≤ 1000000) (hI : IV P B T s) :
    g_X9_finish q (setRow h q s) = some (setRow h q (finishP P s)) := by
  unfold g_X9_finish
  have h1 := iv_seaP hI hv
  have h2 := iv_sunP h1 hv
  have h3 := iv_slidesP h2 hv
  have h268 := h3.2.2.1.2.1
  have h4 := iv_flagsP h3 hv (slidesP P (sunP P (seaP P s)) 268).toNat (by omega)
  have h270 := h4.2.2.1.1
  rw [m_sea hp hv hq hB hT hI, e_cV, m_sun hp hv hq h1 hB hT, e_cV, m_slides hp hv hq h2 hB, e_cV, m_flagsFall hp hv hq h3 hB hT, e_cV, e_cI, e_rd _ _ _ _ _ (by omega), setRow_same, e_cI]
  simp only [Int.reduceToNat]
  rw [e_add _ _ _ (by omega)]
  refine w_row (by first | omega | (simp (disch := omega) only [set2_same, set2_np, set2_nk, setRow_same, setRow_ne, upd1_same, upd1_ne, upd1_le, setRow_setRow, Int.toNat_natCast, tn_0, tn_64, tn_128, tn_192, tn_256, tn_260, tn_264, tn_276, tn_280, tn_284, Int.reduceToNat]; omega)) (fun s1 es => ?_)
  rw [es]
  rfl
theorem actAt_eq {P : Hp} {p i k : Nat} (j : Nat) : P 120 (3 * (8 * (4 * p + i) + k) + j) = actAtP P p i k j := rfl
theorem m_hands {P h : Hp} {q : Nat} {B T : Int} {s : Nat → Int} (hp : PM P h) (hv : PV P) (hq : 120 < q) (hB : B ≤ 10000) (hI : IV P B T s) :
    g_X9_handsDo q (setRow h q s) = some (setRow h q (handsP P s)) := by
  have e18 := hp 118 (by omega)
  have e19 := hp 119 (by omega)
  have e20 := hp 120 (by omega)
  have e2 := hp 102 (by omega)
  have hN := hv.n
  have hH := hI.2.2.2.1
  have hpl := pv_plan hv
  have htire := hv.2.2.2.2.2.2.2.1
  unfold g_X9_handsDo handsP
  rw [e_cI, e_rd _ _ _ _ _ (by omega), setRow_same, e_cI]
  simp only [Int.reduceToNat]
  refine join_gen (fun j5 hj5 => ?_)
  by_cases hn : s 275 = -1
  · rw [if_pos hn]
    refine loopF_for' 0 (fun i => ((i : Int), setRow h q s)) (fun i hi => by omega) ?_ rfl (fu _ (by omega))
    intro self
    unfold g_X9_handsDo_l8
    dsimp only
    rw [e_cI, b_pos hn, hj5]
  rw [if_neg hn]
  have hpp := hpl.2 (s 275).toNat (by have := hH.1; omega)
  obtain ⟨p, hpe⟩ := Int.eq_ofNat_of_zero_le (show 0 ≤ s 275 by have := hH.1; omega)
  have hp3 : p < 3 := by have := hH.1; omega
  refine loopF_for' (P 118 (s 275).toNat).toNat (fun i => ((i : Int), setRow h q (handsLP P (s 275).toNat s i))) ?_ ?_ rfl (fu _ (by omega))
  · intro i hi self
    obtain ⟨hIi, h275⟩ := iv_handsLP hI hv hn i (by omega)
    show g_X9_handsDo_l8 q j5 (s 275) self ((i : Int), setRow h q (handsLP P (s 275).toNat s i)) = self (((i + 1 : Nat) : Int), setRow h q (handP P (s 275).toNat (handsLP P (s 275).toNat s i) i))
    generalize handsLP P (s 275).toNat s i = t at hIi h275 ⊢
    have hHt := hIi.2.2.2.1.2 (by rw [h275]; exact hn) i (by rw [h275]; exact hi)
    rw [h275] at hHt
    rw [hpe] at hpp hHt hi hn ⊢
    simp only [Int.toNat_natCast] at hpp hHt hi ⊢
    have ha := hpp.2 i hi
    rw [show ((i + 1 : Nat) : Int) = (i : Int) + 1 by omega]
    have hi4 : i < 4 := by omega
    unfold g_X9_handsDo_l8 handP
    dsimp only
    rw [e_cI, b_neg (by omega), e_rd _ _ _ _ _ (by omega), setRow_ne _ _ _ _ (by omega), e18]
    simp only [Int.toNat_natCast]
    rw [b_neg (by omega), e_cI, e_mul _ _ _ (by omega), e_add _ _ _ (by omega), e_cI, e_add _ _ _ (by omega), e_rd _ _ _ _ _ (by omega), setRow_same, tn_284, e_cI]
    refine join_gen (fun j21 hj => ?_)
    by_cases b1 : t (284 + i) = 1
    · rw [if_pos b1, b_pos b1, e_cI, e_add _ _ _ (by omega), e_cI]
      refine w_row (by first | omega | (simp (disch := omega) only [set2_same, set2_np, set2_nk, setRow_same, setRow_ne, upd1_same, upd1_ne, upd1_le, setRow_setRow, Int.toNat_natCast, tn_0, tn_64, tn_128, tn_192, tn_256, tn_260, tn_264, tn_276, tn_280, tn_284, Int.reduceToNat]; omega)) (fun t1 et => ?_)
      rw [hj, e_add _ _ _ (by omega), et, tn_284]
    rw [if_neg b1, b_neg b1]
    obtain ⟨k, hk⟩ := Int.eq_ofNat_of_zero_le hHt.1.1
    have hkl : k < (P 119 (4 * p + i)).toNat := by omega
    have hac := ha.2 k hkl
    have hA0 := actAt_eq (P := P) (p := p) (i := i) (k := k) 0
    have hA1 := actAt_eq (P := P) (p := p) (i := i) (k := k) 1
    have hA2 := actAt_eq (P := P) (p := p) (i := i) (k := k) 2
    rw [Nat.add_zero] at hA0
    rw [e_cI, e_cI, e_mul _ _ _ (by omega), e_cI, e_add _ _ _ (by omega), e_rd _ _ _ _ _ (by omega), setRow_same, tn_276, hk, e_add _ _ _ (by omega), e_mul _ _ _ (by omega), e_rd _ _ _ _ _ (by omega), setRow_ne _ _ _ _ (by omega), e20, show (3 * (8 * (4 * (p : Int) + (i : Int)) + (k : Int))).toNat = 3 * (8 * (4 * p + i) + k) by omega, hA0,
      e_cI, e_add _ _ _ (by omega), e_rd _ _ _ _ _ (by omega), setRow_ne _ _ _ _ (by omega), e20, show (3 * (8 * (4 * (p : Int) + (i : Int)) + (k : Int)) + 1).toNat = 3 * (8 * (4 * p + i) + k) + 1 by omega, hA1,
      e_cI, e_add _ _ _ (by omega), e_rd _ _ _ _ _ (by omega), setRow_ne _ _ _ _ (by omega), e20, show (3 * (8 * (4 * (p : Int) + (i : Int)) + (k : Int)) + 2).toNat = 3 * (8 * (4 * p + i) + k) + 2 by omega, hA2]
    simp only [Int.toNat_natCast]
    generalize actAtP P p i k 0 = kind at hac ⊢
    generalize actAtP P p i k 1 = cell at hac ⊢
    generalize actAtP P p i k 2 = to at hac ⊢
    rw [m_does hac.1 (fun z => by have := hac.2.1 z; omega) (fun z => by have := hac.2.2.2.1 z; omega) (fun j hj => by
      have hjn : j < nN P := by
        rcases hj with hj | hj
        · by_cases z : kind ≤ 3
          · have := hac.2.1 z; omega
          · have := hac.2.2.1 (by omega); omega
        · by_cases z : kind = 0
          · have := hac.2.2.2.1 z; omega
          · have := hac.2.2.2.2 z; omega
      have h1 := hIi.1 j hjn
      have h2 := hIi.le hjn
      exact ⟨⟨h1.1, by omega⟩, h1.2.1, h1.2.2.1⟩), e_cV]
    have hfar : ∀ j, 256 ≤ j → doesP t kind cell.toNat to.toNat j = t j := by
      intro j hj
      by_cases z : kind ≤ 3
      · have h1 := hac.2.1 z
        by_cases z0 : kind = 0
        · have h2 := hac.2.2.2.1 z0
          exact doesP_far (by omega) (by omega) hj
        · have h2 := hac.2.2.2.2 z0
          exact doesP_far (by omega) (by omega) hj
      · unfold doesP
        rw [if_neg (by omega), if_neg (by omega), if_neg (by omega), if_neg (by omega)]
    generalize hu : doesP t kind cell.toNat to.toNat = u at hfar ⊢
    rw [e_cI, e_add _ _ _ (by omega), e_cI, e_add _ _ _ (by omega), e_rd _ _ _ _ _ (by omega), setRow_same, tn_276, hfar (276 + i) (by omega), hk, e_cI, e_add _ _ _ (by omega), e_rd _ _ _ _ _ (by omega), setRow_ne _ _ _ _ (by omega), e19, show (4 * (p : Int) + (i : Int)).toNat = 4 * p + i by omega, e_rem _ _ _ (by omega)]
    refine w_row (by first | omega | (simp (disch := omega) only [set2_same, set2_np, set2_nk, setRow_same, setRow_ne, upd1_same, upd1_ne, upd1_le, setRow_setRow, Int.toNat_natCast, tn_0, tn_64, tn_128, tn_192, tn_256, tn_260, tn_264, tn_276, tn_280, tn_284, Int.reduceToNat]; omega)) (fun u1 eu1 => ?_)
    rw [tn_276] at eu1
    have e280 : u1 (280 + i) = t (280 + i) := by rw [eu1, upd1_ne _ _ _ _ (by omega)]; exact hfar _ (by omega)
    rw [e_cI, e_add _ _ _ (by omega), e_rd _ _ _ _ _ (by omega), setRow_same, tn_280, e280, e_cI, e_addw]
    refine w_row (by first | omega | (simp (disch := omega) only [set2_same, set2_np, set2_nk, setRow_same, setRow_ne, upd1_same, upd1_ne, upd1_le, setRow_setRow, Int.toNat_natCast, tn_0, tn_64, tn_128, tn_192, tn_256, tn_260, tn_264, tn_276, tn_280, tn_284, Int.reduceToNat]; omega)) (fun u2 eu2 => ?_)
    rw [tn_280] at eu2
    have eu3 : u2 = upd1 (upd1 u (276 + i) (((k : Int) + 1) % P 119 (4 * p + i))) (280 + i) (wr (t (280 + i) + 1)) := by rw [eu2, eu1]
    rw [e_cI, e_rd _ _ _ _ _ (by omega), setRow_ne _ _ _ _ (by omega), e2]
    simp only [Int.reduceToNat]
    rw [← eu3]
    by_cases b2 : P 102 5 = 0
    · rw [if_pos b2, b_pos b2, hj, e_add _ _ _ (by omega)]
    rw [if_neg b2, b_neg b2, e_cI, e_add _ _ _ (by omega), e_rd _ _ _ _ _ (by omega), setRow_same, tn_280, e_cI, e_rd _ _ _ _ _ (by omega), setRow_ne _ _ _ _ (by omega), e2]
    simp only [Int.reduceToNat]
    by_cases b3 : u2 (280 + i) < P 102 5
    · rw [if_pos b3, b_neg (by omega), hj, e_add _ _ _ (by omega)]
    rw [if_neg b3, b_pos (by omega), e_cI, e_add _ _ _ (by omega), e_cI]
    refine w_row (by first | omega | (simp (disch := omega) only [set2_same, set2_np, set2_nk, setRow_same, setRow_ne, upd1_same, upd1_ne, upd1_le, setRow_setRow, Int.toNat_natCast, tn_0, tn_64, tn_128, tn_192, tn_256, tn_260, tn_264, tn_276, tn_280, tn_284, Int.reduceToNat]; omega)) (fun u3 ew3 => ?_)
    rw [e_cI, e_add _ _ _ (by omega), e_cI]
    refine w_row (by first | omega | (simp (disch := omega) only [set2_same, set2_np, set2_nk, setRow_same, setRow_ne, upd1_same, upd1_ne, upd1_le, setRow_setRow, Int.toNat_natCast, tn_0, tn_64, tn_128, tn_192, tn_256, tn_260, tn_264, tn_276, tn_280, tn_284, Int.reduceToNat]; omega)) (fun u4 ew4 => ?_)
    rw [hj, e_add _ _ _ (by omega), ew4, ew3, tn_280, tn_284]
  · intro self
    rw [hpe] at hn hpp ⊢
    simp only [Int.toNat_natCast] at hpp ⊢
    unfold g_X9_handsDo_l8
    dsimp only
    rw [e_cI, b_neg (by omega), e_rd _ _ _ _ _ (by omega), setRow_ne _ _ _ _ (by omega), e18]
    simp only [Int.toNat_natCast]
    rw [b_pos (by omega), hj5]
theorem m_minute {P h : Hp} {q : Nat} {B T : Int} {s : Nat → Int} (hp : PM P h) (hv : PV P) (hq : 120 < q) (hB : B ≤ 10000) (hT : T ≤ 1000000) (hI : IV P B T s) :
    g_X9_minute q (setRow h q s) = some (setRow h q (minuteP P s)) := by
  unfold g_X9_minute
  rw [m_hands hp hv hq hB hI, e_cV, m_finish hp hv hq hB hT (iv_handsP hI hv), e_cV]
  rfl
