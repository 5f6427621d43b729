/-! CALLS: keep and take -/
theorem IV.cong {P : Hp} {B T : Int} {s t : Nat → Int} (h : IV P B T s) (hv : PV P) (e : ∀ j : Nat, j < 289 → t j = s j) : IV P B T t := by
  have hN := hv.n
  refine h.of hv (fun c hc => ?_) ⟨?_, ?_⟩ (fun j _ _ _ _ _ _ _ => e j (by omega))
  · rw [e c (by omega), e (64 + c) (by omega), e (128 + c) (by omega), e (192 + c) (by omega)]
    exact h.1 c hc
  · rw [e 269 (by omega)]; exact h.2.1.1
  · rw [e 269 (by omega), sumN_congr (f := t) (g := s) (fun i hi => e i (by omega))]; exact h.2.1.2
theorem RS.cong9 {P h : Hp} {b : Nat} {s t : Nat → Int} (hv : PV P) (hH : HV P s) (h0 : RS P h b s) (e : ∀ j : Nat, j < 289 → t j = s j) : RS P h b t :=
  h0.cong hv hH (fun j h1 _ _ => e j h1) (by rw [e 268 (by omega)]; exact Int.le_refl _)
theorem m_isSlot {x : Int} : g_X9_isSlot x = some (if x < 0 then 0 else if 2 < x then 0 else 1) := by
  unfold g_X9_isSlot
  rw [e_i2l, e_cI, e_cI, m_in, e_cP]
  by_cases b : x < 0
  · rw [if_pos b]; exact e_retZ0
  · rw [if_neg b]
    by_cases b1 : 2 < x
    · rw [if_pos b1]; exact e_retZ0
    · rw [if_neg b1]; exact e_retZ1
theorem e_wrZ {R : Type} (h : Hp) (q n c : Nat) (x : Int) (K : Hp → Option R) (hi : c < n) (hx : x = 0 ∨ x = 1) : wrZ h q n (c : Int) x K = K (set2 h q c x) := by unfold wrZ; rw [if_pos ⟨by omega, hx⟩, Int.toNat_natCast]
def keepR (h : Hp) (j i : Nat) : Hp := fun p k => if p = 123 ∧ 289 * j ≤ k ∧ k < 289 * j + i then h 121 (k - 289 * j) else h p k
theorem keepR_ne {h : Hp} {j i p : Nat} (hp : p ≠ 123) : keepR h j i p = h p := by funext k; unfold keepR; rw [if_neg (by omega)]
theorem s_keep {n : Nat} {h : Hp} {x1 : Int} (r : Rel n h) : ∃ z h1 h2, g_X8_keep x1 h = some (z, h1) ∧ g_X9_keep x1 h1 = some (z, h2) ∧ Rel (n + 1) h2 := by
  have r' := r
  obtain ⟨hv, ⟨c, rb⟩, ⟨v, rs⟩, rp, ⟨hI, hR, h268⟩, rsl, rt, rf, ru⟩ := r'
  unfold g_X8_keep g_X9_keep
  rw [m_isSlot]
  by_cases b0 : 0 ≤ x1 ∧ x1 ≤ 2
  rotate_left
  · by_cases b1 : x1 < 0
    · refine ⟨-2, h, h, ?_, ?_, r.next⟩
      · (repeat (first | rw [e_i2l] | rw [e_cI] | rw [e_join] | rw [e_cP] | rw [e_gF] | rw [e_pF] | rw [e_cW] | rw [e_cV] | rw [e_in_t _ _ _ _ (by omega)] | rw [e_in_f _ _ _ _ (by omega)] | rw [b_pos (by omega)] | rw [b_neg (by omega)] | rw [e_add _ _ _ (by omega)] | rw [e_sub _ _ _ (by omega)] | rw [e_mul _ _ _ (by omega)] | rw [e_lsub _ _ _ (by omega)] | rw [e_rd _ _ _ _ _ (by omega)] | rw [b_pos True.intro] | rw [b_neg not_false] | simp only [Int.reduceToNat, Int.reduceSub, Int.reduceAdd, Int.reduceMul]))
      · rw [if_pos b1]
        (repeat (first | rw [e_i2l] | rw [e_cI] | rw [e_join] | rw [e_cP] | rw [e_gF] | rw [e_pF] | rw [e_cW] | rw [e_cV] | rw [e_in_t _ _ _ _ (by omega)] | rw [e_in_f _ _ _ _ (by omega)] | rw [b_pos (by omega)] | rw [b_neg (by omega)] | rw [e_add _ _ _ (by omega)] | rw [e_sub _ _ _ (by omega)] | rw [e_mul _ _ _ (by omega)] | rw [e_lsub _ _ _ (by omega)] | rw [e_rd _ _ _ _ _ (by omega)] | rw [b_pos True.intro] | rw [b_neg not_false] | simp only [Int.reduceToNat, Int.reduceSub, Int.reduceAdd, Int.reduceMul]))
    · refine ⟨-2, h, h, ?_, ?_, r.next⟩
      · (repeat (first | rw [e_i2l] | rw [e_cI] | rw [e_join] | rw [e_cP] | rw [e_gF] | rw [e_pF] | rw [e_cW] | rw [e_cV] | rw [e_in_t _ _ _ _ (by omega)] | rw [e_in_f _ _ _ _ (by omega)] | rw [b_pos (by omega)] | rw [b_neg (by omega)] | rw [e_add _ _ _ (by omega)] | rw [e_sub _ _ _ (by omega)] | rw [e_mul _ _ _ (by omega)] | rw [e_lsub _ _ _ (by omega)] | rw [e_rd _ _ _ _ _ (by omega)] | rw [b_pos True.intro] | rw [b_neg not_false] | simp only [Int.reduceToNat, Int.reduceSub, Int.reduceAdd, Int.reduceMul]))
      · rw [if_neg b1, if_pos (by omega)]
        (repeat (first | rw [e_i2l] | rw [e_cI] | rw [e_join] | rw [e_cP] | rw [e_gF] | rw [e_pF] | rw [e_cW] | rw [e_cV] | rw [e_in_t _ _ _ _ (by omega)] | rw [e_in_f _ _ _ _ (by omega)] | rw [b_pos (by omega)] | rw [b_neg (by omega)] | rw [e_add _ _ _ (by omega)] | rw [e_sub _ _ _ (by omega)] | rw [e_mul _ _ _ (by omega)] | rw [e_lsub _ _ _ (by omega)] | rw [e_rd _ _ _ _ _ (by omega)] | rw [b_pos True.intro] | rw [b_neg not_false] | simp only [Int.reduceToNat, Int.reduceSub, Int.reduceAdd, Int.reduceMul]))
  obtain ⟨j, rfl⟩ := Int.eq_ofNat_of_zero_le b0.1
  have hj : j < 3 := by omega
  obtain ⟨h1, w1, w2, w3⟩ := k_copyFrom (b := 76 + 8 * j) hv (by omega) hI.2.2.2.1 hR
  have e121 : h1 121 = h 121 := w3 121 (by omega)
  have e26 : h1 26 = h 26 := w3 26 (by omega)
  refine ⟨h 121 270, set2 h1 35 j 1, set2 (keepR (set2 h1 35 j 1) j 289) 124 j 1, ?_, ?_, ?_⟩
  · rw [e_join, b_neg (by omega), e_cI, b_pos (by omega), e_rdQ _ _ _ _ _ (by omega), w1, e_cV, e_cI, e_wrZ _ _ _ _ _ _ (by omega) (Or.inr rfl), e_gF, set2_np _ _ _ _ _ _ (by omega), e26, hR.1.2.1.1]
  · rw [e_cP, if_neg (show ¬ (j : Int) < 0 by omega), if_neg (show ¬ 2 < (j : Int) by omega), b_neg (by decide), e_cI]
    have f121 : set2 h1 35 j 1 121 = h 121 := by rw [set2_ne 121 (by omega)]; exact e121
    generalize set2 h1 35 j 1 = g at f121
    refine join_gen (fun j4 hj4 => ?_)
    refine loopF_for' 289 (fun i => ((i : Int), keepR g j i)) ?_ ?_ ?_ (fu _ (by omega))
    · intro i hi self
      unfold g_X9_keep_l11
      dsimp only
      rw [e_cI, b_neg (by omega), e_cI, e_mul _ _ _ (by omega), e_add _ _ _ (by omega), e_rdn _ _ _ _ _ (by omega), keepR_ne (by omega), show 289 * (j : Int) + (i : Int) = ((289 * j + i : Nat) : Int) by omega, e_wrn _ _ _ _ _ _ (by omega), e_add _ _ _ (by omega), show ((i + 1 : Nat) : Int) = (i : Int) + 1 by omega]
      congr 1
      refine Prod.ext rfl ?_
      funext p k
      unfold set2 keepR
      dsimp only
      by_cases q : p = 123 ∧ k = 289 * j + i
      · rw [if_pos q, if_pos (by omega), show k - 289 * j = i by omega]
      · rw [if_neg q]
        by_cases q2 : p = 123 ∧ 289 * j ≤ k ∧ k < 289 * j + i
        · rw [if_pos q2, if_pos (by omega)]
        · rw [if_neg q2, if_neg (by omega)]
    · intro self
      unfold g_X9_keep_l11
      dsimp only
      rw [e_cI, b_pos (by omega), hj4, e_cI, e_wrZ _ _ _ _ _ _ (by omega) (Or.inr rfl), e_cI, e_rd _ _ _ _ _ (by omega), set2_np _ _ _ _ _ _ (by omega), keepR_ne (by omega), f121]
      rfl
    · refine Prod.ext rfl ?_
      funext p k
      dsimp only
      unfold keepR
      rw [if_neg (by omega)]
  · have fr : ∀ p, p ≠ 123 → p ≠ 124 → p ≠ 35 → p < 76 + 8 * j ∨ 76 + 8 * j + 8 ≤ p → set2 (keepR (set2 h1 35 j 1) j 289) 124 j 1 p = h p := by
      intro p a1 a2 a3 a4
      rw [set2_ne p a2, keepR_ne a1, set2_ne p a3]
      exact w3 p a4
    have sh : ∀ p, 76 + 8 * j ≤ p → p < 76 + 8 * j + 8 → set2 (keepR (set2 h1 35 j 1) j 289) 124 j 1 p = h1 p := by
      intro p a1 a2
      rw [set2_ne p (by omega), keepR_ne (by omega), set2_ne p (by omega)]
    have k35 : ∀ i, set2 (keepR (set2 h1 35 j 1) j 289) 124 j 1 35 i = if i = j then 1 else h 35 i := by
      intro i
      rw [set2_ne 35 (by omega), keepR_ne (by omega), ← w3 35 (by omega)]
      unfold set2
      by_cases q : i = j
      · rw [if_pos ⟨rfl, q⟩, if_pos q]
      · rw [if_neg (by omega), if_neg q]
    have k124 : ∀ i, set2 (keepR (set2 h1 35 j 1) j 289) 124 j 1 124 i = if i = j then 1 else h 124 i := by
      intro i
      rw [← w3 124 (by omega)]
      unfold set2
      by_cases q : i = j
      · rw [if_pos ⟨rfl, q⟩, if_pos q]
      · rw [if_neg (by omega), if_neg q, keepR_ne (by omega), if_neg (by omega)]
    have k123 : ∀ i, set2 (keepR (set2 h1 35 j 1) j 289) 124 j 1 123 i = if 289 * j ≤ i ∧ i < 289 * j + 289 then h 121 (i - 289 * j) else h 123 i := by
      intro i
      rw [set2_ne 123 (by omega)]
      unfold keepR
      by_cases q : 289 * j ≤ i ∧ i < 289 * j + 289
      · rw [if_pos ⟨rfl, q⟩, if_pos q, set2_ne 121 (by omega), e121]
      · rw [if_neg (by omega), if_neg q, set2_ne 123 (by omega), w3 123 (by omega)]
    generalize set2 (keepR (set2 h1 35 j 1) j 289) 124 j 1 = h2 at fr sh k35 k124 k123
    have e : TE h h2 := TE.of (fun p _ _ => fr p (by omega) (by omega) (by omega) (by omega))
    have e100 : h2 100 = h 100 := fr 100 (by omega) (by omega) (by omega) (by omega)
    have e0 : h2 0 = h 0 := fr 0 (by omega) (by omega) (by omega) (by omega)
    have e1 : h2 1 = h 1 := fr 1 (by omega) (by omega) (by omega) (by omega)
    refine ⟨hv.te e, ⟨c, rb.mv e (fun k _ => by rw [e0]) (fun p _ _ => fr p (by omega) (by omega) (by omega) (by omega)) (by rw [e100])⟩, ⟨v, rs.mv e (fun k _ => by rw [e0]) (fun p _ _ => fr p (by omega) (by omega) (by omega) (by omega)) (by rw [e100])⟩, rp.mv hv e (by rw [e0]) (fun p _ _ => fr p (by omega) (by omega) (by omega) (by omega)),
      NowR.mv ⟨hI, hR, h268⟩ (by omega) e (fun p _ _ => fr p (by omega) (by omega) (by omega) (by omega)) (fr 121 (by omega) (by omega) (by omega) (by omega)), fun i hi => ?_, rt.mv ⟨by rw [e1], fr 2 (by omega) (by omega) (by omega) (by omega), by rw [e100], fr 101 (by omega) (by omega) (by omega) (by omega)⟩, rf.mv ⟨by rw [e1], by rw [e1], by rw [e100], by rw [e100]⟩,
      ru.mv (fun p _ _ => fr p (by omega) (by omega) (by omega) (by omega)) (fun p _ _ => fr p (by omega) (by omega) (by omega) (by omega)) ⟨by rw [e100], by rw [e100], by rw [e100]⟩⟩
    by_cases q : i = j
    · subst q
      refine ⟨by rw [k35, k124, if_pos rfl, if_pos rfl], Or.inr ⟨by rw [k35, if_pos rfl], ?_⟩⟩
      have es : ∀ k, k < 289 → slotR h2 i k = h 121 k := by
        intro k hk
        unfold slotR
        rw [k123, if_pos (by omega), show 289 * i + k - 289 * i = k by omega]
      refine ⟨(r.nowI.cong hv es).te e, ((w2.cong9 hv hI.2.2.2.1 es).te e).hp (fun p a1 a2 => sh p a1 (by omega)), ?_⟩
      rw [es 268 (by omega), e100]
      exact h268
    · obtain ⟨a1, a2⟩ := rsl i hi
      have es : slotR h2 i = slotR h i ∨ True := Or.inr trivial
      have es : ∀ k, k < 289 → slotR h2 i k = slotR h i k := by
        intro k hk
        unfold slotR
        rw [k123, if_neg (by omega)]
      refine ⟨by rw [k35, k124, if_neg q, if_neg q]; exact a1, ?_⟩
      rw [k35, if_neg q]
      rcases a2 with a2 | ⟨a2, a3, a4, a5⟩
      · exact Or.inl a2
      · refine Or.inr ⟨a2, ((a3.mono (by omega)).cong hv es).te e, ((a4.cong9 hv a3.2.2.2.1 es).te e).hp (fun p b1 b2 => fr p (by omega) (by omega) (by omega) (by omega)), ?_⟩
        rw [es 268 (by omega), e100]
        exact a5
theorem s_take {n : Nat} {h : Hp} {x1 : Int} (r : Rel n h) : ∃ z h1 h2, g_X8_take x1 h = some (z, h1) ∧ g_X9_take x1 h1 = some (z, h2) ∧ Rel (n + 1) h2 := by
  have r' := r
  obtain ⟨hv, ⟨c, rb⟩, ⟨v, rs⟩, rp, ⟨hI, hR, h268⟩, rsl, rt, rf, ru⟩ := r'
  unfold g_X8_take g_X9_take
  rw [m_isSlot]
  by_cases b0 : 0 ≤ x1 ∧ x1 ≤ 2
  rotate_left
  · by_cases b1 : x1 < 0
    · refine ⟨-2, h, h, ?_, ?_, r.next⟩
      · (repeat (first | rw [e_i2l] | rw [e_cI] | rw [e_join] | rw [e_cP] | rw [e_gF] | rw [e_pF] | rw [e_cW] | rw [e_cV] | rw [e_in_t _ _ _ _ (by omega)] | rw [e_in_f _ _ _ _ (by omega)] | rw [b_pos (by omega)] | rw [b_neg (by omega)] | rw [e_add _ _ _ (by omega)] | rw [e_sub _ _ _ (by omega)] | rw [e_mul _ _ _ (by omega)] | rw [e_lsub _ _ _ (by omega)] | rw [e_rd _ _ _ _ _ (by omega)] | rw [b_pos True.intro] | rw [b_neg not_false] | simp only [Int.reduceToNat, Int.reduceSub, Int.reduceAdd, Int.reduceMul]))
      · rw [if_pos b1]
        (repeat (first | rw [e_i2l] | rw [e_cI] | rw [e_join] | rw [e_cP] | rw [e_gF] | rw [e_pF] | rw [e_cW] | rw [e_cV] | rw [e_in_t _ _ _ _ (by omega)] | rw [e_in_f _ _ _ _ (by omega)] | rw [b_pos (by omega)] | rw [b_neg (by omega)] | rw [e_add _ _ _ (by omega)] | rw [e_sub _ _ _ (by omega)] | rw [e_mul _ _ _ (by omega)] | rw [e_lsub _ _ _ (by omega)] | rw [e_rd _ _ _ _ _ (by omega)] | rw [b_pos True.intro] | rw [b_neg not_false] | simp only [Int.reduceToNat, Int.reduceSub, Int.reduceAdd, Int.reduceMul]))
    · refine ⟨-2, h, h, ?_, ?_, r.next⟩
      · (repeat (first | rw [e_i2l] | rw [e_cI] | rw [e_join] | rw [e_cP] | rw [e_gF] | rw [e_pF] | rw [e_cW] | rw [e_cV] | rw [e_in_t _ _ _ _ (by omega)] | rw [e_in_f _ _ _ _ (by omega)] | rw [b_pos (by omega)] | rw [b_neg (by omega)] | rw [e_add _ _ _ (by omega)] | rw [e_sub _ _ _ (by omega)] | rw [e_mul _ _ _ (by omega)] | rw [e_lsub _ _ _ (by omega)] | rw [e_rd _ _ _ _ _ (by omega)] | rw [b_pos True.intro] | rw [b_neg not_false] | simp only [Int.reduceToNat, Int.reduceSub, Int.reduceAdd, Int.reduceMul]))
      · rw [if_neg b1, if_pos (by omega)]
        (repeat (first | rw [e_i2l] | rw [e_cI] | rw [e_join] | rw [e_cP] | rw [e_gF] | rw [e_pF] | rw [e_cW] | rw [e_cV] | rw [e_in_t _ _ _ _ (by omega)] | rw [e_in_f _ _ _ _ (by omega)] | rw [b_pos (by omega)] | rw [b_neg (by omega)] | rw [e_add _ _ _ (by omega)] | rw [e_sub _ _ _ (by omega)] | rw [e_mul _ _ _ (by omega)] | rw [e_lsub _ _ _ (by omega)] | rw [e_rd _ _ _ _ _ (by omega)] | rw [b_pos True.intro] | rw [b_neg not_false] | simp only [Int.reduceToNat, Int.reduceSub, Int.reduceAdd, Int.reduceMul]))
  obtain ⟨j, rfl⟩ := Int.eq_ofNat_of_zero_le b0.1
  have hj : j < 3 := by omega
  obtain ⟨a1, a2⟩ := rsl j hj
  rw [e_join, b_neg (by omega), e_cI, b_pos (by omega), e_rdn _ _ _ _ _ (by omega)]
  rcases a2 with a2 | ⟨a2, a3, a4, a5⟩
  · refine ⟨-4, h, h, ?_, ?_, r.next⟩
    · rw [b_pos a2, e_cI]
    · rw [e_cP, if_neg (show ¬ (j : Int) < 0 by omega), if_neg (show ¬ 2 < (j : Int) by omega), b_neg (by decide), e_rdn _ _ _ _ _ (by omega), ← a1, b_pos a2, e_cI]
  obtain ⟨h1, w1, w2, w3⟩ := k_copyFrom (b := 26) hv (by omega) a3.2.2.2.1 a4
  have e121 : h1 121 = h 121 := w3 121 (by omega)
  have e123 : h1 123 = h 123 := w3 123 (by omega)
  have e124 : h1 124 = h 124 := w3 124 (by omega)
  refine ⟨slotR h j 270, h1, setRow h1 121 (fun k => if k < 289 then slotR h j k else h 121 k), ?_, ?_, ?_⟩
  · rw [b_neg (by omega), e_rdQ _ _ _ _ _ (by omega), w1, e_cV, e_gF, w2.1.2.1.1]
  · rw [e_cP, if_neg (show ¬ (j : Int) < 0 by omega), if_neg (show ¬ 2 < (j : Int) by omega), b_neg (by decide), e_rdn _ _ _ _ _ (by omega), e124, ← a1, b_neg (by omega), e_cI]
    refine loopF_for' 289 (fun i => ((i : Int), setRow h1 121 (fun k => if k < i then slotR h j k else h 121 k))) ?_ ?_ ?_ (fu _ (by omega))
    · intro i hi self
      unfold g_X9_take_l5
      dsimp only
      rw [e_cI, b_neg (by omega), e_cI, e_mul _ _ _ (by omega), e_add _ _ _ (by omega), show 289 * (j : Int) + (i : Int) = ((289 * j + i : Nat) : Int) by omega, e_rdn _ _ _ _ _ (by omega), setRow_ne _ _ _ _ (by omega), e123, e_wrn _ _ _ _ _ _ (by omega), e_add _ _ _ (by omega), show ((i + 1 : Nat) : Int) = (i : Int) + 1 by omega]
      congr 1
      refine Prod.ext rfl ?_
      dsimp only
      rw [set2_row, setRow_same, setRow_setRow]
      congr 1
      funext k
      unfold upd1
      dsimp only
      by_cases q : k = i
      · subst q
        rw [if_pos rfl, if_pos (by omega)]
        rfl
      · rw [if_neg q]
        by_cases q2 : k < i
        · rw [if_pos q2, if_pos (by omega)]
        · rw [if_neg q2, if_neg (by omega)]
    · intro self
      unfold g_X9_take_l5
      dsimp only
      rw [e_cI, b_pos (by omega), e_cI, e_rd _ _ _ _ _ (by omega), setRow_same]
      rfl
    · refine Prod.ext rfl ?_
      show h1 = setRow h1 121 (fun k => if k < 0 then slotR h j k else h 121 k)
      have : (fun k => if k < 0 then slotR h j k else h 121 k) = h1 121 := by
        funext k
        rw [if_neg (by omega), e121]
      rw [this, setRow_self]
  · have es : ∀ k, k < 289 → (fun k => if k < 289 then slotR h j k else h 121 k) k = slotR h j k := fun k hk => if_pos hk
    refine r.now (s := fun k => if k < 289 then slotR h j k else h 121 k) ((a3.mono (by omega)).cong hv es) ?_ ?_ ?_ ?_
    · exact (w2.cong9 hv a3.2.2.2.1 es).hp (fun p _ _ => setRow_ne _ _ _ _ (by omega))
    · exact a5
    · exact setRow_same _ _ _
    · intro p q1 q2
      rw [setRow_ne _ _ _ _ q1]
      exact w3 p (by omega)
