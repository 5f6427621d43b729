/-! CALLS: beach -/
section OPENS
variable {b : Nat → Int} {L : Nat}
theorem m_skip2 {g : Hp} {j2 : Hp → Option Hp} (hL : g 100 2 = (L : Int)) (h9 : L ≤ 900) (hb : ∀ k : Nat, k < 900 → BT (b k) (g 101 k)) : ∀ (n p F : Nat), p ≤ L → L - p ≤ n → n < F → loopF (g_X9_scan_l93 j2) F (set2 g 100 4 (p : Int)) = j2 (set2 g 100 4 (skP b L n p : Nat))
  | 0, p, F, h1, h2, h3 => by
    obtain ⟨F, rfl⟩ : ∃ z, F = z + 1 := ⟨F - 1, by omega⟩
    show g_X9_scan_l93 j2 (loopF _ F) (set2 g 100 4 (p : Int)) = _
    unfold g_X9_scan_l93 skP
    rw [e_gF, set2_same, e_gF, set2_nk _ _ _ _ _ _ (by omega), hL, b_pos (by omega)]
  | n + 1, p, F, h1, h2, h3 => by
    obtain ⟨F, rfl⟩ : ∃ z, F = z + 1 := ⟨F - 1, by omega⟩
    show g_X9_scan_l93 j2 (loopF _ F) (set2 g 100 4 (p : Int)) = _
    by_cases z : p < L
    rotate_left
    · unfold g_X9_scan_l93 skP
      rw [e_gF, set2_same, e_gF, set2_nk _ _ _ _ _ _ (by omega), hL, b_pos (by omega), if_neg z]
    have ih := m_skip2 (j2 := j2) hL h9 hb n (p + 1) F (by omega) (by omega) (by omega)
    generalize loopF (g_X9_scan_l93 j2) F = self at ih
    obtain ⟨t1, t2⟩ := hb p (by omega)
    unfold g_X9_scan_l93 skP
    rw [e_gF, set2_same, e_gF, set2_nk _ _ _ _ _ _ (by omega), hL, b_neg (by omega), e_gF, set2_same, e_rdn _ _ _ _ _ (by omega), set2_np _ _ _ _ _ _ (by omega), e_cI, if_pos z]
    refine join_gen (fun j hj => ?_)
    have go : j () = j2 (set2 g 100 4 (skP b L n (p + 1) : Nat)) := by
      rw [hj, e_gF, set2_same, e_cI, e_add _ _ _ (by omega), e_pF, show (p : Int) + 1 = ((p + 1 : Nat) : Int) by omega, show set2 (set2 g 100 4 (p : Int)) 100 4 ((p + 1 : Nat) : Int) = set2 g 100 4 ((p + 1 : Nat) : Int) by funext a j; unfold set2; split <;> rfl]
      exact ih
    by_cases y : b p = 32
    · rw [b_pos (by split at t2 <;> omega), if_pos y]; exact go
    rw [b_neg (by split at t2 <;> omega), e_gF, set2_same, e_rdn _ _ _ _ _ (by omega), set2_np _ _ _ _ _ _ (by omega), e_cI, if_neg y]
    by_cases y2 : b p = 10
    · rw [b_pos (by split at t2 <;> omega), if_pos y2]; exact go
    · rw [b_neg (by split at t2 <;> omega), if_neg y2]
theorem e_g4p3 {R : Type} (g : Hp) (K : Hp → Option R) : (gF g 100 4 fun z => pF g 100 3 z K) = K (set2 g 100 3 (g 100 4)) := nrfl rfl
theorem m_scan2 {h : Hp} (hL : h 100 2 = (L : Int)) (h9 : L ≤ 900) (hb : ∀ k : Nat, k < 900 → BT (b k) (h 101 k)) (hp : h 100 4 = 0) : g_X9_scan h = g_X9_scan (set2 h 100 3 0) := by
  have h0 : h = set2 h 100 4 ((0 : Nat) : Int) := by
    funext a j
    unfold set2
    split
    · rename_i q; rw [q.1, q.2, hp]; rfl
    · rfl
  have h1 : set2 h 100 3 0 = set2 (set2 h 100 3 0) 100 4 ((0 : Nat) : Int) := by
    funext a j
    by_cases q : a = 100 ∧ j = 4
    · obtain ⟨rfl, rfl⟩ := q
      rw [set2_same, set2_nk _ _ _ _ _ _ (by omega), hp]; rfl
    · rw [show set2 (set2 h 100 3 0) 100 4 ((0 : Nat) : Int) a j = set2 h 100 3 0 a j from if_neg q]
  have k1 := fun j2 => m_skip2 (b := b) (j2 := j2) hL h9 hb L 0 FU (by omega) (by omega) (fu _ (by omega))
  have k2 := fun j2 => m_skip2 (b := b) (g := set2 h 100 3 0) (j2 := j2) (by rw [set2_nk _ _ _ _ _ _ (by omega)]; exact hL) h9 (by rw [set2_ne 101 (by omega)]; exact hb) L 0 FU (by omega) (by omega) (fu _ (by omega))
  rw [← h0] at k1
  rw [← h1] at k2
  have r1 : ∀ (J : Hp → Option Hp), (joinF J fun j2 => loopF (g_X9_scan_l93 j2) FU h) = J (set2 h 100 4 (skP b L L 0 : Nat)) := fun J => by (rw [e_join]; (try dsimp only); rw [k1])
  have r2 : ∀ (J : Hp → Option Hp), (joinF J fun j2 => loopF (g_X9_scan_l93 j2) FU (set2 h 100 3 0)) = J (set2 (set2 h 100 3 0) 100 4 (skP b L L 0 : Nat)) := fun J => by (rw [e_join]; (try dsimp only); rw [k2])
  unfold g_X9_scan
  rw [r1, r2, e_g4p3, e_g4p3, set2_same, set2_same]
  have e : set2 (set2 h 100 4 (skP b L L 0 : Nat)) 100 3 (skP b L L 0 : Nat) = set2 (set2 (set2 h 100 3 0) 100 4 (skP b L L 0 : Nat)) 100 3 (skP b L L 0 : Nat) := by
    funext a j
    unfold set2
    by_cases q : a = 100 ∧ j = 3
    · rw [if_pos q, if_pos q]
    · rw [if_neg q, if_neg q]
      by_cases q2 : a = 100 ∧ j = 4
      · rw [if_pos q2, if_pos q2]
      · (try rw [if_neg q2, if_neg q2]); (first | rfl | rw [if_neg q])
  rw [e]
def stK (h : Hp) : Hp := set2 (set2 (set2 h 1 2 0) 1 6 0) 1 7 (-1)
theorem k_start {h : Hp} : g_X5_startReading 1 h = some (stK h) := by
  unfold g_X5_startReading
  rw [e_cI, e_pF, e_cI, e_pF, e_cI, e_pF]
  rfl
theorem stK_p {h : Hp} {p : Nat} (hp : p ≠ 1) : stK h p = h p := by unfold stK; rw [set2_ne p hp, set2_ne p hp, set2_ne p hp]
theorem stK_j {h : Hp} {j : Nat} (hj : j ≠ 2 ∧ j ≠ 6 ∧ j ≠ 7) : stK h 1 j = h 1 j := by unfold stK; rw [set2_nk _ _ _ _ _ _ (by omega), set2_nk _ _ _ _ _ _ (by omega), set2_nk _ _ _ _ _ _ (by omega)]
/-- a reading begins -/
theorem y_open {n : Nat} {h g : Hp} (r : Rel n h) (hg : ∀ p, 100 ≤ p → g p = h p) : ∃ L hm, g_X9_open g = some hm ∧ TX (h 2) L (stK h) hm ∧ AA (h 2) L (stK h) hm ∧ NF (stK h) hm ∧ (∀ p, p ≠ 100 → hm p = g p) ∧ (∀ j, 10 ≤ j → hm 100 j = g 100 j) ∧ hm 100 1 = 0 := by
  obtain ⟨t1, t2, t3⟩ := r.2.2.2.2.2.2.1
  obtain ⟨L, hL⟩ := Int.eq_ofNat_of_zero_le t2.1
  have g1 : g 100 1 = (L : Int) := by rw [hg 100 (by omega), ← t1, hL]
  unfold g_X9_open
  rw [e_gF, g1, e_pF, e_cI, e_pF, e_cI, e_pF, e_cI, e_pF, e_cI, e_pF]
  have f1 : ∀ j, j ≠ 1 → j ≠ 2 → j ≠ 4 → j ≠ 8 → j ≠ 9 → set2 (set2 (set2 (set2 (set2 g 100 2 (L : Int)) 100 1 0) 100 4 0) 100 8 0) 100 9 (-1) 100 j = g 100 j := fun j a1 a2 a3 a4 a5 => by
    rw [set2_nk _ _ _ _ _ _ a5, set2_nk _ _ _ _ _ _ a4, set2_nk _ _ _ _ _ _ a3, set2_nk _ _ _ _ _ _ a1, set2_nk _ _ _ _ _ _ a2]
  have f2 : ∀ p, p ≠ 100 → set2 (set2 (set2 (set2 (set2 g 100 2 (L : Int)) 100 1 0) 100 4 0) 100 8 0) 100 9 (-1) p = g p := fun p hp => by
    rw [set2_ne p hp, set2_ne p hp, set2_ne p hp, set2_ne p hp, set2_ne p hp]
  have v2 : set2 (set2 (set2 (set2 (set2 g 100 2 (L : Int)) 100 1 0) 100 4 0) 100 8 0) 100 9 (-1) 100 2 = (L : Int) := by
    rw [set2_nk _ _ _ _ _ _ (by omega), set2_nk _ _ _ _ _ _ (by omega), set2_nk _ _ _ _ _ _ (by omega), set2_nk _ _ _ _ _ _ (by omega), set2_same]
  have v1 : set2 (set2 (set2 (set2 (set2 g 100 2 (L : Int)) 100 1 0) 100 4 0) 100 8 0) 100 9 (-1) 100 1 = 0 := by
    rw [set2_nk _ _ _ _ _ _ (by omega), set2_nk _ _ _ _ _ _ (by omega), set2_nk _ _ _ _ _ _ (by omega), set2_same]
  have v4 : set2 (set2 (set2 (set2 (set2 g 100 2 (L : Int)) 100 1 0) 100 4 0) 100 8 0) 100 9 (-1) 100 4 = 0 := by
    rw [set2_nk _ _ _ _ _ _ (by omega), set2_nk _ _ _ _ _ _ (by omega), set2_same]
  have v8 : set2 (set2 (set2 (set2 (set2 g 100 2 (L : Int)) 100 1 0) 100 4 0) 100 8 0) 100 9 (-1) 100 8 = 0 := by
    rw [set2_nk _ _ _ _ _ _ (by omega), set2_same]
  have v9 : set2 (set2 (set2 (set2 (set2 g 100 2 (L : Int)) 100 1 0) 100 4 0) 100 8 0) 100 9 (-1) 100 9 = -1 := set2_same _ _ _ _
  generalize set2 (set2 (set2 (set2 (set2 g 100 2 (L : Int)) 100 1 0) 100 4 0) 100 8 0) 100 9 (-1) = gm at *
  have hb : ∀ k : Nat, k < 900 → BT (h 2 k) (gm 101 k) := by rw [f2 101 (by omega), hg 101 (by omega)]; exact t3
  have hb3 : ∀ k : Nat, k < 900 → BT (h 2 k) (set2 gm 100 3 0 101 k) := by rw [set2_ne 101 (by omega)]; exact hb
  obtain ⟨v, w1, w2⟩ := m_scan (b := h 2) (h := set2 gm 100 3 0) (L := L) (p := 0) (by rw [set2_nk _ _ _ _ _ _ (by omega)]; exact v2) (by omega) hb3 (by rw [set2_nk _ _ _ _ _ _ (by omega), v4]; rfl) (by omega) (by rw [set2_same]; omega)
  rw [m_scan2 (b := h 2) (L := L) v2 (by omega) hb v4, w1, e_cV]
  have tf := tokM_f (h := set2 gm 100 3 0) (q := tq (h 2) L 0) (e := te (h 2) L 0) (k := mkT (tk (h 2) L 0)) (v := v)
  have tj : ∀ j, (j < 3 ∨ 6 < j) → tokM (set2 gm 100 3 0) (tq (h 2) L 0) (te (h 2) L 0) (mkT (tk (h 2) L 0)) v 100 j = gm 100 j := fun j hj => by
    rw [tf.2.2.2.2 j hj, set2_nk _ _ _ _ _ _ (by omega)]
  refine ⟨L, _, rfl, ⟨stK_p (by omega), ?_, ?_, ?_, by omega⟩, ⟨0, rfl, by omega, tf.1, tf.2.1, tf.2.2.1, ?_⟩, ⟨rfl, ?_, rfl, ?_⟩, fun p hp => ?_, fun j hj => ?_, ?_⟩
  · rw [tokM_p (by omega), set2_ne 101 (by omega)]; exact hb
  · rw [stK_j (by omega), hL]
  · rw [tj 2 (by omega), v2]
  · intro q; rw [tf.2.2.2.1]; exact w2 q
  · rw [tj 8 (by omega), v8]
  · rw [tj 9 (by omega), v9]
  · rw [tokM_p hp, set2_ne p hp, f2 p hp]
  · rw [tj j (by omega), f1 j (by omega) (by omega) (by omega) (by omega) (by omega)]
  · rw [tj 1 (by omega), v1]
end OPENS
/-- a shore as it begins -/
def BG (P : Hp) (s : Nat → Int) : Prop :=
  (∀ c : Nat, c < nN P → s c = P 102 0 + P 104 c ∧ s (64 + c) = P 102 3 ∧ s (128 + c) = 0 ∧ s (192 + c) = P 108 c) ∧
  (s 268 = P 100 12 ∧ ∀ k : Nat, k < (P 100 12).toNat → s (256 + k) = P 106 k ∧ s (260 + k) = P 102 0 + P 104 (P 106 k).toNat ∧ s (264 + k) = -1) ∧
  (∀ j, 269 ≤ j → j < 275 → s j = 0) ∧ s 275 = -1
theorem sumN_le {f : Nat → Int} {B : Int} : ∀ {n : Nat}, (∀ i, i < n → f i ≤ B) → sumN f n ≤ n * B
  | 0, _ => by simp [sumN]
  | n + 1, h => by
    have ih := sumN_le (f := f) (B := B) (n := n) (fun i hi => h i (by omega))
    have h1 := h n (by omega)
    show sumN f n + f n ≤ _
    rw [show ((n + 1 : Nat) : Int) * B = n * B + B by rw [Int.natCast_add, Int.add_mul]; simp]
    omega
theorem BG.iv {P : Hp} {s : Nat → Int} {T : Int} (hv : PV P) (g : BG P s) (hT : 0 ≤ T) (k : KV s) : IV P 6336 T s := by
  obtain ⟨g1, ⟨g2, g3⟩, g4, g5⟩ := g
  have hn := hv.n
  obtain ⟨p12, p106, pc⟩ := pv_flags hv
  have h0 := hv.2.2.1
  have h3 := hv.2.2.2.2.2.1
  refine ⟨fun c hc => ?_, ⟨?_, ?_⟩, ⟨?_, ?_, fun j hj => ?_⟩, ⟨?_, ?_⟩, k⟩
  · obtain ⟨e1, e2, e3, e4⟩ := g1 c hc
    have := pc c (by omega)
    rw [e1, e2, e3, e4]
    exact ⟨by omega, h3, by omega, this.2⟩
  · rw [g4 269 (by omega) (by omega)]; omega
  · rw [g4 269 (by omega) (by omega)]
    have := sumN_le (f := s) (B := 99) (n := nN P) (fun i hi => by rw [(g1 i hi).1]; have := pc i (by omega); omega)
    omega
  · rw [g4 270 (by omega) (by omega)]; omega
  · rw [g2]; omega
  · rw [g2] at hj
    obtain ⟨e1, e2, e3⟩ := g3 j hj
    have f := p106 j hj
    have := pc (P 106 j).toNat (by omega)
    rw [e1, e2, e3, g4 270 (by omega) (by omega)]
    exact ⟨f, by omega, by omega⟩
  · have := (pv_plan hv).1
    rw [g5]; omega
  · intro q; exact absurd g5 q
/-- the class begins a shore -/
theorem k_begin0 {h : Hp} {b c : Nat} (hd : c + 6 ≤ b) (h0 : 0 ≤ h (c + 1) 2 ∧ h (c + 1) 2 ≤ 40) (hh : ∀ k, k < 64 → 0 ≤ h (c + 2) k ∧ h (c + 2) k ≤ 59) : ∃ h', g_X3_begin b c h = some h' ∧ Fr b h h' ∧
    (∀ k, k < 64 → h' (b + 1) k = h (c + 1) 2 + h (c + 2) k ∧ h' (b + 4) k = h (c + 3) k ∧ h' (b + 2) k = h (c + 1) 5 ∧ h' (b + 3) k = 0) ∧ (∀ k, k < 3 → h' (b + 5) k = -1) ∧
    (h' b 7 = -1 ∧ h' b 9 = 0 ∧ h' b 10 = 0 ∧ h' b 11 = 0 ∧ h' b 12 = 0 ∧ h' b 13 = 0 ∧ h' b 14 = 0 ∧ h' b 15 = 0 ∧ h' b 8 = h b 8) := by
  unfold g_X3_begin
  rw [e_cI]
  refine join_ex (fun j3 hj3 => ?_)
  refine loopF_ex 64 (fun i q => q.1 = (i : Int) ∧ Fr b h q.2 ∧ q.2 b = h b ∧ ∀ k, k < i → q.2 (b + 1) k = h (c + 1) 2 + h (c + 2) k ∧ q.2 (b + 4) k = h (c + 3) k) ?_ ?_ FU 0 _ (Nat.zero_le _) (fu _ (by omega)) ⟨rfl, Fr.rf, rfl, fun k hk => by omega⟩
  · intro i q hi hq self
    obtain ⟨q1, g⟩ := q
    obtain ⟨rfl, f1, f2, f3⟩ := hq
    dsimp only at f1 f2 f3
    left
    have r1 : ∀ p, c ≤ p → p ≤ c + 5 → g p = h p := fun p h1 h2 => f1 p (by omega)
    have fh : g_X0_firstHeight c (i : Int) g = some (h (c + 1) 2 + h (c + 2) i) := by
      unfold g_X0_firstHeight
      have := hh i hi
      refine join_gen (fun j2 hj2 => join_gen (fun j5 hj5 => ?_))
      rw [b_neg (by omega), e_cI, b_neg (by omega), e_cI, e_rd _ _ _ _ _ (by omega), e_rdn _ _ _ _ _ (by omega), r1 (c + 2) (by omega) (by omega), r1 (c + 1) (by omega) (by omega)]
      simp only [Int.reduceToNat]
      rw [e_add _ _ _ (by omega), hj2]
    refine ⟨(((i + 1 : Nat) : Int), set2 (set2 g (b + 1) i (h (c + 1) 2 + h (c + 2) i)) (b + 4) i (h (c + 3) i)), ⟨rfl, (f1.tr (Fr.set (by omega))).tr (Fr.set (by omega)), ?_, fun k hk => ?_⟩, ?_⟩
    · dsimp only
      rw [set2_ne b (by omega), set2_ne b (by omega)]; exact f2
    · dsimp only
      by_cases y : k = i
      · rw [y, set2_np _ _ _ _ _ _ (by omega), set2_same, set2_same]; exact ⟨rfl, rfl⟩
      · rw [set2_nk _ _ _ _ _ _ y, set2_nk _ _ _ _ _ _ y, set2_nk _ _ _ _ _ _ y, set2_nk _ _ _ _ _ _ y]; exact f3 k (by omega)
    · unfold g_X3_begin_l29
      dsimp only
      rw [e_cI, b_neg (by omega), fh, e_cP, e_wrn _ _ _ _ _ _ (by omega), e_rdn _ _ _ _ _ (by omega), set2_np _ _ _ _ _ _ (by omega), r1 (c + 3) (by omega) (by omega), e_wrn _ _ _ _ _ _ (by omega), e_add _ _ _ (by omega), show (i : Int) + 1 = ((i + 1 : Nat) : Int) by omega]
  · intro q hq self
    obtain ⟨q1, g⟩ := q
    obtain ⟨rfl, f1, f2, f3⟩ := hq
    dsimp only at f1 f2 f3
    unfold g_X3_begin_l29
    dsimp only
    rw [e_cI, b_pos (by omega), hj3, e_cI, e_rd _ _ _ _ _ (by omega), f1 (c + 1) (by omega), e_fill, e_cV, e_cI, e_fill, e_cV, e_cI, e_fill, e_cV, e_cI]
    unfold g_X3_hold
    rw [e_pF, e_cI, e_fill, e_cV, e_cI, e_fill, e_cV, e_cV, e_cI, e_pF, e_cI, e_pF, e_cI, e_pF, e_cI, e_pF, e_cI, e_pF, e_cI, e_pF, e_cI, e_pZ _ _ _ _ _ (by omega)]
    refine ⟨_, rfl, ?_⟩
    simp only [Int.reduceToNat]
    have e0 : ∀ (u : Hp) (p : Nat), p ≠ b → set2 (set2 (set2 (set2 (set2 (set2 (set2 u b 9 0) b 10 0) b 11 0) b 12 0) b 13 0) b 14 0) b 15 0 p = u p := fun u p hp => by
      rw [set2_ne p hp, set2_ne p hp, set2_ne p hp, set2_ne p hp, set2_ne p hp, set2_ne p hp, set2_ne p hp]
    have e1 : ∀ (u : Hp) (j : Nat), j ≠ 9 → j ≠ 10 → j ≠ 11 → j ≠ 12 → j ≠ 13 → j ≠ 14 → j ≠ 15 → set2 (set2 (set2 (set2 (set2 (set2 (set2 u b 9 0) b 10 0) b 11 0) b 12 0) b 13 0) b 14 0) b 15 0 b j = u b j := fun u j a1 a2 a3 a4 a5 a6 a7 => by
      rw [set2_nk _ _ _ _ _ _ a7, set2_nk _ _ _ _ _ _ a6, set2_nk _ _ _ _ _ _ a5, set2_nk _ _ _ _ _ _ a4, set2_nk _ _ _ _ _ _ a3, set2_nk _ _ _ _ _ _ a2, set2_nk _ _ _ _ _ _ a1]
    have e2 : ∀ (u : Hp) (j : Nat), 9 ≤ j → j ≤ 15 → set2 (set2 (set2 (set2 (set2 (set2 (set2 u b 9 0) b 10 0) b 11 0) b 12 0) b 13 0) b 14 0) b 15 0 b j = 0 := fun u j a1 a2 => by
      unfold set2
      rcases (by omega : j = 9 ∨ j = 10 ∨ j = 11 ∨ j = 12 ∨ j = 13 ∨ j = 14 ∨ j = 15) with rfl | rfl | rfl | rfl | rfl | rfl | rfl <;> simp
    refine ⟨fun p hp => ?_, fun k hk => ⟨?_, ?_, ?_, ?_⟩, fun k hk => ?_, ?_, e2 _ 9 (by omega) (by omega), e2 _ 10 (by omega) (by omega), e2 _ 11 (by omega) (by omega), e2 _ 12 (by omega) (by omega), e2 _ 13 (by omega) (by omega), e2 _ 14 (by omega) (by omega), e2 _ 15 (by omega) (by omega), ?_⟩
    · rw [e0 _ p (by omega), fillR_ne (by omega), fillR_ne (by omega), set2_ne p (by omega), fillR_ne (by omega), fillR_ne (by omega), fillR_ne (by omega)]
      exact f1 p hp
    · rw [e0 _ _ (by omega), fillR_ne (by omega), fillR_ne (by omega), set2_ne _ (by omega), fillR_ne (by omega), fillR_ne (by omega), fillR_ne (by omega)]
      exact (f3 k hk).1
    · rw [e0 _ _ (by omega), fillR_ne (by omega), fillR_ne (by omega), set2_ne _ (by omega), fillR_ne (by omega), fillR_ne (by omega), fillR_ne (by omega)]
      exact (f3 k hk).2
    · rw [e0 _ _ (by omega), fillR_ne (by omega), fillR_ne (by omega), set2_ne _ (by omega), fillR_ne (by omega), fillR_ne (by omega), fillR_in hk]
    · rw [e0 _ _ (by omega), fillR_ne (by omega), fillR_ne (by omega), set2_ne _ (by omega), fillR_ne (by omega), fillR_in hk]
    · rw [e0 _ _ (by omega), fillR_ne (by omega), fillR_ne (by omega), set2_ne _ (by omega), fillR_in hk]
    · rw [e1 _ 7 (by omega) (by omega) (by omega) (by omega) (by omega) (by omega) (by omega), fillR_ne (by omega), fillR_ne (by omega), set2_same]
    · rw [e1 _ 8 (by omega) (by omega) (by omega) (by omega) (by omega) (by omega) (by omega), fillR_ne (by omega), fillR_ne (by omega), set2_nk _ _ _ _ _ _ (by omega), fillR_ne (by omega), fillR_ne (by omega), fillR_ne (by omega), f2]
/-- the model begins the shore -/
theorem m_putFlag1 {g : Hp} {c m : Nat} {s : Nat → Int} (hc : c < 64) (hm : m ≤ 3) (e : s 268 = (m : Int)) : g_X9_putFlag 121 (c : Int) (setRow g 121 s) = some (setRow g 121 (twR s c m)) := by
  unfold g_X9_putFlag
  rw [e_cI, e_rd _ _ _ _ _ (by omega), setRow_same, show (268 : Int).toNat = 268 from rfl, e, e_cI, e_add _ _ _ (by omega), e_wrR _ _ _ _ _ _ (by omega), setRow_same, setRow_setRow, show ((256 : Int) + (m : Int)).toNat = 256 + m by omega, e_cI, e_add _ _ _ (by omega), e_cI, e_add _ _ _ (by omega), e_rd _ _ _ _ _ (by omega), setRow_same, show ((0 : Int) + (c : Int)).toNat = c by omega, upd1_ne _ _ _ _ (by omega), e_wrR _ _ _ _ _ _ (by omega), setRow_same, setRow_setRow, show ((260 : Int) + (m : Int)).toNat = 260 + m by omega, e_cI, e_add _ _ _ (by omega), e_cI, e_wrR _ _ _ _ _ _ (by omega), setRow_same, setRow_setRow, show ((264 : Int) + (m : Int)).toNat = 264 + m by omega, e_cI, e_rd _ _ _ _ _ (by omega), setRow_same, show (268 : Int).toNat = 268 from rfl, upd1_ne _ _ _ _ (by omega), upd1_ne _ _ _ _ (by omega), upd1_ne _ _ _ _ (by omega), e, e_cI, e_add _ _ _ (by omega), e_wrR _ _ _ _ _ _ (by omega), setRow_same, setRow_setRow]
  rfl
theorem m_beginNow {h : Hp} (hv : PV h) : ∃ h', g_X9_beginNow h = some h' ∧ (∀ p, p ≠ 121 → h' p = h p) ∧ BG h (h' 121) ∧ h' 121 288 = h 121 288 := by
  have hn := hv.n
  obtain ⟨p12, p106, pc⟩ := pv_flags hv
  have h0 := hv.2.2.1
  have h3 := hv.2.2.2.2.2.1
  have e10 : h 100 10 * h 100 11 = (nN h : Int) := by rw [hv.cr.1, hv.cr.2.1, PV.nn]
  obtain ⟨N, hN⟩ := Int.eq_ofNat_of_zero_le p12.1
  unfold g_X9_beginNow
  rw [e_cI, e_rd _ _ _ _ _ (by omega), e_cI]
  refine join_ex (fun j5 hj5 => ?_)
  refine loopF_ex 289 (fun i q => q.1 = (i : Int) ∧ (∀ p, p ≠ 121 → q.2 p = h p) ∧ ∀ j, j < i → q.2 121 j = 0) ?_ ?_ FU 0 _ (Nat.zero_le _) (fu _ (by omega)) ⟨rfl, fun _ _ => rfl, fun k hk => by omega⟩
  · intro i q hi hq self
    obtain ⟨q1, g⟩ := q
    obtain ⟨rfl, f1, f2⟩ := hq
    dsimp only at f1 f2
    left
    refine ⟨(((i + 1 : Nat) : Int), set2 g 121 i 0), ⟨rfl, fun p hp => by dsimp only; rw [set2_ne p hp]; exact f1 p hp, fun k hk => ?_⟩, ?_⟩
    · dsimp only
      by_cases y : k = i
      · rw [y, set2_same]
      · rw [set2_nk _ _ _ _ _ _ y]; exact f2 k (by omega)
    · unfold g_X9_beginNow_l58
      dsimp only
      rw [e_cI, b_neg (by omega), e_cI, e_wrn _ _ _ _ _ _ (by omega), e_add _ _ _ (by omega), show (i : Int) + 1 = ((i + 1 : Nat) : Int) by omega]
  intro q hq self
  obtain ⟨q1, g⟩ := q
  obtain ⟨rfl, f1, f2⟩ := hq
  dsimp only at f1 f2
  unfold g_X9_beginNow_l58
  dsimp only
  rw [e_cI, b_pos (by omega), hj5, e_cI]
  clear self
  refine join_ex (fun j9 hj9 => ?_)
  refine loopF_ex (nN h) (fun i q => q.1 = (i : Int) ∧ (∀ p, p ≠ 121 → q.2 p = h p) ∧ (∀ c, c < i → q.2 121 c = h 102 0 + h 104 c ∧ q.2 121 (64 + c) = h 102 3 ∧ q.2 121 (192 + c) = h 108 c) ∧ ∀ j, 128 ≤ j → j < 192 ∨ 256 ≤ j → j < 289 → q.2 121 j = 0) ?_ ?_ FU 0 _ (Nat.zero_le _) (fu _ (by omega)) ⟨rfl, f1, fun k hk => by omega, fun j _ _ hj => f2 j hj⟩
  · intro i q hi hq self
    obtain ⟨q1, g⟩ := q
    obtain ⟨rfl, g1, g2, g3⟩ := hq
    dsimp only at g1 g2 g3
    left
    have ci := pc i (by omega)
    refine ⟨(((i + 1 : Nat) : Int), set2 (set2 (set2 g 121 i (h 102 0 + h 104 i)) 121 (64 + i) (h 102 3)) 121 (192 + i) (h 108 i)), ⟨rfl, fun p hp => by dsimp only; rw [set2_ne p hp, set2_ne p hp, set2_ne p hp]; exact g1 p hp, fun k hk => ?_, fun j h1 h2 h3 => ?_⟩, ?_⟩
    · dsimp only
      rw [set2_nk _ _ _ _ _ k (by omega), set2_nk _ _ _ _ _ k (by omega), set2_nk _ _ _ _ _ (64 + k) (by omega)]
      by_cases y : k = i
      · subst y
        rw [set2_same, set2_same, set2_same]
        exact ⟨rfl, rfl, rfl⟩
      · rw [set2_nk _ _ _ _ _ _ y, set2_nk _ _ _ _ _ (64 + k) (by omega), set2_nk _ _ _ _ _ (64 + k) (by omega), set2_nk _ _ _ _ _ (192 + k) (by omega), set2_nk _ _ _ _ _ (192 + k) (by omega), set2_nk _ _ _ _ _ (192 + k) (by omega)]
        exact g2 k (by omega)
    · dsimp only
      rw [set2_nk _ _ _ _ _ _ (by omega), set2_nk _ _ _ _ _ _ (by omega), set2_nk _ _ _ _ _ _ (by omega)]
      exact g3 j h1 h2 h3
    · unfold g_X9_beginNow_l29
      dsimp only
      rw [e_gF, g1 100 (by omega), e_gF, g1 100 (by omega), e_mul _ _ _ (by omega), e10, b_neg (by omega), e_cI, e_add _ _ _ (by omega), e_cI, e_rd _ _ _ _ _ (by omega), e_rdn _ _ _ _ _ (by omega), g1 102 (by omega), g1 104 (by omega)]
      simp only [Int.reduceToNat]
      rw [e_add _ _ _ (by omega), Int.zero_add, e_wrn _ _ _ _ _ _ (by omega), e_cI, e_add _ _ _ (by omega), show (64 : Int) + (i : Int) = ((64 + i : Nat) : Int) by omega, e_cI, e_rd _ _ _ _ _ (by omega), set2_ne 102 (by omega), g1 102 (by omega)]
      simp only [Int.reduceToNat]
      rw [e_wrn _ _ _ _ _ _ (by omega), e_cI, e_add _ _ _ (by omega), show (192 : Int) + (i : Int) = ((192 + i : Nat) : Int) by omega, e_rdn _ _ _ _ _ (by omega), set2_ne 108 (by omega), set2_ne 108 (by omega), g1 108 (by omega)]
      refine join_gen (fun j51 hj51 => ?_)
      rcases ci.2 with y | y
      · rw [b_pos y, e_cI, hj51, e_wrn _ _ _ _ _ _ (by omega), e_add _ _ _ (by omega), show (i : Int) + 1 = ((i + 1 : Nat) : Int) by omega, y]
      · rw [b_neg (by omega), e_cI, hj51, e_wrn _ _ _ _ _ _ (by omega), e_add _ _ _ (by omega), show (i : Int) + 1 = ((i + 1 : Nat) : Int) by omega, y]
  intro q hq self
  obtain ⟨q1, g⟩ := q
  obtain ⟨rfl, g1, g2, g3⟩ := hq
  dsimp only at g1 g2 g3
  unfold g_X9_beginNow_l29
  dsimp only
  rw [e_gF, g1 100 (by omega), e_gF, g1 100 (by omega), e_mul _ _ _ (by omega), e10, b_pos (by omega), hj9, e_cI]
  clear self
  refine join_ex (fun j13 hj13 => ?_)
  refine loopF_ex N (fun i q => q.1 = (i : Int) ∧ (∀ p, p ≠ 121 → q.2 p = h p) ∧ (∀ c, c < 256 → q.2 121 c = g 121 c) ∧ (q.2 121 268 = (i : Int) ∧ ∀ k, k < i → q.2 121 (256 + k) = h 106 k ∧ q.2 121 (260 + k) = h 102 0 + h 104 (h 106 k).toNat ∧ q.2 121 (264 + k) = -1) ∧ ∀ j, 269 ≤ j → j < 289 → q.2 121 j = 0) ?_ ?_ FU 0 _ (Nat.zero_le _) (fu _ (by omega)) ⟨rfl, g1, fun _ _ => rfl, ⟨g3 268 (by omega) (by omega) (by omega), fun k hk => by omega⟩, fun j h1 h2 => g3 j (by omega) (by omega) h2⟩
  · intro i q hi hq self
    obtain ⟨q1, u⟩ := q
    obtain ⟨rfl, u1, u2, ⟨u3, u4⟩, u5⟩ := hq
    dsimp only at u1 u2 u3 u4 u5
    left
    have fi := p106 i (by omega)
    obtain ⟨c, hc⟩ := Int.eq_ofNat_of_zero_le fi.1
    have pf := m_putFlag1 (g := u) (c := c) (m := i) (s := u 121) (by omega) (by omega) u3
    rw [setRow_self] at pf
    have uc : u 121 c = h 102 0 + h 104 c := by rw [u2 c (by omega)]; exact (g2 c (by omega)).1
    refine ⟨(((i + 1 : Nat) : Int), setRow u 121 (twR (u 121) c i)), ⟨rfl, fun p hp => by dsimp only; rw [setRow_ne _ _ _ _ hp]; exact u1 p hp, fun k hk => ?_, ⟨?_, fun k hk => ?_⟩, fun j h1 h2 => ?_⟩, ?_⟩
    · dsimp only
      rw [setRow_same]
      unfold twR
      rw [upd1_ne _ _ _ _ (by omega), upd1_ne _ _ _ _ (by omega), upd1_ne _ _ _ _ (by omega), upd1_ne _ _ _ _ (by omega)]
      exact u2 k hk
    · dsimp only
      rw [setRow_same]
      unfold twR
      rw [upd1_same]; omega
    · dsimp only
      rw [setRow_same]
      unfold twR
      rw [upd1_ne _ _ _ (256 + k) (by omega), upd1_ne _ _ _ (260 + k) (by omega), upd1_ne _ _ _ (264 + k) (by omega)]
      by_cases y : k = i
      · subst y
        rw [upd1_ne _ _ _ (256 + k) (by omega), upd1_ne _ _ _ (256 + k) (by omega), upd1_same, upd1_ne _ _ _ (260 + k) (by omega), upd1_same, upd1_same, hc, uc, Int.toNat_natCast]
        exact ⟨rfl, rfl, rfl⟩
      · rw [upd1_ne _ _ _ (256 + k) (by omega), upd1_ne _ _ _ (256 + k) (by omega), upd1_ne _ _ _ (256 + k) (by omega), upd1_ne _ _ _ (260 + k) (by omega), upd1_ne _ _ _ (260 + k) (by omega), upd1_ne _ _ _ (260 + k) (by omega), upd1_ne _ _ _ (264 + k) (by omega), upd1_ne _ _ _ (264 + k) (by omega), upd1_ne _ _ _ (264 + k) (by omega)]
        exact u4 k (by omega)
    · dsimp only
      rw [setRow_same]
      unfold twR
      rw [upd1_ne _ _ _ _ (by omega), upd1_ne _ _ _ _ (by omega), upd1_ne _ _ _ _ (by omega), upd1_ne _ _ _ _ (by omega)]
      exact u5 j h1 h2
    · unfold g_X9_beginNow_l21
      dsimp only
      rw [e_gF, u1 100 (by omega), hN, b_neg (by omega), e_rdn _ _ _ _ _ (by omega), u1 106 (by omega), hc, pf, e_cV, e_add _ _ _ (by omega), show (i : Int) + 1 = ((i + 1 : Nat) : Int) by omega]
  intro q hq self
  obtain ⟨q1, u⟩ := q
  obtain ⟨rfl, u1, u2, ⟨u3, u4⟩, u5⟩ := hq
  dsimp only at u1 u2 u3 u4 u5
  unfold g_X9_beginNow_l21
  dsimp only
  rw [e_gF, u1 100 (by omega), hN, b_pos (by omega), hj13, e_cI, e_cI, e_wr _ _ _ _ _ _ (by omega), e_cI, e_wr _ _ _ _ _ _ (by omega)]
  simp only [Int.reduceToNat]
  refine ⟨_, rfl, fun p hp => by rw [set2_ne p hp, set2_ne p hp]; exact u1 p hp, ⟨fun c hc => ?_, ⟨?_, fun k hk => ?_⟩, fun j h1 h2 => ?_, ?_⟩, set2_same _ _ _ _⟩
  · rw [set2_nk _ _ _ _ _ c (by omega), set2_nk _ _ _ _ _ c (by omega), set2_nk _ _ _ _ _ (64 + c) (by omega), set2_nk _ _ _ _ _ (64 + c) (by omega), set2_nk _ _ _ _ _ (128 + c) (by omega), set2_nk _ _ _ _ _ (128 + c) (by omega), set2_nk _ _ _ _ _ (192 + c) (by omega), set2_nk _ _ _ _ _ (192 + c) (by omega), u2 c (by omega), u2 (64 + c) (by omega), u2 (128 + c) (by omega), u2 (192 + c) (by omega), g3 (128 + c) (by omega) (by omega) (by omega)]
    have := g2 c hc
    exact ⟨this.1, this.2.1, rfl, this.2.2⟩
  · rw [set2_nk _ _ _ _ _ _ (by omega), set2_nk _ _ _ _ _ _ (by omega), u3, hN]
  · rw [set2_nk _ _ _ _ _ (256 + k) (by omega), set2_nk _ _ _ _ _ (256 + k) (by omega), set2_nk _ _ _ _ _ (260 + k) (by omega), set2_nk _ _ _ _ _ (260 + k) (by omega), set2_nk _ _ _ _ _ (264 + k) (by omega), set2_nk _ _ _ _ _ (264 + k) (by omega)]
    exact u4 k (by omega)
  · rw [set2_nk _ _ _ _ _ _ (by omega), set2_nk _ _ _ _ _ _ (by omega)]
    exact u5 j h1 (by omega)
  · rw [set2_nk _ _ _ _ _ _ (by omega), set2_same]
