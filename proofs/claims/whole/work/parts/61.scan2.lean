/-! READING: the model's scan; both together -/
def TX (b : Nat → Int) (L : Nat) (hc hm : Hp) : Prop := hc 2 = b ∧ (∀ k : Nat, k < 900 → BT (b k) (hm 101 k)) ∧ hc 1 1 = (L : Int) ∧ hm 100 2 = (L : Int) ∧ L ≤ 900
def tokM (h : Hp) (q e : Nat) (hand v : Int) : Hp := fun p j => if p = 100 then (if j = 3 then (q : Int) else if j = 4 then (e : Int) else if j = 5 then hand else if j = 6 then v else h 100 j) else h p j
theorem tokM_p {h : Hp} {q e p : Nat} {k v : Int} (hp : p ≠ 100) : tokM h q e k v p = h p := by
  funext j
  unfold tokM
  rw [if_neg hp]
theorem tokM_f {h : Hp} {q e : Nat} {k v : Int} : tokM h q e k v 100 3 = (q : Int) ∧ tokM h q e k v 100 4 = (e : Int) ∧ tokM h q e k v 100 5 = k ∧ tokM h q e k v 100 6 = v ∧ ∀ j, (j < 3 ∨ 6 < j) → tokM h q e k v 100 j = h 100 j := by
  refine ⟨rfl, rfl, rfl, rfl, fun j hj => ?_⟩
  unfold tokM
  rw [if_pos rfl, if_neg (by omega), if_neg (by omega), if_neg (by omega), if_neg (by omega)]
theorem tokM_self {h : Hp} {q e : Nat} {k v : Int} (h3 : h 100 3 = (q : Int)) (h4 : h 100 4 = (e : Int)) (h5 : h 100 5 = k) (h6 : h 100 6 = v) : tokM h q e k v = h := by
  funext p j
  unfold tokM
  by_cases z : p = 100
  · subst z
    rw [if_pos rfl]
    by_cases j3 : j = 3
    · rw [if_pos j3, j3, h3]
    rw [if_neg j3]
    by_cases j4 : j = 4
    · rw [if_pos j4, j4, h4]
    rw [if_neg j4]
    by_cases j5 : j = 5
    · rw [if_pos j5, j5, h5]
    rw [if_neg j5]
    by_cases j6 : j = 6
    · rw [if_pos j6, j6, h6]
    · rw [if_neg j6]
  · rw [if_neg z]
theorem tokM_set3 {h : Hp} {q e x : Nat} {k v : Int} : set2 (tokM h q e k v) 100 3 (x : Int) = tokM h x e k v := by
  funext p j; unfold tokM set2
  by_cases z : p = 100
  · subst z; by_cases y : j = 3
    · simp [y]
    · simp [y]
  · simp [z]
theorem tokM_set4 {h : Hp} {q e x : Nat} {k v : Int} : set2 (tokM h q e k v) 100 4 (x : Int) = tokM h q x k v := by
  funext p j; unfold tokM set2
  by_cases z : p = 100
  · subst z; by_cases y : j = 4
    · simp [y]
    · simp [y]
  · simp [z]
theorem tokM_set5 {h : Hp} {q e : Nat} {k v x : Int} : set2 (tokM h q e k v) 100 5 x = tokM h q e x v := by
  funext p j; unfold tokM set2
  by_cases z : p = 100
  · subst z; by_cases y : j = 5
    · simp [y]
    · simp [y]
  · simp [z]
theorem tokM_set6 {h : Hp} {q e : Nat} {k v x : Int} : set2 (tokM h q e k v) 100 6 x = tokM h q e k x := by
  funext p j; unfold tokM set2
  by_cases z : p = 100
  · subst z; by_cases y : j = 6
    · simp [y]
    · simp [y]
  · simp [z]
theorem BT_and {x y : Int} (h : BT x y) : (iI y &&& iI 255).toInt = x := by
  obtain ⟨h1, h2⟩ := h
  rw [and255 (by unfold inR; split at h2 <;> omega)]
  split at h2 <;> omega
section SCANS
variable {b : Nat → Int} {h : Hp} {L : Nat}
theorem m_byteAt {g : Hp} {p : Nat} (hL : g 100 2 = (L : Int)) (h9 : L ≤ 900) (hb : ∀ k : Nat, k < 900 → BT (b k) (g 101 k)) : g_X9_byteAt (p : Int) g = some (if p < L then b p else 0) := by
  unfold g_X9_byteAt
  (rw [e_gF, hL, e_join]; (try dsimp only))
  by_cases z : p < L
  · rw [b_neg (by omega), e_rdn _ _ _ _ _ (by omega), e_cI]
    have e : ∀ K : Int → Option Int, andI (g 101 p) 255 K = K (b p) := fun K => by
      show K (iI (g 101 p) &&& iI 255).toInt = _
      rw [BT_and (hb p (by omega))]
    rw [e, if_pos z]
  · rw [b_pos (by omega), e_cI, if_neg z]
theorem m_isSmall (x : Int) : g_X9_isSmall x = some (if kdP x = 1 then 1 else 0) := by
  unfold g_X9_isSmall kdP
  (rw [e_cI, e_join]; (try dsimp only); rw [e_join]; (try dsimp only))
  by_cases z : x < 97
  · rw [b_pos z, e_cI, if_neg (show ¬ (97 ≤ x ∧ x ≤ 122) by omega)]
    have : ¬ (if 48 ≤ x ∧ x ≤ 57 then (2 : Int) else if x = 59 then 3 else 0) = 1 := by split <;> (try split) <;> omega
    rw [if_neg this]; exact e_retZ0
  rw [b_neg z, e_cI]
  by_cases y : 122 < x
  · rw [b_pos y, e_cI, if_neg (show ¬ (97 ≤ x ∧ x ≤ 122) by omega)]
    have : ¬ (if 48 ≤ x ∧ x ≤ 57 then (2 : Int) else if x = 59 then 3 else 0) = 1 := by split <;> (try split) <;> omega
    rw [if_neg this]; exact e_retZ0
  · rw [b_neg y, e_cI, if_pos (show 97 ≤ x ∧ x ≤ 122 by omega), if_pos rfl]; exact e_retZ1
theorem m_isDigit (x : Int) : g_X9_isDigit x = some (if kdP x = 2 then 1 else 0) := by
  unfold g_X9_isDigit kdP
  (rw [e_cI, e_join]; (try dsimp only); rw [e_join]; (try dsimp only))
  have ne : ¬ (48 ≤ x ∧ x ≤ 57) → ¬ (if 97 ≤ x ∧ x ≤ 122 then (1 : Int) else if 48 ≤ x ∧ x ≤ 57 then 2 else if x = 59 then 3 else 0) = 2 := by
    intro q
    split
    · decide
    · (try rw [if_neg q])
      split <;> decide
  by_cases z : x < 48
  · rw [b_pos z, e_cI, if_neg (ne (by omega))]; exact e_retZ0
  rw [b_neg z, e_cI]
  by_cases y : 57 < x
  · rw [b_pos y, e_cI, if_neg (ne (by omega))]; exact e_retZ0
  · rw [b_neg y, e_cI, if_neg (show ¬ (97 ≤ x ∧ x ≤ 122) by omega), if_pos (show 48 ≤ x ∧ x ≤ 57 by omega), if_pos rfl]; exact e_retZ1
theorem kd0 : kdP 0 = 0 := by decide
theorem kd03 {x : Int} (h1 : kdP x ≠ 1) (h2 : kdP x ≠ 2) : (x = 59 ∧ kdP x = 3) ∨ (x ≠ 59 ∧ kdP x = 0) := by
  unfold kdP at h1 h2 ⊢
  by_cases a : 97 ≤ x ∧ x ≤ 122
  · rw [if_pos a] at h1; exact absurd rfl h1
  rw [if_neg a] at h2 ⊢
  by_cases c : 48 ≤ x ∧ x ≤ 57
  · rw [if_pos c] at h2; exact absurd rfl h2
  rw [if_neg c]
  by_cases d : x = 59
  · rw [if_pos d]; exact Or.inl ⟨d, rfl⟩
  · rw [if_neg d]; exact Or.inr ⟨d, rfl⟩
theorem m_skip {q0 : Nat} {k0 v0 : Int} {j2 : Hp → Option Hp} (hL : h 100 2 = (L : Int)) (h9 : L ≤ 900) (hb : ∀ k : Nat, k < 900 → BT (b k) (h 101 k)) : ∀ (n p F : Nat), p ≤ L → L - p ≤ n → n < F → loopF (g_X9_scan_l93 j2) F (tokM h q0 p k0 v0) = j2 (tokM h q0 (skP b L n p) k0 v0)
  | 0, p, F, h1, h2, h3 => by
    obtain ⟨F, rfl⟩ : ∃ g, F = g + 1 := ⟨F - 1, by omega⟩
    show g_X9_scan_l93 j2 (loopF _ F) (tokM h q0 p k0 v0) = _
    unfold g_X9_scan_l93 skP
    rw [e_gF, tokM_f.2.1, e_gF, tokM_f.2.2.2.2 2 (by omega), hL, b_pos (by omega)]
  | n + 1, p, F, h1, h2, h3 => by
    obtain ⟨F, rfl⟩ : ∃ g, F = g + 1 := ⟨F - 1, by omega⟩
    show g_X9_scan_l93 j2 (loopF _ F) (tokM h q0 p k0 v0) = _
    by_cases z : p < L
    rotate_left
    · unfold g_X9_scan_l93 skP
      rw [e_gF, tokM_f.2.1, e_gF, tokM_f.2.2.2.2 2 (by omega), hL, b_pos (by omega), if_neg z]
    have ih := m_skip (q0 := q0) (k0 := k0) (v0 := v0) (j2 := j2) hL h9 hb n (p + 1) F (by omega) (by omega) (by omega)
    generalize loopF (g_X9_scan_l93 j2) F = self at ih
    obtain ⟨t1, t2⟩ := hb p (by omega)
    unfold g_X9_scan_l93 skP
    rw [e_gF, tokM_f.2.1, e_gF, tokM_f.2.2.2.2 2 (by omega), hL, b_neg (by omega), e_gF, tokM_f.2.1, e_rdn _ _ _ _ _ (by omega), tokM_p (by omega), e_cI, if_pos z]
    refine join_gen (fun j hj => ?_)
    have go : j () = j2 (tokM h q0 (skP b L n (p + 1)) k0 v0) := by
      rw [hj, e_gF, tokM_f.2.1, e_cI, e_add _ _ _ (by omega), e_pF, show (p : Int) + 1 = ((p + 1 : Nat) : Int) by omega, tokM_set4]
      exact ih
    by_cases y : b p = 32
    · rw [b_pos (by split at t2 <;> omega), if_pos y]; exact go
    rw [b_neg (by split at t2 <;> omega), e_gF, tokM_f.2.1, e_rdn _ _ _ _ _ (by omega), tokM_p (by omega), e_cI, if_neg y]
    by_cases y2 : b p = 10
    · rw [b_pos (by split at t2 <;> omega), if_pos y2]; exact go
    · rw [b_neg (by split at t2 <;> omega), if_neg y2]
theorem m_word {q : Nat} {k0 v0 : Int} {j68 : Hp → Option Hp} (hL : h 100 2 = (L : Int)) (h9 : L ≤ 900) (hb : ∀ k : Nat, k < 900 → BT (b k) (h 101 k)) : ∀ (n e F : Nat), e ≤ L → L - e ≤ n → n < F → loopF (g_X9_scan_l81 j68) F (tokM h q e k0 v0) = j68 (tokM h q (rnP b L 1 n e) k0 v0)
  | 0, e, F, h1, h2, h3 => by
    obtain ⟨F, rfl⟩ : ∃ g, F = g + 1 := ⟨F - 1, by omega⟩
    show g_X9_scan_l81 j68 (loopF _ F) (tokM h q e k0 v0) = _
    unfold g_X9_scan_l81 rnP
    rw [e_gF, tokM_f.2.1, m_byteAt (b := b) (by rw [tokM_f.2.2.2.2 2 (by omega)]; exact hL) h9 (by rw [tokM_p (by omega)]; exact hb), e_cP, if_neg (by omega), m_isSmall, e_cP, kd0, if_neg (show ¬ (0 : Int) = 1 by decide), b_pos rfl]
  | n + 1, e, F, h1, h2, h3 => by
    obtain ⟨F, rfl⟩ : ∃ g, F = g + 1 := ⟨F - 1, by omega⟩
    show g_X9_scan_l81 j68 (loopF _ F) (tokM h q e k0 v0) = _
    by_cases z : e < L
    rotate_left
    · unfold g_X9_scan_l81 rnP
      rw [e_gF, tokM_f.2.1, m_byteAt (b := b) (by rw [tokM_f.2.2.2.2 2 (by omega)]; exact hL) h9 (by rw [tokM_p (by omega)]; exact hb), e_cP, if_neg z, m_isSmall, e_cP, kd0, if_neg (show ¬ (0 : Int) = 1 by decide), b_pos rfl, if_neg z]
    have ih := m_word (q := q) (k0 := k0) (v0 := v0) (j68 := j68) hL h9 hb n (e + 1) F (by omega) (by omega) (by omega)
    generalize loopF (g_X9_scan_l81 j68) F = self at ih
    unfold g_X9_scan_l81 rnP
    rw [e_gF, tokM_f.2.1, m_byteAt (b := b) (by rw [tokM_f.2.2.2.2 2 (by omega)]; exact hL) h9 (by rw [tokM_p (by omega)]; exact hb), e_cP, if_pos z, m_isSmall, e_cP, if_pos z]
    by_cases y : kdP (b e) = 1
    · rw [if_pos y, b_neg (by decide), e_gF, tokM_f.2.1, e_cI, e_add _ _ _ (by omega), e_pF, show (e : Int) + 1 = ((e + 1 : Nat) : Int) by omega, tokM_set4, if_pos y]
      exact ih
    · rw [if_neg y, b_pos rfl, if_neg y]
theorem m_digits1 {q : Nat} {k0 : Int} {j29 : Hp → Option Hp} (hL : h 100 2 = (L : Int)) (h9 : L ≤ 900) (hb : ∀ k : Nat, k < 900 → BT (b k) (h 101 k)) : ∀ (n e F : Nat), q ≤ e → e ≤ L → L - e ≤ n → n < F → loopF (g_X9_scan_l42 j29) F (tokM h q e k0 (nvP b q (min (e - q) 3))) = j29 (tokM h q (rnP b L 2 n e) k0 (nvP b q (min (rnP b L 2 n e - q) 3)))
  | 0, e, F, h0, h1, h2, h3 => by
    obtain ⟨F, rfl⟩ : ∃ g, F = g + 1 := ⟨F - 1, by omega⟩
    show g_X9_scan_l42 j29 (loopF _ F) _ = _
    unfold g_X9_scan_l42 rnP
    rw [e_gF, tokM_f.2.1, m_byteAt (b := b) (by rw [tokM_f.2.2.2.2 2 (by omega)]; exact hL) h9 (by rw [tokM_p (by omega)]; exact hb), e_cP, if_neg (by omega), m_isDigit, e_cP, kd0, if_neg (show ¬ (0 : Int) = 2 by decide), b_pos rfl]
  | n + 1, e, F, h0, h1, h2, h3 => by
    obtain ⟨F, rfl⟩ : ∃ g, F = g + 1 := ⟨F - 1, by omega⟩
    show g_X9_scan_l42 j29 (loopF _ F) _ = _
    by_cases z : e < L
    rotate_left
    · unfold g_X9_scan_l42 rnP
      rw [e_gF, tokM_f.2.1, m_byteAt (b := b) (by rw [tokM_f.2.2.2.2 2 (by omega)]; exact hL) h9 (by rw [tokM_p (by omega)]; exact hb), e_cP, if_neg z, m_isDigit, e_cP, kd0, if_neg (show ¬ (0 : Int) = 2 by decide), b_pos rfl, if_neg z]
    have ih := m_digits1 (q := q) (k0 := k0) (j29 := j29) hL h9 hb n (e + 1) F (by omega) (by omega) (by omega) (by omega)
    generalize loopF (g_X9_scan_l42 j29) F = self at ih
    unfold g_X9_scan_l42 rnP
    rw [e_gF, tokM_f.2.1, m_byteAt (b := b) (by rw [tokM_f.2.2.2.2 2 (by omega)]; exact hL) h9 (by rw [tokM_p (by omega)]; exact hb), e_cP, if_pos z, m_isDigit, e_cP, if_pos z]
    by_cases y : kdP (b e) = 2
    rotate_left
    · rw [if_neg y, b_pos rfl, if_neg y]
    rw [if_pos y, b_neg (by decide), e_gF, tokM_f.2.1, e_gF, tokM_f.1, e_sub _ _ _ (by omega), e_cI, if_pos y]
    refine join_gen (fun j hj => ?_)
    have go : ∀ v, v = nvP b q (min (e + 1 - q) 3) → j (tokM h q e k0 v) = j29 (tokM h q (rnP b L 2 n (e + 1)) k0 (nvP b q (min (rnP b L 2 n (e + 1) - q) 3))) := by
      intro v hv
      rw [hj, e_gF, tokM_f.2.1, e_cI, e_add _ _ _ (by omega), e_pF, show (e : Int) + 1 = ((e + 1 : Nat) : Int) by omega, tokM_set4, hv]
      exact ih
    by_cases w : 3 ≤ e - q
    · rw [b_pos (by omega)]
      exact go _ (by rw [show min (e - q) 3 = 3 by omega, show min (e + 1 - q) 3 = 3 by omega])
    · have sb : ∀ (x y : Int) (K : Int → Option Hp), subI x y K = K (wr (x - y)) := fun _ _ _ => rfl
      rw [b_neg (by omega), e_cI, e_gF, tokM_f.2.2.2.1, e_mulw, e_gF, tokM_f.2.1, m_byteAt (b := b) (by rw [tokM_f.2.2.2.2 2 (by omega)]; exact hL) h9 (by rw [tokM_p (by omega)]; exact hb), e_cP, if_pos z, e_addw, e_cI, sb, e_pF, tokM_set6]
      refine go _ ?_
      rw [show min (e - q) 3 = e - q by omega, show min (e + 1 - q) 3 = e - q + 1 by omega]
      show _ = wr (wr (wr (10 * nvP b q (e - q)) + b (q + (e - q))) - 48)
      rw [show q + (e - q) = e by omega]
def mkT (k : Int) : Int := if k = 0 then 4 else if k = 4 then 0 else k
theorem m_scan {p : Nat} (hL : h 100 2 = (L : Int)) (h9 : L ≤ 900) (hb : ∀ k : Nat, k < 900 → BT (b k) (h 101 k)) (hp : h 100 4 = (p : Int)) (hpL : p ≤ L) (hq0 : 0 ≤ h 100 3) : ∃ v, g_X9_scan h = some (tokM h (tq b L p) (te b L p) (mkT (tk b L p)) v) ∧ (tk b L p = 2 → v = nvP b (tq b L p) (te b L p - tq b L p)) := by
  have h1 := skP_in (b := b) (L := L) L p hpL (by omega)
  have hq : tq b L p = skP b L L p := rfl
  rw [← hq] at h1
  obtain ⟨q0, hq0⟩ := Int.eq_ofNat_of_zero_le hq0
  unfold g_X9_scan
  have sk := fun j2 => m_skip (b := b) (q0 := q0) (k0 := h 100 5) (v0 := h 100 6) (j2 := j2) hL h9 hb L p FU hpL (by omega) (fu _ (by omega))
  rw [tokM_self hq0 hp rfl rfl, ← hq] at sk
  have red : ∀ (J : Hp → Option Hp), (joinF J fun j2 => loopF (g_X9_scan_l93 j2) FU h) = J (tokM h q0 (tq b L p) (h 100 5) (h 100 6)) := fun J => by (rw [e_join]; (try dsimp only); rw [sk])
  rw [red]
  unfold tk te
  generalize tq b L p = q at *
  have B : ∀ (a e c : Nat) (k v : Int), g_X9_byteAt (c : Int) (tokM h a e k v) = some (if c < L then b c else 0) := fun a e c k v => m_byteAt (b := b) (by rw [tokM_f.2.2.2.2 2 (by omega)]; exact hL) h9 (by rw [tokM_p (by omega)]; exact hb)
  (rw [e_gF, tokM_f.2.1, e_pF, tokM_set3, e_gF, tokM_f.1, B, e_cP, e_gF, tokM_f.1, e_gF, tokM_f.2.2.2.2 2 (by omega), hL, e_join]; (try dsimp only))
  by_cases z : L ≤ q
  · rw [b_pos (by omega), e_cI, e_pF, tokM_set5, if_pos z, if_pos z]
    exact ⟨h 100 6, rfl, fun y => absurd y (by decide)⟩
  rw [b_neg (by omega), if_pos (show q < L by omega), m_isSmall, e_cP, if_neg z, if_neg z]
  generalize hk0 : kdP (b q) = k0
  have hk := kdP_in (b q)
  rw [hk0] at hk
  by_cases y1 : k0 = 1
  · have r := rnP_in (b := b) (L := L) (k := 1) L q (by omega) (by omega)
    (rw [if_pos y1, b_neg (by decide), e_join]; (try dsimp only); rw [m_word (b := b) hL h9 hb L q FU (by omega) (by omega) (fu _ (by omega)), if_pos y1, if_pos y1])
    generalize rnP b L 1 L q = e at r
    (rw [e_gF, tokM_f.2.1, e_gF, tokM_f.1, e_sub _ _ _ (by omega), e_cI, e_join]; (try dsimp only))
    by_cases a : e ≤ q + 8
    · rw [b_pos (by omega), e_cI, e_pF, tokM_set5, if_pos a]
      exact ⟨_, rfl, fun y => absurd y (by decide)⟩
    · rw [b_neg (by omega), e_cI, e_pF, tokM_set5, if_neg a]
      exact ⟨_, rfl, fun y => absurd y (by decide)⟩
  rw [if_neg y1, b_pos rfl, m_isDigit, e_cP, hk0, if_neg y1, if_neg y1]
  by_cases y2 : k0 = 2
  · have r := rnP_in (b := b) (L := L) (k := 2) L q (by omega) (by omega)
    have md := fun j29 => m_digits1 (b := b) (h := h) (q := q) (k0 := h 100 5) (j29 := j29) hL h9 hb L q FU (Nat.le_refl _) (by omega) (by omega) (fu _ (by omega))
    rw [show min (q - q) 3 = 0 by omega, show nvP b q 0 = 0 from rfl] at md
    (rw [if_pos y2, b_neg (by decide), e_cI, e_pF, tokM_set6, e_join]; (try dsimp only); rw [md, if_pos y2, if_pos y2])
    generalize rnP b L 2 L q = e at r
    (rw [e_gF, tokM_f.2.1, e_gF, tokM_f.1, e_sub _ _ _ (by omega), e_cI, e_join]; (try dsimp only))
    by_cases a : e ≤ q + 3
    · rw [b_pos (by omega), e_cI, e_pF, tokM_set5, if_pos a]
      exact ⟨_, rfl, fun _ => by rw [show min (e - q) 3 = e - q by omega]⟩
    · rw [b_neg (by omega), e_cI, e_pF, tokM_set5, if_neg a]
      exact ⟨_, rfl, fun y => absurd y (by decide)⟩
  · (rw [if_neg y2, b_pos rfl, e_cI, e_join]; (try dsimp only); rw [if_neg y2, if_neg y2])
    have k3 := kd03 (x := b q) (by rw [hk0]; exact y1) (by rw [hk0]; exact y2)
    rw [hk0] at k3
    rcases k3 with ⟨c1, c2⟩ | ⟨c1, c2⟩
    · rw [b_pos c1, e_cI, e_pF, tokM_set5, e_gF, tokM_f.2.1, e_cI, e_add _ _ _ (by omega), e_pF, show (q : Int) + 1 = ((q + 1 : Nat) : Int) by omega, tokM_set4, c2]
      exact ⟨_, rfl, fun y => absurd y (by decide)⟩
    · rw [b_neg c1, e_cI, e_pF, tokM_set5, e_gF, tokM_f.2.1, e_cI, e_add _ _ _ (by omega), e_pF, show (q : Int) + 1 = ((q + 1 : Nat) : Int) by omega, tokM_set4, c2]
      exact ⟨_, rfl, fun y => absurd y (by decide)⟩
end SCANS
