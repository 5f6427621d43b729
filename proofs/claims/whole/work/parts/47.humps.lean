/-! CALLS: humps -/
def sP (b t l w : Int) : Int :=
  if 0 < t - l * (if 0 ≤ w - b then w - b else 0 - (w - b)) then t - l * (if 0 ≤ w - b then w - b else 0 - (w - b)) else 0
theorem sP_in {b t l w : Int} (ht : 0 ≤ t ∧ t ≤ 20) (hl : 0 ≤ l ∧ l ≤ 9) : 0 ≤ sP b t l w ∧ sP b t l w ≤ 20 := by
  unfold sP
  have h1 : 0 ≤ (if 0 ≤ w - b then w - b else 0 - (w - b)) := by split <;> omega
  generalize (if 0 ≤ w - b then w - b else 0 - (w - b)) = d at h1
  have h2 : 0 ≤ l * d := Int.mul_nonneg hl.1 h1
  split <;> omega
theorem k_strengthOf {b t l w : Int} (hw : 1 ≤ w ∧ w ≤ 15) (hb : 1 ≤ b ∧ b ≤ 15) (ht : 0 ≤ t ∧ t ≤ 20) (hl : 0 ≤ l ∧ l ≤ 9) : g_X8_strengthOf w b t l = some (sP b t l w) := by
  unfold g_X8_strengthOf sP
  have h1 : 0 ≤ (if 0 ≤ w - b then w - b else 0 - (w - b)) ∧ (if 0 ≤ w - b then w - b else 0 - (w - b)) ≤ 15 := by split <;> omega
  (rw [e_join]; (try dsimp only); rw [b_neg (by omega), e_cI, b_pos (by omega), e_cI, e_sub _ _ _ (by omega), e_abs _ _ (by omega)])
  generalize (if 0 ≤ w - b then w - b else 0 - (w - b)) = d at h1
  have h2 : 0 ≤ l * d := Int.mul_nonneg hl.1 h1.1
  have h3 : l * d ≤ 9 * 15 := Int.mul_le_mul hl.2 h1.2 h1.1 (by omega)
  rw [e_mul _ _ _ (by omega), e_sub _ _ _ (by omega), e_max]
theorem m_stands {b t l w s : Int} (hw : 1 ≤ w ∧ w ≤ 15) (hb : 1 ≤ b ∧ b ≤ 15) (ht : 0 ≤ t ∧ t ≤ 20) (hl : 0 ≤ l ∧ l ≤ 9) : g_X9_stands b t l w s = some (if 1 + sP b t l w < s then 0 else 1) := by
  have hs := sP_in (b := b) (w := w) ht hl
  unfold g_X9_stands
  have h1 : 0 ≤ (if 0 ≤ w - b then w - b else 0 - (w - b)) ∧ (if 0 ≤ w - b then w - b else 0 - (w - b)) ≤ 15 := by split <;> omega
  rw [e_cI, e_cI, e_sub _ _ _ (by omega), e_abs _ _ (by omega)]
  unfold sP at hs ⊢
  generalize (if 0 ≤ w - b then w - b else 0 - (w - b)) = d at h1 hs
  have h2 : 0 ≤ l * d := Int.mul_nonneg hl.1 h1.1
  have h3 : l * d ≤ 9 * 15 := Int.mul_le_mul hl.2 h1.2 h1.1 (by omega)
  rw [e_mul _ _ _ (by omega), e_sub _ _ _ (by omega), e_max]
  generalize (if 0 < t - l * d then t - l * d else 0) = u at hs
  (rw [e_add _ _ _ (by omega), e_join]; (try dsimp only))
  by_cases q : 1 + u < s
  · rw [b_pos q, e_cI, if_pos q]; exact e_retZ0
  · rw [b_neg q, e_cI, if_neg q]; exact e_retZ1
/-- how one of TRIED stood, as known at a step -/
def stP (h : Hp) (y : Int) (k : Nat) : Nat → Int
  | 0 => h 40 k
  | i + 1 => if h 42 i = (k : Int) then (if y < h 41 i then stP h y k i else h 43 i) else stP h y k i
def knP (h : Hp) (y : Int) (k : Nat) : Nat → Int
  | 0 => if y < h 37 k then -1 else h 40 k
  | i + 1 => if h 42 i = (k : Int) then (if y < h 41 i then knP h y k i else h 43 i) else knP h y k i
theorem kn_st {h : Hp} {y : Int} {k : Nat} (hy : h 37 k ≤ y) : ∀ n, knP h y k n = stP h y k n
  | 0 => by unfold knP stP; rw [if_neg (by omega)]
  | n + 1 => by unfold knP stP; rw [kn_st hy n]
theorem kn_no {h : Hp} {y : Int} {k : Nat} (hy : y < h 37 k) : ∀ n, (∀ i, i < n → h 37 (h 42 i).toNat ≤ h 41 i) → knP h y k n = -1
  | 0, _ => by unfold knP; rw [if_pos hy]
  | n + 1, r => by
    unfold knP
    rw [kn_no hy n (fun i hi => r i (by omega))]
    split
    · have := r n (by omega)
      rename_i e
      rw [e, Int.toNat_natCast] at this
      rw [if_pos (by omega)]
    · rfl
theorem st_in {h : Hp} {y : Int} {k : Nat} (h0 : h 40 k = 0 ∨ h 40 k = 1) : ∀ n, (∀ i, i < n → h 43 i = 0 ∨ h 43 i = 1) → stP h y k n = 0 ∨ stP h y k n = 1
  | 0, _ => h0
  | n + 1, r => by
    unfold stP
    have := st_in h0 n (fun i hi => r i (by omega)) (y := y)
    have := r n (by omega)
    split
    · split <;> assumption
    · assumption
/-- does a hump fit: from one of TRIED on -/
def fitF (h : Hp) (y b t l : Int) (R : Nat) : Nat → Nat → Int
  | 0, _ => 1
  | n + 1, i => if y < h 37 i then fitF h y b t l R n (i + 1) else if (if 1 + sP b t l (h 38 i) < h 39 i then 0 else 1) = stP h y i R then fitF h y b t l R n (i + 1) else 0
def fitP (h : Hp) (y b t l : Int) : Int := fitF h y b t l (h 36 1).toNat (h 36 0).toNat 0
theorem fitF_in {h : Hp} {y b t l : Int} {R : Nat} : ∀ n i, fitF h y b t l R n i = 0 ∨ fitF h y b t l R n i = 1
  | 0, _ => Or.inr rfl
  | n + 1, i => by
    have ih := fitF_in (h := h) (y := y) (b := b) (t := t) (l := l) (R := R) n (i + 1)
    unfold fitF
    by_cases z : y < h 37 i
    · rw [if_pos z]; exact ih
    rw [if_neg z]
    by_cases z2 : (if 1 + sP b t l (h 38 i) < h 39 i then 0 else 1) = stP h y i R
    · rw [if_pos z2]; exact ih
    · rw [if_neg z2]; exact Or.inl rfl
theorem fitP_in {h : Hp} {y b t l : Int} : fitP h y b t l = 0 ∨ fitP h y b t l = 1 := fitF_in _ _
theorem stP_hp {h h2 : Hp} {y : Int} {k : Nat} (e : h2 40 = h 40 ∧ h2 41 = h 41 ∧ h2 42 = h 42 ∧ h2 43 = h 43) : ∀ n, stP h2 y k n = stP h y k n
  | 0 => by unfold stP; rw [e.1]
  | n + 1 => by unfold stP; rw [stP_hp e n, e.2.1, e.2.2.1, e.2.2.2]
theorem fitF_hp {h h2 : Hp} {y b t l : Int} {R : Nat} (e : ∀ p, 37 ≤ p → p ≤ 43 → h2 p = h p) : ∀ n i, fitF h2 y b t l R n i = fitF h y b t l R n i
  | 0, _ => rfl
  | n + 1, i => by
    unfold fitF
    rw [fitF_hp e n (i + 1), e 37 (by omega) (by omega), e 38 (by omega) (by omega), e 39 (by omega) (by omega), stP_hp ⟨e 40 (by omega) (by omega), e 41 (by omega) (by omega), e 42 (by omega) (by omega), e 43 (by omega) (by omega)⟩]
theorem fitP_hp {h h2 : Hp} {y b t l : Int} (e : ∀ p, 36 ≤ p → p ≤ 43 → h2 p = h p) : fitP h2 y b t l = fitP h y b t l := by
  unfold fitP
  rw [e 36 (by omega) (by omega)]
  exact fitF_hp (fun p h1 h2 => e p (by omega) h2) _ _
/-- what TRIED and RIGHT are, in numbers -/
theorem TriR.nums {h : Hp} (r : TriR h) : ∃ c R : Nat, h 36 0 = (c : Int) ∧ h 36 1 = (R : Int) ∧ h 100 51 = (c : Int) ∧ h 100 52 = (R : Int) ∧ c ≤ 16 ∧ R ≤ 20 := by
  obtain ⟨⟨u1, u2, u3⟩, ⟨v1, v2, v3⟩, -⟩ := r
  exact ⟨(h 36 0).toNat, (h 36 1).toNat, by omega, by omega, by omega, by omega, by omega, by omega⟩
theorem k_lookBackTo {h : Hp} {y : Int} (r : TriR h) : ∃ h', g_X7_lookBackTo 36 y h = some h' ∧ (∀ p, p ≠ 44 → h' p = h p) ∧ ∀ k, k < (h 36 0).toNat → h' 44 k = knP h y k (h 36 1).toNat := by
  obtain ⟨c, R, ec, eR, -, -, hc, hR⟩ := r.nums
  obtain ⟨-, -, -, a, q⟩ := r
  rw [ec, Int.toNat_natCast] at a
  rw [eR, Int.toNat_natCast, ec] at q
  rw [ec, eR, Int.toNat_natCast, Int.toNat_natCast]
  have key : g_X7_lookBackTo 36 y h = some (setRow h 44 (fun k => if k < c then knP h y k R else h 44 k)) := by
    unfold g_X7_lookBackTo
    rw [e_cI]
    refine join_gen (fun j3 hj3 => ?_)
    refine loopF_for' c (fun i => ((i : Int), setRow h 44 (fun k => if k < i then knP h y k 0 else h 44 k))) ?_ ?_ ?_ (fu _ (by omega))
    · intro i hi self
      unfold g_X7_lookBackTo_l22
      dsimp only
      rw [e_gF, setRow_ne _ _ _ _ (by omega), ec, b_neg (by omega), e_rdn _ _ _ _ _ (by omega), setRow_ne _ _ _ _ (by omega)]
      refine join_gen (fun j hj => ?_)
      have fin : ∀ x, x = knP h y i 0 → setRow h 44 (upd1 (fun k => if k < i then knP h y k 0 else h 44 k) i x) = setRow h 44 (fun k => if k < i + 1 then knP h y k 0 else h 44 k) := by
        intro x hx
        congr 1
        funext k
        unfold upd1
        try dsimp only
        by_cases z : k = i
        · rw [if_pos z, if_pos (by omega), hx, z]
        · rw [if_neg z]
          by_cases z2 : k < i
          · rw [if_pos z2, if_pos (by omega)]
          · rw [if_neg z2, if_neg (by omega)]
      by_cases z : y < h 37 i
      · rw [b_pos z, e_cI, hj, e_wrR _ _ _ _ _ _ (by omega), setRow_same, setRow_setRow, e_add _ _ _ (by omega), Int.toNat_natCast, fin _ (by unfold knP; rw [if_pos z]), show ((i + 1 : Nat) : Int) = (i : Int) + 1 by omega]
      · rw [b_neg z, e_rdn _ _ _ _ _ (by omega), setRow_ne _ _ _ _ (by omega), hj, e_wrR _ _ _ _ _ _ (by omega), setRow_same, setRow_setRow, e_add _ _ _ (by omega), Int.toNat_natCast, fin _ (by unfold knP; rw [if_neg z]), show ((i + 1 : Nat) : Int) = (i : Int) + 1 by omega]
    · intro self
      unfold g_X7_lookBackTo_l22
      dsimp only
      rw [e_gF, setRow_ne _ _ _ _ (by omega), ec, b_pos (by omega), hj3, e_cI]
      refine loopF_for' R (fun i => ((i : Int), setRow h 44 (fun k => if k < c then knP h y k i else h 44 k))) ?_ ?_ rfl (fu _ (by omega))
      · intro i hi self
        obtain ⟨y1, y2, y3, y4, y5⟩ := q i hi
        obtain ⟨k, hk⟩ := Int.eq_ofNat_of_zero_le y3.1
        have same : ∀ x, (∀ m, m < c → (x : Nat → Int) m = knP h y m (i + 1)) → (∀ m, c ≤ m → x m = h 44 m) → setRow h 44 x = setRow h 44 (fun k => if k < c then knP h y k (i + 1) else h 44 k) := by
          intro x hx hx2
          congr 1
          funext m
          by_cases z : m < c
          · rw [if_pos z, hx m z]
          · rw [if_neg z, hx2 m (by omega)]
        unfold g_X7_lookBackTo_l7
        dsimp only
        rw [e_gF, setRow_ne _ _ _ _ (by omega), eR, b_neg (by omega), e_rdn _ _ _ _ _ (by omega), setRow_ne _ _ _ _ (by omega)]
        refine join_gen (fun j hj => ?_)
        by_cases z : y < h 41 i
        · rw [b_pos z, hj, e_add _ _ _ (by omega), show ((i + 1 : Nat) : Int) = (i : Int) + 1 by omega]
          congr 1
          refine Prod.ext rfl (same _ (fun m hm => ?_) (fun m hm => ?_))
          · rw [if_pos hm]
            show _ = if h 42 i = (m : Int) then (if y < h 41 i then knP h y m i else h 43 i) else knP h y m i
            rw [if_pos z]; split <;> rfl
          · rw [if_neg (by omega)]
        · rw [b_neg z, e_rdn _ _ _ _ _ (by omega), setRow_ne _ _ _ _ (by omega), show 36 + 6 = 42 from rfl, hk, e_cI, b_neg (by omega), e_rdn _ _ _ _ _ (by omega), setRow_ne _ _ _ _ (by omega), hk, e_rdn _ _ _ _ _ (by omega), setRow_ne _ _ _ _ (by omega), e_wrR _ _ _ _ _ _ (by omega), setRow_same, setRow_setRow, hj, e_add _ _ _ (by omega), Int.toNat_natCast, show ((i + 1 : Nat) : Int) = (i : Int) + 1 by omega]
          congr 1
          refine Prod.ext rfl (same _ (fun m hm => ?_) (fun m hm => ?_))
          · show _ = if h 42 i = (m : Int) then (if y < h 41 i then knP h y m i else h 43 i) else knP h y m i
            unfold upd1
            try dsimp only
            rw [if_neg z, hk]
            by_cases e : m = k
            · rw [if_pos e, if_pos (by omega)]
            · rw [if_neg e, if_pos hm, if_neg (by omega)]
          · unfold upd1
            rw [if_neg (by omega)]
            dsimp only
            rw [if_neg (by omega)]
      · intro self
        unfold g_X7_lookBackTo_l7
        dsimp only
        rw [e_gF, setRow_ne _ _ _ _ (by omega), eR, b_pos (by omega)]
    · refine Prod.ext rfl ?_
      show h = setRow h 44 (fun k => if k < 0 then knP h y k 0 else h 44 k)
      have : (fun k => if k < 0 then knP h y k 0 else h 44 k) = h 44 := by funext k; rw [if_neg (by omega)]
      rw [this, setRow_self]
  refine ⟨_, key, fun p hp => setRow_ne _ _ _ _ hp, fun k hk => ?_⟩
  rw [setRow_same, if_pos hk]
/-- the class's: what is known stands in its row -/
theorem k_fits {h : Hp} {y b t l : Int} (r : TriR h) (hk : ∀ k, k < (h 36 0).toNat → h 44 k = knP h y k (h 36 1).toNat) (hb : 1 ≤ b ∧ b ≤ 15) (ht : 0 ≤ t ∧ t ≤ 20) (hl : 0 ≤ l ∧ l ≤ 9) : g_X7_fits 36 b t l h = some (fitP h y b t l) := by
  obtain ⟨c, R, ec, eR, -, -, hc, hR⟩ := r.nums
  obtain ⟨-, -, -, a, q⟩ := r
  unfold fitP g_X7_fits
  rw [ec, Int.toNat_natCast] at a
  rw [eR, Int.toNat_natCast, ec] at q
  rw [ec, eR, Int.toNat_natCast, Int.toNat_natCast] at hk
  rw [ec, eR, Int.toNat_natCast, Int.toNat_natCast, e_cI]
  have key : ∀ (n i f : Nat), i + n = c → n < f → loopF (g_X7_fits_l3 36 h b t l) f (i : Int) = some (fitF h y b t l R n i) := by
    intro n
    induction n with
    | zero =>
      intro i f hi hf
      obtain ⟨f, rfl⟩ : ∃ g, f = g + 1 := ⟨f - 1, by omega⟩
      show g_X7_fits_l3 36 h b t l (loopF _ f) (i : Int) = _
      unfold g_X7_fits_l3
      rw [e_gF, ec, b_pos (by omega), e_cI]
      exact e_retZ1
    | succ n ih =>
      intro i f hi hf
      obtain ⟨f, rfl⟩ : ∃ g, f = g + 1 := ⟨f - 1, by omega⟩
      have next := ih (i + 1) f (by omega) (by omega)
      obtain ⟨y1, y2, y3, y4, y5, y6⟩ := a i (by omega)
      have hs := sP_in (b := b) (w := h 38 i) ht hl
      have hki := hk i (by omega)
      have ski := st_in (h := h) (y := y) y5 R (fun j hj => (q j hj).2.2.2.1)
      show g_X7_fits_l3 36 h b t l (loopF _ f) (i : Int) = _
      generalize loopF (g_X7_fits_l3 36 h b t l) f = self at next
      unfold g_X7_fits_l3 fitF
      rw [e_gF, ec, b_neg (by omega), e_rdn _ _ _ _ _ (by omega), e_cI, e_rdn _ _ _ _ _ (by omega), k_strengthOf y3 hb ht hl, e_cP, e_add _ _ _ (by omega)]
      refine join_gen (fun j13 hj13 => ?_)
      have red : (if 1 + sP b t l (h (36 + 2) i) < h (36 + 3) i then cI 0 fun z22 => j13 z22 else cI 1 fun z23 => j13 z23) = j13 (if 1 + sP b t l (h 38 i) < h 39 i then 0 else 1) := by
        split
        · rw [e_cI]
        · rw [e_cI]
      rw [red, hj13, e_rdn _ _ _ _ _ (by omega), e_cI, show 36 + 8 = 44 from rfl, hki]
      refine join_gen (fun j18 hj18 => ?_)
      have step : j18 () = some (fitF h y b t l R n (i + 1)) := by
        rw [hj18, e_add _ _ _ (by omega), ← next]
        congr 1
      by_cases z : y < h 37 i
      · rw [b_pos (kn_no z R (fun j hj => (q j hj).2.2.2.2)), if_pos z, step]
      · rw [kn_st (by omega) R, b_neg (by omega), e_rdn _ _ _ _ _ (by omega), hki, kn_st (by omega) R, if_neg z]
        by_cases e : stP h y i R = (if 1 + sP b t l (h 38 i) < h 39 i then 0 else 1)
        · rw [b_pos e, if_pos e.symm, step]
        · rw [b_neg e, if_neg (fun z => e z.symm), e_cI]
          exact e_retZ0
  exact key c 0 FU (by omega) (fu _ (by omega))
theorem m_stoodBy {h : Hp} {y : Int} {k : Nat} (r : TriR h) (hk : k < (h 36 0).toNat) : g_X9_stoodBy k y h = some (stP h y k (h 36 1).toNat) := by
  obtain ⟨c, R, ec, eR, mc, mR, hc, hR⟩ := r.nums
  obtain ⟨-, -, -, a, q⟩ := r
  rw [ec, Int.toNat_natCast] at hk a
  rw [eR, Int.toNat_natCast, ec] at q
  rw [eR, Int.toNat_natCast]
  have ak := a k hk
  unfold g_X9_stoodBy
  rw [e_rdn _ _ _ _ _ (by omega), e_cI]
  refine loopF_for' R (fun i => (stP h y k i, (i : Int))) ?_ ?_ ?_ (fu _ (by omega))
  · intro i hi self
    obtain ⟨⟨y1, y2, y3⟩, -⟩ := q i hi
    unfold g_X9_stoodBy_l4
    dsimp only
    rw [e_gF, mR, b_neg (by omega), e_rdn _ _ _ _ _ (by omega), ← y2]
    refine join_gen (fun j hj => ?_)
    have fin : ∀ x, x = stP h y k (i + 1) → j x = self (stP h y k (i + 1), ((i + 1 : Nat) : Int)) := by
      intro x hx
      rw [hj, e_add _ _ _ (by omega), hx, show ((i + 1 : Nat) : Int) = (i : Int) + 1 by omega]
    by_cases z : h 42 i = (k : Int)
    · rw [b_pos z, e_rdn _ _ _ _ _ (by omega), ← y1]
      by_cases z2 : y < h 41 i
      · rw [b_pos z2]
        exact fin _ (by simp only [stP, if_pos z, if_pos z2])
      · rw [b_neg z2, e_rdn _ _ _ _ _ (by omega), ← y3]
        exact fin _ (by simp only [stP, if_pos z, if_neg z2])
    · rw [b_neg z]
      exact fin _ (by simp only [stP, if_neg z])
  · intro self
    unfold g_X9_stoodBy_l4
    dsimp only
    rw [e_gF, mR, b_pos (by omega)]
  · rw [← ak.1.2.2.2]
    rfl
theorem m_fits {h : Hp} {y b t l : Int} (r : TriR h) (hb : 1 ≤ b ∧ b ≤ 15) (ht : 0 ≤ t ∧ t ≤ 20) (hl : 0 ≤ l ∧ l ≤ 9) : g_X9_fits b t l y h = some (fitP h y b t l) := by
  have ms := fun k hk => m_stoodBy (y := y) (k := k) r hk
  obtain ⟨c, R, ec, eR, mc, mR, hc, hR⟩ := r.nums
  obtain ⟨-, -, -, a, q⟩ := r
  unfold fitP g_X9_fits
  rw [ec, eR, Int.toNat_natCast, Int.toNat_natCast] at ms
  rw [ec, Int.toNat_natCast] at a
  rw [eR, Int.toNat_natCast, ec] at q
  rw [ec, eR, Int.toNat_natCast, Int.toNat_natCast, e_cI]
  have key : ∀ (n i f : Nat), i + n = c → n < f → loopF (g_X9_fits_l3 h b t l y) f (i : Int) = some (fitF h y b t l R n i) := by
    intro n
    induction n with
    | zero =>
      intro i f hi hf
      obtain ⟨f, rfl⟩ : ∃ g, f = g + 1 := ⟨f - 1, by omega⟩
      show g_X9_fits_l3 h b t l y (loopF _ f) (i : Int) = _
      unfold g_X9_fits_l3
      rw [e_gF, mc, b_pos (by omega), e_cI]
      exact e_retZ1
    | succ n ih =>
      intro i f hi hf
      obtain ⟨f, rfl⟩ : ∃ g, f = g + 1 := ⟨f - 1, by omega⟩
      have next := ih (i + 1) f (by omega) (by omega)
      obtain ⟨⟨y1, y1b, y1c, y1d⟩, y2, y3, y4, y5, y6⟩ := a i (by omega)
      have ski := st_in (h := h) (y := y) y5 R (fun j hj => (q j hj).2.2.2.1)
      show g_X9_fits_l3 h b t l y (loopF _ f) (i : Int) = _
      generalize loopF (g_X9_fits_l3 h b t l y) f = self at next
      unfold g_X9_fits_l3 fitF
      rw [e_gF, mc, b_neg (by omega), e_rdn _ _ _ _ _ (by omega), ← y1]
      refine join_gen (fun j9 hj9 => ?_)
      have step : j9 () = some (fitF h y b t l R n (i + 1)) := by
        rw [hj9, e_add _ _ _ (by omega), ← next]
        congr 1
      by_cases z : y < h 37 i
      · rw [b_pos z, if_pos z, step]
      · rw [b_neg z, if_neg z, e_rdn _ _ _ _ _ (by omega), e_rdn _ _ _ _ _ (by omega), ← y1b, ← y1c, m_stands y3 hb ht hl, e_cP, ms i (by omega), e_cP, e_cI]
        refine join_gen (fun j17 hj17 => ?_)
        have red : (if stP h y i R = 1 then cI 1 fun z21 => j17 z21 else cI 0 fun z20 => j17 z20) = j17 (stP h y i R) := by
          rcases ski with e | e
          · rw [e, if_neg (by decide), e_cI]
          · rw [e, if_pos rfl, e_cI]
        rw [red, hj17]
        by_cases e : (if 1 + sP b t l (h 38 i) < h 39 i then 0 else 1) = stP h y i R
        · rw [b_pos e, if_pos e, step]
        · rw [b_neg e, if_neg e, e_cI]
          exact e_retZ0
  exact key c 0 FU (by omega) (fu _ (by omega))
/-! the fold over all humps -/
abbrev Q5 : Type := Int × Int × Int × Int × Int
def stepQ (b t c : Int) (s : Q5) : Q5 :=
  if c = 0 then s else (wr (s.1 + c), if s.2.1 = -1 then b else s.2.1, b, if s.2.2.2.1 = -1 then t else if t < s.2.2.2.1 then t else s.2.2.2.1, if s.2.2.2.2 < t then t else s.2.2.2.2)
theorem stepQ_one {b t c : Int} {s : Q5} (hb : 1 ≤ b) (ht : 0 ≤ t) (hc : 0 ≤ c) : stepQ b t (c + 1) s = stepQ b t 1 (stepQ b t c s) := by
  obtain ⟨s1, s2, s3, s4, s5⟩ := s
  unfold stepQ
  by_cases z : c = 0
  · subst z
    rw [if_pos rfl, Int.zero_add]
  · rw [if_neg (show ¬ c + 1 = 0 by omega), if_neg (show ¬ (1 : Int) = 0 by omega), if_neg z]
    refine Prod.ext ?_ (Prod.ext ?_ (Prod.ext rfl (Prod.ext ?_ ?_)))
    · dsimp only; unfold wr; omega
    · dsimp only; split
      · rw [if_neg (by omega)]
      · rfl
    · dsimp only; split
      · rw [if_neg (by omega), if_neg (by omega)]
      · split
        · rw [if_neg (by omega), if_neg (by omega)]
        · rfl
    · dsimp only; split
      · rw [if_neg (by omega)]
      · rfl
def cntF (h : Hp) (y b t : Int) : Nat → Int
  | 0 => 0
  | l + 1 => cntF h y b t l + fitP h y b t ((l : Int) + 1)
theorem cntF_in {h : Hp} {y b t : Int} : ∀ l : Nat, 0 ≤ cntF h y b t l ∧ cntF h y b t l ≤ l
  | 0 => by unfold cntF; omega
  | l + 1 => by
    have := cntF_in (h := h) (y := y) (b := b) (t := t) l
    rcases fitP_in (h := h) (y := y) (b := b) (t := t) (l := (l : Int) + 1) with q | q <;> unfold cntF <;> rw [q] <;> omega
theorem cntF_hp {h h2 : Hp} {y b t : Int} (e : ∀ p, 36 ≤ p → p ≤ 43 → h2 p = h p) : ∀ l : Nat, cntF h2 y b t l = cntF h y b t l
  | 0 => rfl
  | l + 1 => by unfold cntF; rw [cntF_hp e l, fitP_hp e]
def topQ (h : Hp) (y b : Int) : Nat → Q5 → Q5
  | 0, s => s
  | t + 1, s => stepQ b t (cntF h y b t 5) (topQ h y b t s)
def bestQ (h : Hp) (y : Int) : Nat → Q5
  | 0 => (0, -1, -1, -1, -1)
  | b + 1 => topQ h y ((b : Int) + 1) 21 (bestQ h y b)
theorem k_howManyFit {h : Hp} {y b t : Int} (r : TriR h) (hk : ∀ k, k < (h 36 0).toNat → h 44 k = knP h y k (h 36 1).toNat) (hb : 1 ≤ b ∧ b ≤ 15) (ht : 0 ≤ t ∧ t ≤ 20) : g_X7_howManyFit 36 b t h = some (cntF h y b t 5) := by
  unfold g_X7_howManyFit
  rw [e_cI, e_cI]
  refine loopF_for' 5 (fun i => (cntF h y b t i, (i : Int) + 1)) ?_ ?_ rfl (fu _ (by omega))
  · intro i hi self
    have hc := cntF_in (h := h) (y := y) (b := b) (t := t) i
    unfold g_X7_howManyFit_l4
    dsimp only
    rw [e_cI, b_neg (by omega), k_fits r hk hb ht (by omega), e_cP]
    refine join_gen (fun j hj => ?_)
    have red : (if fitP h y b t ((i : Int) + 1) = 0 then cI 0 fun z14 => j z14 else cI 1 fun z15 => j z15) = j (fitP h y b t ((i : Int) + 1)) := by
      rcases fitP_in (h := h) (y := y) (b := b) (t := t) (l := (i : Int) + 1) with e | e
      · rw [e, if_pos rfl, e_cI]
      · rw [e, if_neg (by decide), e_cI]
    have hf := fitP_in (h := h) (y := y) (b := b) (t := t) (l := (i : Int) + 1)
    rw [red, hj, e_add _ _ _ (by omega), e_add _ _ _ (by omega)]
    rfl
  · intro self
    unfold g_X7_howManyFit_l4
    dsimp only
    rw [e_cI, b_pos (by omega)]
def pickQ (x : Int) (s : Q5) : Int := if x = 0 then s.1 else if x = 1 then s.2.1 else if x = 2 then s.2.2.1 else if x = 3 then s.2.2.2.1 else s.2.2.2.2
theorem k_ofHumps {h h' : Hp} {y x : Int} (r : TriR h') (hl : g_X7_lookBackTo 36 y h = some h') (hk : ∀ k, k < (h' 36 0).toNat → h' 44 k = knP h' y k (h' 36 1).toNat) : g_X7_ofHumps 36 y x h = some (pickQ x (bestQ h' y 15), h') := by
  unfold g_X7_ofHumps
  rw [hl, e_cV, e_cI, e_cI, e_cI, e_cI, e_cI, e_cI]
  refine join_gen (fun j9 hj9 => ?_)
  have fin : j9 (bestQ h' y 15) = some (pickQ x (bestQ h' y 15), h') := by
    (rw [hj9, e_join]; (try dsimp only))
    unfold pickQ
    split
    · rfl
    split
    · rfl
    split
    · rfl
    split
    · rfl
    · rfl
  refine loopF_for' 15 (fun i => ((bestQ h' y i).1, (bestQ h' y i).2.1, (bestQ h' y i).2.2.1, (bestQ h' y i).2.2.2.1, (bestQ h' y i).2.2.2.2, (i : Int) + 1)) ?_ ?_ rfl (fu _ (by omega))
  · intro i hi self
    unfold g_X7_ofHumps_l23
    dsimp only
    rw [e_cI, b_neg (by omega), e_cI]
    refine join_gen (fun j33 hj33 => ?_)
    rw [show bestQ h' y (i + 1) = topQ h' y ((i : Int) + 1) 21 (bestQ h' y i) from rfl]
    generalize bestQ h' y i = s0 at *
    refine loopF_for' 21 (fun k => ((topQ h' y ((i : Int) + 1) k s0).1, (topQ h' y ((i : Int) + 1) k s0).2.1, (topQ h' y ((i : Int) + 1) k s0).2.2.1, (topQ h' y ((i : Int) + 1) k s0).2.2.2.1, (topQ h' y ((i : Int) + 1) k s0).2.2.2.2, (k : Int))) ?_ ?_ rfl (fu _ (by omega))
    · intro k hk2 self2
      have hc := cntF_in (h := h') (y := y) (b := (i : Int) + 1) (t := (k : Int)) 5
      unfold g_X7_ofHumps_l41
      dsimp only
      rw [e_cI, b_neg (by omega), k_howManyFit r hk (by omega) (by omega), e_cP, show topQ h' y ((i : Int) + 1) (k + 1) s0 = stepQ ((i : Int) + 1) k (cntF h' y ((i : Int) + 1) k 5) (topQ h' y ((i : Int) + 1) k s0) from rfl]
      generalize topQ h' y ((i : Int) + 1) k s0 = s1
      generalize cntF h' y ((i : Int) + 1) k 5 = c at hc
      refine join_gen (fun j51 hj51 => ?_)
      unfold stepQ
      by_cases z : c = 0
      · rw [b_pos (by omega), hj51, if_pos z, e_add _ _ _ (by omega), show ((k + 1 : Nat) : Int) = (k : Int) + 1 by omega]
      · (rw [b_neg (by omega), e_addw, e_cI, e_join]; (try dsimp only); rw [if_neg z])
        dsimp only
        by_cases z1 : s1.2.1 = -1
        · (rw [b_pos z1, e_cI, e_join]; (try dsimp only); rw [if_pos z1])
          by_cases z2 : s1.2.2.2.1 = -1
          · rw [b_pos z2, e_max, hj51, if_pos z2, e_add _ _ _ (by omega), show ((k + 1 : Nat) : Int) = (k : Int) + 1 by omega]
          · rw [b_neg z2, e_min, e_max, hj51, if_neg z2, e_add _ _ _ (by omega), show ((k + 1 : Nat) : Int) = (k : Int) + 1 by omega]
        · (rw [b_neg z1, e_cI, e_join]; (try dsimp only); rw [if_neg z1])
          by_cases z2 : s1.2.2.2.1 = -1
          · rw [b_pos z2, e_max, hj51, if_pos z2, e_add _ _ _ (by omega), show ((k + 1 : Nat) : Int) = (k : Int) + 1 by omega]
          · rw [b_neg z2, e_min, e_max, hj51, if_neg z2, e_add _ _ _ (by omega), show ((k + 1 : Nat) : Int) = (k : Int) + 1 by omega]
    · intro self2
      unfold g_X7_ofHumps_l41
      dsimp only
      rw [e_cI, b_pos (by omega), hj33, e_add _ _ _ (by omega), show ((i + 1 : Nat) : Int) = (i : Int) + 1 by omega]
  · intro self
    unfold g_X7_ofHumps_l23
    dsimp only
    rw [e_cI, b_pos (by omega)]
    exact fin
theorem m_humps {h : Hp} {y x : Int} (r : TriR h) (hy : 0 ≤ y ∧ y ≤ 999) (hx : 0 ≤ x ∧ x ≤ 4) : g_X9_humps y x h = some (pickQ x (bestQ h y 15)) := by
  unfold g_X9_humps
  (rw [e_i2l, e_cI, e_cI, e_in_t _ _ _ _ hy, e_join]; (try dsimp only); rw [b_neg (by decide), e_i2l, e_cI, e_cI, e_in_t _ _ _ _ hx, b_neg (by decide), e_cI, e_cI, e_cI, e_cI, e_cI, e_cI])
  refine join_gen (fun j19 hj19 => ?_)
  have fin : j19 (bestQ h y 15) = some (pickQ x (bestQ h y 15)) := by
    (rw [hj19, e_join]; (try dsimp only))
    unfold pickQ
    split
    · rfl
    rw [e_cI]
    split
    · rfl
    rw [e_cI]
    split
    · rfl
    rw [e_cI]
    split
    · rfl
    · rfl
  refine loopF_for' 15 (fun i => ((bestQ h y i).1, (bestQ h y i).2.1, (bestQ h y i).2.2.1, (bestQ h y i).2.2.2.1, (bestQ h y i).2.2.2.2, (i : Int) + 1)) ?_ ?_ rfl (fu _ (by omega))
  · intro i hi self
    unfold g_X9_humps_l32
    dsimp only
    rw [e_cI, b_neg (by omega), e_cI]
    refine join_gen (fun j42 hj42 => ?_)
    rw [show bestQ h y (i + 1) = topQ h y ((i : Int) + 1) 21 (bestQ h y i) from rfl]
    generalize bestQ h y i = s0 at *
    refine loopF_for' 21 (fun k => ((topQ h y ((i : Int) + 1) k s0).1, (topQ h y ((i : Int) + 1) k s0).2.1, (topQ h y ((i : Int) + 1) k s0).2.2.1, (topQ h y ((i : Int) + 1) k s0).2.2.2.1, (topQ h y ((i : Int) + 1) k s0).2.2.2.2, (k : Int))) ?_ ?_ rfl (fu _ (by omega))
    · intro k hk2 self2
      unfold g_X9_humps_l50
      dsimp only
      rw [e_cI, b_neg (by omega), e_cI]
      refine join_gen (fun j60 hj60 => ?_)
      rw [show topQ h y ((i : Int) + 1) (k + 1) s0 = stepQ ((i : Int) + 1) k (cntF h y ((i : Int) + 1) k 5) (topQ h y ((i : Int) + 1) k s0) from rfl]
      generalize topQ h y ((i : Int) + 1) k s0 = s1
      refine loopF_for' 5 (fun l => ((stepQ ((i : Int) + 1) k (cntF h y ((i : Int) + 1) k l) s1).1, (stepQ ((i : Int) + 1) k (cntF h y ((i : Int) + 1) k l) s1).2.1, (stepQ ((i : Int) + 1) k (cntF h y ((i : Int) + 1) k l) s1).2.2.1, (stepQ ((i : Int) + 1) k (cntF h y ((i : Int) + 1) k l) s1).2.2.2.1, (stepQ ((i : Int) + 1) k (cntF h y ((i : Int) + 1) k l) s1).2.2.2.2, (l : Int) + 1)) ?_ ?_ rfl (fu _ (by omega))
      · intro l hl self3
        have hc := cntF_in (h := h) (y := y) (b := (i : Int) + 1) (t := (k : Int)) l
        have hf := fitP_in (h := h) (y := y) (b := (i : Int) + 1) (t := (k : Int)) (l := (l : Int) + 1)
        unfold g_X9_humps_l68
        dsimp only
        rw [e_cI, b_neg (by omega), m_fits r (by omega) (by omega) (by omega), e_cP, show cntF h y ((i : Int) + 1) k (l + 1) = cntF h y ((i : Int) + 1) k l + fitP h y ((i : Int) + 1) k ((l : Int) + 1) from rfl]
        refine join_gen (fun j78 hj78 => ?_)
        rcases hf with z | z
        · rw [b_pos z, hj78, z, Int.add_zero, e_add _ _ _ (by omega), show ((l + 1 : Nat) : Int) = (l : Int) + 1 by omega]
        · (rw [b_neg (by omega), z, stepQ_one (by omega) (by omega) hc.1, e_addw, e_cI, e_join]; (try dsimp only))
          generalize stepQ ((i : Int) + 1) k (cntF h y ((i : Int) + 1) k l) s1 = s2
          unfold stepQ
          rw [if_neg (show ¬ (1 : Int) = 0 by decide)]
          dsimp only
          by_cases z1 : s2.2.1 = -1
          · (rw [b_pos z1, e_cI, e_join]; (try dsimp only); rw [if_pos z1])
            by_cases z2 : s2.2.2.2.1 = -1
            · rw [b_pos z2, e_max, hj78, if_pos z2, e_add _ _ _ (by omega), show ((l + 1 : Nat) : Int) = (l : Int) + 1 by omega]
            · rw [b_neg z2, e_min, e_max, hj78, if_neg z2, e_add _ _ _ (by omega), show ((l + 1 : Nat) : Int) = (l : Int) + 1 by omega]
          · (rw [b_neg z1, e_cI, e_join]; (try dsimp only); rw [if_neg z1])
            by_cases z2 : s2.2.2.2.1 = -1
            · rw [b_pos z2, e_max, hj78, if_pos z2, e_add _ _ _ (by omega), show ((l + 1 : Nat) : Int) = (l : Int) + 1 by omega]
            · rw [b_neg z2, e_min, e_max, hj78, if_neg z2, e_add _ _ _ (by omega), show ((l + 1 : Nat) : Int) = (l : Int) + 1 by omega]
      · intro self3
        unfold g_X9_humps_l68
        dsimp only
        rw [e_cI, b_pos (by omega), hj60, e_add _ _ _ (by omega), show ((k + 1 : Nat) : Int) = (k : Int) + 1 by omega]
    · intro self2
      unfold g_X9_humps_l50
      dsimp only
      rw [e_cI, b_pos (by omega), hj42, e_add _ _ _ (by omega), show ((i + 1 : Nat) : Int) = (i : Int) + 1 by omega]
  · intro self
    unfold g_X9_humps_l32
    dsimp only
    rw [e_cI, b_pos (by omega)]
    exact fin
theorem TriR.hp {h h2 : Hp} (r : TriR h) (f : ∀ p, 36 ≤ p → p ≤ 43 → h2 p = h p) (g : ∀ p, 126 ≤ p → p ≤ 132 → h2 p = h p) (e : h2 100 = h 100) : TriR h2 :=
  r.mv f g ⟨by rw [e], by rw [e], by rw [e]⟩
theorem knP_hp {h h2 : Hp} {y : Int} {k : Nat} (e : ∀ p, 37 ≤ p → p ≤ 43 → h2 p = h p) : ∀ n, knP h2 y k n = knP h y k n
  | 0 => by unfold knP; rw [e 37 (by omega) (by omega), e 40 (by omega) (by omega)]
  | n + 1 => by unfold knP; rw [knP_hp e n, e 41 (by omega) (by omega), e 42 (by omega) (by omega), e 43 (by omega) (by omega)]
theorem s_humps {n : Nat} {h : Hp} {x1 x2 : Int} (r : Rel n h) : ∃ z h1, g_X8_humps x1 x2 h = some (z, h1) ∧ g_X9_humps x1 x2 h1 = some z ∧ Rel (n + 1) h1 := by
  have rt := r.2.2.2.2.2.2.2.2
  by_cases b0 : (0 ≤ x1 ∧ x1 ≤ 999) ∧ (0 ≤ x2 ∧ x2 ≤ 4)
  rotate_left
  · unfold g_X8_humps g_X9_humps
    refine ⟨-2, h, ?_, ?_, r.next⟩
    · by_cases c1 : x1 < 0
      · (repeat (first | rw [e_i2l] | rw [e_cI] | rw [e_join] | rw [e_cP] | rw [e_gF] | rw [e_pF] | rw [e_cW] | rw [e_cV] | rw [e_in_t _ _ _ _ (by omega)] | rw [e_in_f _ _ _ _ (by omega)] | rw [b_pos (by omega)] | rw [b_neg (by omega)] | rw [e_add _ _ _ (by omega)] | rw [e_sub _ _ _ (by omega)] | rw [e_mul _ _ _ (by omega)] | rw [e_lsub _ _ _ (by omega)] | rw [e_rd _ _ _ _ _ (by omega)] | rw [b_pos True.intro] | rw [b_neg not_false] | simp only [Int.reduceToNat, Int.reduceSub, Int.reduceAdd, Int.reduceMul]))
      by_cases c2 : 999 < x1
      · (repeat (first | rw [e_i2l] | rw [e_cI] | rw [e_join] | rw [e_cP] | rw [e_gF] | rw [e_pF] | rw [e_cW] | rw [e_cV] | rw [e_in_t _ _ _ _ (by omega)] | rw [e_in_f _ _ _ _ (by omega)] | rw [b_pos (by omega)] | rw [b_neg (by omega)] | rw [e_add _ _ _ (by omega)] | rw [e_sub _ _ _ (by omega)] | rw [e_mul _ _ _ (by omega)] | rw [e_lsub _ _ _ (by omega)] | rw [e_rd _ _ _ _ _ (by omega)] | rw [b_pos True.intro] | rw [b_neg not_false] | simp only [Int.reduceToNat, Int.reduceSub, Int.reduceAdd, Int.reduceMul]))
      by_cases c3 : x2 < 0
      · (repeat (first | rw [e_i2l] | rw [e_cI] | rw [e_join] | rw [e_cP] | rw [e_gF] | rw [e_pF] | rw [e_cW] | rw [e_cV] | rw [e_in_t _ _ _ _ (by omega)] | rw [e_in_f _ _ _ _ (by omega)] | rw [b_pos (by omega)] | rw [b_neg (by omega)] | rw [e_add _ _ _ (by omega)] | rw [e_sub _ _ _ (by omega)] | rw [e_mul _ _ _ (by omega)] | rw [e_lsub _ _ _ (by omega)] | rw [e_rd _ _ _ _ _ (by omega)] | rw [b_pos True.intro] | rw [b_neg not_false] | simp only [Int.reduceToNat, Int.reduceSub, Int.reduceAdd, Int.reduceMul]))
      (repeat (first | rw [e_i2l] | rw [e_cI] | rw [e_join] | rw [e_cP] | rw [e_gF] | rw [e_pF] | rw [e_cW] | rw [e_cV] | rw [e_in_t _ _ _ _ (by omega)] | rw [e_in_f _ _ _ _ (by omega)] | rw [b_pos (by omega)] | rw [b_neg (by omega)] | rw [e_add _ _ _ (by omega)] | rw [e_sub _ _ _ (by omega)] | rw [e_mul _ _ _ (by omega)] | rw [e_lsub _ _ _ (by omega)] | rw [e_rd _ _ _ _ _ (by omega)] | rw [b_pos True.intro] | rw [b_neg not_false] | simp only [Int.reduceToNat, Int.reduceSub, Int.reduceAdd, Int.reduceMul]))
    · by_cases c1 : x1 < 0 ∨ 999 < x1
      · (repeat (first | rw [e_i2l] | rw [e_cI] | rw [e_join] | rw [e_cP] | rw [e_gF] | rw [e_pF] | rw [e_cW] | rw [e_cV] | rw [e_in_t _ _ _ _ (by omega)] | rw [e_in_f _ _ _ _ (by omega)] | rw [b_pos (by omega)] | rw [b_neg (by omega)] | rw [e_add _ _ _ (by omega)] | rw [e_sub _ _ _ (by omega)] | rw [e_mul _ _ _ (by omega)] | rw [e_lsub _ _ _ (by omega)] | rw [e_rd _ _ _ _ _ (by omega)] | rw [b_pos True.intro] | rw [b_neg not_false] | simp only [Int.reduceToNat, Int.reduceSub, Int.reduceAdd, Int.reduceMul]))
      (repeat (first | rw [e_i2l] | rw [e_cI] | rw [e_join] | rw [e_cP] | rw [e_gF] | rw [e_pF] | rw [e_cW] | rw [e_cV] | rw [e_in_t _ _ _ _ (by omega)] | rw [e_in_f _ _ _ _ (by omega)] | rw [b_pos (by omega)] | rw [b_neg (by omega)] | rw [e_add _ _ _ (by omega)] | rw [e_sub _ _ _ (by omega)] | rw [e_mul _ _ _ (by omega)] | rw [e_lsub _ _ _ (by omega)] | rw [e_rd _ _ _ _ _ (by omega)] | rw [b_pos True.intro] | rw [b_neg not_false] | simp only [Int.reduceToNat, Int.reduceSub, Int.reduceAdd, Int.reduceMul]))
  obtain ⟨h1, w1, w2, w3⟩ := k_lookBackTo (y := x1) rt
  have e := fun p (_ : 36 ≤ p) (_ : p ≤ 43) => w2 p (by omega)
  have rt1 : TriR h1 := rt.hp e (fun p _ _ => w2 p (by omega)) (w2 100 (by omega))
  have kn1 : ∀ k, k < (h1 36 0).toNat → h1 44 k = knP h1 x1 k (h1 36 1).toNat := by
    intro k hk
    rw [w2 36 (by omega)] at hk ⊢
    rw [w3 k hk, knP_hp (fun p _ _ => w2 p (by omega))]
  refine ⟨pickQ x2 (bestQ h1 x1 15), h1, ?_, m_humps rt1 b0.1 b0.2, r.quiet (by omega) (fun p _ => w2 p (by omega)) (fun p _ _ => w2 p (by omega)) (fun p _ => w2 p (by omega))⟩
  unfold g_X8_humps
  (rw [e_join]; (try dsimp only); rw [b_neg (by omega), e_cI, b_neg (by omega), b_neg (by omega), e_cI, b_pos (by omega), k_ofHumps rt1 w1 kn1, e_cW])
