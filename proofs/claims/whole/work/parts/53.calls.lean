/-! CALLS that run trials: last, pail, row, again -/
def okSpan (x : Int) : Prop := 1 ≤ x ∧ x ≤ 99
theorem k_isSpan_t {x : Int} (h : okSpan x) : g_X8_isSpan x = some 1 := by
  unfold okSpan at h
  unfold g_X8_isSpan
  (rw [e_cI, e_join]; (try dsimp only); rw [e_join]; (try dsimp only); rw [b_neg (by omega), e_cI, b_neg (by omega), e_cI])
  exact e_retZ1
theorem k_isSpan_f {x : Int} (h : ¬ okSpan x) : g_X8_isSpan x = some 0 := by
  unfold okSpan at h
  unfold g_X8_isSpan
  (rw [e_cI, e_join]; (try dsimp only); rw [e_join]; (try dsimp only))
  by_cases b : x < 1
  · rw [b_pos b, e_cI]
    exact e_retZ0
  · rw [b_neg b, e_cI, b_pos (by omega), e_cI]
    exact e_retZ0
theorem m_areMinutes_t {x : Int} (h : okSpan x) : g_X9_areMinutes x = some 1 := by
  unfold g_X9_areMinutes
  rw [e_i2l, e_cI, e_cI, e_in_t _ _ _ _ h]
  exact e_retZ1
theorem m_areMinutes_f {x : Int} (h : ¬ okSpan x) : g_X9_areMinutes x = some 0 := by
  unfold okSpan at h
  unfold g_X9_areMinutes
  rw [e_i2l, e_cI, e_cI, e_in_f _ _ _ _ (by omega)]
  exact e_retZ0
def okSeeds (x : Int) : Prop := 1 ≤ x ∧ x ≤ 9
theorem k_isSeeds_t {x : Int} (h : okSeeds x) : g_X8_isSeeds x = some 1 := by
  unfold okSeeds at h
  unfold g_X8_isSeeds
  (rw [e_cI, e_join]; (try dsimp only); rw [e_join]; (try dsimp only); rw [b_neg (by omega), e_cI, b_neg (by omega), e_cI])
  exact e_retZ1
theorem k_isSeeds_f {x : Int} (h : ¬ okSeeds x) : g_X8_isSeeds x = some 0 := by
  unfold okSeeds at h
  unfold g_X8_isSeeds
  (rw [e_cI, e_join]; (try dsimp only); rw [e_join]; (try dsimp only))
  by_cases b : x < 1
  · rw [b_pos b, e_cI]
    exact e_retZ0
  · rw [b_neg b, e_cI, b_pos (by omega), e_cI]
    exact e_retZ0
theorem m_areSeeds_t {x : Int} (h : okSeeds x) : g_X9_areSeeds x = some 1 := by
  unfold g_X9_areSeeds
  rw [e_i2l, e_cI, e_cI, e_in_t _ _ _ _ h]
  exact e_retZ1
theorem m_areSeeds_f {x : Int} (h : ¬ okSeeds x) : g_X9_areSeeds x = some 0 := by
  unfold okSeeds at h
  unfold g_X9_areSeeds
  rw [e_i2l, e_cI, e_cI, e_in_f _ _ _ _ (by omega)]
  exact e_retZ0
def okFlag (h : Hp) (x : Int) : Prop := 0 ≤ x ∧ x < h 100 12
theorem k_isFlag_t {h : Hp} {c : Nat} {x : Int} (rb : BchR h c) (o : okFlag h x) : g_X8_isFlag x h = some 1 := by unfold okFlag at o; rw [k_isFlag rb, if_neg (by omega), if_neg (by omega)]
theorem k_isFlag_f {h : Hp} {c : Nat} {x : Int} (rb : BchR h c) (o : ¬ okFlag h x) : g_X8_isFlag x h = some 0 := by
  unfold okFlag at o
  rw [k_isFlag rb]
  split
  · rfl
  · rw [if_pos (by omega)]
theorem m_isFlag_t {h : Hp} {x : Int} (hv : PV h) (o : okFlag h x) : g_X9_isFlag x h = some 1 := by unfold okFlag at o; rw [m_isFlag hv, if_neg (by omega), if_neg (by omega)]
theorem m_isFlag_f {h : Hp} {x : Int} (hv : PV h) (o : ¬ okFlag h x) : g_X9_isFlag x h = some 0 := by
  unfold okFlag at o
  rw [m_isFlag hv]
  split
  · rfl
  · rw [if_pos (by omega)]
def okPlan (h : Hp) (x : Int) : Prop := -1 ≤ x ∧ x < h 100 41
theorem k_isPlan_t {h : Hp} {x : Int} (rp : PlsR h) (o : okPlan h x) : g_X8_isPlanOrNone x h = some 1 := by unfold okPlan at o; rw [k_isPlanOrNone rp, if_neg (by omega), if_neg (by omega)]
theorem k_isPlan_f {h : Hp} {x : Int} (rp : PlsR h) (o : ¬ okPlan h x) : g_X8_isPlanOrNone x h = some 0 := by
  unfold okPlan at o
  rw [k_isPlanOrNone rp]
  split
  · rfl
  · rw [if_pos (by omega)]
theorem Rel.trial {n : Nat} {h h2 : Hp} (r : Rel n h) (f : ∀ p, p ≠ 122 → (p < 46 ∨ 58 < p) → h2 p = h p) : Rel (n + 1) h2 :=
  r.quiet (by omega) (fun p _ => f p (by omega) (by omega)) (fun p _ _ => f p (by omega) (by omega)) (fun p _ => f p (by omega) (by omega))
theorem Rel.pm1 {h g : Hp} (f : TF h g) : PM h g := fun p hp => f p (by omega)
theorem s_last {n : Nat} {h : Hp} {x1 x2 x3 x4 : Int} (hn : n ≤ 600) (hx3 : inR x3) (r : Rel n h) : ∃ z h1 h2, g_X8_last x1 x2 x3 x4 h = some (z, h1) ∧ g_X9_last x1 x2 x3 x4 h1 = some (z, h2) ∧ Rel (n + 1) h2 := by
  have r' := r
  obtain ⟨hv, ⟨c, rb⟩, ⟨v, rs⟩, rp, -⟩ := r'
  unfold inR at hx3
  have h41 := (pv_plan hv).1
  have h12 := (pv_flags hv).1
  unfold g_X8_last g_X9_last
  by_cases o1 : okFlag h x1
  rotate_left
  · refine ⟨-2, h, h, ?_, ?_, r.next⟩
    · (rw [k_isFlag_f rb o1, e_cP, e_join]; (try dsimp only); rw [b_pos rfl, e_cI])
    · (rw [m_isFlag_f hv o1, e_cP, e_join]; (try dsimp only); rw [b_pos rfl, e_cI])
  rw [k_isFlag_t rb o1, e_cP]
  by_cases o2 : okPlan h x2
  rotate_left
  · refine ⟨-2, h, h, ?_, ?_, r.next⟩
    · (rw [e_join]; (try dsimp only); rw [b_neg (by decide), k_isPlan_f rp o2, e_cP, b_pos rfl, e_cI])
    · unfold okPlan at o2
      (rw [m_isFlag_t hv o1, e_cP, e_join]; (try dsimp only); rw [b_neg (by decide), e_cI, e_join]; (try dsimp only); rw [b_neg (by omega), m_isPlan hv, e_cP])
      have : (if x2 < 0 then (0 : Int) else if h 100 41 - 1 < x2 then 0 else 1) = 0 := by split <;> (try split) <;> omega
      rw [this, b_pos rfl, e_cI]
  have mplan : ∀ (g : Hp) (K : Unit → Option (Int × Hp)) (F : Option (Int × Hp)), PM h g → (if x2 = -1 then K () else cP (g_X9_isPlan x2 g) fun z18 => if z18 = 0 then F else K ()) = K () := by
    intro g K F hg
    unfold okPlan at o2
    by_cases z : x2 = -1
    · rw [if_pos z]
    · have : PV g := hv.te (TE.pm hg)
      rw [if_neg z, m_isPlan this, e_cP, hg 100 (by omega), if_neg (show ¬ x2 < 0 by omega), if_neg (show ¬ h 100 41 - 1 < x2 by omega), if_neg (by decide)]
  by_cases o3 : x3 < 0
  · refine ⟨-2, h, h, ?_, ?_, r.next⟩
    · (rw [e_join]; (try dsimp only); rw [b_neg (by decide), k_isPlan_t rp o2, e_cP, b_neg (by decide), b_pos o3, e_cI])
    · (rw [m_isFlag_t hv o1, e_cP, e_join]; (try dsimp only); rw [b_neg (by decide), e_cI])
      refine join_gen (fun j7 hj7 => ?_)
      rw [mplan h j7 _ (fun _ _ => rfl), hj7, b_pos o3, e_cI]
  by_cases o4 : okSpan x4
  rotate_left
  · refine ⟨-2, h, h, ?_, ?_, r.next⟩
    · (rw [e_join]; (try dsimp only); rw [b_neg (by decide), k_isPlan_t rp o2, e_cP, b_neg (by decide), b_neg o3, k_isSpan_f o4, e_cP, b_pos rfl, e_cI])
    · (rw [m_isFlag_t hv o1, e_cP, e_join]; (try dsimp only); rw [b_neg (by decide), e_cI])
      refine join_gen (fun j7 hj7 => ?_)
      rw [mplan h j7 _ (fun _ _ => rfl), hj7, b_neg o3, m_areMinutes_f o4, e_cP, b_pos rfl, e_cI]
  obtain ⟨k, rfl⟩ := Int.eq_ofNat_of_zero_le o1.1
  obtain ⟨M, rfl⟩ := Int.eq_ofNat_of_zero_le (show 0 ≤ x4 by unfold okSpan at o4; omega)
  have hk : k < (h 100 12).toNat := by unfold okFlag at o1; omega
  have hM : 1 ≤ M ∧ M ≤ 99 := by unfold okSpan at o4; omega
  have hs : 0 ≤ x3 ∧ x3 < 2147483648 := by omega
  obtain ⟨g1, a1, a2, a3, a4, a5⟩ := tf_start (p := x2) (seed := x3) r TF.rf o2 hs
  have w1 := tf_watchFlag (W := 0) r rb a2 a3 hk (by omega) (by rw [a4]; rfl)
  have f2 : TF h (set2 (set2 (set2 g1 56 0 (fc h k : Int)) 57 0 (ffl h k)) 46 5 (((0 : Nat) : Int) + 1)) := fun p hp => by rw [set2_ne p (by omega), set2_ne p (by omega), set2_ne p (by omega), a2 p hp]
  obtain ⟨g2, b1, b2, b3⟩ := tf_run1 (wk := fun _ => -1) (M := M) r hn rb rs f2 o2 hs (a3.fr (fun p _ _ => by rw [set2_ne p (by omega), set2_ne p (by omega), set2_ne p (by omega)])) hk (by rw [set2_same]; rfl) (by rw [set2_np _ _ _ _ _ _ (by omega), set2_np _ _ _ _ _ _ (by omega), set2_same]) (by rw [set2_np _ _ _ _ _ _ (by omega), set2_same])
    (fun m hm => Or.inl (by rw [set2_np _ _ _ _ _ _ (by omega), set2_np _ _ _ _ _ _ (by omega), set2_np _ _ _ _ _ _ (by omega), a5 m hm])) (fun m hm => by rw [set2_np _ _ _ _ _ _ (by omega), set2_np _ _ _ _ _ _ (by omega), set2_np _ _ _ _ _ _ (by omega), a5 m hm]) hM
  have e121 : g2 121 = h 121 := b2 121 (by omega)
  obtain ⟨q1, q2⟩ := fc_in hv hk
  refine ⟨valP h k x2 x3 (fun _ => -1) M, g2, setRow g2 122 (trS h (fc h k) (fun _ => -1) (bgM h g2 x2 x3) M), ?_, ?_, ?_⟩
  · (rw [e_join]; (try dsimp only); rw [b_neg (by decide), k_isPlan_t rp o2, e_cP, b_neg (by decide), b_neg o3, k_isSpan_t o4, e_cP, b_neg (by decide), a1, e_cV, tf_beach rb a2, w1, e_cV, tf_beach rb f2, tf_sea rs f2, tf_plan rp hv f2 o2, e_cP, b1, e_cV, e_cI, e_rd _ _ _ _ _ (by omega), show (0 : Int).toNat = 0 from rfl, b3])
  · (rw [m_isFlag_t (hv.te (TE.pm (Rel.pm1 b2))) (by unfold okFlag; rw [b2 100 (by omega)]; exact o1), e_cP, e_join]; (try dsimp only); rw [b_neg (by decide), e_cI])
    refine join_gen (fun j7 hj7 => ?_)
    rw [mplan g2 j7 _ (Rel.pm1 b2), hj7, b_neg o3, m_areMinutes_t o4, e_cP, b_neg (by decide), m_begin e121, e_cV, e_cI]
    refine loopF_for' M (fun i => ((i : Int), setRow g2 122 (trS h (fc h k) (fun _ => -1) (bgM h g2 x2 x3) i))) ?_ ?_ rfl (fu _ (by omega))
    · intro i hi self
      unfold g_X9_last_l12
      dsimp only
      rw [b_neg (by omega), m_min1 r hn (Rel.pm1 b2) o2 hs q2 (by omega) g2, e_cV, e_add _ _ _ (by omega), show ((i + 1 : Nat) : Int) = (i : Int) + 1 by omega]
    · intro self
      unfold g_X9_last_l12
      dsimp only
      rw [b_pos (by omega), m_lastV r hn e121 o2 hs hk hM, e_cP]
  · exact r.trial (fun p h1 h2 => by rw [setRow_ne _ _ _ _ h1, b2 p h2])
/-! rows of works -/
def dg (x y : Int) : Int := (iI (shP x y) &&& iI 3).toInt
theorem dg_in (x y : Int) : 0 ≤ dg x y ∧ dg x y ≤ 3 := by
  have hx := shP_in x y
  unfold dg
  generalize shP x y = u at hx
  have e : (iI u &&& iI 3).toInt = u % 4 := by
    have e := pk_and (iI u) (m := iI 3) 2 (by decide +kernel)
    rw [e]
    have h1 : ((iI u).toBitVec.toNat : Int) = u % 4294967296 := by
      have h2 := iI_toInt hx
      have h3 := (iI u).toBitVec.toInt_eq_toNat_cond
      have h4 : (iI u).toInt = (iI u).toBitVec.toInt := rfl
      have h5 := (iI u).toBitVec.isLt
      rw [h4, h3] at h2
      split at h2 <;> omega
    rw [nI_toInt (by omega)]
    omega
  rw [e]
  omega
theorem e_dg {R : Type} (x y : Int) (K : Int → Option R) : (shrI x y fun z => cI 3 fun w => andI z w K) = K (dg x y) := nrfl rfl
theorem e_mulw {R : Type} (x y : Int) (K : Int → Option R) : mulI x y K = K (wr (x * y)) := nrfl rfl
def rowW (n x : Int) (m : Nat) : Int := if (m : Int) < n then dg x (2 * (n - 1 - (m : Int))) else -1
def digP (x : Int) : Nat → Int → Int
  | 0, d => d
  | i + 1, d => digP x i (wr (wr (10 * d) + dg x (2 * (i : Int))))
theorem k_digits {a8 : Int × Hp} : ∀ (i F : Nat) (d : Int), i < F → i ≤ 10 → loopF (g_X8_bestRow_l16 a8) F (d, (i : Int) - 1) = some (digP a8.1 i d, a8.2)
  | 0, F, d, hF, _ => by
    obtain ⟨F, rfl⟩ : ∃ g, F = g + 1 := ⟨F - 1, by omega⟩
    show g_X8_bestRow_l16 a8 (loopF _ F) (d, ((0 : Nat) : Int) - 1) = _
    unfold g_X8_bestRow_l16
    dsimp only
    rw [b_pos (by omega)]
    rfl
  | i + 1, F, d, hF, hi => by
    obtain ⟨F, rfl⟩ : ∃ g, F = g + 1 := ⟨F - 1, by omega⟩
    have ih := k_digits (a8 := a8) i F (wr (wr (10 * d) + dg a8.1 (2 * (i : Int)))) (by omega) (by omega)
    show g_X8_bestRow_l16 a8 (loopF _ F) (d, ((i + 1 : Nat) : Int) - 1) = _
    generalize loopF (g_X8_bestRow_l16 a8) F = self at ih
    unfold g_X8_bestRow_l16
    dsimp only
    rw [b_neg (by omega), e_cI, e_mulw, e_cI, e_mul _ _ _ (by omega), e_dg, e_addw, e_add _ _ _ (by omega), show ((i + 1 : Nat) : Int) - 1 = (i : Int) by omega, show (i : Int) + -1 = (i : Int) - 1 by omega, Int.mul_comm d 10, ih]
    rfl
theorem m_digits {a8 : Int × Hp} : ∀ (i F : Nat) (d : Int), i < F → i ≤ 10 → loopF (g_X9_bestRow_l12 a8) F (d, (i : Int) - 1) = some (digP a8.1 i d, a8.2)
  | 0, F, d, hF, _ => by
    obtain ⟨F, rfl⟩ : ∃ g, F = g + 1 := ⟨F - 1, by omega⟩
    show g_X9_bestRow_l12 a8 (loopF _ F) (d, ((0 : Nat) : Int) - 1) = _
    unfold g_X9_bestRow_l12
    dsimp only
    rw [b_pos (by omega)]
    rfl
  | i + 1, F, d, hF, hi => by
    obtain ⟨F, rfl⟩ : ∃ g, F = g + 1 := ⟨F - 1, by omega⟩
    have ih := m_digits (a8 := a8) i F (wr (wr (10 * d) + dg a8.1 (2 * (i : Int)))) (by omega) (by omega)
    show g_X9_bestRow_l12 a8 (loopF _ F) (d, ((i + 1 : Nat) : Int) - 1) = _
    generalize loopF (g_X9_bestRow_l12 a8) F = self at ih
    unfold g_X9_bestRow_l12
    dsimp only
    rw [b_neg (by omega), e_cI, e_mulw, e_cI, e_mul _ _ _ (by omega), e_dg, e_addw, e_add _ _ _ (by omega), show ((i + 1 : Nat) : Int) - 1 = (i : Int) by omega, show (i : Int) + -1 = (i : Int) - 1 by omega, ih]
    rfl
/-- the first of the greatest: (which, how great) -/
def bsP (f : Nat → Int) : Nat → Int × Int
  | 0 => (0, -1)
  | x + 1 => if (bsP f x).2 < f x then ((x : Int), f x) else bsP f x
theorem bs_done {f : Nat → Int} {M : Int} (hf : ∀ x, f x ≤ M) {x : Nat} (h : M ≤ (bsP f x).2) : ∀ j : Nat, bsP f (x + j) = bsP f x
  | 0 => rfl
  | j + 1 => by
    have ih := bs_done hf h j
    show (if (bsP f (x + j)).2 < f (x + j) then (((x + j : Nat) : Int), f (x + j)) else bsP f (x + j)) = _
    have := hf (x + j)
    rw [ih, if_neg (by omega)]
def rwP (h : Hp) (k : Nat) (n seed : Int) (M : Nat) (x : Nat) : Int := valP h k (-1) seed (rowW n (x : Int)) M
theorem rwP_le {h : Hp} {k : Nat} {n seed : Int} {M x : Nat} : 0 ≤ rwP h k n seed M x ∧ rwP h k n seed M x ≤ (M : Int) := lastP_in
theorem shl1 {n : Nat} (hn : 1 ≤ n ∧ n ≤ 4) : (iI 1 <<< (iI (2 * (n : Int)) &&& 31)).toInt = ((4 ^ n : Nat) : Int) := by
  rcases (by omega : n = 1 ∨ n = 2 ∨ n = 3 ∨ n = 4) with rfl | rfl | rfl | rfl <;> decide +kernel
theorem e_shl1 {R : Type} {n : Nat} (hn : 1 ≤ n ∧ n ≤ 4) (K : Int → Option R) : (shlI 1 (2 * (n : Int)) K) = K ((4 ^ n : Nat) : Int) := by
  rw [← shl1 hn]
  rfl
theorem pow4 {n : Nat} (hn : 1 ≤ n ∧ n ≤ 4) : 4 ^ n ≤ 256 := by
  rcases (by omega : n = 1 ∨ n = 2 ∨ n = 3 ∨ n = 4) with rfl | rfl | rfl | rfl <;> decide
theorem k_bestRow {h : Hp} {N k n M c v : Nat} {seed : Int} (r : Rel N h) (hN : N ≤ 600) (rb : BchR h c) (rs : SeaR h v) (hk : k < (h 100 12).toNat) (hn : 1 ≤ n ∧ n ≤ 4) (hs : 0 ≤ seed ∧ seed < 2147483648) (hM : 1 ≤ M ∧ M ≤ 99) :
    ∃ g, g_X8_bestRow (k : Int) (n : Int) seed (M : Int) h = some (digP (bsP (rwP h k n seed M) (4 ^ n)).1 n 0, g) ∧ TF h g := by
  have hv := r.1
  have h41 := (pv_plan hv).1
  have hp4 := pow4 hn
  have key : ∃ rr : Int × Hp, g_X8_bestRow (k : Int) (n : Int) seed (M : Int) h = some rr ∧ (rr.1 = digP (bsP (rwP h k n seed M) (4 ^ n)).1 n 0 ∧ TF h rr.2) := by
    unfold g_X8_bestRow
    rw [e_cI, e_cI, e_mul _ _ _ (by omega), e_shl1 hn, e_cI, e_cI, e_cI]
    refine join_ex (fun j9 hj9 => ?_)
    have fin : ∀ (b : Int) (g : Hp), b = (bsP (rwP h k n seed M) (4 ^ n)).1 → TF h g → ∃ rr : Int × Hp, j9 (b, g) = some rr ∧ (rr.1 = digP (bsP (rwP h k n seed M) (4 ^ n)).1 n 0 ∧ TF h rr.2) := by
      intro b g hb hg
      rw [hj9, e_cI, e_cI, e_sub _ _ _ (by omega), k_digits n FU 0 (fu _ (by omega)) (by omega)]
      exact ⟨_, rfl, by dsimp only; rw [hb], hg⟩
    refine loopF_ex (4 ^ n) (fun i (q : Int × Int × Int × Hp) => (q.1 = (bsP (rwP h k n seed M) i).1 ∧ q.2.1 = (bsP (rwP h k n seed M) i).2 ∧ q.2.2.1 = (i : Int)) ∧ TF h q.2.2.2) ?_ ?_ FU 0 _ (Nat.zero_le _) (fu _ (by omega)) ⟨⟨rfl, rfl, rfl⟩, TF.rf⟩
    · rintro i ⟨y1, y2, y3, g⟩ hi ⟨⟨e1, e2, e3⟩, hg⟩ self
      dsimp only at e1 e2 e3 hg
      subst e1 e2 e3
      unfold g_X8_bestRow_l29
      dsimp only
      rw [b_neg (by omega)]
      by_cases z : (M : Int) ≤ (bsP (rwP h k n seed M) i).2
      · right
        rw [b_pos z]
        have := bs_done (fun x => (rwP_le (h := h) (k := k) (n := (n : Int)) (seed := seed) (M := M) (x := x)).2) z (4 ^ n - i)
        rw [show i + (4 ^ n - i) = 4 ^ n by omega] at this
        exact fin _ g (by rw [this]) hg
      left
      rw [b_neg z, e_cI]
      obtain ⟨g1, a1, a2, a3, a4, a5⟩ := tf_start (p := -1) (seed := seed) r hg (by omega) hs
      have w1 := tf_watchFlag (W := 0) r rb a2 a3 hk (by omega) (by rw [a4]; rfl)
      generalize hg2 : set2 (set2 (set2 g1 56 0 (fc h k : Int)) 57 0 (ffl h k)) 46 5 (((0 : Nat) : Int) + 1) = g2 at w1
      have f2 : TF h g2 := fun p hp => by rw [← hg2, set2_ne p (by omega), set2_ne p (by omega), set2_ne p (by omega), a2 p hp]
      have r2 : RS h g2 47 (bg h (-1) seed) := a3.fr (fun p _ _ => by rw [← hg2, set2_ne p (by omega), set2_ne p (by omega), set2_ne p (by omega)])
      have c5 : g2 46 5 = 1 := by rw [← hg2, set2_same]; rfl
      have c56 : g2 56 0 = (fc h k : Int) := by rw [← hg2, set2_np _ _ _ _ _ _ (by omega), set2_np _ _ _ _ _ _ (by omega), set2_same]
      have c57 : g2 57 0 = ffl h k := by rw [← hg2, set2_np _ _ _ _ _ _ (by omega), set2_same]
      have c58 : ∀ m, m < 99 → g2 58 m = -1 := fun m hm => by rw [← hg2, set2_np _ _ _ _ _ _ (by omega), set2_np _ _ _ _ _ _ (by omega), set2_np _ _ _ _ _ _ (by omega), a5 m hm]
      rw [a1, e_cV, tf_beach rb a2, w1, e_cV, e_cI]
      refine join_exr (fun j40 hj40 => ?_)
      -- the works are set
      have sets : loopF (g_X8_bestRow_l55 j40 ((bsP (rwP h k n seed M) i).1, (bsP (rwP h k n seed M) i).2, (i : Int), g) (n : Int)) FU (0, g2) = j40 (setRow g2 58 (fun m => if m < n then rowW n (i : Int) m else g2 58 m)) := by
        refine loopF_for' n (fun m => ((m : Int), setRow g2 58 (fun j => if j < m then rowW n (i : Int) j else g2 58 j))) ?_ ?_ ?_ (fu _ (by omega))
        · intro m hm self2
          unfold g_X8_bestRow_l55
          dsimp only
          have es : g_X6_setWork 46 (m : Int) (dg (i : Int) (2 * ((n : Int) - 1 - (m : Int)))) (setRow g2 58 (fun j => if j < m then rowW n (i : Int) j else g2 58 j)) = some (setRow g2 58 (fun j => if j < m + 1 then rowW n (i : Int) j else g2 58 j)) := by
            unfold g_X6_setWork
            (rw [e_join]; (try dsimp only); rw [b_neg (by omega), e_cI, b_neg (by omega), show 46 + 12 = 58 from rfl, e_wrR _ _ _ _ _ _ (by omega), setRow_same, setRow_setRow, Int.toNat_natCast])
            congr 2
            funext j
            unfold upd1
            try dsimp only
            try dsimp only
            by_cases y : j = m
            · subst y
              rw [if_pos rfl, if_pos (show j < j + 1 by omega)]
              unfold rowW
              rw [if_pos (show (j : Int) < (n : Int) by omega)]
            · rw [if_neg y]
              by_cases y2 : j < m
              · rw [if_pos y2, if_pos (show j < m + 1 by omega)]
              · rw [if_neg y2, if_neg (show ¬ j < m + 1 by omega)]
          rw [b_neg (by omega), e_cI, e_cI, e_sub _ _ _ (by omega), e_sub _ _ _ (by omega), e_mul _ _ _ (by omega), e_dg, es, e_cV, e_add _ _ _ (by omega), show ((m + 1 : Nat) : Int) = (m : Int) + 1 by omega]
        · intro self2
          unfold g_X8_bestRow_l55
          dsimp only
          rw [b_pos (by omega)]
        · refine Prod.ext rfl ?_
          dsimp only
          have : (fun j => if j < 0 then rowW n (i : Int) j else g2 58 j) = g2 58 := by funext j; rw [if_neg (by omega)]
          rw [this, setRow_self]
      rw [sets, hj40]
      have c58b : ∀ m, m < 99 → setRow g2 58 (fun m => if m < n then rowW n (i : Int) m else g2 58 m) 58 m = rowW n (i : Int) m := by
        intro m hm
        rw [setRow_same]
        by_cases y : m < n
        · rw [if_pos y]
        · rw [if_neg y, c58 m hm]
          unfold rowW
          rw [if_neg (by omega)]
      have ne : ∀ p, p ≠ 58 → setRow g2 58 (fun m => if m < n then rowW n (i : Int) m else g2 58 m) p = g2 p := fun p hp => setRow_ne _ _ _ _ hp
      generalize setRow g2 58 (fun m => if m < n then rowW n (i : Int) m else g2 58 m) = g3 at c58b ne
      have f3 : TF h g3 := fun p hp => by rw [ne p (by omega), f2 p hp]
      obtain ⟨g4, b1, b2, b3⟩ := tf_run1 (wk := rowW n (i : Int)) (M := M) r hN rb rs f3 (by omega) hs (r2.fr (fun p _ _ => ne p (by omega))) hk (by rw [ne 46 (by omega), c5]) (by rw [ne 56 (by omega), c56]) (by rw [ne 57 (by omega), c57])
        (fun m hm => by
          rw [c58b m hm]
          unfold rowW
          split
          · exact Or.inr (dg_in _ _)
          · exact Or.inl rfl) c58b hM
      rw [show planRef (-1) = -1 from rfl] at b1
      rw [tf_beach rb f3, tf_sea rs f3, b1, e_cV, e_cI, e_rd _ _ _ _ _ (by omega), show (0 : Int).toNat = 0 from rfl, b3]
      rw [show bsP (rwP h k n seed M) (i + 1) = if (bsP (rwP h k n seed M) i).2 < rwP h k n seed M i then ((i : Int), rwP h k n seed M i) else bsP (rwP h k n seed M) i from rfl]
      refine join_exr (fun j48 hj48 => ?_)
      rw [show valP h k (-1) seed (rowW n (i : Int)) M = rwP h k n seed M i from rfl] at b3 ⊢
      by_cases y : rwP h k n seed M i ≤ (bsP (rwP h k n seed M) i).2
      · rw [b_pos y, hj48, e_add _ _ _ (by omega), if_neg (show ¬ (bsP (rwP h k n seed M) i).2 < rwP h k n seed M i by omega)]
        refine ⟨_, ?_, rfl⟩
        exact ⟨⟨rfl, rfl, by (try dsimp only); omega⟩, b2⟩
      · rw [b_neg y, e_cI, e_rd _ _ _ _ _ (by omega), show (0 : Int).toNat = 0 from rfl, b3, hj48, e_add _ _ _ (by omega), if_pos (show (bsP (rwP h k n seed M) i).2 < rwP h k n seed M i by omega)]
        refine ⟨_, ?_, rfl⟩
        exact ⟨⟨rfl, rfl, by (try dsimp only); omega⟩, b2⟩
    · rintro ⟨y1, y2, y3, g⟩ ⟨⟨e1, e2, e3⟩, hg⟩ self
      dsimp only at e1 e2 e3 hg
      subst e1 e2 e3
      unfold g_X8_bestRow_l29
      dsimp only
      rw [b_pos (by omega)]
      exact fin _ g rfl hg
  obtain ⟨⟨z, g⟩, a, b, d⟩ := key
  exact ⟨g, by rw [a]; dsimp only at b; rw [b], d⟩
theorem m_lastByRow {h g : Hp} {N k n M : Nat} {seed : Int} {x : Int} (r : Rel N h) (hN : N ≤ 600) (f : ∀ p, p ≠ 122 → (p < 46 ∨ 58 < p) → g p = h p) (hk : k < (h 100 12).toNat) (hn : 1 ≤ n ∧ n ≤ 4) (hs : 0 ≤ seed ∧ seed < 2147483648) (hM : 1 ≤ M ∧ M ≤ 99) :
    ∃ s, g_X9_lastByRow (k : Int) (n : Int) x seed (M : Int) g = some (valP h k (-1) seed (rowW n x) M, setRow g 122 s) := by
  have hv := r.1
  have h41 := (pv_plan hv).1
  have h12 := (pv_flags hv).1
  have e121 : g 121 = h 121 := f 121 (by omega) (by omega)
  have hpm : PM h g := fun p hp => f p (by omega) (by omega)
  obtain ⟨q1, q2⟩ := fc_in hv hk
  have i1 := ag_iv (iv_bg r (p := -1) (by omega) hs) hv (bgM_ag (g := g))
  refine ⟨trS h (fc h k) (rowW n x) (bgM h g (-1) seed) M, ?_⟩
  unfold g_X9_lastByRow
  rw [e_cI, m_begin e121, e_cV, e_cI]
  refine loopF_for' M (fun i => ((i : Int), setRow g 122 (trS h (fc h k) (rowW n x) (bgM h g (-1) seed) i))) ?_ ?_ rfl (fu _ (by omega))
  · intro i hi self
    unfold g_X9_lastByRow_l5
    dsimp only
    rw [b_neg (by omega)]
    refine join_gen (fun j10 hj10 => ?_)
    have go : ∀ s, s = workP h (fc h k) (rowW n x i) (trS h (fc h k) (rowW n x) (bgM h g (-1) seed) i) → j10 (setRow g 122 s) = self (((i + 1 : Nat) : Int), setRow g 122 (trS h (fc h k) (rowW n x) (bgM h g (-1) seed) (i + 1))) := by
      intro s hss
      rw [hj10, m_fin1 r hN hpm hs q2 (by omega) g hss, e_cV, e_add _ _ _ (by omega), show ((i + 1 : Nat) : Int) = (i : Int) + 1 by omega]
    by_cases z : (n : Int) ≤ (i : Int)
    · rw [b_pos z]
      refine go _ ?_
      rw [show rowW n x i = -1 by unfold rowW; rw [if_neg (by omega)], workP_no]
    · rw [b_neg z, e_cI, e_cI, e_sub _ _ _ (by omega), e_sub _ _ _ (by omega), e_mul _ _ _ (by omega), e_dg, m_works (B := 6336) (T := 360 * (N : Int) + (i : Nat)) hv hpm (iv_trS i1 hv q2 i) (by omega) (by omega) q2 (by rw [e121]; exact (fc_row r hk).1) (dg_in _ _), e_cV]
      refine go _ ?_
      rw [show rowW n x i = dg x (2 * ((n : Int) - 1 - (i : Int))) by unfold rowW; rw [if_pos (by omega)]]
  · intro self
    unfold g_X9_lastByRow_l5
    dsimp only
    rw [b_pos (by omega), m_lastV r hN e121 (by omega) hs hk hM, e_cP]
theorem m_bestRow {h g : Hp} {N k n M : Nat} {seed : Int} (r : Rel N h) (hN : N ≤ 600) (f : ∀ p, p ≠ 122 → (p < 46 ∨ 58 < p) → g p = h p) (hk : k < (h 100 12).toNat) (hn : 1 ≤ n ∧ n ≤ 4) (hs : 0 ≤ seed ∧ seed < 2147483648) (hM : 1 ≤ M ∧ M ≤ 99) :
    ∃ s, g_X9_bestRow (k : Int) (n : Int) seed (M : Int) g = some (digP (bsP (rwP h k n seed M) (4 ^ n)).1 n 0, setRow g 122 s) := by
  have hp4 := pow4 hn
  have key : ∃ rr : Int × Hp, g_X9_bestRow (k : Int) (n : Int) seed (M : Int) g = some rr ∧ (rr.1 = digP (bsP (rwP h k n seed M) (4 ^ n)).1 n 0 ∧ ∃ s, rr.2 = setRow g 122 s) := by
    unfold g_X9_bestRow
    rw [e_cI, e_cI, e_cI]
    refine join_ex (fun j5 hj5 => ?_)
    refine loopF_ex (4 ^ n) (fun i (q : Int × Int × Int × Hp) => (q.1 = (bsP (rwP h k n seed M) i).1 ∧ q.2.1 = (bsP (rwP h k n seed M) i).2 ∧ q.2.2.1 = (i : Int)) ∧ ∃ s, q.2.2.2 = setRow g 122 s) ?_ ?_ FU 0 _ (Nat.zero_le _) (fu _ (by omega)) ⟨⟨rfl, rfl, rfl⟩, g 122, (setRow_self g 122).symm⟩
    · rintro i ⟨y1, y2, y3, g1⟩ hi ⟨⟨e1, e2, e3⟩, s, hg⟩ self
      dsimp only at e1 e2 e3 hg
      subst e1 e2 e3 hg
      left
      obtain ⟨s2, w⟩ := m_lastByRow (g := setRow g 122 s) (x := (i : Int)) r hN (fun p h1 h2 => by rw [setRow_ne _ _ _ _ h1, f p h1 h2]) hk hn hs hM
      rw [setRow_setRow] at w
      unfold g_X9_bestRow_l25
      dsimp only
      rw [e_cI, e_cI, e_mul _ _ _ (by omega), e_shl1 hn, b_neg (by omega), w, e_cW]
      rw [show bsP (rwP h k n seed M) (i + 1) = if (bsP (rwP h k n seed M) i).2 < rwP h k n seed M i then ((i : Int), rwP h k n seed M i) else bsP (rwP h k n seed M) i from rfl, show valP h k (-1) seed (rowW n (i : Int)) M = rwP h k n seed M i from rfl]
      refine join_exr (fun j37 hj37 => ?_)
      by_cases y : (bsP (rwP h k n seed M) i).2 < rwP h k n seed M i
      · rw [if_pos y, if_pos y, hj37, e_add _ _ _ (by omega)]
        refine ⟨_, ?_, rfl⟩
        exact ⟨⟨rfl, rfl, by (try dsimp only); omega⟩, s2, rfl⟩
      · rw [if_neg y, if_neg y, hj37, e_add _ _ _ (by omega)]
        refine ⟨_, ?_, rfl⟩
        exact ⟨⟨rfl, rfl, by (try dsimp only); omega⟩, s2, rfl⟩
    · rintro ⟨y1, y2, y3, g1⟩ ⟨⟨e1, e2, e3⟩, s, hg⟩ self
      dsimp only at e1 e2 e3 hg
      subst e1 e2 e3 hg
      unfold g_X9_bestRow_l25
      dsimp only
      rw [e_cI, e_cI, e_mul _ _ _ (by omega), e_shl1 hn, b_pos (by omega), hj5, e_cI, e_cI, e_sub _ _ _ (by omega), m_digits n FU 0 (fu _ (by omega)) (by omega)]
      exact ⟨_, rfl, rfl, s, rfl⟩
  obtain ⟨⟨z, g2⟩, a, b, s, d⟩ := key
  dsimp only at b d
  exact ⟨s, by rw [a, b, d]⟩
def okAsk (h : Hp) (x1 x2 x3 : Int) : Prop := okFlag h x1 ∧ 0 ≤ x2 ∧ okSpan x3
theorem m_isAsked_t {h : Hp} {x1 x2 x3 : Int} (hv : PV h) (o : okAsk h x1 x2 x3) : g_X9_isAsked x1 x2 x3 h = some 1 := by
  obtain ⟨o1, o2, o3⟩ := o
  unfold g_X9_isAsked
  (rw [m_isFlag_t hv o1, e_cP, e_join]; (try dsimp only); rw [e_join]; (try dsimp only); rw [b_neg (by decide), b_neg (by omega), m_areMinutes_t o3, e_cP, b_neg (by decide), e_cI])
  exact e_retZ1
theorem m_isAsked_f {h : Hp} {x1 x2 x3 : Int} (hv : PV h) (o : ¬ okAsk h x1 x2 x3) : g_X9_isAsked x1 x2 x3 h = some 0 := by
  unfold g_X9_isAsked
  by_cases o1 : okFlag h x1
  rotate_left
  · (rw [m_isFlag_f hv o1, e_cP, e_join]; (try dsimp only); rw [e_join]; (try dsimp only); rw [b_pos rfl, e_cI])
    exact e_retZ0
  (rw [m_isFlag_t hv o1, e_cP, e_join]; (try dsimp only); rw [e_join]; (try dsimp only); rw [b_neg (by decide)])
  by_cases o2 : x2 < 0
  · rw [b_pos o2, e_cI]
    exact e_retZ0
  rw [b_neg o2]
  by_cases o3 : okSpan x3
  · exact absurd ⟨o1, by omega, o3⟩ o
  · rw [m_areMinutes_f o3, e_cP, b_pos rfl, e_cI]
    exact e_retZ0
theorem s_pail {n : Nat} {h : Hp} {x1 x2 x3 : Int} (hn : n ≤ 600) (hx2 : inR x2) (r : Rel n h) : ∃ z h1 h2, g_X8_pail x1 x2 x3 h = some (z, h1) ∧ g_X9_pail x1 x2 x3 h1 = some (z, h2) ∧ Rel (n + 1) h2 := by
  have r' := r
  obtain ⟨hv, ⟨c, rb⟩, ⟨v, rs⟩, rp, -⟩ := r'
  unfold inR at hx2
  by_cases o : okAsk h x1 x2 x3
  rotate_left
  · refine ⟨-2, h, h, ?_, ?_, r.next⟩
    · unfold g_X8_pail
      by_cases o1 : okFlag h x1
      rotate_left
      · (rw [k_isFlag_f rb o1, e_cP, e_join]; (try dsimp only); rw [b_pos rfl, e_cI])
      (rw [k_isFlag_t rb o1, e_cP, e_join]; (try dsimp only); rw [b_neg (by decide)])
      by_cases o2 : x2 < 0
      · rw [b_pos o2, e_cI]
      rw [b_neg o2]
      by_cases o3 : okSpan x3
      · exact absurd ⟨o1, by omega, o3⟩ o
      · rw [k_isSpan_f o3, e_cP, b_pos rfl, e_cI]
    · unfold g_X9_pail
      (rw [m_isAsked_f hv o, e_cP, e_join]; (try dsimp only); rw [b_pos rfl, e_cI])
  obtain ⟨o1, o2, o3⟩ := o
  obtain ⟨k, rfl⟩ := Int.eq_ofNat_of_zero_le o1.1
  obtain ⟨M, rfl⟩ := Int.eq_ofNat_of_zero_le (show 0 ≤ x3 by unfold okSpan at o3; omega)
  have hk : k < (h 100 12).toNat := by unfold okFlag at o1; omega
  have hM : 1 ≤ M ∧ M ≤ 99 := by unfold okSpan at o3; omega
  obtain ⟨g, a1, a2⟩ := k_bestRow (n := 2) (seed := x2) (M := M) r hn rb rs hk (by omega) (by omega) hM
  obtain ⟨s, b1⟩ := m_bestRow (n := 2) (seed := x2) (M := M) (g := g) r hn (fun p _ h2 => a2 p h2) hk (by omega) (by omega) hM
  refine ⟨digP (bsP (rwP h k ((2 : Nat) : Int) x2 M) (4 ^ 2)).1 2 0, g, setRow g 122 s, ?_, ?_, r.trial (fun p h1 h2 => by rw [setRow_ne _ _ _ _ h1, a2 p h2])⟩
  · unfold g_X8_pail
    (rw [k_isFlag_t rb o1, e_cP, e_join]; (try dsimp only); rw [b_neg (by decide), b_neg (by omega), k_isSpan_t o3, e_cP, b_neg (by decide), e_cI, show (2 : Int) = ((2 : Nat) : Int) from rfl, a1, e_cW])
  · unfold g_X9_pail
    (rw [m_isAsked_t (hv.te (TE.pm (Rel.pm1 a2))) ⟨by unfold okFlag; rw [a2 100 (by omega)]; exact o1, o2, o3⟩, e_cP, e_join]; (try dsimp only); rw [b_neg (by decide), e_cI, show (2 : Int) = ((2 : Nat) : Int) from rfl, b1, e_cW])
theorem s_row {n : Nat} {h : Hp} {x1 x2 x3 x4 : Int} (hn : n ≤ 600) (hx3 : inR x3) (r : Rel n h) : ∃ z h1 h2, g_X8_row x1 x2 x3 x4 h = some (z, h1) ∧ g_X9_row x1 x2 x3 x4 h1 = some (z, h2) ∧ Rel (n + 1) h2 := by
  have r' := r
  obtain ⟨hv, ⟨c, rb⟩, ⟨v, rs⟩, rp, -⟩ := r'
  unfold inR at hx3
  by_cases o : okAsk h x1 x3 x4 ∧ 1 ≤ x2 ∧ x2 ≤ 4
  rotate_left
  · refine ⟨-2, h, h, ?_, ?_, r.next⟩
    · unfold g_X8_row
      by_cases o1 : okFlag h x1
      rotate_left
      · (rw [k_isFlag_f rb o1, e_cP, e_join]; (try dsimp only); rw [b_pos rfl, e_cI])
      (rw [k_isFlag_t rb o1, e_cP, e_join]; (try dsimp only); rw [b_neg (by decide), e_cI])
      by_cases p1 : x2 < 1
      · rw [b_pos p1, e_cI]
      rw [b_neg p1, e_cI]
      by_cases p2 : 4 < x2
      · rw [b_pos p2, e_cI]
      rw [b_neg p2]
      by_cases o2 : x3 < 0
      · rw [b_pos o2, e_cI]
      rw [b_neg o2]
      by_cases o3 : okSpan x4
      · exact absurd ⟨⟨o1, by omega, o3⟩, by omega, by omega⟩ o
      · rw [k_isSpan_f o3, e_cP, b_pos rfl, e_cI]
    · unfold g_X9_row
      by_cases o1 : okAsk h x1 x3 x4
      · (rw [m_isAsked_t hv o1, e_cP, e_join]; (try dsimp only); rw [e_join]; (try dsimp only); rw [b_neg (by decide), e_i2l, e_cI, e_cI, e_in_f _ _ _ _ (by
          by_cases p1 : x2 < 1
          · exact Or.inl p1
          · by_cases p2 : 4 < x2
            · exact Or.inr p2
            · exact absurd ⟨o1, by omega, by omega⟩ o), b_pos rfl, e_cI])
      · (rw [m_isAsked_f hv o1, e_cP, e_join]; (try dsimp only); rw [e_join]; (try dsimp only); rw [b_pos rfl, e_cI])
  obtain ⟨⟨o1, o2, o3⟩, o4⟩ := o
  obtain ⟨k, rfl⟩ := Int.eq_ofNat_of_zero_le o1.1
  obtain ⟨M, rfl⟩ := Int.eq_ofNat_of_zero_le (show 0 ≤ x4 by unfold okSpan at o3; omega)
  obtain ⟨m, rfl⟩ := Int.eq_ofNat_of_zero_le (show 0 ≤ x2 by omega)
  have hk : k < (h 100 12).toNat := by unfold okFlag at o1; omega
  have hM : 1 ≤ M ∧ M ≤ 99 := by unfold okSpan at o3; omega
  obtain ⟨g, a1, a2⟩ := k_bestRow (n := m) (seed := x3) (M := M) r hn rb rs hk (by omega) (by omega) hM
  obtain ⟨s, b1⟩ := m_bestRow (n := m) (seed := x3) (M := M) (g := g) r hn (fun p _ h2 => a2 p h2) hk (by omega) (by omega) hM
  refine ⟨digP (bsP (rwP h k (m : Int) x3 M) (4 ^ m)).1 m 0, g, setRow g 122 s, ?_, ?_, r.trial (fun p h1 h2 => by rw [setRow_ne _ _ _ _ h1, a2 p h2])⟩
  · unfold g_X8_row
    (rw [k_isFlag_t rb o1, e_cP, e_join]; (try dsimp only); rw [b_neg (by decide), e_cI, b_neg (by omega), e_cI, b_neg (by omega), b_neg (by omega), k_isSpan_t o3, e_cP, b_neg (by decide), a1, e_cW])
  · unfold g_X9_row
    (rw [m_isAsked_t (hv.te (TE.pm (Rel.pm1 a2))) ⟨by unfold okFlag; rw [a2 100 (by omega)]; exact o1, o2, o3⟩, e_cP, e_join]; (try dsimp only); rw [e_join]; (try dsimp only); rw [b_neg (by decide), e_i2l, e_cI, e_cI, e_in_t _ _ _ _ o4, b_neg (by decide), b1, e_cW])
