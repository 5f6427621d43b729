/-! CALLS that run trials: last, pail, row, again -/
def okSpan (x : Int) : Prop := 1 ≤ x ∧ x ≤ 99
theorem k_isSpan_t {x : Int} (h : okSpan x) : g_X8_isSpan x = some 1 := by
  unfold okSpan at h
  unfold g_X8_isSpan
  (rw [e_cI, e_join]; (try dsimp only); rw [e_join]; (try dsimp only); rw [b_neg (by omega), e_cI, b_neg (by omega), e_cI])
  exact e_retZ1
theorem k_isSpan_f {x : Int} (h : ¬ okSpan x) : g_X8_isSpan x = some 0 := by
  unfold okSpan at h
  unfold g_X8_isSpan
  (rw [e_cI, e_join]; (try dsimp only); rw [e_join]; (try dsimp only))
  by_cases b : x < 1
  · rw [b_pos b, e_cI]
    exact e_retZ0
  · rw [b_neg b, e_cI, b_pos (by omega), e_cI]
    exact e_retZ0
theorem m_areMinutes_t {x : Int} (h : okSpan x) : g_X9_areMinutes x = some 1 := by
  unfold g_X9_areMinutes
  rw [e_i2l, e_cI, e_cI, e_in_t _ _ _ _ h]
  exact e_retZ1
theorem m_areMinutes_f {x : Int} (h : ¬ okSpan x) : g_X9_areMinutes x = some 0 := by
  unfold okSpan at h
  unfold g_X9_areMinutes
  rw [e_i2l, e_cI, e_cI, e_in_f _ _ _ _ (by omega)]
  exact e_retZ0
def okSeeds (x : Int) : Prop := 1 ≤ x ∧ x ≤ 9
theorem k_isSeeds_t {x : Int} (h : okSeeds x) : g_X8_isSeeds x = some 1 := by
  unfold okSeeds at h
  unfold g_X8_isSeeds
  (rw [e_cI, e_join]; (try dsimp only); rw [e_join]; (try dsimp only); rw [b_neg (by omega), e_cI, b_neg (by omega), e_cI])
  exact e_retZ1
theorem k_isSeeds_f {x : Int} (h : ¬ okSeeds x) : g_X8_isSeeds x = some 0 := by
  unfold okSeeds at h
  unfold g_X8_isSeeds
  (rw [e_cI, e_join]; (try dsimp only); rw [e_join]; (try dsimp only))
  by_cases b : x < 1
  · rw [b_pos b, e_cI]
    exact e_retZ0
  · rw [b_neg b, e_cI, b_pos (by omega), e_cI]
    exact e_retZ0
theorem m_areSeeds_t {x : Int} (h : okSeeds x) : g_X9_areSeeds x = some 1 := by
  unfold g_X9_areSeeds
  rw [e_i2l, e_cI, e_cI, e_in_t _ _ _ _ h]
  exact e_retZ1
theorem m_areSeeds_f {x : Int} (h : ¬ okSeeds x) : g_X9_areSeeds x = some 0 := by
  unfold okSeeds at h
  unfold g_X9_areSeeds
  rw [e_i2l, e_cI, e_cI, e_in_f _ _ _ _ (by omega)]
  exact e_retZ0
def okFlag (h : Hp) (x : Int) : Prop := 0 ≤ x ∧ x < h 100 12
theorem k_isFlag_t {h : Hp} {c : Nat} {x : Int} (rb : BchR h c) (o : okFlag h x) : g_X8_isFlag x h = some 1 := by unfold okFlag at o; rw [k_isFlag rb, if_neg (by omega), if_neg (by omega)]
theorem k_isFlag_f {h : Hp} {c : Nat} {x : Int} (rb : BchR h c) (o : ¬ okFlag h x) : g_X8_isFlag x h = some 0 := by
  unfold okFlag at o
  rw [k_isFlag rb]
  split
  · rfl
  · rw [if_pos (by omega)]
theorem m_isFlag_t {h : Hp} {x : Int} (hv : PV h) (o : okFlag h x) : g_X9_isFlag x h = some 1 := by unfold okFlag at o; rw [m_isFlag hv, if_neg (by omega), if_neg (by omega)]
theorem m_isFlag_f {h : Hp} {x : Int} (hv : PV h) (o : ¬ okFlag h x) : g_X9_isFlag x h = some 0 := by
  unfold okFlag at o
  rw [m_isFlag hv]
  split
  · rfl
  · rw [if_pos (by omega)]
def okPlan (h : Hp) (x : Int) : Prop := -1 ≤ x ∧ x < h 100 41
theorem k_isPlan_t {h : Hp} {x : Int} (rp : PlsR h) (o : okPlan h x) : g_X8_isPlanOrNone x h = some 1 := by unfold okPlan at o; rw [k_isPlanOrNone rp, if_neg (by omega), if_neg (by omega)]
theorem k_isPlan_f {h : Hp} {x : Int} (rp : PlsR h) (o : ¬ okPlan h x) : g_X8_isPlanOrNone x h = some 0 := by
  unfold okPlan at o
  rw [k_isPlanOrNone rp]
  split
  · rfl
  · rw [if_pos (by omega)]
theorem Rel.trial {n : Nat} {h h2 : Hp} (r : Rel n h) (f : ∀ p, p ≠ 122 → (p < 46 ∨ 58 < p) → h2 p = h p) : Rel (n + 1) h2 :=
  r.quiet (by omega) (fun p _ => f p (by omega) (by omega)) (fun p _ _ => f p (by omega) (by omega)) (fun p _ => f p (by omega) (by omega))
theorem Rel.pm1 {h g : Hp} (f : TF h g) : PM h g := fun p hp => f p (by omega)
theorem s_last {n : Nat} {h : Hp} {x1 x2 x3 x4 : Int} (hn : n ≤ 600) (hx3 : inR x3) (r : Rel n h) : ∃ z h1 h2, g_X8_last x1 x2 x3 x4 h = some (z, h1) ∧ g_X9_last x1 x2 x3 x4 h1 = some (z, h2) ∧ Rel (n + 1) h2 := by
  have r' := r
  obtain ⟨hv, ⟨c, rb⟩, ⟨v, rs⟩, rp, -⟩ := r'
  unfold inR at hx3
  have h41 := (pv_plan hv).1
  have h12 := (pv_flags hv).1
  unfold g_X8_last g_X9_last
  by_cases o1 : okFlag h x1
  rotate_left
  · refine ⟨-2, h, h, ?_, ?_, r.next⟩
    · (rw [k_isFlag_f rb o1, e_cP, e_join]; (try dsimp only); rw [b_pos rfl, e_cI])
    · (rw [m_isFlag_f hv o1, e_cP, e_join]; (try dsimp only); rw [b_pos rfl, e_cI])
  rw [k_isFlag_t rb o1, e_cP]
  by_cases o2 : okPlan h x2
  rotate_left
  · refine ⟨-2, h, h, ?_, ?_, r.next⟩
    · (rw [e_join]; (try dsimp only); rw [b_neg (by decide), k_isPlan_f rp o2, e_cP, b_pos rfl, e_cI])
    · unfold okPlan at o2
      (rw [m_isFlag_t hv o1, e_cP, e_join]; (try dsimp only); rw [b_neg (by decide), e_cI, e_join]; (try dsimp only); rw [b_neg (by omega), m_isPlan hv, e_cP])
      have : (if x2 < 0 then (0 : Int) else if h 100 41 - 1 < x2 then 0 else 1) = 0 := by split <;> (try split) <;> omega
      rw [this, b_pos rfl, e_cI]
  have mplan : ∀ (g : Hp) (K : Unit → Option (Int × Hp)) (F : Option (Int × Hp)), PM h g → (if x2 = -1 then K () else cP (g_X9_isPlan x2 g) fun z18 => if z18 = 0 then F else K ()) = K () := by
    intro g K F hg
    unfold okPlan at o2
    by_cases z : x2 = -1
    · rw [if_pos z]
    · have : PV g := hv.te (TE.pm hg)
      rw [if_neg z, m_isPlan this, e_cP, hg 100 (by omega), if_neg (show ¬ x2 < 0 by omega), if_neg (show ¬ h 100 41 - 1 < x2 by omega), if_neg (by decide)]
  by_cases o3 : x3 < 0
  · refine ⟨-2, h, h, ?_, ?_, r.next⟩
    · (rw [e_join]; (try dsimp only); rw [b_neg (by decide), k_isPlan_t rp o2, e_cP, b_neg (by decide), b_pos o3, e_cI])
    · (rw [m_isFlag_t hv o1, e_cP, e_join]; (try dsimp only); rw [b_neg (by decide), e_cI])
      refine join_gen (fun j7 hj7 => ?_)
      rw [mplan h j7 _ (fun _ _ => rfl), hj7, b_pos o3, e_cI]
  by_cases o4 : okSpan x4
  rotate_left
  · refine ⟨-2, h, h, ?_, ?_, r.next⟩
    · (rw [e_join]; (try dsimp only); rw [b_neg (by decide), k_isPlan_t rp o2, e_cP, b_neg (by decide), b_neg o3, k_isSpan_f o4, e_cP, b_pos rfl, e_cI])
    · (rw [m_isFlag_t hv o1, e_cP, e_join]; (try dsimp only); rw [b_neg (by decide), e_cI])
      refine join_gen (fun j7 hj7 => ?_)
      rw [mplan h j7 _ (fun _ _ => rfl), hj7, b_neg o3, m_areMinutes_f o4, e_cP, b_pos rfl, e_cI]
  obtain ⟨k, rfl⟩ := Int.eq_ofNat_of_zero_le o1.1
  obtain ⟨M, rfl⟩ := Int.eq_ofNat_of_zero_le (show 0 ≤ x4 by unfold okSpan at o4; omega)
  have hk : k < (h 100 12).toNat := by unfold okFlag at o1; omega
  have hM : 1 ≤ M ∧ M ≤ 99 := by unfold okSpan at o4; omega
  have hs : 0 ≤ x3 ∧ x3 < 2147483648 := by omega
  obtain ⟨g1, a1, a2, a3, a4, a5⟩ := tf_start (p := x2) (seed := x3) r TF.rf o2 hs
  have w1 := tf_watchFlag (W := 0) r rb a2 a3 hk (by omega) (by rw [a4]; rfl)
  have f2 : TF h (set2 (set2 (set2 g1 56 0 (fc h k : Int)) 57 0 (ffl h k)) 46 5 (((0 : Nat) : Int) + 1)) := fun p hp => by rw [set2_ne p (by omega), set2_ne p (by omega), set2_ne p (by omega), a2 p hp]
  obtain ⟨g2, b1, b2, b3⟩ := tf_run1 (wk := fun _ => -1) (M := M) r hn rb rs f2 o2 hs (a3.fr (fun p _ _ => by rw [set2_ne p (by omega), set2_ne p (by omega), set2_ne p (by omega)])) hk (by rw [set2_same]; rfl) (by rw [set2_np _ _ _ _ _ _ (by omega), set2_np _ _ _ _ _ _ (by omega), set2_same]) (by rw [set2_np _ _ _ _ _ _ (by omega), set2_same])
    (fun m hm => Or.inl (by rw [set2_np _ _ _ _ _ _ (by omega), set2_np _ _ _ _ _ _ (by omega), set2_np _ _ _ _ _ _ (by omega), a5 m hm])) (fun m hm => by rw [set2_np _ _ _ _ _ _ (by omega), set2_np _ _ _ _ _ _ (by omega), set2_np _ _ _ _ _ _ (by omega), a5 m hm]) hM
  have e121 : g2 121 = h 121 := b2 121 (by omega)
  obtain ⟨q1, q2⟩ := fc_in hv hk
  refine ⟨valP h k x2 x3 (fun _ => -1) M, g2, setRow g2 122 (trS h (fc h k) (fun _ => -1) (bgM h g2 x2 x3) M), ?_, ?_, ?_⟩
  · (rw [e_join]; (try dsimp only); rw [b_neg (by decide), k_isPlan_t rp o2, e_cP, b_neg (by decide), b_neg o3, k_isSpan_t o4, e_cP, b_neg (by decide), a1, e_cV, tf_beach rb a2, w1, e_cV, tf_beach rb f2, tf_sea rs f2, tf_plan rp hv f2 o2, e_cP, b1, e_cV, e_cI, e_rd _ _ _ _ _ (by omega), show (0 : Int).toNat = 0 from rfl, b3])
  · (rw [m_isFlag_t (hv.te (TE.pm (Rel.pm1 b2))) (by unfold okFlag; rw [b2 100 (by omega)]; exact o1), e_cP, e_join]; (try dsimp only); rw [b_neg (by decide), e_cI])
    refine join_gen (fun j7 hj7 => ?_)
    rw [mplan g2 j7 _ (Rel.pm1 b2), hj7, b_neg o3, m_areMinutes_t o4, e_cP, b_neg (by decide), m_begin e121, e_cV, e_cI]
    refine loopF_for' M (fun i => ((i : Int), setRow g2 122 (trS h (fc h k) (fun _ => -1) (bgM h g2 x2 x3) i))) ?_ ?_ rfl (fu _ (by omega))
    · intro i hi self
      unfold g_X9_last_l12
      dsimp only
      rw [b_neg (by omega), m_min1 r hn (Rel.pm1 b2) o2 hs q2 (by omega) g2, e_cV, e_add _ _ _ (by omega), show ((i + 1 : Nat) : Int) = (i : Int) + 1 by omega]
    · intro self
      unfold g_X9_last_l12
      dsimp only
      rw [b_pos (by omega), m_lastV r hn e121 o2 hs hk hM, e_cP]
  · exact r.trial (fun p h1 h2 => by rw [setRow_ne _ _ _ _ h1, b2 p h2])
/-! rows of works -/
def dg (x y : Int) : Int := (iI (shP x y) &&& iI 3).toInt
theorem dg_in (x y : Int) : 0 ≤ dg x y ∧ dg x y ≤ 3 := by
  have hx := shP_in x y
  unfold dg
  generalize shP x y = u at hx
  have e : (iI u &&& iI 3).toInt = u % 4 := by
    have e := pk_and (iI u) (m := iI 3) 2 (by decide +kernel)
    rw [e]
    have h1 : ((iI u).toBitVec.toNat : Int) = u % 4294967296 := by
      have h2 := iI_toInt hx
      have h3 := (iI u).toBitVec.toInt_eq_toNat_cond
      have h4 : (iI u).toInt = (iI u).toBitVec.toInt := rfl
      have h5 := (iI u).toBitVec.isLt
      rw [h4, h3] at h2
      split at h2 <;> omega
    rw [nI_toInt (by omega)]
    omega
  rw [e]
  omega
theorem e_dg {R : Type} (x y : Int) (K : Int → Option R) : (shrI x y fun z => cI 3 fun w => andI z w K) = K (dg x y) := nrfl rfl
theorem e_mulw {R : Type} (x y : Int) (K : Int → Option R) : mulI x y K = K (wr (x * y)) := nrfl rfl
def rowW (n x : Int) (m : Nat) : Int := if (m : Int) < n then dg x (2 * (n - 1 - (m : Int))) else -1
def digP (x : Int) : Nat → Int → Int
  | 0, d => d
  | i + 1, d => digP x i (wr (wr (10 * d) + dg x (2 * (i : Int))))
theorem k_digits {a8 : Int × Hp} : ∀ (i F : Nat) (d : Int), i < F → i ≤ 10 → loopF (g_X8_bestRow_l16 a8) F (d, (i : Int) - 1) = some (digP a8.1 i d, a8.2)
  | 0, F, d, hF, _ => by
    obtain ⟨F, rfl⟩ : ∃ g, F = g + 1 := ⟨F - 1, by omega⟩
    show g_X8_bestRow_l16 a8 (loopF _ F) (d, ((0 : Nat) : Int) - 1) = _
    unfold g_X8_bestRow_l16
    dsimp only
    rw [b_pos (by omega)]
    rfl
  | i + 1, F, d, hF, hi => by
    obtain ⟨F, rfl⟩ : ∃ g, F = g + 1 := ⟨F - 1, by omega⟩
    have ih := k_digits (a8 := a8) i F (wr (wr (10 * d) + dg a8.1 (2 * (i : Int)))) (by omega) (by omega)
    show g_X8_bestRow_l16 a8 (loopF _ F) (d, ((i + 1 : Nat) : Int) - 1) = _
    generalize loopF (g_X8_bestRow_l16 a8) F = self at ih
    unfold g_X8_bestRow_l16
    dsimp only
    rw [b_neg (by omega), e_cI, e_mulw, e_cI, e_mul _ _ _ (by omega), e_dg, e_addw, e_add _ _ _ (by omega), show ((i + 1 : Nat) : Int) - 1 = (i : Int) by omega, show (i : Int) + -1 = (i : Int) - 1 by omega, Int.mul_comm d 10, ih]
    rfl
theorem m_digits {a8 : Int × Hp} : ∀ (i F : Nat) (d : Int), i < F → i ≤ 10 → loopF (g_X9_bestRow_l12 a8) F (d, (i : Int) - 1) = some (digP a8.1 i d, a8.2)
  | 0, F, d, hF, _ => by
    obtain ⟨F, rfl⟩ : ∃ g, F = g + 1 := ⟨F - 1, by omega⟩
    show g_X9_bestRow_l12 a8 (loopF _ F) (d, ((0 : Nat) : Int) - 1) = _
    unfold g_X9_bestRow_l12
    dsimp only
    rw [b_pos (by omega)]
    rfl
  | i + 1, F, d, hF, hi => by
    obtain ⟨F, rfl⟩ : ∃ g, F = g + 1 := ⟨F - 1, by omega⟩
    have ih := m_digits (a8 := a8) i F (wr (wr (10 * d) + dg a8.1 (2 * (i : Int)))) (by omega) (by omega)
    show g_X9_bestRow_l12 a8 (loopF _ F) (d, ((i + 1 : Nat) : Int) - 1) = _
    generalize loopF (g_X9_bestRow_l12 a8) F = self at ih
    unfold g_X9_bestRow_l12
    dsimp only
    rw [b_neg (by omega), e_cI, e_mulw, e_cI, e_mul _ _ _ (by omega), e_dg, e_addw, e_add _ _ _ (by omega), show ((i + 1 : Nat) : Int) - 1 = (i : Int) by omega, show (i : Int) + -1 = (i : Int) - 1 by omega, ih]
    rfl
/-- the first of the greatest: (which, how great) -/
def bsP (f : Nat → Int) : Nat → Int × Int
  | 0 => (0, -1)
  | x + 1 => if (bsP f x).2 < f x then ((x : Int), f x) else bsP f x
theorem bs_done {f : Nat → Int} {M : Int} (hf : ∀ x, f x ≤ M) {x : Nat} (h : M ≤ (bsP f x).2) : ∀ j : Nat, bsP f (x + j) = bsP f x
  | 0 => rfl
  | j + 1 => by
    have ih := bs_done hf h j
    show (if (bsP f (x + j)).2 < f (x + j) then (((x + j : Nat) : Int), f (x + j)) else bsP f (x + j)) = _
    have := hf (x + j)
    rw [ih, if_neg (by omega)]
def rwP (h : Hp) (k : Nat) (n seed : Int) (M : Nat) (x : Nat) : Int := valP h k (-1) seed (rowW n (x : Int)) M
theorem rwP_le {h : Hp} {k : Nat} {n seed : Int} {M x : Nat} : 0 ≤ rwP h k n seed M x ∧ rwP h k n seed M x ≤ (M : Int) := lastP_in
theorem shl1 {n : Nat} (hn : 1 ≤ n ∧ n ≤ 4) : (iI 1 <<< (iI (2 * (n : Int)) &&& 31)).toInt = ((4 ^ n : Nat) : Int) := by
  rcases (by omega : n = 1 ∨ n = 2 ∨ n = 3 ∨ n = 4) with rfl | rfl | rfl | rfl <;> decide +kernel
theorem e_shl1 {R : Type} {n : Nat} (hn : 1 ≤ n ∧ n ≤ 4) (K : Int → Option R) : (shlI 1 (2 * (n : Int)) K) = K ((4 ^ n : Nat) : Int) := by
  rw [← shl1 hn]
  rfl
theorem pow4 {n : Nat} (hn : 1 ≤ n ∧ n ≤ 4) : 4 ^ n ≤ 256 := by
  rcases (by omega : n = 1 ∨ n = 2 ∨ n = 3 ∨ n = 4) with rfl | rfl | rfl | rfl <;> decide
theorem k_bestRow {h : Hp} {N k n M c v : Nat} {seed : Int} (r : Rel N h) (hN : N ≤ 600) (rb : BchR h c) (rs : SeaR h v) (hk : k < (h 100 12).toNat) (hn : 1 ≤ n ∧ n ≤ 4) (hs : 0 ≤ seed ∧ seed < 2147483648) (hM : 1 ≤ M ∧ M ≤ 99) :
    ∃ g, g_X8_bestRow (k : Int) (n : Int) seed (M : Int) h = some (digP (bsP (rwP h k n seed M) (4 ^ n)).1 n 0, g) ∧ TF h g := by
  have hv := r.1
  have h41 := (pv_plan hv).1
  have hp4 := pow4 hn
  have key : ∃ rr : Int × Hp, g_X8_bestRow (k : Int) (n : Int) seed (M : Int) h = some rr ∧ (rr.1 = digP (bsP (rwP h k n seed M) (4 ^ n)).1 n 0 ∧ TF h rr.2) := by
    unfold g_X8_bestRow
    rw [e_cI, e_cI, e_mul _ _ _ (by omega), e_shl1 hn, e_cI, e_cI, e_cI]
    refine join_ex (fun j9 hj9 => ?_)
    have fin : ∀ (b : Int) (g : Hp), b = (bsP (rwP h k n seed M) (4 ^ n)).1 → TF h g → ∃ rr : Int × Hp, j9 (b, g) = some rr ∧ (rr.1 = digP (bsP (rwP h k n seed M) (4 ^ n)).1 n 0 ∧ TF h rr.2) := by
      intro b g hb hg
      rw [hj9, e_cI, e_cI, e_sub _ _ _ (by omega), k_digits n FU 0 (fu _ (by omega)) (by omega)]
      exact ⟨_, rfl, by dsimp only; rw [hb], hg⟩
    refine loopF_ex (4 ^ n) (fun i (q : Int × Int × Int × Hp) => (q.1 = (bsP (rwP h k n seed M) i).1 ∧ q.2.1 = (bsP (rwP h k n seed M) i).2 ∧ q.2.2.1 = (i : Int)) ∧ TF h q.2.2.2) ?_ ?_ FU 0 _ (Nat.zero_le _) (fu _ (by omega)) ⟨⟨rfl, rfl, rfl⟩, TF.rf⟩
    · rintro i ⟨y1, y2, y3, g⟩ hi ⟨⟨e1, e2, e3⟩, hg⟩ self
      dsimp only at e1 e2 e3 hg
      subst e1 e2 e3
      unfold g_X8_bestRow_l29
      dsimp only
      rw [b_neg (by omega)]
      by_cases z : (M : Int) ≤ (bsP (rwP h k n seed M) i).2
      · right
        rw [b_pos z]
        have := bs_done (fun x => (rwP_le (h := h) (k := k) (n := (n : Int)) (seed := seed) (M := M) (x := x)).2) z (4 ^ n - i)
        rw [show i + (4 ^ n - i) = 4 ^ n by omega] at this
        exact fin _ g (by rw [this]) hg
      left
      rw [b_neg z, e_cI]
      obtain ⟨g1, a1, a2, a3, a4, a5⟩ := tf_start (p := -1) (seed := seed) r hg (by omega) hs
      have w1 := tf_watchFlag (W := 0) r rb a2 a3 hk (by omega) (by rw [a4]; rfl)
      generalize hg2 : set2 (set2 (set2 g1 56 0 (fc h k : Int)) 57 0 (ffl h k)) 46 5 (((0 : Nat) : Int) + 1) = g2 at w1
      have f2 : TF h g2 := fun p hp => by rw [← hg2, set2_ne p (by omega), set2_ne p (by omega), set2_ne p (by omega), a2 p hp]
      have r2 : RS h g2 47 (bg h (-1) seed) := a3.fr (fun p _ _ => by rw [← hg2, set2_ne p (by omega), set2_ne p (by omega), set2_ne p (by omega)])
      have c5 : g2 46 5 = 1 := by rw [← hg2, set2_same]; rfl
      have c56 : g2 56 0 = (fc h k : Int) := by rw [← hg2, set2_np _ _ _ _ _ _ (by omega), set2_np _ _ _ _ _ _ (by omega), set2_same]
      have c57 : g2 57 0 = ffl h k := by rw [← hg2, set2_np _ _ _ _ _ _ (by omega), set2_same]
      have c58 : ∀ m, m < 99 → g2 58 m = -1 := fun m hm => by rw [← hg2, set2_np _ _ _ _ _ _ (by omega), set2_np _ _ _ _ _ _ (by omega), set2_np _ _ _ _ _ _ (by omega), a5 m hm]
      rw [a1, e_cV, tf_beach rb a2, w1, e_cV, e_cI]
      refine join_exr (fun j40 hj40 => ?_)
      -- the works are set
      have sets : loopF (g_X8_bestRow_l55 j40 ((bsP (rwP h k n seed M) i).1, (bsP (rwP h k n seed M) i).2, (i : Int), g) (n : Int)) FU (0, g2) = j40 (setRow g2 58 (fun m => if m < n then rowW n (i : Int) m else g2 58 m)) := by
        refine loopF_for' n (fun m => ((m : Int), setRow g2 58 (fun j => if j < m then rowW n (i : Int) j else g2 58 j))) ?_ ?_ ?_ (fu _ (by omega))
        · intro m hm self2
          unfold g_X8_bestRow_l55
          dsimp only
          have es : g_X6_setWork 46 (m : Int) (dg (i : Int) (2 * ((n : Int) - 1 - (m : Int)))) (setRow g2 58 (fun j => if j < m then rowW n (i : Int) j else g2 58 j)) = some (setRow g2 58 (fun j => if j < m + 1 then rowW n (i : Int) j else g2 58 j)) := by
            unfold g_X6_setWork
            (rw [e_join]; (try dsimp only); rw [b_neg (by omega), e_cI, b_neg (by omega), show 46 + 12 = 58 from rfl, e_wrR _ _ _ _ _ _ (by omega), setRow_same, setRow_setRow, Int.toNat_natCast])
            congr 2
            funext j
            unfold upd1
            try dsimp only
            try dsimp only
            by_cases y : j = m
            · subst y
              rw [if_pos rfl, if_pos (show j < j + 1 by omega)]
              unfold rowW
              rw [if_pos (show (j : Int) < (n : Int) by omega)]
            · rw [if_neg y]
              by_cases y2 : j < m
              · rw [if_pos y2, if_pos (show j < m + 1 by omega)]
              · rw [if_neg y2, if_neg (show ¬ j < m + 1 by omega)]
          rw [b_neg (by omega), e_cI, e_cI, e_sub _ _ _ (by omega), e_sub _ _ _ (by omega), e_mul _ _ _ (by omega), e_dg, es, e_cV, e_add _ _ _ (by omega), show ((m + 1 : Nat) : Int) = (m : Int) + 1 by omega]
        · intro self2
          unfold g_X8_bestRow_l55
          dsimp only
          rw [b_pos (by omega)]
        · refine Prod.ext rfl ?_
          dsimp only
          have : (fun j => if j < 0 then rowW n (i : Int) j else g2 58 j) = g2 58 := by funext j; rw [if_neg (by omega)]
          rw [this, setRow_self]
      rw [sets, hj40]
      have c58b : ∀ m, m < 99 → setRow g2 58 (fun m => if m < n then rowW n (i : Int) m else g2 58 m) 58 m = rowW n (i : Int) m := by
        intro m hm
        rw [setRow_same]
        by_cases y : m < n
        · rw [if_pos y]
        · rw [if_neg y, c58 m hm]
          unfold rowW
          rw [if_neg (by omega)]
      have ne : ∀ p, p ≠ 58 → setRow g2 58 (fun m => if m < n then rowW n (i : Int) m else g2 58 m) p = g2 p := fun p hp => setRow_ne _ _ _ _ hp
      generalize setRow g2 58 (fun m => if m < n then rowW n (i : Int) m else g2 58 m) = g3 at c58b ne
      have f3 : TF h g3 := fun p hp => by rw [ne p (by omega), f2 p hp]
      obtain ⟨g4, b1, b2, b3⟩ := tf_run1 (wk := rowW n (i : Int)) (M := M) r hN rb rs f3 (by omega) hs (r2.fr (fun p _ _ => ne p (by omega))) hk (by rw [ne 46 (by omega), c5]) (by rw [ne 56 (by omega), c56]) (by rw [ne 57 (by omega), c57])
        (fun m hm => by
          rw [c58b m hm]
          unfold rowW
          split
          · exact Or.inr (dg_in _ _)
          · exact Or.inl rfl) c58b hM
      rw [show planRef (-1) = -1 from rfl] at b1
      rw [tf_beach rb f3, tf_sea rs f3, b1, e_cV, e_cI, e_rd _ _ _ _ _ (by omega), show (0 : Int).toNat = 0 from rfl, b3]
      rw [show bsP (rwP h k n seed M) (i + 1) = if (bsP (rwP h k n seed M) i).2 < rwP h k n seed M i then ((i : Int), rwP h k n seed M i) else bsP (rwP h k n seed M) i from rfl]
      refine join_exr (fun j48 hj48 => ?_)
      rw [show valP h k (-1) seed (rowW n (i : Int)) M = rwP h k n seed M i from rfl] at b3 ⊢
      by_cases y : rwP h k n seed M i ≤ (bsP (rwP h k n seed M) i).2
      · rw [b_pos y, hj48, e_add _ _ _ (by omega), if_neg (show ¬ (bsP (rwP h k n seed M) i).2 < rwP h k n seed M i by omega)]
        refine ⟨_, ?_, rfl⟩
        exact ⟨⟨rfl, rfl, by (try dsimp only); omega⟩, b2⟩
      · rw [b_neg y, e_cI, e_rd _ _ _ _ _ (by omega), show (0 : Int).toNat = 0 from rfl, b3, hj48, e_add _ _ _ (by omega), if_pos (show (bsP (rwP h k n seed M) i).2 < rwP h k n seed M i by omega)]
        refine ⟨_, ?_, rfl⟩
        exact ⟨⟨rfl, rfl, by (try dsimp only); omega⟩, b2⟩
    · rintro ⟨y1, y2, y3, g⟩ ⟨⟨e1, e2, e3⟩, hg⟩ self
      dsimp only at e1 e2 e3 hg
      subst e1 e2 e3
      unfold g_X8_bestRow_l29
      dsimp only
      rw [b_pos (by omega)]
      exact fin _ g rfl hg
  obtain ⟨⟨z, g⟩, a, b, d⟩ := key
  exact ⟨g, by rw [a]; dsimp only at b; rw [b], d⟩
theorem m_lastByRow {h g : Hp} {N k n M : Nat} {seed : Int} {x : Int} (r : Rel N h) (hN : N ≤ 600) (f : ∀ p, p ≠ 122 → (p < 46 ∨ 58 < p) → g p = h p) (hk : k < (h 100 12).toNat) (hn : 1 ≤ n ∧ n ≤ 4) (hs : 0 ≤ seed ∧ seed < 2147483648) (hM : 1 ≤ M ∧ M ≤ 99) :
    ∃ s, g_X9_lastByRow (k : Int) (n : Int) x seed (M : Int) g = some (valP h k (-1) seed (rowW n x) M, setRow g 122 s) := by
  have hv := r.1
  have h41 := (pv_plan hv).1
  have h12 := (pv_flags hv).1
  have e121 : g 121 = h 121 := f 121 (by omega) (by omega)
  have hpm : PM h g := fun p hp => f p (by omega) (by omega)
  obtain ⟨q1, q2⟩ := fc_in hv hk
  have i1 := ag_iv (iv_bg r (p := -1) (by omega) hs) hv (bgM_ag (g := g))
  refine ⟨trS h (fc h k) (rowW n x) (bgM h g (-1) seed) M, ?_⟩
  unfold g_X9_lastByRow
  rw [e_cI, m_begin e121, e_cV, e_cI]
  refine loopF_for' M (fun i => ((i : Int), setRow g 122 (trS h (fc h k) (rowW n x) (bgM h g (-1) seed) i))) ?_ ?_ rfl (fu _ (by omega))
  · intro i hi self
    unfold g_X9_lastByRow_l5
    dsimp only
    rw [b_neg (by omega)]
    refine join_gen (fun j10 hj10 => ?_)
    have go : ∀ s, s = workP h (fc h k) (rowW n x i) (trS h (fc h k) (rowW n x) (bgM h g (-1) seed) i) → j10 (setRow g 122 s) = self (((i + 1 : Nat) : Int), setRow g 122 (trS h (fc h k) (rowW n x) (bgM h g (-1) seed) (i + 1))) := by
      intro s hss
      rw [hj10, m_fin1 r hN hpm hs q2 (by omega) g hss, e_cV, e_add _ _ _ (by omega), show ((i + 1 : Nat) : Int) = (i : Int) + 1 by omega]
    by_cases z : (n : Int) ≤ (i : Int)
    · rw [b_pos z]
      refine go _ ?_
      rw [show rowW n x i = -1 by unfold rowW; rw [if_neg (by omega)], workP_no]
    · rw [b_neg z, e_cI, e_cI, e_sub _ _ _ (by omega), e_sub _ _ _ (by omega), e_mul _ _ _ (by omega), e_dg, m_works (B := 6336) (T := 360 * (N : Int) + (i : Nat)) hv hpm (iv_trS i1 hv q2 i) (by omega) (by omega) q2 (by rw [e121]; exact (fc_row r hk).1) (dg_in _ _), e_cV]
      refine go _ ?_
      rw [show rowW n x i = dg x (2 * ((n : Int) - 1 - (i : Int))) by unfold rowW; rw [if_pos (by omega)]]
  · intro self
    unfold g_X9_lastByRow_l5
    dsimp only
    rw [b_pos (by omega), m_lastV r hN e121 (by omega) hs hk hM, e_cP]
theorem m_bestRow {h g : Hp} {N k n M : Nat} {seed : Int} (r : Rel N h) (hN : N ≤ 600) (f : ∀ p, p ≠ 122 → (p < 46 ∨ 58 < p) → g p = h p) (hk : k < (h 100 12).toNat) (hn : 1 ≤ n ∧ n ≤ 4) (hs : 0 ≤ seed ∧ seed < 2147483648) (hM : 1 ≤ M ∧ M ≤ 99) :
    ∃ s, g_X9_bestRow (k : Int) (n : Int) seed (M : Int) g = some (digP (bsP (rwP h k n seed M) (4 ^ n)).1 n 0, setRow g 122 s) := by
  have hp4 := pow4 hn
  have key : ∃ rr : Int × Hp, g_X9_bestRow (k : Int) (n : Int) seed (M : Int) g = some rr ∧ (rr.1 = digP (bsP (rwP h k n seed M) (4 ^ n)).1 n 0 ∧ ∃ s, rr.2 = setRow g 122 s) := by
    unfold g_X9_bestRow
    rw [e_cI, e_cI, e_cI]
    refine join_ex (fun j5 hj5 => ?_)
    refine loopF_ex (4 ^ n) (fun i (q : Int × Int × Int × Hp) => (q.1 = (bsP (rwP h k n seed M) i).1 ∧ q.2.1 = (bsP (rwP h k n seed M) i).2 ∧ q.2.2.1 = (i : Int)) ∧ ∃ s, q.2.2.2 = setRow g 122 s) ?_ ?_ FU 0 _ (Nat.zero_le _) (fu _ (by omega)) ⟨⟨rfl, rfl, rfl⟩, g 122, (setRow_self g 122).symm⟩
    · rintro i ⟨y1, y2, y3, g1⟩ hi ⟨⟨e1, e2, e3⟩, s, hg⟩ self
      dsimp only at e1 e2 e3 hg
      subst e1 e2 e3 hg
      left
      obtain ⟨s2, w⟩ := m_lastByRow (g := setRow g 122 s) (x := (i : Int)) r hN (fun p h1 h2 => by rw [setRow_ne _ _ _ _ h1, f p h1 h2]) hk hn hs hM
      rw [setRow_setRow] at w
      unfold g_X9_bestRow_l25
      dsimp only
      rw [e_cI, e_cI, e_mul _ _ _ (by omega), e_shl1 hn, b_neg (by omega), w, e_cW]
      rw [show bsP (rwP h k n seed M) (i + 1) = if (bsP (rwP h k n seed M) i).2 < rwP h k n seed M i then ((i : Int), rwP h k n seed M i) else bsP (rwP h k n seed M) i from rfl, show valP h k (-1) seed (rowW n (i : Int)) M = rwP h k n seed M i from rfl]
      refine join_exr (fun j37 hj37 => ?_)
      by_cases y : (bsP (rwP h k n seed M) i).2 < rwP h k n seed M i
      · rw [b_pos y, hj37, e_add _ _ _ (by omega), if_pos y]
        refine ⟨_, ?_, rfl⟩
        exact ⟨⟨rfl, rfl, by (try dsimp only); omega⟩, s2, rfl⟩
      · rw [b_neg y, hj37, e_add _ _ _ (by omega), if_neg y]
        refine ⟨_, ?_, rfl⟩
        exact ⟨⟨rfl, rfl, by (try dsimp only); omega⟩, s2, rfl⟩
    · rintro ⟨y1, y2, y3, g1⟩ ⟨⟨e1, e2, e3⟩, s, hg⟩ self
      dsimp only at e1 e2 e3 hg
      subst e1 e2 e3 hg
      unfold g_X9_bestRow_l25
      dsimp only
      rw [e_cI, e_cI, e_mul _ _ _ (by omega), e_shl1 hn, b_pos (by omega), hj5, e_cI, e_cI, e_sub _ _ _ (by omega), m_digits n FU 0 (fu _ (by omega)) (by omega)]
      exact ⟨_, rfl, rfl, s, rfl⟩
  obtain ⟨⟨z, g2⟩, a, b, s, d⟩ := key
  dsimp only at b d
  exact ⟨s, by rw [a, b, d]⟩
def okAsk (h : Hp) (x1 x2 x3 : Int) : Prop := okFlag h x1 ∧ 0 ≤ x2 ∧ okSpan x3
theorem m_isAsked_t {h : Hp} {x1 x2 x3 : Int} (hv : PV h) (o : okAsk h x1 x2 x3) : g_X9_isAsked x1 x2 x3 h = some 1 := by
  obtain ⟨o1, o2, o3⟩ := o
  unfold g_X9_isAsked
  (rw [m_isFlag_t hv o1, e_cP, e_join]; (try dsimp only); rw [e_join]; (try dsimp only); rw [b_neg (by decide), b_neg (by omega), m_areMinutes_t o3, e_cP, b_neg (by decide), e_cI])
  exact e_retZ1
theorem m_isAsked_f {h : Hp} {x1 x2 x3 : Int} (hv : PV h) (o : ¬ okAsk h x1 x2 x3) : g_X9_isAsked x1 x2 x3 h = some 0 := by
  unfold g_X9_isAsked
  by_cases o1 : okFlag h x1
  rotate_left
  · (rw [m_isFlag_f hv o1, e_cP, e_join]; (try dsimp only); rw [e_join]; (try dsimp only); rw [b_pos rfl, e_cI])
    exact e_retZ0
  (rw [m_isFlag_t hv o1, e_cP, e_join]; (try dsimp only); rw [e_join]; (try dsimp only); rw [b_neg (by decide)])
  by_cases o2 : x2 < 0
  · rw [b_pos o2, e_cI]
    exact e_retZ0
  rw [b_neg o2]
  by_cases o3 : okSpan x3
  · exact absurd ⟨o1, by omega, o3⟩ o
  · rw [m_areMinutes_f o3, e_cP, b_pos rfl, e_cI]
    exact e_retZ0
theorem s_pail {n : Nat} {h : Hp} {x1 x2 x3 : Int} (hn : n ≤ 600) (hx2 : inR x2) (r : Rel n h) : ∃ z h1 h2, g_X8_pail x1 x2 x3 h = some (z, h1) ∧ g_X9_pail x1 x2 x3 h1 = some (z, h2) ∧ Rel (n + 1) h2 := by
  have r' := r
  obtain ⟨hv, ⟨c, rb⟩, ⟨v, rs⟩, rp, -⟩ := r'
  unfold inR at hx2
  by_cases o : okAsk h x1 x2 x3
  rotate_left
  · refine ⟨-2, h, h, ?_, ?_, r.next⟩
    · unfold g_X8_pail
      by_cases o1 : okFlag h x1
      rotate_left
      · (rw [k_isFlag_f rb o1, e_cP, e_join]; (try dsimp only); rw [b_pos rfl, e_cI])
      (rw [k_isFlag_t rb o1, e_cP, e_join]; (try dsimp only); rw [b_neg (by decide)])
      by_cases o2 : x2 < 0
      · rw [b_pos o2, e_cI]
      rw [b_neg o2]
      by_cases o3 : okSpan x3
      · exact absurd ⟨o1, by omega, o3⟩ o
      · rw [k_isSpan_f o3, e_cP, b_pos rfl, e_cI]
    · unfold g_X9_pail
      (rw [m_isAsked_f hv o, e_cP, e_join]; (try dsimp only); rw [b_pos rfl, e_cI])
  obtain ⟨o1, o2, o3⟩ := o
  obtain ⟨k, rfl⟩ := Int.eq_ofNat_of_zero_le o1.1
  obtain ⟨M, rfl⟩ := Int.eq_ofNat_of_zero_le (show 0 ≤ x3 by unfold okSpan at o3; omega)
  have hk : k < (h 100 12).toNat := by unfold okFlag at o1; omega
  have hM : 1 ≤ M ∧ M ≤ 99 := by unfold okSpan at o3; omega
  obtain ⟨g, a1, a2⟩ := k_bestRow (n := 2) (seed := x2) (M := M) r hn rb rs hk (by omega) (by omega) hM
  obtain ⟨s, b1⟩ := m_bestRow (n := 2) (seed := x2) (M := M) (g := g) r hn (fun p _ h2 => a2 p h2) hk (by omega) (by omega) hM
  refine ⟨digP (bsP (rwP h k ((2 : Nat) : Int) x2 M) (4 ^ 2)).1 2 0, g, setRow g 122 s, ?_, ?_, r.trial (fun p h1 h2 => by rw [setRow_ne _ _ _ _ h1, a2 p h2])⟩
  · unfold g_X8_pail
    (rw [k_isFlag_t rb o1, e_cP, e_join]; (try dsimp only); rw [b_neg (by decide), b_neg (by omega), k_isSpan_t o3, e_cP, b_neg (by decide), e_cI, show (2 : Int) = ((2 : Nat) : Int) from rfl, a1, e_cW])
  · unfold g_X9_pail
    (rw [m_isAsked_t (hv.te (TE.pm (Rel.pm1 a2))) ⟨by unfold okFlag; rw [a2 100 (by omega)]; exact o1, o2, o3⟩, e_cP, e_join]; (try dsimp only); rw [b_neg (by decide), e_cI, show (2 : Int) = ((2 : Nat) : Int) from rfl, b1, e_cW])
theorem s_row {n : Nat} {h : Hp} {x1 x2 x3 x4 : Int} (hn : n ≤ 600) (hx3 : inR x3) (r : Rel n h) : ∃ z h1 h2, g_X8_row x1 x2 x3 x4 h = some (z, h1) ∧ g_X9_row x1 x2 x3 x4 h1 = some (z, h2) ∧ Rel (n + 1) h2 := by
  have r' := r
  obtain ⟨hv, ⟨c, rb⟩, ⟨v, rs⟩, rp, -⟩ := r'
  unfold inR at hx3
  by_cases o : okAsk h x1 x3 x4 ∧ 1 ≤ x2 ∧ x2 ≤ 4
  rotate_left
  · refine ⟨-2, h, h, ?_, ?_, r.next⟩
    · unfold g_X8_row
      by_cases o1 : okFlag h x1
      rotate_left
      · (rw [k_isFlag_f rb o1, e_cP, e_join]; (try dsimp only); rw [b_pos rfl, e_cI])
      (rw [k_isFlag_t rb o1, e_cP, e_join]; (try dsimp only); rw [b_neg (by decide), e_cI])
      by_cases p1 : x2 < 1
      · rw [b_pos p1, e_cI]
      rw [b_neg p1, e_cI]
      by_cases p2 : 4 < x2
      · rw [b_pos p2, e_cI]
      rw [b_neg p2]
      by_cases o2 : x3 < 0
      · rw [b_pos o2, e_cI]
      rw [b_neg o2]
      by_cases o3 : okSpan x4
      · exact absurd ⟨⟨o1, by omega, o3⟩, by omega, by omega⟩ o
      · rw [k_isSpan_f o3, e_cP, b_pos rfl, e_cI]
    · unfold g_X9_row
      by_cases o1 : okAsk h x1 x3 x4
      · (rw [m_isAsked_t hv o1, e_cP, e_join]; (try dsimp only); rw [e_join]; (try dsimp only); rw [b_neg (by decide), e_i2l, e_cI, e_cI, e_in_f _ _ _ _ (by
          by_cases p1 : x2 < 1
          · exact Or.inl p1
          · by_cases p2 : 4 < x2
            · exact Or.inr p2
            · exact absurd ⟨o1, by omega, by omega⟩ o), b_pos rfl, e_cI])
      · (rw [m_isAsked_f hv o1, e_cP, e_join]; (try dsimp only); rw [e_join]; (try dsimp only); rw [b_pos rfl, e_cI])
  obtain ⟨⟨o1, o2, o3⟩, o4⟩ := o
  obtain ⟨k, rfl⟩ := Int.eq_ofNat_of_zero_le o1.1
  obtain ⟨M, rfl⟩ := Int.eq_ofNat_of_zero_le (show 0 ≤ x4 by unfold okSpan at o3; omega)
  obtain ⟨m, rfl⟩ := Int.eq_ofNat_of_zero_le (show 0 ≤ x2 by omega)
  have hk : k < (h 100 12).toNat := by unfold okFlag at o1; omega
  have hM : 1 ≤ M ∧ M ≤ 99 := by unfold okSpan at o3; omega
  obtain ⟨g, a1, a2⟩ := k_bestRow (n := m) (seed := x3) (M := M) r hn rb rs hk (by omega) (by omega) hM
  obtain ⟨s, b1⟩ := m_bestRow (n := m) (seed := x3) (M := M) (g := g) r hn (fun p _ h2 => a2 p h2) hk (by omega) (by omega) hM
  refine ⟨digP (bsP (rwP h k (m : Int) x3 M) (4 ^ m)).1 m 0, g, setRow g 122 s, ?_, ?_, r.trial (fun p h1 h2 => by rw [setRow_ne _ _ _ _ h1, a2 p h2])⟩
  · unfold g_X8_row
    (rw [k_isFlag_t rb o1, e_cP, e_join]; (try dsimp only); rw [b_neg (by decide), e_cI, b_neg (by omega), e_cI, b_neg (by omega), b_neg (by omega), k_isSpan_t o3, e_cP, b_neg (by decide), a1, e_cW])
  · unfold g_X9_row
    (rw [m_isAsked_t (hv.te (TE.pm (Rel.pm1 a2))) ⟨by unfold okFlag; rw [a2 100 (by omega)]; exact o1, o2, o3⟩, e_cP, e_join]; (try dsimp only); rw [e_join]; (try dsimp only); rw [b_neg (by decide), e_i2l, e_cI, e_cI, e_in_t _ _ _ _ o4, b_neg (by decide), b1, e_cW])
/-! CALLS: again -/
def wetW (x : Int) (m : Nat) : Int := if (m : Int) = x then 3 else -1
def agV (h : Hp) (k : Nat) (seed : Int) (M : Nat) (x : Int) : Int := valP h k (-1) seed (wetW x) M
theorem agV_in {h : Hp} {k M : Nat} {seed x : Int} : 0 ≤ agV h k seed M x ∧ agV h k seed M x ≤ (M : Int) := lastP_in
/-- a wetting behind the fall changes nothing -/
theorem agV_late {h : Hp} {k M m : Nat} {seed : Int} (hm : agV h k seed M (-1) < (m : Int)) : agV h k seed M (m : Int) = agV h k seed M (-1) := by
  by_cases hM : M ≤ m
  · unfold agV
    refine valP_congr (fun j hj => ?_)
    unfold wetW
    rw [if_neg (by omega), if_neg (by omega)]
  unfold agV valP at hm ⊢
  have same : ∀ j, j ≤ m → trS h (fc h k) (wetW (m : Int)) (bg h (-1) seed) j = trS h (fc h k) (wetW (-1)) (bg h (-1) seed) j := fun j hj => trS_congr j (fun i hi => by
    unfold wetW
    rw [if_neg (by omega), if_neg (by omega)])
  have h1 := lfP_in (S := trS h (fc h k) (wetW (-1)) (bg h (-1) seed)) (c := fc h k) (fl := ffl h k) M
  have e0 := lfP_congr (S := trS h (fc h k) (wetW (m : Int)) (bg h (-1) seed)) (U := trS h (fc h k) (wetW (-1)) (bg h (-1) seed)) (c := fc h k) (fl := ffl h k) m (fun j hj => by rw [same j hj])
  have st := fun S z => lfP_stay (S := S) (c := fc h k) (fl := ffl h k) (m := m) z (M - m)
  rw [show m + (M - m) = M by omega] at st
  unfold lastP at hm ⊢
  generalize trS h (fc h k) (wetW (-1)) (bg h (-1) seed) = U at *
  generalize trS h (fc h k) (wetW (m : Int)) (bg h (-1) seed) = S at *
  by_cases z : lfP U (fc h k) (ffl h k) M = -1
  · rw [if_pos z] at hm
    omega
  rw [if_neg z] at hm
  have hU : lfP U (fc h k) (ffl h k) m ≠ -1 := by
    intro y
    -- it stood through m minutes, so what fell fell at m or later
    have key : ∀ n : Nat, lfP U (fc h k) (ffl h k) (m + n) = -1 ∨ (m : Int) ≤ lfP U (fc h k) (ffl h k) (m + n) := by
      intro n
      induction n with
      | zero => exact Or.inl y
      | succ n ih =>
        show (if lfP U (fc h k) (ffl h k) (m + n) = -1 then (if U (m + n + 1) (fc h k) < ffl h k then ((m + n : Nat) : Int) else -1) else lfP U (fc h k) (ffl h k) (m + n)) = -1 ∨ (m : Int) ≤ (if lfP U (fc h k) (ffl h k) (m + n) = -1 then (if U (m + n + 1) (fc h k) < ffl h k then ((m + n : Nat) : Int) else -1) else lfP U (fc h k) (ffl h k) (m + n))
        by_cases a : lfP U (fc h k) (ffl h k) (m + n) = -1
        · rw [if_pos a]
          split
          · exact Or.inr (by omega)
          · exact Or.inl rfl
        · rw [if_neg a]
          exact ih
    have := key (M - m)
    rw [show m + (M - m) = M by omega] at this
    omega
  rw [st S (by rw [e0]; exact hU), st U hU, e0]
/-- the first that is more than without -/
def agP (f : Int → Int) : Nat → Int × Int
  | 0 => (f (-1), -1)
  | x + 1 => if (agP f x).1 < f (x : Int) then (f (x : Int), (x : Int)) else agP f x
theorem agP_ge {f : Int → Int} : ∀ x, f (-1) ≤ (agP f x).1
  | 0 => Int.le_refl _
  | x + 1 => by
    have := agP_ge (f := f) x
    unfold agP
    split
    · dsimp only; omega
    · exact this
theorem ag_done {f : Int → Int} {x : Nat} (h : ∀ y : Nat, x ≤ y → f (y : Int) ≤ (agP f x).1) : ∀ j : Nat, agP f (x + j) = agP f x
  | 0 => rfl
  | j + 1 => by
    have ih := ag_done h j
    show (if (agP f (x + j)).1 < f ((x + j : Nat) : Int) then (f ((x + j : Nat) : Int), ((x + j : Nat) : Int)) else agP f (x + j)) = _
    have := h (x + j) (by omega)
    rw [ih, if_neg (by omega)]
theorem k_again {h : Hp} {N k M c v : Nat} {seed : Int} (r : Rel N h) (hN : N ≤ 600) (rb : BchR h c) (rs : SeaR h v) (hk : k < (h 100 12).toNat) (hs : 0 ≤ seed ∧ seed < 2147483648) (hM : 1 ≤ M ∧ M ≤ 99) :
    ∃ g, g_X8_again (k : Int) seed (M : Int) h = some ((agP (agV h k seed M) M).2, g) ∧ TF h g := by
  have hv := r.1
  have h41 := (pv_plan hv).1
  -- one trial
  have one : ∀ (g : Hp) (x : Int), TF h g → -1 ≤ x → x < 99 → ∀ (K : Hp → Option (Int × Hp)), ∃ g', TF h g' ∧ g' 55 0 = agV h k seed M x ∧
      (cV (g_X6_start 46 26 (-1) seed g) fun h28 => gR h28 0 1 [3, 9] fun q29 => cV (g_X6_watchFlag 46 q29 (k : Int) h28) fun h30 =>
        (if x = -1 then (gR h30 0 1 [3, 9] fun q33 => gR h30 0 3 [15, 20] fun q34 => cV (g_X6_run 46 q33 q34 (-1) (M : Int) h30) K) else cI 3 fun z31 => cV (g_X6_setWork 46 x z31 h30) fun h32 => gR h32 0 1 [3, 9] fun q33 => gR h32 0 3 [15, 20] fun q34 => cV (g_X6_run 46 q33 q34 (-1) (M : Int) h32) K)) = K g' := by
    intro g x hg hx hx2 K
    obtain ⟨g1, a1, a2, a3, a4, a5⟩ := tf_start (p := -1) (seed := seed) r hg (by omega) hs
    have w1 := tf_watchFlag (W := 0) r rb a2 a3 hk (by omega) (by rw [a4]; rfl)
    generalize hg2 : set2 (set2 (set2 g1 56 0 (fc h k : Int)) 57 0 (ffl h k)) 46 5 (((0 : Nat) : Int) + 1) = g2 at w1
    have f2 : TF h g2 := fun p hp => by rw [← hg2, set2_ne p (by omega), set2_ne p (by omega), set2_ne p (by omega), a2 p hp]
    have r2 : RS h g2 47 (bg h (-1) seed) := a3.fr (fun p _ _ => by rw [← hg2, set2_ne p (by omega), set2_ne p (by omega), set2_ne p (by omega)])
    have c5 : g2 46 5 = 1 := by rw [← hg2, set2_same]; rfl
    have c56 : g2 56 0 = (fc h k : Int) := by rw [← hg2, set2_np _ _ _ _ _ _ (by omega), set2_np _ _ _ _ _ _ (by omega), set2_same]
    have c57 : g2 57 0 = ffl h k := by rw [← hg2, set2_np _ _ _ _ _ _ (by omega), set2_same]
    have c58 : ∀ m, m < 99 → g2 58 m = -1 := fun m hm => by rw [← hg2, set2_np _ _ _ _ _ _ (by omega), set2_np _ _ _ _ _ _ (by omega), set2_np _ _ _ _ _ _ (by omega), a5 m hm]
    have ph : planRef (-1) = -1 := rfl
    rw [a1, e_cV, tf_beach rb a2, w1, e_cV]
    by_cases z : x = -1
    · rw [b_pos z]
      obtain ⟨g4, b1, b2, b3⟩ := tf_run1 (wk := wetW x) (M := M) r hN rb rs f2 (by omega) hs r2 hk c5 c56 c57 (fun m hm => Or.inl (c58 m hm)) (fun m hm => by rw [c58 m hm]; unfold wetW; rw [if_neg (by omega)]) hM
      rw [ph] at b1
      refine ⟨g4, b2, b3, ?_⟩
      rw [tf_beach rb f2, tf_sea rs f2, b1, e_cV]
    · rw [b_neg z, e_cI]
      obtain ⟨y, rfl⟩ := Int.eq_ofNat_of_zero_le (show 0 ≤ x by omega)
      have es : g_X6_setWork 46 (y : Int) 3 g2 = some (set2 g2 58 y 3) := by
        unfold g_X6_setWork
        (rw [e_join]; (try dsimp only); rw [b_neg (by omega), e_cI, b_neg (by omega), e_wrn _ _ _ _ _ _ (by omega)])
      rw [es, e_cV]
      have f3 : TF h (set2 g2 58 y 3) := fun p hp => by rw [set2_ne p (by omega), f2 p hp]
      have c58b : ∀ m, m < 99 → set2 g2 58 y 3 58 m = wetW (y : Int) m := by
        intro m hm
        unfold wetW
        by_cases q : m = y
        · subst q; rw [set2_same, if_pos rfl]
        · rw [set2_nk _ _ _ _ _ _ q, c58 m hm, if_neg (by omega)]
      obtain ⟨g4, b1, b2, b3⟩ := tf_run1 (wk := wetW (y : Int)) (M := M) r hN rb rs f3 (by omega) hs (r2.fr (fun p _ _ => set2_ne p (by omega))) hk (by rw [set2_np _ _ _ _ _ _ (by omega), c5]) (by rw [set2_np _ _ _ _ _ _ (by omega), c56]) (by rw [set2_np _ _ _ _ _ _ (by omega), c57])
        (fun m hm => by
          rw [c58b m hm]
          unfold wetW
          split
          · exact Or.inr (by omega)
          · exact Or.inl rfl) c58b hM
      rw [ph] at b1
      refine ⟨g4, b2, b3, ?_⟩
      rw [tf_beach rb f3, tf_sea rs f3, b1, e_cV]
  have key : ∃ rr : Int × Hp, g_X8_again (k : Int) seed (M : Int) h = some rr ∧ (rr.1 = (agP (agV h k seed M) M).2 ∧ TF h rr.2) := by
    unfold g_X8_again
    (rw [k_isFlag_t rb (by unfold okFlag; omega), e_cP, e_join]; (try dsimp only); rw [b_neg (by decide), b_neg (by omega), k_isSpan_t (by unfold okSpan; omega), e_cP, b_neg (by decide), e_cI])
    obtain ⟨g0, z1, z2, z3⟩ := one h (-1) TF.rf (by omega) (by omega) (fun h12 => cI 0 fun z13 => rdI h12 55 2 z13 fun z14 => cI (-1) fun z15 => cI 0 fun z16 => joinF (fun (a17 : Int × Hp) => some (a17.1, a17.2)) fun j18 => loopF (g_X8_again_l22 j18 (k : Int) seed (M : Int) z14) FU (z14, z15, z16, h12))
    simp only [if_true] at z3
    rw [z3, e_cI, e_rd _ _ _ _ _ (by omega), show (0 : Int).toNat = 0 from rfl, z2, e_cI, e_cI]
    refine join_ex (fun j18 hj18 => ?_)
    have fin : ∀ (b : Int) (g : Hp), b = (agP (agV h k seed M) M).2 → TF h g → ∃ rr : Int × Hp, j18 (b, g) = some rr ∧ (rr.1 = (agP (agV h k seed M) M).2 ∧ TF h rr.2) := fun b g hb hg => by
      rw [hj18]
      exact ⟨_, rfl, hb, hg⟩
    refine loopF_ex M (fun i (q : Int × Int × Int × Hp) => (q.1 = (agP (agV h k seed M) i).1 ∧ q.2.1 = (agP (agV h k seed M) i).2 ∧ q.2.2.1 = (i : Int)) ∧ TF h q.2.2.2) ?_ ?_ FU 0 _ (Nat.zero_le _) (fu _ (by omega)) ⟨⟨rfl, rfl, rfl⟩, z1⟩
    · rintro i ⟨y1, y2, y3, g⟩ hi ⟨⟨e1, e2, e3⟩, hg⟩ self
      dsimp only at e1 e2 e3 hg
      subst e1 e2 e3
      unfold g_X8_again_l22
      dsimp only
      have ge := agP_ge (f := agV h k seed M) i
      by_cases stop : agV h k seed M (-1) < (i : Int) ∨ (M : Int) ≤ (agP (agV h k seed M) i).1
      · right
        have dn : ∀ y : Nat, i ≤ y → agV h k seed M (y : Int) ≤ (agP (agV h k seed M) i).1 := by
          intro y hy
          rcases stop with s | s
          · rw [agV_late (by omega)]; exact ge
          · have := (agV_in (h := h) (k := k) (M := M) (seed := seed) (x := (y : Int))).2
            omega
        have := ag_done dn (M - i)
        rw [show i + (M - i) = M by omega] at this
        by_cases s : agV h k seed M (-1) < (i : Int)
        · rw [b_pos s]
          exact fin _ g (by rw [this]) hg
        · rw [b_neg s, b_neg (by omega), b_pos (stop.resolve_left s)]
          exact fin _ g (by rw [this]) hg
      left
      rw [b_neg (by omega), b_neg (by omega), b_neg (by omega), e_cI]
      obtain ⟨g4, b2, b3, b1⟩ := one g (i : Int) hg (by omega) (by omega) (fun h35 => cI 0 fun z36 => rdI h35 55 2 z36 fun z37 => joinF (fun (a38 : Int × Int) => addI (i : Int) 1 fun z42 => self (a38.1, a38.2, z42, h35)) fun j39 => if z37 ≤ (agP (agV h k seed M) i).1 then j39 ((agP (agV h k seed M) i).1, (agP (agV h k seed M) i).2) else cI 0 fun z43 => rdI h35 55 2 z43 fun z44 => j39 (z44, (i : Int)))
      simp only [show ¬ ((i : Int) = -1) by omega, if_false] at b1
      rw [b1, e_cI, e_rd _ _ _ _ _ (by omega), show (0 : Int).toNat = 0 from rfl, b3]
      rw [show agP (agV h k seed M) (i + 1) = if (agP (agV h k seed M) i).1 < agV h k seed M (i : Int) then (agV h k seed M (i : Int), (i : Int)) else agP (agV h k seed M) i from rfl]
      refine join_exr (fun j39 hj39 => ?_)
      by_cases y : agV h k seed M (i : Int) ≤ (agP (agV h k seed M) i).1
      · rw [b_pos y, hj39, e_add _ _ _ (by omega), if_neg (show ¬ (agP (agV h k seed M) i).1 < agV h k seed M (i : Int) by omega)]
        refine ⟨_, ?_, rfl⟩
        exact ⟨⟨rfl, rfl, by (try dsimp only); omega⟩, b2⟩
      · rw [b_neg y, e_cI, e_rd _ _ _ _ _ (by omega), show (0 : Int).toNat = 0 from rfl, b3, hj39, e_add _ _ _ (by omega), if_pos (show (agP (agV h k seed M) i).1 < agV h k seed M (i : Int) by omega)]
        refine ⟨_, ?_, rfl⟩
        exact ⟨⟨rfl, rfl, by (try dsimp only); omega⟩, b2⟩
    · rintro ⟨y1, y2, y3, g⟩ ⟨⟨e1, e2, e3⟩, hg⟩ self
      dsimp only at e1 e2 e3 hg
      subst e1 e2 e3
      unfold g_X8_again_l22
      dsimp only
      by_cases s : agV h k seed M (-1) < (M : Int)
      · rw [b_pos s]
        exact fin _ g rfl hg
      · rw [b_neg s, b_pos (by omega)]
        exact fin _ g rfl hg
  obtain ⟨⟨z, g⟩, a, b, d⟩ := key
  exact ⟨g, by rw [a]; dsimp only at b; rw [b], d⟩
theorem m_lastByWet {h g : Hp} {N k M : Nat} {seed : Int} {x : Int} (r : Rel N h) (hN : N ≤ 600) (f : ∀ p, p ≠ 122 → (p < 46 ∨ 58 < p) → g p = h p) (hk : k < (h 100 12).toNat) (hs : 0 ≤ seed ∧ seed < 2147483648) (hM : 1 ≤ M ∧ M ≤ 99) :
    ∃ s, g_X9_lastByWet (k : Int) x seed (M : Int) g = some (agV h k seed M x, setRow g 122 s) := by
  have hv := r.1
  have h41 := (pv_plan hv).1
  have h12 := (pv_flags hv).1
  have e121 : g 121 = h 121 := f 121 (by omega) (by omega)
  have hpm : PM h g := fun p hp => f p (by omega) (by omega)
  obtain ⟨q1, q2⟩ := fc_in hv hk
  have i1 := ag_iv (iv_bg r (p := -1) (by omega) hs) hv (bgM_ag (g := g))
  refine ⟨trS h (fc h k) (wetW x) (bgM h g (-1) seed) M, ?_⟩
  unfold g_X9_lastByWet
  rw [e_cI, m_begin e121, e_cV, e_cI]
  refine loopF_for' M (fun i => ((i : Int), setRow g 122 (trS h (fc h k) (wetW x) (bgM h g (-1) seed) i))) ?_ ?_ rfl (fu _ (by omega))
  · intro i hi self
    unfold g_X9_lastByWet_l5
    dsimp only
    rw [b_neg (by omega)]
    refine join_gen (fun j10 hj10 => ?_)
    have go : ∀ s, s = workP h (fc h k) (wetW x i) (trS h (fc h k) (wetW x) (bgM h g (-1) seed) i) → j10 (setRow g 122 s) = self (((i + 1 : Nat) : Int), setRow g 122 (trS h (fc h k) (wetW x) (bgM h g (-1) seed) (i + 1))) := by
      intro s hss
      rw [hj10, m_fin1 r hN hpm hs q2 (by omega) g hss, e_cV, e_add _ _ _ (by omega), show ((i + 1 : Nat) : Int) = (i : Int) + 1 by omega]
    by_cases z : (i : Int) = x
    · rw [b_pos z, e_cI, m_works (B := 6336) (T := 360 * (N : Int) + (i : Nat)) (w := 3) hv hpm (iv_trS i1 hv q2 i) (by omega) (by omega) q2 (by rw [e121]; exact (fc_row r hk).1) (by omega), e_cV]
      refine go _ ?_
      rw [show wetW x i = 3 by unfold wetW; rw [if_pos z]]
    · rw [b_neg z]
      refine go _ ?_
      rw [show wetW x i = -1 by unfold wetW; rw [if_neg z], workP_no]
  · intro self
    unfold g_X9_lastByWet_l5
    dsimp only
    rw [b_pos (by omega), m_lastV r hN e121 (by omega) hs hk hM, e_cP]
    rfl
theorem s_again {n : Nat} {h : Hp} {x1 x2 x3 : Int} (hn : n ≤ 600) (hx2 : inR x2) (r : Rel n h) : ∃ z h1 h2, g_X8_again x1 x2 x3 h = some (z, h1) ∧ g_X9_again x1 x2 x3 h1 = some (z, h2) ∧ Rel (n + 1) h2 := by
  have r' := r
  obtain ⟨hv, ⟨c, rb⟩, ⟨v, rs⟩, rp, -⟩ := r'
  unfold inR at hx2
  by_cases o : okAsk h x1 x2 x3
  rotate_left
  · refine ⟨-2, h, h, ?_, ?_, r.next⟩
    · unfold g_X8_again
      by_cases o1 : okFlag h x1
      rotate_left
      · (rw [k_isFlag_f rb o1, e_cP, e_join]; (try dsimp only); rw [b_pos rfl, e_cI])
      (rw [k_isFlag_t rb o1, e_cP, e_join]; (try dsimp only); rw [b_neg (by decide)])
      by_cases o2 : x2 < 0
      · rw [b_pos o2, e_cI]
      rw [b_neg o2]
      by_cases o3 : okSpan x3
      · exact absurd ⟨o1, by omega, o3⟩ o
      · rw [k_isSpan_f o3, e_cP, b_pos rfl, e_cI]
    · unfold g_X9_again
      rw [m_isAsked_f hv o, e_cP, b_pos rfl, e_cI]
  obtain ⟨o1, o2, o3⟩ := o
  obtain ⟨k, rfl⟩ := Int.eq_ofNat_of_zero_le o1.1
  obtain ⟨M, rfl⟩ := Int.eq_ofNat_of_zero_le (show 0 ≤ x3 by unfold okSpan at o3; omega)
  have hk : k < (h 100 12).toNat := by unfold okFlag at o1; omega
  have hM : 1 ≤ M ∧ M ≤ 99 := by unfold okSpan at o3; omega
  obtain ⟨g, a1, a2⟩ := k_again (seed := x2) (M := M) r hn rb rs hk (by omega) hM
  have key : ∃ rr : Int × Hp, g_X9_again (k : Int) x2 (M : Int) g = some rr ∧ (rr.1 = (agP (agV h k x2 M) M).2 ∧ ∃ s, rr.2 = setRow g 122 s) := by
    obtain ⟨s0, w0⟩ := m_lastByWet (g := g) (x := -1) (seed := x2) r hn (fun p _ h2 => a2 p h2) hk (by omega) hM
    unfold g_X9_again
    rw [m_isAsked_t (hv.te (TE.pm (Rel.pm1 a2))) ⟨by unfold okFlag; rw [a2 100 (by omega)]; exact o1, o2, o3⟩, e_cP, b_neg (by decide), e_cI, w0, e_cW, e_cI, e_cI]
    refine loopF_ex M (fun i (q : Int × Int × Int × Hp) => (q.1 = (agP (agV h k x2 M) i).1 ∧ q.2.1 = (agP (agV h k x2 M) i).2 ∧ q.2.2.1 = (i : Int)) ∧ ∃ s, q.2.2.2 = setRow g 122 s) ?_ ?_ FU 0 _ (Nat.zero_le _) (fu _ (by omega)) ⟨⟨rfl, rfl, rfl⟩, s0, rfl⟩
    · rintro i ⟨y1, y2, y3, g1⟩ hi ⟨⟨e1, e2, e3⟩, s, hg⟩ self
      dsimp only at e1 e2 e3 hg
      subst e1 e2 e3 hg
      left
      obtain ⟨s2, w⟩ := m_lastByWet (g := setRow g 122 s) (x := (i : Int)) (seed := x2) r hn (fun p h1 h2 => by rw [setRow_ne _ _ _ _ h1, a2 p h2]) hk (by omega) hM
      rw [setRow_setRow] at w
      unfold g_X9_again_l8
      dsimp only
      rw [b_neg (by omega), w, e_cW]
      rw [show agP (agV h k x2 M) (i + 1) = if (agP (agV h k x2 M) i).1 < agV h k x2 M (i : Int) then (agV h k x2 M (i : Int), (i : Int)) else agP (agV h k x2 M) i from rfl]
      refine join_exr (fun j37 hj37 => ?_)
      by_cases y : (agP (agV h k x2 M) i).1 < agV h k x2 M (i : Int)
      · rw [b_pos y, hj37, e_add _ _ _ (by omega), if_pos y]
        refine ⟨_, ?_, rfl⟩
        exact ⟨⟨rfl, rfl, by (try dsimp only); omega⟩, s2, rfl⟩
      · rw [b_neg y, hj37, e_add _ _ _ (by omega), if_neg y]
        refine ⟨_, ?_, rfl⟩
        exact ⟨⟨rfl, rfl, by (try dsimp only); omega⟩, s2, rfl⟩
    · rintro ⟨y1, y2, y3, g1⟩ ⟨⟨e1, e2, e3⟩, s, hg⟩ self
      dsimp only at e1 e2 e3 hg
      subst e1 e2 e3 hg
      unfold g_X9_again_l8
      dsimp only
      rw [b_pos (by omega)]
      exact ⟨_, rfl, rfl, s, rfl⟩
  obtain ⟨⟨z, g2⟩, b1, b2, s, b3⟩ := key
  dsimp only at b2 b3
  refine ⟨_, g, g2, a1, by rw [b1, b2], r.trial (fun p h1 h2 => by rw [b3, setRow_ne _ _ _ _ h1, a2 p h2])⟩
/-! CALLS by seeds: stand, outlasts, contest -/
def nS (h : Hp) (k : Nat) : Nat := if h 112 0 = -1 then 1 else k
theorem k_seeds {h g : Hp} {v k : Nat} (rs : SeaR h v) (f : TF h g) : g_X8_seedsThatDiffer (k : Int) g = some (nS h k : Int) := by
  have e := (tf_ps rs f).num.1.1
  unfold g_X8_seedsThatDiffer nS
  rw [tf_sea rs f]
  have d : g_X2_isDrawn v g = some (if h 112 0 = -1 then 0 else 1) := by
    unfold g_X2_isDrawn
    (rw [e_cI, e_rd _ _ _ _ _ (by omega), show (0 : Int).toNat = 0 from rfl, e, e_cI, e_join]; (try dsimp only))
    by_cases z : h 112 0 = -1
    · rw [b_pos z, e_cI, if_pos z]
      exact e_retZ0
    · rw [b_neg z, e_cI, if_neg z]
      exact e_retZ1
  (rw [d, e_cP, e_join]; (try dsimp only))
  by_cases z : h 112 0 = -1
  · rw [if_pos z, b_pos rfl, e_cI, if_pos z]
    rfl
  · rw [if_neg z, b_neg (by decide), if_neg z]
theorem nS_in {h : Hp} {k : Nat} (hk : 1 ≤ k ∧ k ≤ 9) : 1 ≤ nS h k ∧ nS h k ≤ 9 := by unfold nS; split <;> omega
def sumS (f : Nat → Int) (S : Nat) : Int := sumN (fun i => f (i + 1)) S
theorem sumS_in {f : Nat → Int} {U : Int} (hf : ∀ i, 0 ≤ f i ∧ f i ≤ U) : ∀ S : Nat, 0 ≤ sumS f S ∧ sumS f S ≤ S * U
  | 0 => by
    show (0 : Int) ≤ 0 ∧ (0 : Int) ≤ ((0 : Nat) : Int) * U
    rw [show ((0 : Nat) : Int) = 0 from rfl, Int.zero_mul]
    omega
  | S + 1 => by
    have ih := sumS_in hf S
    have := hf (S + 1)
    show 0 ≤ sumS f S + f (S + 1) ∧ sumS f S + f (S + 1) ≤ ((S + 1 : Nat) : Int) * U
    rw [show ((S + 1 : Nat) : Int) = (S : Int) + 1 by omega, Int.add_mul, Int.one_mul]
    omega
theorem sumS_const {f : Nat → Int} (hf : ∀ i, f i = f 1) : ∀ S : Nat, sumS f S = (S : Int) * f 1
  | 0 => by
    rw [show ((0 : Nat) : Int) = 0 from rfl, Int.zero_mul]
    rfl
  | S + 1 => by
    show sumS f S + f (S + 1) = ((S + 1 : Nat) : Int) * f 1
    rw [sumS_const hf S, hf (S + 1), show ((S + 1 : Nat) : Int) = (S : Int) + 1 by omega, Int.add_mul, Int.one_mul]
theorem sumS_congr {f g : Nat → Int} {S : Nat} (e : ∀ i, i < S → f (i + 1) = g (i + 1)) : sumS f S = sumS g S := sumN_congr e
/-- the first of the greatest; those with a mark are passed over -/
def ssP (st : Nat → Int) (F : Nat → Int) : Nat → Int × Int
  | 0 => (-1, -1)
  | c + 1 => if st c = 1 then ssP st F c else if (ssP st F c).2 < F c then ((c : Int), F c) else ssP st F c
theorem ss_done {st F : Nat → Int} {U : Int} (hf : ∀ x, F x ≤ U) {x : Nat} (h : U ≤ (ssP st F x).2) : ∀ j : Nat, ssP st F (x + j) = ssP st F x
  | 0 => rfl
  | j + 1 => by
    have ih := ss_done hf h j
    show (if st (x + j) = 1 then ssP st F (x + j) else if (ssP st F (x + j)).2 < F (x + j) then (((x + j : Nat) : Int), F (x + j)) else ssP st F (x + j)) = _
    have := hf (x + j)
    rw [ih]
    split
    · rfl
    · rw [if_neg (by omega)]
theorem ss_ge {st F : Nat → Int} (hf : ∀ x, 0 ≤ F x) : ∀ x, (ssP st F x).2 = -1 ∨ 0 ≤ (ssP st F x).2
  | 0 => Or.inl rfl
  | x + 1 => by
    have := ss_ge (st := st) hf x
    unfold ssP
    split
    · exact this
    · split
      · exact Or.inr (hf x)
      · exact this
theorem ss_scale {st F G : Nat → Int} {K : Int} (hK : 1 ≤ K) (hf : ∀ x, 0 ≤ F x) (e : ∀ x, G x = K * F x) : ∀ x, (ssP st G x).1 = (ssP st F x).1 ∧ (ssP st G x).2 = if (ssP st F x).2 = -1 then -1 else K * (ssP st F x).2
  | 0 => ⟨rfl, rfl⟩
  | x + 1 => by
    obtain ⟨i1, i2⟩ := ss_scale hK hf e (st := st) x
    have g := ss_ge (st := st) hf x
    have hx := hf x
    unfold ssP
    by_cases z : st x = 1
    · rw [if_pos z, if_pos z]; exact ⟨i1, i2⟩
    rw [if_neg z, if_neg z, i2, e x]
    have hx2 : 0 ≤ K * F x := Int.mul_nonneg (by omega) hx
    have iff : ((if (ssP st F x).2 = -1 then -1 else K * (ssP st F x).2) < K * F x) ↔ (ssP st F x).2 < F x := by
      by_cases y : (ssP st F x).2 = -1
      · rw [if_pos y]; omega
      · rw [if_neg y]
        constructor
        · intro a
          exact Int.lt_of_mul_lt_mul_left a (by omega)
        · intro a
          exact Int.mul_lt_mul_of_pos_left a (by omega)
    by_cases y : (ssP st F x).2 < F x
    · rw [if_pos (iff.mpr y), if_pos y]
      refine ⟨rfl, ?_⟩
      dsimp only
      rw [if_neg (by omega)]
    · rw [if_neg (fun a => y (iff.mp a)), if_neg y]
      exact ⟨i1, i2⟩
/-- without a tide all seeds go alike -/
theorem bg_seed {h : Hp} {p s1 s2 : Int} : Ag 288 (bg h p s1) (bg h p s2) := fun j hj => by
  unfold bg
  rw [upd1_ne _ _ _ _ (by omega), upd1_ne _ _ _ _ (by omega)]
theorem valP_seed {h : Hp} {n k M : Nat} {p s1 s2 : Int} {wk : Nat → Int} (r : Rel n h) (h0 : h 112 0 = -1) (hp : -1 ≤ p ∧ p < h 100 41) (hs : 0 ≤ s1 ∧ s1 < 2147483648) (hk : k < (h 100 12).toNat) : valP h k p s2 wk M = valP h k p s1 wk M := by
  have hv := r.1
  have hN := hv.n
  obtain ⟨-, q2⟩ := fc_in hv hk
  exact lastP_congr (fun m _ => ag_trS (by omega) hv (Or.inl h0) (iv_bg r hp hs) q2 bg_seed m _ (by omega))
/-! stand -/
def twR (s : Nat → Int) (c m : Nat) : Nat → Int := upd1 (upd1 (upd1 (upd1 s (256 + m) (c : Int)) (260 + m) (s c)) (264 + m) (-1)) 268 ((m : Int) + 1)
def upR (s : Nat → Int) (c : Nat) (n : Int) : Nat → Int := upd1 s c (s c + n)
def tw (s : Nat → Int) (c : Nat) (n : Int) (m : Nat) : Nat → Int := twR (upR s c n) c m
theorem ag_tw {a : Nat} {s t : Nat → Int} {c m : Nat} {n : Int} (ha : 275 ≤ a) (hc : c < 64) (h : Ag a s t) : Ag a (tw s c n m) (tw t c n m) := by
  unfold tw twR upR
  rw [upd1_same, upd1_same, h c (by omega)]
  exact h.u.u.u.u.u
theorem tw_c {s : Nat → Int} {c m : Nat} {n : Int} (hc : c < 64) : tw s c n m c = s c + n := by
  unfold tw twR upR
  simp (disch := omega) only [set2_same, set2_np, set2_nk, setRow_same, setRow_ne, upd1_same, upd1_ne, upd1_le, setRow_setRow, Int.toNat_natCast, tn_0, tn_64, tn_128, tn_192, tn_256, tn_260, tn_264, tn_276, tn_280, tn_284, Int.reduceToNat]
theorem tw_flag {s : Nat → Int} {c m : Nat} {n : Int} (hc : c < 64) (hm : m ≤ 3) : tw s c n m (256 + m) = (c : Int) ∧ tw s c n m (260 + m) = s c + n ∧ tw s c n m (264 + m) = -1 ∧ tw s c n m 268 = (m : Int) + 1 := by
  unfold tw twR upR
  refine ⟨?_, ?_, ?_, ?_⟩
  · simp (disch := omega) only [set2_same, set2_np, set2_nk, setRow_same, setRow_ne, upd1_same, upd1_ne, upd1_le, setRow_setRow, Int.toNat_natCast, tn_0, tn_64, tn_128, tn_192, tn_256, tn_260, tn_264, tn_276, tn_280, tn_284, Int.reduceToNat]
  · simp (disch := omega) only [set2_same, set2_np, set2_nk, setRow_same, setRow_ne, upd1_same, upd1_ne, upd1_le, setRow_setRow, Int.toNat_natCast, tn_0, tn_64, tn_128, tn_192, tn_256, tn_260, tn_264, tn_276, tn_280, tn_284, Int.reduceToNat]
  · simp (disch := omega) only [set2_same, set2_np, set2_nk, setRow_same, setRow_ne, upd1_same, upd1_ne, upd1_le, setRow_setRow, Int.toNat_natCast, tn_0, tn_64, tn_128, tn_192, tn_256, tn_260, tn_264, tn_276, tn_280, tn_284, Int.reduceToNat]
  · simp (disch := omega) only [set2_same, set2_np, set2_nk, setRow_same, setRow_ne, upd1_same, upd1_ne, upd1_le, setRow_setRow, Int.toNat_natCast, tn_0, tn_64, tn_128, tn_192, tn_256, tn_260, tn_264, tn_276, tn_280, tn_284, Int.reduceToNat]
theorem tw_far {s : Nat → Int} {c m j : Nat} {n : Int} (hj : j ≠ c) (h1 : j ≠ 256 + m) (h2 : j ≠ 260 + m) (h3 : j ≠ 264 + m) (h4 : j ≠ 268) : tw s c n m j = s j := by
  unfold tw twR upR
  rw [upd1_ne _ _ _ _ h4, upd1_ne _ _ _ _ h3, upd1_ne _ _ _ _ h2, upd1_ne _ _ _ _ h1, upd1_ne _ _ _ _ hj]
theorem iv_tw {P : Hp} {B T n : Int} {c m : Nat} {s : Nat → Int} (h : IV P B T s) (hv : PV P) (hB : B ≤ 10000) (hc : c < nN P) (hn : 0 ≤ n ∧ n ≤ 30) (hm : s 268 = (m : Int)) (hm3 : m ≤ 3) : IV P (B + n) T (tw s c n m) := by
  have hN := hv.n
  have hcb := h.le hc
  have hcn := h.nn hc
  obtain ⟨h1, ⟨h2, h2b⟩, ⟨h3, h4, h5⟩, h6, h7⟩ := h
  obtain ⟨t1, t2, t3, t4⟩ := tw_flag (s := s) (c := c) (m := m) (n := n) (by omega) hm3
  have tc := tw_c (s := s) (c := c) (m := m) (n := n) (by omega)
  have far := fun j a b d e f => tw_far (s := s) (c := c) (m := m) (n := n) (j := j) a b d e f
  refine ⟨fun j hj => ?_, ⟨?_, ?_⟩, ⟨?_, ?_, fun k hk => ?_⟩, HV.congr (s := s) h6 hv (fun j a b => far j (by omega) (by omega) (by omega) (by omega) (by omega)), ?_⟩
  · have := h1 j hj
    rw [far (64 + j) (by omega) (by omega) (by omega) (by omega) (by omega), far (128 + j) (by omega) (by omega) (by omega) (by omega) (by omega), far (192 + j) (by omega) (by omega) (by omega) (by omega) (by omega)]
    by_cases z : j = c
    · subst z
      rw [tc]
      exact ⟨by omega, this.2⟩
    · rw [far j z (by omega) (by omega) (by omega) (by omega)]
      exact this
  · rw [far 269 (by omega) (by omega) (by omega) (by omega) (by omega)]; exact h2
  · rw [far 269 (by omega) (by omega) (by omega) (by omega) (by omega)]
    have e : sumN (tw s c n m) (nN P) = sumN (upR s c n) (nN P) := by
      unfold tw twR
      rw [sumN_upd_out (by omega), sumN_upd_out (by omega), sumN_upd_out (by omega), sumN_upd_out (by omega)]
    rw [e]
    unfold upR
    rw [sumN_upd hc]
    omega
  · rw [far 270 (by omega) (by omega) (by omega) (by omega) (by omega)]; exact h3
  · rw [t4]; omega
  · rw [t4] at hk
    rw [far 270 (by omega) (by omega) (by omega) (by omega) (by omega)]
    by_cases z : k = m
    · subst z
      rw [t1, t2, t3]
      refine ⟨by omega, by omega, by omega, by omega⟩
    · have := h5 k (by omega)
      rw [far (256 + k) (by omega) (by omega) (by omega) (by omega) (by omega), far (260 + k) (by omega) (by omega) (by omega) (by omega) (by omega), far (264 + k) (by omega) (by omega) (by omega) (by omega) (by omega)]
      exact this
  · unfold KV
    rw [far 288 (by omega) (by omega) (by omega) (by omega) (by omega)]; exact h7
theorem RS.tower {P h : Hp} {b c m : Nat} {n : Int} {s : Nat → Int} (hv : PV P) (hH : HV P s) (hm : m = (P 100 12).toNat) (hc : c < nN P) (h0 : RS P h b s) : RS P (set2 (set2 h (b + 1) c (s c + n)) b 15 0) b (tw s c n m) := by
  have hN := hv.n
  have h12 := (pv_flags hv).1
  have hpl := pv_plan hv
  have far := fun j a b d e f => tw_far (s := s) (c := c) (m := m) (n := n) (j := j) a b d e f
  have tc := tw_c (s := s) (c := c) (m := m) (n := n) (by omega)
  obtain ⟨t1, t2, t3, t4⟩ := tw_flag (s := s) (c := c) (m := m) (n := n) (by omega) (by omega)
  obtain ⟨⟨a1, a2, a3, ⟨a4, a6⟩, a5⟩, -⟩ := h0
  refine ⟨⟨fun j hj => ?_, ?_, ⟨?_, fun j hj => ?_⟩, ⟨?_, ?_⟩, ?_⟩, Or.inl (set2_same _ _ _ _)⟩
  · rw [set2_np _ _ _ _ _ _ (by omega), set2_np _ _ _ _ _ _ (by omega), set2_np _ _ _ _ _ _ (by omega), set2_np _ _ _ _ _ _ (by omega), set2_np _ _ _ _ (b + 2) _ (by omega), set2_np _ _ _ _ (b + 3) _ (by omega), set2_np _ _ _ _ (b + 4) _ (by omega),
      far (64 + j) (by omega) (by omega) (by omega) (by omega) (by omega), far (128 + j) (by omega) (by omega) (by omega) (by omega) (by omega), far (192 + j) (by omega) (by omega) (by omega) (by omega) (by omega)]
    have := a1 j hj
    by_cases z : j = c
    · subst z
      rw [set2_same, tc]
      exact ⟨rfl, this.2⟩
    · rw [set2_nk _ _ _ _ _ _ z, far j z (by omega) (by omega) (by omega) (by omega)]
      exact this
  · rw [set2_nk _ _ _ _ _ _ (by omega), set2_nk _ _ _ _ _ _ (by omega), set2_nk _ _ _ _ _ _ (by omega), set2_nk _ _ _ _ _ _ (by omega), set2_nk _ _ _ _ _ _ (by omega), set2_nk _ _ _ _ _ _ (by omega), set2_np _ _ _ _ b 9 (by omega), set2_np _ _ _ _ b 10 (by omega), set2_np _ _ _ _ b 11 (by omega), set2_np _ _ _ _ b 12 (by omega), set2_np _ _ _ _ b 13 (by omega), set2_np _ _ _ _ b 14 (by omega),
      far 270 (by omega) (by omega) (by omega) (by omega) (by omega), far 269 (by omega) (by omega) (by omega) (by omega) (by omega), far 271 (by omega) (by omega) (by omega) (by omega) (by omega), far 272 (by omega) (by omega) (by omega) (by omega) (by omega), far 273 (by omega) (by omega) (by omega) (by omega) (by omega), far 274 (by omega) (by omega) (by omega) (by omega) (by omega)]
    exact a2
  · rw [t4]; omega
  · rw [set2_np _ _ _ _ _ _ (by omega), set2_np _ _ _ _ _ _ (by omega), far (264 + j) (by omega) (by omega) (by omega) (by omega) (by omega), far (256 + j) (by omega) (by omega) (by omega) (by omega) (by omega), far (260 + j) (by omega) (by omega) (by omega) (by omega) (by omega)]
    exact a3.2 j hj
  · rw [set2_nk _ _ _ _ _ _ (by omega), set2_np _ _ _ _ _ _ (by omega), far 275 (by omega) (by omega) (by omega) (by omega) (by omega)]; exact a4
  · unfold HR at a6 ⊢
    rw [far 275 (by omega) (by omega) (by omega) (by omega) (by omega)]
    intro q i hi
    have hi4 : i < 4 := by
      have h1 := hH.1
      have := (hpl.2 (s 275).toNat (by omega)).1
      omega
    rw [set2_np _ _ _ _ (b + 6) _ (by omega), set2_np _ _ _ _ (b + 6) _ (by omega), set2_np _ _ _ _ (b + 7) _ (by omega), set2_np _ _ _ _ (b + 7) _ (by omega), far (276 + i) (by omega) (by omega) (by omega) (by omega) (by omega), far (284 + i) (by omega) (by omega) (by omega) (by omega) (by omega), far (280 + i) (by omega) (by omega) (by omega) (by omega) (by omega)]
    exact a6 q i hi
  · rw [set2_nk _ _ _ _ _ _ (by omega), set2_np _ _ _ _ _ _ (by omega), far 288 (by omega) (by omega) (by omega) (by omega) (by omega)]; exact a5
def stV (h : Hp) (c : Nat) (n : Int) (M : Nat) (seed : Nat) : Int := lastP (trS h c (fun _ => -1) (tw (bg h (-1) (seed : Int)) c n (h 100 12).toNat)) c (h 121 c + n - h 102 4) M
theorem stV_in {h : Hp} {c M seed : Nat} {n : Int} : 0 ≤ stV h c n M seed ∧ stV h c n M seed ≤ (M : Int) := lastP_in
theorem bg_268 {h : Hp} {n : Nat} {p seed : Int} (r : Rel n h) : bg h p seed 268 = h 100 12 := by rw [bg_lo (by omega)]; exact r.2.2.2.2.1.2.2
theorem stV_seed {h : Hp} {N c M : Nat} {n : Int} (r : Rel N h) (h0 : h 112 0 = -1) (hc : c < nN h) (hn : 0 ≤ n ∧ n ≤ 30) (i : Nat) : stV h c n M i = stV h c n M 1 := by
  have hv := r.1
  have hN := hv.n
  have h12 := (pv_flags hv).1
  have h41 := (pv_plan hv).1
  have i0 := iv_tw (c := c) (n := n) (m := (h 100 12).toNat) (iv_bg r (p := -1) (seed := ((1 : Nat) : Int)) (by omega) (by omega)) hv (by omega) hc hn (by rw [bg_268 r]; omega) (by omega)
  exact lastP_congr (fun m _ => ag_trS (by omega) hv (Or.inl h0) i0 hc (ag_tw (by omega) (by omega) bg_seed) m _ (by omega))
theorem k_tower {h g : Hp} {N M c b v seed : Nat} {n : Int} (r : Rel N h) (hN : N ≤ 600) (rb : BchR h b) (rs : SeaR h v) (f : TF h g) (hs : seed ≤ 9) (hc : c < nN h) (hn : 1 ≤ n ∧ n ≤ 30) (hM : 1 ≤ M ∧ M ≤ 99) (K : Int → Hp → Option (Int × Hp)) :
    ∃ g', TF h g' ∧ (cV (g_X6_start 46 26 (-1) (seed : Int) g) fun h9 => cV (g_X3_heapUp 47 (c : Int) n h9) fun h10 => rdI h10 48 64 (c : Int) fun z11 => gR h10 0 1 [3, 9] fun q12 => cP (g_X0_fall q12 h10) fun z13 => subI z11 z13 fun z14 => cV (g_X6_watch 46 (c : Int) z14 h10) fun h15 =>
      gR h15 0 1 [3, 9] fun q16 => gR h15 0 3 [15, 20] fun q17 => cV (g_X6_run 46 q16 q17 (-1) (M : Int) h15) fun h18 => cI 0 fun z19 => rdI h18 55 2 z19 fun z20 => K z20 h18) = K (stV h c n M seed) g' := by
  have hv := r.1
  have hNn := hv.n
  have h12 := (pv_flags hv).1
  have h41 := (pv_plan hv).1
  have i0 := iv_bg r (p := -1) (seed := (seed : Int)) (by omega) (by omega)
  have i1 := iv_tw (c := c) (n := n) (m := (h 100 12).toNat) i0 hv (by omega) hc (by omega) (by rw [bg_268 r]; omega) (by omega)
  obtain ⟨g1, a1, a2, a3, a4, a5⟩ := tf_start (p := -1) (seed := (seed : Int)) r f (by omega) (by omega)
  have e48 : g1 48 c = h 121 c := by rw [(a3.1.1 c hc).1, bg_lo (by omega)]
  have hcb := i0.le hc
  have hcn := i0.nn hc
  rw [bg_lo (by omega)] at hcb hcn
  have hfall : 0 ≤ h 102 4 ∧ h 102 4 ≤ 20 := by
    obtain ⟨-, -, -, -, -, -, s5, -⟩ := hv
    exact s5
  have t3 := a3.tower (c := c) (n := n) (m := (h 100 12).toNat) hv i0.2.2.2.1 rfl hc
  rw [bg_lo (by omega)] at t3
  have eh : g_X3_heapUp 47 (c : Int) n g1 = some (set2 (set2 g1 (47 + 1) c (h 121 c + n)) 47 15 0) := by
    unfold g_X3_heapUp
    (rw [k_isPlace_t (by omega), e_cP, e_join]; (try dsimp only); rw [b_neg (by decide), e_rdn _ _ _ _ _ (by omega), show 47 + 1 = 48 from rfl, e48, e_add _ _ _ (by omega), e_wrn _ _ _ _ _ _ (by omega), e_cI, e_pZ _ _ _ _ _ (by omega)])
  have f2 : TF h (set2 (set2 g1 (47 + 1) c (h 121 c + n)) 47 15 0) := fun p hp => by rw [set2_ne p (by omega), set2_ne p (by omega), a2 p hp]
  have v48 : set2 (set2 g1 (47 + 1) c (h 121 c + n)) 47 15 0 48 c = h 121 c + n := by rw [set2_np _ _ _ _ _ _ (by omega), show 47 + 1 = 48 from rfl, set2_same]
  have v5 : set2 (set2 g1 (47 + 1) c (h 121 c + n)) 47 15 0 46 5 = ((0 : Nat) : Int) := by rw [set2_np _ _ _ _ _ _ (by omega), set2_np _ _ _ _ _ _ (by omega), a4]; rfl
  have v58 : ∀ m, m < 99 → set2 (set2 g1 (47 + 1) c (h 121 c + n)) 47 15 0 58 m = -1 := fun m hm => by rw [set2_np _ _ _ _ _ _ (by omega), set2_np _ _ _ _ _ _ (by omega), a5 m hm]
  rw [a1, e_cV, eh, e_cV]
  generalize set2 (set2 g1 (47 + 1) c (h 121 c + n)) 47 15 0 = g2 at t3 f2 v48 v5 v58
  have w1 := k_watch (W := 0) (x := (c : Int)) (fl := h 121 c + n - h 102 4) (by omega) v5
  rw [e_rdn _ _ _ _ _ (by omega), v48, tf_beach rb f2, k_fall (tf_pb rb f2), e_cP, e_sub _ _ _ (by omega), w1, e_cV]
  have f3 : TF h (set2 (set2 (set2 g2 56 0 (c : Int)) 57 0 (h 121 c + n - h 102 4)) 46 5 (((0 : Nat) : Int) + 1)) := fun p hp => by rw [set2_ne p (by omega), set2_ne p (by omega), set2_ne p (by omega), f2 p hp]
  obtain ⟨g', u1, u2, -, u4⟩ := k_run (c := b) (v := v) (W := 1) (n := M) (x := c) (cs := fun _ => c) (fl := fun _ => h 121 c + n - h 102 4) hv (tf_pb rb f3) rb.1 (tf_ps rs f3) rs.1 (tf_pl hv r.2.2.2.1 f3) (by omega) (by omega) i1 (t3.fr (fun p _ _ => by rw [set2_ne p (by omega), set2_ne p (by omega), set2_ne p (by omega)])) (by omega) (by rw [set2_same]; rfl)
    (fun w hw => (by rw [show w = 0 by omega, set2_np _ _ _ _ _ _ (by omega), set2_np _ _ _ _ _ _ (by omega), set2_same]; exact ⟨rfl, hc⟩)) (fun w hw => (by rw [show w = 0 by omega, set2_np _ _ _ _ _ _ (by omega), set2_same])) hc (fun _ => rfl)
    (fun m hm => Or.inl (by rw [set2_np _ _ _ _ _ _ (by omega), set2_np _ _ _ _ _ _ (by omega), set2_np _ _ _ _ _ _ (by omega), v58 m hm])) hM
  have e275 : tw (bg h (-1) (seed : Int)) c n (h 100 12).toNat 275 = -1 := by rw [tw_far (by omega) (by omega) (by omega) (by omega) (by omega), bg_275]
  rw [e275, show planRef (-1) = -1 from rfl] at u1
  refine ⟨g', fun p hp => by rw [u2 p (by omega), f3 p hp], ?_⟩
  rw [tf_beach rb f3, tf_sea rs f3, u1, e_cV, e_cI, e_rd _ _ _ _ _ (by omega), show (0 : Int).toNat = 0 from rfl, u4 0 (by omega)]
  congr 1
  exact lastP_congr (fun m hm => by rw [trS_congr m (fun j hj => by rw [set2_np _ _ _ _ _ _ (by omega), set2_np _ _ _ _ _ _ (by omega), set2_np _ _ _ _ _ _ (by omega), v58 j (by omega)])])
theorem k_sumOfTower {h g : Hp} {N M c b v S : Nat} {n : Int} (r : Rel N h) (hN : N ≤ 600) (rb : BchR h b) (rs : SeaR h v) (f : TF h g) (hS : S ≤ 9) (hc : c < nN h) (hn : 1 ≤ n ∧ n ≤ 30) (hM : 1 ≤ M ∧ M ≤ 99) :
    ∃ g', g_X8_sumOfTower (c : Int) n (S : Int) (M : Int) g = some (sumS (stV h c n M) S, g') ∧ TF h g' := by
  have key : ∃ rr : Int × Hp, g_X8_sumOfTower (c : Int) n (S : Int) (M : Int) g = some rr ∧ (rr.1 = sumS (stV h c n M) S ∧ TF h rr.2) := by
    unfold g_X8_sumOfTower
    rw [e_cI, e_cI]
    refine loopF_ex S (fun i (q : Int × Int × Hp) => q.1 = sumS (stV h c n M) i ∧ q.2.1 = (i : Int) + 1 ∧ TF h q.2.2) ?_ ?_ FU 0 _ (Nat.zero_le _) (fu _ (by omega)) ⟨rfl, rfl, f⟩
    · rintro i ⟨y1, y2, g1⟩ hi ⟨e1, e2, hg⟩ self
      dsimp only at e1 e2 hg
      subst e1 e2
      left
      have hb := sumS_in (f := stV h c n M) (U := (M : Int)) (fun i => stV_in) i
      have hb2 : (i : Int) * (M : Int) ≤ 9 * 99 := Int.mul_le_mul (by omega) (by omega) (by omega) (by omega)
      have hv1 := stV_in (h := h) (c := c) (n := n) (M := M) (seed := i + 1)
      obtain ⟨g', u1, u2⟩ := k_tower (seed := i + 1) r hN rb rs hg (by omega) hc hn hM (fun z20 h18 => addI (sumS (stV h c n M) i) z20 fun z21 => addI ((i : Int) + 1) 1 fun z22 => self (z21, z22, h18))
      unfold g_X8_sumOfTower_l4
      dsimp only
      rw [show ((i + 1 : Nat) : Int) = (i : Int) + 1 by omega] at u2
      rw [b_neg (by omega), e_cI, u2, e_add _ _ _ (by omega), e_add _ _ _ (by omega)]
      exact ⟨_, ⟨rfl, by (try dsimp only); omega, u1⟩, rfl⟩
    · rintro ⟨y1, y2, g1⟩ ⟨e1, e2, hg⟩ self
      dsimp only at e1 e2 hg
      subst e1 e2
      unfold g_X8_sumOfTower_l4
      dsimp only
      rw [b_pos (by omega)]
      exact ⟨_, rfl, rfl, hg⟩
  obtain ⟨⟨z, g'⟩, a, b, d⟩ := key
  exact ⟨g', by rw [a]; dsimp only at b; rw [b], d⟩
def stC (h : Hp) (n : Int) (M S : Nat) (c : Nat) : Int := sumS (stV h c n M) S
theorem stC_in {h : Hp} {M S c : Nat} {n : Int} : 0 ≤ stC h n M S c ∧ stC h n M S c ≤ (S : Int) * (M : Int) := sumS_in (fun _ => stV_in) S
theorem k_stand {h : Hp} {N M b v k : Nat} {n : Int} (r : Rel N h) (hN : N ≤ 600) (rb : BchR h b) (rs : SeaR h v) (hk : 1 ≤ k ∧ k ≤ 9) (hn : 1 ≤ n ∧ n ≤ 30) (hM : 1 ≤ M ∧ M ≤ 99) :
    ∃ g, g_X8_stand n (k : Int) (M : Int) h = some ((ssP (fun c => h 121 (192 + c)) (stC h n M (nS h k)) (nN h)).1, g) ∧ TF h g := by
  have hv := r.1
  have hNn := hv.n
  have r4 := r.2.2.2.2.1
  have hS := nS_in (h := h) hk
  have key : ∃ rr : Int × Hp, g_X8_stand n (k : Int) (M : Int) h = some rr ∧ (rr.1 = (ssP (fun c => h 121 (192 + c)) (stC h n M (nS h k)) (nN h)).1 ∧ TF h rr.2) := by
    unfold g_X8_stand
    (rw [e_cI, e_join]; (try dsimp only); rw [b_neg (by omega), e_cI, b_neg (by omega), k_isSeeds_t (by unfold okSeeds; omega), e_cP, b_neg (by decide), k_isSpan_t (by unfold okSpan; omega), e_cP, b_neg (by decide), k_seeds rs TF.rf, e_cP, e_cI, e_cI, e_cI])
    generalize nS h k = S at hS
    refine join_ex (fun j13 hj13 => ?_)
    have fin : ∀ (x : Int) (g : Hp), x = (ssP (fun c => h 121 (192 + c)) (stC h n M S) (nN h)).1 → TF h g → ∃ rr : Int × Hp, j13 (x, g) = some rr ∧ (rr.1 = (ssP (fun c => h 121 (192 + c)) (stC h n M S) (nN h)).1 ∧ TF h rr.2) := fun x g hx hg => by
      rw [hj13]
      exact ⟨_, rfl, hx, hg⟩
    refine loopF_ex (nN h) (fun i (q : Int × Int × Int × Hp) => (q.1 = (ssP (fun c => h 121 (192 + c)) (stC h n M S) i).1 ∧ q.2.1 = (ssP (fun c => h 121 (192 + c)) (stC h n M S) i).2 ∧ q.2.2.1 = (i : Int)) ∧ TF h q.2.2.2) ?_ ?_ FU 0 _ (Nat.zero_le _) (fu _ (by omega)) ⟨⟨rfl, rfl, rfl⟩, TF.rf⟩
    · rintro i ⟨y1, y2, y3, g⟩ hi ⟨⟨e1, e2, e3⟩, hg⟩ self
      dsimp only at e1 e2 e3 hg
      subst e1 e2 e3
      have hSM : (S : Int) * (M : Int) ≤ 9 * 99 := Int.mul_le_mul (by omega) (by omega) (by omega) (by omega)
      have hSM0 : 0 ≤ (S : Int) * (M : Int) := Int.mul_nonneg (by omega) (by omega)
      unfold g_X8_stand_l17
      dsimp only
      rw [tf_beach rb hg, k_cells (tf_pb rb hg) hv, e_cP, b_neg (by omega), e_mul _ _ _ (by omega)]
      by_cases stop : (S : Int) * (M : Int) ≤ (ssP (fun c => h 121 (192 + c)) (stC h n M S) i).2
      · right
        rw [b_pos stop]
        have := ss_done (st := fun c => h 121 (192 + c)) (F := stC h n M S) (fun x => stC_in.2) stop (nN h - i)
        rw [show i + (nN h - i) = nN h by omega] at this
        exact fin _ g (by rw [this]) hg
      left
      have est : g 30 i = h 121 (192 + i) := by rw [hg 30 (by omega)]; exact (r4.2.1.1.1 i hi).2.2.2
      have hst := (r4.1.1 i hi).2.2.2
      rw [b_neg stop, e_rdn _ _ _ _ _ (by omega), est]
      rw [show ssP (fun c => h 121 (192 + c)) (stC h n M S) (i + 1) = if h 121 (192 + i) = 1 then ssP (fun c => h 121 (192 + c)) (stC h n M S) i else if (ssP (fun c => h 121 (192 + c)) (stC h n M S) i).2 < stC h n M S i then ((i : Int), stC h n M S i) else ssP (fun c => h 121 (192 + c)) (stC h n M S) i from rfl]
      refine join_exr (fun j27 hj27 => ?_)
      by_cases z : h 121 (192 + i) = 0
      · obtain ⟨g', u1, u2⟩ := k_sumOfTower (S := S) (c := i) r hN rb rs hg (by omega) hi hn hM
        rw [b_pos z, u1, e_cW, if_neg (show ¬ h 121 (192 + i) = 1 by omega)]
        rw [show sumS (stV h i n M) S = stC h n M S i from rfl]
        by_cases y : stC h n M S i ≤ (ssP (fun c => h 121 (192 + c)) (stC h n M S) i).2
        · rw [b_pos y, hj27, e_add _ _ _ (by omega), if_neg (show ¬ (ssP (fun c => h 121 (192 + c)) (stC h n M S) i).2 < stC h n M S i by omega)]
          refine ⟨_, ?_, rfl⟩
          exact ⟨⟨rfl, rfl, by (try dsimp only); omega⟩, u2⟩
        · rw [b_neg y, hj27, e_add _ _ _ (by omega), if_pos (show (ssP (fun c => h 121 (192 + c)) (stC h n M S) i).2 < stC h n M S i by omega)]
          refine ⟨_, ?_, rfl⟩
          exact ⟨⟨rfl, rfl, by (try dsimp only); omega⟩, u2⟩
      · rw [b_neg z, hj27, e_add _ _ _ (by omega), if_pos (show h 121 (192 + i) = 1 by omega)]
        refine ⟨_, ?_, rfl⟩
        exact ⟨⟨rfl, rfl, by (try dsimp only); omega⟩, hg⟩
    · rintro ⟨y1, y2, y3, g⟩ ⟨⟨e1, e2, e3⟩, hg⟩ self
      dsimp only at e1 e2 e3 hg
      subst e1 e2 e3
      unfold g_X8_stand_l17
      dsimp only
      rw [tf_beach rb hg, k_cells (tf_pb rb hg) hv, e_cP, b_pos (by omega)]
      exact fin _ g rfl hg
  obtain ⟨⟨z, g⟩, a, b, d⟩ := key
  exact ⟨g, by rw [a]; dsimp only at b; rw [b], d⟩
theorem m_putFlag {g : Hp} {c m : Nat} {s : Nat → Int} (hc : c < 64) (hm : m ≤ 3) (e : s 268 = (m : Int)) : g_X9_putFlag 122 (c : Int) (setRow g 122 s) = some (setRow g 122 (twR s c m)) := by
  unfold g_X9_putFlag
  rw [e_cI, e_rd _ _ _ _ _ (by omega), setRow_same, show (268 : Int).toNat = 268 from rfl, e, e_cI, e_add _ _ _ (by omega), e_wrR _ _ _ _ _ _ (by omega), setRow_same, setRow_setRow, show ((256 : Int) + (m : Int)).toNat = 256 + m by omega, e_cI, e_add _ _ _ (by omega), e_cI, e_add _ _ _ (by omega), e_rd _ _ _ _ _ (by omega), setRow_same, show ((0 : Int) + (c : Int)).toNat = c by omega, upd1_ne _ _ _ _ (by omega), e_wrR _ _ _ _ _ _ (by omega), setRow_same, setRow_setRow, show ((260 : Int) + (m : Int)).toNat = 260 + m by omega, e_cI, e_add _ _ _ (by omega), e_cI, e_wrR _ _ _ _ _ _ (by omega), setRow_same, setRow_setRow, show ((264 : Int) + (m : Int)).toNat = 264 + m by omega, e_cI, e_rd _ _ _ _ _ (by omega), setRow_same, show (268 : Int).toNat = 268 from rfl, upd1_ne _ _ _ _ (by omega), upd1_ne _ _ _ _ (by omega), upd1_ne _ _ _ _ (by omega), e, e_cI, e_add _ _ _ (by omega), e_wrR _ _ _ _ _ _ (by omega), setRow_same, setRow_setRow]
  rfl
theorem m_tower {h g : Hp} {N M c seed : Nat} {n : Int} (r : Rel N h) (hN : N ≤ 600) (f : ∀ p, p ≠ 122 → (p < 46 ∨ 58 < p) → g p = h p) (hs : seed ≤ 9) (hc : c < nN h) (hn : 1 ≤ n ∧ n ≤ 30) (hM : 1 ≤ M ∧ M ≤ 99) (J : Hp → Option (Int × Hp)) (K : Int → Option (Int × Hp)) :
    ∃ s, (cV (g_X9_beginTrial (-1) (seed : Int) g) fun h44 => cI 0 fun z45 => addI z45 (c : Int) fun z46 => rdI h44 122 289 z46 fun z47 => addI z47 n fun z48 => wrI h44 122 289 z46 z48 fun h49 => cV (g_X9_putFlag 122 (c : Int) h49) fun h50 => cI 0 fun z51 => loopF (g_X9_stand_l60 J (M : Int)) FU (z51, h50)) = J (setRow g 122 s) ∧
      (gF (setRow g 122 s) 100 12 fun z55 => cP (g_X9_lastOf z55 (M : Int) (setRow g 122 s)) K) = K (stV h c n M seed) := by
  have hv := r.1
  have hNn := hv.n
  have h12 := (pv_flags hv).1
  have h41 := (pv_plan hv).1
  have e121 : g 121 = h 121 := f 121 (by omega) (by omega)
  have hpm : PM h g := fun p hp => f p (by omega) (by omega)
  have i0 := iv_bg r (p := -1) (seed := (seed : Int)) (by omega) (by omega)
  have iM := ag_iv i0 hv (bgM_ag (g := g))
  have lo : ∀ j, j < 275 → bgM h g (-1) (seed : Int) j = h 121 j := fun j hj => by rw [bgM_ag j (by omega), bg_lo hj]
  have e268 : bgM h g (-1) (seed : Int) 268 = (((h 100 12).toNat : Nat) : Int) := by rw [lo 268 (by omega), r.2.2.2.2.1.2.2]; omega
  have i1 := iv_tw (c := c) (n := n) (m := (h 100 12).toNat) iM hv (by omega) hc (by omega) e268 (by omega)
  have i1b := iv_tw (c := c) (n := n) (m := (h 100 12).toNat) i0 hv (by omega) hc (by omega) (by rw [bg_268 r]; omega) (by omega)
  have hcb := iM.le hc
  have hcn := iM.nn hc
  obtain ⟨t1, t2, t3, t4⟩ := tw_flag (s := bgM h g (-1) (seed : Int)) (c := c) (m := (h 100 12).toNat) (n := n) (by omega) (by omega)
  have agM := fun m => ag_trS (x := c) (wk := fun _ => -1) (by omega) hv (Or.inr (Nat.le_refl _)) i1b hc (ag_tw (a := 289) (c := c) (n := n) (m := (h 100 12).toNat) (by omega) (by omega) (bgM_ag (h := h) (g := g) (p := -1) (seed := (seed : Int)))) m
  refine ⟨trS h c (fun _ => -1) (tw (bgM h g (-1) (seed : Int)) c n (h 100 12).toNat) M, ?_, ?_⟩
  · rw [m_begin e121, e_cV, e_cI, e_add _ _ _ (by omega), e_rd _ _ _ _ _ (by omega), setRow_same, show ((0 : Int) + (c : Int)).toNat = c by omega, e_add _ _ _ (by omega), e_wrR _ _ _ _ _ _ (by omega), setRow_same, setRow_setRow, show ((0 : Int) + (c : Int)).toNat = c by omega, m_putFlag (m := (h 100 12).toNat) (by omega) (by omega) (by rw [upd1_ne _ _ _ _ (by omega)]; exact e268), e_cV, e_cI]
    refine loopF_for' M (fun i => ((i : Int), setRow g 122 (trS h c (fun _ => -1) (tw (bgM h g (-1) (seed : Int)) c n (h 100 12).toNat) i))) ?_ ?_ rfl (fu _ (by omega))
    · intro i hi self
      unfold g_X9_stand_l60
      dsimp only
      rw [b_neg (by omega), m_minute hpm hv (by omega) (by omega) (by omega) (iv_trS i1 hv hc i), e_cV, e_add _ _ _ (by omega), show ((i + 1 : Nat) : Int) = (i : Int) + 1 by omega]
      show _ = self (_, setRow g 122 (minuteP h (workP h c (-1) (trS h c (fun _ => -1) (tw (bgM h g (-1) (seed : Int)) c n (h 100 12).toNat) i))))
      rw [workP_no]
    · intro self
      unfold g_X9_stand_l60
      dsimp only
      rw [b_pos (by omega)]
  · have iZ := iv_trS (x := c) (wk := fun _ => -1) i1 hv hc M
    have f1 := iZ.2.2.1
    have m1 := trS_far (x := c) (wk := fun _ => -1) (j := 268) i1 hv hc (by omega) M
    have fk := (f1.2.2 (h 100 12).toNat (by rw [m1, t4]; omega)).2.2
    have h270 := r.2.2.2.2.1.1.2.2.1.1
    rw [e_gF, setRow_ne _ _ _ _ (by omega), hpm 100 (by omega), show h 100 12 = (((h 100 12).toNat : Nat) : Int) by omega, m_lastOf (T := 360 * (N : Int)) (by omega) ⟨by rw [Int.toNat_natCast]; exact fk.1, by rw [Int.toNat_natCast]; have := f1.1; omega⟩ (by rw [e121]; exact h270) (by omega), e_cP, e121]
    rw [Int.toNat_natCast]
    have := last_eq (wk := fun _ => -1) (n := M) (k := (h 100 12).toNat) hv i1 hc (by omega) (by rw [t4]; omega) t1 (fl := h 121 c + n - h 102 4) (by rw [if_pos t3, t2, lo c (by omega)]) hM.1
    rw [tw_far (j := 270) (by omega) (by omega) (by omega) (by omega) (by omega), lo 270 (by omega)] at this
    rw [this]
    congr 1
    exact lastP_congr (fun m hm => agM m _ (by omega))
