/-! CALLS: spill and join -/
def spTo (f : Nat → Int) (k : Nat) : Nat := if k = 0 then 1 else if k = 8 then 7 else if f (k - 1) ≤ f (k + 1) then k - 1 else k + 1
def spGo (f : Nat → Int) (k t : Nat) : Nat → Int := upd1 (upd1 f k (f k - 1)) t (f t + 1)
def spC (H : Int) (q : Int × (Nat → Int)) (k : Nat) : Int × (Nat → Int) :=
  if q.2 k - q.2 (spTo q.2 k) ≤ H then q else (1, spGo q.2 k (spTo q.2 k))
def spR (H : Int) (f : Nat → Int) : Nat → Int × (Nat → Int)
  | 0 => (0, f)
  | k + 1 => spC H (spR H f k) k
def spN (H : Int) : Nat → (Nat → Int) → (Nat → Int)
  | 0, f => f
  | n + 1, f => if (spR H f 9).1 = 0 then (spR H f 9).2 else spN H n (spR H f 9).2
def SpV (f : Nat → Int) : Prop := (∀ i, i < 9 → 0 ≤ f i) ∧ sumN f 9 ≤ 60
def spM (f : Nat → Int) : Int := sumN (fun i => f i * f i) 9
theorem spTo_in {f : Nat → Int} {k : Nat} (hk : k < 9) : spTo f k < 9 ∧ spTo f k ≠ k := by
  unfold spTo
  split
  · omega
  · split
    · omega
    · split <;> omega
theorem SpV.le {f : Nat → Int} (h : SpV f) {i : Nat} (hi : i < 9) : 0 ≤ f i ∧ f i ≤ 60 := by
  have h1 := sumN_ge (f := f) (n := 9) h.1 hi
  have h2 := h.1 i hi
  have h3 := h.2
  omega
theorem sq_upd {f : Nat → Int} {k : Nat} {x : Int} : (fun i => upd1 f k x i * upd1 f k x i) = upd1 (fun i => f i * f i) k (x * x) := by
  funext i
  unfold upd1
  try dsimp only
  split <;> rfl
theorem spGo_v {f : Nat → Int} {k t : Nat} (h : SpV f) (hk : k < 9) (ht : t < 9) (hkt : t ≠ k) (hd : 2 ≤ f k - f t) : SpV (spGo f k t) ∧ spM (spGo f k t) ≤ spM f - 2 := by
  have a := h.1 k hk
  have b := h.1 t ht
  unfold spGo
  have e1 : upd1 f k (f k - 1) t = f t := upd1_ne _ _ _ _ hkt
  refine ⟨⟨fun i hi => ?_, ?_⟩, ?_⟩
  · have := h.1 i hi
    unfold upd1
    try dsimp only
    split
    · omega
    · split <;> omega
  · rw [sumN_upd ht, sumN_upd hk, e1]
    have := h.2
    omega
  · unfold spM
    rw [sq_upd, sumN_upd ht, sq_upd, sumN_upd hk]
    try dsimp only
    have e3 : (f k - 1) * (f k - 1) = f k * f k - 2 * f k + 1 := by rw [Int.sub_mul, Int.mul_sub]; omega
    have e4 : (f t + 1) * (f t + 1) = f t * f t + 2 * f t + 1 := by rw [Int.add_mul, Int.mul_add]; omega
    rw [e1, e3, e4]
    omega
theorem spR_v {H : Int} {f : Nat → Int} (hH : 1 ≤ H) (h : SpV f) : ∀ k, k ≤ 9 → SpV (spR H f k).2 ∧ (((spR H f k).1 = 0 ∧ (spR H f k).2 = f) ∨ ((spR H f k).1 = 1 ∧ spM (spR H f k).2 ≤ spM f - 2))
  | 0, _ => ⟨h, Or.inl ⟨rfl, rfl⟩⟩
  | k + 1, hk => by
    obtain ⟨i1, i2⟩ := spR_v hH h k (by omega)
    show SpV (spC H (spR H f k) k).2 ∧ (((spC H (spR H f k) k).1 = 0 ∧ (spC H (spR H f k) k).2 = f) ∨ ((spC H (spR H f k) k).1 = 1 ∧ spM (spC H (spR H f k) k).2 ≤ spM f - 2))
    unfold spC
    generalize spR H f k = q at i1 i2
    split
    · exact ⟨i1, i2⟩
    · obtain ⟨t1, t2⟩ := spTo_in (f := q.2) (k := k) (by omega)
      obtain ⟨g1, g2⟩ := spGo_v i1 (by omega) t1 t2 (by omega)
      refine ⟨g1, Or.inr ⟨rfl, ?_⟩⟩
      dsimp only
      rcases i2 with ⟨_, i2⟩ | ⟨_, i2⟩
      · rw [i2] at g2 ⊢; exact g2
      · omega
theorem spM_nn {f : Nat → Int} : 0 ≤ spM f := sumN_nonneg (fun i _ => by
  rcases Int.le_total 0 (f i) with q | q
  · exact Int.mul_nonneg q q
  · exact Int.mul_nonneg_of_nonpos_of_nonpos q q)
theorem k_spTo {h : Hp} {q : Nat} {f : Nat → Int} {k : Nat} (hk : k < 9) (hq : q = 60) : g_X4_lowestBeside 59 (k : Int) (setRow h q f) = some (spTo f k : Int) := by
  subst hq
  unfold g_X4_lowestBeside spTo
  by_cases z : k = 0
  · rw [b_neg (by omega), e_cI, if_pos z]; rfl
  rw [b_pos (by omega), e_cI, if_neg z]
  by_cases z8 : k = 8
  · rw [b_neg (by omega), e_cI, if_pos z8]; rfl
  (rw [b_pos (by omega), e_cI, e_add _ _ _ (by omega), if_neg z8, show (k : Int) + 1 = ((k + 1 : Nat) : Int) by omega, e_rdn _ _ _ _ _ (by omega), e_cI, e_sub _ _ _ (by omega), show (k : Int) - 1 = ((k - 1 : Nat) : Int) by omega, e_rdn _ _ _ _ _ (by omega), show 59 + 1 = 60 from rfl, setRow_same, e_join]; (try dsimp only))
  by_cases c : f (k - 1) ≤ f (k + 1)
  · rw [b_pos c, e_cI, e_sub _ _ _ (by omega), if_pos c, show (k : Int) - 1 = ((k - 1 : Nat) : Int) by omega]
  · rw [b_neg c, e_cI, e_add _ _ _ (by omega), if_neg c, show (k : Int) + 1 = ((k + 1 : Nat) : Int) by omega]
theorem k_spRound {h : Hp} {H : Int} {f : Nat → Int} {j19 : Int × Hp → Option Hp} (hH : 1 ≤ H) (hf : SpV f) : loopF (g_X4_settle_l24 59 j19 H) FU (0, 0, setRow h 60 f) = j19 ((spR H f 9).1, setRow h 60 (spR H f 9).2) := by
  refine loopF_for' 9 (fun k => ((spR H f k).1, (k : Int), setRow h 60 (spR H f k).2)) ?_ ?_ rfl (fu _ (by omega))
  · intro k hk self
    obtain ⟨v, -⟩ := spR_v hH hf k (by omega)
    unfold g_X4_settle_l24
    dsimp only
    rw [show spR H f (k + 1) = spC H (spR H f k) k from rfl]
    generalize spR H f k = q at v
    obtain ⟨t1, t2⟩ := spTo_in (f := q.2) (k := k) hk
    have a := v.le hk
    have b := v.le t1
    rw [e_cI, b_neg (by omega), k_spTo hk rfl, e_cP, show 59 + 1 = 60 from rfl, e_rdn _ _ _ _ _ hk, e_rdn _ _ _ _ _ t1, setRow_same, e_sub _ _ _ (by omega)]
    refine join_gen (fun j34 hj34 => ?_)
    unfold spC
    by_cases z : q.2 k - q.2 (spTo q.2 k) ≤ H
    · rw [b_pos z, hj34, e_add _ _ _ (by omega), if_pos z, show ((k + 1 : Nat) : Int) = (k : Int) + 1 by omega]
    · rw [b_neg z, e_rdn _ _ _ _ _ hk, setRow_same, e_cI, e_sub _ _ _ (by omega), e_wrR _ _ _ _ _ _ (by omega), setRow_same, setRow_setRow, Int.toNat_natCast, e_rdn _ _ _ _ _ t1, setRow_same, upd1_ne _ _ _ _ t2, e_cI, e_add _ _ _ (by omega), e_wrR _ _ _ _ _ _ (by omega), setRow_same, setRow_setRow, Int.toNat_natCast, e_cI, hj34, e_add _ _ _ (by omega), if_neg z, show ((k + 1 : Nat) : Int) = (k : Int) + 1 by omega]
      rfl
  · intro self
    unfold g_X4_settle_l24
    dsimp only
    rw [e_cI, b_pos (by omega)]
theorem k_spRounds {h : Hp} {H : Int} {j8 : Hp → Option Hp} (hH : 1 ≤ H) : ∀ (n : Nat) (f : Nat → Int) (r F : Nat), SpV f → spM f < 2 * (n : Int) → r + n < 2000 → n + 1 < F → loopF (g_X4_settle_l11 59 j8 H) F (1, (r : Int), setRow h 60 f) = j8 (setRow h 60 (spN H n f)) := by
  intro n
  induction n with
  | zero => intro f r F _ hm; have := spM_nn (f := f); omega
  | succ n ih =>
    intro f r F hv hm hr hF
    obtain ⟨F, rfl⟩ : ∃ g, F = g + 1 := ⟨F - 1, by omega⟩
    obtain ⟨v, e⟩ := spR_v hH hv 9 (by omega)
    have nx := fun (g : Nat → Int) h1 h2 => ih g (r + 1) F h1 h2 (by omega) (by omega)
    have stop : ∀ g : Nat → Int, loopF (g_X4_settle_l11 59 j8 H) F (0, ((r + 1 : Nat) : Int), setRow h 60 g) = j8 (setRow h 60 g) := by
      intro g
      obtain ⟨F, rfl⟩ : ∃ g, F = g + 1 := ⟨F - 1, by omega⟩
      show g_X4_settle_l11 59 j8 H (loopF _ F) (0, ((r + 1 : Nat) : Int), setRow h 60 g) = _
      unfold g_X4_settle_l11
      dsimp only
      rw [e_cI, b_neg (by omega), b_pos rfl]
    show g_X4_settle_l11 59 j8 H (loopF _ F) (1, (r : Int), setRow h 60 f) = _
    generalize loopF (g_X4_settle_l11 59 j8 H) F = self at nx stop
    unfold g_X4_settle_l11
    dsimp only
    rw [e_cI, b_neg (by omega), b_neg (by decide), e_cI, e_cI]
    refine join_gen (fun j19 hj19 => ?_)
    rw [k_spRound hH hv, hj19]
    try dsimp only
    rw [e_add _ _ _ (by omega), show (r : Int) + 1 = ((r + 1 : Nat) : Int) by omega]
    unfold spN
    rcases e with ⟨e1, e2⟩ | ⟨e1, e2⟩
    · rw [e1, if_pos rfl]
      exact stop _
    · rw [e1, if_neg (by decide)]
      exact nx _ v (by omega)
theorem m_spRound {h : Hp} {H : Int} {f : Nat → Int} {j27 : Int × Hp → Option (Int × Hp)} (hH : 1 ≤ H) (hf : SpV f) : loopF (g_X9_spill_l31 j27 H) FU (0, 0, setRow h 125 f) = j27 ((spR H f 9).1, setRow h 125 (spR H f 9).2) := by
  refine loopF_for' 9 (fun k => ((spR H f k).1, (k : Int), setRow h 125 (spR H f k).2)) ?_ ?_ rfl (fu _ (by omega))
  · intro k hk self
    obtain ⟨v, -⟩ := spR_v hH hf k (by omega)
    unfold g_X9_spill_l31
    dsimp only
    rw [show spR H f (k + 1) = spC H (spR H f k) k from rfl]
    generalize spR H f k = q at v
    obtain ⟨t1, t2⟩ := spTo_in (f := q.2) (k := k) hk
    have a := v.le hk
    have b := v.le t1
    rw [e_cI, b_neg (by omega)]
    refine join_gen (fun j37 hj37 => ?_)
    have red : j37 (spTo q.2 k : Int) = self ((spC H q k).1, ((k + 1 : Nat) : Int), setRow h 125 (spC H q k).2) := by
      rw [hj37, e_rdn _ _ _ _ _ hk, e_rdn _ _ _ _ _ t1, setRow_same, e_sub _ _ _ (by omega)]
      refine join_gen (fun j43 hj43 => ?_)
      unfold spC
      by_cases z : q.2 k - q.2 (spTo q.2 k) ≤ H
      · rw [b_neg (by omega), hj43, e_add _ _ _ (by omega), if_pos z, show ((k + 1 : Nat) : Int) = (k : Int) + 1 by omega]
      · rw [b_pos (by omega), e_rdn _ _ _ _ _ hk, setRow_same, e_cI, e_sub _ _ _ (by omega), e_wrR _ _ _ _ _ _ (by omega), setRow_same, setRow_setRow, Int.toNat_natCast, e_rdn _ _ _ _ _ t1, setRow_same, upd1_ne _ _ _ _ t2, e_cI, e_add _ _ _ (by omega), e_wrR _ _ _ _ _ _ (by omega), setRow_same, setRow_setRow, Int.toNat_natCast, e_cI, hj43, e_add _ _ _ (by omega), if_neg z, show ((k + 1 : Nat) : Int) = (k : Int) + 1 by omega]
        rfl
    rw [← red]
    unfold spTo
    by_cases z : k = 0
    · rw [b_pos (by omega), e_cI, if_pos z]; rfl
    rw [b_neg (by omega), e_cI, if_neg z]
    by_cases z8 : k = 8
    · rw [b_pos (by omega), e_cI, if_pos z8]; rfl
    rw [b_neg (by omega), e_cI, e_add _ _ _ (by omega), if_neg z8, show (k : Int) + 1 = ((k + 1 : Nat) : Int) by omega, e_rdn _ _ _ _ _ (by omega), e_cI, e_sub _ _ _ (by omega), show (k : Int) - 1 = ((k - 1 : Nat) : Int) by omega, e_rdn _ _ _ _ _ (by omega), setRow_same]
    by_cases c : q.2 (k - 1) ≤ q.2 (k + 1)
    · rw [b_pos c, e_cI, e_sub _ _ _ (by omega), if_pos c, show (k : Int) - 1 = ((k - 1 : Nat) : Int) by omega]
    · rw [b_neg c, e_cI, e_add _ _ _ (by omega), if_neg c, show (k : Int) + 1 = ((k + 1 : Nat) : Int) by omega]
  · intro self
    unfold g_X9_spill_l31
    dsimp only
    rw [e_cI, b_pos (by omega)]
theorem m_spRounds {h : Hp} {H x4 : Int} (hH : 1 ≤ H) (hx : 0 ≤ x4 ∧ x4 < 9) : ∀ (n : Nat) (f : Nat → Int) (F : Nat), SpV f → spM f < 2 * (n : Int) → n + 1 < F → loopF (g_X9_spill_l20 x4 H) F (1, setRow h 125 f) = some (spN H n f x4.toNat, setRow h 125 (spN H n f)) := by
  intro n
  induction n with
  | zero => intro f F _ hm; have := spM_nn (f := f); omega
  | succ n ih =>
    intro f F hv hm hF
    obtain ⟨F, rfl⟩ : ∃ g, F = g + 1 := ⟨F - 1, by omega⟩
    obtain ⟨v, e⟩ := spR_v hH hv 9 (by omega)
    have nx := fun (g : Nat → Int) h1 h2 => ih g F h1 h2 (by omega)
    have stop : ∀ g : Nat → Int, loopF (g_X9_spill_l20 x4 H) F (0, setRow h 125 g) = some (g x4.toNat, setRow h 125 g) := by
      intro g
      obtain ⟨F, rfl⟩ : ∃ g, F = g + 1 := ⟨F - 1, by omega⟩
      show g_X9_spill_l20 x4 H (loopF _ F) (0, setRow h 125 g) = _
      unfold g_X9_spill_l20
      dsimp only
      rw [b_pos rfl, e_rd _ _ _ _ _ hx, setRow_same]
    show g_X9_spill_l20 x4 H (loopF _ F) (1, setRow h 125 f) = _
    generalize loopF (g_X9_spill_l20 x4 H) F = self at nx stop
    unfold g_X9_spill_l20
    dsimp only
    rw [b_neg (by decide), e_cI, e_cI]
    refine join_gen (fun j27 hj27 => ?_)
    rw [m_spRound hH hv, hj27]
    try dsimp only
    unfold spN
    rcases e with ⟨e1, e2⟩ | ⟨e1, e2⟩
    · rw [e1, if_pos rfl]
      exact stop _
    · rw [e1, if_neg (by decide)]
      exact nx _ v (by omega)
def spF (x : Int) (g : Nat → Int) : Nat → Int := fun j => if j < 9 then (if j = 4 then x else 0) else g j
theorem spF_v {x : Int} {g : Nat → Int} (hx : 0 ≤ x ∧ x ≤ 60) : SpV (spF x g) ∧ spM (spF x g) < 2 * 1801 := by
  refine ⟨⟨fun i hi => ?_, ?_⟩, ?_⟩
  · unfold spF; split <;> (try split) <;> omega
  · simp [sumN, spF]; omega
  · have : spM (spF x g) = x * x := by simp [spM, sumN, spF]
    have h2 : x * x ≤ 60 * 60 := Int.mul_le_mul hx.2 hx.2 hx.1 (by omega)
    omega
/-- after the first rounds more of them change nothing, but what lies behind nine cells is each side's own -/
theorem spN_congr {H : Int} : ∀ (n : Nat) (f g : Nat → Int), (∀ i, i < 9 → f i = g i) → ∀ i, i < 9 → spN H n f i = spN H n g i := by
  have rr : ∀ (f g : Nat → Int), (∀ i, i < 9 → f i = g i) → ∀ k, k ≤ 9 → (spR H f k).1 = (spR H g k).1 ∧ ∀ i, i < 9 → (spR H f k).2 i = (spR H g k).2 i := by
    intro f g e k
    induction k with
    | zero => exact fun _ => ⟨rfl, e⟩
    | succ k ih =>
      intro hk
      obtain ⟨i1, i2⟩ := ih (by omega)
      show (spC H (spR H f k) k).1 = (spC H (spR H g k) k).1 ∧ ∀ i, i < 9 → (spC H (spR H f k) k).2 i = (spC H (spR H g k) k).2 i
      generalize spR H f k = q at i1 i2
      generalize spR H g k = p at i1 i2
      have et : spTo q.2 k = spTo p.2 k := by
        unfold spTo
        by_cases z : k = 0
        · rw [if_pos z, if_pos z]
        rw [if_neg z, if_neg z]
        by_cases z8 : k = 8
        · rw [if_pos z8, if_pos z8]
        rw [if_neg z8, if_neg z8, i2 (k - 1) (by omega), i2 (k + 1) (by omega)]
      obtain ⟨t1, t2⟩ := spTo_in (f := p.2) (k := k) (by omega)
      unfold spC
      rw [et, i2 k (by omega), i2 _ t1]
      by_cases z : p.2 k - p.2 (spTo p.2 k) ≤ H
      · rw [if_pos z, if_pos z]; exact ⟨i1, i2⟩
      · rw [if_neg z, if_neg z]
        refine ⟨rfl, fun i hi => ?_⟩
        dsimp only
        unfold spGo upd1
        rw [i2 k (by omega), i2 _ t1, i2 i hi]
  intro n
  induction n with
  | zero => exact fun f g e => e
  | succ n ih =>
    intro f g e i hi
    obtain ⟨e1, e2⟩ := rr f g e 9 (by omega)
    unfold spN
    rw [e1]
    by_cases z : (spR H g 9).1 = 0
    · rw [if_pos z, if_pos z]; exact e2 i hi
    · rw [if_neg z, if_neg z]; exact ih _ _ e2 i hi
theorem s_spill {n : Nat} {h : Hp} {x1 x2 x3 x4 : Int} (r : Rel n h) : ∃ z h1 h2, g_X8_spill x1 x2 x3 x4 h = some (z, h1) ∧ g_X9_spill x1 x2 x3 x4 h1 = some (z, h2) ∧ Rel (n + 1) h2 := by
  have r' := r
  obtain ⟨hv, ⟨c, rb⟩, -⟩ := r'
  have eb := fun (R : Type) (K : Nat → Option R) => e_gR h 0 1 c [3, 9] K rb.ref.1 rb.ref.2
  unfold g_X8_spill g_X9_spill
  by_cases b0 : (0 ≤ x1 ∧ x1 ≤ 60) ∧ sandP x2 x3 ∧ (0 ≤ x4 ∧ x4 ≤ 8)
  rotate_left
  · refine ⟨-2, h, h, ?_, ?_, r.next⟩
    · by_cases c1 : x1 < 0
      · (repeat (first | rw [e_i2l] | rw [e_cI] | rw [e_join] | rw [e_cP] | rw [e_gF] | rw [e_pF] | rw [e_cW] | rw [e_cV] | rw [e_in_t _ _ _ _ (by omega)] | rw [e_in_f _ _ _ _ (by omega)] | rw [b_pos (by omega)] | rw [b_neg (by omega)] | rw [e_add _ _ _ (by omega)] | rw [e_sub _ _ _ (by omega)] | rw [e_mul _ _ _ (by omega)] | rw [e_lsub _ _ _ (by omega)] | rw [e_rd _ _ _ _ _ (by omega)] | rw [b_pos True.intro] | rw [b_neg not_false] | simp only [Int.reduceToNat, Int.reduceSub, Int.reduceAdd, Int.reduceMul]))
      by_cases c2 : 60 < x1
      · (repeat (first | rw [e_i2l] | rw [e_cI] | rw [e_join] | rw [e_cP] | rw [e_gF] | rw [e_pF] | rw [e_cW] | rw [e_cV] | rw [e_in_t _ _ _ _ (by omega)] | rw [e_in_f _ _ _ _ (by omega)] | rw [b_pos (by omega)] | rw [b_neg (by omega)] | rw [e_add _ _ _ (by omega)] | rw [e_sub _ _ _ (by omega)] | rw [e_mul _ _ _ (by omega)] | rw [e_lsub _ _ _ (by omega)] | rw [e_rd _ _ _ _ _ (by omega)] | rw [b_pos True.intro] | rw [b_neg not_false] | simp only [Int.reduceToNat, Int.reduceSub, Int.reduceAdd, Int.reduceMul]))
      by_cases c3 : sandP x2 x3
      · have c5 : x4 < 0 ∨ 8 < x4 := by
          by_cases z : 0 ≤ x4 ∧ x4 ≤ 8
          · exact absurd ⟨⟨by omega, by omega⟩, c3, z⟩ b0
          · omega
        by_cases c4 : x4 < 0
        · (repeat (first | rw [k_isSand_t c3] | rw [e_i2l] | rw [e_cI] | rw [e_join] | rw [e_cP] | rw [e_gF] | rw [e_pF] | rw [e_cW] | rw [e_cV] | rw [e_in_t _ _ _ _ (by omega)] | rw [e_in_f _ _ _ _ (by omega)] | rw [b_pos (by omega)] | rw [b_neg (by omega)] | rw [e_add _ _ _ (by omega)] | rw [e_sub _ _ _ (by omega)] | rw [e_mul _ _ _ (by omega)] | rw [e_lsub _ _ _ (by omega)] | rw [e_rd _ _ _ _ _ (by omega)] | rw [b_pos True.intro] | rw [b_neg not_false] | simp only [Int.reduceToNat, Int.reduceSub, Int.reduceAdd, Int.reduceMul]))
        (repeat (first | rw [k_isSand_t c3] | rw [e_i2l] | rw [e_cI] | rw [e_join] | rw [e_cP] | rw [e_gF] | rw [e_pF] | rw [e_cW] | rw [e_cV] | rw [e_in_t _ _ _ _ (by omega)] | rw [e_in_f _ _ _ _ (by omega)] | rw [b_pos (by omega)] | rw [b_neg (by omega)] | rw [e_add _ _ _ (by omega)] | rw [e_sub _ _ _ (by omega)] | rw [e_mul _ _ _ (by omega)] | rw [e_lsub _ _ _ (by omega)] | rw [e_rd _ _ _ _ _ (by omega)] | rw [b_pos True.intro] | rw [b_neg not_false] | simp only [Int.reduceToNat, Int.reduceSub, Int.reduceAdd, Int.reduceMul]))
      · (repeat (first | rw [k_isSand_f c3] | rw [e_i2l] | rw [e_cI] | rw [e_join] | rw [e_cP] | rw [e_gF] | rw [e_pF] | rw [e_cW] | rw [e_cV] | rw [e_in_t _ _ _ _ (by omega)] | rw [e_in_f _ _ _ _ (by omega)] | rw [b_pos (by omega)] | rw [b_neg (by omega)] | rw [e_add _ _ _ (by omega)] | rw [e_sub _ _ _ (by omega)] | rw [e_mul _ _ _ (by omega)] | rw [e_lsub _ _ _ (by omega)] | rw [e_rd _ _ _ _ _ (by omega)] | rw [b_pos True.intro] | rw [b_neg not_false] | simp only [Int.reduceToNat, Int.reduceSub, Int.reduceAdd, Int.reduceMul]))
    · by_cases c1 : x1 < 0 ∨ 60 < x1
      · (repeat (first | rw [e_i2l] | rw [e_cI] | rw [e_join] | rw [e_cP] | rw [e_gF] | rw [e_pF] | rw [e_cW] | rw [e_cV] | rw [e_in_t _ _ _ _ (by omega)] | rw [e_in_f _ _ _ _ (by omega)] | rw [b_pos (by omega)] | rw [b_neg (by omega)] | rw [e_add _ _ _ (by omega)] | rw [e_sub _ _ _ (by omega)] | rw [e_mul _ _ _ (by omega)] | rw [e_lsub _ _ _ (by omega)] | rw [e_rd _ _ _ _ _ (by omega)] | rw [b_pos True.intro] | rw [b_neg not_false] | simp only [Int.reduceToNat, Int.reduceSub, Int.reduceAdd, Int.reduceMul]))
      by_cases c3 : sandP x2 x3
      · have c5 : x4 < 0 ∨ 8 < x4 := by
          by_cases z : 0 ≤ x4 ∧ x4 ≤ 8
          · exact absurd ⟨⟨by omega, by omega⟩, c3, z⟩ b0
          · omega
        (repeat (first | rw [m_isSand_t c3] | rw [e_i2l] | rw [e_cI] | rw [e_join] | rw [e_cP] | rw [e_gF] | rw [e_pF] | rw [e_cW] | rw [e_cV] | rw [e_in_t _ _ _ _ (by omega)] | rw [e_in_f _ _ _ _ (by omega)] | rw [b_pos (by omega)] | rw [b_neg (by omega)] | rw [e_add _ _ _ (by omega)] | rw [e_sub _ _ _ (by omega)] | rw [e_mul _ _ _ (by omega)] | rw [e_lsub _ _ _ (by omega)] | rw [e_rd _ _ _ _ _ (by omega)] | rw [b_pos True.intro] | rw [b_neg not_false] | simp only [Int.reduceToNat, Int.reduceSub, Int.reduceAdd, Int.reduceMul]))
      · (repeat (first | rw [m_isSand_f c3] | rw [e_i2l] | rw [e_cI] | rw [e_join] | rw [e_cP] | rw [e_gF] | rw [e_pF] | rw [e_cW] | rw [e_cV] | rw [e_in_t _ _ _ _ (by omega)] | rw [e_in_f _ _ _ _ (by omega)] | rw [b_pos (by omega)] | rw [b_neg (by omega)] | rw [e_add _ _ _ (by omega)] | rw [e_sub _ _ _ (by omega)] | rw [e_mul _ _ _ (by omega)] | rw [e_lsub _ _ _ (by omega)] | rw [e_rd _ _ _ _ _ (by omega)] | rw [b_pos True.intro] | rw [b_neg not_false] | simp only [Int.reduceToNat, Int.reduceSub, Int.reduceAdd, Int.reduceMul]))
  obtain ⟨b1, b2, b3⟩ := b0
  have hh := holdsP_pos hv b2.1 b2.2
  have v0 := spF_v (x := x1) (g := h 60) b1
  have kF : loopF (g_X4_settle_l11 59 (fun a => some a) (holdsP h x2 x3)) FU (1, ((0 : Nat) : Int), setRow h 60 (spF x1 (h 60))) = some (setRow h 60 (spN (holdsP h x2 x3) 1801 (spF x1 (h 60)))) :=
    k_spRounds hh.1 1801 _ 0 FU v0.1 v0.2 (by omega) (fu _ (by omega))
  refine ⟨spN (holdsP h x2 x3) 1801 (spF x1 (h 60)) x4.toNat, setRow h 60 (spN (holdsP h x2 x3) 1801 (spF x1 (h 60))), ?_⟩
  generalize hf60 : spN (holdsP h x2 x3) 1801 (spF x1 (h 60)) = f60 at kF
  have v1 := spF_v (x := x1) (g := setRow h 60 f60 125) b1
  have mF := m_spRounds (h := setRow h 60 f60) (x4 := x4) hh.1 (by omega) 1801 _ FU v1.1 v1.2 (fu _ (by omega))
  have mh : g_X9_holdsOf x2 x3 (setRow h 60 f60) = some (holdsP h x2 x3) := m_holdsOf (P := h) (fun p hp => setRow_ne _ _ _ _ (by omega)) hv b2.1 b2.2
  have ee : spN (holdsP h x2 x3) 1801 (spF x1 (setRow h 60 f60 125)) x4.toNat = f60 x4.toNat := by
    rw [← hf60]
    refine spN_congr 1801 _ _ (fun i hi => ?_) _ (by omega)
    unfold spF
    rw [if_pos hi, if_pos hi]
  refine ⟨setRow (setRow h 60 f60) 125 (spN (holdsP h x2 x3) 1801 (spF x1 (setRow h 60 f60 125))), ?_, ?_, r.quiet (by omega) ?_ ?_ ?_⟩
  · (rw [e_join]; (try dsimp only); rw [b_neg (by omega), e_cI, b_neg (by omega), k_isSand_t b2, e_cP, b_neg (by decide), b_neg (by omega), e_cI, b_pos (by omega), eb, k_bearing rb.2.2.1 hv b2.1 b2.2, e_cP])
    have es : g_X4_settle 59 x1 (holdsP h x2 x3) h = some (setRow h 60 f60) := by
      unfold g_X4_settle
      (rw [e_cI, e_fill, e_cV, e_cI, e_wrR _ _ _ _ _ _ (by omega), e_cI, e_cI, e_join]; (try dsimp only))
      have e0 : setRow (fillR h (59 + 1) 9 0) (59 + 1) (upd1 (fillR h (59 + 1) 9 0 (59 + 1)) (4 : Int).toNat x1) = setRow h 60 (spF x1 (h 60)) := by
        funext p j
        show (if p = 60 then (if j = 4 then x1 else fillR h 60 9 0 60 j) else fillR h 60 9 0 p j) = if p = 60 then spF x1 (h 60) j else h p j
        unfold fillR spF
        by_cases z : p = 60
        · rw [if_pos z, if_pos z]
          by_cases z4 : j = 4
          · rw [if_pos z4, if_pos (by omega), if_pos z4]
          · rw [if_neg z4]
            by_cases z9 : j < 9
            · rw [if_pos ⟨rfl, z9⟩, if_pos z9, if_neg z4]
            · rw [if_neg (by omega), if_neg z9]
        · rw [if_neg z, if_neg z, if_neg (by omega)]
      rw [e0]
      exact kF
    rw [es, e_cV, e_rd _ _ _ _ _ (by omega), setRow_same]
  · (rw [e_i2l, e_cI, e_cI, e_in_t _ _ _ _ b1, e_join]; (try dsimp only); rw [b_neg (by decide), m_isSand_t b2, e_cP, b_neg (by decide), e_i2l, e_cI, e_cI, e_in_t _ _ _ _ b3, b_neg (by decide), mh, e_cP, e_cI])
    refine join_gen (fun j16 hj16 => ?_)
    generalize setRow h 60 f60 = g at *
    refine loopF_for' 9 (fun i => ((i : Int), setRow g 125 (fun j => if j < i then (if j = 4 then x1 else 0) else g 125 j))) ?_ ?_ ?_ (fu _ (by omega))
    · intro i hi self
      unfold g_X9_spill_l70
      dsimp only
      rw [e_cI, b_neg (by omega), e_cI]
      refine join_gen (fun j76 hj76 => ?_)
      have red : j76 (if i = 4 then x1 else 0) = self (((i + 1 : Nat) : Int), setRow g 125 (fun j => if j < i + 1 then (if j = 4 then x1 else 0) else g 125 j)) := by
        rw [hj76, e_wrR _ _ _ _ _ _ (by omega), setRow_same, setRow_setRow, Int.toNat_natCast, e_add _ _ _ (by omega), show ((i + 1 : Nat) : Int) = (i : Int) + 1 by omega]
        congr 1
        refine Prod.ext rfl ?_
        dsimp only
        congr 1
        funext j
        unfold upd1
        try dsimp only
        by_cases z : j = i
        · subst z
          rw [if_pos rfl, if_pos (show j < j + 1 by omega)]
        · rw [if_neg z]
          by_cases z2 : j < i
          · rw [if_pos z2, if_pos (show j < i + 1 by omega)]
          · rw [if_neg z2, if_neg (show ¬ j < i + 1 by omega)]
      rw [← red]
      by_cases z : i = 4
      · rw [b_pos (by omega), if_pos z]
      · rw [b_neg (by omega), e_cI, if_neg z]
    · intro self
      unfold g_X9_spill_l70
      dsimp only
      rw [e_cI, b_pos (by omega), hj16, e_cI]
      rw [show setRow g 125 (fun j => if j < 9 then (if j = 4 then x1 else 0) else g 125 j) = setRow g 125 (spF x1 (g 125)) from rfl, mF, ee]
    · refine Prod.ext rfl ?_
      dsimp only
      funext p j
      unfold setRow
      dsimp only
      split
      · rw [if_neg (show ¬ j < 0 by omega)]
        rename_i e
        rw [e]
      · rfl
  · intro p hp
    rw [setRow_ne _ _ _ _ (by omega), setRow_ne _ _ _ _ (by omega)]
  · intro p a1 a2
    rw [setRow_ne _ _ _ _ (by omega), setRow_ne _ _ _ _ (by omega)]
  · intro p hp
    rw [setRow_ne _ _ _ _ (by omega), setRow_ne _ _ _ _ (by omega)]
/-! join -/
theorem e_units {hh a : Int} {j3 j30 : Int → Option Int} (ha : 1 ≤ a ∧ a ≤ 99) (hhh : 1 ≤ hh ∧ hh ≤ 99) : ∀ (n : Nat) (i u : Int) (F : Nat), hh - i * a ≤ (n : Int) → 1 ≤ i ∧ i ≤ 100 → 0 ≤ u ∧ u ≤ 200 * i → n < F → -10000 ≤ hh - i * a → i + n ≤ 110 →
    ∃ x : Int, (0 ≤ x ∧ x ≤ 40000) ∧ loopF (g_X8_unitsOfTower_l6 j3 hh a) F (u, i) = j3 x ∧ loopF (g_X9_join_l71 j30 a) F (u, hh - i * a) = j30 x := by
  have stop : ∀ (i u : Int) (F : Nat), hh - i * a ≤ 0 → 1 ≤ i ∧ i ≤ 100 → -10000 ≤ hh - i * a → 0 < F → loopF (g_X8_unitsOfTower_l6 j3 hh a) F (u, i) = j3 u ∧ loopF (g_X9_join_l71 j30 a) F (u, hh - i * a) = j30 u := by
    intro i u F h1 h2 h3 hF
    obtain ⟨F, rfl⟩ : ∃ g, F = g + 1 := ⟨F - 1, by omega⟩
    constructor
    · show g_X8_unitsOfTower_l6 j3 hh a (loopF _ F) (u, i) = _
      unfold g_X8_unitsOfTower_l6
      dsimp only
      by_cases z : hh ≤ i
      · rw [b_pos z]
      · rw [b_neg z, e_mul _ _ _ (by omega), e_sub _ _ _ (by omega), b_pos h1]
    · show g_X9_join_l71 j30 a (loopF _ F) (u, hh - i * a) = _
      unfold g_X9_join_l71
      dsimp only
      rw [b_pos h1]
  intro n
  induction n with
  | zero =>
    intro i u F h1 h2 h3 hF h4 h5
    exact ⟨u, by omega, stop i u F (by omega) h2 h4 hF⟩
  | succ n ih =>
    intro i u F h1 h2 h3 hF h4 h5
    by_cases z : hh - i * a ≤ 0
    · exact ⟨u, by omega, stop i u F z h2 h4 (by omega)⟩
    obtain ⟨F, rfl⟩ : ∃ g, F = g + 1 := ⟨F - 1, by omega⟩
    have hi : i * 1 ≤ i * a := Int.mul_le_mul_of_nonneg_left ha.1 (by omega)
    have e1 : (i + 1) * a = i * a + a := by rw [Int.add_mul, Int.one_mul]
    obtain ⟨x, x1, x2, x3⟩ := ih (i + 1) (u + 2 * (hh - i * a)) F (by rw [e1]; omega) (by omega) (by omega) (by omega) (by rw [e1]; omega) (by omega)
    refine ⟨x, x1, ?_, ?_⟩
    · rw [← x2]
      show g_X8_unitsOfTower_l6 j3 hh a (loopF _ F) (u, i) = _
      generalize loopF (g_X8_unitsOfTower_l6 j3 hh a) F = self
      unfold g_X8_unitsOfTower_l6
      dsimp only
      rw [b_neg (by omega), e_mul _ _ _ (by omega), e_sub _ _ _ (by omega), b_neg z, e_cI, e_mul _ _ _ (by omega), e_sub _ _ _ (by omega), e_mul _ _ _ (by omega), e_add _ _ _ (by omega), e_add _ _ _ (by omega)]
    · rw [← x3]
      show g_X9_join_l71 j30 a (loopF _ F) (u, hh - i * a) = _
      generalize loopF (g_X9_join_l71 j30 a) F = self
      unfold g_X9_join_l71
      dsimp only
      rw [b_neg z, e_cI, e_mul _ _ _ (by omega), e_add _ _ _ (by omega), e_sub _ _ _ (by omega), show hh - i * a - a = hh - (i + 1) * a by rw [e1]; omega]
def joD (T r s B : Int) (j : Nat) : Int := (j : Int) + (((if 0 < T - r * (j : Int) then T - r * (j : Int) else 0) + (if 0 < T - s * (j : Int) then T - s * (j : Int) else 0)) * 100 + B - 1) / B
theorem joD_in {T r s B : Int} (hT : 0 ≤ T ∧ T ≤ 40000) (hr : 1 ≤ r ∧ r ≤ 50) (hs : 1 ≤ s ∧ s ≤ 50) (hB : 2 ≤ B ∧ B ≤ 10000) {j : Nat} (hj : j < 100) : 0 ≤ joD T r s B j ∧ joD T r s B j < 2147483647 := by
  have h1 : 0 ≤ r * (j : Int) := Int.mul_nonneg (by omega) (by omega)
  have h2 : 0 ≤ s * (j : Int) := Int.mul_nonneg (by omega) (by omega)
  unfold joD
  generalize r * (j : Int) = rj at h1
  generalize s * (j : Int) = sj at h2
  have h3 : 0 ≤ (if 0 < T - rj then T - rj else 0) ∧ (if 0 < T - rj then T - rj else 0) ≤ 40000 := by split <;> omega
  have h4 : 0 ≤ (if 0 < T - sj then T - sj else 0) ∧ (if 0 < T - sj then T - sj else 0) ≤ 40000 := by split <;> omega
  generalize (if 0 < T - rj then T - rj else 0) = u at h3
  generalize (if 0 < T - sj then T - sj else 0) = v at h4
  have h5 := Int.ediv_nonneg (a := (u + v) * 100 + B - 1) (b := B) (by omega) (by omega)
  have h6 := Int.ediv_le_self (a := (u + v) * 100 + B - 1) B (by omega)
  omega
def joK (d : Nat → Int) : Nat → Int × Int
  | 0 => (0, 2147483647)
  | j + 1 => if (joK d j).2 ≤ d j then joK d j else ((j : Int), d j)
def joM (d : Nat → Int) : Nat → Int × Int
  | 0 => (0, -1)
  | j + 1 => if (joM d j).2 = -1 then ((j : Int), d j) else if d j < (joM d j).2 then ((j : Int), d j) else joM d j
theorem jo_same {d : Nat → Int} (hd : ∀ j, j < 100 → 0 ≤ d j ∧ d j < 2147483647) : ∀ j, j < 100 → joM d (j + 1) = joK d (j + 1) ∧ 0 ≤ (joK d (j + 1)).2
  | 0, h => by
    have := hd 0 h
    unfold joM joK
    rw [if_pos (show (joM d 0).2 = -1 from rfl), if_neg (show ¬ (joK d 0).2 ≤ d 0 by show ¬ (2147483647 : Int) ≤ d 0; omega)]
    exact ⟨rfl, this.1⟩
  | j + 1, h => by
    obtain ⟨i1, i2⟩ := jo_same hd j (by omega)
    have := hd (j + 1) h
    unfold joM joK
    rw [i1, if_neg (by omega)]
    by_cases z : (joK d (j + 1)).2 ≤ d (j + 1)
    · rw [if_neg (by omega), if_pos z]; exact ⟨rfl, i2⟩
    · rw [if_pos (by omega), if_neg z]; exact ⟨rfl, this.1⟩
theorem s_join {x1 x2 x3 x4 x5 x6 : Int} : ∃ z, g_X8_join x1 x2 x3 x4 x5 x6 = some z ∧ g_X9_join x1 x2 x3 x4 x5 x6 = some z := by
  unfold g_X8_join g_X9_join
  by_cases b0 : (1 ≤ x1 ∧ x1 ≤ 99) ∧ (1 ≤ x2 ∧ x2 ≤ 99) ∧ (1 ≤ x3 ∧ x3 ≤ 50) ∧ (1 ≤ x4 ∧ x4 ≤ 50) ∧ (1 ≤ x5 ∧ x5 ≤ 100) ∧ (0 ≤ x6 ∧ x6 ≤ 1)
  rotate_left
  · refine ⟨-2, ?_, ?_⟩
    · rw [e_cI]
      refine join_gen (fun j3 hj3 => ?_)
      have e0 : j3 0 = some (-2) := by rw [hj3, b_pos rfl, e_cI]
      refine join_gen (fun j47 hj47 => ?_)
      have e1 : j47 () = some (-2) := by rw [hj47, e_cI, e0]
      rw [← e1]
      by_cases c1 : x1 < 1
      · rw [b_pos c1]
      rw [b_neg c1, e_cI]
      by_cases c2 : 99 < x1
      · rw [b_pos c2]
      rw [b_neg c2, e_cI]
      by_cases c3 : x2 < 1
      · rw [b_pos c3]
      rw [b_neg c3, e_cI]
      by_cases c4 : 99 < x2
      · rw [b_pos c4]
      rw [b_neg c4, e_cI]
      by_cases c5 : x3 < 1
      · rw [b_pos c5]
      rw [b_neg c5, e_cI]
      by_cases c6 : 50 < x3
      · rw [b_pos c6]
      rw [b_neg c6, e_cI]
      by_cases c7 : x4 < 1
      · rw [b_pos c7]
      rw [b_neg c7, e_cI]
      by_cases c8 : 50 < x4
      · rw [b_pos c8]
      rw [b_neg c8, e_cI]
      by_cases c9 : x5 < 1
      · rw [b_pos c9]
      rw [b_neg c9, e_cI]
      by_cases c10 : 100 < x5
      · rw [b_pos c10]
      rw [b_neg c10]
      by_cases c11 : x6 < 0
      · rw [b_pos c11]
      rw [b_neg c11, e_cI, b_pos (by omega)]
    · rw [e_i2l, e_cI, e_cI]
      by_cases c1 : x1 < 1 ∨ 99 < x1
      · (rw [e_in_f _ _ _ _ c1, e_join]; (try dsimp only); rw [b_pos rfl, e_cI])
      rw [e_in_t _ _ _ _ (by omega)]
      refine join_gen (fun j6 hj6 => ?_)
      have e1 : j6 () = some (-2) := by rw [hj6, e_cI]
      rw [b_neg (by decide), e_i2l, e_cI, e_cI]
      by_cases c2 : x2 < 1 ∨ 99 < x2
      · rw [e_in_f _ _ _ _ c2, b_pos rfl, e1]
      rw [e_in_t _ _ _ _ (by omega), b_neg (by decide), e_i2l, e_cI, e_cI]
      by_cases c3 : x3 < 1 ∨ 50 < x3
      · rw [e_in_f _ _ _ _ c3, b_pos rfl, e1]
      rw [e_in_t _ _ _ _ (by omega), b_neg (by decide), e_i2l, e_cI, e_cI]
      by_cases c4 : x4 < 1 ∨ 50 < x4
      · rw [e_in_f _ _ _ _ c4, b_pos rfl, e1]
      rw [e_in_t _ _ _ _ (by omega), b_neg (by decide), e_i2l, e_cI, e_cI]
      by_cases c5 : x5 < 1 ∨ 100 < x5
      · rw [e_in_f _ _ _ _ c5, b_pos rfl, e1]
      rw [e_in_t _ _ _ _ (by omega), b_neg (by decide), e_i2l, e_cI, e_cI, e_in_f _ _ _ _ (by omega), b_pos rfl, e1]
  obtain ⟨b1, b2, b3, b4, b5, b6⟩ := b0
  obtain ⟨T, hT, u1, u2⟩ := e_units (hh := x1) (a := x2) (j3 := fun a => some a) (j30 := fun a => some a) b2 b1 100 1 x1 FU (by omega) (by omega) (by omega) (fu _ (by omega)) (by omega) (by omega)
  rw [Int.one_mul] at u2
  have hB0 : 0 ≤ (x3 + x4) * x5 := Int.mul_nonneg (by omega) (by omega)
  have hB1 : 2 * 1 ≤ (x3 + x4) * x5 := Int.mul_le_mul (by omega) b5.1 (by omega) (by omega)
  have hB2 : (x3 + x4) * x5 ≤ 100 * 100 := Int.mul_le_mul (by omega) b5.2 (by omega) (by omega)
  have hd := fun j hj => joD_in (T := T) (r := x3) (s := x4) (B := (x3 + x4) * x5) hT b3 b4 (by omega) (j := j) hj
  refine ⟨if x6 = 0 then (joK (joD T x3 x4 ((x3 + x4) * x5)) 100).1 else (joK (joD T x3 x4 ((x3 + x4) * x5)) 100).2, ?_, ?_⟩
  · rw [e_cI]
    refine join_gen (fun j3 hj3 => ?_)
    (rw [e_join]; (try dsimp only); rw [b_neg (by omega), e_cI, b_neg (by omega), e_cI, b_neg (by omega), e_cI, b_neg (by omega), e_cI, b_neg (by omega), e_cI, b_neg (by omega), e_cI, b_neg (by omega), e_cI, b_neg (by omega), e_cI, b_neg (by omega), e_cI, b_neg (by omega), b_neg (by omega), e_cI, b_neg (by omega), e_cI, hj3, b_neg (by decide)])
    have eu : g_X8_unitsOfTower x1 x2 = some T := by
      unfold g_X8_unitsOfTower
      (rw [e_cI, e_join]; (try dsimp only))
      exact u1
    rw [eu, e_cP, e_add _ _ _ (by omega), e_mul _ _ _ (by omega), e_cI, e_cI, e_cI]
    generalize (x3 + x4) * x5 = B at *
    refine join_gen (fun j12 hj12 => ?_)
    refine loopF_for' 100 (fun j => ((joK (joD T x3 x4 B) j).1, (joK (joD T x3 x4 B) j).2, (j : Int))) ?_ ?_ rfl (fu _ (by omega))
    · intro j hj self
      have h1 : 0 ≤ x3 * (j : Int) := Int.mul_nonneg (by omega) (by omega)
      have h2 : 0 ≤ x4 * (j : Int) := Int.mul_nonneg (by omega) (by omega)
      have h1b : x3 * (j : Int) ≤ 50 * 99 := Int.mul_le_mul b3.2 (by omega) (by omega) (by omega)
      have h2b : x4 * (j : Int) ≤ 50 * 99 := Int.mul_le_mul b4.2 (by omega) (by omega) (by omega)
      have hdj := hd j hj
      unfold g_X8_join_l19
      dsimp only
      rw [e_cI, b_neg (by omega), e_cI, e_mul _ _ _ (by omega), e_sub _ _ _ (by omega), e_max, e_cI, e_mul _ _ _ (by omega), e_sub _ _ _ (by omega), e_max]
      have h3 : 0 ≤ (if 0 < T - x3 * (j : Int) then T - x3 * (j : Int) else 0) ∧ (if 0 < T - x3 * (j : Int) then T - x3 * (j : Int) else 0) ≤ 40000 := by split <;> omega
      have h4 : 0 ≤ (if 0 < T - x4 * (j : Int) then T - x4 * (j : Int) else 0) ∧ (if 0 < T - x4 * (j : Int) then T - x4 * (j : Int) else 0) ≤ 40000 := by split <;> omega
      rw [show joK (joD T x3 x4 B) (j + 1) = if (joK (joD T x3 x4 B) j).2 ≤ joD T x3 x4 B j then joK (joD T x3 x4 B) j else ((j : Int), joD T x3 x4 B j) from rfl]
      generalize joK (joD T x3 x4 B) j = q
      unfold joD at hdj ⊢
      generalize (if 0 < T - x3 * (j : Int) then T - x3 * (j : Int) else 0) = u at h3 hdj
      generalize (if 0 < T - x4 * (j : Int) then T - x4 * (j : Int) else 0) = v at h4 hdj
      rw [e_add _ _ _ (by omega), e_cI, e_mul _ _ _ (by omega), e_add _ _ _ (by omega), e_cI, e_sub _ _ _ (by omega), e_div _ _ _ (by omega), e_add _ _ _ (by omega)]
      refine join_gen (fun j41 hj41 => ?_)
      by_cases z : q.2 ≤ (j : Int) + ((u + v) * 100 + B - 1) / B
      · rw [b_pos z, hj41, e_add _ _ _ (by omega), if_pos z, show ((j + 1 : Nat) : Int) = (j : Int) + 1 by omega]
      · rw [b_neg z, hj41, e_add _ _ _ (by omega), if_neg z, show ((j + 1 : Nat) : Int) = (j : Int) + 1 by omega]
    · intro self
      unfold g_X8_join_l19
      dsimp only
      (rw [e_cI, b_pos (by omega), hj12, e_join]; (try dsimp only))
      split <;> rfl
  · (rw [e_i2l, e_cI, e_cI, e_in_t _ _ _ _ b1, e_join]; (try dsimp only); rw [b_neg (by decide), e_i2l, e_cI, e_cI, e_in_t _ _ _ _ b2, b_neg (by decide), e_i2l, e_cI, e_cI, e_in_t _ _ _ _ b3, b_neg (by decide), e_i2l, e_cI, e_cI, e_in_t _ _ _ _ b4, b_neg (by decide), e_i2l, e_cI, e_cI, e_in_t _ _ _ _ b5, b_neg (by decide), e_i2l, e_cI, e_cI, e_in_t _ _ _ _ b6, b_neg (by decide), e_sub _ _ _ (by omega)])
    refine join_gen (fun j30 hj30 => ?_)
    obtain ⟨T2, hT2, y1, y2⟩ := e_units (hh := x1) (a := x2) (j3 := fun a => some a) (j30 := j30) b2 b1 100 1 x1 FU (by omega) (by omega) (by omega) (fu _ (by omega)) (by omega) (by omega)
    rw [Int.one_mul] at y2
    rw [u1] at y1
    have eT : T = T2 := Option.some.inj y1
    subst eT
    rw [y2, hj30, e_cI, e_cI, e_cI]
    refine join_gen (fun j36 hj36 => ?_)
    rw [← (jo_same hd 99 (by omega)).1]
    refine loopF_for' 100 (fun j => ((joM (joD T x3 x4 ((x3 + x4) * x5)) j).1, (joM (joD T x3 x4 ((x3 + x4) * x5)) j).2, (j : Int))) ?_ ?_ rfl (fu _ (by omega))
    · intro j hj self
      have h1 : 0 ≤ x3 * (j : Int) := Int.mul_nonneg (by omega) (by omega)
      have h2 : 0 ≤ x4 * (j : Int) := Int.mul_nonneg (by omega) (by omega)
      have h1b : x3 * (j : Int) ≤ 50 * 99 := Int.mul_le_mul b3.2 (by omega) (by omega) (by omega)
      have h2b : x4 * (j : Int) ≤ 50 * 99 := Int.mul_le_mul b4.2 (by omega) (by omega) (by omega)
      have hdj := hd j hj
      have jl : ∀ b : Int, 0 ≤ b ∧ b ≤ 5000 → g_X9_joinLeft T b = some (if 0 < T - b then T - b else 0) := by
        intro b hb
        unfold g_X9_joinLeft
        rw [e_cI, e_sub _ _ _ (by omega), e_max]
      unfold g_X9_join_l43
      dsimp only
      rw [e_cI, b_neg (by omega), e_mul _ _ _ (by omega), jl _ (by omega), e_cP, e_mul _ _ _ (by omega), jl _ (by omega), e_cP]
      have h3 : 0 ≤ (if 0 < T - x3 * (j : Int) then T - x3 * (j : Int) else 0) ∧ (if 0 < T - x3 * (j : Int) then T - x3 * (j : Int) else 0) ≤ 40000 := by split <;> omega
      have h4 : 0 ≤ (if 0 < T - x4 * (j : Int) then T - x4 * (j : Int) else 0) ∧ (if 0 < T - x4 * (j : Int) then T - x4 * (j : Int) else 0) ≤ 40000 := by split <;> omega
      rw [show joM (joD T x3 x4 ((x3 + x4) * x5)) (j + 1) = if (joM (joD T x3 x4 ((x3 + x4) * x5)) j).2 = -1 then ((j : Int), joD T x3 x4 ((x3 + x4) * x5) j) else if joD T x3 x4 ((x3 + x4) * x5) j < (joM (joD T x3 x4 ((x3 + x4) * x5)) j).2 then ((j : Int), joD T x3 x4 ((x3 + x4) * x5) j) else joM (joD T x3 x4 ((x3 + x4) * x5)) j from rfl]
      generalize joM (joD T x3 x4 ((x3 + x4) * x5)) j = q
      unfold joD at hdj ⊢
      generalize (if 0 < T - x3 * (j : Int) then T - x3 * (j : Int) else 0) = u at h3 hdj
      generalize (if 0 < T - x4 * (j : Int) then T - x4 * (j : Int) else 0) = v at h4 hdj
      rw [e_add _ _ _ (by omega), e_add _ _ _ (by omega), e_mul _ _ _ (by omega)]
      generalize (x3 + x4) * x5 = B at *
      rw [e_cI, e_mul _ _ _ (by omega), e_add _ _ _ (by omega), e_cI, e_sub _ _ _ (by omega), e_div _ _ _ (by omega), show 100 * (u + v) = (u + v) * 100 by omega, e_add _ _ _ (by omega), e_cI]
      refine join_gen (fun j64 hj64 => ?_)
      rw [e_join]
      by_cases z0 : q.2 = -1
      · rw [b_pos z0, hj64, e_add _ _ _ (by omega), if_pos z0, show ((j + 1 : Nat) : Int) = (j : Int) + 1 by omega]
      rw [b_neg z0, if_neg z0]
      by_cases z : (j : Int) + ((u + v) * 100 + B - 1) / B < q.2
      · rw [b_pos z, hj64, e_add _ _ _ (by omega), if_pos z, show ((j + 1 : Nat) : Int) = (j : Int) + 1 by omega]
      · rw [b_neg z, hj64, e_add _ _ _ (by omega), if_neg z, show ((j + 1 : Nat) : Int) = (j : Int) + 1 by omega]
    · intro self
      unfold g_X9_join_l43
      dsimp only
      (rw [e_cI, b_pos (by omega), hj36, e_join]; (try dsimp only))
      split <;> rfl
/-! ROWS that agree below a place go on agreeing -/
def Ag (a : Nat) (s t : Nat → Int) : Prop := ∀ j, j < a → t j = s j
theorem Ag.u {a : Nat} {s t : Nat → Int} {k : Nat} {x : Int} (h : Ag a s t) : Ag a (upd1 s k x) (upd1 t k x) := by
  intro j hj
  unfold upd1
  split
  · rfl
  · exact h j hj
theorem Ag.ui {a : Nat} {s t : Nat → Int} {k : Nat} {x y : Int} (h : Ag a s t) (e : y = x) : Ag a (upd1 s k x) (upd1 t k y) := by rw [e]; exact h.u
theorem ag_unit {a b c : Nat} {s t : Nat → Int} (h : Ag a s t) (ha : 256 ≤ a) (hb : b < 64) (hc : c < 64) : Ag a (unitP s b c) (unitP t b c) := by
  unfold unitP mixW
  rw [h (64 + c) (by omega), h c (by omega), h (64 + b) (by omega), h b (by omega)]
  exact h.u.u.u.u
theorem ag_low {P : Hp} {a c : Nat} {s t : Nat → Int} (hv : PV P) (h : Ag a s t) (ha : 256 ≤ a) : lowP P t c = lowP P s c := by
  have hN := hv.n
  exact low_congr hv (fun k hk => ⟨h k (by omega), h (192 + k) (by omega)⟩)
theorem ag_slideC {P : Hp} {a c : Nat} {s t : Nat → Int} (hv : PV P) (h : Ag a s t) (ha : 275 ≤ a) (hc : c < nN P) : Ag a (slideC P s c) (slideC P t c) := by
  have hN := hv.n
  unfold slideC
  rw [ag_low hv h (by omega), h (192 + c) (by omega), h c (by omega), h (64 + c) (by omega), h (128 + c) (by omega), h 272 (by omega)]
  by_cases z1 : s (192 + c) = 1
  · rw [if_pos z1, if_pos z1]; exact h
  rw [if_neg z1, if_neg z1]
  by_cases z2 : lowP P s c = -1
  · rw [if_pos z2, if_pos z2]; exact h
  rw [if_neg z2, if_neg z2]
  have hl := (lowP_spec (s := s) (c := c) hv).resolve_left z2
  rw [h (lowP P s c).toNat (by omega)]
  by_cases z3 : s c - s (lowP P s c).toNat ≤ holdsP P (s (64 + c)) (s (128 + c))
  · rw [if_pos z3, if_pos z3]; exact h
  · rw [if_neg z3, if_neg z3]
    exact (ag_unit h (by omega) (by omega) (by omega)).u
theorem ag_roundP {P : Hp} {a : Nat} {s t : Nat → Int} (hv : PV P) (h : Ag a s t) (ha : 275 ≤ a) : ∀ n, n ≤ nN P → Ag a (roundP P s n) (roundP P t n)
  | 0, _ => h
  | n + 1, hn => ag_slideC hv (ag_roundP hv h ha n (by omega)) ha (by omega)
theorem ag_roundsP {P : Hp} {a : Nat} (hv : PV P) (ha : 275 ≤ a) : ∀ (k : Nat) (s t : Nat → Int), Ag a s t → Ag a (roundsP P k s) (roundsP P k t)
  | 0, _, _, h => h
  | k + 1, s, t, h => by
    have h1 := ag_roundP hv h ha (nN P) (Nat.le_refl _)
    unfold roundsP
    rw [h 272 (by omega), h1 272 (by omega), h1 273 (by omega)]
    split
    · exact ag_roundsP hv ha k _ _ h1.u
    · exact h1
theorem ag_slidesP {P : Hp} {a : Nat} {s t : Nat → Int} (hv : PV P) (h : Ag a s t) (ha : 275 ≤ a) : Ag a (slidesP P s) (slidesP P t) := by
  have h1 := ag_roundsP (P := P) hv ha 50 _ _ ((h.u (k := 272) (x := 0)).u (k := 273) (x := 0))
  unfold slidesP
  exact h1.ui (by rw [h1 271 (by omega), h1 272 (by omega)])
theorem ag_colP {P : Hp} {a x far : Nat} {lvl : Int} (hv : PV P) (ha : 275 ≤ a) (hx : x < cN P) : ∀ (f y : Nat) (s t : Nat → Int), Ag a s t → Ag a (colP P x far lvl f y s) (colP P x far lvl f y t)
  | 0, _, _, _, h => h
  | f + 1, y, s, t, h => by
    have hN := hv.n
    unfold colP
    by_cases z1 : far ≤ y
    · rw [if_pos z1, if_pos z1]; exact h
    rw [if_neg z1, if_neg z1]
    by_cases z2 : rN P ≤ y
    · rw [if_pos z2, if_pos z2]; exact h
    rw [if_neg z2, if_neg z2]
    have hc := cell_lt (P := P) hx (show y < rN P by omega)
    rw [h (192 + (cN P * y + x)) (by omega), h (cN P * y + x) (by omega)]
    by_cases z3 : s (192 + (cN P * y + x)) = 1
    · rw [if_pos z3, if_pos z3]
      split
      · exact h.u
      · exact h
    rw [if_neg z3, if_neg z3]
    by_cases z4 : lvl < s (cN P * y + x)
    · rw [if_pos z4, if_pos z4]
      have h1 := h.u (k := 64 + (cN P * y + x)) (x := 16)
      unfold cutP offP
      rw [h1 (cN P * y + x) (by omega), h1 269 (by omega)]
      exact h1.u.u
    · rw [if_neg z4, if_neg z4]
      exact ag_colP hv ha hx f (y + 1) _ _ h.u
theorem ag_colsP {P : Hp} {a far : Nat} {lvl : Int} {s t : Nat → Int} (hv : PV P) (ha : 275 ≤ a) (h : Ag a s t) : ∀ n, n ≤ cN P → Ag a (colsP P far lvl s n) (colsP P far lvl t n)
  | 0, _ => h
  | n + 1, hn => ag_colP hv ha (by omega) 8 0 _ _ (ag_colsP hv ha h n (by omega))
theorem ag_waveP {P : Hp} {a far : Nat} {lvl : Int} {s t : Nat → Int} (hv : PV P) (ha : 275 ≤ a) (h : Ag a s t) : Ag a (waveP P far lvl s) (waveP P far lvl t) := by
  unfold waveP
  exact ag_colsP hv ha (h.ui (by rw [h 274 (by omega)])) _ (Nat.le_refl _)
theorem ag_toldP {P : Hp} {a : Nat} {m : Int} {s t : Nat → Int} (hv : PV P) (ha : 275 ≤ a) (h : Ag a s t) : ∀ n, Ag a (toldP P m s n) (toldP P m t n)
  | 0 => h
  | n + 1 => by
    unfold toldP
    split
    · exact ag_waveP hv ha (ag_toldP hv ha h n)
    · exact ag_toldP hv ha h n
theorem ag_drawP {a : Nat} {s t : Nat → Int} (ha : 289 ≤ a) (h : Ag a s t) : Ag a (drawP s) (drawP t) := by
  unfold drawP
  exact h.ui (by rw [h 288 (by omega)])
theorem ag_tideP {P : Hp} {a : Nat} {m : Int} {s t : Nat → Int} (hv : PV P) (ha : 275 ≤ a) (h0 : P 112 0 = -1 ∨ 289 ≤ a) (h : Ag a s t) : Ag a (tideP P m s) (tideP P m t) := by
  unfold tideP
  by_cases z : P 112 0 = -1
  · rw [if_pos z, if_pos z]; exact h
  have h1 := h0.resolve_left z
  rw [if_neg z, if_neg z]
  split
  · exact h
  split
  · exact h
  split
  · have a1 := ag_drawP h1 h
    have a2 := ag_drawP h1 a1
    have a3 := ag_drawP h1 a2
    have e : ∀ {u w : Nat → Int} {n : Int}, Ag a u w → drawnP w n = drawnP u n := fun e => by unfold drawnP; rw [e 288 (by omega)]
    rw [e h, e a1, e a2]
    split
    · exact ag_waveP hv ha a3
    · exact a1
  · exact h
theorem ag_seaP {P : Hp} {a : Nat} {s t : Nat → Int} (hv : PV P) (ha : 275 ≤ a) (h0 : P 112 0 = -1 ∨ 289 ≤ a) (h : Ag a s t) : Ag a (seaP P s) (seaP P t) := by
  unfold seaP
  rw [h 270 (by omega)]
  exact ag_tideP hv ha h0 (ag_toldP hv ha h _)
theorem ag_dryP {a b : Nat} {s t : Nat → Int} (ha : 275 ≤ a) (h : Ag a s t) : ∀ n, b + n ≤ 64 → Ag a (dryP s b n) (dryP t b n)
  | 0, _ => h
  | n + 1, hn => by
    have h1 := ag_dryP ha h n (by omega) (b := b)
    unfold dryP dryC
    rw [h1 (64 + (b + n)) (by omega), h1 (b + n) (by omega)]
    exact h1.u
theorem ag_sunP {P : Hp} {a : Nat} {s t : Nat → Int} (hv : PV P) (ha : 275 ≤ a) (h : Ag a s t) : Ag a (sunP P s) (sunP P t) := by
  have hN := hv.n
  have hcn := cN_le hv
  unfold sunP
  rw [h 270 (by omega)]
  split
  · exact ag_dryP ha h _ (by omega)
  · exact h
theorem ag_flagsP {P : Hp} {a m : Nat} {s t : Nat → Int} (hv : PV P) (ha : 275 ≤ a) (h : Ag a s t) (hf : ∀ k : Nat, k < m → 0 ≤ s (256 + k) ∧ s (256 + k) < nN P) : ∀ n, n ≤ m → n ≤ 4 → Ag a (flagsP P s n) (flagsP P t n)
  | 0, _, _ => h
  | n + 1, hm, hn => by
    have hN := hv.n
    have h1 := ag_flagsP hv ha h hf n (by omega) (by omega)
    have e := flagsP_far (P := P) (s := s) (j := 256 + n) (by omega) n (by omega)
    have := hf n (by omega)
    unfold flagsP flagP
    rw [h1 (264 + n) (by omega), h1 (256 + n) (by omega), h1 (260 + n) (by omega), h1 270 (by omega), h1 (flagsP P s n (256 + n)).toNat (by omega)]
    split
    · split
      · exact h1.u
      · exact h1
    · exact h1
theorem ag_finishP {P : Hp} {a : Nat} {B T : Int} {s t : Nat → Int} (hv : PV P) (ha : 275 ≤ a) (h0 : P 112 0 = -1 ∨ 289 ≤ a) (hI : IV P B T s) (h : Ag a s t) : Ag a (finishP P s) (finishP P t) := by
  have i3 := iv_slidesP (iv_sunP (iv_seaP hI hv) hv) hv
  have h3 := ag_slidesP hv (ag_sunP hv ha (ag_seaP hv ha h0 h)) ha
  have i4 := i3.2.2.1
  unfold finishP
  dsimp only
  rw [h3 268 (by omega)]
  have h4 := ag_flagsP hv ha h3 (fun k hk => (i4.2.2 k hk).1) (slidesP P (sunP P (seaP P s)) 268).toNat (Nat.le_refl _) (by have := i4.2.1; omega)
  exact h4.ui (by rw [h4 270 (by omega)])
theorem ag_doesP {a c d : Nat} {kind : Int} {s t : Nat → Int} (ha : 275 ≤ a) (hc : c < 64) (hd : d < 64) (h : Ag a s t) : Ag a (doesP s kind c d) (doesP t kind c d) := by
  unfold doesP
  rw [h c (by omega), h (192 + c) (by omega), h (192 + d) (by omega), h (128 + c) (by omega), h (64 + c) (by omega)]
  split
  · split
    · exact h
    split
    · exact h
    split
    · exact h
    · exact (ag_unit h (by omega) hc hd).u
  split
  · exact h.u
  split
  · exact h.u
  split
  · exact h.u
  · exact h
theorem act_in {P : Hp} {p i k : Nat} (hv : PV P) (hp : p < (P 100 41).toNat) (hi : i < (P 118 p).toNat) (hk : k < (P 119 (4 * p + i)).toNat) : (actAtP P p i k 1).toNat < 64 ∧ (actAtP P p i k 2).toNat < 64 := by
  have hN := hv.n
  have hac := ((((pv_plan hv).2 p hp).2 i hi).2 k hk)
  obtain ⟨a1, a2, a3, a4, a5⟩ := hac
  constructor
  · by_cases z : actAtP P p i k 0 ≤ 3
    · have := a2 z; omega
    · have := a3 (by omega); omega
  · by_cases z : actAtP P p i k 0 = 0
    · have := a4 z; omega
    · have := a5 z; omega
theorem ag_handP {P : Hp} {p i a : Nat} {s t : Nat → Int} (ha : 288 ≤ a) (hv : PV P) (hp : p < (P 100 41).toNat) (hi : i < (P 118 p).toNat) (hk : 0 ≤ s (276 + i) ∧ s (276 + i) < P 119 (4 * p + i)) (h : Ag a s t) : Ag a (handP P p s i) (handP P p t i) := by
  have h4 := ((pv_plan hv).2 p hp).1
  obtain ⟨c1, c2⟩ := act_in (k := (s (276 + i)).toNat) hv hp hi (by omega)
  unfold handP
  dsimp only
  rw [h (284 + i) (by omega), h (276 + i) (by omega), h (280 + i) (by omega)]
  split
  · exact h.u
  have h1 := ag_doesP (kind := actAtP P p i (s (276 + i)).toNat 0) (a := a) (by omega) c1 c2 h
  have h2 := (h1.u (k := 276 + i) (x := (s (276 + i) + 1) % P 119 (4 * p + i))).u (k := 280 + i) (x := wr (s (280 + i) + 1))
  rw [h2 (280 + i) (by omega)]
  split
  · exact h2
  split
  · exact h2
  · exact h2.u.u
theorem ag_minuteP {P : Hp} {a : Nat} {B T : Int} {s t : Nat → Int} (ha : 288 ≤ a) (hv : PV P) (h0 : P 112 0 = -1 ∨ 289 ≤ a) (hI : IV P B T s) (h : Ag a s t) : Ag a (minuteP P s) (minuteP P t) := by
  have hH := hI.2.2.2.1
  have i1 := iv_handsP hI hv
  unfold minuteP
  refine ag_finishP hv (by omega) h0 i1 ?_
  unfold handsP
  rw [h 275 (by omega)]
  by_cases z : s 275 = -1
  · rw [if_pos z, if_pos z]; exact h
  rw [if_neg z, if_neg z]
  have hp : (s 275).toNat < (P 100 41).toNat := by have := hH.1; omega
  have h4 := ((pv_plan hv).2 _ hp).1
  have key : ∀ n, n ≤ (P 118 (s 275).toNat).toNat → Ag a (handsLP P (s 275).toNat s n) (handsLP P (s 275).toNat t n) := by
    intro n
    induction n with
    | zero => exact fun _ => h
    | succ n ih =>
      intro hn
      have e := (handsLP_far (j := 256) hv (by omega) hp (fun i hi => (hH.2 z i hi).1) n (by omega)).2 n (Nat.le_refl _) (by omega)
      exact ag_handP ha hv hp (by omega) (by rw [e]; exact (hH.2 z n (by omega)).1) (ih (by omega))
  exact key _ (Nat.le_refl _)
/-! TRIALS: what a row becomes, when a flag falls -/
def workP (P : Hp) (x : Nat) (w : Int) (s : Nat → Int) : Nat → Int :=
  if w = 3 then doesP s 2 x 0
  else if w = 2 then (if x + cN P < nN P then doesP s 0 (x + cN P) x else s)
  else if w = 1 then (if cN P ≤ x then doesP s 0 (x - cN P) x else s)
  else if w = 0 then (if cN P ≤ x then doesP s 3 (x - cN P) 0 else s)
  else s
def trS (P : Hp) (x : Nat) (wk : Nat → Int) (s : Nat → Int) : Nat → (Nat → Int)
  | 0 => s
  | m + 1 => minuteP P (workP P x (wk m) (trS P x wk s m))
def lfP (S : Nat → (Nat → Int)) (c : Nat) (fl : Int) : Nat → Int
  | 0 => -1
  | m + 1 => if lfP S c fl m = -1 then (if S (m + 1) c < fl then (m : Int) else -1) else lfP S c fl m
def lastP (S : Nat → (Nat → Int)) (c : Nat) (fl : Int) (n : Nat) : Int := if lfP S c fl n = -1 then (n : Int) else lfP S c fl n
theorem workP_no {P : Hp} {x : Nat} {s : Nat → Int} : workP P x (-1) s = s := by
  unfold workP
  rw [if_neg (by decide), if_neg (by decide), if_neg (by decide), if_neg (by decide)]
theorem iv_workP {P : Hp} {B T w : Int} {x : Nat} {s : Nat → Int} (h : IV P B T s) (hv : PV P) (hx : x < nN P) : IV P B T (workP P x w s) := by
  obtain ⟨-, -, c1, -, -, -⟩ := hv.cr
  unfold workP
  split
  · exact iv_doesP h hv (by omega) (fun _ => hx) (fun q => absurd q (by decide))
  split
  · split
    · exact iv_doesP h hv (by omega) (fun _ => by omega) (fun _ => by omega)
    · exact h
  split
  · split
    · exact iv_doesP h hv (by omega) (fun _ => by omega) (fun _ => by omega)
    · exact h
  split
  · split
    · exact iv_doesP h hv (by omega) (fun _ => by omega) (fun q => absurd q (by decide))
    · exact h
  · exact h
theorem workP_far {P : Hp} {w : Int} {x j : Nat} {s : Nat → Int} (hv : PV P) (hx : x < nN P) (hj : 256 ≤ j) : workP P x w s j = s j := by
  have hN := hv.n
  unfold workP
  split
  · exact doesP_far (by omega) (by omega) hj
  split
  · split
    · exact doesP_far (by omega) (by omega) hj
    · rfl
  split
  · split
    · exact doesP_far (by omega) (by omega) hj
    · rfl
  split
  · split
    · exact doesP_far (by omega) (by omega) hj
    · rfl
  · rfl
theorem ag_workP {P : Hp} {a x : Nat} {w : Int} {s t : Nat → Int} (hv : PV P) (ha : 275 ≤ a) (hx : x < nN P) (h : Ag a s t) : Ag a (workP P x w s) (workP P x w t) := by
  have hN := hv.n
  unfold workP
  split
  · exact ag_doesP ha (by omega) (by omega) h
  split
  · split
    · exact ag_doesP ha (by omega) (by omega) h
    · exact h
  split
  · split
    · exact ag_doesP ha (by omega) (by omega) h
    · exact h
  split
  · split
    · exact ag_doesP ha (by omega) (by omega) h
    · exact h
  · exact h
theorem iv_trS {P : Hp} {B T : Int} {x : Nat} {wk : Nat → Int} {s : Nat → Int} (h : IV P B T s) (hv : PV P) (hx : x < nN P) : ∀ m : Nat, IV P B (T + m) (trS P x wk s m)
  | 0 => h.mono (by omega)
  | m + 1 => (iv_minuteP (iv_workP (iv_trS h hv hx m) hv hx) hv).mono (by omega)
theorem trS_far {P : Hp} {B T : Int} {x j : Nat} {wk : Nat → Int} {s : Nat → Int} (h : IV P B T s) (hv : PV P) (hx : x < nN P) (hj : (256 ≤ j ∧ j < 264) ∨ j = 268 ∨ j = 275) : ∀ m : Nat, trS P x wk s m j = s j
  | 0 => rfl
  | m + 1 => by
    show minuteP P _ j = s j
    rw [minuteP_far hv hj (iv_workP (iv_trS h hv hx m) hv hx), workP_far hv hx (by omega), trS_far h hv hx hj m]
theorem ag_trS {P : Hp} {a : Nat} {B T : Int} {x : Nat} {wk : Nat → Int} {s t : Nat → Int} (ha : 288 ≤ a) (hv : PV P) (h0 : P 112 0 = -1 ∨ 289 ≤ a) (hI : IV P B T s) (hx : x < nN P) (h : Ag a s t) : ∀ m : Nat, Ag a (trS P x wk s m) (trS P x wk t m)
  | 0 => h
  | m + 1 => ag_minuteP ha hv h0 (iv_workP (iv_trS hI hv hx m) hv hx) (ag_workP hv (by omega) hx (ag_trS ha hv h0 hI hx h m))
theorem trS_congr {P : Hp} {x : Nat} {wk wk2 : Nat → Int} {s : Nat → Int} : ∀ n : Nat, (∀ m, m < n → wk m = wk2 m) → trS P x wk s n = trS P x wk2 s n
  | 0, _ => rfl
  | n + 1, e => by
    unfold trS
    rw [trS_congr n (fun m hm => e m (by omega)), e n (by omega)]
theorem trS_x {P : Hp} {x y : Nat} {s : Nat → Int} : ∀ n : Nat, trS P x (fun _ => -1) s n = trS P y (fun _ => -1) s n
  | 0 => rfl
  | n + 1 => by
    unfold trS
    rw [trS_x n (x := x) (y := y), workP_no, workP_no]
theorem lfP_in {S : Nat → (Nat → Int)} {c : Nat} {fl : Int} : ∀ m : Nat, lfP S c fl m = -1 ∨ (0 ≤ lfP S c fl m ∧ lfP S c fl m < m)
  | 0 => Or.inl rfl
  | m + 1 => by
    have := lfP_in (S := S) (c := c) (fl := fl) m
    unfold lfP
    split
    · split <;> omega
    · omega
theorem lfP_stay {S : Nat → (Nat → Int)} {c : Nat} {fl : Int} {m : Nat} (h : lfP S c fl m ≠ -1) : ∀ n : Nat, lfP S c fl (m + n) = lfP S c fl m
  | 0 => rfl
  | n + 1 => by
    have := lfP_stay h n
    show (if lfP S c fl (m + n) = -1 then (if S (m + n + 1) c < fl then ((m + n : Nat) : Int) else -1) else lfP S c fl (m + n)) = _
    rw [this, if_neg h]
theorem lastP_in {S : Nat → (Nat → Int)} {c n : Nat} {fl : Int} : 0 ≤ lastP S c fl n ∧ lastP S c fl n ≤ n := by
  have := lfP_in (S := S) (c := c) (fl := fl) n
  unfold lastP
  split <;> omega
theorem lfP_congr {S U : Nat → (Nat → Int)} {c : Nat} {fl : Int} : ∀ n : Nat, (∀ m, m ≤ n → S m c = U m c) → lfP S c fl n = lfP U c fl n
  | 0, _ => rfl
  | n + 1, e => by
    unfold lfP
    rw [lfP_congr n (fun m hm => e m (by omega)), e (n + 1) (Nat.le_refl _)]
theorem lastP_congr {S U : Nat → (Nat → Int)} {c n : Nat} {fl : Int} (e : ∀ m, m ≤ n → S m c = U m c) : lastP S c fl n = lastP U c fl n := by
  unfold lastP
  rw [lfP_congr n e]
theorem flagsP_fell {P : Hp} {s : Nat → Int} {k : Nat} (hk : k < 4) (hc : s (256 + k) < 256) : ∀ n, n ≤ 4 → flagsP P s n (264 + k) = if k < n then (if s (264 + k) = -1 then (if s (s (256 + k)).toNat < s (260 + k) - P 102 4 then s 270 else -1) else s (264 + k)) else s (264 + k)
  | 0, _ => by rw [if_neg (by omega)]; rfl
  | n + 1, hn => by
    have ih := flagsP_fell hk hc n (by omega) (P := P)
    have f1 := flagsP_far (P := P) (s := s) (j := 256 + n) (by omega) n (by omega)
    have f2 := flagsP_far (P := P) (s := s) (j := 260 + n) (by omega) n (by omega)
    have f3 := flagsP_far (P := P) (s := s) (j := 270) (by omega) n (by omega)
    show flagP P (flagsP P s n) n (264 + k) = _
    unfold flagP
    rw [f1, f2, f3]
    by_cases z : k = n
    · subst z
      rw [if_neg (by omega)] at ih
      rw [ih, if_pos (show k < k + 1 by omega), flagsP_far (P := P) (s := s) (j := (s (256 + k)).toNat) (by omega) k (by omega)]
      split
      · split
        · rw [upd1_same]
        · rw [ih]; assumption
      · exact ih
    · have e : ∀ y, upd1 (flagsP P s n) (264 + n) y (264 + k) = flagsP P s n (264 + k) := fun y => upd1_ne _ _ _ _ (by omega)
      have g : (if flagsP P s n (264 + n) = -1 then (if flagsP P s n (s (256 + n)).toNat < s (260 + n) - P 102 4 then upd1 (flagsP P s n) (264 + n) (s 270) else flagsP P s n) else flagsP P s n) (264 + k) = flagsP P s n (264 + k) := by
        split
        · split
          · exact e _
          · rfl
        · rfl
      rw [g, ih]
      by_cases z2 : k < n
      · rw [if_pos z2, if_pos (show k < n + 1 by omega)]
      · rw [if_neg z2, if_neg (show ¬ k < n + 1 by omega)]
theorem finishP_mid {P : Hp} {B T : Int} {s : Nat → Int} {j : Nat} (hv : PV P) (hj : (256 ≤ j ∧ j < 269) ∨ j = 270 ∨ j = 275) : slidesP P (sunP P (seaP P s)) j = s j := by
  have hN := hv.n
  have hcn := cN_le hv
  rw [slidesP_far hv (by omega)]
  have e1 : sunP P (seaP P s) j = seaP P s j := by
    unfold sunP
    split
    · exact dryP_far hv (by omega) _ (by omega)
    · rfl
  rw [e1]
  unfold seaP
  rw [tideP_far hv (by omega), toldP_far hv (by omega)]
theorem minuteP_fell {P : Hp} {B T : Int} {s : Nat → Int} {k : Nat} (hv : PV P) (hI : IV P B T s) (hk : k < (s 268).toNat) :
    minuteP P s (264 + k) = (if s (264 + k) = -1 then (if minuteP P s (s (256 + k)).toNat < s (260 + k) - P 102 4 then s 270 else -1) else s (264 + k)) ∧ minuteP P s 270 = s 270 + 1 := by
  have hN := hv.n
  have i1 := iv_handsP hI hv
  have h1 := fun j hj => handsP_far (P := P) (s := s) (j := j) hv hj hI.2.2.2.1
  have hF := hI.2.2.1
  have h4 := hF.2.1
  have hc := (hF.2.2 k hk).1
  have m := fun j hj => finishP_mid (P := P) (B := B) (T := T) (s := handsP P s) (j := j) hv hj
  unfold minuteP finishP
  try dsimp only
  rw [m 268 (by omega), h1 268 (by omega)]
  have ff := fun j hj => flagsP_far (P := P) (s := slidesP P (sunP P (seaP P (handsP P s)))) (j := j) hj (s 268).toNat (by omega)
  constructor
  · rw [upd1_ne _ _ _ _ (by omega), flagsP_fell (by omega) (by rw [m _ (by omega), h1 _ (by omega)]; omega) _ (by omega), if_pos hk, m (264 + k) (by omega), m (256 + k) (by omega), m (260 + k) (by omega), m 270 (by omega), h1 (264 + k) (by omega), h1 (256 + k) (by omega), h1 (260 + k) (by omega), h1 270 (by omega), upd1_ne _ _ _ _ (by omega), ff _ (by omega)]
  · rw [upd1_same, ff 270 (by omega), m 270 (by omega), h1 270 (by omega)]
/-- the model's LAST of a flag is the class's -/
theorem last_eq {P : Hp} {B T : Int} {x k c : Nat} {wk : Nat → Int} {s : Nat → Int} {fl : Int} (hv : PV P) (hI : IV P B T s) (hx : x < nN P) (hB : B ≤ 10000) (hk : k < (s 268).toNat) (hc : s (256 + k) = (c : Int)) (hfl : fl = if s (264 + k) = -1 then s (260 + k) - P 102 4 else 2147483647) {n : Nat} (hn : 1 ≤ n) :
    (if trS P x wk s n (264 + k) = -1 then (n : Int) else if 0 < trS P x wk s n (264 + k) - s 270 then trS P x wk s n (264 + k) - s 270 else 0) = lastP (trS P x wk s) c fl n := by
  have hF := hI.2.2.1
  have hF4 := hF.2.1
  have hck := (hF.2.2 k hk).1
  have key : ∀ m : Nat, trS P x wk s m 270 = s 270 + m ∧ trS P x wk s m (264 + k) = (if s (264 + k) = -1 then (if lfP (trS P x wk s) c fl m = -1 then -1 else s 270 + lfP (trS P x wk s) c fl m) else s (264 + k)) := by
    intro m
    induction m with
    | zero =>
      refine ⟨by show s 270 = s 270 + ((0 : Nat) : Int); omega, ?_⟩
      show s (264 + k) = _
      rw [show lfP (trS P x wk s) c fl 0 = -1 from rfl, if_pos rfl]
      split
      · assumption
      · rfl
    | succ m ih =>
      obtain ⟨i1, i2⟩ := ih
      have iw := iv_workP (w := wk m) (iv_trS (wk := wk) hI hv hx m) hv hx
      have far := fun j hj => trS_far (wk := wk) (j := j) hI hv hx hj m
      have wf := fun j (hj : 256 ≤ j) => workP_far (w := wk m) (x := x) (s := trS P x wk s m) hv hx hj
      obtain ⟨f1, f2⟩ := minuteP_fell (k := k) hv iw (by rw [wf 268 (by omega), far 268 (by omega)]; exact hk)
      have e1 : trS P x wk s (m + 1) = minuteP P (workP P x (wk m) (trS P x wk s m)) := rfl
      rw [← e1] at f1 f2
      rw [wf 270 (by omega)] at f1 f2
      rw [wf (264 + k) (by omega), wf (256 + k) (by omega), wf (260 + k) (by omega), far (256 + k) (by omega), far (260 + k) (by omega), i1, i2, hc, Int.toNat_natCast] at f1
      refine ⟨by rw [f2, i1]; omega, ?_⟩
      rw [f1]
      by_cases z : s (264 + k) = -1
      · rw [if_pos z, if_pos z]
        rw [if_pos z] at hfl
        rw [show lfP (trS P x wk s) c fl (m + 1) = if lfP (trS P x wk s) c fl m = -1 then (if trS P x wk s (m + 1) c < fl then (m : Int) else -1) else lfP (trS P x wk s) c fl m from rfl]
        have h2 := lfP_in (S := trS P x wk s) (c := c) (fl := fl) m
        have h270 := hF.1.1
        rw [← hfl]
        generalize lfP (trS P x wk s) c fl m = u at h2
        by_cases z2 : u = -1
        · rw [if_pos z2, if_pos rfl, if_pos z2]
          by_cases z3 : trS P x wk s (m + 1) c < fl
          · rw [if_pos z3, if_pos z3, if_neg (by omega)]
          · rw [if_neg z3, if_neg z3, if_pos rfl]
        · rw [if_neg z2, if_neg (by omega), if_neg z2, if_neg z2]
      · rw [if_neg z, if_neg z, if_neg z]
  have h2 := lfP_in (S := trS P x wk s) (c := c) (fl := fl) n
  have h270 := hF.1.1
  have h3 := (hF.2.2 k hk).2.2
  rw [(key n).2]
  unfold lastP
  by_cases z : s (264 + k) = -1
  · rw [if_pos z]
    generalize lfP (trS P x wk s) c fl n = u at h2
    by_cases z2 : u = -1
    · rw [if_pos z2, if_pos rfl, if_pos z2]
    · rw [if_neg z2, if_neg (by omega), if_neg z2]
      by_cases z3 : u = 0
      · rw [if_neg (by omega), z3]
      · rw [if_pos (by omega)]; omega
  · rw [if_neg z, if_neg z, if_neg (by omega)]
    rw [if_neg z] at hfl
    have e1 : lfP (trS P x wk s) c fl 1 = 0 := by
      have i1 := iv_trS (wk := wk) hI hv hx 1
      have := i1.le (c := c) (by omega)
      show (if lfP (trS P x wk s) c fl 0 = -1 then (if trS P x wk s (0 + 1) c < fl then ((0 : Nat) : Int) else -1) else lfP (trS P x wk s) c fl 0) = 0
      rw [if_pos (show lfP (trS P x wk s) c fl 0 = -1 from rfl), if_pos (show trS P x wk s (0 + 1) c < fl by rw [hfl]; show trS P x wk s 1 c < _; omega)]
      rfl
    have e2 := lfP_stay (S := trS P x wk s) (c := c) (fl := fl) (m := 1) (by rw [e1]; decide) (n - 1)
    rw [show 1 + (n - 1) = n by omega, e1] at e2
    rw [e2, if_neg (by decide)]
/-! the class's trial -/
theorem RS.fr {P h h' : Hp} {b : Nat} {s : Nat → Int} (e : ∀ p, b ≤ p → p < b + 8 → h' p = h p) (h0 : RS P h b s) : RS P h' b s := h0.hp (fun p a c => e p a (by omega))
theorem k_doWork {P h : Hp} {c x : Nat} {B T w : Int} {s : Nat → Int} (hv : PV P) (hb : PB P h c) (hB : B ≤ 10000) (hI : IV P B T s) (hR : RS P h 47 s) (hx : x < nN P) (h56 : h 56 0 = (x : Int)) (hw : 0 ≤ w ∧ w ≤ 3) :
    ∃ h', g_X6_doWork 46 c w h = some h' ∧ RS P h' 47 (workP P x w s) ∧ Fr 47 h h' := by
  have hN := hv.n
  obtain ⟨-, -, c1, c2, -, -⟩ := hv.cr
  unfold g_X6_doWork workP
  (rw [e_cI, e_rd _ _ _ _ _ (by omega), show 46 + 10 = 56 from rfl, show (0 : Int).toNat = 0 from rfl, h56, k_columns hb hv, e_cP, e_sub _ _ _ (by omega), e_cP, e_add _ _ _ (by omega), e_cI, e_join]; (try dsimp only))
  by_cases w3 : w = 3
  · rw [b_pos w3, e_cI, e_cI, if_pos w3]
    obtain ⟨h', u1, u2, u3⟩ := k_perform (kind := 2) (c := (x : Int)) (t := -1) hv hB hI hR (by omega) (fun _ => by omega) (fun q => absurd q (by decide))
    rw [show 46 + 1 = 47 from rfl, u1, e_cV]
    exact ⟨h', rfl, u2, u3⟩
  (rw [b_neg w3, e_cI, e_join]; (try dsimp only); rw [if_neg w3])
  by_cases w2 : w = 2
  · rw [b_pos w2, k_cells hb hv, e_cP, if_pos w2]
    by_cases z : x + cN P < nN P
    · obtain ⟨h', u1, u2, u3⟩ := k_perform (kind := 0) (c := (x : Int) + (cN P : Int)) (t := (x : Int)) hv hB hI hR (by omega) (fun _ => by omega) (fun _ => by omega)
      rw [b_neg (by omega), e_cI, if_pos z, show 46 + 1 = 47 from rfl, u1, e_cV]
      rw [show ((x : Int) + (cN P : Int)).toNat = x + cN P by omega, Int.toNat_natCast] at u2
      exact ⟨h', rfl, u2, u3⟩
    · (rw [b_pos (by omega), e_cI, e_join]; (try dsimp only); rw [b_neg (by omega), b_neg (by omega), if_neg z])
      exact ⟨h, rfl, hR, Fr.rf⟩
  (rw [b_neg w2, e_cI, e_join]; (try dsimp only); rw [if_neg w2])
  by_cases w1 : w = 1
  · rw [b_pos w1, if_pos w1]
    by_cases z : cN P ≤ x
    · obtain ⟨h', u1, u2, u3⟩ := k_perform (kind := 0) (c := (x : Int) - (cN P : Int)) (t := (x : Int)) hv hB hI hR (by omega) (fun _ => by omega) (fun _ => by omega)
      rw [b_neg (by omega), e_cI, if_pos z, show 46 + 1 = 47 from rfl, u1, e_cV]
      rw [show ((x : Int) - (cN P : Int)).toNat = x - cN P by omega, Int.toNat_natCast] at u2
      exact ⟨h', rfl, u2, u3⟩
    · rw [b_pos (by omega), b_neg (by omega), if_neg z]
      exact ⟨h, rfl, hR, Fr.rf⟩
  rw [b_neg w1, b_pos (by omega), if_neg w1, if_pos (show w = 0 by omega)]
  by_cases z : cN P ≤ x
  · obtain ⟨h', u1, u2, u3⟩ := k_perform (kind := 3) (c := (x : Int) - (cN P : Int)) (t := -1) hv hB hI hR (by omega) (fun _ => by omega) (fun q => absurd q (by decide))
    rw [b_neg (by omega), e_cI, e_cI, if_pos z, show 46 + 1 = 47 from rfl, u1, e_cV]
    rw [show ((x : Int) - (cN P : Int)).toNat = x - cN P by omega] at u2
    exact ⟨h', rfl, u2, u3⟩
  · rw [b_pos (by omega), if_neg z]
    exact ⟨h, rfl, hR, Fr.rf⟩
theorem k_lookAtFlags {P h : Hp} {B T : Int} {s : Nat → Int} {W m : Nat} {cs : Nat → Nat} {fl : Nat → Int} {lo : Nat → Int} (hv : PV P) (hI : IV P B T s) (hR : RS P h 47 s) (hW : W ≤ 2) (h5 : h 46 5 = (W : Int)) (h6 : h 46 6 = cntP lo (-1) W)
    (h56 : ∀ w, w < W → h 56 w = (cs w : Int) ∧ cs w < nN P) (h57 : ∀ w, w < W → h 57 w = fl w) (h55 : ∀ w, w < W → h 55 w = lo w) :
    ∃ h', g_X6_lookAtFlags 46 (m : Int) h = some h' ∧ (∀ p, p ≠ 46 → p ≠ 55 → h' p = h p) ∧ (∀ k, k ≠ 6 → h' 46 k = h 46 k) ∧
      (∀ w, w < W → h' 55 w = if lo w = -1 then (if s (cs w) < fl w then (m : Int) else -1) else lo w) ∧ h' 46 6 = cntP (fun w => if lo w = -1 then (if s (cs w) < fl w then (m : Int) else -1) else lo w) (-1) W := by
  have hN := hv.n
  unfold g_X6_lookAtFlags
  rw [e_cI]
  refine loopF_ex W (fun i (q : Int × Hp) => q.1 = (i : Int) ∧ (∀ p, p ≠ 46 → p ≠ 55 → q.2 p = h p) ∧ (∀ k, k ≠ 6 → q.2 46 k = h 46 k) ∧
      (∀ w, w < W → q.2 55 w = if w < i then (if lo w = -1 then (if s (cs w) < fl w then (m : Int) else -1) else lo w) else lo w) ∧
      q.2 46 6 = cntP (fun w => if lo w = -1 then (if s (cs w) < fl w then (m : Int) else -1) else lo w) (-1) i + (cntP lo (-1) W - cntP lo (-1) i)) ?_ ?_ FU 0 _ (by omega) (fu _ (by omega)) ⟨rfl, fun _ _ _ => rfl, fun _ _ => rfl, fun w hw => by rw [if_neg (by omega)]; exact h55 w hw, by dsimp only; rw [h6]; unfold cntP; omega⟩
  · rintro i ⟨xx, g⟩ hi ⟨e1, e2, e3, e4, e5⟩ self
    dsimp only at e1 e2 e3 e4 e5
    subst e1
    left
    have r55 := e4 i hi
    rw [if_neg (by omega)] at r55
    have hci := (h56 i hi).2
    have c1 := cntP_in (f := fun w => if lo w = -1 then (if s (cs w) < fl w then (m : Int) else -1) else lo w) (x := -1) i
    have c2 := cntP_in (f := lo) (x := -1) i
    have c3 := cntP_in (f := lo) (x := -1) W
    have n1 : cntP (fun w => if lo w = -1 then (if s (cs w) < fl w then (m : Int) else -1) else lo w) (-1) (i + 1) = cntP (fun w => if lo w = -1 then (if s (cs w) < fl w then (m : Int) else -1) else lo w) (-1) i + (if (if lo i = -1 then (if s (cs i) < fl i then (m : Int) else -1) else lo i) = -1 then 1 else 0) := rfl
    have n2 : cntP lo (-1) (i + 1) = cntP lo (-1) i + (if lo i = -1 then 1 else 0) := rfl
    have keep : (if lo i = -1 then (if s (cs i) < fl i then (m : Int) else -1) else lo i) = lo i → ∃ q' : Int × Hp, (q'.1 = ((i + 1 : Nat) : Int) ∧ (∀ p, p ≠ 46 → p ≠ 55 → q'.2 p = h p) ∧ (∀ k, k ≠ 6 → q'.2 46 k = h 46 k) ∧ (∀ w, w < W → q'.2 55 w = if w < i + 1 then (if lo w = -1 then (if s (cs w) < fl w then (m : Int) else -1) else lo w) else lo w) ∧ q'.2 46 6 = cntP (fun w => if lo w = -1 then (if s (cs w) < fl w then (m : Int) else -1) else lo w) (-1) (i + 1) + (cntP lo (-1) W - cntP lo (-1) (i + 1))) ∧ q' = ((i : Int) + 1, g) := by
      intro hk
      refine ⟨_, ⟨by dsimp only; omega, e2, e3, fun w hw => ?_, ?_⟩, rfl⟩
      · dsimp only
        rw [e4 w hw]
        by_cases z : w = i
        · rw [if_neg (by omega), if_pos (by omega), z, hk]
        · by_cases z2 : w < i
          · rw [if_pos z2, if_pos (show w < i + 1 by omega)]
          · rw [if_neg z2, if_neg (show ¬ w < i + 1 by omega)]
      · dsimp only
        rw [e5, n1, n2, hk]
        omega
    unfold g_X6_lookAtFlags_l3
    dsimp only
    rw [e_gF, e3 5 (by omega), h5, b_neg (by omega), e_rdn _ _ _ _ _ (by omega), show 46 + 9 = 55 from rfl, r55, e_cI]
    by_cases z : lo i = -1
    · have hgt : g 48 (cs i) = s (cs i) := by rw [e2 48 (by omega) (by omega)]; exact (hR.1.1 _ hci).1
      refine join_exr (fun j hj => ?_)
      rw [b_pos z, e_rdn _ _ _ _ _ (by omega), show 46 + 10 = 56 from rfl, e2 56 (by omega) (by omega), (h56 i hi).1, e_rdn _ _ _ _ _ (by omega), show 46 + 2 = 48 from rfl, hgt, e_rdn _ _ _ _ _ (by omega), show 46 + 11 = 57 from rfl, e2 57 (by omega) (by omega), h57 i hi]
      by_cases z2 : fl i ≤ s (cs i)
      · obtain ⟨q', a1, a2⟩ := keep (by rw [if_pos z, if_neg (by omega), z])
        refine ⟨q', a1, ?_⟩
        rw [b_pos z2, hj, e_add _ _ _ (by omega), a2]
      · rw [b_neg z2, e_wrn _ _ _ _ _ _ (by omega), e_gF, set2_np _ _ _ _ _ _ (by omega), e5, e_cI, e_sub _ _ _ (by omega), e_pF, hj, e_add _ _ _ (by omega)]
        refine ⟨((i : Int) + 1, _), ⟨by dsimp only; omega, fun p h1 h2 => ?_, fun k hk => ?_, fun w hw => ?_, ?_⟩, rfl⟩
        · dsimp only
          rw [set2_ne p h1, set2_ne p h2, e2 p h1 h2]
        · dsimp only
          rw [set2_nk _ _ _ _ _ _ hk, set2_np _ _ _ _ _ _ (by omega), e3 k hk]
        · dsimp only
          rw [set2_np _ _ _ _ _ _ (by omega)]
          by_cases y : w = i
          · subst y
            rw [set2_same, if_pos (show w < w + 1 by omega), if_pos z, if_pos (show s (cs w) < fl w by omega)]
          · rw [set2_nk _ _ _ _ _ _ y, e4 w hw]
            by_cases y2 : w < i
            · rw [if_pos y2, if_pos (show w < i + 1 by omega)]
            · rw [if_neg y2, if_neg (show ¬ w < i + 1 by omega)]
        · dsimp only
          rw [set2_same, n1, n2, if_pos z, if_pos (show s (cs i) < fl i by omega), if_neg (show ¬ (m : Int) = -1 by omega), if_pos z]
          omega
    · obtain ⟨q', a1, a2⟩ := keep (by rw [if_neg z])
      refine ⟨q', a1, ?_⟩
      (rw [e_join]; (try dsimp only); rw [b_neg z, e_add _ _ _ (by omega), a2])
  · rintro ⟨xx, g⟩ ⟨e1, e2, e3, e4, e5⟩ self
    dsimp only at e1 e2 e3 e4 e5
    subst e1
    unfold g_X6_lookAtFlags_l3
    dsimp only
    rw [e_gF, e3 5 (by omega), h5, b_pos (by omega)]
    refine ⟨g, rfl, e2, e3, fun w hw => ?_, ?_⟩
    · rw [e4 w hw, if_pos hw]
    · rw [e5]; omega
theorem cntP_zero {f : Nat → Int} : ∀ {n : Nat}, cntP f (-1) n ≤ 0 → ∀ w, w < n → f w ≠ -1
  | 0, _, _, hw => by omega
  | n + 1, h, w, hw => by
    have c := cntP_in (f := f) (x := -1) n
    unfold cntP at h
    by_cases z : f n = -1
    · rw [if_pos z] at h; omega
    · rw [if_neg z] at h
      by_cases y : w = n
      · rw [y]; exact z
      · exact cntP_zero (n := n) (by omega) w (by omega)
theorem k_run {P h : Hp} {c v W n x : Nat} {B T : Int} {s : Nat → Int} {cs : Nat → Nat} {fl : Nat → Int} (hv : PV P) (hb : PB P h c) (hc : c = 3 ∨ c = 9) (hs : PS P h v) (hvv : v = 15 ∨ v = 20)
    (hpl : ∀ p : Nat, p < (P 100 41).toNat → PL P h p) (hB : B ≤ 10000) (hT : T + 99 ≤ 1000000) (hI : IV P B T s) (hR : RS P h 47 s) (hW : W ≤ 2) (h5 : h 46 5 = (W : Int))
    (h56 : ∀ w, w < W → h 56 w = (cs w : Int) ∧ cs w < nN P) (h57 : ∀ w, w < W → h 57 w = fl w) (hx : x < nN P) (hx0 : 0 < W → x = cs 0) (h58 : ∀ m, m < 99 → h 58 m = -1 ∨ (0 < W ∧ 0 ≤ h 58 m ∧ h 58 m ≤ 3)) (hn : 1 ≤ n ∧ n ≤ 99) :
    ∃ h', g_X6_run 46 c v (planRef (s 275)) (n : Int) h = some h' ∧ (∀ p, p < 46 ∨ 55 < p → h' p = h p) ∧ (W = 0 → RS P h' 47 (trS P x (h 58) s n)) ∧ ∀ w, w < W → h' 55 w = lastP (trS P x (h 58) s) (cs w) (fl w) n := by
  have hN := hv.n
  have h41 := (pv_plan hv).1
  have iv := fun m => iv_trS (x := x) (wk := h 58) hI hv hx m
  unfold g_X6_run
  rw [e_gF, h5, e_pF, e_cI]
  refine join_ex (fun j5 hj5 => ?_)
  -- lasts are none
  have first : ∃ g : Hp, loopF (g_X6_run_l44 46 j5) FU (0, set2 h 46 6 (W : Int)) = j5 g ∧ (∀ p, p ≠ 46 → p ≠ 55 → g p = h p) ∧ g 46 5 = (W : Int) ∧ g 46 6 = (W : Int) ∧ ∀ w, w < W → g 55 w = -1 := by
    refine ⟨setRow (set2 h 46 6 (W : Int)) 55 (fun w => if w < W then -1 else h 55 w), ?_, fun p h1 h2 => ?_, ?_, ?_, fun w hw => ?_⟩
    · refine loopF_for' W (fun i => ((i : Int), setRow (set2 h 46 6 (W : Int)) 55 (fun w => if w < i then -1 else h 55 w))) ?_ ?_ ?_ (fu _ (by omega))
      · intro i hi self
        unfold g_X6_run_l44
        dsimp only
        rw [e_gF, setRow_ne _ _ _ _ (by omega), set2_nk _ _ _ _ _ _ (by omega), h5, b_neg (by omega), e_cI, show 46 + 9 = 55 from rfl, e_wrR _ _ _ _ _ _ (by omega), setRow_same, setRow_setRow, e_add _ _ _ (by omega), Int.toNat_natCast, show ((i + 1 : Nat) : Int) = (i : Int) + 1 by omega]
        congr 1
        refine Prod.ext rfl ?_
        dsimp only
        congr 1
        funext j
        unfold upd1
        try dsimp only
        by_cases z : j = i
        · rw [if_pos z, if_pos (by omega)]
        · rw [if_neg z]
          by_cases z2 : j < i
          · rw [if_pos z2, if_pos (by omega)]
          · rw [if_neg z2, if_neg (by omega)]
      · intro self
        unfold g_X6_run_l44
        dsimp only
        rw [e_gF, setRow_ne _ _ _ _ (by omega), set2_nk _ _ _ _ _ _ (by omega), h5, b_pos (by omega)]
      · refine Prod.ext rfl ?_
        dsimp only
        have : (fun w => if w < 0 then -1 else h 55 w) = set2 h 46 6 (W : Int) 55 := by
          funext w
          rw [if_neg (by omega), set2_np _ _ _ _ _ _ (by omega)]
        rw [this, setRow_self]
    · rw [setRow_ne _ _ _ _ h2, set2_ne p h1]
    · rw [setRow_ne _ _ _ _ (by omega), set2_nk _ _ _ _ _ _ (by omega), h5]
    · rw [setRow_ne _ _ _ _ (by omega), set2_same]
    · rw [setRow_same, if_pos hw]
  obtain ⟨g, g1, g2, g3, g4, g5⟩ := first
  rw [g1, hj5, e_cI]
  refine join_ex (fun j9 hj9 => ?_)
  have c0 : ∀ W : Nat, cntP (fun w => lfP (trS P x (h 58) s) (cs w) (fl w) 0) (-1) W = (W : Int) := by
    intro W
    induction W with
    | zero => rfl
    | succ W ih =>
      unfold cntP
      rw [ih, if_pos (show lfP (trS P x (h 58) s) (cs W) (fl W) 0 = -1 from rfl)]
      omega
  -- the end: those that stand last all minutes
  have fin : ∀ (q : Hp) (m : Nat), m ≤ n → (∀ p, p < 46 ∨ 55 < p → q p = h p) → q 46 5 = (W : Int) → (W = 0 → RS P q 47 (trS P x (h 58) s n)) → (∀ w, w < W → q 55 w = lfP (trS P x (h 58) s) (cs w) (fl w) m) → (∀ w, w < W → m = n ∨ lfP (trS P x (h 58) s) (cs w) (fl w) m ≠ -1) →
      ∃ r, j9 q = some r ∧ ((∀ p, p < 46 ∨ 55 < p → r p = h p) ∧ (W = 0 → RS P r 47 (trS P x (h 58) s n)) ∧ ∀ w, w < W → r 55 w = lastP (trS P x (h 58) s) (cs w) (fl w) n) := by
    intro q m hm q1 q2 q3 q4 q5
    rw [hj9, e_cI]
    refine loopF_ex W (fun i (u : Int × Hp) => u.1 = (i : Int) ∧ (∀ p, p ≠ 55 → u.2 p = q p) ∧ (∀ w, w < W → u.2 55 w = if w < i then lastP (trS P x (h 58) s) (cs w) (fl w) n else q 55 w)) ?_ ?_ FU 0 _ (by omega) (fu _ (by omega)) ⟨rfl, fun _ _ => rfl, fun w hw => by rw [if_neg (by omega)]⟩
    · rintro i ⟨xx, u⟩ hi ⟨e1, e2, e3⟩ self
      dsimp only at e1 e2 e3
      subst e1
      left
      have r55 := e3 i hi
      rw [if_neg (by omega), q4 i hi] at r55
      have lst : ∀ y, lastP (trS P x (h 58) s) (cs i) (fl i) n = y → ∀ u' : Hp, (∀ p, p ≠ 55 → u' p = u p) → u' 55 i = y → (∀ w, w ≠ i → u' 55 w = u 55 w) → (((i : Int) + 1, u').1 = ((i + 1 : Nat) : Int) ∧ (∀ p, p ≠ 55 → ((i : Int) + 1, u').2 p = q p) ∧ ∀ w, w < W → ((i : Int) + 1, u').2 55 w = if w < i + 1 then lastP (trS P x (h 58) s) (cs w) (fl w) n else q 55 w) := by
        intro y hy u' a1 a2 a3
        refine ⟨by dsimp only; omega, fun p hp => by dsimp only; rw [a1 p hp, e2 p hp], fun w hw => ?_⟩
        dsimp only
        by_cases z : w = i
        · subst z
          rw [if_pos (by omega), a2, hy]
        · rw [a3 w z, e3 w hw]
          by_cases z2 : w < i
          · rw [if_pos z2, if_pos (by omega)]
          · rw [if_neg z2, if_neg (by omega)]
      unfold g_X6_run_l13
      dsimp only
      (rw [e_gF, e2 46 (by omega), q2, b_neg (by omega), e_rdn _ _ _ _ _ (by omega), show 46 + 9 = 55 from rfl, r55, e_cI, e_join]; (try dsimp only))
      by_cases z : lfP (trS P x (h 58) s) (cs i) (fl i) m = -1
      · have em : m = n := (q5 i hi).resolve_right (fun y => y z)
        rw [em] at z
        rw [em, b_pos z, e_wrn _ _ _ _ _ _ (by omega), e_add _ _ _ (by omega)]
        exact ⟨_, lst (n : Int) (by unfold lastP; rw [if_pos z]) _ (fun p hp => set2_ne p hp) (set2_same _ _ _ _) (fun w hw => set2_nk _ _ _ _ _ _ hw), rfl⟩
      · have es := lfP_stay z (n - m)
        rw [show m + (n - m) = n by omega] at es
        rw [b_neg z, e_add _ _ _ (by omega)]
        exact ⟨_, lst (u 55 i) (by unfold lastP; rw [es, if_neg z, r55]) u (fun _ _ => rfl) rfl (fun _ _ => rfl), rfl⟩
    · rintro ⟨xx, u⟩ ⟨e1, e2, e3⟩ self
      dsimp only at e1 e2 e3
      subst e1
      unfold g_X6_run_l13
      dsimp only
      rw [e_gF, e2 46 (by omega), q2, b_pos (by omega)]
      refine ⟨u, rfl, fun p hp => by rw [e2 p (by omega), q1 p hp], fun z => (q3 z).fr (fun p h1 h2 => e2 p (by omega)), fun w hw => ?_⟩
      rw [e3 w hw, if_pos hw]
  refine loopF_ex n (fun i (q : Int × Hp) => q.1 = (i : Int) ∧ (∀ p, p < 46 ∨ 55 < p → q.2 p = h p) ∧ q.2 46 5 = (W : Int) ∧ q.2 46 6 = cntP (fun w => lfP (trS P x (h 58) s) (cs w) (fl w) i) (-1) W ∧ (∀ w, w < W → q.2 55 w = lfP (trS P x (h 58) s) (cs w) (fl w) i) ∧ RS P q.2 47 (trS P x (h 58) s i)) ?_ ?_ FU 0 _ (by omega) (fu _ (by omega)) ⟨rfl, fun p hp => g2 p (by omega) (by omega), g3, by rw [c0]; exact g4, g5, hR.fr (fun p _ _ => g2 p (by omega) (by omega))⟩
  · rintro i ⟨xx, q⟩ hi ⟨e1, e2, e3, e4, e5, e6⟩ self
    dsimp only at e1 e2 e3 e4 e5 e6
    subst e1
    unfold g_X6_run_l25
    dsimp only
    rw [b_neg (by omega), e_gF, e3]
    by_cases stop : 0 < W ∧ cntP (fun w => lfP (trS P x (h 58) s) (cs w) (fl w) i) (-1) W ≤ 0
    · right
      (rw [e_join]; (try dsimp only); rw [b_neg (by omega), e_gF, e4, b_pos stop.2])
      exact fin q i (by omega) e2 e3 (fun z => by omega) e5 (fun w hw => Or.inr (cntP_zero stop.2 w hw))
    left
    refine join_exr (fun j30 hj30 => ?_)
    have go : (if (W : Int) = 0 then j30 () else gF q 46 6 fun z42 => if z42 ≤ 0 then j9 q else j30 ()) = j30 () := by
      by_cases z : W = 0
      · rw [if_pos (by omega)]
      · rw [if_neg (by omega), e_gF, e4, if_neg (by omega)]
    rw [go, hj30, e_cI]
    refine join_exr (fun j33 hj33 => ?_)
    have iI := iv i
    -- the work
    have wk : ∃ q1 : Hp, (if (99 : Int) ≤ (i : Int) then j33 q else rdI q (46 + 12) 99 (i : Int) fun z38 => cI (-1) fun z39 => if z38 = z39 then j33 q else rdI q (46 + 12) 99 (i : Int) fun z40 => cV (g_X6_doWork 46 c z40 q) fun h41 => j33 h41) = j33 q1 ∧ RS P q1 47 (workP P x (h 58 i) (trS P x (h 58) s i)) ∧ Fr 47 q q1 := by
      rw [b_neg (by omega), e_rdn _ _ _ _ _ (by omega), show 46 + 12 = 58 from rfl, e2 58 (by omega), e_cI]
      rcases h58 i (by omega) with z | ⟨z0, z1, z2⟩
      · rw [b_pos z, z, workP_no]
        exact ⟨q, rfl, e6, Fr.rf⟩
      · rw [b_neg (by omega), e_rdn _ _ _ _ _ (by omega), e2 58 (by omega)]
        have hbq : PB P q c := hb.hp (fun p _ _ => e2 p (by omega))
        obtain ⟨q1, u1, u2, u3⟩ := k_doWork (x := x) (w := h 58 i) hv hbq hB iI e6 hx (by rw [e2 56 (by omega), (h56 0 z0).1, hx0 z0]) ⟨z1, z2⟩
        rw [u1, e_cV]
        exact ⟨q1, rfl, u2, u3⟩
    obtain ⟨q1, w1, w2, w3⟩ := wk
    have iW := iv_workP (w := h 58 i) iI hv hx
    have f1 : ∀ p, p < 46 ∨ 55 < p → q1 p = h p := fun p hp => by rw [w3 p (by omega), e2 p hp]
    obtain ⟨q2, l1, l2, l3⟩ := k_live (c := c) (v := v) hv (hb.hp (fun p _ _ => f1 p (by omega)) : PB P q1 c) (by omega) (hs.hp (fun p _ _ => f1 p (by omega)) : PS P q1 v) (by omega) (fun p hp => ⟨(hpl p hp).hp (fun p _ _ => f1 p (by omega)), by omega⟩) hB (by omega) iW w2
    have e275 : workP P x (h 58 i) (trS P x (h 58) s i) 275 = s 275 := by rw [workP_far hv hx (by omega), trS_far hI hv hx (by omega)]
    rw [e275] at l1
    have f2 : ∀ p, p < 46 ∨ 55 < p → q2 p = h p := fun p hp => by rw [l3 p (by omega), f1 p hp]
    have g46 : q2 46 = q 46 := by rw [l3 46 (by omega), w3 46 (by omega)]
    have g55 : q2 55 = q 55 := by rw [l3 55 (by omega), w3 55 (by omega)]
    obtain ⟨q3, k1, k2, k3, k4, k5⟩ := k_lookAtFlags (m := i) (W := W) (cs := cs) (fl := fl) (lo := fun w => lfP (trS P x (h 58) s) (cs w) (fl w) i) hv (iv (i + 1)) (s := trS P x (h 58) s (i + 1)) l2 hW (by rw [g46, e3]) (by rw [g46, e4]) (fun w hw => by rw [f2 56 (by omega)]; exact h56 w hw) (fun w hw => by rw [f2 57 (by omega)]; exact h57 w hw) (fun w hw => by rw [g55]; exact e5 w hw)
    rw [w1, hj33, show 46 + 1 = 47 from rfl, l1, e_cV, k1, e_cV, e_add _ _ _ (by omega)]
    refine ⟨((i : Int) + 1, q3), ⟨by dsimp only; omega, fun p hp => ?_, ?_, k5, k4, ?_⟩, rfl⟩
    · dsimp only
      rw [k2 p (by omega) (by omega), f2 p hp]
    · dsimp only
      rw [k3 5 (by omega), g46, e3]
    · exact RS.fr (fun p _ _ => k2 p (by omega) (by omega)) l2
  · rintro ⟨xx, q⟩ ⟨e1, e2, e3, e4, e5, e6⟩ self
    dsimp only at e1 e2 e3 e4 e5 e6
    subst e1
    unfold g_X6_run_l25
    dsimp only
    rw [b_pos (by omega)]
    exact fin q n (Nat.le_refl _) e2 e3 (fun _ => e6) e5 (fun w hw => Or.inl rfl)
/-! TRIALS in the class and in the model: how they begin, what they answer -/
def bg (h : Hp) (p seed : Int) : Nat → Int := upd1 (putP (h 121) p) 288 seed
def bgM (h : Hp) (g : Hp) (p seed : Int) : Nat → Int := fun j => if j < 289 then bg h p seed j else g 122 j
theorem bg_lo {h : Hp} {p seed : Int} {j : Nat} (hj : j < 275) : bg h p seed j = h 121 j := by
  unfold bg
  rw [upd1_ne _ _ _ _ (by omega), putP_out (by omega)]
theorem bg_275 {h : Hp} {p seed : Int} : bg h p seed 275 = p := by
  unfold bg
  rw [upd1_ne _ _ _ _ (by omega), putP_275]
theorem bgM_ag {h g : Hp} {p seed : Int} : Ag 289 (bg h p seed) (bgM h g p seed) := fun j hj => by unfold bgM; rw [if_pos hj]
theorem ag_iv {P : Hp} {B T : Int} {s t : Nat → Int} (h : IV P B T s) (hv : PV P) (e : Ag 289 s t) : IV P B T t := h.cong hv e
theorem iv_bg {h : Hp} {n : Nat} {p seed : Int} (r : Rel n h) (hp : -1 ≤ p ∧ p < h 100 41) (hs : 0 ≤ seed ∧ seed < 2147483648) : IV h 6336 (360 * n) (bg h p seed) :=
  iv_chance (iv_putP r.2.2.2.2.1.1 r.1 hp) r.1 hs
def TF (h g : Hp) : Prop := ∀ p, p < 46 ∨ 58 < p → g p = h p
theorem TE.pm {P Q : Hp} (f : PM P Q) : TE P Q := TE.of (fun p a b => f p ⟨a, b⟩)
theorem TF.rf {h : Hp} : TF h h := fun _ _ => rfl
theorem tf_beach {R : Type} {h g : Hp} {c : Nat} (rb : BchR h c) (f : TF h g) (K : Nat → Option R) : gR g 0 1 [3, 9] K = K c := e_gR g 0 1 c [3, 9] K (by rw [f 0 (by omega)]; exact rb.ref.1) rb.ref.2
theorem tf_sea {R : Type} {h g : Hp} {v : Nat} (rs : SeaR h v) (f : TF h g) (K : Nat → Option R) : gR g 0 3 [15, 20] K = K v := e_gR g 0 3 v [15, 20] K (by rw [f 0 (by omega)]; exact rs.ref.1) rs.ref.2
theorem tf_pb {h g : Hp} {c : Nat} (rb : BchR h c) (f : TF h g) : PB h g c := rb.2.2.1.hp (fun p _ _ => f p (by rcases rb.1 with q | q <;> omega))
theorem tf_ps {h g : Hp} {v : Nat} (rs : SeaR h v) (f : TF h g) : PS h g v := rs.2.2.1.hp (fun p _ _ => f p (by rcases rs.1 with q | q <;> omega))
theorem tf_pl {h g : Hp} (hv : PV h) (rp : PlsR h) (f : TF h g) : ∀ p : Nat, p < (h 100 41).toNat → PL h g p := fun p hp => (rp.2 p hp).hp (fun q _ _ => f q (by omega))
theorem tf_plan {h g : Hp} {x : Int} (rp : PlsR h) (hv : PV h) (f : TF h g) (hx : -1 ≤ x ∧ x < h 100 41) : g_X8_planOrNull x g = some (planRef x) := by
  have h41 := (pv_plan hv).1
  unfold g_X8_planOrNull planRef
  by_cases b : x = -1
  · rw [b_pos (by omega), if_pos b]
  · obtain ⟨p, rfl⟩ := Int.eq_ofNat_of_zero_le (show 0 ≤ x by omega)
    rw [b_neg (by omega), e_gF, f 0 (by omega), rp.1, b_neg (by omega), e_rdQ _ _ _ _ _ (by omega), if_neg b]
    congr 1
theorem tf_start {h g : Hp} {n : Nat} {p seed : Int} (r : Rel n h) (f : TF h g) (hp : -1 ≤ p ∧ p < h 100 41) (hs : 0 ≤ seed ∧ seed < 2147483648) :
    ∃ g', g_X6_start 46 26 p seed g = some g' ∧ TF h g' ∧ RS h g' 47 (bg h p seed) ∧ g' 46 5 = 0 ∧ ∀ m, m < 99 → g' 58 m = -1 := by
  obtain ⟨hv, -, -, -, ⟨hI, hR, -⟩, -⟩ := r
  have hR' : RS h g 26 (h 121) := hR.hp (fun q _ _ => f q (by omega))
  obtain ⟨g1, u1, u2, u3⟩ := k_copyFrom (b := 47) hv (by omega) hI.2.2.2.1 hR'
  obtain ⟨g2, w1, w2, w3⟩ := k_hold (p := p) hv hp u2
  have hc : RS h (set2 g2 47 8 seed) 47 (bg h p seed) := w2.chance hv (iv_putP hI hv hp).2.2.2.1
  unfold g_X6_start
  rw [show 46 + 1 = 47 from rfl, u1, e_cV, w1, e_cV, e_pF, e_cI, e_fill, e_cV, e_cI, e_pF]
  refine ⟨_, rfl, fun q hq => ?_, ?_, ?_, fun m hm => ?_⟩
  · rw [set2_ne q (by omega), fillR_ne (by omega), set2_ne q (by omega), w3 q (by omega), u3 q (by omega), f q hq]
  · exact hc.fr (fun q _ _ => by rw [set2_ne q (by omega), fillR_ne (by omega)])
  · rw [set2_same]
  · rw [set2_np _ _ _ _ _ _ (by omega), show 46 + 12 = 58 from rfl, fillR_in hm]
/-- a flag's cell and floor -/
def fc (h : Hp) (k : Nat) : Nat := (h 106 k).toNat
def ffl (h : Hp) (k : Nat) : Int := if h 121 (264 + k) = -1 then h 121 (260 + k) - h 102 4 else 2147483647
theorem fc_in {h : Hp} {k : Nat} (hv : PV h) (hk : k < (h 100 12).toNat) : h 106 k = (fc h k : Int) ∧ fc h k < nN h := by
  have := (pv_flags hv).2.1 k hk
  unfold fc
  omega
theorem fc_row {h : Hp} {n k : Nat} (r : Rel n h) (hk : k < (h 100 12).toNat) : h 121 (256 + k) = (fc h k : Int) ∧ h 121 (260 + k) = h 102 0 + h 104 (fc h k) ∧ h 26 7 = h 121 275 := by
  obtain ⟨hv, -, -, -, ⟨hI, hR, -⟩, -⟩ := r
  have := hR.1.2.2.1.2 k hk
  exact ⟨by rw [this.2.1]; exact (fc_in hv hk).1, this.2.2, hR.1.2.2.2.1.1⟩
theorem k_watch {g : Hp} {W : Nat} {x fl : Int} (hW : W < 2) (h5 : g 46 5 = (W : Int)) : g_X6_watch 46 x fl g = some (set2 (set2 (set2 g 56 W x) 57 W fl) 46 5 ((W : Int) + 1)) := by
  unfold g_X6_watch
  (rw [e_gF, h5, e_cI, e_join]; (try dsimp only); rw [b_neg (by omega), e_gF, h5, e_wrn _ _ _ _ _ _ (by omega), e_gF, set2_np _ _ _ _ _ _ (by omega), h5, e_wrn _ _ _ _ _ _ (by omega), e_gF, set2_np _ _ _ _ _ _ (by omega), set2_np _ _ _ _ _ _ (by omega), h5, e_cI, e_add _ _ _ (by omega), e_pF])
theorem tf_watchFlag {h g : Hp} {n W k : Nat} {c : Nat} {p seed : Int} (r : Rel n h) (rb : BchR h c) (f : TF h g) (hR : RS h g 47 (bg h p seed)) (hk : k < (h 100 12).toNat) (hW : W < 2) (h5 : g 46 5 = (W : Int)) :
    g_X6_watchFlag 46 c (k : Int) g = some (set2 (set2 (set2 g 56 W (fc h k : Int)) 57 W (ffl h k)) 46 5 ((W : Int) + 1)) := by
  have hv := r.1
  have hN := hv.n
  obtain ⟨q1, q2⟩ := fc_in hv hk
  obtain ⟨q3, q4, -⟩ := fc_row r hk
  have h12 := (pv_flags hv).1
  have hhp := (pv_flags hv).2.2 (fc h k) (by omega)
  have pb := tf_pb rb f
  have e4 := pb.2.2.2.1 k hk
  have e5 := (hR.1.2.2.1.2 k hk).1
  rw [bg_lo (by omega)] at e5
  obtain ⟨-, -, s1, s2, s3, s4, s5, -⟩ := hv
  unfold g_X6_watchFlag
  rw [e_rdn _ _ _ _ _ (by omega), e4, q1, e_rdn _ _ _ _ _ (by omega), show 46 + 6 = 47 + 5 from rfl, e5, e_cI]
  refine join_gen (fun j5 hj5 => ?_)
  have go : ∀ y, y = ffl h k → (joinF (fun (a7 : Int) => cV (g_X6_watch 46 (fc h k : Int) a7 g) fun h10 => some h10) fun j8 => j8 y) = some (set2 (set2 (set2 g 56 W (fc h k : Int)) 57 W (ffl h k)) 46 5 ((W : Int) + 1)) := by
    intro y hy
    (rw [e_join]; (try dsimp only); rw [hy, k_watch hW h5, e_cV])
  by_cases z : h 121 (264 + k) = -1
  · (rw [b_pos z, e_cI, hj5, e_join]; (try dsimp only); rw [b_pos rfl, k_firstHeight pb r.1 (by omega), e_cP, k_fall pb, e_cP, e_sub _ _ _ (by omega)])
    exact go _ (by unfold ffl; rw [if_pos z, q4])
  · (rw [b_neg z, e_cI, hj5, e_join]; (try dsimp only); rw [b_neg (by decide), e_cI])
    exact go _ (by unfold ffl; rw [if_neg z])
/-- LAST of a flag -/
def valP (h : Hp) (k : Nat) (p seed : Int) (wk : Nat → Int) (n : Nat) : Int := lastP (trS h (fc h k) wk (bg h p seed)) (fc h k) (ffl h k) n
theorem valP_congr {h : Hp} {k : Nat} {p seed : Int} {wk wk2 : Nat → Int} {n : Nat} (e : ∀ m, m < n → wk m = wk2 m) : valP h k p seed wk n = valP h k p seed wk2 n :=
  lastP_congr (fun m hm => by rw [trS_congr m (fun j hj => e j (by omega))])
theorem tf_run1 {h g : Hp} {n M k c v : Nat} {p seed : Int} {wk : Nat → Int} (r : Rel n h) (hn : n ≤ 600) (rb : BchR h c) (rs : SeaR h v) (f : TF h g) (hp : -1 ≤ p ∧ p < h 100 41) (hs : 0 ≤ seed ∧ seed < 2147483648) (hR : RS h g 47 (bg h p seed)) (hk : k < (h 100 12).toNat)
    (h5 : g 46 5 = 1) (h56 : g 56 0 = (fc h k : Int)) (h57 : g 57 0 = ffl h k) (h58 : ∀ m, m < 99 → g 58 m = -1 ∨ (0 ≤ g 58 m ∧ g 58 m ≤ 3)) (hwk : ∀ m, m < 99 → g 58 m = wk m) (hM : 1 ≤ M ∧ M ≤ 99) :
    ∃ g', g_X6_run 46 c v (planRef p) (M : Int) g = some g' ∧ TF h g' ∧ g' 55 0 = valP h k p seed wk M := by
  have hv := r.1
  obtain ⟨-, q2⟩ := fc_in hv hk
  have i0 := iv_bg r hp hs
  obtain ⟨g', u1, u2, -, u4⟩ := k_run (c := c) (v := v) (W := 1) (n := M) (x := fc h k) (cs := fun _ => fc h k) (fl := fun _ => ffl h k) hv (tf_pb rb f) rb.1 (tf_ps rs f) rs.1 (tf_pl hv r.2.2.2.1 f) (by omega) (by omega) i0 hR (by omega) (by rw [h5]; rfl)
    (fun w hw => (by rw [show w = 0 by omega]; exact ⟨h56, q2⟩)) (fun w hw => (by rw [show w = 0 by omega]; exact h57)) q2 (fun _ => rfl) (fun m hm => (h58 m hm).imp id (fun y => ⟨by omega, y⟩)) hM
  rw [bg_275] at u1
  refine ⟨g', u1, fun q hq => by rw [u2 q (by omega), f q hq], ?_⟩
  rw [u4 0 (by omega)]
  exact lastP_congr (fun m hm => by rw [trS_congr m (fun j hj => hwk j (by omega))])
/-! the model's trial -/
theorem m_begin {h g : Hp} {p seed : Int} (e : g 121 = h 121) : g_X9_beginTrial p seed g = some (setRow g 122 (bgM h g p seed)) := by
  unfold g_X9_beginTrial
  rw [e_cI]
  refine join_gen (fun j3 hj3 => ?_)
  refine loopF_for' 289 (fun i => ((i : Int), setRow g 122 (fun j => if j < i then h 121 j else g 122 j))) ?_ ?_ ?_ (fu _ (by omega))
  · intro i hi self
    unfold g_X9_beginTrial_l9
    dsimp only
    rw [e_cI, b_neg (by omega), e_rdn _ _ _ _ _ (by omega), setRow_ne _ _ _ _ (by omega), e, e_wrR _ _ _ _ _ _ (by omega), setRow_same, setRow_setRow, e_add _ _ _ (by omega), Int.toNat_natCast, show ((i + 1 : Nat) : Int) = (i : Int) + 1 by omega]
    congr 1
    refine Prod.ext rfl ?_
    dsimp only
    congr 1
    funext j
    unfold upd1
    try dsimp only
    by_cases z : j = i
    · rw [if_pos z, if_pos (by omega), z]
    · rw [if_neg z]
      by_cases z2 : j < i
      · rw [if_pos z2, if_pos (by omega)]
      · rw [if_neg z2, if_neg (by omega)]
  · intro self
    unfold g_X9_beginTrial_l9
    dsimp only
    rw [e_cI, b_pos (by omega), hj3, e_cI, e_wrR _ _ _ _ _ _ (by omega), setRow_same, setRow_setRow, m_putPlan, e_cV]
    congr 2
    funext j
    unfold bgM bg putP upd1
    simp only [Int.reduceToNat]
    by_cases z5 : j = 275
    · rw [if_pos z5, if_pos (by omega), if_neg (by omega), if_pos z5]
    rw [if_neg z5]
    by_cases z6 : 276 ≤ j ∧ j < 288
    · rw [if_pos z6, if_pos (by omega), if_neg (by omega), if_neg z5, if_pos z6]
    rw [if_neg z6]
    by_cases z8 : j = 288
    · rw [if_pos z8, if_pos (by omega), if_pos z8]
    rw [if_neg z8]
    by_cases z9 : j < 289
    · rw [if_pos z9, if_pos z9, if_neg z8, if_neg z5, if_neg z6]
    · rw [if_neg z9, if_neg z9]
  · refine Prod.ext rfl ?_
    dsimp only
    have : (fun j => if j < 0 then h 121 j else g 122 j) = g 122 := by funext j; rw [if_neg (by omega)]
    rw [this, setRow_self]
theorem m_lastOf {g : Hp} {s : Nat → Int} {k M : Nat} {T : Int} (hk : k < 4) (h1 : -1 ≤ s (264 + k) ∧ s (264 + k) ≤ T + 100) (h2 : 0 ≤ g 121 270 ∧ g 121 270 ≤ T) (hT : T ≤ 1000000) :
    g_X9_lastOf (k : Int) (M : Int) (setRow g 122 s) = some (if s (264 + k) = -1 then (M : Int) else if 0 < s (264 + k) - g 121 270 then s (264 + k) - g 121 270 else 0) := by
  unfold g_X9_lastOf
  rw [e_cI, e_add _ _ _ (by omega), show (264 : Int) + (k : Int) = ((264 + k : Nat) : Int) by omega, e_rdn _ _ _ _ _ (by omega), setRow_same, e_cI]
  by_cases z : s (264 + k) = -1
  · rw [b_pos z, if_pos z]
  · rw [b_neg z, if_neg z, e_cI, e_cI, e_add _ _ _ (by omega), show (264 : Int) + (k : Int) = ((264 + k : Nat) : Int) by omega, e_rdn _ _ _ _ _ (by omega), setRow_same, e_cI, e_rd _ _ _ _ _ (by omega), setRow_ne _ _ _ _ (by omega), show (270 : Int).toNat = 270 from rfl, e_sub _ _ _ (by omega), e_max]
/-- what the model's LAST is, behind its minutes -/
theorem m_lastV {h g : Hp} {n k M : Nat} {p seed : Int} {wk : Nat → Int} (r : Rel n h) (hn : n ≤ 600) (e : g 121 = h 121) (hp : -1 ≤ p ∧ p < h 100 41) (hs : 0 ≤ seed ∧ seed < 2147483648) (hk : k < (h 100 12).toNat) (hM : 1 ≤ M ∧ M ≤ 99) (g2 : Hp) :
    g_X9_lastOf (k : Int) (M : Int) (setRow g 122 (trS h (fc h k) wk (bgM h g2 p seed) M)) = some (valP h k p seed wk M) := by
  have hv := r.1
  have hN := hv.n
  have h12 := (pv_flags hv).1
  have r4 := r.2.2.2.2.1
  have i0 := iv_bg r hp hs
  have i1 := ag_iv i0 hv (bgM_ag (g := g2))
  obtain ⟨q1, q2⟩ := fc_in hv hk
  have eM : (bgM h g2 p seed) 268 = h 100 12 := by rw [bgM_ag 268 (by omega), bg_lo (by omega)]; exact r4.2.2
  have lo : ∀ j, j < 275 → bgM h g2 p seed j = h 121 j := fun j hj => by rw [bgM_ag j (by omega), bg_lo hj]
  have iM := iv_trS (x := fc h k) (wk := wk) i1 hv q2 M
  have f1 := iM.2.2.1
  have m1 := trS_far (x := fc h k) (wk := wk) (j := 268) i1 hv q2 (by omega) M
  have fk := (f1.2.2 k (by rw [m1, eM]; exact hk)).2.2
  have h270 := r4.1.2.2.1.1
  rw [m_lastOf (T := 360 * (n : Int)) (by omega) ⟨fk.1, by have := f1.1; omega⟩ (by rw [e]; exact h270) (by omega), e]
  have := last_eq (wk := wk) (n := M) hv i1 q2 (by omega) (by rw [eM]; exact hk) (c := fc h k) (fl := ffl h k) (by rw [lo _ (by omega)]; exact (fc_row r hk).1) (by unfold ffl; rw [lo _ (by omega), lo _ (by omega)]) hM.1
  rw [lo 270 (by omega)] at this
  rw [this]
  congr 1
  exact lastP_congr (fun m hm => ag_trS (by omega) hv (Or.inr (Nat.le_refl _)) i0 q2 bgM_ag m _ (by omega))
theorem m_min1 {h g : Hp} {n x m : Nat} {p seed : Int} (r : Rel n h) (hn : n ≤ 600) (hg : PM h g) (hp : -1 ≤ p ∧ p < h 100 41) (hs : 0 ≤ seed ∧ seed < 2147483648) (hx : x < nN h) (hm : m < 99) (g2 : Hp) :
    g_X9_minute 122 (setRow g 122 (trS h x (fun _ => -1) (bgM h g2 p seed) m)) = some (setRow g 122 (trS h x (fun _ => -1) (bgM h g2 p seed) (m + 1))) := by
  have hv := r.1
  have i1 := ag_iv (iv_bg r hp hs) hv (bgM_ag (g := g2))
  rw [m_minute hg hv (by omega) (by omega) (by omega) (iv_trS i1 hv hx m)]
  show _ = some (setRow g 122 (minuteP h (workP h x (-1) _)))
  rw [workP_no]
theorem m_works {h g : Hp} {B T w : Int} {k x : Nat} {s : Nat → Int} (hv : PV h) (hg : PM h g) (hI : IV h B T s) (hB : B ≤ 10000) (hk : k < 4) (hx : x < nN h) (e : g 121 (256 + k) = (x : Int)) (hw : 0 ≤ w ∧ w ≤ 3) :
    g_X9_works w (k : Int) (setRow g 122 s) = some (setRow g 122 (workP h x w s)) := by
  have hN := hv.n
  obtain ⟨c10, c11, c1, c2, -, -⟩ := hv.cr
  have g10 : ∀ s : Nat → Int, setRow g 122 s 100 10 = (cN h : Int) := fun s => by rw [setRow_ne _ _ _ _ (by omega), hg 100 (by omega), c10]
  have g11 : ∀ s : Nat → Int, setRow g 122 s 100 11 = (rN h : Int) := fun s => by rw [setRow_ne _ _ _ _ (by omega), hg 100 (by omega), c11]
  have hnn := PV.nn (P := h)
  have cell : ∀ j : Nat, j < nN h → (0 ≤ s j ∧ s j ≤ 10000) ∧ (0 ≤ s (64 + j) ∧ s (64 + j) ≤ 16) ∧ (0 ≤ s (128 + j) ∧ s (128 + j) ≤ 4) := fun j hj => by
    have := hI.1 j hj
    have := hI.le hj
    omega
  unfold g_X9_works workP
  rw [e_cI, e_add _ _ _ (by omega), show (256 : Int) + (k : Int) = ((256 + k : Nat) : Int) by omega, e_rdn _ _ _ _ _ (by omega), setRow_ne _ _ _ _ (by omega), e, e_gF, g10]
  refine join_gen (fun j6 hj6 => ?_)
  have go : ∀ a5 : Int, a5 = (if (x : Int) < (cN h : Int) then 0 else 1) → j6 a5 = some (setRow g 122 (if w = 3 then doesP s 2 x 0 else if w = 2 then (if x + cN h < nN h then doesP s 0 (x + cN h) x else s) else if w = 1 then (if cN h ≤ x then doesP s 0 (x - cN h) x else s) else if w = 0 then (if cN h ≤ x then doesP s 3 (x - cN h) 0 else s) else s)) := by
    intro a5 ha5
    rw [hj6, e_gF, g10, e_add _ _ _ (by omega), e_gF, g10, e_gF, g11, e_mul _ _ _ (by rw [hnn]; omega), hnn]
    refine join_gen (fun j14 hj14 => ?_)
    have go2 : ∀ a13 : Int, a13 = (if (nN h : Int) ≤ (x : Int) + (cN h : Int) then 0 else 1) → j14 a13 = some (setRow g 122 (if w = 3 then doesP s 2 x 0 else if w = 2 then (if x + cN h < nN h then doesP s 0 (x + cN h) x else s) else if w = 1 then (if cN h ≤ x then doesP s 0 (x - cN h) x else s) else if w = 0 then (if cN h ≤ x then doesP s 3 (x - cN h) 0 else s) else s)) := by
      intro a13 ha13
      rw [hj14]
      refine join_gen (fun j17 hj17 => ?_)
      rcases (by omega : w = 0 ∨ w = 1 ∨ w = 2 ∨ w = 3) with rfl | rfl | rfl | rfl
      · rw [if_neg (show ¬ (0 : Int) = 3 by decide), if_neg (show ¬ (0 : Int) = 2 by decide), if_neg (show ¬ (0 : Int) = 1 by decide), if_pos (show (0 : Int) = 0 from rfl), if_pos (show (0 : Int) = 0 from rfl)]
        have tail : ∀ a : Hp, j17 a = some a := by
          intro a
          (rw [hj17, e_cI, e_join]; (try dsimp only); rw [b_neg (by decide), e_cI, e_join]; (try dsimp only); rw [b_neg (by decide), e_cI, e_join]; (try dsimp only); rw [b_neg (by decide)])
        by_cases z : (x : Int) < (cN h : Int)
        · rw [ha5, if_pos z, if_pos rfl, tail, if_neg (by omega)]
        · have hd := m_does (h := g) (q := 122) (s := s) (k := 3) (c := (x : Int) - (cN h : Int)) (t := -1) (by omega) (fun _ => by omega) (fun y => absurd y (by decide)) (fun j hj => cell j (by omega))
          rw [show ((x : Int) - (cN h : Int)).toNat = x - cN h by omega] at hd
          rw [ha5, if_neg z, if_neg (by decide), e_cI, e_gF, g10, e_sub _ _ _ (by omega), e_cI, hd, e_cV, tail, if_pos (by omega)]
          rfl
      · rw [if_neg (show ¬ (1 : Int) = 3 by decide), if_neg (show ¬ (1 : Int) = 2 by decide), if_pos (show (1 : Int) = 1 from rfl), if_neg (show ¬ (1 : Int) = 0 by decide), hj17, e_cI]
        refine join_gen (fun j21 hj21 => ?_)
        have tail : ∀ a : Hp, j21 a = some a := by
          intro a
          (rw [hj21, e_cI, e_join]; (try dsimp only); rw [b_neg (by decide), e_cI, e_join]; (try dsimp only); rw [b_neg (by decide)])
        rw [if_pos (show (1 : Int) = 1 from rfl)]
        by_cases z : (x : Int) < (cN h : Int)
        · rw [ha5, if_pos z, if_pos rfl, tail, if_neg (by omega)]
        · have hd := m_does (h := g) (q := 122) (s := s) (k := 0) (c := (x : Int) - (cN h : Int)) (t := (x : Int)) (by omega) (fun _ => by omega) (fun _ => by omega) (fun j hj => cell j (by omega))
          rw [show ((x : Int) - (cN h : Int)).toNat = x - cN h by omega, Int.toNat_natCast] at hd
          rw [ha5, if_neg z, if_neg (by decide), e_cI, e_gF, g10, e_sub _ _ _ (by omega), hd, e_cV, tail, if_pos (by omega)]
      · (rw [if_neg (show ¬ (2 : Int) = 3 by decide), if_pos (show (2 : Int) = 2 from rfl), if_neg (show ¬ (2 : Int) = 0 by decide), hj17, e_cI, e_join]; (try dsimp only); rw [b_neg (by decide), e_cI])
        refine join_gen (fun j25 hj25 => ?_)
        have tail : ∀ a : Hp, j25 a = some a := by
          intro a
          (rw [hj25, e_cI, e_join]; (try dsimp only); rw [b_neg (by decide)])
        rw [if_pos (show (2 : Int) = 2 from rfl)]
        by_cases z : (nN h : Int) ≤ (x : Int) + (cN h : Int)
        · rw [ha13, if_pos z, if_pos rfl, tail, if_neg (by omega)]
        · have hd := m_does (h := g) (q := 122) (s := s) (k := 0) (c := (x : Int) + (cN h : Int)) (t := (x : Int)) (by omega) (fun _ => by omega) (fun _ => by omega) (fun j hj => cell j (by omega))
          rw [show ((x : Int) + (cN h : Int)).toNat = x + cN h by omega, Int.toNat_natCast] at hd
          rw [ha13, if_neg z, if_neg (by decide), e_cI, e_gF, g10, e_add _ _ _ (by omega), hd, e_cV, tail, if_pos (by omega)]
      · have hd := m_does (h := g) (q := 122) (s := s) (k := 2) (c := (x : Int)) (t := -1) (by omega) (fun _ => by omega) (fun y => absurd y (by decide)) (fun j hj => cell j (by omega))
        rw [Int.toNat_natCast] at hd
        (rw [if_pos (show (3 : Int) = 3 from rfl), if_neg (show ¬ (3 : Int) = 0 by decide), hj17, e_cI, e_join]; (try dsimp only); rw [b_neg (by decide), e_cI, e_join]; (try dsimp only); rw [b_neg (by decide), e_cI])
        refine join_gen (fun j29 hj29 => ?_)
        rw [if_pos (show (3 : Int) = 3 from rfl), e_cI, e_cI, hd, e_cV, hj29]
        rfl
    by_cases z : (nN h : Int) ≤ (x : Int) + (cN h : Int)
    · rw [b_pos z, e_cI, go2 _ (by rw [if_pos z])]
    · rw [b_neg z, e_cI, go2 _ (by rw [if_neg z])]
  by_cases z : (x : Int) < (cN h : Int)
  · rw [b_pos z, e_cI, go _ (by rw [if_pos z])]
  · rw [b_neg z, e_cI, go _ (by rw [if_neg z])]
theorem m_fin1 {h g : Hp} {n x m : Nat} {seed : Int} {wk : Nat → Int} {s2 : Nat → Int} (r : Rel n h) (hn : n ≤ 600) (hg : PM h g) (hs : 0 ≤ seed ∧ seed < 2147483648) (hx : x < nN h) (hm : m < 99) (g2 : Hp) (e : s2 = workP h x (wk m) (trS h x wk (bgM h g2 (-1) seed) m)) :
    g_X9_finish 122 (setRow g 122 s2) = some (setRow g 122 (trS h x wk (bgM h g2 (-1) seed) (m + 1))) := by
  have hv := r.1
  have h41 := (pv_plan hv).1
  have i0 := ag_iv (iv_bg r (p := -1) (by omega) hs) hv (bgM_ag (g := g2))
  have i1 := iv_workP (w := wk m) (iv_trS (wk := wk) i0 hv hx m) hv hx
  rw [← e] at i1
  rw [m_finish hg hv (by omega) (by omega) (by omega) i1]
  show _ = some (setRow g 122 (minuteP h (workP h x (wk m) (trS h x wk (bgM h g2 (-1) seed) m))))
  rw [← e]
  unfold minuteP handsP
  rw [if_pos]
  rw [e, workP_far hv hx (by omega), trS_far i0 hv hx (by omega), bgM_ag 275 (by omega), bg_275]
/-! CALLS that run trials: last, pail, row, again -/
def okSpan (x : Int) : Prop := 1 ≤ x ∧ x ≤ 99
theorem k_isSpan_t {x : Int} (h : okSpan x) : g_X8_isSpan x = some 1 := by
  unfold okSpan at h
  unfold g_X8_isSpan
  (rw [e_cI, e_join]; (try dsimp only); rw [e_join]; (try dsimp only); rw [b_neg (by omega), e_cI, b_neg (by omega), e_cI])
  exact e_retZ1
theorem k_isSpan_f {x : Int} (h : ¬ okSpan x) : g_X8_isSpan x = some 0 := by
  unfold okSpan at h
  unfold g_X8_isSpan
  (rw [e_cI, e_join]; (try dsimp only); rw [e_join]; (try dsimp only))
  by_cases b : x < 1
  · rw [b_pos b, e_cI]
    exact e_retZ0
  · rw [b_neg b, e_cI, b_pos (by omega), e_cI]
    exact e_retZ0
theorem m_areMinutes_t {x : Int} (h : okSpan x) : g_X9_areMinutes x = some 1 := by
  unfold g_X9_areMinutes
  rw [e_i2l, e_cI, e_cI, e_in_t _ _ _ _ h]
  exact e_retZ1
theorem m_areMinutes_f {x : Int} (h : ¬ okSpan x) : g_X9_areMinutes x = some 0 := by
  unfold okSpan at h
  unfold g_X9_areMinutes
  rw [e_i2l, e_cI, e_cI, e_in_f _ _ _ _ (by omega)]
  exact e_retZ0
def okSeeds (x : Int) : Prop := 1 ≤ x ∧ x ≤ 9
theorem k_isSeeds_t {x : Int} (h : okSeeds x) : g_X8_isSeeds x = some 1 := by
  unfold okSeeds at h
  unfold g_X8_isSeeds
  (rw [e_cI, e_join]; (try dsimp only); rw [e_join]; (try dsimp only); rw [b_neg (by omega), e_cI, b_neg (by omega), e_cI])
  exact e_retZ1
theorem k_isSeeds_f {x : Int} (h : ¬ okSeeds x) : g_X8_isSeeds x = some 0 := by
  unfold okSeeds at h
  unfold g_X8_isSeeds
  (rw [e_cI, e_join]; (try dsimp only); rw [e_join]; (try dsimp only))
  by_cases b : x < 1
  · rw [b_pos b, e_cI]
    exact e_retZ0
  · rw [b_neg b, e_cI, b_pos (by omega), e_cI]
    exact e_retZ0
theorem m_areSeeds_t {x : Int} (h : okSeeds x) : g_X9_areSeeds x = some 1 := by
  unfold g_X9_areSeeds
  rw [e_i2l, e_cI, e_cI, e_in_t _ _ _ _ h]
  exact e_retZ1
theorem m_areSeeds_f {x : Int} (h : ¬ okSeeds x) : g_X9_areSeeds x = some 0 := by
  unfold okSeeds at h
  unfold g_X9_areSeeds
  rw [e_i2l, e_cI, e_cI, e_in_f _ _ _ _ (by omega)]
  exact e_retZ0
def okFlag (h : Hp) (x : Int) : Prop := 0 ≤ x ∧ x < h 100 12
theorem k_isFlag_t {h : Hp} {c : Nat} {x : Int} (rb : BchR h c) (o : okFlag h x) : g_X8_isFlag x h = some 1 := by unfold okFlag at o; rw [k_isFlag rb, if_neg (by omega), if_neg (by omega)]
theorem k_isFlag_f {h : Hp} {c : Nat} {x : Int} (rb : BchR h c) (o : ¬ okFlag h x) : g_X8_isFlag x h = some 0 := by
  unfold okFlag at o
  rw [k_isFlag rb]
  split
  · rfl
  · rw [if_pos (by omega)]
theorem m_isFlag_t {h : Hp} {x : Int} (hv : PV h) (o : okFlag h x) : g_X9_isFlag x h = some 1 := by unfold okFlag at o; rw [m_isFlag hv, if_neg (by omega), if_neg (by omega)]
theorem m_isFlag_f {h : Hp} {x : Int} (hv : PV h) (o : ¬ okFlag h x) : g_X9_isFlag x h = some 0 := by
  unfold okFlag at o
  rw [m_isFlag hv]
  split
  · rfl
  · rw [if_pos (by omega)]
def okPlan (h : Hp) (x : Int) : Prop := -1 ≤ x ∧ x < h 100 41
theorem k_isPlan_t {h : Hp} {x : Int} (rp : PlsR h) (o : okPlan h x) : g_X8_isPlanOrNone x h = some 1 := by unfold okPlan at o; rw [k_isPlanOrNone rp, if_neg (by omega), if_neg (by omega)]
theorem k_isPlan_f {h : Hp} {x : Int} (rp : PlsR h) (o : ¬ okPlan h x) : g_X8_isPlanOrNone x h = some 0 := by
  unfold okPlan at o
  rw [k_isPlanOrNone rp]
  split
  · rfl
  · rw [if_pos (by omega)]
theorem Rel.trial {n : Nat} {h h2 : Hp} (r : Rel n h) (f : ∀ p, p ≠ 122 → (p < 46 ∨ 58 < p) → h2 p = h p) : Rel (n + 1) h2 :=
  r.quiet (by omega) (fun p _ => f p (by omega) (by omega)) (fun p _ _ => f p (by omega) (by omega)) (fun p _ => f p (by omega) (by omega))
theorem Rel.pm1 {h g : Hp} (f : TF h g) : PM h g := fun p hp => f p (by omega)
theorem s_last {n : Nat} {h : Hp} {x1 x2 x3 x4 : Int} (hn : n ≤ 600) (hx3 : inR x3) (r : Rel n h) : ∃ z h1 h2, g_X8_last x1 x2 x3 x4 h = some (z, h1) ∧ g_X9_last x1 x2 x3 x4 h1 = some (z, h2) ∧ Rel (n + 1) h2 := by
  have r' := r
  obtain ⟨hv, ⟨c, rb⟩, ⟨v, rs⟩, rp, -⟩ := r'
  unfold inR at hx3
  have h41 := (pv_plan hv).1
  have h12 := (pv_flags hv).1
  unfold g_X8_last g_X9_last
  by_cases o1 : okFlag h x1
  rotate_left
  · refine ⟨-2, h, h, ?_, ?_, r.next⟩
    · (rw [k_isFlag_f rb o1, e_cP, e_join]; (try dsimp only); rw [b_pos rfl, e_cI])
    · (rw [m_isFlag_f hv o1, e_cP, e_join]; (try dsimp only); rw [b_pos rfl, e_cI])
  rw [k_isFlag_t rb o1, e_cP]
  by_cases o2 : okPlan h x2
  rotate_left
  · refine ⟨-2, h, h, ?_, ?_, r.next⟩
    · (rw [e_join]; (try dsimp only); rw [b_neg (by decide), k_isPlan_f rp o2, e_cP, b_pos rfl, e_cI])
    · unfold okPlan at o2
      (rw [m_isFlag_t hv o1, e_cP, e_join]; (try dsimp only); rw [b_neg (by decide), e_cI, e_join]; (try dsimp only); rw [b_neg (by omega), m_isPlan hv, e_cP])
      have : (if x2 < 0 then (0 : Int) else if h 100 41 - 1 < x2 then 0 else 1) = 0 := by split <;> (try split) <;> omega
      rw [this, b_pos rfl, e_cI]
  have mplan : ∀ (g : Hp) (K : Unit → Option (Int × Hp)) (F : Option (Int × Hp)), PM h g → (if x2 = -1 then K () else cP (g_X9_isPlan x2 g) fun z18 => if z18 = 0 then F else K ()) = K () := by
    intro g K F hg
    unfold okPlan at o2
    by_cases z : x2 = -1
    · rw [if_pos z]
    · have : PV g := hv.te (TE.pm hg)
      rw [if_neg z, m_isPlan this, e_cP, hg 100 (by omega), if_neg (show ¬ x2 < 0 by omega), if_neg (show ¬ h 100 41 - 1 < x2 by omega), if_neg (by decide)]
  by_cases o3 : x3 < 0
  · refine ⟨-2, h, h, ?_, ?_, r.next⟩
    · (rw [e_join]; (try dsimp only); rw [b_neg (by decide), k_isPlan_t rp o2, e_cP, b_neg (by decide), b_pos o3, e_cI])
    · (rw [m_isFlag_t hv o1, e_cP, e_join]; (try dsimp only); rw [b_neg (by decide), e_cI])
      refine join_gen (fun j7 hj7 => ?_)
      rw [mplan h j7 _ (fun _ _ => rfl), hj7, b_pos o3, e_cI]
  by_cases o4 : okSpan x4
  rotate_left
  · refine ⟨-2, h, h, ?_, ?_, r.next⟩
    · (rw [e_join]; (try dsimp only); rw [b_neg (by decide), k_isPlan_t rp o2, e_cP, b_neg (by decide), b_neg o3, k_isSpan_f o4, e_cP, b_pos rfl, e_cI])
    · (rw [m_isFlag_t hv o1, e_cP, e_join]; (try dsimp only); rw [b_neg (by decide), e_cI])
      refine join_gen (fun j7 hj7 => ?_)
      rw [mplan h j7 _ (fun _ _ => rfl), hj7, b_neg o3, m_areMinutes_f o4, e_cP, b_pos rfl, e_cI]
  obtain ⟨k, rfl⟩ := Int.eq_ofNat_of_zero_le o1.1
  obtain ⟨M, rfl⟩ := Int.eq_ofNat_of_zero_le (show 0 ≤ x4 by unfold okSpan at o4; omega)
  have hk : k < (h 100 12).toNat := by unfold okFlag at o1; omega
  have hM : 1 ≤ M ∧ M ≤ 99 := by unfold okSpan at o4; omega
  have hs : 0 ≤ x3 ∧ x3 < 2147483648 := by omega
  obtain ⟨g1, a1, a2, a3, a4, a5⟩ := tf_start (p := x2) (seed := x3) r TF.rf o2 hs
  have w1 := tf_watchFlag (W := 0) r rb a2 a3 hk (by omega) (by rw [a4]; rfl)
  have f2 : TF h (set2 (set2 (set2 g1 56 0 (fc h k : Int)) 57 0 (ffl h k)) 46 5 (((0 : Nat) : Int) + 1)) := fun p hp => by rw [set2_ne p (by omega), set2_ne p (by omega), set2_ne p (by omega), a2 p hp]
  obtain ⟨g2, b1, b2, b3⟩ := tf_run1 (wk := fun _ => -1) (M := M) r hn rb rs f2 o2 hs (a3.fr (fun p _ _ => by rw [set2_ne p (by omega), set2_ne p (by omega), set2_ne p (by omega)])) hk (by rw [set2_same]; rfl) (by rw [set2_np _ _ _ _ _ _ (by omega), set2_np _ _ _ _ _ _ (by omega), set2_same]) (by rw [set2_np _ _ _ _ _ _ (by omega), set2_same])
    (fun m hm => Or.inl (by rw [set2_np _ _ _ _ _ _ (by omega), set2_np _ _ _ _ _ _ (by omega), set2_np _ _ _ _ _ _ (by omega), a5 m hm])) (fun m hm => by rw [set2_np _ _ _ _ _ _ (by omega), set2_np _ _ _ _ _ _ (by omega), set2_np _ _ _ _ _ _ (by omega), a5 m hm]) hM
  have e121 : g2 121 = h 121 := b2 121 (by omega)
  obtain ⟨q1, q2⟩ := fc_in hv hk
  refine ⟨valP h k x2 x3 (fun _ => -1) M, g2, setRow g2 122 (trS h (fc h k) (fun _ => -1) (bgM h g2 x2 x3) M), ?_, ?_, ?_⟩
  · (rw [e_join]; (try dsimp only); rw [b_neg (by decide), k_isPlan_t rp o2, e_cP, b_neg (by decide), b_neg o3, k_isSpan_t o4, e_cP, b_neg (by decide), a1, e_cV, tf_beach rb a2, w1, e_cV, tf_beach rb f2, tf_sea rs f2, tf_plan rp hv f2 o2, e_cP, b1, e_cV, e_cI, e_rd _ _ _ _ _ (by omega), show (0 : Int).toNat = 0 from rfl, b3])
  · (rw [m_isFlag_t (hv.te (TE.pm (Rel.pm1 b2))) (by unfold okFlag; rw [b2 100 (by omega)]; exact o1), e_cP, e_join]; (try dsimp only); rw [b_neg (by decide), e_cI])
    refine join_gen (fun j7 hj7 => ?_)
    rw [mplan g2 j7 _ (Rel.pm1 b2), hj7, b_neg o3, m_areMinutes_t o4, e_cP, b_neg (by decide), m_begin e121, e_cV, e_cI]
    refine loopF_for' M (fun i => ((i : Int), setRow g2 122 (trS h (fc h k) (fun _ => -1) (bgM h g2 x2 x3) i))) ?_ ?_ rfl (fu _ (by omega))
    · intro i hi self
      unfold g_X9_last_l12
      dsimp only
      rw [b_neg (by omega), m_min1 r hn (Rel.pm1 b2) o2 hs q2 (by omega) g2, e_cV, e_add _ _ _ (by omega), show ((i + 1 : Nat) : Int) = (i : Int) + 1 by omega]
    · intro self
      unfold g_X9_last_l12
      dsimp only
      rw [b_pos (by omega), m_lastV r hn e121 o2 hs hk hM, e_cP]
  · exact r.trial (fun p h1 h2 => by rw [setRow_ne _ _ _ _ h1, b2 p h2])
/-! rows of works -/
def dg (x y : Int) : Int := (iI (shP x y) &&& iI 3).toInt
theorem dg_in (x y : Int) : 0 ≤ dg x y ∧ dg x y ≤ 3 := by
  have hx := shP_in x y
  unfold dg
  generalize shP x y = u at hx
  have e : (iI u &&& iI 3).toInt = u % 4 := by
    have e := pk_and (iI u) (m := iI 3) 2 (by decide +kernel)
    rw [e]
    have h1 : ((iI u).toBitVec.toNat : Int) = u % 4294967296 := by
      have h2 := iI_toInt hx
      have h3 := (iI u).toBitVec.toInt_eq_toNat_cond
      have h4 : (iI u).toInt = (iI u).toBitVec.toInt := rfl
      have h5 := (iI u).toBitVec.isLt
      rw [h4, h3] at h2
      split at h2 <;> omega
    rw [nI_toInt (by omega)]
    omega
  rw [e]
  omega
theorem e_dg {R : Type} (x y : Int) (K : Int → Option R) : (shrI x y fun z => cI 3 fun w => andI z w K) = K (dg x y) := nrfl rfl
theorem e_mulw {R : Type} (x y : Int) (K : Int → Option R) : mulI x y K = K (wr (x * y)) := nrfl rfl
def rowW (n x : Int) (m : Nat) : Int := if (m : Int) < n then dg x (2 * (n - 1 - (m : Int))) else -1
def digP (x : Int) : Nat → Int → Int
  | 0, d => d
  | i + 1, d => digP x i (wr (wr (10 * d) + dg x (2 * (i : Int))))
theorem k_digits {a8 : Int × Hp} : ∀ (i F : Nat) (d : Int), i < F → i ≤ 10 → loopF (g_X8_bestRow_l16 a8) F (d, (i : Int) - 1) = some (digP a8.1 i d, a8.2)
  | 0, F, d, hF, _ => by
    obtain ⟨F, rfl⟩ : ∃ g, F = g + 1 := ⟨F - 1, by omega⟩
    show g_X8_bestRow_l16 a8 (loopF _ F) (d, ((0 : Nat) : Int) - 1) = _
    unfold g_X8_bestRow_l16
    dsimp only
    rw [b_pos (by omega)]
    rfl
  | i + 1, F, d, hF, hi => by
    obtain ⟨F, rfl⟩ : ∃ g, F = g + 1 := ⟨F - 1, by omega⟩
    have ih := k_digits (a8 := a8) i F (wr (wr (10 * d) + dg a8.1 (2 * (i : Int)))) (by omega) (by omega)
    show g_X8_bestRow_l16 a8 (loopF _ F) (d, ((i + 1 : Nat) : Int) - 1) = _
    generalize loopF (g_X8_bestRow_l16 a8) F = self at ih
    unfold g_X8_bestRow_l16
    dsimp only
    rw [b_neg (by omega), e_cI, e_mulw, e_cI, e_mul _ _ _ (by omega), e_dg, e_addw, e_add _ _ _ (by omega), show ((i + 1 : Nat) : Int) - 1 = (i : Int) by omega, show (i : Int) + -1 = (i : Int) - 1 by omega, Int.mul_comm d 10, ih]
    rfl
theorem m_digits {a8 : Int × Hp} : ∀ (i F : Nat) (d : Int), i < F → i ≤ 10 → loopF (g_X9_bestRow_l12 a8) F (d, (i : Int) - 1) = some (digP a8.1 i d, a8.2)
  | 0, F, d, hF, _ => by
    obtain ⟨F, rfl⟩ : ∃ g, F = g + 1 := ⟨F - 1, by omega⟩
    show g_X9_bestRow_l12 a8 (loopF _ F) (d, ((0 : Nat) : Int) - 1) = _
    unfold g_X9_bestRow_l12
    dsimp only
    rw [b_pos (by omega)]
    rfl
  | i + 1, F, d, hF, hi => by
    obtain ⟨F, rfl⟩ : ∃ g, F = g + 1 := ⟨F - 1, by omega⟩
    have ih := m_digits (a8 := a8) i F (wr (wr (10 * d) + dg a8.1 (2 * (i : Int)))) (by omega) (by omega)
    show g_X9_bestRow_l12 a8 (loopF _ F) (d, ((i + 1 : Nat) : Int) - 1) = _
    generalize loopF (g_X9_bestRow_l12 a8) F = self at ih
    unfold g_X9_bestRow_l12
    dsimp only
    rw [b_neg (by omega), e_cI, e_mulw, e_cI, e_mul _ _ _ (by omega), e_dg, e_addw, e_add _ _ _ (by omega), show ((i + 1 : Nat) : Int) - 1 = (i : Int) by omega, show (i : Int) + -1 = (i : Int) - 1 by omega, ih]
    rfl
/-- the first of the greatest: (which, how great) -/
def bsP (f : Nat → Int) : Nat → Int × Int
  | 0 => (0, -1)
  | x + 1 => if (bsP f x).2 < f x then ((x : Int), f x) else bsP f x
theorem bs_done {f : Nat → Int} {M : Int} (hf : ∀ x, f x ≤ M) {x : Nat} (h : M ≤ (bsP f x).2) : ∀ j : Nat, bsP f (x + j) = bsP f x
  | 0 => rfl
  | j + 1 => by
    have ih := bs_done hf h j
    show (if (bsP f (x + j)).2 < f (x + j) then (((x + j : Nat) : Int), f (x + j)) else bsP f (x + j)) = _
    have := hf (x + j)
    rw [ih, if_neg (by omega)]
def rwP (h : Hp) (k : Nat) (n seed : Int) (M : Nat) (x : Nat) : Int := valP h k (-1) seed (rowW n (x : Int)) M
theorem rwP_le {h : Hp} {k : Nat} {n seed : Int} {M x : Nat} : 0 ≤ rwP h k n seed M x ∧ rwP h k n seed M x ≤ (M : Int) := lastP_in
theorem shl1 {n : Nat} (hn : 1 ≤ n ∧ n ≤ 4) : (iI 1 <<< (iI (2 * (n : Int)) &&& 31)).toInt = ((4 ^ n : Nat) : Int) := by
  rcases (by omega : n = 1 ∨ n = 2 ∨ n = 3 ∨ n = 4) with rfl | rfl | rfl | rfl <;> decide +kernel
theorem e_shl1 {R : Type} {n : Nat} (hn : 1 ≤ n ∧ n ≤ 4) (K : Int → Option R) : (shlI 1 (2 * (n : Int)) K) = K ((4 ^ n : Nat) : Int) := by
  rw [← shl1 hn]
  rfl
theorem pow4 {n : Nat} (hn : 1 ≤ n ∧ n ≤ 4) : 4 ^ n ≤ 256 := by
  rcases (by omega : n = 1 ∨ n = 2 ∨ n = 3 ∨ n = 4) with rfl | rfl | rfl | rfl <;> decide
theorem k_bestRow {h : Hp} {N k n M c v : Nat} {seed : Int} (r : Rel N h) (hN : N ≤ 600) (rb : BchR h c) (rs : SeaR h v) (hk : k < (h 100 12).toNat) (hn : 1 ≤ n ∧ n ≤ 4) (hs : 0 ≤ seed ∧ seed < 2147483648) (hM : 1 ≤ M ∧ M ≤ 99) :
    ∃ g, g_X8_bestRow (k : Int) (n : Int) seed (M : Int) h = some (digP (bsP (rwP h k n seed M) (4 ^ n)).1 n 0, g) ∧ TF h g := by
  have hv := r.1
  have h41 := (pv_plan hv).1
  have hp4 := pow4 hn
  have key : ∃ rr : Int × Hp, g_X8_bestRow (k : Int) (n : Int) seed (M : Int) h = some rr ∧ (rr.1 = digP (bsP (rwP h k n seed M) (4 ^ n)).1 n 0 ∧ TF h rr.2) := by
    unfold g_X8_bestRow
    rw [e_cI, e_cI, e_mul _ _ _ (by omega), e_shl1 hn, e_cI, e_cI, e_cI]
    refine join_ex (fun j9 hj9 => ?_)
    have fin : ∀ (b : Int) (g : Hp), b = (bsP (rwP h k n seed M) (4 ^ n)).1 → TF h g → ∃ rr : Int × Hp, j9 (b, g) = some rr ∧ (rr.1 = digP (bsP (rwP h k n seed M) (4 ^ n)).1 n 0 ∧ TF h rr.2) := by
      intro b g hb hg
      rw [hj9, e_cI, e_cI, e_sub _ _ _ (by omega), k_digits n FU 0 (fu _ (by omega)) (by omega)]
      exact ⟨_, rfl, by dsimp only; rw [hb], hg⟩
    refine loopF_ex (4 ^ n) (fun i (q : Int × Int × Int × Hp) => (q.1 = (bsP (rwP h k n seed M) i).1 ∧ q.2.1 = (bsP (rwP h k n seed M) i).2 ∧ q.2.2.1 = (i : Int)) ∧ TF h q.2.2.2) ?_ ?_ FU 0 _ (Nat.zero_le _) (fu _ (by omega)) ⟨⟨rfl, rfl, rfl⟩, TF.rf⟩
    · rintro i ⟨y1, y2, y3, g⟩ hi ⟨⟨e1, e2, e3⟩, hg⟩ self
      dsimp only at e1 e2 e3 hg
      subst e1 e2 e3
      unfold g_X8_bestRow_l29
      dsimp only
      rw [b_neg (by omega)]
      by_cases z : (M : Int) ≤ (bsP (rwP h k n seed M) i).2
      · right
        rw [b_pos z]
        have := bs_done (fun x => (rwP_le (h := h) (k := k) (n := (n : Int)) (seed := seed) (M := M) (x := x)).2) z (4 ^ n - i)
        rw [show i + (4 ^ n - i) = 4 ^ n by omega] at this
        exact fin _ g (by rw [this]) hg
      left
      rw [b_neg z, e_cI]
      obtain ⟨g1, a1, a2, a3, a4, a5⟩ := tf_start (p := -1) (seed := seed) r hg (by omega) hs
      have w1 := tf_watchFlag (W := 0) r rb a2 a3 hk (by omega) (by rw [a4]; rfl)
      generalize hg2 : set2 (set2 (set2 g1 56 0 (fc h k : Int)) 57 0 (ffl h k)) 46 5 (((0 : Nat) : Int) + 1) = g2 at w1
      have f2 : TF h g2 := fun p hp => by rw [← hg2, set2_ne p (by omega), set2_ne p (by omega), set2_ne p (by omega), a2 p hp]
      have r2 : RS h g2 47 (bg h (-1) seed) := a3.fr (fun p _ _ => by rw [← hg2, set2_ne p (by omega), set2_ne p (by omega), set2_ne p (by omega)])
      have c5 : g2 46 5 = 1 := by rw [← hg2, set2_same]; rfl
      have c56 : g2 56 0 = (fc h k : Int) := by rw [← hg2, set2_np _ _ _ _ _ _ (by omega), set2_np _ _ _ _ _ _ (by omega), set2_same]
      have c57 : g2 57 0 = ffl h k := by rw [← hg2, set2_np _ _ _ _ _ _ (by omega), set2_same]
      have c58 : ∀ m, m < 99 → g2 58 m = -1 := fun m hm => by rw [← hg2, set2_np _ _ _ _ _ _ (by omega), set2_np _ _ _ _ _ _ (by omega), set2_np _ _ _ _ _ _ (by omega), a5 m hm]
      rw [a1, e_cV, tf_beach rb a2, w1, e_cV, e_cI]
      refine join_exr (fun j40 hj40 => ?_)
      -- the works are set
      have sets : loopF (g_X8_bestRow_l55 j40 ((bsP (rwP h k n seed M) i).1, (bsP (rwP h k n seed M) i).2, (i : Int), g) (n : Int)) FU (0, g2) = j40 (setRow g2 58 (fun m => if m < n then rowW n (i : Int) m else g2 58 m)) := by
        refine loopF_for' n (fun m => ((m : Int), setRow g2 58 (fun j => if j < m then rowW n (i : Int) j else g2 58 j))) ?_ ?_ ?_ (fu _ (by omega))
        · intro m hm self2
          unfold g_X8_bestRow_l55
          dsimp only
          have es : g_X6_setWork 46 (m : Int) (dg (i : Int) (2 * ((n : Int) - 1 - (m : Int)))) (setRow g2 58 (fun j => if j < m then rowW n (i : Int) j else g2 58 j)) = some (setRow g2 58 (fun j => if j < m + 1 then rowW n (i : Int) j else g2 58 j)) := by
            unfold g_X6_setWork
            (rw [e_join]; (try dsimp only); rw [b_neg (by omega), e_cI, b_neg (by omega), show 46 + 12 = 58 from rfl, e_wrR _ _ _ _ _ _ (by omega), setRow_same, setRow_setRow, Int.toNat_natCast])
            congr 2
            funext j
            unfold upd1
            try dsimp only
            by_cases y : j = m
            · subst y
              rw [if_pos rfl, if_pos (show j < j + 1 by omega)]
              unfold rowW
              rw [if_pos (show (j : Int) < (n : Int) by omega)]
            · rw [if_neg y]
              by_cases y2 : j < m
              · rw [if_pos y2, if_pos (show j < m + 1 by omega)]
              · rw [if_neg y2, if_neg (show ¬ j < m + 1 by omega)]
          rw [b_neg (by omega), e_cI, e_cI, e_sub _ _ _ (by omega), e_sub _ _ _ (by omega), e_mul _ _ _ (by omega), e_dg, es, e_cV, e_add _ _ _ (by omega), show ((m + 1 : Nat) : Int) = (m : Int) + 1 by omega]
        · intro self2
          unfold g_X8_bestRow_l55
          dsimp only
          rw [b_pos (by omega)]
        · refine Prod.ext rfl ?_
          dsimp only
          have : (fun j => if j < 0 then rowW n (i : Int) j else g2 58 j) = g2 58 := by funext j; rw [if_neg (by omega)]
          rw [this, setRow_self]
      rw [sets, hj40]
      have c58b : ∀ m, m < 99 → setRow g2 58 (fun m => if m < n then rowW n (i : Int) m else g2 58 m) 58 m = rowW n (i : Int) m := by
        intro m hm
        rw [setRow_same]
        by_cases y : m < n
        · rw [if_pos y]
        · rw [if_neg y, c58 m hm]
          unfold rowW
          rw [if_neg (by omega)]
      have ne : ∀ p, p ≠ 58 → setRow g2 58 (fun m => if m < n then rowW n (i : Int) m else g2 58 m) p = g2 p := fun p hp => setRow_ne _ _ _ _ hp
      generalize setRow g2 58 (fun m => if m < n then rowW n (i : Int) m else g2 58 m) = g3 at c58b ne
      have f3 : TF h g3 := fun p hp => by rw [ne p (by omega), f2 p hp]
      obtain ⟨g4, b1, b2, b3⟩ := tf_run1 (wk := rowW n (i : Int)) (M := M) r hN rb rs f3 (by omega) hs (r2.fr (fun p _ _ => ne p (by omega))) hk (by rw [ne 46 (by omega), c5]) (by rw [ne 56 (by omega), c56]) (by rw [ne 57 (by omega), c57])
        (fun m hm => by
          rw [c58b m hm]
          unfold rowW
          split
          · exact Or.inr (dg_in _ _)
          · exact Or.inl rfl) c58b hM
      rw [show planRef (-1) = -1 from rfl] at b1
      rw [tf_beach rb f3, tf_sea rs f3, b1, e_cV, e_cI, e_rd _ _ _ _ _ (by omega), show (0 : Int).toNat = 0 from rfl, b3]
      rw [show bsP (rwP h k n seed M) (i + 1) = if (bsP (rwP h k n seed M) i).2 < rwP h k n seed M i then ((i : Int), rwP h k n seed M i) else bsP (rwP h k n seed M) i from rfl]
      refine join_exr (fun j48 hj48 => ?_)
      rw [show valP h k (-1) seed (rowW n (i : Int)) M = rwP h k n seed M i from rfl] at b3 ⊢
      by_cases y : rwP h k n seed M i ≤ (bsP (rwP h k n seed M) i).2
      · rw [b_pos y, hj48, e_add _ _ _ (by omega), if_neg (show ¬ (bsP (rwP h k n seed M) i).2 < rwP h k n seed M i by omega)]
        exact ⟨_, ⟨⟨rfl, rfl, by (try dsimp only); omega⟩, b2⟩, rfl⟩
      · rw [b_neg y, e_cI, e_rd _ _ _ _ _ (by omega), show (0 : Int).toNat = 0 from rfl, b3, hj48, e_add _ _ _ (by omega), if_pos (show (bsP (rwP h k n seed M) i).2 < rwP h k n seed M i by omega)]
        exact ⟨_, ⟨⟨rfl, rfl, by (try dsimp only); omega⟩, b2⟩, rfl⟩
    · rintro ⟨y1, y2, y3, g⟩ ⟨⟨e1, e2, e3⟩, hg⟩ self
      dsimp only at e1 e2 e3 hg
      subst e1 e2 e3
      unfold g_X8_bestRow_l29
      dsimp only
      rw [b_pos (by omega)]
      exact fin _ g rfl hg
  obtain ⟨⟨z, g⟩, a, b, d⟩ := key
  exact ⟨g, by rw [a]; dsimp only at b; rw [b], d⟩
theorem m_lastByRow {h g : Hp} {N k n M : Nat} {seed : Int} {x : Int} (r : Rel N h) (hN : N ≤ 600) (f : ∀ p, p ≠ 122 → (p < 46 ∨ 58 < p) → g p = h p) (hk : k < (h 100 12).toNat) (hn : 1 ≤ n ∧ n ≤ 4) (hs : 0 ≤ seed ∧ seed < 2147483648) (hM : 1 ≤ M ∧ M ≤ 99) :
    ∃ s, g_X9_lastByRow (k : Int) (n : Int) x seed (M : Int) g = some (valP h k (-1) seed (rowW n x) M, setRow g 122 s) := by
  have hv := r.1
  have h41 := (pv_plan hv).1
  have h12 := (pv_flags hv).1
  have e121 : g 121 = h 121 := f 121 (by omega) (by omega)
  have hpm : PM h g := fun p hp => f p (by omega) (by omega)
  obtain ⟨q1, q2⟩ := fc_in hv hk
  have i1 := ag_iv (iv_bg r (p := -1) (by omega) hs) hv (bgM_ag (g := g))
  refine ⟨trS h (fc h k) (rowW n x) (bgM h g (-1) seed) M, ?_⟩
  unfold g_X9_lastByRow
  rw [e_cI, m_begin e121, e_cV, e_cI]
  refine loopF_for' M (fun i => ((i : Int), setRow g 122 (trS h (fc h k) (rowW n x) (bgM h g (-1) seed) i))) ?_ ?_ rfl (fu _ (by omega))
  · intro i hi self
    unfold g_X9_lastByRow_l5
    dsimp only
    rw [b_neg (by omega)]
    refine join_gen (fun j10 hj10 => ?_)
    have go : ∀ s, s = workP h (fc h k) (rowW n x i) (trS h (fc h k) (rowW n x) (bgM h g (-1) seed) i) → j10 (setRow g 122 s) = self (((i + 1 : Nat) : Int), setRow g 122 (trS h (fc h k) (rowW n x) (bgM h g (-1) seed) (i + 1))) := by
      intro s hss
      rw [hj10, m_fin1 r hN hpm hs q2 (by omega) g hss, e_cV, e_add _ _ _ (by omega), show ((i + 1 : Nat) : Int) = (i : Int) + 1 by omega]
    by_cases z : (n : Int) ≤ (i : Int)
    · rw [b_pos z]
      refine go _ ?_
      rw [show rowW n x i = -1 by unfold rowW; rw [if_neg (by omega)], workP_no]
    · rw [b_neg z, e_cI, e_cI, e_sub _ _ _ (by omega), e_sub _ _ _ (by omega), e_mul _ _ _ (by omega), e_dg, m_works (B := 6336) (T := 360 * (N : Int) + (i : Nat)) hv hpm (iv_trS i1 hv q2 i) (by omega) (by omega) q2 (by rw [e121]; exact (fc_row r hk).1) (dg_in _ _), e_cV]
      refine go _ ?_
      rw [show rowW n x i = dg x (2 * ((n : Int) - 1 - (i : Int))) by unfold rowW; rw [if_pos (by omega)]]
  · intro self
    unfold g_X9_lastByRow_l5
    dsimp only
    rw [b_pos (by omega), m_lastV r hN e121 (by omega) hs hk hM, e_cP]
theorem m_bestRow {h g : Hp} {N k n M : Nat} {seed : Int} (r : Rel N h) (hN : N ≤ 600) (f : ∀ p, p ≠ 122 → (p < 46 ∨ 58 < p) → g p = h p) (hk : k < (h 100 12).toNat) (hn : 1 ≤ n ∧ n ≤ 4) (hs : 0 ≤ seed ∧ seed < 2147483648) (hM : 1 ≤ M ∧ M ≤ 99) :
    ∃ s, g_X9_bestRow (k : Int) (n : Int) seed (M : Int) g = some (digP (bsP (rwP h k n seed M) (4 ^ n)).1 n 0, setRow g 122 s) := by
  have hp4 := pow4 hn
  have key : ∃ rr : Int × Hp, g_X9_bestRow (k : Int) (n : Int) seed (M : Int) g = some rr ∧ (rr.1 = digP (bsP (rwP h k n seed M) (4 ^ n)).1 n 0 ∧ ∃ s, rr.2 = setRow g 122 s) := by
    unfold g_X9_bestRow
    rw [e_cI, e_cI, e_cI]
    refine join_ex (fun j5 hj5 => ?_)
    refine loopF_ex (4 ^ n) (fun i (q : Int × Int × Int × Hp) => (q.1 = (bsP (rwP h k n seed M) i).1 ∧ q.2.1 = (bsP (rwP h k n seed M) i).2 ∧ q.2.2.1 = (i : Int)) ∧ ∃ s, q.2.2.2 = setRow g 122 s) ?_ ?_ FU 0 _ (Nat.zero_le _) (fu _ (by omega)) ⟨⟨rfl, rfl, rfl⟩, g 122, (setRow_self g 122).symm⟩
    · rintro i ⟨y1, y2, y3, g1⟩ hi ⟨⟨e1, e2, e3⟩, s, hg⟩ self
      dsimp only at e1 e2 e3 hg
      subst e1 e2 e3 hg
      left
      obtain ⟨s2, w⟩ := m_lastByRow (g := setRow g 122 s) (x := (i : Int)) r hN (fun p h1 h2 => by rw [setRow_ne _ _ _ _ h1, f p h1 h2]) hk hn hs hM
      rw [setRow_setRow] at w
      unfold g_X9_bestRow_l25
      dsimp only
      rw [e_cI, e_cI, e_mul _ _ _ (by omega), e_shl1 hn, b_neg (by omega), w, e_cW]
      rw [show bsP (rwP h k n seed M) (i + 1) = if (bsP (rwP h k n seed M) i).2 < rwP h k n seed M i then ((i : Int), rwP h k n seed M i) else bsP (rwP h k n seed M) i from rfl, show valP h k (-1) seed (rowW n (i : Int)) M = rwP h k n seed M i from rfl]
      refine join_exr (fun j37 hj37 => ?_)
      by_cases y : (bsP (rwP h k n seed M) i).2 < rwP h k n seed M i
      · rw [b_pos y, hj37, e_add _ _ _ (by omega), if_pos y]
        exact ⟨_, ⟨⟨rfl, rfl, by (try dsimp only); omega⟩, s2, rfl⟩, rfl⟩
      · rw [b_neg y, hj37, e_add _ _ _ (by omega), if_neg y]
        exact ⟨_, ⟨⟨rfl, rfl, by (try dsimp only); omega⟩, s2, rfl⟩, rfl⟩
    · rintro ⟨y1, y2, y3, g1⟩ ⟨⟨e1, e2, e3⟩, s, hg⟩ self
      dsimp only at e1 e2 e3 hg
      subst e1 e2 e3 hg
      unfold g_X9_bestRow_l25
      dsimp only
      rw [e_cI, e_cI, e_mul _ _ _ (by omega), e_shl1 hn, b_pos (by omega), hj5, e_cI, e_cI, e_sub _ _ _ (by omega), m_digits n FU 0 (fu _ (by omega)) (by omega)]
      exact ⟨_, rfl, rfl, s, rfl⟩
  obtain ⟨⟨z, g2⟩, a, b, s, d⟩ := key
  dsimp only at b d
  exact ⟨s, by rw [a, b, d]⟩
def okAsk (h : Hp) (x1 x2 x3 : Int) : Prop := okFlag h x1 ∧ 0 ≤ x2 ∧ okSpan x3
theorem m_isAsked_t {h : Hp} {x1 x2 x3 : Int} (hv : PV h) (o : okAsk h x1 x2 x3) : g_X9_isAsked x1 x2 x3 h = some 1 := by
  obtain ⟨o1, o2, o3⟩ := o
  unfold g_X9_isAsked
  (rw [m_isFlag_t hv o1, e_cP, e_join]; (try dsimp only); rw [e_join]; (try dsimp only); rw [b_neg (by decide), b_neg (by omega), m_areMinutes_t o3, e_cP, b_neg (by decide), e_cI])
  exact e_retZ1
theorem m_isAsked_f {h : Hp} {x1 x2 x3 : Int} (hv : PV h) (o : ¬ okAsk h x1 x2 x3) : g_X9_isAsked x1 x2 x3 h = some 0 := by
  unfold g_X9_isAsked
  by_cases o1 : okFlag h x1
  rotate_left
  · (rw [m_isFlag_f hv o1, e_cP, e_join]; (try dsimp only); rw [e_join]; (try dsimp only); rw [b_pos rfl, e_cI])
    exact e_retZ0
  (rw [m_isFlag_t hv o1, e_cP, e_join]; (try dsimp only); rw [e_join]; (try dsimp only); rw [b_neg (by decide)])
  by_cases o2 : x2 < 0
  · rw [b_pos o2, e_cI]
    exact e_retZ0
  rw [b_neg o2]
  by_cases o3 : okSpan x3
  · exact absurd ⟨o1, by omega, o3⟩ o
  · rw [m_areMinutes_f o3, e_cP, b_pos rfl, e_cI]
    exact e_retZ0
theorem s_pail {n : Nat} {h : Hp} {x1 x2 x3 : Int} (hn : n ≤ 600) (hx2 : inR x2) (r : Rel n h) : ∃ z h1 h2, g_X8_pail x1 x2 x3 h = some (z, h1) ∧ g_X9_pail x1 x2 x3 h1 = some (z, h2) ∧ Rel (n + 1) h2 := by
  have r' := r
  obtain ⟨hv, ⟨c, rb⟩, ⟨v, rs⟩, rp, -⟩ := r'
  unfold inR at hx2
  by_cases o : okAsk h x1 x2 x3
  rotate_left
  · refine ⟨-2, h, h, ?_, ?_, r.next⟩
    · unfold g_X8_pail
      by_cases o1 : okFlag h x1
      rotate_left
      · (rw [k_isFlag_f rb o1, e_cP, e_join]; (try dsimp only); rw [b_pos rfl, e_cI])
      (rw [k_isFlag_t rb o1, e_cP, e_join]; (try dsimp only); rw [b_neg (by decide)])
      by_cases o2 : x2 < 0
      · rw [b_pos o2, e_cI]
      rw [b_neg o2]
      by_cases o3 : okSpan x3
      · exact absurd ⟨o1, by omega, o3⟩ o
      · rw [k_isSpan_f o3, e_cP, b_pos rfl, e_cI]
    · unfold g_X9_pail
      (rw [m_isAsked_f hv o, e_cP, e_join]; (try dsimp only); rw [b_pos rfl, e_cI])
  obtain ⟨o1, o2, o3⟩ := o
  obtain ⟨k, rfl⟩ := Int.eq_ofNat_of_zero_le o1.1
  obtain ⟨M, rfl⟩ := Int.eq_ofNat_of_zero_le (show 0 ≤ x3 by unfold okSpan at o3; omega)
  have hk : k < (h 100 12).toNat := by unfold okFlag at o1; omega
  have hM : 1 ≤ M ∧ M ≤ 99 := by unfold okSpan at o3; omega
  obtain ⟨g, a1, a2⟩ := k_bestRow (n := 2) (seed := x2) (M := M) r hn rb rs hk (by omega) (by omega) hM
  obtain ⟨s, b1⟩ := m_bestRow (n := 2) (seed := x2) (M := M) (g := g) r hn (fun p _ h2 => a2 p h2) hk (by omega) (by omega) hM
  refine ⟨digP (bsP (rwP h k ((2 : Nat) : Int) x2 M) (4 ^ 2)).1 2 0, g, setRow g 122 s, ?_, ?_, r.trial (fun p h1 h2 => by rw [setRow_ne _ _ _ _ h1, a2 p h2])⟩
  · unfold g_X8_pail
    (rw [k_isFlag_t rb o1, e_cP, e_join]; (try dsimp only); rw [b_neg (by decide), b_neg (by omega), k_isSpan_t o3, e_cP, b_neg (by decide), e_cI, show (2 : Int) = ((2 : Nat) : Int) from rfl, a1, e_cW])
  · unfold g_X9_pail
    (rw [m_isAsked_t (hv.te (TE.pm (Rel.pm1 a2))) ⟨by unfold okFlag; rw [a2 100 (by omega)]; exact o1, o2, o3⟩, e_cP, e_join]; (try dsimp only); rw [b_neg (by decide), e_cI, show (2 : Int) = ((2 : Nat) : Int) from rfl, b1, e_cW])
theorem s_row {n : Nat} {h : Hp} {x1 x2 x3 x4 : Int} (hn : n ≤ 600) (hx3 : inR x3) (r : Rel n h) : ∃ z h1 h2, g_X8_row x1 x2 x3 x4 h = some (z, h1) ∧ g_X9_row x1 x2 x3 x4 h1 = some (z, h2) ∧ Rel (n + 1) h2 := by
  have r' := r
  obtain ⟨hv, ⟨c, rb⟩, ⟨v, rs⟩, rp, -⟩ := r'
  unfold inR at hx3
  by_cases o : okAsk h x1 x3 x4 ∧ 1 ≤ x2 ∧ x2 ≤ 4
  rotate_left
  · refine ⟨-2, h, h, ?_, ?_, r.next⟩
    · unfold g_X8_row
      by_cases o1 : okFlag h x1
      rotate_left
      · (rw [k_isFlag_f rb o1, e_cP, e_join]; (try dsimp only); rw [b_pos rfl, e_cI])
      (rw [k_isFlag_t rb o1, e_cP, e_join]; (try dsimp only); rw [b_neg (by decide), e_cI])
      by_cases p1 : x2 < 1
      · rw [b_pos p1, e_cI]
      rw [b_neg p1, e_cI]
      by_cases p2 : 4 < x2
      · rw [b_pos p2, e_cI]
      rw [b_neg p2]
      by_cases o2 : x3 < 0
      · rw [b_pos o2, e_cI]
      rw [b_neg o2]
      by_cases o3 : okSpan x4
      · exact absurd ⟨⟨o1, by omega, o3⟩, by omega, by omega⟩ o
      · rw [k_isSpan_f o3, e_cP, b_pos rfl, e_cI]
    · unfold g_X9_row
      by_cases o1 : okAsk h x1 x3 x4
      · (rw [m_isAsked_t hv o1, e_cP, e_join]; (try dsimp only); rw [e_join]; (try dsimp only); rw [b_neg (by decide), e_i2l, e_cI, e_cI, e_in_f _ _ _ _ (by
          by_cases p1 : x2 < 1
          · exact Or.inl p1
          · by_cases p2 : 4 < x2
            · exact Or.inr p2
            · exact absurd ⟨o1, by omega, by omega⟩ o), b_pos rfl, e_cI])
      · (rw [m_isAsked_f hv o1, e_cP, e_join]; (try dsimp only); rw [e_join]; (try dsimp only); rw [b_pos rfl, e_cI])
  obtain ⟨⟨o1, o2, o3⟩, o4⟩ := o
  obtain ⟨k, rfl⟩ := Int.eq_ofNat_of_zero_le o1.1
  obtain ⟨M, rfl⟩ := Int.eq_ofNat_of_zero_le (show 0 ≤ x4 by unfold okSpan at o3; omega)
  obtain ⟨m, rfl⟩ := Int.eq_ofNat_of_zero_le (show 0 ≤ x2 by omega)
  have hk : k < (h 100 12).toNat := by unfold okFlag at o1; omega
  have hM : 1 ≤ M ∧ M ≤ 99 := by unfold okSpan at o3; omega
  obtain ⟨g, a1, a2⟩ := k_bestRow (n := m) (seed := x3) (M := M) r hn rb rs hk (by omega) (by omega) hM
  obtain ⟨s, b1⟩ := m_bestRow (n := m) (seed := x3) (M := M) (g := g) r hn (fun p _ h2 => a2 p h2) hk (by omega) (by omega) hM
  refine ⟨digP (bsP (rwP h k (m : Int) x3 M) (4 ^ m)).1 m 0, g, setRow g 122 s, ?_, ?_, r.trial (fun p h1 h2 => by rw [setRow_ne _ _ _ _ h1, a2 p h2])⟩
  · unfold g_X8_row
    (rw [k_isFlag_t rb o1, e_cP, e_join]; (try dsimp only); rw [b_neg (by decide), e_cI, b_neg (by omega), e_cI, b_neg (by omega), b_neg (by omega), k_isSpan_t o3, e_cP, b_neg (by decide), a1, e_cW])
  · unfold g_X9_row
    (rw [m_isAsked_t (hv.te (TE.pm (Rel.pm1 a2))) ⟨by unfold okFlag; rw [a2 100 (by omega)]; exact o1, o2, o3⟩, e_cP, e_join]; (try dsimp only); rw [e_join]; (try dsimp only); rw [b_neg (by decide), e_i2l, e_cI, e_cI, e_in_t _ _ _ _ o4, b_neg (by decide), b1, e_cW])
/-! CALLS: again -/
def wetW (x : Int) (m : Nat) : Int := if (m : Int) = x then 3 else -1
def agV (h : Hp) (k : Nat) (seed : Int) (M : Nat) (x : Int) : Int := valP h k (-1) seed (wetW x) M
theorem agV_in {h : Hp} {k M : Nat} {seed x : Int} : 0 ≤ agV h k seed M x ∧ agV h k seed M x ≤ (M : Int) := lastP_in
/-- a wetting behind the fall changes nothing -/
theorem agV_late {h : Hp} {k M m : Nat} {seed : Int} (hm : agV h k seed M (-1) < (m : Int)) : agV h k seed M (m : Int) = agV h k seed M (-1) := by
  by_cases hM : M ≤ m
  · unfold agV
    refine valP_congr (fun j hj => ?_)
    unfold wetW
    rw [if_neg (by omega), if_neg (by omega)]
  unfold agV valP at hm ⊢
  have same : ∀ j, j ≤ m → trS h (fc h k) (wetW (m : Int)) (bg h (-1) seed) j = trS h (fc h k) (wetW (-1)) (bg h (-1) seed) j := fun j hj => trS_congr j (fun i hi => by
    unfold wetW
    rw [if_neg (by omega), if_neg (by omega)])
  have h1 := lfP_in (S := trS h (fc h k) (wetW (-1)) (bg h (-1) seed)) (c := fc h k) (fl := ffl h k) M
  have e0 := lfP_congr (S := trS h (fc h k) (wetW (m : Int)) (bg h (-1) seed)) (U := trS h (fc h k) (wetW (-1)) (bg h (-1) seed)) (c := fc h k) (fl := ffl h k) m (fun j hj => by rw [same j hj])
  have st := fun S z => lfP_stay (S := S) (c := fc h k) (fl := ffl h k) (m := m) z (M - m)
  rw [show m + (M - m) = M by omega] at st
  unfold lastP at hm ⊢
  generalize trS h (fc h k) (wetW (-1)) (bg h (-1) seed) = U at *
  generalize trS h (fc h k) (wetW (m : Int)) (bg h (-1) seed) = S at *
  by_cases z : lfP U (fc h k) (ffl h k) M = -1
  · rw [if_pos z] at hm
    omega
  rw [if_neg z] at hm
  have hU : lfP U (fc h k) (ffl h k) m ≠ -1 := by
    intro y
    -- it stood through m minutes, so what fell fell at m or later
    have key : ∀ n : Nat, lfP U (fc h k) (ffl h k) (m + n) = -1 ∨ (m : Int) ≤ lfP U (fc h k) (ffl h k) (m + n) := by
      intro n
      induction n with
      | zero => exact Or.inl y
      | succ n ih =>
        show (if lfP U (fc h k) (ffl h k) (m + n) = -1 then (if U (m + n + 1) (fc h k) < ffl h k then ((m + n : Nat) : Int) else -1) else lfP U (fc h k) (ffl h k) (m + n)) = -1 ∨ (m : Int) ≤ (if lfP U (fc h k) (ffl h k) (m + n) = -1 then (if U (m + n + 1) (fc h k) < ffl h k then ((m + n : Nat) : Int) else -1) else lfP U (fc h k) (ffl h k) (m + n))
        by_cases a : lfP U (fc h k) (ffl h k) (m + n) = -1
        · rw [if_pos a]
          split
          · exact Or.inr (by omega)
          · exact Or.inl rfl
        · rw [if_neg a]
          exact ih
    have := key (M - m)
    rw [show m + (M - m) = M by omega] at this
    omega
  rw [st S (by rw [e0]; exact hU), st U hU, e0]
/-- the first that is more than without -/
def agP (f : Int → Int) : Nat → Int × Int
  | 0 => (f (-1), -1)
  | x + 1 => if (agP f x).1 < f (x : Int) then (f (x : Int), (x : Int)) else agP f x
theorem agP_ge {f : Int → Int} : ∀ x, f (-1) ≤ (agP f x).1
  | 0 => Int.le_refl _
  | x + 1 => by
    have := agP_ge (f := f) x
    unfold agP
    split
    · dsimp only; omega
    · exact this
theorem ag_done {f : Int → Int} {x : Nat} (h : ∀ y : Nat, x ≤ y → f (y : Int) ≤ (agP f x).1) : ∀ j : Nat, agP f (x + j) = agP f x
  | 0 => rfl
  | j + 1 => by
    have ih := ag_done h j
    show (if (agP f (x + j)).1 < f ((x + j : Nat) : Int) then (f ((x + j : Nat) : Int), ((x + j : Nat) : Int)) else agP f (x + j)) = _
    have := h (x + j) (by omega)
    rw [ih, if_neg (by omega)]
theorem k_again {h : Hp} {N k M c v : Nat} {seed : Int} (r : Rel N h) (hN : N ≤ 600) (rb : BchR h c) (rs : SeaR h v) (hk : k < (h 100 12).toNat) (hs : 0 ≤ seed ∧ seed < 2147483648) (hM : 1 ≤ M ∧ M ≤ 99) :
    ∃ g, g_X8_again (k : Int) seed (M : Int) h = some ((agP (agV h k seed M) M).2, g) ∧ TF h g := by
  have hv := r.1
  have h41 := (pv_plan hv).1
  -- one trial
  have one : ∀ (g : Hp) (x : Int), TF h g → -1 ≤ x → x < 99 → ∀ (K : Hp → Option (Int × Hp)), ∃ g', TF h g' ∧ g' 55 0 = agV h k seed M x ∧
      (cV (g_X6_start 46 26 (-1) seed g) fun h28 => gR h28 0 1 [3, 9] fun q29 => cV (g_X6_watchFlag 46 q29 (k : Int) h28) fun h30 =>
        (if x = -1 then (gR h30 0 1 [3, 9] fun q33 => gR h30 0 3 [15, 20] fun q34 => cV (g_X6_run 46 q33 q34 (-1) (M : Int) h30) K) else cI 3 fun z31 => cV (g_X6_setWork 46 x z31 h30) fun h32 => gR h32 0 1 [3, 9] fun q33 => gR h32 0 3 [15, 20] fun q34 => cV (g_X6_run 46 q33 q34 (-1) (M : Int) h32) K)) = K g' := by
    intro g x hg hx hx2 K
    obtain ⟨g1, a1, a2, a3, a4, a5⟩ := tf_start (p := -1) (seed := seed) r hg (by omega) hs
    have w1 := tf_watchFlag (W := 0) r rb a2 a3 hk (by omega) (by rw [a4]; rfl)
    generalize hg2 : set2 (set2 (set2 g1 56 0 (fc h k : Int)) 57 0 (ffl h k)) 46 5 (((0 : Nat) : Int) + 1) = g2 at w1
    have f2 : TF h g2 := fun p hp => by rw [← hg2, set2_ne p (by omega), set2_ne p (by omega), set2_ne p (by omega), a2 p hp]
    have r2 : RS h g2 47 (bg h (-1) seed) := a3.fr (fun p _ _ => by rw [← hg2, set2_ne p (by omega), set2_ne p (by omega), set2_ne p (by omega)])
    have c5 : g2 46 5 = 1 := by rw [← hg2, set2_same]; rfl
    have c56 : g2 56 0 = (fc h k : Int) := by rw [← hg2, set2_np _ _ _ _ _ _ (by omega), set2_np _ _ _ _ _ _ (by omega), set2_same]
    have c57 : g2 57 0 = ffl h k := by rw [← hg2, set2_np _ _ _ _ _ _ (by omega), set2_same]
    have c58 : ∀ m, m < 99 → g2 58 m = -1 := fun m hm => by rw [← hg2, set2_np _ _ _ _ _ _ (by omega), set2_np _ _ _ _ _ _ (by omega), set2_np _ _ _ _ _ _ (by omega), a5 m hm]
    have ph : planRef (-1) = -1 := rfl
    rw [a1, e_cV, tf_beach rb a2, w1, e_cV]
    by_cases z : x = -1
    · rw [b_pos z]
      obtain ⟨g4, b1, b2, b3⟩ := tf_run1 (wk := wetW x) (M := M) r hN rb rs f2 (by omega) hs r2 hk c5 c56 c57 (fun m hm => Or.inl (c58 m hm)) (fun m hm => by rw [c58 m hm]; unfold wetW; rw [if_neg (by omega)]) hM
      rw [ph] at b1
      refine ⟨g4, b2, b3, ?_⟩
      rw [tf_beach rb f2, tf_sea rs f2, b1, e_cV]
    · rw [b_neg z, e_cI]
      obtain ⟨y, rfl⟩ := Int.eq_ofNat_of_zero_le (show 0 ≤ x by omega)
      have es : g_X6_setWork 46 (y : Int) 3 g2 = some (set2 g2 58 y 3) := by
        unfold g_X6_setWork
        (rw [e_join]; (try dsimp only); rw [b_neg (by omega), e_cI, b_neg (by omega), e_wrn _ _ _ _ _ _ (by omega)])
      rw [es, e_cV]
      have f3 : TF h (set2 g2 58 y 3) := fun p hp => by rw [set2_ne p (by omega), f2 p hp]
      have c58b : ∀ m, m < 99 → set2 g2 58 y 3 58 m = wetW (y : Int) m := by
        intro m hm
        unfold wetW
        by_cases q : m = y
        · subst q; rw [set2_same, if_pos rfl]
        · rw [set2_nk _ _ _ _ _ _ q, c58 m hm, if_neg (by omega)]
      obtain ⟨g4, b1, b2, b3⟩ := tf_run1 (wk := wetW (y : Int)) (M := M) r hN rb rs f3 (by omega) hs (r2.fr (fun p _ _ => set2_ne p (by omega))) hk (by rw [set2_np _ _ _ _ _ _ (by omega), c5]) (by rw [set2_np _ _ _ _ _ _ (by omega), c56]) (by rw [set2_np _ _ _ _ _ _ (by omega), c57])
        (fun m hm => by
          rw [c58b m hm]
          unfold wetW
          split
          · exact Or.inr (by omega)
          · exact Or.inl rfl) c58b hM
      rw [ph] at b1
      refine ⟨g4, b2, b3, ?_⟩
      rw [tf_beach rb f3, tf_sea rs f3, b1, e_cV]
  have key : ∃ rr : Int × Hp, g_X8_again (k : Int) seed (M : Int) h = some rr ∧ (rr.1 = (agP (agV h k seed M) M).2 ∧ TF h rr.2) := by
    unfold g_X8_again
    (rw [k_isFlag_t rb (by unfold okFlag; omega), e_cP, e_join]; (try dsimp only); rw [b_neg (by decide), b_neg (by omega), k_isSpan_t (by unfold okSpan; omega), e_cP, b_neg (by decide), e_cI])
    obtain ⟨g0, z1, z2, z3⟩ := one h (-1) TF.rf (by omega) (by omega) (fun h12 => cI 0 fun z13 => rdI h12 55 2 z13 fun z14 => cI (-1) fun z15 => cI 0 fun z16 => joinF (fun (a17 : Int × Hp) => some (a17.1, a17.2)) fun j18 => loopF (g_X8_again_l22 j18 (k : Int) seed (M : Int) z14) FU (z14, z15, z16, h12))
    simp only [if_true] at z3
    rw [z3, e_cI, e_rd _ _ _ _ _ (by omega), show (0 : Int).toNat = 0 from rfl, z2, e_cI, e_cI]
    refine join_ex (fun j18 hj18 => ?_)
    have fin : ∀ (b : Int) (g : Hp), b = (agP (agV h k seed M) M).2 → TF h g → ∃ rr : Int × Hp, j18 (b, g) = some rr ∧ (rr.1 = (agP (agV h k seed M) M).2 ∧ TF h rr.2) := fun b g hb hg => by
      rw [hj18]
      exact ⟨_, rfl, hb, hg⟩
    refine loopF_ex M (fun i (q : Int × Int × Int × Hp) => (q.1 = (agP (agV h k seed M) i).1 ∧ q.2.1 = (agP (agV h k seed M) i).2 ∧ q.2.2.1 = (i : Int)) ∧ TF h q.2.2.2) ?_ ?_ FU 0 _ (Nat.zero_le _) (fu _ (by omega)) ⟨⟨rfl, rfl, rfl⟩, z1⟩
    · rintro i ⟨y1, y2, y3, g⟩ hi ⟨⟨e1, e2, e3⟩, hg⟩ self
      dsimp only at e1 e2 e3 hg
      subst e1 e2 e3
      unfold g_X8_again_l22
      dsimp only
      have ge := agP_ge (f := agV h k seed M) i
      by_cases stop : agV h k seed M (-1) < (i : Int) ∨ (M : Int) ≤ (agP (agV h k seed M) i).1
      · right
        have dn : ∀ y : Nat, i ≤ y → agV h k seed M (y : Int) ≤ (agP (agV h k seed M) i).1 := by
          intro y hy
          rcases stop with s | s
          · rw [agV_late (by omega)]; exact ge
          · have := (agV_in (h := h) (k := k) (M := M) (seed := seed) (x := (y : Int))).2
            omega
        have := ag_done dn (M - i)
        rw [show i + (M - i) = M by omega] at this
        by_cases s : agV h k seed M (-1) < (i : Int)
        · rw [b_pos s]
          exact fin _ g (by rw [this]) hg
        · rw [b_neg s, b_neg (by omega), b_pos (stop.resolve_left s)]
          exact fin _ g (by rw [this]) hg
      left
      rw [b_neg (by omega), b_neg (by omega), b_neg (by omega), e_cI]
      obtain ⟨g4, b2, b3, b1⟩ := one g (i : Int) hg (by omega) (by omega) (fun h35 => cI 0 fun z36 => rdI h35 55 2 z36 fun z37 => joinF (fun (a38 : Int × Int) => addI (i : Int) 1 fun z42 => self (a38.1, a38.2, z42, h35)) fun j39 => if z37 ≤ (agP (agV h k seed M) i).1 then j39 ((agP (agV h k seed M) i).1, (agP (agV h k seed M) i).2) else cI 0 fun z43 => rdI h35 55 2 z43 fun z44 => j39 (z44, (i : Int)))
      simp only [show ¬ ((i : Int) = -1) by omega, if_false] at b1
      rw [b1, e_cI, e_rd _ _ _ _ _ (by omega), show (0 : Int).toNat = 0 from rfl, b3]
      rw [show agP (agV h k seed M) (i + 1) = if (agP (agV h k seed M) i).1 < agV h k seed M (i : Int) then (agV h k seed M (i : Int), (i : Int)) else agP (agV h k seed M) i from rfl]
      refine join_exr (fun j39 hj39 => ?_)
      by_cases y : agV h k seed M (i : Int) ≤ (agP (agV h k seed M) i).1
      · rw [b_pos y, hj39, e_add _ _ _ (by omega), if_neg (show ¬ (agP (agV h k seed M) i).1 < agV h k seed M (i : Int) by omega)]
        exact ⟨_, ⟨⟨rfl, rfl, by (try dsimp only); omega⟩, b2⟩, rfl⟩
      · rw [b_neg y, e_cI, e_rd _ _ _ _ _ (by omega), show (0 : Int).toNat = 0 from rfl, b3, hj39, e_add _ _ _ (by omega), if_pos (show (agP (agV h k seed M) i).1 < agV h k seed M (i : Int) by omega)]
        exact ⟨_, ⟨⟨rfl, rfl, by (try dsimp only); omega⟩, b2⟩, rfl⟩
    · rintro ⟨y1, y2, y3, g⟩ ⟨⟨e1, e2, e3⟩, hg⟩ self
      dsimp only at e1 e2 e3 hg
      subst e1 e2 e3
      unfold g_X8_again_l22
      dsimp only
      by_cases s : agV h k seed M (-1) < (M : Int)
      · rw [b_pos s]
        exact fin _ g rfl hg
      · rw [b_neg s, b_pos (by omega)]
        exact fin _ g rfl hg
  obtain ⟨⟨z, g⟩, a, b, d⟩ := key
  exact ⟨g, by rw [a]; dsimp only at b; rw [b], d⟩
theorem m_lastByWet {h g : Hp} {N k M : Nat} {seed : Int} {x : Int} (r : Rel N h) (hN : N ≤ 600) (f : ∀ p, p ≠ 122 → (p < 46 ∨ 58 < p) → g p = h p) (hk : k < (h 100 12).toNat) (hs : 0 ≤ seed ∧ seed < 2147483648) (hM : 1 ≤ M ∧ M ≤ 99) :
    ∃ s, g_X9_lastByWet (k : Int) x seed (M : Int) g = some (agV h k seed M x, setRow g 122 s) := by
  have hv := r.1
  have h41 := (pv_plan hv).1
  have h12 := (pv_flags hv).1
  have e121 : g 121 = h 121 := f 121 (by omega) (by omega)
  have hpm : PM h g := fun p hp => f p (by omega) (by omega)
  obtain ⟨q1, q2⟩ := fc_in hv hk
  have i1 := ag_iv (iv_bg r (p := -1) (by omega) hs) hv (bgM_ag (g := g))
  refine ⟨trS h (fc h k) (wetW x) (bgM h g (-1) seed) M, ?_⟩
  unfold g_X9_lastByWet
  rw [e_cI, m_begin e121, e_cV, e_cI]
  refine loopF_for' M (fun i => ((i : Int), setRow g 122 (trS h (fc h k) (wetW x) (bgM h g (-1) seed) i))) ?_ ?_ rfl (fu _ (by omega))
  · intro i hi self
    unfold g_X9_lastByWet_l5
    dsimp only
    rw [b_neg (by omega)]
    refine join_gen (fun j10 hj10 => ?_)
    have go : ∀ s, s = workP h (fc h k) (wetW x i) (trS h (fc h k) (wetW x) (bgM h g (-1) seed) i) → j10 (setRow g 122 s) = self (((i + 1 : Nat) : Int), setRow g 122 (trS h (fc h k) (wetW x) (bgM h g (-1) seed) (i + 1))) := by
      intro s hss
      rw [hj10, m_fin1 r hN hpm hs q2 (by omega) g hss, e_cV, e_add _ _ _ (by omega), show ((i + 1 : Nat) : Int) = (i : Int) + 1 by omega]
    by_cases z : (i : Int) = x
    · rw [b_pos z, e_cI, m_works (B := 6336) (T := 360 * (N : Int) + (i : Nat)) (w := 3) hv hpm (iv_trS i1 hv q2 i) (by omega) (by omega) q2 (by rw [e121]; exact (fc_row r hk).1) (by omega), e_cV]
      refine go _ ?_
      rw [show wetW x i = 3 by unfold wetW; rw [if_pos z]]
    · rw [b_neg z]
      refine go _ ?_
      rw [show wetW x i = -1 by unfold wetW; rw [if_neg z], workP_no]
  · intro self
    unfold g_X9_lastByWet_l5
    dsimp only
    rw [b_pos (by omega), m_lastV r hN e121 (by omega) hs hk hM, e_cP]
    rfl
theorem s_again {n : Nat} {h : Hp} {x1 x2 x3 : Int} (hn : n ≤ 600) (hx2 : inR x2) (r : Rel n h) : ∃ z h1 h2, g_X8_again x1 x2 x3 h = some (z, h1) ∧ g_X9_again x1 x2 x3 h1 = some (z, h2) ∧ Rel (n + 1) h2 := by
  have r' := r
  obtain ⟨hv, ⟨c, rb⟩, ⟨v, rs⟩, rp, -⟩ := r'
  unfold inR at hx2
  by_cases o : okAsk h x1 x2 x3
  rotate_left
  · refine ⟨-2, h, h, ?_, ?_, r.next⟩
    · unfold g_X8_again
      by_cases o1 : okFlag h x1
      rotate_left
      · (rw [k_isFlag_f rb o1, e_cP, e_join]; (try dsimp only); rw [b_pos rfl, e_cI])
      (rw [k_isFlag_t rb o1, e_cP, e_join]; (try dsimp only); rw [b_neg (by decide)])
      by_cases o2 : x2 < 0
      · rw [b_pos o2, e_cI]
      rw [b_neg o2]
      by_cases o3 : okSpan x3
      · exact absurd ⟨o1, by omega, o3⟩ o
      · rw [k_isSpan_f o3, e_cP, b_pos rfl, e_cI]
    · unfold g_X9_again
      rw [m_isAsked_f hv o, e_cP, b_pos rfl, e_cI]
  obtain ⟨o1, o2, o3⟩ := o
  obtain ⟨k, rfl⟩ := Int.eq_ofNat_of_zero_le o1.1
  obtain ⟨M, rfl⟩ := Int.eq_ofNat_of_zero_le (show 0 ≤ x3 by unfold okSpan at o3; omega)
  have hk : k < (h 100 12).toNat := by unfold okFlag at o1; omega
  have hM : 1 ≤ M ∧ M ≤ 99 := by unfold okSpan at o3; omega
  obtain ⟨g, a1, a2⟩ := k_again (seed := x2) (M := M) r hn rb rs hk (by omega) hM
  have key : ∃ rr : Int × Hp, g_X9_again (k : Int) x2 (M : Int) g = some rr ∧ (rr.1 = (agP (agV h k x2 M) M).2 ∧ ∃ s, rr.2 = setRow g 122 s) := by
    obtain ⟨s0, w0⟩ := m_lastByWet (g := g) (x := -1) (seed := x2) r hn (fun p _ h2 => a2 p h2) hk (by omega) hM
    unfold g_X9_again
    rw [m_isAsked_t (hv.te (TE.pm (Rel.pm1 a2))) ⟨by unfold okFlag; rw [a2 100 (by omega)]; exact o1, o2, o3⟩, e_cP, b_neg (by decide), e_cI, w0, e_cW, e_cI, e_cI]
    refine loopF_ex M (fun i (q : Int × Int × Int × Hp) => (q.1 = (agP (agV h k x2 M) i).1 ∧ q.2.1 = (agP (agV h k x2 M) i).2 ∧ q.2.2.1 = (i : Int)) ∧ ∃ s, q.2.2.2 = setRow g 122 s) ?_ ?_ FU 0 _ (Nat.zero_le _) (fu _ (by omega)) ⟨⟨rfl, rfl, rfl⟩, s0, rfl⟩
    · rintro i ⟨y1, y2, y3, g1⟩ hi ⟨⟨e1, e2, e3⟩, s, hg⟩ self
      dsimp only at e1 e2 e3 hg
      subst e1 e2 e3 hg
      left
      obtain ⟨s2, w⟩ := m_lastByWet (g := setRow g 122 s) (x := (i : Int)) (seed := x2) r hn (fun p h1 h2 => by rw [setRow_ne _ _ _ _ h1, a2 p h2]) hk (by omega) hM
      rw [setRow_setRow] at w
      unfold g_X9_again_l8
      dsimp only
      rw [b_neg (by omega), w, e_cW]
      rw [show agP (agV h k x2 M) (i + 1) = if (agP (agV h k x2 M) i).1 < agV h k x2 M (i : Int) then (agV h k x2 M (i : Int), (i : Int)) else agP (agV h k x2 M) i from rfl]
      refine join_exr (fun j37 hj37 => ?_)
      by_cases y : (agP (agV h k x2 M) i).1 < agV h k x2 M (i : Int)
      · rw [b_pos y, hj37, e_add _ _ _ (by omega), if_pos y]
        exact ⟨_, ⟨⟨rfl, rfl, by (try dsimp only); omega⟩, s2, rfl⟩, rfl⟩
      · rw [b_neg y, hj37, e_add _ _ _ (by omega), if_neg y]
        exact ⟨_, ⟨⟨rfl, rfl, by (try dsimp only); omega⟩, s2, rfl⟩, rfl⟩
    · rintro ⟨y1, y2, y3, g1⟩ ⟨⟨e1, e2, e3⟩, s, hg⟩ self
      dsimp only at e1 e2 e3 hg
      subst e1 e2 e3 hg
      unfold g_X9_again_l8
      dsimp only
      rw [b_pos (by omega)]
      exact ⟨_, rfl, rfl, s, rfl⟩
  obtain ⟨⟨z, g2⟩, b1, b2, s, b3⟩ := key
  dsimp only at b2 b3
  refine ⟨_, g, g2, a1, by rw [b1, b2], r.trial (fun p h1 h2 => by rw [b3, setRow_ne _ _ _ _ h1, a2 p h2])⟩
