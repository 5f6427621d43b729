/-! CALLS: spill and join -/
def spTo (f : Nat → Int) (k : Nat) : Nat := if k = 0 then 1 else if k = 8 then 7 else if f (k - 1) ≤ f (k + 1) then k - 1 else k + 1
def spGo (f : Nat → Int) (k t : Nat) : Nat → Int := upd1 (upd1 f k (f k - 1)) t (f t + 1)
def spC (H : Int) (q : Int × (Nat → Int)) (k : Nat) : Int × (Nat → Int) :=
  if q.2 k - q.2 (spTo q.2 k) ≤ H then q else (1, spGo q.2 k (spTo q.2 k))
def spR (H : Int) (f : Nat → Int) : Nat → Int × (Nat → Int)
  | 0 => (0, f)
  | k + 1 => spC H (spR H f k) k
def spN (H : Int) : Nat → (Nat → Int) → (Nat → Int)
  | 0, f => f
  | n + 1, f => if (spR H f 9).1 = 0 then (spR H f 9).2 else spN H n (spR H f 9).2
def SpV (f : Nat → Int) : Prop := (∀ i, i < 9 → 0 ≤ f i) ∧ sumN f 9 ≤ 60
def spM (f : Nat → Int) : Int := sumN (fun i => f i * f i) 9
theorem spTo_in {f : Nat → Int} {k : Nat} (hk : k < 9) : spTo f k < 9 ∧ spTo f k ≠ k := by
  unfold spTo
  split
  · omega
  · split
    · omega
    · split <;> omega
theorem SpV.le {f : Nat → Int} (h : SpV f) {i : Nat} (hi : i < 9) : 0 ≤ f i ∧ f i ≤ 60 := by
  have h1 := sumN_ge (f := f) (n := 9) h.1 hi
  have h2 := h.1 i hi
  have h3 := h.2
  omega
theorem sq_upd {f : Nat → Int} {k : Nat} {x : Int} : (fun i => upd1 f k x i * upd1 f k x i) = upd1 (fun i => f i * f i) k (x * x) := by
  funext i
  unfold upd1
  try dsimp only
  split <;> rfl
theorem spGo_v {f : Nat → Int} {k t : Nat} (h : SpV f) (hk : k < 9) (ht : t < 9) (hkt : t ≠ k) (hd : 2 ≤ f k - f t) : SpV (spGo f k t) ∧ spM (spGo f k t) ≤ spM f - 2 := by
  have a := h.1 k hk
  have b := h.1 t ht
  unfold spGo
  have e1 : upd1 f k (f k - 1) t = f t := upd1_ne _ _ _ _ hkt
  refine ⟨⟨fun i hi => ?_, ?_⟩, ?_⟩
  · have := h.1 i hi
    unfold upd1
    try dsimp only
    split
    · omega
    · split <;> omega
  · rw [sumN_upd ht, sumN_upd hk, e1]
    have := h.2
    omega
  · unfold spM
    rw [sq_upd, sumN_upd ht, sq_upd, sumN_upd hk]
    try dsimp only
    have e3 : (f k - 1) * (f k - 1) = f k * f k - 2 * f k + 1 := by rw [Int.sub_mul, Int.mul_sub]; omega
    have e4 : (f t + 1) * (f t + 1) = f t * f t + 2 * f t + 1 := by rw [Int.add_mul, Int.mul_add]; omega
    rw [e1, e3, e4]
    omega
theorem spR_v {H : Int} {f : Nat → Int} (hH : 1 ≤ H) (h : SpV f) : ∀ k, k ≤ 9 → SpV (spR H f k).2 ∧ (((spR H f k).1 = 0 ∧ (spR H f k).2 = f) ∨ ((spR H f k).1 = 1 ∧ spM (spR H f k).2 ≤ spM f - 2))
  | 0, _ => ⟨h, Or.inl ⟨rfl, rfl⟩⟩
  | k + 1, hk => by
    obtain ⟨i1, i2⟩ := spR_v hH h k (by omega)
    show SpV (spC H (spR H f k) k).2 ∧ (((spC H (spR H f k) k).1 = 0 ∧ (spC H (spR H f k) k).2 = f) ∨ ((spC H (spR H f k) k).1 = 1 ∧ spM (spC H (spR H f k) k).2 ≤ spM f - 2))
    unfold spC
    generalize spR H f k = q at i1 i2
    split
    · exact ⟨i1, i2⟩
    · obtain ⟨t1, t2⟩ := spTo_in (f := q.2) (k := k) (by omega)
      obtain ⟨g1, g2⟩ := spGo_v i1 (by omega) t1 t2 (by omega)
      refine ⟨g1, Or.inr ⟨rfl, ?_⟩⟩
      dsimp only
      rcases i2 with ⟨_, i2⟩ | ⟨_, i2⟩
      · rw [i2] at g2 ⊢; exact g2
      · omega
theorem spM_nn {f : Nat → Int} : 0 ≤ spM f := sumN_nonneg (fun i _ => by
  rcases Int.le_total 0 (f i) with q | q
  · exact Int.mul_nonneg q q
  · exact Int.mul_nonneg_of_nonpos_of_nonpos q q)
theorem k_spTo {h : Hp} {q : Nat} {f : Nat → Int} {k : Nat} (hk : k < 9) (hq : q = 60) : g_X4_lowestBeside 59 (k : Int) (setRow h q f) = some (spTo f k : Int) := by
  subst hq
  unfold g_X4_lowestBeside spTo
  by_cases z : k = 0
  · rw [b_neg (by omega), e_cI, if_pos z]; rfl
  rw [b_pos (by omega), e_cI, if_neg z]
  by_cases z8 : k = 8
  · rw [b_neg (by omega), e_cI, if_pos z8]; rfl
  (rw [b_pos (by omega), e_cI, e_add _ _ _ (by omega), if_neg z8, show (k : Int) + 1 = ((k + 1 : Nat) : Int) by omega, e_rdn _ _ _ _ _ (by omega), e_cI, e_sub _ _ _ (by omega), show (k : Int) - 1 = ((k - 1 : Nat) : Int) by omega, e_rdn _ _ _ _ _ (by omega), show 59 + 1 = 60 from rfl, setRow_same, e_join]; (try dsimp only))
  by_cases c : f (k - 1) ≤ f (k + 1)
  · rw [b_pos c, e_cI, e_sub _ _ _ (by omega), if_pos c, show (k : Int) - 1 = ((k - 1 : Nat) : Int) by omega]
  · rw [b_neg c, e_cI, e_add _ _ _ (by omega), if_neg c, show (k : Int) + 1 = ((k + 1 : Nat) : Int) by omega]
theorem k_spRound {h : Hp} {H : Int} {f : Nat → Int} {j19 : Int × Hp → Option Hp} (hH : 1 ≤ H) (hf : SpV f) : loopF (g_X4_settle_l24 59 j19 H) FU (0, 0, setRow h 60 f) = j19 ((spR H f 9).1, setRow h 60 (spR H f 9).2) := by
  refine loopF_for' 9 (fun k => ((spR H f k).1, (k : Int), setRow h 60 (spR H f k).2)) ?_ ?_ rfl (fu _ (by omega))
  · intro k hk self
    obtain ⟨v, -⟩ := spR_v hH hf k (by omega)
    unfold g_X4_settle_l24
    dsimp only
    rw [show spR H f (k + 1) = spC H (spR H f k) k from rfl]
    generalize spR H f k = q at v
    obtain ⟨t1, t2⟩ := spTo_in (f := q.2) (k := k) hk
    have a := v.le hk
    have b := v.le t1
    rw [e_cI, b_neg (by omega), k_spTo hk rfl, e_cP, show 59 + 1 = 60 from rfl, e_rdn _ _ _ _ _ hk, e_rdn _ _ _ _ _ t1, setRow_same, e_sub _ _ _ (by omega)]
    refine join_gen (fun j34 hj34 => ?_)
    unfold spC
    by_cases z : q.2 k - q.2 (spTo q.2 k) ≤ H
    · rw [b_pos z, hj34, e_add _ _ _ (by omega), if_pos z, show ((k + 1 : Nat) : Int) = (k : Int) + 1 by omega]
    · rw [b_neg z, e_rdn _ _ _ _ _ hk, setRow_same, e_cI, e_sub _ _ _ (by omega), e_wrR _ _ _ _ _ _ (by omega), setRow_same, setRow_setRow, Int.toNat_natCast, e_rdn _ _ _ _ _ t1, setRow_same, upd1_ne _ _ _ _ t2, e_cI, e_add _ _ _ (by omega), e_wrR _ _ _ _ _ _ (by omega), setRow_same, setRow_setRow, Int.toNat_natCast, e_cI, hj34, e_add _ _ _ (by omega), if_neg z, show ((k + 1 : Nat) : Int) = (k : Int) + 1 by omega]
      rfl
  · intro self
    unfold g_X4_settle_l24
    dsimp only
    rw [e_cI, b_pos (by omega)]
theorem k_spRounds {h : Hp} {H : Int} {j8 : Hp → Option Hp} (hH : 1 ≤ H) : ∀ (n : Nat) (f : Nat → Int) (r F : Nat), SpV f → spM f < 2 * (n : Int) → r + n < 2000 → n + 1 < F → loopF (g_X4_settle_l11 59 j8 H) F (1, (r : Int), setRow h 60 f) = j8 (setRow h 60 (spN H n f)) := by
  intro n
  induction n with
  | zero => intro f r F _ hm; have := spM_nn (f := f); omega
  | succ n ih =>
    intro f r F hv hm hr hF
    obtain ⟨F, rfl⟩ : ∃ g, F = g + 1 := ⟨F - 1, by omega⟩
    obtain ⟨v, e⟩ := spR_v hH hv 9 (by omega)
    have nx := fun (g : Nat → Int) h1 h2 => ih g (r + 1) F h1 h2 (by omega) (by omega)
    have stop : ∀ g : Nat → Int, loopF (g_X4_settle_l11 59 j8 H) F (0, ((r + 1 : Nat) : Int), setRow h 60 g) = j8 (setRow h 60 g) := by
      intro g
      obtain ⟨F, rfl⟩ : ∃ g, F = g + 1 := ⟨F - 1, by omega⟩
      show g_X4_settle_l11 59 j8 H (loopF _ F) (0, ((r + 1 : Nat) : Int), setRow h 60 g) = _
      unfold g_X4_settle_l11
      dsimp only
      rw [e_cI, b_neg (by omega), b_pos rfl]
    show g_X4_settle_l11 59 j8 H (loopF _ F) (1, (r : Int), setRow h 60 f) = _
    generalize loopF (g_X4_settle_l11 59 j8 H) F = self at nx stop
    unfold g_X4_settle_l11
    dsimp only
    rw [e_cI, b_neg (by omega), b_neg (by decide), e_cI, e_cI]
    refine join_gen (fun j19 hj19 => ?_)
    rw [k_spRound hH hv, hj19]
    try dsimp only
    rw [e_add _ _ _ (by omega), show (r : Int) + 1 = ((r + 1 : Nat) : Int) by omega]
    unfold spN
    rcases e with ⟨e1, e2⟩ | ⟨e1, e2⟩
    · rw [e1, if_pos rfl]
      exact stop _
    · rw [e1, if_neg (by decide)]
      exact nx _ v (by omega)
theorem m_spRound {h : Hp} {H : Int} {f : Nat → Int} {j27 : Int × Hp → Option (Int × Hp)} (hH : 1 ≤ H) (hf : SpV f) : loopF (g_X9_spill_l31 j27 H) FU (0, 0, setRow h 125 f) = j27 ((spR H f 9).1, setRow h 125 (spR H f 9).2) := by
  refine loopF_for' 9 (fun k => ((spR H f k).1, (k : Int), setRow h 125 (spR H f k).2)) ?_ ?_ rfl (fu _ (by omega))
  · intro k hk self
    obtain ⟨v, -⟩ := spR_v hH hf k (by omega)
    unfold g_X9_spill_l31
    dsimp only
    rw [show spR H f (k + 1) = spC H (spR H f k) k from rfl]
    generalize spR H f k = q at v
    obtain ⟨t1, t2⟩ := spTo_in (f := q.2) (k := k) hk
    have a := v.le hk
    have b := v.le t1
    rw [e_cI, b_neg (by omega)]
    refine join_gen (fun j37 hj37 => ?_)
    have red : j37 (spTo q.2 k : Int) = self ((spC H q k).1, ((k + 1 : Nat) : Int), setRow h 125 (spC H q k).2) := by
      rw [hj37, e_rdn _ _ _ _ _ hk, e_rdn _ _ _ _ _ t1, setRow_same, e_sub _ _ _ (by omega)]
      refine join_gen (fun j43 hj43 => ?_)
      unfold spC
      by_cases z : q.2 k - q.2 (spTo q.2 k) ≤ H
      · rw [b_neg (by omega), hj43, e_add _ _ _ (by omega), if_pos z, show ((k + 1 : Nat) : Int) = (k : Int) + 1 by omega]
      · rw [b_pos (by omega), e_rdn _ _ _ _ _ hk, setRow_same, e_cI, e_sub _ _ _ (by omega), e_wrR _ _ _ _ _ _ (by omega), setRow_same, setRow_setRow, Int.toNat_natCast, e_rdn _ _ _ _ _ t1, setRow_same, upd1_ne _ _ _ _ t2, e_cI, e_add _ _ _ (by omega), e_wrR _ _ _ _ _ _ (by omega), setRow_same, setRow_setRow, Int.toNat_natCast, e_cI, hj43, e_add _ _ _ (by omega), if_neg z, show ((k + 1 : Nat) : Int) = (k : Int) + 1 by omega]
        rfl
    rw [← red]
    unfold spTo
    by_cases z : k = 0
    · rw [b_pos (by omega), e_cI, if_pos z]; rfl
    rw [b_neg (by omega), e_cI, if_neg z]
    by_cases z8 : k = 8
    · rw [b_pos (by omega), e_cI, if_pos z8]; rfl
    rw [b_neg (by omega), e_cI, e_add _ _ _ (by omega), if_neg z8, show (k : Int) + 1 = ((k + 1 : Nat) : Int) by omega, e_rdn _ _ _ _ _ (by omega), e_cI, e_sub _ _ _ (by omega), show (k : Int) - 1 = ((k - 1 : Nat) : Int) by omega, e_rdn _ _ _ _ _ (by omega), setRow_same]
    by_cases c : q.2 (k - 1) ≤ q.2 (k + 1)
    · rw [b_pos c, e_cI, e_sub _ _ _ (by omega), if_pos c, show (k : Int) - 1 = ((k - 1 : Nat) : Int) by omega]
    · rw [b_neg c, e_cI, e_add _ _ _ (by omega), if_neg c, show (k : Int) + 1 = ((k + 1 : Nat) : Int) by omega]
  · intro self
    unfold g_X9_spill_l31
    dsimp only
    rw [e_cI, b_pos (by omega)]
theorem m_spRounds {h : Hp} {H x4 : Int} (hH : 1 ≤ H) (hx : 0 ≤ x4 ∧ x4 < 9) : ∀ (n : Nat) (f : Nat → Int) (F : Nat), SpV f → spM f < 2 * (n : Int) → n + 1 < F → loopF (g_X9_spill_l20 x4 H) F (1, setRow h 125 f) = some (spN H n f x4.toNat, setRow h 125 (spN H n f)) := by
  intro n
  induction n with
  | zero => intro f F _ hm; have := spM_nn (f := f); omega
  | succ n ih =>
    intro f F hv hm hF
    obtain ⟨F, rfl⟩ : ∃ g, F = g + 1 := ⟨F - 1, by omega⟩
    obtain ⟨v, e⟩ := spR_v hH hv 9 (by omega)
    have nx := fun (g : Nat → Int) h1 h2 => ih g F h1 h2 (by omega)
    have stop : ∀ g : Nat → Int, loopF (g_X9_spill_l20 x4 H) F (0, setRow h 125 g) = some (g x4.toNat, setRow h 125 g) := by
      intro g
      obtain ⟨F, rfl⟩ : ∃ g, F = g + 1 := ⟨F - 1, by omega⟩
      show g_X9_spill_l20 x4 H (loopF _ F) (0, setRow h 125 g) = _
      unfold g_X9_spill_l20
      dsimp only
      rw [b_pos rfl, e_rd _ _ _ _ _ hx, setRow_same]
    show g_X9_spill_l20 x4 H (loopF _ F) (1, setRow h 125 f) = _
    generalize loopF (g_X9_spill_l20 x4 H) F = self at nx stop
    unfold g_X9_spill_l20
    dsimp only
    rw [b_neg (by decide), e_cI, e_cI]
    refine join_gen (fun j27 hj27 => ?_)
    rw [m_spRound hH hv, hj27]
    try dsimp only
    unfold spN
    rcases e with ⟨e1, e2⟩ | ⟨e1, e2⟩
    · rw [e1, if_pos rfl]
      exact stop _
    · rw [e1, if_neg (by decide)]
      exact nx _ v (by omega)
def spF (x : Int) (g : Nat → Int) : Nat → Int := fun j => if j < 9 then (if j = 4 then x else 0) else g j
theorem spF_v {x : Int} {g : Nat → Int} (hx : 0 ≤ x ∧ x ≤ 60) : SpV (spF x g) ∧ spM (spF x g) < 2 * 1801 := by
  refine ⟨⟨fun i hi => ?_, ?_⟩, ?_⟩
  · unfold spF; split <;> (try split) <;> omega
  · simp [sumN, spF]; omega
  · have : spM (spF x g) = x * x := by simp [spM, sumN, spF]
    have h2 : x * x ≤ 60 * 60 := Int.mul_le_mul hx.2 hx.2 hx.1 (by omega)
    omega
/-- after the first rounds more of them change nothing, but what lies behind nine cells is each side's own -/
theorem spN_congr {H : Int} : ∀ (n : Nat) (f g : Nat → Int), (∀ i, i < 9 → f i = g i) → ∀ i, i < 9 → spN H n f i = spN H n g i := by
  have rr : ∀ (f g : Nat → Int), (∀ i, i < 9 → f i = g i) → ∀ k, k ≤ 9 → (spR H f k).1 = (spR H g k).1 ∧ ∀ i, i < 9 → (spR H f k).2 i = (spR H g k).2 i := by
    intro f g e k
    induction k with
    | zero => exact fun _ => ⟨rfl, e⟩
    | succ k ih =>
      intro hk
      obtain ⟨i1, i2⟩ := ih (by omega)
      show (spC H (spR H f k) k).1 = (spC H (spR H g k) k).1 ∧ ∀ i, i < 9 → (spC H (spR H f k) k).2 i = (spC H (spR H g k) k).2 i
      generalize spR H f k = q at i1 i2
      generalize spR H g k = p at i1 i2
      have et : spTo q.2 k = spTo p.2 k := by
        unfold spTo
        by_cases z : k = 0
        · rw [if_pos z, if_pos z]
        rw [if_neg z, if_neg z]
        by_cases z8 : k = 8
        · rw [if_pos z8, if_pos z8]
        rw [if_neg z8, if_neg z8, i2 (k - 1) (by omega), i2 (k + 1) (by omega)]
      obtain ⟨t1, t2⟩ := spTo_in (f := p.2) (k := k) (by omega)
      unfold spC
      rw [et, i2 k (by omega), i2 _ t1]
      by_cases z : p.2 k - p.2 (spTo p.2 k) ≤ H
      · rw [if_pos z, if_pos z]; exact ⟨i1, i2⟩
      · rw [if_neg z, if_neg z]
        refine ⟨rfl, fun i hi => ?_⟩
        dsimp only
        unfold spGo upd1
        rw [i2 k (by omega), i2 _ t1, i2 i hi]
  intro n
  induction n with
  | zero => exact fun f g e => e
  | succ n ih =>
    intro f g e i hi
    obtain ⟨e1, e2⟩ := rr f g e 9 (by omega)
    unfold spN
    rw [e1]
    by_cases z : (spR H g 9).1 = 0
    · rw [if_pos z, if_pos z]; exact e2 i hi
    · rw [if_neg z, if_neg z]; exact ih _ _ e2 i hi
theorem s_spill {n : Nat} {h : Hp} {x1 x2 x3 x4 : Int} (r : Rel n h) : ∃ z h1 h2, g_X8_spill x1 x2 x3 x4 h = some (z, h1) ∧ g_X9_spill x1 x2 x3 x4 h1 = some (z, h2) ∧ Rel (n + 1) h2 := by
  have r' := r
  obtain ⟨hv, ⟨c, rb⟩, -⟩ := r'
  have eb := fun (R : Type) (K : Nat → Option R) => e_gR h 0 1 c [3, 9] K rb.ref.1 rb.ref.2
  unfold g_X8_spill g_X9_spill
  by_cases b0 : (0 ≤ x1 ∧ x1 ≤ 60) ∧ sandP x2 x3 ∧ (0 ≤ x4 ∧ x4 ≤ 8)
  rotate_left
  · refine ⟨-2, h, h, ?_, ?_, r.next⟩
    · by_cases c1 : x1 < 0
      · (repeat (first | rw [e_i2l] | rw [e_cI] | rw [e_join] | rw [e_cP] | rw [e_gF] | rw [e_pF] | rw [e_cW] | rw [e_cV] | rw [e_in_t _ _ _ _ (by omega)] | rw [e_in_f _ _ _ _ (by omega)] | rw [b_pos (by omega)] | rw [b_neg (by omega)] | rw [e_add _ _ _ (by omega)] | rw [e_sub _ _ _ (by omega)] | rw [e_mul _ _ _ (by omega)] | rw [e_lsub _ _ _ (by omega)] | rw [e_rd _ _ _ _ _ (by omega)] | rw [b_pos True.intro] | rw [b_neg not_false] | simp only [Int.reduceToNat, Int.reduceSub, Int.reduceAdd, Int.reduceMul]))
      by_cases c2 : 60 < x1
      · (repeat (first | rw [e_i2l] | rw [e_cI] | rw [e_join] | rw [e_cP] | rw [e_gF] | rw [e_pF] | rw [e_cW] | rw [e_cV] | rw [e_in_t _ _ _ _ (by omega)] | rw [e_in_f _ _ _ _ (by omega)] | rw [b_pos (by omega)] | rw [b_neg (by omega)] | rw [e_add _ _ _ (by omega)] | rw [e_sub _ _ _ (by omega)] | rw [e_mul _ _ _ (by omega)] | rw [e_lsub _ _ _ (by omega)] | rw [e_rd _ _ _ _ _ (by omega)] | rw [b_pos True.intro] | rw [b_neg not_false] | simp only [Int.reduceToNat, Int.reduceSub, Int.reduceAdd, Int.reduceMul]))
      by_cases c3 : sandP x2 x3
      · have c5 : x4 < 0 ∨ 8 < x4 := by
          by_cases z : 0 ≤ x4 ∧ x4 ≤ 8
          · exact absurd ⟨⟨by omega, by omega⟩, c3, z⟩ b0
          · omega
        by_cases c4 : x4 < 0
        · (repeat (first | rw [k_isSand_t c3] | rw [e_i2l] | rw [e_cI] | rw [e_join] | rw [e_cP] | rw [e_gF] | rw [e_pF] | rw [e_cW] | rw [e_cV] | rw [e_in_t _ _ _ _ (by omega)] | rw [e_in_f _ _ _ _ (by omega)] | rw [b_pos (by omega)] | rw [b_neg (by omega)] | rw [e_add _ _ _ (by omega)] | rw [e_sub _ _ _ (by omega)] | rw [e_mul _ _ _ (by omega)] | rw [e_lsub _ _ _ (by omega)] | rw [e_rd _ _ _ _ _ (by omega)] | rw [b_pos True.intro] | rw [b_neg not_false] | simp only [Int.reduceToNat, Int.reduceSub, Int.reduceAdd, Int.reduceMul]))
        (repeat (first | rw [k_isSand_t c3] | rw [e_i2l] | rw [e_cI] | rw [e_join] | rw [e_cP] | rw [e_gF] | rw [e_pF] | rw [e_cW] | rw [e_cV] | rw [e_in_t _ _ _ _ (by omega)] | rw [e_in_f _ _ _ _ (by omega)] | rw [b_pos (by omega)] | rw [b_neg (by omega)] | rw [e_add _ _ _ (by omega)] | rw [e_sub _ _ _ (by omega)] | rw [e_mul _ _ _ (by omega)] | rw [e_lsub _ _ _ (by omega)] | rw [e_rd _ _ _ _ _ (by omega)] | rw [b_pos True.intro] | rw [b_neg not_false] | simp only [Int.reduceToNat, Int.reduceSub, Int.reduceAdd, Int.reduceMul]))
      · (repeat (first | rw [k_isSand_f c3] | rw [e_i2l] | rw [e_cI] | rw [e_join] | rw [e_cP] | rw [e_gF] | rw [e_pF] | rw [e_cW] | rw [e_cV] | rw [e_in_t _ _ _ _ (by omega)] | rw [e_in_f _ _ _ _ (by omega)] | rw [b_pos (by omega)] | rw [b_neg (by omega)] | rw [e_add _ _ _ (by omega)] | rw [e_sub _ _ _ (by omega)] | rw [e_mul _ _ _ (by omega)] | rw [e_lsub _ _ _ (by omega)] | rw [e_rd _ _ _ _ _ (by omega)] | rw [b_pos True.intro] | rw [b_neg not_false] | simp only [Int.reduceToNat, Int.reduceSub, Int.reduceAdd, Int.reduceMul]))
    · by_cases c1 : x1 < 0 ∨ 60 < x1
      · (repeat (first | rw [e_i2l] | rw [e_cI] | rw [e_join] | rw [e_cP] | rw [e_gF] | rw [e_pF] | rw [e_cW] | rw [e_cV] | rw [e_in_t _ _ _ _ (by omega)] | rw [e_in_f _ _ _ _ (by omega)] | rw [b_pos (by omega)] | rw [b_neg (by omega)] | rw [e_add _ _ _ (by omega)] | rw [e_sub _ _ _ (by omega)] | rw [e_mul _ _ _ (by omega)] | rw [e_lsub _ _ _ (by omega)] | rw [e_rd _ _ _ _ _ (by omega)] | rw [b_pos True.intro] | rw [b_neg not_false] | simp only [Int.reduceToNat, Int.reduceSub, Int.reduceAdd, Int.reduceMul]))
      by_cases c3 : sandP x2 x3
      · have c5 : x4 < 0 ∨ 8 < x4 := by
          by_cases z : 0 ≤ x4 ∧ x4 ≤ 8
          · exact absurd ⟨⟨by omega, by omega⟩, c3, z⟩ b0
          · omega
        (repeat (first | rw [m_isSand_t c3] | rw [e_i2l] | rw [e_cI] | rw [e_join] | rw [e_cP] | rw [e_gF] | rw [e_pF] | rw [e_cW] | rw [e_cV] | rw [e_in_t _ _ _ _ (by omega)] | rw [e_in_f _ _ _ _ (by omega)] | rw [b_pos (by omega)] | rw [b_neg (by omega)] | rw [e_add _ _ _ (by omega)] | rw [e_sub _ _ _ (by omega)] | rw [e_mul _ _ _ (by omega)] | rw [e_lsub _ _ _ (by omega)] | rw [e_rd _ _ _ _ _ (by omega)] | rw [b_pos True.intro] | rw [b_neg not_false] | simp only [Int.reduceToNat, Int.reduceSub, Int.reduceAdd, Int.reduceMul]))
      · (repeat (first | rw [m_isSand_f c3] | rw [e_i2l] | rw [e_cI] | rw [e_join] | rw [e_cP] | rw [e_gF] | rw [e_pF] | rw [e_cW] | rw [e_cV] | rw [e_in_t _ _ _ _ (by omega)] | rw [e_in_f _ _ _ _ (by omega)] | rw [b_pos (by omega)] | rw [b_neg (by omega)] | rw [e_add _ _ _ (by omega)] | rw [e_sub _ _ _ (by omega)] | rw [e_mul _ _ _ (by omega)] | rw [e_lsub _ _ _ (by omega)] | rw [e_rd _ _ _ _ _ (by omega)] | rw [b_pos True.intro] | rw [b_neg not_false] | simp only [Int.reduceToNat, Int.reduceSub, Int.reduceAdd, Int.reduceMul]))
  obtain ⟨b1, b2, b3⟩ := b0
  have hh := holdsP_pos hv b2.1 b2.2
  have v0 := spF_v (x := x1) (g := h 60) b1
  have kF : loopF (g_X4_settle_l11 59 (fun a => some a) (holdsP h x2 x3)) FU (1, ((0 : Nat) : Int), setRow h 60 (spF x1 (h 60))) = some (setRow h 60 (spN (holdsP h x2 x3) 1801 (spF x1 (h 60)))) :=
    k_spRounds hh.1 1801 _ 0 FU v0.1 v0.2 (by omega) (fu _ (by omega))
  refine ⟨spN (holdsP h x2 x3) 1801 (spF x1 (h 60)) x4.toNat, setRow h 60 (spN (holdsP h x2 x3) 1801 (spF x1 (h 60))), ?_⟩
  generalize hf60 : spN (holdsP h x2 x3) 1801 (spF x1 (h 60)) = f60 at kF
  have v1 := spF_v (x := x1) (g := setRow h 60 f60 125) b1
  have mF := m_spRounds (h := setRow h 60 f60) (x4 := x4) hh.1 (by omega) 1801 _ FU v1.1 v1.2 (fu _ (by omega))
  have mh : g_X9_holdsOf x2 x3 (setRow h 60 f60) = some (holdsP h x2 x3) := m_holdsOf (P := h) (fun p hp => setRow_ne _ _ _ _ (by omega)) hv b2.1 b2.2
  have ee : spN (holdsP h x2 x3) 1801 (spF x1 (setRow h 60 f60 125)) x4.toNat = f60 x4.toNat := by
    rw [← hf60]
    refine spN_congr 1801 _ _ (fun i hi => ?_) _ (by omega)
    unfold spF
    rw [if_pos hi, if_pos hi]
  refine ⟨setRow (setRow h 60 f60) 125 (spN (holdsP h x2 x3) 1801 (spF x1 (setRow h 60 f60 125))), ?_, ?_, r.quiet (by omega) ?_ ?_ ?_⟩
  · (rw [e_join]; (try dsimp only); rw [b_neg (by omega), e_cI, b_neg (by omega), k_isSand_t b2, e_cP, b_neg (by decide), b_neg (by omega), e_cI, b_pos (by omega), eb, k_bearing rb.2.2.1 hv b2.1 b2.2, e_cP])
    have es : g_X4_settle 59 x1 (holdsP h x2 x3) h = some (setRow h 60 f60) := by
      unfold g_X4_settle
      (rw [e_cI, e_fill, e_cV, e_cI, e_wrR _ _ _ _ _ _ (by omega), e_cI, e_cI, e_join]; (try dsimp only))
      have e0 : setRow (fillR h (59 + 1) 9 0) (59 + 1) (upd1 (fillR h (59 + 1) 9 0 (59 + 1)) (4 : Int).toNat x1) = setRow h 60 (spF x1 (h 60)) := by
        funext p j
        show (if p = 60 then (if j = 4 then x1 else fillR h 60 9 0 60 j) else fillR h 60 9 0 p j) = if p = 60 then spF x1 (h 60) j else h p j
        unfold fillR spF
        by_cases z : p = 60
        · rw [if_pos z, if_pos z]
          by_cases z4 : j = 4
          · rw [if_pos z4, if_pos (by omega), if_pos z4]
          · rw [if_neg z4]
            by_cases z9 : j < 9
            · rw [if_pos ⟨rfl, z9⟩, if_pos z9, if_neg z4]
            · rw [if_neg (by omega), if_neg z9]
        · rw [if_neg z, if_neg z, if_neg (by omega)]
      rw [e0]
      exact kF
    rw [es, e_cV, e_rd _ _ _ _ _ (by omega), setRow_same]
  · (rw [e_i2l, e_cI, e_cI, e_in_t _ _ _ _ b1, e_join]; (try dsimp only); rw [b_neg (by decide), m_isSand_t b2, e_cP, b_neg (by decide), e_i2l, e_cI, e_cI, e_in_t _ _ _ _ b3, b_neg (by decide), mh, e_cP, e_cI])
    refine join_gen (fun j16 hj16 => ?_)
    generalize setRow h 60 f60 = g at *
    refine loopF_for' 9 (fun i => ((i : Int), setRow g 125 (fun j => if j < i then (if j = 4 then x1 else 0) else g 125 j))) ?_ ?_ ?_ (fu _ (by omega))
    · intro i hi self
      unfold g_X9_spill_l70
      dsimp only
      rw [e_cI, b_neg (by omega), e_cI]
      refine join_gen (fun j76 hj76 => ?_)
      have red : j76 (if i = 4 then x1 else 0) = self (((i + 1 : Nat) : Int), setRow g 125 (fun j => if j < i + 1 then (if j = 4 then x1 else 0) else g 125 j)) := by
        rw [hj76, e_wrR _ _ _ _ _ _ (by omega), setRow_same, setRow_setRow, Int.toNat_natCast, e_add _ _ _ (by omega), show ((i + 1 : Nat) : Int) = (i : Int) + 1 by omega]
        congr 1
        refine Prod.ext rfl ?_
        dsimp only
        congr 1
        funext j
        unfold upd1
        try dsimp only
        by_cases z : j = i
        · subst z
          rw [if_pos rfl, if_pos (show j < j + 1 by omega)]
        · rw [if_neg z]
          by_cases z2 : j < i
          · rw [if_pos z2, if_pos (show j < i + 1 by omega)]
          · rw [if_neg z2, if_neg (show ¬ j < i + 1 by omega)]
      rw [← red]
      by_cases z : i = 4
      · rw [b_pos (by omega), if_pos z]
      · rw [b_neg (by omega), e_cI, if_neg z]
    · intro self
      unfold g_X9_spill_l70
      dsimp only
      rw [e_cI, b_pos (by omega), hj16, e_cI]
      rw [show setRow g 125 (fun j => if j < 9 then (if j = 4 then x1 else 0) else g 125 j) = setRow g 125 (spF x1 (g 125)) from rfl, mF, ee]
    · refine Prod.ext rfl ?_
      dsimp only
      funext p j
      unfold setRow
      dsimp only
      split
      · rw [if_neg (show ¬ j < 0 by omega)]
        rename_i e
        rw [e]
      · rfl
  · intro p hp
    rw [setRow_ne _ _ _ _ (by omega), setRow_ne _ _ _ _ (by omega)]
  · intro p a1 a2
    rw [setRow_ne _ _ _ _ (by omega), setRow_ne _ _ _ _ (by omega)]
  · intro p hp
    rw [setRow_ne _ _ _ _ (by omega), setRow_ne _ _ _ _ (by omega)]
/-! join -/
theorem e_units {hh a : Int} {j3 j30 : Int → Option Int} (ha : 1 ≤ a ∧ a ≤ 99) (hhh : 1 ≤ hh ∧ hh ≤ 99) : ∀ (n : Nat) (i u : Int) (F : Nat), hh - i * a ≤ (n : Int) → 1 ≤ i ∧ i ≤ 100 → 0 ≤ u ∧ u ≤ 200 * i → n < F → -10000 ≤ hh - i * a → i + n ≤ 110 →
    ∃ x : Int, (0 ≤ x ∧ x ≤ 40000) ∧ loopF (g_X8_unitsOfTower_l6 j3 hh a) F (u, i) = j3 x ∧ loopF (g_X9_join_l71 j30 a) F (u, hh - i * a) = j30 x := by
  have stop : ∀ (i u : Int) (F : Nat), hh - i * a ≤ 0 → 1 ≤ i ∧ i ≤ 100 → -10000 ≤ hh - i * a → 0 < F → loopF (g_X8_unitsOfTower_l6 j3 hh a) F (u, i) = j3 u ∧ loopF (g_X9_join_l71 j30 a) F (u, hh - i * a) = j30 u := by
    intro i u F h1 h2 h3 hF
    obtain ⟨F, rfl⟩ : ∃ g, F = g + 1 := ⟨F - 1, by omega⟩
    constructor
    · show g_X8_unitsOfTower_l6 j3 hh a (loopF _ F) (u, i) = _
      unfold g_X8_unitsOfTower_l6
      dsimp only
      by_cases z : hh ≤ i
      · rw [b_pos z]
      · rw [b_neg z, e_mul _ _ _ (by omega), e_sub _ _ _ (by omega), b_pos h1]
    · show g_X9_join_l71 j30 a (loopF _ F) (u, hh - i * a) = _
      unfold g_X9_join_l71
      dsimp only
      rw [b_pos h1]
  intro n
  induction n with
  | zero =>
    intro i u F h1 h2 h3 hF h4 h5
    exact ⟨u, by omega, stop i u F (by omega) h2 h4 hF⟩
  | succ n ih =>
    intro i u F h1 h2 h3 hF h4 h5
    by_cases z : hh - i * a ≤ 0
    · exact ⟨u, by omega, stop i u F z h2 h4 (by omega)⟩
    obtain ⟨F, rfl⟩ : ∃ g, F = g + 1 := ⟨F - 1, by omega⟩
    have hi : i * 1 ≤ i * a := Int.mul_le_mul_of_nonneg_left ha.1 (by omega)
    have e1 : (i + 1) * a = i * a + a := by rw [Int.add_mul, Int.one_mul]
    obtain ⟨x, x1, x2, x3⟩ := ih (i + 1) (u + 2 * (hh - i * a)) F (by rw [e1]; omega) (by omega) (by omega) (by omega) (by rw [e1]; omega) (by omega)
    refine ⟨x, x1, ?_, ?_⟩
    · rw [← x2]
      show g_X8_unitsOfTower_l6 j3 hh a (loopF _ F) (u, i) = _
      generalize loopF (g_X8_unitsOfTower_l6 j3 hh a) F = self
      unfold g_X8_unitsOfTower_l6
      dsimp only
      rw [b_neg (by omega), e_mul _ _ _ (by omega), e_sub _ _ _ (by omega), b_neg z, e_cI, e_mul _ _ _ (by omega), e_sub _ _ _ (by omega), e_mul _ _ _ (by omega), e_add _ _ _ (by omega), e_add _ _ _ (by omega)]
    · rw [← x3]
      show g_X9_join_l71 j30 a (loopF _ F) (u, hh - i * a) = _
      generalize loopF (g_X9_join_l71 j30 a) F = self
      unfold g_X9_join_l71
      dsimp only
      rw [b_neg z, e_cI, e_mul _ _ _ (by omega), e_add _ _ _ (by omega), e_sub _ _ _ (by omega), show hh - i * a - a = hh - (i + 1) * a by rw [e1]; omega]
def joD (T r s B : Int) (j : Nat) : Int := (j : Int) + (((if 0 < T - r * (j : Int) then T - r * (j : Int) else 0) + (if 0 < T - s * (j : Int) then T - s * (j : Int) else 0)) * 100 + B - 1) / B
theorem joD_in {T r s B : Int} (hT : 0 ≤ T ∧ T ≤ 40000) (hr : 1 ≤ r ∧ r ≤ 50) (hs : 1 ≤ s ∧ s ≤ 50) (hB : 2 ≤ B ∧ B ≤ 10000) {j : Nat} (hj : j < 100) : 0 ≤ joD T r s B j ∧ joD T r s B j < 2147483647 := by
  have h1 : 0 ≤ r * (j : Int) := Int.mul_nonneg (by omega) (by omega)
  have h2 : 0 ≤ s * (j : Int) := Int.mul_nonneg (by omega) (by omega)
  unfold joD
  generalize r * (j : Int) = rj at h1
  generalize s * (j : Int) = sj at h2
  have h3 : 0 ≤ (if 0 < T - rj then T - rj else 0) ∧ (if 0 < T - rj then T - rj else 0) ≤ 40000 := by split <;> omega
  have h4 : 0 ≤ (if 0 < T - sj then T - sj else 0) ∧ (if 0 < T - sj then T - sj else 0) ≤ 40000 := by split <;> omega
  generalize (if 0 < T - rj then T - rj else 0) = u at h3
  generalize (if 0 < T - sj then T - sj else 0) = v at h4
  have h5 := Int.ediv_nonneg (a := (u + v) * 100 + B - 1) (b := B) (by omega) (by omega)
  have h6 := Int.ediv_le_self (a := (u + v) * 100 + B - 1) B (by omega)
  omega
def joK (d : Nat → Int) : Nat → Int × Int
  | 0 => (0, 2147483647)
  | j + 1 => if (joK d j).2 ≤ d j then joK d j else ((j : Int), d j)
def joM (d : Nat → Int) : Nat → Int × Int
  | 0 => (0, -1)
  | j + 1 => if (joM d j).2 = -1 then ((j : Int), d j) else if d j < (joM d j).2 then ((j : Int), d j) else joM d j
theorem jo_same {d : Nat → Int} (hd : ∀ j, j < 100 → 0 ≤ d j ∧ d j < 2147483647) : ∀ j, j < 100 → joM d (j + 1) = joK d (j + 1) ∧ 0 ≤ (joK d (j + 1)).2
  | 0, h => by
    have := hd 0 h
    unfold joM joK
    rw [if_pos (show (joM d 0).2 = -1 from rfl), if_neg (show ¬ (joK d 0).2 ≤ d 0 by show ¬ (2147483647 : Int) ≤ d 0; omega)]
    exact ⟨rfl, this.1⟩
  | j + 1, h => by
    obtain ⟨i1, i2⟩ := jo_same hd j (by omega)
    have := hd (j + 1) h
    unfold joM joK
    rw [i1, if_neg (by omega)]
    by_cases z : (joK d (j + 1)).2 ≤ d (j + 1)
    · rw [if_neg (by omega), if_pos z]; exact ⟨rfl, i2⟩
    · rw [if_pos (by omega), if_neg z]; exact ⟨rfl, this.1⟩
theorem s_join {x1 x2 x3 x4 x5 x6 : Int} : ∃ z, g_X8_join x1 x2 x3 x4 x5 x6 = some z ∧ g_X9_join x1 x2 x3 x4 x5 x6 = some z := by
  unfold g_X8_join g_X9_join
  by_cases b0 : (1 ≤ x1 ∧ x1 ≤ 99) ∧ (1 ≤ x2 ∧ x2 ≤ 99) ∧ (1 ≤ x3 ∧ x3 ≤ 50) ∧ (1 ≤ x4 ∧ x4 ≤ 50) ∧ (1 ≤ x5 ∧ x5 ≤ 100) ∧ (0 ≤ x6 ∧ x6 ≤ 1)
  rotate_left
  · refine ⟨-2, ?_, ?_⟩
    · rw [e_cI]
      refine join_gen (fun j3 hj3 => ?_)
      have e0 : j3 0 = some (-2) := by rw [hj3, b_pos rfl, e_cI]
      refine join_gen (fun j47 hj47 => ?_)
      have e1 : j47 () = some (-2) := by rw [hj47, e_cI, e0]
      rw [← e1]
      by_cases c1 : x1 < 1
      · rw [b_pos c1]
      rw [b_neg c1, e_cI]
      by_cases c2 : 99 < x1
      · rw [b_pos c2]
      rw [b_neg c2, e_cI]
      by_cases c3 : x2 < 1
      · rw [b_pos c3]
      rw [b_neg c3, e_cI]
      by_cases c4 : 99 < x2
      · rw [b_pos c4]
      rw [b_neg c4, e_cI]
      by_cases c5 : x3 < 1
      · rw [b_pos c5]
      rw [b_neg c5, e_cI]
      by_cases c6 : 50 < x3
      · rw [b_pos c6]
      rw [b_neg c6, e_cI]
      by_cases c7 : x4 < 1
      · rw [b_pos c7]
      rw [b_neg c7, e_cI]
      by_cases c8 : 50 < x4
      · rw [b_pos c8]
      rw [b_neg c8, e_cI]
      by_cases c9 : x5 < 1
      · rw [b_pos c9]
      rw [b_neg c9, e_cI]
      by_cases c10 : 100 < x5
      · rw [b_pos c10]
      rw [b_neg c10]
      by_cases c11 : x6 < 0
      · rw [b_pos c11]
      rw [b_neg c11, e_cI, b_pos (by omega)]
    · rw [e_i2l, e_cI, e_cI]
      by_cases c1 : x1 < 1 ∨ 99 < x1
      · (rw [e_in_f _ _ _ _ c1, e_join]; (try dsimp only); rw [b_pos rfl, e_cI])
      rw [e_in_t _ _ _ _ (by omega)]
      refine join_gen (fun j6 hj6 => ?_)
      have e1 : j6 () = some (-2) := by rw [hj6, e_cI]
      rw [b_neg (by decide), e_i2l, e_cI, e_cI]
      by_cases c2 : x2 < 1 ∨ 99 < x2
      · rw [e_in_f _ _ _ _ c2, b_pos rfl, e1]
      rw [e_in_t _ _ _ _ (by omega), b_neg (by decide), e_i2l, e_cI, e_cI]
      by_cases c3 : x3 < 1 ∨ 50 < x3
      · rw [e_in_f _ _ _ _ c3, b_pos rfl, e1]
      rw [e_in_t _ _ _ _ (by omega), b_neg (by decide), e_i2l, e_cI, e_cI]
      by_cases c4 : x4 < 1 ∨ 50 < x4
      · rw [e_in_f _ _ _ _ c4, b_pos rfl, e1]
      rw [e_in_t _ _ _ _ (by omega), b_neg (by decide), e_i2l, e_cI, e_cI]
      by_cases c5 : x5 < 1 ∨ 100 < x5
      · rw [e_in_f _ _ _ _ c5, b_pos rfl, e1]
      rw [e_in_t _ _ _ _ (by omega), b_neg (by decide), e_i2l, e_cI, e_cI, e_in_f _ _ _ _ (by omega), b_pos rfl, e1]
  obtain ⟨b1, b2, b3, b4, b5, b6⟩ := b0
  obtain ⟨T, hT, u1, u2⟩ := e_units (hh := x1) (a := x2) (j3 := fun a => some a) (j30 := fun a => some a) b2 b1 100 1 x1 FU (by omega) (by omega) (by omega) (fu _ (by omega)) (by omega) (by omega)
  rw [Int.one_mul] at u2
  have hB0 : 0 ≤ (x3 + x4) * x5 := Int.mul_nonneg (by omega) (by omega)
  have hB1 : 2 * 1 ≤ (x3 + x4) * x5 := Int.mul_le_mul (by omega) b5.1 (by omega) (by omega)
  have hB2 : (x3 + x4) * x5 ≤ 100 * 100 := Int.mul_le_mul (by omega) b5.2 (by omega) (by omega)
  have hd := fun j hj => joD_in (T := T) (r := x3) (s := x4) (B := (x3 + x4) * x5) hT b3 b4 (by omega) (j := j) hj
  refine ⟨if x6 = 0 then (joK (joD T x3 x4 ((x3 + x4) * x5)) 100).1 else (joK (joD T x3 x4 ((x3 + x4) * x5)) 100).2, ?_, ?_⟩
  · rw [e_cI]
    refine join_gen (fun j3 hj3 => ?_)
    (rw [e_join]; (try dsimp only); rw [b_neg (by omega), e_cI, b_neg (by omega), e_cI, b_neg (by omega), e_cI, b_neg (by omega), e_cI, b_neg (by omega), e_cI, b_neg (by omega), e_cI, b_neg (by omega), e_cI, b_neg (by omega), e_cI, b_neg (by omega), e_cI, b_neg (by omega), b_neg (by omega), e_cI, b_neg (by omega), e_cI, hj3, b_neg (by decide)])
    have eu : g_X8_unitsOfTower x1 x2 = some T := by
      unfold g_X8_unitsOfTower
      (rw [e_cI, e_join]; (try dsimp only))
      exact u1
    rw [eu, e_cP, e_add _ _ _ (by omega), e_mul _ _ _ (by omega), e_cI, e_cI, e_cI]
    generalize (x3 + x4) * x5 = B at *
    refine join_gen (fun j12 hj12 => ?_)
    refine loopF_for' 100 (fun j => ((joK (joD T x3 x4 B) j).1, (joK (joD T x3 x4 B) j).2, (j : Int))) ?_ ?_ rfl (fu _ (by omega))
    · intro j hj self
      have h1 : 0 ≤ x3 * (j : Int) := Int.mul_nonneg (by omega) (by omega)
      have h2 : 0 ≤ x4 * (j : Int) := Int.mul_nonneg (by omega) (by omega)
      have h1b : x3 * (j : Int) ≤ 50 * 99 := Int.mul_le_mul b3.2 (by omega) (by omega) (by omega)
      have h2b : x4 * (j : Int) ≤ 50 * 99 := Int.mul_le_mul b4.2 (by omega) (by omega) (by omega)
      have hdj := hd j hj
      unfold g_X8_join_l19
      dsimp only
      rw [e_cI, b_neg (by omega), e_cI, e_mul _ _ _ (by omega), e_sub _ _ _ (by omega), e_max, e_cI, e_mul _ _ _ (by omega), e_sub _ _ _ (by omega), e_max]
      have h3 : 0 ≤ (if 0 < T - x3 * (j : Int) then T - x3 * (j : Int) else 0) ∧ (if 0 < T - x3 * (j : Int) then T - x3 * (j : Int) else 0) ≤ 40000 := by split <;> omega
      have h4 : 0 ≤ (if 0 < T - x4 * (j : Int) then T - x4 * (j : Int) else 0) ∧ (if 0 < T - x4 * (j : Int) then T - x4 * (j : Int) else 0) ≤ 40000 := by split <;> omega
      rw [show joK (joD T x3 x4 B) (j + 1) = if (joK (joD T x3 x4 B) j).2 ≤ joD T x3 x4 B j then joK (joD T x3 x4 B) j else ((j : Int), joD T x3 x4 B j) from rfl]
      generalize joK (joD T x3 x4 B) j = q
      unfold joD at hdj ⊢
      generalize (if 0 < T - x3 * (j : Int) then T - x3 * (j : Int) else 0) = u at h3 hdj
      generalize (if 0 < T - x4 * (j : Int) then T - x4 * (j : Int) else 0) = v at h4 hdj
      rw [e_add _ _ _ (by omega), e_cI, e_mul _ _ _ (by omega), e_add _ _ _ (by omega), e_cI, e_sub _ _ _ (by omega), e_div _ _ _ (by omega), e_add _ _ _ (by omega)]
      refine join_gen (fun j41 hj41 => ?_)
      by_cases z : q.2 ≤ (j : Int) + ((u + v) * 100 + B - 1) / B
      · rw [b_pos z, hj41, e_add _ _ _ (by omega), if_pos z, show ((j + 1 : Nat) : Int) = (j : Int) + 1 by omega]
      · rw [b_neg z, hj41, e_add _ _ _ (by omega), if_neg z, show ((j + 1 : Nat) : Int) = (j : Int) + 1 by omega]
    · intro self
      unfold g_X8_join_l19
      dsimp only
      (rw [e_cI, b_pos (by omega), hj12, e_join]; (try dsimp only))
      split <;> rfl
  · (rw [e_i2l, e_cI, e_cI, e_in_t _ _ _ _ b1, e_join]; (try dsimp only); rw [b_neg (by decide), e_i2l, e_cI, e_cI, e_in_t _ _ _ _ b2, b_neg (by decide), e_i2l, e_cI, e_cI, e_in_t _ _ _ _ b3, b_neg (by decide), e_i2l, e_cI, e_cI, e_in_t _ _ _ _ b4, b_neg (by decide), e_i2l, e_cI, e_cI, e_in_t _ _ _ _ b5, b_neg (by decide), e_i2l, e_cI, e_cI, e_in_t _ _ _ _ b6, b_neg (by decide), e_sub _ _ _ (by omega)])
    refine join_gen (fun j30 hj30 => ?_)
    obtain ⟨T2, hT2, y1, y2⟩ := e_units (hh := x1) (a := x2) (j3 := fun a => some a) (j30 := j30) b2 b1 100 1 x1 FU (by omega) (by omega) (by omega) (fu _ (by omega)) (by omega) (by omega)
    rw [Int.one_mul] at y2
    rw [u1] at y1
    have eT : T = T2 := Option.some.inj y1
    subst eT
    rw [y2, hj30, e_cI, e_cI, e_cI]
    refine join_gen (fun j36 hj36 => ?_)
    rw [← (jo_same hd 99 (by omega)).1]
    refine loopF_for' 100 (fun j => ((joM (joD T x3 x4 ((x3 + x4) * x5)) j).1, (joM (joD T x3 x4 ((x3 + x4) * x5)) j).2, (j : Int))) ?_ ?_ rfl (fu _ (by omega))
    · intro j hj self
      have h1 : 0 ≤ x3 * (j : Int) := Int.mul_nonneg (by omega) (by omega)
      have h2 : 0 ≤ x4 * (j : Int) := Int.mul_nonneg (by omega) (by omega)
      have h1b : x3 * (j : Int) ≤ 50 * 99 := Int.mul_le_mul b3.2 (by omega) (by omega) (by omega)
      have h2b : x4 * (j : Int) ≤ 50 * 99 := Int.mul_le_mul b4.2 (by omega) (by omega) (by omega)
      have hdj := hd j hj
      have jl : ∀ b : Int, 0 ≤ b ∧ b ≤ 5000 → g_X9_joinLeft T b = some (if 0 < T - b then T - b else 0) := by
        intro b hb
        unfold g_X9_joinLeft
        rw [e_cI, e_sub _ _ _ (by omega), e_max]
      unfold g_X9_join_l43
      dsimp only
      rw [e_cI, b_neg (by omega), e_mul _ _ _ (by omega), jl _ (by omega), e_cP, e_mul _ _ _ (by omega), jl _ (by omega), e_cP]
      have h3 : 0 ≤ (if 0 < T - x3 * (j : Int) then T - x3 * (j : Int) else 0) ∧ (if 0 < T - x3 * (j : Int) then T - x3 * (j : Int) else 0) ≤ 40000 := by split <;> omega
      have h4 : 0 ≤ (if 0 < T - x4 * (j : Int) then T - x4 * (j : Int) else 0) ∧ (if 0 < T - x4 * (j : Int) then T - x4 * (j : Int) else 0) ≤ 40000 := by split <;> omega
      rw [show joM (joD T x3 x4 ((x3 + x4) * x5)) (j + 1) = if (joM (joD T x3 x4 ((x3 + x4) * x5)) j).2 = -1 then ((j : Int), joD T x3 x4 ((x3 + x4) * x5) j) else if joD T x3 x4 ((x3 + x4) * x5) j < (joM (joD T x3 x4 ((x3 + x4) * x5)) j).2 then ((j : Int), joD T x3 x4 ((x3 + x4) * x5) j) else joM (joD T x3 x4 ((x3 + x4) * x5)) j from rfl]
      generalize joM (joD T x3 x4 ((x3 + x4) * x5)) j = q
      unfold joD at hdj ⊢
      generalize (if 0 < T - x3 * (j : Int) then T - x3 * (j : Int) else 0) = u at h3 hdj
      generalize (if 0 < T - x4 * (j : Int) then T - x4 * (j : Int) else 0) = v at h4 hdj
      rw [e_add _ _ _ (by omega), e_add _ _ _ (by omega), e_mul _ _ _ (by omega)]
      generalize (x3 + x4) * x5 = B at *
      rw [e_cI, e_mul _ _ _ (by omega), e_add _ _ _ (by omega), e_cI, e_sub _ _ _ (by omega), e_div _ _ _ (by omega), show 100 * (u + v) = (u + v) * 100 by omega, e_add _ _ _ (by omega), e_cI]
      refine join_gen (fun j64 hj64 => ?_)
      rw [e_join]
      by_cases z0 : q.2 = -1
      · rw [b_pos z0, hj64, e_add _ _ _ (by omega), if_pos z0, show ((j + 1 : Nat) : Int) = (j : Int) + 1 by omega]
      rw [b_neg z0, if_neg z0]
      by_cases z : (j : Int) + ((u + v) * 100 + B - 1) / B < q.2
      · rw [b_pos z, hj64, e_add _ _ _ (by omega), if_pos z, show ((j + 1 : Nat) : Int) = (j : Int) + 1 by omega]
      · rw [b_neg z, hj64, e_add _ _ _ (by omega), if_neg z, show ((j + 1 : Nat) : Int) = (j : Int) + 1 by omega]
    · intro self
      unfold g_X9_join_l43
      dsimp only
      (rw [e_cI, b_pos (by omega), hj36, e_join]; (try dsimp only))
      split <;> rfl
