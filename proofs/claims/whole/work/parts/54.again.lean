/-! CALLS: again -/
def wetW (x : Int) (m : Nat) : Int := if (m : Int) = x then 3 else -1
def agV (h : Hp) (k : Nat) (seed : Int) (M : Nat) (x : Int) : Int := valP h k (-1) seed (wetW x) M
theorem agV_in {h : Hp} {k M : Nat} {seed x : Int} : 0 ≤ agV h k seed M x ∧ agV h k seed M x ≤ (M : Int) := lastP_in
/-- a wetting behind the fall changes nothing -/
theorem agV_late {h : Hp} {k M m : Nat} {seed : Int} (hm : agV h k seed M (-1) < (m : Int)) : agV h k seed M (m : Int) = agV h k seed M (-1) := by
  by_cases hM : M ≤ m
  · unfold agV
    refine valP_congr (fun j hj => ?_)
    unfold wetW
    rw [if_neg (by omega), if_neg (by omega)]
  unfold agV valP at hm ⊢
  have same : ∀ j, j ≤ m → trS h (fc h k) (wetW (m : Int)) (bg h (-1) seed) j = trS h (fc h k) (wetW (-1)) (bg h (-1) seed) j := fun j hj => trS_congr j (fun i hi => by
    unfold wetW
    rw [if_neg (by omega), if_neg (by omega)])
  have h1 := lfP_in (S := trS h (fc h k) (wetW (-1)) (bg h (-1) seed)) (c := fc h k) (fl := ffl h k) M
  have e0 := lfP_congr (S := trS h (fc h k) (wetW (m : Int)) (bg h (-1) seed)) (U := trS h (fc h k) (wetW (-1)) (bg h (-1) seed)) (c := fc h k) (fl := ffl h k) m (fun j hj => by rw [same j hj])
  have st := fun S z => lfP_stay (S := S) (c := fc h k) (fl := ffl h k) (m := m) z (M - m)
  rw [show m + (M - m) = M by omega] at st
  unfold lastP at hm ⊢
  generalize trS h (fc h k) (wetW (-1)) (bg h (-1) seed) = U at *
  generalize trS h (fc h k) (wetW (m : Int)) (bg h (-1) seed) = S at *
  by_cases z : lfP U (fc h k) (ffl h k) M = -1
  · rw [if_pos z] at hm
    omega
  rw [if_neg z] at hm
  have hU : lfP U (fc h k) (ffl h k) m ≠ -1 := by
    intro y
    -- it stood through m minutes, so what fell fell at m or later
    have key : ∀ n : Nat, lfP U (fc h k) (ffl h k) (m + n) = -1 ∨ (m : Int) ≤ lfP U (fc h k) (ffl h k) (m + n) := by
      intro n
      induction n with
      | zero => exact Or.inl y
      | succ n ih =>
        show (if lfP U (fc h k) (ffl h k) (m + n) = -1 then (if U (m + n + 1) (fc h k) < ffl h k then ((m + n : Nat) : Int) else -1) else lfP U (fc h k) (ffl h k) (m + n)) = -1 ∨ (m : Int) ≤ (if lfP U (fc h k) (ffl h k) (m + n) = -1 then (if U (m + n + 1) (fc h k) < ffl h k then ((m + n : Nat) : Int) else -1) else lfP U (fc h k) (ffl h k) (m + n))
        by_cases a : lfP U (fc h k) (ffl h k) (m + n) = -1
        · rw [if_pos a]
          split
          · exact Or.inr (by omega)
          · exact Or.inl rfl
        · rw [if_neg a]
          exact ih
    have := key (M - m)
    rw [show m + (M - m) = M by omega] at this
    omega
  rw [st S (by rw [e0]; exact hU), st U hU, e0]
/-- the first that is more than without -/
def agP (f : Int → Int) : Nat → Int × Int
  | 0 => (f (-1), -1)
  | x + 1 => if (agP f x).1 < f (x : Int) then (f (x : Int), (x : Int)) else agP f x
theorem agP_ge {f : Int → Int} : ∀ x, f (-1) ≤ (agP f x).1
  | 0 => Int.le_refl _
  | x + 1 => by
    have := agP_ge (f := f) x
    unfold agP
    split
    · dsimp only; omega
    · exact this
theorem ag_done {f : Int → Int} {x : Nat} (h : ∀ y : Nat, x ≤ y → f (y : Int) ≤ (agP f x).1) : ∀ j : Nat, agP f (x + j) = agP f x
  | 0 => rfl
  | j + 1 => by
    have ih := ag_done h j
    show (if (agP f (x + j)).1 < f ((x + j : Nat) : Int) then (f ((x + j : Nat) : Int), ((x + j : Nat) : Int)) else agP f (x + j)) = _
    have := h (x + j) (by omega)
    rw [ih, if_neg (by omega)]
theorem k_again {h : Hp} {N k M c v : Nat} {seed : Int} (r : Rel N h) (hN : N ≤ 600) (rb : BchR h c) (rs : SeaR h v) (hk : k < (h 100 12).toNat) (hs : 0 ≤ seed ∧ seed < 2147483648) (hM : 1 ≤ M ∧ M ≤ 99) :
    ∃ g, g_X8_again (k : Int) seed (M : Int) h = some ((agP (agV h k seed M) M).2, g) ∧ TF h g := by
  have hv := r.1
  have h41 := (pv_plan hv).1
  -- one trial
  have one : ∀ (g : Hp) (x : Int), TF h g → -1 ≤ x → x < 99 → ∀ (K : Hp → Option (Int × Hp)), ∃ g', TF h g' ∧ g' 55 0 = agV h k seed M x ∧
      (cV (g_X6_start 46 26 (-1) seed g) fun h28 => gR h28 0 1 [3, 9] fun q29 => cV (g_X6_watchFlag 46 q29 (k : Int) h28) fun h30 =>
        (if x = -1 then (gR h30 0 1 [3, 9] fun q33 => gR h30 0 3 [15, 20] fun q34 => cV (g_X6_run 46 q33 q34 (-1) (M : Int) h30) K) else cI 3 fun z31 => cV (g_X6_setWork 46 x z31 h30) fun h32 => gR h32 0 1 [3, 9] fun q33 => gR h32 0 3 [15, 20] fun q34 => cV (g_X6_run 46 q33 q34 (-1) (M : Int) h32) K)) = K g' := by
    intro g x hg hx hx2 K
    obtain ⟨g1, a1, a2, a3, a4, a5⟩ := tf_start (p := -1) (seed := seed) r hg (by omega) hs
    have w1 := tf_watchFlag (W := 0) r rb a2 a3 hk (by omega) (by rw [a4]; rfl)
    generalize hg2 : set2 (set2 (set2 g1 56 0 (fc h k : Int)) 57 0 (ffl h k)) 46 5 (((0 : Nat) : Int) + 1) = g2 at w1
    have f2 : TF h g2 := fun p hp => by rw [← hg2, set2_ne p (by omega), set2_ne p (by omega), set2_ne p (by omega), a2 p hp]
    have r2 : RS h g2 47 (bg h (-1) seed) := a3.fr (fun p _ _ => by rw [← hg2, set2_ne p (by omega), set2_ne p (by omega), set2_ne p (by omega)])
    have c5 : g2 46 5 = 1 := by rw [← hg2, set2_same]; rfl
    have c56 : g2 56 0 = (fc h k : Int) := by rw [← hg2, set2_np _ _ _ _ _ _ (by omega), set2_np _ _ _ _ _ _ (by omega), set2_same]
    have c57 : g2 57 0 = ffl h k := by rw [← hg2, set2_np _ _ _ _ _ _ (by omega), set2_same]
    have c58 : ∀ m, m < 99 → g2 58 m = -1 := fun m hm => by rw [← hg2, set2_np _ _ _ _ _ _ (by omega), set2_np _ _ _ _ _ _ (by omega), set2_np _ _ _ _ _ _ (by omega), a5 m hm]
    have ph : planRef (-1) = -1 := rfl
    rw [a1, e_cV, tf_beach rb a2, w1, e_cV]
    by_cases z : x = -1
    · rw [b_pos z]
      obtain ⟨g4, b1, b2, b3⟩ := tf_run1 (wk := wetW x) (M := M) r hN rb rs f2 (by omega) hs r2 hk c5 c56 c57 (fun m hm => Or.inl (c58 m hm)) (fun m hm => by rw [c58 m hm]; unfold wetW; rw [if_neg (by omega)]) hM
      rw [ph] at b1
      refine ⟨g4, b2, b3, ?_⟩
      rw [tf_beach rb f2, tf_sea rs f2, b1, e_cV]
    · rw [b_neg z, e_cI]
      obtain ⟨y, rfl⟩ := Int.eq_ofNat_of_zero_le (show 0 ≤ x by omega)
      have es : g_X6_setWork 46 (y : Int) 3 g2 = some (set2 g2 58 y 3) := by
        unfold g_X6_setWork
        (rw [e_join]; (try dsimp only); rw [b_neg (by omega), e_cI, b_neg (by omega), e_wrn _ _ _ _ _ _ (by omega)])
      rw [es, e_cV]
      have f3 : TF h (set2 g2 58 y 3) := fun p hp => by rw [set2_ne p (by omega), f2 p hp]
      have c58b : ∀ m, m < 99 → set2 g2 58 y 3 58 m = wetW (y : Int) m := by
        intro m hm
        unfold wetW
        by_cases q : m = y
        · subst q; rw [set2_same, if_pos rfl]
        · rw [set2_nk _ _ _ _ _ _ q, c58 m hm, if_neg (by omega)]
      obtain ⟨g4, b1, b2, b3⟩ := tf_run1 (wk := wetW (y : Int)) (M := M) r hN rb rs f3 (by omega) hs (r2.fr (fun p _ _ => set2_ne p (by omega))) hk (by rw [set2_np _ _ _ _ _ _ (by omega), c5]) (by rw [set2_np _ _ _ _ _ _ (by omega), c56]) (by rw [set2_np _ _ _ _ _ _ (by omega), c57])
        (fun m hm => by
          rw [c58b m hm]
          unfold wetW
          split
          · exact Or.inr (by omega)
          · exact Or.inl rfl) c58b hM
      rw [ph] at b1
      refine ⟨g4, b2, b3, ?_⟩
      rw [tf_beach rb f3, tf_sea rs f3, b1, e_cV]
  have key : ∃ rr : Int × Hp, g_X8_again (k : Int) seed (M : Int) h = some rr ∧ (rr.1 = (agP (agV h k seed M) M).2 ∧ TF h rr.2) := by
    unfold g_X8_again
    (rw [k_isFlag_t rb (by unfold okFlag; omega), e_cP, e_join]; (try dsimp only); rw [b_neg (by decide), b_neg (by omega), k_isSpan_t (by unfold okSpan; omega), e_cP, b_neg (by decide), e_cI])
    obtain ⟨g0, z1, z2, z3⟩ := one h (-1) TF.rf (by omega) (by omega) (fun h12 => cI 0 fun z13 => rdI h12 55 2 z13 fun z14 => cI (-1) fun z15 => cI 0 fun z16 => joinF (fun (a17 : Int × Hp) => some (a17.1, a17.2)) fun j18 => loopF (g_X8_again_l22 j18 (k : Int) seed (M : Int) z14) FU (z14, z15, z16, h12))
    simp only [if_true] at z3
    rw [z3, e_cI, e_rd _ _ _ _ _ (by omega), show (0 : Int).toNat = 0 from rfl, z2, e_cI, e_cI]
    refine join_ex (fun j18 hj18 => ?_)
    have fin : ∀ (b : Int) (g : Hp), b = (agP (agV h k seed M) M).2 → TF h g → ∃ rr : Int × Hp, j18 (b, g) = some rr ∧ (rr.1 = (agP (agV h k seed M) M).2 ∧ TF h rr.2) := fun b g hb hg => by
      rw [hj18]
      exact ⟨_, rfl, hb, hg⟩
    refine loopF_ex M (fun i (q : Int × Int × Int × Hp) => (q.1 = (agP (agV h k seed M) i).1 ∧ q.2.1 = (agP (agV h k seed M) i).2 ∧ q.2.2.1 = (i : Int)) ∧ TF h q.2.2.2) ?_ ?_ FU 0 _ (Nat.zero_le _) (fu _ (by omega)) ⟨⟨rfl, rfl, rfl⟩, z1⟩
    · rintro i ⟨y1, y2, y3, g⟩ hi ⟨⟨e1, e2, e3⟩, hg⟩ self
      dsimp only at e1 e2 e3 hg
      subst e1 e2 e3
      unfold g_X8_again_l22
      dsimp only
      have ge := agP_ge (f := agV h k seed M) i
      by_cases stop : agV h k seed M (-1) < (i : Int) ∨ (M : Int) ≤ (agP (agV h k seed M) i).1
      · right
        have dn : ∀ y : Nat, i ≤ y → agV h k seed M (y : Int) ≤ (agP (agV h k seed M) i).1 := by
          intro y hy
          rcases stop with s | s
          · rw [agV_late (by omega)]; exact ge
          · have := (agV_in (h := h) (k := k) (M := M) (seed := seed) (x := (y : Int))).2
            omega
        have := ag_done dn (M - i)
        rw [show i + (M - i) = M by omega] at this
        by_cases s : agV h k seed M (-1) < (i : Int)
        · rw [b_pos s]
          exact fin _ g (by rw [this]) hg
        · rw [b_neg s, b_neg (by omega), b_pos (stop.resolve_left s)]
          exact fin _ g (by rw [this]) hg
      left
      rw [b_neg (by omega), b_neg (by omega), b_neg (by omega), e_cI]
      obtain ⟨g4, b2, b3, b1⟩ := one g (i : Int) hg (by omega) (by omega) (fun h35 => cI 0 fun z36 => rdI h35 55 2 z36 fun z37 => joinF (fun (a38 : Int × Int) => addI (i : Int) 1 fun z42 => self (a38.1, a38.2, z42, h35)) fun j39 => if z37 ≤ (agP (agV h k seed M) i).1 then j39 ((agP (agV h k seed M) i).1, (agP (agV h k seed M) i).2) else cI 0 fun z43 => rdI h35 55 2 z43 fun z44 => j39 (z44, (i : Int)))
      simp only [show ¬ ((i : Int) = -1) by omega, if_false] at b1
      rw [b1, e_cI, e_rd _ _ _ _ _ (by omega), show (0 : Int).toNat = 0 from rfl, b3]
      rw [show agP (agV h k seed M) (i + 1) = if (agP (agV h k seed M) i).1 < agV h k seed M (i : Int) then (agV h k seed M (i : Int), (i : Int)) else agP (agV h k seed M) i from rfl]
      refine join_exr (fun j39 hj39 => ?_)
      by_cases y : agV h k seed M (i : Int) ≤ (agP (agV h k seed M) i).1
      · rw [b_pos y, hj39, e_add _ _ _ (by omega), if_neg (show ¬ (agP (agV h k seed M) i).1 < agV h k seed M (i : Int) by omega)]
        refine ⟨_, ?_, rfl⟩
        exact ⟨⟨rfl, rfl, by (try dsimp only); omega⟩, b2⟩
      · rw [b_neg y, e_cI, e_rd _ _ _ _ _ (by omega), show (0 : Int).toNat = 0 from rfl, b3, hj39, e_add _ _ _ (by omega), if_pos (show (agP (agV h k seed M) i).1 < agV h k seed M (i : Int) by omega)]
        refine ⟨_, ?_, rfl⟩
        exact ⟨⟨rfl, rfl, by (try dsimp only); omega⟩, b2⟩
    · rintro ⟨y1, y2, y3, g⟩ ⟨⟨e1, e2, e3⟩, hg⟩ self
      dsimp only at e1 e2 e3 hg
      subst e1 e2 e3
      unfold g_X8_again_l22
      dsimp only
      by_cases s : agV h k seed M (-1) < (M : Int)
      · rw [b_pos s]
        exact fin _ g rfl hg
      · rw [b_neg s, b_pos (by omega)]
        exact fin _ g rfl hg
  obtain ⟨⟨z, g⟩, a, b, d⟩ := key
  exact ⟨g, by rw [a]; dsimp only at b; rw [b], d⟩
theorem m_lastByWet {h g : Hp} {N k M : Nat} {seed : Int} {x : Int} (r : Rel N h) (hN : N ≤ 600) (f : ∀ p, p ≠ 122 → (p < 46 ∨ 58 < p) → g p = h p) (hk : k < (h 100 12).toNat) (hs : 0 ≤ seed ∧ seed < 2147483648) (hM : 1 ≤ M ∧ M ≤ 99) :
    ∃ s, g_X9_lastByWet (k : Int) x seed (M : Int) g = some (agV h k seed M x, setRow g 122 s) := by
  have hv := r.1
  have h41 := (pv_plan hv).1
  have h12 := (pv_flags hv).1
  have e121 : g 121 = h 121 := f 121 (by omega) (by omega)
  have hpm : PM h g := fun p hp => f p (by omega) (by omega)
  obtain ⟨q1, q2⟩ := fc_in hv hk
  have i1 := ag_iv (iv_bg r (p := -1) (by omega) hs) hv (bgM_ag (g := g))
  refine ⟨trS h (fc h k) (wetW x) (bgM h g (-1) seed) M, ?_⟩
  unfold g_X9_lastByWet
  rw [e_cI, m_begin e121, e_cV, e_cI]
  refine loopF_for' M (fun i => ((i : Int), setRow g 122 (trS h (fc h k) (wetW x) (bgM h g (-1) seed) i))) ?_ ?_ rfl (fu _ (by omega))
  · intro i hi self
    unfold g_X9_lastByWet_l5
    dsimp only
    rw [b_neg (by omega)]
    refine join_gen (fun j10 hj10 => ?_)
    have go : ∀ s, s = workP h (fc h k) (wetW x i) (trS h (fc h k) (wetW x) (bgM h g (-1) seed) i) → j10 (setRow g 122 s) = self (((i + 1 : Nat) : Int), setRow g 122 (trS h (fc h k) (wetW x) (bgM h g (-1) seed) (i + 1))) := by
      intro s hss
      rw [hj10, m_fin1 r hN hpm hs q2 (by omega) g hss, e_cV, e_add _ _ _ (by omega), show ((i + 1 : Nat) : Int) = (i : Int) + 1 by omega]
    by_cases z : (i : Int) = x
    · rw [b_pos z, e_cI, m_works (B := 6336) (T := 360 * (N : Int) + (i : Nat)) (w := 3) hv hpm (iv_trS i1 hv q2 i) (by omega) (by omega) q2 (by rw [e121]; exact (fc_row r hk).1) (by omega), e_cV]
      refine go _ ?_
      rw [show wetW x i = 3 by unfold wetW; rw [if_pos z]]
    · rw [b_neg z]
      refine go _ ?_
      rw [show wetW x i = -1 by unfold wetW; rw [if_neg z], workP_no]
  · intro self
    unfold g_X9_lastByWet_l5
    dsimp only
    rw [b_pos (by omega), m_lastV r hN e121 (by omega) hs hk hM, e_cP]
    rfl
theorem s_again {n : Nat} {h : Hp} {x1 x2 x3 : Int} (hn : n ≤ 600) (hx2 : inR x2) (r : Rel n h) : ∃ z h1 h2, g_X8_again x1 x2 x3 h = some (z, h1) ∧ g_X9_again x1 x2 x3 h1 = some (z, h2) ∧ Rel (n + 1) h2 := by
  have r' := r
  obtain ⟨hv, ⟨c, rb⟩, ⟨v, rs⟩, rp, -⟩ := r'
  unfold inR at hx2
  by_cases o : okAsk h x1 x2 x3
  rotate_left
  · refine ⟨-2, h, h, ?_, ?_, r.next⟩
    · unfold g_X8_again
      by_cases o1 : okFlag h x1
      rotate_left
      · (rw [k_isFlag_f rb o1, e_cP, e_join]; (try dsimp only); rw [b_pos rfl, e_cI])
      (rw [k_isFlag_t rb o1, e_cP, e_join]; (try dsimp only); rw [b_neg (by decide)])
      by_cases o2 : x2 < 0
      · rw [b_pos o2, e_cI]
      rw [b_neg o2]
      by_cases o3 : okSpan x3
      · exact absurd ⟨o1, by omega, o3⟩ o
      · rw [k_isSpan_f o3, e_cP, b_pos rfl, e_cI]
    · unfold g_X9_again
      rw [m_isAsked_f hv o, e_cP, b_pos rfl, e_cI]
  obtain ⟨o1, o2, o3⟩ := o
  obtain ⟨k, rfl⟩ := Int.eq_ofNat_of_zero_le o1.1
  obtain ⟨M, rfl⟩ := Int.eq_ofNat_of_zero_le (show 0 ≤ x3 by unfold okSpan at o3; omega)
  have hk : k < (h 100 12).toNat := by unfold okFlag at o1; omega
  have hM : 1 ≤ M ∧ M ≤ 99 := by unfold okSpan at o3; omega
  obtain ⟨g, a1, a2⟩ := k_again (seed := x2) (M := M) r hn rb rs hk (by omega) hM
  have key : ∃ rr : Int × Hp, g_X9_again (k : Int) x2 (M : Int) g = some rr ∧ (rr.1 = (agP (agV h k x2 M) M).2 ∧ ∃ s, rr.2 = setRow g 122 s) := by
    obtain ⟨s0, w0⟩ := m_lastByWet (g := g) (x := -1) (seed := x2) r hn (fun p _ h2 => a2 p h2) hk (by omega) hM
    unfold g_X9_again
    rw [m_isAsked_t (hv.te (TE.pm (Rel.pm1 a2))) ⟨by unfold okFlag; rw [a2 100 (by omega)]; exact o1, o2, o3⟩, e_cP, b_neg (by decide), e_cI, w0, e_cW, e_cI, e_cI]
    refine loopF_ex M (fun i (q : Int × Int × Int × Hp) => (q.1 = (agP (agV h k x2 M) i).1 ∧ q.2.1 = (agP (agV h k x2 M) i).2 ∧ q.2.2.1 = (i : Int)) ∧ ∃ s, q.2.2.2 = setRow g 122 s) ?_ ?_ FU 0 _ (Nat.zero_le _) (fu _ (by omega)) ⟨⟨rfl, rfl, rfl⟩, s0, rfl⟩
    · rintro i ⟨y1, y2, y3, g1⟩ hi ⟨⟨e1, e2, e3⟩, s, hg⟩ self
      dsimp only at e1 e2 e3 hg
      subst e1 e2 e3 hg
      left
      obtain ⟨s2, w⟩ := m_lastByWet (g := setRow g 122 s) (x := (i : Int)) (seed := x2) r hn (fun p h1 h2 => by rw [setRow_ne _ _ _ _ h1, a2 p h2]) hk (by omega) hM
      rw [setRow_setRow] at w
      unfold g_X9_again_l8
      dsimp only
      rw [b_neg (by omega), w, e_cW]
      rw [show agP (agV h k x2 M) (i + 1) = if (agP (agV h k x2 M) i).1 < agV h k x2 M (i : Int) then (agV h k x2 M (i : Int), (i : Int)) else agP (agV h k x2 M) i from rfl]
      refine join_exr (fun j37 hj37 => ?_)
      by_cases y : (agP (agV h k x2 M) i).1 < agV h k x2 M (i : Int)
      · rw [if_pos y, if_pos y, hj37, e_add _ _ _ (by omega)]
        refine ⟨_, ?_, rfl⟩
        exact ⟨⟨rfl, rfl, by (try dsimp only); omega⟩, s2, rfl⟩
      · rw [if_neg y, if_neg y, hj37, e_add _ _ _ (by omega)]
        refine ⟨_, ?_, rfl⟩
        exact ⟨⟨rfl, rfl, by (try dsimp only); omega⟩, s2, rfl⟩
    · rintro ⟨y1, y2, y3, g1⟩ ⟨⟨e1, e2, e3⟩, s, hg⟩ self
      dsimp only at e1 e2 e3 hg
      subst e1 e2 e3 hg
      unfold g_X9_again_l8
      dsimp only
      rw [b_pos (by omega)]
      exact ⟨_, rfl, rfl, s, rfl⟩
  obtain ⟨⟨z, g2⟩, b1, b2, s, b3⟩ := key
  dsimp only at b2 b3
  refine ⟨_, g, g2, a1, by rw [b1, b2], r.trial (fun p h1 h2 => by rw [b3, setRow_ne _ _ _ _ h1, a2 p h2])⟩
