/-! CALLS: plan -/
/-- equal in what is told, but for plans from p on -/
def PA (p : Nat) (P Q : Hp) : Prop := (Q 100 10 = P 100 10 ∧ Q 100 11 = P 100 11 ∧ Q 100 12 = P 100 12 ∧ Q 100 28 = P 100 28 ∧ Q 100 39 = P 100 39) ∧
  (Q 102 = P 102 ∧ Q 104 = P 104 ∧ Q 106 = P 106 ∧ Q 108 = P 108 ∧ Q 110 = P 110) ∧ (Q 112 = P 112 ∧ Q 114 = P 114 ∧ Q 115 = P 115) ∧ (∀ j, j < p → Q 118 j = P 118 j) ∧ (∀ j, j < 4 * p → Q 119 j = P 119 j) ∧ (∀ j, j < 96 * p → Q 120 j = P 120 j)
theorem PA.cn {p : Nat} {P Q : Hp} (e : PA p P Q) : cN Q = cN P ∧ rN Q = rN P ∧ nN Q = nN P := by
  obtain ⟨⟨e1, e2, -⟩, -⟩ := e
  unfold nN cN rN
  rw [e1, e2]
  exact ⟨rfl, rfl, rfl⟩
theorem PA.pb {p : Nat} {P Q h : Hp} {c : Nat} (e : PA p P Q) (h0 : PB P h c) : PB Q h c := by
  obtain ⟨⟨e1, e2, e3, e4, e5⟩, ⟨f1, f2, f3, f4, f5⟩, -⟩ := e
  unfold PB strP at h0 ⊢
  rw [e1, e2, e3, f1, f2, f3, f4]
  exact h0
theorem PA.ps {p : Nat} {P Q h : Hp} {v : Nat} (e : PA p P Q) (h0 : PS P h v) : PS Q h v := by
  obtain ⟨⟨e1, e2, e3, e4, e5⟩, ⟨f1, f2, f3, f4, f5⟩, ⟨g1, g2, g3⟩, -⟩ := e
  unfold PS at h0 ⊢
  rw [e4, e5, f5, g1, g2, g3]
  exact h0
theorem PA.pl {p i : Nat} {P Q h : Hp} (e : PA p P Q) (hv : PV P) (hp : P 100 41 = (p : Int)) (hi : i < p) (h0 : PL P h i) : PL Q h i := by
  obtain ⟨-, -, -, g1, g2, g3⟩ := e
  have pl := (pv_plan hv).2 i (by omega)
  obtain ⟨a1, a2⟩ := h0
  refine ⟨by rw [g1 i hi]; exact a1, fun k hk => ?_⟩
  rw [g1 i hi] at hk
  have b := a2 k hk
  have pk := pl.2 k hk
  rw [g2 (4 * i + k) (by omega)]
  refine ⟨b.1, fun j hj => ?_⟩
  have c := b.2 j hj
  unfold actAtP at c ⊢
  rw [g3 _ (by omega), g3 _ (by omega), g3 _ (by omega)]
  exact c
theorem PA.hv {p : Nat} {P Q : Hp} {s : Nat → Int} (e : PA p P Q) (hv : PV P) (hp : P 100 41 = (p : Int)) (hq : (p : Int) ≤ Q 100 41) (h : HV P s) : HV Q s := by
  obtain ⟨-, ⟨f1, -⟩, -, g1, g2, -⟩ := e
  obtain ⟨a1, a2⟩ := h
  refine ⟨by omega, fun y i hi => ?_⟩
  have pl := (pv_plan hv).2 (s 275).toNat (by omega)
  rw [g1 _ (by omega)] at hi
  rw [g2 (4 * (s 275).toNat + i) (by omega), f1]
  exact a2 y i hi
theorem PA.iv {p : Nat} {P Q : Hp} {B T : Int} {s : Nat → Int} (e : PA p P Q) (hv : PV P) (hp : P 100 41 = (p : Int)) (hq : (p : Int) ≤ Q 100 41) (h : IV P B T s) : IV Q B T s := by
  obtain ⟨-, -, en⟩ := e.cn
  obtain ⟨a1, a2, a3, a4, a5⟩ := h
  refine ⟨?_, ?_, ?_, e.hv hv hp hq a4, a5⟩
  · unfold CV at a1 ⊢; rw [en]; exact a1
  · unfold SV at a2 ⊢; rw [en]; exact a2
  · unfold FV at a3 ⊢; rw [en]; exact a3
theorem PA.rs {p : Nat} {P Q h : Hp} {b : Nat} {s : Nat → Int} (e : PA p P Q) (hv : PV P) (hp : P 100 41 = (p : Int)) (hs : HV P s) (h0 : RS P h b s) : RS Q h b s := by
  obtain ⟨ec, er, en⟩ := e.cn
  obtain ⟨⟨e1, e2, e3, e4, e5⟩, ⟨f1, f2, f3, f4, f5⟩, -, g1, g2, -⟩ := e
  obtain ⟨⟨a1, a2, a3, ⟨a4, a5⟩, a6⟩, a7⟩ := h0
  refine ⟨⟨by rw [en]; exact a1, a2, ?_, ⟨a4, fun y i hi => ?_⟩, a6⟩, ?_⟩
  · rw [e3, f1, f2, f3]; exact a3
  · have pl := (pv_plan hv).2 (s 275).toNat (by have := hs.1; omega)
    have := hs.1
    rw [g1 _ (by omega)] at hi
    rw [g2 (4 * (s 275).toNat + i) (by omega), f1]
    exact a5 y i hi
  · unfold SE Settled quietP lowP candP holdsP strP at a7 ⊢
    rw [en, ec, f1]
    exact a7
theorem PA.pv {p : Nat} {P Q : Hp} (e : PA p P Q) (hv : PV P) (hp : P 100 41 = (p : Int)) (h41 : 0 ≤ Q 100 41 ∧ Q 100 41 ≤ 3)
    (new : ∀ i : Nat, p ≤ i → i < (Q 100 41).toNat → (0 ≤ Q 118 i ∧ Q 118 i ≤ 4) ∧ ∀ j : Nat, j < (Q 118 i).toNat → (1 ≤ Q 119 (4 * i + j) ∧ Q 119 (4 * i + j) ≤ 8) ∧
      ∀ k : Nat, k < (Q 119 (4 * i + j)).toNat → AB (actAtP Q i j k 0) (actAtP Q i j k 1) (actAtP Q i j k 2) (nN Q)) : PV Q := by
  obtain ⟨-, -, en⟩ := e.cn
  obtain ⟨⟨e1, e2, e3, e4, e5⟩, ⟨f1, f2, f3, f4, f5⟩, ⟨g1, g2, g3⟩, k1, k2, k3⟩ := e
  have pl := (pv_plan hv).2
  obtain ⟨p1, p2, p3, p4, p5, p6, p7, p8, p9, p10, p11, p12, p13, p14, p15, p16, p17, p18, p19, p20, p21, p22⟩ := hv
  refine ⟨by rw [e1]; exact p1, by rw [e2]; exact p2, by rw [f1]; exact p3, by rw [f1]; exact p4, by rw [f1]; exact p5, by rw [f1]; exact p6, by rw [f1]; exact p7, by rw [f1]; exact p8, by rw [f1]; exact p9, by rw [f1]; exact p10, by rw [f1]; exact p11, by rw [e5]; exact p12, by rw [e4]; exact p13, by rw [e4, f5]; exact p14, by rw [g1]; exact p15, by rw [g2]; exact p16, by rw [g3]; exact p17, h41, fun i hi => ?_, by rw [e3]; exact p20, by rw [e3, f3, en]; exact p21, by rw [f2, f4]; exact p22⟩
  by_cases y : p ≤ i
  · obtain ⟨n1, n2⟩ := new i y hi
    refine ⟨n1, fun j hj => ⟨(n2 j hj).1, fun k hk => ?_⟩⟩
    have ab := (n2 j hj).2 k hk
    obtain ⟨b0, b1, b2, b3, b4⟩ := ab
    exact ⟨b0, b1, b2, b3, b4⟩
  · have q := p19 i (by omega)
    rw [k1 i (by omega)]
    refine ⟨q.1, fun j hj => ?_⟩
    have q2 := q.2 j hj
    rw [k2 (4 * i + j) (by omega)]
    refine ⟨q2.1, fun k hk => ?_⟩
    have q3 := q2.2 k hk
    unfold actAtP at q3 ⊢
    rw [k3 _ (by omega), k3 _ (by omega), k3 _ (by omega), en]
    exact q3
/-- what is left of the relation, once plans from p on have moved -/
theorem Rel.pa {n p : Nat} {h h2 : Hp} (r : Rel n h) (hp : h 100 41 = (p : Int)) (e : PA p h h2) (pv : PV h2) (pl : PlsR h2) (hq : (p : Int) ≤ h2 100 41)
    (f0 : ∀ k, k ≤ 4 → h2 0 k = h 0 k) (lo : ∀ r, 2 ≤ r → r < 61 ∨ 75 < r → r < 100 → h2 r = h r) (hi : ∀ r, 121 ≤ r → h2 r = h r) (h101 : h2 101 = h 101)
    (f100 : ∀ j, 9 < j → j ≠ 41 → j ≠ 42 → h2 100 j = h 100 j) (t1 : h2 1 1 = h2 100 1 ∧ 0 ≤ h2 1 1 ∧ h2 1 1 ≤ 900) (t2 : FltR h2) : Rel (n + 1) h2 := by
  obtain ⟨hv, ⟨c, rc, r12, rpb, rc6⟩, ⟨v, rv, r34, rps, rv5⟩, -, rn, rsl, rt, -, ru⟩ := r
  refine ⟨pv, ⟨c, rc, ?_, (e.pb rpb).hp (fun p _ _ => lo p (by omega) (by omega) (by omega)), ?_⟩, ⟨v, rv, ?_, (e.ps rps).hp (fun p _ _ => lo p (by omega) (by omega) (by omega)), ?_⟩, pl, ⟨?_, ?_, ?_⟩, fun j hj => ?_, ⟨t1.1, t1.2, ?_⟩, t2, ru.mv (fun p _ _ => lo p (by omega) (by omega) (by omega)) (fun p _ _ => hi p (by omega)) ⟨f100 51 (by omega) (by omega) (by omega), f100 52 (by omega) (by omega) (by omega), f100 53 (by omega) (by omega) (by omega)⟩⟩
  · rw [f0 1 (by omega), f0 2 (by omega)]; exact r12
  · rw [lo c (by omega) (by omega) (by omega), f100 13 (by omega) (by omega) (by omega)]; exact rc6
  · rw [f0 3 (by omega), f0 4 (by omega)]; exact r34
  · rw [lo v (by omega) (by omega) (by omega), f100 29 (by omega) (by omega) (by omega)]; exact rv5
  · rw [hi 121 (by omega)]; exact e.iv hv hp hq (rn.1.mono (by omega))
  · rw [hi 121 (by omega)]; exact (e.rs hv hp rn.1.2.2.2.1 rn.2.1).hp (fun p _ _ => lo p (by omega) (by omega) (by omega))
  · rw [hi 121 (by omega), f100 12 (by omega) (by omega) (by omega)]; exact rn.2.2
  · have e35 := lo 35 (by omega) (by omega) (by omega)
    have es : slotR h2 j = slotR h j := by unfold slotR; rw [hi 123 (by omega)]
    obtain ⟨s1, s2⟩ := rsl j hj
    refine ⟨by rw [e35, hi 124 (by omega)]; exact s1, ?_⟩
    rw [e35, es]
    rcases s2 with y | ⟨y1, y2, y3, y4⟩
    · exact Or.inl y
    · exact Or.inr ⟨y1, e.iv hv hp hq (y2.mono (by omega)), (e.rs hv hp y2.2.2.2.1 y3).hp (fun p a1 a2 => lo p (by omega) (by omega) (by omega)), by rw [f100 12 (by omega) (by omega) (by omega)]; exact y4⟩
  · rw [lo 2 (by omega) (by omega) (by omega), h101]; exact rt.2.2
theorem s_plan {n : Nat} {h : Hp} (r : Rel n h) : ∃ z h1 h2, g_X8_plan h = some (z, h1) ∧ g_X9_plan h1 = some (z, h2) ∧ Rel (n + 1) h2 := by
  have r0 := r
  obtain ⟨hv, ⟨c, rc, r12, rpb, rc6⟩, ⟨v, rs⟩, ⟨rp0, rpl⟩, rn, rsl, rt, rf, ru⟩ := r
  have h41 := (pv_plan hv).1
  obtain ⟨p, hp⟩ := Int.eq_ofNat_of_zero_le h41.1
  have h06 : h 0 6 = (p : Int) := by rw [rp0, hp]
  unfold g_X8_plan
  rw [e_gF, h06, e_cI]
  by_cases p3 : p = 3
  · -- no room
    rw [b_neg (by omega), e_cI, e_pF, e_cI]
    refine ⟨-3, _, set2 (set2 h 1 1 0) 100 1 0, rfl, ?_, ?_⟩
    · unfold g_X9_plan
      rw [e_gF, set2_np _ _ _ _ _ _ (by omega), hp, e_cI, b_pos (by omega), e_cI, e_pF, e_cI]
    · refine r0.tape ⟨?_, ?_, ?_⟩ (fun p a1 a2 a3 a4 => by rw [set2_ne p a3, set2_ne p a1]) (fun k hk => by rw [set2_np _ _ _ _ _ _ (by omega), set2_nk _ _ _ _ _ _ hk]) (fun k hk => by rw [set2_nk _ _ _ _ _ _ hk, set2_np _ _ _ _ _ _ (by omega)])
      · rw [set2_np _ _ _ _ _ _ (by omega), set2_same, set2_same]
      · rw [set2_np _ _ _ _ _ _ (by omega), set2_same]; omega
      · rw [set2_ne 2 (by omega), set2_ne 2 (by omega), set2_ne 101 (by omega), set2_ne 101 (by omega)]; exact rt.2.2
  have hp3 : p < 3 := by omega
  rw [b_pos (by omega), k_start, e_cV, e_gF, stK_p (by omega), h06, e_rdQ _ _ _ _ _ (by omega), e_gR (stK h) 0 1 c _ _ (by rw [stK_p (by omega)]; exact r12.1) (by rcases rc with q | q <;> subst q <;> simp)]
  -- what both read
  have c9 : 3 ≤ c ∧ c ≤ 9 := by omega
  have cr := hv.cr
  have shp : ∀ hm : Hp, hm 100 10 = h 100 10 → hm 100 11 = h 100 11 → shape c (stK h) hm := fun hm a1 a2 => by
    unfold shape
    rw [stK_p (by omega), a1, a2]
    exact ⟨⟨rpb.1.1, rpb.1.2.1⟩, hv.1, hv.2.1⟩
  have hNn : h 100 10 * h 100 11 = (nN h : Int) := by rw [cr.1, cr.2.1, PV.nn]
  have keep0 : ∀ g : Hp, (∀ p, 100 ≤ p → g p = h p) → ∃ hO hc', g_X9_open g = some hO ∧ (∀ p, p ≠ 100 → hO p = g p) ∧ (∀ j, 10 ≤ j → hO 100 j = g 100 j) ∧ hO 100 1 = 0 ∧ g_X1_readFrom (61 + 5 * p) 1 c (stK h) = some hc' ∧ CP (61 + 5 * p) (stK h) hc' ∧
      ((∃ hm' H', g_X9_readPlan hO = some (1, hm') ∧ NF hc' hm' ∧ H' ≤ 4 ∧ PR (61 + 5 * p) p H' hc' hm' (nN h) ∧ MPl p hO hm') ∨ ∃ hm', g_X9_readPlan hO = some (0, hm') ∧ FF hc' hm' ∧ MPl p hO hm') := by
    intro g hg
    obtain ⟨L, hm, o, x, a, n, f1, f2, f3⟩ := y_open r0 hg
    have q : ∀ j, 10 ≤ j → hm 100 j = h 100 j := fun j hj => by rw [f2 j hj, hg 100 (by omega)]
    obtain ⟨hc2, q1, q2, q3⟩ := y_readPlan (q := 61 + 5 * p) (c := c) (p := p) (N := nN h) (by omega) c9 hp3 x a n (shp hm (q 10 (by omega)) (q 11 (by omega))) (by rw [q 10 (by omega), q 11 (by omega)]; exact hNn) (by rw [q 41 (by omega)]; exact hp)
    exact ⟨hm, hc2, o, f1, f2, f3, q1, q2, q3⟩
  obtain ⟨-, hc', -, -, -, -, k1, k2, -⟩ := keep0 h (fun _ _ => rfl)
  have keep : ∀ g : Hp, (∀ p, 100 ≤ p → g p = h p) → ∃ hO, g_X9_open g = some hO ∧ (∀ p, p ≠ 100 → hO p = g p) ∧ (∀ j, 10 ≤ j → hO 100 j = g 100 j) ∧ hO 100 1 = 0 ∧
      ((∃ hm' H', g_X9_readPlan hO = some (1, hm') ∧ NF hc' hm' ∧ H' ≤ 4 ∧ PR (61 + 5 * p) p H' hc' hm' (nN h) ∧ MPl p hO hm') ∨ ∃ hm', g_X9_readPlan hO = some (0, hm') ∧ FF hc' hm' ∧ MPl p hO hm') := by
    intro g hg
    obtain ⟨hO, hc2, o1, o2, o3, o4, q1, -, q3⟩ := keep0 g hg
    rw [k1] at q1
    injection q1 with q1
    subst q1
    exact ⟨hO, o1, o2, o3, o4, q3⟩
  have cfr : ∀ r, r ≠ 1 → (r < 61 + 5 * p ∨ 61 + 5 * p + 4 < r) → hc' r = h r := fun r h1 h2 => by rw [k2.1 r h1 h2, stK_p h1]
  have f0 : hc' 0 = h 0 := cfr 0 (by omega) (by omega)
  rw [k1, e_cV, e_cI, e_pF, k_isFaulty, set2_nk _ _ _ _ _ _ (by omega)]
  by_cases flt : hc' 1 6 = 0
  rotate_left
  · have hg : ∀ p, 100 ≤ p → set2 hc' 1 1 0 p = h p := fun p hp => by rw [set2_ne p (by omega), cfr p (by omega) (by omega)]
    obtain ⟨hO, o1, o2, o3, o4, o5⟩ := keep (set2 hc' 1 1 0) hg
    rcases o5 with ⟨hm, H', u1, u2, -⟩ | ⟨hm, u1, u2, u3⟩
    · exact absurd u2.1 flt
    rw [if_neg flt, e_cP, b_neg (by decide), e_cI]
    have gm : ∀ r, r ≠ 100 → r ≠ 119 → r ≠ 120 → hm r = set2 hc' 1 1 0 r := fun r a1 a2 a3 => by rw [u3.1 r a1 a2 a3, o2 r a1]
    have gh : ∀ r, 100 < r → r ≠ 119 → r ≠ 120 → hm r = h r := fun r a1 a2 a3 => by rw [gm r (by omega) a2 a3, hg r (by omega)]
    have gl : ∀ r, r ≠ 1 → r < 100 → (r < 61 + 5 * p ∨ 61 + 5 * p + 4 < r) → hm r = h r := fun r a1 a2 a3 => by rw [gm r (by omega) (by omega) (by omega), set2_ne r a1, cfr r a1 a3]
    have g100 : ∀ j, 9 < j → j ≠ 42 → hm 100 j = h 100 j := fun j a1 a2 => by rw [u3.2.1 j (by omega), o3 j (by omega), hg 100 (by omega)]
    have pa : PA p h hm := by
      unfold PA
      rw [g100 10 (by omega) (by omega), g100 11 (by omega) (by omega), g100 12 (by omega) (by omega), g100 28 (by omega) (by omega), g100 39 (by omega) (by omega), gh 102 (by omega) (by omega) (by omega), gh 104 (by omega) (by omega) (by omega), gh 106 (by omega) (by omega) (by omega), gh 108 (by omega) (by omega) (by omega), gh 110 (by omega) (by omega) (by omega), gh 112 (by omega) (by omega) (by omega), gh 114 (by omega) (by omega) (by omega), gh 115 (by omega) (by omega) (by omega), gh 118 (by omega) (by omega) (by omega)]
      exact ⟨⟨rfl, rfl, rfl, rfl, rfl⟩, ⟨rfl, rfl, rfl, rfl, rfl⟩, ⟨rfl, rfl, rfl⟩, fun _ _ => rfl, fun j hj => by rw [u3.2.2.1 j hj, o2 119 (by omega), hg 119 (by omega)], fun j hj => by rw [u3.2.2.2 j hj, o2 120 (by omega), hg 120 (by omega)]⟩
    have e41 : hm 100 41 = (p : Int) := by rw [g100 41 (by omega) (by omega)]; exact hp
    have g0 : hm 0 = h 0 := gl 0 (by omega) (by omega) (by omega)
    refine ⟨-1, _, hm, rfl, ?_, r0.pa hp pa (pa.pv hv hp (by rw [e41]; omega) (fun i h1 h2 => by rw [e41] at h2; exact absurd h1 (by omega))) ⟨by rw [g0, h06, e41], fun i hi => ?_⟩ (by rw [e41]; exact Int.le_refl _) (fun k _ => by rw [g0]) (fun r a1 a2 a3 => gl r (by omega) a3 (by omega)) (fun r a1 => gh r (by omega) (by omega) (by omega)) (gh 101 (by omega) (by omega) (by omega)) (fun j a1 a2 a3 => g100 j a1 a3) ⟨?_, ?_⟩ ⟨?_, ?_⟩⟩
    · unfold g_X9_plan
      rw [e_gF, hg 100 (by omega), hp, e_cI, b_neg (by omega), o1, e_cV, u1, e_cW, b_pos rfl, e_cI]
    · rw [e41] at hi
      exact (pa.pl hv hp (by omega) (rpl i (by rw [hp]; omega))).hp (fun q a1 a2 => gl q (by omega) (by omega) (by omega))
    · rw [gm 1 (by omega) (by omega) (by omega), set2_same, u3.2.1 1 (by omega), o4]
    · rw [gm 1 (by omega) (by omega) (by omega), set2_same]; omega
    · rw [gm 1 (by omega) (by omega) (by omega), set2_nk _ _ _ _ _ _ (by omega)]; exact u2.2.1
    · rw [gm 1 (by omega) (by omega) (by omega), set2_nk _ _ _ _ _ _ (by omega)]; exact u2.2.2
  -- a plan
  rw [if_pos flt, e_cP, b_pos rfl, e_gF, set2_np _ _ _ _ _ _ (by omega), f0, h06, e_cI, e_add _ _ _ (by omega), e_pF, e_gF, set2_same, e_cI, e_sub _ _ _ (by omega), show (p : Int) + 1 - 1 = (p : Int) by omega, show (p : Int) + 1 = ((p + 1 : Nat) : Int) by omega]
  have z06 : set2 (set2 hc' 1 1 0) 0 6 ((p + 1 : Nat) : Int) 0 6 = ((p + 1 : Nat) : Int) := set2_same _ _ _ _
  have z0 : ∀ k, k ≤ 4 → set2 (set2 hc' 1 1 0) 0 6 ((p + 1 : Nat) : Int) 0 k = h 0 k := fun k hk => by rw [set2_nk _ _ _ _ _ _ (by omega), set2_np _ _ _ _ _ _ (by omega), f0]
  have z1 : ∀ j, j ≠ 1 → set2 (set2 hc' 1 1 0) 0 6 ((p + 1 : Nat) : Int) 1 j = hc' 1 j := fun j hj => by rw [set2_np _ _ _ _ _ _ (by omega), set2_nk _ _ _ _ _ _ hj]
  have z11 : set2 (set2 hc' 1 1 0) 0 6 ((p + 1 : Nat) : Int) 1 1 = 0 := by rw [set2_np _ _ _ _ _ _ (by omega), set2_same]
  have zp : ∀ r, 2 ≤ r → set2 (set2 hc' 1 1 0) 0 6 ((p + 1 : Nat) : Int) r = hc' r := fun r hr => by rw [set2_ne r (by omega), set2_ne r (by omega)]
  generalize set2 (set2 hc' 1 1 0) 0 6 ((p + 1 : Nat) : Int) = h1 at *
  have hg : ∀ p, 100 ≤ p → h1 p = h p := fun p hp => by rw [zp p (by omega), cfr p (by omega) (by omega)]
  obtain ⟨hO, o1, o2, o3, o4, o5⟩ := keep h1 hg
  rcases o5 with ⟨hm, H, u1, u2, uH, upr, u3⟩ | ⟨hm, u1, u2, -⟩
  rotate_left
  · exact absurd flt u2.1
  obtain ⟨⟨upr1, upr2⟩, upr3⟩ := upr
  have gm : ∀ r, r ≠ 100 → r ≠ 119 → r ≠ 120 → hm r = h1 r := fun r a1 a2 a3 => by rw [u3.1 r a1 a2 a3, o2 r a1]
  have g100 : ∀ j, 9 < j → j ≠ 42 → hm 100 j = h 100 j := fun j a1 a2 => by rw [u3.2.1 j (by omega), o3 j (by omega), hg 100 (by omega)]
  have m41 : hm 100 41 = (p : Int) := by rw [g100 41 (by omega) (by omega)]; exact hp
  have mdl : g_X9_plan h1 = some ((p : Int), set2 (set2 hm 118 p (H : Int)) 100 41 ((p + 1 : Nat) : Int)) := by
    unfold g_X9_plan
    rw [e_gF, hg 100 (by omega), hp, e_cI, b_neg (by omega), o1, e_cV, u1, e_cW, b_neg (by decide), e_gF, m41, e_gF, upr2, e_wrn _ _ _ _ _ _ (by omega), e_gF, set2_np _ _ _ _ _ _ (by omega), m41, e_cI, e_add _ _ _ (by omega), e_pF, e_gF, set2_same, e_cI, e_sub _ _ _ (by omega), show (p : Int) + 1 - 1 = (p : Int) by omega, show (p : Int) + 1 = ((p + 1 : Nat) : Int) by omega]
  refine ⟨(p : Int), h1, _, rfl, mdl, ?_⟩
  have E41 : set2 (set2 hm 118 p (H : Int)) 100 41 ((p + 1 : Nat) : Int) 100 41 = ((p + 1 : Nat) : Int) := set2_same _ _ _ _
  have E100 : ∀ j, j ≠ 41 → set2 (set2 hm 118 p (H : Int)) 100 41 ((p + 1 : Nat) : Int) 100 j = hm 100 j := fun j hj => by rw [set2_nk _ _ _ _ _ _ hj, set2_np _ _ _ _ _ _ (by omega)]
  have E118 : set2 (set2 hm 118 p (H : Int)) 100 41 ((p + 1 : Nat) : Int) 118 p = (H : Int) := by rw [set2_np _ _ _ _ _ _ (by omega), set2_same]
  have E118b : ∀ j, j ≠ p → set2 (set2 hm 118 p (H : Int)) 100 41 ((p + 1 : Nat) : Int) 118 j = h 118 j := fun j hj => by rw [set2_np _ _ _ _ _ _ (by omega), set2_nk _ _ _ _ _ _ hj, gm 118 (by omega) (by omega) (by omega), hg 118 (by omega)]
  have Er : ∀ r, r ≠ 100 → r ≠ 118 → set2 (set2 hm 118 p (H : Int)) 100 41 ((p + 1 : Nat) : Int) r = hm r := fun r a1 a2 => by rw [set2_ne r a1, set2_ne r a2]
  generalize set2 (set2 hm 118 p (H : Int)) 100 41 ((p + 1 : Nat) : Int) = h2 at *
  have gh : ∀ r, 100 < r → r ≠ 118 → r ≠ 119 → r ≠ 120 → h2 r = h r := fun r a1 a2 a3 a4 => by rw [Er r (by omega) a2, gm r (by omega) a3 a4, hg r (by omega)]
  have gl1 : ∀ r, r < 100 → h2 r = h1 r := fun r a1 => by rw [Er r (by omega) (by omega), gm r (by omega) (by omega) (by omega)]
  have gl : ∀ r, 2 ≤ r → r < 100 → (r < 61 + 5 * p ∨ 61 + 5 * p + 4 < r) → h2 r = h r := fun r a1 a2 a3 => by rw [gl1 r a2, zp r a1, cfr r (by omega) a3]
  have e100 : ∀ j, 9 < j → j ≠ 41 → j ≠ 42 → h2 100 j = h 100 j := fun j a1 a2 a3 => by rw [E100 j a2, g100 j a1 a3]
  have pa : PA p h h2 := by
    unfold PA
    rw [e100 10 (by omega) (by omega) (by omega), e100 11 (by omega) (by omega) (by omega), e100 12 (by omega) (by omega) (by omega), e100 28 (by omega) (by omega) (by omega), e100 39 (by omega) (by omega) (by omega), gh 102 (by omega) (by omega) (by omega) (by omega), gh 104 (by omega) (by omega) (by omega) (by omega), gh 106 (by omega) (by omega) (by omega) (by omega), gh 108 (by omega) (by omega) (by omega) (by omega), gh 110 (by omega) (by omega) (by omega) (by omega), gh 112 (by omega) (by omega) (by omega) (by omega), gh 114 (by omega) (by omega) (by omega) (by omega), gh 115 (by omega) (by omega) (by omega) (by omega)]
    exact ⟨⟨rfl, rfl, rfl, rfl, rfl⟩, ⟨rfl, rfl, rfl, rfl, rfl⟩, ⟨rfl, rfl, rfl⟩, fun j hj => E118b j (by omega), fun j hj => by rw [Er 119 (by omega) (by omega), u3.2.2.1 j hj, o2 119 (by omega), hg 119 (by omega)], fun j hj => by rw [Er 120 (by omega) (by omega), u3.2.2.2 j hj, o2 120 (by omega), hg 120 (by omega)]⟩
  have nn : nN h2 = nN h := pa.cn.2.2
  have h20 : h2 0 = h1 0 := gl1 0 (by omega)
  refine r0.pa hp pa (pa.pv hv hp (by rw [E41]; omega) (fun i a1 a2 => ?_)) ⟨by rw [h20, z06, E41], fun i hi => ?_⟩ (by rw [E41]; omega) (fun k hk => by rw [h20]; exact z0 k hk) (fun r a1 a2 a3 => gl r a1 a3 (by omega)) (fun r a1 => gh r (by omega) (by omega) (by omega) (by omega)) (gh 101 (by omega) (by omega) (by omega) (by omega)) e100 ⟨?_, ?_⟩ ⟨?_, ?_⟩
  · rw [E41] at a2
    obtain rfl : i = p := by omega
    rw [E118]
    refine ⟨by omega, fun j hj => ?_⟩
    obtain ⟨A, b1, ⟨b2, b3⟩, b4⟩ := upr3 j (by omega)
    rw [Er 119 (by omega) (by omega), b3]
    refine ⟨by omega, fun k hk => ?_⟩
    have ac := (b4 k (by omega)).2
    unfold actAtP
    rw [Er 120 (by omega) (by omega), nn]
    exact ac
  · rw [E41] at hi
    by_cases y : i = p
    · subst y
      refine ⟨?_, fun j hj => ?_⟩
      · rw [gl1 _ (by omega), zp _ (by omega), upr1, E118]
      · rw [E118] at hj
        obtain ⟨A, b1, ⟨b2, b3⟩, b4⟩ := upr3 j (by omega)
        rw [gl1 (61 + 5 * i + 1) (by omega), zp (61 + 5 * i + 1) (by omega), b2, Er 119 (by omega) (by omega), b3]
        refine ⟨rfl, fun k hk => ?_⟩
        have ac := (b4 k (by omega)).1
        unfold actAtP
        rw [gl1 (61 + 5 * i + 2) (by omega), zp (61 + 5 * i + 2) (by omega), gl1 (61 + 5 * i + 3) (by omega), zp (61 + 5 * i + 3) (by omega), gl1 (61 + 5 * i + 4) (by omega), zp (61 + 5 * i + 4) (by omega), Er 120 (by omega) (by omega)]
        exact ac
    · exact (pa.pl hv hp (by omega) (rpl i (by rw [hp]; omega))).hp (fun q a1 a2 => gl q (by omega) (by omega) (by omega))
  · rw [gl1 1 (by omega), z11, E100 1 (by omega), u3.2.1 1 (by omega), o4]
  · rw [gl1 1 (by omega), z11]; omega
  · rw [gl1 1 (by omega), z1 6 (by omega), E100 8 (by omega), u2.1, u2.2.1]
  · rw [gl1 1 (by omega), z1 7 (by omega), E100 9 (by omega), u2.2.2.1, u2.2.2.2]
