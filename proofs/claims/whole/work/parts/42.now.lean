/-! CALLS that move the shore: chance, work, pass, keep, take -/
def putP (s : Nat → Int) (p : Int) : Nat → Int := fun j => if j = 275 then p else if 276 ≤ j ∧ j < 288 then 0 else s j
theorem putP_275 (s : Nat → Int) (p : Int) : putP s p 275 = p := rfl
theorem putP_in {s : Nat → Int} {p : Int} {j : Nat} (h : 276 ≤ j ∧ j < 288) : putP s p j = 0 := by unfold putP; rw [if_neg (by omega), if_pos h]
theorem putP_out {s : Nat → Int} {p : Int} {j : Nat} (h : j < 275 ∨ 288 ≤ j) : putP s p j = s j := by unfold putP; rw [if_neg (by omega), if_neg (by omega)]
theorem m_putPlan {h : Hp} {q : Nat} {s : Nat → Int} {p : Int} : g_X9_putPlan q p (setRow h q s) = some (setRow h q (putP s p)) := by
  unfold g_X9_putPlan
  rw [e_cI]
  refine w_row (by first | omega | (simp (disch := omega) only [set2_same, set2_np, set2_nk, setRow_same, setRow_ne, upd1_same, upd1_ne, upd1_le, setRow_setRow, Int.toNat_natCast, tn_0, tn_64, tn_128, tn_192, tn_256, tn_260, tn_264, tn_276, tn_280, tn_284, Int.reduceToNat]; omega)) (fun s1 es => ?_)
  rw [e_cI]
  refine loopF_for' 4 (fun i => ((i : Int), setRow h q (fun j => if j = 275 then p else if (276 ≤ j ∧ j < 276 + i) ∨ (280 ≤ j ∧ j < 280 + i) ∨ (284 ≤ j ∧ j < 284 + i) then 0 else s j))) ?_ ?_ ?_ (fu _ (by omega))
  · intro i hi self
    unfold g_X9_putPlan_l5
    dsimp only
    rw [e_cI, b_neg (by omega), e_cI, e_add _ _ _ (by omega), e_cI]
    refine w_row (by first | omega | (simp (disch := omega) only [set2_same, set2_np, set2_nk, setRow_same, setRow_ne, upd1_same, upd1_ne, upd1_le, setRow_setRow, Int.toNat_natCast, tn_0, tn_64, tn_128, tn_192, tn_256, tn_260, tn_264, tn_276, tn_280, tn_284, Int.reduceToNat]; omega)) (fun t1 et1 => ?_)
    rw [e_cI, e_add _ _ _ (by omega), e_cI]
    refine w_row (by first | omega | (simp (disch := omega) only [set2_same, set2_np, set2_nk, setRow_same, setRow_ne, upd1_same, upd1_ne, upd1_le, setRow_setRow, Int.toNat_natCast, tn_0, tn_64, tn_128, tn_192, tn_256, tn_260, tn_264, tn_276, tn_280, tn_284, Int.reduceToNat]; omega)) (fun t2 et2 => ?_)
    rw [e_cI, e_add _ _ _ (by omega), e_cI]
    refine w_row (by first | omega | (simp (disch := omega) only [set2_same, set2_np, set2_nk, setRow_same, setRow_ne, upd1_same, upd1_ne, upd1_le, setRow_setRow, Int.toNat_natCast, tn_0, tn_64, tn_128, tn_192, tn_256, tn_260, tn_264, tn_276, tn_280, tn_284, Int.reduceToNat]; omega)) (fun t3 et3 => ?_)
    rw [e_add _ _ _ (by omega)]
    congr 1
    refine Prod.ext (by dsimp only; omega) ?_
    dsimp only
    congr 1
    rw [et3, et2, et1, tn_276, tn_280, tn_284]
    funext j
    unfold upd1
    dsimp only
    by_cases q0 : j = 275
    · rw [if_neg (by omega), if_neg (by omega), if_neg (by omega), if_pos q0, if_pos q0]
    rw [if_neg q0, if_neg q0]
    by_cases q3 : j = 284 + i
    · rw [if_pos q3, if_pos (by omega)]
    by_cases q2 : j = 280 + i
    · rw [if_neg q3, if_pos q2, if_pos (by omega)]
    by_cases q1 : j = 276 + i
    · rw [if_neg q3, if_neg q2, if_pos q1, if_pos (by omega)]
    rw [if_neg q3, if_neg q2, if_neg q1]
    by_cases q4 : (276 ≤ j ∧ j < 276 + i) ∨ (280 ≤ j ∧ j < 280 + i) ∨ (284 ≤ j ∧ j < 284 + i)
    · rw [if_pos q4, if_pos (by omega)]
    · rw [if_neg q4, if_neg (by omega)]
  · intro self
    unfold g_X9_putPlan_l5
    dsimp only
    rw [e_cI, b_pos (by omega)]
    congr 1
    congr 1
    funext j
    unfold putP
    by_cases q0 : j = 275
    · rw [if_pos q0, if_pos q0]
    rw [if_neg q0, if_neg q0]
    by_cases q4 : 276 ≤ j ∧ j < 288
    · rw [if_pos (by omega), if_pos q4]
    · rw [if_neg (by omega), if_neg q4]
  · refine Prod.ext rfl ?_
    dsimp only
    congr 1
    rw [es]
    funext j
    unfold upd1
    simp only [Int.reduceToNat]
    by_cases q0 : j = 275
    · rw [if_pos q0, if_pos q0]
    rw [if_neg q0, if_neg q0, if_neg (by omega)]
theorem iv_putP {P : Hp} {B T p : Int} {s : Nat → Int} (h : IV P B T s) (hv : PV P) (hp : -1 ≤ p ∧ p < P 100 41) : IV P B T (putP s p) := by
  have hN := hv.n
  have hpl := pv_plan hv
  obtain ⟨h1, ⟨h2, h2b⟩, ⟨h3, h4, h5⟩, h6, h7⟩ := h
  refine ⟨fun c hc => ?_, ⟨?_, ?_⟩, ⟨?_, ?_, fun k hk => ?_⟩, ⟨hp, fun hn i hi => ?_⟩, ?_⟩
  · rw [putP_out (by omega), putP_out (by omega), putP_out (by omega), putP_out (by omega)]
    exact h1 c hc
  · rw [putP_out (by omega)]; exact h2
  · rw [putP_out (by omega), sumN_congr (f := putP s p) (g := s) (fun i hi => putP_out (by omega))]; exact h2b
  · rw [putP_out (by omega)]; exact h3
  · rw [putP_out (by omega)]; exact h4
  · rw [putP_out (by omega)] at hk
    have := h5 k hk
    rw [putP_out (by omega), putP_out (by omega), putP_out (by omega), putP_out (by omega)]
    exact this
  · rw [putP_275] at hn hi ⊢
    have hpp := hpl.2 p.toNat (by omega)
    have := hpp.2 i hi
    rw [putP_in (by omega), putP_in (by omega), putP_in (by omega)]
    have htire := hv.2.2.2.2.2.2.2.1
    exact ⟨by omega, by omega, fun _ => by omega⟩
  · unfold KV
    rw [putP_out (by omega)]; exact h7
def fillR (h : Hp) (q n : Nat) (x : Int) : Hp := fun p j => if p = q ∧ j < n then x else h p j
theorem fillR_in {h : Hp} {q n j : Nat} {x : Int} (hj : j < n) : fillR h q n x q j = x := by unfold fillR; rw [if_pos ⟨rfl, hj⟩]
theorem fillR_ne {h : Hp} {q n p : Nat} {x : Int} (hp : p ≠ q) : fillR h q n x p = h p := by funext j; unfold fillR; rw [if_neg (by omega)]
theorem e_fill (q n : Nat) (x : Int) (h : Hp) : g_J7_fill_53178 q n x h = some (fillR h q n x) := nrfl rfl
theorem k_hold {P h : Hp} {b : Nat} {p : Int} {s : Nat → Int} (hv : PV P) (hp : -1 ≤ p ∧ p < P 100 41) (hR : RS P h b s) :
    ∃ h', g_X3_hold b p h = some h' ∧ RS P h' b (putP s p) ∧ Fr b h h' := by
  have hN := hv.n
  have hpl := pv_plan hv
  have h12 := (pv_flags hv).1
  unfold g_X3_hold
  rw [e_pF, e_cI, e_fill, e_cV, e_cI, e_fill, e_cV]
  refine ⟨_, rfl, ?_, fun q hq => by rw [fillR_ne (by omega), fillR_ne (by omega)]; exact set2_ne q (by omega)⟩
  have e1 : ∀ q, q ≠ b + 6 → q ≠ b + 7 → q ≠ b → fillR (fillR (set2 h b 7 p) (b + 6) 4 0) (b + 7) 4 0 q = h q := by
    intro q a1 a2 a3
    rw [fillR_ne a2, fillR_ne a1]
    exact set2_ne q (by omega)
  have e2 : ∀ k, k ≠ 7 → fillR (fillR (set2 h b 7 p) (b + 6) 4 0) (b + 7) 4 0 b k = h b k := by
    intro k hk
    rw [fillR_ne (by omega), fillR_ne (by omega), set2_nk _ _ _ _ _ _ hk]
  have e3 : fillR (fillR (set2 h b 7 p) (b + 6) 4 0) (b + 7) 4 0 b 7 = p := by
    rw [fillR_ne (by omega), fillR_ne (by omega), set2_same]
  have e4 : ∀ k, k < 4 → fillR (fillR (set2 h b 7 p) (b + 6) 4 0) (b + 7) 4 0 (b + 6) k = 0 ∧ fillR (fillR (set2 h b 7 p) (b + 6) 4 0) (b + 7) 4 0 (b + 7) k = 0 := by
    intro k hk
    refine ⟨?_, fillR_in hk⟩
    rw [fillR_ne (by omega), fillR_in hk]
  generalize fillR (fillR (set2 h b 7 p) (b + 6) 4 0) (b + 7) 4 0 = h' at e1 e2 e3 e4
  obtain ⟨⟨a1, a2, a3, ⟨a4, a6⟩, a5⟩, a7⟩ := hR
  refine ⟨⟨fun j hj => ?_, ?_, ⟨?_, fun j hj => ?_⟩, ⟨?_, ?_⟩, ?_⟩, ?_⟩
  · rw [e1 _ (by omega) (by omega) (by omega), e1 _ (by omega) (by omega) (by omega), e1 _ (by omega) (by omega) (by omega), e1 _ (by omega) (by omega) (by omega), putP_out (by omega), putP_out (by omega), putP_out (by omega), putP_out (by omega)]
    exact a1 j hj
  · rw [e2 9 (by omega), e2 10 (by omega), e2 11 (by omega), e2 12 (by omega), e2 13 (by omega), e2 14 (by omega), putP_out (by omega), putP_out (by omega), putP_out (by omega), putP_out (by omega), putP_out (by omega), putP_out (by omega)]
    exact a2
  · rw [putP_out (by omega)]; exact a3.1
  · rw [e1 _ (by omega) (by omega) (by omega), putP_out (by omega), putP_out (by omega), putP_out (by omega)]
    exact a3.2 j hj
  · rw [e3, putP_275]
  · unfold HR
    rw [putP_275]
    intro hn i hi
    have hpp := hpl.2 p.toNat (by omega)
    have := hpp.2 i hi
    have e := e4 i (by omega)
    rw [e.1, e.2, putP_in (by omega), putP_in (by omega), putP_in (by omega)]
    exact ⟨⟨by omega, by omega, by split <;> rfl⟩, fun _ => rfl, fun _ => Or.inr ⟨rfl, rfl⟩⟩
  · rw [e2 8 (by omega), putP_out (by omega)]; exact a5
  · unfold SE
    rw [e2 15 (by omega)]
    exact SE.congr (P := P) (h := h) (b := b) hv (fun j hj => ⟨putP_out (by omega), putP_out (by omega), putP_out (by omega), putP_out (by omega)⟩) a7
def cpR (h : Hp) (q0 q1 n : Nat) : Hp := fun q j => if q = q1 ∧ j < n then h q0 j else h q j
theorem cpR_in {h : Hp} {q0 q1 n j : Nat} (hj : j < n) : cpR h q0 q1 n q1 j = h q0 j := by unfold cpR; rw [if_pos ⟨rfl, hj⟩]
theorem cpR_ne {h : Hp} {q0 q1 n q : Nat} (hq : q ≠ q1) : cpR h q0 q1 n q = h q := by funext j; unfold cpR; rw [if_neg (by omega)]
theorem e_cp {R : Type} (h : Hp) (q0 q1 n : Nat) (K : Hp → Option R) : cpI h q0 n 0 q1 n 0 (n : Int) K = K (cpR h q0 q1 n) := by
  unfold cpI
  rw [if_pos (by omega)]
  congr 1
  funext q j
  unfold cpR
  simp
theorem k_copyFrom {P h : Hp} {b a : Nat} {s : Nat → Int} (hv : PV P) (hd : a + 8 ≤ b ∨ b + 8 ≤ a) (hH : HV P s) (hR : RS P h a s) :
    ∃ h', g_X3_copyFrom b a h = some h' ∧ RS P h' b s ∧ Fr b h h' := by
  have hN := hv.n
  have hpl := pv_plan hv
  have h12 := (pv_flags hv).1
  have h15 : h a 15 = 0 ∨ h a 15 = 1 := by
    rcases hR.2 with q | q
    · exact Or.inl q
    · exact Or.inr q.1
  unfold g_X3_copyFrom
  rw [e_cI, e_cI, e_cI]
  have c64 : ∀ (R : Type) (h : Hp) (q0 q1 : Nat) (K : Hp → Option R), cpI h q0 64 0 q1 64 0 64 K = K (cpR h q0 q1 64) := fun R h q0 q1 K => e_cp h q0 q1 64 K
  have c3 : ∀ (R : Type) (h : Hp) (q0 q1 : Nat) (K : Hp → Option R), cpI h q0 3 0 q1 3 0 3 K = K (cpR h q0 q1 3) := fun R h q0 q1 K => e_cp h q0 q1 3 K
  have c4 : ∀ (R : Type) (h : Hp) (q0 q1 : Nat) (K : Hp → Option R), cpI h q0 4 0 q1 4 0 4 K = K (cpR h q0 q1 4) := fun R h q0 q1 K => e_cp h q0 q1 4 K
  rw [c64, e_cI, e_cI, e_cI, c64, e_cI, e_cI, e_cI, c64, e_cI, e_cI, e_cI, c64, e_cI, e_cI, e_cI, c3, e_cI, e_cI, e_cI, c4, e_cI, e_cI, e_cI, c4]
  generalize e1 : cpR h (a + 1) (b + 1) 64 = h1
  generalize e2 : cpR h1 (a + 2) (b + 2) 64 = h2
  generalize e3 : cpR h2 (a + 3) (b + 3) 64 = h3
  generalize e4 : cpR h3 (a + 4) (b + 4) 64 = h4
  generalize e5 : cpR h4 (a + 5) (b + 5) 3 = h5
  generalize e6 : cpR h5 (a + 6) (b + 6) 4 = h6
  generalize e7 : cpR h6 (a + 7) (b + 7) 4 = h7
  have src : ∀ q, q ≠ b + 1 → q ≠ b + 2 → q ≠ b + 3 → q ≠ b + 4 → q ≠ b + 5 → q ≠ b + 6 → q ≠ b + 7 → h7 q = h q := by
    intro q a1 a2 a3 a4 a5 a6 a7
    rw [← e7, cpR_ne a7, ← e6, cpR_ne a6, ← e5, cpR_ne a5, ← e4, cpR_ne a4, ← e3, cpR_ne a3, ← e2, cpR_ne a2, ← e1, cpR_ne a1]
  have d1 : ∀ j, j < 64 → h7 (b + 1) j = h (a + 1) j := by
    intro j hj
    rw [← e7, cpR_ne (by omega), ← e6, cpR_ne (by omega), ← e5, cpR_ne (by omega), ← e4, cpR_ne (by omega), ← e3, cpR_ne (by omega), ← e2, cpR_ne (by omega), ← e1, cpR_in hj]
  have d2 : ∀ j, j < 64 → h7 (b + 2) j = h (a + 2) j := by
    intro j hj
    rw [← e7, cpR_ne (by omega), ← e6, cpR_ne (by omega), ← e5, cpR_ne (by omega), ← e4, cpR_ne (by omega), ← e3, cpR_ne (by omega), ← e2, cpR_in hj, ← e1, cpR_ne (by omega)]
  have d3 : ∀ j, j < 64 → h7 (b + 3) j = h (a + 3) j := by
    intro j hj
    rw [← e7, cpR_ne (by omega), ← e6, cpR_ne (by omega), ← e5, cpR_ne (by omega), ← e4, cpR_ne (by omega), ← e3, cpR_in hj, ← e2, cpR_ne (by omega), ← e1, cpR_ne (by omega)]
  have d4 : ∀ j, j < 64 → h7 (b + 4) j = h (a + 4) j := by
    intro j hj
    rw [← e7, cpR_ne (by omega), ← e6, cpR_ne (by omega), ← e5, cpR_ne (by omega), ← e4, cpR_in hj, ← e3, cpR_ne (by omega), ← e2, cpR_ne (by omega), ← e1, cpR_ne (by omega)]
  have d5 : ∀ j, j < 3 → h7 (b + 5) j = h (a + 5) j := by
    intro j hj
    rw [← e7, cpR_ne (by omega), ← e6, cpR_ne (by omega), ← e5, cpR_in hj, ← e4, cpR_ne (by omega), ← e3, cpR_ne (by omega), ← e2, cpR_ne (by omega), ← e1, cpR_ne (by omega)]
  have d6 : ∀ j, j < 4 → h7 (b + 6) j = h (a + 6) j := by
    intro j hj
    rw [← e7, cpR_ne (by omega), ← e6, cpR_in hj, ← e5, cpR_ne (by omega), ← e4, cpR_ne (by omega), ← e3, cpR_ne (by omega), ← e2, cpR_ne (by omega), ← e1, cpR_ne (by omega)]
  have d7 : ∀ j, j < 4 → h7 (b + 7) j = h (a + 7) j := by
    intro j hj
    rw [← e7, cpR_in hj, ← e6, cpR_ne (by omega), ← e5, cpR_ne (by omega), ← e4, cpR_ne (by omega), ← e3, cpR_ne (by omega), ← e2, cpR_ne (by omega), ← e1, cpR_ne (by omega)]
  clear e1 e2 e3 e4 e5 e6 e7
  have sa : h7 a = h a := src a (by omega) (by omega) (by omega) (by omega) (by omega) (by omega) (by omega)
  have g : ∀ (hh : Hp) (k : Nat) (x : Int), hh a = h a → set2 hh b k x a = h a := fun hh k x e => by rw [← e]; exact set2_ne a (by omega)
  have g7 := g h7 7 (h a 7) sa
  have g8 := g _ 8 (h a 8) g7
  have g9 := g _ 9 (h a 9) g8
  have g10 := g _ 10 (h a 10) g9
  have g11 := g _ 11 (h a 11) g10
  have g12 := g _ 12 (h a 12) g11
  have g13 := g _ 13 (h a 13) g12
  have g14 := g _ 14 (h a 14) g13
  rw [e_gF, sa, e_pF, e_gF, g7, e_pF, e_gF, g8, e_pF, e_gF, g9, e_pF, e_gF, g10, e_pF, e_gF, g11, e_pF, e_gF, g12, e_pF, e_gF, g13, e_pF, e_gF, g14, e_pZ _ _ _ _ _ h15]
  refine ⟨_, rfl, ?_, fun q hq => ?_⟩
  rotate_left
  · rw [set2_ne q (by omega), set2_ne q (by omega), set2_ne q (by omega), set2_ne q (by omega), set2_ne q (by omega), set2_ne q (by omega), set2_ne q (by omega), set2_ne q (by omega), set2_ne q (by omega)]
    exact src q (by omega) (by omega) (by omega) (by omega) (by omega) (by omega) (by omega)
  have k1 : ∀ q, q ≠ b → set2 (set2 (set2 (set2 (set2 (set2 (set2 (set2 (set2 h7 b 7 (h a 7)) b 8 (h a 8)) b 9 (h a 9)) b 10 (h a 10)) b 11 (h a 11)) b 12 (h a 12)) b 13 (h a 13)) b 14 (h a 14)) b 15 (h a 15) q = h7 q := by
    intro q hq
    rw [set2_ne q (by omega), set2_ne q (by omega), set2_ne q (by omega), set2_ne q (by omega), set2_ne q (by omega), set2_ne q (by omega), set2_ne q (by omega), set2_ne q (by omega), set2_ne q (by omega)]
  have k2 : ∀ k, 7 ≤ k → k ≤ 15 → set2 (set2 (set2 (set2 (set2 (set2 (set2 (set2 (set2 h7 b 7 (h a 7)) b 8 (h a 8)) b 9 (h a 9)) b 10 (h a 10)) b 11 (h a 11)) b 12 (h a 12)) b 13 (h a 13)) b 14 (h a 14)) b 15 (h a 15) b k = h a k := by
    intro k h1 h2
    rcases (by omega : k = 7 ∨ k = 8 ∨ k = 9 ∨ k = 10 ∨ k = 11 ∨ k = 12 ∨ k = 13 ∨ k = 14 ∨ k = 15) with rfl | rfl | rfl | rfl | rfl | rfl | rfl | rfl | rfl <;> simp [set2]
  generalize set2 (set2 (set2 (set2 (set2 (set2 (set2 (set2 (set2 h7 b 7 (h a 7)) b 8 (h a 8)) b 9 (h a 9)) b 10 (h a 10)) b 11 (h a 11)) b 12 (h a 12)) b 13 (h a 13)) b 14 (h a 14)) b 15 (h a 15) = h' at k1 k2
  obtain ⟨⟨a1, a2, a3, ⟨a4, a6⟩, a5⟩, a7⟩ := hR
  refine ⟨⟨fun j hj => ?_, ?_, ⟨a3.1, fun j hj => ?_⟩, ⟨?_, ?_⟩, ?_⟩, ?_⟩
  · rw [k1 _ (by omega), k1 _ (by omega), k1 _ (by omega), k1 _ (by omega), d1 j (by omega), d2 j (by omega), d3 j (by omega), d4 j (by omega)]
    exact a1 j hj
  · rw [k2 9 (by omega) (by omega), k2 10 (by omega) (by omega), k2 11 (by omega) (by omega), k2 12 (by omega) (by omega), k2 13 (by omega) (by omega), k2 14 (by omega) (by omega)]
    exact a2
  · rw [k1 _ (by omega), d5 j (by omega)]
    exact a3.2 j hj
  · rw [k2 7 (by omega) (by omega)]; exact a4
  · intro hn i hi
    have h1 := hH.1
    have hpp := hpl.2 (s 275).toNat (by omega)
    rw [k1 _ (by omega), k1 _ (by omega), d6 i (by omega), d7 i (by omega)]
    exact a6 hn i hi
  · rw [k2 8 (by omega) (by omega)]; exact a5
  · unfold SE
    rw [k2 15 (by omega) (by omega)]
    exact a7
theorem Rel.now {n : Nat} {h h2 : Hp} {s : Nat → Int} (r : Rel n h) (hI : IV h 6336 (360 * ((n + 1 : Nat) : Int)) s) (hR : RS h h2 26 s) (h268 : s 268 = h 100 12) (hrow : h2 121 = s) (f : ∀ p, p ≠ 121 → (p < 26 ∨ 33 < p) → h2 p = h p) : Rel (n + 1) h2 := by
  obtain ⟨r0, ⟨c, r1⟩, ⟨v, r2⟩, r3, r4, r5, r6, r7, r8⟩ := r
  have e : TE h h2 := TE.of (fun p _ _ => f p (by omega) (by omega))
  have e100 : h2 100 = h 100 := f 100 (by omega) (by omega)
  have e0 : h2 0 = h 0 := f 0 (by omega) (by omega)
  have e1 : h2 1 = h 1 := f 1 (by omega) (by omega)
  refine ⟨r0.te e, ⟨c, r1.mv e (fun k _ => by rw [e0]) (fun p _ _ => f p (by omega) (by omega)) (by rw [e100])⟩, ⟨v, r2.mv e (fun k _ => by rw [e0]) (fun p _ _ => f p (by omega) (by omega)) (by rw [e100])⟩, r3.mv r0 e (by rw [e0]) (fun p _ _ => f p (by omega) (by omega)), ?_,
    fun j hj => (r5 j hj).mv hj (by omega) e (fun p _ _ => f p (by omega) (by omega)) ⟨f 123 (by omega) (by omega), f 124 (by omega) (by omega), f 35 (by omega) (by omega)⟩, r6.mv ⟨by rw [e1], f 2 (by omega) (by omega), by rw [e100], f 101 (by omega) (by omega)⟩, r7.mv ⟨by rw [e1], by rw [e1], by rw [e100], by rw [e100]⟩,
    r8.mv (fun p _ _ => f p (by omega) (by omega)) (fun p _ _ => f p (by omega) (by omega)) ⟨by rw [e100], by rw [e100], by rw [e100]⟩⟩
  unfold NowR
  rw [hrow, e100]
  exact ⟨hI.te e, hR.te e, h268⟩
theorem Rel.nowI {n : Nat} {h : Hp} (r : Rel n h) : IV h 6336 (360 * ((n + 1 : Nat) : Int)) (h 121) := r.2.2.2.2.1.1.mono (by omega)
theorem setRow_at (h : Hp) (q : Nat) : h = setRow h q (h q) := (setRow_self h q).symm
theorem s_chance {n : Nat} {h : Hp} {x1 : Int} (hx : inR x1) (r : Rel n h) : ∃ z h1 h2, g_X8_chance x1 h = some (z, h1) ∧ g_X9_chance x1 h1 = some (z, h2) ∧ Rel (n + 1) h2 := by
  have r' := r
  obtain ⟨hv, -, -, -, ⟨hI, hR, h268⟩, -⟩ := r'
  unfold inR at hx
  unfold g_X8_chance g_X9_chance
  by_cases b : 0 ≤ x1
  · rw [b_pos b, e_pF, e_cI]
    refine ⟨1, _, setRow (set2 h 26 8 x1) 121 (upd1 (h 121) 288 x1), rfl, ?_, ?_⟩
    · rw [b_pos b, e_cI, e_wrR _ _ _ _ _ _ (by omega), e_cI, set2_ne 121 (by omega)]
      rfl
    · refine r.now (s := upd1 (h 121) 288 x1) (iv_chance r.nowI hv (by omega)) ?_ ?_ ?_ ?_
      · exact (hR.chance hv hI.2.2.2.1).hp (fun p _ _ => setRow_ne _ _ _ _ (by omega))
      · rw [upd1_ne _ _ _ _ (by omega)]; exact h268
      · exact setRow_same _ _ _
      · intro p h1 h2
        rw [setRow_ne _ _ _ _ h1]
        exact set2_ne p (by omega)
  · rw [b_neg b, e_cI]
    exact ⟨-2, h, h, rfl, by rw [b_neg b, e_cI], r.next⟩
theorem s_work {n : Nat} {h : Hp} {x1 : Int} (r : Rel n h) : ∃ z h1 h2, g_X8_work x1 h = some (z, h1) ∧ g_X9_work x1 h1 = some (z, h2) ∧ Rel (n + 1) h2 := by
  have r' := r
  obtain ⟨hv, -, -, rp, ⟨hI, hR, h268⟩, -⟩ := r'
  have h41 := (pv_plan hv).1
  unfold g_X8_work g_X9_work
  rw [k_isPlanOrNone rp, e_cP]
  by_cases b : -1 ≤ x1 ∧ x1 < h 100 41
  rotate_left
  · rw [show (if x1 < -1 then (0 : Int) else if h 100 41 - 1 < x1 then 0 else 1) = 0 by split <;> (try split) <;> omega, b_pos rfl, e_cI]
    refine ⟨-2, h, h, rfl, ?_, r.next⟩
    rw [e_cI, e_join, b_neg (by omega), m_isPlan hv, e_cP, show (if x1 < 0 then (0 : Int) else if h 100 41 - 1 < x1 then 0 else 1) = 0 by split <;> (try split) <;> omega, b_pos rfl, e_cI]
  obtain ⟨h1, w1, w2, w3⟩ := k_hold (p := x1) hv b hR
  have e121 : h1 121 = h 121 := w3 121 (by omega)
  rw [if_neg (show ¬ x1 < -1 by omega), if_neg (show ¬ h 100 41 - 1 < x1 by omega), b_neg (by decide), w1, e_cV, e_cI]
  refine ⟨1, h1, setRow h1 121 (putP (h 121) x1), rfl, ?_, ?_⟩
  · have key : (cV (g_X9_putPlan 121 x1 h1) fun h4 => cI 1 fun z5 => some (z5, h4)) = some (1, setRow h1 121 (putP (h 121) x1)) := by
      have := m_putPlan (h := h1) (q := 121) (s := h1 121) (p := x1)
      rw [setRow_self, e121] at this
      rw [this, e_cV, e_cI]
    rw [e_cI]
    refine join_gen (fun j3 hj3 => ?_)
    by_cases b0 : x1 = -1
    · rw [b_pos b0, hj3]
      exact key
    · have e : TE h h1 := TE.of (fun p _ _ => w3 p (by omega))
      rw [b_neg b0, m_isPlan (hv.te e), e_cP, e.1.2.2.2.2.2, if_neg (show ¬ x1 < 0 by omega), if_neg (show ¬ h 100 41 - 1 < x1 by omega), b_neg (by decide), hj3]
      exact key
  · refine r.now (s := putP (h 121) x1) (iv_putP r.nowI hv b) ?_ ?_ ?_ ?_
    · exact w2.hp (fun p _ _ => setRow_ne _ _ _ _ (by omega))
    · rw [putP_out (by omega)]; exact h268
    · exact setRow_same _ _ _
    · intro p q1 q2
      rw [setRow_ne _ _ _ _ q1]
      exact w3 p (by omega)
theorem handsLP_far {P : Hp} {s : Nat → Int} {p j : Nat} (hv : PV P) (hj : 256 ≤ j ∧ j < 276) (hp : p < (P 100 41).toNat) (hH : ∀ i, i < (P 118 p).toNat → 0 ≤ s (276 + i) ∧ s (276 + i) < P 119 (4 * p + i)) : ∀ n, n ≤ (P 118 p).toNat → (handsLP P p s n j = s j ∧ ∀ i, n ≤ i → i < 4 → handsLP P p s n (276 + i) = s (276 + i)) := by
  have hN := hv.n
  intro n
  induction n with
  | zero => exact fun _ => ⟨rfl, fun _ _ _ => rfl⟩
  | succ n ih =>
    intro hn
    obtain ⟨i1, i2⟩ := ih (by omega)
    have hpp := (pv_plan hv).2 p hp
    have ha := hpp.2 n (by omega)
    have e0 := i2 n (Nat.le_refl _) (by omega)
    have h0 := hH n (by omega)
    have hac := ha.2 (s (276 + n)).toNat (by omega)
    have far : ∀ k, (256 ≤ k ∧ k < 276) ∨ (276 + n < k ∧ k < 280) → handP P p (handsLP P p s n) n k = handsLP P p s n k := by
      intro k hk
      unfold handP
      rw [e0]
      split
      · rw [upd1_ne _ _ _ _ (by omega)]
      have hfar : ∀ j, 256 ≤ j → doesP (handsLP P p s n) (actAtP P p n (s (276 + n)).toNat 0) (actAtP P p n (s (276 + n)).toNat 1).toNat (actAtP P p n (s (276 + n)).toNat 2).toNat j = handsLP P p s n j := by
        intro j hj
        by_cases z : actAtP P p n (s (276 + n)).toNat 0 ≤ 3
        · have h1 := hac.2.1 z
          by_cases z0 : actAtP P p n (s (276 + n)).toNat 0 = 0
          · have h2 := hac.2.2.2.1 z0
            exact doesP_far (by omega) (by omega) hj
          · have h2 := hac.2.2.2.2 z0
            exact doesP_far (by omega) (by omega) hj
        · unfold doesP
          rw [if_neg (by omega), if_neg (by omega), if_neg (by omega), if_neg (by omega)]
      dsimp only
      split
      · rw [upd1_ne _ _ _ _ (by omega), upd1_ne _ _ _ _ (by omega)]
        exact hfar k (by omega)
      split
      · rw [upd1_ne _ _ _ _ (by omega), upd1_ne _ _ _ _ (by omega)]
        exact hfar k (by omega)
      · rw [upd1_ne _ _ _ _ (by omega), upd1_ne _ _ _ _ (by omega), upd1_ne _ _ _ _ (by omega), upd1_ne _ _ _ _ (by omega)]
        exact hfar k (by omega)
    refine ⟨?_, fun i h1 h2 => ?_⟩
    · show handP P p (handsLP P p s n) n j = s j
      rw [far j (by omega), i1]
    · show handP P p (handsLP P p s n) n (276 + i) = s (276 + i)
      rw [far _ (by omega), i2 i (by omega) h2]
theorem handsP_far {P : Hp} {s : Nat → Int} {j : Nat} (hv : PV P) (hj : 256 ≤ j ∧ j < 276) (hH : HV P s) : handsP P s j = s j := by
  unfold handsP
  split
  · rfl
  · rename_i hn
    have h1 := hH.1
    refine (handsLP_far hv hj (by omega) (fun i hi => (hH.2 hn i hi).1) _ (Nat.le_refl _)).1
theorem tideP_far {P : Hp} {s : Nat → Int} {j : Nat} {m : Int} (hv : PV P) (hj : 256 ≤ j ∧ j ≠ 269 ∧ j ≠ 274 ∧ j ≠ 288) : tideP P m s j = s j := by
  have d : ∀ t : Nat → Int, drawP t j = t j := fun t => upd1_ne _ _ _ _ (by omega)
  unfold tideP
  split
  · rfl
  split
  · rfl
  split
  · rfl
  split
  · split
    · rw [waveP_far hv (by omega), d, d, d]
    · rw [d]
  · rfl
theorem finishP_far {P : Hp} {B T : Int} {s : Nat → Int} {j : Nat} (hv : PV P) (hj : (256 ≤ j ∧ j < 264) ∨ j = 268 ∨ j = 275) (hI : IV P B T s) : finishP P s j = s j := by
  have hN := hv.n
  have hcn := cN_le hv
  have i1 := iv_seaP hI hv
  have i2 := iv_sunP i1 hv
  have i3 := iv_slidesP i2 hv
  have h268 := i3.2.2.1.2.1
  unfold finishP
  try dsimp only
  rw [upd1_ne _ _ _ _ (by omega), flagsP_far (by omega) _ (by omega), slidesP_far hv (by omega)]
  have e1 : sunP P (seaP P s) j = seaP P s j := by
    unfold sunP
    split
    · exact dryP_far hv (by omega) _ (by omega)
    · rfl
  rw [e1]
  unfold seaP
  rw [tideP_far hv (by omega), toldP_far hv (by omega)]
theorem minuteP_far {P : Hp} {B T : Int} {s : Nat → Int} {j : Nat} (hv : PV P) (hj : (256 ≤ j ∧ j < 264) ∨ j = 268 ∨ j = 275) (hI : IV P B T s) : minuteP P s j = s j := by
  unfold minuteP
  rw [finishP_far hv hj (iv_handsP hI hv), handsP_far hv (by omega) hI.2.2.2.1]
def minsP (P : Hp) (s : Nat → Int) : Nat → (Nat → Int)
  | 0 => s
  | k + 1 => minuteP P (minsP P s k)
theorem iv_minsP {P : Hp} {B T : Int} {s : Nat → Int} (h : IV P B T s) (hv : PV P) : ∀ k : Nat, IV P B (T + k) (minsP P s k)
  | 0 => h.mono (by omega)
  | k + 1 => (iv_minuteP (iv_minsP h hv k) hv).mono (by omega)
theorem minsP_far {P : Hp} {B T : Int} {s : Nat → Int} {j : Nat} (h : IV P B T s) (hv : PV P) (hj : (256 ≤ j ∧ j < 264) ∨ j = 268 ∨ j = 275) : ∀ k : Nat, minsP P s k j = s j
  | 0 => rfl
  | k + 1 => by
    show minuteP P (minsP P s k) j = s j
    rw [minuteP_far hv hj (iv_minsP h hv k), minsP_far h hv hj k]
theorem planRef_eq {h : Hp} {x : Int} (rp : PlsR h) (hv : PV h) (hx : -1 ≤ x ∧ x < h 100 41) : g_X8_planOrNull x h = some (planRef x) := by
  have h41 := (pv_plan hv).1
  unfold g_X8_planOrNull planRef
  by_cases b : x = -1
  · rw [b_pos (by omega), if_pos b]
  · obtain ⟨p, rfl⟩ := Int.eq_ofNat_of_zero_le (show 0 ≤ x by omega)
    rw [b_neg (by omega), e_gF, rp.1, b_neg (by omega), e_rdQ _ _ _ _ _ (by omega), if_neg b]
    congr 1
theorem BchR.apart {h : Hp} {c b : Nat} (r : BchR h c) (hb : 26 ≤ b) : c + 6 ≤ b ∨ b + 8 ≤ c := by rcases r.1 with q | q <;> omega
theorem SeaR.apart {h : Hp} {v b : Nat} (r : SeaR h v) (hb : 26 ≤ b) : v + 5 ≤ b ∨ b + 8 ≤ v := by rcases r.1 with q | q <;> omega
theorem PlsR.apart {h : Hp} {b : Nat} (hv : PV h) (r : PlsR h) (hb : b + 8 ≤ 61 ∨ 76 ≤ b) : ∀ p : Nat, p < (h 100 41).toNat → PL h h p ∧ (61 + 5 * p + 5 ≤ b ∨ b + 8 ≤ 61 + 5 * p) := by
  intro p hp
  have h41 := (pv_plan hv).1
  exact ⟨r.2 p hp, by omega⟩
theorem s_pass {n : Nat} {h : Hp} {x1 : Int} (hn : n ≤ 600) (r : Rel n h) : ∃ z h1 h2, g_X8_pass x1 h = some (z, h1) ∧ g_X9_pass x1 h1 = some (z, h2) ∧ Rel (n + 1) h2 := by
  have r' := r
  obtain ⟨hv, ⟨c, rb⟩, ⟨v, rs⟩, rp, ⟨hI, hR, h268⟩, -⟩ := r'
  unfold g_X8_pass g_X9_pass
  by_cases b0 : 0 ≤ x1 ∧ x1 ≤ 360
  rotate_left
  · by_cases b1 : x1 < 0
    · refine ⟨-2, h, h, ?_, ?_, r.next⟩
      · (repeat (first | rw [e_i2l] | rw [e_cI] | rw [e_join] | rw [e_cP] | rw [e_gF] | rw [e_pF] | rw [e_cW] | rw [e_cV] | rw [e_in_t _ _ _ _ (by omega)] | rw [e_in_f _ _ _ _ (by omega)] | rw [b_pos (by omega)] | rw [b_neg (by omega)] | rw [e_add _ _ _ (by omega)] | rw [e_sub _ _ _ (by omega)] | rw [e_mul _ _ _ (by omega)] | rw [e_lsub _ _ _ (by omega)] | rw [e_rd _ _ _ _ _ (by omega)] | rw [b_pos True.intro] | rw [b_neg not_false] | simp only [Int.reduceToNat, Int.reduceSub, Int.reduceAdd, Int.reduceMul]))
      · (repeat (first | rw [e_i2l] | rw [e_cI] | rw [e_join] | rw [e_cP] | rw [e_gF] | rw [e_pF] | rw [e_cW] | rw [e_cV] | rw [e_in_t _ _ _ _ (by omega)] | rw [e_in_f _ _ _ _ (by omega)] | rw [b_pos (by omega)] | rw [b_neg (by omega)] | rw [e_add _ _ _ (by omega)] | rw [e_sub _ _ _ (by omega)] | rw [e_mul _ _ _ (by omega)] | rw [e_lsub _ _ _ (by omega)] | rw [e_rd _ _ _ _ _ (by omega)] | rw [b_pos True.intro] | rw [b_neg not_false] | simp only [Int.reduceToNat, Int.reduceSub, Int.reduceAdd, Int.reduceMul]))
    · refine ⟨-2, h, h, ?_, ?_, r.next⟩
      · (repeat (first | rw [e_i2l] | rw [e_cI] | rw [e_join] | rw [e_cP] | rw [e_gF] | rw [e_pF] | rw [e_cW] | rw [e_cV] | rw [e_in_t _ _ _ _ (by omega)] | rw [e_in_f _ _ _ _ (by omega)] | rw [b_pos (by omega)] | rw [b_neg (by omega)] | rw [e_add _ _ _ (by omega)] | rw [e_sub _ _ _ (by omega)] | rw [e_mul _ _ _ (by omega)] | rw [e_lsub _ _ _ (by omega)] | rw [e_rd _ _ _ _ _ (by omega)] | rw [b_pos True.intro] | rw [b_neg not_false] | simp only [Int.reduceToNat, Int.reduceSub, Int.reduceAdd, Int.reduceMul]))
      · (repeat (first | rw [e_i2l] | rw [e_cI] | rw [e_join] | rw [e_cP] | rw [e_gF] | rw [e_pF] | rw [e_cW] | rw [e_cV] | rw [e_in_t _ _ _ _ (by omega)] | rw [e_in_f _ _ _ _ (by omega)] | rw [b_pos (by omega)] | rw [b_neg (by omega)] | rw [e_add _ _ _ (by omega)] | rw [e_sub _ _ _ (by omega)] | rw [e_mul _ _ _ (by omega)] | rw [e_lsub _ _ _ (by omega)] | rw [e_rd _ _ _ _ _ (by omega)] | rw [b_pos True.intro] | rw [b_neg not_false] | simp only [Int.reduceToNat, Int.reduceSub, Int.reduceAdd, Int.reduceMul]))
  obtain ⟨k, rfl⟩ := Int.eq_ofNat_of_zero_le b0.1
  have hH := hI.2.2.2.1
  rw [e_join, b_neg (by omega), e_cI, b_pos (by omega), e_gF, hR.1.2.2.2.1.1, planRef_eq rp hv hH.1, e_cP, e_cI]
  have hIk := fun i => iv_minsP hI hv i
  -- the class
  have cls : ∃ rr, loopF (g_X8_pass_l9 (planRef (h 121 275)) (k : Int)) FU (0, h) = some rr ∧ (rr.1 = minsP h (h 121) k 270 ∧ RS h rr.2 26 (minsP h (h 121) k) ∧ Fr 26 h rr.2) := by
    refine loopF_ex k (fun i q => q.1 = (i : Int) ∧ RS h q.2 26 (minsP h (h 121) i) ∧ Fr 26 h q.2) ?_ ?_ FU 0 _ (by omega) (fu _ (by omega)) ⟨rfl, hR, Fr.rf⟩
    · rintro i ⟨xx, h2⟩ hi ⟨e1, e2, e3⟩ self
      dsimp only at e1 e2 e3
      subst e1
      left
      have e0 : h2 0 = h 0 := e3 0 (by omega)
      have eb : ∀ K : Nat → Option (Int × Hp), gR h2 0 1 [3, 9] K = K c := fun K => e_gR h2 0 1 c [3, 9] K (by rw [e0]; exact rb.ref.1) rb.ref.2
      have es : ∀ K : Nat → Option (Int × Hp), gR h2 0 3 [15, 20] K = K v := fun K => e_gR h2 0 3 v [15, 20] K (by rw [e0]; exact rs.ref.1) rs.ref.2
      have hIi := hIk i
      have hp := minsP_far (j := 275) hI hv (by omega) i
      obtain ⟨h3, w1, w2, w3⟩ := k_live (c := c) (v := v) hv (rb.2.2.1.fr e3 (rb.apart (by omega))) (rb.apart (by omega)) (rs.2.2.1.fr e3 (rs.apart (by omega))) (rs.apart (by omega)) (fun p hp => by
        obtain ⟨w1, w2⟩ := PlsR.apart (b := 26) hv rp (by omega) p hp
        exact ⟨w1.fr e3 w2, w2⟩) (by omega) (by omega) hIi e2
      rw [hp] at w1
      refine ⟨((i : Int) + 1, h3), ⟨by dsimp only; omega, w2, e3.tr w3⟩, ?_⟩
      unfold g_X8_pass_l9
      dsimp only
      rw [b_neg (by omega), eb, es, w1, e_cV, e_add _ _ _ (by omega)]
    · rintro ⟨xx, h2⟩ ⟨e1, e2, e3⟩ self
      dsimp only at e1 e2 e3
      subst e1
      unfold g_X8_pass_l9
      dsimp only
      rw [b_pos (by omega), e_gF, e2.1.2.1.1]
      exact ⟨_, rfl, rfl, e2, e3⟩
  obtain ⟨⟨z, h1⟩, c1, c2, c3, c4⟩ := cls
  dsimp only at c2 c3 c4
  have e121 : h1 121 = h 121 := c4 121 (by omega)
  have epm : PM h h1 := fun p hp => c4 p (by omega)
  refine ⟨z, h1, setRow h1 121 (minsP h (h 121) k), c1, ?_, ?_⟩
  · rw [e_i2l, e_cI, e_cI, m_in, e_cP, if_neg (show ¬ (k : Int) < 0 by omega), if_neg (show ¬ 360 < (k : Int) by omega), b_neg (by decide), e_cI]
    refine loopF_for' k (fun i => ((i : Int), setRow h1 121 (minsP h (h 121) i))) ?_ ?_ ?_ (fu _ (by omega))
    · intro i hi self
      have := m_minute (q := 121) epm hv (by omega) (by omega) (by have := hIk i; omega) (hIk i)
      unfold g_X9_pass_l7
      dsimp only
      rw [b_neg (by omega), this, e_cV, e_add _ _ _ (by omega), show ((i + 1 : Nat) : Int) = (i : Int) + 1 by omega]
      rfl
    · intro self
      unfold g_X9_pass_l7
      dsimp only
      rw [b_pos (by omega), e_cI, e_rd _ _ _ _ _ (by omega), setRow_same, c2]
      rfl
    · refine Prod.ext rfl ?_
      show h1 = setRow h1 121 (h 121)
      rw [← e121, setRow_self]
  · refine r.now (s := minsP h (h 121) k) ((hIk k).mono (by omega)) ?_ ?_ ?_ ?_
    · exact c3.hp (fun p _ _ => setRow_ne _ _ _ _ (by omega))
    · rw [minsP_far hI hv (by omega)]; exact h268
    · exact setRow_same _ _ _
    · intro p q1 q2
      rw [setRow_ne _ _ _ _ q1]
      exact c4 p (by omega)
