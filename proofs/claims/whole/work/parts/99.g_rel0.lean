/-! THE START: what both leave is related -/
theorem nH_at {h : Hp} {n j : Nat} {cs : List Nat} (hj : cs.getD j 9 ≠ 1) : nH h n cs n j = 0 := by
  unfold nH
  rw [if_neg (fun q => hj q.2), zR_same]
def okS (n : Nat) (s : Shp) : Bool := match s with
  | .inl o => o.2.all fun c => decide (c = 0 ∨ (2 ≤ c ∧ c < n + 2))
  | .inr a => a.2.2.all fun x => decide (x ≤ n)
theorem okS_cls {n : Nat} {s : Shp} (h : okS n s = true) (f : Nat → Int) : ClS n s f := by
  cases s with
  | inl o =>
    intro k c hk
    have := of_decide_eq_true (List.all_eq_true.mp h c (List.mem_of_getElem? hk))
    rcases this with y | y
    · exact Or.inl y
    · exact Or.inr (Or.inr y)
  | inr a => exact cls_row h f
theorem cl_18 {g : Hp} (h1 : g 0 1 = 3 ∧ g 0 2 = 9 ∧ g 0 3 = 15 ∧ g 0 4 = 20) : Cl k8_18 g := by
  intro p s hp
  have hl : k8_18.length = 100 := rfl
  rw [hl]
  by_cases y : p = 0
  · subst y
    rw [k8_at.1] at hp
    cases hp
    intro k c hk
    have hk13 : k < 13 := (List.getElem?_eq_some_iff.mp hk).1
    rcases (by omega : k = 0 ∨ k = 1 ∨ k = 2 ∨ k = 3 ∨ k = 4 ∨ k = 5 ∨ k = 6 ∨ k = 7 ∨ k = 8 ∨ k = 9 ∨ k = 10 ∨ k = 11 ∨ k = 12) with rfl | rfl | rfl | rfl | rfl | rfl | rfl | rfl | rfl | rfl | rfl | rfl | rfl <;> cases hk
    · exact Or.inr (Or.inr (by decide))
    · exact Or.inr (Or.inl ⟨rfl, by rw [h1.1]; decide⟩)
    · exact Or.inr (Or.inl ⟨rfl, by rw [h1.2.1]; decide⟩)
    · exact Or.inr (Or.inl ⟨rfl, by rw [h1.2.2.1]; decide⟩)
    · exact Or.inr (Or.inl ⟨rfl, by rw [h1.2.2.2]; decide⟩)
    · exact Or.inr (Or.inr (by decide))
    · exact Or.inl rfl
    · exact Or.inr (Or.inr (by decide))
    · exact Or.inr (Or.inr (by decide))
    · exact Or.inr (Or.inr (by decide))
    · exact Or.inr (Or.inr (by decide))
    · exact Or.inr (Or.inr (by decide))
    · exact Or.inr (Or.inr (by decide))
  · have hm : s ∈ k8_18.drop 1 := by
      obtain ⟨q, rfl⟩ : ∃ q, p = q + 1 := ⟨p - 1, by omega⟩
      have e : (k8_18.drop 1)[q]? = some s := by rw [List.getElem?_drop, Nat.add_comm]; exact hp
      exact List.mem_of_getElem? e
    have ho : (k8_18.drop 1).all (okS 100) = true := by decide +kernel
    exact okS_cls (List.all_eq_true.mp ho s hm) _
/-- the model's cells when it is made, ahead of beginNow -/
def h9 (g : Hp) : Hp := ap ops9 (nH g 100 cs9_0)
theorem h9_lo {g : Hp} {p : Nat} (hp : p < 100) : h9 g p = g p := by
  unfold h9
  rw [ap_lo hp ops9 _ ops9_hi, nH_ne (by omega)]
theorem h9_f {g : Hp} {j : Nat} (hl : look ops9 100 j none = none) (hj : cs9_0.getD j 9 ≠ 1) : h9 g 100 j = 0 := by
  unfold h9
  rw [ap_lk, hl]
  exact nH_at hj
theorem h9_v {g : Hp} {p j : Nat} {v : Int} (hl : look ops9 p j none = some v) : h9 g p j = v := by
  unfold h9
  rw [ap_lk, hl]
  rfl
theorem lk_z (j : Nat) : look ops9 101 j none = some 0 ∧ look ops9 104 j none = some 0 ∧ look ops9 108 j none = some 0 ∧ look ops9 124 j none = some 0 := ⟨rfl, rfl, rfl, rfl⟩
set_option maxRecDepth 100000 in
theorem h9_pv {g : Hp} : PV (h9 g) := by
  have a10 : h9 g 100 10 = 5 := h9_v (by decide +kernel)
  have a11 : h9 g 100 11 = 5 := h9_v (by decide +kernel)
  have a12 : h9 g 100 12 = 0 := h9_f (by decide +kernel) (by decide +kernel)
  have a28 : h9 g 100 28 = 0 := h9_f (by decide +kernel) (by decide +kernel)
  have a39 : h9 g 100 39 = 1 := h9_v (by decide +kernel)
  have a41 : h9 g 100 41 = 0 := h9_f (by decide +kernel) (by decide +kernel)
  have b0 : h9 g 102 0 = 6 := h9_v (by decide +kernel)
  have b1 : h9 g 102 1 = 2 := h9_v (by decide +kernel)
  have b2 : h9 g 102 2 = 10 := h9_v (by decide +kernel)
  have b3 : h9 g 102 3 = 4 := h9_v (by decide +kernel)
  have b4 : h9 g 102 4 = 1 := h9_v (by decide +kernel)
  have b5 : h9 g 102 5 = 0 := h9_v (by decide +kernel)
  have b6 : h9 g 102 6 = 4 := h9_v (by decide +kernel)
  have b7 : h9 g 102 7 = 6 := h9_v (by decide +kernel)
  have b8 : h9 g 102 8 = 1 := h9_v (by decide +kernel)
  have t0 : h9 g 112 0 = -1 := h9_v (by decide +kernel)
  have r0 : h9 g 114 0 = 1 := h9_v (by decide +kernel)
  have r1 : h9 g 114 1 = 3 := h9_v (by decide +kernel)
  have l0 : h9 g 115 0 = 4 := h9_v (by decide +kernel)
  have l1 : h9 g 115 1 = 8 := h9_v (by decide +kernel)
  have c0 : ∀ c, h9 g 104 c = 0 := fun c => h9_v (lk_z c).2.1
  have c1 : ∀ c, h9 g 108 c = 0 := fun c => h9_v (lk_z c).2.2.1
  unfold PV
  rw [a10, a11, a12, a28, a39, a41, b0, b1, b2, b3, b4, b5, b6, b7, b8, t0, r0, r1, l0, l1]
  refine ⟨by decide, by decide, by decide, by decide, by decide, by decide, by decide, by decide, by decide, by decide, by decide, by decide, by decide, fun k hk => absurd hk (Nat.not_lt_zero _), Or.inl rfl, by decide, by decide, by decide, fun p hp => absurd hp (Nat.not_lt_zero _), by decide, fun k hk => absurd hk (Nat.not_lt_zero _), fun c _ => ?_⟩
  rw [c0, c1]
  exact ⟨by decide, Or.inl rfl⟩
set_option maxRecDepth 100000 in
/-- both are made: the relation holds -/
theorem rel_0 {h g : Hp} (F : F8 h g) (h06 : h 0 6 = 0) : ∃ z, g_X9_beginNow (h9 g) = some z ∧ Rel 0 z := by
  obtain ⟨⟨f1, f2, f3, f4, f6⟩, ⟨t1, t6, t7, t2⟩, ⟨b4, b5, b35, b36, b8⟩, ⟨s4, s5, s16⟩, k35, ⟨y0, y1, y2⟩, r64, r5, rb⟩ := F
  have hv := h9_pv (g := g)
  obtain ⟨z, e1, e2, e3, e4⟩ := m_beginNow hv
  refine ⟨z, e1, ?_⟩
  have lo : ∀ p, p < 100 → z p = g p := fun p hp => by rw [e2 p (by omega), h9_lo hp]
  have te : TE (h9 g) z := TE.of2 (fun p _ _ _ => by
    by_cases y : p = 121
    · omega
    · exact e2 p y) (fun k _ _ => by rw [e2 100 (by omega)])
  have hvz : PV z := hv.te te
  have hi : ∀ p, p ≠ 121 → z p = h9 g p := e2
  have a : ∀ j, z 100 j = h9 g 100 j := fun j => by rw [e2 100 (by omega)]
  have a1 : z 100 1 = 0 := by rw [a]; exact h9_f (by decide +kernel) (by decide +kernel)
  have a8 : z 100 8 = 0 := by rw [a]; exact h9_f (by decide +kernel) (by decide +kernel)
  have a9 : z 100 9 = -1 := by rw [a]; exact h9_v (by decide +kernel)
  have a10 : z 100 10 = 5 := by rw [a]; exact h9_v (by decide +kernel)
  have a11 : z 100 11 = 5 := by rw [a]; exact h9_v (by decide +kernel)
  have a12 : z 100 12 = 0 := by rw [a]; exact h9_f (by decide +kernel) (by decide +kernel)
  have a13 : z 100 13 = 0 := by rw [a]; exact h9_f (by decide +kernel) (by decide +kernel)
  have a28 : z 100 28 = 0 := by rw [a]; exact h9_f (by decide +kernel) (by decide +kernel)
  have a29 : z 100 29 = 0 := by rw [a]; exact h9_f (by decide +kernel) (by decide +kernel)
  have a39 : z 100 39 = 1 := by rw [a]; exact h9_v (by decide +kernel)
  have a41 : z 100 41 = 0 := by rw [a]; exact h9_f (by decide +kernel) (by decide +kernel)
  have a51 : z 100 51 = 0 := by rw [a]; exact h9_f (by decide +kernel) (by decide +kernel)
  have a52 : z 100 52 = 0 := by rw [a]; exact h9_f (by decide +kernel) (by decide +kernel)
  have a53 : z 100 53 = 0 := by rw [a]; exact h9_f (by decide +kernel) (by decide +kernel)
  have v : ∀ {p j : Nat} {x : Int}, p ≠ 121 → look ops9 p j none = some x → z p j = x := fun {p j x} hp hl => by rw [hi p hp]; exact h9_v hl
  have law : ∀ k : Nat, k < 9 → z 4 (2 + k) = z 102 k := fun k hk => by
    rw [lo 4 (by omega), b4 (2 + k) (by omega)]
    rcases (by omega : k = 0 ∨ k = 1 ∨ k = 2 ∨ k = 3 ∨ k = 4 ∨ k = 5 ∨ k = 6 ∨ k = 7 ∨ k = 8) with rfl | rfl | rfl | rfl | rfl | rfl | rfl | rfl | rfl
    · rw [v (p := 102) (j := 0) (x := 6) (by decide) (by decide +kernel)]; decide +kernel
    · rw [v (p := 102) (j := 1) (x := 2) (by decide) (by decide +kernel)]; decide +kernel
    · rw [v (p := 102) (j := 2) (x := 10) (by decide) (by decide +kernel)]; decide +kernel
    · rw [v (p := 102) (j := 3) (x := 4) (by decide) (by decide +kernel)]; decide +kernel
    · rw [v (p := 102) (j := 4) (x := 1) (by decide) (by decide +kernel)]; decide +kernel
    · rw [v (p := 102) (j := 5) (x := 0) (by decide) (by decide +kernel)]; decide +kernel
    · rw [v (p := 102) (j := 6) (x := 4) (by decide) (by decide +kernel)]; decide +kernel
    · rw [v (p := 102) (j := 7) (x := 6) (by decide) (by decide +kernel)]; decide +kernel
    · rw [v (p := 102) (j := 8) (x := 1) (by decide) (by decide +kernel)]; decide +kernel
  have z104 : ∀ c, z 104 c = 0 := fun c => v (by decide) (lk_z c).2.1
  have z108 : ∀ c, z 108 c = 0 := fun c => v (by decide) (lk_z c).2.2.1
  have bg : BG z (z 121) := BG.te te e3
  have z288 : z 121 288 = 1 := by rw [e4]; exact h9_v (by decide +kernel)
  refine ⟨hvz, ⟨3, Or.inl rfl, ⟨?_, ?_⟩, ⟨⟨?_, ?_, fun k hk => law k hk⟩, fun w hw => ?_, ?_, fun k hk => ?_, fun k hk => ?_⟩, ?_⟩, ⟨15, Or.inl rfl, ⟨?_, ?_⟩, ⟨fun k hk => ?_, ⟨?_, ?_, ?_, ?_, ?_⟩, ?_, fun k hk => ?_, fun _ => ?_⟩, ?_⟩, ⟨?_, fun p hp => ?_⟩, ⟨?_, ?_, ?_⟩, fun j hj => ⟨?_, Or.inl ?_⟩, ⟨?_, ?_, fun k hk => ?_⟩, ⟨?_, ?_⟩, ⟨?_, ?_, ?_⟩, ⟨?_, ?_, ?_⟩, ⟨?_, ?_, ?_⟩, fun k hk => ?_, fun k hk => ?_⟩
  · rw [lo 0 (by omega)]; exact f1
  · rw [lo 0 (by omega)]; exact f2
  · rw [lo 4 (by omega), a10, b4 0 (by omega)]; decide +kernel
  · rw [lo 4 (by omega), a11, b4 1 (by omega)]; decide +kernel
  · refine str_eq hvz hw ?_
    rw [← law 6 (by omega), ← law 7 (by omega), ← law 8 (by omega), lo 4 (by omega), lo 8 (by omega)]
    exact b8 w hw
  · rw [lo 3 (by omega), a12]; exact b35
  · rw [a12] at hk; exact absurd hk (Nat.not_lt_zero _)
  · rw [lo 5 (by omega), lo 6 (by omega), z104, z108]; exact b5 k hk
  · rw [lo 3 (by omega), a13]; exact b36
  · rw [lo 0 (by omega)]; exact f3
  · rw [lo 0 (by omega)]; exact f4
  · rw [lo 16 (by omega), s16 k (by omega)]
    rcases (by omega : k = 0 ∨ k = 1 ∨ k = 2 ∨ k = 3) with rfl | rfl | rfl | rfl
    · rw [v (p := 112) (j := 0) (x := -1) (by decide) (by decide +kernel)]; decide +kernel
    · rw [v (p := 112) (j := 1) (x := -1) (by decide) (by decide +kernel)]; decide +kernel
    · rw [v (p := 112) (j := 2) (x := -1) (by decide) (by decide +kernel)]; decide +kernel
    · rw [v (p := 112) (j := 3) (x := -1) (by decide) (by decide +kernel)]; decide +kernel
  · rw [lo 16 (by omega), s16 4 (by omega), v (p := 114) (j := 0) (x := 1) (by decide) (by decide +kernel)]; decide +kernel
  · rw [lo 16 (by omega), s16 5 (by omega), v (p := 114) (j := 1) (x := 3) (by decide) (by decide +kernel)]; decide +kernel
  · rw [lo 16 (by omega), s16 6 (by omega), v (p := 115) (j := 0) (x := 4) (by decide) (by decide +kernel)]; decide +kernel
  · rw [lo 16 (by omega), s16 7 (by omega), v (p := 115) (j := 1) (x := 8) (by decide) (by decide +kernel)]; decide +kernel
  · rw [lo 16 (by omega), s16 8 (by omega), a39]; decide +kernel
  · rw [lo 15 (by omega), a28]; exact s4
  · rw [a28] at hk; exact absurd hk (Nat.not_lt_zero _)
  · exact v (p := 112) (j := 2) (x := -1) (by decide) (by decide +kernel)
  · rw [lo 15 (by omega), a29]; exact s5
  · rw [lo 0 (by omega), f6, h06, a41]
  · rw [a41] at hp; exact absurd hp (Nat.not_lt_zero _)
  · exact BG.iv hvz bg (by omega) ⟨by rw [z288]; decide, by rw [z288]; decide⟩
  · refine BG.rs hvz bg (fun k hk => ?_) (fun k hk => ?_) ?_ ?_
    · obtain ⟨x1, x2, x3, x4⟩ := r64 k hk
      rw [lo 27 (by omega), lo 30 (by omega), lo 28 (by omega), lo 29 (by omega), x1, x2, x3, x4, ← law 0 (by omega), ← law 3 (by omega), z104, z108, lo 4 (by omega), (b5 k hk).1, (b5 k hk).2]
      exact ⟨rfl, rfl, rfl, rfl⟩
    · rw [lo 31 (by omega)]; exact r5 k hk
    · obtain ⟨q7, q9, q10, q11, q12, q13, q14, q15, -⟩ := rb
      rw [lo 26 (by omega)]
      exact ⟨q7, q9, q10, q11, q12, q13, q14, q15⟩
    · rw [lo 26 (by omega), z288]; exact rb.2.2.2.2.2.2.2.2
  · exact bg.2.1.1
  · rw [lo 35 (by omega), k35, v (p := 124) (j := j) (x := 0) (by decide) (lk_z j).2.2.2]
  · rw [lo 35 (by omega)]; exact k35 j
  · rw [lo 1 (by omega), a1]; exact t1
  · rw [lo 1 (by omega), t1]; decide
  · rw [lo 2 (by omega), t2, v (p := 101) (j := k) (x := 0) (by decide) (lk_z k).1]
    exact ⟨by decide, by decide⟩
  · rw [lo 1 (by omega), a8]; exact t6
  · rw [lo 1 (by omega), a9]; exact t7
  · rw [lo 36 (by omega), a51]; exact y0
  · rw [lo 36 (by omega), y0]; decide
  · rw [lo 36 (by omega), y0]; decide
  · rw [lo 36 (by omega), a52]; exact y1
  · rw [lo 36 (by omega), y1]; decide
  · rw [lo 36 (by omega), y1]; decide
  · rw [lo 36 (by omega), a53]; exact y2
  · rw [lo 36 (by omega), y2]; decide
  · rw [lo 36 (by omega), y2]; decide
  · rw [lo 36 (by omega), y0] at hk; exact absurd hk (Nat.not_lt_zero _)
  · rw [lo 36 (by omega), y1] at hk; exact absurd hk (Nat.not_lt_zero _)
