/-! THE RELATION between the class's cells and the model's -/
/-- what is told, and nothing else -/
def tp (P : Hp) : Hp := fun p k =>
  if p = 100 then (if k = 10 then P 100 k else if k = 11 then P 100 k else if k = 12 then P 100 k else if k = 28 then P 100 k else if k = 39 then P 100 k else if k = 41 then P 100 k else 0) else
  if p = 102 then P p k else if p = 104 then P p k else if p = 106 then P p k else if p = 108 then P p k else if p = 110 then P p k else
  if p = 112 then P p k else if p = 114 then P p k else if p = 115 then P p k else if p = 118 then P p k else if p = 119 then P p k else if p = 120 then P p k else 0
theorem tp_100 (P : Hp) : (tp P 100 10 = P 100 10 ∧ tp P 100 11 = P 100 11 ∧ tp P 100 12 = P 100 12 ∧ tp P 100 28 = P 100 28 ∧ tp P 100 39 = P 100 39 ∧ tp P 100 41 = P 100 41) := by
  unfold tp; exact ⟨rfl, rfl, rfl, rfl, rfl, rfl⟩
theorem tp_row (P : Hp) (p k : Nat) (hp : p = 102 ∨ p = 104 ∨ p = 106 ∨ p = 108 ∨ p = 110 ∨ p = 112 ∨ p = 114 ∨ p = 115 ∨ p = 118 ∨ p = 119 ∨ p = 120) : tp P p k = P p k := by
  unfold tp
  rcases hp with rfl | rfl | rfl | rfl | rfl | rfl | rfl | rfl | rfl | rfl | rfl <;> rfl
/-- equal in what is told -/
def TE (P Q : Hp) : Prop := (Q 100 10 = P 100 10 ∧ Q 100 11 = P 100 11 ∧ Q 100 12 = P 100 12 ∧ Q 100 28 = P 100 28 ∧ Q 100 39 = P 100 39 ∧ Q 100 41 = P 100 41) ∧
  (Q 102 = P 102 ∧ Q 104 = P 104 ∧ Q 106 = P 106 ∧ Q 108 = P 108 ∧ Q 110 = P 110) ∧ (Q 112 = P 112 ∧ Q 114 = P 114 ∧ Q 115 = P 115 ∧ Q 118 = P 118 ∧ Q 119 = P 119 ∧ Q 120 = P 120)
theorem TE.cn {P Q : Hp} (e : TE P Q) : cN Q = cN P ∧ rN Q = rN P ∧ nN Q = nN P := by
  obtain ⟨⟨e1, e2, e3, e4, e5, e6⟩, -⟩ := e
  unfold nN cN rN
  rw [e1, e2]
  exact ⟨rfl, rfl, rfl⟩
theorem PV.te {P Q : Hp} (e : TE P Q) (h : PV P) : PV Q := by
  obtain ⟨-, -, en⟩ := e.cn
  obtain ⟨⟨e1, e2, e3, e4, e5, e6⟩, ⟨f1, f2, f3, f4, f5⟩, g1, g2, g3, g4, g5, g6⟩ := e
  unfold PV actAtP at h ⊢
  rw [en, e1, e2, e3, e4, e5, e6, f1, f2, f3, f4, f5, g1, g2, g3, g4, g5, g6]
  exact h
theorem IV.te {P Q : Hp} {B T : Int} {s : Nat → Int} (e : TE P Q) (h : IV P B T s) : IV Q B T s := by
  obtain ⟨-, -, en⟩ := e.cn
  obtain ⟨⟨e1, e2, e3, e4, e5, e6⟩, ⟨f1, f2, f3, f4, f5⟩, g1, g2, g3, g4, g5, g6⟩ := e
  unfold IV CV SV FV HV at h ⊢
  rw [en, e6, f1, g4, g5]
  exact h
theorem RS.te {P Q h : Hp} {b : Nat} {s : Nat → Int} (e : TE P Q) (h0 : RS P h b s) : RS Q h b s := by
  obtain ⟨ec, er, en⟩ := e.cn
  obtain ⟨⟨e1, e2, e3, e4, e5, e6⟩, ⟨f1, f2, f3, f4, f5⟩, g1, g2, g3, g4, g5, g6⟩ := e
  unfold RS RS0 SE HR Settled quietP lowP candP holdsP strP at h0 ⊢
  rw [en, ec, e3, f1, f2, f3, g4, g5]
  exact h0
theorem PB.te {P Q h : Hp} {c : Nat} (e : TE P Q) (h0 : PB P h c) : PB Q h c := by
  obtain ⟨⟨e1, e2, e3, e4, e5, e6⟩, ⟨f1, f2, f3, f4, f5⟩, g1, g2, g3, g4, g5, g6⟩ := e
  unfold PB strP at h0 ⊢
  rw [e1, e2, e3, f1, f2, f3, f4]
  exact h0
theorem PS.te {P Q h : Hp} {v : Nat} (e : TE P Q) (h0 : PS P h v) : PS Q h v := by
  obtain ⟨⟨e1, e2, e3, e4, e5, e6⟩, ⟨f1, f2, f3, f4, f5⟩, g1, g2, g3, g4, g5, g6⟩ := e
  unfold PS at h0 ⊢
  rw [e4, e5, f5, g1, g2, g3]
  exact h0
theorem PL.te {P Q h : Hp} {p : Nat} (e : TE P Q) (h0 : PL P h p) : PL Q h p := by
  obtain ⟨⟨e1, e2, e3, e4, e5, e6⟩, ⟨f1, f2, f3, f4, f5⟩, g1, g2, g3, g4, g5, g6⟩ := e
  unfold PL actAtP at h0 ⊢
  rw [g4, g5, g6]
  exact h0
theorem TE.of {P Q : Hp} (e : ∀ p, 100 ≤ p → p ≤ 120 → Q p = P p) : TE P Q := by
  unfold TE
  rw [e 100 (by omega) (by omega), e 102 (by omega) (by omega), e 104 (by omega) (by omega), e 106 (by omega) (by omega), e 108 (by omega) (by omega), e 110 (by omega) (by omega), e 112 (by omega) (by omega), e 114 (by omega) (by omega), e 115 (by omega) (by omega), e 118 (by omega) (by omega), e 119 (by omega) (by omega), e 120 (by omega) (by omega)]
  exact ⟨⟨rfl, rfl, rfl, rfl, rfl, rfl⟩, ⟨rfl, rfl, rfl, rfl, rfl⟩, rfl, rfl, rfl, rfl, rfl, rfl⟩
theorem TE.of2 {P Q : Hp} (e : ∀ p, 101 ≤ p → p ≤ 120 → p ≠ 101 → Q p = P p) (e0 : ∀ k, 10 ≤ k → k ≤ 41 → Q 100 k = P 100 k) : TE P Q := by
  unfold TE
  rw [e0 10 (by omega) (by omega), e0 11 (by omega) (by omega), e0 12 (by omega) (by omega), e0 28 (by omega) (by omega), e0 39 (by omega) (by omega), e0 41 (by omega) (by omega), e 102 (by omega) (by omega) (by omega), e 104 (by omega) (by omega) (by omega), e 106 (by omega) (by omega) (by omega), e 108 (by omega) (by omega) (by omega), e 110 (by omega) (by omega) (by omega), e 112 (by omega) (by omega) (by omega), e 114 (by omega) (by omega) (by omega), e 115 (by omega) (by omega) (by omega), e 118 (by omega) (by omega) (by omega), e 119 (by omega) (by omega) (by omega), e 120 (by omega) (by omega) (by omega)]
  exact ⟨⟨rfl, rfl, rfl, rfl, rfl, rfl⟩, ⟨rfl, rfl, rfl, rfl, rfl⟩, rfl, rfl, rfl, rfl, rfl, rfl⟩
theorem TE.rf {P : Hp} : TE P P := TE.of (fun _ _ _ => rfl)
theorem IV.mono {P : Hp} {B T T2 : Int} {s : Nat → Int} (h : IV P B T s) (hT : T ≤ T2) : IV P B T2 s := by
  obtain ⟨h1, h2, ⟨h3, h4⟩, h5⟩ := h
  exact ⟨h1, h2, ⟨⟨h3.1, by have := h3.2; omega⟩, h4⟩, h5⟩
theorem IV.monoB {P : Hp} {B B2 T : Int} {s : Nat → Int} (h : IV P B T s) (hB : B ≤ B2) : IV P B2 T s := by
  obtain ⟨h1, ⟨h2, h2b⟩, h5⟩ := h
  exact ⟨h1, ⟨h2, by omega⟩, h5⟩
theorem RS.hp {P h h2 : Hp} {b : Nat} {s : Nat → Int} (e : ∀ p, b ≤ p → p ≤ b + 7 → h2 p = h p) (h0 : RS P h b s) : RS P h2 b s := by
  unfold RS RS0 SE HR at h0 ⊢
  rw [e b (by omega) (by omega), e (b + 1) (by omega) (by omega), e (b + 2) (by omega) (by omega), e (b + 3) (by omega) (by omega), e (b + 4) (by omega) (by omega), e (b + 5) (by omega) (by omega), e (b + 6) (by omega) (by omega), e (b + 7) (by omega) (by omega)]
  exact h0
theorem PB.hp {P h h2 : Hp} {c : Nat} (e : ∀ p, c ≤ p → p ≤ c + 5 → h2 p = h p) (h0 : PB P h c) : PB P h2 c := by
  unfold PB at h0 ⊢
  rw [e c (by omega) (by omega), e (c + 1) (by omega) (by omega), e (c + 2) (by omega) (by omega), e (c + 3) (by omega) (by omega), e (c + 4) (by omega) (by omega), e (c + 5) (by omega) (by omega)]
  exact h0
theorem PS.hp {P h h2 : Hp} {v : Nat} (e : ∀ p, v ≤ p → p ≤ v + 4 → h2 p = h p) (h0 : PS P h v) : PS P h2 v := by
  unfold PS at h0 ⊢
  rw [e v (by omega) (by omega), e (v + 1) (by omega) (by omega), e (v + 2) (by omega) (by omega), e (v + 3) (by omega) (by omega), e (v + 4) (by omega) (by omega)]
  exact h0
theorem PL.hp {P h h2 : Hp} {p : Nat} (e : ∀ q, 61 + 5 * p ≤ q → q ≤ 61 + 5 * p + 4 → h2 q = h q) (h0 : PL P h p) : PL P h2 p := by
  unfold PL at h0 ⊢
  rw [e (61 + 5 * p) (by omega) (by omega), e (61 + 5 * p + 1) (by omega) (by omega), e (61 + 5 * p + 2) (by omega) (by omega), e (61 + 5 * p + 3) (by omega) (by omega), e (61 + 5 * p + 4) (by omega) (by omega)]
  exact h0
def slotR (h : Hp) (j : Nat) : Nat → Int := fun k => h 123 (289 * j + k)
def BchR (h : Hp) (c : Nat) : Prop := (c = 3 ∨ c = 9) ∧ (h 0 1 = (c : Int) ∧ h 0 2 = 12 - (c : Int)) ∧ PB h h c ∧ h c 6 = h 100 13
def SeaR (h : Hp) (v : Nat) : Prop := (v = 15 ∨ v = 20) ∧ (h 0 3 = (v : Int) ∧ h 0 4 = 35 - (v : Int)) ∧ PS h h v ∧ h v 5 = h 100 29
def PlsR (h : Hp) : Prop := h 0 6 = h 100 41 ∧ ∀ p : Nat, p < (h 100 41).toNat → PL h h p
def NowR (n : Nat) (h : Hp) : Prop := IV h 6336 (360 * n) (h 121) ∧ RS h h 26 (h 121) ∧ h 121 268 = h 100 12
def SltR (n : Nat) (h : Hp) (j : Nat) : Prop := h 35 j = h 124 j ∧ (h 35 j = 0 ∨ (h 35 j = 1 ∧ IV h 6336 (360 * n) (slotR h j) ∧ RS h h (76 + 8 * j) (slotR h j) ∧ slotR h j 268 = h 100 12))
def BT (x y : Int) : Prop := (0 ≤ x ∧ x ≤ 255) ∧ y = (if x < 128 then x else x - 256)
def TapR (h : Hp) : Prop := h 1 1 = h 100 1 ∧ (0 ≤ h 1 1 ∧ h 1 1 ≤ 900) ∧ ∀ k : Nat, k < 900 → BT (h 2 k) (h 101 k)
def FltR (h : Hp) : Prop := h 1 6 = h 100 8 ∧ h 1 7 = h 100 9
def TriR (h : Hp) : Prop := (h 36 0 = h 100 51 ∧ 0 ≤ h 36 0 ∧ h 36 0 ≤ 16) ∧ (h 36 1 = h 100 52 ∧ 0 ≤ h 36 1 ∧ h 36 1 ≤ 20) ∧ (h 36 2 = h 100 53 ∧ 0 ≤ h 36 2 ∧ h 36 2 ≤ 999) ∧
  (∀ k : Nat, k < (h 36 0).toNat → (h 37 k = h 129 k ∧ h 38 k = h 126 k ∧ h 39 k = h 127 k ∧ h 40 k = h 128 k) ∧ (0 ≤ h 37 k ∧ h 37 k ≤ 999) ∧ (1 ≤ h 38 k ∧ h 38 k ≤ 15) ∧ (1 ≤ h 39 k ∧ h 39 k ≤ 30) ∧ (h 40 k = 0 ∨ h 40 k = 1) ∧ h 37 k ≤ h 36 2) ∧
  (∀ k : Nat, k < (h 36 1).toNat → (h 41 k = h 132 k ∧ h 42 k = h 130 k ∧ h 43 k = h 131 k) ∧ (0 ≤ h 41 k ∧ h 41 k ≤ 999) ∧ (0 ≤ h 42 k ∧ h 42 k < h 36 0) ∧ (h 43 k = 0 ∨ h 43 k = 1) ∧ h 37 (h 42 k).toNat ≤ h 41 k)
def Rel (n : Nat) (h : Hp) : Prop := PV h ∧ (∃ c, BchR h c) ∧ (∃ v, SeaR h v) ∧ PlsR h ∧ NowR n h ∧ (∀ j, j < 3 → SltR n h j) ∧ TapR h ∧ FltR h ∧ TriR h
theorem BchR.mv {h h2 : Hp} {c : Nat} (r : BchR h c) (e : TE h h2) (e0 : ∀ k, k ≤ 4 → h2 0 k = h 0 k) (f : ∀ p, 3 ≤ p → p ≤ 14 → h2 p = h p) (g : h2 100 13 = h 100 13) : BchR h2 c := by
  obtain ⟨r1, r2, r3, r4⟩ := r
  refine ⟨r1, ?_, ?_, ?_⟩
  · rw [e0 1 (by omega), e0 2 (by omega)]; exact r2
  · exact (r3.te e).hp (fun p _ _ => f p (by omega) (by omega))
  · rw [f c (by omega) (by omega), g]; exact r4
theorem SeaR.mv {h h2 : Hp} {v : Nat} (r : SeaR h v) (e : TE h h2) (e0 : ∀ k, k ≤ 4 → h2 0 k = h 0 k) (f : ∀ p, 15 ≤ p → p ≤ 24 → h2 p = h p) (g : h2 100 29 = h 100 29) : SeaR h2 v := by
  obtain ⟨r1, r2, r3, r4⟩ := r
  refine ⟨r1, ?_, ?_, ?_⟩
  · rw [e0 3 (by omega), e0 4 (by omega)]; exact r2
  · exact (r3.te e).hp (fun p _ _ => f p (by omega) (by omega))
  · rw [f v (by omega) (by omega), g]; exact r4
theorem PlsR.mv {h h2 : Hp} (hv : PV h) (r : PlsR h) (e : TE h h2) (e0 : h2 0 6 = h 0 6) (f : ∀ p, 61 ≤ p → p ≤ 75 → h2 p = h p) : PlsR h2 := by
  obtain ⟨r1, r2⟩ := r
  have hpl := (pv_plan hv).1
  have e41 := e.1.2.2.2.2.2
  refine ⟨by rw [e0, e41]; exact r1, fun p hp => ?_⟩
  rw [e41] at hp
  exact ((r2 p hp).te e).hp (fun q _ _ => f q (by omega) (by omega))
theorem NowR.mv {n n2 : Nat} {h h2 : Hp} (r : NowR n h) (hn : n ≤ n2) (e : TE h h2) (f : ∀ p, 26 ≤ p → p ≤ 33 → h2 p = h p) (g : h2 121 = h 121) : NowR n2 h2 := by
  obtain ⟨r1, r2, r3⟩ := r
  refine ⟨?_, ?_, ?_⟩
  · rw [g]; exact (r1.te e).mono (by omega)
  · rw [g]; exact (r2.te e).hp (fun p _ _ => f p (by omega) (by omega))
  · rw [g, e.1.2.2.1]; exact r3
theorem SltR.mv {n n2 j : Nat} {h h2 : Hp} (r : SltR n h j) (hj : j < 3) (hn : n ≤ n2) (e : TE h h2) (f : ∀ p, 76 ≤ p → p ≤ 99 → h2 p = h p) (g : h2 123 = h 123 ∧ h2 124 = h 124 ∧ h2 35 = h 35) : SltR n2 h2 j := by
  obtain ⟨r1, r2⟩ := r
  have e1 : slotR h2 j = slotR h j := by unfold slotR; rw [g.1]
  refine ⟨by rw [g.2.1, g.2.2]; exact r1, ?_⟩
  rw [g.2.2, e1]
  rcases r2 with q | ⟨q1, q2, q3, q4⟩
  · exact Or.inl q
  · exact Or.inr ⟨q1, (q2.te e).mono (by omega), (q3.te e).hp (fun p _ _ => f p (by omega) (by omega)), by rw [e.1.2.2.1]; exact q4⟩
theorem TapR.mv {h h2 : Hp} (r : TapR h) (f : h2 1 1 = h 1 1 ∧ h2 2 = h 2 ∧ h2 100 1 = h 100 1 ∧ h2 101 = h 101) : TapR h2 := by
  unfold TapR at r ⊢
  rw [f.1, f.2.1, f.2.2.1, f.2.2.2]
  exact r
theorem FltR.mv {h h2 : Hp} (r : FltR h) (f : h2 1 6 = h 1 6 ∧ h2 1 7 = h 1 7 ∧ h2 100 8 = h 100 8 ∧ h2 100 9 = h 100 9) : FltR h2 := by
  unfold FltR at r ⊢
  rw [f.1, f.2.1, f.2.2.1, f.2.2.2]
  exact r
theorem TriR.mv {h h2 : Hp} (r : TriR h) (f : ∀ p, 36 ≤ p → p ≤ 43 → h2 p = h p) (g : ∀ p, 126 ≤ p → p ≤ 132 → h2 p = h p) (e : h2 100 51 = h 100 51 ∧ h2 100 52 = h 100 52 ∧ h2 100 53 = h 100 53) : TriR h2 := by
  unfold TriR at r ⊢
  rw [f 36 (by omega) (by omega), f 37 (by omega) (by omega), f 38 (by omega) (by omega), f 39 (by omega) (by omega), f 40 (by omega) (by omega), f 41 (by omega) (by omega), f 42 (by omega) (by omega), f 43 (by omega) (by omega), g 126 (by omega) (by omega), g 127 (by omega) (by omega), g 128 (by omega) (by omega), g 129 (by omega) (by omega), g 130 (by omega) (by omega), g 131 (by omega) (by omega), g 132 (by omega) (by omega), e.1, e.2.1, e.2.2]
  exact r
/-- nothing of the relation has moved, but what a call uses for itself -/
theorem Rel.quiet {n n2 : Nat} {h h2 : Hp} (r : Rel n h) (hn : n ≤ n2) (f : ∀ p, p ≤ 43 → h2 p = h p) (f2 : ∀ p, 61 ≤ p → p ≤ 121 → h2 p = h p) (g : ∀ p, p = 123 ∨ p = 124 ∨ (126 ≤ p ∧ p ≤ 132) → h2 p = h p) : Rel n2 h2 := by
  obtain ⟨r0, ⟨c, r1⟩, ⟨v, r2⟩, r3, r4, r5, r6, r7, r8⟩ := r
  have e : TE h h2 := TE.of (fun p _ _ => f2 p (by omega) (by omega))
  have e100 : h2 100 = h 100 := f2 100 (by omega) (by omega)
  have e0 : h2 0 = h 0 := f 0 (by omega)
  have e1 : h2 1 = h 1 := f 1 (by omega)
  refine ⟨r0.te e, ⟨c, r1.mv e (fun k _ => by rw [e0]) (fun p _ _ => f p (by omega)) (by rw [e100])⟩, ⟨v, r2.mv e (fun k _ => by rw [e0]) (fun p _ _ => f p (by omega)) (by rw [e100])⟩, r3.mv r0 e (by rw [e0]) (fun p _ _ => f2 p (by omega) (by omega)), r4.mv hn e (fun p _ _ => f p (by omega)) (f2 121 (by omega) (by omega)),
    fun j hj => (r5 j hj).mv hj hn e (fun p _ _ => f2 p (by omega) (by omega)) ⟨g 123 (by omega), g 124 (by omega), f 35 (by omega)⟩, r6.mv ⟨by rw [e1], f 2 (by omega), by rw [e100], f2 101 (by omega) (by omega)⟩, r7.mv ⟨by rw [e1], by rw [e1], by rw [e100], by rw [e100]⟩,
    r8.mv (fun p _ _ => f p (by omega)) (fun p _ _ => g p (by omega)) ⟨by rw [e100], by rw [e100], by rw [e100]⟩⟩
theorem Rel.next {n : Nat} {h : Hp} (r : Rel n h) : Rel (n + 1) h := r.quiet (by omega) (fun _ _ => rfl) (fun _ _ _ => rfl) (fun _ _ => rfl)
theorem Rel.pm {h : Hp} : PM h h := fun _ _ => rfl
