/-! THE CLASS: what its cells hold of a row (a shore at b), and of what is told (a beach at c, a sea at v) -/
def Settled (P : Hp) (s : Nat → Int) : Prop := ∀ c : Nat, c < nN P → quietP P s c
/-- the hands: what they did last -/
def HR (P h : Hp) (b : Nat) (s : Nat → Int) : Prop := s 275 ≠ -1 → ∀ i : Nat, i < (P 118 (s 275).toNat).toNat →
  (0 ≤ h (b + 6) i ∧ h (b + 6) i ≤ P 119 (4 * (s 275).toNat + i) ∧ s (276 + i) = (if h (b + 6) i < P 119 (4 * (s 275).toNat + i) then h (b + 6) i else 0)) ∧
  (P 102 5 = 0 → s (284 + i) = 0) ∧
  (P 102 5 ≠ 0 → (s (284 + i) = 1 ∧ h (b + 7) i = P 102 5 ∧ s (280 + i) = 0) ∨ (s (284 + i) = 0 ∧ h (b + 7) i = s (280 + i)))
def RS0 (P h : Hp) (b : Nat) (s : Nat → Int) : Prop :=
  (∀ c : Nat, c < nN P → h (b + 1) c = s c ∧ h (b + 2) c = s (64 + c) ∧ h (b + 3) c = s (128 + c) ∧ h (b + 4) c = s (192 + c)) ∧
  (h b 9 = s 270 ∧ h b 10 = s 269 ∧ h b 11 = s 271 ∧ h b 12 = s 272 ∧ h b 13 = s 273 ∧ h b 14 = s 274) ∧
  ((P 100 12 ≤ s 268) ∧ ∀ k : Nat, k < (P 100 12).toNat → h (b + 5) k = s (264 + k) ∧ s (256 + k) = P 106 k ∧ s (260 + k) = P 102 0 + P 104 (P 106 k).toNat) ∧
  (h b 7 = s 275 ∧ HR P h b s) ∧ h b 8 = s 288
def SE (P h : Hp) (b : Nat) (s : Nat → Int) : Prop := h b 15 = 0 ∨ (h b 15 = 1 ∧ Settled P s)
def RS (P h : Hp) (b : Nat) (s : Nat → Int) : Prop := RS0 P h b s ∧ SE P h b s
/-- a beach and a sea as they are told -/
def PB (P h : Hp) (c : Nat) : Prop :=
  (h (c + 1) 0 = P 100 10 ∧ h (c + 1) 1 = P 100 11 ∧ ∀ k : Nat, k < 9 → h (c + 1) (2 + k) = P 102 k) ∧
  (∀ w : Nat, w ≤ 16 → h (c + 5) w = strP P w) ∧ h c 5 = P 100 12 ∧ (∀ k : Nat, k < (P 100 12).toNat → h (c + 4) k = P 106 k) ∧
  (∀ k : Nat, k < 64 → h (c + 2) k = P 104 k ∧ h (c + 3) k = P 108 k)
def PS (P h : Hp) (v : Nat) : Prop :=
  (∀ k : Nat, k < 4 → h (v + 1) k = P 112 k) ∧ (h (v + 1) 4 = P 114 0 ∧ h (v + 1) 5 = P 114 1 ∧ h (v + 1) 6 = P 115 0 ∧ h (v + 1) 7 = P 115 1 ∧ h (v + 1) 8 = P 100 39) ∧
  h v 4 = P 100 28 ∧ (∀ k : Nat, k < (P 100 28).toNat → h (v + 2) k = P 110 (3 * k) ∧ h (v + 3) k = P 110 (3 * k + 1) ∧ h (v + 4) k = P 110 (3 * k + 2)) ∧
  (P 112 0 = -1 → P 112 2 = -1)
def PL (P h : Hp) (p : Nat) : Prop := h (61 + 5 * p) 4 = P 118 p ∧ ∀ i : Nat, i < (P 118 p).toNat → h (61 + 5 * p + 1) i = P 119 (4 * p + i) ∧
  ∀ k : Nat, k < (P 119 (4 * p + i)).toNat → h (61 + 5 * p + 2) (8 * i + k) = actAtP P p i k 0 ∧ h (61 + 5 * p + 3) (8 * i + k) = actAtP P p i k 1 ∧ h (61 + 5 * p + 4) (8 * i + k) = actAtP P p i k 2
/-- nothing outside the shore at b has moved -/
def Fr (b : Nat) (h h' : Hp) : Prop := ∀ p, p < b ∨ b + 8 ≤ p → h' p = h p
theorem Fr.rf {b : Nat} {h : Hp} : Fr b h h := fun _ _ => rfl
theorem Fr.tr {b : Nat} {h h1 h2 : Hp} (a : Fr b h h1) (c : Fr b h1 h2) : Fr b h h2 := fun p hp => (c p hp).trans (a p hp)
theorem Fr.set {b p k : Nat} {h : Hp} {x : Int} (hp : b ≤ p ∧ p < b + 8) : Fr b h (set2 h p k x) := fun q hq => set2_ne q (by omega)
theorem PB.fr {P h h' : Hp} {b c : Nat} (hb : PB P h c) (f : Fr b h h') (hs : c + 6 ≤ b ∨ b + 8 ≤ c) : PB P h' c := by
  unfold PB at hb ⊢
  rw [f (c + 1) (by omega), f (c + 5) (by omega), f c (by omega), f (c + 4) (by omega), f (c + 2) (by omega), f (c + 3) (by omega)]
  exact hb
theorem PS.fr {P h h' : Hp} {b v : Nat} (hb : PS P h v) (f : Fr b h h') (hs : v + 5 ≤ b ∨ b + 8 ≤ v) : PS P h' v := by
  unfold PS at hb ⊢
  rw [f (v + 1) (by omega), f (v + 2) (by omega), f v (by omega), f (v + 4) (by omega), f (v + 3) (by omega)]
  exact hb
theorem PL.fr {P h h' : Hp} {b p : Nat} (hb : PL P h p) (f : Fr b h h') (hs : 61 + 5 * p + 5 ≤ b ∨ b + 8 ≤ 61 + 5 * p) : PL P h' p := by
  unfold PL at hb ⊢
  rw [f (61 + 5 * p) (by omega), f (61 + 5 * p + 1) (by omega), f (61 + 5 * p + 2) (by omega), f (61 + 5 * p + 3) (by omega), f (61 + 5 * p + 4) (by omega)]
  exact hb
theorem quiet_congr {P : Hp} {s t : Nat → Int} {c : Nat} (hc : c < nN P) (hn : nN P ≤ 64) (hv : PV P) (e : ∀ k : Nat, k < nN P → t k = s k ∧ t (64 + k) = s (64 + k) ∧ t (128 + k) = s (128 + k) ∧ t (192 + k) = s (192 + k)) (h : quietP P s c) : quietP P t c := by
  have hcand : ∀ (best o : Int), (best = -1 ∨ (0 ≤ best ∧ best < nN P)) → candP P t best o = candP P s best o := by
    intro best o hb
    unfold candP
    by_cases h1 : o < 0
    · rw [if_pos h1, if_pos h1]
    rw [if_neg h1, if_neg h1]
    by_cases h2 : (nN P : Int) ≤ o
    · rw [if_pos h2, if_pos h2]
    rw [if_neg h2, if_neg h2, (e o.toNat (by omega)).2.2.2]
    by_cases h3 : s (192 + o.toNat) = 1
    · rw [if_pos h3, if_pos h3]
    rw [if_neg h3, if_neg h3]
    by_cases h4 : best = -1
    · rw [if_pos h4, if_pos h4]
    rw [if_neg h4, if_neg h4, (e o.toNat (by omega)).1, (e best.toNat (by omega)).1]
  have hin : ∀ (best o : Int), (best = -1 ∨ (0 ≤ best ∧ best < nN P)) → candP P s best o = -1 ∨ (0 ≤ candP P s best o ∧ candP P s best o < nN P) := by
    intro best o hb
    rcases candP_spec (P := P) (s := s) (best := best) (o := o) with q | ⟨q, q1, q2, -⟩
    · rw [q]; exact hb
    · rw [q]; exact Or.inr ⟨q1, q2⟩
  have hlow : lowP P t c = lowP P s c := by
    unfold lowP
    have i1 := hin (-1) ((c : Int) - cN P) (Or.inl rfl)
    have i2 := hin _ (if 0 < c % cN P then (c : Int) - 1 else -1) i1
    have i3 := hin _ (if c % cN P + 1 < cN P then (c : Int) + 1 else -1) i2
    rw [hcand (-1) _ (Or.inl rfl), hcand _ _ i1, hcand _ _ i2, hcand _ _ i3]
  unfold quietP at h ⊢
  rw [hlow, (e c hc).2.2.2, (e c hc).1, (e c hc).2.1, (e c hc).2.2.1]
  rcases h with h | h | h
  · exact Or.inl h
  · exact Or.inr (Or.inl h)
  · rcases lowP_spec (s := s) (c := c) hv with q | ⟨q1, q2, -, -⟩
    · exact Or.inr (Or.inl q)
    · rw [(e (lowP P s c).toNat (by omega)).1]
      exact Or.inr (Or.inr h)
theorem Settled.congr {P : Hp} {s t : Nat → Int} (hv : PV P) (e : ∀ k : Nat, k < nN P → t k = s k ∧ t (64 + k) = s (64 + k) ∧ t (128 + k) = s (128 + k) ∧ t (192 + k) = s (192 + k)) (h : Settled P s) : Settled P t :=
  fun c hc => quiet_congr hc hv.n.2 hv e (h c hc)
/-- a quiet cell does not slide -/
theorem quiet_slide {P : Hp} {s : Nat → Int} {c : Nat} (h : quietP P s c) : slideC P s c = s := by
  unfold slideC
  unfold quietP at h
  by_cases h1 : s (192 + c) = 1
  · rw [if_pos h1]
  rw [if_neg h1]
  by_cases h2 : lowP P s c = -1
  · rw [if_pos h2]
  rw [if_neg h2, if_pos ((h.resolve_left h1).resolve_left h2)]
theorem settled_round {P : Hp} {s : Nat → Int} (h : Settled P s) : ∀ n, n ≤ nN P → roundP P s n = s
  | 0, _ => rfl
  | n + 1, hn => by
    show slideC P (roundP P s n) n = s
    rw [settled_round h n (by omega)]
    exact quiet_slide (h n (by omega))
theorem round_settled {P : Hp} {s : Nat → Int} (hv : PV P) (h : roundP P s (nN P) 272 = s 272) : roundP P s (nN P) = s ∧ Settled P s := by
  have key : ∀ n, n ≤ nN P → roundP P s n 272 = s 272 → roundP P s n = s ∧ ∀ c, c < n → quietP P s c := by
    intro n
    induction n with
    | zero => intro _ _; exact ⟨rfl, fun c hc => by omega⟩
    | succ n ih =>
      intro hn he
      have hr := r272 (s := s) hv n (by omega)
      have h2 : slideC P (roundP P s n) n 272 = s 272 := he
      show slideC P (roundP P s n) n = s ∧ _
      have h3 : roundP P s n 272 = s 272 ∧ slideC P (roundP P s n) n = roundP P s n ∧ quietP P (roundP P s n) n := by
        unfold slideC at h2 ⊢
        unfold quietP
        split
        · rw [if_pos (by assumption)] at h2; exact ⟨h2, rfl, Or.inl (by assumption)⟩
        · rw [if_neg (by assumption)] at h2
          split
          · rw [if_pos (by assumption)] at h2; exact ⟨h2, rfl, Or.inr (Or.inl (by assumption))⟩
          · rw [if_neg (by assumption)] at h2
            split
            · rw [if_pos (by assumption)] at h2; exact ⟨h2, rfl, Or.inr (Or.inr (by assumption))⟩
            · rw [if_neg (by assumption), upd1_same] at h2
              omega
      obtain ⟨i1, i2⟩ := ih (by omega) h3.1
      rw [i1] at h3
      refine ⟨by rw [i1]; exact h3.2.1, fun c hc => ?_⟩
      by_cases q : c = n
      · subst q; exact h3.2.2
      · exact i2 c (by omega)
  obtain ⟨a, b⟩ := key (nN P) (Nat.le_refl _) h
  exact ⟨a, b⟩
theorem SE.congr {P h : Hp} {b : Nat} {s t : Nat → Int} (hv : PV P) (e : ∀ k : Nat, k < nN P → t k = s k ∧ t (64 + k) = s (64 + k) ∧ t (128 + k) = s (128 + k) ∧ t (192 + k) = s (192 + k)) (h0 : SE P h b s) : SE P h b t := by
  rcases h0 with q | ⟨q1, q2⟩
  · exact Or.inl q
  · exact Or.inr ⟨q1, q2.congr hv e⟩
/-- one cell's number moves, on both sides -/
theorem RS0.cell {P h : Hp} {b c : Nat} {s : Nat → Int} {x : Int} (hv : PV P) (h0 : RS0 P h b s) (hc : c < nN P) (k : Nat) (hk : k < 4) : RS0 P (set2 h (b + (k + 1)) c x) b (upd1 s (64 * k + c) x) := by
  have hn := hv.n
  obtain ⟨a1, a2, a3, ⟨a4, a6⟩, a5⟩ := h0
  refine ⟨fun j hj => ?_, ?_, ⟨?_, fun j hj => ?_⟩, ⟨?_, ?_⟩, ?_⟩
  · have := a1 j hj
    unfold set2 upd1
    rcases (by omega : k = 0 ∨ k = 1 ∨ k = 2 ∨ k = 3) with rfl | rfl | rfl | rfl <;> refine ⟨?_, ?_, ?_, ?_⟩ <;> split <;> split <;> (first | rfl | omega)
  · rw [set2_np _ _ _ _ _ _ (by omega), set2_np _ _ _ _ _ _ (by omega), set2_np _ _ _ _ _ _ (by omega), set2_np _ _ _ _ _ _ (by omega), set2_np _ _ _ _ _ _ (by omega), set2_np _ _ _ _ _ _ (by omega), upd1_ne _ _ _ _ (by omega), upd1_ne _ _ _ _ (by omega), upd1_ne _ _ _ _ (by omega), upd1_ne _ _ _ _ (by omega), upd1_ne _ _ _ _ (by omega), upd1_ne _ _ _ _ (by omega)]
    exact a2
  · rw [upd1_ne _ _ _ _ (by omega)]; exact a3.1
  · rw [set2_np _ _ _ _ _ _ (by omega), upd1_ne _ _ _ _ (by omega), upd1_ne _ _ _ _ (by omega), upd1_ne _ _ _ _ (by omega)]
    exact a3.2 j hj
  · rw [set2_np _ _ _ _ _ _ (by omega), upd1_ne _ _ _ _ (by omega)]; exact a4
  · unfold HR at a6 ⊢
    rw [upd1_ne _ _ _ _ (by omega)]
    intro q i hi
    rw [set2_np _ _ _ _ _ _ (by omega), set2_np _ _ _ _ _ _ (by omega), upd1_ne _ _ _ _ (by omega), upd1_ne _ _ _ _ (by omega), upd1_ne _ _ _ _ (by omega)]
    exact a6 q i hi
  · rw [set2_np _ _ _ _ _ _ (by omega), upd1_ne _ _ _ _ (by omega)]; exact a5
/-- a number of the shore's own moves: which of the row's -/
def fldR (k : Nat) : Nat := match k with
  | 9 => 270 | 10 => 269 | 11 => 271 | 12 => 272 | 13 => 273 | _ => 274
theorem RS0.fld {P h : Hp} {b k : Nat} {s : Nat → Int} {x : Int} (h0 : RS0 P h b s) (hk : 9 ≤ k ∧ k ≤ 14) (hv : PV P) : RS0 P (set2 h b k x) b (upd1 s (fldR k) x) := by
  have hn := hv.n
  obtain ⟨a1, a2, a3, ⟨a4, a6⟩, a5⟩ := h0
  have hpl := pv_plan hv
  have hf : 269 ≤ fldR k ∧ fldR k ≤ 274 := by
    rcases (by omega : k = 9 ∨ k = 10 ∨ k = 11 ∨ k = 12 ∨ k = 13 ∨ k = 14) with rfl | rfl | rfl | rfl | rfl | rfl <;> decide
  refine ⟨fun j hj => ?_, ?_, ⟨?_, fun j hj => ?_⟩, ⟨?_, ?_⟩, ?_⟩
  · rw [set2_np _ _ _ _ _ _ (by omega), set2_np _ _ _ _ _ _ (by omega), set2_np _ _ _ _ _ _ (by omega), set2_np _ _ _ _ _ _ (by omega), upd1_ne _ _ _ _ (by omega), upd1_ne _ _ _ _ (by omega), upd1_ne _ _ _ _ (by omega), upd1_ne _ _ _ _ (by omega)]
    exact a1 j hj
  · unfold set2 upd1
    rcases (by omega : k = 9 ∨ k = 10 ∨ k = 11 ∨ k = 12 ∨ k = 13 ∨ k = 14) with rfl | rfl | rfl | rfl | rfl | rfl <;> simp [fldR, a2]
  · rw [upd1_ne _ _ _ _ (by omega)]; exact a3.1
  · have h12 : (P 100 12).toNat ≤ 3 := by
      obtain ⟨-, -, -, -, -, -, -, -, -, -, -, -, -, -, -, -, -, -, -, h1, -⟩ := hv
      omega
    rw [set2_np _ _ _ _ _ _ (by omega), upd1_ne _ _ _ _ (by omega), upd1_ne _ _ _ _ (by omega), upd1_ne _ _ _ _ (by omega)]
    exact a3.2 j hj
  · rw [set2_nk _ _ _ _ _ _ (by omega), upd1_ne _ _ _ _ (by omega)]; exact a4
  · unfold HR at a6 ⊢
    rw [upd1_ne _ _ _ _ (by omega)]
    intro q i hi
    rw [set2_np _ _ _ _ _ _ (by omega), set2_np _ _ _ _ _ _ (by omega), upd1_ne _ _ _ _ (by omega), upd1_ne _ _ _ _ (by omega), upd1_ne _ _ _ _ (by omega)]
    exact a6 q i hi
  · rw [set2_nk _ _ _ _ _ _ (by omega), upd1_ne _ _ _ _ (by omega)]; exact a5
theorem RS0.flag15 {P h : Hp} {b : Nat} {s : Nat → Int} {x : Int} (h0 : RS0 P h b s) : RS0 P (set2 h b 15 x) b s := by
  obtain ⟨a1, a2, a3, ⟨a4, a6⟩, a5⟩ := h0
  refine ⟨fun j hj => ?_, ?_, ⟨a3.1, fun j hj => ?_⟩, ⟨?_, ?_⟩, ?_⟩
  · rw [set2_np _ _ _ _ _ _ (by omega), set2_np _ _ _ _ _ _ (by omega), set2_np _ _ _ _ _ _ (by omega), set2_np _ _ _ _ _ _ (by omega)]
    exact a1 j hj
  · rw [set2_nk _ _ _ _ _ _ (by omega), set2_nk _ _ _ _ _ _ (by omega), set2_nk _ _ _ _ _ _ (by omega), set2_nk _ _ _ _ _ _ (by omega), set2_nk _ _ _ _ _ _ (by omega), set2_nk _ _ _ _ _ _ (by omega)]
    exact a2
  · rw [set2_np _ _ _ _ _ _ (by omega)]; exact a3.2 j hj
  · rw [set2_nk _ _ _ _ _ _ (by omega)]; exact a4
  · unfold HR at a6 ⊢
    intro q i hi
    rw [set2_np _ _ _ _ _ _ (by omega), set2_np _ _ _ _ _ _ (by omega)]
    exact a6 q i hi
  · rw [set2_nk _ _ _ _ _ _ (by omega)]; exact a5
theorem pv_flags {P : Hp} (hv : PV P) : (0 ≤ P 100 12 ∧ P 100 12 ≤ 3) ∧ (∀ k : Nat, k < (P 100 12).toNat → 0 ≤ P 106 k ∧ P 106 k < nN P) ∧ (∀ c : Nat, c < 64 → (0 ≤ P 104 c ∧ P 104 c ≤ 59) ∧ (P 108 c = 0 ∨ P 108 c = 1)) := by
  obtain ⟨-, -, -, -, -, -, -, -, -, -, -, -, -, -, -, -, -, -, -, h1, h2, h3⟩ := hv
  exact ⟨h1, h2, h3⟩
