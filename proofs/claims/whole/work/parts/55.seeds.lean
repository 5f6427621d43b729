/-! CALLS by seeds: stand, outlasts, contest -/
def nS (h : Hp) (k : Nat) : Nat := if h 112 0 = -1 then 1 else k
theorem k_seeds {h g : Hp} {v k : Nat} (rs : SeaR h v) (f : TF h g) : g_X8_seedsThatDiffer (k : Int) g = some (nS h k : Int) := by
  have e := (tf_ps rs f).num.1.1
  unfold g_X8_seedsThatDiffer nS
  rw [tf_sea rs f]
  have d : g_X2_isDrawn v g = some (if h 112 0 = -1 then 0 else 1) := by
    unfold g_X2_isDrawn
    (rw [e_cI, e_rd _ _ _ _ _ (by omega), show (0 : Int).toNat = 0 from rfl, e, e_cI, e_join]; (try dsimp only))
    by_cases z : h 112 0 = -1
    · rw [b_pos z, e_cI, if_pos z]
      exact e_retZ0
    · rw [b_neg z, e_cI, if_neg z]
      exact e_retZ1
  (rw [d, e_cP, e_join]; (try dsimp only))
  by_cases z : h 112 0 = -1
  · rw [if_pos z, b_pos rfl, e_cI, if_pos z]
    rfl
  · rw [if_neg z, b_neg (by decide), if_neg z]
theorem nS_in {h : Hp} {k : Nat} (hk : 1 ≤ k ∧ k ≤ 9) : 1 ≤ nS h k ∧ nS h k ≤ 9 := by unfold nS; split <;> omega
def sumS (f : Nat → Int) (S : Nat) : Int := sumN (fun i => f (i + 1)) S
theorem sumS_in {f : Nat → Int} {U : Int} (hf : ∀ i, 0 ≤ f i ∧ f i ≤ U) : ∀ S : Nat, 0 ≤ sumS f S ∧ sumS f S ≤ S * U
  | 0 => by
    show (0 : Int) ≤ 0 ∧ (0 : Int) ≤ ((0 : Nat) : Int) * U
    rw [show ((0 : Nat) : Int) = 0 from rfl, Int.zero_mul]
    omega
  | S + 1 => by
    have ih := sumS_in hf S
    have := hf (S + 1)
    show 0 ≤ sumS f S + f (S + 1) ∧ sumS f S + f (S + 1) ≤ ((S + 1 : Nat) : Int) * U
    rw [show ((S + 1 : Nat) : Int) = (S : Int) + 1 by omega, Int.add_mul, Int.one_mul]
    omega
theorem sumS_const {f : Nat → Int} (hf : ∀ i, f i = f 1) : ∀ S : Nat, sumS f S = (S : Int) * f 1
  | 0 => by
    rw [show ((0 : Nat) : Int) = 0 from rfl, Int.zero_mul]
    rfl
  | S + 1 => by
    show sumS f S + f (S + 1) = ((S + 1 : Nat) : Int) * f 1
    rw [sumS_const hf S, hf (S + 1), show ((S + 1 : Nat) : Int) = (S : Int) + 1 by omega, Int.add_mul, Int.one_mul]
theorem sumS_congr {f g : Nat → Int} {S : Nat} (e : ∀ i, i < S → f (i + 1) = g (i + 1)) : sumS f S = sumS g S := sumN_congr e
/-- the first of the greatest; those with a mark are passed over -/
def ssP (st : Nat → Int) (F : Nat → Int) : Nat → Int × Int
  | 0 => (-1, -1)
  | c + 1 => if st c = 1 then ssP st F c else if (ssP st F c).2 < F c then ((c : Int), F c) else ssP st F c
theorem ss_done {st F : Nat → Int} {U : Int} (hf : ∀ x, F x ≤ U) {x : Nat} (h : U ≤ (ssP st F x).2) : ∀ j : Nat, ssP st F (x + j) = ssP st F x
  | 0 => rfl
  | j + 1 => by
    have ih := ss_done hf h j
    show (if st (x + j) = 1 then ssP st F (x + j) else if (ssP st F (x + j)).2 < F (x + j) then (((x + j : Nat) : Int), F (x + j)) else ssP st F (x + j)) = _
    have := hf (x + j)
    rw [ih]
    split
    · rfl
    · rw [if_neg (by omega)]
theorem ss_ge {st F : Nat → Int} (hf : ∀ x, 0 ≤ F x) : ∀ x, (ssP st F x).2 = -1 ∨ 0 ≤ (ssP st F x).2
  | 0 => Or.inl rfl
  | x + 1 => by
    have := ss_ge (st := st) hf x
    unfold ssP
    split
    · exact this
    · split
      · exact Or.inr (hf x)
      · exact this
theorem ss_scale {st F G : Nat → Int} {K : Int} (hK : 1 ≤ K) (hf : ∀ x, 0 ≤ F x) (e : ∀ x, G x = K * F x) : ∀ x, (ssP st G x).1 = (ssP st F x).1 ∧ (ssP st G x).2 = if (ssP st F x).2 = -1 then -1 else K * (ssP st F x).2
  | 0 => ⟨rfl, rfl⟩
  | x + 1 => by
    obtain ⟨i1, i2⟩ := ss_scale hK hf e (st := st) x
    have g := ss_ge (st := st) hf x
    have hx := hf x
    unfold ssP
    by_cases z : st x = 1
    · rw [if_pos z, if_pos z]; exact ⟨i1, i2⟩
    rw [if_neg z, if_neg z, i2, e x]
    have hx2 : 0 ≤ K * F x := Int.mul_nonneg (by omega) hx
    have iff : ((if (ssP st F x).2 = -1 then -1 else K * (ssP st F x).2) < K * F x) ↔ (ssP st F x).2 < F x := by
      by_cases y : (ssP st F x).2 = -1
      · rw [if_pos y]; omega
      · rw [if_neg y]
        constructor
        · intro a
          exact Int.lt_of_mul_lt_mul_left a (by omega)
        · intro a
          exact Int.mul_lt_mul_of_pos_left a (by omega)
    by_cases y : (ssP st F x).2 < F x
    · rw [if_pos (iff.mpr y), if_pos y]
      refine ⟨rfl, ?_⟩
      dsimp only
      rw [if_neg (by omega)]
    · rw [if_neg (fun a => y (iff.mp a)), if_neg y]
      exact ⟨i1, i2⟩
/-- without a tide all seeds go alike -/
theorem bg_seed {h : Hp} {p s1 s2 : Int} : Ag 288 (bg h p s1) (bg h p s2) := fun j hj => by
  unfold bg
  rw [upd1_ne _ _ _ _ (by omega), upd1_ne _ _ _ _ (by omega)]
theorem valP_seed {h : Hp} {n k M : Nat} {p s1 s2 : Int} {wk : Nat → Int} (r : Rel n h) (h0 : h 112 0 = -1) (hp : -1 ≤ p ∧ p < h 100 41) (hs : 0 ≤ s1 ∧ s1 < 2147483648) (hk : k < (h 100 12).toNat) : valP h k p s2 wk M = valP h k p s1 wk M := by
  have hv := r.1
  have hN := hv.n
  obtain ⟨-, q2⟩ := fc_in hv hk
  exact lastP_congr (fun m _ => ag_trS (by omega) hv (Or.inl h0) (iv_bg r hp hs) q2 bg_seed m _ (by omega))
/-! stand -/
def twR (s : Nat → Int) (c m : Nat) : Nat → Int := upd1 (upd1 (upd1 (upd1 s (256 + m) (c : Int)) (260 + m) (s c)) (264 + m) (-1)) 268 ((m : Int) + 1)
def upR (s : Nat → Int) (c : Nat) (n : Int) : Nat → Int := upd1 s c (s c + n)
def tw (s : Nat → Int) (c : Nat) (n : Int) (m : Nat) : Nat → Int := twR (upR s c n) c m
theorem ag_tw {a : Nat} {s t : Nat → Int} {c m : Nat} {n : Int} (ha : 275 ≤ a) (hc : c < 64) (h : Ag a s t) : Ag a (tw s c n m) (tw t c n m) := by
  unfold tw twR upR
  rw [upd1_same, upd1_same, h c (by omega)]
  exact h.u.u.u.u.u
theorem tw_c {s : Nat → Int} {c m : Nat} {n : Int} (hc : c < 64) : tw s c n m c = s c + n := by
  unfold tw twR upR
  simp (disch := omega) only [set2_same, set2_np, set2_nk, setRow_same, setRow_ne, upd1_same, upd1_ne, upd1_le, setRow_setRow, Int.toNat_natCast, tn_0, tn_64, tn_128, tn_192, tn_256, tn_260, tn_264, tn_276, tn_280, tn_284, Int.reduceToNat]
theorem tw_flag {s : Nat → Int} {c m : Nat} {n : Int} (hc : c < 64) (hm : m ≤ 3) : tw s c n m (256 + m) = (c : Int) ∧ tw s c n m (260 + m) = s c + n ∧ tw s c n m (264 + m) = -1 ∧ tw s c n m 268 = (m : Int) + 1 := by
  unfold tw twR upR
  refine ⟨?_, ?_, ?_, ?_⟩
  · simp (disch := omega) only [set2_same, set2_np, set2_nk, setRow_same, setRow_ne, upd1_same, upd1_ne, upd1_le, setRow_setRow, Int.toNat_natCast, tn_0, tn_64, tn_128, tn_192, tn_256, tn_260, tn_264, tn_276, tn_280, tn_284, Int.reduceToNat]
  · simp (disch := omega) only [set2_same, set2_np, set2_nk, setRow_same, setRow_ne, upd1_same, upd1_ne, upd1_le, setRow_setRow, Int.toNat_natCast, tn_0, tn_64, tn_128, tn_192, tn_256, tn_260, tn_264, tn_276, tn_280, tn_284, Int.reduceToNat]
  · simp (disch := omega) only [set2_same, set2_np, set2_nk, setRow_same, setRow_ne, upd1_same, upd1_ne, upd1_le, setRow_setRow, Int.toNat_natCast, tn_0, tn_64, tn_128, tn_192, tn_256, tn_260, tn_264, tn_276, tn_280, tn_284, Int.reduceToNat]
  · simp (disch := omega) only [set2_same, set2_np, set2_nk, setRow_same, setRow_ne, upd1_same, upd1_ne, upd1_le, setRow_setRow, Int.toNat_natCast, tn_0, tn_64, tn_128, tn_192, tn_256, tn_260, tn_264, tn_276, tn_280, tn_284, Int.reduceToNat]
theorem tw_far {s : Nat → Int} {c m j : Nat} {n : Int} (hj : j ≠ c) (h1 : j ≠ 256 + m) (h2 : j ≠ 260 + m) (h3 : j ≠ 264 + m) (h4 : j ≠ 268) : tw s c n m j = s j := by
  unfold tw twR upR
  rw [upd1_ne _ _ _ _ h4, upd1_ne _ _ _ _ h3, upd1_ne _ _ _ _ h2, upd1_ne _ _ _ _ h1, upd1_ne _ _ _ _ hj]
theorem iv_tw {P : Hp} {B T n : Int} {c m : Nat} {s : Nat → Int} (h : IV P B T s) (hv : PV P) (hB : B ≤ 10000) (hc : c < nN P) (hn : 0 ≤ n ∧ n ≤ 30) (hm : s 268 = (m : Int)) (hm3 : m ≤ 3) : IV P (B + n) T (tw s c n m) := by
  have hN := hv.n
  have hcb := h.le hc
  have hcn := h.nn hc
  obtain ⟨h1, ⟨h2, h2b⟩, ⟨h3, h4, h5⟩, h6, h7⟩ := h
  obtain ⟨t1, t2, t3, t4⟩ := tw_flag (s := s) (c := c) (m := m) (n := n) (by omega) hm3
  have tc := tw_c (s := s) (c := c) (m := m) (n := n) (by omega)
  have far := fun j a b d e f => tw_far (s := s) (c := c) (m := m) (n := n) (j := j) a b d e f
  refine ⟨fun j hj => ?_, ⟨?_, ?_⟩, ⟨?_, ?_, fun k hk => ?_⟩, HV.congr (s := s) h6 hv (fun j a b => far j (by omega) (by omega) (by omega) (by omega) (by omega)), ?_⟩
  · have := h1 j hj
    rw [far (64 + j) (by omega) (by omega) (by omega) (by omega) (by omega), far (128 + j) (by omega) (by omega) (by omega) (by omega) (by omega), far (192 + j) (by omega) (by omega) (by omega) (by omega) (by omega)]
    by_cases z : j = c
    · subst z
      rw [tc]
      exact ⟨by omega, this.2⟩
    · rw [far j z (by omega) (by omega) (by omega) (by omega)]
      exact this
  · rw [far 269 (by omega) (by omega) (by omega) (by omega) (by omega)]; exact h2
  · rw [far 269 (by omega) (by omega) (by omega) (by omega) (by omega)]
    have e : sumN (tw s c n m) (nN P) = sumN (upR s c n) (nN P) := by
      unfold tw twR
      rw [sumN_upd_out (by omega), sumN_upd_out (by omega), sumN_upd_out (by omega), sumN_upd_out (by omega)]
    rw [e]
    unfold upR
    rw [sumN_upd hc]
    omega
  · rw [far 270 (by omega) (by omega) (by omega) (by omega) (by omega)]; exact h3
  · rw [t4]; omega
  · rw [t4] at hk
    rw [far 270 (by omega) (by omega) (by omega) (by omega) (by omega)]
    by_cases z : k = m
    · subst z
      rw [t1, t2, t3]
      refine ⟨by omega, by omega, by omega, by omega⟩
    · have := h5 k (by omega)
      rw [far (256 + k) (by omega) (by omega) (by omega) (by omega) (by omega), far (260 + k) (by omega) (by omega) (by omega) (by omega) (by omega), far (264 + k) (by omega) (by omega) (by omega) (by omega) (by omega)]
      exact this
  · unfold KV
    rw [far 288 (by omega) (by omega) (by omega) (by omega) (by omega)]; exact h7
theorem RS.tower {P h : Hp} {b c m : Nat} {n : Int} {s : Nat → Int} (hv : PV P) (hH : HV P s) (hm : m = (P 100 12).toNat) (hc : c < nN P) (h0 : RS P h b s) : RS P (set2 (set2 h (b + 1) c (s c + n)) b 15 0) b (tw s c n m) := by
  have hN := hv.n
  have h12 := (pv_flags hv).1
  have hpl := pv_plan hv
  have far := fun j a b d e f => tw_far (s := s) (c := c) (m := m) (n := n) (j := j) a b d e f
  have tc := tw_c (s := s) (c := c) (m := m) (n := n) (by omega)
  obtain ⟨t1, t2, t3, t4⟩ := tw_flag (s := s) (c := c) (m := m) (n := n) (by omega) (by omega)
  obtain ⟨⟨a1, a2, a3, ⟨a4, a6⟩, a5⟩, -⟩ := h0
  have g1 : ∀ p, p ≠ b → p ≠ b + 1 → set2 (set2 h (b + 1) c (s c + n)) b 15 0 p = h p := fun p u v => by rw [set2_ne p u, set2_ne p v]
  have g2 : ∀ k, k ≠ 15 → set2 (set2 h (b + 1) c (s c + n)) b 15 0 b k = h b k := fun k u => by rw [set2_nk _ _ _ _ _ _ u, set2_np _ _ _ _ _ _ (by omega)]
  have g3 : ∀ k, k ≠ c → set2 (set2 h (b + 1) c (s c + n)) b 15 0 (b + 1) k = h (b + 1) k := fun k u => by rw [set2_np _ _ _ _ _ _ (by omega), set2_nk _ _ _ _ _ _ u]
  have g4 : set2 (set2 h (b + 1) c (s c + n)) b 15 0 (b + 1) c = s c + n := by rw [set2_np _ _ _ _ _ _ (by omega), set2_same]
  have g5 : set2 (set2 h (b + 1) c (s c + n)) b 15 0 b 15 = 0 := set2_same _ _ _ _
  generalize set2 (set2 h (b + 1) c (s c + n)) b 15 0 = g at g1 g2 g3 g4 g5
  refine ⟨⟨fun j hj => ?_, ?_, ⟨?_, fun j hj => ?_⟩, ⟨?_, ?_⟩, ?_⟩, Or.inl g5⟩
  · rw [g1 (b + 2) (by omega) (by omega), g1 (b + 3) (by omega) (by omega), g1 (b + 4) (by omega) (by omega), far (64 + j) (by omega) (by omega) (by omega) (by omega) (by omega), far (128 + j) (by omega) (by omega) (by omega) (by omega) (by omega), far (192 + j) (by omega) (by omega) (by omega) (by omega) (by omega)]
    have := a1 j hj
    by_cases z : j = c
    · subst z
      rw [g4, tc]
      exact ⟨rfl, this.2⟩
    · rw [g3 j z, far j z (by omega) (by omega) (by omega) (by omega)]
      exact this
  · rw [g2 9 (by omega), g2 10 (by omega), g2 11 (by omega), g2 12 (by omega), g2 13 (by omega), g2 14 (by omega),
      far 270 (by omega) (by omega) (by omega) (by omega) (by omega), far 269 (by omega) (by omega) (by omega) (by omega) (by omega), far 271 (by omega) (by omega) (by omega) (by omega) (by omega), far 272 (by omega) (by omega) (by omega) (by omega) (by omega), far 273 (by omega) (by omega) (by omega) (by omega) (by omega), far 274 (by omega) (by omega) (by omega) (by omega) (by omega)]
    exact a2
  · rw [t4]; omega
  · rw [g1 (b + 5) (by omega) (by omega), far (264 + j) (by omega) (by omega) (by omega) (by omega) (by omega), far (256 + j) (by omega) (by omega) (by omega) (by omega) (by omega), far (260 + j) (by omega) (by omega) (by omega) (by omega) (by omega)]
    exact a3.2 j hj
  · rw [g2 7 (by omega), far 275 (by omega) (by omega) (by omega) (by omega) (by omega)]; exact a4
  · unfold HR at a6 ⊢
    rw [far 275 (by omega) (by omega) (by omega) (by omega) (by omega)]
    intro q i hi
    have hi4 : i < 4 := by
      have h1 := hH.1
      have := (hpl.2 (s 275).toNat (by omega)).1
      omega
    rw [g1 (b + 6) (by omega) (by omega), g1 (b + 7) (by omega) (by omega), far (276 + i) (by omega) (by omega) (by omega) (by omega) (by omega), far (284 + i) (by omega) (by omega) (by omega) (by omega) (by omega), far (280 + i) (by omega) (by omega) (by omega) (by omega) (by omega)]
    exact a6 q i hi
  · rw [g2 8 (by omega), far 288 (by omega) (by omega) (by omega) (by omega) (by omega)]; exact a5
def stV (h : Hp) (c : Nat) (n : Int) (M : Nat) (seed : Nat) : Int := lastP (trS h c (fun _ => -1) (tw (bg h (-1) (seed : Int)) c n (h 100 12).toNat)) c (h 121 c + n - h 102 4) M
theorem stV_in {h : Hp} {c M seed : Nat} {n : Int} : 0 ≤ stV h c n M seed ∧ stV h c n M seed ≤ (M : Int) := lastP_in
theorem bg_268 {h : Hp} {n : Nat} {p seed : Int} (r : Rel n h) : bg h p seed 268 = h 100 12 := by rw [bg_lo (by omega)]; exact r.2.2.2.2.1.2.2
theorem stV_seed {h : Hp} {N c M : Nat} {n : Int} (r : Rel N h) (h0 : h 112 0 = -1) (hc : c < nN h) (hn : 0 ≤ n ∧ n ≤ 30) (i : Nat) : stV h c n M i = stV h c n M 1 := by
  have hv := r.1
  have hN := hv.n
  have h12 := (pv_flags hv).1
  have h41 := (pv_plan hv).1
  have i0 := iv_tw (c := c) (n := n) (m := (h 100 12).toNat) (iv_bg r (p := -1) (seed := ((1 : Nat) : Int)) (by omega) (by omega)) hv (by omega) hc hn (by rw [bg_268 r]; omega) (by omega)
  exact lastP_congr (fun m _ => ag_trS (by omega) hv (Or.inl h0) i0 hc (ag_tw (by omega) (by omega) bg_seed) m _ (by omega))
theorem k_tower {h g : Hp} {N M c b v seed : Nat} {n : Int} (r : Rel N h) (hN : N ≤ 600) (rb : BchR h b) (rs : SeaR h v) (f : TF h g) (hs : seed ≤ 9) (hc : c < nN h) (hn : 1 ≤ n ∧ n ≤ 30) (hM : 1 ≤ M ∧ M ≤ 99) (K : Int → Hp → Option (Int × Hp)) :
    ∃ g', TF h g' ∧ (cV (g_X6_start 46 26 (-1) (seed : Int) g) fun h9 => cV (g_X3_heapUp 47 (c : Int) n h9) fun h10 => rdI h10 48 64 (c : Int) fun z11 => gR h10 0 1 [3, 9] fun q12 => cP (g_X0_fall q12 h10) fun z13 => subI z11 z13 fun z14 => cV (g_X6_watch 46 (c : Int) z14 h10) fun h15 =>
      gR h15 0 1 [3, 9] fun q16 => gR h15 0 3 [15, 20] fun q17 => cV (g_X6_run 46 q16 q17 (-1) (M : Int) h15) fun h18 => cI 0 fun z19 => rdI h18 55 2 z19 fun z20 => K z20 h18) = K (stV h c n M seed) g' := by
  have hv := r.1
  have hNn := hv.n
  have h12 := (pv_flags hv).1
  have h41 := (pv_plan hv).1
  have i0 := iv_bg r (p := -1) (seed := (seed : Int)) (by omega) (by omega)
  have i1 := iv_tw (c := c) (n := n) (m := (h 100 12).toNat) i0 hv (by omega) hc (by omega) (by rw [bg_268 r]; omega) (by omega)
  obtain ⟨g1, a1, a2, a3, a4, a5⟩ := tf_start (p := -1) (seed := (seed : Int)) r f (by omega) (by omega)
  have e48 : g1 48 c = h 121 c := by rw [(a3.1.1 c hc).1, bg_lo (by omega)]
  have hcb := i0.le hc
  have hcn := i0.nn hc
  rw [bg_lo (by omega)] at hcb hcn
  have hfall : 0 ≤ h 102 4 ∧ h 102 4 ≤ 20 := by
    obtain ⟨-, -, -, -, -, -, s5, -⟩ := hv
    exact s5
  have t3 := a3.tower (c := c) (n := n) (m := (h 100 12).toNat) hv i0.2.2.2.1 rfl hc
  rw [bg_lo (by omega)] at t3
  have eh : g_X3_heapUp 47 (c : Int) n g1 = some (set2 (set2 g1 (47 + 1) c (h 121 c + n)) 47 15 0) := by
    unfold g_X3_heapUp
    (rw [k_isPlace_t (by omega), e_cP, e_join]; (try dsimp only); rw [b_neg (by decide), e_rdn _ _ _ _ _ (by omega), show 47 + 1 = 48 from rfl, e48, e_add _ _ _ (by omega), e_wrn _ _ _ _ _ _ (by omega), e_cI, e_pZ _ _ _ _ _ (by omega)])
  have f2 : TF h (set2 (set2 g1 (47 + 1) c (h 121 c + n)) 47 15 0) := fun p hp => by rw [set2_ne p (by omega), set2_ne p (by omega), a2 p hp]
  have v48 : set2 (set2 g1 (47 + 1) c (h 121 c + n)) 47 15 0 48 c = h 121 c + n := by rw [set2_np _ _ _ _ _ _ (by omega), show 47 + 1 = 48 from rfl, set2_same]
  have v5 : set2 (set2 g1 (47 + 1) c (h 121 c + n)) 47 15 0 46 5 = ((0 : Nat) : Int) := by rw [set2_np _ _ _ _ _ _ (by omega), set2_np _ _ _ _ _ _ (by omega), a4]; rfl
  have v58 : ∀ m, m < 99 → set2 (set2 g1 (47 + 1) c (h 121 c + n)) 47 15 0 58 m = -1 := fun m hm => by rw [set2_np _ _ _ _ _ _ (by omega), set2_np _ _ _ _ _ _ (by omega), a5 m hm]
  rw [a1, e_cV, eh, e_cV]
  generalize set2 (set2 g1 (47 + 1) c (h 121 c + n)) 47 15 0 = g2 at t3 f2 v48 v5 v58
  have w1 := k_watch (W := 0) (x := (c : Int)) (fl := h 121 c + n - h 102 4) (by omega) v5
  rw [e_rdn _ _ _ _ _ (by omega), v48, tf_beach rb f2, k_fall (tf_pb rb f2), e_cP, e_sub _ _ _ (by omega), w1, e_cV]
  have f3 : TF h (set2 (set2 (set2 g2 56 0 (c : Int)) 57 0 (h 121 c + n - h 102 4)) 46 5 (((0 : Nat) : Int) + 1)) := fun p hp => by rw [set2_ne p (by omega), set2_ne p (by omega), set2_ne p (by omega), f2 p hp]
  obtain ⟨g', u1, u2, -, u4⟩ := k_run (c := b) (v := v) (W := 1) (n := M) (x := c) (cs := fun _ => c) (fl := fun _ => h 121 c + n - h 102 4) hv (tf_pb rb f3) rb.1 (tf_ps rs f3) rs.1 (tf_pl hv r.2.2.2.1 f3) (by omega) (by omega) i1 (t3.fr (fun p _ _ => by rw [set2_ne p (by omega), set2_ne p (by omega), set2_ne p (by omega)])) (by omega) (by rw [set2_same]; rfl)
    (fun w hw => (by rw [show w = 0 by omega, set2_np _ _ _ _ _ _ (by omega), set2_np _ _ _ _ _ _ (by omega), set2_same]; exact ⟨rfl, hc⟩)) (fun w hw => (by rw [show w = 0 by omega, set2_np _ _ _ _ _ _ (by omega), set2_same])) hc (fun _ => rfl)
    (fun m hm => Or.inl (by rw [set2_np _ _ _ _ _ _ (by omega), set2_np _ _ _ _ _ _ (by omega), set2_np _ _ _ _ _ _ (by omega), v58 m hm])) hM
  have e275 : tw (bg h (-1) (seed : Int)) c n (h 100 12).toNat 275 = -1 := by rw [tw_far (by omega) (by omega) (by omega) (by omega) (by omega), bg_275]
  rw [e275, show planRef (-1) = -1 from rfl] at u1
  refine ⟨g', fun p hp => by rw [u2 p (by omega), f3 p hp], ?_⟩
  rw [tf_beach rb f3, tf_sea rs f3, u1, e_cV, e_cI, e_rd _ _ _ _ _ (by omega), show (0 : Int).toNat = 0 from rfl, u4 0 (by omega)]
  congr 1
  exact lastP_congr (fun m hm => by rw [trS_congr m (fun j hj => by rw [set2_np _ _ _ _ _ _ (by omega), set2_np _ _ _ _ _ _ (by omega), set2_np _ _ _ _ _ _ (by omega), v58 j (by omega)])])
theorem k_sumOfTower {h g : Hp} {N M c b v S : Nat} {n : Int} (r : Rel N h) (hN : N ≤ 600) (rb : BchR h b) (rs : SeaR h v) (f : TF h g) (hS : S ≤ 9) (hc : c < nN h) (hn : 1 ≤ n ∧ n ≤ 30) (hM : 1 ≤ M ∧ M ≤ 99) :
    ∃ g', g_X8_sumOfTower (c : Int) n (S : Int) (M : Int) g = some (sumS (stV h c n M) S, g') ∧ TF h g' := by
  have key : ∃ rr : Int × Hp, g_X8_sumOfTower (c : Int) n (S : Int) (M : Int) g = some rr ∧ (rr.1 = sumS (stV h c n M) S ∧ TF h rr.2) := by
    unfold g_X8_sumOfTower
    rw [e_cI, e_cI]
    refine loopF_ex S (fun i (q : Int × Int × Hp) => q.1 = sumS (stV h c n M) i ∧ q.2.1 = (i : Int) + 1 ∧ TF h q.2.2) ?_ ?_ FU 0 _ (Nat.zero_le _) (fu _ (by omega)) ⟨rfl, rfl, f⟩
    · rintro i ⟨y1, y2, g1⟩ hi ⟨e1, e2, hg⟩ self
      dsimp only at e1 e2 hg
      subst e1 e2
      left
      have hb := sumS_in (f := stV h c n M) (U := (M : Int)) (fun i => stV_in) i
      have hb2 : (i : Int) * (M : Int) ≤ 9 * 99 := Int.mul_le_mul (by omega) (by omega) (by omega) (by omega)
      have hv1 := stV_in (h := h) (c := c) (n := n) (M := M) (seed := i + 1)
      obtain ⟨g', u1, u2⟩ := k_tower (seed := i + 1) r hN rb rs hg (by omega) hc hn hM (fun z20 h18 => addI (sumS (stV h c n M) i) z20 fun z21 => addI ((i : Int) + 1) 1 fun z22 => self (z21, z22, h18))
      unfold g_X8_sumOfTower_l4
      dsimp only
      rw [show ((i + 1 : Nat) : Int) = (i : Int) + 1 by omega] at u2
      rw [b_neg (by omega), e_cI, u2, e_add _ _ _ (by omega), e_add _ _ _ (by omega)]
      exact ⟨_, ⟨rfl, by (try dsimp only); omega, u1⟩, rfl⟩
    · rintro ⟨y1, y2, g1⟩ ⟨e1, e2, hg⟩ self
      dsimp only at e1 e2 hg
      subst e1 e2
      unfold g_X8_sumOfTower_l4
      dsimp only
      rw [b_pos (by omega)]
      exact ⟨_, rfl, rfl, hg⟩
  obtain ⟨⟨z, g'⟩, a, b, d⟩ := key
  exact ⟨g', by rw [a]; dsimp only at b; rw [b], d⟩
def stC (h : Hp) (n : Int) (M S : Nat) (c : Nat) : Int := sumS (stV h c n M) S
theorem stC_in {h : Hp} {M S c : Nat} {n : Int} : 0 ≤ stC h n M S c ∧ stC h n M S c ≤ (S : Int) * (M : Int) := sumS_in (fun _ => stV_in) S
theorem k_stand {h : Hp} {N M b v k : Nat} {n : Int} (r : Rel N h) (hN : N ≤ 600) (rb : BchR h b) (rs : SeaR h v) (hk : 1 ≤ k ∧ k ≤ 9) (hn : 1 ≤ n ∧ n ≤ 30) (hM : 1 ≤ M ∧ M ≤ 99) :
    ∃ g, g_X8_stand n (k : Int) (M : Int) h = some ((ssP (fun c => h 121 (192 + c)) (stC h n M (nS h k)) (nN h)).1, g) ∧ TF h g := by
  have hv := r.1
  have hNn := hv.n
  have r4 := r.2.2.2.2.1
  have hS := nS_in (h := h) hk
  have key : ∃ rr : Int × Hp, g_X8_stand n (k : Int) (M : Int) h = some rr ∧ (rr.1 = (ssP (fun c => h 121 (192 + c)) (stC h n M (nS h k)) (nN h)).1 ∧ TF h rr.2) := by
    unfold g_X8_stand
    (rw [e_cI, e_join]; (try dsimp only); rw [b_neg (by omega), e_cI, b_neg (by omega), k_isSeeds_t (by unfold okSeeds; omega), e_cP, b_neg (by decide), k_isSpan_t (by unfold okSpan; omega), e_cP, b_neg (by decide), k_seeds rs TF.rf, e_cP, e_cI, e_cI, e_cI])
    generalize nS h k = S at hS
    refine join_ex (fun j13 hj13 => ?_)
    have fin : ∀ (x : Int) (g : Hp), x = (ssP (fun c => h 121 (192 + c)) (stC h n M S) (nN h)).1 → TF h g → ∃ rr : Int × Hp, j13 (x, g) = some rr ∧ (rr.1 = (ssP (fun c => h 121 (192 + c)) (stC h n M S) (nN h)).1 ∧ TF h rr.2) := fun x g hx hg => by
      rw [hj13]
      exact ⟨_, rfl, hx, hg⟩
    refine loopF_ex (nN h) (fun i (q : Int × Int × Int × Hp) => (q.1 = (ssP (fun c => h 121 (192 + c)) (stC h n M S) i).1 ∧ q.2.1 = (ssP (fun c => h 121 (192 + c)) (stC h n M S) i).2 ∧ q.2.2.1 = (i : Int)) ∧ TF h q.2.2.2) ?_ ?_ FU 0 _ (Nat.zero_le _) (fu _ (by omega)) ⟨⟨rfl, rfl, rfl⟩, TF.rf⟩
    · rintro i ⟨y1, y2, y3, g⟩ hi ⟨⟨e1, e2, e3⟩, hg⟩ self
      dsimp only at e1 e2 e3 hg
      subst e1 e2 e3
      have hSM : (S : Int) * (M : Int) ≤ 9 * 99 := Int.mul_le_mul (by omega) (by omega) (by omega) (by omega)
      have hSM0 : 0 ≤ (S : Int) * (M : Int) := Int.mul_nonneg (by omega) (by omega)
      unfold g_X8_stand_l17
      dsimp only
      rw [tf_beach rb hg, k_cells (tf_pb rb hg) hv, e_cP, b_neg (by omega), e_mul _ _ _ (by omega)]
      by_cases stop : (S : Int) * (M : Int) ≤ (ssP (fun c => h 121 (192 + c)) (stC h n M S) i).2
      · right
        rw [b_pos stop]
        have := ss_done (st := fun c => h 121 (192 + c)) (F := stC h n M S) (fun x => stC_in.2) stop (nN h - i)
        rw [show i + (nN h - i) = nN h by omega] at this
        exact fin _ g (by rw [this]) hg
      left
      have est : g 30 i = h 121 (192 + i) := by rw [hg 30 (by omega)]; exact (r4.2.1.1.1 i hi).2.2.2
      have hst := (r4.1.1 i hi).2.2.2
      rw [b_neg stop, e_rdn _ _ _ _ _ (by omega), est]
      rw [show ssP (fun c => h 121 (192 + c)) (stC h n M S) (i + 1) = if h 121 (192 + i) = 1 then ssP (fun c => h 121 (192 + c)) (stC h n M S) i else if (ssP (fun c => h 121 (192 + c)) (stC h n M S) i).2 < stC h n M S i then ((i : Int), stC h n M S i) else ssP (fun c => h 121 (192 + c)) (stC h n M S) i from rfl]
      refine join_exr (fun j27 hj27 => ?_)
      by_cases z : h 121 (192 + i) = 0
      · obtain ⟨g', u1, u2⟩ := k_sumOfTower (S := S) (c := i) r hN rb rs hg (by omega) hi hn hM
        rw [b_pos z, u1, e_cW, if_neg (show ¬ h 121 (192 + i) = 1 by omega)]
        rw [show sumS (stV h i n M) S = stC h n M S i from rfl]
        by_cases y : stC h n M S i ≤ (ssP (fun c => h 121 (192 + c)) (stC h n M S) i).2
        · rw [b_pos y, hj27, e_add _ _ _ (by omega), if_neg (show ¬ (ssP (fun c => h 121 (192 + c)) (stC h n M S) i).2 < stC h n M S i by omega)]
          refine ⟨_, ?_, rfl⟩
          exact ⟨⟨rfl, rfl, by (try dsimp only); omega⟩, u2⟩
        · rw [b_neg y, hj27, e_add _ _ _ (by omega), if_pos (show (ssP (fun c => h 121 (192 + c)) (stC h n M S) i).2 < stC h n M S i by omega)]
          refine ⟨_, ?_, rfl⟩
          exact ⟨⟨rfl, rfl, by (try dsimp only); omega⟩, u2⟩
      · rw [b_neg z, hj27, e_add _ _ _ (by omega), if_pos (show h 121 (192 + i) = 1 by omega)]
        refine ⟨_, ?_, rfl⟩
        exact ⟨⟨rfl, rfl, by (try dsimp only); omega⟩, hg⟩
    · rintro ⟨y1, y2, y3, g⟩ ⟨⟨e1, e2, e3⟩, hg⟩ self
      dsimp only at e1 e2 e3 hg
      subst e1 e2 e3
      unfold g_X8_stand_l17
      dsimp only
      rw [tf_beach rb hg, k_cells (tf_pb rb hg) hv, e_cP, b_pos (by omega)]
      exact fin _ g rfl hg
  obtain ⟨⟨z, g⟩, a, b, d⟩ := key
  exact ⟨g, by rw [a]; dsimp only at b; rw [b], d⟩
theorem m_putFlag {g : Hp} {c m : Nat} {s : Nat → Int} (hc : c < 64) (hm : m ≤ 3) (e : s 268 = (m : Int)) : g_X9_putFlag 122 (c : Int) (setRow g 122 s) = some (setRow g 122 (twR s c m)) := by
  unfold g_X9_putFlag
  rw [e_cI, e_rd _ _ _ _ _ (by omega), setRow_same, show (268 : Int).toNat = 268 from rfl, e, e_cI, e_add _ _ _ (by omega), e_wrR _ _ _ _ _ _ (by omega), setRow_same, setRow_setRow, show ((256 : Int) + (m : Int)).toNat = 256 + m by omega, e_cI, e_add _ _ _ (by omega), e_cI, e_add _ _ _ (by omega), e_rd _ _ _ _ _ (by omega), setRow_same, show ((0 : Int) + (c : Int)).toNat = c by omega, upd1_ne _ _ _ _ (by omega), e_wrR _ _ _ _ _ _ (by omega), setRow_same, setRow_setRow, show ((260 : Int) + (m : Int)).toNat = 260 + m by omega, e_cI, e_add _ _ _ (by omega), e_cI, e_wrR _ _ _ _ _ _ (by omega), setRow_same, setRow_setRow, show ((264 : Int) + (m : Int)).toNat = 264 + m by omega, e_cI, e_rd _ _ _ _ _ (by omega), setRow_same, show (268 : Int).toNat = 268 from rfl, upd1_ne _ _ _ _ (by omega), upd1_ne _ _ _ _ (by omega), upd1_ne _ _ _ _ (by omega), e, e_cI, e_add _ _ _ (by omega), e_wrR _ _ _ _ _ _ (by omega), setRow_same, setRow_setRow]
  rfl
theorem m_tower {h g : Hp} {N M c seed : Nat} {n : Int} (r : Rel N h) (hN : N ≤ 600) (f : ∀ p, p ≠ 122 → (p < 46 ∨ 58 < p) → g p = h p) (hs : seed ≤ 9) (hc : c < nN h) (hn : 1 ≤ n ∧ n ≤ 30) (hM : 1 ≤ M ∧ M ≤ 99) :
    ∃ s, (∀ J : Hp → Option (Int × Hp), (cV (g_X9_beginTrial (-1) (seed : Int) g) fun h44 => cI 0 fun z45 => addI z45 (c : Int) fun z46 => rdI h44 122 289 z46 fun z47 => addI z47 n fun z48 => wrI h44 122 289 z46 z48 fun h49 => cV (g_X9_putFlag 122 (c : Int) h49) fun h50 => cI 0 fun z51 => joinF J fun j53 => loopF (g_X9_stand_l60 j53 (M : Int)) FU (z51, h50)) = J (setRow g 122 s)) ∧
      ∀ K : Int → Option (Int × Hp), (gF (setRow g 122 s) 100 12 fun z55 => cP (g_X9_lastOf z55 (M : Int) (setRow g 122 s)) K) = K (stV h c n M seed) := by
  have hv := r.1
  have hNn := hv.n
  have h12 := (pv_flags hv).1
  have h41 := (pv_plan hv).1
  have e121 : g 121 = h 121 := f 121 (by omega) (by omega)
  have hpm : PM h g := fun p hp => f p (by omega) (by omega)
  have i0 := iv_bg r (p := -1) (seed := (seed : Int)) (by omega) (by omega)
  have iM := ag_iv i0 hv (bgM_ag (g := g))
  have lo : ∀ j, j < 275 → bgM h g (-1) (seed : Int) j = h 121 j := fun j hj => by rw [bgM_ag j (by omega), bg_lo hj]
  have e268 : bgM h g (-1) (seed : Int) 268 = (((h 100 12).toNat : Nat) : Int) := by rw [lo 268 (by omega), r.2.2.2.2.1.2.2]; omega
  have i1 := iv_tw (c := c) (n := n) (m := (h 100 12).toNat) iM hv (by omega) hc (by omega) e268 (by omega)
  have i1b := iv_tw (c := c) (n := n) (m := (h 100 12).toNat) i0 hv (by omega) hc (by omega) (by rw [bg_268 r]; omega) (by omega)
  have hcb := iM.le hc
  have hcn := iM.nn hc
  obtain ⟨t1, t2, t3, t4⟩ := tw_flag (s := bgM h g (-1) (seed : Int)) (c := c) (m := (h 100 12).toNat) (n := n) (by omega) (by omega)
  have agM := fun m => ag_trS (x := c) (wk := fun _ => -1) (by omega) hv (Or.inr (Nat.le_refl _)) i1b hc (ag_tw (a := 289) (c := c) (n := n) (m := (h 100 12).toNat) (by omega) (by omega) (bgM_ag (h := h) (g := g) (p := -1) (seed := (seed : Int)))) m
  refine ⟨trS h c (fun _ => -1) (tw (bgM h g (-1) (seed : Int)) c n (h 100 12).toNat) M, fun J => ?_, fun K => ?_⟩
  · rw [m_begin e121, e_cV, e_cI, e_add _ _ _ (by omega), e_rd _ _ _ _ _ (by omega), setRow_same, show ((0 : Int) + (c : Int)).toNat = c by omega, e_add _ _ _ (by omega), e_wrR _ _ _ _ _ _ (by omega), setRow_same, setRow_setRow, show ((0 : Int) + (c : Int)).toNat = c by omega, m_putFlag (m := (h 100 12).toNat) (by omega) (by omega) (by rw [upd1_ne _ _ _ _ (by omega)]; exact e268), e_cV, e_cI]
    refine join_gen (fun j53 hj53 => ?_)
    refine loopF_for' M (fun i => ((i : Int), setRow g 122 (trS h c (fun _ => -1) (tw (bgM h g (-1) (seed : Int)) c n (h 100 12).toNat) i))) ?_ ?_ rfl (fu _ (by omega))
    · intro i hi self
      unfold g_X9_stand_l60
      dsimp only
      rw [b_neg (by omega), m_minute hpm hv (by omega) (by omega) (by omega) (iv_trS i1 hv hc i), e_cV, e_add _ _ _ (by omega), show ((i + 1 : Nat) : Int) = (i : Int) + 1 by omega]
      show _ = self (_, setRow g 122 (minuteP h (workP h c (-1) (trS h c (fun _ => -1) (tw (bgM h g (-1) (seed : Int)) c n (h 100 12).toNat) i))))
      rw [workP_no]
    · intro self
      unfold g_X9_stand_l60
      dsimp only
      rw [b_pos (by omega), hj53]
  · have iZ := iv_trS (x := c) (wk := fun _ => -1) i1 hv hc M
    have f1 := iZ.2.2.1
    have m1 := trS_far (x := c) (wk := fun _ => -1) (j := 268) i1 hv hc (by omega) M
    have fk := (f1.2.2 (h 100 12).toNat (by rw [m1, t4]; omega)).2.2
    have h270 := r.2.2.2.2.1.1.2.2.1.1
    rw [e_gF, setRow_ne _ _ _ _ (by omega), hpm 100 (by omega), show h 100 12 = (((h 100 12).toNat : Nat) : Int) by omega, m_lastOf (T := 360 * (N : Int)) (by omega) ⟨by rw [Int.toNat_natCast]; exact fk.1, by rw [Int.toNat_natCast]; have := f1.1; omega⟩ (by rw [e121]; exact h270) (by omega), e_cP, e121]
    rw [Int.toNat_natCast]
    have := last_eq (wk := fun _ => -1) (n := M) (k := (h 100 12).toNat) hv i1 hc (by omega) (by rw [t4]; omega) t1 (fl := h 121 c + n - h 102 4) (by rw [if_pos t3, t2, lo c (by omega)]) hM.1
    rw [tw_far (j := 270) (by omega) (by omega) (by omega) (by omega) (by omega), lo 270 (by omega)] at this
    rw [this]
    congr 1
    exact lastP_congr (fun m hm => agM m _ (by omega))
