/-! WHAT MINUTES KEEP -/
theorem candP_spec {P : Hp} {s : Nat → Int} {best o : Int} : candP P s best o = best ∨ (candP P s best o = o ∧ 0 ≤ o ∧ o < nN P ∧ s (192 + o.toNat) ≠ 1) := by
  unfold candP
  split
  · exact Or.inl rfl
  split
  · exact Or.inl rfl
  split
  · exact Or.inl rfl
  split
  · exact Or.inr ⟨rfl, by omega, by omega, by assumption⟩
  split
  · exact Or.inl rfl
  · exact Or.inr ⟨rfl, by omega, by omega, by assumption⟩
theorem lowP_spec {P : Hp} {s : Nat → Int} {c : Nat} (hv : PV P) : lowP P s c = -1 ∨ (0 ≤ lowP P s c ∧ lowP P s c < nN P ∧ s (192 + (lowP P s c).toNat) ≠ 1 ∧ lowP P s c ≠ c) := by
  obtain ⟨-, -, h1, -⟩ := hv.cr
  unfold lowP
  generalize ea : candP P s (-1) ((c : Int) - cN P) = a
  generalize eb : candP P s a (if 0 < c % cN P then (c : Int) - 1 else -1) = b
  generalize ed : candP P s b (if c % cN P + 1 < cN P then (c : Int) + 1 else -1) = d
  have ha : a = -1 ∨ (0 ≤ a ∧ a < nN P ∧ s (192 + a.toNat) ≠ 1 ∧ a ≠ c) := by
    rcases candP_spec (P := P) (s := s) (best := -1) (o := (c : Int) - cN P) with h | ⟨h, h2, h3, h4⟩
    · exact Or.inl (by rw [← ea]; exact h)
    · rw [ea] at h; subst h; exact Or.inr ⟨h2, h3, h4, by omega⟩
  have hb : b = -1 ∨ (0 ≤ b ∧ b < nN P ∧ s (192 + b.toNat) ≠ 1 ∧ b ≠ c) := by
    rcases candP_spec (P := P) (s := s) (best := a) (o := if 0 < c % cN P then (c : Int) - 1 else -1) with h | ⟨h, h2, h3, h4⟩
    · rw [eb] at h; rw [h]; exact ha
    · rw [eb] at h; rw [← h] at h2 h3 h4; exact Or.inr ⟨h2, h3, h4, by rw [h] at h2 ⊢; split at h2 <;> (try split) <;> omega⟩
  have hd : d = -1 ∨ (0 ≤ d ∧ d < nN P ∧ s (192 + d.toNat) ≠ 1 ∧ d ≠ c) := by
    rcases candP_spec (P := P) (s := s) (best := b) (o := if c % cN P + 1 < cN P then (c : Int) + 1 else -1) with h | ⟨h, h2, h3, h4⟩
    · rw [ed] at h; rw [h]; exact hb
    · rw [ed] at h; rw [← h] at h2 h3 h4; exact Or.inr ⟨h2, h3, h4, by rw [h] at h2 ⊢; split at h2 <;> (try split) <;> omega⟩
  rcases candP_spec (P := P) (s := s) (best := d) (o := (c : Int) + cN P) with h | ⟨h, h2, h3, h4⟩
  · rw [h]; exact hd
  · rw [h]; exact Or.inr ⟨h2, h3, h4, by omega⟩
theorem holdsP_pos {P : Hp} (hv : PV P) {w p : Int} (hw : 0 ≤ w ∧ w ≤ 16) (hk : 0 ≤ p ∧ p ≤ 4) : 1 ≤ holdsP P w p ∧ holdsP P w p ≤ 41 := by
  have hs : 0 ≤ strP P w ∧ strP P w ≤ 20 := by
    obtain ⟨-, -, -, -, -, -, -, -, h6, h7, h8, -⟩ := hv
    unfold strP
    split
    · omega
    split
    · omega
    have hm : 0 ≤ P 102 8 * (if 0 ≤ w - P 102 6 then w - P 102 6 else 0 - (w - P 102 6)) := Int.mul_nonneg h8.1 (by split <;> omega)
    generalize P 102 8 * (if 0 ≤ w - P 102 6 then w - P 102 6 else 0 - (w - P 102 6)) = X at *
    split <;> omega
  have h1 := hv.2.2.2.1
  have hm : 0 ≤ P 102 1 * p := Int.mul_nonneg h1.1 hk.1
  have hm2 : P 102 1 * p ≤ 5 * 4 := Int.mul_le_mul h1.2 hk.2 hk.1 (by omega)
  unfold holdsP
  omega
theorem iv_slideC {P : Hp} {B T : Int} {s : Nat → Int} {c : Nat} (h : IV P B T s) (hv : PV P) (hc : c < nN P) : IV P B T (slideC P s c) := by
  have h0 := h.1 c hc
  unfold slideC
  split
  · exact h
  split
  · exact h
  split
  · exact h
  next h1 h2 h3 =>
    rcases lowP_spec (s := s) (c := c) hv with q | ⟨q1, q2, q3, q4⟩
    · exact absurd q h2
    have hh := (holdsP_pos hv h0.2.1 h0.2.2.1).1
    have hl := h.nn (show (lowP P s c).toNat < nN P by omega)
    exact (h.unit hv (by omega) hc (by omega) (by omega)).side hv (by omega)
theorem iv_roundP {P : Hp} {B T : Int} {s : Nat → Int} (h : IV P B T s) (hv : PV P) : ∀ n, n ≤ nN P → IV P B T (roundP P s n)
  | 0, _ => h
  | n + 1, hn => iv_slideC (iv_roundP h hv n (by omega)) hv (by omega)
theorem iv_roundsP {P : Hp} {B T : Int} (hv : PV P) : ∀ (k : Nat) (s : Nat → Int), IV P B T s → IV P B T (roundsP P k s)
  | 0, s, h => h
  | k + 1, s, h => by
    unfold roundsP
    split
    · exact iv_roundsP hv k _ ((iv_roundP h hv _ (Nat.le_refl _)).side hv (by omega))
    · exact iv_roundP h hv _ (Nat.le_refl _)
theorem iv_slidesP {P : Hp} {B T : Int} {s : Nat → Int} (h : IV P B T s) (hv : PV P) : IV P B T (slidesP P s) := by
  unfold slidesP
  exact (iv_roundsP hv _ _ ((h.side hv (by omega)).side hv (by omega))).side hv (by omega)
theorem iv_dryC {P : Hp} {B T : Int} {s : Nat → Int} {c : Nat} (h : IV P B T s) (hv : PV P) (hc : c < nN P) : IV P B T (dryC s c) := by
  have hn := hv.n
  have h0 := h.1 c hc
  unfold dryC
  generalize hx : (if 0 < s (64 + c) - (if 10 ≤ s c then 2 else 1) then s (64 + c) - (if 10 ≤ s c then 2 else 1) else 0) = x
  have hx2 : 0 ≤ x ∧ x ≤ 16 := by rw [← hx]; split <;> (try split) <;> omega
  refine h.of hv (fun k hk => ?_) ?_ (fun j _ _ _ _ _ _ _ => upd1_ne _ _ _ _ (by omega))
  · have h1 := h.1 k hk
    rw [upd1_ne _ _ _ k (by omega), upd1_ne _ _ _ (128 + k) (by omega), upd1_ne _ _ _ (192 + k) (by omega)]
    by_cases q : k = c
    · subst q; rw [upd1_same]; exact ⟨h1.1, hx2, h1.2.2⟩
    · rw [upd1_ne _ _ _ _ (by omega)]; exact h1
  · unfold SV
    rw [sumN_upd_out (by omega), upd1_ne _ _ _ _ (by omega)]
    exact h.2.1
theorem iv_dryP {P : Hp} {B T : Int} {s : Nat → Int} {a : Nat} (h : IV P B T s) (hv : PV P) : ∀ n, a + n ≤ nN P → IV P B T (dryP s a n)
  | 0, _ => h
  | n + 1, hn => iv_dryC (iv_dryP h hv n (by omega)) hv (by omega)
theorem cN_le {P : Hp} (hv : PV P) : cN P ≤ nN P := by
  obtain ⟨-, -, a, b, c, d⟩ := hv.cr
  unfold nN
  have := Nat.mul_le_mul_left (cN P) c
  omega
theorem iv_sunP {P : Hp} {B T : Int} {s : Nat → Int} (h : IV P B T s) (hv : PV P) : IV P B T (sunP P s) := by
  have := cN_le hv
  unfold sunP
  split
  · exact iv_dryP h hv _ (by omega)
  · exact h
theorem iv_wet {P : Hp} {B T x : Int} {s : Nat → Int} {c : Nat} (h : IV P B T s) (hv : PV P) (hc : c < nN P) (hx : 0 ≤ x ∧ x ≤ 16) : IV P B T (upd1 s (64 + c) x) := by
  have hn := hv.n
  refine h.of hv (fun k hk => ?_) ?_ (fun j _ _ _ _ _ _ _ => upd1_ne _ _ _ _ (by omega))
  · have h1 := h.1 k hk
    rw [upd1_ne _ _ _ k (by omega), upd1_ne _ _ _ (128 + k) (by omega), upd1_ne _ _ _ (192 + k) (by omega)]
    by_cases q : k = c
    · subst q; rw [upd1_same]; exact ⟨h1.1, hx, h1.2.2⟩
    · rw [upd1_ne _ _ _ _ (by omega)]; exact h1
  · unfold SV
    rw [sumN_upd_out (by omega), upd1_ne _ _ _ _ (by omega)]
    exact h.2.1
theorem iv_pack {P : Hp} {B T x : Int} {s : Nat → Int} {c : Nat} (h : IV P B T s) (hv : PV P) (hc : c < nN P) (hx : 0 ≤ x ∧ x ≤ 4) : IV P B T (upd1 s (128 + c) x) := by
  have hn := hv.n
  refine h.of hv (fun k hk => ?_) ?_ (fun j _ _ _ _ _ _ _ => upd1_ne _ _ _ _ (by omega))
  · have h1 := h.1 k hk
    rw [upd1_ne _ _ _ k (by omega), upd1_ne _ _ _ (64 + k) (by omega), upd1_ne _ _ _ (192 + k) (by omega)]
    by_cases q : k = c
    · subst q; rw [upd1_same]; exact ⟨h1.1, h1.2.1, hx, h1.2.2.2⟩
    · rw [upd1_ne _ _ _ _ (by omega)]; exact h1
  · unfold SV
    rw [sumN_upd_out (by omega), upd1_ne _ _ _ _ (by omega)]
    exact h.2.1
theorem iv_stone {P : Hp} {B T : Int} {s : Nat → Int} {c : Nat} (h : IV P B T s) (hv : PV P) (hc : c < nN P) : IV P B T (upd1 s (192 + c) 1) := by
  have hn := hv.n
  refine h.of hv (fun k hk => ?_) ?_ (fun j _ _ _ _ _ _ _ => upd1_ne _ _ _ _ (by omega))
  · have h1 := h.1 k hk
    rw [upd1_ne _ _ _ k (by omega), upd1_ne _ _ _ (64 + k) (by omega), upd1_ne _ _ _ (128 + k) (by omega)]
    by_cases q : k = c
    · subst q; rw [upd1_same]; exact ⟨h1.1, h1.2.1, h1.2.2.1, Or.inr rfl⟩
    · rw [upd1_ne _ _ _ _ (by omega)]; exact h1
  · unfold SV
    rw [sumN_upd_out (by omega), upd1_ne _ _ _ _ (by omega)]
    exact h.2.1
theorem offP_in {P : Hp} {B T : Int} {s : Nat → Int} {c : Nat} (h : IV P B T s) (hv : PV P) (hc : c < nN P) : 0 ≤ offP P s c ∧ offP P s c ≤ s c ∧ offP P s c ≤ 9 := by
  have h0 := h.nn hc
  have h1 := hv.2.2.2.2.2.2.2.2.2.2.2.1
  unfold offP
  split <;> omega
theorem iv_cutP {P : Hp} {B T : Int} {s : Nat → Int} {c : Nat} (h : IV P B T s) (hv : PV P) (hc : c < nN P) : IV P B T (cutP P s c) := by
  have hn := hv.n
  have ho := offP_in h hv hc
  unfold cutP
  generalize offP P s c = x at *
  refine h.of hv (fun k hk => ?_) ?_ (fun j _ _ _ _ _ _ _ => by rw [upd1_ne _ _ _ _ (by omega), upd1_ne _ _ _ _ (by omega)])
  · have h1 := h.1 k hk
    rw [upd1_ne _ _ _ k (by omega), upd1_ne _ 269 _ (64 + k) (by omega), upd1_ne _ _ _ (64 + k) (by omega), upd1_ne _ 269 _ (128 + k) (by omega), upd1_ne _ _ _ (128 + k) (by omega), upd1_ne _ 269 _ (192 + k) (by omega), upd1_ne _ _ _ (192 + k) (by omega)]
    by_cases q : k = c
    · subst q; rw [upd1_same]; exact ⟨by omega, h1.2⟩
    · rw [upd1_ne _ _ _ _ (by omega)]; exact h1
  · have hs : SV P B s := h.2.1
    unfold SV at hs ⊢
    rw [sumN_upd_out (by omega), sumN_upd hc, upd1_same]
    omega
theorem cell_lt {P : Hp} {x y : Nat} (hx : x < cN P) (hy : y < rN P) : cN P * y + x < nN P := by
  unfold nN
  have h1 := Nat.mul_le_mul_left (cN P) (show y + 1 ≤ rN P from hy)
  rw [Nat.mul_add] at h1
  omega
theorem iv_colP {P : Hp} {B T lvl : Int} {x far : Nat} (hv : PV P) (hx : x < cN P) : ∀ (f y : Nat) (s : Nat → Int), IV P B T s → IV P B T (colP P x far lvl f y s)
  | 0, y, s, h => h
  | f + 1, y, s, h => by
    unfold colP
    split
    · exact h
    split
    · exact h
    next h1 h2 =>
    have hc := cell_lt (P := P) hx (show y < rN P by omega)
    split
    · split
      · have h3 := cell_lt (P := P) hx (show y + 1 < rN P by assumption)
        rw [Nat.mul_add] at h3
        rw [Nat.add_assoc]
        exact iv_wet h hv (by omega) (by omega)
      · exact h
    split
    · exact iv_cutP (iv_wet h hv hc (by omega)) hv hc
    · exact iv_colP hv hx f (y + 1) _ (iv_wet h hv hc (by omega))
theorem iv_colsP {P : Hp} {B T lvl : Int} {far : Nat} {s : Nat → Int} (h : IV P B T s) (hv : PV P) : ∀ n, n ≤ cN P → IV P B T (colsP P far lvl s n)
  | 0, _ => h
  | n + 1, hn => iv_colP hv (by omega) _ _ _ (iv_colsP h hv n (by omega))
theorem iv_waveP {P : Hp} {B T lvl : Int} {far : Nat} {s : Nat → Int} (h : IV P B T s) (hv : PV P) : IV P B T (waveP P far lvl s) :=
  iv_colsP (h.side hv (by omega)) hv _ (Nat.le_refl _)
theorem chanceP_in (c : Int) : 0 ≤ chanceP c ∧ chanceP c < 2147483648 := by unfold chanceP; omega
theorem iv_chance {P : Hp} {B T x : Int} {s : Nat → Int} (h : IV P B T s) (hv : PV P) (hx : 0 ≤ x ∧ x < 2147483648) : IV P B T (upd1 s 288 x) := by
  have hn := hv.n
  refine ⟨fun k hk => ?_, ?_, h.2.2.1.congr (fun j _ _ _ => upd1_ne _ _ _ _ (by omega)), h.2.2.2.1.congr hv (fun j _ _ => upd1_ne _ _ _ _ (by omega)), by unfold KV; rw [upd1_same]; exact hx⟩
  · have h1 := h.1 k hk
    rw [upd1_ne _ _ _ k (by omega), upd1_ne _ _ _ (64 + k) (by omega), upd1_ne _ _ _ (128 + k) (by omega), upd1_ne _ _ _ (192 + k) (by omega)]
    exact h1
  · unfold SV
    rw [sumN_upd_out (by omega), upd1_ne _ _ _ _ (by omega)]
    exact h.2.1
theorem iv_drawP {P : Hp} {B T : Int} {s : Nat → Int} (h : IV P B T s) (hv : PV P) : IV P B T (drawP s) := iv_chance h hv (chanceP_in _)
theorem iv_toldP {P : Hp} {B T m : Int} {s : Nat → Int} (h : IV P B T s) (hv : PV P) : ∀ n, IV P B T (toldP P m s n)
  | 0 => h
  | n + 1 => by
    unfold toldP
    split
    · exact iv_waveP (iv_toldP h hv n) hv
    · exact iv_toldP h hv n
theorem iv_tideP {P : Hp} {B T m : Int} {s : Nat → Int} (h : IV P B T s) (hv : PV P) : IV P B T (tideP P m s) := by
  unfold tideP
  split
  · exact h
  split
  · exact h
  split
  · exact h
  split
  · split
    · exact iv_waveP (iv_drawP (iv_drawP (iv_drawP h hv) hv) hv) hv
    · exact iv_drawP h hv
  · exact h
theorem iv_seaP {P : Hp} {B T : Int} {s : Nat → Int} (h : IV P B T s) (hv : PV P) : IV P B T (seaP P s) := iv_tideP (iv_toldP h hv _) hv
/-- flags: what a row keeps when only numbers 264 .. 267 and 270 move -/
theorem iv_flagsOf {P : Hp} {B T T2 : Int} {s t : Nat → Int} (h : IV P B T s) (hv : PV P) (e : ∀ j : Nat, j < 264 ∨ (268 ≤ j ∧ j ≠ 270) → t j = s j) (hf : FV P T2 t) : IV P B T2 t := by
  have hn := hv.n
  refine ⟨fun k hk => ?_, ?_, hf, h.2.2.2.1.congr hv (fun j _ _ => e j (by omega)), by unfold KV; rw [e 288 (by omega)]; exact h.2.2.2.2⟩
  · have h1 := h.1 k hk
    rw [e k (by omega), e (64 + k) (by omega), e (128 + k) (by omega), e (192 + k) (by omega)]
    exact h1
  · unfold SV
    rw [sumN_congr (f := t) (g := s) (fun i hi => e i (by omega)), e 269 (by omega)]
    exact h.2.1
theorem iv_flagP {P : Hp} {B T : Int} {s : Nat → Int} {k : Nat} (h : IV P B T s) (hv : PV P) (hk : k < 4) : IV P B T (flagP P s k) := by
  unfold flagP
  split
  · split
    · obtain ⟨h1, h2, h3⟩ := h.2.2.1
      refine iv_flagsOf h hv (fun j hj => upd1_ne _ _ _ _ (by omega)) ⟨by rw [upd1_ne _ _ _ _ (by omega)]; exact h1, by rw [upd1_ne _ _ _ _ (by omega)]; exact h2, fun j hj => ?_⟩
      rw [upd1_ne _ _ _ 268 (by omega)] at hj
      have h4 := h3 j hj
      rw [upd1_ne _ _ _ (256 + j) (by omega), upd1_ne _ _ _ (260 + j) (by omega), upd1_ne _ _ _ 270 (by omega)]
      by_cases q : j = k
      · subst q; rw [upd1_same]; exact ⟨h4.1, h4.2.1, by omega, by omega⟩
      · rw [upd1_ne _ _ _ _ (by omega)]; exact h4
    · exact h
  · exact h
theorem iv_flagsP {P : Hp} {B T : Int} {s : Nat → Int} (h : IV P B T s) (hv : PV P) : ∀ n, n ≤ 4 → IV P B T (flagsP P s n)
  | 0, _ => h
  | n + 1, hn => iv_flagP (iv_flagsP h hv n (by omega)) hv (by omega)
theorem iv_tick {P : Hp} {B T : Int} {s : Nat → Int} (h : IV P B T s) (hv : PV P) : IV P B (T + 1) (upd1 s 270 (s 270 + 1)) := by
  obtain ⟨h1, h2, h3⟩ := h.2.2.1
  refine iv_flagsOf h hv (fun j hj => upd1_ne _ _ _ _ (by omega)) ⟨by rw [upd1_same]; omega, by rw [upd1_ne _ _ _ _ (by omega)]; exact h2, fun j hj => ?_⟩
  rw [upd1_ne _ _ _ 268 (by omega)] at hj
  have h4 := h3 j hj
  rw [upd1_ne _ _ _ (256 + j) (by omega), upd1_ne _ _ _ (260 + j) (by omega), upd1_same, upd1_ne _ _ _ (264 + j) (by omega)]
  exact ⟨h4.1, h4.2.1, by omega, by omega⟩
theorem iv_finishP {P : Hp} {B T : Int} {s : Nat → Int} (h : IV P B T s) (hv : PV P) : IV P B (T + 1) (finishP P s) := by
  unfold finishP
  have h1 := iv_slidesP (iv_sunP (iv_seaP h hv) hv) hv
  have h2 := h1.2.2.1.2.1
  exact iv_tick (iv_flagsP h1 hv _ (by omega)) hv
theorem iv_doesP {P : Hp} {B T : Int} {s : Nat → Int} {k : Int} {c t : Nat} (h : IV P B T s) (hv : PV P) (hk : 0 ≤ k ∧ k ≤ 4) (hc : k ≤ 3 → c < nN P) (ht : k = 0 → t < nN P ∧ t ≠ c) : IV P B T (doesP s k c t) := by
  unfold doesP
  split
  · next h0 =>
    have hc := hc (by omega)
    have ht := ht h0
    have h1 := h.nn hc
    split
    · exact h
    split
    · exact h
    split
    · exact h
    exact iv_pack (h.unit hv (by omega) hc ht.1 (by omega)) hv hc (by omega)
  split
  · have hc := hc (by omega)
    have h1 := h.1 c hc
    exact iv_pack h hv hc (by split <;> omega)
  split
  · have hc := hc (by omega)
    have h1 := h.1 c hc
    exact iv_wet h hv hc (by split <;> omega)
  split
  · exact iv_stone h hv (hc (by omega))
  · exact h
/-- what acts of a plan are -/
theorem pv_plan {P : Hp} (hv : PV P) : (0 ≤ P 100 41 ∧ P 100 41 ≤ 3) ∧
  (∀ p : Nat, p < (P 100 41).toNat → (0 ≤ P 118 p ∧ P 118 p ≤ 4) ∧ ∀ i : Nat, i < (P 118 p).toNat → (1 ≤ P 119 (4 * p + i) ∧ P 119 (4 * p + i) ≤ 8) ∧
    ∀ k : Nat, k < (P 119 (4 * p + i)).toNat → (0 ≤ actAtP P p i k 0 ∧ actAtP P p i k 0 ≤ 4) ∧ (actAtP P p i k 0 ≤ 3 → 0 ≤ actAtP P p i k 1 ∧ actAtP P p i k 1 < nN P) ∧ (actAtP P p i k 0 = 4 → actAtP P p i k 1 = -1) ∧
      (actAtP P p i k 0 = 0 → 0 ≤ actAtP P p i k 2 ∧ actAtP P p i k 2 < nN P ∧ actAtP P p i k 2 ≠ actAtP P p i k 1) ∧ (actAtP P p i k 0 ≠ 0 → actAtP P p i k 2 = -1)) := by
  obtain ⟨-, -, -, -, -, -, -, -, -, -, -, -, -, -, -, -, -, h1, h2, -⟩ := hv
  exact ⟨h1, h2⟩
theorem iv_handOf {P : Hp} {B T : Int} {s t : Nat → Int} {i : Nat} (h : IV P B T s) (hv : PV P) (hp : s 275 ≠ -1) (hi : i < (P 118 (s 275).toNat).toNat) (e : ∀ j : Nat, j ≠ 276 + i → j ≠ 280 + i → j ≠ 284 + i → t j = s j)
    (v1 : 0 ≤ t (276 + i) ∧ t (276 + i) < P 119 (4 * (s 275).toNat + i)) (v2 : t (284 + i) = 0 ∨ t (284 + i) = 1) (v3 : P 102 5 ≠ 0 → 0 ≤ t (280 + i) ∧ t (280 + i) < P 102 5) : IV P B T t := by
  have hn := hv.n
  have hH := h.2.2.2.1
  have hpl := pv_plan hv
  have hpp := hpl.2 (s 275).toNat (by have := hH.1; omega)
  have hi4 : i < 4 := by omega
  refine ⟨fun k hk => ?_, ?_, h.2.2.1.congr (fun j _ _ _ => e j (by omega) (by omega) (by omega)), ⟨?_, ?_⟩, by unfold KV; rw [e 288 (by omega) (by omega) (by omega)]; exact h.2.2.2.2⟩
  · have h1 := h.1 k hk
    rw [e k (by omega) (by omega) (by omega), e (64 + k) (by omega) (by omega) (by omega), e (128 + k) (by omega) (by omega) (by omega), e (192 + k) (by omega) (by omega) (by omega)]
    exact h1
  · unfold SV
    rw [sumN_congr (f := t) (g := s) (fun j hj => e j (by omega) (by omega) (by omega)), e 269 (by omega) (by omega) (by omega)]
    exact h.2.1
  · rw [e 275 (by omega) (by omega) (by omega)]; exact hH.1
  · rw [e 275 (by omega) (by omega) (by omega)]
    intro _ k hk
    by_cases q : k = i
    · subst q; exact ⟨v1, v2, v3⟩
    · have := hH.2 hp k hk
      rw [e (276 + k) (by omega) (by omega) (by omega), e (280 + k) (by omega) (by omega) (by omega), e (284 + k) (by omega) (by omega) (by omega)]
      exact this
theorem doesP_far {s : Nat → Int} {k : Int} {c t j : Nat} (hc : c < 64) (ht : t < 64) (hj : 256 ≤ j) : doesP s k c t j = s j := by
  unfold doesP
  split
  · split
    · rfl
    split
    · rfl
    split
    · rfl
    rw [upd1_ne _ _ _ _ (by omega), unitP_far (by omega) (by omega) (by omega) (by omega)]
  split
  · exact upd1_ne _ _ _ _ (by omega)
  split
  · exact upd1_ne _ _ _ _ (by omega)
  split
  · exact upd1_ne _ _ _ _ (by omega)
  · rfl
theorem iv_handP {P : Hp} {B T : Int} {s : Nat → Int} {i : Nat} (h : IV P B T s) (hv : PV P) (hp : s 275 ≠ -1) (hi : i < (P 118 (s 275).toNat).toNat) : IV P B T (handP P (s 275).toNat s i) ∧ handP P (s 275).toNat s i 275 = s 275 := by
  have hn := hv.n
  have hH := h.2.2.2.1
  have hpl := pv_plan hv
  have hpp := hpl.2 (s 275).toNat (by have := hH.1; omega)
  have hi4 : i < 4 := by omega
  have hh := hH.2 hp i hi
  have ha := hpp.2 i hi
  have hk := ha.2 (s (276 + i)).toNat (by omega)
  have htire := hv.2.2.2.2.2.2.2.1
  unfold handP
  split
  · exact ⟨iv_handOf h hv hp hi (fun j _ _ _ => upd1_ne _ _ _ _ (by omega)) (by rw [upd1_ne _ _ _ _ (by omega)]; exact hh.1) (by rw [upd1_same]; exact Or.inl rfl) (by rw [upd1_ne _ _ _ _ (by omega)]; exact hh.2.2), upd1_ne _ _ _ _ (by omega)⟩
  simp only []
  generalize hkind : actAtP P (s 275).toNat i (s (276 + i)).toNat 0 = kind at *
  generalize hcell : actAtP P (s 275).toNat i (s (276 + i)).toNat 1 = cell at *
  generalize hto : actAtP P (s 275).toNat i (s (276 + i)).toNat 2 = to at *
  have hI : IV P B T (doesP s kind cell.toNat to.toNat) := iv_doesP h hv hk.1 (fun q => by have := hk.2.1 q; omega) (fun q => by have := hk.2.2.2.1 q; have := hk.2.1 (by omega); omega)
  have hfar : ∀ j, 256 ≤ j → doesP s kind cell.toNat to.toNat j = s j := by
    intro j hj
    by_cases q : kind ≤ 3
    · have h1 := hk.2.1 q
      by_cases q0 : kind = 0
      · have h2 := hk.2.2.2.1 q0
        exact doesP_far (by omega) (by omega) hj
      · have h2 := hk.2.2.2.2 q0
        exact doesP_far (by omega) (by omega) hj
    · unfold doesP
      rw [if_neg (by omega), if_neg (by omega), if_neg (by omega), if_neg (by omega)]
  generalize doesP s kind cell.toNat to.toNat = u at *
  have h275 := hfar 275 (by omega)
  have hmod1 : 0 ≤ (s (276 + i) + 1) % P 119 (4 * (s 275).toNat + i) := Int.emod_nonneg _ (by omega)
  have hmod2 : (s (276 + i) + 1) % P 119 (4 * (s 275).toNat + i) < P 119 (4 * (s 275).toNat + i) := Int.emod_lt_of_pos _ (by omega)
  generalize (s (276 + i) + 1) % P 119 (4 * (s 275).toNat + i) = x at *
  have e284 := hfar (284 + i) (by omega)
  rw [← h275] at hp hi hmod2 ⊢
  rw [upd1_same (k := 280 + i)]
  split
  · refine ⟨iv_handOf hI hv hp hi (fun j _ _ _ => by rw [upd1_ne _ _ _ _ (by omega), upd1_ne _ _ _ _ (by omega)]) (by rw [upd1_ne _ _ _ _ (by omega), upd1_same]; exact ⟨hmod1, hmod2⟩) (by rw [upd1_ne _ _ _ _ (by omega), upd1_ne _ _ _ _ (by omega), e284]; exact hh.2.1) (fun q => absurd (by assumption) q), ?_⟩
    rw [upd1_ne _ _ _ _ (by omega), upd1_ne _ _ _ _ (by omega)]
  next h0 =>
  have h3 := hh.2.2 h0
  rw [wr_eq (by omega)]
  split
  · refine ⟨iv_handOf hI hv hp hi (fun j _ _ _ => by rw [upd1_ne _ _ _ _ (by omega), upd1_ne _ _ _ _ (by omega)]) (by rw [upd1_ne _ _ _ _ (by omega), upd1_same]; exact ⟨hmod1, hmod2⟩) (by rw [upd1_ne _ _ _ _ (by omega), upd1_ne _ _ _ _ (by omega), e284]; exact hh.2.1) (fun _ => by rw [upd1_same]; omega), ?_⟩
    rw [upd1_ne _ _ _ _ (by omega), upd1_ne _ _ _ _ (by omega)]
  · refine ⟨iv_handOf hI hv hp hi (fun j _ _ _ => by rw [upd1_ne _ _ _ _ (by omega), upd1_ne _ _ _ _ (by omega), upd1_ne _ _ _ _ (by omega), upd1_ne _ _ _ _ (by omega)]) (by rw [upd1_ne _ _ _ _ (by omega), upd1_ne _ _ _ _ (by omega), upd1_ne _ _ _ _ (by omega), upd1_same]; exact ⟨hmod1, hmod2⟩) (by rw [upd1_same]; exact Or.inr rfl) (fun _ => by rw [upd1_ne _ _ _ _ (by omega), upd1_same]; omega), ?_⟩
    rw [upd1_ne _ _ _ _ (by omega), upd1_ne _ _ _ _ (by omega), upd1_ne _ _ _ _ (by omega), upd1_ne _ _ _ _ (by omega)]
theorem iv_handsLP {P : Hp} {B T : Int} {s : Nat → Int} (h : IV P B T s) (hv : PV P) (hp : s 275 ≠ -1) : ∀ n, n ≤ (P 118 (s 275).toNat).toNat → IV P B T (handsLP P (s 275).toNat s n) ∧ handsLP P (s 275).toNat s n 275 = s 275
  | 0, _ => ⟨h, rfl⟩
  | n + 1, hn => by
    obtain ⟨h1, h2⟩ := iv_handsLP h hv hp n (by omega)
    have h3 := iv_handP (i := n) h1 hv (by rw [h2]; exact hp) (by rw [h2]; omega)
    rw [h2] at h3
    exact ⟨h3.1, h3.2⟩
theorem iv_handsP {P : Hp} {B T : Int} {s : Nat → Int} (h : IV P B T s) (hv : PV P) : IV P B T (handsP P s) := by
  unfold handsP
  split
  · exact h
  · exact (iv_handsLP h hv (by assumption) _ (Nat.le_refl _)).1
theorem iv_minuteP {P : Hp} {B T : Int} {s : Nat → Int} (h : IV P B T s) (hv : PV P) : IV P B (T + 1) (minuteP P s) := iv_finishP (iv_handsP h hv) hv
