/-! ROWS that agree below a place go on agreeing -/
def Ag (a : Nat) (s t : Nat → Int) : Prop := ∀ j, j < a → t j = s j
theorem Ag.u {a : Nat} {s t : Nat → Int} {k : Nat} {x : Int} (h : Ag a s t) : Ag a (upd1 s k x) (upd1 t k x) := by
  intro j hj
  unfold upd1
  split
  · rfl
  · exact h j hj
theorem Ag.ui {a : Nat} {s t : Nat → Int} {k : Nat} {x y : Int} (h : Ag a s t) (e : y = x) : Ag a (upd1 s k x) (upd1 t k y) := by rw [e]; exact h.u
theorem ag_unit {a b c : Nat} {s t : Nat → Int} (h : Ag a s t) (ha : 256 ≤ a) (hb : b < 64) (hc : c < 64) : Ag a (unitP s b c) (unitP t b c) := by
  unfold unitP mixW
  rw [h (64 + c) (by omega), h c (by omega), h (64 + b) (by omega), h b (by omega)]
  exact h.u.u.u.u
theorem ag_low {P : Hp} {a c : Nat} {s t : Nat → Int} (hv : PV P) (h : Ag a s t) (ha : 256 ≤ a) : lowP P t c = lowP P s c := by
  have hN := hv.n
  exact low_congr hv (fun k hk => ⟨h k (by omega), h (192 + k) (by omega)⟩)
theorem ag_slideC {P : Hp} {a c : Nat} {s t : Nat → Int} (hv : PV P) (h : Ag a s t) (ha : 275 ≤ a) (hc : c < nN P) : Ag a (slideC P s c) (slideC P t c) := by
  have hN := hv.n
  unfold slideC
  rw [ag_low hv h (by omega), h (192 + c) (by omega), h c (by omega), h (64 + c) (by omega), h (128 + c) (by omega), h 272 (by omega)]
  by_cases z1 : s (192 + c) = 1
  · rw [if_pos z1, if_pos z1]; exact h
  rw [if_neg z1, if_neg z1]
  by_cases z2 : lowP P s c = -1
  · rw [if_pos z2, if_pos z2]; exact h
  rw [if_neg z2, if_neg z2]
  have hl := (lowP_spec (s := s) (c := c) hv).resolve_left z2
  rw [h (lowP P s c).toNat (by omega)]
  by_cases z3 : s c - s (lowP P s c).toNat ≤ holdsP P (s (64 + c)) (s (128 + c))
  · rw [if_pos z3, if_pos z3]; exact h
  · rw [if_neg z3, if_neg z3]
    exact (ag_unit h (by omega) (by omega) (by omega)).u
theorem ag_roundP {P : Hp} {a : Nat} {s t : Nat → Int} (hv : PV P) (h : Ag a s t) (ha : 275 ≤ a) : ∀ n, n ≤ nN P → Ag a (roundP P s n) (roundP P t n)
  | 0, _ => h
  | n + 1, hn => ag_slideC hv (ag_roundP hv h ha n (by omega)) ha (by omega)
theorem ag_roundsP {P : Hp} {a : Nat} (hv : PV P) (ha : 275 ≤ a) : ∀ (k : Nat) (s t : Nat → Int), Ag a s t → Ag a (roundsP P k s) (roundsP P k t)
  | 0, _, _, h => h
  | k + 1, s, t, h => by
    have h1 := ag_roundP hv h ha (nN P) (Nat.le_refl _)
    unfold roundsP
    rw [h 272 (by omega), h1 272 (by omega), h1 273 (by omega)]
    split
    · exact ag_roundsP hv ha k _ _ h1.u
    · exact h1
theorem ag_slidesP {P : Hp} {a : Nat} {s t : Nat → Int} (hv : PV P) (h : Ag a s t) (ha : 275 ≤ a) : Ag a (slidesP P s) (slidesP P t) := by
  have h1 := ag_roundsP (P := P) hv ha 50 _ _ ((h.u (k := 272) (x := 0)).u (k := 273) (x := 0))
  unfold slidesP
  exact h1.ui (by rw [h1 271 (by omega), h1 272 (by omega)])
theorem ag_colP {P : Hp} {a x far : Nat} {lvl : Int} (hv : PV P) (ha : 275 ≤ a) (hx : x < cN P) : ∀ (f y : Nat) (s t : Nat → Int), Ag a s t → Ag a (colP P x far lvl f y s) (colP P x far lvl f y t)
  | 0, _, _, _, h => h
  | f + 1, y, s, t, h => by
    have hN := hv.n
    unfold colP
    by_cases z1 : far ≤ y
    · rw [if_pos z1, if_pos z1]; exact h
    rw [if_neg z1, if_neg z1]
    by_cases z2 : rN P ≤ y
    · rw [if_pos z2, if_pos z2]; exact h
    rw [if_neg z2, if_neg z2]
    have hc := cell_lt (P := P) hx (show y < rN P by omega)
    rw [h (192 + (cN P * y + x)) (by omega), h (cN P * y + x) (by omega)]
    by_cases z3 : s (192 + (cN P * y + x)) = 1
    · rw [if_pos z3, if_pos z3]
      split
      · exact h.u
      · exact h
    rw [if_neg z3, if_neg z3]
    by_cases z4 : lvl < s (cN P * y + x)
    · rw [if_pos z4, if_pos z4]
      have h1 := h.u (k := 64 + (cN P * y + x)) (x := 16)
      unfold cutP offP
      rw [h1 (cN P * y + x) (by omega), h1 269 (by omega)]
      exact h1.u.u
    · rw [if_neg z4, if_neg z4]
      exact ag_colP hv ha hx f (y + 1) _ _ h.u
theorem ag_colsP {P : Hp} {a far : Nat} {lvl : Int} {s t : Nat → Int} (hv : PV P) (ha : 275 ≤ a) (h : Ag a s t) : ∀ n, n ≤ cN P → Ag a (colsP P far lvl s n) (colsP P far lvl t n)
  | 0, _ => h
  | n + 1, hn => ag_colP hv ha (by omega) 8 0 _ _ (ag_colsP hv ha h n (by omega))
theorem ag_waveP {P : Hp} {a far : Nat} {lvl : Int} {s t : Nat → Int} (hv : PV P) (ha : 275 ≤ a) (h : Ag a s t) : Ag a (waveP P far lvl s) (waveP P far lvl t) := by
  unfold waveP
  exact ag_colsP hv ha (h.ui (by rw [h 274 (by omega)])) _ (Nat.le_refl _)
theorem ag_toldP {P : Hp} {a : Nat} {m : Int} {s t : Nat → Int} (hv : PV P) (ha : 275 ≤ a) (h : Ag a s t) : ∀ n, Ag a (toldP P m s n) (toldP P m t n)
  | 0 => h
  | n + 1 => by
    unfold toldP
    split
    · exact ag_waveP hv ha (ag_toldP hv ha h n)
    · exact ag_toldP hv ha h n
theorem ag_drawP {a : Nat} {s t : Nat → Int} (ha : 289 ≤ a) (h : Ag a s t) : Ag a (drawP s) (drawP t) := by
  unfold drawP
  exact h.ui (by rw [h 288 (by omega)])
theorem ag_tideP {P : Hp} {a : Nat} {m : Int} {s t : Nat → Int} (hv : PV P) (ha : 275 ≤ a) (h0 : P 112 0 = -1 ∨ 289 ≤ a) (h : Ag a s t) : Ag a (tideP P m s) (tideP P m t) := by
  unfold tideP
  by_cases z : P 112 0 = -1
  · rw [if_pos z, if_pos z]; exact h
  have h1 := h0.resolve_left z
  rw [if_neg z, if_neg z]
  split
  · exact h
  split
  · exact h
  split
  · have a1 := ag_drawP h1 h
    have a2 := ag_drawP h1 a1
    have a3 := ag_drawP h1 a2
    have e : ∀ {u w : Nat → Int} {n : Int}, Ag a u w → drawnP w n = drawnP u n := fun e => by unfold drawnP; rw [e 288 (by omega)]
    rw [e h, e a1, e a2]
    split
    · exact ag_waveP hv ha a3
    · exact a1
  · exact h
theorem ag_seaP {P : Hp} {a : Nat} {s t : Nat → Int} (hv : PV P) (ha : 275 ≤ a) (h0 : P 112 0 = -1 ∨ 289 ≤ a) (h : Ag a s t) : Ag a (seaP P s) (seaP P t) := by
  unfold seaP
  rw [h 270 (by omega)]
  exact ag_tideP hv ha h0 (ag_toldP hv ha h _)
theorem ag_dryP {a b : Nat} {s t : Nat → Int} (ha : 275 ≤ a) (h : Ag a s t) : ∀ n, b + n ≤ 64 → Ag a (dryP s b n) (dryP t b n)
  | 0, _ => h
  | n + 1, hn => by
    have h1 := ag_dryP ha h n (by omega) (b := b)
    unfold dryP dryC
    rw [h1 (64 + (b + n)) (by omega), h1 (b + n) (by omega)]
    exact h1.u
theorem ag_sunP {P : Hp} {a : Nat} {s t : Nat → Int} (hv : PV P) (ha : 275 ≤ a) (h : Ag a s t) : Ag a (sunP P s) (sunP P t) := by
  have hN := hv.n
  have hcn := cN_le hv
  unfold sunP
  rw [h 270 (by omega)]
  split
  · exact ag_dryP ha h _ (by omega)
  · exact h
theorem ag_flagsP {P : Hp} {a m : Nat} {s t : Nat → Int} (hv : PV P) (ha : 275 ≤ a) (h : Ag a s t) (hf : ∀ k : Nat, k < m → 0 ≤ s (256 + k) ∧ s (256 + k) < nN P) : ∀ n, n ≤ m → n ≤ 4 → Ag a (flagsP P s n) (flagsP P t n)
  | 0, _, _ => h
  | n + 1, hm, hn => by
    have hN := hv.n
    have h1 := ag_flagsP hv ha h hf n (by omega) (by omega)
    have e := flagsP_far (P := P) (s := s) (j := 256 + n) (by omega) n (by omega)
    have := hf n (by omega)
    unfold flagsP flagP
    rw [h1 (264 + n) (by omega), h1 (256 + n) (by omega), h1 (260 + n) (by omega), h1 270 (by omega), h1 (flagsP P s n (256 + n)).toNat (by omega)]
    split
    · split
      · exact h1.u
      · exact h1
    · exact h1
theorem ag_finishP {P : Hp} {a : Nat} {B T : Int} {s t : Nat → Int} (hv : PV P) (ha : 275 ≤ a) (h0 : P 112 0 = -1 ∨ 289 ≤ a) (hI : IV P B T s) (h : Ag a s t) : Ag a (finishP P s) (finishP P t) := by
  have i3 := iv_slidesP (iv_sunP (iv_seaP hI hv) hv) hv
  have h3 := ag_slidesP hv (ag_sunP hv ha (ag_seaP hv ha h0 h)) ha
  have i4 := i3.2.2.1
  unfold finishP
  dsimp only
  rw [h3 268 (by omega)]
  have h4 := ag_flagsP hv ha h3 (fun k hk => (i4.2.2 k hk).1) (slidesP P (sunP P (seaP P s)) 268).toNat (Nat.le_refl _) (by have := i4.2.1; omega)
  exact h4.ui (by rw [h4 270 (by omega)])
theorem ag_doesP {a c d : Nat} {kind : Int} {s t : Nat → Int} (ha : 275 ≤ a) (hc : c < 64) (hd : d < 64) (h : Ag a s t) : Ag a (doesP s kind c d) (doesP t kind c d) := by
  unfold doesP
  rw [h c (by omega), h (192 + c) (by omega), h (192 + d) (by omega), h (128 + c) (by omega), h (64 + c) (by omega)]
  split
  · split
    · exact h
    split
    · exact h
    split
    · exact h
    · exact (ag_unit h (by omega) hc hd).u
  split
  · exact h.u
  split
  · exact h.u
  split
  · exact h.u
  · exact h
theorem act_in {P : Hp} {p i k : Nat} (hv : PV P) (hp : p < (P 100 41).toNat) (hi : i < (P 118 p).toNat) (hk : k < (P 119 (4 * p + i)).toNat) : (actAtP P p i k 1).toNat < 64 ∧ (actAtP P p i k 2).toNat < 64 := by
  have hN := hv.n
  have hac := ((((pv_plan hv).2 p hp).2 i hi).2 k hk)
  obtain ⟨a1, a2, a3, a4, a5⟩ := hac
  constructor
  · by_cases z : actAtP P p i k 0 ≤ 3
    · have := a2 z; omega
    · have := a3 (by omega); omega
  · by_cases z : actAtP P p i k 0 = 0
    · have := a4 z; omega
    · have := a5 z; omega
theorem ag_handP {P : Hp} {p i a : Nat} {s t : Nat → Int} (ha : 288 ≤ a) (hv : PV P) (hp : p < (P 100 41).toNat) (hi : i < (P 118 p).toNat) (hk : 0 ≤ s (276 + i) ∧ s (276 + i) < P 119 (4 * p + i)) (h : Ag a s t) : Ag a (handP P p s i) (handP P p t i) := by
  have h4 := ((pv_plan hv).2 p hp).1
  obtain ⟨c1, c2⟩ := act_in (k := (s (276 + i)).toNat) hv hp hi (by omega)
  unfold handP
  dsimp only
  rw [h (284 + i) (by omega), h (276 + i) (by omega), h (280 + i) (by omega)]
  split
  · exact h.u
  have h1 := ag_doesP (kind := actAtP P p i (s (276 + i)).toNat 0) (a := a) (by omega) c1 c2 h
  have h2 := (h1.u (k := 276 + i) (x := (s (276 + i) + 1) % P 119 (4 * p + i))).u (k := 280 + i) (x := wr (s (280 + i) + 1))
  rw [h2 (280 + i) (by omega)]
  split
  · exact h2
  split
  · exact h2
  · exact h2.u.u
theorem ag_minuteP {P : Hp} {a : Nat} {B T : Int} {s t : Nat → Int} (ha : 288 ≤ a) (hv : PV P) (h0 : P 112 0 = -1 ∨ 289 ≤ a) (hI : IV P B T s) (h : Ag a s t) : Ag a (minuteP P s) (minuteP P t) := by
  have hH := hI.2.2.2.1
  have i1 := iv_handsP hI hv
  unfold minuteP
  refine ag_finishP hv (by omega) h0 i1 ?_
  unfold handsP
  rw [h 275 (by omega)]
  by_cases z : s 275 = -1
  · rw [if_pos z, if_pos z]; exact h
  rw [if_neg z, if_neg z]
  have hp : (s 275).toNat < (P 100 41).toNat := by have := hH.1; omega
  have h4 := ((pv_plan hv).2 _ hp).1
  have key : ∀ n, n ≤ (P 118 (s 275).toNat).toNat → Ag a (handsLP P (s 275).toNat s n) (handsLP P (s 275).toNat t n) := by
    intro n
    induction n with
    | zero => exact fun _ => h
    | succ n ih =>
      intro hn
      have e := (handsLP_far (j := 256) hv (by omega) hp (fun i hi => (hH.2 z i hi).1) n (by omega)).2 n (Nat.le_refl _) (by omega)
      exact ag_handP ha hv hp (by omega) (by rw [e]; exact (hH.2 z n (by omega)).1) (ih (by omega))
  exact key _ (Nat.le_refl _)
