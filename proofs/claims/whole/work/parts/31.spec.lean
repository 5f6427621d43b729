/-! THE SPECIFICATION of minutes, on a row s of 289 numbers (the model's own layout), with what is told as a heap P (places 100 .. 120) -/
def cN (P : Hp) : Nat := (P 100 10).toNat
def rN (P : Hp) : Nat := (P 100 11).toNat
def nN (P : Hp) : Nat := cN P * rN P
def strP (P : Hp) (w : Int) : Int :=
  if w = 0 then 0 else if w = 16 then 0 else
  if 0 < P 102 7 - P 102 8 * (if 0 ≤ w - P 102 6 then w - P 102 6 else 0 - (w - P 102 6)) then P 102 7 - P 102 8 * (if 0 ≤ w - P 102 6 then w - P 102 6 else 0 - (w - P 102 6)) else 0
def holdsP (P : Hp) (w p : Int) : Int := 1 + strP P w + P 102 1 * p
def mixW (s : Nat → Int) (a b : Nat) : Int := (s (64 + b) * s b + s (64 + a)) / (s b + 1)
def unitP (s : Nat → Int) (a b : Nat) : Nat → Int :=
  upd1 (upd1 (upd1 (upd1 s (64 + b) (mixW s a b)) (128 + b) 0) a (s a - 1)) b (s b + 1)
def candP (P : Hp) (s : Nat → Int) (best o : Int) : Int :=
  if o < 0 then best else if (nN P : Int) ≤ o then best else if s (192 + o.toNat) = 1 then best else
  if best = -1 then o else if s best.toNat ≤ s o.toNat then best else o
def lowP (P : Hp) (s : Nat → Int) (c : Nat) : Int :=
  candP P s (candP P s (candP P s (candP P s (-1) ((c : Int) - cN P)) (if 0 < c % cN P then (c : Int) - 1 else -1)) (if c % cN P + 1 < cN P then (c : Int) + 1 else -1)) ((c : Int) + cN P)
def quietP (P : Hp) (s : Nat → Int) (c : Nat) : Prop := s (192 + c) = 1 ∨ lowP P s c = -1 ∨ s c - s (lowP P s c).toNat ≤ holdsP P (s (64 + c)) (s (128 + c))
def slideC (P : Hp) (s : Nat → Int) (c : Nat) : Nat → Int :=
  if s (192 + c) = 1 then s else if lowP P s c = -1 then s else if s c - s (lowP P s c).toNat ≤ holdsP P (s (64 + c)) (s (128 + c)) then s else
  upd1 (unitP s c (lowP P s c).toNat) 272 (s 272 + 1)
def roundP (P : Hp) (s : Nat → Int) : Nat → (Nat → Int)
  | 0 => s
  | n + 1 => slideC P (roundP P s n) n
def roundsP (P : Hp) : Nat → (Nat → Int) → (Nat → Int)
  | 0, s => s
  | k + 1, s => if s 272 < roundP P s (nN P) 272 then roundsP P k (upd1 (roundP P s (nN P)) 273 (roundP P s (nN P) 273 + 1)) else roundP P s (nN P)
def slidesP (P : Hp) (s : Nat → Int) : Nat → Int :=
  upd1 (roundsP P 50 (upd1 (upd1 s 272 0) 273 0)) 271 (wr (roundsP P 50 (upd1 (upd1 s 272 0) 273 0) 271 + roundsP P 50 (upd1 (upd1 s 272 0) 273 0) 272))
def flagP (P : Hp) (s : Nat → Int) (k : Nat) : Nat → Int :=
  if s (264 + k) = -1 then (if s (s (256 + k)).toNat < s (260 + k) - P 102 4 then upd1 s (264 + k) (s 270) else s) else s
def flagsP (P : Hp) (s : Nat → Int) : Nat → (Nat → Int)
  | 0 => s
  | n + 1 => flagP P (flagsP P s n) n
def dryC (s : Nat → Int) (c : Nat) : Nat → Int :=
  upd1 s (64 + c) (if 0 < s (64 + c) - (if 10 ≤ s c then 2 else 1) then s (64 + c) - (if 10 ≤ s c then 2 else 1) else 0)
def dryP (s : Nat → Int) (a : Nat) : Nat → (Nat → Int)
  | 0 => s
  | n + 1 => dryC (dryP s a n) (a + n)
def sunP (P : Hp) (s : Nat → Int) : Nat → Int := if (s 270 + 1) % P 102 2 = 0 then dryP s (cN P) (nN P - cN P) else s
def offP (P : Hp) (s : Nat → Int) (c : Nat) : Int := if s c < P 100 39 then s c else P 100 39
def cutP (P : Hp) (s : Nat → Int) (c : Nat) : Nat → Int := upd1 (upd1 s c (s c - offP P s c)) 269 (s 269 + offP P s c)
def colP (P : Hp) (x far : Nat) (lvl : Int) : Nat → Nat → (Nat → Int) → (Nat → Int)
  | 0, _, s => s
  | f + 1, y, s => if far ≤ y then s else if rN P ≤ y then s else
    if s (192 + (cN P * y + x)) = 1 then (if y + 1 < rN P then upd1 s (64 + (cN P * y + x) + cN P) 16 else s) else
    if lvl < s (cN P * y + x) then cutP P (upd1 s (64 + (cN P * y + x)) 16) (cN P * y + x) else colP P x far lvl f (y + 1) (upd1 s (64 + (cN P * y + x)) 16)
def colsP (P : Hp) (far : Nat) (lvl : Int) (s : Nat → Int) : Nat → (Nat → Int)
  | 0 => s
  | n + 1 => colP P n far lvl 8 0 (colsP P far lvl s n)
def waveP (P : Hp) (far : Nat) (lvl : Int) (s : Nat → Int) : Nat → Int := colsP P far lvl (upd1 s 274 (wr (s 274 + 1))) (cN P)
def chanceP (c : Int) : Int := (1103515245 * c + 12345) % 2147483648
def drawP (s : Nat → Int) : Nat → Int := upd1 s 288 (chanceP (s 288))
def drawnP (s : Nat → Int) (n : Int) : Int := chanceP (s 288) / 65536 % n
def toldP (P : Hp) (m : Int) (s : Nat → Int) : Nat → (Nat → Int)
  | 0 => s
  | k + 1 => if P 110 (3 * k) = m then waveP P (P 110 (3 * k + 1)).toNat (P 110 (3 * k + 2)) (toldP P m s k) else toldP P m s k
def tideP (P : Hp) (m : Int) (s : Nat → Int) : Nat → Int :=
  if P 112 0 = -1 then s else if m < P 112 0 then s else if P 112 1 < m then s else if (m - P 112 0) % P 112 2 = 0 then
    (if drawnP s 100 < P 112 3 then
      waveP P (P 114 0 + drawnP (drawP s) (P 114 1 - P 114 0 + 1)).toNat (P 115 0 + drawnP (drawP (drawP s)) (P 115 1 - P 115 0 + 1)) (drawP (drawP (drawP s)))
     else drawP s)
  else s
def seaP (P : Hp) (s : Nat → Int) : Nat → Int := tideP P (s 270) (toldP P (s 270) s (P 100 28).toNat)
def finishP (P : Hp) (s : Nat → Int) : Nat → Int :=
  let t := slidesP P (sunP P (seaP P s))
  let u := flagsP P t (t 268).toNat
  upd1 u 270 (u 270 + 1)
def doesP (s : Nat → Int) (kind : Int) (c to : Nat) : Nat → Int :=
  if kind = 0 then (if s c = 0 then s else if s (192 + c) = 1 then s else if s (192 + to) = 1 then s else upd1 (unitP s c to) (128 + c) 0)
  else if kind = 1 then upd1 s (128 + c) (if s (128 + c) + 1 < 4 then s (128 + c) + 1 else 4)
  else if kind = 2 then upd1 s (64 + c) (if s (64 + c) + 4 < 15 then s (64 + c) + 4 else 15)
  else if kind = 3 then upd1 s (192 + c) 1
  else s
def actAtP (P : Hp) (p i k : Nat) (j : Nat) : Int := P 120 (3 * (8 * (4 * p + i) + k) + j)
def handP (P : Hp) (p : Nat) (s : Nat → Int) (i : Nat) : Nat → Int :=
  if s (284 + i) = 1 then upd1 s (284 + i) 0 else
  let t := doesP s (actAtP P p i (s (276 + i)).toNat 0) (actAtP P p i (s (276 + i)).toNat 1).toNat (actAtP P p i (s (276 + i)).toNat 2).toNat
  let u := upd1 (upd1 t (276 + i) ((s (276 + i) + 1) % P 119 (4 * p + i))) (280 + i) (wr (s (280 + i) + 1))
  if P 102 5 = 0 then u else if u (280 + i) < P 102 5 then u else upd1 (upd1 u (280 + i) 0) (284 + i) 1
def handsLP (P : Hp) (p : Nat) (s : Nat → Int) : Nat → (Nat → Int)
  | 0 => s
  | n + 1 => handP P p (handsLP P p s n) n
def handsP (P : Hp) (s : Nat → Int) : Nat → Int := if s 275 = -1 then s else handsLP P (s 275).toNat s (P 118 (s 275).toNat).toNat
def minuteP (P : Hp) (s : Nat → Int) : Nat → Int := finishP P (handsP P s)
/-- what is told is as the document bounds it -/
def PV (P : Hp) : Prop :=
  (1 ≤ P 100 10 ∧ P 100 10 ≤ 8) ∧ (1 ≤ P 100 11 ∧ P 100 11 ≤ 8) ∧
  (0 ≤ P 102 0 ∧ P 102 0 ≤ 40) ∧ (0 ≤ P 102 1 ∧ P 102 1 ≤ 5) ∧ (1 ≤ P 102 2 ∧ P 102 2 ≤ 60) ∧ (0 ≤ P 102 3 ∧ P 102 3 ≤ 16) ∧ (0 ≤ P 102 4 ∧ P 102 4 ≤ 20) ∧ (0 ≤ P 102 5 ∧ P 102 5 ≤ 20) ∧ (1 ≤ P 102 6 ∧ P 102 6 ≤ 15) ∧ (0 ≤ P 102 7 ∧ P 102 7 ≤ 20) ∧ (0 ≤ P 102 8 ∧ P 102 8 ≤ 9) ∧
  (0 ≤ P 100 39 ∧ P 100 39 ≤ 9) ∧ (0 ≤ P 100 28 ∧ P 100 28 ≤ 12) ∧
  (∀ k : Nat, k < (P 100 28).toNat → (0 ≤ P 110 (3 * k) ∧ P 110 (3 * k) ≤ 359) ∧ (1 ≤ P 110 (3 * k + 1) ∧ P 110 (3 * k + 1) ≤ 8) ∧ (0 ≤ P 110 (3 * k + 2) ∧ P 110 (3 * k + 2) ≤ 99)) ∧
  ((P 112 0 = -1) ∨ ((0 ≤ P 112 0 ∧ P 112 0 ≤ 359) ∧ (P 112 0 ≤ P 112 1 ∧ P 112 1 ≤ 359) ∧ (1 ≤ P 112 2 ∧ P 112 2 ≤ 60) ∧ (0 ≤ P 112 3 ∧ P 112 3 ≤ 100))) ∧
  (1 ≤ P 114 0 ∧ P 114 0 ≤ P 114 1 ∧ P 114 1 ≤ 8) ∧ (0 ≤ P 115 0 ∧ P 115 0 ≤ P 115 1 ∧ P 115 1 ≤ 99) ∧
  (0 ≤ P 100 41 ∧ P 100 41 ≤ 3) ∧
  (∀ p : Nat, p < (P 100 41).toNat → (0 ≤ P 118 p ∧ P 118 p ≤ 4) ∧ ∀ i : Nat, i < (P 118 p).toNat → (1 ≤ P 119 (4 * p + i) ∧ P 119 (4 * p + i) ≤ 8) ∧
    ∀ k : Nat, k < (P 119 (4 * p + i)).toNat → (0 ≤ actAtP P p i k 0 ∧ actAtP P p i k 0 ≤ 4) ∧ (actAtP P p i k 0 ≤ 3 → 0 ≤ actAtP P p i k 1 ∧ actAtP P p i k 1 < nN P) ∧ (actAtP P p i k 0 = 4 → actAtP P p i k 1 = -1) ∧
      (actAtP P p i k 0 = 0 → 0 ≤ actAtP P p i k 2 ∧ actAtP P p i k 2 < nN P ∧ actAtP P p i k 2 ≠ actAtP P p i k 1) ∧ (actAtP P p i k 0 ≠ 0 → actAtP P p i k 2 = -1)) ∧
  (0 ≤ P 100 12 ∧ P 100 12 ≤ 3) ∧ (∀ k : Nat, k < (P 100 12).toNat → 0 ≤ P 106 k ∧ P 106 k < nN P) ∧
  (∀ c : Nat, c < 64 → (0 ≤ P 104 c ∧ P 104 c ≤ 59) ∧ (P 108 c = 0 ∨ P 108 c = 1))
/-- a row as minutes keep it: cells, lost sand, the minute and flags, the plan that holds, the chance -/
def CV (P : Hp) (s : Nat → Int) : Prop := ∀ c : Nat, c < nN P → 0 ≤ s c ∧ (0 ≤ s (64 + c) ∧ s (64 + c) ≤ 16) ∧ (0 ≤ s (128 + c) ∧ s (128 + c) ≤ 4) ∧ (s (192 + c) = 0 ∨ s (192 + c) = 1)
def SV (P : Hp) (B : Int) (s : Nat → Int) : Prop := 0 ≤ s 269 ∧ s 269 + sumN s (nN P) ≤ B
def FV (P : Hp) (T : Int) (s : Nat → Int) : Prop := (0 ≤ s 270 ∧ s 270 ≤ T) ∧ (0 ≤ s 268 ∧ s 268 ≤ 4) ∧ ∀ k : Nat, k < (s 268).toNat → (0 ≤ s (256 + k) ∧ s (256 + k) < nN P) ∧ (0 ≤ s (260 + k) ∧ s (260 + k) ≤ 100000) ∧ (-1 ≤ s (264 + k) ∧ s (264 + k) ≤ s 270)
def HV (P : Hp) (s : Nat → Int) : Prop := (-1 ≤ s 275 ∧ s 275 < P 100 41) ∧
  (s 275 ≠ -1 → ∀ i : Nat, i < (P 118 (s 275).toNat).toNat → (0 ≤ s (276 + i) ∧ s (276 + i) < P 119 (4 * (s 275).toNat + i)) ∧ (s (284 + i) = 0 ∨ s (284 + i) = 1) ∧ (P 102 5 ≠ 0 → 0 ≤ s (280 + i) ∧ s (280 + i) < P 102 5))
def KV (s : Nat → Int) : Prop := 0 ≤ s 288 ∧ s 288 < 2147483648
def IV (P : Hp) (B T : Int) (s : Nat → Int) : Prop := CV P s ∧ SV P B s ∧ FV P T s ∧ HV P s ∧ KV s
theorem IV.nn {P : Hp} {B T : Int} {s : Nat → Int} (h : IV P B T s) {c : Nat} (hc : c < nN P) : 0 ≤ s c := (h.1 c hc).1
theorem IV.le {P : Hp} {B T : Int} {s : Nat → Int} (h : IV P B T s) {c : Nat} (hc : c < nN P) : s c ≤ B := by
  have h1 := sumN_ge (f := s) (n := nN P) (fun i hi => h.nn hi) hc
  have h2 : SV P B s := h.2.1
  unfold SV at h2
  omega
theorem PV.cr {P : Hp} (h : PV P) : P 100 10 = (cN P : Int) ∧ P 100 11 = (rN P : Int) ∧ 1 ≤ cN P ∧ cN P ≤ 8 ∧ 1 ≤ rN P ∧ rN P ≤ 8 := by
  obtain ⟨h1, h2, -⟩ := h
  unfold cN rN
  omega
theorem PV.n {P : Hp} (h : PV P) : 1 ≤ nN P ∧ nN P ≤ 64 := by
  obtain ⟨-, -, a, b, c, d⟩ := h.cr
  unfold nN
  have h1 : 1 * 1 ≤ cN P * rN P := Nat.mul_le_mul a c
  have h2 : cN P * rN P ≤ 8 * 8 := Nat.mul_le_mul b d
  omega
theorem FV.congr {P : Hp} {T : Int} {s t : Nat → Int} (h : FV P T s) (e : ∀ j : Nat, 256 ≤ j → j < 271 → j ≠ 269 → t j = s j) : FV P T t := by
  obtain ⟨h1, h2, h3⟩ := h
  refine ⟨by rw [e 270 (by omega) (by omega) (by omega)]; exact h1, by rw [e 268 (by omega) (by omega) (by omega)]; exact h2, fun k hk => ?_⟩
  rw [e 268 (by omega) (by omega) (by omega)] at hk
  have := h3 k hk
  rw [e (256 + k) (by omega) (by omega) (by omega), e (260 + k) (by omega) (by omega) (by omega), e (264 + k) (by omega) (by omega) (by omega), e 270 (by omega) (by omega) (by omega)]
  exact this
theorem HV.congr {P : Hp} {s t : Nat → Int} (h : HV P s) (hv : PV P) (e : ∀ j : Nat, 275 ≤ j → j < 288 → t j = s j) : HV P t := by
  obtain ⟨h1, h2⟩ := h
  have e0 := e 275 (by omega) (by omega)
  refine ⟨by rw [e0]; exact h1, ?_⟩
  rw [e0]
  intro hn i hi
  have hp := hv.2.2.2.2.2.2.2.2.2.2.2.2.2.2.2.2.2.2.1 (s 275).toNat (by omega)
  have := h2 hn i hi
  rw [e (276 + i) (by omega) (by omega), e (280 + i) (by omega) (by omega), e (284 + i) (by omega) (by omega)]
  exact this
theorem IV.of {P : Hp} {B T : Int} {s t : Nat → Int} (h : IV P B T s) (hv : PV P) (hc : CV P t) (hs : SV P B t) (e : ∀ j : Nat, 256 ≤ j → j < 289 → j ≠ 269 → j ≠ 271 → j ≠ 272 → j ≠ 273 → j ≠ 274 → t j = s j) : IV P B T t :=
  ⟨hc, hs, h.2.2.1.congr (fun j a b c => e j a (by omega) c (by omega) (by omega) (by omega) (by omega)), h.2.2.2.1.congr hv (fun j a b => e j (by omega) (by omega) (by omega) (by omega) (by omega) (by omega) (by omega)), by unfold KV; rw [e 288 (by omega) (by omega) (by omega) (by omega) (by omega) (by omega) (by omega)]; exact h.2.2.2.2⟩
/-- numbers beside: nothing of the invariant moves -/
theorem IV.side {P : Hp} {B T x : Int} {s : Nat → Int} {k : Nat} (h : IV P B T s) (hv : PV P) (hk : k = 271 ∨ k = 272 ∨ k = 273 ∨ k = 274) : IV P B T (upd1 s k x) := by
  have hn := hv.n
  refine h.of hv (fun c hc => ?_) ?_ (fun j _ _ _ _ _ _ _ => upd1_ne _ _ _ _ (by omega))
  · have := h.1 c hc
    rw [upd1_ne _ _ _ _ (by omega), upd1_ne _ _ _ _ (by omega), upd1_ne _ _ _ _ (by omega), upd1_ne _ _ _ _ (by omega)]
    exact this
  · unfold SV
    rw [sumN_upd_out (by omega), upd1_ne _ _ _ _ (by omega)]
    exact h.2.1
theorem mixW_in {s : Nat → Int} {a b : Nat} (h2 : 0 ≤ s b) (h3 : 0 ≤ s (64 + a) ∧ s (64 + a) ≤ 16) (h4 : 0 ≤ s (64 + b) ∧ s (64 + b) ≤ 16) : 0 ≤ mixW s a b ∧ mixW s a b ≤ 16 := by
  have hm : 0 ≤ s (64 + b) * s b := Int.mul_nonneg h4.1 h2
  have hm2 : s (64 + b) * s b ≤ 16 * s b := Int.mul_le_mul_of_nonneg_right h4.2 h2
  unfold mixW
  refine ⟨Int.ediv_nonneg (by omega) (by omega), ?_⟩
  have : (s (64 + b) * s b + s (64 + a)) / (s b + 1) ≤ (16 * (s b + 1)) / (s b + 1) := Int.ediv_le_ediv (by omega) (by omega)
  rw [Int.mul_ediv_cancel _ (by omega)] at this
  exact this
theorem unitP_far {s : Nat → Int} {a b j : Nat} (h1 : j ≠ a) (h2 : j ≠ b) (h3 : j ≠ 64 + b) (h4 : j ≠ 128 + b) : unitP s a b j = s j := by
  unfold unitP
  simp (disch := omega) only [set2_same, set2_np, set2_nk, setRow_same, setRow_ne, upd1_same, upd1_ne, upd1_le, setRow_setRow, Int.toNat_natCast, tn_0, tn_64, tn_128, tn_192, tn_256, tn_260, tn_264, tn_276, tn_280, tn_284, Int.reduceToNat]
theorem IV.unit {P : Hp} {B T : Int} {s : Nat → Int} {a b : Nat} (h : IV P B T s) (hv : PV P) (hab : a ≠ b) (ha : a < nN P) (hb : b < nN P) (hp : 0 < s a) : IV P B T (unitP s a b) := by
  have hn := hv.n
  refine h.of hv (fun c hc => ?_) ?_ (fun j _ _ _ _ _ _ _ => unitP_far (by omega) (by omega) (by omega) (by omega))
  · have h0 := h.1 c hc
    have h1 := h.1 a ha
    have h2 := h.1 b hb
    have hm := mixW_in (s := s) (a := a) (b := b) h2.1 h1.2.1 h2.2.1
    have e4 : unitP s a b (192 + c) = s (192 + c) := unitP_far (by omega) (by omega) (by omega) (by omega)
    rw [e4]
    by_cases q1 : c = a
    · subst q1
      have e1 : unitP s c b c = s c - 1 := by unfold unitP; simp (disch := omega) only [set2_same, set2_np, set2_nk, setRow_same, setRow_ne, upd1_same, upd1_ne, upd1_le, setRow_setRow, Int.toNat_natCast, tn_0, tn_64, tn_128, tn_192, tn_256, tn_260, tn_264, tn_276, tn_280, tn_284, Int.reduceToNat]
      have e2 : unitP s c b (64 + c) = s (64 + c) := unitP_far (by omega) (by omega) (by omega) (by omega)
      have e3 : unitP s c b (128 + c) = s (128 + c) := unitP_far (by omega) (by omega) (by omega) (by omega)
      rw [e1, e2, e3]
      exact ⟨by omega, h0.2⟩
    by_cases q2 : c = b
    · subst q2
      have e1 : unitP s a c c = s c + 1 := by unfold unitP; simp (disch := omega) only [set2_same, set2_np, set2_nk, setRow_same, setRow_ne, upd1_same, upd1_ne, upd1_le, setRow_setRow, Int.toNat_natCast, tn_0, tn_64, tn_128, tn_192, tn_256, tn_260, tn_264, tn_276, tn_280, tn_284, Int.reduceToNat]
      have e2 : unitP s a c (64 + c) = mixW s a c := by unfold unitP; simp (disch := omega) only [set2_same, set2_np, set2_nk, setRow_same, setRow_ne, upd1_same, upd1_ne, upd1_le, setRow_setRow, Int.toNat_natCast, tn_0, tn_64, tn_128, tn_192, tn_256, tn_260, tn_264, tn_276, tn_280, tn_284, Int.reduceToNat]
      have e3 : unitP s a c (128 + c) = 0 := by unfold unitP; simp (disch := omega) only [set2_same, set2_np, set2_nk, setRow_same, setRow_ne, upd1_same, upd1_ne, upd1_le, setRow_setRow, Int.toNat_natCast, tn_0, tn_64, tn_128, tn_192, tn_256, tn_260, tn_264, tn_276, tn_280, tn_284, Int.reduceToNat]
      rw [e1, e2, e3]
      exact ⟨by omega, hm, by omega, h0.2.2.2⟩
    rw [unitP_far (by omega) (by omega) (by omega) (by omega), unitP_far (by omega) (by omega) (by omega) (by omega), unitP_far (by omega) (by omega) (by omega) (by omega)]
    exact h0
  · have hs : SV P B s := h.2.1
    unfold SV at hs ⊢
    have e1 : unitP s a b 269 = s 269 := unitP_far (by omega) (by omega) (by omega) (by omega)
    have e2 : sumN (unitP s a b) (nN P) = sumN s (nN P) := by
      unfold unitP
      rw [sumN_upd hb, sumN_upd ha, sumN_upd_out (by omega), sumN_upd_out (by omega)]
      simp (disch := omega) only [set2_same, set2_np, set2_nk, setRow_same, setRow_ne, upd1_same, upd1_ne, upd1_le, setRow_setRow, Int.toNat_natCast, tn_0, tn_64, tn_128, tn_192, tn_256, tn_260, tn_264, tn_276, tn_280, tn_284, Int.reduceToNat]
      omega
    rw [e1, e2]
    exact hs
