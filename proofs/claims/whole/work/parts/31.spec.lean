/-! THE SPECIFICATION of minutes, on a row s of 289 numbers (the model's own layout), with what is told as a heap P (places 100 .. 120) -/
def cN (P : Hp) : Nat := (P 100 10).toNat
def rN (P : Hp) : Nat := (P 100 11).toNat
def nN (P : Hp) : Nat := cN P * rN P
def strP (P : Hp) (w : Int) : Int :=
  if w = 0 then 0 else if w = 16 then 0 else
  if 0 < P 102 7 - P 102 8 * (if 0 ≤ w - P 102 6 then w - P 102 6 else 0 - (w - P 102 6)) then P 102 7 - P 102 8 * (if 0 ≤ w - P 102 6 then w - P 102 6 else 0 - (w - P 102 6)) else 0
def holdsP (P : Hp) (w p : Int) : Int := 1 + strP P w + P 102 1 * p
def mixW (s : Nat → Int) (a b : Nat) : Int := (s (64 + b) * s b + s (64 + a)) / (s b + 1)
def unitP (s : Nat → Int) (a b : Nat) : Nat → Int :=
  upd1 (upd1 (upd1 (upd1 s (64 + b) (mixW s a b)) (128 + b) 0) a (s a - 1)) b (s b + 1)
def candP (P : Hp) (s : Nat → Int) (best o : Int) : Int :=
  if o < 0 then best else if (nN P : Int) ≤ o then best else if s (192 + o.toNat) = 1 then best else
  if best = -1 then o else if s best.toNat ≤ s o.toNat then best else o
def lowP (P : Hp) (s : Nat → Int) (c : Nat) : Int :=
  candP P s (candP P s (candP P s (candP P s (-1) ((c : Int) - cN P)) (if 0 < c % cN P then (c : Int) - 1 else -1)) (if c % cN P + 1 < cN P then (c : Int) + 1 else -1)) ((c : Int) + cN P)
def quietP (P : Hp) (s : Nat → Int) (c : Nat) : Prop := s (192 + c) = 1 ∨ lowP P s c = -1 ∨ s c - s (lowP P s c).toNat ≤ holdsP P (s (64 + c)) (s (128 + c))
def slideC (P : Hp) (s : Nat → Int) (c : Nat) : Nat → Int :=
  if s (192 + c) = 1 then s else if lowP P s c = -1 then s else if s c - s (lowP P s c).toNat ≤ holdsP P (s (64 + c)) (s (128 + c)) then s else
  upd1 (unitP s c (lowP P s c).toNat) 272 (s 272 + 1)
def roundP (P : Hp) (s : Nat → Int) : Nat → (Nat → Int)
  | 0 => s
  | n + 1 => slideC P (roundP P s n) n
def roundsP (P : Hp) : Nat → (Nat → Int) → (Nat → Int)
  | 0, s => s
  | k + 1, s => if s 272 < roundP P s (nN P) 272 then roundsP P k (upd1 (roundP P s (nN P)) 273 (roundP P s (nN P) 273 + 1)) else roundP P s (nN P)
def slidesP (P : Hp) (s : Nat → Int) : Nat → Int :=
  upd1 (roundsP P 50 (upd1 (upd1 s 272 0) 273 0)) 271 (wr (roundsP P 50 (upd1 (upd1 s 272 0) 273 0) 271 + roundsP P 50 (upd1 (upd1 s 272 0) 273 0) 272))
def flagP (P : Hp) (s : Nat → Int) (k : Nat) : Nat → Int :=
  if s (264 + k) = -1 then (if s (s (256 + k)).toNat < s (260 + k) - P 102 4 then upd1 s (264 + k) (s 270) else s) else s
def flagsP (P : Hp) (s : Nat → Int) : Nat → (Nat → Int)
  | 0 => s
  | n + 1 => flagP P (flagsP P s n) n
def dryC (s : Nat → Int) (c : Nat) : Nat → Int :=
  upd1 s (64 + c) (if 0 < s (64 + c) - (if 10 ≤ s c then 2 else 1) then s (64 + c) - (if 10 ≤ s c then 2 else 1) else 0)
def dryP (s : Nat → Int) (a : Nat) : Nat → (Nat → Int)
  | 0 => s
  | n + 1 => dryC (dryP s a n) (a + n)
def sunP (P : Hp) (s : Nat → Int) : Nat → Int := if (s 270 + 1) % P 102 2 = 0 then dryP s (cN P) (nN P - cN P) else s
def offP (P : Hp) (s : Nat → Int) (c : Nat) : Int := if s c < P 100 39 then s c else P 100 39
def cutP (P : Hp) (s : Nat → Int) (c : Nat) : Nat → Int := upd1 (upd1 s c (s c - offP P s c)) 269 (s 269 + offP P s c)
def colP (P : Hp) (x far : Nat) (lvl : Int) : Nat → Nat → (Nat → Int) → (Nat → Int)
  | 0, _, s => s
  | f + 1, y, s => if far ≤ y then s else if rN P ≤ y then s else
    if s (192 + (cN P * y + x)) = 1 then (if y + 1 < rN P then upd1 s (64 + (cN P * y + x) + cN P) 16 else s) else
    if lvl < s (cN P * y + x) then cutP P (upd1 s (64 + (cN P * y + x)) 16) (cN P * y + x) else colP P x far lvl f (y + 1) (upd1 s (64 + (cN P * y + x)) 16)
def colsP (P : Hp) (far : Nat) (lvl : Int) (s : Nat → Int) : Nat → (Nat → Int)
  | 0 => s
  | n + 1 => colP P n far lvl 8 0 (colsP P far lvl s n)
def waveP (P : Hp) (far : Nat) (lvl : Int) (s : Nat → Int) : Nat → Int := colsP P far lvl (upd1 s 274 (wr (s 274 + 1))) (cN P)
def chanceP (c : Int) : Int := (1103515245 * c + 12345) % 2147483648
def drawP (s : Nat → Int) : Nat → Int := upd1 s 288 (chanceP (s 288))
def drawnP (s : Nat → Int) (n : Int) : Int := chanceP (s 288) / 65536 % n
def toldP (P : Hp) (s : Nat → Int) : Nat → (Nat → Int)
  | 0 => s
  | k + 1 => if P 110 (3 * k) = toldP P s k 270 then waveP P (P 110 (3 * k + 1)).toNat (P 110 (3 * k + 2)) (toldP P s k) else toldP P s k
def tideP (P : Hp) (s : Nat → Int) : Nat → Int :=
  if P 112 0 = -1 then s else if s 270 < P 112 0 then s else if P 112 1 < s 270 then s else if (s 270 - P 112 0) % P 112 2 = 0 then
    (if P 112 3 ≤ drawnP s 100 then drawP s else
      waveP P (P 114 0 + drawnP (drawP s) (P 114 1 - P 114 0 + 1)).toNat (P 115 0 + drawnP (drawP (drawP s)) (P 115 1 - P 115 0 + 1)) (drawP (drawP (drawP s))))
  else s
def seaP (P : Hp) (s : Nat → Int) : Nat → Int := tideP P (toldP P s (P 100 28).toNat)
def finishP (P : Hp) (s : Nat → Int) : Nat → Int :=
  let t := slidesP P (sunP P (seaP P s))
  let u := flagsP P t (t 268).toNat
  upd1 u 270 (u 270 + 1)
def doesP (s : Nat → Int) (kind : Int) (c to : Nat) : Nat → Int :=
  if kind = 0 then (if s c = 0 then s else if s (192 + c) = 1 then s else if s (192 + to) = 1 then s else upd1 (unitP s c to) (128 + c) 0)
  else if kind = 1 then upd1 s (128 + c) (if s (128 + c) + 1 < 4 then s (128 + c) + 1 else 4)
  else if kind = 2 then upd1 s (64 + c) (if s (64 + c) + 4 < 15 then s (64 + c) + 4 else 15)
  else if kind = 3 then upd1 s (192 + c) 1
  else s
def actAtP (P : Hp) (p i k : Nat) (j : Nat) : Int := P 120 (3 * (8 * (4 * p + i) + k) + j)
def handP (P : Hp) (p : Nat) (s : Nat → Int) (i : Nat) : Nat → Int :=
  if s (284 + i) = 1 then upd1 s (284 + i) 0 else
  let t := doesP s (actAtP P p i (s (276 + i)).toNat 0) (actAtP P p i (s (276 + i)).toNat 1).toNat (actAtP P p i (s (276 + i)).toNat 2).toNat
  let u := upd1 (upd1 t (276 + i) ((s (276 + i) + 1) % P 119 (4 * p + i))) (280 + i) (wr (s (280 + i) + 1))
  if P 102 5 = 0 then u else if u (280 + i) < P 102 5 then u else upd1 (upd1 u (280 + i) 0) (284 + i) 1
def handsLP (P : Hp) (p : Nat) (s : Nat → Int) : Nat → (Nat → Int)
  | 0 => s
  | n + 1 => handP P p (handsLP P p s n) n
def handsP (P : Hp) (s : Nat → Int) : Nat → Int := if s 275 = -1 then s else handsLP P (s 275).toNat s (P 118 (s 275).toNat).toNat
def minuteP (P : Hp) (s : Nat → Int) : Nat → Int := finishP P (handsP P s)
/-- what is told is as the document bounds it -/
def PV (P : Hp) : Prop :=
  (1 ≤ P 100 10 ∧ P 100 10 ≤ 8) ∧ (1 ≤ P 100 11 ∧ P 100 11 ≤ 8) ∧
  (0 ≤ P 102 0 ∧ P 102 0 ≤ 40) ∧ (0 ≤ P 102 1 ∧ P 102 1 ≤ 5) ∧ (1 ≤ P 102 2 ∧ P 102 2 ≤ 60) ∧ (0 ≤ P 102 3 ∧ P 102 3 ≤ 16) ∧ (0 ≤ P 102 4 ∧ P 102 4 ≤ 20) ∧ (0 ≤ P 102 5 ∧ P 102 5 ≤ 20) ∧ (1 ≤ P 102 6 ∧ P 102 6 ≤ 15) ∧ (0 ≤ P 102 7 ∧ P 102 7 ≤ 20) ∧ (0 ≤ P 102 8 ∧ P 102 8 ≤ 9) ∧
  (0 ≤ P 100 39 ∧ P 100 39 ≤ 9) ∧ (0 ≤ P 100 28 ∧ P 100 28 ≤ 12) ∧
  (∀ k : Nat, k < (P 100 28).toNat → (0 ≤ P 110 (3 * k) ∧ P 110 (3 * k) ≤ 359) ∧ (1 ≤ P 110 (3 * k + 1) ∧ P 110 (3 * k + 1) ≤ 8) ∧ (0 ≤ P 110 (3 * k + 2) ∧ P 110 (3 * k + 2) ≤ 99)) ∧
  ((P 112 0 = -1) ∨ ((0 ≤ P 112 0 ∧ P 112 0 ≤ 359) ∧ (P 112 0 ≤ P 112 1 ∧ P 112 1 ≤ 359) ∧ (1 ≤ P 112 2 ∧ P 112 2 ≤ 60) ∧ (0 ≤ P 112 3 ∧ P 112 3 ≤ 100))) ∧
  (1 ≤ P 114 0 ∧ P 114 0 ≤ P 114 1 ∧ P 114 1 ≤ 8) ∧ (0 ≤ P 115 0 ∧ P 115 0 ≤ P 115 1 ∧ P 115 1 ≤ 99) ∧
  (0 ≤ P 100 41 ∧ P 100 41 ≤ 3) ∧
  (∀ p : Nat, p < (P 100 41).toNat → (0 ≤ P 118 p ∧ P 118 p ≤ 4) ∧ ∀ i : Nat, i < (P 118 p).toNat → (1 ≤ P 119 (4 * p + i) ∧ P 119 (4 * p + i) ≤ 8) ∧
    ∀ k : Nat, k < (P 119 (4 * p + i)).toNat → (0 ≤ actAtP P p i k 0 ∧ actAtP P p i k 0 ≤ 4) ∧ (actAtP P p i k 0 ≤ 3 → 0 ≤ actAtP P p i k 1 ∧ actAtP P p i k 1 < nN P) ∧ (actAtP P p i k 0 = 4 → actAtP P p i k 1 = -1) ∧
      (actAtP P p i k 0 = 0 → 0 ≤ actAtP P p i k 2 ∧ actAtP P p i k 2 < nN P ∧ actAtP P p i k 2 ≠ actAtP P p i k 1) ∧ (actAtP P p i k 0 ≠ 0 → actAtP P p i k 2 = -1)) ∧
  (0 ≤ P 100 12 ∧ P 100 12 ≤ 3) ∧ (∀ k : Nat, k < (P 100 12).toNat → 0 ≤ P 106 k ∧ P 106 k < nN P) ∧
  (∀ c : Nat, c < 64 → (0 ≤ P 104 c ∧ P 104 c ≤ 59) ∧ (P 108 c = 0 ∨ P 108 c = 1))
/-- a row as minutes keep it: cells, lost sand, the minute, flags, the plan that holds, the chance -/
def IV (P : Hp) (B T : Int) (s : Nat → Int) : Prop :=
  (∀ c : Nat, c < nN P → 0 ≤ s c ∧ (0 ≤ s (64 + c) ∧ s (64 + c) ≤ 16) ∧ (0 ≤ s (128 + c) ∧ s (128 + c) ≤ 4) ∧ (s (192 + c) = 0 ∨ s (192 + c) = 1)) ∧
  (0 ≤ s 269 ∧ s 269 + sumN s (nN P) ≤ B) ∧ (0 ≤ s 270 ∧ s 270 ≤ T) ∧
  (0 ≤ s 268 ∧ s 268 ≤ 4) ∧ (∀ k : Nat, k < (s 268).toNat → (0 ≤ s (256 + k) ∧ s (256 + k) < nN P) ∧ (0 ≤ s (260 + k) ∧ s (260 + k) ≤ 1000) ∧ (-1 ≤ s (264 + k) ∧ s (264 + k) ≤ s 270)) ∧
  (-1 ≤ s 275 ∧ s 275 < P 100 41) ∧
  (s 275 ≠ -1 → ∀ i : Nat, i < (P 118 (s 275).toNat).toNat → (0 ≤ s (276 + i) ∧ s (276 + i) < P 119 (4 * (s 275).toNat + i)) ∧ (s (284 + i) = 0 ∨ s (284 + i) = 1) ∧ (P 102 5 ≠ 0 → 0 ≤ s (280 + i) ∧ s (280 + i) < P 102 5)) ∧
  (0 ≤ s 288 ∧ s 288 < 2147483648) ∧ (∀ j, inR (s j))
theorem IV.nn {P : Hp} {B T : Int} {s : Nat → Int} (h : IV P B T s) {c : Nat} (hc : c < nN P) : 0 ≤ s c := (h.1 c hc).1
theorem IV.le {P : Hp} {B T : Int} {s : Nat → Int} (h : IV P B T s) {c : Nat} (hc : c < nN P) : s c ≤ B := by
  have h1 := sumN_ge (f := s) (n := nN P) (fun i hi => h.nn hi) hc
  have h2 := h.2.1
  omega
theorem PV.cr {P : Hp} (h : PV P) : P 100 10 = (cN P : Int) ∧ P 100 11 = (rN P : Int) ∧ 1 ≤ cN P ∧ cN P ≤ 8 ∧ 1 ≤ rN P ∧ rN P ≤ 8 := by
  obtain ⟨h1, h2, -⟩ := h
  unfold cN rN
  omega
theorem PV.n {P : Hp} (h : PV P) : 1 ≤ nN P ∧ nN P ≤ 64 := by
  obtain ⟨-, -, a, b, c, d⟩ := h.cr
  unfold nN
  have h1 : 1 * 1 ≤ cN P * rN P := Nat.mul_le_mul a c
  have h2 : cN P * rN P ≤ 8 * 8 := Nat.mul_le_mul b d
  omega
