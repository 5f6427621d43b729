/-! READING: a token, in the class (advance) and in the model (scan) -/
def kdP (x : Int) : Int := if 97 ≤ x ∧ x ≤ 122 then 1 else if 48 ≤ x ∧ x ≤ 57 then 2 else if x = 59 then 3 else 0
def skP (b : Nat → Int) (L : Nat) : Nat → Nat → Nat
  | 0, p => p
  | n + 1, p => if p < L then (if b p = 32 then skP b L n (p + 1) else if b p = 10 then skP b L n (p + 1) else p) else p
def rnP (b : Nat → Int) (L : Nat) (k : Int) : Nat → Nat → Nat
  | 0, p => p
  | n + 1, p => if p < L then (if kdP (b p) = k then rnP b L k n (p + 1) else p) else p
def nvP (b : Nat → Int) (q : Nat) : Nat → Int
  | 0 => 0
  | i + 1 => wr (wr (wr (10 * nvP b q i) + b (q + i)) - 48)
def tq (b : Nat → Int) (L p : Nat) : Nat := skP b L L p
def te (b : Nat → Int) (L p : Nat) : Nat := if L ≤ tq b L p then tq b L p else if kdP (b (tq b L p)) = 1 then rnP b L 1 L (tq b L p) else if kdP (b (tq b L p)) = 2 then rnP b L 2 L (tq b L p) else tq b L p + 1
def tk (b : Nat → Int) (L p : Nat) : Int := if L ≤ tq b L p then 4 else if kdP (b (tq b L p)) = 1 then (if te b L p ≤ tq b L p + 8 then 1 else 0) else if kdP (b (tq b L p)) = 2 then (if te b L p ≤ tq b L p + 3 then 2 else 0) else kdP (b (tq b L p))
theorem kdP_in (x : Int) : 0 ≤ kdP x ∧ kdP x ≤ 3 := by unfold kdP; split <;> (try split) <;> (try split) <;> omega
theorem skP_in {b : Nat → Int} {L : Nat} : ∀ (n p : Nat), p ≤ L → L - p ≤ n → (p ≤ skP b L n p ∧ skP b L n p ≤ L) ∧ (skP b L n p < L → b (skP b L n p) ≠ 32 ∧ b (skP b L n p) ≠ 10)
  | 0, p, h, hn => ⟨⟨Nat.le_refl _, h⟩, fun q => by unfold skP at q; omega⟩
  | n + 1, p, h, hn => by
    unfold skP
    by_cases z : p < L
    · have ih := skP_in (b := b) (L := L) n (p + 1) (by omega) (by omega)
      rw [if_pos z]
      by_cases y : b p = 32
      · rw [if_pos y]; exact ⟨⟨by omega, ih.1.2⟩, ih.2⟩
      rw [if_neg y]
      by_cases y2 : b p = 10
      · rw [if_pos y2]; exact ⟨⟨by omega, ih.1.2⟩, ih.2⟩
      · rw [if_neg y2]; exact ⟨⟨Nat.le_refl _, h⟩, fun _ => ⟨y, y2⟩⟩
    · rw [if_neg z]
      exact ⟨⟨Nat.le_refl _, h⟩, fun q => by omega⟩
theorem rnP_in {b : Nat → Int} {L : Nat} {k : Int} : ∀ (n p : Nat), p ≤ L → L - p ≤ n → (p ≤ rnP b L k n p ∧ rnP b L k n p ≤ L) ∧ ∀ j, p ≤ j → j < rnP b L k n p → kdP (b j) = k
  | 0, p, h, hn => ⟨⟨Nat.le_refl _, h⟩, fun j h1 h2 => by unfold rnP at h2; omega⟩
  | n + 1, p, h, hn => by
    unfold rnP
    by_cases z : p < L
    · have ih := rnP_in (b := b) (L := L) (k := k) n (p + 1) (by omega) (by omega)
      rw [if_pos z]
      by_cases y : kdP (b p) = k
      · rw [if_pos y]
        refine ⟨⟨by omega, ih.1.2⟩, fun j h1 h2 => ?_⟩
        by_cases q : j = p
        · rw [q]; exact y
        · exact ih.2 j (by omega) h2
      · rw [if_neg y]; exact ⟨⟨Nat.le_refl _, h⟩, fun j h1 h2 => by omega⟩
    · rw [if_neg z]
      exact ⟨⟨Nat.le_refl _, h⟩, fun j h1 h2 => by omega⟩
theorem rnP_step {b : Nat → Int} {L : Nat} {k : Int} {p : Nat} (hp : p < L) (hk : kdP (b p) = k) : p < rnP b L k L p := by
  obtain ⟨L', hL⟩ : ∃ z, L = z + 1 := ⟨L - 1, by omega⟩
  have ih := rnP_in (b := b) (L := L) (k := k) L' (p + 1) (by omega) (by omega)
  rw [show rnP b L k L p = rnP b L k (L' + 1) p by rw [← hL]]
  unfold rnP
  rw [if_pos hp, if_pos hk]
  omega
theorem tok_in {b : Nat → Int} {L p : Nat} (hp : p ≤ L) : (p ≤ tq b L p ∧ tq b L p ≤ te b L p ∧ te b L p ≤ L) ∧ (tk b L p ≠ 4 → p < te b L p) ∧ (tk b L p = 1 → ∀ j, tq b L p ≤ j → j < te b L p → 97 ≤ b j ∧ b j ≤ 122) ∧ (0 ≤ tk b L p ∧ tk b L p ≤ 4) := by
  have h1 := skP_in (b := b) (L := L) L p hp (by omega)
  have hq : tq b L p = skP b L L p := rfl
  rw [← hq] at h1
  have hk := kdP_in (b (tq b L p))
  unfold tk te
  by_cases z : L ≤ tq b L p
  · simp only [if_pos z]
    exact ⟨⟨h1.1.1, Nat.le_refl _, h1.1.2⟩, fun q => absurd rfl q, fun q => absurd q (by decide), by omega⟩
  simp only [if_neg z]
  by_cases y1 : kdP (b (tq b L p)) = 1
  · simp only [if_pos y1]
    have r := rnP_in (b := b) (L := L) (k := 1) L (tq b L p) (by omega) (by omega)
    have st := rnP_step (b := b) (L := L) (k := 1) (p := tq b L p) (by omega) y1
    refine ⟨⟨h1.1.1, r.1.1, r.1.2⟩, fun _ => by omega, fun _ j a c => ?_, by split <;> omega⟩
    have := r.2 j a c
    unfold kdP at this
    split at this
    · assumption
    · split at this
      · omega
      · split at this <;> omega
  simp only [if_neg y1]
  by_cases y2 : kdP (b (tq b L p)) = 2
  · simp only [if_pos y2]
    have r := rnP_in (b := b) (L := L) (k := 2) L (tq b L p) (by omega) (by omega)
    have st := rnP_step (b := b) (L := L) (k := 2) (p := tq b L p) (by omega) y2
    refine ⟨⟨h1.1.1, r.1.1, r.1.2⟩, fun _ => by omega, fun q => ?_, by split <;> omega⟩
    split at q <;> omega
  · simp only [if_neg y2]
    exact ⟨⟨h1.1.1, by omega, by omega⟩, fun _ => by omega, fun q => absurd q y1, by omega⟩
/-- the class's heap with a token -/
def tokC (h : Hp) (q e : Nat) (k v : Int) : Hp := fun p j => if p = 1 then (if j = 2 then (e : Int) else if j = 3 then k else if j = 4 then (q : Int) else if j = 5 then v else h 1 j) else h p j
def atC (h : Hp) (e : Nat) : Hp := set2 h 1 2 (e : Int)
theorem k_isBlank (x : Int) : g_X5_isBlank x = some (if x = 32 then 1 else if x = 10 then 1 else 0) := by
  unfold g_X5_isBlank
  (rw [e_cI, e_join]; (try dsimp only); rw [e_join]; (try dsimp only))
  by_cases z : x = 32
  · rw [b_pos z, e_cI, if_pos z]; exact e_retZ1
  rw [b_neg z, e_cI, if_neg z]
  by_cases y : x = 10
  · rw [b_pos y, e_cI, if_pos y]; exact e_retZ1
  · rw [b_neg y, e_cI, if_neg y]; exact e_retZ0
theorem k_kindOf (x : Int) : g_X5_kindOf x = some (kdP x) := by
  unfold g_X5_kindOf kdP
  (rw [e_cI, e_join]; (try dsimp only))
  have tail : (cI 48 fun z4 => joinF (fun (_ : Unit) => cI 59 fun z7 => joinF (fun (a8 : Int) => some a8) fun j9 => if x = z7 then cI 3 fun z12 => j9 z12 else cI 0 fun z11 => j9 z11) fun j6 => if x < z4 then j6 () else cI 57 fun z13 => if z13 < x then j6 () else cI 2 fun z14 => some z14) = some (if 48 ≤ x ∧ x ≤ 57 then 2 else if x = 59 then 3 else 0) := by
    (rw [e_cI, e_join]; (try dsimp only))
    have t2 : (cI 59 fun z7 => joinF (fun (a8 : Int) => some a8) fun j9 => if x = z7 then cI 3 fun z12 => j9 z12 else cI 0 fun z11 => j9 z11) = some (if x = 59 then 3 else 0) := by
      (rw [e_cI, e_join]; (try dsimp only))
      by_cases z : x = 59
      · rw [b_pos z, e_cI, if_pos z]
      · rw [b_neg z, e_cI, if_neg z]
    by_cases z : x < 48
    · rw [b_pos z, t2, if_neg (show ¬ (48 ≤ x ∧ x ≤ 57) by omega)]
    rw [b_neg z, e_cI]
    by_cases y : 57 < x
    · rw [b_pos y, t2, if_neg (show ¬ (48 ≤ x ∧ x ≤ 57) by omega)]
    · rw [b_neg y, e_cI, if_pos (show 48 ≤ x ∧ x ≤ 57 by omega)]
  by_cases z : x < 97
  · rw [b_pos z, tail, if_neg (show ¬ (97 ≤ x ∧ x ≤ 122) by omega)]
  rw [b_neg z, e_cI]
  by_cases y : 122 < x
  · rw [b_pos y, tail, if_neg (show ¬ (97 ≤ x ∧ x ≤ 122) by omega)]
  · rw [b_neg y, e_cI, if_pos (show 97 ≤ x ∧ x ≤ 122 by omega)]
theorem atC_2 {h : Hp} {e : Nat} : atC h e 1 2 = (e : Int) := set2_same _ _ _ _
theorem atC_ne {h : Hp} {e k : Nat} (hk : k ≠ 2) : atC h e 1 k = h 1 k := set2_nk _ _ _ _ _ _ hk
theorem atC_p {h : Hp} {e p : Nat} (hp : p ≠ 1) : atC h e p = h p := set2_ne p hp
theorem atC_atC {h : Hp} {e f : Nat} : set2 (atC h e) 1 2 (f : Int) = atC h f := by
  funext p j
  unfold atC set2
  split <;> rfl
/-- the class skips blanks -/
theorem k_skip {h : Hp} {L : Nat} {j2 : Hp → Option Hp} (hL : h 1 1 = (L : Int)) (h9 : L ≤ 900) : ∀ (n p F : Nat), p ≤ L → L - p ≤ n → n < F → loopF (g_X5_advance_l67 1 j2) F (atC h p) = j2 (atC h (skP (h 2) L n p))
  | 0, p, F, h1, h2, h3 => by
    obtain ⟨F, rfl⟩ : ∃ g, F = g + 1 := ⟨F - 1, by omega⟩
    show g_X5_advance_l67 1 j2 (loopF _ F) (atC h p) = _
    unfold g_X5_advance_l67 skP
    rw [e_gF, atC_2, e_gF, atC_ne (by omega), hL, b_pos (by omega)]
  | n + 1, p, F, h1, h2, h3 => by
    obtain ⟨F, rfl⟩ : ∃ g, F = g + 1 := ⟨F - 1, by omega⟩
    show g_X5_advance_l67 1 j2 (loopF _ F) (atC h p) = _
    by_cases z : p < L
    rotate_left
    · unfold g_X5_advance_l67 skP
      rw [e_gF, atC_2, e_gF, atC_ne (by omega), hL, b_pos (by omega), if_neg z]
    have ih := k_skip (j2 := j2) hL h9 n (p + 1) F (by omega) (by omega) (by omega)
    generalize loopF (g_X5_advance_l67 1 j2) F = self at ih
    unfold g_X5_advance_l67 skP
    rw [e_gF, atC_2, e_gF, atC_ne (by omega), hL, b_neg (by omega), e_gF, atC_2, e_rdn _ _ _ _ _ (by omega), show 1 + 1 = 2 from rfl, atC_p (by omega), k_isBlank, e_cP, if_pos z]
    have go : (gF (atC h p) 1 2 fun z74 => cI 1 fun z75 => addI z74 z75 fun z76 => pF (atC h p) 1 2 z76 fun h77 => self h77) = j2 (atC h (skP (h 2) L n (p + 1))) := by
      rw [e_gF, atC_2, e_cI, e_add _ _ _ (by omega), e_pF, show (p : Int) + 1 = ((p + 1 : Nat) : Int) by omega, atC_atC]
      exact ih
    by_cases y : h 2 p = 32
    · rw [if_pos y, b_neg (by decide), if_pos y]; exact go
    rw [if_neg y, if_neg y]
    by_cases y2 : h 2 p = 10
    · rw [if_pos y2, b_neg (by decide), if_pos y2]; exact go
    · rw [if_neg y2, b_pos rfl, if_neg y2]
/-- the class's heap in a run that began at q and has come to e -/
def runC (h : Hp) (q e : Nat) (k : Int) : Hp := tokC h q e k (nvP (h 2) q (e - q))
theorem runC_f {h : Hp} {q e : Nat} {k : Int} : runC h q e k 1 2 = (e : Int) ∧ runC h q e k 1 3 = k ∧ runC h q e k 1 4 = (q : Int) ∧ runC h q e k 1 5 = nvP (h 2) q (e - q) ∧ runC h q e k 1 1 = h 1 1 := by
  unfold runC tokC
  exact ⟨rfl, rfl, rfl, rfl, rfl⟩
theorem tokC_p {h : Hp} {q e p : Nat} {k v : Int} (hp : p ≠ 1) : tokC h q e k v p = h p := by
  funext j
  unfold tokC
  rw [if_neg hp]
theorem k_run1 {h : Hp} {L q : Nat} {k : Int} {j19 : Hp → Option Hp} (hL : h 1 1 = (L : Int)) (h9 : L ≤ 900) : ∀ (n e F : Nat), q ≤ e → e ≤ L → L - e ≤ n → n < F → loopF (g_X5_advance_l37 1 j19) F (runC h q e k) = j19 (runC h q (rnP (h 2) L k n e) k)
  | 0, e, F, h0, h1, h2, h3 => by
    obtain ⟨F, rfl⟩ : ∃ g, F = g + 1 := ⟨F - 1, by omega⟩
    show g_X5_advance_l37 1 j19 (loopF _ F) (runC h q e k) = _
    unfold g_X5_advance_l37 rnP
    rw [e_gF, runC_f.1, e_gF, runC_f.2.2.2.2, hL, b_pos (by omega)]
  | n + 1, e, F, h0, h1, h2, h3 => by
    obtain ⟨F, rfl⟩ : ∃ g, F = g + 1 := ⟨F - 1, by omega⟩
    show g_X5_advance_l37 1 j19 (loopF _ F) (runC h q e k) = _
    by_cases z : e < L
    rotate_left
    · unfold g_X5_advance_l37 rnP
      rw [e_gF, runC_f.1, e_gF, runC_f.2.2.2.2, hL, b_pos (by omega), if_neg z]
    have ih := k_run1 (q := q) (k := k) (j19 := j19) hL h9 n (e + 1) F (by omega) (by omega) (by omega) (by omega)
    generalize loopF (g_X5_advance_l37 1 j19) F = self at ih
    unfold g_X5_advance_l37 rnP
    rw [e_gF, runC_f.1, e_gF, runC_f.2.2.2.2, hL, b_neg (by omega), e_gF, runC_f.1, e_rdn _ _ _ _ _ (by omega), show 1 + 1 = 2 from rfl, show runC h q e k 2 = h 2 from tokC_p (by omega), k_kindOf, e_cP, e_gF, runC_f.2.1, if_pos z]
    by_cases y : kdP (h 2 e) = k
    · rw [b_pos y, if_pos y, e_gF, runC_f.2.2.2.1, e_cI, e_mulw, e_gF, runC_f.1, e_rdn _ _ _ _ _ (by omega), show runC h q e k 2 = h 2 from tokC_p (by omega), e_addw, e_cI]
      have sb : ∀ (x y : Int) (K : Int → Option Hp), subI x y K = K (wr (x - y)) := fun _ _ _ => rfl
      have hh : ∀ (x : Int), set2 (set2 (runC h q e k) 1 5 x) 1 2 (((e + 1 : Nat) : Int)) = tokC h q (e + 1) k x := by
        intro x
        funext p j
        unfold runC tokC set2
        by_cases a : p = 1
        · subst a
          by_cases a2 : j = 2
          · simp [a2]
          · by_cases a5 : j = 5
            · simp [a5]
            · simp [a2, a5]
        · simp [a]
      rw [sb, e_pF, e_gF, set2_nk _ _ _ _ _ _ (by omega), runC_f.1, e_cI, e_add _ _ _ (by omega), e_pF, show (e : Int) + 1 = ((e + 1 : Nat) : Int) by omega, hh, ← ih]
      congr 1
      unfold runC
      rw [show e + 1 - q = e - q + 1 by omega]
      show _ = tokC h q (e + 1) k (wr (wr (wr (10 * nvP (h 2) q (e - q)) + h 2 (q + (e - q))) - 48))
      rw [show q + (e - q) = e by omega, Int.mul_comm]
    · rw [b_neg y, if_neg y]
theorem k_advance {h : Hp} {L p : Nat} (hL : h 1 1 = (L : Int)) (h9 : L ≤ 900) (hp : h 1 2 = (p : Int)) (hpL : p ≤ L) : ∃ v, g_X5_advance 1 h = some (tokC h (tq (h 2) L p) (te (h 2) L p) (tk (h 2) L p) v) ∧ (tk (h 2) L p = 2 → v = nvP (h 2) (tq (h 2) L p) (te (h 2) L p - tq (h 2) L p)) := by
  have h1 := skP_in (b := h 2) (L := L) L p hpL (by omega)
  have hq : tq (h 2) L p = skP (h 2) L L p := rfl
  rw [← hq] at h1
  unfold g_X5_advance
  have sk := fun j2 => k_skip (j2 := j2) hL h9 L p FU hpL (by omega) (fu _ (by omega))
  have e0 : atC h p = h := by
    unfold atC
    funext a j
    unfold set2
    split
    · rename_i q
      rw [q.1, q.2, hp]
    · rfl
  rw [e0] at sk
  rw [← hq] at sk
  have red : ∀ (J : Hp → Option Hp), (joinF J fun j2 => loopF (g_X5_advance_l67 1 j2) FU h) = J (atC h (tq (h 2) L p)) := fun J => by (rw [e_join]; (try dsimp only); rw [sk])
  rw [red]
  unfold tk te
  generalize tq (h 2) L p = q at *
  have f2 : ∀ (x : Int), set2 (set2 (atC h q) 1 4 (q : Int)) 1 5 x 1 2 = (q : Int) := fun x => by rw [set2_nk _ _ _ _ _ _ (by omega), set2_nk _ _ _ _ _ _ (by omega), atC_2]
  have f1 : ∀ (x : Int), set2 (set2 (atC h q) 1 4 (q : Int)) 1 5 x 1 1 = (L : Int) := fun x => by rw [set2_nk _ _ _ _ _ _ (by omega), set2_nk _ _ _ _ _ _ (by omega), atC_ne (by omega), hL]
  have fb : ∀ (x : Int), set2 (set2 (atC h q) 1 4 (q : Int)) 1 5 x 2 = h 2 := fun x => by rw [set2_ne 2 (by omega), set2_ne 2 (by omega), atC_p (by omega)]
  have ft : ∀ (x k : Int), set2 (set2 (set2 (atC h q) 1 4 (q : Int)) 1 5 x) 1 3 k = tokC h q q k x := by
    intro x k
    funext a j
    unfold atC tokC set2
    by_cases y : a = 1
    · subst y
      by_cases y3 : j = 3
      · simp [y3]
      · by_cases y5 : j = 5
        · simp [y5]
        · by_cases y4 : j = 4
          · simp [y4]
          · by_cases y2 : j = 2
            · simp [y2]
            · simp [y2, y3, y4, y5]
    · simp [y]
  rw [e_gF, atC_2, e_pF, e_cI, e_pF, e_gF, f2, e_gF, f1]
  by_cases z : L ≤ q
  · rw [b_neg (by omega), e_cI, e_pF, ft, if_pos z, if_pos z]
    exact ⟨0, rfl, fun y => absurd y (by decide)⟩
  rw [b_pos (by omega), e_gF, f2, e_rdn _ _ _ _ _ (by omega), show 1 + 1 = 2 from rfl, fb, k_kindOf, e_cP, e_pF, ft, e_gF, e_cI, if_neg z]
  simp only [if_neg z]
  have k3 : ∀ (a e : Nat) (k x : Int), tokC h a e k x 1 3 = k ∧ tokC h a e k x 1 2 = (e : Int) ∧ tokC h a e k x 1 4 = (a : Int) := fun a e k x => ⟨rfl, rfl, rfl⟩
  rw [(k3 q q _ 0).1]
  generalize hk0 : kdP (h 2 q) = k0
  have base : tokC h q q k0 0 = runC h q q k0 := by
    unfold runC
    rw [show q - q = 0 by omega]
    rfl
  -- a run of words or numbers
  have wordrun : ∀ (J : Hp → Option Hp) (most : Int), (most = if k0 = 1 then 8 else 3) → (k0 = 1 ∨ k0 = 2) →
      (joinF (fun (a18 : Hp) => gF a18 1 2 fun z21 => gF a18 1 4 fun z22 => subI z21 z22 fun z23 => gF a18 1 3 fun z24 => cI 1 fun z25 => joinF (fun (a26 : Int) => joinF (fun (a29 : Hp) => some a29) fun j30 => if z23 ≤ a26 then j30 a18 else cI 0 fun z32 => pF a18 1 3 z32 fun h33 => j30 h33) fun j27 => if z24 = z25 then cI 8 fun z35 => j27 z35 else cI 3 fun z34 => j27 z34) fun j19 => loopF (g_X5_advance_l37 1 j19) FU (tokC h q q k0 0)) =
      some (tokC h q (rnP (h 2) L k0 L q) (if (rnP (h 2) L k0 L q : Int) - (q : Int) ≤ most then k0 else 0) (nvP (h 2) q (rnP (h 2) L k0 L q - q))) := by
    intro J most hm hk
    have r := rnP_in (b := h 2) (L := L) (k := k0) L q (by omega) (by omega)
    (rw [e_join]; (try dsimp only); rw [base, k_run1 hL h9 L q FU (Nat.le_refl _) (by omega) (by omega) (fu _ (by omega))])
    generalize rnP (h 2) L k0 L q = e at r
    rw [e_gF, runC_f.1, e_gF, runC_f.2.2.1, e_sub _ _ _ (by omega), e_gF, runC_f.2.1, e_cI]
    refine join_gen (fun j27 hj27 => ?_)
    have go : j27 most = some (tokC h q e (if (e : Int) - (q : Int) ≤ most then k0 else 0) (nvP (h 2) q (e - q))) := by
      (rw [hj27, e_join]; (try dsimp only))
      by_cases y : (e : Int) - (q : Int) ≤ most
      · rw [b_pos y, if_pos y]
        rfl
      · rw [b_neg y, e_cI, e_pF, if_neg y]
        congr 1
        funext a j
        unfold runC tokC set2
        by_cases w : a = 1
        · subst w
          by_cases w3 : j = 3
          · simp [w3]
          · simp [w3]
        · simp [w]
    rw [← go, hm]
    by_cases y : k0 = 1
    · rw [b_pos y, e_cI, if_pos y]
    · rw [b_neg y, e_cI, if_neg y]
  by_cases y1 : k0 = 1
  · have w := wordrun (fun _ => none) 8 (by rw [if_pos y1]) (Or.inl y1)
    have r := rnP_in (b := h 2) (L := L) (k := k0) L q (by omega) (by omega)
    (rw [e_join]; (try dsimp only); rw [b_pos y1, w, if_pos y1, if_pos y1])
    subst y1
    refine ⟨nvP (h 2) q (rnP (h 2) L 1 L q - q), congrArg some ?_, fun y => ?_⟩
    · congr 1
      by_cases a : rnP (h 2) L 1 L q ≤ q + 8
      · rw [if_pos a, if_pos (by omega)]
      · rw [if_neg a, if_neg (by omega)]
    · split at y <;> omega
  rw [if_neg y1, if_neg y1]
  by_cases y2 : k0 = 2
  · have w := wordrun (fun _ => none) 3 (by rw [if_neg y1]) (Or.inr y2)
    have r := rnP_in (b := h 2) (L := L) (k := k0) L q (by omega) (by omega)
    (rw [e_join]; (try dsimp only); rw [b_neg y1, e_gF, (k3 q q _ 0).1, e_cI, b_pos y2, w, if_pos y2, if_pos y2])
    subst y2
    refine ⟨nvP (h 2) q (rnP (h 2) L 2 L q - q), congrArg some ?_, fun _ => rfl⟩
    congr 1
    by_cases a : rnP (h 2) L 2 L q ≤ q + 3
    · rw [if_pos a, if_pos (by omega)]
    · rw [if_neg a, if_neg (by omega)]
  · (rw [e_join]; (try dsimp only); rw [b_neg y1, e_gF, (k3 q q _ 0).1, e_cI, b_neg y2, e_gF, (k3 q q _ 0).2.1, e_cI, e_add _ _ _ (by omega), e_pF, if_neg y2, if_neg y2])
    refine ⟨0, congrArg some ?_, fun y => absurd y y2⟩
    funext a j
    unfold tokC set2
    by_cases w : a = 1
    · subst w
      by_cases w2 : j = 2
      · simp [w2]
      · simp [w2]
    · simp [w]
