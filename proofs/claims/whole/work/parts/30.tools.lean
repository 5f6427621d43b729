/-! PURE TOOLS: evaluation of the G functions -/
section EVAL
variable {R α : Type}
theorem c_le_t {x y : Int} (h : x ≤ y) : (x ≤ y) = True := eq_true h
theorem c_le_f {x y : Int} (h : y < x) : (x ≤ y) = False := eq_false (by omega)
theorem c_lt_t {x y : Int} (h : x < y) : (x < y) = True := eq_true h
theorem c_lt_f {x y : Int} (h : y ≤ x) : (x < y) = False := eq_false (by omega)
theorem c_eq_t {x y : Int} (h : x = y) : (x = y) = True := eq_true h
theorem c_eq_f {x y : Int} (h : x ≠ y) : (x = y) = False := eq_false h
theorem e_cI (c : Int) (K : Int → Option R) : cI c K = K c := rfl
theorem e_add (x y : Int) (K : Int → Option R) (h : -2147483648 ≤ x + y ∧ x + y < 2147483648) : addI x y K = K (x + y) := by unfold addI; rw [wr_eq h]
theorem e_sub (x y : Int) (K : Int → Option R) (h : -2147483648 ≤ x - y ∧ x - y < 2147483648) : subI x y K = K (x - y) := by unfold subI; rw [wr_eq h]
theorem e_mul (x y : Int) (K : Int → Option R) (h : -2147483648 ≤ x * y ∧ x * y < 2147483648) : mulI x y K = K (x * y) := by unfold mulI; rw [wr_eq h]
theorem e_gF (h : Hp) (b k : Nat) (K : Int → Option R) : gF h b k K = K (h b k) := rfl
theorem e_pF (h : Hp) (b k : Nat) (x : Int) (K : Hp → Option R) : pF h b k x K = K (set2 h b k x) := rfl
theorem e_pZ (h : Hp) (b k : Nat) (x : Int) (K : Hp → Option R) (hz : x = 0 ∨ x = 1) : pZ h b k x K = K (set2 h b k x) := by unfold pZ; rw [if_pos hz]
theorem e_rd (h : Hp) (q n : Nat) (i : Int) (K : Int → Option R) (hi : 0 ≤ i ∧ i < (n : Int)) : rdI h q n i K = K (h q i.toNat) := by unfold rdI; rw [if_pos hi]
theorem e_wr (h : Hp) (q n : Nat) (i x : Int) (K : Hp → Option R) (hi : 0 ≤ i ∧ i < (n : Int)) : wrI h q n i x K = K (set2 h q i.toNat x) := by unfold wrI; rw [if_pos hi]
theorem e_cP (r : Int) (K : Int → Option R) : cP (some r) K = K r := rfl
theorem e_cW (r : Int) (h : Hp) (K : Int → Hp → Option R) : cW (some (r, h)) K = K r h := rfl
theorem e_cV (r : Hp) (K : Hp → Option R) : cV (some r) K = K r := rfl
theorem e_join (J : α → Option R) (K : (α → Option R) → Option R) : joinF J K = K J := rfl
theorem e_retZ0 : retZ 0 = some 0 := rfl
theorem e_retZ1 : retZ 1 = some 1 := rfl
theorem loopF_for' {σ R : Type} {body : (σ → Option R) → σ → Option R} (N : Nat) (st : Nat → σ) {out : Option R} {s0 : σ} {n : Nat} (hs : ∀ (i : Nat), i < N → ∀ self : σ → Option R, body self (st i) = self (st (i + 1))) (ho : ∀ self : σ → Option R, body self (st N) = out) (h0 : s0 = st 0) (hn : N < n) : loopF body n s0 = out := by
  rw [h0]
  exact loopF_for N st out hs ho n 0 (Nat.zero_le _) (by omega)
end EVAL
def upd1 (s : Nat → Int) (k : Nat) (x : Int) : Nat → Int := fun j => if j = k then x else s j
def setRow (h : Hp) (q : Nat) (s : Nat → Int) : Hp := fun p j => if p = q then s j else h p j
theorem upd1_same (s : Nat → Int) (k : Nat) (x : Int) : upd1 s k x k = x := by simp [upd1]
theorem upd1_ne (s : Nat → Int) (k : Nat) (x : Int) (j : Nat) (h : j ≠ k) : upd1 s k x j = s j := by simp [upd1, h]
theorem upd1_le (s : Nat → Int) (k : Nat) (x : Int) (j : Nat) (h : j = k) : upd1 s k x j = x := by simp [upd1, h]
theorem set2_same (h : Hp) (p k : Nat) (x : Int) : set2 h p k x p k = x := by simp [set2]
theorem set2_np (h : Hp) (p k : Nat) (x : Int) (q j : Nat) (hq : q ≠ p) : set2 h p k x q j = h q j := by simp [set2, hq]
theorem set2_nk (h : Hp) (p k : Nat) (x : Int) (q j : Nat) (hj : j ≠ k) : set2 h p k x q j = h q j := by simp [set2, hj]
theorem setRow_same (h : Hp) (q : Nat) (s : Nat → Int) : setRow h q s q = s := by funext j; simp [setRow]
theorem setRow_ne (h : Hp) (q : Nat) (s : Nat → Int) (p : Nat) (hp : p ≠ q) : setRow h q s p = h p := by funext j; simp [setRow, hp]
theorem setRow_setRow (h : Hp) (q : Nat) (s t : Nat → Int) : setRow (setRow h q s) q t = setRow h q t := by funext p j; simp only [setRow]; split <;> rfl
theorem setRow_self (h : Hp) (q : Nat) : setRow h q (h q) = h := by funext p j; simp only [setRow]; split <;> simp_all
theorem set2_row (h : Hp) (q k : Nat) (x : Int) : set2 h q k x = setRow h q (upd1 (h q) k x) := by
  funext p j
  simp only [set2, setRow, upd1]
  by_cases hp : p = q
  · subst hp; simp
  · simp [hp]
def sumN (f : Nat → Int) : Nat → Int
  | 0 => 0
  | n + 1 => sumN f n + f n
theorem sumN_nonneg {f : Nat → Int} : ∀ {n : Nat}, (∀ i, i < n → 0 ≤ f i) → 0 ≤ sumN f n
  | 0, _ => Int.le_refl _
  | n + 1, h => by
    have h1 := sumN_nonneg (n := n) (fun i hi => h i (by omega))
    have h2 := h n (by omega)
    simp only [sumN]; omega
theorem sumN_mono {f : Nat → Int} {n : Nat} (h : ∀ i, i < n → 0 ≤ f i) : ∀ {k : Nat}, k ≤ n → sumN f k ≤ sumN f n := by
  induction n with
  | zero => intro k hk; have : k = 0 := by omega
            subst this; exact Int.le_refl _
  | succ n ih =>
    intro k hk
    by_cases q : k = n + 1
    · subst q; exact Int.le_refl _
    · have h1 := ih (fun i hi => h i (by omega)) (k := k) (by omega)
      have h2 := h n (by omega)
      simp only [sumN]; omega
theorem sumN_ge {f : Nat → Int} {n : Nat} (h : ∀ i, i < n → 0 ≤ f i) {k : Nat} (hk : k < n) : f k ≤ sumN f n := by
  have h1 := sumN_mono h (k := k + 1) (by omega)
  have h2 := sumN_nonneg (f := f) (n := k) (fun i hi => h i (by omega))
  simp only [sumN] at h1; omega
theorem sumN_congr {f g : Nat → Int} : ∀ {n : Nat}, (∀ i, i < n → f i = g i) → sumN f n = sumN g n
  | 0, _ => rfl
  | n + 1, h => by
    have h1 := sumN_congr (n := n) (fun i hi => h i (by omega))
    simp only [sumN]; rw [h1, h n (by omega)]
theorem sumN_upd {f : Nat → Int} {k : Nat} {x : Int} : ∀ {n : Nat}, k < n → sumN (upd1 f k x) n = sumN f n - f k + x
  | 0, h => by omega
  | n + 1, h => by
    simp only [sumN]
    by_cases q : k = n
    · subst q
      rw [upd1_same, sumN_congr (f := upd1 f k x) (g := f) (fun i hi => upd1_ne _ _ _ _ (by omega))]
      omega
    · rw [sumN_upd (n := n) (by omega), upd1_ne _ _ _ _ (by omega)]
      omega
theorem sumN_upd_out {f : Nat → Int} {k : Nat} {x : Int} {n : Nat} (h : n ≤ k) : sumN (upd1 f k x) n = sumN f n := sumN_congr (fun i hi => upd1_ne _ _ _ _ (by omega))
theorem t_heights (b0 N : Nat) (h : Hp) (hN : N ≤ 64) (h0 : ∀ i, i < N → 0 ≤ h (b0 + 1) i) (hs : sumN (h (b0 + 1)) N ≤ 10000) : g_X3_heights b0 N h = some (sumN (h (b0 + 1)) N) := by
  unfold g_X3_heights
  simp (disch := (first | omega | (simp (disch := omega) only [set2_same, set2_np, set2_nk, setRow_same, setRow_ne, upd1_same, upd1_ne, upd1_le, Int.toNat_natCast]; omega))) only [↓reduceIte, ↓e_cI, ↓e_add, ↓e_sub, ↓e_mul, ↓e_gF, ↓e_pF, ↓e_pZ, ↓e_rd, ↓e_wr, ↓e_cP, ↓e_cW, ↓e_cV, ↓e_join, c_le_t, c_le_f, c_lt_t, c_lt_f, c_eq_t, c_eq_f, Int.toNat_natCast, set2_same, set2_np, set2_nk, setRow_same, setRow_ne, upd1_same, upd1_ne, upd1_le, Int.toNat_natCast]
  refine loopF_for' N (fun i => (sumN (h (b0 + 1)) i, (i : Int))) ?_ ?_ rfl (by unfold FU; omega)
  · intro i hi self
    have a1 := sumN_nonneg (f := h (b0 + 1)) (n := i) (fun j hj => h0 j (by omega))
    have a2 := sumN_mono h0 (k := i + 1) (by omega)
    have a3 := h0 i hi
    simp only [sumN] at a2 ⊢
    simp (disch := (first | omega | (simp (disch := omega) only [set2_same, set2_np, set2_nk, setRow_same, setRow_ne, upd1_same, upd1_ne, upd1_le, Int.toNat_natCast]; omega))) only [↓reduceIte, ↓e_cI, ↓e_add, ↓e_sub, ↓e_mul, ↓e_gF, ↓e_pF, ↓e_pZ, ↓e_rd, ↓e_wr, ↓e_cP, ↓e_cW, ↓e_cV, ↓e_join, c_le_t, c_le_f, c_lt_t, c_lt_f, c_eq_t, c_eq_f, Int.toNat_natCast, set2_same, set2_np, set2_nk, setRow_same, setRow_ne, upd1_same, upd1_ne, upd1_le, Int.toNat_natCast]
    rfl
  · intro self
    simp (disch := (first | omega | (simp (disch := omega) only [set2_same, set2_np, set2_nk, setRow_same, setRow_ne, upd1_same, upd1_ne, upd1_le, Int.toNat_natCast]; omega))) only [↓reduceIte, ↓e_cI, ↓e_add, ↓e_sub, ↓e_mul, ↓e_gF, ↓e_pF, ↓e_pZ, ↓e_rd, ↓e_wr, ↓e_cP, ↓e_cW, ↓e_cV, ↓e_join, c_le_t, c_le_f, c_lt_t, c_lt_f, c_eq_t, c_eq_f, Int.toNat_natCast, set2_same, set2_np, set2_nk, setRow_same, setRow_ne, upd1_same, upd1_ne, upd1_le, Int.toNat_natCast]
