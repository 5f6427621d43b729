/-! PURE TOOLS: evaluation of the G functions -/
section EVAL
variable {R α : Type}
theorem nrfl {α : Sort _} {a b : α} (h : a = b) : a = b := by
  have h2 := h.symm
  exact h2.symm
theorem c_le_t {x y : Int} (h : x ≤ y) : (x ≤ y) = True := eq_true h
theorem c_le_f {x y : Int} (h : y < x) : (x ≤ y) = False := eq_false (by omega)
theorem c_lt_t {x y : Int} (h : x < y) : (x < y) = True := eq_true h
theorem c_lt_f {x y : Int} (h : y ≤ x) : (x < y) = False := eq_false (by omega)
theorem c_eq_t {x y : Int} (h : x = y) : (x = y) = True := eq_true h
theorem c_eq_f {x y : Int} (h : x ≠ y) : (x = y) = False := eq_false h
theorem e_cI (c : Int) (K : Int → Option R) : cI c K = K c := nrfl rfl
theorem e_add (x y : Int) (K : Int → Option R) (h : -2147483648 ≤ x + y ∧ x + y < 2147483648) : addI x y K = K (x + y) := by unfold addI; rw [wr_eq h]
theorem e_sub (x y : Int) (K : Int → Option R) (h : -2147483648 ≤ x - y ∧ x - y < 2147483648) : subI x y K = K (x - y) := by unfold subI; rw [wr_eq h]
theorem e_mul (x y : Int) (K : Int → Option R) (h : -2147483648 ≤ x * y ∧ x * y < 2147483648) : mulI x y K = K (x * y) := by unfold mulI; rw [wr_eq h]
theorem e_gF (h : Hp) (b k : Nat) (K : Int → Option R) : gF h b k K = K (h b k) := nrfl rfl
theorem e_pF (h : Hp) (b k : Nat) (x : Int) (K : Hp → Option R) : pF h b k x K = K (set2 h b k x) := nrfl rfl
theorem e_pZ (h : Hp) (b k : Nat) (x : Int) (K : Hp → Option R) (hz : x = 0 ∨ x = 1) : pZ h b k x K = K (set2 h b k x) := by unfold pZ; rw [if_pos hz]
theorem e_rd (h : Hp) (q n : Nat) (i : Int) (K : Int → Option R) (hi : 0 ≤ i ∧ i < (n : Int)) : rdI h q n i K = K (h q i.toNat) := by unfold rdI; rw [if_pos hi]
theorem e_wr (h : Hp) (q n : Nat) (i x : Int) (K : Hp → Option R) (hi : 0 ≤ i ∧ i < (n : Int)) : wrI h q n i x K = K (set2 h q i.toNat x) := by unfold wrI; rw [if_pos hi]
theorem e_cP (r : Int) (K : Int → Option R) : cP (some r) K = K r := nrfl rfl
theorem e_cW (r : Int) (h : Hp) (K : Int → Hp → Option R) : cW (some (r, h)) K = K r h := nrfl rfl
theorem e_cV (r : Hp) (K : Hp → Option R) : cV (some r) K = K r := nrfl rfl
theorem e_join (J : α → Option R) (K : (α → Option R) → Option R) : joinF J K = K J := nrfl rfl
theorem e_retZ0 : retZ 0 = some 0 := nrfl rfl
theorem e_retZ1 : retZ 1 = some 1 := nrfl rfl
theorem loopF_for' {σ R : Type} {body : (σ → Option R) → σ → Option R} (N : Nat) (st : Nat → σ) {out : Option R} {s0 : σ} {n : Nat} (hs : ∀ (i : Nat), i < N → ∀ self : σ → Option R, body self (st i) = self (st (i + 1))) (ho : ∀ self : σ → Option R, body self (st N) = out) (h0 : s0 = st 0) (hn : N < n) : loopF body n s0 = out := by
  rw [h0]
  exact loopF_for N st out hs ho n 0 (Nat.zero_le _) (by omega)
end EVAL
def upd1 (s : Nat → Int) (k : Nat) (x : Int) : Nat → Int := fun j => if j = k then x else s j
def setRow (h : Hp) (q : Nat) (s : Nat → Int) : Hp := fun p j => if p = q then s j else h p j
theorem upd1_same (s : Nat → Int) (k : Nat) (x : Int) : upd1 s k x k = x := by simp [upd1]
theorem upd1_ne (s : Nat → Int) (k : Nat) (x : Int) (j : Nat) (h : j ≠ k) : upd1 s k x j = s j := by simp [upd1, h]
theorem upd1_le (s : Nat → Int) (k : Nat) (x : Int) (j : Nat) (h : j = k) : upd1 s k x j = x := by simp [upd1, h]
theorem set2_same (h : Hp) (p k : Nat) (x : Int) : set2 h p k x p k = x := by simp [set2]
theorem set2_np (h : Hp) (p k : Nat) (x : Int) (q j : Nat) (hq : q ≠ p) : set2 h p k x q j = h q j := by simp [set2, hq]
theorem set2_nk (h : Hp) (p k : Nat) (x : Int) (q j : Nat) (hj : j ≠ k) : set2 h p k x q j = h q j := by simp [set2, hj]
theorem setRow_same (h : Hp) (q : Nat) (s : Nat → Int) : setRow h q s q = s := by funext j; simp [setRow]
theorem setRow_ne (h : Hp) (q : Nat) (s : Nat → Int) (p : Nat) (hp : p ≠ q) : setRow h q s p = h p := by funext j; simp [setRow, hp]
theorem setRow_setRow (h : Hp) (q : Nat) (s t : Nat → Int) : setRow (setRow h q s) q t = setRow h q t := by funext p j; simp only [setRow]; split <;> rfl
theorem setRow_self (h : Hp) (q : Nat) : setRow h q (h q) = h := by funext p j; simp only [setRow]; split <;> simp_all
theorem set2_row (h : Hp) (q k : Nat) (x : Int) : set2 h q k x = setRow h q (upd1 (h q) k x) := by
  funext p j
  simp only [set2, setRow, upd1]
  by_cases hp : p = q
  · subst hp; simp
  · simp [hp]
def sumN (f : Nat → Int) : Nat → Int
  | 0 => 0
  | n + 1 => sumN f n + f n
theorem sumN_nonneg {f : Nat → Int} : ∀ {n : Nat}, (∀ i, i < n → 0 ≤ f i) → 0 ≤ sumN f n
  | 0, _ => Int.le_refl _
  | n + 1, h => by
    have h1 := sumN_nonneg (n := n) (fun i hi => h i (by omega))
    have h2 := h n (by omega)
    simp only [sumN]; omega
theorem sumN_mono {f : Nat → Int} {n : Nat} (h : ∀ i, i < n → 0 ≤ f i) : ∀ {k : Nat}, k ≤ n → sumN f k ≤ sumN f n := by
  induction n with
  | zero => intro k hk; have : k = 0 := by omega
            subst this; exact Int.le_refl _
  | succ n ih =>
    intro k hk
    by_cases q : k = n + 1
    · subst q; exact Int.le_refl _
    · have h1 := ih (fun i hi => h i (by omega)) (k := k) (by omega)
      have h2 := h n (by omega)
      simp only [sumN]; omega
theorem sumN_ge {f : Nat → Int} {n : Nat} (h : ∀ i, i < n → 0 ≤ f i) {k : Nat} (hk : k < n) : f k ≤ sumN f n := by
  have h1 := sumN_mono h (k := k + 1) (by omega)
  have h2 := sumN_nonneg (f := f) (n := k) (fun i hi => h i (by omega))
  simp only [sumN] at h1; omega
theorem sumN_congr {f g : Nat → Int} : ∀ {n : Nat}, (∀ i, i < n → f i = g i) → sumN f n = sumN g n
  | 0, _ => rfl
  | n + 1, h => by
    have h1 := sumN_congr (n := n) (fun i hi => h i (by omega))
    simp only [sumN]; rw [h1, h n (by omega)]
theorem sumN_upd {f : Nat → Int} {k : Nat} {x : Int} : ∀ {n : Nat}, k < n → sumN (upd1 f k x) n = sumN f n - f k + x
  | 0, h => by omega
  | n + 1, h => by
    simp only [sumN]
    by_cases q : k = n
    · subst q
      rw [upd1_same, sumN_congr (f := upd1 f k x) (g := f) (fun i hi => upd1_ne _ _ _ _ (by omega))]
      omega
    · rw [sumN_upd (n := n) (by omega), upd1_ne _ _ _ _ (by omega)]
      omega
theorem sumN_upd_out {f : Nat → Int} {k : Nat} {x : Int} {n : Nat} (h : n ≤ k) : sumN (upd1 f k x) n = sumN f n := sumN_congr (fun i hi => upd1_ne _ _ _ _ (by omega))
theorem e_wrR {R : Type} (h : Hp) (q n : Nat) (i x : Int) (K : Hp → Option R) (hi : 0 ≤ i ∧ i < (n : Int)) : wrI h q n i x K = K (setRow h q (upd1 (h q) i.toNat x)) := by unfold wrI; rw [if_pos hi, set2_row]
theorem w_row {R : Type} {h : Hp} {q n : Nat} {s : Nat → Int} {i x : Int} {K : Hp → Option R} {out : Option R} (hi : 0 ≤ i ∧ i < (n : Int)) (kk : ∀ s', s' = upd1 s i.toNat x → K (setRow h q s') = out) : wrI (setRow h q s) q n i x K = out := by
  rw [e_wrR _ _ _ _ _ _ hi, setRow_same, setRow_setRow]
  exact kk _ rfl
theorem e_div {R : Type} (x y : Int) (K : Int → Option R) (h : 0 ≤ x ∧ x < 2147483648 ∧ 0 < y) : divI x y K = K (x / y) := by
  unfold divI
  rw [if_neg (by omega), Int.tdiv_eq_ediv_of_nonneg h.1, wr_eq]
  have h1 := Int.ediv_nonneg h.1 (show 0 ≤ y by omega)
  have h2 := Int.ediv_le_self y h.1
  omega
theorem e_rem {R : Type} (x y : Int) (K : Int → Option R) (h : 0 ≤ x ∧ 0 < y) : remI x y K = K (x % y) := by
  unfold remI
  rw [if_neg (by omega), Int.tmod_eq_emod_of_nonneg h.1]
theorem e_max {R : Type} (x y : Int) (K : Int → Option R) : maxI x y K = K (if x < y then y else x) := nrfl rfl
theorem e_min {R : Type} (x y : Int) (K : Int → Option R) : minI x y K = K (if y < x then y else x) := nrfl rfl
theorem e_abs {R : Type} (x : Int) (K : Int → Option R) (h : -2147483647 ≤ x ∧ x < 2147483648) : absI x K = K (if 0 ≤ x then x else 0 - x) := by
  unfold absI; rw [wr_eq]; split <;> omega
theorem e_addw {R : Type} (x y : Int) (K : Int → Option R) : addI x y K = K (wr (x + y)) := nrfl rfl
theorem tn_0 (b : Nat) : (0 + (b : Int)).toNat = b := by omega
theorem tn_64 (b : Nat) : (64 + (b : Int)).toNat = 64 + b := by omega
theorem tn_128 (b : Nat) : (128 + (b : Int)).toNat = 128 + b := by omega
theorem tn_192 (b : Nat) : (192 + (b : Int)).toNat = 192 + b := by omega
theorem tn_256 (b : Nat) : (256 + (b : Int)).toNat = 256 + b := by omega
theorem tn_260 (b : Nat) : (260 + (b : Int)).toNat = 260 + b := by omega
theorem tn_264 (b : Nat) : (264 + (b : Int)).toNat = 264 + b := by omega
theorem tn_276 (b : Nat) : (276 + (b : Int)).toNat = 276 + b := by omega
theorem tn_280 (b : Nat) : (280 + (b : Int)).toNat = 280 + b := by omega
theorem tn_284 (b : Nat) : (284 + (b : Int)).toNat = 284 + b := by omega
theorem b_pos {c : Prop} {i : Decidable c} {α : Sort _} {a b : α} (h : c) : @ite α c i a b = a := if_pos h
theorem b_neg {c : Prop} {i : Decidable c} {α : Sort _} {a b : α} (h : ¬ c) : @ite α c i a b = b := if_neg h
theorem join_gen {R α : Type} {J : α → Option R} {K : (α → Option R) → Option R} {out : Option R} (kk : ∀ j : α → Option R, (∀ a, j a = J a) → K j = out) : joinF J K = out := kk J (fun _ => rfl)
