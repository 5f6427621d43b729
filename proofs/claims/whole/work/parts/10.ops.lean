/-! PURE OPERATIONS: numbers as Int, the heap as a function place -> index -> number -/
abbrev Hp : Type := Nat → Nat → Int
def set2 (h : Hp) (p k : Nat) (x : Int) : Hp := fun q j => if q = p ∧ j = k then x else h q j
def inR (x : Int) : Prop := -2147483648 ≤ x ∧ x < 2147483648
def wr (x : Int) : Int := (x + 2147483648) % 4294967296 - 2147483648
def wl (x : Int) : Int := (x + 9223372036854775808) % 18446744073709551616 - 9223372036854775808
def iI (x : Int) : Int32 := Int32.ofInt x
section OPS
variable {R α : Type}
def cI (c : Int) (K : Int → Option R) : Option R := K c
def addI (x y : Int) (K : Int → Option R) : Option R := K (wr (x + y))
def subI (x y : Int) (K : Int → Option R) : Option R := K (wr (x - y))
def mulI (x y : Int) (K : Int → Option R) : Option R := K (wr (x * y))
def divI (x y : Int) (K : Int → Option R) : Option R := if y = 0 then none else K (wr (Int.tdiv x y))
def remI (x y : Int) (K : Int → Option R) : Option R := if y = 0 then none else K (Int.tmod x y)
def andI (x y : Int) (K : Int → Option R) : Option R := K (iI x &&& iI y).toInt
def orI (x y : Int) (K : Int → Option R) : Option R := K (iI x ||| iI y).toInt
def shlI (x y : Int) (K : Int → Option R) : Option R := K (iI x <<< (iI y &&& 31)).toInt
def shrI (x y : Int) (K : Int → Option R) : Option R := K (iI x >>> (iI y &&& 31)).toInt
def nb (x : Int) : Int := (iI x).toInt8.toInt32.toInt
def i2bI (x : Int) (K : Int → Option R) : Option R := K (nb x)
def maxI (x y : Int) (K : Int → Option R) : Option R := K (if x < y then y else x)
def minI (x y : Int) (K : Int → Option R) : Option R := K (if y < x then y else x)
def absI (x : Int) (K : Int → Option R) : Option R := K (wr (if 0 ≤ x then x else 0 - x))
def i2lI (x : Int) (K : Int → Option R) : Option R := K x
def l2iI (x : Int) (K : Int → Option R) : Option R := K (wr x)
def laddI (x y : Int) (K : Int → Option R) : Option R := K (wl (x + y))
def lsubI (x y : Int) (K : Int → Option R) : Option R := K (wl (x - y))
def lmulI (x y : Int) (K : Int → Option R) : Option R := K (wl (x * y))
def ldivI (x y : Int) (K : Int → Option R) : Option R := if y = 0 then none else K (wl (Int.tdiv x y))
def lremI (x y : Int) (K : Int → Option R) : Option R := if y = 0 then none else K (Int.tmod x y)
def lcmpI (x y : Int) (K : Int → Option R) : Option R := K (if y < x then 1 else if x = y then 0 else -1)
def gF (h : Hp) (b k : Nat) (K : Int → Option R) : Option R := K (h b k)
def pF (h : Hp) (b k : Nat) (x : Int) (K : Hp → Option R) : Option R := K (set2 h b k x)
def pZ (h : Hp) (b k : Nat) (x : Int) (K : Hp → Option R) : Option R := if x = 0 ∨ x = 1 then K (set2 h b k x) else none
def gR (h : Hp) (b k : Nat) (l : List Nat) (K : Nat → Option R) : Option R := if 0 ≤ h b k ∧ (h b k).toNat ∈ l then K (h b k).toNat else none
def pR (h : Hp) (b k : Nat) (q : Nat) (K : Hp → Option R) : Option R := K (set2 h b k (q : Int))
def rdI (h : Hp) (q n : Nat) (i : Int) (K : Int → Option R) : Option R := if 0 ≤ i ∧ i < (n : Int) then K (h q i.toNat) else none
def wrI (h : Hp) (q n : Nat) (i x : Int) (K : Hp → Option R) : Option R := if 0 ≤ i ∧ i < (n : Int) then K (set2 h q i.toNat x) else none
def wrB (h : Hp) (q n : Nat) (i x : Int) (K : Hp → Option R) : Option R := if 0 ≤ i ∧ i < (n : Int) then K (set2 h q i.toNat (nb x)) else none
def wrZ (h : Hp) (q n : Nat) (i x : Int) (K : Hp → Option R) : Option R := if (0 ≤ i ∧ i < (n : Int)) ∧ (x = 0 ∨ x = 1) then K (set2 h q i.toNat x) else none
def rdQ (n base stride : Nat) (i : Int) (K : Nat → Option R) : Option R := if 0 ≤ i ∧ i < (n : Int) then K (base + stride * i.toNat) else none
def rdT (t : List Int) (i : Int) (K : Int → Option R) : Option R := if 0 ≤ i ∧ i < (t.length : Int) then K (t.getD i.toNat 0) else none
def cpI (h : Hp) (q0 n0 : Nat) (p0 : Int) (q1 n1 : Nat) (p1 n : Int) (K : Hp → Option R) : Option R :=
  if (0 ≤ p0 ∧ 0 ≤ p1 ∧ 0 ≤ n) ∧ p0 + n ≤ (n0 : Int) ∧ p1 + n ≤ (n1 : Int) then K (fun q j => if q = q1 ∧ p1.toNat ≤ j ∧ j < p1.toNat + n.toNat then h q0 (p0.toNat + (j - p1.toNat)) else h q j) else none
def cpT (t : List Int) (p0 : Int) (h : Hp) (q1 n1 : Nat) (p1 n : Int) (K : Hp → Option R) : Option R :=
  if (0 ≤ p0 ∧ 0 ≤ p1 ∧ 0 ≤ n) ∧ p0 + n ≤ (t.length : Int) ∧ p1 + n ≤ (n1 : Int) then K (fun q j => if q = q1 ∧ p1.toNat ≤ j ∧ j < p1.toNat + n.toNat then t.getD (p0.toNat + (j - p1.toNat)) 0 else h q j) else none
def bindH (h : Hp) (K : Hp → Option R) : Option R := K h
def cP (o : Option Int) (K : Int → Option R) : Option R := match o with | none => none | some r => K r
def cW (o : Option (Int × Hp)) (K : Int → Hp → Option R) : Option R := match o with | none => none | some r => K r.1 r.2
def cV (o : Option Hp) (K : Hp → Option R) : Option R := match o with | none => none | some h => K h
def retZ (x : Int) : Option Int := if x = 0 ∨ x = 1 then some x else none
def retZW (x : Int) (h : Hp) : Option (Int × Hp) := if x = 0 ∨ x = 1 then some (x, h) else none
def loopF {σ : Type} (body : (σ → Option R) → σ → Option R) : Nat → σ → Option R
  | 0 => fun _ => none
  | n + 1 => fun q => body (loopF body n) q
def FU : Nat := 1000000
def joinF (J : α → Option R) (K : (α → Option R) → Option R) : Option R := K J
end OPS
theorem wr_eq {x : Int} (h : -2147483648 ≤ x ∧ x < 2147483648) : wr x = x := by unfold wr; omega
theorem wr_inR (x : Int) : inR (wr x) := by unfold wr inR; omega
theorem wl_eq {x : Int} (h : -9223372036854775808 ≤ x ∧ x < 9223372036854775808) : wl x = x := by unfold wl; omega
theorem bmod32 (x : Int) : x.bmod 4294967296 = wr x := by
  unfold wr Int.bmod
  simp only [show ((4294967296 : Nat) : Int) = 4294967296 from rfl]
  split <;> omega
theorem bmod64 (x : Int) : x.bmod 18446744073709551616 = wl x := by
  unfold wl Int.bmod
  simp only [show ((18446744073709551616 : Nat) : Int) = 18446744073709551616 from rfl]
  split <;> omega
theorem iI_toInt {x : Int} (h : inR x) : (iI x).toInt = x := by
  unfold iI
  rw [Int32.toInt_ofInt]
  show x.bmod 4294967296 = x
  rw [bmod32, wr_eq h]
theorem iI_wr (x : Int) : (iI x).toInt = wr x := by
  unfold iI
  rw [Int32.toInt_ofInt]
  exact bmod32 x
theorem tI_inR (X : Int32) : inR X.toInt := ⟨Int32.le_toInt X, Int32.toInt_lt X⟩
theorem iI_of (X : Int32) : iI X.toInt = X := Int32.ofInt_toInt X
theorem tI_add (X Y : Int32) : (X + Y).toInt = wr (X.toInt + Y.toInt) := by rw [Int32.toInt_add]; exact bmod32 _
theorem tI_sub (X Y : Int32) : (X - Y).toInt = wr (X.toInt - Y.toInt) := by rw [Int32.toInt_sub]; exact bmod32 _
theorem tI_mul (X Y : Int32) : (X * Y).toInt = wr (X.toInt * Y.toInt) := by rw [Int32.toInt_mul]; exact bmod32 _
theorem tI_div (X Y : Int32) : (X / Y).toInt = wr (Int.tdiv X.toInt Y.toInt) := by rw [Int32.toInt_div]; exact bmod32 _
theorem tI_rem (X Y : Int32) : (X - X / Y * Y).toInt = Int.tmod X.toInt Y.toInt := by
  have e : X - X / Y * Y = X % Y := by
    apply Int32.toInt_inj.mp
    rw [tI_sub, tI_mul, tI_div, Int32.toInt_mod]
    have hx := tI_inR X
    have hy := tI_inR Y
    have key : Int.tmod X.toInt Y.toInt = X.toInt - Int.tdiv X.toInt Y.toInt * Y.toInt := by
      rw [Int.tmod_def, Int.mul_comm]
    have hr : inR (Int.tmod X.toInt Y.toInt) := by
      have : inR (X % Y).toInt := tI_inR _
      rw [Int32.toInt_mod] at this
      exact this
    have e1 : wr (X.toInt - wr (wr (Int.tdiv X.toInt Y.toInt) * Y.toInt)) = wr (X.toInt - Int.tdiv X.toInt Y.toInt * Y.toInt) := by
      generalize Int.tdiv X.toInt Y.toInt = d
      generalize X.toInt = a
      generalize Y.toInt = b
      have h1 : wr (wr d * b) = wr (d * b) := by
        unfold wr
        have : ((d + 2147483648) % 4294967296 - 2147483648) * b + 2147483648 = d * b + 2147483648 - 4294967296 * ((d + 2147483648) / 4294967296 * b) := by
          have := Int.mul_ediv_add_emod (d + 2147483648) 4294967296
          generalize hq : (d + 2147483648) / 4294967296 = q at *
          generalize hm : (d + 2147483648) % 4294967296 = m at *
          have hd : d = 4294967296 * q + m - 2147483648 := by omega
          subst hd
          simp only [Int.sub_mul, Int.add_mul, Int.mul_assoc]
          omega
        rw [this, Int.sub_mul_emod_self_left]
      rw [h1]
      unfold wr
      omega
    rw [e1, ← key, wr_eq hr]
  rw [e, Int32.toInt_mod]
theorem tL_add (X Y : Int64) : (X + Y).toInt = wl (X.toInt + Y.toInt) := by rw [Int64.toInt_add]; exact bmod64 _
theorem tL_sub (X Y : Int64) : (X - Y).toInt = wl (X.toInt - Y.toInt) := by rw [Int64.toInt_sub]; exact bmod64 _
theorem tL_mul (X Y : Int64) : (X * Y).toInt = wl (X.toInt * Y.toInt) := by rw [Int64.toInt_mul]; exact bmod64 _
theorem tL_div (X Y : Int64) : (X / Y).toInt = wl (Int.tdiv X.toInt Y.toInt) := by rw [Int64.toInt_div]; exact bmod64 _
theorem tL_inR (X : Int64) : -9223372036854775808 ≤ X.toInt ∧ X.toInt < 9223372036854775808 := ⟨Int64.le_toInt X, Int64.toInt_lt X⟩
theorem wl_mul_wl (d b : Int) : wl (wl d * b) = wl (d * b) := by
  unfold wl
  have : ((d + 9223372036854775808) % 18446744073709551616 - 9223372036854775808) * b + 9223372036854775808 = d * b + 9223372036854775808 - 18446744073709551616 * ((d + 9223372036854775808) / 18446744073709551616 * b) := by
    have := Int.mul_ediv_add_emod (d + 9223372036854775808) 18446744073709551616
    generalize hq : (d + 9223372036854775808) / 18446744073709551616 = q at *
    generalize hm : (d + 9223372036854775808) % 18446744073709551616 = m at *
    have hd : d = 18446744073709551616 * q + m - 9223372036854775808 := by omega
    subst hd
    simp only [Int.sub_mul, Int.add_mul, Int.mul_assoc]
    omega
  rw [this, Int.sub_mul_emod_self_left]
theorem tL_rem (X Y : Int64) : (X - X / Y * Y).toInt = Int.tmod X.toInt Y.toInt := by
  have e : X - X / Y * Y = X % Y := by
    apply Int64.toInt_inj.mp
    rw [tL_sub, tL_mul, tL_div, Int64.toInt_mod]
    have key : Int.tmod X.toInt Y.toInt = X.toInt - Int.tdiv X.toInt Y.toInt * Y.toInt := by
      rw [Int.tmod_def, Int.mul_comm]
    have hr : -9223372036854775808 ≤ (Int.tmod X.toInt Y.toInt) ∧ (Int.tmod X.toInt Y.toInt) < 9223372036854775808 := by
      have := tL_inR (X % Y)
      rw [Int64.toInt_mod] at this
      exact this
    rw [wl_mul_wl]
    have e1 : ∀ a c : Int, wl (a - wl c) = wl (a - c) := by
      intro a c
      unfold wl
      omega
    rw [e1, ← key, wl_eq hr]
  rw [e, Int64.toInt_mod]
theorem tI_lt (X Y : Int32) : X < Y ↔ X.toInt < Y.toInt := Int32.lt_iff_toInt_lt
theorem tI_le (X Y : Int32) : X ≤ Y ↔ X.toInt ≤ Y.toInt := Int32.le_iff_toInt_le
theorem tI_eq (X Y : Int32) : X = Y ↔ X.toInt = Y.toInt := Int32.toInt_inj.symm
theorem tI_0 : (0 : Int32).toInt = 0 := rfl
theorem tI_eq0 (X : Int32) : X = 0 ↔ X.toInt = 0 := by rw [tI_eq, tI_0]
theorem tI_lt0 (X : Int32) : X < 0 ↔ X.toInt < 0 := by rw [tI_lt, tI_0]
theorem tI_0lt (X : Int32) : 0 < X ↔ 0 < X.toInt := by rw [tI_lt, tI_0]
theorem tI_le0 (X : Int32) : X ≤ 0 ↔ X.toInt ≤ 0 := by rw [tI_le, tI_0]
theorem tI_0le (X : Int32) : 0 ≤ X ↔ 0 ≤ X.toInt := by rw [tI_le, tI_0]
theorem vp_iff {i : Int32} {n : Nat} : vp_in i n ↔ 0 ≤ i.toInt ∧ i.toInt < n := vp_in_iff
theorem toNatClamp (i : Int32) : i.toNatClampNeg = i.toInt.toNat := rfl
def T_X0_LEAST : List Int := [1, 1, 0, 0, 1, 0, 0, 0, 1, 0, 0]
def T_X0_MOST : List Int := [8, 8, 40, 5, 60, 16, 20, 20, 15, 20, 9]
def T_X0_UNTOLD : List Int := [5, 5, 6, 2, 10, 4, 1, 0, 4, 6, 1]
def T_X2_LEAST : List Int := [0, 0, 1, 0, 1, 1, 0, 0, 0]
def T_X2_MOST : List Int := [359, 359, 60, 100, 8, 8, 99, 99, 9]
def T_X2_UNTOLD : List Int := [-1, -1, -1, -1, 1, 3, 4, 8, 1]
