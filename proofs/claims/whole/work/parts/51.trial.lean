/-! TRIALS: what a row becomes, when a flag falls -/
def workP (P : Hp) (x : Nat) (w : Int) (s : Nat → Int) : Nat → Int :=
  if w = 3 then doesP s 2 x 0
  else if w = 2 then (if x + cN P < nN P then doesP s 0 (x + cN P) x else s)
  else if w = 1 then (if cN P ≤ x then doesP s 0 (x - cN P) x else s)
  else if w = 0 then (if cN P ≤ x then doesP s 3 (x - cN P) 0 else s)
  else s
def trS (P : Hp) (x : Nat) (wk : Nat → Int) (s : Nat → Int) : Nat → (Nat → Int)
  | 0 => s
  | m + 1 => minuteP P (workP P x (wk m) (trS P x wk s m))
def lfP (S : Nat → (Nat → Int)) (c : Nat) (fl : Int) : Nat → Int
  | 0 => -1
  | m + 1 => if lfP S c fl m = -1 then (if S (m + 1) c < fl then (m : Int) else -1) else lfP S c fl m
def lastP (S : Nat → (Nat → Int)) (c : Nat) (fl : Int) (n : Nat) : Int := if lfP S c fl n = -1 then (n : Int) else lfP S c fl n
theorem workP_no {P : Hp} {x : Nat} {s : Nat → Int} : workP P x (-1) s = s := by
  unfold workP
  rw [if_neg (by decide), if_neg (by decide), if_neg (by decide), if_neg (by decide)]
theorem iv_workP {P : Hp} {B T w : Int} {x : Nat} {s : Nat → Int} (h : IV P B T s) (hv : PV P) (hx : x < nN P) : IV P B T (workP P x w s) := by
  obtain ⟨-, -, c1, -, -, -⟩ := hv.cr
  unfold workP
  split
  · exact iv_doesP h hv (by omega) (fun _ => hx) (fun q => absurd q (by decide))
  split
  · split
    · exact iv_doesP h hv (by omega) (fun _ => by omega) (fun _ => by omega)
    · exact h
  split
  · split
    · exact iv_doesP h hv (by omega) (fun _ => by omega) (fun _ => by omega)
    · exact h
  split
  · split
    · exact iv_doesP h hv (by omega) (fun _ => by omega) (fun q => absurd q (by decide))
    · exact h
  · exact h
theorem workP_far {P : Hp} {w : Int} {x j : Nat} {s : Nat → Int} (hv : PV P) (hx : x < nN P) (hj : 256 ≤ j) : workP P x w s j = s j := by
  have hN := hv.n
  unfold workP
  split
  · exact doesP_far (by omega) (by omega) hj
  split
  · split
    · exact doesP_far (by omega) (by omega) hj
    · rfl
  split
  · split
    · exact doesP_far (by omega) (by omega) hj
    · rfl
  split
  · split
    · exact doesP_far (by omega) (by omega) hj
    · rfl
  · rfl
theorem ag_workP {P : Hp} {a x : Nat} {w : Int} {s t : Nat → Int} (hv : PV P) (ha : 275 ≤ a) (hx : x < nN P) (h : Ag a s t) : Ag a (workP P x w s) (workP P x w t) := by
  have hN := hv.n
  unfold workP
  split
  · exact ag_doesP ha (by omega) (by omega) h
  split
  · split
    · exact ag_doesP ha (by omega) (by omega) h
    · exact h
  split
  · split
    · exact ag_doesP ha (by omega) (by omega) h
    · exact h
  split
  · split
    · exact ag_doesP ha (by omega) (by omega) h
    · exact h
  · exact h
theorem iv_trS {P : Hp} {B T : Int} {x : Nat} {wk : Nat → Int} {s : Nat → Int} (h : IV P B T s) (hv : PV P) (hx : x < nN P) : ∀ m : Nat, IV P B (T + m) (trS P x wk s m)
  | 0 => h.mono (by omega)
  | m + 1 => (iv_minuteP (iv_workP (iv_trS h hv hx m) hv hx) hv).mono (by omega)
theorem trS_far {P : Hp} {B T : Int} {x j : Nat} {wk : Nat → Int} {s : Nat → Int} (h : IV P B T s) (hv : PV P) (hx : x < nN P) (hj : (256 ≤ j ∧ j < 264) ∨ j = 268 ∨ j = 275) : ∀ m : Nat, trS P x wk s m j = s j
  | 0 => rfl
  | m + 1 => by
    show minuteP P _ j = s j
    rw [minuteP_far hv hj (iv_workP (iv_trS h hv hx m) hv hx), workP_far hv hx (by omega), trS_far h hv hx hj m]
theorem ag_trS {P : Hp} {a : Nat} {B T : Int} {x : Nat} {wk : Nat → Int} {s t : Nat → Int} (ha : 288 ≤ a) (hv : PV P) (h0 : P 112 0 = -1 ∨ 289 ≤ a) (hI : IV P B T s) (hx : x < nN P) (h : Ag a s t) : ∀ m : Nat, Ag a (trS P x wk s m) (trS P x wk t m)
  | 0 => h
  | m + 1 => ag_minuteP ha hv h0 (iv_workP (iv_trS hI hv hx m) hv hx) (ag_workP hv (by omega) hx (ag_trS ha hv h0 hI hx h m))
theorem trS_congr {P : Hp} {x : Nat} {wk wk2 : Nat → Int} {s : Nat → Int} : ∀ n : Nat, (∀ m, m < n → wk m = wk2 m) → trS P x wk s n = trS P x wk2 s n
  | 0, _ => rfl
  | n + 1, e => by
    unfold trS
    rw [trS_congr n (fun m hm => e m (by omega)), e n (by omega)]
theorem trS_x {P : Hp} {x y : Nat} {s : Nat → Int} : ∀ n : Nat, trS P x (fun _ => -1) s n = trS P y (fun _ => -1) s n
  | 0 => rfl
  | n + 1 => by
    unfold trS
    rw [trS_x n (x := x) (y := y), workP_no, workP_no]
theorem lfP_in {S : Nat → (Nat → Int)} {c : Nat} {fl : Int} : ∀ m : Nat, lfP S c fl m = -1 ∨ (0 ≤ lfP S c fl m ∧ lfP S c fl m < m)
  | 0 => Or.inl rfl
  | m + 1 => by
    have := lfP_in (S := S) (c := c) (fl := fl) m
    unfold lfP
    split
    · split <;> omega
    · omega
theorem lfP_stay {S : Nat → (Nat → Int)} {c : Nat} {fl : Int} {m : Nat} (h : lfP S c fl m ≠ -1) : ∀ n : Nat, lfP S c fl (m + n) = lfP S c fl m
  | 0 => rfl
  | n + 1 => by
    have := lfP_stay h n
    show (if lfP S c fl (m + n) = -1 then (if S (m + n + 1) c < fl then ((m + n : Nat) : Int) else -1) else lfP S c fl (m + n)) = _
    rw [this, if_neg h]
theorem lastP_in {S : Nat → (Nat → Int)} {c n : Nat} {fl : Int} : 0 ≤ lastP S c fl n ∧ lastP S c fl n ≤ n := by
  have := lfP_in (S := S) (c := c) (fl := fl) n
  unfold lastP
  split <;> omega
theorem lfP_congr {S U : Nat → (Nat → Int)} {c : Nat} {fl : Int} : ∀ n : Nat, (∀ m, m ≤ n → S m c = U m c) → lfP S c fl n = lfP U c fl n
  | 0, _ => rfl
  | n + 1, e => by
    unfold lfP
    rw [lfP_congr n (fun m hm => e m (by omega)), e (n + 1) (Nat.le_refl _)]
theorem lastP_congr {S U : Nat → (Nat → Int)} {c n : Nat} {fl : Int} (e : ∀ m, m ≤ n → S m c = U m c) : lastP S c fl n = lastP U c fl n := by
  unfold lastP
  rw [lfP_congr n e]
theorem flagsP_fell {P : Hp} {s : Nat → Int} {k : Nat} (hk : k < 4) (hc : s (256 + k) < 256) : ∀ n, n ≤ 4 → flagsP P s n (264 + k) = if k < n then (if s (264 + k) = -1 then (if s (s (256 + k)).toNat < s (260 + k) - P 102 4 then s 270 else -1) else s (264 + k)) else s (264 + k)
  | 0, _ => by rw [if_neg (by omega)]; rfl
  | n + 1, hn => by
    have ih := flagsP_fell hk hc n (by omega) (P := P)
    have f1 := flagsP_far (P := P) (s := s) (j := 256 + n) (by omega) n (by omega)
    have f2 := flagsP_far (P := P) (s := s) (j := 260 + n) (by omega) n (by omega)
    have f3 := flagsP_far (P := P) (s := s) (j := 270) (by omega) n (by omega)
    show flagP P (flagsP P s n) n (264 + k) = _
    unfold flagP
    rw [f1, f2, f3]
    by_cases z : k = n
    · subst z
      rw [if_neg (by omega)] at ih
      rw [ih, if_pos (show k < k + 1 by omega), flagsP_far (P := P) (s := s) (j := (s (256 + k)).toNat) (by omega) k (by omega)]
      split
      · split
        · rw [upd1_same]
        · rw [ih]; assumption
      · exact ih
    · have e : ∀ y, upd1 (flagsP P s n) (264 + n) y (264 + k) = flagsP P s n (264 + k) := fun y => upd1_ne _ _ _ _ (by omega)
      have g : (if flagsP P s n (264 + n) = -1 then (if flagsP P s n (s (256 + n)).toNat < s (260 + n) - P 102 4 then upd1 (flagsP P s n) (264 + n) (s 270) else flagsP P s n) else flagsP P s n) (264 + k) = flagsP P s n (264 + k) := by
        split
        · split
          · exact e _
          · rfl
        · rfl
      rw [g, ih]
      by_cases z2 : k < n
      · rw [if_pos z2, if_pos (show k < n + 1 by omega)]
      · rw [if_neg z2, if_neg (show ¬ k < n + 1 by omega)]
theorem finishP_mid {P : Hp} {B T : Int} {s : Nat → Int} {j : Nat} (hv : PV P) (hj : (256 ≤ j ∧ j < 269) ∨ j = 270 ∨ j = 275) : slidesP P (sunP P (seaP P s)) j = s j := by
  have hN := hv.n
  have hcn := cN_le hv
  rw [slidesP_far hv (by omega)]
  have e1 : sunP P (seaP P s) j = seaP P s j := by
    unfold sunP
    split
    · exact dryP_far hv (by omega) _ (by omega)
    · rfl
  rw [e1]
  unfold seaP
  rw [tideP_far hv (by omega), toldP_far hv (by omega)]
theorem minuteP_fell {P : Hp} {B T : Int} {s : Nat → Int} {k : Nat} (hv : PV P) (hI : IV P B T s) (hk : k < (s 268).toNat) :
    minuteP P s (264 + k) = (if s (264 + k) = -1 then (if minuteP P s (s (256 + k)).toNat < s (260 + k) - P 102 4 then s 270 else -1) else s (264 + k)) ∧ minuteP P s 270 = s 270 + 1 := by
  have hN := hv.n
  have i1 := iv_handsP hI hv
  have h1 := fun j hj => handsP_far (P := P) (s := s) (j := j) hv hj hI.2.2.2.1
  have hF := hI.2.2.1
  have h4 := hF.2.1
  have hc := (hF.2.2 k hk).1
  have m := fun j hj => finishP_mid (P := P) (B := B) (T := T) (s := handsP P s) (j := j) hv hj
  unfold minuteP finishP
  try dsimp only
  rw [m 268 (by omega), h1 268 (by omega)]
  have ff := fun j hj => flagsP_far (P := P) (s := slidesP P (sunP P (seaP P (handsP P s)))) (j := j) hj (s 268).toNat (by omega)
  constructor
  · rw [upd1_ne _ _ _ _ (by omega), flagsP_fell (by omega) (by rw [m _ (by omega), h1 _ (by omega)]; omega) _ (by omega), if_pos hk, m (264 + k) (by omega), m (256 + k) (by omega), m (260 + k) (by omega), m 270 (by omega), h1 (264 + k) (by omega), h1 (256 + k) (by omega), h1 (260 + k) (by omega), h1 270 (by omega), upd1_ne _ _ _ _ (by omega), ff _ (by omega)]
  · rw [upd1_same, ff 270 (by omega), m 270 (by omega), h1 270 (by omega)]
/-- the model's LAST of a flag is the class's -/
theorem last_eq {P : Hp} {B T : Int} {x k c : Nat} {wk : Nat → Int} {s : Nat → Int} {fl : Int} (hv : PV P) (hI : IV P B T s) (hx : x < nN P) (hB : B ≤ 10000) (hk : k < (s 268).toNat) (hc : s (256 + k) = (c : Int)) (hfl : fl = if s (264 + k) = -1 then s (260 + k) - P 102 4 else 2147483647) {n : Nat} (hn : 1 ≤ n) :
    (if trS P x wk s n (264 + k) = -1 then (n : Int) else if 0 < trS P x wk s n (264 + k) - s 270 then trS P x wk s n (264 + k) - s 270 else 0) = lastP (trS P x wk s) c fl n := by
  have hF := hI.2.2.1
  have hF4 := hF.2.1
  have hck := (hF.2.2 k hk).1
  have key : ∀ m : Nat, trS P x wk s m 270 = s 270 + m ∧ trS P x wk s m (264 + k) = (if s (264 + k) = -1 then (if lfP (trS P x wk s) c fl m = -1 then -1 else s 270 + lfP (trS P x wk s) c fl m) else s (264 + k)) := by
    intro m
    induction m with
    | zero =>
      refine ⟨by show s 270 = s 270 + ((0 : Nat) : Int); omega, ?_⟩
      show s (264 + k) = _
      rw [show lfP (trS P x wk s) c fl 0 = -1 from rfl, if_pos rfl]
      split
      · assumption
      · rfl
    | succ m ih =>
      obtain ⟨i1, i2⟩ := ih
      have iw := iv_workP (w := wk m) (iv_trS (wk := wk) hI hv hx m) hv hx
      have far := fun j hj => trS_far (wk := wk) (j := j) hI hv hx hj m
      have wf := fun j (hj : 256 ≤ j) => workP_far (w := wk m) (x := x) (s := trS P x wk s m) hv hx hj
      obtain ⟨f1, f2⟩ := minuteP_fell (k := k) hv iw (by rw [wf 268 (by omega), far 268 (by omega)]; exact hk)
      have e1 : trS P x wk s (m + 1) = minuteP P (workP P x (wk m) (trS P x wk s m)) := rfl
      rw [← e1] at f1 f2
      rw [wf 270 (by omega)] at f1 f2
      rw [wf (264 + k) (by omega), wf (256 + k) (by omega), wf (260 + k) (by omega), far (256 + k) (by omega), far (260 + k) (by omega), i1, i2, hc, Int.toNat_natCast] at f1
      refine ⟨by rw [f2, i1]; omega, ?_⟩
      rw [f1]
      by_cases z : s (264 + k) = -1
      · rw [if_pos z, if_pos z]
        rw [if_pos z] at hfl
        rw [show lfP (trS P x wk s) c fl (m + 1) = if lfP (trS P x wk s) c fl m = -1 then (if trS P x wk s (m + 1) c < fl then (m : Int) else -1) else lfP (trS P x wk s) c fl m from rfl]
        have h2 := lfP_in (S := trS P x wk s) (c := c) (fl := fl) m
        have h270 := hF.1.1
        rw [← hfl]
        generalize lfP (trS P x wk s) c fl m = u at h2
        by_cases z2 : u = -1
        · rw [if_pos z2, if_pos rfl, if_pos z2]
          by_cases z3 : trS P x wk s (m + 1) c < fl
          · rw [if_pos z3, if_pos z3, if_neg (by omega)]
          · rw [if_neg z3, if_neg z3, if_pos rfl]
        · rw [if_neg z2, if_neg (by omega), if_neg z2, if_neg z2]
      · rw [if_neg z, if_neg z, if_neg z]
  have h2 := lfP_in (S := trS P x wk s) (c := c) (fl := fl) n
  have h270 := hF.1.1
  have h3 := (hF.2.2 k hk).2.2
  rw [(key n).2]
  unfold lastP
  by_cases z : s (264 + k) = -1
  · rw [if_pos z]
    generalize lfP (trS P x wk s) c fl n = u at h2
    by_cases z2 : u = -1
    · rw [if_pos z2, if_pos rfl, if_pos z2]
    · rw [if_neg z2, if_neg (by omega), if_neg z2]
      by_cases z3 : u = 0
      · rw [if_neg (by omega), z3]
      · rw [if_pos (by omega)]; omega
  · rw [if_neg z, if_neg z, if_neg (by omega)]
    rw [if_neg z] at hfl
    have e1 : lfP (trS P x wk s) c fl 1 = 0 := by
      have i1 := iv_trS (wk := wk) hI hv hx 1
      have := i1.le (c := c) (by omega)
      show (if lfP (trS P x wk s) c fl 0 = -1 then (if trS P x wk s (0 + 1) c < fl then ((0 : Nat) : Int) else -1) else lfP (trS P x wk s) c fl 0) = 0
      rw [if_pos (show lfP (trS P x wk s) c fl 0 = -1 from rfl), if_pos (show trS P x wk s (0 + 1) c < fl by rw [hfl]; show trS P x wk s 1 c < _; omega)]
      rfl
    have e2 := lfP_stay (S := trS P x wk s) (c := c) (fl := fl) (m := 1) (by rw [e1]; decide) (n - 1)
    rw [show 1 + (n - 1) = n by omega, e1] at e2
    rw [e2, if_neg (by decide)]
/-! the class's trial -/
theorem RS.fr {P h h' : Hp} {b : Nat} {s : Nat → Int} (e : ∀ p, b ≤ p → p < b + 8 → h' p = h p) (h0 : RS P h b s) : RS P h' b s := h0.hp (fun p a c => e p a (by omega))
theorem k_doWork {P h : Hp} {c x : Nat} {B T w : Int} {s : Nat → Int} (hv : PV P) (hb : PB P h c) (hB : B ≤ 10000) (hI : IV P B T s) (hR : RS P h 47 s) (hx : x < nN P) (h56 : h 56 0 = (x : Int)) (hw : 0 ≤ w ∧ w ≤ 3) :
    ∃ h', g_X6_doWork 46 c w h = some h' ∧ RS P h' 47 (workP P x w s) ∧ Fr 47 h h' := by
  have hN := hv.n
  obtain ⟨-, -, c1, c2, -, -⟩ := hv.cr
  unfold g_X6_doWork workP
  (rw [e_cI, e_rd _ _ _ _ _ (by omega), show 46 + 10 = 56 from rfl, show (0 : Int).toNat = 0 from rfl, h56, k_columns hb hv, e_cP, e_sub _ _ _ (by omega), e_cP, e_add _ _ _ (by omega), e_cI, e_join]; (try dsimp only))
  by_cases w3 : w = 3
  · rw [b_pos w3, e_cI, e_cI, if_pos w3]
    obtain ⟨h', u1, u2, u3⟩ := k_perform (kind := 2) (c := (x : Int)) (t := -1) hv hB hI hR (by omega) (fun _ => by omega) (fun q => absurd q (by decide))
    rw [show 46 + 1 = 47 from rfl, u1, e_cV]
    exact ⟨h', rfl, u2, u3⟩
  (rw [b_neg w3, e_cI, e_join]; (try dsimp only); rw [if_neg w3])
  by_cases w2 : w = 2
  · rw [b_pos w2, k_cells hb hv, e_cP, if_pos w2]
    by_cases z : x + cN P < nN P
    · obtain ⟨h', u1, u2, u3⟩ := k_perform (kind := 0) (c := (x : Int) + (cN P : Int)) (t := (x : Int)) hv hB hI hR (by omega) (fun _ => by omega) (fun _ => by omega)
      rw [b_neg (by omega), e_cI, if_pos z, show 46 + 1 = 47 from rfl, u1, e_cV]
      rw [show ((x : Int) + (cN P : Int)).toNat = x + cN P by omega, Int.toNat_natCast] at u2
      exact ⟨h', rfl, u2, u3⟩
    · (rw [b_pos (by omega), e_cI, e_join]; (try dsimp only); rw [b_neg (by omega), b_neg (by omega), if_neg z])
      exact ⟨h, rfl, hR, Fr.rf⟩
  (rw [b_neg w2, e_cI, e_join]; (try dsimp only); rw [if_neg w2])
  by_cases w1 : w = 1
  · rw [b_pos w1, if_pos w1]
    by_cases z : cN P ≤ x
    · obtain ⟨h', u1, u2, u3⟩ := k_perform (kind := 0) (c := (x : Int) - (cN P : Int)) (t := (x : Int)) hv hB hI hR (by omega) (fun _ => by omega) (fun _ => by omega)
      rw [b_neg (by omega), e_cI, if_pos z, show 46 + 1 = 47 from rfl, u1, e_cV]
      rw [show ((x : Int) - (cN P : Int)).toNat = x - cN P by omega, Int.toNat_natCast] at u2
      exact ⟨h', rfl, u2, u3⟩
    · rw [b_pos (by omega), b_neg (by omega), if_neg z]
      exact ⟨h, rfl, hR, Fr.rf⟩
  rw [b_neg w1, b_pos (by omega), if_neg w1, if_pos (show w = 0 by omega)]
  by_cases z : cN P ≤ x
  · obtain ⟨h', u1, u2, u3⟩ := k_perform (kind := 3) (c := (x : Int) - (cN P : Int)) (t := -1) hv hB hI hR (by omega) (fun _ => by omega) (fun q => absurd q (by decide))
    rw [b_neg (by omega), e_cI, e_cI, if_pos z, show 46 + 1 = 47 from rfl, u1, e_cV]
    rw [show ((x : Int) - (cN P : Int)).toNat = x - cN P by omega] at u2
    exact ⟨h', rfl, u2, u3⟩
  · rw [b_pos (by omega), if_neg z]
    exact ⟨h, rfl, hR, Fr.rf⟩
theorem k_lookAtFlags {P h : Hp} {B T : Int} {s : Nat → Int} {W m : Nat} {cs : Nat → Nat} {fl : Nat → Int} {lo : Nat → Int} (hv : PV P) (hI : IV P B T s) (hR : RS P h 47 s) (hW : W ≤ 2) (h5 : h 46 5 = (W : Int)) (h6 : h 46 6 = cntP lo (-1) W)
    (h56 : ∀ w, w < W → h 56 w = (cs w : Int) ∧ cs w < nN P) (h57 : ∀ w, w < W → h 57 w = fl w) (h55 : ∀ w, w < W → h 55 w = lo w) :
    ∃ h', g_X6_lookAtFlags 46 (m : Int) h = some h' ∧ (∀ p, p ≠ 46 → p ≠ 55 → h' p = h p) ∧ (∀ k, k ≠ 6 → h' 46 k = h 46 k) ∧
      (∀ w, w < W → h' 55 w = if lo w = -1 then (if s (cs w) < fl w then (m : Int) else -1) else lo w) ∧ h' 46 6 = cntP (fun w => if lo w = -1 then (if s (cs w) < fl w then (m : Int) else -1) else lo w) (-1) W := by
  have hN := hv.n
  unfold g_X6_lookAtFlags
  rw [e_cI]
  refine loopF_ex W (fun i (q : Int × Hp) => q.1 = (i : Int) ∧ (∀ p, p ≠ 46 → p ≠ 55 → q.2 p = h p) ∧ (∀ k, k ≠ 6 → q.2 46 k = h 46 k) ∧
      (∀ w, w < W → q.2 55 w = if w < i then (if lo w = -1 then (if s (cs w) < fl w then (m : Int) else -1) else lo w) else lo w) ∧
      q.2 46 6 = cntP (fun w => if lo w = -1 then (if s (cs w) < fl w then (m : Int) else -1) else lo w) (-1) i + (cntP lo (-1) W - cntP lo (-1) i)) ?_ ?_ FU 0 _ (by omega) (fu _ (by omega)) ⟨rfl, fun _ _ _ => rfl, fun _ _ => rfl, fun w hw => by rw [if_neg (by omega)]; exact h55 w hw, by dsimp only; rw [h6]; unfold cntP; omega⟩
  · rintro i ⟨xx, g⟩ hi ⟨e1, e2, e3, e4, e5⟩ self
    dsimp only at e1 e2 e3 e4 e5
    subst e1
    left
    have r55 := e4 i hi
    rw [if_neg (by omega)] at r55
    have hci := (h56 i hi).2
    have c1 := cntP_in (f := fun w => if lo w = -1 then (if s (cs w) < fl w then (m : Int) else -1) else lo w) (x := -1) i
    have c2 := cntP_in (f := lo) (x := -1) i
    have c3 := cntP_in (f := lo) (x := -1) W
    have n1 : cntP (fun w => if lo w = -1 then (if s (cs w) < fl w then (m : Int) else -1) else lo w) (-1) (i + 1) = cntP (fun w => if lo w = -1 then (if s (cs w) < fl w then (m : Int) else -1) else lo w) (-1) i + (if (if lo i = -1 then (if s (cs i) < fl i then (m : Int) else -1) else lo i) = -1 then 1 else 0) := rfl
    have n2 : cntP lo (-1) (i + 1) = cntP lo (-1) i + (if lo i = -1 then 1 else 0) := rfl
    have keep : (if lo i = -1 then (if s (cs i) < fl i then (m : Int) else -1) else lo i) = lo i → ∃ q' : Int × Hp, (q'.1 = ((i + 1 : Nat) : Int) ∧ (∀ p, p ≠ 46 → p ≠ 55 → q'.2 p = h p) ∧ (∀ k, k ≠ 6 → q'.2 46 k = h 46 k) ∧ (∀ w, w < W → q'.2 55 w = if w < i + 1 then (if lo w = -1 then (if s (cs w) < fl w then (m : Int) else -1) else lo w) else lo w) ∧ q'.2 46 6 = cntP (fun w => if lo w = -1 then (if s (cs w) < fl w then (m : Int) else -1) else lo w) (-1) (i + 1) + (cntP lo (-1) W - cntP lo (-1) (i + 1))) ∧ q' = ((i : Int) + 1, g) := by
      intro hk
      refine ⟨_, ⟨by dsimp only; omega, e2, e3, fun w hw => ?_, ?_⟩, rfl⟩
      · dsimp only
        rw [e4 w hw]
        by_cases z : w = i
        · rw [if_neg (by omega), if_pos (by omega), z, hk]
        · by_cases z2 : w < i
          · rw [if_pos z2, if_pos (show w < i + 1 by omega)]
          · rw [if_neg z2, if_neg (show ¬ w < i + 1 by omega)]
      · dsimp only
        rw [e5, n1, n2, hk]
        omega
    unfold g_X6_lookAtFlags_l3
    dsimp only
    rw [e_gF, e3 5 (by omega), h5, b_neg (by omega), e_rdn _ _ _ _ _ (by omega), show 46 + 9 = 55 from rfl, r55, e_cI]
    by_cases z : lo i = -1
    · have hgt : g 48 (cs i) = s (cs i) := by rw [e2 48 (by omega) (by omega)]; exact (hR.1.1 _ hci).1
      refine join_exr (fun j hj => ?_)
      rw [b_pos z, e_rdn _ _ _ _ _ (by omega), show 46 + 10 = 56 from rfl, e2 56 (by omega) (by omega), (h56 i hi).1, e_rdn _ _ _ _ _ (by omega), show 46 + 2 = 48 from rfl, hgt, e_rdn _ _ _ _ _ (by omega), show 46 + 11 = 57 from rfl, e2 57 (by omega) (by omega), h57 i hi]
      by_cases z2 : fl i ≤ s (cs i)
      · obtain ⟨q', a1, a2⟩ := keep (by rw [if_pos z, if_neg (by omega), z])
        refine ⟨q', a1, ?_⟩
        rw [b_pos z2, hj, e_add _ _ _ (by omega), a2]
      · rw [b_neg z2, e_wrn _ _ _ _ _ _ (by omega), e_gF, set2_np _ _ _ _ _ _ (by omega), e5, e_cI, e_sub _ _ _ (by omega), e_pF, hj, e_add _ _ _ (by omega)]
        refine ⟨((i : Int) + 1, _), ⟨by dsimp only; omega, fun p h1 h2 => ?_, fun k hk => ?_, fun w hw => ?_, ?_⟩, rfl⟩
        · dsimp only
          rw [set2_ne p h1, set2_ne p h2, e2 p h1 h2]
        · dsimp only
          rw [set2_nk _ _ _ _ _ _ hk, set2_np _ _ _ _ _ _ (by omega), e3 k hk]
        · dsimp only
          rw [set2_np _ _ _ _ _ _ (by omega)]
          by_cases y : w = i
          · subst y
            rw [set2_same, if_pos (show w < w + 1 by omega), if_pos z, if_pos (show s (cs w) < fl w by omega)]
          · rw [set2_nk _ _ _ _ _ _ y, e4 w hw]
            by_cases y2 : w < i
            · rw [if_pos y2, if_pos (show w < i + 1 by omega)]
            · rw [if_neg y2, if_neg (show ¬ w < i + 1 by omega)]
        · dsimp only
          rw [set2_same, n1, n2, if_pos z, if_pos (show s (cs i) < fl i by omega), if_neg (show ¬ (m : Int) = -1 by omega), if_pos z]
          omega
    · obtain ⟨q', a1, a2⟩ := keep (by rw [if_neg z])
      refine ⟨q', a1, ?_⟩
      (rw [e_join]; (try dsimp only); rw [b_neg z, e_add _ _ _ (by omega), a2])
  · rintro ⟨xx, g⟩ ⟨e1, e2, e3, e4, e5⟩ self
    dsimp only at e1 e2 e3 e4 e5
    subst e1
    unfold g_X6_lookAtFlags_l3
    dsimp only
    rw [e_gF, e3 5 (by omega), h5, b_pos (by omega)]
    refine ⟨g, rfl, e2, e3, fun w hw => ?_, ?_⟩
    · rw [e4 w hw, if_pos hw]
    · rw [e5]; omega
theorem cntP_zero {f : Nat → Int} : ∀ {n : Nat}, cntP f (-1) n ≤ 0 → ∀ w, w < n → f w ≠ -1
  | 0, _, _, hw => by omega
  | n + 1, h, w, hw => by
    have c := cntP_in (f := f) (x := -1) n
    unfold cntP at h
    by_cases z : f n = -1
    · rw [if_pos z] at h; omega
    · rw [if_neg z] at h
      by_cases y : w = n
      · rw [y]; exact z
      · exact cntP_zero (n := n) (by omega) w (by omega)
theorem k_run {P h : Hp} {c v W n x : Nat} {B T : Int} {s : Nat → Int} {cs : Nat → Nat} {fl : Nat → Int} (hv : PV P) (hb : PB P h c) (hc : c = 3 ∨ c = 9) (hs : PS P h v) (hvv : v = 15 ∨ v = 20)
    (hpl : ∀ p : Nat, p < (P 100 41).toNat → PL P h p) (hB : B ≤ 10000) (hT : T + 99 ≤ 1000000) (hI : IV P B T s) (hR : RS P h 47 s) (hW : W ≤ 2) (h5 : h 46 5 = (W : Int))
    (h56 : ∀ w, w < W → h 56 w = (cs w : Int) ∧ cs w < nN P) (h57 : ∀ w, w < W → h 57 w = fl w) (hx : x < nN P) (hx0 : 0 < W → x = cs 0) (h58 : ∀ m, m < 99 → h 58 m = -1 ∨ (0 < W ∧ 0 ≤ h 58 m ∧ h 58 m ≤ 3)) (hn : 1 ≤ n ∧ n ≤ 99) :
    ∃ h', g_X6_run 46 c v (planRef (s 275)) (n : Int) h = some h' ∧ (∀ p, p < 46 ∨ 55 < p → h' p = h p) ∧ (W = 0 → RS P h' 47 (trS P x (h 58) s n)) ∧ ∀ w, w < W → h' 55 w = lastP (trS P x (h 58) s) (cs w) (fl w) n := by
  have hN := hv.n
  have h41 := (pv_plan hv).1
  have iv := fun m => iv_trS (x := x) (wk := h 58) hI hv hx m
  unfold g_X6_run
  rw [e_gF, h5, e_pF, e_cI]
  refine join_ex (fun j5 hj5 => ?_)
  -- lasts are none
  have first : ∃ g : Hp, loopF (g_X6_run_l44 46 j5) FU (0, set2 h 46 6 (W : Int)) = j5 g ∧ (∀ p, p ≠ 46 → p ≠ 55 → g p = h p) ∧ g 46 5 = (W : Int) ∧ g 46 6 = (W : Int) ∧ ∀ w, w < W → g 55 w = -1 := by
    refine ⟨setRow (set2 h 46 6 (W : Int)) 55 (fun w => if w < W then -1 else h 55 w), ?_, fun p h1 h2 => ?_, ?_, ?_, fun w hw => ?_⟩
    · refine loopF_for' W (fun i => ((i : Int), setRow (set2 h 46 6 (W : Int)) 55 (fun w => if w < i then -1 else h 55 w))) ?_ ?_ ?_ (fu _ (by omega))
      · intro i hi self
        unfold g_X6_run_l44
        dsimp only
        rw [e_gF, setRow_ne _ _ _ _ (by omega), set2_nk _ _ _ _ _ _ (by omega), h5, b_neg (by omega), e_cI, show 46 + 9 = 55 from rfl, e_wrR _ _ _ _ _ _ (by omega), setRow_same, setRow_setRow, e_add _ _ _ (by omega), Int.toNat_natCast, show ((i + 1 : Nat) : Int) = (i : Int) + 1 by omega]
        congr 1
        refine Prod.ext rfl ?_
        dsimp only
        congr 1
        funext j
        unfold upd1
        try dsimp only
        by_cases z : j = i
        · rw [if_pos z, if_pos (by omega)]
        · rw [if_neg z]
          by_cases z2 : j < i
          · rw [if_pos z2, if_pos (by omega)]
          · rw [if_neg z2, if_neg (by omega)]
      · intro self
        unfold g_X6_run_l44
        dsimp only
        rw [e_gF, setRow_ne _ _ _ _ (by omega), set2_nk _ _ _ _ _ _ (by omega), h5, b_pos (by omega)]
      · refine Prod.ext rfl ?_
        dsimp only
        have : (fun w => if w < 0 then -1 else h 55 w) = set2 h 46 6 (W : Int) 55 := by
          funext w
          rw [if_neg (by omega), set2_np _ _ _ _ _ _ (by omega)]
        rw [this, setRow_self]
    · rw [setRow_ne _ _ _ _ h2, set2_ne p h1]
    · rw [setRow_ne _ _ _ _ (by omega), set2_nk _ _ _ _ _ _ (by omega), h5]
    · rw [setRow_ne _ _ _ _ (by omega), set2_same]
    · rw [setRow_same, if_pos hw]
  obtain ⟨g, g1, g2, g3, g4, g5⟩ := first
  rw [g1, hj5, e_cI]
  refine join_ex (fun j9 hj9 => ?_)
  have c0 : ∀ W : Nat, cntP (fun w => lfP (trS P x (h 58) s) (cs w) (fl w) 0) (-1) W = (W : Int) := by
    intro W
    induction W with
    | zero => rfl
    | succ W ih =>
      unfold cntP
      rw [ih, if_pos (show lfP (trS P x (h 58) s) (cs W) (fl W) 0 = -1 from rfl)]
      omega
  -- the end: those that stand last all minutes
  have fin : ∀ (q : Hp) (m : Nat), m ≤ n → (∀ p, p < 46 ∨ 55 < p → q p = h p) → q 46 5 = (W : Int) → (W = 0 → RS P q 47 (trS P x (h 58) s n)) → (∀ w, w < W → q 55 w = lfP (trS P x (h 58) s) (cs w) (fl w) m) → (∀ w, w < W → m = n ∨ lfP (trS P x (h 58) s) (cs w) (fl w) m ≠ -1) →
      ∃ r, j9 q = some r ∧ ((∀ p, p < 46 ∨ 55 < p → r p = h p) ∧ (W = 0 → RS P r 47 (trS P x (h 58) s n)) ∧ ∀ w, w < W → r 55 w = lastP (trS P x (h 58) s) (cs w) (fl w) n) := by
    intro q m hm q1 q2 q3 q4 q5
    rw [hj9, e_cI]
    refine loopF_ex W (fun i (u : Int × Hp) => u.1 = (i : Int) ∧ (∀ p, p ≠ 55 → u.2 p = q p) ∧ (∀ w, w < W → u.2 55 w = if w < i then lastP (trS P x (h 58) s) (cs w) (fl w) n else q 55 w)) ?_ ?_ FU 0 _ (by omega) (fu _ (by omega)) ⟨rfl, fun _ _ => rfl, fun w hw => by rw [if_neg (by omega)]⟩
    · rintro i ⟨xx, u⟩ hi ⟨e1, e2, e3⟩ self
      dsimp only at e1 e2 e3
      subst e1
      left
      have r55 := e3 i hi
      rw [if_neg (by omega), q4 i hi] at r55
      have lst : ∀ y, lastP (trS P x (h 58) s) (cs i) (fl i) n = y → ∀ u' : Hp, (∀ p, p ≠ 55 → u' p = u p) → u' 55 i = y → (∀ w, w ≠ i → u' 55 w = u 55 w) → (((i : Int) + 1, u').1 = ((i + 1 : Nat) : Int) ∧ (∀ p, p ≠ 55 → ((i : Int) + 1, u').2 p = q p) ∧ ∀ w, w < W → ((i : Int) + 1, u').2 55 w = if w < i + 1 then lastP (trS P x (h 58) s) (cs w) (fl w) n else q 55 w) := by
        intro y hy u' a1 a2 a3
        refine ⟨by dsimp only; omega, fun p hp => by dsimp only; rw [a1 p hp, e2 p hp], fun w hw => ?_⟩
        dsimp only
        by_cases z : w = i
        · subst z
          rw [if_pos (by omega), a2, hy]
        · rw [a3 w z, e3 w hw]
          by_cases z2 : w < i
          · rw [if_pos z2, if_pos (by omega)]
          · rw [if_neg z2, if_neg (by omega)]
      unfold g_X6_run_l13
      dsimp only
      (rw [e_gF, e2 46 (by omega), q2, b_neg (by omega), e_rdn _ _ _ _ _ (by omega), show 46 + 9 = 55 from rfl, r55, e_cI, e_join]; (try dsimp only))
      by_cases z : lfP (trS P x (h 58) s) (cs i) (fl i) m = -1
      · have em : m = n := (q5 i hi).resolve_right (fun y => y z)
        rw [em] at z
        rw [em, b_pos z, e_wrn _ _ _ _ _ _ (by omega), e_add _ _ _ (by omega)]
        exact ⟨_, lst (n : Int) (by unfold lastP; rw [if_pos z]) _ (fun p hp => set2_ne p hp) (set2_same _ _ _ _) (fun w hw => set2_nk _ _ _ _ _ _ hw), rfl⟩
      · have es := lfP_stay z (n - m)
        rw [show m + (n - m) = n by omega] at es
        rw [b_neg z, e_add _ _ _ (by omega)]
        exact ⟨_, lst (u 55 i) (by unfold lastP; rw [es, if_neg z, r55]) u (fun _ _ => rfl) rfl (fun _ _ => rfl), rfl⟩
    · rintro ⟨xx, u⟩ ⟨e1, e2, e3⟩ self
      dsimp only at e1 e2 e3
      subst e1
      unfold g_X6_run_l13
      dsimp only
      rw [e_gF, e2 46 (by omega), q2, b_pos (by omega)]
      refine ⟨u, rfl, fun p hp => by rw [e2 p (by omega), q1 p hp], fun z => (q3 z).fr (fun p h1 h2 => e2 p (by omega)), fun w hw => ?_⟩
      rw [e3 w hw, if_pos hw]
  refine loopF_ex n (fun i (q : Int × Hp) => q.1 = (i : Int) ∧ (∀ p, p < 46 ∨ 55 < p → q.2 p = h p) ∧ q.2 46 5 = (W : Int) ∧ q.2 46 6 = cntP (fun w => lfP (trS P x (h 58) s) (cs w) (fl w) i) (-1) W ∧ (∀ w, w < W → q.2 55 w = lfP (trS P x (h 58) s) (cs w) (fl w) i) ∧ RS P q.2 47 (trS P x (h 58) s i)) ?_ ?_ FU 0 _ (by omega) (fu _ (by omega)) ⟨rfl, fun p hp => g2 p (by omega) (by omega), g3, by rw [c0]; exact g4, g5, hR.fr (fun p _ _ => g2 p (by omega) (by omega))⟩
  · rintro i ⟨xx, q⟩ hi ⟨e1, e2, e3, e4, e5, e6⟩ self
    dsimp only at e1 e2 e3 e4 e5 e6
    subst e1
    unfold g_X6_run_l25
    dsimp only
    rw [b_neg (by omega), e_gF, e3]
    by_cases stop : 0 < W ∧ cntP (fun w => lfP (trS P x (h 58) s) (cs w) (fl w) i) (-1) W ≤ 0
    · right
      (rw [e_join]; (try dsimp only); rw [b_neg (by omega), e_gF, e4, b_pos stop.2])
      exact fin q i (by omega) e2 e3 (fun z => by omega) e5 (fun w hw => Or.inr (cntP_zero stop.2 w hw))
    left
    refine join_exr (fun j30 hj30 => ?_)
    have go : (if (W : Int) = 0 then j30 () else gF q 46 6 fun z42 => if z42 ≤ 0 then j9 q else j30 ()) = j30 () := by
      by_cases z : W = 0
      · rw [if_pos (by omega)]
      · rw [if_neg (by omega), e_gF, e4, if_neg (by omega)]
    rw [go, hj30, e_cI]
    refine join_exr (fun j33 hj33 => ?_)
    have iI := iv i
    -- the work
    have wk : ∃ q1 : Hp, (if (99 : Int) ≤ (i : Int) then j33 q else rdI q (46 + 12) 99 (i : Int) fun z38 => cI (-1) fun z39 => if z38 = z39 then j33 q else rdI q (46 + 12) 99 (i : Int) fun z40 => cV (g_X6_doWork 46 c z40 q) fun h41 => j33 h41) = j33 q1 ∧ RS P q1 47 (workP P x (h 58 i) (trS P x (h 58) s i)) ∧ Fr 47 q q1 := by
      rw [b_neg (by omega), e_rdn _ _ _ _ _ (by omega), show 46 + 12 = 58 from rfl, e2 58 (by omega), e_cI]
      rcases h58 i (by omega) with z | ⟨z0, z1, z2⟩
      · rw [b_pos z, z, workP_no]
        exact ⟨q, rfl, e6, Fr.rf⟩
      · rw [b_neg (by omega), e_rdn _ _ _ _ _ (by omega), e2 58 (by omega)]
        have hbq : PB P q c := hb.hp (fun p _ _ => e2 p (by omega))
        obtain ⟨q1, u1, u2, u3⟩ := k_doWork (x := x) (w := h 58 i) hv hbq hB iI e6 hx (by rw [e2 56 (by omega), (h56 0 z0).1, hx0 z0]) ⟨z1, z2⟩
        rw [u1, e_cV]
        exact ⟨q1, rfl, u2, u3⟩
    obtain ⟨q1, w1, w2, w3⟩ := wk
    have iW := iv_workP (w := h 58 i) iI hv hx
    have f1 : ∀ p, p < 46 ∨ 55 < p → q1 p = h p := fun p hp => by rw [w3 p (by omega), e2 p hp]
    obtain ⟨q2, l1, l2, l3⟩ := k_live (c := c) (v := v) hv (hb.hp (fun p _ _ => f1 p (by omega)) : PB P q1 c) (by omega) (hs.hp (fun p _ _ => f1 p (by omega)) : PS P q1 v) (by omega) (fun p hp => ⟨(hpl p hp).hp (fun p _ _ => f1 p (by omega)), by omega⟩) hB (by omega) iW w2
    have e275 : workP P x (h 58 i) (trS P x (h 58) s i) 275 = s 275 := by rw [workP_far hv hx (by omega), trS_far hI hv hx (by omega)]
    rw [e275] at l1
    have f2 : ∀ p, p < 46 ∨ 55 < p → q2 p = h p := fun p hp => by rw [l3 p (by omega), f1 p hp]
    have g46 : q2 46 = q 46 := by rw [l3 46 (by omega), w3 46 (by omega)]
    have g55 : q2 55 = q 55 := by rw [l3 55 (by omega), w3 55 (by omega)]
    obtain ⟨q3, k1, k2, k3, k4, k5⟩ := k_lookAtFlags (m := i) (W := W) (cs := cs) (fl := fl) (lo := fun w => lfP (trS P x (h 58) s) (cs w) (fl w) i) hv (iv (i + 1)) (s := trS P x (h 58) s (i + 1)) l2 hW (by rw [g46, e3]) (by rw [g46, e4]) (fun w hw => by rw [f2 56 (by omega)]; exact h56 w hw) (fun w hw => by rw [f2 57 (by omega)]; exact h57 w hw) (fun w hw => by rw [g55]; exact e5 w hw)
    rw [w1, hj33, show 46 + 1 = 47 from rfl, l1, e_cV, k1, e_cV, e_add _ _ _ (by omega)]
    refine ⟨((i : Int) + 1, q3), ⟨by dsimp only; omega, fun p hp => ?_, ?_, k5, k4, ?_⟩, rfl⟩
    · dsimp only
      rw [k2 p (by omega) (by omega), f2 p hp]
    · dsimp only
      rw [k3 5 (by omega), g46, e3]
    · exact RS.fr (fun p _ _ => k2 p (by omega) (by omega)) l2
  · rintro ⟨xx, q⟩ ⟨e1, e2, e3, e4, e5, e6⟩ self
    dsimp only at e1 e2 e3 e4 e5 e6
    subst e1
    unfold g_X6_run_l25
    dsimp only
    rw [b_pos (by omega)]
    exact fin q n (Nat.le_refl _) e2 e3 (fun _ => e6) e5 (fun w hw => Or.inl rfl)
