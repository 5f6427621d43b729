/-! CALLS: next -/
def fI (h : Hp) (i : Nat) : Int := fitP h 999 ((i / 105 : Nat) + 1) ((i % 105 / 5 : Nat) : Int) ((i % 5 : Nat) + 1)
def sI (i : Nat) (w : Int) : Int := sP ((i / 105 : Nat) + 1) ((i % 105 / 5 : Nat) : Int) ((i % 5 : Nat) + 1) w
theorem fI_at {h : Hp} {b t l : Nat} (ht : t < 21) (hl : l < 5) : fI h (105 * b + 5 * t + l) = fitP h 999 ((b : Int) + 1) t ((l : Int) + 1) := by
  unfold fI
  rw [show (105 * b + 5 * t + l) / 105 = b by omega, show (105 * b + 5 * t + l) % 105 / 5 = t by omega, show (105 * b + 5 * t + l) % 5 = l by omega]
theorem sI_at {b t l : Nat} {w : Int} (ht : t < 21) (hl : l < 5) : sI (105 * b + 5 * t + l) w = sP ((b : Int) + 1) t ((l : Int) + 1) w := by
  unfold sI
  rw [show (105 * b + 5 * t + l) / 105 = b by omega, show (105 * b + 5 * t + l) % 105 / 5 = t by omega, show (105 * b + 5 * t + l) % 5 = l by omega]
theorem sI_in (i : Nat) (w : Int) : 0 ≤ sI i w ∧ sI i w ≤ 20 := by
  unfold sI
  exact sP_in (by omega) (by omega)
theorem fI_in (h : Hp) (i : Nat) : fI h i = 0 ∨ fI h i = 1 := fitP_in
theorem fI_hp {h h2 : Hp} (e : ∀ p, 36 ≤ p → p ≤ 43 → h2 p = h p) (i : Nat) : fI h2 i = fI h i := by unfold fI; exact fitP_hp e
def yF (h : Hp) (w x : Int) (i : Nat) : Int := if fI h i = 0 then 0 else if sI i w = x then 1 else 0
def vF (h : Hp) (w s : Int) (i : Nat) : Int := if fI h i = 0 then 0 else if 1 + sI i w < s then 0 else 1
theorem sum01 {f : Nat → Int} (hf : ∀ i, f i = 0 ∨ f i = 1) : ∀ n : Nat, 0 ≤ sumN f n ∧ sumN f n ≤ n
  | 0 => by unfold sumN; omega
  | n + 1 => by
    have h1 := sum01 hf n
    unfold sumN
    rcases hf n with q | q <;> omega
theorem yF_in {h : Hp} {w x : Int} (i : Nat) : yF h w x i = 0 ∨ yF h w x i = 1 := by unfold yF; split <;> (try split) <;> omega
theorem vF_in {h : Hp} {w x : Int} (i : Nat) : vF h w x i = 0 ∨ vF h w x i = 1 := by unfold vF; split <;> (try split) <;> omega
theorem sumN_sub {f g k : Nat → Int} (e : ∀ i, f i = g i - k i) : ∀ n, sumN f n = sumN g n - sumN k n
  | 0 => by unfold sumN; omega
  | n + 1 => by unfold sumN; rw [sumN_sub e n, e n]; omega
/-- the tally's and the standing's rows behind so many humps -/
def tlR (h : Hp) (n : Nat) : Nat → Int := fun j => if j < 336 then (if 21 ≤ j then sumN (yF h ((j / 21 : Nat) : Int) ((j % 21 : Nat) : Int)) n else 0) else h 45 j
def sdR (h : Hp) (n : Nat) : Nat → Int := fun j => if j < 496 then (if 1 ≤ j / 31 ∧ 1 ≤ j % 31 then sumN (vF h ((j / 31 : Nat) : Int) ((j % 31 : Nat) : Int)) n else 0) else h 133 j
theorem k_tallyHump {h g : Hp} {b t l : Nat} (hb : b < 15) (ht : t < 21) (hl : l < 5) (hf : fI h (105 * b + 5 * t + l) = 1) :
    g_X7_tallyHump 36 ((b : Int) + 1) (t : Int) ((l : Int) + 1) (setRow g 45 (tlR h (105 * b + 5 * t + l))) = some (setRow g 45 (tlR h (105 * b + 5 * t + l + 1))) := by
  unfold g_X7_tallyHump
  rw [e_cI]
  have hn : ((105 * b + 5 * t + l : Nat) : Int) ≤ 1575 := by omega
  have es := fun w : Int => sI_at (b := b) (t := t) (l := l) (w := w) ht hl
  generalize 105 * b + 5 * t + l = n at hf es hn
  refine loopF_for' 15 (fun i => ((i : Int) + 1, setRow g 45 (fun j => if j < 21 * (i + 1) then tlR h (n + 1) j else tlR h n j))) ?_ ?_ ?_ (fu _ (by omega))
  · intro i hi self
    have hs := sP_in (b := (b : Int) + 1) (t := (t : Int)) (l := (l : Int) + 1) (w := (i : Int) + 1) (by omega) (by omega)
    unfold g_X7_tallyHump_l3
    dsimp only
    rw [e_cI, b_neg (by omega), e_cI, e_mul _ _ _ (by omega), k_strengthOf (by omega) (by omega) (by omega) (by omega), e_cP, e_add _ _ _ (by omega)]
    rw [← es ((i : Int) + 1)] at hs ⊢
    obtain ⟨x, hx⟩ := Int.eq_ofNat_of_zero_le hs.1
    have hx2 : x < 21 := by omega
    rw [hx, show ((i : Int) + 1) * 21 + (x : Int) = ((21 * (i + 1) + x : Nat) : Int) by omega, e_rdn _ _ _ _ _ (by omega), setRow_same, if_neg (by omega), e_cI]
    have hsum := sum01 (f := yF h ((i + 1 : Nat) : Int) (x : Int)) (fun j => yF_in j) n
    have hv : tlR h n (21 * (i + 1) + x) = sumN (yF h ((i + 1 : Nat) : Int) (x : Int)) n := by
      unfold tlR
      rw [if_pos (by omega), if_pos (by omega), show (21 * (i + 1) + x) / 21 = i + 1 by omega, show (21 * (i + 1) + x) % 21 = x by omega]
    rw [hv, e_add _ _ _ (by omega), e_wrR _ _ _ _ _ _ (by omega), setRow_same, setRow_setRow, e_add _ _ _ (by omega), Int.toNat_natCast, show ((i + 1 : Nat) : Int) + 1 = (i : Int) + 1 + 1 by omega]
    congr 1
    refine Prod.ext rfl ?_
    dsimp only
    congr 1
    funext j
    unfold upd1
    try dsimp only
    by_cases z : j = 21 * (i + 1) + x
    · rw [if_pos z, if_pos (by omega), z]
      unfold tlR
      rw [if_pos (by omega), if_pos (by omega), show (21 * (i + 1) + x) / 21 = i + 1 by omega, show (21 * (i + 1) + x) % 21 = x by omega]
      show _ = sumN (yF h ((i + 1 : Nat) : Int) (x : Int)) n + yF h ((i + 1 : Nat) : Int) (x : Int) n
      rw [show yF h ((i + 1 : Nat) : Int) (x : Int) n = 1 by unfold yF; rw [if_neg (by omega), if_pos (by rw [← hx]; congr 1)]]
    · rw [if_neg z]
      by_cases z2 : j < 21 * (i + 1)
      · rw [if_pos z2, if_pos (by omega)]
      rw [if_neg z2]
      by_cases z3 : j < 21 * (i + 1 + 1)
      · rw [if_pos z3]
        unfold tlR
        rw [if_pos (by omega), if_pos (by omega), if_pos (by omega), if_pos (by omega), show j / 21 = i + 1 by omega]
        show _ = sumN (yF h ((i + 1 : Nat) : Int) ((j % 21 : Nat) : Int)) n + yF h ((i + 1 : Nat) : Int) ((j % 21 : Nat) : Int) n
        rw [show yF h ((i + 1 : Nat) : Int) ((j % 21 : Nat) : Int) n = 0 by
          unfold yF; rw [if_neg (by omega), if_neg (by
            rw [show ((i + 1 : Nat) : Int) = (i : Int) + 1 by omega, hx]; omega)], Int.add_zero]
      · rw [if_neg z3]
  · intro self
    unfold g_X7_tallyHump_l3
    dsimp only
    rw [e_cI, b_pos (by omega)]
    congr 2
    funext j
    split
    · rfl
    · unfold tlR
      rw [if_neg (by omega), if_neg (by omega)]
  · refine Prod.ext rfl ?_
    dsimp only
    congr 1
    funext j
    split
    · unfold tlR
      rw [if_pos (by omega), if_neg (by omega), if_pos (by omega), if_neg (by omega)]
    · rfl
theorem tlR_no {h : Hp} {n : Nat} (hf : fI h n = 0) : tlR h (n + 1) = tlR h n := by
  funext j
  unfold tlR
  split
  · split
    · show sumN _ n + yF _ _ _ n = _
      rw [show yF h ((j / 21 : Nat) : Int) ((j % 21 : Nat) : Int) n = 0 by unfold yF; rw [if_pos hf], Int.add_zero]
    · rfl
  · rfl
theorem sdR_no {h : Hp} {n : Nat} (hf : fI h n = 0) : sdR h (n + 1) = sdR h n := by
  funext j
  unfold sdR
  split
  · split
    · show sumN _ n + vF _ _ _ n = _
      rw [show vF h ((j / 31 : Nat) : Int) ((j % 31 : Nat) : Int) n = 0 by unfold vF; rw [if_pos hf], Int.add_zero]
    · rfl
  · rfl
theorem k_tallyAll {h : Hp} (r : TriR h) : ∃ g : Hp, (∀ p, p ≠ 44 → p ≠ 45 → g p = h p) ∧ g_X7_tallyAll 36 h = some (sumN (fI g) 1575, setRow g 45 (tlR g 1575)) := by
  obtain ⟨h1, w1, w2, w3⟩ := k_lookBackTo (y := 999) r
  have e := fun p (_ : 36 ≤ p) (_ : p ≤ 43) => w2 p (by omega)
  have rt1 : TriR h1 := r.hp e (fun p _ _ => w2 p (by omega)) (w2 100 (by omega))
  have kn1 : ∀ k, k < (h1 36 0).toNat → h1 44 k = knP h1 999 k (h1 36 1).toNat := by
    intro k hk
    rw [w2 36 (by omega)] at hk ⊢
    rw [w3 k hk, knP_hp (fun p _ _ => w2 p (by omega))]
  refine ⟨h1, fun p h2 h3 => w2 p h2, ?_⟩
  unfold g_X7_tallyAll
  rw [e_cI, w1, e_cV, e_cI, e_fill, e_cV, e_cI, e_cI]
  have rs : ∀ s, TriR (setRow h1 45 s) := fun s => rt1.hp (fun p _ _ => setRow_ne _ _ _ _ (by omega)) (fun p _ _ => setRow_ne _ _ _ _ (by omega)) (setRow_ne _ _ _ _ (by omega))
  have ks : ∀ s k, k < (setRow h1 45 s 36 0).toNat → setRow h1 45 s 44 k = knP (setRow h1 45 s) 999 k (setRow h1 45 s 36 1).toNat := by
    intro s k hk
    rw [setRow_ne _ _ _ _ (by omega)] at hk ⊢
    rw [setRow_ne _ _ _ _ (by omega), knP_hp (fun p _ _ => setRow_ne _ _ _ _ (by omega))]
    exact kn1 k hk
  have fs : ∀ s b t l, fitP (setRow h1 45 s) 999 b t l = fitP h1 999 b t l := fun s b t l => fitP_hp (fun p _ _ => setRow_ne _ _ _ _ (by omega))
  have bnd := sum01 (fI_in h1)
  refine loopF_for' 15 (fun i => (sumN (fI h1) (105 * i), (i : Int) + 1, setRow h1 45 (tlR h1 (105 * i)))) ?_ ?_ ?_ (fu _ (by omega))
  · intro i hi self
    unfold g_X7_tallyAll_l8
    dsimp only
    rw [e_cI, b_neg (by omega), e_cI]
    refine join_gen (fun j15 hj15 => ?_)
    refine loopF_for' 21 (fun k => (sumN (fI h1) (105 * i + 5 * k), (k : Int), setRow h1 45 (tlR h1 (105 * i + 5 * k)))) ?_ ?_ rfl (fu _ (by omega))
    · intro k hk self2
      unfold g_X7_tallyAll_l20
      dsimp only
      rw [e_cI, b_neg (by omega), e_cI]
      refine join_gen (fun j27 hj27 => ?_)
      refine loopF_for' 5 (fun l => (sumN (fI h1) (105 * i + 5 * k + l), (l : Int) + 1, setRow h1 45 (tlR h1 (105 * i + 5 * k + l)))) ?_ ?_ rfl (fu _ (by omega))
      · intro l hl self3
        have hb := bnd (105 * i + 5 * k + l)
        unfold g_X7_tallyAll_l32
        dsimp only
        rw [e_cI, b_neg (by omega), k_fits (rs _) (ks _) (by omega) (by omega) (by omega), fs, ← fI_at hk hl, e_cP]
        refine join_gen (fun j39 hj39 => ?_)
        rw [show sumN (fI h1) (105 * i + 5 * k + (l + 1)) = sumN (fI h1) (105 * i + 5 * k + l) + fI h1 (105 * i + 5 * k + l) from rfl]
        rcases fI_in h1 (105 * i + 5 * k + l) with z | z
        · rw [b_pos z, hj39, z, Int.add_zero, e_add _ _ _ (by omega), show 105 * i + 5 * k + (l + 1) = 105 * i + 5 * k + l + 1 by omega, tlR_no z, show ((l + 1 : Nat) : Int) = (l : Int) + 1 by omega]
        · rw [b_neg (by omega), e_add _ _ _ (by omega), k_tallyHump hi hk hl z, e_cV, hj39, z, e_add _ _ _ (by omega), show ((l + 1 : Nat) : Int) = (l : Int) + 1 by omega]
          rfl
      · intro self3
        unfold g_X7_tallyAll_l32
        dsimp only
        rw [e_cI, b_pos (by omega), hj27, e_add _ _ _ (by omega), show 105 * i + 5 * k + 5 = 105 * i + 5 * (k + 1) by omega, show ((k + 1 : Nat) : Int) = (k : Int) + 1 by omega]
    · intro self2
      unfold g_X7_tallyAll_l20
      dsimp only
      rw [e_cI, b_pos (by omega), hj15, e_add _ _ _ (by omega), show 105 * i + 5 * 21 = 105 * (i + 1) by omega, show ((i + 1 : Nat) : Int) = (i : Int) + 1 by omega]
  · intro self
    unfold g_X7_tallyAll_l8
    dsimp only
    rw [e_cI, b_pos (by omega)]
  · refine Prod.ext rfl (Prod.ext rfl ?_)
    dsimp only
    funext p j
    unfold fillR setRow tlR sumN
    by_cases z : p = 45
    · rw [if_pos z]
      by_cases z2 : j < 336
      · rw [if_pos ⟨by omega, z2⟩, if_pos z2]
        split <;> rfl
      · rw [if_neg (by omega), if_neg z2, z]
    · rw [if_neg (by omega), if_neg z]
theorem m_standsIn {h g : Hp} {j95 : Hp → Option (Int × Hp)} {q49 q61 q73 : Int × Int × Hp} {b t l n w : Nat} (e1 : q49.2.1 = (b : Int) + 1) (e2 : q61.2.1 = (t : Int)) (e3 : q73.2.1 = (l : Int) + 1) (hb : b < 15) (ht : t < 21) (hl : l < 5) (hn : n = 105 * b + 5 * t + l) (hf : fI h n = 1) (hw : 1 ≤ w ∧ w ≤ 15) (q88 : Int × Hp) (e4 : q88.1 = (w : Int)) :
    loopF (g_X9_next_l99 j95 q49 q61 q73 q88) FU (1, setRow g 133 (fun j => if j < 31 * w then sdR h (n + 1) j else sdR h n j)) = j95 (setRow g 133 (fun j => if j < 31 * (w + 1) then sdR h (n + 1) j else sdR h n j)) := by
  refine loopF_for' 30 (fun i => ((i : Int) + 1, setRow g 133 (fun j => if j < 31 * w + i + 1 then sdR h (n + 1) j else sdR h n j))) ?_ ?_ ?_ (fu _ (by omega))
  · intro i hi self
    unfold g_X9_next_l99
    dsimp only
    have es := sI_at (b := b) (t := t) (l := l) (w := (w : Int)) ht hl
    rw [← hn] at es
    rw [e_cI, b_neg (by omega), e_cI, e4, e1, e2, e3, e_mul _ _ _ (by omega), e_add _ _ _ (by omega), show (31 : Int) * (w : Int) + ((i : Int) + 1) = ((31 * w + (i + 1) : Nat) : Int) by omega, e_rdn _ _ _ _ _ (by omega), setRow_same, if_neg (by omega), m_stands (by omega) (by omega) (by omega) (by omega), e_cP, ← es]
    refine join_gen (fun j hj => ?_)
    have red : (if (if 1 + sI n (w : Int) < (i : Int) + 1 then (0 : Int) else 1) = 0 then cI 0 fun z114 => j z114 else cI 1 fun z115 => j z115) = j (vF h (w : Int) ((i + 1 : Nat) : Int) n) := by
      unfold vF
      rw [if_neg (show ¬ fI h n = 0 by omega), show ((i + 1 : Nat) : Int) = (i : Int) + 1 by omega]
      by_cases z : 1 + sI n (w : Int) < (i : Int) + 1
      · rw [if_pos z, if_pos rfl, e_cI]
      · rw [if_neg z, if_neg (by decide), e_cI]
    have hv : sdR h n (31 * w + (i + 1)) = sumN (vF h (w : Int) ((i + 1 : Nat) : Int)) n := by
      unfold sdR
      rw [if_pos (by omega), if_pos (by omega), show (31 * w + (i + 1)) / 31 = w by omega, show (31 * w + (i + 1)) % 31 = i + 1 by omega]
    have hb1 := sum01 (f := vF h (w : Int) ((i + 1 : Nat) : Int)) (fun j => vF_in j) n
    have hb2 := vF_in (h := h) (w := (w : Int)) (x := ((i + 1 : Nat) : Int)) n
    rw [red, hj, hv, e_add _ _ _ (by omega), e_wrR _ _ _ _ _ _ (by omega), setRow_same, setRow_setRow, e_add _ _ _ (by omega), Int.toNat_natCast, show ((i + 1 : Nat) : Int) + 1 = (i : Int) + 1 + 1 by omega]
    congr 1
    refine Prod.ext rfl ?_
    dsimp only
    congr 1
    funext k
    unfold upd1
    try dsimp only
    by_cases z : k = 31 * w + (i + 1)
    · rw [if_pos z, if_pos (by omega), z]
      unfold sdR
      rw [if_pos (by omega), if_pos (by omega), show (31 * w + (i + 1)) / 31 = w by omega, show (31 * w + (i + 1)) % 31 = i + 1 by omega]
      rfl
    · rw [if_neg z]
      by_cases z2 : k < 31 * w + i + 1
      · rw [if_pos z2, if_pos (by omega)]
      · rw [if_neg z2, if_neg (by omega)]
  · intro self
    unfold g_X9_next_l99
    dsimp only
    rw [e_cI, b_pos (by omega), show 31 * w + 30 + 1 = 31 * (w + 1) by omega]
  · refine Prod.ext rfl ?_
    dsimp only
    congr 1
    funext k
    by_cases z : k = 31 * w
    · rw [if_neg (by omega), if_pos (by omega), z]
      unfold sdR
      rw [if_pos (by omega), if_neg (by omega), if_pos (by omega), if_neg (by omega)]
    · by_cases z2 : k < 31 * w
      · rw [if_pos z2, if_pos (by omega)]
      · rw [if_neg z2, if_neg (by omega)]
theorem m_standsAll {h g : Hp} {j82 : Int × Hp → Option (Int × Hp)} {q49 q61 q73 : Int × Int × Hp} {z86 : Int} {b t l n : Nat} (e1 : q49.2.1 = (b : Int) + 1) (e2 : q61.2.1 = (t : Int)) (e3 : q73.2.1 = (l : Int) + 1) (hb : b < 15) (ht : t < 21) (hl : l < 5) (hn : n = 105 * b + 5 * t + l) (hf : fI h n = 1) :
    loopF (g_X9_next_l89 j82 q49 q61 q73 z86) FU (1, setRow g 133 (sdR h n)) = j82 (z86, setRow g 133 (sdR h (n + 1))) := by
  refine loopF_for' 15 (fun i => ((i : Int) + 1, setRow g 133 (fun j => if j < 31 * (i + 1) then sdR h (n + 1) j else sdR h n j))) ?_ ?_ ?_ (fu _ (by omega))
  · intro i hi self
    unfold g_X9_next_l89
    dsimp only
    rw [e_cI, b_neg (by omega), e_cI]
    refine join_gen (fun j95 hj95 => ?_)
    rw [m_standsIn (w := i + 1) e1 e2 e3 hb ht hl hn hf (by omega) _ (by dsimp only; omega), hj95]
    try dsimp only
    rw [e_add _ _ _ (by omega), show ((i + 1 : Nat) : Int) + 1 = (i : Int) + 1 + 1 by omega]
  · intro self
    unfold g_X9_next_l89
    dsimp only
    rw [e_cI, b_pos (by omega)]
    congr 3
    funext j
    split
    · rfl
    · unfold sdR
      rw [if_neg (by omega), if_neg (by omega)]
  · refine Prod.ext rfl ?_
    dsimp only
    congr 1
    funext j
    split
    · unfold sdR
      rw [if_pos (by omega), if_neg (by omega), if_pos (by omega), if_neg (by omega)]
    · rfl
/-- the question: (least, question) -/
def ask1 (all w s v : Int) (q : Int × Int) : Int × Int := if (if v < all - v then all - v else v) < q.1 then (if v < all - v then all - v else v, 100 * w + s) else q
def askS (h : Hp) (all w : Int) : Nat → Int × Int → Int × Int
  | 0, q => q
  | s + 1, q => ask1 all w ((s : Int) + 1) (sumN (vF h w ((s : Int) + 1)) 1575) (askS h all w s q)
def askW (h : Hp) (all : Int) : Nat → Int × Int
  | 0 => (all, -1)
  | w + 1 => askS h all ((w : Int) + 1) 30 (askW h all w)
theorem v_step {h : Hp} {w : Nat} {s : Nat} : sumN (vF h (w : Int) ((s : Int) + 1)) 1575 = (if s = 0 then sumN (fI h) 1575 else sumN (vF h (w : Int) (s : Int)) 1575) - (if s = 0 then 0 else sumN (yF h (w : Int) ((s : Int) - 1)) 1575) := by
  by_cases z : s = 0
  · subst z
    rw [if_pos rfl, if_pos rfl, Int.sub_zero]
    refine sumN_congr (fun i _ => ?_)
    have := sI_in i (w : Int)
    unfold vF
    rcases fI_in h i with q | q
    · rw [if_pos q, q]
    · rw [if_neg (by omega), if_neg (by omega), q]
  · rw [if_neg z, if_neg z]
    refine sumN_sub (fun i => ?_) _
    unfold vF yF
    rcases fI_in h i with q | q
    · rw [if_pos q, if_pos q, if_pos q]; rfl
    · have q' : ¬ fI h i = 0 := by omega
      rw [if_neg q', if_neg q', if_neg q']
      by_cases z1 : 1 + sI i (w : Int) < (s : Int)
      · rw [if_pos (show 1 + sI i (w : Int) < (s : Int) + 1 by omega), if_pos z1, if_neg (show ¬ sI i (w : Int) = (s : Int) - 1 by omega)]; rfl
      · rw [if_neg z1]
        by_cases z2 : sI i (w : Int) = (s : Int) - 1
        · rw [if_pos (show 1 + sI i (w : Int) < (s : Int) + 1 by omega), if_pos z2]; rfl
        · rw [if_neg (show ¬ 1 + sI i (w : Int) < (s : Int) + 1 by omega), if_neg z2]; rfl
theorem k_weakerBy {h : Hp} {w s : Nat} (hw : 1 ≤ w ∧ w ≤ 15) (hs : s < 30) : g_X7_weakerBy 36 (w : Int) ((s : Int) + 1) (setRow h 45 (tlR h 1575)) = some (if s = 0 then 0 else sumN (yF h (w : Int) ((s : Int) - 1)) 1575) := by
  unfold g_X7_weakerBy
  (rw [e_cI, e_sub _ _ _ (by omega), e_join]; (try dsimp only); rw [e_join]; (try dsimp only))
  by_cases z : s = 0
  · rw [b_pos (by omega), e_cI, if_pos z]
  rw [b_neg (by omega), e_cI, if_neg z]
  by_cases z2 : 22 ≤ s
  · have y0 : ∀ n, yF h (w : Int) ((s : Int) - 1) n = 0 := by
      intro n
      have := sI_in n (w : Int)
      unfold yF
      rw [if_neg (show ¬ sI n (w : Int) = (s : Int) - 1 by omega)]
      split <;> rfl
    have s0 : ∀ n, sumN (yF h (w : Int) ((s : Int) - 1)) n = 0 := by
      intro n
      induction n with
      | zero => rfl
      | succ n ih =>
        unfold sumN
        rw [ih, y0 n]
        rfl
    rw [b_pos (by omega), e_cI, s0]
  · rw [b_neg (by omega), e_cI, e_mul _ _ _ (by omega), e_add _ _ _ (by omega), show (w : Int) * 21 + ((s : Int) + 1 - 2) = ((21 * w + (s - 1) : Nat) : Int) by omega, e_rdn _ _ _ _ _ (by omega), setRow_same]
    unfold tlR
    rw [if_pos (by omega), if_pos (by omega), show (21 * w + (s - 1)) / 21 = w by omega, show (21 * w + (s - 1)) % 21 = s - 1 by omega, show ((s - 1 : Nat) : Int) = (s : Int) - 1 by omega]
theorem v_in {h : Hp} {w s : Int} : 0 ≤ sumN (vF h w s) 1575 ∧ sumN (vF h w s) 1575 ≤ 1575 := by
  have := sum01 (f := vF h w s) (fun j => vF_in j) 1575
  omega
theorem k_ask {h : Hp} : loopF (g_X7_bestQuestion_l6 36 (setRow h 45 (tlR h 1575)) (sumN (fI h) 1575)) FU (sumN (fI h) 1575, -1, 1) = some ((askW h (sumN (fI h) 1575) 15).2, setRow h 45 (tlR h 1575)) := by
  have ha := sum01 (fI_in h) 1575
  generalize hall : sumN (fI h) 1575 = all at ha
  refine loopF_for' 15 (fun i => ((askW h all i).1, (askW h all i).2, (i : Int) + 1)) ?_ ?_ rfl (fu _ (by omega))
  · intro i hi self
    unfold g_X7_bestQuestion_l6
    dsimp only
    rw [e_cI, b_neg (by omega), e_cI]
    refine join_gen (fun j13 hj13 => ?_)
    show _ = self ((askS h all ((i : Int) + 1) 30 (askW h all i)).1, (askS h all ((i : Int) + 1) 30 (askW h all i)).2, _)
    generalize askW h all i = q0
    refine loopF_for' 30 (fun s => ((askS h all ((i : Int) + 1) s q0).1, (askS h all ((i : Int) + 1) s q0).2, (if s = 0 then all else sumN (vF h ((i + 1 : Nat) : Int) (s : Int)) 1575), (s : Int) + 1)) ?_ ?_ rfl (fu _ (by omega))
    · intro s hs self2
      unfold g_X7_bestQuestion_l18
      dsimp only
      have hv := v_step (h := h) (w := i + 1) (s := s)
      have hv1 := v_in (h := h) (w := ((i + 1 : Nat) : Int)) (s := (s : Int) + 1)
      rw [hall] at hv
      rw [e_cI, b_neg (by omega), show (i : Int) + 1 = ((i + 1 : Nat) : Int) by omega, k_weakerBy (by omega) hs, e_cP, e_sub _ _ _ (by rw [← hv]; omega), ← hv, e_sub _ _ _ (by omega), e_max]
      refine join_gen (fun j29 hj29 => ?_)
      rw [show askS h all ((i + 1 : Nat) : Int) (s + 1) q0 = ask1 all ((i + 1 : Nat) : Int) ((s : Int) + 1) (sumN (vF h ((i + 1 : Nat) : Int) ((s : Int) + 1)) 1575) (askS h all ((i + 1 : Nat) : Int) s q0) from rfl, if_neg (show ¬ s + 1 = 0 by omega), show ((s + 1 : Nat) : Int) = (s : Int) + 1 by omega]
      generalize askS h all ((i + 1 : Nat) : Int) s q0 = q1
      generalize sumN (vF h ((i + 1 : Nat) : Int) ((s : Int) + 1)) 1575 = v at hj29 ⊢
      unfold ask1
      by_cases z : (if v < all - v then all - v else v) < q1.1
      · rw [b_neg (by omega), e_cI, e_mul _ _ _ (by omega), e_add _ _ _ (by omega), hj29, e_add _ _ _ (by omega), if_pos z]
      · rw [b_pos (by omega), hj29, e_add _ _ _ (by omega), if_neg z]
    · intro self2
      unfold g_X7_bestQuestion_l18
      dsimp only
      rw [e_cI, b_pos (by omega), hj13, e_add _ _ _ (by omega), show ((i + 1 : Nat) : Int) + 1 = (i : Int) + 1 + 1 by omega]
  · intro self
    unfold g_X7_bestQuestion_l6
    dsimp only
    rw [e_cI, b_pos (by omega)]
theorem m_ask {h g : Hp} {all : Int} (ha : 0 ≤ all ∧ all ≤ 1575) : loopF (g_X9_next_l14 (all, setRow g 133 (sdR h 1575))) FU (all, -1, 1) = some ((askW h all 15).2, setRow g 133 (sdR h 1575)) := by
  refine loopF_for' 15 (fun i => ((askW h all i).1, (askW h all i).2, (i : Int) + 1)) ?_ ?_ rfl (fu _ (by omega))
  · intro i hi self
    unfold g_X9_next_l14
    dsimp only
    rw [e_cI, b_neg (by omega), e_cI]
    refine join_gen (fun j21 hj21 => ?_)
    show _ = self ((askS h all ((i : Int) + 1) 30 (askW h all i)).1, (askS h all ((i : Int) + 1) 30 (askW h all i)).2, _)
    generalize askW h all i = q0
    refine loopF_for' 30 (fun s => ((askS h all ((i : Int) + 1) s q0).1, (askS h all ((i : Int) + 1) s q0).2, (s : Int) + 1)) ?_ ?_ rfl (fu _ (by omega))
    · intro s hs self2
      unfold g_X9_next_l26
      dsimp only
      have hv1 := v_in (h := h) (w := (i : Int) + 1) (s := (s : Int) + 1)
      have hrow : sdR h 1575 (31 * (i + 1) + (s + 1)) = sumN (vF h ((i : Int) + 1) ((s : Int) + 1)) 1575 := by
        unfold sdR
        rw [if_pos (by omega), if_pos (by omega), show (31 * (i + 1) + (s + 1)) / 31 = i + 1 by omega, show (31 * (i + 1) + (s + 1)) % 31 = s + 1 by omega]
        rfl
      rw [e_cI, b_neg (by omega), e_cI, e_mul _ _ _ (by omega), e_add _ _ _ (by omega), show (31 : Int) * ((i : Int) + 1) + ((s : Int) + 1) = ((31 * (i + 1) + (s + 1) : Nat) : Int) by omega, e_rdn _ _ _ _ _ (by omega), e_cI, e_mul _ _ _ (by omega), e_add _ _ _ (by omega), show (31 : Int) * ((i : Int) + 1) + ((s : Int) + 1) = ((31 * (i + 1) + (s + 1) : Nat) : Int) by omega, e_rdn _ _ _ _ _ (by omega), setRow_same, hrow, e_sub _ _ _ (by omega), e_max]
      refine join_gen (fun j29 hj29 => ?_)
      rw [show askS h all ((i : Int) + 1) (s + 1) q0 = ask1 all ((i : Int) + 1) ((s : Int) + 1) (sumN (vF h ((i : Int) + 1) ((s : Int) + 1)) 1575) (askS h all ((i : Int) + 1) s q0) from rfl]
      generalize askS h all ((i : Int) + 1) s q0 = q1
      generalize sumN (vF h ((i : Int) + 1) ((s : Int) + 1)) 1575 = v
      unfold ask1
      by_cases z : (if v < all - v then all - v else v) < q1.1
      · rw [b_pos z, e_cI, e_mul _ _ _ (by omega), e_add _ _ _ (by omega), hj29, e_add _ _ _ (by omega), if_pos z, show ((s + 1 : Nat) : Int) + 1 = (s : Int) + 1 + 1 by omega]
      · rw [b_neg z, hj29, e_add _ _ _ (by omega), if_neg z, show ((s + 1 : Nat) : Int) + 1 = (s : Int) + 1 + 1 by omega]
    · intro self2
      unfold g_X9_next_l26
      dsimp only
      rw [e_cI, b_pos (by omega), hj21, e_add _ _ _ (by omega), show ((i + 1 : Nat) : Int) + 1 = (i : Int) + 1 + 1 by omega]
  · intro self
    unfold g_X9_next_l14
    dsimp only
    rw [e_cI, b_pos (by omega)]
theorem m_next {h : Hp} (r : TriR h) : g_X9_next h = some ((askW h (sumN (fI h) 1575) 15).2, setRow h 133 (sdR h 1575)) := by
  have rs : ∀ s, TriR (setRow h 133 s) := fun s => r.hp (fun p _ _ => setRow_ne _ _ _ _ (by omega)) (fun p _ _ => setRow_ne _ _ _ _ (by omega)) (setRow_ne _ _ _ _ (by omega))
  have fs : ∀ s b t l, fitP (setRow h 133 s) 999 b t l = fitP h 999 b t l := fun s b t l => fitP_hp (fun p _ _ => setRow_ne _ _ _ _ (by omega))
  have bnd := sum01 (fI_in h)
  unfold g_X9_next
  rw [e_cI, e_cI]
  refine join_gen (fun j4 hj4 => ?_)
  refine loopF_for' 496 (fun i => ((i : Int), setRow h 133 (fun j => if j < i then 0 else h 133 j))) ?_ ?_ ?_ (fu _ (by omega))
  · intro i hi self
    unfold g_X9_next_l117
    dsimp only
    rw [e_cI, b_neg (by omega), e_cI, e_wrR _ _ _ _ _ _ (by omega), setRow_same, setRow_setRow, e_add _ _ _ (by omega), Int.toNat_natCast, show ((i + 1 : Nat) : Int) = (i : Int) + 1 by omega]
    congr 1
    refine Prod.ext rfl ?_
    dsimp only
    congr 1
    funext j
    unfold upd1
    try dsimp only
    by_cases z : j = i
    · rw [if_pos z, if_pos (by omega)]
    · rw [if_neg z]
      by_cases z2 : j < i
      · rw [if_pos z2, if_pos (by omega)]
      · rw [if_neg z2, if_neg (by omega)]
  · intro self
    unfold g_X9_next_l117
    dsimp only
    have e0 : (fun j => if j < 496 then 0 else h 133 j) = sdR h 0 := by
      funext j
      unfold sdR sumN
      split
      · split <;> rfl
      · rfl
    rw [e_cI, b_pos (by omega), hj4, e_cI, e0]
    refine join_gen (fun j8 hj8 => ?_)
    refine loopF_for' 15 (fun i => (sumN (fI h) (105 * i), (i : Int) + 1, setRow h 133 (sdR h (105 * i)))) ?_ ?_ rfl (fu _ (by omega))
    · intro i hi self
      unfold g_X9_next_l50
      dsimp only
      rw [e_cI, b_neg (by omega), e_cI]
      refine join_gen (fun j15 hj15 => ?_)
      refine loopF_for' 21 (fun k => (sumN (fI h) (105 * i + 5 * k), (k : Int), setRow h 133 (sdR h (105 * i + 5 * k)))) ?_ ?_ rfl (fu _ (by omega))
      · intro k hk self2
        unfold g_X9_next_l62
        dsimp only
        rw [e_cI, b_neg (by omega), e_cI]
        refine join_gen (fun j27 hj27 => ?_)
        refine loopF_for' 5 (fun l => (sumN (fI h) (105 * i + 5 * k + l), (l : Int) + 1, setRow h 133 (sdR h (105 * i + 5 * k + l)))) ?_ ?_ rfl (fu _ (by omega))
        · intro l hl self3
          have hb := bnd (105 * i + 5 * k + l)
          unfold g_X9_next_l74
          dsimp only
          rw [e_cI, b_neg (by omega), e_cI, m_fits (rs _) (by omega) (by omega) (by omega), fs, ← fI_at hk hl, e_cP]
          refine join_gen (fun j39 hj39 => ?_)
          rw [show sumN (fI h) (105 * i + 5 * k + (l + 1)) = sumN (fI h) (105 * i + 5 * k + l) + fI h (105 * i + 5 * k + l) from rfl]
          rcases fI_in h (105 * i + 5 * k + l) with z | z
          · rw [b_pos z, hj39, z, Int.add_zero, e_add _ _ _ (by omega), show 105 * i + 5 * k + (l + 1) = 105 * i + 5 * k + l + 1 by omega, sdR_no z, show ((l + 1 : Nat) : Int) = (l : Int) + 1 by omega]
          · rw [b_neg (by omega), e_add _ _ _ (by omega), e_cI, m_standsAll (b := i) (t := k) (l := l) rfl rfl rfl hi hk hl rfl z, hj39, z, e_add _ _ _ (by omega), show ((l + 1 : Nat) : Int) = (l : Int) + 1 by omega]
            rfl
        · intro self3
          unfold g_X9_next_l74
          dsimp only
          rw [e_cI, b_pos (by omega), hj27, e_add _ _ _ (by omega), show 105 * i + 5 * k + 5 = 105 * i + 5 * (k + 1) by omega, show ((k + 1 : Nat) : Int) = (k : Int) + 1 by omega]
      · intro self2
        unfold g_X9_next_l62
        dsimp only
        rw [e_cI, b_pos (by omega), hj15, e_add _ _ _ (by omega), show 105 * i + 5 * 21 = 105 * (i + 1) by omega, show ((i + 1 : Nat) : Int) = (i : Int) + 1 by omega]
    · intro self
      unfold g_X9_next_l50
      dsimp only
      have := bnd 1575
      rw [e_cI, b_pos (by omega), hj8, e_cI, e_cI]
      exact m_ask (by omega)
  · refine Prod.ext rfl ?_
    dsimp only
    funext p j
    unfold setRow
    dsimp only
    split
    · rw [if_neg (by omega)]
      rename_i e
      rw [e]
    · rfl
theorem askS_hp {h h2 : Hp} {all w : Int} (e : ∀ i, fI h2 i = fI h i) : ∀ s q, askS h2 all w s q = askS h all w s q
  | 0, _ => rfl
  | s + 1, q => by
    unfold askS
    rw [askS_hp e s q, sumN_congr (f := vF h2 w ((s : Int) + 1)) (g := vF h w ((s : Int) + 1)) (fun i _ => by unfold vF; rw [e i])]
theorem askW_hp {h h2 : Hp} {all : Int} (e : ∀ i, fI h2 i = fI h i) : ∀ w, askW h2 all w = askW h all w
  | 0 => rfl
  | w + 1 => by unfold askW; rw [askW_hp e w, askS_hp e]
theorem s_next {n : Nat} {h : Hp} (r : Rel n h) : ∃ z h1 h2, g_X8_next h = some (z, h1) ∧ g_X9_next h1 = some (z, h2) ∧ Rel (n + 1) h2 := by
  have rt := r.2.2.2.2.2.2.2.2
  obtain ⟨g, w1, w2⟩ := k_tallyAll rt
  have f1 : ∀ p, p ≠ 44 → p ≠ 45 → setRow g 45 (tlR g 1575) p = h p := fun p a b => by rw [setRow_ne _ _ _ _ b, w1 p a b]
  have rt1 : TriR (setRow g 45 (tlR g 1575)) := rt.hp (fun p _ _ => f1 p (by omega) (by omega)) (fun p _ _ => f1 p (by omega) (by omega)) (f1 100 (by omega) (by omega))
  have ef : ∀ i, fI (setRow g 45 (tlR g 1575)) i = fI g i := fI_hp (fun p _ _ => setRow_ne _ _ _ _ (by omega))
  have m1 := m_next rt1
  rw [sumN_congr (f := fI (setRow g 45 (tlR g 1575))) (g := fI g) (fun i _ => ef i), askW_hp ef] at m1
  refine ⟨(askW g (sumN (fI g) 1575) 15).2, setRow g 45 (tlR g 1575), _, ?_, m1, r.quiet (by omega) ?_ ?_ ?_⟩
  · unfold g_X8_next g_X7_bestQuestion
    rw [w2, e_cW, e_cI, e_cI, k_ask, e_cW]
  · intro p hp
    rw [setRow_ne _ _ _ _ (by omega), f1 p (by omega) (by omega)]
  · intro p a1 a2
    rw [setRow_ne _ _ _ _ (by omega), f1 p (by omega) (by omega)]
  · intro p hp
    rw [setRow_ne _ _ _ _ (by omega), f1 p (by omega) (by omega)]
