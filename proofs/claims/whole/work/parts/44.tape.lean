/-! CALLS: feed and end -/
def shP (v : Int) (k : Int) : Int := (iI v >>> (iI k &&& 31)).toInt
theorem shP_in (v k : Int) : inR (shP v k) := tI_inR _
theorem e_shr {R : Type} (v k : Int) (K : Int → Option R) : shrI v k K = K (shP v k) := nrfl rfl
theorem and255 {x : Int} (hx : inR x) : (iI x &&& iI 255).toInt = x % 256 := by
  have e := pk_and (iI x) (m := iI 255) 8 (by decide +kernel)
  rw [e]
  have h1 : ((iI x).toBitVec.toNat : Int) = x % 4294967296 := by
    have h2 := iI_toInt hx
    have h3 := (iI x).toBitVec.toInt_eq_toNat_cond
    have h4 : (iI x).toInt = (iI x).toBitVec.toInt := rfl
    have h5 := (iI x).toBitVec.isLt
    rw [h4, h3] at h2
    split at h2 <;> omega
  rw [nI_toInt (by omega)]
  omega
theorem nb_eq {x : Int} (hx : inR x) : nb x = if x % 256 < 128 then x % 256 else x % 256 - 256 := by
  unfold nb
  rw [Int8.toInt_toInt32, Int32.toInt_toInt8, iI_toInt hx]
  unfold Int.bmod
  simp only [show ((2 ^ 8 : Nat) : Int) = 256 from rfl]
  split <;> split <;> omega
theorem BT_byte {x : Int} (hx : inR x) : BT (iI x &&& iI 255).toInt (nb (nb x)) := by
  rw [and255 hx, nb_eq (x := nb x) (by rw [nb_eq hx]; unfold inR; split <;> omega), nb_eq hx]
  unfold BT
  refine ⟨by omega, ?_⟩
  split <;> split <;> omega
def by4 (v : Int) (i : Nat) : Int := (iI (shP v (24 - 8 * (i : Int))) &&& iI 255).toInt
def bb4 (v : Int) (i : Nat) : Int := nb (nb (shP v (24 - 8 * (i : Int))))
theorem e_and4 {R : Type} (v : Int) (i : Nat) (K : Int → Option R) : andI (shP v (24 - 8 * (i : Int))) 255 K = K (by4 v i) := nrfl rfl
theorem e_i2b {R : Type} (v : Int) (K : Int → Option R) : i2bI v K = K (nb v) := nrfl rfl
def appR (h : Hp) (v : Int) (L i : Nat) : Hp := fun p k => if p = 2 ∧ L ≤ k ∧ k < L + i then by4 v (k - L) else if p = 1 ∧ k = 1 then (L : Int) + i else h p k
def putR (h : Hp) (v : Int) (L i : Nat) : Hp := fun p k => if p = 101 ∧ L ≤ k ∧ k < L + i then bb4 v (k - L) else if p = 100 ∧ k = 1 then (L : Int) + i else h p k
theorem k_append {h : Hp} {v : Int} {L : Nat} (hL : h 1 1 = (L : Int)) (h4 : L + 4 ≤ 900) : g_X5_append 1 v h = some (appR h v L 4) := by
  unfold g_X5_append
  rw [e_cI]
  refine join_gen (fun j3 hj3 => ?_)
  refine loopF_for' 4 (fun i => (24 - 8 * (i : Int), appR h v L i)) ?_ ?_ ?_ (fu _ (by omega))
  · intro i hi self
    have e1 : appR h v L i 1 1 = (L : Int) + i := by unfold appR; rw [if_neg (by omega), if_pos ⟨rfl, rfl⟩]
    unfold g_X5_append_l6
    dsimp only
    rw [b_neg (by omega), e_gF, e1, e_cI, b_neg (by omega), e_gF, e1, e_shr, e_cI, e_and4, e_wr _ _ _ _ _ _ (by omega), e_gF, set2_np _ _ _ _ _ _ (by omega), e1, e_cI, e_add _ _ _ (by omega), e_pF, e_add _ _ _ (by omega), show ((L : Int) + (i : Int)).toNat = L + i by omega]
    congr 1
    refine Prod.ext (by dsimp only; omega) ?_
    funext p k
    dsimp only
    unfold set2 appR
    by_cases q1 : p = 1 ∧ k = 1
    · rw [if_pos q1, if_neg (by omega), if_pos q1]; omega
    rw [if_neg q1]
    by_cases q2 : p = 2 ∧ k = L + i
    · rw [if_pos q2, if_pos (by omega), show k - L = i by omega]
    rw [if_neg q2]
    by_cases q3 : p = 2 ∧ L ≤ k ∧ k < L + i
    · rw [if_pos q3, if_pos (by omega)]
    · rw [if_neg q3, if_neg q1, if_neg (by omega), if_neg q1]
  · intro self
    unfold g_X5_append_l6
    dsimp only
    rw [b_pos (by omega), hj3]
  · refine Prod.ext rfl ?_
    funext p k
    dsimp only
    unfold appR
    rw [if_neg (by omega)]
    split
    · rename_i q; rw [q.1, q.2, hL]; omega
    · rfl
theorem m_putFour {h : Hp} {v : Int} {L : Nat} (hL : h 100 1 = (L : Int)) (h4 : L + 4 ≤ 900) : g_X9_putFour v h = some (putR h v L 4) := by
  unfold g_X9_putFour
  rw [e_cI]
  refine loopF_for' 4 (fun i => (24 - 8 * (i : Int), putR h v L i)) ?_ ?_ ?_ (fu _ (by omega))
  · intro i hi self
    have e1 : putR h v L i 100 1 = (L : Int) + i := by unfold putR; rw [if_neg (by omega), if_pos ⟨rfl, rfl⟩]
    unfold g_X9_putFour_l3
    dsimp only
    rw [b_neg (by omega), e_gF, e1, e_shr, e_i2b]
    have ew : ∀ K : Hp → Option Hp, wrB (putR h v L i) 101 900 ((L : Int) + (i : Int)) (nb (shP v (24 - 8 * (i : Int)))) K = K (set2 (putR h v L i) 101 (L + i) (bb4 v i)) := by
      intro K
      unfold wrB
      rw [if_pos (by omega), show ((L : Int) + (i : Int)).toNat = L + i by omega, bb4]
    rw [ew, e_gF, set2_np _ _ _ _ _ _ (by omega), e1, e_cI, e_add _ _ _ (by omega), e_pF, e_add _ _ _ (by omega)]
    congr 1
    refine Prod.ext (by dsimp only; omega) ?_
    funext p k
    dsimp only
    unfold set2 putR
    by_cases q1 : p = 100 ∧ k = 1
    · rw [if_pos q1, if_neg (by omega), if_pos q1]; omega
    rw [if_neg q1]
    by_cases q2 : p = 101 ∧ k = L + i
    · rw [if_pos q2, if_pos (by omega), show k - L = i by omega]
    rw [if_neg q2]
    by_cases q3 : p = 101 ∧ L ≤ k ∧ k < L + i
    · rw [if_pos q3, if_pos (by omega)]
    · rw [if_neg q3, if_neg q1, if_neg (by omega), if_neg q1]
  · intro self
    unfold g_X9_putFour_l3
    dsimp only
    rw [b_pos (by omega)]
  · refine Prod.ext rfl ?_
    funext p k
    dsimp only
    unfold putR
    rw [if_neg (by omega)]
    split
    · rename_i q; rw [q.1, q.2, hL]; omega
    · rfl
theorem appR_len {h : Hp} {v : Int} {L : Nat} : appR h v L 4 1 1 = ((L + 4 : Nat) : Int) := by unfold appR; rw [if_neg (by omega), if_pos ⟨rfl, rfl⟩]; omega
theorem putR_len {h : Hp} {v : Int} {L : Nat} : putR h v L 4 100 1 = ((L + 4 : Nat) : Int) := by unfold putR; rw [if_neg (by omega), if_pos ⟨rfl, rfl⟩]; omega
theorem appR_ne {h : Hp} {v : Int} {L p : Nat} (hp : p ≠ 1 ∧ p ≠ 2) : appR h v L 4 p = h p := by funext k; unfold appR; rw [if_neg (by omega), if_neg (by omega)]
theorem appR_f {h : Hp} {v : Int} {L k : Nat} (hk : k ≠ 1) : appR h v L 4 1 k = h 1 k := by unfold appR; rw [if_neg (by omega), if_neg (by omega)]
theorem putR_ne {h : Hp} {v : Int} {L p : Nat} (hp : p ≠ 100 ∧ p ≠ 101) : putR h v L 4 p = h p := by funext k; unfold putR; rw [if_neg (by omega), if_neg (by omega)]
theorem putR_f {h : Hp} {v : Int} {L k : Nat} (hk : k ≠ 1) : putR h v L 4 100 k = h 100 k := by unfold putR; rw [if_neg (by omega), if_neg (by omega)]
def TB (x y : Nat → Int) : Prop := ∀ k : Nat, k < 900 → BT (x k) (y k)
theorem TB.four {h g : Hp} {v : Int} {L : Nat} (t : TB (h 2) (g 101)) : TB (appR h v L 4 2) (putR g v L 4 101) := by
  intro k hk
  unfold appR putR
  by_cases q : L ≤ k ∧ k < L + 4
  · rw [if_pos ⟨rfl, q⟩, if_pos ⟨rfl, q⟩]
    exact BT_byte (shP_in _ _)
  · rw [if_neg (by omega), if_neg (by omega), if_neg (by omega), if_neg (by omega)]
    exact t k hk
/-- the tape alone has moved -/
theorem Rel.tape {n : Nat} {h h2 : Hp} (r : Rel n h) (ht : TapR h2) (f : ∀ p, p ≠ 1 → p ≠ 2 → p ≠ 100 → p ≠ 101 → h2 p = h p) (f1 : ∀ k, k ≠ 1 → h2 1 k = h 1 k) (f2 : ∀ k, k ≠ 1 → h2 100 k = h 100 k) : Rel (n + 1) h2 := by
  obtain ⟨r0, ⟨c, r1⟩, ⟨v, r2⟩, r3, r4, r5, r6, r7, r8⟩ := r
  have e : TE h h2 := TE.of2 (fun p _ _ _ => f p (by omega) (by omega) (by omega) (by omega)) (fun k _ _ => f2 k (by omega))
  have e0 : h2 0 = h 0 := f 0 (by omega) (by omega) (by omega) (by omega)
  exact ⟨r0.te e, ⟨c, r1.mv e (fun k _ => by rw [e0]) (fun p _ _ => f p (by omega) (by omega) (by omega) (by omega)) (f2 13 (by omega))⟩, ⟨v, r2.mv e (fun k _ => by rw [e0]) (fun p _ _ => f p (by omega) (by omega) (by omega) (by omega)) (f2 29 (by omega))⟩, r3.mv r0 e (by rw [e0]) (fun p _ _ => f p (by omega) (by omega) (by omega) (by omega)), r4.mv (by omega) e (fun p _ _ => f p (by omega) (by omega) (by omega) (by omega)) (f 121 (by omega) (by omega) (by omega) (by omega)),
    fun j hj => (r5 j hj).mv hj (by omega) e (fun p _ _ => f p (by omega) (by omega) (by omega) (by omega)) ⟨f 123 (by omega) (by omega) (by omega) (by omega), f 124 (by omega) (by omega) (by omega) (by omega), f 35 (by omega) (by omega) (by omega) (by omega)⟩, ht, r7.mv ⟨f1 6 (by omega), f1 7 (by omega), f2 8 (by omega), f2 9 (by omega)⟩,
    r8.mv (fun p _ _ => f p (by omega) (by omega) (by omega) (by omega)) (fun p _ _ => f p (by omega) (by omega) (by omega) (by omega)) ⟨f2 51 (by omega), f2 52 (by omega), f2 53 (by omega)⟩⟩
theorem s_end {n : Nat} {h : Hp} {x1 : Int} (r : Rel n h) : ∃ z h1 h2, g_X8_end x1 h = some (z, h1) ∧ g_X9_end x1 h1 = some (z, h2) ∧ Rel (n + 1) h2 := by
  have rt := r.2.2.2.2.2.2.1
  obtain ⟨t1, t2, t3⟩ := rt
  unfold g_X8_end g_X9_end
  by_cases b0 : 0 ≤ x1 ∧ x1 ≤ h 1 1
  rotate_left
  · by_cases b1 : x1 < 0
    · refine ⟨-1, h, h, ?_, ?_, r.next⟩
      · (repeat (first | rw [e_i2l] | rw [e_cI] | rw [e_join] | rw [e_cP] | rw [e_gF] | rw [e_pF] | rw [e_cW] | rw [e_cV] | rw [e_in_t _ _ _ _ (by omega)] | rw [e_in_f _ _ _ _ (by omega)] | rw [b_pos (by omega)] | rw [b_neg (by omega)] | rw [e_add _ _ _ (by omega)] | rw [e_sub _ _ _ (by omega)] | rw [e_mul _ _ _ (by omega)] | rw [e_lsub _ _ _ (by omega)] | rw [e_rd _ _ _ _ _ (by omega)] | rw [b_pos True.intro] | rw [b_neg not_false] | simp only [Int.reduceToNat, Int.reduceSub, Int.reduceAdd, Int.reduceMul]))
      · (repeat (first | rw [e_i2l] | rw [e_cI] | rw [e_join] | rw [e_cP] | rw [e_gF] | rw [e_pF] | rw [e_cW] | rw [e_cV] | rw [e_in_t _ _ _ _ (by omega)] | rw [e_in_f _ _ _ _ (by omega)] | rw [b_pos (by omega)] | rw [b_neg (by omega)] | rw [e_add _ _ _ (by omega)] | rw [e_sub _ _ _ (by omega)] | rw [e_mul _ _ _ (by omega)] | rw [e_lsub _ _ _ (by omega)] | rw [e_rd _ _ _ _ _ (by omega)] | rw [b_pos True.intro] | rw [b_neg not_false] | simp only [Int.reduceToNat, Int.reduceSub, Int.reduceAdd, Int.reduceMul]))
    · refine ⟨-1, h, h, ?_, ?_, r.next⟩
      · (repeat (first | rw [e_i2l] | rw [e_cI] | rw [e_join] | rw [e_cP] | rw [e_gF] | rw [e_pF] | rw [e_cW] | rw [e_cV] | rw [e_in_t _ _ _ _ (by omega)] | rw [e_in_f _ _ _ _ (by omega)] | rw [b_pos (by omega)] | rw [b_neg (by omega)] | rw [e_add _ _ _ (by omega)] | rw [e_sub _ _ _ (by omega)] | rw [e_mul _ _ _ (by omega)] | rw [e_lsub _ _ _ (by omega)] | rw [e_rd _ _ _ _ _ (by omega)] | rw [b_pos True.intro] | rw [b_neg not_false] | simp only [Int.reduceToNat, Int.reduceSub, Int.reduceAdd, Int.reduceMul]))
      · (repeat (first | rw [e_i2l] | rw [e_cI] | rw [e_join] | rw [e_cP] | rw [e_gF] | rw [e_pF] | rw [e_cW] | rw [e_cV] | rw [e_in_t _ _ _ _ (by omega)] | rw [e_in_f _ _ _ _ (by omega)] | rw [b_pos (by omega)] | rw [b_neg (by omega)] | rw [e_add _ _ _ (by omega)] | rw [e_sub _ _ _ (by omega)] | rw [e_mul _ _ _ (by omega)] | rw [e_lsub _ _ _ (by omega)] | rw [e_rd _ _ _ _ _ (by omega)] | rw [b_pos True.intro] | rw [b_neg not_false] | simp only [Int.reduceToNat, Int.reduceSub, Int.reduceAdd, Int.reduceMul]))
  refine ⟨x1, set2 h 1 1 x1, set2 (set2 h 1 1 x1) 100 1 x1, ?_, ?_, ?_⟩
  · (repeat (first | rw [e_i2l] | rw [e_cI] | rw [e_join] | rw [e_cP] | rw [e_gF] | rw [e_pF] | rw [e_cW] | rw [e_cV] | rw [e_in_t _ _ _ _ (by omega)] | rw [e_in_f _ _ _ _ (by omega)] | rw [b_pos (by omega)] | rw [b_neg (by omega)] | rw [e_add _ _ _ (by omega)] | rw [e_sub _ _ _ (by omega)] | rw [e_mul _ _ _ (by omega)] | rw [e_lsub _ _ _ (by omega)] | rw [e_rd _ _ _ _ _ (by omega)] | rw [b_pos True.intro] | rw [b_neg not_false] | simp only [Int.reduceToNat, Int.reduceSub, Int.reduceAdd, Int.reduceMul]))
  · (repeat (first | rw [set2_np _ _ _ _ _ _ (by omega)] | rw [e_i2l] | rw [e_cI] | rw [e_join] | rw [e_cP] | rw [e_gF] | rw [e_pF] | rw [e_cW] | rw [e_cV] | rw [e_in_t _ _ _ _ (by omega)] | rw [e_in_f _ _ _ _ (by omega)] | rw [b_pos (by omega)] | rw [b_neg (by omega)] | rw [e_add _ _ _ (by omega)] | rw [e_sub _ _ _ (by omega)] | rw [e_mul _ _ _ (by omega)] | rw [e_lsub _ _ _ (by omega)] | rw [e_rd _ _ _ _ _ (by omega)] | rw [b_pos True.intro] | rw [b_neg not_false] | simp only [Int.reduceToNat, Int.reduceSub, Int.reduceAdd, Int.reduceMul]))
  · refine r.tape ⟨?_, ?_, ?_⟩ ?_ ?_ ?_
    · rw [set2_same, set2_np _ _ _ _ _ _ (by omega), set2_same]
    · rw [set2_np _ _ _ _ _ _ (by omega), set2_same]; omega
    · intro k hk
      rw [set2_np _ _ _ _ _ _ (by omega), set2_np _ _ _ _ _ _ (by omega), set2_np _ _ _ _ _ _ (by omega), set2_np _ _ _ _ _ _ (by omega)]
      exact t3 k hk
    · intro p a1 a2 a3 a4
      rw [set2_ne p a3, set2_ne p a1]
    · intro k hk
      rw [set2_np _ _ _ _ _ _ (by omega), set2_nk _ _ _ _ _ _ hk]
    · intro k hk
      rw [set2_nk _ _ _ _ _ _ hk, set2_np _ _ _ _ _ _ (by omega)]
theorem s_feed {n : Nat} {h : Hp} {x1 x2 x3 x4 x5 : Int} (r : Rel n h) : ∃ z h1 h2, g_X8_feed x1 x2 x3 x4 x5 h = some (z, h1) ∧ g_X9_feed x1 x2 x3 x4 x5 h1 = some (z, h2) ∧ Rel (n + 1) h2 := by
  have rt := r.2.2.2.2.2.2.1
  obtain ⟨t1, t2, t3⟩ := rt
  unfold g_X8_feed g_X9_feed
  by_cases b0 : h 1 1 + 20 ≤ 900
  rotate_left
  · refine ⟨-3, h, h, ?_, ?_, r.next⟩
    · (repeat (first | rw [e_i2l] | rw [e_cI] | rw [e_join] | rw [e_cP] | rw [e_gF] | rw [e_pF] | rw [e_cW] | rw [e_cV] | rw [e_in_t _ _ _ _ (by omega)] | rw [e_in_f _ _ _ _ (by omega)] | rw [b_pos (by omega)] | rw [b_neg (by omega)] | rw [e_add _ _ _ (by omega)] | rw [e_sub _ _ _ (by omega)] | rw [e_mul _ _ _ (by omega)] | rw [e_lsub _ _ _ (by omega)] | rw [e_rd _ _ _ _ _ (by omega)] | rw [b_pos True.intro] | rw [b_neg not_false] | simp only [Int.reduceToNat, Int.reduceSub, Int.reduceAdd, Int.reduceMul]))
    · (repeat (first | rw [e_i2l] | rw [e_cI] | rw [e_join] | rw [e_cP] | rw [e_gF] | rw [e_pF] | rw [e_cW] | rw [e_cV] | rw [e_in_t _ _ _ _ (by omega)] | rw [e_in_f _ _ _ _ (by omega)] | rw [b_pos (by omega)] | rw [b_neg (by omega)] | rw [e_add _ _ _ (by omega)] | rw [e_sub _ _ _ (by omega)] | rw [e_mul _ _ _ (by omega)] | rw [e_lsub _ _ _ (by omega)] | rw [e_rd _ _ _ _ _ (by omega)] | rw [b_pos True.intro] | rw [b_neg not_false] | simp only [Int.reduceToNat, Int.reduceSub, Int.reduceAdd, Int.reduceMul]))
  obtain ⟨L, hL⟩ := Int.eq_ofNat_of_zero_le t2.1
  have c1 := k_append (v := x1) hL (by omega)
  have c2 := k_append (h := appR h x1 L 4) (v := x2) appR_len (by omega)
  have c3 := k_append (h := appR (appR h x1 L 4) x2 (L + 4) 4) (v := x3) appR_len (by omega)
  have c4 := k_append (h := appR (appR (appR h x1 L 4) x2 (L + 4) 4) x3 (L + 4 + 4) 4) (v := x4) appR_len (by omega)
  have c5 := k_append (h := appR (appR (appR (appR h x1 L 4) x2 (L + 4) 4) x3 (L + 4 + 4) 4) x4 (L + 4 + 4 + 4) 4) (v := x5) appR_len (by omega)
  generalize e1 : appR (appR (appR (appR (appR h x1 L 4) x2 (L + 4) 4) x3 (L + 4 + 4) 4) x4 (L + 4 + 4 + 4) 4) x5 (L + 4 + 4 + 4 + 4) 4 = h1 at c5
  have l1 : h1 1 1 = ((L + 4 + 4 + 4 + 4 + 4 : Nat) : Int) := by rw [← e1]; exact appR_len
  have f1 : ∀ p, p ≠ 1 ∧ p ≠ 2 → h1 p = h p := by intro p hp; rw [← e1, appR_ne hp, appR_ne hp, appR_ne hp, appR_ne hp, appR_ne hp]
  have f2 : ∀ k, k ≠ 1 → h1 1 k = h 1 k := by intro k hk; rw [← e1, appR_f hk, appR_f hk, appR_f hk, appR_f hk, appR_f hk]
  have hM : h1 100 1 = (L : Int) := by rw [f1 100 (by omega), ← t1, hL]
  have d1 := m_putFour (v := x1) hM (by omega)
  have d2 := m_putFour (h := putR h1 x1 L 4) (v := x2) putR_len (by omega)
  have d3 := m_putFour (h := putR (putR h1 x1 L 4) x2 (L + 4) 4) (v := x3) putR_len (by omega)
  have d4 := m_putFour (h := putR (putR (putR h1 x1 L 4) x2 (L + 4) 4) x3 (L + 4 + 4) 4) (v := x4) putR_len (by omega)
  have d5 := m_putFour (h := putR (putR (putR (putR h1 x1 L 4) x2 (L + 4) 4) x3 (L + 4 + 4) 4) x4 (L + 4 + 4 + 4) 4) (v := x5) putR_len (by omega)
  have tb0 : TB (h 2) (h1 101) := by rw [f1 101 (by omega)]; exact t3
  have tb := (((((tb0.four (v := x1) (L := L)).four (v := x2) (L := L + 4)).four (v := x3) (L := L + 4 + 4)).four (v := x4) (L := L + 4 + 4 + 4)).four (v := x5) (L := L + 4 + 4 + 4 + 4))
  rw [e1] at tb
  generalize e2 : putR (putR (putR (putR (putR h1 x1 L 4) x2 (L + 4) 4) x3 (L + 4 + 4) 4) x4 (L + 4 + 4 + 4) 4) x5 (L + 4 + 4 + 4 + 4) 4 = h2 at d5 tb
  have l2 : h2 100 1 = ((L + 4 + 4 + 4 + 4 + 4 : Nat) : Int) := by rw [← e2]; exact putR_len
  have g1 : ∀ p, p ≠ 100 ∧ p ≠ 101 → h2 p = h1 p := by intro p hp; rw [← e2, putR_ne hp, putR_ne hp, putR_ne hp, putR_ne hp, putR_ne hp]
  have g2 : ∀ k, k ≠ 1 → h2 100 k = h1 100 k := by intro k hk; rw [← e2, putR_f hk, putR_f hk, putR_f hk, putR_f hk, putR_f hk]
  refine ⟨h1 1 1, h1, h2, ?_, ?_, ?_⟩
  · rw [e_gF, e_cI, e_add _ _ _ (by omega), e_cI, b_pos (by omega), c1, e_cV, c2, e_cV, c3, e_cV, c4, e_cV, c5, e_cV, e_gF]
  · rw [e_gF, e_cI, e_add _ _ _ (by omega), e_cI, b_pos (by omega), d1, e_cV, d2, e_cV, d3, e_cV, d4, e_cV, d5, e_cV, e_gF, l2, l1]
  · refine r.tape ⟨?_, ?_, ?_⟩ ?_ ?_ ?_
    · rw [g1 1 (by omega), l1, l2]
    · rw [g1 1 (by omega), l1]; omega
    · rw [g1 2 (by omega)]; exact tb
    · intro p a1 a2 a3 a4
      rw [g1 p ⟨a3, a4⟩, f1 p ⟨a1, a2⟩]
    · intro k hk
      rw [g1 1 (by omega), f2 k hk]
    · intro k hk
      rw [g2 k hk, f1 100 (by omega)]
