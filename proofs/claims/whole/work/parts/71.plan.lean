/-! READING a plan: positions, cells, acts -/
def PP (L : Nat) (h : Hp) : Prop := h 1 1 = (L : Int) ∧ L ≤ 900 ∧ 0 ≤ h 1 2 ∧ h 1 2 ≤ (L : Int)
theorem PP.set {L p k : Nat} {h : Hp} {x : Int} (s : PP L h) (hp : p ≠ 1) : PP L (set2 h p k x) := by
  unfold PP at s ⊢
  rw [set2_ne 1 (by omega)]
  exact s
theorem cW_some {R : Type} {o : Option (Int × Hp)} {K : Int → Hp → Option R} {r : R} (h : cW o K = some r) : ∃ z g, o = some (z, g) ∧ K z g = some r := by
  cases o with
  | none => exact absurd h (by unfold cW; simp)
  | some q => exact ⟨q.1, q.2, rfl, h⟩
theorem k_adv_pos {L : Nat} {h : Hp} (s : PP L h) : ∃ h', g_X5_advance 1 h = some h' ∧ TC h h' ∧ h' 1 6 = h 1 6 ∧ h' 1 7 = h 1 7 ∧ PP L h' := by
  obtain ⟨s1, s2, s3, s4⟩ := s
  obtain ⟨p, hp⟩ := Int.eq_ofNat_of_zero_le s3
  obtain ⟨v, w1, w2⟩ := k_advance s1 s2 hp (by omega)
  obtain ⟨t1, -⟩ := tok_in (b := h 2) (L := L) (p := p) (by omega)
  refine ⟨_, w1, ⟨fun q hq => tokC_p hq, fun j hj => ?_, ?_⟩, rfl, rfl, s1, s2, ?_, ?_⟩
  · unfold tokC
    rw [if_pos rfl, if_neg (by omega), if_neg (by omega), if_neg (by omega), if_neg (by omega)]
  · rw [hp]; show (p : Int) ≤ (te (h 2) L p : Int); omega
  · show (0 : Int) ≤ (te (h 2) L p : Int); omega
  · show (te (h 2) L p : Int) ≤ (L : Int); omega
theorem k_refuse_pos {L : Nat} {h h' : Hp} {f : Int} (s : PP L h) (e : g_X5_refuse 1 f h = some h') : PP L h' := by
  rw [k_refuse] at e
  split at e
  · injection e with e
    subst e
    unfold PP at s ⊢
    rw [set2_nk _ _ _ _ _ _ (by omega), set2_nk _ _ _ _ _ _ (by omega), set2_nk _ _ _ _ _ _ (by omega), set2_nk _ _ _ _ _ _ (by omega)]
    exact s
  · injection e with e
    subst e
    exact s
theorem k_need_pos {L : Nat} {h h' : Hp} {l u z : Int} (s : PP L h) (e : g_X5_need 1 l u h = some (z, h')) : PP L h' := by
  unfold g_X5_need at e
  rw [k_isFaulty] at e
  by_cases f : h 1 6 = 0
  · obtain ⟨h1, w1, w2, w3, w4, w5⟩ := k_adv_pos s
    rw [if_pos f, e_cP, b_pos rfl, w1, e_cV, e_gF, e_cI] at e
    have rf : ∀ fl : Int, (cV (g_X5_refuse 1 fl h1) fun g => some (l, g)) = some (z, h') → PP L h' := by
      intro fl q
      rw [k_refuse, e_cV] at q
      injection q with q
      injection q with q1 q2
      rw [← q2]
      exact k_refuse_pos w5 (k_refuse h1 fl)
    by_cases y : h1 1 3 = 2
    · rw [b_pos y, e_gF, e_join] at e
      by_cases y1 : h1 1 5 < l
      · rw [b_pos y1, e_cI] at e
        exact rf 2 e
      · rw [b_neg y1, e_gF] at e
        by_cases y2 : h1 1 5 ≤ u
        · rw [b_pos y2, e_gF] at e
          injection e with e
          injection e with e1 e2
          rw [← e2]; exact w5
        · rw [b_neg y2, e_cI] at e
          exact rf 2 e
    · rw [b_neg y, e_cI] at e
      exact rf 1 e
  · rw [if_neg f, e_cP, b_neg (by decide)] at e
    injection e with e
    injection e with e1 e2
    rw [← e2]; exact s
theorem k_cell_pos {L c : Nat} {h h' : Hp} {z : Int} (s : PP L h) (e : g_X0_needCell c 1 h = some (z, h')) : PP L h' := by
  unfold g_X0_needCell at e
  have sb : ∀ (x y : Int) (K : Int → Option (Int × Hp)), subI x y K = K (wr (x - y)) := fun _ _ _ => rfl
  rw [e_cI, q_columns, e_cP, e_cI, sb] at e
  obtain ⟨z1, g1, a1, a2⟩ := cW_some e
  rw [e_cI, q_rows, e_cP, e_cI, sb] at a2
  obtain ⟨z2, g2, b1, b2⟩ := cW_some a2
  rw [q_columns, e_cP] at b2
  have : some (wr (wr (z2 * g2 (c + 1) 0) + z1), g2) = some (z, h') := b2
  injection this with this
  injection this with t1 t2
  rw [← t2]
  exact k_need_pos (k_need_pos s a1) b1
section PLAN
variable {b : Nat → Int} {L : Nat} {hc hm : Hp}
theorem SS.pp (x : TX b L hc hm) (s : SS b L hc hm) : PP L hc := by
  obtain ⟨q, e, k, v, ⟨c1, -⟩, -, ⟨r1, r2⟩, -⟩ := s
  exact ⟨x.2.2.1, x.2.2.2.2, by omega, by omega⟩
theorem AA.pp (x : TX b L hc hm) (s : AA b L hc hm) : PP L hc := by
  obtain ⟨p, c1, c2, -⟩ := s
  exact ⟨x.2.2.1, x.2.2.2.2, by omega, by omega⟩
/-- a cell of the shore -/
theorem y_cell2 {c : Nat} (hc3 : 3 ≤ c) (x : TX b L hc hm) (a : AA b L hc hm) (n : NF hc hm) (sh : (hc (c + 1) 0 = hm 100 10 ∧ hc (c + 1) 1 = hm 100 11) ∧ (1 ≤ hm 100 10 ∧ hm 100 10 ≤ 8) ∧ (1 ≤ hm 100 11 ∧ hm 100 11 ≤ 8)) :
    ∃ z hc', g_X0_needCell c 1 hc = some (z, hc') ∧ TC hc hc' ∧ (((0 ≤ z ∧ z < hm 100 10 * hm 100 11) ∧ ∃ hm2, g_X9_readCell hm = some (1, hm2) ∧ SS b L hc' hm2 ∧ NF hc' hm2 ∧ TM hm hm2 ∧ hm2 100 7 = z) ∨ ∃ hm2, g_X9_readCell hm = some (0, hm2) ∧ FF hc' hm2 ∧ TM hm hm2) := by
  obtain ⟨⟨sh1, sh2⟩, sc, sr⟩ := sh
  obtain ⟨z1, hc1, w1, w2, w3⟩ := y_number (l := 0) (u := hm 100 10 - 1) x a n
  unfold g_X0_needCell g_X9_readCell
  rw [e_cI, q_columns, e_cP, e_cI, sh1, e_sub _ _ _ (by omega), w1, e_cW, e_cI, q_rows, e_cP, e_cI, w2.1 (c + 1) (by omega), sh2, e_sub _ _ _ (by omega), e_cI, e_gF hm, e_cI, e_sub (hm 100 10) _ _ (by omega)]
  rcases w3 with ⟨y, hm1, v1, v2, v3, v4, v5⟩ | ⟨y, hm1, v1, v2, v3⟩
  rotate_left
  · rw [k_need_f v2.1, e_cW, q_columns, e_cP, e_mul _ _ _ (by rw [Int.zero_mul]; omega), Int.zero_mul, e_add _ _ _ (by omega), v1, e_cW]
    refine ⟨_, hc1, rfl, w2, Or.inr ⟨hm1, ?_, v2, v3⟩⟩
    refine join_gen (fun j9 hj9 => ?_)
    rw [b_pos rfl, hj9, e_cI, retZW_0]
  obtain ⟨z2, hc2, u1, u2, u3⟩ := y_need (l := 0) (u := hm 100 11 - 1) ((x.c w2).m v5) v2 v3
  have hz2 : 0 ≤ z2 ∧ z2 ≤ hm 100 11 - 1 := by
    rcases u3 with q | q
    · exact q.1
    · have := q.1
      omega
  have a1 : z2 * hm 100 10 ≤ (hm 100 11 - 1) * hm 100 10 := Int.mul_le_mul_of_nonneg_right hz2.2 (by omega)
  have a2 : (hm 100 11 - 1) * hm 100 10 = hm 100 10 * hm 100 11 - hm 100 10 := by rw [Int.sub_mul, Int.one_mul, Int.mul_comm]
  have a3 : 0 ≤ z2 * hm 100 10 := Int.mul_nonneg hz2.1 (by omega)
  have a4 : hm 100 10 * hm 100 11 ≤ 8 * 8 := Int.mul_le_mul sc.2 sr.2 (by omega) (by omega)
  have a5 : hm 100 10 * z2 = z2 * hm 100 10 := Int.mul_comm _ _
  have hk : ∀ (g : Hp), g (c + 1) 0 = hm 100 10 → (cP (g_X0_columns c g) fun z13 => mulI z2 z13 fun z14 => addI z14 z1 fun z15 => some (z15, g)) = some (z2 * hm 100 10 + z1, g) := by
    intro g hg
    rw [q_columns, e_cP, hg, e_mul _ _ _ (by omega), e_add _ _ _ (by omega)]
  rw [u1, e_cW, hk hc2 (by rw [u2.1 (c + 1) (by omega), w2.1 (c + 1) (by omega), sh1]), v1, e_cW]
  have ca : ∀ (r : Option (Int × Hp)), g_X9_peek 0 (hm 100 11 - 1) hm1 = r → g_X9_cellAt z1 (hm 100 10) (hm 100 11) hm1 = cW r fun z4 h5 => if z4 = 0 then cI 0 fun z11 => retZW z11 h5 else gF h5 100 7 fun z6 => mulI (hm 100 10) z6 fun z7 => addI z7 z1 fun z8 => pF h5 100 7 z8 fun h9 => cI 1 fun z10 => retZW z10 h9 := by
    intro r hr
    unfold g_X9_cellAt
    rw [e_cI, e_cI, e_sub _ _ _ (by omega), hr]
  rcases u3 with ⟨y2, p1, p2, p3⟩ | ⟨y2, hm2, p1, p2, p3⟩
  · refine ⟨_, hc2, rfl, w2.tr u2, Or.inl ⟨by omega, set2 (set2 hm1 100 7 z2) 100 7 (z2 * hm 100 10 + z1), ?_, p1.outM (by omega), p2.outM (by omega), (v5.tr (TM.set (by omega))).tr (TM.set (by omega)), set2_same _ _ _ _⟩⟩
    refine join_gen (fun j9 hj9 => ?_)
    rw [b_neg (by decide), e_gF, v4, e_gF, v5.2 10 (by omega), e_gF, v5.2 11 (by omega), ca _ p3, e_cW, b_neg (by decide), e_gF, set2_same, e_mul _ _ _ (by omega), e_add _ _ _ (by omega), e_pF, e_cI, retZW_1, e_cW, b_neg (by decide), e_cI, retZW_1, a5]
  · refine ⟨_, hc2, rfl, w2.tr u2, Or.inr ⟨hm2, ?_, p2, v5.tr p3⟩⟩
    refine join_gen (fun j9 hj9 => ?_)
    rw [b_neg (by decide), e_gF, v4, e_gF, v5.2 10 (by omega), e_gF, v5.2 11 (by omega), ca _ p1, e_cW, b_pos rfl, e_cI, retZW_0, e_cW, b_pos rfl, hj9, e_cI, retZW_0]
theorem strC_ne3 : ∀ i : Fin 5, ∀ j : Fin 5, i ≠ j → strC (17 + i.val) ≠ strC (17 + j.val) := by decide +kernel
theorem strC_m3 : strC 38 = strC 16 ∧ strC 39 = strC 17 ∧ strC 27 = strC 18 ∧ strC 40 = strC 19 ∧ strC 41 = strC 20 ∧ strC 42 = strC 21 := by decide +kernel
/-- which act a word names -/
theorem y_kind (x : TX b L hc hm) (s : SS b L hc hm) : ∃ k : Int, g_X1_kindOf 1 hc = some k ∧ g_X9_actAt hm = some k ∧ (k = -1 ∨ ((0 ≤ k ∧ k ≤ 4) ∧ hc 1 3 = 1)) := by
  have key : ∃ j : Nat, (j ≤ 5 ∧ (j < 5 → hc 1 3 = 1)) ∧ ∀ i : Nat, i < 5 → g_X5_isWord 1 (strC (17 + i)) hc = some (if i = j then 1 else 0) ∧ g_X9_is (strC (17 + i)) hm = some (if i = j then 1 else 0) := by
    by_cases e : ∃ j : Nat, j < 5 ∧ wd b (strC (17 + j)) hc
    · obtain ⟨j, hj, w⟩ := e
      refine ⟨j, ⟨by omega, fun _ => w.1⟩, fun i hi => ?_⟩
      rcases y_word (w := strC (17 + i)) x s (strC_len8 ⟨17 + i, by omega⟩) with ⟨a, k, m⟩ | ⟨a, k, m⟩
      · have : i = j := by
          by_cases q : i = j
          · exact q
          · exact absurd (wd_one a w) (strC_ne3 ⟨i, hi⟩ ⟨j, hj⟩ (fun y => q (congrArg Fin.val y)))
        rw [if_pos this]; exact ⟨k, m⟩
      · have : i ≠ j := fun y => a (by rw [y]; exact w)
        rw [if_neg this]; exact ⟨k, m⟩
    · refine ⟨5, ⟨by omega, fun h => absurd h (by omega)⟩, fun i hi => ?_⟩
      rw [if_neg (by omega)]
      rcases y_word (w := strC (17 + i)) x s (strC_len8 ⟨17 + i, by omega⟩) with ⟨a, k, m⟩ | ⟨a, k, m⟩
      · exact absurd ⟨i, hi, a⟩ e
      · exact ⟨k, m⟩
  obtain ⟨j, ⟨hj, hw⟩, W⟩ := key
  obtain ⟨-, s1, s2, s3, s4, s5⟩ := strC_m3
  have W0 := W 0 (by omega)
  have W1 := W 1 (by omega)
  have W2 := W 2 (by omega)
  have W3 := W 3 (by omega)
  have W4 := W 4 (by omega)
  rw [show 17 + 0 = 17 from rfl] at W0
  rw [show 17 + 1 = 18 from rfl] at W1
  rw [show 17 + 2 = 19 from rfl] at W2
  rw [show 17 + 3 = 20 from rfl] at W3
  rw [show 17 + 4 = 21 from rfl] at W4
  refine ⟨if j < 5 then (j : Int) else -1, ?_, ?_, ?_⟩
  · unfold g_X1_kindOf
    rw [W0.1, W1.1, W2.1, W3.1, W4.1]
    rcases (by omega : j = 0 ∨ j = 1 ∨ j = 2 ∨ j = 3 ∨ j = 4 ∨ j = 5) with rfl | rfl | rfl | rfl | rfl | rfl <;> rfl
  · unfold g_X9_actAt
    rw [s1, s2, s3, s4, s5, W0.2, W1.2, W2.2, W3.2, W4.2]
    rcases (by omega : j = 0 ∨ j = 1 ∨ j = 2 ∨ j = 3 ∨ j = 4 ∨ j = 5) with rfl | rfl | rfl | rfl | rfl | rfl <;> rfl
  · by_cases y : j < 5
    · rw [if_pos y]; exact Or.inr ⟨by omega, hw y⟩
    · rw [if_neg y]; exact Or.inl rfl
end PLAN
def CP (q : Nat) (hc hc' : Hp) : Prop := (∀ r, r ≠ 1 → (r < q ∨ q + 4 < r) → hc' r = hc r) ∧ (∀ j, j < 2 → hc' 1 j = hc 1 j)
theorem CP.tr {q : Nat} {a b c : Hp} (x : CP q a b) (y : CP q b c) : CP q a c := ⟨fun p hp hq => (y.1 p hp hq).trans (x.1 p hp hq), fun j hj => (y.2 j hj).trans (x.2 j hj)⟩
theorem CP.rf {q : Nat} {a : Hp} : CP q a a := ⟨fun _ _ _ => rfl, fun _ _ => rfl⟩
theorem TC.cp {q : Nat} {a b : Hp} (x : TC a b) : CP q a b := ⟨fun p hp _ => x.1 p hp, fun j hj => x.2.1 j (by omega)⟩
/-- what moves in the class while hand H takes its act A -/
def HF (q H A : Nat) (hc hc' : Hp) : Prop := CP q hc hc' ∧ hc' q = hc q ∧ (∀ j, j ≠ H → hc' (q + 1) j = hc (q + 1) j) ∧ (∀ j, j < 8 * H + A → hc' (q + 2) j = hc (q + 2) j ∧ hc' (q + 3) j = hc (q + 3) j ∧ hc' (q + 4) j = hc (q + 4) j)
theorem HF.rf {q H A : Nat} {a : Hp} : HF q H A a a := ⟨CP.rf, rfl, fun _ _ => rfl, fun _ _ => ⟨rfl, rfl, rfl⟩⟩
theorem HF.tr {q H A A' : Nat} {a b c : Hp} (x : HF q H A a b) (y : HF q H A' b c) (hA : A ≤ A') : HF q H A a c :=
  ⟨x.1.tr y.1, y.2.1.trans x.2.1, fun j hj => (y.2.2.1 j hj).trans (x.2.2.1 j hj), fun j hj => by
    have u := x.2.2.2 j hj
    have v := y.2.2.2 j (by omega)
    exact ⟨v.1.trans u.1, v.2.1.trans u.2.1, v.2.2.trans u.2.2⟩⟩
theorem TC.hf {q H A : Nat} {a b : Hp} (x : TC a b) (hq : 2 ≤ q) : HF q H A a b := ⟨x.cp, x.1 q (by omega), fun _ _ => by rw [x.1 (q + 1) (by omega)], fun _ _ => by rw [x.1 (q + 2) (by omega), x.1 (q + 3) (by omega), x.1 (q + 4) (by omega)]; exact ⟨rfl, rfl, rfl⟩⟩
theorem HF.set {q H A r k : Nat} {a : Hp} {x : Int} (hq : 2 ≤ q) (h : (r = q + 1 ∧ k = H) ∨ ((r = q + 2 ∨ r = q + 3 ∨ r = q + 4) ∧ 8 * H + A ≤ k)) : HF q H A a (set2 a r k x) := by
  refine ⟨⟨fun p _ hp => set2_ne p (by omega), fun j _ => set2_np _ _ _ _ _ _ (by omega)⟩, set2_ne q (by omega), fun j hj => ?_, fun j hj => ⟨?_, ?_, ?_⟩⟩
  · unfold set2; rw [if_neg (by omega)]
  · unfold set2; rw [if_neg (by omega)]
  · unfold set2; rw [if_neg (by omega)]
  · unfold set2; rw [if_neg (by omega)]
/-- what moves in the model, from index X of its acts on -/
def HM (X : Nat) (hm hm' : Hp) : Prop := (∀ r, r ≠ 100 → r ≠ 120 → hm' r = hm r) ∧ (∀ j, j < 3 ∨ 9 < j → hm' 100 j = hm 100 j) ∧ (∀ j, j < X → hm' 120 j = hm 120 j)
theorem HM.rf {X : Nat} {a : Hp} : HM X a a := ⟨fun _ _ _ => rfl, fun _ _ => rfl, fun _ _ => rfl⟩
theorem HM.tr {X : Nat} {a b c : Hp} (x : HM X a b) (y : HM X b c) : HM X a c := ⟨fun r h1 h2 => (y.1 r h1 h2).trans (x.1 r h1 h2), fun j hj => (y.2.1 j hj).trans (x.2.1 j hj), fun j hj => (y.2.2 j hj).trans (x.2.2 j hj)⟩
theorem TM.hm {X : Nat} {a b : Hp} (x : TM a b) : HM X a b := ⟨fun r h1 _ => x.1 r h1, fun j hj => x.2 j hj, fun _ _ => by rw [x.1 120 (by omega)]⟩
theorem HM.set {X k : Nat} {a : Hp} {x : Int} (h : X ≤ k) : HM X a (set2 a 120 k x) := ⟨fun r _ h2 => set2_ne r h2, fun j _ => set2_np _ _ _ _ _ _ (by omega), fun j hj => set2_nk _ _ _ _ _ _ (by omega)⟩
theorem TX.h {b : Nat → Int} {L q H A X : Nat} {hc hm hc' hm' : Hp} (x : TX b L hc hm) (hq : 3 ≤ q) (c : HF q H A hc hc') (m : HM X hm hm') : TX b L hc' hm' :=
  x.mv ⟨c.1.1 2 (by omega) (by omega), c.1.2 1 (by omega)⟩ ⟨m.1 101 (by omega) (by omega), m.2.1 2 (by omega)⟩
def AB (a0 a1 a2 N : Int) : Prop := (0 ≤ a0 ∧ a0 ≤ 4) ∧ (a0 ≤ 3 → 0 ≤ a1 ∧ a1 < N) ∧ (a0 = 4 → a1 = -1) ∧ (a0 = 0 → 0 ≤ a2 ∧ a2 < N ∧ a2 ≠ a1) ∧ (a0 ≠ 0 → a2 = -1)
section ACT
variable {b : Nat → Int} {L : Nat} {hc hm : Hp}
/-- an act -/
theorem y_act {q c H A X : Nat} {k : Int} (hq : 15 ≤ q) (hc3 : 3 ≤ c ∧ c ≤ 9) (hH : H < 4) (hA : A < 8) (hX : X + 2 < 288) (x : TX b L hc hm) (s : SS b L hc hm) (n : NF hc hm) (hk : g_X1_kindOf 1 hc = some k) (k04 : 0 ≤ k ∧ k ≤ 4)
    (sh : (hc (c + 1) 0 = hm 100 10 ∧ hc (c + 1) 1 = hm 100 11) ∧ (1 ≤ hm 100 10 ∧ hm 100 10 ≤ 8) ∧ (1 ≤ hm 100 11 ∧ hm 100 11 ≤ 8)) (e4 : hc q 4 = (H : Int)) (e1 : hc (q + 1) H = (A : Int)) :
    ∃ hc', g_X1_readAct q 1 c hc = some hc' ∧ HF q H A hc hc' ∧ PP L hc' ∧ hc 1 2 ≤ hc' 1 2 ∧
      ((∃ hm', g_X9_readAct (X : Int) k hm = some (1, hm') ∧ AA b L hc' hm' ∧ NF hc' hm' ∧ HM X hm hm' ∧ hc' (q + 1) H = ((A + 1 : Nat) : Int) ∧
        (hc' (q + 2) (8 * H + A) = hm' 120 X ∧ hc' (q + 3) (8 * H + A) = hm' 120 (X + 1) ∧ hc' (q + 4) (8 * H + A) = hm' 120 (X + 2)) ∧ AB (hm' 120 X) (hm' 120 (X + 1)) (hm' 120 (X + 2)) (hm 100 10 * hm 100 11)) ∨
       ∃ hm', g_X9_readAct (X : Int) k hm = some (0, hm') ∧ FF hc' hm' ∧ HM X hm hm') := by
  obtain ⟨hmA, t1, t2, t3, t4⟩ := y_scan x s
  have nA : NF hc hmA := n.m t4
  unfold g_X1_readAct g_X9_readAct
  rw [hk, e_cP, e_cI (-1), b_neg (show ¬ k = -1 by omega), e_gF hc, e4, e_rdn hc _ _ _ _ (by omega), e1, e_cI 8 (R := Hp), b_pos (by omega), e_gF hc, e4, e_cI 8 (R := Hp), e_mul (H : Int) _ _ (by omega), e_gF hc, e4, e_rdn hc _ _ _ _ (by omega), e1, e_add ((H : Int) * 8) _ _ (by omega), show (H : Int) * 8 + (A : Int) = ((8 * H + A : Nat) : Int) by omega, e_wrn hc _ _ _ _ _ (by omega), e_cI 4 (R := Hp), t1, e_cV, e_wrn hmA _ _ _ _ _ (by omega), e_cI 1 (R := Int × Hp), e_add (X : Int) 1 _ (by omega), e_cI (-1) (R := Int × Hp), show (X : Int) + 1 = ((X + 1 : Nat) : Int) by omega, e_wrn _ _ _ (X + 1) _ _ (by omega), e_cI 2 (R := Int × Hp), e_add (X : Int) 2 _ (by omega), e_cI (-1) (R := Int × Hp), show (X : Int) + 2 = ((X + 2 : Nat) : Int) by omega, e_wrn _ _ _ (X + 2) _ _ (by omega), e_cI 3 (R := Int × Hp)]
  -- the class, from its cells on
  have c25 : ∀ (g : Hp) (j : Hp → Option Hp), (∀ a, j a = (gF a q 4 fun z27 => rdI a (q + 1) 4 z27 fun z28 => cI 1 fun z29 => addI z28 z29 fun z30 => wrI a (q + 1) 4 z27 z30 fun h31 => some h31)) → g q 4 = (H : Int) → g (q + 1) H = (A : Int) → j g = some (set2 g (q + 1) H ((A + 1 : Nat) : Int)) := by
    intro g j hj g1 g2
    rw [hj, e_gF, g1, e_rdn _ _ _ _ _ (by omega), g2, e_cI, e_add _ _ _ (by omega), e_wrn _ _ _ _ _ _ (by omega), show (A : Int) + 1 = ((A + 1 : Nat) : Int) by omega]
  -- the model's place
  have v0 : set2 (set2 (set2 hmA 120 X k) 120 (X + 1) (-1)) 120 (X + 2) (-1) 120 X = k := by rw [set2_nk _ _ _ _ _ _ (by omega), set2_nk _ _ _ _ _ _ (by omega), set2_same]
  have v1 : set2 (set2 (set2 hmA 120 X k) 120 (X + 1) (-1)) 120 (X + 2) (-1) 120 (X + 1) = -1 := by rw [set2_nk _ _ _ _ _ _ (by omega), set2_same]
  have v2 : set2 (set2 (set2 hmA 120 X k) 120 (X + 1) (-1)) 120 (X + 2) (-1) 120 (X + 2) = -1 := set2_same _ _ _ _
  have fm : HM X hm (set2 (set2 (set2 hmA 120 X k) 120 (X + 1) (-1)) 120 (X + 2) (-1)) := ((t3.hm.tr (HM.set (by omega))).tr (HM.set (by omega))).tr (HM.set (by omega))
  have aM : ∀ y : Int, AA b L (set2 hc (q + 2) (8 * H + A) y) (set2 (set2 (set2 hmA 120 X k) 120 (X + 1) (-1)) 120 (X + 2) (-1)) := fun y => (((t2.outC (by omega)).outM (by omega)).outM (by omega)).outM (by omega)
  have nM : ∀ y : Int, NF (set2 hc (q + 2) (8 * H + A) y) (set2 (set2 (set2 hmA 120 X k) 120 (X + 1) (-1)) 120 (X + 2) (-1)) := fun y => (((nA.outC (by omega)).outM (by omega)).outM (by omega)).outM (by omega)
  have s10 : ∀ j, 9 < j → set2 (set2 (set2 hmA 120 X k) 120 (X + 1) (-1)) 120 (X + 2) (-1) 100 j = hm 100 j := fun j hj => fm.2.1 j (by omega)
  generalize set2 (set2 (set2 hmA 120 X k) 120 (X + 1) (-1)) 120 (X + 2) (-1) = m0 at *
  have fc : HF q H A hc (set2 hc (q + 2) (8 * H + A) k) := HF.set (by omega) (by omega)
  have g2v : set2 hc (q + 2) (8 * H + A) k (q + 2) (8 * H + A) = k := set2_same _ _ _ _
  have g4 : set2 hc (q + 2) (8 * H + A) k q 4 = (H : Int) := by rw [set2_np _ _ _ _ _ _ (by omega)]; exact e4
  have g1 : set2 hc (q + 2) (8 * H + A) k (q + 1) H = (A : Int) := by rw [set2_np _ _ _ _ _ _ (by omega)]; exact e1
  have gsh : ∀ j, set2 hc (q + 2) (8 * H + A) k (c + 1) j = hc (c + 1) j := fun j => set2_np _ _ _ _ _ _ (by omega)
  have g12 : set2 hc (q + 2) (8 * H + A) k 1 = hc 1 := set2_ne 1 (by omega)
  have aM := aM k
  have nM := nM k
  have ppc : PP L (set2 hc (q + 2) (8 * H + A) k) := (SS.pp x s).set (by omega)
  have xM : TX b L (set2 hc (q + 2) (8 * H + A) k) m0 := x.h (by omega) fc fm
  generalize set2 hc (q + 2) (8 * H + A) k = c0 at *
  -- the last steps of the class
  have last : ∀ (j20 : Int × Hp → Option Hp), (∀ a19 : Int × Hp, j20 a19 = (wrI a19.2 (q + 4) 32 ((8 * H + A : Nat) : Int) a19.1 fun h23 => joinF (fun (a24 : Hp) => gF a24 q 4 fun z27 => rdI a24 (q + 1) 4 z27 fun z28 => cI 1 fun z29 => addI z28 z29 fun z30 => wrI a24 (q + 1) 4 z27 z30 fun h31 => some h31) fun j25 => if k = 0 then rdI h23 (q + 4) 32 ((8 * H + A : Nat) : Int) fun z32 => rdI h23 (q + 3) 32 ((8 * H + A : Nat) : Int) fun z33 => if z32 = z33 then cI 3 fun z34 => cV (g_X5_refuse 1 z34 h23) fun h35 => j25 h35 else j25 h23 else j25 h23)) →
      ∀ (t : Int) (g : Hp), g q 4 = (H : Int) → g (q + 1) H = (A : Int) → (k ≠ 0 ∨ t ≠ g (q + 3) (8 * H + A) ∨ g 1 6 ≠ 0) → j20 (t, g) = some (set2 (set2 g (q + 4) (8 * H + A) t) (q + 1) H ((A + 1 : Nat) : Int)) := by
    intro j20 hj20 t g a1 a2 a3
    rw [hj20]
    dsimp only
    rw [e_wrn _ _ _ _ _ _ (by omega)]
    refine join_gen (fun j25 hj25 => ?_)
    have fin := c25 (set2 g (q + 4) (8 * H + A) t) j25 hj25 (by rw [set2_np _ _ _ _ _ _ (by omega)]; exact a1) (by rw [set2_np _ _ _ _ _ _ (by omega)]; exact a2)
    by_cases y : k = 0
    · rw [b_pos y, e_rdn _ _ _ _ _ (by omega), e_rdn _ _ _ _ _ (by omega), set2_same, set2_np _ _ _ _ _ _ (by omega)]
      by_cases y2 : t = g (q + 3) (8 * H + A)
      · rw [b_pos y2, e_cI, k_refuse, if_neg (by rw [set2_np _ _ _ _ _ _ (by omega)]; omega), e_cV, fin]
      · rw [b_neg y2, fin]
    · rw [b_neg y, fin]
  have ff2 : ∀ {g : Hp} {m : Hp} {t : Int}, FF g m → FF (set2 (set2 g (q + 4) (8 * H + A) t) (q + 1) H ((A + 1 : Nat) : Int)) m := fun f => (f.outC (by omega)).outC (by omega)
  have hf2 : ∀ {g : Hp} {t : Int}, HF q H A g (set2 (set2 g (q + 4) (8 * H + A) t) (q + 1) H ((A + 1 : Nat) : Int)) := fun {g t} => (HF.set (by omega) (Or.inr ⟨by omega, by omega⟩)).tr (HF.set (A := A) (by omega) (Or.inl ⟨rfl, rfl⟩)) (by omega)
  have pp2 : ∀ {g : Hp} {t : Int}, PP L g → PP L (set2 (set2 g (q + 4) (8 * H + A) t) (q + 1) H ((A + 1 : Nat) : Int)) := fun p => (p.set (by omega)).set (by omega)
  have at2 : ∀ {g : Hp} {t : Int}, set2 (set2 g (q + 4) (8 * H + A) t) (q + 1) H ((A + 1 : Nat) : Int) 1 2 = g 1 2 := fun {g t} => by rw [set2_np _ _ _ _ _ _ (by omega), set2_np _ _ _ _ _ _ (by omega)]
  have wA : ∀ {g : Hp} {t : Int}, set2 (set2 g (q + 4) (8 * H + A) t) (q + 1) H ((A + 1 : Nat) : Int) (q + 1) H = ((A + 1 : Nat) : Int) := set2_same _ _ _ _
  have w2 : ∀ {g : Hp} {t : Int} {j : Nat}, set2 (set2 g (q + 4) (8 * H + A) t) (q + 1) H ((A + 1 : Nat) : Int) (q + 2) j = g (q + 2) j := fun {g t j} => by rw [set2_np _ _ _ _ _ _ (by omega), set2_np _ _ _ _ _ _ (by omega)]
  have w3 : ∀ {g : Hp} {t : Int} {j : Nat}, set2 (set2 g (q + 4) (8 * H + A) t) (q + 1) H ((A + 1 : Nat) : Int) (q + 3) j = g (q + 3) j := fun {g t j} => by rw [set2_np _ _ _ _ _ _ (by omega), set2_np _ _ _ _ _ _ (by omega)]
  have w4 : ∀ {g : Hp} {t : Int}, set2 (set2 g (q + 4) (8 * H + A) t) (q + 1) H ((A + 1 : Nat) : Int) (q + 4) (8 * H + A) = t := fun {g t} => by rw [set2_np _ _ _ _ _ _ (by omega), set2_same]
  have ptop : hc 1 2 ≤ c0 1 2 := by rw [g12]; exact Int.le_refl _
  by_cases k4 : k = 4
  · rw [b_neg (show ¬ k ≤ 3 by omega), e_cI, retZW_1]
    refine ⟨set2 (set2 (set2 c0 (q + 3) (8 * H + A) (-1)) (q + 4) (8 * H + A) (-1)) (q + 1) H ((A + 1 : Nat) : Int), ?_, (fc.tr (HF.set (A := A) (by omega) (Or.inr ⟨by omega, by omega⟩)) (by omega)).tr hf2 (by omega), pp2 (ppc.set (by omega)), ?_, Or.inl ⟨m0, rfl, ((aM.outC (by omega)).outC (by omega)).outC (by omega), ((nM.outC (by omega)).outC (by omega)).outC (by omega), fm, wA, ⟨?_, ?_, ?_⟩, ?_⟩⟩
    · refine join_gen (fun j15 hj15 => ?_)
      rw [b_pos k4, e_cI, hj15]
      dsimp only
      rw [e_wrn _ _ _ _ _ _ (by omega)]
      refine join_gen (fun j20 hj20 => ?_)
      rw [b_neg (by omega), e_cI]
      exact last j20 hj20 _ _ (by rw [set2_np _ _ _ _ _ _ (by omega)]; exact g4) (by rw [set2_np _ _ _ _ _ _ (by omega)]; exact g1) (Or.inl (by omega))
    · rw [at2, set2_np _ _ _ _ _ _ (by omega)]; exact ptop
    · rw [w2, set2_np _ _ _ _ _ _ (by omega), g2v, v0]
    · rw [w3, set2_same, v1]
    · rw [w4, v2]
    · rw [v0, v1, v2]
      exact ⟨k04, fun y => absurd y (by omega), fun _ => rfl, fun y => absurd y (by omega), fun _ => rfl⟩
  obtain ⟨z1, c1, p1, p2, p3⟩ := y_cell2 hc3.1 xM aM nM (by rw [gsh, gsh, s10 10 (by omega), s10 11 (by omega)]; exact sh)
  have pp1 := k_cell_pos ppc p1
  have fc1 : HF q H A hc (set2 c1 (q + 3) (8 * H + A) z1) := (fc.tr (p2.hf (A := A) (by omega)) (by omega)).tr (HF.set (A := A) (by omega) (Or.inr ⟨by omega, by omega⟩)) (by omega)
  have i4 : set2 c1 (q + 3) (8 * H + A) z1 q 4 = (H : Int) := by rw [set2_np _ _ _ _ _ _ (by omega), p2.1 q (by omega)]; exact g4
  have i1 : set2 c1 (q + 3) (8 * H + A) z1 (q + 1) H = (A : Int) := by rw [set2_np _ _ _ _ _ _ (by omega), p2.1 (q + 1) (by omega)]; exact g1
  have i2 : set2 c1 (q + 3) (8 * H + A) z1 (q + 2) (8 * H + A) = k := by rw [set2_np _ _ _ _ _ _ (by omega), p2.1 (q + 2) (by omega)]; exact g2v
  have i3 : set2 c1 (q + 3) (8 * H + A) z1 (q + 3) (8 * H + A) = z1 := set2_same _ _ _ _
  have ipp : PP L (set2 c1 (q + 3) (8 * H + A) z1) := pp1.set (by omega)
  have iat : hc 1 2 ≤ set2 c1 (q + 3) (8 * H + A) z1 1 2 := by rw [set2_np _ _ _ _ _ _ (by omega)]; exact Int.le_trans ptop p2.2.2
  have ish : ∀ j, set2 c1 (q + 3) (8 * H + A) z1 (c + 1) j = hc (c + 1) j := fun j => by rw [set2_np _ _ _ _ _ _ (by omega), p2.1 (c + 1) (by omega), gsh]
  -- the class, once its first cell is read
  have cls : ∀ (o : Option Hp), (∀ (j20 : Int × Hp → Option Hp), (∀ a19 : Int × Hp, j20 a19 = (wrI a19.2 (q + 4) 32 ((8 * H + A : Nat) : Int) a19.1 fun h23 => joinF (fun (a24 : Hp) => gF a24 q 4 fun z27 => rdI a24 (q + 1) 4 z27 fun z28 => cI 1 fun z29 => addI z28 z29 fun z30 => wrI a24 (q + 1) 4 z27 z30 fun h31 => some h31) fun j25 => if k = 0 then rdI h23 (q + 4) 32 ((8 * H + A : Nat) : Int) fun z32 => rdI h23 (q + 3) 32 ((8 * H + A : Nat) : Int) fun z33 => if z32 = z33 then cI 3 fun z34 => cV (g_X5_refuse 1 z34 h23) fun h35 => j25 h35 else j25 h23 else j25 h23)) →
        (if k = 0 then cW (g_X0_needCell c 1 (set2 c1 (q + 3) (8 * H + A) z1)) fun z37 h38 => j20 (z37, h38) else j20 (-1, set2 c1 (q + 3) (8 * H + A) z1)) = o) →
      (joinF (fun (a14 : Int × Hp) => wrI a14.2 (q + 3) 32 ((8 * H + A : Nat) : Int) a14.1 fun h18 => joinF (fun (a19 : Int × Hp) => wrI a19.2 (q + 4) 32 ((8 * H + A : Nat) : Int) a19.1 fun h23 => joinF (fun (a24 : Hp) => gF a24 q 4 fun z27 => rdI a24 (q + 1) 4 z27 fun z28 => cI 1 fun z29 => addI z28 z29 fun z30 => wrI a24 (q + 1) 4 z27 z30 fun h31 => some h31) fun j25 => if k = 0 then rdI h23 (q + 4) 32 ((8 * H + A : Nat) : Int) fun z32 => rdI h23 (q + 3) 32 ((8 * H + A : Nat) : Int) fun z33 => if z32 = z33 then cI 3 fun z34 => cV (g_X5_refuse 1 z34 h23) fun h35 => j25 h35 else j25 h23 else j25 h23) fun j20 => if k = 0 then cW (g_X0_needCell c 1 h18) fun z37 h38 => j20 (z37, h38) else cI (-1) fun z36 => j20 (z36, h18)) fun j15 => if k = 4 then cI (-1) fun z41 => j15 (z41, c0) else cW (g_X0_needCell c 1 c0) fun z39 h40 => j15 (z39, h40)) = o := by
    intro o ho
    refine join_gen (fun j15 hj15 => ?_)
    rw [b_neg k4, p1, e_cW, hj15]
    dsimp only
    rw [e_wrn _ _ _ _ _ _ (by omega)]
    refine join_gen (fun j20 hj20 => ?_)
    rw [← ho j20 hj20]
    by_cases y : k = 0
    · rw [b_pos y, b_pos y]
    · rw [b_neg y, b_neg y, e_cI]
  rw [b_pos (show k ≤ 3 by omega)]
  rcases p3 with ⟨zb, m2, r1, r2, r3, r4, r5⟩ | ⟨m2, r1, r2, r3⟩
  rotate_left
  · -- no cell
    rw [r1, e_cW, b_pos rfl, e_cI, retZW_0]
    have f1 : set2 c1 (q + 3) (8 * H + A) z1 1 6 ≠ 0 := by rw [set2_np _ _ _ _ _ _ (by omega)]; exact r2.1
    have f2 : FF (set2 c1 (q + 3) (8 * H + A) z1) m2 := r2.outC (by omega)
    by_cases y : k = 0
    · exact ⟨set2 (set2 (set2 c1 (q + 3) (8 * H + A) z1) (q + 4) (8 * H + A) 0) (q + 1) H ((A + 1 : Nat) : Int), cls _ (fun j20 hj20 => by rw [b_pos y, k_cell_f f1, e_cW, last j20 hj20 _ _ i4 i1 (Or.inr (Or.inr f1))]), fc1.tr hf2 (by omega), pp2 ipp, by rw [at2]; exact iat, Or.inr ⟨m2, rfl, ff2 f2, fm.tr r3.hm⟩⟩
    · exact ⟨set2 (set2 (set2 c1 (q + 3) (8 * H + A) z1) (q + 4) (8 * H + A) (-1)) (q + 1) H ((A + 1 : Nat) : Int), cls _ (fun j20 hj20 => by rw [b_neg y, last j20 hj20 _ _ i4 i1 (Or.inl y)]), fc1.tr hf2 (by omega), pp2 ipp, by rw [at2]; exact iat, Or.inr ⟨m2, rfl, ff2 f2, fm.tr r3.hm⟩⟩
  -- the first cell
  have ss2 : SS b L (set2 c1 (q + 3) (8 * H + A) z1) (set2 m2 120 (X + 1) z1) := (r2.outC (by omega)).outM (by omega)
  have n2 : NF (set2 c1 (q + 3) (8 * H + A) z1) (set2 m2 120 (X + 1) z1) := (r3.outC (by omega)).outM (by omega)
  have fm2 : HM X hm (set2 m2 120 (X + 1) z1) := (fm.tr r4.hm).tr (HM.set (by omega))
  have x2 : TX b L (set2 c1 (q + 3) (8 * H + A) z1) (set2 m2 120 (X + 1) z1) := x.h (by omega) fc1 fm2
  have u0 : set2 m2 120 (X + 1) z1 120 X = k := by rw [set2_nk _ _ _ _ _ _ (by omega), r4.1 120 (by omega), v0]
  have u1 : set2 m2 120 (X + 1) z1 120 (X + 1) = z1 := set2_same _ _ _ _
  have u2 : set2 m2 120 (X + 1) z1 120 (X + 2) = -1 := by rw [set2_nk _ _ _ _ _ _ (by omega), r4.1 120 (by omega), v2]
  rw [s10 10 (by omega), s10 11 (by omega)] at zb
  rw [r1, e_cW, b_neg (by decide), e_cI 1, e_add (X : Int) 1 _ (by omega), show (X : Int) + 1 = ((X + 1 : Nat) : Int) by omega, e_gF m2, r5, e_wrn m2 _ _ _ _ _ (by omega)]
  generalize set2 c1 (q + 3) (8 * H + A) z1 = c2 at *
  generalize set2 m2 120 (X + 1) z1 = m3 at *
  obtain ⟨m4, o1, o2, o3, o4⟩ := y_scan x2 ss2
  rw [o1, e_cV]
  have n4 : NF c2 m4 := n2.m o4
  have o120 : ∀ j, m4 120 j = m3 120 j := fun j => by rw [o3.1 120 (by omega)]
  by_cases y : k = 0
  rotate_left
  · rw [b_neg y, e_cI, retZW_1]
    refine ⟨set2 (set2 c2 (q + 4) (8 * H + A) (-1)) (q + 1) H ((A + 1 : Nat) : Int), cls _ (fun j20 hj20 => by rw [b_neg y, last j20 hj20 _ _ i4 i1 (Or.inl y)]), fc1.tr hf2 (by omega), pp2 ipp, by rw [at2]; exact iat, Or.inl ⟨m4, rfl, (o2.outC (by omega)).outC (by omega), (n4.outC (by omega)).outC (by omega), fm2.tr o3.hm, wA, ⟨?_, ?_, ?_⟩, ?_⟩⟩
    · rw [w2, i2, o120, u0]
    · rw [w3, i3, o120, u1]
    · rw [w4, o120, u2]
    · rw [o120, o120, o120, u0, u1, u2]
      exact ⟨k04, fun _ => zb, fun q => absurd q k4, fun q => absurd q y, fun _ => rfl⟩
  have m10 : ∀ j, 9 < j → m4 100 j = hm 100 j := fun j hj => by rw [o3.2 j (by omega), fm2.2.1 j (by omega)]
  obtain ⟨z2, c3, a1, a2, a3⟩ := y_cell2 hc3.1 (x2.m o3) o2 n4 (by rw [ish, ish, m10 10 (by omega), m10 11 (by omega)]; exact sh)
  have pp3 := k_cell_pos ipp a1
  have l4 : c3 q 4 = (H : Int) := by rw [a2.1 q (by omega)]; exact i4
  have l1 : c3 (q + 1) H = (A : Int) := by rw [a2.1 (q + 1) (by omega)]; exact i1
  have l3 : c3 (q + 3) (8 * H + A) = z1 := by rw [a2.1 (q + 3) (by omega)]; exact i3
  have l2 : c3 (q + 2) (8 * H + A) = k := by rw [a2.1 (q + 2) (by omega)]; exact i2
  have fc3 : HF q H A hc c3 := fc1.tr (a2.hf (A := A) (by omega)) (by omega)
  have cat3 : hc 1 2 ≤ c3 1 2 := Int.le_trans iat a2.2.2
  rw [b_pos y]
  rcases a3 with ⟨zb2, m5, d1, d2, d3, d4, d5⟩ | ⟨m5, d1, d2, d3⟩
  rotate_left
  · rw [d1, e_cW, b_pos rfl, e_cI, retZW_0]
    exact ⟨set2 (set2 c3 (q + 4) (8 * H + A) z2) (q + 1) H ((A + 1 : Nat) : Int), cls _ (fun j20 hj20 => by rw [b_pos y, a1, e_cW, last j20 hj20 _ _ l4 l1 (Or.inr (Or.inr d2.1))]), fc3.tr hf2 (by omega), pp2 pp3, by rw [at2]; exact cat3, Or.inr ⟨m5, rfl, ff2 d2, (fm2.tr o3.hm).tr d3.hm⟩⟩
  have x1m : m5 120 (X + 1) = z1 := by rw [d4.1 120 (by omega), o120, u1]
  rw [m10 10 (by omega), m10 11 (by omega)] at zb2
  rw [d1, e_cW, b_neg (by decide), e_gF m5, d5, e_cI 1, e_add (X : Int) 1 _ (by omega), show (X : Int) + 1 = ((X + 1 : Nat) : Int) by omega, e_rdn m5 _ _ _ _ (by omega), x1m]
  by_cases y2 : z2 = z1
  · -- the same cell twice
    have ssT : SS b L (set2 c3 (q + 4) (8 * H + A) z2) m5 := d2.outC (by omega)
    have nT : NF (set2 c3 (q + 4) (8 * H + A) z2) m5 := d3.outC (by omega)
    obtain ⟨c5, h1, ⟨m6, h2, h3, h4⟩, h5, h6⟩ := y_refuse (f := 3) ssT nT (by decide)
    rw [b_pos y2, e_cI 3, h2, e_cW, retZW_0]
    refine ⟨set2 c5 (q + 1) H ((A + 1 : Nat) : Int), cls _ (fun j20 hj20 => ?_), ((fc3.tr (HF.set (A := A) (by omega) (Or.inr ⟨by omega, by omega⟩)) (by omega)).tr (h5.hf (A := A) (by omega)) (by omega)).tr (HF.set (A := A) (by omega) (Or.inl ⟨rfl, rfl⟩)) (by omega), (k_refuse_pos (pp3.set (by omega)) h1).set (by omega), ?_, Or.inr ⟨m6, rfl, h3.outC (by omega), ((fm2.tr o3.hm).tr d4.hm).tr h4.hm⟩⟩
    · rw [b_pos y, a1, e_cW, hj20]
      dsimp only
      rw [e_wrn _ _ _ _ _ _ (by omega)]
      refine join_gen (fun j25 hj25 => ?_)
      rw [b_pos y, e_rdn _ _ _ _ _ (by omega), e_rdn _ _ _ _ _ (by omega), set2_same, set2_np _ _ _ _ _ _ (by omega), l3, b_pos y2, e_cI, h1, e_cV]
      exact c25 c5 j25 hj25 (by rw [h5.1 q (by omega), set2_np _ _ _ _ _ _ (by omega)]; exact l4) (by rw [h5.1 (q + 1) (by omega), set2_np _ _ _ _ _ _ (by omega)]; exact l1)
    · rw [set2_np _ _ _ _ _ _ (by omega)]
      have := h5.2.2
      rw [set2_np _ _ _ _ _ _ (by omega)] at this
      omega
  · rw [b_neg y2, e_cI 2, e_add (X : Int) 2 _ (by omega), show (X : Int) + 2 = ((X + 2 : Nat) : Int) by omega, e_gF m5, d5, e_wrn m5 _ _ _ _ _ (by omega)]
    have ssE : SS b L (set2 (set2 c3 (q + 4) (8 * H + A) z2) (q + 1) H ((A + 1 : Nat) : Int)) (set2 m5 120 (X + 2) z2) := ((d2.outC (by omega)).outC (by omega)).outM (by omega)
    have nE : NF (set2 (set2 c3 (q + 4) (8 * H + A) z2) (q + 1) H ((A + 1 : Nat) : Int)) (set2 m5 120 (X + 2) z2) := ((d3.outC (by omega)).outC (by omega)).outM (by omega)
    have fcE : HF q H A hc (set2 (set2 c3 (q + 4) (8 * H + A) z2) (q + 1) H ((A + 1 : Nat) : Int)) := fc3.tr hf2 (by omega)
    have fmE : HM X hm (set2 m5 120 (X + 2) z2) := ((fm2.tr o3.hm).tr d4.hm).tr (HM.set (by omega))
    obtain ⟨m7, i1', i2', i3', i4'⟩ := y_scan (x.h (by omega) fcE fmE) ssE
    rw [i1', e_cV, e_cI, retZW_1]
    have q120 : ∀ j, m7 120 j = set2 m5 120 (X + 2) z2 120 j := fun j => by rw [i3'.1 120 (by omega)]
    have q0 : set2 m5 120 (X + 2) z2 120 X = k := by rw [set2_nk _ _ _ _ _ _ (by omega), d4.1 120 (by omega), o120, u0]
    have q1 : set2 m5 120 (X + 2) z2 120 (X + 1) = z1 := by rw [set2_nk _ _ _ _ _ _ (by omega), x1m]
    refine ⟨_, cls _ (fun j20 hj20 => by rw [b_pos y, a1, e_cW, last j20 hj20 _ _ l4 l1 (Or.inr (Or.inl (by rw [l3]; exact y2)))]), fcE, pp2 pp3, by rw [at2]; exact cat3, Or.inl ⟨m7, rfl, i2', nE.m i4', fmE.tr i3'.hm, wA, ⟨?_, ?_, ?_⟩, ?_⟩⟩
    · rw [w2, l2, q120, q0]
    · rw [w3, l3, q120, q1]
    · rw [w4, q120, set2_same]
    · rw [q120, q120, q120, q0, q1, set2_same]
      exact ⟨k04, fun _ => zb, fun q => absurd q k4, fun _ => ⟨zb2.1, zb2.2, y2⟩, fun q => absurd y q⟩
end ACT
