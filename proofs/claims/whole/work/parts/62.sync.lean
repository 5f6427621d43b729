/-! READING: class and model side by side -/
def SS (b : Nat → Int) (L : Nat) (hc hm : Hp) : Prop := ∃ (q e : Nat) (k v : Int), (hc 1 2 = (e : Int) ∧ hc 1 3 = k ∧ hc 1 4 = (q : Int) ∧ (k = 2 → hc 1 5 = v)) ∧ (hm 100 3 = (q : Int) ∧ hm 100 4 = (e : Int) ∧ hm 100 5 = mkT k ∧ (k = 2 → hm 100 6 = v)) ∧ (q ≤ e ∧ e ≤ L) ∧ (k = 1 → ∀ j, q ≤ j → j < e → 97 ≤ b j ∧ b j ≤ 122) ∧ (0 ≤ k ∧ k ≤ 4)
def AA (b : Nat → Int) (L : Nat) (hc hm : Hp) : Prop := ∃ p : Nat, hc 1 2 = (p : Int) ∧ p ≤ L ∧ hm 100 3 = (tq b L p : Int) ∧ hm 100 4 = (te b L p : Int) ∧ hm 100 5 = mkT (tk b L p) ∧ (tk b L p = 2 → hm 100 6 = nvP b (tq b L p) (te b L p - tq b L p))
def NF (hc hm : Hp) : Prop := hc 1 6 = 0 ∧ hm 100 8 = 0 ∧ hc 1 7 = -1 ∧ hm 100 9 = -1
def FF (hc hm : Hp) : Prop := hc 1 6 ≠ 0 ∧ hc 1 6 = hm 100 8 ∧ hc 1 7 = hm 100 9
def TC (hc hc' : Hp) : Prop := (∀ p, p ≠ 1 → hc' p = hc p) ∧ (∀ j, (j < 2 ∨ 7 < j) → hc' 1 j = hc 1 j) ∧ hc 1 2 ≤ hc' 1 2
def TM (hm hm' : Hp) : Prop := (∀ p, p ≠ 100 → hm' p = hm p) ∧ (∀ j, (j < 3 ∨ 9 < j) → hm' 100 j = hm 100 j)
theorem TC.rf {h : Hp} : TC h h := ⟨fun _ _ => rfl, fun _ _ => rfl, Int.le_refl _⟩
theorem TC.tr {a b c : Hp} (x : TC a b) (y : TC b c) : TC a c := ⟨fun p hp => (y.1 p hp).trans (x.1 p hp), fun j hj => (y.2.1 j hj).trans (x.2.1 j hj), Int.le_trans x.2.2 y.2.2⟩
theorem TM.rf {h : Hp} : TM h h := ⟨fun _ _ => rfl, fun _ _ => rfl⟩
theorem TM.tr {a b c : Hp} (x : TM a b) (y : TM b c) : TM a c := ⟨fun p hp => (y.1 p hp).trans (x.1 p hp), fun j hj => (y.2 j hj).trans (x.2 j hj)⟩
theorem TM.set {h : Hp} {j : Nat} {x : Int} (hj : 3 ≤ j ∧ j ≤ 9) : TM h (set2 h 100 j x) := ⟨fun p hp => set2_ne p hp, fun k hk => set2_nk _ _ _ _ _ _ (by omega)⟩
theorem TX.mv {b : Nat → Int} {L : Nat} {hc hm hc' hm' : Hp} (x : TX b L hc hm) (c : hc' 2 = hc 2 ∧ hc' 1 1 = hc 1 1) (m : hm' 101 = hm 101 ∧ hm' 100 2 = hm 100 2) : TX b L hc' hm' := by
  obtain ⟨x1, x2, x3, x4, x5⟩ := x
  exact ⟨by rw [c.1, x1], by rw [m.1]; exact x2, by rw [c.2, x3], by rw [m.2, x4], x5⟩
theorem TX.c {b : Nat → Int} {L : Nat} {hc hm hc' : Hp} (x : TX b L hc hm) (c : TC hc hc') : TX b L hc' hm := x.mv ⟨c.1 2 (by omega), c.2.1 1 (by omega)⟩ ⟨rfl, rfl⟩
theorem TX.m {b : Nat → Int} {L : Nat} {hc hm hm' : Hp} (x : TX b L hc hm) (c : TM hm hm') : TX b L hc hm' := x.mv ⟨rfl, rfl⟩ ⟨c.1 101 (by omega), c.2 2 (by omega)⟩
theorem SS.mv {b : Nat → Int} {L : Nat} {hc hm hc' hm' : Hp} (s : SS b L hc hm) (c : hc' 1 2 = hc 1 2 ∧ hc' 1 3 = hc 1 3 ∧ hc' 1 4 = hc 1 4 ∧ hc' 1 5 = hc 1 5) (m : hm' 100 3 = hm 100 3 ∧ hm' 100 4 = hm 100 4 ∧ hm' 100 5 = hm 100 5 ∧ hm' 100 6 = hm 100 6) : SS b L hc' hm' := by
  unfold SS at s ⊢
  rw [c.1, c.2.1, c.2.2.1, c.2.2.2, m.1, m.2.1, m.2.2.1, m.2.2.2]
  exact s
theorem AA.mv {b : Nat → Int} {L : Nat} {hc hm hc' hm' : Hp} (s : AA b L hc hm) (c : hc' 1 2 = hc 1 2) (m : hm' 100 3 = hm 100 3 ∧ hm' 100 4 = hm 100 4 ∧ hm' 100 5 = hm 100 5 ∧ hm' 100 6 = hm 100 6) : AA b L hc' hm' := by
  unfold AA at s ⊢
  rw [c, m.1, m.2.1, m.2.2.1, m.2.2.2]
  exact s
section SYNC
variable {b : Nat → Int} {L : Nat} {hc hm : Hp}
theorem y_advance (x : TX b L hc hm) (a : AA b L hc hm) : ∃ hc', g_X5_advance 1 hc = some hc' ∧ SS b L hc' hm ∧ TC hc hc' ∧ hc' 1 6 = hc 1 6 ∧ hc' 1 7 = hc 1 7 ∧ (hc' 1 3 ≠ 4 → hc 1 2 < hc' 1 2) := by
  obtain ⟨x1, x2, x3, x4, x5⟩ := x
  obtain ⟨p, a1, a2, a3, a4, a5, a6⟩ := a
  obtain ⟨v, w1, w2⟩ := k_advance x3 x5 a1 a2
  rw [x1] at w1 w2
  obtain ⟨t1, t2, t3, t4⟩ := tok_in (b := b) a2
  have f : ∀ j, (j < 2 ∨ 5 < j) → tokC hc (tq b L p) (te b L p) (tk b L p) v 1 j = hc 1 j := fun j hj => by
    unfold tokC
    rw [if_pos rfl, if_neg (by omega), if_neg (by omega), if_neg (by omega), if_neg (by omega)]
  refine ⟨_, w1, ⟨tq b L p, te b L p, tk b L p, nvP b (tq b L p) (te b L p - tq b L p), ⟨rfl, rfl, rfl, w2⟩, ⟨a3, a4, a5, a6⟩, ⟨t1.2.1, t1.2.2⟩, t3, t4⟩, ⟨fun q hq => tokC_p hq, fun j hj => f j (by omega), ?_⟩, f 6 (by omega), f 7 (by omega), ?_⟩
  · rw [a1]
    show (p : Int) ≤ (te b L p : Int)
    omega
  · intro hk
    rw [a1]
    show (p : Int) < (te b L p : Int)
    have := t2 hk
    omega
theorem y_scan (x : TX b L hc hm) (s : SS b L hc hm) : ∃ hm', g_X9_scan hm = some hm' ∧ AA b L hc hm' ∧ TM hm hm' ∧ ∀ j, (j < 3 ∨ 6 < j) → hm' 100 j = hm 100 j := by
  obtain ⟨x1, x2, x3, x4, x5⟩ := x
  obtain ⟨q, e, k, v, ⟨c1, -, -, -⟩, ⟨m1, m2, -, -⟩, ⟨r1, r2⟩, -⟩ := s
  obtain ⟨w, w1, w2⟩ := m_scan (b := b) x4 x5 x2 m2 r2 (by omega)
  refine ⟨_, w1, ⟨e, c1, r2, rfl, rfl, rfl, w2⟩, ⟨fun p hp => tokM_p hp, fun j hj => tokM_f.2.2.2.2 j (by omega)⟩, fun j hj => tokM_f.2.2.2.2 j hj⟩
theorem k_isFaulty (h : Hp) : g_X5_isFaulty 1 h = some (if h 1 6 = 0 then 0 else 1) := by
  unfold g_X5_isFaulty
  (rw [e_gF, e_join]; (try dsimp only))
  by_cases z : h 1 6 = 0
  · rw [b_pos z, e_cI, if_pos z]; exact e_retZ0
  · rw [b_neg z, e_cI, if_neg z]; exact e_retZ1
theorem k_refuse (h : Hp) (f : Int) : g_X5_refuse 1 f h = some (if h 1 6 = 0 then set2 (set2 h 1 6 f) 1 7 (h 1 4) else h) := by
  unfold g_X5_refuse
  (rw [e_gF, e_join]; (try dsimp only))
  by_cases z : h 1 6 = 0
  · rw [b_pos z, e_pF, e_gF, set2_nk _ _ _ _ _ _ (by omega), e_pF, if_pos z]
  · rw [b_neg z, if_neg z]
theorem m_bad (h : Hp) (f : Int) : g_X9_bad f h = some (0, set2 (set2 h 100 8 f) 100 9 (h 100 3)) := by
  unfold g_X9_bad
  rw [e_pF, e_gF, set2_nk _ _ _ _ _ _ (by omega), e_pF, e_cI]
  rfl
/-- a fault at the token that both hold -/
theorem y_refuse {f : Int} (s : SS b L hc hm) (n : NF hc hm) (hf : f ≠ 0) : ∃ hc', g_X5_refuse 1 f hc = some hc' ∧ (∃ hm', g_X9_bad f hm = some (0, hm') ∧ FF hc' hm' ∧ TM hm hm') ∧ TC hc hc' ∧ hc' 1 6 ≠ 0 := by
  obtain ⟨q, e, k, v, ⟨c1, c2, c3, -⟩, ⟨m1, m2, -, -⟩, -⟩ := s
  refine ⟨set2 (set2 hc 1 6 f) 1 7 (hc 1 4), by rw [k_refuse, if_pos n.1], ⟨_, m_bad hm f, ⟨?_, ?_, ?_⟩, (TM.set (by omega)).tr (TM.set (by omega))⟩, ⟨fun p hp => by rw [set2_ne p hp, set2_ne p hp], fun j hj => by rw [set2_nk _ _ _ _ _ _ (by omega), set2_nk _ _ _ _ _ _ (by omega)], ?_⟩, ?_⟩
  · rw [set2_nk _ _ _ _ _ _ (by omega), set2_same]; exact hf
  · rw [set2_nk _ _ _ _ _ _ (by omega), set2_same, set2_nk _ _ _ _ _ _ (by omega), set2_same]
  · rw [set2_same, set2_same, c3, m1]
  · rw [set2_nk _ _ _ _ _ _ (by omega), set2_nk _ _ _ _ _ _ (by omega)]; exact Int.le_refl _
  · rw [set2_nk _ _ _ _ _ _ (by omega), set2_same]; exact hf
theorem k_need_f {l u : Int} (h : hc 1 6 ≠ 0) : g_X5_need 1 l u hc = some (l, hc) := by
  unfold g_X5_need
  rw [k_isFaulty, if_neg h, e_cP, b_neg (by decide)]
theorem retZW_0 {h : Hp} : retZW 0 h = some (0, h) := rfl
theorem retZW_1 {h : Hp} : retZW 1 h = some (1, h) := rfl
theorem y_need {l u : Int} (x : TX b L hc hm) (a : AA b L hc hm) (n : NF hc hm) : ∃ z hc', g_X5_need 1 l u hc = some (z, hc') ∧ TC hc hc' ∧
    (((l ≤ z ∧ z ≤ u) ∧ SS b L hc' (set2 hm 100 7 z) ∧ NF hc' (set2 hm 100 7 z) ∧ g_X9_peek l u hm = some (1, set2 hm 100 7 z)) ∨ (z = l ∧ ∃ hm', g_X9_peek l u hm = some (0, hm') ∧ FF hc' hm' ∧ TM hm hm')) := by
  obtain ⟨hc1, w1, w2, w3, w4, w5, -⟩ := y_advance x a
  have n1 : NF hc1 hm := ⟨by rw [w4]; exact n.1, n.2.1, by rw [w5]; exact n.2.2.1, n.2.2.2⟩
  have s := w2
  obtain ⟨q, e, k, v, ⟨c1, c2, c3, c4⟩, ⟨m1, m2, m3, m4⟩, r1, -, r3⟩ := w2
  unfold g_X5_need g_X9_peek
  rw [k_isFaulty, if_pos n.1, e_cP, b_pos rfl, w1, e_cV, e_gF hc1, c2, e_cI 2]
  by_cases z : k = 2
  rotate_left
  · obtain ⟨hc2, u1, ⟨hm2, u2, u3, u4⟩, u5, -⟩ := y_refuse (f := 1) s n1 (by decide)
    rw [b_neg z, e_cI 1, u1, e_cV, e_gF hm, m3, e_cI 2, b_neg (show ¬ mkT k = 2 by unfold mkT; split <;> (try split) <;> omega), e_cI, u2, e_cW, retZW_0]
    exact ⟨l, hc2, rfl, w3.tr u5, Or.inr ⟨rfl, hm2, rfl, u3, u4⟩⟩
  rw [b_pos z, e_gF hc1, c4 z, e_gF hm, m3, e_cI 2, e_cI 2, b_pos (show mkT k = 2 by unfold mkT; rw [if_neg (by omega), if_neg (by omega), z]), e_gF hm, m4 z, e_i2l, e_i2l, e_i2l]
  by_cases y : l ≤ v ∧ v ≤ u
  · (rw [e_join]; (try dsimp only); rw [b_neg (show ¬ v < l by omega), e_gF hc1, c4 z, b_pos y.2, e_gF hc1, c4 z, e_in_t _ _ _ _ y, b_neg (show ¬ (1 : Int) = 0 by decide), e_gF hm, m4 z, e_pF, e_cI, retZW_1])
    refine ⟨v, hc1, rfl, w3, Or.inl ⟨y, ?_, ?_, rfl⟩⟩
    · exact s.mv ⟨rfl, rfl, rfl, rfl⟩ ⟨set2_nk _ _ _ _ _ _ (by omega), set2_nk _ _ _ _ _ _ (by omega), set2_nk _ _ _ _ _ _ (by omega), set2_nk _ _ _ _ _ _ (by omega)⟩
    · exact ⟨n1.1, by rw [set2_nk _ _ _ _ _ _ (by omega)]; exact n1.2.1, n1.2.2.1, by rw [set2_nk _ _ _ _ _ _ (by omega)]; exact n1.2.2.2⟩
  · obtain ⟨hc2, u1, ⟨hm2, u2, u3, u4⟩, u5, -⟩ := y_refuse (f := 2) s n1 (by decide)
    refine ⟨l, hc2, ?_, w3.tr u5, Or.inr ⟨rfl, hm2, ?_, u3, u4⟩⟩
    · refine join_gen (fun j7 hj7 => ?_)
      have e7 : j7 () = some (l, hc2) := by rw [hj7, u1, e_cV]
      by_cases y1 : v < l
      · rw [b_pos y1, e7]
      · rw [b_neg y1, e_gF, c4 z, b_neg (by omega), e7]
    · rw [e_in_f _ _ _ _ (by omega), b_pos rfl, e_cI, u2, e_cW, retZW_0]
theorem y_number {l u : Int} (x : TX b L hc hm) (a : AA b L hc hm) (n : NF hc hm) : ∃ z hc', g_X5_need 1 l u hc = some (z, hc') ∧ TC hc hc' ∧
    (((l ≤ z ∧ z ≤ u) ∧ ∃ hm', g_X9_number l u hm = some (1, hm') ∧ AA b L hc' hm' ∧ NF hc' hm' ∧ hm' 100 7 = z ∧ TM hm hm') ∨ (z = l ∧ ∃ hm', g_X9_number l u hm = some (0, hm') ∧ FF hc' hm' ∧ TM hm hm')) := by
  obtain ⟨z, hc1, w1, w2, w3⟩ := y_need (l := l) (u := u) x a n
  refine ⟨z, hc1, w1, w2, ?_⟩
  unfold g_X9_number
  rcases w3 with ⟨y, s, n1, p⟩ | ⟨y, hm1, p, f, t⟩
  · left
    have t1 : TM hm (set2 hm 100 7 z) := TM.set (by omega)
    obtain ⟨hm2, u1, u2, u3, u4⟩ := y_scan ((x.c w2).m t1) s
    rw [p, e_cW, b_neg (by decide), u1, e_cV, e_cI, retZW_1]
    exact ⟨y, hm2, rfl, u2, ⟨n1.1, by rw [u4 8 (by omega)]; exact n1.2.1, n1.2.2.1, by rw [u4 9 (by omega)]; exact n1.2.2.2⟩, by rw [u4 7 (by omega), set2_same], t1.tr u3⟩
  · right
    rw [p, e_cW, b_pos rfl, e_cI, retZW_0]
    exact ⟨y, hm1, rfl, f, t⟩
/-- the end of a clause -/
theorem y_end (x : TX b L hc hm) (a : AA b L hc hm) (n : NF hc hm) : ∃ hc', g_X5_endClause 1 hc = some hc' ∧ TC hc hc' ∧ ((∃ hm', g_X9_close hm = some (1, hm') ∧ AA b L hc' hm' ∧ NF hc' hm' ∧ TM hm hm' ∧ hc 1 2 < hc' 1 2) ∨ ∃ hm', g_X9_close hm = some (0, hm') ∧ FF hc' hm' ∧ TM hm hm') := by
  obtain ⟨hc1, w1, w2, w3, w4, w5, w6⟩ := y_advance x a
  have n1 : NF hc1 hm := ⟨by rw [w4]; exact n.1, n.2.1, by rw [w5]; exact n.2.2.1, n.2.2.2⟩
  have s := w2
  obtain ⟨q, e, k, v, ⟨c1, c2, c3, c4⟩, ⟨m1, m2, m3, m4⟩, r1, -, r3⟩ := w2
  unfold g_X5_endClause g_X9_close
  (rw [k_isFaulty, if_pos n.1, e_cP, b_pos rfl, w1, e_cV, e_gF hc1, c2, e_cI 3, e_join]; (try dsimp only); rw [e_gF hm, m3, e_cI 3])
  by_cases z : k = 3
  · obtain ⟨hm2, u1, u2, u3, u4⟩ := y_scan (x.c w3) s
    rw [b_pos z, b_pos (show mkT k = 3 by unfold mkT; rw [if_neg (by omega), if_neg (by omega), z]), u1, e_cV, e_cI, retZW_1]
    exact ⟨hc1, rfl, w3, Or.inl ⟨hm2, rfl, u2, ⟨n1.1, by rw [u4 8 (by omega)]; exact n1.2.1, n1.2.2.1, by rw [u4 9 (by omega)]; exact n1.2.2.2⟩, u3, w6 (by rw [c2]; omega)⟩⟩
  · obtain ⟨hc2, u1, ⟨hm2, u2, u3, u4⟩, u5, -⟩ := y_refuse (f := 1) s n1 (by decide)
    rw [b_neg z, e_cI, u1, e_cV, b_neg (show ¬ mkT k = 3 by unfold mkT; split <;> (try split) <;> omega), e_cI, u2, e_cW, retZW_0]
    exact ⟨hc2, rfl, w3.tr u5, Or.inr ⟨hm2, rfl, u3, u4⟩⟩
theorem k_end_f (h : hc 1 6 ≠ 0) : g_X5_endClause 1 hc = some hc := by
  unfold g_X5_endClause
  rw [k_isFaulty, if_neg h, e_cP, b_neg (by decide)]
/-- the next clause -/
theorem y_has (x : TX b L hc hm) (a : AA b L hc hm) (n : NF hc hm) : ∃ hc', TC hc hc' ∧ SS b L hc' hm ∧ NF hc' hm ∧ ((hm 100 5 = 0 ∧ hc' 1 3 = 4 ∧ g_X5_hasClause 1 hc = some (0, hc')) ∨ (hm 100 5 ≠ 0 ∧ hc' 1 3 ≠ 4 ∧ g_X5_hasClause 1 hc = some (1, hc') ∧ hc 1 2 < hc' 1 2)) := by
  obtain ⟨hc1, w1, w2, w3, w4, w5, w6⟩ := y_advance x a
  have n1 : NF hc1 hm := ⟨by rw [w4]; exact n.1, n.2.1, by rw [w5]; exact n.2.2.1, n.2.2.2⟩
  have s := w2
  obtain ⟨q, e, k, v, ⟨c1, c2, c3, c4⟩, ⟨m1, m2, m3, m4⟩, r1, -, r3⟩ := w2
  refine ⟨hc1, w3, s, n1, ?_⟩
  unfold g_X5_hasClause
  (rw [k_isFaulty, if_pos n.1, e_cP, b_pos rfl, w1, e_cV, e_gF, c2, e_cI, e_join]; (try dsimp only); rw [m3])
  by_cases z : k = 4
  · left
    rw [b_pos z, e_cI]
    exact ⟨by unfold mkT; rw [if_neg (by omega), if_pos z], z, retZW_0⟩
  · right
    rw [b_neg z, e_cI]
    refine ⟨?_, z, retZW_1, w6 (by rw [c2]; exact z)⟩
    unfold mkT
    split
    · decide
    · (try rw [if_neg z]); assumption
theorem k_has_f (h : hc 1 6 ≠ 0) : g_X5_hasClause 1 hc = some (0, hc) := by
  unfold g_X5_hasClause
  rw [k_isFaulty, if_neg h, e_cP, b_neg (by decide), e_cI]
  exact retZW_0
/-! words -/
def wd (b : Nat → Int) (w : List Int) (hc : Hp) : Prop := hc 1 3 = 1 ∧ hc 1 2 - hc 1 4 = (w.length : Int) ∧ ∀ i, i < w.length → b ((hc 1 4).toNat + i) = w.getD i 0
theorem wd_one {w1 w2 : List Int} (h1 : wd b w1 hc) (h2 : wd b w2 hc) : w1 = w2 := by
  have e : w1.length = w2.length := by have := h1.2.1; have := h2.2.1; omega
  refine List.ext_getElem e (fun i a c => ?_)
  have x := h1.2.2 i a
  have y := h2.2.2 i c
  rw [x] at y
  simpa [List.getD, a, c] using y
theorem sAt_in {w : List Int} {i : Nat} (hi : i < w.length) : sAt w (i : Int) = some (w.getD i 0) := by
  unfold sAt
  rw [if_pos (by omega), Int.toNat_natCast]
theorem y_word {w : List Int} (x : TX b L hc hm) (s : SS b L hc hm) (hw : w.length ≤ 8) : (wd b w hc ∧ g_X5_isWord 1 w hc = some 1 ∧ g_X9_is w hm = some 1) ∨ (¬ wd b w hc ∧ g_X5_isWord 1 w hc = some 0 ∧ g_X9_is w hm = some 0) := by
  obtain ⟨x1, x2, x3, x4, x5⟩ := x
  obtain ⟨q, e, k, v, ⟨c1, c2, c3, c4⟩, ⟨m1, m2, m3, m4⟩, r1, r2, r3⟩ := s
  unfold g_X5_isWord g_X9_is
  have hk : (mkT k = 1) ↔ k = 1 := by unfold mkT; split <;> (try split) <;> omega
  have sl : ∀ (K : Int → Option Int), cP (sLen w) K = K (w.length : Int) := fun K => rfl
  by_cases z : k = 1 ∧ (e : Int) - (q : Int) = (w.length : Int)
  rotate_left
  · right
    refine ⟨fun y => z ⟨by rw [← c2]; exact y.1, by rw [← c1, ← c3]; exact y.2.1⟩, ?_, ?_⟩
    · (rw [e_gF, c2, e_cI, e_join]; (try dsimp only))
      by_cases z1 : k = 1
      · rw [b_pos z1, e_gF, c1, e_gF, c3, e_sub _ _ _ (by omega), sl, b_neg (fun y => z ⟨z1, y⟩), e_cI]
        exact e_retZ0
      · rw [b_neg z1, e_cI]
        exact e_retZ0
    · have out : (joinF (fun (a3 : Int) => cI 0 fun z6 => joinF (fun (a7 : Int) => retZ a7) fun j8 => loopF (g_X9_is_l11 hm j8 w) FU (a3, z6)) fun j4 => j4 0) = some 0 := by
        (rw [e_join]; (try dsimp only); rw [e_cI])
        refine join_gen (fun j8 hj8 => ?_)
        show loopF _ (999999 + 1) _ = _
        show g_X9_is_l11 hm j8 w _ (0, 0) = _
        unfold g_X9_is_l11
        dsimp only
        rw [sl]
        by_cases y : (w.length : Int) ≤ 0
        · rw [b_pos y, hj8]; exact e_retZ0
        · rw [b_neg y, b_pos rfl, hj8]; exact e_retZ0
      rw [e_gF, m3, e_cI]
      rw [e_join] at out
      refine join_gen (fun j4 hj4 => ?_)
      have out4 : j4 0 = some 0 := by rw [hj4]; exact out
      rw [e_join]
      by_cases z1 : k = 1
      · rw [b_pos (hk.mpr z1), e_gF, m2, e_gF, m1, e_sub _ _ _ (by omega), sl, b_neg (fun y => z ⟨z1, y⟩), e_cI, out4]
      · rw [b_neg (fun y => z1 (hk.mp y)), e_cI, out4]
  obtain ⟨z1, z2⟩ := z
  have let1 := r2 z1
  have cls : ∀ (d i F : Nat), i + d = w.length → d < F → (∀ j, j < i → b (q + j) = w.getD j 0) → ((∀ j, j < w.length → b (q + j) = w.getD j 0) ∧ loopF (g_X5_isWord_l12 1 hc w) F (i : Int) = some 1) ∨ (¬ (∀ j, j < w.length → b (q + j) = w.getD j 0) ∧ loopF (g_X5_isWord_l12 1 hc w) F (i : Int) = some 0) := by
    intro d
    induction d with
    | zero =>
      intro i F hi hF hj
      obtain ⟨F, rfl⟩ : ∃ g, F = g + 1 := ⟨F - 1, by omega⟩
      left
      refine ⟨fun j hjw => hj j (by omega), ?_⟩
      show g_X5_isWord_l12 1 hc w (loopF _ F) (i : Int) = _
      unfold g_X5_isWord_l12
      rw [sl, b_pos (by omega), e_cI]
      exact e_retZ1
    | succ d ih =>
      intro i F hi hF hj
      obtain ⟨F, rfl⟩ : ∃ g, F = g + 1 := ⟨F - 1, by omega⟩
      have nx := ih (i + 1) F (by omega) (by omega)
      show (_ ∧ g_X5_isWord_l12 1 hc w (loopF _ F) (i : Int) = _) ∨ (_ ∧ g_X5_isWord_l12 1 hc w (loopF _ F) (i : Int) = _)
      generalize loopF (g_X5_isWord_l12 1 hc w) F = self at nx
      unfold g_X5_isWord_l12
      rw [sl, b_neg (by omega), e_gF, c3, e_add _ _ _ (by omega), show (q : Int) + (i : Int) = ((q + i : Nat) : Int) by omega, e_rdn _ _ _ _ _ (by omega), show 1 + 1 = 2 from rfl, x1, sAt_in (by omega), e_cP]
      by_cases y : b (q + i) = w.getD i 0
      · rw [b_pos y, e_add _ _ _ (by omega), show (i : Int) + 1 = ((i + 1 : Nat) : Int) by omega]
        exact nx (fun j hjw => by
          by_cases a : j = i
          · rw [a]; exact y
          · exact hj j (by omega))
      · right
        rw [b_neg y, e_cI]
        exact ⟨fun a => y (a i (by omega)), e_retZ0⟩
  have c0 := cls w.length 0 FU (by omega) (fu _ (by omega)) (fun j hj => by omega)
  rw [show ((0 : Nat) : Int) = 0 from rfl] at c0
  have bt : ∀ j, j < w.length → hm 101 (q + j) = b (q + j) := fun j hj => by
    have l1 := let1 (q + j) (by omega) (by omega)
    exact (BT_small (x2 (q + j) (by omega))).2 (by omega)
  have mdl : ∀ (j8 : Int → Option Int), (∀ a, j8 a = retZ a) → ∀ (d i F : Nat), i + d = w.length → d < F → (∀ j, j < i → b (q + j) = w.getD j 0) → ((∀ j, j < w.length → b (q + j) = w.getD j 0) → loopF (g_X9_is_l11 hm j8 w) F (1, (i : Int)) = some 1) ∧ (¬ (∀ j, j < w.length → b (q + j) = w.getD j 0) → loopF (g_X9_is_l11 hm j8 w) F (1, (i : Int)) = some 0) := by
    intro j8 hj8 d
    induction d with
    | zero =>
      intro i F hi hF hj
      obtain ⟨F, rfl⟩ : ∃ g, F = g + 1 := ⟨F - 1, by omega⟩
      refine ⟨fun _ => ?_, fun a => absurd (fun j hjw => hj j (by omega)) a⟩
      show g_X9_is_l11 hm j8 w (loopF _ F) (1, (i : Int)) = _
      unfold g_X9_is_l11
      dsimp only
      rw [sl, b_pos (by omega), hj8]
      exact e_retZ1
    | succ d ih =>
      intro i F hi hF hj
      obtain ⟨F, rfl⟩ : ∃ g, F = g + 1 := ⟨F - 1, by omega⟩
      have nx := ih (i + 1) F (by omega) (by omega)
      have body : g_X9_is_l11 hm j8 w (loopF (g_X9_is_l11 hm j8 w) F) (1, (i : Int)) = if b (q + i) = w.getD i 0 then loopF (g_X9_is_l11 hm j8 w) F (1, ((i + 1 : Nat) : Int)) else loopF (g_X9_is_l11 hm j8 w) F (0, ((i + 1 : Nat) : Int)) := by
        generalize loopF (g_X9_is_l11 hm j8 w) F = self
        unfold g_X9_is_l11
        dsimp only
        rw [sl, b_neg (by omega), b_neg (by decide), e_gF, m1, e_add _ _ _ (by omega), show (q : Int) + (i : Int) = ((q + i : Nat) : Int) by omega, e_rdn _ _ _ _ _ (by omega), bt i (by omega), sAt_in (by omega), e_cP]
        refine join_gen (fun j20 hj20 => ?_)
        by_cases y : b (q + i) = w.getD i 0
        · rw [b_pos y, e_cI, hj20, e_add _ _ _ (by omega), if_pos y, show (i : Int) + 1 = ((i + 1 : Nat) : Int) by omega]
        · rw [b_neg y, e_cI, hj20, e_add _ _ _ (by omega), if_neg y, show (i : Int) + 1 = ((i + 1 : Nat) : Int) by omega]
      show (_ → g_X9_is_l11 hm j8 w (loopF (g_X9_is_l11 hm j8 w) F) (1, (i : Int)) = _) ∧ (_ → g_X9_is_l11 hm j8 w (loopF (g_X9_is_l11 hm j8 w) F) (1, (i : Int)) = _)
      rw [body]
      by_cases y : b (q + i) = w.getD i 0
      · rw [if_pos y]
        exact nx (fun j hjw => by
          by_cases a : j = i
          · rw [a]; exact y
          · exact hj j (by omega))
      · rw [if_neg y]
        refine ⟨fun a => absurd (a i (by omega)) y, fun _ => ?_⟩
        obtain ⟨F, rfl⟩ : ∃ g, F = g + 1 := ⟨F - 1, by omega⟩
        show g_X9_is_l11 hm j8 w (loopF _ F) (0, ((i + 1 : Nat) : Int)) = _
        unfold g_X9_is_l11
        dsimp only
        rw [sl]
        by_cases u : (w.length : Int) ≤ ((i + 1 : Nat) : Int)
        · rw [b_pos u, hj8]; exact e_retZ0
        · rw [b_neg u, b_pos rfl, hj8]; exact e_retZ0
  have hq : (hc 1 4).toNat = q := by rw [c3, Int.toNat_natCast]
  have cl : ∀ o, loopF (g_X5_isWord_l12 1 hc w) FU 0 = o → (gF hc 1 3 fun z1 => cI 1 fun z2 => joinF (fun (a3 : Unit) => cI 0 fun z5 => retZ z5) fun j4 => if z1 = z2 then gF hc 1 2 fun z6 => gF hc 1 4 fun z7 => subI z6 z7 fun z8 => cP (sLen w) fun z9 => if z8 = z9 then cI 0 fun z10 => loopF (g_X5_isWord_l12 1 hc w) FU z10 else j4 () else j4 ()) = o := by
    intro o ho
    (rw [e_gF, c2, e_cI, e_join]; (try dsimp only); rw [b_pos z1, e_gF, c1, e_gF, c3, e_sub _ _ _ (by omega), sl, b_pos z2, e_cI])
    exact ho
  have ml : ∀ o, (∀ j8 : Int → Option Int, (∀ a, j8 a = retZ a) → loopF (g_X9_is_l11 hm j8 w) FU (1, 0) = o) → (gF hm 100 5 fun z1 => cI 1 fun z2 => joinF (fun (a3 : Int) => cI 0 fun z6 => joinF (fun (a7 : Int) => retZ a7) fun j8 => loopF (g_X9_is_l11 hm j8 w) FU (a3, z6)) fun j4 => joinF (fun (a25 : Unit) => cI 0 fun z27 => j4 z27) fun j26 => if z1 = z2 then gF hm 100 4 fun z28 => gF hm 100 3 fun z29 => subI z28 z29 fun z30 => cP (sLen w) fun z31 => if z30 = z31 then cI 1 fun z32 => j4 z32 else j26 () else j26 ()) = o := by
    intro o ho
    rw [e_gF, m3, e_cI]
    refine join_gen (fun j4 hj4 => ?_)
    (rw [e_join]; (try dsimp only); rw [b_pos (hk.mpr z1), e_gF, m2, e_gF, m1, e_sub _ _ _ (by omega), sl, b_pos z2, e_cI, hj4, e_cI])
    exact join_gen (fun j8 hj8 => ho j8 hj8)
  rcases c0 with ⟨y1, y2⟩ | ⟨y1, y2⟩
  · left
    refine ⟨⟨by rw [c2, z1], by rw [c1, c3, z2], by rw [hq]; exact y1⟩, cl _ y2, ml _ (fun j8 hj8 => ?_)⟩
    exact (mdl j8 hj8 w.length 0 FU (by omega) (fu _ (by omega)) (fun j hj => by omega)).1 y1
  · right
    refine ⟨fun a => y1 (by have := a.2.2; rw [hq] at this; exact this), cl _ y2, ml _ (fun j8 hj8 => ?_)⟩
    exact (mdl j8 hj8 w.length 0 FU (by omega) (fu _ (by omega)) (fun j hj => by omega)).2 y1
end SYNC
