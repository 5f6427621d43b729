/-! CALLS: beach, the whole call -/
theorem pw_step0 {h : Hp} {q i : Nat} {x : Int} : set2 (pw h q i (fun _ => x)) q i x = pw h q (i + 1) (fun _ => x) := pw_step
theorem nN_of {Q : Hp} (h10 : 1 ≤ Q 100 10 ∧ Q 100 10 ≤ 8) (h11 : 1 ≤ Q 100 11 ∧ Q 100 11 ≤ 8) : (nN Q : Int) = Q 100 10 * Q 100 11 := by
  obtain ⟨a, ha⟩ := Int.eq_ofNat_of_zero_le (show 0 ≤ Q 100 10 by omega)
  obtain ⟨b, hb⟩ := Int.eq_ofNat_of_zero_le (show 0 ≤ Q 100 11 by omega)
  unfold nN cN rN
  rw [ha, hb, Int.toNat_natCast, Int.toNat_natCast, Int.natCast_mul]
theorem pv_mk {P Q : Hp} (hv : PV P) (h10 : 1 ≤ Q 100 10 ∧ Q 100 10 ≤ 8) (h11 : 1 ≤ Q 100 11 ∧ Q 100 11 ≤ 8) (h102 : ∀ k, k < 9 → lbB k ≤ Q 102 k ∧ Q 102 k ≤ ubB k) (e : Q 100 39 = P 100 39 ∧ Q 100 28 = P 100 28 ∧ Q 110 = P 110 ∧ Q 112 = P 112 ∧ Q 114 = P 114 ∧ Q 115 = P 115) (h41 : Q 100 41 = 0) (h12 : 0 ≤ Q 100 12 ∧ Q 100 12 ≤ 3) (h106 : ∀ k, k < (Q 100 12).toNat → 0 ≤ Q 106 k ∧ Q 106 k < Q 100 10 * Q 100 11) (hc : ∀ c, c < 64 → (0 ≤ Q 104 c ∧ Q 104 c ≤ 59) ∧ (Q 108 c = 0 ∨ Q 108 c = 1)) : PV Q := by
  obtain ⟨e1, e2, e3, e4, e5, e6⟩ := e
  obtain ⟨-, -, -, -, -, -, -, -, -, -, -, p39, p28, p110, p112, p114, p115, -⟩ := hv
  refine ⟨h10, h11, h102 0 (by omega), h102 1 (by omega), h102 2 (by omega), h102 3 (by omega), h102 4 (by omega), h102 5 (by omega), h102 6 (by omega), h102 7 (by omega), h102 8 (by omega), ?_, ?_, ?_, ?_, ?_, ?_, ?_, ?_, h12, ?_, hc⟩
  · rw [e1]; exact p39
  · rw [e2]; exact p28
  · rw [e2, e3]; exact p110
  · rw [e4]; exact p112
  · rw [e5]; exact p114
  · rw [e6]; exact p115
  · rw [h41]; omega
  · intro p hp; rw [h41] at hp; exact absurd hp (by omega)
  · intro k hk
    rw [nN_of h10 h11]
    exact h106 k hk
theorem BG.te {P Q : Hp} {s : Nat → Int} (e : TE P Q) (g : BG P s) : BG Q s := by
  obtain ⟨-, -, en⟩ := e.cn
  obtain ⟨⟨e1, e2, e3, e4, e5, e6⟩, ⟨f1, f2, f3, f4, f5⟩, -⟩ := e
  unfold BG at g ⊢
  rw [en, e3, f1, f2, f3, f4]
  exact g
/-- the model commits a beach -/
theorem m_beach_ok {P g hO hm hc : Hp} {d : Nat} (hv : PV P) (e : hm 100 39 = P 100 39 ∧ hm 100 28 = P 100 28 ∧ hm 110 = P 110 ∧ hm 112 = P 112 ∧ hm 114 = P 114 ∧ hm 115 = P 115) (bb : BB d hc hm) (o : g_X9_open g = some hO) (rb : g_X9_readBeach hO = some (1, hm)) :
    ∃ h2, g_X9_beach g = some (hm 100 17, h2) ∧ (∀ p, p ≠ 100 → p ≠ 102 → p ≠ 104 → p ≠ 106 → p ≠ 108 → p ≠ 121 → p ≠ 124 → h2 p = hm p) ∧ (∀ j, j < 10 ∨ (13 < j ∧ j ≠ 41) → h2 100 j = hm 100 j) ∧
      (h2 100 10 = hm 100 14 ∧ h2 100 11 = hm 100 15 ∧ h2 100 12 = hm 100 16 ∧ h2 100 13 = hm 100 17 ∧ h2 100 41 = 0) ∧ (∀ k, k < 9 → h2 102 k = hm 103 k) ∧ (∀ c, c < 64 → h2 104 c = hm 105 c ∧ h2 108 c = hm 109 c) ∧ (∀ k, k < (hm 100 16).toNat → h2 106 k = hm 107 k) ∧ (∀ j, j < 3 → h2 124 j = 0) ∧
      PV h2 ∧ BG h2 (h2 121) ∧ h2 121 288 = hm 121 288 := by
  obtain ⟨⟨-, b14, b15⟩, b103, bcc, ⟨⟨-, b16⟩, b107⟩, -⟩ := bb
  obtain ⟨N, hN⟩ := Int.eq_ofNat_of_zero_le b16.1
  generalize hP1 : set2 (set2 (set2 (set2 hm 100 10 (hm 100 14)) 100 11 (hm 100 15)) 100 12 (hm 100 16)) 100 13 (hm 100 17) = P1
  have p1f : ∀ j, j ≠ 10 → j ≠ 11 → j ≠ 12 → j ≠ 13 → P1 100 j = hm 100 j := fun j a1 a2 a3 a4 => by
    rw [← hP1, set2_nk _ _ _ _ _ _ a4, set2_nk _ _ _ _ _ _ a3, set2_nk _ _ _ _ _ _ a2, set2_nk _ _ _ _ _ _ a1]
  have p10 : P1 100 10 = hm 100 14 := by rw [← hP1, set2_nk _ _ _ _ _ _ (by omega), set2_nk _ _ _ _ _ _ (by omega), set2_nk _ _ _ _ _ _ (by omega), set2_same]
  have p11 : P1 100 11 = hm 100 15 := by rw [← hP1, set2_nk _ _ _ _ _ _ (by omega), set2_nk _ _ _ _ _ _ (by omega), set2_same]
  have p12 : P1 100 12 = hm 100 16 := by rw [← hP1, set2_nk _ _ _ _ _ _ (by omega), set2_same]
  have p13 : P1 100 13 = hm 100 17 := by rw [← hP1, set2_same]
  have p1r : ∀ p, p ≠ 100 → P1 p = hm p := fun p hp => by rw [← hP1, set2_ne p hp, set2_ne p hp, set2_ne p hp, set2_ne p hp]
  generalize hP4 : pw (pw (pw (pw P1 102 9 (hm 103)) 104 64 (hm 105)) 108 64 (hm 109)) 106 N (hm 107) = P4
  have p4r : ∀ p, p ≠ 102 → p ≠ 104 → p ≠ 106 → p ≠ 108 → P4 p = P1 p := fun p a1 a2 a3 a4 => by rw [← hP4, pw_ne a3, pw_ne a4, pw_ne a2, pw_ne a1]
  have p102 : ∀ k, k < 9 → P4 102 k = hm 103 k := fun k hk => by rw [← hP4, pw_ne (by omega), pw_ne (by omega), pw_ne (by omega), pw_in hk]
  have p104 : ∀ k, k < 64 → P4 104 k = hm 105 k := fun k hk => by rw [← hP4, pw_ne (by omega), pw_ne (by omega), pw_in hk]
  have p108 : ∀ k, k < 64 → P4 108 k = hm 109 k := fun k hk => by rw [← hP4, pw_ne (by omega), pw_in hk]
  have p106 : ∀ k, k < N → P4 106 k = hm 107 k := fun k hk => by rw [← hP4, pw_in hk]
  generalize hP6 : pw (set2 P4 100 41 0) 124 3 (fun _ => 0) = P6
  have q41 : P6 100 41 = 0 := by rw [← hP6, pw_ne (by omega), set2_same]
  have q100 : ∀ j, j ≠ 41 → P6 100 j = P1 100 j := fun j hj => by rw [← hP6, pw_ne (by omega), set2_nk _ _ _ _ _ _ hj, p4r 100 (by omega) (by omega) (by omega) (by omega)]
  have q124 : ∀ j, j < 3 → P6 124 j = 0 := fun j hj => by rw [← hP6, pw_in hj]
  have qr : ∀ p, p ≠ 100 → p ≠ 124 → P6 p = P4 p := fun p h1 h2 => by rw [← hP6, pw_ne h2, set2_ne p h1]
  have q10 : P6 100 10 = hm 100 14 := by rw [q100 10 (by omega), p10]
  have q11 : P6 100 11 = hm 100 15 := by rw [q100 11 (by omega), p11]
  have q12 : P6 100 12 = hm 100 16 := by rw [q100 12 (by omega), p12]
  have pv6 : PV P6 := by
    refine pv_mk hv (by rw [q10]; exact b14) (by rw [q11]; exact b15) (fun k hk => ?_) ⟨?_, ?_, ?_, ?_, ?_, ?_⟩ q41 (by rw [q12]; exact b16) (fun k hk => ?_) (fun c hc64 => ?_)
    · rw [qr 102 (by omega) (by omega), p102 k hk]; exact (b103 k hk).2
    · rw [q100 39 (by omega), p1f 39 (by omega) (by omega) (by omega) (by omega)]; exact e.1
    · rw [q100 28 (by omega), p1f 28 (by omega) (by omega) (by omega) (by omega)]; exact e.2.1
    · rw [qr 110 (by omega) (by omega), p4r 110 (by omega) (by omega) (by omega) (by omega), p1r 110 (by omega)]; exact e.2.2.1
    · rw [qr 112 (by omega) (by omega), p4r 112 (by omega) (by omega) (by omega) (by omega), p1r 112 (by omega)]; exact e.2.2.2.1
    · rw [qr 114 (by omega) (by omega), p4r 114 (by omega) (by omega) (by omega) (by omega), p1r 114 (by omega)]; exact e.2.2.2.2.1
    · rw [qr 115 (by omega) (by omega), p4r 115 (by omega) (by omega) (by omega) (by omega), p1r 115 (by omega)]; exact e.2.2.2.2.2
    · rw [q12, hN] at hk
      rw [qr 106 (by omega) (by omega), p106 k (by omega), q10, q11]; exact (b107 k (by rw [hN]; omega)).2
    · rw [qr 104 (by omega) (by omega), p104 c hc64, qr 108 (by omega) (by omega), p108 c hc64]
      have := bcc c hc64
      exact ⟨this.1.2, this.2.2⟩
  obtain ⟨h2, n1, n2, n3, n4⟩ := m_beginNow pv6
  have te : TE P6 h2 := TE.of (fun p _ hp => n2 p (by omega))
  have n100 : h2 100 = P6 100 := n2 100 (by omega)
  refine ⟨h2, ?_, fun p a1 a2 a3 a4 a5 a6 a7 => ?_, fun j hj => ?_, ⟨?_, ?_, ?_, ?_, ?_⟩, fun k hk => ?_, fun c hc64 => ⟨?_, ?_⟩, fun k hk => ?_, fun j hj => ?_, pv6.te te, n3.te te, ?_⟩
  · unfold g_X9_beach
    rw [o, e_cV, rb, e_cW, b_neg (by decide), e_gF, e_pF, e_gF, set2_nk _ _ _ _ _ _ (by omega), e_pF, e_gF, set2_nk _ _ _ _ _ _ (by omega), set2_nk _ _ _ _ _ _ (by omega), e_pF, e_gF, set2_nk _ _ _ _ _ _ (by omega), set2_nk _ _ _ _ _ _ (by omega), set2_nk _ _ _ _ _ _ (by omega), e_pF, hP1, e_cI]
    refine join_gen (fun j14 hj14 => ?_)
    refine loopF_for' 9 (fun i => ((i : Int), pw P1 102 i (hm 103))) ?_ ?_ (by rw [pw_0]; rfl) (fu _ (by omega))
    · intro i hi self
      unfold g_X9_beach_l56
      dsimp only
      rw [e_cI, b_neg (by omega), e_rdn _ _ _ _ _ (by omega), pw_ne (by omega), p1r 103 (by omega), e_wrn _ _ _ _ _ _ (by omega), pw_step, e_add _ _ _ (by omega), show (i : Int) + 1 = ((i + 1 : Nat) : Int) by omega]
    intro self
    unfold g_X9_beach_l56
    dsimp only
    rw [e_cI, b_pos (by omega), hj14, e_cI]
    refine join_gen (fun j18 hj18 => ?_)
    refine loopF_for' 64 (fun i => ((i : Int), pw (pw (pw P1 102 9 (hm 103)) 104 i (hm 105)) 108 i (hm 109))) ?_ ?_ (by rw [pw_0, pw_0]; rfl) (fu _ (by omega))
    · intro i hi self
      have := bcc i hi
      unfold g_X9_beach_l46
      dsimp only
      rw [e_cI, b_neg (by omega), e_rdn _ _ _ _ _ (by omega), pw_ne (by omega), pw_ne (by omega), pw_ne (by omega), p1r 105 (by omega), e_wrn _ _ _ _ _ _ (by omega), pw_set (by omega), pw_step, e_rdn _ _ _ _ _ (by omega), pw_ne (by omega), pw_ne (by omega), pw_ne (by omega), p1r 109 (by omega), e_wrZ _ _ _ _ _ _ (by omega) this.2.2, pw_step, e_add _ _ _ (by omega), show (i : Int) + 1 = ((i + 1 : Nat) : Int) by omega]
    intro self
    unfold g_X9_beach_l46
    dsimp only
    rw [e_cI, b_pos (by omega), hj18, e_cI]
    refine join_gen (fun j22 hj22 => ?_)
    refine loopF_for' N (fun i => ((i : Int), pw (pw (pw (pw P1 102 9 (hm 103)) 104 64 (hm 105)) 108 64 (hm 109)) 106 i (hm 107))) ?_ ?_ (by rw [pw_0]; rfl) (fu _ (by omega))
    · intro i hi self
      unfold g_X9_beach_l38
      dsimp only
      rw [e_gF, pw_ne (by omega), pw_ne (by omega), pw_ne (by omega), pw_ne (by omega), p12, hN, b_neg (by omega), e_rdn _ _ _ _ _ (by omega), pw_ne (by omega), pw_ne (by omega), pw_ne (by omega), pw_ne (by omega), p1r 107 (by omega), e_wrn _ _ _ _ _ _ (by omega), pw_step, e_add _ _ _ (by omega), show (i : Int) + 1 = ((i + 1 : Nat) : Int) by omega]
    intro self
    unfold g_X9_beach_l38
    dsimp only
    rw [hP4, e_gF, p4r 100 (by omega) (by omega) (by omega) (by omega), p12, hN, b_pos (by omega), hj22, e_cI, e_pF, e_cI]
    refine loopF_for' 3 (fun i => ((i : Int), pw (set2 P4 100 41 0) 124 i (fun _ => 0))) ?_ ?_ (by rw [pw_0]; rfl) (fu _ (by omega))
    · intro i hi self
      unfold g_X9_beach_l28
      dsimp only
      rw [e_cI, b_neg (by omega), e_cI, e_wrZ _ _ _ _ _ _ (by omega) (by omega), pw_step0, e_add _ _ _ (by omega), show (i : Int) + 1 = ((i + 1 : Nat) : Int) by omega]
    · intro self
      unfold g_X9_beach_l28
      dsimp only
      rw [e_cI, b_pos (by omega), hP6, n1, e_cV, e_gF, n100, q100 13 (by omega), p13]
  · rw [n2 p a6, qr p a1 a7, p4r p a2 a3 a4 a5, p1r p a1]
  · rw [n100, q100 j (by omega), p1f j (by omega) (by omega) (by omega) (by omega)]
  · rw [n100, q10]
  · rw [n100, q11]
  · rw [n100, q12]
  · rw [n100, q100 13 (by omega), p13]
  · rw [n100, q41]
  · rw [n2 102 (by omega), qr 102 (by omega) (by omega), p102 k hk]
  · rw [n2 104 (by omega), qr 104 (by omega) (by omega), p104 c hc64]
  · rw [n2 108 (by omega), qr 108 (by omega) (by omega), p108 c hc64]
  · rw [n2 106 (by omega), qr 106 (by omega) (by omega), p106 k (by rw [hN] at hk; omega)]
  · rw [n2 124 (by omega), q124 j hj]
  · rw [n4, qr 121 (by omega) (by omega), p4r 121 (by omega) (by omega) (by omega) (by omega), p1r 121 (by omega)]
theorem str_eq {Q : Hp} {w : Nat} {z : Int} (hv : PV Q) (hw : w ≤ 16) (h : g_X8_strengthOf (w : Int) (Q 102 6) (Q 102 7) (Q 102 8) = some z) : z = strP Q (w : Int) := by
  have h6 := hv.2.2.2.2.2.2.2.2.1
  have h7 := hv.2.2.2.2.2.2.2.2.2.1
  have h8 := hv.2.2.2.2.2.2.2.2.2.2.1
  unfold strP
  by_cases y : w = 0 ∨ w = 16
  · obtain ⟨z', e1, e2⟩ := k_strengthAny (w := (w : Int)) (b := Q 102 6) (t := Q 102 7) (l := Q 102 8)
    rw [e1] at h
    have hz := e2 (by omega)
    injection h with h
    rcases y with y | y
    · rw [if_pos (by omega)]; omega
    · rw [if_neg (by omega), if_pos (by omega)]; omega
  · rw [if_neg (by omega), if_neg (by omega)]
    rw [k_strengthOf (by omega) h6 h7 h8] at h
    injection h with h
    rw [← h]
    rfl
theorem BG.rs {P h : Hp} {b : Nat} {s : Nat → Int} (hv : PV P) (g : BG P s)
    (f : ∀ k, k < 64 → h (b + 1) k = P 102 0 + P 104 k ∧ h (b + 4) k = P 108 k ∧ h (b + 2) k = P 102 3 ∧ h (b + 3) k = 0) (f5 : ∀ k, k < 3 → h (b + 5) k = -1)
    (fb : h b 7 = -1 ∧ h b 9 = 0 ∧ h b 10 = 0 ∧ h b 11 = 0 ∧ h b 12 = 0 ∧ h b 13 = 0 ∧ h b 14 = 0 ∧ h b 15 = 0) (h8 : h b 8 = s 288) : RS P h b s := by
  obtain ⟨g1, ⟨g2, g3⟩, g4, g5⟩ := g
  have hn := hv.n
  have p12 := (pv_flags hv).1
  obtain ⟨f7, f9, f10, f11, f12, f13, f14, f15⟩ := fb
  refine ⟨⟨fun c hc => ?_, ⟨?_, ?_, ?_, ?_, ?_, ?_⟩, ⟨?_, fun k hk => ?_⟩, ⟨?_, fun q => absurd g5 q⟩, h8⟩, Or.inl f15⟩
  · obtain ⟨e1, e2, e3, e4⟩ := g1 c hc
    obtain ⟨k1, k2, k3, k4⟩ := f c (by omega)
    rw [e1, e2, e3, e4, k1, k2, k3, k4]
    exact ⟨rfl, rfl, rfl, rfl⟩
  · rw [f9, g4 270 (by omega) (by omega)]
  · rw [f10, g4 269 (by omega) (by omega)]
  · rw [f11, g4 271 (by omega) (by omega)]
  · rw [f12, g4 272 (by omega) (by omega)]
  · rw [f13, g4 273 (by omega) (by omega)]
  · rw [f14, g4 274 (by omega) (by omega)]
  · rw [g2]; exact Int.le_refl _
  · obtain ⟨e1, e2, e3⟩ := g3 k hk
    rw [f5 k (by omega), e1, e2, e3]
    exact ⟨rfl, rfl, rfl⟩
  · rw [f7, g5]
theorem s_beach {n : Nat} {h : Hp} (r : Rel n h) : ∃ z h1 h2, g_X8_beach h = some (z, h1) ∧ g_X9_beach h1 = some (z, h2) ∧ Rel (n + 1) h2 := by
  have r0 := r
  obtain ⟨hv, ⟨c, rb⟩, ⟨v, rs⟩, rp, rn, rsl, rt, rf, ru⟩ := r
  obtain ⟨rc, ⟨r01, r02⟩, rpb, rc6⟩ := rb
  obtain ⟨d, hd⟩ : ∃ d : Nat, d = 12 - c := ⟨12 - c, rfl⟩
  have hd3 : d = 3 ∨ d = 9 := by omega
  have hdc : d ≠ c := by omega
  have e02 : stK h 0 2 = (d : Int) := by rw [stK_p (by omega), r02]; omega
  -- once from h itself: what the class does
  obtain ⟨LA, hmA, oA, xA, aA, nA, -, -, -⟩ := y_open r0 (g := h) (fun _ _ => rfl)
  obtain ⟨hc', k1, k2, k3⟩ := y_readBeach (d := d) (by omega) xA aA nA
  have keep : ∀ g : Hp, (∀ p, 100 ≤ p → g p = h p) → ∃ hO, g_X9_open g = some hO ∧ (∀ p, p ≠ 100 → hO p = g p) ∧ (∀ j, 10 ≤ j → hO 100 j = g 100 j) ∧ hO 100 1 = 0 ∧
      ((∃ hm', g_X9_readBeach hO = some (1, hm') ∧ NF hc' hm' ∧ BB d hc' hm' ∧ MF hO hm' ∧ ∀ w : Nat, w ≤ 16 → g_X8_strengthOf (w : Int) (hm' 103 6) (hm' 103 7) (hm' 103 8) = some (hc' (d + 5) w)) ∨ ∃ hm', g_X9_readBeach hO = some (0, hm') ∧ FF hc' hm' ∧ MF hO hm') := by
    intro g hg
    obtain ⟨L, hm, o, x, a, n, f1, f2, f3⟩ := y_open r0 hg
    obtain ⟨hc2, q1, q2, q3⟩ := y_readBeach (d := d) (by omega) x a n
    rw [k1] at q1
    injection q1 with q1
    subst q1
    exact ⟨hm, o, f1, f2, f3, q3⟩
  have cfr : ∀ p, p ≠ 1 → (p < d ∨ d + 5 < p) → hc' p = h p := fun p h1 h2 => by rw [k2.1 p h1 h2, stK_p h1]
  have c1 : hc' 1 1 = h 1 1 := by rw [k2.2 1 (by omega), stK_j (by omega)]
  have t3 : ∀ k : Nat, k < 900 → BT (h 2 k) (h 101 k) := rt.2.2
  unfold g_X8_beach
  rw [k_start, e_cV, e_gR (stK h) 0 2 d _ _ e02 (by rcases hd3 with q | q <;> subst q <;> simp), k1, e_cV, e_cI, e_pF, k_isFaulty, set2_nk _ _ _ _ _ _ (by omega)]
  by_cases flt : hc' 1 6 = 0
  rotate_left
  · -- a fault
    have hg : ∀ p, 100 ≤ p → set2 hc' 1 1 0 p = h p := fun p hp => by rw [set2_ne p (by omega), cfr p (by omega) (by omega)]
    obtain ⟨hO, o1, o2, o3, o4, o5⟩ := keep (set2 hc' 1 1 0) hg
    rcases o5 with ⟨hm, u1, u2, -⟩ | ⟨hm, u1, u2, u3⟩
    · exact absurd u2.1 flt
    rw [if_neg flt, e_cP, b_neg (by decide), e_cI]
    refine ⟨-1, _, hm, rfl, ?_, ?_⟩
    · unfold g_X9_beach
      rw [o1, e_cV, u1, e_cW, b_pos rfl, e_cI]
    have fr : ∀ p, p ≠ 1 → (p < d ∨ d + 5 < p) → p ≠ 100 → p ≠ 103 → p ≠ 105 → p ≠ 107 → p ≠ 109 → hm p = h p := fun p h1 h2 h3 h4 h5 h6 h7 => by
      rw [u3.1 p h3 h4 h5 h6 h7, o2 p h3, set2_ne p h1, cfr p h1 h2]
    have f100 : ∀ j, (9 < j ∧ j < 14) ∨ (18 < j ∧ j ≠ 27) → hm 100 j = h 100 j := fun j hj => by
      rw [u3.2 j (by omega), o3 j (by omega), set2_ne 100 (by omega), cfr 100 (by omega) (by omega)]
    have te : TE h hm := by
      unfold TE
      rw [f100 10 (by omega), f100 11 (by omega), f100 12 (by omega), f100 28 (by omega), f100 39 (by omega), f100 41 (by omega), fr 102 (by omega) (by omega) (by omega) (by omega) (by omega) (by omega) (by omega), fr 104 (by omega) (by omega) (by omega) (by omega) (by omega) (by omega) (by omega), fr 106 (by omega) (by omega) (by omega) (by omega) (by omega) (by omega) (by omega), fr 108 (by omega) (by omega) (by omega) (by omega) (by omega) (by omega) (by omega), fr 110 (by omega) (by omega) (by omega) (by omega) (by omega) (by omega) (by omega), fr 112 (by omega) (by omega) (by omega) (by omega) (by omega) (by omega) (by omega), fr 114 (by omega) (by omega) (by omega) (by omega) (by omega) (by omega) (by omega), fr 115 (by omega) (by omega) (by omega) (by omega) (by omega) (by omega) (by omega), fr 118 (by omega) (by omega) (by omega) (by omega) (by omega) (by omega) (by omega), fr 119 (by omega) (by omega) (by omega) (by omega) (by omega) (by omega) (by omega), fr 120 (by omega) (by omega) (by omega) (by omega) (by omega) (by omega) (by omega)]
      exact ⟨⟨rfl, rfl, rfl, rfl, rfl, rfl⟩, ⟨rfl, rfl, rfl, rfl, rfl⟩, rfl, rfl, rfl, rfl, rfl, rfl⟩
    have f0 : hm 0 = h 0 := fr 0 (by omega) (by omega) (by omega) (by omega) (by omega) (by omega) (by omega)
    have fq : ∀ p, 15 ≤ p → p < 100 → hm p = h p := fun p h1 h2 => fr p (by omega) (by omega) (by omega) (by omega) (by omega) (by omega) (by omega)
    have fq2 : ∀ p, 110 ≤ p → hm p = h p := fun p h1 => fr p (by omega) (by omega) (by omega) (by omega) (by omega) (by omega) (by omega)
    have fM1 : hm 1 = set2 hc' 1 1 0 1 := by rw [u3.1 1 (by omega) (by omega) (by omega) (by omega) (by omega), o2 1 (by omega)]
    refine ⟨hv.te te, ⟨c, rc, ⟨by rw [f0]; exact r01, by rw [f0]; exact r02⟩, (rpb.te te).hp (fun p h1 h2 => fr p (by omega) (by omega) (by omega) (by omega) (by omega) (by omega) (by omega)), ?_⟩, ⟨v, rs.mv te (fun k _ => by rw [f0]) (fun p _ _ => fq p (by omega) (by omega)) (f100 29 (by omega))⟩, rp.mv hv te (by rw [f0]) (fun p _ _ => fq p (by omega) (by omega)), rn.mv (by omega) te (fun p _ _ => fq p (by omega) (by omega)) (fq2 121 (by omega)), fun j hj => (rsl j hj).mv hj (by omega) te (fun p _ _ => fq p (by omega) (by omega)) ⟨fq2 123 (by omega), fq2 124 (by omega), fq 35 (by omega) (by omega)⟩, ⟨?_, ?_, ?_⟩, ⟨?_, ?_⟩, ru.mv (fun p _ _ => fq p (by omega) (by omega)) (fun p _ _ => fq2 p (by omega)) ⟨f100 51 (by omega), f100 52 (by omega), f100 53 (by omega)⟩⟩
    · rw [fr c (by omega) (by omega) (by omega) (by omega) (by omega) (by omega) (by omega), f100 13 (by omega)]; exact rc6
    · rw [fM1, set2_same, u3.2 1 (by omega), o4]
    · rw [fM1, set2_same]; omega
    · rw [fr 2 (by omega) (by omega) (by omega) (by omega) (by omega) (by omega) (by omega), fr 101 (by omega) (by omega) (by omega) (by omega) (by omega) (by omega) (by omega)]; exact t3
    · rw [fM1, set2_nk _ _ _ _ _ _ (by omega)]; exact u2.2.1
    · rw [fM1, set2_nk _ _ _ _ _ _ (by omega)]; exact u2.2.2
  -- a beach
  rcases k3 with ⟨hmX, -, kn, kb, -⟩ | ⟨hmX, -, kf, -⟩
  rotate_left
  · exact absurd flt kf.1
  have f0 : hc' 0 = h 0 := cfr 0 (by omega) (by omega)
  have e35 : ∀ p, p ≠ 35 → pw (set2 (set2 (set2 (set2 hc' 1 1 0) 0 2 (c : Int)) 0 1 (d : Int)) 0 6 0) 35 3 (fun _ => 0) p = set2 (set2 (set2 (set2 hc' 1 1 0) 0 2 (c : Int)) 0 1 (d : Int)) 0 6 0 p := fun p hp => pw_ne hp
  have eg : ∀ p, 2 ≤ p → set2 (set2 (set2 (set2 hc' 1 1 0) 0 2 (c : Int)) 0 1 (d : Int)) 0 6 0 p = hc' p := fun p hp => by rw [set2_ne p (by omega), set2_ne p (by omega), set2_ne p (by omega), set2_ne p (by omega)]
  have z01 : pw (set2 (set2 (set2 (set2 hc' 1 1 0) 0 2 (c : Int)) 0 1 (d : Int)) 0 6 0) 35 3 (fun _ => 0) 0 1 = (d : Int) := by rw [e35 0 (by omega), set2_nk _ _ _ _ _ _ (by omega), set2_same]
  have z02 : pw (set2 (set2 (set2 (set2 hc' 1 1 0) 0 2 (c : Int)) 0 1 (d : Int)) 0 6 0) 35 3 (fun _ => 0) 0 2 = (c : Int) := by rw [e35 0 (by omega), set2_nk _ _ _ _ _ _ (by omega), set2_nk _ _ _ _ _ _ (by omega), set2_same]
  have z06 : pw (set2 (set2 (set2 (set2 hc' 1 1 0) 0 2 (c : Int)) 0 1 (d : Int)) 0 6 0) 35 3 (fun _ => 0) 0 6 = 0 := by rw [e35 0 (by omega), set2_same]
  have z0 : ∀ k, k = 3 ∨ k = 4 → pw (set2 (set2 (set2 (set2 hc' 1 1 0) 0 2 (c : Int)) 0 1 (d : Int)) 0 6 0) 35 3 (fun _ => 0) 0 k = h 0 k := fun k hk => by rw [e35 0 (by omega), set2_nk _ _ _ _ _ _ (by omega), set2_nk _ _ _ _ _ _ (by omega), set2_nk _ _ _ _ _ _ (by omega), set2_np _ _ _ _ _ _ (by omega), f0]
  have z1 : ∀ j, j ≠ 1 → pw (set2 (set2 (set2 (set2 hc' 1 1 0) 0 2 (c : Int)) 0 1 (d : Int)) 0 6 0) 35 3 (fun _ => 0) 1 j = hc' 1 j := fun j hj => by rw [e35 1 (by omega), set2_ne 1 (by omega), set2_ne 1 (by omega), set2_ne 1 (by omega), set2_nk _ _ _ _ _ _ hj]
  have z11 : pw (set2 (set2 (set2 (set2 hc' 1 1 0) 0 2 (c : Int)) 0 1 (d : Int)) 0 6 0) 35 3 (fun _ => 0) 1 1 = 0 := by rw [e35 1 (by omega), set2_ne 1 (by omega), set2_ne 1 (by omega), set2_ne 1 (by omega), set2_same]
  have z35 : ∀ j, j < 3 → pw (set2 (set2 (set2 (set2 hc' 1 1 0) 0 2 (c : Int)) 0 1 (d : Int)) 0 6 0) 35 3 (fun _ => 0) 35 j = 0 := fun j hj => pw_in hj
  have zp : ∀ p, 2 ≤ p → p ≠ 35 → pw (set2 (set2 (set2 (set2 hc' 1 1 0) 0 2 (c : Int)) 0 1 (d : Int)) 0 6 0) 35 3 (fun _ => 0) p = hc' p := fun p h1 h2 => by rw [e35 p h2, eg p h1]
  rw [if_pos flt, e_cP, b_pos rfl, e_gR (set2 hc' 1 1 0) 0 2 d _ _ (by rw [set2_np _ _ _ _ _ _ (by omega), f0, r02]; omega) (by rcases hd3 with q | q <;> subst q <;> simp), e_gR (set2 hc' 1 1 0) 0 1 c _ _ (by rw [set2_np _ _ _ _ _ _ (by omega), f0, r01]) (by rcases rc with q | q <;> subst q <;> simp)]
  have e_pR : ∀ {R : Type} (g : Hp) (b k q : Nat) (K : Hp → Option R), pR g b k q K = K (set2 g b k (q : Int)) := fun _ _ _ _ _ => rfl
  rw [e_pR, e_pR, e_cI, e_pF, e_cI]
  obtain ⟨h1, b1, b2, b3, b4, b5⟩ := k_begin0 (h := pw (set2 (set2 (set2 (set2 hc' 1 1 0) 0 2 (c : Int)) 0 1 (d : Int)) 0 6 0) 35 3 (fun _ => 0)) (b := 26) (c := d) (by omega) (by
      rw [zp (d + 1) (by omega) (by omega)]
      have := kb.2.1 0 (by omega)
      rw [show 2 + 0 = 2 from rfl] at this
      rw [this.1]
      exact this.2) (fun k hk => by
      rw [zp (d + 2) (by omega) (by omega)]
      have := (kb.2.2.1 k hk).1
      rw [this.1]
      exact this.2)
  have cls : (joinF (fun (a14 : Hp) => gR a14 0 1 [3, 9] fun q17 => cV (g_X3_begin 26 q17 a14) fun h18 => gR h18 0 1 [3, 9] fun q19 => gF h18 q19 6 fun z20 => some (z20, h18)) fun j15 => loopF (g_X8_beach_l22 j15) FU (0, set2 (set2 (set2 (set2 hc' 1 1 0) 0 2 (c : Int)) 0 1 (d : Int)) 0 6 0)) = some (hc' d 6, h1) := by
    refine join_gen (fun j15 hj15 => ?_)
    refine loopF_for' 3 (fun i => ((i : Int), pw (set2 (set2 (set2 (set2 hc' 1 1 0) 0 2 (c : Int)) 0 1 (d : Int)) 0 6 0) 35 i (fun _ => 0))) ?_ ?_ (by rw [pw_0]; rfl) (fu _ (by omega))
    · intro i hi self
      unfold g_X8_beach_l22
      dsimp only
      rw [e_cI, b_neg (by omega), e_cI, e_wrZ _ _ _ _ _ _ (by omega) (by omega), pw_step0, e_add _ _ _ (by omega), show (i : Int) + 1 = ((i + 1 : Nat) : Int) by omega]
    · intro self
      unfold g_X8_beach_l22
      dsimp only
      rw [e_cI, b_pos (by omega), hj15, e_gR _ 0 1 d _ _ z01 (by rcases hd3 with q | q <;> subst q <;> simp), b1, e_cV, e_gR _ 0 1 d _ _ (by rw [b2 0 (by omega)]; exact z01) (by rcases hd3 with q | q <;> subst q <;> simp), e_gF, b2 d (by omega), zp d (by omega) (by omega)]
  rw [cls]
  generalize hG : pw (set2 (set2 (set2 (set2 hc' 1 1 0) 0 2 (c : Int)) 0 1 (d : Int)) 0 6 0) 35 3 (fun _ => 0) = G at *
  have hg : ∀ p, 100 ≤ p → h1 p = h p := fun p hp => by rw [b2 p (by omega), zp p (by omega) (by omega), cfr p (by omega) (by omega)]
  obtain ⟨hO, o1, o2, o3, o4, o5⟩ := keep h1 hg
  rcases o5 with ⟨hm, u1, u2, u3, u4, u5⟩ | ⟨hm, u1, u2, -⟩
  rotate_left
  · exact absurd flt u2.1
  have g100 : ∀ j, (9 < j ∧ j < 14) ∨ (18 < j ∧ j ≠ 27) → hm 100 j = h 100 j := fun j hj => by rw [u4.2 j (by omega), o3 j (by omega), hg 100 (by omega)]
  have gp : ∀ p, p ≠ 100 → p ≠ 103 → p ≠ 105 → p ≠ 107 → p ≠ 109 → hm p = h1 p := fun p a1 a2 a3 a4 a5 => by rw [u4.1 p a1 a2 a3 a4 a5, o2 p a1]
  obtain ⟨h2, w1, w2, w3, ⟨w10, w11, w12, w13, w41⟩, w5, w6, w7, w8, w9, wg, w288⟩ := m_beach_ok (P := h) hv ⟨g100 39 (by omega), g100 28 (by omega), by rw [gp 110 (by omega) (by omega) (by omega) (by omega) (by omega), hg 110 (by omega)], by rw [gp 112 (by omega) (by omega) (by omega) (by omega) (by omega), hg 112 (by omega)], by rw [gp 114 (by omega) (by omega) (by omega) (by omega) (by omega), hg 114 (by omega)], by rw [gp 115 (by omega) (by omega) (by omega) (by omega) (by omega), hg 115 (by omega)]⟩ u3 o1 u1
  have c6 : hc' d 6 = hm 100 17 := u3.2.2.2.2.1
  refine ⟨_, h1, h2, rfl, by rw [w1, c6], ?_⟩
  -- places of the class
  have lo : ∀ p, p < 100 → h2 p = h1 p := fun p hp => by rw [w2 p (by omega) (by omega) (by omega) (by omega) (by omega) (by omega) (by omega), gp p (by omega) (by omega) (by omega) (by omega) (by omega)]
  have lo2 : ∀ p, p < 100 → (p < 26 ∨ 33 < p) → h2 p = G p := fun p hp hq => by rw [lo p hp, b2 p (by omega)]
  have lo3 : ∀ p, 2 ≤ p → p < 100 → (p < 26 ∨ 33 < p) → p ≠ 35 → (p < d ∨ d + 5 < p) → h2 p = h p := fun p a1 a2 a3 a4 a5 => by rw [lo2 p a2 a3, zp p a1 a4, cfr p (by omega) a5]
  have hi2 : ∀ p, 110 ≤ p → p ≠ 121 → p ≠ 124 → h2 p = h p := fun p a1 a2 a3 => by rw [w2 p (by omega) (by omega) (by omega) (by omega) (by omega) a2 a3, gp p (by omega) (by omega) (by omega) (by omega) (by omega), hg p (by omega)]
  have hb : ∀ p, d ≤ p → p ≤ d + 5 → h2 p = hc' p := fun p a1 a2 => by rw [lo2 p (by omega) (by omega), zp p (by omega) (by omega)]
  have k121 : h2 121 288 = h 121 288 := by rw [w288, gp 121 (by omega) (by omega) (by omega) (by omega) (by omega), hg 121 (by omega)]
  have kv : KV (h2 121) := by
    have := rn.1.2.2.2.2
    unfold KV at this ⊢
    rw [k121]
    exact this
  refine ⟨w9, ⟨d, hd3, ⟨?_, ?_⟩, ⟨⟨?_, ?_, ?_⟩, ?_, ?_, ?_, ?_⟩, ?_⟩, ⟨v, rs.1, ⟨?_, ?_⟩, ?_, ?_⟩, ⟨?_, ?_⟩, ⟨wg.iv w9 (by omega) kv, ?_, ?_⟩, fun j hj => ⟨?_, Or.inl ?_⟩, ⟨?_, ?_, ?_⟩, ⟨?_, ?_⟩, ?_⟩
  · rw [lo2 0 (by omega) (by omega)]; exact z01
  · rw [lo2 0 (by omega) (by omega), z02]; omega
  · rw [hb (d + 1) (by omega) (by omega), w10]; exact u3.1.1.1
  · rw [hb (d + 1) (by omega) (by omega), w11]; exact u3.1.1.2
  · intro k hk; rw [hb (d + 1) (by omega) (by omega), w5 k hk]; exact (u3.2.1 k hk).1
  · intro w hw
    rw [hb (d + 5) (by omega) (by omega)]
    refine str_eq w9 hw ?_
    rw [w5 6 (by omega), w5 7 (by omega), w5 8 (by omega)]
    exact u5 w hw
  · rw [hb d (by omega) (by omega), w12]; exact u3.2.2.2.1.1.1
  · intro k hk
    rw [w12] at hk
    rw [hb (d + 4) (by omega) (by omega), w7 k hk]; exact (u3.2.2.2.1.2 k hk).1
  · intro k hk
    rw [hb (d + 2) (by omega) (by omega), hb (d + 3) (by omega) (by omega), (w6 k hk).1, (w6 k hk).2]
    exact ⟨(u3.2.2.1 k hk).1.1, (u3.2.2.1 k hk).2.1⟩
  · rw [hb d (by omega) (by omega), w13]; exact c6
  · rw [lo2 0 (by omega) (by omega), z0 3 (by omega)]; exact rs.2.1.1
  · rw [lo2 0 (by omega) (by omega), z0 4 (by omega)]; exact rs.2.1.2
  · have hv15 := rs.1
    have ps := rs.2.2.1
    refine PS.hp (h := h) (fun p h1 h2 => lo3 p (by omega) (by omega) (by omega) (by omega) (by omega)) ?_
    unfold PS at ps ⊢
    rw [w3 39 (by omega), g100 39 (by omega), w3 28 (by omega), g100 28 (by omega), hi2 110 (by omega) (by omega) (by omega), hi2 112 (by omega) (by omega) (by omega), hi2 114 (by omega) (by omega) (by omega), hi2 115 (by omega) (by omega) (by omega)]
    exact ps
  · have hv15 := rs.1
    rw [lo3 v (by omega) (by omega) (by omega) (by omega) (by omega), w3 29 (by omega), g100 29 (by omega)]; exact rs.2.2.2
  · rw [lo2 0 (by omega) (by omega), z06, w41]
  · intro p hp; rw [w41] at hp; exact absurd hp (by omega)
  · refine wg.rs w9 (fun k hk => ?_) (fun k hk => by rw [lo 31 (by omega)]; exact b4 k hk) ?_ ?_
    · obtain ⟨q1, q2, q3, q4⟩ := b3 k hk
      rw [lo 27 (by omega), lo 30 (by omega), lo 28 (by omega), lo 29 (by omega), q1, q2, q3, q4, zp (d + 1) (by omega) (by omega), zp (d + 2) (by omega) (by omega), zp (d + 3) (by omega) (by omega), w5 0 (by omega), w5 3 (by omega), (w6 k hk).1, (w6 k hk).2, (u3.2.2.1 k hk).1.1, (u3.2.2.1 k hk).2.1]
      have a0 := (u3.2.1 0 (by omega)).1
      have a3 := (u3.2.1 3 (by omega)).1
      rw [show 2 + 0 = 2 from rfl] at a0
      rw [show 2 + 3 = 5 from rfl] at a3
      rw [a0, a3]
      exact ⟨rfl, rfl, rfl, rfl⟩
    · rw [lo 26 (by omega)]
      obtain ⟨q7, q9, q10, q11, q12, q13, q14, q15, -⟩ := b5
      exact ⟨q7, q9, q10, q11, q12, q13, q14, q15⟩
    · rw [lo 26 (by omega), b5.2.2.2.2.2.2.2.2, zp 26 (by omega) (by omega), cfr 26 (by omega) (by omega), k121]
      exact rn.2.1.1.2.2.2.2
  · exact wg.2.1.1
  · rw [lo2 35 (by omega) (by omega), z35 j hj, w8 j hj]
  · rw [lo2 35 (by omega) (by omega), z35 j hj]
  · rw [lo2 1 (by omega) (by omega), z11, w3 1 (by omega), u4.2 1 (by omega), o4]
  · rw [lo2 1 (by omega) (by omega), z11]; omega
  · rw [lo3 2 (by omega) (by omega) (by omega) (by omega) (by omega), w2 101 (by omega) (by omega) (by omega) (by omega) (by omega) (by omega) (by omega), gp 101 (by omega) (by omega) (by omega) (by omega) (by omega), hg 101 (by omega)]; exact t3
  · rw [lo2 1 (by omega) (by omega), z1 6 (by omega), w3 8 (by omega), u2.1, u2.2.1]
  · rw [lo2 1 (by omega) (by omega), z1 7 (by omega), w3 9 (by omega), u2.2.2.1, u2.2.2.2]
  · exact ru.mv (fun p _ _ => lo3 p (by omega) (by omega) (by omega) (by omega) (by omega)) (fun p _ _ => hi2 p (by omega) (by omega) (by omega)) ⟨by rw [w3 51 (by omega), g100 51 (by omega)], by rw [w3 52 (by omega), g100 52 (by omega)], by rw [w3 53 (by omega), g100 53 (by omega)]⟩
