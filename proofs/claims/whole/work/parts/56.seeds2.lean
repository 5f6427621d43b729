/-! CALLS by seeds: stand's model, outlasts, contest -/
theorem m_stand {h g : Hp} {N M k : Nat} {n : Int} (r : Rel N h) (hN : N ≤ 600) (f : ∀ p, p ≠ 122 → (p < 46 ∨ 58 < p) → g p = h p) (hk : 1 ≤ k ∧ k ≤ 9) (hn : 1 ≤ n ∧ n ≤ 30) (hM : 1 ≤ M ∧ M ≤ 99) :
    ∃ s, g_X9_stand n (k : Int) (M : Int) g = some ((ssP (fun c => h 121 (192 + c)) (stC h n M k) (nN h)).1, setRow g 122 s) := by
  have hv := r.1
  have hNn := hv.n
  have hnn := PV.nn (P := h)
  obtain ⟨c10, c11, -⟩ := hv.cr
  have key : ∃ rr : Int × Hp, g_X9_stand n (k : Int) (M : Int) g = some rr ∧ (rr.1 = (ssP (fun c => h 121 (192 + c)) (stC h n M k) (nN h)).1 ∧ ∃ s, rr.2 = setRow g 122 s) := by
    unfold g_X9_stand
    (rw [e_i2l, e_cI, e_cI, e_in_t _ _ _ _ hn, e_join]; (try dsimp only); rw [b_neg (by decide), m_areSeeds_t (by unfold okSeeds; omega), e_cP, b_neg (by decide), m_areMinutes_t (by unfold okSpan; omega), e_cP, b_neg (by decide), e_cI, e_cI, e_cI])
    refine loopF_ex (nN h) (fun i (q : Int × Int × Int × Hp) => (q.1 = (ssP (fun c => h 121 (192 + c)) (stC h n M k) i).1 ∧ q.2.1 = (ssP (fun c => h 121 (192 + c)) (stC h n M k) i).2 ∧ q.2.2.1 = (i : Int)) ∧ ∃ s, q.2.2.2 = setRow g 122 s) ?_ ?_ FU 0 _ (Nat.zero_le _) (fu _ (by omega)) ⟨⟨rfl, rfl, rfl⟩, g 122, (setRow_self g 122).symm⟩
    · rintro i ⟨y1, y2, y3, g1⟩ hi ⟨⟨e1, e2, e3⟩, s, hg⟩ self
      dsimp only at e1 e2 e3 hg
      subst e1 e2 e3 hg
      left
      unfold g_X9_stand_l14
      dsimp only
      have hst := (r.2.2.2.2.1.1.1 i hi).2.2.2
      rw [e_gF, setRow_ne _ _ _ _ (by omega), f 100 (by omega) (by omega), c10, e_gF, setRow_ne _ _ _ _ (by omega), f 100 (by omega) (by omega), c11, e_mul _ _ _ (by rw [hnn]; omega), hnn, b_neg (by omega), e_cI, e_add _ _ _ (by omega), show (192 : Int) + (i : Int) = ((192 + i : Nat) : Int) by omega, e_rdn _ _ _ _ _ (by omega), setRow_ne _ _ _ _ (by omega), f 121 (by omega) (by omega), e_cI]
      rw [show ssP (fun c => h 121 (192 + c)) (stC h n M k) (i + 1) = if h 121 (192 + i) = 1 then ssP (fun c => h 121 (192 + c)) (stC h n M k) i else if (ssP (fun c => h 121 (192 + c)) (stC h n M k) i).2 < stC h n M k i then ((i : Int), stC h n M k i) else ssP (fun c => h 121 (192 + c)) (stC h n M k) i from rfl]
      refine join_exr (fun j27 hj27 => ?_)
      by_cases z : h 121 (192 + i) = 1
      · rw [b_pos z, hj27, e_add _ _ _ (by omega), if_pos z]
        refine ⟨_, ?_, rfl⟩
        exact ⟨⟨rfl, rfl, by (try dsimp only); omega⟩, s, rfl⟩
      rw [b_neg z, e_cI, e_cI, if_neg z]
      refine join_exr (fun j35 hj35 => ?_)
      have lp : ∃ s2, loopF (g_X9_stand_l39 j35 ((ssP (fun c => h 121 (192 + c)) (stC h n M k) i).1, (ssP (fun c => h 121 (192 + c)) (stC h n M k) i).2, (i : Int), setRow g 122 s) n (k : Int) (M : Int)) FU (0, 1, setRow g 122 s) = j35 (stC h n M k i, setRow g 122 s2) := by
        have : ∀ m, m ≤ k → ∀ F, k - m < F → ∀ s0, ∃ s2, loopF (g_X9_stand_l39 j35 ((ssP (fun c => h 121 (192 + c)) (stC h n M k) i).1, (ssP (fun c => h 121 (192 + c)) (stC h n M k) i).2, (i : Int), setRow g 122 s) n (k : Int) (M : Int)) F (sumS (stV h i n M) m, (m : Int) + 1, setRow g 122 s0) = j35 (stC h n M k i, setRow g 122 s2) := by
          intro m hm
          generalize hd : k - m = d
          induction d generalizing m with
          | zero =>
            intro F hF s0
            obtain ⟨F, rfl⟩ : ∃ z, F = z + 1 := ⟨F - 1, by omega⟩
            refine ⟨s0, ?_⟩
            show g_X9_stand_l39 _ _ _ _ _ (loopF _ F) _ = _
            unfold g_X9_stand_l39
            dsimp only
            rw [b_pos (by omega), show m = k by omega]
            rfl
          | succ d ih =>
            intro F hF s0
            obtain ⟨F, rfl⟩ : ∃ z, F = z + 1 := ⟨F - 1, by omega⟩
            have hb := sumS_in (f := stV h i n M) (U := (M : Int)) (fun i => stV_in) m
            have hb2 : (m : Int) * (M : Int) ≤ 9 * 99 := Int.mul_le_mul (by omega) (by omega) (by omega) (by omega)
            have hv1 := stV_in (h := h) (c := i) (n := n) (M := M) (seed := m + 1)
            have nx := ih (m + 1) (by omega) (by omega) F (by omega)
            show ∃ s2, g_X9_stand_l39 _ _ _ _ _ (loopF _ F) _ = _
            generalize loopF (g_X9_stand_l39 j35 ((ssP (fun c => h 121 (192 + c)) (stC h n M k) i).1, (ssP (fun c => h 121 (192 + c)) (stC h n M k) i).2, (i : Int), setRow g 122 s) n (k : Int) (M : Int)) F = self2 at nx
            unfold g_X9_stand_l39
            dsimp only
            rw [b_neg (by omega), e_cI]
            obtain ⟨s4, w1, w2⟩ := m_tower (g := setRow g 122 s0) (seed := m + 1) r hN (fun p h1 h2 => by rw [setRow_ne _ _ _ _ h1, f p h1 h2]) (by omega) hi hn hM
            rw [setRow_setRow] at w1 w2
            rw [show ((m + 1 : Nat) : Int) = (m : Int) + 1 by omega] at w1 nx
            obtain ⟨s5, n5⟩ := nx s4
            refine ⟨s5, (w1 _).trans ((w2 _).trans ?_)⟩
            rw [e_add _ _ _ (by omega), e_add _ _ _ (by omega)]
            exact n5
        exact this 0 (by omega) FU (fu _ (by omega)) s
      obtain ⟨s2, w⟩ := lp
      rw [w, hj35]
      by_cases y : (ssP (fun c => h 121 (192 + c)) (stC h n M k) i).2 < stC h n M k i
      · rw [if_pos y, if_pos y, hj27, e_add _ _ _ (by omega)]
        refine ⟨_, ?_, rfl⟩
        exact ⟨⟨rfl, rfl, by (try dsimp only); omega⟩, s2, rfl⟩
      · rw [if_neg y, if_neg y, hj27, e_add _ _ _ (by omega)]
        refine ⟨_, ?_, rfl⟩
        exact ⟨⟨rfl, rfl, by (try dsimp only); omega⟩, s2, rfl⟩
    · rintro ⟨y1, y2, y3, g1⟩ ⟨⟨e1, e2, e3⟩, s, hg⟩ self
      dsimp only at e1 e2 e3 hg
      subst e1 e2 e3 hg
      unfold g_X9_stand_l14
      dsimp only
      rw [e_gF, setRow_ne _ _ _ _ (by omega), f 100 (by omega) (by omega), c10, e_gF, setRow_ne _ _ _ _ (by omega), f 100 (by omega) (by omega), c11, e_mul _ _ _ (by rw [hnn]; omega), hnn, b_pos (by omega)]
      exact ⟨_, rfl, rfl, s, rfl⟩
  obtain ⟨⟨z, g2⟩, a, b, s, d⟩ := key
  dsimp only at b d
  exact ⟨s, by rw [a, b, d]⟩
theorem s_stand {N : Nat} {h : Hp} {x1 x2 x3 : Int} (hN : N ≤ 600) (r : Rel N h) : ∃ z h1 h2, g_X8_stand x1 x2 x3 h = some (z, h1) ∧ g_X9_stand x1 x2 x3 h1 = some (z, h2) ∧ Rel (N + 1) h2 := by
  have r' := r
  obtain ⟨hv, ⟨b, rb⟩, ⟨v, rs⟩, rp, -⟩ := r'
  by_cases o : (1 ≤ x1 ∧ x1 ≤ 30) ∧ okSeeds x2 ∧ okSpan x3
  rotate_left
  · refine ⟨-2, h, h, ?_, ?_, r.next⟩
    · unfold g_X8_stand
      (rw [e_cI, e_join]; (try dsimp only))
      by_cases c1 : x1 < 1
      · rw [b_pos c1, e_cI]
      rw [b_neg c1, e_cI]
      by_cases c2 : 30 < x1
      · rw [b_pos c2, e_cI]
      rw [b_neg c2]
      by_cases o2 : okSeeds x2
      rotate_left
      · rw [k_isSeeds_f o2, e_cP, b_pos rfl, e_cI]
      rw [k_isSeeds_t o2, e_cP, b_neg (by decide)]
      by_cases o3 : okSpan x3
      · exact absurd ⟨⟨by omega, by omega⟩, o2, o3⟩ o
      · rw [k_isSpan_f o3, e_cP, b_pos rfl, e_cI]
    · unfold g_X9_stand
      rw [e_i2l, e_cI, e_cI]
      by_cases c1 : x1 < 1 ∨ 30 < x1
      · (rw [e_in_f _ _ _ _ c1, e_join]; (try dsimp only); rw [b_pos rfl, e_cI])
      (rw [e_in_t _ _ _ _ (by omega), e_join]; (try dsimp only); rw [b_neg (by decide)])
      by_cases o2 : okSeeds x2
      rotate_left
      · rw [m_areSeeds_f o2, e_cP, b_pos rfl, e_cI]
      rw [m_areSeeds_t o2, e_cP, b_neg (by decide)]
      by_cases o3 : okSpan x3
      · exact absurd ⟨⟨by omega, by omega⟩, o2, o3⟩ o
      · rw [m_areMinutes_f o3, e_cP, b_pos rfl, e_cI]
  obtain ⟨o1, o2, o3⟩ := o
  obtain ⟨k, rfl⟩ := Int.eq_ofNat_of_zero_le (show 0 ≤ x2 by unfold okSeeds at o2; omega)
  obtain ⟨M, rfl⟩ := Int.eq_ofNat_of_zero_le (show 0 ≤ x3 by unfold okSpan at o3; omega)
  have hk : 1 ≤ k ∧ k ≤ 9 := by unfold okSeeds at o2; omega
  have hM : 1 ≤ M ∧ M ≤ 99 := by unfold okSpan at o3; omega
  obtain ⟨g, a1, a2⟩ := k_stand r hN rb rs hk o1 hM
  obtain ⟨s, b1⟩ := m_stand (g := g) r hN (fun p _ h2 => a2 p h2) hk o1 hM
  have e : (ssP (fun c => h 121 (192 + c)) (stC h x1 M (nS h k)) (nN h)).1 = (ssP (fun c => h 121 (192 + c)) (stC h x1 M k) (nN h)).1 := by
    by_cases z : h 112 0 = -1
    · have key : ∀ x, x ≤ nN h → (ssP (fun c => h 121 (192 + c)) (stC h x1 M k) x).1 = (ssP (fun c => h 121 (192 + c)) (fun c => (k : Int) * stC h x1 M 1 c) x).1 ∧ (ssP (fun c => h 121 (192 + c)) (stC h x1 M k) x).2 = (ssP (fun c => h 121 (192 + c)) (fun c => (k : Int) * stC h x1 M 1 c) x).2 := by
        intro x
        induction x with
        | zero => exact fun _ => ⟨rfl, rfl⟩
        | succ x ih =>
          intro hx
          obtain ⟨i1, i2⟩ := ih (by omega)
          have ex : stC h x1 M k x = (k : Int) * stC h x1 M 1 x := by
            have hc := fun i => stV_seed (n := x1) (M := M) r z (c := x) (by omega) (by omega) i
            unfold stC
            rw [sumS_const hc k, sumS_const hc 1]
            rw [show ((1 : Nat) : Int) = 1 from rfl, Int.one_mul]
          unfold ssP
          rw [ex, i2]
          split
          · exact ⟨i1, i2⟩
          · split
            · exact ⟨rfl, rfl⟩
            · exact ⟨i1, i2⟩
      rw [(key _ (Nat.le_refl _)).1, show nS h k = 1 by unfold nS; rw [if_pos z]]
      exact ((ss_scale (st := fun c => h 121 (192 + c)) (F := stC h x1 M 1) (G := fun c => (k : Int) * stC h x1 M 1 c) (K := (k : Int)) (by omega) (fun x => stC_in.1) (fun _ => rfl) (nN h)).1).symm
    · rw [show nS h k = k by unfold nS; rw [if_neg z]]
  refine ⟨(ssP (fun c => h 121 (192 + c)) (stC h x1 M k) (nN h)).1, g, setRow g 122 s, by rw [a1, e], b1, r.trial (fun p h1 h2 => by rw [setRow_ne _ _ _ _ h1, a2 p h2])⟩
/-! outlasts -/
def gcI (n k : Nat) : Int := ((Nat.gcd n k : Nat) : Int)
theorem gcd_both : ∀ k : Fin 9, ∀ n : Fin 10, n.val ≤ k.val + 1 → g_X8_greatestDivisor (n.val : Int) ((k.val + 1 : Nat) : Int) = some (gcI n.val (k.val + 1)) ∧ g_X9_common (n.val : Int) ((k.val + 1 : Nat) : Int) = some (gcI n.val (k.val + 1)) ∧ 1 ≤ gcI n.val (k.val + 1) ∧ gcI n.val (k.val + 1) ≤ 9 := by
  decide +kernel
theorem gcd_at {n k : Nat} (hk : 1 ≤ k ∧ k ≤ 9) (hn : n ≤ k) : g_X8_greatestDivisor (n : Int) (k : Int) = some (gcI n k) ∧ g_X9_common (n : Int) (k : Int) = some (gcI n k) ∧ 1 ≤ gcI n k ∧ gcI n k ≤ 9 := by
  have := gcd_both ⟨k - 1, by omega⟩ ⟨n, by omega⟩ (by dsimp only; omega)
  dsimp only at this
  rw [show k - 1 + 1 = k by omega] at this
  exact this
def olV (h : Hp) (a b M seed : Nat) : Int := if valP h a (-1) (seed : Int) (fun _ => -1) M ≤ valP h b (-1) (seed : Int) (fun _ => -1) M then 0 else 1
theorem olV_in {h : Hp} {a b M seed : Nat} : 0 ≤ olV h a b M seed ∧ olV h a b M seed ≤ 1 := by unfold olV; split <;> omega
theorem sum_nat {f : Nat → Int} (hf : ∀ i, 0 ≤ f i ∧ f i ≤ 1) (S : Nat) : ∃ n : Nat, sumS f S = (n : Int) ∧ n ≤ S := by
  have := sumS_in (U := 1) hf S
  exact ⟨(sumS f S).toNat, by omega, by omega⟩
theorem k_duel {h g : Hp} {N M a b c v seed : Nat} (r : Rel N h) (hN : N ≤ 600) (rb : BchR h c) (rs : SeaR h v) (f : TF h g) (hs : seed ≤ 9) (ha : a < (h 100 12).toNat) (hb : b < (h 100 12).toNat) (hM : 1 ≤ M ∧ M ≤ 99) (K : Int → Int → Hp → Option (Int × Hp)) :
    ∃ g', TF h g' ∧ (cV (g_X6_start 46 26 (-1) (seed : Int) g) fun h27 => gR h27 0 1 [3, 9] fun q28 => cV (g_X6_watchFlag 46 q28 (a : Int) h27) fun h29 => gR h29 0 1 [3, 9] fun q30 => cV (g_X6_watchFlag 46 q30 (b : Int) h29) fun h31 => gR h31 0 1 [3, 9] fun q32 => gR h31 0 3 [15, 20] fun q33 => cV (g_X6_run 46 q32 q33 (-1) (M : Int) h31) fun h34 => cI 0 fun z35 => rdI h34 55 2 z35 fun z36 => cI 1 fun z37 => rdI h34 55 2 z37 fun z38 => K z36 z38 h34) = K (valP h a (-1) (seed : Int) (fun _ => -1) M) (valP h b (-1) (seed : Int) (fun _ => -1) M) g' := by
  have hv := r.1
  have hNn := hv.n
  have h41 := (pv_plan hv).1
  have i0 := iv_bg r (p := -1) (seed := (seed : Int)) (by omega) (by omega)
  obtain ⟨-, qa⟩ := fc_in hv ha
  obtain ⟨-, qb⟩ := fc_in hv hb
  obtain ⟨g1, a1, a2, a3, a4, a5⟩ := tf_start (p := -1) (seed := (seed : Int)) r f (by omega) (by omega)
  have w1 := tf_watchFlag (W := 0) r rb a2 a3 ha (by omega) (by rw [a4]; rfl)
  generalize hg2 : set2 (set2 (set2 g1 56 0 (fc h a : Int)) 57 0 (ffl h a)) 46 5 (((0 : Nat) : Int) + 1) = g2 at w1
  have f2 : TF h g2 := fun p hp => by rw [← hg2, set2_ne p (by omega), set2_ne p (by omega), set2_ne p (by omega), a2 p hp]
  have r2 : RS h g2 47 (bg h (-1) (seed : Int)) := a3.fr (fun p _ _ => by rw [← hg2, set2_ne p (by omega), set2_ne p (by omega), set2_ne p (by omega)])
  have c5 : g2 46 5 = ((1 : Nat) : Int) := by rw [← hg2, set2_same]; rfl
  have c56 : g2 56 0 = (fc h a : Int) := by rw [← hg2, set2_np _ _ _ _ _ _ (by omega), set2_np _ _ _ _ _ _ (by omega), set2_same]
  have c57 : g2 57 0 = ffl h a := by rw [← hg2, set2_np _ _ _ _ _ _ (by omega), set2_same]
  have c58 : ∀ m, m < 99 → g2 58 m = -1 := fun m hm => by rw [← hg2, set2_np _ _ _ _ _ _ (by omega), set2_np _ _ _ _ _ _ (by omega), set2_np _ _ _ _ _ _ (by omega), a5 m hm]
  have w2 := tf_watchFlag (W := 1) r rb f2 r2 hb (by omega) c5
  generalize hg3 : set2 (set2 (set2 g2 56 1 (fc h b : Int)) 57 1 (ffl h b)) 46 5 (((1 : Nat) : Int) + 1) = g3 at w2
  have f3 : TF h g3 := fun p hp => by rw [← hg3, set2_ne p (by omega), set2_ne p (by omega), set2_ne p (by omega), f2 p hp]
  have r3 : RS h g3 47 (bg h (-1) (seed : Int)) := r2.fr (fun p _ _ => by rw [← hg3, set2_ne p (by omega), set2_ne p (by omega), set2_ne p (by omega)])
  have d5 : g3 46 5 = ((2 : Nat) : Int) := by rw [← hg3, set2_same]; rfl
  have d560 : g3 56 0 = (fc h a : Int) := by rw [← hg3, set2_np _ _ _ _ _ _ (by omega), set2_np _ _ _ _ _ _ (by omega), set2_nk _ _ _ _ _ _ (by omega), c56]
  have d561 : g3 56 1 = (fc h b : Int) := by rw [← hg3, set2_np _ _ _ _ _ _ (by omega), set2_np _ _ _ _ _ _ (by omega), set2_same]
  have d570 : g3 57 0 = ffl h a := by rw [← hg3, set2_np _ _ _ _ _ _ (by omega), set2_nk _ _ _ _ _ _ (by omega), set2_np _ _ _ _ _ _ (by omega), c57]
  have d571 : g3 57 1 = ffl h b := by rw [← hg3, set2_np _ _ _ _ _ _ (by omega), set2_same]
  have d58 : ∀ m, m < 99 → g3 58 m = -1 := fun m hm => by rw [← hg3, set2_np _ _ _ _ _ _ (by omega), set2_np _ _ _ _ _ _ (by omega), set2_np _ _ _ _ _ _ (by omega), c58 m hm]
  obtain ⟨g', u1, u2, -, u4⟩ := k_run (c := c) (v := v) (W := 2) (n := M) (x := fc h a) (cs := fun w => if w = 0 then fc h a else fc h b) (fl := fun w => if w = 0 then ffl h a else ffl h b) hv (tf_pb rb f3) rb.1 (tf_ps rs f3) rs.1 (tf_pl hv r.2.2.2.1 f3) (by omega) (by omega) i0 r3 (by omega) d5
    (fun w hw => by
      rcases (by omega : w = 0 ∨ w = 1) with rfl | rfl
      · exact ⟨d560, qa⟩
      · exact ⟨d561, qb⟩) (fun w hw => by
      rcases (by omega : w = 0 ∨ w = 1) with rfl | rfl
      · exact d570
      · exact d571) qa (fun _ => rfl) (fun m hm => Or.inl (d58 m hm)) hM
  rw [bg_275, show planRef (-1) = -1 from rfl] at u1
  have e0 := u4 0 (by omega)
  have e1 := u4 1 (by omega)
  rw [if_pos rfl, if_pos rfl] at e0
  rw [if_neg (by decide), if_neg (by decide)] at e1
  refine ⟨g', fun p hp => by rw [u2 p (by omega), f3 p hp], ?_⟩
  rw [a1, e_cV, tf_beach rb a2, w1, e_cV, tf_beach rb f2, w2, e_cV, tf_beach rb f3, tf_sea rs f3, u1, e_cV, e_cI, e_rd _ _ _ _ _ (by omega), show (0 : Int).toNat = 0 from rfl, e0, e_cI, e_rd _ _ _ _ _ (by omega), show (1 : Int).toNat = 1 from rfl, e1]
  have t1 : lastP (trS h (fc h a) (g3 58) (bg h (-1) (seed : Int))) (fc h a) (ffl h a) M = valP h a (-1) (seed : Int) (fun _ => -1) M := lastP_congr (fun m hm => by rw [trS_congr m (fun j hj => d58 j (by omega))])
  have t2 : lastP (trS h (fc h a) (g3 58) (bg h (-1) (seed : Int))) (fc h b) (ffl h b) M = valP h b (-1) (seed : Int) (fun _ => -1) M := lastP_congr (fun m hm => by rw [trS_congr m (fun j hj => d58 j (by omega)), trS_x m (x := fc h a) (y := fc h b)])
  rw [t1, t2]
theorem m_duel {h g : Hp} {N M a b seed : Nat} (r : Rel N h) (hN : N ≤ 600) (f : ∀ p, p ≠ 122 → (p < 46 ∨ 58 < p) → g p = h p) (hs : seed ≤ 9) (ha : a < (h 100 12).toNat) (hb : b < (h 100 12).toNat) (hM : 1 ≤ M ∧ M ≤ 99) :
    ∃ s, (∀ J : Hp → Option (Int × Hp), (cV (g_X9_beginTrial (-1) (seed : Int) g) fun h25 => cI 0 fun z26 => joinF J fun j28 => loopF (g_X9_outlasts_l40 j28 (M : Int)) FU (z26, h25)) = J (setRow g 122 s)) ∧
      g_X9_lastOf (a : Int) (M : Int) (setRow g 122 s) = some (valP h a (-1) (seed : Int) (fun _ => -1) M) ∧ g_X9_lastOf (b : Int) (M : Int) (setRow g 122 s) = some (valP h b (-1) (seed : Int) (fun _ => -1) M) := by
  have hv := r.1
  have h41 := (pv_plan hv).1
  have e121 : g 121 = h 121 := f 121 (by omega) (by omega)
  have hpm : PM h g := fun p hp => f p (by omega) (by omega)
  obtain ⟨-, qa⟩ := fc_in hv ha
  refine ⟨trS h (fc h a) (fun _ => -1) (bgM h g (-1) (seed : Int)) M, fun J => ?_, m_lastV r hN e121 (by omega) (by omega) ha hM g, ?_⟩
  · rw [m_begin e121, e_cV, e_cI]
    refine join_gen (fun j28 hj28 => ?_)
    refine loopF_for' M (fun i => ((i : Int), setRow g 122 (trS h (fc h a) (fun _ => -1) (bgM h g (-1) (seed : Int)) i))) ?_ ?_ rfl (fu _ (by omega))
    · intro i hi self
      unfold g_X9_outlasts_l40
      dsimp only
      rw [b_neg (by omega), m_min1 r hN hpm (by omega) (by omega) qa (by omega) g, e_cV, e_add _ _ _ (by omega), show ((i + 1 : Nat) : Int) = (i : Int) + 1 by omega]
    · intro self
      unfold g_X9_outlasts_l40
      dsimp only
      rw [b_pos (by omega), hj28]
  · rw [trS_x M (x := fc h a) (y := fc h b)]
    exact m_lastV r hN e121 (by omega) (by omega) hb hM g
theorem s_outlasts {N : Nat} {h : Hp} {x1 x2 x3 x4 x5 : Int} (hN : N ≤ 600) (r : Rel N h) : ∃ z h1 h2, g_X8_outlasts x1 x2 x3 x4 x5 h = some (z, h1) ∧ g_X9_outlasts x1 x2 x3 x4 x5 h1 = some (z, h2) ∧ Rel (N + 1) h2 := by
  have r' := r
  obtain ⟨hv, ⟨c, rb⟩, ⟨v, rs⟩, rp, -⟩ := r'
  have h41 := (pv_plan hv).1
  by_cases o : okFlag h x1 ∧ okFlag h x2 ∧ x1 ≠ x2 ∧ okSeeds x3 ∧ okSpan x4
  rotate_left
  · refine ⟨-2, h, h, ?_, ?_, r.next⟩
    · unfold g_X8_outlasts
      by_cases o1 : okFlag h x1
      rotate_left
      · (rw [k_isFlag_f rb o1, e_cP, e_join]; (try dsimp only); rw [b_pos rfl, e_cI])
      (rw [k_isFlag_t rb o1, e_cP, e_join]; (try dsimp only); rw [b_neg (by decide)])
      by_cases o2 : okFlag h x2
      rotate_left
      · rw [k_isFlag_f rb o2, e_cP, b_pos rfl, e_cI]
      rw [k_isFlag_t rb o2, e_cP, b_neg (by decide)]
      by_cases o3 : x1 = x2
      · rw [b_pos o3, e_cI]
      rw [b_neg o3]
      by_cases o4 : okSeeds x3
      rotate_left
      · rw [k_isSeeds_f o4, e_cP, b_pos rfl, e_cI]
      rw [k_isSeeds_t o4, e_cP, b_neg (by decide)]
      by_cases o5 : okSpan x4
      · exact absurd ⟨o1, o2, o3, o4, o5⟩ o
      · rw [k_isSpan_f o5, e_cP, b_pos rfl, e_cI]
    · unfold g_X9_outlasts
      by_cases o1 : okFlag h x1
      rotate_left
      · (rw [m_isFlag_f hv o1, e_cP, e_join]; (try dsimp only); rw [b_pos rfl, e_cI])
      (rw [m_isFlag_t hv o1, e_cP, e_join]; (try dsimp only); rw [b_neg (by decide)])
      by_cases o2 : okFlag h x2
      rotate_left
      · rw [m_isFlag_f hv o2, e_cP, b_pos rfl, e_cI]
      rw [m_isFlag_t hv o2, e_cP, b_neg (by decide)]
      by_cases o3 : x1 = x2
      · rw [b_pos o3, e_cI]
      rw [b_neg o3]
      by_cases o4 : okSeeds x3
      rotate_left
      · rw [m_areSeeds_f o4, e_cP, b_pos rfl, e_cI]
      rw [m_areSeeds_t o4, e_cP, b_neg (by decide)]
      by_cases o5 : okSpan x4
      · exact absurd ⟨o1, o2, o3, o4, o5⟩ o
      · rw [m_areMinutes_f o5, e_cP, b_pos rfl, e_cI]
  obtain ⟨o1, o2, o3, o4, o5⟩ := o
  obtain ⟨a, rfl⟩ := Int.eq_ofNat_of_zero_le o1.1
  obtain ⟨b, rfl⟩ := Int.eq_ofNat_of_zero_le o2.1
  obtain ⟨k, rfl⟩ := Int.eq_ofNat_of_zero_le (show 0 ≤ x3 by unfold okSeeds at o4; omega)
  obtain ⟨M, rfl⟩ := Int.eq_ofNat_of_zero_le (show 0 ≤ x4 by unfold okSpan at o5; omega)
  have ha : a < (h 100 12).toNat := by unfold okFlag at o1; omega
  have hb : b < (h 100 12).toNat := by unfold okFlag at o2; omega
  have hk : 1 ≤ k ∧ k ≤ 9 := by unfold okSeeds at o4; omega
  have hM : 1 ≤ M ∧ M ≤ 99 := by unfold okSpan at o5; omega
  have hS := nS_in (h := h) hk
  obtain ⟨u, eu, hu⟩ := sum_nat (f := olV h a b M) (fun i => olV_in) (nS h k)
  obtain ⟨w, ew, hw⟩ := sum_nat (f := olV h a b M) (fun i => olV_in) k
  -- the class
  have cls : ∃ rr : Int × Hp, g_X8_outlasts (a : Int) (b : Int) (k : Int) (M : Int) x5 h = some rr ∧ (rr.1 = (if x5 = 0 then (u : Int) else (nS h k : Int)) / gcI u (nS h k) ∧ TF h rr.2) := by
    unfold g_X8_outlasts
    (rw [k_isFlag_t rb o1, e_cP, e_join]; (try dsimp only); rw [b_neg (by decide), k_isFlag_t rb o2, e_cP, b_neg (by decide), b_neg o3, k_isSeeds_t o4, e_cP, b_neg (by decide), k_isSpan_t o5, e_cP, b_neg (by decide), k_seeds rs TF.rf, e_cP, e_cI, e_cI])
    generalize nS h k = S at hS eu hu
    obtain ⟨d1, -, d3, d4⟩ := gcd_at hS hu
    refine join_ex (fun j12 hj12 => ?_)
    refine loopF_ex S (fun i (q : Int × Int × Hp) => q.1 = sumS (olV h a b M) i ∧ q.2.1 = (i : Int) + 1 ∧ TF h q.2.2) ?_ ?_ FU 0 _ (Nat.zero_le _) (fu _ (by omega)) ⟨rfl, rfl, TF.rf⟩
    · rintro i ⟨y1, y2, g⟩ hi ⟨e1, e2, hg⟩ self
      dsimp only at e1 e2 hg
      subst e1 e2
      left
      have hb := sumS_in (f := olV h a b M) (U := 1) (fun i => olV_in) i
      obtain ⟨g', q1, q2⟩ := k_duel (seed := i + 1) (b := b) r hN rb rs hg (by omega) ha ‹_› hM (fun z36 z38 h34 => joinF (fun (a39 : Int) => addI ((i : Int) + 1) 1 fun z42 => self (a39, z42, h34)) fun j40 => if z36 ≤ z38 then j40 (sumS (olV h a b M) i) else addI (sumS (olV h a b M) i) 1 fun z43 => j40 z43)
      rw [show ((i + 1 : Nat) : Int) = (i : Int) + 1 by omega] at q2
      unfold g_X8_outlasts_l22
      dsimp only
      rw [b_neg (by omega), e_cI, q2]
      refine join_exr (fun j40 hj40 => ?_)
      have es : sumS (olV h a b M) (i + 1) = sumS (olV h a b M) i + olV h a b M (i + 1) := rfl
      by_cases z : valP h a (-1) ((i : Int) + 1) (fun _ => -1) M ≤ valP h b (-1) ((i : Int) + 1) (fun _ => -1) M
      · rw [b_pos z, hj40, e_add _ _ _ (by omega)]
        refine ⟨_, ⟨?_, ?_, q1⟩, rfl⟩
        · rw [es]
          unfold olV
          rw [show ((i + 1 : Nat) : Int) = (i : Int) + 1 by omega, if_pos z, Int.add_zero]
        · (try dsimp only); omega
      · rw [b_neg z, e_add _ _ _ (by omega), hj40, e_add _ _ _ (by omega)]
        refine ⟨_, ⟨?_, ?_, q1⟩, rfl⟩
        · rw [es]
          unfold olV
          rw [show ((i + 1 : Nat) : Int) = (i : Int) + 1 by omega, if_neg z]
        · (try dsimp only); omega
    · rintro ⟨y1, y2, g⟩ ⟨e1, e2, hg⟩ self
      dsimp only at e1 e2 hg
      subst e1 e2
      unfold g_X8_outlasts_l22
      dsimp only
      (rw [b_pos (by omega), hj12, eu, d1, e_cP, e_join]; (try dsimp only))
      by_cases z : x5 = 0
      · rw [b_pos z, e_div _ _ _ (by omega), if_pos z]
        exact ⟨_, rfl, rfl, hg⟩
      · rw [b_neg z, e_div _ _ _ (by omega), if_neg z]
        exact ⟨_, rfl, rfl, hg⟩
  obtain ⟨⟨z, g⟩, a1, a2, a3⟩ := cls
  dsimp only at a2 a3
  have mdl : ∃ rr : Int × Hp, g_X9_outlasts (a : Int) (b : Int) (k : Int) (M : Int) x5 g = some rr ∧ (rr.1 = (if x5 = 0 then (w : Int) else (k : Int)) / gcI w k ∧ ∃ s, rr.2 = setRow g 122 s) := by
    have hvg : PV g := hv.te (TE.pm (Rel.pm1 a3))
    have e12 : g 100 12 = h 100 12 := by rw [a3 100 (by omega)]
    unfold g_X9_outlasts
    (rw [m_isFlag_t hvg (by unfold okFlag; rw [e12]; exact o1), e_cP, e_join]; (try dsimp only); rw [b_neg (by decide), m_isFlag_t hvg (by unfold okFlag; rw [e12]; exact o2), e_cP, b_neg (by decide), b_neg o3, m_areSeeds_t o4, e_cP, b_neg (by decide), m_areMinutes_t o5, e_cP, b_neg (by decide), e_cI, e_cI])
    obtain ⟨-, d2, d3, d4⟩ := gcd_at hk hw
    refine join_ex (fun j11 hj11 => ?_)
    refine loopF_ex k (fun i (q : Int × Int × Hp) => q.1 = sumS (olV h a b M) i ∧ q.2.1 = (i : Int) + 1 ∧ ∃ s, q.2.2 = setRow g 122 s) ?_ ?_ FU 0 _ (Nat.zero_le _) (fu _ (by omega)) ⟨rfl, rfl, g 122, (setRow_self g 122).symm⟩
    · rintro i ⟨y1, y2, g1⟩ hi ⟨e1, e2, s, hg⟩ self
      dsimp only at e1 e2 hg
      subst e1 e2 hg
      left
      have hbnd := sumS_in (f := olV h a b M) (U := 1) (fun i => olV_in) i
      obtain ⟨s2, q1, q2, q3⟩ := m_duel (g := setRow g 122 s) (seed := i + 1) r hN (fun p h1 h2 => by rw [setRow_ne _ _ _ _ h1, a3 p h2]) (by omega) ha hb hM
      rw [setRow_setRow] at q1 q2 q3
      rw [show ((i + 1 : Nat) : Int) = (i : Int) + 1 by omega] at q1 q2 q3
      unfold g_X9_outlasts_l20
      dsimp only
      rw [b_neg (by omega), e_cI, q1, q2, e_cP, q3, e_cP]
      refine join_exr (fun j33 hj33 => ?_)
      have es : sumS (olV h a b M) (i + 1) = sumS (olV h a b M) i + olV h a b M (i + 1) := rfl
      by_cases z : valP h a (-1) ((i : Int) + 1) (fun _ => -1) M ≤ valP h b (-1) ((i : Int) + 1) (fun _ => -1) M
      · rw [b_pos z, e_cI, hj33, e_add _ _ _ (by omega), e_add _ _ _ (by omega)]
        refine ⟨_, ⟨?_, ?_, s2, rfl⟩, rfl⟩
        · rw [es]
          unfold olV
          rw [show ((i + 1 : Nat) : Int) = (i : Int) + 1 by omega, if_pos z]
        · (try dsimp only); omega
      · rw [b_neg z, e_cI, hj33, e_add _ _ _ (by omega), e_add _ _ _ (by omega)]
        refine ⟨_, ⟨?_, ?_, s2, rfl⟩, rfl⟩
        · rw [es]
          unfold olV
          rw [show ((i + 1 : Nat) : Int) = (i : Int) + 1 by omega, if_neg z]
        · (try dsimp only); omega
    · rintro ⟨y1, y2, g1⟩ ⟨e1, e2, s, hg⟩ self
      dsimp only at e1 e2 hg
      subst e1 e2 hg
      unfold g_X9_outlasts_l20
      dsimp only
      rw [b_pos (by omega), hj11, ew]
      refine join_ex (fun j15 hj15 => ?_)
      by_cases z : x5 = 0
      · rw [b_pos z, hj15, d2, e_cP, e_div _ _ _ (by omega), if_pos z]
        exact ⟨_, rfl, rfl, s, rfl⟩
      · rw [b_neg z, hj15, d2, e_cP, e_div _ _ _ (by omega), if_neg z]
        exact ⟨_, rfl, rfl, s, rfl⟩
  obtain ⟨⟨z2, g2⟩, b1, b2, s, b3⟩ := mdl
  dsimp only at b2 b3
  have e : (if x5 = 0 then (w : Int) else (k : Int)) / gcI w k = (if x5 = 0 then (u : Int) else (nS h k : Int)) / gcI u (nS h k) := by
    by_cases z : h 112 0 = -1
    · have hc : ∀ i, olV h a b M i = olV h a b M 1 := by
        intro i
        by_cases hi : i = 1
        · rw [hi]
        unfold olV
        rw [valP_seed (s1 := ((1 : Nat) : Int)) (s2 := (i : Int)) r z (by omega) (by omega) ha, valP_seed (s1 := ((1 : Nat) : Int)) (s2 := (i : Int)) r z (by omega) (by omega) hb]
      have n1 : nS h k = 1 := by unfold nS; rw [if_pos z]
      rw [n1] at eu hu ⊢
      rw [sumS_const hc] at eu ew
      have h01 := olV_in (h := h) (a := a) (b := b) (M := M) (seed := 1)
      rcases (by omega : olV h a b M 1 = 0 ∨ olV h a b M 1 = 1) with y | y
      · rw [y, Int.mul_zero] at eu ew
        rw [show u = 0 by omega, show w = 0 by omega]
        unfold gcI
        rw [Nat.gcd_zero_left, Nat.gcd_zero_left]
        split
        · rw [show ((0 : Nat) : Int) = 0 from rfl, Int.zero_ediv, Int.zero_ediv]
        · rw [Int.ediv_self (by omega)]
          rfl
      · rw [y, Int.mul_one] at eu ew
        rw [show u = 1 by omega, show w = k by omega]
        unfold gcI
        rw [Nat.gcd_self, Nat.gcd_self]
        split
        · rw [Int.ediv_self (by omega)]
          rfl
        · rw [Int.ediv_self (by omega)]
          rfl
    · have n1 : nS h k = k := by unfold nS; rw [if_neg z]
      rw [n1] at eu hu ⊢
      rw [eu] at ew
      rw [show w = u by omega]
  exact ⟨_, g, g2, by rw [a1, a2], by rw [b1, b2, e], r.trial (fun p h1 h2 => by rw [b3, setRow_ne _ _ _ _ h1, a3 p h2])⟩
