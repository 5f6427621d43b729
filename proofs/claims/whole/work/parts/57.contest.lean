/-! CALLS: contest -/
def htV (h : Hp) (p : Int) (M : Nat) (seed : Nat) : Int := trS h (fc h 0) (fun _ => -1) (bg h p (seed : Int)) M (fc h 0)
def coV (h : Hp) (rule p : Int) (M : Nat) (seed : Nat) : Int := if rule = 0 then valP h 0 p (seed : Int) (fun _ => -1) M else htV h p M seed
theorem coV_in {h : Hp} {N M seed : Nat} {rule p : Int} (r : Rel N h) (hp : -1 ≤ p ∧ p < h 100 41) (hk : 0 < (h 100 12).toNat) (hs : seed < 100) (hM : M ≤ 99) : 0 ≤ coV h rule p M seed ∧ coV h rule p M seed ≤ 10000 := by
  have hv := r.1
  obtain ⟨-, q2⟩ := fc_in hv hk
  unfold coV
  split
  · have := lastP_in (S := trS h (fc h 0) (fun _ => -1) (bg h p (seed : Int))) (c := fc h 0) (fl := ffl h 0) (n := M)
    unfold valP
    omega
  · have i1 := iv_trS (x := fc h 0) (wk := fun _ => -1) (iv_bg r (p := p) (seed := (seed : Int)) hp (by omega)) hv q2 M
    have a := i1.le q2
    have b := i1.nn q2
    unfold htV
    omega
theorem coV_seed {h : Hp} {N M : Nat} {rule p : Int} (r : Rel N h) (h0 : h 112 0 = -1) (hp : -1 ≤ p ∧ p < h 100 41) (hk : 0 < (h 100 12).toNat) (i : Nat) : coV h rule p M i = coV h rule p M 1 := by
  have hv := r.1
  have hN := hv.n
  obtain ⟨-, q2⟩ := fc_in hv hk
  unfold coV
  rw [valP_seed (s1 := ((1 : Nat) : Int)) (s2 := (i : Int)) r h0 hp (by omega) hk]
  split
  · rfl
  · unfold htV
    exact ag_trS (by omega) hv (Or.inl h0) (iv_bg r (p := p) (seed := ((1 : Nat) : Int)) hp (by omega)) q2 bg_seed M _ (by omega)
theorem join_exq {R α β : Type} {J : α → Option R} {K : (α → Option R) → Option R} {F : β → Option R} {Q : β → Prop} (kk : ∀ j : α → Option R, (∀ a, j a = J a) → ∃ x, K j = F x ∧ Q x) : ∃ x, joinF J K = F x ∧ Q x := kk J (fun _ => rfl)
theorem k_worth {h g : Hp} {N M c v seed p : Nat} {rule : Int} (r : Rel N h) (hN : N ≤ 600) (rb : BchR h c) (rs : SeaR h v) (f : TF h g) (hs : seed ≤ 9) (hp : p < (h 100 41).toNat) (hk : 0 < (h 100 12).toNat) (hM : 1 ≤ M ∧ M ≤ 99) :
    ∃ g', g_X8_worthOfPlan (p : Int) rule (seed : Int) (M : Int) g = some (coV h rule (p : Int) M seed, g') ∧ TF h g' := by
  have hv := r.1
  have hNn := hv.n
  have h41 := (pv_plan hv).1
  have op : okPlan h (p : Int) := by unfold okPlan; omega
  have i0 := iv_bg r (p := (p : Int)) (seed := (seed : Int)) op (by omega)
  obtain ⟨q1, q2⟩ := fc_in hv hk
  obtain ⟨g1, a1, a2, a3, a4, a5⟩ := tf_start (p := (p : Int)) (seed := (seed : Int)) r f op (by omega)
  unfold g_X8_worthOfPlan coV
  rw [a1, e_cV]
  by_cases z : rule = 0
  · have w1 := tf_watchFlag (W := 0) r rb a2 a3 hk (by omega) (by rw [a4]; rfl)
    generalize hg2 : set2 (set2 (set2 g1 56 0 (fc h 0 : Int)) 57 0 (ffl h 0)) 46 5 (((0 : Nat) : Int) + 1) = g2 at w1
    have f2 : TF h g2 := fun p hp => by rw [← hg2, set2_ne p (by omega), set2_ne p (by omega), set2_ne p (by omega), a2 p hp]
    have r2 : RS h g2 47 (bg h (p : Int) (seed : Int)) := a3.fr (fun p _ _ => by rw [← hg2, set2_ne p (by omega), set2_ne p (by omega), set2_ne p (by omega)])
    have c5 : g2 46 5 = 1 := by rw [← hg2, set2_same]; rfl
    have c56 : g2 56 0 = (fc h 0 : Int) := by rw [← hg2, set2_np _ _ _ _ _ _ (by omega), set2_np _ _ _ _ _ _ (by omega), set2_same]
    have c57 : g2 57 0 = ffl h 0 := by rw [← hg2, set2_np _ _ _ _ _ _ (by omega), set2_same]
    have c58 : ∀ m, m < 99 → g2 58 m = -1 := fun m hm => by rw [← hg2, set2_np _ _ _ _ _ _ (by omega), set2_np _ _ _ _ _ _ (by omega), set2_np _ _ _ _ _ _ (by omega), a5 m hm]
    have w1' : g_X6_watchFlag 46 c 0 g1 = some g2 := w1
    obtain ⟨g4, b1, b2, b3⟩ := tf_run1 (wk := fun _ => -1) (M := M) r hN rb rs f2 op (by omega) r2 hk c5 c56 c57 (fun m hm => Or.inl (c58 m hm)) c58 hM
    refine join_exq (fun j3 hj3 => ?_)
    rw [b_pos z, tf_beach rb a2, e_cI, w1', e_cV, hj3, tf_beach rb f2, tf_sea rs f2, tf_plan r.2.2.2.1 hv f2 op, e_cP, b1, e_cV]
    refine join_exq (fun j10 hj10 => ?_)
    rw [b_pos z, e_cI, e_rd _ _ _ _ _ (by omega), show (0 : Int).toNat = 0 from rfl, b3, hj10, if_pos z]
    exact ⟨g4, rfl, b2⟩
  · obtain ⟨g', u1, u2, u3, -⟩ := k_run (c := c) (v := v) (W := 0) (n := M) (x := fc h 0) (cs := fun _ => fc h 0) (fl := fun _ => 0) hv (tf_pb rb a2) rb.1 (tf_ps rs a2) rs.1 (tf_pl hv r.2.2.2.1 a2) (by omega) (by omega) i0 a3 (by omega) (by rw [a4]; rfl) (fun w hw => by omega) (fun w hw => by omega) q2 (fun y => by omega) (fun m hm => Or.inl (a5 m hm)) hM
    rw [bg_275] at u1
    have f' : TF h g' := fun q hq => by rw [u2 q (by omega), a2 q hq]
    have e48 : g' 48 (fc h 0) = htV h (p : Int) M seed := by
      have := ((u3 rfl).1.1 (fc h 0) q2).1
      rw [show 48 = 47 + 1 from rfl, this]
      unfold htV
      rw [trS_congr M (fun j hj => a5 j (by omega))]
    have pb := tf_pb rb f'
    have e4 := pb.2.2.2.1 0 hk
    refine join_exq (fun j3 hj3 => ?_)
    rw [b_neg z, hj3, tf_beach rb a2, tf_sea rs a2, tf_plan r.2.2.2.1 hv a2 op, e_cP, u1, e_cV]
    refine join_exq (fun j10 hj10 => ?_)
    rw [b_neg z, tf_beach rb f', e_cI, e_rd _ _ _ _ _ (by omega), show (0 : Int).toNat = 0 from rfl, e4, q1, e_rdn _ _ _ _ _ (by omega), e48, hj10, if_neg z]
    exact ⟨g', rfl, f'⟩
def coC (h : Hp) (rule : Int) (M S : Nat) (p : Nat) : Int := sumS (coV h rule (p : Int) M) S
theorem coC_in {h : Hp} {N M S p : Nat} {rule : Int} (r : Rel N h) (hp : p < (h 100 41).toNat) (hk : 0 < (h 100 12).toNat) (hM : M ≤ 99) (hS : S ≤ 9) : ∀ i, i ≤ S → 0 ≤ sumS (coV h rule (p : Int) M) i ∧ sumS (coV h rule (p : Int) M) i ≤ i * 10000
  | 0, _ => ⟨Int.le_refl _, by
    show (0 : Int) ≤ ((0 : Nat) : Int) * 10000
    omega⟩
  | i + 1, hi => by
    have ih := coC_in (S := S) (rule := rule) r hp hk hM hS i (by omega)
    have h41 := (pv_plan r.1).1
    have := coV_in (rule := rule) (p := (p : Int)) (seed := i + 1) r (by omega) hk (by omega) hM
    show 0 ≤ sumS (coV h rule (p : Int) M) i + coV h rule (p : Int) M (i + 1) ∧ sumS (coV h rule (p : Int) M) i + coV h rule (p : Int) M (i + 1) ≤ ((i + 1 : Nat) : Int) * 10000
    omega
theorem s_contest {N : Nat} {h : Hp} {x1 x2 x3 : Int} (hN : N ≤ 600) (r : Rel N h) : ∃ z h1 h2, g_X8_contest x1 x2 x3 h = some (z, h1) ∧ g_X9_contest x1 x2 x3 h1 = some (z, h2) ∧ Rel (N + 1) h2 := by
  have r' := r
  obtain ⟨hv, ⟨c, rb⟩, ⟨v, rs⟩, rp, -⟩ := r'
  have h41 := (pv_plan hv).1
  have h12 := (pv_flags hv).1
  by_cases o : (0 ≤ x1 ∧ x1 ≤ 1) ∧ okSeeds x2 ∧ okSpan x3
  rotate_left
  · refine ⟨-2, h, h, ?_, ?_, r.next⟩
    · unfold g_X8_contest
      rw [e_join]
      by_cases c1 : x1 < 0
      · rw [b_pos c1, e_cI]
      rw [b_neg c1, e_cI]
      by_cases c2 : 1 < x1
      · rw [b_pos c2, e_cI]
      rw [b_neg c2]
      by_cases o2 : okSeeds x2
      rotate_left
      · rw [k_isSeeds_f o2, e_cP, b_pos rfl, e_cI]
      rw [k_isSeeds_t o2, e_cP, b_neg (by decide)]
      by_cases o3 : okSpan x3
      · exact absurd ⟨⟨by omega, by omega⟩, o2, o3⟩ o
      · rw [k_isSpan_f o3, e_cP, b_pos rfl, e_cI]
    · unfold g_X9_contest
      rw [e_i2l, e_cI, e_cI]
      by_cases c1 : x1 < 0 ∨ 1 < x1
      · (rw [e_in_f _ _ _ _ c1, e_join]; (try dsimp only); rw [b_pos rfl, e_cI])
      (rw [e_in_t _ _ _ _ (by omega), e_join]; (try dsimp only); rw [b_neg (by decide)])
      by_cases o2 : okSeeds x2
      rotate_left
      · rw [m_areSeeds_f o2, e_cP, b_pos rfl, e_cI]
      rw [m_areSeeds_t o2, e_cP, b_neg (by decide)]
      by_cases o3 : okSpan x3
      · exact absurd ⟨⟨by omega, by omega⟩, o2, o3⟩ o
      · rw [m_areMinutes_f o3, e_cP, b_pos rfl, e_cI]
  obtain ⟨o1, o2, o3⟩ := o
  by_cases fl : h 100 12 = 0
  · refine ⟨-4, h, h, ?_, ?_, r.next⟩
    · unfold g_X8_contest
      (rw [e_join]; (try dsimp only); rw [b_neg (by omega), e_cI, b_neg (by omega), k_isSeeds_t o2, e_cP, b_neg (by decide), k_isSpan_t o3, e_cP, b_neg (by decide), tf_beach rb TF.rf, e_gF, rb.2.2.1.2.2.1, b_pos fl, e_cI])
    · unfold g_X9_contest
      (rw [e_i2l, e_cI, e_cI, e_in_t _ _ _ _ o1, e_join]; (try dsimp only); rw [b_neg (by decide), m_areSeeds_t o2, e_cP, b_neg (by decide), m_areMinutes_t o3, e_cP, b_neg (by decide), e_gF, b_pos fl, e_cI])
  obtain ⟨k, rfl⟩ := Int.eq_ofNat_of_zero_le (show 0 ≤ x2 by unfold okSeeds at o2; omega)
  obtain ⟨M, rfl⟩ := Int.eq_ofNat_of_zero_le (show 0 ≤ x3 by unfold okSpan at o3; omega)
  have hk : 1 ≤ k ∧ k ≤ 9 := by unfold okSeeds at o2; omega
  have hM : 1 ≤ M ∧ M ≤ 99 := by unfold okSpan at o3; omega
  have hS := nS_in (h := h) hk
  have h0 : 0 < (h 100 12).toNat := by omega
  -- the class
  have cls : ∃ rr : Int × Hp, g_X8_contest x1 (k : Int) (M : Int) h = some rr ∧ (rr.1 = (ssP (fun _ => 0) (coC h x1 M (nS h k)) (h 100 41).toNat).1 ∧ TF h rr.2) := by
    unfold g_X8_contest
    (rw [e_join]; (try dsimp only); rw [b_neg (by omega), e_cI, b_neg (by omega), k_isSeeds_t o2, e_cP, b_neg (by decide), k_isSpan_t o3, e_cP, b_neg (by decide), tf_beach rb TF.rf, e_gF, rb.2.2.1.2.2.1, b_neg fl, k_seeds rs TF.rf, e_cP, e_cI, e_cI, e_cI])
    generalize nS h k = S at hS
    refine loopF_ex (h 100 41).toNat (fun i (q : Int × Int × Int × Hp) => (q.1 = (ssP (fun _ => 0) (coC h x1 M S) i).1 ∧ q.2.1 = (ssP (fun _ => 0) (coC h x1 M S) i).2 ∧ q.2.2.1 = (i : Int)) ∧ TF h q.2.2.2) ?_ ?_ FU 0 _ (Nat.zero_le _) (fu _ (by omega)) ⟨⟨rfl, rfl, rfl⟩, TF.rf⟩
    · rintro i ⟨y1, y2, y3, g⟩ hi ⟨⟨e1, e2, e3⟩, hg⟩ self
      dsimp only at e1 e2 e3 hg
      subst e1 e2 e3
      left
      unfold g_X8_contest_l14
      dsimp only
      rw [e_gF, hg 0 (by omega), rp.1, b_neg (by omega), e_cI, e_cI]
      refine join_exr (fun j23 hj23 => ?_)
      have lp : ∀ m, m ≤ S → ∀ F, S - m < F → ∀ g0, TF h g0 → ∃ g2, TF h g2 ∧ loopF (g_X8_contest_l32 j23 ((ssP (fun _ => 0) (coC h x1 M S) i).1, (ssP (fun _ => 0) (coC h x1 M S) i).2, (i : Int), g) x1 (M : Int) (S : Int)) F (sumS (coV h x1 (i : Int) M) m, (m : Int) + 1, g0) = j23 (coC h x1 M S i, g2) := by
        intro m hm
        generalize hd : S - m = d
        induction d generalizing m with
        | zero =>
          intro F hF g0 hg0
          obtain ⟨F, rfl⟩ : ∃ z, F = z + 1 := ⟨F - 1, by omega⟩
          refine ⟨g0, hg0, ?_⟩
          show g_X8_contest_l32 _ _ _ _ _ (loopF _ F) _ = _
          unfold g_X8_contest_l32
          dsimp only
          rw [b_pos (by omega), show m = S by omega]
          rfl
        | succ d ih =>
          intro F hF g0 hg0
          obtain ⟨F, rfl⟩ : ∃ z, F = z + 1 := ⟨F - 1, by omega⟩
          have hb := coC_in (S := S) (rule := x1) r hi h0 hM.2 (by omega) m (by omega)
          have hv1 := coV_in (rule := x1) (p := (i : Int)) (seed := m + 1) r (by omega) h0 (by omega) hM.2
          obtain ⟨g3, w1, w2⟩ := k_worth (rule := x1) (seed := m + 1) r hN rb rs hg0 (by omega) hi h0 hM
          obtain ⟨g4, n1, n2⟩ := ih (m + 1) (by omega) (by omega) F (by omega) g3 w2
          refine ⟨g4, n1, ?_⟩
          rw [← n2]
          show g_X8_contest_l32 _ _ _ _ _ (loopF _ F) _ = _
          generalize loopF (g_X8_contest_l32 j23 ((ssP (fun _ => 0) (coC h x1 M S) i).1, (ssP (fun _ => 0) (coC h x1 M S) i).2, (i : Int), g) x1 (M : Int) (S : Int)) F = self2
          rw [show ((m + 1 : Nat) : Int) = (m : Int) + 1 by omega] at w1 ⊢
          unfold g_X8_contest_l32
          dsimp only
          rw [b_neg (by omega), w1, e_cW, e_add _ _ _ (by omega), e_add _ _ _ (by omega)]
          rfl
      obtain ⟨g2, w1, w2⟩ := lp 0 (by omega) FU (fu _ (by omega)) g hg
      rw [show (((0 : Nat) : Int) + 1) = 1 from rfl, show sumS (coV h x1 (i : Int) M) 0 = 0 from rfl] at w2
      rw [w2, hj23]
      rw [show ssP (fun _ => 0) (coC h x1 M S) (i + 1) = if (0 : Int) = 1 then ssP (fun _ => 0) (coC h x1 M S) i else if (ssP (fun _ => 0) (coC h x1 M S) i).2 < coC h x1 M S i then ((i : Int), coC h x1 M S i) else ssP (fun _ => 0) (coC h x1 M S) i from rfl, if_neg (show ¬ (0 : Int) = 1 by decide)]
      refine join_exr (fun j27 hj27 => ?_)
      by_cases y : coC h x1 M S i ≤ (ssP (fun _ => 0) (coC h x1 M S) i).2
      · rw [b_pos y, hj27, e_add _ _ _ (by omega), if_neg (show ¬ (ssP (fun _ => 0) (coC h x1 M S) i).2 < coC h x1 M S i by omega)]
        refine ⟨_, ?_, rfl⟩
        exact ⟨⟨rfl, rfl, by (try dsimp only); omega⟩, w1⟩
      · rw [b_neg y, hj27, e_add _ _ _ (by omega), if_pos (show (ssP (fun _ => 0) (coC h x1 M S) i).2 < coC h x1 M S i by omega)]
        refine ⟨_, ?_, rfl⟩
        exact ⟨⟨rfl, rfl, by (try dsimp only); omega⟩, w1⟩
    · rintro ⟨y1, y2, y3, g⟩ ⟨⟨e1, e2, e3⟩, hg⟩ self
      dsimp only at e1 e2 e3 hg
      subst e1 e2 e3
      unfold g_X8_contest_l14
      dsimp only
      rw [e_gF, hg 0 (by omega), rp.1, b_pos (by omega)]
      exact ⟨_, rfl, rfl, hg⟩
  obtain ⟨⟨z, g⟩, a1, a2, a3⟩ := cls
  dsimp only at a2 a3
  have mdl : ∃ rr : Int × Hp, g_X9_contest x1 (k : Int) (M : Int) g = some rr ∧ (rr.1 = (ssP (fun _ => 0) (coC h x1 M k) (h 100 41).toNat).1 ∧ ∃ s, rr.2 = setRow g 122 s) := by
    have e100 : g 100 = h 100 := a3 100 (by omega)
    have hpm : PM h g := Rel.pm1 a3
    have e121 : g 121 = h 121 := a3 121 (by omega)
    obtain ⟨q1, q2⟩ := fc_in hv h0
    unfold g_X9_contest
    (rw [e_i2l, e_cI, e_cI, e_in_t _ _ _ _ o1, e_join]; (try dsimp only); rw [b_neg (by decide), m_areSeeds_t o2, e_cP, b_neg (by decide), m_areMinutes_t o3, e_cP, b_neg (by decide), e_gF, e100, b_neg fl, e_cI, e_cI, e_cI])
    refine loopF_ex (h 100 41).toNat (fun i (q : Int × Int × Int × Hp) => (q.1 = (ssP (fun _ => 0) (coC h x1 M k) i).1 ∧ q.2.1 = (ssP (fun _ => 0) (coC h x1 M k) i).2 ∧ q.2.2.1 = (i : Int)) ∧ ∃ s, q.2.2.2 = setRow g 122 s) ?_ ?_ FU 0 _ (Nat.zero_le _) (fu _ (by omega)) ⟨⟨rfl, rfl, rfl⟩, g 122, (setRow_self g 122).symm⟩
    · rintro i ⟨y1, y2, y3, g1⟩ hi ⟨⟨e1, e2, e3⟩, s, hg⟩ self
      dsimp only at e1 e2 e3 hg
      subst e1 e2 e3 hg
      left
      have op : okPlan h (i : Int) := by unfold okPlan; omega
      unfold g_X9_contest_l15
      dsimp only
      rw [e_gF, setRow_ne _ _ _ _ (by omega), e100, b_neg (by omega), e_cI, e_cI]
      refine join_exr (fun j24 hj24 => ?_)
      have lp : ∀ m, m ≤ k → ∀ F, k - m < F → ∀ s0, ∃ s2, loopF (g_X9_contest_l33 j24 ((ssP (fun _ => 0) (coC h x1 M k) i).1, (ssP (fun _ => 0) (coC h x1 M k) i).2, (i : Int), setRow g 122 s) x1 (k : Int) (M : Int)) F (sumS (coV h x1 (i : Int) M) m, (m : Int) + 1, setRow g 122 s0) = j24 (coC h x1 M k i, setRow g 122 s2) := by
        intro m hm
        generalize hd : k - m = d
        induction d generalizing m with
        | zero =>
          intro F hF s0
          obtain ⟨F, rfl⟩ : ∃ z, F = z + 1 := ⟨F - 1, by omega⟩
          refine ⟨s0, ?_⟩
          show g_X9_contest_l33 _ _ _ _ _ (loopF _ F) _ = _
          unfold g_X9_contest_l33
          dsimp only
          rw [b_pos (by omega), show m = k by omega]
          rfl
        | succ d ih =>
          intro F hF s0
          obtain ⟨F, rfl⟩ : ∃ z, F = z + 1 := ⟨F - 1, by omega⟩
          have hb := coC_in (S := k) (rule := x1) r hi h0 hM.2 (by omega) m (by omega)
          have hv1 := coV_in (rule := x1) (p := (i : Int)) (seed := m + 1) r op h0 (by omega) hM.2
          have hs : 0 ≤ (m : Int) + 1 ∧ (m : Int) + 1 < 2147483648 := by omega
          obtain ⟨s5, n5⟩ := ih (m + 1) (by omega) (by omega) F (by omega) (trS h (fc h 0) (fun _ => -1) (bgM h (setRow g 122 s0) (i : Int) ((m : Int) + 1)) M)
          refine ⟨s5, ?_⟩
          rw [← n5]
          show g_X9_contest_l33 _ _ _ _ _ (loopF _ F) _ = _
          generalize loopF (g_X9_contest_l33 j24 ((ssP (fun _ => 0) (coC h x1 M k) i).1, (ssP (fun _ => 0) (coC h x1 M k) i).2, (i : Int), setRow g 122 s) x1 (k : Int) (M : Int)) F = self2
          rw [show ((m + 1 : Nat) : Int) = (m : Int) + 1 by omega]
          unfold g_X9_contest_l33
          dsimp only
          rw [b_neg (by omega), m_begin (g := setRow g 122 s0) (h := h) (by rw [setRow_ne _ _ _ _ (by omega)]; exact e121), e_cV, setRow_setRow, e_cI]
          refine join_gen (fun j40 hj40 => ?_)
          refine loopF_for' M (fun j => ((j : Int), setRow g 122 (trS h (fc h 0) (fun _ => -1) (bgM h (setRow g 122 s0) (i : Int) ((m : Int) + 1)) j))) ?_ ?_ rfl (fu _ (by omega))
          · intro j hj self3
            unfold g_X9_contest_l55
            dsimp only
            rw [b_neg (by omega), m_min1 r hN hpm op hs q2 (by omega), e_cV, e_add _ _ _ (by omega), show ((j + 1 : Nat) : Int) = (j : Int) + 1 by omega]
          · intro self3
            unfold g_X9_contest_l55
            dsimp only
            rw [b_pos (by omega), hj40]
            refine join_gen (fun j43 hj43 => ?_)
            have fin : ∀ x, x = coV h x1 (i : Int) M (m + 1) → j43 x = self2 (sumS (coV h x1 (i : Int) M) (m + 1), (m : Int) + 1 + 1, setRow g 122 (trS h (fc h 0) (fun _ => -1) (bgM h (setRow g 122 s0) (i : Int) ((m : Int) + 1)) M)) := by
              intro x hx
              rw [hj43, hx, e_add _ _ _ (by omega), e_add _ _ _ (by omega)]
              rfl
            by_cases z : x1 = 0
            · have ml := m_lastV (wk := fun _ => -1) (k := 0) (M := M) r hN e121 op hs h0 hM (setRow g 122 s0)
              rw [show ((0 : Nat) : Int) = 0 from rfl] at ml
              rw [b_pos z, e_cI, ml, e_cP]
              refine fin _ ?_
              unfold coV
              rw [if_pos z, show ((m + 1 : Nat) : Int) = (m : Int) + 1 by omega]
            · have i0 := iv_bg r op hs
              have iM := ag_iv i0 hv (bgM_ag (g := setRow g 122 s0))
              have f256 := trS_far (x := fc h 0) (wk := fun _ => -1) (j := 256) iM hv q2 (by omega) M
              have c256 : bgM h (setRow g 122 s0) (i : Int) ((m : Int) + 1) 256 = (fc h 0 : Int) := by
                rw [bgM_ag 256 (by omega), bg_lo (by omega)]
                exact (fc_row r h0).1
              have ag := ag_trS (x := fc h 0) (wk := fun _ => -1) (by omega) hv (Or.inr (Nat.le_refl _)) i0 q2 (bgM_ag (h := h) (g := setRow g 122 s0) (p := (i : Int)) (seed := (m : Int) + 1)) M
              have hN64 := hv.n
              rw [b_neg z, e_cI, e_cI, e_rd _ _ _ _ _ (by omega), setRow_same, show (256 : Int).toNat = 256 from rfl, f256, c256, e_add _ _ _ (by omega), e_rd _ _ _ _ _ (by omega), setRow_same, show ((0 : Int) + (fc h 0 : Int)).toNat = fc h 0 by omega]
              refine fin _ ?_
              unfold coV htV
              rw [if_neg z, show ((m + 1 : Nat) : Int) = (m : Int) + 1 by omega]
              exact ag _ (by omega)
      obtain ⟨s2, w2⟩ := lp 0 (by omega) FU (fu _ (by omega)) s
      rw [show (((0 : Nat) : Int) + 1) = 1 from rfl, show sumS (coV h x1 (i : Int) M) 0 = 0 from rfl] at w2
      rw [w2, hj24]
      rw [show ssP (fun _ => 0) (coC h x1 M k) (i + 1) = if (0 : Int) = 1 then ssP (fun _ => 0) (coC h x1 M k) i else if (ssP (fun _ => 0) (coC h x1 M k) i).2 < coC h x1 M k i then ((i : Int), coC h x1 M k i) else ssP (fun _ => 0) (coC h x1 M k) i from rfl, if_neg (show ¬ (0 : Int) = 1 by decide)]
      refine join_exr (fun j28 hj28 => ?_)
      by_cases y : (ssP (fun _ => 0) (coC h x1 M k) i).2 < coC h x1 M k i
      · rw [if_pos y, if_pos y, hj28, e_add _ _ _ (by omega)]
        refine ⟨_, ?_, rfl⟩
        exact ⟨⟨rfl, rfl, by (try dsimp only); omega⟩, s2, rfl⟩
      · rw [if_neg y, if_neg y, hj28, e_add _ _ _ (by omega)]
        refine ⟨_, ?_, rfl⟩
        exact ⟨⟨rfl, rfl, by (try dsimp only); omega⟩, s2, rfl⟩
    · rintro ⟨y1, y2, y3, g1⟩ ⟨⟨e1, e2, e3⟩, s, hg⟩ self
      dsimp only at e1 e2 e3 hg
      subst e1 e2 e3 hg
      unfold g_X9_contest_l15
      dsimp only
      rw [e_gF, setRow_ne _ _ _ _ (by omega), e100, b_pos (by omega)]
      exact ⟨_, rfl, rfl, s, rfl⟩
  obtain ⟨⟨z2, g2⟩, b1, b2, s, b3⟩ := mdl
  dsimp only at b2 b3
  have e : (ssP (fun _ => 0) (coC h x1 M (nS h k)) (h 100 41).toNat).1 = (ssP (fun _ => 0) (coC h x1 M k) (h 100 41).toNat).1 := by
    by_cases z : h 112 0 = -1
    · rw [show nS h k = 1 by unfold nS; rw [if_pos z]]
      -- below the number of plans
      have clip : ∀ S x, x ≤ (h 100 41).toNat → ssP (fun _ => 0) (coC h x1 M S) x = ssP (fun _ => 0) (fun p => if p < (h 100 41).toNat then coC h x1 M S p else 0) x := by
        intro S x
        induction x with
        | zero => exact fun _ => rfl
        | succ x ih =>
          intro hx
          unfold ssP
          rw [ih (by omega), if_pos (show x < (h 100 41).toNat by omega)]
      rw [clip 1 _ (Nat.le_refl _), clip k _ (Nat.le_refl _)]
      refine ((ss_scale (st := fun _ => 0) (K := (k : Int)) (by omega) (fun x => ?_) (fun x => ?_) _).1).symm
      · split
        · exact (coC_in (S := 1) r ‹_› h0 hM.2 (by omega) 1 (Nat.le_refl _)).1
        · exact Int.le_refl _
      · try dsimp only
        split
        · rename_i hx
          unfold coC
          rw [sumS_const (fun i => coV_seed r z (by omega) h0 i) k, sumS_const (fun i => coV_seed r z (by omega) h0 i) 1, show ((1 : Nat) : Int) = 1 from rfl, Int.one_mul]
        · rw [Int.mul_zero]
    · rw [show nS h k = k by unfold nS; rw [if_neg z]]
  exact ⟨_, g, g2, by rw [a1, a2], by rw [b1, b2, e], r.trial (fun p h1 h2 => by rw [b3, setRow_ne _ _ _ _ h1, a3 p h2])⟩
