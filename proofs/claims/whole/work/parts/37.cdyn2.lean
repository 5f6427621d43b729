/-! THE CLASS: slides, flags, hands, a minute -/
theorem join_exr {R α β : Type} {J : α → Option R} {K : (α → Option R) → Option R} {F : β → Option R} {Q : β → Prop} (kk : ∀ j : α → Option R, (∀ a, j a = J a) → ∃ x, Q x ∧ K j = F x) : ∃ x, Q x ∧ joinF J K = F x := kk J (fun _ => rfl)
theorem slideC_far {P : Hp} {s : Nat → Int} {c j : Nat} (hv : PV P) (hc : c < nN P) (hj : 256 ≤ j ∧ j ≠ 272) : slideC P s c j = s j := by
  have hn := hv.n
  unfold slideC
  split
  · rfl
  split
  · rfl
  split
  · rfl
  · rename_i h1 h2 h3
    rcases lowP_spec (s := s) (c := c) hv with q | ⟨q1, q2, q3, q4⟩
    · exact absurd q h2
    rw [upd1_ne _ _ _ _ (by omega), unitP_far (by omega) (by omega) (by omega) (by omega)]
theorem roundP_far {P : Hp} {s : Nat → Int} {j : Nat} (hv : PV P) (hj : 256 ≤ j ∧ j ≠ 272) : ∀ n, n ≤ nN P → roundP P s n j = s j
  | 0, _ => rfl
  | n + 1, hn => by
    show slideC P (roundP P s n) n j = s j
    rw [slideC_far hv (by omega) hj, roundP_far hv hj n (by omega)]
theorem roundsP_far {P : Hp} {j : Nat} (hv : PV P) (hj : 256 ≤ j ∧ j ≠ 272 ∧ j ≠ 273) : ∀ k s, roundsP P k s j = s j
  | 0, _ => rfl
  | k + 1, s => by
    unfold roundsP
    split
    · rw [roundsP_far hv hj k, upd1_ne _ _ _ _ (by omega), roundP_far hv (by omega) _ (Nat.le_refl _)]
    · rw [roundP_far hv (by omega) _ (Nat.le_refl _)]
theorem slidesP_far {P : Hp} {s : Nat → Int} {j : Nat} (hv : PV P) (hj : 256 ≤ j ∧ j ≠ 271 ∧ j ≠ 272 ∧ j ≠ 273) : slidesP P s j = s j := by
  unfold slidesP
  rw [upd1_ne _ _ _ _ (by omega), roundsP_far hv (by omega), upd1_ne _ _ _ _ (by omega), upd1_ne _ _ _ _ (by omega)]
theorem k_rounds {P h0 : Hp} {b c : Nat} {B T : Int} {j9 : Hp → Option Hp} {Q : Hp → Prop} (hv : PV P) (hb : PB P h0 c) (hd : c + 6 ≤ b ∨ b + 8 ≤ c) (hB : B ≤ 10000) :
    ∀ (k i : Nat) (s : Nat → Int) (h : Hp) (n : Nat), i + k = 50 → k < n → IV P B T s → RS P h b s → Fr b h0 h → (0 ≤ s 272 ∧ s 272 ≤ 64 * i) → (0 ≤ s 273 ∧ s 273 ≤ i) →
    (∀ h', RS P h' b (roundsP P k s) → Fr b h0 h' → ∃ r, j9 h' = some r ∧ Q r) →
    ∃ r, loopF (g_X3_slide_l16 b c j9 (cN P : Int) (rN P : Int)) n ((i : Int), h) = some r ∧ Q r := by
  have hN := hv.n
  intro k
  induction k with
  | zero =>
    intro i s h n hi hn hI hR hF h272 h273 hj
    obtain ⟨n, rfl⟩ : ∃ m, n = m + 1 := ⟨n - 1, by omega⟩
    show ∃ r, g_X3_slide_l16 b c j9 (cN P : Int) (rN P : Int) (loopF (g_X3_slide_l16 b c j9 (cN P : Int) (rN P : Int)) n) ((i : Int), h) = some r ∧ Q r
    generalize loopF (g_X3_slide_l16 b c j9 (cN P : Int) (rN P : Int)) n = self
    unfold g_X3_slide_l16
    dsimp only
    rw [e_cI, b_pos (by omega)]
    exact hj h hR hF
  | succ k ih =>
    intro i s h n hi hn hI hR hF h272 h273 hj
    obtain ⟨n, rfl⟩ : ∃ m, n = m + 1 := ⟨n - 1, by omega⟩
    show ∃ r, g_X3_slide_l16 b c j9 (cN P : Int) (rN P : Int) (loopF (g_X3_slide_l16 b c j9 (cN P : Int) (rN P : Int)) n) ((i : Int), h) = some r ∧ Q r
    have hih := fun s1 h1 => ih (i + 1) s1 h1 n (by omega) (by omega)
    generalize loopF (g_X3_slide_l16 b c j9 (cN P : Int) (rN P : Int)) n = self at hih ⊢
    unfold g_X3_slide_l16
    dsimp only
    rw [e_cI, b_neg (by omega), e_gF]
    have hD := r272 (s := s) hv (nN P) (by omega)
    rcases hR.2 with q0 | ⟨q0, qs⟩
    rotate_left
    · rw [b_neg (by omega)]
      refine hj h ?_ hF
      have e1 := settled_round qs (nN P) (by omega)
      unfold roundsP
      rw [e1, if_neg (by omega)]
      exact hR
    rw [b_pos q0, e_cI, e_cI, e_cI]
    refine join_ex (fun j25 hj25 => ?_)
    refine k_round (h0 := h) (s := s) (B := B) (T := T) hv (hb.fr hF hd) hd hI hB hR.1 (fun h' r1 r2 => ?_)
    rw [hj25]
    dsimp only
    have hI2 := iv_roundP hI hv (nN P) (by omega)
    have e273 : roundP P s (nN P) 273 = s 273 := roundP_far hv (by omega) _ (Nat.le_refl _)
    have hj2 := hj
    unfold roundsP at hj2
    have hset := round_settled (s := s) hv
    generalize roundP P s (nN P) = t at hD r1 hj2 hI2 e273 hset ⊢
    have e12 : h' b 12 = s 272 := by
      have := r1.2.1.2.2.2.1
      rw [upd1_same] at this
      exact this
    have e13 : h' b 13 = s 273 := by
      have := r1.2.1.2.2.2.2.1
      rw [upd1_ne _ _ _ _ (by omega), e273] at this
      exact this
    rw [e_gF, e12, e_add _ _ _ (by omega), e_pF, show s 272 + (t 272 - s 272) = t 272 by omega, e_gF, set2_nk _ _ _ _ _ _ (by omega), e13]
    have r3 : RS0 P (set2 h' b 12 (t 272)) b t := by
      have := r1.fld (k := 12) (x := t 272) (by omega) hv
      rw [show fldR 12 = 272 from rfl, upd1_upd1, upd1_id rfl] at this
      exact this
    have f3 : Fr b h (set2 h' b 12 (t 272)) := r2.tr (Fr.set (by omega))
    generalize set2 h' b 12 (t 272) = h2 at r3 f3 ⊢
    refine join_ex (fun j33 hj33 => ?_)
    by_cases b1 : t 272 = s 272
    · -- no unit went
      have b1' : t 272 - s 272 = 0 := by omega
      rw [b1', b_pos (by omega), e_cI, hj33, e_add _ _ _ (by omega), e_pF]
      refine join_ex (fun j38 hj38 => ?_)
      rw [b_pos (by omega), e_cI, hj38, e_pZ _ _ _ _ _ (by omega), e_add _ _ _ (by omega)]
      have r4 : RS P (set2 (set2 h2 b 13 (s 273 + 0)) b 15 1) b t := by
        refine ⟨?_, Or.inr ⟨set2_same _ _ _ _, ?_⟩⟩
        · have := (r3.fld (k := 13) (x := s 273 + 0) (by omega) hv).flag15 (x := 1)
          rw [show fldR 13 = 273 from rfl, upd1_id (by omega)] at this
          exact this
        · have := hset b1
          rw [this.1]
          exact this.2
      have f4 : Fr b h (set2 (set2 h2 b 13 (s 273 + 0)) b 15 1) := (f3.tr (Fr.set (by omega))).tr (Fr.set (by omega))
      generalize set2 (set2 h2 b 13 (s 273 + 0)) b 15 1 = h3 at r4 f4 ⊢
      have := hih t h3 hI2 r4 (hF.tr f4) (by omega) (by omega) (fun h'' g1 g2 => hj2 h'' (by
        rw [if_neg (by omega)]
        have qs : Settled P t := (hset b1).1 ▸ (hset b1).2
        have e1 := settled_round qs (nN P) (by omega)
        have : roundsP P k t = t := by
          cases k with
          | zero => rfl
          | succ k => unfold roundsP; rw [e1, if_neg (by omega)]
        rw [this] at g1
        exact g1) g2)
      rw [show ((i + 1 : Nat) : Int) = (i : Int) + 1 by omega] at this
      exact this
    · rw [b_neg (by omega), e_cI, hj33, e_add _ _ _ (by omega), e_pF]
      refine join_ex (fun j38 hj38 => ?_)
      rw [b_neg (by omega), e_cI, hj38, e_pZ _ _ _ _ _ (by omega), e_add _ _ _ (by omega)]
      have r4 : RS P (set2 (set2 h2 b 13 (s 273 + 1)) b 15 0) b (upd1 t 273 (s 273 + 1)) := (r3.fld (k := 13) (x := s 273 + 1) (by omega) hv).dirty
      have f4 : Fr b h (set2 (set2 h2 b 13 (s 273 + 1)) b 15 0) := (f3.tr (Fr.set (by omega))).tr (Fr.set (by omega))
      generalize set2 (set2 h2 b 13 (s 273 + 1)) b 15 0 = h3 at r4 f4 ⊢
      have := hih (upd1 t 273 (s 273 + 1)) h3 (hI2.side hv (by omega)) r4 (hF.tr f4) (by rw [upd1_ne _ _ _ _ (by omega)]; omega) (by rw [upd1_same]; omega) (fun h'' g1 g2 => hj2 h'' (by
        rw [if_pos (by omega), e273]
        exact g1) g2)
      rw [show ((i + 1 : Nat) : Int) = (i : Int) + 1 by omega] at this
      exact this
theorem k_slide {P h : Hp} {b c : Nat} {B T : Int} {s : Nat → Int} (hv : PV P) (hb : PB P h c) (hd : c + 6 ≤ b ∨ b + 8 ≤ c) (hB : B ≤ 10000) (hI : IV P B T s) (hR : RS P h b s) :
    ∃ h', g_X3_slide b c h = some h' ∧ RS P h' b (slidesP P s) ∧ Fr b h h' := by
  unfold g_X3_slide slidesP
  rw [k_columns hb hv, e_cP, k_rows hb hv, e_cP, e_cI, e_pF, e_cI, e_pF, e_cI]
  refine join_ex (fun j9 hj9 => ?_)
  have hR1 : RS P (set2 (set2 h b 12 0) b 13 0) b (upd1 (upd1 s 272 0) 273 0) := (hR.fld (k := 12) (by omega) hv).fld (k := 13) (by omega) hv
  have hI1 : IV P B T (upd1 (upd1 s 272 0) 273 0) := (hI.side hv (by omega)).side hv (by omega)
  have hF1 : Fr b h (set2 (set2 h b 12 0) b 13 0) := (Fr.set (by omega)).tr (Fr.set (by omega))
  have e272 : upd1 (upd1 s 272 0) 273 0 272 = 0 := by rw [upd1_ne _ _ _ _ (by omega), upd1_same]
  have e273 : upd1 (upd1 s 272 0) 273 0 273 = 0 := upd1_same _ _ _
  generalize upd1 (upd1 s 272 0) 273 0 = t at hR1 hI1 e272 e273 ⊢
  generalize set2 (set2 h b 12 0) b 13 0 = h1 at hR1 hF1 ⊢
  refine k_rounds (h0 := h) hv hb hd hB 50 0 t h1 FU (by omega) (fu _ (by omega)) hI1 hR1 hF1 (by omega) (by omega) (fun h' r1 r2 => ?_)
  have hI2 := iv_roundsP (B := B) (T := T) hv 50 t hI1
  generalize roundsP P 50 t = u at r1 hI2 ⊢
  rw [hj9, e_gF, r1.1.2.1.2.2.1, e_gF, r1.1.2.1.2.2.2.1, e_addw, e_pF]
  exact ⟨_, rfl, r1.fld (k := 11) (by omega) hv, r2.tr (Fr.set (by omega))⟩
theorem RS.cong {P h : Hp} {b : Nat} {s t : Nat → Int} (hv : PV P) (hH : HV P s) (h0 : RS P h b s) (E : ∀ j : Nat, j < 289 → j ≠ 268 → (j < 264 + (P 100 12).toNat ∨ 268 ≤ j) → t j = s j) (e268 : s 268 ≤ t 268) : RS P h b t := by
  have hn := hv.n
  have h12 := (pv_flags hv).1
  have hpl := pv_plan hv
  obtain ⟨⟨a1, a2, a3, ⟨a4, a6⟩, a5⟩, a7⟩ := h0
  refine ⟨⟨fun j hj => ?_, ?_, ⟨by omega, fun j hj => ?_⟩, ⟨?_, ?_⟩, ?_⟩, ?_⟩
  · rw [E j (by omega) (by omega) (by omega), E (64 + j) (by omega) (by omega) (by omega), E (128 + j) (by omega) (by omega) (by omega), E (192 + j) (by omega) (by omega) (by omega)]
    exact a1 j hj
  · rw [E 270 (by omega) (by omega) (by omega), E 269 (by omega) (by omega) (by omega), E 271 (by omega) (by omega) (by omega), E 272 (by omega) (by omega) (by omega), E 273 (by omega) (by omega) (by omega), E 274 (by omega) (by omega) (by omega)]
    exact a2
  · rw [E (264 + j) (by omega) (by omega) (by omega), E (256 + j) (by omega) (by omega) (by omega), E (260 + j) (by omega) (by omega) (by omega)]
    exact a3.2 j hj
  · rw [E 275 (by omega) (by omega) (by omega)]; exact a4
  · unfold HR at a6 ⊢
    rw [E 275 (by omega) (by omega) (by omega)]
    intro q i hi
    have hi4 : i < 4 := by
      have h1 := hH.1
      have := (hpl.2 (s 275).toNat (by omega)).1
      omega
    rw [E (276 + i) (by omega) (by omega) (by omega), E (284 + i) (by omega) (by omega) (by omega), E (280 + i) (by omega) (by omega) (by omega)]
    exact a6 q i hi
  · rw [E 288 (by omega) (by omega) (by omega)]; exact a5
  · exact SE.congr (P := P) (h := h) (b := b) hv (fun k hk => ⟨E k (by omega) (by omega) (by omega), E (64 + k) (by omega) (by omega) (by omega), E (128 + k) (by omega) (by omega) (by omega), E (192 + k) (by omega) (by omega) (by omega)⟩) a7
theorem RS.fell {P h : Hp} {b k : Nat} {s : Nat → Int} {x : Int} (hv : PV P) (hk : k < (P 100 12).toNat) (h0 : RS P h b s) : RS P (set2 h (b + 5) k x) b (upd1 s (264 + k) x) := by
  have hn := hv.n
  have h12 := (pv_flags hv).1
  obtain ⟨⟨a1, a2, a3, ⟨a4, a6⟩, a5⟩, a7⟩ := h0
  refine ⟨⟨fun j hj => ?_, ?_, ⟨?_, fun j hj => ?_⟩, ⟨?_, ?_⟩, ?_⟩, ?_⟩
  · rw [set2_np _ _ _ _ _ _ (by omega), set2_np _ _ _ _ _ _ (by omega), set2_np _ _ _ _ _ _ (by omega), set2_np _ _ _ _ _ _ (by omega), upd1_ne _ _ _ _ (by omega), upd1_ne _ _ _ _ (by omega), upd1_ne _ _ _ _ (by omega), upd1_ne _ _ _ _ (by omega)]
    exact a1 j hj
  · rw [set2_np _ _ _ _ _ _ (by omega), set2_np _ _ _ _ _ _ (by omega), set2_np _ _ _ _ _ _ (by omega), set2_np _ _ _ _ _ _ (by omega), set2_np _ _ _ _ _ _ (by omega), set2_np _ _ _ _ _ _ (by omega), upd1_ne _ _ _ _ (by omega), upd1_ne _ _ _ _ (by omega), upd1_ne _ _ _ _ (by omega), upd1_ne _ _ _ _ (by omega), upd1_ne _ _ _ _ (by omega), upd1_ne _ _ _ _ (by omega)]
    exact a2
  · rw [upd1_ne _ _ _ _ (by omega)]; exact a3.1
  · have := a3.2 j hj
    rw [upd1_ne _ _ _ (256 + j) (by omega), upd1_ne _ _ _ (260 + j) (by omega)]
    refine ⟨?_, this.2⟩
    unfold set2 upd1
    by_cases q : j = k
    · rw [if_pos ⟨rfl, q⟩, if_pos (by omega)]
    · rw [if_neg (by omega), if_neg (by omega)]
      exact this.1
  · rw [set2_np _ _ _ _ _ _ (by omega), upd1_ne _ _ _ _ (by omega)]; exact a4
  · unfold HR at a6 ⊢
    rw [upd1_ne _ _ _ _ (by omega)]
    intro q i hi
    rw [set2_np _ _ _ _ _ _ (by omega), set2_np _ _ _ _ _ _ (by omega), upd1_ne _ _ _ _ (by omega), upd1_ne _ _ _ _ (by omega), upd1_ne _ _ _ _ (by omega)]
    exact a6 q i hi
  · rw [set2_np _ _ _ _ _ _ (by omega), upd1_ne _ _ _ _ (by omega)]; exact a5
  · unfold SE
    rw [set2_np _ _ _ _ _ _ (by omega)]
    exact SE.congr (P := P) (h := h) (b := b) hv (fun j hj => ⟨upd1_ne _ _ _ _ (by omega), upd1_ne _ _ _ _ (by omega), upd1_ne _ _ _ _ (by omega), upd1_ne _ _ _ _ (by omega)⟩) a7
theorem k_dropFlags {P h : Hp} {b c : Nat} {B T : Int} {s : Nat → Int} (hv : PV P) (hb : PB P h c) (hd : c + 6 ≤ b ∨ b + 8 ≤ c) (hB : B ≤ 10000) (hT : T ≤ 1000000) (hI : IV P B T s) (hR : RS P h b s) :
    ∃ h', g_X3_dropFlags b c h = some h' ∧ RS P h' b (flagsP P s (s 268).toNat) ∧ Fr b h h' := by
  have hN := hv.n
  obtain ⟨h12, hfl, hhp⟩ := pv_flags hv
  have h0 := hv.2.2.1
  have h4 := hv.2.2.2.2.2.2.1
  have h268 := hI.2.2.1.2.1
  have hle := hR.1.2.2.1.1
  -- the flags behind the class's own ones
  have more : ∀ n, (P 100 12).toNat + n ≤ (s 268).toNat → ∀ h', RS P h' b (flagsP P s (P 100 12).toNat) → RS P h' b (flagsP P s ((P 100 12).toNat + n)) := by
    intro n
    induction n with
    | zero => intro _ h' r; exact r
    | succ n ih =>
      intro hn h' r
      have r1 := ih (by omega) h' r
      have i1 := iv_flagsP hI hv ((P 100 12).toNat + n) (by omega)
      show RS P h' b (flagP P (flagsP P s ((P 100 12).toNat + n)) ((P 100 12).toNat + n))
      generalize flagsP P s ((P 100 12).toNat + n) = t at r1 i1 ⊢
      refine RS.cong hv i1.2.2.2.1 r1 (fun j q1 q2 q3 => ?_) ?_
      · unfold flagP
        split
        · split
          · rw [upd1_ne _ _ _ _ (by omega)]
          · rfl
        · rfl
      · unfold flagP
        split
        · split
          · rw [upd1_ne _ _ _ _ (by omega)]; exact Int.le_refl _
          · exact Int.le_refl _
        · exact Int.le_refl _
  have fin : ∀ h', RS P h' b (flagsP P s (P 100 12).toNat) → RS P h' b (flagsP P s (s 268).toNat) := by
    intro h' r
    have := more ((s 268).toNat - (P 100 12).toNat) (by omega) h' r
    rw [show (P 100 12).toNat + ((s 268).toNat - (P 100 12).toNat) = (s 268).toNat by omega] at this
    exact this
  unfold g_X3_dropFlags
  rw [e_cI]
  refine join_ex (fun j3 hj3 => ?_)
  refine loopF_ex (P 100 12).toNat (fun i q => q.1 = (i : Int) ∧ RS P q.2 b (flagsP P s i) ∧ Fr b h q.2) ?_ ?_ FU 0 _ (by omega) (fu _ (by omega)) ⟨rfl, hR, Fr.rf⟩
  rotate_left
  · rintro ⟨xx, h2⟩ ⟨e1, e2, e3⟩ self
    dsimp only at e1 e2 e3
    subst e1
    have hb2 := hb.fr e3 hd
    refine ⟨h2, ?_, fin h2 e2, e3⟩
    unfold g_X3_dropFlags_l6
    dsimp only
    rw [e_gF, hb2.2.2.1, b_pos (by omega), hj3]
  rintro i ⟨xx, h2⟩ hi ⟨e1, e2, e3⟩ self
  dsimp only at e1 e2 e3
  subst e1
  left
  have hb2 := hb.fr e3 hd
  have hIi := iv_flagsP hI hv i (by omega)
  show ∃ q' : Int × Hp, (q'.1 = ((i + 1 : Nat) : Int) ∧ RS P q'.2 b (flagP P (flagsP P s i) i) ∧ Fr b h q'.2) ∧ _
  generalize flagsP P s i = t at hIi e2 ⊢
  obtain ⟨f1, f2, f3⟩ := e2.1.2.2.1.2 i hi
  have hci := hfl i hi
  obtain ⟨m, hm⟩ := Int.eq_ofNat_of_zero_le hci.1
  rw [hm] at hci f2 f3
  simp only [Int.toNat_natCast] at f3
  have hhm := (hhp m (by omega)).1
  have i270 := hIi.2.2.1.1
  unfold g_X3_dropFlags_l6
  dsimp only
  rw [e_gF, hb2.2.2.1, b_neg (by omega), e_cI, b_neg (by omega), e_rdn _ _ _ _ _ (by omega), hb2.2.2.2.1 i hi, hm, e_rdn _ _ _ _ _ (by omega), f1, e_cI]
  refine join_exr (fun jj hjj => ?_)
  unfold flagP
  rw [f2, f3]
  simp only [Int.toNat_natCast]
  by_cases b1 : t (264 + i) = -1
  rotate_left
  · rw [if_neg b1, b_neg b1, hjj, e_add _ _ _ (by omega)]
    exact ⟨((i : Int) + 1, h2), ⟨by dsimp only; omega, e2, e3⟩, rfl⟩
  rw [if_pos b1, b_pos b1, e_rdn _ _ _ _ _ (by omega), (e2.1.1 m (by omega)).1, k_firstHeight hb2 hv (by omega), e_cP, k_fall hb2, e_cP, e_sub _ _ _ (by omega)]
  by_cases b2 : t m < P 102 0 + P 104 m - P 102 4
  · rw [if_pos b2, b_neg (by omega), e_gF, e2.1.2.1.1, e_wrn _ _ _ _ _ _ (by omega), hjj, e_add _ _ _ (by omega)]
    exact ⟨((i : Int) + 1, _), ⟨by dsimp only; omega, e2.fell hv hi, e3.tr (Fr.set (by omega))⟩, rfl⟩
  · rw [if_neg b2, b_pos (by omega), hjj, e_add _ _ _ (by omega)]
    exact ⟨((i : Int) + 1, h2), ⟨by dsimp only; omega, e2, e3⟩, rfl⟩
theorem k_dig {P h : Hp} {b c t : Nat} {B T : Int} {s : Nat → Int} (hv : PV P) (hB : B ≤ 10000) (hI : IV P B T s) (hR : RS0 P h b s) (hc : c < nN P) (ht : t < nN P) (htc : t ≠ c) (h15 : h b 15 = 0) :
    ∃ h', g_X3_dig b (c : Int) (t : Int) h = some h' ∧ RS P h' b (doesP s 0 c t) ∧ Fr b h h' := by
  have hN := hv.n
  have rc := hR.1 c hc
  have rt := hR.1 t ht
  have ic := hI.1 c hc
  have it := hI.1 t ht
  unfold g_X3_dig doesP
  rw [k_isPlace_t (by omega), e_cP, if_pos rfl, e_join, b_neg (by omega), e_rdn _ _ _ _ _ (by omega), rc.1, e_cI]
  by_cases b1 : s c = 0
  · rw [if_pos b1, b_pos (by omega)]
    exact ⟨h, rfl, ⟨hR, Or.inl h15⟩, Fr.rf⟩
  rw [if_neg b1, b_neg (by omega), e_rdn _ _ _ _ _ (by omega), rc.2.2.2]
  by_cases b2 : s (192 + c) = 1
  · rw [if_pos b2, b_neg (by omega)]
    exact ⟨h, rfl, ⟨hR, Or.inl h15⟩, Fr.rf⟩
  rw [if_neg b2, b_pos (by omega), e_rdn _ _ _ _ _ (by omega), rt.2.2.2]
  by_cases b3 : s (192 + t) = 1
  · rw [if_pos b3, b_neg (by omega)]
    exact ⟨h, rfl, ⟨hR, Or.inl h15⟩, Fr.rf⟩
  obtain ⟨h', w1, w2, w3, w4⟩ := k_moveUnit hv hR hI hB hc ht (by omega)
  rw [if_neg b3, b_pos (by omega), w1, e_cV, e_cI, e_wrn _ _ _ _ _ _ (by omega)]
  refine ⟨_, rfl, ⟨RS0.pck hv w2 hc, Or.inl ?_⟩, w3.tr (Fr.set (by omega))⟩
  rw [set2_np _ _ _ _ _ _ (by omega), w4, h15]
theorem k_perform {P h : Hp} {b : Nat} {B T kind c t : Int} {s : Nat → Int} (hv : PV P) (hB : B ≤ 10000) (hI : IV P B T s) (hR : RS P h b s) (hk : 0 ≤ kind ∧ kind ≤ 4) (hc : kind ≤ 3 → 0 ≤ c ∧ c < nN P) (ht : kind = 0 → (0 ≤ t ∧ t < nN P) ∧ t ≠ c) :
    ∃ h', g_X3_perform b kind c t h = some h' ∧ RS P h' b (doesP s kind c.toNat t.toNat) ∧ Fr b h h' := by
  have hN := hv.n
  unfold g_X3_perform
  rw [e_cI, e_join]
  by_cases k4 : kind = 4
  · subst k4
    rw [b_pos rfl]
    exact ⟨h, rfl, hR, Fr.rf⟩
  obtain ⟨c', rfl⟩ := Int.eq_ofNat_of_zero_le (hc (by omega)).1
  have hcl : c' < nN P := by have := (hc (by omega)).2; omega
  have hR0 : RS0 P (set2 h b 15 0) b s := hR.1.flag15
  have hF0 : Fr b h (set2 h b 15 0) := Fr.set (by omega)
  have h15 : set2 h b 15 0 b 15 = 0 := set2_same _ _ _ _
  rw [b_neg k4, k_isPlace_t (by omega), e_cP, b_neg (by omega), e_cI, e_pZ _ _ _ _ _ (by omega)]
  generalize set2 h b 15 0 = h1 at hR0 hF0 h15 ⊢
  simp only [Int.toNat_natCast]
  have rc := hR0.1 c' hcl
  have ic := hI.1 c' hcl
  by_cases k0 : kind = 0
  · subst k0
    obtain ⟨⟨ht0, ht1⟩, htc⟩ := ht rfl
    obtain ⟨t', rfl⟩ := Int.eq_ofNat_of_zero_le ht0
    obtain ⟨h', w1, w2, w3⟩ := k_dig (t := t') hv hB hI hR0 hcl (by omega) (by omega) h15
    rw [e_join, b_pos rfl, w1, e_cV]
    exact ⟨h', rfl, w2, hF0.tr w3⟩
  by_cases k1 : kind = 1
  · subst k1
    rw [e_join, b_neg (by omega), e_cI, b_pos rfl, e_cI, e_rdn _ _ _ _ _ (by omega), rc.2.2.1, e_cI, e_add _ _ _ (by omega), e_min, e_wrn _ _ _ _ _ _ (by omega)]
    exact ⟨_, rfl, ⟨RS0.pck hv hR0 hcl, Or.inl (by rw [set2_np _ _ _ _ _ _ (by omega), h15])⟩, hF0.tr (Fr.set (by omega))⟩
  by_cases k2 : kind = 2
  · subst k2
    rw [e_join, b_neg (by omega), e_cI, b_neg (by omega), e_cI, b_pos rfl, e_cI, e_rdn _ _ _ _ _ (by omega), rc.2.1, e_cI, e_add _ _ _ (by omega), e_min, e_wrn _ _ _ _ _ _ (by omega)]
    exact ⟨_, rfl, ⟨RS0.wett hv hR0 hcl, Or.inl (by rw [set2_np _ _ _ _ _ _ (by omega), h15])⟩, hF0.tr (Fr.set (by omega))⟩
  have k3 : kind = 3 := by omega
  subst k3
  rw [e_join, b_neg (by omega), e_cI, b_neg (by omega), e_cI, b_neg (by omega), e_cI, b_pos rfl, e_cI, e_wrn _ _ _ _ _ _ (by omega)]
  exact ⟨_, rfl, ⟨RS0.stn hv hR0 hcl, Or.inl (by rw [set2_np _ _ _ _ _ _ (by omega), h15])⟩, hF0.tr (Fr.set (by omega))⟩
theorem RS0.hand {P h h' : Hp} {b i : Nat} {s t : Nat → Int} (hv : PV P) (hH : HV P s) (h0 : RS0 P h b s) (hn : s 275 ≠ -1) (hi : i < (P 118 (s 275).toNat).toNat)
    (e : ∀ j : Nat, j < 289 → j ≠ 276 + i → j ≠ 280 + i → j ≠ 284 + i → t j = s j)
    (eh : ∀ p k, (p ≠ b + 6 ∧ p ≠ b + 7) ∨ k ≠ i → h' p k = h p k)
    (hc : (0 ≤ h' (b + 6) i ∧ h' (b + 6) i ≤ P 119 (4 * (s 275).toNat + i) ∧ t (276 + i) = (if h' (b + 6) i < P 119 (4 * (s 275).toNat + i) then h' (b + 6) i else 0)) ∧
      (P 102 5 = 0 → t (284 + i) = 0) ∧ (P 102 5 ≠ 0 → (t (284 + i) = 1 ∧ h' (b + 7) i = P 102 5 ∧ t (280 + i) = 0) ∨ (t (284 + i) = 0 ∧ h' (b + 7) i = t (280 + i)))) : RS0 P h' b t := by
  have hN := hv.n
  have h12 := (pv_flags hv).1
  have hpl := pv_plan hv
  have h1 := hH.1
  have hpp := (hpl.2 (s 275).toNat (by omega)).1
  obtain ⟨a1, a2, a3, ⟨a4, a6⟩, a5⟩ := h0
  refine ⟨fun j hj => ?_, ?_, ⟨?_, fun j hj => ?_⟩, ⟨?_, ?_⟩, ?_⟩
  · rw [eh _ _ (Or.inl (by omega)), eh _ _ (Or.inl (by omega)), eh _ _ (Or.inl (by omega)), eh _ _ (Or.inl (by omega)), e j (by omega) (by omega) (by omega) (by omega), e (64 + j) (by omega) (by omega) (by omega) (by omega), e (128 + j) (by omega) (by omega) (by omega) (by omega), e (192 + j) (by omega) (by omega) (by omega) (by omega)]
    exact a1 j hj
  · rw [eh _ _ (Or.inl (by omega)), eh _ _ (Or.inl (by omega)), eh _ _ (Or.inl (by omega)), eh _ _ (Or.inl (by omega)), eh _ _ (Or.inl (by omega)), eh _ _ (Or.inl (by omega)), e 270 (by omega) (by omega) (by omega) (by omega), e 269 (by omega) (by omega) (by omega) (by omega), e 271 (by omega) (by omega) (by omega) (by omega), e 272 (by omega) (by omega) (by omega) (by omega), e 273 (by omega) (by omega) (by omega) (by omega), e 274 (by omega) (by omega) (by omega) (by omega)]
    exact a2
  · rw [e 268 (by omega) (by omega) (by omega) (by omega)]; exact a3.1
  · rw [eh _ _ (Or.inl (by omega)), e (264 + j) (by omega) (by omega) (by omega) (by omega), e (256 + j) (by omega) (by omega) (by omega) (by omega), e (260 + j) (by omega) (by omega) (by omega) (by omega)]
    exact a3.2 j hj
  · rw [eh _ _ (Or.inl (by omega)), e 275 (by omega) (by omega) (by omega) (by omega)]; exact a4
  · unfold HR at a6 ⊢
    rw [e 275 (by omega) (by omega) (by omega) (by omega)]
    intro q k hk
    by_cases qk : k = i
    · subst qk; exact hc
    · rw [eh _ _ (Or.inr qk), eh _ _ (Or.inr qk), e (276 + k) (by omega) (by omega) (by omega) (by omega), e (284 + k) (by omega) (by omega) (by omega) (by omega), e (280 + k) (by omega) (by omega) (by omega) (by omega)]
      exact a6 q k hk
  · rw [eh _ _ (Or.inl (by omega)), e 288 (by omega) (by omega) (by omega) (by omega)]; exact a5
theorem k_moveHands {P h : Hp} {b p : Nat} {B T : Int} {s : Nat → Int} (hv : PV P) (hpl : PL P h p) (hd : 61 + 5 * p + 5 ≤ b ∨ b + 8 ≤ 61 + 5 * p) (hB : B ≤ 10000) (hI : IV P B T s) (hR : RS P h b s) (hs : s 275 = (p : Int)) :
    ∃ h', g_X3_moveHands b (61 + 5 * p) (P 102 5) h = some h' ∧ RS P h' b (handsLP P p s (P 118 p).toNat) ∧ Fr b h h' := by
  have hN := hv.n
  have hpv := pv_plan hv
  have htire := hv.2.2.2.2.2.2.2.1
  have h1 := hI.2.2.2.1.1
  have hpp := hpv.2 p (by omega)
  have hp3 : p < 3 := by omega
  unfold g_X3_moveHands
  rw [e_cI]
  refine join_ex (fun j3 hj3 => ?_)
  refine loopF_ex (P 118 p).toNat (fun i q => q.1 = (i : Int) ∧ RS P q.2 b (handsLP P p s i) ∧ Fr b h q.2) ?_ ?_ FU 0 _ (by omega) (fu _ (by omega)) ⟨rfl, hR, Fr.rf⟩
  rotate_left
  · rintro ⟨xx, h2⟩ ⟨e1, e2, e3⟩ self
    dsimp only at e1 e2 e3
    subst e1
    have hp2 := hpl.fr e3 hd
    refine ⟨h2, ?_, e2, e3⟩
    unfold g_X3_moveHands_l6
    dsimp only
    rw [e_gF, hp2.1, b_pos (by omega), hj3]
  rintro i ⟨xx, h2⟩ hi ⟨e1, e2, e3⟩ self
  dsimp only at e1 e2 e3
  subst e1
  left
  have hp2 := hpl.fr e3 hd
  obtain ⟨hIi, h275⟩ : IV P B T (handsLP P p s i) ∧ handsLP P p s i 275 = s 275 := by
    have := iv_handsLP hI hv (by omega) i (by rw [hs]; simp only [Int.toNat_natCast]; omega)
    rw [hs] at this
    simp only [Int.toNat_natCast] at this
    rw [hs]
    exact this
  show ∃ q' : Int × Hp, (q'.1 = ((i + 1 : Nat) : Int) ∧ RS P q'.2 b (handP P p (handsLP P p s i) i) ∧ Fr b h q'.2) ∧ _
  generalize handsLP P p s i = t at hIi e2 h275 ⊢
  have ht275 : t 275 = (p : Int) := by rw [h275, hs]
  have hne : t 275 ≠ -1 := by omega
  have htn : (t 275).toNat = p := by omega
  have hHt := hIi.2.2.2.1.2 hne i (by rw [htn]; exact hi)
  have hRt := e2.1.2.2.2.1.2 hne i (by rw [htn]; exact hi)
  rw [htn] at hHt hRt
  obtain ⟨⟨r1, r2, r3⟩, r4, r5⟩ := hRt
  have ha := hpp.2 i hi
  have hpi := hp2.2 i hi
  have hi4 : i < 4 := by omega
  unfold g_X3_moveHands_l6
  dsimp only
  rw [e_gF, hp2.1, b_neg (by omega), e_cI, b_neg (by omega)]
  refine join_exr (fun j12 hj12 => ?_)
  refine join_exr (fun j16 hj16 => ?_)
  unfold handP
  by_cases brest : t (284 + i) = 1
  · -- the hand rests
    have b0 : P 102 5 ≠ 0 := by
      intro z
      have := r4 z
      omega
    obtain ⟨-, w2, w3⟩ := (r5 b0).resolve_right (by omega)
    rw [if_pos brest, b_neg (by omega), e_rdn _ _ _ _ _ (by omega), w2, b_neg (by omega), e_cI, e_wrn _ _ _ _ _ _ (by omega), hj12, e_add _ _ _ (by omega)]
    refine ⟨((i : Int) + 1, set2 h2 (b + 7) i 0), ⟨by dsimp only; omega, ⟨?_, ?_⟩, e3.tr (Fr.set (by omega))⟩, rfl⟩
    · dsimp only
      refine RS0.hand hv hIi.2.2.2.1 e2.1 hne (by rw [htn]; exact hi) (fun j _ _ _ q => upd1_ne _ _ _ _ q) (fun q k hq => by unfold set2; rw [if_neg (by omega)]) ?_
      rw [htn, set2_np _ _ _ _ _ _ (by omega), set2_same, upd1_ne _ _ _ (276 + i) (by omega), upd1_same, upd1_ne _ _ _ (280 + i) (by omega)]
      exact ⟨⟨r1, r2, r3⟩, fun _ => rfl, fun _ => Or.inr ⟨rfl, w3.symm⟩⟩
    · unfold SE
      dsimp only
      rw [set2_np _ _ _ _ _ _ (by omega)]
      exact SE.congr (P := P) (h := h2) (b := b) hv (fun j hj => ⟨upd1_ne _ _ _ _ (by omega), upd1_ne _ _ _ _ (by omega), upd1_ne _ _ _ _ (by omega), upd1_ne _ _ _ _ (by omega)⟩) e2.2
  rw [if_neg brest]
  have hcls : (if P 102 5 ≤ 0 then j16 () else rdI h2 (b + 7) 4 (i : Int) fun z38 => if z38 < P 102 5 then j16 () else cI 0 fun z39 => wrI h2 (b + 7) 4 (i : Int) z39 fun h40 => j12 h40) = j16 () := by
    by_cases b0 : P 102 5 = 0
    · rw [if_pos (by omega)]
    · have w := (r5 b0).resolve_left (by omega)
      have := hHt.2.2 b0
      rw [if_neg (by omega), e_rdn _ _ _ _ _ (by omega), if_pos (by omega)]
  rw [hcls, hj16, e_rdn _ _ _ _ _ (by omega), e_rdn _ _ _ _ _ (by omega), hpi.1]
  obtain ⟨k, hk⟩ := Int.eq_ofNat_of_zero_le hHt.1.1
  have hkl : k < (P 119 (4 * p + i)).toNat := by omega
  have hac := ha.2 k hkl
  have hpk := hpi.2 k hkl
  refine join_exr (fun j20 hj20 => ?_)
  have hk20 : (if P 119 (4 * p + i) ≤ h2 (b + 6) i then cI 0 fun z36 => j20 z36 else rdI h2 (b + 6) 4 (i : Int) fun z37 => j20 z37) = j20 (k : Int) := by
    by_cases q : P 119 (4 * p + i) ≤ h2 (b + 6) i
    · rw [if_neg (by omega)] at r3
      rw [if_pos q, e_cI, show (0 : Int) = k by omega]
    · rw [if_pos (by omega)] at r3
      rw [if_neg q, e_rdn _ _ _ _ _ (by omega), show h2 (b + 6) i = k by omega]
  rw [hk20, hj20, e_cI, e_mul _ _ _ (by omega), e_add _ _ _ (by omega), show (i : Int) * 8 + (k : Int) = ((8 * i + k : Nat) : Int) by omega, e_rdn _ _ _ _ _ (by omega), hpk.1, e_rdn _ _ _ _ _ (by omega), hpk.2.1, e_rdn _ _ _ _ _ (by omega), hpk.2.2, hk]
  simp only [Int.toNat_natCast]
  generalize actAtP P p i k 0 = kind at hac ⊢
  generalize actAtP P p i k 1 = cell at hac ⊢
  generalize actAtP P p i k 2 = to at hac ⊢
  obtain ⟨h3, w1, w2, w3⟩ := k_perform (kind := kind) (c := cell) (t := to) hv hB hIi e2 hac.1 hac.2.1 (fun z => by have := hac.2.2.2.1 z; omega)
  have hfar : ∀ j, 256 ≤ j → doesP t kind cell.toNat to.toNat j = t j := by
    intro j hj
    by_cases z : kind ≤ 3
    · have h1 := hac.2.1 z
      by_cases z0 : kind = 0
      · have h2 := hac.2.2.2.1 z0
        exact doesP_far (by omega) (by omega) hj
      · have h2 := hac.2.2.2.2 z0
        exact doesP_far (by omega) (by omega) hj
    · unfold doesP
      rw [if_neg (by omega), if_neg (by omega), if_neg (by omega), if_neg (by omega)]
  have hIu := iv_doesP hIi hv hac.1 (c := cell.toNat) (t := to.toNat) (fun z => by have := hac.2.1 z; omega) (fun z => by have := hac.2.2.2.1 z; have := hac.2.1 (by omega); omega)
  rw [w1, e_cV]
  generalize doesP t kind cell.toNat to.toNat = u at hfar w2 hIu ⊢
  have hu275 : u 275 = (p : Int) := by rw [hfar 275 (by omega), ht275]
  have hune : u 275 ≠ -1 := by omega
  have hutn : (u 275).toNat = p := by omega
  obtain ⟨-, s4, s5⟩ := w2.1.2.2.2.1.2 hune i (by rw [hutn]; exact hi)
  rw [hfar (284 + i) (by omega), hfar (280 + i) (by omega)] at s5
  have hm1 : ((k : Int) + 1) % P 119 (4 * p + i) = (if (k : Int) + 1 < P 119 (4 * p + i) then (k : Int) + 1 else 0) := by
    split
    · exact Int.emod_eq_of_lt (by omega) (by omega)
    · rw [show (k : Int) + 1 = P 119 (4 * p + i) by omega]; exact Int.emod_self
  rw [e_cI, e_add _ _ _ (by omega), e_wrn _ _ _ _ _ _ (by omega), e_rdn _ _ _ _ _ (by omega), set2_np _ _ _ _ _ _ (by omega), e_cI, e_addw, e_wrn _ _ _ _ _ _ (by omega), hj12, e_add _ _ _ (by omega)]
  refine ⟨((i : Int) + 1, set2 (set2 h3 (b + 6) i ((k : Int) + 1)) (b + 7) i (wr (h3 (b + 7) i + 1))), ⟨by dsimp only; omega, ⟨?_, ?_⟩, (e3.tr w3).tr ((Fr.set (by omega)).tr (Fr.set (by omega)))⟩, rfl⟩
  · dsimp only
    refine RS0.hand hv hIu.2.2.2.1 w2.1 hune (by rw [hutn]; exact hi) (i := i) (fun j _ q1 q2 q3 => ?_) (fun q j hq => ?_) ?_
    · split
      · rw [upd1_ne _ _ _ _ q2, upd1_ne _ _ _ _ q1]
      · split
        · rw [upd1_ne _ _ _ _ q2, upd1_ne _ _ _ _ q1]
        · rw [upd1_ne _ _ _ _ q3, upd1_ne _ _ _ _ q2, upd1_ne _ _ _ _ q2, upd1_ne _ _ _ _ q1]
    · unfold set2; rw [if_neg (by omega), if_neg (by omega)]
    · rw [hutn, set2_np _ _ _ _ (b + 6) _ (by omega), set2_same, set2_same, hm1]
      by_cases b0 : P 102 5 = 0
      · rw [if_pos b0, upd1_ne _ _ _ (276 + i) (by omega), upd1_same, upd1_ne _ _ _ (284 + i) (by omega), upd1_ne _ _ _ (284 + i) (by omega)]
        exact ⟨⟨by omega, by omega, rfl⟩, s4, fun z => absurd b0 z⟩
      · have h280 := hHt.2.2 b0
        have v := (s5 b0).resolve_left (by omega)
        have ew : wr (t (280 + i) + 1) = t (280 + i) + 1 := wr_eq (by omega)
        rw [if_neg b0, v.2, ew, upd1_same]
        by_cases b1 : t (280 + i) + 1 < P 102 5
        · rw [if_pos b1, upd1_ne _ _ _ (276 + i) (by omega), upd1_same, upd1_ne _ _ _ (284 + i) (by omega), upd1_ne _ _ _ (284 + i) (by omega), upd1_same, hfar (284 + i) (by omega)]
          exact ⟨⟨by omega, by omega, rfl⟩, fun z => absurd z b0, fun _ => Or.inr ⟨v.1, rfl⟩⟩
        · rw [if_neg b1, upd1_ne _ _ _ (276 + i) (by omega), upd1_ne _ _ _ (276 + i) (by omega), upd1_ne _ _ _ (276 + i) (by omega), upd1_same, upd1_same, upd1_ne _ _ _ (280 + i) (by omega), upd1_same]
          exact ⟨⟨by omega, by omega, rfl⟩, fun z => absurd z b0, fun _ => Or.inl ⟨rfl, by omega, rfl⟩⟩
  · unfold SE
    dsimp only
    rw [set2_np _ _ _ _ _ _ (by omega), set2_np _ _ _ _ _ _ (by omega)]
    refine SE.congr (P := P) (h := h3) (b := b) hv (fun j hj => ?_) w2.2
    split
    · exact ⟨by rw [upd1_ne _ _ _ _ (by omega), upd1_ne _ _ _ _ (by omega)], by rw [upd1_ne _ _ _ _ (by omega), upd1_ne _ _ _ _ (by omega)], by rw [upd1_ne _ _ _ _ (by omega), upd1_ne _ _ _ _ (by omega)], by rw [upd1_ne _ _ _ _ (by omega), upd1_ne _ _ _ _ (by omega)]⟩
    · split
      · exact ⟨by rw [upd1_ne _ _ _ _ (by omega), upd1_ne _ _ _ _ (by omega)], by rw [upd1_ne _ _ _ _ (by omega), upd1_ne _ _ _ _ (by omega)], by rw [upd1_ne _ _ _ _ (by omega), upd1_ne _ _ _ _ (by omega)], by rw [upd1_ne _ _ _ _ (by omega), upd1_ne _ _ _ _ (by omega)]⟩
      · exact ⟨by rw [upd1_ne _ _ _ _ (by omega), upd1_ne _ _ _ _ (by omega), upd1_ne _ _ _ _ (by omega), upd1_ne _ _ _ _ (by omega)], by rw [upd1_ne _ _ _ _ (by omega), upd1_ne _ _ _ _ (by omega), upd1_ne _ _ _ _ (by omega), upd1_ne _ _ _ _ (by omega)], by rw [upd1_ne _ _ _ _ (by omega), upd1_ne _ _ _ _ (by omega), upd1_ne _ _ _ _ (by omega), upd1_ne _ _ _ _ (by omega)], by rw [upd1_ne _ _ _ _ (by omega), upd1_ne _ _ _ _ (by omega), upd1_ne _ _ _ _ (by omega), upd1_ne _ _ _ _ (by omega)]⟩
/-- the object of a plan, or none -/
def planRef (p : Int) : Int := if p = -1 then -1 else 61 + 5 * p
theorem flagsP_far {P : Hp} {s : Nat → Int} {j : Nat} (hj : j < 264 ∨ 268 ≤ j) : ∀ n, n ≤ 4 → flagsP P s n j = s j
  | 0, _ => rfl
  | n + 1, hn => by
    have ih := flagsP_far (P := P) (s := s) hj n (by omega)
    show flagP P (flagsP P s n) n j = s j
    unfold flagP
    split
    · split
      · rw [upd1_ne _ _ _ _ (by omega)]; exact ih
      · exact ih
    · exact ih
theorem dryP_far {P : Hp} {s : Nat → Int} {a j : Nat} (hv : PV P) (hj : 256 ≤ j) : ∀ n, a + n ≤ nN P → dryP s a n j = s j
  | 0, _ => rfl
  | n + 1, hn => by
    have hN := hv.n
    show dryC (dryP s a n) (a + n) j = s j
    unfold dryC
    rw [upd1_ne _ _ _ _ (by omega)]
    exact dryP_far hv hj n (by omega)
theorem k_live {P h : Hp} {b c v : Nat} {B T : Int} {s : Nat → Int} (hv : PV P) (hb : PB P h c) (hd : c + 6 ≤ b ∨ b + 8 ≤ c) (hs : PS P h v) (hdv : v + 5 ≤ b ∨ b + 8 ≤ v)
    (hpl : ∀ p : Nat, p < (P 100 41).toNat → PL P h p ∧ (61 + 5 * p + 5 ≤ b ∨ b + 8 ≤ 61 + 5 * p)) (hB : B ≤ 10000) (hT : T ≤ 1000000) (hI : IV P B T s) (hR : RS P h b s) :
    ∃ h', g_X3_live b c v (planRef (s 275)) h = some h' ∧ RS P h' b (minuteP P s) ∧ Fr b h h' := by
  have hN := hv.n
  have hcn := cN_le hv
  unfold g_X3_live minuteP
  refine join_ex (fun j2 hj2 => ?_)
  have hands : ∃ h1, (if planRef (s 275) < 0 then j2 h else cI 7 fun z22 => rdI h (c + 1) 11 z22 fun z23 => cV (g_X3_moveHands b (planRef (s 275)).toNat z23 h) fun h24 => j2 h24) = j2 h1 ∧ RS P h1 b (handsP P s) ∧ Fr b h h1 := by
    unfold handsP planRef
    by_cases q : s 275 = -1
    · rw [if_pos q, if_pos q, if_pos (by omega)]
      exact ⟨h, rfl, hR, Fr.rf⟩
    · have h1 := hI.2.2.2.1.1
      obtain ⟨p, hp⟩ := Int.eq_ofNat_of_zero_le (show 0 ≤ s 275 by omega)
      obtain ⟨w0, w1⟩ := hpl p (by omega)
      obtain ⟨h2, u1, u2, u3⟩ := k_moveHands hv w0 w1 hB hI hR hp
      have e7 := hb.num (k := 5) (by omega)
      rw [show 2 + 5 = 7 from rfl] at e7
      rw [if_neg q, if_neg q, if_neg (by omega), e_cI, e_rd _ _ _ _ _ (by omega), show (7 : Int).toNat = 7 from rfl, e7, hp, show (61 + 5 * (p : Int)).toNat = 61 + 5 * p by omega, u1, e_cV]
      simp only [Int.toNat_natCast]
      exact ⟨h2, rfl, u2, u3⟩
  obtain ⟨h1, e1, r1, f1⟩ := hands
  rw [e1, hj2]
  have i1 := iv_handsP hI hv
  generalize handsP P s = s1 at r1 i1 ⊢
  obtain ⟨h2, e2, r2, f2⟩ := k_meetWaves hv (hb.fr f1 hd) hd (hs.fr f1 hdv) hdv hB hT i1 r1
  rw [e2, e_cV, e_cI, e_rd _ _ _ _ _ (by omega), show (4 : Int).toNat = 4 from rfl]
  have b2 := (hb.fr f1 hd).fr f2 hd
  have e4 := b2.num (k := 2) (by omega)
  rw [show 2 + 2 = 4 from rfl] at e4
  rw [e4]
  have hdry := hv.2.2.2.2.1
  have i2 := iv_seaP i1 hv
  unfold finishP
  generalize seaP P s1 = s2 at r2 i2 ⊢
  refine join_ex (fun j8 hj8 => ?_)
  have h270 := i2.2.2.1.1
  have sun : ∃ h3, (if P 102 2 ≤ 0 then j8 h2 else gF h2 b 9 fun z16 => cI 1 fun z17 => addI z16 z17 fun z18 => remI z18 (P 102 2) fun z19 => if z19 = 0 then cV (g_X3_shine b c h2) fun h20 => j8 h20 else j8 h2) = j8 h3 ∧ RS P h3 b (sunP P s2) ∧ Fr b h2 h3 := by
    unfold sunP
    rw [if_neg (by omega), e_gF, r2.1.2.1.1, e_cI, e_add _ _ _ (by omega), e_rem _ _ _ (by omega)]
    by_cases q : (s2 270 + 1) % P 102 2 = 0
    · obtain ⟨h3, u1, u2, u3⟩ := k_shine hv b2 hd hB i2 r2
      rw [if_pos q, if_pos q, u1, e_cV]
      exact ⟨h3, rfl, u2, u3⟩
    · rw [if_neg q, if_neg q]
      exact ⟨h2, rfl, r2, Fr.rf⟩
  obtain ⟨h3, e3, r3, f3⟩ := sun
  have i3 := iv_sunP i2 hv
  have g270 : sunP P s2 270 = s2 270 := by
    unfold sunP
    split
    · exact dryP_far hv (by omega) _ (by omega)
    · rfl
  rw [e3, hj8]
  generalize sunP P s2 = s3 at r3 i3 g270 ⊢
  obtain ⟨h4, e4, r4, f4⟩ := k_slide hv (b2.fr f3 hd) hd hB i3 r3
  rw [e4, e_cV]
  have i4 := iv_slidesP i3 hv
  generalize slidesP P s3 = s4 at r4 i4 ⊢
  obtain ⟨h5, e5, r5, f5⟩ := k_dropFlags hv ((b2.fr f3 hd).fr f4 hd) hd hB hT i4 r4
  have i5 := iv_flagsP i4 hv (s4 268).toNat (by have := i4.2.2.1.2.1; omega)
  have h270b := i5.2.2.1.1
  dsimp only
  rw [e5, e_cV]
  generalize flagsP P s4 (s4 268).toNat = s5 at r5 i5 h270b ⊢
  rw [e_gF, r5.1.2.1.1, e_cI, e_add _ _ _ (by omega), e_pF]
  exact ⟨_, rfl, r5.fld (k := 9) (by omega) hv, ((((f1.tr f2).tr f3).tr f4).tr f5).tr (Fr.set (by omega))⟩
