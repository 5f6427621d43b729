/-! THE CLASS: its minute does what the spec says -/
theorem e_rdn {R : Type} (h : Hp) (q n c : Nat) (K : Int → Option R) (hi : c < n) : rdI h q n (c : Int) K = K (h q c) := by unfold rdI; rw [if_pos (by omega), Int.toNat_natCast]
theorem e_wrn {R : Type} (h : Hp) (q n c : Nat) (x : Int) (K : Hp → Option R) (hi : c < n) : wrI h q n (c : Int) x K = K (set2 h q c x) := by unfold wrI; rw [if_pos (by omega), Int.toNat_natCast]
/-- a loop that counts, with an invariant; it may leave early -/
theorem loopF_ex {σ R : Type} {body : (σ → Option R) → σ → Option R} (N : Nat) (I : Nat → σ → Prop) {Q : R → Prop}
    (hs : ∀ i q, i < N → I i q → ∀ self : σ → Option R, (∃ q', I (i + 1) q' ∧ body self q = self q') ∨ ∃ r, body self q = some r ∧ Q r)
    (ho : ∀ q, I N q → ∀ self : σ → Option R, ∃ r, body self q = some r ∧ Q r) :
    ∀ (n i : Nat) (q : σ), i ≤ N → N - i < n → I i q → ∃ r, loopF body n q = some r ∧ Q r
  | 0, i, q, _, h, _ => by omega
  | n + 1, i, q, hi, hn, hq => by
    show ∃ r, body (loopF body n) q = some r ∧ Q r
    by_cases e : i = N
    · subst e; exact ho q hq _
    · rcases hs i q (by omega) hq (loopF body n) with ⟨q', h1, h2⟩ | h1
      · rw [h2]
        exact loopF_ex N I hs ho n (i + 1) q' (by omega) (by omega) h1
      · exact h1
theorem join_ex {R α : Type} {J : α → Option R} {K : (α → Option R) → Option R} {Q : R → Prop} (kk : ∀ j : α → Option R, (∀ a, j a = J a) → ∃ r, K j = some r ∧ Q r) : ∃ r, joinF J K = some r ∧ Q r := kk J (fun _ => rfl)
theorem join_exg {R α β : Type} {J : α → Option R} {K : (α → Option R) → Option R} {F : β → Option R} {Q : β → Prop} (kk : ∀ j : α → Option R, (∀ a, j a = J a) → ∃ x, K j = F x ∧ Q x) : ∃ x, joinF J K = F x ∧ Q x := kk J (fun _ => rfl)
theorem upd1_id {s : Nat → Int} {k : Nat} {x : Int} (h : s k = x) : upd1 s k x = s := by
  funext j
  unfold upd1
  split
  · rename_i e; rw [e, h]
  · rfl
theorem RS0.hgt {P h : Hp} {b c : Nat} {s : Nat → Int} {x : Int} (hv : PV P) (h0 : RS0 P h b s) (hc : c < nN P) : RS0 P (set2 h (b + 1) c x) b (upd1 s c x) := by
  have := h0.cell hv hc 0 (by omega) (x := x)
  rw [show 64 * 0 + c = c by omega] at this
  exact this
theorem RS0.wett {P h : Hp} {b c : Nat} {s : Nat → Int} {x : Int} (hv : PV P) (h0 : RS0 P h b s) (hc : c < nN P) : RS0 P (set2 h (b + 2) c x) b (upd1 s (64 + c) x) := h0.cell hv hc 1 (by omega) (x := x)
theorem RS0.pck {P h : Hp} {b c : Nat} {s : Nat → Int} {x : Int} (hv : PV P) (h0 : RS0 P h b s) (hc : c < nN P) : RS0 P (set2 h (b + 3) c x) b (upd1 s (128 + c) x) := h0.cell hv hc 2 (by omega) (x := x)
theorem RS0.stn {P h : Hp} {b c : Nat} {s : Nat → Int} {x : Int} (hv : PV P) (h0 : RS0 P h b s) (hc : c < nN P) : RS0 P (set2 h (b + 4) c x) b (upd1 s (192 + c) x) := h0.cell hv hc 3 (by omega) (x := x)
theorem RS0.dirty {P h : Hp} {b : Nat} {s : Nat → Int} (h0 : RS0 P h b s) : RS P (set2 h b 15 0) b s := ⟨h0.flag15, Or.inl (set2_same _ _ _ _)⟩
theorem RS.fld {P h : Hp} {b k : Nat} {s : Nat → Int} {x : Int} (h0 : RS P h b s) (hk : 9 ≤ k ∧ k ≤ 14) (hv : PV P) : RS P (set2 h b k x) b (upd1 s (fldR k) x) := by
  have hn := hv.n
  have hf : 269 ≤ fldR k ∧ fldR k ≤ 274 := by
    rcases (by omega : k = 9 ∨ k = 10 ∨ k = 11 ∨ k = 12 ∨ k = 13 ∨ k = 14) with rfl | rfl | rfl | rfl | rfl | rfl <;> decide
  refine ⟨h0.1.fld hk hv, ?_⟩
  unfold SE
  rw [set2_nk _ _ _ _ _ _ (by omega)]
  exact SE.congr (P := P) (h := h) (b := b) hv (fun j hj => ⟨upd1_ne _ _ _ _ (by omega), upd1_ne _ _ _ _ (by omega), upd1_ne _ _ _ _ (by omega), upd1_ne _ _ _ _ (by omega)⟩) h0.2
theorem k_columns {P h : Hp} {c : Nat} (hb : PB P h c) (hv : PV P) : g_X0_columns c h = some (cN P : Int) := by
  obtain ⟨c10, c11, a1, a2, a3, a4⟩ := hv.cr
  unfold g_X0_columns
  rw [e_cI, e_rd _ _ _ _ _ (by omega)]
  simp only [Int.reduceToNat]
  rw [hb.1.1, c10]
theorem k_rows {P h : Hp} {c : Nat} (hb : PB P h c) (hv : PV P) : g_X0_rows c h = some (rN P : Int) := by
  obtain ⟨c10, c11, a1, a2, a3, a4⟩ := hv.cr
  unfold g_X0_rows
  rw [e_cI, e_rd _ _ _ _ _ (by omega)]
  simp only [Int.reduceToNat]
  rw [hb.1.2.1, c11]
theorem k_cells {P h : Hp} {c : Nat} (hb : PB P h c) (hv : PV P) : g_X0_cells c h = some (nN P : Int) := by
  obtain ⟨c10, c11, a1, a2, a3, a4⟩ := hv.cr
  have hN := hv.n
  have hnn := PV.nn (P := P)
  unfold g_X0_cells
  rw [e_cI, e_rd _ _ _ _ _ (by omega), e_cI, e_rd _ _ _ _ _ (by omega)]
  simp only [Int.reduceToNat]
  rw [hb.1.1, hb.1.2.1, c10, c11, e_mul _ _ _ (by omega), hnn]
theorem PB.num {P h : Hp} {c : Nat} (hb : PB P h c) {k : Nat} (hk : k < 9) : h (c + 1) (2 + k) = P 102 k := hb.1.2.2 k hk
theorem k_fall {P h : Hp} {c : Nat} (hb : PB P h c) : g_X0_fall c h = some (P 102 4) := by
  unfold g_X0_fall
  rw [e_cI, e_rd _ _ _ _ _ (by omega)]
  simp only [Int.reduceToNat]
  rw [show (6 : Nat) = 2 + 4 from rfl, hb.num (by omega)]
theorem k_firstHeight {P h : Hp} {c k : Nat} (hb : PB P h c) (hv : PV P) (hk : k < 64) : g_X0_firstHeight c k h = some (P 102 0 + P 104 k) := by
  have h0 := hv.2.2.1
  have h1 := (pv_flags hv).2.2 k hk
  unfold g_X0_firstHeight
  rw [e_join, e_join, b_neg (by omega), e_cI, b_neg (by omega), e_cI, e_rd _ _ _ _ _ (by omega), e_rd _ _ _ _ _ (by omega)]
  simp only [Int.reduceToNat, Int.toNat_natCast]
  have h2 := hb.num (k := 0) (by omega)
  rw [show 2 + 0 = 2 from rfl] at h2
  rw [h2, (hb.2.2.2.2 k hk).1, e_add _ _ _ (by omega)]
theorem k_bearing {P h : Hp} {c : Nat} (hb : PB P h c) (hv : PV P) {w p : Int} (hw : 0 ≤ w ∧ w ≤ 16) (hp : 0 ≤ p ∧ p ≤ 4) : g_X0_bearing c w p h = some (holdsP P w p) := by
  have hs := strP_le hv hw
  have h1 := hv.2.2.2.1
  have hm : 0 ≤ p * P 102 1 := Int.mul_nonneg hp.1 h1.1
  have hm2 : p * P 102 1 ≤ 4 * 5 := Int.mul_le_mul hp.2 h1.2 h1.1 (by omega)
  obtain ⟨k, rfl⟩ := Int.eq_ofNat_of_zero_le hw.1
  unfold g_X0_bearing
  rw [e_join, e_join, b_neg (by omega), e_cI, b_neg (by omega), e_rd _ _ _ _ _ (by omega)]
  simp only [Int.toNat_natCast]
  have h2 := hb.num (k := 1) (by omega)
  rw [show 2 + 1 = 3 from rfl] at h2
  rw [hb.2.1 k (by omega), e_cI, e_add _ _ _ (by omega), e_cI, e_rd _ _ _ _ _ (by omega)]
  simp only [Int.reduceToNat]
  rw [h2, e_mul _ _ _ (by omega), e_add _ _ _ (by omega)]
  unfold holdsP
  rw [Int.mul_comm p]
theorem k_isPlace_t {c : Nat} (hc : c < 64) : g_X3_isPlace c = some 1 := by
  unfold g_X3_isPlace
  rw [e_join, e_join, b_neg (by omega), e_cI, b_neg (by omega), e_cI]
  exact e_retZ1
theorem k_moveUnit {P h : Hp} {b a t : Nat} {B T : Int} {s : Nat → Int} (hv : PV P) (hR : RS0 P h b s) (hI : IV P B T s) (hB : B ≤ 10000) (ha : a < nN P) (ht : t < nN P) (hat : a ≠ t) :
    ∃ h', g_X3_moveUnit b (a : Int) (t : Int) h = some h' ∧ RS0 P h' b (unitP s a t) ∧ Fr b h h' ∧ h' b 15 = h b 15 := by
  have hN := hv.n
  have ra := hR.1 a ha
  have rt := hR.1 t ht
  have ia := hI.1 a ha
  have it := hI.1 t ht
  have la := hI.le ha
  have lt := hI.le ht
  have hm : 0 ≤ s (64 + t) * s t := Int.mul_nonneg it.2.1.1 it.1
  have hm2 : s (64 + t) * s t ≤ 16 * 10000 := Int.mul_le_mul it.2.1.2 (by omega) it.1 (by omega)
  refine ⟨set2 (set2 (set2 (set2 h (b + 2) t (mixW s a t)) (b + 3) t 0) (b + 1) a (s a - 1)) (b + 1) t (s t + 1), ?_, ?_, ?_, ?_⟩
  · unfold g_X3_moveUnit
    rw [e_rdn _ _ _ _ _ (by omega), rt.1]
    refine join_gen (fun j3 hj => ?_)
    have e : (if s t ≤ 0 then cI 0 (fun z23 => j3 z23) else rdI h (b + 1) 64 t (fun z24 => j3 z24)) = j3 (s t) := by
      split
      · rw [e_cI, show s t = 0 by omega]
      · rw [e_rd _ _ _ _ _ (by omega), Int.toNat_natCast, rt.1]
    rw [e, hj, e_rdn _ _ _ _ _ (by omega), rt.2.1, e_mul _ _ _ (by omega), e_rdn _ _ _ _ _ (by omega), ra.2.1, e_add _ _ _ (by omega), e_cI, e_add _ _ _ (by omega), e_div _ _ _ (by omega), e_wrn _ _ _ _ _ _ (by omega), e_cI, e_wrn _ _ _ _ _ _ (by omega), e_rdn _ _ _ _ _ (by omega), set2_np _ _ _ _ _ _ (by omega), set2_np _ _ _ _ _ _ (by omega), ra.1, e_cI, e_sub _ _ _ (by omega), e_wrn _ _ _ _ _ _ (by omega), e_rdn _ _ _ _ _ (by omega), set2_nk _ _ _ _ _ _ (by omega), set2_np _ _ _ _ _ _ (by omega), set2_np _ _ _ _ _ _ (by omega), rt.1, e_cI, e_add _ _ _ (by omega), e_wrn _ _ _ _ _ _ (by omega)]
    rfl
  · exact RS0.hgt hv (RS0.hgt hv (RS0.pck hv (RS0.wett hv hR ht) ht) ha) ht
  · exact ((Fr.set (by omega)).tr (Fr.set (by omega))).tr ((Fr.set (by omega)).tr (Fr.set (by omega)))
  · rw [set2_np _ _ _ _ _ _ (by omega), set2_np _ _ _ _ _ _ (by omega), set2_np _ _ _ _ _ _ (by omega), set2_np _ _ _ _ _ _ (by omega)]
theorem k_soak {P h : Hp} {b c : Nat} {s : Nat → Int} (hv : PV P) (hR : RS P h b s) (hc : c < nN P) :
    ∃ h', g_X3_soak b (c : Int) h = some h' ∧ RS P h' b (upd1 s (64 + c) 16) ∧ Fr b h h' := by
  have hN := hv.n
  have rc := hR.1.1 c hc
  unfold g_X3_soak
  rw [e_rdn _ _ _ _ _ (by omega), rc.2.1, e_cI, e_join]
  by_cases b1 : s (64 + c) = 16
  · rw [b_pos b1, upd1_id b1]
    exact ⟨h, rfl, hR, Fr.rf⟩
  · rw [b_neg b1, e_cI, e_wrn _ _ _ _ _ _ (by omega), e_cI, e_pZ _ _ _ _ _ (by omega)]
    exact ⟨_, rfl, (RS0.wett hv hR.1 hc).dirty, (Fr.set (by omega)).tr (Fr.set (by omega))⟩
theorem k_carryOff {P h : Hp} {b c : Nat} {B T : Int} {s : Nat → Int} (hv : PV P) (hR : RS P h b s) (hI : IV P B T s) (hB : B ≤ 10000) (hc : c < nN P) :
    ∃ h', g_X3_carryOff b (c : Int) (offP P s c) h = some h' ∧ RS P h' b (cutP P s c) ∧ Fr b h h' := by
  have hN := hv.n
  have rc := hR.1.1 c hc
  have ic := hI.nn hc
  have lc := hI.le hc
  have ho := offP_in hI hv hc
  have hS := hI.2.1
  have hsum := sumN_nonneg (f := s) (n := nN P) (fun k hk => hI.nn hk)
  unfold SV at hS
  unfold g_X3_carryOff cutP
  generalize offP P s c = o at ho ⊢
  rw [e_join]
  by_cases b1 : o ≤ 0
  · rw [b_pos b1, show o = 0 by omega]
    rw [upd1_id (s := s) (k := c) (by omega), upd1_id (by omega)]
    exact ⟨h, rfl, hR, Fr.rf⟩
  · rw [b_neg b1, e_rdn _ _ _ _ _ (by omega), rc.1, e_sub _ _ _ (by omega), e_wrn _ _ _ _ _ _ (by omega), e_gF, set2_np _ _ _ _ _ _ (by omega)]
    simp only [Int.toNat_natCast]
    rw [hR.1.2.1.2.1, e_add _ _ _ (by omega), e_pF, e_cI, e_pZ _ _ _ _ _ (by omega)]
    exact ⟨_, rfl, ((RS0.hgt hv hR.1 hc).fld (k := 10) (by omega) hv).dirty, ((Fr.set (by omega)).tr (Fr.set (by omega))).tr (Fr.set (by omega))⟩
theorem k_col {P h0 : Hp} {b x far : Nat} {lvl B T : Int} {j5 : Hp → Option Hp} {j8 j15 : Int × Hp → Option Hp} (hv : PV P) (hB : B ≤ 10000) (hx : x < cN P) (hfar : far ≤ 8)
    (h5 : ∀ h' s', RS P h' b s' → Fr b h0 h' → ∃ r, j5 h' = some r ∧ RS P r b s' ∧ Fr b h0 r)
    (h8 : ∀ (k : Nat) h' s', k < nN P → IV P B T s' → RS P h' b s' → Fr b h0 h' → ∃ r, j8 ((k : Int), h') = some r ∧ RS P r b (cutP P s' k) ∧ Fr b h0 r)
    (h15 : ∀ (y : Nat) h' s', y < rN P → IV P B T s' → RS P h' b s' → Fr b h0 h' → ∃ r, j15 (((cN P * y + x : Nat) : Int), h') = some r ∧ RS P r b (if y + 1 < rN P then upd1 s' (64 + (cN P * y + x) + cN P) 16 else s') ∧ Fr b h0 r) :
    ∀ (f y : Nat) (s : Nat → Int) (h : Hp) (n : Nat), f + y = 8 → f < n → IV P B T s → RS P h b s → Fr b h0 h → ∃ r, loopF (g_X3_runUpColumn_l25 b j5 j8 j15 (far : Int) lvl (cN P : Int) (nN P : Int)) n (((cN P * y + x : Nat) : Int), (y : Int), h) = some r ∧ RS P r b (colP P x far lvl f y s) ∧ Fr b h0 r := by
  obtain ⟨c10, c11, a1, a2, a3, a4⟩ := hv.cr
  have hN := hv.n
  intro f
  induction f with
  | zero =>
    intro y s h n hy hn hI hR hF
    obtain ⟨n, rfl⟩ : ∃ k, n = k + 1 := ⟨n - 1, by omega⟩
    show ∃ r, g_X3_runUpColumn_l25 b j5 j8 j15 (far : Int) lvl (cN P : Int) (nN P : Int) (loopF (g_X3_runUpColumn_l25 b j5 j8 j15 (far : Int) lvl (cN P : Int) (nN P : Int)) n) (((cN P * y + x : Nat) : Int), (y : Int), h) = some r ∧ _
    generalize loopF (g_X3_runUpColumn_l25 b j5 j8 j15 (far : Int) lvl (cN P : Int) (nN P : Int)) n = self
    unfold g_X3_runUpColumn_l25
    dsimp only
    rw [b_pos (by omega)]
    exact h5 h s hR hF
  | succ f ih =>
    intro y s h n hy hn hI hR hF
    obtain ⟨n, rfl⟩ : ∃ k, n = k + 1 := ⟨n - 1, by omega⟩
    show ∃ r, g_X3_runUpColumn_l25 b j5 j8 j15 (far : Int) lvl (cN P : Int) (nN P : Int) (loopF (g_X3_runUpColumn_l25 b j5 j8 j15 (far : Int) lvl (cN P : Int) (nN P : Int)) n) (((cN P * y + x : Nat) : Int), (y : Int), h) = some r ∧ _
    have hself := fun (s1 : Nat → Int) (h1 : Hp) (i1 : IV P B T s1) (i2 : RS P h1 b s1) (i3 : Fr b h0 h1) => ih (y + 1) s1 h1 n (by omega) (by omega) i1 i2 i3
    generalize loopF (g_X3_runUpColumn_l25 b j5 j8 j15 (far : Int) lvl (cN P : Int) (nN P : Int)) n = self at hself ⊢
    unfold g_X3_runUpColumn_l25
    dsimp only
    unfold colP
    by_cases h1 : far ≤ y
    · rw [if_pos h1, b_pos (by omega)]
      exact h5 h s hR hF
    rw [if_neg h1, b_neg (by omega)]
    by_cases h2 : rN P ≤ y
    · have hge : nN P ≤ cN P * y := Nat.mul_le_mul_left _ h2
      rw [if_pos h2, b_pos (by omega)]
      exact h5 h s hR hF
    rw [if_neg h2]
    have hc := cell_lt (P := P) hx (show y < rN P by omega)
    have hstep : cN P * (y + 1) + x = cN P * y + x + cN P := by rw [Nat.mul_add]; omega
    rw [hstep] at hself
    have h15' := h15 y
    generalize cN P * y + x = c at hc h15' hself ⊢
    have rc := hR.1.1 c hc
    have hI0 := hI.1 c hc
    have hle := hI.le hc
    rw [b_neg (by omega), e_rdn _ _ _ _ _ (by omega), rc.2.2.2]
    by_cases b1 : s (192 + c) = 1
    · rw [if_pos b1, b_neg (by omega)]
      exact h15' h s (by omega) hI hR hF
    rw [if_neg b1, b_pos (by omega)]
    obtain ⟨h', q1, q2, q3⟩ := k_soak hv hR hc
    have hI1 : IV P B T (upd1 s (64 + c) 16) := iv_wet hI hv hc (by omega)
    have e1c : upd1 s (64 + c) 16 c = s c := upd1_ne _ _ _ _ (by omega)
    rw [q1, e_cV, e_rdn _ _ _ _ _ (by omega), (q2.1.1 c hc).1, e1c]
    by_cases b2 : lvl < s c
    · rw [if_pos b2, b_neg (by omega)]
      exact h8 c h' _ hc hI1 q2 (hF.tr q3)
    · rw [if_neg b2, b_pos (by omega), e_add _ _ _ (by omega), e_add _ _ _ (by omega)]
      have := hself _ h' hI1 q2 (hF.tr q3)
      rw [show ((y + 1 : Nat) : Int) = (y : Int) + 1 by omega, show ((c + cN P : Nat) : Int) = (c : Int) + (cN P : Int) by omega] at this
      exact this
theorem k_runUpColumn {P h : Hp} {b c x far : Nat} {lvl B T : Int} {s : Nat → Int} (hv : PV P) (hb : PB P h c) (hB : B ≤ 10000) (hx : x < cN P) (hfar : far ≤ 8) (hI : IV P B T s) (hR : RS P h b s) :
    ∃ h', g_X3_runUpColumn b c (x : Int) (far : Int) lvl (P 100 39) h = some h' ∧ RS P h' b (colP P x far lvl 8 0 s) ∧ Fr b h h' := by
  obtain ⟨c10, c11, a1, a2, a3, a4⟩ := hv.cr
  have hN := hv.n
  have hcut := hv.2.2.2.2.2.2.2.2.2.2.2.1
  unfold g_X3_runUpColumn
  rw [k_columns hb hv, e_cP, k_cells hb hv, e_cP, e_cI]
  refine join_ex (fun j5 hj5 => ?_)
  refine join_ex (fun j8 hj8 => ?_)
  refine join_ex (fun j15 hj15 => ?_)
  have key := k_col (P := P) (h0 := h) (b := b) (x := x) (far := far) (lvl := lvl) (B := B) (T := T) (j5 := j5) (j8 := j8) (j15 := j15) hv hB hx hfar ?_ ?_ ?_ 8 0 s h FU (by omega) (fu _ (by omega)) hI hR Fr.rf
  · rw [show cN P * 0 + x = x by omega, show ((0 : Nat) : Int) = 0 from rfl] at key
    exact key
  · intro h' s' q1 q2
    rw [hj5]
    exact ⟨h', rfl, q1, q2⟩
  · intro k h' s' hk q1 q2 q3
    rw [hj8]
    dsimp only
    rw [e_rdn _ _ _ _ _ (by omega), (q2.1.1 k hk).1, e_min]
    obtain ⟨h2, w1, w2, w3⟩ := k_carryOff hv q2 q1 hB hk
    rw [show (if s' k < P 100 39 then s' k else P 100 39) = offP P s' k from rfl, w1, e_cV]
    exact ⟨h2, rfl, w2, q3.tr w3⟩
  · intro y h' s' hy q1 q2 q3
    have hc := cell_lt (P := P) hx hy
    rw [hj15]
    dsimp only
    rw [e_add _ _ _ (by omega)]
    have hstep : cN P * (y + 1) + x = cN P * y + x + cN P := by rw [Nat.mul_add]; omega
    by_cases b1 : y + 1 < rN P
    · have hc2 := cell_lt (P := P) hx b1
      rw [hstep] at hc2
      rw [if_pos b1, show 64 + (cN P * y + x) + cN P = 64 + (cN P * y + x + cN P) by omega]
      generalize cN P * y + x = k at hc hc2 ⊢
      rw [e_join, b_neg (by omega), e_add _ _ _ (by omega)]
      obtain ⟨h2, w1, w2, w3⟩ := k_soak hv q2 hc2
      rw [show (k : Int) + (cN P : Int) = ((k + cN P : Nat) : Int) by omega, w1, e_cV]
      exact ⟨h2, rfl, w2, q3.tr w3⟩
    · have hge : nN P ≤ cN P * (y + 1) := Nat.mul_le_mul_left _ (by omega)
      rw [if_neg b1, e_join, b_pos (by omega)]
      exact ⟨h', rfl, q2, q3⟩
theorem k_runUp {P h : Hp} {b c far : Nat} {lvl B T : Int} {s : Nat → Int} (hv : PV P) (hb : PB P h c) (hd : c + 6 ≤ b ∨ b + 8 ≤ c) (hB : B ≤ 10000) (hfar : far ≤ 8) (hI : IV P B T s) (hR : RS P h b s) :
    ∃ h', g_X3_runUp b c (far : Int) lvl (P 100 39) h = some h' ∧ RS P h' b (waveP P far lvl s) ∧ Fr b h h' := by
  obtain ⟨c10, c11, a1, a2, a3, a4⟩ := hv.cr
  have hN := hv.n
  unfold g_X3_runUp
  rw [e_gF, hR.1.2.1.2.2.2.2.2, e_cI, e_addw, e_pF, e_cI]
  have hR1 : RS P (set2 h b 14 (wr (s 274 + 1))) b (upd1 s 274 (wr (s 274 + 1))) := hR.fld (k := 14) (by omega) hv
  have hI1 : IV P B T (upd1 s 274 (wr (s 274 + 1))) := hI.side hv (by omega)
  have hF1 : Fr b h (set2 h b 14 (wr (s 274 + 1))) := Fr.set (by omega)
  unfold waveP
  generalize upd1 s 274 (wr (s 274 + 1)) = s1 at hR1 hI1 ⊢
  generalize set2 h b 14 (wr (s 274 + 1)) = h1 at hR1 hF1 ⊢
  refine loopF_ex (cN P) (fun i q => q.1 = (i : Int) ∧ RS P q.2 b (colsP P far lvl s1 i) ∧ Fr b h q.2) ?_ ?_ FU 0 _ (by omega) (fu _ (by omega)) ⟨rfl, hR1, hF1⟩
  · rintro i ⟨xx, h2⟩ hi ⟨e1, e2, e3⟩ self
    dsimp only at e1 e2 e3
    subst e1
    left
    have hb2 := hb.fr e3 hd
    have hIi := iv_colsP (far := far) (lvl := lvl) hI1 hv i (by omega)
    obtain ⟨h3, w1, w2, w3⟩ := k_runUpColumn (far := far) (lvl := lvl) hv hb2 hB hi hfar hIi e2
    refine ⟨((i : Int) + 1, h3), ⟨by dsimp only; omega, w2, e3.tr w3⟩, ?_⟩
    unfold g_X3_runUp_l7
    dsimp only
    rw [k_columns hb2 hv, e_cP, b_neg (by omega), w1, e_cV, e_add _ _ _ (by omega)]
  · rintro ⟨xx, h2⟩ ⟨e1, e2, e3⟩ self
    dsimp only at e1 e2 e3
    subst e1
    have hb2 := hb.fr e3 hd
    refine ⟨h2, ?_, e2, e3⟩
    unfold g_X3_runUp_l7
    dsimp only
    rw [k_columns hb2 hv, e_cP, b_pos (by omega)]
theorem and31 {x : Int} (hx : inR x) : (iI x &&& iI 2147483647).toInt = x % 2147483648 := by
  have e := pk_and (iI x) (m := iI 2147483647) 31 (by decide +kernel)
  rw [e]
  have h1 : ((iI x).toBitVec.toNat : Int) = x % 4294967296 := by
    have h2 := iI_toInt hx
    have h3 := (iI x).toBitVec.toInt_eq_toNat_cond
    have h4 : (iI x).toInt = (iI x).toBitVec.toInt := rfl
    have h5 := (iI x).toBitVec.isLt
    rw [h4, h3] at h2
    split at h2 <;> omega
  rw [nI_toInt (by omega)]
  omega
theorem shr16 {x : Int} (hx : 0 ≤ x ∧ x < 2147483648) : (iI x >>> (iI 16 &&& 31)).toInt = x / 65536 := by
  rw [pk_shr _ _ 16 (by decide +kernel), iI_toInt ⟨by omega, by omega⟩, Int.shiftRight_eq_div_pow]
  rfl
theorem chance_wr (c : Int) : wr (wr (1103515245 * c) + 12345) % 2147483648 = chanceP c := by
  unfold wr chanceP
  omega
theorem RS.chance {P h : Hp} {b : Nat} {s : Nat → Int} {x : Int} (hv : PV P) (hH : HV P s) (h0 : RS P h b s) : RS P (set2 h b 8 x) b (upd1 s 288 x) := by
  have hn := hv.n
  obtain ⟨⟨a1, a2, a3, ⟨a4, a6⟩, a5⟩, a7⟩ := h0
  have hpl := pv_plan hv
  refine ⟨⟨fun j hj => ?_, ?_, ⟨?_, fun j hj => ?_⟩, ⟨?_, ?_⟩, ?_⟩, ?_⟩
  · rw [set2_np _ _ _ _ _ _ (by omega), set2_np _ _ _ _ _ _ (by omega), set2_np _ _ _ _ _ _ (by omega), set2_np _ _ _ _ _ _ (by omega), upd1_ne _ _ _ _ (by omega), upd1_ne _ _ _ _ (by omega), upd1_ne _ _ _ _ (by omega), upd1_ne _ _ _ _ (by omega)]
    exact a1 j hj
  · rw [set2_nk _ _ _ _ _ _ (by omega), set2_nk _ _ _ _ _ _ (by omega), set2_nk _ _ _ _ _ _ (by omega), set2_nk _ _ _ _ _ _ (by omega), set2_nk _ _ _ _ _ _ (by omega), set2_nk _ _ _ _ _ _ (by omega), upd1_ne _ _ _ _ (by omega), upd1_ne _ _ _ _ (by omega), upd1_ne _ _ _ _ (by omega), upd1_ne _ _ _ _ (by omega), upd1_ne _ _ _ _ (by omega), upd1_ne _ _ _ _ (by omega)]
    exact a2
  · rw [upd1_ne _ _ _ _ (by omega)]; exact a3.1
  · have h12 := (pv_flags hv).1
    rw [set2_np _ _ _ _ _ _ (by omega), upd1_ne _ _ _ _ (by omega), upd1_ne _ _ _ _ (by omega), upd1_ne _ _ _ _ (by omega)]
    exact a3.2 j hj
  · rw [set2_nk _ _ _ _ _ _ (by omega), upd1_ne _ _ _ _ (by omega)]; exact a4
  · unfold HR at a6 ⊢
    rw [upd1_ne _ _ _ _ (by omega)]
    intro q i hi
    have := a6 q i hi
    have hi4 : i < 4 := by
      have h1 := hH.1
      have := (hpl.2 (s 275).toNat (by omega)).1
      omega
    rw [set2_np _ _ _ _ _ _ (by omega), set2_np _ _ _ _ _ _ (by omega), upd1_ne _ _ _ _ (by omega), upd1_ne _ _ _ _ (by omega), upd1_ne _ _ _ _ (by omega)]
    exact this
  · rw [set2_same, upd1_same]
  · unfold SE
    rw [set2_nk _ _ _ _ _ _ (by omega)]
    exact SE.congr (P := P) (h := h) (b := b) hv (fun j hj => ⟨upd1_ne _ _ _ _ (by omega), upd1_ne _ _ _ _ (by omega), upd1_ne _ _ _ _ (by omega), upd1_ne _ _ _ _ (by omega)⟩) a7
theorem k_draw {P h : Hp} {b : Nat} {n : Int} {s : Nat → Int} (hv : PV P) (hH : HV P s) (hn : 1 ≤ n ∧ n ≤ 1000) (hR : RS P h b s) :
    ∃ h', g_X3_draw b n h = some (drawnP s n, h') ∧ RS P h' b (drawP s) ∧ Fr b h h' := by
  have hc := chanceP_in (s 288)
  unfold g_X3_draw
  rw [e_cI, e_gF, hR.1.2.2.2.2]
  have e1 : ∀ (K : Int → Option (Int × Hp)), mulI 1103515245 (s 288) K = K (wr (1103515245 * s 288)) := fun _ => rfl
  have e2 : ∀ (K : Int → Option (Int × Hp)), andI (wr (wr (1103515245 * s 288) + 12345)) 2147483647 K = K (chanceP (s 288)) := by
    intro K
    unfold andI
    rw [and31 (wr_inR _), chance_wr]
  have e3 : ∀ (K : Int → Option (Int × Hp)), shrI (chanceP (s 288)) 16 K = K (chanceP (s 288) / 65536) := by
    intro K
    unfold shrI
    rw [show (iI 16 &&& 31) = (iI 16 &&& 31) from rfl, shr16 hc]
  rw [e1, e_cI, e_addw, e_cI, e2, e_pF, e_join, b_neg (by omega), e_gF, set2_same, e_cI, e3, e_rem _ _ _ (by omega)]
  exact ⟨_, rfl, hR.chance hv hH, Fr.set (by omega)⟩
theorem k_drawFrom {P h : Hp} {b : Nat} {l g : Int} {s : Nat → Int} (hv : PV P) (hH : HV P s) (hn : 0 ≤ l ∧ l ≤ g ∧ g ≤ 100) (hR : RS P h b s) :
    ∃ h', g_X3_drawFrom b l g h = some (l + drawnP s (g - l + 1), h') ∧ RS P h' b (drawP s) ∧ Fr b h h' := by
  obtain ⟨h', w1, w2, w3⟩ := k_draw (n := g - l + 1) hv hH (by omega) hR
  have hd := drawnP_in s (n := g - l + 1) (by omega)
  unfold g_X3_drawFrom
  rw [e_sub _ _ _ (by omega), e_cI, e_add _ _ _ (by omega), w1, e_cW, e_add _ _ _ (by omega)]
  exact ⟨h', rfl, w2, w3⟩
theorem PS.num {P h : Hp} {v : Nat} (hs : PS P h v) : (h (v + 1) 0 = P 112 0 ∧ h (v + 1) 1 = P 112 1 ∧ h (v + 1) 2 = P 112 2 ∧ h (v + 1) 3 = P 112 3) ∧ (h (v + 1) 4 = P 114 0 ∧ h (v + 1) 5 = P 114 1 ∧ h (v + 1) 6 = P 115 0 ∧ h (v + 1) 7 = P 115 1 ∧ h (v + 1) 8 = P 100 39) :=
  ⟨⟨hs.1 0 (by omega), hs.1 1 (by omega), hs.1 2 (by omega), hs.1 3 (by omega)⟩, hs.2.1⟩
theorem k_cut {P h : Hp} {v : Nat} (hs : PS P h v) : g_X2_cut v h = some (P 100 39) := by
  unfold g_X2_cut
  rw [e_cI, e_rd _ _ _ _ _ (by omega), show (8 : Int).toNat = 8 from rfl, hs.num.2.2.2.2.2]
theorem k_isTideMinute {P h : Hp} {v : Nat} {m : Int} (hv : PV P) (hs : PS P h v) (hm : 0 ≤ m ∧ m ≤ 1000000) : g_X2_isTideMinute v m h = some (if P 112 0 = -1 then 0 else if m < P 112 0 then 0 else if P 112 1 < m then 0 else if (m - P 112 0) % P 112 2 = 0 then 1 else 0) := by
  obtain ⟨⟨n0, n1, n2, n3⟩, -⟩ := hs.num
  have htd := (pv_sea hv).2.2.1
  have hem := hs.2.2.2.2
  unfold g_X2_isTideMinute
  rw [e_cI, e_rd _ _ _ _ _ (by omega), show (2 : Int).toNat = 2 from rfl, n2]
  refine join_gen (fun j4 hj4 => ?_)
  refine join_gen (fun j7 hj7 => ?_)
  have h7 : j7 () = some 0 := by rw [hj7, e_cI, hj4]; exact e_retZ0
  by_cases b0 : P 112 0 = -1
  · rw [if_pos b0, b_pos (by have := hem b0; omega), h7]
  obtain ⟨i0, i1, i2, i3⟩ := htd.resolve_left b0
  rw [if_neg b0, b_neg (by omega), e_cI, e_rd _ _ _ _ _ (by omega), show (0 : Int).toNat = 0 from rfl, n0]
  by_cases b1 : m < P 112 0
  · rw [if_pos b1, b_pos b1, h7]
  rw [if_neg b1, b_neg b1, e_cI, e_rd _ _ _ _ _ (by omega), show (1 : Int).toNat = 1 from rfl, n1]
  by_cases b2 : P 112 1 < m
  · rw [if_pos b2, b_pos b2, h7]
  rw [if_neg b2, b_neg b2, e_cI, e_rd _ _ _ _ _ (by omega), show (0 : Int).toNat = 0 from rfl, n0, e_sub _ _ _ (by omega), e_rem _ _ _ (by omega)]
  by_cases b3 : (m - P 112 0) % P 112 2 = 0
  · rw [if_pos b3, b_pos b3, e_cI, hj4]
    exact e_retZ1
  · rw [if_neg b3, b_neg b3, h7]
theorem colP_far {P : Hp} {x far j : Nat} {lvl : Int} (hv : PV P) (hx : x < cN P) (hj : 256 ≤ j ∧ j ≠ 269) : ∀ (f y : Nat) (s : Nat → Int), colP P x far lvl f y s j = s j
  | 0, _, _ => rfl
  | f + 1, y, s => by
    have hN := hv.n
    unfold colP
    split
    · rfl
    split
    · rfl
    rename_i h1 h2
    have hc := cell_lt (P := P) hx (show y < rN P by omega)
    split
    · split
      · rename_i h4
        have hc2 := cell_lt (P := P) hx h4
        rw [Nat.mul_add] at hc2
        rw [upd1_ne _ _ _ _ (by omega)]
      · rfl
    split
    · unfold cutP
      rw [upd1_ne _ _ _ _ (by omega), upd1_ne _ _ _ _ (by omega), upd1_ne _ _ _ _ (by omega)]
    · rw [colP_far hv hx hj f (y + 1), upd1_ne _ _ _ _ (by omega)]
theorem colsP_far {P : Hp} {far j : Nat} {lvl : Int} (hv : PV P) (hj : 256 ≤ j ∧ j ≠ 269) {s : Nat → Int} : ∀ n, n ≤ cN P → colsP P far lvl s n j = s j
  | 0, _ => rfl
  | n + 1, hn => by
    show colP P n far lvl 8 0 (colsP P far lvl s n) j = s j
    rw [colP_far hv (by omega) hj, colsP_far hv hj n (by omega)]
theorem waveP_far {P : Hp} {far j : Nat} {lvl : Int} (hv : PV P) (hj : 256 ≤ j ∧ j ≠ 269 ∧ j ≠ 274) {s : Nat → Int} : waveP P far lvl s j = s j := by
  unfold waveP
  rw [colsP_far hv (by omega) _ (Nat.le_refl _), upd1_ne _ _ _ _ (by omega)]
theorem toldP_far {P : Hp} {j : Nat} {m : Int} (hv : PV P) (hj : 256 ≤ j ∧ j ≠ 269 ∧ j ≠ 274) {s : Nat → Int} : ∀ n, toldP P m s n j = s j
  | 0 => rfl
  | n + 1 => by
    unfold toldP
    split
    · rw [waveP_far hv hj, toldP_far hv hj n]
    · exact toldP_far hv hj n
theorem k_meetWaves {P h : Hp} {b c v : Nat} {B T : Int} {s : Nat → Int} (hv : PV P) (hb : PB P h c) (hd : c + 6 ≤ b ∨ b + 8 ≤ c) (hs : PS P h v) (hdv : v + 5 ≤ b ∨ b + 8 ≤ v) (hB : B ≤ 10000) (hT : T ≤ 1000000) (hI : IV P B T s) (hR : RS P h b s) :
    ∃ h', g_X3_meetWaves b c v h = some h' ∧ RS P h' b (seaP P s) ∧ Fr b h h' := by
  obtain ⟨hw, hwv, htd, hre, hlv⟩ := pv_sea hv
  have h270 := hI.2.2.1.1
  unfold g_X3_meetWaves seaP
  rw [e_cI]
  refine join_ex (fun j3 hj3 => ?_)
  have k270 : ∀ i, i ≤ (P 100 28).toNat → toldP P (s 270) s i 270 = s 270 := by
    intro i _
    exact toldP_far hv (by omega) i
  refine loopF_ex (P 100 28).toNat (fun i q => q.1 = (i : Int) ∧ RS P q.2 b (toldP P (s 270) s i) ∧ Fr b h q.2) ?_ ?_ FU 0 _ (by omega) (fu _ (by omega)) ⟨rfl, hR, Fr.rf⟩
  · rintro i ⟨xx, h2⟩ hi ⟨e1, e2, e3⟩ self
    dsimp only at e1 e2 e3
    subst e1
    left
    have hb2 := hb.fr e3 hd
    have hs2 := hs.fr e3 hdv
    have hIi := iv_toldP (m := s 270) hI hv i
    have hwi := hwv i hi
    have hwv2 := hs2.2.2.2.1 i hi
    have h9 : h2 b 9 = s 270 := by rw [e2.1.2.1.1, k270 i (by omega)]
    unfold g_X3_meetWaves_l30
    dsimp only
    rw [e_gF, hs2.2.2.1, b_neg (by omega), e_cI, b_neg (by omega), e_rdn _ _ _ _ _ (by omega), hwv2.1, e_gF, h9]
    show ∃ q' : Int × Hp, (q'.1 = ((i + 1 : Nat) : Int) ∧ RS P q'.2 b (if P 110 (3 * i) = s 270 then waveP P (P 110 (3 * i + 1)).toNat (P 110 (3 * i + 2)) (toldP P (s 270) s i) else toldP P (s 270) s i) ∧ Fr b h q'.2) ∧ _
    generalize toldP P (s 270) s i = t at hIi e2 ⊢
    by_cases b1 : P 110 (3 * i) = s 270
    · obtain ⟨far, hf⟩ := Int.eq_ofNat_of_zero_le (show 0 ≤ P 110 (3 * i + 1) by omega)
      obtain ⟨h3, w1, w2, w3⟩ := k_runUp (far := far) (lvl := P 110 (3 * i + 2)) hv hb2 hd hB (by omega) hIi e2
      refine ⟨((i : Int) + 1, h3), ⟨by dsimp only; omega, ?_, e3.tr w3⟩, ?_⟩
      · rw [if_pos b1, hf]
        exact w2
      · refine join_gen (fun jj hjj => ?_)
        rw [b_pos b1, e_rdn _ _ _ _ _ (by omega), hwv2.2.1, e_rdn _ _ _ _ _ (by omega), hwv2.2.2, k_cut hs2, e_cP, hf, w1, e_cV, hjj, e_add _ _ _ (by omega)]
    · refine ⟨((i : Int) + 1, h2), ⟨by dsimp only; omega, ?_, e3⟩, ?_⟩
      · rw [if_neg b1]
        exact e2
      · refine join_gen (fun jj hjj => ?_)
        rw [b_neg b1, hjj, e_add _ _ _ (by omega)]
  · rintro ⟨xx, h2⟩ ⟨e1, e2, e3⟩ self
    dsimp only at e1 e2 e3
    subst e1
    have hb2 := hb.fr e3 hd
    have hs2 := hs.fr e3 hdv
    obtain ⟨⟨n0, n1, n2, n3⟩, n4, n5, n6, n7, n8⟩ := hs2.num
    have hIi := iv_toldP (m := s 270) hI hv (P 100 28).toNat
    have h9 : h2 b 9 = s 270 := by rw [e2.1.2.1.1, k270 _ (by omega)]
    unfold g_X3_meetWaves_l30
    dsimp only
    rw [e_gF, hs2.2.2.1, b_pos (by omega), hj3]
    generalize toldP P (s 270) s (P 100 28).toNat = t at hIi e2 ⊢
    generalize s 270 = mi at *
    rw [e_gF, h9, k_isTideMinute hv hs2 (by omega), e_cP]
    unfold tideP
    refine join_ex (fun j8 hj8 => ?_)
    by_cases b0 : P 112 0 = -1
    · rw [if_pos b0, if_pos b0, b_pos rfl, hj8]
      exact ⟨h2, rfl, e2, e3⟩
    rw [if_neg b0, if_neg b0]
    obtain ⟨i0, i1, i2, i3⟩ := htd.resolve_left b0
    by_cases b1 : mi < P 112 0
    · rw [if_pos b1, if_pos b1, b_pos rfl, hj8]
      exact ⟨h2, rfl, e2, e3⟩
    rw [if_neg b1, if_neg b1]
    by_cases b2 : P 112 1 < mi
    · rw [if_pos b2, if_pos b2, b_pos rfl, hj8]
      exact ⟨h2, rfl, e2, e3⟩
    rw [if_neg b2, if_neg b2]
    by_cases b3 : (mi - P 112 0) % P 112 2 = 0
    rotate_left
    · rw [if_neg b3, if_neg b3, b_pos rfl, hj8]
      exact ⟨h2, rfl, e2, e3⟩
    rw [if_pos b3, if_pos b3, b_neg (by decide), e_cI]
    obtain ⟨h3, w1, w2, w3⟩ := k_draw (n := 100) hv hIi.2.2.2.1 (by omega) e2
    have hI1 := iv_drawP hIi hv
    have hI2 := iv_drawP hI1 hv
    have hI3 := iv_drawP hI2 hv
    rw [w1, e_cW, e_cI, e_rd _ _ _ _ _ (by omega), show (3 : Int).toNat = 3 from rfl, (hs2.fr w3 hdv).num.1.2.2.2]
    by_cases b4 : drawnP t 100 < P 112 3
    rotate_left
    · rw [if_neg b4, b_pos (by omega), hj8]
      exact ⟨h3, rfl, w2, e3.tr w3⟩
    obtain ⟨h4, u1, u2, u3⟩ := k_drawFrom (l := P 114 0) (g := P 114 1) hv hI1.2.2.2.1 (by omega) w2
    obtain ⟨h5, y1, y2, y3⟩ := k_drawFrom (l := P 115 0) (g := P 115 1) hv hI2.2.2.2.1 (by omega) u2
    have hs3 := hs2.fr w3 hdv
    have hs4 := hs3.fr u3 hdv
    have hs5 := hs4.fr y3 hdv
    have d1 := drawnP_in (drawP t) (n := P 114 1 - P 114 0 + 1) (by omega)
    obtain ⟨far, hf⟩ := Int.eq_ofNat_of_zero_le (show 0 ≤ P 114 0 + drawnP (drawP t) (P 114 1 - P 114 0 + 1) by omega)
    obtain ⟨h6, z1, z2, z3⟩ := k_runUp (far := far) (lvl := P 115 0 + drawnP (drawP (drawP t)) (P 115 1 - P 115 0 + 1)) hv (((hb2.fr w3 hd).fr u3 hd).fr y3 hd) hd hB (by omega) hI3 y2
    rw [if_pos b4, b_neg (by omega), e_cI, e_rd _ _ _ _ _ (by omega), show (4 : Int).toNat = 4 from rfl, hs3.num.2.1, e_cI, e_rd _ _ _ _ _ (by omega), show (5 : Int).toNat = 5 from rfl, hs3.num.2.2.1, u1, e_cW,
      e_cI, e_rd _ _ _ _ _ (by omega), show (6 : Int).toNat = 6 from rfl, hs4.num.2.2.2.1, e_cI, e_rd _ _ _ _ _ (by omega), show (7 : Int).toNat = 7 from rfl, hs4.num.2.2.2.2.1, y1, e_cW, k_cut hs5, e_cP, hf, z1, e_cV, hj8]
    exact ⟨h6, rfl, z2, (((e3.tr w3).tr u3).tr y3).tr z3⟩
theorem k_shine {P h : Hp} {b c : Nat} {B T : Int} {s : Nat → Int} (hv : PV P) (hb : PB P h c) (hd : c + 6 ≤ b ∨ b + 8 ≤ c) (hB : B ≤ 10000) (hI : IV P B T s) (hR : RS P h b s) :
    ∃ h', g_X3_shine b c h = some h' ∧ RS P h' b (dryP s (cN P) (nN P - cN P)) ∧ Fr b h h' := by
  have hN := hv.n
  have hcn := cN_le hv
  unfold g_X3_shine
  rw [k_cells hb hv, e_cP, k_columns hb hv, e_cP]
  refine loopF_ex (nN P - cN P) (fun i q => q.1 = ((cN P + i : Nat) : Int) ∧ RS P q.2 b (dryP s (cN P) i) ∧ Fr b h q.2) ?_ ?_ FU 0 _ (by omega) (fu _ (by omega)) ⟨rfl, hR, Fr.rf⟩
  · rintro i ⟨xx, h2⟩ hi ⟨e1, e2, e3⟩ self
    dsimp only at e1 e2 e3
    subst e1
    left
    have hIi := iv_dryP (a := cN P) hI hv i (by omega)
    have hk : cN P + i < nN P := by omega
    show ∃ q' : Int × Hp, (q'.1 = ((cN P + (i + 1) : Nat) : Int) ∧ RS P q'.2 b (dryC (dryP s (cN P) i) (cN P + i)) ∧ Fr b h q'.2) ∧ _
    rw [show cN P + (i + 1) = cN P + i + 1 by omega]
    generalize dryP s (cN P) i = t at hIi e2 ⊢
    generalize cN P + i = k at hk ⊢
    have rk := e2.1.1 k hk
    have ik := hIi.1 k hk
    unfold g_X3_shine_l4
    dsimp only
    rw [b_neg (by omega), e_rdn _ _ _ _ _ (by omega), rk.2.1]
    unfold dryC
    by_cases b1 : t (64 + k) ≤ 0
    · refine ⟨((k : Int) + 1, h2), ⟨by dsimp only; omega, ?_, e3⟩, ?_⟩
      · rw [upd1_id (by split <;> split <;> omega)]
        exact e2
      · refine join_gen (fun jj hjj => ?_)
        rw [b_pos b1, hjj, e_add _ _ _ (by omega)]
    refine ⟨((k : Int) + 1, set2 (set2 h2 (b + 2) k (if 0 < t (64 + k) - (if 10 ≤ t k then 2 else 1) then t (64 + k) - (if 10 ≤ t k then 2 else 1) else 0)) b 15 0), ⟨by dsimp only; omega, (RS0.wett hv e2.1 hk).dirty, (e3.tr (Fr.set (by omega))).tr (Fr.set (by omega))⟩, ?_⟩
    refine join_gen (fun jj hjj => ?_)
    rw [b_neg b1, e_cI, e_rdn _ _ _ _ _ (by omega), rk.2.1, e_rdn _ _ _ _ _ (by omega), rk.1, e_cI]
    refine join_gen (fun j17 hj17 => ?_)
    by_cases b2 : t k < 10
    · rw [b_pos b2, e_cI, hj17, if_neg (show ¬ 10 ≤ t k by omega), e_sub _ _ _ (by omega), e_max, e_wrn _ _ _ _ _ _ (by omega), e_cI, e_pZ _ _ _ _ _ (by omega), hjj, e_add _ _ _ (by omega)]
    · rw [b_neg b2, e_cI, hj17, if_pos (show 10 ≤ t k by omega), e_sub _ _ _ (by omega), e_max, e_wrn _ _ _ _ _ _ (by omega), e_cI, e_pZ _ _ _ _ _ (by omega), hjj, e_add _ _ _ (by omega)]
  · rintro ⟨xx, h2⟩ ⟨e1, e2, e3⟩ self
    dsimp only at e1 e2 e3
    subst e1
    refine ⟨h2, ?_, e2, e3⟩
    unfold g_X3_shine_l4
    dsimp only
    rw [b_pos (by omega)]
theorem k_lowerOf {P h : Hp} {b k : Nat} {best : Int} {s : Nat → Int} (hv : PV P) (hR : RS0 P h b s) (hst : s (192 + k) = 0 ∨ s (192 + k) = 1) (hb : best = -1 ∨ (0 ≤ best ∧ best < nN P)) (hk : k < nN P) :
    g_X3_lowerOf b best (k : Int) h = some (candP P s best k) := by
  have hN := hv.n
  have rk := hR.1 k hk
  unfold g_X3_lowerOf candP
  rw [e_rdn _ _ _ _ _ (by omega), rk.2.2.2, if_neg (by omega), if_neg (by omega)]
  simp only [Int.toNat_natCast]
  rw [e_join]
  by_cases b1 : s (192 + k) = 1
  · rw [if_pos b1, b_neg (by omega)]
  rw [if_neg b1, b_pos (by omega), e_cI, e_join]
  by_cases b2 : best = -1
  · rw [if_pos b2, b_pos b2]
  obtain ⟨m, rfl⟩ := Int.eq_ofNat_of_zero_le (hb.resolve_left b2).1
  have rm := hR.1 m (by omega)
  rw [if_neg b2, b_neg b2, e_rdn _ _ _ _ _ (by omega), rm.1, e_rdn _ _ _ _ _ (by omega), rk.1]
  simp only [Int.toNat_natCast]
  by_cases b3 : s m ≤ s k
  · rw [if_pos b3, b_neg (by omega)]
  · rw [if_neg b3, b_pos (by omega)]
theorem k_lowestBeside {P h : Hp} {b c k : Nat} {B T : Int} {s : Nat → Int} (hv : PV P) (hb : PB P h c) (hR : RS0 P h b s) (hI : IV P B T s) (hk : k < nN P) :
    g_X3_lowestBeside b c (k : Int) ((k % cN P : Nat) : Int) h = some (lowP P s k) := by
  have hN := hv.n
  obtain ⟨c10, c11, a1, a2, a3, a4⟩ := hv.cr
  have hst : ∀ j, j < nN P → s (192 + j) = 0 ∨ s (192 + j) = 1 := fun j hj => (hI.1 j hj).2.2.2
  have hin : ∀ (best o : Int), (best = -1 ∨ (0 ≤ best ∧ best < nN P)) → candP P s best o = -1 ∨ (0 ≤ candP P s best o ∧ candP P s best o < nN P) := by
    intro best o hb
    rcases candP_spec (P := P) (s := s) (best := best) (o := o) with q | ⟨q, q1, q2, -⟩
    · rw [q]; exact hb
    · rw [q]; exact Or.inr ⟨q1, q2⟩
  have hout : ∀ (best : Int) (o : Int), (o < 0 ∨ (nN P : Int) ≤ o) → candP P s best o = best := by
    intro best o ho
    unfold candP
    rcases ho with ho | ho
    · rw [if_pos ho]
    · by_cases z : o < 0
      · rw [if_pos z]
      · rw [if_neg z, if_pos ho]
  have hmod : k % cN P < cN P := Nat.mod_lt _ (by omega)
  have hmk : k % cN P ≤ k := Nat.mod_le _ _
  unfold g_X3_lowestBeside lowP
  rw [k_columns hb hv, e_cP, e_cI]
  refine join_gen (fun j4 hj4 => ?_)
  have g1 := hin (-1) ((k : Int) - cN P) (Or.inl rfl)
  have e1 : (if (k : Int) < (cN P : Int) then j4 (-1) else subI (k : Int) (cN P : Int) fun z27 => cP (g_X3_lowerOf b (-1) z27 h) fun z28 => j4 z28) = j4 (candP P s (-1) ((k : Int) - cN P)) := by
    by_cases q : (k : Int) < (cN P : Int)
    · rw [if_pos q, hout _ _ (by omega)]
    · rw [if_neg q, e_sub _ _ _ (by omega), show (k : Int) - (cN P : Int) = ((k - cN P : Nat) : Int) by omega, k_lowerOf hv hR (hst _ (by omega)) (Or.inl rfl) (by omega), e_cP]
  rw [e1, hj4]
  generalize candP P s (-1) ((k : Int) - cN P) = l1 at g1 ⊢
  refine join_gen (fun j7 hj7 => ?_)
  have g2 := hin l1 (if 0 < k % cN P then (k : Int) - 1 else -1) g1
  have e2 : (if ((k % cN P : Nat) : Int) ≤ 0 then j7 l1 else cI 1 fun z24 => subI (k : Int) z24 fun z25 => cP (g_X3_lowerOf b l1 z25 h) fun z26 => j7 z26) = j7 (candP P s l1 (if 0 < k % cN P then (k : Int) - 1 else -1)) := by
    by_cases q : 0 < k % cN P
    · rw [if_neg (by omega), if_pos q, e_cI, e_sub _ _ _ (by omega), show (k : Int) - 1 = ((k - 1 : Nat) : Int) by omega, k_lowerOf hv hR (hst _ (by omega)) g1 (by omega), e_cP]
    · rw [if_pos (by omega), if_neg q, hout _ _ (by omega)]
  rw [e2, hj7]
  generalize candP P s l1 (if 0 < k % cN P then (k : Int) - 1 else -1) = l2 at g2 ⊢
  rw [e_cI, e_add _ _ _ (by omega)]
  refine join_gen (fun j12 hj12 => ?_)
  have hrow : k % cN P + 1 < cN P → k + 1 < nN P := by
    intro q
    have h1 := Nat.div_add_mod k (cN P)
    have h2 : k / cN P < rN P := Nat.div_lt_of_lt_mul hk
    have h3 := cell_lt (P := P) q h2
    omega
  have g3 := hin l2 (if k % cN P + 1 < cN P then (k : Int) + 1 else -1) g2
  have e3 : (if (cN P : Int) ≤ ((k % cN P : Nat) : Int) + 1 then j12 l2 else cI 1 fun z21 => addI (k : Int) z21 fun z22 => cP (g_X3_lowerOf b l2 z22 h) fun z23 => j12 z23) = j12 (candP P s l2 (if k % cN P + 1 < cN P then (k : Int) + 1 else -1)) := by
    by_cases q : k % cN P + 1 < cN P
    · have := hrow q
      rw [if_neg (by omega), if_pos q, e_cI, e_add _ _ _ (by omega), show (k : Int) + 1 = ((k + 1 : Nat) : Int) by omega, k_lowerOf hv hR (hst _ (by omega)) g2 (by omega), e_cP]
    · rw [if_pos (by omega), if_neg q, hout _ _ (by omega)]
  rw [e3, hj12]
  generalize candP P s l2 (if k % cN P + 1 < cN P then (k : Int) + 1 else -1) = l3 at g3 ⊢
  rw [e_add _ _ _ (by omega), k_cells hb hv, e_cP, e_join]
  by_cases q : (nN P : Int) ≤ (k : Int) + (cN P : Int)
  · rw [b_pos q, hout _ _ (by omega)]
  · rw [b_neg q, e_add _ _ _ (by omega), show (k : Int) + (cN P : Int) = ((k + cN P : Nat) : Int) by omega, k_lowerOf hv hR (hst _ (by omega)) g3 (by omega), e_cP]
theorem k_slideFrom {P h : Hp} {b c k : Nat} {B T : Int} {s : Nat → Int} (hv : PV P) (hb : PB P h c) (hR : RS0 P h b s) (hI : IV P B T s) (hB : B ≤ 10000) (hk : k < nN P) (hs : s (192 + k) = 0) :
    ∃ h', g_X3_slideFrom b c (k : Int) ((k % cN P : Nat) : Int) h = some (slideC P s k 272 - s 272, h') ∧ RS0 P h' b (upd1 (slideC P s k) 272 (s 272)) ∧ Fr b h h' ∧ h' b 15 = h b 15 := by
  have hN := hv.n
  have rk := hR.1 k hk
  have ik := hI.1 k hk
  unfold g_X3_slideFrom
  rw [k_lowestBeside hv hb hR hI hk, e_cP, e_cI]
  have hl := lowP_spec (s := s) (c := k) hv
  unfold slideC
  rw [if_neg (show ¬ s (192 + k) = 1 by omega)]
  generalize lowP P s k = l at hl ⊢
  by_cases b1 : l = -1
  · rw [if_pos b1, e_join, b_pos b1, e_cI, upd1_id rfl]
    exact ⟨h, by rw [Int.sub_self], hR, Fr.rf, rfl⟩
  obtain ⟨q1, q2, q3, q4⟩ := hl.resolve_left b1
  obtain ⟨m, rfl⟩ := Int.eq_ofNat_of_zero_le q1
  simp only [Int.toNat_natCast] at q3 ⊢
  have rm := hR.1 m (by omega)
  have im := hI.1 m (by omega)
  have lm := hI.le (show m < nN P by omega)
  have lk := hI.le hk
  have hp := holdsP_pos hv ik.2.1 ik.2.2.1
  rw [if_neg b1, e_join, b_neg b1, e_rdn _ _ _ _ _ (by omega), rk.1, e_rdn _ _ _ _ _ (by omega), rm.1, e_sub _ _ _ (by omega), e_rdn _ _ _ _ _ (by omega), rk.2.1, e_rdn _ _ _ _ _ (by omega), rk.2.2.1, k_bearing hb hv ik.2.1 ik.2.2.1, e_cP]
  by_cases b2 : s k - s m ≤ holdsP P (s (64 + k)) (s (128 + k))
  · rw [if_pos b2, b_neg (by omega), e_cI, upd1_id rfl]
    exact ⟨h, by rw [Int.sub_self], hR, Fr.rf, rfl⟩
  · obtain ⟨h', w1, w2, w3, w4⟩ := k_moveUnit (a := k) (t := m) hv hR hI hB hk (by omega) (by omega)
    rw [if_neg b2, b_pos (by omega), w1, e_cV, e_cI, upd1_same]
    refine ⟨h', by rw [show s 272 + 1 - s 272 = 1 by omega], ?_, w3, w4⟩
    have e272 : unitP s k m 272 = s 272 := unitP_far (by omega) (by omega) (by omega) (by omega)
    rw [show upd1 (upd1 (unitP s k m) 272 (s 272 + 1)) 272 (s 272) = unitP s k m by
      funext j
      unfold upd1
      split
      · rename_i e; rw [e, e272]
      · rfl]
    exact w2
theorem low_congr {P : Hp} {s t : Nat → Int} {c : Nat} (hv : PV P) (e : ∀ k : Nat, k < nN P → t k = s k ∧ t (192 + k) = s (192 + k)) : lowP P t c = lowP P s c := by
  have hn := hv.n
  have hcand : ∀ (best o : Int), (best = -1 ∨ (0 ≤ best ∧ best < nN P)) → candP P t best o = candP P s best o := by
    intro best o hb
    unfold candP
    by_cases h1 : o < 0
    · rw [if_pos h1, if_pos h1]
    rw [if_neg h1, if_neg h1]
    by_cases h2 : (nN P : Int) ≤ o
    · rw [if_pos h2, if_pos h2]
    rw [if_neg h2, if_neg h2, (e o.toNat (by omega)).2]
    by_cases h3 : s (192 + o.toNat) = 1
    · rw [if_pos h3, if_pos h3]
    rw [if_neg h3, if_neg h3]
    by_cases h4 : best = -1
    · rw [if_pos h4, if_pos h4]
    rw [if_neg h4, if_neg h4, (e o.toNat (by omega)).1, (e best.toNat (by omega)).1]
  have hin : ∀ (best o : Int), (best = -1 ∨ (0 ≤ best ∧ best < nN P)) → candP P s best o = -1 ∨ (0 ≤ candP P s best o ∧ candP P s best o < nN P) := by
    intro best o hb
    rcases candP_spec (P := P) (s := s) (best := best) (o := o) with q | ⟨q, q1, q2, -⟩
    · rw [q]; exact hb
    · rw [q]; exact Or.inr ⟨q1, q2⟩
  unfold lowP
  have i1 := hin (-1) ((c : Int) - cN P) (Or.inl rfl)
  have i2 := hin _ (if 0 < c % cN P then (c : Int) - 1 else -1) i1
  have i3 := hin _ (if c % cN P + 1 < cN P then (c : Int) + 1 else -1) i2
  rw [hcand (-1) _ (Or.inl rfl), hcand _ _ i1, hcand _ _ i2, hcand _ _ i3]
theorem upd1_comm {s : Nat → Int} {k j : Nat} {x y : Int} (h : k ≠ j) : upd1 (upd1 s k x) j y = upd1 (upd1 s j y) k x := by
  funext i
  unfold upd1
  split <;> split <;> first | rfl | omega
theorem upd1_upd1 {s : Nat → Int} {k : Nat} {x y : Int} : upd1 (upd1 s k x) k y = upd1 s k y := by
  funext i
  unfold upd1
  split <;> rfl
theorem slide_side {P : Hp} {s : Nat → Int} {c : Nat} {y : Int} (hv : PV P) (hc : c < nN P) : slideC P (upd1 s 272 y) c = upd1 (slideC P s c) 272 (y + (slideC P s c 272 - s 272)) := by
  have hn := hv.n
  have hl : lowP P (upd1 s 272 y) c = lowP P s c := low_congr hv (fun k hk => ⟨upd1_ne _ _ _ _ (by omega), upd1_ne _ _ _ _ (by omega)⟩)
  unfold slideC
  rw [hl, upd1_ne _ _ _ (192 + c) (by omega), upd1_ne _ _ _ c (by omega), upd1_ne _ _ _ (64 + c) (by omega), upd1_ne _ _ _ (128 + c) (by omega)]
  by_cases b1 : s (192 + c) = 1
  · rw [if_pos b1, if_pos b1]; congr 1; omega
  rw [if_neg b1, if_neg b1]
  rcases lowP_spec (s := s) (c := c) hv with q | ⟨q1, q2, q3, q4⟩
  · rw [if_pos q, if_pos q]; congr 1; omega
  generalize lowP P s c = l at q1 q2 q3 q4 ⊢
  obtain ⟨m, rfl⟩ := Int.eq_ofNat_of_zero_le q1
  simp only [Int.toNat_natCast]
  rw [if_neg (show ¬ (m : Int) = -1 by omega), if_neg (show ¬ (m : Int) = -1 by omega), upd1_ne _ _ _ m (by omega)]
  by_cases b2 : s c - s m ≤ holdsP P (s (64 + c)) (s (128 + c))
  · rw [if_pos b2, if_pos b2]; congr 1; omega
  rw [if_neg b2, if_neg b2, upd1_same, upd1_same, upd1_upd1]
  have e1 : unitP (upd1 s 272 y) c m = upd1 (unitP s c m) 272 y := by
    unfold unitP mixW
    rw [upd1_ne _ _ _ (64 + m) (by omega), upd1_ne _ _ _ m (by omega), upd1_ne _ _ _ (64 + c) (by omega), upd1_ne _ _ _ c (by omega)]
    rw [upd1_comm (k := 272) (j := 64 + m) (by omega), upd1_comm (k := 272) (j := 128 + m) (by omega), upd1_comm (k := 272) (j := c) (by omega), upd1_comm (k := 272) (j := m) (by omega)]
  rw [e1, upd1_upd1]
  congr 1
  omega
theorem k_slideAt {P h : Hp} {b c k : Nat} {B T y : Int} {t : Nat → Int} (hv : PV P) (hb : PB P h c) (hR : RS0 P h b (upd1 t 272 y)) (hI : IV P B T t) (hB : B ≤ 10000) (hk : k < nN P) (hs : t (192 + k) = 0) :
    ∃ h', g_X3_slideFrom b c (k : Int) ((k % cN P : Nat) : Int) h = some (slideC P t k 272 - t 272, h') ∧ RS0 P h' b (upd1 (slideC P t k) 272 y) ∧ Fr b h h' := by
  have hn := hv.n
  obtain ⟨h', w1, w2, w3, w4⟩ := k_slideFrom (B := B) (T := T) hv hb hR (hI.side hv (by omega)) hB hk (by rw [upd1_ne _ _ _ _ (by omega)]; exact hs)
  rw [slide_side hv hk, upd1_same, upd1_same] at w1
  rw [slide_side hv hk, upd1_upd1, upd1_same] at w2
  exact ⟨h', by rw [w1]; congr 2; omega, w2, w3⟩
theorem slide_low {P : Hp} {B T : Int} {s : Nat → Int} {c : Nat} (hv : PV P) (hI : IV P B T s) (hc : c < nN P) (h : s c ≤ 1) : slideC P s c = s := by
  apply quiet_slide
  unfold quietP
  have ic := hI.1 c hc
  have hp := holdsP_pos hv ic.2.1 ic.2.2.1
  rcases lowP_spec (s := s) (c := c) hv with q | ⟨q1, q2, -, -⟩
  · exact Or.inr (Or.inl q)
  · have := hI.nn (c := (lowP P s c).toNat) (by omega)
    exact Or.inr (Or.inr (by omega))
theorem k_round {P h0 : Hp} {b c : Nat} {B T : Int} {s : Nat → Int} {j25 : Int × Hp → Option Hp} {Q : Hp → Prop} (hv : PV P) (hb : PB P h0 c) (hd : c + 6 ≤ b ∨ b + 8 ≤ c) (hI : IV P B T s) (hB : B ≤ 10000) (hR : RS0 P h0 b s)
    (hj : ∀ h', RS0 P h' b (upd1 (roundP P s (nN P)) 272 (s 272)) → Fr b h0 h' → ∃ r, j25 (roundP P s (nN P) 272 - s 272, h') = some r ∧ Q r) :
    ∃ r, loopF (g_X3_slide_l47 b c j25 (cN P : Int) (rN P : Int)) FU (0, 0, 0, h0) = some r ∧ Q r := by
  have hN := hv.n
  obtain ⟨c10, c11, a1, a2, a3, a4⟩ := hv.cr
  have hD := r272 (s := s) hv
  refine loopF_ex (rN P) (fun y q => q.1 = roundP P s (cN P * y) 272 - s 272 ∧ q.2.1 = ((cN P * y : Nat) : Int) ∧ q.2.2.1 = (y : Int) ∧ RS0 P q.2.2.2 b (upd1 (roundP P s (cN P * y)) 272 (s 272)) ∧ Fr b h0 q.2.2.2) ?_ ?_ FU 0 _ (by omega) (fu _ (by omega)) ?_
  rotate_left
  · rintro ⟨w, cc, yy, h2⟩ ⟨e1, e2, e3, e4, e5⟩ self
    dsimp only at e1 e2 e3 e4 e5
    subst e1; subst e2; subst e3
    unfold g_X3_slide_l47
    dsimp only
    rw [b_pos (by omega)]
    exact hj h2 e4 e5
  · refine ⟨?_, ?_, rfl, ?_, Fr.rf⟩
    · show (0 : Int) = roundP P s (cN P * 0) 272 - s 272
      rw [Nat.mul_zero]
      show (0 : Int) = s 272 - s 272
      omega
    · show (0 : Int) = ((cN P * 0 : Nat) : Int)
      rw [Nat.mul_zero]
      rfl
    · show RS0 P h0 b (upd1 (roundP P s (cN P * 0)) 272 (s 272))
      rw [Nat.mul_zero]
      show RS0 P h0 b (upd1 s 272 (s 272))
      rw [upd1_id rfl]
      exact hR
  rintro y ⟨w, cc, yy, h2⟩ hy ⟨e1, e2, e3, e4, e5⟩ self
  dsimp only at e1 e2 e3 e4 e5
  subst e1; subst e2; subst e3
  -- the loop over x leaves by self, or answers
  have key : ∀ (n x : Nat) (h2 : Hp), x ≤ cN P → cN P - x < n → RS0 P h2 b (upd1 (roundP P s (cN P * y + x)) 272 (s 272)) → Fr b h0 h2 → ∀ j54 : Int × Int × Hp → Option Hp, ∃ h3, loopF (g_X3_slide_l60 b c j54 (cN P : Int)) n (roundP P s (cN P * y + x) 272 - s 272, ((cN P * y + x : Nat) : Int), (x : Int), h2) = j54 (roundP P s (cN P * (y + 1)) 272 - s 272, ((cN P * (y + 1) : Nat) : Int), h3) ∧ RS0 P h3 b (upd1 (roundP P s (cN P * (y + 1))) 272 (s 272)) ∧ Fr b h0 h3 := by
    intro n
    induction n with
    | zero => intro x h2 hx hn; omega
    | succ n ih =>
      intro x h2 hx hn r1 r2 j54
      show ∃ h3, g_X3_slide_l60 b c j54 (cN P : Int) (loopF (g_X3_slide_l60 b c j54 (cN P : Int)) n) (roundP P s (cN P * y + x) 272 - s 272, ((cN P * y + x : Nat) : Int), (x : Int), h2) = _ ∧ _
      by_cases hxe : x = cN P
      · refine ⟨h2, ?_, ?_, r2⟩
        · unfold g_X3_slide_l60
          dsimp only
          rw [b_pos (by omega), hxe, ← Nat.mul_succ]
        · have e : cN P * (y + 1) = cN P * y + x := by rw [Nat.mul_succ, hxe]
          rw [e]
          exact r1
      have hk := cell_lt (P := P) (show x < cN P by omega) hy
      have hih := fun h3 r1 r2 => ih (x + 1) h3 (by omega) (by omega) r1 r2 j54
      generalize loopF (g_X3_slide_l60 b c j54 (cN P : Int)) n = self2 at hih ⊢
      have hmod : (cN P * y + x) % cN P = x := by rw [Nat.mul_add_mod, Nat.mod_eq_of_lt (by omega)]
      rw [← Nat.add_assoc] at hih
      have hD1 := hD (cN P * y + x) (by omega)
      have hD2 := hD (cN P * y + x + 1) (by omega)
      have hstep : roundP P s (cN P * y + x + 1) = slideC P (roundP P s (cN P * y + x)) (cN P * y + x) := rfl
      rw [hstep] at hih hD2
      have hIt := iv_roundP hI hv (cN P * y + x) (by omega)
      generalize cN P * y + x = k at hk hmod hih r1 hD1 hD2 hIt ⊢
      generalize roundP P s k = t at hih r1 hD1 hD2 hIt ⊢
      have rk := r1.1 k hk
      rw [upd1_ne _ _ _ k (by omega), upd1_ne _ _ _ (192 + k) (by omega)] at rk
      have ik := hIt.1 k hk
      unfold g_X3_slide_l60
      dsimp only
      rw [b_neg (by omega), e_rdn _ _ _ _ _ (by omega), rk.1, e_cI]
      have quiet : slideC P t k = t → ∃ h3, self2 (t 272 - s 272, (k : Int) + 1, (x : Int) + 1, h2) = j54 (roundP P s (cN P * (y + 1)) 272 - s 272, ((cN P * (y + 1) : Nat) : Int), h3) ∧ RS0 P h3 b (upd1 (roundP P s (cN P * (y + 1))) 272 (s 272)) ∧ Fr b h0 h3 := by
        intro q
        rw [q] at hih
        obtain ⟨h3, w1, w2, w3⟩ := hih h2 r1 r2
        rw [show ((k + 1 : Nat) : Int) = (k : Int) + 1 by omega, show ((x + 1 : Nat) : Int) = (x : Int) + 1 by omega] at w1
        exact ⟨h3, w1, w2, w3⟩
      refine join_exg (fun jj hjj => ?_)
      have hjn : ∀ (a : Int × Hp), jj a = self2 (a.1, (k : Int) + 1, (x : Int) + 1, a.2) := by
        intro a
        rw [hjj, e_add _ _ _ (by omega), e_add _ _ _ (by omega)]
      by_cases b1 : t k ≤ 1
      · rw [b_pos b1, hjn]
        exact quiet (slide_low hv hIt hk b1)
      rw [b_neg b1, e_rdn _ _ _ _ _ (by omega), rk.2.2.2]
      by_cases b2 : t (192 + k) = 0
      · obtain ⟨h4, u1, u2, u3⟩ := k_slideAt (k := k) hv (hb.fr r2 hd) r1 hIt hB hk b2
        rw [hmod] at u1
        rw [b_pos b2, u1, e_cW, e_add _ _ _ (by omega), hjn]
        dsimp only
        obtain ⟨h3, w1, w2, w3⟩ := hih h4 u2 (r2.tr u3)
        rw [show ((k + 1 : Nat) : Int) = (k : Int) + 1 by omega, show ((x + 1 : Nat) : Int) = (x : Int) + 1 by omega] at w1
        rw [show t 272 - s 272 + (slideC P t k 272 - t 272) = slideC P t k 272 - s 272 by omega]
        exact ⟨h3, w1, w2, w3⟩
      · rw [b_neg b2, hjn]
        refine quiet ?_
        unfold slideC
        rw [if_pos (by omega)]
  left
  have hk0 := key FU 0 h2 (by omega) (fu _ (by omega)) (by rw [Nat.add_zero]; exact e4) e5
  have hcell : cN P * (y + 1) ≤ nN P := Nat.mul_le_mul_left _ hy
  rw [Nat.add_zero] at hk0
  unfold g_X3_slide_l47
  dsimp only
  rw [b_neg (by omega), e_cI, e_join]
  obtain ⟨h3, w1, w2, w3⟩ := hk0 (fun a53 => addI (y : Int) 1 fun z58 => self (a53.1, a53.2.1, z58, a53.2.2))
  rw [show ((0 : Nat) : Int) = 0 from rfl] at w1
  rw [w1]
  dsimp only
  rw [e_add _ _ _ (by omega)]
  exact ⟨(_, _, _, h3), ⟨rfl, rfl, by dsimp only; omega, w2, w3⟩, rfl⟩
