/-! TRIALS in the class and in the model: how they begin, what they answer -/
def bg (h : Hp) (p seed : Int) : Nat → Int := upd1 (putP (h 121) p) 288 seed
def bgM (h : Hp) (g : Hp) (p seed : Int) : Nat → Int := fun j => if j < 289 then bg h p seed j else g 122 j
theorem bg_lo {h : Hp} {p seed : Int} {j : Nat} (hj : j < 275) : bg h p seed j = h 121 j := by
  unfold bg
  rw [upd1_ne _ _ _ _ (by omega), putP_out (by omega)]
theorem bg_275 {h : Hp} {p seed : Int} : bg h p seed 275 = p := by
  unfold bg
  rw [upd1_ne _ _ _ _ (by omega), putP_275]
theorem bgM_ag {h g : Hp} {p seed : Int} : Ag 289 (bg h p seed) (bgM h g p seed) := fun j hj => by unfold bgM; rw [if_pos hj]
theorem ag_iv {P : Hp} {B T : Int} {s t : Nat → Int} (h : IV P B T s) (hv : PV P) (e : Ag 289 s t) : IV P B T t := h.cong hv e
theorem iv_bg {h : Hp} {n : Nat} {p seed : Int} (r : Rel n h) (hp : -1 ≤ p ∧ p < h 100 41) (hs : 0 ≤ seed ∧ seed < 2147483648) : IV h 6336 (360 * n) (bg h p seed) :=
  iv_chance (iv_putP r.2.2.2.2.1.1 r.1 hp) r.1 hs
def TF (h g : Hp) : Prop := ∀ p, p < 46 ∨ 58 < p → g p = h p
theorem TE.pm {P Q : Hp} (f : PM P Q) : TE P Q := TE.of (fun p a b => f p ⟨a, b⟩)
theorem TF.rf {h : Hp} : TF h h := fun _ _ => rfl
theorem tf_beach {R : Type} {h g : Hp} {c : Nat} (rb : BchR h c) (f : TF h g) (K : Nat → Option R) : gR g 0 1 [3, 9] K = K c := e_gR g 0 1 c [3, 9] K (by rw [f 0 (by omega)]; exact rb.ref.1) rb.ref.2
theorem tf_sea {R : Type} {h g : Hp} {v : Nat} (rs : SeaR h v) (f : TF h g) (K : Nat → Option R) : gR g 0 3 [15, 20] K = K v := e_gR g 0 3 v [15, 20] K (by rw [f 0 (by omega)]; exact rs.ref.1) rs.ref.2
theorem tf_pb {h g : Hp} {c : Nat} (rb : BchR h c) (f : TF h g) : PB h g c := rb.2.2.1.hp (fun p _ _ => f p (by rcases rb.1 with q | q <;> omega))
theorem tf_ps {h g : Hp} {v : Nat} (rs : SeaR h v) (f : TF h g) : PS h g v := rs.2.2.1.hp (fun p _ _ => f p (by rcases rs.1 with q | q <;> omega))
theorem tf_pl {h g : Hp} (hv : PV h) (rp : PlsR h) (f : TF h g) : ∀ p : Nat, p < (h 100 41).toNat → PL h g p := fun p hp => (rp.2 p hp).hp (fun q _ _ => f q (by omega))
theorem tf_plan {h g : Hp} {x : Int} (rp : PlsR h) (hv : PV h) (f : TF h g) (hx : -1 ≤ x ∧ x < h 100 41) : g_X8_planOrNull x g = some (planRef x) := by
  have h41 := (pv_plan hv).1
  unfold g_X8_planOrNull planRef
  by_cases b : x = -1
  · rw [b_pos (by omega), if_pos b]
  · obtain ⟨p, rfl⟩ := Int.eq_ofNat_of_zero_le (show 0 ≤ x by omega)
    rw [b_neg (by omega), e_gF, f 0 (by omega), rp.1, b_neg (by omega), e_rdQ _ _ _ _ _ (by omega), if_neg b]
    congr 1
theorem tf_start {h g : Hp} {n : Nat} {p seed : Int} (r : Rel n h) (f : TF h g) (hp : -1 ≤ p ∧ p < h 100 41) (hs : 0 ≤ seed ∧ seed < 2147483648) :
    ∃ g', g_X6_start 46 26 p seed g = some g' ∧ TF h g' ∧ RS h g' 47 (bg h p seed) ∧ g' 46 5 = 0 ∧ ∀ m, m < 99 → g' 58 m = -1 := by
  obtain ⟨hv, -, -, -, ⟨hI, hR, -⟩, -⟩ := r
  have hR' : RS h g 26 (h 121) := hR.hp (fun q _ _ => f q (by omega))
  obtain ⟨g1, u1, u2, u3⟩ := k_copyFrom (b := 47) hv (by omega) hI.2.2.2.1 hR'
  obtain ⟨g2, w1, w2, w3⟩ := k_hold (p := p) hv hp u2
  have hc : RS h (set2 g2 47 8 seed) 47 (bg h p seed) := w2.chance hv (iv_putP hI hv hp).2.2.2.1
  unfold g_X6_start
  rw [show 46 + 1 = 47 from rfl, u1, e_cV, w1, e_cV, e_pF, e_cI, e_fill, e_cV, e_cI, e_pF]
  refine ⟨_, rfl, fun q hq => ?_, ?_, ?_, fun m hm => ?_⟩
  · rw [set2_ne q (by omega), fillR_ne (by omega), set2_ne q (by omega), w3 q (by omega), u3 q (by omega), f q hq]
  · exact hc.fr (fun q _ _ => by rw [set2_ne q (by omega), fillR_ne (by omega)])
  · rw [set2_same]
  · rw [set2_np _ _ _ _ _ _ (by omega), show 46 + 12 = 58 from rfl, fillR_in hm]
/-- a flag's cell and floor -/
def fc (h : Hp) (k : Nat) : Nat := (h 106 k).toNat
def ffl (h : Hp) (k : Nat) : Int := if h 121 (264 + k) = -1 then h 121 (260 + k) - h 102 4 else 2147483647
theorem fc_in {h : Hp} {k : Nat} (hv : PV h) (hk : k < (h 100 12).toNat) : h 106 k = (fc h k : Int) ∧ fc h k < nN h := by
  have := (pv_flags hv).2.1 k hk
  unfold fc
  omega
theorem fc_row {h : Hp} {n k : Nat} (r : Rel n h) (hk : k < (h 100 12).toNat) : h 121 (256 + k) = (fc h k : Int) ∧ h 121 (260 + k) = h 102 0 + h 104 (fc h k) ∧ h 26 7 = h 121 275 := by
  obtain ⟨hv, -, -, -, ⟨hI, hR, -⟩, -⟩ := r
  have := hR.1.2.2.1.2 k hk
  exact ⟨by rw [this.2.1]; exact (fc_in hv hk).1, this.2.2, hR.1.2.2.2.1.1⟩
theorem k_watch {g : Hp} {W : Nat} {x fl : Int} (hW : W < 2) (h5 : g 46 5 = (W : Int)) : g_X6_watch 46 x fl g = some (set2 (set2 (set2 g 56 W x) 57 W fl) 46 5 ((W : Int) + 1)) := by
  unfold g_X6_watch
  (rw [e_gF, h5, e_cI, e_join]; (try dsimp only); rw [b_neg (by omega), e_gF, h5, e_wrn _ _ _ _ _ _ (by omega), e_gF, set2_np _ _ _ _ _ _ (by omega), h5, e_wrn _ _ _ _ _ _ (by omega), e_gF, set2_np _ _ _ _ _ _ (by omega), set2_np _ _ _ _ _ _ (by omega), h5, e_cI, e_add _ _ _ (by omega), e_pF])
theorem tf_watchFlag {h g : Hp} {n W k : Nat} {c : Nat} {p seed : Int} (r : Rel n h) (rb : BchR h c) (f : TF h g) (hR : RS h g 47 (bg h p seed)) (hk : k < (h 100 12).toNat) (hW : W < 2) (h5 : g 46 5 = (W : Int)) :
    g_X6_watchFlag 46 c (k : Int) g = some (set2 (set2 (set2 g 56 W (fc h k : Int)) 57 W (ffl h k)) 46 5 ((W : Int) + 1)) := by
  have hv := r.1
  have hN := hv.n
  obtain ⟨q1, q2⟩ := fc_in hv hk
  obtain ⟨q3, q4, -⟩ := fc_row r hk
  have h12 := (pv_flags hv).1
  have hhp := (pv_flags hv).2.2 (fc h k) (by omega)
  have pb := tf_pb rb f
  have e4 := pb.2.2.2.1 k hk
  have e5 := (hR.1.2.2.1.2 k hk).1
  rw [bg_lo (by omega)] at e5
  obtain ⟨-, -, s1, s2, s3, s4, s5, -⟩ := hv
  unfold g_X6_watchFlag
  rw [e_rdn _ _ _ _ _ (by omega), e4, q1, e_rdn _ _ _ _ _ (by omega), show 46 + 6 = 47 + 5 from rfl, e5, e_cI]
  refine join_gen (fun j5 hj5 => ?_)
  have go : ∀ y, y = ffl h k → (joinF (fun (a7 : Int) => cV (g_X6_watch 46 (fc h k : Int) a7 g) fun h10 => some h10) fun j8 => j8 y) = some (set2 (set2 (set2 g 56 W (fc h k : Int)) 57 W (ffl h k)) 46 5 ((W : Int) + 1)) := by
    intro y hy
    (rw [e_join]; (try dsimp only); rw [hy, k_watch hW h5, e_cV])
  by_cases z : h 121 (264 + k) = -1
  · (rw [b_pos z, e_cI, hj5, e_join]; (try dsimp only); rw [b_pos rfl, k_firstHeight pb r.1 (by omega), e_cP, k_fall pb, e_cP, e_sub _ _ _ (by omega)])
    exact go _ (by unfold ffl; rw [if_pos z, q4])
  · (rw [b_neg z, e_cI, hj5, e_join]; (try dsimp only); rw [b_neg (by decide), e_cI])
    exact go _ (by unfold ffl; rw [if_neg z])
/-- LAST of a flag -/
def valP (h : Hp) (k : Nat) (p seed : Int) (wk : Nat → Int) (n : Nat) : Int := lastP (trS h (fc h k) wk (bg h p seed)) (fc h k) (ffl h k) n
theorem valP_congr {h : Hp} {k : Nat} {p seed : Int} {wk wk2 : Nat → Int} {n : Nat} (e : ∀ m, m < n → wk m = wk2 m) : valP h k p seed wk n = valP h k p seed wk2 n :=
  lastP_congr (fun m hm => by rw [trS_congr m (fun j hj => e j (by omega))])
theorem tf_run1 {h g : Hp} {n M k c v : Nat} {p seed : Int} {wk : Nat → Int} (r : Rel n h) (hn : n ≤ 600) (rb : BchR h c) (rs : SeaR h v) (f : TF h g) (hp : -1 ≤ p ∧ p < h 100 41) (hs : 0 ≤ seed ∧ seed < 2147483648) (hR : RS h g 47 (bg h p seed)) (hk : k < (h 100 12).toNat)
    (h5 : g 46 5 = 1) (h56 : g 56 0 = (fc h k : Int)) (h57 : g 57 0 = ffl h k) (h58 : ∀ m, m < 99 → g 58 m = -1 ∨ (0 ≤ g 58 m ∧ g 58 m ≤ 3)) (hwk : ∀ m, m < 99 → g 58 m = wk m) (hM : 1 ≤ M ∧ M ≤ 99) :
    ∃ g', g_X6_run 46 c v (planRef p) (M : Int) g = some g' ∧ TF h g' ∧ g' 55 0 = valP h k p seed wk M := by
  have hv := r.1
  obtain ⟨-, q2⟩ := fc_in hv hk
  have i0 := iv_bg r hp hs
  obtain ⟨g', u1, u2, -, u4⟩ := k_run (c := c) (v := v) (W := 1) (n := M) (x := fc h k) (cs := fun _ => fc h k) (fl := fun _ => ffl h k) hv (tf_pb rb f) rb.1 (tf_ps rs f) rs.1 (tf_pl hv r.2.2.2.1 f) (by omega) (by omega) i0 hR (by omega) (by rw [h5]; rfl)
    (fun w hw => (by rw [show w = 0 by omega]; exact ⟨h56, q2⟩)) (fun w hw => (by rw [show w = 0 by omega]; exact h57)) q2 (fun _ => rfl) (fun m hm => (h58 m hm).imp id (fun y => ⟨by omega, y⟩)) hM
  rw [bg_275] at u1
  refine ⟨g', u1, fun q hq => by rw [u2 q (by omega), f q hq], ?_⟩
  rw [u4 0 (by omega)]
  exact lastP_congr (fun m hm => by rw [trS_congr m (fun j hj => hwk j (by omega))])
/-! the model's trial -/
theorem m_begin {h g : Hp} {p seed : Int} (e : g 121 = h 121) : g_X9_beginTrial p seed g = some (setRow g 122 (bgM h g p seed)) := by
  unfold g_X9_beginTrial
  rw [e_cI]
  refine join_gen (fun j3 hj3 => ?_)
  refine loopF_for' 289 (fun i => ((i : Int), setRow g 122 (fun j => if j < i then h 121 j else g 122 j))) ?_ ?_ ?_ (fu _ (by omega))
  · intro i hi self
    unfold g_X9_beginTrial_l9
    dsimp only
    rw [e_cI, b_neg (by omega), e_rdn _ _ _ _ _ (by omega), setRow_ne _ _ _ _ (by omega), e, e_wrR _ _ _ _ _ _ (by omega), setRow_same, setRow_setRow, e_add _ _ _ (by omega), Int.toNat_natCast, show ((i + 1 : Nat) : Int) = (i : Int) + 1 by omega]
    congr 1
    refine Prod.ext rfl ?_
    dsimp only
    congr 1
    funext j
    unfold upd1
    try dsimp only
    by_cases z : j = i
    · rw [if_pos z, if_pos (by omega), z]
    · rw [if_neg z]
      by_cases z2 : j < i
      · rw [if_pos z2, if_pos (by omega)]
      · rw [if_neg z2, if_neg (by omega)]
  · intro self
    unfold g_X9_beginTrial_l9
    dsimp only
    rw [e_cI, b_pos (by omega), hj3, e_cI, e_wrR _ _ _ _ _ _ (by omega), setRow_same, setRow_setRow, m_putPlan, e_cV]
    congr 2
    funext j
    unfold bgM bg putP upd1
    simp only [Int.reduceToNat]
    by_cases z5 : j = 275
    · rw [if_pos z5, if_pos (by omega), if_neg (by omega), if_pos z5]
    rw [if_neg z5]
    by_cases z6 : 276 ≤ j ∧ j < 288
    · rw [if_pos z6, if_pos (by omega), if_neg (by omega), if_neg z5, if_pos z6]
    rw [if_neg z6]
    by_cases z8 : j = 288
    · rw [if_pos z8, if_pos (by omega), if_pos z8]
    rw [if_neg z8]
    by_cases z9 : j < 289
    · rw [if_pos z9, if_pos z9, if_neg z8, if_neg z5, if_neg z6]
    · rw [if_neg z9, if_neg z9]
  · refine Prod.ext rfl ?_
    dsimp only
    have : (fun j => if j < 0 then h 121 j else g 122 j) = g 122 := by funext j; rw [if_neg (by omega)]
    rw [this, setRow_self]
theorem m_lastOf {g : Hp} {s : Nat → Int} {k M : Nat} {T : Int} (hk : k < 4) (h1 : -1 ≤ s (264 + k) ∧ s (264 + k) ≤ T + 100) (h2 : 0 ≤ g 121 270 ∧ g 121 270 ≤ T) (hT : T ≤ 1000000) :
    g_X9_lastOf (k : Int) (M : Int) (setRow g 122 s) = some (if s (264 + k) = -1 then (M : Int) else if 0 < s (264 + k) - g 121 270 then s (264 + k) - g 121 270 else 0) := by
  unfold g_X9_lastOf
  rw [e_cI, e_add _ _ _ (by omega), show (264 : Int) + (k : Int) = ((264 + k : Nat) : Int) by omega, e_rdn _ _ _ _ _ (by omega), setRow_same, e_cI]
  by_cases z : s (264 + k) = -1
  · rw [b_pos z, if_pos z]
  · rw [b_neg z, if_neg z, e_cI, e_cI, e_add _ _ _ (by omega), show (264 : Int) + (k : Int) = ((264 + k : Nat) : Int) by omega, e_rdn _ _ _ _ _ (by omega), setRow_same, e_cI, e_rd _ _ _ _ _ (by omega), setRow_ne _ _ _ _ (by omega), show (270 : Int).toNat = 270 from rfl, e_sub _ _ _ (by omega), e_max]
/-- what the model's LAST is, behind its minutes -/
theorem m_lastV {h g : Hp} {n k M : Nat} {p seed : Int} {wk : Nat → Int} (r : Rel n h) (hn : n ≤ 600) (e : g 121 = h 121) (hp : -1 ≤ p ∧ p < h 100 41) (hs : 0 ≤ seed ∧ seed < 2147483648) (hk : k < (h 100 12).toNat) (hM : 1 ≤ M ∧ M ≤ 99) (g2 : Hp) :
    g_X9_lastOf (k : Int) (M : Int) (setRow g 122 (trS h (fc h k) wk (bgM h g2 p seed) M)) = some (valP h k p seed wk M) := by
  have hv := r.1
  have hN := hv.n
  have h12 := (pv_flags hv).1
  have r4 := r.2.2.2.2.1
  have i0 := iv_bg r hp hs
  have i1 := ag_iv i0 hv (bgM_ag (g := g2))
  obtain ⟨q1, q2⟩ := fc_in hv hk
  have eM : (bgM h g2 p seed) 268 = h 100 12 := by rw [bgM_ag 268 (by omega), bg_lo (by omega)]; exact r4.2.2
  have lo : ∀ j, j < 275 → bgM h g2 p seed j = h 121 j := fun j hj => by rw [bgM_ag j (by omega), bg_lo hj]
  have iM := iv_trS (x := fc h k) (wk := wk) i1 hv q2 M
  have f1 := iM.2.2.1
  have m1 := trS_far (x := fc h k) (wk := wk) (j := 268) i1 hv q2 (by omega) M
  have fk := (f1.2.2 k (by rw [m1, eM]; exact hk)).2.2
  have h270 := r4.1.2.2.1.1
  rw [m_lastOf (T := 360 * (n : Int)) (by omega) ⟨fk.1, by have := f1.1; omega⟩ (by rw [e]; exact h270) (by omega), e]
  have := last_eq (wk := wk) (n := M) hv i1 q2 (by omega) (by rw [eM]; exact hk) (c := fc h k) (fl := ffl h k) (by rw [lo _ (by omega)]; exact (fc_row r hk).1) (by unfold ffl; rw [lo _ (by omega), lo _ (by omega)]) hM.1
  rw [lo 270 (by omega)] at this
  rw [this]
  congr 1
  exact lastP_congr (fun m hm => ag_trS (by omega) hv (Or.inr (Nat.le_refl _)) i0 q2 bgM_ag m _ (by omega))
theorem m_min1 {h g : Hp} {n x m : Nat} {p seed : Int} (r : Rel n h) (hn : n ≤ 600) (hg : PM h g) (hp : -1 ≤ p ∧ p < h 100 41) (hs : 0 ≤ seed ∧ seed < 2147483648) (hx : x < nN h) (hm : m < 99) (g2 : Hp) :
    g_X9_minute 122 (setRow g 122 (trS h x (fun _ => -1) (bgM h g2 p seed) m)) = some (setRow g 122 (trS h x (fun _ => -1) (bgM h g2 p seed) (m + 1))) := by
  have hv := r.1
  have i1 := ag_iv (iv_bg r hp hs) hv (bgM_ag (g := g2))
  rw [m_minute hg hv (by omega) (by omega) (by omega) (iv_trS i1 hv hx m)]
  show _ = some (setRow g 122 (minuteP h (workP h x (-1) _)))
  rw [workP_no]
theorem m_works {h g : Hp} {B T w : Int} {k x : Nat} {s : Nat → Int} (hv : PV h) (hg : PM h g) (hI : IV h B T s) (hB : B ≤ 10000) (hk : k < 4) (hx : x < nN h) (e : g 121 (256 + k) = (x : Int)) (hw : 0 ≤ w ∧ w ≤ 3) :
    g_X9_works w (k : Int) (setRow g 122 s) = some (setRow g 122 (workP h x w s)) := by
  have hN := hv.n
  obtain ⟨c10, c11, c1, c2, -, -⟩ := hv.cr
  have g10 : ∀ s : Nat → Int, setRow g 122 s 100 10 = (cN h : Int) := fun s => by rw [setRow_ne _ _ _ _ (by omega), hg 100 (by omega), c10]
  have g11 : ∀ s : Nat → Int, setRow g 122 s 100 11 = (rN h : Int) := fun s => by rw [setRow_ne _ _ _ _ (by omega), hg 100 (by omega), c11]
  have hnn := PV.nn (P := h)
  have cell : ∀ j : Nat, j < nN h → (0 ≤ s j ∧ s j ≤ 10000) ∧ (0 ≤ s (64 + j) ∧ s (64 + j) ≤ 16) ∧ (0 ≤ s (128 + j) ∧ s (128 + j) ≤ 4) := fun j hj => by
    have := hI.1 j hj
    have := hI.le hj
    omega
  unfold g_X9_works workP
  rw [e_cI, e_add _ _ _ (by omega), show (256 : Int) + (k : Int) = ((256 + k : Nat) : Int) by omega, e_rdn _ _ _ _ _ (by omega), setRow_ne _ _ _ _ (by omega), e, e_gF, g10]
  refine join_gen (fun j6 hj6 => ?_)
  have go : ∀ a5 : Int, a5 = (if (x : Int) < (cN h : Int) then 0 else 1) → j6 a5 = some (setRow g 122 (if w = 3 then doesP s 2 x 0 else if w = 2 then (if x + cN h < nN h then doesP s 0 (x + cN h) x else s) else if w = 1 then (if cN h ≤ x then doesP s 0 (x - cN h) x else s) else if w = 0 then (if cN h ≤ x then doesP s 3 (x - cN h) 0 else s) else s)) := by
    intro a5 ha5
    rw [hj6, e_gF, g10, e_add _ _ _ (by omega), e_gF, g10, e_gF, g11, e_mul _ _ _ (by rw [hnn]; omega), hnn]
    refine join_gen (fun j14 hj14 => ?_)
    have go2 : ∀ a13 : Int, a13 = (if (nN h : Int) ≤ (x : Int) + (cN h : Int) then 0 else 1) → j14 a13 = some (setRow g 122 (if w = 3 then doesP s 2 x 0 else if w = 2 then (if x + cN h < nN h then doesP s 0 (x + cN h) x else s) else if w = 1 then (if cN h ≤ x then doesP s 0 (x - cN h) x else s) else if w = 0 then (if cN h ≤ x then doesP s 3 (x - cN h) 0 else s) else s)) := by
      intro a13 ha13
      rw [hj14]
      refine join_gen (fun j17 hj17 => ?_)
      rcases (by omega : w = 0 ∨ w = 1 ∨ w = 2 ∨ w = 3) with rfl | rfl | rfl | rfl
      · rw [if_neg (show ¬ (0 : Int) = 3 by decide), if_neg (show ¬ (0 : Int) = 2 by decide), if_neg (show ¬ (0 : Int) = 1 by decide), if_pos (show (0 : Int) = 0 from rfl), if_pos (show (0 : Int) = 0 from rfl)]
        have tail : ∀ a : Hp, j17 a = some a := by
          intro a
          (rw [hj17, e_cI, e_join]; (try dsimp only); rw [b_neg (by decide), e_cI, e_join]; (try dsimp only); rw [b_neg (by decide), e_cI, e_join]; (try dsimp only); rw [b_neg (by decide)])
        by_cases z : (x : Int) < (cN h : Int)
        · rw [ha5, if_pos z, if_pos rfl, tail, if_neg (by omega)]
        · have hd := m_does (h := g) (q := 122) (s := s) (k := 3) (c := (x : Int) - (cN h : Int)) (t := -1) (by omega) (fun _ => by omega) (fun y => absurd y (by decide)) (fun j hj => cell j (by omega))
          rw [show ((x : Int) - (cN h : Int)).toNat = x - cN h by omega] at hd
          rw [ha5, if_neg z, if_neg (by decide), e_cI, e_gF, g10, e_sub _ _ _ (by omega), e_cI, hd, e_cV, tail, if_pos (by omega)]
          rfl
      · rw [if_neg (show ¬ (1 : Int) = 3 by decide), if_neg (show ¬ (1 : Int) = 2 by decide), if_pos (show (1 : Int) = 1 from rfl), if_neg (show ¬ (1 : Int) = 0 by decide), hj17, e_cI]
        refine join_gen (fun j21 hj21 => ?_)
        have tail : ∀ a : Hp, j21 a = some a := by
          intro a
          (rw [hj21, e_cI, e_join]; (try dsimp only); rw [b_neg (by decide), e_cI, e_join]; (try dsimp only); rw [b_neg (by decide)])
        rw [if_pos (show (1 : Int) = 1 from rfl)]
        by_cases z : (x : Int) < (cN h : Int)
        · rw [ha5, if_pos z, if_pos rfl, tail, if_neg (by omega)]
        · have hd := m_does (h := g) (q := 122) (s := s) (k := 0) (c := (x : Int) - (cN h : Int)) (t := (x : Int)) (by omega) (fun _ => by omega) (fun _ => by omega) (fun j hj => cell j (by omega))
          rw [show ((x : Int) - (cN h : Int)).toNat = x - cN h by omega, Int.toNat_natCast] at hd
          rw [ha5, if_neg z, if_neg (by decide), e_cI, e_gF, g10, e_sub _ _ _ (by omega), hd, e_cV, tail, if_pos (by omega)]
      · (rw [if_neg (show ¬ (2 : Int) = 3 by decide), if_pos (show (2 : Int) = 2 from rfl), if_neg (show ¬ (2 : Int) = 0 by decide), hj17, e_cI, e_join]; (try dsimp only); rw [b_neg (by decide), e_cI])
        refine join_gen (fun j25 hj25 => ?_)
        have tail : ∀ a : Hp, j25 a = some a := by
          intro a
          (rw [hj25, e_cI, e_join]; (try dsimp only); rw [b_neg (by decide)])
        rw [if_pos (show (2 : Int) = 2 from rfl)]
        by_cases z : (nN h : Int) ≤ (x : Int) + (cN h : Int)
        · rw [ha13, if_pos z, if_pos rfl, tail, if_neg (by omega)]
        · have hd := m_does (h := g) (q := 122) (s := s) (k := 0) (c := (x : Int) + (cN h : Int)) (t := (x : Int)) (by omega) (fun _ => by omega) (fun _ => by omega) (fun j hj => cell j (by omega))
          rw [show ((x : Int) + (cN h : Int)).toNat = x + cN h by omega, Int.toNat_natCast] at hd
          rw [ha13, if_neg z, if_neg (by decide), e_cI, e_gF, g10, e_add _ _ _ (by omega), hd, e_cV, tail, if_pos (by omega)]
      · have hd := m_does (h := g) (q := 122) (s := s) (k := 2) (c := (x : Int)) (t := -1) (by omega) (fun _ => by omega) (fun y => absurd y (by decide)) (fun j hj => cell j (by omega))
        rw [Int.toNat_natCast] at hd
        (rw [if_pos (show (3 : Int) = 3 from rfl), if_neg (show ¬ (3 : Int) = 0 by decide), hj17, e_cI, e_join]; (try dsimp only); rw [b_neg (by decide), e_cI, e_join]; (try dsimp only); rw [b_neg (by decide), e_cI])
        refine join_gen (fun j29 hj29 => ?_)
        rw [if_pos (show (3 : Int) = 3 from rfl), e_cI, e_cI, hd, e_cV, hj29]
        rfl
    by_cases z : (nN h : Int) ≤ (x : Int) + (cN h : Int)
    · rw [b_pos z, e_cI, go2 _ (by rw [if_pos z])]
    · rw [b_neg z, e_cI, go2 _ (by rw [if_neg z])]
  by_cases z : (x : Int) < (cN h : Int)
  · rw [b_pos z, e_cI, go _ (by rw [if_pos z])]
  · rw [b_neg z, e_cI, go _ (by rw [if_neg z])]
theorem m_fin1 {h g : Hp} {n x m : Nat} {seed : Int} {wk : Nat → Int} {s2 : Nat → Int} (r : Rel n h) (hn : n ≤ 600) (hg : PM h g) (hs : 0 ≤ seed ∧ seed < 2147483648) (hx : x < nN h) (hm : m < 99) (g2 : Hp) (e : s2 = workP h x (wk m) (trS h x wk (bgM h g2 (-1) seed) m)) :
    g_X9_finish 122 (setRow g 122 s2) = some (setRow g 122 (trS h x wk (bgM h g2 (-1) seed) (m + 1))) := by
  have hv := r.1
  have h41 := (pv_plan hv).1
  have i0 := ag_iv (iv_bg r (p := -1) (by omega) hs) hv (bgM_ag (g := g2))
  have i1 := iv_workP (w := wk m) (iv_trS (wk := wk) i0 hv hx m) hv hx
  rw [← e] at i1
  rw [m_finish hg hv (by omega) (by omega) (by omega) i1]
  show _ = some (setRow g 122 (minuteP h (workP h x (wk m) (trS h x wk (bgM h g2 (-1) seed) m))))
  rw [← e]
  unfold minuteP handsP
  rw [if_pos]
  rw [e, workP_far hv hx (by omega), trS_far i0 hv hx (by omega), bgM_ag 275 (by omega), bg_275]
